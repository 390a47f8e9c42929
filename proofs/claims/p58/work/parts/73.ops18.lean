/-! the class's calls: row, factor, factors -/
theorem lsN_ne {k : Nat} {x : Pl k} {r : Nat} (hr : dg x = (r : Int)) (h1 : 1 ≤ r) (h4 : r ≤ 4) : svN x (lsN x) (trN k (dg x) ((lsN x : Nat) : Int)) ≠ 0 := by
  have q := svN_top (k := k) hr h1
  have q2 : svN x r (trN k (dg x) ((r : Nat) : Int)) ≠ 0 := by rw [q.1, q.2]; decide
  unfold lsN
  by_cases c1 : svN x 1 (trN k (dg x) ((1 : Nat) : Int)) ≠ 0
  · rw [if_pos c1]; exact c1
  rw [if_neg c1]
  by_cases c2 : svN x 2 (trN k (dg x) ((2 : Nat) : Int)) ≠ 0
  · rw [if_pos c2]; exact c2
  rw [if_neg c2]
  by_cases c3 : svN x 3 (trN k (dg x) ((3 : Nat) : Int)) ≠ 0
  · rw [if_pos c3]; exact c3
  rw [if_neg c3]
  rcases (show r = 1 ∨ r = 2 ∨ r = 3 ∨ r = 4 by omega) with e | e | e | e
  · rw [e] at q2; exact absurd q2 c1
  · rw [e] at q2; exact absurd q2 c2
  · rw [e] at q2; exact absurd q2 c3
  · rw [e] at q2; exact q2
theorem sp_all {k : Nat} {x : Pl k} (hb : Bd x 17) (h0 : 0 ≤ dg x) (h4 : dg x ≤ 4) : ∀ n : Nat, (∀ j : Nat, j < n → 0 < dg (spR x j)) → (∃ r : Nat, IsDg (spR x n) (r : Int) ∧ r + n ≤ 4) ∧ ∀ j : Nat, j < n → ∃ d : Nat, (1 ≤ d ∧ d ≤ 4) ∧ Mn (spF x j) d ∧ lsN (spR x j) = d
  | 0, _ => ⟨⟨(dg x).toNat, by
      have e : ((dg x).toNat : Int) = dg x := by omega
      rw [e]
      exact dg_is (hb.mono (by decide)), by omega⟩, fun j hj => by omega⟩
  | n + 1, h => by
    obtain ⟨⟨r, hr, hrn⟩, hf⟩ := sp_all hb h0 h4 n (fun j hj => h j (by omega))
    have b : Bd (spR x n) 17 := (Bd_is hr).mono (by omega)
    have er := dg_eq17 b hr
    have hp := h n (by omega)
    have hl := lsN_ne er (by omega) (by omega)
    have hs := sp_step hr (by omega) hl rfl
    refine ⟨⟨_, hs.1, by have := hs.2.1; omega⟩, fun j hj => ?_⟩
    by_cases q : j = n
    · rw [q]; exact ⟨_, ⟨hs.2.1.1, by have := hs.2.1; omega⟩, hs.2.2, rfl⟩
    · exact hf j (by omega)
/-- how many factors there are -/
noncomputable def spC {k : Nat} (x : Pl k) : Nat := Classical.epsilon fun c => (∀ j : Nat, j < c → 0 < dg (spR x j)) ∧ dg (spR x c) ≤ 0
theorem spC_eq {k : Nat} {x : Pl k} {c : Nat} (h : ∀ j : Nat, j < c → 0 < dg (spR x j)) (h2 : dg (spR x c) ≤ 0) : spC x = c := by
  have h3 := Classical.epsilon_spec (p := fun c => (∀ j : Nat, j < c → 0 < dg (spR x j)) ∧ dg (spR x c) ≤ 0) ⟨c, h, h2⟩
  change (∀ j : Nat, j < spC x → 0 < dg (spR x j)) ∧ dg (spR x (spC x)) ≤ 0 at h3
  rcases Nat.lt_trichotomy (spC x) c with q | q | q
  · have := h _ q
    have := h3.2
    omega
  · exact q
  · have := h3.1 _ q
    omega
noncomputable def facG {k : Nat} (x : Pl k) (c : Nat) : Nat → Int
  | 0 => ((ld x).val : Int)
  | m + 1 => dg (spF x (c - (m + 1)))
theorem facG_at {k : Nat} {x : Pl k} {c a b : Nat} (h1 : 1 ≤ a) (h : b + a = c) : facG x c a = dg (spF x b) := by
  cases a with
  | zero => omega
  | succ m =>
    show dg (spF x (c - (m + 1))) = _
    rw [show c - (m + 1) = b by omega]
set_option maxRecDepth 100000 in
theorem o_row {d : Nat} {M : Mem} {k : Nat} {pl : Nat → Pl k} {n : Int} {tx : Int → Int} {rc : Nat} {rw : Int → Int} {fc : Nat} {fa : Nat → Pl k} (H : CLS M k pl n tx rc rw fc fa) (j : Nat) (hj : j < rc) : Ct 198 (d + 8) 187 [(1, 0), (0, (j : Int))] M (fun r_ M' => r_ = (2, rw (j : Int)) ∧ M' = M) := by
  have hK : cd 187 = k187 := rfl
  obtain ⟨P, u_, l_, z_, C, E, hpl, T, hR, hF⟩ := H
  have q1_ := qq_I k
  have p1_ := pp_I k
  have m1_ := mm_I k
  have rc_ := hR.2.1
  show Wp 198 _ 187 0 [(1, 0), (0, (j : Int))] [] M _
  refine w_il hK rfl rfl ?_
  refine w_lt hK rfl (by omega) (by omega) (fun h1 => ?_) (fun h1 => ?_)
  · exfalso; omega
  · refine w_il hK rfl rfl ?_
    refine w_al hK rfl rfl ?_
    refine w_geti (n := 11) (m := 11) hK rfl rfl (by decide) (by decide) rfl rfl rfl rfl ?_
    rw [show M 0 11 = (rc : Int) from hR.1]
    refine w_ge2 hK rfl (by omega) (by omega) (by omega) (by omega) (fun h5 => ?_) (fun h5 => ?_)
    · exfalso; omega
    · refine w_il hK rfl rfl ?_
      refine w_al hK rfl rfl ?_
      refine w_getr (n := 10) (v := 144) hK rfl rfl (by decide) (by decide) rfl rfl rfl rfl ?_
      refine w_len hK rfl rfl (by decide) (by decide) rfl ?_
      refine w_lt2 hK rfl (by omega) (by omega) (by omega) (by omega) (fun h10 => ?_) (fun h10 => ?_)
      · refine w_al hK rfl rfl ?_
        refine w_getr (n := 10) (v := 144) hK rfl rfl (by decide) (by decide) rfl rfl rfl rfl ?_
        refine w_il hK rfl rfl ?_
        refine w_la hK rfl rfl (by decide) (by decide) (by omega) (by omega) ?_
        refine w_lret hK rfl rfl ?_
        exact ⟨congrArg (Prod.mk 2) (hR.2.2 j hj), rfl⟩
      · exfalso; omega
set_option maxRecDepth 100000 in
theorem n_row {d : Nat} {M : Mem} {k : Nat} {pl : Nat → Pl k} {n : Int} {tx : Int → Int} {rc : Nat} {rw : Int → Int} {fc : Nat} {fa : Nat → Pl k} (H : CLS M k pl n tx rc rw fc fa) (j : Int) (j1_ : -2147483648 ≤ j) (j2_ : j ≤ 2147483647) (hj : j < 0 ∨ (rc : Int) ≤ j) : Ct 198 (d + 8) 187 [(1, 0), (0, j)] M (fun r_ M' => r_ = (9, 0) ∧ M' = M) := by
  have hK : cd 187 = k187 := rfl
  obtain ⟨P, u_, l_, z_, C, E, hpl, T, hR, hF⟩ := H
  have q1_ := qq_I k
  have p1_ := pp_I k
  have m1_ := mm_I k
  have rc_ := hR.2.1
  show Wp 198 _ 187 0 [(1, 0), (0, j)] [] M _
  refine w_il hK rfl rfl ?_
  refine w_lt hK rfl (by omega) (by omega) (fun h1 => ?_) (fun h1 => ?_)
  · refine w_throw hK rfl ?_
    exact ⟨rfl, rfl⟩
  · refine w_il hK rfl rfl ?_
    refine w_al hK rfl rfl ?_
    refine w_geti (n := 11) (m := 11) hK rfl rfl (by decide) (by decide) rfl rfl rfl rfl ?_
    rw [show M 0 11 = (rc : Int) from hR.1]
    refine w_ge2 hK rfl (by omega) (by omega) (by omega) (by omega) (fun h5 => ?_) (fun h5 => ?_)
    · refine w_throw hK rfl ?_
      exact ⟨rfl, rfl⟩
    · refine w_il hK rfl rfl ?_
      refine w_al hK rfl rfl ?_
      refine w_getr (n := 10) (v := 144) hK rfl rfl (by decide) (by decide) rfl rfl rfl rfl ?_
      refine w_len hK rfl rfl (by decide) (by decide) rfl ?_
      refine w_lt2 hK rfl (by omega) (by omega) (by omega) (by omega) (fun h10 => ?_) (fun h10 => ?_)
      · exfalso; omega
      · exfalso; omega
set_option maxRecDepth 100000 in
theorem o_factor {d : Nat} {M : Mem} {k : Nat} {pl : Nat → Pl k} {n : Int} {tx : Int → Int} {rc : Nat} {rw : Int → Int} {fc : Nat} {fa : Nat → Pl k} (H : CLS M k pl n tx rc rw fc fa) (a j x : Nat) (hj : a + j = fc) (j1 : 1 ≤ j) (hx : (x : Int) ≤ dg (fa a)) : Ct 198 (d + 8) 186 [(1, 0), (0, (j : Int)), (0, (x : Int))] M (fun r_ M' => r_ = (0, ((fa a x).val : Int)) ∧ M' = M) := by
  have hK : cd 186 = k186 := rfl
  obtain ⟨P, u_, l_, z_, C, E, hpl, T, hR, hF⟩ := H
  have q1_ := qq_I k
  have p1_ := pp_I k
  have m1_ := mm_I k
  have fc_ := hF.2.1
  have hfi_ := (isPD (i := a) (by omega)).2.2
  have hfc_ : isC P (68 + 6 * (a : Int)) (fa a) := ⟨hfi_, (hF.2.2 a (by omega)).1⟩
  have fd_ := C.dI hfc_
  show Wp 198 _ 186 0 [(1, 0), (0, (j : Int)), (0, (x : Int)), (3, 0)] [] M _
  refine w_al hK rfl rfl ?_
  refine w_getr (n := 4) (v := 52) hK rfl rfl (by decide) (by decide) rfl rfl rfl rfl ?_
  refine w_il hK rfl rfl ?_
  refine w_call [(1, 52), (0, (j : Int))] hK rfl rfl rfl rfl (Or.inr ⟨_, _, _, rfl, by decide, (by decide), rfl⟩) (c_facAt (by omega) hF.1 (j : Int) (by omega) (by omega)) ?_
  rintro _ Mq ⟨rfl, e_⟩
  subst Mq
  rw [show (if 1 ≤ (j : Int) ∧ (j : Int) ≤ (fc : Int) then 68 + 6 * ((fc : Int) - (j : Int)) else -1) = 68 + 6 * (a : Int) from by rw [if_pos (by omega)]; omega]
  refine ⟨(by show (1 : Nat) ≠ 9; decide), (?_ : Wp 198 _ 186 4 [(1, 0), (0, (j : Int)), (0, (x : Int)), (3, 0)] [(1, (68 + 6 * (a : Int)))] M _)⟩
  refine w_as [(1, 0), (0, (j : Int)), (0, (x : Int)), (1, (68 + 6 * (a : Int)))] hK rfl rfl rfl ?_
  refine w_al hK rfl rfl ?_
  refine w_null hK rfl (fun h6 => ?_) (fun h6 => ?_)
  · exfalso; omega
  · refine w_il hK rfl rfl ?_
    refine w_lt hK rfl (by omega) (by omega) (fun h8 => ?_) (fun h8 => ?_)
    · exfalso; omega
    · refine w_il hK rfl rfl ?_
      refine w_al hK rfl rfl ?_
      refine w_pt hK rfl hfi_ ?_
      rw [show M (68 + 6 * (a : Int)) 1 = dg (fa a) from C.t hfc_]
      have tI_ := CS.dI C hfc_
      refine w_le2 hK rfl (by omega) (by omega) (by omega) (by omega) (fun h12 => ?_) (fun h12 => ?_)
      · refine w_al hK rfl rfl ?_
        refine w_il hK rfl rfl ?_
        refine w_call [(1, (68 + 6 * (a : Int))), (0, (x : Int))] hK rfl rfl rfl rfl (Or.inr ⟨_, _, _, rfl, hfi_.nn, hfi_.lb, hfi_.o⟩) (c_atN C hfc_ x (by omega)) ?_
        rintro _ Mq ⟨rfl, e_⟩
        subst Mq
        have bv_ := el_I (fa a x)
        refine ⟨by show (0 : Nat) ≠ 9; decide, (?_ : Wp 198 _ 186 20 [(1, 0), (0, (j : Int)), (0, (x : Int)), (1, (68 + 6 * (a : Int)))] [(0, ((fa a x).val : Int))] M _)⟩
        refine w_iret hK rfl rfl ?_
        exact ⟨rfl, rfl⟩
      · exfalso; omega
set_option maxRecDepth 100000 in
theorem m_factor {d : Nat} {M : Mem} {k : Nat} {pl : Nat → Pl k} {n : Int} {tx : Int → Int} {rc : Nat} {rw : Int → Int} {fc : Nat} {fa : Nat → Pl k} (H : CLS M k pl n tx rc rw fc fa) (a j : Nat) (x : Int) (hj : a + j = fc) (j1 : 1 ≤ j) (x1_ : -2147483648 ≤ x) (x2_ : x ≤ 2147483647) (hx : x < 0 ∨ dg (fa a) < x) : Ct 198 (d + 8) 186 [(1, 0), (0, (j : Int)), (0, x)] M (fun r_ M' => r_ = (9, 0) ∧ M' = M) := by
  have hK : cd 186 = k186 := rfl
  obtain ⟨P, u_, l_, z_, C, E, hpl, T, hR, hF⟩ := H
  have q1_ := qq_I k
  have p1_ := pp_I k
  have m1_ := mm_I k
  have fc_ := hF.2.1
  have hfi_ := (isPD (i := a) (by omega)).2.2
  have hfc_ : isC P (68 + 6 * (a : Int)) (fa a) := ⟨hfi_, (hF.2.2 a (by omega)).1⟩
  have fd_ := C.dI hfc_
  show Wp 198 _ 186 0 [(1, 0), (0, (j : Int)), (0, x), (3, 0)] [] M _
  refine w_al hK rfl rfl ?_
  refine w_getr (n := 4) (v := 52) hK rfl rfl (by decide) (by decide) rfl rfl rfl rfl ?_
  refine w_il hK rfl rfl ?_
  refine w_call [(1, 52), (0, (j : Int))] hK rfl rfl rfl rfl (Or.inr ⟨_, _, _, rfl, by decide, (by decide), rfl⟩) (c_facAt (by omega) hF.1 (j : Int) (by omega) (by omega)) ?_
  rintro _ Mq ⟨rfl, e_⟩
  subst Mq
  rw [show (if 1 ≤ (j : Int) ∧ (j : Int) ≤ (fc : Int) then 68 + 6 * ((fc : Int) - (j : Int)) else -1) = 68 + 6 * (a : Int) from by rw [if_pos (by omega)]; omega]
  refine ⟨(by show (1 : Nat) ≠ 9; decide), (?_ : Wp 198 _ 186 4 [(1, 0), (0, (j : Int)), (0, x), (3, 0)] [(1, (68 + 6 * (a : Int)))] M _)⟩
  refine w_as [(1, 0), (0, (j : Int)), (0, x), (1, (68 + 6 * (a : Int)))] hK rfl rfl rfl ?_
  refine w_al hK rfl rfl ?_
  refine w_null hK rfl (fun h6 => ?_) (fun h6 => ?_)
  · exfalso; omega
  · refine w_il hK rfl rfl ?_
    refine w_lt hK rfl (by omega) (by omega) (fun h8 => ?_) (fun h8 => ?_)
    · refine w_throw hK rfl ?_
      exact ⟨rfl, rfl⟩
    · refine w_il hK rfl rfl ?_
      refine w_al hK rfl rfl ?_
      refine w_pt hK rfl hfi_ ?_
      rw [show M (68 + 6 * (a : Int)) 1 = dg (fa a) from C.t hfc_]
      have tI_ := CS.dI C hfc_
      refine w_le2 hK rfl (by omega) (by omega) (by omega) (by omega) (fun h12 => ?_) (fun h12 => ?_)
      · exfalso; omega
      · refine w_throw hK rfl ?_
        exact ⟨rfl, rfl⟩
set_option maxRecDepth 100000 in
theorem n_factor {d : Nat} {M : Mem} {k : Nat} {pl : Nat → Pl k} {n : Int} {tx : Int → Int} {rc : Nat} {rw : Int → Int} {fc : Nat} {fa : Nat → Pl k} (H : CLS M k pl n tx rc rw fc fa) (j x : Int) (j1_ : -2147483648 ≤ j) (j2_ : j ≤ 2147483647) (x1_ : -2147483648 ≤ x) (x2_ : x ≤ 2147483647) (hj : j < 1 ∨ (fc : Int) < j) : Ct 198 (d + 8) 186 [(1, 0), (0, j), (0, x)] M (fun r_ M' => r_ = (9, 0) ∧ M' = M) := by
  have hK : cd 186 = k186 := rfl
  obtain ⟨P, u_, l_, z_, C, E, hpl, T, hR, hF⟩ := H
  have q1_ := qq_I k
  have p1_ := pp_I k
  have m1_ := mm_I k
  have fc_ := hF.2.1
  show Wp 198 _ 186 0 [(1, 0), (0, j), (0, x), (3, 0)] [] M _
  refine w_al hK rfl rfl ?_
  refine w_getr (n := 4) (v := 52) hK rfl rfl (by decide) (by decide) rfl rfl rfl rfl ?_
  refine w_il hK rfl rfl ?_
  refine w_call [(1, 52), (0, j)] hK rfl rfl rfl rfl (Or.inr ⟨_, _, _, rfl, by decide, (by decide), rfl⟩) (c_facAt (by omega) hF.1 j (by omega) (by omega)) ?_
  rintro _ Mq ⟨rfl, e_⟩
  subst Mq
  rw [show (if 1 ≤ j ∧ j ≤ (fc : Int) then 68 + 6 * ((fc : Int) - j) else -1) = -1 from if_neg (by omega)]
  refine ⟨(by show (1 : Nat) ≠ 9; decide), (?_ : Wp 198 _ 186 4 [(1, 0), (0, j), (0, x), (3, 0)] [(1, (-1))] M _)⟩
  refine w_as [(1, 0), (0, j), (0, x), (1, (-1))] hK rfl rfl rfl ?_
  refine w_al hK rfl rfl ?_
  refine w_null hK rfl (fun h6 => ?_) (fun h6 => ?_)
  · refine w_throw hK rfl ?_
    exact ⟨rfl, rfl⟩
  · exfalso; omega
set_option maxRecDepth 100000 in
theorem o_facs {d : Nat} {M : Mem} {k : Nat} {pl : Nat → Pl k} {n : Int} {tx : Int → Int} {rc : Nat} {rw : Int → Int} {fc : Nat} {fa : Nat → Pl k} (H : CLS M k pl n tx rc rw fc fa) (i : Nat) (hi : i < 6) (hi0 : 0 ≤ dg (pl i)) (hi4 : dg (pl i) ≤ 4) : Ct 198 (d + 8) 175 [(1, 0), (0, (i : Int))] M (fun r_ M' => r_ = (0, (spC (pl i) : Int)) ∧ CLS M' k pl n tx (spC (pl i) + 1) (stw (facG (pl i) (spC (pl i))) rw (spC (pl i) + 1)) (spC (pl i)) (spF (pl i)) ∧ (∀ a : Int, (a < 0 ∨ 160 < a) → M' a = M a)) := by
  have hK : cd 175 = k175 := rfl
  obtain ⟨P, u_, l_, z_, C, E, hpl, T, hR, hF⟩ := H
  have q1_ := qq_I k
  have p1_ := pp_I k
  have m1_ := mm_I k
  have bi_ := (hpl i hi).2
  have di_ := dg_lt9 bi_
  show Wp 198 _ 175 0 [(1, 0), (0, (i : Int)), (3, 0), (3, 0), (3, 0), (3, 0), (3, 0)] [] M _
  refine w_al hK rfl rfl ?_
  refine w_il hK rfl rfl ?_
  refine w_call [(1, 0), (0, (i : Int))] hK rfl rfl rfl rfl (Or.inr ⟨_, _, _, rfl, by decide, (by decide), rfl⟩) (c_pl i hi) ?_
  rintro _ Mq ⟨rfl, e_⟩
  subst Mq
  refine ⟨(by show (1 : Nat) ≠ 9; decide), (?_ : Wp 198 _ 175 3 [(1, 0), (0, (i : Int)), (3, 0), (3, 0), (3, 0), (3, 0), (3, 0)] [(1, (149 + 2 * (i : Int)))] M _)⟩
  refine w_as [(1, 0), (0, (i : Int)), (1, (149 + 2 * (i : Int))), (3, 0), (3, 0), (3, 0), (3, 0)] hK rfl rfl rfl ?_
  refine w_al hK rfl rfl ?_
  refine w_nonnull hK rfl (fun h5 => ?_) (fun h5 => ?_)
  · refine w_al hK rfl rfl ?_
    refine w_call [(1, (149 + 2 * (i : Int)))] hK rfl rfl rfl rfl (Or.inl rfl) (c_refus C ⟨(isPP hi), (hpl i hi).1⟩) ?_
    rintro _ Mq ⟨rfl, e_⟩
    subst Mq
    refine ⟨by show (0 : Nat) ≠ 9; decide, (?_ : Wp 198 _ 175 10 [(1, 0), (0, (i : Int)), (1, (149 + 2 * (i : Int))), (3, 0), (3, 0), (3, 0), (3, 0)] [(0, (if dg (pl i) < 0 then -2 else if 4 < dg (pl i) then -3 else 0))] M _)⟩
    have rI_ : (if dg (pl i) < 0 then -2 else if 4 < dg (pl i) then -3 else 0) = (0 : Int) := by rw [if_neg (by omega), if_neg (by omega)]
    refine w_is [(1, 0), (0, (i : Int)), (1, (149 + 2 * (i : Int))), (0, (if dg (pl i) < 0 then -2 else if 4 < dg (pl i) then -3 else 0)), (3, 0), (3, 0), (3, 0)] hK rfl rfl rfl ?_
    refine w_il hK rfl rfl ?_
    refine w_ge hK rfl (by omega) (by omega) (fun h12 => ?_) (fun h12 => ?_)
    · refine w_al hK rfl rfl ?_
      refine w_call [(1, 0)] hK rfl rfl rfl rfl (Or.inr ⟨_, _, _, rfl, by decide, (by decide), rfl⟩) (c_start0 hR) ?_
      rintro _ V197 ⟨rfl, R197, F197⟩
      refine ⟨by decide, (?_ : Wp 198 _ 175 17 [(1, 0), (0, (i : Int)), (1, (149 + 2 * (i : Int))), (0, (if dg (pl i) < 0 then -2 else if 4 < dg (pl i) then -3 else 0)), (3, 0), (3, 0), (3, 0)] [] V197 _)⟩
      refine w_al hK rfl rfl ?_
      refine w_al hK rfl rfl ?_
      refine w_call [(1, (149 + 2 * (i : Int)))] hK rfl rfl rfl rfl (Or.inr ⟨_, _, _, rfl, (isPP hi).nn, (isPP hi).lb, (isPP hi).o⟩) (c_ld (CS.congr C (fun a ha_ => F197 a (CSc_ne ha_ (by decide) (notP rfl)))) ⟨(isPP hi), (hpl i hi).1⟩) ?_
      rintro _ Mq ⟨rfl, e_⟩
      subst Mq
      have bv_ := el_I (ld (pl i))
      refine ⟨by show (0 : Nat) ≠ 9; decide, (?_ : Wp 198 _ 175 20 [(1, 0), (0, (i : Int)), (1, (149 + 2 * (i : Int))), (0, (if dg (pl i) < 0 then -2 else if 4 < dg (pl i) then -3 else 0)), (3, 0), (3, 0), (3, 0)] [(0, ((ld (pl i)).val : Int)), (1, 0)] V197 _)⟩
      refine w_i2l hK rfl (by omega) (by omega) ?_
      refine w_call [(1, 0), (2, ((ld (pl i)).val : Int))] hK rfl rfl rfl rfl (Or.inr ⟨_, _, _, rfl, by decide, (by decide), rfl⟩) (c_tell R197 (by omega) ((ld (pl i)).val : Int)) ?_
      rintro _ V198 ⟨rfl, R198, F198⟩
      refine ⟨by decide, (?_ : Wp 198 _ 175 22 [(1, 0), (0, (i : Int)), (1, (149 + 2 * (i : Int))), (0, (if dg (pl i) < 0 then -2 else if 4 < dg (pl i) then -3 else 0)), (3, 0), (3, 0), (3, 0)] [] V198 _)⟩
      refine w_al hK rfl rfl ?_
      refine w_getr (n := 4) (v := 52) hK rfl rfl (by decide) (by decide) rfl rfl rfl rfl ?_
      refine w_al hK rfl rfl ?_
      refine w_call [(1, 52), (1, (149 + 2 * (i : Int)))] hK rfl rfl rfl rfl (Or.inr ⟨_, _, _, rfl, by decide, (by decide), rfl⟩) (c_split (CS.congr (CS.congr C (fun a ha_ => F197 a (CSc_ne ha_ (by decide) (notP rfl)))) (fun a ha_ => F198 a (CSc_ne ha_ (by decide) (notP rfl)) (CSc_ne ha_ (by decide) (notP rfl)))) ⟨(isPP hi), (hpl i hi).1⟩ (by omega) hi0 hi4) ?_
      rintro _ V199 ⟨P199, c1_, rfl, C199, h9_, S199, F199, hc4_, hfa_, hfz_⟩
      refine ⟨(by show (0 : Nat) ≠ 9; decide), (?_ : Wp 198 _ 175 26 [(1, 0), (0, (i : Int)), (1, (149 + 2 * (i : Int))), (0, (if dg (pl i) < 0 then -2 else if 4 < dg (pl i) then -3 else 0)), (3, 0), (3, 0), (3, 0)] [(0, (c1_ : Int))] V199 _)⟩
      refine w_is [(1, 0), (0, (i : Int)), (1, (149 + 2 * (i : Int))), (0, (if dg (pl i) < 0 then -2 else if 4 < dg (pl i) then -3 else 0)), (0, (c1_ : Int)), (3, 0), (3, 0)] hK rfl rfl rfl ?_
      refine w_ic hK rfl ?_
      refine w_is [(1, 0), (0, (i : Int)), (1, (149 + 2 * (i : Int))), (0, (if dg (pl i) < 0 then -2 else if 4 < dg (pl i) then -3 else 0)), (0, (c1_ : Int)), (0, 1), (3, 0)] hK rfl rfl rfl ?_
      have lp29 : ∀ (n_ : Nat) (a : Nat) (w6 : AV) (N29 : Mem), 17 - a = n_ → (1 ≤ a ∧ a ≤ c1_ + 1) → (RWs N29 a (stw (facG (pl i) c1_) rw a)) → ((∀ a : Int, a ≠ 0 → a ≠ 144 → N29 a = V199 a)) → Wp 198 (d + 8) 175 29 [(1, 0), (0, (i : Int)), (1, (149 + 2 * (i : Int))), (0, (if dg (pl i) < 0 then -2 else if 4 < dg (pl i) then -3 else 0)), (0, (c1_ : Int)), (0, (a : Int)), w6] [] N29 (fun r_ M' => r_ = (0, (spC (pl i) : Int)) ∧ CLS M' k pl n tx (spC (pl i) + 1) (stw (facG (pl i) (spC (pl i))) rw (spC (pl i) + 1)) (spC (pl i)) (spF (pl i)) ∧ (∀ a : Int, (a < 0 ∨ 160 < a) → M' a = M a)) := by
        intro n_
        induction n_ using Nat.strongRecOn with
        | _ n_ ih29 =>
        intro a w6 N29 hm29 hj_ hR_ hS
        refine w_il hK rfl rfl ?_
        refine w_il hK rfl rfl ?_
        refine w_gt2 hK rfl (by omega) (by omega) (by omega) (by omega) (fun h31 => ?_) (fun h31 => ?_)
        · refine w_il hK rfl rfl ?_
          refine w_iret hK rfl rfl ?_
          have e_ : a = c1_ + 1 := by omega
          subst a
          have ec_ : spC (pl i) = c1_ := spC_eq (fun q_ hq_ => (hfa_ q_ hq_).2) hfz_
          have hsp_ := sp_all (bi_.mono (show 9 ≤ 17 by decide)) hi0 hi4 c1_ (fun q_ hq_ => (hfa_ q_ hq_).2)
          rw [ec_]
          exact ⟨rfl, ⟨_, u_, l_, z_, (CS.congr C199 (fun a ha_ => hS a (CSc_ne ha_ (by decide) (notP rfl)) (CSc_ne ha_ (by decide) (notP rfl)))), (ES.keep E ((hS 18 (by decide) (by decide)).trans ((S199 18 (notP rfl) (by decide)).trans ((F198 18 (by decide) (by decide)).trans (F197 18 (by decide)))))), (PLs.keep hpl (fun q_ hq_ => (F199 (149 + 2 * (q_ : Int)) (by omega) (by omega) (by omega) (by omega) (by omega) (by omega) (by omega) (by omega)))), (TXs.keep T ((hS 140 (by decide) (by decide)).trans ((S199 140 (notP rfl) (by decide)).trans ((F198 140 (by decide) (by decide)).trans (F197 140 (by decide))))) ((hS 141 (by decide) (by decide)).trans ((S199 141 (notP rfl) (by decide)).trans ((F198 141 (by decide) (by decide)).trans (F197 141 (by decide)))))), hR_, ⟨((congrFun (hS 52 (by decide) (by decide)) 9).trans h9_), hc4_, fun q_ hq_ => ⟨(hfa_ q_ hq_).1, ((hsp_.2 q_ hq_).imp fun d hd => ⟨hd.1.2, hd.2.1.1⟩)⟩⟩⟩, (fun a h_ => ((hS a (by omega) (by omega)).trans ((S199 a (npC h_) (by omega)).trans ((F198 a (by omega) (by omega)).trans (F197 a (by omega))))))⟩
        · refine w_al hK rfl rfl ?_
          refine w_getr (n := 4) (v := 52) hK rfl rfl (by decide) (by decide) rfl rfl rfl rfl ?_
          refine w_il hK rfl rfl ?_
          obtain ⟨b_, eb_⟩ : ∃ b_ : Nat, b_ + a = c1_ := ⟨c1_ - a, by omega⟩
          have hfi_ := (isPD (i := b_) (by omega)).2.2
          refine w_call [(1, 52), (0, (a : Int))] hK rfl rfl rfl rfl (Or.inr ⟨_, _, _, rfl, by decide, (by decide), rfl⟩) (c_facAt (by omega) ((congrFun (hS 52 (by decide) (by decide)) 9).trans h9_) (a : Int) (by omega) (by omega)) ?_
          rintro _ Mq ⟨rfl, e_⟩
          subst Mq
          rw [show (if 1 ≤ (a : Int) ∧ (a : Int) ≤ (c1_ : Int) then 68 + 6 * ((c1_ : Int) - (a : Int)) else -1) = 68 + 6 * (b_ : Int) from by rw [if_pos (by omega)]; omega]
          refine ⟨(by show (1 : Nat) ≠ 9; decide), (?_ : Wp 198 _ 175 36 [(1, 0), (0, (i : Int)), (1, (149 + 2 * (i : Int))), (0, (if dg (pl i) < 0 then -2 else if 4 < dg (pl i) then -3 else 0)), (0, (c1_ : Int)), (0, (a : Int)), w6] [(1, (68 + 6 * (b_ : Int)))] N29 _)⟩
          refine w_as [(1, 0), (0, (i : Int)), (1, (149 + 2 * (i : Int))), (0, (if dg (pl i) < 0 then -2 else if 4 < dg (pl i) then -3 else 0)), (0, (c1_ : Int)), (0, (a : Int)), (1, (68 + 6 * (b_ : Int)))] hK rfl rfl rfl ?_
          refine w_al hK rfl rfl ?_
          refine w_al hK rfl rfl ?_
          refine w_nonnull hK rfl (fun h39 => ?_) (fun h39 => ?_)
          · refine w_al hK rfl rfl ?_
            refine w_pt hK rfl hfi_ ?_
            rw [show N29 (68 + 6 * (b_ : Int)) 1 = dg (spF (pl i) b_) from (CS.congr C199 (fun a ha_ => hS a (CSc_ne ha_ (by decide) (notP rfl)) (CSc_ne ha_ (by decide) (notP rfl)))).t ⟨hfi_, (hfa_ b_ (by omega)).1⟩]
            have tI_ := CS.dI (CS.congr C199 (fun a ha_ => hS a (CSc_ne ha_ (by decide) (notP rfl)) (CSc_ne ha_ (by decide) (notP rfl)))) ⟨hfi_, (hfa_ b_ (by omega)).1⟩
            refine w_i2l hK rfl (by omega) (by omega) ?_
            refine w_call [(1, 0), (2, (dg (spF (pl i) b_)))] hK rfl rfl rfl rfl (Or.inr ⟨_, _, _, rfl, by decide, (by decide), rfl⟩) (c_tell hR_ (by omega) (dg (spF (pl i) b_))) ?_
            rintro _ V200 ⟨rfl, R200, F200⟩
            refine ⟨by decide, (?_ : Wp 198 _ 175 46 [(1, 0), (0, (i : Int)), (1, (149 + 2 * (i : Int))), (0, (if dg (pl i) < 0 then -2 else if 4 < dg (pl i) then -3 else 0)), (0, (c1_ : Int)), (0, (a : Int)), (1, (68 + 6 * (b_ : Int)))] [] V200 _)⟩
            refine w_inc [(1, 0), (0, (i : Int)), (1, (149 + 2 * (i : Int))), (0, (if dg (pl i) < 0 then -2 else if 4 < dg (pl i) then -3 else 0)), (0, (c1_ : Int)), (0, ((a : Int) + 1)), (1, (68 + 6 * (b_ : Int)))] hK rfl rfl rfl (by omega) (by omega) rfl ?_
            refine w_goto hK rfl ?_
            exact ih29 _ (by omega) (a + 1) (1, (68 + 6 * (b_ : Int))) V200 rfl (by omega) (by show RWs _ (a + 1) (upr (stw (facG (pl i) c1_) rw a) (a : Int) (facG (pl i) c1_ a)); rw [facG_at (b := b_) (by omega) (by omega)]; exact R200) (fun a n0_ n144_ => ((F200 a n0_ n144_).trans (hS a n0_ n144_)))
          · exfalso; omega
      exact lp29 _ 1 (3, 0) V199 rfl (by omega) (RWs.keep R198 (S199 0 (notP rfl) (by decide)) (S199 144 (notP rfl) (by decide))) (fun a n0_ n144_ => rfl)
    · exfalso; omega
  · exfalso; omega
