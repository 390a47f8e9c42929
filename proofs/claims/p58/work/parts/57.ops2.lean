/-! the class's calls: polynomials -/
theorem Bd9.of {k : Nat} {f : Pl k} (h : Bd f 17) (hd : dg f ≤ 8) : Bd f 9 := dg_bd (h.mono (by decide)) (by omega)
theorem Bd_adp' {k : Nat} {f g : Pl k} {n : Nat} (h : Bd f n) (h' : Bd g n) : Bd (adp f g) n := fun j hj => by
  show ad (f j) (g j) = z0
  rw [h j hj, h' j hj, ad_zero]
theorem Bd_scl {k : Nat} {f : Pl k} {n : Nat} (c : El k) (h : Bd f n) : Bd (scl c f) n := fun j hj => by
  show ml c (f j) = z0
  rw [h j hj, ml_zero]
theorem Bd_scb {k : Nat} {f : Pl k} {n : Nat} (c : El k) (h : Bd f n) : Bd (scb f c) n := fun j hj => by
  show ml (f j) (sg j c) = z0
  rw [h j hj, zero_ml]
theorem Bd_mon {k : Nat} {f : Pl k} {n : Nat} (s : Int) (h : Bd f n) : Bd (mon s f) n := by
  unfold mon
  split
  · exact Bd_scl _ h
  · exact Bd_scb _ h
theorem Bd_dq9 {k : Nat} (s : Int) {a b : Pl k} (ha : Bd a 9) (hb : Bd b 9) (h : 0 ≤ dg b) : Bd (dq s a b) 9 ∧ Bd (dr s a b) 9 := by
  obtain ⟨q1, q2, q3, q4, q5⟩ := dg_dv s (ha.mono (show 9 ≤ 17 by decide)) (hb.mono (show 9 ≤ 17 by decide)) h
  have h1 := dg_lt9 ha
  have h2 := dg_lt9 hb
  exact ⟨Bd9.of q1 (by omega), Bd9.of q5 (by omega)⟩
/-- what the chain ends with -/
noncomputable def euL {k : Nat} (s : Int) (x y : Pl k) : Pl k × Pl k × Pl k × Pl k × Pl k × Pl k := eu s x y (Classical.epsilon fun n => EuE s x y n)
theorem euL_eq {k : Nat} {s : Int} {x y : Pl k} {n : Nat} (h : EuE s x y n) : euL s x y = eu s x y n := by
  have h2 : EuE s x y (Classical.epsilon fun n => EuE s x y n) := Classical.epsilon_spec (p := fun n => EuE s x y n) ⟨n, h⟩
  unfold euL
  rw [h2.uniq h]
theorem euL_facts {k : Nat} {s : Int} {x y : Pl k} {n : Nat} (hx : Bd x 9) (hy : Bd y 9) (h : EuE s x y n) : dg (euL s x y).2.2.1 ≤ 8 ∧ dg (euL s x y).2.2.2.2.1 ≤ 8 ∧ (euL s x y).2.1 = pz ∧ ((x ≠ pz ∨ y ≠ pz) → 0 ≤ dg (euL s x y).1) := by
  rw [euL_eq h]
  have hB : ∀ j : Nat, j ≤ n → EuB (eu s x y j) := fun j => by
    induction j with
    | zero => exact fun _ => EuB.zero hx hy
    | succ j ih => exact fun hj => (ih (by omega)).step (by
        have h1 := ih (by omega)
        have h2 := h.1 j (by omega)
        have h3 := dg_ge (eu s x y j).2.1
        rcases Int.lt_or_le (dg (eu s x y j).2.1) 0 with q | q
        · exact absurd ((dg_neg (h1.1.2.mono (by decide))).mp q) h2
        · exact q)
  refine ⟨?_, ?_, h.2, fun hne => ?_⟩
  · cases n with
    | zero => show dg (one : Pl k) ≤ 8; rw [dg_one]; decide
    | succ m =>
      have h1 := hB m (by omega)
      show dg (eu s x y m).2.2.2.1 ≤ 8
      cases m with
      | zero => show dg (pz : Pl k) ≤ 8; rw [dg_pz]; decide
      | succ j =>
        have h2 := h.1 j (by omega)
        have h3 : (eu s x y (j + 1)).1 = (eu s x y j).2.1 := rfl
        have h4 : 0 ≤ dg (eu s x y (j + 1)).1 := by
          rcases Int.lt_or_le (dg (eu s x y (j + 1)).1) 0 with q | q
          · exact absurd ((dg_neg (h1.1.1.mono (by decide))).mp q) h2
          · exact q
        have := h1.2.2.1.1
        omega
  · cases n with
    | zero => show dg (pz : Pl k) ≤ 8; rw [dg_pz]; decide
    | succ m =>
      have h1 := hB m (by omega)
      show dg (eu s x y m).2.2.2.2.2 ≤ 8
      cases m with
      | zero => show dg (one : Pl k) ≤ 8; rw [dg_one]; decide
      | succ j =>
        have h2 := h.1 j (by omega)
        have h4 : 0 ≤ dg (eu s x y (j + 1)).1 := by
          rcases Int.lt_or_le (dg (eu s x y (j + 1)).1) 0 with q | q
          · exact absurd ((dg_neg (h1.1.1.mono (by decide))).mp q) h2
          · exact q
        have := h1.2.2.2.1
        omega
  · rcases Int.lt_or_le (dg (eu s x y n).1) 0 with q | q
    · have hz := (dg_neg ((hB n (Nat.le_refl _)).1.1.mono (by decide))).mp q
      cases n with
      | zero =>
        have e1_ : x = pz := hz
        have e2_ : y = pz := h.2
        rcases hne with w | w
        · exact absurd e1_ w
        · exact absurd e2_ w
      | succ m => exact absurd hz (h.1 m (by omega))
    · exact q
set_option maxRecDepth 100000 in
theorem o_degree {d : Nat} {M : Mem} {k : Nat} {pl : Nat → Pl k} {n : Int} {tx : Int → Int} {rc : Nat} {rw : Int → Int} {fc : Nat} {fa : Nat → Pl k} (H : CLS M k pl n tx rc rw fc fa) (i : Nat) (hi : i < 6)  : Ct 198 (d + 8) 138 [(1, 0), (0, (i : Int))] M (fun r_ M' => r_ = (0, (dg (pl i))) ∧ CLS M' k pl n tx rc rw fc fa ∧ (∀ a : Int, (a < 0 ∨ 160 < a) → M' a = M a)) := by
  have hK : cd 138 = k138 := rfl
  obtain ⟨P, u_, l_, z_, C, E, hpl, T, hR, hF⟩ := H
  have q1_ := qq_I k
  have p1_ := pp_I k
  have m1_ := mm_I k
  have bi_ := (hpl i hi).2
  have di_ := dg_lt9 bi_
  show Wp 198 _ 138 0 [(1, 0), (0, (i : Int)), (3, 0)] [] M _
  refine w_al hK rfl rfl ?_
  refine w_il hK rfl rfl ?_
  refine w_call [(1, 0), (0, (i : Int))] hK rfl rfl rfl rfl (Or.inr ⟨_, _, _, rfl, by decide, (by decide), rfl⟩) (c_pl i hi) ?_
  rintro _ Mq ⟨rfl, e_⟩
  subst Mq
  refine ⟨(by show (1 : Nat) ≠ 9; decide), (?_ : Wp 198 _ 138 3 [(1, 0), (0, (i : Int)), (3, 0)] [(1, (149 + 2 * (i : Int)))] M _)⟩
  refine w_as [(1, 0), (0, (i : Int)), (1, (149 + 2 * (i : Int)))] hK rfl rfl rfl ?_
  refine w_al hK rfl rfl ?_
  refine w_nonnull hK rfl (fun h5 => ?_) (fun h5 => ?_)
  · refine w_al hK rfl rfl ?_
    refine w_pt hK rfl (isPP hi) ?_
    rw [show M (149 + 2 * (i : Int)) 1 = dg (pl i) from C.t ⟨(isPP hi), (hpl i hi).1⟩]
    have tI_ := CS.dI C ⟨(isPP hi), (hpl i hi).1⟩
    refine w_iret hK rfl rfl ?_
    exact ⟨rfl, ⟨_, u_, l_, z_, C, E, hpl, T, hR, hF⟩, (fun a h_ => rfl)⟩
  · exfalso; omega
set_option maxRecDepth 100000 in
theorem n_degree {d : Nat} {M : Mem} {k : Nat} {pl : Nat → Pl k} {n : Int} {tx : Int → Int} {rc : Nat} {rw : Int → Int} {fc : Nat} {fa : Nat → Pl k} (H : CLS M k pl n tx rc rw fc fa) (i : Int) (i1_ : -2147483648 ≤ i) (i2_ : i ≤ 2147483647) (hn : ¬ (0 ≤ i ∧ i < 6)) : Ct 198 (d + 8) 138 [(1, 0), (0, i)] M (fun r_ M' => r_ = (0, -2) ∧ M' = M) := by
  have hK : cd 138 = k138 := rfl
  obtain ⟨P, u_, l_, z_, C, E, hpl, T, hR, hF⟩ := H
  have q1_ := qq_I k
  have p1_ := pp_I k
  have m1_ := mm_I k
  show Wp 198 _ 138 0 [(1, 0), (0, i), (3, 0)] [] M _
  refine w_al hK rfl rfl ?_
  refine w_il hK rfl rfl ?_
  refine w_call [(1, 0), (0, i)] hK rfl rfl rfl rfl (Or.inr ⟨_, _, _, rfl, by decide, (by decide), rfl⟩) (c_plI i (by omega) (by omega)) ?_
  rintro _ Mq ⟨rfl, e_⟩
  subst Mq
  have pI_ := plr_I i
  refine ⟨(by show (1 : Nat) ≠ 9; decide), (?_ : Wp 198 _ 138 3 [(1, 0), (0, i), (3, 0)] [(1, (plr i))] M _)⟩
  refine w_as [(1, 0), (0, i), (1, (plr i))] hK rfl rfl rfl ?_
  refine w_al hK rfl rfl ?_
  refine w_nonnull hK rfl (fun h5 => ?_) (fun h5 => ?_)
  · exfalso; omega
  · refine w_ic hK rfl ?_
    refine w_goto hK rfl ?_
    refine w_iret hK rfl rfl ?_
    exact ⟨rfl, rfl⟩
set_option maxRecDepth 100000 in
theorem o_number {d : Nat} {M : Mem} {k : Nat} {pl : Nat → Pl k} {n : Int} {tx : Int → Int} {rc : Nat} {rw : Int → Int} {fc : Nat} {fa : Nat → Pl k} (H : CLS M k pl n tx rc rw fc fa) (i : Nat) (hi : i < 6) (j : Nat) (j8 : j ≤ 8) : Ct 198 (d + 8) 139 [(1, 0), (0, (i : Int)), (0, (j : Int))] M (fun r_ M' => r_ = (0, ((pl i j).val : Int)) ∧ CLS M' k pl n tx rc rw fc fa ∧ (∀ a : Int, (a < 0 ∨ 160 < a) → M' a = M a)) := by
  have hK : cd 139 = k139 := rfl
  obtain ⟨P, u_, l_, z_, C, E, hpl, T, hR, hF⟩ := H
  have q1_ := qq_I k
  have p1_ := pp_I k
  have m1_ := mm_I k
  have bi_ := (hpl i hi).2
  have di_ := dg_lt9 bi_
  show Wp 198 _ 139 0 [(1, 0), (0, (i : Int)), (0, (j : Int)), (3, 0)] [] M _
  refine w_al hK rfl rfl ?_
  refine w_il hK rfl rfl ?_
  refine w_call [(1, 0), (0, (i : Int))] hK rfl rfl rfl rfl (Or.inr ⟨_, _, _, rfl, by decide, (by decide), rfl⟩) (c_pl i hi) ?_
  rintro _ Mq ⟨rfl, e_⟩
  subst Mq
  refine ⟨(by show (1 : Nat) ≠ 9; decide), (?_ : Wp 198 _ 139 3 [(1, 0), (0, (i : Int)), (0, (j : Int)), (3, 0)] [(1, (149 + 2 * (i : Int)))] M _)⟩
  refine w_as [(1, 0), (0, (i : Int)), (0, (j : Int)), (1, (149 + 2 * (i : Int)))] hK rfl rfl rfl ?_
  refine w_al hK rfl rfl ?_
  refine w_null hK rfl (fun h5 => ?_) (fun h5 => ?_)
  · exfalso; omega
  · refine w_il hK rfl rfl ?_
    refine w_lt hK rfl (by omega) (by omega) (fun h7 => ?_) (fun h7 => ?_)
    · exfalso; omega
    · refine w_il hK rfl rfl ?_
      refine w_ic hK rfl ?_
      refine w_le2 hK rfl (by omega) (by omega) (by omega) (by omega) (fun h10 => ?_) (fun h10 => ?_)
      · refine w_al hK rfl rfl ?_
        refine w_il hK rfl rfl ?_
        refine w_call [(1, (149 + 2 * (i : Int))), (0, (j : Int))] hK rfl rfl rfl rfl (Or.inr ⟨_, _, _, rfl, (isPP hi).nn, (isPP hi).lb, (isPP hi).o⟩) (c_atN C ⟨(isPP hi), (hpl i hi).1⟩ j (by omega)) ?_
        rintro _ Mq ⟨rfl, e_⟩
        subst Mq
        have bv_ := el_I (pl i j)
        refine ⟨by show (0 : Nat) ≠ 9; decide, (?_ : Wp 198 _ 139 16 [(1, 0), (0, (i : Int)), (0, (j : Int)), (1, (149 + 2 * (i : Int)))] [(0, ((pl i j).val : Int))] M _)⟩
        refine w_iret hK rfl rfl ?_
        exact ⟨rfl, ⟨_, u_, l_, z_, C, E, hpl, T, hR, hF⟩, (fun a h_ => rfl)⟩
      · exfalso; omega
set_option maxRecDepth 100000 in
theorem n_number {d : Nat} {M : Mem} {k : Nat} {pl : Nat → Pl k} {n : Int} {tx : Int → Int} {rc : Nat} {rw : Int → Int} {fc : Nat} {fa : Nat → Pl k} (H : CLS M k pl n tx rc rw fc fa) (i j : Int) (i1_ : -2147483648 ≤ i) (i2_ : i ≤ 2147483647) (j1_ : -2147483648 ≤ j) (j2_ : j ≤ 2147483647) (hn : ¬ ((0 ≤ i ∧ i < 6) ∧ 0 ≤ j ∧ j ≤ 8)) : Ct 198 (d + 8) 139 [(1, 0), (0, i), (0, j)] M (fun r_ M' => r_ = (0, -1) ∧ M' = M) := by
  have hK : cd 139 = k139 := rfl
  obtain ⟨P, u_, l_, z_, C, E, hpl, T, hR, hF⟩ := H
  have q1_ := qq_I k
  have p1_ := pp_I k
  have m1_ := mm_I k
  show Wp 198 _ 139 0 [(1, 0), (0, i), (0, j), (3, 0)] [] M _
  refine w_al hK rfl rfl ?_
  refine w_il hK rfl rfl ?_
  refine w_call [(1, 0), (0, i)] hK rfl rfl rfl rfl (Or.inr ⟨_, _, _, rfl, by decide, (by decide), rfl⟩) (c_plI i (by omega) (by omega)) ?_
  rintro _ Mq ⟨rfl, e_⟩
  subst Mq
  have pI_ := plr_I i
  refine ⟨(by show (1 : Nat) ≠ 9; decide), (?_ : Wp 198 _ 139 3 [(1, 0), (0, i), (0, j), (3, 0)] [(1, (plr i))] M _)⟩
  refine w_as [(1, 0), (0, i), (0, j), (1, (plr i))] hK rfl rfl rfl ?_
  refine w_al hK rfl rfl ?_
  refine w_null hK rfl (fun h5 => ?_) (fun h5 => ?_)
  · refine w_ic hK rfl ?_
    refine w_goto hK rfl ?_
    refine w_iret hK rfl rfl ?_
    exact ⟨rfl, rfl⟩
  · refine w_il hK rfl rfl ?_
    refine w_lt hK rfl (by omega) (by omega) (fun h7 => ?_) (fun h7 => ?_)
    · refine w_ic hK rfl ?_
      refine w_goto hK rfl ?_
      refine w_iret hK rfl rfl ?_
      exact ⟨rfl, rfl⟩
    · refine w_il hK rfl rfl ?_
      refine w_ic hK rfl ?_
      refine w_le2 hK rfl (by omega) (by omega) (by omega) (by omega) (fun h10 => ?_) (fun h10 => ?_)
      · exfalso; omega
      · refine w_ic hK rfl ?_
        refine w_goto hK rfl ?_
        refine w_iret hK rfl rfl ?_
        exact ⟨rfl, rfl⟩
set_option maxRecDepth 100000 in
theorem o_adds {d : Nat} {M : Mem} {k : Nat} {pl : Nat → Pl k} {n : Int} {tx : Int → Int} {rc : Nat} {rw : Int → Int} {fc : Nat} {fa : Nat → Pl k} (H : CLS M k pl n tx rc rw fc fa) (i : Nat) (hi : i < 6) (j : Nat) (hj : j < 6) (l : Nat) (hl : l < 6)  : Ct 198 (d + 8) 140 [(1, 0), (0, (i : Int)), (0, (j : Int)), (0, (l : Int))] M (fun r_ M' => r_ = (0, (dg (adp (pl i) (pl j)))) ∧ CLS M' k (fup pl l (adp (pl i) (pl j))) n tx rc rw fc fa ∧ (∀ a : Int, (a < 0 ∨ 160 < a) → M' a = M a)) := by
  have hK : cd 140 = k140 := rfl
  obtain ⟨P, u_, l_, z_, C, E, hpl, T, hR, hF⟩ := H
  have q1_ := qq_I k
  have p1_ := pp_I k
  have m1_ := mm_I k
  have bi_ := (hpl i hi).2
  have di_ := dg_lt9 bi_
  have bj_ := (hpl j hj).2
  have dj_ := dg_lt9 bj_
  have bl_ := (hpl l hl).2
  have dl_ := dg_lt9 bl_
  show Wp 198 _ 140 0 [(1, 0), (0, (i : Int)), (0, (j : Int)), (0, (l : Int)), (3, 0), (3, 0), (3, 0)] [] M _
  refine w_al hK rfl rfl ?_
  refine w_il hK rfl rfl ?_
  refine w_call [(1, 0), (0, (i : Int))] hK rfl rfl rfl rfl (Or.inr ⟨_, _, _, rfl, by decide, (by decide), rfl⟩) (c_pl i hi) ?_
  rintro _ Mq ⟨rfl, e_⟩
  subst Mq
  refine ⟨(by show (1 : Nat) ≠ 9; decide), (?_ : Wp 198 _ 140 3 [(1, 0), (0, (i : Int)), (0, (j : Int)), (0, (l : Int)), (3, 0), (3, 0), (3, 0)] [(1, (149 + 2 * (i : Int)))] M _)⟩
  refine w_as [(1, 0), (0, (i : Int)), (0, (j : Int)), (0, (l : Int)), (1, (149 + 2 * (i : Int))), (3, 0), (3, 0)] hK rfl rfl rfl ?_
  refine w_al hK rfl rfl ?_
  refine w_il hK rfl rfl ?_
  refine w_call [(1, 0), (0, (j : Int))] hK rfl rfl rfl rfl (Or.inr ⟨_, _, _, rfl, by decide, (by decide), rfl⟩) (c_pl j hj) ?_
  rintro _ Mq ⟨rfl, e_⟩
  subst Mq
  refine ⟨(by show (1 : Nat) ≠ 9; decide), (?_ : Wp 198 _ 140 7 [(1, 0), (0, (i : Int)), (0, (j : Int)), (0, (l : Int)), (1, (149 + 2 * (i : Int))), (3, 0), (3, 0)] [(1, (149 + 2 * (j : Int)))] M _)⟩
  refine w_as [(1, 0), (0, (i : Int)), (0, (j : Int)), (0, (l : Int)), (1, (149 + 2 * (i : Int))), (1, (149 + 2 * (j : Int))), (3, 0)] hK rfl rfl rfl ?_
  refine w_al hK rfl rfl ?_
  refine w_il hK rfl rfl ?_
  refine w_call [(1, 0), (0, (l : Int))] hK rfl rfl rfl rfl (Or.inr ⟨_, _, _, rfl, by decide, (by decide), rfl⟩) (c_pl l hl) ?_
  rintro _ Mq ⟨rfl, e_⟩
  subst Mq
  refine ⟨(by show (1 : Nat) ≠ 9; decide), (?_ : Wp 198 _ 140 11 [(1, 0), (0, (i : Int)), (0, (j : Int)), (0, (l : Int)), (1, (149 + 2 * (i : Int))), (1, (149 + 2 * (j : Int))), (3, 0)] [(1, (149 + 2 * (l : Int)))] M _)⟩
  refine w_as [(1, 0), (0, (i : Int)), (0, (j : Int)), (0, (l : Int)), (1, (149 + 2 * (i : Int))), (1, (149 + 2 * (j : Int))), (1, (149 + 2 * (l : Int)))] hK rfl rfl rfl ?_
  refine w_al hK rfl rfl ?_
  refine w_null hK rfl (fun h13 => ?_) (fun h13 => ?_)
  · exfalso; omega
  · refine w_al hK rfl rfl ?_
    refine w_null hK rfl (fun h15 => ?_) (fun h15 => ?_)
    · exfalso; omega
    · refine w_al hK rfl rfl ?_
      refine w_nonnull hK rfl (fun h17 => ?_) (fun h17 => ?_)
      · refine w_al hK rfl rfl ?_
        refine w_getr (n := 1) (v := 7) hK rfl rfl (by decide) (by decide) rfl rfl rfl rfl ?_
        refine w_al hK rfl rfl ?_
        refine w_al hK rfl rfl ?_
        refine w_al hK rfl rfl ?_
        refine w_call [(1, 7), (1, (149 + 2 * (i : Int))), (1, (149 + 2 * (j : Int))), (1, (149 + 2 * (l : Int)))] hK rfl rfl rfl rfl (Or.inr ⟨_, _, _, rfl, by decide, (by decide), rfl⟩) (c_rsum C ⟨(isPP hi), (hpl i hi).1⟩ ⟨(isPP hj), (hpl j hj).1⟩ (isPP hl)) ?_
        rintro _ V118 ⟨rfl, C118, S118⟩
        refine ⟨by decide, (?_ : Wp 198 _ 140 26 [(1, 0), (0, (i : Int)), (0, (j : Int)), (0, (l : Int)), (1, (149 + 2 * (i : Int))), (1, (149 + 2 * (j : Int))), (1, (149 + 2 * (l : Int)))] [] V118 _)⟩
        refine w_al hK rfl rfl ?_
        refine w_pt hK rfl (isPP hl) ?_
        rw [show V118 (149 + 2 * (l : Int)) 1 = dg (adp (pl i) (pl j)) from C118.t ⟨(isPP hl), pu_eq⟩]
        have tI_ := CS.dI C118 ⟨(isPP hl), pu_eq⟩
        refine w_iret hK rfl rfl ?_
        exact ⟨rfl, ⟨_, u_, l_, z_, C118, (ES.keep E (S118 18 (notP rfl))), (PLs.put hpl pu_eq (Bd_adp' bi_ bj_) (fun q_ hq_ hn_ => (pu_ne (P := P) (f := adp (pl i) (pl j)) (show (149 + 2 * (q_ : Int)) ≠ (149 + 2 * (l : Int)) by omega)))), (TXs.keep T (S118 140 (notP rfl)) (S118 141 (notP rfl))), (RWs.keep hR (S118 0 (notP rfl)) (S118 144 (notP rfl))), (FCs.keep hF (S118 52 (notP rfl)) (fun q_ hq_ => (pu_ne (P := P) (f := adp (pl i) (pl j)) (show (68 + 6 * (q_ : Int)) ≠ (149 + 2 * (l : Int)) by omega))))⟩, (fun a h_ => (S118 a (npC h_)))⟩
      · exfalso; omega
set_option maxRecDepth 100000 in
theorem n_adds {d : Nat} {M : Mem} {k : Nat} {pl : Nat → Pl k} {n : Int} {tx : Int → Int} {rc : Nat} {rw : Int → Int} {fc : Nat} {fa : Nat → Pl k} (H : CLS M k pl n tx rc rw fc fa) (i j l : Int) (i1_ : -2147483648 ≤ i) (i2_ : i ≤ 2147483647) (j1_ : -2147483648 ≤ j) (j2_ : j ≤ 2147483647) (l1_ : -2147483648 ≤ l) (l2_ : l ≤ 2147483647) (hn : ¬ ((0 ≤ i ∧ i < 6) ∧ (0 ≤ j ∧ j < 6) ∧ (0 ≤ l ∧ l < 6))) : Ct 198 (d + 8) 140 [(1, 0), (0, i), (0, j), (0, l)] M (fun r_ M' => r_ = (0, -2) ∧ M' = M) := by
  have hK : cd 140 = k140 := rfl
  obtain ⟨P, u_, l_, z_, C, E, hpl, T, hR, hF⟩ := H
  have q1_ := qq_I k
  have p1_ := pp_I k
  have m1_ := mm_I k
  show Wp 198 _ 140 0 [(1, 0), (0, i), (0, j), (0, l), (3, 0), (3, 0), (3, 0)] [] M _
  refine w_al hK rfl rfl ?_
  refine w_il hK rfl rfl ?_
  refine w_call [(1, 0), (0, i)] hK rfl rfl rfl rfl (Or.inr ⟨_, _, _, rfl, by decide, (by decide), rfl⟩) (c_plI i (by omega) (by omega)) ?_
  rintro _ Mq ⟨rfl, e_⟩
  subst Mq
  have pI_ := plr_I i
  refine ⟨(by show (1 : Nat) ≠ 9; decide), (?_ : Wp 198 _ 140 3 [(1, 0), (0, i), (0, j), (0, l), (3, 0), (3, 0), (3, 0)] [(1, (plr i))] M _)⟩
  refine w_as [(1, 0), (0, i), (0, j), (0, l), (1, (plr i)), (3, 0), (3, 0)] hK rfl rfl rfl ?_
  refine w_al hK rfl rfl ?_
  refine w_il hK rfl rfl ?_
  refine w_call [(1, 0), (0, j)] hK rfl rfl rfl rfl (Or.inr ⟨_, _, _, rfl, by decide, (by decide), rfl⟩) (c_plI j (by omega) (by omega)) ?_
  rintro _ Mq ⟨rfl, e_⟩
  subst Mq
  have pI_ := plr_I j
  refine ⟨(by show (1 : Nat) ≠ 9; decide), (?_ : Wp 198 _ 140 7 [(1, 0), (0, i), (0, j), (0, l), (1, (plr i)), (3, 0), (3, 0)] [(1, (plr j))] M _)⟩
  refine w_as [(1, 0), (0, i), (0, j), (0, l), (1, (plr i)), (1, (plr j)), (3, 0)] hK rfl rfl rfl ?_
  refine w_al hK rfl rfl ?_
  refine w_il hK rfl rfl ?_
  refine w_call [(1, 0), (0, l)] hK rfl rfl rfl rfl (Or.inr ⟨_, _, _, rfl, by decide, (by decide), rfl⟩) (c_plI l (by omega) (by omega)) ?_
  rintro _ Mq ⟨rfl, e_⟩
  subst Mq
  have pI_ := plr_I l
  refine ⟨(by show (1 : Nat) ≠ 9; decide), (?_ : Wp 198 _ 140 11 [(1, 0), (0, i), (0, j), (0, l), (1, (plr i)), (1, (plr j)), (3, 0)] [(1, (plr l))] M _)⟩
  refine w_as [(1, 0), (0, i), (0, j), (0, l), (1, (plr i)), (1, (plr j)), (1, (plr l))] hK rfl rfl rfl ?_
  refine w_al hK rfl rfl ?_
  refine w_null hK rfl (fun h13 => ?_) (fun h13 => ?_)
  · refine w_ic hK rfl ?_
    refine w_iret hK rfl rfl ?_
    exact ⟨rfl, rfl⟩
  · refine w_al hK rfl rfl ?_
    refine w_null hK rfl (fun h15 => ?_) (fun h15 => ?_)
    · refine w_ic hK rfl ?_
      refine w_iret hK rfl rfl ?_
      exact ⟨rfl, rfl⟩
    · refine w_al hK rfl rfl ?_
      refine w_nonnull hK rfl (fun h17 => ?_) (fun h17 => ?_)
      · exfalso; omega
      · refine w_ic hK rfl ?_
        refine w_iret hK rfl rfl ?_
        exact ⟨rfl, rfl⟩
set_option maxRecDepth 100000 in
theorem o_takes {d : Nat} {M : Mem} {k : Nat} {pl : Nat → Pl k} {n : Int} {tx : Int → Int} {rc : Nat} {rw : Int → Int} {fc : Nat} {fa : Nat → Pl k} (H : CLS M k pl n tx rc rw fc fa) (i : Nat) (hi : i < 6) (j : Nat) (hj : j < 6) (l : Nat) (hl : l < 6)  : Ct 198 (d + 8) 141 [(1, 0), (0, (i : Int)), (0, (j : Int)), (0, (l : Int))] M (fun r_ M' => r_ = (0, (dg (sbp (pl i) (pl j)))) ∧ CLS M' k (fup pl l (sbp (pl i) (pl j))) n tx rc rw fc fa ∧ (∀ a : Int, (a < 0 ∨ 160 < a) → M' a = M a)) := by
  have hK : cd 141 = k141 := rfl
  obtain ⟨P, u_, l_, z_, C, E, hpl, T, hR, hF⟩ := H
  have q1_ := qq_I k
  have p1_ := pp_I k
  have m1_ := mm_I k
  have bi_ := (hpl i hi).2
  have di_ := dg_lt9 bi_
  have bj_ := (hpl j hj).2
  have dj_ := dg_lt9 bj_
  have bl_ := (hpl l hl).2
  have dl_ := dg_lt9 bl_
  show Wp 198 _ 141 0 [(1, 0), (0, (i : Int)), (0, (j : Int)), (0, (l : Int)), (3, 0), (3, 0), (3, 0)] [] M _
  refine w_al hK rfl rfl ?_
  refine w_il hK rfl rfl ?_
  refine w_call [(1, 0), (0, (i : Int))] hK rfl rfl rfl rfl (Or.inr ⟨_, _, _, rfl, by decide, (by decide), rfl⟩) (c_pl i hi) ?_
  rintro _ Mq ⟨rfl, e_⟩
  subst Mq
  refine ⟨(by show (1 : Nat) ≠ 9; decide), (?_ : Wp 198 _ 141 3 [(1, 0), (0, (i : Int)), (0, (j : Int)), (0, (l : Int)), (3, 0), (3, 0), (3, 0)] [(1, (149 + 2 * (i : Int)))] M _)⟩
  refine w_as [(1, 0), (0, (i : Int)), (0, (j : Int)), (0, (l : Int)), (1, (149 + 2 * (i : Int))), (3, 0), (3, 0)] hK rfl rfl rfl ?_
  refine w_al hK rfl rfl ?_
  refine w_il hK rfl rfl ?_
  refine w_call [(1, 0), (0, (j : Int))] hK rfl rfl rfl rfl (Or.inr ⟨_, _, _, rfl, by decide, (by decide), rfl⟩) (c_pl j hj) ?_
  rintro _ Mq ⟨rfl, e_⟩
  subst Mq
  refine ⟨(by show (1 : Nat) ≠ 9; decide), (?_ : Wp 198 _ 141 7 [(1, 0), (0, (i : Int)), (0, (j : Int)), (0, (l : Int)), (1, (149 + 2 * (i : Int))), (3, 0), (3, 0)] [(1, (149 + 2 * (j : Int)))] M _)⟩
  refine w_as [(1, 0), (0, (i : Int)), (0, (j : Int)), (0, (l : Int)), (1, (149 + 2 * (i : Int))), (1, (149 + 2 * (j : Int))), (3, 0)] hK rfl rfl rfl ?_
  refine w_al hK rfl rfl ?_
  refine w_il hK rfl rfl ?_
  refine w_call [(1, 0), (0, (l : Int))] hK rfl rfl rfl rfl (Or.inr ⟨_, _, _, rfl, by decide, (by decide), rfl⟩) (c_pl l hl) ?_
  rintro _ Mq ⟨rfl, e_⟩
  subst Mq
  refine ⟨(by show (1 : Nat) ≠ 9; decide), (?_ : Wp 198 _ 141 11 [(1, 0), (0, (i : Int)), (0, (j : Int)), (0, (l : Int)), (1, (149 + 2 * (i : Int))), (1, (149 + 2 * (j : Int))), (3, 0)] [(1, (149 + 2 * (l : Int)))] M _)⟩
  refine w_as [(1, 0), (0, (i : Int)), (0, (j : Int)), (0, (l : Int)), (1, (149 + 2 * (i : Int))), (1, (149 + 2 * (j : Int))), (1, (149 + 2 * (l : Int)))] hK rfl rfl rfl ?_
  refine w_al hK rfl rfl ?_
  refine w_null hK rfl (fun h13 => ?_) (fun h13 => ?_)
  · exfalso; omega
  · refine w_al hK rfl rfl ?_
    refine w_null hK rfl (fun h15 => ?_) (fun h15 => ?_)
    · exfalso; omega
    · refine w_al hK rfl rfl ?_
      refine w_nonnull hK rfl (fun h17 => ?_) (fun h17 => ?_)
      · refine w_al hK rfl rfl ?_
        refine w_getr (n := 1) (v := 7) hK rfl rfl (by decide) (by decide) rfl rfl rfl rfl ?_
        refine w_al hK rfl rfl ?_
        refine w_al hK rfl rfl ?_
        refine w_al hK rfl rfl ?_
        refine w_call [(1, 7), (1, (149 + 2 * (i : Int))), (1, (149 + 2 * (j : Int))), (1, (149 + 2 * (l : Int)))] hK rfl rfl rfl rfl (Or.inr ⟨_, _, _, rfl, by decide, (by decide), rfl⟩) (c_rdif C ⟨(isPP hi), (hpl i hi).1⟩ ⟨(isPP hj), (hpl j hj).1⟩ (isPP hl)) ?_
        rintro _ V119 ⟨rfl, C119, S119⟩
        refine ⟨by decide, (?_ : Wp 198 _ 141 26 [(1, 0), (0, (i : Int)), (0, (j : Int)), (0, (l : Int)), (1, (149 + 2 * (i : Int))), (1, (149 + 2 * (j : Int))), (1, (149 + 2 * (l : Int)))] [] V119 _)⟩
        refine w_al hK rfl rfl ?_
        refine w_pt hK rfl (isPP hl) ?_
        rw [show V119 (149 + 2 * (l : Int)) 1 = dg (sbp (pl i) (pl j)) from C119.t ⟨(isPP hl), pu_eq⟩]
        have tI_ := CS.dI C119 ⟨(isPP hl), pu_eq⟩
        refine w_iret hK rfl rfl ?_
        exact ⟨rfl, ⟨_, u_, l_, z_, C119, (ES.keep E (S119 18 (notP rfl))), (PLs.put hpl pu_eq (Bd_sbp' bi_ bj_) (fun q_ hq_ hn_ => (pu_ne (P := P) (f := sbp (pl i) (pl j)) (show (149 + 2 * (q_ : Int)) ≠ (149 + 2 * (l : Int)) by omega)))), (TXs.keep T (S119 140 (notP rfl)) (S119 141 (notP rfl))), (RWs.keep hR (S119 0 (notP rfl)) (S119 144 (notP rfl))), (FCs.keep hF (S119 52 (notP rfl)) (fun q_ hq_ => (pu_ne (P := P) (f := sbp (pl i) (pl j)) (show (68 + 6 * (q_ : Int)) ≠ (149 + 2 * (l : Int)) by omega))))⟩, (fun a h_ => (S119 a (npC h_)))⟩
      · exfalso; omega
set_option maxRecDepth 100000 in
theorem n_takes {d : Nat} {M : Mem} {k : Nat} {pl : Nat → Pl k} {n : Int} {tx : Int → Int} {rc : Nat} {rw : Int → Int} {fc : Nat} {fa : Nat → Pl k} (H : CLS M k pl n tx rc rw fc fa) (i j l : Int) (i1_ : -2147483648 ≤ i) (i2_ : i ≤ 2147483647) (j1_ : -2147483648 ≤ j) (j2_ : j ≤ 2147483647) (l1_ : -2147483648 ≤ l) (l2_ : l ≤ 2147483647) (hn : ¬ ((0 ≤ i ∧ i < 6) ∧ (0 ≤ j ∧ j < 6) ∧ (0 ≤ l ∧ l < 6))) : Ct 198 (d + 8) 141 [(1, 0), (0, i), (0, j), (0, l)] M (fun r_ M' => r_ = (0, -2) ∧ M' = M) := by
  have hK : cd 141 = k141 := rfl
  obtain ⟨P, u_, l_, z_, C, E, hpl, T, hR, hF⟩ := H
  have q1_ := qq_I k
  have p1_ := pp_I k
  have m1_ := mm_I k
  show Wp 198 _ 141 0 [(1, 0), (0, i), (0, j), (0, l), (3, 0), (3, 0), (3, 0)] [] M _
  refine w_al hK rfl rfl ?_
  refine w_il hK rfl rfl ?_
  refine w_call [(1, 0), (0, i)] hK rfl rfl rfl rfl (Or.inr ⟨_, _, _, rfl, by decide, (by decide), rfl⟩) (c_plI i (by omega) (by omega)) ?_
  rintro _ Mq ⟨rfl, e_⟩
  subst Mq
  have pI_ := plr_I i
  refine ⟨(by show (1 : Nat) ≠ 9; decide), (?_ : Wp 198 _ 141 3 [(1, 0), (0, i), (0, j), (0, l), (3, 0), (3, 0), (3, 0)] [(1, (plr i))] M _)⟩
  refine w_as [(1, 0), (0, i), (0, j), (0, l), (1, (plr i)), (3, 0), (3, 0)] hK rfl rfl rfl ?_
  refine w_al hK rfl rfl ?_
  refine w_il hK rfl rfl ?_
  refine w_call [(1, 0), (0, j)] hK rfl rfl rfl rfl (Or.inr ⟨_, _, _, rfl, by decide, (by decide), rfl⟩) (c_plI j (by omega) (by omega)) ?_
  rintro _ Mq ⟨rfl, e_⟩
  subst Mq
  have pI_ := plr_I j
  refine ⟨(by show (1 : Nat) ≠ 9; decide), (?_ : Wp 198 _ 141 7 [(1, 0), (0, i), (0, j), (0, l), (1, (plr i)), (3, 0), (3, 0)] [(1, (plr j))] M _)⟩
  refine w_as [(1, 0), (0, i), (0, j), (0, l), (1, (plr i)), (1, (plr j)), (3, 0)] hK rfl rfl rfl ?_
  refine w_al hK rfl rfl ?_
  refine w_il hK rfl rfl ?_
  refine w_call [(1, 0), (0, l)] hK rfl rfl rfl rfl (Or.inr ⟨_, _, _, rfl, by decide, (by decide), rfl⟩) (c_plI l (by omega) (by omega)) ?_
  rintro _ Mq ⟨rfl, e_⟩
  subst Mq
  have pI_ := plr_I l
  refine ⟨(by show (1 : Nat) ≠ 9; decide), (?_ : Wp 198 _ 141 11 [(1, 0), (0, i), (0, j), (0, l), (1, (plr i)), (1, (plr j)), (3, 0)] [(1, (plr l))] M _)⟩
  refine w_as [(1, 0), (0, i), (0, j), (0, l), (1, (plr i)), (1, (plr j)), (1, (plr l))] hK rfl rfl rfl ?_
  refine w_al hK rfl rfl ?_
  refine w_null hK rfl (fun h13 => ?_) (fun h13 => ?_)
  · refine w_ic hK rfl ?_
    refine w_iret hK rfl rfl ?_
    exact ⟨rfl, rfl⟩
  · refine w_al hK rfl rfl ?_
    refine w_null hK rfl (fun h15 => ?_) (fun h15 => ?_)
    · refine w_ic hK rfl ?_
      refine w_iret hK rfl rfl ?_
      exact ⟨rfl, rfl⟩
    · refine w_al hK rfl rfl ?_
      refine w_nonnull hK rfl (fun h17 => ?_) (fun h17 => ?_)
      · exfalso; omega
      · refine w_ic hK rfl ?_
        refine w_iret hK rfl rfl ?_
        exact ⟨rfl, rfl⟩
set_option maxRecDepth 100000 in
theorem o_scales {d : Nat} {M : Mem} {k : Nat} {pl : Nat → Pl k} {n : Int} {tx : Int → Int} {rc : Nat} {rw : Int → Int} {fc : Nat} {fa : Nat → Pl k} (H : CLS M k pl n tx rc rw fc fa) (i : Nat) (hi : i < 6) (l : Nat) (hl : l < 6) (x : El k) : Ct 198 (d + 8) 142 [(1, 0), (0, (x.val : Int)), (0, (i : Int)), (0, (l : Int))] M (fun r_ M' => r_ = (0, (dg (scl x (pl i)))) ∧ CLS M' k (fup pl l (scl x (pl i))) n tx rc rw fc fa ∧ (∀ a : Int, (a < 0 ∨ 160 < a) → M' a = M a)) := by
  have hK : cd 142 = k142 := rfl
  obtain ⟨P, u_, l_, z_, C, E, hpl, T, hR, hF⟩ := H
  have q1_ := qq_I k
  have p1_ := pp_I k
  have m1_ := mm_I k
  have bi_ := (hpl i hi).2
  have di_ := dg_lt9 bi_
  have bl_ := (hpl l hl).2
  have dl_ := dg_lt9 bl_
  have lx_ := x.isLt
  show Wp 198 _ 142 0 [(1, 0), (0, (x.val : Int)), (0, (i : Int)), (0, (l : Int)), (3, 0), (3, 0)] [] M _
  refine w_al hK rfl rfl ?_
  refine w_il hK rfl rfl ?_
  refine w_call [(1, 0), (0, (i : Int))] hK rfl rfl rfl rfl (Or.inr ⟨_, _, _, rfl, by decide, (by decide), rfl⟩) (c_pl i hi) ?_
  rintro _ Mq ⟨rfl, e_⟩
  subst Mq
  refine ⟨(by show (1 : Nat) ≠ 9; decide), (?_ : Wp 198 _ 142 3 [(1, 0), (0, (x.val : Int)), (0, (i : Int)), (0, (l : Int)), (3, 0), (3, 0)] [(1, (149 + 2 * (i : Int)))] M _)⟩
  refine w_as [(1, 0), (0, (x.val : Int)), (0, (i : Int)), (0, (l : Int)), (1, (149 + 2 * (i : Int))), (3, 0)] hK rfl rfl rfl ?_
  refine w_al hK rfl rfl ?_
  refine w_il hK rfl rfl ?_
  refine w_call [(1, 0), (0, (l : Int))] hK rfl rfl rfl rfl (Or.inr ⟨_, _, _, rfl, by decide, (by decide), rfl⟩) (c_pl l hl) ?_
  rintro _ Mq ⟨rfl, e_⟩
  subst Mq
  refine ⟨(by show (1 : Nat) ≠ 9; decide), (?_ : Wp 198 _ 142 7 [(1, 0), (0, (x.val : Int)), (0, (i : Int)), (0, (l : Int)), (1, (149 + 2 * (i : Int))), (3, 0)] [(1, (149 + 2 * (l : Int)))] M _)⟩
  refine w_as [(1, 0), (0, (x.val : Int)), (0, (i : Int)), (0, (l : Int)), (1, (149 + 2 * (i : Int))), (1, (149 + 2 * (l : Int)))] hK rfl rfl rfl ?_
  refine w_al hK rfl rfl ?_
  refine w_null hK rfl (fun h9 => ?_) (fun h9 => ?_)
  · exfalso; omega
  · refine w_al hK rfl rfl ?_
    refine w_null hK rfl (fun h11 => ?_) (fun h11 => ?_)
    · exfalso; omega
    · refine w_al hK rfl rfl ?_
      refine w_getr (n := 0) (v := 1) hK rfl rfl (by decide) (by decide) rfl rfl rfl rfl ?_
      refine w_il hK rfl rfl ?_
      refine w_call [(1, 1), (0, (x.val : Int))] hK rfl rfl rfl rfl (Or.inr ⟨_, _, _, rfl, by decide, (by decide), rfl⟩) (c_has (by decide) C.F (x.val : Int) (by omega) (by omega)) ?_
      rintro _ Mq ⟨rfl, e_⟩
      subst Mq
      have hI_ := ite01 (0 ≤ (x.val : Int) ∧ (x.val : Int) < (qq k : Int))
      refine ⟨(by show (0 : Nat) ≠ 9; decide), (?_ : Wp 198 _ 142 16 [(1, 0), (0, (x.val : Int)), (0, (i : Int)), (0, (l : Int)), (1, (149 + 2 * (i : Int))), (1, (149 + 2 * (l : Int)))] [(0, (if 0 ≤ (x.val : Int) ∧ (x.val : Int) < (qq k : Int) then 1 else 0))] M _)⟩
      refine w_ne hK rfl (by omega) (by omega) (fun h16 => ?_) (fun h16 => ?_)
      · refine w_al hK rfl rfl ?_
        refine w_getr (n := 1) (v := 7) hK rfl rfl (by decide) (by decide) rfl rfl rfl rfl ?_
        refine w_il hK rfl rfl ?_
        refine w_al hK rfl rfl ?_
        refine w_al hK rfl rfl ?_
        refine w_call [(1, 7), (0, (x.val : Int)), (1, (149 + 2 * (i : Int))), (1, (149 + 2 * (l : Int)))] hK rfl rfl rfl rfl (Or.inr ⟨_, _, _, rfl, by decide, (by decide), rfl⟩) (c_rscl C x ⟨(isPP hi), (hpl i hi).1⟩ (isPP hl)) ?_
        rintro _ V120 ⟨rfl, C120, S120⟩
        refine ⟨by decide, (?_ : Wp 198 _ 142 25 [(1, 0), (0, (x.val : Int)), (0, (i : Int)), (0, (l : Int)), (1, (149 + 2 * (i : Int))), (1, (149 + 2 * (l : Int)))] [] V120 _)⟩
        refine w_al hK rfl rfl ?_
        refine w_pt hK rfl (isPP hl) ?_
        rw [show V120 (149 + 2 * (l : Int)) 1 = dg (scl x (pl i)) from C120.t ⟨(isPP hl), pu_eq⟩]
        have tI_ := CS.dI C120 ⟨(isPP hl), pu_eq⟩
        refine w_iret hK rfl rfl ?_
        exact ⟨rfl, ⟨_, u_, l_, z_, C120, (ES.keep E (S120 18 (notP rfl))), (PLs.put hpl pu_eq (Bd_scl x bi_) (fun q_ hq_ hn_ => (pu_ne (P := P) (f := scl x (pl i)) (show (149 + 2 * (q_ : Int)) ≠ (149 + 2 * (l : Int)) by omega)))), (TXs.keep T (S120 140 (notP rfl)) (S120 141 (notP rfl))), (RWs.keep hR (S120 0 (notP rfl)) (S120 144 (notP rfl))), (FCs.keep hF (S120 52 (notP rfl)) (fun q_ hq_ => (pu_ne (P := P) (f := scl x (pl i)) (show (68 + 6 * (q_ : Int)) ≠ (149 + 2 * (l : Int)) by omega))))⟩, (fun a h_ => (S120 a (npC h_)))⟩
      · exfalso; omega
set_option maxRecDepth 100000 in
theorem n_scales {d : Nat} {M : Mem} {k : Nat} {pl : Nat → Pl k} {n : Int} {tx : Int → Int} {rc : Nat} {rw : Int → Int} {fc : Nat} {fa : Nat → Pl k} (H : CLS M k pl n tx rc rw fc fa) (x i l : Int) (x1_ : -2147483648 ≤ x) (x2_ : x ≤ 2147483647) (i1_ : -2147483648 ≤ i) (i2_ : i ≤ 2147483647) (l1_ : -2147483648 ≤ l) (l2_ : l ≤ 2147483647) (hn : ¬ ((0 ≤ i ∧ i < 6) ∧ (0 ≤ l ∧ l < 6) ∧ 0 ≤ x ∧ x < (qq k : Int))) : Ct 198 (d + 8) 142 [(1, 0), (0, x), (0, i), (0, l)] M (fun r_ M' => r_ = (0, -2) ∧ M' = M) := by
  have hK : cd 142 = k142 := rfl
  obtain ⟨P, u_, l_, z_, C, E, hpl, T, hR, hF⟩ := H
  have q1_ := qq_I k
  have p1_ := pp_I k
  have m1_ := mm_I k
  show Wp 198 _ 142 0 [(1, 0), (0, x), (0, i), (0, l), (3, 0), (3, 0)] [] M _
  refine w_al hK rfl rfl ?_
  refine w_il hK rfl rfl ?_
  refine w_call [(1, 0), (0, i)] hK rfl rfl rfl rfl (Or.inr ⟨_, _, _, rfl, by decide, (by decide), rfl⟩) (c_plI i (by omega) (by omega)) ?_
  rintro _ Mq ⟨rfl, e_⟩
  subst Mq
  have pI_ := plr_I i
  refine ⟨(by show (1 : Nat) ≠ 9; decide), (?_ : Wp 198 _ 142 3 [(1, 0), (0, x), (0, i), (0, l), (3, 0), (3, 0)] [(1, (plr i))] M _)⟩
  refine w_as [(1, 0), (0, x), (0, i), (0, l), (1, (plr i)), (3, 0)] hK rfl rfl rfl ?_
  refine w_al hK rfl rfl ?_
  refine w_il hK rfl rfl ?_
  refine w_call [(1, 0), (0, l)] hK rfl rfl rfl rfl (Or.inr ⟨_, _, _, rfl, by decide, (by decide), rfl⟩) (c_plI l (by omega) (by omega)) ?_
  rintro _ Mq ⟨rfl, e_⟩
  subst Mq
  have pI_ := plr_I l
  refine ⟨(by show (1 : Nat) ≠ 9; decide), (?_ : Wp 198 _ 142 7 [(1, 0), (0, x), (0, i), (0, l), (1, (plr i)), (3, 0)] [(1, (plr l))] M _)⟩
  refine w_as [(1, 0), (0, x), (0, i), (0, l), (1, (plr i)), (1, (plr l))] hK rfl rfl rfl ?_
  refine w_al hK rfl rfl ?_
  refine w_null hK rfl (fun h9 => ?_) (fun h9 => ?_)
  · refine w_ic hK rfl ?_
    refine w_iret hK rfl rfl ?_
    exact ⟨rfl, rfl⟩
  · refine w_al hK rfl rfl ?_
    refine w_null hK rfl (fun h11 => ?_) (fun h11 => ?_)
    · refine w_ic hK rfl ?_
      refine w_iret hK rfl rfl ?_
      exact ⟨rfl, rfl⟩
    · refine w_al hK rfl rfl ?_
      refine w_getr (n := 0) (v := 1) hK rfl rfl (by decide) (by decide) rfl rfl rfl rfl ?_
      refine w_il hK rfl rfl ?_
      refine w_call [(1, 1), (0, x)] hK rfl rfl rfl rfl (Or.inr ⟨_, _, _, rfl, by decide, (by decide), rfl⟩) (c_has (by decide) C.F x (by omega) (by omega)) ?_
      rintro _ Mq ⟨rfl, e_⟩
      subst Mq
      have hI_ := ite01 (0 ≤ x ∧ x < (qq k : Int))
      refine ⟨(by show (0 : Nat) ≠ 9; decide), (?_ : Wp 198 _ 142 16 [(1, 0), (0, x), (0, i), (0, l), (1, (plr i)), (1, (plr l))] [(0, (if 0 ≤ x ∧ x < (qq k : Int) then 1 else 0))] M _)⟩
      refine w_ne hK rfl (by omega) (by omega) (fun h16 => ?_) (fun h16 => ?_)
      · exfalso; omega
      · refine w_ic hK rfl ?_
        refine w_iret hK rfl rfl ?_
        exact ⟨rfl, rfl⟩
set_option maxRecDepth 100000 in
theorem o_mult {d : Nat} {M : Mem} {k : Nat} {pl : Nat → Pl k} {n : Int} {tx : Int → Int} {rc : Nat} {rw : Int → Int} {fc : Nat} {fa : Nat → Pl k} (H : CLS M k pl n tx rc rw fc fa) (i : Nat) (hi : i < 6) (j : Nat) (hj : j < 6) (l : Nat) (hl : l < 6)  : Ct 198 (d + 8) 143 [(1, 0), (0, (i : Int)), (0, (j : Int)), (0, (l : Int))] M (fun r_ M' => r_ = (0, (if 8 < dg (mlp (pl i) (pl j)) then -3 else dg (mlp (pl i) (pl j)))) ∧ CLS M' k (if 8 < dg (mlp (pl i) (pl j)) then pl else fup pl l (mlp (pl i) (pl j))) n tx rc rw fc fa ∧ (∀ a : Int, (a < 0 ∨ 160 < a) → M' a = M a)) := by
  have hK : cd 143 = k143 := rfl
  obtain ⟨P, u_, l_, z_, C, E, hpl, T, hR, hF⟩ := H
  have q1_ := qq_I k
  have p1_ := pp_I k
  have m1_ := mm_I k
  have bi_ := (hpl i hi).2
  have di_ := dg_lt9 bi_
  have bj_ := (hpl j hj).2
  have dj_ := dg_lt9 bj_
  have bl_ := (hpl l hl).2
  have dl_ := dg_lt9 bl_
  show Wp 198 _ 143 0 [(1, 0), (0, (i : Int)), (0, (j : Int)), (0, (l : Int)), (3, 0), (3, 0), (3, 0)] [] M _
  refine w_al hK rfl rfl ?_
  refine w_il hK rfl rfl ?_
  refine w_call [(1, 0), (0, (i : Int))] hK rfl rfl rfl rfl (Or.inr ⟨_, _, _, rfl, by decide, (by decide), rfl⟩) (c_pl i hi) ?_
  rintro _ Mq ⟨rfl, e_⟩
  subst Mq
  refine ⟨(by show (1 : Nat) ≠ 9; decide), (?_ : Wp 198 _ 143 3 [(1, 0), (0, (i : Int)), (0, (j : Int)), (0, (l : Int)), (3, 0), (3, 0), (3, 0)] [(1, (149 + 2 * (i : Int)))] M _)⟩
  refine w_as [(1, 0), (0, (i : Int)), (0, (j : Int)), (0, (l : Int)), (1, (149 + 2 * (i : Int))), (3, 0), (3, 0)] hK rfl rfl rfl ?_
  refine w_al hK rfl rfl ?_
  refine w_il hK rfl rfl ?_
  refine w_call [(1, 0), (0, (j : Int))] hK rfl rfl rfl rfl (Or.inr ⟨_, _, _, rfl, by decide, (by decide), rfl⟩) (c_pl j hj) ?_
  rintro _ Mq ⟨rfl, e_⟩
  subst Mq
  refine ⟨(by show (1 : Nat) ≠ 9; decide), (?_ : Wp 198 _ 143 7 [(1, 0), (0, (i : Int)), (0, (j : Int)), (0, (l : Int)), (1, (149 + 2 * (i : Int))), (3, 0), (3, 0)] [(1, (149 + 2 * (j : Int)))] M _)⟩
  refine w_as [(1, 0), (0, (i : Int)), (0, (j : Int)), (0, (l : Int)), (1, (149 + 2 * (i : Int))), (1, (149 + 2 * (j : Int))), (3, 0)] hK rfl rfl rfl ?_
  refine w_al hK rfl rfl ?_
  refine w_il hK rfl rfl ?_
  refine w_call [(1, 0), (0, (l : Int))] hK rfl rfl rfl rfl (Or.inr ⟨_, _, _, rfl, by decide, (by decide), rfl⟩) (c_pl l hl) ?_
  rintro _ Mq ⟨rfl, e_⟩
  subst Mq
  refine ⟨(by show (1 : Nat) ≠ 9; decide), (?_ : Wp 198 _ 143 11 [(1, 0), (0, (i : Int)), (0, (j : Int)), (0, (l : Int)), (1, (149 + 2 * (i : Int))), (1, (149 + 2 * (j : Int))), (3, 0)] [(1, (149 + 2 * (l : Int)))] M _)⟩
  refine w_as [(1, 0), (0, (i : Int)), (0, (j : Int)), (0, (l : Int)), (1, (149 + 2 * (i : Int))), (1, (149 + 2 * (j : Int))), (1, (149 + 2 * (l : Int)))] hK rfl rfl rfl ?_
  refine w_al hK rfl rfl ?_
  refine w_null hK rfl (fun h13 => ?_) (fun h13 => ?_)
  · exfalso; omega
  · refine w_al hK rfl rfl ?_
    refine w_null hK rfl (fun h15 => ?_) (fun h15 => ?_)
    · exfalso; omega
    · refine w_al hK rfl rfl ?_
      refine w_nonnull hK rfl (fun h17 => ?_) (fun h17 => ?_)
      · refine w_al hK rfl rfl ?_
        refine w_getr (n := 1) (v := 7) hK rfl rfl (by decide) (by decide) rfl rfl rfl rfl ?_
        refine w_al hK rfl rfl ?_
        refine w_al hK rfl rfl ?_
        refine w_al hK rfl rfl ?_
        refine w_getr (n := 12) (v := 145) hK rfl rfl (by decide) (by decide) rfl rfl rfl rfl ?_
        refine w_call [(1, 7), (1, (149 + 2 * (i : Int))), (1, (149 + 2 * (j : Int))), (1, 145)] hK rfl rfl rfl rfl (Or.inr ⟨_, _, _, rfl, by decide, (by decide), rfl⟩) (c_rprd C ⟨(isPP hi), (hpl i hi).1⟩ ⟨(isPP hj), (hpl j hj).1⟩ (isP_of (p := 145) rfl) (by omega) (by omega) (by omega)) ?_
        rintro _ V121 ⟨rfl, C121, S121⟩
        refine ⟨by decide, (?_ : Wp 198 _ 143 27 [(1, 0), (0, (i : Int)), (0, (j : Int)), (0, (l : Int)), (1, (149 + 2 * (i : Int))), (1, (149 + 2 * (j : Int))), (1, (149 + 2 * (l : Int)))] [] V121 _)⟩
        refine w_al hK rfl rfl ?_
        refine w_getr (n := 12) (v := 145) hK rfl rfl (by decide) (by decide) rfl rfl rfl rfl ?_
        refine w_al hK rfl rfl ?_
        refine w_call [(1, 145), (1, (149 + 2 * (l : Int)))] hK rfl rfl rfl rfl (Or.inl rfl) (c_keep C121 ⟨(isP_of (p := 145) rfl), pu_eq⟩ (isPP hl) (by omega)) ?_
        rintro _ V122 (⟨g_, rfl, e_⟩ | ⟨g_, rfl, C122, S122⟩)
        · subst V122
          refine ⟨by decide, (?_ : Wp 198 _ 143 31 [(1, 0), (0, (i : Int)), (0, (j : Int)), (0, (l : Int)), (1, (149 + 2 * (i : Int))), (1, (149 + 2 * (j : Int))), (1, (149 + 2 * (l : Int)))] [(0, (-3))] V121 _)⟩
          refine w_iret hK rfl rfl ?_
          rw [if_pos g_, if_pos g_]
          exact ⟨rfl, ⟨_, u_, l_, z_, C121, (ES.keep E (S121 18 (notP rfl))), (PLs.keep hpl (fun q_ hq_ => ((pu_ne (P := pu P 8 (mlp (pl i) (pl j))) (f := mlp (pl i) (pl j)) (show (149 + 2 * (q_ : Int)) ≠ 145 by omega)).trans (pu_ne (P := P) (f := mlp (pl i) (pl j)) (show (149 + 2 * (q_ : Int)) ≠ 8 by omega))))), (TXs.keep T (S121 140 (notP rfl)) (S121 141 (notP rfl))), (RWs.keep hR (S121 0 (notP rfl)) (S121 144 (notP rfl))), (FCs.keep hF (S121 52 (notP rfl)) (fun q_ hq_ => ((pu_ne (P := pu P 8 (mlp (pl i) (pl j))) (f := mlp (pl i) (pl j)) (show (68 + 6 * (q_ : Int)) ≠ 145 by omega)).trans (pu_ne (P := P) (f := mlp (pl i) (pl j)) (show (68 + 6 * (q_ : Int)) ≠ 8 by omega)))))⟩, (fun a h_ => (S121 a (npC h_)))⟩
        · refine ⟨(by show (0 : Nat) ≠ 9; decide), (?_ : Wp 198 _ 143 31 [(1, 0), (0, (i : Int)), (0, (j : Int)), (0, (l : Int)), (1, (149 + 2 * (i : Int))), (1, (149 + 2 * (j : Int))), (1, (149 + 2 * (l : Int)))] [(0, (dg (mlp (pl i) (pl j))))] V122 _)⟩
          refine w_iret hK rfl rfl ?_
          rw [if_neg (show ¬ 8 < dg (mlp (pl i) (pl j)) by omega), if_neg (show ¬ 8 < dg (mlp (pl i) (pl j)) by omega)]
          exact ⟨rfl, ⟨_, u_, l_, z_, C122, (ES.keep E ((S122 18 (notP rfl)).trans (S121 18 (notP rfl)))), (PLs.put hpl pu_eq (Bd9.of (CS.bd C122 ⟨isPP hl, pu_eq⟩) g_) (fun q_ hq_ hn_ => ((pu_ne (P := pu (pu P 8 (mlp (pl i) (pl j))) 145 (mlp (pl i) (pl j))) (f := mlp (pl i) (pl j)) (show (149 + 2 * (q_ : Int)) ≠ (149 + 2 * (l : Int)) by omega)).trans ((pu_ne (P := pu P 8 (mlp (pl i) (pl j))) (f := mlp (pl i) (pl j)) (show (149 + 2 * (q_ : Int)) ≠ 145 by omega)).trans (pu_ne (P := P) (f := mlp (pl i) (pl j)) (show (149 + 2 * (q_ : Int)) ≠ 8 by omega)))))), (TXs.keep T ((S122 140 (notP rfl)).trans (S121 140 (notP rfl))) ((S122 141 (notP rfl)).trans (S121 141 (notP rfl)))), (RWs.keep hR ((S122 0 (notP rfl)).trans (S121 0 (notP rfl))) ((S122 144 (notP rfl)).trans (S121 144 (notP rfl)))), (FCs.keep hF ((S122 52 (notP rfl)).trans (S121 52 (notP rfl))) (fun q_ hq_ => ((pu_ne (P := pu (pu P 8 (mlp (pl i) (pl j))) 145 (mlp (pl i) (pl j))) (f := mlp (pl i) (pl j)) (show (68 + 6 * (q_ : Int)) ≠ (149 + 2 * (l : Int)) by omega)).trans ((pu_ne (P := pu P 8 (mlp (pl i) (pl j))) (f := mlp (pl i) (pl j)) (show (68 + 6 * (q_ : Int)) ≠ 145 by omega)).trans (pu_ne (P := P) (f := mlp (pl i) (pl j)) (show (68 + 6 * (q_ : Int)) ≠ 8 by omega))))))⟩, (fun a h_ => ((S122 a (npC h_)).trans (S121 a (npC h_))))⟩
      · exfalso; omega
set_option maxRecDepth 100000 in
theorem n_mult {d : Nat} {M : Mem} {k : Nat} {pl : Nat → Pl k} {n : Int} {tx : Int → Int} {rc : Nat} {rw : Int → Int} {fc : Nat} {fa : Nat → Pl k} (H : CLS M k pl n tx rc rw fc fa) (i j l : Int) (i1_ : -2147483648 ≤ i) (i2_ : i ≤ 2147483647) (j1_ : -2147483648 ≤ j) (j2_ : j ≤ 2147483647) (l1_ : -2147483648 ≤ l) (l2_ : l ≤ 2147483647) (hn : ¬ ((0 ≤ i ∧ i < 6) ∧ (0 ≤ j ∧ j < 6) ∧ (0 ≤ l ∧ l < 6))) : Ct 198 (d + 8) 143 [(1, 0), (0, i), (0, j), (0, l)] M (fun r_ M' => r_ = (0, -2) ∧ M' = M) := by
  have hK : cd 143 = k143 := rfl
  obtain ⟨P, u_, l_, z_, C, E, hpl, T, hR, hF⟩ := H
  have q1_ := qq_I k
  have p1_ := pp_I k
  have m1_ := mm_I k
  show Wp 198 _ 143 0 [(1, 0), (0, i), (0, j), (0, l), (3, 0), (3, 0), (3, 0)] [] M _
  refine w_al hK rfl rfl ?_
  refine w_il hK rfl rfl ?_
  refine w_call [(1, 0), (0, i)] hK rfl rfl rfl rfl (Or.inr ⟨_, _, _, rfl, by decide, (by decide), rfl⟩) (c_plI i (by omega) (by omega)) ?_
  rintro _ Mq ⟨rfl, e_⟩
  subst Mq
  have pI_ := plr_I i
  refine ⟨(by show (1 : Nat) ≠ 9; decide), (?_ : Wp 198 _ 143 3 [(1, 0), (0, i), (0, j), (0, l), (3, 0), (3, 0), (3, 0)] [(1, (plr i))] M _)⟩
  refine w_as [(1, 0), (0, i), (0, j), (0, l), (1, (plr i)), (3, 0), (3, 0)] hK rfl rfl rfl ?_
  refine w_al hK rfl rfl ?_
  refine w_il hK rfl rfl ?_
  refine w_call [(1, 0), (0, j)] hK rfl rfl rfl rfl (Or.inr ⟨_, _, _, rfl, by decide, (by decide), rfl⟩) (c_plI j (by omega) (by omega)) ?_
  rintro _ Mq ⟨rfl, e_⟩
  subst Mq
  have pI_ := plr_I j
  refine ⟨(by show (1 : Nat) ≠ 9; decide), (?_ : Wp 198 _ 143 7 [(1, 0), (0, i), (0, j), (0, l), (1, (plr i)), (3, 0), (3, 0)] [(1, (plr j))] M _)⟩
  refine w_as [(1, 0), (0, i), (0, j), (0, l), (1, (plr i)), (1, (plr j)), (3, 0)] hK rfl rfl rfl ?_
  refine w_al hK rfl rfl ?_
  refine w_il hK rfl rfl ?_
  refine w_call [(1, 0), (0, l)] hK rfl rfl rfl rfl (Or.inr ⟨_, _, _, rfl, by decide, (by decide), rfl⟩) (c_plI l (by omega) (by omega)) ?_
  rintro _ Mq ⟨rfl, e_⟩
  subst Mq
  have pI_ := plr_I l
  refine ⟨(by show (1 : Nat) ≠ 9; decide), (?_ : Wp 198 _ 143 11 [(1, 0), (0, i), (0, j), (0, l), (1, (plr i)), (1, (plr j)), (3, 0)] [(1, (plr l))] M _)⟩
  refine w_as [(1, 0), (0, i), (0, j), (0, l), (1, (plr i)), (1, (plr j)), (1, (plr l))] hK rfl rfl rfl ?_
  refine w_al hK rfl rfl ?_
  refine w_null hK rfl (fun h13 => ?_) (fun h13 => ?_)
  · refine w_ic hK rfl ?_
    refine w_iret hK rfl rfl ?_
    exact ⟨rfl, rfl⟩
  · refine w_al hK rfl rfl ?_
    refine w_null hK rfl (fun h15 => ?_) (fun h15 => ?_)
    · refine w_ic hK rfl ?_
      refine w_iret hK rfl rfl ?_
      exact ⟨rfl, rfl⟩
    · refine w_al hK rfl rfl ?_
      refine w_nonnull hK rfl (fun h17 => ?_) (fun h17 => ?_)
      · exfalso; omega
      · refine w_ic hK rfl ?_
        refine w_iret hK rfl rfl ?_
        exact ⟨rfl, rfl⟩
set_option maxRecDepth 100000 in
theorem o_cross {d : Nat} {M : Mem} {k : Nat} {pl : Nat → Pl k} {n : Int} {tx : Int → Int} {rc : Nat} {rw : Int → Int} {fc : Nat} {fa : Nat → Pl k} (H : CLS M k pl n tx rc rw fc fa) (i : Nat) (hi : i < 6) (j : Nat) (hj : j < 6) (l : Nat) (hl : l < 6)  : Ct 198 (d + 8) 152 [(1, 0), (0, (i : Int)), (0, (j : Int)), (0, (l : Int))] M (fun r_ M' => r_ = (0, (if 8 < dg (sbp (mlp (pl i) (pl j)) (mlp (pl j) (pl i))) then -3 else dg (sbp (mlp (pl i) (pl j)) (mlp (pl j) (pl i))))) ∧ CLS M' k (if 8 < dg (sbp (mlp (pl i) (pl j)) (mlp (pl j) (pl i))) then pl else fup pl l (sbp (mlp (pl i) (pl j)) (mlp (pl j) (pl i)))) n tx rc rw fc fa ∧ (∀ a : Int, (a < 0 ∨ 160 < a) → M' a = M a)) := by
  have hK : cd 152 = k152 := rfl
  obtain ⟨P, u_, l_, z_, C, E, hpl, T, hR, hF⟩ := H
  have q1_ := qq_I k
  have p1_ := pp_I k
  have m1_ := mm_I k
  have bi_ := (hpl i hi).2
  have di_ := dg_lt9 bi_
  have bj_ := (hpl j hj).2
  have dj_ := dg_lt9 bj_
  have bl_ := (hpl l hl).2
  have dl_ := dg_lt9 bl_
  show Wp 198 _ 152 0 [(1, 0), (0, (i : Int)), (0, (j : Int)), (0, (l : Int)), (3, 0), (3, 0), (3, 0)] [] M _
  refine w_al hK rfl rfl ?_
  refine w_il hK rfl rfl ?_
  refine w_call [(1, 0), (0, (i : Int))] hK rfl rfl rfl rfl (Or.inr ⟨_, _, _, rfl, by decide, (by decide), rfl⟩) (c_pl i hi) ?_
  rintro _ Mq ⟨rfl, e_⟩
  subst Mq
  refine ⟨(by show (1 : Nat) ≠ 9; decide), (?_ : Wp 198 _ 152 3 [(1, 0), (0, (i : Int)), (0, (j : Int)), (0, (l : Int)), (3, 0), (3, 0), (3, 0)] [(1, (149 + 2 * (i : Int)))] M _)⟩
  refine w_as [(1, 0), (0, (i : Int)), (0, (j : Int)), (0, (l : Int)), (1, (149 + 2 * (i : Int))), (3, 0), (3, 0)] hK rfl rfl rfl ?_
  refine w_al hK rfl rfl ?_
  refine w_il hK rfl rfl ?_
  refine w_call [(1, 0), (0, (j : Int))] hK rfl rfl rfl rfl (Or.inr ⟨_, _, _, rfl, by decide, (by decide), rfl⟩) (c_pl j hj) ?_
  rintro _ Mq ⟨rfl, e_⟩
  subst Mq
  refine ⟨(by show (1 : Nat) ≠ 9; decide), (?_ : Wp 198 _ 152 7 [(1, 0), (0, (i : Int)), (0, (j : Int)), (0, (l : Int)), (1, (149 + 2 * (i : Int))), (3, 0), (3, 0)] [(1, (149 + 2 * (j : Int)))] M _)⟩
  refine w_as [(1, 0), (0, (i : Int)), (0, (j : Int)), (0, (l : Int)), (1, (149 + 2 * (i : Int))), (1, (149 + 2 * (j : Int))), (3, 0)] hK rfl rfl rfl ?_
  refine w_al hK rfl rfl ?_
  refine w_il hK rfl rfl ?_
  refine w_call [(1, 0), (0, (l : Int))] hK rfl rfl rfl rfl (Or.inr ⟨_, _, _, rfl, by decide, (by decide), rfl⟩) (c_pl l hl) ?_
  rintro _ Mq ⟨rfl, e_⟩
  subst Mq
  refine ⟨(by show (1 : Nat) ≠ 9; decide), (?_ : Wp 198 _ 152 11 [(1, 0), (0, (i : Int)), (0, (j : Int)), (0, (l : Int)), (1, (149 + 2 * (i : Int))), (1, (149 + 2 * (j : Int))), (3, 0)] [(1, (149 + 2 * (l : Int)))] M _)⟩
  refine w_as [(1, 0), (0, (i : Int)), (0, (j : Int)), (0, (l : Int)), (1, (149 + 2 * (i : Int))), (1, (149 + 2 * (j : Int))), (1, (149 + 2 * (l : Int)))] hK rfl rfl rfl ?_
  refine w_al hK rfl rfl ?_
  refine w_null hK rfl (fun h13 => ?_) (fun h13 => ?_)
  · exfalso; omega
  · refine w_al hK rfl rfl ?_
    refine w_null hK rfl (fun h15 => ?_) (fun h15 => ?_)
    · exfalso; omega
    · refine w_al hK rfl rfl ?_
      refine w_nonnull hK rfl (fun h17 => ?_) (fun h17 => ?_)
      · refine w_al hK rfl rfl ?_
        refine w_getr (n := 1) (v := 7) hK rfl rfl (by decide) (by decide) rfl rfl rfl rfl ?_
        refine w_al hK rfl rfl ?_
        refine w_al hK rfl rfl ?_
        refine w_al hK rfl rfl ?_
        refine w_getr (n := 12) (v := 145) hK rfl rfl (by decide) (by decide) rfl rfl rfl rfl ?_
        refine w_call [(1, 7), (1, (149 + 2 * (i : Int))), (1, (149 + 2 * (j : Int))), (1, 145)] hK rfl rfl rfl rfl (Or.inr ⟨_, _, _, rfl, by decide, (by decide), rfl⟩) (c_rprd C ⟨(isPP hi), (hpl i hi).1⟩ ⟨(isPP hj), (hpl j hj).1⟩ (isP_of (p := 145) rfl) (by omega) (by omega) (by omega)) ?_
        rintro _ V123 ⟨rfl, C123, S123⟩
        refine ⟨by decide, (?_ : Wp 198 _ 152 27 [(1, 0), (0, (i : Int)), (0, (j : Int)), (0, (l : Int)), (1, (149 + 2 * (i : Int))), (1, (149 + 2 * (j : Int))), (1, (149 + 2 * (l : Int)))] [] V123 _)⟩
        refine w_al hK rfl rfl ?_
        refine w_getr (n := 1) (v := 7) hK rfl rfl (by decide) (by decide) rfl rfl rfl rfl ?_
        refine w_al hK rfl rfl ?_
        refine w_al hK rfl rfl ?_
        refine w_al hK rfl rfl ?_
        refine w_getr (n := 13) (v := 147) hK rfl rfl (by decide) (by decide) rfl rfl rfl rfl ?_
        refine w_call [(1, 7), (1, (149 + 2 * (j : Int))), (1, (149 + 2 * (i : Int))), (1, 147)] hK rfl rfl rfl rfl (Or.inr ⟨_, _, _, rfl, by decide, (by decide), rfl⟩) (c_rprd C123 ⟨(isPP hj), ((pu_ne (P := pu P 8 (mlp (pl i) (pl j))) (f := mlp (pl i) (pl j)) (show (149 + 2 * (j : Int)) ≠ 145 by omega)).trans ((pu_ne (P := P) (f := mlp (pl i) (pl j)) (show (149 + 2 * (j : Int)) ≠ 8 by omega)).trans (hpl j hj).1))⟩ ⟨(isPP hi), ((pu_ne (P := pu P 8 (mlp (pl i) (pl j))) (f := mlp (pl i) (pl j)) (show (149 + 2 * (i : Int)) ≠ 145 by omega)).trans ((pu_ne (P := P) (f := mlp (pl i) (pl j)) (show (149 + 2 * (i : Int)) ≠ 8 by omega)).trans (hpl i hi).1))⟩ (isP_of (p := 147) rfl) (by omega) (by omega) (by omega)) ?_
        rintro _ V124 ⟨rfl, C124, S124⟩
        rw [pu_comm (P := pu P 8 (mlp (pl i) (pl j))) (a := 145) (b := 8) (f := mlp (pl i) (pl j)) (g := mlp (pl j) (pl i)) (by omega), pu_pu (P := P) (p := 8) (f := mlp (pl i) (pl j)) (g := mlp (pl j) (pl i))] at C124
        refine ⟨by decide, (?_ : Wp 198 _ 152 34 [(1, 0), (0, (i : Int)), (0, (j : Int)), (0, (l : Int)), (1, (149 + 2 * (i : Int))), (1, (149 + 2 * (j : Int))), (1, (149 + 2 * (l : Int)))] [] V124 _)⟩
        refine w_al hK rfl rfl ?_
        refine w_getr (n := 1) (v := 7) hK rfl rfl (by decide) (by decide) rfl rfl rfl rfl ?_
        refine w_al hK rfl rfl ?_
        refine w_getr (n := 12) (v := 145) hK rfl rfl (by decide) (by decide) rfl rfl rfl rfl ?_
        refine w_al hK rfl rfl ?_
        refine w_getr (n := 13) (v := 147) hK rfl rfl (by decide) (by decide) rfl rfl rfl rfl ?_
        refine w_al hK rfl rfl ?_
        refine w_getr (n := 12) (v := 145) hK rfl rfl (by decide) (by decide) rfl rfl rfl rfl ?_
        refine w_call [(1, 7), (1, 145), (1, 147), (1, 145)] hK rfl rfl rfl rfl (Or.inr ⟨_, _, _, rfl, by decide, (by decide), rfl⟩) (c_rdif C124 ⟨(isP_of (p := 145) rfl), ((pu_ne (P := pu (pu P 8 (mlp (pl j) (pl i))) 145 (mlp (pl i) (pl j))) (f := mlp (pl j) (pl i)) (show 145 ≠ 147 by omega)).trans pu_eq)⟩ ⟨(isP_of (p := 147) rfl), pu_eq⟩ (isP_of (p := 145) rfl)) ?_
        rintro _ V125 ⟨rfl, C125, S125⟩
        rw [pu_comm (P := pu (pu P 8 (mlp (pl j) (pl i))) 145 (mlp (pl i) (pl j))) (a := 147) (b := 145) (f := mlp (pl j) (pl i)) (g := sbp (mlp (pl i) (pl j)) (mlp (pl j) (pl i))) (by omega), pu_pu (P := pu P 8 (mlp (pl j) (pl i))) (p := 145) (f := mlp (pl i) (pl j)) (g := sbp (mlp (pl i) (pl j)) (mlp (pl j) (pl i)))] at C125
        refine ⟨by decide, (?_ : Wp 198 _ 152 43 [(1, 0), (0, (i : Int)), (0, (j : Int)), (0, (l : Int)), (1, (149 + 2 * (i : Int))), (1, (149 + 2 * (j : Int))), (1, (149 + 2 * (l : Int)))] [] V125 _)⟩
        refine w_al hK rfl rfl ?_
        refine w_getr (n := 12) (v := 145) hK rfl rfl (by decide) (by decide) rfl rfl rfl rfl ?_
        refine w_al hK rfl rfl ?_
        refine w_call [(1, 145), (1, (149 + 2 * (l : Int)))] hK rfl rfl rfl rfl (Or.inl rfl) (c_keep C125 ⟨(isP_of (p := 145) rfl), ((pu_ne (P := pu (pu P 8 (mlp (pl j) (pl i))) 145 (sbp (mlp (pl i) (pl j)) (mlp (pl j) (pl i)))) (f := mlp (pl j) (pl i)) (show 145 ≠ 147 by omega)).trans pu_eq)⟩ (isPP hl) (by omega)) ?_
        rintro _ V126 (⟨g_, rfl, e_⟩ | ⟨g_, rfl, C126, S126⟩)
        · subst V126
          refine ⟨by decide, (?_ : Wp 198 _ 152 47 [(1, 0), (0, (i : Int)), (0, (j : Int)), (0, (l : Int)), (1, (149 + 2 * (i : Int))), (1, (149 + 2 * (j : Int))), (1, (149 + 2 * (l : Int)))] [(0, (-3))] V125 _)⟩
          refine w_iret hK rfl rfl ?_
          rw [if_pos g_, if_pos g_]
          exact ⟨rfl, ⟨_, u_, l_, z_, C125, (ES.keep E ((S125 18 (notP rfl)).trans ((S124 18 (notP rfl)).trans (S123 18 (notP rfl))))), (PLs.keep hpl (fun q_ hq_ => ((pu_ne (P := pu (pu P 8 (mlp (pl j) (pl i))) 145 (sbp (mlp (pl i) (pl j)) (mlp (pl j) (pl i)))) (f := mlp (pl j) (pl i)) (show (149 + 2 * (q_ : Int)) ≠ 147 by omega)).trans ((pu_ne (P := pu P 8 (mlp (pl j) (pl i))) (f := sbp (mlp (pl i) (pl j)) (mlp (pl j) (pl i))) (show (149 + 2 * (q_ : Int)) ≠ 145 by omega)).trans (pu_ne (P := P) (f := mlp (pl j) (pl i)) (show (149 + 2 * (q_ : Int)) ≠ 8 by omega)))))), (TXs.keep T ((S125 140 (notP rfl)).trans ((S124 140 (notP rfl)).trans (S123 140 (notP rfl)))) ((S125 141 (notP rfl)).trans ((S124 141 (notP rfl)).trans (S123 141 (notP rfl))))), (RWs.keep hR ((S125 0 (notP rfl)).trans ((S124 0 (notP rfl)).trans (S123 0 (notP rfl)))) ((S125 144 (notP rfl)).trans ((S124 144 (notP rfl)).trans (S123 144 (notP rfl))))), (FCs.keep hF ((S125 52 (notP rfl)).trans ((S124 52 (notP rfl)).trans (S123 52 (notP rfl)))) (fun q_ hq_ => ((pu_ne (P := pu (pu P 8 (mlp (pl j) (pl i))) 145 (sbp (mlp (pl i) (pl j)) (mlp (pl j) (pl i)))) (f := mlp (pl j) (pl i)) (show (68 + 6 * (q_ : Int)) ≠ 147 by omega)).trans ((pu_ne (P := pu P 8 (mlp (pl j) (pl i))) (f := sbp (mlp (pl i) (pl j)) (mlp (pl j) (pl i))) (show (68 + 6 * (q_ : Int)) ≠ 145 by omega)).trans (pu_ne (P := P) (f := mlp (pl j) (pl i)) (show (68 + 6 * (q_ : Int)) ≠ 8 by omega))))))⟩, (fun a h_ => ((S125 a (npC h_)).trans ((S124 a (npC h_)).trans (S123 a (npC h_)))))⟩
        · refine ⟨(by show (0 : Nat) ≠ 9; decide), (?_ : Wp 198 _ 152 47 [(1, 0), (0, (i : Int)), (0, (j : Int)), (0, (l : Int)), (1, (149 + 2 * (i : Int))), (1, (149 + 2 * (j : Int))), (1, (149 + 2 * (l : Int)))] [(0, (dg (sbp (mlp (pl i) (pl j)) (mlp (pl j) (pl i)))))] V126 _)⟩
          refine w_iret hK rfl rfl ?_
          rw [if_neg (show ¬ 8 < dg (sbp (mlp (pl i) (pl j)) (mlp (pl j) (pl i))) by omega), if_neg (show ¬ 8 < dg (sbp (mlp (pl i) (pl j)) (mlp (pl j) (pl i))) by omega)]
          exact ⟨rfl, ⟨_, u_, l_, z_, C126, (ES.keep E ((S126 18 (notP rfl)).trans ((S125 18 (notP rfl)).trans ((S124 18 (notP rfl)).trans (S123 18 (notP rfl)))))), (PLs.put hpl pu_eq (Bd9.of (CS.bd C126 ⟨isPP hl, pu_eq⟩) g_) (fun q_ hq_ hn_ => ((pu_ne (P := pu (pu (pu P 8 (mlp (pl j) (pl i))) 145 (sbp (mlp (pl i) (pl j)) (mlp (pl j) (pl i)))) 147 (mlp (pl j) (pl i))) (f := sbp (mlp (pl i) (pl j)) (mlp (pl j) (pl i))) (show (149 + 2 * (q_ : Int)) ≠ (149 + 2 * (l : Int)) by omega)).trans ((pu_ne (P := pu (pu P 8 (mlp (pl j) (pl i))) 145 (sbp (mlp (pl i) (pl j)) (mlp (pl j) (pl i)))) (f := mlp (pl j) (pl i)) (show (149 + 2 * (q_ : Int)) ≠ 147 by omega)).trans ((pu_ne (P := pu P 8 (mlp (pl j) (pl i))) (f := sbp (mlp (pl i) (pl j)) (mlp (pl j) (pl i))) (show (149 + 2 * (q_ : Int)) ≠ 145 by omega)).trans (pu_ne (P := P) (f := mlp (pl j) (pl i)) (show (149 + 2 * (q_ : Int)) ≠ 8 by omega))))))), (TXs.keep T ((S126 140 (notP rfl)).trans ((S125 140 (notP rfl)).trans ((S124 140 (notP rfl)).trans (S123 140 (notP rfl))))) ((S126 141 (notP rfl)).trans ((S125 141 (notP rfl)).trans ((S124 141 (notP rfl)).trans (S123 141 (notP rfl)))))), (RWs.keep hR ((S126 0 (notP rfl)).trans ((S125 0 (notP rfl)).trans ((S124 0 (notP rfl)).trans (S123 0 (notP rfl))))) ((S126 144 (notP rfl)).trans ((S125 144 (notP rfl)).trans ((S124 144 (notP rfl)).trans (S123 144 (notP rfl)))))), (FCs.keep hF ((S126 52 (notP rfl)).trans ((S125 52 (notP rfl)).trans ((S124 52 (notP rfl)).trans (S123 52 (notP rfl))))) (fun q_ hq_ => ((pu_ne (P := pu (pu (pu P 8 (mlp (pl j) (pl i))) 145 (sbp (mlp (pl i) (pl j)) (mlp (pl j) (pl i)))) 147 (mlp (pl j) (pl i))) (f := sbp (mlp (pl i) (pl j)) (mlp (pl j) (pl i))) (show (68 + 6 * (q_ : Int)) ≠ (149 + 2 * (l : Int)) by omega)).trans ((pu_ne (P := pu (pu P 8 (mlp (pl j) (pl i))) 145 (sbp (mlp (pl i) (pl j)) (mlp (pl j) (pl i)))) (f := mlp (pl j) (pl i)) (show (68 + 6 * (q_ : Int)) ≠ 147 by omega)).trans ((pu_ne (P := pu P 8 (mlp (pl j) (pl i))) (f := sbp (mlp (pl i) (pl j)) (mlp (pl j) (pl i))) (show (68 + 6 * (q_ : Int)) ≠ 145 by omega)).trans (pu_ne (P := P) (f := mlp (pl j) (pl i)) (show (68 + 6 * (q_ : Int)) ≠ 8 by omega)))))))⟩, (fun a h_ => ((S126 a (npC h_)).trans ((S125 a (npC h_)).trans ((S124 a (npC h_)).trans (S123 a (npC h_))))))⟩
      · exfalso; omega
set_option maxRecDepth 100000 in
theorem n_cross {d : Nat} {M : Mem} {k : Nat} {pl : Nat → Pl k} {n : Int} {tx : Int → Int} {rc : Nat} {rw : Int → Int} {fc : Nat} {fa : Nat → Pl k} (H : CLS M k pl n tx rc rw fc fa) (i j l : Int) (i1_ : -2147483648 ≤ i) (i2_ : i ≤ 2147483647) (j1_ : -2147483648 ≤ j) (j2_ : j ≤ 2147483647) (l1_ : -2147483648 ≤ l) (l2_ : l ≤ 2147483647) (hn : ¬ ((0 ≤ i ∧ i < 6) ∧ (0 ≤ j ∧ j < 6) ∧ (0 ≤ l ∧ l < 6))) : Ct 198 (d + 8) 152 [(1, 0), (0, i), (0, j), (0, l)] M (fun r_ M' => r_ = (0, -2) ∧ M' = M) := by
  have hK : cd 152 = k152 := rfl
  obtain ⟨P, u_, l_, z_, C, E, hpl, T, hR, hF⟩ := H
  have q1_ := qq_I k
  have p1_ := pp_I k
  have m1_ := mm_I k
  show Wp 198 _ 152 0 [(1, 0), (0, i), (0, j), (0, l), (3, 0), (3, 0), (3, 0)] [] M _
  refine w_al hK rfl rfl ?_
  refine w_il hK rfl rfl ?_
  refine w_call [(1, 0), (0, i)] hK rfl rfl rfl rfl (Or.inr ⟨_, _, _, rfl, by decide, (by decide), rfl⟩) (c_plI i (by omega) (by omega)) ?_
  rintro _ Mq ⟨rfl, e_⟩
  subst Mq
  have pI_ := plr_I i
  refine ⟨(by show (1 : Nat) ≠ 9; decide), (?_ : Wp 198 _ 152 3 [(1, 0), (0, i), (0, j), (0, l), (3, 0), (3, 0), (3, 0)] [(1, (plr i))] M _)⟩
  refine w_as [(1, 0), (0, i), (0, j), (0, l), (1, (plr i)), (3, 0), (3, 0)] hK rfl rfl rfl ?_
  refine w_al hK rfl rfl ?_
  refine w_il hK rfl rfl ?_
  refine w_call [(1, 0), (0, j)] hK rfl rfl rfl rfl (Or.inr ⟨_, _, _, rfl, by decide, (by decide), rfl⟩) (c_plI j (by omega) (by omega)) ?_
  rintro _ Mq ⟨rfl, e_⟩
  subst Mq
  have pI_ := plr_I j
  refine ⟨(by show (1 : Nat) ≠ 9; decide), (?_ : Wp 198 _ 152 7 [(1, 0), (0, i), (0, j), (0, l), (1, (plr i)), (3, 0), (3, 0)] [(1, (plr j))] M _)⟩
  refine w_as [(1, 0), (0, i), (0, j), (0, l), (1, (plr i)), (1, (plr j)), (3, 0)] hK rfl rfl rfl ?_
  refine w_al hK rfl rfl ?_
  refine w_il hK rfl rfl ?_
  refine w_call [(1, 0), (0, l)] hK rfl rfl rfl rfl (Or.inr ⟨_, _, _, rfl, by decide, (by decide), rfl⟩) (c_plI l (by omega) (by omega)) ?_
  rintro _ Mq ⟨rfl, e_⟩
  subst Mq
  have pI_ := plr_I l
  refine ⟨(by show (1 : Nat) ≠ 9; decide), (?_ : Wp 198 _ 152 11 [(1, 0), (0, i), (0, j), (0, l), (1, (plr i)), (1, (plr j)), (3, 0)] [(1, (plr l))] M _)⟩
  refine w_as [(1, 0), (0, i), (0, j), (0, l), (1, (plr i)), (1, (plr j)), (1, (plr l))] hK rfl rfl rfl ?_
  refine w_al hK rfl rfl ?_
  refine w_null hK rfl (fun h13 => ?_) (fun h13 => ?_)
  · refine w_ic hK rfl ?_
    refine w_iret hK rfl rfl ?_
    exact ⟨rfl, rfl⟩
  · refine w_al hK rfl rfl ?_
    refine w_null hK rfl (fun h15 => ?_) (fun h15 => ?_)
    · refine w_ic hK rfl ?_
      refine w_iret hK rfl rfl ?_
      exact ⟨rfl, rfl⟩
    · refine w_al hK rfl rfl ?_
      refine w_nonnull hK rfl (fun h17 => ?_) (fun h17 => ?_)
      · exfalso; omega
      · refine w_ic hK rfl ?_
        refine w_iret hK rfl rfl ?_
        exact ⟨rfl, rfl⟩
set_option maxRecDepth 100000 in
theorem o_maps {d : Nat} {M : Mem} {k : Nat} {pl : Nat → Pl k} {n : Int} {tx : Int → Int} {rc : Nat} {rw : Int → Int} {fc : Nat} {fa : Nat → Pl k} (H : CLS M k pl n tx rc rw fc fa) (i : Nat) (hi : i < 6) (l : Nat) (hl : l < 6) (n0 : Int) (n1_ : -8 ≤ n0) (n2_ : n0 ≤ 8) : Ct 198 (d + 8) 153 [(1, 0), (0, (i : Int)), (0, n0), (0, (l : Int))] M (fun r_ M' => r_ = (0, (dg (mpp n0 (pl i)))) ∧ CLS M' k (fup pl l (mpp n0 (pl i))) n tx rc rw fc fa ∧ (∀ a : Int, (a < 0 ∨ 160 < a) → M' a = M a)) := by
  have hK : cd 153 = k153 := rfl
  obtain ⟨P, u_, l_, z_, C, E, hpl, T, hR, hF⟩ := H
  have q1_ := qq_I k
  have p1_ := pp_I k
  have m1_ := mm_I k
  have bi_ := (hpl i hi).2
  have di_ := dg_lt9 bi_
  have bl_ := (hpl l hl).2
  have dl_ := dg_lt9 bl_
  show Wp 198 _ 153 0 [(1, 0), (0, (i : Int)), (0, n0), (0, (l : Int)), (3, 0), (3, 0)] [] M _
  refine w_al hK rfl rfl ?_
  refine w_il hK rfl rfl ?_
  refine w_call [(1, 0), (0, (i : Int))] hK rfl rfl rfl rfl (Or.inr ⟨_, _, _, rfl, by decide, (by decide), rfl⟩) (c_pl i hi) ?_
  rintro _ Mq ⟨rfl, e_⟩
  subst Mq
  refine ⟨(by show (1 : Nat) ≠ 9; decide), (?_ : Wp 198 _ 153 3 [(1, 0), (0, (i : Int)), (0, n0), (0, (l : Int)), (3, 0), (3, 0)] [(1, (149 + 2 * (i : Int)))] M _)⟩
  refine w_as [(1, 0), (0, (i : Int)), (0, n0), (0, (l : Int)), (1, (149 + 2 * (i : Int))), (3, 0)] hK rfl rfl rfl ?_
  refine w_al hK rfl rfl ?_
  refine w_il hK rfl rfl ?_
  refine w_call [(1, 0), (0, (l : Int))] hK rfl rfl rfl rfl (Or.inr ⟨_, _, _, rfl, by decide, (by decide), rfl⟩) (c_pl l hl) ?_
  rintro _ Mq ⟨rfl, e_⟩
  subst Mq
  refine ⟨(by show (1 : Nat) ≠ 9; decide), (?_ : Wp 198 _ 153 7 [(1, 0), (0, (i : Int)), (0, n0), (0, (l : Int)), (1, (149 + 2 * (i : Int))), (3, 0)] [(1, (149 + 2 * (l : Int)))] M _)⟩
  refine w_as [(1, 0), (0, (i : Int)), (0, n0), (0, (l : Int)), (1, (149 + 2 * (i : Int))), (1, (149 + 2 * (l : Int)))] hK rfl rfl rfl ?_
  refine w_al hK rfl rfl ?_
  refine w_null hK rfl (fun h9 => ?_) (fun h9 => ?_)
  · exfalso; omega
  · refine w_al hK rfl rfl ?_
    refine w_null hK rfl (fun h11 => ?_) (fun h11 => ?_)
    · exfalso; omega
    · refine w_il hK rfl rfl ?_
      refine w_call [(0, n0)] hK rfl rfl rfl rfl (Or.inl rfl) (c_turns n0 (by omega) (by omega)) ?_
      rintro _ Mq ⟨rfl, e_⟩
      subst Mq
      refine ⟨by show (0 : Nat) ≠ 9; decide, (?_ : Wp 198 _ 153 14 [(1, 0), (0, (i : Int)), (0, n0), (0, (l : Int)), (1, (149 + 2 * (i : Int))), (1, (149 + 2 * (l : Int)))] [(0, (if -8 ≤ n0 ∧ n0 ≤ 8 then 1 else 0))] M _)⟩
      have tI_ := ite01 (-8 ≤ n0 ∧ n0 ≤ 8)
      refine w_ne hK rfl (by omega) (by omega) (fun h14 => ?_) (fun h14 => ?_)
      · refine w_al hK rfl rfl ?_
        refine w_getr (n := 1) (v := 7) hK rfl rfl (by decide) (by decide) rfl rfl rfl rfl ?_
        refine w_al hK rfl rfl ?_
        refine w_il hK rfl rfl ?_
        refine w_al hK rfl rfl ?_
        refine w_call [(1, 7), (1, (149 + 2 * (i : Int))), (0, n0), (1, (149 + 2 * (l : Int)))] hK rfl rfl rfl rfl (Or.inr ⟨_, _, _, rfl, by decide, (by decide), rfl⟩) (c_rmap C ⟨(isPP hi), (hpl i hi).1⟩ n0 (isPP hl) (by omega) (by omega)) ?_
        rintro _ V127 ⟨rfl, C127, S127⟩
        refine ⟨by decide, (?_ : Wp 198 _ 153 23 [(1, 0), (0, (i : Int)), (0, n0), (0, (l : Int)), (1, (149 + 2 * (i : Int))), (1, (149 + 2 * (l : Int)))] [] V127 _)⟩
        refine w_al hK rfl rfl ?_
        refine w_pt hK rfl (isPP hl) ?_
        rw [show V127 (149 + 2 * (l : Int)) 1 = dg (mpp n0 (pl i)) from C127.t ⟨(isPP hl), pu_eq⟩]
        have tI_ := CS.dI C127 ⟨(isPP hl), pu_eq⟩
        refine w_iret hK rfl rfl ?_
        exact ⟨rfl, ⟨_, u_, l_, z_, C127, (ES.keep E (S127 18 (notP rfl))), (PLs.put hpl pu_eq (sgI_bd n0 bi_) (fun q_ hq_ hn_ => (pu_ne (P := P) (f := mpp n0 (pl i)) (show (149 + 2 * (q_ : Int)) ≠ (149 + 2 * (l : Int)) by omega)))), (TXs.keep T (S127 140 (notP rfl)) (S127 141 (notP rfl))), (RWs.keep hR (S127 0 (notP rfl)) (S127 144 (notP rfl))), (FCs.keep hF (S127 52 (notP rfl)) (fun q_ hq_ => (pu_ne (P := P) (f := mpp n0 (pl i)) (show (68 + 6 * (q_ : Int)) ≠ (149 + 2 * (l : Int)) by omega))))⟩, (fun a h_ => (S127 a (npC h_)))⟩
      · exfalso; omega
set_option maxRecDepth 100000 in
theorem n_maps {d : Nat} {M : Mem} {k : Nat} {pl : Nat → Pl k} {n : Int} {tx : Int → Int} {rc : Nat} {rw : Int → Int} {fc : Nat} {fa : Nat → Pl k} (H : CLS M k pl n tx rc rw fc fa) (i n0 l : Int) (i1_ : -2147483648 ≤ i) (i2_ : i ≤ 2147483647) (n01_ : -2147483648 ≤ n0) (n02_ : n0 ≤ 2147483647) (l1_ : -2147483648 ≤ l) (l2_ : l ≤ 2147483647) (hn : ¬ ((0 ≤ i ∧ i < 6) ∧ (0 ≤ l ∧ l < 6) ∧ -8 ≤ n0 ∧ n0 ≤ 8)) : Ct 198 (d + 8) 153 [(1, 0), (0, i), (0, n0), (0, l)] M (fun r_ M' => r_ = (0, -2) ∧ M' = M) := by
  have hK : cd 153 = k153 := rfl
  obtain ⟨P, u_, l_, z_, C, E, hpl, T, hR, hF⟩ := H
  have q1_ := qq_I k
  have p1_ := pp_I k
  have m1_ := mm_I k
  show Wp 198 _ 153 0 [(1, 0), (0, i), (0, n0), (0, l), (3, 0), (3, 0)] [] M _
  refine w_al hK rfl rfl ?_
  refine w_il hK rfl rfl ?_
  refine w_call [(1, 0), (0, i)] hK rfl rfl rfl rfl (Or.inr ⟨_, _, _, rfl, by decide, (by decide), rfl⟩) (c_plI i (by omega) (by omega)) ?_
  rintro _ Mq ⟨rfl, e_⟩
  subst Mq
  have pI_ := plr_I i
  refine ⟨(by show (1 : Nat) ≠ 9; decide), (?_ : Wp 198 _ 153 3 [(1, 0), (0, i), (0, n0), (0, l), (3, 0), (3, 0)] [(1, (plr i))] M _)⟩
  refine w_as [(1, 0), (0, i), (0, n0), (0, l), (1, (plr i)), (3, 0)] hK rfl rfl rfl ?_
  refine w_al hK rfl rfl ?_
  refine w_il hK rfl rfl ?_
  refine w_call [(1, 0), (0, l)] hK rfl rfl rfl rfl (Or.inr ⟨_, _, _, rfl, by decide, (by decide), rfl⟩) (c_plI l (by omega) (by omega)) ?_
  rintro _ Mq ⟨rfl, e_⟩
  subst Mq
  have pI_ := plr_I l
  refine ⟨(by show (1 : Nat) ≠ 9; decide), (?_ : Wp 198 _ 153 7 [(1, 0), (0, i), (0, n0), (0, l), (1, (plr i)), (3, 0)] [(1, (plr l))] M _)⟩
  refine w_as [(1, 0), (0, i), (0, n0), (0, l), (1, (plr i)), (1, (plr l))] hK rfl rfl rfl ?_
  refine w_al hK rfl rfl ?_
  refine w_null hK rfl (fun h9 => ?_) (fun h9 => ?_)
  · refine w_ic hK rfl ?_
    refine w_iret hK rfl rfl ?_
    exact ⟨rfl, rfl⟩
  · refine w_al hK rfl rfl ?_
    refine w_null hK rfl (fun h11 => ?_) (fun h11 => ?_)
    · refine w_ic hK rfl ?_
      refine w_iret hK rfl rfl ?_
      exact ⟨rfl, rfl⟩
    · refine w_il hK rfl rfl ?_
      refine w_call [(0, n0)] hK rfl rfl rfl rfl (Or.inl rfl) (c_turns n0 (by omega) (by omega)) ?_
      rintro _ Mq ⟨rfl, e_⟩
      subst Mq
      refine ⟨by show (0 : Nat) ≠ 9; decide, (?_ : Wp 198 _ 153 14 [(1, 0), (0, i), (0, n0), (0, l), (1, (plr i)), (1, (plr l))] [(0, (if -8 ≤ n0 ∧ n0 ≤ 8 then 1 else 0))] M _)⟩
      have tI_ := ite01 (-8 ≤ n0 ∧ n0 ≤ 8)
      refine w_ne hK rfl (by omega) (by omega) (fun h14 => ?_) (fun h14 => ?_)
      · exfalso; omega
      · refine w_ic hK rfl ?_
        refine w_iret hK rfl rfl ?_
        exact ⟨rfl, rfl⟩
