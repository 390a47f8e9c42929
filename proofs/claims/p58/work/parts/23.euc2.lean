/-! the chain of divisions -/
theorem dg_le_of {k : Nat} {f : Pl k} {n : Int} (hf : Bd f 64) (hn : -1 ≤ n) (h : ∀ j : Nat, n < (j : Int) → f j = z0) : dg f ≤ n := by
  rcases Int.lt_or_le n (dg f) with q | q
  · exact absurd (h (dg f).toNat (by omega)) ((dg_is hf).2.2 (by omega))
  · exact q
theorem dg_z {k : Nat} {f : Pl k} (hf : Bd f 64) {j : Nat} (h : dg f < (j : Int)) : f j = z0 := (dg_is hf).2.1 j h
theorem Bd_sbp' {k : Nat} {f g : Pl k} {n : Nat} (h : Bd f n) (h' : Bd g n) : Bd (sbp f g) n := fun j hj => by
  show ad (f j) (ng (g j)) = z0
  rw [h j hj, h' j hj, ng_z, ad_zero]
theorem dg_sbp {k : Nat} {f g : Pl k} (hf : Bd f 64) (hg : Bd g 64) : dg (sbp f g) ≤ max (dg f) (dg g) := by
  have h1 := dg_ge f
  refine dg_le_of (Bd_sbp' hf hg) (by omega) fun j hj => ?_
  show ad (f j) (ng (g j)) = z0
  rw [dg_z hf (by omega), dg_z hg (by omega), ng_z, ad_zero]
theorem isdg_dg {k : Nat} {f : Pl k} (hf : Bd f 64) (h : 0 ≤ dg f) : IsDg f ((dg f).toNat : Int) := by
  rw [Int.toNat_of_nonneg h]
  exact dg_is hf
theorem dg_prd {k : Nat} {s : Int} {f g : Pl k} (hf : Bd f 32) (hg : Bd g 32) : (dg f < 0 ∨ dg g < 0 → prd s f g = pz) ∧ (0 ≤ dg f → 0 ≤ dg g → dg (prd s f g) = dg f + dg g) ∧ Bd (prd s f g) 64 := by
  have hB : Bd (prd s f g) 64 := by
    unfold prd
    split
    · exact Bd_mlp hf hg
    · exact Bd_mlp hg hf
  refine ⟨fun h => ?_, fun h1 h2 => ?_, hB⟩
  · rcases h with h | h
    · rw [(dg_neg (hf.mono (by decide))).mp h, prd_pz]
    · rw [(dg_neg (hg.mono (by decide))).mp h]
      unfold prd
      split
      · exact mlp_pz f
      · exact pz_mlp f
  · have e := prd_dg (s := s) (isdg_dg (hf.mono (by decide)) h1) (isdg_dg (hg.mono (by decide)) h2)
    have e2 := dg_eq hB e
    omega
/-- degrees of quotient and rest -/
theorem dg_dv {k : Nat} (s : Int) {a b : Pl k} (ha : Bd a 17) (hb : Bd b 17) (h : 0 ≤ dg b) : Bd (dq s a b) 17 ∧ dg (dr s a b) < dg b ∧ dg (dr s a b) ≤ max (dg a) (-1) ∧ dg (dq s a b) ≤ max (-1) (dg a - dg b) ∧ Bd (dr s a b) 17 := by
  have hy := isdg_dg (hb.mono (by decide)) h
  have hbl := dg_lt hb (by decide)
  have hal := dg_lt ha (by decide)
  obtain ⟨⟨n, hn⟩, h2, b', hb', hr⟩ := dv_is s hy ha
  have hr2 := dr_bd s hy ha
  have hr3 := dg_lt hr2 (by omega)
  have hr4 : Bd (dr s a b) 17 := hr2.mono (by omega)
  have key : ∀ c : Nat, IsDg (dq s a b) (c : Int) → (c : Int) + dg b = dg a := fun c hc => by
    have e := prd_dg (s := s) hc hy
    have e2 : IsDg a ((c + (dg b).toNat : Nat) : Int) := by
      refine ⟨by omega, fun j hj => ?_, fun q => ?_⟩
      · rw [h2]
        show ad (prd s _ b j) (dr s a b j) = z0
        rw [e.2.1 j hj, hr2 j (by omega), ad_zero]
      · rw [h2]
        show ad (prd s _ b (c + (dg b).toNat)) (dr s a b (c + (dg b).toNat)) ≠ z0
        rw [hr2 _ (by omega), ad_zero]
        exact e.tp
    have e3 := dg_eq (ha.mono (by decide)) e2
    omega
  by_cases hq : dq s a b = pz
  · have e4 : dr s a b = a := by rw [hq, prd_pz, pz_adp] at h2; exact h2.symm
    have e5 : dg (dq s a b) = -1 := by rw [hq, dg_pz]
    refine ⟨by rw [hq]; exact fun _ _ => rfl, by omega, by rw [e4]; omega, by omega, hr4⟩
  · obtain ⟨c, hc⟩ := isdg_pos hn hq
    have e6 := key c hc
    have hq17 : Bd (dq s a b) 17 := fun j hj => hc.2.1 j (by omega)
    have e7 := dg_eq (hq17.mono (by decide)) hc
    exact ⟨hq17, by omega, by omega, by omega, hr4⟩
theorem cst_z0 {k : Nat} : cst (z0 : El k) = pz := by
  funext n
  show up1 pz 0 z0 n = z0
  unfold up1
  split <;> rfl
theorem cst_e1 {k : Nat} : cst (e1 : El k) = one := rfl
/-- the chain: value, next value, multipliers of the first, of the second -/
noncomputable def eu {k : Nat} (s : Int) (x y : Pl k) : Nat → Pl k × Pl k × Pl k × Pl k × Pl k × Pl k
  | 0 => (x, y, one, pz, pz, one)
  | n + 1 => ((eu s x y n).2.1, dr s (eu s x y n).1 (eu s x y n).2.1, (eu s x y n).2.2.2.1, sbp (eu s x y n).2.2.1 (prd s (dq s (eu s x y n).1 (eu s x y n).2.1) (eu s x y n).2.2.2.1),
      (eu s x y n).2.2.2.2.2, sbp (eu s x y n).2.2.2.2.1 (prd s (dq s (eu s x y n).1 (eu s x y n).2.1) (eu s x y n).2.2.2.2.2))
/-- what keeps the chain's polynomials small -/
def EuB {k : Nat} (t : Pl k × Pl k × Pl k × Pl k × Pl k × Pl k) : Prop :=
  (Bd t.1 9 ∧ Bd t.2.1 9) ∧ (Bd t.2.2.1 17 ∧ Bd t.2.2.2.1 17 ∧ Bd t.2.2.2.2.1 17 ∧ Bd t.2.2.2.2.2 17) ∧ (dg t.2.2.2.1 + dg t.1 ≤ 8 ∧ dg t.2.2.1 + dg t.2.1 ≤ 8) ∧ dg t.2.2.2.2.2 + dg t.1 ≤ 8 ∧ dg t.2.2.2.2.1 + dg t.2.1 ≤ 8
theorem eu_b0 {k : Nat} {a b f0 f1 : Pl k} {s : Int} (ha : Bd a 9) (hb : Bd b 9) (h0 : Bd f0 17) (h1 : Bd f1 17) (hd : dg f1 + dg a ≤ 8) (he : dg f0 + dg b ≤ 8) (h : 0 ≤ dg b) :
    Bd (sbp f0 (prd s (dq s a b) f1)) 17 ∧ dg (sbp f0 (prd s (dq s a b) f1)) + dg b ≤ 8 ∧ dg (dq s a b) + dg f1 ≤ 16 ∧ dg f1 + dg (dr s a b) ≤ 8 := by
  obtain ⟨q1, q2, q3, q4, q5⟩ := dg_dv s (ha.mono (by decide)) (hb.mono (by decide)) h
  have p1 := dg_prd (s := s) (q1.mono (show 17 ≤ 32 by decide)) (h1.mono (show 17 ≤ 32 by decide))
  have a1 := dg_ge a
  have a2 := dg_ge f0
  have a3 := dg_ge f1
  have a4 := dg_ge (dq s a b)
  have a5 := dg_lt ha (by decide)
  have a6 := dg_lt hb (by decide)
  have p2 : dg (prd s (dq s a b) f1) ≤ max (-1) (8 - dg b) := by
    by_cases q : dg (dq s a b) < 0 ∨ dg f1 < 0
    · rw [p1.1 q, dg_pz]; omega
    · have := p1.2.1 (by omega) (by omega)
      omega
  have p3 := dg_sbp (h0.mono (show 17 ≤ 64 by decide)) p1.2.2
  have p4 : Bd (sbp f0 (prd s (dq s a b) f1)) 64 := Bd_sbp' (h0.mono (by decide)) p1.2.2
  refine ⟨dg_bd p4 (by omega), by omega, by omega, by omega⟩
theorem EuB.step {k : Nat} {s : Int} {x y : Pl k} {n : Nat} (h : EuB (eu s x y n)) (hb : 0 ≤ dg (eu s x y n).2.1) : EuB (eu s x y (n + 1)) := by
  obtain ⟨⟨h1, h2⟩, ⟨h3, h4, h5, h6⟩, ⟨h7, h8⟩, h9, h10⟩ := h
  have f := eu_b0 (s := s) h1 h2 h3 h4 h7 h8 hb
  have g := eu_b0 (s := s) h1 h2 h5 h6 h9 h10 hb
  have hr := dr_bd s (isdg_dg (h2.mono (by decide)) hb) h1
  have hl := dg_lt h2 (by decide)
  exact ⟨⟨h2, hr.mono (by omega)⟩, ⟨h4, f.1, h6, g.1⟩, ⟨f.2.1, f.2.2.2⟩, g.2.1, g.2.2.2⟩
theorem one_bd {k : Nat} : Bd (one : Pl k) 1 := fun j hj => by show mono e1 0 j = z0; rw [mono_at, if_neg (by omega)]
theorem dg_one {k : Nat} : dg (one : Pl k) = 0 := dg_eq (one_bd.mono (by decide)) one_dg
theorem EuB.zero {k : Nat} {s : Int} {x y : Pl k} (hx : Bd x 9) (hy : Bd y 9) : EuB (eu s x y 0) := by
  have h1 := dg_lt hx (by decide)
  have h2 := dg_lt hy (by decide)
  refine ⟨⟨hx, hy⟩, ⟨one_bd.mono (by decide), fun _ _ => rfl, fun _ _ => rfl, one_bd.mono (by decide)⟩, ⟨?_, ?_⟩, ?_, ?_⟩
  · show dg pz + dg x ≤ 8
    rw [dg_pz]; omega
  · show dg one + dg y ≤ 8
    rw [dg_one]; omega
  · show dg one + dg x ≤ 8
    rw [dg_one]; omega
  · show dg pz + dg y ≤ 8
    rw [dg_pz]; omega
/-- the chain has ended after n divisions -/
def EuE {k : Nat} (s : Int) (x y : Pl k) (n : Nat) : Prop := (∀ m : Nat, m < n → (eu s x y m).2.1 ≠ pz) ∧ (eu s x y n).2.1 = pz
theorem EuE.uniq {k : Nat} {s : Int} {x y : Pl k} {n m : Nat} (h : EuE s x y n) (h' : EuE s x y m) : n = m := by
  rcases Nat.lt_trichotomy n m with q | q | q
  · exact absurd h.2 (h'.1 n q)
  · exact q
  · exact absurd h'.2 (h.1 m q)
set_option maxRecDepth 100000 in
theorem c_less {d : Nat} {M : Mem} {k : Nat} {P : Int → Option (Pl k)} (C : CS M k P) {f_q : Pl k} (hq : isC P 40 f_q) {x y o : Int} (s : Int) {f_x : Pl k} (hx : isC P x f_x) {f_y : Pl k} (hy : isC P y f_y) (ho : isP o) (xn : x ≠ 8 ∧ x ≠ 42) (yn : y ≠ 8) (hd : dg f_q + dg f_y ≤ 16) (hs : s = 0 ∨ s = 1) : Ct 198 (d + 4) 56 [(1, 18), (1, x), (1, y), (0, s), (1, o)] M (fun r M' => r = (4, 0) ∧ CS M' k (pu (pu (pu P 8 (prd s f_q f_y)) 42 (prd s f_q f_y)) o (sbp f_x (prd s f_q f_y))) ∧ NPS M M') := by
  have hK : cd 56 = k56 := rfl
  show Wp 198 _ 56 0 [(1, 18), (1, x), (1, y), (0, s), (1, o)] [] M _
  refine w_al hK rfl rfl ?_
  refine w_getr (n := 0) (v := 7) hK rfl rfl (by decide) (by decide) rfl rfl rfl rfl ?_
  refine w_il hK rfl rfl ?_
  refine w_al hK rfl rfl ?_
  refine w_getr (n := 4) (v := 40) hK rfl rfl (by decide) (by decide) rfl rfl rfl rfl ?_
  refine w_al hK rfl rfl ?_
  refine w_al hK rfl rfl ?_
  refine w_getr (n := 5) (v := 42) hK rfl rfl (by decide) (by decide) rfl rfl rfl rfl ?_
  refine w_call [(1, 7), (0, s), (1, 40), (1, y), (1, 42)] hK rfl rfl rfl rfl (Or.inr ⟨_, _, _, rfl, by decide, (by decide), rfl⟩) (c_rpat C s hq hy (isP_of (p := 42) rfl) (by omega) (by omega) (by omega) (by omega)) ?_
  rintro _ V4 ⟨rfl, C4, S4⟩
  refine ⟨by decide, (?_ : Wp 198 _ 56 9 [(1, 18), (1, x), (1, y), (0, s), (1, o)] [] V4 _)⟩
  refine w_al hK rfl rfl ?_
  refine w_getr (n := 0) (v := 7) hK rfl rfl (by decide) (by decide) rfl rfl rfl rfl ?_
  refine w_al hK rfl rfl ?_
  refine w_al hK rfl rfl ?_
  refine w_getr (n := 5) (v := 42) hK rfl rfl (by decide) (by decide) rfl rfl rfl rfl ?_
  refine w_al hK rfl rfl ?_
  refine w_call [(1, 7), (1, x), (1, 42), (1, o)] hK rfl rfl rfl rfl (Or.inr ⟨_, _, _, rfl, by decide, (by decide), rfl⟩) (c_rdif C4 ⟨hx.1, ((pu_ne (P := pu P 8 (prd s f_q f_y)) (f := prd s f_q f_y) (show x ≠ 42 by omega)).trans ((pu_ne (P := P) (f := prd s f_q f_y) (show x ≠ 8 by omega)).trans hx.2))⟩ ⟨(isP_of (p := 42) rfl), pu_eq⟩ ho) ?_
  rintro _ V5 ⟨rfl, C5, S5⟩
  refine ⟨by decide, (?_ : Wp 198 _ 56 16 [(1, 18), (1, x), (1, y), (0, s), (1, o)] [] V5 _)⟩
  refine w_ret hK rfl rfl ?_
  exact ⟨rfl, C5, (S4.tr S5)⟩
