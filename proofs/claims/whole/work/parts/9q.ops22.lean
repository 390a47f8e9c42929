/-! the class's calls: what monic and form refuse */ -/
set_option maxRecDepth 100000 in
theorem z_monic {d : Nat} {M : Mem} {k : Nat} {pl : Nat → Pl k} {n : Int} {tx : Int → Int} {rc : Nat} {rw : Int → Int} {fc : Nat} {fa : Nat → Pl k} (H : CLS M k pl n tx rc rw fc fa) (i : Nat) (hi : i < 6) (hi0 : dg (pl i) < 0) : Ct 198 (d + 8) 154 [(1, 0), (0, (i : Int))] M (fun r_ M' => r_ = (0, -2) ∧ M' = M) := by
  have hK : cd 154 = k154 := rfl
  obtain ⟨P, u_, l_, z_, C, E, hpl, T, hR, hF⟩ := H
  have q1_ := qq_I k
  have p1_ := pp_I k
  have m1_ := mm_I k
  have bi_ := (hpl i hi).2
  have di_ := dg_lt9 bi_
  have l0_ : (ld (pl i)).val = 0 := by rw [show ld (pl i) = z0 from by unfold ld cf; rw [if_neg (by omega)], z0_val]
  show Wp 198 _ 154 0 [(1, 0), (0, (i : Int)), (3, 0), (3, 0)] [] M _
  refine w_al hK rfl rfl ?_
  refine w_il hK rfl rfl ?_
  refine w_call [(1, 0), (0, (i : Int))] hK rfl rfl rfl rfl (Or.inr ⟨_, _, _, rfl, by decide, (by decide), rfl⟩) (c_pl i hi) ?_
  rintro _ Mq ⟨rfl, e_⟩
  subst Mq
  refine ⟨(by show (1 : Nat) ≠ 9; decide), (?_ : Wp 198 _ 154 3 [(1, 0), (0, (i : Int)), (3, 0), (3, 0)] [(1, (149 + 2 * (i : Int)))] M _)⟩
  refine w_as [(1, 0), (0, (i : Int)), (1, (149 + 2 * (i : Int))), (3, 0)] hK rfl rfl rfl ?_
  refine w_al hK rfl rfl ?_
  refine w_nonnull hK rfl (fun h5 => ?_) (fun h5 => ?_)
  · refine w_al hK rfl rfl ?_
    refine w_call [(1, (149 + 2 * (i : Int)))] hK rfl rfl rfl rfl (Or.inr ⟨_, _, _, rfl, (isPP hi).nn, (isPP hi).lb, (isPP hi).o⟩) (c_ld C ⟨(isPP hi), (hpl i hi).1⟩) ?_
    rintro _ Mq ⟨rfl, e_⟩
    subst Mq
    have bv_ := el_I (ld (pl i))
    refine ⟨by show (0 : Nat) ≠ 9; decide, (?_ : Wp 198 _ 154 10 [(1, 0), (0, (i : Int)), (1, (149 + 2 * (i : Int))), (3, 0)] [(0, ((ld (pl i)).val : Int))] M _)⟩
    refine w_is [(1, 0), (0, (i : Int)), (1, (149 + 2 * (i : Int))), (0, ((ld (pl i)).val : Int))] hK rfl rfl rfl ?_
    refine w_il hK rfl rfl ?_
    refine w_ne hK rfl (by omega) (by omega) (fun h12 => ?_) (fun h12 => ?_)
    · exfalso; omega
    · refine w_ic hK rfl ?_
      refine w_iret hK rfl rfl ?_
      exact ⟨rfl, rfl⟩
  · exfalso; omega
set_option maxRecDepth 100000 in
theorem n_form {d : Nat} {M : Mem} {k : Nat} {pl : Nat → Pl k} {n : Int} {tx : Int → Int} {rc : Nat} {rw : Int → Int} {fc : Nat} {fa : Nat → Pl k} (H : CLS M k pl n tx rc rw fc fa) (i x : Int) (i1_ : -2147483648 ≤ i) (i2_ : i ≤ 2147483647) (x1_ : -2147483648 ≤ x) (x2_ : x ≤ 2147483647) (hn : ¬ (0 ≤ i ∧ i < 6)) : Ct 198 (d + 8) 155 [(1, 0), (0, i), (0, x)] M (fun r_ M' => r_ = (0, -1) ∧ M' = M) := by
  have hK : cd 155 = k155 := rfl
  obtain ⟨P, u_, l_, z_, C, E, hpl, T, hR, hF⟩ := H
  have q1_ := qq_I k
  have p1_ := pp_I k
  have m1_ := mm_I k
  show Wp 198 _ 155 0 [(1, 0), (0, i), (0, x), (3, 0)] [] M _
  refine w_al hK rfl rfl ?_
  refine w_il hK rfl rfl ?_
  refine w_call [(1, 0), (0, i)] hK rfl rfl rfl rfl (Or.inr ⟨_, _, _, rfl, by decide, (by decide), rfl⟩) (c_plI i (by omega) (by omega)) ?_
  rintro _ Mq ⟨rfl, e_⟩
  subst Mq
  have pI_ := plr_I i
  refine ⟨(by show (1 : Nat) ≠ 9; decide), (?_ : Wp 198 _ 155 3 [(1, 0), (0, i), (0, x), (3, 0)] [(1, (plr i))] M _)⟩
  refine w_as [(1, 0), (0, i), (0, x), (1, (plr i))] hK rfl rfl rfl ?_
  refine w_al hK rfl rfl ?_
  refine w_nonnull hK rfl (fun h5 => ?_) (fun h5 => ?_)
  · exfalso; omega
  · refine w_ic hK rfl ?_
    refine w_iret hK rfl rfl ?_
    exact ⟨rfl, rfl⟩
set_option maxRecDepth 100000 in
theorem m_form {d : Nat} {M : Mem} {k : Nat} {pl : Nat → Pl k} {n : Int} {tx : Int → Int} {rc : Nat} {rw : Int → Int} {fc : Nat} {fa : Nat → Pl k} (H : CLS M k pl n tx rc rw fc fa) (i : Nat) (hi : i < 6) (x : Int) (x1_ : -2147483648 ≤ x) (x2_ : x ≤ 2147483647) (hn : x < 0 ∨ 3 < x) : Ct 198 (d + 8) 155 [(1, 0), (0, (i : Int)), (0, x)] M (fun r_ M' => r_ = (0, -1) ∧ M' = M) := by
  have hK : cd 155 = k155 := rfl
  obtain ⟨P, u_, l_, z_, C, E, hpl, T, hR, hF⟩ := H
  have q1_ := qq_I k
  have p1_ := pp_I k
  have m1_ := mm_I k
  have bi_ := (hpl i hi).2
  have di_ := dg_lt9 bi_
  show Wp 198 _ 155 0 [(1, 0), (0, (i : Int)), (0, x), (3, 0)] [] M _
  refine w_al hK rfl rfl ?_
  refine w_il hK rfl rfl ?_
  refine w_call [(1, 0), (0, (i : Int))] hK rfl rfl rfl rfl (Or.inr ⟨_, _, _, rfl, by decide, (by decide), rfl⟩) (c_pl i hi) ?_
  rintro _ Mq ⟨rfl, e_⟩
  subst Mq
  refine ⟨(by show (1 : Nat) ≠ 9; decide), (?_ : Wp 198 _ 155 3 [(1, 0), (0, (i : Int)), (0, x), (3, 0)] [(1, (149 + 2 * (i : Int)))] M _)⟩
  refine w_as [(1, 0), (0, (i : Int)), (0, x), (1, (149 + 2 * (i : Int)))] hK rfl rfl rfl ?_
  refine w_al hK rfl rfl ?_
  refine w_nonnull hK rfl (fun h5 => ?_) (fun h5 => ?_)
  · refine w_il hK rfl rfl ?_
    refine w_tab hK rfl rfl (by omega) (by omega) (fun _ => ?_) (fun h_ h2_ => absurd h_ (by omega))
    show Wp 198 _ 155 31 [(1, 0), (0, (i : Int)), (0, x), (1, (149 + 2 * (i : Int)))] [] M _
    refine w_ic hK rfl ?_
    refine w_iret hK rfl rfl ?_
    exact ⟨rfl, rfl⟩
  · exfalso; omega
