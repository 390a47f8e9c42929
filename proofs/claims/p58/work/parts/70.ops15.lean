/-! the class's calls: what like, commuting, bound and part refuse -/
set_option maxRecDepth 100000 in
theorem y_part {d : Nat} {M : Mem} {k : Nat} {pl : Nat → Pl k} {n : Int} {tx : Int → Int} {rc : Nat} {rw : Int → Int} {fc : Nat} {fa : Nat → Pl k} (H : CLS M k pl n tx rc rw fc fa) (i : Nat) (hi : i < 6) (j : Nat) (hj : j < 6) (hi0 : dg (pl i) < 0) : Ct 198 (d + 8) 182 [(1, 0), (0, (i : Int)), (0, (j : Int))] M (fun r_ M' => r_ = (0, -2) ∧ M' = M) := by
  have hK : cd 182 = k182 := rfl
  obtain ⟨P, u_, l_, z_, C, E, hpl, T, hR, hF⟩ := H
  have q1_ := qq_I k
  have p1_ := pp_I k
  have m1_ := mm_I k
  have bi_ := (hpl i hi).2
  have di_ := dg_lt9 bi_
  have bj_ := (hpl j hj).2
  have dj_ := dg_lt9 bj_
  show Wp 198 _ 182 0 [(1, 0), (0, (i : Int)), (0, (j : Int)), (3, 0), (3, 0), (3, 0)] [] M _
  refine w_al hK rfl rfl ?_
  refine w_il hK rfl rfl ?_
  refine w_call [(1, 0), (0, (i : Int))] hK rfl rfl rfl rfl (Or.inr ⟨_, _, _, rfl, by decide, (by decide), rfl⟩) (c_pl i hi) ?_
  rintro _ Mq ⟨rfl, e_⟩
  subst Mq
  refine ⟨(by show (1 : Nat) ≠ 9; decide), (?_ : Wp 198 _ 182 3 [(1, 0), (0, (i : Int)), (0, (j : Int)), (3, 0), (3, 0), (3, 0)] [(1, (149 + 2 * (i : Int)))] M _)⟩
  refine w_as [(1, 0), (0, (i : Int)), (0, (j : Int)), (1, (149 + 2 * (i : Int))), (3, 0), (3, 0)] hK rfl rfl rfl ?_
  refine w_al hK rfl rfl ?_
  refine w_il hK rfl rfl ?_
  refine w_call [(1, 0), (0, (j : Int))] hK rfl rfl rfl rfl (Or.inr ⟨_, _, _, rfl, by decide, (by decide), rfl⟩) (c_pl j hj) ?_
  rintro _ Mq ⟨rfl, e_⟩
  subst Mq
  refine ⟨(by show (1 : Nat) ≠ 9; decide), (?_ : Wp 198 _ 182 7 [(1, 0), (0, (i : Int)), (0, (j : Int)), (1, (149 + 2 * (i : Int))), (3, 0), (3, 0)] [(1, (149 + 2 * (j : Int)))] M _)⟩
  refine w_as [(1, 0), (0, (i : Int)), (0, (j : Int)), (1, (149 + 2 * (i : Int))), (1, (149 + 2 * (j : Int))), (3, 0)] hK rfl rfl rfl ?_
  refine w_al hK rfl rfl ?_
  refine w_null hK rfl (fun h9 => ?_) (fun h9 => ?_)
  · exfalso; omega
  · refine w_al hK rfl rfl ?_
    refine w_nonnull hK rfl (fun h11 => ?_) (fun h11 => ?_)
    · refine w_al hK rfl rfl ?_
      refine w_call [(1, (149 + 2 * (i : Int)))] hK rfl rfl rfl rfl (Or.inl rfl) (c_refus C ⟨(isPP hi), (hpl i hi).1⟩) ?_
      rintro _ Mq ⟨rfl, e_⟩
      subst Mq
      refine ⟨by show (0 : Nat) ≠ 9; decide, (?_ : Wp 198 _ 182 16 [(1, 0), (0, (i : Int)), (0, (j : Int)), (1, (149 + 2 * (i : Int))), (1, (149 + 2 * (j : Int))), (3, 0)] [(0, (if dg (pl i) < 0 then -2 else if 4 < dg (pl i) then -3 else 0))] M _)⟩
      have rI_ : (if dg (pl i) < 0 then -2 else if 4 < dg (pl i) then -3 else 0) = (-2 : Int) := by rw [if_pos (by omega)]
      refine w_is [(1, 0), (0, (i : Int)), (0, (j : Int)), (1, (149 + 2 * (i : Int))), (1, (149 + 2 * (j : Int))), (0, (if dg (pl i) < 0 then -2 else if 4 < dg (pl i) then -3 else 0))] hK rfl rfl rfl ?_
      refine w_il hK rfl rfl ?_
      refine w_ge hK rfl (by omega) (by omega) (fun h18 => ?_) (fun h18 => ?_)
      · exfalso; omega
      · refine w_il hK rfl rfl ?_
        refine w_iret hK rfl rfl ?_
        exact ⟨congrArg (Prod.mk 0) rI_, rfl⟩
    · exfalso; omega
set_option maxRecDepth 100000 in
theorem z_part {d : Nat} {M : Mem} {k : Nat} {pl : Nat → Pl k} {n : Int} {tx : Int → Int} {rc : Nat} {rw : Int → Int} {fc : Nat} {fa : Nat → Pl k} (H : CLS M k pl n tx rc rw fc fa) (i : Nat) (hi : i < 6) (j : Nat) (hj : j < 6) (hi0 : 4 < dg (pl i)) : Ct 198 (d + 8) 182 [(1, 0), (0, (i : Int)), (0, (j : Int))] M (fun r_ M' => r_ = (0, -3) ∧ M' = M) := by
  have hK : cd 182 = k182 := rfl
  obtain ⟨P, u_, l_, z_, C, E, hpl, T, hR, hF⟩ := H
  have q1_ := qq_I k
  have p1_ := pp_I k
  have m1_ := mm_I k
  have bi_ := (hpl i hi).2
  have di_ := dg_lt9 bi_
  have bj_ := (hpl j hj).2
  have dj_ := dg_lt9 bj_
  show Wp 198 _ 182 0 [(1, 0), (0, (i : Int)), (0, (j : Int)), (3, 0), (3, 0), (3, 0)] [] M _
  refine w_al hK rfl rfl ?_
  refine w_il hK rfl rfl ?_
  refine w_call [(1, 0), (0, (i : Int))] hK rfl rfl rfl rfl (Or.inr ⟨_, _, _, rfl, by decide, (by decide), rfl⟩) (c_pl i hi) ?_
  rintro _ Mq ⟨rfl, e_⟩
  subst Mq
  refine ⟨(by show (1 : Nat) ≠ 9; decide), (?_ : Wp 198 _ 182 3 [(1, 0), (0, (i : Int)), (0, (j : Int)), (3, 0), (3, 0), (3, 0)] [(1, (149 + 2 * (i : Int)))] M _)⟩
  refine w_as [(1, 0), (0, (i : Int)), (0, (j : Int)), (1, (149 + 2 * (i : Int))), (3, 0), (3, 0)] hK rfl rfl rfl ?_
  refine w_al hK rfl rfl ?_
  refine w_il hK rfl rfl ?_
  refine w_call [(1, 0), (0, (j : Int))] hK rfl rfl rfl rfl (Or.inr ⟨_, _, _, rfl, by decide, (by decide), rfl⟩) (c_pl j hj) ?_
  rintro _ Mq ⟨rfl, e_⟩
  subst Mq
  refine ⟨(by show (1 : Nat) ≠ 9; decide), (?_ : Wp 198 _ 182 7 [(1, 0), (0, (i : Int)), (0, (j : Int)), (1, (149 + 2 * (i : Int))), (3, 0), (3, 0)] [(1, (149 + 2 * (j : Int)))] M _)⟩
  refine w_as [(1, 0), (0, (i : Int)), (0, (j : Int)), (1, (149 + 2 * (i : Int))), (1, (149 + 2 * (j : Int))), (3, 0)] hK rfl rfl rfl ?_
  refine w_al hK rfl rfl ?_
  refine w_null hK rfl (fun h9 => ?_) (fun h9 => ?_)
  · exfalso; omega
  · refine w_al hK rfl rfl ?_
    refine w_nonnull hK rfl (fun h11 => ?_) (fun h11 => ?_)
    · refine w_al hK rfl rfl ?_
      refine w_call [(1, (149 + 2 * (i : Int)))] hK rfl rfl rfl rfl (Or.inl rfl) (c_refus C ⟨(isPP hi), (hpl i hi).1⟩) ?_
      rintro _ Mq ⟨rfl, e_⟩
      subst Mq
      refine ⟨by show (0 : Nat) ≠ 9; decide, (?_ : Wp 198 _ 182 16 [(1, 0), (0, (i : Int)), (0, (j : Int)), (1, (149 + 2 * (i : Int))), (1, (149 + 2 * (j : Int))), (3, 0)] [(0, (if dg (pl i) < 0 then -2 else if 4 < dg (pl i) then -3 else 0))] M _)⟩
      have rI_ : (if dg (pl i) < 0 then -2 else if 4 < dg (pl i) then -3 else 0) = (-3 : Int) := by rw [if_neg (by omega), if_pos (by omega)]
      refine w_is [(1, 0), (0, (i : Int)), (0, (j : Int)), (1, (149 + 2 * (i : Int))), (1, (149 + 2 * (j : Int))), (0, (if dg (pl i) < 0 then -2 else if 4 < dg (pl i) then -3 else 0))] hK rfl rfl rfl ?_
      refine w_il hK rfl rfl ?_
      refine w_ge hK rfl (by omega) (by omega) (fun h18 => ?_) (fun h18 => ?_)
      · exfalso; omega
      · refine w_il hK rfl rfl ?_
        refine w_iret hK rfl rfl ?_
        exact ⟨congrArg (Prod.mk 0) rI_, rfl⟩
    · exfalso; omega
set_option maxRecDepth 100000 in
theorem n_part {d : Nat} {M : Mem} {k : Nat} {pl : Nat → Pl k} {n : Int} {tx : Int → Int} {rc : Nat} {rw : Int → Int} {fc : Nat} {fa : Nat → Pl k} (H : CLS M k pl n tx rc rw fc fa) (i j : Int) (i1_ : -2147483648 ≤ i) (i2_ : i ≤ 2147483647) (j1_ : -2147483648 ≤ j) (j2_ : j ≤ 2147483647) (hn : ¬ ((0 ≤ i ∧ i < 6) ∧ (0 ≤ j ∧ j < 6))) : Ct 198 (d + 8) 182 [(1, 0), (0, i), (0, j)] M (fun r_ M' => r_ = (0, -1) ∧ M' = M) := by
  have hK : cd 182 = k182 := rfl
  obtain ⟨P, u_, l_, z_, C, E, hpl, T, hR, hF⟩ := H
  have q1_ := qq_I k
  have p1_ := pp_I k
  have m1_ := mm_I k
  show Wp 198 _ 182 0 [(1, 0), (0, i), (0, j), (3, 0), (3, 0), (3, 0)] [] M _
  refine w_al hK rfl rfl ?_
  refine w_il hK rfl rfl ?_
  refine w_call [(1, 0), (0, i)] hK rfl rfl rfl rfl (Or.inr ⟨_, _, _, rfl, by decide, (by decide), rfl⟩) (c_plI i (by omega) (by omega)) ?_
  rintro _ Mq ⟨rfl, e_⟩
  subst Mq
  have pI_ := plr_I i
  refine ⟨(by show (1 : Nat) ≠ 9; decide), (?_ : Wp 198 _ 182 3 [(1, 0), (0, i), (0, j), (3, 0), (3, 0), (3, 0)] [(1, (plr i))] M _)⟩
  refine w_as [(1, 0), (0, i), (0, j), (1, (plr i)), (3, 0), (3, 0)] hK rfl rfl rfl ?_
  refine w_al hK rfl rfl ?_
  refine w_il hK rfl rfl ?_
  refine w_call [(1, 0), (0, j)] hK rfl rfl rfl rfl (Or.inr ⟨_, _, _, rfl, by decide, (by decide), rfl⟩) (c_plI j (by omega) (by omega)) ?_
  rintro _ Mq ⟨rfl, e_⟩
  subst Mq
  have pI_ := plr_I j
  refine ⟨(by show (1 : Nat) ≠ 9; decide), (?_ : Wp 198 _ 182 7 [(1, 0), (0, i), (0, j), (1, (plr i)), (3, 0), (3, 0)] [(1, (plr j))] M _)⟩
  refine w_as [(1, 0), (0, i), (0, j), (1, (plr i)), (1, (plr j)), (3, 0)] hK rfl rfl rfl ?_
  refine w_al hK rfl rfl ?_
  refine w_null hK rfl (fun h9 => ?_) (fun h9 => ?_)
  · refine w_ic hK rfl ?_
    refine w_iret hK rfl rfl ?_
    exact ⟨rfl, rfl⟩
  · refine w_al hK rfl rfl ?_
    refine w_nonnull hK rfl (fun h11 => ?_) (fun h11 => ?_)
    · exfalso; omega
    · refine w_ic hK rfl ?_
      refine w_iret hK rfl rfl ?_
      exact ⟨rfl, rfl⟩
set_option maxRecDepth 100000 in
theorem n_bound {d : Nat} {M : Mem} {k : Nat} {pl : Nat → Pl k} {n : Int} {tx : Int → Int} {rc : Nat} {rw : Int → Int} {fc : Nat} {fa : Nat → Pl k} (H : CLS M k pl n tx rc rw fc fa) (i : Int) (i1_ : -2147483648 ≤ i) (i2_ : i ≤ 2147483647) (hn : ¬ (0 ≤ i ∧ i < 6)) : Ct 198 (d + 8) 181 [(1, 0), (0, i)] M (fun r_ M' => r_ = (0, -1) ∧ M' = M) := by
  have hK : cd 181 = k181 := rfl
  obtain ⟨P, u_, l_, z_, C, E, hpl, T, hR, hF⟩ := H
  have q1_ := qq_I k
  have p1_ := pp_I k
  have m1_ := mm_I k
  show Wp 198 _ 181 0 [(1, 0), (0, i), (3, 0), (3, 0), (3, 0)] [] M _
  refine w_al hK rfl rfl ?_
  refine w_il hK rfl rfl ?_
  refine w_call [(1, 0), (0, i)] hK rfl rfl rfl rfl (Or.inr ⟨_, _, _, rfl, by decide, (by decide), rfl⟩) (c_plI i (by omega) (by omega)) ?_
  rintro _ Mq ⟨rfl, e_⟩
  subst Mq
  have pI_ := plr_I i
  refine ⟨(by show (1 : Nat) ≠ 9; decide), (?_ : Wp 198 _ 181 3 [(1, 0), (0, i), (3, 0), (3, 0), (3, 0)] [(1, (plr i))] M _)⟩
  refine w_as [(1, 0), (0, i), (1, (plr i)), (3, 0), (3, 0)] hK rfl rfl rfl ?_
  refine w_al hK rfl rfl ?_
  refine w_nonnull hK rfl (fun h5 => ?_) (fun h5 => ?_)
  · exfalso; omega
  · refine w_ic hK rfl ?_
    refine w_iret hK rfl rfl ?_
    exact ⟨rfl, rfl⟩
set_option maxRecDepth 100000 in
theorem y_bound {d : Nat} {M : Mem} {k : Nat} {pl : Nat → Pl k} {n : Int} {tx : Int → Int} {rc : Nat} {rw : Int → Int} {fc : Nat} {fa : Nat → Pl k} (H : CLS M k pl n tx rc rw fc fa) (i : Nat) (hi : i < 6) (hi0 : dg (pl i) < 0) : Ct 198 (d + 8) 181 [(1, 0), (0, (i : Int))] M (fun r_ M' => r_ = (0, -2) ∧ M' = M) := by
  have hK : cd 181 = k181 := rfl
  obtain ⟨P, u_, l_, z_, C, E, hpl, T, hR, hF⟩ := H
  have q1_ := qq_I k
  have p1_ := pp_I k
  have m1_ := mm_I k
  have bi_ := (hpl i hi).2
  have di_ := dg_lt9 bi_
  show Wp 198 _ 181 0 [(1, 0), (0, (i : Int)), (3, 0), (3, 0), (3, 0)] [] M _
  refine w_al hK rfl rfl ?_
  refine w_il hK rfl rfl ?_
  refine w_call [(1, 0), (0, (i : Int))] hK rfl rfl rfl rfl (Or.inr ⟨_, _, _, rfl, by decide, (by decide), rfl⟩) (c_pl i hi) ?_
  rintro _ Mq ⟨rfl, e_⟩
  subst Mq
  refine ⟨(by show (1 : Nat) ≠ 9; decide), (?_ : Wp 198 _ 181 3 [(1, 0), (0, (i : Int)), (3, 0), (3, 0), (3, 0)] [(1, (149 + 2 * (i : Int)))] M _)⟩
  refine w_as [(1, 0), (0, (i : Int)), (1, (149 + 2 * (i : Int))), (3, 0), (3, 0)] hK rfl rfl rfl ?_
  refine w_al hK rfl rfl ?_
  refine w_nonnull hK rfl (fun h5 => ?_) (fun h5 => ?_)
  · refine w_al hK rfl rfl ?_
    refine w_pt hK rfl (isPP hi) ?_
    rw [show M (149 + 2 * (i : Int)) 1 = dg (pl i) from C.t ⟨(isPP hi), (hpl i hi).1⟩]
    have tI_ := CS.dI C ⟨(isPP hi), (hpl i hi).1⟩
    refine w_ge hK rfl (by omega) (by omega) (fun h10 => ?_) (fun h10 => ?_)
    · exfalso; omega
    · refine w_ic hK rfl ?_
      refine w_iret hK rfl rfl ?_
      exact ⟨rfl, rfl⟩
  · exfalso; omega
set_option maxRecDepth 100000 in
theorem n_commuting {d : Nat} {M : Mem} {k : Nat} {pl : Nat → Pl k} {n : Int} {tx : Int → Int} {rc : Nat} {rw : Int → Int} {fc : Nat} {fa : Nat → Pl k} (H : CLS M k pl n tx rc rw fc fa) (i : Int) (i1_ : -2147483648 ≤ i) (i2_ : i ≤ 2147483647) (hn : ¬ (0 ≤ i ∧ i < 6)) : Ct 198 (d + 8) 179 [(1, 0), (0, i)] M (fun r_ M' => r_ = (0, -1) ∧ M' = M) := by
  have hK : cd 179 = k179 := rfl
  obtain ⟨P, u_, l_, z_, C, E, hpl, T, hR, hF⟩ := H
  have q1_ := qq_I k
  have p1_ := pp_I k
  have m1_ := mm_I k
  show Wp 198 _ 179 0 [(1, 0), (0, i), (3, 0), (3, 0)] [] M _
  refine w_al hK rfl rfl ?_
  refine w_il hK rfl rfl ?_
  refine w_call [(1, 0), (0, i)] hK rfl rfl rfl rfl (Or.inr ⟨_, _, _, rfl, by decide, (by decide), rfl⟩) (c_plI i (by omega) (by omega)) ?_
  rintro _ Mq ⟨rfl, e_⟩
  subst Mq
  have pI_ := plr_I i
  refine ⟨(by show (1 : Nat) ≠ 9; decide), (?_ : Wp 198 _ 179 3 [(1, 0), (0, i), (3, 0), (3, 0)] [(1, (plr i))] M _)⟩
  refine w_as [(1, 0), (0, i), (1, (plr i)), (3, 0)] hK rfl rfl rfl ?_
  refine w_al hK rfl rfl ?_
  refine w_nonnull hK rfl (fun h5 => ?_) (fun h5 => ?_)
  · exfalso; omega
  · refine w_ic hK rfl ?_
    refine w_iret hK rfl rfl ?_
    exact ⟨rfl, rfl⟩
set_option maxRecDepth 100000 in
theorem y_commuting {d : Nat} {M : Mem} {k : Nat} {pl : Nat → Pl k} {n : Int} {tx : Int → Int} {rc : Nat} {rw : Int → Int} {fc : Nat} {fa : Nat → Pl k} (H : CLS M k pl n tx rc rw fc fa) (i : Nat) (hi : i < 6) (hi0 : dg (pl i) < 0) : Ct 198 (d + 8) 179 [(1, 0), (0, (i : Int))] M (fun r_ M' => r_ = (0, -2) ∧ M' = M) := by
  have hK : cd 179 = k179 := rfl
  obtain ⟨P, u_, l_, z_, C, E, hpl, T, hR, hF⟩ := H
  have q1_ := qq_I k
  have p1_ := pp_I k
  have m1_ := mm_I k
  have bi_ := (hpl i hi).2
  have di_ := dg_lt9 bi_
  show Wp 198 _ 179 0 [(1, 0), (0, (i : Int)), (3, 0), (3, 0)] [] M _
  refine w_al hK rfl rfl ?_
  refine w_il hK rfl rfl ?_
  refine w_call [(1, 0), (0, (i : Int))] hK rfl rfl rfl rfl (Or.inr ⟨_, _, _, rfl, by decide, (by decide), rfl⟩) (c_pl i hi) ?_
  rintro _ Mq ⟨rfl, e_⟩
  subst Mq
  refine ⟨(by show (1 : Nat) ≠ 9; decide), (?_ : Wp 198 _ 179 3 [(1, 0), (0, (i : Int)), (3, 0), (3, 0)] [(1, (149 + 2 * (i : Int)))] M _)⟩
  refine w_as [(1, 0), (0, (i : Int)), (1, (149 + 2 * (i : Int))), (3, 0)] hK rfl rfl rfl ?_
  refine w_al hK rfl rfl ?_
  refine w_nonnull hK rfl (fun h5 => ?_) (fun h5 => ?_)
  · refine w_al hK rfl rfl ?_
    refine w_pt hK rfl (isPP hi) ?_
    rw [show M (149 + 2 * (i : Int)) 1 = dg (pl i) from C.t ⟨(isPP hi), (hpl i hi).1⟩]
    have tI_ := CS.dI C ⟨(isPP hi), (hpl i hi).1⟩
    refine w_ge hK rfl (by omega) (by omega) (fun h10 => ?_) (fun h10 => ?_)
    · exfalso; omega
    · refine w_ic hK rfl ?_
      refine w_iret hK rfl rfl ?_
      exact ⟨rfl, rfl⟩
  · exfalso; omega
set_option maxRecDepth 100000 in
theorem z_commuting {d : Nat} {M : Mem} {k : Nat} {pl : Nat → Pl k} {n : Int} {tx : Int → Int} {rc : Nat} {rw : Int → Int} {fc : Nat} {fa : Nat → Pl k} (H : CLS M k pl n tx rc rw fc fa) (i : Nat) (hi : i < 6) (hi0 : dg (pl i) = 0 ∨ 3 < dg (pl i)) : Ct 198 (d + 8) 179 [(1, 0), (0, (i : Int))] M (fun r_ M' => r_ = (0, -3) ∧ M' = M) := by
  have hK : cd 179 = k179 := rfl
  obtain ⟨P, u_, l_, z_, C, E, hpl, T, hR, hF⟩ := H
  have q1_ := qq_I k
  have p1_ := pp_I k
  have m1_ := mm_I k
  have bi_ := (hpl i hi).2
  have di_ := dg_lt9 bi_
  show Wp 198 _ 179 0 [(1, 0), (0, (i : Int)), (3, 0), (3, 0)] [] M _
  refine w_al hK rfl rfl ?_
  refine w_il hK rfl rfl ?_
  refine w_call [(1, 0), (0, (i : Int))] hK rfl rfl rfl rfl (Or.inr ⟨_, _, _, rfl, by decide, (by decide), rfl⟩) (c_pl i hi) ?_
  rintro _ Mq ⟨rfl, e_⟩
  subst Mq
  refine ⟨(by show (1 : Nat) ≠ 9; decide), (?_ : Wp 198 _ 179 3 [(1, 0), (0, (i : Int)), (3, 0), (3, 0)] [(1, (149 + 2 * (i : Int)))] M _)⟩
  refine w_as [(1, 0), (0, (i : Int)), (1, (149 + 2 * (i : Int))), (3, 0)] hK rfl rfl rfl ?_
  refine w_al hK rfl rfl ?_
  refine w_nonnull hK rfl (fun h5 => ?_) (fun h5 => ?_)
  · refine w_al hK rfl rfl ?_
    refine w_pt hK rfl (isPP hi) ?_
    rw [show M (149 + 2 * (i : Int)) 1 = dg (pl i) from C.t ⟨(isPP hi), (hpl i hi).1⟩]
    have tI_ := CS.dI C ⟨(isPP hi), (hpl i hi).1⟩
    refine w_ge hK rfl (by omega) (by omega) (fun h10 => ?_) (fun h10 => ?_)
    · refine w_al hK rfl rfl ?_
      refine w_pt hK rfl (isPP hi) ?_
      rw [show M (149 + 2 * (i : Int)) 1 = dg (pl i) from C.t ⟨(isPP hi), (hpl i hi).1⟩]
      have tI_ := CS.dI C ⟨(isPP hi), (hpl i hi).1⟩
      refine w_ic hK rfl ?_
      refine w_lt2 hK rfl (by omega) (by omega) (by omega) (by omega) (fun h16 => ?_) (fun h16 => ?_)
      · refine w_ic hK rfl ?_
        refine w_iret hK rfl rfl ?_
        exact ⟨rfl, rfl⟩
      · refine w_al hK rfl rfl ?_
        refine w_pt hK rfl (isPP hi) ?_
        rw [show M (149 + 2 * (i : Int)) 1 = dg (pl i) from C.t ⟨(isPP hi), (hpl i hi).1⟩]
        have tI_ := CS.dI C ⟨(isPP hi), (hpl i hi).1⟩
        refine w_ic hK rfl ?_
        refine w_le2 hK rfl (by omega) (by omega) (by omega) (by omega) (fun h20 => ?_) (fun h20 => ?_)
        · exfalso; omega
        · refine w_ic hK rfl ?_
          refine w_iret hK rfl rfl ?_
          exact ⟨rfl, rfl⟩
    · exfalso; omega
  · exfalso; omega
set_option maxRecDepth 100000 in
theorem n_like {d : Nat} {M : Mem} {k : Nat} {pl : Nat → Pl k} {n : Int} {tx : Int → Int} {rc : Nat} {rw : Int → Int} {fc : Nat} {fa : Nat → Pl k} (H : CLS M k pl n tx rc rw fc fa) (i j : Int) (i1_ : -2147483648 ≤ i) (i2_ : i ≤ 2147483647) (j1_ : -2147483648 ≤ j) (j2_ : j ≤ 2147483647) (hn : ¬ ((0 ≤ i ∧ i < 6) ∧ (0 ≤ j ∧ j < 6))) : Ct 198 (d + 8) 178 [(1, 0), (0, i), (0, j)] M (fun r_ M' => r_ = (0, -1) ∧ M' = M) := by
  have hK : cd 178 = k178 := rfl
  obtain ⟨P, u_, l_, z_, C, E, hpl, T, hR, hF⟩ := H
  have q1_ := qq_I k
  have p1_ := pp_I k
  have m1_ := mm_I k
  show Wp 198 _ 178 0 [(1, 0), (0, i), (0, j), (3, 0), (3, 0), (3, 0), (3, 0)] [] M _
  refine w_al hK rfl rfl ?_
  refine w_il hK rfl rfl ?_
  refine w_call [(1, 0), (0, i)] hK rfl rfl rfl rfl (Or.inr ⟨_, _, _, rfl, by decide, (by decide), rfl⟩) (c_plI i (by omega) (by omega)) ?_
  rintro _ Mq ⟨rfl, e_⟩
  subst Mq
  have pI_ := plr_I i
  refine ⟨(by show (1 : Nat) ≠ 9; decide), (?_ : Wp 198 _ 178 3 [(1, 0), (0, i), (0, j), (3, 0), (3, 0), (3, 0), (3, 0)] [(1, (plr i))] M _)⟩
  refine w_as [(1, 0), (0, i), (0, j), (1, (plr i)), (3, 0), (3, 0), (3, 0)] hK rfl rfl rfl ?_
  refine w_al hK rfl rfl ?_
  refine w_il hK rfl rfl ?_
  refine w_call [(1, 0), (0, j)] hK rfl rfl rfl rfl (Or.inr ⟨_, _, _, rfl, by decide, (by decide), rfl⟩) (c_plI j (by omega) (by omega)) ?_
  rintro _ Mq ⟨rfl, e_⟩
  subst Mq
  have pI_ := plr_I j
  refine ⟨(by show (1 : Nat) ≠ 9; decide), (?_ : Wp 198 _ 178 7 [(1, 0), (0, i), (0, j), (1, (plr i)), (3, 0), (3, 0), (3, 0)] [(1, (plr j))] M _)⟩
  refine w_as [(1, 0), (0, i), (0, j), (1, (plr i)), (1, (plr j)), (3, 0), (3, 0)] hK rfl rfl rfl ?_
  refine w_al hK rfl rfl ?_
  refine w_null hK rfl (fun h9 => ?_) (fun h9 => ?_)
  · refine w_ic hK rfl ?_
    refine w_iret hK rfl rfl ?_
    exact ⟨rfl, rfl⟩
  · refine w_al hK rfl rfl ?_
    refine w_nonnull hK rfl (fun h11 => ?_) (fun h11 => ?_)
    · exfalso; omega
    · refine w_ic hK rfl ?_
      refine w_iret hK rfl rfl ?_
      exact ⟨rfl, rfl⟩
set_option maxRecDepth 100000 in
theorem y_like {d : Nat} {M : Mem} {k : Nat} {pl : Nat → Pl k} {n : Int} {tx : Int → Int} {rc : Nat} {rw : Int → Int} {fc : Nat} {fa : Nat → Pl k} (H : CLS M k pl n tx rc rw fc fa) (i : Nat) (hi : i < 6) (j : Nat) (hj : j < 6) (hi0 : dg (pl i) < 0 ∨ dg (pl j) < 0) : Ct 198 (d + 8) 178 [(1, 0), (0, (i : Int)), (0, (j : Int))] M (fun r_ M' => r_ = (0, -2) ∧ M' = M) := by
  have hK : cd 178 = k178 := rfl
  obtain ⟨P, u_, l_, z_, C, E, hpl, T, hR, hF⟩ := H
  have q1_ := qq_I k
  have p1_ := pp_I k
  have m1_ := mm_I k
  have bi_ := (hpl i hi).2
  have di_ := dg_lt9 bi_
  have bj_ := (hpl j hj).2
  have dj_ := dg_lt9 bj_
  show Wp 198 _ 178 0 [(1, 0), (0, (i : Int)), (0, (j : Int)), (3, 0), (3, 0), (3, 0), (3, 0)] [] M _
  refine w_al hK rfl rfl ?_
  refine w_il hK rfl rfl ?_
  refine w_call [(1, 0), (0, (i : Int))] hK rfl rfl rfl rfl (Or.inr ⟨_, _, _, rfl, by decide, (by decide), rfl⟩) (c_pl i hi) ?_
  rintro _ Mq ⟨rfl, e_⟩
  subst Mq
  refine ⟨(by show (1 : Nat) ≠ 9; decide), (?_ : Wp 198 _ 178 3 [(1, 0), (0, (i : Int)), (0, (j : Int)), (3, 0), (3, 0), (3, 0), (3, 0)] [(1, (149 + 2 * (i : Int)))] M _)⟩
  refine w_as [(1, 0), (0, (i : Int)), (0, (j : Int)), (1, (149 + 2 * (i : Int))), (3, 0), (3, 0), (3, 0)] hK rfl rfl rfl ?_
  refine w_al hK rfl rfl ?_
  refine w_il hK rfl rfl ?_
  refine w_call [(1, 0), (0, (j : Int))] hK rfl rfl rfl rfl (Or.inr ⟨_, _, _, rfl, by decide, (by decide), rfl⟩) (c_pl j hj) ?_
  rintro _ Mq ⟨rfl, e_⟩
  subst Mq
  refine ⟨(by show (1 : Nat) ≠ 9; decide), (?_ : Wp 198 _ 178 7 [(1, 0), (0, (i : Int)), (0, (j : Int)), (1, (149 + 2 * (i : Int))), (3, 0), (3, 0), (3, 0)] [(1, (149 + 2 * (j : Int)))] M _)⟩
  refine w_as [(1, 0), (0, (i : Int)), (0, (j : Int)), (1, (149 + 2 * (i : Int))), (1, (149 + 2 * (j : Int))), (3, 0), (3, 0)] hK rfl rfl rfl ?_
  refine w_al hK rfl rfl ?_
  refine w_null hK rfl (fun h9 => ?_) (fun h9 => ?_)
  · exfalso; omega
  · refine w_al hK rfl rfl ?_
    refine w_nonnull hK rfl (fun h11 => ?_) (fun h11 => ?_)
    · refine w_al hK rfl rfl ?_
      refine w_pt hK rfl (isPP hi) ?_
      rw [show M (149 + 2 * (i : Int)) 1 = dg (pl i) from C.t ⟨(isPP hi), (hpl i hi).1⟩]
      have tI_ := CS.dI C ⟨(isPP hi), (hpl i hi).1⟩
      refine w_lt hK rfl (by omega) (by omega) (fun h16 => ?_) (fun h16 => ?_)
      · refine w_ic hK rfl ?_
        refine w_iret hK rfl rfl ?_
        exact ⟨rfl, rfl⟩
      · refine w_al hK rfl rfl ?_
        refine w_pt hK rfl (isPP hj) ?_
        rw [show M (149 + 2 * (j : Int)) 1 = dg (pl j) from C.t ⟨(isPP hj), (hpl j hj).1⟩]
        have tI_ := CS.dI C ⟨(isPP hj), (hpl j hj).1⟩
        refine w_ge hK rfl (by omega) (by omega) (fun h19 => ?_) (fun h19 => ?_)
        · exfalso; omega
        · refine w_ic hK rfl ?_
          refine w_iret hK rfl rfl ?_
          exact ⟨rfl, rfl⟩
    · exfalso; omega
