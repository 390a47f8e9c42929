/-! the class's calls: what divisors and factors refuse -/
set_option maxRecDepth 100000 in
theorem y_divs {d : Nat} {M : Mem} {k : Nat} {pl : Nat → Pl k} {n : Int} {tx : Int → Int} {rc : Nat} {rw : Int → Int} {fc : Nat} {fa : Nat → Pl k} (H : CLS M k pl n tx rc rw fc fa) (i : Nat) (hi : i < 6) (e : Nat) (e1_ : 1 ≤ e) (e3_ : e ≤ 3) (hi0 : dg (pl i) < 0) : Ct 198 (d + 8) 172 [(1, 0), (0, (i : Int)), (0, (e : Int))] M (fun r_ M' => r_ = (0, -2) ∧ M' = M) := by
  have hK : cd 172 = k172 := rfl
  obtain ⟨P, u_, l_, z_, C, E, hpl, T, hR, hF⟩ := H
  have q1_ := qq_I k
  have p1_ := pp_I k
  have m1_ := mm_I k
  have bi_ := (hpl i hi).2
  have di_ := dg_lt9 bi_
  show Wp 198 _ 172 0 [(1, 0), (0, (i : Int)), (0, (e : Int)), (3, 0), (3, 0), (3, 0), (3, 0)] [] M _
  refine w_al hK rfl rfl ?_
  refine w_il hK rfl rfl ?_
  refine w_call [(1, 0), (0, (i : Int))] hK rfl rfl rfl rfl (Or.inr ⟨_, _, _, rfl, by decide, (by decide), rfl⟩) (c_pl i hi) ?_
  rintro _ Mq ⟨rfl, e_⟩
  subst Mq
  refine ⟨(by show (1 : Nat) ≠ 9; decide), (?_ : Wp 198 _ 172 3 [(1, 0), (0, (i : Int)), (0, (e : Int)), (3, 0), (3, 0), (3, 0), (3, 0)] [(1, (149 + 2 * (i : Int)))] M _)⟩
  refine w_as [(1, 0), (0, (i : Int)), (0, (e : Int)), (1, (149 + 2 * (i : Int))), (3, 0), (3, 0), (3, 0)] hK rfl rfl rfl ?_
  refine w_al hK rfl rfl ?_
  refine w_null hK rfl (fun h5 => ?_) (fun h5 => ?_)
  · exfalso; omega
  · refine w_il hK rfl rfl ?_
    refine w_ic hK rfl ?_
    refine w_lt2 hK rfl (by omega) (by omega) (by omega) (by omega) (fun h8 => ?_) (fun h8 => ?_)
    · exfalso; omega
    · refine w_il hK rfl rfl ?_
      refine w_ic hK rfl ?_
      refine w_le2 hK rfl (by omega) (by omega) (by omega) (by omega) (fun h11 => ?_) (fun h11 => ?_)
      · refine w_al hK rfl rfl ?_
        refine w_call [(1, (149 + 2 * (i : Int)))] hK rfl rfl rfl rfl (Or.inl rfl) (c_refus C ⟨(isPP hi), (hpl i hi).1⟩) ?_
        rintro _ Mq ⟨rfl, e_⟩
        subst Mq
        refine ⟨by show (0 : Nat) ≠ 9; decide, (?_ : Wp 198 _ 172 16 [(1, 0), (0, (i : Int)), (0, (e : Int)), (1, (149 + 2 * (i : Int))), (3, 0), (3, 0), (3, 0)] [(0, (if dg (pl i) < 0 then -2 else if 4 < dg (pl i) then -3 else 0))] M _)⟩
        have rI_ : (if dg (pl i) < 0 then -2 else if 4 < dg (pl i) then -3 else 0) = (-2 : Int) := by rw [if_pos (by omega)]
        refine w_is [(1, 0), (0, (i : Int)), (0, (e : Int)), (1, (149 + 2 * (i : Int))), (0, (if dg (pl i) < 0 then -2 else if 4 < dg (pl i) then -3 else 0)), (3, 0), (3, 0)] hK rfl rfl rfl ?_
        refine w_il hK rfl rfl ?_
        refine w_ge hK rfl (by omega) (by omega) (fun h18 => ?_) (fun h18 => ?_)
        · exfalso; omega
        · refine w_il hK rfl rfl ?_
          refine w_iret hK rfl rfl ?_
          exact ⟨congrArg (Prod.mk 0) rI_, rfl⟩
      · exfalso; omega
set_option maxRecDepth 100000 in
theorem y_facs {d : Nat} {M : Mem} {k : Nat} {pl : Nat → Pl k} {n : Int} {tx : Int → Int} {rc : Nat} {rw : Int → Int} {fc : Nat} {fa : Nat → Pl k} (H : CLS M k pl n tx rc rw fc fa) (i : Nat) (hi : i < 6) (hi0 : dg (pl i) < 0) : Ct 198 (d + 8) 175 [(1, 0), (0, (i : Int))] M (fun r_ M' => r_ = (0, -2) ∧ M' = M) := by
  have hK : cd 175 = k175 := rfl
  obtain ⟨P, u_, l_, z_, C, E, hpl, T, hR, hF⟩ := H
  have q1_ := qq_I k
  have p1_ := pp_I k
  have m1_ := mm_I k
  have bi_ := (hpl i hi).2
  have di_ := dg_lt9 bi_
  show Wp 198 _ 175 0 [(1, 0), (0, (i : Int)), (3, 0), (3, 0), (3, 0), (3, 0), (3, 0)] [] M _
  refine w_al hK rfl rfl ?_
  refine w_il hK rfl rfl ?_
  refine w_call [(1, 0), (0, (i : Int))] hK rfl rfl rfl rfl (Or.inr ⟨_, _, _, rfl, by decide, (by decide), rfl⟩) (c_pl i hi) ?_
  rintro _ Mq ⟨rfl, e_⟩
  subst Mq
  refine ⟨(by show (1 : Nat) ≠ 9; decide), (?_ : Wp 198 _ 175 3 [(1, 0), (0, (i : Int)), (3, 0), (3, 0), (3, 0), (3, 0), (3, 0)] [(1, (149 + 2 * (i : Int)))] M _)⟩
  refine w_as [(1, 0), (0, (i : Int)), (1, (149 + 2 * (i : Int))), (3, 0), (3, 0), (3, 0), (3, 0)] hK rfl rfl rfl ?_
  refine w_al hK rfl rfl ?_
  refine w_nonnull hK rfl (fun h5 => ?_) (fun h5 => ?_)
  · refine w_al hK rfl rfl ?_
    refine w_call [(1, (149 + 2 * (i : Int)))] hK rfl rfl rfl rfl (Or.inl rfl) (c_refus C ⟨(isPP hi), (hpl i hi).1⟩) ?_
    rintro _ Mq ⟨rfl, e_⟩
    subst Mq
    refine ⟨by show (0 : Nat) ≠ 9; decide, (?_ : Wp 198 _ 175 10 [(1, 0), (0, (i : Int)), (1, (149 + 2 * (i : Int))), (3, 0), (3, 0), (3, 0), (3, 0)] [(0, (if dg (pl i) < 0 then -2 else if 4 < dg (pl i) then -3 else 0))] M _)⟩
    have rI_ : (if dg (pl i) < 0 then -2 else if 4 < dg (pl i) then -3 else 0) = (-2 : Int) := by rw [if_pos (by omega)]
    refine w_is [(1, 0), (0, (i : Int)), (1, (149 + 2 * (i : Int))), (0, (if dg (pl i) < 0 then -2 else if 4 < dg (pl i) then -3 else 0)), (3, 0), (3, 0), (3, 0)] hK rfl rfl rfl ?_
    refine w_il hK rfl rfl ?_
    refine w_ge hK rfl (by omega) (by omega) (fun h12 => ?_) (fun h12 => ?_)
    · exfalso; omega
    · refine w_il hK rfl rfl ?_
      refine w_iret hK rfl rfl ?_
      exact ⟨congrArg (Prod.mk 0) rI_, rfl⟩
  · exfalso; omega
set_option maxRecDepth 100000 in
theorem z_divs {d : Nat} {M : Mem} {k : Nat} {pl : Nat → Pl k} {n : Int} {tx : Int → Int} {rc : Nat} {rw : Int → Int} {fc : Nat} {fa : Nat → Pl k} (H : CLS M k pl n tx rc rw fc fa) (i : Nat) (hi : i < 6) (e : Nat) (e1_ : 1 ≤ e) (e3_ : e ≤ 3) (hi0 : 4 < dg (pl i)) : Ct 198 (d + 8) 172 [(1, 0), (0, (i : Int)), (0, (e : Int))] M (fun r_ M' => r_ = (0, -3) ∧ M' = M) := by
  have hK : cd 172 = k172 := rfl
  obtain ⟨P, u_, l_, z_, C, E, hpl, T, hR, hF⟩ := H
  have q1_ := qq_I k
  have p1_ := pp_I k
  have m1_ := mm_I k
  have bi_ := (hpl i hi).2
  have di_ := dg_lt9 bi_
  show Wp 198 _ 172 0 [(1, 0), (0, (i : Int)), (0, (e : Int)), (3, 0), (3, 0), (3, 0), (3, 0)] [] M _
  refine w_al hK rfl rfl ?_
  refine w_il hK rfl rfl ?_
  refine w_call [(1, 0), (0, (i : Int))] hK rfl rfl rfl rfl (Or.inr ⟨_, _, _, rfl, by decide, (by decide), rfl⟩) (c_pl i hi) ?_
  rintro _ Mq ⟨rfl, e_⟩
  subst Mq
  refine ⟨(by show (1 : Nat) ≠ 9; decide), (?_ : Wp 198 _ 172 3 [(1, 0), (0, (i : Int)), (0, (e : Int)), (3, 0), (3, 0), (3, 0), (3, 0)] [(1, (149 + 2 * (i : Int)))] M _)⟩
  refine w_as [(1, 0), (0, (i : Int)), (0, (e : Int)), (1, (149 + 2 * (i : Int))), (3, 0), (3, 0), (3, 0)] hK rfl rfl rfl ?_
  refine w_al hK rfl rfl ?_
  refine w_null hK rfl (fun h5 => ?_) (fun h5 => ?_)
  · exfalso; omega
  · refine w_il hK rfl rfl ?_
    refine w_ic hK rfl ?_
    refine w_lt2 hK rfl (by omega) (by omega) (by omega) (by omega) (fun h8 => ?_) (fun h8 => ?_)
    · exfalso; omega
    · refine w_il hK rfl rfl ?_
      refine w_ic hK rfl ?_
      refine w_le2 hK rfl (by omega) (by omega) (by omega) (by omega) (fun h11 => ?_) (fun h11 => ?_)
      · refine w_al hK rfl rfl ?_
        refine w_call [(1, (149 + 2 * (i : Int)))] hK rfl rfl rfl rfl (Or.inl rfl) (c_refus C ⟨(isPP hi), (hpl i hi).1⟩) ?_
        rintro _ Mq ⟨rfl, e_⟩
        subst Mq
        refine ⟨by show (0 : Nat) ≠ 9; decide, (?_ : Wp 198 _ 172 16 [(1, 0), (0, (i : Int)), (0, (e : Int)), (1, (149 + 2 * (i : Int))), (3, 0), (3, 0), (3, 0)] [(0, (if dg (pl i) < 0 then -2 else if 4 < dg (pl i) then -3 else 0))] M _)⟩
        have rI_ : (if dg (pl i) < 0 then -2 else if 4 < dg (pl i) then -3 else 0) = (-3 : Int) := by rw [if_neg (by omega), if_pos (by omega)]
        refine w_is [(1, 0), (0, (i : Int)), (0, (e : Int)), (1, (149 + 2 * (i : Int))), (0, (if dg (pl i) < 0 then -2 else if 4 < dg (pl i) then -3 else 0)), (3, 0), (3, 0)] hK rfl rfl rfl ?_
        refine w_il hK rfl rfl ?_
        refine w_ge hK rfl (by omega) (by omega) (fun h18 => ?_) (fun h18 => ?_)
        · exfalso; omega
        · refine w_il hK rfl rfl ?_
          refine w_iret hK rfl rfl ?_
          exact ⟨congrArg (Prod.mk 0) rI_, rfl⟩
      · exfalso; omega
set_option maxRecDepth 100000 in
theorem z_facs {d : Nat} {M : Mem} {k : Nat} {pl : Nat → Pl k} {n : Int} {tx : Int → Int} {rc : Nat} {rw : Int → Int} {fc : Nat} {fa : Nat → Pl k} (H : CLS M k pl n tx rc rw fc fa) (i : Nat) (hi : i < 6) (hi0 : 4 < dg (pl i)) : Ct 198 (d + 8) 175 [(1, 0), (0, (i : Int))] M (fun r_ M' => r_ = (0, -3) ∧ M' = M) := by
  have hK : cd 175 = k175 := rfl
  obtain ⟨P, u_, l_, z_, C, E, hpl, T, hR, hF⟩ := H
  have q1_ := qq_I k
  have p1_ := pp_I k
  have m1_ := mm_I k
  have bi_ := (hpl i hi).2
  have di_ := dg_lt9 bi_
  show Wp 198 _ 175 0 [(1, 0), (0, (i : Int)), (3, 0), (3, 0), (3, 0), (3, 0), (3, 0)] [] M _
  refine w_al hK rfl rfl ?_
  refine w_il hK rfl rfl ?_
  refine w_call [(1, 0), (0, (i : Int))] hK rfl rfl rfl rfl (Or.inr ⟨_, _, _, rfl, by decide, (by decide), rfl⟩) (c_pl i hi) ?_
  rintro _ Mq ⟨rfl, e_⟩
  subst Mq
  refine ⟨(by show (1 : Nat) ≠ 9; decide), (?_ : Wp 198 _ 175 3 [(1, 0), (0, (i : Int)), (3, 0), (3, 0), (3, 0), (3, 0), (3, 0)] [(1, (149 + 2 * (i : Int)))] M _)⟩
  refine w_as [(1, 0), (0, (i : Int)), (1, (149 + 2 * (i : Int))), (3, 0), (3, 0), (3, 0), (3, 0)] hK rfl rfl rfl ?_
  refine w_al hK rfl rfl ?_
  refine w_nonnull hK rfl (fun h5 => ?_) (fun h5 => ?_)
  · refine w_al hK rfl rfl ?_
    refine w_call [(1, (149 + 2 * (i : Int)))] hK rfl rfl rfl rfl (Or.inl rfl) (c_refus C ⟨(isPP hi), (hpl i hi).1⟩) ?_
    rintro _ Mq ⟨rfl, e_⟩
    subst Mq
    refine ⟨by show (0 : Nat) ≠ 9; decide, (?_ : Wp 198 _ 175 10 [(1, 0), (0, (i : Int)), (1, (149 + 2 * (i : Int))), (3, 0), (3, 0), (3, 0), (3, 0)] [(0, (if dg (pl i) < 0 then -2 else if 4 < dg (pl i) then -3 else 0))] M _)⟩
    have rI_ : (if dg (pl i) < 0 then -2 else if 4 < dg (pl i) then -3 else 0) = (-3 : Int) := by rw [if_neg (by omega), if_pos (by omega)]
    refine w_is [(1, 0), (0, (i : Int)), (1, (149 + 2 * (i : Int))), (0, (if dg (pl i) < 0 then -2 else if 4 < dg (pl i) then -3 else 0)), (3, 0), (3, 0), (3, 0)] hK rfl rfl rfl ?_
    refine w_il hK rfl rfl ?_
    refine w_ge hK rfl (by omega) (by omega) (fun h12 => ?_) (fun h12 => ?_)
    · exfalso; omega
    · refine w_il hK rfl rfl ?_
      refine w_iret hK rfl rfl ?_
      exact ⟨congrArg (Prod.mk 0) rI_, rfl⟩
  · exfalso; omega
set_option maxRecDepth 100000 in
theorem n_divs {d : Nat} {M : Mem} {k : Nat} {pl : Nat → Pl k} {n : Int} {tx : Int → Int} {rc : Nat} {rw : Int → Int} {fc : Nat} {fa : Nat → Pl k} (H : CLS M k pl n tx rc rw fc fa) (i x : Int) (i1_ : -2147483648 ≤ i) (i2_ : i ≤ 2147483647) (x1_ : -2147483648 ≤ x) (x2_ : x ≤ 2147483647) (hn : ¬ ((0 ≤ i ∧ i < 6) ∧ 1 ≤ x ∧ x ≤ 3)) : Ct 198 (d + 8) 172 [(1, 0), (0, i), (0, x)] M (fun r_ M' => r_ = (0, -1) ∧ M' = M) := by
  have hK : cd 172 = k172 := rfl
  obtain ⟨P, u_, l_, z_, C, E, hpl, T, hR, hF⟩ := H
  have q1_ := qq_I k
  have p1_ := pp_I k
  have m1_ := mm_I k
  show Wp 198 _ 172 0 [(1, 0), (0, i), (0, x), (3, 0), (3, 0), (3, 0), (3, 0)] [] M _
  refine w_al hK rfl rfl ?_
  refine w_il hK rfl rfl ?_
  refine w_call [(1, 0), (0, i)] hK rfl rfl rfl rfl (Or.inr ⟨_, _, _, rfl, by decide, (by decide), rfl⟩) (c_plI i (by omega) (by omega)) ?_
  rintro _ Mq ⟨rfl, e_⟩
  subst Mq
  have pI_ := plr_I i
  refine ⟨(by show (1 : Nat) ≠ 9; decide), (?_ : Wp 198 _ 172 3 [(1, 0), (0, i), (0, x), (3, 0), (3, 0), (3, 0), (3, 0)] [(1, (plr i))] M _)⟩
  refine w_as [(1, 0), (0, i), (0, x), (1, (plr i)), (3, 0), (3, 0), (3, 0)] hK rfl rfl rfl ?_
  refine w_al hK rfl rfl ?_
  refine w_null hK rfl (fun h5 => ?_) (fun h5 => ?_)
  · refine w_ic hK rfl ?_
    refine w_iret hK rfl rfl ?_
    exact ⟨rfl, rfl⟩
  · refine w_il hK rfl rfl ?_
    refine w_ic hK rfl ?_
    refine w_lt2 hK rfl (by omega) (by omega) (by omega) (by omega) (fun h8 => ?_) (fun h8 => ?_)
    · refine w_ic hK rfl ?_
      refine w_iret hK rfl rfl ?_
      exact ⟨rfl, rfl⟩
    · refine w_il hK rfl rfl ?_
      refine w_ic hK rfl ?_
      refine w_le2 hK rfl (by omega) (by omega) (by omega) (by omega) (fun h11 => ?_) (fun h11 => ?_)
      · exfalso; omega
      · refine w_ic hK rfl ?_
        refine w_iret hK rfl rfl ?_
        exact ⟨rfl, rfl⟩
set_option maxRecDepth 100000 in
theorem n_facs {d : Nat} {M : Mem} {k : Nat} {pl : Nat → Pl k} {n : Int} {tx : Int → Int} {rc : Nat} {rw : Int → Int} {fc : Nat} {fa : Nat → Pl k} (H : CLS M k pl n tx rc rw fc fa) (i : Int) (i1_ : -2147483648 ≤ i) (i2_ : i ≤ 2147483647) (hn : ¬ (0 ≤ i ∧ i < 6)) : Ct 198 (d + 8) 175 [(1, 0), (0, i)] M (fun r_ M' => r_ = (0, -1) ∧ M' = M) := by
  have hK : cd 175 = k175 := rfl
  obtain ⟨P, u_, l_, z_, C, E, hpl, T, hR, hF⟩ := H
  have q1_ := qq_I k
  have p1_ := pp_I k
  have m1_ := mm_I k
  show Wp 198 _ 175 0 [(1, 0), (0, i), (3, 0), (3, 0), (3, 0), (3, 0), (3, 0)] [] M _
  refine w_al hK rfl rfl ?_
  refine w_il hK rfl rfl ?_
  refine w_call [(1, 0), (0, i)] hK rfl rfl rfl rfl (Or.inr ⟨_, _, _, rfl, by decide, (by decide), rfl⟩) (c_plI i (by omega) (by omega)) ?_
  rintro _ Mq ⟨rfl, e_⟩
  subst Mq
  have pI_ := plr_I i
  refine ⟨(by show (1 : Nat) ≠ 9; decide), (?_ : Wp 198 _ 175 3 [(1, 0), (0, i), (3, 0), (3, 0), (3, 0), (3, 0), (3, 0)] [(1, (plr i))] M _)⟩
  refine w_as [(1, 0), (0, i), (1, (plr i)), (3, 0), (3, 0), (3, 0), (3, 0)] hK rfl rfl rfl ?_
  refine w_al hK rfl rfl ?_
  refine w_nonnull hK rfl (fun h5 => ?_) (fun h5 => ?_)
  · exfalso; omega
  · refine w_ic hK rfl ?_
    refine w_iret hK rfl rfl ?_
    exact ⟨rfl, rfl⟩
