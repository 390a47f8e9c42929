/-! the reference's calls: prime, central, primes, count, row, factor */ -/
set_option maxRecDepth 100000 in
theorem r_lost {d : Nat} {M : Mem} : Ct 198 (d) 286 [(1, 161)] M (fun r_ M' => r_ = (0, 0) ∧ M' = up M 161 14 1) := by
  have hK : cd 286 = k286 := rfl
  show Wp 198 _ 286 0 [(1, 161)] [] M _
  refine w_al hK rfl rfl ?_
  refine w_ic hK rfl ?_
  refine w_puti (n := 14) (m := 14) hK rfl rfl (by decide) (by decide) rfl rfl rfl rfl ?_
  refine w_ic hK rfl ?_
  refine w_iret hK rfl rfl ?_
  exact ⟨rfl, rfl⟩
set_option maxRecDepth 100000 in
theorem ro_prime {d : Nat} {M : Mem} {k : Nat} {pl : Nat → Pl k} {n : Int} {tx : Int → Int} {rc : Nat} {rw : Int → Int} {fc : Nat} {fa : Nat → Pl k} (H : RFS M k pl n tx rc rw fc fa) (i : Nat) (hi : i < 6) (hi0 : 0 ≤ dg (pl i)) (hi4 : dg (pl i) ≤ 4) : Ct 198 (d + 8) 281 [(1, 161), (0, (i : Int))] M (fun r_ M' => r_ = (0, (bz (prM (pl i)))) ∧ RFS M' k pl n tx rc rw fc fa ∧ (∀ a : Int, (a < 161 ∨ 197 < a) → M' a = M a)) := by
  have hK : cd 281 = k281 := rfl
  obtain ⟨R, C, hpl, T, hR, hF⟩ := H
  have q1_ := qq_I k
  have p1_ := pp_I k
  have m1_ := mm_I k
  have bi_ := (hpl i hi).2
  have di_ := dg_lt9 bi_
  show Wp 198 _ 281 0 [(1, 161), (0, (i : Int)), (3, 0)] [] M _
  refine w_al hK rfl rfl ?_
  refine w_ic hK rfl ?_
  refine w_puti (n := 14) (m := 14) hK rfl rfl (by decide) (by decide) rfl rfl rfl rfl ?_
  refine w_al hK rfl rfl ?_
  refine w_il hK rfl rfl ?_
  refine w_call [(1, 161), (0, (i : Int))] hK rfl rfl rfl rfl (Or.inr ⟨_, _, _, rfl, by decide, (by decide), rfl⟩) (r_ask (RS.cg C (fun j_ h1_ h2_ => up_ne2 (by omega)) (fun a_ h1_ h2_ => up_row h1_)) (PM.keep hpl (up_row (by decide))) i hi (dg (pl i)) (by omega)) ?_
  rintro _ V586 ⟨P586, rfl, C586, S586, F586, f586_0⟩
  refine ⟨by show (0 : Nat) ≠ 9; decide, (?_ : Wp 198 _ 281 6 [(1, 161), (0, (i : Int)), (3, 0)] [(0, (dg (pl i)))] V586 _)⟩
  refine w_is [(1, 161), (0, (i : Int)), (0, (dg (pl i)))] hK rfl rfl rfl ?_
  refine w_il hK rfl rfl ?_
  refine w_ge hK rfl (by omega) (by omega) (fun h8 => ?_) (fun h8 => ?_)
  · refine w_al hK rfl rfl ?_
    refine w_al hK rfl rfl ?_
    refine w_getr (n := 26) (v := 180) hK rfl rfl (by decide) (by decide) rfl rfl rfl rfl ?_
    refine w_call [(1, 161), (1, 180)] hK rfl rfl rfl rfl (Or.inr ⟨_, _, _, rfl, by decide, (by decide), rfl⟩) (r_isP C586 ⟨(isR_of (p := 180) rfl), f586_0⟩ (by omega) (by omega) bi_) ?_
    rintro _ V587 ⟨P587, rfl, C587, S587, F587⟩
    have bv_ := bz_01 (prM (pl i))
    refine ⟨by show (0 : Nat) ≠ 9; decide, (?_ : Wp 198 _ 281 15 [(1, 161), (0, (i : Int)), (0, (dg (pl i)))] [(0, (bz (prM (pl i))))] V587 _)⟩
    refine w_eq hK rfl (by omega) (by omega) (fun h15 => ?_) (fun h15 => ?_)
    · refine w_ic hK rfl ?_
      refine w_iret hK rfl rfl ?_
      exact ⟨(congrArg (Prod.mk 0) (by omega)), ⟨_, C587, (PM.keep hpl ((S587 167 (notR rfl)).trans ((S586 167 (notR rfl)).trans (up_row (by decide))))), (TMs.keep T ((congrFun (S587 161 (notR rfl)) 11).trans ((congrFun (S586 161 (notR rfl)) 11).trans (up_ne2 (by decide)))) ((S587 168 (notR rfl)).trans ((S586 168 (notR rfl)).trans (up_row (by decide))))), (RM.keep hR ((congrFun (S587 161 (notR rfl)) 13).trans ((congrFun (S586 161 (notR rfl)) 13).trans (up_ne2 (by decide)))) ((S587 169 (notR rfl)).trans ((S586 169 (notR rfl)).trans (up_row (by decide))))), (FM.keep hF ((congrFun (S587 161 (notR rfl)) 15).trans ((congrFun (S586 161 (notR rfl)) 15).trans (up_ne2 (by decide)))) ((S587 189 (notR rfl)).trans ((S586 189 (notR rfl)).trans (up_row (by decide)))) ((S587 190 (notR rfl)).trans ((S586 190 (notR rfl)).trans (up_row (by decide)))))⟩, (fun a h_ => ((S587 a (npR h_)).trans ((S586 a (npR h_)).trans (up_row (by omega)))))⟩
    · refine w_ic hK rfl ?_
      refine w_goto hK rfl ?_
      refine w_iret hK rfl rfl ?_
      exact ⟨(congrArg (Prod.mk 0) (by omega)), ⟨_, C587, (PM.keep hpl ((S587 167 (notR rfl)).trans ((S586 167 (notR rfl)).trans (up_row (by decide))))), (TMs.keep T ((congrFun (S587 161 (notR rfl)) 11).trans ((congrFun (S586 161 (notR rfl)) 11).trans (up_ne2 (by decide)))) ((S587 168 (notR rfl)).trans ((S586 168 (notR rfl)).trans (up_row (by decide))))), (RM.keep hR ((congrFun (S587 161 (notR rfl)) 13).trans ((congrFun (S586 161 (notR rfl)) 13).trans (up_ne2 (by decide)))) ((S587 169 (notR rfl)).trans ((S586 169 (notR rfl)).trans (up_row (by decide))))), (FM.keep hF ((congrFun (S587 161 (notR rfl)) 15).trans ((congrFun (S586 161 (notR rfl)) 15).trans (up_ne2 (by decide)))) ((S587 189 (notR rfl)).trans ((S586 189 (notR rfl)).trans (up_row (by decide)))) ((S587 190 (notR rfl)).trans ((S586 190 (notR rfl)).trans (up_row (by decide)))))⟩, (fun a h_ => ((S587 a (npR h_)).trans ((S586 a (npR h_)).trans (up_row (by omega)))))⟩
  · exfalso; omega
set_option maxRecDepth 100000 in
theorem ry_prime {d : Nat} {M : Mem} {k : Nat} {pl : Nat → Pl k} {n : Int} {tx : Int → Int} {rc : Nat} {rw : Int → Int} {fc : Nat} {fa : Nat → Pl k} (H : RFS M k pl n tx rc rw fc fa) (i : Nat) (hi : i < 6) (hi0 : dg (pl i) < 0) : Ct 198 (d + 8) 281 [(1, 161), (0, (i : Int))] M (fun r_ M' => r_ = (0, (-2)) ∧ RFS M' k pl n tx rc rw fc fa ∧ (∀ a : Int, (a < 161 ∨ 197 < a) → M' a = M a)) := by
  have hK : cd 281 = k281 := rfl
  obtain ⟨R, C, hpl, T, hR, hF⟩ := H
  have q1_ := qq_I k
  have p1_ := pp_I k
  have m1_ := mm_I k
  have bi_ := (hpl i hi).2
  have di_ := dg_lt9 bi_
  show Wp 198 _ 281 0 [(1, 161), (0, (i : Int)), (3, 0)] [] M _
  refine w_al hK rfl rfl ?_
  refine w_ic hK rfl ?_
  refine w_puti (n := 14) (m := 14) hK rfl rfl (by decide) (by decide) rfl rfl rfl rfl ?_
  refine w_al hK rfl rfl ?_
  refine w_il hK rfl rfl ?_
  refine w_call [(1, 161), (0, (i : Int))] hK rfl rfl rfl rfl (Or.inr ⟨_, _, _, rfl, by decide, (by decide), rfl⟩) (r_ask (RS.cg C (fun j_ h1_ h2_ => up_ne2 (by omega)) (fun a_ h1_ h2_ => up_row h1_)) (PM.keep hpl (up_row (by decide))) i hi (-2) (by omega)) ?_
  rintro _ V588 ⟨P588, rfl, C588, S588, F588, f588_0⟩
  refine ⟨by show (0 : Nat) ≠ 9; decide, (?_ : Wp 198 _ 281 6 [(1, 161), (0, (i : Int)), (3, 0)] [(0, (-2))] V588 _)⟩
  refine w_is [(1, 161), (0, (i : Int)), (0, (-2))] hK rfl rfl rfl ?_
  refine w_il hK rfl rfl ?_
  refine w_ge hK rfl (by omega) (by omega) (fun h8 => ?_) (fun h8 => ?_)
  · exfalso; omega
  · refine w_il hK rfl rfl ?_
    refine w_goto hK rfl ?_
    refine w_iret hK rfl rfl ?_
    exact ⟨rfl, ⟨_, C588, (PM.keep hpl ((S588 167 (notR rfl)).trans (up_row (by decide)))), (TMs.keep T ((congrFun (S588 161 (notR rfl)) 11).trans (up_ne2 (by decide))) ((S588 168 (notR rfl)).trans (up_row (by decide)))), (RM.keep hR ((congrFun (S588 161 (notR rfl)) 13).trans (up_ne2 (by decide))) ((S588 169 (notR rfl)).trans (up_row (by decide)))), (FM.keep hF ((congrFun (S588 161 (notR rfl)) 15).trans (up_ne2 (by decide))) ((S588 189 (notR rfl)).trans (up_row (by decide))) ((S588 190 (notR rfl)).trans (up_row (by decide))))⟩, (fun a h_ => ((S588 a (npR h_)).trans (up_row (by omega))))⟩
set_option maxRecDepth 100000 in
theorem rz_prime {d : Nat} {M : Mem} {k : Nat} {pl : Nat → Pl k} {n : Int} {tx : Int → Int} {rc : Nat} {rw : Int → Int} {fc : Nat} {fa : Nat → Pl k} (H : RFS M k pl n tx rc rw fc fa) (i : Nat) (hi : i < 6) (hi0 : 4 < dg (pl i)) : Ct 198 (d + 8) 281 [(1, 161), (0, (i : Int))] M (fun r_ M' => r_ = (0, (-3)) ∧ RFS M' k pl n tx rc rw fc fa ∧ (∀ a : Int, (a < 161 ∨ 197 < a) → M' a = M a)) := by
  have hK : cd 281 = k281 := rfl
  obtain ⟨R, C, hpl, T, hR, hF⟩ := H
  have q1_ := qq_I k
  have p1_ := pp_I k
  have m1_ := mm_I k
  have bi_ := (hpl i hi).2
  have di_ := dg_lt9 bi_
  show Wp 198 _ 281 0 [(1, 161), (0, (i : Int)), (3, 0)] [] M _
  refine w_al hK rfl rfl ?_
  refine w_ic hK rfl ?_
  refine w_puti (n := 14) (m := 14) hK rfl rfl (by decide) (by decide) rfl rfl rfl rfl ?_
  refine w_al hK rfl rfl ?_
  refine w_il hK rfl rfl ?_
  refine w_call [(1, 161), (0, (i : Int))] hK rfl rfl rfl rfl (Or.inr ⟨_, _, _, rfl, by decide, (by decide), rfl⟩) (r_ask (RS.cg C (fun j_ h1_ h2_ => up_ne2 (by omega)) (fun a_ h1_ h2_ => up_row h1_)) (PM.keep hpl (up_row (by decide))) i hi (-3) (by omega)) ?_
  rintro _ V589 ⟨P589, rfl, C589, S589, F589, f589_0⟩
  refine ⟨by show (0 : Nat) ≠ 9; decide, (?_ : Wp 198 _ 281 6 [(1, 161), (0, (i : Int)), (3, 0)] [(0, (-3))] V589 _)⟩
  refine w_is [(1, 161), (0, (i : Int)), (0, (-3))] hK rfl rfl rfl ?_
  refine w_il hK rfl rfl ?_
  refine w_ge hK rfl (by omega) (by omega) (fun h8 => ?_) (fun h8 => ?_)
  · exfalso; omega
  · refine w_il hK rfl rfl ?_
    refine w_goto hK rfl ?_
    refine w_iret hK rfl rfl ?_
    exact ⟨rfl, ⟨_, C589, (PM.keep hpl ((S589 167 (notR rfl)).trans (up_row (by decide)))), (TMs.keep T ((congrFun (S589 161 (notR rfl)) 11).trans (up_ne2 (by decide))) ((S589 168 (notR rfl)).trans (up_row (by decide)))), (RM.keep hR ((congrFun (S589 161 (notR rfl)) 13).trans (up_ne2 (by decide))) ((S589 169 (notR rfl)).trans (up_row (by decide)))), (FM.keep hF ((congrFun (S589 161 (notR rfl)) 15).trans (up_ne2 (by decide))) ((S589 189 (notR rfl)).trans (up_row (by decide))) ((S589 190 (notR rfl)).trans (up_row (by decide))))⟩, (fun a h_ => ((S589 a (npR h_)).trans (up_row (by omega))))⟩
set_option maxRecDepth 100000 in
theorem rn_prime {d : Nat} {M : Mem} {k : Nat} {pl : Nat → Pl k} {n : Int} {tx : Int → Int} {rc : Nat} {rw : Int → Int} {fc : Nat} {fa : Nat → Pl k} (H : RFS M k pl n tx rc rw fc fa) (i : Int) (i1_ : -2147483648 ≤ i) (i2_ : i ≤ 2147483647) (hn : ¬ (0 ≤ i ∧ i < 6)) : Ct 198 (d + 8) 281 [(1, 161), (0, i)] M (fun r_ M' => r_ = (0, -1) ∧ RFS M' k pl n tx rc rw fc fa ∧ (∀ a : Int, (a < 161 ∨ 197 < a) → M' a = M a)) := by
  have hK : cd 281 = k281 := rfl
  obtain ⟨R, C, hpl, T, hR, hF⟩ := H
  have q1_ := qq_I k
  have p1_ := pp_I k
  have m1_ := mm_I k
  show Wp 198 _ 281 0 [(1, 161), (0, i), (3, 0)] [] M _
  refine w_al hK rfl rfl ?_
  refine w_ic hK rfl ?_
  refine w_puti (n := 14) (m := 14) hK rfl rfl (by decide) (by decide) rfl rfl rfl rfl ?_
  refine w_al hK rfl rfl ?_
  refine w_il hK rfl rfl ?_
  refine w_call [(1, 161), (0, i)] hK rfl rfl rfl rfl (Or.inr ⟨_, _, _, rfl, by decide, (by decide), rfl⟩) (r_askN i (by omega) (by omega) (by omega)) ?_
  rintro _ Mq ⟨rfl, e_⟩
  subst Mq
  refine ⟨by show (0 : Nat) ≠ 9; decide, (?_ : Wp 198 _ 281 6 [(1, 161), (0, i), (3, 0)] [(0, (-1))] (up M 161 14 0) _)⟩
  refine w_is [(1, 161), (0, i), (0, (-1))] hK rfl rfl rfl ?_
  refine w_il hK rfl rfl ?_
  refine w_ge hK rfl (by omega) (by omega) (fun h8 => ?_) (fun h8 => ?_)
  · exfalso; omega
  · refine w_il hK rfl rfl ?_
    refine w_goto hK rfl ?_
    refine w_iret hK rfl rfl ?_
    exact ⟨rfl, ⟨_, (RS.cg C (fun j_ h1_ h2_ => up_ne2 (by omega)) (fun a_ h1_ h2_ => up_row h1_)), (PM.keep hpl (up_row (by decide))), (TMs.keep T (up_ne2 (by decide)) (up_row (by decide))), (RM.keep hR (up_ne2 (by decide)) (up_row (by decide))), (FM.keep hF (up_ne2 (by decide)) (up_row (by decide)) (up_row (by decide)))⟩, (fun a h_ => (up_row (by omega)))⟩
set_option maxRecDepth 100000 in
theorem ro_central {d : Nat} {M : Mem} {k : Nat} {pl : Nat → Pl k} {n : Int} {tx : Int → Int} {rc : Nat} {rw : Int → Int} {fc : Nat} {fa : Nat → Pl k} (H : RFS M k pl n tx rc rw fc fa) (i : Nat) (hi : i < 6)  : Ct 198 (d + 8) 295 [(1, 161), (0, (i : Int))] M (fun r_ M' => r_ = (0, (bz (IsCn (pl i)))) ∧ RFS M' k pl n tx rc rw fc fa ∧ (∀ a : Int, (a < 161 ∨ 197 < a) → M' a = M a)) := by
  have hK : cd 295 = k295 := rfl
  obtain ⟨R, C, hpl, T, hR, hF⟩ := H
  have q1_ := qq_I k
  have p1_ := pp_I k
  have m1_ := mm_I k
  have bi_ := (hpl i hi).2
  have di_ := dg_lt9 bi_
  show Wp 198 _ 295 0 [(1, 161), (0, (i : Int))] [] M _
  refine w_al hK rfl rfl ?_
  refine w_ic hK rfl ?_
  refine w_puti (n := 14) (m := 14) hK rfl rfl (by decide) (by decide) rfl rfl rfl rfl ?_
  refine w_il hK rfl rfl ?_
  refine w_call [(0, (i : Int))] hK rfl rfl rfl rfl (Or.inl rfl) (r_place (i : Int) (by omega) (by omega)) ?_
  rintro _ Mq ⟨rfl, e_⟩
  subst Mq
  have pI_590 := ite01 (0 ≤ (i : Int) ∧ (i : Int) < 6)
  refine ⟨by show (0 : Nat) ≠ 9; decide, (?_ : Wp 198 _ 295 5 [(1, 161), (0, (i : Int))] [(0, (if 0 ≤ (i : Int) ∧ (i : Int) < 6 then 1 else 0))] (up M 161 14 0) _)⟩
  refine w_ne hK rfl (by omega) (by omega) (fun h5 => ?_) (fun h5 => ?_)
  · refine w_al hK rfl rfl ?_
    refine w_il hK rfl rfl ?_
    refine w_al hK rfl rfl ?_
    refine w_getr (n := 26) (v := 180) hK rfl rfl (by decide) (by decide) rfl rfl rfl rfl ?_
    refine w_call [(1, 161), (0, (i : Int)), (1, 180)] hK rfl rfl rfl rfl (Or.inr ⟨_, _, _, rfl, by decide, (by decide), rfl⟩) (r_load (RS.cg C (fun j_ h1_ h2_ => up_ne2 (by omega)) (fun a_ h1_ h2_ => up_row h1_)) (PM.keep hpl (up_row (by decide))) i hi (isR_of (p := 180) rfl)) ?_
    rintro _ V591 ⟨P591, rfl, C591, S591, F591, f591_0⟩
    refine ⟨by decide, (?_ : Wp 198 _ 295 13 [(1, 161), (0, (i : Int))] [] V591 _)⟩
    refine w_al hK rfl rfl ?_
    refine w_al hK rfl rfl ?_
    refine w_getr (n := 26) (v := 180) hK rfl rfl (by decide) (by decide) rfl rfl rfl rfl ?_
    refine w_call [(1, 161), (1, 180)] hK rfl rfl rfl rfl (Or.inr ⟨_, _, _, rfl, by decide, (by decide), rfl⟩) (r_isC C591 ⟨(isR_of (p := 180) rfl), f591_0⟩) ?_
    rintro _ Mq ⟨rfl, e_⟩
    subst Mq
    have bv_ := bz_01 (IsCn (pl i))
    refine ⟨by show (0 : Nat) ≠ 9; decide, (?_ : Wp 198 _ 295 17 [(1, 161), (0, (i : Int))] [(0, (bz (IsCn (pl i))))] V591 _)⟩
    refine w_eq hK rfl (by omega) (by omega) (fun h17 => ?_) (fun h17 => ?_)
    · refine w_ic hK rfl ?_
      refine w_iret hK rfl rfl ?_
      exact ⟨(congrArg (Prod.mk 0) (by omega)), ⟨_, C591, (PM.keep hpl ((S591 167 (notR rfl)).trans (up_row (by decide)))), (TMs.keep T ((congrFun (S591 161 (notR rfl)) 11).trans (up_ne2 (by decide))) ((S591 168 (notR rfl)).trans (up_row (by decide)))), (RM.keep hR ((congrFun (S591 161 (notR rfl)) 13).trans (up_ne2 (by decide))) ((S591 169 (notR rfl)).trans (up_row (by decide)))), (FM.keep hF ((congrFun (S591 161 (notR rfl)) 15).trans (up_ne2 (by decide))) ((S591 189 (notR rfl)).trans (up_row (by decide))) ((S591 190 (notR rfl)).trans (up_row (by decide))))⟩, (fun a h_ => ((S591 a (npR h_)).trans (up_row (by omega))))⟩
    · refine w_ic hK rfl ?_
      refine w_goto hK rfl ?_
      refine w_iret hK rfl rfl ?_
      exact ⟨(congrArg (Prod.mk 0) (by omega)), ⟨_, C591, (PM.keep hpl ((S591 167 (notR rfl)).trans (up_row (by decide)))), (TMs.keep T ((congrFun (S591 161 (notR rfl)) 11).trans (up_ne2 (by decide))) ((S591 168 (notR rfl)).trans (up_row (by decide)))), (RM.keep hR ((congrFun (S591 161 (notR rfl)) 13).trans (up_ne2 (by decide))) ((S591 169 (notR rfl)).trans (up_row (by decide)))), (FM.keep hF ((congrFun (S591 161 (notR rfl)) 15).trans (up_ne2 (by decide))) ((S591 189 (notR rfl)).trans (up_row (by decide))) ((S591 190 (notR rfl)).trans (up_row (by decide))))⟩, (fun a h_ => ((S591 a (npR h_)).trans (up_row (by omega))))⟩
  · exfalso; omega
set_option maxRecDepth 100000 in
theorem rn_central {d : Nat} {M : Mem} {k : Nat} {pl : Nat → Pl k} {n : Int} {tx : Int → Int} {rc : Nat} {rw : Int → Int} {fc : Nat} {fa : Nat → Pl k} (H : RFS M k pl n tx rc rw fc fa) (i : Int) (i1_ : -2147483648 ≤ i) (i2_ : i ≤ 2147483647) (hn : ¬ (0 ≤ i ∧ i < 6)) : Ct 198 (d + 8) 295 [(1, 161), (0, i)] M (fun r_ M' => r_ = (0, -1) ∧ RFS M' k pl n tx rc rw fc fa ∧ (∀ a : Int, (a < 161 ∨ 197 < a) → M' a = M a)) := by
  have hK : cd 295 = k295 := rfl
  obtain ⟨R, C, hpl, T, hR, hF⟩ := H
  have q1_ := qq_I k
  have p1_ := pp_I k
  have m1_ := mm_I k
  show Wp 198 _ 295 0 [(1, 161), (0, i)] [] M _
  refine w_al hK rfl rfl ?_
  refine w_ic hK rfl ?_
  refine w_puti (n := 14) (m := 14) hK rfl rfl (by decide) (by decide) rfl rfl rfl rfl ?_
  refine w_il hK rfl rfl ?_
  refine w_call [(0, i)] hK rfl rfl rfl rfl (Or.inl rfl) (r_place i (by omega) (by omega)) ?_
  rintro _ Mq ⟨rfl, e_⟩
  subst Mq
  have pI_592 := ite01 (0 ≤ i ∧ i < 6)
  refine ⟨by show (0 : Nat) ≠ 9; decide, (?_ : Wp 198 _ 295 5 [(1, 161), (0, i)] [(0, (if 0 ≤ i ∧ i < 6 then 1 else 0))] (up M 161 14 0) _)⟩
  refine w_ne hK rfl (by omega) (by omega) (fun h5 => ?_) (fun h5 => ?_)
  · exfalso; omega
  · refine w_ic hK rfl ?_
    refine w_iret hK rfl rfl ?_
    exact ⟨rfl, ⟨_, (RS.cg C (fun j_ h1_ h2_ => up_ne2 (by omega)) (fun a_ h1_ h2_ => up_row h1_)), (PM.keep hpl (up_row (by decide))), (TMs.keep T (up_ne2 (by decide)) (up_row (by decide))), (RM.keep hR (up_ne2 (by decide)) (up_row (by decide))), (FM.keep hF (up_ne2 (by decide)) (up_row (by decide)) (up_row (by decide)))⟩, (fun a h_ => (up_row (by omega)))⟩
set_option maxRecDepth 100000 in
theorem ro_primes {d : Nat} {M : Mem} {k : Nat} {pl : Nat → Pl k} {n : Int} {tx : Int → Int} {rc : Nat} {rw : Int → Int} {fc : Nat} {fa : Nat → Pl k} (H : RFS M k pl n tx rc rw fc fa) (e : Nat) (e1_ : 1 ≤ e) (e2_ : e ≤ 2) : Ct 198 (d + 8) 300 [(1, 161), (0, (e : Int))] M (fun r_ M' => r_ = (0, (sI (fun c_ : Nat => bz (prM (mnp (k := k) e c_))) (unq k e))) ∧ RFS M' k pl n tx rc rw fc fa ∧ (∀ a : Int, (a < 161 ∨ 197 < a) → M' a = M a)) := by
  have hK : cd 300 = k300 := rfl
  obtain ⟨R, C, hpl, T, hR, hF⟩ := H
  have q1_ := qq_I k
  have p1_ := pp_I k
  have m1_ := mm_I k
  have u4_ := unq_4 (k := k) (s := e) (by omega)
  show Wp 198 _ 300 0 [(1, 161), (0, (e : Int)), (3, 0), (3, 0)] [] M _
  refine w_al hK rfl rfl ?_
  refine w_ic hK rfl ?_
  refine w_puti (n := 14) (m := 14) hK rfl rfl (by decide) (by decide) rfl rfl rfl rfl ?_
  refine w_il hK rfl rfl ?_
  refine w_i2l hK rfl (by omega) (by omega) ?_
  refine w_lc hK rfl ?_
  refine w_lcw hK rfl ?_
  refine w_call [(2, (e : Int)), (2, 1), (2, 2)] hK rfl rfl rfl rfl (Or.inl rfl) (r_in (e : Int) 1 2 (by omega) (by omega) (by omega) (by omega) (by omega) (by omega)) ?_
  rintro _ Mq ⟨rfl, e_⟩
  subst Mq
  have iI_593 := ite01 (1 ≤ (e : Int) ∧ (e : Int) ≤ 2)
  refine ⟨by show (0 : Nat) ≠ 9; decide, (?_ : Wp 198 _ 300 8 [(1, 161), (0, (e : Int)), (3, 0), (3, 0)] [(0, (if 1 ≤ (e : Int) ∧ (e : Int) ≤ 2 then 1 else 0))] (up M 161 14 0) _)⟩
  refine w_ne hK rfl (by omega) (by omega) (fun h8 => ?_) (fun h8 => ?_)
  · refine w_ic hK rfl ?_
    refine w_is [(1, 161), (0, (e : Int)), (0, 0), (3, 0)] hK rfl rfl rfl ?_
    refine w_ic hK rfl ?_
    refine w_is [(1, 161), (0, (e : Int)), (0, 0), (0, 0)] hK rfl rfl rfl ?_
    have lp15 : ∀ (n_ : Nat) (c : Nat) (R1 : Int → Option (Pl k)) (N15 : Mem), 65537 - c = n_ → (c ≤ unq k e) → (RS N15 k R1) → ((∀ p : Int, p ≠ 170 → p ≠ 171 → p ≠ 172 → p ≠ 173 → p ≠ 174 → p ≠ 180 → p ≠ 188 → R1 p = R p)) → ((∀ a : Int, (∀ p : Int, isR p → a ≠ p) → N15 a = (up M 161 14 0) a)) → Wp 198 (d + 8) 300 15 [(1, 161), (0, (e : Int)), (0, (sI (fun c_ : Nat => bz (prM (mnp (k := k) e c_))) c)), (0, (c : Int))] [] N15 (fun r_ M' => r_ = (0, (sI (fun c_ : Nat => bz (prM (mnp (k := k) e c_))) (unq k e))) ∧ RFS M' k pl n tx rc rw fc fa ∧ (∀ a : Int, (a < 161 ∨ 197 < a) → M' a = M a)) := by
      intro n_
      induction n_ using Nat.strongRecOn with
      | _ n_ ih15 =>
      intro c R1 N15 hm15 hc hCR1 hGR1 hSN15
      have sb_ := sI_bz (q := fun c_ : Nat => prM (mnp (k := k) e c_)) c
      refine w_il hK rfl rfl ?_
      refine w_al hK rfl rfl ?_
      refine w_il hK rfl rfl ?_
      refine w_call [(1, 161), (0, (e : Int))] hK rfl rfl rfl rfl (Or.inr ⟨_, _, _, rfl, by decide, (by decide), rfl⟩) (r_count hCR1.F e (by omega)) ?_
      rintro _ Mq ⟨rfl, e_⟩
      subst Mq
      refine ⟨by show (0 : Nat) ≠ 9; decide, (?_ : Wp 198 _ 300 19 [(1, 161), (0, (e : Int)), (0, (sI (fun c_ : Nat => bz (prM (mnp (k := k) e c_))) c)), (0, (c : Int))] [(0, (unq k e : Int)), (0, (c : Int))] N15 _)⟩
      refine w_ge2 hK rfl (by omega) (by omega) (by omega) (by omega) (fun h19 => ?_) (fun h19 => ?_)
      · refine w_il hK rfl rfl ?_
        refine w_iret hK rfl rfl ?_
        have e_ : c = unq k e := by omega
        subst e_
        exact ⟨rfl, ⟨_, hCR1, (PM.keep hpl ((hSN15 167 (notR rfl)).trans (up_row (by decide)))), (TMs.keep T ((congrFun (hSN15 161 (notR rfl)) 11).trans (up_ne2 (by decide))) ((hSN15 168 (notR rfl)).trans (up_row (by decide)))), (RM.keep hR ((congrFun (hSN15 161 (notR rfl)) 13).trans (up_ne2 (by decide))) ((hSN15 169 (notR rfl)).trans (up_row (by decide)))), (FM.keep hF ((congrFun (hSN15 161 (notR rfl)) 15).trans (up_ne2 (by decide))) ((hSN15 189 (notR rfl)).trans (up_row (by decide))) ((hSN15 190 (notR rfl)).trans (up_row (by decide))))⟩, (fun a h_ => ((hSN15 a (npR h_)).trans (up_row (by omega))))⟩
      · refine w_al hK rfl rfl ?_
        refine w_il hK rfl rfl ?_
        refine w_il hK rfl rfl ?_
        refine w_al hK rfl rfl ?_
        refine w_getr (n := 26) (v := 180) hK rfl rfl (by decide) (by decide) rfl rfl rfl rfl ?_
        refine w_call [(1, 161), (0, (e : Int)), (0, (c : Int)), (1, 180)] hK rfl rfl rfl rfl (Or.inr ⟨_, _, _, rfl, by decide, (by decide), rfl⟩) (r_mof hCR1 (isR_of (p := 180) rfl) e c (by omega) (by omega)) ?_
        rintro _ V594 ⟨P594, rfl, C594, S594, F594, f594_0⟩
        refine ⟨by decide, (?_ : Wp 198 _ 300 26 [(1, 161), (0, (e : Int)), (0, (sI (fun c_ : Nat => bz (prM (mnp (k := k) e c_))) c)), (0, (c : Int))] [] V594 _)⟩
        refine w_il hK rfl rfl ?_
        refine w_al hK rfl rfl ?_
        refine w_al hK rfl rfl ?_
        refine w_getr (n := 26) (v := 180) hK rfl rfl (by decide) (by decide) rfl rfl rfl rfl ?_
        have dm_ := mnp_dg (k := k) (n := e) (c := c) (by omega)
        refine w_call [(1, 161), (1, 180)] hK rfl rfl rfl rfl (Or.inr ⟨_, _, _, rfl, by decide, (by decide), rfl⟩) (r_isP C594 ⟨(isR_of (p := 180) rfl), f594_0⟩ (by omega) (by omega) (mnp_bd.mono (by omega))) ?_
        rintro _ V595 ⟨P595, rfl, C595, S595, F595⟩
        have bv_ := bz_01 (prM (mnp (k := k) e c))
        refine ⟨by show (0 : Nat) ≠ 9; decide, (?_ : Wp 198 _ 300 31 [(1, 161), (0, (e : Int)), (0, (sI (fun c_ : Nat => bz (prM (mnp (k := k) e c_))) c)), (0, (c : Int))] [(0, (bz (prM (mnp (k := k) e c)))), (0, (sI (fun c_ : Nat => bz (prM (mnp (k := k) e c_))) c))] V595 _)⟩
        refine w_eq hK rfl (by omega) (by omega) (fun h31 => ?_) (fun h31 => ?_)
        · refine w_ic hK rfl ?_
          refine w_add hK rfl (by omega) (by omega) ?_
          refine w_is [(1, 161), (0, (e : Int)), (0, ((sI (fun c_ : Nat => bz (prM (mnp (k := k) e c_))) c) + 0)), (0, (c : Int))] hK rfl rfl rfl ?_
          refine w_inc [(1, 161), (0, (e : Int)), (0, ((sI (fun c_ : Nat => bz (prM (mnp (k := k) e c_))) c) + 0)), (0, ((c : Int) + 1))] hK rfl rfl rfl (by omega) (by omega) rfl ?_
          refine w_goto hK rfl ?_
          rw [show ((sI (fun c_ : Nat => bz (prM (mnp (k := k) e c_))) c) + 0) = (sI (fun c_ : Nat => bz (prM (mnp (k := k) e c_))) (c + 1)) from (show ((sI (fun c_ : Nat => bz (prM (mnp (k := k) e c_))) c) + 0) = (sI (fun c_ : Nat => bz (prM (mnp (k := k) e c_))) c) + bz (prM (mnp (k := k) e c)) by omega).trans rfl]
          exact ih15 _ (by omega) (c + 1) _ V595 rfl (by omega) C595 (fun p pn170_ pn171_ pn172_ pn173_ pn174_ pn180_ pn188_ => ((F595 p pn170_ pn171_ pn172_ pn173_ pn174_ pn188_).trans ((F594 p pn180_).trans (hGR1 p pn170_ pn171_ pn172_ pn173_ pn174_ pn180_ pn188_)))) (fun a nr_ => ((S595 a nr_).trans ((S594 a nr_).trans (hSN15 a nr_))))
        · refine w_ic hK rfl ?_
          refine w_goto hK rfl ?_
          refine w_add hK rfl (by omega) (by omega) ?_
          refine w_is [(1, 161), (0, (e : Int)), (0, ((sI (fun c_ : Nat => bz (prM (mnp (k := k) e c_))) c) + 1)), (0, (c : Int))] hK rfl rfl rfl ?_
          refine w_inc [(1, 161), (0, (e : Int)), (0, ((sI (fun c_ : Nat => bz (prM (mnp (k := k) e c_))) c) + 1)), (0, ((c : Int) + 1))] hK rfl rfl rfl (by omega) (by omega) rfl ?_
          refine w_goto hK rfl ?_
          rw [show ((sI (fun c_ : Nat => bz (prM (mnp (k := k) e c_))) c) + 1) = (sI (fun c_ : Nat => bz (prM (mnp (k := k) e c_))) (c + 1)) from (show ((sI (fun c_ : Nat => bz (prM (mnp (k := k) e c_))) c) + 1) = (sI (fun c_ : Nat => bz (prM (mnp (k := k) e c_))) c) + bz (prM (mnp (k := k) e c)) by omega).trans rfl]
          exact ih15 _ (by omega) (c + 1) _ V595 rfl (by omega) C595 (fun p pn170_ pn171_ pn172_ pn173_ pn174_ pn180_ pn188_ => ((F595 p pn170_ pn171_ pn172_ pn173_ pn174_ pn188_).trans ((F594 p pn180_).trans (hGR1 p pn170_ pn171_ pn172_ pn173_ pn174_ pn180_ pn188_)))) (fun a nr_ => ((S595 a nr_).trans ((S594 a nr_).trans (hSN15 a nr_))))
    exact lp15 _ 0 _ (up M 161 14 0) rfl (by omega) (RS.cg C (fun j_ h1_ h2_ => up_ne2 (by omega)) (fun a_ h1_ h2_ => up_row h1_)) (fun p pn170_ pn171_ pn172_ pn173_ pn174_ pn180_ pn188_ => rfl) (fun a nr_ => rfl)
  · exfalso; omega
set_option maxRecDepth 100000 in
theorem rn_primes {d : Nat} {M : Mem} {k : Nat} {pl : Nat → Pl k} {n : Int} {tx : Int → Int} {rc : Nat} {rw : Int → Int} {fc : Nat} {fa : Nat → Pl k} (H : RFS M k pl n tx rc rw fc fa) (x : Int) (x1_ : -2147483648 ≤ x) (x2_ : x ≤ 2147483647) (hn : ¬ (1 ≤ x ∧ x ≤ 2)) : Ct 198 (d + 8) 300 [(1, 161), (0, x)] M (fun r_ M' => r_ = (0, -1) ∧ RFS M' k pl n tx rc rw fc fa ∧ (∀ a : Int, (a < 161 ∨ 197 < a) → M' a = M a)) := by
  have hK : cd 300 = k300 := rfl
  obtain ⟨R, C, hpl, T, hR, hF⟩ := H
  have q1_ := qq_I k
  have p1_ := pp_I k
  have m1_ := mm_I k
  show Wp 198 _ 300 0 [(1, 161), (0, x), (3, 0), (3, 0)] [] M _
  refine w_al hK rfl rfl ?_
  refine w_ic hK rfl ?_
  refine w_puti (n := 14) (m := 14) hK rfl rfl (by decide) (by decide) rfl rfl rfl rfl ?_
  refine w_il hK rfl rfl ?_
  refine w_i2l hK rfl (by omega) (by omega) ?_
  refine w_lc hK rfl ?_
  refine w_lcw hK rfl ?_
  refine w_call [(2, x), (2, 1), (2, 2)] hK rfl rfl rfl rfl (Or.inl rfl) (r_in x 1 2 (by omega) (by omega) (by omega) (by omega) (by omega) (by omega)) ?_
  rintro _ Mq ⟨rfl, e_⟩
  subst Mq
  have iI_596 := ite01 (1 ≤ x ∧ x ≤ 2)
  refine ⟨by show (0 : Nat) ≠ 9; decide, (?_ : Wp 198 _ 300 8 [(1, 161), (0, x), (3, 0), (3, 0)] [(0, (if 1 ≤ x ∧ x ≤ 2 then 1 else 0))] (up M 161 14 0) _)⟩
  refine w_ne hK rfl (by omega) (by omega) (fun h8 => ?_) (fun h8 => ?_)
  · exfalso; omega
  · refine w_ic hK rfl ?_
    refine w_iret hK rfl rfl ?_
    exact ⟨rfl, ⟨_, (RS.cg C (fun j_ h1_ h2_ => up_ne2 (by omega)) (fun a_ h1_ h2_ => up_row h1_)), (PM.keep hpl (up_row (by decide))), (TMs.keep T (up_ne2 (by decide)) (up_row (by decide))), (RM.keep hR (up_ne2 (by decide)) (up_row (by decide))), (FM.keep hF (up_ne2 (by decide)) (up_row (by decide)) (up_row (by decide)))⟩, (fun a h_ => (up_row (by omega)))⟩
set_option maxRecDepth 100000 in
theorem r_full {d : Nat} {M : Mem} {k : Nat} {R : Int → Option (Pl k)} (C : RS M k R) {pl : Nat → Pl k} (hpl : PM M pl) : Ct 198 (d + 2) 302 [(1, 161)] M (fun r_ M' => ∃ R' : Int → Option (Pl k), r_ = (0, ubs pl 6) ∧ RS M' k R' ∧ (∀ a : Int, (∀ p : Int, isR p → a ≠ p) → M' a = M a) ∧ (∀ p : Int, p ≠ 180 → R' p = R p)) := by
  have hK : cd 302 = k302 := rfl
  show Wp 198 _ 302 0 [(1, 161), (3, 0), (3, 0)] [] M _
  refine w_ic hK rfl ?_
  refine w_is [(1, 161), (0, 0), (3, 0)] hK rfl rfl rfl ?_
  refine w_ic hK rfl ?_
  refine w_is [(1, 161), (0, 0), (0, 0)] hK rfl rfl rfl ?_
  have lp4 : ∀ (n_ : Nat) (i : Nat) (R1 : Int → Option (Pl k)) (N4 : Mem), 7 - i = n_ → (i ≤ 6) → (RS N4 k R1) → ((∀ p : Int, p ≠ 180 → R1 p = R p)) → ((∀ a : Int, (∀ p : Int, isR p → a ≠ p) → N4 a = M a)) → Wp 198 (d + 2) 302 4 [(1, 161), (0, (ubs pl i)), (0, (i : Int))] [] N4 (fun r_ M' => ∃ R' : Int → Option (Pl k), r_ = (0, ubs pl 6) ∧ RS M' k R' ∧ (∀ a : Int, (∀ p : Int, isR p → a ≠ p) → M' a = M a) ∧ (∀ p : Int, p ≠ 180 → R' p = R p)) := by
    intro n_
    induction n_ using Nat.strongRecOn with
    | _ n_ ih4 =>
    intro i R1 N4 hm4 hi hC hG hS
    have uI_ := ubs_I pl i
    have dI2_ : i < 6 → -1 ≤ dg (pl i) := fun _ => dg_ge _
    refine w_il hK rfl rfl ?_
    refine w_ic hK rfl ?_
    refine w_ge2 hK rfl (by omega) (by omega) (by omega) (by omega) (fun h6 => ?_) (fun h6 => ?_)
    · refine w_il hK rfl rfl ?_
      refine w_iret hK rfl rfl ?_
      have e_ : i = 6 := by omega
      subst e_
      exact ⟨_, rfl, hC, (fun a nr_ => (hS a nr_)), (fun p pn180_ => (hG p pn180_))⟩
    · refine w_al hK rfl rfl ?_
      refine w_il hK rfl rfl ?_
      refine w_al hK rfl rfl ?_
      refine w_getr (n := 26) (v := 180) hK rfl rfl (by decide) (by decide) rfl rfl rfl rfl ?_
      refine w_call [(1, 161), (0, (i : Int)), (1, 180)] hK rfl rfl rfl rfl (Or.inr ⟨_, _, _, rfl, by decide, (by decide), rfl⟩) (r_load hC (PM.keep hpl (hS 167 (notR rfl))) i (by omega) (isR_of (p := 180) rfl)) ?_
      rintro _ V597 ⟨P597, rfl, C597, S597, F597, f597_0⟩
      refine ⟨by decide, (?_ : Wp 198 _ 302 12 [(1, 161), (0, (ubs pl i)), (0, (i : Int))] [] V597 _)⟩
      refine w_il hK rfl rfl ?_
      refine w_al hK rfl rfl ?_
      have dI3_ := dg_ge (pl i)
      refine w_getr (n := 26) (v := 180) hK rfl rfl (by decide) (by decide) rfl rfl rfl rfl ?_
      have dI_ : -1 ≤ dg (pl i) ∧ dg (pl i) ≤ 47 := C597.dI ⟨(isR_of (p := 180) rfl), f597_0⟩
      refine w_call [(1, 180)] hK rfl rfl rfl rfl (Or.inl rfl) (r_deg C597 ⟨(isR_of (p := 180) rfl), f597_0⟩) ?_
      rintro _ Mq ⟨rfl, e_⟩
      subst Mq
      refine ⟨by show (0 : Nat) ≠ 9; decide, (?_ : Wp 198 _ 302 16 [(1, 161), (0, (ubs pl i)), (0, (i : Int))] [(0, (dg (pl i))), (0, (ubs pl i))] V597 _)⟩
      refine w_ic hK rfl ?_
      refine w_eq2 hK rfl (by omega) (by omega) (by omega) (by omega) (fun h17 => ?_) (fun h17 => ?_)
      · refine w_ic hK rfl ?_
        refine w_bin (w := i32 (ubs pl i) ||| i32 0) hK rfl rfl rfl ?_
        refine w_is [(1, 161), (0, (i32 (ubs pl i) ||| i32 0).toInt), (0, (i : Int))] hK rfl rfl rfl ?_
        refine w_inc [(1, 161), (0, (i32 (ubs pl i) ||| i32 0).toInt), (0, ((i : Int) + 1))] hK rfl rfl rfl (by omega) (by omega) rfl ?_
        refine w_goto hK rfl ?_
        have eu_ : ubs pl (i + 1) = ubs pl i := if_neg (by omega)
        rw [ior0 uI_.1 uI_.2]
        rw [show ubs pl i = ubs pl (i + 1) from eu_.symm]
        exact ih4 _ (by omega) (i + 1) _ V597 rfl (by omega) C597 (fun p pn180_ => ((F597 p pn180_).trans (hG p pn180_))) (fun a nr_ => ((S597 a nr_).trans (hS a nr_)))
      · refine w_ic hK rfl ?_
        refine w_il hK rfl rfl ?_
        refine w_bin (w := i32 1 <<< (i32 (i : Int) &&& 31)) hK rfl rfl rfl ?_
        refine w_goto hK rfl ?_
        refine w_bin (w := i32 (ubs pl i) ||| i32 ((i32 1 <<< (i32 (i : Int) &&& 31)).toInt)) hK rfl rfl rfl ?_
        refine w_is [(1, 161), (0, (i32 (ubs pl i) ||| i32 ((i32 1 <<< (i32 (i : Int) &&& 31)).toInt)).toInt), (0, (i : Int))] hK rfl rfl rfl ?_
        refine w_inc [(1, 161), (0, (i32 (ubs pl i) ||| i32 ((i32 1 <<< (i32 (i : Int) &&& 31)).toInt)).toInt), (0, ((i : Int) + 1))] hK rfl rfl rfl (by omega) (by omega) rfl ?_
        refine w_goto hK rfl ?_
        have eu_ : ubs pl (i + 1) = bset (ubs pl i) i := if_pos (by omega)
        rw [show (i32 (ubs pl i) ||| i32 ((i32 1 <<< (i32 (i : Int) &&& 31)).toInt)).toInt = ubs pl (i + 1) from eu_.symm]
        exact ih4 _ (by omega) (i + 1) _ V597 rfl (by omega) C597 (fun p pn180_ => ((F597 p pn180_).trans (hG p pn180_))) (fun a nr_ => ((S597 a nr_).trans (hS a nr_)))
  exact lp4 _ 0 _ M rfl (by omega) C (fun p pn180_ => rfl) (fun a nr_ => rfl)
set_option maxRecDepth 100000 in
theorem ro_count0 {d : Nat} {M : Mem} {k : Nat} {pl : Nat → Pl k} {n : Int} {tx : Int → Int} {rc : Nat} {rw : Int → Int} {fc : Nat} {fa : Nat → Pl k} (H : RFS M k pl n tx rc rw fc fa)  : Ct 198 (d + 8) 301 [(1, 161), (0, 0)] M (fun r_ M' => r_ = (0, (k : Int)) ∧ RFS M' k pl n tx rc rw fc fa ∧ (∀ a : Int, (a < 161 ∨ 197 < a) → M' a = M a)) := by
  have hK : cd 301 = k301 := rfl
  obtain ⟨R, C, hpl, T, hR, hF⟩ := H
  have q1_ := qq_I k
  have p1_ := pp_I k
  have m1_ := mm_I k
  show Wp 198 _ 301 0 [(1, 161), (0, 0)] [] M _
  refine w_al hK rfl rfl ?_
  refine w_ic hK rfl ?_
  refine w_puti (n := 14) (m := 14) hK rfl rfl (by decide) (by decide) rfl rfl rfl rfl ?_
  refine w_il hK rfl rfl ?_
  refine w_tab hK rfl rfl (by decide) (by decide) (fun h_ => absurd h_ (by decide)) (fun _ _ => ?_)
  show Wp 198 _ 301 5 [(1, 161), (0, 0)] [] (up M 161 14 0) _
  refine w_al hK rfl rfl ?_
  refine w_geti (n := 0) (m := 0) hK rfl rfl (by decide) (by decide) rfl rfl rfl rfl ?_
  rw [show (up M 161 14 0) 161 0 = (k : Int) from (RS.cg C (fun j_ h1_ h2_ => up_ne2 (by omega)) (fun a_ h1_ h2_ => up_row h1_)).F.k0]
  refine w_iret hK rfl rfl ?_
  exact ⟨rfl, ⟨_, (RS.cg C (fun j_ h1_ h2_ => up_ne2 (by omega)) (fun a_ h1_ h2_ => up_row h1_)), (PM.keep hpl (up_row (by decide))), (TMs.keep T (up_ne2 (by decide)) (up_row (by decide))), (RM.keep hR (up_ne2 (by decide)) (up_row (by decide))), (FM.keep hF (up_ne2 (by decide)) (up_row (by decide)) (up_row (by decide)))⟩, (fun a h_ => (up_row (by omega)))⟩
set_option maxRecDepth 100000 in
theorem ro_count1 {d : Nat} {M : Mem} {k : Nat} {pl : Nat → Pl k} {n : Int} {tx : Int → Int} {rc : Nat} {rw : Int → Int} {fc : Nat} {fa : Nat → Pl k} (H : RFS M k pl n tx rc rw fc fa)  : Ct 198 (d + 8) 301 [(1, 161), (0, 1)] M (fun r_ M' => r_ = (0, (qq k : Int)) ∧ RFS M' k pl n tx rc rw fc fa ∧ (∀ a : Int, (a < 161 ∨ 197 < a) → M' a = M a)) := by
  have hK : cd 301 = k301 := rfl
  obtain ⟨R, C, hpl, T, hR, hF⟩ := H
  have q1_ := qq_I k
  have p1_ := pp_I k
  have m1_ := mm_I k
  show Wp 198 _ 301 0 [(1, 161), (0, 1)] [] M _
  refine w_al hK rfl rfl ?_
  refine w_ic hK rfl ?_
  refine w_puti (n := 14) (m := 14) hK rfl rfl (by decide) (by decide) rfl rfl rfl rfl ?_
  refine w_il hK rfl rfl ?_
  refine w_tab hK rfl rfl (by decide) (by decide) (fun h_ => absurd h_ (by decide)) (fun _ _ => ?_)
  show Wp 198 _ 301 8 [(1, 161), (0, 1)] [] (up M 161 14 0) _
  refine w_al hK rfl rfl ?_
  refine w_geti (n := 1) (m := 1) hK rfl rfl (by decide) (by decide) rfl rfl rfl rfl ?_
  rw [show (up M 161 14 0) 161 1 = (qq k : Int) from (RS.cg C (fun j_ h1_ h2_ => up_ne2 (by omega)) (fun a_ h1_ h2_ => up_row h1_)).F.q]
  refine w_iret hK rfl rfl ?_
  exact ⟨rfl, ⟨_, (RS.cg C (fun j_ h1_ h2_ => up_ne2 (by omega)) (fun a_ h1_ h2_ => up_row h1_)), (PM.keep hpl (up_row (by decide))), (TMs.keep T (up_ne2 (by decide)) (up_row (by decide))), (RM.keep hR (up_ne2 (by decide)) (up_row (by decide))), (FM.keep hF (up_ne2 (by decide)) (up_row (by decide)) (up_row (by decide)))⟩, (fun a h_ => (up_row (by omega)))⟩
set_option maxRecDepth 100000 in
theorem ro_count2 {d : Nat} {M : Mem} {k : Nat} {pl : Nat → Pl k} {n : Int} {tx : Int → Int} {rc : Nat} {rw : Int → Int} {fc : Nat} {fa : Nat → Pl k} (H : RFS M k pl n tx rc rw fc fa)  : Ct 198 (d + 8) 301 [(1, 161), (0, 2)] M (fun r_ M' => r_ = (0, (pp k : Int)) ∧ RFS M' k pl n tx rc rw fc fa ∧ (∀ a : Int, (a < 161 ∨ 197 < a) → M' a = M a)) := by
  have hK : cd 301 = k301 := rfl
  obtain ⟨R, C, hpl, T, hR, hF⟩ := H
  have q1_ := qq_I k
  have p1_ := pp_I k
  have m1_ := mm_I k
  show Wp 198 _ 301 0 [(1, 161), (0, 2)] [] M _
  refine w_al hK rfl rfl ?_
  refine w_ic hK rfl ?_
  refine w_puti (n := 14) (m := 14) hK rfl rfl (by decide) (by decide) rfl rfl rfl rfl ?_
  refine w_il hK rfl rfl ?_
  refine w_tab hK rfl rfl (by decide) (by decide) (fun h_ => absurd h_ (by decide)) (fun _ _ => ?_)
  show Wp 198 _ 301 11 [(1, 161), (0, 2)] [] (up M 161 14 0) _
  refine w_al hK rfl rfl ?_
  refine w_geti (n := 2) (m := 2) hK rfl rfl (by decide) (by decide) rfl rfl rfl rfl ?_
  rw [show (up M 161 14 0) 161 2 = (pp k : Int) from (RS.cg C (fun j_ h1_ h2_ => up_ne2 (by omega)) (fun a_ h1_ h2_ => up_row h1_)).F.p]
  refine w_iret hK rfl rfl ?_
  exact ⟨rfl, ⟨_, (RS.cg C (fun j_ h1_ h2_ => up_ne2 (by omega)) (fun a_ h1_ h2_ => up_row h1_)), (PM.keep hpl (up_row (by decide))), (TMs.keep T (up_ne2 (by decide)) (up_row (by decide))), (RM.keep hR (up_ne2 (by decide)) (up_row (by decide))), (FM.keep hF (up_ne2 (by decide)) (up_row (by decide)) (up_row (by decide)))⟩, (fun a h_ => (up_row (by omega)))⟩
set_option maxRecDepth 100000 in
theorem ro_count3 {d : Nat} {M : Mem} {k : Nat} {pl : Nat → Pl k} {n : Int} {tx : Int → Int} {rc : Nat} {rw : Int → Int} {fc : Nat} {fa : Nat → Pl k} (H : RFS M k pl n tx rc rw fc fa)  : Ct 198 (d + 8) 301 [(1, 161), (0, 3)] M (fun r_ M' => r_ = (0, (mm k : Int)) ∧ RFS M' k pl n tx rc rw fc fa ∧ (∀ a : Int, (a < 161 ∨ 197 < a) → M' a = M a)) := by
  have hK : cd 301 = k301 := rfl
  obtain ⟨R, C, hpl, T, hR, hF⟩ := H
  have q1_ := qq_I k
  have p1_ := pp_I k
  have m1_ := mm_I k
  show Wp 198 _ 301 0 [(1, 161), (0, 3)] [] M _
  refine w_al hK rfl rfl ?_
  refine w_ic hK rfl ?_
  refine w_puti (n := 14) (m := 14) hK rfl rfl (by decide) (by decide) rfl rfl rfl rfl ?_
  refine w_il hK rfl rfl ?_
  refine w_tab hK rfl rfl (by decide) (by decide) (fun h_ => absurd h_ (by decide)) (fun _ _ => ?_)
  show Wp 198 _ 301 14 [(1, 161), (0, 3)] [] (up M 161 14 0) _
  refine w_al hK rfl rfl ?_
  refine w_geti (n := 3) (m := 3) hK rfl rfl (by decide) (by decide) rfl rfl rfl rfl ?_
  rw [show (up M 161 14 0) 161 3 = (mm k : Int) from (RS.cg C (fun j_ h1_ h2_ => up_ne2 (by omega)) (fun a_ h1_ h2_ => up_row h1_)).F.m]
  refine w_iret hK rfl rfl ?_
  exact ⟨rfl, ⟨_, (RS.cg C (fun j_ h1_ h2_ => up_ne2 (by omega)) (fun a_ h1_ h2_ => up_row h1_)), (PM.keep hpl (up_row (by decide))), (TMs.keep T (up_ne2 (by decide)) (up_row (by decide))), (RM.keep hR (up_ne2 (by decide)) (up_row (by decide))), (FM.keep hF (up_ne2 (by decide)) (up_row (by decide)) (up_row (by decide)))⟩, (fun a h_ => (up_row (by omega)))⟩
set_option maxRecDepth 100000 in
theorem ro_count4 {d : Nat} {M : Mem} {k : Nat} {pl : Nat → Pl k} {n : Int} {tx : Int → Int} {rc : Nat} {rw : Int → Int} {fc : Nat} {fa : Nat → Pl k} (H : RFS M k pl n tx rc rw fc fa)  : Ct 198 (d + 8) 301 [(1, 161), (0, 4)] M (fun r_ M' => r_ = (0, (ubs pl 6)) ∧ RFS M' k pl n tx rc rw fc fa ∧ (∀ a : Int, (a < 161 ∨ 197 < a) → M' a = M a)) := by
  have hK : cd 301 = k301 := rfl
  obtain ⟨R, C, hpl, T, hR, hF⟩ := H
  have q1_ := qq_I k
  have p1_ := pp_I k
  have m1_ := mm_I k
  show Wp 198 _ 301 0 [(1, 161), (0, 4)] [] M _
  refine w_al hK rfl rfl ?_
  refine w_ic hK rfl ?_
  refine w_puti (n := 14) (m := 14) hK rfl rfl (by decide) (by decide) rfl rfl rfl rfl ?_
  refine w_il hK rfl rfl ?_
  refine w_tab hK rfl rfl (by decide) (by decide) (fun h_ => absurd h_ (by decide)) (fun _ _ => ?_)
  show Wp 198 _ 301 17 [(1, 161), (0, 4)] [] (up M 161 14 0) _
  refine w_al hK rfl rfl ?_
  refine w_call [(1, 161)] hK rfl rfl rfl rfl (Or.inr ⟨_, _, _, rfl, by decide, (by decide), rfl⟩) (r_full (RS.cg C (fun j_ h1_ h2_ => up_ne2 (by omega)) (fun a_ h1_ h2_ => up_row h1_)) (PM.keep hpl (up_row (by decide)))) ?_
  rintro _ V598 ⟨P598, rfl, C598, S598, F598⟩
  refine ⟨by show (0 : Nat) ≠ 9; decide, (?_ : Wp 198 _ 301 19 [(1, 161), (0, 4)] [(0, (ubs pl 6))] V598 _)⟩
  refine w_iret hK rfl rfl ?_
  exact ⟨rfl, ⟨_, C598, (PM.keep hpl ((S598 167 (notR rfl)).trans (up_row (by decide)))), (TMs.keep T ((congrFun (S598 161 (notR rfl)) 11).trans (up_ne2 (by decide))) ((S598 168 (notR rfl)).trans (up_row (by decide)))), (RM.keep hR ((congrFun (S598 161 (notR rfl)) 13).trans (up_ne2 (by decide))) ((S598 169 (notR rfl)).trans (up_row (by decide)))), (FM.keep hF ((congrFun (S598 161 (notR rfl)) 15).trans (up_ne2 (by decide))) ((S598 189 (notR rfl)).trans (up_row (by decide))) ((S598 190 (notR rfl)).trans (up_row (by decide))))⟩, (fun a h_ => ((S598 a (npR h_)).trans (up_row (by omega))))⟩
set_option maxRecDepth 100000 in
theorem ro_count5 {d : Nat} {M : Mem} {k : Nat} {pl : Nat → Pl k} {n : Int} {tx : Int → Int} {rc : Nat} {rw : Int → Int} {fc : Nat} {fa : Nat → Pl k} (H : RFS M k pl n tx rc rw fc fa)  : Ct 198 (d + 8) 301 [(1, 161), (0, 5)] M (fun r_ M' => r_ = (0, (fc : Int)) ∧ RFS M' k pl n tx rc rw fc fa ∧ (∀ a : Int, (a < 161 ∨ 197 < a) → M' a = M a)) := by
  have hK : cd 301 = k301 := rfl
  obtain ⟨R, C, hpl, T, hR, hF⟩ := H
  have q1_ := qq_I k
  have p1_ := pp_I k
  have m1_ := mm_I k
  show Wp 198 _ 301 0 [(1, 161), (0, 5)] [] M _
  refine w_al hK rfl rfl ?_
  refine w_ic hK rfl ?_
  refine w_puti (n := 14) (m := 14) hK rfl rfl (by decide) (by decide) rfl rfl rfl rfl ?_
  refine w_il hK rfl rfl ?_
  refine w_tab hK rfl rfl (by decide) (by decide) (fun h_ => absurd h_ (by decide)) (fun _ _ => ?_)
  show Wp 198 _ 301 20 [(1, 161), (0, 5)] [] (up M 161 14 0) _
  refine w_al hK rfl rfl ?_
  refine w_geti (n := 15) (m := 15) hK rfl rfl (by decide) (by decide) rfl rfl rfl rfl ?_
  rw [show (up M 161 14 0) 161 15 = (fc : Int) from (FM.keep hF (up_ne2 (by decide)) (up_row (by decide)) (up_row (by decide))).1]
  refine w_iret hK rfl rfl ?_
  exact ⟨rfl, ⟨_, (RS.cg C (fun j_ h1_ h2_ => up_ne2 (by omega)) (fun a_ h1_ h2_ => up_row h1_)), (PM.keep hpl (up_row (by decide))), (TMs.keep T (up_ne2 (by decide)) (up_row (by decide))), (RM.keep hR (up_ne2 (by decide)) (up_row (by decide))), (FM.keep hF (up_ne2 (by decide)) (up_row (by decide)) (up_row (by decide)))⟩, (fun a h_ => (up_row (by omega)))⟩
set_option maxRecDepth 100000 in
theorem ro_count6 {d : Nat} {M : Mem} {k : Nat} {pl : Nat → Pl k} {n : Int} {tx : Int → Int} {rc : Nat} {rw : Int → Int} {fc : Nat} {fa : Nat → Pl k} (H : RFS M k pl n tx rc rw fc fa)  : Ct 198 (d + 8) 301 [(1, 161), (0, 6)] M (fun r_ M' => r_ = (0, (rc : Int)) ∧ RFS M' k pl n tx rc rw fc fa ∧ (∀ a : Int, (a < 161 ∨ 197 < a) → M' a = M a)) := by
  have hK : cd 301 = k301 := rfl
  obtain ⟨R, C, hpl, T, hR, hF⟩ := H
  have q1_ := qq_I k
  have p1_ := pp_I k
  have m1_ := mm_I k
  show Wp 198 _ 301 0 [(1, 161), (0, 6)] [] M _
  refine w_al hK rfl rfl ?_
  refine w_ic hK rfl ?_
  refine w_puti (n := 14) (m := 14) hK rfl rfl (by decide) (by decide) rfl rfl rfl rfl ?_
  refine w_il hK rfl rfl ?_
  refine w_tab hK rfl rfl (by decide) (by decide) (fun h_ => absurd h_ (by decide)) (fun _ _ => ?_)
  show Wp 198 _ 301 23 [(1, 161), (0, 6)] [] (up M 161 14 0) _
  refine w_al hK rfl rfl ?_
  refine w_geti (n := 13) (m := 13) hK rfl rfl (by decide) (by decide) rfl rfl rfl rfl ?_
  rw [show (up M 161 14 0) 161 13 = (rc : Int) from (RM.keep hR (up_ne2 (by decide)) (up_row (by decide))).1]
  refine w_iret hK rfl rfl ?_
  exact ⟨rfl, ⟨_, (RS.cg C (fun j_ h1_ h2_ => up_ne2 (by omega)) (fun a_ h1_ h2_ => up_row h1_)), (PM.keep hpl (up_row (by decide))), (TMs.keep T (up_ne2 (by decide)) (up_row (by decide))), (RM.keep hR (up_ne2 (by decide)) (up_row (by decide))), (FM.keep hF (up_ne2 (by decide)) (up_row (by decide)) (up_row (by decide)))⟩, (fun a h_ => (up_row (by omega)))⟩
set_option maxRecDepth 100000 in
theorem ro_count7 {d : Nat} {M : Mem} {k : Nat} {pl : Nat → Pl k} {n : Int} {tx : Int → Int} {rc : Nat} {rw : Int → Int} {fc : Nat} {fa : Nat → Pl k} (H : RFS M k pl n tx rc rw fc fa)  : Ct 198 (d + 8) 301 [(1, 161), (0, 7)] M (fun r_ M' => r_ = (0, n) ∧ RFS M' k pl n tx rc rw fc fa ∧ (∀ a : Int, (a < 161 ∨ 197 < a) → M' a = M a)) := by
  have hK : cd 301 = k301 := rfl
  obtain ⟨R, C, hpl, T, hR, hF⟩ := H
  have q1_ := qq_I k
  have p1_ := pp_I k
  have m1_ := mm_I k
  show Wp 198 _ 301 0 [(1, 161), (0, 7)] [] M _
  refine w_al hK rfl rfl ?_
  refine w_ic hK rfl ?_
  refine w_puti (n := 14) (m := 14) hK rfl rfl (by decide) (by decide) rfl rfl rfl rfl ?_
  refine w_il hK rfl rfl ?_
  refine w_tab hK rfl rfl (by decide) (by decide) (fun h_ => absurd h_ (by decide)) (fun _ _ => ?_)
  show Wp 198 _ 301 26 [(1, 161), (0, 7)] [] (up M 161 14 0) _
  refine w_al hK rfl rfl ?_
  refine w_geti (n := 11) (m := 11) hK rfl rfl (by decide) (by decide) rfl rfl rfl rfl ?_
  rw [show (up M 161 14 0) 161 11 = n from (TMs.keep T (up_ne2 (by decide)) (up_row (by decide))).1.1]
  refine w_iret hK rfl rfl ?_
  exact ⟨rfl, ⟨_, (RS.cg C (fun j_ h1_ h2_ => up_ne2 (by omega)) (fun a_ h1_ h2_ => up_row h1_)), (PM.keep hpl (up_row (by decide))), (TMs.keep T (up_ne2 (by decide)) (up_row (by decide))), (RM.keep hR (up_ne2 (by decide)) (up_row (by decide))), (FM.keep hF (up_ne2 (by decide)) (up_row (by decide)) (up_row (by decide)))⟩, (fun a h_ => (up_row (by omega)))⟩
set_option maxRecDepth 100000 in
theorem rn_count {d : Nat} {M : Mem} {k : Nat} {pl : Nat → Pl k} {n : Int} {tx : Int → Int} {rc : Nat} {rw : Int → Int} {fc : Nat} {fa : Nat → Pl k} (H : RFS M k pl n tx rc rw fc fa) (x : Int) (x1_ : -2147483648 ≤ x) (x2_ : x ≤ 2147483647) (hn : x < 0 ∨ 7 < x) : Ct 198 (d + 8) 301 [(1, 161), (0, x)] M (fun r_ M' => r_ = (0, -1) ∧ RFS M' k pl n tx rc rw fc fa ∧ (∀ a : Int, (a < 161 ∨ 197 < a) → M' a = M a)) := by
  have hK : cd 301 = k301 := rfl
  obtain ⟨R, C, hpl, T, hR, hF⟩ := H
  have q1_ := qq_I k
  have p1_ := pp_I k
  have m1_ := mm_I k
  show Wp 198 _ 301 0 [(1, 161), (0, x)] [] M _
  refine w_al hK rfl rfl ?_
  refine w_ic hK rfl ?_
  refine w_puti (n := 14) (m := 14) hK rfl rfl (by decide) (by decide) rfl rfl rfl rfl ?_
  refine w_il hK rfl rfl ?_
  refine w_tab hK rfl rfl (by omega) (by omega) (fun _ => ?_) (fun h_ h2_ => absurd h_ (by omega))
  show Wp 198 _ 301 29 [(1, 161), (0, x)] [] (up M 161 14 0) _
  refine w_ic hK rfl ?_
  refine w_iret hK rfl rfl ?_
  exact ⟨rfl, ⟨_, (RS.cg C (fun j_ h1_ h2_ => up_ne2 (by omega)) (fun a_ h1_ h2_ => up_row h1_)), (PM.keep hpl (up_row (by decide))), (TMs.keep T (up_ne2 (by decide)) (up_row (by decide))), (RM.keep hR (up_ne2 (by decide)) (up_row (by decide))), (FM.keep hF (up_ne2 (by decide)) (up_row (by decide)) (up_row (by decide)))⟩, (fun a h_ => (up_row (by omega)))⟩
set_option maxRecDepth 100000 in
theorem ro_row {d : Nat} {M : Mem} {k : Nat} {pl : Nat → Pl k} {n : Int} {tx : Int → Int} {rc : Nat} {rw : Int → Int} {fc : Nat} {fa : Nat → Pl k} (H : RFS M k pl n tx rc rw fc fa) (j : Nat) (hj : j < rc) : Ct 198 (d + 8) 303 [(1, 161), (0, (j : Int))] M (fun r_ M' => r_ = (2, (rw (j : Int))) ∧ RFS M' k pl n tx rc rw fc fa ∧ (∀ a : Int, (a < 161 ∨ 197 < a) → M' a = M a) ∧ M' 161 14 = 0) := by
  have hK : cd 303 = k303 := rfl
  obtain ⟨R, C, hpl, T, hR, hF⟩ := H
  have q1_ := qq_I k
  have p1_ := pp_I k
  have m1_ := mm_I k
  have rc_ := hR.2.1
  show Wp 198 _ 303 0 [(1, 161), (0, (j : Int))] [] M _
  refine w_al hK rfl rfl ?_
  refine w_ic hK rfl ?_
  refine w_puti (n := 14) (m := 14) hK rfl rfl (by decide) (by decide) rfl rfl rfl rfl ?_
  refine w_il hK rfl rfl ?_
  refine w_i2l hK rfl (by omega) (by omega) ?_
  refine w_lc hK rfl ?_
  refine w_al hK rfl rfl ?_
  refine w_geti (n := 13) (m := 13) hK rfl rfl (by decide) (by decide) rfl rfl rfl rfl ?_
  rw [show (up M 161 14 0) 161 13 = (rc : Int) from (RM.keep hR (up_ne2 (by decide)) (up_row (by decide))).1]
  refine w_ic hK rfl ?_
  refine w_sub hK rfl (by omega) (by omega) ?_
  refine w_i2l hK rfl (by omega) (by omega) ?_
  refine w_call [(2, (j : Int)), (2, 0), (2, ((rc : Int) - 1))] hK rfl rfl rfl rfl (Or.inl rfl) (r_in (j : Int) 0 ((rc : Int) - 1) (by omega) (by omega) (by omega) (by omega) (by omega) (by omega)) ?_
  rintro _ Mq ⟨rfl, e_⟩
  subst Mq
  have iI_599 := ite01 (0 ≤ (j : Int) ∧ (j : Int) ≤ ((rc : Int) - 1))
  refine ⟨by show (0 : Nat) ≠ 9; decide, (?_ : Wp 198 _ 303 12 [(1, 161), (0, (j : Int))] [(0, (if 0 ≤ (j : Int) ∧ (j : Int) ≤ ((rc : Int) - 1) then 1 else 0))] (up M 161 14 0) _)⟩
  refine w_eq hK rfl (by omega) (by omega) (fun h12 => ?_) (fun h12 => ?_)
  · exfalso; omega
  · refine w_al hK rfl rfl ?_
    refine w_getr (n := 12) (v := 169) hK rfl rfl (by decide) (by decide) rfl rfl rfl rfl ?_
    refine w_il hK rfl rfl ?_
    refine w_la hK rfl rfl (by decide) (by decide) (by omega) (by omega) ?_
    rw [show (up M 161 14 0) 169 (j : Int) = (M 169 (j : Int)) from (congrFun (up_row (by decide)) (j : Int))]
    refine w_goto hK rfl ?_
    refine w_lret hK rfl rfl ?_
    exact ⟨(congrArg (Prod.mk 2) (hR.2.2 j hj)), ⟨_, (RS.cg C (fun j_ h1_ h2_ => up_ne2 (by omega)) (fun a_ h1_ h2_ => up_row h1_)), (PM.keep hpl (up_row (by decide))), (TMs.keep T (up_ne2 (by decide)) (up_row (by decide))), (RM.keep hR (up_ne2 (by decide)) (up_row (by decide))), (FM.keep hF (up_ne2 (by decide)) (up_row (by decide)) (up_row (by decide)))⟩, (fun a h_ => (up_row (by omega))), up_eq⟩
set_option maxRecDepth 100000 in
theorem rn_row {d : Nat} {M : Mem} {k : Nat} {pl : Nat → Pl k} {n : Int} {tx : Int → Int} {rc : Nat} {rw : Int → Int} {fc : Nat} {fa : Nat → Pl k} (H : RFS M k pl n tx rc rw fc fa) (x : Int) (x1_ : -2147483648 ≤ x) (x2_ : x ≤ 2147483647) (hn : x < 0 ∨ (rc : Int) ≤ x) : Ct 198 (d + 8) 303 [(1, 161), (0, x)] M (fun r_ M' => r_ = (2, 0) ∧ RFS M' k pl n tx rc rw fc fa ∧ (∀ a : Int, (a < 161 ∨ 197 < a) → M' a = M a) ∧ M' 161 14 = 1) := by
  have hK : cd 303 = k303 := rfl
  obtain ⟨R, C, hpl, T, hR, hF⟩ := H
  have q1_ := qq_I k
  have p1_ := pp_I k
  have m1_ := mm_I k
  have rc_ := hR.2.1
  show Wp 198 _ 303 0 [(1, 161), (0, x)] [] M _
  refine w_al hK rfl rfl ?_
  refine w_ic hK rfl ?_
  refine w_puti (n := 14) (m := 14) hK rfl rfl (by decide) (by decide) rfl rfl rfl rfl ?_
  refine w_il hK rfl rfl ?_
  refine w_i2l hK rfl (by omega) (by omega) ?_
  refine w_lc hK rfl ?_
  refine w_al hK rfl rfl ?_
  refine w_geti (n := 13) (m := 13) hK rfl rfl (by decide) (by decide) rfl rfl rfl rfl ?_
  rw [show (up M 161 14 0) 161 13 = (rc : Int) from (RM.keep hR (up_ne2 (by decide)) (up_row (by decide))).1]
  refine w_ic hK rfl ?_
  refine w_sub hK rfl (by omega) (by omega) ?_
  refine w_i2l hK rfl (by omega) (by omega) ?_
  refine w_call [(2, x), (2, 0), (2, ((rc : Int) - 1))] hK rfl rfl rfl rfl (Or.inl rfl) (r_in x 0 ((rc : Int) - 1) (by omega) (by omega) (by omega) (by omega) (by omega) (by omega)) ?_
  rintro _ Mq ⟨rfl, e_⟩
  subst Mq
  have iI_600 := ite01 (0 ≤ x ∧ x ≤ ((rc : Int) - 1))
  refine ⟨by show (0 : Nat) ≠ 9; decide, (?_ : Wp 198 _ 303 12 [(1, 161), (0, x)] [(0, (if 0 ≤ x ∧ x ≤ ((rc : Int) - 1) then 1 else 0))] (up M 161 14 0) _)⟩
  refine w_eq hK rfl (by omega) (by omega) (fun h12 => ?_) (fun h12 => ?_)
  · refine w_al hK rfl rfl ?_
    refine w_call [(1, 161)] hK rfl rfl rfl rfl (Or.inr ⟨_, _, _, rfl, by decide, (by decide), rfl⟩) (r_lost) ?_
    rintro _ V601 ⟨rfl, e601_⟩
    subst V601
    refine ⟨(by show (0 : Nat) ≠ 9; decide), (?_ : Wp 198 _ 303 20 [(1, 161), (0, x)] [(0, 0)] (up (up M 161 14 0) 161 14 1) _)⟩
    refine w_i2l hK rfl (by omega) (by omega) ?_
    refine w_lret hK rfl rfl ?_
    exact ⟨rfl, ⟨_, (RS.cg (RS.cg C (fun j_ h1_ h2_ => up_ne2 (by omega)) (fun a_ h1_ h2_ => up_row h1_)) (fun j_ h1_ h2_ => up_ne2 (by omega)) (fun a_ h1_ h2_ => up_row h1_)), (PM.keep hpl ((up_row (by decide)).trans (up_row (by decide)))), (TMs.keep T ((up_ne2 (by decide)).trans (up_ne2 (by decide))) ((up_row (by decide)).trans (up_row (by decide)))), (RM.keep hR ((up_ne2 (by decide)).trans (up_ne2 (by decide))) ((up_row (by decide)).trans (up_row (by decide)))), (FM.keep hF ((up_ne2 (by decide)).trans (up_ne2 (by decide))) ((up_row (by decide)).trans (up_row (by decide))) ((up_row (by decide)).trans (up_row (by decide))))⟩, (fun a h_ => ((up_row (by omega)).trans (up_row (by omega)))), up_eq⟩
  · exfalso; omega
set_option maxRecDepth 100000 in
theorem ro_factor {d : Nat} {M : Mem} {k : Nat} {pl : Nat → Pl k} {n : Int} {tx : Int → Int} {rc : Nat} {rw : Int → Int} {fc : Nat} {fa : Nat → Pl k} (H : RFS M k pl n tx rc rw fc fa) (a j x : Nat) (hj : a + j = fc) (j1 : 1 ≤ j) (hx : (x : Int) ≤ dg (fa a)) : Ct 198 (d + 8) 285 [(1, 161), (0, (j : Int)), (0, (x : Int))] M (fun r_ M' => r_ = (0, ((fa a x).val : Int)) ∧ RFS M' k pl n tx rc rw fc fa ∧ (∀ a : Int, (a < 161 ∨ 197 < a) → M' a = M a) ∧ M' 161 14 = 0) := by
  have hK : cd 285 = k285 := rfl
  obtain ⟨R, C, hpl, T, hR, hF⟩ := H
  have q1_ := qq_I k
  have p1_ := pp_I k
  have m1_ := mm_I k
  have fc_ := hF.2.1
  have fI_ := hF.2.2 a (by omega)
  have fD_ := fI_.2.1
  show Wp 198 _ 285 0 [(1, 161), (0, (j : Int)), (0, (x : Int)), (3, 0)] [] M _
  refine w_al hK rfl rfl ?_
  refine w_ic hK rfl ?_
  refine w_puti (n := 14) (m := 14) hK rfl rfl (by decide) (by decide) rfl rfl rfl rfl ?_
  refine w_il hK rfl rfl ?_
  refine w_i2l hK rfl (by omega) (by omega) ?_
  refine w_lc hK rfl ?_
  refine w_al hK rfl rfl ?_
  refine w_geti (n := 15) (m := 15) hK rfl rfl (by decide) (by decide) rfl rfl rfl rfl ?_
  rw [show (up M 161 14 0) 161 15 = (fc : Int) from (FM.keep hF (up_ne2 (by decide)) (up_row (by decide)) (up_row (by decide))).1]
  refine w_i2l hK rfl (by omega) (by omega) ?_
  refine w_call [(2, (j : Int)), (2, 1), (2, (fc : Int))] hK rfl rfl rfl rfl (Or.inl rfl) (r_in (j : Int) 1 (fc : Int) (by omega) (by omega) (by omega) (by omega) (by omega) (by omega)) ?_
  rintro _ Mq ⟨rfl, e_⟩
  subst Mq
  have iI_602 := ite01 (1 ≤ (j : Int) ∧ (j : Int) ≤ (fc : Int))
  refine ⟨by show (0 : Nat) ≠ 9; decide, (?_ : Wp 198 _ 285 10 [(1, 161), (0, (j : Int)), (0, (x : Int)), (3, 0)] [(0, (if 1 ≤ (j : Int) ∧ (j : Int) ≤ (fc : Int) then 1 else 0))] (up M 161 14 0) _)⟩
  refine w_ne hK rfl (by omega) (by omega) (fun h10 => ?_) (fun h10 => ?_)
  · refine w_al hK rfl rfl ?_
    refine w_geti (n := 15) (m := 15) hK rfl rfl (by decide) (by decide) rfl rfl rfl rfl ?_
    rw [show (up M 161 14 0) 161 15 = (fc : Int) from (FM.keep hF (up_ne2 (by decide)) (up_row (by decide)) (up_row (by decide))).1]
    refine w_il hK rfl rfl ?_
    refine w_sub hK rfl (by omega) (by omega) ?_
    rw [show ((fc : Int) - (j : Int)) = (a : Int) by omega]
    refine w_is [(1, 161), (0, (j : Int)), (0, (x : Int)), (0, (a : Int))] hK rfl rfl rfl ?_
    refine w_il hK rfl rfl ?_
    refine w_i2l hK rfl (by omega) (by omega) ?_
    refine w_lc hK rfl ?_
    refine w_al hK rfl rfl ?_
    refine w_getr (n := 38) (v := 190) hK rfl rfl (by decide) (by decide) rfl rfl rfl rfl ?_
    refine w_il hK rfl rfl ?_
    refine w_ia hK rfl rfl (by decide) (by decide) (by omega) (by omega) ?_
    rw [show (up M 161 14 0) 190 (a : Int) = (M 190 (a : Int)) from (congrFun (up_row (by decide)) (a : Int))]
    rw [fI_.1]
    refine w_i2l hK rfl (by omega) (by omega) ?_
    refine w_call [(2, (x : Int)), (2, 0), (2, (dg (fa a)))] hK rfl rfl rfl rfl (Or.inl rfl) (r_in (x : Int) 0 (dg (fa a)) (by omega) (by omega) (by omega) (by omega) (by omega) (by omega)) ?_
    rintro _ Mq ⟨rfl, e_⟩
    subst Mq
    have iI_603 := ite01 (0 ≤ (x : Int) ∧ (x : Int) ≤ (dg (fa a)))
    refine ⟨by show (0 : Nat) ≠ 9; decide, (?_ : Wp 198 _ 285 28 [(1, 161), (0, (j : Int)), (0, (x : Int)), (0, (a : Int))] [(0, (if 0 ≤ (x : Int) ∧ (x : Int) ≤ (dg (fa a)) then 1 else 0))] (up M 161 14 0) _)⟩
    refine w_eq hK rfl (by omega) (by omega) (fun h28 => ?_) (fun h28 => ?_)
    · exfalso; omega
    · refine w_al hK rfl rfl ?_
      refine w_getr (n := 37) (v := 189) hK rfl rfl (by decide) (by decide) rfl rfl rfl rfl ?_
      refine w_ic hK rfl ?_
      refine w_il hK rfl rfl ?_
      refine w_mul hK rfl (by omega) (by omega) ?_
      refine w_il hK rfl rfl ?_
      refine w_add hK rfl (by omega) (by omega) ?_
      refine w_ia hK rfl rfl (by decide) (by decide) (by omega) (by omega) ?_
      rw [show (up M 161 14 0) 189 ((5 * (a : Int)) + (x : Int)) = (M 189 ((5 * (a : Int)) + (x : Int))) from (congrFun (up_row (by decide)) ((5 * (a : Int)) + (x : Int)))]
      refine w_goto hK rfl ?_
      refine w_iret hK rfl rfl ?_
      exact ⟨(congrArg (Prod.mk 0) (fI_.2.2 x (by omega))), ⟨_, (RS.cg C (fun j_ h1_ h2_ => up_ne2 (by omega)) (fun a_ h1_ h2_ => up_row h1_)), (PM.keep hpl (up_row (by decide))), (TMs.keep T (up_ne2 (by decide)) (up_row (by decide))), (RM.keep hR (up_ne2 (by decide)) (up_row (by decide))), (FM.keep hF (up_ne2 (by decide)) (up_row (by decide)) (up_row (by decide)))⟩, (fun a h_ => (up_row (by omega))), up_eq⟩
  · exfalso; omega
set_option maxRecDepth 100000 in
theorem rn_factor {d : Nat} {M : Mem} {k : Nat} {pl : Nat → Pl k} {n : Int} {tx : Int → Int} {rc : Nat} {rw : Int → Int} {fc : Nat} {fa : Nat → Pl k} (H : RFS M k pl n tx rc rw fc fa) (x y : Int) (x1_ : -2147483648 ≤ x) (x2_ : x ≤ 2147483647) (y1_ : -2147483648 ≤ y) (y2_ : y ≤ 2147483647) (hn : x < 1 ∨ (fc : Int) < x) : Ct 198 (d + 8) 285 [(1, 161), (0, x), (0, y)] M (fun r_ M' => r_ = (0, 0) ∧ RFS M' k pl n tx rc rw fc fa ∧ (∀ a : Int, (a < 161 ∨ 197 < a) → M' a = M a) ∧ M' 161 14 = 1) := by
  have hK : cd 285 = k285 := rfl
  obtain ⟨R, C, hpl, T, hR, hF⟩ := H
  have q1_ := qq_I k
  have p1_ := pp_I k
  have m1_ := mm_I k
  have fc_ := hF.2.1
  show Wp 198 _ 285 0 [(1, 161), (0, x), (0, y), (3, 0)] [] M _
  refine w_al hK rfl rfl ?_
  refine w_ic hK rfl ?_
  refine w_puti (n := 14) (m := 14) hK rfl rfl (by decide) (by decide) rfl rfl rfl rfl ?_
  refine w_il hK rfl rfl ?_
  refine w_i2l hK rfl (by omega) (by omega) ?_
  refine w_lc hK rfl ?_
  refine w_al hK rfl rfl ?_
  refine w_geti (n := 15) (m := 15) hK rfl rfl (by decide) (by decide) rfl rfl rfl rfl ?_
  rw [show (up M 161 14 0) 161 15 = (fc : Int) from (FM.keep hF (up_ne2 (by decide)) (up_row (by decide)) (up_row (by decide))).1]
  refine w_i2l hK rfl (by omega) (by omega) ?_
  refine w_call [(2, x), (2, 1), (2, (fc : Int))] hK rfl rfl rfl rfl (Or.inl rfl) (r_in x 1 (fc : Int) (by omega) (by omega) (by omega) (by omega) (by omega) (by omega)) ?_
  rintro _ Mq ⟨rfl, e_⟩
  subst Mq
  have iI_604 := ite01 (1 ≤ x ∧ x ≤ (fc : Int))
  refine ⟨by show (0 : Nat) ≠ 9; decide, (?_ : Wp 198 _ 285 10 [(1, 161), (0, x), (0, y), (3, 0)] [(0, (if 1 ≤ x ∧ x ≤ (fc : Int) then 1 else 0))] (up M 161 14 0) _)⟩
  refine w_ne hK rfl (by omega) (by omega) (fun h10 => ?_) (fun h10 => ?_)
  · exfalso; omega
  · refine w_al hK rfl rfl ?_
    refine w_call [(1, 161)] hK rfl rfl rfl rfl (Or.inr ⟨_, _, _, rfl, by decide, (by decide), rfl⟩) (r_lost) ?_
    rintro _ V605 ⟨rfl, e605_⟩
    subst V605
    refine ⟨(by show (0 : Nat) ≠ 9; decide), (?_ : Wp 198 _ 285 13 [(1, 161), (0, x), (0, y), (3, 0)] [(0, 0)] (up (up M 161 14 0) 161 14 1) _)⟩
    refine w_iret hK rfl rfl ?_
    exact ⟨rfl, ⟨_, (RS.cg (RS.cg C (fun j_ h1_ h2_ => up_ne2 (by omega)) (fun a_ h1_ h2_ => up_row h1_)) (fun j_ h1_ h2_ => up_ne2 (by omega)) (fun a_ h1_ h2_ => up_row h1_)), (PM.keep hpl ((up_row (by decide)).trans (up_row (by decide)))), (TMs.keep T ((up_ne2 (by decide)).trans (up_ne2 (by decide))) ((up_row (by decide)).trans (up_row (by decide)))), (RM.keep hR ((up_ne2 (by decide)).trans (up_ne2 (by decide))) ((up_row (by decide)).trans (up_row (by decide)))), (FM.keep hF ((up_ne2 (by decide)).trans (up_ne2 (by decide))) ((up_row (by decide)).trans (up_row (by decide))) ((up_row (by decide)).trans (up_row (by decide))))⟩, (fun a h_ => ((up_row (by omega)).trans (up_row (by omega)))), up_eq⟩
set_option maxRecDepth 100000 in
theorem rm_factor {d : Nat} {M : Mem} {k : Nat} {pl : Nat → Pl k} {n : Int} {tx : Int → Int} {rc : Nat} {rw : Int → Int} {fc : Nat} {fa : Nat → Pl k} (H : RFS M k pl n tx rc rw fc fa) (a j : Nat) (y : Int) (y1_ : -2147483648 ≤ y) (y2_ : y ≤ 2147483647) (hj : a + j = fc) (j1 : 1 ≤ j) (hy : y < 0 ∨ dg (fa a) < y) : Ct 198 (d + 8) 285 [(1, 161), (0, (j : Int)), (0, y)] M (fun r_ M' => r_ = (0, 0) ∧ RFS M' k pl n tx rc rw fc fa ∧ (∀ a : Int, (a < 161 ∨ 197 < a) → M' a = M a) ∧ M' 161 14 = 1) := by
  have hK : cd 285 = k285 := rfl
  obtain ⟨R, C, hpl, T, hR, hF⟩ := H
  have q1_ := qq_I k
  have p1_ := pp_I k
  have m1_ := mm_I k
  have fc_ := hF.2.1
  have fI_ := hF.2.2 a (by omega)
  have fD_ := fI_.2.1
  show Wp 198 _ 285 0 [(1, 161), (0, (j : Int)), (0, y), (3, 0)] [] M _
  refine w_al hK rfl rfl ?_
  refine w_ic hK rfl ?_
  refine w_puti (n := 14) (m := 14) hK rfl rfl (by decide) (by decide) rfl rfl rfl rfl ?_
  refine w_il hK rfl rfl ?_
  refine w_i2l hK rfl (by omega) (by omega) ?_
  refine w_lc hK rfl ?_
  refine w_al hK rfl rfl ?_
  refine w_geti (n := 15) (m := 15) hK rfl rfl (by decide) (by decide) rfl rfl rfl rfl ?_
  rw [show (up M 161 14 0) 161 15 = (fc : Int) from (FM.keep hF (up_ne2 (by decide)) (up_row (by decide)) (up_row (by decide))).1]
  refine w_i2l hK rfl (by omega) (by omega) ?_
  refine w_call [(2, (j : Int)), (2, 1), (2, (fc : Int))] hK rfl rfl rfl rfl (Or.inl rfl) (r_in (j : Int) 1 (fc : Int) (by omega) (by omega) (by omega) (by omega) (by omega) (by omega)) ?_
  rintro _ Mq ⟨rfl, e_⟩
  subst Mq
  have iI_606 := ite01 (1 ≤ (j : Int) ∧ (j : Int) ≤ (fc : Int))
  refine ⟨by show (0 : Nat) ≠ 9; decide, (?_ : Wp 198 _ 285 10 [(1, 161), (0, (j : Int)), (0, y), (3, 0)] [(0, (if 1 ≤ (j : Int) ∧ (j : Int) ≤ (fc : Int) then 1 else 0))] (up M 161 14 0) _)⟩
  refine w_ne hK rfl (by omega) (by omega) (fun h10 => ?_) (fun h10 => ?_)
  · refine w_al hK rfl rfl ?_
    refine w_geti (n := 15) (m := 15) hK rfl rfl (by decide) (by decide) rfl rfl rfl rfl ?_
    rw [show (up M 161 14 0) 161 15 = (fc : Int) from (FM.keep hF (up_ne2 (by decide)) (up_row (by decide)) (up_row (by decide))).1]
    refine w_il hK rfl rfl ?_
    refine w_sub hK rfl (by omega) (by omega) ?_
    rw [show ((fc : Int) - (j : Int)) = (a : Int) by omega]
    refine w_is [(1, 161), (0, (j : Int)), (0, y), (0, (a : Int))] hK rfl rfl rfl ?_
    refine w_il hK rfl rfl ?_
    refine w_i2l hK rfl (by omega) (by omega) ?_
    refine w_lc hK rfl ?_
    refine w_al hK rfl rfl ?_
    refine w_getr (n := 38) (v := 190) hK rfl rfl (by decide) (by decide) rfl rfl rfl rfl ?_
    refine w_il hK rfl rfl ?_
    refine w_ia hK rfl rfl (by decide) (by decide) (by omega) (by omega) ?_
    rw [show (up M 161 14 0) 190 (a : Int) = (M 190 (a : Int)) from (congrFun (up_row (by decide)) (a : Int))]
    rw [fI_.1]
    refine w_i2l hK rfl (by omega) (by omega) ?_
    refine w_call [(2, y), (2, 0), (2, (dg (fa a)))] hK rfl rfl rfl rfl (Or.inl rfl) (r_in y 0 (dg (fa a)) (by omega) (by omega) (by omega) (by omega) (by omega) (by omega)) ?_
    rintro _ Mq ⟨rfl, e_⟩
    subst Mq
    have iI_607 := ite01 (0 ≤ y ∧ y ≤ (dg (fa a)))
    refine ⟨by show (0 : Nat) ≠ 9; decide, (?_ : Wp 198 _ 285 28 [(1, 161), (0, (j : Int)), (0, y), (0, (a : Int))] [(0, (if 0 ≤ y ∧ y ≤ (dg (fa a)) then 1 else 0))] (up M 161 14 0) _)⟩
    refine w_eq hK rfl (by omega) (by omega) (fun h28 => ?_) (fun h28 => ?_)
    · refine w_al hK rfl rfl ?_
      refine w_call [(1, 161)] hK rfl rfl rfl rfl (Or.inr ⟨_, _, _, rfl, by decide, (by decide), rfl⟩) (r_lost) ?_
      rintro _ V608 ⟨rfl, e608_⟩
      subst V608
      refine ⟨(by show (0 : Nat) ≠ 9; decide), (?_ : Wp 198 _ 285 40 [(1, 161), (0, (j : Int)), (0, y), (0, (a : Int))] [(0, 0)] (up (up M 161 14 0) 161 14 1) _)⟩
      refine w_iret hK rfl rfl ?_
      exact ⟨rfl, ⟨_, (RS.cg (RS.cg C (fun j_ h1_ h2_ => up_ne2 (by omega)) (fun a_ h1_ h2_ => up_row h1_)) (fun j_ h1_ h2_ => up_ne2 (by omega)) (fun a_ h1_ h2_ => up_row h1_)), (PM.keep hpl ((up_row (by decide)).trans (up_row (by decide)))), (TMs.keep T ((up_ne2 (by decide)).trans (up_ne2 (by decide))) ((up_row (by decide)).trans (up_row (by decide)))), (RM.keep hR ((up_ne2 (by decide)).trans (up_ne2 (by decide))) ((up_row (by decide)).trans (up_row (by decide)))), (FM.keep hF ((up_ne2 (by decide)).trans (up_ne2 (by decide))) ((up_row (by decide)).trans (up_row (by decide))) ((up_row (by decide)).trans (up_row (by decide))))⟩, (fun a h_ => ((up_row (by omega)).trans (up_row (by omega)))), up_eq⟩
    · exfalso; omega
  · exfalso; omega
