/-! the reference's calls: numbers, polynomials */ -/
theorem Bd9_dr {k : Nat} (s : Int) {a b : Pl k} (ha : Bd a 9) (hb : Bd b 9) (h : 0 ≤ dg b) : Bd (dq s a b) 9 ∧ Bd (dr s a b) 9 := Bd_dq9 s ha hb h
set_option maxRecDepth 100000 in
theorem ro_plus {d : Nat} {M : Mem} {k : Nat} {pl : Nat → Pl k} {n : Int} {tx : Int → Int} {rc : Nat} {rw : Int → Int} {fc : Nat} {fa : Nat → Pl k} (H : RFS M k pl n tx rc rw fc fa) (x y : El k) : Ct 198 (d + 8) 201 [(1, 161), (0, (x.val : Int)), (0, (y.val : Int))] M (fun r_ M' => r_ = (0, ((ad x y).val : Int)) ∧ RFS M' k pl n tx rc rw fc fa ∧ (∀ a : Int, (a < 161 ∨ 197 < a) → M' a = M a)) := by
  have hK : cd 201 = k201 := rfl
  obtain ⟨R, C, hpl, T, hR, hF⟩ := H
  have q1_ := qq_I k
  have p1_ := pp_I k
  have m1_ := mm_I k
  have lx_ := x.isLt
  have ly_ := y.isLt
  show Wp 198 _ 201 0 [(1, 161), (0, (x.val : Int)), (0, (y.val : Int))] [] M _
  refine w_al hK rfl rfl ?_
  refine w_ic hK rfl ?_
  refine w_puti (n := 14) (m := 14) hK rfl rfl (by decide) (by decide) rfl rfl rfl rfl ?_
  refine w_al hK rfl rfl ?_
  refine w_il hK rfl rfl ?_
  refine w_call [(1, 161), (0, (x.val : Int))] hK rfl rfl rfl rfl (Or.inr ⟨_, _, _, rfl, by decide, (by decide), rfl⟩) (r_isnum (RS.cg C (fun j_ h1_ h2_ => up_ne2 (by omega)) (fun a_ h1_ h2_ => up_row h1_)).F (x.val : Int) (by omega) (by omega)) ?_
  rintro _ Mq ⟨rfl, e_⟩
  subst Mq
  have nI_271 := ite01 (0 ≤ (x.val : Int) ∧ (x.val : Int) < (qq k : Int))
  refine ⟨by show (0 : Nat) ≠ 9; decide, (?_ : Wp 198 _ 201 6 [(1, 161), (0, (x.val : Int)), (0, (y.val : Int))] [(0, (if 0 ≤ (x.val : Int) ∧ (x.val : Int) < (qq k : Int) then 1 else 0))] (up M 161 14 0) _)⟩
  refine w_eq hK rfl (by omega) (by omega) (fun h6 => ?_) (fun h6 => ?_)
  · exfalso; omega
  · refine w_al hK rfl rfl ?_
    refine w_il hK rfl rfl ?_
    refine w_call [(1, 161), (0, (y.val : Int))] hK rfl rfl rfl rfl (Or.inr ⟨_, _, _, rfl, by decide, (by decide), rfl⟩) (r_isnum (RS.cg C (fun j_ h1_ h2_ => up_ne2 (by omega)) (fun a_ h1_ h2_ => up_row h1_)).F (y.val : Int) (by omega) (by omega)) ?_
    rintro _ Mq ⟨rfl, e_⟩
    subst Mq
    have nI_272 := ite01 (0 ≤ (y.val : Int) ∧ (y.val : Int) < (qq k : Int))
    refine ⟨by show (0 : Nat) ≠ 9; decide, (?_ : Wp 198 _ 201 10 [(1, 161), (0, (x.val : Int)), (0, (y.val : Int))] [(0, (if 0 ≤ (y.val : Int) ∧ (y.val : Int) < (qq k : Int) then 1 else 0))] (up M 161 14 0) _)⟩
    refine w_eq hK rfl (by omega) (by omega) (fun h10 => ?_) (fun h10 => ?_)
    · exfalso; omega
    · refine w_al hK rfl rfl ?_
      refine w_il hK rfl rfl ?_
      refine w_il hK rfl rfl ?_
      refine w_call [(1, 161), (0, (x.val : Int)), (0, (y.val : Int))] hK rfl rfl rfl rfl (Or.inr ⟨_, _, _, rfl, by decide, (by decide), rfl⟩) (r_add (RS.cg C (fun j_ h1_ h2_ => up_ne2 (by omega)) (fun a_ h1_ h2_ => up_row h1_)).F x y) ?_
      rintro _ Mq ⟨rfl, e_⟩
      subst Mq
      have bv_ := el_I (ad x y)
      refine ⟨by show (0 : Nat) ≠ 9; decide, (?_ : Wp 198 _ 201 15 [(1, 161), (0, (x.val : Int)), (0, (y.val : Int))] [(0, ((ad x y).val : Int))] (up M 161 14 0) _)⟩
      refine w_goto hK rfl ?_
      refine w_iret hK rfl rfl ?_
      exact ⟨rfl, ⟨_, (RS.cg C (fun j_ h1_ h2_ => up_ne2 (by omega)) (fun a_ h1_ h2_ => up_row h1_)), (PM.keep hpl (up_row (by decide))), (TMs.keep T (up_ne2 (by decide)) (up_row (by decide))), (RM.keep hR (up_ne2 (by decide)) (up_row (by decide))), (FM.keep hF (up_ne2 (by decide)) (up_row (by decide)) (up_row (by decide)))⟩, (fun a h_ => (up_row (by omega)))⟩
set_option maxRecDepth 100000 in
theorem rn_plus {d : Nat} {M : Mem} {k : Nat} {pl : Nat → Pl k} {n : Int} {tx : Int → Int} {rc : Nat} {rw : Int → Int} {fc : Nat} {fa : Nat → Pl k} (H : RFS M k pl n tx rc rw fc fa) (a b : Int) (a1_ : -2147483648 ≤ a) (a2_ : a ≤ 2147483647) (b1_ : -2147483648 ≤ b) (b2_ : b ≤ 2147483647) (hn : ¬ ((0 ≤ a ∧ a < (qq k : Int)) ∧ 0 ≤ b ∧ b < (qq k : Int))) : Ct 198 (d + 8) 201 [(1, 161), (0, a), (0, b)] M (fun r_ M' => r_ = (0, -1) ∧ RFS M' k pl n tx rc rw fc fa ∧ (∀ a : Int, (a < 161 ∨ 197 < a) → M' a = M a)) := by
  have hK : cd 201 = k201 := rfl
  obtain ⟨R, C, hpl, T, hR, hF⟩ := H
  have q1_ := qq_I k
  have p1_ := pp_I k
  have m1_ := mm_I k
  show Wp 198 _ 201 0 [(1, 161), (0, a), (0, b)] [] M _
  refine w_al hK rfl rfl ?_
  refine w_ic hK rfl ?_
  refine w_puti (n := 14) (m := 14) hK rfl rfl (by decide) (by decide) rfl rfl rfl rfl ?_
  refine w_al hK rfl rfl ?_
  refine w_il hK rfl rfl ?_
  refine w_call [(1, 161), (0, a)] hK rfl rfl rfl rfl (Or.inr ⟨_, _, _, rfl, by decide, (by decide), rfl⟩) (r_isnum (RS.cg C (fun j_ h1_ h2_ => up_ne2 (by omega)) (fun a_ h1_ h2_ => up_row h1_)).F a (by omega) (by omega)) ?_
  rintro _ Mq ⟨rfl, e_⟩
  subst Mq
  have nI_273 := ite01 (0 ≤ a ∧ a < (qq k : Int))
  refine ⟨by show (0 : Nat) ≠ 9; decide, (?_ : Wp 198 _ 201 6 [(1, 161), (0, a), (0, b)] [(0, (if 0 ≤ a ∧ a < (qq k : Int) then 1 else 0))] (up M 161 14 0) _)⟩
  refine w_eq hK rfl (by omega) (by omega) (fun h6 => ?_) (fun h6 => ?_)
  · refine w_ic hK rfl ?_
    refine w_iret hK rfl rfl ?_
    exact ⟨rfl, ⟨_, (RS.cg C (fun j_ h1_ h2_ => up_ne2 (by omega)) (fun a_ h1_ h2_ => up_row h1_)), (PM.keep hpl (up_row (by decide))), (TMs.keep T (up_ne2 (by decide)) (up_row (by decide))), (RM.keep hR (up_ne2 (by decide)) (up_row (by decide))), (FM.keep hF (up_ne2 (by decide)) (up_row (by decide)) (up_row (by decide)))⟩, (fun a h_ => (up_row (by omega)))⟩
  · refine w_al hK rfl rfl ?_
    refine w_il hK rfl rfl ?_
    refine w_call [(1, 161), (0, b)] hK rfl rfl rfl rfl (Or.inr ⟨_, _, _, rfl, by decide, (by decide), rfl⟩) (r_isnum (RS.cg C (fun j_ h1_ h2_ => up_ne2 (by omega)) (fun a_ h1_ h2_ => up_row h1_)).F b (by omega) (by omega)) ?_
    rintro _ Mq ⟨rfl, e_⟩
    subst Mq
    have nI_274 := ite01 (0 ≤ b ∧ b < (qq k : Int))
    refine ⟨by show (0 : Nat) ≠ 9; decide, (?_ : Wp 198 _ 201 10 [(1, 161), (0, a), (0, b)] [(0, (if 0 ≤ b ∧ b < (qq k : Int) then 1 else 0))] (up M 161 14 0) _)⟩
    refine w_eq hK rfl (by omega) (by omega) (fun h10 => ?_) (fun h10 => ?_)
    · refine w_ic hK rfl ?_
      refine w_iret hK rfl rfl ?_
      exact ⟨rfl, ⟨_, (RS.cg C (fun j_ h1_ h2_ => up_ne2 (by omega)) (fun a_ h1_ h2_ => up_row h1_)), (PM.keep hpl (up_row (by decide))), (TMs.keep T (up_ne2 (by decide)) (up_row (by decide))), (RM.keep hR (up_ne2 (by decide)) (up_row (by decide))), (FM.keep hF (up_ne2 (by decide)) (up_row (by decide)) (up_row (by decide)))⟩, (fun a h_ => (up_row (by omega)))⟩
    · exfalso; omega
set_option maxRecDepth 100000 in
theorem ro_times {d : Nat} {M : Mem} {k : Nat} {pl : Nat → Pl k} {n : Int} {tx : Int → Int} {rc : Nat} {rw : Int → Int} {fc : Nat} {fa : Nat → Pl k} (H : RFS M k pl n tx rc rw fc fa) (x y : El k) : Ct 198 (d + 8) 204 [(1, 161), (0, (x.val : Int)), (0, (y.val : Int))] M (fun r_ M' => r_ = (0, ((ml x y).val : Int)) ∧ RFS M' k pl n tx rc rw fc fa ∧ (∀ a : Int, (a < 161 ∨ 197 < a) → M' a = M a)) := by
  have hK : cd 204 = k204 := rfl
  obtain ⟨R, C, hpl, T, hR, hF⟩ := H
  have q1_ := qq_I k
  have p1_ := pp_I k
  have m1_ := mm_I k
  have lx_ := x.isLt
  have ly_ := y.isLt
  show Wp 198 _ 204 0 [(1, 161), (0, (x.val : Int)), (0, (y.val : Int))] [] M _
  refine w_al hK rfl rfl ?_
  refine w_ic hK rfl ?_
  refine w_puti (n := 14) (m := 14) hK rfl rfl (by decide) (by decide) rfl rfl rfl rfl ?_
  refine w_al hK rfl rfl ?_
  refine w_il hK rfl rfl ?_
  refine w_call [(1, 161), (0, (x.val : Int))] hK rfl rfl rfl rfl (Or.inr ⟨_, _, _, rfl, by decide, (by decide), rfl⟩) (r_isnum (RS.cg C (fun j_ h1_ h2_ => up_ne2 (by omega)) (fun a_ h1_ h2_ => up_row h1_)).F (x.val : Int) (by omega) (by omega)) ?_
  rintro _ Mq ⟨rfl, e_⟩
  subst Mq
  have nI_275 := ite01 (0 ≤ (x.val : Int) ∧ (x.val : Int) < (qq k : Int))
  refine ⟨by show (0 : Nat) ≠ 9; decide, (?_ : Wp 198 _ 204 6 [(1, 161), (0, (x.val : Int)), (0, (y.val : Int))] [(0, (if 0 ≤ (x.val : Int) ∧ (x.val : Int) < (qq k : Int) then 1 else 0))] (up M 161 14 0) _)⟩
  refine w_eq hK rfl (by omega) (by omega) (fun h6 => ?_) (fun h6 => ?_)
  · exfalso; omega
  · refine w_al hK rfl rfl ?_
    refine w_il hK rfl rfl ?_
    refine w_call [(1, 161), (0, (y.val : Int))] hK rfl rfl rfl rfl (Or.inr ⟨_, _, _, rfl, by decide, (by decide), rfl⟩) (r_isnum (RS.cg C (fun j_ h1_ h2_ => up_ne2 (by omega)) (fun a_ h1_ h2_ => up_row h1_)).F (y.val : Int) (by omega) (by omega)) ?_
    rintro _ Mq ⟨rfl, e_⟩
    subst Mq
    have nI_276 := ite01 (0 ≤ (y.val : Int) ∧ (y.val : Int) < (qq k : Int))
    refine ⟨by show (0 : Nat) ≠ 9; decide, (?_ : Wp 198 _ 204 10 [(1, 161), (0, (x.val : Int)), (0, (y.val : Int))] [(0, (if 0 ≤ (y.val : Int) ∧ (y.val : Int) < (qq k : Int) then 1 else 0))] (up M 161 14 0) _)⟩
    refine w_eq hK rfl (by omega) (by omega) (fun h10 => ?_) (fun h10 => ?_)
    · exfalso; omega
    · refine w_al hK rfl rfl ?_
      refine w_il hK rfl rfl ?_
      refine w_il hK rfl rfl ?_
      refine w_call [(1, 161), (0, (x.val : Int)), (0, (y.val : Int))] hK rfl rfl rfl rfl (Or.inr ⟨_, _, _, rfl, by decide, (by decide), rfl⟩) (r_mul (RS.cg C (fun j_ h1_ h2_ => up_ne2 (by omega)) (fun a_ h1_ h2_ => up_row h1_)).F x y) ?_
      rintro _ Mq ⟨rfl, e_⟩
      subst Mq
      have bv_ := el_I (ml x y)
      refine ⟨by show (0 : Nat) ≠ 9; decide, (?_ : Wp 198 _ 204 15 [(1, 161), (0, (x.val : Int)), (0, (y.val : Int))] [(0, ((ml x y).val : Int))] (up M 161 14 0) _)⟩
      refine w_goto hK rfl ?_
      refine w_iret hK rfl rfl ?_
      exact ⟨rfl, ⟨_, (RS.cg C (fun j_ h1_ h2_ => up_ne2 (by omega)) (fun a_ h1_ h2_ => up_row h1_)), (PM.keep hpl (up_row (by decide))), (TMs.keep T (up_ne2 (by decide)) (up_row (by decide))), (RM.keep hR (up_ne2 (by decide)) (up_row (by decide))), (FM.keep hF (up_ne2 (by decide)) (up_row (by decide)) (up_row (by decide)))⟩, (fun a h_ => (up_row (by omega)))⟩
set_option maxRecDepth 100000 in
theorem rn_times {d : Nat} {M : Mem} {k : Nat} {pl : Nat → Pl k} {n : Int} {tx : Int → Int} {rc : Nat} {rw : Int → Int} {fc : Nat} {fa : Nat → Pl k} (H : RFS M k pl n tx rc rw fc fa) (a b : Int) (a1_ : -2147483648 ≤ a) (a2_ : a ≤ 2147483647) (b1_ : -2147483648 ≤ b) (b2_ : b ≤ 2147483647) (hn : ¬ ((0 ≤ a ∧ a < (qq k : Int)) ∧ 0 ≤ b ∧ b < (qq k : Int))) : Ct 198 (d + 8) 204 [(1, 161), (0, a), (0, b)] M (fun r_ M' => r_ = (0, -1) ∧ RFS M' k pl n tx rc rw fc fa ∧ (∀ a : Int, (a < 161 ∨ 197 < a) → M' a = M a)) := by
  have hK : cd 204 = k204 := rfl
  obtain ⟨R, C, hpl, T, hR, hF⟩ := H
  have q1_ := qq_I k
  have p1_ := pp_I k
  have m1_ := mm_I k
  show Wp 198 _ 204 0 [(1, 161), (0, a), (0, b)] [] M _
  refine w_al hK rfl rfl ?_
  refine w_ic hK rfl ?_
  refine w_puti (n := 14) (m := 14) hK rfl rfl (by decide) (by decide) rfl rfl rfl rfl ?_
  refine w_al hK rfl rfl ?_
  refine w_il hK rfl rfl ?_
  refine w_call [(1, 161), (0, a)] hK rfl rfl rfl rfl (Or.inr ⟨_, _, _, rfl, by decide, (by decide), rfl⟩) (r_isnum (RS.cg C (fun j_ h1_ h2_ => up_ne2 (by omega)) (fun a_ h1_ h2_ => up_row h1_)).F a (by omega) (by omega)) ?_
  rintro _ Mq ⟨rfl, e_⟩
  subst Mq
  have nI_277 := ite01 (0 ≤ a ∧ a < (qq k : Int))
  refine ⟨by show (0 : Nat) ≠ 9; decide, (?_ : Wp 198 _ 204 6 [(1, 161), (0, a), (0, b)] [(0, (if 0 ≤ a ∧ a < (qq k : Int) then 1 else 0))] (up M 161 14 0) _)⟩
  refine w_eq hK rfl (by omega) (by omega) (fun h6 => ?_) (fun h6 => ?_)
  · refine w_ic hK rfl ?_
    refine w_iret hK rfl rfl ?_
    exact ⟨rfl, ⟨_, (RS.cg C (fun j_ h1_ h2_ => up_ne2 (by omega)) (fun a_ h1_ h2_ => up_row h1_)), (PM.keep hpl (up_row (by decide))), (TMs.keep T (up_ne2 (by decide)) (up_row (by decide))), (RM.keep hR (up_ne2 (by decide)) (up_row (by decide))), (FM.keep hF (up_ne2 (by decide)) (up_row (by decide)) (up_row (by decide)))⟩, (fun a h_ => (up_row (by omega)))⟩
  · refine w_al hK rfl rfl ?_
    refine w_il hK rfl rfl ?_
    refine w_call [(1, 161), (0, b)] hK rfl rfl rfl rfl (Or.inr ⟨_, _, _, rfl, by decide, (by decide), rfl⟩) (r_isnum (RS.cg C (fun j_ h1_ h2_ => up_ne2 (by omega)) (fun a_ h1_ h2_ => up_row h1_)).F b (by omega) (by omega)) ?_
    rintro _ Mq ⟨rfl, e_⟩
    subst Mq
    have nI_278 := ite01 (0 ≤ b ∧ b < (qq k : Int))
    refine ⟨by show (0 : Nat) ≠ 9; decide, (?_ : Wp 198 _ 204 10 [(1, 161), (0, a), (0, b)] [(0, (if 0 ≤ b ∧ b < (qq k : Int) then 1 else 0))] (up M 161 14 0) _)⟩
    refine w_eq hK rfl (by omega) (by omega) (fun h10 => ?_) (fun h10 => ?_)
    · refine w_ic hK rfl ?_
      refine w_iret hK rfl rfl ?_
      exact ⟨rfl, ⟨_, (RS.cg C (fun j_ h1_ h2_ => up_ne2 (by omega)) (fun a_ h1_ h2_ => up_row h1_)), (PM.keep hpl (up_row (by decide))), (TMs.keep T (up_ne2 (by decide)) (up_row (by decide))), (RM.keep hR (up_ne2 (by decide)) (up_row (by decide))), (FM.keep hF (up_ne2 (by decide)) (up_row (by decide)) (up_row (by decide)))⟩, (fun a h_ => (up_row (by omega)))⟩
    · exfalso; omega
set_option maxRecDepth 100000 in
theorem ro_inverse {d : Nat} {M : Mem} {k : Nat} {pl : Nat → Pl k} {n : Int} {tx : Int → Int} {rc : Nat} {rw : Int → Int} {fc : Nat} {fa : Nat → Pl k} (H : RFS M k pl n tx rc rw fc fa) (x : El k) : Ct 198 (d + 8) 205 [(1, 161), (0, (x.val : Int))] M (fun r_ M' => r_ = (0, (if x = z0 then -2 else ((iv x).val : Int))) ∧ RFS M' k pl n tx rc rw fc fa ∧ (∀ a : Int, (a < 161 ∨ 197 < a) → M' a = M a)) := by
  have hK : cd 205 = k205 := rfl
  obtain ⟨R, C, hpl, T, hR, hF⟩ := H
  have q1_ := qq_I k
  have p1_ := pp_I k
  have m1_ := mm_I k
  have lx_ := x.isLt
  show Wp 198 _ 205 0 [(1, 161), (0, (x.val : Int))] [] M _
  refine w_al hK rfl rfl ?_
  refine w_ic hK rfl ?_
  refine w_puti (n := 14) (m := 14) hK rfl rfl (by decide) (by decide) rfl rfl rfl rfl ?_
  refine w_al hK rfl rfl ?_
  refine w_il hK rfl rfl ?_
  refine w_call [(1, 161), (0, (x.val : Int))] hK rfl rfl rfl rfl (Or.inr ⟨_, _, _, rfl, by decide, (by decide), rfl⟩) (r_isnum (RS.cg C (fun j_ h1_ h2_ => up_ne2 (by omega)) (fun a_ h1_ h2_ => up_row h1_)).F (x.val : Int) (by omega) (by omega)) ?_
  rintro _ Mq ⟨rfl, e_⟩
  subst Mq
  have nI_279 := ite01 (0 ≤ (x.val : Int) ∧ (x.val : Int) < (qq k : Int))
  refine ⟨by show (0 : Nat) ≠ 9; decide, (?_ : Wp 198 _ 205 6 [(1, 161), (0, (x.val : Int))] [(0, (if 0 ≤ (x.val : Int) ∧ (x.val : Int) < (qq k : Int) then 1 else 0))] (up M 161 14 0) _)⟩
  refine w_ne hK rfl (by omega) (by omega) (fun h6 => ?_) (fun h6 => ?_)
  · refine w_il hK rfl rfl ?_
    refine w_ne hK rfl (by omega) (by omega) (fun h10 => ?_) (fun h10 => ?_)
    · refine w_al hK rfl rfl ?_
      refine w_getr (n := 7) (v := 165) hK rfl rfl (by decide) (by decide) rfl rfl rfl rfl ?_
      refine w_il hK rfl rfl ?_
      refine w_ia hK rfl rfl (by decide) (by decide) (by omega) (by omega) ?_
      rw [show (up M 161 14 0) 165 (x.val : Int) = ((iv x).val : Int) from (RS.cg C (fun j_ h1_ h2_ => up_ne2 (by omega)) (fun a_ h1_ h2_ => up_row h1_)).F.v x]
      refine w_iret hK rfl rfl ?_
      exact ⟨(congrArg (Prod.mk 0) (by rw [if_neg (fun q => by have := z0_iff.mp q; omega)])), ⟨_, (RS.cg C (fun j_ h1_ h2_ => up_ne2 (by omega)) (fun a_ h1_ h2_ => up_row h1_)), (PM.keep hpl (up_row (by decide))), (TMs.keep T (up_ne2 (by decide)) (up_row (by decide))), (RM.keep hR (up_ne2 (by decide)) (up_row (by decide))), (FM.keep hF (up_ne2 (by decide)) (up_row (by decide)) (up_row (by decide)))⟩, (fun a h_ => (up_row (by omega)))⟩
    · refine w_ic hK rfl ?_
      refine w_goto hK rfl ?_
      refine w_iret hK rfl rfl ?_
      exact ⟨(congrArg (Prod.mk 0) (by rw [if_pos (z0_iff.mpr (by omega))])), ⟨_, (RS.cg C (fun j_ h1_ h2_ => up_ne2 (by omega)) (fun a_ h1_ h2_ => up_row h1_)), (PM.keep hpl (up_row (by decide))), (TMs.keep T (up_ne2 (by decide)) (up_row (by decide))), (RM.keep hR (up_ne2 (by decide)) (up_row (by decide))), (FM.keep hF (up_ne2 (by decide)) (up_row (by decide)) (up_row (by decide)))⟩, (fun a h_ => (up_row (by omega)))⟩
  · exfalso; omega
set_option maxRecDepth 100000 in
theorem rn_inverse {d : Nat} {M : Mem} {k : Nat} {pl : Nat → Pl k} {n : Int} {tx : Int → Int} {rc : Nat} {rw : Int → Int} {fc : Nat} {fa : Nat → Pl k} (H : RFS M k pl n tx rc rw fc fa) (a : Int) (a1_ : -2147483648 ≤ a) (a2_ : a ≤ 2147483647) (hn : ¬ (0 ≤ a ∧ a < (qq k : Int))) : Ct 198 (d + 8) 205 [(1, 161), (0, a)] M (fun r_ M' => r_ = (0, -1) ∧ RFS M' k pl n tx rc rw fc fa ∧ (∀ a : Int, (a < 161 ∨ 197 < a) → M' a = M a)) := by
  have hK : cd 205 = k205 := rfl
  obtain ⟨R, C, hpl, T, hR, hF⟩ := H
  have q1_ := qq_I k
  have p1_ := pp_I k
  have m1_ := mm_I k
  show Wp 198 _ 205 0 [(1, 161), (0, a)] [] M _
  refine w_al hK rfl rfl ?_
  refine w_ic hK rfl ?_
  refine w_puti (n := 14) (m := 14) hK rfl rfl (by decide) (by decide) rfl rfl rfl rfl ?_
  refine w_al hK rfl rfl ?_
  refine w_il hK rfl rfl ?_
  refine w_call [(1, 161), (0, a)] hK rfl rfl rfl rfl (Or.inr ⟨_, _, _, rfl, by decide, (by decide), rfl⟩) (r_isnum (RS.cg C (fun j_ h1_ h2_ => up_ne2 (by omega)) (fun a_ h1_ h2_ => up_row h1_)).F a (by omega) (by omega)) ?_
  rintro _ Mq ⟨rfl, e_⟩
  subst Mq
  have nI_280 := ite01 (0 ≤ a ∧ a < (qq k : Int))
  refine ⟨by show (0 : Nat) ≠ 9; decide, (?_ : Wp 198 _ 205 6 [(1, 161), (0, a)] [(0, (if 0 ≤ a ∧ a < (qq k : Int) then 1 else 0))] (up M 161 14 0) _)⟩
  refine w_ne hK rfl (by omega) (by omega) (fun h6 => ?_) (fun h6 => ?_)
  · exfalso; omega
  · refine w_ic hK rfl ?_
    refine w_iret hK rfl rfl ?_
    exact ⟨rfl, ⟨_, (RS.cg C (fun j_ h1_ h2_ => up_ne2 (by omega)) (fun a_ h1_ h2_ => up_row h1_)), (PM.keep hpl (up_row (by decide))), (TMs.keep T (up_ne2 (by decide)) (up_row (by decide))), (RM.keep hR (up_ne2 (by decide)) (up_row (by decide))), (FM.keep hF (up_ne2 (by decide)) (up_row (by decide)) (up_row (by decide)))⟩, (fun a h_ => (up_row (by omega)))⟩
set_option maxRecDepth 100000 in
theorem ro_map {d : Nat} {M : Mem} {k : Nat} {pl : Nat → Pl k} {n : Int} {tx : Int → Int} {rc : Nat} {rw : Int → Int} {fc : Nat} {fa : Nat → Pl k} (H : RFS M k pl n tx rc rw fc fa) (x : El k) (j : Int) (j1 : -8 ≤ j) (j2 : j ≤ 8) : Ct 198 (d + 8) 206 [(1, 161), (0, (x.val : Int)), (0, j)] M (fun r_ M' => r_ = (0, ((sgI j x).val : Int)) ∧ RFS M' k pl n tx rc rw fc fa ∧ (∀ a : Int, (a < 161 ∨ 197 < a) → M' a = M a)) := by
  have hK : cd 206 = k206 := rfl
  obtain ⟨R, C, hpl, T, hR, hF⟩ := H
  have q1_ := qq_I k
  have p1_ := pp_I k
  have m1_ := mm_I k
  have lx_ := x.isLt
  show Wp 198 _ 206 0 [(1, 161), (0, (x.val : Int)), (0, j)] [] M _
  refine w_al hK rfl rfl ?_
  refine w_ic hK rfl ?_
  refine w_puti (n := 14) (m := 14) hK rfl rfl (by decide) (by decide) rfl rfl rfl rfl ?_
  refine w_al hK rfl rfl ?_
  refine w_il hK rfl rfl ?_
  refine w_call [(1, 161), (0, (x.val : Int))] hK rfl rfl rfl rfl (Or.inr ⟨_, _, _, rfl, by decide, (by decide), rfl⟩) (r_isnum (RS.cg C (fun j_ h1_ h2_ => up_ne2 (by omega)) (fun a_ h1_ h2_ => up_row h1_)).F (x.val : Int) (by omega) (by omega)) ?_
  rintro _ Mq ⟨rfl, e_⟩
  subst Mq
  have nI_281 := ite01 (0 ≤ (x.val : Int) ∧ (x.val : Int) < (qq k : Int))
  refine ⟨by show (0 : Nat) ≠ 9; decide, (?_ : Wp 198 _ 206 6 [(1, 161), (0, (x.val : Int)), (0, j)] [(0, (if 0 ≤ (x.val : Int) ∧ (x.val : Int) < (qq k : Int) then 1 else 0))] (up M 161 14 0) _)⟩
  refine w_eq hK rfl (by omega) (by omega) (fun h6 => ?_) (fun h6 => ?_)
  · exfalso; omega
  · refine w_il hK rfl rfl ?_
    refine w_i2l hK rfl (by omega) (by omega) ?_
    refine w_lcw hK rfl ?_
    refine w_lcw hK rfl ?_
    refine w_call [(2, j), (2, (-8)), (2, 8)] hK rfl rfl rfl rfl (Or.inl rfl) (r_in j (-8) 8 (by omega) (by omega) (by omega) (by omega) (by omega) (by omega)) ?_
    rintro _ Mq ⟨rfl, e_⟩
    subst Mq
    have iI_282 := ite01 ((-8) ≤ j ∧ j ≤ 8)
    refine ⟨by show (0 : Nat) ≠ 9; decide, (?_ : Wp 198 _ 206 12 [(1, 161), (0, (x.val : Int)), (0, j)] [(0, (if (-8) ≤ j ∧ j ≤ 8 then 1 else 0))] (up M 161 14 0) _)⟩
    refine w_eq hK rfl (by omega) (by omega) (fun h12 => ?_) (fun h12 => ?_)
    · exfalso; omega
    · refine w_al hK rfl rfl ?_
      refine w_il hK rfl rfl ?_
      refine w_il hK rfl rfl ?_
      refine w_call [(1, 161), (0, (x.val : Int)), (0, j)] hK rfl rfl rfl rfl (Or.inr ⟨_, _, _, rfl, by decide, (by decide), rfl⟩) (r_mapd (RS.cg C (fun j_ h1_ h2_ => up_ne2 (by omega)) (fun a_ h1_ h2_ => up_row h1_)).F x j (by omega) (by omega)) ?_
      rintro _ Mq ⟨rfl, e_⟩
      subst Mq
      have bv_ := el_I (sgI j x)
      refine ⟨by show (0 : Nat) ≠ 9; decide, (?_ : Wp 198 _ 206 17 [(1, 161), (0, (x.val : Int)), (0, j)] [(0, ((sgI j x).val : Int))] (up M 161 14 0) _)⟩
      refine w_goto hK rfl ?_
      refine w_iret hK rfl rfl ?_
      exact ⟨rfl, ⟨_, (RS.cg C (fun j_ h1_ h2_ => up_ne2 (by omega)) (fun a_ h1_ h2_ => up_row h1_)), (PM.keep hpl (up_row (by decide))), (TMs.keep T (up_ne2 (by decide)) (up_row (by decide))), (RM.keep hR (up_ne2 (by decide)) (up_row (by decide))), (FM.keep hF (up_ne2 (by decide)) (up_row (by decide)) (up_row (by decide)))⟩, (fun a h_ => (up_row (by omega)))⟩
set_option maxRecDepth 100000 in
theorem rn_map {d : Nat} {M : Mem} {k : Nat} {pl : Nat → Pl k} {n : Int} {tx : Int → Int} {rc : Nat} {rw : Int → Int} {fc : Nat} {fa : Nat → Pl k} (H : RFS M k pl n tx rc rw fc fa) (a j : Int) (a1_ : -2147483648 ≤ a) (a2_ : a ≤ 2147483647) (j1_ : -2147483648 ≤ j) (j2_ : j ≤ 2147483647) (hn : ¬ ((0 ≤ a ∧ a < (qq k : Int)) ∧ -8 ≤ j ∧ j ≤ 8)) : Ct 198 (d + 8) 206 [(1, 161), (0, a), (0, j)] M (fun r_ M' => r_ = (0, -1) ∧ RFS M' k pl n tx rc rw fc fa ∧ (∀ a : Int, (a < 161 ∨ 197 < a) → M' a = M a)) := by
  have hK : cd 206 = k206 := rfl
  obtain ⟨R, C, hpl, T, hR, hF⟩ := H
  have q1_ := qq_I k
  have p1_ := pp_I k
  have m1_ := mm_I k
  show Wp 198 _ 206 0 [(1, 161), (0, a), (0, j)] [] M _
  refine w_al hK rfl rfl ?_
  refine w_ic hK rfl ?_
  refine w_puti (n := 14) (m := 14) hK rfl rfl (by decide) (by decide) rfl rfl rfl rfl ?_
  refine w_al hK rfl rfl ?_
  refine w_il hK rfl rfl ?_
  refine w_call [(1, 161), (0, a)] hK rfl rfl rfl rfl (Or.inr ⟨_, _, _, rfl, by decide, (by decide), rfl⟩) (r_isnum (RS.cg C (fun j_ h1_ h2_ => up_ne2 (by omega)) (fun a_ h1_ h2_ => up_row h1_)).F a (by omega) (by omega)) ?_
  rintro _ Mq ⟨rfl, e_⟩
  subst Mq
  have nI_283 := ite01 (0 ≤ a ∧ a < (qq k : Int))
  refine ⟨by show (0 : Nat) ≠ 9; decide, (?_ : Wp 198 _ 206 6 [(1, 161), (0, a), (0, j)] [(0, (if 0 ≤ a ∧ a < (qq k : Int) then 1 else 0))] (up M 161 14 0) _)⟩
  refine w_eq hK rfl (by omega) (by omega) (fun h6 => ?_) (fun h6 => ?_)
  · refine w_ic hK rfl ?_
    refine w_iret hK rfl rfl ?_
    exact ⟨rfl, ⟨_, (RS.cg C (fun j_ h1_ h2_ => up_ne2 (by omega)) (fun a_ h1_ h2_ => up_row h1_)), (PM.keep hpl (up_row (by decide))), (TMs.keep T (up_ne2 (by decide)) (up_row (by decide))), (RM.keep hR (up_ne2 (by decide)) (up_row (by decide))), (FM.keep hF (up_ne2 (by decide)) (up_row (by decide)) (up_row (by decide)))⟩, (fun a h_ => (up_row (by omega)))⟩
  · refine w_il hK rfl rfl ?_
    refine w_i2l hK rfl (by omega) (by omega) ?_
    refine w_lcw hK rfl ?_
    refine w_lcw hK rfl ?_
    refine w_call [(2, j), (2, (-8)), (2, 8)] hK rfl rfl rfl rfl (Or.inl rfl) (r_in j (-8) 8 (by omega) (by omega) (by omega) (by omega) (by omega) (by omega)) ?_
    rintro _ Mq ⟨rfl, e_⟩
    subst Mq
    have iI_284 := ite01 ((-8) ≤ j ∧ j ≤ 8)
    refine ⟨by show (0 : Nat) ≠ 9; decide, (?_ : Wp 198 _ 206 12 [(1, 161), (0, a), (0, j)] [(0, (if (-8) ≤ j ∧ j ≤ 8 then 1 else 0))] (up M 161 14 0) _)⟩
    refine w_eq hK rfl (by omega) (by omega) (fun h12 => ?_) (fun h12 => ?_)
    · refine w_ic hK rfl ?_
      refine w_iret hK rfl rfl ?_
      exact ⟨rfl, ⟨_, (RS.cg C (fun j_ h1_ h2_ => up_ne2 (by omega)) (fun a_ h1_ h2_ => up_row h1_)), (PM.keep hpl (up_row (by decide))), (TMs.keep T (up_ne2 (by decide)) (up_row (by decide))), (RM.keep hR (up_ne2 (by decide)) (up_row (by decide))), (FM.keep hF (up_ne2 (by decide)) (up_row (by decide)) (up_row (by decide)))⟩, (fun a h_ => (up_row (by omega)))⟩
    · exfalso; omega
set_option maxRecDepth 100000 in
theorem ro_norm {d : Nat} {M : Mem} {k : Nat} {pl : Nat → Pl k} {n : Int} {tx : Int → Int} {rc : Nat} {rw : Int → Int} {fc : Nat} {fa : Nat → Pl k} (H : RFS M k pl n tx rc rw fc fa) (x : El k) (j : Nat) (j8 : j ≤ 8) : Ct 198 (d + 8) 208 [(1, 161), (0, (x.val : Int)), (0, (j : Int))] M (fun r_ M' => r_ = (0, ((chn x j).val : Int)) ∧ RFS M' k pl n tx rc rw fc fa ∧ (∀ a : Int, (a < 161 ∨ 197 < a) → M' a = M a)) := by
  have hK : cd 208 = k208 := rfl
  obtain ⟨R, C, hpl, T, hR, hF⟩ := H
  have q1_ := qq_I k
  have p1_ := pp_I k
  have m1_ := mm_I k
  have lx_ := x.isLt
  show Wp 198 _ 208 0 [(1, 161), (0, (x.val : Int)), (0, (j : Int))] [] M _
  refine w_al hK rfl rfl ?_
  refine w_ic hK rfl ?_
  refine w_puti (n := 14) (m := 14) hK rfl rfl (by decide) (by decide) rfl rfl rfl rfl ?_
  refine w_al hK rfl rfl ?_
  refine w_il hK rfl rfl ?_
  refine w_call [(1, 161), (0, (x.val : Int))] hK rfl rfl rfl rfl (Or.inr ⟨_, _, _, rfl, by decide, (by decide), rfl⟩) (r_isnum (RS.cg C (fun j_ h1_ h2_ => up_ne2 (by omega)) (fun a_ h1_ h2_ => up_row h1_)).F (x.val : Int) (by omega) (by omega)) ?_
  rintro _ Mq ⟨rfl, e_⟩
  subst Mq
  have nI_285 := ite01 (0 ≤ (x.val : Int) ∧ (x.val : Int) < (qq k : Int))
  refine ⟨by show (0 : Nat) ≠ 9; decide, (?_ : Wp 198 _ 208 6 [(1, 161), (0, (x.val : Int)), (0, (j : Int))] [(0, (if 0 ≤ (x.val : Int) ∧ (x.val : Int) < (qq k : Int) then 1 else 0))] (up M 161 14 0) _)⟩
  refine w_eq hK rfl (by omega) (by omega) (fun h6 => ?_) (fun h6 => ?_)
  · exfalso; omega
  · refine w_il hK rfl rfl ?_
    refine w_i2l hK rfl (by omega) (by omega) ?_
    refine w_lc hK rfl ?_
    refine w_lcw hK rfl ?_
    refine w_call [(2, (j : Int)), (2, 0), (2, 8)] hK rfl rfl rfl rfl (Or.inl rfl) (r_in (j : Int) 0 8 (by omega) (by omega) (by omega) (by omega) (by omega) (by omega)) ?_
    rintro _ Mq ⟨rfl, e_⟩
    subst Mq
    have iI_286 := ite01 (0 ≤ (j : Int) ∧ (j : Int) ≤ 8)
    refine ⟨by show (0 : Nat) ≠ 9; decide, (?_ : Wp 198 _ 208 12 [(1, 161), (0, (x.val : Int)), (0, (j : Int))] [(0, (if 0 ≤ (j : Int) ∧ (j : Int) ≤ 8 then 1 else 0))] (up M 161 14 0) _)⟩
    refine w_eq hK rfl (by omega) (by omega) (fun h12 => ?_) (fun h12 => ?_)
    · exfalso; omega
    · refine w_al hK rfl rfl ?_
      refine w_il hK rfl rfl ?_
      refine w_il hK rfl rfl ?_
      refine w_call [(1, 161), (0, (x.val : Int)), (0, (j : Int))] hK rfl rfl rfl rfl (Or.inr ⟨_, _, _, rfl, by decide, (by decide), rfl⟩) (r_norm (RS.cg C (fun j_ h1_ h2_ => up_ne2 (by omega)) (fun a_ h1_ h2_ => up_row h1_)).F x j (by omega)) ?_
      rintro _ Mq ⟨rfl, e_⟩
      subst Mq
      have bv_ := el_I (chn x j)
      refine ⟨by show (0 : Nat) ≠ 9; decide, (?_ : Wp 198 _ 208 17 [(1, 161), (0, (x.val : Int)), (0, (j : Int))] [(0, ((chn x j).val : Int))] (up M 161 14 0) _)⟩
      refine w_goto hK rfl ?_
      refine w_iret hK rfl rfl ?_
      exact ⟨rfl, ⟨_, (RS.cg C (fun j_ h1_ h2_ => up_ne2 (by omega)) (fun a_ h1_ h2_ => up_row h1_)), (PM.keep hpl (up_row (by decide))), (TMs.keep T (up_ne2 (by decide)) (up_row (by decide))), (RM.keep hR (up_ne2 (by decide)) (up_row (by decide))), (FM.keep hF (up_ne2 (by decide)) (up_row (by decide)) (up_row (by decide)))⟩, (fun a h_ => (up_row (by omega)))⟩
set_option maxRecDepth 100000 in
theorem rn_norm {d : Nat} {M : Mem} {k : Nat} {pl : Nat → Pl k} {n : Int} {tx : Int → Int} {rc : Nat} {rw : Int → Int} {fc : Nat} {fa : Nat → Pl k} (H : RFS M k pl n tx rc rw fc fa) (a j : Int) (a1_ : -2147483648 ≤ a) (a2_ : a ≤ 2147483647) (j1_ : -2147483648 ≤ j) (j2_ : j ≤ 2147483647) (hn : ¬ ((0 ≤ a ∧ a < (qq k : Int)) ∧ 0 ≤ j ∧ j ≤ 8)) : Ct 198 (d + 8) 208 [(1, 161), (0, a), (0, j)] M (fun r_ M' => r_ = (0, -1) ∧ RFS M' k pl n tx rc rw fc fa ∧ (∀ a : Int, (a < 161 ∨ 197 < a) → M' a = M a)) := by
  have hK : cd 208 = k208 := rfl
  obtain ⟨R, C, hpl, T, hR, hF⟩ := H
  have q1_ := qq_I k
  have p1_ := pp_I k
  have m1_ := mm_I k
  show Wp 198 _ 208 0 [(1, 161), (0, a), (0, j)] [] M _
  refine w_al hK rfl rfl ?_
  refine w_ic hK rfl ?_
  refine w_puti (n := 14) (m := 14) hK rfl rfl (by decide) (by decide) rfl rfl rfl rfl ?_
  refine w_al hK rfl rfl ?_
  refine w_il hK rfl rfl ?_
  refine w_call [(1, 161), (0, a)] hK rfl rfl rfl rfl (Or.inr ⟨_, _, _, rfl, by decide, (by decide), rfl⟩) (r_isnum (RS.cg C (fun j_ h1_ h2_ => up_ne2 (by omega)) (fun a_ h1_ h2_ => up_row h1_)).F a (by omega) (by omega)) ?_
  rintro _ Mq ⟨rfl, e_⟩
  subst Mq
  have nI_287 := ite01 (0 ≤ a ∧ a < (qq k : Int))
  refine ⟨by show (0 : Nat) ≠ 9; decide, (?_ : Wp 198 _ 208 6 [(1, 161), (0, a), (0, j)] [(0, (if 0 ≤ a ∧ a < (qq k : Int) then 1 else 0))] (up M 161 14 0) _)⟩
  refine w_eq hK rfl (by omega) (by omega) (fun h6 => ?_) (fun h6 => ?_)
  · refine w_ic hK rfl ?_
    refine w_iret hK rfl rfl ?_
    exact ⟨rfl, ⟨_, (RS.cg C (fun j_ h1_ h2_ => up_ne2 (by omega)) (fun a_ h1_ h2_ => up_row h1_)), (PM.keep hpl (up_row (by decide))), (TMs.keep T (up_ne2 (by decide)) (up_row (by decide))), (RM.keep hR (up_ne2 (by decide)) (up_row (by decide))), (FM.keep hF (up_ne2 (by decide)) (up_row (by decide)) (up_row (by decide)))⟩, (fun a h_ => (up_row (by omega)))⟩
  · refine w_il hK rfl rfl ?_
    refine w_i2l hK rfl (by omega) (by omega) ?_
    refine w_lc hK rfl ?_
    refine w_lcw hK rfl ?_
    refine w_call [(2, j), (2, 0), (2, 8)] hK rfl rfl rfl rfl (Or.inl rfl) (r_in j 0 8 (by omega) (by omega) (by omega) (by omega) (by omega) (by omega)) ?_
    rintro _ Mq ⟨rfl, e_⟩
    subst Mq
    have iI_288 := ite01 (0 ≤ j ∧ j ≤ 8)
    refine ⟨by show (0 : Nat) ≠ 9; decide, (?_ : Wp 198 _ 208 12 [(1, 161), (0, a), (0, j)] [(0, (if 0 ≤ j ∧ j ≤ 8 then 1 else 0))] (up M 161 14 0) _)⟩
    refine w_eq hK rfl (by omega) (by omega) (fun h12 => ?_) (fun h12 => ?_)
    · refine w_ic hK rfl ?_
      refine w_iret hK rfl rfl ?_
      exact ⟨rfl, ⟨_, (RS.cg C (fun j_ h1_ h2_ => up_ne2 (by omega)) (fun a_ h1_ h2_ => up_row h1_)), (PM.keep hpl (up_row (by decide))), (TMs.keep T (up_ne2 (by decide)) (up_row (by decide))), (RM.keep hR (up_ne2 (by decide)) (up_row (by decide))), (FM.keep hF (up_ne2 (by decide)) (up_row (by decide)) (up_row (by decide)))⟩, (fun a h_ => (up_row (by omega)))⟩
    · exfalso; omega
set_option maxRecDepth 100000 in
theorem ro_conj {d : Nat} {M : Mem} {k : Nat} {pl : Nat → Pl k} {n : Int} {tx : Int → Int} {rc : Nat} {rw : Int → Int} {fc : Nat} {fa : Nat → Pl k} (H : RFS M k pl n tx rc rw fc fa) (x : El k) : Ct 198 (d + 8) 210 [(1, 161), (0, (x.val : Int))] M (fun r_ M' => r_ = (0, (cjs x (qq k - 1))) ∧ RFS M' k pl n tx 1 (upr rw 0 (bcw (cjs x (qq k - 1)))) fc fa ∧ (∀ a : Int, (a < 161 ∨ 197 < a) → M' a = M a)) := by
  have hK : cd 210 = k210 := rfl
  obtain ⟨R, C, hpl, T, hR, hF⟩ := H
  have q1_ := qq_I k
  have p1_ := pp_I k
  have m1_ := mm_I k
  have lx_ := x.isLt
  show Wp 198 _ 210 0 [(1, 161), (0, (x.val : Int)), (3, 0)] [] M _
  refine w_al hK rfl rfl ?_
  refine w_ic hK rfl ?_
  refine w_puti (n := 14) (m := 14) hK rfl rfl (by decide) (by decide) rfl rfl rfl rfl ?_
  refine w_al hK rfl rfl ?_
  refine w_il hK rfl rfl ?_
  refine w_call [(1, 161), (0, (x.val : Int))] hK rfl rfl rfl rfl (Or.inr ⟨_, _, _, rfl, by decide, (by decide), rfl⟩) (r_isnum (RS.cg C (fun j_ h1_ h2_ => up_ne2 (by omega)) (fun a_ h1_ h2_ => up_row h1_)).F (x.val : Int) (by omega) (by omega)) ?_
  rintro _ Mq ⟨rfl, e_⟩
  subst Mq
  have nI_289 := ite01 (0 ≤ (x.val : Int) ∧ (x.val : Int) < (qq k : Int))
  refine ⟨by show (0 : Nat) ≠ 9; decide, (?_ : Wp 198 _ 210 6 [(1, 161), (0, (x.val : Int)), (3, 0)] [(0, (if 0 ≤ (x.val : Int) ∧ (x.val : Int) < (qq k : Int) then 1 else 0))] (up M 161 14 0) _)⟩
  refine w_ne hK rfl (by omega) (by omega) (fun h6 => ?_) (fun h6 => ?_)
  · refine w_al hK rfl rfl ?_
    refine w_il hK rfl rfl ?_
    refine w_call [(1, 161), (0, (x.val : Int))] hK rfl rfl rfl rfl (Or.inr ⟨_, _, _, rfl, by decide, (by decide), rfl⟩) (r_cjs (RS.cg C (fun j_ h1_ h2_ => up_ne2 (by omega)) (fun a_ h1_ h2_ => up_row h1_)).F x) ?_
    rintro _ Mq ⟨rfl, e_⟩
    subst Mq
    refine ⟨by show (0 : Nat) ≠ 9; decide, (?_ : Wp 198 _ 210 12 [(1, 161), (0, (x.val : Int)), (3, 0)] [(0, cjs x (qq k - 1))] (up M 161 14 0) _)⟩
    refine w_is [(1, 161), (0, (x.val : Int)), (0, cjs x (qq k - 1))] hK rfl rfl rfl ?_
    refine w_al hK rfl rfl ?_
    refine w_ic hK rfl ?_
    refine w_puti (n := 13) (m := 13) hK rfl rfl (by decide) (by decide) rfl rfl rfl rfl ?_
    refine w_al hK rfl rfl ?_
    refine w_il hK rfl rfl ?_
    have b16_ : b16 (cjs x (qq k - 1)) := cjs_16 x _
    have bI_ := b16_.I
    refine w_call [(0, cjs x (qq k - 1))] hK rfl rfl rfl rfl (Or.inl rfl) (r_ones b16_) ?_
    rintro _ Mq ⟨rfl, e_⟩
    subst Mq
    have wI_ := bcw_I (cjs x (qq k - 1))
    refine ⟨by show (0 : Nat) ≠ 9; decide, (?_ : Wp 198 _ 210 19 [(1, 161), (0, (x.val : Int)), (0, cjs x (qq k - 1))] [(0, (bcw (cjs x (qq k - 1)))), (1, 161)] (up (up M 161 14 0) 161 13 0) _)⟩
    refine w_i2l hK rfl (by omega) (by omega) ?_
    refine w_call [(1, 161), (2, (bcw (cjs x (qq k - 1))))] hK rfl rfl rfl rfl (Or.inr ⟨_, _, _, rfl, by decide, (by decide), rfl⟩) (r_tell (RM.zero (M := (up (up M 161 14 0) 161 13 0)) (rw := rw) up_eq) (by omega) (bcw (cjs x (qq k - 1)))) ?_
    rintro _ V290 ⟨rfl, R290, F290, G290⟩
    refine ⟨by decide, (?_ : Wp 198 _ 210 21 [(1, 161), (0, (x.val : Int)), (0, cjs x (qq k - 1))] [] V290 _)⟩
    refine w_il hK rfl rfl ?_
    refine w_iret hK rfl rfl ?_
    exact ⟨rfl, ⟨_, (RS.cg (RS.cg (RS.cg C (fun j_ h1_ h2_ => up_ne2 (by omega)) (fun a_ h1_ h2_ => up_row h1_)) (fun j_ h1_ h2_ => up_ne2 (by omega)) (fun a_ h1_ h2_ => up_row h1_)) (fun j_ h1_ h2_ => G290 j_ (by omega)) (fun a_ h1_ h2_ => F290 a_ h1_ (RSc_ne h2_ (by decide) (notR rfl)))), (PM.keep hpl ((F290 167 (by decide) (by decide)).trans ((up_row (by decide)).trans (up_row (by decide))))), (TMs.keep T ((G290 11 (by decide)).trans ((up_ne2 (by decide)).trans (up_ne2 (by decide)))) ((F290 168 (by decide) (by decide)).trans ((up_row (by decide)).trans (up_row (by decide))))), R290, (FM.keep hF ((G290 15 (by decide)).trans ((up_ne2 (by decide)).trans (up_ne2 (by decide)))) ((F290 189 (by decide) (by decide)).trans ((up_row (by decide)).trans (up_row (by decide)))) ((F290 190 (by decide) (by decide)).trans ((up_row (by decide)).trans (up_row (by decide)))))⟩, (fun a h_ => ((F290 a (by omega) (by omega)).trans ((up_row (by omega)).trans (up_row (by omega)))))⟩
  · exfalso; omega
set_option maxRecDepth 100000 in
theorem rn_conj {d : Nat} {M : Mem} {k : Nat} {pl : Nat → Pl k} {n : Int} {tx : Int → Int} {rc : Nat} {rw : Int → Int} {fc : Nat} {fa : Nat → Pl k} (H : RFS M k pl n tx rc rw fc fa) (a : Int) (a1_ : -2147483648 ≤ a) (a2_ : a ≤ 2147483647) (hn : ¬ (0 ≤ a ∧ a < (qq k : Int))) : Ct 198 (d + 8) 210 [(1, 161), (0, a)] M (fun r_ M' => r_ = (0, -1) ∧ RFS M' k pl n tx rc rw fc fa ∧ (∀ a : Int, (a < 161 ∨ 197 < a) → M' a = M a)) := by
  have hK : cd 210 = k210 := rfl
  obtain ⟨R, C, hpl, T, hR, hF⟩ := H
  have q1_ := qq_I k
  have p1_ := pp_I k
  have m1_ := mm_I k
  show Wp 198 _ 210 0 [(1, 161), (0, a), (3, 0)] [] M _
  refine w_al hK rfl rfl ?_
  refine w_ic hK rfl ?_
  refine w_puti (n := 14) (m := 14) hK rfl rfl (by decide) (by decide) rfl rfl rfl rfl ?_
  refine w_al hK rfl rfl ?_
  refine w_il hK rfl rfl ?_
  refine w_call [(1, 161), (0, a)] hK rfl rfl rfl rfl (Or.inr ⟨_, _, _, rfl, by decide, (by decide), rfl⟩) (r_isnum (RS.cg C (fun j_ h1_ h2_ => up_ne2 (by omega)) (fun a_ h1_ h2_ => up_row h1_)).F a (by omega) (by omega)) ?_
  rintro _ Mq ⟨rfl, e_⟩
  subst Mq
  have nI_291 := ite01 (0 ≤ a ∧ a < (qq k : Int))
  refine ⟨by show (0 : Nat) ≠ 9; decide, (?_ : Wp 198 _ 210 6 [(1, 161), (0, a), (3, 0)] [(0, (if 0 ≤ a ∧ a < (qq k : Int) then 1 else 0))] (up M 161 14 0) _)⟩
  refine w_ne hK rfl (by omega) (by omega) (fun h6 => ?_) (fun h6 => ?_)
  · exfalso; omega
  · refine w_ic hK rfl ?_
    refine w_iret hK rfl rfl ?_
    exact ⟨rfl, ⟨_, (RS.cg C (fun j_ h1_ h2_ => up_ne2 (by omega)) (fun a_ h1_ h2_ => up_row h1_)), (PM.keep hpl (up_row (by decide))), (TMs.keep T (up_ne2 (by decide)) (up_row (by decide))), (RM.keep hR (up_ne2 (by decide)) (up_row (by decide))), (FM.keep hF (up_ne2 (by decide)) (up_row (by decide)) (up_row (by decide)))⟩, (fun a h_ => (up_row (by omega)))⟩
set_option maxRecDepth 100000 in
theorem ro_degree {d : Nat} {M : Mem} {k : Nat} {pl : Nat → Pl k} {n : Int} {tx : Int → Int} {rc : Nat} {rw : Int → Int} {fc : Nat} {fa : Nat → Pl k} (H : RFS M k pl n tx rc rw fc fa) (i : Nat) (hi : i < 6)  : Ct 198 (d + 8) 223 [(1, 161), (0, (i : Int))] M (fun r_ M' => r_ = (0, (dg (pl i))) ∧ RFS M' k pl n tx rc rw fc fa ∧ (∀ a : Int, (a < 161 ∨ 197 < a) → M' a = M a)) := by
  have hK : cd 223 = k223 := rfl
  obtain ⟨R, C, hpl, T, hR, hF⟩ := H
  have q1_ := qq_I k
  have p1_ := pp_I k
  have m1_ := mm_I k
  have bi_ := (hpl i hi).2
  have di_ := dg_lt9 bi_
  show Wp 198 _ 223 0 [(1, 161), (0, (i : Int))] [] M _
  refine w_al hK rfl rfl ?_
  refine w_ic hK rfl ?_
  refine w_puti (n := 14) (m := 14) hK rfl rfl (by decide) (by decide) rfl rfl rfl rfl ?_
  refine w_il hK rfl rfl ?_
  refine w_call [(0, (i : Int))] hK rfl rfl rfl rfl (Or.inl rfl) (r_place (i : Int) (by omega) (by omega)) ?_
  rintro _ Mq ⟨rfl, e_⟩
  subst Mq
  have pI_292 := ite01 (0 ≤ (i : Int) ∧ (i : Int) < 6)
  refine ⟨by show (0 : Nat) ≠ 9; decide, (?_ : Wp 198 _ 223 5 [(1, 161), (0, (i : Int))] [(0, (if 0 ≤ (i : Int) ∧ (i : Int) < 6 then 1 else 0))] (up M 161 14 0) _)⟩
  refine w_ne hK rfl (by omega) (by omega) (fun h5 => ?_) (fun h5 => ?_)
  · refine w_al hK rfl rfl ?_
    refine w_il hK rfl rfl ?_
    refine w_al hK rfl rfl ?_
    refine w_getr (n := 26) (v := 180) hK rfl rfl (by decide) (by decide) rfl rfl rfl rfl ?_
    refine w_call [(1, 161), (0, (i : Int)), (1, 180)] hK rfl rfl rfl rfl (Or.inr ⟨_, _, _, rfl, by decide, (by decide), rfl⟩) (r_load (RS.cg C (fun j_ h1_ h2_ => up_ne2 (by omega)) (fun a_ h1_ h2_ => up_row h1_)) (PM.keep hpl (up_row (by decide))) i hi (isR_of (p := 180) rfl)) ?_
    rintro _ V293 ⟨P293, rfl, C293, S293, F293, f293_0⟩
    refine ⟨by decide, (?_ : Wp 198 _ 223 13 [(1, 161), (0, (i : Int))] [] V293 _)⟩
    refine w_al hK rfl rfl ?_
    refine w_getr (n := 26) (v := 180) hK rfl rfl (by decide) (by decide) rfl rfl rfl rfl ?_
    have dI_ : -1 ≤ dg (pl i) ∧ dg (pl i) ≤ 47 := C293.dI ⟨(isR_of (p := 180) rfl), f293_0⟩
    refine w_call [(1, 180)] hK rfl rfl rfl rfl (Or.inl rfl) (r_deg C293 ⟨(isR_of (p := 180) rfl), f293_0⟩) ?_
    rintro _ Mq ⟨rfl, e_⟩
    subst Mq
    refine ⟨by show (0 : Nat) ≠ 9; decide, (?_ : Wp 198 _ 223 16 [(1, 161), (0, (i : Int))] [(0, (dg (pl i)))] V293 _)⟩
    refine w_iret hK rfl rfl ?_
    exact ⟨rfl, ⟨_, C293, (PM.keep hpl ((S293 167 (notR rfl)).trans (up_row (by decide)))), (TMs.keep T ((congrFun (S293 161 (notR rfl)) 11).trans (up_ne2 (by decide))) ((S293 168 (notR rfl)).trans (up_row (by decide)))), (RM.keep hR ((congrFun (S293 161 (notR rfl)) 13).trans (up_ne2 (by decide))) ((S293 169 (notR rfl)).trans (up_row (by decide)))), (FM.keep hF ((congrFun (S293 161 (notR rfl)) 15).trans (up_ne2 (by decide))) ((S293 189 (notR rfl)).trans (up_row (by decide))) ((S293 190 (notR rfl)).trans (up_row (by decide))))⟩, (fun a h_ => ((S293 a (npR h_)).trans (up_row (by omega))))⟩
  · exfalso; omega
set_option maxRecDepth 100000 in
theorem rn_degree {d : Nat} {M : Mem} {k : Nat} {pl : Nat → Pl k} {n : Int} {tx : Int → Int} {rc : Nat} {rw : Int → Int} {fc : Nat} {fa : Nat → Pl k} (H : RFS M k pl n tx rc rw fc fa) (i : Int) (i1_ : -2147483648 ≤ i) (i2_ : i ≤ 2147483647) (hn : ¬ (0 ≤ i ∧ i < 6)) : Ct 198 (d + 8) 223 [(1, 161), (0, i)] M (fun r_ M' => r_ = (0, -2) ∧ RFS M' k pl n tx rc rw fc fa ∧ (∀ a : Int, (a < 161 ∨ 197 < a) → M' a = M a)) := by
  have hK : cd 223 = k223 := rfl
  obtain ⟨R, C, hpl, T, hR, hF⟩ := H
  have q1_ := qq_I k
  have p1_ := pp_I k
  have m1_ := mm_I k
  show Wp 198 _ 223 0 [(1, 161), (0, i)] [] M _
  refine w_al hK rfl rfl ?_
  refine w_ic hK rfl ?_
  refine w_puti (n := 14) (m := 14) hK rfl rfl (by decide) (by decide) rfl rfl rfl rfl ?_
  refine w_il hK rfl rfl ?_
  refine w_call [(0, i)] hK rfl rfl rfl rfl (Or.inl rfl) (r_place i (by omega) (by omega)) ?_
  rintro _ Mq ⟨rfl, e_⟩
  subst Mq
  have pI_294 := ite01 (0 ≤ i ∧ i < 6)
  refine ⟨by show (0 : Nat) ≠ 9; decide, (?_ : Wp 198 _ 223 5 [(1, 161), (0, i)] [(0, (if 0 ≤ i ∧ i < 6 then 1 else 0))] (up M 161 14 0) _)⟩
  refine w_ne hK rfl (by omega) (by omega) (fun h5 => ?_) (fun h5 => ?_)
  · exfalso; omega
  · refine w_ic hK rfl ?_
    refine w_iret hK rfl rfl ?_
    exact ⟨rfl, ⟨_, (RS.cg C (fun j_ h1_ h2_ => up_ne2 (by omega)) (fun a_ h1_ h2_ => up_row h1_)), (PM.keep hpl (up_row (by decide))), (TMs.keep T (up_ne2 (by decide)) (up_row (by decide))), (RM.keep hR (up_ne2 (by decide)) (up_row (by decide))), (FM.keep hF (up_ne2 (by decide)) (up_row (by decide)) (up_row (by decide)))⟩, (fun a h_ => (up_row (by omega)))⟩
set_option maxRecDepth 100000 in
theorem ro_number {d : Nat} {M : Mem} {k : Nat} {pl : Nat → Pl k} {n : Int} {tx : Int → Int} {rc : Nat} {rw : Int → Int} {fc : Nat} {fa : Nat → Pl k} (H : RFS M k pl n tx rc rw fc fa) (i : Nat) (hi : i < 6) (j : Nat) (j8 : j ≤ 8) : Ct 198 (d + 8) 225 [(1, 161), (0, (i : Int)), (0, (j : Int))] M (fun r_ M' => r_ = (0, ((pl i j).val : Int)) ∧ RFS M' k pl n tx rc rw fc fa ∧ (∀ a : Int, (a < 161 ∨ 197 < a) → M' a = M a)) := by
  have hK : cd 225 = k225 := rfl
  obtain ⟨R, C, hpl, T, hR, hF⟩ := H
  have q1_ := qq_I k
  have p1_ := pp_I k
  have m1_ := mm_I k
  have bi_ := (hpl i hi).2
  have di_ := dg_lt9 bi_
  show Wp 198 _ 225 0 [(1, 161), (0, (i : Int)), (0, (j : Int))] [] M _
  refine w_al hK rfl rfl ?_
  refine w_ic hK rfl ?_
  refine w_puti (n := 14) (m := 14) hK rfl rfl (by decide) (by decide) rfl rfl rfl rfl ?_
  refine w_il hK rfl rfl ?_
  refine w_call [(0, (i : Int))] hK rfl rfl rfl rfl (Or.inl rfl) (r_place (i : Int) (by omega) (by omega)) ?_
  rintro _ Mq ⟨rfl, e_⟩
  subst Mq
  have pI_295 := ite01 (0 ≤ (i : Int) ∧ (i : Int) < 6)
  refine ⟨by show (0 : Nat) ≠ 9; decide, (?_ : Wp 198 _ 225 5 [(1, 161), (0, (i : Int)), (0, (j : Int))] [(0, (if 0 ≤ (i : Int) ∧ (i : Int) < 6 then 1 else 0))] (up M 161 14 0) _)⟩
  refine w_eq hK rfl (by omega) (by omega) (fun h5 => ?_) (fun h5 => ?_)
  · exfalso; omega
  · refine w_il hK rfl rfl ?_
    refine w_i2l hK rfl (by omega) (by omega) ?_
    refine w_lc hK rfl ?_
    refine w_lcw hK rfl ?_
    refine w_call [(2, (j : Int)), (2, 0), (2, 8)] hK rfl rfl rfl rfl (Or.inl rfl) (r_in (j : Int) 0 8 (by omega) (by omega) (by omega) (by omega) (by omega) (by omega)) ?_
    rintro _ Mq ⟨rfl, e_⟩
    subst Mq
    have iI_296 := ite01 (0 ≤ (j : Int) ∧ (j : Int) ≤ 8)
    refine ⟨by show (0 : Nat) ≠ 9; decide, (?_ : Wp 198 _ 225 11 [(1, 161), (0, (i : Int)), (0, (j : Int))] [(0, (if 0 ≤ (j : Int) ∧ (j : Int) ≤ 8 then 1 else 0))] (up M 161 14 0) _)⟩
    refine w_eq hK rfl (by omega) (by omega) (fun h11 => ?_) (fun h11 => ?_)
    · exfalso; omega
    · refine w_al hK rfl rfl ?_
      refine w_getr (n := 9) (v := 167) hK rfl rfl (by decide) (by decide) rfl rfl rfl rfl ?_
      refine w_ic hK rfl ?_
      refine w_il hK rfl rfl ?_
      refine w_mul hK rfl (by omega) (by omega) ?_
      refine w_il hK rfl rfl ?_
      refine w_add hK rfl (by omega) (by omega) ?_
      refine w_ia hK rfl rfl (by decide) (by decide) (by omega) (by omega) ?_
      rw [show (up M 161 14 0) 167 ((9 * (i : Int)) + (j : Int)) = ((pl i j).val : Int) from ((congrFun (up_row (by decide)) ((9 * (i : Int)) + (j : Int))).trans ((hpl i hi).1 j (by omega)))]
      refine w_goto hK rfl ?_
      refine w_iret hK rfl rfl ?_
      exact ⟨rfl, ⟨_, (RS.cg C (fun j_ h1_ h2_ => up_ne2 (by omega)) (fun a_ h1_ h2_ => up_row h1_)), (PM.keep hpl (up_row (by decide))), (TMs.keep T (up_ne2 (by decide)) (up_row (by decide))), (RM.keep hR (up_ne2 (by decide)) (up_row (by decide))), (FM.keep hF (up_ne2 (by decide)) (up_row (by decide)) (up_row (by decide)))⟩, (fun a h_ => (up_row (by omega)))⟩
set_option maxRecDepth 100000 in
theorem rn_number {d : Nat} {M : Mem} {k : Nat} {pl : Nat → Pl k} {n : Int} {tx : Int → Int} {rc : Nat} {rw : Int → Int} {fc : Nat} {fa : Nat → Pl k} (H : RFS M k pl n tx rc rw fc fa) (i j : Int) (i1_ : -2147483648 ≤ i) (i2_ : i ≤ 2147483647) (j1_ : -2147483648 ≤ j) (j2_ : j ≤ 2147483647) (hn : ¬ ((0 ≤ i ∧ i < 6) ∧ 0 ≤ j ∧ j ≤ 8)) : Ct 198 (d + 8) 225 [(1, 161), (0, i), (0, j)] M (fun r_ M' => r_ = (0, -1) ∧ RFS M' k pl n tx rc rw fc fa ∧ (∀ a : Int, (a < 161 ∨ 197 < a) → M' a = M a)) := by
  have hK : cd 225 = k225 := rfl
  obtain ⟨R, C, hpl, T, hR, hF⟩ := H
  have q1_ := qq_I k
  have p1_ := pp_I k
  have m1_ := mm_I k
  show Wp 198 _ 225 0 [(1, 161), (0, i), (0, j)] [] M _
  refine w_al hK rfl rfl ?_
  refine w_ic hK rfl ?_
  refine w_puti (n := 14) (m := 14) hK rfl rfl (by decide) (by decide) rfl rfl rfl rfl ?_
  refine w_il hK rfl rfl ?_
  refine w_call [(0, i)] hK rfl rfl rfl rfl (Or.inl rfl) (r_place i (by omega) (by omega)) ?_
  rintro _ Mq ⟨rfl, e_⟩
  subst Mq
  have pI_297 := ite01 (0 ≤ i ∧ i < 6)
  refine ⟨by show (0 : Nat) ≠ 9; decide, (?_ : Wp 198 _ 225 5 [(1, 161), (0, i), (0, j)] [(0, (if 0 ≤ i ∧ i < 6 then 1 else 0))] (up M 161 14 0) _)⟩
  refine w_eq hK rfl (by omega) (by omega) (fun h5 => ?_) (fun h5 => ?_)
  · refine w_ic hK rfl ?_
    refine w_iret hK rfl rfl ?_
    exact ⟨rfl, ⟨_, (RS.cg C (fun j_ h1_ h2_ => up_ne2 (by omega)) (fun a_ h1_ h2_ => up_row h1_)), (PM.keep hpl (up_row (by decide))), (TMs.keep T (up_ne2 (by decide)) (up_row (by decide))), (RM.keep hR (up_ne2 (by decide)) (up_row (by decide))), (FM.keep hF (up_ne2 (by decide)) (up_row (by decide)) (up_row (by decide)))⟩, (fun a h_ => (up_row (by omega)))⟩
  · refine w_il hK rfl rfl ?_
    refine w_i2l hK rfl (by omega) (by omega) ?_
    refine w_lc hK rfl ?_
    refine w_lcw hK rfl ?_
    refine w_call [(2, j), (2, 0), (2, 8)] hK rfl rfl rfl rfl (Or.inl rfl) (r_in j 0 8 (by omega) (by omega) (by omega) (by omega) (by omega) (by omega)) ?_
    rintro _ Mq ⟨rfl, e_⟩
    subst Mq
    have iI_298 := ite01 (0 ≤ j ∧ j ≤ 8)
    refine ⟨by show (0 : Nat) ≠ 9; decide, (?_ : Wp 198 _ 225 11 [(1, 161), (0, i), (0, j)] [(0, (if 0 ≤ j ∧ j ≤ 8 then 1 else 0))] (up M 161 14 0) _)⟩
    refine w_eq hK rfl (by omega) (by omega) (fun h11 => ?_) (fun h11 => ?_)
    · refine w_ic hK rfl ?_
      refine w_iret hK rfl rfl ?_
      exact ⟨rfl, ⟨_, (RS.cg C (fun j_ h1_ h2_ => up_ne2 (by omega)) (fun a_ h1_ h2_ => up_row h1_)), (PM.keep hpl (up_row (by decide))), (TMs.keep T (up_ne2 (by decide)) (up_row (by decide))), (RM.keep hR (up_ne2 (by decide)) (up_row (by decide))), (FM.keep hF (up_ne2 (by decide)) (up_row (by decide)) (up_row (by decide)))⟩, (fun a h_ => (up_row (by omega)))⟩
    · exfalso; omega
set_option maxRecDepth 100000 in
theorem ro_adds {d : Nat} {M : Mem} {k : Nat} {pl : Nat → Pl k} {n : Int} {tx : Int → Int} {rc : Nat} {rw : Int → Int} {fc : Nat} {fa : Nat → Pl k} (H : RFS M k pl n tx rc rw fc fa) (i : Nat) (hi : i < 6) (j : Nat) (hj : j < 6) (l : Nat) (hl : l < 6)  : Ct 198 (d + 8) 226 [(1, 161), (0, (i : Int)), (0, (j : Int)), (0, (l : Int))] M (fun r_ M' => r_ = (0, (dg (adp (pl i) (pl j)))) ∧ RFS M' k (fup pl l (adp (pl i) (pl j))) n tx rc rw fc fa ∧ (∀ a : Int, (a < 161 ∨ 197 < a) → M' a = M a)) := by
  have hK : cd 226 = k226 := rfl
  obtain ⟨R, C, hpl, T, hR, hF⟩ := H
  have q1_ := qq_I k
  have p1_ := pp_I k
  have m1_ := mm_I k
  have bi_ := (hpl i hi).2
  have di_ := dg_lt9 bi_
  have bj_ := (hpl j hj).2
  have dj_ := dg_lt9 bj_
  have bl_ := (hpl l hl).2
  have dl_ := dg_lt9 bl_
  show Wp 198 _ 226 0 [(1, 161), (0, (i : Int)), (0, (j : Int)), (0, (l : Int))] [] M _
  refine w_al hK rfl rfl ?_
  refine w_ic hK rfl ?_
  refine w_puti (n := 14) (m := 14) hK rfl rfl (by decide) (by decide) rfl rfl rfl rfl ?_
  refine w_al hK rfl rfl ?_
  refine w_il hK rfl rfl ?_
  refine w_il hK rfl rfl ?_
  refine w_il hK rfl rfl ?_
  refine w_call [(1, 161), (0, (i : Int)), (0, (j : Int)), (0, (l : Int))] hK rfl rfl rfl rfl (Or.inr ⟨_, _, _, rfl, by decide, (by decide), rfl⟩) (r_loads (RS.cg C (fun j_ h1_ h2_ => up_ne2 (by omega)) (fun a_ h1_ h2_ => up_row h1_)) (PM.keep hpl (up_row (by decide))) i j l hi hj hl) ?_
  rintro _ V299 ⟨P299, rfl, C299, S299, F299, f299_0, f299_1⟩
  refine ⟨by show (0 : Nat) ≠ 9; decide, (?_ : Wp 198 _ 226 8 [(1, 161), (0, (i : Int)), (0, (j : Int)), (0, (l : Int))] [(0, 1)] V299 _)⟩
  refine w_ne hK rfl (by omega) (by omega) (fun h8 => ?_) (fun h8 => ?_)
  · refine w_al hK rfl rfl ?_
    refine w_al hK rfl rfl ?_
    refine w_getr (n := 27) (v := 181) hK rfl rfl (by decide) (by decide) rfl rfl rfl rfl ?_
    refine w_al hK rfl rfl ?_
    refine w_getr (n := 26) (v := 180) hK rfl rfl (by decide) (by decide) rfl rfl rfl rfl ?_
    refine w_call [(1, 161), (1, 181), (1, 180)] hK rfl rfl rfl rfl (Or.inr ⟨_, _, _, rfl, by decide, (by decide), rfl⟩) (r_adds C299 ⟨(isR_of (p := 181) rfl), f299_1⟩ ⟨(isR_of (p := 180) rfl), f299_0⟩ (by omega)) ?_
    rintro _ V300 ⟨P300, rfl, C300, S300, F300, f300_0⟩
    refine ⟨by decide, (?_ : Wp 198 _ 226 17 [(1, 161), (0, (i : Int)), (0, (j : Int)), (0, (l : Int))] [] V300 _)⟩
    refine w_al hK rfl rfl ?_
    refine w_al hK rfl rfl ?_
    refine w_getr (n := 26) (v := 180) hK rfl rfl (by decide) (by decide) rfl rfl rfl rfl ?_
    refine w_il hK rfl rfl ?_
    refine w_call [(1, 161), (1, 180), (0, (l : Int))] hK rfl rfl rfl rfl (Or.inr ⟨_, _, _, rfl, by decide, (by decide), rfl⟩) (r_store C300 (PM.keep hpl ((S300 167 (notR rfl)).trans ((S299 167 (notR rfl)).trans (up_row (by decide))))) ⟨(isR_of (p := 180) rfl), f300_0⟩ l hl (Bd_adp' bi_ bj_)) ?_
    rintro _ V301 ⟨rfl, C301, Q301, F301⟩
    refine ⟨(by show (0 : Nat) ≠ 9; decide), (?_ : Wp 198 _ 226 22 [(1, 161), (0, (i : Int)), (0, (j : Int)), (0, (l : Int))] [(0, (dg (adp (pl i) (pl j))))] V301 _)⟩
    refine w_iret hK rfl rfl ?_
    exact ⟨rfl, ⟨_, C301, Q301, (TMs.keep T ((congrFun (F301 161 (by decide)) 11).trans ((congrFun (S300 161 (notR rfl)) 11).trans ((congrFun (S299 161 (notR rfl)) 11).trans (up_ne2 (by decide))))) ((F301 168 (by decide)).trans ((S300 168 (notR rfl)).trans ((S299 168 (notR rfl)).trans (up_row (by decide)))))), (RM.keep hR ((congrFun (F301 161 (by decide)) 13).trans ((congrFun (S300 161 (notR rfl)) 13).trans ((congrFun (S299 161 (notR rfl)) 13).trans (up_ne2 (by decide))))) ((F301 169 (by decide)).trans ((S300 169 (notR rfl)).trans ((S299 169 (notR rfl)).trans (up_row (by decide)))))), (FM.keep hF ((congrFun (F301 161 (by decide)) 15).trans ((congrFun (S300 161 (notR rfl)) 15).trans ((congrFun (S299 161 (notR rfl)) 15).trans (up_ne2 (by decide))))) ((F301 189 (by decide)).trans ((S300 189 (notR rfl)).trans ((S299 189 (notR rfl)).trans (up_row (by decide))))) ((F301 190 (by decide)).trans ((S300 190 (notR rfl)).trans ((S299 190 (notR rfl)).trans (up_row (by decide))))))⟩, (fun a h_ => ((F301 a (by omega)).trans ((S300 a (npR h_)).trans ((S299 a (npR h_)).trans (up_row (by omega))))))⟩
  · exfalso; omega
set_option maxRecDepth 100000 in
theorem rn_adds {d : Nat} {M : Mem} {k : Nat} {pl : Nat → Pl k} {n : Int} {tx : Int → Int} {rc : Nat} {rw : Int → Int} {fc : Nat} {fa : Nat → Pl k} (H : RFS M k pl n tx rc rw fc fa) (i j l : Int) (i1_ : -2147483648 ≤ i) (i2_ : i ≤ 2147483647) (j1_ : -2147483648 ≤ j) (j2_ : j ≤ 2147483647) (l1_ : -2147483648 ≤ l) (l2_ : l ≤ 2147483647) (hn : ¬ ((0 ≤ i ∧ i < 6) ∧ (0 ≤ j ∧ j < 6) ∧ (0 ≤ l ∧ l < 6))) : Ct 198 (d + 8) 226 [(1, 161), (0, i), (0, j), (0, l)] M (fun r_ M' => r_ = (0, -2) ∧ RFS M' k pl n tx rc rw fc fa ∧ (∀ a : Int, (a < 161 ∨ 197 < a) → M' a = M a)) := by
  have hK : cd 226 = k226 := rfl
  obtain ⟨R, C, hpl, T, hR, hF⟩ := H
  have q1_ := qq_I k
  have p1_ := pp_I k
  have m1_ := mm_I k
  show Wp 198 _ 226 0 [(1, 161), (0, i), (0, j), (0, l)] [] M _
  refine w_al hK rfl rfl ?_
  refine w_ic hK rfl ?_
  refine w_puti (n := 14) (m := 14) hK rfl rfl (by decide) (by decide) rfl rfl rfl rfl ?_
  refine w_al hK rfl rfl ?_
  refine w_il hK rfl rfl ?_
  refine w_il hK rfl rfl ?_
  refine w_il hK rfl rfl ?_
  refine w_call [(1, 161), (0, i), (0, j), (0, l)] hK rfl rfl rfl rfl (Or.inr ⟨_, _, _, rfl, by decide, (by decide), rfl⟩) (r_loadsN i j l (by omega) (by omega) (by omega) (by omega) (by omega) (by omega) (by omega)) ?_
  rintro _ Mq ⟨rfl, e_⟩
  subst Mq
  refine ⟨by show (0 : Nat) ≠ 9; decide, (?_ : Wp 198 _ 226 8 [(1, 161), (0, i), (0, j), (0, l)] [(0, 0)] (up M 161 14 0) _)⟩
  refine w_ne hK rfl (by omega) (by omega) (fun h8 => ?_) (fun h8 => ?_)
  · exfalso; omega
  · refine w_ic hK rfl ?_
    refine w_iret hK rfl rfl ?_
    exact ⟨rfl, ⟨_, (RS.cg C (fun j_ h1_ h2_ => up_ne2 (by omega)) (fun a_ h1_ h2_ => up_row h1_)), (PM.keep hpl (up_row (by decide))), (TMs.keep T (up_ne2 (by decide)) (up_row (by decide))), (RM.keep hR (up_ne2 (by decide)) (up_row (by decide))), (FM.keep hF (up_ne2 (by decide)) (up_row (by decide)) (up_row (by decide)))⟩, (fun a h_ => (up_row (by omega)))⟩
set_option maxRecDepth 100000 in
theorem ro_takes {d : Nat} {M : Mem} {k : Nat} {pl : Nat → Pl k} {n : Int} {tx : Int → Int} {rc : Nat} {rw : Int → Int} {fc : Nat} {fa : Nat → Pl k} (H : RFS M k pl n tx rc rw fc fa) (i : Nat) (hi : i < 6) (j : Nat) (hj : j < 6) (l : Nat) (hl : l < 6)  : Ct 198 (d + 8) 229 [(1, 161), (0, (i : Int)), (0, (j : Int)), (0, (l : Int))] M (fun r_ M' => r_ = (0, (dg (sbp (pl i) (pl j)))) ∧ RFS M' k (fup pl l (sbp (pl i) (pl j))) n tx rc rw fc fa ∧ (∀ a : Int, (a < 161 ∨ 197 < a) → M' a = M a)) := by
  have hK : cd 229 = k229 := rfl
  obtain ⟨R, C, hpl, T, hR, hF⟩ := H
  have q1_ := qq_I k
  have p1_ := pp_I k
  have m1_ := mm_I k
  have bi_ := (hpl i hi).2
  have di_ := dg_lt9 bi_
  have bj_ := (hpl j hj).2
  have dj_ := dg_lt9 bj_
  have bl_ := (hpl l hl).2
  have dl_ := dg_lt9 bl_
  show Wp 198 _ 229 0 [(1, 161), (0, (i : Int)), (0, (j : Int)), (0, (l : Int))] [] M _
  refine w_al hK rfl rfl ?_
  refine w_ic hK rfl ?_
  refine w_puti (n := 14) (m := 14) hK rfl rfl (by decide) (by decide) rfl rfl rfl rfl ?_
  refine w_al hK rfl rfl ?_
  refine w_il hK rfl rfl ?_
  refine w_il hK rfl rfl ?_
  refine w_il hK rfl rfl ?_
  refine w_call [(1, 161), (0, (i : Int)), (0, (j : Int)), (0, (l : Int))] hK rfl rfl rfl rfl (Or.inr ⟨_, _, _, rfl, by decide, (by decide), rfl⟩) (r_loads (RS.cg C (fun j_ h1_ h2_ => up_ne2 (by omega)) (fun a_ h1_ h2_ => up_row h1_)) (PM.keep hpl (up_row (by decide))) i j l hi hj hl) ?_
  rintro _ V302 ⟨P302, rfl, C302, S302, F302, f302_0, f302_1⟩
  refine ⟨by show (0 : Nat) ≠ 9; decide, (?_ : Wp 198 _ 229 8 [(1, 161), (0, (i : Int)), (0, (j : Int)), (0, (l : Int))] [(0, 1)] V302 _)⟩
  refine w_ne hK rfl (by omega) (by omega) (fun h8 => ?_) (fun h8 => ?_)
  · refine w_al hK rfl rfl ?_
    refine w_al hK rfl rfl ?_
    refine w_getr (n := 27) (v := 181) hK rfl rfl (by decide) (by decide) rfl rfl rfl rfl ?_
    refine w_al hK rfl rfl ?_
    refine w_getr (n := 26) (v := 180) hK rfl rfl (by decide) (by decide) rfl rfl rfl rfl ?_
    refine w_call [(1, 161), (1, 181), (1, 180)] hK rfl rfl rfl rfl (Or.inr ⟨_, _, _, rfl, by decide, (by decide), rfl⟩) (r_less C302 ⟨(isR_of (p := 181) rfl), f302_1⟩ ⟨(isR_of (p := 180) rfl), f302_0⟩ (by omega)) ?_
    rintro _ V303 ⟨P303, rfl, C303, S303, F303, f303_0⟩
    refine ⟨by decide, (?_ : Wp 198 _ 229 17 [(1, 161), (0, (i : Int)), (0, (j : Int)), (0, (l : Int))] [] V303 _)⟩
    refine w_al hK rfl rfl ?_
    refine w_al hK rfl rfl ?_
    refine w_getr (n := 26) (v := 180) hK rfl rfl (by decide) (by decide) rfl rfl rfl rfl ?_
    refine w_il hK rfl rfl ?_
    refine w_call [(1, 161), (1, 180), (0, (l : Int))] hK rfl rfl rfl rfl (Or.inr ⟨_, _, _, rfl, by decide, (by decide), rfl⟩) (r_store C303 (PM.keep hpl ((S303 167 (notR rfl)).trans ((S302 167 (notR rfl)).trans (up_row (by decide))))) ⟨(isR_of (p := 180) rfl), f303_0⟩ l hl (Bd_sbp' bi_ bj_)) ?_
    rintro _ V304 ⟨rfl, C304, Q304, F304⟩
    refine ⟨(by show (0 : Nat) ≠ 9; decide), (?_ : Wp 198 _ 229 22 [(1, 161), (0, (i : Int)), (0, (j : Int)), (0, (l : Int))] [(0, (dg (sbp (pl i) (pl j))))] V304 _)⟩
    refine w_iret hK rfl rfl ?_
    exact ⟨rfl, ⟨_, C304, Q304, (TMs.keep T ((congrFun (F304 161 (by decide)) 11).trans ((congrFun (S303 161 (notR rfl)) 11).trans ((congrFun (S302 161 (notR rfl)) 11).trans (up_ne2 (by decide))))) ((F304 168 (by decide)).trans ((S303 168 (notR rfl)).trans ((S302 168 (notR rfl)).trans (up_row (by decide)))))), (RM.keep hR ((congrFun (F304 161 (by decide)) 13).trans ((congrFun (S303 161 (notR rfl)) 13).trans ((congrFun (S302 161 (notR rfl)) 13).trans (up_ne2 (by decide))))) ((F304 169 (by decide)).trans ((S303 169 (notR rfl)).trans ((S302 169 (notR rfl)).trans (up_row (by decide)))))), (FM.keep hF ((congrFun (F304 161 (by decide)) 15).trans ((congrFun (S303 161 (notR rfl)) 15).trans ((congrFun (S302 161 (notR rfl)) 15).trans (up_ne2 (by decide))))) ((F304 189 (by decide)).trans ((S303 189 (notR rfl)).trans ((S302 189 (notR rfl)).trans (up_row (by decide))))) ((F304 190 (by decide)).trans ((S303 190 (notR rfl)).trans ((S302 190 (notR rfl)).trans (up_row (by decide))))))⟩, (fun a h_ => ((F304 a (by omega)).trans ((S303 a (npR h_)).trans ((S302 a (npR h_)).trans (up_row (by omega))))))⟩
  · exfalso; omega
set_option maxRecDepth 100000 in
theorem rn_takes {d : Nat} {M : Mem} {k : Nat} {pl : Nat → Pl k} {n : Int} {tx : Int → Int} {rc : Nat} {rw : Int → Int} {fc : Nat} {fa : Nat → Pl k} (H : RFS M k pl n tx rc rw fc fa) (i j l : Int) (i1_ : -2147483648 ≤ i) (i2_ : i ≤ 2147483647) (j1_ : -2147483648 ≤ j) (j2_ : j ≤ 2147483647) (l1_ : -2147483648 ≤ l) (l2_ : l ≤ 2147483647) (hn : ¬ ((0 ≤ i ∧ i < 6) ∧ (0 ≤ j ∧ j < 6) ∧ (0 ≤ l ∧ l < 6))) : Ct 198 (d + 8) 229 [(1, 161), (0, i), (0, j), (0, l)] M (fun r_ M' => r_ = (0, -2) ∧ RFS M' k pl n tx rc rw fc fa ∧ (∀ a : Int, (a < 161 ∨ 197 < a) → M' a = M a)) := by
  have hK : cd 229 = k229 := rfl
  obtain ⟨R, C, hpl, T, hR, hF⟩ := H
  have q1_ := qq_I k
  have p1_ := pp_I k
  have m1_ := mm_I k
  show Wp 198 _ 229 0 [(1, 161), (0, i), (0, j), (0, l)] [] M _
  refine w_al hK rfl rfl ?_
  refine w_ic hK rfl ?_
  refine w_puti (n := 14) (m := 14) hK rfl rfl (by decide) (by decide) rfl rfl rfl rfl ?_
  refine w_al hK rfl rfl ?_
  refine w_il hK rfl rfl ?_
  refine w_il hK rfl rfl ?_
  refine w_il hK rfl rfl ?_
  refine w_call [(1, 161), (0, i), (0, j), (0, l)] hK rfl rfl rfl rfl (Or.inr ⟨_, _, _, rfl, by decide, (by decide), rfl⟩) (r_loadsN i j l (by omega) (by omega) (by omega) (by omega) (by omega) (by omega) (by omega)) ?_
  rintro _ Mq ⟨rfl, e_⟩
  subst Mq
  refine ⟨by show (0 : Nat) ≠ 9; decide, (?_ : Wp 198 _ 229 8 [(1, 161), (0, i), (0, j), (0, l)] [(0, 0)] (up M 161 14 0) _)⟩
  refine w_ne hK rfl (by omega) (by omega) (fun h8 => ?_) (fun h8 => ?_)
  · exfalso; omega
  · refine w_ic hK rfl ?_
    refine w_iret hK rfl rfl ?_
    exact ⟨rfl, ⟨_, (RS.cg C (fun j_ h1_ h2_ => up_ne2 (by omega)) (fun a_ h1_ h2_ => up_row h1_)), (PM.keep hpl (up_row (by decide))), (TMs.keep T (up_ne2 (by decide)) (up_row (by decide))), (RM.keep hR (up_ne2 (by decide)) (up_row (by decide))), (FM.keep hF (up_ne2 (by decide)) (up_row (by decide)) (up_row (by decide)))⟩, (fun a h_ => (up_row (by omega)))⟩
set_option maxRecDepth 100000 in
theorem ro_scales {d : Nat} {M : Mem} {k : Nat} {pl : Nat → Pl k} {n : Int} {tx : Int → Int} {rc : Nat} {rw : Int → Int} {fc : Nat} {fa : Nat → Pl k} (H : RFS M k pl n tx rc rw fc fa) (i : Nat) (hi : i < 6) (l : Nat) (hl : l < 6) (x : El k) : Ct 198 (d + 8) 231 [(1, 161), (0, (x.val : Int)), (0, (i : Int)), (0, (l : Int))] M (fun r_ M' => r_ = (0, (dg (scl x (pl i)))) ∧ RFS M' k (fup pl l (scl x (pl i))) n tx rc rw fc fa ∧ (∀ a : Int, (a < 161 ∨ 197 < a) → M' a = M a)) := by
  have hK : cd 231 = k231 := rfl
  obtain ⟨R, C, hpl, T, hR, hF⟩ := H
  have q1_ := qq_I k
  have p1_ := pp_I k
  have m1_ := mm_I k
  have bi_ := (hpl i hi).2
  have di_ := dg_lt9 bi_
  have bl_ := (hpl l hl).2
  have dl_ := dg_lt9 bl_
  have lx_ := x.isLt
  show Wp 198 _ 231 0 [(1, 161), (0, (x.val : Int)), (0, (i : Int)), (0, (l : Int))] [] M _
  refine w_al hK rfl rfl ?_
  refine w_ic hK rfl ?_
  refine w_puti (n := 14) (m := 14) hK rfl rfl (by decide) (by decide) rfl rfl rfl rfl ?_
  refine w_al hK rfl rfl ?_
  refine w_il hK rfl rfl ?_
  refine w_call [(1, 161), (0, (x.val : Int))] hK rfl rfl rfl rfl (Or.inr ⟨_, _, _, rfl, by decide, (by decide), rfl⟩) (r_isnum (RS.cg C (fun j_ h1_ h2_ => up_ne2 (by omega)) (fun a_ h1_ h2_ => up_row h1_)).F (x.val : Int) (by omega) (by omega)) ?_
  rintro _ Mq ⟨rfl, e_⟩
  subst Mq
  have nI_305 := ite01 (0 ≤ (x.val : Int) ∧ (x.val : Int) < (qq k : Int))
  refine ⟨by show (0 : Nat) ≠ 9; decide, (?_ : Wp 198 _ 231 6 [(1, 161), (0, (x.val : Int)), (0, (i : Int)), (0, (l : Int))] [(0, (if 0 ≤ (x.val : Int) ∧ (x.val : Int) < (qq k : Int) then 1 else 0))] (up M 161 14 0) _)⟩
  refine w_eq hK rfl (by omega) (by omega) (fun h6 => ?_) (fun h6 => ?_)
  · exfalso; omega
  · refine w_al hK rfl rfl ?_
    refine w_il hK rfl rfl ?_
    refine w_il hK rfl rfl ?_
    refine w_il hK rfl rfl ?_
    refine w_call [(1, 161), (0, (i : Int)), (0, (i : Int)), (0, (l : Int))] hK rfl rfl rfl rfl (Or.inr ⟨_, _, _, rfl, by decide, (by decide), rfl⟩) (r_loads (RS.cg C (fun j_ h1_ h2_ => up_ne2 (by omega)) (fun a_ h1_ h2_ => up_row h1_)) (PM.keep hpl (up_row (by decide))) i i l hi hi hl) ?_
    rintro _ V306 ⟨P306, rfl, C306, S306, F306, f306_0, f306_1⟩
    refine ⟨by show (0 : Nat) ≠ 9; decide, (?_ : Wp 198 _ 231 12 [(1, 161), (0, (x.val : Int)), (0, (i : Int)), (0, (l : Int))] [(0, 1)] V306 _)⟩
    refine w_ne hK rfl (by omega) (by omega) (fun h12 => ?_) (fun h12 => ?_)
    · refine w_al hK rfl rfl ?_
      refine w_il hK rfl rfl ?_
      refine w_al hK rfl rfl ?_
      refine w_getr (n := 26) (v := 180) hK rfl rfl (by decide) (by decide) rfl rfl rfl rfl ?_
      refine w_call [(1, 161), (0, (x.val : Int)), (1, 180)] hK rfl rfl rfl rfl (Or.inr ⟨_, _, _, rfl, by decide, (by decide), rfl⟩) (r_scal C306 x ⟨(isR_of (p := 180) rfl), f306_0⟩) ?_
      rintro _ V307 ⟨P307, rfl, C307, S307, F307, f307_0⟩
      refine ⟨by decide, (?_ : Wp 198 _ 231 20 [(1, 161), (0, (x.val : Int)), (0, (i : Int)), (0, (l : Int))] [] V307 _)⟩
      refine w_al hK rfl rfl ?_
      refine w_al hK rfl rfl ?_
      refine w_getr (n := 26) (v := 180) hK rfl rfl (by decide) (by decide) rfl rfl rfl rfl ?_
      refine w_il hK rfl rfl ?_
      refine w_call [(1, 161), (1, 180), (0, (l : Int))] hK rfl rfl rfl rfl (Or.inr ⟨_, _, _, rfl, by decide, (by decide), rfl⟩) (r_store C307 (PM.keep hpl ((S307 167 (notR rfl)).trans ((S306 167 (notR rfl)).trans (up_row (by decide))))) ⟨(isR_of (p := 180) rfl), f307_0⟩ l hl (Bd_scl x bi_)) ?_
      rintro _ V308 ⟨rfl, C308, Q308, F308⟩
      refine ⟨(by show (0 : Nat) ≠ 9; decide), (?_ : Wp 198 _ 231 25 [(1, 161), (0, (x.val : Int)), (0, (i : Int)), (0, (l : Int))] [(0, (dg (scl x (pl i))))] V308 _)⟩
      refine w_iret hK rfl rfl ?_
      exact ⟨rfl, ⟨_, C308, Q308, (TMs.keep T ((congrFun (F308 161 (by decide)) 11).trans ((congrFun (S307 161 (notR rfl)) 11).trans ((congrFun (S306 161 (notR rfl)) 11).trans (up_ne2 (by decide))))) ((F308 168 (by decide)).trans ((S307 168 (notR rfl)).trans ((S306 168 (notR rfl)).trans (up_row (by decide)))))), (RM.keep hR ((congrFun (F308 161 (by decide)) 13).trans ((congrFun (S307 161 (notR rfl)) 13).trans ((congrFun (S306 161 (notR rfl)) 13).trans (up_ne2 (by decide))))) ((F308 169 (by decide)).trans ((S307 169 (notR rfl)).trans ((S306 169 (notR rfl)).trans (up_row (by decide)))))), (FM.keep hF ((congrFun (F308 161 (by decide)) 15).trans ((congrFun (S307 161 (notR rfl)) 15).trans ((congrFun (S306 161 (notR rfl)) 15).trans (up_ne2 (by decide))))) ((F308 189 (by decide)).trans ((S307 189 (notR rfl)).trans ((S306 189 (notR rfl)).trans (up_row (by decide))))) ((F308 190 (by decide)).trans ((S307 190 (notR rfl)).trans ((S306 190 (notR rfl)).trans (up_row (by decide))))))⟩, (fun a h_ => ((F308 a (by omega)).trans ((S307 a (npR h_)).trans ((S306 a (npR h_)).trans (up_row (by omega))))))⟩
    · exfalso; omega
set_option maxRecDepth 100000 in
theorem rn_scales {d : Nat} {M : Mem} {k : Nat} {pl : Nat → Pl k} {n : Int} {tx : Int → Int} {rc : Nat} {rw : Int → Int} {fc : Nat} {fa : Nat → Pl k} (H : RFS M k pl n tx rc rw fc fa) (x i l : Int) (x1_ : -2147483648 ≤ x) (x2_ : x ≤ 2147483647) (i1_ : -2147483648 ≤ i) (i2_ : i ≤ 2147483647) (l1_ : -2147483648 ≤ l) (l2_ : l ≤ 2147483647) (hn : ¬ ((0 ≤ i ∧ i < 6) ∧ (0 ≤ l ∧ l < 6) ∧ 0 ≤ x ∧ x < (qq k : Int))) : Ct 198 (d + 8) 231 [(1, 161), (0, x), (0, i), (0, l)] M (fun r_ M' => r_ = (0, -2) ∧ RFS M' k pl n tx rc rw fc fa ∧ (∀ a : Int, (a < 161 ∨ 197 < a) → M' a = M a)) := by
  have hK : cd 231 = k231 := rfl
  obtain ⟨R, C, hpl, T, hR, hF⟩ := H
  have q1_ := qq_I k
  have p1_ := pp_I k
  have m1_ := mm_I k
  show Wp 198 _ 231 0 [(1, 161), (0, x), (0, i), (0, l)] [] M _
  refine w_al hK rfl rfl ?_
  refine w_ic hK rfl ?_
  refine w_puti (n := 14) (m := 14) hK rfl rfl (by decide) (by decide) rfl rfl rfl rfl ?_
  refine w_al hK rfl rfl ?_
  refine w_il hK rfl rfl ?_
  refine w_call [(1, 161), (0, x)] hK rfl rfl rfl rfl (Or.inr ⟨_, _, _, rfl, by decide, (by decide), rfl⟩) (r_isnum (RS.cg C (fun j_ h1_ h2_ => up_ne2 (by omega)) (fun a_ h1_ h2_ => up_row h1_)).F x (by omega) (by omega)) ?_
  rintro _ Mq ⟨rfl, e_⟩
  subst Mq
  have nI_309 := ite01 (0 ≤ x ∧ x < (qq k : Int))
  refine ⟨by show (0 : Nat) ≠ 9; decide, (?_ : Wp 198 _ 231 6 [(1, 161), (0, x), (0, i), (0, l)] [(0, (if 0 ≤ x ∧ x < (qq k : Int) then 1 else 0))] (up M 161 14 0) _)⟩
  refine w_eq hK rfl (by omega) (by omega) (fun h6 => ?_) (fun h6 => ?_)
  · refine w_ic hK rfl ?_
    refine w_iret hK rfl rfl ?_
    exact ⟨rfl, ⟨_, (RS.cg C (fun j_ h1_ h2_ => up_ne2 (by omega)) (fun a_ h1_ h2_ => up_row h1_)), (PM.keep hpl (up_row (by decide))), (TMs.keep T (up_ne2 (by decide)) (up_row (by decide))), (RM.keep hR (up_ne2 (by decide)) (up_row (by decide))), (FM.keep hF (up_ne2 (by decide)) (up_row (by decide)) (up_row (by decide)))⟩, (fun a h_ => (up_row (by omega)))⟩
  · refine w_al hK rfl rfl ?_
    refine w_il hK rfl rfl ?_
    refine w_il hK rfl rfl ?_
    refine w_il hK rfl rfl ?_
    refine w_call [(1, 161), (0, i), (0, i), (0, l)] hK rfl rfl rfl rfl (Or.inr ⟨_, _, _, rfl, by decide, (by decide), rfl⟩) (r_loadsN i i l (by omega) (by omega) (by omega) (by omega) (by omega) (by omega) (by omega)) ?_
    rintro _ Mq ⟨rfl, e_⟩
    subst Mq
    refine ⟨by show (0 : Nat) ≠ 9; decide, (?_ : Wp 198 _ 231 12 [(1, 161), (0, x), (0, i), (0, l)] [(0, 0)] (up M 161 14 0) _)⟩
    refine w_ne hK rfl (by omega) (by omega) (fun h12 => ?_) (fun h12 => ?_)
    · exfalso; omega
    · refine w_ic hK rfl ?_
      refine w_iret hK rfl rfl ?_
      exact ⟨rfl, ⟨_, (RS.cg C (fun j_ h1_ h2_ => up_ne2 (by omega)) (fun a_ h1_ h2_ => up_row h1_)), (PM.keep hpl (up_row (by decide))), (TMs.keep T (up_ne2 (by decide)) (up_row (by decide))), (RM.keep hR (up_ne2 (by decide)) (up_row (by decide))), (FM.keep hF (up_ne2 (by decide)) (up_row (by decide)) (up_row (by decide)))⟩, (fun a h_ => (up_row (by omega)))⟩
