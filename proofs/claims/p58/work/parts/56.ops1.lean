/-! the class's calls: numbers -/
set_option maxRecDepth 100000 in
theorem o_plus {d : Nat} {M : Mem} {k : Nat} {pl : Nat → Pl k} {n : Int} {tx : Int → Int} {rc : Nat} {rw : Int → Int} {fc : Nat} {fa : Nat → Pl k} (H : CLS M k pl n tx rc rw fc fa) (x y : El k) : Ct 198 (d + 8) 125 [(1, 0), (0, (x.val : Int)), (0, (y.val : Int))] M (fun r_ M' => r_ = (0, ((ad x y).val : Int)) ∧ CLS M' k pl n tx rc rw fc fa ∧ (∀ a : Int, (a < 0 ∨ 160 < a) → M' a = M a)) := by
  have hK : cd 125 = k125 := rfl
  obtain ⟨P, u_, l_, z_, C, E, hpl, T, hR, hF⟩ := H
  have q1_ := qq_I k
  have p1_ := pp_I k
  have m1_ := mm_I k
  have lx_ := x.isLt
  have ly_ := y.isLt
  show Wp 198 _ 125 0 [(1, 0), (0, (x.val : Int)), (0, (y.val : Int))] [] M _
  refine w_al hK rfl rfl ?_
  refine w_getr (n := 0) (v := 1) hK rfl rfl (by decide) (by decide) rfl rfl rfl rfl ?_
  refine w_il hK rfl rfl ?_
  refine w_call [(1, 1), (0, (x.val : Int))] hK rfl rfl rfl rfl (Or.inr ⟨_, _, _, rfl, by decide, (by decide), rfl⟩) (c_has (by decide) C.F (x.val : Int) (by omega) (by omega)) ?_
  rintro _ Mq ⟨rfl, e_⟩
  subst Mq
  have hI_ := ite01 (0 ≤ (x.val : Int) ∧ (x.val : Int) < (qq k : Int))
  refine ⟨(by show (0 : Nat) ≠ 9; decide), (?_ : Wp 198 _ 125 4 [(1, 0), (0, (x.val : Int)), (0, (y.val : Int))] [(0, (if 0 ≤ (x.val : Int) ∧ (x.val : Int) < (qq k : Int) then 1 else 0))] M _)⟩
  refine w_eq hK rfl (by omega) (by omega) (fun h4 => ?_) (fun h4 => ?_)
  · exfalso; omega
  · refine w_al hK rfl rfl ?_
    refine w_getr (n := 0) (v := 1) hK rfl rfl (by decide) (by decide) rfl rfl rfl rfl ?_
    refine w_il hK rfl rfl ?_
    refine w_call [(1, 1), (0, (y.val : Int))] hK rfl rfl rfl rfl (Or.inr ⟨_, _, _, rfl, by decide, (by decide), rfl⟩) (c_has (by decide) C.F (y.val : Int) (by omega) (by omega)) ?_
    rintro _ Mq ⟨rfl, e_⟩
    subst Mq
    have hI_ := ite01 (0 ≤ (y.val : Int) ∧ (y.val : Int) < (qq k : Int))
    refine ⟨(by show (0 : Nat) ≠ 9; decide), (?_ : Wp 198 _ 125 9 [(1, 0), (0, (x.val : Int)), (0, (y.val : Int))] [(0, (if 0 ≤ (y.val : Int) ∧ (y.val : Int) < (qq k : Int) then 1 else 0))] M _)⟩
    refine w_eq hK rfl (by omega) (by omega) (fun h9 => ?_) (fun h9 => ?_)
    · exfalso; omega
    · refine w_al hK rfl rfl ?_
      refine w_getr (n := 0) (v := 1) hK rfl rfl (by decide) (by decide) rfl rfl rfl rfl ?_
      refine w_il hK rfl rfl ?_
      refine w_il hK rfl rfl ?_
      refine w_call [(1, 1), (0, (x.val : Int)), (0, (y.val : Int))] hK rfl rfl rfl rfl (Or.inr ⟨_, _, _, rfl, by decide, (by decide), rfl⟩) (c_sum (by decide) C.F x y ) ?_
      rintro _ Mq ⟨rfl, e_⟩
      subst Mq
      have bv_ := el_I (ad x y)
      refine ⟨by show (0 : Nat) ≠ 9; decide, (?_ : Wp 198 _ 125 15 [(1, 0), (0, (x.val : Int)), (0, (y.val : Int))] [(0, ((ad x y).val : Int))] M _)⟩
      refine w_goto hK rfl ?_
      refine w_iret hK rfl rfl ?_
      exact ⟨rfl, ⟨_, u_, l_, z_, C, E, hpl, T, hR, hF⟩, (fun a h_ => rfl)⟩
set_option maxRecDepth 100000 in
theorem n_plus {d : Nat} {M : Mem} {k : Nat} {pl : Nat → Pl k} {n : Int} {tx : Int → Int} {rc : Nat} {rw : Int → Int} {fc : Nat} {fa : Nat → Pl k} (H : CLS M k pl n tx rc rw fc fa) (a b : Int) (a1_ : -2147483648 ≤ a) (a2_ : a ≤ 2147483647) (b1_ : -2147483648 ≤ b) (b2_ : b ≤ 2147483647) (hn : ¬ ((0 ≤ a ∧ a < (qq k : Int)) ∧ 0 ≤ b ∧ b < (qq k : Int))) : Ct 198 (d + 8) 125 [(1, 0), (0, a), (0, b)] M (fun r_ M' => r_ = (0, -1) ∧ M' = M) := by
  have hK : cd 125 = k125 := rfl
  obtain ⟨P, u_, l_, z_, C, E, hpl, T, hR, hF⟩ := H
  have q1_ := qq_I k
  have p1_ := pp_I k
  have m1_ := mm_I k
  show Wp 198 _ 125 0 [(1, 0), (0, a), (0, b)] [] M _
  refine w_al hK rfl rfl ?_
  refine w_getr (n := 0) (v := 1) hK rfl rfl (by decide) (by decide) rfl rfl rfl rfl ?_
  refine w_il hK rfl rfl ?_
  refine w_call [(1, 1), (0, a)] hK rfl rfl rfl rfl (Or.inr ⟨_, _, _, rfl, by decide, (by decide), rfl⟩) (c_has (by decide) C.F a (by omega) (by omega)) ?_
  rintro _ Mq ⟨rfl, e_⟩
  subst Mq
  have hI_ := ite01 (0 ≤ a ∧ a < (qq k : Int))
  refine ⟨(by show (0 : Nat) ≠ 9; decide), (?_ : Wp 198 _ 125 4 [(1, 0), (0, a), (0, b)] [(0, (if 0 ≤ a ∧ a < (qq k : Int) then 1 else 0))] M _)⟩
  refine w_eq hK rfl (by omega) (by omega) (fun h4 => ?_) (fun h4 => ?_)
  · refine w_ic hK rfl ?_
    refine w_iret hK rfl rfl ?_
    exact ⟨rfl, rfl⟩
  · refine w_al hK rfl rfl ?_
    refine w_getr (n := 0) (v := 1) hK rfl rfl (by decide) (by decide) rfl rfl rfl rfl ?_
    refine w_il hK rfl rfl ?_
    refine w_call [(1, 1), (0, b)] hK rfl rfl rfl rfl (Or.inr ⟨_, _, _, rfl, by decide, (by decide), rfl⟩) (c_has (by decide) C.F b (by omega) (by omega)) ?_
    rintro _ Mq ⟨rfl, e_⟩
    subst Mq
    have hI_ := ite01 (0 ≤ b ∧ b < (qq k : Int))
    refine ⟨(by show (0 : Nat) ≠ 9; decide), (?_ : Wp 198 _ 125 9 [(1, 0), (0, a), (0, b)] [(0, (if 0 ≤ b ∧ b < (qq k : Int) then 1 else 0))] M _)⟩
    refine w_eq hK rfl (by omega) (by omega) (fun h9 => ?_) (fun h9 => ?_)
    · refine w_ic hK rfl ?_
      refine w_iret hK rfl rfl ?_
      exact ⟨rfl, rfl⟩
    · exfalso; omega
set_option maxRecDepth 100000 in
theorem o_times {d : Nat} {M : Mem} {k : Nat} {pl : Nat → Pl k} {n : Int} {tx : Int → Int} {rc : Nat} {rw : Int → Int} {fc : Nat} {fa : Nat → Pl k} (H : CLS M k pl n tx rc rw fc fa) (x y : El k) : Ct 198 (d + 8) 126 [(1, 0), (0, (x.val : Int)), (0, (y.val : Int))] M (fun r_ M' => r_ = (0, ((ml x y).val : Int)) ∧ CLS M' k pl n tx rc rw fc fa ∧ (∀ a : Int, (a < 0 ∨ 160 < a) → M' a = M a)) := by
  have hK : cd 126 = k126 := rfl
  obtain ⟨P, u_, l_, z_, C, E, hpl, T, hR, hF⟩ := H
  have q1_ := qq_I k
  have p1_ := pp_I k
  have m1_ := mm_I k
  have lx_ := x.isLt
  have ly_ := y.isLt
  show Wp 198 _ 126 0 [(1, 0), (0, (x.val : Int)), (0, (y.val : Int))] [] M _
  refine w_al hK rfl rfl ?_
  refine w_getr (n := 0) (v := 1) hK rfl rfl (by decide) (by decide) rfl rfl rfl rfl ?_
  refine w_il hK rfl rfl ?_
  refine w_call [(1, 1), (0, (x.val : Int))] hK rfl rfl rfl rfl (Or.inr ⟨_, _, _, rfl, by decide, (by decide), rfl⟩) (c_has (by decide) C.F (x.val : Int) (by omega) (by omega)) ?_
  rintro _ Mq ⟨rfl, e_⟩
  subst Mq
  have hI_ := ite01 (0 ≤ (x.val : Int) ∧ (x.val : Int) < (qq k : Int))
  refine ⟨(by show (0 : Nat) ≠ 9; decide), (?_ : Wp 198 _ 126 4 [(1, 0), (0, (x.val : Int)), (0, (y.val : Int))] [(0, (if 0 ≤ (x.val : Int) ∧ (x.val : Int) < (qq k : Int) then 1 else 0))] M _)⟩
  refine w_eq hK rfl (by omega) (by omega) (fun h4 => ?_) (fun h4 => ?_)
  · exfalso; omega
  · refine w_al hK rfl rfl ?_
    refine w_getr (n := 0) (v := 1) hK rfl rfl (by decide) (by decide) rfl rfl rfl rfl ?_
    refine w_il hK rfl rfl ?_
    refine w_call [(1, 1), (0, (y.val : Int))] hK rfl rfl rfl rfl (Or.inr ⟨_, _, _, rfl, by decide, (by decide), rfl⟩) (c_has (by decide) C.F (y.val : Int) (by omega) (by omega)) ?_
    rintro _ Mq ⟨rfl, e_⟩
    subst Mq
    have hI_ := ite01 (0 ≤ (y.val : Int) ∧ (y.val : Int) < (qq k : Int))
    refine ⟨(by show (0 : Nat) ≠ 9; decide), (?_ : Wp 198 _ 126 9 [(1, 0), (0, (x.val : Int)), (0, (y.val : Int))] [(0, (if 0 ≤ (y.val : Int) ∧ (y.val : Int) < (qq k : Int) then 1 else 0))] M _)⟩
    refine w_eq hK rfl (by omega) (by omega) (fun h9 => ?_) (fun h9 => ?_)
    · exfalso; omega
    · refine w_al hK rfl rfl ?_
      refine w_getr (n := 0) (v := 1) hK rfl rfl (by decide) (by decide) rfl rfl rfl rfl ?_
      refine w_il hK rfl rfl ?_
      refine w_il hK rfl rfl ?_
      refine w_call [(1, 1), (0, (x.val : Int)), (0, (y.val : Int))] hK rfl rfl rfl rfl (Or.inr ⟨_, _, _, rfl, by decide, (by decide), rfl⟩) (c_prod (by decide) C.F x y ) ?_
      rintro _ Mq ⟨rfl, e_⟩
      subst Mq
      have bv_ := el_I (ml x y)
      refine ⟨by show (0 : Nat) ≠ 9; decide, (?_ : Wp 198 _ 126 15 [(1, 0), (0, (x.val : Int)), (0, (y.val : Int))] [(0, ((ml x y).val : Int))] M _)⟩
      refine w_goto hK rfl ?_
      refine w_iret hK rfl rfl ?_
      exact ⟨rfl, ⟨_, u_, l_, z_, C, E, hpl, T, hR, hF⟩, (fun a h_ => rfl)⟩
set_option maxRecDepth 100000 in
theorem n_times {d : Nat} {M : Mem} {k : Nat} {pl : Nat → Pl k} {n : Int} {tx : Int → Int} {rc : Nat} {rw : Int → Int} {fc : Nat} {fa : Nat → Pl k} (H : CLS M k pl n tx rc rw fc fa) (a b : Int) (a1_ : -2147483648 ≤ a) (a2_ : a ≤ 2147483647) (b1_ : -2147483648 ≤ b) (b2_ : b ≤ 2147483647) (hn : ¬ ((0 ≤ a ∧ a < (qq k : Int)) ∧ 0 ≤ b ∧ b < (qq k : Int))) : Ct 198 (d + 8) 126 [(1, 0), (0, a), (0, b)] M (fun r_ M' => r_ = (0, -1) ∧ M' = M) := by
  have hK : cd 126 = k126 := rfl
  obtain ⟨P, u_, l_, z_, C, E, hpl, T, hR, hF⟩ := H
  have q1_ := qq_I k
  have p1_ := pp_I k
  have m1_ := mm_I k
  show Wp 198 _ 126 0 [(1, 0), (0, a), (0, b)] [] M _
  refine w_al hK rfl rfl ?_
  refine w_getr (n := 0) (v := 1) hK rfl rfl (by decide) (by decide) rfl rfl rfl rfl ?_
  refine w_il hK rfl rfl ?_
  refine w_call [(1, 1), (0, a)] hK rfl rfl rfl rfl (Or.inr ⟨_, _, _, rfl, by decide, (by decide), rfl⟩) (c_has (by decide) C.F a (by omega) (by omega)) ?_
  rintro _ Mq ⟨rfl, e_⟩
  subst Mq
  have hI_ := ite01 (0 ≤ a ∧ a < (qq k : Int))
  refine ⟨(by show (0 : Nat) ≠ 9; decide), (?_ : Wp 198 _ 126 4 [(1, 0), (0, a), (0, b)] [(0, (if 0 ≤ a ∧ a < (qq k : Int) then 1 else 0))] M _)⟩
  refine w_eq hK rfl (by omega) (by omega) (fun h4 => ?_) (fun h4 => ?_)
  · refine w_ic hK rfl ?_
    refine w_iret hK rfl rfl ?_
    exact ⟨rfl, rfl⟩
  · refine w_al hK rfl rfl ?_
    refine w_getr (n := 0) (v := 1) hK rfl rfl (by decide) (by decide) rfl rfl rfl rfl ?_
    refine w_il hK rfl rfl ?_
    refine w_call [(1, 1), (0, b)] hK rfl rfl rfl rfl (Or.inr ⟨_, _, _, rfl, by decide, (by decide), rfl⟩) (c_has (by decide) C.F b (by omega) (by omega)) ?_
    rintro _ Mq ⟨rfl, e_⟩
    subst Mq
    have hI_ := ite01 (0 ≤ b ∧ b < (qq k : Int))
    refine ⟨(by show (0 : Nat) ≠ 9; decide), (?_ : Wp 198 _ 126 9 [(1, 0), (0, a), (0, b)] [(0, (if 0 ≤ b ∧ b < (qq k : Int) then 1 else 0))] M _)⟩
    refine w_eq hK rfl (by omega) (by omega) (fun h9 => ?_) (fun h9 => ?_)
    · refine w_ic hK rfl ?_
      refine w_iret hK rfl rfl ?_
      exact ⟨rfl, rfl⟩
    · exfalso; omega
set_option maxRecDepth 100000 in
theorem o_inverse {d : Nat} {M : Mem} {k : Nat} {pl : Nat → Pl k} {n : Int} {tx : Int → Int} {rc : Nat} {rw : Int → Int} {fc : Nat} {fa : Nat → Pl k} (H : CLS M k pl n tx rc rw fc fa) (x : El k) : Ct 198 (d + 8) 127 [(1, 0), (0, (x.val : Int))] M (fun r_ M' => r_ = (0, (if x = z0 then -2 else ((iv x).val : Int))) ∧ CLS M' k pl n tx rc rw fc fa ∧ (∀ a : Int, (a < 0 ∨ 160 < a) → M' a = M a)) := by
  have hK : cd 127 = k127 := rfl
  obtain ⟨P, u_, l_, z_, C, E, hpl, T, hR, hF⟩ := H
  have q1_ := qq_I k
  have p1_ := pp_I k
  have m1_ := mm_I k
  have lx_ := x.isLt
  show Wp 198 _ 127 0 [(1, 0), (0, (x.val : Int))] [] M _
  refine w_al hK rfl rfl ?_
  refine w_getr (n := 0) (v := 1) hK rfl rfl (by decide) (by decide) rfl rfl rfl rfl ?_
  refine w_il hK rfl rfl ?_
  refine w_call [(1, 1), (0, (x.val : Int))] hK rfl rfl rfl rfl (Or.inr ⟨_, _, _, rfl, by decide, (by decide), rfl⟩) (c_has (by decide) C.F (x.val : Int) (by omega) (by omega)) ?_
  rintro _ Mq ⟨rfl, e_⟩
  subst Mq
  have hI_ := ite01 (0 ≤ (x.val : Int) ∧ (x.val : Int) < (qq k : Int))
  refine ⟨(by show (0 : Nat) ≠ 9; decide), (?_ : Wp 198 _ 127 4 [(1, 0), (0, (x.val : Int))] [(0, (if 0 ≤ (x.val : Int) ∧ (x.val : Int) < (qq k : Int) then 1 else 0))] M _)⟩
  refine w_ne hK rfl (by omega) (by omega) (fun h4 => ?_) (fun h4 => ?_)
  · refine w_il hK rfl rfl ?_
    refine w_ne hK rfl (by omega) (by omega) (fun h8 => ?_) (fun h8 => ?_)
    · refine w_al hK rfl rfl ?_
      refine w_getr (n := 0) (v := 1) hK rfl rfl (by decide) (by decide) rfl rfl rfl rfl ?_
      refine w_il hK rfl rfl ?_
      refine w_call [(1, 1), (0, (x.val : Int))] hK rfl rfl rfl rfl (Or.inr ⟨_, _, _, rfl, by decide, (by decide), rfl⟩) (c_inv (by decide) C.F x ) ?_
      rintro _ Mq ⟨rfl, e_⟩
      subst Mq
      have bv_ := el_I (iv x)
      refine ⟨by show (0 : Nat) ≠ 9; decide, (?_ : Wp 198 _ 127 15 [(1, 0), (0, (x.val : Int))] [(0, ((iv x).val : Int))] M _)⟩
      refine w_iret hK rfl rfl ?_
      exact ⟨(congrArg (Prod.mk 0) (by rw [if_neg (fun q => by have := z0_iff.mp q; omega)])), ⟨_, u_, l_, z_, C, E, hpl, T, hR, hF⟩, (fun a h_ => rfl)⟩
    · refine w_ic hK rfl ?_
      refine w_goto hK rfl ?_
      refine w_iret hK rfl rfl ?_
      exact ⟨(congrArg (Prod.mk 0) (by rw [if_pos (z0_iff.mpr (by omega))])), ⟨_, u_, l_, z_, C, E, hpl, T, hR, hF⟩, (fun a h_ => rfl)⟩
  · exfalso; omega
set_option maxRecDepth 100000 in
theorem n_inverse {d : Nat} {M : Mem} {k : Nat} {pl : Nat → Pl k} {n : Int} {tx : Int → Int} {rc : Nat} {rw : Int → Int} {fc : Nat} {fa : Nat → Pl k} (H : CLS M k pl n tx rc rw fc fa) (a : Int) (a1_ : -2147483648 ≤ a) (a2_ : a ≤ 2147483647) (hn : ¬ (0 ≤ a ∧ a < (qq k : Int))) : Ct 198 (d + 8) 127 [(1, 0), (0, a)] M (fun r_ M' => r_ = (0, -1) ∧ M' = M) := by
  have hK : cd 127 = k127 := rfl
  obtain ⟨P, u_, l_, z_, C, E, hpl, T, hR, hF⟩ := H
  have q1_ := qq_I k
  have p1_ := pp_I k
  have m1_ := mm_I k
  show Wp 198 _ 127 0 [(1, 0), (0, a)] [] M _
  refine w_al hK rfl rfl ?_
  refine w_getr (n := 0) (v := 1) hK rfl rfl (by decide) (by decide) rfl rfl rfl rfl ?_
  refine w_il hK rfl rfl ?_
  refine w_call [(1, 1), (0, a)] hK rfl rfl rfl rfl (Or.inr ⟨_, _, _, rfl, by decide, (by decide), rfl⟩) (c_has (by decide) C.F a (by omega) (by omega)) ?_
  rintro _ Mq ⟨rfl, e_⟩
  subst Mq
  have hI_ := ite01 (0 ≤ a ∧ a < (qq k : Int))
  refine ⟨(by show (0 : Nat) ≠ 9; decide), (?_ : Wp 198 _ 127 4 [(1, 0), (0, a)] [(0, (if 0 ≤ a ∧ a < (qq k : Int) then 1 else 0))] M _)⟩
  refine w_ne hK rfl (by omega) (by omega) (fun h4 => ?_) (fun h4 => ?_)
  · exfalso; omega
  · refine w_ic hK rfl ?_
    refine w_iret hK rfl rfl ?_
    exact ⟨rfl, rfl⟩
set_option maxRecDepth 100000 in
theorem o_map {d : Nat} {M : Mem} {k : Nat} {pl : Nat → Pl k} {n : Int} {tx : Int → Int} {rc : Nat} {rw : Int → Int} {fc : Nat} {fa : Nat → Pl k} (H : CLS M k pl n tx rc rw fc fa) (x : El k) (j : Int) (j1 : -8 ≤ j) (j2 : j ≤ 8) : Ct 198 (d + 8) 128 [(1, 0), (0, (x.val : Int)), (0, j)] M (fun r_ M' => r_ = (0, ((sgI j x).val : Int)) ∧ CLS M' k pl n tx rc rw fc fa ∧ (∀ a : Int, (a < 0 ∨ 160 < a) → M' a = M a)) := by
  have hK : cd 128 = k128 := rfl
  obtain ⟨P, u_, l_, z_, C, E, hpl, T, hR, hF⟩ := H
  have q1_ := qq_I k
  have p1_ := pp_I k
  have m1_ := mm_I k
  have lx_ := x.isLt
  show Wp 198 _ 128 0 [(1, 0), (0, (x.val : Int)), (0, j)] [] M _
  refine w_al hK rfl rfl ?_
  refine w_getr (n := 0) (v := 1) hK rfl rfl (by decide) (by decide) rfl rfl rfl rfl ?_
  refine w_il hK rfl rfl ?_
  refine w_call [(1, 1), (0, (x.val : Int))] hK rfl rfl rfl rfl (Or.inr ⟨_, _, _, rfl, by decide, (by decide), rfl⟩) (c_has (by decide) C.F (x.val : Int) (by omega) (by omega)) ?_
  rintro _ Mq ⟨rfl, e_⟩
  subst Mq
  have hI_ := ite01 (0 ≤ (x.val : Int) ∧ (x.val : Int) < (qq k : Int))
  refine ⟨(by show (0 : Nat) ≠ 9; decide), (?_ : Wp 198 _ 128 4 [(1, 0), (0, (x.val : Int)), (0, j)] [(0, (if 0 ≤ (x.val : Int) ∧ (x.val : Int) < (qq k : Int) then 1 else 0))] M _)⟩
  refine w_eq hK rfl (by omega) (by omega) (fun h4 => ?_) (fun h4 => ?_)
  · exfalso; omega
  · refine w_il hK rfl rfl ?_
    refine w_call [(0, j)] hK rfl rfl rfl rfl (Or.inl rfl) (c_turns j (by omega) (by omega)) ?_
    rintro _ Mq ⟨rfl, e_⟩
    subst Mq
    refine ⟨by show (0 : Nat) ≠ 9; decide, (?_ : Wp 198 _ 128 7 [(1, 0), (0, (x.val : Int)), (0, j)] [(0, (if -8 ≤ j ∧ j ≤ 8 then 1 else 0))] M _)⟩
    have tI_ := ite01 (-8 ≤ j ∧ j ≤ 8)
    refine w_eq hK rfl (by omega) (by omega) (fun h7 => ?_) (fun h7 => ?_)
    · exfalso; omega
    · refine w_al hK rfl rfl ?_
      refine w_getr (n := 0) (v := 1) hK rfl rfl (by decide) (by decide) rfl rfl rfl rfl ?_
      refine w_il hK rfl rfl ?_
      refine w_il hK rfl rfl ?_
      refine w_call [(1, 1), (0, (x.val : Int)), (0, j)] hK rfl rfl rfl rfl (Or.inr ⟨_, _, _, rfl, by decide, (by decide), rfl⟩) (c_image (by decide) C.F x j (by omega) (by omega)) ?_
      rintro _ Mq ⟨rfl, e_⟩
      subst Mq
      have bv_ := el_I (sgI j x)
      refine ⟨by show (0 : Nat) ≠ 9; decide, (?_ : Wp 198 _ 128 13 [(1, 0), (0, (x.val : Int)), (0, j)] [(0, ((sgI j x).val : Int))] M _)⟩
      refine w_goto hK rfl ?_
      refine w_iret hK rfl rfl ?_
      exact ⟨rfl, ⟨_, u_, l_, z_, C, E, hpl, T, hR, hF⟩, (fun a h_ => rfl)⟩
set_option maxRecDepth 100000 in
theorem n_map {d : Nat} {M : Mem} {k : Nat} {pl : Nat → Pl k} {n : Int} {tx : Int → Int} {rc : Nat} {rw : Int → Int} {fc : Nat} {fa : Nat → Pl k} (H : CLS M k pl n tx rc rw fc fa) (a j : Int) (a1_ : -2147483648 ≤ a) (a2_ : a ≤ 2147483647) (j1_ : -2147483648 ≤ j) (j2_ : j ≤ 2147483647) (hn : ¬ ((0 ≤ a ∧ a < (qq k : Int)) ∧ -8 ≤ j ∧ j ≤ 8)) : Ct 198 (d + 8) 128 [(1, 0), (0, a), (0, j)] M (fun r_ M' => r_ = (0, -1) ∧ M' = M) := by
  have hK : cd 128 = k128 := rfl
  obtain ⟨P, u_, l_, z_, C, E, hpl, T, hR, hF⟩ := H
  have q1_ := qq_I k
  have p1_ := pp_I k
  have m1_ := mm_I k
  show Wp 198 _ 128 0 [(1, 0), (0, a), (0, j)] [] M _
  refine w_al hK rfl rfl ?_
  refine w_getr (n := 0) (v := 1) hK rfl rfl (by decide) (by decide) rfl rfl rfl rfl ?_
  refine w_il hK rfl rfl ?_
  refine w_call [(1, 1), (0, a)] hK rfl rfl rfl rfl (Or.inr ⟨_, _, _, rfl, by decide, (by decide), rfl⟩) (c_has (by decide) C.F a (by omega) (by omega)) ?_
  rintro _ Mq ⟨rfl, e_⟩
  subst Mq
  have hI_ := ite01 (0 ≤ a ∧ a < (qq k : Int))
  refine ⟨(by show (0 : Nat) ≠ 9; decide), (?_ : Wp 198 _ 128 4 [(1, 0), (0, a), (0, j)] [(0, (if 0 ≤ a ∧ a < (qq k : Int) then 1 else 0))] M _)⟩
  refine w_eq hK rfl (by omega) (by omega) (fun h4 => ?_) (fun h4 => ?_)
  · refine w_ic hK rfl ?_
    refine w_iret hK rfl rfl ?_
    exact ⟨rfl, rfl⟩
  · refine w_il hK rfl rfl ?_
    refine w_call [(0, j)] hK rfl rfl rfl rfl (Or.inl rfl) (c_turns j (by omega) (by omega)) ?_
    rintro _ Mq ⟨rfl, e_⟩
    subst Mq
    refine ⟨by show (0 : Nat) ≠ 9; decide, (?_ : Wp 198 _ 128 7 [(1, 0), (0, a), (0, j)] [(0, (if -8 ≤ j ∧ j ≤ 8 then 1 else 0))] M _)⟩
    have tI_ := ite01 (-8 ≤ j ∧ j ≤ 8)
    refine w_eq hK rfl (by omega) (by omega) (fun h7 => ?_) (fun h7 => ?_)
    · refine w_ic hK rfl ?_
      refine w_iret hK rfl rfl ?_
      exact ⟨rfl, rfl⟩
    · exfalso; omega
set_option maxRecDepth 100000 in
theorem o_norm {d : Nat} {M : Mem} {k : Nat} {pl : Nat → Pl k} {n : Int} {tx : Int → Int} {rc : Nat} {rw : Int → Int} {fc : Nat} {fa : Nat → Pl k} (H : CLS M k pl n tx rc rw fc fa) (x : El k) (j : Nat) (j8 : j ≤ 8) : Ct 198 (d + 8) 130 [(1, 0), (0, (x.val : Int)), (0, (j : Int))] M (fun r_ M' => r_ = (0, ((chn x j).val : Int)) ∧ CLS M' k pl n tx rc rw fc fa ∧ (∀ a : Int, (a < 0 ∨ 160 < a) → M' a = M a)) := by
  have hK : cd 130 = k130 := rfl
  obtain ⟨P, u_, l_, z_, C, E, hpl, T, hR, hF⟩ := H
  have q1_ := qq_I k
  have p1_ := pp_I k
  have m1_ := mm_I k
  have lx_ := x.isLt
  show Wp 198 _ 130 0 [(1, 0), (0, (x.val : Int)), (0, (j : Int))] [] M _
  refine w_al hK rfl rfl ?_
  refine w_getr (n := 0) (v := 1) hK rfl rfl (by decide) (by decide) rfl rfl rfl rfl ?_
  refine w_il hK rfl rfl ?_
  refine w_call [(1, 1), (0, (x.val : Int))] hK rfl rfl rfl rfl (Or.inr ⟨_, _, _, rfl, by decide, (by decide), rfl⟩) (c_has (by decide) C.F (x.val : Int) (by omega) (by omega)) ?_
  rintro _ Mq ⟨rfl, e_⟩
  subst Mq
  have hI_ := ite01 (0 ≤ (x.val : Int) ∧ (x.val : Int) < (qq k : Int))
  refine ⟨(by show (0 : Nat) ≠ 9; decide), (?_ : Wp 198 _ 130 4 [(1, 0), (0, (x.val : Int)), (0, (j : Int))] [(0, (if 0 ≤ (x.val : Int) ∧ (x.val : Int) < (qq k : Int) then 1 else 0))] M _)⟩
  refine w_eq hK rfl (by omega) (by omega) (fun h4 => ?_) (fun h4 => ?_)
  · exfalso; omega
  · refine w_il hK rfl rfl ?_
    refine w_lt hK rfl (by omega) (by omega) (fun h6 => ?_) (fun h6 => ?_)
    · exfalso; omega
    · refine w_il hK rfl rfl ?_
      refine w_ic hK rfl ?_
      refine w_gt2 hK rfl (by omega) (by omega) (by omega) (by omega) (fun h9 => ?_) (fun h9 => ?_)
      · exfalso; omega
      · refine w_al hK rfl rfl ?_
        refine w_getr (n := 0) (v := 1) hK rfl rfl (by decide) (by decide) rfl rfl rfl rfl ?_
        refine w_il hK rfl rfl ?_
        refine w_il hK rfl rfl ?_
        refine w_call [(1, 1), (0, (x.val : Int)), (0, (j : Int))] hK rfl rfl rfl rfl (Or.inr ⟨_, _, _, rfl, by decide, (by decide), rfl⟩) (c_chain (by decide) C.F x j (by omega)) ?_
        rintro _ Mq ⟨rfl, e_⟩
        subst Mq
        have bv_ := el_I (chn x j)
        refine ⟨by show (0 : Nat) ≠ 9; decide, (?_ : Wp 198 _ 130 15 [(1, 0), (0, (x.val : Int)), (0, (j : Int))] [(0, ((chn x j).val : Int))] M _)⟩
        refine w_goto hK rfl ?_
        refine w_iret hK rfl rfl ?_
        exact ⟨rfl, ⟨_, u_, l_, z_, C, E, hpl, T, hR, hF⟩, (fun a h_ => rfl)⟩
set_option maxRecDepth 100000 in
theorem n_norm {d : Nat} {M : Mem} {k : Nat} {pl : Nat → Pl k} {n : Int} {tx : Int → Int} {rc : Nat} {rw : Int → Int} {fc : Nat} {fa : Nat → Pl k} (H : CLS M k pl n tx rc rw fc fa) (a j : Int) (a1_ : -2147483648 ≤ a) (a2_ : a ≤ 2147483647) (j1_ : -2147483648 ≤ j) (j2_ : j ≤ 2147483647) (hn : ¬ ((0 ≤ a ∧ a < (qq k : Int)) ∧ 0 ≤ j ∧ j ≤ 8)) : Ct 198 (d + 8) 130 [(1, 0), (0, a), (0, j)] M (fun r_ M' => r_ = (0, -1) ∧ M' = M) := by
  have hK : cd 130 = k130 := rfl
  obtain ⟨P, u_, l_, z_, C, E, hpl, T, hR, hF⟩ := H
  have q1_ := qq_I k
  have p1_ := pp_I k
  have m1_ := mm_I k
  show Wp 198 _ 130 0 [(1, 0), (0, a), (0, j)] [] M _
  refine w_al hK rfl rfl ?_
  refine w_getr (n := 0) (v := 1) hK rfl rfl (by decide) (by decide) rfl rfl rfl rfl ?_
  refine w_il hK rfl rfl ?_
  refine w_call [(1, 1), (0, a)] hK rfl rfl rfl rfl (Or.inr ⟨_, _, _, rfl, by decide, (by decide), rfl⟩) (c_has (by decide) C.F a (by omega) (by omega)) ?_
  rintro _ Mq ⟨rfl, e_⟩
  subst Mq
  have hI_ := ite01 (0 ≤ a ∧ a < (qq k : Int))
  refine ⟨(by show (0 : Nat) ≠ 9; decide), (?_ : Wp 198 _ 130 4 [(1, 0), (0, a), (0, j)] [(0, (if 0 ≤ a ∧ a < (qq k : Int) then 1 else 0))] M _)⟩
  refine w_eq hK rfl (by omega) (by omega) (fun h4 => ?_) (fun h4 => ?_)
  · refine w_ic hK rfl ?_
    refine w_iret hK rfl rfl ?_
    exact ⟨rfl, rfl⟩
  · refine w_il hK rfl rfl ?_
    refine w_lt hK rfl (by omega) (by omega) (fun h6 => ?_) (fun h6 => ?_)
    · refine w_ic hK rfl ?_
      refine w_iret hK rfl rfl ?_
      exact ⟨rfl, rfl⟩
    · refine w_il hK rfl rfl ?_
      refine w_ic hK rfl ?_
      refine w_gt2 hK rfl (by omega) (by omega) (by omega) (by omega) (fun h9 => ?_) (fun h9 => ?_)
      · refine w_ic hK rfl ?_
        refine w_iret hK rfl rfl ?_
        exact ⟨rfl, rfl⟩
      · exfalso; omega
