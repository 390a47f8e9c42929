/-! the reference: numbers' polynomials, the searches' helpers */ -/
def unq (k s : Nat) : Nat := qq k ^ s
theorem unq_mul (k s : Nat) : (unq k s : Int) * (qq k : Int) = (unq k (s + 1) : Int) := by unfold unq; rw [Nat.pow_succ, Int.natCast_mul]
theorem unq_4 {k s : Nat} (h : s ≤ 4) : unq k s ≤ 65536 ∧ 1 ≤ unq k s := by
  have h1 := qq_I k
  have h2 : qq k ^ s ≤ 16 ^ s := Nat.pow_le_pow_left (by omega) s
  have h3 : 16 ^ s ≤ 16 ^ 4 := Nat.pow_le_pow_right (by decide) h
  have h4 : 0 < qq k ^ s := Nat.pow_pos (by omega)
  unfold unq
  omega
/-- below degree n, of number c -/
def bnp {k : Nat} (n c : Nat) : Pl k := fun j => if j < n then el k (dgn (qq k) c j) else z0
/-- the monic one of degree n, of number c -/
def mnp {k : Nat} (n c : Nat) : Pl k := up1 (bnp n c) n e1
theorem bnp_0 {k c : Nat} : bnp (k := k) 0 c = pz := by funext j; exact if_neg (by omega)
theorem bnp_up {k n c : Nat} : up1 (bnp (k := k) n c) n (el k (dgn (qq k) c n)) = bnp n.succ c := by
  funext j
  unfold up1 bnp
  by_cases e : j = n
  · rw [if_pos e, if_pos (by omega), e]
  · rw [if_neg e]
    by_cases h : j < n
    · rw [if_pos h, if_pos (by omega)]
    · rw [if_neg h, if_neg (by omega)]
theorem bnp_bd {k n c : Nat} : Bd (bnp (k := k) n c) n := fun j hj => if_neg (by omega)
theorem mnp_bd {k n c : Nat} : Bd (mnp (k := k) n c) (n + 1) := fun j hj => by
  unfold mnp up1
  rw [if_neg (by omega)]
  exact bnp_bd j (by omega)
theorem mnp_is {k n c : Nat} : IsDg (mnp (k := k) n c) (n : Int) := ⟨by omega, fun j hj => mnp_bd j (by omega), fun _ => by
  show (if ((n : Int)).toNat = n then e1 else _) ≠ z0
  rw [if_pos (by omega)]
  exact e1_ne⟩
theorem mnp_dg {k n c : Nat} (h : n ≤ 60) : dg (mnp (k := k) n c) = (n : Int) := dg_eq (mnp_bd.mono (by omega)) mnp_is
theorem bnp_dg {k n c : Nat} (h : n ≤ 60) : dg (bnp (k := k) n c) < (n : Int) ∧ -1 ≤ dg (bnp (k := k) n c) := by
  by_cases q : n = 0
  · subst q; rw [bnp_0, dg_pz]; omega
  · exact ⟨dg_lt (bnp_bd.mono (show n ≤ n by omega)) (by omega), dg_ge _⟩
theorem cnp_is {k n c : Nat} : IsDg (cnp (k := k) n c) ((n * mm k : Nat) : Int) := ⟨by omega, fun j hj => cnp_bd j (by omega), fun _ => by
  show (if (((n * mm k : Nat) : Int)).toNat = n * mm k then e1 else _) ≠ z0
  rw [if_pos (by omega)]
  exact e1_ne⟩
theorem dgq_lt (k n r : Nat) : dgn (qq k) n r < qq k := Nat.mod_lt _ (by have := qq_ge k; omega)
set_option maxRecDepth 100000 in
theorem r_count {d : Nat} {M : Mem} {k : Nat} (F : RF M k) (j : Nat) (j4 : j ≤ 4) : Ct 198 (d) 278 [(1, 161), (0, (j : Int))] M (fun r M' => r = (0, (unq k j : Int)) ∧ M' = M) := by
  have hK : cd 278 = k278 := rfl
  have q1_ := qq_I k
  have p1_ := pp_I k
  have m1_ := mm_I k
  show Wp 198 _ 278 0 [(1, 161), (0, (j : Int)), (3, 0), (3, 0)] [] M _
  refine w_ic hK rfl ?_
  refine w_is [(1, 161), (0, (j : Int)), (0, 1), (3, 0)] hK rfl rfl rfl ?_
  refine w_ic hK rfl ?_
  refine w_is [(1, 161), (0, (j : Int)), (0, 1), (0, 0)] hK rfl rfl rfl ?_
  have lp4 : ∀ (n_ : Nat) (i : Nat), 5 - i = n_ → (i ≤ j) → Wp 198 (d) 278 4 [(1, 161), (0, (j : Int)), (0, (unq k i : Int)), (0, (i : Int))] [] M (fun r M' => r = (0, (unq k j : Int)) ∧ M' = M) := by
    intro n_
    induction n_ using Nat.strongRecOn with
    | _ n_ ih4 =>
    intro i  hm4 hi
    have u1_ := unq_4 (k := k) (s := i) (by omega)
    have u2_ := unq_mul k i
    have u3_ : i < j → unq k (i + 1) ≤ 65536 := fun q => (unq_4 (by omega)).1
    refine w_il hK rfl rfl ?_
    refine w_il hK rfl rfl ?_
    refine w_ge2 hK rfl (by omega) (by omega) (by omega) (by omega) (fun h6 => ?_) (fun h6 => ?_)
    · refine w_il hK rfl rfl ?_
      refine w_iret hK rfl rfl ?_
      have e : i = j := by omega
      subst e
      exact ⟨rfl, rfl⟩
    · refine w_il hK rfl rfl ?_
      have u4_ := u3_ (by omega)
      refine w_al hK rfl rfl ?_
      refine w_geti (n := 1) (m := 1) hK rfl rfl (by decide) (by decide) rfl rfl rfl rfl ?_
      rw [show M 161 1 = (qq k : Int) from F.q]
      refine w_mul hK rfl (by omega) (by omega) ?_
      refine w_is [(1, 161), (0, (j : Int)), (0, ((unq k i : Int) * (qq k : Int))), (0, (i : Int))] hK rfl rfl rfl ?_
      refine w_inc [(1, 161), (0, (j : Int)), (0, ((unq k i : Int) * (qq k : Int))), (0, ((i : Int) + 1))] hK rfl rfl rfl (by omega) (by omega) rfl ?_
      refine w_goto hK rfl ?_
      have q4 := ih4 _ (by omega) (i + 1)  rfl (by omega)
      rw [← unq_mul k i] at q4
      exact q4
  have q4 := lp4 _ 0  rfl (by omega)
  rw [show ((unq k 0 : Nat) : Int) = 1 from by unfold unq; rw [Nat.pow_zero]; rfl] at q4
  exact q4
set_option maxRecDepth 100000 in
theorem r_mof {d : Nat} {M : Mem} {k : Nat} {R : Int → Option (Pl k)} (C : RS M k R) {x : Int} (hx : isR x) (e c : Nat) (he : e ≤ 8) (hc : c ≤ 65536) : Ct 198 (d + 1) 279 [(1, 161), (0, (e : Int)), (0, (c : Int)), (1, x)] M (fun r_ M' => ∃ R' : Int → Option (Pl k), r_ = (4, 0) ∧ RS M' k R' ∧ (∀ a : Int, (∀ p : Int, isR p → a ≠ p) → M' a = M a) ∧ (∀ p : Int, p ≠ x → R' p = R p) ∧ R' x = some (mnp e c)) := by
  have hK : cd 279 = k279 := rfl
  have q1_ := qq_I k
  have p1_ := pp_I k
  have m1_ := mm_I k
  show Wp 198 _ 279 0 [(1, 161), (0, (e : Int)), (0, (c : Int)), (1, x), (3, 0), (3, 0)] [] M _
  refine w_al hK rfl rfl ?_
  refine w_call [(1, x)] hK rfl rfl rfl rfl (Or.inl rfl) (r_clear C hx) ?_
  rintro _ V571 ⟨P571, rfl, C571, S571, F571, f571_0⟩
  refine ⟨by decide, (?_ : Wp 198 _ 279 2 [(1, 161), (0, (e : Int)), (0, (c : Int)), (1, x), (3, 0), (3, 0)] [] V571 _)⟩
  refine w_il hK rfl rfl ?_
  refine w_is [(1, 161), (0, (e : Int)), (0, (c : Int)), (1, x), (0, (c : Int)), (3, 0)] hK rfl rfl rfl ?_
  refine w_ic hK rfl ?_
  refine w_is [(1, 161), (0, (e : Int)), (0, (c : Int)), (1, x), (0, (c : Int)), (0, 0)] hK rfl rfl rfl ?_
  have lp6 : ∀ (n_ : Nat) (i : Nat) (R1 : Int → Option (Pl k)) (N6 : Mem), e - i = n_ → (i ≤ e) → (RS N6 k R1) → (R1 x = some (bnp i c)) → ((∀ p : Int, p ≠ x → R1 p = R p)) → ((∀ a : Int, (∀ p : Int, isR p → a ≠ p) → N6 a = M a)) → Wp 198 (d + 1) 279 6 [(1, 161), (0, (e : Int)), (0, (c : Int)), (1, x), (0, ((c / qq k ^ i : Nat) : Int)), (0, (i : Int))] [] N6 (fun r_ M' => ∃ R' : Int → Option (Pl k), r_ = (4, 0) ∧ RS M' k R' ∧ (∀ a : Int, (∀ p : Int, isR p → a ≠ p) → M' a = M a) ∧ (∀ p : Int, p ≠ x → R' p = R p) ∧ R' x = some (mnp e c)) := by
    intro n_
    induction n_ using Nat.strongRecOn with
    | _ n_ ih6 =>
    intro i R1 N6 hm6 hi hC hy1 hG hS
    have rn_ : (0 : Int) ≤ ((c / qq k ^ i : Nat) : Int) := Int.natCast_nonneg _
    have rs_ : c / qq k ^ i ≤ c := Nat.div_le_self _ _
    refine w_il hK rfl rfl ?_
    refine w_il hK rfl rfl ?_
    refine w_ge2 hK rfl (by omega) (by omega) (by omega) (by omega) (fun h8 => ?_) (fun h8 => ?_)
    · refine w_al hK rfl rfl ?_
      refine w_il hK rfl rfl ?_
      refine w_ic hK rfl ?_
      refine w_riat hK rfl hx (by omega) (by omega) ?_
      refine w_ret hK rfl rfl ?_
      have ei_ : i = e := by omega
      exact ⟨_, rfl, (RS.up hC ⟨hx, hy1⟩ (j := e) (by omega) (by omega) (e := e1) el1.symm), (fun a nr_ => ((up_row (nr_ x hx)).trans (hS a nr_))), (fun p pnx_ => ((pu_ne (P := R1) (f := up1 (bnp i c) e e1) (show p ≠ x by omega)).trans (hG p pnx_))), (pu_eq.trans (congrArg some (congrArg (fun t_ : Nat => up1 (bnp (k := k) t_ c) e e1) ei_)))⟩
    · refine w_al hK rfl rfl ?_
      refine w_il hK rfl rfl ?_
      refine w_il hK rfl rfl ?_
      refine w_al hK rfl rfl ?_
      refine w_geti (n := 1) (m := 1) hK rfl rfl (by decide) (by decide) rfl rfl rfl rfl ?_
      rw [show N6 161 1 = (qq k : Int) from hC.F.q]
      refine w_rem hK rfl (by omega) (by omega) (by omega) (by omega) ?_
      rw [modI, show (c / qq k ^ i % qq k : Nat) = dgn (qq k) c i from rfl]
      have ds_ := dgq_lt k c i
      refine w_riat hK rfl hx (by omega) (by omega) ?_
      refine w_il hK rfl rfl ?_
      refine w_al hK rfl rfl ?_
      refine w_geti (n := 1) (m := 1) hK rfl rfl (by decide) (by decide) rfl rfl rfl rfl ?_
      rw [show (up N6 x (i : Int) ((dgn (qq k) c i : Nat) : Int)) 161 1 = (qq k : Int) from (RS.up hC ⟨hx, hy1⟩ (j := i) (by omega) (by omega) (e := (el k (dgn (qq k) c i : Nat))) (elN (k := k) (n := (dgn (qq k) c i : Nat)) (by omega)).symm).F.q]
      refine w_div hK rfl (by omega) (by omega) (by omega) (by omega) ?_
      rw [divI]
      refine w_is [(1, 161), (0, (e : Int)), (0, (c : Int)), (1, x), (0, ((c / qq k ^ i / qq k : Nat) : Int)), (0, (i : Int))] hK rfl rfl rfl ?_
      refine w_inc [(1, 161), (0, (e : Int)), (0, (c : Int)), (1, x), (0, ((c / qq k ^ i / qq k : Nat) : Int)), (0, ((i : Int) + 1))] hK rfl rfl rfl (by omega) (by omega) rfl ?_
      refine w_goto hK rfl ?_
      have q6 := ih6 _ (by omega) (i + 1) _ (up N6 x (i : Int) ((dgn (qq k) c i : Nat) : Int)) rfl (by omega) (RS.up hC ⟨hx, hy1⟩ (j := i) (by omega) (by omega) (e := (el k (dgn (qq k) c i : Nat))) (elN (k := k) (n := (dgn (qq k) c i : Nat)) (by omega)).symm) (pu_eq.trans (congrArg some (bnp_up))) (fun p pnx_ => ((pu_ne (P := R1) (f := up1 (bnp i c) i (el k (dgn (qq k) c i : Nat))) (show p ≠ x by omega)).trans (hG p pnx_))) (fun a nr_ => ((up_row (nr_ x hx)).trans (hS a nr_)))
      rw [show (c / qq k ^ (i + 1) : Nat) = c / qq k ^ i / qq k by rw [Nat.pow_succ, Nat.div_div_eq_div_mul]] at q6
      exact q6
  have q6 := lp6 _ 0 _ V571 rfl (by omega) C571 (f571_0.trans (congrArg some bnp_0.symm)) (fun p pnx_ => (F571 p pnx_)) (fun a nr_ => (S571 a nr_))
  rw [show (c / qq k ^ 0 : Nat) = c by rw [Nat.pow_zero, Nat.div_one]] at q6
  exact q6
set_option maxRecDepth 100000 in
theorem r_bof {d : Nat} {M : Mem} {k : Nat} {R : Int → Option (Pl k)} (C : RS M k R) {x : Int} (hx : isR x) (e c : Nat) (he : e ≤ 8) (hc : c ≤ 65536) : Ct 198 (d + 1) 292 [(1, 161), (0, (e : Int)), (0, (c : Int)), (1, x)] M (fun r_ M' => ∃ R' : Int → Option (Pl k), r_ = (4, 0) ∧ RS M' k R' ∧ (∀ a : Int, (∀ p : Int, isR p → a ≠ p) → M' a = M a) ∧ (∀ p : Int, p ≠ x → R' p = R p) ∧ R' x = some (bnp e c)) := by
  have hK : cd 292 = k292 := rfl
  have q1_ := qq_I k
  have p1_ := pp_I k
  have m1_ := mm_I k
  show Wp 198 _ 292 0 [(1, 161), (0, (e : Int)), (0, (c : Int)), (1, x), (3, 0), (3, 0)] [] M _
  refine w_al hK rfl rfl ?_
  refine w_call [(1, x)] hK rfl rfl rfl rfl (Or.inl rfl) (r_clear C hx) ?_
  rintro _ V572 ⟨P572, rfl, C572, S572, F572, f572_0⟩
  refine ⟨by decide, (?_ : Wp 198 _ 292 2 [(1, 161), (0, (e : Int)), (0, (c : Int)), (1, x), (3, 0), (3, 0)] [] V572 _)⟩
  refine w_il hK rfl rfl ?_
  refine w_is [(1, 161), (0, (e : Int)), (0, (c : Int)), (1, x), (0, (c : Int)), (3, 0)] hK rfl rfl rfl ?_
  refine w_ic hK rfl ?_
  refine w_is [(1, 161), (0, (e : Int)), (0, (c : Int)), (1, x), (0, (c : Int)), (0, 0)] hK rfl rfl rfl ?_
  have lp6 : ∀ (n_ : Nat) (i : Nat) (R1 : Int → Option (Pl k)) (N6 : Mem), e - i = n_ → (i ≤ e) → (RS N6 k R1) → (R1 x = some (bnp i c)) → ((∀ p : Int, p ≠ x → R1 p = R p)) → ((∀ a : Int, (∀ p : Int, isR p → a ≠ p) → N6 a = M a)) → Wp 198 (d + 1) 292 6 [(1, 161), (0, (e : Int)), (0, (c : Int)), (1, x), (0, ((c / qq k ^ i : Nat) : Int)), (0, (i : Int))] [] N6 (fun r_ M' => ∃ R' : Int → Option (Pl k), r_ = (4, 0) ∧ RS M' k R' ∧ (∀ a : Int, (∀ p : Int, isR p → a ≠ p) → M' a = M a) ∧ (∀ p : Int, p ≠ x → R' p = R p) ∧ R' x = some (bnp e c)) := by
    intro n_
    induction n_ using Nat.strongRecOn with
    | _ n_ ih6 =>
    intro i R1 N6 hm6 hi hC hy1 hG hS
    have rn_ : (0 : Int) ≤ ((c / qq k ^ i : Nat) : Int) := Int.natCast_nonneg _
    have rs_ : c / qq k ^ i ≤ c := Nat.div_le_self _ _
    refine w_il hK rfl rfl ?_
    refine w_il hK rfl rfl ?_
    refine w_ge2 hK rfl (by omega) (by omega) (by omega) (by omega) (fun h8 => ?_) (fun h8 => ?_)
    · refine w_ret hK rfl rfl ?_
      have ei_ : i = e := by omega
      exact ⟨_, rfl, hC, (fun a nr_ => (hS a nr_)), (fun p pnx_ => (hG p pnx_)), (hy1.trans (congrArg some (congrArg (fun t_ : Nat => bnp (k := k) t_ c) ei_)))⟩
    · refine w_al hK rfl rfl ?_
      refine w_il hK rfl rfl ?_
      refine w_il hK rfl rfl ?_
      refine w_al hK rfl rfl ?_
      refine w_geti (n := 1) (m := 1) hK rfl rfl (by decide) (by decide) rfl rfl rfl rfl ?_
      rw [show N6 161 1 = (qq k : Int) from hC.F.q]
      refine w_rem hK rfl (by omega) (by omega) (by omega) (by omega) ?_
      rw [modI, show (c / qq k ^ i % qq k : Nat) = dgn (qq k) c i from rfl]
      have ds_ := dgq_lt k c i
      refine w_riat hK rfl hx (by omega) (by omega) ?_
      refine w_il hK rfl rfl ?_
      refine w_al hK rfl rfl ?_
      refine w_geti (n := 1) (m := 1) hK rfl rfl (by decide) (by decide) rfl rfl rfl rfl ?_
      rw [show (up N6 x (i : Int) ((dgn (qq k) c i : Nat) : Int)) 161 1 = (qq k : Int) from (RS.up hC ⟨hx, hy1⟩ (j := i) (by omega) (by omega) (e := (el k (dgn (qq k) c i : Nat))) (elN (k := k) (n := (dgn (qq k) c i : Nat)) (by omega)).symm).F.q]
      refine w_div hK rfl (by omega) (by omega) (by omega) (by omega) ?_
      rw [divI]
      refine w_is [(1, 161), (0, (e : Int)), (0, (c : Int)), (1, x), (0, ((c / qq k ^ i / qq k : Nat) : Int)), (0, (i : Int))] hK rfl rfl rfl ?_
      refine w_inc [(1, 161), (0, (e : Int)), (0, (c : Int)), (1, x), (0, ((c / qq k ^ i / qq k : Nat) : Int)), (0, ((i : Int) + 1))] hK rfl rfl rfl (by omega) (by omega) rfl ?_
      refine w_goto hK rfl ?_
      have q6 := ih6 _ (by omega) (i + 1) _ (up N6 x (i : Int) ((dgn (qq k) c i : Nat) : Int)) rfl (by omega) (RS.up hC ⟨hx, hy1⟩ (j := i) (by omega) (by omega) (e := (el k (dgn (qq k) c i : Nat))) (elN (k := k) (n := (dgn (qq k) c i : Nat)) (by omega)).symm) (pu_eq.trans (congrArg some (bnp_up))) (fun p pnx_ => ((pu_ne (P := R1) (f := up1 (bnp i c) i (el k (dgn (qq k) c i : Nat))) (show p ≠ x by omega)).trans (hG p pnx_))) (fun a nr_ => ((up_row (nr_ x hx)).trans (hS a nr_)))
      rw [show (c / qq k ^ (i + 1) : Nat) = c / qq k ^ i / qq k by rw [Nat.pow_succ, Nat.div_div_eq_div_mul]] at q6
      exact q6
  have q6 := lp6 _ 0 _ V572 rfl (by omega) C572 (f572_0.trans (congrArg some bnp_0.symm)) (fun p pnx_ => (F572 p pnx_)) (fun a nr_ => (S572 a nr_))
  rw [show (c / qq k ^ 0 : Nat) = c by rw [Nat.pow_zero, Nat.div_one]] at q6
  exact q6
/-- the first numbers of a central one, its head not yet -/
def cnI0 {k : Nat} (c i : Nat) : Pl k := fun j => if j % mm k = 0 ∧ j < i * mm k then el k (dgn (pp k) c (j / mm k)) else z0
theorem cnI0_0 {k c : Nat} : cnI0 (k := k) c 0 = pz := by funext j; exact if_neg (fun q => by have := q.2; rw [Nat.zero_mul] at this; omega)
theorem cnI0_up {k c i : Nat} : up1 (cnI0 (k := k) c i) (i * mm k) (el k (dgn (pp k) c i)) = cnI0 c (i + 1) := by
  have h2 := mm_pos k
  have h3 : i * mm k / mm k = i := Nat.mul_div_cancel _ h2
  have h4 : i * mm k % mm k = 0 := Nat.mul_mod_left _ _
  funext j
  unfold cnI0 up1
  dsimp only
  by_cases e : j = i * mm k
  · rw [if_pos e, e, if_pos ⟨h4, by rw [Nat.add_mul, Nat.one_mul]; omega⟩, h3]
  · rw [if_neg e]
    by_cases q : j % mm k = 0 ∧ j < i * mm k
    · rw [if_pos q, if_pos ⟨q.1, by rw [Nat.add_mul, Nat.one_mul]; omega⟩]
    · rw [if_neg q, if_neg (fun q2 => q ⟨q2.1, by
        have h5 := q2.2
        have h6 := Nat.div_add_mod j (mm k)
        rw [q2.1, Nat.add_zero, Nat.mul_comm] at h6
        have h7 : j / mm k < i + 1 := by
          rcases Nat.lt_or_ge (j / mm k) (i + 1) with q3 | q3
          · exact q3
          · have := Nat.mul_le_mul_right (mm k) q3
            omega
        have h8 : j / mm k ≠ i := fun q4 => e (by rw [← h6, q4])
        have h9 : (j / mm k + 1) * mm k ≤ i * mm k := Nat.mul_le_mul_right _ (by omega)
        rw [Nat.add_mul, Nat.one_mul] at h9
        omega⟩)]
theorem cnI0_end {k c n : Nat} : up1 (cnI0 (k := k) c n) (n * mm k) e1 = cnp n c := by
  funext j
  unfold cnp cnI cnI0 up1
  by_cases e : j = n * mm k
  · rw [if_pos e]
  · rw [if_neg e]
set_option maxRecDepth 100000 in
theorem r_cof {d : Nat} {M : Mem} {k : Nat} {R : Int → Option (Pl k)} (C : RS M k R) {x : Int} (hx : isR x) (e c : Nat) (he : e ≤ 8) (hc : c ≤ 65536) : Ct 198 (d + 1) 298 [(1, 161), (0, (e : Int)), (0, (c : Int)), (1, x)] M (fun r_ M' => ∃ R' : Int → Option (Pl k), r_ = (4, 0) ∧ RS M' k R' ∧ (∀ a : Int, (∀ p : Int, isR p → a ≠ p) → M' a = M a) ∧ (∀ p : Int, p ≠ x → R' p = R p) ∧ R' x = some (cnp e c)) := by
  have hK : cd 298 = k298 := rfl
  have q1_ := qq_I k
  have p1_ := pp_I k
  have m1_ := mm_I k
  have em_ : e * mm k ≤ 8 * 4 := Nat.mul_le_mul he (by omega)
  have emJ_ : (mm k : Int) * (e : Int) = ((e * mm k : Nat) : Int) := by rw [Int.natCast_mul, Int.mul_comm]
  show Wp 198 _ 298 0 [(1, 161), (0, (e : Int)), (0, (c : Int)), (1, x), (3, 0), (3, 0)] [] M _
  refine w_al hK rfl rfl ?_
  refine w_call [(1, x)] hK rfl rfl rfl rfl (Or.inl rfl) (r_clear C hx) ?_
  rintro _ V573 ⟨P573, rfl, C573, S573, F573, f573_0⟩
  refine ⟨by decide, (?_ : Wp 198 _ 298 2 [(1, 161), (0, (e : Int)), (0, (c : Int)), (1, x), (3, 0), (3, 0)] [] V573 _)⟩
  refine w_il hK rfl rfl ?_
  refine w_is [(1, 161), (0, (e : Int)), (0, (c : Int)), (1, x), (0, (c : Int)), (3, 0)] hK rfl rfl rfl ?_
  refine w_ic hK rfl ?_
  refine w_is [(1, 161), (0, (e : Int)), (0, (c : Int)), (1, x), (0, (c : Int)), (0, 0)] hK rfl rfl rfl ?_
  have lp6 : ∀ (n_ : Nat) (i : Nat) (R1 : Int → Option (Pl k)) (N6 : Mem), e - i = n_ → (i ≤ e) → (RS N6 k R1) → (R1 x = some (cnI0 c i)) → ((∀ p : Int, p ≠ x → R1 p = R p)) → ((∀ a : Int, (∀ p : Int, isR p → a ≠ p) → N6 a = M a)) → Wp 198 (d + 1) 298 6 [(1, 161), (0, (e : Int)), (0, (c : Int)), (1, x), (0, ((c / pp k ^ i : Nat) : Int)), (0, (i : Int))] [] N6 (fun r_ M' => ∃ R' : Int → Option (Pl k), r_ = (4, 0) ∧ RS M' k R' ∧ (∀ a : Int, (∀ p : Int, isR p → a ≠ p) → M' a = M a) ∧ (∀ p : Int, p ≠ x → R' p = R p) ∧ R' x = some (cnp e c)) := by
    intro n_
    induction n_ using Nat.strongRecOn with
    | _ n_ ih6 =>
    intro i R1 N6 hm6 hi hC hy1 hG hS
    have rn_ : (0 : Int) ≤ ((c / pp k ^ i : Nat) : Int) := Int.natCast_nonneg _
    have rs_ : c / pp k ^ i ≤ c := Nat.div_le_self _ _
    have ie_ : i * mm k ≤ e * mm k := Nat.mul_le_mul_right _ hi
    have imI_ : ((i * mm k : Nat) : Int) = (i : Int) * (mm k : Int) := Int.natCast_mul ..
    have imJ_ : (mm k : Int) * (i : Int) = ((i * mm k : Nat) : Int) := by rw [Int.natCast_mul, Int.mul_comm]
    refine w_il hK rfl rfl ?_
    refine w_il hK rfl rfl ?_
    refine w_ge2 hK rfl (by omega) (by omega) (by omega) (by omega) (fun h8 => ?_) (fun h8 => ?_)
    · refine w_al hK rfl rfl ?_
      refine w_al hK rfl rfl ?_
      refine w_geti (n := 3) (m := 3) hK rfl rfl (by decide) (by decide) rfl rfl rfl rfl ?_
      rw [show N6 161 3 = (mm k : Int) from hC.F.m]
      refine w_il hK rfl rfl ?_
      refine w_mul hK rfl (by omega) (by omega) ?_
      rw [show (mm k : Int) * (e : Int) = ((e * mm k : Nat) : Int) by rw [Int.natCast_mul, Int.mul_comm], show e = i by omega]
      refine w_ic hK rfl ?_
      refine w_riat hK rfl hx (by omega) (by omega) ?_
      refine w_ret hK rfl rfl ?_
      have ei_ : i = e := by omega
      exact ⟨_, rfl, (RS.up hC ⟨hx, hy1⟩ (j := (i * mm k)) (by omega) (by omega) (e := e1) el1.symm), (fun a nr_ => ((up_row (nr_ x hx)).trans (hS a nr_))), (fun p pnx_ => ((pu_ne (P := R1) (f := up1 (cnI0 c i) (i * mm k) e1) (show p ≠ x by omega)).trans (hG p pnx_))), (pu_eq.trans (congrArg some cnI0_end))⟩
    · refine w_al hK rfl rfl ?_
      refine w_al hK rfl rfl ?_
      refine w_geti (n := 3) (m := 3) hK rfl rfl (by decide) (by decide) rfl rfl rfl rfl ?_
      rw [show N6 161 3 = (mm k : Int) from hC.F.m]
      refine w_il hK rfl rfl ?_
      refine w_mul hK rfl (by omega) (by omega) ?_
      refine w_il hK rfl rfl ?_
      refine w_al hK rfl rfl ?_
      refine w_geti (n := 2) (m := 2) hK rfl rfl (by decide) (by decide) rfl rfl rfl rfl ?_
      rw [show N6 161 2 = (pp k : Int) from hC.F.p]
      refine w_rem hK rfl (by omega) (by omega) (by omega) (by omega) ?_
      rw [modI, show (c / pp k ^ i % pp k : Nat) = dgn (pp k) c i from rfl]
      rw [show (mm k : Int) * (i : Int) = ((i * mm k : Nat) : Int) by rw [Int.natCast_mul, Int.mul_comm]]
      have dl_ := dgn_lt (pp_ge k) c i
      have ds_ := el_small dl_
      refine w_riat hK rfl hx (by omega) (by omega) ?_
      refine w_il hK rfl rfl ?_
      refine w_al hK rfl rfl ?_
      refine w_geti (n := 2) (m := 2) hK rfl rfl (by decide) (by decide) rfl rfl rfl rfl ?_
      rw [show (up N6 x ((i * mm k : Nat) : Int) ((dgn (pp k) c i : Nat) : Int)) 161 2 = (pp k : Int) from (RS.up hC ⟨hx, hy1⟩ (j := (i * mm k)) (by omega) (by omega) (e := (el k (dgn (pp k) c i : Nat))) (elN (k := k) (n := (dgn (pp k) c i : Nat)) (by omega)).symm).F.p]
      refine w_div hK rfl (by omega) (by omega) (by omega) (by omega) ?_
      rw [divI]
      refine w_is [(1, 161), (0, (e : Int)), (0, (c : Int)), (1, x), (0, ((c / pp k ^ i / pp k : Nat) : Int)), (0, (i : Int))] hK rfl rfl rfl ?_
      refine w_inc [(1, 161), (0, (e : Int)), (0, (c : Int)), (1, x), (0, ((c / pp k ^ i / pp k : Nat) : Int)), (0, ((i : Int) + 1))] hK rfl rfl rfl (by omega) (by omega) rfl ?_
      refine w_goto hK rfl ?_
      have q6 := ih6 _ (by omega) (i + 1) _ (up N6 x ((i * mm k : Nat) : Int) ((dgn (pp k) c i : Nat) : Int)) rfl (by omega) (RS.up hC ⟨hx, hy1⟩ (j := (i * mm k)) (by omega) (by omega) (e := (el k (dgn (pp k) c i : Nat))) (elN (k := k) (n := (dgn (pp k) c i : Nat)) (by omega)).symm) (pu_eq.trans (congrArg some (cnI0_up))) (fun p pnx_ => ((pu_ne (P := R1) (f := up1 (cnI0 c i) (i * mm k) (el k (dgn (pp k) c i : Nat))) (show p ≠ x by omega)).trans (hG p pnx_))) (fun a nr_ => ((up_row (nr_ x hx)).trans (hS a nr_)))
      rw [show (c / pp k ^ (i + 1) : Nat) = c / pp k ^ i / pp k by rw [Nat.pow_succ, Nat.div_div_eq_div_mul]] at q6
      exact q6
  have q6 := lp6 _ 0 _ V573 rfl (by omega) C573 (f573_0.trans (congrArg some cnI0_0.symm)) (fun p pnx_ => (F573 p pnx_)) (fun a nr_ => (S573 a nr_))
  rw [show (c / pp k ^ 0 : Nat) = c by rw [Nat.pow_zero, Nat.div_one]] at q6
  exact q6
