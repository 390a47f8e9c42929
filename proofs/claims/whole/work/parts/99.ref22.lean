/-! the reference: the field's tables */ -/
def LPF (M : Mem) (k : Nat) : Prop := k < 4 ∧ M 161 2 = (pp k : Int) ∧ M 161 3 = (mm k : Int)
theorem LPF.p {M : Mem} {k : Nat} (F : LPF M k) : M 161 2 = (pp k : Int) := F.2.1
theorem LPF.m {M : Mem} {k : Nat} (F : LPF M k) : M 161 3 = (mm k : Int) := F.2.2
/-- number by number, the first n of them -/
def sumN (k x y : Nat) : Nat → Nat
  | 0 => 0
  | n + 1 => sumN k x y n + (dgn (pp k) x n + dgn (pp k) y n) % pp k * unt k n
def shN0 (k x : Nat) : Nat := (x - dgn (pp k) x (mm k - 1) * unt k (mm k - 1)) * pp k
def shI (k x : Nat) : Nat → Nat
  | 0 => shN0 k x
  | n + 1 => sumN k (shI k x n) (pp k + 1) (mm k)
def shN (k x : Nat) : Nat := shI k x (dgn (pp k) x (mm k - 1))
def shJ (k x : Nat) : Nat → Nat
  | 0 => x
  | n + 1 => shN k (shJ k x n)
def adI (k a s : Nat) : Nat → Nat
  | 0 => a
  | n + 1 => sumN k (adI k a s n) s (mm k)
def prA (k x y : Nat) : Nat → Nat
  | 0 => 0
  | n + 1 => adI k (prA k x y n) (shJ k x n) (dgn (pp k) y n)
def pwE {k : Nat} (a : El k) : Nat → El k
  | 0 => a
  | n + 1 => ml (pwE a n) a
theorem sumN_lt (k x y : Nat) : ∀ n : Nat, sumN k x y n < unt k n
  | 0 => by show 0 < pp k ^ 0; rw [Nat.pow_zero]; decide
  | n + 1 => by
    have h := sumN_lt k x y n
    have h2 : (dgn (pp k) x n + dgn (pp k) y n) % pp k < pp k := Nat.mod_lt _ (by have := pp_ge k; omega)
    have h3 := unt_mul k n
    have h4 : ((dgn (pp k) x n + dgn (pp k) y n) % pp k + 1) * unt k n ≤ pp k * unt k n := Nat.mul_le_mul_right _ h2
    have h5 : unt k (n + 1) = pp k * unt k n := by show pp k ^ (n + 1) = _; rw [Nat.pow_succ, Nat.mul_comm]; rfl
    rw [Nat.add_mul, Nat.one_mul] at h4
    show sumN k x y n + _ < _
    omega
theorem unt_m (k : Nat) : unt k (mm k) = qq k := (qq_pm k).symm
theorem sumN_q (k x y : Nat) : sumN k x y (mm k) < qq k := by rw [← unt_m]; exact sumN_lt k x y (mm k)
theorem sh_16 {k : Nat} (hk_ : k < 4) : ∀ x : Fin (qq k), shN0 k x.val < 28 ∧ shN k x.val < qq k := by rcases (show k = 0 ∨ k = 1 ∨ k = 2 ∨ k = 3 by omega) with e | e | e | e <;> subst e <;> decide +kernel
theorem prA_ml {k : Nat} (hk_ : k < 4) : ∀ a b : El k, prA k a.val b.val (mm k) = (ml a b).val := by rcases (show k = 0 ∨ k = 1 ∨ k = 2 ∨ k = 3 by omega) with e | e | e | e <;> subst e <;> decide +kernel
theorem sumN_ad {k : Nat} (hk_ : k < 4) : ∀ a b : El k, sumN k a.val b.val (mm k) = (ad a b).val := by rcases (show k = 0 ∨ k = 1 ∨ k = 2 ∨ k = 3 by omega) with e | e | e | e <;> subst e <;> decide +kernel
theorem pwE_sg {k : Nat} (hk_ : k < 4) : ∀ a : El k, pwE a (pp k - 1) = sg 1 a := by rcases (show k = 0 ∨ k = 1 ∨ k = 2 ∨ k = 3 by omega) with e | e | e | e <;> subst e <;> decide +kernel
theorem shI_lt {k x : Nat} (hk_ : k < 4) (hx : x < qq k) : ∀ n : Nat, shI k x n < 28
  | 0 => (sh_16 hk_ ⟨x, hx⟩).1
  | n + 1 => by have := sumN_q k (shI k x n) (pp k + 1); have := qq_le k; show sumN k _ _ _ < 28; omega
theorem shJ_lt {k x : Nat} (hk_ : k < 4) (hx : x < qq k) : ∀ n : Nat, shJ k x n < qq k
  | 0 => hx
  | n + 1 => (sh_16 hk_ ⟨shJ k x n, shJ_lt hk_ hx n⟩).2
theorem adI_lt {k a s : Nat} (ha : a < qq k) : ∀ n : Nat, adI k a s n < qq k
  | 0 => ha
  | n + 1 => sumN_q k _ _
theorem prA_lt {k x y : Nat} : ∀ n : Nat, prA k x y n < qq k
  | 0 => qq_pos k
  | n + 1 => adI_lt (prA_lt n) _
theorem dgn_le (p n r : Nat) : dgn p n r ≤ n := Nat.le_trans (Nat.mod_le _ _) (Nat.div_le_self _ _)
set_option maxRecDepth 100000 in
theorem r_powL {d : Nat} {M : Mem} {k : Nat} (F : LPF M k) (j : Nat) (j2 : j ≤ 8) : Ct 198 (d) 190 [(1, 161), (0, (j : Int))] M (fun r M' => r = (0, (unt k j : Int)) ∧ M' = M) := by
  have hK : cd 190 = k190 := rfl
  have q1_ := qq_I k
  have p1_ := pp_I k
  have m1_ := mm_I k
  show Wp 198 _ 190 0 [(1, 161), (0, (j : Int)), (3, 0), (3, 0)] [] M _
  refine w_ic hK rfl ?_
  refine w_is [(1, 161), (0, (j : Int)), (0, 1), (3, 0)] hK rfl rfl rfl ?_
  refine w_ic hK rfl ?_
  refine w_is [(1, 161), (0, (j : Int)), (0, 1), (0, 0)] hK rfl rfl rfl ?_
  have lp4 : ∀ (n_ : Nat) (i : Nat), 9 - i = n_ → (i ≤ j) → Wp 198 (d) 190 4 [(1, 161), (0, (j : Int)), (0, (unt k i : Int)), (0, (i : Int))] [] M (fun r M' => r = (0, (unt k j : Int)) ∧ M' = M) := by
    intro n_
    induction n_ using Nat.strongRecOn with
    | _ n_ ih4 =>
    intro i  hm4 hi
    have u1_ := unt_8 (k := k) (s := i) (by omega)
    have u2_ := unt_mul k i
    have u3_ : i < j → unt k (i + 1) ≤ 6561 := fun q => (unt_8 (by omega)).1
    refine w_il hK rfl rfl ?_
    refine w_il hK rfl rfl ?_
    refine w_ge2 hK rfl (by omega) (by omega) (by omega) (by omega) (fun h6 => ?_) (fun h6 => ?_)
    · refine w_il hK rfl rfl ?_
      refine w_iret hK rfl rfl ?_
      have e : i = j := by omega
      subst e
      exact ⟨rfl, rfl⟩
    · refine w_il hK rfl rfl ?_
      refine w_al hK rfl rfl ?_
      refine w_geti (n := 2) (m := 2) hK rfl rfl (by decide) (by decide) rfl rfl rfl rfl ?_
      rw [show M 161 2 = (pp k : Int) from F.p]
      have u4_ := u3_ (by omega)
      refine w_mul hK rfl (by omega) (by omega) ?_
      refine w_is [(1, 161), (0, (j : Int)), (0, ((unt k i : Int) * (pp k : Int))), (0, (i : Int))] hK rfl rfl rfl ?_
      refine w_inc [(1, 161), (0, (j : Int)), (0, ((unt k i : Int) * (pp k : Int))), (0, ((i : Int) + 1))] hK rfl rfl rfl (by omega) (by omega) rfl ?_
      refine w_goto hK rfl ?_
      have q4 := ih4 _ (by omega) (i + 1)  rfl (by omega)
      rw [← unt_mul k i] at q4
      exact q4
  have q4 := lp4 _ 0  rfl (by omega)
  rw [show ((unt k 0 : Nat) : Int) = 1 from by unfold unt; rw [Nat.pow_zero]; rfl] at q4
  exact q4
set_option maxRecDepth 100000 in
theorem r_dig {d : Nat} {M : Mem} {k : Nat} (F : LPF M k) (x j : Nat) (hx : x ≤ 1000) (hj : j ≤ 8) : Ct 198 (d) 192 [(1, 161), (0, (x : Int)), (0, (j : Int))] M (fun r M' => r = (0, (dgn (pp k) x j : Int)) ∧ M' = M) := by
  have hK : cd 192 = k192 := rfl
  have q1_ := qq_I k
  have p1_ := pp_I k
  have m1_ := mm_I k
  show Wp 198 _ 192 0 [(1, 161), (0, (x : Int)), (0, (j : Int)), (3, 0), (3, 0)] [] M _
  refine w_il hK rfl rfl ?_
  refine w_is [(1, 161), (0, (x : Int)), (0, (j : Int)), (0, (x : Int)), (3, 0)] hK rfl rfl rfl ?_
  refine w_ic hK rfl ?_
  refine w_is [(1, 161), (0, (x : Int)), (0, (j : Int)), (0, (x : Int)), (0, 0)] hK rfl rfl rfl ?_
  have lp4 : ∀ (n_ : Nat) (i : Nat), 9 - i = n_ → (i ≤ j) → Wp 198 (d) 192 4 [(1, 161), (0, (x : Int)), (0, (j : Int)), (0, ((x / pp k ^ i : Nat) : Int)), (0, (i : Int))] [] M (fun r M' => r = (0, (dgn (pp k) x j : Int)) ∧ M' = M) := by
    intro n_
    induction n_ using Nat.strongRecOn with
    | _ n_ ih4 =>
    intro i  hm4 hi
    have rn_ : (0 : Int) ≤ ((x / pp k ^ i : Nat) : Int) := Int.natCast_nonneg _
    have rs_ : x / pp k ^ i ≤ x := Nat.div_le_self _ _
    refine w_il hK rfl rfl ?_
    refine w_il hK rfl rfl ?_
    refine w_ge2 hK rfl (by omega) (by omega) (by omega) (by omega) (fun h6 => ?_) (fun h6 => ?_)
    · refine w_il hK rfl rfl ?_
      refine w_al hK rfl rfl ?_
      refine w_geti (n := 2) (m := 2) hK rfl rfl (by decide) (by decide) rfl rfl rfl rfl ?_
      rw [show M 161 2 = (pp k : Int) from F.p]
      refine w_rem hK rfl (by omega) (by omega) (by omega) (by omega) ?_
      rw [modI, show (x / pp k ^ i % pp k : Nat) = dgn (pp k) x i from rfl]
      refine w_iret hK rfl rfl ?_
      have e : i = j := by omega
      subst e
      exact ⟨rfl, rfl⟩
    · refine w_il hK rfl rfl ?_
      refine w_al hK rfl rfl ?_
      refine w_geti (n := 2) (m := 2) hK rfl rfl (by decide) (by decide) rfl rfl rfl rfl ?_
      rw [show M 161 2 = (pp k : Int) from F.p]
      refine w_div hK rfl (by omega) (by omega) (by omega) (by omega) ?_
      rw [divI]
      refine w_is [(1, 161), (0, (x : Int)), (0, (j : Int)), (0, ((x / pp k ^ i / pp k : Nat) : Int)), (0, (i : Int))] hK rfl rfl rfl ?_
      refine w_inc [(1, 161), (0, (x : Int)), (0, (j : Int)), (0, ((x / pp k ^ i / pp k : Nat) : Int)), (0, ((i : Int) + 1))] hK rfl rfl rfl (by omega) (by omega) rfl ?_
      refine w_goto hK rfl ?_
      have q4 := ih4 _ (by omega) (i + 1)  rfl (by omega)
      rw [show (x / pp k ^ (i + 1) : Nat) = x / pp k ^ i / pp k by rw [Nat.pow_succ, Nat.div_div_eq_div_mul]] at q4
      exact q4
  have q4 := lp4 _ 0  rfl (by omega)
  rw [show (x / pp k ^ 0 : Nat) = x by rw [Nat.pow_zero, Nat.div_one]] at q4
  exact q4
set_option maxRecDepth 100000 in
theorem r_sum {d : Nat} {M : Mem} {k : Nat} (F : LPF M k) (x y : Nat) (hx : x ≤ 1000) (hy : y ≤ 1000) : Ct 198 (d + 1) 191 [(1, 161), (0, (x : Int)), (0, (y : Int))] M (fun r M' => r = (0, (sumN k x y (mm k) : Int)) ∧ M' = M) := by
  have hK : cd 191 = k191 := rfl
  have q1_ := qq_I k
  have p1_ := pp_I k
  have m1_ := mm_I k
  show Wp 198 _ 191 0 [(1, 161), (0, (x : Int)), (0, (y : Int)), (3, 0), (3, 0)] [] M _
  refine w_ic hK rfl ?_
  refine w_is [(1, 161), (0, (x : Int)), (0, (y : Int)), (0, 0), (3, 0)] hK rfl rfl rfl ?_
  refine w_ic hK rfl ?_
  refine w_is [(1, 161), (0, (x : Int)), (0, (y : Int)), (0, 0), (0, 0)] hK rfl rfl rfl ?_
  have lp4 : ∀ (n_ : Nat) (i : Nat), 9 - i = n_ → (i ≤ mm k) → Wp 198 (d + 1) 191 4 [(1, 161), (0, (x : Int)), (0, (y : Int)), (0, (sumN k x y i : Int)), (0, (i : Int))] [] M (fun r M' => r = (0, (sumN k x y (mm k) : Int)) ∧ M' = M) := by
    intro n_
    induction n_ using Nat.strongRecOn with
    | _ n_ ih4 =>
    intro i  hm4 hi
    have sl_ := sumN_lt k x y i
    have u1_ := unt_8 (k := k) (s := i) (by omega)
    refine w_il hK rfl rfl ?_
    refine w_al hK rfl rfl ?_
    refine w_geti (n := 3) (m := 3) hK rfl rfl (by decide) (by decide) rfl rfl rfl rfl ?_
    rw [show M 161 3 = (mm k : Int) from F.m]
    refine w_ge2 hK rfl (by omega) (by omega) (by omega) (by omega) (fun h7 => ?_) (fun h7 => ?_)
    · refine w_il hK rfl rfl ?_
      refine w_iret hK rfl rfl ?_
      have e : i = mm k := by omega
      rw [e]
      exact ⟨rfl, rfl⟩
    · refine w_il hK rfl rfl ?_
      refine w_al hK rfl rfl ?_
      refine w_il hK rfl rfl ?_
      refine w_il hK rfl rfl ?_
      have dl_694 := dgn_lt (pp_ge k) x i
      refine w_call [(1, 161), (0, (x : Int)), (0, (i : Int))] hK rfl rfl rfl rfl (Or.inr ⟨_, _, _, rfl, by decide, (by decide), rfl⟩) (r_dig F x i (by omega) (by omega)) ?_
      rintro _ Mq ⟨rfl, e_⟩
      subst Mq
      refine ⟨by show (0 : Nat) ≠ 9; decide, (?_ : Wp 198 _ 191 13 [(1, 161), (0, (x : Int)), (0, (y : Int)), (0, (sumN k x y i : Int)), (0, (i : Int))] [(0, (dgn (pp k) x i : Int)), (0, (sumN k x y i : Int))] M _)⟩
      refine w_al hK rfl rfl ?_
      refine w_il hK rfl rfl ?_
      refine w_il hK rfl rfl ?_
      have dl_695 := dgn_lt (pp_ge k) y i
      refine w_call [(1, 161), (0, (y : Int)), (0, (i : Int))] hK rfl rfl rfl rfl (Or.inr ⟨_, _, _, rfl, by decide, (by decide), rfl⟩) (r_dig F y i (by omega) (by omega)) ?_
      rintro _ Mq ⟨rfl, e_⟩
      subst Mq
      refine ⟨by show (0 : Nat) ≠ 9; decide, (?_ : Wp 198 _ 191 17 [(1, 161), (0, (x : Int)), (0, (y : Int)), (0, (sumN k x y i : Int)), (0, (i : Int))] [(0, (dgn (pp k) y i : Int)), (0, (dgn (pp k) x i : Int)), (0, (sumN k x y i : Int))] M _)⟩
      refine w_add hK rfl (by omega) (by omega) ?_
      refine w_al hK rfl rfl ?_
      refine w_geti (n := 2) (m := 2) hK rfl rfl (by decide) (by decide) rfl rfl rfl rfl ?_
      rw [show M 161 2 = (pp k : Int) from F.p]
      refine w_rem hK rfl (by omega) (by omega) (by omega) (by omega) ?_
      rw [← Int.natCast_add, modI]
      have ml_ : (dgn (pp k) x i + dgn (pp k) y i) % pp k < pp k := Nat.mod_lt _ (by omega)
      refine w_al hK rfl rfl ?_
      refine w_il hK rfl rfl ?_
      refine w_call [(1, 161), (0, (i : Int))] hK rfl rfl rfl rfl (Or.inr ⟨_, _, _, rfl, by decide, (by decide), rfl⟩) (r_powL F i (by omega)) ?_
      rintro _ Mq ⟨rfl, e_⟩
      subst Mq
      refine ⟨by show (0 : Nat) ≠ 9; decide, (?_ : Wp 198 _ 191 24 [(1, 161), (0, (x : Int)), (0, (y : Int)), (0, (sumN k x y i : Int)), (0, (i : Int))] [(0, (unt k i : Int)), (0, (((dgn (pp k) x i + dgn (pp k) y i) % pp k : Nat) : Int)), (0, (sumN k x y i : Int))] M _)⟩
      have pm_ : ((((dgn (pp k) x i + dgn (pp k) y i) % pp k * unt k i : Nat)) : Int) = (((dgn (pp k) x i + dgn (pp k) y i) % pp k : Nat) : Int) * (unt k i : Int) := Int.natCast_mul ..
      have pl_ : (dgn (pp k) x i + dgn (pp k) y i) % pp k * unt k i ≤ sumN k x y (i + 1) := by show _ ≤ sumN k x y i + _; omega
      have pl2_ := sumN_lt k x y (i + 1)
      have pl3_ := unt_8 (k := k) (s := i + 1) (by omega)
      refine w_mul hK rfl (by omega) (by omega) ?_
      refine w_add hK rfl (by omega) (by omega) ?_
      refine w_is [(1, 161), (0, (x : Int)), (0, (y : Int)), (0, ((sumN k x y i : Int) + ((((dgn (pp k) x i + dgn (pp k) y i) % pp k : Nat) : Int) * (unt k i : Int)))), (0, (i : Int))] hK rfl rfl rfl ?_
      refine w_inc [(1, 161), (0, (x : Int)), (0, (y : Int)), (0, ((sumN k x y i : Int) + ((((dgn (pp k) x i + dgn (pp k) y i) % pp k : Nat) : Int) * (unt k i : Int)))), (0, ((i : Int) + 1))] hK rfl rfl rfl (by omega) (by omega) rfl ?_
      refine w_goto hK rfl ?_
      rw [show ((sumN k x y i : Int) + ((((dgn (pp k) x i + dgn (pp k) y i) % pp k : Nat) : Int) * (unt k i : Int))) = ((sumN k x y (i + 1) : Nat) : Int) from by show _ = ((sumN k x y i + _ : Nat) : Int); rw [Int.natCast_add]; omega]
      exact ih4 _ (by omega) (i + 1)  rfl (by omega)
  exact lp4 _ 0  rfl (by omega)
set_option maxRecDepth 100000 in
theorem r_shf {d : Nat} {M : Mem} {k : Nat} (F : LPF M k) (x : Nat) (hx : x < qq k) : Ct 198 (d + 2) 194 [(1, 161), (0, (x : Int))] M (fun r M' => r = (0, (shN k x : Int)) ∧ M' = M) := by
  have hK : cd 194 = k194 := rfl
  have q1_ := qq_I k
  have p1_ := pp_I k
  have m1_ := mm_I k
  have hl_ := dgn_lt (pp_ge k) x (mm k - 1)
  show Wp 198 _ 194 0 [(1, 161), (0, (x : Int)), (3, 0), (3, 0), (3, 0)] [] M _
  refine w_al hK rfl rfl ?_
  refine w_il hK rfl rfl ?_
  refine w_al hK rfl rfl ?_
  refine w_geti (n := 3) (m := 3) hK rfl rfl (by decide) (by decide) rfl rfl rfl rfl ?_
  rw [show M 161 3 = (mm k : Int) from F.m]
  refine w_ic hK rfl ?_
  refine w_sub hK rfl (by omega) (by omega) ?_
  rw [show ((mm k : Int) - 1) = ((mm k - 1 : Nat) : Int) by omega]
  have dl_696 := dgn_lt (pp_ge k) x (mm k - 1)
  refine w_call [(1, 161), (0, (x : Int)), (0, ((mm k - 1 : Nat) : Int))] hK rfl rfl rfl rfl (Or.inr ⟨_, _, _, rfl, by decide, (by decide), rfl⟩) (r_dig F x (mm k - 1) (by omega) (by omega)) ?_
  rintro _ Mq ⟨rfl, e_⟩
  subst Mq
  refine ⟨by show (0 : Nat) ≠ 9; decide, (?_ : Wp 198 _ 194 7 [(1, 161), (0, (x : Int)), (3, 0), (3, 0), (3, 0)] [(0, (dgn (pp k) x (mm k - 1) : Int))] M _)⟩
  refine w_is [(1, 161), (0, (x : Int)), (0, (dgn (pp k) x (mm k - 1) : Int)), (3, 0), (3, 0)] hK rfl rfl rfl ?_
  refine w_il hK rfl rfl ?_
  refine w_il hK rfl rfl ?_
  refine w_al hK rfl rfl ?_
  refine w_al hK rfl rfl ?_
  refine w_geti (n := 3) (m := 3) hK rfl rfl (by decide) (by decide) rfl rfl rfl rfl ?_
  rw [show M 161 3 = (mm k : Int) from F.m]
  refine w_ic hK rfl ?_
  refine w_sub hK rfl (by omega) (by omega) ?_
  rw [show ((mm k : Int) - 1) = ((mm k - 1 : Nat) : Int) by omega]
  refine w_call [(1, 161), (0, ((mm k - 1 : Nat) : Int))] hK rfl rfl rfl rfl (Or.inr ⟨_, _, _, rfl, by decide, (by decide), rfl⟩) (r_powL F (mm k - 1) (by omega)) ?_
  rintro _ Mq ⟨rfl, e_⟩
  subst Mq
  refine ⟨by show (0 : Nat) ≠ 9; decide, (?_ : Wp 198 _ 194 16 [(1, 161), (0, (x : Int)), (0, (dgn (pp k) x (mm k - 1) : Int)), (3, 0), (3, 0)] [(0, (unt k (mm k - 1) : Int)), (0, (dgn (pp k) x (mm k - 1) : Int)), (0, (x : Int))] M _)⟩
  have pm_ : ((dgn (pp k) x (mm k - 1) * unt k (mm k - 1) : Nat) : Int) = (dgn (pp k) x (mm k - 1) : Int) * (unt k (mm k - 1) : Int) := Int.natCast_mul ..
  have pl_ : dgn (pp k) x (mm k - 1) * unt k (mm k - 1) ≤ x := by
    have h_ : dgn (pp k) x (mm k - 1) ≤ x / pp k ^ (mm k - 1) := Nat.mod_le _ _
    exact Nat.le_trans (Nat.mul_le_mul_right _ h_) (Nat.div_mul_le_self _ _)
  refine w_mul hK rfl (by omega) (by omega) ?_
  refine w_sub hK rfl (by omega) (by omega) ?_
  refine w_al hK rfl rfl ?_
  refine w_geti (n := 2) (m := 2) hK rfl rfl (by decide) (by decide) rfl rfl rfl rfl ?_
  rw [show M 161 2 = (pp k : Int) from F.p]
  rw [show ((x : Int) - ((dgn (pp k) x (mm k - 1) : Int) * (unt k (mm k - 1) : Int))) = ((x - dgn (pp k) x (mm k - 1) * unt k (mm k - 1) : Nat) : Int) by omega]
  have pm2_ : ((shN0 k x : Nat) : Int) = ((x - dgn (pp k) x (mm k - 1) * unt k (mm k - 1) : Nat) : Int) * (pp k : Int) := Int.natCast_mul ..
  have s0_ := (sh_16 F.1 ⟨x, hx⟩).1
  dsimp only at s0_
  refine w_mul hK rfl (by omega) (by omega) ?_
  rw [← pm2_, show shN0 k x = shI k x 0 from rfl]
  refine w_is [(1, 161), (0, (x : Int)), (0, (dgn (pp k) x (mm k - 1) : Int)), (0, (shI k x 0 : Int)), (3, 0)] hK rfl rfl rfl ?_
  refine w_ic hK rfl ?_
  refine w_is [(1, 161), (0, (x : Int)), (0, (dgn (pp k) x (mm k - 1) : Int)), (0, (shI k x 0 : Int)), (0, 0)] hK rfl rfl rfl ?_
  have lp24 : ∀ (n_ : Nat) (i : Nat), 9 - i = n_ → (i ≤ dgn (pp k) x (mm k - 1)) → Wp 198 (d + 2) 194 24 [(1, 161), (0, (x : Int)), (0, (dgn (pp k) x (mm k - 1) : Int)), (0, (shI k x i : Int)), (0, (i : Int))] [] M (fun r M' => r = (0, (shN k x : Int)) ∧ M' = M) := by
    intro n_
    induction n_ using Nat.strongRecOn with
    | _ n_ ih24 =>
    intro i  hm24 hi
    have sl_ := shI_lt F.1 hx i
    refine w_il hK rfl rfl ?_
    refine w_il hK rfl rfl ?_
    refine w_ge2 hK rfl (by omega) (by omega) (by omega) (by omega) (fun h26 => ?_) (fun h26 => ?_)
    · refine w_il hK rfl rfl ?_
      refine w_iret hK rfl rfl ?_
      have e : i = dgn (pp k) x (mm k - 1) := by omega
      rw [e]
      exact ⟨rfl, rfl⟩
    · refine w_al hK rfl rfl ?_
      refine w_il hK rfl rfl ?_
      refine w_al hK rfl rfl ?_
      refine w_geti (n := 2) (m := 2) hK rfl rfl (by decide) (by decide) rfl rfl rfl rfl ?_
      rw [show M 161 2 = (pp k : Int) from F.p]
      refine w_ic hK rfl ?_
      refine w_add hK rfl (by omega) (by omega) ?_
      rw [show ((pp k : Int) + 1) = ((pp k + 1 : Nat) : Int) by omega]
      refine w_call [(1, 161), (0, (shI k x i : Int)), (0, ((pp k + 1 : Nat) : Int))] hK rfl rfl rfl rfl (Or.inr ⟨_, _, _, rfl, by decide, (by decide), rfl⟩) (r_sum F (shI k x i) (pp k + 1) (by omega) (by omega)) ?_
      rintro _ Mq ⟨rfl, e_⟩
      subst Mq
      refine ⟨by show (0 : Nat) ≠ 9; decide, (?_ : Wp 198 _ 194 34 [(1, 161), (0, (x : Int)), (0, (dgn (pp k) x (mm k - 1) : Int)), (0, (shI k x i : Int)), (0, (i : Int))] [(0, (sumN k (shI k x i) (pp k + 1) (mm k) : Int))] M _)⟩
      refine w_is [(1, 161), (0, (x : Int)), (0, (dgn (pp k) x (mm k - 1) : Int)), (0, (sumN k (shI k x i) (pp k + 1) (mm k) : Int)), (0, (i : Int))] hK rfl rfl rfl ?_
      refine w_inc [(1, 161), (0, (x : Int)), (0, (dgn (pp k) x (mm k - 1) : Int)), (0, (sumN k (shI k x i) (pp k + 1) (mm k) : Int)), (0, ((i : Int) + 1))] hK rfl rfl rfl (by omega) (by omega) rfl ?_
      refine w_goto hK rfl ?_
      exact ih24 _ (by omega) (i + 1)  rfl (by omega)
  exact lp24 _ 0  rfl (by omega)
set_option maxRecDepth 100000 in
theorem r_prdN {d : Nat} {M : Mem} {k : Nat} (F : LPF M k) (x y : Nat) (hx : x < qq k) (hy : y < qq k) : Ct 198 (d + 3) 193 [(1, 161), (0, (x : Int)), (0, (y : Int))] M (fun r M' => r = (0, (prA k x y (mm k) : Int)) ∧ M' = M) := by
  have hK : cd 193 = k193 := rfl
  have q1_ := qq_I k
  have p1_ := pp_I k
  have m1_ := mm_I k
  show Wp 198 _ 193 0 [(1, 161), (0, (x : Int)), (0, (y : Int)), (3, 0), (3, 0), (3, 0), (3, 0)] [] M _
  refine w_ic hK rfl ?_
  refine w_is [(1, 161), (0, (x : Int)), (0, (y : Int)), (0, 0), (3, 0), (3, 0), (3, 0)] hK rfl rfl rfl ?_
  refine w_il hK rfl rfl ?_
  refine w_is [(1, 161), (0, (x : Int)), (0, (y : Int)), (0, 0), (0, (x : Int)), (3, 0), (3, 0)] hK rfl rfl rfl ?_
  refine w_ic hK rfl ?_
  refine w_is [(1, 161), (0, (x : Int)), (0, (y : Int)), (0, 0), (0, (x : Int)), (0, 0), (3, 0)] hK rfl rfl rfl ?_
  have lp6 : ∀ (n_ : Nat) (j : Nat) (w6 : AV), 9 - j = n_ → (j ≤ mm k) → Wp 198 (d + 3) 193 6 [(1, 161), (0, (x : Int)), (0, (y : Int)), (0, (prA k x y j : Int)), (0, (shJ k x j : Int)), (0, (j : Int)), w6] [] M (fun r M' => r = (0, (prA k x y (mm k) : Int)) ∧ M' = M) := by
    intro n_
    induction n_ using Nat.strongRecOn with
    | _ n_ ih6 =>
    intro j w6  hm6 hj
    have pa_ := prA_lt (k := k) (x := x) (y := y) j
    have sj_ := shJ_lt F.1 hx j
    have dg_ := dgn_lt (pp_ge k) y j
    refine w_il hK rfl rfl ?_
    refine w_al hK rfl rfl ?_
    refine w_geti (n := 3) (m := 3) hK rfl rfl (by decide) (by decide) rfl rfl rfl rfl ?_
    rw [show M 161 3 = (mm k : Int) from F.m]
    refine w_ge2 hK rfl (by omega) (by omega) (by omega) (by omega) (fun h9 => ?_) (fun h9 => ?_)
    · refine w_il hK rfl rfl ?_
      refine w_iret hK rfl rfl ?_
      have e : j = mm k := by omega
      rw [e]
      exact ⟨rfl, rfl⟩
    · refine w_ic hK rfl ?_
      refine w_is [(1, 161), (0, (x : Int)), (0, (y : Int)), (0, (prA k x y j : Int)), (0, (shJ k x j : Int)), (0, (j : Int)), (0, 0)] hK rfl rfl rfl ?_
      have lp12 : ∀ (n_ : Nat) (i : Nat), 9 - i = n_ → (i ≤ dgn (pp k) y j) → Wp 198 (d + 3) 193 12 [(1, 161), (0, (x : Int)), (0, (y : Int)), (0, (adI k (prA k x y j) (shJ k x j) i : Int)), (0, (shJ k x j : Int)), (0, (j : Int)), (0, (i : Int))] [] M (fun r M' => r = (0, (prA k x y (mm k) : Int)) ∧ M' = M) := by
        intro n_
        induction n_ using Nat.strongRecOn with
        | _ n_ ih12 =>
        intro i  hm12 hi
        have ai_ := adI_lt (s := shJ k x j) pa_ i
        refine w_il hK rfl rfl ?_
        refine w_al hK rfl rfl ?_
        refine w_il hK rfl rfl ?_
        refine w_il hK rfl rfl ?_
        have dl_697 := dgn_lt (pp_ge k) y j
        refine w_call [(1, 161), (0, (y : Int)), (0, (j : Int))] hK rfl rfl rfl rfl (Or.inr ⟨_, _, _, rfl, by decide, (by decide), rfl⟩) (r_dig F y j (by omega) (by omega)) ?_
        rintro _ Mq ⟨rfl, e_⟩
        subst Mq
        refine ⟨by show (0 : Nat) ≠ 9; decide, (?_ : Wp 198 _ 193 17 [(1, 161), (0, (x : Int)), (0, (y : Int)), (0, (adI k (prA k x y j) (shJ k x j) i : Int)), (0, (shJ k x j : Int)), (0, (j : Int)), (0, (i : Int))] [(0, (dgn (pp k) y j : Int)), (0, (i : Int))] M _)⟩
        refine w_ge2 hK rfl (by omega) (by omega) (by omega) (by omega) (fun h17 => ?_) (fun h17 => ?_)
        · have ei_ : i = dgn (pp k) y j := by omega
          rw [ei_, show adI k (prA k x y j) (shJ k x j) (dgn (pp k) y j) = prA k x y (j + 1) from rfl]
          refine w_al hK rfl rfl ?_
          refine w_il hK rfl rfl ?_
          refine w_call [(1, 161), (0, (shJ k x j : Int))] hK rfl rfl rfl rfl (Or.inr ⟨_, _, _, rfl, by decide, (by decide), rfl⟩) (r_shf F (shJ k x j) (by omega)) ?_
          rintro _ Mq ⟨rfl, e_⟩
          subst Mq
          refine ⟨by show (0 : Nat) ≠ 9; decide, (?_ : Wp 198 _ 193 28 [(1, 161), (0, (x : Int)), (0, (y : Int)), (0, (prA k x y (j + 1) : Int)), (0, (shJ k x j : Int)), (0, (j : Int)), (0, (dgn (pp k) y j : Int))] [(0, (shN k (shJ k x j) : Int))] M _)⟩
          refine w_is [(1, 161), (0, (x : Int)), (0, (y : Int)), (0, (prA k x y (j + 1) : Int)), (0, (shN k (shJ k x j) : Int)), (0, (j : Int)), (0, (dgn (pp k) y j : Int))] hK rfl rfl rfl ?_
          refine w_inc [(1, 161), (0, (x : Int)), (0, (y : Int)), (0, (prA k x y (j + 1) : Int)), (0, (shN k (shJ k x j) : Int)), (0, ((j : Int) + 1)), (0, (dgn (pp k) y j : Int))] hK rfl rfl rfl (by omega) (by omega) rfl ?_
          refine w_goto hK rfl ?_
          exact ih6 _ (by omega) (j + 1) (0, (dgn (pp k) y j : Int))  rfl (by omega)
        · refine w_al hK rfl rfl ?_
          refine w_il hK rfl rfl ?_
          refine w_il hK rfl rfl ?_
          refine w_call [(1, 161), (0, (adI k (prA k x y j) (shJ k x j) i : Int)), (0, (shJ k x j : Int))] hK rfl rfl rfl rfl (Or.inr ⟨_, _, _, rfl, by decide, (by decide), rfl⟩) (r_sum F (adI k (prA k x y j) (shJ k x j) i) (shJ k x j) (by omega) (by omega)) ?_
          rintro _ Mq ⟨rfl, e_⟩
          subst Mq
          refine ⟨by show (0 : Nat) ≠ 9; decide, (?_ : Wp 198 _ 193 22 [(1, 161), (0, (x : Int)), (0, (y : Int)), (0, (adI k (prA k x y j) (shJ k x j) i : Int)), (0, (shJ k x j : Int)), (0, (j : Int)), (0, (i : Int))] [(0, (sumN k (adI k (prA k x y j) (shJ k x j) i) (shJ k x j) (mm k) : Int))] M _)⟩
          refine w_is [(1, 161), (0, (x : Int)), (0, (y : Int)), (0, (sumN k (adI k (prA k x y j) (shJ k x j) i) (shJ k x j) (mm k) : Int)), (0, (shJ k x j : Int)), (0, (j : Int)), (0, (i : Int))] hK rfl rfl rfl ?_
          refine w_inc [(1, 161), (0, (x : Int)), (0, (y : Int)), (0, (sumN k (adI k (prA k x y j) (shJ k x j) i) (shJ k x j) (mm k) : Int)), (0, (shJ k x j : Int)), (0, (j : Int)), (0, ((i : Int) + 1))] hK rfl rfl rfl (by omega) (by omega) rfl ?_
          refine w_goto hK rfl ?_
          exact ih12 _ (by omega) (i + 1)  rfl (by omega)
      exact lp12 _ 0  rfl (by omega)
  exact lp6 _ 0 (3, 0)  rfl (by omega)
