/-! contracts: the field of the class, read -/
/-- the class's tables are those of the field k -/
def FS (M : Mem) (k : Nat) : Prop := k < 4 ∧ (M 1 0 = (k : Int) ∧ M 1 1 = (qq k : Int) ∧ M 1 2 = (pp k : Int) ∧ M 1 3 = (mm k : Int)) ∧ (∀ a b : El k, M 2 ((a.val : Int) * 16 + (b.val : Int)) = ((ad a b).val : Int)) ∧ (∀ a b : El k, M 3 ((a.val : Int) * 16 + (b.val : Int)) = ((ml a b).val : Int)) ∧
  (∀ (j : Nat) (a : El k), j < mm k → M 4 ((j : Int) * 16 + (a.val : Int)) = ((sg j a).val : Int)) ∧ (∀ a : El k, M 5 (a.val : Int) = ((iv a).val : Int)) ∧ (∀ a : El k, M 6 (a.val : Int) = ((ng a).val : Int))
theorem FS.congr {M M' : Mem} {k : Nat} (F : FS M k) (h : ∀ x : Int, 1 ≤ x → x ≤ 6 → M' x = M x) : FS M' k := by
  obtain ⟨h1, h2, h3, h4, h5, h6, h7⟩ := F
  refine ⟨h1, ?_, ?_, ?_, ?_, ?_, ?_⟩
  · rw [h 1 (by decide) (by decide)]; exact h2
  · rw [h 2 (by decide) (by decide)]; exact h3
  · rw [h 3 (by decide) (by decide)]; exact h4
  · rw [h 4 (by decide) (by decide)]; exact h5
  · rw [h 5 (by decide) (by decide)]; exact h6
  · rw [h 6 (by decide) (by decide)]; exact h7
theorem FS.q {M : Mem} {k : Nat} (F : FS M k) : M 1 1 = (qq k : Int) := F.2.1.2.1
theorem FS.p {M : Mem} {k : Nat} (F : FS M k) : M 1 2 = (pp k : Int) := F.2.1.2.2.1
theorem FS.m {M : Mem} {k : Nat} (F : FS M k) : M 1 3 = (mm k : Int) := F.2.1.2.2.2
theorem el_I {k : Nat} (a : El k) : (0 : Int) ≤ (a.val : Int) ∧ (a.val : Int) ≤ 15 := by have := el_lt a; omega
theorem qq_I (k : Nat) : (4 : Int) ≤ (qq k : Int) ∧ (qq k : Int) ≤ 16 := by have := qq_le k; have := qq_ge k; omega
theorem mm_I (k : Nat) : (2 : Int) ≤ (mm k : Int) ∧ (mm k : Int) ≤ 4 := by have := mm_le k; have := mm_ge k; omega
theorem pp_I (k : Nat) : (2 : Int) ≤ (pp k : Int) ∧ (pp k : Int) ≤ 3 := by have := pp_le k; have := pp_ge k; omega
/-- MAP so often, also below 0 -/
def sgI {k : Nat} (n : Int) (a : El k) : El k := sg (n % (mm k : Int)).toNat a
theorem sgI_nat {k : Nat} (n : Nat) (a : El k) : sgI (n : Int) a = sg n a := by
  unfold sgI
  have : ((n : Int) % (mm k : Int)).toNat = n % mm k := by
    have h : (n : Int) % (mm k : Int) = ((n % mm k : Nat) : Int) := by simp
    rw [h, Int.toNat_natCast]
  rw [this, sg_mod]
set_option maxRecDepth 100000 in
theorem c_has {b d : Nat} {M : Mem} {k : Nat} (hb : 7 ≤ b) (F : FS M k) (a : Int) (h1 : -2147483648 ≤ a) (h2 : a ≤ 2147483647) : Ct b (d) 13 [(1, 1), (0, a)] M (fun r M' => r = (0, if 0 ≤ a ∧ a < (qq k : Int) then 1 else 0) ∧ M' = M) := by
  have hK : cd 13 = k13 := rfl
  obtain ⟨hk4, ⟨fk, fq, fp, fm⟩, fS, fP, fI, fV, fN⟩ := id F
  have q1 := qq_I k
  have m1 := mm_I k
  have p1 := pp_I k
  show Wp b _ 13 0 [(1, 1), (0, a)] [] M _
  refine w_il hK rfl rfl ?_
  refine w_lt hK rfl (by omega) (by omega) (fun h1 => ?_) (fun h1 => ?_)
  · refine w_ic hK rfl ?_
    refine w_zret hK rfl rfl (Or.inl rfl) ?_
    exact ⟨by rw [if_neg (by omega)], rfl⟩
  · refine w_il hK rfl rfl ?_
    refine w_al hK rfl rfl ?_
    refine w_geti (n := 1) (m := 1) hK rfl rfl (by decide) (Nat.lt_of_lt_of_le (by decide) hb) rfl rfl rfl rfl ?_
    rw [show M 1 1 = (qq k : Int) from F.q]
    refine w_ge2 hK rfl (by omega) (by omega) (by omega) (by omega) (fun h5 => ?_) (fun h5 => ?_)
    · refine w_ic hK rfl ?_
      refine w_zret hK rfl rfl (Or.inl rfl) ?_
      exact ⟨by rw [if_neg (by omega)], rfl⟩
    · refine w_ic hK rfl ?_
      refine w_goto hK rfl ?_
      refine w_zret hK rfl rfl (Or.inr rfl) ?_
      exact ⟨by rw [if_pos (by omega)], rfl⟩
set_option maxRecDepth 100000 in
theorem c_sum {b d : Nat} {M : Mem} {k : Nat} (hb : 7 ≤ b) (F : FS M k) (x y : El k) : Ct b (d) 5 [(1, 1), (0, (x.val : Int)), (0, (y.val : Int))] M (fun r M' => r = (0, ((ad x y).val : Int)) ∧ M' = M) := by
  have hK : cd 5 = k5 := rfl
  obtain ⟨hk4, ⟨fk, fq, fp, fm⟩, fS, fP, fI, fV, fN⟩ := id F
  have q1 := qq_I k
  have m1 := mm_I k
  have p1 := pp_I k
  have bd_x := el_I x
  have bd_y := el_I y
  show Wp b _ 5 0 [(1, 1), (0, (x.val : Int)), (0, (y.val : Int)), (3, 0)] [] M _
  refine w_il hK rfl rfl ?_
  refine w_ic hK rfl ?_
  refine w_mul hK rfl (by omega) (by omega) ?_
  refine w_il hK rfl rfl ?_
  refine w_add hK rfl (by omega) (by omega) ?_
  refine w_is [(1, 1), (0, (x.val : Int)), (0, (y.val : Int)), (0, (((x.val : Int) * 16) + (y.val : Int)))] hK rfl rfl rfl ?_
  refine w_il hK rfl rfl ?_
  refine w_lt hK rfl (by omega) (by omega) (fun h7 => ?_) (fun h7 => ?_)
  · exfalso; omega
  · refine w_il hK rfl rfl ?_
    refine w_al hK rfl rfl ?_
    refine w_getr (n := 4) (v := 2) hK rfl rfl (by decide) (Nat.lt_of_lt_of_le (by decide) hb) rfl rfl rfl rfl ?_
    refine w_len hK rfl rfl (by decide) (Nat.lt_of_lt_of_le (by decide) hb) rfl ?_
    refine w_ge2 hK rfl (by omega) (by omega) (by omega) (by omega) (fun h12 => ?_) (fun h12 => ?_)
    · exfalso; omega
    · refine w_al hK rfl rfl ?_
      refine w_getr (n := 4) (v := 2) hK rfl rfl (by decide) (Nat.lt_of_lt_of_le (by decide) hb) rfl rfl rfl rfl ?_
      refine w_il hK rfl rfl ?_
      refine w_ia hK rfl rfl (by decide) (Nat.lt_of_lt_of_le (by decide) hb) (by omega) (by omega) ?_
      refine w_goto hK rfl ?_
      refine w_iret hK rfl rfl ?_
      exact ⟨by rw [fS x y], rfl⟩
set_option maxRecDepth 100000 in
theorem c_prod {b d : Nat} {M : Mem} {k : Nat} (hb : 7 ≤ b) (F : FS M k) (x y : El k) : Ct b (d) 7 [(1, 1), (0, (x.val : Int)), (0, (y.val : Int))] M (fun r M' => r = (0, ((ml x y).val : Int)) ∧ M' = M) := by
  have hK : cd 7 = k7 := rfl
  obtain ⟨hk4, ⟨fk, fq, fp, fm⟩, fS, fP, fI, fV, fN⟩ := id F
  have q1 := qq_I k
  have m1 := mm_I k
  have p1 := pp_I k
  have bd_x := el_I x
  have bd_y := el_I y
  show Wp b _ 7 0 [(1, 1), (0, (x.val : Int)), (0, (y.val : Int)), (3, 0)] [] M _
  refine w_il hK rfl rfl ?_
  refine w_ic hK rfl ?_
  refine w_mul hK rfl (by omega) (by omega) ?_
  refine w_il hK rfl rfl ?_
  refine w_add hK rfl (by omega) (by omega) ?_
  refine w_is [(1, 1), (0, (x.val : Int)), (0, (y.val : Int)), (0, (((x.val : Int) * 16) + (y.val : Int)))] hK rfl rfl rfl ?_
  refine w_il hK rfl rfl ?_
  refine w_lt hK rfl (by omega) (by omega) (fun h7 => ?_) (fun h7 => ?_)
  · exfalso; omega
  · refine w_il hK rfl rfl ?_
    refine w_al hK rfl rfl ?_
    refine w_getr (n := 5) (v := 3) hK rfl rfl (by decide) (Nat.lt_of_lt_of_le (by decide) hb) rfl rfl rfl rfl ?_
    refine w_len hK rfl rfl (by decide) (Nat.lt_of_lt_of_le (by decide) hb) rfl ?_
    refine w_ge2 hK rfl (by omega) (by omega) (by omega) (by omega) (fun h12 => ?_) (fun h12 => ?_)
    · exfalso; omega
    · refine w_al hK rfl rfl ?_
      refine w_getr (n := 5) (v := 3) hK rfl rfl (by decide) (Nat.lt_of_lt_of_le (by decide) hb) rfl rfl rfl rfl ?_
      refine w_il hK rfl rfl ?_
      refine w_ia hK rfl rfl (by decide) (Nat.lt_of_lt_of_le (by decide) hb) (by omega) (by omega) ?_
      refine w_goto hK rfl ?_
      refine w_iret hK rfl rfl ?_
      exact ⟨by rw [fP x y], rfl⟩
set_option maxRecDepth 100000 in
theorem c_opp {b d : Nat} {M : Mem} {k : Nat} (hb : 7 ≤ b) (F : FS M k) (x : El k) : Ct b (d) 20 [(1, 1), (0, (x.val : Int))] M (fun r M' => r = (0, ((ng x).val : Int)) ∧ M' = M) := by
  have hK : cd 20 = k20 := rfl
  obtain ⟨hk4, ⟨fk, fq, fp, fm⟩, fS, fP, fI, fV, fN⟩ := id F
  have q1 := qq_I k
  have m1 := mm_I k
  have p1 := pp_I k
  have bd_x := el_I x
  show Wp b _ 20 0 [(1, 1), (0, (x.val : Int))] [] M _
  refine w_il hK rfl rfl ?_
  refine w_lt hK rfl (by omega) (by omega) (fun h1 => ?_) (fun h1 => ?_)
  · exfalso; omega
  · refine w_il hK rfl rfl ?_
    refine w_al hK rfl rfl ?_
    refine w_getr (n := 8) (v := 6) hK rfl rfl (by decide) (Nat.lt_of_lt_of_le (by decide) hb) rfl rfl rfl rfl ?_
    refine w_len hK rfl rfl (by decide) (Nat.lt_of_lt_of_le (by decide) hb) rfl ?_
    refine w_ge2 hK rfl (by omega) (by omega) (by omega) (by omega) (fun h6 => ?_) (fun h6 => ?_)
    · exfalso; omega
    · refine w_al hK rfl rfl ?_
      refine w_getr (n := 8) (v := 6) hK rfl rfl (by decide) (Nat.lt_of_lt_of_le (by decide) hb) rfl rfl rfl rfl ?_
      refine w_il hK rfl rfl ?_
      refine w_ia hK rfl rfl (by decide) (Nat.lt_of_lt_of_le (by decide) hb) (by omega) (by omega) ?_
      refine w_goto hK rfl ?_
      refine w_iret hK rfl rfl ?_
      exact ⟨by rw [fN x], rfl⟩
set_option maxRecDepth 100000 in
theorem c_inv {b d : Nat} {M : Mem} {k : Nat} (hb : 7 ≤ b) (F : FS M k) (x : El k) : Ct b (d) 14 [(1, 1), (0, (x.val : Int))] M (fun r M' => r = (0, ((iv x).val : Int)) ∧ M' = M) := by
  have hK : cd 14 = k14 := rfl
  obtain ⟨hk4, ⟨fk, fq, fp, fm⟩, fS, fP, fI, fV, fN⟩ := id F
  have q1 := qq_I k
  have m1 := mm_I k
  have p1 := pp_I k
  have bd_x := el_I x
  show Wp b _ 14 0 [(1, 1), (0, (x.val : Int))] [] M _
  refine w_il hK rfl rfl ?_
  refine w_lt hK rfl (by omega) (by omega) (fun h1 => ?_) (fun h1 => ?_)
  · exfalso; omega
  · refine w_il hK rfl rfl ?_
    refine w_al hK rfl rfl ?_
    refine w_getr (n := 7) (v := 5) hK rfl rfl (by decide) (Nat.lt_of_lt_of_le (by decide) hb) rfl rfl rfl rfl ?_
    refine w_len hK rfl rfl (by decide) (Nat.lt_of_lt_of_le (by decide) hb) rfl ?_
    refine w_ge2 hK rfl (by omega) (by omega) (by omega) (by omega) (fun h6 => ?_) (fun h6 => ?_)
    · exfalso; omega
    · refine w_al hK rfl rfl ?_
      refine w_getr (n := 7) (v := 5) hK rfl rfl (by decide) (Nat.lt_of_lt_of_le (by decide) hb) rfl rfl rfl rfl ?_
      refine w_il hK rfl rfl ?_
      refine w_ia hK rfl rfl (by decide) (Nat.lt_of_lt_of_le (by decide) hb) (by omega) (by omega) ?_
      refine w_goto hK rfl ?_
      refine w_iret hK rfl rfl ?_
      exact ⟨by rw [fV x], rfl⟩
theorem Ct.cv {b d u : Nat} {as as' : List AV} {M : Mem} {Φ : AV → Mem → Prop} (h : Ct b d u as M Φ) (e : as = as') : Ct b d u as' M Φ := e ▸ h
theorem elN {k n : Nat} (h : n < qq k) : ((el k n).val : Int) = (n : Int) := by
  show ((n % qq k : Nat) : Int) = n
  rw [Nat.mod_eq_of_lt h]
theorem elI {k : Nat} {c : Int} (h0 : 0 ≤ c) (h1 : c < (qq k : Int)) : ((el k c.toNat).val : Int) = c := by rw [elN (by omega)]; omega
theorem el0 {k : Nat} : ((z0 : El k).val : Int) = 0 := by rw [z0_val]; rfl
theorem el1 {k : Nat} : ((e1 : El k).val : Int) = 1 := by rw [e1_val]; rfl
set_option maxRecDepth 100000 in
theorem c_diff {b d : Nat} {M : Mem} {k : Nat} (hb : 7 ≤ b) (F : FS M k) (x y : El k) : Ct b (d + 1) 19 [(1, 1), (0, (x.val : Int)), (0, (y.val : Int))] M (fun r M' => r = (0, ((ad x (ng y)).val : Int)) ∧ M' = M) := by
  have hK : cd 19 = k19 := rfl
  show Wp b _ 19 0 [(1, 1), (0, (x.val : Int)), (0, (y.val : Int))] [] M _
  refine w_al hK rfl rfl ?_
  refine w_il hK rfl rfl ?_
  refine w_al hK rfl rfl ?_
  refine w_il hK rfl rfl ?_
  refine w_call [(1, 1), (0, (y.val : Int))] hK rfl rfl rfl rfl (Or.inr ⟨_, _, _, rfl, by decide, (Nat.lt_of_lt_of_le (by decide) hb), rfl⟩) (c_opp hb F y ) ?_
  rintro _ Mq ⟨rfl, e_⟩
  subst Mq
  have bv_ := el_I (ng y)
  refine ⟨by show (0 : Nat) ≠ 9; decide, (?_ : Wp b _ 19 5 [(1, 1), (0, (x.val : Int)), (0, (y.val : Int))] [(0, ((ng y).val : Int)), (0, (x.val : Int)), (1, 1)] M _)⟩
  refine w_call [(1, 1), (0, (x.val : Int)), (0, ((ng y).val : Int))] hK rfl rfl rfl rfl (Or.inr ⟨_, _, _, rfl, by decide, (Nat.lt_of_lt_of_le (by decide) hb), rfl⟩) (c_sum hb F x (ng y) ) ?_
  rintro _ Mq ⟨rfl, e_⟩
  subst Mq
  have bv_ := el_I (ad x (ng y))
  refine ⟨by show (0 : Nat) ≠ 9; decide, (?_ : Wp b _ 19 6 [(1, 1), (0, (x.val : Int)), (0, (y.val : Int))] [(0, ((ad x (ng y)).val : Int))] M _)⟩
  refine w_iret hK rfl rfl ?_
  exact ⟨rfl, rfl⟩
set_option maxRecDepth 100000 in
theorem c_ratio {b d : Nat} {M : Mem} {k : Nat} (hb : 7 ≤ b) (F : FS M k) (x y : El k) : Ct b (d + 1) 18 [(1, 1), (0, (x.val : Int)), (0, (y.val : Int))] M (fun r M' => r = (0, ((ml x (iv y)).val : Int)) ∧ M' = M) := by
  have hK : cd 18 = k18 := rfl
  show Wp b _ 18 0 [(1, 1), (0, (x.val : Int)), (0, (y.val : Int))] [] M _
  refine w_al hK rfl rfl ?_
  refine w_il hK rfl rfl ?_
  refine w_al hK rfl rfl ?_
  refine w_il hK rfl rfl ?_
  refine w_call [(1, 1), (0, (y.val : Int))] hK rfl rfl rfl rfl (Or.inr ⟨_, _, _, rfl, by decide, (Nat.lt_of_lt_of_le (by decide) hb), rfl⟩) (c_inv hb F y ) ?_
  rintro _ Mq ⟨rfl, e_⟩
  subst Mq
  have bv_ := el_I (iv y)
  refine ⟨by show (0 : Nat) ≠ 9; decide, (?_ : Wp b _ 18 5 [(1, 1), (0, (x.val : Int)), (0, (y.val : Int))] [(0, ((iv y).val : Int)), (0, (x.val : Int)), (1, 1)] M _)⟩
  refine w_call [(1, 1), (0, (x.val : Int)), (0, ((iv y).val : Int))] hK rfl rfl rfl rfl (Or.inr ⟨_, _, _, rfl, by decide, (Nat.lt_of_lt_of_le (by decide) hb), rfl⟩) (c_prod hb F x (iv y) ) ?_
  rintro _ Mq ⟨rfl, e_⟩
  subst Mq
  have bv_ := el_I (ml x (iv y))
  refine ⟨by show (0 : Nat) ≠ 9; decide, (?_ : Wp b _ 18 6 [(1, 1), (0, (x.val : Int)), (0, (y.val : Int))] [(0, ((ml x (iv y)).val : Int))] M _)⟩
  refine w_iret hK rfl rfl ?_
  exact ⟨rfl, rfl⟩
theorem fm_one : ∀ (x : Fin 257) (y : Fin 3), (i32 ((x.val : Int) - 128) - i32 ((x.val : Int) - 128) / i32 ((y.val : Int) + 2) * i32 ((y.val : Int) + 2)).toInt = ((x.val : Int) - 128).tmod ((y.val : Int) + 2) ∧
    ((i32 ((x.val : Int) - 128) ^^^ i32 ((y.val : Int) + 2)).toInt < 0 ↔ (x.val : Int) - 128 < 0) ∧ (0 ≤ (x.val : Int) - 128 → 0 ≤ ((x.val : Int) - 128).tmod ((y.val : Int) + 2)) ∧ ((x.val : Int) - 128 < 0 → ((x.val : Int) - 128).tmod ((y.val : Int) + 2) ≤ 0) := by decide +kernel
theorem fm_ok {x y : Int} (h1 : -128 ≤ x) (h2 : x ≤ 128) (h3 : 2 ≤ y) (h4 : y ≤ 4) : (i32 x - i32 x / i32 y * i32 y).toInt = x.tmod y ∧ ((i32 x ^^^ i32 y).toInt < 0 ↔ x < 0) ∧ (0 ≤ x → 0 ≤ x.tmod y) ∧ (x < 0 → x.tmod y ≤ 0) := by
  have h := fm_one ⟨(x + 128).toNat, by omega⟩ ⟨(y - 2).toNat, by omega⟩
  have e1 : (((x + 128).toNat : Nat) : Int) - 128 = x := by omega
  have e2 : (((y - 2).toNat : Nat) : Int) + 2 = y := by omega
  simp only [e1, e2] at h
  exact h
theorem tm_bd {x y : Int} (h3 : 2 ≤ y) (h4 : y ≤ 4) : -4 < x.tmod y ∧ x.tmod y < 4 := by
  have := Int.tmod_lt_of_pos x (show 0 < y by omega)
  have h2 : -y < x.tmod y := Int.lt_tmod_of_pos x (show 0 < y by omega)
  omega
theorem tm_em {x y : Int} (h3 : 2 ≤ y) : x % y = if x.tmod y < 0 then x.tmod y + y else x.tmod y := by
  have h1 := Int.mul_tdiv_add_tmod x y
  have h2 := Int.tmod_lt_of_pos x (show 0 < y by omega)
  have h3' : -y < x.tmod y := Int.lt_tmod_of_pos x (show 0 < y by omega)
  split
  · have e : x % y = (x.tmod y + y + y * (x.tdiv y - 1)) % y := by
      congr 1
      rw [Int.mul_sub]
      omega
    rw [e, Int.add_mul_emod_self_left, Int.emod_eq_of_lt (by omega) (by omega)]
  · have e : x % y = (x.tmod y + y * x.tdiv y) % y := by
      congr 1
      omega
    rw [e, Int.add_mul_emod_self_left, Int.emod_eq_of_lt (by omega) (by omega)]
set_option maxRecDepth 100000 in
theorem c_fmod {b d : Nat} {M : Mem} (x y : Int) (h1 : -128 ≤ x) (h2 : x ≤ 128) (h3 : 2 ≤ y) (h4 : y ≤ 4) : Ct b (d) 304 [(0, x), (0, y)] M (fun r M' => r = (0, x % y) ∧ M' = M) := by
  have hK : cd 304 = k304 := rfl
  have fm := fm_ok h1 h2 h3 h4
  have hy0 : ¬ i32 y = 0 := i32_ne0 (by omega) (by omega)
  have bd := tm_bd (x := x) h3 h4
  have em := tm_em (x := x) h3
  have w1 := Int32.le_toInt (i32 x ^^^ i32 y)
  have w2 := Int32.toInt_lt (i32 x ^^^ i32 y)
  have w3 := fm.2
  show Wp b _ 304 0 [(0, x), (0, y), (3, 0)] [] M _
  refine w_il hK rfl rfl ?_
  refine w_il hK rfl rfl ?_
  refine w_bin (w := i32 x - i32 x / i32 y * i32 y) hK rfl rfl (by simp [bin, hy0]) ?_
  rw [fm.1]
  refine w_is [(0, x), (0, y), (0, x.tmod y)] hK rfl rfl rfl ?_
  refine w_il hK rfl rfl ?_
  refine w_il hK rfl rfl ?_
  refine w_bin (w := i32 x ^^^ i32 y) hK rfl rfl rfl ?_
  refine w_ge hK rfl (by omega) (by omega) (fun h7 => ?_) (fun h7 => ?_)
  · refine w_il hK rfl rfl ?_
    refine w_iret hK rfl rfl ?_
    refine ⟨?_, rfl⟩
    rw [em]
    split
    · first | rfl | (exfalso; omega)
    · first | rfl | (exfalso; omega)
  · refine w_il hK rfl rfl ?_
    refine w_eq hK rfl (by omega) (by omega) (fun h9 => ?_) (fun h9 => ?_)
    · refine w_il hK rfl rfl ?_
      refine w_iret hK rfl rfl ?_
      refine ⟨?_, rfl⟩
      rw [em]
      split
      · first | rfl | (exfalso; omega)
      · first | rfl | (exfalso; omega)
    · refine w_il hK rfl rfl ?_
      refine w_il hK rfl rfl ?_
      refine w_add hK rfl (by omega) (by omega) ?_
      refine w_iret hK rfl rfl ?_
      refine ⟨?_, rfl⟩
      rw [em]
      split
      · first | rfl | (exfalso; omega)
      · first | rfl | (exfalso; omega)
set_option maxRecDepth 100000 in
theorem c_image {b d : Nat} {M : Mem} {k : Nat} (hb : 7 ≤ b) (F : FS M k) (x : El k) (j : Int) (h1 : -128 ≤ j) (h2 : j ≤ 128) : Ct b (d + 1) 10 [(1, 1), (0, (x.val : Int)), (0, j)] M (fun r M' => r = (0, ((sgI j x).val : Int)) ∧ M' = M) := by
  have hK : cd 10 = k10 := rfl
  obtain ⟨hk4, ⟨fk, fq, fp, fm⟩, fS, fP, fI, fV, fN⟩ := id F
  have q1 := qq_I k
  have m1 := mm_I k
  have p1 := pp_I k
  have bd_x := el_I x
  have e0 : 0 ≤ j % (mm k : Int) := Int.emod_nonneg _ (by omega)
  have e2 : j % (mm k : Int) < (mm k : Int) := Int.emod_lt_of_pos _ (by omega)
  show Wp b _ 10 0 [(1, 1), (0, (x.val : Int)), (0, j), (3, 0)] [] M _
  refine w_al hK rfl rfl ?_
  refine w_geti (n := 3) (m := 3) hK rfl rfl (by decide) (Nat.lt_of_lt_of_le (by decide) hb) rfl rfl rfl rfl ?_
  rw [show M 1 3 = (mm k : Int) from F.m]
  refine w_ic hK rfl ?_
  refine w_ge2 hK rfl (by omega) (by omega) (by omega) (by omega) (fun h3 => ?_) (fun h3 => ?_)
  · refine w_il hK rfl rfl ?_
    refine w_al hK rfl rfl ?_
    refine w_geti (n := 3) (m := 3) hK rfl rfl (by decide) (Nat.lt_of_lt_of_le (by decide) hb) rfl rfl rfl rfl ?_
    rw [show M 1 3 = (mm k : Int) from F.m]
    refine w_call [(0, j), (0, (mm k : Int))] hK rfl rfl rfl rfl (Or.inl rfl) (c_fmod j (mm k : Int) (by omega) (by omega) (by omega) (by omega)) ?_
    rintro _ Mq ⟨rfl, e_⟩
    subst Mq
    refine ⟨by show (0 : Nat) ≠ 9; decide, (?_ : Wp b _ 10 10 [(1, 1), (0, (x.val : Int)), (0, j), (3, 0)] [(0, j % (mm k : Int))] M _)⟩
    refine w_ic hK rfl ?_
    refine w_mul hK rfl (by omega) (by omega) ?_
    refine w_il hK rfl rfl ?_
    refine w_add hK rfl (by omega) (by omega) ?_
    refine w_is [(1, 1), (0, (x.val : Int)), (0, j), (0, ((j % (mm k : Int) * 16) + (x.val : Int)))] hK rfl rfl rfl ?_
    refine w_il hK rfl rfl ?_
    refine w_lt hK rfl (by omega) (by omega) (fun h16 => ?_) (fun h16 => ?_)
    · exfalso; omega
    · refine w_il hK rfl rfl ?_
      refine w_al hK rfl rfl ?_
      refine w_getr (n := 6) (v := 4) hK rfl rfl (by decide) (Nat.lt_of_lt_of_le (by decide) hb) rfl rfl rfl rfl ?_
      refine w_len hK rfl rfl (by decide) (Nat.lt_of_lt_of_le (by decide) hb) rfl ?_
      refine w_ge2 hK rfl (by omega) (by omega) (by omega) (by omega) (fun h21 => ?_) (fun h21 => ?_)
      · exfalso; omega
      · refine w_al hK rfl rfl ?_
        refine w_getr (n := 6) (v := 4) hK rfl rfl (by decide) (Nat.lt_of_lt_of_le (by decide) hb) rfl rfl rfl rfl ?_
        refine w_il hK rfl rfl ?_
        refine w_ia hK rfl rfl (by decide) (Nat.lt_of_lt_of_le (by decide) hb) (by omega) (by omega) ?_
        refine w_goto hK rfl ?_
        refine w_iret hK rfl rfl ?_
        have e3 := fI (j % (mm k : Int)).toNat x (by omega)
        rw [Int.toNat_of_nonneg e0] at e3
        refine ⟨?_, rfl⟩
        rw [e3]
        rfl
  · exfalso; omega
theorem c_imageN {b d : Nat} {M : Mem} {k : Nat} (hb : 7 ≤ b) (F : FS M k) (x : El k) (j : Nat) (h2 : j ≤ 128) : Ct b (d + 1) 10 [(1, 1), (0, (x.val : Int)), (0, (j : Int))] M (fun r M' => r = (0, ((sg j x).val : Int)) ∧ M' = M) := by
  rw [← sgI_nat j x]
  exact c_image hb F x (j : Int) (by omega) (by omega)
/-- a MAP(a) MAP(MAP(a)) .. , n of these -/
def chn {k : Nat} (a : El k) : Nat → El k
  | 0 => e1
  | n + 1 => ml (chn a n) (sg n a)
set_option maxRecDepth 100000 in
theorem c_chain {b d : Nat} {M : Mem} {k : Nat} (hb : 7 ≤ b) (F : FS M k) (x : El k) (j : Nat) (hj : j ≤ 8) : Ct b (d + 2) 15 [(1, 1), (0, (x.val : Int)), (0, (j : Int))] M (fun r M' => r = (0, ((chn x j).val : Int)) ∧ M' = M) := by
  have hK : cd 15 = k15 := rfl
  have b0 := el_I x
  show Wp b _ 15 0 [(1, 1), (0, (x.val : Int)), (0, (j : Int)), (3, 0), (3, 0)] [] M _
  refine w_ic hK rfl ?_
  refine w_is [(1, 1), (0, (x.val : Int)), (0, (j : Int)), (0, 1), (3, 0)] hK rfl rfl rfl ?_
  refine w_ic hK rfl ?_
  refine w_is [(1, 1), (0, (x.val : Int)), (0, (j : Int)), (0, 1), (0, 0)] hK rfl rfl rfl ?_
  have lp4 : ∀ (n_ : Nat) (i : Nat), j - i = n_ → (i ≤ j) → Wp b (d + 2) 15 4 [(1, 1), (0, (x.val : Int)), (0, (j : Int)), (0, ((chn x i).val : Int)), (0, (i : Int))] [] M (fun r M' => r = (0, ((chn x j).val : Int)) ∧ M' = M) := by
    intro n_
    induction n_ using Nat.strongRecOn with
    | _ n_ ih4 =>
    intro i  hm4 hi
    refine w_il hK rfl rfl ?_
    refine w_il hK rfl rfl ?_
    refine w_ge2 hK rfl (by omega) (by omega) (by omega) (by omega) (fun h6 => ?_) (fun h6 => ?_)
    · refine w_il hK rfl rfl ?_
      refine w_iret hK rfl rfl ?_
      have e : i = j := by omega
      subst e
      exact ⟨rfl, rfl⟩
    · refine w_al hK rfl rfl ?_
      refine w_il hK rfl rfl ?_
      refine w_al hK rfl rfl ?_
      refine w_il hK rfl rfl ?_
      refine w_il hK rfl rfl ?_
      refine w_call [(1, 1), (0, (x.val : Int)), (0, (i : Int))] hK rfl rfl rfl rfl (Or.inr ⟨_, _, _, rfl, by decide, (Nat.lt_of_lt_of_le (by decide) hb), rfl⟩) (c_imageN hb F x i (by omega)) ?_
      rintro _ Mq ⟨rfl, e_⟩
      subst Mq
      have bv_ := el_I (sg i x)
      refine ⟨by show (0 : Nat) ≠ 9; decide, (?_ : Wp b _ 15 13 [(1, 1), (0, (x.val : Int)), (0, (j : Int)), (0, ((chn x i).val : Int)), (0, (i : Int))] [(0, ((sg i x).val : Int)), (0, ((chn x i).val : Int)), (1, 1)] M _)⟩
      refine w_call [(1, 1), (0, ((chn x i).val : Int)), (0, ((sg i x).val : Int))] hK rfl rfl rfl rfl (Or.inr ⟨_, _, _, rfl, by decide, (Nat.lt_of_lt_of_le (by decide) hb), rfl⟩) (c_prod hb F (chn x i) (sg i x) ) ?_
      rintro _ Mq ⟨rfl, e_⟩
      subst Mq
      have bv_ := el_I (ml (chn x i) (sg i x))
      refine ⟨by show (0 : Nat) ≠ 9; decide, (?_ : Wp b _ 15 14 [(1, 1), (0, (x.val : Int)), (0, (j : Int)), (0, ((chn x i).val : Int)), (0, (i : Int))] [(0, ((ml (chn x i) (sg i x)).val : Int))] M _)⟩
      refine w_is [(1, 1), (0, (x.val : Int)), (0, (j : Int)), (0, ((ml (chn x i) (sg i x)).val : Int)), (0, (i : Int))] hK rfl rfl rfl ?_
      refine w_inc [(1, 1), (0, (x.val : Int)), (0, (j : Int)), (0, ((ml (chn x i) (sg i x)).val : Int)), (0, ((i : Int) + 1))] hK rfl rfl rfl (by omega) (by omega) rfl ?_
      refine w_goto hK rfl ?_
      exact ih4 _ (by omega) (i + 1)  rfl (by omega)
  have q4 := lp4 _ 0  rfl (by omega)
  rw [show ((chn x 0).val : Int) = 1 by simp [chn, e1_val]] at q4
  exact q4
def cjg {k : Nat} (a c : El k) : El k := ml (ml (sg 1 c) a) (iv c)
set_option maxRecDepth 100000 in
theorem c_conj {b d : Nat} {M : Mem} {k : Nat} (hb : 7 ≤ b) (F : FS M k) (x c : El k) : Ct b (d + 2) 17 [(1, 1), (0, (x.val : Int)), (0, (c.val : Int))] M (fun r M' => r = (0, ((cjg x c).val : Int)) ∧ M' = M) := by
  have hK : cd 17 = k17 := rfl
  show Wp b _ 17 0 [(1, 1), (0, (x.val : Int)), (0, (c.val : Int))] [] M _
  refine w_al hK rfl rfl ?_
  refine w_al hK rfl rfl ?_
  refine w_al hK rfl rfl ?_
  refine w_il hK rfl rfl ?_
  refine w_ic hK rfl ?_
  refine w_call [(1, 1), (0, (c.val : Int)), (0, 1)] hK rfl rfl rfl rfl (Or.inr ⟨_, _, _, rfl, by decide, (Nat.lt_of_lt_of_le (by decide) hb), rfl⟩) (c_imageN hb F c 1 (by omega)) ?_
  rintro _ Mq ⟨rfl, e_⟩
  subst Mq
  have bv_ := el_I (sg 1 c)
  refine ⟨by show (0 : Nat) ≠ 9; decide, (?_ : Wp b _ 17 6 [(1, 1), (0, (x.val : Int)), (0, (c.val : Int))] [(0, ((sg 1 c).val : Int)), (1, 1), (1, 1)] M _)⟩
  refine w_il hK rfl rfl ?_
  refine w_call [(1, 1), (0, ((sg 1 c).val : Int)), (0, (x.val : Int))] hK rfl rfl rfl rfl (Or.inr ⟨_, _, _, rfl, by decide, (Nat.lt_of_lt_of_le (by decide) hb), rfl⟩) (c_prod hb F (sg 1 c) x ) ?_
  rintro _ Mq ⟨rfl, e_⟩
  subst Mq
  have bv_ := el_I (ml (sg 1 c) x)
  refine ⟨by show (0 : Nat) ≠ 9; decide, (?_ : Wp b _ 17 8 [(1, 1), (0, (x.val : Int)), (0, (c.val : Int))] [(0, ((ml (sg 1 c) x).val : Int)), (1, 1)] M _)⟩
  refine w_il hK rfl rfl ?_
  refine w_call [(1, 1), (0, ((ml (sg 1 c) x).val : Int)), (0, (c.val : Int))] hK rfl rfl rfl rfl (Or.inr ⟨_, _, _, rfl, by decide, (Nat.lt_of_lt_of_le (by decide) hb), rfl⟩) (c_ratio hb F (ml (sg 1 c) x) c ) ?_
  rintro _ Mq ⟨rfl, e_⟩
  subst Mq
  have bv_ := el_I (ml (ml (sg 1 c) x) (iv c))
  refine ⟨by show (0 : Nat) ≠ 9; decide, (?_ : Wp b _ 17 10 [(1, 1), (0, (x.val : Int)), (0, (c.val : Int))] [(0, ((ml (ml (sg 1 c) x) (iv c)).val : Int))] M _)⟩
  refine w_iret hK rfl rfl ?_
  exact ⟨rfl, rfl⟩
/-- a bit is set -/
def bset (s v : Int) : Int := (i32 s ||| i32 (i32 1 <<< (i32 v &&& 31)).toInt).toInt
theorem bset_I (s v : Int) : -2147483648 ≤ bset s v ∧ bset s v ≤ 2147483647 := by
  unfold bset
  have h1 := Int32.le_toInt (i32 s ||| i32 (i32 1 <<< (i32 v &&& 31)).toInt)
  have h2 := Int32.toInt_lt (i32 s ||| i32 (i32 1 <<< (i32 v &&& 31)).toInt)
  omega
/-- what conjugates() answers, from those of 1 .. n -/
def cjs {k : Nat} (a : El k) : Nat → Int
  | 0 => 0
  | n + 1 => bset (cjs a n) ((cjg a (el k (n + 1))).val : Int)
set_option maxRecDepth 100000 in
theorem c_conjs {b d : Nat} {M : Mem} {k : Nat} (hb : 7 ≤ b) (F : FS M k) (x : El k) : Ct b (d + 3) 16 [(1, 1), (0, (x.val : Int))] M (fun r M' => r = (0, cjs x (qq k - 1)) ∧ M' = M) := by
  have hK : cd 16 = k16 := rfl
  obtain ⟨hk4, ⟨fk, fq, fp, fm⟩, fS, fP, fI, fV, fN⟩ := id F
  have q1 := qq_I k
  have m1 := mm_I k
  have p1 := pp_I k
  have bd_x := el_I x
  show Wp b _ 16 0 [(1, 1), (0, (x.val : Int)), (3, 0), (3, 0)] [] M _
  refine w_ic hK rfl ?_
  refine w_is [(1, 1), (0, (x.val : Int)), (0, 0), (3, 0)] hK rfl rfl rfl ?_
  refine w_ic hK rfl ?_
  refine w_is [(1, 1), (0, (x.val : Int)), (0, 0), (0, 1)] hK rfl rfl rfl ?_
  have lp4 : ∀ (n_ : Nat) (i : Nat), qq k - i = n_ → (i ≤ qq k - 1) → Wp b (d + 3) 16 4 [(1, 1), (0, (x.val : Int)), (0, cjs x i), (0, (((i + 1) : Nat) : Int))] [] M (fun r M' => r = (0, cjs x (qq k - 1)) ∧ M' = M) := by
    intro n_
    induction n_ using Nat.strongRecOn with
    | _ n_ ih4 =>
    intro i  hm4 hi
    refine w_il hK rfl rfl ?_
    refine w_al hK rfl rfl ?_
    refine w_geti (n := 1) (m := 1) hK rfl rfl (by decide) (Nat.lt_of_lt_of_le (by decide) hb) rfl rfl rfl rfl ?_
    rw [show M 1 1 = (qq k : Int) from F.q]
    refine w_ge2 hK rfl (by omega) (by omega) (by omega) (by omega) (fun h7 => ?_) (fun h7 => ?_)
    · refine w_il hK rfl rfl ?_
      refine w_iret hK rfl rfl ?_
      have e : i = qq k - 1 := by omega
      subst e
      exact ⟨rfl, rfl⟩
    · refine w_il hK rfl rfl ?_
      refine w_ic hK rfl ?_
      refine w_al hK rfl rfl ?_
      refine w_il hK rfl rfl ?_
      refine w_il hK rfl rfl ?_
      refine w_call [(1, 1), (0, (x.val : Int)), (0, (((i + 1) : Nat) : Int))] hK rfl rfl rfl rfl (Or.inr ⟨_, _, _, rfl, by decide, (Nat.lt_of_lt_of_le (by decide) hb), rfl⟩) (Ct.cv (c_conj hb F x (el k (i + 1)) ) (by simp only [(elN (k := k) (n := (i + 1)) (by omega))])) ?_
      rintro _ Mq ⟨rfl, e_⟩
      subst Mq
      have bv_ := el_I (cjg x (el k (i + 1)))
      refine ⟨by show (0 : Nat) ≠ 9; decide, (?_ : Wp b _ 16 14 [(1, 1), (0, (x.val : Int)), (0, cjs x i), (0, (((i + 1) : Nat) : Int))] [(0, ((cjg x (el k (i + 1))).val : Int)), (0, 1), (0, cjs x i)] M _)⟩
      refine w_bin (w := i32 1 <<< (i32 ((cjg x (el k (i + 1))).val : Int) &&& 31)) hK rfl rfl rfl ?_
      refine w_bin (w := i32 (cjs x i) ||| i32 ((i32 1 <<< (i32 ((cjg x (el k (i + 1))).val : Int) &&& 31)).toInt)) hK rfl rfl rfl ?_
      refine w_is [(1, 1), (0, (x.val : Int)), (0, (i32 (cjs x i) ||| i32 ((i32 1 <<< (i32 ((cjg x (el k (i + 1))).val : Int) &&& 31)).toInt)).toInt), (0, (((i + 1) : Nat) : Int))] hK rfl rfl rfl ?_
      refine w_inc [(1, 1), (0, (x.val : Int)), (0, (i32 (cjs x i) ||| i32 ((i32 1 <<< (i32 ((cjg x (el k (i + 1))).val : Int) &&& 31)).toInt)).toInt), (0, ((((i + 1) : Nat) : Int) + 1))] hK rfl rfl rfl (by omega) (by omega) rfl ?_
      refine w_goto hK rfl ?_
      exact ih4 _ (by omega) (i + 1)  rfl (by omega)
  exact lp4 _ 0  rfl (by omega)
def unt (k s : Nat) : Nat := pp k ^ s
theorem unt_le {k s : Nat} (h : s ≤ mm k) : unt k s ≤ 16 ∧ 1 ≤ unt k s := by
  have h1 : pp k ^ s ≤ pp k ^ mm k := Nat.pow_le_pow_right (by have := pp_ge k; omega) h
  rw [← qq_pm] at h1
  have := qq_le k
  have h3 : pp k ^ 0 ≤ pp k ^ s := Nat.pow_le_pow_right (by have := pp_ge k; omega) (Nat.zero_le s)
  rw [Nat.pow_zero] at h3
  exact ⟨by unfold unt; omega, by unfold unt; exact h3⟩
theorem unt_mul (k s : Nat) : (unt k s : Int) * (pp k : Int) = (unt k (s + 1) : Int) := by unfold unt; rw [Nat.pow_succ, Int.natCast_mul]
set_option maxRecDepth 100000 in
theorem c_unit {b d : Nat} {M : Mem} {k : Nat} (hb : 7 ≤ b) (F : FS M k) (j : Nat) (hj : j ≤ mm k) : Ct b (d) 9 [(1, 1), (0, (j : Int))] M (fun r M' => r = (0, (unt k j : Int)) ∧ M' = M) := by
  have hK : cd 9 = k9 := rfl
  obtain ⟨hk4, ⟨fk, fq, fp, fm⟩, fS, fP, fI, fV, fN⟩ := id F
  have q1 := qq_I k
  have m1 := mm_I k
  have p1 := pp_I k
  show Wp b _ 9 0 [(1, 1), (0, (j : Int)), (3, 0), (3, 0)] [] M _
  refine w_ic hK rfl ?_
  refine w_is [(1, 1), (0, (j : Int)), (0, 1), (3, 0)] hK rfl rfl rfl ?_
  refine w_ic hK rfl ?_
  refine w_is [(1, 1), (0, (j : Int)), (0, 1), (0, 0)] hK rfl rfl rfl ?_
  have lp4 : ∀ (n_ : Nat) (i : Nat), j - i = n_ → (i ≤ j) → Wp b (d) 9 4 [(1, 1), (0, (j : Int)), (0, (unt k i : Int)), (0, (i : Int))] [] M (fun r M' => r = (0, (unt k j : Int)) ∧ M' = M) := by
    intro n_
    induction n_ using Nat.strongRecOn with
    | _ n_ ih4 =>
    intro i  hm4 hi
    have u1 := unt_le (k := k) (s := i) (by omega)
    have u2 := unt_mul k i
    have u3 : i < j → unt k (i + 1) ≤ 16 := fun q => (unt_le (by omega)).1
    refine w_il hK rfl rfl ?_
    refine w_il hK rfl rfl ?_
    refine w_ge2 hK rfl (by omega) (by omega) (by omega) (by omega) (fun h6 => ?_) (fun h6 => ?_)
    · refine w_il hK rfl rfl ?_
      refine w_iret hK rfl rfl ?_
      have e : i = j := by omega
      subst e
      exact ⟨rfl, rfl⟩
    · refine w_il hK rfl rfl ?_
      refine w_al hK rfl rfl ?_
      refine w_geti (n := 3) (m := 3) hK rfl rfl (by decide) (Nat.lt_of_lt_of_le (by decide) hb) rfl rfl rfl rfl ?_
      rw [show M 1 3 = (mm k : Int) from F.m]
      refine w_ge2 hK rfl (by omega) (by omega) (by omega) (by omega) (fun h10 => ?_) (fun h10 => ?_)
      · exfalso; omega
      · refine w_il hK rfl rfl ?_
        refine w_al hK rfl rfl ?_
        refine w_geti (n := 2) (m := 2) hK rfl rfl (by decide) (Nat.lt_of_lt_of_le (by decide) hb) rfl rfl rfl rfl ?_
        rw [show M 1 2 = (pp k : Int) from F.p]
        refine w_mul hK rfl (by omega) (by omega) ?_
        refine w_is [(1, 1), (0, (j : Int)), (0, ((unt k i : Int) * (pp k : Int))), (0, (i : Int))] hK rfl rfl rfl ?_
        refine w_inc [(1, 1), (0, (j : Int)), (0, ((unt k i : Int) * (pp k : Int))), (0, ((i : Int) + 1))] hK rfl rfl rfl (by omega) (by omega) rfl ?_
        refine w_goto hK rfl ?_
        have q4 := ih4 _ (by omega) (i + 1)  rfl (by omega)
        rw [← unt_mul k i] at q4
        exact q4
  exact lp4 _ 0  rfl (by omega)
