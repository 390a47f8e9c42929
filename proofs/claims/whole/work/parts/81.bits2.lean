/-! bits counted -/
def bc1 (x : Nat) : Nat := x - ((x >>> 1) &&& 1431655765)
def bc2 (x : Nat) : Nat := (bc1 x &&& 858993459) + ((bc1 x >>> 2) &&& 858993459)
def bc3 (x : Nat) : Nat := (bc2 x + (bc2 x >>> 4)) &&& 252645135
def bc4 (x : Nat) : Nat := bc3 x + (bc3 x >>> 8)
def bc5 (x : Nat) : Nat := (bc4 x + (bc4 x >>> 16)) &&& 63
/-- all of 2^k numbers from lo on */ -/
def allR (f : Nat → Bool) (lo : Nat) : Nat → Bool
  | 0 => f lo
  | k + 1 => allR f lo k && allR f (lo + 2 ^ k) k
theorem allR_spec {f : Nat → Bool} : ∀ {k lo : Nat}, allR f lo k = true → ∀ n : Nat, lo ≤ n → n < lo + 2 ^ k → f n = true
  | 0, lo, h, n, h1, h2 => by
    have e : n = lo := by rw [Nat.pow_zero] at h2; omega
    rw [e]; exact h
  | k + 1, lo, h, n, h1, h2 => by
    have h3 : (allR f lo k && allR f (lo + 2 ^ k) k) = true := h
    rw [Bool.and_eq_true] at h3
    rw [Nat.pow_succ] at h2
    by_cases c : n < lo + 2 ^ k
    · exact allR_spec h3.1 n h1 c
    · exact allR_spec h3.2 n (by omega) (by omega)
def bck (n : Nat) : Bool := Nat.beq n 0 || Nat.beq (bc5 (n &&& (n - 1)) + 1) (bc5 n)
theorem bck_0 : allR bck 0 10 = true := by decide +kernel
theorem bck_1 : allR bck 1024 10 = true := by decide +kernel
theorem bck_2 : allR bck 2048 10 = true := by decide +kernel
theorem bck_3 : allR bck 3072 10 = true := by decide +kernel
theorem bck_4 : allR bck 4096 10 = true := by decide +kernel
theorem bck_5 : allR bck 5120 10 = true := by decide +kernel
theorem bck_6 : allR bck 6144 10 = true := by decide +kernel
theorem bck_7 : allR bck 7168 10 = true := by decide +kernel
theorem bck_8 : allR bck 8192 10 = true := by decide +kernel
theorem bck_9 : allR bck 9216 10 = true := by decide +kernel
theorem bck_10 : allR bck 10240 10 = true := by decide +kernel
theorem bck_11 : allR bck 11264 10 = true := by decide +kernel
theorem bck_12 : allR bck 12288 10 = true := by decide +kernel
theorem bck_13 : allR bck 13312 10 = true := by decide +kernel
theorem bck_14 : allR bck 14336 10 = true := by decide +kernel
theorem bck_15 : allR bck 15360 10 = true := by decide +kernel
theorem bck_16 : allR bck 16384 10 = true := by decide +kernel
theorem bck_17 : allR bck 17408 10 = true := by decide +kernel
theorem bck_18 : allR bck 18432 10 = true := by decide +kernel
theorem bck_19 : allR bck 19456 10 = true := by decide +kernel
theorem bck_20 : allR bck 20480 10 = true := by decide +kernel
theorem bck_21 : allR bck 21504 10 = true := by decide +kernel
theorem bck_22 : allR bck 22528 10 = true := by decide +kernel
theorem bck_23 : allR bck 23552 10 = true := by decide +kernel
theorem bck_24 : allR bck 24576 10 = true := by decide +kernel
theorem bck_25 : allR bck 25600 10 = true := by decide +kernel
theorem bck_26 : allR bck 26624 10 = true := by decide +kernel
theorem bck_27 : allR bck 27648 10 = true := by decide +kernel
theorem bck_28 : allR bck 28672 10 = true := by decide +kernel
theorem bck_29 : allR bck 29696 10 = true := by decide +kernel
theorem bck_30 : allR bck 30720 10 = true := by decide +kernel
theorem bck_31 : allR bck 31744 10 = true := by decide +kernel
theorem bck_32 : allR bck 32768 10 = true := by decide +kernel
theorem bck_33 : allR bck 33792 10 = true := by decide +kernel
theorem bck_34 : allR bck 34816 10 = true := by decide +kernel
theorem bck_35 : allR bck 35840 10 = true := by decide +kernel
theorem bck_36 : allR bck 36864 10 = true := by decide +kernel
theorem bck_37 : allR bck 37888 10 = true := by decide +kernel
theorem bck_38 : allR bck 38912 10 = true := by decide +kernel
theorem bck_39 : allR bck 39936 10 = true := by decide +kernel
theorem bck_40 : allR bck 40960 10 = true := by decide +kernel
theorem bck_41 : allR bck 41984 10 = true := by decide +kernel
theorem bck_42 : allR bck 43008 10 = true := by decide +kernel
theorem bck_43 : allR bck 44032 10 = true := by decide +kernel
theorem bck_44 : allR bck 45056 10 = true := by decide +kernel
theorem bck_45 : allR bck 46080 10 = true := by decide +kernel
theorem bck_46 : allR bck 47104 10 = true := by decide +kernel
theorem bck_47 : allR bck 48128 10 = true := by decide +kernel
theorem bck_48 : allR bck 49152 10 = true := by decide +kernel
theorem bck_49 : allR bck 50176 10 = true := by decide +kernel
theorem bck_50 : allR bck 51200 10 = true := by decide +kernel
theorem bck_51 : allR bck 52224 10 = true := by decide +kernel
theorem bck_52 : allR bck 53248 10 = true := by decide +kernel
theorem bck_53 : allR bck 54272 10 = true := by decide +kernel
theorem bck_54 : allR bck 55296 10 = true := by decide +kernel
theorem bck_55 : allR bck 56320 10 = true := by decide +kernel
theorem bck_56 : allR bck 57344 10 = true := by decide +kernel
theorem bck_57 : allR bck 58368 10 = true := by decide +kernel
theorem bck_58 : allR bck 59392 10 = true := by decide +kernel
theorem bck_59 : allR bck 60416 10 = true := by decide +kernel
theorem bck_60 : allR bck 61440 10 = true := by decide +kernel
theorem bck_61 : allR bck 62464 10 = true := by decide +kernel
theorem bck_62 : allR bck 63488 10 = true := by decide +kernel
theorem bck_63 : allR bck 64512 10 = true := by decide +kernel
theorem bck_all : ∀ i : Nat, i < 64 → allR bck (1024 * i) 10 = true
  | 0, _ => bck_0
  | 1, _ => bck_1
  | 2, _ => bck_2
  | 3, _ => bck_3
  | 4, _ => bck_4
  | 5, _ => bck_5
  | 6, _ => bck_6
  | 7, _ => bck_7
  | 8, _ => bck_8
  | 9, _ => bck_9
  | 10, _ => bck_10
  | 11, _ => bck_11
  | 12, _ => bck_12
  | 13, _ => bck_13
  | 14, _ => bck_14
  | 15, _ => bck_15
  | 16, _ => bck_16
  | 17, _ => bck_17
  | 18, _ => bck_18
  | 19, _ => bck_19
  | 20, _ => bck_20
  | 21, _ => bck_21
  | 22, _ => bck_22
  | 23, _ => bck_23
  | 24, _ => bck_24
  | 25, _ => bck_25
  | 26, _ => bck_26
  | 27, _ => bck_27
  | 28, _ => bck_28
  | 29, _ => bck_29
  | 30, _ => bck_30
  | 31, _ => bck_31
  | 32, _ => bck_32
  | 33, _ => bck_33
  | 34, _ => bck_34
  | 35, _ => bck_35
  | 36, _ => bck_36
  | 37, _ => bck_37
  | 38, _ => bck_38
  | 39, _ => bck_39
  | 40, _ => bck_40
  | 41, _ => bck_41
  | 42, _ => bck_42
  | 43, _ => bck_43
  | 44, _ => bck_44
  | 45, _ => bck_45
  | 46, _ => bck_46
  | 47, _ => bck_47
  | 48, _ => bck_48
  | 49, _ => bck_49
  | 50, _ => bck_50
  | 51, _ => bck_51
  | 52, _ => bck_52
  | 53, _ => bck_53
  | 54, _ => bck_54
  | 55, _ => bck_55
  | 56, _ => bck_56
  | 57, _ => bck_57
  | 58, _ => bck_58
  | 59, _ => bck_59
  | 60, _ => bck_60
  | 61, _ => bck_61
  | 62, _ => bck_62
  | 63, _ => bck_63
  | n + 64, h => by omega
theorem pc_and0 {n : Nat} (h : n < 65536) (h0 : n ≠ 0) : bc5 (n &&& (n - 1)) + 1 = bc5 n := by
  have h1 := allR_spec (bck_all (n / 1024) (by omega)) n (by omega) (by omega)
  unfold bck at h1
  rw [Bool.or_eq_true] at h1
  rcases h1 with h2 | h2
  · exact absurd (Nat.eq_of_beq_eq_true h2) h0
  · exact Nat.eq_of_beq_eq_true h2
theorem nx_andI (a b : Nat) : nI a &&& nI b = nI (a &&& b) := by
  apply Int32.toBitVec_inj.1
  show BitVec.ofNat 32 a &&& BitVec.ofNat 32 b = BitVec.ofNat 32 (a &&& b)
  apply BitVec.eq_of_getLsbD_eq
  intro i hi
  simp [hi]
theorem i32_n16 {n : Nat} (h : n < 65536) : i32 (n : Int) = nI n := by
  rw [i32_small (by omega) (by omega), Int.toNat_natCast]
theorem iw_and {a : Nat} (ha : a < 65536) {z : Int} {c : Nat} (hz : i32 z = nI c) : i32 (a : Int) &&& i32 z = i32 ((a &&& c : Nat) : Int) := by
  rw [i32_n16 ha, hz, nx_andI, ← i32_n16]
  have := Nat.and_le_left (n := a) (m := c)
  omega
theorem iw_ush {a s : Nat} (ha : a < 65536) (hs : s < 32) {z : Int} (hz : i32 z = nI s) : ((i32 (a : Int)).toUInt32 >>> ((i32 z).toUInt32 &&& Int32.toUInt32 31)).toInt32 = i32 ((a >>> s : Nat) : Int) := by
  have hle : a >>> s ≤ a := by rw [Nat.shiftRight_eq_div_pow]; exact Nat.div_le_self _ _
  have hc : ∀ j : Fin 32, (UInt32.ofNat j.val &&& Int32.toUInt32 31).toNat % 32 = j.val := by decide +kernel
  have e2 : UInt32.ofNat a >>> (UInt32.ofNat s &&& Int32.toUInt32 31) = UInt32.ofNat (a >>> s) := by
    apply UInt32.toNat_inj.1
    have h1 : (UInt32.ofNat a).toNat = a := Nat.mod_eq_of_lt (by omega)
    have h2 : (UInt32.ofNat (a >>> s)).toNat = a >>> s := Nat.mod_eq_of_lt (by omega)
    rw [UInt32.toNat_shiftRight, hc ⟨s, hs⟩, h1, h2]
  rw [i32_n16 ha, hz, i32_n16 (by omega)]
  show (UInt32.ofNat a >>> (UInt32.ofNat s &&& Int32.toUInt32 31)).toInt32 = _
  rw [e2]
  rfl
theorem shr_le (a s : Nat) : a >>> s ≤ a := by rw [Nat.shiftRight_eq_div_pow]; exact Nat.div_le_self _ _
theorem m33 {n : Nat} (h : n < 65536) : n &&& 858993459 ≤ 13107 := by
  have e : n &&& 858993459 = n &&& 13107 := by
    apply Nat.eq_of_testBit_eq
    intro i
    rw [Nat.testBit_and, Nat.testBit_and]
    by_cases c : i < 16
    · have h3 : ∀ i : Fin 16, Nat.testBit 858993459 i.val = Nat.testBit 13107 i.val := by decide
      rw [h3 ⟨i, c⟩]
    · rw [Nat.testBit_lt_two_pow (Nat.lt_of_lt_of_le h (Nat.pow_le_pow_right (by decide) (show 16 ≤ i by omega) : 2 ^ 16 ≤ 2 ^ i)), Bool.false_and, Bool.false_and]
  rw [e]; exact Nat.and_le_right
theorem m0f {n : Nat} (h : n < 65536) : n &&& 252645135 ≤ 3855 := by
  have e : n &&& 252645135 = n &&& 3855 := by
    apply Nat.eq_of_testBit_eq
    intro i
    rw [Nat.testBit_and, Nat.testBit_and]
    by_cases c : i < 16
    · have h3 : ∀ i : Fin 16, Nat.testBit 252645135 i.val = Nat.testBit 3855 i.val := by decide
      rw [h3 ⟨i, c⟩]
    · rw [Nat.testBit_lt_two_pow (Nat.lt_of_lt_of_le h (Nat.pow_le_pow_right (by decide) (show 16 ≤ i by omega) : 2 ^ 16 ≤ 2 ^ i)), Bool.false_and, Bool.false_and]
  rw [e]; exact Nat.and_le_right
theorem iw_add (a b : Nat) : i32 (a : Int) + i32 (b : Int) = i32 ((a + b : Nat) : Int) := by
  unfold i32
  rw [← Int32.ofInt_add]
  rfl
theorem iw_sub {a b : Nat} (h : b ≤ a) : i32 (a : Int) - i32 (b : Int) = i32 ((a - b : Nat) : Int) := by
  unfold i32
  rw [← Int32.ofInt_sub]
  congr 1
  omega
theorem bcw_pc {n : Nat} (h : n < 65536) : bcw (n : Int) = (bc5 n : Int) := by
  have s1 : n >>> 1 &&& 1431655765 ≤ n := Nat.le_trans Nat.and_le_left (shr_le _ _)
  have l1 : bc1 n < 65536 := by unfold bc1; omega
  have d1 := shr_le n 1
  have d2 := shr_le (bc1 n) 2
  have s2 := m33 l1
  have s3 := m33 (show bc1 n >>> 2 < 65536 by omega)
  have m2 : bc2 n ≤ 26214 := by unfold bc2; omega
  have d3 := shr_le (bc2 n) 4
  have s4 : bc3 n ≤ 3855 := m0f (n := bc2 n + bc2 n >>> 4) (by omega)
  have d5 := shr_le (bc3 n) 8
  have m4 : bc4 n ≤ 7710 := by unfold bc4; omega
  have d6 := shr_le (bc4 n) 16
  unfold bcw
  simp only [i32_i]
  rw [iw_ush h (s := 1) (by decide) (by decide), iw_and (c := 1431655765) (show n >>> 1 < 65536 by omega) (by decide), iw_sub s1, show n - (n >>> 1 &&& 1431655765) = bc1 n from rfl,
    iw_and (c := 858993459) l1 (by decide), iw_ush l1 (s := 2) (by decide) (by decide), iw_and (c := 858993459) (show bc1 n >>> 2 < 65536 by omega) (by decide), iw_add, show (bc1 n &&& 858993459) + (bc1 n >>> 2 &&& 858993459) = bc2 n from rfl,
    iw_ush (show bc2 n < 65536 by omega) (s := 4) (by decide) (by decide), iw_add, iw_and (c := 252645135) (show bc2 n + bc2 n >>> 4 < 65536 by omega) (by decide), show bc2 n + bc2 n >>> 4 &&& 252645135 = bc3 n from rfl,
    iw_ush (show bc3 n < 65536 by omega) (s := 8) (by decide) (by decide), iw_add, show bc3 n + bc3 n >>> 8 = bc4 n from rfl,
    iw_ush (show bc4 n < 65536 by omega) (s := 16) (by decide) (by decide), iw_add, iw_and (c := 63) (show bc4 n + bc4 n >>> 16 < 65536 by omega) (by decide)]
  show (i32 ((bc5 n : Nat) : Int)).toInt = ((bc5 n : Nat) : Int)
  exact i32_in (by omega) (by
    have : bc5 n ≤ bc4 n + bc4 n >>> 16 := Nat.and_le_left
    omega)
