/-! sets of numbers, bit by bit -/
def allR (f : Nat → Bool) (lo : Nat) : Nat → Bool
  | 0 => f lo
  | k + 1 => allR f lo k && allR f (lo + 2 ^ k) k
theorem allR_spec {f : Nat → Bool} : ∀ {k lo : Nat}, allR f lo k = true → ∀ n : Nat, lo ≤ n → n < lo + 2 ^ k → f n = true
  | 0, lo, h, n, h1, h2 => by
    have e : n = lo := by rw [Nat.pow_zero] at h2; omega
    rw [e]; exact h
  | k + 1, lo, h, n, h1, h2 => by
    have h3 : (allR f lo k && allR f (lo + 2 ^ k) k) = true := h
    rw [Bool.and_eq_true] at h3
    rw [Nat.pow_succ] at h2
    by_cases c : n < lo + 2 ^ k
    · exact allR_spec h3.1 n h1 c
    · exact allR_spec h3.2 n (by omega) (by omega)
def pcs (n : Nat) : Nat → Nat
  | 0 => 0
  | m + 1 => pcs n m + n / 2 ^ m % 2
def pck (n : Nat) : Bool := Nat.beq (bc5 n) (pcs n 16)
theorem pck_0 : allR pck 0 10 = true := by decide +kernel
theorem pck_1 : allR pck 1024 10 = true := by decide +kernel
theorem pck_2 : allR pck 2048 10 = true := by decide +kernel
theorem pck_3 : allR pck 3072 10 = true := by decide +kernel
theorem pck_4 : allR pck 4096 10 = true := by decide +kernel
theorem pck_5 : allR pck 5120 10 = true := by decide +kernel
theorem pck_6 : allR pck 6144 10 = true := by decide +kernel
theorem pck_7 : allR pck 7168 10 = true := by decide +kernel
theorem pck_8 : allR pck 8192 10 = true := by decide +kernel
theorem pck_9 : allR pck 9216 10 = true := by decide +kernel
theorem pck_10 : allR pck 10240 10 = true := by decide +kernel
theorem pck_11 : allR pck 11264 10 = true := by decide +kernel
theorem pck_12 : allR pck 12288 10 = true := by decide +kernel
theorem pck_13 : allR pck 13312 10 = true := by decide +kernel
theorem pck_14 : allR pck 14336 10 = true := by decide +kernel
theorem pck_15 : allR pck 15360 10 = true := by decide +kernel
theorem pck_16 : allR pck 16384 10 = true := by decide +kernel
theorem pck_17 : allR pck 17408 10 = true := by decide +kernel
theorem pck_18 : allR pck 18432 10 = true := by decide +kernel
theorem pck_19 : allR pck 19456 10 = true := by decide +kernel
theorem pck_20 : allR pck 20480 10 = true := by decide +kernel
theorem pck_21 : allR pck 21504 10 = true := by decide +kernel
theorem pck_22 : allR pck 22528 10 = true := by decide +kernel
theorem pck_23 : allR pck 23552 10 = true := by decide +kernel
theorem pck_24 : allR pck 24576 10 = true := by decide +kernel
theorem pck_25 : allR pck 25600 10 = true := by decide +kernel
theorem pck_26 : allR pck 26624 10 = true := by decide +kernel
theorem pck_27 : allR pck 27648 10 = true := by decide +kernel
theorem pck_28 : allR pck 28672 10 = true := by decide +kernel
theorem pck_29 : allR pck 29696 10 = true := by decide +kernel
theorem pck_30 : allR pck 30720 10 = true := by decide +kernel
theorem pck_31 : allR pck 31744 10 = true := by decide +kernel
theorem pck_32 : allR pck 32768 10 = true := by decide +kernel
theorem pck_33 : allR pck 33792 10 = true := by decide +kernel
theorem pck_34 : allR pck 34816 10 = true := by decide +kernel
theorem pck_35 : allR pck 35840 10 = true := by decide +kernel
theorem pck_36 : allR pck 36864 10 = true := by decide +kernel
theorem pck_37 : allR pck 37888 10 = true := by decide +kernel
theorem pck_38 : allR pck 38912 10 = true := by decide +kernel
theorem pck_39 : allR pck 39936 10 = true := by decide +kernel
theorem pck_40 : allR pck 40960 10 = true := by decide +kernel
theorem pck_41 : allR pck 41984 10 = true := by decide +kernel
theorem pck_42 : allR pck 43008 10 = true := by decide +kernel
theorem pck_43 : allR pck 44032 10 = true := by decide +kernel
theorem pck_44 : allR pck 45056 10 = true := by decide +kernel
theorem pck_45 : allR pck 46080 10 = true := by decide +kernel
theorem pck_46 : allR pck 47104 10 = true := by decide +kernel
theorem pck_47 : allR pck 48128 10 = true := by decide +kernel
theorem pck_48 : allR pck 49152 10 = true := by decide +kernel
theorem pck_49 : allR pck 50176 10 = true := by decide +kernel
theorem pck_50 : allR pck 51200 10 = true := by decide +kernel
theorem pck_51 : allR pck 52224 10 = true := by decide +kernel
theorem pck_52 : allR pck 53248 10 = true := by decide +kernel
theorem pck_53 : allR pck 54272 10 = true := by decide +kernel
theorem pck_54 : allR pck 55296 10 = true := by decide +kernel
theorem pck_55 : allR pck 56320 10 = true := by decide +kernel
theorem pck_56 : allR pck 57344 10 = true := by decide +kernel
theorem pck_57 : allR pck 58368 10 = true := by decide +kernel
theorem pck_58 : allR pck 59392 10 = true := by decide +kernel
theorem pck_59 : allR pck 60416 10 = true := by decide +kernel
theorem pck_60 : allR pck 61440 10 = true := by decide +kernel
theorem pck_61 : allR pck 62464 10 = true := by decide +kernel
theorem pck_62 : allR pck 63488 10 = true := by decide +kernel
theorem pck_63 : allR pck 64512 10 = true := by decide +kernel
theorem pck_all : ∀ q : Nat, q < 64 → allR pck (1024 * q) 10 = true
  | 0, _ => pck_0
  | 1, _ => pck_1
  | 2, _ => pck_2
  | 3, _ => pck_3
  | 4, _ => pck_4
  | 5, _ => pck_5
  | 6, _ => pck_6
  | 7, _ => pck_7
  | 8, _ => pck_8
  | 9, _ => pck_9
  | 10, _ => pck_10
  | 11, _ => pck_11
  | 12, _ => pck_12
  | 13, _ => pck_13
  | 14, _ => pck_14
  | 15, _ => pck_15
  | 16, _ => pck_16
  | 17, _ => pck_17
  | 18, _ => pck_18
  | 19, _ => pck_19
  | 20, _ => pck_20
  | 21, _ => pck_21
  | 22, _ => pck_22
  | 23, _ => pck_23
  | 24, _ => pck_24
  | 25, _ => pck_25
  | 26, _ => pck_26
  | 27, _ => pck_27
  | 28, _ => pck_28
  | 29, _ => pck_29
  | 30, _ => pck_30
  | 31, _ => pck_31
  | 32, _ => pck_32
  | 33, _ => pck_33
  | 34, _ => pck_34
  | 35, _ => pck_35
  | 36, _ => pck_36
  | 37, _ => pck_37
  | 38, _ => pck_38
  | 39, _ => pck_39
  | 40, _ => pck_40
  | 41, _ => pck_41
  | 42, _ => pck_42
  | 43, _ => pck_43
  | 44, _ => pck_44
  | 45, _ => pck_45
  | 46, _ => pck_46
  | 47, _ => pck_47
  | 48, _ => pck_48
  | 49, _ => pck_49
  | 50, _ => pck_50
  | 51, _ => pck_51
  | 52, _ => pck_52
  | 53, _ => pck_53
  | 54, _ => pck_54
  | 55, _ => pck_55
  | 56, _ => pck_56
  | 57, _ => pck_57
  | 58, _ => pck_58
  | 59, _ => pck_59
  | 60, _ => pck_60
  | 61, _ => pck_61
  | 62, _ => pck_62
  | 63, _ => pck_63
  | n + 64, h => by omega
theorem pc_all {n : Nat} (h : n < 65536) : bc5 n = pcs n 16 := Nat.eq_of_beq_eq_true (allR_spec (pck_all (n / 1024) (by omega)) n (by omega) (by omega))
def Sb (x : Int) (P : Nat → Prop) : Prop := ∃ N : Nat, N < 65536 ∧ x = (N : Int) ∧ ∀ i : Nat, N.testBit i = true ↔ P i
theorem Sb.I {x : Int} {P : Nat → Prop} (h : Sb x P) : 0 ≤ x ∧ x < 65536 := by
  obtain ⟨N, h1, h2, _⟩ := h
  omega
theorem Sb.of {x : Int} (h0 : 0 ≤ x) (h1 : x < 65536) : Sb x (fun i => x.toNat.testBit i = true) := ⟨x.toNat, by omega, by omega, fun _ => Iff.rfl⟩
theorem Sb.congr {x : Int} {P Q : Nat → Prop} (h : Sb x P) (e : ∀ i, P i ↔ Q i) : Sb x Q := by
  obtain ⟨N, h1, h2, h3⟩ := h
  exact ⟨N, h1, h2, fun i => (h3 i).trans (e i)⟩
theorem Sb.uniq {x y : Int} {P Q : Nat → Prop} (h : Sb x P) (h' : Sb y Q) (e : ∀ i, P i ↔ Q i) : x = y := by
  obtain ⟨N, _, h2, h3⟩ := h
  obtain ⟨N', _, h2', h3'⟩ := h'
  have : N = N' := Nat.eq_of_testBit_eq fun i => Bool.eq_iff_iff.mpr ((h3 i).trans ((e i).trans (h3' i).symm))
  rw [h2, h2', this]
theorem Sb.z : Sb 0 (fun _ => False) := ⟨0, by decide, rfl, fun i => by rw [Nat.zero_testBit]; simp⟩
theorem bset_N {n v : Nat} (hn : n < 65536) (hv : v ≤ 15) : bset (n : Int) (v : Int) = ((n ||| 2 ^ v : Nat) : Int) ∧ n ||| 2 ^ v < 65536 := by
  have h2 : i32 (i32 1 <<< (i32 (v : Int) &&& 31)).toInt = nI (2 ^ v) := sh1_N ⟨v, by omega⟩
  have h3 : 2 ^ v < 65536 := Nat.pow_lt_pow_right (by decide) (show v < 16 by omega)
  have h : n ||| 2 ^ v < 65536 := Nat.or_lt_two_pow (n := 16) hn h3
  refine ⟨?_, h⟩
  unfold bset
  rw [h2, i32_n16 hn, nx_orI, nI_int (by omega)]
theorem Sb.set {x : Int} {P : Nat → Prop} {v : Nat} (h : Sb x P) (hv : v ≤ 15) : Sb (bset x (v : Int)) (fun i => P i ∨ i = v) := by
  obtain ⟨N, h1, h2, h3⟩ := h
  have h4 := bset_N h1 hv
  refine ⟨N ||| 2 ^ v, h4.2, by rw [h2]; exact h4.1, fun i => ?_⟩
  rw [Nat.testBit_or, Bool.or_eq_true, h3 i, Nat.testBit_two_pow, decide_eq_true_eq]
  exact or_congr Iff.rfl eq_comm
theorem rts_S {k : Nat} (f : Pl k) : ∀ n : Nat, n ≤ 16 → Sb (rts f n) (fun i => i < n ∧ vl f (el k i) = z0)
  | 0, _ => Sb.z.congr fun i => ⟨fun h => h.elim, fun h => absurd h.1 (by omega)⟩
  | n + 1, h => by
    have ih := rts_S f n (by omega)
    unfold rts
    split
    · rename_i q
      exact (ih.set (by omega)).congr fun i => ⟨fun c => c.elim (fun c => ⟨by omega, c.2⟩) (fun c => ⟨by omega, by rw [c]; exact q⟩), fun c => by
        by_cases e : i = n
        · exact Or.inr e
        · exact Or.inl ⟨by omega, c.2⟩⟩
    · rename_i q
      exact ih.congr fun i => ⟨fun c => ⟨by omega, c.2⟩, fun c => ⟨by
        have : i ≠ n := fun e => q (by rw [← e]; exact c.2)
        omega, c.2⟩⟩
theorem dnT_S {k : Nat} (f : Pl k) (v : El k) : ∀ n : Nat, n ≤ 16 → Sb (dnT f v n) (fun i => i < n ∧ dn f (el k i) = v)
  | 0, _ => Sb.z.congr fun i => ⟨fun h => h.elim, fun h => absurd h.1 (by omega)⟩
  | n + 1, h => by
    have ih := dnT_S f v n (by omega)
    unfold dnT
    split
    · rename_i q
      exact (ih.set (by omega)).congr fun i => ⟨fun c => c.elim (fun c => ⟨by omega, c.2⟩) (fun c => ⟨by omega, by rw [c]; exact q⟩), fun c => by
        by_cases e : i = n
        · exact Or.inr e
        · exact Or.inl ⟨by omega, c.2⟩⟩
    · rename_i q
      exact ih.congr fun i => ⟨fun c => ⟨by omega, c.2⟩, fun c => ⟨by
        have : i ≠ n := fun e => q (by rw [← e]; exact c.2)
        omega, c.2⟩⟩
theorem img_S {k : Nat} (f : Pl k) : ∀ n : Nat, Sb (img f n) (fun i => ∃ j : Nat, j < n ∧ (dn f (el k j)).val = i)
  | 0 => Sb.z.congr fun i => ⟨fun h => h.elim, fun h => by obtain ⟨j, hj, _⟩ := h; omega⟩
  | n + 1 => by
    have hv := el_lt (dn f (el k n))
    refine ((img_S f n).set (v := (dn f (el k n)).val) (by omega)).congr fun i => ⟨fun c => c.elim (fun c => ?_) (fun c => ⟨n, by omega, c.symm⟩), fun c => ?_⟩
    · obtain ⟨j, hj, e⟩ := c
      exact ⟨j, by omega, e⟩
    · obtain ⟨j, hj, e⟩ := c
      by_cases q : j = n
      · exact Or.inr (by rw [← e, q])
      · exact Or.inl ⟨j, by omega, e⟩
theorem bit_N (N i : Nat) : N / 2 ^ i % 2 = if N.testBit i = true then 1 else 0 := by
  rw [Nat.testBit_eq_decide_div_mod_eq]
  split
  · rename_i h
    exact of_decide_eq_true h
  · rename_i h
    have h2 : ¬ N / 2 ^ i % 2 = 1 := fun q => h (decide_eq_true q)
    omega
theorem pcs_sI {N : Nat} {P : Nat → Prop} (h : ∀ i : Nat, N.testBit i = true ↔ P i) : ∀ m : Nat, (pcs N m : Int) = sI (fun i => bz (P i)) m
  | 0 => rfl
  | m + 1 => by
    show ((pcs N m + N / 2 ^ m % 2 : Nat) : Int) = sI (fun i => bz (P i)) m + bz (P m)
    rw [← pcs_sI h m, bit_N]
    by_cases c : P m
    · rw [bz_pos c, if_pos ((h m).mpr c)]
      omega
    · rw [bz_neg c, if_neg (fun q => c ((h m).mp q))]
      omega
theorem Sb.cnt {x : Int} {P : Nat → Prop} (h : Sb x P) : bcw x = sI (fun i => bz (P i)) 16 := by
  obtain ⟨N, h1, h2, h3⟩ := h
  rw [h2, bcw_pc h1, pc_all h1, pcs_sI h3]
theorem Sb.and32 {x y : Int} {P Q : Nat → Prop} (h : Sb x P) (h' : Sb y Q) (e : ∀ i, Q i → P i) : (i32 x &&& i32 y).toInt = y := by
  obtain ⟨N, h1, h2, h3⟩ := h
  obtain ⟨N', h1', h2', h3'⟩ := h'
  have : N &&& N' = N' := Nat.eq_of_testBit_eq fun i => by
    rw [Nat.testBit_and]
    by_cases c : N'.testBit i = true
    · rw [c, (h3 i).mpr (e i ((h3' i).mp c))]; rfl
    · rw [Bool.not_eq_true] at c
      rw [c, Bool.and_false]
  rw [h2, h2', i32_n16 h1, i32_n16 h1', nx_andI, this, nI_int (by omega)]
theorem Sb.and64 {x y : Int} {P Q : Nat → Prop} (h : Sb x P) (h' : Sb y Q) (e : ∀ i, Q i → P i) : (i64 x &&& i64 y).toInt = y := by
  obtain ⟨N, h1, h2, h3⟩ := h
  obtain ⟨N', h1', h2', h3'⟩ := h'
  have : N &&& N' = N' := Nat.eq_of_testBit_eq fun i => by
    rw [Nat.testBit_and]
    by_cases c : N'.testBit i = true
    · rw [c, (h3 i).mpr (e i ((h3' i).mp c))]; rfl
    · rw [Bool.not_eq_true] at c
      rw [c, Bool.and_false]
  rw [h2, h2']
  show (BitVec.ofInt 64 (N : Int) &&& BitVec.ofInt 64 (N' : Int)).toInt = (N' : Int)
  rw [BitVec.ofInt_natCast, BitVec.ofInt_natCast]
  have e2 : BitVec.ofNat 64 N &&& BitVec.ofNat 64 N' = BitVec.ofNat 64 (N &&& N') := by
    apply BitVec.eq_of_getLsbD_eq
    intro i hi
    simp [hi]
  have e3 : (BitVec.ofNat 64 N').toNat = N' := by
    rw [BitVec.toNat_ofNat]
    exact Nat.mod_eq_of_lt (by omega)
  rw [e2, this, BitVec.toInt_eq_toNat_of_lt (by omega), e3]
theorem shr_a : ∀ v : Fin 16, ((i32 (v.val : Int) &&& 31).toBitVec.smod 32#32).toNat = v.val := by decide +kernel
theorem iw_shr {n v : Nat} (hn : n < 65536) (hv : v ≤ 15) : (i32 (n : Int) >>> (i32 (v : Int) &&& 31)).toInt = ((n / 2 ^ v : Nat) : Int) := by
  rw [i32_n16 hn]
  show ((nI n).toBitVec.sshiftRight ((i32 (v : Int) &&& 31).toBitVec.smod 32#32).toNat).toInt = _
  rw [show ((i32 (v : Int) &&& 31).toBitVec.smod 32#32).toNat = v from shr_a ⟨v, by omega⟩, BitVec.toInt_sshiftRight]
  have e : (nI n).toBitVec.toInt = (n : Int) := nI_int (n := n) (by omega)
  rw [e, ← Int.natCast_shiftRight, Nat.shiftRight_eq_div_pow]
theorem bit32 {n v : Nat} (hn : n < 65536) (hv : v ≤ 15) : (i32 ((i32 (n : Int) >>> (i32 (v : Int) &&& 31)).toInt) &&& i32 1).toInt = ((n / 2 ^ v % 2 : Nat) : Int) := by
  rw [iw_shr hn hv]
  have h1 : n / 2 ^ v ≤ n := Nat.div_le_self _ _
  rw [i32_n16 (show n / 2 ^ v < 65536 by omega), show i32 1 = nI 1 from rfl, nx_andI, nI_int (by
    have := Nat.and_le_right (n := n / 2 ^ v) (m := 1)
    omega)]
  rw [show n / 2 ^ v &&& 1 = n / 2 ^ v % 2 from Nat.and_two_pow_sub_one_eq_mod _ 1]
theorem Sb.bit {x : Int} {P : Nat → Prop} (h : Sb x P) {v : Nat} (hv : v ≤ 15) : btst x (v : Int) = 1 ↔ P v := by
  obtain ⟨N, h1, h2, h3⟩ := h
  unfold btst
  rw [h2, bit32 h1 hv, bit_N, ← h3 v]
  split <;> simp [*]
set_option maxRecDepth 100000 in
theorem c_ones {d : Nat} {M : Mem} {n : Nat} (hn : n < 65536) : Ct 198 d 189 [(0, (n : Int))] M (fun r M' => r = (0, (pcs n 16 : Int)) ∧ M' = M) := by
  have hK : cd 189 = k189 := rfl
  show Wp 198 _ 189 0 [(0, (n : Int)), (3, 0), (3, 0)] [] M _
  refine w_ic hK rfl ?_
  refine w_is [(0, (n : Int)), (0, 0), (3, 0)] hK rfl rfl rfl ?_
  refine w_ic hK rfl ?_
  refine w_is [(0, (n : Int)), (0, 0), (0, 0)] hK rfl rfl rfl ?_
  have lp : ∀ (m j : Nat), j + m = 16 → pcs n j ≤ j → Wp 198 d 189 4 [(0, (n : Int)), (0, (pcs n j : Int)), (0, (j : Int))] [] M (fun r M' => r = (0, (pcs n 16 : Int)) ∧ M' = M) := fun m => by
    induction m with
    | zero =>
      intro j hj hp
      refine w_il hK rfl rfl ?_
      refine w_ic hK rfl ?_
      refine w_ge2 hK rfl (by omega) (by omega) (by omega) (by omega) (fun h => ?_) (fun h => ?_)
      · refine w_il hK rfl rfl ?_
        refine w_iret hK rfl rfl ?_
        rw [show j = 16 by omega]
        exact ⟨rfl, rfl⟩
      · exfalso; omega
    | succ m ih =>
      intro j hj hp
      have hs : pcs n (j + 1) = pcs n j + n / 2 ^ j % 2 := rfl
      have h2 : n / 2 ^ j % 2 < 2 := Nat.mod_lt _ (by decide)
      refine w_il hK rfl rfl ?_
      refine w_ic hK rfl ?_
      refine w_ge2 hK rfl (by omega) (by omega) (by omega) (by omega) (fun h => ?_) (fun h => ?_)
      · exfalso; omega
      · refine w_il hK rfl rfl ?_
        refine w_il hK rfl rfl ?_
        refine w_bin (w := i32 (n : Int) >>> (i32 (j : Int) &&& 31)) hK rfl rfl rfl ?_
        refine w_ic hK rfl ?_
        refine w_bin (w := i32 ((i32 (n : Int) >>> (i32 (j : Int) &&& 31)).toInt) &&& i32 1) hK rfl rfl rfl ?_
        rw [bit32 hn (show j ≤ 15 by omega)]
        refine w_ic hK rfl ?_
        refine w_ne2 hK rfl (by omega) (by omega) (by omega) (by omega) (fun q => ?_) (fun q => ?_)
        · refine w_inc [(0, (n : Int)), (0, (pcs n j : Int)), (0, (j : Int) + 1)] hK rfl rfl rfl (by omega) (by omega) rfl ?_
          refine w_goto hK rfl ?_
          have h3 := ih (j + 1) (by omega) (by omega)
          rw [hs, show n / 2 ^ j % 2 = 0 by omega] at h3
          exact h3
        · refine w_inc [(0, (n : Int)), (0, (pcs n j : Int) + 1), (0, (j : Int))] hK rfl rfl rfl (by omega) (by omega) rfl ?_
          refine w_inc [(0, (n : Int)), (0, (pcs n j : Int) + 1), (0, (j : Int) + 1)] hK rfl rfl rfl (by omega) (by omega) rfl ?_
          refine w_goto hK rfl ?_
          have h3 := ih (j + 1) (by omega) (by omega)
          rw [hs, show n / 2 ^ j % 2 = 1 by omega] at h3
          exact h3
  exact lp 16 0 (by decide) (Nat.le_refl 0)
