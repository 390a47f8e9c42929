/-! the strings' methods, leaves first -/
abbrev jSB (b da n : Nat) : Nat × va_E := (b, .inr (0, [.ref da, .int 0, .int 0, .int (nI n)]))
abbrev jST (a aa : Nat) : Nat × va_E := (a, .inr (1, [.ref aa, .int 0, .int 0, .int 0]))
abbrev jSR (a : Nat) : Nat × va_E := (a, .inr (1, [.null, .int 0, .int 0, .int 0]))
abbrev jBY (cB : ClassId) (a N : Nat) (f : Nat → Int32) : Nat × va_E := (a, .inl (cB, N, .inl f))
theorem j_shr0 (x : Int32) : x >>> ((0 : Int32) &&& 31) = x := by
  rw [show ((0 : Int32) &&& 31) = 0 by decide]
  exact Int32.shiftRight_zero
theorem j_shl0 (x : Int32) : x <<< ((0 : Int32) &&& 31) = x := by
  rw [show ((0 : Int32) &&& 31) = 0 by decide]
  exact Int32.shiftLeft_zero
theorem j_le0 {k N : Nat} (h : k ≤ N) (hN : N ≤ 65536) : nI k - nI N ≤ 0 := by
  rw [Int32.le_iff_toInt_le, pk_sub_toInt (by omega) (by omega), Int32.toInt_zero]
  omega
theorem j_b8 : ∀ c : Nat, c < 128 → (nI c).toInt8.toInt32 = nI c := by decide +kernel
theorem j_bset {f : Nat → Int32} {n c : Nat} (hn : n < 65536) (hc : c < 128) : upd f (nI n).toNatClampNeg (vp_nar .byte (nI c)) = upd f n (nI c) := by
  rw [nI_clamp (by omega), vp_nar_byte, j_b8 c hc]
theorem j_bfit : ∀ c : Nat, c < 128 → fits .byte (.int (nI c)) = true := by decide +kernel
theorem j_c255 : ∀ c : Nat, c < 128 → nI c &&& 255 = nI c ∧ ((nI c).toUInt32 % 65536).toInt32 = nI c ∧ ¬ (255 : Int32) < nI c ∧ narrow .char (.int (nI c)) = .int (nI c) := by decide +kernel
theorem dj_prog_26_method_152_code_0 : decode prog_26_method_152_code 0 = .ok (.getstatic 38, 3) := by decide +kernel
theorem dj_prog_26_method_152_code_3 : decode prog_26_method_152_code 3 = .ok (.ifCond .eq (10), 3) := by decide +kernel
theorem dj_prog_26_method_152_code_6 : decode prog_26_method_152_code 6 = .ok (.aload_n 0, 1) := by decide +kernel
theorem dj_prog_26_method_152_code_7 : decode prog_26_method_152_code 7 = .ok (.getfield 15, 3) := by decide +kernel
theorem dj_prog_26_method_152_code_10 : decode prog_26_method_152_code 10 = .ok (.goto (4), 3) := by decide +kernel
theorem dj_prog_26_method_152_code_14 : decode prog_26_method_152_code 14 = .ok (.ireturn, 1) := by decide +kernel
theorem dj_prog_26_method_154_code_0 : decode prog_26_method_154_code 0 = .ok (.getstatic 38, 3) := by decide +kernel
theorem dj_prog_26_method_154_code_3 : decode prog_26_method_154_code 3 = .ok (.ifCond .eq (14), 3) := by decide +kernel
theorem dj_prog_26_method_154_code_6 : decode prog_26_method_154_code 6 = .ok (.aload_n 0, 1) := by decide +kernel
theorem dj_prog_26_method_154_code_7 : decode prog_26_method_154_code 7 = .ok (.getfield 15, 3) := by decide +kernel
theorem dj_prog_26_method_154_code_10 : decode prog_26_method_154_code 10 = .ok (.ifCond .ne (7), 3) := by decide +kernel
theorem dj_prog_26_method_154_code_13 : decode prog_26_method_154_code 13 = .ok (.iconst (1), 1) := by decide +kernel
theorem dj_prog_26_method_154_code_14 : decode prog_26_method_154_code 14 = .ok (.goto (4), 3) := by decide +kernel
theorem dj_prog_26_method_154_code_18 : decode prog_26_method_154_code 18 = .ok (.ireturn, 1) := by decide +kernel
theorem dj_prog_26_method_54_code_0 : decode prog_26_method_54_code 0 = .ok (.aload_n 0, 1) := by decide +kernel
theorem dj_prog_26_method_54_code_1 : decode prog_26_method_54_code 1 = .ok (.getfield 9, 3) := by decide +kernel
theorem dj_prog_26_method_54_code_4 : decode prog_26_method_54_code 4 = .ok (.arraylength, 1) := by decide +kernel
theorem dj_prog_26_method_54_code_5 : decode prog_26_method_54_code 5 = .ok (.aload_n 0, 1) := by decide +kernel
theorem dj_prog_26_method_54_code_6 : decode prog_26_method_54_code 6 = .ok (.invokevirtual 335, 3) := by decide +kernel
theorem dj_prog_26_method_54_code_9 : decode prog_26_method_54_code 9 = .ok (.ishr, 1) := by decide +kernel
theorem dj_prog_26_method_54_code_10 : decode prog_26_method_54_code 10 = .ok (.ireturn, 1) := by decide +kernel
theorem dj_prog_16_method_68_code_0 : decode prog_16_method_68_code 0 = .ok (.getstatic 18, 3) := by decide +kernel
theorem dj_prog_16_method_68_code_3 : decode prog_16_method_68_code 3 = .ok (.ifCond .eq (14), 3) := by decide +kernel
theorem dj_prog_16_method_68_code_6 : decode prog_16_method_68_code 6 = .ok (.aload_n 0, 1) := by decide +kernel
theorem dj_prog_16_method_68_code_7 : decode prog_16_method_68_code 7 = .ok (.getfield 22, 3) := by decide +kernel
theorem dj_prog_16_method_68_code_10 : decode prog_16_method_68_code 10 = .ok (.ifCond .ne (7), 3) := by decide +kernel
theorem dj_prog_16_method_68_code_13 : decode prog_16_method_68_code 13 = .ok (.iconst (1), 1) := by decide +kernel
theorem dj_prog_16_method_68_code_14 : decode prog_16_method_68_code 14 = .ok (.goto (4), 3) := by decide +kernel
theorem dj_prog_16_method_68_code_18 : decode prog_16_method_68_code 18 = .ok (.ireturn, 1) := by decide +kernel
theorem dj_prog_28_method_3_code_0 : decode prog_28_method_3_code 0 = .ok (.iload_n 0, 1) := by decide +kernel
theorem dj_prog_28_method_3_code_1 : decode prog_28_method_3_code 1 = .ok (.sipush (255), 3) := by decide +kernel
theorem dj_prog_28_method_3_code_4 : decode prog_28_method_3_code 4 = .ok (.if_icmp .gt (7), 3) := by decide +kernel
theorem dj_prog_28_method_3_code_7 : decode prog_28_method_3_code 7 = .ok (.iconst (1), 1) := by decide +kernel
theorem dj_prog_28_method_3_code_8 : decode prog_28_method_3_code 8 = .ok (.goto (4), 3) := by decide +kernel
theorem dj_prog_28_method_3_code_12 : decode prog_28_method_3_code 12 = .ok (.ireturn, 1) := by decide +kernel
theorem dj_prog_16_method_9_code_0 : decode prog_16_method_9_code 0 = .ok (.aload_n 0, 1) := by decide +kernel
theorem dj_prog_16_method_9_code_1 : decode prog_16_method_9_code 1 = .ok (.getfield 15, 3) := by decide +kernel
theorem dj_prog_16_method_9_code_4 : decode prog_16_method_9_code 4 = .ok (.arraylength, 1) := by decide +kernel
theorem dj_prog_16_method_9_code_5 : decode prog_16_method_9_code 5 = .ok (.aload_n 0, 1) := by decide +kernel
theorem dj_prog_16_method_9_code_6 : decode prog_16_method_9_code 6 = .ok (.getfield 22, 3) := by decide +kernel
theorem dj_prog_16_method_9_code_9 : decode prog_16_method_9_code 9 = .ok (.ishr, 1) := by decide +kernel
theorem dj_prog_16_method_9_code_10 : decode prog_16_method_9_code 10 = .ok (.istore_n 2, 1) := by decide +kernel
theorem dj_prog_16_method_9_code_11 : decode prog_16_method_9_code 11 = .ok (.iload_n 1, 1) := by decide +kernel
theorem dj_prog_16_method_9_code_12 : decode prog_16_method_9_code 12 = .ok (.iload_n 2, 1) := by decide +kernel
theorem dj_prog_16_method_9_code_13 : decode prog_16_method_9_code 13 = .ok (.isub, 1) := by decide +kernel
theorem dj_prog_16_method_9_code_14 : decode prog_16_method_9_code 14 = .ok (.ifCond .le (24), 3) := by decide +kernel
theorem dj_prog_16_method_9_code_38 : decode prog_16_method_9_code 38 = .ok (.return_, 1) := by decide +kernel
theorem dj_prog_16_method_31_code_0 : decode prog_16_method_31_code 0 = .ok (.aload_n 0, 1) := by decide +kernel
theorem dj_prog_16_method_31_code_1 : decode prog_16_method_31_code 1 = .ok (.aload_n 0, 1) := by decide +kernel
theorem dj_prog_16_method_31_code_2 : decode prog_16_method_31_code 2 = .ok (.getfield 79, 3) := by decide +kernel
theorem dj_prog_16_method_31_code_5 : decode prog_16_method_31_code 5 = .ok (.iconst (1), 1) := by decide +kernel
theorem dj_prog_16_method_31_code_6 : decode prog_16_method_31_code 6 = .ok (.iadd, 1) := by decide +kernel
theorem dj_prog_16_method_31_code_7 : decode prog_16_method_31_code 7 = .ok (.invokevirtual 100, 3) := by decide +kernel
theorem dj_prog_16_method_31_code_10 : decode prog_16_method_31_code 10 = .ok (.aload_n 0, 1) := by decide +kernel
theorem dj_prog_16_method_31_code_11 : decode prog_16_method_31_code 11 = .ok (.invokevirtual 83, 3) := by decide +kernel
theorem dj_prog_16_method_31_code_14 : decode prog_16_method_31_code 14 = .ok (.ifCond .eq (31), 3) := by decide +kernel
theorem dj_prog_16_method_31_code_17 : decode prog_16_method_31_code 17 = .ok (.iload_n 1, 1) := by decide +kernel
theorem dj_prog_16_method_31_code_18 : decode prog_16_method_31_code 18 = .ok (.invokestatic 191, 3) := by decide +kernel
theorem dj_prog_16_method_31_code_21 : decode prog_16_method_31_code 21 = .ok (.ifCond .eq (24), 3) := by decide +kernel
theorem dj_prog_16_method_31_code_24 : decode prog_16_method_31_code 24 = .ok (.aload_n 0, 1) := by decide +kernel
theorem dj_prog_16_method_31_code_25 : decode prog_16_method_31_code 25 = .ok (.getfield 15, 3) := by decide +kernel
theorem dj_prog_16_method_31_code_28 : decode prog_16_method_31_code 28 = .ok (.aload_n 0, 1) := by decide +kernel
theorem dj_prog_16_method_31_code_29 : decode prog_16_method_31_code 29 = .ok (.dup, 1) := by decide +kernel
theorem dj_prog_16_method_31_code_30 : decode prog_16_method_31_code 30 = .ok (.getfield 79, 3) := by decide +kernel
theorem dj_prog_16_method_31_code_33 : decode prog_16_method_31_code 33 = .ok (.dup_x1, 1) := by decide +kernel
theorem dj_prog_16_method_31_code_34 : decode prog_16_method_31_code 34 = .ok (.iconst (1), 1) := by decide +kernel
theorem dj_prog_16_method_31_code_35 : decode prog_16_method_31_code 35 = .ok (.iadd, 1) := by decide +kernel
theorem dj_prog_16_method_31_code_36 : decode prog_16_method_31_code 36 = .ok (.putfield 79, 3) := by decide +kernel
theorem dj_prog_16_method_31_code_39 : decode prog_16_method_31_code 39 = .ok (.iload_n 1, 1) := by decide +kernel
theorem dj_prog_16_method_31_code_40 : decode prog_16_method_31_code 40 = .ok (.i2b, 1) := by decide +kernel
theorem dj_prog_16_method_31_code_41 : decode prog_16_method_31_code 41 = .ok (.bastore, 1) := by decide +kernel
theorem dj_prog_16_method_31_code_42 : decode prog_16_method_31_code 42 = .ok (.goto (33), 3) := by decide +kernel
theorem dj_prog_16_method_31_code_75 : decode prog_16_method_31_code 75 = .ok (.aload_n 0, 1) := by decide +kernel
theorem dj_prog_16_method_31_code_76 : decode prog_16_method_31_code 76 = .ok (.areturn, 1) := by decide +kernel
theorem dj_prog_27_method_14_code_0 : decode prog_27_method_14_code 0 = .ok (.aload_n 0, 1) := by decide +kernel
theorem dj_prog_27_method_14_code_1 : decode prog_27_method_14_code 1 = .ok (.iload_n 1, 1) := by decide +kernel
theorem dj_prog_27_method_14_code_2 : decode prog_27_method_14_code 2 = .ok (.invokespecial 50, 3) := by decide +kernel
theorem dj_prog_27_method_14_code_5 : decode prog_27_method_14_code 5 = .ok (.pop, 1) := by decide +kernel
theorem dj_prog_27_method_14_code_6 : decode prog_27_method_14_code 6 = .ok (.aload_n 0, 1) := by decide +kernel
theorem dj_prog_27_method_14_code_7 : decode prog_27_method_14_code 7 = .ok (.areturn, 1) := by decide +kernel
theorem dj_prog_16_method_71_code_0 : decode prog_16_method_71_code 0 = .ok (.getstatic 18, 3) := by decide +kernel
theorem dj_prog_16_method_71_code_3 : decode prog_16_method_71_code 3 = .ok (.ifCond .eq (18), 3) := by decide +kernel
theorem dj_prog_16_method_71_code_6 : decode prog_16_method_71_code 6 = .ok (.aload_n 0, 1) := by decide +kernel
theorem dj_prog_16_method_71_code_7 : decode prog_16_method_71_code 7 = .ok (.getfield 22, 3) := by decide +kernel
theorem dj_prog_16_method_71_code_10 : decode prog_16_method_71_code 10 = .ok (.aload_n 1, 1) := by decide +kernel
theorem dj_prog_16_method_71_code_11 : decode prog_16_method_71_code 11 = .ok (.invokevirtual 40, 3) := by decide +kernel
theorem dj_prog_16_method_71_code_14 : decode prog_16_method_71_code 14 = .ok (.if_icmp .eq (7), 3) := by decide +kernel
theorem dj_prog_16_method_71_code_21 : decode prog_16_method_71_code 21 = .ok (.return_, 1) := by decide +kernel
theorem dj_prog_26_method_147_code_0 : decode prog_26_method_147_code 0 = .ok (.aload_n 0, 1) := by decide +kernel
theorem dj_prog_26_method_147_code_1 : decode prog_26_method_147_code 1 = .ok (.invokevirtual 335, 3) := by decide +kernel
theorem dj_prog_26_method_147_code_4 : decode prog_26_method_147_code 4 = .ok (.iload_n 3, 1) := by decide +kernel
theorem dj_prog_26_method_147_code_5 : decode prog_26_method_147_code 5 = .ok (.if_icmp .ne (23), 3) := by decide +kernel
theorem dj_prog_26_method_147_code_8 : decode prog_26_method_147_code 8 = .ok (.aload_n 0, 1) := by decide +kernel
theorem dj_prog_26_method_147_code_9 : decode prog_26_method_147_code 9 = .ok (.getfield 9, 3) := by decide +kernel
theorem dj_prog_26_method_147_code_12 : decode prog_26_method_147_code 12 = .ok (.iconst (0), 1) := by decide +kernel
theorem dj_prog_26_method_147_code_13 : decode prog_26_method_147_code 13 = .ok (.aload_n 1, 1) := by decide +kernel
theorem dj_prog_26_method_147_code_14 : decode prog_26_method_147_code 14 = .ok (.iload_n 2, 1) := by decide +kernel
theorem dj_prog_26_method_147_code_15 : decode prog_26_method_147_code 15 = .ok (.iload_n 3, 1) := by decide +kernel
theorem dj_prog_26_method_147_code_16 : decode prog_26_method_147_code 16 = .ok (.ishl, 1) := by decide +kernel
theorem dj_prog_26_method_147_code_17 : decode prog_26_method_147_code 17 = .ok (.aload_n 0, 1) := by decide +kernel
theorem dj_prog_26_method_147_code_18 : decode prog_26_method_147_code 18 = .ok (.getfield 9, 3) := by decide +kernel
theorem dj_prog_26_method_147_code_21 : decode prog_26_method_147_code 21 = .ok (.arraylength, 1) := by decide +kernel
theorem dj_prog_26_method_147_code_22 : decode prog_26_method_147_code 22 = .ok (.invokestatic 212, 3) := by decide +kernel
theorem dj_prog_26_method_147_code_25 : decode prog_26_method_147_code 25 = .ok (.goto (18), 3) := by decide +kernel
theorem dj_prog_26_method_147_code_43 : decode prog_26_method_147_code 43 = .ok (.return_, 1) := by decide +kernel
theorem dj_prog_16_method_73_code_0 : decode prog_16_method_73_code 0 = .ok (.aload_n 0, 1) := by decide +kernel
theorem dj_prog_16_method_73_code_1 : decode prog_16_method_73_code 1 = .ok (.aload_n 2, 1) := by decide +kernel
theorem dj_prog_16_method_73_code_2 : decode prog_16_method_73_code 2 = .ok (.invokevirtual 397, 3) := by decide +kernel
theorem dj_prog_16_method_73_code_5 : decode prog_16_method_73_code 5 = .ok (.aload_n 2, 1) := by decide +kernel
theorem dj_prog_16_method_73_code_6 : decode prog_16_method_73_code 6 = .ok (.aload_n 0, 1) := by decide +kernel
theorem dj_prog_16_method_73_code_7 : decode prog_16_method_73_code 7 = .ok (.getfield 15, 3) := by decide +kernel
theorem dj_prog_16_method_73_code_10 : decode prog_16_method_73_code 10 = .ok (.iload_n 1, 1) := by decide +kernel
theorem dj_prog_16_method_73_code_11 : decode prog_16_method_73_code 11 = .ok (.aload_n 0, 1) := by decide +kernel
theorem dj_prog_16_method_73_code_12 : decode prog_16_method_73_code 12 = .ok (.getfield 22, 3) := by decide +kernel
theorem dj_prog_16_method_73_code_15 : decode prog_16_method_73_code 15 = .ok (.invokevirtual 399, 3) := by decide +kernel
theorem dj_prog_16_method_73_code_18 : decode prog_16_method_73_code 18 = .ok (.return_, 1) := by decide +kernel
theorem dj_prog_16_method_22_code_0 : decode prog_16_method_22_code 0 = .ok (.aload_n 1, 1) := by decide +kernel
theorem dj_prog_16_method_22_code_1 : decode prog_16_method_22_code 1 = .ok (.ifnonnull (8), 3) := by decide +kernel
theorem dj_prog_16_method_22_code_9 : decode prog_16_method_22_code 9 = .ok (.aload_n 1, 1) := by decide +kernel
theorem dj_prog_16_method_22_code_10 : decode prog_16_method_22_code 10 = .ok (.invokevirtual 32, 3) := by decide +kernel
theorem dj_prog_16_method_22_code_13 : decode prog_16_method_22_code 13 = .ok (.istore_n 2, 1) := by decide +kernel
theorem dj_prog_16_method_22_code_14 : decode prog_16_method_22_code 14 = .ok (.aload_n 0, 1) := by decide +kernel
theorem dj_prog_16_method_22_code_15 : decode prog_16_method_22_code 15 = .ok (.aload_n 0, 1) := by decide +kernel
theorem dj_prog_16_method_22_code_16 : decode prog_16_method_22_code 16 = .ok (.getfield 79, 3) := by decide +kernel
theorem dj_prog_16_method_22_code_19 : decode prog_16_method_22_code 19 = .ok (.iload_n 2, 1) := by decide +kernel
theorem dj_prog_16_method_22_code_20 : decode prog_16_method_22_code 20 = .ok (.iadd, 1) := by decide +kernel
theorem dj_prog_16_method_22_code_21 : decode prog_16_method_22_code 21 = .ok (.invokevirtual 100, 3) := by decide +kernel
theorem dj_prog_16_method_22_code_24 : decode prog_16_method_22_code 24 = .ok (.aload_n 0, 1) := by decide +kernel
theorem dj_prog_16_method_22_code_25 : decode prog_16_method_22_code 25 = .ok (.aload_n 0, 1) := by decide +kernel
theorem dj_prog_16_method_22_code_26 : decode prog_16_method_22_code 26 = .ok (.getfield 79, 3) := by decide +kernel
theorem dj_prog_16_method_22_code_29 : decode prog_16_method_22_code 29 = .ok (.aload_n 1, 1) := by decide +kernel
theorem dj_prog_16_method_22_code_30 : decode prog_16_method_22_code 30 = .ok (.invokevirtual 208, 3) := by decide +kernel
theorem dj_prog_16_method_22_code_33 : decode prog_16_method_22_code 33 = .ok (.aload_n 0, 1) := by decide +kernel
theorem dj_prog_16_method_22_code_34 : decode prog_16_method_22_code 34 = .ok (.dup, 1) := by decide +kernel
theorem dj_prog_16_method_22_code_35 : decode prog_16_method_22_code 35 = .ok (.getfield 79, 3) := by decide +kernel
theorem dj_prog_16_method_22_code_38 : decode prog_16_method_22_code 38 = .ok (.iload_n 2, 1) := by decide +kernel
theorem dj_prog_16_method_22_code_39 : decode prog_16_method_22_code 39 = .ok (.iadd, 1) := by decide +kernel
theorem dj_prog_16_method_22_code_40 : decode prog_16_method_22_code 40 = .ok (.putfield 79, 3) := by decide +kernel
theorem dj_prog_16_method_22_code_43 : decode prog_16_method_22_code 43 = .ok (.aload_n 0, 1) := by decide +kernel
theorem dj_prog_16_method_22_code_44 : decode prog_16_method_22_code 44 = .ok (.areturn, 1) := by decide +kernel
theorem dj_prog_27_method_7_code_0 : decode prog_27_method_7_code 0 = .ok (.aload_n 0, 1) := by decide +kernel
theorem dj_prog_27_method_7_code_1 : decode prog_27_method_7_code 1 = .ok (.aload_n 1, 1) := by decide +kernel
theorem dj_prog_27_method_7_code_2 : decode prog_27_method_7_code 2 = .ok (.invokespecial 29, 3) := by decide +kernel
theorem dj_prog_27_method_7_code_5 : decode prog_27_method_7_code 5 = .ok (.pop, 1) := by decide +kernel
theorem dj_prog_27_method_7_code_6 : decode prog_27_method_7_code 6 = .ok (.aload_n 0, 1) := by decide +kernel
theorem dj_prog_27_method_7_code_7 : decode prog_27_method_7_code 7 = .ok (.areturn, 1) := by decide +kernel
theorem dj_prog_22_method_13_code_0 : decode prog_22_method_13_code 0 = .ok (.iconst (1), 1) := by decide +kernel
theorem dj_prog_22_method_13_code_1 : decode prog_22_method_13_code 1 = .ok (.istore_n 1, 1) := by decide +kernel
theorem dj_prog_22_method_13_code_2 : decode prog_22_method_13_code 2 = .ok (.iload_n 0, 1) := by decide +kernel
theorem dj_prog_22_method_13_code_3 : decode prog_22_method_13_code 3 = .ok (.ifCond .lt (8), 3) := by decide +kernel
theorem dj_prog_22_method_13_code_6 : decode prog_22_method_13_code 6 = .ok (.iconst (0), 1) := by decide +kernel
theorem dj_prog_22_method_13_code_7 : decode prog_22_method_13_code 7 = .ok (.istore_n 1, 1) := by decide +kernel
theorem dj_prog_22_method_13_code_8 : decode prog_22_method_13_code 8 = .ok (.iload_n 0, 1) := by decide +kernel
theorem dj_prog_22_method_13_code_9 : decode prog_22_method_13_code 9 = .ok (.ineg, 1) := by decide +kernel
theorem dj_prog_22_method_13_code_10 : decode prog_22_method_13_code 10 = .ok (.istore_n 0, 1) := by decide +kernel
theorem dj_prog_22_method_13_code_11 : decode prog_22_method_13_code 11 = .ok (.bipush (-10), 2) := by decide +kernel
theorem dj_prog_22_method_13_code_13 : decode prog_22_method_13_code 13 = .ok (.istore_n 2, 1) := by decide +kernel
theorem dj_prog_22_method_13_code_14 : decode prog_22_method_13_code 14 = .ok (.iconst (1), 1) := by decide +kernel
theorem dj_prog_22_method_13_code_15 : decode prog_22_method_13_code 15 = .ok (.istore_n 3, 1) := by decide +kernel
theorem dj_prog_22_method_13_code_16 : decode prog_22_method_13_code 16 = .ok (.iload_n 3, 1) := by decide +kernel
theorem dj_prog_22_method_13_code_17 : decode prog_22_method_13_code 17 = .ok (.bipush (10), 2) := by decide +kernel
theorem dj_prog_22_method_13_code_19 : decode prog_22_method_13_code 19 = .ok (.if_icmp .ge (23), 3) := by decide +kernel
theorem dj_prog_22_method_13_code_22 : decode prog_22_method_13_code 22 = .ok (.iload_n 0, 1) := by decide +kernel
theorem dj_prog_22_method_13_code_23 : decode prog_22_method_13_code 23 = .ok (.iload_n 2, 1) := by decide +kernel
theorem dj_prog_22_method_13_code_24 : decode prog_22_method_13_code 24 = .ok (.if_icmp .le (7), 3) := by decide +kernel
theorem dj_prog_22_method_13_code_27 : decode prog_22_method_13_code 27 = .ok (.iload_n 3, 1) := by decide +kernel
theorem dj_prog_22_method_13_code_28 : decode prog_22_method_13_code 28 = .ok (.iload_n 1, 1) := by decide +kernel
theorem dj_prog_22_method_13_code_29 : decode prog_22_method_13_code 29 = .ok (.iadd, 1) := by decide +kernel
theorem dj_prog_22_method_13_code_30 : decode prog_22_method_13_code 30 = .ok (.ireturn, 1) := by decide +kernel
theorem dj_prog_22_method_13_code_31 : decode prog_22_method_13_code 31 = .ok (.bipush (10), 2) := by decide +kernel
theorem dj_prog_22_method_13_code_33 : decode prog_22_method_13_code 33 = .ok (.iload_n 2, 1) := by decide +kernel
theorem dj_prog_22_method_13_code_34 : decode prog_22_method_13_code 34 = .ok (.imul, 1) := by decide +kernel
theorem dj_prog_22_method_13_code_35 : decode prog_22_method_13_code 35 = .ok (.istore_n 2, 1) := by decide +kernel
theorem dj_prog_22_method_13_code_36 : decode prog_22_method_13_code 36 = .ok (.iinc 3 (1), 3) := by decide +kernel
theorem dj_prog_22_method_13_code_39 : decode prog_22_method_13_code 39 = .ok (.goto (-23), 3) := by decide +kernel
theorem dj_prog_22_method_12_code_0 : decode prog_22_method_12_code 0 = .ok (.iload_n 1, 1) := by decide +kernel
theorem dj_prog_22_method_12_code_1 : decode prog_22_method_12_code 1 = .ok (.istore 5, 2) := by decide +kernel
theorem dj_prog_22_method_12_code_3 : decode prog_22_method_12_code 3 = .ok (.iload_n 0, 1) := by decide +kernel
theorem dj_prog_22_method_12_code_4 : decode prog_22_method_12_code 4 = .ok (.ifCond .ge (7), 3) := by decide +kernel
theorem dj_prog_22_method_12_code_11 : decode prog_22_method_12_code 11 = .ok (.iconst (0), 1) := by decide +kernel
theorem dj_prog_22_method_12_code_12 : decode prog_22_method_12_code 12 = .ok (.istore 6, 2) := by decide +kernel
theorem dj_prog_22_method_12_code_14 : decode prog_22_method_12_code 14 = .ok (.iload 6, 2) := by decide +kernel
theorem dj_prog_22_method_12_code_16 : decode prog_22_method_12_code 16 = .ok (.ifCond .ne (6), 3) := by decide +kernel
theorem dj_prog_22_method_12_code_19 : decode prog_22_method_12_code 19 = .ok (.iload_n 0, 1) := by decide +kernel
theorem dj_prog_22_method_12_code_20 : decode prog_22_method_12_code 20 = .ok (.ineg, 1) := by decide +kernel
theorem dj_prog_22_method_12_code_21 : decode prog_22_method_12_code 21 = .ok (.istore_n 0, 1) := by decide +kernel
theorem dj_prog_22_method_12_code_22 : decode prog_22_method_12_code 22 = .ok (.iload_n 0, 1) := by decide +kernel
theorem dj_prog_22_method_12_code_23 : decode prog_22_method_12_code 23 = .ok (.bipush (-100), 2) := by decide +kernel
theorem dj_prog_22_method_12_code_25 : decode prog_22_method_12_code 25 = .ok (.if_icmp .gt (47), 3) := by decide +kernel
theorem dj_prog_22_method_12_code_72 : decode prog_22_method_12_code 72 = .ok (.aload_n 2, 1) := by decide +kernel
theorem dj_prog_22_method_12_code_73 : decode prog_22_method_12_code 73 = .ok (.iinc 5 (-1), 3) := by decide +kernel
theorem dj_prog_22_method_12_code_76 : decode prog_22_method_12_code 76 = .ok (.iload 5, 2) := by decide +kernel
theorem dj_prog_22_method_12_code_78 : decode prog_22_method_12_code 78 = .ok (.getstatic 83, 3) := by decide +kernel
theorem dj_prog_22_method_12_code_81 : decode prog_22_method_12_code 81 = .ok (.iload_n 0, 1) := by decide +kernel
theorem dj_prog_22_method_12_code_82 : decode prog_22_method_12_code 82 = .ok (.ineg, 1) := by decide +kernel
theorem dj_prog_22_method_12_code_83 : decode prog_22_method_12_code 83 = .ok (.baload, 1) := by decide +kernel
theorem dj_prog_22_method_12_code_84 : decode prog_22_method_12_code 84 = .ok (.bastore, 1) := by decide +kernel
theorem dj_prog_22_method_12_code_85 : decode prog_22_method_12_code 85 = .ok (.iload_n 0, 1) := by decide +kernel
theorem dj_prog_22_method_12_code_86 : decode prog_22_method_12_code 86 = .ok (.bipush (-9), 2) := by decide +kernel
theorem dj_prog_22_method_12_code_88 : decode prog_22_method_12_code 88 = .ok (.if_icmp .ge (16), 3) := by decide +kernel
theorem dj_prog_22_method_12_code_104 : decode prog_22_method_12_code 104 = .ok (.iload 6, 2) := by decide +kernel
theorem dj_prog_22_method_12_code_106 : decode prog_22_method_12_code 106 = .ok (.ifCond .eq (12), 3) := by decide +kernel
theorem dj_prog_22_method_12_code_118 : decode prog_22_method_12_code 118 = .ok (.iload 5, 2) := by decide +kernel
theorem dj_prog_22_method_12_code_120 : decode prog_22_method_12_code 120 = .ok (.ireturn, 1) := by decide +kernel
theorem dj_prog_22_method_12_code_91 : decode prog_22_method_12_code 91 = .ok (.aload_n 2, 1) := by decide +kernel
theorem dj_prog_22_method_12_code_92 : decode prog_22_method_12_code 92 = .ok (.iinc 5 (-1), 3) := by decide +kernel
theorem dj_prog_22_method_12_code_95 : decode prog_22_method_12_code 95 = .ok (.iload 5, 2) := by decide +kernel
theorem dj_prog_22_method_12_code_97 : decode prog_22_method_12_code 97 = .ok (.getstatic 87, 3) := by decide +kernel
theorem dj_prog_22_method_12_code_100 : decode prog_22_method_12_code 100 = .ok (.iload_n 0, 1) := by decide +kernel
theorem dj_prog_22_method_12_code_101 : decode prog_22_method_12_code 101 = .ok (.ineg, 1) := by decide +kernel
theorem dj_prog_22_method_12_code_102 : decode prog_22_method_12_code 102 = .ok (.baload, 1) := by decide +kernel
theorem dj_prog_22_method_12_code_103 : decode prog_22_method_12_code 103 = .ok (.bastore, 1) := by decide +kernel
theorem dj_prog_26_method_151_code_0 : decode prog_26_method_151_code 0 = .ok (.aload_n 0, 1) := by decide +kernel
theorem dj_prog_26_method_151_code_1 : decode prog_26_method_151_code 1 = .ok (.invokespecial 1, 3) := by decide +kernel
theorem dj_prog_26_method_151_code_4 : decode prog_26_method_151_code 4 = .ok (.aload_n 0, 1) := by decide +kernel
theorem dj_prog_26_method_151_code_5 : decode prog_26_method_151_code 5 = .ok (.aload_n 1, 1) := by decide +kernel
theorem dj_prog_26_method_151_code_6 : decode prog_26_method_151_code 6 = .ok (.putfield 9, 3) := by decide +kernel
theorem dj_prog_26_method_151_code_9 : decode prog_26_method_151_code 9 = .ok (.aload_n 0, 1) := by decide +kernel
theorem dj_prog_26_method_151_code_10 : decode prog_26_method_151_code 10 = .ok (.iload_n 2, 1) := by decide +kernel
theorem dj_prog_26_method_151_code_11 : decode prog_26_method_151_code 11 = .ok (.putfield 15, 3) := by decide +kernel
theorem dj_prog_26_method_151_code_14 : decode prog_26_method_151_code 14 = .ok (.return_, 1) := by decide +kernel
theorem dj_prog_22_method_10_code_0 : decode prog_22_method_10_code 0 = .ok (.iload_n 0, 1) := by decide +kernel
theorem dj_prog_22_method_10_code_1 : decode prog_22_method_10_code 1 = .ok (.invokestatic 72, 3) := by decide +kernel
theorem dj_prog_22_method_10_code_4 : decode prog_22_method_10_code 4 = .ok (.istore_n 1, 1) := by decide +kernel
theorem dj_prog_22_method_10_code_5 : decode prog_22_method_10_code 5 = .ok (.getstatic 13, 3) := by decide +kernel
theorem dj_prog_22_method_10_code_8 : decode prog_22_method_10_code 8 = .ok (.ifCond .eq (24), 3) := by decide +kernel
theorem dj_prog_22_method_10_code_11 : decode prog_22_method_10_code 11 = .ok (.iload_n 1, 1) := by decide +kernel
theorem dj_prog_22_method_10_code_12 : decode prog_22_method_10_code 12 = .ok (.newarray .byte, 2) := by decide +kernel
theorem dj_prog_22_method_10_code_14 : decode prog_22_method_10_code 14 = .ok (.astore_n 2, 1) := by decide +kernel
theorem dj_prog_22_method_10_code_15 : decode prog_22_method_10_code 15 = .ok (.iload_n 0, 1) := by decide +kernel
theorem dj_prog_22_method_10_code_16 : decode prog_22_method_10_code 16 = .ok (.iload_n 1, 1) := by decide +kernel
theorem dj_prog_22_method_10_code_17 : decode prog_22_method_10_code 17 = .ok (.aload_n 2, 1) := by decide +kernel
theorem dj_prog_22_method_10_code_18 : decode prog_22_method_10_code 18 = .ok (.invokestatic 75, 3) := by decide +kernel
theorem dj_prog_22_method_10_code_21 : decode prog_22_method_10_code 21 = .ok (.pop, 1) := by decide +kernel
theorem dj_prog_22_method_10_code_22 : decode prog_22_method_10_code 22 = .ok (.new 5, 3) := by decide +kernel
theorem dj_prog_22_method_10_code_25 : decode prog_22_method_10_code 25 = .ok (.dup, 1) := by decide +kernel
theorem dj_prog_22_method_10_code_26 : decode prog_22_method_10_code 26 = .ok (.aload_n 2, 1) := by decide +kernel
theorem dj_prog_22_method_10_code_27 : decode prog_22_method_10_code 27 = .ok (.iconst (0), 1) := by decide +kernel
theorem dj_prog_22_method_10_code_28 : decode prog_22_method_10_code 28 = .ok (.invokespecial 65, 3) := by decide +kernel
theorem dj_prog_22_method_10_code_31 : decode prog_22_method_10_code 31 = .ok (.areturn, 1) := by decide +kernel
theorem dj_prog_16_method_64_code_0 : decode prog_16_method_64_code 0 = .ok (.aload_n 0, 1) := by decide +kernel
theorem dj_prog_16_method_64_code_1 : decode prog_16_method_64_code 1 = .ok (.getfield 15, 3) := by decide +kernel
theorem dj_prog_16_method_64_code_4 : decode prog_16_method_64_code 4 = .ok (.areturn, 1) := by decide +kernel
theorem dj_prog_16_method_6_code_0 : decode prog_16_method_6_code 0 = .ok (.aload_n 0, 1) := by decide +kernel
theorem dj_prog_16_method_6_code_1 : decode prog_16_method_6_code 1 = .ok (.getfield 79, 3) := by decide +kernel
theorem dj_prog_16_method_6_code_4 : decode prog_16_method_6_code 4 = .ok (.ireturn, 1) := by decide +kernel
theorem dj_prog_27_method_93_code_0 : decode prog_27_method_93_code 0 = .ok (.aload_n 0, 1) := by decide +kernel
theorem dj_prog_27_method_93_code_1 : decode prog_27_method_93_code 1 = .ok (.invokespecial 343, 3) := by decide +kernel
theorem dj_prog_27_method_93_code_4 : decode prog_27_method_93_code 4 = .ok (.ireturn, 1) := by decide +kernel
theorem dj_prog_34_method_131_code_0 : decode prog_34_method_131_code 0 = .ok (.iload_n 1, 1) := by decide +kernel
theorem dj_prog_34_method_131_code_1 : decode prog_34_method_131_code 1 = .ok (.iload_n 0, 1) := by decide +kernel
theorem dj_prog_34_method_131_code_2 : decode prog_34_method_131_code 2 = .ok (.if_icmp .ge (35), 3) := by decide +kernel
theorem dj_prog_34_method_131_code_37 : decode prog_34_method_131_code 37 = .ok (.return_, 1) := by decide +kernel
theorem dj_prog_34_method_133_code_0 : decode prog_34_method_133_code 0 = .ok (.iload_n 1, 1) := by decide +kernel
theorem dj_prog_34_method_133_code_1 : decode prog_34_method_133_code 1 = .ok (.iload_n 2, 1) := by decide +kernel
theorem dj_prog_34_method_133_code_2 : decode prog_34_method_133_code 2 = .ok (.invokestatic 343, 3) := by decide +kernel
theorem dj_prog_34_method_133_code_5 : decode prog_34_method_133_code 5 = .ok (.iload_n 2, 1) := by decide +kernel
theorem dj_prog_34_method_133_code_6 : decode prog_34_method_133_code 6 = .ok (.iload_n 1, 1) := by decide +kernel
theorem dj_prog_34_method_133_code_7 : decode prog_34_method_133_code 7 = .ok (.isub, 1) := by decide +kernel
theorem dj_prog_34_method_133_code_8 : decode prog_34_method_133_code 8 = .ok (.istore_n 3, 1) := by decide +kernel
theorem dj_prog_34_method_133_code_9 : decode prog_34_method_133_code 9 = .ok (.iload_n 3, 1) := by decide +kernel
theorem dj_prog_34_method_133_code_10 : decode prog_34_method_133_code 10 = .ok (.newarray .byte, 2) := by decide +kernel
theorem dj_prog_34_method_133_code_12 : decode prog_34_method_133_code 12 = .ok (.astore 4, 2) := by decide +kernel
theorem dj_prog_34_method_133_code_14 : decode prog_34_method_133_code 14 = .ok (.aload_n 0, 1) := by decide +kernel
theorem dj_prog_34_method_133_code_15 : decode prog_34_method_133_code 15 = .ok (.iload_n 1, 1) := by decide +kernel
theorem dj_prog_34_method_133_code_16 : decode prog_34_method_133_code 16 = .ok (.aload 4, 2) := by decide +kernel
theorem dj_prog_34_method_133_code_18 : decode prog_34_method_133_code 18 = .ok (.iconst (0), 1) := by decide +kernel
theorem dj_prog_34_method_133_code_19 : decode prog_34_method_133_code 19 = .ok (.aload_n 0, 1) := by decide +kernel
theorem dj_prog_34_method_133_code_20 : decode prog_34_method_133_code 20 = .ok (.arraylength, 1) := by decide +kernel
theorem dj_prog_34_method_133_code_21 : decode prog_34_method_133_code 21 = .ok (.iload_n 1, 1) := by decide +kernel
theorem dj_prog_34_method_133_code_22 : decode prog_34_method_133_code 22 = .ok (.isub, 1) := by decide +kernel
theorem dj_prog_34_method_133_code_23 : decode prog_34_method_133_code 23 = .ok (.iload_n 3, 1) := by decide +kernel
theorem dj_prog_34_method_133_code_24 : decode prog_34_method_133_code 24 = .ok (.invokestatic 304, 3) := by decide +kernel
theorem dj_prog_34_method_133_code_27 : decode prog_34_method_133_code 27 = .ok (.invokestatic 150, 3) := by decide +kernel
theorem dj_prog_34_method_133_code_30 : decode prog_34_method_133_code 30 = .ok (.aload 4, 2) := by decide +kernel
theorem dj_prog_34_method_133_code_32 : decode prog_34_method_133_code 32 = .ok (.areturn, 1) := by decide +kernel
theorem dj_prog_34_method_132_code_0 : decode prog_34_method_132_code 0 = .ok (.iload_n 1, 1) := by decide +kernel
theorem dj_prog_34_method_132_code_1 : decode prog_34_method_132_code 1 = .ok (.ifCond .ne (9), 3) := by decide +kernel
theorem dj_prog_34_method_132_code_4 : decode prog_34_method_132_code 4 = .ok (.iload_n 2, 1) := by decide +kernel
theorem dj_prog_34_method_132_code_5 : decode prog_34_method_132_code 5 = .ok (.aload_n 0, 1) := by decide +kernel
theorem dj_prog_34_method_132_code_6 : decode prog_34_method_132_code 6 = .ok (.arraylength, 1) := by decide +kernel
theorem dj_prog_34_method_132_code_7 : decode prog_34_method_132_code 7 = .ok (.if_icmp .eq (10), 3) := by decide +kernel
theorem dj_prog_34_method_132_code_10 : decode prog_34_method_132_code 10 = .ok (.aload_n 0, 1) := by decide +kernel
theorem dj_prog_34_method_132_code_11 : decode prog_34_method_132_code 11 = .ok (.iload_n 1, 1) := by decide +kernel
theorem dj_prog_34_method_132_code_12 : decode prog_34_method_132_code 12 = .ok (.iload_n 2, 1) := by decide +kernel
theorem dj_prog_34_method_132_code_13 : decode prog_34_method_132_code 13 = .ok (.invokestatic 339, 3) := by decide +kernel
theorem dj_prog_34_method_132_code_16 : decode prog_34_method_132_code 16 = .ok (.areturn, 1) := by decide +kernel
theorem dj_prog_26_method_150_code_0 : decode prog_26_method_150_code 0 = .ok (.aload_n 0, 1) := by decide +kernel
theorem dj_prog_26_method_150_code_1 : decode prog_26_method_150_code 1 = .ok (.invokespecial 1, 3) := by decide +kernel
theorem dj_prog_26_method_150_code_4 : decode prog_26_method_150_code 4 = .ok (.aload_n 1, 1) := by decide +kernel
theorem dj_prog_26_method_150_code_5 : decode prog_26_method_150_code 5 = .ok (.invokevirtual 552, 3) := by decide +kernel
theorem dj_prog_26_method_150_code_8 : decode prog_26_method_150_code 8 = .ok (.astore_n 3, 1) := by decide +kernel
theorem dj_prog_26_method_150_code_9 : decode prog_26_method_150_code 9 = .ok (.aload_n 1, 1) := by decide +kernel
theorem dj_prog_26_method_150_code_10 : decode prog_26_method_150_code 10 = .ok (.invokevirtual 549, 3) := by decide +kernel
theorem dj_prog_26_method_150_code_13 : decode prog_26_method_150_code 13 = .ok (.istore 4, 2) := by decide +kernel
theorem dj_prog_26_method_150_code_15 : decode prog_26_method_150_code 15 = .ok (.aload_n 1, 1) := by decide +kernel
theorem dj_prog_26_method_150_code_16 : decode prog_26_method_150_code 16 = .ok (.invokevirtual 1047, 3) := by decide +kernel
theorem dj_prog_26_method_150_code_19 : decode prog_26_method_150_code 19 = .ok (.ifCond .eq (22), 3) := by decide +kernel
theorem dj_prog_26_method_150_code_22 : decode prog_26_method_150_code 22 = .ok (.aload_n 0, 1) := by decide +kernel
theorem dj_prog_26_method_150_code_23 : decode prog_26_method_150_code 23 = .ok (.iconst (0), 1) := by decide +kernel
theorem dj_prog_26_method_150_code_24 : decode prog_26_method_150_code 24 = .ok (.putfield 15, 3) := by decide +kernel
theorem dj_prog_26_method_150_code_27 : decode prog_26_method_150_code 27 = .ok (.aload_n 0, 1) := by decide +kernel
theorem dj_prog_26_method_150_code_28 : decode prog_26_method_150_code 28 = .ok (.aload_n 3, 1) := by decide +kernel
theorem dj_prog_26_method_150_code_29 : decode prog_26_method_150_code 29 = .ok (.iconst (0), 1) := by decide +kernel
theorem dj_prog_26_method_150_code_30 : decode prog_26_method_150_code 30 = .ok (.iload 4, 2) := by decide +kernel
theorem dj_prog_26_method_150_code_32 : decode prog_26_method_150_code 32 = .ok (.invokestatic 54, 3) := by decide +kernel
theorem dj_prog_26_method_150_code_35 : decode prog_26_method_150_code 35 = .ok (.putfield 9, 3) := by decide +kernel
theorem dj_prog_26_method_150_code_38 : decode prog_26_method_150_code 38 = .ok (.goto (59), 3) := by decide +kernel
theorem dj_prog_26_method_150_code_97 : decode prog_26_method_150_code 97 = .ok (.return_, 1) := by decide +kernel
theorem dj_prog_26_method_53_code_0 : decode prog_26_method_53_code 0 = .ok (.aload_n 0, 1) := by decide +kernel
theorem dj_prog_26_method_53_code_1 : decode prog_26_method_53_code 1 = .ok (.aload_n 1, 1) := by decide +kernel
theorem dj_prog_26_method_53_code_2 : decode prog_26_method_53_code 2 = .ok (.aconst_null, 1) := by decide +kernel
theorem dj_prog_26_method_53_code_3 : decode prog_26_method_53_code 3 = .ok (.invokespecial 489, 3) := by decide +kernel
theorem dj_prog_26_method_53_code_6 : decode prog_26_method_53_code 6 = .ok (.return_, 1) := by decide +kernel
theorem dj_prog_27_method_42_code_0 : decode prog_27_method_42_code 0 = .ok (.new 18, 3) := by decide +kernel
theorem dj_prog_27_method_42_code_3 : decode prog_27_method_42_code 3 = .ok (.dup, 1) := by decide +kernel
theorem dj_prog_27_method_42_code_4 : decode prog_27_method_42_code 4 = .ok (.aload_n 0, 1) := by decide +kernel
theorem dj_prog_27_method_42_code_5 : decode prog_27_method_42_code 5 = .ok (.invokespecial 137, 3) := by decide +kernel
theorem dj_prog_27_method_42_code_8 : decode prog_27_method_42_code 8 = .ok (.areturn, 1) := by decide +kernel
theorem dj_prog_16_method_2_code_0 : decode prog_16_method_2_code 0 = .ok (.aload_n 0, 1) := by decide +kernel
theorem dj_prog_16_method_2_code_1 : decode prog_16_method_2_code 1 = .ok (.invokespecial 3, 3) := by decide +kernel
theorem dj_prog_16_method_2_code_4 : decode prog_16_method_2_code 4 = .ok (.getstatic 18, 3) := by decide +kernel
theorem dj_prog_16_method_2_code_7 : decode prog_16_method_2_code 7 = .ok (.ifCond .eq (18), 3) := by decide +kernel
theorem dj_prog_16_method_2_code_10 : decode prog_16_method_2_code 10 = .ok (.aload_n 0, 1) := by decide +kernel
theorem dj_prog_16_method_2_code_11 : decode prog_16_method_2_code 11 = .ok (.iload_n 1, 1) := by decide +kernel
theorem dj_prog_16_method_2_code_12 : decode prog_16_method_2_code 12 = .ok (.newarray .byte, 2) := by decide +kernel
theorem dj_prog_16_method_2_code_14 : decode prog_16_method_2_code 14 = .ok (.putfield 15, 3) := by decide +kernel
theorem dj_prog_16_method_2_code_17 : decode prog_16_method_2_code 17 = .ok (.aload_n 0, 1) := by decide +kernel
theorem dj_prog_16_method_2_code_18 : decode prog_16_method_2_code 18 = .ok (.iconst (0), 1) := by decide +kernel
theorem dj_prog_16_method_2_code_19 : decode prog_16_method_2_code 19 = .ok (.putfield 22, 3) := by decide +kernel
theorem dj_prog_16_method_2_code_22 : decode prog_16_method_2_code 22 = .ok (.goto (16), 3) := by decide +kernel
theorem dj_prog_16_method_2_code_38 : decode prog_16_method_2_code 38 = .ok (.return_, 1) := by decide +kernel
theorem dj_prog_27_method_1_code_0 : decode prog_27_method_1_code 0 = .ok (.aload_n 0, 1) := by decide +kernel
theorem dj_prog_27_method_1_code_1 : decode prog_27_method_1_code 1 = .ok (.bipush (16), 2) := by decide +kernel
theorem dj_prog_27_method_1_code_3 : decode prog_27_method_1_code 3 = .ok (.invokespecial 1, 3) := by decide +kernel
theorem dj_prog_27_method_1_code_6 : decode prog_27_method_1_code 6 = .ok (.return_, 1) := by decide +kernel
theorem dj_prog_37_method_11_code_0 : decode prog_37_method_11_code 0 = .ok (.iload_n 0, 1) := by decide +kernel
theorem dj_prog_37_method_11_code_1 : decode prog_37_method_11_code 1 = .ok (.ifCond .lt (8), 3) := by decide +kernel
theorem dj_prog_37_method_11_code_4 : decode prog_37_method_11_code 4 = .ok (.iload_n 0, 1) := by decide +kernel
theorem dj_prog_37_method_11_code_5 : decode prog_37_method_11_code 5 = .ok (.iload_n 1, 1) := by decide +kernel
theorem dj_prog_37_method_11_code_6 : decode prog_37_method_11_code 6 = .ok (.if_icmp .lt (10), 3) := by decide +kernel
theorem dj_prog_37_method_11_code_16 : decode prog_37_method_11_code 16 = .ok (.iload_n 0, 1) := by decide +kernel
theorem dj_prog_37_method_11_code_17 : decode prog_37_method_11_code 17 = .ok (.ireturn, 1) := by decide +kernel
theorem dj_prog_26_method_155_code_0 : decode prog_26_method_155_code 0 = .ok (.iload_n 0, 1) := by decide +kernel
theorem dj_prog_26_method_155_code_1 : decode prog_26_method_155_code 1 = .ok (.iload_n 1, 1) := by decide +kernel
theorem dj_prog_26_method_155_code_2 : decode prog_26_method_155_code 2 = .ok (.getstatic 1053, 3) := by decide +kernel
theorem dj_prog_26_method_155_code_5 : decode prog_26_method_155_code 5 = .ok (.invokestatic 1059, 3) := by decide +kernel
theorem dj_prog_26_method_155_code_8 : decode prog_26_method_155_code 8 = .ok (.pop, 1) := by decide +kernel
theorem dj_prog_26_method_155_code_9 : decode prog_26_method_155_code 9 = .ok (.return_, 1) := by decide +kernel
theorem dj_prog_28_method_2_code_0 : decode prog_28_method_2_code 0 = .ok (.iload_n 1, 1) := by decide +kernel
theorem dj_prog_28_method_2_code_1 : decode prog_28_method_2_code 1 = .ok (.aload_n 0, 1) := by decide +kernel
theorem dj_prog_28_method_2_code_2 : decode prog_28_method_2_code 2 = .ok (.arraylength, 1) := by decide +kernel
theorem dj_prog_28_method_2_code_3 : decode prog_28_method_2_code 3 = .ok (.invokestatic 9, 3) := by decide +kernel
theorem dj_prog_28_method_2_code_6 : decode prog_28_method_2_code 6 = .ok (.aload_n 0, 1) := by decide +kernel
theorem dj_prog_28_method_2_code_7 : decode prog_28_method_2_code 7 = .ok (.iload_n 1, 1) := by decide +kernel
theorem dj_prog_28_method_2_code_8 : decode prog_28_method_2_code 8 = .ok (.baload, 1) := by decide +kernel
theorem dj_prog_28_method_2_code_9 : decode prog_28_method_2_code 9 = .ok (.sipush (255), 3) := by decide +kernel
theorem dj_prog_28_method_2_code_12 : decode prog_28_method_2_code 12 = .ok (.iand, 1) := by decide +kernel
theorem dj_prog_28_method_2_code_13 : decode prog_28_method_2_code 13 = .ok (.i2c, 1) := by decide +kernel
theorem dj_prog_28_method_2_code_14 : decode prog_28_method_2_code 14 = .ok (.ireturn, 1) := by decide +kernel
theorem dj_prog_26_method_56_code_0 : decode prog_26_method_56_code 0 = .ok (.aload_n 0, 1) := by decide +kernel
theorem dj_prog_26_method_56_code_1 : decode prog_26_method_56_code 1 = .ok (.invokevirtual 492, 3) := by decide +kernel
theorem dj_prog_26_method_56_code_4 : decode prog_26_method_56_code 4 = .ok (.ifCond .eq (12), 3) := by decide +kernel
theorem dj_prog_26_method_56_code_7 : decode prog_26_method_56_code 7 = .ok (.aload_n 0, 1) := by decide +kernel
theorem dj_prog_26_method_56_code_8 : decode prog_26_method_56_code 8 = .ok (.getfield 9, 3) := by decide +kernel
theorem dj_prog_26_method_56_code_11 : decode prog_26_method_56_code 11 = .ok (.iload_n 1, 1) := by decide +kernel
theorem dj_prog_26_method_56_code_12 : decode prog_26_method_56_code 12 = .ok (.invokestatic 495, 3) := by decide +kernel
theorem dj_prog_26_method_56_code_15 : decode prog_26_method_56_code 15 = .ok (.ireturn, 1) := by decide +kernel
set_option maxRecDepth 100000 in
theorem jc_coder {l : Launch} {D : va_G} {cB : ClassId} {zz : Nat} {ws : va_W} {a aa : Nat} (q0 : Nat) (he : ws[q0]? = some (jST a aa)) : JM l D cB zz ⟨"java/lang/String", "coder", "()B"⟩ prog_26_method_152_code 1 (some (.byte)) 0 0 0 [.ref a] ws (fun _ => some (.int 0)) (fun _ => ws) := by
  refine j_of (own := "java/lang/String") (by decide +kernel) rfl (Nat.le_of_ble_eq_true rfl) fun p e s m below meth c R C hr hlk hnm => ?_
  refine j_cs C (jm (tb 1119 (by decide +kernel)) rfl) dj_prog_26_method_152_code_0 ?_
  refine j_eq C 13 dj_prog_26_method_152_code_3 (by decide) (fun h_ => absurd h_ (by decide)) (fun _ => ?_)
  refine j_aln C 0 dj_prog_26_method_152_code_6 rfl rfl ?_
  refine j_getS C q0 1 he (by decide) (jm (tb 1303 (by decide +kernel)) rfl) rfl dj_prog_26_method_152_code_7 ?_
  refine j_goto C 14 dj_prog_26_method_152_code_10 (by decide) ?_
  exact j_zret C rfl hr hlk (0, 0) rfl rfl (by decide) (by decide) dj_prog_26_method_152_code_14
set_option maxRecDepth 100000 in
theorem jc_stL {l : Launch} {D : va_G} {cB : ClassId} {zz : Nat} {ws : va_W} {a aa : Nat} (q0 : Nat) (he : ws[q0]? = some (jST a aa)) : JM l D cB zz ⟨"java/lang/String", "isLatin1", "()Z"⟩ prog_26_method_154_code 1 (some (.boolean)) 0 0 0 [.ref a] ws (fun _ => some (.int 1)) (fun _ => ws) := by
  refine j_of (own := "java/lang/String") (by decide +kernel) rfl (Nat.le_of_ble_eq_true rfl) fun p e s m below meth c R C hr hlk hnm => ?_
  refine j_cs C (jm (tb 1119 (by decide +kernel)) rfl) dj_prog_26_method_154_code_0 ?_
  refine j_eq C 17 dj_prog_26_method_154_code_3 (by decide) (fun h_ => absurd h_ (by decide)) (fun _ => ?_)
  refine j_aln C 0 dj_prog_26_method_154_code_6 rfl rfl ?_
  refine j_getS C q0 1 he (by decide) (jm (tb 1303 (by decide +kernel)) rfl) rfl dj_prog_26_method_154_code_7 ?_
  refine j_ne C 17 dj_prog_26_method_154_code_10 (by decide) (fun h_ => absurd h_ (by decide)) (fun _ => ?_)
  refine j_ic C (v := 1) dj_prog_26_method_154_code_13 (by decide) ?_
  refine j_goto C 18 dj_prog_26_method_154_code_14 (by decide) ?_
  exact j_zret C rfl hr hlk (0, 0) rfl rfl (by decide) (by decide) dj_prog_26_method_154_code_18
set_option maxRecDepth 100000 in
theorem jc_len {l : Launch} {D : va_G} {cB : ClassId} {zz : Nat} {ws : va_W} {a aa N : Nat} {g : Nat → Int32} (q0 : Nat) (he : ws[q0]? = some (jST a aa)) (q1 : Nat) (he1 : ws[q1]? = some (jBY cB aa N g)) : JM l D cB zz ⟨"java/lang/String", "length", "()I"⟩ prog_26_method_54_code 1 (some (.int)) 1 0 0 [.ref a] ws (fun _ => some (.int (nI N))) (fun _ => ws) := by
  refine j_of (own := "java/lang/String") (by decide +kernel) rfl (Nat.le_of_ble_eq_true rfl) fun p e s m below meth c R C hr hlk hnm => ?_
  refine j_aln C 0 dj_prog_26_method_54_code_0 rfl rfl ?_
  refine j_getS C q0 0 he (by decide) (jm (tb 1302 (by decide +kernel)) rfl) rfl dj_prog_26_method_54_code_1 ?_
  refine j_alen C q1 he1 dj_prog_26_method_54_code_4 ?_
  refine j_aln C 0 dj_prog_26_method_54_code_5 rfl rfl ?_
  refine j_callV C (n := 0) (rest := [_]) q0 he (ci := 1) rfl rfl (jc_coder q0 he) (jm (tb 1118 (by decide +kernel)) rfl) (jm (tb 50 (by decide +kernel)) rfl) (jm (tb 1115 (by decide +kernel)) rfl) (jm (tb 1116 (by decide +kernel)) rfl) (jm (tb 1117 (by decide +kernel)) rfl) (by decide +kernel) rfl (by decide) (by decide) (Nat.le_of_ble_eq_true rfl) dj_prog_26_method_54_code_6 fun u6 => ?_
  refine j_ishr C dj_prog_26_method_54_code_9 (j_shr0 (nI N)) ?_
  exact j_iret C hr hlk (0, 0) rfl rfl (by decide) (by decide) dj_prog_26_method_54_code_10
set_option maxRecDepth 100000 in
theorem jc_sbL {l : Launch} {D : va_G} {cB : ClassId} {zz : Nat} {ws : va_W} {b da n : Nat} (q0 : Nat) (he : ws[q0]? = some (jSB b da n)) : JM l D cB zz ⟨"java/lang/AbstractStringBuilder", "isLatin1", "()Z"⟩ prog_16_method_68_code 1 (some (.boolean)) 0 0 0 [.ref b] ws (fun _ => some (.int 1)) (fun _ => ws) := by
  refine j_of (own := "java/lang/AbstractStringBuilder") (by decide +kernel) rfl (Nat.le_of_ble_eq_true rfl) fun p e s m below meth c R C hr hlk hnm => ?_
  refine j_cs C (jm (tb 1187 (by decide +kernel)) rfl) dj_prog_16_method_68_code_0 ?_
  refine j_eq C 17 dj_prog_16_method_68_code_3 (by decide) (fun h_ => absurd h_ (by decide)) (fun _ => ?_)
  refine j_aln C 0 dj_prog_16_method_68_code_6 rfl rfl ?_
  refine j_getB C q0 1 he (by decide) (jm (tb 1196 (by decide +kernel)) rfl) rfl dj_prog_16_method_68_code_7 ?_
  refine j_ne C 17 dj_prog_16_method_68_code_10 (by decide) (fun h_ => absurd h_ (by decide)) (fun _ => ?_)
  refine j_ic C (v := 1) dj_prog_16_method_68_code_13 (by decide) ?_
  refine j_goto C 18 dj_prog_16_method_68_code_14 (by decide) ?_
  exact j_zret C rfl hr hlk (0, 0) rfl rfl (by decide) (by decide) dj_prog_16_method_68_code_18
set_option maxRecDepth 100000 in
theorem jc_can {l : Launch} {D : va_G} {cB : ClassId} {zz : Nat} {ws : va_W} {ch : Nat} (hch : ch < 128) : JM l D cB zz ⟨"java/lang/StringLatin1", "canEncode", "(C)Z"⟩ prog_28_method_3_code 1 (some (.boolean)) 0 0 0 [.int (nI ch)] ws (fun _ => some (.int 1)) (fun _ => ws) := by
  refine j_of (own := "java/lang/StringLatin1") (by decide +kernel) rfl (Nat.le_of_ble_eq_true rfl) fun p e s m below meth c R C hr hlk hnm => ?_
  refine j_iln C 0 dj_prog_28_method_3_code_0 rfl rfl ?_
  refine j_si C (v := 255) dj_prog_28_method_3_code_1 (by decide) ?_
  refine j_gt2 C 11 dj_prog_28_method_3_code_4 (by decide) (fun h_ => absurd h_ (j_c255 ch hch).2.2.1) (fun _ => ?_)
  refine j_ic C (v := 1) dj_prog_28_method_3_code_7 (by decide) ?_
  refine j_goto C 12 dj_prog_28_method_3_code_8 (by decide) ?_
  exact j_zret C rfl hr hlk (0, 0) rfl rfl (by decide) (by decide) dj_prog_28_method_3_code_12
set_option maxRecDepth 100000 in
theorem jc_ens {l : Launch} {D : va_G} {cB : ClassId} {zz : Nat} {ws : va_W} {b da n N k : Nat} {f : Nat → Int32} (q0 : Nat) (he : ws[q0]? = some (jSB b da n)) (q1 : Nat) (he1 : ws[q1]? = some (jBY cB da N f)) (hk : k ≤ N) (hN : N ≤ 65536) : JM l D cB zz ⟨"java/lang/AbstractStringBuilder", "ensureCapacityInternal", "(I)V"⟩ prog_16_method_9_code 3 none 0 0 0 [.ref b, .int (nI k)] ws (fun _ => none) (fun _ => ws) := by
  refine j_of (own := "java/lang/AbstractStringBuilder") (by decide +kernel) rfl (Nat.le_of_ble_eq_true rfl) fun p e s m below meth c R C hr hlk hnm => ?_
  refine j_aln C 0 dj_prog_16_method_9_code_0 rfl rfl ?_
  refine j_getB C q0 0 he (by decide) (jm (tb 1195 (by decide +kernel)) rfl) rfl dj_prog_16_method_9_code_1 ?_
  refine j_alen C q1 he1 dj_prog_16_method_9_code_4 ?_
  refine j_aln C 0 dj_prog_16_method_9_code_5 rfl rfl ?_
  refine j_getB C q0 1 he (by decide) (jm (tb 1196 (by decide +kernel)) rfl) rfl dj_prog_16_method_9_code_6 ?_
  refine j_ishr C dj_prog_16_method_9_code_9 (j_shr0 (nI N)) ?_
  refine j_isn C dj_prog_16_method_9_code_10 rfl (by decide) rfl ?_
  refine j_iln C 2 dj_prog_16_method_9_code_11 rfl rfl ?_
  refine j_iln C 0 dj_prog_16_method_9_code_12 rfl rfl ?_
  refine j_isub C dj_prog_16_method_9_code_13 rfl ?_
  refine j_le C 38 dj_prog_16_method_9_code_14 (by decide) (fun _ => ?_) (fun h_ => absurd h_ (not_not_intro (j_le0 hk hN)))
  exact j_vret C hr hlk (0, 0) rfl rfl (by decide) (by decide) dj_prog_16_method_9_code_38
set_option maxRecDepth 100000 in
theorem jc_apC {l : Launch} {D : va_G} {cB : ClassId} {zz : Nat} {b da n N ch : Nat} {f : Nat → Int32} (hn : n < N) (hN : N ≤ 65536) (hch : ch < 128) : JM l D cB zz ⟨"java/lang/AbstractStringBuilder", "append", "(C)Ljava/lang/AbstractStringBuilder;"⟩ prog_16_method_31_code 2 (some (.object "java/lang/AbstractStringBuilder")) 1 0 0 [.ref b, .int (nI ch)] [jSB b da n, jBY cB da N f] (fun _ => some (.ref b)) (fun _ => [jSB b da (n + 1), jBY cB da N (upd f n (nI ch))]) := by
  refine j_of (own := "java/lang/AbstractStringBuilder") (by decide +kernel) rfl (Nat.le_of_ble_eq_true rfl) fun p e s m below meth c R C hr hlk hnm => ?_
  refine j_aln C 0 dj_prog_16_method_31_code_0 rfl rfl ?_
  refine j_aln C 0 dj_prog_16_method_31_code_1 rfl rfl ?_
  refine j_getB C 0 3 rfl (by decide) (jm (tb 1198 (by decide +kernel)) rfl) rfl dj_prog_16_method_31_code_2 ?_
  refine j_ic C (v := 1) dj_prog_16_method_31_code_5 (by decide) ?_
  refine j_iadd C dj_prog_16_method_31_code_6 (nI_1 n) ?_
  refine j_callU C (n := 1) (rest := []) 0 rfl (jc_ens 0 rfl 1 rfl (show n + 1 ≤ N by omega) hN) (jm (tb 1219 (by decide +kernel)) rfl) (jm (tb 48 (by decide +kernel)) rfl) ⟨"java/lang/AbstractStringBuilder", "ensureCapacityInternal", "(I)V"⟩ rfl (jm (tb 1216 (by decide +kernel)) rfl) (jm (tb 1408 (by decide +kernel)) rfl) (List.mem_append_left _ (List.mem_of_getElem? (i := 0) rfl)) (jm (tb 1218 (by decide +kernel)) rfl) (by decide +kernel) rfl (by decide) (by decide) (Nat.le_of_ble_eq_true rfl) dj_prog_16_method_31_code_7 fun u7 => ?_
  refine j_aln C 0 dj_prog_16_method_31_code_10 rfl rfl ?_
  refine j_callU C (n := 0) (rest := []) 0 rfl (jc_sbL 0 rfl) (jm (tb 1253 (by decide +kernel)) rfl) (jm (tb 48 (by decide +kernel)) rfl) ⟨"java/lang/AbstractStringBuilder", "isLatin1", "()Z"⟩ rfl (jm (tb 1249 (by decide +kernel)) rfl) (jm (tb 1251 (by decide +kernel)) rfl) (jm (tb 1252 (by decide +kernel)) rfl) (jm (tb 1250 (by decide +kernel)) rfl) (by decide +kernel) rfl (by decide) (by decide) (Nat.le_of_ble_eq_true rfl) dj_prog_16_method_31_code_11 fun u11 => ?_
  refine j_eq C 45 dj_prog_16_method_31_code_14 (by decide) (fun h_ => absurd h_ (by decide)) (fun _ => ?_)
  refine j_iln C 1 dj_prog_16_method_31_code_17 rfl rfl ?_
  refine j_callS C (n := 1) (rest := []) (jc_can hch) (jm (tb 1256 (by decide +kernel)) rfl) (jm (tb 55 (by decide +kernel)) rfl) (jm (tb 1254 (by decide +kernel)) rfl) (jm (tb 1255 (by decide +kernel)) rfl) (by decide +kernel) rfl (by decide) (by decide) (Nat.le_of_ble_eq_true rfl) dj_prog_16_method_31_code_18 fun u18 => ?_
  refine j_eq C 45 dj_prog_16_method_31_code_21 (by decide) (fun h_ => absurd h_ (by decide)) (fun _ => ?_)
  refine j_aln C 0 dj_prog_16_method_31_code_24 rfl rfl ?_
  refine j_getB C 0 0 rfl (by decide) (jm (tb 1195 (by decide +kernel)) rfl) rfl dj_prog_16_method_31_code_25 ?_
  refine j_aln C 0 dj_prog_16_method_31_code_28 rfl rfl ?_
  refine j_dup C dj_prog_16_method_31_code_29 rfl ?_
  refine j_getB C 0 3 rfl (by decide) (jm (tb 1198 (by decide +kernel)) rfl) rfl dj_prog_16_method_31_code_30 ?_
  refine j_dup_x1 C dj_prog_16_method_31_code_33 rfl rfl ?_
  refine j_ic C (v := 1) dj_prog_16_method_31_code_34 (by decide) ?_
  refine j_iadd C dj_prog_16_method_31_code_35 (nI_1 n) ?_
  refine j_putB C 0 3 rfl (by decide) (jm (tb 1198 (by decide +kernel)) rfl) rfl rfl (Nat.le_of_ble_eq_true rfl) dj_prog_16_method_31_code_36 rfl ?_
  refine j_iln C 1 dj_prog_16_method_31_code_39 rfl rfl ?_
  refine j_i2b C dj_prog_16_method_31_code_40 (j_b8 ch hch) ?_
  refine j_bast C 1 rfl (vp_in_nI hn (by omega)) dj_prog_16_method_31_code_41 rfl ?_
  refine j_goto C 75 dj_prog_16_method_31_code_42 (by decide) ?_
  refine j_aln C 0 dj_prog_16_method_31_code_75 rfl rfl ?_
  exact j_aret C (Or.inl ⟨_, rfl⟩) hr hlk (0, 0) rfl (by rw [j_bset (by omega) hch]; rfl) (by decide) (by decide) dj_prog_16_method_31_code_76
set_option maxRecDepth 100000 in
theorem jc_apCS {l : Launch} {D : va_G} {cB : ClassId} {zz : Nat} {b da n N ch : Nat} {f : Nat → Int32} (hn : n < N) (hN : N ≤ 65536) (hch : ch < 128) : JM l D cB zz ⟨"java/lang/StringBuilder", "append", "(C)Ljava/lang/StringBuilder;"⟩ prog_27_method_14_code 2 (some (.object "java/lang/StringBuilder")) 2 0 0 [.ref b, .int (nI ch)] [jSB b da n, jBY cB da N f] (fun _ => some (.ref b)) (fun _ => [jSB b da (n + 1), jBY cB da N (upd f n (nI ch))]) := by
  refine j_of (own := "java/lang/StringBuilder") (by decide +kernel) rfl (Nat.le_of_ble_eq_true rfl) fun p e s m below meth c R C hr hlk hnm => ?_
  refine j_aln C 0 dj_prog_27_method_14_code_0 rfl rfl ?_
  refine j_iln C 1 dj_prog_27_method_14_code_1 rfl rfl ?_
  refine j_callSU C (n := 1) (rest := []) 0 rfl (jc_apC hn hN hch) (jm (tb 1215 (by decide +kernel)) rfl) (jm (tb 48 (by decide +kernel)) rfl) (jm (tb 1213 (by decide +kernel)) rfl) (jm (tb 1407 (by decide +kernel)) rfl) (jm (tb 1207 (by decide +kernel)) rfl) (jm (tb 1214 (by decide +kernel)) rfl) (by decide +kernel) rfl (by decide) (by decide) (Nat.le_of_ble_eq_true rfl) dj_prog_27_method_14_code_2 fun u2 => ?_
  refine j_pop C dj_prog_27_method_14_code_5 rfl ?_
  refine j_aln C 0 dj_prog_27_method_14_code_6 rfl rfl ?_
  exact j_aret C (Or.inl ⟨_, rfl⟩) hr hlk (0, 0) rfl rfl (by decide) (by decide) dj_prog_27_method_14_code_7
set_option maxRecDepth 100000 in
theorem jc_inf {l : Launch} {D : va_G} {cB : ClassId} {zz : Nat} {ws : va_W} {b da n a aa : Nat} (q0 : Nat) (he : ws[q0]? = some (jSB b da n)) (q1 : Nat) (he1 : ws[q1]? = some (jST a aa)) : JM l D cB zz ⟨"java/lang/AbstractStringBuilder", "inflateIfNeededFor", "(Ljava/lang/String;)V"⟩ prog_16_method_71_code 2 none 1 0 0 [.ref b, .ref a] ws (fun _ => none) (fun _ => ws) := by
  refine j_of (own := "java/lang/AbstractStringBuilder") (by decide +kernel) rfl (Nat.le_of_ble_eq_true rfl) fun p e s m below meth c R C hr hlk hnm => ?_
  refine j_cs C (jm (tb 1187 (by decide +kernel)) rfl) dj_prog_16_method_71_code_0 ?_
  refine j_eq C 21 dj_prog_16_method_71_code_3 (by decide) (fun h_ => absurd h_ (by decide)) (fun _ => ?_)
  refine j_aln C 0 dj_prog_16_method_71_code_6 rfl rfl ?_
  refine j_getB C q0 1 he (by decide) (jm (tb 1196 (by decide +kernel)) rfl) rfl dj_prog_16_method_71_code_7 ?_
  refine j_aln C 1 dj_prog_16_method_71_code_10 rfl rfl ?_
  refine j_callV C (n := 0) (rest := [_]) q1 he1 (ci := 1) rfl rfl (jc_coder q1 he1) (jm (tb 1118 (by decide +kernel)) rfl) (jm (tb 50 (by decide +kernel)) rfl) (jm (tb 1350 (by decide +kernel)) rfl) (jm (tb 1116 (by decide +kernel)) rfl) (jm (tb 1117 (by decide +kernel)) rfl) (by decide +kernel) rfl (by decide) (by decide) (Nat.le_of_ble_eq_true rfl) dj_prog_16_method_71_code_11 fun u11 => ?_
  refine j_eq2 C 21 dj_prog_16_method_71_code_14 (by decide) (fun _ => ?_) (fun h_ => absurd h_ (not_not_intro rfl))
  exact j_vret C hr hlk (0, 0) rfl rfl (by decide) (by decide) dj_prog_16_method_71_code_21
set_option maxRecDepth 100000 in
theorem jc_gb {l : Launch} {D : va_G} {cB : ClassId} {zz : Nat} {b da n N aa w a : Nat} {f g : Nat → Int32} (hn : n + w ≤ N) (hN : N ≤ 65536) (hg : ∀ i, i < w → fits .byte (.int (g i)) = true) : JM l D cB zz ⟨"java/lang/String", "getBytes", "([BIB)V"⟩ prog_26_method_147_code 4 none 2 0 0 [.ref a, .ref da, .int (nI n), .int 0] [jSB b da n, jBY cB da N f, jBY cB aa w g, jST a aa] (fun _ => none) (fun _ => [jSB b da n, jBY cB da N (va_cpy g f 0 n w), jBY cB aa w g, jST a aa]) := by
  refine j_of (own := "java/lang/String") (by decide +kernel) rfl (Nat.le_of_ble_eq_true rfl) fun p e s m below meth c R C hr hlk hnm => ?_
  refine j_aln C 0 dj_prog_26_method_147_code_0 rfl rfl ?_
  refine j_callV C (n := 0) (rest := []) 3 rfl (ci := 1) rfl rfl (jc_coder 3 rfl) (jm (tb 1118 (by decide +kernel)) rfl) (jm (tb 50 (by decide +kernel)) rfl) (jm (tb 1115 (by decide +kernel)) rfl) (jm (tb 1116 (by decide +kernel)) rfl) (jm (tb 1117 (by decide +kernel)) rfl) (by decide +kernel) rfl (by decide) (by decide) (Nat.le_of_ble_eq_true rfl) dj_prog_26_method_147_code_1 fun u1 => ?_
  refine j_iln C 3 dj_prog_26_method_147_code_4 rfl rfl ?_
  refine j_ne2 C 28 dj_prog_26_method_147_code_5 (by decide) (fun h_ => absurd h_ (not_not_intro rfl)) (fun _ => ?_)
  refine j_aln C 0 dj_prog_26_method_147_code_8 rfl rfl ?_
  refine j_getS C 3 0 rfl (by decide) (jm (tb 1302 (by decide +kernel)) rfl) rfl dj_prog_26_method_147_code_9 ?_
  refine j_ic C (v := 0) dj_prog_26_method_147_code_12 (by decide) ?_
  refine j_aln C 1 dj_prog_26_method_147_code_13 rfl rfl ?_
  refine j_iln C 2 dj_prog_26_method_147_code_14 rfl rfl ?_
  refine j_iln C 3 dj_prog_26_method_147_code_15 rfl rfl ?_
  refine j_ishl C dj_prog_26_method_147_code_16 (j_shl0 (nI n)) ?_
  refine j_aln C 0 dj_prog_26_method_147_code_17 rfl rfl ?_
  refine j_getS C 3 0 rfl (by decide) (jm (tb 1302 (by decide +kernel)) rfl) rfl dj_prog_26_method_147_code_18 ?_
  refine j_alen C 2 rfl dj_prog_26_method_147_code_21 ?_
  refine j_copy C 2 1 (jm (tb 1355 (by decide +kernel)) rfl) rfl rfl (by decide) (nI_pos (by omega)) (nI_pos (by omega)) (by rw [nI_clamp (by omega)]; show 0 + w ≤ w; omega) (by rw [nI_clamp (by omega), nI_clamp (by omega)]; exact hn) (fun i hi => by rw [nI_clamp (by omega)] at hi; rw [show (0 : Int32).toNatClampNeg + i = i from Nat.zero_add i]; exact hg i hi) (by decide) (Nat.le_of_ble_eq_true rfl) dj_prog_26_method_147_code_22 rfl ?_
  refine j_goto C 43 dj_prog_26_method_147_code_25 (by decide) ?_
  exact j_vret C hr hlk (0, 0) rfl (by rw [nI_clamp (show n < 2 ^ 31 by omega), nI_clamp (show w < 2 ^ 31 by omega)]; rfl) (by decide) (by decide) dj_prog_26_method_147_code_43
set_option maxRecDepth 100000 in
theorem jc_put {l : Launch} {D : va_G} {cB : ClassId} {zz : Nat} {b da n N aa w a : Nat} {f g : Nat → Int32} (hn : n + w ≤ N) (hN : N ≤ 65536) (hg : ∀ i, i < w → fits .byte (.int (g i)) = true) : JM l D cB zz ⟨"java/lang/AbstractStringBuilder", "putStringAt", "(ILjava/lang/String;)V"⟩ prog_16_method_73_code 3 none 3 0 0 [.ref b, .int (nI n), .ref a] [jSB b da n, jBY cB da N f, jBY cB aa w g, jST a aa] (fun _ => none) (fun _ => [jSB b da n, jBY cB da N (va_cpy g f 0 n w), jBY cB aa w g, jST a aa]) := by
  refine j_of (own := "java/lang/AbstractStringBuilder") (by decide +kernel) rfl (Nat.le_of_ble_eq_true rfl) fun p e s m below meth c R C hr hlk hnm => ?_
  refine j_aln C 0 dj_prog_16_method_73_code_0 rfl rfl ?_
  refine j_aln C 2 dj_prog_16_method_73_code_1 rfl rfl ?_
  refine j_callU C (n := 1) (rest := []) 0 rfl (jc_inf 0 rfl 3 rfl) (jm (tb 1349 (by decide +kernel)) rfl) (jm (tb 48 (by decide +kernel)) rfl) ⟨"java/lang/AbstractStringBuilder", "inflateIfNeededFor", "(Ljava/lang/String;)V"⟩ rfl (jm (tb 1346 (by decide +kernel)) rfl) (jm (tb 1414 (by decide +kernel)) rfl) (List.mem_append_left _ (List.mem_of_getElem? (i := 2) rfl)) (jm (tb 1348 (by decide +kernel)) rfl) (by decide +kernel) rfl (by decide) (by decide) (Nat.le_of_ble_eq_true rfl) dj_prog_16_method_73_code_2 fun u2 => ?_
  refine j_aln C 2 dj_prog_16_method_73_code_5 rfl rfl ?_
  refine j_aln C 0 dj_prog_16_method_73_code_6 rfl rfl ?_
  refine j_getB C 0 0 rfl (by decide) (jm (tb 1195 (by decide +kernel)) rfl) rfl dj_prog_16_method_73_code_7 ?_
  refine j_iln C 1 dj_prog_16_method_73_code_10 rfl rfl ?_
  refine j_aln C 0 dj_prog_16_method_73_code_11 rfl rfl ?_
  refine j_getB C 0 1 rfl (by decide) (jm (tb 1196 (by decide +kernel)) rfl) rfl dj_prog_16_method_73_code_12 ?_
  refine j_callV C (n := 3) (rest := []) 3 rfl (ci := 1) rfl rfl (jc_gb hn hN hg) (jm (tb 1354 (by decide +kernel)) rfl) (jm (tb 50 (by decide +kernel)) rfl) (jm (tb 1351 (by decide +kernel)) rfl) (jm (tb 1352 (by decide +kernel)) rfl) (jm (tb 1353 (by decide +kernel)) rfl) (by decide +kernel) rfl (by decide) (by decide) (Nat.le_of_ble_eq_true rfl) dj_prog_16_method_73_code_15 fun u15 => ?_
  exact j_vret C hr hlk (0, 0) rfl rfl (by decide) (by decide) dj_prog_16_method_73_code_18
set_option maxRecDepth 100000 in
theorem jc_apS {l : Launch} {D : va_G} {cB : ClassId} {zz : Nat} {b da n N aa w a : Nat} {f g : Nat → Int32} (hn : n + w ≤ N) (hN : N ≤ 65536) (hg : ∀ i, i < w → fits .byte (.int (g i)) = true) : JM l D cB zz ⟨"java/lang/AbstractStringBuilder", "append", "(Ljava/lang/String;)Ljava/lang/AbstractStringBuilder;"⟩ prog_16_method_22_code 3 (some (.object "java/lang/AbstractStringBuilder")) 4 0 0 [.ref b, .ref a] [jSB b da n, jBY cB da N f, jBY cB aa w g, jST a aa] (fun _ => some (.ref b)) (fun _ => [jSB b da (n + w), jBY cB da N (va_cpy g f 0 n w), jBY cB aa w g, jST a aa]) := by
  refine j_of (own := "java/lang/AbstractStringBuilder") (by decide +kernel) rfl (Nat.le_of_ble_eq_true rfl) fun p e s m below meth c R C hr hlk hnm => ?_
  refine j_aln C 1 dj_prog_16_method_22_code_0 rfl rfl ?_
  refine j_nonnull C 9 dj_prog_16_method_22_code_1 (by decide) ?_
  refine j_aln C 1 dj_prog_16_method_22_code_9 rfl rfl ?_
  refine j_callV C (n := 0) (rest := []) 3 rfl (ci := 1) rfl rfl (jc_len 3 rfl 2 rfl) (jm (tb 1114 (by decide +kernel)) rfl) (jm (tb 50 (by decide +kernel)) rfl) (jm (tb 1341 (by decide +kernel)) rfl) (jm (tb 1112 (by decide +kernel)) rfl) (jm (tb 1113 (by decide +kernel)) rfl) (by decide +kernel) rfl (by decide) (by decide) (Nat.le_of_ble_eq_true rfl) dj_prog_16_method_22_code_10 fun u10 => ?_
  refine j_isn C dj_prog_16_method_22_code_13 rfl (by decide) rfl ?_
  refine j_aln C 1 dj_prog_16_method_22_code_14 rfl rfl ?_
  refine j_aln C 1 dj_prog_16_method_22_code_15 rfl rfl ?_
  refine j_getB C 0 3 rfl (by decide) (jm (tb 1198 (by decide +kernel)) rfl) rfl dj_prog_16_method_22_code_16 ?_
  refine j_iln C 0 dj_prog_16_method_22_code_19 rfl rfl ?_
  refine j_iadd C dj_prog_16_method_22_code_20 (nI_add n w) ?_
  refine j_callU C (n := 1) (rest := []) 0 rfl (jc_ens 0 rfl 1 rfl hn hN) (jm (tb 1219 (by decide +kernel)) rfl) (jm (tb 48 (by decide +kernel)) rfl) ⟨"java/lang/AbstractStringBuilder", "ensureCapacityInternal", "(I)V"⟩ rfl (jm (tb 1216 (by decide +kernel)) rfl) (jm (tb 1408 (by decide +kernel)) rfl) (List.mem_append_left _ (List.mem_of_getElem? (i := 0) rfl)) (jm (tb 1218 (by decide +kernel)) rfl) (by decide +kernel) rfl (by decide) (by decide) (Nat.le_of_ble_eq_true rfl) dj_prog_16_method_22_code_21 fun u21 => ?_
  refine j_aln C 1 dj_prog_16_method_22_code_24 rfl rfl ?_
  refine j_aln C 1 dj_prog_16_method_22_code_25 rfl rfl ?_
  refine j_getB C 0 3 rfl (by decide) (jm (tb 1198 (by decide +kernel)) rfl) rfl dj_prog_16_method_22_code_26 ?_
  refine j_aln C 2 dj_prog_16_method_22_code_29 rfl rfl ?_
  refine j_callU C (n := 2) (rest := []) 0 rfl (jc_put hn hN hg) (jm (tb 1345 (by decide +kernel)) rfl) (jm (tb 48 (by decide +kernel)) rfl) ⟨"java/lang/AbstractStringBuilder", "putStringAt", "(ILjava/lang/String;)V"⟩ rfl (jm (tb 1342 (by decide +kernel)) rfl) (jm (tb 1413 (by decide +kernel)) rfl) (List.mem_append_left _ (List.mem_of_getElem? (i := 1) rfl)) (jm (tb 1344 (by decide +kernel)) rfl) (by decide +kernel) rfl (by decide) (by decide) (Nat.le_of_ble_eq_true rfl) dj_prog_16_method_22_code_30 fun u30 => ?_
  refine j_aln C 1 dj_prog_16_method_22_code_33 rfl rfl ?_
  refine j_dup C dj_prog_16_method_22_code_34 rfl ?_
  refine j_getB C 0 3 rfl (by decide) (jm (tb 1198 (by decide +kernel)) rfl) rfl dj_prog_16_method_22_code_35 ?_
  refine j_iln C 0 dj_prog_16_method_22_code_38 rfl rfl ?_
  refine j_iadd C dj_prog_16_method_22_code_39 (nI_add n w) ?_
  refine j_putB C 0 3 rfl (by decide) (jm (tb 1198 (by decide +kernel)) rfl) rfl rfl (Nat.le_of_ble_eq_true rfl) dj_prog_16_method_22_code_40 rfl ?_
  refine j_aln C 1 dj_prog_16_method_22_code_43 rfl rfl ?_
  exact j_aret C (Or.inl ⟨_, rfl⟩) hr hlk (0, 0) rfl rfl (by decide) (by decide) dj_prog_16_method_22_code_44
set_option maxRecDepth 100000 in
theorem jc_apSS {l : Launch} {D : va_G} {cB : ClassId} {zz : Nat} {b da n N aa w a : Nat} {f g : Nat → Int32} (hn : n + w ≤ N) (hN : N ≤ 65536) (hg : ∀ i, i < w → fits .byte (.int (g i)) = true) : JM l D cB zz ⟨"java/lang/StringBuilder", "append", "(Ljava/lang/String;)Ljava/lang/StringBuilder;"⟩ prog_27_method_7_code 2 (some (.object "java/lang/StringBuilder")) 5 0 0 [.ref b, .ref a] [jSB b da n, jBY cB da N f, jBY cB aa w g, jST a aa] (fun _ => some (.ref b)) (fun _ => [jSB b da (n + w), jBY cB da N (va_cpy g f 0 n w), jBY cB aa w g, jST a aa]) := by
  refine j_of (own := "java/lang/StringBuilder") (by decide +kernel) rfl (Nat.le_of_ble_eq_true rfl) fun p e s m below meth c R C hr hlk hnm => ?_
  refine j_aln C 0 dj_prog_27_method_7_code_0 rfl rfl ?_
  refine j_aln C 1 dj_prog_27_method_7_code_1 rfl rfl ?_
  refine j_callSU C (n := 1) (rest := []) 0 rfl (jc_apS hn hN hg) (jm (tb 1324 (by decide +kernel)) rfl) (jm (tb 48 (by decide +kernel)) rfl) (jm (tb 1322 (by decide +kernel)) rfl) (jm (tb 1411 (by decide +kernel)) rfl) (jm (tb 1207 (by decide +kernel)) rfl) (jm (tb 1323 (by decide +kernel)) rfl) (by decide +kernel) rfl (by decide) (by decide) (Nat.le_of_ble_eq_true rfl) dj_prog_27_method_7_code_2 fun u2 => ?_
  refine j_pop C dj_prog_27_method_7_code_5 rfl ?_
  refine j_aln C 0 dj_prog_27_method_7_code_6 rfl rfl ?_
  exact j_aret C (Or.inl ⟨_, rfl⟩) hr hlk (0, 0) rfl rfl (by decide) (by decide) dj_prog_27_method_7_code_7
theorem j_s1 : ∀ v : Nat, v < 10 → ¬ nI v < 0 ∧ ¬ -(nI v) ≤ -10 := by decide +kernel
theorem j_s2 : ∀ v : Nat, v < 100 → 10 ≤ v → ¬ nI v < 0 ∧ -(nI v) ≤ -10 ∧ ¬ -(nI v) ≤ -100 := by decide +kernel
set_option maxRecDepth 100000 in
theorem jc_ss1 {l : Launch} {D : va_G} {cB : ClassId} {zz : Nat} {ws : va_W} {v : Nat} (hv : v < 10) : JM l D cB zz ⟨"java/lang/Integer", "stringSize", "(I)I"⟩ prog_22_method_13_code 4 (some (.int)) 0 0 0 [.int (nI v)] ws (fun _ => some (.int 1)) (fun _ => ws) := by
  refine j_of (own := "java/lang/Integer") (by decide +kernel) rfl (Nat.le_of_ble_eq_true rfl) fun p e s m below meth c R C hr hlk hnm => ?_
  refine j_ic C (v := 1) dj_prog_22_method_13_code_0 (by decide) ?_
  refine j_isn C dj_prog_22_method_13_code_1 rfl (by decide) rfl ?_
  refine j_iln C 1 dj_prog_22_method_13_code_2 rfl rfl ?_
  refine j_lt C 11 dj_prog_22_method_13_code_3 (by decide) (fun h_ => absurd h_ (j_s1 v hv).1) (fun _ => ?_)
  refine j_ic C (v := 0) dj_prog_22_method_13_code_6 (by decide) ?_
  refine j_isn C dj_prog_22_method_13_code_7 rfl (by decide) rfl ?_
  refine j_iln C 1 dj_prog_22_method_13_code_8 rfl rfl ?_
  refine j_ineg C dj_prog_22_method_13_code_9 rfl ?_
  refine j_isn C dj_prog_22_method_13_code_10 rfl (by decide) rfl ?_
  refine j_bi C (v := -10) dj_prog_22_method_13_code_11 (by decide) ?_
  refine j_isn C dj_prog_22_method_13_code_13 rfl (by decide) rfl ?_
  refine j_ic C (v := 1) dj_prog_22_method_13_code_14 (by decide) ?_
  refine j_isn C dj_prog_22_method_13_code_15 rfl (by decide) rfl ?_
  refine j_iln C 0 dj_prog_22_method_13_code_16 rfl rfl ?_
  refine j_bi C (v := 10) dj_prog_22_method_13_code_17 (by decide) ?_
  refine j_ge2 C 42 dj_prog_22_method_13_code_19 (by decide) (fun h_ => absurd h_ (by decide)) (fun _ => ?_)
  refine j_iln C 2 dj_prog_22_method_13_code_22 rfl rfl ?_
  refine j_iln C 1 dj_prog_22_method_13_code_23 rfl rfl ?_
  refine j_le2 C 31 dj_prog_22_method_13_code_24 (by decide) (fun h_ => absurd h_ (j_s1 v hv).2) (fun _ => ?_)
  refine j_iln C 0 dj_prog_22_method_13_code_27 rfl rfl ?_
  refine j_iln C 3 dj_prog_22_method_13_code_28 rfl rfl ?_
  refine j_iadd C dj_prog_22_method_13_code_29 rfl ?_
  exact j_iret C hr hlk (0, 0) rfl rfl (by decide) (by decide) dj_prog_22_method_13_code_30
set_option maxRecDepth 100000 in
theorem jc_ss2 {l : Launch} {D : va_G} {cB : ClassId} {zz : Nat} {ws : va_W} {v : Nat} (hv : v < 100) (hv2 : 10 ≤ v) : JM l D cB zz ⟨"java/lang/Integer", "stringSize", "(I)I"⟩ prog_22_method_13_code 4 (some (.int)) 0 0 0 [.int (nI v)] ws (fun _ => some (.int 2)) (fun _ => ws) := by
  refine j_of (own := "java/lang/Integer") (by decide +kernel) rfl (Nat.le_of_ble_eq_true rfl) fun p e s m below meth c R C hr hlk hnm => ?_
  refine j_ic C (v := 1) dj_prog_22_method_13_code_0 (by decide) ?_
  refine j_isn C dj_prog_22_method_13_code_1 rfl (by decide) rfl ?_
  refine j_iln C 1 dj_prog_22_method_13_code_2 rfl rfl ?_
  refine j_lt C 11 dj_prog_22_method_13_code_3 (by decide) (fun h_ => absurd h_ (j_s2 v hv hv2).1) (fun _ => ?_)
  refine j_ic C (v := 0) dj_prog_22_method_13_code_6 (by decide) ?_
  refine j_isn C dj_prog_22_method_13_code_7 rfl (by decide) rfl ?_
  refine j_iln C 1 dj_prog_22_method_13_code_8 rfl rfl ?_
  refine j_ineg C dj_prog_22_method_13_code_9 rfl ?_
  refine j_isn C dj_prog_22_method_13_code_10 rfl (by decide) rfl ?_
  refine j_bi C (v := -10) dj_prog_22_method_13_code_11 (by decide) ?_
  refine j_isn C dj_prog_22_method_13_code_13 rfl (by decide) rfl ?_
  refine j_ic C (v := 1) dj_prog_22_method_13_code_14 (by decide) ?_
  refine j_isn C dj_prog_22_method_13_code_15 rfl (by decide) rfl ?_
  refine j_iln C 0 dj_prog_22_method_13_code_16 rfl rfl ?_
  refine j_bi C (v := 10) dj_prog_22_method_13_code_17 (by decide) ?_
  refine j_ge2 C 42 dj_prog_22_method_13_code_19 (by decide) (fun h_ => absurd h_ (by decide)) (fun _ => ?_)
  refine j_iln C 2 dj_prog_22_method_13_code_22 rfl rfl ?_
  refine j_iln C 1 dj_prog_22_method_13_code_23 rfl rfl ?_
  refine j_le2 C 31 dj_prog_22_method_13_code_24 (by decide) (fun _ => ?_) (fun h_ => absurd h_ (not_not_intro (j_s2 v hv hv2).2.1))
  refine j_bi C (v := 10) dj_prog_22_method_13_code_31 (by decide) ?_
  refine j_iln C 1 dj_prog_22_method_13_code_33 rfl rfl ?_
  refine j_imul C dj_prog_22_method_13_code_34 (show (10 : Int32) * -10 = -100 by decide) ?_
  refine j_isn C dj_prog_22_method_13_code_35 rfl (by decide) rfl ?_
  refine j_inc C (k := 1) dj_prog_22_method_13_code_36 rfl (show (1 : Int32) + Int32.ofInt 1 = 2 by decide) (by decide) rfl ?_
  refine j_goto C 16 dj_prog_22_method_13_code_39 (by decide) ?_
  refine j_iln C 0 dj_prog_22_method_13_code_16 rfl rfl ?_
  refine j_bi C (v := 10) dj_prog_22_method_13_code_17 (by decide) ?_
  refine j_ge2 C 42 dj_prog_22_method_13_code_19 (by decide) (fun h_ => absurd h_ (by decide)) (fun _ => ?_)
  refine j_iln C 2 dj_prog_22_method_13_code_22 rfl rfl ?_
  refine j_iln C 1 dj_prog_22_method_13_code_23 rfl rfl ?_
  refine j_le2 C 31 dj_prog_22_method_13_code_24 (by decide) (fun h_ => absurd h_ (j_s2 v hv hv2).2.2) (fun _ => ?_)
  refine j_iln C 0 dj_prog_22_method_13_code_27 rfl rfl ?_
  refine j_iln C 3 dj_prog_22_method_13_code_28 rfl rfl ?_
  refine j_iadd C dj_prog_22_method_13_code_29 rfl ?_
  exact j_iret C hr hlk (0, 0) rfl rfl (by decide) (by decide) dj_prog_22_method_13_code_30
theorem j_g1 : ∀ v : Nat, v < 10 → 0 ≤ nI v ∧ (-100 : Int32) < -(nI v) ∧ -9 ≤ -(nI v) := by decide +kernel
theorem j_g2 : ∀ v : Nat, v < 100 → 10 ≤ v → 0 ≤ nI v ∧ (-100 : Int32) < -(nI v) ∧ ¬ -9 ≤ -(nI v) := by decide +kernel
set_option maxRecDepth 100000 in
theorem jc_gc1 {l : Launch} {D : va_G} {cB : ClassId} {zz : Nat} {b da n N aa v : Nat} {f : Nat → Int32} (hv : v < 10) : JM l D cB zz ⟨"java/lang/Integer", "getChars", "(II[B)I"⟩ prog_22_method_12_code 7 (some (.int)) 0 0 0 [.int (nI v), .int 1, .ref aa] [jSB b da n, jBY cB da N f, jBY cB aa 1 (fun _ => 0)] (fun _ => some (.int 0)) (fun _ => [jSB b da n, jBY cB da N f, jBY cB aa 1 (upd (fun _ => 0) 0 (nI (48 + v % 10)))]) := by
  refine j_of (own := "java/lang/Integer") (by decide +kernel) rfl (Nat.le_of_ble_eq_true rfl) fun p e s m below meth c R C hr hlk hnm => ?_
  refine j_iln C 1 dj_prog_22_method_12_code_0 rfl rfl ?_
  refine j_is C dj_prog_22_method_12_code_1 (by decide) rfl ?_
  refine j_iln C 1 dj_prog_22_method_12_code_3 rfl rfl ?_
  refine j_ge C 11 dj_prog_22_method_12_code_4 (by decide) (fun _ => ?_) (fun h_ => absurd h_ (not_not_intro (j_g1 v hv).1))
  refine j_ic C (v := 0) dj_prog_22_method_12_code_11 (by decide) ?_
  refine j_is C dj_prog_22_method_12_code_12 (by decide) rfl ?_
  refine j_il C 0 dj_prog_22_method_12_code_14 rfl ?_
  refine j_ne C 22 dj_prog_22_method_12_code_16 (by decide) (fun h_ => absurd h_ (by decide)) (fun _ => ?_)
  refine j_iln C 2 dj_prog_22_method_12_code_19 rfl rfl ?_
  refine j_ineg C dj_prog_22_method_12_code_20 rfl ?_
  refine j_isn C dj_prog_22_method_12_code_21 rfl (by decide) rfl ?_
  refine j_iln C 0 dj_prog_22_method_12_code_22 rfl rfl ?_
  refine j_bi C (v := -100) dj_prog_22_method_12_code_23 (by decide) ?_
  refine j_gt2 C 72 dj_prog_22_method_12_code_25 (by decide) (fun _ => ?_) (fun h_ => absurd h_ (not_not_intro (j_g1 v hv).2.1))
  refine j_aln C 4 dj_prog_22_method_12_code_72 rfl rfl ?_
  refine j_inc C (k := 2) dj_prog_22_method_12_code_73 rfl (v := 0) (show (1 : Int32) + Int32.ofInt (-1) = 0 by decide) (by decide) rfl ?_
  refine j_il C 0 dj_prog_22_method_12_code_76 rfl ?_
  refine j_dig1 C (jm (tb 1292 (by decide +kernel)) rfl) dj_prog_22_method_12_code_78 fun dg78 hdg78 => ?_
  refine j_iln C 1 dj_prog_22_method_12_code_81 rfl rfl ?_
  refine j_ineg C dj_prog_22_method_12_code_82 Int32.neg_neg ?_
  refine hdg78 (i := v) (by omega) dj_prog_22_method_12_code_83 ?_
  refine j_bast C 2 rfl (vp_in_nI (n := 0) (N := 1) (by decide) (by decide)) dj_prog_22_method_12_code_84 rfl ?_
  refine j_iln C 1 dj_prog_22_method_12_code_85 rfl rfl ?_
  refine j_bi C (v := -9) dj_prog_22_method_12_code_86 (by decide) ?_
  refine j_ge2 C 104 dj_prog_22_method_12_code_88 (by decide) (fun _ => ?_) (fun h_ => absurd h_ (not_not_intro (j_g1 v hv).2.2))
  refine j_il C 2 dj_prog_22_method_12_code_104 rfl ?_
  refine j_eq C 118 dj_prog_22_method_12_code_106 (by decide) (fun _ => ?_) (fun h_ => absurd h_ (not_not_intro rfl))
  refine j_il C 0 dj_prog_22_method_12_code_118 rfl ?_
  exact j_iret C hr hlk (0, 0) rfl (by rw [← j_bset (f := fun _ => 0) (n := 0) (by decide) (show 48 + v % 10 < 128 by omega)]; rfl) (by decide) (by decide) dj_prog_22_method_12_code_120
set_option maxRecDepth 100000 in
theorem jc_gc2 {l : Launch} {D : va_G} {cB : ClassId} {zz : Nat} {b da n N aa v : Nat} {f : Nat → Int32} (hv : v < 100) (hv2 : 10 ≤ v) : JM l D cB zz ⟨"java/lang/Integer", "getChars", "(II[B)I"⟩ prog_22_method_12_code 7 (some (.int)) 0 0 0 [.int (nI v), .int 2, .ref aa] [jSB b da n, jBY cB da N f, jBY cB aa 2 (fun _ => 0)] (fun _ => some (.int 0)) (fun _ => [jSB b da n, jBY cB da N f, jBY cB aa 2 (upd (upd (fun _ => 0) 1 (nI (48 + v % 10))) 0 (nI (48 + v / 10)))]) := by
  refine j_of (own := "java/lang/Integer") (by decide +kernel) rfl (Nat.le_of_ble_eq_true rfl) fun p e s m below meth c R C hr hlk hnm => ?_
  refine j_iln C 1 dj_prog_22_method_12_code_0 rfl rfl ?_
  refine j_is C dj_prog_22_method_12_code_1 (by decide) rfl ?_
  refine j_iln C 1 dj_prog_22_method_12_code_3 rfl rfl ?_
  refine j_ge C 11 dj_prog_22_method_12_code_4 (by decide) (fun _ => ?_) (fun h_ => absurd h_ (not_not_intro (j_g2 v hv hv2).1))
  refine j_ic C (v := 0) dj_prog_22_method_12_code_11 (by decide) ?_
  refine j_is C dj_prog_22_method_12_code_12 (by decide) rfl ?_
  refine j_il C 0 dj_prog_22_method_12_code_14 rfl ?_
  refine j_ne C 22 dj_prog_22_method_12_code_16 (by decide) (fun h_ => absurd h_ (by decide)) (fun _ => ?_)
  refine j_iln C 2 dj_prog_22_method_12_code_19 rfl rfl ?_
  refine j_ineg C dj_prog_22_method_12_code_20 rfl ?_
  refine j_isn C dj_prog_22_method_12_code_21 rfl (by decide) rfl ?_
  refine j_iln C 0 dj_prog_22_method_12_code_22 rfl rfl ?_
  refine j_bi C (v := -100) dj_prog_22_method_12_code_23 (by decide) ?_
  refine j_gt2 C 72 dj_prog_22_method_12_code_25 (by decide) (fun _ => ?_) (fun h_ => absurd h_ (not_not_intro (j_g2 v hv hv2).2.1))
  refine j_aln C 4 dj_prog_22_method_12_code_72 rfl rfl ?_
  refine j_inc C (k := 2) dj_prog_22_method_12_code_73 rfl (v := 1) (show (2 : Int32) + Int32.ofInt (-1) = 1 by decide) (by decide) rfl ?_
  refine j_il C 0 dj_prog_22_method_12_code_76 rfl ?_
  refine j_dig1 C (jm (tb 1292 (by decide +kernel)) rfl) dj_prog_22_method_12_code_78 fun dg78 hdg78 => ?_
  refine j_iln C 1 dj_prog_22_method_12_code_81 rfl rfl ?_
  refine j_ineg C dj_prog_22_method_12_code_82 Int32.neg_neg ?_
  refine hdg78 (i := v) (by omega) dj_prog_22_method_12_code_83 ?_
  refine j_bast C 2 rfl (vp_in_nI (n := 1) (N := 2) (by decide) (by decide)) dj_prog_22_method_12_code_84 rfl ?_
  refine j_iln C 1 dj_prog_22_method_12_code_85 rfl rfl ?_
  refine j_bi C (v := -9) dj_prog_22_method_12_code_86 (by decide) ?_
  refine j_ge2 C 104 dj_prog_22_method_12_code_88 (by decide) (fun h_ => absurd h_ (j_g2 v hv hv2).2.2) (fun _ => ?_)
  refine j_aln C 4 dj_prog_22_method_12_code_91 rfl rfl ?_
  refine j_inc C (k := 0) dj_prog_22_method_12_code_92 rfl (v := 0) (show (1 : Int32) + Int32.ofInt (-1) = 0 by decide) (by decide) rfl ?_
  refine j_il C 0 dj_prog_22_method_12_code_95 rfl ?_
  refine j_dig2 C (jm (tb 1294 (by decide +kernel)) rfl) dj_prog_22_method_12_code_97 fun dg97 hdg97 => ?_
  refine j_iln C 1 dj_prog_22_method_12_code_100 rfl rfl ?_
  refine j_ineg C dj_prog_22_method_12_code_101 Int32.neg_neg ?_
  refine hdg97 (i := v) (by omega) dj_prog_22_method_12_code_102 ?_
  refine j_bast C 2 rfl (vp_in_nI (n := 0) (N := 2) (by decide) (by decide)) dj_prog_22_method_12_code_103 rfl ?_
  refine j_il C 2 dj_prog_22_method_12_code_104 rfl ?_
  refine j_eq C 118 dj_prog_22_method_12_code_106 (by decide) (fun _ => ?_) (fun h_ => absurd h_ (not_not_intro rfl))
  refine j_il C 0 dj_prog_22_method_12_code_118 rfl ?_
  exact j_iret C hr hlk (0, 0) rfl (by rw [← j_bset (f := upd (fun _ => 0) 1 (nI (48 + v % 10))) (n := 0) (by decide) (show 48 + v / 10 < 128 by omega), ← j_bset (f := fun _ => 0) (n := 1) (by decide) (show 48 + v % 10 < 128 by omega)]; rfl) (by decide) (by decide) dj_prog_22_method_12_code_120
set_option maxRecDepth 100000 in
theorem jc_stI {l : Launch} {D : va_G} {cB : ClassId} {zz : Nat} {x0 x1 x2 : Nat × va_E} {a aa : Nat} : JM l D cB zz ⟨"java/lang/String", "<init>", "([BB)V"⟩ prog_26_method_151_code 3 none 1 0 0 [.ref a, .ref aa, .int 0] [x0, x1, x2, jSR a] (fun _ => none) (fun _ => [x0, x1, x2, jST a aa]) := by
  refine j_of (own := "java/lang/String") (by decide +kernel) rfl (Nat.le_of_ble_eq_true rfl) fun p e s m below meth c R C hr hlk hnm => ?_
  refine j_aln C 0 dj_prog_26_method_151_code_0 rfl rfl ?_
  refine j_objI C (jm (tb 1301 (by decide +kernel)) rfl) (by decide) (Nat.le_of_ble_eq_true rfl) dj_prog_26_method_151_code_1 ?_
  refine j_aln C 0 dj_prog_26_method_151_code_4 rfl rfl ?_
  refine j_aln C 1 dj_prog_26_method_151_code_5 rfl rfl ?_
  refine j_putS C hnm rfl 3 0 rfl (by decide) (jm (tb 1302 (by decide +kernel)) rfl) rfl rfl (Nat.le_of_ble_eq_true rfl) dj_prog_26_method_151_code_6 rfl ?_
  refine j_aln C 0 dj_prog_26_method_151_code_9 rfl rfl ?_
  refine j_iln C 2 dj_prog_26_method_151_code_10 rfl rfl ?_
  refine j_putS C hnm rfl 3 1 rfl (by decide) (jm (tb 1303 (by decide +kernel)) rfl) rfl rfl (Nat.le_of_ble_eq_true rfl) dj_prog_26_method_151_code_11 rfl ?_
  exact j_vret C hr hlk (0, 0) rfl rfl (by decide) (by decide) dj_prog_26_method_151_code_14
set_option maxRecDepth 100000 in
theorem jc_ts1 {l : Launch} {D : va_G} {cB : ClassId} {zz : Nat} {b da n N v : Nat} {f : Nat → Int32} (hv : v < 10) : JM l D cB zz ⟨"java/lang/Integer", "toString", "(I)Ljava/lang/String;"⟩ prog_22_method_10_code 3 (some (.object "java/lang/String")) 2 2 5 [.int (nI v)] [jSB b da n, jBY cB da N f] (fun u => some (.ref u.1)) (fun u => [jSB b da n, jBY cB da N f, jBY cB u.2 1 (upd (fun _ => 0) 0 (nI (48 + v % 10))), jST u.1 u.2]) := by
  refine j_of (own := "java/lang/Integer") (by decide +kernel) rfl (Nat.le_of_ble_eq_true rfl) fun p e s m below meth c R C hr hlk hnm => ?_
  refine j_iln C 0 dj_prog_22_method_10_code_0 rfl rfl ?_
  refine j_callS C (n := 1) (rest := []) (jc_ss1 hv) (jm (tb 1287 (by decide +kernel)) rfl) (jm (tb 58 (by decide +kernel)) rfl) (jm (tb 1285 (by decide +kernel)) rfl) (jm (tb 1286 (by decide +kernel)) rfl) (by decide +kernel) rfl (by decide) (by decide) (Nat.le_of_ble_eq_true rfl) dj_prog_22_method_10_code_1 fun u1 => ?_
  refine j_isn C dj_prog_22_method_10_code_4 rfl (by decide) rfl ?_
  refine j_cs C (jm (tb 1288 (by decide +kernel)) rfl) dj_prog_22_method_10_code_5 ?_
  refine j_eq C 32 dj_prog_22_method_10_code_8 (by decide) (fun h_ => absurd h_ (by decide)) (fun _ => ?_)
  refine j_iln C 0 dj_prog_22_method_10_code_11 rfl rfl ?_
  refine j_newa C (N := 1) rfl (by decide) (by decide) (by decide) dj_prog_22_method_10_code_12 fun q12 => ?_
  refine j_asn C dj_prog_22_method_10_code_14 rfl (by decide) rfl ?_
  refine j_iln C 2 dj_prog_22_method_10_code_15 rfl rfl ?_
  refine j_iln C 1 dj_prog_22_method_10_code_16 rfl rfl ?_
  refine j_aln C 0 dj_prog_22_method_10_code_17 rfl rfl ?_
  refine j_callS C (n := 3) (rest := []) (jc_gc1 hv) (jm (tb 1291 (by decide +kernel)) rfl) (jm (tb 58 (by decide +kernel)) rfl) (jm (tb 1289 (by decide +kernel)) rfl) (jm (tb 1290 (by decide +kernel)) rfl) (by decide +kernel) rfl (by decide) (by decide) (Nat.le_of_ble_eq_true rfl) dj_prog_22_method_10_code_18 fun u18 => ?_
  refine j_pop C dj_prog_22_method_10_code_21 rfl ?_
  refine j_newS C (jm (tb 1296 (by decide +kernel)) rfl) (by decide) (by decide) dj_prog_22_method_10_code_22 fun q22 => ?_
  refine j_dup C dj_prog_22_method_10_code_25 rfl ?_
  refine j_aln C 0 dj_prog_22_method_10_code_26 rfl rfl ?_
  refine j_ic C (v := 0) dj_prog_22_method_10_code_27 (by decide) ?_
  refine j_callI C (n := 2) (rest := [_]) (jc_stI ) (jm (tb 1300 (by decide +kernel)) rfl) (jm (tb 50 (by decide +kernel)) rfl) (jm (tb 1298 (by decide +kernel)) rfl) rfl (jm (tb 1299 (by decide +kernel)) rfl) (by decide +kernel) rfl (by decide) (by decide) (Nat.le_of_ble_eq_true rfl) dj_prog_22_method_10_code_28 fun u28 => ?_
  exact j_aret C (Or.inl ⟨_, rfl⟩) hr hlk (q22, q12) rfl rfl (by decide) (by decide) dj_prog_22_method_10_code_31
set_option maxRecDepth 100000 in
theorem jc_ts2 {l : Launch} {D : va_G} {cB : ClassId} {zz : Nat} {b da n N v : Nat} {f : Nat → Int32} (hv : v < 100) (hv2 : 10 ≤ v) : JM l D cB zz ⟨"java/lang/Integer", "toString", "(I)Ljava/lang/String;"⟩ prog_22_method_10_code 3 (some (.object "java/lang/String")) 2 2 6 [.int (nI v)] [jSB b da n, jBY cB da N f] (fun u => some (.ref u.1)) (fun u => [jSB b da n, jBY cB da N f, jBY cB u.2 2 (upd (upd (fun _ => 0) 1 (nI (48 + v % 10))) 0 (nI (48 + v / 10))), jST u.1 u.2]) := by
  refine j_of (own := "java/lang/Integer") (by decide +kernel) rfl (Nat.le_of_ble_eq_true rfl) fun p e s m below meth c R C hr hlk hnm => ?_
  refine j_iln C 0 dj_prog_22_method_10_code_0 rfl rfl ?_
  refine j_callS C (n := 1) (rest := []) (jc_ss2 hv hv2) (jm (tb 1287 (by decide +kernel)) rfl) (jm (tb 58 (by decide +kernel)) rfl) (jm (tb 1285 (by decide +kernel)) rfl) (jm (tb 1286 (by decide +kernel)) rfl) (by decide +kernel) rfl (by decide) (by decide) (Nat.le_of_ble_eq_true rfl) dj_prog_22_method_10_code_1 fun u1 => ?_
  refine j_isn C dj_prog_22_method_10_code_4 rfl (by decide) rfl ?_
  refine j_cs C (jm (tb 1288 (by decide +kernel)) rfl) dj_prog_22_method_10_code_5 ?_
  refine j_eq C 32 dj_prog_22_method_10_code_8 (by decide) (fun h_ => absurd h_ (by decide)) (fun _ => ?_)
  refine j_iln C 0 dj_prog_22_method_10_code_11 rfl rfl ?_
  refine j_newa C (N := 2) rfl (by decide) (by decide) (by decide) dj_prog_22_method_10_code_12 fun q12 => ?_
  refine j_asn C dj_prog_22_method_10_code_14 rfl (by decide) rfl ?_
  refine j_iln C 2 dj_prog_22_method_10_code_15 rfl rfl ?_
  refine j_iln C 1 dj_prog_22_method_10_code_16 rfl rfl ?_
  refine j_aln C 0 dj_prog_22_method_10_code_17 rfl rfl ?_
  refine j_callS C (n := 3) (rest := []) (jc_gc2 hv hv2) (jm (tb 1291 (by decide +kernel)) rfl) (jm (tb 58 (by decide +kernel)) rfl) (jm (tb 1289 (by decide +kernel)) rfl) (jm (tb 1290 (by decide +kernel)) rfl) (by decide +kernel) rfl (by decide) (by decide) (Nat.le_of_ble_eq_true rfl) dj_prog_22_method_10_code_18 fun u18 => ?_
  refine j_pop C dj_prog_22_method_10_code_21 rfl ?_
  refine j_newS C (jm (tb 1296 (by decide +kernel)) rfl) (by decide) (by decide) dj_prog_22_method_10_code_22 fun q22 => ?_
  refine j_dup C dj_prog_22_method_10_code_25 rfl ?_
  refine j_aln C 0 dj_prog_22_method_10_code_26 rfl rfl ?_
  refine j_ic C (v := 0) dj_prog_22_method_10_code_27 (by decide) ?_
  refine j_callI C (n := 2) (rest := [_]) (jc_stI ) (jm (tb 1300 (by decide +kernel)) rfl) (jm (tb 50 (by decide +kernel)) rfl) (jm (tb 1298 (by decide +kernel)) rfl) rfl (jm (tb 1299 (by decide +kernel)) rfl) (by decide +kernel) rfl (by decide) (by decide) (Nat.le_of_ble_eq_true rfl) dj_prog_22_method_10_code_28 fun u28 => ?_
  exact j_aret C (Or.inl ⟨_, rfl⟩) hr hlk (q22, q12) rfl rfl (by decide) (by decide) dj_prog_22_method_10_code_31
set_option maxRecDepth 100000 in
theorem jc_gv {l : Launch} {D : va_G} {cB : ClassId} {zz : Nat} {ws : va_W} {b da n : Nat} (q0 : Nat) (he : ws[q0]? = some (jSB b da n)) : JM l D cB zz ⟨"java/lang/AbstractStringBuilder", "getValue", "()[B"⟩ prog_16_method_64_code 1 (some (.array .byte)) 0 0 0 [.ref b] ws (fun _ => some (.ref da)) (fun _ => ws) := by
  refine j_of (own := "java/lang/AbstractStringBuilder") (by decide +kernel) rfl (Nat.le_of_ble_eq_true rfl) fun p e s m below meth c R C hr hlk hnm => ?_
  refine j_aln C 0 dj_prog_16_method_64_code_0 rfl rfl ?_
  refine j_getB C q0 0 he (by decide) (jm (tb 1195 (by decide +kernel)) rfl) rfl dj_prog_16_method_64_code_1 ?_
  exact j_aret C (Or.inr ⟨_, rfl⟩) hr hlk (0, 0) rfl rfl (by decide) (by decide) dj_prog_16_method_64_code_4
set_option maxRecDepth 100000 in
theorem jc_al {l : Launch} {D : va_G} {cB : ClassId} {zz : Nat} {ws : va_W} {b da n : Nat} (q0 : Nat) (he : ws[q0]? = some (jSB b da n)) : JM l D cB zz ⟨"java/lang/AbstractStringBuilder", "length", "()I"⟩ prog_16_method_6_code 1 (some (.int)) 0 0 0 [.ref b] ws (fun _ => some (.int (nI n))) (fun _ => ws) := by
  refine j_of (own := "java/lang/AbstractStringBuilder") (by decide +kernel) rfl (Nat.le_of_ble_eq_true rfl) fun p e s m below meth c R C hr hlk hnm => ?_
  refine j_aln C 0 dj_prog_16_method_6_code_0 rfl rfl ?_
  refine j_getB C q0 3 he (by decide) (jm (tb 1198 (by decide +kernel)) rfl) rfl dj_prog_16_method_6_code_1 ?_
  exact j_iret C hr hlk (0, 0) rfl rfl (by decide) (by decide) dj_prog_16_method_6_code_4
set_option maxRecDepth 100000 in
theorem jc_sl {l : Launch} {D : va_G} {cB : ClassId} {zz : Nat} {ws : va_W} {b da n : Nat} (q0 : Nat) (he : ws[q0]? = some (jSB b da n)) : JM l D cB zz ⟨"java/lang/StringBuilder", "length", "()I"⟩ prog_27_method_93_code 1 (some (.int)) 1 0 0 [.ref b] ws (fun _ => some (.int (nI n))) (fun _ => ws) := by
  refine j_of (own := "java/lang/StringBuilder") (by decide +kernel) rfl (Nat.le_of_ble_eq_true rfl) fun p e s m below meth c R C hr hlk hnm => ?_
  refine j_aln C 0 dj_prog_27_method_93_code_0 rfl rfl ?_
  refine j_callSU C (n := 0) (rest := []) q0 he (jc_al q0 he) (jm (tb 1380 (by decide +kernel)) rfl) (jm (tb 48 (by decide +kernel)) rfl) (jm (tb 1379 (by decide +kernel)) rfl) (jm (tb 1375 (by decide +kernel)) rfl) (jm (tb 1207 (by decide +kernel)) rfl) (jm (tb 1374 (by decide +kernel)) rfl) (by decide +kernel) rfl (by decide) (by decide) (Nat.le_of_ble_eq_true rfl) dj_prog_27_method_93_code_1 fun u1 => ?_
  exact j_iret C hr hlk (0, 0) rfl rfl (by decide) (by decide) dj_prog_27_method_93_code_4
set_option maxRecDepth 100000 in
theorem jc_cl {l : Launch} {D : va_G} {cB : ClassId} {zz : Nat} {ws : va_W} {n : Nat} (hn : n < 65536) : JM l D cB zz ⟨"java/util/Arrays", "checkLength", "(II)V"⟩ prog_34_method_131_code 2 none 0 0 0 [.int 0, .int (nI n)] ws (fun _ => none) (fun _ => ws) := by
  refine j_of (own := "java/util/Arrays") (by decide +kernel) rfl (Nat.le_of_ble_eq_true rfl) fun p e s m below meth c R C hr hlk hnm => ?_
  refine j_iln C 1 dj_prog_34_method_131_code_0 rfl rfl ?_
  refine j_iln C 0 dj_prog_34_method_131_code_1 rfl rfl ?_
  refine j_ge2 C 37 dj_prog_34_method_131_code_2 (by decide) (fun _ => ?_) (fun h_ => absurd h_ (not_not_intro (nI_pos' (by omega))))
  exact j_vret C hr hlk (0, 0) rfl rfl (by decide) (by decide) dj_prog_34_method_131_code_37
set_option maxRecDepth 100000 in
theorem jc_crb {l : Launch} {D : va_G} {cB : ClassId} {zz : Nat} {b da n N : Nat} {f : Nat → Int32} {x : Nat × va_E} (hn : n < N) (hN : N ≤ 16) (hf : ∀ i, i < n → fits .byte (.int (f i)) = true) : JM l D cB zz ⟨"java/util/Arrays", "copyOfRangeByte", "([BII)[B"⟩ prog_34_method_133_code 5 (some (.array .byte)) 2 1 16 [.ref da, .int 0, .int (nI n)] [jSB b da n, jBY cB da N f, x] (fun u => some (.ref u.1)) (fun u => [jSB b da n, jBY cB da N f, x, jBY cB u.1 n (va_cpy f (fun _ => 0) 0 0 n)]) := by
  refine j_of (own := "java/util/Arrays") (by decide +kernel) rfl (Nat.le_of_ble_eq_true rfl) fun p e s m below meth c R C hr hlk hnm => ?_
  refine j_iln C 1 dj_prog_34_method_133_code_0 rfl rfl ?_
  refine j_iln C 2 dj_prog_34_method_133_code_1 rfl rfl ?_
  refine j_callS C (n := 2) (rest := []) (jc_cl (show n < 65536 by omega)) (jm (tb 1390 (by decide +kernel)) rfl) (jm (tb 53 (by decide +kernel)) rfl) (jm (tb 1388 (by decide +kernel)) rfl) (jm (tb 1389 (by decide +kernel)) rfl) (by decide +kernel) rfl (by decide) (by decide) (Nat.le_of_ble_eq_true rfl) dj_prog_34_method_133_code_2 fun u2 => ?_
  refine j_iln C 2 dj_prog_34_method_133_code_5 rfl rfl ?_
  refine j_iln C 1 dj_prog_34_method_133_code_6 rfl rfl ?_
  refine j_isub C dj_prog_34_method_133_code_7 (Int32.sub_zero (nI n)) ?_
  refine j_isn C dj_prog_34_method_133_code_8 rfl (by decide) rfl ?_
  refine j_iln C 0 dj_prog_34_method_133_code_9 rfl rfl ?_
  refine j_newa C (N := n) rfl (by omega) (by decide) (by omega) dj_prog_34_method_133_code_10 fun q10 => ?_
  refine j_as C dj_prog_34_method_133_code_12 (by decide) rfl ?_
  refine j_aln C 2 dj_prog_34_method_133_code_14 rfl rfl ?_
  refine j_iln C 3 dj_prog_34_method_133_code_15 rfl rfl ?_
  refine j_al C 0 dj_prog_34_method_133_code_16 rfl ?_
  refine j_ic C (v := 0) dj_prog_34_method_133_code_18 (by decide) ?_
  refine j_aln C 2 dj_prog_34_method_133_code_19 rfl rfl ?_
  refine j_alen C 1 rfl dj_prog_34_method_133_code_20 ?_
  refine j_iln C 3 dj_prog_34_method_133_code_21 rfl rfl ?_
  refine j_isub C dj_prog_34_method_133_code_22 (Int32.sub_zero (nI N)) ?_
  refine j_iln C 1 dj_prog_34_method_133_code_23 rfl rfl ?_
  refine j_min C (jm (tb 1243 (by decide +kernel)) rfl) (by decide) (Nat.le_of_ble_eq_true rfl) (by decide) (by omega) dj_prog_34_method_133_code_24 (if_pos (nI_lt hn (by omega))) ?_
  refine j_copy C 1 3 (jm (tb 1246 (by decide +kernel)) rfl) rfl rfl (by decide) (by decide) (nI_pos (by omega)) (by rw [nI_clamp (by omega)]; show 0 + n ≤ N; omega) (by rw [nI_clamp (by omega)]; show 0 + n ≤ n; omega) (fun i hi => by rw [nI_clamp (by omega)] at hi; rw [show (0 : Int32).toNatClampNeg + i = i from Nat.zero_add i]; exact hf i hi) (by decide) (Nat.le_of_ble_eq_true rfl) dj_prog_34_method_133_code_27 rfl ?_
  refine j_al C 0 dj_prog_34_method_133_code_30 rfl ?_
  exact j_aret C (Or.inr ⟨_, rfl⟩) hr hlk (q10, 0) rfl (by rw [nI_clamp (show n < 2 ^ 31 by omega)]; rfl) (by decide) (by omega) dj_prog_34_method_133_code_32
set_option maxRecDepth 100000 in
theorem jc_cr {l : Launch} {D : va_G} {cB : ClassId} {zz : Nat} {b da n N : Nat} {f : Nat → Int32} {x : Nat × va_E} (hn : n < N) (hN : N ≤ 16) (hf : ∀ i, i < n → fits .byte (.int (f i)) = true) : JM l D cB zz ⟨"java/util/Arrays", "copyOfRange", "([BII)[B"⟩ prog_34_method_132_code 3 (some (.array .byte)) 3 1 16 [.ref da, .int 0, .int (nI n)] [jSB b da n, jBY cB da N f, x] (fun u => some (.ref u.1)) (fun u => [jSB b da n, jBY cB da N f, x, jBY cB u.1 n (va_cpy f (fun _ => 0) 0 0 n)]) := by
  refine j_of (own := "java/util/Arrays") (by decide +kernel) rfl (Nat.le_of_ble_eq_true rfl) fun p e s m below meth c R C hr hlk hnm => ?_
  refine j_iln C 1 dj_prog_34_method_132_code_0 rfl rfl ?_
  refine j_ne C 10 dj_prog_34_method_132_code_1 (by decide) (fun h_ => absurd h_ (not_not_intro rfl)) (fun _ => ?_)
  refine j_iln C 2 dj_prog_34_method_132_code_4 rfl rfl ?_
  refine j_aln C 0 dj_prog_34_method_132_code_5 rfl rfl ?_
  refine j_alen C 1 rfl dj_prog_34_method_132_code_6 ?_
  refine j_eq2 C 17 dj_prog_34_method_132_code_7 (by decide) (fun h_ => absurd h_ (fun e_ => by have := (nI_eq (show n < 2 ^ 31 by omega) (show N < 2 ^ 31 by omega)).mp e_; omega)) (fun _ => ?_)
  refine j_aln C 0 dj_prog_34_method_132_code_10 rfl rfl ?_
  refine j_iln C 1 dj_prog_34_method_132_code_11 rfl rfl ?_
  refine j_iln C 2 dj_prog_34_method_132_code_12 rfl rfl ?_
  refine j_callS C (n := 3) (rest := []) (jc_crb hn hN hf) (jm (tb 1387 (by decide +kernel)) rfl) (jm (tb 53 (by decide +kernel)) rfl) (jm (tb 1385 (by decide +kernel)) rfl) (jm (tb 1386 (by decide +kernel)) rfl) (by decide +kernel) rfl (by decide) (by decide) (Nat.le_of_ble_eq_true rfl) dj_prog_34_method_132_code_13 fun u13 => ?_
  exact j_aret C (Or.inr ⟨_, rfl⟩) hr hlk u13 rfl rfl (by decide) (by decide) dj_prog_34_method_132_code_16
set_option maxRecDepth 100000 in
theorem jc_siA {l : Launch} {D : va_G} {cB : ClassId} {zz : Nat} {b da n N a : Nat} {f : Nat → Int32} (hn : n < N) (hN : N ≤ 16) (hf : ∀ i, i < n → fits .byte (.int (f i)) = true) : JM l D cB zz ⟨"java/lang/String", "<init>", "(Ljava/lang/AbstractStringBuilder;Ljava/lang/Void;)V"⟩ prog_26_method_150_code 5 none 4 1 16 [.ref a, .ref b, .null] [jSB b da n, jBY cB da N f, jSR a] (fun _ => none) (fun u => [jSB b da n, jBY cB da N f, jST a u.1, jBY cB u.1 n (va_cpy f (fun _ => 0) 0 0 n)]) := by
  refine j_of (own := "java/lang/String") (by decide +kernel) rfl (Nat.le_of_ble_eq_true rfl) fun p e s m below meth c R C hr hlk hnm => ?_
  refine j_aln C 0 dj_prog_26_method_150_code_0 rfl rfl ?_
  refine j_objI C (jm (tb 1301 (by decide +kernel)) rfl) (by decide) (Nat.le_of_ble_eq_true rfl) dj_prog_26_method_150_code_1 ?_
  refine j_aln C 1 dj_prog_26_method_150_code_4 rfl rfl ?_
  refine j_callU C (n := 0) (rest := []) 0 rfl (jc_gv 0 rfl) (jm (tb 1372 (by decide +kernel)) rfl) (jm (tb 48 (by decide +kernel)) rfl) ⟨"java/lang/AbstractStringBuilder", "getValue", "()[B"⟩ rfl (jm (tb 1368 (by decide +kernel)) rfl) (jm (tb 1370 (by decide +kernel)) rfl) (jm (tb 1371 (by decide +kernel)) rfl) (jm (tb 1369 (by decide +kernel)) rfl) (by decide +kernel) rfl (by decide) (by decide) (Nat.le_of_ble_eq_true rfl) dj_prog_26_method_150_code_5 fun u5 => ?_
  refine j_asn C dj_prog_26_method_150_code_8 rfl (by decide) rfl ?_
  refine j_aln C 2 dj_prog_26_method_150_code_9 rfl rfl ?_
  refine j_callO C (b0 := prog_16_method_6_code) (m0 := 1) (r0 := (some (.int))) (n := 0) (rest := []) 0 rfl (jc_sl 0 rfl) (jm (tb 1378 (by decide +kernel)) rfl) (jm (tb 49 (by decide +kernel)) rfl) ⟨"java/lang/AbstractStringBuilder", "length", "()I"⟩ (jm (tb 1380 (by decide +kernel)) rfl) (jm (tb 1374 (by decide +kernel)) rfl) (jm (tb 1373 (by decide +kernel)) rfl) (jm (tb 1375 (by decide +kernel)) rfl) (jm (tb 1376 (by decide +kernel)) rfl) (jm (tb 1377 (by decide +kernel)) rfl) (by decide +kernel) rfl (by decide) (by decide) (Nat.le_of_ble_eq_true rfl) dj_prog_26_method_150_code_10 fun u10 => ?_
  refine j_is C dj_prog_26_method_150_code_13 (by decide) rfl ?_
  refine j_aln C 3 dj_prog_26_method_150_code_15 rfl rfl ?_
  refine j_callU C (n := 0) (rest := []) 0 rfl (jc_sbL 0 rfl) (jm (tb 1253 (by decide +kernel)) rfl) (jm (tb 48 (by decide +kernel)) rfl) ⟨"java/lang/AbstractStringBuilder", "isLatin1", "()Z"⟩ rfl (jm (tb 1381 (by decide +kernel)) rfl) (jm (tb 1251 (by decide +kernel)) rfl) (jm (tb 1252 (by decide +kernel)) rfl) (jm (tb 1250 (by decide +kernel)) rfl) (by decide +kernel) rfl (by decide) (by decide) (Nat.le_of_ble_eq_true rfl) dj_prog_26_method_150_code_16 fun u16 => ?_
  refine j_eq C 41 dj_prog_26_method_150_code_19 (by decide) (fun h_ => absurd h_ (by decide)) (fun _ => ?_)
  refine j_aln C 2 dj_prog_26_method_150_code_22 rfl rfl ?_
  refine j_ic C (v := 0) dj_prog_26_method_150_code_23 (by decide) ?_
  refine j_putS C hnm rfl 2 1 rfl (by decide) (jm (tb 1303 (by decide +kernel)) rfl) rfl rfl (Nat.le_of_ble_eq_true rfl) dj_prog_26_method_150_code_24 rfl ?_
  refine j_aln C 2 dj_prog_26_method_150_code_27 rfl rfl ?_
  refine j_aln C 1 dj_prog_26_method_150_code_28 rfl rfl ?_
  refine j_ic C (v := 0) dj_prog_26_method_150_code_29 (by decide) ?_
  refine j_il C 0 dj_prog_26_method_150_code_30 rfl ?_
  refine j_callS C (n := 3) (rest := [_]) (jc_cr hn hN hf) (jm (tb 1384 (by decide +kernel)) rfl) (jm (tb 53 (by decide +kernel)) rfl) (jm (tb 1382 (by decide +kernel)) rfl) (jm (tb 1383 (by decide +kernel)) rfl) (by decide +kernel) rfl (by decide) (by decide) (Nat.le_of_ble_eq_true rfl) dj_prog_26_method_150_code_32 fun u32 => ?_
  refine j_putS C hnm rfl 2 0 rfl (by decide) (jm (tb 1302 (by decide +kernel)) rfl) rfl rfl (Nat.le_of_ble_eq_true rfl) dj_prog_26_method_150_code_35 rfl ?_
  refine j_goto C 97 dj_prog_26_method_150_code_38 (by decide) ?_
  exact j_vret C hr hlk u32 rfl rfl (by decide) (by decide) dj_prog_26_method_150_code_97
set_option maxRecDepth 100000 in
theorem jc_siB {l : Launch} {D : va_G} {cB : ClassId} {zz : Nat} {b da n N a : Nat} {f : Nat → Int32} (hn : n < N) (hN : N ≤ 16) (hf : ∀ i, i < n → fits .byte (.int (f i)) = true) : JM l D cB zz ⟨"java/lang/String", "<init>", "(Ljava/lang/StringBuilder;)V"⟩ prog_26_method_53_code 2 none 5 1 16 [.ref a, .ref b] [jSB b da n, jBY cB da N f, jSR a] (fun _ => none) (fun u => [jSB b da n, jBY cB da N f, jST a u.1, jBY cB u.1 n (va_cpy f (fun _ => 0) 0 0 n)]) := by
  refine j_of (own := "java/lang/String") (by decide +kernel) rfl (Nat.le_of_ble_eq_true rfl) fun p e s m below meth c R C hr hlk hnm => ?_
  refine j_aln C 0 dj_prog_26_method_53_code_0 rfl rfl ?_
  refine j_aln C 1 dj_prog_26_method_53_code_1 rfl rfl ?_
  refine j_null C dj_prog_26_method_53_code_2 ?_
  refine j_callI C (n := 2) (rest := []) (jc_siA hn hN hf) (jm (tb 1367 (by decide +kernel)) rfl) (jm (tb 50 (by decide +kernel)) rfl) (jm (tb 1365 (by decide +kernel)) rfl) rfl (jm (tb 1366 (by decide +kernel)) rfl) (by decide +kernel) rfl (by decide) (by decide) (Nat.le_of_ble_eq_true rfl) dj_prog_26_method_53_code_3 fun u3 => ?_
  exact j_vret C hr hlk u3 rfl rfl (by decide) (by decide) dj_prog_26_method_53_code_6
set_option maxRecDepth 100000 in
theorem jc_tos {l : Launch} {D : va_G} {cB : ClassId} {zz : Nat} {b da n N : Nat} {f : Nat → Int32} (hn : n < N) (hN : N ≤ 16) (hf : ∀ i, i < n → fits .byte (.int (f i)) = true) : JM l D cB zz ⟨"java/lang/StringBuilder", "toString", "()Ljava/lang/String;"⟩ prog_27_method_42_code 1 (some (.object "java/lang/String")) 6 2 20 [.ref b] [jSB b da n, jBY cB da N f] (fun u => some (.ref u.1)) (fun u => [jSB b da n, jBY cB da N f, jST u.1 u.2, jBY cB u.2 n (va_cpy f (fun _ => 0) 0 0 n)]) := by
  refine j_of (own := "java/lang/StringBuilder") (by decide +kernel) rfl (Nat.le_of_ble_eq_true rfl) fun p e s m below meth c R C hr hlk hnm => ?_
  refine j_newS C (jm (tb 1361 (by decide +kernel)) rfl) (by decide) (by decide) dj_prog_27_method_42_code_0 fun q0 => ?_
  refine j_dup C dj_prog_27_method_42_code_3 rfl ?_
  refine j_aln C 0 dj_prog_27_method_42_code_4 rfl rfl ?_
  refine j_callI C (n := 1) (rest := [_]) (jc_siB hn hN hf) (jm (tb 1364 (by decide +kernel)) rfl) (jm (tb 50 (by decide +kernel)) rfl) (jm (tb 1362 (by decide +kernel)) rfl) rfl (jm (tb 1363 (by decide +kernel)) rfl) (by decide +kernel) rfl (by decide) (by decide) (Nat.le_of_ble_eq_true rfl) dj_prog_27_method_42_code_5 fun u5 => ?_
  exact j_aret C (Or.inl ⟨_, rfl⟩) hr hlk (q0, u5.1) rfl rfl (by decide) (by decide) dj_prog_27_method_42_code_8
set_option maxRecDepth 100000 in
theorem jc_abI {l : Launch} {D : va_G} {cB : ClassId} {zz : Nat} {b : Nat} : JM l D cB zz ⟨"java/lang/AbstractStringBuilder", "<init>", "(I)V"⟩ prog_16_method_2_code 2 none 1 1 16 [.ref b, .int 16] [(b, .inr (0, [.null, .int 0, .int 0, .int 0]))] (fun _ => none) (fun u => [jSB b u.1 0, jBY cB u.1 16 (fun _ => 0)]) := by
  refine j_of (own := "java/lang/AbstractStringBuilder") (by decide +kernel) rfl (Nat.le_of_ble_eq_true rfl) fun p e s m below meth c R C hr hlk hnm => ?_
  refine j_aln C 0 dj_prog_16_method_2_code_0 rfl rfl ?_
  refine j_objI C (jm (tb 1186 (by decide +kernel)) rfl) (by decide) (Nat.le_of_ble_eq_true rfl) dj_prog_16_method_2_code_1 ?_
  refine j_cs C (jm (tb 1187 (by decide +kernel)) rfl) dj_prog_16_method_2_code_4 ?_
  refine j_eq C 25 dj_prog_16_method_2_code_7 (by decide) (fun h_ => absurd h_ (by decide)) (fun _ => ?_)
  refine j_aln C 0 dj_prog_16_method_2_code_10 rfl rfl ?_
  refine j_iln C 1 dj_prog_16_method_2_code_11 rfl rfl ?_
  refine j_newa C (N := 16) rfl (by decide) (by decide) (by decide) dj_prog_16_method_2_code_12 fun q12 => ?_
  refine j_putB C 0 0 rfl (by decide) (jm (tb 1195 (by decide +kernel)) rfl) rfl rfl (Nat.le_of_ble_eq_true rfl) dj_prog_16_method_2_code_14 rfl ?_
  refine j_aln C 0 dj_prog_16_method_2_code_17 rfl rfl ?_
  refine j_ic C (v := 0) dj_prog_16_method_2_code_18 (by decide) ?_
  refine j_putB C 0 1 rfl (by decide) (jm (tb 1196 (by decide +kernel)) rfl) rfl rfl (Nat.le_of_ble_eq_true rfl) dj_prog_16_method_2_code_19 rfl ?_
  refine j_goto C 38 dj_prog_16_method_2_code_22 (by decide) ?_
  exact j_vret C hr hlk (q12, 0) rfl rfl (by decide) (by decide) dj_prog_16_method_2_code_38
set_option maxRecDepth 100000 in
theorem jc_sbI {l : Launch} {D : va_G} {cB : ClassId} {zz : Nat} {b : Nat} : JM l D cB zz ⟨"java/lang/StringBuilder", "<init>", "()V"⟩ prog_27_method_1_code 1 none 2 1 16 [.ref b] [(b, .inr (0, [.null, .int 0, .int 0, .int 0]))] (fun _ => none) (fun u => [jSB b u.1 0, jBY cB u.1 16 (fun _ => 0)]) := by
  refine j_of (own := "java/lang/StringBuilder") (by decide +kernel) rfl (Nat.le_of_ble_eq_true rfl) fun p e s m below meth c R C hr hlk hnm => ?_
  refine j_aln C 0 dj_prog_27_method_1_code_0 rfl rfl ?_
  refine j_bi C (v := 16) dj_prog_27_method_1_code_1 (by decide) ?_
  refine j_callI C (n := 1) (rest := []) (jc_abI ) (jm (tb 1185 (by decide +kernel)) rfl) (jm (tb 48 (by decide +kernel)) rfl) (jm (tb 1183 (by decide +kernel)) rfl) rfl (jm (tb 1184 (by decide +kernel)) rfl) (by decide +kernel) rfl (by decide) (by decide) (Nat.le_of_ble_eq_true rfl) dj_prog_27_method_1_code_3 fun u3 => ?_
  exact j_vret C hr hlk u3 rfl rfl (by decide) (by decide) dj_prog_27_method_1_code_6
set_option maxRecDepth 100000 in
theorem jc_ci0 {l : Launch} {D : va_G} {cB : ClassId} {zz : Nat} {ws : va_W} {i n : Nat} (hi : i < n) (hn : n < 65536) : JM l D cB zz ⟨"jdk/internal/util/Preconditions", "checkIndex", "(IILjava/util/function/BiFunction;)I"⟩ prog_37_method_11_code 3 (some (.int)) 0 0 0 [.int (nI i), .int (nI n), .null] ws (fun _ => some (.int (nI i))) (fun _ => ws) := by
  refine j_of (own := "jdk/internal/util/Preconditions") (by decide +kernel) rfl (Nat.le_of_ble_eq_true rfl) fun p e s m below meth c R C hr hlk hnm => ?_
  refine j_iln C 0 dj_prog_37_method_11_code_0 rfl rfl ?_
  refine j_lt C 9 dj_prog_37_method_11_code_1 (by decide) (fun h_ => absurd h_ (nI_pos (by omega))) (fun _ => ?_)
  refine j_iln C 0 dj_prog_37_method_11_code_4 rfl rfl ?_
  refine j_iln C 1 dj_prog_37_method_11_code_5 rfl rfl ?_
  refine j_lt2 C 16 dj_prog_37_method_11_code_6 (by decide) (fun _ => ?_) (fun h_ => absurd h_ (not_not_intro (nI_lt hi (by omega))))
  refine j_iln C 0 dj_prog_37_method_11_code_16 rfl rfl ?_
  exact j_iret C hr hlk (0, 0) rfl rfl (by decide) (by decide) dj_prog_37_method_11_code_17
set_option maxRecDepth 100000 in
theorem jc_ci1 {l : Launch} {D : va_G} {cB : ClassId} {zz : Nat} {ws : va_W} {i n : Nat} {t9 : Nat} (hi : i < n) (hn : n < 65536) : JM l D cB zz ⟨"jdk/internal/util/Preconditions", "checkIndex", "(IILjava/util/function/BiFunction;)I"⟩ prog_37_method_11_code 3 (some (.int)) 0 0 0 [.int (nI i), .int (nI n), .ref t9] ws (fun _ => some (.int (nI i))) (fun _ => ws) := by
  refine j_of (own := "jdk/internal/util/Preconditions") (by decide +kernel) rfl (Nat.le_of_ble_eq_true rfl) fun p e s m below meth c R C hr hlk hnm => ?_
  refine j_iln C 0 dj_prog_37_method_11_code_0 rfl rfl ?_
  refine j_lt C 9 dj_prog_37_method_11_code_1 (by decide) (fun h_ => absurd h_ (nI_pos (by omega))) (fun _ => ?_)
  refine j_iln C 0 dj_prog_37_method_11_code_4 rfl rfl ?_
  refine j_iln C 1 dj_prog_37_method_11_code_5 rfl rfl ?_
  refine j_lt2 C 16 dj_prog_37_method_11_code_6 (by decide) (fun _ => ?_) (fun h_ => absurd h_ (not_not_intro (nI_lt hi (by omega))))
  refine j_iln C 0 dj_prog_37_method_11_code_16 rfl rfl ?_
  exact j_iret C hr hlk (0, 0) rfl rfl (by decide) (by decide) dj_prog_37_method_11_code_17
set_option maxRecDepth 100000 in
theorem jc_cx {l : Launch} {D : va_G} {cB : ClassId} {zz : Nat} {ws : va_W} {i n : Nat} (hi : i < n) (hn : n < 65536) : JM l D cB zz ⟨"java/lang/String", "checkIndex", "(II)V"⟩ prog_26_method_155_code 2 none 1 0 0 [.int (nI i), .int (nI n)] ws (fun _ => none) (fun _ => ws) := by
  refine j_of (own := "java/lang/String") (by decide +kernel) rfl (Nat.le_of_ble_eq_true rfl) fun p e s m below meth c R C hr hlk hnm => ?_
  refine j_iln C 0 dj_prog_26_method_155_code_0 rfl rfl ?_
  refine j_iln C 1 dj_prog_26_method_155_code_1 rfl rfl ?_
  refine j_si2 C (jm (tb 1135 (by decide +kernel)) rfl) dj_prog_26_method_155_code_2 fun v9 hv9 => ?_
  rcases hv9 with rfl | ⟨t9, rfl⟩
  · refine j_callS C (n := 3) (rest := []) (jc_ci0 hi hn) (jm (tb 1139 (by decide +kernel)) rfl) (jm (tb 56 (by decide +kernel)) rfl) (jm (tb 1137 (by decide +kernel)) rfl) (jm (tb 1138 (by decide +kernel)) rfl) (by decide +kernel) rfl (by decide) (by decide) (Nat.le_of_ble_eq_true rfl) dj_prog_26_method_155_code_5 fun u5 => ?_
    refine j_pop C dj_prog_26_method_155_code_8 rfl ?_
    exact j_vret C hr hlk (0, 0) rfl rfl (by decide) (by decide) dj_prog_26_method_155_code_9
  · refine j_callS C (n := 3) (rest := []) (jc_ci1 hi hn) (jm (tb 1139 (by decide +kernel)) rfl) (jm (tb 56 (by decide +kernel)) rfl) (jm (tb 1137 (by decide +kernel)) rfl) (jm (tb 1138 (by decide +kernel)) rfl) (by decide +kernel) rfl (by decide) (by decide) (Nat.le_of_ble_eq_true rfl) dj_prog_26_method_155_code_5 fun u5 => ?_
    refine j_pop C dj_prog_26_method_155_code_8 rfl ?_
    exact j_vret C hr hlk (0, 0) rfl rfl (by decide) (by decide) dj_prog_26_method_155_code_9
set_option maxRecDepth 100000 in
theorem jc_lc {l : Launch} {D : va_G} {cB : ClassId} {zz : Nat} {ws : va_W} {aa w i ch : Nat} {g : Nat → Int32} (q0 : Nat) (he : ws[q0]? = some (jBY cB aa w g)) (hi : i < w) (hw : w < 65536) (hc : ch < 128) (hgi : g i = nI ch) : JM l D cB zz ⟨"java/lang/StringLatin1", "charAt", "([BI)C"⟩ prog_28_method_2_code 2 (some (.char)) 2 0 0 [.ref aa, .int (nI i)] ws (fun _ => some (.int (nI ch))) (fun _ => ws) := by
  refine j_of (own := "java/lang/StringLatin1") (by decide +kernel) rfl (Nat.le_of_ble_eq_true rfl) fun p e s m below meth c R C hr hlk hnm => ?_
  refine j_iln C 1 dj_prog_28_method_2_code_0 rfl rfl ?_
  refine j_aln C 0 dj_prog_28_method_2_code_1 rfl rfl ?_
  refine j_alen C q0 he dj_prog_28_method_2_code_2 ?_
  refine j_callS C (n := 2) (rest := []) (jc_cx hi hw) (jm (tb 1134 (by decide +kernel)) rfl) (jm (tb 50 (by decide +kernel)) rfl) (jm (tb 1132 (by decide +kernel)) rfl) (jm (tb 1133 (by decide +kernel)) rfl) (by decide +kernel) rfl (by decide) (by decide) (Nat.le_of_ble_eq_true rfl) dj_prog_28_method_2_code_3 fun u3 => ?_
  refine j_aln C 0 dj_prog_28_method_2_code_6 rfl rfl ?_
  refine j_iln C 1 dj_prog_28_method_2_code_7 rfl rfl ?_
  refine j_bald C q0 he (vp_in_nI hi (by omega)) dj_prog_28_method_2_code_8 (show g (nI i).toNatClampNeg = nI ch by rw [nI_clamp (by omega)]; exact hgi) ?_
  refine j_si C (v := 255) dj_prog_28_method_2_code_9 (by decide) ?_
  refine j_iand C dj_prog_28_method_2_code_12 (j_c255 ch hc).1 ?_
  refine j_i2c C dj_prog_28_method_2_code_13 (j_c255 ch hc).2.1 ?_
  exact j_zret C (j_c255 ch hc).2.2.2 hr hlk (0, 0) rfl rfl (by decide) (by decide) dj_prog_28_method_2_code_14
set_option maxRecDepth 100000 in
theorem jc_ca {l : Launch} {D : va_G} {cB : ClassId} {zz : Nat} {ws : va_W} {a aa w i ch : Nat} {g : Nat → Int32} (q0 : Nat) (he : ws[q0]? = some (jST a aa)) (q1 : Nat) (he1 : ws[q1]? = some (jBY cB aa w g)) (hi : i < w) (hw : w < 65536) (hc : ch < 128) (hgi : g i = nI ch) : JM l D cB zz ⟨"java/lang/String", "charAt", "(I)C"⟩ prog_26_method_56_code 2 (some (.char)) 3 0 0 [.ref a, .int (nI i)] ws (fun _ => some (.int (nI ch))) (fun _ => ws) := by
  refine j_of (own := "java/lang/String") (by decide +kernel) rfl (Nat.le_of_ble_eq_true rfl) fun p e s m below meth c R C hr hlk hnm => ?_
  refine j_aln C 0 dj_prog_26_method_56_code_0 rfl rfl ?_
  refine j_callV C (n := 0) (rest := []) q0 he (ci := 1) rfl rfl (jc_stL q0 he) (jm (tb 1128 (by decide +kernel)) rfl) (jm (tb 50 (by decide +kernel)) rfl) (jm (tb 1125 (by decide +kernel)) rfl) (jm (tb 1126 (by decide +kernel)) rfl) (jm (tb 1127 (by decide +kernel)) rfl) (by decide +kernel) rfl (by decide) (by decide) (Nat.le_of_ble_eq_true rfl) dj_prog_26_method_56_code_1 fun u1 => ?_
  refine j_eq C 16 dj_prog_26_method_56_code_4 (by decide) (fun h_ => absurd h_ (by decide)) (fun _ => ?_)
  refine j_aln C 0 dj_prog_26_method_56_code_7 rfl rfl ?_
  refine j_getS C q0 0 he (by decide) (jm (tb 1302 (by decide +kernel)) rfl) rfl dj_prog_26_method_56_code_8 ?_
  refine j_iln C 1 dj_prog_26_method_56_code_11 rfl rfl ?_
  refine j_callS C (n := 2) (rest := []) (jc_lc q1 he1 hi hw hc hgi) (jm (tb 1131 (by decide +kernel)) rfl) (jm (tb 55 (by decide +kernel)) rfl) (jm (tb 1129 (by decide +kernel)) rfl) (jm (tb 1130 (by decide +kernel)) rfl) (by decide +kernel) rfl (by decide) (by decide) (Nat.le_of_ble_eq_true rfl) dj_prog_26_method_56_code_12 fun u12 => ?_
  exact j_zret C (j_c255 ch hc).2.2.2 hr hlk (0, 0) rfl rfl (by decide) (by decide) dj_prog_26_method_56_code_15
