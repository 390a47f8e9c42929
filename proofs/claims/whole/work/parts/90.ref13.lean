/-! the reference's calls on the text */ -/
theorem and255N (w : Int32) : (w &&& i32 255).toInt = ((w.toBitVec.toNat % 256 : Nat) : Int) := by
  have h : (w &&& i32 255).toBitVec = w.toBitVec &&& 255#32 := rfl
  have h2 : (w.toBitVec &&& 255#32).toNat = w.toBitVec.toNat % 256 := by
    rw [BitVec.toNat_and]
    exact Nat.and_two_pow_sub_one_eq_mod _ 8
  show (w &&& i32 255).toBitVec.toInt = _
  rw [h, BitVec.toInt_eq_toNat_of_lt (by omega), h2]
theorem by8 {x : Int32} {c : Int} (h : x.toInt % 256 = c) : x.toInt8.toInt = sby c := by
  rw [Int32.toInt_toInt8, show (2 ^ 8 : Nat) = 256 from rfl, Int.bmod_def]
  unfold sby
  split <;> split <;> omega
theorem i8_i8 (x : Int8) : (i32 x.toInt).toInt8.toInt = x.toInt := by
  have h1 := Int8.le_toInt x
  have h2 := Int8.toInt_lt x
  rw [Int32.toInt_toInt8, i32_in (by omega) (by omega), show (2 ^ 8 : Nat) = 256 from rfl, Int.bmod_def]
  split <;> omega
theorem byt_24 {v : Int} : byt v 24 = (v % 4294967296).toNat / 16777216 % 256 := by
  have hn : ((i32 v).toUInt32 >>> ((i32 24).toUInt32 &&& Int32.toUInt32 31)).toNat = (v % 4294967296).toNat / 16777216 := by
    have e1_ : ((i32 24).toUInt32 &&& Int32.toUInt32 31).toNat % 32 = 24 := by decide
    have e2_ : (i32 v).toUInt32.toNat = (v % 4294967296).toNat := by
      show (BitVec.ofInt 32 v).toNat = _
      rw [BitVec.toNat_ofInt]
      rfl
    rw [UInt32.toNat_shiftRight, e1_, Nat.shiftRight_eq_div_pow, e2_]
  unfold byt
  rw [i32_i, and255N]
  show (((((i32 v).toUInt32 >>> ((i32 24).toUInt32 &&& Int32.toUInt32 31)).toNat % 256 : Nat)) : Int) = _
  rw [hn]
  omega
theorem sgb_24 {v : Int} (h1 : -2147483648 ≤ v) (h2 : v ≤ 2147483647) : (i32 ((i32 ((i32 v >>> (i32 (8 * 3) &&& 31)).toInt)).toInt8.toInt)).toInt8.toInt = sby (byt v 24) := by
  rw [i8_i8, i32_i]
  apply by8
  have e1_ : ((i32 (8 * 3) &&& 31).toBitVec.smod 32).toNat = 24 := by decide
  have e2_ : (i32 v >>> (i32 (8 * 3) &&& 31)).toInt = v / 16777216 := by
    show ((i32 v).toBitVec.sshiftRight' ((i32 (8 * 3) &&& 31).toBitVec.smod 32)).toInt = _
    rw [BitVec.toInt_sshiftRight', e1_, Int.shiftRight_eq_div_pow]
    show (i32 v).toInt / _ = _
    rw [i32_in h1 h2]
    rfl
  rw [e2_, byt_24]
  omega
theorem byt_16 {v : Int} : byt v 16 = (v % 4294967296).toNat / 65536 % 256 := by
  have hn : ((i32 v).toUInt32 >>> ((i32 16).toUInt32 &&& Int32.toUInt32 31)).toNat = (v % 4294967296).toNat / 65536 := by
    have e1_ : ((i32 16).toUInt32 &&& Int32.toUInt32 31).toNat % 32 = 16 := by decide
    have e2_ : (i32 v).toUInt32.toNat = (v % 4294967296).toNat := by
      show (BitVec.ofInt 32 v).toNat = _
      rw [BitVec.toNat_ofInt]
      rfl
    rw [UInt32.toNat_shiftRight, e1_, Nat.shiftRight_eq_div_pow, e2_]
  unfold byt
  rw [i32_i, and255N]
  show (((((i32 v).toUInt32 >>> ((i32 16).toUInt32 &&& Int32.toUInt32 31)).toNat % 256 : Nat)) : Int) = _
  rw [hn]
  omega
theorem sgb_16 {v : Int} (h1 : -2147483648 ≤ v) (h2 : v ≤ 2147483647) : (i32 ((i32 ((i32 v >>> (i32 (8 * 2) &&& 31)).toInt)).toInt8.toInt)).toInt8.toInt = sby (byt v 16) := by
  rw [i8_i8, i32_i]
  apply by8
  have e1_ : ((i32 (8 * 2) &&& 31).toBitVec.smod 32).toNat = 16 := by decide
  have e2_ : (i32 v >>> (i32 (8 * 2) &&& 31)).toInt = v / 65536 := by
    show ((i32 v).toBitVec.sshiftRight' ((i32 (8 * 2) &&& 31).toBitVec.smod 32)).toInt = _
    rw [BitVec.toInt_sshiftRight', e1_, Int.shiftRight_eq_div_pow]
    show (i32 v).toInt / _ = _
    rw [i32_in h1 h2]
    rfl
  rw [e2_, byt_16]
  omega
theorem byt_8 {v : Int} : byt v 8 = (v % 4294967296).toNat / 256 % 256 := by
  have hn : ((i32 v).toUInt32 >>> ((i32 8).toUInt32 &&& Int32.toUInt32 31)).toNat = (v % 4294967296).toNat / 256 := by
    have e1_ : ((i32 8).toUInt32 &&& Int32.toUInt32 31).toNat % 32 = 8 := by decide
    have e2_ : (i32 v).toUInt32.toNat = (v % 4294967296).toNat := by
      show (BitVec.ofInt 32 v).toNat = _
      rw [BitVec.toNat_ofInt]
      rfl
    rw [UInt32.toNat_shiftRight, e1_, Nat.shiftRight_eq_div_pow, e2_]
  unfold byt
  rw [i32_i, and255N]
  show (((((i32 v).toUInt32 >>> ((i32 8).toUInt32 &&& Int32.toUInt32 31)).toNat % 256 : Nat)) : Int) = _
  rw [hn]
  omega
theorem sgb_8 {v : Int} (h1 : -2147483648 ≤ v) (h2 : v ≤ 2147483647) : (i32 ((i32 ((i32 v >>> (i32 (8 * 1) &&& 31)).toInt)).toInt8.toInt)).toInt8.toInt = sby (byt v 8) := by
  rw [i8_i8, i32_i]
  apply by8
  have e1_ : ((i32 (8 * 1) &&& 31).toBitVec.smod 32).toNat = 8 := by decide
  have e2_ : (i32 v >>> (i32 (8 * 1) &&& 31)).toInt = v / 256 := by
    show ((i32 v).toBitVec.sshiftRight' ((i32 (8 * 1) &&& 31).toBitVec.smod 32)).toInt = _
    rw [BitVec.toInt_sshiftRight', e1_, Int.shiftRight_eq_div_pow]
    show (i32 v).toInt / _ = _
    rw [i32_in h1 h2]
    rfl
  rw [e2_, byt_8]
  omega
theorem byt_0 {v : Int} : byt v 0 = (v % 4294967296).toNat / 1 % 256 := by
  have hn : ((i32 v).toUInt32 >>> ((i32 0).toUInt32 &&& Int32.toUInt32 31)).toNat = (v % 4294967296).toNat / 1 := by
    have e1_ : ((i32 0).toUInt32 &&& Int32.toUInt32 31).toNat % 32 = 0 := by decide
    have e2_ : (i32 v).toUInt32.toNat = (v % 4294967296).toNat := by
      show (BitVec.ofInt 32 v).toNat = _
      rw [BitVec.toNat_ofInt]
      rfl
    rw [UInt32.toNat_shiftRight, e1_, Nat.shiftRight_eq_div_pow, e2_]
  unfold byt
  rw [i32_i, and255N]
  show (((((i32 v).toUInt32 >>> ((i32 0).toUInt32 &&& Int32.toUInt32 31)).toNat % 256 : Nat)) : Int) = _
  rw [hn]
  omega
theorem sgb_0 {v : Int} (h1 : -2147483648 ≤ v) (h2 : v ≤ 2147483647) : (i32 ((i32 ((i32 v >>> (i32 (8 * 0) &&& 31)).toInt)).toInt8.toInt)).toInt8.toInt = sby (byt v 0) := by
  rw [i8_i8, i32_i]
  apply by8
  have e1_ : ((i32 (8 * 0) &&& 31).toBitVec.smod 32).toNat = 0 := by decide
  have e2_ : (i32 v >>> (i32 (8 * 0) &&& 31)).toInt = v / 1 := by
    show ((i32 v).toBitVec.sshiftRight' ((i32 (8 * 0) &&& 31).toBitVec.smod 32)).toInt = _
    rw [BitVec.toInt_sshiftRight', e1_, Int.shiftRight_eq_div_pow]
    show (i32 v).toInt / _ = _
    rw [i32_in h1 h2]
    rfl
  rw [e2_, byt_0]
  omega
theorem TMs.app {M N : Mem} {n : Int} {tx : Int → Int} (T : TMs M n tx) (hn : n + 4 ≤ 40) (v : Int) (h3 : N 161 11 = n + 1 + 1 + 1 + 1) (h1 : N 168 = upr (upr (upr (upr (M 168) n (sby (byt v 24))) (n + 1) (sby (byt v 16))) (n + 1 + 1) (sby (byt v 8))) (n + 1 + 1 + 1) (sby (byt v 0))) : TMs N (n + 4) (txA tx n v) := by
  have b1 := byt_I v 24
  have b2 := byt_I v 16
  have b3 := byt_I v 8
  have b4 := byt_I v 0
  have tn := T.1.2
  refine ⟨⟨by rw [h3]; omega, by omega, by omega⟩, fun i h4 h5 => ?_, fun i h4 => ?_⟩
  · rw [h1]
    unfold txA upr
    split
    · exact ⟨rfl, b4⟩
    · split
      · exact ⟨rfl, b3⟩
      · split
        · exact ⟨rfl, b2⟩
        · split
          · exact ⟨rfl, b1⟩
          · exact T.2.1 i h4 (by omega)
  · unfold txA upr
    rw [if_neg (by omega), if_neg (by omega), if_neg (by omega), if_neg (by omega)]
    exact T.2.2 i (by omega)
theorem TMs.cut {M N : Mem} {n m : Int} {tx : Int → Int} (T : TMs M n tx) (h0 : 0 ≤ m) (h1 : m ≤ n) (h3 : N 161 11 = m) (h2 : N 168 = M 168) : TMs N m (txC tx m) := by
  have tn := T.1.2
  refine ⟨⟨h3, h0, by omega⟩, fun i h4 h5 => ?_, fun i h4 => ?_⟩
  · rw [h2]
    unfold txC
    rw [if_pos h5]
    exact T.2.1 i h4 (by omega)
  · unfold txC
    by_cases c : i < m
    · rw [if_pos c]; exact T.2.2 i (by omega)
    · rw [if_neg c]
theorem TMs.TL {M N : Mem} {n : Int} {tx : Int → Int} (T : TMs M n tx) (h : N 161 30 = n) (h2 : N 168 = M 168) : TL N n tx := ⟨⟨h, T.1.2⟩, fun i h3 h4 => by rw [h2]; exact T.2.1 i h3 h4, T.2.2⟩
set_option maxRecDepth 100000 in
theorem ro_sign {d : Nat} {M : Mem} {k : Nat} {pl : Nat → Pl k} {n : Int} {tx : Int → Int} {rc : Nat} {rw : Int → Int} {fc : Nat} {fa : Nat → Pl k} (H : RFS M k pl n tx rc rw fc fa) (v : Int) (v1_ : -2147483648 ≤ v) (v2_ : v ≤ 2147483647) (hn : n + 4 ≤ 40) : Ct 198 (d + 8) 197 [(1, 161), (0, v)] M (fun r_ M' => r_ = (0, (n + 4)) ∧ RFS M' k pl (n + 4) (txA tx n v) rc rw fc fa ∧ (∀ a : Int, (a < 161 ∨ 197 < a) → M' a = M a)) := by
  have hK : cd 197 = k197 := rfl
  obtain ⟨R, C, hpl, T, hR, hF⟩ := H
  have q1_ := qq_I k
  have p1_ := pp_I k
  have m1_ := mm_I k
  have tn_ := T.1.2
  show Wp 198 _ 197 0 [(1, 161), (0, v), (3, 0)] [] M _
  refine w_al hK rfl rfl ?_
  refine w_ic hK rfl ?_
  refine w_puti (n := 14) (m := 14) hK rfl rfl (by decide) (by decide) rfl rfl rfl rfl ?_
  refine w_al hK rfl rfl ?_
  refine w_geti (n := 11) (m := 11) hK rfl rfl (by decide) (by decide) rfl rfl rfl rfl ?_
  rw [show (up M 161 14 0) 161 11 = n from ((up_ne2 (by omega)).trans T.1.1)]
  refine w_ic hK rfl ?_
  refine w_add hK rfl (by omega) (by omega) ?_
  refine w_ic hK rfl ?_
  refine w_le2 hK rfl (by omega) (by omega) (by omega) (by omega) (fun h8 => ?_) (fun h8 => ?_)
  · refine w_ic hK rfl ?_
    refine w_is [(1, 161), (0, v), (0, 3)] hK rfl rfl rfl ?_
    refine w_il hK rfl rfl ?_
    refine w_lt hK rfl (by omega) (by omega) (fun h14 => ?_) (fun h14 => ?_)
    · exfalso; omega
    · refine w_al hK rfl rfl ?_
      refine w_getr (n := 10) (v := 168) hK rfl rfl (by decide) (by decide) rfl rfl rfl rfl ?_
      refine w_al hK rfl rfl ?_
      refine w_dup hK rfl rfl ?_
      refine w_geti (n := 11) (m := 11) hK rfl rfl (by decide) (by decide) rfl rfl rfl rfl ?_
      rw [show (up M 161 14 0) 161 11 = n from ((up_ne2 (by omega)).trans T.1.1)]
      refine w_dupx1 hK rfl rfl rfl ?_
      refine w_ic hK rfl ?_
      refine w_add hK rfl (by omega) (by omega) ?_
      refine w_puti (n := 11) (m := 11) hK rfl rfl (by decide) (by decide) rfl rfl rfl rfl ?_
      refine w_il hK rfl rfl ?_
      refine w_ic hK rfl ?_
      refine w_il hK rfl rfl ?_
      refine w_mul hK rfl (by omega) (by omega) ?_
      refine w_bin (w := i32 v >>> (i32 (8 * 3) &&& 31)) hK rfl rfl rfl ?_
      refine w_i2b hK rfl ?_
      refine w_bat hK rfl rfl (by decide) (by decide) (by omega) (by omega) ?_
      refine w_inc [(1, 161), (0, v), (0, 2)] hK rfl rfl rfl (by omega) (by omega) rfl ?_
      refine w_goto hK rfl ?_
      refine w_il hK rfl rfl ?_
      refine w_lt hK rfl (by omega) (by omega) (fun h14 => ?_) (fun h14 => ?_)
      · exfalso; omega
      · refine w_al hK rfl rfl ?_
        refine w_getr (n := 10) (v := 168) hK rfl rfl (by decide) (by decide) rfl rfl rfl rfl ?_
        refine w_al hK rfl rfl ?_
        refine w_dup hK rfl rfl ?_
        refine w_geti (n := 11) (m := 11) hK rfl rfl (by decide) (by decide) rfl rfl rfl rfl ?_
        rw [show (up (up (up M 161 14 0) 161 11 (n + 1)) 168 n ((i32 ((i32 ((i32 v >>> (i32 (8 * 3) &&& 31)).toInt)).toInt8.toInt)).toInt8.toInt)) 161 11 = (n + 1) from ((congrFun (up_row (by decide)) 11).trans up_eq)]
        refine w_dupx1 hK rfl rfl rfl ?_
        refine w_ic hK rfl ?_
        refine w_add hK rfl (by omega) (by omega) ?_
        refine w_puti (n := 11) (m := 11) hK rfl rfl (by decide) (by decide) rfl rfl rfl rfl ?_
        refine w_il hK rfl rfl ?_
        refine w_ic hK rfl ?_
        refine w_il hK rfl rfl ?_
        refine w_mul hK rfl (by omega) (by omega) ?_
        refine w_bin (w := i32 v >>> (i32 (8 * 2) &&& 31)) hK rfl rfl rfl ?_
        refine w_i2b hK rfl ?_
        refine w_bat hK rfl rfl (by decide) (by decide) (by omega) (by omega) ?_
        refine w_inc [(1, 161), (0, v), (0, 1)] hK rfl rfl rfl (by omega) (by omega) rfl ?_
        refine w_goto hK rfl ?_
        refine w_il hK rfl rfl ?_
        refine w_lt hK rfl (by omega) (by omega) (fun h14 => ?_) (fun h14 => ?_)
        · exfalso; omega
        · refine w_al hK rfl rfl ?_
          refine w_getr (n := 10) (v := 168) hK rfl rfl (by decide) (by decide) rfl rfl rfl rfl ?_
          refine w_al hK rfl rfl ?_
          refine w_dup hK rfl rfl ?_
          refine w_geti (n := 11) (m := 11) hK rfl rfl (by decide) (by decide) rfl rfl rfl rfl ?_
          rw [show (up (up (up (up (up M 161 14 0) 161 11 (n + 1)) 168 n ((i32 ((i32 ((i32 v >>> (i32 (8 * 3) &&& 31)).toInt)).toInt8.toInt)).toInt8.toInt)) 161 11 ((n + 1) + 1)) 168 (n + 1) ((i32 ((i32 ((i32 v >>> (i32 (8 * 2) &&& 31)).toInt)).toInt8.toInt)).toInt8.toInt)) 161 11 = ((n + 1) + 1) from ((congrFun (up_row (by decide)) 11).trans up_eq)]
          refine w_dupx1 hK rfl rfl rfl ?_
          refine w_ic hK rfl ?_
          refine w_add hK rfl (by omega) (by omega) ?_
          refine w_puti (n := 11) (m := 11) hK rfl rfl (by decide) (by decide) rfl rfl rfl rfl ?_
          refine w_il hK rfl rfl ?_
          refine w_ic hK rfl ?_
          refine w_il hK rfl rfl ?_
          refine w_mul hK rfl (by omega) (by omega) ?_
          refine w_bin (w := i32 v >>> (i32 (8 * 1) &&& 31)) hK rfl rfl rfl ?_
          refine w_i2b hK rfl ?_
          refine w_bat hK rfl rfl (by decide) (by decide) (by omega) (by omega) ?_
          refine w_inc [(1, 161), (0, v), (0, 0)] hK rfl rfl rfl (by omega) (by omega) rfl ?_
          refine w_goto hK rfl ?_
          refine w_il hK rfl rfl ?_
          refine w_lt hK rfl (by omega) (by omega) (fun h14 => ?_) (fun h14 => ?_)
          · exfalso; omega
          · refine w_al hK rfl rfl ?_
            refine w_getr (n := 10) (v := 168) hK rfl rfl (by decide) (by decide) rfl rfl rfl rfl ?_
            refine w_al hK rfl rfl ?_
            refine w_dup hK rfl rfl ?_
            refine w_geti (n := 11) (m := 11) hK rfl rfl (by decide) (by decide) rfl rfl rfl rfl ?_
            rw [show (up (up (up (up (up (up (up M 161 14 0) 161 11 (n + 1)) 168 n ((i32 ((i32 ((i32 v >>> (i32 (8 * 3) &&& 31)).toInt)).toInt8.toInt)).toInt8.toInt)) 161 11 ((n + 1) + 1)) 168 (n + 1) ((i32 ((i32 ((i32 v >>> (i32 (8 * 2) &&& 31)).toInt)).toInt8.toInt)).toInt8.toInt)) 161 11 (((n + 1) + 1) + 1)) 168 ((n + 1) + 1) ((i32 ((i32 ((i32 v >>> (i32 (8 * 1) &&& 31)).toInt)).toInt8.toInt)).toInt8.toInt)) 161 11 = (((n + 1) + 1) + 1) from ((congrFun (up_row (by decide)) 11).trans up_eq)]
            refine w_dupx1 hK rfl rfl rfl ?_
            refine w_ic hK rfl ?_
            refine w_add hK rfl (by omega) (by omega) ?_
            refine w_puti (n := 11) (m := 11) hK rfl rfl (by decide) (by decide) rfl rfl rfl rfl ?_
            refine w_il hK rfl rfl ?_
            refine w_ic hK rfl ?_
            refine w_il hK rfl rfl ?_
            refine w_mul hK rfl (by omega) (by omega) ?_
            refine w_bin (w := i32 v >>> (i32 (8 * 0) &&& 31)) hK rfl rfl rfl ?_
            refine w_i2b hK rfl ?_
            refine w_bat hK rfl rfl (by decide) (by decide) (by omega) (by omega) ?_
            refine w_inc [(1, 161), (0, v), (0, (-1))] hK rfl rfl rfl (by omega) (by omega) rfl ?_
            refine w_goto hK rfl ?_
            refine w_il hK rfl rfl ?_
            refine w_lt hK rfl (by omega) (by omega) (fun h14 => ?_) (fun h14 => ?_)
            · refine w_al hK rfl rfl ?_
              refine w_geti (n := 11) (m := 11) hK rfl rfl (by decide) (by decide) rfl rfl rfl rfl ?_
              rw [show (up (up (up (up (up (up (up (up (up M 161 14 0) 161 11 (n + 1)) 168 n ((i32 ((i32 ((i32 v >>> (i32 (8 * 3) &&& 31)).toInt)).toInt8.toInt)).toInt8.toInt)) 161 11 ((n + 1) + 1)) 168 (n + 1) ((i32 ((i32 ((i32 v >>> (i32 (8 * 2) &&& 31)).toInt)).toInt8.toInt)).toInt8.toInt)) 161 11 (((n + 1) + 1) + 1)) 168 ((n + 1) + 1) ((i32 ((i32 ((i32 v >>> (i32 (8 * 1) &&& 31)).toInt)).toInt8.toInt)).toInt8.toInt)) 161 11 ((((n + 1) + 1) + 1) + 1)) 168 (((n + 1) + 1) + 1) ((i32 ((i32 ((i32 v >>> (i32 (8 * 0) &&& 31)).toInt)).toInt8.toInt)).toInt8.toInt)) 161 11 = ((((n + 1) + 1) + 1) + 1) from ((congrFun (up_row (by decide)) 11).trans up_eq)]
              refine w_iret hK rfl rfl ?_
              exact ⟨(congrArg (Prod.mk 0) (by omega)), ⟨_, (RS.upc (RS.cg (RS.upc (RS.cg (RS.upc (RS.cg (RS.upc (RS.cg (RS.cg C (fun j_ h1_ h2_ => up_ne2 (by omega)) (fun a_ h1_ h2_ => up_row h1_)) (fun j_ h1_ h2_ => up_ne2 (by omega)) (fun a_ h1_ h2_ => up_row h1_)) (by decide) (notR rfl)) (fun j_ h1_ h2_ => up_ne2 (by omega)) (fun a_ h1_ h2_ => up_row h1_)) (by decide) (notR rfl)) (fun j_ h1_ h2_ => up_ne2 (by omega)) (fun a_ h1_ h2_ => up_row h1_)) (by decide) (notR rfl)) (fun j_ h1_ h2_ => up_ne2 (by omega)) (fun a_ h1_ h2_ => up_row h1_)) (by decide) (notR rfl)), (PM.keep hpl ((up_row (by decide)).trans ((up_row (by decide)).trans ((up_row (by decide)).trans ((up_row (by decide)).trans ((up_row (by decide)).trans ((up_row (by decide)).trans ((up_row (by decide)).trans ((up_row (by decide)).trans (up_row (by decide))))))))))), (TMs.app T hn v (((congrFun (up_row (by decide)) 11).trans up_eq)) (((up_upr ((up_row (by decide)).trans (up_upr ((up_row (by decide)).trans (up_upr ((up_row (by decide)).trans (up_upr ((up_row (by decide)).trans (up_row (by decide)))))))))).trans (by rw [sgb_24 v1_ v2_, sgb_16 v1_ v2_, sgb_8 v1_ v2_, sgb_0 v1_ v2_])))), (RM.keep hR ((congrFun (up_row (by decide)) 13).trans ((up_ne2 (by decide)).trans ((congrFun (up_row (by decide)) 13).trans ((up_ne2 (by decide)).trans ((congrFun (up_row (by decide)) 13).trans ((up_ne2 (by decide)).trans ((congrFun (up_row (by decide)) 13).trans ((up_ne2 (by decide)).trans (up_ne2 (by decide)))))))))) ((up_row (by decide)).trans ((up_row (by decide)).trans ((up_row (by decide)).trans ((up_row (by decide)).trans ((up_row (by decide)).trans ((up_row (by decide)).trans ((up_row (by decide)).trans ((up_row (by decide)).trans (up_row (by decide))))))))))), (FM.keep hF ((congrFun (up_row (by decide)) 15).trans ((up_ne2 (by decide)).trans ((congrFun (up_row (by decide)) 15).trans ((up_ne2 (by decide)).trans ((congrFun (up_row (by decide)) 15).trans ((up_ne2 (by decide)).trans ((congrFun (up_row (by decide)) 15).trans ((up_ne2 (by decide)).trans (up_ne2 (by decide)))))))))) ((up_row (by decide)).trans ((up_row (by decide)).trans ((up_row (by decide)).trans ((up_row (by decide)).trans ((up_row (by decide)).trans ((up_row (by decide)).trans ((up_row (by decide)).trans ((up_row (by decide)).trans (up_row (by decide)))))))))) ((up_row (by decide)).trans ((up_row (by decide)).trans ((up_row (by decide)).trans ((up_row (by decide)).trans ((up_row (by decide)).trans ((up_row (by decide)).trans ((up_row (by decide)).trans ((up_row (by decide)).trans (up_row (by decide)))))))))))⟩, (fun a h_ => ((up_row (by omega)).trans ((up_row (by omega)).trans ((up_row (by omega)).trans ((up_row (by omega)).trans ((up_row (by omega)).trans ((up_row (by omega)).trans ((up_row (by omega)).trans ((up_row (by omega)).trans (up_row (by omega)))))))))))⟩
            · exfalso; omega
  · exfalso; omega
set_option maxRecDepth 100000 in
theorem rn_sign {d : Nat} {M : Mem} {k : Nat} {pl : Nat → Pl k} {n : Int} {tx : Int → Int} {rc : Nat} {rw : Int → Int} {fc : Nat} {fa : Nat → Pl k} (H : RFS M k pl n tx rc rw fc fa) (v : Int) (hn : 40 < n + 4) : Ct 198 (d + 8) 197 [(1, 161), (0, v)] M (fun r_ M' => r_ = (0, -1) ∧ RFS M' k pl n tx rc rw fc fa ∧ (∀ a : Int, (a < 161 ∨ 197 < a) → M' a = M a)) := by
  have hK : cd 197 = k197 := rfl
  obtain ⟨R, C, hpl, T, hR, hF⟩ := H
  have q1_ := qq_I k
  have p1_ := pp_I k
  have m1_ := mm_I k
  have tn_ := T.1.2
  show Wp 198 _ 197 0 [(1, 161), (0, v), (3, 0)] [] M _
  refine w_al hK rfl rfl ?_
  refine w_ic hK rfl ?_
  refine w_puti (n := 14) (m := 14) hK rfl rfl (by decide) (by decide) rfl rfl rfl rfl ?_
  refine w_al hK rfl rfl ?_
  refine w_geti (n := 11) (m := 11) hK rfl rfl (by decide) (by decide) rfl rfl rfl rfl ?_
  rw [show (up M 161 14 0) 161 11 = n from (TMs.keep T (up_ne2 (by decide)) (up_row (by decide))).1.1]
  refine w_ic hK rfl ?_
  refine w_add hK rfl (by omega) (by omega) ?_
  refine w_ic hK rfl ?_
  refine w_le2 hK rfl (by omega) (by omega) (by omega) (by omega) (fun h8 => ?_) (fun h8 => ?_)
  · exfalso; omega
  · refine w_ic hK rfl ?_
    refine w_iret hK rfl rfl ?_
    exact ⟨rfl, ⟨_, (RS.cg C (fun j_ h1_ h2_ => up_ne2 (by omega)) (fun a_ h1_ h2_ => up_row h1_)), (PM.keep hpl (up_row (by decide))), (TMs.keep T (up_ne2 (by decide)) (up_row (by decide))), (RM.keep hR (up_ne2 (by decide)) (up_row (by decide))), (FM.keep hF (up_ne2 (by decide)) (up_row (by decide)) (up_row (by decide)))⟩, (fun a h_ => (up_row (by omega)))⟩
set_option maxRecDepth 100000 in
theorem ro_end {d : Nat} {M : Mem} {k : Nat} {pl : Nat → Pl k} {n : Int} {tx : Int → Int} {rc : Nat} {rw : Int → Int} {fc : Nat} {fa : Nat → Pl k} (H : RFS M k pl n tx rc rw fc fa) (m : Int) (m0 : 0 ≤ m) (m1 : m ≤ n) : Ct 198 (d + 8) 198 [(1, 161), (0, m)] M (fun r_ M' => r_ = (0, 1) ∧ RFS M' k pl m (txC tx m) rc rw fc fa ∧ (∀ a : Int, (a < 161 ∨ 197 < a) → M' a = M a)) := by
  have hK : cd 198 = k198 := rfl
  obtain ⟨R, C, hpl, T, hR, hF⟩ := H
  have q1_ := qq_I k
  have p1_ := pp_I k
  have m1_ := mm_I k
  have tn_ := T.1.2
  show Wp 198 _ 198 0 [(1, 161), (0, m)] [] M _
  refine w_al hK rfl rfl ?_
  refine w_ic hK rfl ?_
  refine w_puti (n := 14) (m := 14) hK rfl rfl (by decide) (by decide) rfl rfl rfl rfl ?_
  refine w_il hK rfl rfl ?_
  refine w_i2l hK rfl (by omega) (by omega) ?_
  refine w_lc hK rfl ?_
  refine w_al hK rfl rfl ?_
  refine w_geti (n := 11) (m := 11) hK rfl rfl (by decide) (by decide) rfl rfl rfl rfl ?_
  rw [show (up M 161 14 0) 161 11 = n from (TMs.keep T (up_ne2 (by decide)) (up_row (by decide))).1.1]
  refine w_i2l hK rfl (by omega) (by omega) ?_
  refine w_call [(2, m), (2, 0), (2, n)] hK rfl rfl rfl rfl (Or.inl rfl) (r_in m 0 n (by omega) (by omega) (by omega) (by omega) (by omega) (by omega)) ?_
  rintro _ Mq ⟨rfl, e_⟩
  subst Mq
  have iI_522 := ite01 (0 ≤ m ∧ m ≤ n)
  refine ⟨by show (0 : Nat) ≠ 9; decide, (?_ : Wp 198 _ 198 10 [(1, 161), (0, m)] [(0, (if 0 ≤ m ∧ m ≤ n then 1 else 0))] (up M 161 14 0) _)⟩
  refine w_ne hK rfl (by omega) (by omega) (fun h10 => ?_) (fun h10 => ?_)
  · refine w_al hK rfl rfl ?_
    refine w_il hK rfl rfl ?_
    refine w_puti (n := 11) (m := 11) hK rfl rfl (by decide) (by decide) rfl rfl rfl rfl ?_
    refine w_ic hK rfl ?_
    refine w_zret hK rfl rfl (Or.inr rfl) ?_
    exact ⟨rfl, ⟨_, (RS.cg (RS.cg C (fun j_ h1_ h2_ => up_ne2 (by omega)) (fun a_ h1_ h2_ => up_row h1_)) (fun j_ h1_ h2_ => up_ne2 (by omega)) (fun a_ h1_ h2_ => up_row h1_)), (PM.keep hpl ((up_row (by decide)).trans (up_row (by decide)))), (TMs.cut T m0 m1 up_eq ((up_row (by decide)).trans (up_row (by decide)))), (RM.keep hR ((up_ne2 (by decide)).trans (up_ne2 (by decide))) ((up_row (by decide)).trans (up_row (by decide)))), (FM.keep hF ((up_ne2 (by decide)).trans (up_ne2 (by decide))) ((up_row (by decide)).trans (up_row (by decide))) ((up_row (by decide)).trans (up_row (by decide))))⟩, (fun a h_ => ((up_row (by omega)).trans (up_row (by omega))))⟩
  · exfalso; omega
set_option maxRecDepth 100000 in
theorem rn_end {d : Nat} {M : Mem} {k : Nat} {pl : Nat → Pl k} {n : Int} {tx : Int → Int} {rc : Nat} {rw : Int → Int} {fc : Nat} {fa : Nat → Pl k} (H : RFS M k pl n tx rc rw fc fa) (m : Int) (m1_ : -2147483648 ≤ m) (m2_ : m ≤ 2147483647) (hm : m < 0 ∨ n < m) : Ct 198 (d + 8) 198 [(1, 161), (0, m)] M (fun r_ M' => r_ = (0, 0) ∧ RFS M' k pl n tx rc rw fc fa ∧ (∀ a : Int, (a < 161 ∨ 197 < a) → M' a = M a)) := by
  have hK : cd 198 = k198 := rfl
  obtain ⟨R, C, hpl, T, hR, hF⟩ := H
  have q1_ := qq_I k
  have p1_ := pp_I k
  have m1_ := mm_I k
  have tn_ := T.1.2
  show Wp 198 _ 198 0 [(1, 161), (0, m)] [] M _
  refine w_al hK rfl rfl ?_
  refine w_ic hK rfl ?_
  refine w_puti (n := 14) (m := 14) hK rfl rfl (by decide) (by decide) rfl rfl rfl rfl ?_
  refine w_il hK rfl rfl ?_
  refine w_i2l hK rfl (by omega) (by omega) ?_
  refine w_lc hK rfl ?_
  refine w_al hK rfl rfl ?_
  refine w_geti (n := 11) (m := 11) hK rfl rfl (by decide) (by decide) rfl rfl rfl rfl ?_
  rw [show (up M 161 14 0) 161 11 = n from (TMs.keep T (up_ne2 (by decide)) (up_row (by decide))).1.1]
  refine w_i2l hK rfl (by omega) (by omega) ?_
  refine w_call [(2, m), (2, 0), (2, n)] hK rfl rfl rfl rfl (Or.inl rfl) (r_in m 0 n (by omega) (by omega) (by omega) (by omega) (by omega) (by omega)) ?_
  rintro _ Mq ⟨rfl, e_⟩
  subst Mq
  have iI_523 := ite01 (0 ≤ m ∧ m ≤ n)
  refine ⟨by show (0 : Nat) ≠ 9; decide, (?_ : Wp 198 _ 198 10 [(1, 161), (0, m)] [(0, (if 0 ≤ m ∧ m ≤ n then 1 else 0))] (up M 161 14 0) _)⟩
  refine w_ne hK rfl (by omega) (by omega) (fun h10 => ?_) (fun h10 => ?_)
  · exfalso; omega
  · refine w_ic hK rfl ?_
    refine w_zret hK rfl rfl (Or.inl rfl) ?_
    exact ⟨rfl, ⟨_, (RS.cg C (fun j_ h1_ h2_ => up_ne2 (by omega)) (fun a_ h1_ h2_ => up_row h1_)), (PM.keep hpl (up_row (by decide))), (TMs.keep T (up_ne2 (by decide)) (up_row (by decide))), (RM.keep hR (up_ne2 (by decide)) (up_row (by decide))), (FM.keep hF (up_ne2 (by decide)) (up_row (by decide)) (up_row (by decide)))⟩, (fun a h_ => (up_row (by omega)))⟩
