/-! contracts: the text told and cut -/
/-- a byte of v -/
def byt (v s : Int) : Int := (i32 ((((i32 v).toUInt32 >>> ((i32 s).toUInt32 &&& Int32.toUInt32 31)).toInt32).toInt) &&& i32 255).toInt
theorem and255 (w : Int32) : 0 ≤ (w &&& i32 255).toInt ∧ (w &&& i32 255).toInt ≤ 255 := by
  have h : (w &&& i32 255).toBitVec = w.toBitVec &&& 255#32 := rfl
  have h2 : (w.toBitVec &&& 255#32).toNat ≤ 255 := by
    rw [BitVec.toNat_and]
    exact Nat.and_le_right
  show 0 ≤ (w &&& i32 255).toBitVec.toInt ∧ (w &&& i32 255).toBitVec.toInt ≤ 255
  rw [h, BitVec.toInt_eq_toNat_of_lt (by omega)]
  omega
theorem byt_I (v s : Int) : 0 ≤ byt v s ∧ byt v s ≤ 255 := and255 _
def txA (tx : Int → Int) (n v : Int) : Int → Int := upr (upr (upr (upr tx n (byt v 24)) (n + 1) (byt v 16)) (n + 1 + 1) (byt v 8)) (n + 1 + 1 + 1) (byt v 0)
def txC (tx : Int → Int) (m : Int) : Int → Int := fun i => if i < m then tx i else -1
theorem TXs.cut {M N : Mem} {n m : Int} {tx : Int → Int} (T : TXs M n tx) (h0 : 0 ≤ m) (h1 : m ≤ n) (h3 : N 140 3 = m) (h2 : N 141 = M 141) : TXs N m (txC tx m) := by
  refine ⟨⟨h3, h0, by have := T.1.2; omega⟩, fun i h4 h5 => ?_, fun i h4 => ?_⟩
  · rw [h2, show txC tx m i = tx i from if_pos h5]
    exact T.2.1 i h4 (by omega)
  · unfold txC
    split
    · exact T.2.2 i (by omega)
    · rfl
theorem TXs.app {M N : Mem} {n : Int} {tx : Int → Int} (T : TXs M n tx) (hn : n + 4 ≤ 40) (v : Int) (h3 : N 140 3 = n + 1 + 1 + 1 + 1) (h1 : N 141 = upr (upr (upr (upr (M 141) n (byt v 24)) (n + 1) (byt v 16)) (n + 1 + 1) (byt v 8)) (n + 1 + 1 + 1) (byt v 0)) : TXs N (n + 4) (txA tx n v) := by
  have b1 := byt_I v 24
  have b2 := byt_I v 16
  have b3 := byt_I v 8
  have b4 := byt_I v 0
  have tn := T.1.2
  refine ⟨⟨by rw [h3]; omega, by omega, by omega⟩, fun i h4 h5 => ?_, fun i h4 => ?_⟩
  · rw [h1]
    unfold txA upr
    split
    · exact ⟨rfl, b4⟩
    · split
      · exact ⟨rfl, b3⟩
      · split
        · exact ⟨rfl, b2⟩
        · split
          · exact ⟨rfl, b1⟩
          · exact T.2.1 i h4 (by omega)
  · unfold txA upr
    rw [if_neg (by omega), if_neg (by omega), if_neg (by omega), if_neg (by omega)]
    exact T.2.2 i (by omega)
set_option maxRecDepth 100000 in
theorem c_app {d : Nat} {M : Mem} {n : Int} {tx : Int → Int} (T : TXs M n tx) (hn : n + 4 ≤ 40) (v : Int) : Ct 198 (d) 110 [(1, 140), (0, v)] M (fun r M' => r = (0, 1) ∧ TXs M' (n + 4) (txA tx n v) ∧ (∀ a : Int, a ≠ 140 → a ≠ 141 → M' a = M a)) := by
  have hK : cd 110 = k110 := rfl
  have tn_ := T.1.2
  show Wp 198 _ 110 0 [(1, 140), (0, v), (3, 0)] [] M _
  refine w_al hK rfl rfl ?_
  refine w_geti (n := 3) (m := 3) hK rfl rfl (by decide) (by decide) rfl rfl rfl rfl ?_
  rw [show M 140 3 = n from T.1.1]
  refine w_ic hK rfl ?_
  refine w_add hK rfl (by omega) (by omega) ?_
  refine w_al hK rfl rfl ?_
  refine w_getr (n := 0) (v := 141) hK rfl rfl (by decide) (by decide) rfl rfl rfl rfl ?_
  refine w_len hK rfl rfl (by decide) (by decide) rfl ?_
  refine w_le2 hK rfl (by omega) (by omega) (by omega) (by omega) (fun h7 => ?_) (fun h7 => ?_)
  · refine w_ic hK rfl ?_
    refine w_is [(1, 140), (0, v), (0, 24)] hK rfl rfl rfl ?_
    refine w_il hK rfl rfl ?_
    refine w_lt hK rfl (by omega) (by omega) (fun h13 => ?_) (fun h13 => ?_)
    · exfalso; omega
    · refine w_al hK rfl rfl ?_
      refine w_geti (n := 3) (m := 3) hK rfl rfl (by decide) (by decide) rfl rfl rfl rfl ?_
      rw [show M 140 3 = n from T.1.1]
      refine w_al hK rfl rfl ?_
      refine w_getr (n := 0) (v := 141) hK rfl rfl (by decide) (by decide) rfl rfl rfl rfl ?_
      refine w_len hK rfl rfl (by decide) (by decide) rfl ?_
      refine w_ge2 hK rfl (by omega) (by omega) (by omega) (by omega) (fun h19 => ?_) (fun h19 => ?_)
      · exfalso; omega
      · refine w_al hK rfl rfl ?_
        refine w_getr (n := 0) (v := 141) hK rfl rfl (by decide) (by decide) rfl rfl rfl rfl ?_
        refine w_al hK rfl rfl ?_
        refine w_geti (n := 3) (m := 3) hK rfl rfl (by decide) (by decide) rfl rfl rfl rfl ?_
        rw [show M 140 3 = n from T.1.1]
        refine w_il hK rfl rfl ?_
        refine w_il hK rfl rfl ?_
        refine w_bin (w := ((i32 v).toUInt32 >>> ((i32 24).toUInt32 &&& Int32.toUInt32 31)).toInt32) hK rfl rfl rfl ?_
        refine w_ic hK rfl ?_
        refine w_bin (w := i32 ((((i32 v).toUInt32 >>> ((i32 24).toUInt32 &&& Int32.toUInt32 31)).toInt32).toInt) &&& i32 255) hK rfl rfl rfl ?_
        refine w_iat hK rfl rfl (by decide) (by decide) (by omega) (by omega) ?_
        refine w_al hK rfl rfl ?_
        refine w_dup hK rfl rfl ?_
        refine w_geti (n := 3) (m := 3) hK rfl rfl (by decide) (by decide) rfl rfl rfl rfl ?_
        rw [show (up M 141 n ((i32 ((((i32 v).toUInt32 >>> ((i32 24).toUInt32 &&& Int32.toUInt32 31)).toInt32).toInt) &&& i32 255).toInt)) 140 3 = n from ((congrFun (up_row (by decide)) 3).trans T.1.1)]
        refine w_ic hK rfl ?_
        refine w_add hK rfl (by omega) (by omega) ?_
        refine w_puti (n := 3) (m := 3) hK rfl rfl (by decide) (by decide) rfl rfl rfl rfl ?_
        refine w_inc [(1, 140), (0, v), (0, 16)] hK rfl rfl rfl (by omega) (by omega) rfl ?_
        refine w_goto hK rfl ?_
        refine w_il hK rfl rfl ?_
        refine w_lt hK rfl (by omega) (by omega) (fun h13 => ?_) (fun h13 => ?_)
        · exfalso; omega
        · refine w_al hK rfl rfl ?_
          refine w_geti (n := 3) (m := 3) hK rfl rfl (by decide) (by decide) rfl rfl rfl rfl ?_
          rw [show (up (up M 141 n ((i32 ((((i32 v).toUInt32 >>> ((i32 24).toUInt32 &&& Int32.toUInt32 31)).toInt32).toInt) &&& i32 255).toInt)) 140 3 (n + 1)) 140 3 = (n + 1) from up_eq]
          refine w_al hK rfl rfl ?_
          refine w_getr (n := 0) (v := 141) hK rfl rfl (by decide) (by decide) rfl rfl rfl rfl ?_
          refine w_len hK rfl rfl (by decide) (by decide) rfl ?_
          refine w_ge2 hK rfl (by omega) (by omega) (by omega) (by omega) (fun h19 => ?_) (fun h19 => ?_)
          · exfalso; omega
          · refine w_al hK rfl rfl ?_
            refine w_getr (n := 0) (v := 141) hK rfl rfl (by decide) (by decide) rfl rfl rfl rfl ?_
            refine w_al hK rfl rfl ?_
            refine w_geti (n := 3) (m := 3) hK rfl rfl (by decide) (by decide) rfl rfl rfl rfl ?_
            rw [show (up (up M 141 n ((i32 ((((i32 v).toUInt32 >>> ((i32 24).toUInt32 &&& Int32.toUInt32 31)).toInt32).toInt) &&& i32 255).toInt)) 140 3 (n + 1)) 140 3 = (n + 1) from up_eq]
            refine w_il hK rfl rfl ?_
            refine w_il hK rfl rfl ?_
            refine w_bin (w := ((i32 v).toUInt32 >>> ((i32 16).toUInt32 &&& Int32.toUInt32 31)).toInt32) hK rfl rfl rfl ?_
            refine w_ic hK rfl ?_
            refine w_bin (w := i32 ((((i32 v).toUInt32 >>> ((i32 16).toUInt32 &&& Int32.toUInt32 31)).toInt32).toInt) &&& i32 255) hK rfl rfl rfl ?_
            refine w_iat hK rfl rfl (by decide) (by decide) (by omega) (by omega) ?_
            refine w_al hK rfl rfl ?_
            refine w_dup hK rfl rfl ?_
            refine w_geti (n := 3) (m := 3) hK rfl rfl (by decide) (by decide) rfl rfl rfl rfl ?_
            rw [show (up (up (up M 141 n ((i32 ((((i32 v).toUInt32 >>> ((i32 24).toUInt32 &&& Int32.toUInt32 31)).toInt32).toInt) &&& i32 255).toInt)) 140 3 (n + 1)) 141 (n + 1) ((i32 ((((i32 v).toUInt32 >>> ((i32 16).toUInt32 &&& Int32.toUInt32 31)).toInt32).toInt) &&& i32 255).toInt)) 140 3 = (n + 1) from ((congrFun (up_row (by decide)) 3).trans up_eq)]
            refine w_ic hK rfl ?_
            refine w_add hK rfl (by omega) (by omega) ?_
            refine w_puti (n := 3) (m := 3) hK rfl rfl (by decide) (by decide) rfl rfl rfl rfl ?_
            refine w_inc [(1, 140), (0, v), (0, 8)] hK rfl rfl rfl (by omega) (by omega) rfl ?_
            refine w_goto hK rfl ?_
            refine w_il hK rfl rfl ?_
            refine w_lt hK rfl (by omega) (by omega) (fun h13 => ?_) (fun h13 => ?_)
            · exfalso; omega
            · refine w_al hK rfl rfl ?_
              refine w_geti (n := 3) (m := 3) hK rfl rfl (by decide) (by decide) rfl rfl rfl rfl ?_
              rw [show (up (up (up (up M 141 n ((i32 ((((i32 v).toUInt32 >>> ((i32 24).toUInt32 &&& Int32.toUInt32 31)).toInt32).toInt) &&& i32 255).toInt)) 140 3 (n + 1)) 141 (n + 1) ((i32 ((((i32 v).toUInt32 >>> ((i32 16).toUInt32 &&& Int32.toUInt32 31)).toInt32).toInt) &&& i32 255).toInt)) 140 3 ((n + 1) + 1)) 140 3 = ((n + 1) + 1) from up_eq]
              refine w_al hK rfl rfl ?_
              refine w_getr (n := 0) (v := 141) hK rfl rfl (by decide) (by decide) rfl rfl rfl rfl ?_
              refine w_len hK rfl rfl (by decide) (by decide) rfl ?_
              refine w_ge2 hK rfl (by omega) (by omega) (by omega) (by omega) (fun h19 => ?_) (fun h19 => ?_)
              · exfalso; omega
              · refine w_al hK rfl rfl ?_
                refine w_getr (n := 0) (v := 141) hK rfl rfl (by decide) (by decide) rfl rfl rfl rfl ?_
                refine w_al hK rfl rfl ?_
                refine w_geti (n := 3) (m := 3) hK rfl rfl (by decide) (by decide) rfl rfl rfl rfl ?_
                rw [show (up (up (up (up M 141 n ((i32 ((((i32 v).toUInt32 >>> ((i32 24).toUInt32 &&& Int32.toUInt32 31)).toInt32).toInt) &&& i32 255).toInt)) 140 3 (n + 1)) 141 (n + 1) ((i32 ((((i32 v).toUInt32 >>> ((i32 16).toUInt32 &&& Int32.toUInt32 31)).toInt32).toInt) &&& i32 255).toInt)) 140 3 ((n + 1) + 1)) 140 3 = ((n + 1) + 1) from up_eq]
                refine w_il hK rfl rfl ?_
                refine w_il hK rfl rfl ?_
                refine w_bin (w := ((i32 v).toUInt32 >>> ((i32 8).toUInt32 &&& Int32.toUInt32 31)).toInt32) hK rfl rfl rfl ?_
                refine w_ic hK rfl ?_
                refine w_bin (w := i32 ((((i32 v).toUInt32 >>> ((i32 8).toUInt32 &&& Int32.toUInt32 31)).toInt32).toInt) &&& i32 255) hK rfl rfl rfl ?_
                refine w_iat hK rfl rfl (by decide) (by decide) (by omega) (by omega) ?_
                refine w_al hK rfl rfl ?_
                refine w_dup hK rfl rfl ?_
                refine w_geti (n := 3) (m := 3) hK rfl rfl (by decide) (by decide) rfl rfl rfl rfl ?_
                rw [show (up (up (up (up (up M 141 n ((i32 ((((i32 v).toUInt32 >>> ((i32 24).toUInt32 &&& Int32.toUInt32 31)).toInt32).toInt) &&& i32 255).toInt)) 140 3 (n + 1)) 141 (n + 1) ((i32 ((((i32 v).toUInt32 >>> ((i32 16).toUInt32 &&& Int32.toUInt32 31)).toInt32).toInt) &&& i32 255).toInt)) 140 3 ((n + 1) + 1)) 141 ((n + 1) + 1) ((i32 ((((i32 v).toUInt32 >>> ((i32 8).toUInt32 &&& Int32.toUInt32 31)).toInt32).toInt) &&& i32 255).toInt)) 140 3 = ((n + 1) + 1) from ((congrFun (up_row (by decide)) 3).trans up_eq)]
                refine w_ic hK rfl ?_
                refine w_add hK rfl (by omega) (by omega) ?_
                refine w_puti (n := 3) (m := 3) hK rfl rfl (by decide) (by decide) rfl rfl rfl rfl ?_
                refine w_inc [(1, 140), (0, v), (0, 0)] hK rfl rfl rfl (by omega) (by omega) rfl ?_
                refine w_goto hK rfl ?_
                refine w_il hK rfl rfl ?_
                refine w_lt hK rfl (by omega) (by omega) (fun h13 => ?_) (fun h13 => ?_)
                · exfalso; omega
                · refine w_al hK rfl rfl ?_
                  refine w_geti (n := 3) (m := 3) hK rfl rfl (by decide) (by decide) rfl rfl rfl rfl ?_
                  rw [show (up (up (up (up (up (up M 141 n ((i32 ((((i32 v).toUInt32 >>> ((i32 24).toUInt32 &&& Int32.toUInt32 31)).toInt32).toInt) &&& i32 255).toInt)) 140 3 (n + 1)) 141 (n + 1) ((i32 ((((i32 v).toUInt32 >>> ((i32 16).toUInt32 &&& Int32.toUInt32 31)).toInt32).toInt) &&& i32 255).toInt)) 140 3 ((n + 1) + 1)) 141 ((n + 1) + 1) ((i32 ((((i32 v).toUInt32 >>> ((i32 8).toUInt32 &&& Int32.toUInt32 31)).toInt32).toInt) &&& i32 255).toInt)) 140 3 (((n + 1) + 1) + 1)) 140 3 = (((n + 1) + 1) + 1) from up_eq]
                  refine w_al hK rfl rfl ?_
                  refine w_getr (n := 0) (v := 141) hK rfl rfl (by decide) (by decide) rfl rfl rfl rfl ?_
                  refine w_len hK rfl rfl (by decide) (by decide) rfl ?_
                  refine w_ge2 hK rfl (by omega) (by omega) (by omega) (by omega) (fun h19 => ?_) (fun h19 => ?_)
                  · exfalso; omega
                  · refine w_al hK rfl rfl ?_
                    refine w_getr (n := 0) (v := 141) hK rfl rfl (by decide) (by decide) rfl rfl rfl rfl ?_
                    refine w_al hK rfl rfl ?_
                    refine w_geti (n := 3) (m := 3) hK rfl rfl (by decide) (by decide) rfl rfl rfl rfl ?_
                    rw [show (up (up (up (up (up (up M 141 n ((i32 ((((i32 v).toUInt32 >>> ((i32 24).toUInt32 &&& Int32.toUInt32 31)).toInt32).toInt) &&& i32 255).toInt)) 140 3 (n + 1)) 141 (n + 1) ((i32 ((((i32 v).toUInt32 >>> ((i32 16).toUInt32 &&& Int32.toUInt32 31)).toInt32).toInt) &&& i32 255).toInt)) 140 3 ((n + 1) + 1)) 141 ((n + 1) + 1) ((i32 ((((i32 v).toUInt32 >>> ((i32 8).toUInt32 &&& Int32.toUInt32 31)).toInt32).toInt) &&& i32 255).toInt)) 140 3 (((n + 1) + 1) + 1)) 140 3 = (((n + 1) + 1) + 1) from up_eq]
                    refine w_il hK rfl rfl ?_
                    refine w_il hK rfl rfl ?_
                    refine w_bin (w := ((i32 v).toUInt32 >>> ((i32 0).toUInt32 &&& Int32.toUInt32 31)).toInt32) hK rfl rfl rfl ?_
                    refine w_ic hK rfl ?_
                    refine w_bin (w := i32 ((((i32 v).toUInt32 >>> ((i32 0).toUInt32 &&& Int32.toUInt32 31)).toInt32).toInt) &&& i32 255) hK rfl rfl rfl ?_
                    refine w_iat hK rfl rfl (by decide) (by decide) (by omega) (by omega) ?_
                    refine w_al hK rfl rfl ?_
                    refine w_dup hK rfl rfl ?_
                    refine w_geti (n := 3) (m := 3) hK rfl rfl (by decide) (by decide) rfl rfl rfl rfl ?_
                    rw [show (up (up (up (up (up (up (up M 141 n ((i32 ((((i32 v).toUInt32 >>> ((i32 24).toUInt32 &&& Int32.toUInt32 31)).toInt32).toInt) &&& i32 255).toInt)) 140 3 (n + 1)) 141 (n + 1) ((i32 ((((i32 v).toUInt32 >>> ((i32 16).toUInt32 &&& Int32.toUInt32 31)).toInt32).toInt) &&& i32 255).toInt)) 140 3 ((n + 1) + 1)) 141 ((n + 1) + 1) ((i32 ((((i32 v).toUInt32 >>> ((i32 8).toUInt32 &&& Int32.toUInt32 31)).toInt32).toInt) &&& i32 255).toInt)) 140 3 (((n + 1) + 1) + 1)) 141 (((n + 1) + 1) + 1) ((i32 ((((i32 v).toUInt32 >>> ((i32 0).toUInt32 &&& Int32.toUInt32 31)).toInt32).toInt) &&& i32 255).toInt)) 140 3 = (((n + 1) + 1) + 1) from ((congrFun (up_row (by decide)) 3).trans up_eq)]
                    refine w_ic hK rfl ?_
                    refine w_add hK rfl (by omega) (by omega) ?_
                    refine w_puti (n := 3) (m := 3) hK rfl rfl (by decide) (by decide) rfl rfl rfl rfl ?_
                    refine w_inc [(1, 140), (0, v), (0, (-8))] hK rfl rfl rfl (by omega) (by omega) rfl ?_
                    refine w_goto hK rfl ?_
                    refine w_il hK rfl rfl ?_
                    refine w_lt hK rfl (by omega) (by omega) (fun h13 => ?_) (fun h13 => ?_)
                    · refine w_ic hK rfl ?_
                      refine w_zret hK rfl rfl (Or.inr rfl) ?_
                      refine ⟨rfl, TXs.app T (by omega) v up_eq ?_, (fun a n140_ n141_ => ((up_row n140_).trans ((up_row n141_).trans ((up_row n140_).trans ((up_row n141_).trans ((up_row n140_).trans ((up_row n141_).trans ((up_row n140_).trans (up_row n141_)))))))))⟩
                      exact ((up_row (by decide)).trans (up_upr ((up_row (by decide)).trans (up_upr ((up_row (by decide)).trans (up_upr ((up_row (by decide)).trans (up_upr rfl))))))))
                    · exfalso; omega
  · exfalso; omega
set_option maxRecDepth 100000 in
theorem c_appN {d : Nat} {M : Mem} {n : Int} {tx : Int → Int} (T : TXs M n tx) (hn : 40 < n + 4) (v : Int) : Ct 198 (d) 110 [(1, 140), (0, v)] M (fun r M' => r = (0, 0) ∧ M' = M) := by
  have hK : cd 110 = k110 := rfl
  have tn_ := T.1.2
  show Wp 198 _ 110 0 [(1, 140), (0, v), (3, 0)] [] M _
  refine w_al hK rfl rfl ?_
  refine w_geti (n := 3) (m := 3) hK rfl rfl (by decide) (by decide) rfl rfl rfl rfl ?_
  rw [show M 140 3 = n from T.1.1]
  refine w_ic hK rfl ?_
  refine w_add hK rfl (by omega) (by omega) ?_
  refine w_al hK rfl rfl ?_
  refine w_getr (n := 0) (v := 141) hK rfl rfl (by decide) (by decide) rfl rfl rfl rfl ?_
  refine w_len hK rfl rfl (by decide) (by decide) rfl ?_
  refine w_le2 hK rfl (by omega) (by omega) (by omega) (by omega) (fun h7 => ?_) (fun h7 => ?_)
  · exfalso; omega
  · refine w_ic hK rfl ?_
    refine w_zret hK rfl rfl (Or.inl rfl) ?_
    exact ⟨rfl, rfl⟩
set_option maxRecDepth 100000 in
theorem c_cut {d : Nat} {M : Mem} {n : Int} {tx : Int → Int} (T : TXs M n tx) (m : Int) (m0 : 0 ≤ m) (m1 : m ≤ n) : Ct 198 (d) 111 [(1, 140), (0, m)] M (fun r M' => r = (0, 1) ∧ TXs M' m (txC tx m) ∧ (∀ a : Int, a ≠ 140 → M' a = M a)) := by
  have hK : cd 111 = k111 := rfl
  have tn_ := T.1.2
  show Wp 198 _ 111 0 [(1, 140), (0, m)] [] M _
  refine w_il hK rfl rfl ?_
  refine w_lt hK rfl (by omega) (by omega) (fun h1 => ?_) (fun h1 => ?_)
  · exfalso; omega
  · refine w_il hK rfl rfl ?_
    refine w_al hK rfl rfl ?_
    refine w_geti (n := 3) (m := 3) hK rfl rfl (by decide) (by decide) rfl rfl rfl rfl ?_
    rw [show M 140 3 = n from T.1.1]
    refine w_le2 hK rfl (by omega) (by omega) (by omega) (by omega) (fun h5 => ?_) (fun h5 => ?_)
    · refine w_al hK rfl rfl ?_
      refine w_il hK rfl rfl ?_
      refine w_puti (n := 3) (m := 3) hK rfl rfl (by decide) (by decide) rfl rfl rfl rfl ?_
      refine w_ic hK rfl ?_
      refine w_zret hK rfl rfl (Or.inr rfl) ?_
      exact ⟨rfl, T.cut m0 m1 up_eq (up_row (by decide)), (fun a n140_ => (up_row n140_))⟩
    · exfalso; omega
set_option maxRecDepth 100000 in
theorem c_cutN {d : Nat} {M : Mem} {n : Int} {tx : Int → Int} (T : TXs M n tx) (m : Int) (r1 : -2147483648 ≤ m) (r2 : m ≤ 2147483647) (hm : m < 0 ∨ n < m) : Ct 198 (d) 111 [(1, 140), (0, m)] M (fun r M' => r = (0, 0) ∧ M' = M) := by
  have hK : cd 111 = k111 := rfl
  have tn_ := T.1.2
  show Wp 198 _ 111 0 [(1, 140), (0, m)] [] M _
  refine w_il hK rfl rfl ?_
  refine w_lt hK rfl (by omega) (by omega) (fun h1 => ?_) (fun h1 => ?_)
  · refine w_ic hK rfl ?_
    refine w_zret hK rfl rfl (Or.inl rfl) ?_
    exact ⟨rfl, rfl⟩
  · refine w_il hK rfl rfl ?_
    refine w_al hK rfl rfl ?_
    refine w_geti (n := 3) (m := 3) hK rfl rfl (by decide) (by decide) rfl rfl rfl rfl ?_
    rw [show M 140 3 = n from T.1.1]
    refine w_le2 hK rfl (by omega) (by omega) (by omega) (by omega) (fun h5 => ?_) (fun h5 => ?_)
    · exfalso; omega
    · refine w_ic hK rfl ?_
      refine w_zret hK rfl rfl (Or.inl rfl) ?_
      exact ⟨rfl, rfl⟩
set_option maxRecDepth 100000 in
theorem c_tclr {d : Nat} {M : Mem} {n : Int} {tx : Int → Int} (T : TXs M n tx) : Ct 198 (d) 116 [(1, 140)] M (fun r M' => r = (4, 0) ∧ TXs M' 0 (txC tx 0) ∧ (∀ a : Int, a ≠ 140 → M' a = M a)) := by
  have hK : cd 116 = k116 := rfl
  have tn_ := T.1.2
  show Wp 198 _ 116 0 [(1, 140)] [] M _
  refine w_al hK rfl rfl ?_
  refine w_ic hK rfl ?_
  refine w_puti (n := 3) (m := 3) hK rfl rfl (by decide) (by decide) rfl rfl rfl rfl ?_
  refine w_ret hK rfl rfl ?_
  exact ⟨rfl, T.cut (by omega) tn_.1 up_eq (up_row (by decide)), (fun a n140_ => (up_row n140_))⟩
