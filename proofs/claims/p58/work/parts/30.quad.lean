/-! contracts: quadratics without roots -/
theorem and63 (w : Int32) : 0 ≤ (w &&& i32 63).toInt ∧ (w &&& i32 63).toInt ≤ 63 := by
  have h : (w &&& i32 63).toBitVec = w.toBitVec &&& 63#32 := rfl
  have h2 : (w.toBitVec &&& 63#32).toNat ≤ 63 := by
    rw [BitVec.toNat_and]
    exact Nat.and_le_right
  show 0 ≤ (w &&& i32 63).toBitVec.toInt ∧ (w &&& i32 63).toBitVec.toInt ≤ 63
  rw [h, BitVec.toInt_eq_toNat_of_lt (by omega)]
  omega
theorem bcw_I (x : Int) : 0 ≤ bcw x ∧ bcw x ≤ 63 := by
  unfold bcw
  exact and63 _
/-- what the others come to at the numbers below n -/
def rch2 {k : Nat} (a1 : El k) : Nat → Int
  | 0 => 0
  | n + 1 => bset (rch2 a1 n) ((ad (chn (el k n) 2) (ml a1 (el k n))).val : Int)
def qwr (k : Nat) : Nat → Int
  | 0 => 0
  | n + 1 => qwr k n + ((qq k : Int) - bcw (rch2 (el k n) (qq k)))
theorem qwr_I (k : Nat) : ∀ n : Nat, -(63 * (n : Int)) ≤ qwr k n ∧ qwr k n ≤ 16 * n
  | 0 => ⟨by show -(63 * ((0 : Nat) : Int)) ≤ 0; decide, by show (0 : Int) ≤ 16 * ((0 : Nat) : Int); decide⟩
  | n + 1 => by
    have h := qwr_I k n
    have h2 := bcw_I (rch2 (el k n) (qq k))
    have h3 := qq_I k
    unfold qwr
    omega
set_option maxRecDepth 100000 in
theorem c_quad {d : Nat} {M : Mem} {k : Nat} {P : Int → Option (Pl k)} (C : CS M k P) : Ct 198 (d + 3) 73 [(1, 45)] M (fun r M' => r = (0, qwr k (qq k)) ∧ M' = M) := by
  have hK : cd 73 = k73 := rfl
  have q1_ := qq_I k
  show Wp 198 _ 73 0 [(1, 45), (3, 0), (3, 0), (3, 0), (3, 0), (3, 0)] [] M _
  refine w_ic hK rfl ?_
  refine w_is [(1, 45), (0, 0), (3, 0), (3, 0), (3, 0), (3, 0)] hK rfl rfl rfl ?_
  refine w_ic hK rfl ?_
  refine w_is [(1, 45), (0, 0), (0, 0), (3, 0), (3, 0), (3, 0)] hK rfl rfl rfl ?_
  have lp4 : ∀ (n_ : Nat) (i : Nat) (w3 w4 w5 : AV), 17 - i = n_ → (i ≤ qq k) → Wp 198 (d + 3) 73 4 [(1, 45), (0, qwr k i), (0, (i : Int)), w3, w4, w5] [] M (fun r M' => r = (0, qwr k (qq k)) ∧ M' = M) := by
    intro n_
    induction n_ using Nat.strongRecOn with
    | _ n_ ih4 =>
    intro i w3 w4 w5  hm4 hi
    have bq_ := qwr_I k i
    refine w_il hK rfl rfl ?_
    refine w_al hK rfl rfl ?_
    refine w_getr (n := 0) (v := 1) hK rfl rfl (by decide) (by decide) rfl rfl rfl rfl ?_
    refine w_geti (n := 1) (m := 1) hK rfl rfl (by decide) (by decide) rfl rfl rfl rfl ?_
    rw [show M 1 1 = (qq k : Int) from C.F.q]
    refine w_ge2 hK rfl (by omega) (by omega) (by omega) (by omega) (fun h8 => ?_) (fun h8 => ?_)
    · refine w_il hK rfl rfl ?_
      refine w_iret hK rfl rfl ?_
      have e : i = qq k := by omega
      subst e
      exact ⟨rfl, rfl⟩
    · refine w_ic hK rfl ?_
      refine w_is [(1, 45), (0, qwr k i), (0, (i : Int)), (0, 0), w4, w5] hK rfl rfl rfl ?_
      refine w_ic hK rfl ?_
      refine w_is [(1, 45), (0, qwr k i), (0, (i : Int)), (0, 0), (0, 0), w5] hK rfl rfl rfl ?_
      have lp13 : ∀ (n_ : Nat) (j : Nat) (w5 : AV), 17 - j = n_ → (j ≤ qq k) → Wp 198 (d + 3) 73 13 [(1, 45), (0, qwr k i), (0, (i : Int)), (0, rch2 (el k i) j), (0, (j : Int)), w5] [] M (fun r M' => r = (0, qwr k (qq k)) ∧ M' = M) := by
        intro n_
        induction n_ using Nat.strongRecOn with
        | _ n_ ih13 =>
        intro j w5  hm13 hj
        refine w_il hK rfl rfl ?_
        refine w_al hK rfl rfl ?_
        refine w_getr (n := 0) (v := 1) hK rfl rfl (by decide) (by decide) rfl rfl rfl rfl ?_
        refine w_geti (n := 1) (m := 1) hK rfl rfl (by decide) (by decide) rfl rfl rfl rfl ?_
        rw [show M 1 1 = (qq k : Int) from C.F.q]
        refine w_ge2 hK rfl (by omega) (by omega) (by omega) (by omega) (fun h17 => ?_) (fun h17 => ?_)
        · refine w_il hK rfl rfl ?_
          refine w_al hK rfl rfl ?_
          refine w_getr (n := 0) (v := 1) hK rfl rfl (by decide) (by decide) rfl rfl rfl rfl ?_
          refine w_geti (n := 1) (m := 1) hK rfl rfl (by decide) (by decide) rfl rfl rfl rfl ?_
          rw [show M 1 1 = (qq k : Int) from C.F.q]
          refine w_il hK rfl rfl ?_
          have ej_ : j = qq k := by omega
          subst ej_
          have bb_ := bcw_I (rch2 (el k i) (qq k))
          refine w_call [(0, rch2 (el k i) (qq k))] hK rfl rfl rfl rfl (Or.inl rfl) (c_bitc (rch2 (el k i) (qq k))) ?_
          rintro _ Mq ⟨rfl, e_⟩
          subst Mq
          refine ⟨by show (0 : Nat) ≠ 9; decide, (?_ : Wp 198 _ 73 46 [(1, 45), (0, qwr k i), (0, (i : Int)), (0, rch2 (el k i) (qq k)), (0, ((qq k : Nat) : Int)), w5] [(0, (bcw (rch2 (el k i) (qq k)))), (0, (qq k : Int)), (0, qwr k i)] M _)⟩
          refine w_sub hK rfl (by omega) (by omega) ?_
          refine w_add hK rfl (by omega) (by omega) ?_
          refine w_is [(1, 45), (0, (qwr k i + ((qq k : Int) - (bcw (rch2 (el k i) (qq k)))))), (0, (i : Int)), (0, rch2 (el k i) (qq k)), (0, ((qq k : Nat) : Int)), w5] hK rfl rfl rfl ?_
          refine w_inc [(1, 45), (0, (qwr k i + ((qq k : Int) - (bcw (rch2 (el k i) (qq k)))))), (0, ((i : Int) + 1)), (0, rch2 (el k i) (qq k)), (0, ((qq k : Nat) : Int)), w5] hK rfl rfl rfl (by omega) (by omega) rfl ?_
          refine w_goto hK rfl ?_
          exact ih4 _ (by omega) (i + 1) _ _ _  rfl (by omega)
        · refine w_al hK rfl rfl ?_
          refine w_getr (n := 0) (v := 1) hK rfl rfl (by decide) (by decide) rfl rfl rfl rfl ?_
          refine w_al hK rfl rfl ?_
          refine w_getr (n := 0) (v := 1) hK rfl rfl (by decide) (by decide) rfl rfl rfl rfl ?_
          refine w_il hK rfl rfl ?_
          refine w_ic hK rfl ?_
          refine w_call [(1, 1), (0, (j : Int)), (0, 2)] hK rfl rfl rfl rfl (Or.inr ⟨_, _, _, rfl, by decide, (by decide), rfl⟩) (Ct.cv (c_chain (by decide) C.F (el k j) 2 (by omega)) (by simp only [(elN (k := k) (n := j) (by omega))]; try rfl)) ?_
          rintro _ Mq ⟨rfl, e_⟩
          subst Mq
          have bv_ := el_I (chn (el k j) 2)
          refine ⟨by show (0 : Nat) ≠ 9; decide, (?_ : Wp 198 _ 73 25 [(1, 45), (0, qwr k i), (0, (i : Int)), (0, rch2 (el k i) j), (0, (j : Int)), w5] [(0, ((chn (el k j) 2).val : Int)), (1, 1)] M _)⟩
          refine w_al hK rfl rfl ?_
          refine w_getr (n := 0) (v := 1) hK rfl rfl (by decide) (by decide) rfl rfl rfl rfl ?_
          refine w_il hK rfl rfl ?_
          refine w_il hK rfl rfl ?_
          refine w_call [(1, 1), (0, (i : Int)), (0, (j : Int))] hK rfl rfl rfl rfl (Or.inr ⟨_, _, _, rfl, by decide, (by decide), rfl⟩) (Ct.cv (c_prod (by decide) C.F (el k i) (el k j) ) (by simp only [(elN (k := k) (n := i) (by omega)), (elN (k := k) (n := j) (by omega))]; try rfl)) ?_
          rintro _ Mq ⟨rfl, e_⟩
          subst Mq
          have bv_ := el_I (ml (el k i) (el k j))
          refine ⟨by show (0 : Nat) ≠ 9; decide, (?_ : Wp 198 _ 73 30 [(1, 45), (0, qwr k i), (0, (i : Int)), (0, rch2 (el k i) j), (0, (j : Int)), w5] [(0, ((ml (el k i) (el k j)).val : Int)), (0, ((chn (el k j) 2).val : Int)), (1, 1)] M _)⟩
          refine w_call [(1, 1), (0, ((chn (el k j) 2).val : Int)), (0, ((ml (el k i) (el k j)).val : Int))] hK rfl rfl rfl rfl (Or.inr ⟨_, _, _, rfl, by decide, (by decide), rfl⟩) (c_sum (by decide) C.F (chn (el k j) 2) (ml (el k i) (el k j)) ) ?_
          rintro _ Mq ⟨rfl, e_⟩
          subst Mq
          have bv_ := el_I (ad (chn (el k j) 2) (ml (el k i) (el k j)))
          refine ⟨by show (0 : Nat) ≠ 9; decide, (?_ : Wp 198 _ 73 31 [(1, 45), (0, qwr k i), (0, (i : Int)), (0, rch2 (el k i) j), (0, (j : Int)), w5] [(0, ((ad (chn (el k j) 2) (ml (el k i) (el k j))).val : Int))] M _)⟩
          refine w_is [(1, 45), (0, qwr k i), (0, (i : Int)), (0, rch2 (el k i) j), (0, (j : Int)), (0, ((ad (chn (el k j) 2) (ml (el k i) (el k j))).val : Int))] hK rfl rfl rfl ?_
          refine w_il hK rfl rfl ?_
          refine w_ic hK rfl ?_
          refine w_il hK rfl rfl ?_
          refine w_bin (w := i32 1 <<< (i32 ((ad (chn (el k j) 2) (ml (el k i) (el k j))).val : Int) &&& 31)) hK rfl rfl rfl ?_
          refine w_bin (w := i32 (rch2 (el k i) j) ||| i32 ((i32 1 <<< (i32 ((ad (chn (el k j) 2) (ml (el k i) (el k j))).val : Int) &&& 31)).toInt)) hK rfl rfl rfl ?_
          refine w_is [(1, 45), (0, qwr k i), (0, (i : Int)), (0, (i32 (rch2 (el k i) j) ||| i32 ((i32 1 <<< (i32 ((ad (chn (el k j) 2) (ml (el k i) (el k j))).val : Int) &&& 31)).toInt)).toInt), (0, (j : Int)), (0, ((ad (chn (el k j) 2) (ml (el k i) (el k j))).val : Int))] hK rfl rfl rfl ?_
          refine w_inc [(1, 45), (0, qwr k i), (0, (i : Int)), (0, (i32 (rch2 (el k i) j) ||| i32 ((i32 1 <<< (i32 ((ad (chn (el k j) 2) (ml (el k i) (el k j))).val : Int) &&& 31)).toInt)).toInt), (0, ((j : Int) + 1)), (0, ((ad (chn (el k j) 2) (ml (el k i) (el k j))).val : Int))] hK rfl rfl rfl (by omega) (by omega) rfl ?_
          refine w_goto hK rfl ?_
          exact ih13 _ (by omega) (j + 1) _  rfl (by omega)
      exact lp13 _ 0 _  rfl (by omega)
  exact lp4 _ 0 _ _ _  rfl (by omega)
