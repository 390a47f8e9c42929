/-! the field's tables, over the first seven cells alone (parts 52 to 54 once more) -/
set_option maxRecDepth 100000 in
theorem c_fput2_7 {d : Nat} {M : Mem} (i v : Int) (h0 : 0 ≤ i) (h1 : i < 256) : Ct 7 (d) 4 [(1, 2), (0, i), (0, v)] M (fun r M' => r = (4, 0) ∧ M' = up M 2 i v) := by
  have hK : cd 4 = k4 := rfl
  show Wp 7 _ 4 0 [(1, 2), (0, i), (0, v)] [] M _
  refine w_il hK rfl rfl ?_
  refine w_lt hK rfl (by omega) (by omega) (fun h1 => ?_) (fun h1 => ?_)
  · exfalso; omega
  · refine w_il hK rfl rfl ?_
    refine w_al hK rfl rfl ?_
    refine w_len hK rfl rfl (by decide) (by decide) rfl ?_
    refine w_ge2 hK rfl (by omega) (by omega) (by omega) (by omega) (fun h5 => ?_) (fun h5 => ?_)
    · exfalso; omega
    · refine w_al hK rfl rfl ?_
      refine w_il hK rfl rfl ?_
      refine w_il hK rfl rfl ?_
      refine w_iat hK rfl rfl (by decide) (by decide) (by omega) (by omega) ?_
      refine w_ret hK rfl rfl ?_
      exact ⟨rfl, rfl⟩
set_option maxRecDepth 100000 in
theorem c_fput3_7 {d : Nat} {M : Mem} (i v : Int) (h0 : 0 ≤ i) (h1 : i < 256) : Ct 7 (d) 4 [(1, 3), (0, i), (0, v)] M (fun r M' => r = (4, 0) ∧ M' = up M 3 i v) := by
  have hK : cd 4 = k4 := rfl
  show Wp 7 _ 4 0 [(1, 3), (0, i), (0, v)] [] M _
  refine w_il hK rfl rfl ?_
  refine w_lt hK rfl (by omega) (by omega) (fun h1 => ?_) (fun h1 => ?_)
  · exfalso; omega
  · refine w_il hK rfl rfl ?_
    refine w_al hK rfl rfl ?_
    refine w_len hK rfl rfl (by decide) (by decide) rfl ?_
    refine w_ge2 hK rfl (by omega) (by omega) (by omega) (by omega) (fun h5 => ?_) (fun h5 => ?_)
    · exfalso; omega
    · refine w_al hK rfl rfl ?_
      refine w_il hK rfl rfl ?_
      refine w_il hK rfl rfl ?_
      refine w_iat hK rfl rfl (by decide) (by decide) (by omega) (by omega) ?_
      refine w_ret hK rfl rfl ?_
      exact ⟨rfl, rfl⟩
set_option maxRecDepth 100000 in
theorem c_fput4_7 {d : Nat} {M : Mem} (i v : Int) (h0 : 0 ≤ i) (h1 : i < 64) : Ct 7 (d) 4 [(1, 4), (0, i), (0, v)] M (fun r M' => r = (4, 0) ∧ M' = up M 4 i v) := by
  have hK : cd 4 = k4 := rfl
  show Wp 7 _ 4 0 [(1, 4), (0, i), (0, v)] [] M _
  refine w_il hK rfl rfl ?_
  refine w_lt hK rfl (by omega) (by omega) (fun h1 => ?_) (fun h1 => ?_)
  · exfalso; omega
  · refine w_il hK rfl rfl ?_
    refine w_al hK rfl rfl ?_
    refine w_len hK rfl rfl (by decide) (by decide) rfl ?_
    refine w_ge2 hK rfl (by omega) (by omega) (by omega) (by omega) (fun h5 => ?_) (fun h5 => ?_)
    · exfalso; omega
    · refine w_al hK rfl rfl ?_
      refine w_il hK rfl rfl ?_
      refine w_il hK rfl rfl ?_
      refine w_iat hK rfl rfl (by decide) (by decide) (by omega) (by omega) ?_
      refine w_ret hK rfl rfl ?_
      exact ⟨rfl, rfl⟩
set_option maxRecDepth 100000 in
theorem c_fput5_7 {d : Nat} {M : Mem} (i v : Int) (h0 : 0 ≤ i) (h1 : i < 16) : Ct 7 (d) 4 [(1, 5), (0, i), (0, v)] M (fun r M' => r = (4, 0) ∧ M' = up M 5 i v) := by
  have hK : cd 4 = k4 := rfl
  show Wp 7 _ 4 0 [(1, 5), (0, i), (0, v)] [] M _
  refine w_il hK rfl rfl ?_
  refine w_lt hK rfl (by omega) (by omega) (fun h1 => ?_) (fun h1 => ?_)
  · exfalso; omega
  · refine w_il hK rfl rfl ?_
    refine w_al hK rfl rfl ?_
    refine w_len hK rfl rfl (by decide) (by decide) rfl ?_
    refine w_ge2 hK rfl (by omega) (by omega) (by omega) (by omega) (fun h5 => ?_) (fun h5 => ?_)
    · exfalso; omega
    · refine w_al hK rfl rfl ?_
      refine w_il hK rfl rfl ?_
      refine w_il hK rfl rfl ?_
      refine w_iat hK rfl rfl (by decide) (by decide) (by omega) (by omega) ?_
      refine w_ret hK rfl rfl ?_
      exact ⟨rfl, rfl⟩
set_option maxRecDepth 100000 in
theorem c_fput6_7 {d : Nat} {M : Mem} (i v : Int) (h0 : 0 ≤ i) (h1 : i < 16) : Ct 7 (d) 4 [(1, 6), (0, i), (0, v)] M (fun r M' => r = (4, 0) ∧ M' = up M 6 i v) := by
  have hK : cd 4 = k4 := rfl
  show Wp 7 _ 4 0 [(1, 6), (0, i), (0, v)] [] M _
  refine w_il hK rfl rfl ?_
  refine w_lt hK rfl (by omega) (by omega) (fun h1 => ?_) (fun h1 => ?_)
  · exfalso; omega
  · refine w_il hK rfl rfl ?_
    refine w_al hK rfl rfl ?_
    refine w_len hK rfl rfl (by decide) (by decide) rfl ?_
    refine w_ge2 hK rfl (by omega) (by omega) (by omega) (by omega) (fun h5 => ?_) (fun h5 => ?_)
    · exfalso; omega
    · refine w_al hK rfl rfl ?_
      refine w_il hK rfl rfl ?_
      refine w_il hK rfl rfl ?_
      refine w_iat hK rfl rfl (by decide) (by decide) (by omega) (by omega) ?_
      refine w_ret hK rfl rfl ?_
      exact ⟨rfl, rfl⟩
set_option maxRecDepth 100000 in
theorem c_sumR_7 {d : Nat} {M : Mem} (x y : Int) (x0 : 0 ≤ x) (x1 : x < 16) (y0 : 0 ≤ y) (y1 : y < 16) : Ct 7 (d) 5 [(1, 1), (0, x), (0, y)] M (fun r M' => r = (0, M 2 (x * 16 + y)) ∧ M' = M) := by
  have hK : cd 5 = k5 := rfl
  show Wp 7 _ 5 0 [(1, 1), (0, x), (0, y), (3, 0)] [] M _
  refine w_il hK rfl rfl ?_
  refine w_ic hK rfl ?_
  refine w_mul hK rfl (by omega) (by omega) ?_
  refine w_il hK rfl rfl ?_
  refine w_add hK rfl (by omega) (by omega) ?_
  refine w_is [(1, 1), (0, x), (0, y), (0, ((x * 16) + y))] hK rfl rfl rfl ?_
  refine w_il hK rfl rfl ?_
  refine w_lt hK rfl (by omega) (by omega) (fun h7 => ?_) (fun h7 => ?_)
  · exfalso; omega
  · refine w_il hK rfl rfl ?_
    refine w_al hK rfl rfl ?_
    refine w_getr (n := 4) (v := 2) hK rfl rfl (by decide) (by decide) rfl rfl rfl rfl ?_
    refine w_len hK rfl rfl (by decide) (by decide) rfl ?_
    refine w_ge2 hK rfl (by omega) (by omega) (by omega) (by omega) (fun h12 => ?_) (fun h12 => ?_)
    · exfalso; omega
    · refine w_al hK rfl rfl ?_
      refine w_getr (n := 4) (v := 2) hK rfl rfl (by decide) (by decide) rfl rfl rfl rfl ?_
      refine w_il hK rfl rfl ?_
      refine w_ia hK rfl rfl (by decide) (by decide) (by omega) (by omega) ?_
      refine w_goto hK rfl ?_
      refine w_iret hK rfl rfl ?_
      exact ⟨rfl, rfl⟩
set_option maxRecDepth 100000 in
theorem c_prodR_7 {d : Nat} {M : Mem} (x y : Int) (x0 : 0 ≤ x) (x1 : x < 16) (y0 : 0 ≤ y) (y1 : y < 16) : Ct 7 (d) 7 [(1, 1), (0, x), (0, y)] M (fun r M' => r = (0, M 3 (x * 16 + y)) ∧ M' = M) := by
  have hK : cd 7 = k7 := rfl
  show Wp 7 _ 7 0 [(1, 1), (0, x), (0, y), (3, 0)] [] M _
  refine w_il hK rfl rfl ?_
  refine w_ic hK rfl ?_
  refine w_mul hK rfl (by omega) (by omega) ?_
  refine w_il hK rfl rfl ?_
  refine w_add hK rfl (by omega) (by omega) ?_
  refine w_is [(1, 1), (0, x), (0, y), (0, ((x * 16) + y))] hK rfl rfl rfl ?_
  refine w_il hK rfl rfl ?_
  refine w_lt hK rfl (by omega) (by omega) (fun h7 => ?_) (fun h7 => ?_)
  · exfalso; omega
  · refine w_il hK rfl rfl ?_
    refine w_al hK rfl rfl ?_
    refine w_getr (n := 5) (v := 3) hK rfl rfl (by decide) (by decide) rfl rfl rfl rfl ?_
    refine w_len hK rfl rfl (by decide) (by decide) rfl ?_
    refine w_ge2 hK rfl (by omega) (by omega) (by omega) (by omega) (fun h12 => ?_) (fun h12 => ?_)
    · exfalso; omega
    · refine w_al hK rfl rfl ?_
      refine w_getr (n := 5) (v := 3) hK rfl rfl (by decide) (by decide) rfl rfl rfl rfl ?_
      refine w_il hK rfl rfl ?_
      refine w_ia hK rfl rfl (by decide) (by decide) (by omega) (by omega) ?_
      refine w_goto hK rfl ?_
      refine w_iret hK rfl rfl ?_
      exact ⟨rfl, rfl⟩
set_option maxRecDepth 100000 in
theorem c_unitR_7 {d : Nat} {M : Mem} {k : Nat} (K : FK M k) (j : Nat) (hj : j ≤ mm k) : Ct 7 (d) 9 [(1, 1), (0, (j : Int))] M (fun r M' => r = (0, (unt k j : Int)) ∧ M' = M) := by
  have hK : cd 9 = k9 := rfl
  have q1_ := qq_I k
  have p1_ := pp_I k
  have m1_ := mm_I k
  show Wp 7 _ 9 0 [(1, 1), (0, (j : Int)), (3, 0), (3, 0)] [] M _
  refine w_ic hK rfl ?_
  refine w_is [(1, 1), (0, (j : Int)), (0, 1), (3, 0)] hK rfl rfl rfl ?_
  refine w_ic hK rfl ?_
  refine w_is [(1, 1), (0, (j : Int)), (0, 1), (0, 0)] hK rfl rfl rfl ?_
  have lp4 : ∀ (n_ : Nat) (i : Nat), 5 - i = n_ → (i ≤ j) → Wp 7 (d) 9 4 [(1, 1), (0, (j : Int)), (0, (unt k i : Int)), (0, (i : Int))] [] M (fun r M' => r = (0, (unt k j : Int)) ∧ M' = M) := by
    intro n_
    induction n_ using Nat.strongRecOn with
    | _ n_ ih4 =>
    intro i  hm4 hi
    have ul_ := unt_le (k := k) (s := i) (by omega)
    have um_ := unt_mul k i
    have un_ : i < j → (unt k (i + 1) : Int) ≤ 16 := fun h => by have := unt_le (k := k) (s := i + 1) (by omega); omega
    refine w_il hK rfl rfl ?_
    refine w_il hK rfl rfl ?_
    refine w_ge2 hK rfl (by omega) (by omega) (by omega) (by omega) (fun h6 => ?_) (fun h6 => ?_)
    · refine w_il hK rfl rfl ?_
      refine w_iret hK rfl rfl ?_
      have ei_ : i = j := by omega
      subst i
      exact ⟨rfl, rfl⟩
    · have un2_ := un_ (by omega)
      refine w_il hK rfl rfl ?_
      refine w_al hK rfl rfl ?_
      refine w_geti (n := 3) (m := 3) hK rfl rfl (by decide) (by decide) rfl rfl rfl rfl ?_
      rw [show M 1 3 = (mm k : Int) from K.2.2.2]
      refine w_ge2 hK rfl (by omega) (by omega) (by omega) (by omega) (fun h10 => ?_) (fun h10 => ?_)
      · exfalso; omega
      · refine w_il hK rfl rfl ?_
        refine w_al hK rfl rfl ?_
        refine w_geti (n := 2) (m := 2) hK rfl rfl (by decide) (by decide) rfl rfl rfl rfl ?_
        rw [show M 1 2 = (pp k : Int) from K.2.2.1]
        refine w_mul hK rfl (by omega) (by omega) ?_
        refine w_is [(1, 1), (0, (j : Int)), (0, ((unt k i : Int) * (pp k : Int))), (0, (i : Int))] hK rfl rfl rfl ?_
        refine w_inc [(1, 1), (0, (j : Int)), (0, ((unt k i : Int) * (pp k : Int))), (0, ((i : Int) + 1))] hK rfl rfl rfl (by omega) (by omega) rfl ?_
        refine w_goto hK rfl ?_
        have q4 := ih4 _ (by omega) (i + 1)  rfl (by omega)
        rw [← unt_mul k i] at q4
        exact q4
  have q4 := lp4 _ 0  rfl (by omega)
  rw [show (unt k 0 : Int) = 1 from by unfold unt; rw [Nat.pow_zero]; rfl] at q4
  exact q4
set_option maxRecDepth 100000 in
theorem c_fsum_7 {d : Nat} {M : Mem} {k : Nat} (K : FK M k) : Ct 7 (d + 1) 3 [(1, 1)] M (fun r M' => r = (4, 0) ∧ (∀ a b : El k, M' 2 ((a.val : Int) * 16 + (b.val : Int)) = ((ad a b).val : Int)) ∧ (∀ a : Int, a ≠ 2 → M' a = M a)) := by
  have hK : cd 3 = k3 := rfl
  have q1_ := qq_I k
  have p1_ := pp_I k
  have m1_ := mm_I k
  show Wp 7 _ 3 0 [(1, 1), (3, 0), (3, 0), (3, 0), (3, 0)] [] M _
  refine w_al hK rfl rfl ?_
  refine w_getr (n := 4) (v := 2) hK rfl rfl (by decide) (by decide) rfl rfl rfl rfl ?_
  refine w_ic hK rfl ?_
  refine w_ic hK rfl ?_
  refine w_call [(1, 2), (0, 0), (0, 0)] hK rfl rfl rfl rfl (Or.inl rfl) (c_fput2_7 0 0 (by omega) (by omega)) ?_
  rintro _ V101 ⟨rfl, u101⟩
  refine ⟨by decide, (?_ : Wp 7 _ 3 5 [(1, 1), (3, 0), (3, 0), (3, 0), (3, 0)] [] V101 _)⟩
  refine w_ic hK rfl ?_
  refine w_is [(1, 1), (0, 0), (3, 0), (3, 0), (3, 0)] hK rfl rfl rfl ?_
  have lp7 : ∀ (n_ : Nat) (a : Nat) (S1 : Int → Int) (w2 w3 w4 : AV) (N7 : Mem), 17 - a = n_ → (a ≤ qq k) → (N7 2 = S1) → (Tab (k := k) ad S1 a 0) → ((∀ a : Int, a ≠ 2 → N7 a = M a)) → Wp 7 (d + 1) 3 7 [(1, 1), (0, (a : Int)), w2, w3, w4] [] N7 (fun r M' => r = (4, 0) ∧ (∀ a b : El k, M' 2 ((a.val : Int) * 16 + (b.val : Int)) = ((ad a b).val : Int)) ∧ (∀ a : Int, a ≠ 2 → M' a = M a)) := by
    intro n_
    induction n_ using Nat.strongRecOn with
    | _ n_ ih7 =>
    intro a S1 w2 w3 w4 N7 hm7 ha hS hT hF
    refine w_il hK rfl rfl ?_
    refine w_al hK rfl rfl ?_
    refine w_geti (n := 1) (m := 1) hK rfl rfl (by decide) (by decide) rfl rfl rfl rfl ?_
    rw [show N7 1 1 = (qq k : Int) from ((congrFun (hF 1 (by decide)) 1).trans K.2.1)]
    refine w_ge2 hK rfl (by omega) (by omega) (by omega) (by omega) (fun h10 => ?_) (fun h10 => ?_)
    · refine w_ret hK rfl rfl ?_
      have ea_ : a = qq k := by omega
      rw [ea_] at hT
      exact ⟨rfl, fun a b => by rw [hS]; exact hT.all a b, hF⟩
    · refine w_al hK rfl rfl ?_
      refine w_geti (n := 2) (m := 2) hK rfl rfl (by decide) (by decide) rfl rfl rfl rfl ?_
      rw [show N7 1 2 = (pp k : Int) from ((congrFun (hF 1 (by decide)) 2).trans K.2.2.1)]
      refine w_le hK rfl (by omega) (by omega) (fun h13 => ?_) (fun h13 => ?_)
      · exfalso; omega
      · refine w_ic hK rfl ?_
        refine w_is [(1, 1), (0, (a : Int)), (0, 0), w3, w4] hK rfl rfl rfl ?_
        have lp16 : ∀ (n_ : Nat) (b : Nat) (S1 : Int → Int) (w3 w4 : AV) (N16 : Mem), 17 - b = n_ → (b ≤ qq k) → (N16 2 = S1) → (Tab (k := k) ad S1 a b) → ((∀ a : Int, a ≠ 2 → N16 a = M a)) → Wp 7 (d + 1) 3 16 [(1, 1), (0, (a : Int)), (0, (b : Int)), w3, w4] [] N16 (fun r M' => r = (4, 0) ∧ (∀ a b : El k, M' 2 ((a.val : Int) * 16 + (b.val : Int)) = ((ad a b).val : Int)) ∧ (∀ a : Int, a ≠ 2 → M' a = M a)) := by
          intro n_
          induction n_ using Nat.strongRecOn with
          | _ n_ ih16 =>
          intro b S1 w3 w4 N16 hm16 hb hS hT hF
          have an_ : (0 : Int) ≤ (a : Int) % (pp k : Int) ∧ (a : Int) % (pp k : Int) < (pp k : Int) := ⟨Int.emod_nonneg _ (by omega), Int.emod_lt_of_pos _ (by omega)⟩
          have bn_ : (0 : Int) ≤ (b : Int) % (pp k : Int) ∧ (b : Int) % (pp k : Int) < (pp k : Int) := ⟨Int.emod_nonneg _ (by omega), Int.emod_lt_of_pos _ (by omega)⟩
          have cn_ : (0 : Int) ≤ (((a : Int) % (pp k : Int) + (b : Int) % (pp k : Int)) % (pp k : Int)) ∧ (((a : Int) % (pp k : Int) + (b : Int) % (pp k : Int)) % (pp k : Int)) < (pp k : Int) := ⟨Int.emod_nonneg _ (by omega), Int.emod_lt_of_pos _ (by omega)⟩
          have ap_ := Nat.div_le_self a (pp k)
          have bp_ := Nat.div_le_self b (pp k)
          refine w_il hK rfl rfl ?_
          refine w_al hK rfl rfl ?_
          refine w_geti (n := 1) (m := 1) hK rfl rfl (by decide) (by decide) rfl rfl rfl rfl ?_
          rw [show N16 1 1 = (qq k : Int) from ((congrFun (hF 1 (by decide)) 1).trans K.2.1)]
          refine w_ge2 hK rfl (by omega) (by omega) (by omega) (by omega) (fun h19 => ?_) (fun h19 => ?_)
          · refine w_inc [(1, 1), (0, ((a : Int) + 1)), (0, (b : Int)), w3, w4] hK rfl rfl rfl (by omega) (by omega) rfl ?_
            refine w_goto hK rfl ?_
            have eb_ : b = qq k := by omega
            rw [eb_] at hT
            exact ih7 _ (by omega) (a + 1) _ (0, (b : Int)) w3 w4 N16 rfl (by omega) hS hT.row hF
          · refine w_il hK rfl rfl ?_
            refine w_al hK rfl rfl ?_
            refine w_geti (n := 2) (m := 2) hK rfl rfl (by decide) (by decide) rfl rfl rfl rfl ?_
            rw [show N16 1 2 = (pp k : Int) from ((congrFun (hF 1 (by decide)) 2).trans K.2.2.1)]
            refine w_rem hK rfl (by omega) (by omega) (by omega) (by omega) ?_
            refine w_il hK rfl rfl ?_
            refine w_al hK rfl rfl ?_
            refine w_geti (n := 2) (m := 2) hK rfl rfl (by decide) (by decide) rfl rfl rfl rfl ?_
            rw [show N16 1 2 = (pp k : Int) from ((congrFun (hF 1 (by decide)) 2).trans K.2.2.1)]
            refine w_rem hK rfl (by omega) (by omega) (by omega) (by omega) ?_
            refine w_add hK rfl (by omega) (by omega) ?_
            refine w_al hK rfl rfl ?_
            refine w_geti (n := 2) (m := 2) hK rfl rfl (by decide) (by decide) rfl rfl rfl rfl ?_
            rw [show N16 1 2 = (pp k : Int) from ((congrFun (hF 1 (by decide)) 2).trans K.2.2.1)]
            refine w_rem hK rfl (by omega) (by omega) (by omega) (by omega) ?_
            refine w_is [(1, 1), (0, (a : Int)), (0, (b : Int)), (0, ((((a : Int) % (pp k : Int)) + ((b : Int) % (pp k : Int))) % (pp k : Int))), w4] hK rfl rfl rfl ?_
            refine w_il hK rfl rfl ?_
            refine w_il hK rfl rfl ?_
            refine w_add hK rfl (by omega) (by omega) ?_
            refine w_ne hK rfl (by omega) (by omega) (fun h36 => ?_) (fun h36 => ?_)
            · refine w_al hK rfl rfl ?_
              refine w_il hK rfl rfl ?_
              refine w_al hK rfl rfl ?_
              refine w_geti (n := 2) (m := 2) hK rfl rfl (by decide) (by decide) rfl rfl rfl rfl ?_
              rw [show N16 1 2 = (pp k : Int) from ((congrFun (hF 1 (by decide)) 2).trans K.2.2.1)]
              have adl_ : a ≠ 0 → a / pp k < a := fun h => Nat.div_lt_self (by omega) (pp_ge k)
              have bdl_ : b ≠ 0 → b / pp k < b := fun h => Nat.div_lt_self (by omega) (pp_ge k)
              have ani_ : (0 : Int) ≤ (a : Int) / (pp k : Int) ∧ (a : Int) / (pp k : Int) ≤ (a : Int) := ⟨Int.ediv_nonneg (by omega) (by omega), Int.ediv_le_self _ (by omega)⟩
              have bni_ : (0 : Int) ≤ (b : Int) / (pp k : Int) ∧ (b : Int) / (pp k : Int) ≤ (b : Int) := ⟨Int.ediv_nonneg (by omega) (by omega), Int.ediv_le_self _ (by omega)⟩
              refine w_div hK rfl (by omega) (by omega) (by omega) (by omega) ?_
              refine w_il hK rfl rfl ?_
              refine w_al hK rfl rfl ?_
              refine w_geti (n := 2) (m := 2) hK rfl rfl (by decide) (by decide) rfl rfl rfl rfl ?_
              rw [show N16 1 2 = (pp k : Int) from ((congrFun (hF 1 (by decide)) 2).trans K.2.2.1)]
              refine w_div hK rfl (by omega) (by omega) (by omega) (by omega) ?_
              refine w_call [(1, 1), (0, ((a : Int) / (pp k : Int))), (0, ((b : Int) / (pp k : Int)))] hK rfl rfl rfl rfl (Or.inr ⟨_, _, _, rfl, by decide, (by decide), rfl⟩) (c_sumR_7 ((a : Int) / (pp k : Int)) ((b : Int) / (pp k : Int)) (by omega) (by omega) (by omega) (by omega)) ?_
              rintro _ Mq ⟨rfl, e_⟩
              subst Mq
              rw [divI, divI, show N16 2 (((a / pp k : Nat) : Int) * 16 + ((b / pp k : Nat) : Int)) = ((ad (el k (a / pp k)) (el k (b / pp k))).val : Int) from (congrFun hS _).trans (by
                have h_ := hT (el k (a / pp k)) (el k (b / pp k)) (by rw [show (el k (a / pp k)).val = a / pp k from Nat.mod_eq_of_lt (by omega), show (el k (b / pp k)).val = b / pp k from Nat.mod_eq_of_lt (by omega)]; omega)
                rw [elN (by omega), elN (by omega)] at h_
                exact h_)]
              have oI_ := el_I (ad (el k (a / pp k)) (el k (b / pp k)))
              refine ⟨(by show (0 : Nat) ≠ 9; decide), (?_ : Wp 7 _ 3 49 [(1, 1), (0, (a : Int)), (0, (b : Int)), (0, ((((a : Int) % (pp k : Int)) + ((b : Int) % (pp k : Int))) % (pp k : Int))), w4] [(0, ((ad (el k (a / pp k)) (el k (b / pp k))).val : Int))] N16 _)⟩
              have mb_ := mul_sm2 (el_I (ad (el k (a / pp k)) (el k (b / pp k)))).1 (el_I (ad (el k (a / pp k)) (el k (b / pp k)))).2 (show (0 : Int) ≤ (pp k : Int) by omega) (show (pp k : Int) ≤ 16 by omega)
              have val_ : (((a : Int) % (pp k : Int) + (b : Int) % (pp k : Int)) % (pp k : Int)) + ((ad (el k (a / pp k)) (el k (b / pp k))).val : Int) * (pp k : Int) = ((ad (el k a) (el k b)).val : Int) := by
                rw [sum_rec0 (el k a) (el k b), show (el k a).val = a from Nat.mod_eq_of_lt (by omega), show (el k b).val = b from Nat.mod_eq_of_lt (by omega)]
                simp
              refine w_is [(1, 1), (0, (a : Int)), (0, (b : Int)), (0, ((((a : Int) % (pp k : Int)) + ((b : Int) % (pp k : Int))) % (pp k : Int))), (0, ((ad (el k (a / pp k)) (el k (b / pp k))).val : Int))] hK rfl rfl rfl ?_
              refine w_al hK rfl rfl ?_
              refine w_getr (n := 4) (v := 2) hK rfl rfl (by decide) (by decide) rfl rfl rfl rfl ?_
              refine w_il hK rfl rfl ?_
              refine w_ic hK rfl ?_
              refine w_mul hK rfl (by omega) (by omega) ?_
              refine w_il hK rfl rfl ?_
              refine w_add hK rfl (by omega) (by omega) ?_
              refine w_il hK rfl rfl ?_
              refine w_il hK rfl rfl ?_
              refine w_al hK rfl rfl ?_
              refine w_geti (n := 2) (m := 2) hK rfl rfl (by decide) (by decide) rfl rfl rfl rfl ?_
              rw [show N16 1 2 = (pp k : Int) from ((congrFun (hF 1 (by decide)) 2).trans K.2.2.1)]
              refine w_mul hK rfl (by omega) (by omega) ?_
              refine w_add hK rfl (by omega) (by omega) ?_
              refine w_call [(1, 2), (0, (((a : Int) * 16) + (b : Int))), (0, (((((a : Int) % (pp k : Int)) + ((b : Int) % (pp k : Int))) % (pp k : Int)) + (((ad (el k (a / pp k)) (el k (b / pp k))).val : Int) * (pp k : Int))))] hK rfl rfl rfl rfl (Or.inl rfl) (c_fput2_7 (((a : Int) * 16) + (b : Int)) (((((a : Int) % (pp k : Int)) + ((b : Int) % (pp k : Int))) % (pp k : Int)) + (((ad (el k (a / pp k)) (el k (b / pp k))).val : Int) * (pp k : Int))) (by omega) (by omega)) ?_
              rintro _ V102 ⟨rfl, u102⟩
              refine ⟨by decide, (?_ : Wp 7 _ 3 64 [(1, 1), (0, (a : Int)), (0, (b : Int)), (0, ((((a : Int) % (pp k : Int)) + ((b : Int) % (pp k : Int))) % (pp k : Int))), (0, ((ad (el k (a / pp k)) (el k (b / pp k))).val : Int))] [] V102 _)⟩
              refine w_inc [(1, 1), (0, (a : Int)), (0, ((b : Int) + 1)), (0, ((((a : Int) % (pp k : Int)) + ((b : Int) % (pp k : Int))) % (pp k : Int))), (0, ((ad (el k (a / pp k)) (el k (b / pp k))).val : Int))] hK rfl rfl rfl (by omega) (by omega) rfl ?_
              refine w_goto hK rfl ?_
              exact ih16 _ (by omega) (b + 1) _ (0, ((((a : Int) % (pp k : Int)) + ((b : Int) % (pp k : Int))) % (pp k : Int))) (0, ((ad (el k (a / pp k)) (el k (b / pp k))).val : Int)) V102 rfl (by omega) ((congrFun u102 2).trans (up_upr hS)) (hT.step (by omega) (by omega) val_) (fun a n2_ => (((fun a (na_ : a ≠ 2) => (congrFun u102 a).trans (up_row na_)) a n2_).trans (hF a n2_)))
            · refine w_ic hK rfl ?_
              refine w_goto hK rfl ?_
              have a0_ : a = 0 := by omega
              have b0_ : b = 0 := by omega
              have val_ : (((a : Int) % (pp k : Int) + (b : Int) % (pp k : Int)) % (pp k : Int)) + 0 * (pp k : Int) = ((ad (el k a) (el k b)).val : Int) := by
                rw [a0_, b0_, show ad (el k 0) (el k 0) = (z0 : El k) from ad_zero _, z0_val]
                simp
              refine w_is [(1, 1), (0, (a : Int)), (0, (b : Int)), (0, ((((a : Int) % (pp k : Int)) + ((b : Int) % (pp k : Int))) % (pp k : Int))), (0, 0)] hK rfl rfl rfl ?_
              refine w_al hK rfl rfl ?_
              refine w_getr (n := 4) (v := 2) hK rfl rfl (by decide) (by decide) rfl rfl rfl rfl ?_
              refine w_il hK rfl rfl ?_
              refine w_ic hK rfl ?_
              refine w_mul hK rfl (by omega) (by omega) ?_
              refine w_il hK rfl rfl ?_
              refine w_add hK rfl (by omega) (by omega) ?_
              refine w_il hK rfl rfl ?_
              refine w_il hK rfl rfl ?_
              refine w_al hK rfl rfl ?_
              refine w_geti (n := 2) (m := 2) hK rfl rfl (by decide) (by decide) rfl rfl rfl rfl ?_
              rw [show N16 1 2 = (pp k : Int) from ((congrFun (hF 1 (by decide)) 2).trans K.2.2.1)]
              refine w_mul hK rfl (by omega) (by omega) ?_
              refine w_add hK rfl (by omega) (by omega) ?_
              refine w_call [(1, 2), (0, (((a : Int) * 16) + (b : Int))), (0, (((((a : Int) % (pp k : Int)) + ((b : Int) % (pp k : Int))) % (pp k : Int)) + (0 * (pp k : Int))))] hK rfl rfl rfl rfl (Or.inl rfl) (c_fput2_7 (((a : Int) * 16) + (b : Int)) (((((a : Int) % (pp k : Int)) + ((b : Int) % (pp k : Int))) % (pp k : Int)) + (0 * (pp k : Int))) (by omega) (by omega)) ?_
              rintro _ V103 ⟨rfl, u103⟩
              refine ⟨by decide, (?_ : Wp 7 _ 3 64 [(1, 1), (0, (a : Int)), (0, (b : Int)), (0, ((((a : Int) % (pp k : Int)) + ((b : Int) % (pp k : Int))) % (pp k : Int))), (0, 0)] [] V103 _)⟩
              refine w_inc [(1, 1), (0, (a : Int)), (0, ((b : Int) + 1)), (0, ((((a : Int) % (pp k : Int)) + ((b : Int) % (pp k : Int))) % (pp k : Int))), (0, 0)] hK rfl rfl rfl (by omega) (by omega) rfl ?_
              refine w_goto hK rfl ?_
              exact ih16 _ (by omega) (b + 1) _ (0, ((((a : Int) % (pp k : Int)) + ((b : Int) % (pp k : Int))) % (pp k : Int))) (0, 0) V103 rfl (by omega) ((congrFun u103 2).trans (up_upr hS)) (hT.step (by omega) (by omega) val_) (fun a n2_ => (((fun a (na_ : a ≠ 2) => (congrFun u103 a).trans (up_row na_)) a n2_).trans (hF a n2_)))
        exact lp16 _ 0 _ w3 w4 N7 rfl (by omega) hS hT hF
  exact lp7 _ 0 _ (3, 0) (3, 0) (3, 0) V101 rfl (by omega) ((congrFun u101 2).trans (up_upr rfl)) (fun a b h => by omega) (fun a n2_ => ((fun a (na_ : a ≠ 2) => (congrFun u101 a).trans (up_row na_)) a n2_))
set_option maxRecDepth 100000 in
theorem c_tw_7 {d : Nat} {M : Mem} {k : Nat} (K : FK M k) (hsum : ∀ a b : El k, M 2 ((a.val : Int) * 16 + (b.val : Int)) = ((ad a b).val : Int)) (x : El k) : Ct 7 (d + 1) 8 [(1, 1), (0, (x.val : Int))] M (fun r M' => r = (0, ((tw x).val : Int)) ∧ M' = M) := by
  have hK : cd 8 = k8 := rfl
  have q1_ := qq_I k
  have p1_ := pp_I k
  have m1_ := mm_I k
  have K2 := K
  have xI_ := el_I x
  have ok_ := tw_ok0 x
  show Wp 7 _ 8 0 [(1, 1), (0, (x.val : Int)), (3, 0), (3, 0)] [] M _
  refine w_al hK rfl rfl ?_
  refine w_al hK rfl rfl ?_
  refine w_geti (n := 3) (m := 3) hK rfl rfl (by decide) (by decide) rfl rfl rfl rfl ?_
  rw [show M 1 3 = (mm k : Int) from K.2.2.2]
  refine w_ic hK rfl ?_
  refine w_sub hK rfl (by omega) (by omega) ?_
  refine w_call [(1, 1), (0, ((mm k : Int) - 1))] hK rfl rfl rfl rfl (Or.inr ⟨_, _, _, rfl, by decide, (by decide), rfl⟩) (Ct.cv (c_unitR_7 K2 (mm k - 1) (by omega)) (by rw [show ((mm k - 1 : Nat) : Int) = (mm k : Int) - 1 by omega])) ?_
  rintro _ Mq ⟨rfl, e_⟩
  subst Mq
  have ul_ := unt_le (k := k) (s := mm k - 1) (by omega)
  refine ⟨(by show (0 : Nat) ≠ 9; decide), (?_ : Wp 7 _ 8 6 [(1, 1), (0, (x.val : Int)), (3, 0), (3, 0)] [(0, (unt k (mm k - 1) : Int))] M _)⟩
  refine w_is [(1, 1), (0, (x.val : Int)), (0, (unt k (mm k - 1) : Int)), (3, 0)] hK rfl rfl rfl ?_
  refine w_il hK rfl rfl ?_
  refine w_ic hK rfl ?_
  refine w_ge2 hK rfl (by omega) (by omega) (by omega) (by omega) (fun h9 => ?_) (fun h9 => ?_)
  · refine w_il hK rfl rfl ?_
    refine w_il hK rfl rfl ?_
    refine w_div hK rfl (by omega) (by omega) (by omega) (by omega) ?_
    rw [divI]
    have dn_ : (0 : Int) ≤ ((x.val / unt k (mm k - 1) : Nat) : Int) := Int.natCast_nonneg _
    have ds_ := Nat.div_le_self x.val (unt k (mm k - 1))
    refine w_is [(1, 1), (0, (x.val : Int)), (0, (unt k (mm k - 1) : Int)), (0, ((x.val / unt k (mm k - 1) : Nat) : Int))] hK rfl rfl rfl ?_
    refine w_al hK rfl rfl ?_
    refine w_il hK rfl rfl ?_
    refine w_il hK rfl rfl ?_
    refine w_rem hK rfl (by omega) (by omega) (by omega) (by omega) ?_
    rw [modI]
    have mI_ : ((x.val % unt k (mm k - 1) * pp k : Nat) : Int) = ((x.val % unt k (mm k - 1) : Nat) : Int) * (pp k : Int) := Int.natCast_mul ..
    refine w_al hK rfl rfl ?_
    refine w_geti (n := 2) (m := 2) hK rfl rfl (by decide) (by decide) rfl rfl rfl rfl ?_
    rw [show M 1 2 = (pp k : Int) from K.2.2.1]
    refine w_mul hK rfl (by omega) (by omega) ?_
    rw [← mI_]
    have tI_ : ((x.val / unt k (mm k - 1) * pp k : Nat) : Int) = ((x.val / unt k (mm k - 1) : Nat) : Int) * (pp k : Int) := Int.natCast_mul ..
    refine w_il hK rfl rfl ?_
    refine w_il hK rfl rfl ?_
    refine w_al hK rfl rfl ?_
    refine w_geti (n := 2) (m := 2) hK rfl rfl (by decide) (by decide) rfl rfl rfl rfl ?_
    rw [show M 1 2 = (pp k : Int) from K.2.2.1]
    refine w_mul hK rfl (by omega) (by omega) ?_
    refine w_add hK rfl (by omega) (by omega) ?_
    rw [show ((x.val / unt k (mm k - 1) : Nat) : Int) + ((x.val / unt k (mm k - 1) : Nat) : Int) * (pp k : Int) = ((x.val / unt k (mm k - 1) + x.val / unt k (mm k - 1) * pp k : Nat) : Int) by omega]
    have xl_ := el_I (el k (x.val % unt k (mm k - 1) * pp k : Nat))
    have yl_ := el_I (el k (x.val / unt k (mm k - 1) + x.val / unt k (mm k - 1) * pp k : Nat))
    refine w_call [(1, 1), (0, ((x.val % unt k (mm k - 1) * pp k : Nat) : Int)), (0, ((x.val / unt k (mm k - 1) + x.val / unt k (mm k - 1) * pp k : Nat) : Int))] hK rfl rfl rfl rfl (Or.inr ⟨_, _, _, rfl, by decide, (by decide), rfl⟩) (Ct.cv (c_sumR_7 ((el k (x.val % unt k (mm k - 1) * pp k : Nat)).val : Int) ((el k (x.val / unt k (mm k - 1) + x.val / unt k (mm k - 1) * pp k : Nat)).val : Int) (by omega) (by omega) (by omega) (by omega)) (by simp only [(elN (k := k) (n := (x.val % unt k (mm k - 1) * pp k : Nat)) (by omega)), (elN (k := k) (n := (x.val / unt k (mm k - 1) + x.val / unt k (mm k - 1) * pp k : Nat)) (by omega))]; try rfl)) ?_
    rintro _ Mq ⟨rfl, e_⟩
    subst Mq
    rw [show M 2 (((el k (x.val % unt k (mm k - 1) * pp k : Nat)).val : Int) * 16 + ((el k (x.val / unt k (mm k - 1) + x.val / unt k (mm k - 1) * pp k : Nat)).val : Int)) = ((ad (el k (x.val % unt k (mm k - 1) * pp k : Nat)) (el k (x.val / unt k (mm k - 1) + x.val / unt k (mm k - 1) * pp k : Nat))).val : Int) from (congrFun rfl _).trans (hsum (el k (x.val % unt k (mm k - 1) * pp k : Nat)) (el k (x.val / unt k (mm k - 1) + x.val / unt k (mm k - 1) * pp k : Nat)))]
    have sI_ := el_I (ad (el k (x.val % unt k (mm k - 1) * pp k : Nat)) (el k (x.val / unt k (mm k - 1) + x.val / unt k (mm k - 1) * pp k : Nat)))
    refine ⟨(by show (0 : Nat) ≠ 9; decide), (?_ : Wp 7 _ 8 30 [(1, 1), (0, (x.val : Int)), (0, (unt k (mm k - 1) : Int)), (0, ((x.val / unt k (mm k - 1) : Nat) : Int))] [(0, ((ad (el k (x.val % unt k (mm k - 1) * pp k : Nat)) (el k (x.val / unt k (mm k - 1) + x.val / unt k (mm k - 1) * pp k : Nat))).val : Int))] M _)⟩
    refine w_iret hK rfl rfl ?_
    exact ⟨rfl, rfl⟩
  · exfalso; omega
set_option maxRecDepth 100000 in
theorem c_fprod_7 {d : Nat} {M : Mem} {k : Nat} (K : FK M k) (hsum : ∀ a b : El k, M 2 ((a.val : Int) * 16 + (b.val : Int)) = ((ad a b).val : Int)) : Ct 7 (d + 2) 6 [(1, 1)] M (fun r M' => r = (4, 0) ∧ (∀ a b : El k, M' 3 ((a.val : Int) * 16 + (b.val : Int)) = ((ml a b).val : Int)) ∧ (∀ a : Int, a ≠ 3 → M' a = M a)) := by
  have hK : cd 6 = k6 := rfl
  have q1_ := qq_I k
  have p1_ := pp_I k
  have m1_ := mm_I k
  show Wp 7 _ 6 0 [(1, 1), (3, 0), (3, 0), (3, 0), (3, 0), (3, 0)] [] M _
  refine w_ic hK rfl ?_
  refine w_is [(1, 1), (0, 0), (3, 0), (3, 0), (3, 0), (3, 0)] hK rfl rfl rfl ?_
  have lp2 : ∀ (n_ : Nat) (a : Nat) (S1 : Int → Int) (w2 w3 w4 w5 : AV) (N2 : Mem), 17 - a = n_ → (a ≤ qq k) → (N2 3 = S1) → (Tab (k := k) ml S1 a 0) → ((∀ a : Int, a ≠ 3 → N2 a = M a)) → Wp 7 (d + 2) 6 2 [(1, 1), (0, (a : Int)), w2, w3, w4, w5] [] N2 (fun r M' => r = (4, 0) ∧ (∀ a b : El k, M' 3 ((a.val : Int) * 16 + (b.val : Int)) = ((ml a b).val : Int)) ∧ (∀ a : Int, a ≠ 3 → M' a = M a)) := by
    intro n_
    induction n_ using Nat.strongRecOn with
    | _ n_ ih2 =>
    intro a S1 w2 w3 w4 w5 N2 hm2 ha hS hT hF
    refine w_il hK rfl rfl ?_
    refine w_al hK rfl rfl ?_
    refine w_geti (n := 1) (m := 1) hK rfl rfl (by decide) (by decide) rfl rfl rfl rfl ?_
    rw [show N2 1 1 = (qq k : Int) from ((congrFun (hF 1 (by decide)) 1).trans K.2.1)]
    refine w_ge2 hK rfl (by omega) (by omega) (by omega) (by omega) (fun h5 => ?_) (fun h5 => ?_)
    · refine w_ret hK rfl rfl ?_
      have ea_ : a = qq k := by omega
      rw [ea_] at hT
      exact ⟨rfl, fun a b => by rw [hS]; exact hT.all a b, hF⟩
    · refine w_al hK rfl rfl ?_
      refine w_geti (n := 2) (m := 2) hK rfl rfl (by decide) (by decide) rfl rfl rfl rfl ?_
      rw [show N2 1 2 = (pp k : Int) from ((congrFun (hF 1 (by decide)) 2).trans K.2.2.1)]
      refine w_le hK rfl (by omega) (by omega) (fun h8 => ?_) (fun h8 => ?_)
      · exfalso; omega
      · refine w_ic hK rfl ?_
        refine w_is [(1, 1), (0, (a : Int)), (0, 0), w3, w4, w5] hK rfl rfl rfl ?_
        have lp11 : ∀ (n_ : Nat) (b : Nat) (S1 : Int → Int) (w3 w4 w5 : AV) (N11 : Mem), 17 - b = n_ → (b ≤ qq k) → (N11 3 = S1) → (Tab (k := k) ml S1 a b) → ((∀ a : Int, a ≠ 3 → N11 a = M a)) → Wp 7 (d + 2) 6 11 [(1, 1), (0, (a : Int)), (0, (b : Int)), w3, w4, w5] [] N11 (fun r M' => r = (4, 0) ∧ (∀ a b : El k, M' 3 ((a.val : Int) * 16 + (b.val : Int)) = ((ml a b).val : Int)) ∧ (∀ a : Int, a ≠ 3 → M' a = M a)) := by
          intro n_
          induction n_ using Nat.strongRecOn with
          | _ n_ ih11 =>
          intro b S1 w3 w4 w5 N11 hm11 hb hS hT hF
          have bp_ := Nat.div_le_self b (pp k)
          have bm_ := Nat.mod_lt b (show pp k > 0 by omega)
          have bdl_ : b ≠ 0 → b / pp k < b := fun h => Nat.div_lt_self (by omega) (pp_ge k)
          have bni_ : (0 : Int) ≤ (b : Int) / (pp k : Int) ∧ (b : Int) / (pp k : Int) ≤ (b : Int) := ⟨Int.ediv_nonneg (by omega) (by omega), Int.ediv_le_self _ (by omega)⟩
          refine w_il hK rfl rfl ?_
          refine w_al hK rfl rfl ?_
          refine w_geti (n := 1) (m := 1) hK rfl rfl (by decide) (by decide) rfl rfl rfl rfl ?_
          rw [show N11 1 1 = (qq k : Int) from ((congrFun (hF 1 (by decide)) 1).trans K.2.1)]
          refine w_ge2 hK rfl (by omega) (by omega) (by omega) (by omega) (fun h14 => ?_) (fun h14 => ?_)
          · refine w_inc [(1, 1), (0, ((a : Int) + 1)), (0, (b : Int)), w3, w4, w5] hK rfl rfl rfl (by omega) (by omega) rfl ?_
            refine w_goto hK rfl ?_
            have eb_ : b = qq k := by omega
            rw [eb_] at hT
            exact ih2 _ (by omega) (a + 1) _ (0, (b : Int)) w3 w4 w5 N11 rfl (by omega) hS hT.row hF
          · refine w_il hK rfl rfl ?_
            refine w_ne hK rfl (by omega) (by omega) (fun h16 => ?_) (fun h16 => ?_)
            · refine w_al hK rfl rfl ?_
              refine w_il hK rfl rfl ?_
              refine w_il hK rfl rfl ?_
              refine w_al hK rfl rfl ?_
              refine w_geti (n := 2) (m := 2) hK rfl rfl (by decide) (by decide) rfl rfl rfl rfl ?_
              rw [show N11 1 2 = (pp k : Int) from ((congrFun (hF 1 (by decide)) 2).trans K.2.2.1)]
              refine w_div hK rfl (by omega) (by omega) (by omega) (by omega) ?_
              refine w_call [(1, 1), (0, (a : Int)), (0, ((b : Int) / (pp k : Int)))] hK rfl rfl rfl rfl (Or.inr ⟨_, _, _, rfl, by decide, (by decide), rfl⟩) (c_prodR_7 (a : Int) ((b : Int) / (pp k : Int)) (by omega) (by omega) (by omega) (by omega)) ?_
              rintro _ Mq ⟨rfl, e_⟩
              subst Mq
              rw [divI, show N11 3 ((a : Int) * 16 + ((b / pp k : Nat) : Int)) = ((ml (el k a) (el k (b / pp k))).val : Int) from (congrFun hS _).trans (by
                have h_ := hT (el k a) (el k (b / pp k)) (by rw [show (el k a).val = a from Nat.mod_eq_of_lt (by omega), show (el k (b / pp k)).val = b / pp k from Nat.mod_eq_of_lt (by omega)]; omega)
                rw [elN (by omega), elN (by omega)] at h_
                exact h_)]
              refine ⟨(by show (0 : Nat) ≠ 9; decide), (?_ : Wp 7 _ 6 26 [(1, 1), (0, (a : Int)), (0, (b : Int)), w3, w4, w5] [(0, ((ml (el k a) (el k (b / pp k))).val : Int))] N11 _)⟩
              refine w_is [(1, 1), (0, (a : Int)), (0, (b : Int)), (0, ((ml (el k a) (el k (b / pp k))).val : Int)), w4, w5] hK rfl rfl rfl ?_
              refine w_al hK rfl rfl ?_
              refine w_il hK rfl rfl ?_
              refine w_call [(1, 1), (0, ((ml (el k a) (el k (b / pp k))).val : Int))] hK rfl rfl rfl rfl (Or.inr ⟨_, _, _, rfl, by decide, (by decide), rfl⟩) (c_tw_7 (FK.congr K ((hF 1 (by decide)).trans rfl)) (fun a b => (congrFun ((hF 2 (by decide)).trans rfl) _).trans (hsum a b)) (ml (el k a) (el k (b / pp k)))) ?_
              rintro _ Mq ⟨rfl, e_⟩
              subst Mq
              have tI_ := el_I (tw (ml (el k a) (el k (b / pp k))))
              refine ⟨(by show (0 : Nat) ≠ 9; decide), (?_ : Wp 7 _ 6 30 [(1, 1), (0, (a : Int)), (0, (b : Int)), (0, ((ml (el k a) (el k (b / pp k))).val : Int)), w4, w5] [(0, ((tw (ml (el k a) (el k (b / pp k)))).val : Int))] N11 _)⟩
              refine w_is [(1, 1), (0, (a : Int)), (0, (b : Int)), (0, ((ml (el k a) (el k (b / pp k))).val : Int)), (0, ((tw (ml (el k a) (el k (b / pp k)))).val : Int)), w5] hK rfl rfl rfl ?_
              refine w_il hK rfl rfl ?_
              refine w_al hK rfl rfl ?_
              refine w_geti (n := 2) (m := 2) hK rfl rfl (by decide) (by decide) rfl rfl rfl rfl ?_
              rw [show N11 1 2 = (pp k : Int) from ((congrFun (hF 1 (by decide)) 2).trans K.2.2.1)]
              refine w_rem hK rfl (by omega) (by omega) (by omega) (by omega) ?_
              rw [modI]
              refine w_is [(1, 1), (0, (a : Int)), (0, (b : Int)), (0, ((ml (el k a) (el k (b / pp k))).val : Int)), (0, ((tw (ml (el k a) (el k (b / pp k)))).val : Int)), (0, ((b % pp k : Nat) : Int))] hK rfl rfl rfl ?_
              have lp36 : ∀ (n_ : Nat) (n : Nat), n = n_ → (n ≤ b % pp k) → Wp 7 (d + 2) 6 36 [(1, 1), (0, (a : Int)), (0, (b : Int)), (0, ((ml (el k a) (el k (b / pp k))).val : Int)), (0, ((addn (el k a) (tw (ml (el k a) (el k (b / pp k)))) (b % pp k - n)).val : Int)), (0, (n : Int))] [] N11 (fun r M' => r = (4, 0) ∧ (∀ a b : El k, M' 3 ((a.val : Int) * 16 + (b.val : Int)) = ((ml a b).val : Int)) ∧ (∀ a : Int, a ≠ 3 → M' a = M a)) := by
                intro n_
                induction n_ using Nat.strongRecOn with
                | _ n_ ih36 =>
                intro n  hm36 hn
                refine w_il hK rfl rfl ?_
                refine w_le hK rfl (by omega) (by omega) (fun h37 => ?_) (fun h37 => ?_)
                · have n0_ : n = 0 := by omega
                  have val_ : ((addn (el k a) (tw (ml (el k a) (el k (b / pp k)))) (b % pp k - n)).val : Int) = ((ml (el k a) (el k b)).val : Int) := by
                    rw [n0_, ml_rec0 (el k a) (el k b), show (el k b).val = b from Nat.mod_eq_of_lt (by omega)]
                    rfl
                  refine w_al hK rfl rfl ?_
                  refine w_getr (n := 5) (v := 3) hK rfl rfl (by decide) (by decide) rfl rfl rfl rfl ?_
                  refine w_il hK rfl rfl ?_
                  refine w_ic hK rfl ?_
                  refine w_mul hK rfl (by omega) (by omega) ?_
                  refine w_il hK rfl rfl ?_
                  refine w_add hK rfl (by omega) (by omega) ?_
                  refine w_il hK rfl rfl ?_
                  refine w_call [(1, 3), (0, (((a : Int) * 16) + (b : Int))), (0, ((addn (el k a) (tw (ml (el k a) (el k (b / pp k)))) (b % pp k - n)).val : Int))] hK rfl rfl rfl rfl (Or.inl rfl) (c_fput3_7 (((a : Int) * 16) + (b : Int)) ((addn (el k a) (tw (ml (el k a) (el k (b / pp k)))) (b % pp k - n)).val : Int) (by omega) (by omega)) ?_
                  rintro _ V104 ⟨rfl, u104⟩
                  refine ⟨by decide, (?_ : Wp 7 _ 6 54 [(1, 1), (0, (a : Int)), (0, (b : Int)), (0, ((ml (el k a) (el k (b / pp k))).val : Int)), (0, ((addn (el k a) (tw (ml (el k a) (el k (b / pp k)))) (b % pp k - n)).val : Int)), (0, (n : Int))] [] V104 _)⟩
                  refine w_inc [(1, 1), (0, (a : Int)), (0, ((b : Int) + 1)), (0, ((ml (el k a) (el k (b / pp k))).val : Int)), (0, ((addn (el k a) (tw (ml (el k a) (el k (b / pp k)))) (b % pp k - n)).val : Int)), (0, (n : Int))] hK rfl rfl rfl (by omega) (by omega) rfl ?_
                  refine w_goto hK rfl ?_
                  exact ih11 _ (by omega) (b + 1) _ (0, ((ml (el k a) (el k (b / pp k))).val : Int)) (0, ((addn (el k a) (tw (ml (el k a) (el k (b / pp k)))) (b % pp k - n)).val : Int)) (0, (n : Int)) V104 rfl (by omega) ((congrFun u104 3).trans (up_upr hS)) (hT.step (by omega) (by omega) val_) (fun a n3_ => (((fun a (na_ : a ≠ 3) => (congrFun u104 a).trans (up_row na_)) a n3_).trans (hF a n3_)))
                · refine w_al hK rfl rfl ?_
                  refine w_il hK rfl rfl ?_
                  refine w_il hK rfl rfl ?_
                  have xl_ := el_I (addn (el k a) (tw (ml (el k a) (el k (b / pp k)))) (b % pp k - n))
                  have yl_ : (el k a).val = a := Nat.mod_eq_of_lt (by omega)
                  refine w_call [(1, 1), (0, ((addn (el k a) (tw (ml (el k a) (el k (b / pp k)))) (b % pp k - n)).val : Int)), (0, (a : Int))] hK rfl rfl rfl rfl (Or.inr ⟨_, _, _, rfl, by decide, (by decide), rfl⟩) (Ct.cv (c_sumR_7 ((addn (el k a) (tw (ml (el k a) (el k (b / pp k)))) (b % pp k - n)).val : Int) ((el k a).val : Int) (by omega) (by omega) (by omega) (by omega)) (by rw [yl_])) ?_
                  rintro _ Mq ⟨rfl, e_⟩
                  subst Mq
                  rw [show N11 2 (((addn (el k a) (tw (ml (el k a) (el k (b / pp k)))) (b % pp k - n)).val : Int) * 16 + ((el k a).val : Int)) = ((ad (addn (el k a) (tw (ml (el k a) (el k (b / pp k)))) (b % pp k - n)) (el k a)).val : Int) from (congrFun ((hF 2 (by decide)).trans rfl) _).trans (hsum (addn (el k a) (tw (ml (el k a) (el k (b / pp k)))) (b % pp k - n)) (el k a))]
                  have sI_ := el_I (ad (addn (el k a) (tw (ml (el k a) (el k (b / pp k)))) (b % pp k - n)) (el k a))
                  refine ⟨(by show (0 : Nat) ≠ 9; decide), (?_ : Wp 7 _ 6 42 [(1, 1), (0, (a : Int)), (0, (b : Int)), (0, ((ml (el k a) (el k (b / pp k))).val : Int)), (0, ((addn (el k a) (tw (ml (el k a) (el k (b / pp k)))) (b % pp k - n)).val : Int)), (0, (n : Int))] [(0, ((ad (addn (el k a) (tw (ml (el k a) (el k (b / pp k)))) (b % pp k - n)) (el k a)).val : Int))] N11 _)⟩
                  refine w_is [(1, 1), (0, (a : Int)), (0, (b : Int)), (0, ((ml (el k a) (el k (b / pp k))).val : Int)), (0, ((ad (addn (el k a) (tw (ml (el k a) (el k (b / pp k)))) (b % pp k - n)) (el k a)).val : Int)), (0, (n : Int))] hK rfl rfl rfl ?_
                  refine w_inc [(1, 1), (0, (a : Int)), (0, (b : Int)), (0, ((ml (el k a) (el k (b / pp k))).val : Int)), (0, ((ad (addn (el k a) (tw (ml (el k a) (el k (b / pp k)))) (b % pp k - n)) (el k a)).val : Int)), (0, ((n : Int) + (-1)))] hK rfl rfl rfl (by omega) (by omega) rfl ?_
                  refine w_goto hK rfl ?_
                  have q36 := ih36 _ (by omega) (n - 1)  rfl (by omega)
                  rw [show (addn (el k a) (tw (ml (el k a) (el k (b / pp k)))) (b % pp k - (n - 1))) = ad (addn (el k a) (tw (ml (el k a) (el k (b / pp k)))) (b % pp k - n)) (el k a) from by rw [show b % pp k - (n - 1) = (b % pp k - n) + 1 by omega]; exact addn_s (by omega), show ((n - 1 : Nat) : Int) = (n : Int) + (-1) by omega] at q36
                  exact q36
              have q36 := lp36 _ (b % pp k)  rfl (Nat.le_refl _)
              rw [show b % pp k - b % pp k = 0 from Nat.sub_self _, show (addn (el k a) (tw (ml (el k a) (el k (b / pp k)))) 0) = tw (ml (el k a) (el k (b / pp k))) from rfl] at q36
              exact q36
            · refine w_ic hK rfl ?_
              refine w_goto hK rfl ?_
              rw [show ((0, 0) : AV) = (0, ((ml (el k a) (el k (b / pp k))).val : Int)) from congrArg (Prod.mk 0) (by rw [show b / pp k = 0 by rw [show b = 0 by omega, Nat.zero_div], show ml (el k a) (el k 0) = (z0 : El k) from ml_zero _, z0_val]; rfl)]
              refine w_is [(1, 1), (0, (a : Int)), (0, (b : Int)), (0, ((ml (el k a) (el k (b / pp k))).val : Int)), w4, w5] hK rfl rfl rfl ?_
              refine w_al hK rfl rfl ?_
              refine w_il hK rfl rfl ?_
              refine w_call [(1, 1), (0, ((ml (el k a) (el k (b / pp k))).val : Int))] hK rfl rfl rfl rfl (Or.inr ⟨_, _, _, rfl, by decide, (by decide), rfl⟩) (c_tw_7 (FK.congr K ((hF 1 (by decide)).trans rfl)) (fun a b => (congrFun ((hF 2 (by decide)).trans rfl) _).trans (hsum a b)) (ml (el k a) (el k (b / pp k)))) ?_
              rintro _ Mq ⟨rfl, e_⟩
              subst Mq
              have tI_ := el_I (tw (ml (el k a) (el k (b / pp k))))
              refine ⟨(by show (0 : Nat) ≠ 9; decide), (?_ : Wp 7 _ 6 30 [(1, 1), (0, (a : Int)), (0, (b : Int)), (0, ((ml (el k a) (el k (b / pp k))).val : Int)), w4, w5] [(0, ((tw (ml (el k a) (el k (b / pp k)))).val : Int))] N11 _)⟩
              refine w_is [(1, 1), (0, (a : Int)), (0, (b : Int)), (0, ((ml (el k a) (el k (b / pp k))).val : Int)), (0, ((tw (ml (el k a) (el k (b / pp k)))).val : Int)), w5] hK rfl rfl rfl ?_
              refine w_il hK rfl rfl ?_
              refine w_al hK rfl rfl ?_
              refine w_geti (n := 2) (m := 2) hK rfl rfl (by decide) (by decide) rfl rfl rfl rfl ?_
              rw [show N11 1 2 = (pp k : Int) from ((congrFun (hF 1 (by decide)) 2).trans K.2.2.1)]
              refine w_rem hK rfl (by omega) (by omega) (by omega) (by omega) ?_
              rw [modI]
              refine w_is [(1, 1), (0, (a : Int)), (0, (b : Int)), (0, ((ml (el k a) (el k (b / pp k))).val : Int)), (0, ((tw (ml (el k a) (el k (b / pp k)))).val : Int)), (0, ((b % pp k : Nat) : Int))] hK rfl rfl rfl ?_
              have lp36 : ∀ (n_ : Nat) (n : Nat), n = n_ → (n ≤ b % pp k) → Wp 7 (d + 2) 6 36 [(1, 1), (0, (a : Int)), (0, (b : Int)), (0, ((ml (el k a) (el k (b / pp k))).val : Int)), (0, ((addn (el k a) (tw (ml (el k a) (el k (b / pp k)))) (b % pp k - n)).val : Int)), (0, (n : Int))] [] N11 (fun r M' => r = (4, 0) ∧ (∀ a b : El k, M' 3 ((a.val : Int) * 16 + (b.val : Int)) = ((ml a b).val : Int)) ∧ (∀ a : Int, a ≠ 3 → M' a = M a)) := by
                intro n_
                induction n_ using Nat.strongRecOn with
                | _ n_ ih36 =>
                intro n  hm36 hn
                refine w_il hK rfl rfl ?_
                refine w_le hK rfl (by omega) (by omega) (fun h37 => ?_) (fun h37 => ?_)
                · have n0_ : n = 0 := by omega
                  have val_ : ((addn (el k a) (tw (ml (el k a) (el k (b / pp k)))) (b % pp k - n)).val : Int) = ((ml (el k a) (el k b)).val : Int) := by
                    rw [n0_, ml_rec0 (el k a) (el k b), show (el k b).val = b from Nat.mod_eq_of_lt (by omega)]
                    rfl
                  refine w_al hK rfl rfl ?_
                  refine w_getr (n := 5) (v := 3) hK rfl rfl (by decide) (by decide) rfl rfl rfl rfl ?_
                  refine w_il hK rfl rfl ?_
                  refine w_ic hK rfl ?_
                  refine w_mul hK rfl (by omega) (by omega) ?_
                  refine w_il hK rfl rfl ?_
                  refine w_add hK rfl (by omega) (by omega) ?_
                  refine w_il hK rfl rfl ?_
                  refine w_call [(1, 3), (0, (((a : Int) * 16) + (b : Int))), (0, ((addn (el k a) (tw (ml (el k a) (el k (b / pp k)))) (b % pp k - n)).val : Int))] hK rfl rfl rfl rfl (Or.inl rfl) (c_fput3_7 (((a : Int) * 16) + (b : Int)) ((addn (el k a) (tw (ml (el k a) (el k (b / pp k)))) (b % pp k - n)).val : Int) (by omega) (by omega)) ?_
                  rintro _ V105 ⟨rfl, u105⟩
                  refine ⟨by decide, (?_ : Wp 7 _ 6 54 [(1, 1), (0, (a : Int)), (0, (b : Int)), (0, ((ml (el k a) (el k (b / pp k))).val : Int)), (0, ((addn (el k a) (tw (ml (el k a) (el k (b / pp k)))) (b % pp k - n)).val : Int)), (0, (n : Int))] [] V105 _)⟩
                  refine w_inc [(1, 1), (0, (a : Int)), (0, ((b : Int) + 1)), (0, ((ml (el k a) (el k (b / pp k))).val : Int)), (0, ((addn (el k a) (tw (ml (el k a) (el k (b / pp k)))) (b % pp k - n)).val : Int)), (0, (n : Int))] hK rfl rfl rfl (by omega) (by omega) rfl ?_
                  refine w_goto hK rfl ?_
                  exact ih11 _ (by omega) (b + 1) _ (0, ((ml (el k a) (el k (b / pp k))).val : Int)) (0, ((addn (el k a) (tw (ml (el k a) (el k (b / pp k)))) (b % pp k - n)).val : Int)) (0, (n : Int)) V105 rfl (by omega) ((congrFun u105 3).trans (up_upr hS)) (hT.step (by omega) (by omega) val_) (fun a n3_ => (((fun a (na_ : a ≠ 3) => (congrFun u105 a).trans (up_row na_)) a n3_).trans (hF a n3_)))
                · refine w_al hK rfl rfl ?_
                  refine w_il hK rfl rfl ?_
                  refine w_il hK rfl rfl ?_
                  have xl_ := el_I (addn (el k a) (tw (ml (el k a) (el k (b / pp k)))) (b % pp k - n))
                  have yl_ : (el k a).val = a := Nat.mod_eq_of_lt (by omega)
                  refine w_call [(1, 1), (0, ((addn (el k a) (tw (ml (el k a) (el k (b / pp k)))) (b % pp k - n)).val : Int)), (0, (a : Int))] hK rfl rfl rfl rfl (Or.inr ⟨_, _, _, rfl, by decide, (by decide), rfl⟩) (Ct.cv (c_sumR_7 ((addn (el k a) (tw (ml (el k a) (el k (b / pp k)))) (b % pp k - n)).val : Int) ((el k a).val : Int) (by omega) (by omega) (by omega) (by omega)) (by rw [yl_])) ?_
                  rintro _ Mq ⟨rfl, e_⟩
                  subst Mq
                  rw [show N11 2 (((addn (el k a) (tw (ml (el k a) (el k (b / pp k)))) (b % pp k - n)).val : Int) * 16 + ((el k a).val : Int)) = ((ad (addn (el k a) (tw (ml (el k a) (el k (b / pp k)))) (b % pp k - n)) (el k a)).val : Int) from (congrFun ((hF 2 (by decide)).trans rfl) _).trans (hsum (addn (el k a) (tw (ml (el k a) (el k (b / pp k)))) (b % pp k - n)) (el k a))]
                  have sI_ := el_I (ad (addn (el k a) (tw (ml (el k a) (el k (b / pp k)))) (b % pp k - n)) (el k a))
                  refine ⟨(by show (0 : Nat) ≠ 9; decide), (?_ : Wp 7 _ 6 42 [(1, 1), (0, (a : Int)), (0, (b : Int)), (0, ((ml (el k a) (el k (b / pp k))).val : Int)), (0, ((addn (el k a) (tw (ml (el k a) (el k (b / pp k)))) (b % pp k - n)).val : Int)), (0, (n : Int))] [(0, ((ad (addn (el k a) (tw (ml (el k a) (el k (b / pp k)))) (b % pp k - n)) (el k a)).val : Int))] N11 _)⟩
                  refine w_is [(1, 1), (0, (a : Int)), (0, (b : Int)), (0, ((ml (el k a) (el k (b / pp k))).val : Int)), (0, ((ad (addn (el k a) (tw (ml (el k a) (el k (b / pp k)))) (b % pp k - n)) (el k a)).val : Int)), (0, (n : Int))] hK rfl rfl rfl ?_
                  refine w_inc [(1, 1), (0, (a : Int)), (0, (b : Int)), (0, ((ml (el k a) (el k (b / pp k))).val : Int)), (0, ((ad (addn (el k a) (tw (ml (el k a) (el k (b / pp k)))) (b % pp k - n)) (el k a)).val : Int)), (0, ((n : Int) + (-1)))] hK rfl rfl rfl (by omega) (by omega) rfl ?_
                  refine w_goto hK rfl ?_
                  have q36 := ih36 _ (by omega) (n - 1)  rfl (by omega)
                  rw [show (addn (el k a) (tw (ml (el k a) (el k (b / pp k)))) (b % pp k - (n - 1))) = ad (addn (el k a) (tw (ml (el k a) (el k (b / pp k)))) (b % pp k - n)) (el k a) from by rw [show b % pp k - (n - 1) = (b % pp k - n) + 1 by omega]; exact addn_s (by omega), show ((n - 1 : Nat) : Int) = (n : Int) + (-1) by omega] at q36
                  exact q36
              have q36 := lp36 _ (b % pp k)  rfl (Nat.le_refl _)
              rw [show b % pp k - b % pp k = 0 from Nat.sub_self _, show (addn (el k a) (tw (ml (el k a) (el k (b / pp k)))) 0) = tw (ml (el k a) (el k (b / pp k))) from rfl] at q36
              exact q36
        exact lp11 _ 0 _ w3 w4 w5 N2 rfl (by omega) hS hT hF
  exact lp2 _ 0 _ (3, 0) (3, 0) (3, 0) (3, 0) M rfl (by omega) rfl (fun a b h => by omega) (fun a _ => rfl)
set_option maxRecDepth 100000 in
theorem c_pow_7 {d : Nat} {M : Mem} {k : Nat} (K : FK M k) (hprd : ∀ a b : El k, M 3 ((a.val : Int) * 16 + (b.val : Int)) = ((ml a b).val : Int)) (x : El k) : Ct 7 (d + 1) 11 [(1, 1), (0, (x.val : Int))] M (fun r M' => r = (0, ((sg 1 x).val : Int)) ∧ M' = M) := by
  have hK : cd 11 = k11 := rfl
  have q1_ := qq_I k
  have p1_ := pp_I k
  have m1_ := mm_I k
  have xI_ := el_I x
  show Wp 7 _ 11 0 [(1, 1), (0, (x.val : Int)), (3, 0), (3, 0)] [] M _
  refine w_ic hK rfl ?_
  refine w_is [(1, 1), (0, (x.val : Int)), (0, 1), (3, 0)] hK rfl rfl rfl ?_
  refine w_ic hK rfl ?_
  refine w_is [(1, 1), (0, (x.val : Int)), (0, 1), (0, 0)] hK rfl rfl rfl ?_
  have lp4 : ∀ (n_ : Nat) (i : Nat), 4 - i = n_ → (i ≤ pp k) → Wp 7 (d + 1) 11 4 [(1, 1), (0, (x.val : Int)), (0, ((pwr x i).val : Int)), (0, (i : Int))] [] M (fun r M' => r = (0, ((sg 1 x).val : Int)) ∧ M' = M) := by
    intro n_
    induction n_ using Nat.strongRecOn with
    | _ n_ ih4 =>
    intro i  hm4 hi
    refine w_il hK rfl rfl ?_
    refine w_al hK rfl rfl ?_
    refine w_geti (n := 2) (m := 2) hK rfl rfl (by decide) (by decide) rfl rfl rfl rfl ?_
    rw [show M 1 2 = (pp k : Int) from K.2.2.1]
    refine w_ge2 hK rfl (by omega) (by omega) (by omega) (by omega) (fun h7 => ?_) (fun h7 => ?_)
    · refine w_il hK rfl rfl ?_
      refine w_iret hK rfl rfl ?_
      have ei_ : i = pp k := by omega
      rw [ei_, pwr_sg0]
      exact ⟨rfl, rfl⟩
    · refine w_al hK rfl rfl ?_
      refine w_il hK rfl rfl ?_
      refine w_il hK rfl rfl ?_
      have xl_ := el_I (pwr x i)
      have yl_ := el_I x
      refine w_call [(1, 1), (0, ((pwr x i).val : Int)), (0, (x.val : Int))] hK rfl rfl rfl rfl (Or.inr ⟨_, _, _, rfl, by decide, (by decide), rfl⟩) (c_prodR_7 ((pwr x i).val : Int) (x.val : Int) (by omega) (by omega) (by omega) (by omega)) ?_
      rintro _ Mq ⟨rfl, e_⟩
      subst Mq
      rw [show M 3 (((pwr x i).val : Int) * 16 + (x.val : Int)) = ((ml (pwr x i) x).val : Int) from (congrFun rfl _).trans (hprd (pwr x i) x)]
      have sI_ := el_I (ml (pwr x i) x)
      refine ⟨(by show (0 : Nat) ≠ 9; decide), (?_ : Wp 7 _ 11 12 [(1, 1), (0, (x.val : Int)), (0, ((pwr x i).val : Int)), (0, (i : Int))] [(0, ((ml (pwr x i) x).val : Int))] M _)⟩
      refine w_is [(1, 1), (0, (x.val : Int)), (0, ((ml (pwr x i) x).val : Int)), (0, (i : Int))] hK rfl rfl rfl ?_
      refine w_inc [(1, 1), (0, (x.val : Int)), (0, ((ml (pwr x i) x).val : Int)), (0, ((i : Int) + 1))] hK rfl rfl rfl (by omega) (by omega) rfl ?_
      refine w_goto hK rfl ?_
      exact ih4 _ (by omega) (i + 1)  rfl (by omega)
  have q4 := lp4 _ 0  rfl (by omega)
  rw [show ((pwr x 0).val : Int) = 1 from el1] at q4
  exact q4
set_option maxRecDepth 100000 in
theorem c_imgR_7 {d : Nat} {M : Mem} {k : Nat} (K : FK M k) (x : El k) (j : Nat) (hj : j < mm k) : Ct 7 (d + 1) 10 [(1, 1), (0, (x.val : Int)), (0, (j : Int))] M (fun r M' => r = (0, M 4 ((j : Int) * 16 + (x.val : Int))) ∧ M' = M) := by
  have hK : cd 10 = k10 := rfl
  have q1_ := qq_I k
  have p1_ := pp_I k
  have m1_ := mm_I k
  have xI_ := el_I x
  show Wp 7 _ 10 0 [(1, 1), (0, (x.val : Int)), (0, (j : Int)), (3, 0)] [] M _
  refine w_al hK rfl rfl ?_
  refine w_geti (n := 3) (m := 3) hK rfl rfl (by decide) (by decide) rfl rfl rfl rfl ?_
  rw [show M 1 3 = (mm k : Int) from K.2.2.2]
  refine w_ic hK rfl ?_
  refine w_ge2 hK rfl (by omega) (by omega) (by omega) (by omega) (fun h3 => ?_) (fun h3 => ?_)
  · refine w_il hK rfl rfl ?_
    refine w_al hK rfl rfl ?_
    refine w_geti (n := 3) (m := 3) hK rfl rfl (by decide) (by decide) rfl rfl rfl rfl ?_
    rw [show M 1 3 = (mm k : Int) from K.2.2.2]
    refine w_call [(0, (j : Int)), (0, (mm k : Int))] hK rfl rfl rfl rfl (Or.inl rfl) (c_fmod (j : Int) (mm k : Int) (by omega) (by omega) (by omega) (by omega)) ?_
    rintro _ Mq ⟨rfl, e_⟩
    subst Mq
    rw [show (j : Int) % (mm k : Int) = (j : Int) from Int.emod_eq_of_lt (by omega) (by omega)]
    refine ⟨(by show (0 : Nat) ≠ 9; decide), (?_ : Wp 7 _ 10 10 [(1, 1), (0, (x.val : Int)), (0, (j : Int)), (3, 0)] [(0, (j : Int))] M _)⟩
    refine w_ic hK rfl ?_
    refine w_mul hK rfl (by omega) (by omega) ?_
    refine w_il hK rfl rfl ?_
    refine w_add hK rfl (by omega) (by omega) ?_
    refine w_is [(1, 1), (0, (x.val : Int)), (0, (j : Int)), (0, (((j : Int) * 16) + (x.val : Int)))] hK rfl rfl rfl ?_
    refine w_il hK rfl rfl ?_
    refine w_lt hK rfl (by omega) (by omega) (fun h16 => ?_) (fun h16 => ?_)
    · exfalso; omega
    · refine w_il hK rfl rfl ?_
      refine w_al hK rfl rfl ?_
      refine w_getr (n := 6) (v := 4) hK rfl rfl (by decide) (by decide) rfl rfl rfl rfl ?_
      refine w_len hK rfl rfl (by decide) (by decide) rfl ?_
      refine w_ge2 hK rfl (by omega) (by omega) (by omega) (by omega) (fun h21 => ?_) (fun h21 => ?_)
      · exfalso; omega
      · refine w_al hK rfl rfl ?_
        refine w_getr (n := 6) (v := 4) hK rfl rfl (by decide) (by decide) rfl rfl rfl rfl ?_
        refine w_il hK rfl rfl ?_
        refine w_ia hK rfl rfl (by decide) (by decide) (by omega) (by omega) ?_
        refine w_goto hK rfl ?_
        refine w_iret hK rfl rfl ?_
        exact ⟨rfl, rfl⟩
  · exfalso; omega
set_option maxRecDepth 100000 in
theorem c_ftab_7 {d : Nat} {M : Mem} {k : Nat} (K : FK M k) (h50 : M 5 0 = 0) : Ct 7 (d + 3) 2 [(1, 1)] M (fun r M' => r = (4, 0) ∧ (∀ a b : El k, M' 2 ((a.val : Int) * 16 + (b.val : Int)) = ((ad a b).val : Int)) ∧ (∀ a b : El k, M' 3 ((a.val : Int) * 16 + (b.val : Int)) = ((ml a b).val : Int)) ∧ (∀ (j : Nat) (a : El k), j < mm k → M' 4 ((j : Int) * 16 + (a.val : Int)) = ((sg j a).val : Int)) ∧ (∀ a : El k, M' 5 (a.val : Int) = ((iv a).val : Int)) ∧ (∀ a : El k, M' 6 (a.val : Int) = ((ng a).val : Int)) ∧ (∀ a : Int, a ≠ 2 → a ≠ 3 → a ≠ 4 → a ≠ 5 → a ≠ 6 → M' a = M a)) := by
  have hK : cd 2 = k2 := rfl
  have q1_ := qq_I k
  have p1_ := pp_I k
  have m1_ := mm_I k
  show Wp 7 _ 2 0 [(1, 1), (3, 0), (3, 0)] [] M _
  refine w_al hK rfl rfl ?_
  refine w_geti (n := 2) (m := 2) hK rfl rfl (by decide) (by decide) rfl rfl rfl rfl ?_
  rw [show M 1 2 = (pp k : Int) from K.2.2.1]
  refine w_ic hK rfl ?_
  refine w_ge2 hK rfl (by omega) (by omega) (by omega) (by omega) (fun h3 => ?_) (fun h3 => ?_)
  · refine w_al hK rfl rfl ?_
    refine w_call [(1, 1)] hK rfl rfl rfl rfl (Or.inr ⟨_, _, _, rfl, by decide, (by decide), rfl⟩) (c_fsum_7 K) ?_
    rintro _ V106 ⟨rfl, hsum, F106⟩
    refine ⟨by decide, (?_ : Wp 7 _ 2 7 [(1, 1), (3, 0), (3, 0)] [] V106 _)⟩
    refine w_al hK rfl rfl ?_
    refine w_call [(1, 1)] hK rfl rfl rfl rfl (Or.inr ⟨_, _, _, rfl, by decide, (by decide), rfl⟩) (c_fprod_7 (FK.congr K ((F106 1 (by decide)).trans rfl)) hsum) ?_
    rintro _ V107 ⟨rfl, hprd, F107⟩
    refine ⟨by decide, (?_ : Wp 7 _ 2 9 [(1, 1), (3, 0), (3, 0)] [] V107 _)⟩
    refine w_ic hK rfl ?_
    refine w_is [(1, 1), (0, 0), (3, 0)] hK rfl rfl rfl ?_
    have lp11 : ∀ (n_ : Nat) (a : Nat) (T4 T5 T6 : Int → Int) (w2 : AV) (N11 : Mem), 17 - a = n_ → (a ≤ qq k) → (N11 4 = T4) → (N11 5 = T5) → (N11 6 = T6) → (T5 0 = 0) → ((∀ a : Int, a ≠ 4 → a ≠ 5 → a ≠ 6 → N11 a = V107 a)) → (∀ x : El k, x.val < a → T4 (x.val : Int) = (x.val : Int)) → (∀ x : El k, x.val < a → T6 (x.val : Int) = ((ng x).val : Int)) → (∀ x : El k, x.val < a → T5 (x.val : Int) = ((iv x).val : Int)) → Wp 7 (d + 3) 2 11 [(1, 1), (0, (a : Int)), w2] [] N11 (fun r M' => r = (4, 0) ∧ (∀ a b : El k, M' 2 ((a.val : Int) * 16 + (b.val : Int)) = ((ad a b).val : Int)) ∧ (∀ a b : El k, M' 3 ((a.val : Int) * 16 + (b.val : Int)) = ((ml a b).val : Int)) ∧ (∀ (j : Nat) (a : El k), j < mm k → M' 4 ((j : Int) * 16 + (a.val : Int)) = ((sg j a).val : Int)) ∧ (∀ a : El k, M' 5 (a.val : Int) = ((iv a).val : Int)) ∧ (∀ a : El k, M' 6 (a.val : Int) = ((ng a).val : Int)) ∧ (∀ a : Int, a ≠ 2 → a ≠ 3 → a ≠ 4 → a ≠ 5 → a ≠ 6 → M' a = M a)) := by
      intro n_
      induction n_ using Nat.strongRecOn with
      | _ n_ ih11 =>
      intro a T4 T5 T6 w2 N11 hm11 ha h4 h5_ h6 hV0 hF hI4 hO hV
      refine w_il hK rfl rfl ?_
      refine w_al hK rfl rfl ?_
      refine w_geti (n := 1) (m := 1) hK rfl rfl (by decide) (by decide) rfl rfl rfl rfl ?_
      rw [show N11 1 1 = (qq k : Int) from ((congrFun (hF 1 (by decide) (by decide) (by decide)) 1).trans ((congrFun (F107 1 (by decide)) 1).trans ((congrFun (F106 1 (by decide)) 1).trans K.2.1)))]
      refine w_ge2 hK rfl (by omega) (by omega) (by omega) (by omega) (fun h14 => ?_) (fun h14 => ?_)
      · have ea_ : a = qq k := by omega
        refine w_ic hK rfl ?_
        refine w_is [(1, 1), (0, 1), w2] hK rfl rfl rfl ?_
        have lp53 : ∀ (n_ : Nat) (j : Nat) (T4 T5 T6 : Int → Int) (w2 : AV) (N53 : Mem), 5 - j = n_ → (1 ≤ j ∧ j ≤ mm k) → (N53 4 = T4) → (N53 5 = T5) → (N53 6 = T6) → ((∀ a : Int, a ≠ 4 → a ≠ 5 → a ≠ 6 → N53 a = V107 a)) → (∀ x : El k, T6 (x.val : Int) = ((ng x).val : Int)) → (∀ x : El k, T5 (x.val : Int) = ((iv x).val : Int)) → (∀ (i : Nat) (x : El k), (i < j ∨ (i = j ∧ x.val < 0)) → T4 ((i : Int) * 16 + (x.val : Int)) = ((sg i x).val : Int)) → Wp 7 (d + 3) 2 53 [(1, 1), (0, (j : Int)), w2] [] N53 (fun r M' => r = (4, 0) ∧ (∀ a b : El k, M' 2 ((a.val : Int) * 16 + (b.val : Int)) = ((ad a b).val : Int)) ∧ (∀ a b : El k, M' 3 ((a.val : Int) * 16 + (b.val : Int)) = ((ml a b).val : Int)) ∧ (∀ (j : Nat) (a : El k), j < mm k → M' 4 ((j : Int) * 16 + (a.val : Int)) = ((sg j a).val : Int)) ∧ (∀ a : El k, M' 5 (a.val : Int) = ((iv a).val : Int)) ∧ (∀ a : El k, M' 6 (a.val : Int) = ((ng a).val : Int)) ∧ (∀ a : Int, a ≠ 2 → a ≠ 3 → a ≠ 4 → a ≠ 5 → a ≠ 6 → M' a = M a)) := by
          intro n_
          induction n_ using Nat.strongRecOn with
          | _ n_ ih53 =>
          intro j T4 T5 T6 w2 N53 hm53 hj h4 h5_ h6 hF hO hV hI
          refine w_il hK rfl rfl ?_
          refine w_al hK rfl rfl ?_
          refine w_geti (n := 3) (m := 3) hK rfl rfl (by decide) (by decide) rfl rfl rfl rfl ?_
          rw [show N53 1 3 = (mm k : Int) from ((congrFun (hF 1 (by decide) (by decide) (by decide)) 3).trans ((congrFun (F107 1 (by decide)) 3).trans ((congrFun (F106 1 (by decide)) 3).trans K.2.2.2)))]
          refine w_ge2 hK rfl (by omega) (by omega) (by omega) (by omega) (fun h56 => ?_) (fun h56 => ?_)
          · refine w_ret hK rfl rfl ?_
            have ej_ : j = mm k := by omega
            refine ⟨rfl, fun a b => ?_, fun a b => ?_, fun i a hi => ?_, fun a => ?_, fun a => ?_, fun a n2_ n3_ n4_ n5_ n6_ => ((hF a n4_ n5_ n6_).trans ((F107 a n3_).trans (F106 a n2_)))⟩
            · rw [show N53 2 = V106 2 from ((hF 2 (by decide) (by decide) (by decide)).trans (F107 2 (by decide)))]; exact hsum a b
            · rw [show N53 3 = V107 3 from (hF 3 (by decide) (by decide) (by decide))]; exact hprd a b
            · rw [h4]; exact hI i a (Or.inl (by omega))
            · rw [h5_]; exact hV a
            · rw [h6]; exact hO a
          · refine w_ic hK rfl ?_
            refine w_is [(1, 1), (0, (j : Int)), (0, 0)] hK rfl rfl rfl ?_
            have lp59 : ∀ (n_ : Nat) (a : Nat) (T4 T5 T6 : Int → Int) (N59 : Mem), 17 - a = n_ → (a ≤ qq k) → (N59 4 = T4) → (N59 5 = T5) → (N59 6 = T6) → ((∀ a : Int, a ≠ 4 → a ≠ 5 → a ≠ 6 → N59 a = V107 a)) → (∀ x : El k, T6 (x.val : Int) = ((ng x).val : Int)) → (∀ x : El k, T5 (x.val : Int) = ((iv x).val : Int)) → (∀ (i : Nat) (x : El k), (i < j ∨ (i = j ∧ x.val < a)) → T4 ((i : Int) * 16 + (x.val : Int)) = ((sg i x).val : Int)) → Wp 7 (d + 3) 2 59 [(1, 1), (0, (j : Int)), (0, (a : Int))] [] N59 (fun r M' => r = (4, 0) ∧ (∀ a b : El k, M' 2 ((a.val : Int) * 16 + (b.val : Int)) = ((ad a b).val : Int)) ∧ (∀ a b : El k, M' 3 ((a.val : Int) * 16 + (b.val : Int)) = ((ml a b).val : Int)) ∧ (∀ (j : Nat) (a : El k), j < mm k → M' 4 ((j : Int) * 16 + (a.val : Int)) = ((sg j a).val : Int)) ∧ (∀ a : El k, M' 5 (a.val : Int) = ((iv a).val : Int)) ∧ (∀ a : El k, M' 6 (a.val : Int) = ((ng a).val : Int)) ∧ (∀ a : Int, a ≠ 2 → a ≠ 3 → a ≠ 4 → a ≠ 5 → a ≠ 6 → M' a = M a)) := by
              intro n_
              induction n_ using Nat.strongRecOn with
              | _ n_ ih59 =>
              intro a T4 T5 T6 N59 hm59 ha h4 h5_ h6 hF hO hV hI
              refine w_il hK rfl rfl ?_
              refine w_al hK rfl rfl ?_
              refine w_geti (n := 1) (m := 1) hK rfl rfl (by decide) (by decide) rfl rfl rfl rfl ?_
              rw [show N59 1 1 = (qq k : Int) from ((congrFun (hF 1 (by decide) (by decide) (by decide)) 1).trans ((congrFun (F107 1 (by decide)) 1).trans ((congrFun (F106 1 (by decide)) 1).trans K.2.1)))]
              refine w_ge2 hK rfl (by omega) (by omega) (by omega) (by omega) (fun h62 => ?_) (fun h62 => ?_)
              · refine w_inc [(1, 1), (0, ((j : Int) + 1)), (0, (a : Int))] hK rfl rfl rfl (by omega) (by omega) rfl ?_
                refine w_goto hK rfl ?_
                exact ih53 _ (by omega) (j + 1) _ _ _ (0, (a : Int)) N59 rfl (by omega) h4 h5_ h6 (fun a n4_ n5_ n6_ => (hF a n4_ n5_ n6_)) hO hV (fun i x h => hI i x (by have := x.isLt; omega))
              · refine w_al hK rfl rfl ?_
                refine w_getr (n := 6) (v := 4) hK rfl rfl (by decide) (by decide) rfl rfl rfl rfl ?_
                refine w_il hK rfl rfl ?_
                refine w_ic hK rfl ?_
                refine w_mul hK rfl (by omega) (by omega) ?_
                refine w_il hK rfl rfl ?_
                refine w_add hK rfl (by omega) (by omega) ?_
                refine w_al hK rfl rfl ?_
                refine w_al hK rfl rfl ?_
                refine w_il hK rfl rfl ?_
                refine w_il hK rfl rfl ?_
                refine w_ic hK rfl ?_
                refine w_sub hK rfl (by omega) (by omega) ?_
                refine w_call [(1, 1), (0, (a : Int)), (0, ((j : Int) - 1))] hK rfl rfl rfl rfl (Or.inr ⟨_, _, _, rfl, by decide, (by decide), rfl⟩) (Ct.cv (c_imgR_7 (FK.congr K ((hF 1 (by decide) (by decide) (by decide)).trans ((F107 1 (by decide)).trans ((F106 1 (by decide)).trans rfl)))) (el k a) (j - 1) (by omega)) (by rw [elN (by omega), show ((j - 1 : Nat) : Int) = (j : Int) - 1 by omega])) ?_
                rintro _ Mq ⟨rfl, e_⟩
                subst Mq
                rw [show N59 4 (((j - 1 : Nat) : Int) * 16 + ((el k a).val : Int)) = ((sg (j - 1) (el k a)).val : Int) from (congrFun h4 _).trans (hI (j - 1) (el k a) (Or.inl (by omega)))]
                refine ⟨(by show (0 : Nat) ≠ 9; decide), (?_ : Wp 7 _ 2 77 [(1, 1), (0, (j : Int)), (0, (a : Int))] [(0, ((sg (j - 1) (el k a)).val : Int)), (1, 1), (0, (((j : Int) * 16) + (a : Int))), (1, 4)] N59 _)⟩
                refine w_call [(1, 1), (0, ((sg (j - 1) (el k a)).val : Int))] hK rfl rfl rfl rfl (Or.inr ⟨_, _, _, rfl, by decide, (by decide), rfl⟩) (c_pow_7 (FK.congr K ((hF 1 (by decide) (by decide) (by decide)).trans ((F107 1 (by decide)).trans ((F106 1 (by decide)).trans rfl)))) (fun a b => (congrFun ((hF 3 (by decide) (by decide) (by decide)).trans rfl) _).trans (hprd a b)) (sg (j - 1) (el k a))) ?_
                rintro _ Mq ⟨rfl, e_⟩
                subst Mq
                rw [show sg 1 (sg (j - 1) (el k a)) = sg j (el k a) from by rw [← sg_sg, show 1 + (j - 1) = j by omega]]
                refine ⟨(by show (0 : Nat) ≠ 9; decide), (?_ : Wp 7 _ 2 78 [(1, 1), (0, (j : Int)), (0, (a : Int))] [(0, ((sg j (el k a)).val : Int)), (0, (((j : Int) * 16) + (a : Int))), (1, 4)] N59 _)⟩
                refine w_call [(1, 4), (0, (((j : Int) * 16) + (a : Int))), (0, ((sg j (el k a)).val : Int))] hK rfl rfl rfl rfl (Or.inl rfl) (c_fput4_7 (((j : Int) * 16) + (a : Int)) ((sg j (el k a)).val : Int) (by omega) (by omega)) ?_
                rintro _ V108 ⟨rfl, u108⟩
                refine ⟨by decide, (?_ : Wp 7 _ 2 79 [(1, 1), (0, (j : Int)), (0, (a : Int))] [] V108 _)⟩
                refine w_inc [(1, 1), (0, (j : Int)), (0, ((a : Int) + 1))] hK rfl rfl rfl (by omega) (by omega) rfl ?_
                refine w_goto hK rfl ?_
                exact ih59 _ (by omega) (a + 1) _ _ _ V108 rfl (by omega) ((congrFun u108 4).trans (up_upr h4)) (((fun a (na_ : a ≠ 4) => (congrFun u108 a).trans (up_row na_)) 5 (by decide)).trans h5_) (((fun a (na_ : a ≠ 4) => (congrFun u108 a).trans (up_row na_)) 6 (by decide)).trans h6) (fun a n4_ n5_ n6_ => (((fun a (na_ : a ≠ 4) => (congrFun u108 a).trans (up_row na_)) a n4_).trans (hF a n4_ n5_ n6_))) hO hV (fun i x h => by
                  have := el_lt x
                  by_cases q : i = j ∧ x.val = a
                  · rw [q.1, q.2, upr_eq, show (el k a) = x from by rw [← q.2]; exact el_val x]
                  · rw [upr_ne (by omega)]
                    exact hI i x (by omega))
            exact lp59 _ 0 _ _ _ N53 rfl (by omega) h4 h5_ h6 (fun a n4_ n5_ n6_ => (hF a n4_ n5_ n6_)) hO hV hI
        exact lp53 _ 1 _ _ _ w2 N11 rfl (by omega) h4 h5_ h6 (fun a n4_ n5_ n6_ => (hF a n4_ n5_ n6_)) (fun x => hO x (by have := x.isLt; omega)) (fun x => hV x (by have := x.isLt; omega)) (fun i x h => by
          have i0_ : i = 0 := by omega
          rw [i0_, sg_0, show ((0 : Nat) : Int) * 16 + (x.val : Int) = (x.val : Int) by omega]
          exact hI4 x (by have := x.isLt; omega))
      · refine w_al hK rfl rfl ?_
        refine w_getr (n := 6) (v := 4) hK rfl rfl (by decide) (by decide) rfl rfl rfl rfl ?_
        refine w_il hK rfl rfl ?_
        refine w_il hK rfl rfl ?_
        refine w_call [(1, 4), (0, (a : Int)), (0, (a : Int))] hK rfl rfl rfl rfl (Or.inl rfl) (c_fput4_7 (a : Int) (a : Int) (by omega) (by omega)) ?_
        rintro _ V109 ⟨rfl, u109⟩
        refine ⟨by decide, (?_ : Wp 7 _ 2 20 [(1, 1), (0, (a : Int)), w2] [] V109 _)⟩
        refine w_ic hK rfl ?_
        refine w_is [(1, 1), (0, (a : Int)), (0, 0)] hK rfl rfl rfl ?_
        have lp22 : ∀ (n_ : Nat) (b : Nat) (T4 T5 T6 : Int → Int) (N22 : Mem), 17 - b = n_ → (b ≤ qq k) → (N22 4 = T4) → (N22 5 = T5) → (N22 6 = T6) → (T5 0 = 0) → ((∀ a : Int, a ≠ 4 → a ≠ 5 → a ≠ 6 → N22 a = V107 a)) → (∀ x : El k, x.val < a + 1 → T4 (x.val : Int) = (x.val : Int)) → (∀ x : El k, x.val < a → T6 (x.val : Int) = ((ng x).val : Int)) → (∀ x : El k, x.val < a → T5 (x.val : Int) = ((iv x).val : Int)) → ((ng (el k a)).val < b → T6 (a : Int) = ((ng (el k a)).val : Int)) → ((el k a) ≠ z0 → (iv (el k a)).val < b → T5 (a : Int) = ((iv (el k a)).val : Int)) → Wp 7 (d + 3) 2 22 [(1, 1), (0, (a : Int)), (0, (b : Int))] [] N22 (fun r M' => r = (4, 0) ∧ (∀ a b : El k, M' 2 ((a.val : Int) * 16 + (b.val : Int)) = ((ad a b).val : Int)) ∧ (∀ a b : El k, M' 3 ((a.val : Int) * 16 + (b.val : Int)) = ((ml a b).val : Int)) ∧ (∀ (j : Nat) (a : El k), j < mm k → M' 4 ((j : Int) * 16 + (a.val : Int)) = ((sg j a).val : Int)) ∧ (∀ a : El k, M' 5 (a.val : Int) = ((iv a).val : Int)) ∧ (∀ a : El k, M' 6 (a.val : Int) = ((ng a).val : Int)) ∧ (∀ a : Int, a ≠ 2 → a ≠ 3 → a ≠ 4 → a ≠ 5 → a ≠ 6 → M' a = M a)) := by
          intro n_
          induction n_ using Nat.strongRecOn with
          | _ n_ ih22 =>
          intro b T4 T5 T6 N22 hm22 hb h4 h5_ h6 hV0 hF hI4 hO hV hOa hVa
          refine w_il hK rfl rfl ?_
          refine w_al hK rfl rfl ?_
          refine w_geti (n := 1) (m := 1) hK rfl rfl (by decide) (by decide) rfl rfl rfl rfl ?_
          rw [show N22 1 1 = (qq k : Int) from ((congrFun (hF 1 (by decide) (by decide) (by decide)) 1).trans ((congrFun (F107 1 (by decide)) 1).trans ((congrFun (F106 1 (by decide)) 1).trans K.2.1)))]
          refine w_ge2 hK rfl (by omega) (by omega) (by omega) (by omega) (fun h25 => ?_) (fun h25 => ?_)
          · refine w_inc [(1, 1), (0, ((a : Int) + 1)), (0, (b : Int))] hK rfl rfl rfl (by omega) (by omega) rfl ?_
            refine w_goto hK rfl ?_
            have eb_ : b = qq k := by omega
            refine ih11 _ (by omega) (a + 1) _ _ _ (0, (b : Int)) N22 rfl (by omega) h4 h5_ h6 hV0 (fun a n4_ n5_ n6_ => (hF a n4_ n5_ n6_)) hI4 (fun x h => ?_) (fun x h => ?_)
            · by_cases q : x.val < a
              · exact hO x q
              · have e_ : x = el k a := Fin.ext (by rw [show (el k a).val = a from Nat.mod_eq_of_lt (by omega)]; omega)
                have i_ := (ng (el k a)).isLt
                rw [e_, show ((el k a).val : Int) = (a : Int) from elN (by omega)]
                exact hOa (by omega)
            · by_cases q : x.val < a
              · exact hV x q
              · have e_ : x = el k a := Fin.ext (by rw [show (el k a).val = a from Nat.mod_eq_of_lt (by omega)]; omega)
                have i_ := (iv (el k a)).isLt
                rw [e_, show ((el k a).val : Int) = (a : Int) from elN (by omega)]
                by_cases q2 : (el k a : El k) = z0
                · have a0_ : a = 0 := by have := z0_iff.mp q2; rw [show (el k a).val = a from Nat.mod_eq_of_lt (by omega)] at this; exact this
                  rw [a0_, iv_zero0 _ (by rfl), z0_val]
                  exact hV0
                · exact hVa q2 (by omega)
          · refine w_al hK rfl rfl ?_
            refine w_il hK rfl rfl ?_
            refine w_il hK rfl rfl ?_
            have xl_ := el_I (el k a)
            have yl_ := el_I (el k b)
            refine w_call [(1, 1), (0, (a : Int)), (0, (b : Int))] hK rfl rfl rfl rfl (Or.inr ⟨_, _, _, rfl, by decide, (by decide), rfl⟩) (Ct.cv (c_sumR_7 ((el k a).val : Int) ((el k b).val : Int) (by omega) (by omega) (by omega) (by omega)) (by simp only [(elN (k := k) (n := a) (by omega)), (elN (k := k) (n := b) (by omega))]; try rfl)) ?_
            rintro _ Mq ⟨rfl, e_⟩
            subst Mq
            rw [show N22 2 (((el k a).val : Int) * 16 + ((el k b).val : Int)) = ((ad (el k a) (el k b)).val : Int) from (congrFun ((hF 2 (by decide) (by decide) (by decide)).trans ((F107 2 (by decide)).trans rfl)) _).trans (hsum (el k a) (el k b))]
            have sI_ := el_I (ad (el k a) (el k b))
            refine ⟨(by show (0 : Nat) ≠ 9; decide), (?_ : Wp 7 _ 2 30 [(1, 1), (0, (a : Int)), (0, (b : Int))] [(0, ((ad (el k a) (el k b)).val : Int))] N22 _)⟩
            refine w_ne hK rfl (by omega) (by omega) (fun h30 => ?_) (fun h30 => ?_)
            · have hs0_ : ¬ ad (el k a) (el k b) = z0 := fun q => by have := z0_iff.mp q; omega
              refine w_al hK rfl rfl ?_
              refine w_il hK rfl rfl ?_
              refine w_il hK rfl rfl ?_
              have xl_ := el_I (el k a)
              have yl_ := el_I (el k b)
              refine w_call [(1, 1), (0, (a : Int)), (0, (b : Int))] hK rfl rfl rfl rfl (Or.inr ⟨_, _, _, rfl, by decide, (by decide), rfl⟩) (Ct.cv (c_prodR_7 ((el k a).val : Int) ((el k b).val : Int) (by omega) (by omega) (by omega) (by omega)) (by simp only [(elN (k := k) (n := a) (by omega)), (elN (k := k) (n := b) (by omega))]; try rfl)) ?_
              rintro _ Mq ⟨rfl, e_⟩
              subst Mq
              rw [show N22 3 (((el k a).val : Int) * 16 + ((el k b).val : Int)) = ((ml (el k a) (el k b)).val : Int) from (congrFun ((hF 3 (by decide) (by decide) (by decide)).trans rfl) _).trans (hprd (el k a) (el k b))]
              have sI_ := el_I (ml (el k a) (el k b))
              refine ⟨(by show (0 : Nat) ≠ 9; decide), (?_ : Wp 7 _ 2 40 [(1, 1), (0, (a : Int)), (0, (b : Int))] [(0, ((ml (el k a) (el k b)).val : Int))] N22 _)⟩
              refine w_ic hK rfl ?_
              refine w_ne2 hK rfl (by omega) (by omega) (by omega) (by omega) (fun h41 => ?_) (fun h41 => ?_)
              · have hp1_ : ¬ ml (el k a) (el k b) = e1 := fun q => by rw [q, e1_val] at h41; exact h41 rfl
                refine w_inc [(1, 1), (0, (a : Int)), (0, ((b : Int) + 1))] hK rfl rfl rfl (by omega) (by omega) rfl ?_
                refine w_goto hK rfl ?_
                have vb_ : (el k b).val = b := Nat.mod_eq_of_lt (by omega)
                have va_ : (el k a).val = a := Nat.mod_eq_of_lt (by omega)
                refine ih22 _ (by omega) (b + 1) _ _ _ N22 rfl (by omega) h4 h5_ h6 hV0 (fun a n4_ n5_ n6_ => (hF a n4_ n5_ n6_)) hI4 hO hV (fun q => ?_) (fun z q => ?_)
                · refine hOa ?_
                  rcases Nat.lt_or_ge (ng (el k a)).val b with w | w
                  · exact w
                  · exact absurd (ng_z0.mpr (Fin.ext (by omega))) hs0_
                · refine hVa z ?_
                  rcases Nat.lt_or_ge (iv (el k a)).val b with w | w
                  · exact w
                  · exact absurd (iv_e1.mpr ⟨z, Fin.ext (by omega)⟩) hp1_
              · have hp1_ : ml (el k a) (el k b) = e1 := Fin.ext (by rw [e1_val]; omega)
                refine w_al hK rfl rfl ?_
                refine w_getr (n := 7) (v := 5) hK rfl rfl (by decide) (by decide) rfl rfl rfl rfl ?_
                refine w_il hK rfl rfl ?_
                refine w_il hK rfl rfl ?_
                refine w_call [(1, 5), (0, (a : Int)), (0, (b : Int))] hK rfl rfl rfl rfl (Or.inl rfl) (c_fput5_7 (a : Int) (b : Int) (by omega) (by omega)) ?_
                rintro _ V110 ⟨rfl, u110⟩
                refine ⟨by decide, (?_ : Wp 7 _ 2 47 [(1, 1), (0, (a : Int)), (0, (b : Int))] [] V110 _)⟩
                refine w_inc [(1, 1), (0, (a : Int)), (0, ((b : Int) + 1))] hK rfl rfl rfl (by omega) (by omega) rfl ?_
                refine w_goto hK rfl ?_
                have vb_ : (el k b).val = b := Nat.mod_eq_of_lt (by omega)
                have va_ : (el k a).val = a := Nat.mod_eq_of_lt (by omega)
                refine ih22 _ (by omega) (b + 1) _ _ _ V110 rfl (by omega) (((fun a (na_ : a ≠ 5) => (congrFun u110 a).trans (up_row na_)) 4 (by decide)).trans h4) ((congrFun u110 5).trans (up_upr h5_)) (((fun a (na_ : a ≠ 5) => (congrFun u110 a).trans (up_row na_)) 6 (by decide)).trans h6) (by rw [upr_ne (by have := (iv_e1.mp hp1_).1; intro q; exact this (z0_iff.mpr (by omega)))]; exact hV0) (fun a n4_ n5_ n6_ => (((fun a (na_ : a ≠ 5) => (congrFun u110 a).trans (up_row na_)) a n5_).trans (hF a n4_ n5_ n6_))) hI4 hO (fun x h => by rw [upr_ne (by omega)]; exact hV x h) (fun q => ?_) (fun z q => ?_)
                · refine hOa ?_
                  rcases Nat.lt_or_ge (ng (el k a)).val b with w | w
                  · exact w
                  · exact absurd (ng_z0.mpr (Fin.ext (by omega))) hs0_
                · rw [upr_eq, ← (iv_e1.mp hp1_).2, vb_]
            · have hs0_ : ad (el k a) (el k b) = z0 := z0_iff.mpr (by omega)
              refine w_al hK rfl rfl ?_
              refine w_getr (n := 8) (v := 6) hK rfl rfl (by decide) (by decide) rfl rfl rfl rfl ?_
              refine w_il hK rfl rfl ?_
              refine w_il hK rfl rfl ?_
              refine w_call [(1, 6), (0, (a : Int)), (0, (b : Int))] hK rfl rfl rfl rfl (Or.inl rfl) (c_fput6_7 (a : Int) (b : Int) (by omega) (by omega)) ?_
              rintro _ V111 ⟨rfl, u111⟩
              refine ⟨by decide, (?_ : Wp 7 _ 2 36 [(1, 1), (0, (a : Int)), (0, (b : Int))] [] V111 _)⟩
              refine w_al hK rfl rfl ?_
              refine w_il hK rfl rfl ?_
              refine w_il hK rfl rfl ?_
              have xl_ := el_I (el k a)
              have yl_ := el_I (el k b)
              refine w_call [(1, 1), (0, (a : Int)), (0, (b : Int))] hK rfl rfl rfl rfl (Or.inr ⟨_, _, _, rfl, by decide, (by decide), rfl⟩) (Ct.cv (c_prodR_7 ((el k a).val : Int) ((el k b).val : Int) (by omega) (by omega) (by omega) (by omega)) (by simp only [(elN (k := k) (n := a) (by omega)), (elN (k := k) (n := b) (by omega))]; try rfl)) ?_
              rintro _ Mq ⟨rfl, e_⟩
              subst Mq
              rw [show V111 3 (((el k a).val : Int) * 16 + ((el k b).val : Int)) = ((ml (el k a) (el k b)).val : Int) from (congrFun (((fun a (na_ : a ≠ 6) => (congrFun u111 a).trans (up_row na_)) 3 (by decide)).trans ((hF 3 (by decide) (by decide) (by decide)).trans rfl)) _).trans (hprd (el k a) (el k b))]
              have sI_ := el_I (ml (el k a) (el k b))
              refine ⟨(by show (0 : Nat) ≠ 9; decide), (?_ : Wp 7 _ 2 40 [(1, 1), (0, (a : Int)), (0, (b : Int))] [(0, ((ml (el k a) (el k b)).val : Int))] V111 _)⟩
              refine w_ic hK rfl ?_
              refine w_ne2 hK rfl (by omega) (by omega) (by omega) (by omega) (fun h41 => ?_) (fun h41 => ?_)
              · have hp1_ : ¬ ml (el k a) (el k b) = e1 := fun q => by rw [q, e1_val] at h41; exact h41 rfl
                refine w_inc [(1, 1), (0, (a : Int)), (0, ((b : Int) + 1))] hK rfl rfl rfl (by omega) (by omega) rfl ?_
                refine w_goto hK rfl ?_
                have vb_ : (el k b).val = b := Nat.mod_eq_of_lt (by omega)
                have va_ : (el k a).val = a := Nat.mod_eq_of_lt (by omega)
                refine ih22 _ (by omega) (b + 1) _ _ _ V111 rfl (by omega) (((fun a (na_ : a ≠ 6) => (congrFun u111 a).trans (up_row na_)) 4 (by decide)).trans h4) (((fun a (na_ : a ≠ 6) => (congrFun u111 a).trans (up_row na_)) 5 (by decide)).trans h5_) ((congrFun u111 6).trans (up_upr h6)) hV0 (fun a n4_ n5_ n6_ => (((fun a (na_ : a ≠ 6) => (congrFun u111 a).trans (up_row na_)) a n6_).trans (hF a n4_ n5_ n6_))) hI4 (fun x h => by rw [upr_ne (by omega)]; exact hO x h) hV (fun q => ?_) (fun z q => ?_)
                · rw [upr_eq, ← ng_z0.mp hs0_, vb_]
                · refine hVa z ?_
                  rcases Nat.lt_or_ge (iv (el k a)).val b with w | w
                  · exact w
                  · exact absurd (iv_e1.mpr ⟨z, Fin.ext (by omega)⟩) hp1_
              · have hp1_ : ml (el k a) (el k b) = e1 := Fin.ext (by rw [e1_val]; omega)
                refine w_al hK rfl rfl ?_
                refine w_getr (n := 7) (v := 5) hK rfl rfl (by decide) (by decide) rfl rfl rfl rfl ?_
                refine w_il hK rfl rfl ?_
                refine w_il hK rfl rfl ?_
                refine w_call [(1, 5), (0, (a : Int)), (0, (b : Int))] hK rfl rfl rfl rfl (Or.inl rfl) (c_fput5_7 (a : Int) (b : Int) (by omega) (by omega)) ?_
                rintro _ V112 ⟨rfl, u112⟩
                refine ⟨by decide, (?_ : Wp 7 _ 2 47 [(1, 1), (0, (a : Int)), (0, (b : Int))] [] V112 _)⟩
                refine w_inc [(1, 1), (0, (a : Int)), (0, ((b : Int) + 1))] hK rfl rfl rfl (by omega) (by omega) rfl ?_
                refine w_goto hK rfl ?_
                have vb_ : (el k b).val = b := Nat.mod_eq_of_lt (by omega)
                have va_ : (el k a).val = a := Nat.mod_eq_of_lt (by omega)
                refine ih22 _ (by omega) (b + 1) _ _ _ V112 rfl (by omega) (((fun a (na_ : a ≠ 5) => (congrFun u112 a).trans (up_row na_)) 4 (by decide)).trans (((fun a (na_ : a ≠ 6) => (congrFun u111 a).trans (up_row na_)) 4 (by decide)).trans h4)) ((congrFun u112 5).trans (up_upr (((fun a (na_ : a ≠ 6) => (congrFun u111 a).trans (up_row na_)) 5 (by decide)).trans h5_))) (((fun a (na_ : a ≠ 5) => (congrFun u112 a).trans (up_row na_)) 6 (by decide)).trans ((congrFun u111 6).trans (up_upr h6))) (by rw [upr_ne (by have := (iv_e1.mp hp1_).1; intro q; exact this (z0_iff.mpr (by omega)))]; exact hV0) (fun a n4_ n5_ n6_ => (((fun a (na_ : a ≠ 5) => (congrFun u112 a).trans (up_row na_)) a n5_).trans (((fun a (na_ : a ≠ 6) => (congrFun u111 a).trans (up_row na_)) a n6_).trans (hF a n4_ n5_ n6_)))) hI4 (fun x h => by rw [upr_ne (by omega)]; exact hO x h) (fun x h => by rw [upr_ne (by omega)]; exact hV x h) (fun q => ?_) (fun z q => ?_)
                · rw [upr_eq, ← ng_z0.mp hs0_, vb_]
                · rw [upr_eq, ← (iv_e1.mp hp1_).2, vb_]
        refine lp22 _ 0 _ _ _ V109 rfl (by omega) ((congrFun u109 4).trans (up_upr h4)) (((fun a (na_ : a ≠ 4) => (congrFun u109 a).trans (up_row na_)) 5 (by decide)).trans h5_) (((fun a (na_ : a ≠ 4) => (congrFun u109 a).trans (up_row na_)) 6 (by decide)).trans h6) hV0 (fun a n4_ n5_ n6_ => (((fun a (na_ : a ≠ 4) => (congrFun u109 a).trans (up_row na_)) a n4_).trans (hF a n4_ n5_ n6_))) (fun x h => ?_) hO hV (fun q => by omega) (fun _ q => by omega)
        by_cases q : x.val = a
        · rw [q, upr_eq]
        · rw [upr_ne (by omega)]; exact hI4 x (by omega)
    exact lp11 _ 0 _ _ _ (3, 0) V107 rfl (by omega) rfl rfl rfl (by rw [show V107 5 0 = M 5 0 from congrFun ((F107 5 (by decide)).trans (F106 5 (by decide))) 0]; exact h50) (fun a n4_ n5_ n6_ => rfl) (fun x h => by omega) (fun x h => by omega) (fun x h => by omega)
  · exfalso; omega
set_option maxRecDepth 100000 in
theorem c_bec0_7 {d : Nat} {M : Mem} (h50 : M 5 0 = 0) : Ct 7 (d + 4) 1 [(1, 1), (0, 0)] M (fun r M' => r = (4, 0) ∧ FS M' 0 ∧ (∀ a : Int, a ≠ 1 → a ≠ 2 → a ≠ 3 → a ≠ 4 → a ≠ 5 → a ≠ 6 → M' a = M a)) := by
  have hK : cd 1 = k1 := rfl
  show Wp 7 _ 1 0 [(1, 1), (0, 0), (3, 0)] [] M _
  refine w_al hK rfl rfl ?_
  refine w_il hK rfl rfl ?_
  refine w_puti (n := 0) (m := 0) hK rfl rfl (by decide) (by decide) rfl rfl rfl rfl ?_
  refine w_al hK rfl rfl ?_
  refine w_il hK rfl rfl ?_
  refine w_ic hK rfl ?_
  refine w_ne2 hK rfl (by decide) (by decide) (by decide) (by decide) (fun h6 => ?_) (fun h6 => ?_)
  · refine w_ic hK rfl ?_
    refine w_puti (n := 2) (m := 2) hK rfl rfl (by decide) (by decide) rfl rfl rfl rfl ?_
    refine w_al hK rfl rfl ?_
    refine w_il hK rfl rfl ?_
    refine w_ic hK rfl ?_
    refine w_ne2 hK rfl (by decide) (by decide) (by decide) (by decide) (fun h14 => ?_) (fun h14 => ?_)
    · refine w_il hK rfl rfl ?_
      refine w_ic hK rfl ?_
      refine w_ne2 hK rfl (by decide) (by decide) (by decide) (by decide) (fun h19 => ?_) (fun h19 => ?_)
      · refine w_ic hK rfl ?_
        refine w_puti (n := 3) (m := 3) hK rfl rfl (by decide) (by decide) rfl rfl rfl rfl ?_
        refine w_al hK rfl rfl ?_
        refine w_ic hK rfl ?_
        refine w_puti (n := 1) (m := 1) hK rfl rfl (by decide) (by decide) rfl rfl rfl rfl ?_
        refine w_ic hK rfl ?_
        refine w_is [(1, 1), (0, 0), (0, 0)] hK rfl rfl rfl ?_
        refine w_il hK rfl rfl ?_
        refine w_al hK rfl rfl ?_
        refine w_geti (n := 3) (m := 3) hK rfl rfl (by decide) (by decide) rfl rfl rfl rfl ?_
        rw [show (up (up (up (up M 1 0 0) 1 2 2) 1 3 2) 1 1 1) 1 3 = 2 from ((up_ne2 (by omega)).trans up_eq)]
        refine w_ge2 hK rfl (by decide) (by decide) (by decide) (by decide) (fun h32 => ?_) (fun h32 => ?_)
        · exfalso; omega
        · refine w_al hK rfl rfl ?_
          refine w_dup hK rfl rfl ?_
          refine w_geti (n := 1) (m := 1) hK rfl rfl (by decide) (by decide) rfl rfl rfl rfl ?_
          rw [show (up (up (up (up M 1 0 0) 1 2 2) 1 3 2) 1 1 1) 1 1 = 1 from up_eq]
          refine w_al hK rfl rfl ?_
          refine w_geti (n := 2) (m := 2) hK rfl rfl (by decide) (by decide) rfl rfl rfl rfl ?_
          rw [show (up (up (up (up M 1 0 0) 1 2 2) 1 3 2) 1 1 1) 1 2 = 2 from ((up_ne2 (by omega)).trans ((up_ne2 (by omega)).trans up_eq))]
          refine w_mul hK rfl (by decide) (by decide) ?_
          refine w_puti (n := 1) (m := 1) hK rfl rfl (by decide) (by decide) rfl rfl rfl rfl ?_
          refine w_inc [(1, 1), (0, 0), (0, 1)] hK rfl rfl rfl (by decide) (by decide) rfl ?_
          refine w_goto hK rfl ?_
          refine w_il hK rfl rfl ?_
          refine w_al hK rfl rfl ?_
          refine w_geti (n := 3) (m := 3) hK rfl rfl (by decide) (by decide) rfl rfl rfl rfl ?_
          rw [show (up (up (up (up (up M 1 0 0) 1 2 2) 1 3 2) 1 1 1) 1 1 (1 * 2)) 1 3 = 2 from ((up_ne2 (by omega)).trans ((up_ne2 (by omega)).trans up_eq))]
          refine w_ge2 hK rfl (by decide) (by decide) (by decide) (by decide) (fun h32 => ?_) (fun h32 => ?_)
          · exfalso; omega
          · refine w_al hK rfl rfl ?_
            refine w_dup hK rfl rfl ?_
            refine w_geti (n := 1) (m := 1) hK rfl rfl (by decide) (by decide) rfl rfl rfl rfl ?_
            rw [show (up (up (up (up (up M 1 0 0) 1 2 2) 1 3 2) 1 1 1) 1 1 (1 * 2)) 1 1 = (1 * 2) from up_eq]
            refine w_al hK rfl rfl ?_
            refine w_geti (n := 2) (m := 2) hK rfl rfl (by decide) (by decide) rfl rfl rfl rfl ?_
            rw [show (up (up (up (up (up M 1 0 0) 1 2 2) 1 3 2) 1 1 1) 1 1 (1 * 2)) 1 2 = 2 from ((up_ne2 (by omega)).trans ((up_ne2 (by omega)).trans ((up_ne2 (by omega)).trans up_eq)))]
            refine w_mul hK rfl (by decide) (by decide) ?_
            refine w_puti (n := 1) (m := 1) hK rfl rfl (by decide) (by decide) rfl rfl rfl rfl ?_
            refine w_inc [(1, 1), (0, 0), (0, 2)] hK rfl rfl rfl (by decide) (by decide) rfl ?_
            refine w_goto hK rfl ?_
            refine w_il hK rfl rfl ?_
            refine w_al hK rfl rfl ?_
            refine w_geti (n := 3) (m := 3) hK rfl rfl (by decide) (by decide) rfl rfl rfl rfl ?_
            rw [show (up (up (up (up (up (up M 1 0 0) 1 2 2) 1 3 2) 1 1 1) 1 1 (1 * 2)) 1 1 ((1 * 2) * 2)) 1 3 = 2 from ((up_ne2 (by omega)).trans ((up_ne2 (by omega)).trans ((up_ne2 (by omega)).trans up_eq)))]
            refine w_ge2 hK rfl (by decide) (by decide) (by decide) (by decide) (fun h32 => ?_) (fun h32 => ?_)
            · refine w_al hK rfl rfl ?_
              have K_ : FK (up (up (up (up (up (up M 1 0 0) 1 2 2) 1 3 2) 1 1 1) 1 1 (1 * 2)) 1 1 ((1 * 2) * 2)) 0 := ⟨((up_ne2 (by omega)).trans ((up_ne2 (by omega)).trans ((up_ne2 (by omega)).trans ((up_ne2 (by omega)).trans ((up_ne2 (by omega)).trans up_eq))))), (up_eq).trans rfl, (((up_ne2 (by omega)).trans ((up_ne2 (by omega)).trans ((up_ne2 (by omega)).trans ((up_ne2 (by omega)).trans up_eq))))).trans rfl, (((up_ne2 (by omega)).trans ((up_ne2 (by omega)).trans ((up_ne2 (by omega)).trans up_eq)))).trans rfl⟩
              refine w_call [(1, 1)] hK rfl rfl rfl rfl (Or.inr ⟨_, _, _, rfl, by decide, (by decide), rfl⟩) (c_ftab_7 K_ ((congrFun ((up_row (by decide)).trans ((up_row (by decide)).trans ((up_row (by decide)).trans ((up_row (by decide)).trans ((up_row (by decide)).trans ((up_row (by decide)).trans rfl)))))) 0).trans h50)) ?_
              rintro _ V113 ⟨rfl, t2_, t3_, t4_, t5_, t6_, F113⟩
              refine ⟨by decide, (?_ : Wp 7 _ 1 44 [(1, 1), (0, 0), (0, 2)] [] V113 _)⟩
              refine w_ret hK rfl rfl ?_
              exact ⟨rfl, ⟨by decide, ⟨((congrFun (F113 1 (by decide) (by decide) (by decide) (by decide) (by decide)) 0).trans ((up_ne2 (by omega)).trans ((up_ne2 (by omega)).trans ((up_ne2 (by omega)).trans ((up_ne2 (by omega)).trans ((up_ne2 (by omega)).trans up_eq)))))), (((congrFun (F113 1 (by decide) (by decide) (by decide) (by decide) (by decide)) 1).trans up_eq)).trans rfl, (((congrFun (F113 1 (by decide) (by decide) (by decide) (by decide) (by decide)) 2).trans ((up_ne2 (by omega)).trans ((up_ne2 (by omega)).trans ((up_ne2 (by omega)).trans ((up_ne2 (by omega)).trans up_eq)))))).trans rfl, (((congrFun (F113 1 (by decide) (by decide) (by decide) (by decide) (by decide)) 3).trans ((up_ne2 (by omega)).trans ((up_ne2 (by omega)).trans ((up_ne2 (by omega)).trans up_eq))))).trans rfl⟩, t2_, t3_, t4_, t5_, t6_⟩, (fun a n1_ n2_ n3_ n4_ n5_ n6_ => ((F113 a n2_ n3_ n4_ n5_ n6_).trans ((up_row n1_).trans ((up_row n1_).trans ((up_row n1_).trans ((up_row n1_).trans ((up_row n1_).trans (up_row n1_))))))))⟩
            · exfalso; omega
      · exfalso; omega
    · exfalso; omega
  · exfalso; omega
