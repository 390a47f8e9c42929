/-! the reference: values */ -/
theorem ior0 {x : Int} (h1 : -2147483648 ≤ x) (h2 : x ≤ 2147483647) : (i32 x ||| i32 0).toInt = x := by
  rw [show i32 0 = (0 : Int32) from rfl, Int32.or_zero]
  exact i32_in h1 h2
theorem b16.or0 {x : Int} (h : b16 x) : (i32 x ||| i32 0).toInt = x := ior0 (by have := h.1; omega) (by have := h.2; omega)
set_option maxRecDepth 100000 in
theorem r_val {d : Nat} {M : Mem} {k : Nat} {R : Int → Option (Pl k)} (C : RS M k R) {x : Int} {f_x : Pl k} (hx : isK R x f_x) (bx17 : Bd f_x 17) (a : El k) : Ct 198 (d + 2) 259 [(1, 161), (1, x), (0, (a.val : Int))] M (fun r M' => r = (0, ((vl f_x a).val : Int)) ∧ M' = M) := by
  have hK : cd 259 = k259 := rfl
  have dx_ := dg_lt17 bx17
  show Wp 198 _ 259 0 [(1, 161), (1, x), (0, (a.val : Int)), (3, 0), (3, 0)] [] M _
  refine w_ic hK rfl ?_
  refine w_is [(1, 161), (1, x), (0, (a.val : Int)), (0, 0), (3, 0)] hK rfl rfl rfl ?_
  refine w_ic hK rfl ?_
  refine w_is [(1, 161), (1, x), (0, (a.val : Int)), (0, 0), (0, 0)] hK rfl rfl rfl ?_
  have lp4 : ∀ (n_ : Nat) (j : Nat), 18 - j = n_ → ((j : Int) ≤ dg f_x + 1) → Wp 198 (d + 2) 259 4 [(1, 161), (1, x), (0, (a.val : Int)), (0, ((sm (fun i => ml (f_x i) (chn a i)) j).val : Int)), (0, (j : Int))] [] M (fun r M' => r = (0, ((vl f_x a).val : Int)) ∧ M' = M) := by
    intro n_
    induction n_ using Nat.strongRecOn with
    | _ n_ ih4 =>
    intro j  hm4 hj
    refine w_il hK rfl rfl ?_
    refine w_al hK rfl rfl ?_
    have dI_ : -1 ≤ dg f_x ∧ dg f_x ≤ 47 := C.dI hx
    refine w_call [(1, x)] hK rfl rfl rfl rfl (Or.inl rfl) (r_deg C hx) ?_
    rintro _ Mq ⟨rfl, e_⟩
    subst Mq
    refine ⟨by show (0 : Nat) ≠ 9; decide, (?_ : Wp 198 _ 259 7 [(1, 161), (1, x), (0, (a.val : Int)), (0, ((sm (fun i => ml (f_x i) (chn a i)) j).val : Int)), (0, (j : Int))] [(0, (dg f_x)), (0, (j : Int))] M _)⟩
    refine w_gt2 hK rfl (by omega) (by omega) (by omega) (by omega) (fun h7 => ?_) (fun h7 => ?_)
    · refine w_il hK rfl rfl ?_
      refine w_iret hK rfl rfl ?_
      have e_ : vl f_x a = sm (fun i => ml (f_x i) (chn a i)) j := sm_more (by omega) (fun i h1 h2 => by rw [dg_z (bx17.mono (by decide)) (by omega), zero_ml])
      rw [e_]
      exact ⟨rfl, rfl⟩
    · refine w_al hK rfl rfl ?_
      refine w_il hK rfl rfl ?_
      refine w_al hK rfl rfl ?_
      refine w_al hK rfl rfl ?_
      refine w_il hK rfl rfl ?_
      refine w_ria hK rfl hx.1 (by omega) (by omega) ?_
      rw [show M x (j : Int) = ((f_x j).val : Int) from C.atz hx (j := j) (by omega) (by omega)]
      refine w_al hK rfl rfl ?_
      refine w_il hK rfl rfl ?_
      refine w_il hK rfl rfl ?_
      refine w_call [(1, 161), (0, (a.val : Int)), (0, (j : Int))] hK rfl rfl rfl rfl (Or.inr ⟨_, _, _, rfl, by decide, (by decide), rfl⟩) (r_norm C.F a j (by omega)) ?_
      rintro _ Mq ⟨rfl, e_⟩
      subst Mq
      have bv_ := el_I (chn a j)
      refine ⟨by show (0 : Nat) ≠ 9; decide, (?_ : Wp 198 _ 259 18 [(1, 161), (1, x), (0, (a.val : Int)), (0, ((sm (fun i => ml (f_x i) (chn a i)) j).val : Int)), (0, (j : Int))] [(0, ((chn a j).val : Int)), (0, ((f_x j).val : Int)), (1, 161), (0, ((sm (fun i => ml (f_x i) (chn a i)) j).val : Int)), (1, 161)] M _)⟩
      refine w_call [(1, 161), (0, ((f_x j).val : Int)), (0, ((chn a j).val : Int))] hK rfl rfl rfl rfl (Or.inr ⟨_, _, _, rfl, by decide, (by decide), rfl⟩) (r_mul C.F (f_x j) (chn a j)) ?_
      rintro _ Mq ⟨rfl, e_⟩
      subst Mq
      have bv_ := el_I (ml (f_x j) (chn a j))
      refine ⟨by show (0 : Nat) ≠ 9; decide, (?_ : Wp 198 _ 259 19 [(1, 161), (1, x), (0, (a.val : Int)), (0, ((sm (fun i => ml (f_x i) (chn a i)) j).val : Int)), (0, (j : Int))] [(0, ((ml (f_x j) (chn a j)).val : Int)), (0, ((sm (fun i => ml (f_x i) (chn a i)) j).val : Int)), (1, 161)] M _)⟩
      refine w_call [(1, 161), (0, ((sm (fun i => ml (f_x i) (chn a i)) j).val : Int)), (0, ((ml (f_x j) (chn a j)).val : Int))] hK rfl rfl rfl rfl (Or.inr ⟨_, _, _, rfl, by decide, (by decide), rfl⟩) (r_add C.F (sm (fun i => ml (f_x i) (chn a i)) j) (ml (f_x j) (chn a j))) ?_
      rintro _ Mq ⟨rfl, e_⟩
      subst Mq
      have bv_ := el_I (ad (sm (fun i => ml (f_x i) (chn a i)) j) (ml (f_x j) (chn a j)))
      refine ⟨by show (0 : Nat) ≠ 9; decide, (?_ : Wp 198 _ 259 20 [(1, 161), (1, x), (0, (a.val : Int)), (0, ((sm (fun i => ml (f_x i) (chn a i)) j).val : Int)), (0, (j : Int))] [(0, ((ad (sm (fun i => ml (f_x i) (chn a i)) j) (ml (f_x j) (chn a j))).val : Int))] M _)⟩
      refine w_is [(1, 161), (1, x), (0, (a.val : Int)), (0, ((ad (sm (fun i => ml (f_x i) (chn a i)) j) (ml (f_x j) (chn a j))).val : Int)), (0, (j : Int))] hK rfl rfl rfl ?_
      refine w_inc [(1, 161), (1, x), (0, (a.val : Int)), (0, ((ad (sm (fun i => ml (f_x i) (chn a i)) j) (ml (f_x j) (chn a j))).val : Int)), (0, ((j : Int) + 1))] hK rfl rfl rfl (by omega) (by omega) rfl ?_
      refine w_goto hK rfl ?_
      exact ih4 _ (by omega) (j + 1)  rfl (by omega)
  have q4 := lp4 _ 0  rfl (by omega)
  rw [show ((sm (fun i => ml (f_x i) (chn a i)) 0).val : Int) = 0 by simp [sm, z0_val]] at q4
  exact q4
set_option maxRecDepth 100000 in
theorem r_done {d : Nat} {M : Mem} {k : Nat} {R : Int → Option (Pl k)} (C : RS M k R) {x : Int} {f_x : Pl k} (hx : isK R x f_x) (bx9 : Bd f_x 9) (a : El k) : Ct 198 (d + 2) 263 [(1, 161), (1, x), (0, (a.val : Int))] M (fun r M' => r = (0, ((dn f_x a).val : Int)) ∧ M' = M) := by
  have hK : cd 263 = k263 := rfl
  show Wp 198 _ 263 0 [(1, 161), (1, x), (0, (a.val : Int)), (3, 0), (3, 0)] [] M _
  refine w_ic hK rfl ?_
  refine w_is [(1, 161), (1, x), (0, (a.val : Int)), (0, 0), (3, 0)] hK rfl rfl rfl ?_
  refine w_ic hK rfl ?_
  refine w_is [(1, 161), (1, x), (0, (a.val : Int)), (0, 0), (0, 0)] hK rfl rfl rfl ?_
  have lp4 : ∀ (n_ : Nat) (j : Nat), 10 - j = n_ → (j ≤ 9) → Wp 198 (d + 2) 263 4 [(1, 161), (1, x), (0, (a.val : Int)), (0, ((sm (fun i => ml (f_x i) (sg i a)) j).val : Int)), (0, (j : Int))] [] M (fun r M' => r = (0, ((dn f_x a).val : Int)) ∧ M' = M) := by
    intro n_
    induction n_ using Nat.strongRecOn with
    | _ n_ ih4 =>
    intro j  hm4 hj
    refine w_il hK rfl rfl ?_
    refine w_ic hK rfl ?_
    refine w_gt2 hK rfl (by omega) (by omega) (by omega) (by omega) (fun h6 => ?_) (fun h6 => ?_)
    · refine w_il hK rfl rfl ?_
      refine w_iret hK rfl rfl ?_
      have e_ : dn f_x a = sm (fun i => ml (f_x i) (sg i a)) j := sm_more (by omega) (fun i h1 h2 => by rw [bx9 i (by omega), zero_ml])
      rw [e_]
      exact ⟨rfl, rfl⟩
    · refine w_al hK rfl rfl ?_
      refine w_il hK rfl rfl ?_
      refine w_al hK rfl rfl ?_
      refine w_al hK rfl rfl ?_
      refine w_il hK rfl rfl ?_
      refine w_ria hK rfl hx.1 (by omega) (by omega) ?_
      rw [show M x (j : Int) = ((f_x j).val : Int) from C.atz hx (j := j) (by omega) (by omega)]
      refine w_al hK rfl rfl ?_
      refine w_il hK rfl rfl ?_
      refine w_il hK rfl rfl ?_
      refine w_call [(1, 161), (0, (a.val : Int)), (0, (j : Int))] hK rfl rfl rfl rfl (Or.inr ⟨_, _, _, rfl, by decide, (by decide), rfl⟩) (r_mapN C.F a j (by omega)) ?_
      rintro _ Mq ⟨rfl, e_⟩
      subst Mq
      have bv_ := el_I (sg j a)
      refine ⟨by show (0 : Nat) ≠ 9; decide, (?_ : Wp 198 _ 263 17 [(1, 161), (1, x), (0, (a.val : Int)), (0, ((sm (fun i => ml (f_x i) (sg i a)) j).val : Int)), (0, (j : Int))] [(0, ((sg j a).val : Int)), (0, ((f_x j).val : Int)), (1, 161), (0, ((sm (fun i => ml (f_x i) (sg i a)) j).val : Int)), (1, 161)] M _)⟩
      refine w_call [(1, 161), (0, ((f_x j).val : Int)), (0, ((sg j a).val : Int))] hK rfl rfl rfl rfl (Or.inr ⟨_, _, _, rfl, by decide, (by decide), rfl⟩) (r_mul C.F (f_x j) (sg j a)) ?_
      rintro _ Mq ⟨rfl, e_⟩
      subst Mq
      have bv_ := el_I (ml (f_x j) (sg j a))
      refine ⟨by show (0 : Nat) ≠ 9; decide, (?_ : Wp 198 _ 263 18 [(1, 161), (1, x), (0, (a.val : Int)), (0, ((sm (fun i => ml (f_x i) (sg i a)) j).val : Int)), (0, (j : Int))] [(0, ((ml (f_x j) (sg j a)).val : Int)), (0, ((sm (fun i => ml (f_x i) (sg i a)) j).val : Int)), (1, 161)] M _)⟩
      refine w_call [(1, 161), (0, ((sm (fun i => ml (f_x i) (sg i a)) j).val : Int)), (0, ((ml (f_x j) (sg j a)).val : Int))] hK rfl rfl rfl rfl (Or.inr ⟨_, _, _, rfl, by decide, (by decide), rfl⟩) (r_add C.F (sm (fun i => ml (f_x i) (sg i a)) j) (ml (f_x j) (sg j a))) ?_
      rintro _ Mq ⟨rfl, e_⟩
      subst Mq
      have bv_ := el_I (ad (sm (fun i => ml (f_x i) (sg i a)) j) (ml (f_x j) (sg j a)))
      refine ⟨by show (0 : Nat) ≠ 9; decide, (?_ : Wp 198 _ 263 19 [(1, 161), (1, x), (0, (a.val : Int)), (0, ((sm (fun i => ml (f_x i) (sg i a)) j).val : Int)), (0, (j : Int))] [(0, ((ad (sm (fun i => ml (f_x i) (sg i a)) j) (ml (f_x j) (sg j a))).val : Int))] M _)⟩
      refine w_is [(1, 161), (1, x), (0, (a.val : Int)), (0, ((ad (sm (fun i => ml (f_x i) (sg i a)) j) (ml (f_x j) (sg j a))).val : Int)), (0, (j : Int))] hK rfl rfl rfl ?_
      refine w_inc [(1, 161), (1, x), (0, (a.val : Int)), (0, ((ad (sm (fun i => ml (f_x i) (sg i a)) j) (ml (f_x j) (sg j a))).val : Int)), (0, ((j : Int) + 1))] hK rfl rfl rfl (by omega) (by omega) rfl ?_
      refine w_goto hK rfl ?_
      exact ih4 _ (by omega) (j + 1)  rfl (by omega)
  have q4 := lp4 _ 0  rfl (by omega)
  rw [show ((sm (fun i => ml (f_x i) (sg i a)) 0).val : Int) = 0 by simp [sm, z0_val]] at q4
  exact q4
set_option maxRecDepth 100000 in
theorem r_rts {d : Nat} {M : Mem} {k : Nat} {R : Int → Option (Pl k)} (C : RS M k R) {x : Int} {f_x : Pl k} (hx : isK R x f_x) (bx17 : Bd f_x 17) : Ct 198 (d + 3) 261 [(1, 161), (1, x)] M (fun r M' => r = (0, rts f_x (qq k)) ∧ M' = M) := by
  have hK : cd 261 = k261 := rfl
  have q1_ := qq_I k
  have p1_ := pp_I k
  have m1_ := mm_I k
  show Wp 198 _ 261 0 [(1, 161), (1, x), (3, 0), (3, 0)] [] M _
  refine w_ic hK rfl ?_
  refine w_is [(1, 161), (1, x), (0, 0), (3, 0)] hK rfl rfl rfl ?_
  refine w_ic hK rfl ?_
  refine w_is [(1, 161), (1, x), (0, 0), (0, 0)] hK rfl rfl rfl ?_
  have lp4 : ∀ (n_ : Nat) (j : Nat), 17 - j = n_ → (j ≤ qq k) → Wp 198 (d + 3) 261 4 [(1, 161), (1, x), (0, rts f_x j), (0, (j : Int))] [] M (fun r M' => r = (0, rts f_x (qq k)) ∧ M' = M) := by
    intro n_
    induction n_ using Nat.strongRecOn with
    | _ n_ ih4 =>
    intro j  hm4 hj
    refine w_il hK rfl rfl ?_
    refine w_al hK rfl rfl ?_
    refine w_geti (n := 1) (m := 1) hK rfl rfl (by decide) (by decide) rfl rfl rfl rfl ?_
    rw [show M 161 1 = (qq k : Int) from C.F.q]
    refine w_ge2 hK rfl (by omega) (by omega) (by omega) (by omega) (fun h7 => ?_) (fun h7 => ?_)
    · refine w_il hK rfl rfl ?_
      refine w_iret hK rfl rfl ?_
      have e_ : j = qq k := by omega
      subst e_
      exact ⟨rfl, rfl⟩
    · refine w_il hK rfl rfl ?_
      refine w_al hK rfl rfl ?_
      refine w_al hK rfl rfl ?_
      refine w_il hK rfl rfl ?_
      refine w_call [(1, 161), (1, x), (0, (j : Int))] hK rfl rfl rfl rfl (Or.inr ⟨_, _, _, rfl, by decide, (by decide), rfl⟩) (Ct.cv (r_val C hx bx17 (el k j)) (by simp only [(elN (k := k) (n := j) (by omega))]; try rfl)) ?_
      rintro _ Mq ⟨rfl, e_⟩
      subst Mq
      have bv_ := el_I (vl f_x (el k j))
      refine ⟨by show (0 : Nat) ≠ 9; decide, (?_ : Wp 198 _ 261 13 [(1, 161), (1, x), (0, rts f_x j), (0, (j : Int))] [(0, ((vl f_x (el k j)).val : Int)), (0, rts f_x j)] M _)⟩
      refine w_ne hK rfl (by omega) (by omega) (fun h13 => ?_) (fun h13 => ?_)
      · refine w_ic hK rfl ?_
        refine w_bin (w := i32 (rts f_x j) ||| i32 0) hK rfl rfl rfl ?_
        refine w_is [(1, 161), (1, x), (0, (i32 (rts f_x j) ||| i32 0).toInt), (0, (j : Int))] hK rfl rfl rfl ?_
        refine w_inc [(1, 161), (1, x), (0, (i32 (rts f_x j) ||| i32 0).toInt), (0, ((j : Int) + 1))] hK rfl rfl rfl (by omega) (by omega) rfl ?_
        refine w_goto hK rfl ?_
        have q4 := ih4 _ (by omega) (j + 1)  rfl (by omega)
        rw [show rts f_x (j + 1) = (i32 (rts f_x j) ||| i32 0).toInt from (if_neg (fun q => by rw [q, z0_val] at h13; exact h13 rfl)).trans (rts_16 f_x j (by omega)).or0.symm] at q4
        exact q4
      · refine w_ic hK rfl ?_
        refine w_il hK rfl rfl ?_
        refine w_bin (w := i32 1 <<< (i32 (j : Int) &&& 31)) hK rfl rfl rfl ?_
        refine w_goto hK rfl ?_
        refine w_bin (w := i32 (rts f_x j) ||| i32 ((i32 1 <<< (i32 (j : Int) &&& 31)).toInt)) hK rfl rfl rfl ?_
        refine w_is [(1, 161), (1, x), (0, (i32 (rts f_x j) ||| i32 ((i32 1 <<< (i32 (j : Int) &&& 31)).toInt)).toInt), (0, (j : Int))] hK rfl rfl rfl ?_
        refine w_inc [(1, 161), (1, x), (0, (i32 (rts f_x j) ||| i32 ((i32 1 <<< (i32 (j : Int) &&& 31)).toInt)).toInt), (0, ((j : Int) + 1))] hK rfl rfl rfl (by omega) (by omega) rfl ?_
        refine w_goto hK rfl ?_
        have q4 := ih4 _ (by omega) (j + 1)  rfl (by omega)
        rw [show rts f_x (j + 1) = bset (rts f_x j) j from if_pos (z0_iff.mpr (by omega))] at q4
        exact q4
  exact lp4 _ 0  rfl (by omega)
set_option maxRecDepth 100000 in
theorem r_least {d : Nat} {M : Mem} {k : Nat} {R : Int → Option (Pl k)} (C : RS M k R) {x : Int} {f_x : Pl k} (hx : isK R x f_x) (bx9 : Bd f_x 9) (a : El k) : Ct 198 (d + 3) 269 [(1, 161), (1, x), (0, (a.val : Int))] M (fun r M' => r = (0, lst f_x a (qq k - 1)) ∧ M' = M) := by
  have hK : cd 269 = k269 := rfl
  have q1_ := qq_I k
  have p1_ := pp_I k
  have m1_ := mm_I k
  show Wp 198 _ 269 0 [(1, 161), (1, x), (0, (a.val : Int)), (3, 0)] [] M _
  refine w_ic hK rfl ?_
  refine w_is [(1, 161), (1, x), (0, (a.val : Int)), (0, 1)] hK rfl rfl rfl ?_
  have lp2 : ∀ (n_ : Nat) (j : Nat), 17 - j = n_ → (j + 1 ≤ qq k) → (lst f_x a j = 0) → Wp 198 (d + 3) 269 2 [(1, 161), (1, x), (0, (a.val : Int)), (0, (((j + 1) : Nat) : Int))] [] M (fun r M' => r = (0, lst f_x a (qq k - 1)) ∧ M' = M) := by
    intro n_
    induction n_ using Nat.strongRecOn with
    | _ n_ ih2 =>
    intro j  hm2 hj h0
    refine w_il hK rfl rfl ?_
    refine w_al hK rfl rfl ?_
    refine w_geti (n := 1) (m := 1) hK rfl rfl (by decide) (by decide) rfl rfl rfl rfl ?_
    rw [show M 161 1 = (qq k : Int) from C.F.q]
    refine w_ge2 hK rfl (by omega) (by omega) (by omega) (by omega) (fun h5 => ?_) (fun h5 => ?_)
    · refine w_ic hK rfl ?_
      refine w_iret hK rfl rfl ?_
      have e1_ : qq k - 1 = j := by omega
      rw [e1_, h0]
      exact ⟨rfl, rfl⟩
    · refine w_al hK rfl rfl ?_
      refine w_al hK rfl rfl ?_
      refine w_il hK rfl rfl ?_
      refine w_call [(1, 161), (1, x), (0, (((j + 1) : Nat) : Int))] hK rfl rfl rfl rfl (Or.inr ⟨_, _, _, rfl, by decide, (by decide), rfl⟩) (Ct.cv (r_done C hx bx9 (el k (j + 1))) (by simp only [(elN (k := k) (n := (j + 1)) (by omega))]; try rfl)) ?_
      rintro _ Mq ⟨rfl, e_⟩
      subst Mq
      have bv_ := el_I (dn f_x (el k (j + 1)))
      refine ⟨by show (0 : Nat) ≠ 9; decide, (?_ : Wp 198 _ 269 10 [(1, 161), (1, x), (0, (a.val : Int)), (0, (((j + 1) : Nat) : Int))] [(0, ((dn f_x (el k (j + 1))).val : Int))] M _)⟩
      refine w_al hK rfl rfl ?_
      refine w_il hK rfl rfl ?_
      refine w_il hK rfl rfl ?_
      refine w_call [(1, 161), (0, (a.val : Int)), (0, (((j + 1) : Nat) : Int))] hK rfl rfl rfl rfl (Or.inr ⟨_, _, _, rfl, by decide, (by decide), rfl⟩) (Ct.cv (r_mul C.F a (el k (j + 1))) (by simp only [(elN (k := k) (n := (j + 1)) (by omega))]; try rfl)) ?_
      rintro _ Mq ⟨rfl, e_⟩
      subst Mq
      have bv_ := el_I (ml a (el k (j + 1)))
      refine ⟨by show (0 : Nat) ≠ 9; decide, (?_ : Wp 198 _ 269 14 [(1, 161), (1, x), (0, (a.val : Int)), (0, (((j + 1) : Nat) : Int))] [(0, ((ml a (el k (j + 1))).val : Int)), (0, ((dn f_x (el k (j + 1))).val : Int))] M _)⟩
      refine w_ne2 hK rfl (by omega) (by omega) (by omega) (by omega) (fun h14 => ?_) (fun h14 => ?_)
      · refine w_inc [(1, 161), (1, x), (0, (a.val : Int)), (0, ((((j + 1) : Nat) : Int) + 1))] hK rfl rfl rfl (by omega) (by omega) rfl ?_
        refine w_goto hK rfl ?_
        exact ih2 _ (by omega) (j + 1)  rfl (by omega) (by show (if _ then _ else _) = _; rw [if_neg (by omega), if_neg (fun q => by rw [q] at h14; exact h14 rfl)])
      · refine w_il hK rfl rfl ?_
        refine w_iret hK rfl rfl ?_
        have e1_ : lst f_x a (j + 1) = (j : Int) + 1 := by
          show (if _ then _ else _) = _
          rw [if_neg (by omega), if_pos (Fin.ext (by omega))]
        have e2_ := lst_keep (f := f_x) (a := a) (n := j + 1) (by omega) (m := qq k - 1) (by omega)
        exact ⟨by rw [e2_, e1_]; rfl, rfl⟩
  exact lp2 _ 0  rfl (by omega) rfl
set_option maxRecDepth 100000 in
theorem r_vtoo {d : Nat} {M : Mem} {k : Nat} {R : Int → Option (Pl k)} (C : RS M k R) {x : Int} {f_x : Pl k} (hx : isK R x f_x) (a v : El k) (hx_ : x < 170 ∨ (170 < x ∧ x < 181) ∨ 181 < x) (hd : dg f_x ≤ 40) : Ct 198 (d + 2) 266 [(1, 161), (1, x), (0, (a.val : Int)), (0, (v.val : Int))] M (fun r_ M' => ∃ R' : Int → Option (Pl k), r_ = (4, 0) ∧ RS M' k R' ∧ (∀ a : Int, (∀ p : Int, isR p → a ≠ p) → M' a = M a) ∧ (∀ p : Int, p ≠ 170 → p ≠ 181 → p ≠ x → R' p = R p) ∧ R' x = some (mlp (up1 (tpw 1) 0 (ng (cjg a v))) f_x)) := by
  have hK : cd 266 = k266 := rfl
  show Wp 198 _ 266 0 [(1, 161), (1, x), (0, (a.val : Int)), (0, (v.val : Int))] [] M _
  refine w_al hK rfl rfl ?_
  refine w_getr (n := 27) (v := 181) hK rfl rfl (by decide) (by decide) rfl rfl rfl rfl ?_
  refine w_call [(1, 181)] hK rfl rfl rfl rfl (Or.inl rfl) (r_clear C (isR_of (p := 181) rfl)) ?_
  rintro _ V414 ⟨P414, rfl, C414, S414, F414, f414_0⟩
  refine ⟨by decide, (?_ : Wp 198 _ 266 3 [(1, 161), (1, x), (0, (a.val : Int)), (0, (v.val : Int))] [] V414 _)⟩
  refine w_al hK rfl rfl ?_
  refine w_getr (n := 27) (v := 181) hK rfl rfl (by decide) (by decide) rfl rfl rfl rfl ?_
  refine w_ic hK rfl ?_
  refine w_ic hK rfl ?_
  refine w_iat hK rfl rfl (by decide) (by decide) (by omega) (by omega) ?_
  refine w_al hK rfl rfl ?_
  refine w_getr (n := 27) (v := 181) hK rfl rfl (by decide) (by decide) rfl rfl rfl rfl ?_
  refine w_ic hK rfl ?_
  refine w_al hK rfl rfl ?_
  refine w_getr (n := 6) (v := 164) hK rfl rfl (by decide) (by decide) rfl rfl rfl rfl ?_
  refine w_al hK rfl rfl ?_
  refine w_al hK rfl rfl ?_
  refine w_al hK rfl rfl ?_
  refine w_il hK rfl rfl ?_
  refine w_ic hK rfl ?_
  refine w_call [(1, 161), (0, (v.val : Int)), (0, 1)] hK rfl rfl rfl rfl (Or.inr ⟨_, _, _, rfl, by decide, (by decide), rfl⟩) (r_mapN (RS.up C414 ⟨(isR_of (p := 181) rfl), f414_0⟩ (j := 1) (by omega) (by omega) (e := e1) el1.symm).F v 1 (by omega)) ?_
  rintro _ Mq ⟨rfl, e_⟩
  subst Mq
  have bv_ := el_I (sg 1 v)
  refine ⟨by show (0 : Nat) ≠ 9; decide, (?_ : Wp 198 _ 266 19 [(1, 161), (1, x), (0, (a.val : Int)), (0, (v.val : Int))] [(0, ((sg 1 v).val : Int)), (1, 161), (1, 161), (1, 164), (0, 0), (1, 181)] (up V414 181 1 1) _)⟩
  refine w_il hK rfl rfl ?_
  refine w_call [(1, 161), (0, ((sg 1 v).val : Int)), (0, (a.val : Int))] hK rfl rfl rfl rfl (Or.inr ⟨_, _, _, rfl, by decide, (by decide), rfl⟩) (r_mul (RS.up C414 ⟨(isR_of (p := 181) rfl), f414_0⟩ (j := 1) (by omega) (by omega) (e := e1) el1.symm).F (sg 1 v) a) ?_
  rintro _ Mq ⟨rfl, e_⟩
  subst Mq
  have bv_ := el_I (ml (sg 1 v) a)
  refine ⟨by show (0 : Nat) ≠ 9; decide, (?_ : Wp 198 _ 266 21 [(1, 161), (1, x), (0, (a.val : Int)), (0, (v.val : Int))] [(0, ((ml (sg 1 v) a).val : Int)), (1, 161), (1, 164), (0, 0), (1, 181)] (up V414 181 1 1) _)⟩
  refine w_al hK rfl rfl ?_
  refine w_getr (n := 7) (v := 165) hK rfl rfl (by decide) (by decide) rfl rfl rfl rfl ?_
  refine w_il hK rfl rfl ?_
  have bv1_ := el_I v
  refine w_ia hK rfl rfl (by decide) (by decide) (by omega) (by omega) ?_
  rw [show (up V414 181 1 1) 165 (v.val : Int) = ((iv v).val : Int) from (RS.up C414 ⟨(isR_of (p := 181) rfl), f414_0⟩ (j := 1) (by omega) (by omega) (e := e1) el1.symm).F.v v]
  refine w_call [(1, 161), (0, ((ml (sg 1 v) a).val : Int)), (0, ((iv v).val : Int))] hK rfl rfl rfl rfl (Or.inr ⟨_, _, _, rfl, by decide, (by decide), rfl⟩) (r_mul (RS.up C414 ⟨(isR_of (p := 181) rfl), f414_0⟩ (j := 1) (by omega) (by omega) (e := e1) el1.symm).F (ml (sg 1 v) a) (iv v)) ?_
  rintro _ Mq ⟨rfl, e_⟩
  subst Mq
  have bv_ := el_I (ml (ml (sg 1 v) a) (iv v))
  refine ⟨by show (0 : Nat) ≠ 9; decide, (?_ : Wp 198 _ 266 26 [(1, 161), (1, x), (0, (a.val : Int)), (0, (v.val : Int))] [(0, ((ml (ml (sg 1 v) a) (iv v)).val : Int)), (1, 164), (0, 0), (1, 181)] (up V414 181 1 1) _)⟩
  have bv2_ := el_I (ml (ml (sg 1 v) a) (iv v))
  refine w_ia hK rfl rfl (by decide) (by decide) (by omega) (by omega) ?_
  rw [show (up V414 181 1 1) 164 ((ml (ml (sg 1 v) a) (iv v)).val : Int) = ((ng (ml (ml (sg 1 v) a) (iv v))).val : Int) from (RS.up C414 ⟨(isR_of (p := 181) rfl), f414_0⟩ (j := 1) (by omega) (by omega) (e := e1) el1.symm).F.n (ml (ml (sg 1 v) a) (iv v))]
  refine w_iat hK rfl rfl (by decide) (by decide) (by omega) (by omega) ?_
  have ld_ : dg (up1 (up1 pz 1 e1) 0 (ng (ml (ml (sg 1 v) a) (iv v)))) = 1 := lin_dg _
  refine w_al hK rfl rfl ?_
  refine w_al hK rfl rfl ?_
  refine w_getr (n := 27) (v := 181) hK rfl rfl (by decide) (by decide) rfl rfl rfl rfl ?_
  refine w_al hK rfl rfl ?_
  refine w_al hK rfl rfl ?_
  refine w_call [(1, 161), (1, 181), (1, x), (1, x)] hK rfl rfl rfl rfl (Or.inr ⟨_, _, _, rfl, by decide, (by decide), rfl⟩) (r_prod (RS.up (RS.up C414 ⟨(isR_of (p := 181) rfl), f414_0⟩ (j := 1) (by omega) (by omega) (e := e1) el1.symm) ⟨(isR_of (p := 181) rfl), pu_eq⟩ (j := 0) (by omega) (by omega) (e := (ng (ml (ml (sg 1 v) a) (iv v)))) rfl) ⟨(isR_of (p := 181) rfl), pu_eq⟩ ⟨hx.1, ((pu_ne (P := pu P414 181 (up1 pz 1 e1)) (f := up1 (up1 pz 1 e1) 0 (ng (ml (ml (sg 1 v) a) (iv v)))) (show x ≠ 181 by omega)).trans ((pu_ne (P := P414) (f := up1 pz 1 e1) (show x ≠ 181 by omega)).trans ((F414 x (by omega)).trans hx.2)))⟩ hx.1 (by omega) (by omega) (by omega) (by omega)) ?_
  rintro _ V415 ⟨P415, rfl, C415, S415, F415, f415_0⟩
  refine ⟨by decide, (?_ : Wp 198 _ 266 34 [(1, 161), (1, x), (0, (a.val : Int)), (0, (v.val : Int))] [] V415 _)⟩
  refine w_ret hK rfl rfl ?_
  exact ⟨_, rfl, C415, (fun a nr_ => ((S415 a nr_).trans ((up_row (nr_ 181 (isR_of (p := 181) rfl))).trans ((up_row (nr_ 181 (isR_of (p := 181) rfl))).trans (S414 a nr_))))), (fun p pn170_ pn181_ pnx_ => ((F415 p pn170_ pnx_).trans ((pu_ne (P := pu P414 181 (up1 pz 1 e1)) (f := up1 (up1 pz 1 e1) 0 (ng (ml (ml (sg 1 v) a) (iv v)))) (show p ≠ 181 by omega)).trans ((pu_ne (P := P414) (f := up1 pz 1 e1) (show p ≠ 181 by omega)).trans (F414 p pn181_))))), f415_0⟩
set_option maxRecDepth 100000 in
theorem r_turn {d : Nat} {M : Mem} {k : Nat} {R : Int → Option (Pl k)} (C : RS M k R) {x : Int} {f_x : Pl k} (hx : isK R x f_x) {y : Int} {f_y : Pl k} (hy : isK R y f_y) {q : Pl k} (hq : R 174 = some q) (hx_ : (174 < x ∧ x < 179) ∨ 179 < x) (hy_ : (174 < y ∧ y < 179) ∨ 179 < y) (hxy : x ≠ y) (hd : dg q + dg f_y ≤ 46) : Ct 198 (d + 2) 255 [(1, 161), (1, x), (1, y)] M (fun r_ M' => ∃ R' : Int → Option (Pl k), r_ = (4, 0) ∧ RS M' k R' ∧ (∀ a : Int, (∀ p : Int, isR p → a ≠ p) → M' a = M a) ∧ (∀ p : Int, p ≠ 170 → p ≠ 179 → p ≠ x → p ≠ y → R' p = R p) ∧ R' x = some (f_y) ∧ R' y = some (sbp f_x (mlp q f_y))) := by
  have hK : cd 255 = k255 := rfl
  show Wp 198 _ 255 0 [(1, 161), (1, x), (1, y)] [] M _
  refine w_al hK rfl rfl ?_
  refine w_al hK rfl rfl ?_
  refine w_getr (n := 20) (v := 174) hK rfl rfl (by decide) (by decide) rfl rfl rfl rfl ?_
  refine w_al hK rfl rfl ?_
  refine w_al hK rfl rfl ?_
  refine w_getr (n := 25) (v := 179) hK rfl rfl (by decide) (by decide) rfl rfl rfl rfl ?_
  refine w_call [(1, 161), (1, 174), (1, y), (1, 179)] hK rfl rfl rfl rfl (Or.inr ⟨_, _, _, rfl, by decide, (by decide), rfl⟩) (r_prod C ⟨isR_of (p := 174) rfl, hq⟩ hy (isR_of (p := 179) rfl) (by omega) (by omega) (by omega) (by omega)) ?_
  rintro _ V416 ⟨P416, rfl, C416, S416, F416, f416_0⟩
  refine ⟨by decide, (?_ : Wp 198 _ 255 7 [(1, 161), (1, x), (1, y)] [] V416 _)⟩
  refine w_al hK rfl rfl ?_
  refine w_al hK rfl rfl ?_
  refine w_getr (n := 25) (v := 179) hK rfl rfl (by decide) (by decide) rfl rfl rfl rfl ?_
  refine w_al hK rfl rfl ?_
  refine w_call [(1, 161), (1, 179), (1, x)] hK rfl rfl rfl rfl (Or.inr ⟨_, _, _, rfl, by decide, (by decide), rfl⟩) (r_less C416 ⟨(isR_of (p := 179) rfl), f416_0⟩ ⟨hx.1, ((F416 x (by omega) (by omega)).trans hx.2)⟩ (by omega)) ?_
  rintro _ V417 ⟨P417, rfl, C417, S417, F417, f417_0⟩
  refine ⟨by decide, (?_ : Wp 198 _ 255 12 [(1, 161), (1, x), (1, y)] [] V417 _)⟩
  refine w_al hK rfl rfl ?_
  refine w_al hK rfl rfl ?_
  refine w_getr (n := 25) (v := 179) hK rfl rfl (by decide) (by decide) rfl rfl rfl rfl ?_
  refine w_call [(1, x), (1, 179)] hK rfl rfl rfl rfl (Or.inl rfl) (r_copy C417 ⟨hx.1, f417_0⟩ (isR_of (p := 179) rfl) (by omega)) ?_
  rintro _ V418 ⟨P418, rfl, C418, S418, F418, f418_0⟩
  refine ⟨by decide, (?_ : Wp 198 _ 255 16 [(1, 161), (1, x), (1, y)] [] V418 _)⟩
  refine w_al hK rfl rfl ?_
  refine w_al hK rfl rfl ?_
  refine w_call [(1, y), (1, x)] hK rfl rfl rfl rfl (Or.inl rfl) (r_copy C418 ⟨hy.1, ((F418 y (by omega)).trans ((F417 y (by omega)).trans ((F416 y (by omega) (by omega)).trans hy.2)))⟩ hx.1 (by omega)) ?_
  rintro _ V419 ⟨P419, rfl, C419, S419, F419, f419_0⟩
  refine ⟨by decide, (?_ : Wp 198 _ 255 19 [(1, 161), (1, x), (1, y)] [] V419 _)⟩
  refine w_al hK rfl rfl ?_
  refine w_getr (n := 25) (v := 179) hK rfl rfl (by decide) (by decide) rfl rfl rfl rfl ?_
  refine w_al hK rfl rfl ?_
  refine w_call [(1, 179), (1, y)] hK rfl rfl rfl rfl (Or.inl rfl) (r_copy C419 ⟨(isR_of (p := 179) rfl), ((F419 179 (by omega)).trans f418_0)⟩ hy.1 (by omega)) ?_
  rintro _ V420 ⟨P420, rfl, C420, S420, F420, f420_0⟩
  refine ⟨by decide, (?_ : Wp 198 _ 255 23 [(1, 161), (1, x), (1, y)] [] V420 _)⟩
  refine w_ret hK rfl rfl ?_
  exact ⟨_, rfl, C420, (fun a nr_ => ((S420 a nr_).trans ((S419 a nr_).trans ((S418 a nr_).trans ((S417 a nr_).trans (S416 a nr_)))))), (fun p pn170_ pn179_ pnx_ pny_ => ((F420 p pny_).trans ((F419 p pnx_).trans ((F418 p pn179_).trans ((F417 p pnx_).trans (F416 p pn170_ pn179_)))))), ((F420 x (by omega)).trans f419_0), f420_0⟩
set_option maxRecDepth 100000 in
theorem ro_value {d : Nat} {M : Mem} {k : Nat} {pl : Nat → Pl k} {n : Int} {tx : Int → Int} {rc : Nat} {rw : Int → Int} {fc : Nat} {fa : Nat → Pl k} (H : RFS M k pl n tx rc rw fc fa) (i : Nat) (hi : i < 6) (x : El k) : Ct 198 (d + 8) 258 [(1, 161), (0, (i : Int)), (0, (x.val : Int))] M (fun r_ M' => r_ = (0, ((vl (pl i) x).val : Int)) ∧ RFS M' k pl n tx rc rw fc fa ∧ (∀ a : Int, (a < 161 ∨ 197 < a) → M' a = M a)) := by
  have hK : cd 258 = k258 := rfl
  obtain ⟨R, C, hpl, T, hR, hF⟩ := H
  have q1_ := qq_I k
  have p1_ := pp_I k
  have m1_ := mm_I k
  have bi_ := (hpl i hi).2
  have di_ := dg_lt9 bi_
  have lx_ := x.isLt
  show Wp 198 _ 258 0 [(1, 161), (0, (i : Int)), (0, (x.val : Int))] [] M _
  refine w_al hK rfl rfl ?_
  refine w_ic hK rfl ?_
  refine w_puti (n := 14) (m := 14) hK rfl rfl (by decide) (by decide) rfl rfl rfl rfl ?_
  refine w_il hK rfl rfl ?_
  refine w_call [(0, (i : Int))] hK rfl rfl rfl rfl (Or.inl rfl) (r_place (i : Int) (by omega) (by omega)) ?_
  rintro _ Mq ⟨rfl, e_⟩
  subst Mq
  have pI_421 := ite01 (0 ≤ (i : Int) ∧ (i : Int) < 6)
  refine ⟨by show (0 : Nat) ≠ 9; decide, (?_ : Wp 198 _ 258 5 [(1, 161), (0, (i : Int)), (0, (x.val : Int))] [(0, (if 0 ≤ (i : Int) ∧ (i : Int) < 6 then 1 else 0))] (up M 161 14 0) _)⟩
  refine w_eq hK rfl (by omega) (by omega) (fun h5 => ?_) (fun h5 => ?_)
  · exfalso; omega
  · refine w_al hK rfl rfl ?_
    refine w_il hK rfl rfl ?_
    refine w_call [(1, 161), (0, (x.val : Int))] hK rfl rfl rfl rfl (Or.inr ⟨_, _, _, rfl, by decide, (by decide), rfl⟩) (r_isnum (RS.cg C (fun j_ h1_ h2_ => up_ne2 (by omega)) (fun a_ h1_ h2_ => up_row h1_)).F (x.val : Int) (by omega) (by omega)) ?_
    rintro _ Mq ⟨rfl, e_⟩
    subst Mq
    have nI_422 := ite01 (0 ≤ (x.val : Int) ∧ (x.val : Int) < (qq k : Int))
    refine ⟨by show (0 : Nat) ≠ 9; decide, (?_ : Wp 198 _ 258 9 [(1, 161), (0, (i : Int)), (0, (x.val : Int))] [(0, (if 0 ≤ (x.val : Int) ∧ (x.val : Int) < (qq k : Int) then 1 else 0))] (up M 161 14 0) _)⟩
    refine w_ne hK rfl (by omega) (by omega) (fun h9 => ?_) (fun h9 => ?_)
    · refine w_al hK rfl rfl ?_
      refine w_il hK rfl rfl ?_
      refine w_al hK rfl rfl ?_
      refine w_getr (n := 26) (v := 180) hK rfl rfl (by decide) (by decide) rfl rfl rfl rfl ?_
      refine w_call [(1, 161), (0, (i : Int)), (1, 180)] hK rfl rfl rfl rfl (Or.inr ⟨_, _, _, rfl, by decide, (by decide), rfl⟩) (r_load (RS.cg C (fun j_ h1_ h2_ => up_ne2 (by omega)) (fun a_ h1_ h2_ => up_row h1_)) (PM.keep hpl (up_row (by decide))) i hi (isR_of (p := 180) rfl)) ?_
      rintro _ V423 ⟨P423, rfl, C423, S423, F423, f423_0⟩
      refine ⟨by decide, (?_ : Wp 198 _ 258 17 [(1, 161), (0, (i : Int)), (0, (x.val : Int))] [] V423 _)⟩
      refine w_al hK rfl rfl ?_
      refine w_al hK rfl rfl ?_
      refine w_getr (n := 26) (v := 180) hK rfl rfl (by decide) (by decide) rfl rfl rfl rfl ?_
      refine w_il hK rfl rfl ?_
      refine w_call [(1, 161), (1, 180), (0, (x.val : Int))] hK rfl rfl rfl rfl (Or.inr ⟨_, _, _, rfl, by decide, (by decide), rfl⟩) (r_val C423 ⟨(isR_of (p := 180) rfl), f423_0⟩ (bi_.mono (by decide)) x) ?_
      rintro _ Mq ⟨rfl, e_⟩
      subst Mq
      have bv_ := el_I (vl (pl i) x)
      refine ⟨by show (0 : Nat) ≠ 9; decide, (?_ : Wp 198 _ 258 22 [(1, 161), (0, (i : Int)), (0, (x.val : Int))] [(0, ((vl (pl i) x).val : Int))] V423 _)⟩
      refine w_iret hK rfl rfl ?_
      exact ⟨rfl, ⟨_, C423, (PM.keep hpl ((S423 167 (notR rfl)).trans (up_row (by decide)))), (TMs.keep T ((congrFun (S423 161 (notR rfl)) 11).trans (up_ne2 (by decide))) ((S423 168 (notR rfl)).trans (up_row (by decide)))), (RM.keep hR ((congrFun (S423 161 (notR rfl)) 13).trans (up_ne2 (by decide))) ((S423 169 (notR rfl)).trans (up_row (by decide)))), (FM.keep hF ((congrFun (S423 161 (notR rfl)) 15).trans (up_ne2 (by decide))) ((S423 189 (notR rfl)).trans (up_row (by decide))) ((S423 190 (notR rfl)).trans (up_row (by decide))))⟩, (fun a h_ => ((S423 a (npR h_)).trans (up_row (by omega))))⟩
    · exfalso; omega
set_option maxRecDepth 100000 in
theorem rn_value {d : Nat} {M : Mem} {k : Nat} {pl : Nat → Pl k} {n : Int} {tx : Int → Int} {rc : Nat} {rw : Int → Int} {fc : Nat} {fa : Nat → Pl k} (H : RFS M k pl n tx rc rw fc fa) (i x : Int) (i1_ : -2147483648 ≤ i) (i2_ : i ≤ 2147483647) (x1_ : -2147483648 ≤ x) (x2_ : x ≤ 2147483647) (hn : ¬ ((0 ≤ i ∧ i < 6) ∧ 0 ≤ x ∧ x < (qq k : Int))) : Ct 198 (d + 8) 258 [(1, 161), (0, i), (0, x)] M (fun r_ M' => r_ = (0, -1) ∧ RFS M' k pl n tx rc rw fc fa ∧ (∀ a : Int, (a < 161 ∨ 197 < a) → M' a = M a)) := by
  have hK : cd 258 = k258 := rfl
  obtain ⟨R, C, hpl, T, hR, hF⟩ := H
  have q1_ := qq_I k
  have p1_ := pp_I k
  have m1_ := mm_I k
  show Wp 198 _ 258 0 [(1, 161), (0, i), (0, x)] [] M _
  refine w_al hK rfl rfl ?_
  refine w_ic hK rfl ?_
  refine w_puti (n := 14) (m := 14) hK rfl rfl (by decide) (by decide) rfl rfl rfl rfl ?_
  refine w_il hK rfl rfl ?_
  refine w_call [(0, i)] hK rfl rfl rfl rfl (Or.inl rfl) (r_place i (by omega) (by omega)) ?_
  rintro _ Mq ⟨rfl, e_⟩
  subst Mq
  have pI_424 := ite01 (0 ≤ i ∧ i < 6)
  refine ⟨by show (0 : Nat) ≠ 9; decide, (?_ : Wp 198 _ 258 5 [(1, 161), (0, i), (0, x)] [(0, (if 0 ≤ i ∧ i < 6 then 1 else 0))] (up M 161 14 0) _)⟩
  refine w_eq hK rfl (by omega) (by omega) (fun h5 => ?_) (fun h5 => ?_)
  · refine w_ic hK rfl ?_
    refine w_iret hK rfl rfl ?_
    exact ⟨rfl, ⟨_, (RS.cg C (fun j_ h1_ h2_ => up_ne2 (by omega)) (fun a_ h1_ h2_ => up_row h1_)), (PM.keep hpl (up_row (by decide))), (TMs.keep T (up_ne2 (by decide)) (up_row (by decide))), (RM.keep hR (up_ne2 (by decide)) (up_row (by decide))), (FM.keep hF (up_ne2 (by decide)) (up_row (by decide)) (up_row (by decide)))⟩, (fun a h_ => (up_row (by omega)))⟩
  · refine w_al hK rfl rfl ?_
    refine w_il hK rfl rfl ?_
    refine w_call [(1, 161), (0, x)] hK rfl rfl rfl rfl (Or.inr ⟨_, _, _, rfl, by decide, (by decide), rfl⟩) (r_isnum (RS.cg C (fun j_ h1_ h2_ => up_ne2 (by omega)) (fun a_ h1_ h2_ => up_row h1_)).F x (by omega) (by omega)) ?_
    rintro _ Mq ⟨rfl, e_⟩
    subst Mq
    have nI_425 := ite01 (0 ≤ x ∧ x < (qq k : Int))
    refine ⟨by show (0 : Nat) ≠ 9; decide, (?_ : Wp 198 _ 258 9 [(1, 161), (0, i), (0, x)] [(0, (if 0 ≤ x ∧ x < (qq k : Int) then 1 else 0))] (up M 161 14 0) _)⟩
    refine w_ne hK rfl (by omega) (by omega) (fun h9 => ?_) (fun h9 => ?_)
    · exfalso; omega
    · refine w_ic hK rfl ?_
      refine w_iret hK rfl rfl ?_
      exact ⟨rfl, ⟨_, (RS.cg C (fun j_ h1_ h2_ => up_ne2 (by omega)) (fun a_ h1_ h2_ => up_row h1_)), (PM.keep hpl (up_row (by decide))), (TMs.keep T (up_ne2 (by decide)) (up_row (by decide))), (RM.keep hR (up_ne2 (by decide)) (up_row (by decide))), (FM.keep hF (up_ne2 (by decide)) (up_row (by decide)) (up_row (by decide)))⟩, (fun a h_ => (up_row (by omega)))⟩
set_option maxRecDepth 100000 in
theorem ro_does {d : Nat} {M : Mem} {k : Nat} {pl : Nat → Pl k} {n : Int} {tx : Int → Int} {rc : Nat} {rw : Int → Int} {fc : Nat} {fa : Nat → Pl k} (H : RFS M k pl n tx rc rw fc fa) (i : Nat) (hi : i < 6) (x : El k) : Ct 198 (d + 8) 262 [(1, 161), (0, (i : Int)), (0, (x.val : Int))] M (fun r_ M' => r_ = (0, ((dn (pl i) x).val : Int)) ∧ RFS M' k pl n tx rc rw fc fa ∧ (∀ a : Int, (a < 161 ∨ 197 < a) → M' a = M a)) := by
  have hK : cd 262 = k262 := rfl
  obtain ⟨R, C, hpl, T, hR, hF⟩ := H
  have q1_ := qq_I k
  have p1_ := pp_I k
  have m1_ := mm_I k
  have bi_ := (hpl i hi).2
  have di_ := dg_lt9 bi_
  have lx_ := x.isLt
  show Wp 198 _ 262 0 [(1, 161), (0, (i : Int)), (0, (x.val : Int))] [] M _
  refine w_al hK rfl rfl ?_
  refine w_ic hK rfl ?_
  refine w_puti (n := 14) (m := 14) hK rfl rfl (by decide) (by decide) rfl rfl rfl rfl ?_
  refine w_il hK rfl rfl ?_
  refine w_call [(0, (i : Int))] hK rfl rfl rfl rfl (Or.inl rfl) (r_place (i : Int) (by omega) (by omega)) ?_
  rintro _ Mq ⟨rfl, e_⟩
  subst Mq
  have pI_426 := ite01 (0 ≤ (i : Int) ∧ (i : Int) < 6)
  refine ⟨by show (0 : Nat) ≠ 9; decide, (?_ : Wp 198 _ 262 5 [(1, 161), (0, (i : Int)), (0, (x.val : Int))] [(0, (if 0 ≤ (i : Int) ∧ (i : Int) < 6 then 1 else 0))] (up M 161 14 0) _)⟩
  refine w_eq hK rfl (by omega) (by omega) (fun h5 => ?_) (fun h5 => ?_)
  · exfalso; omega
  · refine w_al hK rfl rfl ?_
    refine w_il hK rfl rfl ?_
    refine w_call [(1, 161), (0, (x.val : Int))] hK rfl rfl rfl rfl (Or.inr ⟨_, _, _, rfl, by decide, (by decide), rfl⟩) (r_isnum (RS.cg C (fun j_ h1_ h2_ => up_ne2 (by omega)) (fun a_ h1_ h2_ => up_row h1_)).F (x.val : Int) (by omega) (by omega)) ?_
    rintro _ Mq ⟨rfl, e_⟩
    subst Mq
    have nI_427 := ite01 (0 ≤ (x.val : Int) ∧ (x.val : Int) < (qq k : Int))
    refine ⟨by show (0 : Nat) ≠ 9; decide, (?_ : Wp 198 _ 262 9 [(1, 161), (0, (i : Int)), (0, (x.val : Int))] [(0, (if 0 ≤ (x.val : Int) ∧ (x.val : Int) < (qq k : Int) then 1 else 0))] (up M 161 14 0) _)⟩
    refine w_ne hK rfl (by omega) (by omega) (fun h9 => ?_) (fun h9 => ?_)
    · refine w_al hK rfl rfl ?_
      refine w_il hK rfl rfl ?_
      refine w_al hK rfl rfl ?_
      refine w_getr (n := 26) (v := 180) hK rfl rfl (by decide) (by decide) rfl rfl rfl rfl ?_
      refine w_call [(1, 161), (0, (i : Int)), (1, 180)] hK rfl rfl rfl rfl (Or.inr ⟨_, _, _, rfl, by decide, (by decide), rfl⟩) (r_load (RS.cg C (fun j_ h1_ h2_ => up_ne2 (by omega)) (fun a_ h1_ h2_ => up_row h1_)) (PM.keep hpl (up_row (by decide))) i hi (isR_of (p := 180) rfl)) ?_
      rintro _ V428 ⟨P428, rfl, C428, S428, F428, f428_0⟩
      refine ⟨by decide, (?_ : Wp 198 _ 262 17 [(1, 161), (0, (i : Int)), (0, (x.val : Int))] [] V428 _)⟩
      refine w_al hK rfl rfl ?_
      refine w_al hK rfl rfl ?_
      refine w_getr (n := 26) (v := 180) hK rfl rfl (by decide) (by decide) rfl rfl rfl rfl ?_
      refine w_il hK rfl rfl ?_
      refine w_call [(1, 161), (1, 180), (0, (x.val : Int))] hK rfl rfl rfl rfl (Or.inr ⟨_, _, _, rfl, by decide, (by decide), rfl⟩) (r_done C428 ⟨(isR_of (p := 180) rfl), f428_0⟩ bi_ x) ?_
      rintro _ Mq ⟨rfl, e_⟩
      subst Mq
      have bv_ := el_I (dn (pl i) x)
      refine ⟨by show (0 : Nat) ≠ 9; decide, (?_ : Wp 198 _ 262 22 [(1, 161), (0, (i : Int)), (0, (x.val : Int))] [(0, ((dn (pl i) x).val : Int))] V428 _)⟩
      refine w_iret hK rfl rfl ?_
      exact ⟨rfl, ⟨_, C428, (PM.keep hpl ((S428 167 (notR rfl)).trans (up_row (by decide)))), (TMs.keep T ((congrFun (S428 161 (notR rfl)) 11).trans (up_ne2 (by decide))) ((S428 168 (notR rfl)).trans (up_row (by decide)))), (RM.keep hR ((congrFun (S428 161 (notR rfl)) 13).trans (up_ne2 (by decide))) ((S428 169 (notR rfl)).trans (up_row (by decide)))), (FM.keep hF ((congrFun (S428 161 (notR rfl)) 15).trans (up_ne2 (by decide))) ((S428 189 (notR rfl)).trans (up_row (by decide))) ((S428 190 (notR rfl)).trans (up_row (by decide))))⟩, (fun a h_ => ((S428 a (npR h_)).trans (up_row (by omega))))⟩
    · exfalso; omega
set_option maxRecDepth 100000 in
theorem rn_does {d : Nat} {M : Mem} {k : Nat} {pl : Nat → Pl k} {n : Int} {tx : Int → Int} {rc : Nat} {rw : Int → Int} {fc : Nat} {fa : Nat → Pl k} (H : RFS M k pl n tx rc rw fc fa) (i x : Int) (i1_ : -2147483648 ≤ i) (i2_ : i ≤ 2147483647) (x1_ : -2147483648 ≤ x) (x2_ : x ≤ 2147483647) (hn : ¬ ((0 ≤ i ∧ i < 6) ∧ 0 ≤ x ∧ x < (qq k : Int))) : Ct 198 (d + 8) 262 [(1, 161), (0, i), (0, x)] M (fun r_ M' => r_ = (0, -1) ∧ RFS M' k pl n tx rc rw fc fa ∧ (∀ a : Int, (a < 161 ∨ 197 < a) → M' a = M a)) := by
  have hK : cd 262 = k262 := rfl
  obtain ⟨R, C, hpl, T, hR, hF⟩ := H
  have q1_ := qq_I k
  have p1_ := pp_I k
  have m1_ := mm_I k
  show Wp 198 _ 262 0 [(1, 161), (0, i), (0, x)] [] M _
  refine w_al hK rfl rfl ?_
  refine w_ic hK rfl ?_
  refine w_puti (n := 14) (m := 14) hK rfl rfl (by decide) (by decide) rfl rfl rfl rfl ?_
  refine w_il hK rfl rfl ?_
  refine w_call [(0, i)] hK rfl rfl rfl rfl (Or.inl rfl) (r_place i (by omega) (by omega)) ?_
  rintro _ Mq ⟨rfl, e_⟩
  subst Mq
  have pI_429 := ite01 (0 ≤ i ∧ i < 6)
  refine ⟨by show (0 : Nat) ≠ 9; decide, (?_ : Wp 198 _ 262 5 [(1, 161), (0, i), (0, x)] [(0, (if 0 ≤ i ∧ i < 6 then 1 else 0))] (up M 161 14 0) _)⟩
  refine w_eq hK rfl (by omega) (by omega) (fun h5 => ?_) (fun h5 => ?_)
  · refine w_ic hK rfl ?_
    refine w_iret hK rfl rfl ?_
    exact ⟨rfl, ⟨_, (RS.cg C (fun j_ h1_ h2_ => up_ne2 (by omega)) (fun a_ h1_ h2_ => up_row h1_)), (PM.keep hpl (up_row (by decide))), (TMs.keep T (up_ne2 (by decide)) (up_row (by decide))), (RM.keep hR (up_ne2 (by decide)) (up_row (by decide))), (FM.keep hF (up_ne2 (by decide)) (up_row (by decide)) (up_row (by decide)))⟩, (fun a h_ => (up_row (by omega)))⟩
  · refine w_al hK rfl rfl ?_
    refine w_il hK rfl rfl ?_
    refine w_call [(1, 161), (0, x)] hK rfl rfl rfl rfl (Or.inr ⟨_, _, _, rfl, by decide, (by decide), rfl⟩) (r_isnum (RS.cg C (fun j_ h1_ h2_ => up_ne2 (by omega)) (fun a_ h1_ h2_ => up_row h1_)).F x (by omega) (by omega)) ?_
    rintro _ Mq ⟨rfl, e_⟩
    subst Mq
    have nI_430 := ite01 (0 ≤ x ∧ x < (qq k : Int))
    refine ⟨by show (0 : Nat) ≠ 9; decide, (?_ : Wp 198 _ 262 9 [(1, 161), (0, i), (0, x)] [(0, (if 0 ≤ x ∧ x < (qq k : Int) then 1 else 0))] (up M 161 14 0) _)⟩
    refine w_ne hK rfl (by omega) (by omega) (fun h9 => ?_) (fun h9 => ?_)
    · exfalso; omega
    · refine w_ic hK rfl ?_
      refine w_iret hK rfl rfl ?_
      exact ⟨rfl, ⟨_, (RS.cg C (fun j_ h1_ h2_ => up_ne2 (by omega)) (fun a_ h1_ h2_ => up_row h1_)), (PM.keep hpl (up_row (by decide))), (TMs.keep T (up_ne2 (by decide)) (up_row (by decide))), (RM.keep hR (up_ne2 (by decide)) (up_row (by decide))), (FM.keep hF (up_ne2 (by decide)) (up_row (by decide)) (up_row (by decide)))⟩, (fun a h_ => (up_row (by omega)))⟩
set_option maxRecDepth 100000 in
theorem ro_roots {d : Nat} {M : Mem} {k : Nat} {pl : Nat → Pl k} {n : Int} {tx : Int → Int} {rc : Nat} {rw : Int → Int} {fc : Nat} {fa : Nat → Pl k} (H : RFS M k pl n tx rc rw fc fa) (i : Nat) (hi : i < 6)  : Ct 198 (d + 8) 260 [(1, 161), (0, (i : Int))] M (fun r_ M' => r_ = (0, (rts (pl i) (qq k))) ∧ RFS M' k pl n tx 1 (upr rw 0 (bcw (rts (pl i) (qq k)))) fc fa ∧ (∀ a : Int, (a < 161 ∨ 197 < a) → M' a = M a)) := by
  have hK : cd 260 = k260 := rfl
  obtain ⟨R, C, hpl, T, hR, hF⟩ := H
  have q1_ := qq_I k
  have p1_ := pp_I k
  have m1_ := mm_I k
  have bi_ := (hpl i hi).2
  have di_ := dg_lt9 bi_
  show Wp 198 _ 260 0 [(1, 161), (0, (i : Int)), (3, 0)] [] M _
  refine w_al hK rfl rfl ?_
  refine w_ic hK rfl ?_
  refine w_puti (n := 14) (m := 14) hK rfl rfl (by decide) (by decide) rfl rfl rfl rfl ?_
  refine w_il hK rfl rfl ?_
  refine w_call [(0, (i : Int))] hK rfl rfl rfl rfl (Or.inl rfl) (r_place (i : Int) (by omega) (by omega)) ?_
  rintro _ Mq ⟨rfl, e_⟩
  subst Mq
  have pI_431 := ite01 (0 ≤ (i : Int) ∧ (i : Int) < 6)
  refine ⟨by show (0 : Nat) ≠ 9; decide, (?_ : Wp 198 _ 260 5 [(1, 161), (0, (i : Int)), (3, 0)] [(0, (if 0 ≤ (i : Int) ∧ (i : Int) < 6 then 1 else 0))] (up M 161 14 0) _)⟩
  refine w_ne hK rfl (by omega) (by omega) (fun h5 => ?_) (fun h5 => ?_)
  · refine w_al hK rfl rfl ?_
    refine w_il hK rfl rfl ?_
    refine w_al hK rfl rfl ?_
    refine w_getr (n := 26) (v := 180) hK rfl rfl (by decide) (by decide) rfl rfl rfl rfl ?_
    refine w_call [(1, 161), (0, (i : Int)), (1, 180)] hK rfl rfl rfl rfl (Or.inr ⟨_, _, _, rfl, by decide, (by decide), rfl⟩) (r_load (RS.cg C (fun j_ h1_ h2_ => up_ne2 (by omega)) (fun a_ h1_ h2_ => up_row h1_)) (PM.keep hpl (up_row (by decide))) i hi (isR_of (p := 180) rfl)) ?_
    rintro _ V432 ⟨P432, rfl, C432, S432, F432, f432_0⟩
    refine ⟨by decide, (?_ : Wp 198 _ 260 13 [(1, 161), (0, (i : Int)), (3, 0)] [] V432 _)⟩
    refine w_al hK rfl rfl ?_
    refine w_al hK rfl rfl ?_
    refine w_getr (n := 26) (v := 180) hK rfl rfl (by decide) (by decide) rfl rfl rfl rfl ?_
    refine w_call [(1, 161), (1, 180)] hK rfl rfl rfl rfl (Or.inr ⟨_, _, _, rfl, by decide, (by decide), rfl⟩) (r_rts C432 ⟨(isR_of (p := 180) rfl), f432_0⟩ (bi_.mono (by decide))) ?_
    rintro _ Mq ⟨rfl, e_⟩
    subst Mq
    refine ⟨by show (0 : Nat) ≠ 9; decide, (?_ : Wp 198 _ 260 17 [(1, 161), (0, (i : Int)), (3, 0)] [(0, (rts (pl i) (qq k)))] V432 _)⟩
    refine w_is [(1, 161), (0, (i : Int)), (0, (rts (pl i) (qq k)))] hK rfl rfl rfl ?_
    refine w_al hK rfl rfl ?_
    refine w_ic hK rfl ?_
    refine w_puti (n := 13) (m := 13) hK rfl rfl (by decide) (by decide) rfl rfl rfl rfl ?_
    refine w_al hK rfl rfl ?_
    refine w_il hK rfl rfl ?_
    have b16_ : b16 (rts (pl i) (qq k)) := rts_16 (pl i) _ (qq_le k)
    have bI_ := b16_.I
    refine w_call [(0, (rts (pl i) (qq k)))] hK rfl rfl rfl rfl (Or.inl rfl) (r_ones b16_) ?_
    rintro _ Mq ⟨rfl, e_⟩
    subst Mq
    have wI_ := bcw_I (rts (pl i) (qq k))
    refine ⟨by show (0 : Nat) ≠ 9; decide, (?_ : Wp 198 _ 260 24 [(1, 161), (0, (i : Int)), (0, (rts (pl i) (qq k)))] [(0, (bcw (rts (pl i) (qq k)))), (1, 161)] (up V432 161 13 0) _)⟩
    refine w_i2l hK rfl (by omega) (by omega) ?_
    refine w_call [(1, 161), (2, (bcw (rts (pl i) (qq k))))] hK rfl rfl rfl rfl (Or.inr ⟨_, _, _, rfl, by decide, (by decide), rfl⟩) (r_tell (RM.zero (M := (up V432 161 13 0)) (rw := rw) up_eq) (by omega) (bcw (rts (pl i) (qq k)))) ?_
    rintro _ V433 ⟨rfl, R433, F433, G433⟩
    refine ⟨by decide, (?_ : Wp 198 _ 260 26 [(1, 161), (0, (i : Int)), (0, (rts (pl i) (qq k)))] [] V433 _)⟩
    refine w_il hK rfl rfl ?_
    refine w_iret hK rfl rfl ?_
    exact ⟨rfl, ⟨_, (RS.cg (RS.cg C432 (fun j_ h1_ h2_ => up_ne2 (by omega)) (fun a_ h1_ h2_ => up_row h1_)) (fun j_ h1_ h2_ => G433 j_ (by omega)) (fun a_ h1_ h2_ => F433 a_ h1_ (RSc_ne h2_ (by decide) (notR rfl)))), (PM.keep hpl ((F433 167 (by decide) (by decide)).trans ((up_row (by decide)).trans ((S432 167 (notR rfl)).trans (up_row (by decide)))))), (TMs.keep T ((G433 11 (by decide)).trans ((up_ne2 (by decide)).trans ((congrFun (S432 161 (notR rfl)) 11).trans (up_ne2 (by decide))))) ((F433 168 (by decide) (by decide)).trans ((up_row (by decide)).trans ((S432 168 (notR rfl)).trans (up_row (by decide)))))), R433, (FM.keep hF ((G433 15 (by decide)).trans ((up_ne2 (by decide)).trans ((congrFun (S432 161 (notR rfl)) 15).trans (up_ne2 (by decide))))) ((F433 189 (by decide) (by decide)).trans ((up_row (by decide)).trans ((S432 189 (notR rfl)).trans (up_row (by decide))))) ((F433 190 (by decide) (by decide)).trans ((up_row (by decide)).trans ((S432 190 (notR rfl)).trans (up_row (by decide))))))⟩, (fun a h_ => ((F433 a (by omega) (by omega)).trans ((up_row (by omega)).trans ((S432 a (npR h_)).trans (up_row (by omega))))))⟩
  · exfalso; omega
set_option maxRecDepth 100000 in
theorem rn_roots {d : Nat} {M : Mem} {k : Nat} {pl : Nat → Pl k} {n : Int} {tx : Int → Int} {rc : Nat} {rw : Int → Int} {fc : Nat} {fa : Nat → Pl k} (H : RFS M k pl n tx rc rw fc fa) (i : Int) (i1_ : -2147483648 ≤ i) (i2_ : i ≤ 2147483647) (hn : ¬ (0 ≤ i ∧ i < 6)) : Ct 198 (d + 8) 260 [(1, 161), (0, i)] M (fun r_ M' => r_ = (0, -1) ∧ RFS M' k pl n tx rc rw fc fa ∧ (∀ a : Int, (a < 161 ∨ 197 < a) → M' a = M a)) := by
  have hK : cd 260 = k260 := rfl
  obtain ⟨R, C, hpl, T, hR, hF⟩ := H
  have q1_ := qq_I k
  have p1_ := pp_I k
  have m1_ := mm_I k
  show Wp 198 _ 260 0 [(1, 161), (0, i), (3, 0)] [] M _
  refine w_al hK rfl rfl ?_
  refine w_ic hK rfl ?_
  refine w_puti (n := 14) (m := 14) hK rfl rfl (by decide) (by decide) rfl rfl rfl rfl ?_
  refine w_il hK rfl rfl ?_
  refine w_call [(0, i)] hK rfl rfl rfl rfl (Or.inl rfl) (r_place i (by omega) (by omega)) ?_
  rintro _ Mq ⟨rfl, e_⟩
  subst Mq
  have pI_434 := ite01 (0 ≤ i ∧ i < 6)
  refine ⟨by show (0 : Nat) ≠ 9; decide, (?_ : Wp 198 _ 260 5 [(1, 161), (0, i), (3, 0)] [(0, (if 0 ≤ i ∧ i < 6 then 1 else 0))] (up M 161 14 0) _)⟩
  refine w_ne hK rfl (by omega) (by omega) (fun h5 => ?_) (fun h5 => ?_)
  · exfalso; omega
  · refine w_ic hK rfl ?_
    refine w_iret hK rfl rfl ?_
    exact ⟨rfl, ⟨_, (RS.cg C (fun j_ h1_ h2_ => up_ne2 (by omega)) (fun a_ h1_ h2_ => up_row h1_)), (PM.keep hpl (up_row (by decide))), (TMs.keep T (up_ne2 (by decide)) (up_row (by decide))), (RM.keep hR (up_ne2 (by decide)) (up_row (by decide))), (FM.keep hF (up_ne2 (by decide)) (up_row (by decide)) (up_row (by decide)))⟩, (fun a h_ => (up_row (by omega)))⟩
set_option maxRecDepth 100000 in
theorem ro_kernel {d : Nat} {M : Mem} {k : Nat} {pl : Nat → Pl k} {n : Int} {tx : Int → Int} {rc : Nat} {rw : Int → Int} {fc : Nat} {fa : Nat → Pl k} (H : RFS M k pl n tx rc rw fc fa) (i : Nat) (hi : i < 6)  : Ct 198 (d + 8) 264 [(1, 161), (0, (i : Int))] M (fun r_ M' => r_ = (0, (dnT (pl i) z0 (qq k))) ∧ RFS M' k pl n tx 2 (upr (upr rw 0 (bcw (dnT (pl i) z0 (qq k)))) 1 (bcw (img (pl i) (qq k)))) fc fa ∧ (∀ a : Int, (a < 161 ∨ 197 < a) → M' a = M a)) := by
  have hK : cd 264 = k264 := rfl
  obtain ⟨R, C, hpl, T, hR, hF⟩ := H
  have q1_ := qq_I k
  have p1_ := pp_I k
  have m1_ := mm_I k
  have bi_ := (hpl i hi).2
  have di_ := dg_lt9 bi_
  show Wp 198 _ 264 0 [(1, 161), (0, (i : Int)), (3, 0), (3, 0), (3, 0), (3, 0)] [] M _
  refine w_al hK rfl rfl ?_
  refine w_ic hK rfl ?_
  refine w_puti (n := 14) (m := 14) hK rfl rfl (by decide) (by decide) rfl rfl rfl rfl ?_
  refine w_il hK rfl rfl ?_
  refine w_call [(0, (i : Int))] hK rfl rfl rfl rfl (Or.inl rfl) (r_place (i : Int) (by omega) (by omega)) ?_
  rintro _ Mq ⟨rfl, e_⟩
  subst Mq
  have pI_435 := ite01 (0 ≤ (i : Int) ∧ (i : Int) < 6)
  refine ⟨by show (0 : Nat) ≠ 9; decide, (?_ : Wp 198 _ 264 5 [(1, 161), (0, (i : Int)), (3, 0), (3, 0), (3, 0), (3, 0)] [(0, (if 0 ≤ (i : Int) ∧ (i : Int) < 6 then 1 else 0))] (up M 161 14 0) _)⟩
  refine w_ne hK rfl (by omega) (by omega) (fun h5 => ?_) (fun h5 => ?_)
  · refine w_al hK rfl rfl ?_
    refine w_il hK rfl rfl ?_
    refine w_al hK rfl rfl ?_
    refine w_getr (n := 26) (v := 180) hK rfl rfl (by decide) (by decide) rfl rfl rfl rfl ?_
    refine w_call [(1, 161), (0, (i : Int)), (1, 180)] hK rfl rfl rfl rfl (Or.inr ⟨_, _, _, rfl, by decide, (by decide), rfl⟩) (r_load (RS.cg C (fun j_ h1_ h2_ => up_ne2 (by omega)) (fun a_ h1_ h2_ => up_row h1_)) (PM.keep hpl (up_row (by decide))) i hi (isR_of (p := 180) rfl)) ?_
    rintro _ V436 ⟨P436, rfl, C436, S436, F436, f436_0⟩
    refine ⟨by decide, (?_ : Wp 198 _ 264 13 [(1, 161), (0, (i : Int)), (3, 0), (3, 0), (3, 0), (3, 0)] [] V436 _)⟩
    refine w_ic hK rfl ?_
    refine w_is [(1, 161), (0, (i : Int)), (0, 0), (3, 0), (3, 0), (3, 0)] hK rfl rfl rfl ?_
    refine w_ic hK rfl ?_
    refine w_is [(1, 161), (0, (i : Int)), (0, 0), (0, 0), (3, 0), (3, 0)] hK rfl rfl rfl ?_
    refine w_ic hK rfl ?_
    refine w_is [(1, 161), (0, (i : Int)), (0, 0), (0, 0), (0, 0), (3, 0)] hK rfl rfl rfl ?_
    have lp19 : ∀ (n_ : Nat) (a : Nat) (w5 : AV), 17 - a = n_ → (a ≤ qq k) → Wp 198 (d + 8) 264 19 [(1, 161), (0, (i : Int)), (0, dnT (pl i) z0 a), (0, img (pl i) a), (0, (a : Int)), w5] [] V436 (fun r_ M' => r_ = (0, (dnT (pl i) z0 (qq k))) ∧ RFS M' k pl n tx 2 (upr (upr rw 0 (bcw (dnT (pl i) z0 (qq k)))) 1 (bcw (img (pl i) (qq k)))) fc fa ∧ (∀ a : Int, (a < 161 ∨ 197 < a) → M' a = M a)) := by
      intro n_
      induction n_ using Nat.strongRecOn with
      | _ n_ ih19 =>
      intro a w5  hm19 ha_
      refine w_il hK rfl rfl ?_
      refine w_al hK rfl rfl ?_
      refine w_geti (n := 1) (m := 1) hK rfl rfl (by decide) (by decide) rfl rfl rfl rfl ?_
      rw [show V436 161 1 = (qq k : Int) from C436.F.q]
      refine w_ge2 hK rfl (by omega) (by omega) (by omega) (by omega) (fun h22 => ?_) (fun h22 => ?_)
      · have e_ : a = qq k := by omega
        subst e_
        refine w_al hK rfl rfl ?_
        refine w_ic hK rfl ?_
        refine w_puti (n := 13) (m := 13) hK rfl rfl (by decide) (by decide) rfl rfl rfl rfl ?_
        refine w_al hK rfl rfl ?_
        refine w_il hK rfl rfl ?_
        have b16_ : b16 (dnT (pl i) z0 (qq k)) := dnT_16 (pl i) z0 _ (qq_le k)
        have bI_ := b16_.I
        refine w_call [(0, dnT (pl i) z0 (qq k))] hK rfl rfl rfl rfl (Or.inl rfl) (r_ones b16_) ?_
        rintro _ Mq ⟨rfl, e_⟩
        subst Mq
        have wI_ := bcw_I (dnT (pl i) z0 (qq k))
        refine ⟨by show (0 : Nat) ≠ 9; decide, (?_ : Wp 198 _ 264 53 [(1, 161), (0, (i : Int)), (0, dnT (pl i) z0 (qq k)), (0, img (pl i) (qq k)), (0, (qq k : Int)), w5] [(0, (bcw (dnT (pl i) z0 (qq k)))), (1, 161)] (up V436 161 13 0) _)⟩
        refine w_i2l hK rfl (by omega) (by omega) ?_
        refine w_call [(1, 161), (2, (bcw (dnT (pl i) z0 (qq k))))] hK rfl rfl rfl rfl (Or.inr ⟨_, _, _, rfl, by decide, (by decide), rfl⟩) (r_tell (RM.zero (M := (up V436 161 13 0)) (rw := rw) up_eq) (by omega) (bcw (dnT (pl i) z0 (qq k)))) ?_
        rintro _ V437 ⟨rfl, R437, F437, G437⟩
        refine ⟨by decide, (?_ : Wp 198 _ 264 55 [(1, 161), (0, (i : Int)), (0, dnT (pl i) z0 (qq k)), (0, img (pl i) (qq k)), (0, (qq k : Int)), w5] [] V437 _)⟩
        refine w_al hK rfl rfl ?_
        refine w_il hK rfl rfl ?_
        have b16_ : b16 (img (pl i) (qq k)) := img_16 (pl i) _
        have bI_ := b16_.I
        refine w_call [(0, img (pl i) (qq k))] hK rfl rfl rfl rfl (Or.inl rfl) (r_ones b16_) ?_
        rintro _ Mq ⟨rfl, e_⟩
        subst Mq
        have wI_ := bcw_I (img (pl i) (qq k))
        refine ⟨by show (0 : Nat) ≠ 9; decide, (?_ : Wp 198 _ 264 58 [(1, 161), (0, (i : Int)), (0, dnT (pl i) z0 (qq k)), (0, img (pl i) (qq k)), (0, (qq k : Int)), w5] [(0, (bcw (img (pl i) (qq k)))), (1, 161)] V437 _)⟩
        refine w_i2l hK rfl (by omega) (by omega) ?_
        refine w_call [(1, 161), (2, (bcw (img (pl i) (qq k))))] hK rfl rfl rfl rfl (Or.inr ⟨_, _, _, rfl, by decide, (by decide), rfl⟩) (r_tell R437 (by omega) (bcw (img (pl i) (qq k)))) ?_
        rintro _ V438 ⟨rfl, R438, F438, G438⟩
        refine ⟨by decide, (?_ : Wp 198 _ 264 60 [(1, 161), (0, (i : Int)), (0, dnT (pl i) z0 (qq k)), (0, img (pl i) (qq k)), (0, (qq k : Int)), w5] [] V438 _)⟩
        refine w_il hK rfl rfl ?_
        refine w_iret hK rfl rfl ?_
        exact ⟨rfl, ⟨_, (RS.cg (RS.cg (RS.cg C436 (fun j_ h1_ h2_ => up_ne2 (by omega)) (fun a_ h1_ h2_ => up_row h1_)) (fun j_ h1_ h2_ => G437 j_ (by omega)) (fun a_ h1_ h2_ => F437 a_ h1_ (RSc_ne h2_ (by decide) (notR rfl)))) (fun j_ h1_ h2_ => G438 j_ (by omega)) (fun a_ h1_ h2_ => F438 a_ h1_ (RSc_ne h2_ (by decide) (notR rfl)))), (PM.keep hpl ((F438 167 (by decide) (by decide)).trans ((F437 167 (by decide) (by decide)).trans ((up_row (by decide)).trans ((S436 167 (notR rfl)).trans (up_row (by decide))))))), (TMs.keep T ((G438 11 (by decide)).trans ((G437 11 (by decide)).trans ((up_ne2 (by decide)).trans ((congrFun (S436 161 (notR rfl)) 11).trans (up_ne2 (by decide)))))) ((F438 168 (by decide) (by decide)).trans ((F437 168 (by decide) (by decide)).trans ((up_row (by decide)).trans ((S436 168 (notR rfl)).trans (up_row (by decide))))))), R438, (FM.keep hF ((G438 15 (by decide)).trans ((G437 15 (by decide)).trans ((up_ne2 (by decide)).trans ((congrFun (S436 161 (notR rfl)) 15).trans (up_ne2 (by decide)))))) ((F438 189 (by decide) (by decide)).trans ((F437 189 (by decide) (by decide)).trans ((up_row (by decide)).trans ((S436 189 (notR rfl)).trans (up_row (by decide)))))) ((F438 190 (by decide) (by decide)).trans ((F437 190 (by decide) (by decide)).trans ((up_row (by decide)).trans ((S436 190 (notR rfl)).trans (up_row (by decide)))))))⟩, (fun a h_ => ((F438 a (by omega) (by omega)).trans ((F437 a (by omega) (by omega)).trans ((up_row (by omega)).trans ((S436 a (npR h_)).trans (up_row (by omega)))))))⟩
      · refine w_al hK rfl rfl ?_
        refine w_al hK rfl rfl ?_
        refine w_getr (n := 26) (v := 180) hK rfl rfl (by decide) (by decide) rfl rfl rfl rfl ?_
        refine w_il hK rfl rfl ?_
        refine w_call [(1, 161), (1, 180), (0, (a : Int))] hK rfl rfl rfl rfl (Or.inr ⟨_, _, _, rfl, by decide, (by decide), rfl⟩) (Ct.cv (r_done C436 ⟨(isR_of (p := 180) rfl), f436_0⟩ bi_ (el k a)) (by simp only [(elN (k := k) (n := a) (by omega))]; try rfl)) ?_
        rintro _ Mq ⟨rfl, e_⟩
        subst Mq
        have bv_ := el_I (dn (pl i) (el k a))
        refine ⟨by show (0 : Nat) ≠ 9; decide, (?_ : Wp 198 _ 264 28 [(1, 161), (0, (i : Int)), (0, dnT (pl i) z0 a), (0, img (pl i) a), (0, (a : Int)), w5] [(0, ((dn (pl i) (el k a)).val : Int))] V436 _)⟩
        refine w_is [(1, 161), (0, (i : Int)), (0, dnT (pl i) z0 a), (0, img (pl i) a), (0, (a : Int)), (0, ((dn (pl i) (el k a)).val : Int))] hK rfl rfl rfl ?_
        refine w_il hK rfl rfl ?_
        refine w_il hK rfl rfl ?_
        have bdn_ := el_I (dn (pl i) (el k a))
        refine w_ne hK rfl (by omega) (by omega) (fun h31 => ?_) (fun h31 => ?_)
        · refine w_ic hK rfl ?_
          refine w_bin (w := i32 (dnT (pl i) z0 a) ||| i32 0) hK rfl rfl rfl ?_
          refine w_is [(1, 161), (0, (i : Int)), (0, (i32 (dnT (pl i) z0 a) ||| i32 0).toInt), (0, img (pl i) a), (0, (a : Int)), (0, ((dn (pl i) (el k a)).val : Int))] hK rfl rfl rfl ?_
          refine w_il hK rfl rfl ?_
          refine w_ic hK rfl ?_
          refine w_il hK rfl rfl ?_
          refine w_bin (w := i32 1 <<< (i32 ((dn (pl i) (el k a)).val : Int) &&& 31)) hK rfl rfl rfl ?_
          refine w_bin (w := i32 (img (pl i) a) ||| i32 ((i32 1 <<< (i32 ((dn (pl i) (el k a)).val : Int) &&& 31)).toInt)) hK rfl rfl rfl ?_
          refine w_is [(1, 161), (0, (i : Int)), (0, (i32 (dnT (pl i) z0 a) ||| i32 0).toInt), (0, (i32 (img (pl i) a) ||| i32 ((i32 1 <<< (i32 ((dn (pl i) (el k a)).val : Int) &&& 31)).toInt)).toInt), (0, (a : Int)), (0, ((dn (pl i) (el k a)).val : Int))] hK rfl rfl rfl ?_
          refine w_inc [(1, 161), (0, (i : Int)), (0, (i32 (dnT (pl i) z0 a) ||| i32 0).toInt), (0, (i32 (img (pl i) a) ||| i32 ((i32 1 <<< (i32 ((dn (pl i) (el k a)).val : Int) &&& 31)).toInt)).toInt), (0, ((a : Int) + 1)), (0, ((dn (pl i) (el k a)).val : Int))] hK rfl rfl rfl (by omega) (by omega) rfl ?_
          refine w_goto hK rfl ?_
          have ek_ : dnT (pl i) z0 (a + 1) = dnT (pl i) z0 a := if_neg (fun q => by rw [q, z0_val] at h31; exact h31 rfl)
          rw [(dnT_16 (pl i) z0 a (by omega)).or0]
          rw [show dnT (pl i) z0 a = dnT (pl i) z0 (a + 1) from ek_.symm]
          exact ih19 _ (by omega) (a + 1) (0, ((dn (pl i) (el k a)).val : Int))  rfl (by omega)
        · refine w_ic hK rfl ?_
          refine w_il hK rfl rfl ?_
          refine w_bin (w := i32 1 <<< (i32 (a : Int) &&& 31)) hK rfl rfl rfl ?_
          refine w_goto hK rfl ?_
          refine w_bin (w := i32 (dnT (pl i) z0 a) ||| i32 ((i32 1 <<< (i32 (a : Int) &&& 31)).toInt)) hK rfl rfl rfl ?_
          refine w_is [(1, 161), (0, (i : Int)), (0, (i32 (dnT (pl i) z0 a) ||| i32 ((i32 1 <<< (i32 (a : Int) &&& 31)).toInt)).toInt), (0, img (pl i) a), (0, (a : Int)), (0, ((dn (pl i) (el k a)).val : Int))] hK rfl rfl rfl ?_
          refine w_il hK rfl rfl ?_
          refine w_ic hK rfl ?_
          refine w_il hK rfl rfl ?_
          refine w_bin (w := i32 1 <<< (i32 ((dn (pl i) (el k a)).val : Int) &&& 31)) hK rfl rfl rfl ?_
          refine w_bin (w := i32 (img (pl i) a) ||| i32 ((i32 1 <<< (i32 ((dn (pl i) (el k a)).val : Int) &&& 31)).toInt)) hK rfl rfl rfl ?_
          refine w_is [(1, 161), (0, (i : Int)), (0, (i32 (dnT (pl i) z0 a) ||| i32 ((i32 1 <<< (i32 (a : Int) &&& 31)).toInt)).toInt), (0, (i32 (img (pl i) a) ||| i32 ((i32 1 <<< (i32 ((dn (pl i) (el k a)).val : Int) &&& 31)).toInt)).toInt), (0, (a : Int)), (0, ((dn (pl i) (el k a)).val : Int))] hK rfl rfl rfl ?_
          refine w_inc [(1, 161), (0, (i : Int)), (0, (i32 (dnT (pl i) z0 a) ||| i32 ((i32 1 <<< (i32 (a : Int) &&& 31)).toInt)).toInt), (0, (i32 (img (pl i) a) ||| i32 ((i32 1 <<< (i32 ((dn (pl i) (el k a)).val : Int) &&& 31)).toInt)).toInt), (0, ((a : Int) + 1)), (0, ((dn (pl i) (el k a)).val : Int))] hK rfl rfl rfl (by omega) (by omega) rfl ?_
          refine w_goto hK rfl ?_
          have ek_ : dnT (pl i) z0 (a + 1) = bset (dnT (pl i) z0 a) a := if_pos (z0_iff.mpr (by omega))
          rw [show (i32 (dnT (pl i) z0 a) ||| i32 ((i32 1 <<< (i32 (a : Int) &&& 31)).toInt)).toInt = dnT (pl i) z0 (a + 1) from ek_.symm]
          exact ih19 _ (by omega) (a + 1) (0, ((dn (pl i) (el k a)).val : Int))  rfl (by omega)
    exact lp19 _ 0 (3, 0)  rfl (by omega)
  · exfalso; omega
set_option maxRecDepth 100000 in
theorem rn_kernel {d : Nat} {M : Mem} {k : Nat} {pl : Nat → Pl k} {n : Int} {tx : Int → Int} {rc : Nat} {rw : Int → Int} {fc : Nat} {fa : Nat → Pl k} (H : RFS M k pl n tx rc rw fc fa) (i : Int) (i1_ : -2147483648 ≤ i) (i2_ : i ≤ 2147483647) (hn : ¬ (0 ≤ i ∧ i < 6)) : Ct 198 (d + 8) 264 [(1, 161), (0, i)] M (fun r_ M' => r_ = (0, -1) ∧ RFS M' k pl n tx rc rw fc fa ∧ (∀ a : Int, (a < 161 ∨ 197 < a) → M' a = M a)) := by
  have hK : cd 264 = k264 := rfl
  obtain ⟨R, C, hpl, T, hR, hF⟩ := H
  have q1_ := qq_I k
  have p1_ := pp_I k
  have m1_ := mm_I k
  show Wp 198 _ 264 0 [(1, 161), (0, i), (3, 0), (3, 0), (3, 0), (3, 0)] [] M _
  refine w_al hK rfl rfl ?_
  refine w_ic hK rfl ?_
  refine w_puti (n := 14) (m := 14) hK rfl rfl (by decide) (by decide) rfl rfl rfl rfl ?_
  refine w_il hK rfl rfl ?_
  refine w_call [(0, i)] hK rfl rfl rfl rfl (Or.inl rfl) (r_place i (by omega) (by omega)) ?_
  rintro _ Mq ⟨rfl, e_⟩
  subst Mq
  have pI_439 := ite01 (0 ≤ i ∧ i < 6)
  refine ⟨by show (0 : Nat) ≠ 9; decide, (?_ : Wp 198 _ 264 5 [(1, 161), (0, i), (3, 0), (3, 0), (3, 0), (3, 0)] [(0, (if 0 ≤ i ∧ i < 6 then 1 else 0))] (up M 161 14 0) _)⟩
  refine w_ne hK rfl (by omega) (by omega) (fun h5 => ?_) (fun h5 => ?_)
  · exfalso; omega
  · refine w_ic hK rfl ?_
    refine w_iret hK rfl rfl ?_
    exact ⟨rfl, ⟨_, (RS.cg C (fun j_ h1_ h2_ => up_ne2 (by omega)) (fun a_ h1_ h2_ => up_row h1_)), (PM.keep hpl (up_row (by decide))), (TMs.keep T (up_ne2 (by decide)) (up_row (by decide))), (RM.keep hR (up_ne2 (by decide)) (up_row (by decide))), (FM.keep hF (up_ne2 (by decide)) (up_row (by decide)) (up_row (by decide)))⟩, (fun a h_ => (up_row (by omega)))⟩
set_option maxRecDepth 100000 in
theorem ro_solves {d : Nat} {M : Mem} {k : Nat} {pl : Nat → Pl k} {n : Int} {tx : Int → Int} {rc : Nat} {rw : Int → Int} {fc : Nat} {fa : Nat → Pl k} (H : RFS M k pl n tx rc rw fc fa) (i : Nat) (hi : i < 6) (x : El k) : Ct 198 (d + 8) 274 [(1, 161), (0, (i : Int)), (0, (x.val : Int))] M (fun r_ M' => r_ = (0, (dnT (pl i) x (qq k))) ∧ RFS M' k pl n tx 1 (upr rw 0 (bcw (dnT (pl i) x (qq k)))) fc fa ∧ (∀ a : Int, (a < 161 ∨ 197 < a) → M' a = M a)) := by
  have hK : cd 274 = k274 := rfl
  obtain ⟨R, C, hpl, T, hR, hF⟩ := H
  have q1_ := qq_I k
  have p1_ := pp_I k
  have m1_ := mm_I k
  have bi_ := (hpl i hi).2
  have di_ := dg_lt9 bi_
  have lx_ := x.isLt
  show Wp 198 _ 274 0 [(1, 161), (0, (i : Int)), (0, (x.val : Int)), (3, 0), (3, 0)] [] M _
  refine w_al hK rfl rfl ?_
  refine w_ic hK rfl ?_
  refine w_puti (n := 14) (m := 14) hK rfl rfl (by decide) (by decide) rfl rfl rfl rfl ?_
  refine w_il hK rfl rfl ?_
  refine w_call [(0, (i : Int))] hK rfl rfl rfl rfl (Or.inl rfl) (r_place (i : Int) (by omega) (by omega)) ?_
  rintro _ Mq ⟨rfl, e_⟩
  subst Mq
  have pI_440 := ite01 (0 ≤ (i : Int) ∧ (i : Int) < 6)
  refine ⟨by show (0 : Nat) ≠ 9; decide, (?_ : Wp 198 _ 274 5 [(1, 161), (0, (i : Int)), (0, (x.val : Int)), (3, 0), (3, 0)] [(0, (if 0 ≤ (i : Int) ∧ (i : Int) < 6 then 1 else 0))] (up M 161 14 0) _)⟩
  refine w_eq hK rfl (by omega) (by omega) (fun h5 => ?_) (fun h5 => ?_)
  · exfalso; omega
  · refine w_al hK rfl rfl ?_
    refine w_il hK rfl rfl ?_
    refine w_call [(1, 161), (0, (x.val : Int))] hK rfl rfl rfl rfl (Or.inr ⟨_, _, _, rfl, by decide, (by decide), rfl⟩) (r_isnum (RS.cg C (fun j_ h1_ h2_ => up_ne2 (by omega)) (fun a_ h1_ h2_ => up_row h1_)).F (x.val : Int) (by omega) (by omega)) ?_
    rintro _ Mq ⟨rfl, e_⟩
    subst Mq
    have nI_441 := ite01 (0 ≤ (x.val : Int) ∧ (x.val : Int) < (qq k : Int))
    refine ⟨by show (0 : Nat) ≠ 9; decide, (?_ : Wp 198 _ 274 9 [(1, 161), (0, (i : Int)), (0, (x.val : Int)), (3, 0), (3, 0)] [(0, (if 0 ≤ (x.val : Int) ∧ (x.val : Int) < (qq k : Int) then 1 else 0))] (up M 161 14 0) _)⟩
    refine w_ne hK rfl (by omega) (by omega) (fun h9 => ?_) (fun h9 => ?_)
    · refine w_al hK rfl rfl ?_
      refine w_il hK rfl rfl ?_
      refine w_al hK rfl rfl ?_
      refine w_getr (n := 26) (v := 180) hK rfl rfl (by decide) (by decide) rfl rfl rfl rfl ?_
      refine w_call [(1, 161), (0, (i : Int)), (1, 180)] hK rfl rfl rfl rfl (Or.inr ⟨_, _, _, rfl, by decide, (by decide), rfl⟩) (r_load (RS.cg C (fun j_ h1_ h2_ => up_ne2 (by omega)) (fun a_ h1_ h2_ => up_row h1_)) (PM.keep hpl (up_row (by decide))) i hi (isR_of (p := 180) rfl)) ?_
      rintro _ V442 ⟨P442, rfl, C442, S442, F442, f442_0⟩
      refine ⟨by decide, (?_ : Wp 198 _ 274 17 [(1, 161), (0, (i : Int)), (0, (x.val : Int)), (3, 0), (3, 0)] [] V442 _)⟩
      refine w_ic hK rfl ?_
      refine w_is [(1, 161), (0, (i : Int)), (0, (x.val : Int)), (0, 0), (3, 0)] hK rfl rfl rfl ?_
      refine w_ic hK rfl ?_
      refine w_is [(1, 161), (0, (i : Int)), (0, (x.val : Int)), (0, 0), (0, 0)] hK rfl rfl rfl ?_
      have lp21 : ∀ (n_ : Nat) (a : Nat), 17 - a = n_ → (a ≤ qq k) → Wp 198 (d + 8) 274 21 [(1, 161), (0, (i : Int)), (0, (x.val : Int)), (0, dnT (pl i) x a), (0, (a : Int))] [] V442 (fun r_ M' => r_ = (0, (dnT (pl i) x (qq k))) ∧ RFS M' k pl n tx 1 (upr rw 0 (bcw (dnT (pl i) x (qq k)))) fc fa ∧ (∀ a : Int, (a < 161 ∨ 197 < a) → M' a = M a)) := by
        intro n_
        induction n_ using Nat.strongRecOn with
        | _ n_ ih21 =>
        intro a  hm21 ha_
        refine w_il hK rfl rfl ?_
        refine w_al hK rfl rfl ?_
        refine w_geti (n := 1) (m := 1) hK rfl rfl (by decide) (by decide) rfl rfl rfl rfl ?_
        rw [show V442 161 1 = (qq k : Int) from C442.F.q]
        refine w_ge2 hK rfl (by omega) (by omega) (by omega) (by omega) (fun h24 => ?_) (fun h24 => ?_)
        · have e_ : a = qq k := by omega
          subst e_
          refine w_al hK rfl rfl ?_
          refine w_ic hK rfl ?_
          refine w_puti (n := 13) (m := 13) hK rfl rfl (by decide) (by decide) rfl rfl rfl rfl ?_
          refine w_al hK rfl rfl ?_
          refine w_il hK rfl rfl ?_
          have b16_ : b16 (dnT (pl i) x (qq k)) := dnT_16 (pl i) x _ (qq_le k)
          have bI_ := b16_.I
          refine w_call [(0, dnT (pl i) x (qq k))] hK rfl rfl rfl rfl (Or.inl rfl) (r_ones b16_) ?_
          rintro _ Mq ⟨rfl, e_⟩
          subst Mq
          have wI_ := bcw_I (dnT (pl i) x (qq k))
          refine ⟨by show (0 : Nat) ≠ 9; decide, (?_ : Wp 198 _ 274 48 [(1, 161), (0, (i : Int)), (0, (x.val : Int)), (0, dnT (pl i) x (qq k)), (0, (qq k : Int))] [(0, (bcw (dnT (pl i) x (qq k)))), (1, 161)] (up V442 161 13 0) _)⟩
          refine w_i2l hK rfl (by omega) (by omega) ?_
          refine w_call [(1, 161), (2, (bcw (dnT (pl i) x (qq k))))] hK rfl rfl rfl rfl (Or.inr ⟨_, _, _, rfl, by decide, (by decide), rfl⟩) (r_tell (RM.zero (M := (up V442 161 13 0)) (rw := rw) up_eq) (by omega) (bcw (dnT (pl i) x (qq k)))) ?_
          rintro _ V443 ⟨rfl, R443, F443, G443⟩
          refine ⟨by decide, (?_ : Wp 198 _ 274 50 [(1, 161), (0, (i : Int)), (0, (x.val : Int)), (0, dnT (pl i) x (qq k)), (0, (qq k : Int))] [] V443 _)⟩
          refine w_il hK rfl rfl ?_
          refine w_iret hK rfl rfl ?_
          exact ⟨rfl, ⟨_, (RS.cg (RS.cg C442 (fun j_ h1_ h2_ => up_ne2 (by omega)) (fun a_ h1_ h2_ => up_row h1_)) (fun j_ h1_ h2_ => G443 j_ (by omega)) (fun a_ h1_ h2_ => F443 a_ h1_ (RSc_ne h2_ (by decide) (notR rfl)))), (PM.keep hpl ((F443 167 (by decide) (by decide)).trans ((up_row (by decide)).trans ((S442 167 (notR rfl)).trans (up_row (by decide)))))), (TMs.keep T ((G443 11 (by decide)).trans ((up_ne2 (by decide)).trans ((congrFun (S442 161 (notR rfl)) 11).trans (up_ne2 (by decide))))) ((F443 168 (by decide) (by decide)).trans ((up_row (by decide)).trans ((S442 168 (notR rfl)).trans (up_row (by decide)))))), R443, (FM.keep hF ((G443 15 (by decide)).trans ((up_ne2 (by decide)).trans ((congrFun (S442 161 (notR rfl)) 15).trans (up_ne2 (by decide))))) ((F443 189 (by decide) (by decide)).trans ((up_row (by decide)).trans ((S442 189 (notR rfl)).trans (up_row (by decide))))) ((F443 190 (by decide) (by decide)).trans ((up_row (by decide)).trans ((S442 190 (notR rfl)).trans (up_row (by decide))))))⟩, (fun a h_ => ((F443 a (by omega) (by omega)).trans ((up_row (by omega)).trans ((S442 a (npR h_)).trans (up_row (by omega))))))⟩
        · refine w_il hK rfl rfl ?_
          refine w_al hK rfl rfl ?_
          refine w_al hK rfl rfl ?_
          refine w_getr (n := 26) (v := 180) hK rfl rfl (by decide) (by decide) rfl rfl rfl rfl ?_
          refine w_il hK rfl rfl ?_
          refine w_call [(1, 161), (1, 180), (0, (a : Int))] hK rfl rfl rfl rfl (Or.inr ⟨_, _, _, rfl, by decide, (by decide), rfl⟩) (Ct.cv (r_done C442 ⟨(isR_of (p := 180) rfl), f442_0⟩ bi_ (el k a)) (by simp only [(elN (k := k) (n := a) (by omega))]; try rfl)) ?_
          rintro _ Mq ⟨rfl, e_⟩
          subst Mq
          have bv_ := el_I (dn (pl i) (el k a))
          refine ⟨by show (0 : Nat) ≠ 9; decide, (?_ : Wp 198 _ 274 31 [(1, 161), (0, (i : Int)), (0, (x.val : Int)), (0, dnT (pl i) x a), (0, (a : Int))] [(0, ((dn (pl i) (el k a)).val : Int)), (0, dnT (pl i) x a)] V442 _)⟩
          refine w_il hK rfl rfl ?_
          refine w_ne2 hK rfl (by omega) (by omega) (by omega) (by omega) (fun h32 => ?_) (fun h32 => ?_)
          · refine w_ic hK rfl ?_
            refine w_bin (w := i32 (dnT (pl i) x a) ||| i32 0) hK rfl rfl rfl ?_
            refine w_is [(1, 161), (0, (i : Int)), (0, (x.val : Int)), (0, (i32 (dnT (pl i) x a) ||| i32 0).toInt), (0, (a : Int))] hK rfl rfl rfl ?_
            refine w_inc [(1, 161), (0, (i : Int)), (0, (x.val : Int)), (0, (i32 (dnT (pl i) x a) ||| i32 0).toInt), (0, ((a : Int) + 1))] hK rfl rfl rfl (by omega) (by omega) rfl ?_
            refine w_goto hK rfl ?_
            have ek_ : dnT (pl i) x (a + 1) = dnT (pl i) x a := if_neg (fun q => by rw [q] at h32; exact h32 rfl)
            rw [(dnT_16 (pl i) x a (by omega)).or0]
            rw [show dnT (pl i) x a = dnT (pl i) x (a + 1) from ek_.symm]
            exact ih21 _ (by omega) (a + 1)  rfl (by omega)
          · refine w_ic hK rfl ?_
            refine w_il hK rfl rfl ?_
            refine w_bin (w := i32 1 <<< (i32 (a : Int) &&& 31)) hK rfl rfl rfl ?_
            refine w_goto hK rfl ?_
            refine w_bin (w := i32 (dnT (pl i) x a) ||| i32 ((i32 1 <<< (i32 (a : Int) &&& 31)).toInt)) hK rfl rfl rfl ?_
            refine w_is [(1, 161), (0, (i : Int)), (0, (x.val : Int)), (0, (i32 (dnT (pl i) x a) ||| i32 ((i32 1 <<< (i32 (a : Int) &&& 31)).toInt)).toInt), (0, (a : Int))] hK rfl rfl rfl ?_
            refine w_inc [(1, 161), (0, (i : Int)), (0, (x.val : Int)), (0, (i32 (dnT (pl i) x a) ||| i32 ((i32 1 <<< (i32 (a : Int) &&& 31)).toInt)).toInt), (0, ((a : Int) + 1))] hK rfl rfl rfl (by omega) (by omega) rfl ?_
            refine w_goto hK rfl ?_
            have ek_ : dnT (pl i) x (a + 1) = bset (dnT (pl i) x a) a := if_pos (Fin.ext (by omega))
            rw [show (i32 (dnT (pl i) x a) ||| i32 ((i32 1 <<< (i32 (a : Int) &&& 31)).toInt)).toInt = dnT (pl i) x (a + 1) from ek_.symm]
            exact ih21 _ (by omega) (a + 1)  rfl (by omega)
      exact lp21 _ 0  rfl (by omega)
    · exfalso; omega
set_option maxRecDepth 100000 in
theorem rn_solves {d : Nat} {M : Mem} {k : Nat} {pl : Nat → Pl k} {n : Int} {tx : Int → Int} {rc : Nat} {rw : Int → Int} {fc : Nat} {fa : Nat → Pl k} (H : RFS M k pl n tx rc rw fc fa) (i x : Int) (i1_ : -2147483648 ≤ i) (i2_ : i ≤ 2147483647) (x1_ : -2147483648 ≤ x) (x2_ : x ≤ 2147483647) (hn : ¬ ((0 ≤ i ∧ i < 6) ∧ 0 ≤ x ∧ x < (qq k : Int))) : Ct 198 (d + 8) 274 [(1, 161), (0, i), (0, x)] M (fun r_ M' => r_ = (0, -1) ∧ RFS M' k pl n tx rc rw fc fa ∧ (∀ a : Int, (a < 161 ∨ 197 < a) → M' a = M a)) := by
  have hK : cd 274 = k274 := rfl
  obtain ⟨R, C, hpl, T, hR, hF⟩ := H
  have q1_ := qq_I k
  have p1_ := pp_I k
  have m1_ := mm_I k
  show Wp 198 _ 274 0 [(1, 161), (0, i), (0, x), (3, 0), (3, 0)] [] M _
  refine w_al hK rfl rfl ?_
  refine w_ic hK rfl ?_
  refine w_puti (n := 14) (m := 14) hK rfl rfl (by decide) (by decide) rfl rfl rfl rfl ?_
  refine w_il hK rfl rfl ?_
  refine w_call [(0, i)] hK rfl rfl rfl rfl (Or.inl rfl) (r_place i (by omega) (by omega)) ?_
  rintro _ Mq ⟨rfl, e_⟩
  subst Mq
  have pI_444 := ite01 (0 ≤ i ∧ i < 6)
  refine ⟨by show (0 : Nat) ≠ 9; decide, (?_ : Wp 198 _ 274 5 [(1, 161), (0, i), (0, x), (3, 0), (3, 0)] [(0, (if 0 ≤ i ∧ i < 6 then 1 else 0))] (up M 161 14 0) _)⟩
  refine w_eq hK rfl (by omega) (by omega) (fun h5 => ?_) (fun h5 => ?_)
  · refine w_ic hK rfl ?_
    refine w_iret hK rfl rfl ?_
    exact ⟨rfl, ⟨_, (RS.cg C (fun j_ h1_ h2_ => up_ne2 (by omega)) (fun a_ h1_ h2_ => up_row h1_)), (PM.keep hpl (up_row (by decide))), (TMs.keep T (up_ne2 (by decide)) (up_row (by decide))), (RM.keep hR (up_ne2 (by decide)) (up_row (by decide))), (FM.keep hF (up_ne2 (by decide)) (up_row (by decide)) (up_row (by decide)))⟩, (fun a h_ => (up_row (by omega)))⟩
  · refine w_al hK rfl rfl ?_
    refine w_il hK rfl rfl ?_
    refine w_call [(1, 161), (0, x)] hK rfl rfl rfl rfl (Or.inr ⟨_, _, _, rfl, by decide, (by decide), rfl⟩) (r_isnum (RS.cg C (fun j_ h1_ h2_ => up_ne2 (by omega)) (fun a_ h1_ h2_ => up_row h1_)).F x (by omega) (by omega)) ?_
    rintro _ Mq ⟨rfl, e_⟩
    subst Mq
    have nI_445 := ite01 (0 ≤ x ∧ x < (qq k : Int))
    refine ⟨by show (0 : Nat) ≠ 9; decide, (?_ : Wp 198 _ 274 9 [(1, 161), (0, i), (0, x), (3, 0), (3, 0)] [(0, (if 0 ≤ x ∧ x < (qq k : Int) then 1 else 0))] (up M 161 14 0) _)⟩
    refine w_ne hK rfl (by omega) (by omega) (fun h9 => ?_) (fun h9 => ?_)
    · exfalso; omega
    · refine w_ic hK rfl ?_
      refine w_iret hK rfl rfl ?_
      exact ⟨rfl, ⟨_, (RS.cg C (fun j_ h1_ h2_ => up_ne2 (by omega)) (fun a_ h1_ h2_ => up_row h1_)), (PM.keep hpl (up_row (by decide))), (TMs.keep T (up_ne2 (by decide)) (up_row (by decide))), (RM.keep hR (up_ne2 (by decide)) (up_row (by decide))), (FM.keep hF (up_ne2 (by decide)) (up_row (by decide)) (up_row (by decide)))⟩, (fun a h_ => (up_row (by omega)))⟩
set_option maxRecDepth 100000 in
theorem ro_shares {d : Nat} {M : Mem} {k : Nat} {pl : Nat → Pl k} {n : Int} {tx : Int → Int} {rc : Nat} {rw : Int → Int} {fc : Nat} {fa : Nat → Pl k} (H : RFS M k pl n tx rc rw fc fa) (i : Nat) (hi : i < 6) (j : Nat) (hj : j < 6)  : Ct 198 (d + 8) 267 [(1, 161), (0, (i : Int)), (0, (j : Int))] M (fun r_ M' => r_ = (0, (band (rts (pl i) (qq k)) (rts (pl j) (qq k)))) ∧ RFS M' k pl n tx 2 (upr (upr rw 0 (bless (rts (pl i) (qq k)) (rts (pl j) (qq k)))) 1 (bless (rts (pl j) (qq k)) (rts (pl i) (qq k)))) fc fa ∧ (∀ a : Int, (a < 161 ∨ 197 < a) → M' a = M a)) := by
  have hK : cd 267 = k267 := rfl
  obtain ⟨R, C, hpl, T, hR, hF⟩ := H
  have q1_ := qq_I k
  have p1_ := pp_I k
  have m1_ := mm_I k
  have bi_ := (hpl i hi).2
  have di_ := dg_lt9 bi_
  have bj_ := (hpl j hj).2
  have dj_ := dg_lt9 bj_
  show Wp 198 _ 267 0 [(1, 161), (0, (i : Int)), (0, (j : Int)), (3, 0), (3, 0)] [] M _
  refine w_al hK rfl rfl ?_
  refine w_ic hK rfl ?_
  refine w_puti (n := 14) (m := 14) hK rfl rfl (by decide) (by decide) rfl rfl rfl rfl ?_
  refine w_al hK rfl rfl ?_
  refine w_il hK rfl rfl ?_
  refine w_il hK rfl rfl ?_
  refine w_ic hK rfl ?_
  refine w_call [(1, 161), (0, (i : Int)), (0, (j : Int)), (0, 0)] hK rfl rfl rfl rfl (Or.inr ⟨_, _, _, rfl, by decide, (by decide), rfl⟩) (r_loads (RS.cg C (fun j_ h1_ h2_ => up_ne2 (by omega)) (fun a_ h1_ h2_ => up_row h1_)) (PM.keep hpl (up_row (by decide))) i j 0 hi hj (by decide)) ?_
  rintro _ V446 ⟨P446, rfl, C446, S446, F446, f446_0, f446_1⟩
  refine ⟨by show (0 : Nat) ≠ 9; decide, (?_ : Wp 198 _ 267 8 [(1, 161), (0, (i : Int)), (0, (j : Int)), (3, 0), (3, 0)] [(0, 1)] V446 _)⟩
  refine w_ne hK rfl (by omega) (by omega) (fun h8 => ?_) (fun h8 => ?_)
  · refine w_al hK rfl rfl ?_
    refine w_al hK rfl rfl ?_
    refine w_getr (n := 26) (v := 180) hK rfl rfl (by decide) (by decide) rfl rfl rfl rfl ?_
    refine w_call [(1, 161), (1, 180)] hK rfl rfl rfl rfl (Or.inr ⟨_, _, _, rfl, by decide, (by decide), rfl⟩) (r_rts C446 ⟨(isR_of (p := 180) rfl), f446_0⟩ (bi_.mono (by decide))) ?_
    rintro _ Mq ⟨rfl, e_⟩
    subst Mq
    refine ⟨by show (0 : Nat) ≠ 9; decide, (?_ : Wp 198 _ 267 15 [(1, 161), (0, (i : Int)), (0, (j : Int)), (3, 0), (3, 0)] [(0, (rts (pl i) (qq k)))] V446 _)⟩
    refine w_is [(1, 161), (0, (i : Int)), (0, (j : Int)), (0, (rts (pl i) (qq k))), (3, 0)] hK rfl rfl rfl ?_
    refine w_al hK rfl rfl ?_
    refine w_al hK rfl rfl ?_
    refine w_getr (n := 27) (v := 181) hK rfl rfl (by decide) (by decide) rfl rfl rfl rfl ?_
    refine w_call [(1, 161), (1, 181)] hK rfl rfl rfl rfl (Or.inr ⟨_, _, _, rfl, by decide, (by decide), rfl⟩) (r_rts C446 ⟨(isR_of (p := 181) rfl), f446_1⟩ (bj_.mono (by decide))) ?_
    rintro _ Mq ⟨rfl, e_⟩
    subst Mq
    refine ⟨by show (0 : Nat) ≠ 9; decide, (?_ : Wp 198 _ 267 20 [(1, 161), (0, (i : Int)), (0, (j : Int)), (0, (rts (pl i) (qq k))), (3, 0)] [(0, (rts (pl j) (qq k)))] V446 _)⟩
    refine w_is [(1, 161), (0, (i : Int)), (0, (j : Int)), (0, (rts (pl i) (qq k))), (0, (rts (pl j) (qq k)))] hK rfl rfl rfl ?_
    refine w_al hK rfl rfl ?_
    refine w_ic hK rfl ?_
    refine w_puti (n := 13) (m := 13) hK rfl rfl (by decide) (by decide) rfl rfl rfl rfl ?_
    refine w_al hK rfl rfl ?_
    refine w_il hK rfl rfl ?_
    refine w_il hK rfl rfl ?_
    refine w_ic hK rfl ?_
    refine w_bin (w := i32 (rts (pl j) (qq k)) ^^^ i32 (-1)) hK rfl rfl rfl ?_
    refine w_bin (w := i32 (rts (pl i) (qq k)) &&& i32 ((i32 (rts (pl j) (qq k)) ^^^ i32 (-1)).toInt)) hK rfl rfl rfl ?_
    have wI_ := w32_I (i32 (rts (pl i) (qq k)) &&& i32 ((i32 (rts (pl j) (qq k)) ^^^ i32 (-1)).toInt))
    refine w_i2l hK rfl (by omega) (by omega) ?_
    refine w_call [(1, 161), (2, (i32 (rts (pl i) (qq k)) &&& i32 ((i32 (rts (pl j) (qq k)) ^^^ i32 (-1)).toInt)).toInt)] hK rfl rfl rfl rfl (Or.inr ⟨_, _, _, rfl, by decide, (by decide), rfl⟩) (r_tell (RM.zero (M := (up V446 161 13 0)) (rw := rw) up_eq) (by omega) ((i32 (rts (pl i) (qq k)) &&& i32 ((i32 (rts (pl j) (qq k)) ^^^ i32 (-1)).toInt)).toInt)) ?_
    rintro _ V447 ⟨rfl, R447, F447, G447⟩
    refine ⟨by decide, (?_ : Wp 198 _ 267 32 [(1, 161), (0, (i : Int)), (0, (j : Int)), (0, (rts (pl i) (qq k))), (0, (rts (pl j) (qq k)))] [] V447 _)⟩
    refine w_al hK rfl rfl ?_
    refine w_il hK rfl rfl ?_
    refine w_il hK rfl rfl ?_
    refine w_ic hK rfl ?_
    refine w_bin (w := i32 (rts (pl i) (qq k)) ^^^ i32 (-1)) hK rfl rfl rfl ?_
    refine w_bin (w := i32 (rts (pl j) (qq k)) &&& i32 ((i32 (rts (pl i) (qq k)) ^^^ i32 (-1)).toInt)) hK rfl rfl rfl ?_
    have wI_ := w32_I (i32 (rts (pl j) (qq k)) &&& i32 ((i32 (rts (pl i) (qq k)) ^^^ i32 (-1)).toInt))
    refine w_i2l hK rfl (by omega) (by omega) ?_
    refine w_call [(1, 161), (2, (i32 (rts (pl j) (qq k)) &&& i32 ((i32 (rts (pl i) (qq k)) ^^^ i32 (-1)).toInt)).toInt)] hK rfl rfl rfl rfl (Or.inr ⟨_, _, _, rfl, by decide, (by decide), rfl⟩) (r_tell R447 (by omega) ((i32 (rts (pl j) (qq k)) &&& i32 ((i32 (rts (pl i) (qq k)) ^^^ i32 (-1)).toInt)).toInt)) ?_
    rintro _ V448 ⟨rfl, R448, F448, G448⟩
    refine ⟨by decide, (?_ : Wp 198 _ 267 40 [(1, 161), (0, (i : Int)), (0, (j : Int)), (0, (rts (pl i) (qq k))), (0, (rts (pl j) (qq k)))] [] V448 _)⟩
    refine w_il hK rfl rfl ?_
    refine w_il hK rfl rfl ?_
    refine w_bin (w := i32 (rts (pl i) (qq k)) &&& i32 (rts (pl j) (qq k))) hK rfl rfl rfl ?_
    refine w_iret hK rfl rfl ?_
    exact ⟨rfl, ⟨_, (RS.cg (RS.cg (RS.cg C446 (fun j_ h1_ h2_ => up_ne2 (by omega)) (fun a_ h1_ h2_ => up_row h1_)) (fun j_ h1_ h2_ => G447 j_ (by omega)) (fun a_ h1_ h2_ => F447 a_ h1_ (RSc_ne h2_ (by decide) (notR rfl)))) (fun j_ h1_ h2_ => G448 j_ (by omega)) (fun a_ h1_ h2_ => F448 a_ h1_ (RSc_ne h2_ (by decide) (notR rfl)))), (PM.keep hpl ((F448 167 (by decide) (by decide)).trans ((F447 167 (by decide) (by decide)).trans ((up_row (by decide)).trans ((S446 167 (notR rfl)).trans (up_row (by decide))))))), (TMs.keep T ((G448 11 (by decide)).trans ((G447 11 (by decide)).trans ((up_ne2 (by decide)).trans ((congrFun (S446 161 (notR rfl)) 11).trans (up_ne2 (by decide)))))) ((F448 168 (by decide) (by decide)).trans ((F447 168 (by decide) (by decide)).trans ((up_row (by decide)).trans ((S446 168 (notR rfl)).trans (up_row (by decide))))))), R448, (FM.keep hF ((G448 15 (by decide)).trans ((G447 15 (by decide)).trans ((up_ne2 (by decide)).trans ((congrFun (S446 161 (notR rfl)) 15).trans (up_ne2 (by decide)))))) ((F448 189 (by decide) (by decide)).trans ((F447 189 (by decide) (by decide)).trans ((up_row (by decide)).trans ((S446 189 (notR rfl)).trans (up_row (by decide)))))) ((F448 190 (by decide) (by decide)).trans ((F447 190 (by decide) (by decide)).trans ((up_row (by decide)).trans ((S446 190 (notR rfl)).trans (up_row (by decide)))))))⟩, (fun a h_ => ((F448 a (by omega) (by omega)).trans ((F447 a (by omega) (by omega)).trans ((up_row (by omega)).trans ((S446 a (npR h_)).trans (up_row (by omega)))))))⟩
  · exfalso; omega
set_option maxRecDepth 100000 in
theorem rn_shares {d : Nat} {M : Mem} {k : Nat} {pl : Nat → Pl k} {n : Int} {tx : Int → Int} {rc : Nat} {rw : Int → Int} {fc : Nat} {fa : Nat → Pl k} (H : RFS M k pl n tx rc rw fc fa) (i j : Int) (i1_ : -2147483648 ≤ i) (i2_ : i ≤ 2147483647) (j1_ : -2147483648 ≤ j) (j2_ : j ≤ 2147483647) (hn : ¬ ((0 ≤ i ∧ i < 6) ∧ (0 ≤ j ∧ j < 6))) : Ct 198 (d + 8) 267 [(1, 161), (0, i), (0, j)] M (fun r_ M' => r_ = (0, -1) ∧ RFS M' k pl n tx rc rw fc fa ∧ (∀ a : Int, (a < 161 ∨ 197 < a) → M' a = M a)) := by
  have hK : cd 267 = k267 := rfl
  obtain ⟨R, C, hpl, T, hR, hF⟩ := H
  have q1_ := qq_I k
  have p1_ := pp_I k
  have m1_ := mm_I k
  show Wp 198 _ 267 0 [(1, 161), (0, i), (0, j), (3, 0), (3, 0)] [] M _
  refine w_al hK rfl rfl ?_
  refine w_ic hK rfl ?_
  refine w_puti (n := 14) (m := 14) hK rfl rfl (by decide) (by decide) rfl rfl rfl rfl ?_
  refine w_al hK rfl rfl ?_
  refine w_il hK rfl rfl ?_
  refine w_il hK rfl rfl ?_
  refine w_ic hK rfl ?_
  refine w_call [(1, 161), (0, i), (0, j), (0, 0)] hK rfl rfl rfl rfl (Or.inr ⟨_, _, _, rfl, by decide, (by decide), rfl⟩) (r_loadsN i j 0 (by omega) (by omega) (by omega) (by omega) (by omega) (by omega) (by omega)) ?_
  rintro _ Mq ⟨rfl, e_⟩
  subst Mq
  refine ⟨by show (0 : Nat) ≠ 9; decide, (?_ : Wp 198 _ 267 8 [(1, 161), (0, i), (0, j), (3, 0), (3, 0)] [(0, 0)] (up M 161 14 0) _)⟩
  refine w_ne hK rfl (by omega) (by omega) (fun h8 => ?_) (fun h8 => ?_)
  · exfalso; omega
  · refine w_ic hK rfl ?_
    refine w_iret hK rfl rfl ?_
    exact ⟨rfl, ⟨_, (RS.cg C (fun j_ h1_ h2_ => up_ne2 (by omega)) (fun a_ h1_ h2_ => up_row h1_)), (PM.keep hpl (up_row (by decide))), (TMs.keep T (up_ne2 (by decide)) (up_row (by decide))), (RM.keep hR (up_ne2 (by decide)) (up_row (by decide))), (FM.keep hF (up_ne2 (by decide)) (up_row (by decide)) (up_row (by decide)))⟩, (fun a h_ => (up_row (by omega)))⟩
set_option maxRecDepth 100000 in
theorem ro_eigen {d : Nat} {M : Mem} {k : Nat} {pl : Nat → Pl k} {n : Int} {tx : Int → Int} {rc : Nat} {rw : Int → Int} {fc : Nat} {fa : Nat → Pl k} (H : RFS M k pl n tx rc rw fc fa) (i : Nat) (hi : i < 6)  : Ct 198 (d + 8) 268 [(1, 161), (0, (i : Int))] M (fun r_ M' => r_ = (0, (egn (pl i) rw (qq k)).1) ∧ RFS M' k pl n tx ((egn (pl i) rw (qq k)).2.1) ((egn (pl i) rw (qq k)).2.2) fc fa ∧ (∀ a : Int, (a < 161 ∨ 197 < a) → M' a = M a)) := by
  have hK : cd 268 = k268 := rfl
  obtain ⟨R, C, hpl, T, hR, hF⟩ := H
  have q1_ := qq_I k
  have p1_ := pp_I k
  have m1_ := mm_I k
  have bi_ := (hpl i hi).2
  have di_ := dg_lt9 bi_
  show Wp 198 _ 268 0 [(1, 161), (0, (i : Int)), (3, 0), (3, 0), (3, 0)] [] M _
  refine w_al hK rfl rfl ?_
  refine w_ic hK rfl ?_
  refine w_puti (n := 14) (m := 14) hK rfl rfl (by decide) (by decide) rfl rfl rfl rfl ?_
  refine w_il hK rfl rfl ?_
  refine w_call [(0, (i : Int))] hK rfl rfl rfl rfl (Or.inl rfl) (r_place (i : Int) (by omega) (by omega)) ?_
  rintro _ Mq ⟨rfl, e_⟩
  subst Mq
  have pI_449 := ite01 (0 ≤ (i : Int) ∧ (i : Int) < 6)
  refine ⟨by show (0 : Nat) ≠ 9; decide, (?_ : Wp 198 _ 268 5 [(1, 161), (0, (i : Int)), (3, 0), (3, 0), (3, 0)] [(0, (if 0 ≤ (i : Int) ∧ (i : Int) < 6 then 1 else 0))] (up M 161 14 0) _)⟩
  refine w_ne hK rfl (by omega) (by omega) (fun h5 => ?_) (fun h5 => ?_)
  · refine w_al hK rfl rfl ?_
    refine w_il hK rfl rfl ?_
    refine w_al hK rfl rfl ?_
    refine w_getr (n := 26) (v := 180) hK rfl rfl (by decide) (by decide) rfl rfl rfl rfl ?_
    refine w_call [(1, 161), (0, (i : Int)), (1, 180)] hK rfl rfl rfl rfl (Or.inr ⟨_, _, _, rfl, by decide, (by decide), rfl⟩) (r_load (RS.cg C (fun j_ h1_ h2_ => up_ne2 (by omega)) (fun a_ h1_ h2_ => up_row h1_)) (PM.keep hpl (up_row (by decide))) i hi (isR_of (p := 180) rfl)) ?_
    rintro _ V450 ⟨P450, rfl, C450, S450, F450, f450_0⟩
    refine ⟨by decide, (?_ : Wp 198 _ 268 13 [(1, 161), (0, (i : Int)), (3, 0), (3, 0), (3, 0)] [] V450 _)⟩
    refine w_ic hK rfl ?_
    refine w_is [(1, 161), (0, (i : Int)), (0, 0), (3, 0), (3, 0)] hK rfl rfl rfl ?_
    refine w_al hK rfl rfl ?_
    refine w_ic hK rfl ?_
    refine w_puti (n := 13) (m := 13) hK rfl rfl (by decide) (by decide) rfl rfl rfl rfl ?_
    refine w_ic hK rfl ?_
    refine w_is [(1, 161), (0, (i : Int)), (0, 0), (0, 0), (3, 0)] hK rfl rfl rfl ?_
    have lp20 : ∀ (n_ : Nat) (a : Nat) (w4 : AV) (N20 : Mem), 17 - a = n_ → (a ≤ qq k) → ((∀ a : Int, a ≠ 161 → a ≠ 169 → N20 a = (up V450 161 13 0) a)) → ((∀ j : Int, j ≠ 13 → N20 161 j = (up V450 161 13 0) 161 j)) → (RM N20 (egn (pl i) rw a).2.1 (egn (pl i) rw a).2.2) → Wp 198 (d + 8) 268 20 [(1, 161), (0, (i : Int)), (0, (egn (pl i) rw a).1), (0, (a : Int)), w4] [] N20 (fun r_ M' => r_ = (0, (egn (pl i) rw (qq k)).1) ∧ RFS M' k pl n tx ((egn (pl i) rw (qq k)).2.1) ((egn (pl i) rw (qq k)).2.2) fc fa ∧ (∀ a : Int, (a < 161 ∨ 197 < a) → M' a = M a)) := by
      intro n_
      induction n_ using Nat.strongRecOn with
      | _ n_ ih20 =>
      intro a w4 N20 hm20 ha_ hSN20 hHN20 hRN20
      have gI_ := egn_I (pl i) rw a
      refine w_il hK rfl rfl ?_
      refine w_al hK rfl rfl ?_
      refine w_geti (n := 1) (m := 1) hK rfl rfl (by decide) (by decide) rfl rfl rfl rfl ?_
      rw [show N20 161 1 = (qq k : Int) from (RS.cg (RS.cg C450 (fun j_ h1_ h2_ => up_ne2 (by omega)) (fun a_ h1_ h2_ => up_row h1_)) (fun j_ h1_ h2_ => hHN20 j_ (by omega)) (fun a_ h1_ h2_ => hSN20 a_ h1_ (RSc_ne h2_ (by decide) (notR rfl)))).F.q]
      refine w_ge2 hK rfl (by omega) (by omega) (by omega) (by omega) (fun h23 => ?_) (fun h23 => ?_)
      · refine w_il hK rfl rfl ?_
        refine w_iret hK rfl rfl ?_
        have e_ : a = qq k := by omega
        subst e_
        exact ⟨rfl, ⟨_, (RS.cg (RS.cg C450 (fun j_ h1_ h2_ => up_ne2 (by omega)) (fun a_ h1_ h2_ => up_row h1_)) (fun j_ h1_ h2_ => hHN20 j_ (by omega)) (fun a_ h1_ h2_ => hSN20 a_ h1_ (RSc_ne h2_ (by decide) (notR rfl)))), (PM.keep hpl ((hSN20 167 (by decide) (by decide)).trans ((up_row (by decide)).trans ((S450 167 (notR rfl)).trans (up_row (by decide)))))), (TMs.keep T ((hHN20 11 (by decide)).trans ((up_ne2 (by decide)).trans ((congrFun (S450 161 (notR rfl)) 11).trans (up_ne2 (by decide))))) ((hSN20 168 (by decide) (by decide)).trans ((up_row (by decide)).trans ((S450 168 (notR rfl)).trans (up_row (by decide)))))), hRN20, (FM.keep hF ((hHN20 15 (by decide)).trans ((up_ne2 (by decide)).trans ((congrFun (S450 161 (notR rfl)) 15).trans (up_ne2 (by decide))))) ((hSN20 189 (by decide) (by decide)).trans ((up_row (by decide)).trans ((S450 189 (notR rfl)).trans (up_row (by decide))))) ((hSN20 190 (by decide) (by decide)).trans ((up_row (by decide)).trans ((S450 190 (notR rfl)).trans (up_row (by decide))))))⟩, (fun a h_ => ((hSN20 a (by omega) (by omega)).trans ((up_row (by omega)).trans ((S450 a (npR h_)).trans (up_row (by omega))))))⟩
      · refine w_al hK rfl rfl ?_
        refine w_al hK rfl rfl ?_
        refine w_getr (n := 26) (v := 180) hK rfl rfl (by decide) (by decide) rfl rfl rfl rfl ?_
        refine w_il hK rfl rfl ?_
        refine w_call [(1, 161), (1, 180), (0, (a : Int))] hK rfl rfl rfl rfl (Or.inr ⟨_, _, _, rfl, by decide, (by decide), rfl⟩) (Ct.cv (r_least (RS.cg (RS.cg C450 (fun j_ h1_ h2_ => up_ne2 (by omega)) (fun a_ h1_ h2_ => up_row h1_)) (fun j_ h1_ h2_ => hHN20 j_ (by omega)) (fun a_ h1_ h2_ => hSN20 a_ h1_ (RSc_ne h2_ (by decide) (notR rfl)))) ⟨(isR_of (p := 180) rfl), f450_0⟩ bi_ (el k a)) (by simp only [(elN (k := k) (n := a) (by omega))]; try rfl)) ?_
        rintro _ Mq ⟨rfl, e_⟩
        subst Mq
        have lI_ := lst_I (pl i) (el k a) (qq k - 1)
        refine ⟨by show (0 : Nat) ≠ 9; decide, (?_ : Wp 198 _ 268 29 [(1, 161), (0, (i : Int)), (0, (egn (pl i) rw a).1), (0, (a : Int)), w4] [(0, (lst (pl i) (el k a) (qq k - 1)))] N20 _)⟩
        refine w_is [(1, 161), (0, (i : Int)), (0, (egn (pl i) rw a).1), (0, (a : Int)), (0, (lst (pl i) (el k a) (qq k - 1)))] hK rfl rfl rfl ?_
        refine w_il hK rfl rfl ?_
        refine w_ne hK rfl (by omega) (by omega) (fun h31 => ?_) (fun h31 => ?_)
        · refine w_il hK rfl rfl ?_
          refine w_ic hK rfl ?_
          refine w_il hK rfl rfl ?_
          refine w_bin (w := i32 1 <<< (i32 (a : Int) &&& 31)) hK rfl rfl rfl ?_
          refine w_bin (w := i32 ((egn (pl i) rw a).1) ||| i32 ((i32 1 <<< (i32 (a : Int) &&& 31)).toInt)) hK rfl rfl rfl ?_
          refine w_is [(1, 161), (0, (i : Int)), (0, (i32 ((egn (pl i) rw a).1) ||| i32 ((i32 1 <<< (i32 (a : Int) &&& 31)).toInt)).toInt), (0, (a : Int)), (0, (lst (pl i) (el k a) (qq k - 1)))] hK rfl rfl rfl ?_
          refine w_al hK rfl rfl ?_
          refine w_il hK rfl rfl ?_
          refine w_i2l hK rfl (by omega) (by omega) ?_
          refine w_call [(1, 161), (2, (lst (pl i) (el k a) (qq k - 1)))] hK rfl rfl rfl rfl (Or.inr ⟨_, _, _, rfl, by decide, (by decide), rfl⟩) (r_tell hRN20 (by omega) (lst (pl i) (el k a) (qq k - 1))) ?_
          rintro _ V451 ⟨rfl, R451, F451, G451⟩
          refine ⟨by decide, (?_ : Wp 198 _ 268 43 [(1, 161), (0, (i : Int)), (0, (i32 ((egn (pl i) rw a).1) ||| i32 ((i32 1 <<< (i32 (a : Int) &&& 31)).toInt)).toInt), (0, (a : Int)), (0, (lst (pl i) (el k a) (qq k - 1)))] [] V451 _)⟩
          refine w_inc [(1, 161), (0, (i : Int)), (0, (i32 ((egn (pl i) rw a).1) ||| i32 ((i32 1 <<< (i32 (a : Int) &&& 31)).toInt)).toInt), (0, ((a : Int) + 1)), (0, (lst (pl i) (el k a) (qq k - 1)))] hK rfl rfl rfl (by omega) (by omega) rfl ?_
          refine w_goto hK rfl ?_
          have eu_ : (egn (pl i) rw (a + 1)) = ((i32 ((egn (pl i) rw a).1) ||| i32 ((i32 1 <<< (i32 (a : Int) &&& 31)).toInt)).toInt, ((egn (pl i) rw a).2.1 + 1), (upr (egn (pl i) rw a).2.2 ((egn (pl i) rw a).2.1 : Int) (lst (pl i) (el k a) (qq k - 1)))) := if_pos (by omega)
          have e1_ : (egn (pl i) rw (a + 1)).1 = (i32 ((egn (pl i) rw a).1) ||| i32 ((i32 1 <<< (i32 (a : Int) &&& 31)).toInt)).toInt := congrArg Prod.fst eu_
          rw [← e1_]
          exact ih20 _ (by omega) (a + 1) (0, (lst (pl i) (el k a) (qq k - 1))) V451 rfl (by omega) (fun a n161_ n169_ => ((F451 a n161_ n169_).trans (hSN20 a n161_ n169_))) (fun j n13_ => ((G451 j n13_).trans (hHN20 j n13_))) (by rw [eu_]; exact R451)
        · refine w_goto hK rfl ?_
          refine w_inc [(1, 161), (0, (i : Int)), (0, (egn (pl i) rw a).1), (0, ((a : Int) + 1)), (0, (lst (pl i) (el k a) (qq k - 1)))] hK rfl rfl rfl (by omega) (by omega) rfl ?_
          refine w_goto hK rfl ?_
          have eu_ : (egn (pl i) rw (a + 1)) = (egn (pl i) rw a) := if_neg (by omega)
          have e1_ : (egn (pl i) rw (a + 1)).1 = (egn (pl i) rw a).1 := congrArg Prod.fst eu_
          rw [← e1_]
          exact ih20 _ (by omega) (a + 1) (0, (lst (pl i) (el k a) (qq k - 1))) N20 rfl (by omega) (fun a n161_ n169_ => (hSN20 a n161_ n169_)) (fun j n13_ => (hHN20 j n13_)) (by rw [eu_]; exact hRN20)
    exact lp20 _ 0 (3, 0) (up V450 161 13 0) rfl (by omega) (fun a n161_ n169_ => rfl) (fun j n13_ => rfl) (RM.zero (M := (up V450 161 13 0)) (rw := rw) up_eq)
  · exfalso; omega
set_option maxRecDepth 100000 in
theorem rn_eigen {d : Nat} {M : Mem} {k : Nat} {pl : Nat → Pl k} {n : Int} {tx : Int → Int} {rc : Nat} {rw : Int → Int} {fc : Nat} {fa : Nat → Pl k} (H : RFS M k pl n tx rc rw fc fa) (i : Int) (i1_ : -2147483648 ≤ i) (i2_ : i ≤ 2147483647) (hn : ¬ (0 ≤ i ∧ i < 6)) : Ct 198 (d + 8) 268 [(1, 161), (0, i)] M (fun r_ M' => r_ = (0, -1) ∧ RFS M' k pl n tx rc rw fc fa ∧ (∀ a : Int, (a < 161 ∨ 197 < a) → M' a = M a)) := by
  have hK : cd 268 = k268 := rfl
  obtain ⟨R, C, hpl, T, hR, hF⟩ := H
  have q1_ := qq_I k
  have p1_ := pp_I k
  have m1_ := mm_I k
  show Wp 198 _ 268 0 [(1, 161), (0, i), (3, 0), (3, 0), (3, 0)] [] M _
  refine w_al hK rfl rfl ?_
  refine w_ic hK rfl ?_
  refine w_puti (n := 14) (m := 14) hK rfl rfl (by decide) (by decide) rfl rfl rfl rfl ?_
  refine w_il hK rfl rfl ?_
  refine w_call [(0, i)] hK rfl rfl rfl rfl (Or.inl rfl) (r_place i (by omega) (by omega)) ?_
  rintro _ Mq ⟨rfl, e_⟩
  subst Mq
  have pI_452 := ite01 (0 ≤ i ∧ i < 6)
  refine ⟨by show (0 : Nat) ≠ 9; decide, (?_ : Wp 198 _ 268 5 [(1, 161), (0, i), (3, 0), (3, 0), (3, 0)] [(0, (if 0 ≤ i ∧ i < 6 then 1 else 0))] (up M 161 14 0) _)⟩
  refine w_ne hK rfl (by omega) (by omega) (fun h5 => ?_) (fun h5 => ?_)
  · exfalso; omega
  · refine w_ic hK rfl ?_
    refine w_iret hK rfl rfl ?_
    exact ⟨rfl, ⟨_, (RS.cg C (fun j_ h1_ h2_ => up_ne2 (by omega)) (fun a_ h1_ h2_ => up_row h1_)), (PM.keep hpl (up_row (by decide))), (TMs.keep T (up_ne2 (by decide)) (up_row (by decide))), (RM.keep hR (up_ne2 (by decide)) (up_row (by decide))), (FM.keep hF (up_ne2 (by decide)) (up_row (by decide)) (up_row (by decide)))⟩, (fun a h_ => (up_row (by omega)))⟩
