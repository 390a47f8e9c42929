/-! contracts: reading a number -/
theorem TXs.up {M : Mem} {n : Int} {tx : Int → Int} {f v : Int} (T : TXs M n tx) (h : f ≠ 3) : TXs (up M 140 f v) n tx := by
  refine ⟨⟨(up_ne2 (Ne.symm h)).trans T.1.1, T.1.2⟩, fun i h1 h2 => ?_, T.2.2⟩
  have e := T.2.1 i h1 h2
  rw [up_row (by decide)]
  exact e
/-- a number is read: it or -1, where the reading stands, the place of the fault -/
def rdn (tx : Int → Int) (q a : Int) : Int × Int × Int :=
  if isd (tx a) = 0 then (-1, a, a)
  else if isd (tx (a + 1)) = 0 then (if q ≤ tx a - 48 then -1 else tx a - 48, a + 1, a)
  else if isd (tx (a + 2)) = 0 then (if q ≤ (tx a - 48) * 10 + tx (a + 1) - 48 then -1 else (tx a - 48) * 10 + tx (a + 1) - 48, a + 2, a + 1)
  else (-1, a + 2, a + 2)
set_option maxRecDepth 100000 in
theorem c_rdn {d : Nat} {M : Mem} {n : Int} {tx : Int → Int} (T : TXs M n tx) (q : Int) (q0 : 0 ≤ q) (q1 : q ≤ 16) (a : Int) (ha : M 140 5 = a) (a0 : 0 ≤ a) (a1 : a ≤ 40) : Ct 198 (d + 2) 113 [(1, 140), (0, q)] M (fun r M' => (r = (0, (rdn tx q a).1) ∧ M' 140 5 = (rdn tx q a).2.1 ∧ M' 140 6 = (rdn tx q a).2.2) ∧ (∀ c : Int, c ≠ 140 → M' c = M c) ∧ ∀ f : Int, f ≠ 5 → f ≠ 6 → M' 140 f = M 140 f) := by
  have hK : cd 113 = k113 := rfl
  show Wp 198 _ 113 0 [(1, 140), (0, q), (3, 0)] [] M _
  refine w_al hK rfl rfl ?_
  refine w_al hK rfl rfl ?_
  refine w_geti (n := 5) (m := 5) hK rfl rfl (by decide) (by decide) rfl rfl rfl rfl ?_
  rw [show M 140 5 = a from ha]
  refine w_puti (n := 6) (m := 6) hK rfl rfl (by decide) (by decide) rfl rfl rfl rfl ?_
  refine w_al hK rfl rfl ?_
  refine w_al hK rfl rfl ?_
  refine w_geti (n := 5) (m := 5) hK rfl rfl (by decide) (by decide) rfl rfl rfl rfl ?_
  rw [show (up M 140 6 a) 140 5 = a from ((up_ne2 (by decide)).trans ha)]
  refine w_call [(1, 140), (0, a)] hK rfl rfl rfl rfl (Or.inr ⟨_, _, _, rfl, by decide, (by decide), rfl⟩) (c_isd (TXs.up T (by decide)) a (by omega) (by omega)) ?_
  rintro _ Mq ⟨rfl, e_⟩
  subst Mq
  have dI_ := isd_I (tx a)
  refine ⟨by show (0 : Nat) ≠ 9; decide, (?_ : Wp 198 _ 113 8 [(1, 140), (0, q), (3, 0)] [(0, (isd (tx a)))] (up M 140 6 a) _)⟩
  refine w_ne hK rfl (by omega) (by omega) (fun h8 => ?_) (fun h8 => ?_)
  · refine w_al hK rfl rfl ?_
    refine w_al hK rfl rfl ?_
    refine w_geti (n := 5) (m := 5) hK rfl rfl (by decide) (by decide) rfl rfl rfl rfl ?_
    rw [show (up M 140 6 a) 140 5 = a from ((up_ne2 (by decide)).trans ha)]
    refine w_call [(1, 140), (0, a)] hK rfl rfl rfl rfl (Or.inr ⟨_, _, _, rfl, by decide, (by decide), rfl⟩) (c_sgn (TXs.up T (by decide)) a (by omega) (by omega)) ?_
    rintro _ Mq ⟨rfl, e_⟩
    subst Mq
    have tI_ := T.I a
    refine ⟨by show (0 : Nat) ≠ 9; decide, (?_ : Wp 198 _ 113 15 [(1, 140), (0, q), (3, 0)] [(0, (tx a))] (up M 140 6 a) _)⟩
    refine w_ic hK rfl ?_
    refine w_sub hK rfl (by omega) (by omega) ?_
    refine w_is [(1, 140), (0, q), (0, ((tx a) - 48))] hK rfl rfl rfl ?_
    refine w_al hK rfl rfl ?_
    refine w_dup hK rfl rfl ?_
    refine w_geti (n := 5) (m := 5) hK rfl rfl (by decide) (by decide) rfl rfl rfl rfl ?_
    rw [show (up M 140 6 a) 140 5 = a from ((up_ne2 (by decide)).trans ha)]
    refine w_ic hK rfl ?_
    refine w_add hK rfl (by omega) (by omega) ?_
    refine w_puti (n := 5) (m := 5) hK rfl rfl (by decide) (by decide) rfl rfl rfl rfl ?_
    refine w_al hK rfl rfl ?_
    refine w_al hK rfl rfl ?_
    refine w_geti (n := 5) (m := 5) hK rfl rfl (by decide) (by decide) rfl rfl rfl rfl ?_
    rw [show (up (up M 140 6 a) 140 5 (a + 1)) 140 5 = (a + 1) from up_eq]
    refine w_call [(1, 140), (0, (a + 1))] hK rfl rfl rfl rfl (Or.inr ⟨_, _, _, rfl, by decide, (by decide), rfl⟩) (c_isd (TXs.up (TXs.up T (by decide)) (by decide)) (a + 1) (by omega) (by omega)) ?_
    rintro _ Mq ⟨rfl, e_⟩
    subst Mq
    have dI_ := isd_I (tx (a + 1))
    refine ⟨by show (0 : Nat) ≠ 9; decide, (?_ : Wp 198 _ 113 28 [(1, 140), (0, q), (0, ((tx a) - 48))] [(0, (isd (tx (a + 1))))] (up (up M 140 6 a) 140 5 (a + 1)) _)⟩
    refine w_eq hK rfl (by omega) (by omega) (fun h28 => ?_) (fun h28 => ?_)
    · refine w_al hK rfl rfl ?_
      refine w_al hK rfl rfl ?_
      refine w_al hK rfl rfl ?_
      refine w_geti (n := 5) (m := 5) hK rfl rfl (by decide) (by decide) rfl rfl rfl rfl ?_
      rw [show (up (up M 140 6 a) 140 5 (a + 1)) 140 5 = (a + 1) from up_eq]
      refine w_call [(1, 140), (0, (a + 1))] hK rfl rfl rfl rfl (Or.inr ⟨_, _, _, rfl, by decide, (by decide), rfl⟩) (c_isd (TXs.up (TXs.up T (by decide)) (by decide)) (a + 1) (by omega) (by omega)) ?_
      rintro _ Mq ⟨rfl, e_⟩
      subst Mq
      have dI_ := isd_I (tx (a + 1))
      refine ⟨by show (0 : Nat) ≠ 9; decide, (?_ : Wp 198 _ 113 51 [(1, 140), (0, q), (0, ((tx a) - 48))] [(0, (isd (tx (a + 1)))), (1, 140)] (up (up M 140 6 a) 140 5 (a + 1)) _)⟩
      refine w_eq hK rfl (by omega) (by omega) (fun h51 => ?_) (fun h51 => ?_)
      · refine w_al hK rfl rfl ?_
        refine w_geti (n := 5) (m := 5) hK rfl rfl (by decide) (by decide) rfl rfl rfl rfl ?_
        rw [show (up (up M 140 6 a) 140 5 (a + 1)) 140 5 = (a + 1) from up_eq]
        refine w_ic hK rfl ?_
        refine w_sub hK rfl (by omega) (by omega) ?_
        refine w_puti (n := 6) (m := 6) hK rfl rfl (by decide) (by decide) rfl rfl rfl rfl ?_
        refine w_al hK rfl rfl ?_
        refine w_al hK rfl rfl ?_
        refine w_geti (n := 5) (m := 5) hK rfl rfl (by decide) (by decide) rfl rfl rfl rfl ?_
        rw [show (up (up (up M 140 6 a) 140 5 (a + 1)) 140 6 ((a + 1) - 1)) 140 5 = (a + 1) from ((up_ne2 (by decide)).trans up_eq)]
        refine w_call [(1, 140), (0, (a + 1))] hK rfl rfl rfl rfl (Or.inr ⟨_, _, _, rfl, by decide, (by decide), rfl⟩) (c_isd (TXs.up (TXs.up (TXs.up T (by decide)) (by decide)) (by decide)) (a + 1) (by omega) (by omega)) ?_
        rintro _ Mq ⟨rfl, e_⟩
        subst Mq
        have dI_ := isd_I (tx (a + 1))
        refine ⟨by show (0 : Nat) ≠ 9; decide, (?_ : Wp 198 _ 113 64 [(1, 140), (0, q), (0, ((tx a) - 48))] [(0, (isd (tx (a + 1))))] (up (up (up M 140 6 a) 140 5 (a + 1)) 140 6 ((a + 1) - 1)) _)⟩
        refine w_ne hK rfl (by omega) (by omega) (fun h64 => ?_) (fun h64 => ?_)
        · refine w_ic hK rfl ?_
          refine w_goto hK rfl ?_
          refine w_iret hK rfl rfl ?_
          have k5_ : (up (up (up M 140 6 a) 140 5 (a + 1)) 140 6 ((a + 1) - 1)) 140 5 = (a + 1) := ((up_ne2 (by decide)).trans up_eq)
          have k6_ : (up (up (up M 140 6 a) 140 5 (a + 1)) 140 6 ((a + 1) - 1)) 140 6 = ((a + 1) - 1) := up_eq
          have e2_ : tx (a + 1 + 1) = tx (a + 2) := congrArg tx (by omega)
          have e3_ : isd (tx (a + 1 + 1)) = isd (tx (a + 2)) := congrArg isd e2_
          refine ⟨?_, fun c hc => by rw [up_row hc, up_row hc, up_row hc], fun f h1 h2 => by rw [up_ne2 (by omega), up_ne2 (by omega), up_ne2 (by omega)]⟩
          rw [k5_, k6_]
          unfold rdn
          repeat' split
          all_goals first
            | (exfalso; omega)
            | (refine ⟨congrArg (Prod.mk 0) ?_, ?_, ?_⟩ <;> (try dsimp only) <;> omega)
        · refine w_il hK rfl rfl ?_
          refine w_il hK rfl rfl ?_
          refine w_lt2 hK rfl (by omega) (by omega) (by omega) (by omega) (fun h67 => ?_) (fun h67 => ?_)
          · refine w_il hK rfl rfl ?_
            refine w_iret hK rfl rfl ?_
            have k5_ : (up (up (up M 140 6 a) 140 5 (a + 1)) 140 6 ((a + 1) - 1)) 140 5 = (a + 1) := ((up_ne2 (by decide)).trans up_eq)
            have k6_ : (up (up (up M 140 6 a) 140 5 (a + 1)) 140 6 ((a + 1) - 1)) 140 6 = ((a + 1) - 1) := up_eq
            have e2_ : tx (a + 1 + 1) = tx (a + 2) := congrArg tx (by omega)
            have e3_ : isd (tx (a + 1 + 1)) = isd (tx (a + 2)) := congrArg isd e2_
            refine ⟨?_, fun c hc => by rw [up_row hc, up_row hc, up_row hc], fun f h1 h2 => by rw [up_ne2 (by omega), up_ne2 (by omega), up_ne2 (by omega)]⟩
            rw [k5_, k6_]
            unfold rdn
            repeat' split
            all_goals first
              | (exfalso; omega)
              | (refine ⟨congrArg (Prod.mk 0) ?_, ?_, ?_⟩ <;> (try dsimp only) <;> omega)
          · refine w_ic hK rfl ?_
            refine w_goto hK rfl ?_
            refine w_iret hK rfl rfl ?_
            have k5_ : (up (up (up M 140 6 a) 140 5 (a + 1)) 140 6 ((a + 1) - 1)) 140 5 = (a + 1) := ((up_ne2 (by decide)).trans up_eq)
            have k6_ : (up (up (up M 140 6 a) 140 5 (a + 1)) 140 6 ((a + 1) - 1)) 140 6 = ((a + 1) - 1) := up_eq
            have e2_ : tx (a + 1 + 1) = tx (a + 2) := congrArg tx (by omega)
            have e3_ : isd (tx (a + 1 + 1)) = isd (tx (a + 2)) := congrArg isd e2_
            refine ⟨?_, fun c hc => by rw [up_row hc, up_row hc, up_row hc], fun f h1 h2 => by rw [up_ne2 (by omega), up_ne2 (by omega), up_ne2 (by omega)]⟩
            rw [k5_, k6_]
            unfold rdn
            repeat' split
            all_goals first
              | (exfalso; omega)
              | (refine ⟨congrArg (Prod.mk 0) ?_, ?_, ?_⟩ <;> (try dsimp only) <;> omega)
      · refine w_al hK rfl rfl ?_
        refine w_geti (n := 5) (m := 5) hK rfl rfl (by decide) (by decide) rfl rfl rfl rfl ?_
        rw [show (up (up M 140 6 a) 140 5 (a + 1)) 140 5 = (a + 1) from up_eq]
        refine w_goto hK rfl ?_
        refine w_puti (n := 6) (m := 6) hK rfl rfl (by decide) (by decide) rfl rfl rfl rfl ?_
        refine w_al hK rfl rfl ?_
        refine w_al hK rfl rfl ?_
        refine w_geti (n := 5) (m := 5) hK rfl rfl (by decide) (by decide) rfl rfl rfl rfl ?_
        rw [show (up (up (up M 140 6 a) 140 5 (a + 1)) 140 6 (a + 1)) 140 5 = (a + 1) from ((up_ne2 (by decide)).trans up_eq)]
        refine w_call [(1, 140), (0, (a + 1))] hK rfl rfl rfl rfl (Or.inr ⟨_, _, _, rfl, by decide, (by decide), rfl⟩) (c_isd (TXs.up (TXs.up (TXs.up T (by decide)) (by decide)) (by decide)) (a + 1) (by omega) (by omega)) ?_
        rintro _ Mq ⟨rfl, e_⟩
        subst Mq
        have dI_ := isd_I (tx (a + 1))
        refine ⟨by show (0 : Nat) ≠ 9; decide, (?_ : Wp 198 _ 113 64 [(1, 140), (0, q), (0, ((tx a) - 48))] [(0, (isd (tx (a + 1))))] (up (up (up M 140 6 a) 140 5 (a + 1)) 140 6 (a + 1)) _)⟩
        refine w_ne hK rfl (by omega) (by omega) (fun h64 => ?_) (fun h64 => ?_)
        · refine w_ic hK rfl ?_
          refine w_goto hK rfl ?_
          refine w_iret hK rfl rfl ?_
          have k5_ : (up (up (up M 140 6 a) 140 5 (a + 1)) 140 6 (a + 1)) 140 5 = (a + 1) := ((up_ne2 (by decide)).trans up_eq)
          have k6_ : (up (up (up M 140 6 a) 140 5 (a + 1)) 140 6 (a + 1)) 140 6 = (a + 1) := up_eq
          have e2_ : tx (a + 1 + 1) = tx (a + 2) := congrArg tx (by omega)
          have e3_ : isd (tx (a + 1 + 1)) = isd (tx (a + 2)) := congrArg isd e2_
          refine ⟨?_, fun c hc => by rw [up_row hc, up_row hc, up_row hc], fun f h1 h2 => by rw [up_ne2 (by omega), up_ne2 (by omega), up_ne2 (by omega)]⟩
          rw [k5_, k6_]
          unfold rdn
          repeat' split
          all_goals first
            | (exfalso; omega)
            | (refine ⟨congrArg (Prod.mk 0) ?_, ?_, ?_⟩ <;> (try dsimp only) <;> omega)
        · refine w_il hK rfl rfl ?_
          refine w_il hK rfl rfl ?_
          refine w_lt2 hK rfl (by omega) (by omega) (by omega) (by omega) (fun h67 => ?_) (fun h67 => ?_)
          · refine w_il hK rfl rfl ?_
            refine w_iret hK rfl rfl ?_
            have k5_ : (up (up (up M 140 6 a) 140 5 (a + 1)) 140 6 (a + 1)) 140 5 = (a + 1) := ((up_ne2 (by decide)).trans up_eq)
            have k6_ : (up (up (up M 140 6 a) 140 5 (a + 1)) 140 6 (a + 1)) 140 6 = (a + 1) := up_eq
            have e2_ : tx (a + 1 + 1) = tx (a + 2) := congrArg tx (by omega)
            have e3_ : isd (tx (a + 1 + 1)) = isd (tx (a + 2)) := congrArg isd e2_
            refine ⟨?_, fun c hc => by rw [up_row hc, up_row hc, up_row hc], fun f h1 h2 => by rw [up_ne2 (by omega), up_ne2 (by omega), up_ne2 (by omega)]⟩
            rw [k5_, k6_]
            unfold rdn
            repeat' split
            all_goals first
              | (exfalso; omega)
              | (refine ⟨congrArg (Prod.mk 0) ?_, ?_, ?_⟩ <;> (try dsimp only) <;> omega)
          · refine w_ic hK rfl ?_
            refine w_goto hK rfl ?_
            refine w_iret hK rfl rfl ?_
            have k5_ : (up (up (up M 140 6 a) 140 5 (a + 1)) 140 6 (a + 1)) 140 5 = (a + 1) := ((up_ne2 (by decide)).trans up_eq)
            have k6_ : (up (up (up M 140 6 a) 140 5 (a + 1)) 140 6 (a + 1)) 140 6 = (a + 1) := up_eq
            have e2_ : tx (a + 1 + 1) = tx (a + 2) := congrArg tx (by omega)
            have e3_ : isd (tx (a + 1 + 1)) = isd (tx (a + 2)) := congrArg isd e2_
            refine ⟨?_, fun c hc => by rw [up_row hc, up_row hc, up_row hc], fun f h1 h2 => by rw [up_ne2 (by omega), up_ne2 (by omega), up_ne2 (by omega)]⟩
            rw [k5_, k6_]
            unfold rdn
            repeat' split
            all_goals first
              | (exfalso; omega)
              | (refine ⟨congrArg (Prod.mk 0) ?_, ?_, ?_⟩ <;> (try dsimp only) <;> omega)
    · refine w_il hK rfl rfl ?_
      refine w_ic hK rfl ?_
      refine w_mul hK rfl (by omega) (by omega) ?_
      refine w_al hK rfl rfl ?_
      refine w_al hK rfl rfl ?_
      refine w_geti (n := 5) (m := 5) hK rfl rfl (by decide) (by decide) rfl rfl rfl rfl ?_
      rw [show (up (up M 140 6 a) 140 5 (a + 1)) 140 5 = (a + 1) from up_eq]
      refine w_call [(1, 140), (0, (a + 1))] hK rfl rfl rfl rfl (Or.inr ⟨_, _, _, rfl, by decide, (by decide), rfl⟩) (c_sgn (TXs.up (TXs.up T (by decide)) (by decide)) (a + 1) (by omega) (by omega)) ?_
      rintro _ Mq ⟨rfl, e_⟩
      subst Mq
      have tI_ := T.I (a + 1)
      refine ⟨by show (0 : Nat) ≠ 9; decide, (?_ : Wp 198 _ 113 36 [(1, 140), (0, q), (0, ((tx a) - 48))] [(0, (tx (a + 1))), (0, (((tx a) - 48) * 10))] (up (up M 140 6 a) 140 5 (a + 1)) _)⟩
      refine w_add hK rfl (by omega) (by omega) ?_
      refine w_ic hK rfl ?_
      refine w_sub hK rfl (by omega) (by omega) ?_
      refine w_is [(1, 140), (0, q), (0, (((((tx a) - 48) * 10) + (tx (a + 1))) - 48))] hK rfl rfl rfl ?_
      refine w_al hK rfl rfl ?_
      refine w_dup hK rfl rfl ?_
      refine w_geti (n := 5) (m := 5) hK rfl rfl (by decide) (by decide) rfl rfl rfl rfl ?_
      rw [show (up (up M 140 6 a) 140 5 (a + 1)) 140 5 = (a + 1) from up_eq]
      refine w_ic hK rfl ?_
      refine w_add hK rfl (by omega) (by omega) ?_
      refine w_puti (n := 5) (m := 5) hK rfl rfl (by decide) (by decide) rfl rfl rfl rfl ?_
      refine w_al hK rfl rfl ?_
      refine w_al hK rfl rfl ?_
      refine w_al hK rfl rfl ?_
      refine w_geti (n := 5) (m := 5) hK rfl rfl (by decide) (by decide) rfl rfl rfl rfl ?_
      rw [show (up (up (up M 140 6 a) 140 5 (a + 1)) 140 5 ((a + 1) + 1)) 140 5 = ((a + 1) + 1) from up_eq]
      refine w_call [(1, 140), (0, ((a + 1) + 1))] hK rfl rfl rfl rfl (Or.inr ⟨_, _, _, rfl, by decide, (by decide), rfl⟩) (c_isd (TXs.up (TXs.up (TXs.up T (by decide)) (by decide)) (by decide)) ((a + 1) + 1) (by omega) (by omega)) ?_
      rintro _ Mq ⟨rfl, e_⟩
      subst Mq
      have dI_ := isd_I (tx ((a + 1) + 1))
      refine ⟨by show (0 : Nat) ≠ 9; decide, (?_ : Wp 198 _ 113 51 [(1, 140), (0, q), (0, (((((tx a) - 48) * 10) + (tx (a + 1))) - 48))] [(0, (isd (tx ((a + 1) + 1)))), (1, 140)] (up (up (up M 140 6 a) 140 5 (a + 1)) 140 5 ((a + 1) + 1)) _)⟩
      refine w_eq hK rfl (by omega) (by omega) (fun h51 => ?_) (fun h51 => ?_)
      · refine w_al hK rfl rfl ?_
        refine w_geti (n := 5) (m := 5) hK rfl rfl (by decide) (by decide) rfl rfl rfl rfl ?_
        rw [show (up (up (up M 140 6 a) 140 5 (a + 1)) 140 5 ((a + 1) + 1)) 140 5 = ((a + 1) + 1) from up_eq]
        refine w_ic hK rfl ?_
        refine w_sub hK rfl (by omega) (by omega) ?_
        refine w_puti (n := 6) (m := 6) hK rfl rfl (by decide) (by decide) rfl rfl rfl rfl ?_
        refine w_al hK rfl rfl ?_
        refine w_al hK rfl rfl ?_
        refine w_geti (n := 5) (m := 5) hK rfl rfl (by decide) (by decide) rfl rfl rfl rfl ?_
        rw [show (up (up (up (up M 140 6 a) 140 5 (a + 1)) 140 5 ((a + 1) + 1)) 140 6 (((a + 1) + 1) - 1)) 140 5 = ((a + 1) + 1) from ((up_ne2 (by decide)).trans up_eq)]
        refine w_call [(1, 140), (0, ((a + 1) + 1))] hK rfl rfl rfl rfl (Or.inr ⟨_, _, _, rfl, by decide, (by decide), rfl⟩) (c_isd (TXs.up (TXs.up (TXs.up (TXs.up T (by decide)) (by decide)) (by decide)) (by decide)) ((a + 1) + 1) (by omega) (by omega)) ?_
        rintro _ Mq ⟨rfl, e_⟩
        subst Mq
        have dI_ := isd_I (tx ((a + 1) + 1))
        refine ⟨by show (0 : Nat) ≠ 9; decide, (?_ : Wp 198 _ 113 64 [(1, 140), (0, q), (0, (((((tx a) - 48) * 10) + (tx (a + 1))) - 48))] [(0, (isd (tx ((a + 1) + 1))))] (up (up (up (up M 140 6 a) 140 5 (a + 1)) 140 5 ((a + 1) + 1)) 140 6 (((a + 1) + 1) - 1)) _)⟩
        refine w_ne hK rfl (by omega) (by omega) (fun h64 => ?_) (fun h64 => ?_)
        · refine w_ic hK rfl ?_
          refine w_goto hK rfl ?_
          refine w_iret hK rfl rfl ?_
          have k5_ : (up (up (up (up M 140 6 a) 140 5 (a + 1)) 140 5 ((a + 1) + 1)) 140 6 (((a + 1) + 1) - 1)) 140 5 = ((a + 1) + 1) := ((up_ne2 (by decide)).trans up_eq)
          have k6_ : (up (up (up (up M 140 6 a) 140 5 (a + 1)) 140 5 ((a + 1) + 1)) 140 6 (((a + 1) + 1) - 1)) 140 6 = (((a + 1) + 1) - 1) := up_eq
          have e2_ : tx (a + 1 + 1) = tx (a + 2) := congrArg tx (by omega)
          have e3_ : isd (tx (a + 1 + 1)) = isd (tx (a + 2)) := congrArg isd e2_
          refine ⟨?_, fun c hc => by rw [up_row hc, up_row hc, up_row hc, up_row hc], fun f h1 h2 => by rw [up_ne2 (by omega), up_ne2 (by omega), up_ne2 (by omega), up_ne2 (by omega)]⟩
          rw [k5_, k6_]
          unfold rdn
          repeat' split
          all_goals first
            | (exfalso; omega)
            | (refine ⟨congrArg (Prod.mk 0) ?_, ?_, ?_⟩ <;> (try dsimp only) <;> omega)
        · refine w_il hK rfl rfl ?_
          refine w_il hK rfl rfl ?_
          refine w_lt2 hK rfl (by omega) (by omega) (by omega) (by omega) (fun h67 => ?_) (fun h67 => ?_)
          · refine w_il hK rfl rfl ?_
            refine w_iret hK rfl rfl ?_
            have k5_ : (up (up (up (up M 140 6 a) 140 5 (a + 1)) 140 5 ((a + 1) + 1)) 140 6 (((a + 1) + 1) - 1)) 140 5 = ((a + 1) + 1) := ((up_ne2 (by decide)).trans up_eq)
            have k6_ : (up (up (up (up M 140 6 a) 140 5 (a + 1)) 140 5 ((a + 1) + 1)) 140 6 (((a + 1) + 1) - 1)) 140 6 = (((a + 1) + 1) - 1) := up_eq
            have e2_ : tx (a + 1 + 1) = tx (a + 2) := congrArg tx (by omega)
            have e3_ : isd (tx (a + 1 + 1)) = isd (tx (a + 2)) := congrArg isd e2_
            refine ⟨?_, fun c hc => by rw [up_row hc, up_row hc, up_row hc, up_row hc], fun f h1 h2 => by rw [up_ne2 (by omega), up_ne2 (by omega), up_ne2 (by omega), up_ne2 (by omega)]⟩
            rw [k5_, k6_]
            unfold rdn
            repeat' split
            all_goals first
              | (exfalso; omega)
              | (refine ⟨congrArg (Prod.mk 0) ?_, ?_, ?_⟩ <;> (try dsimp only) <;> omega)
          · refine w_ic hK rfl ?_
            refine w_goto hK rfl ?_
            refine w_iret hK rfl rfl ?_
            have k5_ : (up (up (up (up M 140 6 a) 140 5 (a + 1)) 140 5 ((a + 1) + 1)) 140 6 (((a + 1) + 1) - 1)) 140 5 = ((a + 1) + 1) := ((up_ne2 (by decide)).trans up_eq)
            have k6_ : (up (up (up (up M 140 6 a) 140 5 (a + 1)) 140 5 ((a + 1) + 1)) 140 6 (((a + 1) + 1) - 1)) 140 6 = (((a + 1) + 1) - 1) := up_eq
            have e2_ : tx (a + 1 + 1) = tx (a + 2) := congrArg tx (by omega)
            have e3_ : isd (tx (a + 1 + 1)) = isd (tx (a + 2)) := congrArg isd e2_
            refine ⟨?_, fun c hc => by rw [up_row hc, up_row hc, up_row hc, up_row hc], fun f h1 h2 => by rw [up_ne2 (by omega), up_ne2 (by omega), up_ne2 (by omega), up_ne2 (by omega)]⟩
            rw [k5_, k6_]
            unfold rdn
            repeat' split
            all_goals first
              | (exfalso; omega)
              | (refine ⟨congrArg (Prod.mk 0) ?_, ?_, ?_⟩ <;> (try dsimp only) <;> omega)
      · refine w_al hK rfl rfl ?_
        refine w_geti (n := 5) (m := 5) hK rfl rfl (by decide) (by decide) rfl rfl rfl rfl ?_
        rw [show (up (up (up M 140 6 a) 140 5 (a + 1)) 140 5 ((a + 1) + 1)) 140 5 = ((a + 1) + 1) from up_eq]
        refine w_goto hK rfl ?_
        refine w_puti (n := 6) (m := 6) hK rfl rfl (by decide) (by decide) rfl rfl rfl rfl ?_
        refine w_al hK rfl rfl ?_
        refine w_al hK rfl rfl ?_
        refine w_geti (n := 5) (m := 5) hK rfl rfl (by decide) (by decide) rfl rfl rfl rfl ?_
        rw [show (up (up (up (up M 140 6 a) 140 5 (a + 1)) 140 5 ((a + 1) + 1)) 140 6 ((a + 1) + 1)) 140 5 = ((a + 1) + 1) from ((up_ne2 (by decide)).trans up_eq)]
        refine w_call [(1, 140), (0, ((a + 1) + 1))] hK rfl rfl rfl rfl (Or.inr ⟨_, _, _, rfl, by decide, (by decide), rfl⟩) (c_isd (TXs.up (TXs.up (TXs.up (TXs.up T (by decide)) (by decide)) (by decide)) (by decide)) ((a + 1) + 1) (by omega) (by omega)) ?_
        rintro _ Mq ⟨rfl, e_⟩
        subst Mq
        have dI_ := isd_I (tx ((a + 1) + 1))
        refine ⟨by show (0 : Nat) ≠ 9; decide, (?_ : Wp 198 _ 113 64 [(1, 140), (0, q), (0, (((((tx a) - 48) * 10) + (tx (a + 1))) - 48))] [(0, (isd (tx ((a + 1) + 1))))] (up (up (up (up M 140 6 a) 140 5 (a + 1)) 140 5 ((a + 1) + 1)) 140 6 ((a + 1) + 1)) _)⟩
        refine w_ne hK rfl (by omega) (by omega) (fun h64 => ?_) (fun h64 => ?_)
        · refine w_ic hK rfl ?_
          refine w_goto hK rfl ?_
          refine w_iret hK rfl rfl ?_
          have k5_ : (up (up (up (up M 140 6 a) 140 5 (a + 1)) 140 5 ((a + 1) + 1)) 140 6 ((a + 1) + 1)) 140 5 = ((a + 1) + 1) := ((up_ne2 (by decide)).trans up_eq)
          have k6_ : (up (up (up (up M 140 6 a) 140 5 (a + 1)) 140 5 ((a + 1) + 1)) 140 6 ((a + 1) + 1)) 140 6 = ((a + 1) + 1) := up_eq
          have e2_ : tx (a + 1 + 1) = tx (a + 2) := congrArg tx (by omega)
          have e3_ : isd (tx (a + 1 + 1)) = isd (tx (a + 2)) := congrArg isd e2_
          refine ⟨?_, fun c hc => by rw [up_row hc, up_row hc, up_row hc, up_row hc], fun f h1 h2 => by rw [up_ne2 (by omega), up_ne2 (by omega), up_ne2 (by omega), up_ne2 (by omega)]⟩
          rw [k5_, k6_]
          unfold rdn
          repeat' split
          all_goals first
            | (exfalso; omega)
            | (refine ⟨congrArg (Prod.mk 0) ?_, ?_, ?_⟩ <;> (try dsimp only) <;> omega)
        · refine w_il hK rfl rfl ?_
          refine w_il hK rfl rfl ?_
          refine w_lt2 hK rfl (by omega) (by omega) (by omega) (by omega) (fun h67 => ?_) (fun h67 => ?_)
          · refine w_il hK rfl rfl ?_
            refine w_iret hK rfl rfl ?_
            have k5_ : (up (up (up (up M 140 6 a) 140 5 (a + 1)) 140 5 ((a + 1) + 1)) 140 6 ((a + 1) + 1)) 140 5 = ((a + 1) + 1) := ((up_ne2 (by decide)).trans up_eq)
            have k6_ : (up (up (up (up M 140 6 a) 140 5 (a + 1)) 140 5 ((a + 1) + 1)) 140 6 ((a + 1) + 1)) 140 6 = ((a + 1) + 1) := up_eq
            have e2_ : tx (a + 1 + 1) = tx (a + 2) := congrArg tx (by omega)
            have e3_ : isd (tx (a + 1 + 1)) = isd (tx (a + 2)) := congrArg isd e2_
            refine ⟨?_, fun c hc => by rw [up_row hc, up_row hc, up_row hc, up_row hc], fun f h1 h2 => by rw [up_ne2 (by omega), up_ne2 (by omega), up_ne2 (by omega), up_ne2 (by omega)]⟩
            rw [k5_, k6_]
            unfold rdn
            repeat' split
            all_goals first
              | (exfalso; omega)
              | (refine ⟨congrArg (Prod.mk 0) ?_, ?_, ?_⟩ <;> (try dsimp only) <;> omega)
          · refine w_ic hK rfl ?_
            refine w_goto hK rfl ?_
            refine w_iret hK rfl rfl ?_
            have k5_ : (up (up (up (up M 140 6 a) 140 5 (a + 1)) 140 5 ((a + 1) + 1)) 140 6 ((a + 1) + 1)) 140 5 = ((a + 1) + 1) := ((up_ne2 (by decide)).trans up_eq)
            have k6_ : (up (up (up (up M 140 6 a) 140 5 (a + 1)) 140 5 ((a + 1) + 1)) 140 6 ((a + 1) + 1)) 140 6 = ((a + 1) + 1) := up_eq
            have e2_ : tx (a + 1 + 1) = tx (a + 2) := congrArg tx (by omega)
            have e3_ : isd (tx (a + 1 + 1)) = isd (tx (a + 2)) := congrArg isd e2_
            refine ⟨?_, fun c hc => by rw [up_row hc, up_row hc, up_row hc, up_row hc], fun f h1 h2 => by rw [up_ne2 (by omega), up_ne2 (by omega), up_ne2 (by omega), up_ne2 (by omega)]⟩
            rw [k5_, k6_]
            unfold rdn
            repeat' split
            all_goals first
              | (exfalso; omega)
              | (refine ⟨congrArg (Prod.mk 0) ?_, ?_, ?_⟩ <;> (try dsimp only) <;> omega)
  · refine w_ic hK rfl ?_
    refine w_iret hK rfl rfl ?_
    have k5_ : (up M 140 6 a) 140 5 = a := ((up_ne2 (by decide)).trans ha)
    have k6_ : (up M 140 6 a) 140 6 = a := up_eq
    have e2_ : tx (a + 1 + 1) = tx (a + 2) := congrArg tx (by omega)
    have e3_ : isd (tx (a + 1 + 1)) = isd (tx (a + 2)) := congrArg isd e2_
    refine ⟨?_, fun c hc => by rw [up_row hc], fun f h1 h2 => by rw [up_ne2 (by omega)]⟩
    rw [k5_, k6_]
    unfold rdn
    repeat' split
    all_goals first
      | (exfalso; omega)
      | (refine ⟨congrArg (Prod.mk 0) ?_, ?_, ?_⟩ <;> (try dsimp only) <;> omega)
