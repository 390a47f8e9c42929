/-! contracts: Likeness, the base */ -/
theorem isPB {i : Nat} (h : i < 16) : isP (104 + 2 * (i : Int)) := by
  have h2 : ∀ i : Fin 16, isPs (104 + 2 * (i.val : Int)) = true := by decide +kernel
  exact isP_of (h2 ⟨i, h⟩)
theorem base_ref {i : Nat} (h : i < 16) : (([104, 106, 108, 110, 112, 114, 116, 118, 120, 122, 124, 126, 128, 130, 132, 134] : List Int).getD ((i : Int)).toNat (-1)) = 104 + 2 * (i : Int) := by
  have h2 : ∀ i : Fin 16, ([104, 106, 108, 110, 112, 114, 116, 118, 120, 122, 124, 126, 128, 130, 132, 134] : List Int).getD ((i.val : Int)).toNat (-1) = 104 + 2 * (i.val : Int) := by decide +kernel
  exact h2 ⟨i, h⟩
theorem unt_lt {k s : Nat} (h : s < mm k) : unt k s < qq k := by
  rw [qq_pm]
  exact Nat.pow_lt_pow_right (by have := pp_ge k; omega) h
theorem np91 : ∀ p : Int, isP p → (91 : Int) ≠ p ∧ (91 : Int) ≠ p + 1 := fun p hp => by
  refine ⟨fun e => ?_, fun e => ?_⟩
  · have h := hp.2.1
    rw [← e] at h
    cases h
  · have h := hp.2.1
    rw [show p = 90 by omega] at h
    cases h
/-- the number of so many digits -/
def nbS (p : Nat) (u : Nat → Nat) (b : Nat) : Nat → Nat
  | 0 => 0
  | s + 1 => nbS p u b s + u (b + s) * p ^ s
theorem nbS_lt {p : Nat} {u : Nat → Nat} {b : Nat} (h : ∀ j, u j < p) : ∀ s : Nat, nbS p u b s < p ^ s
  | 0 => by show 0 < p ^ 0; rw [Nat.pow_zero]; decide
  | s + 1 => by
    have h1 := nbS_lt (b := b) h s
    have h2 : (u (b + s) + 1) * p ^ s ≤ p * p ^ s := Nat.mul_le_mul_right _ (h (b + s))
    rw [Nat.add_mul, Nat.one_mul] at h2
    rw [Nat.pow_succ, Nat.mul_comm (p ^ s)]
    show nbS p u b s + u (b + s) * p ^ s < _
    omega
/-- the polynomial of so many digits, its first i numbers -/
def bsU {k : Nat} (i : Nat) (u : Nat → Nat) : Pl k := fun j => if j < i then el k (nbS (pp k) u (j * mm k) (mm k)) else z0
theorem bsU_up {k : Nat} {i : Nat} {u : Nat → Nat} : up1 (bsU (k := k) i u) i (el k (nbS (pp k) u (i * mm k) (mm k))) = bsU (i + 1) u := by
  funext j
  unfold up1 bsU
  by_cases e : j = i
  · rw [if_pos e, if_pos (by omega), e]
  · rw [if_neg e]
    by_cases q : j < i
    · rw [if_pos q, if_pos (by omega)]
    · rw [if_neg q, if_neg (by omega)]
theorem bsU_0 {k : Nat} {u : Nat → Nat} : bsU (k := k) 0 u = pz := by
  funext j
  exact if_neg (by omega)
theorem ppow_le (k : Nat) {r : Nat} (h : r ≤ 16) (h2 : pp k = 2 ∨ r ≤ 8) : (pp k ^ r : Nat) ≤ 65536 := by
  have h1 := pp_le k
  rcases h2 with q | q
  · rw [q]
    calc 2 ^ r ≤ 2 ^ 16 := Nat.pow_le_pow_right (by decide) h
      _ ≤ 65536 := by decide
  · calc pp k ^ r ≤ 3 ^ r := Nat.pow_le_pow_left h1 r
      _ ≤ 3 ^ 8 := Nat.pow_le_pow_right (by decide) q
      _ ≤ 65536 := by decide
set_option maxRecDepth 100000 in
theorem c_addB {d : Nat} {M : Mem} {k : Nat} {P : Int → Option (Pl k)} (C : CS M k P) {n c R : Nat} {u : Nat → Nat} (hn : n * mm k ≤ 16) (hn2 : n ≤ 8) (hc : c ≤ 16) (hR : R < 16) (hR2 : pp k = 2 ∨ R < 8) (q4_ : M 88 4 = (c : Int)) (r0_ : M 92 10 = (R : Int)) (r1_ : M 92 11 = ((pp k ^ R : Nat) : Int)) (hu : ∀ l : Nat, l < 17 → M 90 ((c : Int) * 17 + (l : Int)) = (u l : Int)) (hup : ∀ j, u j < pp k) : Ct 198 (d + 2) 101 [(1, 92), (0, (n : Int))] M (fun r_ M' => ∃ P' : Int → Option (Pl k), r_ = (4, 0) ∧ CS M' k P' ∧ (∀ a : Int, (∀ p : Int, isP p → a ≠ p ∧ a ≠ p + 1) → a ≠ 92 → a ≠ 100 → M' a = M a) ∧ (∀ p : Int, p ≠ (104 + 2 * (R : Int)) → P' p = P p) ∧ P' (104 + 2 * (R : Int)) = some (bsU n u) ∧ M' 92 10 = (R : Int) + 1 ∧ M' 92 11 = ((pp k ^ (R + 1) : Nat) : Int) ∧ M' 100 = upr (M 100) (R : Int) 0) := by
  have hK : cd 101 = k101 := rfl
  have p1_ := pp_I k
  have m1_ := mm_I k
  have hb_ := isPB hR
  have pw_ := ppow_le k (r := R + 1) (by omega) (by omega)
  rw [Nat.pow_succ] at pw_
  have pwI_ : ((pp k ^ R * pp k : Nat) : Int) = ((pp k ^ R : Nat) : Int) * (pp k : Int) := Int.natCast_mul ..
  show Wp 198 _ 101 0 [(1, 92), (0, (n : Int)), (3, 0), (3, 0), (3, 0), (3, 0)] [] M _
  refine w_al hK rfl rfl ?_
  refine w_geti (n := 10) (m := 10) hK rfl rfl (by decide) (by decide) rfl rfl rfl rfl ?_
  rw [show M 92 10 = (R : Int) from r0_]
  refine w_lt hK rfl (by omega) (by omega) (fun h2 => ?_) (fun h2 => ?_)
  · exfalso; omega
  · refine w_al hK rfl rfl ?_
    refine w_geti (n := 10) (m := 10) hK rfl rfl (by decide) (by decide) rfl rfl rfl rfl ?_
    rw [show M 92 10 = (R : Int) from r0_]
    refine w_al hK rfl rfl ?_
    refine w_getr (n := 6) (v := 99) hK rfl rfl (by decide) (by decide) rfl rfl rfl rfl ?_
    refine w_len hK rfl rfl (by decide) (by decide) rfl ?_
    refine w_ge2 hK rfl (by omega) (by omega) (by omega) (by omega) (fun h8 => ?_) (fun h8 => ?_)
    · exfalso; omega
    · refine w_al hK rfl rfl ?_
      refine w_getr (n := 6) (v := 99) hK rfl rfl (by decide) (by decide) rfl rfl rfl rfl ?_
      refine w_al hK rfl rfl ?_
      refine w_geti (n := 10) (m := 10) hK rfl rfl (by decide) (by decide) rfl rfl rfl rfl ?_
      rw [show M 92 10 = (R : Int) from r0_]
      refine w_aa hK rfl rfl (by decide) (by decide) (by omega) (by omega) ?_
      rw [base_ref hR]
      refine w_goto hK rfl ?_
      refine w_as [(1, 92), (0, (n : Int)), (1, (104 + 2 * (R : Int))), (3, 0), (3, 0), (3, 0)] hK rfl rfl rfl ?_
      refine w_al hK rfl rfl ?_
      refine w_nonnull hK rfl (fun h18 => ?_) (fun h18 => ?_)
      · refine w_al hK rfl rfl ?_
        refine w_call [(1, (104 + 2 * (R : Int)))] hK rfl rfl rfl rfl (Or.inr ⟨_, _, _, rfl, hb_.nn, hb_.lb, hb_.o⟩) (c_clear C hb_) ?_
        rintro _ V66 ⟨rfl, C66, S66⟩
        refine ⟨by decide, (?_ : Wp 198 _ 101 22 [(1, 92), (0, (n : Int)), (1, (104 + 2 * (R : Int))), (3, 0), (3, 0), (3, 0)] [] V66 _)⟩
        refine w_ic hK rfl ?_
        refine w_is [(1, 92), (0, (n : Int)), (1, (104 + 2 * (R : Int))), (0, 0), (3, 0), (3, 0)] hK rfl rfl rfl ?_
        have lp24 : ∀ (n_ : Nat) (j : Nat) (P1 : Int → Option (Pl k)) (w4 w5 : AV) (N24 : Mem), n - j = n_ → (j ≤ n) → (CS N24 k P1) → (P1 (104 + 2 * (R : Int)) = some (bsU j u)) → ((∀ p : Int, p ≠ (104 + 2 * (R : Int)) → P1 p = P p)) → ((∀ a : Int, (∀ p : Int, isP p → a ≠ p ∧ a ≠ p + 1) → N24 a = M a)) → Wp 198 (d + 2) 101 24 [(1, 92), (0, (n : Int)), (1, (104 + 2 * (R : Int))), (0, (j : Int)), w4, w5] [] N24 (fun r_ M' => ∃ P' : Int → Option (Pl k), r_ = (4, 0) ∧ CS M' k P' ∧ (∀ a : Int, (∀ p : Int, isP p → a ≠ p ∧ a ≠ p + 1) → a ≠ 92 → a ≠ 100 → M' a = M a) ∧ (∀ p : Int, p ≠ (104 + 2 * (R : Int)) → P' p = P p) ∧ P' (104 + 2 * (R : Int)) = some (bsU n u) ∧ M' 92 10 = (R : Int) + 1 ∧ M' 92 11 = ((pp k ^ (R + 1) : Nat) : Int) ∧ M' 100 = upr (M 100) (R : Int) 0) := by
          intro n_
          induction n_ using Nat.strongRecOn with
          | _ n_ ih24 =>
          intro j P1 w4 w5 N24 hm24 hj hC hP hPf hF
          have jn_ : j * mm k ≤ n * mm k := Nat.mul_le_mul_right _ hj
          refine w_il hK rfl rfl ?_
          refine w_il hK rfl rfl ?_
          refine w_ge2 hK rfl (by omega) (by omega) (by omega) (by omega) (fun h26 => ?_) (fun h26 => ?_)
          · refine w_al hK rfl rfl ?_
            refine w_getr (n := 7) (v := 100) hK rfl rfl (by decide) (by decide) rfl rfl rfl rfl ?_
            refine w_al hK rfl rfl ?_
            refine w_geti (n := 10) (m := 10) hK rfl rfl (by decide) (by decide) rfl rfl rfl rfl ?_
            rw [show N24 92 10 = (R : Int) from ((congrFun (hF 92 (notP rfl)) 10).trans r0_)]
            refine w_ic hK rfl ?_
            refine w_iat hK rfl rfl (by decide) (by decide) (by omega) (by omega) ?_
            refine w_al hK rfl rfl ?_
            refine w_dup hK rfl rfl ?_
            refine w_geti (n := 10) (m := 10) hK rfl rfl (by decide) (by decide) rfl rfl rfl rfl ?_
            rw [show (up N24 100 (R : Int) 0) 92 10 = (R : Int) from ((congrFun (up_row (by decide)) 10).trans ((congrFun (hF 92 (notP rfl)) 10).trans r0_))]
            refine w_ic hK rfl ?_
            refine w_add hK rfl (by omega) (by omega) ?_
            refine w_puti (n := 10) (m := 10) hK rfl rfl (by decide) (by decide) rfl rfl rfl rfl ?_
            refine w_al hK rfl rfl ?_
            refine w_dup hK rfl rfl ?_
            refine w_geti (n := 11) (m := 11) hK rfl rfl (by decide) (by decide) rfl rfl rfl rfl ?_
            rw [show (up (up N24 100 (R : Int) 0) 92 10 ((R : Int) + 1)) 92 11 = ((pp k ^ R : Nat) : Int) from ((up_ne2 (by omega)).trans ((congrFun (up_row (by decide)) 11).trans ((congrFun (hF 92 (notP rfl)) 11).trans r1_)))]
            refine w_al hK rfl rfl ?_
            refine w_getr (n := 0) (v := 1) hK rfl rfl (by decide) (by decide) rfl rfl rfl rfl ?_
            refine w_geti (n := 2) (m := 2) hK rfl rfl (by decide) (by decide) rfl rfl rfl rfl ?_
            rw [show (up (up N24 100 (R : Int) 0) 92 10 ((R : Int) + 1)) 1 2 = (pp k : Int) from (CS.upc (CS.upc hC (by decide) (notP rfl)) (by decide) (notP rfl)).F.p]
            refine w_mul hK rfl (by omega) (by omega) ?_
            refine w_puti (n := 11) (m := 11) hK rfl rfl (by decide) (by decide) rfl rfl rfl rfl ?_
            refine w_ret hK rfl rfl ?_
            have ej_ : j = n := by omega
            subst ej_
            refine ⟨P1, rfl, (CS.upc (CS.upc (CS.upc hC (by decide) (notP rfl)) (by decide) (notP rfl)) (by decide) (notP rfl)), (fun a np_ n92_ n100_ => ((up_row n92_).trans ((up_row n92_).trans ((up_row n100_).trans (hF a np_))))), hPf, hP, ((up_ne2 (by omega)).trans up_eq), ?_, ((up_row (by decide)).trans ((up_row (by decide)).trans (up_upr (hF 100 (notP rfl)))))⟩
            rw [show (up (up (up N24 100 (R : Int) 0) 92 10 ((R : Int) + 1)) 92 11 (((pp k ^ R : Nat) : Int) * (pp k : Int))) 92 11 = ((pp k ^ R : Nat) : Int) * (pp k : Int) from up_eq, Nat.pow_succ, Int.natCast_mul]
          · refine w_ic hK rfl ?_
            refine w_is [(1, 92), (0, (n : Int)), (1, (104 + 2 * (R : Int))), (0, (j : Int)), (0, 0), w5] hK rfl rfl rfl ?_
            refine w_ic hK rfl ?_
            refine w_is [(1, 92), (0, (n : Int)), (1, (104 + 2 * (R : Int))), (0, (j : Int)), (0, 0), (0, 0)] hK rfl rfl rfl ?_
            have lp31 : ∀ (n_ : Nat) (s : Nat), 5 - s = n_ → (s ≤ mm k) → Wp 198 (d + 2) 101 31 [(1, 92), (0, (n : Int)), (1, (104 + 2 * (R : Int))), (0, (j : Int)), (0, ((nbS (pp k) u (j * mm k) s) : Int)), (0, (s : Int))] [] N24 (fun r_ M' => ∃ P' : Int → Option (Pl k), r_ = (4, 0) ∧ CS M' k P' ∧ (∀ a : Int, (∀ p : Int, isP p → a ≠ p ∧ a ≠ p + 1) → a ≠ 92 → a ≠ 100 → M' a = M a) ∧ (∀ p : Int, p ≠ (104 + 2 * (R : Int)) → P' p = P p) ∧ P' (104 + 2 * (R : Int)) = some (bsU n u) ∧ M' 92 10 = (R : Int) + 1 ∧ M' 92 11 = ((pp k ^ (R + 1) : Nat) : Int) ∧ M' 100 = upr (M 100) (R : Int) 0) := by
              intro n_
              induction n_ using Nat.strongRecOn with
              | _ n_ ih31 =>
              intro s  hm31 hs
              have jm_ : (j + 1) * mm k ≤ n * mm k := Nat.mul_le_mul_right _ (by omega)
              rw [Nat.add_mul, Nat.one_mul] at jm_
              have jmI_ : ((j * mm k : Nat) : Int) = (j : Int) * (mm k : Int) := Int.natCast_mul ..
              have nl_ := nbS_lt (b := j * mm k) hup s
              have ul0_ := unt_le (k := k) hs
              unfold unt at ul0_
              refine w_il hK rfl rfl ?_
              refine w_al hK rfl rfl ?_
              refine w_getr (n := 0) (v := 1) hK rfl rfl (by decide) (by decide) rfl rfl rfl rfl ?_
              refine w_geti (n := 3) (m := 3) hK rfl rfl (by decide) (by decide) rfl rfl rfl rfl ?_
              rw [show N24 1 3 = (mm k : Int) from hC.F.m]
              refine w_ge2 hK rfl (by omega) (by omega) (by omega) (by omega) (fun h35 => ?_) (fun h35 => ?_)
              · have es_ : s = mm k := by omega
                have eN_ : (nbS (pp k) u (j * mm k) s) = (nbS (pp k) u (j * mm k) (mm k)) := by rw [es_]
                rw [eN_]
                have nq_ := nbS_lt (b := j * mm k) hup (mm k)
                rw [← qq_pm] at nq_
                refine w_al hK rfl rfl ?_
                refine w_il hK rfl rfl ?_
                refine w_il hK rfl rfl ?_
                refine w_call [(1, (104 + 2 * (R : Int))), (0, (j : Int)), (0, ((nbS (pp k) u (j * mm k) (mm k)) : Int))] hK rfl rfl rfl rfl (Or.inr ⟨_, _, _, rfl, hb_.nn, hb_.lb, hb_.o⟩) (Ct.cv (c_putN hC ⟨hb_, hP⟩ j (el k (nbS (pp k) u (j * mm k) (mm k))) (by omega)) (by simp only [(elN (k := k) (n := (nbS (pp k) u (j * mm k) (mm k))) (by omega))]; try rfl)) ?_
                rintro _ V67 ⟨rfl, C67, S67⟩
                refine ⟨by decide, (?_ : Wp 198 _ 101 60 [(1, 92), (0, (n : Int)), (1, (104 + 2 * (R : Int))), (0, (j : Int)), (0, ((nbS (pp k) u (j * mm k) (mm k)) : Int)), (0, (s : Int))] [] V67 _)⟩
                refine w_inc [(1, 92), (0, (n : Int)), (1, (104 + 2 * (R : Int))), (0, ((j : Int) + 1)), (0, ((nbS (pp k) u (j * mm k) (mm k)) : Int)), (0, (s : Int))] hK rfl rfl rfl (by omega) (by omega) rfl ?_
                refine w_goto hK rfl ?_
                exact ih24 _ (by omega) (j + 1) _ (0, ((nbS (pp k) u (j * mm k) (mm k)) : Int)) (0, (s : Int)) V67 rfl (by omega) C67 (pu_eq.trans (congrArg some bsU_up)) (fun p pn1042RInt_ => ((pu_ne (P := P1) (f := up1 (bsU j u) j (el k (nbS (pp k) u (j * mm k) (mm k)))) (show p ≠ (104 + 2 * (R : Int)) by omega)).trans (hPf p pn1042RInt_))) (fun a np_ => ((S67 a np_).trans (hF a np_)))
              · refine w_il hK rfl rfl ?_
                refine w_al hK rfl rfl ?_
                refine w_getr (n := 2) (v := 88) hK rfl rfl (by decide) (by decide) rfl rfl rfl rfl ?_
                refine w_il hK rfl rfl ?_
                refine w_al hK rfl rfl ?_
                refine w_getr (n := 0) (v := 1) hK rfl rfl (by decide) (by decide) rfl rfl rfl rfl ?_
                refine w_geti (n := 3) (m := 3) hK rfl rfl (by decide) (by decide) rfl rfl rfl rfl ?_
                rw [show N24 1 3 = (mm k : Int) from hC.F.m]
                refine w_mul hK rfl (by omega) (by omega) ?_
                refine w_il hK rfl rfl ?_
                refine w_add hK rfl (by omega) (by omega) ?_
                refine w_call [(1, 88), (0, (((j : Int) * (mm k : Int)) + (s : Int)))] hK rfl rfl rfl rfl (Or.inr ⟨_, _, _, rfl, by decide, (by decide), rfl⟩) (c_relAt (c := c) (by omega) ((congrFun (hF 88 (notP rfl)) 4).trans q4_) (((j : Int) * (mm k : Int)) + (s : Int)) (by omega) (by omega)) ?_
                rintro _ Mq ⟨rfl, e_⟩
                subst Mq
                rw [if_pos (by omega), show (c : Int) * 17 + ((j : Int) * (mm k : Int) + (s : Int)) = (c : Int) * 17 + ((j * mm k + s : Nat) : Int) by rw [Int.natCast_add, Int.natCast_mul], show N24 90 ((c : Int) * 17 + ((j * mm k + s : Nat) : Int)) = (u (j * mm k + s) : Int) from (congrFun ((hF 90 (notP rfl)).trans rfl) _).trans (hu (j * mm k + s) (by omega))]
                refine ⟨(by show (0 : Nat) ≠ 9; decide), (?_ : Wp 198 _ 101 47 [(1, 92), (0, (n : Int)), (1, (104 + 2 * (R : Int))), (0, (j : Int)), (0, ((nbS (pp k) u (j * mm k) s) : Int)), (0, (s : Int))] [(0, (u (j * mm k + s) : Int)), (0, ((nbS (pp k) u (j * mm k) s) : Int))] N24 _)⟩
                refine w_al hK rfl rfl ?_
                refine w_getr (n := 0) (v := 1) hK rfl rfl (by decide) (by decide) rfl rfl rfl rfl ?_
                refine w_il hK rfl rfl ?_
                refine w_call [(1, 1), (0, (s : Int))] hK rfl rfl rfl rfl (Or.inr ⟨_, _, _, rfl, by decide, (by decide), rfl⟩) (c_unit (by decide) hC.F s (by omega)) ?_
                rintro _ Mq ⟨rfl, e_⟩
                subst Mq
                have ul_ := unt_le (k := k) (s := s) (by omega)
                have uq_ := unt_lt (k := k) (s := s) (by omega)
                refine ⟨(by show (0 : Nat) ≠ 9; decide), (?_ : Wp 198 _ 101 51 [(1, 92), (0, (n : Int)), (1, (104 + 2 * (R : Int))), (0, (j : Int)), (0, ((nbS (pp k) u (j * mm k) s) : Int)), (0, (s : Int))] [(0, (unt k s : Int)), (0, (u (j * mm k + s) : Int)), (0, ((nbS (pp k) u (j * mm k) s) : Int))] N24 _)⟩
                have um_ : (u (j * mm k + s) : Int) * (unt k s : Int) = ((u (j * mm k + s) * unt k s : Nat) : Int) := (Int.natCast_mul ..).symm
                have ub_ : u (j * mm k + s) * unt k s ≤ 3 * 16 := Nat.mul_le_mul (by have := hup (j * mm k + s); have := pp_le k; omega) ul_.1
                refine w_mul hK rfl (by omega) (by omega) ?_
                refine w_add hK rfl (by omega) (by omega) ?_
                refine w_is [(1, 92), (0, (n : Int)), (1, (104 + 2 * (R : Int))), (0, (j : Int)), (0, (((nbS (pp k) u (j * mm k) s) : Int) + ((u (j * mm k + s) : Int) * (unt k s : Int)))), (0, (s : Int))] hK rfl rfl rfl ?_
                refine w_inc [(1, 92), (0, (n : Int)), (1, (104 + 2 * (R : Int))), (0, (j : Int)), (0, (((nbS (pp k) u (j * mm k) s) : Int) + ((u (j * mm k + s) : Int) * (unt k s : Int)))), (0, ((s : Int) + 1))] hK rfl rfl rfl (by omega) (by omega) rfl ?_
                refine w_goto hK rfl ?_
                have q31 := ih31 _ (by omega) (s + 1)  rfl (by omega)
                rw [show (nbS (pp k) u (j * mm k) (s + 1) : Int) = ((nbS (pp k) u (j * mm k) s) : Int) + (u (j * mm k + s) : Int) * (unt k s : Int) from by show (((nbS (pp k) u (j * mm k) s) + u (j * mm k + s) * pp k ^ s : Nat) : Int) = _; rw [Int.natCast_add, Int.natCast_mul]; rfl] at q31
                exact q31
            exact lp31 _ 0  rfl (by omega)
        exact lp24 _ 0 _ (3, 0) (3, 0) V66 rfl (by omega) C66 (pu_eq.trans (congrArg some bsU_0.symm)) (fun p pn1042RInt_ => (pu_ne (P := P) (f := pz) (show p ≠ (104 + 2 * (R : Int)) by omega))) (fun a np_ => (S66 a np_))
      · exfalso; omega
