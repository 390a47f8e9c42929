/-! the reference: products and divisions -/
theorem mono_bd {k : Nat} (c : El k) (j : Nat) : Bd (mono c j) (j + 1) := fun i hi => by show (if i = j then c else z0) = z0; rw [if_neg (by omega)]
theorem mono_le {k : Nat} (c : El k) {j : Nat} (hj : j ≤ 40) : dg (mono c j) ≤ (j : Int) := dg_le_of ((mono_bd c j).mono (by omega)) (by omega) (fun i hi => by show (if i = j then c else z0) = z0; rw [if_neg (by omega)])
theorem DI.deg {k : Nat} {s : Int} {x y : Pl k} {b : Nat} {q r : Pl k} {i : Int} (h : DI s x y b q r i) (hr : Bd r 64) (hi : -1 ≤ i + b) : dg r ≤ i + b ∧ DI s x y b q r (dg r - b) := by
  have h1 : dg r ≤ i + b := dg_le_of hr hi h.2.2.2
  exact ⟨h1, h.1, h.2.1, fun j hj => h.2.2.1 j (by omega), fun j hj => dg_z hr (by omega)⟩
theorem dg_lt17 {k : Nat} {f : Pl k} (h : Bd f 17) : -1 ≤ dg f ∧ dg f ≤ 16 := ⟨dg_ge f, by have := dg_lt h (by decide); omega⟩
set_option maxRecDepth 100000 in
theorem r_prod {d : Nat} {M : Mem} {k : Nat} {R : Int → Option (Pl k)} (C : RS M k R) {x : Int} {f_x : Pl k} (hx : isK R x f_x) {y : Int} {f_y : Pl k} (hy : isK R y f_y) {o : Int} (ho : isR o) (x1_ : x ≠ 170) (y1_ : y ≠ 170) (o1_ : o ≠ 170) (hd : dg f_x + dg f_y ≤ 46) : Ct 198 (d + 1) 234 [(1, 161), (1, x), (1, y), (1, o)] M (fun r_ M' => ∃ R' : Int → Option (Pl k), r_ = (4, 0) ∧ RS M' k R' ∧ (∀ a : Int, (∀ p : Int, isR p → a ≠ p) → M' a = M a) ∧ (∀ p : Int, p ≠ 170 → p ≠ o → R' p = R p) ∧ R' o = some (mlp f_x f_y)) := by
  have hK : cd 234 = k234 := rfl
  have dx_ := C.dI hx
  have dy_ := C.dI hy
  show Wp 198 _ 234 0 [(1, 161), (1, x), (1, y), (1, o), (3, 0), (3, 0), (3, 0), (3, 0)] [] M _
  refine w_al hK rfl rfl ?_
  refine w_getr (n := 16) (v := 170) hK rfl rfl (by decide) (by decide) rfl rfl rfl rfl ?_
  refine w_call [(1, 170)] hK rfl rfl rfl rfl (Or.inl rfl) (r_clear C (isR_of (p := 170) rfl)) ?_
  rintro _ V230 ⟨P230, rfl, C230, S230, F230, f230_0⟩
  refine ⟨by decide, (?_ : Wp 198 _ 234 3 [(1, 161), (1, x), (1, y), (1, o), (3, 0), (3, 0), (3, 0), (3, 0)] [] V230 _)⟩
  refine w_al hK rfl rfl ?_
  have dI_ : -1 ≤ dg f_x ∧ dg f_x ≤ 47 := C230.dI ⟨hx.1, ((F230 x (by omega)).trans hx.2)⟩
  refine w_call [(1, x)] hK rfl rfl rfl rfl (Or.inl rfl) (r_deg C230 ⟨hx.1, ((F230 x (by omega)).trans hx.2)⟩) ?_
  rintro _ Mq ⟨rfl, e_⟩
  subst Mq
  refine ⟨by show (0 : Nat) ≠ 9; decide, (?_ : Wp 198 _ 234 5 [(1, 161), (1, x), (1, y), (1, o), (3, 0), (3, 0), (3, 0), (3, 0)] [(0, (dg f_x))] V230 _)⟩
  refine w_is [(1, 161), (1, x), (1, y), (1, o), (0, (dg f_x)), (3, 0), (3, 0), (3, 0)] hK rfl rfl rfl ?_
  refine w_al hK rfl rfl ?_
  have dI_ : -1 ≤ dg f_y ∧ dg f_y ≤ 47 := C230.dI ⟨hy.1, ((F230 y (by omega)).trans hy.2)⟩
  refine w_call [(1, y)] hK rfl rfl rfl rfl (Or.inl rfl) (r_deg C230 ⟨hy.1, ((F230 y (by omega)).trans hy.2)⟩) ?_
  rintro _ Mq ⟨rfl, e_⟩
  subst Mq
  refine ⟨by show (0 : Nat) ≠ 9; decide, (?_ : Wp 198 _ 234 8 [(1, 161), (1, x), (1, y), (1, o), (0, (dg f_x)), (3, 0), (3, 0), (3, 0)] [(0, (dg f_y))] V230 _)⟩
  refine w_is [(1, 161), (1, x), (1, y), (1, o), (0, (dg f_x)), (0, (dg f_y)), (3, 0), (3, 0)] hK rfl rfl rfl ?_
  refine w_ic hK rfl ?_
  refine w_is [(1, 161), (1, x), (1, y), (1, o), (0, (dg f_x)), (0, (dg f_y)), (0, 0), (3, 0)] hK rfl rfl rfl ?_
  have lp11 : ∀ (n_ : Nat) (i : Nat) (R1 : Int → Option (Pl k)) (w7 : AV) (N11 : Mem), 49 - i = n_ → ((i : Int) ≤ dg f_x + 1) → (RS N11 k R1) → (R1 170 = some (pmp f_x f_y i 0)) → ((∀ p : Int, p ≠ 170 → R1 p = R p)) → ((∀ a : Int, (∀ p : Int, isR p → a ≠ p) → N11 a = M a)) → Wp 198 (d + 1) 234 11 [(1, 161), (1, x), (1, y), (1, o), (0, (dg f_x)), (0, (dg f_y)), (0, (i : Int)), w7] [] N11 (fun r_ M' => ∃ R' : Int → Option (Pl k), r_ = (4, 0) ∧ RS M' k R' ∧ (∀ a : Int, (∀ p : Int, isR p → a ≠ p) → M' a = M a) ∧ (∀ p : Int, p ≠ 170 → p ≠ o → R' p = R p) ∧ R' o = some (mlp f_x f_y)) := by
    intro n_
    induction n_ using Nat.strongRecOn with
    | _ n_ ih11 =>
    intro i R1 w7 N11 hm11 hi hC hm hG hS
    refine w_il hK rfl rfl ?_
    refine w_il hK rfl rfl ?_
    refine w_gt2 hK rfl (by omega) (by omega) (by omega) (by omega) (fun h13 => ?_) (fun h13 => ?_)
    · refine w_al hK rfl rfl ?_
      refine w_getr (n := 16) (v := 170) hK rfl rfl (by decide) (by decide) rfl rfl rfl rfl ?_
      refine w_al hK rfl rfl ?_
      refine w_call [(1, 170), (1, o)] hK rfl rfl rfl rfl (Or.inl rfl) (r_copy hC ⟨(isR_of (p := 170) rfl), hm⟩ ho (by omega)) ?_
      rintro _ V231 ⟨P231, rfl, C231, S231, F231, f231_0⟩
      refine ⟨by decide, (?_ : Wp 198 _ 234 52 [(1, 161), (1, x), (1, y), (1, o), (0, (dg f_x)), (0, (dg f_y)), (0, (i : Int)), w7] [] V231 _)⟩
      refine w_ret hK rfl rfl ?_
      exact ⟨_, rfl, C231, (fun a nr_ => ((S231 a nr_).trans (hS a nr_))), (fun p pn170_ pno_ => ((F231 p pno_).trans (hG p pn170_))), (f231_0.trans (congrArg some (pmp_end f_x f_y i (fun n_ hn_ => dg_z ((C.bd hx).mono (by decide)) (by omega)))))⟩
    · refine w_ic hK rfl ?_
      refine w_is [(1, 161), (1, x), (1, y), (1, o), (0, (dg f_x)), (0, (dg f_y)), (0, (i : Int)), (0, 0)] hK rfl rfl rfl ?_
      have lp16 : ∀ (n_ : Nat) (j : Nat) (R2 : Int → Option (Pl k)) (N16 : Mem), 49 - j = n_ → ((j : Int) ≤ dg f_y + 1) → (RS N16 k R2) → (R2 170 = some (pmp f_x f_y i j)) → ((∀ p : Int, p ≠ 170 → R2 p = R p)) → ((∀ a : Int, (∀ p : Int, isR p → a ≠ p) → N16 a = M a)) → Wp 198 (d + 1) 234 16 [(1, 161), (1, x), (1, y), (1, o), (0, (dg f_x)), (0, (dg f_y)), (0, (i : Int)), (0, (j : Int))] [] N16 (fun r_ M' => ∃ R' : Int → Option (Pl k), r_ = (4, 0) ∧ RS M' k R' ∧ (∀ a : Int, (∀ p : Int, isR p → a ≠ p) → M' a = M a) ∧ (∀ p : Int, p ≠ 170 → p ≠ o → R' p = R p) ∧ R' o = some (mlp f_x f_y)) := by
        intro n_
        induction n_ using Nat.strongRecOn with
        | _ n_ ih16 =>
        intro j R2 N16 hm16 hj hC2 hm2 hG2 hS2
        refine w_il hK rfl rfl ?_
        refine w_il hK rfl rfl ?_
        refine w_gt2 hK rfl (by omega) (by omega) (by omega) (by omega) (fun h18 => ?_) (fun h18 => ?_)
        · refine w_inc [(1, 161), (1, x), (1, y), (1, o), (0, (dg f_x)), (0, (dg f_y)), (0, ((i : Int) + 1)), (0, (j : Int))] hK rfl rfl rfl (by omega) (by omega) rfl ?_
          refine w_goto hK rfl ?_
          exact ih11 _ (by omega) (i + 1) _ (0, (j : Int)) N16 rfl (by omega) hC2 (hm2.trans (congrArg some (pmp_row f_x f_y i j (fun n_ hn_ => dg_z ((C.bd hy).mono (by decide)) (by omega))))) (fun p pn170_ => (hG2 p pn170_)) (fun a nr_ => (hS2 a nr_))
        · refine w_al hK rfl rfl ?_
          refine w_getr (n := 16) (v := 170) hK rfl rfl (by decide) (by decide) rfl rfl rfl rfl ?_
          refine w_il hK rfl rfl ?_
          refine w_il hK rfl rfl ?_
          refine w_add hK rfl (by omega) (by omega) ?_
          refine w_al hK rfl rfl ?_
          refine w_al hK rfl rfl ?_
          refine w_getr (n := 16) (v := 170) hK rfl rfl (by decide) (by decide) rfl rfl rfl rfl ?_
          refine w_il hK rfl rfl ?_
          refine w_il hK rfl rfl ?_
          refine w_add hK rfl (by omega) (by omega) ?_
          refine w_ia hK rfl rfl (by decide) (by decide) (by omega) (by omega) ?_
          rw [show N16 170 ((i : Int) + (j : Int)) = (((pmp f_x f_y i j) (i + j)).val : Int) from hC2.atz ⟨(isR_of (p := 170) rfl), hm2⟩ (j := (i + j)) (by omega) (by omega)]
          refine w_al hK rfl rfl ?_
          refine w_al hK rfl rfl ?_
          refine w_il hK rfl rfl ?_
          refine w_ria hK rfl hx.1 (by omega) (by omega) ?_
          rw [show N16 x (i : Int) = ((f_x i).val : Int) from hC2.atz ⟨hx.1, ((hG2 x (by omega)).trans hx.2)⟩ (j := i) (by omega) (by omega)]
          refine w_al hK rfl rfl ?_
          refine w_al hK rfl rfl ?_
          refine w_il hK rfl rfl ?_
          refine w_ria hK rfl hy.1 (by omega) (by omega) ?_
          rw [show N16 y (j : Int) = ((f_y j).val : Int) from hC2.atz ⟨hy.1, ((hG2 y (by omega)).trans hy.2)⟩ (j := j) (by omega) (by omega)]
          refine w_il hK rfl rfl ?_
          refine w_call [(1, 161), (0, ((f_y j).val : Int)), (0, (i : Int))] hK rfl rfl rfl rfl (Or.inr ⟨_, _, _, rfl, by decide, (by decide), rfl⟩) (r_mapN hC2.F (f_y j) i (by omega)) ?_
          rintro _ Mq ⟨rfl, e_⟩
          subst Mq
          have bv_ := el_I (sg i (f_y j))
          refine ⟨by show (0 : Nat) ≠ 9; decide, (?_ : Wp 198 _ 234 41 [(1, 161), (1, x), (1, y), (1, o), (0, (dg f_x)), (0, (dg f_y)), (0, (i : Int)), (0, (j : Int))] [(0, ((sg i (f_y j)).val : Int)), (0, ((f_x i).val : Int)), (1, 161), (0, (((pmp f_x f_y i j) (i + j)).val : Int)), (1, 161), (0, ((i : Int) + (j : Int))), (1, 170)] N16 _)⟩
          refine w_call [(1, 161), (0, ((f_x i).val : Int)), (0, ((sg i (f_y j)).val : Int))] hK rfl rfl rfl rfl (Or.inr ⟨_, _, _, rfl, by decide, (by decide), rfl⟩) (r_mul hC2.F (f_x i) (sg i (f_y j))) ?_
          rintro _ Mq ⟨rfl, e_⟩
          subst Mq
          have bv_ := el_I (ml (f_x i) (sg i (f_y j)))
          refine ⟨by show (0 : Nat) ≠ 9; decide, (?_ : Wp 198 _ 234 42 [(1, 161), (1, x), (1, y), (1, o), (0, (dg f_x)), (0, (dg f_y)), (0, (i : Int)), (0, (j : Int))] [(0, ((ml (f_x i) (sg i (f_y j))).val : Int)), (0, (((pmp f_x f_y i j) (i + j)).val : Int)), (1, 161), (0, ((i : Int) + (j : Int))), (1, 170)] N16 _)⟩
          refine w_call [(1, 161), (0, (((pmp f_x f_y i j) (i + j)).val : Int)), (0, ((ml (f_x i) (sg i (f_y j))).val : Int))] hK rfl rfl rfl rfl (Or.inr ⟨_, _, _, rfl, by decide, (by decide), rfl⟩) (r_add hC2.F ((pmp f_x f_y i j) (i + j)) (ml (f_x i) (sg i (f_y j)))) ?_
          rintro _ Mq ⟨rfl, e_⟩
          subst Mq
          have bv_ := el_I (ad ((pmp f_x f_y i j) (i + j)) (ml (f_x i) (sg i (f_y j))))
          refine ⟨by show (0 : Nat) ≠ 9; decide, (?_ : Wp 198 _ 234 43 [(1, 161), (1, x), (1, y), (1, o), (0, (dg f_x)), (0, (dg f_y)), (0, (i : Int)), (0, (j : Int))] [(0, ((ad ((pmp f_x f_y i j) (i + j)) (ml (f_x i) (sg i (f_y j)))).val : Int)), (0, ((i : Int) + (j : Int))), (1, 170)] N16 _)⟩
          refine w_iat hK rfl rfl (by decide) (by decide) (by omega) (by omega) ?_
          refine w_inc [(1, 161), (1, x), (1, y), (1, o), (0, (dg f_x)), (0, (dg f_y)), (0, (i : Int)), (0, ((j : Int) + 1))] hK rfl rfl rfl (by omega) (by omega) rfl ?_
          refine w_goto hK rfl ?_
          exact ih16 _ (by omega) (j + 1) _ (up N16 170 ((i : Int) + (j : Int)) ((ad ((pmp f_x f_y i j) (i + j)) (ml (f_x i) (sg i (f_y j)))).val : Int)) rfl (by omega) (RS.up hC2 ⟨(isR_of (p := 170) rfl), hm2⟩ (j := (i + j)) (by omega) (by omega) (e := (ad ((pmp f_x f_y i j) (i + j)) (ml (f_x i) (sg i (f_y j))))) rfl) (pu_eq.trans (congrArg some (pmp_step f_x f_y i j))) (fun p pn170_ => ((pu_ne (P := R2) (f := up1 (pmp f_x f_y i j) (i + j) (ad ((pmp f_x f_y i j) (i + j)) (ml (f_x i) (sg i (f_y j))))) (show p ≠ 170 by omega)).trans (hG2 p pn170_))) (fun a nr_ => ((up_row (nr_ 170 (isR_of (p := 170) rfl))).trans (hS2 a nr_)))
      exact lp16 _ 0 _ N11 rfl (by omega) hC hm (fun p pn170_ => (hG p pn170_)) (fun a nr_ => (hS a nr_))
  exact lp11 _ 0 _ (3, 0) V230 rfl (by omega) C230 (f230_0.trans (congrArg some (pmp_00 f_x f_y).symm)) (fun p pn170_ => (F230 p pn170_)) (fun a nr_ => (S230 a nr_))
set_option maxRecDepth 100000 in
theorem r_div0 {d : Nat} {M : Mem} {k : Nat} {R : Int → Option (Pl k)} (C : RS M k R) {x : Int} {f_x : Pl k} (hx : isK R x f_x) {y : Int} {f_y : Pl k} (hy : isK R y f_y) (hx_ : x < 170 ∨ 174 < x) (hy_ : y < 170 ∨ 174 < y) {b : Nat} (hyb : dg f_y = (b : Int)) (bx17 : Bd f_x 17) (by17 : Bd f_y 17) : Ct 198 (d + 2) 238 [(1, 161), (1, x), (1, y), (0, 0)] M (fun r_ M' => ∃ R' : Int → Option (Pl k), r_ = (4, 0) ∧ RS M' k R' ∧ (∀ a : Int, (∀ p : Int, isR p → a ≠ p) → M' a = M a) ∧ (∀ p : Int, p ≠ 170 → p ≠ 171 → p ≠ 172 → p ≠ 173 → p ≠ 174 → R' p = R p) ∧ R' 173 = some (dr 0 f_x f_y) ∧ R' 174 = some (dq 0 f_x f_y)) := by
  have hK : cd 238 = k238 := rfl
  have hyd_ : IsDg f_y (b : Int) := hyb ▸ dg_is (by17.mono (by decide))
  have bY_ := dg_lt17 by17
  have bX_ := dg_lt17 bx17
  show Wp 198 _ 238 0 [(1, 161), (1, x), (1, y), (0, 0), (3, 0), (3, 0), (3, 0)] [] M _
  refine w_al hK rfl rfl ?_
  refine w_al hK rfl rfl ?_
  refine w_getr (n := 19) (v := 173) hK rfl rfl (by decide) (by decide) rfl rfl rfl rfl ?_
  refine w_call [(1, x), (1, 173)] hK rfl rfl rfl rfl (Or.inl rfl) (r_copy C hx (isR_of (p := 173) rfl) (by omega)) ?_
  rintro _ V232 ⟨P232, rfl, C232, S232, F232, f232_0⟩
  refine ⟨by decide, (?_ : Wp 198 _ 238 4 [(1, 161), (1, x), (1, y), (0, 0), (3, 0), (3, 0), (3, 0)] [] V232 _)⟩
  refine w_al hK rfl rfl ?_
  refine w_getr (n := 20) (v := 174) hK rfl rfl (by decide) (by decide) rfl rfl rfl rfl ?_
  refine w_call [(1, 174)] hK rfl rfl rfl rfl (Or.inl rfl) (r_clear C232 (isR_of (p := 174) rfl)) ?_
  rintro _ V233 ⟨P233, rfl, C233, S233, F233, f233_0⟩
  refine ⟨by decide, (?_ : Wp 198 _ 238 7 [(1, 161), (1, x), (1, y), (0, 0), (3, 0), (3, 0), (3, 0)] [] V233 _)⟩
  refine w_al hK rfl rfl ?_
  have dI_ : -1 ≤ dg f_y ∧ dg f_y ≤ 47 := C233.dI ⟨hy.1, ((F233 y (by omega)).trans ((F232 y (by omega)).trans hy.2))⟩
  refine w_call [(1, y)] hK rfl rfl rfl rfl (Or.inl rfl) (r_deg C233 ⟨hy.1, ((F233 y (by omega)).trans ((F232 y (by omega)).trans hy.2))⟩) ?_
  rintro _ Mq ⟨rfl, e_⟩
  subst Mq
  refine ⟨by show (0 : Nat) ≠ 9; decide, (?_ : Wp 198 _ 238 9 [(1, 161), (1, x), (1, y), (0, 0), (3, 0), (3, 0), (3, 0)] [(0, (dg f_y))] V233 _)⟩
  rw [hyb]
  refine w_is [(1, 161), (1, x), (1, y), (0, 0), (0, (b : Int)), (3, 0), (3, 0)] hK rfl rfl rfl ?_
  refine w_al hK rfl rfl ?_
  refine w_getr (n := 19) (v := 173) hK rfl rfl (by decide) (by decide) rfl rfl rfl rfl ?_
  have dI_ : -1 ≤ dg f_x ∧ dg f_x ≤ 47 := C233.dI ⟨(isR_of (p := 173) rfl), ((F233 173 (by omega)).trans f232_0)⟩
  refine w_call [(1, 173)] hK rfl rfl rfl rfl (Or.inl rfl) (r_deg C233 ⟨(isR_of (p := 173) rfl), ((F233 173 (by omega)).trans f232_0)⟩) ?_
  rintro _ Mq ⟨rfl, e_⟩
  subst Mq
  refine ⟨by show (0 : Nat) ≠ 9; decide, (?_ : Wp 198 _ 238 13 [(1, 161), (1, x), (1, y), (0, 0), (0, (b : Int)), (3, 0), (3, 0)] [(0, (dg f_x))] V233 _)⟩
  refine w_is [(1, 161), (1, x), (1, y), (0, 0), (0, (b : Int)), (0, (dg f_x)), (3, 0)] hK rfl rfl rfl ?_
  have lp14 : ∀ (n_ : Nat) (q_ r_ : Pl k) (R1 : Int → Option (Pl k)) (w6 : AV) (N14 : Mem), (dg r_ + 1).toNat = n_ → (RS N14 k R1) → (R1 173 = some r_) → (R1 174 = some q_) → (DI 0 f_x f_y b q_ r_ (dg r_ - (b : Int))) → (Bd r_ 17) → ((∀ p : Int, p ≠ 170 → p ≠ 171 → p ≠ 172 → p ≠ 173 → p ≠ 174 → R1 p = R p)) → ((∀ a : Int, (∀ p : Int, isR p → a ≠ p) → N14 a = M a)) → Wp 198 (d + 2) 238 14 [(1, 161), (1, x), (1, y), (0, 0), (0, (b : Int)), (0, (dg r_)), w6] [] N14 (fun r_ M' => ∃ R' : Int → Option (Pl k), r_ = (4, 0) ∧ RS M' k R' ∧ (∀ a : Int, (∀ p : Int, isR p → a ≠ p) → M' a = M a) ∧ (∀ p : Int, p ≠ 170 → p ≠ 171 → p ≠ 172 → p ≠ 173 → p ≠ 174 → R' p = R p) ∧ R' 173 = some (dr 0 f_x f_y) ∧ R' 174 = some (dq 0 f_x f_y)) := by
    intro n_
    induction n_ using Nat.strongRecOn with
    | _ n_ ih14 =>
    intro q_ r_ R1 w6 N14 hm14 hC hr hq hD hb hG hS
    have br_ := dg_lt17 hb
    refine w_il hK rfl rfl ?_
    refine w_il hK rfl rfl ?_
    refine w_lt2 hK rfl (by omega) (by omega) (by omega) (by omega) (fun h16 => ?_) (fun h16 => ?_)
    · refine w_ret hK rfl rfl ?_
      have dv_ := dv_eq (hD.done (by omega) hyd_)
      rw [← dv_.1] at hq
      rw [← dv_.2] at hr
      exact ⟨R1, rfl, hC, hS, hG, hr, hq⟩
    · refine w_il hK rfl rfl ?_
      refine w_ne hK rfl (by omega) (by omega) (fun h18 => ?_) (fun h18 => ?_)
      · exfalso; omega
      · refine w_al hK rfl rfl ?_
        refine w_al hK rfl rfl ?_
        refine w_getr (n := 19) (v := 173) hK rfl rfl (by decide) (by decide) rfl rfl rfl rfl ?_
        refine w_il hK rfl rfl ?_
        refine w_ia hK rfl rfl (by decide) (by decide) (by omega) (by omega) ?_
        rw [show N14 173 (dg r_) = ((cf r_ (dg r_)).val : Int) from hC.atI ⟨(isR_of (p := 173) rfl), hr⟩ (by omega) (by omega)]
        refine w_al hK rfl rfl ?_
        refine w_getr (n := 7) (v := 165) hK rfl rfl (by decide) (by decide) rfl rfl rfl rfl ?_
        refine w_al hK rfl rfl ?_
        refine w_al hK rfl rfl ?_
        refine w_il hK rfl rfl ?_
        refine w_ria hK rfl hy.1 (by omega) (by omega) ?_
        rw [show N14 y (b : Int) = ((f_y b).val : Int) from hC.atz ⟨hy.1, ((hG y (by omega) (by omega) (by omega) (by omega) (by omega)).trans hy.2)⟩ (j := b) (by omega) (by omega)]
        refine w_il hK rfl rfl ?_
        refine w_il hK rfl rfl ?_
        refine w_sub hK rfl (by omega) (by omega) ?_
        refine w_call [(1, 161), (0, ((f_y b).val : Int)), (0, ((dg r_) - (b : Int)))] hK rfl rfl rfl rfl (Or.inr ⟨_, _, _, rfl, by decide, (by decide), rfl⟩) (r_mapd hC.F (f_y b) ((dg r_) - (b : Int)) (by omega) (by omega)) ?_
        rintro _ Mq ⟨rfl, e_⟩
        subst Mq
        have bv_ := el_I (sgI ((dg r_) - (b : Int)) (f_y b))
        refine ⟨by show (0 : Nat) ≠ 9; decide, (?_ : Wp 198 _ 238 34 [(1, 161), (1, x), (1, y), (0, 0), (0, (b : Int)), (0, (dg r_)), w6] [(0, ((sgI ((dg r_) - (b : Int)) (f_y b)).val : Int)), (1, 165), (0, ((cf r_ (dg r_)).val : Int)), (1, 161)] N14 _)⟩
        have bl_ := el_I (sgI ((dg r_) - (b : Int)) (f_y b))
        refine w_ia hK rfl rfl (by decide) (by decide) (by omega) (by omega) ?_
        rw [show N14 165 ((sgI ((dg r_) - (b : Int)) (f_y b)).val : Int) = ((iv (sgI ((dg r_) - (b : Int)) (f_y b))).val : Int) from hC.F.v (sgI ((dg r_) - (b : Int)) (f_y b))]
        refine w_call [(1, 161), (0, ((cf r_ (dg r_)).val : Int)), (0, ((iv (sgI ((dg r_) - (b : Int)) (f_y b))).val : Int))] hK rfl rfl rfl rfl (Or.inr ⟨_, _, _, rfl, by decide, (by decide), rfl⟩) (r_mul hC.F (cf r_ (dg r_)) (iv (sgI ((dg r_) - (b : Int)) (f_y b)))) ?_
        rintro _ Mq ⟨rfl, e_⟩
        subst Mq
        have bv_ := el_I (ml (cf r_ (dg r_)) (iv (sgI ((dg r_) - (b : Int)) (f_y b))))
        refine ⟨by show (0 : Nat) ≠ 9; decide, (?_ : Wp 198 _ 238 36 [(1, 161), (1, x), (1, y), (0, 0), (0, (b : Int)), (0, (dg r_)), w6] [(0, ((ml (cf r_ (dg r_)) (iv (sgI ((dg r_) - (b : Int)) (f_y b)))).val : Int))] N14 _)⟩
        refine w_goto hK rfl ?_
        refine w_is [(1, 161), (1, x), (1, y), (0, 0), (0, (b : Int)), (0, (dg r_)), (0, ((ml (cf r_ (dg r_)) (iv (sgI ((dg r_) - (b : Int)) (f_y b)))).val : Int))] hK rfl rfl rfl ?_
        refine w_al hK rfl rfl ?_
        refine w_getr (n := 20) (v := 174) hK rfl rfl (by decide) (by decide) rfl rfl rfl rfl ?_
        refine w_il hK rfl rfl ?_
        refine w_il hK rfl rfl ?_
        refine w_sub hK rfl (by omega) (by omega) ?_
        refine w_il hK rfl rfl ?_
        refine w_iat hK rfl rfl (by decide) (by decide) (by omega) (by omega) ?_
        refine w_al hK rfl rfl ?_
        refine w_getr (n := 17) (v := 171) hK rfl rfl (by decide) (by decide) rfl rfl rfl rfl ?_
        refine w_call [(1, 171)] hK rfl rfl rfl rfl (Or.inl rfl) (r_clear (RS.up hC ⟨(isR_of (p := 174) rfl), hq⟩ (j := (((dg r_) - (b : Int)).toNat)) (by omega) (by omega) (e := (ml (cf r_ (dg r_)) (iv (sgI ((dg r_) - (b : Int)) (f_y b))))) rfl) (isR_of (p := 171) rfl)) ?_
        rintro _ V234 ⟨P234, rfl, C234, S234, F234, f234_0⟩
        refine ⟨by decide, (?_ : Wp 198 _ 238 64 [(1, 161), (1, x), (1, y), (0, 0), (0, (b : Int)), (0, (dg r_)), (0, ((ml (cf r_ (dg r_)) (iv (sgI ((dg r_) - (b : Int)) (f_y b)))).val : Int))] [] V234 _)⟩
        refine w_al hK rfl rfl ?_
        refine w_getr (n := 17) (v := 171) hK rfl rfl (by decide) (by decide) rfl rfl rfl rfl ?_
        refine w_il hK rfl rfl ?_
        refine w_il hK rfl rfl ?_
        refine w_sub hK rfl (by omega) (by omega) ?_
        refine w_il hK rfl rfl ?_
        refine w_iat hK rfl rfl (by decide) (by decide) (by omega) (by omega) ?_
        have mo_ : dg (up1 pz ((dg r_) - (b : Int)).toNat (ml (cf r_ (dg r_)) (iv (sgI ((dg r_) - (b : Int)) (f_y b))))) ≤ ((((dg r_) - (b : Int)).toNat : Nat) : Int) := mono_le (ml (cf r_ (dg r_)) (iv (sgI ((dg r_) - (b : Int)) (f_y b)))) (j := ((dg r_) - (b : Int)).toNat) (by omega)
        refine w_il hK rfl rfl ?_
        refine w_ne hK rfl (by omega) (by omega) (fun h72 => ?_) (fun h72 => ?_)
        · exfalso; omega
        · refine w_al hK rfl rfl ?_
          refine w_al hK rfl rfl ?_
          refine w_getr (n := 17) (v := 171) hK rfl rfl (by decide) (by decide) rfl rfl rfl rfl ?_
          refine w_al hK rfl rfl ?_
          refine w_al hK rfl rfl ?_
          refine w_getr (n := 18) (v := 172) hK rfl rfl (by decide) (by decide) rfl rfl rfl rfl ?_
          refine w_call [(1, 161), (1, 171), (1, y), (1, 172)] hK rfl rfl rfl rfl (Or.inr ⟨_, _, _, rfl, by decide, (by decide), rfl⟩) (r_prod (RS.up C234 ⟨(isR_of (p := 171) rfl), f234_0⟩ (j := (((dg r_) - (b : Int)).toNat)) (by omega) (by omega) (e := (ml (cf r_ (dg r_)) (iv (sgI ((dg r_) - (b : Int)) (f_y b))))) rfl) ⟨(isR_of (p := 171) rfl), pu_eq⟩ ⟨hy.1, ((pu_ne (P := P234) (f := up1 pz (((dg r_) - (b : Int)).toNat) (ml (cf r_ (dg r_)) (iv (sgI ((dg r_) - (b : Int)) (f_y b))))) (show y ≠ 171 by omega)).trans ((F234 y (by omega)).trans ((pu_ne (P := R1) (f := up1 q_ (((dg r_) - (b : Int)).toNat) (ml (cf r_ (dg r_)) (iv (sgI ((dg r_) - (b : Int)) (f_y b))))) (show y ≠ 174 by omega)).trans ((hG y (by omega) (by omega) (by omega) (by omega) (by omega)).trans hy.2))))⟩ (isR_of (p := 172) rfl) (by omega) (by omega) (by omega) (by omega)) ?_
          rintro _ V235 ⟨P235, rfl, C235, S235, F235, f235_0⟩
          refine ⟨by decide, (?_ : Wp 198 _ 238 80 [(1, 161), (1, x), (1, y), (0, 0), (0, (b : Int)), (0, (dg r_)), (0, ((ml (cf r_ (dg r_)) (iv (sgI ((dg r_) - (b : Int)) (f_y b)))).val : Int))] [] V235 _)⟩
          refine w_goto hK rfl ?_
          refine w_al hK rfl rfl ?_
          refine w_al hK rfl rfl ?_
          refine w_getr (n := 18) (v := 172) hK rfl rfl (by decide) (by decide) rfl rfl rfl rfl ?_
          refine w_al hK rfl rfl ?_
          refine w_getr (n := 19) (v := 173) hK rfl rfl (by decide) (by decide) rfl rfl rfl rfl ?_
          refine w_call [(1, 161), (1, 172), (1, 173)] hK rfl rfl rfl rfl (Or.inr ⟨_, _, _, rfl, by decide, (by decide), rfl⟩) (r_less C235 ⟨(isR_of (p := 172) rfl), f235_0⟩ ⟨(isR_of (p := 173) rfl), ((F235 173 (by omega) (by omega)).trans ((pu_ne (P := P234) (f := up1 pz (((dg r_) - (b : Int)).toNat) (ml (cf r_ (dg r_)) (iv (sgI ((dg r_) - (b : Int)) (f_y b))))) (show 173 ≠ 171 by omega)).trans ((F234 173 (by omega)).trans ((pu_ne (P := R1) (f := up1 q_ (((dg r_) - (b : Int)).toNat) (ml (cf r_ (dg r_)) (iv (sgI ((dg r_) - (b : Int)) (f_y b))))) (show 173 ≠ 174 by omega)).trans hr))))⟩ (by omega)) ?_
          rintro _ V236 ⟨P236, rfl, C236, S236, F236, f236_0⟩
          refine ⟨by decide, (?_ : Wp 198 _ 238 94 [(1, 161), (1, x), (1, y), (0, 0), (0, (b : Int)), (0, (dg r_)), (0, ((ml (cf r_ (dg r_)) (iv (sgI ((dg r_) - (b : Int)) (f_y b)))).val : Int))] [] V236 _)⟩
          have hD2_ := hD.ahead (by omega) (by omega) hyd_ (c := (ml (cf r_ (dg r_)) (iv (sgI ((dg r_) - (b : Int)) (f_y b))))) (by rw [show dg r_ - (b : Int) + (b : Int) = dg r_ by omega, sgI_toNat (show 0 ≤ (dg r_) - (b : Int) by omega)])
          have hb2_ : Bd (sbp r_ (mlp (up1 pz (((dg r_) - (b : Int)).toNat) (ml (cf r_ (dg r_)) (iv (sgI ((dg r_) - (b : Int)) (f_y b))))) f_y)) 17 := fun j_ hj_ => hD2_.2.2.2 j_ (by omega)
          have hD3_ : dg (sbp r_ (mlp (up1 pz (((dg r_) - (b : Int)).toNat) (ml (cf r_ (dg r_)) (iv (sgI ((dg r_) - (b : Int)) (f_y b))))) f_y)) ≤ (dg r_ - (b : Int)) - 1 + (b : Int) ∧ DI 0 f_x f_y b (up1 q_ (((dg r_) - (b : Int)).toNat) (ml (cf r_ (dg r_)) (iv (sgI ((dg r_) - (b : Int)) (f_y b))))) (sbp r_ (mlp (up1 pz (((dg r_) - (b : Int)).toNat) (ml (cf r_ (dg r_)) (iv (sgI ((dg r_) - (b : Int)) (f_y b))))) f_y)) (dg (sbp r_ (mlp (up1 pz (((dg r_) - (b : Int)).toNat) (ml (cf r_ (dg r_)) (iv (sgI ((dg r_) - (b : Int)) (f_y b))))) f_y)) - (b : Int)) := hD2_.deg (hb2_.mono (by decide)) (by omega)
          refine w_il hK rfl rfl ?_
          refine w_ne hK rfl (by omega) (by omega) (fun h95 => ?_) (fun h95 => ?_)
          · refine w_al hK rfl rfl ?_
            refine w_getr (n := 19) (v := 173) hK rfl rfl (by decide) (by decide) rfl rfl rfl rfl ?_
            have dI_ : -1 ≤ dg (sbp r_ (mlp (up1 pz (((dg r_) - (b : Int)).toNat) (ml (cf r_ (dg r_)) (iv (sgI ((dg r_) - (b : Int)) (f_y b))))) f_y)) ∧ dg (sbp r_ (mlp (up1 pz (((dg r_) - (b : Int)).toNat) (ml (cf r_ (dg r_)) (iv (sgI ((dg r_) - (b : Int)) (f_y b))))) f_y)) ≤ 47 := C236.dI ⟨(isR_of (p := 173) rfl), f236_0⟩
            refine w_call [(1, 173)] hK rfl rfl rfl rfl (Or.inl rfl) (r_deg C236 ⟨(isR_of (p := 173) rfl), f236_0⟩) ?_
            rintro _ Mq ⟨rfl, e_⟩
            subst Mq
            refine ⟨by show (0 : Nat) ≠ 9; decide, (?_ : Wp 198 _ 238 100 [(1, 161), (1, x), (1, y), (0, 0), (0, (b : Int)), (0, (dg r_)), (0, ((ml (cf r_ (dg r_)) (iv (sgI ((dg r_) - (b : Int)) (f_y b)))).val : Int))] [(0, (dg (sbp r_ (mlp (up1 pz (((dg r_) - (b : Int)).toNat) (ml (cf r_ (dg r_)) (iv (sgI ((dg r_) - (b : Int)) (f_y b))))) f_y))))] V236 _)⟩
            refine w_is [(1, 161), (1, x), (1, y), (0, 0), (0, (b : Int)), (0, (dg (sbp r_ (mlp (up1 pz (((dg r_) - (b : Int)).toNat) (ml (cf r_ (dg r_)) (iv (sgI ((dg r_) - (b : Int)) (f_y b))))) f_y)))), (0, ((ml (cf r_ (dg r_)) (iv (sgI ((dg r_) - (b : Int)) (f_y b)))).val : Int))] hK rfl rfl rfl ?_
            refine w_goto hK rfl ?_
            exact ih14 _ (by omega) _ _ _ (0, ((ml (cf r_ (dg r_)) (iv (sgI ((dg r_) - (b : Int)) (f_y b)))).val : Int)) V236 rfl C236 f236_0 ((F236 174 (by omega)).trans ((F235 174 (by omega) (by omega)).trans ((pu_ne (P := P234) (f := up1 pz (((dg r_) - (b : Int)).toNat) (ml (cf r_ (dg r_)) (iv (sgI ((dg r_) - (b : Int)) (f_y b))))) (show 174 ≠ 171 by omega)).trans ((F234 174 (by omega)).trans pu_eq)))) hD3_.2 hb2_ (fun p pn170_ pn171_ pn172_ pn173_ pn174_ => ((F236 p pn173_).trans ((F235 p pn170_ pn172_).trans ((pu_ne (P := P234) (f := up1 pz (((dg r_) - (b : Int)).toNat) (ml (cf r_ (dg r_)) (iv (sgI ((dg r_) - (b : Int)) (f_y b))))) (show p ≠ 171 by omega)).trans ((F234 p pn171_).trans ((pu_ne (P := R1) (f := up1 q_ (((dg r_) - (b : Int)).toNat) (ml (cf r_ (dg r_)) (iv (sgI ((dg r_) - (b : Int)) (f_y b))))) (show p ≠ 174 by omega)).trans (hG p pn170_ pn171_ pn172_ pn173_ pn174_))))))) (fun a nr_ => ((S236 a nr_).trans ((S235 a nr_).trans ((up_row (nr_ 171 (isR_of (p := 171) rfl))).trans ((S234 a nr_).trans ((up_row (nr_ 174 (isR_of (p := 174) rfl))).trans (hS a nr_)))))))
          · refine w_goto hK rfl ?_
            refine w_ret hK rfl rfl ?_
            have dv_ := dv_eq (hD2_.done (by omega) hyd_)
            exact ⟨_, rfl, C236, (fun a nr_ => ((S236 a nr_).trans ((S235 a nr_).trans ((up_row (nr_ 171 (isR_of (p := 171) rfl))).trans ((S234 a nr_).trans ((up_row (nr_ 174 (isR_of (p := 174) rfl))).trans (hS a nr_))))))), (fun p pn170_ pn171_ pn172_ pn173_ pn174_ => ((F236 p pn173_).trans ((F235 p pn170_ pn172_).trans ((pu_ne (P := P234) (f := up1 pz (((dg r_) - (b : Int)).toNat) (ml (cf r_ (dg r_)) (iv (sgI ((dg r_) - (b : Int)) (f_y b))))) (show p ≠ 171 by omega)).trans ((F234 p pn171_).trans ((pu_ne (P := R1) (f := up1 q_ (((dg r_) - (b : Int)).toNat) (ml (cf r_ (dg r_)) (iv (sgI ((dg r_) - (b : Int)) (f_y b))))) (show p ≠ 174 by omega)).trans (hG p pn170_ pn171_ pn172_ pn173_ pn174_))))))), f236_0.trans (congrArg some dv_.2.symm), ((F236 174 (by omega)).trans ((F235 174 (by omega) (by omega)).trans ((pu_ne (P := P234) (f := up1 pz (((dg r_) - (b : Int)).toNat) (ml (cf r_ (dg r_)) (iv (sgI ((dg r_) - (b : Int)) (f_y b))))) (show 174 ≠ 171 by omega)).trans ((F234 174 (by omega)).trans pu_eq)))).trans (congrArg some dv_.1.symm)⟩
  exact lp14 _ _ _ _ (3, 0) V233 rfl C233 ((F233 173 (by omega)).trans f232_0) f233_0 (DI.start (fun j_ hj_ => dg_z (bx17.mono (by decide)) (by omega))) bx17 (fun p pn170_ pn171_ pn172_ pn173_ pn174_ => ((F233 p pn174_).trans (F232 p pn173_))) (fun a nr_ => ((S233 a nr_).trans (S232 a nr_)))
set_option maxRecDepth 100000 in
theorem r_div1 {d : Nat} {M : Mem} {k : Nat} {R : Int → Option (Pl k)} (C : RS M k R) {x : Int} {f_x : Pl k} (hx : isK R x f_x) {y : Int} {f_y : Pl k} (hy : isK R y f_y) (hx_ : x < 170 ∨ 174 < x) (hy_ : y < 170 ∨ 174 < y) {b : Nat} (hyb : dg f_y = (b : Int)) (bx17 : Bd f_x 17) (by17 : Bd f_y 17) : Ct 198 (d + 2) 238 [(1, 161), (1, x), (1, y), (0, 1)] M (fun r_ M' => ∃ R' : Int → Option (Pl k), r_ = (4, 0) ∧ RS M' k R' ∧ (∀ a : Int, (∀ p : Int, isR p → a ≠ p) → M' a = M a) ∧ (∀ p : Int, p ≠ 170 → p ≠ 171 → p ≠ 172 → p ≠ 173 → p ≠ 174 → R' p = R p) ∧ R' 173 = some (dr 1 f_x f_y) ∧ R' 174 = some (dq 1 f_x f_y)) := by
  have hK : cd 238 = k238 := rfl
  have hyd_ : IsDg f_y (b : Int) := hyb ▸ dg_is (by17.mono (by decide))
  have bY_ := dg_lt17 by17
  have bX_ := dg_lt17 bx17
  show Wp 198 _ 238 0 [(1, 161), (1, x), (1, y), (0, 1), (3, 0), (3, 0), (3, 0)] [] M _
  refine w_al hK rfl rfl ?_
  refine w_al hK rfl rfl ?_
  refine w_getr (n := 19) (v := 173) hK rfl rfl (by decide) (by decide) rfl rfl rfl rfl ?_
  refine w_call [(1, x), (1, 173)] hK rfl rfl rfl rfl (Or.inl rfl) (r_copy C hx (isR_of (p := 173) rfl) (by omega)) ?_
  rintro _ V237 ⟨P237, rfl, C237, S237, F237, f237_0⟩
  refine ⟨by decide, (?_ : Wp 198 _ 238 4 [(1, 161), (1, x), (1, y), (0, 1), (3, 0), (3, 0), (3, 0)] [] V237 _)⟩
  refine w_al hK rfl rfl ?_
  refine w_getr (n := 20) (v := 174) hK rfl rfl (by decide) (by decide) rfl rfl rfl rfl ?_
  refine w_call [(1, 174)] hK rfl rfl rfl rfl (Or.inl rfl) (r_clear C237 (isR_of (p := 174) rfl)) ?_
  rintro _ V238 ⟨P238, rfl, C238, S238, F238, f238_0⟩
  refine ⟨by decide, (?_ : Wp 198 _ 238 7 [(1, 161), (1, x), (1, y), (0, 1), (3, 0), (3, 0), (3, 0)] [] V238 _)⟩
  refine w_al hK rfl rfl ?_
  have dI_ : -1 ≤ dg f_y ∧ dg f_y ≤ 47 := C238.dI ⟨hy.1, ((F238 y (by omega)).trans ((F237 y (by omega)).trans hy.2))⟩
  refine w_call [(1, y)] hK rfl rfl rfl rfl (Or.inl rfl) (r_deg C238 ⟨hy.1, ((F238 y (by omega)).trans ((F237 y (by omega)).trans hy.2))⟩) ?_
  rintro _ Mq ⟨rfl, e_⟩
  subst Mq
  refine ⟨by show (0 : Nat) ≠ 9; decide, (?_ : Wp 198 _ 238 9 [(1, 161), (1, x), (1, y), (0, 1), (3, 0), (3, 0), (3, 0)] [(0, (dg f_y))] V238 _)⟩
  rw [hyb]
  refine w_is [(1, 161), (1, x), (1, y), (0, 1), (0, (b : Int)), (3, 0), (3, 0)] hK rfl rfl rfl ?_
  refine w_al hK rfl rfl ?_
  refine w_getr (n := 19) (v := 173) hK rfl rfl (by decide) (by decide) rfl rfl rfl rfl ?_
  have dI_ : -1 ≤ dg f_x ∧ dg f_x ≤ 47 := C238.dI ⟨(isR_of (p := 173) rfl), ((F238 173 (by omega)).trans f237_0)⟩
  refine w_call [(1, 173)] hK rfl rfl rfl rfl (Or.inl rfl) (r_deg C238 ⟨(isR_of (p := 173) rfl), ((F238 173 (by omega)).trans f237_0)⟩) ?_
  rintro _ Mq ⟨rfl, e_⟩
  subst Mq
  refine ⟨by show (0 : Nat) ≠ 9; decide, (?_ : Wp 198 _ 238 13 [(1, 161), (1, x), (1, y), (0, 1), (0, (b : Int)), (3, 0), (3, 0)] [(0, (dg f_x))] V238 _)⟩
  refine w_is [(1, 161), (1, x), (1, y), (0, 1), (0, (b : Int)), (0, (dg f_x)), (3, 0)] hK rfl rfl rfl ?_
  have lp14 : ∀ (n_ : Nat) (q_ r_ : Pl k) (R1 : Int → Option (Pl k)) (w6 : AV) (N14 : Mem), (dg r_ + 1).toNat = n_ → (RS N14 k R1) → (R1 173 = some r_) → (R1 174 = some q_) → (DI 1 f_x f_y b q_ r_ (dg r_ - (b : Int))) → (Bd r_ 17) → ((∀ p : Int, p ≠ 170 → p ≠ 171 → p ≠ 172 → p ≠ 173 → p ≠ 174 → R1 p = R p)) → ((∀ a : Int, (∀ p : Int, isR p → a ≠ p) → N14 a = M a)) → Wp 198 (d + 2) 238 14 [(1, 161), (1, x), (1, y), (0, 1), (0, (b : Int)), (0, (dg r_)), w6] [] N14 (fun r_ M' => ∃ R' : Int → Option (Pl k), r_ = (4, 0) ∧ RS M' k R' ∧ (∀ a : Int, (∀ p : Int, isR p → a ≠ p) → M' a = M a) ∧ (∀ p : Int, p ≠ 170 → p ≠ 171 → p ≠ 172 → p ≠ 173 → p ≠ 174 → R' p = R p) ∧ R' 173 = some (dr 1 f_x f_y) ∧ R' 174 = some (dq 1 f_x f_y)) := by
    intro n_
    induction n_ using Nat.strongRecOn with
    | _ n_ ih14 =>
    intro q_ r_ R1 w6 N14 hm14 hC hr hq hD hb hG hS
    have br_ := dg_lt17 hb
    refine w_il hK rfl rfl ?_
    refine w_il hK rfl rfl ?_
    refine w_lt2 hK rfl (by omega) (by omega) (by omega) (by omega) (fun h16 => ?_) (fun h16 => ?_)
    · refine w_ret hK rfl rfl ?_
      have dv_ := dv_eq (hD.done (by omega) hyd_)
      rw [← dv_.1] at hq
      rw [← dv_.2] at hr
      exact ⟨R1, rfl, hC, hS, hG, hr, hq⟩
    · refine w_il hK rfl rfl ?_
      refine w_ne hK rfl (by omega) (by omega) (fun h18 => ?_) (fun h18 => ?_)
      · refine w_al hK rfl rfl ?_
        refine w_al hK rfl rfl ?_
        refine w_al hK rfl rfl ?_
        refine w_getr (n := 19) (v := 173) hK rfl rfl (by decide) (by decide) rfl rfl rfl rfl ?_
        refine w_il hK rfl rfl ?_
        refine w_ia hK rfl rfl (by decide) (by decide) (by omega) (by omega) ?_
        rw [show N14 173 (dg r_) = ((cf r_ (dg r_)).val : Int) from hC.atI ⟨(isR_of (p := 173) rfl), hr⟩ (by omega) (by omega)]
        refine w_al hK rfl rfl ?_
        refine w_getr (n := 7) (v := 165) hK rfl rfl (by decide) (by decide) rfl rfl rfl rfl ?_
        refine w_al hK rfl rfl ?_
        refine w_il hK rfl rfl ?_
        refine w_ria hK rfl hy.1 (by omega) (by omega) ?_
        rw [show N14 y (b : Int) = ((f_y b).val : Int) from hC.atz ⟨hy.1, ((hG y (by omega) (by omega) (by omega) (by omega) (by omega)).trans hy.2)⟩ (j := b) (by omega) (by omega)]
        have bl_ := el_I (f_y b)
        refine w_ia hK rfl rfl (by decide) (by decide) (by omega) (by omega) ?_
        rw [show N14 165 ((f_y b).val : Int) = ((iv (f_y b)).val : Int) from hC.F.v (f_y b)]
        refine w_call [(1, 161), (0, ((cf r_ (dg r_)).val : Int)), (0, ((iv (f_y b)).val : Int))] hK rfl rfl rfl rfl (Or.inr ⟨_, _, _, rfl, by decide, (by decide), rfl⟩) (r_mul hC.F (cf r_ (dg r_)) (iv (f_y b))) ?_
        rintro _ Mq ⟨rfl, e_⟩
        subst Mq
        have bv_ := el_I (ml (cf r_ (dg r_)) (iv (f_y b)))
        refine ⟨by show (0 : Nat) ≠ 9; decide, (?_ : Wp 198 _ 238 50 [(1, 161), (1, x), (1, y), (0, 1), (0, (b : Int)), (0, (dg r_)), w6] [(0, ((ml (cf r_ (dg r_)) (iv (f_y b))).val : Int)), (1, 161)] N14 _)⟩
        refine w_il hK rfl rfl ?_
        refine w_neg hK rfl (by omega) (by omega) ?_
        refine w_call [(1, 161), (0, ((ml (cf r_ (dg r_)) (iv (f_y b))).val : Int)), (0, (-(b : Int)))] hK rfl rfl rfl rfl (Or.inr ⟨_, _, _, rfl, by decide, (by decide), rfl⟩) (r_mapd hC.F (ml (cf r_ (dg r_)) (iv (f_y b))) (-(b : Int)) (by omega) (by omega)) ?_
        rintro _ Mq ⟨rfl, e_⟩
        subst Mq
        have bv_ := el_I (sgI (-(b : Int)) (ml (cf r_ (dg r_)) (iv (f_y b))))
        refine ⟨by show (0 : Nat) ≠ 9; decide, (?_ : Wp 198 _ 238 53 [(1, 161), (1, x), (1, y), (0, 1), (0, (b : Int)), (0, (dg r_)), w6] [(0, ((sgI (-(b : Int)) (ml (cf r_ (dg r_)) (iv (f_y b)))).val : Int))] N14 _)⟩
        refine w_is [(1, 161), (1, x), (1, y), (0, 1), (0, (b : Int)), (0, (dg r_)), (0, ((sgI (-(b : Int)) (ml (cf r_ (dg r_)) (iv (f_y b)))).val : Int))] hK rfl rfl rfl ?_
        refine w_al hK rfl rfl ?_
        refine w_getr (n := 20) (v := 174) hK rfl rfl (by decide) (by decide) rfl rfl rfl rfl ?_
        refine w_il hK rfl rfl ?_
        refine w_il hK rfl rfl ?_
        refine w_sub hK rfl (by omega) (by omega) ?_
        refine w_il hK rfl rfl ?_
        refine w_iat hK rfl rfl (by decide) (by decide) (by omega) (by omega) ?_
        refine w_al hK rfl rfl ?_
        refine w_getr (n := 17) (v := 171) hK rfl rfl (by decide) (by decide) rfl rfl rfl rfl ?_
        refine w_call [(1, 171)] hK rfl rfl rfl rfl (Or.inl rfl) (r_clear (RS.up hC ⟨(isR_of (p := 174) rfl), hq⟩ (j := (((dg r_) - (b : Int)).toNat)) (by omega) (by omega) (e := (sgI (-(b : Int)) (ml (cf r_ (dg r_)) (iv (f_y b))))) rfl) (isR_of (p := 171) rfl)) ?_
        rintro _ V239 ⟨P239, rfl, C239, S239, F239, f239_0⟩
        refine ⟨by decide, (?_ : Wp 198 _ 238 64 [(1, 161), (1, x), (1, y), (0, 1), (0, (b : Int)), (0, (dg r_)), (0, ((sgI (-(b : Int)) (ml (cf r_ (dg r_)) (iv (f_y b)))).val : Int))] [] V239 _)⟩
        refine w_al hK rfl rfl ?_
        refine w_getr (n := 17) (v := 171) hK rfl rfl (by decide) (by decide) rfl rfl rfl rfl ?_
        refine w_il hK rfl rfl ?_
        refine w_il hK rfl rfl ?_
        refine w_sub hK rfl (by omega) (by omega) ?_
        refine w_il hK rfl rfl ?_
        refine w_iat hK rfl rfl (by decide) (by decide) (by omega) (by omega) ?_
        have mo_ : dg (up1 pz ((dg r_) - (b : Int)).toNat (sgI (-(b : Int)) (ml (cf r_ (dg r_)) (iv (f_y b))))) ≤ ((((dg r_) - (b : Int)).toNat : Nat) : Int) := mono_le (sgI (-(b : Int)) (ml (cf r_ (dg r_)) (iv (f_y b)))) (j := ((dg r_) - (b : Int)).toNat) (by omega)
        refine w_il hK rfl rfl ?_
        refine w_ne hK rfl (by omega) (by omega) (fun h72 => ?_) (fun h72 => ?_)
        · refine w_al hK rfl rfl ?_
          refine w_al hK rfl rfl ?_
          refine w_al hK rfl rfl ?_
          refine w_getr (n := 17) (v := 171) hK rfl rfl (by decide) (by decide) rfl rfl rfl rfl ?_
          refine w_al hK rfl rfl ?_
          refine w_getr (n := 18) (v := 172) hK rfl rfl (by decide) (by decide) rfl rfl rfl rfl ?_
          refine w_call [(1, 161), (1, y), (1, 171), (1, 172)] hK rfl rfl rfl rfl (Or.inr ⟨_, _, _, rfl, by decide, (by decide), rfl⟩) (r_prod (RS.up C239 ⟨(isR_of (p := 171) rfl), f239_0⟩ (j := (((dg r_) - (b : Int)).toNat)) (by omega) (by omega) (e := (sgI (-(b : Int)) (ml (cf r_ (dg r_)) (iv (f_y b))))) rfl) ⟨hy.1, ((pu_ne (P := P239) (f := up1 pz (((dg r_) - (b : Int)).toNat) (sgI (-(b : Int)) (ml (cf r_ (dg r_)) (iv (f_y b))))) (show y ≠ 171 by omega)).trans ((F239 y (by omega)).trans ((pu_ne (P := R1) (f := up1 q_ (((dg r_) - (b : Int)).toNat) (sgI (-(b : Int)) (ml (cf r_ (dg r_)) (iv (f_y b))))) (show y ≠ 174 by omega)).trans ((hG y (by omega) (by omega) (by omega) (by omega) (by omega)).trans hy.2))))⟩ ⟨(isR_of (p := 171) rfl), pu_eq⟩ (isR_of (p := 172) rfl) (by omega) (by omega) (by omega) (by omega)) ?_
          rintro _ V240 ⟨P240, rfl, C240, S240, F240, f240_0⟩
          refine ⟨by decide, (?_ : Wp 198 _ 238 88 [(1, 161), (1, x), (1, y), (0, 1), (0, (b : Int)), (0, (dg r_)), (0, ((sgI (-(b : Int)) (ml (cf r_ (dg r_)) (iv (f_y b)))).val : Int))] [] V240 _)⟩
          refine w_al hK rfl rfl ?_
          refine w_al hK rfl rfl ?_
          refine w_getr (n := 18) (v := 172) hK rfl rfl (by decide) (by decide) rfl rfl rfl rfl ?_
          refine w_al hK rfl rfl ?_
          refine w_getr (n := 19) (v := 173) hK rfl rfl (by decide) (by decide) rfl rfl rfl rfl ?_
          refine w_call [(1, 161), (1, 172), (1, 173)] hK rfl rfl rfl rfl (Or.inr ⟨_, _, _, rfl, by decide, (by decide), rfl⟩) (r_less C240 ⟨(isR_of (p := 172) rfl), f240_0⟩ ⟨(isR_of (p := 173) rfl), ((F240 173 (by omega) (by omega)).trans ((pu_ne (P := P239) (f := up1 pz (((dg r_) - (b : Int)).toNat) (sgI (-(b : Int)) (ml (cf r_ (dg r_)) (iv (f_y b))))) (show 173 ≠ 171 by omega)).trans ((F239 173 (by omega)).trans ((pu_ne (P := R1) (f := up1 q_ (((dg r_) - (b : Int)).toNat) (sgI (-(b : Int)) (ml (cf r_ (dg r_)) (iv (f_y b))))) (show 173 ≠ 174 by omega)).trans hr))))⟩ (by omega)) ?_
          rintro _ V241 ⟨P241, rfl, C241, S241, F241, f241_0⟩
          refine ⟨by decide, (?_ : Wp 198 _ 238 94 [(1, 161), (1, x), (1, y), (0, 1), (0, (b : Int)), (0, (dg r_)), (0, ((sgI (-(b : Int)) (ml (cf r_ (dg r_)) (iv (f_y b)))).val : Int))] [] V241 _)⟩
          have hD2_ := hD.behind (by decide) (by omega) (by omega) hyd_ (c := (sgI (-(b : Int)) (ml (cf r_ (dg r_)) (iv (f_y b))))) (by rw [show dg r_ - (b : Int) + (b : Int) = dg r_ by omega])
          have hb2_ : Bd (sbp r_ (mlp f_y (up1 pz (((dg r_) - (b : Int)).toNat) (sgI (-(b : Int)) (ml (cf r_ (dg r_)) (iv (f_y b))))))) 17 := fun j_ hj_ => hD2_.2.2.2 j_ (by omega)
          have hD3_ : dg (sbp r_ (mlp f_y (up1 pz (((dg r_) - (b : Int)).toNat) (sgI (-(b : Int)) (ml (cf r_ (dg r_)) (iv (f_y b))))))) ≤ (dg r_ - (b : Int)) - 1 + (b : Int) ∧ DI 1 f_x f_y b (up1 q_ (((dg r_) - (b : Int)).toNat) (sgI (-(b : Int)) (ml (cf r_ (dg r_)) (iv (f_y b))))) (sbp r_ (mlp f_y (up1 pz (((dg r_) - (b : Int)).toNat) (sgI (-(b : Int)) (ml (cf r_ (dg r_)) (iv (f_y b))))))) (dg (sbp r_ (mlp f_y (up1 pz (((dg r_) - (b : Int)).toNat) (sgI (-(b : Int)) (ml (cf r_ (dg r_)) (iv (f_y b))))))) - (b : Int)) := hD2_.deg (hb2_.mono (by decide)) (by omega)
          refine w_il hK rfl rfl ?_
          refine w_ne hK rfl (by omega) (by omega) (fun h95 => ?_) (fun h95 => ?_)
          · refine w_al hK rfl rfl ?_
            refine w_getr (n := 19) (v := 173) hK rfl rfl (by decide) (by decide) rfl rfl rfl rfl ?_
            have dI_ : -1 ≤ dg (sbp r_ (mlp f_y (up1 pz (((dg r_) - (b : Int)).toNat) (sgI (-(b : Int)) (ml (cf r_ (dg r_)) (iv (f_y b))))))) ∧ dg (sbp r_ (mlp f_y (up1 pz (((dg r_) - (b : Int)).toNat) (sgI (-(b : Int)) (ml (cf r_ (dg r_)) (iv (f_y b))))))) ≤ 47 := C241.dI ⟨(isR_of (p := 173) rfl), f241_0⟩
            refine w_call [(1, 173)] hK rfl rfl rfl rfl (Or.inl rfl) (r_deg C241 ⟨(isR_of (p := 173) rfl), f241_0⟩) ?_
            rintro _ Mq ⟨rfl, e_⟩
            subst Mq
            refine ⟨by show (0 : Nat) ≠ 9; decide, (?_ : Wp 198 _ 238 100 [(1, 161), (1, x), (1, y), (0, 1), (0, (b : Int)), (0, (dg r_)), (0, ((sgI (-(b : Int)) (ml (cf r_ (dg r_)) (iv (f_y b)))).val : Int))] [(0, (dg (sbp r_ (mlp f_y (up1 pz (((dg r_) - (b : Int)).toNat) (sgI (-(b : Int)) (ml (cf r_ (dg r_)) (iv (f_y b)))))))))] V241 _)⟩
            refine w_is [(1, 161), (1, x), (1, y), (0, 1), (0, (b : Int)), (0, (dg (sbp r_ (mlp f_y (up1 pz (((dg r_) - (b : Int)).toNat) (sgI (-(b : Int)) (ml (cf r_ (dg r_)) (iv (f_y b))))))))), (0, ((sgI (-(b : Int)) (ml (cf r_ (dg r_)) (iv (f_y b)))).val : Int))] hK rfl rfl rfl ?_
            refine w_goto hK rfl ?_
            exact ih14 _ (by omega) _ _ _ (0, ((sgI (-(b : Int)) (ml (cf r_ (dg r_)) (iv (f_y b)))).val : Int)) V241 rfl C241 f241_0 ((F241 174 (by omega)).trans ((F240 174 (by omega) (by omega)).trans ((pu_ne (P := P239) (f := up1 pz (((dg r_) - (b : Int)).toNat) (sgI (-(b : Int)) (ml (cf r_ (dg r_)) (iv (f_y b))))) (show 174 ≠ 171 by omega)).trans ((F239 174 (by omega)).trans pu_eq)))) hD3_.2 hb2_ (fun p pn170_ pn171_ pn172_ pn173_ pn174_ => ((F241 p pn173_).trans ((F240 p pn170_ pn172_).trans ((pu_ne (P := P239) (f := up1 pz (((dg r_) - (b : Int)).toNat) (sgI (-(b : Int)) (ml (cf r_ (dg r_)) (iv (f_y b))))) (show p ≠ 171 by omega)).trans ((F239 p pn171_).trans ((pu_ne (P := R1) (f := up1 q_ (((dg r_) - (b : Int)).toNat) (sgI (-(b : Int)) (ml (cf r_ (dg r_)) (iv (f_y b))))) (show p ≠ 174 by omega)).trans (hG p pn170_ pn171_ pn172_ pn173_ pn174_))))))) (fun a nr_ => ((S241 a nr_).trans ((S240 a nr_).trans ((up_row (nr_ 171 (isR_of (p := 171) rfl))).trans ((S239 a nr_).trans ((up_row (nr_ 174 (isR_of (p := 174) rfl))).trans (hS a nr_)))))))
          · refine w_goto hK rfl ?_
            refine w_ret hK rfl rfl ?_
            have dv_ := dv_eq (hD2_.done (by omega) hyd_)
            exact ⟨_, rfl, C241, (fun a nr_ => ((S241 a nr_).trans ((S240 a nr_).trans ((up_row (nr_ 171 (isR_of (p := 171) rfl))).trans ((S239 a nr_).trans ((up_row (nr_ 174 (isR_of (p := 174) rfl))).trans (hS a nr_))))))), (fun p pn170_ pn171_ pn172_ pn173_ pn174_ => ((F241 p pn173_).trans ((F240 p pn170_ pn172_).trans ((pu_ne (P := P239) (f := up1 pz (((dg r_) - (b : Int)).toNat) (sgI (-(b : Int)) (ml (cf r_ (dg r_)) (iv (f_y b))))) (show p ≠ 171 by omega)).trans ((F239 p pn171_).trans ((pu_ne (P := R1) (f := up1 q_ (((dg r_) - (b : Int)).toNat) (sgI (-(b : Int)) (ml (cf r_ (dg r_)) (iv (f_y b))))) (show p ≠ 174 by omega)).trans (hG p pn170_ pn171_ pn172_ pn173_ pn174_))))))), f241_0.trans (congrArg some dv_.2.symm), ((F241 174 (by omega)).trans ((F240 174 (by omega) (by omega)).trans ((pu_ne (P := P239) (f := up1 pz (((dg r_) - (b : Int)).toNat) (sgI (-(b : Int)) (ml (cf r_ (dg r_)) (iv (f_y b))))) (show 174 ≠ 171 by omega)).trans ((F239 174 (by omega)).trans pu_eq)))).trans (congrArg some dv_.1.symm)⟩
        · exfalso; omega
      · exfalso; omega
  exact lp14 _ _ _ _ (3, 0) V238 rfl C238 ((F238 173 (by omega)).trans f237_0) f238_0 (DI.start (fun j_ hj_ => dg_z (bx17.mono (by decide)) (by omega))) bx17 (fun p pn170_ pn171_ pn172_ pn173_ pn174_ => ((F238 p pn174_).trans (F237 p pn173_))) (fun a nr_ => ((S238 a nr_).trans (S237 a nr_)))
theorem r_div {d : Nat} {M : Mem} {k : Nat} {R : Int → Option (Pl k)} (C : RS M k R) {x : Int} {f_x : Pl k} (hx : isK R x f_x) {y : Int} {f_y : Pl k} (hy : isK R y f_y) (s : Int) (hs : s = 0 ∨ s = 1) (hx_ : x < 170 ∨ 174 < x) (hy_ : y < 170 ∨ 174 < y) (hy0 : 0 ≤ dg f_y) (bx17 : Bd f_x 17) (by17 : Bd f_y 17) : Ct 198 (d + 2) 238 [(1, 161), (1, x), (1, y), (0, s)] M (fun r_ M' => ∃ R' : Int → Option (Pl k), r_ = (4, 0) ∧ RS M' k R' ∧ (∀ a : Int, (∀ p : Int, isR p → a ≠ p) → M' a = M a) ∧ (∀ p : Int, p ≠ 170 → p ≠ 171 → p ≠ 172 → p ≠ 173 → p ≠ 174 → R' p = R p) ∧ R' 173 = some (dr s f_x f_y) ∧ R' 174 = some (dq s f_x f_y)) := by
  have hyb : dg f_y = ((dg f_y).toNat : Int) := by omega
  rcases hs with e | e
  · subst e; exact r_div0 C hx hy hx_ hy_ hyb bx17 by17
  · subst e; exact r_div1 C hx hy hx_ hy_ hyb bx17 by17
