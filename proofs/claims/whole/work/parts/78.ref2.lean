/-! the reference: rows -/
/-- of s below i, of h from there on -/
def mxu {k : Nat} (s h : Pl k) (i : Nat) : Pl k := fun l => if l < i then s l else h l
theorem mxu_0 {k : Nat} {s h : Pl k} : mxu s h 0 = h := by funext l; unfold mxu; rw [if_neg (by omega)]
theorem mxu_at {k : Nat} {s h : Pl k} {i : Nat} : mxu s h i i = h i := by unfold mxu; rw [if_neg (by omega)]
theorem mxu_up {k : Nat} {s h : Pl k} {i : Nat} {v : El k} (hv : v = s i) : up1 (mxu s h i) i v = mxu s h (i + 1) := by
  funext l
  unfold up1 mxu
  by_cases e : l = i
  · rw [if_pos e, if_pos (by omega), hv, e]
  · rw [if_neg e]
    by_cases e2 : l < i
    · rw [if_pos e2, if_pos (by omega)]
    · rw [if_neg e2, if_neg (by omega)]
theorem mxu_end {k : Nat} {s h : Pl k} {n : Nat} (hs : Bd s n) (hh : Bd h n) : mxu s h n = s := by
  funext l
  unfold mxu
  by_cases e : l < n
  · rw [if_pos e]
  · rw [if_neg e, hs l (by omega), hh l (by omega)]
/-- the reference's PLACES -/
def PM (M : Mem) {k : Nat} (pl : Nat → Pl k) : Prop := ∀ i : Nat, i < 6 → (∀ j : Nat, j < 9 → M 167 (9 * (i : Int) + (j : Int)) = ((pl i j).val : Int)) ∧ Bd (pl i) 9
theorem PM.keep {M N : Mem} {k : Nat} {pl : Nat → Pl k} (h : PM M pl) (e : N 167 = M 167) : PM N pl := fun i hi => by rw [e]; exact h i hi
theorem PM.put {M N : Mem} {k : Nat} {pl : Nat → Pl k} (h : PM M pl) {i : Nat} (hi : i < 6) {f : Pl k} (hb : Bd f 9) (h1 : ∀ j : Nat, j < 9 → N 167 (9 * (i : Int) + (j : Int)) = ((f j).val : Int)) (h2 : ∀ y : Int, (y < 9 * (i : Int) ∨ 9 * (i : Int) + 9 ≤ y) → N 167 y = M 167 y) : PM N (fup pl i f) := fun l hl => by
  by_cases e : l = i
  · rw [e, fup_eq]; exact ⟨h1, hb⟩
  · rw [fup_ne e]
    exact ⟨fun j hj => by rw [h2 _ (by omega)]; exact (h l hl).1 j hj, (h l hl).2⟩
theorem wgt_s {k : Nat} {f : Pl k} {n : Nat} : wgt f (n + 1) = if f n = z0 then wgt f n else wgt f n + 1 := rfl
set_option maxRecDepth 100000 in
theorem r_deg {d : Nat} {M : Mem} {k : Nat} {R : Int → Option (Pl k)} (C : RS M k R) {x : Int} {f_x : Pl k} (hx : isK R x f_x) : Ct 198 (d) 222 [(1, x)] M (fun r M' => r = (0, dg f_x) ∧ M' = M) := by
  have hK : cd 222 = k222 := rfl
  show Wp 198 _ 222 0 [(1, x), (3, 0)] [] M _
  refine w_ic hK rfl ?_
  refine w_is [(1, x), (0, 47)] hK rfl rfl rfl ?_
  have lp2 : ∀ (n_ : Nat) (i : Int), (i + 1).toNat = n_ → (-1 ≤ i ∧ i ≤ 47) → (∀ j : Nat, i < (j : Int) → f_x j = z0) → Wp 198 (d) 222 2 [(1, x), (0, i)] [] M (fun r M' => r = (0, dg f_x) ∧ M' = M) := by
    intro n_
    induction n_ using Nat.strongRecOn with
    | _ n_ ih2 =>
    intro i  hm2 hi hz
    refine w_il hK rfl rfl ?_
    refine w_lt hK rfl (by omega) (by omega) (fun h3 => ?_) (fun h3 => ?_)
    · refine w_il hK rfl rfl ?_
      refine w_iret hK rfl rfl ?_
      exact ⟨congrArg (Prod.mk 0) (dg_eq ((C.bd hx).mono (by decide)) ⟨by omega, hz, fun q_ => by omega⟩).symm, rfl⟩
    · refine w_al hK rfl rfl ?_
      refine w_il hK rfl rfl ?_
      refine w_ria hK rfl hx.1 (by omega) (by omega) ?_
      rw [show M x i = ((cf f_x i).val : Int) from C.atI hx (by omega) (by omega)]
      have bc_ := el_I (cf f_x i)
      refine w_ne hK rfl (by omega) (by omega) (fun h7 => ?_) (fun h7 => ?_)
      · refine w_il hK rfl rfl ?_
        refine w_iret hK rfl rfl ?_
        exact ⟨congrArg (Prod.mk 0) (dg_eq ((C.bd hx).mono (by decide)) ⟨by omega, hz, fun q_ e_ => h7 (by rw [cf_toNat h3, e_, z0_val]; rfl)⟩).symm, rfl⟩
      · refine w_inc [(1, x), (0, (i + (-1)))] hK rfl rfl rfl (by omega) (by omega) rfl ?_
        refine w_goto hK rfl ?_
        exact ih2 _ (by omega) (i - 1)  rfl (by omega) (fun j_ hj_ => by
          by_cases q_ : (j_ : Int) = i
          · rw [show j_ = i.toNat by omega, ← cf_toNat (f := f_x) h3]; exact z0_iff.mpr (by omega)
          · exact hz j_ (by omega))
  exact lp2 _ 47  rfl (by omega) (fun j hj => C.bd hx j (by omega))
set_option maxRecDepth 100000 in
theorem r_clear {d : Nat} {M : Mem} {k : Nat} {R : Int → Option (Pl k)} (C : RS M k R) {x : Int} (hx : isR x) : Ct 198 (d) 217 [(1, x)] M (fun r_ M' => ∃ R' : Int → Option (Pl k), r_ = (4, 0) ∧ RS M' k R' ∧ (∀ a : Int, (∀ p : Int, isR p → a ≠ p) → M' a = M a) ∧ (∀ p : Int, p ≠ x → R' p = R p) ∧ R' x = some (pz)) := by
  have hK : cd 217 = k217 := rfl
  show Wp 198 _ 217 0 [(1, x), (3, 0)] [] M _
  refine w_ic hK rfl ?_
  refine w_is [(1, x), (0, 0)] hK rfl rfl rfl ?_
  have lp2 : ∀ (n_ : Nat) (i : Nat) (N2 : Mem), 49 - i = n_ → (i ≤ 48) → (∀ j : Nat, j < i → N2 x (j : Int) = 0) → (∀ a : Int, a ≠ x → N2 a = M a) → Wp 198 (d) 217 2 [(1, x), (0, (i : Int))] [] N2 (fun r_ M' => ∃ R' : Int → Option (Pl k), r_ = (4, 0) ∧ RS M' k R' ∧ (∀ a : Int, (∀ p : Int, isR p → a ≠ p) → M' a = M a) ∧ (∀ p : Int, p ≠ x → R' p = R p) ∧ R' x = some (pz)) := by
    intro n_
    induction n_ using Nat.strongRecOn with
    | _ n_ ih2 =>
    intro i N2 hm2 hi h1_ hS
    refine w_il hK rfl rfl ?_
    refine w_ic hK rfl ?_
    refine w_ge2 hK rfl (by omega) (by omega) (by omega) (by omega) (fun h4 => ?_) (fun h4 => ?_)
    · refine w_ret hK rfl rfl ?_
      exact ⟨pu R x pz, rfl, C.wr hx (fun j hj => (h1_ j (by omega)).trans el0.symm) (fun _ _ => rfl) hS, (fun a nr_ => hS a (nr_ x hx)), (fun p h => pu_ne h), pu_eq⟩
    · refine w_al hK rfl rfl ?_
      refine w_il hK rfl rfl ?_
      refine w_ic hK rfl ?_
      refine w_riat hK rfl hx (by omega) (by omega) ?_
      refine w_inc [(1, x), (0, ((i : Int) + 1))] hK rfl rfl rfl (by omega) (by omega) rfl ?_
      refine w_goto hK rfl ?_
      exact ih2 _ (by omega) (i + 1) (up N2 x (i : Int) 0) rfl (by omega) (fun j hj => by
        by_cases q_ : j = i
        · rw [q_]; exact up_eq
        · exact (up_ne2 (by omega)).trans (h1_ j (by omega))) (fun a ha => (up_row ha).trans (hS a ha))
  exact lp2 _ 0 M rfl (by omega) (fun j hj => by omega) (fun a ha => rfl)
set_option maxRecDepth 100000 in
theorem r_copy {d : Nat} {M : Mem} {k : Nat} {R : Int → Option (Pl k)} (C : RS M k R) {x : Int} {f_x : Pl k} (hx : isK R x f_x) {y : Int} (hy : isR y) (hxy : x ≠ y) : Ct 198 (d) 235 [(1, x), (1, y)] M (fun r_ M' => ∃ R' : Int → Option (Pl k), r_ = (4, 0) ∧ RS M' k R' ∧ (∀ a : Int, (∀ p : Int, isR p → a ≠ p) → M' a = M a) ∧ (∀ p : Int, p ≠ y → R' p = R p) ∧ R' y = some (f_x)) := by
  have hK : cd 235 = k235 := rfl
  show Wp 198 _ 235 0 [(1, x), (1, y), (3, 0)] [] M _
  refine w_ic hK rfl ?_
  refine w_is [(1, x), (1, y), (0, 0)] hK rfl rfl rfl ?_
  have lp2 : ∀ (n_ : Nat) (i : Nat) (N2 : Mem), 49 - i = n_ → (i ≤ 48) → (∀ j : Nat, j < i → N2 y (j : Int) = ((f_x j).val : Int)) → (∀ a : Int, a ≠ y → N2 a = M a) → Wp 198 (d) 235 2 [(1, x), (1, y), (0, (i : Int))] [] N2 (fun r_ M' => ∃ R' : Int → Option (Pl k), r_ = (4, 0) ∧ RS M' k R' ∧ (∀ a : Int, (∀ p : Int, isR p → a ≠ p) → M' a = M a) ∧ (∀ p : Int, p ≠ y → R' p = R p) ∧ R' y = some (f_x)) := by
    intro n_
    induction n_ using Nat.strongRecOn with
    | _ n_ ih2 =>
    intro i N2 hm2 hi h1_ hS
    refine w_il hK rfl rfl ?_
    refine w_ic hK rfl ?_
    refine w_ge2 hK rfl (by omega) (by omega) (by omega) (by omega) (fun h4 => ?_) (fun h4 => ?_)
    · refine w_ret hK rfl rfl ?_
      exact ⟨pu R y f_x, rfl, C.wr hy (fun j hj => h1_ j (by omega)) (C.bd hx) hS, (fun a nr_ => hS a (nr_ y hy)), (fun p h => pu_ne h), pu_eq⟩
    · refine w_al hK rfl rfl ?_
      refine w_il hK rfl rfl ?_
      refine w_al hK rfl rfl ?_
      refine w_il hK rfl rfl ?_
      refine w_ria hK rfl hx.1 (by omega) (by omega) ?_
      rw [show N2 x (i : Int) = ((f_x i).val : Int) from ((congrFun (hS x hxy) (i : Int)).trans (C.atz hx (j := i) (by omega) (by omega)))]
      refine w_riat hK rfl hy (by omega) (by omega) ?_
      refine w_inc [(1, x), (1, y), (0, ((i : Int) + 1))] hK rfl rfl rfl (by omega) (by omega) rfl ?_
      refine w_goto hK rfl ?_
      exact ih2 _ (by omega) (i + 1) (up N2 y (i : Int) ((f_x i).val : Int)) rfl (by omega) (fun j hj => by
        by_cases q_ : j = i
        · rw [q_]; exact up_eq
        · exact (up_ne2 (by omega)).trans (h1_ j (by omega))) (fun a ha => (up_row ha).trans (hS a ha))
  exact lp2 _ 0 M rfl (by omega) (fun j hj => by omega) (fun a ha => rfl)
set_option maxRecDepth 100000 in
theorem r_load {d : Nat} {M : Mem} {k : Nat} {R : Int → Option (Pl k)} (C : RS M k R) {pl : Nat → Pl k} (hpl : PM M pl) (t : Nat) (ht : t < 6) {y : Int} (hy : isR y) : Ct 198 (d + 1) 224 [(1, 161), (0, (t : Int)), (1, y)] M (fun r_ M' => ∃ R' : Int → Option (Pl k), r_ = (4, 0) ∧ RS M' k R' ∧ (∀ a : Int, (∀ p : Int, isR p → a ≠ p) → M' a = M a) ∧ (∀ p : Int, p ≠ y → R' p = R p) ∧ R' y = some (pl t)) := by
  have hK : cd 224 = k224 := rfl
  show Wp 198 _ 224 0 [(1, 161), (0, (t : Int)), (1, y), (3, 0)] [] M _
  refine w_al hK rfl rfl ?_
  refine w_call [(1, y)] hK rfl rfl rfl rfl (Or.inl rfl) (r_clear C hy) ?_
  rintro _ V229 ⟨P229, rfl, C229, S229, F229, f229_0⟩
  refine ⟨by decide, (?_ : Wp 198 _ 224 2 [(1, 161), (0, (t : Int)), (1, y), (3, 0)] [] V229 _)⟩
  refine w_ic hK rfl ?_
  refine w_is [(1, 161), (0, (t : Int)), (1, y), (0, 0)] hK rfl rfl rfl ?_
  have lp4 : ∀ (n_ : Nat) (i : Nat) (R1 : Int → Option (Pl k)) (N4 : Mem), 10 - i = n_ → (i ≤ 9) → (RS N4 k R1) → (R1 y = some (mxu (pl t) pz i)) → ((∀ p : Int, p ≠ y → R1 p = R p)) → ((∀ a : Int, (∀ p : Int, isR p → a ≠ p) → N4 a = M a)) → Wp 198 (d + 1) 224 4 [(1, 161), (0, (t : Int)), (1, y), (0, (i : Int))] [] N4 (fun r_ M' => ∃ R' : Int → Option (Pl k), r_ = (4, 0) ∧ RS M' k R' ∧ (∀ a : Int, (∀ p : Int, isR p → a ≠ p) → M' a = M a) ∧ (∀ p : Int, p ≠ y → R' p = R p) ∧ R' y = some (pl t)) := by
    intro n_
    induction n_ using Nat.strongRecOn with
    | _ n_ ih4 =>
    intro i R1 N4 hm4 hi hC hy1 hG hS
    refine w_il hK rfl rfl ?_
    refine w_ic hK rfl ?_
    refine w_gt2 hK rfl (by omega) (by omega) (by omega) (by omega) (fun h6 => ?_) (fun h6 => ?_)
    · refine w_ret hK rfl rfl ?_
      have e_ : i = 9 := by omega
      rw [e_, mxu_end (hpl t ht).2 (show Bd (pz : Pl k) 9 from fun _ _ => rfl)] at hy1
      exact ⟨R1, rfl, hC, hS, hG, hy1⟩
    · refine w_al hK rfl rfl ?_
      refine w_il hK rfl rfl ?_
      refine w_al hK rfl rfl ?_
      refine w_getr (n := 9) (v := 167) hK rfl rfl (by decide) (by decide) rfl rfl rfl rfl ?_
      refine w_ic hK rfl ?_
      refine w_il hK rfl rfl ?_
      refine w_mul hK rfl (by omega) (by omega) ?_
      refine w_il hK rfl rfl ?_
      refine w_add hK rfl (by omega) (by omega) ?_
      refine w_ia hK rfl rfl (by decide) (by decide) (by omega) (by omega) ?_
      rw [show N4 167 ((9 * (t : Int)) + (i : Int)) = ((pl t i).val : Int) from ((congrFun (hS 167 (notR rfl)) ((9 * (t : Int)) + (i : Int))).trans ((hpl t ht).1 i (by omega)))]
      refine w_riat hK rfl hy (by omega) (by omega) ?_
      refine w_inc [(1, 161), (0, (t : Int)), (1, y), (0, ((i : Int) + 1))] hK rfl rfl rfl (by omega) (by omega) rfl ?_
      refine w_goto hK rfl ?_
      exact ih4 _ (by omega) (i + 1) _ (up N4 y (i : Int) ((pl t i).val : Int)) rfl (by omega) (RS.up hC ⟨hy, hy1⟩ (j := i) (by omega) (by omega) (e := (pl t i)) rfl) (pu_eq.trans (congrArg some (mxu_up (by first | rfl | (rw [mxu_at]; rfl))))) (fun p pny_ => ((pu_ne (P := R1) (f := up1 (mxu (pl t) pz i) i (pl t i)) (show p ≠ y by omega)).trans (hG p pny_))) (fun a nr_ => ((up_row (nr_ y hy)).trans (hS a nr_)))
  exact lp4 _ 0 _ V229 rfl (by omega) C229 (f229_0.trans (congrArg some mxu_0.symm)) (fun p pny_ => (F229 p pny_)) (fun a nr_ => (S229 a nr_))
set_option maxRecDepth 100000 in
theorem r_adds {d : Nat} {M : Mem} {k : Nat} {R : Int → Option (Pl k)} (C : RS M k R) {x : Int} {f_x : Pl k} (hx : isK R x f_x) {y : Int} {f_y : Pl k} (hy : isK R y f_y) (hxy : x ≠ y) : Ct 198 (d + 1) 228 [(1, 161), (1, x), (1, y)] M (fun r_ M' => ∃ R' : Int → Option (Pl k), r_ = (4, 0) ∧ RS M' k R' ∧ (∀ a : Int, (∀ p : Int, isR p → a ≠ p) → M' a = M a) ∧ (∀ p : Int, p ≠ y → R' p = R p) ∧ R' y = some (adp f_y f_x)) := by
  have hK : cd 228 = k228 := rfl
  have bd_ : Bd (adp f_y f_x) 48 := Bd_adp' (C.bd hy) (C.bd hx)
  show Wp 198 _ 228 0 [(1, 161), (1, x), (1, y), (3, 0)] [] M _
  refine w_ic hK rfl ?_
  refine w_is [(1, 161), (1, x), (1, y), (0, 0)] hK rfl rfl rfl ?_
  have lp2 : ∀ (n_ : Nat) (i : Nat) (R1 : Int → Option (Pl k)) (N2 : Mem), 49 - i = n_ → (i ≤ 48) → (RS N2 k R1) → (R1 y = some (mxu (adp f_y f_x) f_y i)) → ((∀ p : Int, p ≠ y → R1 p = R p)) → ((∀ a : Int, (∀ p : Int, isR p → a ≠ p) → N2 a = M a)) → Wp 198 (d + 1) 228 2 [(1, 161), (1, x), (1, y), (0, (i : Int))] [] N2 (fun r_ M' => ∃ R' : Int → Option (Pl k), r_ = (4, 0) ∧ RS M' k R' ∧ (∀ a : Int, (∀ p : Int, isR p → a ≠ p) → M' a = M a) ∧ (∀ p : Int, p ≠ y → R' p = R p) ∧ R' y = some (adp f_y f_x)) := by
    intro n_
    induction n_ using Nat.strongRecOn with
    | _ n_ ih2 =>
    intro i R1 N2 hm2 hi hC hy1 hG hS
    refine w_il hK rfl rfl ?_
    refine w_ic hK rfl ?_
    refine w_ge2 hK rfl (by omega) (by omega) (by omega) (by omega) (fun h4 => ?_) (fun h4 => ?_)
    · refine w_ret hK rfl rfl ?_
      have e_ : i = 48 := by omega
      rw [e_, mxu_end bd_ (C.bd hy)] at hy1
      exact ⟨R1, rfl, hC, hS, hG, hy1⟩
    · refine w_al hK rfl rfl ?_
      refine w_il hK rfl rfl ?_
      refine w_al hK rfl rfl ?_
      refine w_al hK rfl rfl ?_
      refine w_il hK rfl rfl ?_
      refine w_ria hK rfl hy.1 (by omega) (by omega) ?_
      rw [show N2 y (i : Int) = (((mxu (adp f_y f_x) f_y i) i).val : Int) from hC.atz ⟨hy.1, hy1⟩ (j := i) (by omega) (by omega)]
      refine w_al hK rfl rfl ?_
      refine w_il hK rfl rfl ?_
      refine w_ria hK rfl hx.1 (by omega) (by omega) ?_
      rw [show N2 x (i : Int) = ((f_x i).val : Int) from hC.atz ⟨hx.1, ((hG x (by omega)).trans hx.2)⟩ (j := i) (by omega) (by omega)]
      refine w_call [(1, 161), (0, (((mxu (adp f_y f_x) f_y i) i).val : Int)), (0, ((f_x i).val : Int))] hK rfl rfl rfl rfl (Or.inr ⟨_, _, _, rfl, by decide, (by decide), rfl⟩) (r_add hC.F ((mxu (adp f_y f_x) f_y i) i) (f_x i)) ?_
      rintro _ Mq ⟨rfl, e_⟩
      subst Mq
      have bv_ := el_I (ad ((mxu (adp f_y f_x) f_y i) i) (f_x i))
      refine ⟨by show (0 : Nat) ≠ 9; decide, (?_ : Wp 198 _ 228 15 [(1, 161), (1, x), (1, y), (0, (i : Int))] [(0, ((ad ((mxu (adp f_y f_x) f_y i) i) (f_x i)).val : Int)), (0, (i : Int)), (1, y)] N2 _)⟩
      refine w_riat hK rfl hy.1 (by omega) (by omega) ?_
      refine w_inc [(1, 161), (1, x), (1, y), (0, ((i : Int) + 1))] hK rfl rfl rfl (by omega) (by omega) rfl ?_
      refine w_goto hK rfl ?_
      exact ih2 _ (by omega) (i + 1) _ (up N2 y (i : Int) ((ad ((mxu (adp f_y f_x) f_y i) i) (f_x i)).val : Int)) rfl (by omega) (RS.up hC ⟨hy.1, hy1⟩ (j := i) (by omega) (by omega) (e := (ad ((mxu (adp f_y f_x) f_y i) i) (f_x i))) rfl) (pu_eq.trans (congrArg some (mxu_up (by first | rfl | (rw [mxu_at]; rfl))))) (fun p pny_ => ((pu_ne (P := R1) (f := up1 (mxu (adp f_y f_x) f_y i) i (ad ((mxu (adp f_y f_x) f_y i) i) (f_x i))) (show p ≠ y by omega)).trans (hG p pny_))) (fun a nr_ => ((up_row (nr_ y hy.1)).trans (hS a nr_)))
  exact lp2 _ 0 R M rfl (by omega) C (hy.2.trans (congrArg some mxu_0.symm)) (fun p h => rfl) (fun a nr_ => rfl)
set_option maxRecDepth 100000 in
theorem r_less {d : Nat} {M : Mem} {k : Nat} {R : Int → Option (Pl k)} (C : RS M k R) {x : Int} {f_x : Pl k} (hx : isK R x f_x) {y : Int} {f_y : Pl k} (hy : isK R y f_y) (hxy : x ≠ y) : Ct 198 (d + 1) 230 [(1, 161), (1, x), (1, y)] M (fun r_ M' => ∃ R' : Int → Option (Pl k), r_ = (4, 0) ∧ RS M' k R' ∧ (∀ a : Int, (∀ p : Int, isR p → a ≠ p) → M' a = M a) ∧ (∀ p : Int, p ≠ y → R' p = R p) ∧ R' y = some (sbp f_y f_x)) := by
  have hK : cd 230 = k230 := rfl
  have bd_ : Bd (sbp f_y f_x) 48 := Bd_sbp' (C.bd hy) (C.bd hx)
  show Wp 198 _ 230 0 [(1, 161), (1, x), (1, y), (3, 0)] [] M _
  refine w_ic hK rfl ?_
  refine w_is [(1, 161), (1, x), (1, y), (0, 0)] hK rfl rfl rfl ?_
  have lp2 : ∀ (n_ : Nat) (i : Nat) (R1 : Int → Option (Pl k)) (N2 : Mem), 49 - i = n_ → (i ≤ 48) → (RS N2 k R1) → (R1 y = some (mxu (sbp f_y f_x) f_y i)) → ((∀ p : Int, p ≠ y → R1 p = R p)) → ((∀ a : Int, (∀ p : Int, isR p → a ≠ p) → N2 a = M a)) → Wp 198 (d + 1) 230 2 [(1, 161), (1, x), (1, y), (0, (i : Int))] [] N2 (fun r_ M' => ∃ R' : Int → Option (Pl k), r_ = (4, 0) ∧ RS M' k R' ∧ (∀ a : Int, (∀ p : Int, isR p → a ≠ p) → M' a = M a) ∧ (∀ p : Int, p ≠ y → R' p = R p) ∧ R' y = some (sbp f_y f_x)) := by
    intro n_
    induction n_ using Nat.strongRecOn with
    | _ n_ ih2 =>
    intro i R1 N2 hm2 hi hC hy1 hG hS
    refine w_il hK rfl rfl ?_
    refine w_ic hK rfl ?_
    refine w_ge2 hK rfl (by omega) (by omega) (by omega) (by omega) (fun h4 => ?_) (fun h4 => ?_)
    · refine w_ret hK rfl rfl ?_
      have e_ : i = 48 := by omega
      rw [e_, mxu_end bd_ (C.bd hy)] at hy1
      exact ⟨R1, rfl, hC, hS, hG, hy1⟩
    · refine w_al hK rfl rfl ?_
      refine w_il hK rfl rfl ?_
      refine w_al hK rfl rfl ?_
      refine w_al hK rfl rfl ?_
      refine w_il hK rfl rfl ?_
      refine w_ria hK rfl hy.1 (by omega) (by omega) ?_
      rw [show N2 y (i : Int) = (((mxu (sbp f_y f_x) f_y i) i).val : Int) from hC.atz ⟨hy.1, hy1⟩ (j := i) (by omega) (by omega)]
      refine w_al hK rfl rfl ?_
      refine w_getr (n := 6) (v := 164) hK rfl rfl (by decide) (by decide) rfl rfl rfl rfl ?_
      refine w_al hK rfl rfl ?_
      refine w_il hK rfl rfl ?_
      refine w_ria hK rfl hx.1 (by omega) (by omega) ?_
      rw [show N2 x (i : Int) = ((f_x i).val : Int) from hC.atz ⟨hx.1, ((hG x (by omega)).trans hx.2)⟩ (j := i) (by omega) (by omega)]
      have bl_ := el_I (f_x i)
      refine w_ia hK rfl rfl (by decide) (by decide) (by omega) (by omega) ?_
      rw [show N2 164 ((f_x i).val : Int) = ((ng (f_x i)).val : Int) from hC.F.n (f_x i)]
      refine w_call [(1, 161), (0, (((mxu (sbp f_y f_x) f_y i) i).val : Int)), (0, ((ng (f_x i)).val : Int))] hK rfl rfl rfl rfl (Or.inr ⟨_, _, _, rfl, by decide, (by decide), rfl⟩) (r_add hC.F ((mxu (sbp f_y f_x) f_y i) i) (ng (f_x i))) ?_
      rintro _ Mq ⟨rfl, e_⟩
      subst Mq
      have bv_ := el_I (ad ((mxu (sbp f_y f_x) f_y i) i) (ng (f_x i)))
      refine ⟨by show (0 : Nat) ≠ 9; decide, (?_ : Wp 198 _ 230 18 [(1, 161), (1, x), (1, y), (0, (i : Int))] [(0, ((ad ((mxu (sbp f_y f_x) f_y i) i) (ng (f_x i))).val : Int)), (0, (i : Int)), (1, y)] N2 _)⟩
      refine w_riat hK rfl hy.1 (by omega) (by omega) ?_
      refine w_inc [(1, 161), (1, x), (1, y), (0, ((i : Int) + 1))] hK rfl rfl rfl (by omega) (by omega) rfl ?_
      refine w_goto hK rfl ?_
      exact ih2 _ (by omega) (i + 1) _ (up N2 y (i : Int) ((ad ((mxu (sbp f_y f_x) f_y i) i) (ng (f_x i))).val : Int)) rfl (by omega) (RS.up hC ⟨hy.1, hy1⟩ (j := i) (by omega) (by omega) (e := (ad ((mxu (sbp f_y f_x) f_y i) i) (ng (f_x i)))) rfl) (pu_eq.trans (congrArg some (mxu_up (by first | rfl | (rw [mxu_at]; rfl))))) (fun p pny_ => ((pu_ne (P := R1) (f := up1 (mxu (sbp f_y f_x) f_y i) i (ad ((mxu (sbp f_y f_x) f_y i) i) (ng (f_x i)))) (show p ≠ y by omega)).trans (hG p pny_))) (fun a nr_ => ((up_row (nr_ y hy.1)).trans (hS a nr_)))
  exact lp2 _ 0 R M rfl (by omega) C (hy.2.trans (congrArg some mxu_0.symm)) (fun p h => rfl) (fun a nr_ => rfl)
set_option maxRecDepth 100000 in
theorem r_scal {d : Nat} {M : Mem} {k : Nat} {R : Int → Option (Pl k)} (C : RS M k R) (c : El k) {x : Int} {f_x : Pl k} (hx : isK R x f_x) : Ct 198 (d + 1) 232 [(1, 161), (0, (c.val : Int)), (1, x)] M (fun r_ M' => ∃ R' : Int → Option (Pl k), r_ = (4, 0) ∧ RS M' k R' ∧ (∀ a : Int, (∀ p : Int, isR p → a ≠ p) → M' a = M a) ∧ (∀ p : Int, p ≠ x → R' p = R p) ∧ R' x = some (scl c f_x)) := by
  have hK : cd 232 = k232 := rfl
  have bd_ : Bd (scl c f_x) 48 := Bd_scl c (C.bd hx)
  show Wp 198 _ 232 0 [(1, 161), (0, (c.val : Int)), (1, x), (3, 0)] [] M _
  refine w_ic hK rfl ?_
  refine w_is [(1, 161), (0, (c.val : Int)), (1, x), (0, 0)] hK rfl rfl rfl ?_
  have lp2 : ∀ (n_ : Nat) (i : Nat) (R1 : Int → Option (Pl k)) (N2 : Mem), 49 - i = n_ → (i ≤ 48) → (RS N2 k R1) → (R1 x = some (mxu (scl c f_x) f_x i)) → ((∀ p : Int, p ≠ x → R1 p = R p)) → ((∀ a : Int, (∀ p : Int, isR p → a ≠ p) → N2 a = M a)) → Wp 198 (d + 1) 232 2 [(1, 161), (0, (c.val : Int)), (1, x), (0, (i : Int))] [] N2 (fun r_ M' => ∃ R' : Int → Option (Pl k), r_ = (4, 0) ∧ RS M' k R' ∧ (∀ a : Int, (∀ p : Int, isR p → a ≠ p) → M' a = M a) ∧ (∀ p : Int, p ≠ x → R' p = R p) ∧ R' x = some (scl c f_x)) := by
    intro n_
    induction n_ using Nat.strongRecOn with
    | _ n_ ih2 =>
    intro i R1 N2 hm2 hi hC hy1 hG hS
    refine w_il hK rfl rfl ?_
    refine w_ic hK rfl ?_
    refine w_ge2 hK rfl (by omega) (by omega) (by omega) (by omega) (fun h4 => ?_) (fun h4 => ?_)
    · refine w_ret hK rfl rfl ?_
      have e_ : i = 48 := by omega
      rw [e_, mxu_end bd_ (C.bd hx)] at hy1
      exact ⟨R1, rfl, hC, hS, hG, hy1⟩
    · refine w_al hK rfl rfl ?_
      refine w_il hK rfl rfl ?_
      refine w_al hK rfl rfl ?_
      refine w_il hK rfl rfl ?_
      refine w_al hK rfl rfl ?_
      refine w_il hK rfl rfl ?_
      refine w_ria hK rfl hx.1 (by omega) (by omega) ?_
      rw [show N2 x (i : Int) = (((mxu (scl c f_x) f_x i) i).val : Int) from hC.atz ⟨hx.1, hy1⟩ (j := i) (by omega) (by omega)]
      refine w_call [(1, 161), (0, (c.val : Int)), (0, (((mxu (scl c f_x) f_x i) i).val : Int))] hK rfl rfl rfl rfl (Or.inr ⟨_, _, _, rfl, by decide, (by decide), rfl⟩) (r_mul hC.F c ((mxu (scl c f_x) f_x i) i)) ?_
      rintro _ Mq ⟨rfl, e_⟩
      subst Mq
      have bv_ := el_I (ml c ((mxu (scl c f_x) f_x i) i))
      refine ⟨by show (0 : Nat) ≠ 9; decide, (?_ : Wp 198 _ 232 13 [(1, 161), (0, (c.val : Int)), (1, x), (0, (i : Int))] [(0, ((ml c ((mxu (scl c f_x) f_x i) i)).val : Int)), (0, (i : Int)), (1, x)] N2 _)⟩
      refine w_riat hK rfl hx.1 (by omega) (by omega) ?_
      refine w_inc [(1, 161), (0, (c.val : Int)), (1, x), (0, ((i : Int) + 1))] hK rfl rfl rfl (by omega) (by omega) rfl ?_
      refine w_goto hK rfl ?_
      exact ih2 _ (by omega) (i + 1) _ (up N2 x (i : Int) ((ml c ((mxu (scl c f_x) f_x i) i)).val : Int)) rfl (by omega) (RS.up hC ⟨hx.1, hy1⟩ (j := i) (by omega) (by omega) (e := (ml c ((mxu (scl c f_x) f_x i) i))) rfl) (pu_eq.trans (congrArg some (mxu_up (by first | rfl | (rw [mxu_at]; rfl))))) (fun p pnx_ => ((pu_ne (P := R1) (f := up1 (mxu (scl c f_x) f_x i) i (ml c ((mxu (scl c f_x) f_x i) i))) (show p ≠ x by omega)).trans (hG p pnx_))) (fun a nr_ => ((up_row (nr_ x hx.1)).trans (hS a nr_)))
  exact lp2 _ 0 R M rfl (by omega) C (hx.2.trans (congrArg some mxu_0.symm)) (fun p h => rfl) (fun a nr_ => rfl)
set_option maxRecDepth 100000 in
theorem r_scb {d : Nat} {M : Mem} {k : Nat} {R : Int → Option (Pl k)} (C : RS M k R) {x : Int} {f_x : Pl k} (hx : isK R x f_x) (c : El k) : Ct 198 (d + 1) 243 [(1, 161), (1, x), (0, (c.val : Int))] M (fun r_ M' => ∃ R' : Int → Option (Pl k), r_ = (4, 0) ∧ RS M' k R' ∧ (∀ a : Int, (∀ p : Int, isR p → a ≠ p) → M' a = M a) ∧ (∀ p : Int, p ≠ x → R' p = R p) ∧ R' x = some (scb f_x c)) := by
  have hK : cd 243 = k243 := rfl
  have bd_ : Bd (scb f_x c) 48 := Bd_scb c (C.bd hx)
  show Wp 198 _ 243 0 [(1, 161), (1, x), (0, (c.val : Int)), (3, 0)] [] M _
  refine w_ic hK rfl ?_
  refine w_is [(1, 161), (1, x), (0, (c.val : Int)), (0, 0)] hK rfl rfl rfl ?_
  have lp2 : ∀ (n_ : Nat) (i : Nat) (R1 : Int → Option (Pl k)) (N2 : Mem), 49 - i = n_ → (i ≤ 48) → (RS N2 k R1) → (R1 x = some (mxu (scb f_x c) f_x i)) → ((∀ p : Int, p ≠ x → R1 p = R p)) → ((∀ a : Int, (∀ p : Int, isR p → a ≠ p) → N2 a = M a)) → Wp 198 (d + 1) 243 2 [(1, 161), (1, x), (0, (c.val : Int)), (0, (i : Int))] [] N2 (fun r_ M' => ∃ R' : Int → Option (Pl k), r_ = (4, 0) ∧ RS M' k R' ∧ (∀ a : Int, (∀ p : Int, isR p → a ≠ p) → M' a = M a) ∧ (∀ p : Int, p ≠ x → R' p = R p) ∧ R' x = some (scb f_x c)) := by
    intro n_
    induction n_ using Nat.strongRecOn with
    | _ n_ ih2 =>
    intro i R1 N2 hm2 hi hC hy1 hG hS
    refine w_il hK rfl rfl ?_
    refine w_ic hK rfl ?_
    refine w_ge2 hK rfl (by omega) (by omega) (by omega) (by omega) (fun h4 => ?_) (fun h4 => ?_)
    · refine w_ret hK rfl rfl ?_
      have e_ : i = 48 := by omega
      rw [e_, mxu_end bd_ (C.bd hx)] at hy1
      exact ⟨R1, rfl, hC, hS, hG, hy1⟩
    · refine w_al hK rfl rfl ?_
      refine w_il hK rfl rfl ?_
      refine w_al hK rfl rfl ?_
      refine w_al hK rfl rfl ?_
      refine w_il hK rfl rfl ?_
      refine w_ria hK rfl hx.1 (by omega) (by omega) ?_
      rw [show N2 x (i : Int) = (((mxu (scb f_x c) f_x i) i).val : Int) from hC.atz ⟨hx.1, hy1⟩ (j := i) (by omega) (by omega)]
      refine w_al hK rfl rfl ?_
      refine w_il hK rfl rfl ?_
      refine w_il hK rfl rfl ?_
      refine w_call [(1, 161), (0, (c.val : Int)), (0, (i : Int))] hK rfl rfl rfl rfl (Or.inr ⟨_, _, _, rfl, by decide, (by decide), rfl⟩) (r_mapN hC.F c i (by omega)) ?_
      rintro _ Mq ⟨rfl, e_⟩
      subst Mq
      have bv_ := el_I (sg i c)
      refine ⟨by show (0 : Nat) ≠ 9; decide, (?_ : Wp 198 _ 243 15 [(1, 161), (1, x), (0, (c.val : Int)), (0, (i : Int))] [(0, ((sg i c).val : Int)), (0, (((mxu (scb f_x c) f_x i) i).val : Int)), (1, 161), (0, (i : Int)), (1, x)] N2 _)⟩
      refine w_call [(1, 161), (0, (((mxu (scb f_x c) f_x i) i).val : Int)), (0, ((sg i c).val : Int))] hK rfl rfl rfl rfl (Or.inr ⟨_, _, _, rfl, by decide, (by decide), rfl⟩) (r_mul hC.F ((mxu (scb f_x c) f_x i) i) (sg i c)) ?_
      rintro _ Mq ⟨rfl, e_⟩
      subst Mq
      have bv_ := el_I (ml ((mxu (scb f_x c) f_x i) i) (sg i c))
      refine ⟨by show (0 : Nat) ≠ 9; decide, (?_ : Wp 198 _ 243 16 [(1, 161), (1, x), (0, (c.val : Int)), (0, (i : Int))] [(0, ((ml ((mxu (scb f_x c) f_x i) i) (sg i c)).val : Int)), (0, (i : Int)), (1, x)] N2 _)⟩
      refine w_riat hK rfl hx.1 (by omega) (by omega) ?_
      refine w_inc [(1, 161), (1, x), (0, (c.val : Int)), (0, ((i : Int) + 1))] hK rfl rfl rfl (by omega) (by omega) rfl ?_
      refine w_goto hK rfl ?_
      exact ih2 _ (by omega) (i + 1) _ (up N2 x (i : Int) ((ml ((mxu (scb f_x c) f_x i) i) (sg i c)).val : Int)) rfl (by omega) (RS.up hC ⟨hx.1, hy1⟩ (j := i) (by omega) (by omega) (e := (ml ((mxu (scb f_x c) f_x i) i) (sg i c))) rfl) (pu_eq.trans (congrArg some (mxu_up (by first | rfl | (rw [mxu_at]; rfl))))) (fun p pnx_ => ((pu_ne (P := R1) (f := up1 (mxu (scb f_x c) f_x i) i (ml ((mxu (scb f_x c) f_x i) i) (sg i c))) (show p ≠ x by omega)).trans (hG p pnx_))) (fun a nr_ => ((up_row (nr_ x hx.1)).trans (hS a nr_)))
  exact lp2 _ 0 R M rfl (by omega) C (hx.2.trans (congrArg some mxu_0.symm)) (fun p h => rfl) (fun a nr_ => rfl)
set_option maxRecDepth 100000 in
theorem r_store {d : Nat} {M : Mem} {k : Nat} {R : Int → Option (Pl k)} (C : RS M k R) {pl : Nat → Pl k} (hpl : PM M pl) {x : Int} {f_x : Pl k} (hx : isK R x f_x) (t : Nat) (ht : t < 6) (b9 : Bd f_x 9) : Ct 198 (d + 1) 221 [(1, 161), (1, x), (0, (t : Int))] M (fun r_ M' => r_ = (0, dg f_x) ∧ RS M' k R ∧ PM M' (fup pl t f_x) ∧ (∀ a : Int, a ≠ 167 → M' a = M a)) := by
  have hK : cd 221 = k221 := rfl
  show Wp 198 _ 221 0 [(1, 161), (1, x), (0, (t : Int)), (3, 0)] [] M _
  refine w_ic hK rfl ?_
  refine w_is [(1, 161), (1, x), (0, (t : Int)), (0, 0)] hK rfl rfl rfl ?_
  have lp2 : ∀ (n_ : Nat) (i : Nat) (N2 : Mem), 10 - i = n_ → (i ≤ 9) → (∀ j : Nat, j < i → N2 167 (9 * (t : Int) + (j : Int)) = ((f_x j).val : Int)) → (∀ y : Int, (y < 9 * (t : Int) ∨ 9 * (t : Int) + 9 ≤ y) → N2 167 y = M 167 y) → (∀ a : Int, a ≠ 167 → N2 a = M a) → Wp 198 (d + 1) 221 2 [(1, 161), (1, x), (0, (t : Int)), (0, (i : Int))] [] N2 (fun r_ M' => r_ = (0, dg f_x) ∧ RS M' k R ∧ PM M' (fup pl t f_x) ∧ (∀ a : Int, a ≠ 167 → M' a = M a)) := by
    intro n_
    induction n_ using Nat.strongRecOn with
    | _ n_ ih2 =>
    intro i N2 hm2 hi h1_ h2_ hS
    refine w_il hK rfl rfl ?_
    refine w_ic hK rfl ?_
    refine w_gt2 hK rfl (by omega) (by omega) (by omega) (by omega) (fun h4 => ?_) (fun h4 => ?_)
    · refine w_al hK rfl rfl ?_
      have dI_ : -1 ≤ dg f_x ∧ dg f_x ≤ 47 := (RS.congr C (fun a_ ha_ => hS a_ (RSd_ne ha_ (by decide) (notR rfl)))).dI hx
      refine w_call [(1, x)] hK rfl rfl rfl rfl (Or.inl rfl) (r_deg (RS.congr C (fun a_ ha_ => hS a_ (RSd_ne ha_ (by decide) (notR rfl)))) hx) ?_
      rintro _ Mq ⟨rfl, e_⟩
      subst Mq
      refine ⟨by show (0 : Nat) ≠ 9; decide, (?_ : Wp 198 _ 221 20 [(1, 161), (1, x), (0, (t : Int)), (0, (i : Int))] [(0, (dg f_x))] N2 _)⟩
      refine w_iret hK rfl rfl ?_
      have e_ : i = 9 := by omega
      subst e_
      exact ⟨rfl, (RS.congr C (fun a_ ha_ => hS a_ (RSd_ne ha_ (by decide) (notR rfl)))), hpl.put ht b9 h1_ h2_, hS⟩
    · refine w_al hK rfl rfl ?_
      refine w_getr (n := 9) (v := 167) hK rfl rfl (by decide) (by decide) rfl rfl rfl rfl ?_
      refine w_ic hK rfl ?_
      refine w_il hK rfl rfl ?_
      refine w_mul hK rfl (by omega) (by omega) ?_
      refine w_il hK rfl rfl ?_
      refine w_add hK rfl (by omega) (by omega) ?_
      refine w_al hK rfl rfl ?_
      refine w_il hK rfl rfl ?_
      refine w_ria hK rfl hx.1 (by omega) (by omega) ?_
      rw [show N2 x (i : Int) = ((f_x i).val : Int) from (RS.congr C (fun a_ ha_ => hS a_ (RSd_ne ha_ (by decide) (notR rfl)))).atz hx (j := i) (by omega) (by omega)]
      refine w_iat hK rfl rfl (by decide) (by decide) (by omega) (by omega) ?_
      refine w_inc [(1, 161), (1, x), (0, (t : Int)), (0, ((i : Int) + 1))] hK rfl rfl rfl (by omega) (by omega) rfl ?_
      refine w_goto hK rfl ?_
      exact ih2 _ (by omega) (i + 1) (up N2 167 ((9 * (t : Int)) + (i : Int)) ((f_x i).val : Int)) rfl (by omega) (fun j hj => by
        by_cases q_ : j = i
        · rw [q_]; exact up_eq
        · exact (up_ne2 (by omega)).trans (h1_ j (by omega))) (fun y hy => (up_ne2 (by omega)).trans (h2_ y hy)) (fun a ha => (up_row ha).trans (hS a ha))
  exact lp2 _ 0 M rfl (by omega) (fun j hj => by omega) (fun y hy => rfl) (fun a ha => rfl)
set_option maxRecDepth 100000 in
theorem r_nums {d : Nat} {M : Mem} {k : Nat} {R : Int → Option (Pl k)} (C : RS M k R) {x : Int} {f_x : Pl k} (hx : isK R x f_x) : Ct 198 (d) 250 [(1, x)] M (fun r M' => r = (0, wgt f_x 48) ∧ M' = M) := by
  have hK : cd 250 = k250 := rfl
  show Wp 198 _ 250 0 [(1, x), (3, 0), (3, 0)] [] M _
  refine w_ic hK rfl ?_
  refine w_is [(1, x), (0, 0), (3, 0)] hK rfl rfl rfl ?_
  refine w_ic hK rfl ?_
  refine w_is [(1, x), (0, 0), (0, 0)] hK rfl rfl rfl ?_
  have lp4 : ∀ (n_ : Nat) (i : Nat), 49 - i = n_ → (i ≤ 48) → Wp 198 (d) 250 4 [(1, x), (0, (wgt f_x i)), (0, (i : Int))] [] M (fun r M' => r = (0, wgt f_x 48) ∧ M' = M) := by
    intro n_
    induction n_ using Nat.strongRecOn with
    | _ n_ ih4 =>
    intro i  hm4 hi
    have wI_ := wgt_I f_x i
    refine w_il hK rfl rfl ?_
    refine w_ic hK rfl ?_
    refine w_ge2 hK rfl (by omega) (by omega) (by omega) (by omega) (fun h6 => ?_) (fun h6 => ?_)
    · refine w_il hK rfl rfl ?_
      refine w_iret hK rfl rfl ?_
      have e_ : i = 48 := by omega
      subst e_
      exact ⟨rfl, rfl⟩
    · refine w_il hK rfl rfl ?_
      refine w_al hK rfl rfl ?_
      refine w_il hK rfl rfl ?_
      refine w_ria hK rfl hx.1 (by omega) (by omega) ?_
      rw [show M x (i : Int) = ((f_x i).val : Int) from C.atz hx (j := i) (by omega) (by omega)]
      have be_ := el_I (f_x i)
      refine w_eq hK rfl (by omega) (by omega) (fun h11 => ?_) (fun h11 => ?_)
      · refine w_ic hK rfl ?_
        refine w_add hK rfl (by omega) (by omega) ?_
        refine w_is [(1, x), (0, ((wgt f_x i) + 0)), (0, (i : Int))] hK rfl rfl rfl ?_
        refine w_inc [(1, x), (0, ((wgt f_x i) + 0)), (0, ((i : Int) + 1))] hK rfl rfl rfl (by omega) (by omega) rfl ?_
        refine w_goto hK rfl ?_
        rw [show ((wgt f_x i) + 0) = wgt f_x (i + 1) from by rw [wgt_s]; rw [if_pos (z0_iff.mpr (by omega))]; rw [Int.add_zero]]
        exact ih4 _ (by omega) (i + 1)  rfl (by omega)
      · refine w_ic hK rfl ?_
        refine w_goto hK rfl ?_
        refine w_add hK rfl (by omega) (by omega) ?_
        refine w_is [(1, x), (0, ((wgt f_x i) + 1)), (0, (i : Int))] hK rfl rfl rfl ?_
        refine w_inc [(1, x), (0, ((wgt f_x i) + 1)), (0, ((i : Int) + 1))] hK rfl rfl rfl (by omega) (by omega) rfl ?_
        refine w_goto hK rfl ?_
        rw [show ((wgt f_x i) + 1) = wgt f_x (i + 1) from by rw [wgt_s]; rw [if_neg (fun q_ => by rw [q_, z0_val] at h11; exact h11 rfl)]]
        exact ih4 _ (by omega) (i + 1)  rfl (by omega)
  exact lp4 _ 0  rfl (by omega)
set_option maxRecDepth 100000 in
theorem r_low {d : Nat} {M : Mem} {k : Nat} {R : Int → Option (Pl k)} (C : RS M k R) {x : Int} {f_x : Pl k} (hx : isK R x f_x) : Ct 198 (d) 251 [(1, x)] M (fun r M' => r = (0, if lowF f_x 48 = -1 then -2 else lowF f_x 48) ∧ M' = M) := by
  have hK : cd 251 = k251 := rfl
  show Wp 198 _ 251 0 [(1, x), (3, 0)] [] M _
  refine w_ic hK rfl ?_
  refine w_is [(1, x), (0, 0)] hK rfl rfl rfl ?_
  have lp2 : ∀ (n_ : Nat) (i : Nat), 49 - i = n_ → (i ≤ 48) → (∀ j : Nat, j < i → f_x j = z0) → Wp 198 (d) 251 2 [(1, x), (0, (i : Int))] [] M (fun r M' => r = (0, if lowF f_x 48 = -1 then -2 else lowF f_x 48) ∧ M' = M) := by
    intro n_
    induction n_ using Nat.strongRecOn with
    | _ n_ ih2 =>
    intro i  hm2 hi hz
    refine w_il hK rfl rfl ?_
    refine w_ic hK rfl ?_
    refine w_ge2 hK rfl (by omega) (by omega) (by omega) (by omega) (fun h4 => ?_) (fun h4 => ?_)
    · refine w_ic hK rfl ?_
      refine w_iret hK rfl rfl ?_
      have e_ : i = 48 := by omega
      subst e_
      rw [if_pos (lowF_none hz)]
      exact ⟨rfl, rfl⟩
    · refine w_al hK rfl rfl ?_
      refine w_il hK rfl rfl ?_
      refine w_ria hK rfl hx.1 (by omega) (by omega) ?_
      rw [show M x (i : Int) = ((f_x i).val : Int) from C.atz hx (j := i) (by omega) (by omega)]
      have be_ := el_I (f_x i)
      refine w_eq hK rfl (by omega) (by omega) (fun h8 => ?_) (fun h8 => ?_)
      · refine w_inc [(1, x), (0, ((i : Int) + 1))] hK rfl rfl rfl (by omega) (by omega) rfl ?_
        refine w_goto hK rfl ?_
        exact ih2 _ (by omega) (i + 1)  rfl (by omega) (fun j hj => by
          by_cases q_ : j = i
          · rw [q_]; exact z0_iff.mpr (by omega)
          · exact hz j (by omega))
      · refine w_il hK rfl rfl ?_
        refine w_iret hK rfl rfl ?_
        have el_ := lowF_at hz (fun q_ => by rw [q_, z0_val] at h8; exact h8 rfl) (n := 48) (by omega)
        rw [el_, if_neg (by omega)]
        exact ⟨rfl, rfl⟩
  exact lp2 _ 0  rfl (by omega) (fun j hj => by omega)
set_option maxRecDepth 100000 in
theorem r_same {d : Nat} {M : Mem} {k : Nat} {R : Int → Option (Pl k)} (C : RS M k R) {x : Int} {f_x : Pl k} (hx : isK R x f_x) {y : Int} {f_y : Pl k} (hy : isK R y f_y) : Ct 198 (d) 257 [(1, x), (1, y)] M (fun r M' => r = (0, bz (f_x = f_y)) ∧ M' = M) := by
  have hK : cd 257 = k257 := rfl
  show Wp 198 _ 257 0 [(1, x), (1, y), (3, 0)] [] M _
  refine w_ic hK rfl ?_
  refine w_is [(1, x), (1, y), (0, 0)] hK rfl rfl rfl ?_
  have lp2 : ∀ (n_ : Nat) (i : Nat), 49 - i = n_ → (i ≤ 48) → (∀ j : Nat, j < i → f_x j = f_y j) → Wp 198 (d) 257 2 [(1, x), (1, y), (0, (i : Int))] [] M (fun r M' => r = (0, bz (f_x = f_y)) ∧ M' = M) := by
    intro n_
    induction n_ using Nat.strongRecOn with
    | _ n_ ih2 =>
    intro i  hm2 hi hz
    refine w_il hK rfl rfl ?_
    refine w_ic hK rfl ?_
    refine w_ge2 hK rfl (by omega) (by omega) (by omega) (by omega) (fun h4 => ?_) (fun h4 => ?_)
    · refine w_ic hK rfl ?_
      refine w_zret hK rfl rfl (Or.inr rfl) ?_
      rw [bz_pos (by
        funext j
        by_cases q_ : j < 48
        · exact hz j (by omega)
        · rw [C.bd hx j (by omega), C.bd hy j (by omega)])]
      exact ⟨rfl, rfl⟩
    · refine w_al hK rfl rfl ?_
      refine w_il hK rfl rfl ?_
      refine w_ria hK rfl hx.1 (by omega) (by omega) ?_
      rw [show M x (i : Int) = ((f_x i).val : Int) from C.atz hx (j := i) (by omega) (by omega)]
      refine w_al hK rfl rfl ?_
      refine w_il hK rfl rfl ?_
      refine w_ria hK rfl hy.1 (by omega) (by omega) ?_
      rw [show M y (i : Int) = ((f_y i).val : Int) from C.atz hy (j := i) (by omega) (by omega)]
      have be_ := el_I (f_x i)
      have be2_ := el_I (f_y i)
      refine w_eq2 hK rfl (by omega) (by omega) (by omega) (by omega) (fun h11 => ?_) (fun h11 => ?_)
      · refine w_inc [(1, x), (1, y), (0, ((i : Int) + 1))] hK rfl rfl rfl (by omega) (by omega) rfl ?_
        refine w_goto hK rfl ?_
        exact ih2 _ (by omega) (i + 1)  rfl (by omega) (fun j hj => by
          by_cases q_ : j = i
          · rw [q_]; exact Fin.ext (by omega)
          · exact hz j (by omega))
      · refine w_ic hK rfl ?_
        refine w_zret hK rfl rfl (Or.inl rfl) ?_
        rw [bz_neg (fun q_ => h11 (by rw [q_]))]
        exact ⟨rfl, rfl⟩
  exact lp2 _ 0  rfl (by omega) (fun j hj => by omega)
