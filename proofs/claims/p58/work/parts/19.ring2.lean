/-! contracts: Ring, products and divisions -/
theorem pu_comm {k : Nat} {P : Int → Option (Pl k)} {a b : Int} {f g : Pl k} (h : a ≠ b) : pu (pu P a f) b g = pu (pu P b g) a f := by
  funext q
  unfold pu
  by_cases e : q = b
  · rw [if_pos e, if_neg (by omega), if_pos e]
  · rw [if_neg e, if_neg e]
theorem pu_same {k : Nat} {P : Int → Option (Pl k)} {p : Int} {f : Pl k} (h : P p = some f) : pu P p f = P := by
  funext q
  by_cases e : q = p
  · subst e; rw [pu_eq, h]
  · rw [pu_ne e]
/-- s above i, h from i down -/
def mx {k : Nat} (s h : Pl k) (i : Int) : Pl k := fun j => if i < (j : Int) then s j else h j
theorem mx_all {k : Nat} {s h : Pl k} {i : Int} (hi : i < 0) : mx s h i = s := by funext j; unfold mx; rw [if_pos (by omega)]
theorem mx_none {k : Nat} {s h : Pl k} {i : Int} (hh : ∀ j : Nat, i < (j : Int) → s j = h j) : mx s h i = h := by
  funext j
  unfold mx
  split
  · exact hh j (by assumption)
  · rfl
theorem mx_at {k : Nat} {s h : Pl k} {i : Int} : cf (mx s h i) i = cf h i := by
  unfold cf
  split
  · unfold mx; rw [if_neg (by omega)]
  · rfl
theorem mx_up {k : Nat} {s h : Pl k} {i : Int} {w : El k} (h0 : 0 ≤ i) (hw : w = s i.toNat) : up1 (mx s h i) i.toNat w = mx s h (i - 1) := by
  funext j
  unfold up1 mx
  by_cases e : j = i.toNat
  · subst e; rw [if_pos rfl, if_pos (by omega), hw]
  · rw [if_neg e]
    by_cases e2 : i < (j : Int)
    · rw [if_pos e2, if_pos (by omega)]
    · rw [if_neg e2, if_neg (by omega)]
theorem sgI_toNat {k : Nat} {i : Int} (h : 0 ≤ i) (c : El k) : sgI i c = sg i.toNat c := by rw [← sgI_nat, Int.toNat_of_nonneg h]
set_option maxRecDepth 100000 in
theorem c_ahead {d : Nat} {M : Mem} {k : Nat} {P : Int → Option (Pl k)} (C : CS M k P) {r y : Int} {f_r : Pl k} (hr : isC P r f_r) {f_y : Pl k} (hy : isC P y f_y) (c : El k) (j : Int) (hne : y ≠ r) (h0 : 0 ≤ j) (hj : j + dg f_y ≤ 16) : Ct 198 (d + 2) 43 [(1, 7), (1, r), (0, (c.val : Int)), (0, j), (1, y)] M (fun r_ M' => r_ = (4, 0) ∧ CS M' k (pu P r (sbp f_r (mlp (mono c j.toNat) f_y))) ∧ NPS M M') := by
  have hK : cd 43 = k43 := rfl
  have dr_ := C.dI hr
  have dy := C.dI hy
  have bc := el_I c
  show Wp 198 _ 43 0 [(1, 7), (1, r), (0, (c.val : Int)), (0, j), (1, y), (3, 0), (3, 0)] [] M _
  refine w_al hK rfl rfl ?_
  refine w_pt hK rfl hy.1 ?_
  rw [show M y 1 = dg f_y from C.t hy]
  refine w_is [(1, 7), (1, r), (0, (c.val : Int)), (0, j), (1, y), (0, (dg f_y)), (3, 0)] hK rfl rfl rfl ?_
  have lp3 : ∀ (n_ : Nat) (i : Int) (w6 : AV) (N3 : Mem), (i + 1).toNat = n_ → (-1 ≤ i) → (i ≤ dg f_y) → (CS N3 k (pu P r (mx (sbp f_r (mlp (mono c j.toNat) f_y)) f_r (j + i)))) → (NPS M N3) → Wp 198 (d + 2) 43 3 [(1, 7), (1, r), (0, (c.val : Int)), (0, j), (1, y), (0, i), w6] [] N3 (fun r_ M' => r_ = (4, 0) ∧ CS M' k (pu P r (sbp f_r (mlp (mono c j.toNat) f_y))) ∧ NPS M M') := by
    intro n_
    induction n_ using Nat.strongRecOn with
    | _ n_ ih3 =>
    intro i w6 N3 hm3 hi1 hi2 hC hS
    refine w_il hK rfl rfl ?_
    refine w_lt hK rfl (by omega) (by omega) (fun h4 => ?_) (fun h4 => ?_)
    · refine w_ret hK rfl rfl ?_
      rw [show mx (sbp f_r (mlp (mono c j.toNat) f_y)) f_r (j + i) = sbp f_r (mlp (mono c j.toNat) f_y) from by
        funext n
        unfold mx
        by_cases q : j + i < (n : Int)
        · rw [if_pos q]
        · rw [if_neg q]
          show f_r n = ad (f_r n) (ng (mlp _ _ n))
          rw [mono_mlp, if_neg (by omega), ng_z, ad_zero]] at hC
      exact ⟨rfl, hC, hS⟩
    · refine w_al hK rfl rfl ?_
      refine w_getr (n := 0) (v := 1) hK rfl rfl (by decide) (by decide) rfl rfl rfl rfl ?_
      refine w_il hK rfl rfl ?_
      refine w_al hK rfl rfl ?_
      refine w_getr (n := 0) (v := 1) hK rfl rfl (by decide) (by decide) rfl rfl rfl rfl ?_
      refine w_al hK rfl rfl ?_
      refine w_il hK rfl rfl ?_
      refine w_call [(1, y), (0, i)] hK rfl rfl rfl rfl (Or.inr ⟨_, _, _, rfl, hy.1.nn, hy.1.lb, hy.1.o⟩) (c_at hC ⟨hy.1, ((pu_ne (P := P) (f := mx (sbp f_r (mlp (mono c j.toNat) f_y)) f_r (j + i)) (show y ≠ r by omega)).trans hy.2)⟩ i (by omega) (by omega)) ?_
      rintro _ Mq ⟨rfl, e_⟩
      subst Mq
      have bv_ := el_I (cf f_y i)
      refine ⟨by show (0 : Nat) ≠ 9; decide, (?_ : Wp 198 _ 43 13 [(1, 7), (1, r), (0, (c.val : Int)), (0, j), (1, y), (0, i), w6] [(0, ((cf f_y i).val : Int)), (1, 1), (0, (c.val : Int)), (1, 1)] N3 _)⟩
      refine w_il hK rfl rfl ?_
      refine w_call [(1, 1), (0, ((cf f_y i).val : Int)), (0, j)] hK rfl rfl rfl rfl (Or.inr ⟨_, _, _, rfl, by decide, (by decide), rfl⟩) (c_image (by decide) hC.F (cf f_y i) j (by omega) (by omega)) ?_
      rintro _ Mq ⟨rfl, e_⟩
      subst Mq
      have bv_ := el_I (sgI j (cf f_y i))
      refine ⟨by show (0 : Nat) ≠ 9; decide, (?_ : Wp 198 _ 43 15 [(1, 7), (1, r), (0, (c.val : Int)), (0, j), (1, y), (0, i), w6] [(0, ((sgI j (cf f_y i)).val : Int)), (0, (c.val : Int)), (1, 1)] N3 _)⟩
      refine w_call [(1, 1), (0, (c.val : Int)), (0, ((sgI j (cf f_y i)).val : Int))] hK rfl rfl rfl rfl (Or.inr ⟨_, _, _, rfl, by decide, (by decide), rfl⟩) (c_prod (by decide) hC.F c (sgI j (cf f_y i)) ) ?_
      rintro _ Mq ⟨rfl, e_⟩
      subst Mq
      have bv_ := el_I (ml c (sgI j (cf f_y i)))
      refine ⟨by show (0 : Nat) ≠ 9; decide, (?_ : Wp 198 _ 43 16 [(1, 7), (1, r), (0, (c.val : Int)), (0, j), (1, y), (0, i), w6] [(0, ((ml c (sgI j (cf f_y i))).val : Int))] N3 _)⟩
      refine w_is [(1, 7), (1, r), (0, (c.val : Int)), (0, j), (1, y), (0, i), (0, ((ml c (sgI j (cf f_y i))).val : Int))] hK rfl rfl rfl ?_
      refine w_al hK rfl rfl ?_
      refine w_il hK rfl rfl ?_
      refine w_il hK rfl rfl ?_
      refine w_add hK rfl (by omega) (by omega) ?_
      refine w_al hK rfl rfl ?_
      refine w_getr (n := 0) (v := 1) hK rfl rfl (by decide) (by decide) rfl rfl rfl rfl ?_
      refine w_al hK rfl rfl ?_
      refine w_il hK rfl rfl ?_
      refine w_il hK rfl rfl ?_
      refine w_add hK rfl (by omega) (by omega) ?_
      refine w_call [(1, r), (0, (j + i))] hK rfl rfl rfl rfl (Or.inr ⟨_, _, _, rfl, hr.1.nn, hr.1.lb, hr.1.o⟩) (c_at hC ⟨hr.1, pu_eq⟩ (j + i) (by omega) (by omega)) ?_
      rintro _ Mq ⟨rfl, e_⟩
      subst Mq
      have bv_ := el_I (cf (mx (sbp f_r (mlp (mono c j.toNat) f_y)) f_r (j + i)) (j + i))
      refine ⟨by show (0 : Nat) ≠ 9; decide, (?_ : Wp 198 _ 43 28 [(1, 7), (1, r), (0, (c.val : Int)), (0, j), (1, y), (0, i), (0, ((ml c (sgI j (cf f_y i))).val : Int))] [(0, ((cf (mx (sbp f_r (mlp (mono c j.toNat) f_y)) f_r (j + i)) (j + i)).val : Int)), (1, 1), (0, (j + i)), (1, r)] N3 _)⟩
      refine w_il hK rfl rfl ?_
      refine w_call [(1, 1), (0, ((cf (mx (sbp f_r (mlp (mono c j.toNat) f_y)) f_r (j + i)) (j + i)).val : Int)), (0, ((ml c (sgI j (cf f_y i))).val : Int))] hK rfl rfl rfl rfl (Or.inr ⟨_, _, _, rfl, by decide, (by decide), rfl⟩) (c_diff (by decide) hC.F (cf (mx (sbp f_r (mlp (mono c j.toNat) f_y)) f_r (j + i)) (j + i)) (ml c (sgI j (cf f_y i))) ) ?_
      rintro _ Mq ⟨rfl, e_⟩
      subst Mq
      have bv_ := el_I (ad (cf (mx (sbp f_r (mlp (mono c j.toNat) f_y)) f_r (j + i)) (j + i)) (ng (ml c (sgI j (cf f_y i)))))
      refine ⟨by show (0 : Nat) ≠ 9; decide, (?_ : Wp 198 _ 43 30 [(1, 7), (1, r), (0, (c.val : Int)), (0, j), (1, y), (0, i), (0, ((ml c (sgI j (cf f_y i))).val : Int))] [(0, ((ad (cf (mx (sbp f_r (mlp (mono c j.toNat) f_y)) f_r (j + i)) (j + i)) (ng (ml c (sgI j (cf f_y i))))).val : Int)), (0, (j + i)), (1, r)] N3 _)⟩
      refine w_call [(1, r), (0, (j + i)), (0, ((ad (cf (mx (sbp f_r (mlp (mono c j.toNat) f_y)) f_r (j + i)) (j + i)) (ng (ml c (sgI j (cf f_y i))))).val : Int))] hK rfl rfl rfl rfl (Or.inr ⟨_, _, _, rfl, hr.1.nn, hr.1.lb, hr.1.o⟩) (c_put hC ⟨hr.1, pu_eq⟩ (j + i) (ad (cf (mx (sbp f_r (mlp (mono c j.toNat) f_y)) f_r (j + i)) (j + i)) (ng (ml c (sgI j (cf f_y i))))) (by omega) (by omega)) ?_
      rintro _ V1 ⟨rfl, C1, S1⟩
      rw [pu_pu (P := P) (p := r) (f := mx (sbp f_r (mlp (mono c j.toNat) f_y)) f_r (j + i)) (g := up1 (mx (sbp f_r (mlp (mono c j.toNat) f_y)) f_r (j + i)) (j + i).toNat (ad (cf (mx (sbp f_r (mlp (mono c j.toNat) f_y)) f_r (j + i)) (j + i)) (ng (ml c (sgI j (cf f_y i))))))] at C1
      refine ⟨by decide, (?_ : Wp 198 _ 43 31 [(1, 7), (1, r), (0, (c.val : Int)), (0, j), (1, y), (0, i), (0, ((ml c (sgI j (cf f_y i))).val : Int))] [] V1 _)⟩
      refine w_inc [(1, 7), (1, r), (0, (c.val : Int)), (0, j), (1, y), (0, (i + (-1))), (0, ((ml c (sgI j (cf f_y i))).val : Int))] hK rfl rfl rfl (by omega) (by omega) rfl ?_
      refine w_goto hK rfl ?_
      exact ih3 _ (by omega) (i - 1) _ V1 rfl (by omega) (by omega) (by have e := C1; rw [mx_up (s := sbp f_r (mlp (mono c j.toNat) f_y)) (h := f_r) (i := j + i) (by omega), show j + i - 1 = j + (i - 1) by omega] at e; exact e; rw [mx_at, cf_toNat (by omega), cf_toNat (by omega), sgI_toNat (by omega)]; show _ = ad _ (ng (mlp _ _ _)); rw [mono_mlp, if_pos (by omega), show (j + i).toNat - j.toNat = i.toNat by omega]) ((hS.tr S1))
  exact lp3 _ (dg f_y) _ M rfl (by omega) (by omega) (by rw [mx_none (s := sbp f_r (mlp (mono c j.toNat) f_y)) (h := f_r) (i := j + dg f_y) (fun n hn => by show ad (f_r n) (ng (mlp _ _ n)) = f_r n; rw [mono_mlp, if_pos (by omega), C.z hy (by omega), sg_z, ml_zero, ng_z, ad_zero]), pu_same hr.2]; exact C) NPS.rf
set_option maxRecDepth 100000 in
theorem c_behind {d : Nat} {M : Mem} {k : Nat} {P : Int → Option (Pl k)} (C : CS M k P) {r y : Int} {f_r : Pl k} (hr : isC P r f_r) {f_y : Pl k} (hy : isC P y f_y) (c : El k) (j : Int) (hne : y ≠ r) (h0 : 0 ≤ j) (hj : j + dg f_y ≤ 16) : Ct 198 (d + 2) 44 [(1, 7), (1, r), (0, (c.val : Int)), (0, j), (1, y)] M (fun r_ M' => r_ = (4, 0) ∧ CS M' k (pu P r (sbp f_r (mlp f_y (mono c j.toNat)))) ∧ NPS M M') := by
  have hK : cd 44 = k44 := rfl
  have dr_ := C.dI hr
  have dy := C.dI hy
  have bc := el_I c
  show Wp 198 _ 44 0 [(1, 7), (1, r), (0, (c.val : Int)), (0, j), (1, y), (3, 0), (3, 0)] [] M _
  refine w_al hK rfl rfl ?_
  refine w_pt hK rfl hy.1 ?_
  rw [show M y 1 = dg f_y from C.t hy]
  refine w_is [(1, 7), (1, r), (0, (c.val : Int)), (0, j), (1, y), (0, (dg f_y)), (3, 0)] hK rfl rfl rfl ?_
  have lp3 : ∀ (n_ : Nat) (i : Int) (w6 : AV) (N3 : Mem), (i + 1).toNat = n_ → (-1 ≤ i) → (i ≤ dg f_y) → (CS N3 k (pu P r (mx (sbp f_r (mlp f_y (mono c j.toNat))) f_r (j + i)))) → (NPS M N3) → Wp 198 (d + 2) 44 3 [(1, 7), (1, r), (0, (c.val : Int)), (0, j), (1, y), (0, i), w6] [] N3 (fun r_ M' => r_ = (4, 0) ∧ CS M' k (pu P r (sbp f_r (mlp f_y (mono c j.toNat)))) ∧ NPS M M') := by
    intro n_
    induction n_ using Nat.strongRecOn with
    | _ n_ ih3 =>
    intro i w6 N3 hm3 hi1 hi2 hC hS
    refine w_il hK rfl rfl ?_
    refine w_lt hK rfl (by omega) (by omega) (fun h4 => ?_) (fun h4 => ?_)
    · refine w_ret hK rfl rfl ?_
      rw [show mx (sbp f_r (mlp f_y (mono c j.toNat))) f_r (j + i) = sbp f_r (mlp f_y (mono c j.toNat)) from by
        funext n
        unfold mx
        by_cases q : j + i < (n : Int)
        · rw [if_pos q]
        · rw [if_neg q]
          show f_r n = ad (f_r n) (ng (mlp _ _ n))
          rw [mlp_mono, if_neg (by omega), ng_z, ad_zero]] at hC
      exact ⟨rfl, hC, hS⟩
    · refine w_al hK rfl rfl ?_
      refine w_getr (n := 0) (v := 1) hK rfl rfl (by decide) (by decide) rfl rfl rfl rfl ?_
      refine w_al hK rfl rfl ?_
      refine w_il hK rfl rfl ?_
      refine w_call [(1, y), (0, i)] hK rfl rfl rfl rfl (Or.inr ⟨_, _, _, rfl, hy.1.nn, hy.1.lb, hy.1.o⟩) (c_at hC ⟨hy.1, ((pu_ne (P := P) (f := mx (sbp f_r (mlp f_y (mono c j.toNat))) f_r (j + i)) (show y ≠ r by omega)).trans hy.2)⟩ i (by omega) (by omega)) ?_
      rintro _ Mq ⟨rfl, e_⟩
      subst Mq
      have bv_ := el_I (cf f_y i)
      refine ⟨by show (0 : Nat) ≠ 9; decide, (?_ : Wp 198 _ 44 10 [(1, 7), (1, r), (0, (c.val : Int)), (0, j), (1, y), (0, i), w6] [(0, ((cf f_y i).val : Int)), (1, 1)] N3 _)⟩
      refine w_al hK rfl rfl ?_
      refine w_getr (n := 0) (v := 1) hK rfl rfl (by decide) (by decide) rfl rfl rfl rfl ?_
      refine w_il hK rfl rfl ?_
      refine w_il hK rfl rfl ?_
      refine w_call [(1, 1), (0, (c.val : Int)), (0, i)] hK rfl rfl rfl rfl (Or.inr ⟨_, _, _, rfl, by decide, (by decide), rfl⟩) (c_image (by decide) hC.F c i (by omega) (by omega)) ?_
      rintro _ Mq ⟨rfl, e_⟩
      subst Mq
      have bv_ := el_I (sgI i c)
      refine ⟨by show (0 : Nat) ≠ 9; decide, (?_ : Wp 198 _ 44 15 [(1, 7), (1, r), (0, (c.val : Int)), (0, j), (1, y), (0, i), w6] [(0, ((sgI i c).val : Int)), (0, ((cf f_y i).val : Int)), (1, 1)] N3 _)⟩
      refine w_call [(1, 1), (0, ((cf f_y i).val : Int)), (0, ((sgI i c).val : Int))] hK rfl rfl rfl rfl (Or.inr ⟨_, _, _, rfl, by decide, (by decide), rfl⟩) (c_prod (by decide) hC.F (cf f_y i) (sgI i c) ) ?_
      rintro _ Mq ⟨rfl, e_⟩
      subst Mq
      have bv_ := el_I (ml (cf f_y i) (sgI i c))
      refine ⟨by show (0 : Nat) ≠ 9; decide, (?_ : Wp 198 _ 44 16 [(1, 7), (1, r), (0, (c.val : Int)), (0, j), (1, y), (0, i), w6] [(0, ((ml (cf f_y i) (sgI i c)).val : Int))] N3 _)⟩
      refine w_is [(1, 7), (1, r), (0, (c.val : Int)), (0, j), (1, y), (0, i), (0, ((ml (cf f_y i) (sgI i c)).val : Int))] hK rfl rfl rfl ?_
      refine w_al hK rfl rfl ?_
      refine w_il hK rfl rfl ?_
      refine w_il hK rfl rfl ?_
      refine w_add hK rfl (by omega) (by omega) ?_
      refine w_al hK rfl rfl ?_
      refine w_getr (n := 0) (v := 1) hK rfl rfl (by decide) (by decide) rfl rfl rfl rfl ?_
      refine w_al hK rfl rfl ?_
      refine w_il hK rfl rfl ?_
      refine w_il hK rfl rfl ?_
      refine w_add hK rfl (by omega) (by omega) ?_
      refine w_call [(1, r), (0, (j + i))] hK rfl rfl rfl rfl (Or.inr ⟨_, _, _, rfl, hr.1.nn, hr.1.lb, hr.1.o⟩) (c_at hC ⟨hr.1, pu_eq⟩ (j + i) (by omega) (by omega)) ?_
      rintro _ Mq ⟨rfl, e_⟩
      subst Mq
      have bv_ := el_I (cf (mx (sbp f_r (mlp f_y (mono c j.toNat))) f_r (j + i)) (j + i))
      refine ⟨by show (0 : Nat) ≠ 9; decide, (?_ : Wp 198 _ 44 28 [(1, 7), (1, r), (0, (c.val : Int)), (0, j), (1, y), (0, i), (0, ((ml (cf f_y i) (sgI i c)).val : Int))] [(0, ((cf (mx (sbp f_r (mlp f_y (mono c j.toNat))) f_r (j + i)) (j + i)).val : Int)), (1, 1), (0, (j + i)), (1, r)] N3 _)⟩
      refine w_il hK rfl rfl ?_
      refine w_call [(1, 1), (0, ((cf (mx (sbp f_r (mlp f_y (mono c j.toNat))) f_r (j + i)) (j + i)).val : Int)), (0, ((ml (cf f_y i) (sgI i c)).val : Int))] hK rfl rfl rfl rfl (Or.inr ⟨_, _, _, rfl, by decide, (by decide), rfl⟩) (c_diff (by decide) hC.F (cf (mx (sbp f_r (mlp f_y (mono c j.toNat))) f_r (j + i)) (j + i)) (ml (cf f_y i) (sgI i c)) ) ?_
      rintro _ Mq ⟨rfl, e_⟩
      subst Mq
      have bv_ := el_I (ad (cf (mx (sbp f_r (mlp f_y (mono c j.toNat))) f_r (j + i)) (j + i)) (ng (ml (cf f_y i) (sgI i c))))
      refine ⟨by show (0 : Nat) ≠ 9; decide, (?_ : Wp 198 _ 44 30 [(1, 7), (1, r), (0, (c.val : Int)), (0, j), (1, y), (0, i), (0, ((ml (cf f_y i) (sgI i c)).val : Int))] [(0, ((ad (cf (mx (sbp f_r (mlp f_y (mono c j.toNat))) f_r (j + i)) (j + i)) (ng (ml (cf f_y i) (sgI i c)))).val : Int)), (0, (j + i)), (1, r)] N3 _)⟩
      refine w_call [(1, r), (0, (j + i)), (0, ((ad (cf (mx (sbp f_r (mlp f_y (mono c j.toNat))) f_r (j + i)) (j + i)) (ng (ml (cf f_y i) (sgI i c)))).val : Int))] hK rfl rfl rfl rfl (Or.inr ⟨_, _, _, rfl, hr.1.nn, hr.1.lb, hr.1.o⟩) (c_put hC ⟨hr.1, pu_eq⟩ (j + i) (ad (cf (mx (sbp f_r (mlp f_y (mono c j.toNat))) f_r (j + i)) (j + i)) (ng (ml (cf f_y i) (sgI i c)))) (by omega) (by omega)) ?_
      rintro _ V2 ⟨rfl, C2, S2⟩
      rw [pu_pu (P := P) (p := r) (f := mx (sbp f_r (mlp f_y (mono c j.toNat))) f_r (j + i)) (g := up1 (mx (sbp f_r (mlp f_y (mono c j.toNat))) f_r (j + i)) (j + i).toNat (ad (cf (mx (sbp f_r (mlp f_y (mono c j.toNat))) f_r (j + i)) (j + i)) (ng (ml (cf f_y i) (sgI i c)))))] at C2
      refine ⟨by decide, (?_ : Wp 198 _ 44 31 [(1, 7), (1, r), (0, (c.val : Int)), (0, j), (1, y), (0, i), (0, ((ml (cf f_y i) (sgI i c)).val : Int))] [] V2 _)⟩
      refine w_inc [(1, 7), (1, r), (0, (c.val : Int)), (0, j), (1, y), (0, (i + (-1))), (0, ((ml (cf f_y i) (sgI i c)).val : Int))] hK rfl rfl rfl (by omega) (by omega) rfl ?_
      refine w_goto hK rfl ?_
      exact ih3 _ (by omega) (i - 1) _ V2 rfl (by omega) (by omega) (by have e := C2; rw [mx_up (s := sbp f_r (mlp f_y (mono c j.toNat))) (h := f_r) (i := j + i) (by omega), show j + i - 1 = j + (i - 1) by omega] at e; exact e; rw [mx_at, cf_toNat (by omega), cf_toNat (by omega), sgI_toNat (by omega)]; show _ = ad _ (ng (mlp _ _ _)); rw [mlp_mono, if_pos (by omega), show (j + i).toNat - j.toNat = i.toNat by omega]) ((hS.tr S2))
  exact lp3 _ (dg f_y) _ M rfl (by omega) (by omega) (by rw [mx_none (s := sbp f_r (mlp f_y (mono c j.toNat))) (h := f_r) (i := j + dg f_y) (fun n hn => by show ad (f_r n) (ng (mlp _ _ n)) = f_r n; rw [mlp_mono, if_pos (by omega), C.z hy (by omega), zero_ml, ng_z, ad_zero]), pu_same hr.2]; exact C) NPS.rf
set_option maxRecDepth 100000 in
theorem c_rprd {d : Nat} {M : Mem} {k : Nat} {P : Int → Option (Pl k)} (C : CS M k P) {x y o : Int} {f_x : Pl k} (hx : isC P x f_x) {f_y : Pl k} (hy : isC P y f_y) (ho : isP o) (x8 : x ≠ 8) (y8 : y ≠ 8) (hd : dg f_x + dg f_y ≤ 16) : Ct 198 (d + 2) 41 [(1, 7), (1, x), (1, y), (1, o)] M (fun r M' => r = (4, 0) ∧ CS M' k (pu (pu P 8 (mlp f_x f_y)) o (mlp f_x f_y)) ∧ NPS M M') := by
  have hK : cd 41 = k41 := rfl
  have dx := C.dI hx
  have dy := C.dI hy
  show Wp 198 _ 41 0 [(1, 7), (1, x), (1, y), (1, o), (3, 0), (3, 0), (3, 0)] [] M _
  refine w_al hK rfl rfl ?_
  refine w_getr (n := 1) (v := 8) hK rfl rfl (by decide) (by decide) rfl rfl rfl rfl ?_
  refine w_call [(1, 8)] hK rfl rfl rfl rfl (Or.inr ⟨_, _, _, rfl, (isP_of (p := 8) rfl).nn, (isP_of (p := 8) rfl).lb, (isP_of (p := 8) rfl).o⟩) (c_clear C (isP_of (p := 8) rfl)) ?_
  rintro _ V3 ⟨rfl, C3, S3⟩
  refine ⟨by decide, (?_ : Wp 198 _ 41 3 [(1, 7), (1, x), (1, y), (1, o), (3, 0), (3, 0), (3, 0)] [] V3 _)⟩
  refine w_ic hK rfl ?_
  refine w_is [(1, 7), (1, x), (1, y), (1, o), (0, 0), (3, 0), (3, 0)] hK rfl rfl rfl ?_
  have lp5 : ∀ (n_ : Nat) (i : Nat) (w5 w6 : AV) (N5 : Mem), 17 - i = n_ → (i ≤ 17) → (CS N5 k (pu P 8 (pmp f_x f_y i 0))) → (NPS M N5) → Wp 198 (d + 2) 41 5 [(1, 7), (1, x), (1, y), (1, o), (0, (i : Int)), w5, w6] [] N5 (fun r M' => r = (4, 0) ∧ CS M' k (pu (pu P 8 (mlp f_x f_y)) o (mlp f_x f_y)) ∧ NPS M M') := by
    intro n_
    induction n_ using Nat.strongRecOn with
    | _ n_ ih5 =>
    intro i w5 w6 N5 hm5 hi hC hS
    refine w_il hK rfl rfl ?_
    refine w_al hK rfl rfl ?_
    refine w_pt hK rfl hx.1 ?_
    rw [show N5 x 1 = dg f_x from hC.t ⟨hx.1, ((pu_ne (P := P) (f := pmp f_x f_y i 0) (show x ≠ 8 by omega)).trans hx.2)⟩]
    refine w_gt2 hK rfl (by omega) (by omega) (by omega) (by omega) (fun h8 => ?_) (fun h8 => ?_)
    · refine w_al hK rfl rfl ?_
      refine w_al hK rfl rfl ?_
      refine w_getr (n := 1) (v := 8) hK rfl rfl (by decide) (by decide) rfl rfl rfl rfl ?_
      refine w_call [(1, o), (1, 8)] hK rfl rfl rfl rfl (Or.inr ⟨_, _, _, rfl, ho.nn, ho.lb, ho.o⟩) (c_copy hC ho ⟨(isP_of (p := 8) rfl), pu_eq⟩) ?_
      rintro _ V4 ⟨rfl, C4, S4⟩
      refine ⟨by decide, (?_ : Wp 198 _ 41 53 [(1, 7), (1, x), (1, y), (1, o), (0, (i : Int)), w5, w6] [] V4 _)⟩
      refine w_ret hK rfl rfl ?_
      have e := C4
      rw [pmp_end _ _ _ (fun n hn => C.z hx (by omega))] at e
      exact ⟨rfl, e, (hS.tr S4)⟩
    · refine w_ic hK rfl ?_
      refine w_is [(1, 7), (1, x), (1, y), (1, o), (0, (i : Int)), (0, 0), w6] hK rfl rfl rfl ?_
      have lp11 : ∀ (n_ : Nat) (j : Nat) (w6 : AV) (N11 : Mem), 17 - j = n_ → (j ≤ 17) → (CS N11 k (pu P 8 (pmp f_x f_y i j))) → (NPS M N11) → Wp 198 (d + 2) 41 11 [(1, 7), (1, x), (1, y), (1, o), (0, (i : Int)), (0, (j : Int)), w6] [] N11 (fun r M' => r = (4, 0) ∧ CS M' k (pu (pu P 8 (mlp f_x f_y)) o (mlp f_x f_y)) ∧ NPS M M') := by
        intro n_
        induction n_ using Nat.strongRecOn with
        | _ n_ ih11 =>
        intro j w6 N11 hm11 hj hD hT
        refine w_il hK rfl rfl ?_
        refine w_al hK rfl rfl ?_
        refine w_pt hK rfl hy.1 ?_
        rw [show N11 y 1 = dg f_y from hD.t ⟨hy.1, ((pu_ne (P := P) (f := pmp f_x f_y i j) (show y ≠ 8 by omega)).trans hy.2)⟩]
        refine w_gt2 hK rfl (by omega) (by omega) (by omega) (by omega) (fun h14 => ?_) (fun h14 => ?_)
        · refine w_inc [(1, 7), (1, x), (1, y), (1, o), (0, ((i : Int) + 1)), (0, (j : Int)), w6] hK rfl rfl rfl (by omega) (by omega) rfl ?_
          refine w_goto hK rfl ?_
          exact ih5 _ (by omega) (i + 1) _ _ N11 rfl (by omega) (by have e := hD; rw [pmp_row _ _ _ _ (fun n hn => C.z hy (by omega))] at e; exact e) (hT)
        · refine w_al hK rfl rfl ?_
          refine w_getr (n := 0) (v := 1) hK rfl rfl (by decide) (by decide) rfl rfl rfl rfl ?_
          refine w_al hK rfl rfl ?_
          refine w_il hK rfl rfl ?_
          refine w_call [(1, x), (0, (i : Int))] hK rfl rfl rfl rfl (Or.inr ⟨_, _, _, rfl, hx.1.nn, hx.1.lb, hx.1.o⟩) (c_atN hD ⟨hx.1, ((pu_ne (P := P) (f := pmp f_x f_y i j) (show x ≠ 8 by omega)).trans hx.2)⟩ i (by omega)) ?_
          rintro _ Mq ⟨rfl, e_⟩
          subst Mq
          have bv_ := el_I (f_x i)
          refine ⟨by show (0 : Nat) ≠ 9; decide, (?_ : Wp 198 _ 41 20 [(1, 7), (1, x), (1, y), (1, o), (0, (i : Int)), (0, (j : Int)), w6] [(0, ((f_x i).val : Int)), (1, 1)] N11 _)⟩
          refine w_al hK rfl rfl ?_
          refine w_getr (n := 0) (v := 1) hK rfl rfl (by decide) (by decide) rfl rfl rfl rfl ?_
          refine w_al hK rfl rfl ?_
          refine w_il hK rfl rfl ?_
          refine w_call [(1, y), (0, (j : Int))] hK rfl rfl rfl rfl (Or.inr ⟨_, _, _, rfl, hy.1.nn, hy.1.lb, hy.1.o⟩) (c_atN hD ⟨hy.1, ((pu_ne (P := P) (f := pmp f_x f_y i j) (show y ≠ 8 by omega)).trans hy.2)⟩ j (by omega)) ?_
          rintro _ Mq ⟨rfl, e_⟩
          subst Mq
          have bv_ := el_I (f_y j)
          refine ⟨by show (0 : Nat) ≠ 9; decide, (?_ : Wp 198 _ 41 25 [(1, 7), (1, x), (1, y), (1, o), (0, (i : Int)), (0, (j : Int)), w6] [(0, ((f_y j).val : Int)), (1, 1), (0, ((f_x i).val : Int)), (1, 1)] N11 _)⟩
          refine w_il hK rfl rfl ?_
          refine w_call [(1, 1), (0, ((f_y j).val : Int)), (0, (i : Int))] hK rfl rfl rfl rfl (Or.inr ⟨_, _, _, rfl, by decide, (by decide), rfl⟩) (c_imageN (by decide) hD.F (f_y j) i (by omega)) ?_
          rintro _ Mq ⟨rfl, e_⟩
          subst Mq
          have bv_ := el_I (sg i (f_y j))
          refine ⟨by show (0 : Nat) ≠ 9; decide, (?_ : Wp 198 _ 41 27 [(1, 7), (1, x), (1, y), (1, o), (0, (i : Int)), (0, (j : Int)), w6] [(0, ((sg i (f_y j)).val : Int)), (0, ((f_x i).val : Int)), (1, 1)] N11 _)⟩
          refine w_call [(1, 1), (0, ((f_x i).val : Int)), (0, ((sg i (f_y j)).val : Int))] hK rfl rfl rfl rfl (Or.inr ⟨_, _, _, rfl, by decide, (by decide), rfl⟩) (c_prod (by decide) hD.F (f_x i) (sg i (f_y j)) ) ?_
          rintro _ Mq ⟨rfl, e_⟩
          subst Mq
          have bv_ := el_I (ml (f_x i) (sg i (f_y j)))
          refine ⟨by show (0 : Nat) ≠ 9; decide, (?_ : Wp 198 _ 41 28 [(1, 7), (1, x), (1, y), (1, o), (0, (i : Int)), (0, (j : Int)), w6] [(0, ((ml (f_x i) (sg i (f_y j))).val : Int))] N11 _)⟩
          refine w_is [(1, 7), (1, x), (1, y), (1, o), (0, (i : Int)), (0, (j : Int)), (0, ((ml (f_x i) (sg i (f_y j))).val : Int))] hK rfl rfl rfl ?_
          refine w_al hK rfl rfl ?_
          refine w_getr (n := 1) (v := 8) hK rfl rfl (by decide) (by decide) rfl rfl rfl rfl ?_
          refine w_il hK rfl rfl ?_
          refine w_il hK rfl rfl ?_
          refine w_add hK rfl (by omega) (by omega) ?_
          refine w_al hK rfl rfl ?_
          refine w_getr (n := 0) (v := 1) hK rfl rfl (by decide) (by decide) rfl rfl rfl rfl ?_
          refine w_al hK rfl rfl ?_
          refine w_getr (n := 1) (v := 8) hK rfl rfl (by decide) (by decide) rfl rfl rfl rfl ?_
          refine w_il hK rfl rfl ?_
          refine w_il hK rfl rfl ?_
          refine w_add hK rfl (by omega) (by omega) ?_
          refine w_call [(1, 8), (0, ((i : Int) + (j : Int)))] hK rfl rfl rfl rfl (Or.inr ⟨_, _, _, rfl, (isP_of (p := 8) rfl).nn, (isP_of (p := 8) rfl).lb, (isP_of (p := 8) rfl).o⟩) (c_at hD ⟨(isP_of (p := 8) rfl), pu_eq⟩ ((i : Int) + (j : Int)) (by omega) (by omega)) ?_
          rintro _ Mq ⟨rfl, e_⟩
          subst Mq
          have bv_ := el_I (cf (pmp f_x f_y i j) ((i : Int) + (j : Int)))
          refine ⟨by show (0 : Nat) ≠ 9; decide, (?_ : Wp 198 _ 41 42 [(1, 7), (1, x), (1, y), (1, o), (0, (i : Int)), (0, (j : Int)), (0, ((ml (f_x i) (sg i (f_y j))).val : Int))] [(0, ((cf (pmp f_x f_y i j) ((i : Int) + (j : Int))).val : Int)), (1, 1), (0, ((i : Int) + (j : Int))), (1, 8)] N11 _)⟩
          refine w_il hK rfl rfl ?_
          refine w_call [(1, 1), (0, ((cf (pmp f_x f_y i j) ((i : Int) + (j : Int))).val : Int)), (0, ((ml (f_x i) (sg i (f_y j))).val : Int))] hK rfl rfl rfl rfl (Or.inr ⟨_, _, _, rfl, by decide, (by decide), rfl⟩) (c_sum (by decide) hD.F (cf (pmp f_x f_y i j) ((i : Int) + (j : Int))) (ml (f_x i) (sg i (f_y j))) ) ?_
          rintro _ Mq ⟨rfl, e_⟩
          subst Mq
          have bv_ := el_I (ad (cf (pmp f_x f_y i j) ((i : Int) + (j : Int))) (ml (f_x i) (sg i (f_y j))))
          refine ⟨by show (0 : Nat) ≠ 9; decide, (?_ : Wp 198 _ 41 44 [(1, 7), (1, x), (1, y), (1, o), (0, (i : Int)), (0, (j : Int)), (0, ((ml (f_x i) (sg i (f_y j))).val : Int))] [(0, ((ad (cf (pmp f_x f_y i j) ((i : Int) + (j : Int))) (ml (f_x i) (sg i (f_y j)))).val : Int)), (0, ((i : Int) + (j : Int))), (1, 8)] N11 _)⟩
          refine w_call [(1, 8), (0, ((i : Int) + (j : Int))), (0, ((ad (cf (pmp f_x f_y i j) ((i : Int) + (j : Int))) (ml (f_x i) (sg i (f_y j)))).val : Int))] hK rfl rfl rfl rfl (Or.inr ⟨_, _, _, rfl, (isP_of (p := 8) rfl).nn, (isP_of (p := 8) rfl).lb, (isP_of (p := 8) rfl).o⟩) (c_put hD ⟨(isP_of (p := 8) rfl), pu_eq⟩ ((i : Int) + (j : Int)) (ad (cf (pmp f_x f_y i j) ((i : Int) + (j : Int))) (ml (f_x i) (sg i (f_y j)))) (by omega) (by omega)) ?_
          rintro _ V5 ⟨rfl, C5, S5⟩
          rw [pu_pu (P := P) (p := 8) (f := pmp f_x f_y i j) (g := up1 (pmp f_x f_y i j) ((i : Int) + (j : Int)).toNat (ad (cf (pmp f_x f_y i j) ((i : Int) + (j : Int))) (ml (f_x i) (sg i (f_y j)))))] at C5
          refine ⟨by decide, (?_ : Wp 198 _ 41 45 [(1, 7), (1, x), (1, y), (1, o), (0, (i : Int)), (0, (j : Int)), (0, ((ml (f_x i) (sg i (f_y j))).val : Int))] [] V5 _)⟩
          refine w_inc [(1, 7), (1, x), (1, y), (1, o), (0, (i : Int)), (0, ((j : Int) + 1)), (0, ((ml (f_x i) (sg i (f_y j))).val : Int))] hK rfl rfl rfl (by omega) (by omega) rfl ?_
          refine w_goto hK rfl ?_
          exact ih11 _ (by omega) (j + 1) _ V5 rfl (by omega) (by have e := C5; rw [show cf (pmp f_x f_y i j) ((i : Int) + (j : Int)) = pmp f_x f_y i j (i + j) from cf_nat _ (i + j), show ((i : Int) + (j : Int)).toNat = i + j from rfl, pmp_step] at e; exact e) ((hT.tr S5))
      exact lp11 _ 0 _ N5 rfl (by omega) hC (hS)
  exact lp5 _ 0 _ _ V3 rfl (by omega) (by rw [pmp_00]; exact C3) (S3)
set_option maxRecDepth 100000 in
theorem c_rpat {d : Nat} {M : Mem} {k : Nat} {P : Int → Option (Pl k)} (C : CS M k P) {x y o : Int} (s : Int) {f_x : Pl k} (hx : isC P x f_x) {f_y : Pl k} (hy : isC P y f_y) (ho : isP o) (x8 : x ≠ 8) (y8 : y ≠ 8) (hd : dg f_x + dg f_y ≤ 16) (hs : s = 0 ∨ s = 1) : Ct 198 (d + 3) 45 [(1, 7), (0, s), (1, x), (1, y), (1, o)] M (fun r M' => r = (4, 0) ∧ CS M' k (pu (pu P 8 (prd s f_x f_y)) o (prd s f_x f_y)) ∧ NPS M M') := by
  have hK : cd 45 = k45 := rfl
  show Wp 198 _ 45 0 [(1, 7), (0, s), (1, x), (1, y), (1, o)] [] M _
  refine w_il hK rfl rfl ?_
  refine w_ne hK rfl (by omega) (by omega) (fun h1 => ?_) (fun h1 => ?_)
  · refine w_al hK rfl rfl ?_
    refine w_al hK rfl rfl ?_
    refine w_al hK rfl rfl ?_
    refine w_al hK rfl rfl ?_
    refine w_call [(1, 7), (1, y), (1, x), (1, o)] hK rfl rfl rfl rfl (Or.inr ⟨_, _, _, rfl, by decide, (by decide), rfl⟩) (c_rprd C hy hx ho (by omega) (by omega) (by omega)) ?_
    rintro _ V6 ⟨rfl, C6, S6⟩
    refine ⟨by decide, (?_ : Wp 198 _ 45 13 [(1, 7), (0, s), (1, x), (1, y), (1, o)] [] V6 _)⟩
    refine w_ret hK rfl rfl ?_
    have e := C6
    unfold prd
    rw [if_neg (by omega)]
    exact ⟨rfl, e, S6⟩
  · refine w_al hK rfl rfl ?_
    refine w_al hK rfl rfl ?_
    refine w_al hK rfl rfl ?_
    refine w_al hK rfl rfl ?_
    refine w_call [(1, 7), (1, x), (1, y), (1, o)] hK rfl rfl rfl rfl (Or.inr ⟨_, _, _, rfl, by decide, (by decide), rfl⟩) (c_rprd C hx hy ho (by omega) (by omega) (by omega)) ?_
    rintro _ V7 ⟨rfl, C7, S7⟩
    refine ⟨by decide, (?_ : Wp 198 _ 45 7 [(1, 7), (0, s), (1, x), (1, y), (1, o)] [] V7 _)⟩
    refine w_goto hK rfl ?_
    refine w_ret hK rfl rfl ?_
    have e := C7
    unfold prd
    rw [if_pos (by omega)]
    exact ⟨rfl, e, S7⟩
set_option maxRecDepth 100000 in
theorem c_div {d : Nat} {M : Mem} {k : Nat} {P : Int → Option (Pl k)} (C : CS M k P) {x y a r : Int} {f_x : Pl k} (hx : isC P x f_x) {f_y : Pl k} (hy : isC P y f_y) (s : Int) (ha : isP a) (hr : isP r) (hxa : x ≠ a) (hxr : x ≠ r) (hya : y ≠ a) (hyr : y ≠ r) (har : a ≠ r) (hs : s = 0 ∨ s = 1) : Ct 198 (d + 3) 42 [(1, 7), (1, x), (1, y), (0, s), (1, a), (1, r)] M (fun r_ M' => r_ = (4, 0) ∧ CS M' k (pu (pu P a (dq s f_x f_y)) r (dr s f_x f_y)) ∧ NPS M M') := by
  have hK : cd 42 = k42 := rfl
  have dx := C.dI hx
  have dy := C.dI hy
  show Wp 198 _ 42 0 [(1, 7), (1, x), (1, y), (0, s), (1, a), (1, r), (3, 0), (3, 0), (3, 0)] [] M _
  refine w_al hK rfl rfl ?_
  refine w_call [(1, a)] hK rfl rfl rfl rfl (Or.inr ⟨_, _, _, rfl, ha.nn, ha.lb, ha.o⟩) (c_clear C ha) ?_
  rintro _ V8 ⟨rfl, C8, S8⟩
  refine ⟨by decide, (?_ : Wp 198 _ 42 2 [(1, 7), (1, x), (1, y), (0, s), (1, a), (1, r), (3, 0), (3, 0), (3, 0)] [] V8 _)⟩
  refine w_al hK rfl rfl ?_
  refine w_al hK rfl rfl ?_
  refine w_call [(1, r), (1, x)] hK rfl rfl rfl rfl (Or.inr ⟨_, _, _, rfl, hr.nn, hr.lb, hr.o⟩) (c_copy C8 hr ⟨hx.1, ((pu_ne (P := P) (f := pz) (show x ≠ a by omega)).trans hx.2)⟩) ?_
  rintro _ V9 ⟨rfl, C9, S9⟩
  refine ⟨by decide, (?_ : Wp 198 _ 42 5 [(1, 7), (1, x), (1, y), (0, s), (1, a), (1, r), (3, 0), (3, 0), (3, 0)] [] V9 _)⟩
  refine w_al hK rfl rfl ?_
  refine w_pt hK rfl hy.1 ?_
  rw [show V9 y 1 = dg f_y from C9.t ⟨hy.1, ((pu_ne (P := pu P a pz) (f := f_x) (show y ≠ r by omega)).trans ((pu_ne (P := P) (f := pz) (show y ≠ a by omega)).trans hy.2))⟩]
  refine w_ge hK rfl (by omega) (by omega) (fun h7 => ?_) (fun h7 => ?_)
  · obtain ⟨b, hb⟩ : ∃ b : Nat, dg f_y = (b : Int) := ⟨(dg f_y).toNat, by omega⟩
    have hy2 : IsDg f_y (b : Int) := hb ▸ dg_is ((C.bd hy).mono (by decide))
    refine w_al hK rfl rfl ?_
    refine w_pt hK rfl hx.1 ?_
    rw [show V9 x 1 = dg f_x from C9.t ⟨hx.1, ((pu_ne (P := pu P a pz) (f := f_x) (show x ≠ r by omega)).trans ((pu_ne (P := P) (f := pz) (show x ≠ a by omega)).trans hx.2))⟩]
    refine w_al hK rfl rfl ?_
    refine w_pt hK rfl hy.1 ?_
    rw [show V9 y 1 = dg f_y from C9.t ⟨hy.1, ((pu_ne (P := pu P a pz) (f := f_x) (show y ≠ r by omega)).trans ((pu_ne (P := P) (f := pz) (show y ≠ a by omega)).trans hy.2))⟩]
    refine w_sub hK rfl (by omega) (by omega) ?_
    refine w_is [(1, 7), (1, x), (1, y), (0, s), (1, a), (1, r), (0, ((dg f_x) - (dg f_y))), (3, 0), (3, 0)] hK rfl rfl rfl ?_
    have lp15 : ∀ (n_ : Nat) (i : Int) (q rr : Pl k) (w7 w8 : AV) (N15 : Mem), (i + 1).toNat = n_ → (-17 ≤ i) → (i + dg f_y ≤ 16) → (DI s f_x f_y b q rr i) → (CS N15 k (pu (pu P a q) r rr)) → (NPS M N15) → Wp 198 (d + 3) 42 15 [(1, 7), (1, x), (1, y), (0, s), (1, a), (1, r), (0, i), w7, w8] [] N15 (fun r_ M' => r_ = (4, 0) ∧ CS M' k (pu (pu P a (dq s f_x f_y)) r (dr s f_x f_y)) ∧ NPS M M') := by
      intro n_
      induction n_ using Nat.strongRecOn with
      | _ n_ ih15 =>
      intro i q rr w7 w8 N15 hm15 hi1 hi2 hD hC hS
      refine w_il hK rfl rfl ?_
      refine w_lt hK rfl (by omega) (by omega) (fun h16 => ?_) (fun h16 => ?_)
      · refine w_ret hK rfl rfl ?_
        obtain ⟨e1_, e2_⟩ := dv_eq (hD.done (by omega) hy2)
        rw [e1_, e2_]
        exact ⟨rfl, hC, hS⟩
      · refine w_al hK rfl rfl ?_
        refine w_il hK rfl rfl ?_
        refine w_al hK rfl rfl ?_
        refine w_pt hK rfl hy.1 ?_
        rw [show N15 y 1 = dg f_y from hC.t ⟨hy.1, ((pu_ne (P := pu P a q) (f := rr) (show y ≠ r by omega)).trans ((pu_ne (P := P) (f := q) (show y ≠ a by omega)).trans hy.2))⟩]
        refine w_add hK rfl (by omega) (by omega) ?_
        refine w_call [(1, r), (0, (i + (dg f_y)))] hK rfl rfl rfl rfl (Or.inr ⟨_, _, _, rfl, hr.nn, hr.lb, hr.o⟩) (c_at hC ⟨hr, pu_eq⟩ (i + (dg f_y)) (by omega) (by omega)) ?_
        rintro _ Mq ⟨rfl, e_⟩
        subst Mq
        have bv_ := el_I (cf rr (i + (dg f_y)))
        refine ⟨by show (0 : Nat) ≠ 9; decide, (?_ : Wp 198 _ 42 23 [(1, 7), (1, x), (1, y), (0, s), (1, a), (1, r), (0, i), w7, w8] [(0, ((cf rr (i + (dg f_y))).val : Int))] N15 _)⟩
        refine w_is [(1, 7), (1, x), (1, y), (0, s), (1, a), (1, r), (0, i), (0, ((cf rr (i + (dg f_y))).val : Int)), w8] hK rfl rfl rfl ?_
        have b24 := el_I (cf rr (i + dg f_y))
        refine w_il hK rfl rfl ?_
        refine w_eq hK rfl (by omega) (by omega) (fun h25 => ?_) (fun h25 => ?_)
        · refine w_il hK rfl rfl ?_
          refine w_eq hK rfl (by omega) (by omega) (fun h51 => ?_) (fun h51 => ?_)
          · refine w_inc [(1, 7), (1, x), (1, y), (0, s), (1, a), (1, r), (0, (i + (-1))), (0, ((cf rr (i + (dg f_y))).val : Int)), w8] hK rfl rfl rfl (by omega) (by omega) rfl ?_
            refine w_goto hK rfl ?_
            exact ih15 _ (by omega) (i - 1) q rr _ _ N15 rfl (by omega) (by omega) (hD.skip (by omega) (by rw [← hb]; exact z0_iff.mpr (by omega))) hC (hS)
          · refine w_al hK rfl rfl ?_
            refine w_getr (n := 0) (v := 1) hK rfl rfl (by decide) (by decide) rfl rfl rfl rfl ?_
            refine w_al hK rfl rfl ?_
            refine w_getr (n := 0) (v := 1) hK rfl rfl (by decide) (by decide) rfl rfl rfl rfl ?_
            refine w_il hK rfl rfl ?_
            refine w_al hK rfl rfl ?_
            refine w_call [(1, y)] hK rfl rfl rfl rfl (Or.inr ⟨_, _, _, rfl, hy.1.nn, hy.1.lb, hy.1.o⟩) (c_ld hC ⟨hy.1, ((pu_ne (P := pu P a q) (f := rr) (show y ≠ r by omega)).trans ((pu_ne (P := P) (f := q) (show y ≠ a by omega)).trans hy.2))⟩) ?_
            rintro _ Mq ⟨rfl, e_⟩
            subst Mq
            have bv_ := el_I (ld f_y)
            refine ⟨by show (0 : Nat) ≠ 9; decide, (?_ : Wp 198 _ 42 59 [(1, 7), (1, x), (1, y), (0, s), (1, a), (1, r), (0, i), (0, ((cf rr (i + (dg f_y))).val : Int)), w8] [(0, ((ld f_y).val : Int)), (0, ((cf rr (i + (dg f_y))).val : Int)), (1, 1), (1, 1)] N15 _)⟩
            refine w_call [(1, 1), (0, ((cf rr (i + (dg f_y))).val : Int)), (0, ((ld f_y).val : Int))] hK rfl rfl rfl rfl (Or.inr ⟨_, _, _, rfl, by decide, (by decide), rfl⟩) (c_ratio (by decide) hC.F (cf rr (i + (dg f_y))) (ld f_y) ) ?_
            rintro _ Mq ⟨rfl, e_⟩
            subst Mq
            have bv_ := el_I (ml (cf rr (i + (dg f_y))) (iv (ld f_y)))
            refine ⟨by show (0 : Nat) ≠ 9; decide, (?_ : Wp 198 _ 42 60 [(1, 7), (1, x), (1, y), (0, s), (1, a), (1, r), (0, i), (0, ((cf rr (i + (dg f_y))).val : Int)), w8] [(0, ((ml (cf rr (i + (dg f_y))) (iv (ld f_y))).val : Int)), (1, 1)] N15 _)⟩
            refine w_al hK rfl rfl ?_
            refine w_pt hK rfl hy.1 ?_
            rw [show N15 y 1 = dg f_y from hC.t ⟨hy.1, ((pu_ne (P := pu P a q) (f := rr) (show y ≠ r by omega)).trans ((pu_ne (P := P) (f := q) (show y ≠ a by omega)).trans hy.2))⟩]
            refine w_neg hK rfl (by omega) (by omega) ?_
            refine w_call [(1, 1), (0, ((ml (cf rr (i + (dg f_y))) (iv (ld f_y))).val : Int)), (0, (-(dg f_y)))] hK rfl rfl rfl rfl (Or.inr ⟨_, _, _, rfl, by decide, (by decide), rfl⟩) (c_image (by decide) hC.F (ml (cf rr (i + (dg f_y))) (iv (ld f_y))) (-(dg f_y)) (by omega) (by omega)) ?_
            rintro _ Mq ⟨rfl, e_⟩
            subst Mq
            have bv_ := el_I (sgI (-(dg f_y)) (ml (cf rr (i + (dg f_y))) (iv (ld f_y))))
            refine ⟨by show (0 : Nat) ≠ 9; decide, (?_ : Wp 198 _ 42 64 [(1, 7), (1, x), (1, y), (0, s), (1, a), (1, r), (0, i), (0, ((cf rr (i + (dg f_y))).val : Int)), w8] [(0, ((sgI (-(dg f_y)) (ml (cf rr (i + (dg f_y))) (iv (ld f_y)))).val : Int))] N15 _)⟩
            refine w_is [(1, 7), (1, x), (1, y), (0, s), (1, a), (1, r), (0, i), (0, ((cf rr (i + (dg f_y))).val : Int)), (0, ((sgI (-(dg f_y)) (ml (cf rr (i + (dg f_y))) (iv (ld f_y)))).val : Int))] hK rfl rfl rfl ?_
            refine w_al hK rfl rfl ?_
            refine w_il hK rfl rfl ?_
            refine w_il hK rfl rfl ?_
            refine w_call [(1, a), (0, i), (0, ((sgI (-(dg f_y)) (ml (cf rr (i + (dg f_y))) (iv (ld f_y)))).val : Int))] hK rfl rfl rfl rfl (Or.inr ⟨_, _, _, rfl, ha.nn, ha.lb, ha.o⟩) (c_put hC ⟨ha, ((pu_ne (P := pu P a q) (f := rr) (show a ≠ r by omega)).trans pu_eq)⟩ i (sgI (-(dg f_y)) (ml (cf rr (i + (dg f_y))) (iv (ld f_y)))) (by omega) (by omega)) ?_
            rintro _ V10 ⟨rfl, C10, S10⟩
            rw [pu_comm (P := pu P a q) (a := r) (b := a) (f := rr) (g := up1 q i.toNat (sgI (-(dg f_y)) (ml (cf rr (i + (dg f_y))) (iv (ld f_y))))) (by omega), pu_pu (P := P) (p := a) (f := q) (g := up1 q i.toNat (sgI (-(dg f_y)) (ml (cf rr (i + (dg f_y))) (iv (ld f_y)))))] at C10
            refine ⟨by decide, (?_ : Wp 198 _ 42 69 [(1, 7), (1, x), (1, y), (0, s), (1, a), (1, r), (0, i), (0, ((cf rr (i + (dg f_y))).val : Int)), (0, ((sgI (-(dg f_y)) (ml (cf rr (i + (dg f_y))) (iv (ld f_y)))).val : Int))] [] V10 _)⟩
            refine w_al hK rfl rfl ?_
            refine w_al hK rfl rfl ?_
            refine w_il hK rfl rfl ?_
            refine w_il hK rfl rfl ?_
            refine w_al hK rfl rfl ?_
            refine w_call [(1, 7), (1, r), (0, ((sgI (-(dg f_y)) (ml (cf rr (i + (dg f_y))) (iv (ld f_y)))).val : Int)), (0, i), (1, y)] hK rfl rfl rfl rfl (Or.inr ⟨_, _, _, rfl, by decide, (by decide), rfl⟩) (c_behind C10 ⟨hr, pu_eq⟩ ⟨hy.1, ((pu_ne (P := pu P a (up1 q i.toNat (sgI (-(dg f_y)) (ml (cf rr (i + (dg f_y))) (iv (ld f_y)))))) (f := rr) (show y ≠ r by omega)).trans ((pu_ne (P := P) (f := up1 q i.toNat (sgI (-(dg f_y)) (ml (cf rr (i + (dg f_y))) (iv (ld f_y))))) (show y ≠ a by omega)).trans hy.2))⟩ (sgI (-(dg f_y)) (ml (cf rr (i + (dg f_y))) (iv (ld f_y)))) i (by omega) (by omega) (by omega)) ?_
            rintro _ V11 ⟨rfl, C11, S11⟩
            rw [pu_pu (P := pu P a (up1 q i.toNat (sgI (-(dg f_y)) (ml (cf rr (i + (dg f_y))) (iv (ld f_y)))))) (p := r) (f := rr) (g := sbp rr (mlp f_y (mono (sgI (-(dg f_y)) (ml (cf rr (i + (dg f_y))) (iv (ld f_y)))) (Int.toNat i))))] at C11
            refine ⟨by decide, (?_ : Wp 198 _ 42 75 [(1, 7), (1, x), (1, y), (0, s), (1, a), (1, r), (0, i), (0, ((cf rr (i + (dg f_y))).val : Int)), (0, ((sgI (-(dg f_y)) (ml (cf rr (i + (dg f_y))) (iv (ld f_y)))).val : Int))] [] V11 _)⟩
            refine w_inc [(1, 7), (1, x), (1, y), (0, s), (1, a), (1, r), (0, (i + (-1))), (0, ((cf rr (i + (dg f_y))).val : Int)), (0, ((sgI (-(dg f_y)) (ml (cf rr (i + (dg f_y))) (iv (ld f_y)))).val : Int))] hK rfl rfl rfl (by omega) (by omega) rfl ?_
            refine w_goto hK rfl ?_
            exact ih15 _ (by omega) (i - 1) _ _ _ _ V11 rfl (by omega) (by omega) (hD.behind (by omega) (by omega) (by omega) hy2 (by rw [ld_at hb, hb])) C11 (((hS.tr S10).tr S11))
        · refine w_il hK rfl rfl ?_
          refine w_ne hK rfl (by omega) (by omega) (fun h27 => ?_) (fun h27 => ?_)
          · refine w_il hK rfl rfl ?_
            refine w_eq hK rfl (by omega) (by omega) (fun h51 => ?_) (fun h51 => ?_)
            · refine w_inc [(1, 7), (1, x), (1, y), (0, s), (1, a), (1, r), (0, (i + (-1))), (0, ((cf rr (i + (dg f_y))).val : Int)), w8] hK rfl rfl rfl (by omega) (by omega) rfl ?_
              refine w_goto hK rfl ?_
              exact ih15 _ (by omega) (i - 1) q rr _ _ N15 rfl (by omega) (by omega) (hD.skip (by omega) (by rw [← hb]; exact z0_iff.mpr (by omega))) hC (hS)
            · refine w_al hK rfl rfl ?_
              refine w_getr (n := 0) (v := 1) hK rfl rfl (by decide) (by decide) rfl rfl rfl rfl ?_
              refine w_al hK rfl rfl ?_
              refine w_getr (n := 0) (v := 1) hK rfl rfl (by decide) (by decide) rfl rfl rfl rfl ?_
              refine w_il hK rfl rfl ?_
              refine w_al hK rfl rfl ?_
              refine w_call [(1, y)] hK rfl rfl rfl rfl (Or.inr ⟨_, _, _, rfl, hy.1.nn, hy.1.lb, hy.1.o⟩) (c_ld hC ⟨hy.1, ((pu_ne (P := pu P a q) (f := rr) (show y ≠ r by omega)).trans ((pu_ne (P := P) (f := q) (show y ≠ a by omega)).trans hy.2))⟩) ?_
              rintro _ Mq ⟨rfl, e_⟩
              subst Mq
              have bv_ := el_I (ld f_y)
              refine ⟨by show (0 : Nat) ≠ 9; decide, (?_ : Wp 198 _ 42 59 [(1, 7), (1, x), (1, y), (0, s), (1, a), (1, r), (0, i), (0, ((cf rr (i + (dg f_y))).val : Int)), w8] [(0, ((ld f_y).val : Int)), (0, ((cf rr (i + (dg f_y))).val : Int)), (1, 1), (1, 1)] N15 _)⟩
              refine w_call [(1, 1), (0, ((cf rr (i + (dg f_y))).val : Int)), (0, ((ld f_y).val : Int))] hK rfl rfl rfl rfl (Or.inr ⟨_, _, _, rfl, by decide, (by decide), rfl⟩) (c_ratio (by decide) hC.F (cf rr (i + (dg f_y))) (ld f_y) ) ?_
              rintro _ Mq ⟨rfl, e_⟩
              subst Mq
              have bv_ := el_I (ml (cf rr (i + (dg f_y))) (iv (ld f_y)))
              refine ⟨by show (0 : Nat) ≠ 9; decide, (?_ : Wp 198 _ 42 60 [(1, 7), (1, x), (1, y), (0, s), (1, a), (1, r), (0, i), (0, ((cf rr (i + (dg f_y))).val : Int)), w8] [(0, ((ml (cf rr (i + (dg f_y))) (iv (ld f_y))).val : Int)), (1, 1)] N15 _)⟩
              refine w_al hK rfl rfl ?_
              refine w_pt hK rfl hy.1 ?_
              rw [show N15 y 1 = dg f_y from hC.t ⟨hy.1, ((pu_ne (P := pu P a q) (f := rr) (show y ≠ r by omega)).trans ((pu_ne (P := P) (f := q) (show y ≠ a by omega)).trans hy.2))⟩]
              refine w_neg hK rfl (by omega) (by omega) ?_
              refine w_call [(1, 1), (0, ((ml (cf rr (i + (dg f_y))) (iv (ld f_y))).val : Int)), (0, (-(dg f_y)))] hK rfl rfl rfl rfl (Or.inr ⟨_, _, _, rfl, by decide, (by decide), rfl⟩) (c_image (by decide) hC.F (ml (cf rr (i + (dg f_y))) (iv (ld f_y))) (-(dg f_y)) (by omega) (by omega)) ?_
              rintro _ Mq ⟨rfl, e_⟩
              subst Mq
              have bv_ := el_I (sgI (-(dg f_y)) (ml (cf rr (i + (dg f_y))) (iv (ld f_y))))
              refine ⟨by show (0 : Nat) ≠ 9; decide, (?_ : Wp 198 _ 42 64 [(1, 7), (1, x), (1, y), (0, s), (1, a), (1, r), (0, i), (0, ((cf rr (i + (dg f_y))).val : Int)), w8] [(0, ((sgI (-(dg f_y)) (ml (cf rr (i + (dg f_y))) (iv (ld f_y)))).val : Int))] N15 _)⟩
              refine w_is [(1, 7), (1, x), (1, y), (0, s), (1, a), (1, r), (0, i), (0, ((cf rr (i + (dg f_y))).val : Int)), (0, ((sgI (-(dg f_y)) (ml (cf rr (i + (dg f_y))) (iv (ld f_y)))).val : Int))] hK rfl rfl rfl ?_
              refine w_al hK rfl rfl ?_
              refine w_il hK rfl rfl ?_
              refine w_il hK rfl rfl ?_
              refine w_call [(1, a), (0, i), (0, ((sgI (-(dg f_y)) (ml (cf rr (i + (dg f_y))) (iv (ld f_y)))).val : Int))] hK rfl rfl rfl rfl (Or.inr ⟨_, _, _, rfl, ha.nn, ha.lb, ha.o⟩) (c_put hC ⟨ha, ((pu_ne (P := pu P a q) (f := rr) (show a ≠ r by omega)).trans pu_eq)⟩ i (sgI (-(dg f_y)) (ml (cf rr (i + (dg f_y))) (iv (ld f_y)))) (by omega) (by omega)) ?_
              rintro _ V12 ⟨rfl, C12, S12⟩
              rw [pu_comm (P := pu P a q) (a := r) (b := a) (f := rr) (g := up1 q i.toNat (sgI (-(dg f_y)) (ml (cf rr (i + (dg f_y))) (iv (ld f_y))))) (by omega), pu_pu (P := P) (p := a) (f := q) (g := up1 q i.toNat (sgI (-(dg f_y)) (ml (cf rr (i + (dg f_y))) (iv (ld f_y)))))] at C12
              refine ⟨by decide, (?_ : Wp 198 _ 42 69 [(1, 7), (1, x), (1, y), (0, s), (1, a), (1, r), (0, i), (0, ((cf rr (i + (dg f_y))).val : Int)), (0, ((sgI (-(dg f_y)) (ml (cf rr (i + (dg f_y))) (iv (ld f_y)))).val : Int))] [] V12 _)⟩
              refine w_al hK rfl rfl ?_
              refine w_al hK rfl rfl ?_
              refine w_il hK rfl rfl ?_
              refine w_il hK rfl rfl ?_
              refine w_al hK rfl rfl ?_
              refine w_call [(1, 7), (1, r), (0, ((sgI (-(dg f_y)) (ml (cf rr (i + (dg f_y))) (iv (ld f_y)))).val : Int)), (0, i), (1, y)] hK rfl rfl rfl rfl (Or.inr ⟨_, _, _, rfl, by decide, (by decide), rfl⟩) (c_behind C12 ⟨hr, pu_eq⟩ ⟨hy.1, ((pu_ne (P := pu P a (up1 q i.toNat (sgI (-(dg f_y)) (ml (cf rr (i + (dg f_y))) (iv (ld f_y)))))) (f := rr) (show y ≠ r by omega)).trans ((pu_ne (P := P) (f := up1 q i.toNat (sgI (-(dg f_y)) (ml (cf rr (i + (dg f_y))) (iv (ld f_y))))) (show y ≠ a by omega)).trans hy.2))⟩ (sgI (-(dg f_y)) (ml (cf rr (i + (dg f_y))) (iv (ld f_y)))) i (by omega) (by omega) (by omega)) ?_
              rintro _ V13 ⟨rfl, C13, S13⟩
              rw [pu_pu (P := pu P a (up1 q i.toNat (sgI (-(dg f_y)) (ml (cf rr (i + (dg f_y))) (iv (ld f_y)))))) (p := r) (f := rr) (g := sbp rr (mlp f_y (mono (sgI (-(dg f_y)) (ml (cf rr (i + (dg f_y))) (iv (ld f_y)))) (Int.toNat i))))] at C13
              refine ⟨by decide, (?_ : Wp 198 _ 42 75 [(1, 7), (1, x), (1, y), (0, s), (1, a), (1, r), (0, i), (0, ((cf rr (i + (dg f_y))).val : Int)), (0, ((sgI (-(dg f_y)) (ml (cf rr (i + (dg f_y))) (iv (ld f_y)))).val : Int))] [] V13 _)⟩
              refine w_inc [(1, 7), (1, x), (1, y), (0, s), (1, a), (1, r), (0, (i + (-1))), (0, ((cf rr (i + (dg f_y))).val : Int)), (0, ((sgI (-(dg f_y)) (ml (cf rr (i + (dg f_y))) (iv (ld f_y)))).val : Int))] hK rfl rfl rfl (by omega) (by omega) rfl ?_
              refine w_goto hK rfl ?_
              exact ih15 _ (by omega) (i - 1) _ _ _ _ V13 rfl (by omega) (by omega) (hD.behind (by omega) (by omega) (by omega) hy2 (by rw [ld_at hb, hb])) C13 (((hS.tr S12).tr S13))
          · have hs0 : s = 0 := by omega
            refine w_al hK rfl rfl ?_
            refine w_getr (n := 0) (v := 1) hK rfl rfl (by decide) (by decide) rfl rfl rfl rfl ?_
            refine w_il hK rfl rfl ?_
            refine w_al hK rfl rfl ?_
            refine w_getr (n := 0) (v := 1) hK rfl rfl (by decide) (by decide) rfl rfl rfl rfl ?_
            refine w_al hK rfl rfl ?_
            refine w_call [(1, y)] hK rfl rfl rfl rfl (Or.inr ⟨_, _, _, rfl, hy.1.nn, hy.1.lb, hy.1.o⟩) (c_ld hC ⟨hy.1, ((pu_ne (P := pu P a q) (f := rr) (show y ≠ r by omega)).trans ((pu_ne (P := P) (f := q) (show y ≠ a by omega)).trans hy.2))⟩) ?_
            rintro _ Mq ⟨rfl, e_⟩
            subst Mq
            have bv_ := el_I (ld f_y)
            refine ⟨by show (0 : Nat) ≠ 9; decide, (?_ : Wp 198 _ 42 35 [(1, 7), (1, x), (1, y), (0, s), (1, a), (1, r), (0, i), (0, ((cf rr (i + (dg f_y))).val : Int)), w8] [(0, ((ld f_y).val : Int)), (1, 1), (0, ((cf rr (i + (dg f_y))).val : Int)), (1, 1)] N15 _)⟩
            refine w_il hK rfl rfl ?_
            refine w_call [(1, 1), (0, ((ld f_y).val : Int)), (0, i)] hK rfl rfl rfl rfl (Or.inr ⟨_, _, _, rfl, by decide, (by decide), rfl⟩) (c_image (by decide) hC.F (ld f_y) i (by omega) (by omega)) ?_
            rintro _ Mq ⟨rfl, e_⟩
            subst Mq
            have bv_ := el_I (sgI i (ld f_y))
            refine ⟨by show (0 : Nat) ≠ 9; decide, (?_ : Wp 198 _ 42 37 [(1, 7), (1, x), (1, y), (0, s), (1, a), (1, r), (0, i), (0, ((cf rr (i + (dg f_y))).val : Int)), w8] [(0, ((sgI i (ld f_y)).val : Int)), (0, ((cf rr (i + (dg f_y))).val : Int)), (1, 1)] N15 _)⟩
            refine w_call [(1, 1), (0, ((cf rr (i + (dg f_y))).val : Int)), (0, ((sgI i (ld f_y)).val : Int))] hK rfl rfl rfl rfl (Or.inr ⟨_, _, _, rfl, by decide, (by decide), rfl⟩) (c_ratio (by decide) hC.F (cf rr (i + (dg f_y))) (sgI i (ld f_y)) ) ?_
            rintro _ Mq ⟨rfl, e_⟩
            subst Mq
            have bv_ := el_I (ml (cf rr (i + (dg f_y))) (iv (sgI i (ld f_y))))
            refine ⟨by show (0 : Nat) ≠ 9; decide, (?_ : Wp 198 _ 42 38 [(1, 7), (1, x), (1, y), (0, s), (1, a), (1, r), (0, i), (0, ((cf rr (i + (dg f_y))).val : Int)), w8] [(0, ((ml (cf rr (i + (dg f_y))) (iv (sgI i (ld f_y)))).val : Int))] N15 _)⟩
            refine w_is [(1, 7), (1, x), (1, y), (0, s), (1, a), (1, r), (0, i), (0, ((cf rr (i + (dg f_y))).val : Int)), (0, ((ml (cf rr (i + (dg f_y))) (iv (sgI i (ld f_y)))).val : Int))] hK rfl rfl rfl ?_
            refine w_al hK rfl rfl ?_
            refine w_il hK rfl rfl ?_
            refine w_il hK rfl rfl ?_
            refine w_call [(1, a), (0, i), (0, ((ml (cf rr (i + (dg f_y))) (iv (sgI i (ld f_y)))).val : Int))] hK rfl rfl rfl rfl (Or.inr ⟨_, _, _, rfl, ha.nn, ha.lb, ha.o⟩) (c_put hC ⟨ha, ((pu_ne (P := pu P a q) (f := rr) (show a ≠ r by omega)).trans pu_eq)⟩ i (ml (cf rr (i + (dg f_y))) (iv (sgI i (ld f_y)))) (by omega) (by omega)) ?_
            rintro _ V14 ⟨rfl, C14, S14⟩
            rw [pu_comm (P := pu P a q) (a := r) (b := a) (f := rr) (g := up1 q i.toNat (ml (cf rr (i + (dg f_y))) (iv (sgI i (ld f_y))))) (by omega), pu_pu (P := P) (p := a) (f := q) (g := up1 q i.toNat (ml (cf rr (i + (dg f_y))) (iv (sgI i (ld f_y)))))] at C14
            refine ⟨by decide, (?_ : Wp 198 _ 42 43 [(1, 7), (1, x), (1, y), (0, s), (1, a), (1, r), (0, i), (0, ((cf rr (i + (dg f_y))).val : Int)), (0, ((ml (cf rr (i + (dg f_y))) (iv (sgI i (ld f_y)))).val : Int))] [] V14 _)⟩
            refine w_al hK rfl rfl ?_
            refine w_al hK rfl rfl ?_
            refine w_il hK rfl rfl ?_
            refine w_il hK rfl rfl ?_
            refine w_al hK rfl rfl ?_
            refine w_call [(1, 7), (1, r), (0, ((ml (cf rr (i + (dg f_y))) (iv (sgI i (ld f_y)))).val : Int)), (0, i), (1, y)] hK rfl rfl rfl rfl (Or.inr ⟨_, _, _, rfl, by decide, (by decide), rfl⟩) (c_ahead C14 ⟨hr, pu_eq⟩ ⟨hy.1, ((pu_ne (P := pu P a (up1 q i.toNat (ml (cf rr (i + (dg f_y))) (iv (sgI i (ld f_y)))))) (f := rr) (show y ≠ r by omega)).trans ((pu_ne (P := P) (f := up1 q i.toNat (ml (cf rr (i + (dg f_y))) (iv (sgI i (ld f_y))))) (show y ≠ a by omega)).trans hy.2))⟩ (ml (cf rr (i + (dg f_y))) (iv (sgI i (ld f_y)))) i (by omega) (by omega) (by omega)) ?_
            rintro _ V15 ⟨rfl, C15, S15⟩
            rw [pu_pu (P := pu P a (up1 q i.toNat (ml (cf rr (i + (dg f_y))) (iv (sgI i (ld f_y)))))) (p := r) (f := rr) (g := sbp rr (mlp (mono (ml (cf rr (i + (dg f_y))) (iv (sgI i (ld f_y)))) (Int.toNat i)) f_y))] at C15
            refine ⟨by decide, (?_ : Wp 198 _ 42 49 [(1, 7), (1, x), (1, y), (0, s), (1, a), (1, r), (0, i), (0, ((cf rr (i + (dg f_y))).val : Int)), (0, ((ml (cf rr (i + (dg f_y))) (iv (sgI i (ld f_y)))).val : Int))] [] V15 _)⟩
            refine w_goto hK rfl ?_
            refine w_inc [(1, 7), (1, x), (1, y), (0, s), (1, a), (1, r), (0, (i + (-1))), (0, ((cf rr (i + (dg f_y))).val : Int)), (0, ((ml (cf rr (i + (dg f_y))) (iv (sgI i (ld f_y)))).val : Int))] hK rfl rfl rfl (by omega) (by omega) rfl ?_
            refine w_goto hK rfl ?_
            exact ih15 _ (by omega) (i - 1) _ _ _ _ V15 rfl (by omega) (by omega) (by subst hs0; exact hD.ahead (by omega) (by omega) hy2 (by rw [ld_at hb, hb, sgI_toNat (by omega)])) C15 (((hS.tr S14).tr S15))
    exact lp15 _ (dg f_x - dg f_y) pz f_x _ _ V9 rfl (by omega) (by omega) (DI.start (fun j hj => C.z hx (by omega))) C9 ((S8.tr S9))
  · refine w_ret hK rfl rfl ?_
    have e := C9
    obtain ⟨e1_, e2_⟩ := dv_pz (k := k) s f_x
    rw [show f_y = pz from (dg_neg ((C.bd hy).mono (by decide))).mp (by omega), e1_, e2_]
    exact ⟨rfl, e, (S8.tr S9)⟩
