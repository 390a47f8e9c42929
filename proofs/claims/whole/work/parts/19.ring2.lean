/-! contracts: Ring, products and divisions -/
theorem pu_comm {k : Nat} {P : Int → Pl k} {a b : Int} {f g : Pl k} (h : a ≠ b) : pu (pu P a f) b g = pu (pu P b g) a f := by
  funext q
  unfold pu
  by_cases e : q = b
  · rw [if_pos e, if_neg (by omega), if_pos e]
  · rw [if_neg e, if_neg e]
theorem mx_at {k : Nat} {s h : Pl k} {i : Int} : cf (mx s h i) i = cf h i := by
  unfold cf
  split
  · unfold mx; rw [if_neg (by omega)]
  · rfl
theorem mx_up {k : Nat} {s h : Pl k} {i : Int} {w : El k} (h0 : 0 ≤ i) (hw : w = s i.toNat) : up1 (mx s h i) i.toNat w = mx s h (i - 1) := by
  funext j
  unfold up1 mx
  by_cases e : j = i.toNat
  · subst e; rw [if_pos rfl, if_pos (by omega), hw]
  · rw [if_neg e]
    by_cases e2 : i < (j : Int)
    · rw [if_pos e2, if_pos (by omega)]
    · rw [if_neg e2, if_neg (by omega)]
theorem sgI_toNat {k : Nat} {i : Int} (h : 0 ≤ i) (c : El k) : sgI i c = sg i.toNat c := by rw [← sgI_nat, Int.toNat_of_nonneg h]
set_option maxRecDepth 100000 in
theorem c_ahead {d : Nat} {M : Mem} {k : Nat} {P : Int → Pl k} (C : CS M k P) {r y : Int} (hr : isP r) (hy : isP y) (c : El k) (j : Int) (hne : y ≠ r) (h0 : 0 ≤ j) (hj : j + dg (P y) ≤ 16) : Ct 198 (d + 2) 43 [(1, 7), (1, r), (0, (c.val : Int)), (0, j), (1, y)] M (fun r_ M' => r_ = (4, 0) ∧ CS M' k (pu P r (sbp (P r) (mlp (mono c j.toNat) (P y)))) ∧ NPS M M') := by
  have hK : cd 43 = k43 := rfl
  have dr_ := C.dI hr
  have dy := C.dI hy
  have bc := el_I c
  show Wp 198 _ 43 0 [(1, 7), (1, r), (0, (c.val : Int)), (0, j), (1, y), (3, 0), (3, 0)] [] M _
  refine w_al hK rfl rfl ?_
  refine w_pt hK rfl hy ?_
  rw [show M y 1 = dg (P y) from (C.t hy)]
  refine w_is [(1, 7), (1, r), (0, (c.val : Int)), (0, j), (1, y), (0, (dg (P y))), (3, 0)] hK rfl rfl rfl ?_
  have lp3 : ∀ (n_ : Nat) (i : Int) (w6 : AV) (N3 : Mem), (i + 1).toNat = n_ → (-1 ≤ i) → (i ≤ dg (P y)) → (CS N3 k (pu P r (mx (sbp (P r) (mlp (mono c j.toNat) (P y))) (P r) (j + i)))) → (NPS M N3) → Wp 198 (d + 2) 43 3 [(1, 7), (1, r), (0, (c.val : Int)), (0, j), (1, y), (0, i), w6] [] N3 (fun r_ M' => r_ = (4, 0) ∧ CS M' k (pu P r (sbp (P r) (mlp (mono c j.toNat) (P y)))) ∧ NPS M M') := by
    intro n_
    induction n_ using Nat.strongRecOn with
    | _ n_ ih3 =>
    intro i w6 N3 hm3 hi1 hi2 hC hS
    refine w_il hK rfl rfl ?_
    refine w_lt hK rfl (by omega) (by omega) (fun h4 => ?_) (fun h4 => ?_)
    · refine w_ret hK rfl rfl ?_
      rw [show mx (sbp (P r) (mlp (mono c j.toNat) (P y))) (P r) (j + i) = sbp (P r) (mlp (mono c j.toNat) (P y)) from by
        funext n
        unfold mx
        by_cases q : j + i < (n : Int)
        · rw [if_pos q]
        · rw [if_neg q]
          show P r n = ad (P r n) (ng (mlp _ _ n))
          rw [mono_mlp, if_neg (by omega), ng_z, ad_zero]] at hC
      exact ⟨rfl, hC, hS⟩
    · refine w_al hK rfl rfl ?_
      refine w_getr (n := 0) (v := 1) hK rfl rfl (by decide) (by decide) rfl rfl rfl rfl ?_
      refine w_il hK rfl rfl ?_
      refine w_al hK rfl rfl ?_
      refine w_getr (n := 0) (v := 1) hK rfl rfl (by decide) (by decide) rfl rfl rfl rfl ?_
      refine w_al hK rfl rfl ?_
      refine w_il hK rfl rfl ?_
      refine w_call [(1, y), (0, i)] hK rfl rfl rfl rfl (Or.inr ⟨_, _, _, rfl, hy.nn, hy.lb, hy.o⟩) (c_at hC hy i (by omega) (by omega)) ?_
      rintro _ Mq ⟨rfl, e_⟩
      subst Mq
      rw [show (pu P r (mx (sbp (P r) (mlp (mono c j.toNat) (P y))) (P r) (j + i))) y = P y from (pu_ne (P := P) (f := mx (sbp (P r) (mlp (mono c j.toNat) (P y))) (P r) (j + i)) (show y ≠ r by omega))]
      refine ⟨by show (0 : Nat) ≠ 9; decide, (?_ : Wp 198 _ 43 13 [(1, 7), (1, r), (0, (c.val : Int)), (0, j), (1, y), (0, i), w6] [(0, ((cf (P y) i).val : Int)), (1, 1), (0, (c.val : Int)), (1, 1)] N3 _)⟩
      refine w_il hK rfl rfl ?_
      refine w_call [(1, 1), (0, ((cf (P y) i).val : Int)), (0, j)] hK rfl rfl rfl rfl (Or.inr ⟨_, _, _, rfl, by decide, (by decide), rfl⟩) (c_image (by decide) hC.F (cf (P y) i) j (by omega) (by omega)) ?_
      rintro _ Mq ⟨rfl, e_⟩
      subst Mq
      refine ⟨by show (0 : Nat) ≠ 9; decide, (?_ : Wp 198 _ 43 15 [(1, 7), (1, r), (0, (c.val : Int)), (0, j), (1, y), (0, i), w6] [(0, ((sgI j (cf (P y) i)).val : Int)), (0, (c.val : Int)), (1, 1)] N3 _)⟩
      refine w_call [(1, 1), (0, (c.val : Int)), (0, ((sgI j (cf (P y) i)).val : Int))] hK rfl rfl rfl rfl (Or.inr ⟨_, _, _, rfl, by decide, (by decide), rfl⟩) (c_prod (by decide) hC.F c (sgI j (cf (P y) i)) ) ?_
      rintro _ Mq ⟨rfl, e_⟩
      subst Mq
      refine ⟨by show (0 : Nat) ≠ 9; decide, (?_ : Wp 198 _ 43 16 [(1, 7), (1, r), (0, (c.val : Int)), (0, j), (1, y), (0, i), w6] [(0, ((ml c (sgI j (cf (P y) i))).val : Int))] N3 _)⟩
      refine w_is [(1, 7), (1, r), (0, (c.val : Int)), (0, j), (1, y), (0, i), (0, ((ml c (sgI j (cf (P y) i))).val : Int))] hK rfl rfl rfl ?_
      refine w_al hK rfl rfl ?_
      refine w_il hK rfl rfl ?_
      refine w_il hK rfl rfl ?_
      refine w_add hK rfl (by omega) (by omega) ?_
      refine w_al hK rfl rfl ?_
      refine w_getr (n := 0) (v := 1) hK rfl rfl (by decide) (by decide) rfl rfl rfl rfl ?_
      refine w_al hK rfl rfl ?_
      refine w_il hK rfl rfl ?_
      refine w_il hK rfl rfl ?_
      refine w_add hK rfl (by omega) (by omega) ?_
      refine w_call [(1, r), (0, (j + i))] hK rfl rfl rfl rfl (Or.inr ⟨_, _, _, rfl, hr.nn, hr.lb, hr.o⟩) (c_at hC hr (j + i) (by omega) (by omega)) ?_
      rintro _ Mq ⟨rfl, e_⟩
      subst Mq
      rw [show (pu P r (mx (sbp (P r) (mlp (mono c j.toNat) (P y))) (P r) (j + i))) r = mx (sbp (P r) (mlp (mono c j.toNat) (P y))) (P r) (j + i) from pu_eq]
      refine ⟨by show (0 : Nat) ≠ 9; decide, (?_ : Wp 198 _ 43 28 [(1, 7), (1, r), (0, (c.val : Int)), (0, j), (1, y), (0, i), (0, ((ml c (sgI j (cf (P y) i))).val : Int))] [(0, ((cf (mx (sbp (P r) (mlp (mono c j.toNat) (P y))) (P r) (j + i)) (j + i)).val : Int)), (1, 1), (0, (j + i)), (1, r)] N3 _)⟩
      refine w_il hK rfl rfl ?_
      refine w_call [(1, 1), (0, ((cf (mx (sbp (P r) (mlp (mono c j.toNat) (P y))) (P r) (j + i)) (j + i)).val : Int)), (0, ((ml c (sgI j (cf (P y) i))).val : Int))] hK rfl rfl rfl rfl (Or.inr ⟨_, _, _, rfl, by decide, (by decide), rfl⟩) (c_diff (by decide) hC.F (cf (mx (sbp (P r) (mlp (mono c j.toNat) (P y))) (P r) (j + i)) (j + i)) (ml c (sgI j (cf (P y) i))) ) ?_
      rintro _ Mq ⟨rfl, e_⟩
      subst Mq
      refine ⟨by show (0 : Nat) ≠ 9; decide, (?_ : Wp 198 _ 43 30 [(1, 7), (1, r), (0, (c.val : Int)), (0, j), (1, y), (0, i), (0, ((ml c (sgI j (cf (P y) i))).val : Int))] [(0, ((ad (cf (mx (sbp (P r) (mlp (mono c j.toNat) (P y))) (P r) (j + i)) (j + i)) (ng (ml c (sgI j (cf (P y) i))))).val : Int)), (0, (j + i)), (1, r)] N3 _)⟩
      refine w_call [(1, r), (0, (j + i)), (0, ((ad (cf (mx (sbp (P r) (mlp (mono c j.toNat) (P y))) (P r) (j + i)) (j + i)) (ng (ml c (sgI j (cf (P y) i))))).val : Int))] hK rfl rfl rfl rfl (Or.inr ⟨_, _, _, rfl, hr.nn, hr.lb, hr.o⟩) (c_put hC hr (j + i) (ad (cf (mx (sbp (P r) (mlp (mono c j.toNat) (P y))) (P r) (j + i)) (j + i)) (ng (ml c (sgI j (cf (P y) i))))) (by omega) (by omega)) ?_
      rintro _ V1 ⟨rfl, C1, S1⟩
      rw [show (pu P r (mx (sbp (P r) (mlp (mono c j.toNat) (P y))) (P r) (j + i))) r = mx (sbp (P r) (mlp (mono c j.toNat) (P y))) (P r) (j + i) from pu_eq] at C1
      rw [pu_pu (P := P) (p := r) (f := mx (sbp (P r) (mlp (mono c j.toNat) (P y))) (P r) (j + i)) (g := up1 (mx (sbp (P r) (mlp (mono c j.toNat) (P y))) (P r) (j + i)) (j + i).toNat (ad (cf (mx (sbp (P r) (mlp (mono c j.toNat) (P y))) (P r) (j + i)) (j + i)) (ng (ml c (sgI j (cf (P y) i))))))] at C1
      refine ⟨by decide, (?_ : Wp 198 _ 43 31 [(1, 7), (1, r), (0, (c.val : Int)), (0, j), (1, y), (0, i), (0, ((ml c (sgI j (cf (P y) i))).val : Int))] [] V1 _)⟩
      refine w_inc [(1, 7), (1, r), (0, (c.val : Int)), (0, j), (1, y), (0, (i + (-1))), (0, ((ml c (sgI j (cf (P y) i))).val : Int))] hK rfl rfl rfl (by omega) (by omega) rfl ?_
      refine w_goto hK rfl ?_
      exact ih3 _ (by omega) (i - 1) _ V1 rfl (by omega) (by omega) (by have e := C1; rw [mx_up (s := sbp (P r) (mlp (mono c j.toNat) (P y))) (h := P r) (i := j + i) (by omega), show j + i - 1 = j + (i - 1) by omega] at e; exact e; rw [mx_at, cf_toNat (by omega), cf_toNat (by omega), sgI_toNat (by omega)]; show _ = ad _ (ng (mlp _ _ _)); rw [mono_mlp, if_pos (by omega), show (j + i).toNat - j.toNat = i.toNat by omega]) ((hS.tr S1))
  exact lp3 _ (dg (P y)) _ M rfl (by omega) (by omega) (by rw [mx_none (s := sbp (P r) (mlp (mono c j.toNat) (P y))) (h := P r) (i := j + dg (P y)) (fun n hn => by show ad (P r n) (ng (mlp _ _ n)) = P r n; rw [mono_mlp, if_pos (by omega), C.z hy (by omega), sg_z, ml_zero, ng_z, ad_zero]), pu_self rfl]; exact C) NPS.rf
set_option maxRecDepth 100000 in
theorem c_behind {d : Nat} {M : Mem} {k : Nat} {P : Int → Pl k} (C : CS M k P) {r y : Int} (hr : isP r) (hy : isP y) (c : El k) (j : Int) (hne : y ≠ r) (h0 : 0 ≤ j) (hj : j + dg (P y) ≤ 16) : Ct 198 (d + 2) 44 [(1, 7), (1, r), (0, (c.val : Int)), (0, j), (1, y)] M (fun r_ M' => r_ = (4, 0) ∧ CS M' k (pu P r (sbp (P r) (mlp (P y) (mono c j.toNat)))) ∧ NPS M M') := by
  have hK : cd 44 = k44 := rfl
  have dr_ := C.dI hr
  have dy := C.dI hy
  have bc := el_I c
  show Wp 198 _ 44 0 [(1, 7), (1, r), (0, (c.val : Int)), (0, j), (1, y), (3, 0), (3, 0)] [] M _
  refine w_al hK rfl rfl ?_
  refine w_pt hK rfl hy ?_
  rw [show M y 1 = dg (P y) from (C.t hy)]
  refine w_is [(1, 7), (1, r), (0, (c.val : Int)), (0, j), (1, y), (0, (dg (P y))), (3, 0)] hK rfl rfl rfl ?_
  have lp3 : ∀ (n_ : Nat) (i : Int) (w6 : AV) (N3 : Mem), (i + 1).toNat = n_ → (-1 ≤ i) → (i ≤ dg (P y)) → (CS N3 k (pu P r (mx (sbp (P r) (mlp (P y) (mono c j.toNat))) (P r) (j + i)))) → (NPS M N3) → Wp 198 (d + 2) 44 3 [(1, 7), (1, r), (0, (c.val : Int)), (0, j), (1, y), (0, i), w6] [] N3 (fun r_ M' => r_ = (4, 0) ∧ CS M' k (pu P r (sbp (P r) (mlp (P y) (mono c j.toNat)))) ∧ NPS M M') := by
    intro n_
    induction n_ using Nat.strongRecOn with
    | _ n_ ih3 =>
    intro i w6 N3 hm3 hi1 hi2 hC hS
    refine w_il hK rfl rfl ?_
    refine w_lt hK rfl (by omega) (by omega) (fun h4 => ?_) (fun h4 => ?_)
    · refine w_ret hK rfl rfl ?_
      rw [show mx (sbp (P r) (mlp (P y) (mono c j.toNat))) (P r) (j + i) = sbp (P r) (mlp (P y) (mono c j.toNat)) from by
        funext n
        unfold mx
        by_cases q : j + i < (n : Int)
        · rw [if_pos q]
        · rw [if_neg q]
          show P r n = ad (P r n) (ng (mlp _ _ n))
          rw [mlp_mono, if_neg (by omega), ng_z, ad_zero]] at hC
      exact ⟨rfl, hC, hS⟩
    · refine w_al hK rfl rfl ?_
      refine w_getr (n := 0) (v := 1) hK rfl rfl (by decide) (by decide) rfl rfl rfl rfl ?_
      refine w_al hK rfl rfl ?_
      refine w_il hK rfl rfl ?_
      refine w_call [(1, y), (0, i)] hK rfl rfl rfl rfl (Or.inr ⟨_, _, _, rfl, hy.nn, hy.lb, hy.o⟩) (c_at hC hy i (by omega) (by omega)) ?_
      rintro _ Mq ⟨rfl, e_⟩
      subst Mq
      rw [show (pu P r (mx (sbp (P r) (mlp (P y) (mono c j.toNat))) (P r) (j + i))) y = P y from (pu_ne (P := P) (f := mx (sbp (P r) (mlp (P y) (mono c j.toNat))) (P r) (j + i)) (show y ≠ r by omega))]
      refine ⟨by show (0 : Nat) ≠ 9; decide, (?_ : Wp 198 _ 44 10 [(1, 7), (1, r), (0, (c.val : Int)), (0, j), (1, y), (0, i), w6] [(0, ((cf (P y) i).val : Int)), (1, 1)] N3 _)⟩
      refine w_al hK rfl rfl ?_
      refine w_getr (n := 0) (v := 1) hK rfl rfl (by decide) (by decide) rfl rfl rfl rfl ?_
      refine w_il hK rfl rfl ?_
      refine w_il hK rfl rfl ?_
      refine w_call [(1, 1), (0, (c.val : Int)), (0, i)] hK rfl rfl rfl rfl (Or.inr ⟨_, _, _, rfl, by decide, (by decide), rfl⟩) (c_image (by decide) hC.F c i (by omega) (by omega)) ?_
      rintro _ Mq ⟨rfl, e_⟩
      subst Mq
      refine ⟨by show (0 : Nat) ≠ 9; decide, (?_ : Wp 198 _ 44 15 [(1, 7), (1, r), (0, (c.val : Int)), (0, j), (1, y), (0, i), w6] [(0, ((sgI i c).val : Int)), (0, ((cf (P y) i).val : Int)), (1, 1)] N3 _)⟩
      refine w_call [(1, 1), (0, ((cf (P y) i).val : Int)), (0, ((sgI i c).val : Int))] hK rfl rfl rfl rfl (Or.inr ⟨_, _, _, rfl, by decide, (by decide), rfl⟩) (c_prod (by decide) hC.F (cf (P y) i) (sgI i c) ) ?_
      rintro _ Mq ⟨rfl, e_⟩
      subst Mq
      refine ⟨by show (0 : Nat) ≠ 9; decide, (?_ : Wp 198 _ 44 16 [(1, 7), (1, r), (0, (c.val : Int)), (0, j), (1, y), (0, i), w6] [(0, ((ml (cf (P y) i) (sgI i c)).val : Int))] N3 _)⟩
      refine w_is [(1, 7), (1, r), (0, (c.val : Int)), (0, j), (1, y), (0, i), (0, ((ml (cf (P y) i) (sgI i c)).val : Int))] hK rfl rfl rfl ?_
      refine w_al hK rfl rfl ?_
      refine w_il hK rfl rfl ?_
      refine w_il hK rfl rfl ?_
      refine w_add hK rfl (by omega) (by omega) ?_
      refine w_al hK rfl rfl ?_
      refine w_getr (n := 0) (v := 1) hK rfl rfl (by decide) (by decide) rfl rfl rfl rfl ?_
      refine w_al hK rfl rfl ?_
      refine w_il hK rfl rfl ?_
      refine w_il hK rfl rfl ?_
      refine w_add hK rfl (by omega) (by omega) ?_
      refine w_call [(1, r), (0, (j + i))] hK rfl rfl rfl rfl (Or.inr ⟨_, _, _, rfl, hr.nn, hr.lb, hr.o⟩) (c_at hC hr (j + i) (by omega) (by omega)) ?_
      rintro _ Mq ⟨rfl, e_⟩
      subst Mq
      rw [show (pu P r (mx (sbp (P r) (mlp (P y) (mono c j.toNat))) (P r) (j + i))) r = mx (sbp (P r) (mlp (P y) (mono c j.toNat))) (P r) (j + i) from pu_eq]
      refine ⟨by show (0 : Nat) ≠ 9; decide, (?_ : Wp 198 _ 44 28 [(1, 7), (1, r), (0, (c.val : Int)), (0, j), (1, y), (0, i), (0, ((ml (cf (P y) i) (sgI i c)).val : Int))] [(0, ((cf (mx (sbp (P r) (mlp (P y) (mono c j.toNat))) (P r) (j + i)) (j + i)).val : Int)), (1, 1), (0, (j + i)), (1, r)] N3 _)⟩
      refine w_il hK rfl rfl ?_
      refine w_call [(1, 1), (0, ((cf (mx (sbp (P r) (mlp (P y) (mono c j.toNat))) (P r) (j + i)) (j + i)).val : Int)), (0, ((ml (cf (P y) i) (sgI i c)).val : Int))] hK rfl rfl rfl rfl (Or.inr ⟨_, _, _, rfl, by decide, (by decide), rfl⟩) (c_diff (by decide) hC.F (cf (mx (sbp (P r) (mlp (P y) (mono c j.toNat))) (P r) (j + i)) (j + i)) (ml (cf (P y) i) (sgI i c)) ) ?_
      rintro _ Mq ⟨rfl, e_⟩
      subst Mq
      refine ⟨by show (0 : Nat) ≠ 9; decide, (?_ : Wp 198 _ 44 30 [(1, 7), (1, r), (0, (c.val : Int)), (0, j), (1, y), (0, i), (0, ((ml (cf (P y) i) (sgI i c)).val : Int))] [(0, ((ad (cf (mx (sbp (P r) (mlp (P y) (mono c j.toNat))) (P r) (j + i)) (j + i)) (ng (ml (cf (P y) i) (sgI i c)))).val : Int)), (0, (j + i)), (1, r)] N3 _)⟩
      refine w_call [(1, r), (0, (j + i)), (0, ((ad (cf (mx (sbp (P r) (mlp (P y) (mono c j.toNat))) (P r) (j + i)) (j + i)) (ng (ml (cf (P y) i) (sgI i c)))).val : Int))] hK rfl rfl rfl rfl (Or.inr ⟨_, _, _, rfl, hr.nn, hr.lb, hr.o⟩) (c_put hC hr (j + i) (ad (cf (mx (sbp (P r) (mlp (P y) (mono c j.toNat))) (P r) (j + i)) (j + i)) (ng (ml (cf (P y) i) (sgI i c)))) (by omega) (by omega)) ?_
      rintro _ V2 ⟨rfl, C2, S2⟩
      rw [show (pu P r (mx (sbp (P r) (mlp (P y) (mono c j.toNat))) (P r) (j + i))) r = mx (sbp (P r) (mlp (P y) (mono c j.toNat))) (P r) (j + i) from pu_eq] at C2
      rw [pu_pu (P := P) (p := r) (f := mx (sbp (P r) (mlp (P y) (mono c j.toNat))) (P r) (j + i)) (g := up1 (mx (sbp (P r) (mlp (P y) (mono c j.toNat))) (P r) (j + i)) (j + i).toNat (ad (cf (mx (sbp (P r) (mlp (P y) (mono c j.toNat))) (P r) (j + i)) (j + i)) (ng (ml (cf (P y) i) (sgI i c)))))] at C2
      refine ⟨by decide, (?_ : Wp 198 _ 44 31 [(1, 7), (1, r), (0, (c.val : Int)), (0, j), (1, y), (0, i), (0, ((ml (cf (P y) i) (sgI i c)).val : Int))] [] V2 _)⟩
      refine w_inc [(1, 7), (1, r), (0, (c.val : Int)), (0, j), (1, y), (0, (i + (-1))), (0, ((ml (cf (P y) i) (sgI i c)).val : Int))] hK rfl rfl rfl (by omega) (by omega) rfl ?_
      refine w_goto hK rfl ?_
      exact ih3 _ (by omega) (i - 1) _ V2 rfl (by omega) (by omega) (by have e := C2; rw [mx_up (s := sbp (P r) (mlp (P y) (mono c j.toNat))) (h := P r) (i := j + i) (by omega), show j + i - 1 = j + (i - 1) by omega] at e; exact e; rw [mx_at, cf_toNat (by omega), cf_toNat (by omega), sgI_toNat (by omega)]; show _ = ad _ (ng (mlp _ _ _)); rw [mlp_mono, if_pos (by omega), show (j + i).toNat - j.toNat = i.toNat by omega]) ((hS.tr S2))
  exact lp3 _ (dg (P y)) _ M rfl (by omega) (by omega) (by rw [mx_none (s := sbp (P r) (mlp (P y) (mono c j.toNat))) (h := P r) (i := j + dg (P y)) (fun n hn => by show ad (P r n) (ng (mlp _ _ n)) = P r n; rw [mlp_mono, if_pos (by omega), C.z hy (by omega), zero_ml, ng_z, ad_zero]), pu_self rfl]; exact C) NPS.rf
set_option maxRecDepth 100000 in
theorem c_rprd {d : Nat} {M : Mem} {k : Nat} {P : Int → Pl k} (C : CS M k P) {x y o : Int} (hx : isP x) (hy : isP y) (ho : isP o) (x8 : x ≠ 8) (y8 : y ≠ 8) (hd : dg (P x) + dg (P y) ≤ 16) : Ct 198 (d + 2) 41 [(1, 7), (1, x), (1, y), (1, o)] M (fun r M' => r = (4, 0) ∧ CS M' k (pu (pu P 8 (mlp (P x) (P y))) o (mlp (P x) (P y))) ∧ NPS M M') := by
  have hK : cd 41 = k41 := rfl
  have dx := C.dI hx
  have dy := C.dI hy
  have do_ := C.dI ho
  show Wp 198 _ 41 0 [(1, 7), (1, x), (1, y), (1, o), (3, 0), (3, 0), (3, 0)] [] M _
  refine w_al hK rfl rfl ?_
  refine w_getr (n := 1) (v := 8) hK rfl rfl (by decide) (by decide) rfl rfl rfl rfl ?_
  refine w_call [(1, 8)] hK rfl rfl rfl rfl (Or.inr ⟨_, _, _, rfl, by decide, (by decide), rfl⟩) (c_clear C (isP_of (p := 8) rfl)) ?_
  rintro _ V3 ⟨rfl, C3, S3⟩
  refine ⟨by decide, (?_ : Wp 198 _ 41 3 [(1, 7), (1, x), (1, y), (1, o), (3, 0), (3, 0), (3, 0)] [] V3 _)⟩
  refine w_ic hK rfl ?_
  refine w_is [(1, 7), (1, x), (1, y), (1, o), (0, 0), (3, 0), (3, 0)] hK rfl rfl rfl ?_
  have lp5 : ∀ (n_ : Nat) (i : Nat) (w5 w6 : AV) (N5 : Mem), 17 - i = n_ → (i ≤ 17) → (CS N5 k (pu P 8 (pmp (P x) (P y) i 0))) → (NPS M N5) → Wp 198 (d + 2) 41 5 [(1, 7), (1, x), (1, y), (1, o), (0, (i : Int)), w5, w6] [] N5 (fun r M' => r = (4, 0) ∧ CS M' k (pu (pu P 8 (mlp (P x) (P y))) o (mlp (P x) (P y))) ∧ NPS M M') := by
    intro n_
    induction n_ using Nat.strongRecOn with
    | _ n_ ih5 =>
    intro i w5 w6 N5 hm5 hi hC hS
    refine w_il hK rfl rfl ?_
    refine w_al hK rfl rfl ?_
    refine w_pt hK rfl hx ?_
    rw [show N5 x 1 = dg (P x) from ((hC.t hx).trans (congrArg dg (pu_ne (P := P) (f := pmp (P x) (P y) i 0) (show x ≠ 8 by omega))))]
    refine w_gt2 hK rfl (by omega) (by omega) (by omega) (by omega) (fun h8 => ?_) (fun h8 => ?_)
    · refine w_al hK rfl rfl ?_
      refine w_al hK rfl rfl ?_
      refine w_getr (n := 1) (v := 8) hK rfl rfl (by decide) (by decide) rfl rfl rfl rfl ?_
      refine w_call [(1, o), (1, 8)] hK rfl rfl rfl rfl (Or.inr ⟨_, _, _, rfl, ho.nn, ho.lb, ho.o⟩) (c_copy hC ho (isP_of (p := 8) rfl)) ?_
      rintro _ V4 ⟨rfl, C4, S4⟩
      rw [show (pu P 8 (pmp (P x) (P y) i 0)) 8 = pmp (P x) (P y) i 0 from pu_eq] at C4
      refine ⟨by decide, (?_ : Wp 198 _ 41 53 [(1, 7), (1, x), (1, y), (1, o), (0, (i : Int)), w5, w6] [] V4 _)⟩
      refine w_ret hK rfl rfl ?_
      have e := C4
      rw [pmp_end _ _ _ (fun n hn => C.z hx (by omega))] at e
      exact ⟨rfl, e, (hS.tr S4)⟩
    · refine w_ic hK rfl ?_
      refine w_is [(1, 7), (1, x), (1, y), (1, o), (0, (i : Int)), (0, 0), w6] hK rfl rfl rfl ?_
      have lp11 : ∀ (n_ : Nat) (j : Nat) (w6 : AV) (N11 : Mem), 17 - j = n_ → (j ≤ 17) → (CS N11 k (pu P 8 (pmp (P x) (P y) i j))) → (NPS M N11) → Wp 198 (d + 2) 41 11 [(1, 7), (1, x), (1, y), (1, o), (0, (i : Int)), (0, (j : Int)), w6] [] N11 (fun r M' => r = (4, 0) ∧ CS M' k (pu (pu P 8 (mlp (P x) (P y))) o (mlp (P x) (P y))) ∧ NPS M M') := by
        intro n_
        induction n_ using Nat.strongRecOn with
        | _ n_ ih11 =>
        intro j w6 N11 hm11 hj hD hT
        refine w_il hK rfl rfl ?_
        refine w_al hK rfl rfl ?_
        refine w_pt hK rfl hy ?_
        rw [show N11 y 1 = dg (P y) from ((hD.t hy).trans (congrArg dg (pu_ne (P := P) (f := pmp (P x) (P y) i j) (show y ≠ 8 by omega))))]
        refine w_gt2 hK rfl (by omega) (by omega) (by omega) (by omega) (fun h14 => ?_) (fun h14 => ?_)
        · refine w_inc [(1, 7), (1, x), (1, y), (1, o), (0, ((i : Int) + 1)), (0, (j : Int)), w6] hK rfl rfl rfl (by omega) (by omega) rfl ?_
          refine w_goto hK rfl ?_
          exact ih5 _ (by omega) (i + 1) _ _ N11 rfl (by omega) (by have e := hD; rw [pmp_row _ _ _ _ (fun n hn => C.z hy (by omega))] at e; exact e) (hT)
        · refine w_al hK rfl rfl ?_
          refine w_getr (n := 0) (v := 1) hK rfl rfl (by decide) (by decide) rfl rfl rfl rfl ?_
          refine w_al hK rfl rfl ?_
          refine w_il hK rfl rfl ?_
          refine w_call [(1, x), (0, (i : Int))] hK rfl rfl rfl rfl (Or.inr ⟨_, _, _, rfl, hx.nn, hx.lb, hx.o⟩) (c_atN hD hx i (by omega)) ?_
          rintro _ Mq ⟨rfl, e_⟩
          subst Mq
          rw [show (pu P 8 (pmp (P x) (P y) i j)) x = P x from (pu_ne (P := P) (f := pmp (P x) (P y) i j) (show x ≠ 8 by omega))]
          refine ⟨by show (0 : Nat) ≠ 9; decide, (?_ : Wp 198 _ 41 20 [(1, 7), (1, x), (1, y), (1, o), (0, (i : Int)), (0, (j : Int)), w6] [(0, ((P x i).val : Int)), (1, 1)] N11 _)⟩
          refine w_al hK rfl rfl ?_
          refine w_getr (n := 0) (v := 1) hK rfl rfl (by decide) (by decide) rfl rfl rfl rfl ?_
          refine w_al hK rfl rfl ?_
          refine w_il hK rfl rfl ?_
          refine w_call [(1, y), (0, (j : Int))] hK rfl rfl rfl rfl (Or.inr ⟨_, _, _, rfl, hy.nn, hy.lb, hy.o⟩) (c_atN hD hy j (by omega)) ?_
          rintro _ Mq ⟨rfl, e_⟩
          subst Mq
          rw [show (pu P 8 (pmp (P x) (P y) i j)) y = P y from (pu_ne (P := P) (f := pmp (P x) (P y) i j) (show y ≠ 8 by omega))]
          refine ⟨by show (0 : Nat) ≠ 9; decide, (?_ : Wp 198 _ 41 25 [(1, 7), (1, x), (1, y), (1, o), (0, (i : Int)), (0, (j : Int)), w6] [(0, ((P y j).val : Int)), (1, 1), (0, ((P x i).val : Int)), (1, 1)] N11 _)⟩
          refine w_il hK rfl rfl ?_
          refine w_call [(1, 1), (0, ((P y j).val : Int)), (0, (i : Int))] hK rfl rfl rfl rfl (Or.inr ⟨_, _, _, rfl, by decide, (by decide), rfl⟩) (c_imageN (by decide) hD.F (P y j) i (by omega)) ?_
          rintro _ Mq ⟨rfl, e_⟩
          subst Mq
          refine ⟨by show (0 : Nat) ≠ 9; decide, (?_ : Wp 198 _ 41 27 [(1, 7), (1, x), (1, y), (1, o), (0, (i : Int)), (0, (j : Int)), w6] [(0, ((sg i (P y j)).val : Int)), (0, ((P x i).val : Int)), (1, 1)] N11 _)⟩
          refine w_call [(1, 1), (0, ((P x i).val : Int)), (0, ((sg i (P y j)).val : Int))] hK rfl rfl rfl rfl (Or.inr ⟨_, _, _, rfl, by decide, (by decide), rfl⟩) (c_prod (by decide) hD.F (P x i) (sg i (P y j)) ) ?_
          rintro _ Mq ⟨rfl, e_⟩
          subst Mq
          refine ⟨by show (0 : Nat) ≠ 9; decide, (?_ : Wp 198 _ 41 28 [(1, 7), (1, x), (1, y), (1, o), (0, (i : Int)), (0, (j : Int)), w6] [(0, ((ml (P x i) (sg i (P y j))).val : Int))] N11 _)⟩
          refine w_is [(1, 7), (1, x), (1, y), (1, o), (0, (i : Int)), (0, (j : Int)), (0, ((ml (P x i) (sg i (P y j))).val : Int))] hK rfl rfl rfl ?_
          refine w_al hK rfl rfl ?_
          refine w_getr (n := 1) (v := 8) hK rfl rfl (by decide) (by decide) rfl rfl rfl rfl ?_
          refine w_il hK rfl rfl ?_
          refine w_il hK rfl rfl ?_
          refine w_add hK rfl (by omega) (by omega) ?_
          refine w_al hK rfl rfl ?_
          refine w_getr (n := 0) (v := 1) hK rfl rfl (by decide) (by decide) rfl rfl rfl rfl ?_
          refine w_al hK rfl rfl ?_
          refine w_getr (n := 1) (v := 8) hK rfl rfl (by decide) (by decide) rfl rfl rfl rfl ?_
          refine w_il hK rfl rfl ?_
          refine w_il hK rfl rfl ?_
          refine w_add hK rfl (by omega) (by omega) ?_
          refine w_call [(1, 8), (0, ((i : Int) + (j : Int)))] hK rfl rfl rfl rfl (Or.inr ⟨_, _, _, rfl, by decide, (by decide), rfl⟩) (c_at hD (isP_of (p := 8) rfl) ((i : Int) + (j : Int)) (by omega) (by omega)) ?_
          rintro _ Mq ⟨rfl, e_⟩
          subst Mq
          rw [show (pu P 8 (pmp (P x) (P y) i j)) 8 = pmp (P x) (P y) i j from pu_eq]
          refine ⟨by show (0 : Nat) ≠ 9; decide, (?_ : Wp 198 _ 41 42 [(1, 7), (1, x), (1, y), (1, o), (0, (i : Int)), (0, (j : Int)), (0, ((ml (P x i) (sg i (P y j))).val : Int))] [(0, ((cf (pmp (P x) (P y) i j) ((i : Int) + (j : Int))).val : Int)), (1, 1), (0, ((i : Int) + (j : Int))), (1, 8)] N11 _)⟩
          refine w_il hK rfl rfl ?_
          refine w_call [(1, 1), (0, ((cf (pmp (P x) (P y) i j) ((i : Int) + (j : Int))).val : Int)), (0, ((ml (P x i) (sg i (P y j))).val : Int))] hK rfl rfl rfl rfl (Or.inr ⟨_, _, _, rfl, by decide, (by decide), rfl⟩) (c_sum (by decide) hD.F (cf (pmp (P x) (P y) i j) ((i : Int) + (j : Int))) (ml (P x i) (sg i (P y j))) ) ?_
          rintro _ Mq ⟨rfl, e_⟩
          subst Mq
          refine ⟨by show (0 : Nat) ≠ 9; decide, (?_ : Wp 198 _ 41 44 [(1, 7), (1, x), (1, y), (1, o), (0, (i : Int)), (0, (j : Int)), (0, ((ml (P x i) (sg i (P y j))).val : Int))] [(0, ((ad (cf (pmp (P x) (P y) i j) ((i : Int) + (j : Int))) (ml (P x i) (sg i (P y j)))).val : Int)), (0, ((i : Int) + (j : Int))), (1, 8)] N11 _)⟩
          refine w_call [(1, 8), (0, ((i : Int) + (j : Int))), (0, ((ad (cf (pmp (P x) (P y) i j) ((i : Int) + (j : Int))) (ml (P x i) (sg i (P y j)))).val : Int))] hK rfl rfl rfl rfl (Or.inr ⟨_, _, _, rfl, by decide, (by decide), rfl⟩) (c_put hD (isP_of (p := 8) rfl) ((i : Int) + (j : Int)) (ad (cf (pmp (P x) (P y) i j) ((i : Int) + (j : Int))) (ml (P x i) (sg i (P y j)))) (by omega) (by omega)) ?_
          rintro _ V5 ⟨rfl, C5, S5⟩
          rw [show (pu P 8 (pmp (P x) (P y) i j)) 8 = pmp (P x) (P y) i j from pu_eq] at C5
          rw [pu_pu (P := P) (p := 8) (f := pmp (P x) (P y) i j) (g := up1 (pmp (P x) (P y) i j) ((i : Int) + (j : Int)).toNat (ad (cf (pmp (P x) (P y) i j) ((i : Int) + (j : Int))) (ml (P x i) (sg i (P y j)))))] at C5
          refine ⟨by decide, (?_ : Wp 198 _ 41 45 [(1, 7), (1, x), (1, y), (1, o), (0, (i : Int)), (0, (j : Int)), (0, ((ml (P x i) (sg i (P y j))).val : Int))] [] V5 _)⟩
          refine w_inc [(1, 7), (1, x), (1, y), (1, o), (0, (i : Int)), (0, ((j : Int) + 1)), (0, ((ml (P x i) (sg i (P y j))).val : Int))] hK rfl rfl rfl (by omega) (by omega) rfl ?_
          refine w_goto hK rfl ?_
          exact ih11 _ (by omega) (j + 1) _ V5 rfl (by omega) (by have e := C5; rw [show cf (pmp (P x) (P y) i j) ((i : Int) + (j : Int)) = pmp (P x) (P y) i j (i + j) from cf_nat _ (i + j), show ((i : Int) + (j : Int)).toNat = i + j from rfl, pmp_step] at e; exact e) ((hT.tr S5))
      exact lp11 _ 0 _ N5 rfl (by omega) hC (hS)
  exact lp5 _ 0 _ _ V3 rfl (by omega) (by rw [pmp_00]; exact C3) (S3)
set_option maxRecDepth 100000 in
theorem c_rpat {d : Nat} {M : Mem} {k : Nat} {P : Int → Pl k} (C : CS M k P) {x y o : Int} (s : Int) (hx : isP x) (hy : isP y) (ho : isP o) (x8 : x ≠ 8) (y8 : y ≠ 8) (hd : dg (P x) + dg (P y) ≤ 16) (hs : s = 0 ∨ s = 1) : Ct 198 (d + 3) 45 [(1, 7), (0, s), (1, x), (1, y), (1, o)] M (fun r M' => r = (4, 0) ∧ CS M' k (pu (pu P 8 (prd s (P x) (P y))) o (prd s (P x) (P y))) ∧ NPS M M') := by
  have hK : cd 45 = k45 := rfl
  show Wp 198 _ 45 0 [(1, 7), (0, s), (1, x), (1, y), (1, o)] [] M _
  refine w_il hK rfl rfl ?_
  refine w_ne hK rfl (by omega) (by omega) (fun h1 => ?_) (fun h1 => ?_)
  · refine w_al hK rfl rfl ?_
    refine w_al hK rfl rfl ?_
    refine w_al hK rfl rfl ?_
    refine w_al hK rfl rfl ?_
    refine w_call [(1, 7), (1, y), (1, x), (1, o)] hK rfl rfl rfl rfl (Or.inr ⟨_, _, _, rfl, by decide, (by decide), rfl⟩) (c_rprd C hy hx ho (by omega) (by omega) (by omega)) ?_
    rintro _ V6 ⟨rfl, C6, S6⟩
    refine ⟨by decide, (?_ : Wp 198 _ 45 13 [(1, 7), (0, s), (1, x), (1, y), (1, o)] [] V6 _)⟩
    refine w_ret hK rfl rfl ?_
    have e := C6
    unfold prd
    rw [if_neg (by omega)]
    exact ⟨rfl, e, S6⟩
  · refine w_al hK rfl rfl ?_
    refine w_al hK rfl rfl ?_
    refine w_al hK rfl rfl ?_
    refine w_al hK rfl rfl ?_
    refine w_call [(1, 7), (1, x), (1, y), (1, o)] hK rfl rfl rfl rfl (Or.inr ⟨_, _, _, rfl, by decide, (by decide), rfl⟩) (c_rprd C hx hy ho (by omega) (by omega) (by omega)) ?_
    rintro _ V7 ⟨rfl, C7, S7⟩
    refine ⟨by decide, (?_ : Wp 198 _ 45 7 [(1, 7), (0, s), (1, x), (1, y), (1, o)] [] V7 _)⟩
    refine w_goto hK rfl ?_
    refine w_ret hK rfl rfl ?_
    have e := C7
    unfold prd
    rw [if_pos (by omega)]
    exact ⟨rfl, e, S7⟩
set_option maxRecDepth 100000 in
theorem c_div {d : Nat} {M : Mem} {k : Nat} {P : Int → Pl k} (C : CS M k P) {x y a r : Int} (hx : isP x) (hy : isP y) (s : Int) (ha : isP a) (hr : isP r) (hxa : x ≠ a) (hxr : x ≠ r) (hya : y ≠ a) (hyr : y ≠ r) (har : a ≠ r) (hs : s = 0 ∨ s = 1) : Ct 198 (d + 3) 42 [(1, 7), (1, x), (1, y), (0, s), (1, a), (1, r)] M (fun r_ M' => r_ = (4, 0) ∧ CS M' k (pu (pu P a (dq s (P x) (P y))) r (dr s (P x) (P y))) ∧ NPS M M') := by
  have hK : cd 42 = k42 := rfl
  have dx := C.dI hx
  have dy := C.dI hy
  show Wp 198 _ 42 0 [(1, 7), (1, x), (1, y), (0, s), (1, a), (1, r), (3, 0), (3, 0), (3, 0)] [] M _
  refine w_al hK rfl rfl ?_
  refine w_call [(1, a)] hK rfl rfl rfl rfl (Or.inr ⟨_, _, _, rfl, ha.nn, ha.lb, ha.o⟩) (c_clear C ha) ?_
  rintro _ V8 ⟨rfl, C8, S8⟩
  refine ⟨by decide, (?_ : Wp 198 _ 42 2 [(1, 7), (1, x), (1, y), (0, s), (1, a), (1, r), (3, 0), (3, 0), (3, 0)] [] V8 _)⟩
  refine w_al hK rfl rfl ?_
  refine w_al hK rfl rfl ?_
  refine w_call [(1, r), (1, x)] hK rfl rfl rfl rfl (Or.inr ⟨_, _, _, rfl, hr.nn, hr.lb, hr.o⟩) (c_copy C8 hr hx) ?_
  rintro _ V9 ⟨rfl, C9, S9⟩
  rw [show (pu P a pz) x = P x from (pu_ne (P := P) (f := pz) (show x ≠ a by omega))] at C9
  refine ⟨by decide, (?_ : Wp 198 _ 42 5 [(1, 7), (1, x), (1, y), (0, s), (1, a), (1, r), (3, 0), (3, 0), (3, 0)] [] V9 _)⟩
  refine w_al hK rfl rfl ?_
  refine w_pt hK rfl hy ?_
  rw [show V9 y 1 = dg (P y) from ((C9.t hy).trans (congrArg dg ((pu_ne (P := pu P a pz) (f := P x) (show y ≠ r by omega)).trans (pu_ne (P := P) (f := pz) (show y ≠ a by omega)))))]
  refine w_ge hK rfl (by omega) (by omega) (fun h7 => ?_) (fun h7 => ?_)
  · obtain ⟨b, hb⟩ : ∃ b : Nat, dg (P y) = (b : Int) := ⟨(dg (P y)).toNat, by omega⟩
    have hy2 : IsDg (P y) (b : Int) := hb ▸ dg_is ((C.bd hy).mono (by decide))
    refine w_al hK rfl rfl ?_
    refine w_pt hK rfl hx ?_
    rw [show V9 x 1 = dg (P x) from ((C9.t hx).trans (congrArg dg ((pu_ne (P := pu P a pz) (f := P x) (show x ≠ r by omega)).trans (pu_ne (P := P) (f := pz) (show x ≠ a by omega)))))]
    refine w_al hK rfl rfl ?_
    refine w_pt hK rfl hy ?_
    rw [show V9 y 1 = dg (P y) from ((C9.t hy).trans (congrArg dg ((pu_ne (P := pu P a pz) (f := P x) (show y ≠ r by omega)).trans (pu_ne (P := P) (f := pz) (show y ≠ a by omega)))))]
    refine w_sub hK rfl (by omega) (by omega) ?_
    refine w_is [(1, 7), (1, x), (1, y), (0, s), (1, a), (1, r), (0, ((dg (P x)) - (dg (P y)))), (3, 0), (3, 0)] hK rfl rfl rfl ?_
    have lp15 : ∀ (n_ : Nat) (i : Int) (q rr : Pl k) (w7 w8 : AV) (N15 : Mem), (i + 1).toNat = n_ → (-17 ≤ i) → (i + dg (P y) ≤ 16) → (DI s (P x) (P y) b q rr i) → (CS N15 k (pu (pu P a q) r rr)) → (NPS M N15) → Wp 198 (d + 3) 42 15 [(1, 7), (1, x), (1, y), (0, s), (1, a), (1, r), (0, i), w7, w8] [] N15 (fun r_ M' => r_ = (4, 0) ∧ CS M' k (pu (pu P a (dq s (P x) (P y))) r (dr s (P x) (P y))) ∧ NPS M M') := by
      intro n_
      induction n_ using Nat.strongRecOn with
      | _ n_ ih15 =>
      intro i q rr w7 w8 N15 hm15 hi1 hi2 hD hC hS
      refine w_il hK rfl rfl ?_
      refine w_lt hK rfl (by omega) (by omega) (fun h16 => ?_) (fun h16 => ?_)
      · refine w_ret hK rfl rfl ?_
        obtain ⟨e1_, e2_⟩ := dv_eq (hD.done (by omega) hy2)
        rw [e1_, e2_]
        exact ⟨rfl, hC, hS⟩
      · refine w_al hK rfl rfl ?_
        refine w_il hK rfl rfl ?_
        refine w_al hK rfl rfl ?_
        refine w_pt hK rfl hy ?_
        rw [show N15 y 1 = dg (P y) from ((hC.t hy).trans (congrArg dg ((pu_ne (P := pu P a q) (f := rr) (show y ≠ r by omega)).trans (pu_ne (P := P) (f := q) (show y ≠ a by omega)))))]
        refine w_add hK rfl (by omega) (by omega) ?_
        refine w_call [(1, r), (0, (i + (dg (P y))))] hK rfl rfl rfl rfl (Or.inr ⟨_, _, _, rfl, hr.nn, hr.lb, hr.o⟩) (c_at hC hr (i + (dg (P y))) (by omega) (by omega)) ?_
        rintro _ Mq ⟨rfl, e_⟩
        subst Mq
        rw [show (pu (pu P a q) r rr) r = rr from pu_eq]
        refine ⟨by show (0 : Nat) ≠ 9; decide, (?_ : Wp 198 _ 42 23 [(1, 7), (1, x), (1, y), (0, s), (1, a), (1, r), (0, i), w7, w8] [(0, ((cf rr (i + (dg (P y)))).val : Int))] N15 _)⟩
        refine w_is [(1, 7), (1, x), (1, y), (0, s), (1, a), (1, r), (0, i), (0, ((cf rr (i + (dg (P y)))).val : Int)), w8] hK rfl rfl rfl ?_
        have b24 := el_I (cf rr (i + dg (P y)))
        refine w_il hK rfl rfl ?_
        refine w_eq hK rfl (by omega) (by omega) (fun h25 => ?_) (fun h25 => ?_)
        · refine w_il hK rfl rfl ?_
          refine w_eq hK rfl (by omega) (by omega) (fun h51 => ?_) (fun h51 => ?_)
          · refine w_inc [(1, 7), (1, x), (1, y), (0, s), (1, a), (1, r), (0, (i + (-1))), (0, ((cf rr (i + (dg (P y)))).val : Int)), w8] hK rfl rfl rfl (by omega) (by omega) rfl ?_
            refine w_goto hK rfl ?_
            exact ih15 _ (by omega) (i - 1) q rr _ _ N15 rfl (by omega) (by omega) (hD.skip (by omega) (by rw [← hb]; exact z0_iff.mpr (by omega))) hC (hS)
          · refine w_al hK rfl rfl ?_
            refine w_getr (n := 0) (v := 1) hK rfl rfl (by decide) (by decide) rfl rfl rfl rfl ?_
            refine w_al hK rfl rfl ?_
            refine w_getr (n := 0) (v := 1) hK rfl rfl (by decide) (by decide) rfl rfl rfl rfl ?_
            refine w_il hK rfl rfl ?_
            refine w_al hK rfl rfl ?_
            refine w_call [(1, y)] hK rfl rfl rfl rfl (Or.inr ⟨_, _, _, rfl, hy.nn, hy.lb, hy.o⟩) (c_ld hC hy) ?_
            rintro _ Mq ⟨rfl, e_⟩
            subst Mq
            rw [show (pu (pu P a q) r rr) y = P y from ((pu_ne (P := pu P a q) (f := rr) (show y ≠ r by omega)).trans (pu_ne (P := P) (f := q) (show y ≠ a by omega)))]
            refine ⟨by show (0 : Nat) ≠ 9; decide, (?_ : Wp 198 _ 42 59 [(1, 7), (1, x), (1, y), (0, s), (1, a), (1, r), (0, i), (0, ((cf rr (i + (dg (P y)))).val : Int)), w8] [(0, ((ld (P y)).val : Int)), (0, ((cf rr (i + (dg (P y)))).val : Int)), (1, 1), (1, 1)] N15 _)⟩
            refine w_call [(1, 1), (0, ((cf rr (i + (dg (P y)))).val : Int)), (0, ((ld (P y)).val : Int))] hK rfl rfl rfl rfl (Or.inr ⟨_, _, _, rfl, by decide, (by decide), rfl⟩) (c_ratio (by decide) hC.F (cf rr (i + (dg (P y)))) (ld (P y)) ) ?_
            rintro _ Mq ⟨rfl, e_⟩
            subst Mq
            refine ⟨by show (0 : Nat) ≠ 9; decide, (?_ : Wp 198 _ 42 60 [(1, 7), (1, x), (1, y), (0, s), (1, a), (1, r), (0, i), (0, ((cf rr (i + (dg (P y)))).val : Int)), w8] [(0, ((ml (cf rr (i + (dg (P y)))) (iv (ld (P y)))).val : Int)), (1, 1)] N15 _)⟩
            refine w_al hK rfl rfl ?_
            refine w_pt hK rfl hy ?_
            rw [show N15 y 1 = dg (P y) from ((hC.t hy).trans (congrArg dg ((pu_ne (P := pu P a q) (f := rr) (show y ≠ r by omega)).trans (pu_ne (P := P) (f := q) (show y ≠ a by omega)))))]
            refine w_neg hK rfl (by omega) (by omega) ?_
            refine w_call [(1, 1), (0, ((ml (cf rr (i + (dg (P y)))) (iv (ld (P y)))).val : Int)), (0, (-(dg (P y))))] hK rfl rfl rfl rfl (Or.inr ⟨_, _, _, rfl, by decide, (by decide), rfl⟩) (c_image (by decide) hC.F (ml (cf rr (i + (dg (P y)))) (iv (ld (P y)))) (-(dg (P y))) (by omega) (by omega)) ?_
            rintro _ Mq ⟨rfl, e_⟩
            subst Mq
            refine ⟨by show (0 : Nat) ≠ 9; decide, (?_ : Wp 198 _ 42 64 [(1, 7), (1, x), (1, y), (0, s), (1, a), (1, r), (0, i), (0, ((cf rr (i + (dg (P y)))).val : Int)), w8] [(0, ((sgI (-(dg (P y))) (ml (cf rr (i + (dg (P y)))) (iv (ld (P y))))).val : Int))] N15 _)⟩
            refine w_is [(1, 7), (1, x), (1, y), (0, s), (1, a), (1, r), (0, i), (0, ((cf rr (i + (dg (P y)))).val : Int)), (0, ((sgI (-(dg (P y))) (ml (cf rr (i + (dg (P y)))) (iv (ld (P y))))).val : Int))] hK rfl rfl rfl ?_
            refine w_al hK rfl rfl ?_
            refine w_il hK rfl rfl ?_
            refine w_il hK rfl rfl ?_
            refine w_call [(1, a), (0, i), (0, ((sgI (-(dg (P y))) (ml (cf rr (i + (dg (P y)))) (iv (ld (P y))))).val : Int))] hK rfl rfl rfl rfl (Or.inr ⟨_, _, _, rfl, ha.nn, ha.lb, ha.o⟩) (c_put hC ha i (sgI (-(dg (P y))) (ml (cf rr (i + (dg (P y)))) (iv (ld (P y))))) (by omega) (by omega)) ?_
            rintro _ V10 ⟨rfl, C10, S10⟩
            rw [show (pu (pu P a q) r rr) a = q from ((pu_ne (P := pu P a q) (f := rr) (show a ≠ r by omega)).trans pu_eq)] at C10
            rw [pu_comm (P := pu P a q) (a := r) (b := a) (f := rr) (g := up1 q i.toNat (sgI (-(dg (P y))) (ml (cf rr (i + (dg (P y)))) (iv (ld (P y)))))) (by omega), pu_pu (P := P) (p := a) (f := q) (g := up1 q i.toNat (sgI (-(dg (P y))) (ml (cf rr (i + (dg (P y)))) (iv (ld (P y))))))] at C10
            refine ⟨by decide, (?_ : Wp 198 _ 42 69 [(1, 7), (1, x), (1, y), (0, s), (1, a), (1, r), (0, i), (0, ((cf rr (i + (dg (P y)))).val : Int)), (0, ((sgI (-(dg (P y))) (ml (cf rr (i + (dg (P y)))) (iv (ld (P y))))).val : Int))] [] V10 _)⟩
            refine w_al hK rfl rfl ?_
            refine w_al hK rfl rfl ?_
            refine w_il hK rfl rfl ?_
            refine w_il hK rfl rfl ?_
            refine w_al hK rfl rfl ?_
            refine w_call [(1, 7), (1, r), (0, ((sgI (-(dg (P y))) (ml (cf rr (i + (dg (P y)))) (iv (ld (P y))))).val : Int)), (0, i), (1, y)] hK rfl rfl rfl rfl (Or.inr ⟨_, _, _, rfl, by decide, (by decide), rfl⟩) (c_behind C10 hr hy (sgI (-(dg (P y))) (ml (cf rr (i + (dg (P y)))) (iv (ld (P y))))) i (by omega) (by omega) (by rw [show (pu (pu P a (up1 q i.toNat (sgI (-(dg (P y))) (ml (cf rr (i + (dg (P y)))) (iv (ld (P y))))))) r rr) y = P y from ((pu_ne (P := pu P a (up1 q i.toNat (sgI (-(dg (P y))) (ml (cf rr (i + (dg (P y)))) (iv (ld (P y))))))) (f := rr) (show y ≠ r by omega)).trans (pu_ne (P := P) (f := up1 q i.toNat (sgI (-(dg (P y))) (ml (cf rr (i + (dg (P y)))) (iv (ld (P y)))))) (show y ≠ a by omega)))]; omega)) ?_
            rintro _ V11 ⟨rfl, C11, S11⟩
            rw [show (pu (pu P a (up1 q i.toNat (sgI (-(dg (P y))) (ml (cf rr (i + (dg (P y)))) (iv (ld (P y))))))) r rr) r = rr from pu_eq, show (pu (pu P a (up1 q i.toNat (sgI (-(dg (P y))) (ml (cf rr (i + (dg (P y)))) (iv (ld (P y))))))) r rr) y = P y from ((pu_ne (P := pu P a (up1 q i.toNat (sgI (-(dg (P y))) (ml (cf rr (i + (dg (P y)))) (iv (ld (P y))))))) (f := rr) (show y ≠ r by omega)).trans (pu_ne (P := P) (f := up1 q i.toNat (sgI (-(dg (P y))) (ml (cf rr (i + (dg (P y)))) (iv (ld (P y)))))) (show y ≠ a by omega)))] at C11
            rw [pu_pu (P := pu P a (up1 q i.toNat (sgI (-(dg (P y))) (ml (cf rr (i + (dg (P y)))) (iv (ld (P y))))))) (p := r) (f := rr) (g := sbp rr (mlp (P y) (mono (sgI (-(dg (P y))) (ml (cf rr (i + (dg (P y)))) (iv (ld (P y))))) (i).toNat)))] at C11
            refine ⟨by decide, (?_ : Wp 198 _ 42 75 [(1, 7), (1, x), (1, y), (0, s), (1, a), (1, r), (0, i), (0, ((cf rr (i + (dg (P y)))).val : Int)), (0, ((sgI (-(dg (P y))) (ml (cf rr (i + (dg (P y)))) (iv (ld (P y))))).val : Int))] [] V11 _)⟩
            refine w_inc [(1, 7), (1, x), (1, y), (0, s), (1, a), (1, r), (0, (i + (-1))), (0, ((cf rr (i + (dg (P y)))).val : Int)), (0, ((sgI (-(dg (P y))) (ml (cf rr (i + (dg (P y)))) (iv (ld (P y))))).val : Int))] hK rfl rfl rfl (by omega) (by omega) rfl ?_
            refine w_goto hK rfl ?_
            exact ih15 _ (by omega) (i - 1) _ _ _ _ V11 rfl (by omega) (by omega) (hD.behind (by omega) (by omega) (by omega) hy2 (by rw [ld_at hb, hb])) C11 (((hS.tr S10).tr S11))
        · refine w_il hK rfl rfl ?_
          refine w_ne hK rfl (by omega) (by omega) (fun h27 => ?_) (fun h27 => ?_)
          · refine w_il hK rfl rfl ?_
            refine w_eq hK rfl (by omega) (by omega) (fun h51 => ?_) (fun h51 => ?_)
            · refine w_inc [(1, 7), (1, x), (1, y), (0, s), (1, a), (1, r), (0, (i + (-1))), (0, ((cf rr (i + (dg (P y)))).val : Int)), w8] hK rfl rfl rfl (by omega) (by omega) rfl ?_
              refine w_goto hK rfl ?_
              exact ih15 _ (by omega) (i - 1) q rr _ _ N15 rfl (by omega) (by omega) (hD.skip (by omega) (by rw [← hb]; exact z0_iff.mpr (by omega))) hC (hS)
            · refine w_al hK rfl rfl ?_
              refine w_getr (n := 0) (v := 1) hK rfl rfl (by decide) (by decide) rfl rfl rfl rfl ?_
              refine w_al hK rfl rfl ?_
              refine w_getr (n := 0) (v := 1) hK rfl rfl (by decide) (by decide) rfl rfl rfl rfl ?_
              refine w_il hK rfl rfl ?_
              refine w_al hK rfl rfl ?_
              refine w_call [(1, y)] hK rfl rfl rfl rfl (Or.inr ⟨_, _, _, rfl, hy.nn, hy.lb, hy.o⟩) (c_ld hC hy) ?_
              rintro _ Mq ⟨rfl, e_⟩
              subst Mq
              rw [show (pu (pu P a q) r rr) y = P y from ((pu_ne (P := pu P a q) (f := rr) (show y ≠ r by omega)).trans (pu_ne (P := P) (f := q) (show y ≠ a by omega)))]
              refine ⟨by show (0 : Nat) ≠ 9; decide, (?_ : Wp 198 _ 42 59 [(1, 7), (1, x), (1, y), (0, s), (1, a), (1, r), (0, i), (0, ((cf rr (i + (dg (P y)))).val : Int)), w8] [(0, ((ld (P y)).val : Int)), (0, ((cf rr (i + (dg (P y)))).val : Int)), (1, 1), (1, 1)] N15 _)⟩
              refine w_call [(1, 1), (0, ((cf rr (i + (dg (P y)))).val : Int)), (0, ((ld (P y)).val : Int))] hK rfl rfl rfl rfl (Or.inr ⟨_, _, _, rfl, by decide, (by decide), rfl⟩) (c_ratio (by decide) hC.F (cf rr (i + (dg (P y)))) (ld (P y)) ) ?_
              rintro _ Mq ⟨rfl, e_⟩
              subst Mq
              refine ⟨by show (0 : Nat) ≠ 9; decide, (?_ : Wp 198 _ 42 60 [(1, 7), (1, x), (1, y), (0, s), (1, a), (1, r), (0, i), (0, ((cf rr (i + (dg (P y)))).val : Int)), w8] [(0, ((ml (cf rr (i + (dg (P y)))) (iv (ld (P y)))).val : Int)), (1, 1)] N15 _)⟩
              refine w_al hK rfl rfl ?_
              refine w_pt hK rfl hy ?_
              rw [show N15 y 1 = dg (P y) from ((hC.t hy).trans (congrArg dg ((pu_ne (P := pu P a q) (f := rr) (show y ≠ r by omega)).trans (pu_ne (P := P) (f := q) (show y ≠ a by omega)))))]
              refine w_neg hK rfl (by omega) (by omega) ?_
              refine w_call [(1, 1), (0, ((ml (cf rr (i + (dg (P y)))) (iv (ld (P y)))).val : Int)), (0, (-(dg (P y))))] hK rfl rfl rfl rfl (Or.inr ⟨_, _, _, rfl, by decide, (by decide), rfl⟩) (c_image (by decide) hC.F (ml (cf rr (i + (dg (P y)))) (iv (ld (P y)))) (-(dg (P y))) (by omega) (by omega)) ?_
              rintro _ Mq ⟨rfl, e_⟩
              subst Mq
              refine ⟨by show (0 : Nat) ≠ 9; decide, (?_ : Wp 198 _ 42 64 [(1, 7), (1, x), (1, y), (0, s), (1, a), (1, r), (0, i), (0, ((cf rr (i + (dg (P y)))).val : Int)), w8] [(0, ((sgI (-(dg (P y))) (ml (cf rr (i + (dg (P y)))) (iv (ld (P y))))).val : Int))] N15 _)⟩
              refine w_is [(1, 7), (1, x), (1, y), (0, s), (1, a), (1, r), (0, i), (0, ((cf rr (i + (dg (P y)))).val : Int)), (0, ((sgI (-(dg (P y))) (ml (cf rr (i + (dg (P y)))) (iv (ld (P y))))).val : Int))] hK rfl rfl rfl ?_
              refine w_al hK rfl rfl ?_
              refine w_il hK rfl rfl ?_
              refine w_il hK rfl rfl ?_
              refine w_call [(1, a), (0, i), (0, ((sgI (-(dg (P y))) (ml (cf rr (i + (dg (P y)))) (iv (ld (P y))))).val : Int))] hK rfl rfl rfl rfl (Or.inr ⟨_, _, _, rfl, ha.nn, ha.lb, ha.o⟩) (c_put hC ha i (sgI (-(dg (P y))) (ml (cf rr (i + (dg (P y)))) (iv (ld (P y))))) (by omega) (by omega)) ?_
              rintro _ V12 ⟨rfl, C12, S12⟩
              rw [show (pu (pu P a q) r rr) a = q from ((pu_ne (P := pu P a q) (f := rr) (show a ≠ r by omega)).trans pu_eq)] at C12
              rw [pu_comm (P := pu P a q) (a := r) (b := a) (f := rr) (g := up1 q i.toNat (sgI (-(dg (P y))) (ml (cf rr (i + (dg (P y)))) (iv (ld (P y)))))) (by omega), pu_pu (P := P) (p := a) (f := q) (g := up1 q i.toNat (sgI (-(dg (P y))) (ml (cf rr (i + (dg (P y)))) (iv (ld (P y))))))] at C12
              refine ⟨by decide, (?_ : Wp 198 _ 42 69 [(1, 7), (1, x), (1, y), (0, s), (1, a), (1, r), (0, i), (0, ((cf rr (i + (dg (P y)))).val : Int)), (0, ((sgI (-(dg (P y))) (ml (cf rr (i + (dg (P y)))) (iv (ld (P y))))).val : Int))] [] V12 _)⟩
              refine w_al hK rfl rfl ?_
              refine w_al hK rfl rfl ?_
              refine w_il hK rfl rfl ?_
              refine w_il hK rfl rfl ?_
              refine w_al hK rfl rfl ?_
              refine w_call [(1, 7), (1, r), (0, ((sgI (-(dg (P y))) (ml (cf rr (i + (dg (P y)))) (iv (ld (P y))))).val : Int)), (0, i), (1, y)] hK rfl rfl rfl rfl (Or.inr ⟨_, _, _, rfl, by decide, (by decide), rfl⟩) (c_behind C12 hr hy (sgI (-(dg (P y))) (ml (cf rr (i + (dg (P y)))) (iv (ld (P y))))) i (by omega) (by omega) (by rw [show (pu (pu P a (up1 q i.toNat (sgI (-(dg (P y))) (ml (cf rr (i + (dg (P y)))) (iv (ld (P y))))))) r rr) y = P y from ((pu_ne (P := pu P a (up1 q i.toNat (sgI (-(dg (P y))) (ml (cf rr (i + (dg (P y)))) (iv (ld (P y))))))) (f := rr) (show y ≠ r by omega)).trans (pu_ne (P := P) (f := up1 q i.toNat (sgI (-(dg (P y))) (ml (cf rr (i + (dg (P y)))) (iv (ld (P y)))))) (show y ≠ a by omega)))]; omega)) ?_
              rintro _ V13 ⟨rfl, C13, S13⟩
              rw [show (pu (pu P a (up1 q i.toNat (sgI (-(dg (P y))) (ml (cf rr (i + (dg (P y)))) (iv (ld (P y))))))) r rr) r = rr from pu_eq, show (pu (pu P a (up1 q i.toNat (sgI (-(dg (P y))) (ml (cf rr (i + (dg (P y)))) (iv (ld (P y))))))) r rr) y = P y from ((pu_ne (P := pu P a (up1 q i.toNat (sgI (-(dg (P y))) (ml (cf rr (i + (dg (P y)))) (iv (ld (P y))))))) (f := rr) (show y ≠ r by omega)).trans (pu_ne (P := P) (f := up1 q i.toNat (sgI (-(dg (P y))) (ml (cf rr (i + (dg (P y)))) (iv (ld (P y)))))) (show y ≠ a by omega)))] at C13
              rw [pu_pu (P := pu P a (up1 q i.toNat (sgI (-(dg (P y))) (ml (cf rr (i + (dg (P y)))) (iv (ld (P y))))))) (p := r) (f := rr) (g := sbp rr (mlp (P y) (mono (sgI (-(dg (P y))) (ml (cf rr (i + (dg (P y)))) (iv (ld (P y))))) (i).toNat)))] at C13
              refine ⟨by decide, (?_ : Wp 198 _ 42 75 [(1, 7), (1, x), (1, y), (0, s), (1, a), (1, r), (0, i), (0, ((cf rr (i + (dg (P y)))).val : Int)), (0, ((sgI (-(dg (P y))) (ml (cf rr (i + (dg (P y)))) (iv (ld (P y))))).val : Int))] [] V13 _)⟩
              refine w_inc [(1, 7), (1, x), (1, y), (0, s), (1, a), (1, r), (0, (i + (-1))), (0, ((cf rr (i + (dg (P y)))).val : Int)), (0, ((sgI (-(dg (P y))) (ml (cf rr (i + (dg (P y)))) (iv (ld (P y))))).val : Int))] hK rfl rfl rfl (by omega) (by omega) rfl ?_
              refine w_goto hK rfl ?_
              exact ih15 _ (by omega) (i - 1) _ _ _ _ V13 rfl (by omega) (by omega) (hD.behind (by omega) (by omega) (by omega) hy2 (by rw [ld_at hb, hb])) C13 (((hS.tr S12).tr S13))
          · have hs0 : s = 0 := by omega
            refine w_al hK rfl rfl ?_
            refine w_getr (n := 0) (v := 1) hK rfl rfl (by decide) (by decide) rfl rfl rfl rfl ?_
            refine w_il hK rfl rfl ?_
            refine w_al hK rfl rfl ?_
            refine w_getr (n := 0) (v := 1) hK rfl rfl (by decide) (by decide) rfl rfl rfl rfl ?_
            refine w_al hK rfl rfl ?_
            refine w_call [(1, y)] hK rfl rfl rfl rfl (Or.inr ⟨_, _, _, rfl, hy.nn, hy.lb, hy.o⟩) (c_ld hC hy) ?_
            rintro _ Mq ⟨rfl, e_⟩
            subst Mq
            rw [show (pu (pu P a q) r rr) y = P y from ((pu_ne (P := pu P a q) (f := rr) (show y ≠ r by omega)).trans (pu_ne (P := P) (f := q) (show y ≠ a by omega)))]
            refine ⟨by show (0 : Nat) ≠ 9; decide, (?_ : Wp 198 _ 42 35 [(1, 7), (1, x), (1, y), (0, s), (1, a), (1, r), (0, i), (0, ((cf rr (i + (dg (P y)))).val : Int)), w8] [(0, ((ld (P y)).val : Int)), (1, 1), (0, ((cf rr (i + (dg (P y)))).val : Int)), (1, 1)] N15 _)⟩
            refine w_il hK rfl rfl ?_
            refine w_call [(1, 1), (0, ((ld (P y)).val : Int)), (0, i)] hK rfl rfl rfl rfl (Or.inr ⟨_, _, _, rfl, by decide, (by decide), rfl⟩) (c_image (by decide) hC.F (ld (P y)) i (by omega) (by omega)) ?_
            rintro _ Mq ⟨rfl, e_⟩
            subst Mq
            refine ⟨by show (0 : Nat) ≠ 9; decide, (?_ : Wp 198 _ 42 37 [(1, 7), (1, x), (1, y), (0, s), (1, a), (1, r), (0, i), (0, ((cf rr (i + (dg (P y)))).val : Int)), w8] [(0, ((sgI i (ld (P y))).val : Int)), (0, ((cf rr (i + (dg (P y)))).val : Int)), (1, 1)] N15 _)⟩
            refine w_call [(1, 1), (0, ((cf rr (i + (dg (P y)))).val : Int)), (0, ((sgI i (ld (P y))).val : Int))] hK rfl rfl rfl rfl (Or.inr ⟨_, _, _, rfl, by decide, (by decide), rfl⟩) (c_ratio (by decide) hC.F (cf rr (i + (dg (P y)))) (sgI i (ld (P y))) ) ?_
            rintro _ Mq ⟨rfl, e_⟩
            subst Mq
            refine ⟨by show (0 : Nat) ≠ 9; decide, (?_ : Wp 198 _ 42 38 [(1, 7), (1, x), (1, y), (0, s), (1, a), (1, r), (0, i), (0, ((cf rr (i + (dg (P y)))).val : Int)), w8] [(0, ((ml (cf rr (i + (dg (P y)))) (iv (sgI i (ld (P y))))).val : Int))] N15 _)⟩
            refine w_is [(1, 7), (1, x), (1, y), (0, s), (1, a), (1, r), (0, i), (0, ((cf rr (i + (dg (P y)))).val : Int)), (0, ((ml (cf rr (i + (dg (P y)))) (iv (sgI i (ld (P y))))).val : Int))] hK rfl rfl rfl ?_
            refine w_al hK rfl rfl ?_
            refine w_il hK rfl rfl ?_
            refine w_il hK rfl rfl ?_
            refine w_call [(1, a), (0, i), (0, ((ml (cf rr (i + (dg (P y)))) (iv (sgI i (ld (P y))))).val : Int))] hK rfl rfl rfl rfl (Or.inr ⟨_, _, _, rfl, ha.nn, ha.lb, ha.o⟩) (c_put hC ha i (ml (cf rr (i + (dg (P y)))) (iv (sgI i (ld (P y))))) (by omega) (by omega)) ?_
            rintro _ V14 ⟨rfl, C14, S14⟩
            rw [show (pu (pu P a q) r rr) a = q from ((pu_ne (P := pu P a q) (f := rr) (show a ≠ r by omega)).trans pu_eq)] at C14
            rw [pu_comm (P := pu P a q) (a := r) (b := a) (f := rr) (g := up1 q i.toNat (ml (cf rr (i + (dg (P y)))) (iv (sgI i (ld (P y)))))) (by omega), pu_pu (P := P) (p := a) (f := q) (g := up1 q i.toNat (ml (cf rr (i + (dg (P y)))) (iv (sgI i (ld (P y))))))] at C14
            refine ⟨by decide, (?_ : Wp 198 _ 42 43 [(1, 7), (1, x), (1, y), (0, s), (1, a), (1, r), (0, i), (0, ((cf rr (i + (dg (P y)))).val : Int)), (0, ((ml (cf rr (i + (dg (P y)))) (iv (sgI i (ld (P y))))).val : Int))] [] V14 _)⟩
            refine w_al hK rfl rfl ?_
            refine w_al hK rfl rfl ?_
            refine w_il hK rfl rfl ?_
            refine w_il hK rfl rfl ?_
            refine w_al hK rfl rfl ?_
            refine w_call [(1, 7), (1, r), (0, ((ml (cf rr (i + (dg (P y)))) (iv (sgI i (ld (P y))))).val : Int)), (0, i), (1, y)] hK rfl rfl rfl rfl (Or.inr ⟨_, _, _, rfl, by decide, (by decide), rfl⟩) (c_ahead C14 hr hy (ml (cf rr (i + (dg (P y)))) (iv (sgI i (ld (P y))))) i (by omega) (by omega) (by rw [show (pu (pu P a (up1 q i.toNat (ml (cf rr (i + (dg (P y)))) (iv (sgI i (ld (P y))))))) r rr) y = P y from ((pu_ne (P := pu P a (up1 q i.toNat (ml (cf rr (i + (dg (P y)))) (iv (sgI i (ld (P y))))))) (f := rr) (show y ≠ r by omega)).trans (pu_ne (P := P) (f := up1 q i.toNat (ml (cf rr (i + (dg (P y)))) (iv (sgI i (ld (P y)))))) (show y ≠ a by omega)))]; omega)) ?_
            rintro _ V15 ⟨rfl, C15, S15⟩
            rw [show (pu (pu P a (up1 q i.toNat (ml (cf rr (i + (dg (P y)))) (iv (sgI i (ld (P y))))))) r rr) r = rr from pu_eq, show (pu (pu P a (up1 q i.toNat (ml (cf rr (i + (dg (P y)))) (iv (sgI i (ld (P y))))))) r rr) y = P y from ((pu_ne (P := pu P a (up1 q i.toNat (ml (cf rr (i + (dg (P y)))) (iv (sgI i (ld (P y))))))) (f := rr) (show y ≠ r by omega)).trans (pu_ne (P := P) (f := up1 q i.toNat (ml (cf rr (i + (dg (P y)))) (iv (sgI i (ld (P y)))))) (show y ≠ a by omega)))] at C15
            rw [pu_pu (P := pu P a (up1 q i.toNat (ml (cf rr (i + (dg (P y)))) (iv (sgI i (ld (P y))))))) (p := r) (f := rr) (g := sbp rr (mlp (mono (ml (cf rr (i + (dg (P y)))) (iv (sgI i (ld (P y))))) (i).toNat) (P y)))] at C15
            refine ⟨by decide, (?_ : Wp 198 _ 42 49 [(1, 7), (1, x), (1, y), (0, s), (1, a), (1, r), (0, i), (0, ((cf rr (i + (dg (P y)))).val : Int)), (0, ((ml (cf rr (i + (dg (P y)))) (iv (sgI i (ld (P y))))).val : Int))] [] V15 _)⟩
            refine w_goto hK rfl ?_
            refine w_inc [(1, 7), (1, x), (1, y), (0, s), (1, a), (1, r), (0, (i + (-1))), (0, ((cf rr (i + (dg (P y)))).val : Int)), (0, ((ml (cf rr (i + (dg (P y)))) (iv (sgI i (ld (P y))))).val : Int))] hK rfl rfl rfl (by omega) (by omega) rfl ?_
            refine w_goto hK rfl ?_
            exact ih15 _ (by omega) (i - 1) _ _ _ _ V15 rfl (by omega) (by omega) (by subst hs0; exact hD.ahead (by omega) (by omega) hy2 (by rw [ld_at hb, hb, sgI_toNat (by omega)])) C15 (((hS.tr S14).tr S15))
    exact lp15 _ (dg (P x) - dg (P y)) pz (P x) _ _ V9 rfl (by omega) (by omega) (DI.start (fun j hj => C.z hx (by omega))) C9 ((S8.tr S9))
  · refine w_ret hK rfl rfl ?_
    have e := C9
    obtain ⟨e1_, e2_⟩ := dv_pz (k := k) s (P x)
    rw [show P y = pz from (dg_neg ((C.bd hy).mono (by decide))).mp (by omega), e1_, e2_]
    exact ⟨rfl, e, (S8.tr S9)⟩
