/-! contracts: Ring, sums and products -/
def adp {k : Nat} (f g : Pl k) : Pl k := fun j => ad (f j) (g j)
def sbp {k : Nat} (f g : Pl k) : Pl k := fun j => ad (f j) (ng (g j))
def scl {k : Nat} (c : El k) (f : Pl k) : Pl k := fun j => ml c (f j)
/-- a number behind -/
def scb {k : Nat} (f : Pl k) (c : El k) : Pl k := fun j => ml (f j) (sg j c)
def mpp {k : Nat} (n : Int) (f : Pl k) : Pl k := fun j => sgI n (f j)
/-- s above i, h from i down -/
def mx {k : Nat} (s h : Pl k) (i : Int) : Pl k := fun j => if i < (j : Int) then s j else h j
theorem mx_all {k : Nat} {s h : Pl k} {i : Int} (hi : i < 0) : mx s h i = s := by funext j; unfold mx; rw [if_pos (by omega)]
theorem mx_none {k : Nat} {s h : Pl k} {i : Int} (hh : ∀ j : Nat, i < (j : Int) → s j = h j) : mx s h i = h := by
  funext j
  unfold mx
  split
  · exact hh j (by assumption)
  · rfl
theorem mx_step {k : Nat} {P : Int → Pl k} {o : Int} {s h : Pl k} {i : Int} {w : El k} (h0 : 0 ≤ i) (hw : w = s i.toNat) : pu (pu P o (mx s h i)) o (up1 ((pu P o (mx s h i)) o) i.toNat w) = pu P o (mx s h (i - 1)) := by
  rw [pu_pu, pu_eq]
  congr 1
  funext j
  unfold up1 mx
  by_cases e : j = i.toNat
  · subst e; rw [if_pos rfl, if_pos (by omega), hw]
  · rw [if_neg e]
    by_cases e2 : i < (j : Int)
    · rw [if_pos e2, if_pos (by omega)]
    · rw [if_neg e2, if_neg (by omega)]
theorem rd_mx {k : Nat} {P : Int → Pl k} {o x : Int} {s : Pl k} {i : Int} (h0 : 0 ≤ i) : cf ((pu P o (mx s (P o) i)) x) i = P x i.toNat := by
  unfold cf
  rw [if_pos h0]
  by_cases e : x = o
  · subst e; rw [pu_eq]; unfold mx; rw [if_neg (by omega)]
  · rw [pu_ne e]
theorem sgI_z {k : Nat} (n : Int) : sgI n (z0 : El k) = z0 := sg_z _
theorem CS.mx0 {M : Mem} {k : Nat} {P : Int → Pl k} (C : CS M k P) {o : Int} {s : Pl k} {i : Int} (hh : ∀ j : Nat, i < (j : Int) → s j = P o j) : CS M k (pu P o (mx s (P o) i)) := by
  rw [mx_none hh, pu_self rfl]; exact C
theorem CS.z {M : Mem} {k : Nat} {P : Int → Pl k} (C : CS M k P) {p : Int} (hp : isP p) {j : Nat} (hj : dg (P p) < (j : Int)) : P p j = z0 := (dg_is ((C.bd hp).mono (show 17 ≤ 64 by decide))).2.1 j hj
set_option maxRecDepth 100000 in
theorem c_high {d : Nat} {M : Mem} {k : Nat} {P : Int → Pl k} (C : CS M k P) {x y o : Int} (hx : isP x) (hy : isP y) (ho : isP o) : Ct 198 (d + 1) 38 [(1, x), (1, y), (1, o)] M (fun r M' => r = (0, (max (dg (P o)) (max (dg (P x)) (dg (P y))))) ∧ M' = M) := by
  have hK : cd 38 = k38 := rfl
  have dx := C.dI hx
  have dy := C.dI hy
  have do_ := C.dI ho
  show Wp 198 _ 38 0 [(1, x), (1, y), (1, o)] [] M _
  refine w_al hK rfl rfl ?_
  refine w_pt hK rfl ho ?_
  rw [show M o 1 = dg (P o) from C.t ho]
  refine w_al hK rfl rfl ?_
  refine w_pt hK rfl hx ?_
  rw [show M x 1 = dg (P x) from C.t hx]
  refine w_al hK rfl rfl ?_
  refine w_pt hK rfl hy ?_
  rw [show M y 1 = dg (P y) from C.t hy]
  refine w_call [(0, (dg (P x))), (0, (dg (P y)))] hK rfl rfl rfl rfl (Or.inl rfl) (c_max (dg (P x)) (dg (P y)) (by omega) (by omega) (by omega) (by omega)) ?_
  rintro _ Mq ⟨rfl, e_⟩
  subst Mq
  refine ⟨by show (0 : Nat) ≠ 9; decide, (?_ : Wp 198 _ 38 7 [(1, x), (1, y), (1, o)] [(0, (max (dg (P x)) (dg (P y)))), (0, (dg (P o)))] M _)⟩
  refine w_call [(0, (dg (P o))), (0, (max (dg (P x)) (dg (P y))))] hK rfl rfl rfl rfl (Or.inl rfl) (c_max (dg (P o)) (max (dg (P x)) (dg (P y))) (by omega) (by omega) (by omega) (by omega)) ?_
  rintro _ Mq ⟨rfl, e_⟩
  subst Mq
  refine ⟨by show (0 : Nat) ≠ 9; decide, (?_ : Wp 198 _ 38 8 [(1, x), (1, y), (1, o)] [(0, (max (dg (P o)) (max (dg (P x)) (dg (P y)))))] M _)⟩
  refine w_iret hK rfl rfl ?_
  exact ⟨rfl, rfl⟩
set_option maxRecDepth 100000 in
theorem c_rsum {d : Nat} {M : Mem} {k : Nat} {P : Int → Pl k} (C : CS M k P) {x y o : Int} (hx : isP x) (hy : isP y) (ho : isP o) : Ct 198 (d + 2) 37 [(1, 7), (1, x), (1, y), (1, o)] M (fun r M' => r = (4, 0) ∧ CS M' k (pu P o (adp (P x) (P y))) ∧ NPS M M') := by
  have hK : cd 37 = k37 := rfl
  have do_ := C.dI ho
  have dx := C.dI hx
  have dy := C.dI hy
  show Wp 198 _ 37 0 [(1, 7), (1, x), (1, y), (1, o), (3, 0)] [] M _
  refine w_al hK rfl rfl ?_
  refine w_al hK rfl rfl ?_
  refine w_al hK rfl rfl ?_
  refine w_call [(1, x), (1, y), (1, o)] hK rfl rfl rfl rfl (Or.inl rfl) (c_high C hx hy ho) ?_
  rintro _ Mq ⟨rfl, e_⟩
  subst Mq
  refine ⟨by show (0 : Nat) ≠ 9; decide, (?_ : Wp 198 _ 37 4 [(1, 7), (1, x), (1, y), (1, o), (3, 0)] [(0, (max (dg (P o)) (max (dg (P x)) (dg (P y)))))] M _)⟩
  refine w_is [(1, 7), (1, x), (1, y), (1, o), (0, (max (dg (P o)) (max (dg (P x)) (dg (P y)))))] hK rfl rfl rfl ?_
  have lp5 : ∀ (n_ : Nat) (i : Int) (N5 : Mem), (i + 1).toNat = n_ → (-1 ≤ i) → (i ≤ 16) → (CS N5 k (pu P o (mx (adp (P x) (P y)) (P o) i))) → (NPS M N5) → Wp 198 (d + 2) 37 5 [(1, 7), (1, x), (1, y), (1, o), (0, i)] [] N5 (fun r M' => r = (4, 0) ∧ CS M' k (pu P o (adp (P x) (P y))) ∧ NPS M M') := by
    intro n_
    induction n_ using Nat.strongRecOn with
    | _ n_ ih5 =>
    intro i N5 hm5 hi1 hi2 hC hS
    refine w_il hK rfl rfl ?_
    refine w_lt hK rfl (by omega) (by omega) (fun h6 => ?_) (fun h6 => ?_)
    · refine w_ret hK rfl rfl ?_
      rw [mx_all (by omega)] at hC
      exact ⟨rfl, hC, hS⟩
    · refine w_al hK rfl rfl ?_
      refine w_il hK rfl rfl ?_
      refine w_al hK rfl rfl ?_
      refine w_getr (n := 0) (v := 1) hK rfl rfl (by decide) (by decide) rfl rfl rfl rfl ?_
      refine w_al hK rfl rfl ?_
      refine w_il hK rfl rfl ?_
      refine w_call [(1, x), (0, i)] hK rfl rfl rfl rfl (Or.inr ⟨_, _, _, rfl, hx.nn, hx.lb, hx.o⟩) (c_at hC hx i (by omega) (by omega)) ?_
      rintro _ Mq ⟨rfl, e_⟩
      subst Mq
      refine ⟨by show (0 : Nat) ≠ 9; decide, (?_ : Wp 198 _ 37 14 [(1, 7), (1, x), (1, y), (1, o), (0, i)] [(0, ((cf ((pu P o (mx (adp (P x) (P y)) (P o) i)) x) i).val : Int)), (1, 1), (0, i), (1, o)] N5 _)⟩
      refine w_al hK rfl rfl ?_
      refine w_il hK rfl rfl ?_
      refine w_call [(1, y), (0, i)] hK rfl rfl rfl rfl (Or.inr ⟨_, _, _, rfl, hy.nn, hy.lb, hy.o⟩) (c_at hC hy i (by omega) (by omega)) ?_
      rintro _ Mq ⟨rfl, e_⟩
      subst Mq
      refine ⟨by show (0 : Nat) ≠ 9; decide, (?_ : Wp 198 _ 37 17 [(1, 7), (1, x), (1, y), (1, o), (0, i)] [(0, ((cf ((pu P o (mx (adp (P x) (P y)) (P o) i)) y) i).val : Int)), (0, ((cf ((pu P o (mx (adp (P x) (P y)) (P o) i)) x) i).val : Int)), (1, 1), (0, i), (1, o)] N5 _)⟩
      refine w_call [(1, 1), (0, ((cf ((pu P o (mx (adp (P x) (P y)) (P o) i)) x) i).val : Int)), (0, ((cf ((pu P o (mx (adp (P x) (P y)) (P o) i)) y) i).val : Int))] hK rfl rfl rfl rfl (Or.inr ⟨_, _, _, rfl, by decide, (by decide), rfl⟩) (c_sum (by decide) hC.F (cf ((pu P o (mx (adp (P x) (P y)) (P o) i)) x) i) (cf ((pu P o (mx (adp (P x) (P y)) (P o) i)) y) i) ) ?_
      rintro _ Mq ⟨rfl, e_⟩
      subst Mq
      refine ⟨by show (0 : Nat) ≠ 9; decide, (?_ : Wp 198 _ 37 18 [(1, 7), (1, x), (1, y), (1, o), (0, i)] [(0, ((ad (cf ((pu P o (mx (adp (P x) (P y)) (P o) i)) x) i) (cf ((pu P o (mx (adp (P x) (P y)) (P o) i)) y) i)).val : Int)), (0, i), (1, o)] N5 _)⟩
      refine w_call [(1, o), (0, i), (0, ((ad (cf ((pu P o (mx (adp (P x) (P y)) (P o) i)) x) i) (cf ((pu P o (mx (adp (P x) (P y)) (P o) i)) y) i)).val : Int))] hK rfl rfl rfl rfl (Or.inr ⟨_, _, _, rfl, ho.nn, ho.lb, ho.o⟩) (c_put hC ho i (ad (cf ((pu P o (mx (adp (P x) (P y)) (P o) i)) x) i) (cf ((pu P o (mx (adp (P x) (P y)) (P o) i)) y) i)) (by omega) (by omega)) ?_
      rintro _ V5 ⟨rfl, C5, S5⟩
      refine ⟨by decide, (?_ : Wp 198 _ 37 19 [(1, 7), (1, x), (1, y), (1, o), (0, i)] [] V5 _)⟩
      refine w_inc [(1, 7), (1, x), (1, y), (1, o), (0, (i + (-1)))] hK rfl rfl rfl (by omega) (by omega) rfl ?_
      refine w_goto hK rfl ?_
      exact ih5 _ (by omega) (i - 1) V5 rfl (by omega) (by omega) (by have e := C5; rw [mx_step (P := P) (o := o) (h := P o) (i := i) (s := adp (P x) (P y)) (by omega)] at e; exact e; rw [rd_mx (by omega), rd_mx (by omega)]; rfl) ((hS.tr S5))
  exact lp5 _ (max (dg (P o)) (max (dg (P x)) (dg (P y)))) M rfl (by omega) (by omega) (C.mx0 (fun j hj => by unfold adp; rw [C.z hx (by omega), C.z hy (by omega), C.z ho (by omega), ad_zero])) NPS.rf
set_option maxRecDepth 100000 in
theorem c_rdif {d : Nat} {M : Mem} {k : Nat} {P : Int → Pl k} (C : CS M k P) {x y o : Int} (hx : isP x) (hy : isP y) (ho : isP o) : Ct 198 (d + 2) 39 [(1, 7), (1, x), (1, y), (1, o)] M (fun r M' => r = (4, 0) ∧ CS M' k (pu P o (sbp (P x) (P y))) ∧ NPS M M') := by
  have hK : cd 39 = k39 := rfl
  have do_ := C.dI ho
  have dx := C.dI hx
  have dy := C.dI hy
  show Wp 198 _ 39 0 [(1, 7), (1, x), (1, y), (1, o), (3, 0)] [] M _
  refine w_al hK rfl rfl ?_
  refine w_al hK rfl rfl ?_
  refine w_al hK rfl rfl ?_
  refine w_call [(1, x), (1, y), (1, o)] hK rfl rfl rfl rfl (Or.inl rfl) (c_high C hx hy ho) ?_
  rintro _ Mq ⟨rfl, e_⟩
  subst Mq
  refine ⟨by show (0 : Nat) ≠ 9; decide, (?_ : Wp 198 _ 39 4 [(1, 7), (1, x), (1, y), (1, o), (3, 0)] [(0, (max (dg (P o)) (max (dg (P x)) (dg (P y)))))] M _)⟩
  refine w_is [(1, 7), (1, x), (1, y), (1, o), (0, (max (dg (P o)) (max (dg (P x)) (dg (P y)))))] hK rfl rfl rfl ?_
  have lp5 : ∀ (n_ : Nat) (i : Int) (N5 : Mem), (i + 1).toNat = n_ → (-1 ≤ i) → (i ≤ 16) → (CS N5 k (pu P o (mx (sbp (P x) (P y)) (P o) i))) → (NPS M N5) → Wp 198 (d + 2) 39 5 [(1, 7), (1, x), (1, y), (1, o), (0, i)] [] N5 (fun r M' => r = (4, 0) ∧ CS M' k (pu P o (sbp (P x) (P y))) ∧ NPS M M') := by
    intro n_
    induction n_ using Nat.strongRecOn with
    | _ n_ ih5 =>
    intro i N5 hm5 hi1 hi2 hC hS
    refine w_il hK rfl rfl ?_
    refine w_lt hK rfl (by omega) (by omega) (fun h6 => ?_) (fun h6 => ?_)
    · refine w_ret hK rfl rfl ?_
      rw [mx_all (by omega)] at hC
      exact ⟨rfl, hC, hS⟩
    · refine w_al hK rfl rfl ?_
      refine w_il hK rfl rfl ?_
      refine w_al hK rfl rfl ?_
      refine w_getr (n := 0) (v := 1) hK rfl rfl (by decide) (by decide) rfl rfl rfl rfl ?_
      refine w_al hK rfl rfl ?_
      refine w_il hK rfl rfl ?_
      refine w_call [(1, x), (0, i)] hK rfl rfl rfl rfl (Or.inr ⟨_, _, _, rfl, hx.nn, hx.lb, hx.o⟩) (c_at hC hx i (by omega) (by omega)) ?_
      rintro _ Mq ⟨rfl, e_⟩
      subst Mq
      refine ⟨by show (0 : Nat) ≠ 9; decide, (?_ : Wp 198 _ 39 14 [(1, 7), (1, x), (1, y), (1, o), (0, i)] [(0, ((cf ((pu P o (mx (sbp (P x) (P y)) (P o) i)) x) i).val : Int)), (1, 1), (0, i), (1, o)] N5 _)⟩
      refine w_al hK rfl rfl ?_
      refine w_il hK rfl rfl ?_
      refine w_call [(1, y), (0, i)] hK rfl rfl rfl rfl (Or.inr ⟨_, _, _, rfl, hy.nn, hy.lb, hy.o⟩) (c_at hC hy i (by omega) (by omega)) ?_
      rintro _ Mq ⟨rfl, e_⟩
      subst Mq
      refine ⟨by show (0 : Nat) ≠ 9; decide, (?_ : Wp 198 _ 39 17 [(1, 7), (1, x), (1, y), (1, o), (0, i)] [(0, ((cf ((pu P o (mx (sbp (P x) (P y)) (P o) i)) y) i).val : Int)), (0, ((cf ((pu P o (mx (sbp (P x) (P y)) (P o) i)) x) i).val : Int)), (1, 1), (0, i), (1, o)] N5 _)⟩
      refine w_call [(1, 1), (0, ((cf ((pu P o (mx (sbp (P x) (P y)) (P o) i)) x) i).val : Int)), (0, ((cf ((pu P o (mx (sbp (P x) (P y)) (P o) i)) y) i).val : Int))] hK rfl rfl rfl rfl (Or.inr ⟨_, _, _, rfl, by decide, (by decide), rfl⟩) (c_diff (by decide) hC.F (cf ((pu P o (mx (sbp (P x) (P y)) (P o) i)) x) i) (cf ((pu P o (mx (sbp (P x) (P y)) (P o) i)) y) i) ) ?_
      rintro _ Mq ⟨rfl, e_⟩
      subst Mq
      refine ⟨by show (0 : Nat) ≠ 9; decide, (?_ : Wp 198 _ 39 18 [(1, 7), (1, x), (1, y), (1, o), (0, i)] [(0, ((ad (cf ((pu P o (mx (sbp (P x) (P y)) (P o) i)) x) i) (ng (cf ((pu P o (mx (sbp (P x) (P y)) (P o) i)) y) i))).val : Int)), (0, i), (1, o)] N5 _)⟩
      refine w_call [(1, o), (0, i), (0, ((ad (cf ((pu P o (mx (sbp (P x) (P y)) (P o) i)) x) i) (ng (cf ((pu P o (mx (sbp (P x) (P y)) (P o) i)) y) i))).val : Int))] hK rfl rfl rfl rfl (Or.inr ⟨_, _, _, rfl, ho.nn, ho.lb, ho.o⟩) (c_put hC ho i (ad (cf ((pu P o (mx (sbp (P x) (P y)) (P o) i)) x) i) (ng (cf ((pu P o (mx (sbp (P x) (P y)) (P o) i)) y) i))) (by omega) (by omega)) ?_
      rintro _ V6 ⟨rfl, C6, S6⟩
      refine ⟨by decide, (?_ : Wp 198 _ 39 19 [(1, 7), (1, x), (1, y), (1, o), (0, i)] [] V6 _)⟩
      refine w_inc [(1, 7), (1, x), (1, y), (1, o), (0, (i + (-1)))] hK rfl rfl rfl (by omega) (by omega) rfl ?_
      refine w_goto hK rfl ?_
      exact ih5 _ (by omega) (i - 1) V6 rfl (by omega) (by omega) (by have e := C6; rw [mx_step (P := P) (o := o) (h := P o) (i := i) (s := sbp (P x) (P y)) (by omega)] at e; exact e; rw [rd_mx (by omega), rd_mx (by omega)]; rfl) ((hS.tr S6))
  exact lp5 _ (max (dg (P o)) (max (dg (P x)) (dg (P y)))) M rfl (by omega) (by omega) (C.mx0 (fun j hj => by unfold sbp; rw [C.z hx (by omega), C.z hy (by omega), C.z ho (by omega), ng_z, ad_zero])) NPS.rf
set_option maxRecDepth 100000 in
theorem c_rscl {d : Nat} {M : Mem} {k : Nat} {P : Int → Pl k} (C : CS M k P) (c : El k) {x o : Int} (hx : isP x) (ho : isP o) : Ct 198 (d + 1) 40 [(1, 7), (0, (c.val : Int)), (1, x), (1, o)] M (fun r M' => r = (4, 0) ∧ CS M' k (pu P o (scl c (P x))) ∧ NPS M M') := by
  have hK : cd 40 = k40 := rfl
  have do_ := C.dI ho
  have dx := C.dI hx
  show Wp 198 _ 40 0 [(1, 7), (0, (c.val : Int)), (1, x), (1, o), (3, 0)] [] M _
  refine w_al hK rfl rfl ?_
  refine w_pt hK rfl hx ?_
  rw [show M x 1 = dg (P x) from C.t hx]
  refine w_al hK rfl rfl ?_
  refine w_pt hK rfl ho ?_
  rw [show M o 1 = dg (P o) from C.t ho]
  refine w_call [(0, (dg (P x))), (0, (dg (P o)))] hK rfl rfl rfl rfl (Or.inl rfl) (c_max (dg (P x)) (dg (P o)) (by omega) (by omega) (by omega) (by omega)) ?_
  rintro _ Mq ⟨rfl, e_⟩
  subst Mq
  refine ⟨by show (0 : Nat) ≠ 9; decide, (?_ : Wp 198 _ 40 5 [(1, 7), (0, (c.val : Int)), (1, x), (1, o), (3, 0)] [(0, (max (dg (P x)) (dg (P o))))] M _)⟩
  refine w_is [(1, 7), (0, (c.val : Int)), (1, x), (1, o), (0, (max (dg (P x)) (dg (P o))))] hK rfl rfl rfl ?_
  have lp6 : ∀ (n_ : Nat) (i : Int) (N6 : Mem), (i + 1).toNat = n_ → (-1 ≤ i) → (i ≤ 16) → (CS N6 k (pu P o (mx (scl c (P x)) (P o) i))) → (NPS M N6) → Wp 198 (d + 1) 40 6 [(1, 7), (0, (c.val : Int)), (1, x), (1, o), (0, i)] [] N6 (fun r M' => r = (4, 0) ∧ CS M' k (pu P o (scl c (P x))) ∧ NPS M M') := by
    intro n_
    induction n_ using Nat.strongRecOn with
    | _ n_ ih6 =>
    intro i N6 hm6 hi1 hi2 hC hS
    refine w_il hK rfl rfl ?_
    refine w_lt hK rfl (by omega) (by omega) (fun h7 => ?_) (fun h7 => ?_)
    · refine w_ret hK rfl rfl ?_
      rw [mx_all (by omega)] at hC
      exact ⟨rfl, hC, hS⟩
    · refine w_al hK rfl rfl ?_
      refine w_il hK rfl rfl ?_
      refine w_al hK rfl rfl ?_
      refine w_getr (n := 0) (v := 1) hK rfl rfl (by decide) (by decide) rfl rfl rfl rfl ?_
      refine w_il hK rfl rfl ?_
      refine w_al hK rfl rfl ?_
      refine w_il hK rfl rfl ?_
      refine w_call [(1, x), (0, i)] hK rfl rfl rfl rfl (Or.inr ⟨_, _, _, rfl, hx.nn, hx.lb, hx.o⟩) (c_at hC hx i (by omega) (by omega)) ?_
      rintro _ Mq ⟨rfl, e_⟩
      subst Mq
      refine ⟨by show (0 : Nat) ≠ 9; decide, (?_ : Wp 198 _ 40 16 [(1, 7), (0, (c.val : Int)), (1, x), (1, o), (0, i)] [(0, ((cf ((pu P o (mx (scl c (P x)) (P o) i)) x) i).val : Int)), (0, (c.val : Int)), (1, 1), (0, i), (1, o)] N6 _)⟩
      refine w_call [(1, 1), (0, (c.val : Int)), (0, ((cf ((pu P o (mx (scl c (P x)) (P o) i)) x) i).val : Int))] hK rfl rfl rfl rfl (Or.inr ⟨_, _, _, rfl, by decide, (by decide), rfl⟩) (c_prod (by decide) hC.F c (cf ((pu P o (mx (scl c (P x)) (P o) i)) x) i) ) ?_
      rintro _ Mq ⟨rfl, e_⟩
      subst Mq
      refine ⟨by show (0 : Nat) ≠ 9; decide, (?_ : Wp 198 _ 40 17 [(1, 7), (0, (c.val : Int)), (1, x), (1, o), (0, i)] [(0, ((ml c (cf ((pu P o (mx (scl c (P x)) (P o) i)) x) i)).val : Int)), (0, i), (1, o)] N6 _)⟩
      refine w_call [(1, o), (0, i), (0, ((ml c (cf ((pu P o (mx (scl c (P x)) (P o) i)) x) i)).val : Int))] hK rfl rfl rfl rfl (Or.inr ⟨_, _, _, rfl, ho.nn, ho.lb, ho.o⟩) (c_put hC ho i (ml c (cf ((pu P o (mx (scl c (P x)) (P o) i)) x) i)) (by omega) (by omega)) ?_
      rintro _ V7 ⟨rfl, C7, S7⟩
      refine ⟨by decide, (?_ : Wp 198 _ 40 18 [(1, 7), (0, (c.val : Int)), (1, x), (1, o), (0, i)] [] V7 _)⟩
      refine w_inc [(1, 7), (0, (c.val : Int)), (1, x), (1, o), (0, (i + (-1)))] hK rfl rfl rfl (by omega) (by omega) rfl ?_
      refine w_goto hK rfl ?_
      exact ih6 _ (by omega) (i - 1) V7 rfl (by omega) (by omega) (by have e := C7; rw [mx_step (P := P) (o := o) (h := P o) (i := i) (s := scl c (P x)) (by omega)] at e; exact e; rw [rd_mx (by omega)]; rfl) ((hS.tr S7))
  exact lp6 _ (max (dg (P x)) (dg (P o))) M rfl (by omega) (by omega) (C.mx0 (fun j hj => by unfold scl; rw [C.z hx (by omega), C.z ho (by omega), ml_zero])) NPS.rf
set_option maxRecDepth 100000 in
theorem c_rscb {d : Nat} {M : Mem} {k : Nat} {P : Int → Pl k} (C : CS M k P) {x : Int} (c : El k) {o : Int} (hx : isP x) (ho : isP o) : Ct 198 (d + 2) 47 [(1, 7), (1, x), (0, (c.val : Int)), (1, o)] M (fun r M' => r = (4, 0) ∧ CS M' k (pu P o (scb (P x) c)) ∧ NPS M M') := by
  have hK : cd 47 = k47 := rfl
  have do_ := C.dI ho
  have dx := C.dI hx
  show Wp 198 _ 47 0 [(1, 7), (1, x), (0, (c.val : Int)), (1, o), (3, 0)] [] M _
  refine w_al hK rfl rfl ?_
  refine w_pt hK rfl hx ?_
  rw [show M x 1 = dg (P x) from C.t hx]
  refine w_al hK rfl rfl ?_
  refine w_pt hK rfl ho ?_
  rw [show M o 1 = dg (P o) from C.t ho]
  refine w_call [(0, (dg (P x))), (0, (dg (P o)))] hK rfl rfl rfl rfl (Or.inl rfl) (c_max (dg (P x)) (dg (P o)) (by omega) (by omega) (by omega) (by omega)) ?_
  rintro _ Mq ⟨rfl, e_⟩
  subst Mq
  refine ⟨by show (0 : Nat) ≠ 9; decide, (?_ : Wp 198 _ 47 5 [(1, 7), (1, x), (0, (c.val : Int)), (1, o), (3, 0)] [(0, (max (dg (P x)) (dg (P o))))] M _)⟩
  refine w_is [(1, 7), (1, x), (0, (c.val : Int)), (1, o), (0, (max (dg (P x)) (dg (P o))))] hK rfl rfl rfl ?_
  have lp6 : ∀ (n_ : Nat) (i : Int) (N6 : Mem), (i + 1).toNat = n_ → (-1 ≤ i) → (i ≤ 16) → (CS N6 k (pu P o (mx (scb (P x) c) (P o) i))) → (NPS M N6) → Wp 198 (d + 2) 47 6 [(1, 7), (1, x), (0, (c.val : Int)), (1, o), (0, i)] [] N6 (fun r M' => r = (4, 0) ∧ CS M' k (pu P o (scb (P x) c)) ∧ NPS M M') := by
    intro n_
    induction n_ using Nat.strongRecOn with
    | _ n_ ih6 =>
    intro i N6 hm6 hi1 hi2 hC hS
    refine w_il hK rfl rfl ?_
    refine w_lt hK rfl (by omega) (by omega) (fun h7 => ?_) (fun h7 => ?_)
    · refine w_ret hK rfl rfl ?_
      rw [mx_all (by omega)] at hC
      exact ⟨rfl, hC, hS⟩
    · refine w_al hK rfl rfl ?_
      refine w_il hK rfl rfl ?_
      refine w_al hK rfl rfl ?_
      refine w_getr (n := 0) (v := 1) hK rfl rfl (by decide) (by decide) rfl rfl rfl rfl ?_
      refine w_al hK rfl rfl ?_
      refine w_il hK rfl rfl ?_
      refine w_call [(1, x), (0, i)] hK rfl rfl rfl rfl (Or.inr ⟨_, _, _, rfl, hx.nn, hx.lb, hx.o⟩) (c_at hC hx i (by omega) (by omega)) ?_
      rintro _ Mq ⟨rfl, e_⟩
      subst Mq
      refine ⟨by show (0 : Nat) ≠ 9; decide, (?_ : Wp 198 _ 47 15 [(1, 7), (1, x), (0, (c.val : Int)), (1, o), (0, i)] [(0, ((cf ((pu P o (mx (scb (P x) c) (P o) i)) x) i).val : Int)), (1, 1), (0, i), (1, o)] N6 _)⟩
      refine w_al hK rfl rfl ?_
      refine w_getr (n := 0) (v := 1) hK rfl rfl (by decide) (by decide) rfl rfl rfl rfl ?_
      refine w_il hK rfl rfl ?_
      refine w_il hK rfl rfl ?_
      refine w_call [(1, 1), (0, (c.val : Int)), (0, i)] hK rfl rfl rfl rfl (Or.inr ⟨_, _, _, rfl, by decide, (by decide), rfl⟩) (c_image (by decide) hC.F c i (by omega) (by omega)) ?_
      rintro _ Mq ⟨rfl, e_⟩
      subst Mq
      refine ⟨by show (0 : Nat) ≠ 9; decide, (?_ : Wp 198 _ 47 20 [(1, 7), (1, x), (0, (c.val : Int)), (1, o), (0, i)] [(0, ((sgI i c).val : Int)), (0, ((cf ((pu P o (mx (scb (P x) c) (P o) i)) x) i).val : Int)), (1, 1), (0, i), (1, o)] N6 _)⟩
      refine w_call [(1, 1), (0, ((cf ((pu P o (mx (scb (P x) c) (P o) i)) x) i).val : Int)), (0, ((sgI i c).val : Int))] hK rfl rfl rfl rfl (Or.inr ⟨_, _, _, rfl, by decide, (by decide), rfl⟩) (c_prod (by decide) hC.F (cf ((pu P o (mx (scb (P x) c) (P o) i)) x) i) (sgI i c) ) ?_
      rintro _ Mq ⟨rfl, e_⟩
      subst Mq
      refine ⟨by show (0 : Nat) ≠ 9; decide, (?_ : Wp 198 _ 47 21 [(1, 7), (1, x), (0, (c.val : Int)), (1, o), (0, i)] [(0, ((ml (cf ((pu P o (mx (scb (P x) c) (P o) i)) x) i) (sgI i c)).val : Int)), (0, i), (1, o)] N6 _)⟩
      refine w_call [(1, o), (0, i), (0, ((ml (cf ((pu P o (mx (scb (P x) c) (P o) i)) x) i) (sgI i c)).val : Int))] hK rfl rfl rfl rfl (Or.inr ⟨_, _, _, rfl, ho.nn, ho.lb, ho.o⟩) (c_put hC ho i (ml (cf ((pu P o (mx (scb (P x) c) (P o) i)) x) i) (sgI i c)) (by omega) (by omega)) ?_
      rintro _ V8 ⟨rfl, C8, S8⟩
      refine ⟨by decide, (?_ : Wp 198 _ 47 22 [(1, 7), (1, x), (0, (c.val : Int)), (1, o), (0, i)] [] V8 _)⟩
      refine w_inc [(1, 7), (1, x), (0, (c.val : Int)), (1, o), (0, (i + (-1)))] hK rfl rfl rfl (by omega) (by omega) rfl ?_
      refine w_goto hK rfl ?_
      exact ih6 _ (by omega) (i - 1) V8 rfl (by omega) (by omega) (by have e := C8; rw [mx_step (P := P) (o := o) (h := P o) (i := i) (s := scb (P x) c) (by omega)] at e; exact e; rw [rd_mx (by omega)]; unfold scb; rw [show sgI i c = sg i.toNat c by rw [← sgI_nat, Int.toNat_of_nonneg (by omega)]]) ((hS.tr S8))
  exact lp6 _ (max (dg (P x)) (dg (P o))) M rfl (by omega) (by omega) (C.mx0 (fun j hj => by unfold scb; rw [C.z hx (by omega), C.z ho (by omega), zero_ml])) NPS.rf
set_option maxRecDepth 100000 in
theorem c_rmap {d : Nat} {M : Mem} {k : Nat} {P : Int → Pl k} (C : CS M k P) {x : Int} (n : Int) {o : Int} (hx : isP x) (ho : isP o) (n1 : -128 ≤ n) (n2 : n ≤ 128) : Ct 198 (d + 2) 48 [(1, 7), (1, x), (0, n), (1, o)] M (fun r M' => r = (4, 0) ∧ CS M' k (pu P o (mpp n (P x))) ∧ NPS M M') := by
  have hK : cd 48 = k48 := rfl
  have do_ := C.dI ho
  have dx := C.dI hx
  show Wp 198 _ 48 0 [(1, 7), (1, x), (0, n), (1, o), (3, 0)] [] M _
  refine w_al hK rfl rfl ?_
  refine w_pt hK rfl hx ?_
  rw [show M x 1 = dg (P x) from C.t hx]
  refine w_al hK rfl rfl ?_
  refine w_pt hK rfl ho ?_
  rw [show M o 1 = dg (P o) from C.t ho]
  refine w_call [(0, (dg (P x))), (0, (dg (P o)))] hK rfl rfl rfl rfl (Or.inl rfl) (c_max (dg (P x)) (dg (P o)) (by omega) (by omega) (by omega) (by omega)) ?_
  rintro _ Mq ⟨rfl, e_⟩
  subst Mq
  refine ⟨by show (0 : Nat) ≠ 9; decide, (?_ : Wp 198 _ 48 5 [(1, 7), (1, x), (0, n), (1, o), (3, 0)] [(0, (max (dg (P x)) (dg (P o))))] M _)⟩
  refine w_is [(1, 7), (1, x), (0, n), (1, o), (0, (max (dg (P x)) (dg (P o))))] hK rfl rfl rfl ?_
  have lp6 : ∀ (n_ : Nat) (i : Int) (N6 : Mem), (i + 1).toNat = n_ → (-1 ≤ i) → (i ≤ 16) → (CS N6 k (pu P o (mx (mpp n (P x)) (P o) i))) → (NPS M N6) → Wp 198 (d + 2) 48 6 [(1, 7), (1, x), (0, n), (1, o), (0, i)] [] N6 (fun r M' => r = (4, 0) ∧ CS M' k (pu P o (mpp n (P x))) ∧ NPS M M') := by
    intro n_
    induction n_ using Nat.strongRecOn with
    | _ n_ ih6 =>
    intro i N6 hm6 hi1 hi2 hC hS
    refine w_il hK rfl rfl ?_
    refine w_lt hK rfl (by omega) (by omega) (fun h7 => ?_) (fun h7 => ?_)
    · refine w_ret hK rfl rfl ?_
      rw [mx_all (by omega)] at hC
      exact ⟨rfl, hC, hS⟩
    · refine w_al hK rfl rfl ?_
      refine w_il hK rfl rfl ?_
      refine w_al hK rfl rfl ?_
      refine w_getr (n := 0) (v := 1) hK rfl rfl (by decide) (by decide) rfl rfl rfl rfl ?_
      refine w_al hK rfl rfl ?_
      refine w_il hK rfl rfl ?_
      refine w_call [(1, x), (0, i)] hK rfl rfl rfl rfl (Or.inr ⟨_, _, _, rfl, hx.nn, hx.lb, hx.o⟩) (c_at hC hx i (by omega) (by omega)) ?_
      rintro _ Mq ⟨rfl, e_⟩
      subst Mq
      refine ⟨by show (0 : Nat) ≠ 9; decide, (?_ : Wp 198 _ 48 15 [(1, 7), (1, x), (0, n), (1, o), (0, i)] [(0, ((cf ((pu P o (mx (mpp n (P x)) (P o) i)) x) i).val : Int)), (1, 1), (0, i), (1, o)] N6 _)⟩
      refine w_il hK rfl rfl ?_
      refine w_call [(1, 1), (0, ((cf ((pu P o (mx (mpp n (P x)) (P o) i)) x) i).val : Int)), (0, n)] hK rfl rfl rfl rfl (Or.inr ⟨_, _, _, rfl, by decide, (by decide), rfl⟩) (c_image (by decide) hC.F (cf ((pu P o (mx (mpp n (P x)) (P o) i)) x) i) n (by omega) (by omega)) ?_
      rintro _ Mq ⟨rfl, e_⟩
      subst Mq
      refine ⟨by show (0 : Nat) ≠ 9; decide, (?_ : Wp 198 _ 48 17 [(1, 7), (1, x), (0, n), (1, o), (0, i)] [(0, ((sgI n (cf ((pu P o (mx (mpp n (P x)) (P o) i)) x) i)).val : Int)), (0, i), (1, o)] N6 _)⟩
      refine w_call [(1, o), (0, i), (0, ((sgI n (cf ((pu P o (mx (mpp n (P x)) (P o) i)) x) i)).val : Int))] hK rfl rfl rfl rfl (Or.inr ⟨_, _, _, rfl, ho.nn, ho.lb, ho.o⟩) (c_put hC ho i (sgI n (cf ((pu P o (mx (mpp n (P x)) (P o) i)) x) i)) (by omega) (by omega)) ?_
      rintro _ V9 ⟨rfl, C9, S9⟩
      refine ⟨by decide, (?_ : Wp 198 _ 48 18 [(1, 7), (1, x), (0, n), (1, o), (0, i)] [] V9 _)⟩
      refine w_inc [(1, 7), (1, x), (0, n), (1, o), (0, (i + (-1)))] hK rfl rfl rfl (by omega) (by omega) rfl ?_
      refine w_goto hK rfl ?_
      exact ih6 _ (by omega) (i - 1) V9 rfl (by omega) (by omega) (by have e := C9; rw [mx_step (P := P) (o := o) (h := P o) (i := i) (s := mpp n (P x)) (by omega)] at e; exact e; rw [rd_mx (by omega)]; rfl) ((hS.tr S9))
  exact lp6 _ (max (dg (P x)) (dg (P o))) M rfl (by omega) (by omega) (C.mx0 (fun j hj => by unfold mpp; rw [C.z hx (by omega), C.z ho (by omega), sgI_z])) NPS.rf
