/-! contracts: Ring, sums and products -/
def adp {k : Nat} (f g : Pl k) : Pl k := fun j => ad (f j) (g j)
def sbp {k : Nat} (f g : Pl k) : Pl k := fun j => ad (f j) (ng (g j))
def scl {k : Nat} (c : El k) (f : Pl k) : Pl k := fun j => ml c (f j)
/-- a number behind -/
def scb {k : Nat} (f : Pl k) (c : El k) : Pl k := fun j => ml (f j) (sg j c)
def mpp {k : Nat} (n : Int) (f : Pl k) : Pl k := fun j => sgI n (f j)
theorem sgI_z {k : Nat} (n : Int) : sgI n (z0 : El k) = z0 := sg_z _
theorem CS.z {M : Mem} {k : Nat} {P : Int → Option (Pl k)} (C : CS M k P) {p : Int} {f : Pl k} (hp : isC P p f) {j : Nat} (hj : dg f < (j : Int)) : f j = z0 := (dg_is ((C.bd hp).mono (show 17 ≤ 64 by decide))).2.1 j hj
/-- s above i, what stood there from i down -/
def mxr {k : Nat} (s : Pl k) (g : Int → Int) (i : Int) (j : Nat) : Int := if i < (j : Int) then ((s j).val : Int) else g (j : Int)
theorem mxr_step {k : Nat} {s : Pl k} {g : Int → Int} {i : Int} (h0 : 0 ≤ i) : gup (mxr s g i) i.toNat ((s i.toNat).val : Int) = mxr s g (i - 1) := by
  funext j
  unfold gup mxr
  by_cases e : j = i.toNat
  · rw [if_pos e, if_pos (by omega), e]
  · rw [if_neg e]
    by_cases e2 : i < (j : Int)
    · rw [if_pos e2, if_pos (by omega)]
    · rw [if_neg e2, if_neg (by omega)]
theorem mx_rd {M N : Mem} {k : Nat} {P : Int → Option (Pl k)} (C : CS M k P) {o x : Int} {f s : Pl k} (hx : isC P x f) (ho : isP o) {i : Int} (h0 : 0 ≤ i) (h1 : i < 17) (hg : ∀ j : Nat, j < 17 → N (o + 1) (j : Int) = mxr s (M (o + 1)) i j) (hD : ∀ a : Int, a ≠ o → a ≠ o + 1 → N a = M a) : N (x + 1) i = ((f i.toNat).val : Int) := by
  have e := C.at hx (j := i.toNat) (by omega)
  rw [Int.toNat_of_nonneg h0] at e
  by_cases q : x = o
  · have h2 := hg i.toNat (by omega)
    unfold mxr at h2
    rw [Int.toNat_of_nonneg h0, if_neg (by omega)] at h2
    rw [q, h2, ← q, e]
  · rw [hD _ (fun w => ho.ap hx.1 w.symm) (by omega), e]
theorem mx_F {M N : Mem} {k : Nat} {o : Int} (ho : isP o) (F : FS M k) (hD : ∀ a : Int, a ≠ o → a ≠ o + 1 → N a = M a) : FS N k := F.congr fun x h1 h2 => hD x (by have := ho.1; omega) (by have := ho.1; omega)
theorem mx_end {M N : Mem} {k : Nat} {P : Int → Option (Pl k)} (C : CS M k P) {o : Int} {s : Pl k} (ho : isP o) (hb : Bd s 17) {i : Int} (hi : i < 0) (hg : ∀ j : Nat, j < 17 → N (o + 1) (j : Int) = mxr s (M (o + 1)) i j) (ht : -1 ≤ N o 1 ∧ N o 1 ≤ 16) (hz : ∀ j : Nat, N o 1 < (j : Int) → j < 17 → mxr s (M (o + 1)) i j = 0) (hn : N o 1 ≤ i ∨ (0 ≤ N o 1 → mxr s (M (o + 1)) i (N o 1).toNat ≠ 0)) (hD : ∀ a : Int, a ≠ o → a ≠ o + 1 → N a = M a) : CS N k (pu P o s) ∧ NPS M N := by
  have e : ∀ j : Nat, mxr s (M (o + 1)) i j = ((s j).val : Int) := fun j => if_pos (by omega)
  refine C.wr ho (fun j hj => (hg j hj).trans (e j)) hb (dg_eq (hb.mono (by decide)) ⟨ht.1, fun j hj => ?_, fun q w => ?_⟩).symm hD
  · by_cases q : j < 17
    · have := hz j hj q
      rw [e] at this
      exact z0_iff.mpr (by omega)
    · exact hb j (by omega)
  · rcases hn with h | h
    · omega
    · have := h q
      rw [e, w] at this
      exact this el0
theorem mx_I {M : Mem} {k : Nat} {P : Int → Option (Pl k)} (C : CS M k P) {o : Int} {s : Pl k} (ho : isP o) (i : Int) : ∀ j : Nat, j < 17 → 0 ≤ mxr s (M (o + 1)) i j ∧ mxr s (M (o + 1)) i j ≤ 15 := fun j hj => by
  unfold mxr
  split
  · exact el_I _
  · exact (C.jk ho).2.1 j hj
theorem sgI_bd {k : Nat} (n : Int) {f : Pl k} {m : Nat} (h : Bd f m) : Bd (mpp n f) m := fun j hj => by
  show sgI n (f j) = z0
  rw [h j hj]
  exact sgI_z n
set_option maxRecDepth 100000 in
theorem c_atJ {d : Nat} {M : Mem} {p : Int} (hp : isP p) (j : Int) (h0 : 0 ≤ j) (h1 : j < 17) : Ct 198 (d) 25 [(1, p), (0, j)] M (fun r M' => r = (0, M (p + 1) j) ∧ M' = M) := by
  have hK : cd 25 = k25 := rfl
  show Wp 198 _ 25 0 [(1, p), (0, j)] [] M _
  refine w_il hK rfl rfl ?_
  refine w_lt hK rfl (by omega) (by omega) (fun h1 => ?_) (fun h1 => ?_)
  · exfalso; omega
  · refine w_il hK rfl rfl ?_
    refine w_al hK rfl rfl ?_
    refine w_pa hK rfl hp ?_
    refine w_plen hK rfl hp ?_
    refine w_ge2 hK rfl (by omega) (by omega) (by omega) (by omega) (fun h6 => ?_) (fun h6 => ?_)
    · exfalso; omega
    · refine w_al hK rfl rfl ?_
      refine w_pa hK rfl hp ?_
      refine w_il hK rfl rfl ?_
      refine w_pia hK rfl hp (by omega) (by omega) ?_
      refine w_goto hK rfl ?_
      refine w_iret hK rfl rfl ?_
      exact ⟨rfl, rfl⟩
set_option maxRecDepth 100000 in
theorem c_high {d : Nat} {M : Mem} {k : Nat} {P : Int → Option (Pl k)} (C : CS M k P) {x : Int} {f_x : Pl k} (hx : isC P x f_x) {y : Int} {f_y : Pl k} (hy : isC P y f_y) {o : Int} (ho : isP o) : Ct 198 (d + 1) 38 [(1, x), (1, y), (1, o)] M (fun r M' => r = (0, (max (M o 1) (max (dg f_x) (dg f_y)))) ∧ M' = M) := by
  have hK : cd 38 = k38 := rfl
  have dx := C.dI hx
  have dy := C.dI hy
  have do_ := (C.jk ho).1
  show Wp 198 _ 38 0 [(1, x), (1, y), (1, o)] [] M _
  refine w_al hK rfl rfl ?_
  refine w_pt hK rfl ho ?_
  refine w_al hK rfl rfl ?_
  refine w_pt hK rfl hx.1 ?_
  rw [show M x 1 = dg f_x from C.t hx]
  refine w_al hK rfl rfl ?_
  refine w_pt hK rfl hy.1 ?_
  rw [show M y 1 = dg f_y from C.t hy]
  refine w_call [(0, (dg f_x)), (0, (dg f_y))] hK rfl rfl rfl rfl (Or.inl rfl) (c_max (dg f_x) (dg f_y) (by omega) (by omega) (by omega) (by omega)) ?_
  rintro _ Mq ⟨rfl, e_⟩
  subst Mq
  refine ⟨by show (0 : Nat) ≠ 9; decide, (?_ : Wp 198 _ 38 7 [(1, x), (1, y), (1, o)] [(0, (max (dg f_x) (dg f_y))), (0, (M o 1))] M _)⟩
  refine w_call [(0, (M o 1)), (0, (max (dg f_x) (dg f_y)))] hK rfl rfl rfl rfl (Or.inl rfl) (c_max (M o 1) (max (dg f_x) (dg f_y)) (by omega) (by omega) (by omega) (by omega)) ?_
  rintro _ Mq ⟨rfl, e_⟩
  subst Mq
  refine ⟨by show (0 : Nat) ≠ 9; decide, (?_ : Wp 198 _ 38 8 [(1, x), (1, y), (1, o)] [(0, (max (M o 1) (max (dg f_x) (dg f_y))))] M _)⟩
  refine w_iret hK rfl rfl ?_
  exact ⟨rfl, rfl⟩
set_option maxRecDepth 100000 in
theorem c_rsum {d : Nat} {M : Mem} {k : Nat} {P : Int → Option (Pl k)} (C : CS M k P) {x : Int} {f_x : Pl k} (hx : isC P x f_x) {y : Int} {f_y : Pl k} (hy : isC P y f_y) {o : Int} (ho : isP o) : Ct 198 (d + 2) 37 [(1, 7), (1, x), (1, y), (1, o)] M (fun r M' => r = (4, 0) ∧ CS M' k (pu P o (adp f_x f_y)) ∧ NPS M M') := by
  have hK : cd 37 = k37 := rfl
  have do_ := (C.jk ho).1
  have hb_ : Bd (adp f_x f_y) 17 := fun j hj => by show ad (f_x j) (f_y j) = z0; rw [C.bd hx j hj, C.bd hy j hj, ad_zero]
  have dx := C.dI hx
  have dy := C.dI hy
  have hz_ : ∀ j : Nat, (max (M o 1) (max (dg f_x) (dg f_y))) < (j : Int) → (adp f_x f_y) j = z0 := fun j hj => by
    show ad (f_x j) (f_y j) = z0
    rw [C.z hx (by omega), C.z hy (by omega), ad_zero]
  show Wp 198 _ 37 0 [(1, 7), (1, x), (1, y), (1, o), (3, 0)] [] M _
  refine w_al hK rfl rfl ?_
  refine w_al hK rfl rfl ?_
  refine w_al hK rfl rfl ?_
  refine w_call [(1, x), (1, y), (1, o)] hK rfl rfl rfl rfl (Or.inl rfl) (c_high C hx hy ho) ?_
  rintro _ Mq ⟨rfl, e_⟩
  subst Mq
  refine ⟨by show (0 : Nat) ≠ 9; decide, (?_ : Wp 198 _ 37 4 [(1, 7), (1, x), (1, y), (1, o), (3, 0)] [(0, (max (M o 1) (max (dg f_x) (dg f_y))))] M _)⟩
  refine w_is [(1, 7), (1, x), (1, y), (1, o), (0, (max (M o 1) (max (dg f_x) (dg f_y))))] hK rfl rfl rfl ?_
  have lp5 : ∀ (n_ : Nat) (i : Int) (N5 : Mem), (i + 1).toNat = n_ → (-1 ≤ i) → (i ≤ 16) → (∀ j : Nat, j < 17 → N5 (o + 1) (j : Int) = mxr (adp f_x f_y) (M (o + 1)) i j) → (-1 ≤ N5 o 1 ∧ N5 o 1 ≤ 16) → (∀ j : Nat, N5 o 1 < (j : Int) → j < 17 → mxr (adp f_x f_y) (M (o + 1)) i j = 0) → (N5 o 1 ≤ i ∨ (0 ≤ N5 o 1 → mxr (adp f_x f_y) (M (o + 1)) i (N5 o 1).toNat ≠ 0)) → (∀ a : Int, a ≠ o → a ≠ o + 1 → N5 a = M a) → Wp 198 (d + 2) 37 5 [(1, 7), (1, x), (1, y), (1, o), (0, i)] [] N5 (fun r M' => r = (4, 0) ∧ CS M' k (pu P o (adp f_x f_y)) ∧ NPS M M') := by
    intro n_
    induction n_ using Nat.strongRecOn with
    | _ n_ ih5 =>
    intro i N5 hm5 hi1 hi2 hg ht hz hn hD
    refine w_il hK rfl rfl ?_
    refine w_lt hK rfl (by omega) (by omega) (fun h6 => ?_) (fun h6 => ?_)
    · refine w_ret hK rfl rfl ?_
      obtain ⟨o1, o2⟩ := mx_end C ho hb_ (by omega) hg ht hz hn hD
      exact ⟨rfl, o1, o2⟩
    · refine w_al hK rfl rfl ?_
      refine w_il hK rfl rfl ?_
      refine w_al hK rfl rfl ?_
      refine w_getr (n := 0) (v := 1) hK rfl rfl (by decide) (by decide) rfl rfl rfl rfl ?_
      refine w_al hK rfl rfl ?_
      refine w_il hK rfl rfl ?_
      refine w_call [(1, x), (0, i)] hK rfl rfl rfl rfl (Or.inr ⟨_, _, _, rfl, hx.1.nn, hx.1.lb, hx.1.o⟩) (c_atJ hx.1 i (by omega) (by omega)) ?_
      rintro _ Mq ⟨rfl, e_⟩
      subst Mq
      rw [mx_rd C hx ho (by omega) (by omega) hg hD]
      refine ⟨(by show (0 : Nat) ≠ 9; decide), (?_ : Wp 198 _ 37 14 [(1, 7), (1, x), (1, y), (1, o), (0, i)] [(0, ((f_x i.toNat).val : Int)), (1, 1), (0, i), (1, o)] N5 _)⟩
      refine w_al hK rfl rfl ?_
      refine w_il hK rfl rfl ?_
      refine w_call [(1, y), (0, i)] hK rfl rfl rfl rfl (Or.inr ⟨_, _, _, rfl, hy.1.nn, hy.1.lb, hy.1.o⟩) (c_atJ hy.1 i (by omega) (by omega)) ?_
      rintro _ Mq ⟨rfl, e_⟩
      subst Mq
      rw [mx_rd C hy ho (by omega) (by omega) hg hD]
      refine ⟨(by show (0 : Nat) ≠ 9; decide), (?_ : Wp 198 _ 37 17 [(1, 7), (1, x), (1, y), (1, o), (0, i)] [(0, ((f_y i.toNat).val : Int)), (0, ((f_x i.toNat).val : Int)), (1, 1), (0, i), (1, o)] N5 _)⟩
      refine w_call [(1, 1), (0, ((f_x i.toNat).val : Int)), (0, ((f_y i.toNat).val : Int))] hK rfl rfl rfl rfl (Or.inr ⟨_, _, _, rfl, by decide, (by decide), rfl⟩) (c_sum (by decide) (mx_F ho C.F hD) (f_x i.toNat) (f_y i.toNat) ) ?_
      rintro _ Mq ⟨rfl, e_⟩
      subst Mq
      have bv_ := el_I (ad (f_x i.toNat) (f_y i.toNat))
      refine ⟨by show (0 : Nat) ≠ 9; decide, (?_ : Wp 198 _ 37 18 [(1, 7), (1, x), (1, y), (1, o), (0, i)] [(0, ((ad (f_x i.toNat) (f_y i.toNat)).val : Int)), (0, i), (1, o)] N5 _)⟩
      refine w_call [(1, o), (0, i), (0, ((ad (f_x i.toNat) (f_y i.toNat)).val : Int))] hK rfl rfl rfl rfl (Or.inr ⟨_, _, _, rfl, ho.nn, ho.lb, ho.o⟩) (c_putJ ho hg (mx_I C ho i) ht hz i (((adp f_x f_y) i.toNat).val : Int) (el_I _).1 (el_I _).2 (by omega) (by omega)) ?_
      rintro _ V1 ⟨rfl, g1, t1, z1, n1, D1⟩
      rw [mxr_step (by omega)] at g1 z1 n1
      refine ⟨by decide, (?_ : Wp 198 _ 37 19 [(1, 7), (1, x), (1, y), (1, o), (0, i)] [] V1 _)⟩
      refine w_inc [(1, 7), (1, x), (1, y), (1, o), (0, (i + (-1)))] hK rfl rfl rfl (by omega) (by omega) rfl ?_
      refine w_goto hK rfl ?_
      exact ih5 _ (by omega) (i - 1) V1 rfl (by omega) (by omega) g1 t1 z1 (Or.inr n1) (fun a a1 a2 => (D1 a a1 a2).trans (hD a a1 a2))
  exact lp5 _ (max (M o 1) (max (dg f_x) (dg f_y))) M rfl (by omega) (by omega) (fun j hj => by
    unfold mxr
    split
    · rw [(C.jk ho).2.2 j (by omega) hj, hz_ j (by omega)]; exact el0.symm
    · rfl) do_ (fun j h1 h2 => by
    unfold mxr
    split
    · rw [hz_ j (by omega)]; exact el0
    · exact (C.jk ho).2.2 j h1 h2) (Or.inl (by omega)) (fun a _ _ => rfl)
set_option maxRecDepth 100000 in
theorem c_rdif {d : Nat} {M : Mem} {k : Nat} {P : Int → Option (Pl k)} (C : CS M k P) {x : Int} {f_x : Pl k} (hx : isC P x f_x) {y : Int} {f_y : Pl k} (hy : isC P y f_y) {o : Int} (ho : isP o) : Ct 198 (d + 2) 39 [(1, 7), (1, x), (1, y), (1, o)] M (fun r M' => r = (4, 0) ∧ CS M' k (pu P o (sbp f_x f_y)) ∧ NPS M M') := by
  have hK : cd 39 = k39 := rfl
  have do_ := (C.jk ho).1
  have hb_ : Bd (sbp f_x f_y) 17 := fun j hj => by show ad (f_x j) (ng (f_y j)) = z0; rw [C.bd hx j hj, C.bd hy j hj, ng_z, ad_zero]
  have dx := C.dI hx
  have dy := C.dI hy
  have hz_ : ∀ j : Nat, (max (M o 1) (max (dg f_x) (dg f_y))) < (j : Int) → (sbp f_x f_y) j = z0 := fun j hj => by
    show ad (f_x j) (ng (f_y j)) = z0
    rw [C.z hx (by omega), C.z hy (by omega), ng_z, ad_zero]
  show Wp 198 _ 39 0 [(1, 7), (1, x), (1, y), (1, o), (3, 0)] [] M _
  refine w_al hK rfl rfl ?_
  refine w_al hK rfl rfl ?_
  refine w_al hK rfl rfl ?_
  refine w_call [(1, x), (1, y), (1, o)] hK rfl rfl rfl rfl (Or.inl rfl) (c_high C hx hy ho) ?_
  rintro _ Mq ⟨rfl, e_⟩
  subst Mq
  refine ⟨by show (0 : Nat) ≠ 9; decide, (?_ : Wp 198 _ 39 4 [(1, 7), (1, x), (1, y), (1, o), (3, 0)] [(0, (max (M o 1) (max (dg f_x) (dg f_y))))] M _)⟩
  refine w_is [(1, 7), (1, x), (1, y), (1, o), (0, (max (M o 1) (max (dg f_x) (dg f_y))))] hK rfl rfl rfl ?_
  have lp5 : ∀ (n_ : Nat) (i : Int) (N5 : Mem), (i + 1).toNat = n_ → (-1 ≤ i) → (i ≤ 16) → (∀ j : Nat, j < 17 → N5 (o + 1) (j : Int) = mxr (sbp f_x f_y) (M (o + 1)) i j) → (-1 ≤ N5 o 1 ∧ N5 o 1 ≤ 16) → (∀ j : Nat, N5 o 1 < (j : Int) → j < 17 → mxr (sbp f_x f_y) (M (o + 1)) i j = 0) → (N5 o 1 ≤ i ∨ (0 ≤ N5 o 1 → mxr (sbp f_x f_y) (M (o + 1)) i (N5 o 1).toNat ≠ 0)) → (∀ a : Int, a ≠ o → a ≠ o + 1 → N5 a = M a) → Wp 198 (d + 2) 39 5 [(1, 7), (1, x), (1, y), (1, o), (0, i)] [] N5 (fun r M' => r = (4, 0) ∧ CS M' k (pu P o (sbp f_x f_y)) ∧ NPS M M') := by
    intro n_
    induction n_ using Nat.strongRecOn with
    | _ n_ ih5 =>
    intro i N5 hm5 hi1 hi2 hg ht hz hn hD
    refine w_il hK rfl rfl ?_
    refine w_lt hK rfl (by omega) (by omega) (fun h6 => ?_) (fun h6 => ?_)
    · refine w_ret hK rfl rfl ?_
      obtain ⟨o1, o2⟩ := mx_end C ho hb_ (by omega) hg ht hz hn hD
      exact ⟨rfl, o1, o2⟩
    · refine w_al hK rfl rfl ?_
      refine w_il hK rfl rfl ?_
      refine w_al hK rfl rfl ?_
      refine w_getr (n := 0) (v := 1) hK rfl rfl (by decide) (by decide) rfl rfl rfl rfl ?_
      refine w_al hK rfl rfl ?_
      refine w_il hK rfl rfl ?_
      refine w_call [(1, x), (0, i)] hK rfl rfl rfl rfl (Or.inr ⟨_, _, _, rfl, hx.1.nn, hx.1.lb, hx.1.o⟩) (c_atJ hx.1 i (by omega) (by omega)) ?_
      rintro _ Mq ⟨rfl, e_⟩
      subst Mq
      rw [mx_rd C hx ho (by omega) (by omega) hg hD]
      refine ⟨(by show (0 : Nat) ≠ 9; decide), (?_ : Wp 198 _ 39 14 [(1, 7), (1, x), (1, y), (1, o), (0, i)] [(0, ((f_x i.toNat).val : Int)), (1, 1), (0, i), (1, o)] N5 _)⟩
      refine w_al hK rfl rfl ?_
      refine w_il hK rfl rfl ?_
      refine w_call [(1, y), (0, i)] hK rfl rfl rfl rfl (Or.inr ⟨_, _, _, rfl, hy.1.nn, hy.1.lb, hy.1.o⟩) (c_atJ hy.1 i (by omega) (by omega)) ?_
      rintro _ Mq ⟨rfl, e_⟩
      subst Mq
      rw [mx_rd C hy ho (by omega) (by omega) hg hD]
      refine ⟨(by show (0 : Nat) ≠ 9; decide), (?_ : Wp 198 _ 39 17 [(1, 7), (1, x), (1, y), (1, o), (0, i)] [(0, ((f_y i.toNat).val : Int)), (0, ((f_x i.toNat).val : Int)), (1, 1), (0, i), (1, o)] N5 _)⟩
      refine w_call [(1, 1), (0, ((f_x i.toNat).val : Int)), (0, ((f_y i.toNat).val : Int))] hK rfl rfl rfl rfl (Or.inr ⟨_, _, _, rfl, by decide, (by decide), rfl⟩) (c_diff (by decide) (mx_F ho C.F hD) (f_x i.toNat) (f_y i.toNat) ) ?_
      rintro _ Mq ⟨rfl, e_⟩
      subst Mq
      have bv_ := el_I (ad (f_x i.toNat) (ng (f_y i.toNat)))
      refine ⟨by show (0 : Nat) ≠ 9; decide, (?_ : Wp 198 _ 39 18 [(1, 7), (1, x), (1, y), (1, o), (0, i)] [(0, ((ad (f_x i.toNat) (ng (f_y i.toNat))).val : Int)), (0, i), (1, o)] N5 _)⟩
      refine w_call [(1, o), (0, i), (0, ((ad (f_x i.toNat) (ng (f_y i.toNat))).val : Int))] hK rfl rfl rfl rfl (Or.inr ⟨_, _, _, rfl, ho.nn, ho.lb, ho.o⟩) (c_putJ ho hg (mx_I C ho i) ht hz i (((sbp f_x f_y) i.toNat).val : Int) (el_I _).1 (el_I _).2 (by omega) (by omega)) ?_
      rintro _ V1 ⟨rfl, g1, t1, z1, n1, D1⟩
      rw [mxr_step (by omega)] at g1 z1 n1
      refine ⟨by decide, (?_ : Wp 198 _ 39 19 [(1, 7), (1, x), (1, y), (1, o), (0, i)] [] V1 _)⟩
      refine w_inc [(1, 7), (1, x), (1, y), (1, o), (0, (i + (-1)))] hK rfl rfl rfl (by omega) (by omega) rfl ?_
      refine w_goto hK rfl ?_
      exact ih5 _ (by omega) (i - 1) V1 rfl (by omega) (by omega) g1 t1 z1 (Or.inr n1) (fun a a1 a2 => (D1 a a1 a2).trans (hD a a1 a2))
  exact lp5 _ (max (M o 1) (max (dg f_x) (dg f_y))) M rfl (by omega) (by omega) (fun j hj => by
    unfold mxr
    split
    · rw [(C.jk ho).2.2 j (by omega) hj, hz_ j (by omega)]; exact el0.symm
    · rfl) do_ (fun j h1 h2 => by
    unfold mxr
    split
    · rw [hz_ j (by omega)]; exact el0
    · exact (C.jk ho).2.2 j h1 h2) (Or.inl (by omega)) (fun a _ _ => rfl)
set_option maxRecDepth 100000 in
theorem c_rscl {d : Nat} {M : Mem} {k : Nat} {P : Int → Option (Pl k)} (C : CS M k P) (c : El k) {x : Int} {f_x : Pl k} (hx : isC P x f_x) {o : Int} (ho : isP o) : Ct 198 (d + 1) 40 [(1, 7), (0, (c.val : Int)), (1, x), (1, o)] M (fun r M' => r = (4, 0) ∧ CS M' k (pu P o (scl c f_x)) ∧ NPS M M') := by
  have hK : cd 40 = k40 := rfl
  have do_ := (C.jk ho).1
  have hb_ : Bd (scl c f_x) 17 := fun j hj => by show ml c (f_x j) = z0; rw [C.bd hx j hj, ml_zero]
  have dx := C.dI hx
  have hz_ : ∀ j : Nat, (max (dg f_x) (M o 1)) < (j : Int) → (scl c f_x) j = z0 := fun j hj => by
    show ml c (f_x j) = z0
    rw [C.z hx (by omega), ml_zero]
  show Wp 198 _ 40 0 [(1, 7), (0, (c.val : Int)), (1, x), (1, o), (3, 0)] [] M _
  refine w_al hK rfl rfl ?_
  refine w_pt hK rfl hx.1 ?_
  rw [show M x 1 = dg f_x from C.t hx]
  refine w_al hK rfl rfl ?_
  refine w_pt hK rfl ho ?_
  refine w_call [(0, (dg f_x)), (0, (M o 1))] hK rfl rfl rfl rfl (Or.inl rfl) (c_max (dg f_x) (M o 1) (by omega) (by omega) (by omega) (by omega)) ?_
  rintro _ Mq ⟨rfl, e_⟩
  subst Mq
  refine ⟨by show (0 : Nat) ≠ 9; decide, (?_ : Wp 198 _ 40 5 [(1, 7), (0, (c.val : Int)), (1, x), (1, o), (3, 0)] [(0, (max (dg f_x) (M o 1)))] M _)⟩
  refine w_is [(1, 7), (0, (c.val : Int)), (1, x), (1, o), (0, (max (dg f_x) (M o 1)))] hK rfl rfl rfl ?_
  have lp6 : ∀ (n_ : Nat) (i : Int) (N6 : Mem), (i + 1).toNat = n_ → (-1 ≤ i) → (i ≤ 16) → (∀ j : Nat, j < 17 → N6 (o + 1) (j : Int) = mxr (scl c f_x) (M (o + 1)) i j) → (-1 ≤ N6 o 1 ∧ N6 o 1 ≤ 16) → (∀ j : Nat, N6 o 1 < (j : Int) → j < 17 → mxr (scl c f_x) (M (o + 1)) i j = 0) → (N6 o 1 ≤ i ∨ (0 ≤ N6 o 1 → mxr (scl c f_x) (M (o + 1)) i (N6 o 1).toNat ≠ 0)) → (∀ a : Int, a ≠ o → a ≠ o + 1 → N6 a = M a) → Wp 198 (d + 1) 40 6 [(1, 7), (0, (c.val : Int)), (1, x), (1, o), (0, i)] [] N6 (fun r M' => r = (4, 0) ∧ CS M' k (pu P o (scl c f_x)) ∧ NPS M M') := by
    intro n_
    induction n_ using Nat.strongRecOn with
    | _ n_ ih6 =>
    intro i N6 hm6 hi1 hi2 hg ht hz hn hD
    refine w_il hK rfl rfl ?_
    refine w_lt hK rfl (by omega) (by omega) (fun h7 => ?_) (fun h7 => ?_)
    · refine w_ret hK rfl rfl ?_
      obtain ⟨o1, o2⟩ := mx_end C ho hb_ (by omega) hg ht hz hn hD
      exact ⟨rfl, o1, o2⟩
    · refine w_al hK rfl rfl ?_
      refine w_il hK rfl rfl ?_
      refine w_al hK rfl rfl ?_
      refine w_getr (n := 0) (v := 1) hK rfl rfl (by decide) (by decide) rfl rfl rfl rfl ?_
      refine w_il hK rfl rfl ?_
      refine w_al hK rfl rfl ?_
      refine w_il hK rfl rfl ?_
      refine w_call [(1, x), (0, i)] hK rfl rfl rfl rfl (Or.inr ⟨_, _, _, rfl, hx.1.nn, hx.1.lb, hx.1.o⟩) (c_atJ hx.1 i (by omega) (by omega)) ?_
      rintro _ Mq ⟨rfl, e_⟩
      subst Mq
      rw [mx_rd C hx ho (by omega) (by omega) hg hD]
      refine ⟨(by show (0 : Nat) ≠ 9; decide), (?_ : Wp 198 _ 40 16 [(1, 7), (0, (c.val : Int)), (1, x), (1, o), (0, i)] [(0, ((f_x i.toNat).val : Int)), (0, (c.val : Int)), (1, 1), (0, i), (1, o)] N6 _)⟩
      refine w_call [(1, 1), (0, (c.val : Int)), (0, ((f_x i.toNat).val : Int))] hK rfl rfl rfl rfl (Or.inr ⟨_, _, _, rfl, by decide, (by decide), rfl⟩) (c_prod (by decide) (mx_F ho C.F hD) c (f_x i.toNat) ) ?_
      rintro _ Mq ⟨rfl, e_⟩
      subst Mq
      have bv_ := el_I (ml c (f_x i.toNat))
      refine ⟨by show (0 : Nat) ≠ 9; decide, (?_ : Wp 198 _ 40 17 [(1, 7), (0, (c.val : Int)), (1, x), (1, o), (0, i)] [(0, ((ml c (f_x i.toNat)).val : Int)), (0, i), (1, o)] N6 _)⟩
      refine w_call [(1, o), (0, i), (0, ((ml c (f_x i.toNat)).val : Int))] hK rfl rfl rfl rfl (Or.inr ⟨_, _, _, rfl, ho.nn, ho.lb, ho.o⟩) (c_putJ ho hg (mx_I C ho i) ht hz i (((scl c f_x) i.toNat).val : Int) (el_I _).1 (el_I _).2 (by omega) (by omega)) ?_
      rintro _ V1 ⟨rfl, g1, t1, z1, n1, D1⟩
      rw [mxr_step (by omega)] at g1 z1 n1
      refine ⟨by decide, (?_ : Wp 198 _ 40 18 [(1, 7), (0, (c.val : Int)), (1, x), (1, o), (0, i)] [] V1 _)⟩
      refine w_inc [(1, 7), (0, (c.val : Int)), (1, x), (1, o), (0, (i + (-1)))] hK rfl rfl rfl (by omega) (by omega) rfl ?_
      refine w_goto hK rfl ?_
      exact ih6 _ (by omega) (i - 1) V1 rfl (by omega) (by omega) g1 t1 z1 (Or.inr n1) (fun a a1 a2 => (D1 a a1 a2).trans (hD a a1 a2))
  exact lp6 _ (max (dg f_x) (M o 1)) M rfl (by omega) (by omega) (fun j hj => by
    unfold mxr
    split
    · rw [(C.jk ho).2.2 j (by omega) hj, hz_ j (by omega)]; exact el0.symm
    · rfl) do_ (fun j h1 h2 => by
    unfold mxr
    split
    · rw [hz_ j (by omega)]; exact el0
    · exact (C.jk ho).2.2 j h1 h2) (Or.inl (by omega)) (fun a _ _ => rfl)
set_option maxRecDepth 100000 in
theorem c_rscb {d : Nat} {M : Mem} {k : Nat} {P : Int → Option (Pl k)} (C : CS M k P) {x : Int} {f_x : Pl k} (hx : isC P x f_x) (c : El k) {o : Int} (ho : isP o) : Ct 198 (d + 2) 47 [(1, 7), (1, x), (0, (c.val : Int)), (1, o)] M (fun r M' => r = (4, 0) ∧ CS M' k (pu P o (scb f_x c)) ∧ NPS M M') := by
  have hK : cd 47 = k47 := rfl
  have do_ := (C.jk ho).1
  have hb_ : Bd (scb f_x c) 17 := fun j hj => by show ml (f_x j) (sg j c) = z0; rw [C.bd hx j hj, zero_ml]
  have dx := C.dI hx
  have hz_ : ∀ j : Nat, (max (dg f_x) (M o 1)) < (j : Int) → (scb f_x c) j = z0 := fun j hj => by
    show ml (f_x j) (sg j c) = z0
    rw [C.z hx (by omega), zero_ml]
  show Wp 198 _ 47 0 [(1, 7), (1, x), (0, (c.val : Int)), (1, o), (3, 0)] [] M _
  refine w_al hK rfl rfl ?_
  refine w_pt hK rfl hx.1 ?_
  rw [show M x 1 = dg f_x from C.t hx]
  refine w_al hK rfl rfl ?_
  refine w_pt hK rfl ho ?_
  refine w_call [(0, (dg f_x)), (0, (M o 1))] hK rfl rfl rfl rfl (Or.inl rfl) (c_max (dg f_x) (M o 1) (by omega) (by omega) (by omega) (by omega)) ?_
  rintro _ Mq ⟨rfl, e_⟩
  subst Mq
  refine ⟨by show (0 : Nat) ≠ 9; decide, (?_ : Wp 198 _ 47 5 [(1, 7), (1, x), (0, (c.val : Int)), (1, o), (3, 0)] [(0, (max (dg f_x) (M o 1)))] M _)⟩
  refine w_is [(1, 7), (1, x), (0, (c.val : Int)), (1, o), (0, (max (dg f_x) (M o 1)))] hK rfl rfl rfl ?_
  have lp6 : ∀ (n_ : Nat) (i : Int) (N6 : Mem), (i + 1).toNat = n_ → (-1 ≤ i) → (i ≤ 16) → (∀ j : Nat, j < 17 → N6 (o + 1) (j : Int) = mxr (scb f_x c) (M (o + 1)) i j) → (-1 ≤ N6 o 1 ∧ N6 o 1 ≤ 16) → (∀ j : Nat, N6 o 1 < (j : Int) → j < 17 → mxr (scb f_x c) (M (o + 1)) i j = 0) → (N6 o 1 ≤ i ∨ (0 ≤ N6 o 1 → mxr (scb f_x c) (M (o + 1)) i (N6 o 1).toNat ≠ 0)) → (∀ a : Int, a ≠ o → a ≠ o + 1 → N6 a = M a) → Wp 198 (d + 2) 47 6 [(1, 7), (1, x), (0, (c.val : Int)), (1, o), (0, i)] [] N6 (fun r M' => r = (4, 0) ∧ CS M' k (pu P o (scb f_x c)) ∧ NPS M M') := by
    intro n_
    induction n_ using Nat.strongRecOn with
    | _ n_ ih6 =>
    intro i N6 hm6 hi1 hi2 hg ht hz hn hD
    refine w_il hK rfl rfl ?_
    refine w_lt hK rfl (by omega) (by omega) (fun h7 => ?_) (fun h7 => ?_)
    · refine w_ret hK rfl rfl ?_
      obtain ⟨o1, o2⟩ := mx_end C ho hb_ (by omega) hg ht hz hn hD
      exact ⟨rfl, o1, o2⟩
    · refine w_al hK rfl rfl ?_
      refine w_il hK rfl rfl ?_
      refine w_al hK rfl rfl ?_
      refine w_getr (n := 0) (v := 1) hK rfl rfl (by decide) (by decide) rfl rfl rfl rfl ?_
      refine w_al hK rfl rfl ?_
      refine w_il hK rfl rfl ?_
      refine w_call [(1, x), (0, i)] hK rfl rfl rfl rfl (Or.inr ⟨_, _, _, rfl, hx.1.nn, hx.1.lb, hx.1.o⟩) (c_atJ hx.1 i (by omega) (by omega)) ?_
      rintro _ Mq ⟨rfl, e_⟩
      subst Mq
      rw [mx_rd C hx ho (by omega) (by omega) hg hD]
      refine ⟨(by show (0 : Nat) ≠ 9; decide), (?_ : Wp 198 _ 47 15 [(1, 7), (1, x), (0, (c.val : Int)), (1, o), (0, i)] [(0, ((f_x i.toNat).val : Int)), (1, 1), (0, i), (1, o)] N6 _)⟩
      refine w_al hK rfl rfl ?_
      refine w_getr (n := 0) (v := 1) hK rfl rfl (by decide) (by decide) rfl rfl rfl rfl ?_
      refine w_il hK rfl rfl ?_
      refine w_il hK rfl rfl ?_
      refine w_call [(1, 1), (0, (c.val : Int)), (0, i)] hK rfl rfl rfl rfl (Or.inr ⟨_, _, _, rfl, by decide, (by decide), rfl⟩) (c_image (by decide) (mx_F ho C.F hD) c i (by omega) (by omega)) ?_
      rintro _ Mq ⟨rfl, e_⟩
      subst Mq
      have bv_ := el_I (sgI i c)
      refine ⟨by show (0 : Nat) ≠ 9; decide, (?_ : Wp 198 _ 47 20 [(1, 7), (1, x), (0, (c.val : Int)), (1, o), (0, i)] [(0, ((sgI i c).val : Int)), (0, ((f_x i.toNat).val : Int)), (1, 1), (0, i), (1, o)] N6 _)⟩
      refine w_call [(1, 1), (0, ((f_x i.toNat).val : Int)), (0, ((sgI i c).val : Int))] hK rfl rfl rfl rfl (Or.inr ⟨_, _, _, rfl, by decide, (by decide), rfl⟩) (c_prod (by decide) (mx_F ho C.F hD) (f_x i.toNat) (sgI i c) ) ?_
      rintro _ Mq ⟨rfl, e_⟩
      subst Mq
      have bv_ := el_I (ml (f_x i.toNat) (sgI i c))
      refine ⟨by show (0 : Nat) ≠ 9; decide, (?_ : Wp 198 _ 47 21 [(1, 7), (1, x), (0, (c.val : Int)), (1, o), (0, i)] [(0, ((ml (f_x i.toNat) (sgI i c)).val : Int)), (0, i), (1, o)] N6 _)⟩
      rw [show sgI i c = sg i.toNat c by rw [← sgI_nat, Int.toNat_of_nonneg (by omega)]]
      refine w_call [(1, o), (0, i), (0, ((ml (f_x i.toNat) (sg i.toNat c)).val : Int))] hK rfl rfl rfl rfl (Or.inr ⟨_, _, _, rfl, ho.nn, ho.lb, ho.o⟩) (c_putJ ho hg (mx_I C ho i) ht hz i (((scb f_x c) i.toNat).val : Int) (el_I _).1 (el_I _).2 (by omega) (by omega)) ?_
      rintro _ V1 ⟨rfl, g1, t1, z1, n1, D1⟩
      rw [mxr_step (by omega)] at g1 z1 n1
      refine ⟨by decide, (?_ : Wp 198 _ 47 22 [(1, 7), (1, x), (0, (c.val : Int)), (1, o), (0, i)] [] V1 _)⟩
      refine w_inc [(1, 7), (1, x), (0, (c.val : Int)), (1, o), (0, (i + (-1)))] hK rfl rfl rfl (by omega) (by omega) rfl ?_
      refine w_goto hK rfl ?_
      exact ih6 _ (by omega) (i - 1) V1 rfl (by omega) (by omega) g1 t1 z1 (Or.inr n1) (fun a a1 a2 => (D1 a a1 a2).trans (hD a a1 a2))
  exact lp6 _ (max (dg f_x) (M o 1)) M rfl (by omega) (by omega) (fun j hj => by
    unfold mxr
    split
    · rw [(C.jk ho).2.2 j (by omega) hj, hz_ j (by omega)]; exact el0.symm
    · rfl) do_ (fun j h1 h2 => by
    unfold mxr
    split
    · rw [hz_ j (by omega)]; exact el0
    · exact (C.jk ho).2.2 j h1 h2) (Or.inl (by omega)) (fun a _ _ => rfl)
set_option maxRecDepth 100000 in
theorem c_rmap {d : Nat} {M : Mem} {k : Nat} {P : Int → Option (Pl k)} (C : CS M k P) {x : Int} {f_x : Pl k} (hx : isC P x f_x) (n : Int) {o : Int} (ho : isP o) (n1 : -128 ≤ n) (n2 : n ≤ 128) : Ct 198 (d + 2) 48 [(1, 7), (1, x), (0, n), (1, o)] M (fun r M' => r = (4, 0) ∧ CS M' k (pu P o (mpp n f_x)) ∧ NPS M M') := by
  have hK : cd 48 = k48 := rfl
  have do_ := (C.jk ho).1
  have hb_ : Bd (mpp n f_x) 17 := sgI_bd n (C.bd hx)
  have dx := C.dI hx
  have hz_ : ∀ j : Nat, (max (dg f_x) (M o 1)) < (j : Int) → (mpp n f_x) j = z0 := fun j hj => by
    show sgI n (f_x j) = z0
    rw [C.z hx (by omega), sgI_z]
  show Wp 198 _ 48 0 [(1, 7), (1, x), (0, n), (1, o), (3, 0)] [] M _
  refine w_al hK rfl rfl ?_
  refine w_pt hK rfl hx.1 ?_
  rw [show M x 1 = dg f_x from C.t hx]
  refine w_al hK rfl rfl ?_
  refine w_pt hK rfl ho ?_
  refine w_call [(0, (dg f_x)), (0, (M o 1))] hK rfl rfl rfl rfl (Or.inl rfl) (c_max (dg f_x) (M o 1) (by omega) (by omega) (by omega) (by omega)) ?_
  rintro _ Mq ⟨rfl, e_⟩
  subst Mq
  refine ⟨by show (0 : Nat) ≠ 9; decide, (?_ : Wp 198 _ 48 5 [(1, 7), (1, x), (0, n), (1, o), (3, 0)] [(0, (max (dg f_x) (M o 1)))] M _)⟩
  refine w_is [(1, 7), (1, x), (0, n), (1, o), (0, (max (dg f_x) (M o 1)))] hK rfl rfl rfl ?_
  have lp6 : ∀ (n_ : Nat) (i : Int) (N6 : Mem), (i + 1).toNat = n_ → (-1 ≤ i) → (i ≤ 16) → (∀ j : Nat, j < 17 → N6 (o + 1) (j : Int) = mxr (mpp n f_x) (M (o + 1)) i j) → (-1 ≤ N6 o 1 ∧ N6 o 1 ≤ 16) → (∀ j : Nat, N6 o 1 < (j : Int) → j < 17 → mxr (mpp n f_x) (M (o + 1)) i j = 0) → (N6 o 1 ≤ i ∨ (0 ≤ N6 o 1 → mxr (mpp n f_x) (M (o + 1)) i (N6 o 1).toNat ≠ 0)) → (∀ a : Int, a ≠ o → a ≠ o + 1 → N6 a = M a) → Wp 198 (d + 2) 48 6 [(1, 7), (1, x), (0, n), (1, o), (0, i)] [] N6 (fun r M' => r = (4, 0) ∧ CS M' k (pu P o (mpp n f_x)) ∧ NPS M M') := by
    intro n_
    induction n_ using Nat.strongRecOn with
    | _ n_ ih6 =>
    intro i N6 hm6 hi1 hi2 hg ht hz hn hD
    refine w_il hK rfl rfl ?_
    refine w_lt hK rfl (by omega) (by omega) (fun h7 => ?_) (fun h7 => ?_)
    · refine w_ret hK rfl rfl ?_
      obtain ⟨o1, o2⟩ := mx_end C ho hb_ (by omega) hg ht hz hn hD
      exact ⟨rfl, o1, o2⟩
    · refine w_al hK rfl rfl ?_
      refine w_il hK rfl rfl ?_
      refine w_al hK rfl rfl ?_
      refine w_getr (n := 0) (v := 1) hK rfl rfl (by decide) (by decide) rfl rfl rfl rfl ?_
      refine w_al hK rfl rfl ?_
      refine w_il hK rfl rfl ?_
      refine w_call [(1, x), (0, i)] hK rfl rfl rfl rfl (Or.inr ⟨_, _, _, rfl, hx.1.nn, hx.1.lb, hx.1.o⟩) (c_atJ hx.1 i (by omega) (by omega)) ?_
      rintro _ Mq ⟨rfl, e_⟩
      subst Mq
      rw [mx_rd C hx ho (by omega) (by omega) hg hD]
      refine ⟨(by show (0 : Nat) ≠ 9; decide), (?_ : Wp 198 _ 48 15 [(1, 7), (1, x), (0, n), (1, o), (0, i)] [(0, ((f_x i.toNat).val : Int)), (1, 1), (0, i), (1, o)] N6 _)⟩
      refine w_il hK rfl rfl ?_
      refine w_call [(1, 1), (0, ((f_x i.toNat).val : Int)), (0, n)] hK rfl rfl rfl rfl (Or.inr ⟨_, _, _, rfl, by decide, (by decide), rfl⟩) (c_image (by decide) (mx_F ho C.F hD) (f_x i.toNat) n (by omega) (by omega)) ?_
      rintro _ Mq ⟨rfl, e_⟩
      subst Mq
      have bv_ := el_I (sgI n (f_x i.toNat))
      refine ⟨by show (0 : Nat) ≠ 9; decide, (?_ : Wp 198 _ 48 17 [(1, 7), (1, x), (0, n), (1, o), (0, i)] [(0, ((sgI n (f_x i.toNat)).val : Int)), (0, i), (1, o)] N6 _)⟩
      refine w_call [(1, o), (0, i), (0, ((sgI n (f_x i.toNat)).val : Int))] hK rfl rfl rfl rfl (Or.inr ⟨_, _, _, rfl, ho.nn, ho.lb, ho.o⟩) (c_putJ ho hg (mx_I C ho i) ht hz i (((mpp n f_x) i.toNat).val : Int) (el_I _).1 (el_I _).2 (by omega) (by omega)) ?_
      rintro _ V1 ⟨rfl, g1, t1, z1, n1, D1⟩
      rw [mxr_step (by omega)] at g1 z1 n1
      refine ⟨by decide, (?_ : Wp 198 _ 48 18 [(1, 7), (1, x), (0, n), (1, o), (0, i)] [] V1 _)⟩
      refine w_inc [(1, 7), (1, x), (0, n), (1, o), (0, (i + (-1)))] hK rfl rfl rfl (by omega) (by omega) rfl ?_
      refine w_goto hK rfl ?_
      exact ih6 _ (by omega) (i - 1) V1 rfl (by omega) (by omega) g1 t1 z1 (Or.inr n1) (fun a a1 a2 => (D1 a a1 a2).trans (hD a a1 a2))
  exact lp6 _ (max (dg f_x) (M o 1)) M rfl (by omega) (by omega) (fun j hj => by
    unfold mxr
    split
    · rw [(C.jk ho).2.2 j (by omega) hj, hz_ j (by omega)]; exact el0.symm
    · rfl) do_ (fun j h1 h2 => by
    unfold mxr
    split
    · rw [hz_ j (by omega)]; exact el0
    · exact (C.jk ho).2.2 j h1 h2) (Or.inl (by omega)) (fun a _ _ => rfl)
