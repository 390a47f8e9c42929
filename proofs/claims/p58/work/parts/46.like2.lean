/-! contracts: Likeness.gather */ -/
/-- w^s t^j, number j m + s -/
def Uni {k : Nat} (i : Nat) : Pl k := mono (el k (unt k (i % mm k))) (i / mm k)
noncomputable def XL {k : Nat} (a b : Pl k) (i : Nat) : Pl k := dr 0 (mlp a (Uni i)) b
theorem Uni_at {k j s : Nat} (hs : s < mm k) : Uni (k := k) (j * mm k + s) = up1 (tpw j) j (el k (unt k s)) := by
  have h2 : (j * mm k + s) / mm k = j := by rw [Nat.mul_comm, Nat.mul_add_div (mm_pos k), Nat.div_eq_of_lt hs, Nat.add_zero]
  have h3 : (j * mm k + s) % mm k = s := by rw [Nat.mul_comm, Nat.mul_add_mod, Nat.mod_eq_of_lt hs]
  unfold Uni
  rw [h2, h3]
  funext i
  show up1 pz j (el k (unt k s)) i = up1 (up1 pz j e1) j (el k (unt k s)) i
  unfold up1
  by_cases e : i = j
  · rw [if_pos e, if_pos e]
  · rw [if_neg e, if_neg e, if_neg e]
theorem part_dg {k j : Nat} (hj : j ≤ 16) (v : El k) : dg (up1 (tpw j) j v) ≤ (j : Int) := dg_le_of (fun i hi => by
  unfold up1 tpw up1
  rw [if_neg (by omega), if_neg (by omega)]
  rfl) (by omega) (fun i hi => by
  unfold up1 tpw up1
  rw [if_neg (by omega), if_neg (by omega)]
  rfl)
theorem pm_two (k : Nat) : pp k = 2 ∨ mm k = 2 := match k with | 0 => by decide | 1 => by decide | 2 => by decide | _ + 3 => (by decide : pp 3 = 2 ∨ mm 3 = 2)
theorem SP.lt {M : Mem} {k n : Nat} {X : Nat → Pl k} {o c : Nat} {ow : Nat → Nat} (h : SP M n X o c ow) : ∀ s : Nat, s < c → ow s < o := by
  obtain ⟨_, _, _, _, h2⟩ := h
  exact fun s hs => (h2.2 s hs).1
theorem SPr.more {k : Nat} {X : Nat → Pl k} {o c v : Nat} {ow u : Nat → Nat} (h : SPr X o c ow u) : SPr X o (c + 1) (fup ow c v) u := by
  refine ⟨h.1, h.2.1, h.2.2.1, fun j hj => ?_, h.2.2.2.2⟩
  rcases h.2.2.2.1 j hj with q | ⟨s, hs, q⟩
  · exact Or.inl q
  · exact Or.inr ⟨s, by omega, by rw [fup_ne (by omega)]; exact q⟩
/-- what has been gathered of the first i -/
def GI (M : Mem) {k : Nat} (P : Int → Option (Pl k)) (X : Nat → Pl k) (n i : Nat) (dp : Nat → Nat) (us : Nat → Nat → Nat) (ow : Nat → Nat) (c R : Nat) : Prop :=
  (SP M n X i c ow ∧ M 92 10 = (R : Int) ∧ M 92 11 = ((pp k ^ R : Nat) : Int)) ∧ c + R = i ∧ ∀ r : Nat, r < R → P (104 + 2 * (r : Int)) = some (bsU n (us r)) ∧ M 100 (r : Int) = 0 ∧ dp r < i ∧ SPr X (dp r) c ow (us r) ∧ (∀ s : Nat, s < c → ow s ≠ dp r) ∧ ∀ s : Nat, s < r → dp s < dp r
theorem GI.no {M M' : Mem} {k : Nat} {P P' : Int → Option (Pl k)} {X : Nat → Pl k} {n i : Nat} {dp : Nat → Nat} {us : Nat → Nat → Nat} {ow : Nat → Nat} {c R : Nat} (h : GI M P X n i dp us ow c R) (h1 : SP M' n X (i + 1) (c + 1) (fup ow c i)) (h2 : M' 92 10 = (R : Int)) (h3 : M' 92 11 = ((pp k ^ R : Nat) : Int)) (h4 : ∀ r : Nat, r < R → P' (104 + 2 * (r : Int)) = P (104 + 2 * (r : Int))) (h5 : M' 100 = M 100) : GI M' P' X n (i + 1) dp us (fup ow c i) (c + 1) R := by
  refine ⟨⟨h1, h2, h3⟩, by have := h.2.1; omega, fun r hr => ?_⟩
  obtain ⟨q1, q2, q3, q4, q5, q6⟩ := h.2.2 r hr
  refine ⟨by rw [h4 r hr]; exact q1, by rw [h5]; exact q2, by omega, q4.more, fun s hs => ?_, q6⟩
  by_cases e : s = c
  · rw [e, fup_eq]; omega
  · rw [fup_ne e]; exact q5 s (by omega)
theorem GI.yes {M M' : Mem} {k : Nat} {P P' : Int → Option (Pl k)} {X : Nat → Pl k} {n i : Nat} {dp : Nat → Nat} {us : Nat → Nat → Nat} {ow : Nat → Nat} {c R : Nat} {u : Nat → Nat} (h : GI M P X n i dp us ow c R) (h1 : SP M' n X (i + 1) c ow) (hu : SPr X i c ow u) (h2 : M' 92 10 = (R : Int) + 1) (h3 : M' 92 11 = ((pp k ^ (R + 1) : Nat) : Int)) (h4 : ∀ r : Nat, r < R → P' (104 + 2 * (r : Int)) = P (104 + 2 * (r : Int))) (h6 : P' (104 + 2 * (R : Int)) = some (bsU n u)) (h5 : M' 100 = upr (M 100) (R : Int) 0) : GI M' P' X n (i + 1) (fup dp R i) (fup us R u) ow c (R + 1) := by
  have hl := h.1.1.lt
  refine ⟨⟨h1, by rw [h2]; simp, h3⟩, by have := h.2.1; omega, fun r hr => ?_⟩
  by_cases e : r = R
  · rw [e, fup_eq, fup_eq]
    exact ⟨h6, by rw [h5, upr_eq], by omega, hu, fun s hs => by have := hl s hs; omega, fun s hs => by rw [fup_ne (by omega)]; exact (h.2.2 s (by omega)).2.2.1⟩
  · obtain ⟨q1, q2, q3, q4, q5, q6⟩ := h.2.2 r (by omega)
    rw [fup_ne e, fup_ne e]
    exact ⟨by rw [h4 r (by omega)]; exact q1, by rw [h5, upr_ne (by omega)]; exact q2, by omega, q4, q5, fun s hs => by rw [fup_ne (by omega)]; exact q6 s hs⟩
theorem SP.congr {M N : Mem} {k n : Nat} {X : Nat → Pl k} {o c : Nat} {ow : Nat → Nat} (h : SP M n X o c ow) (h2 : ∀ a : Int, (∀ p : Int, isP p → a ≠ p ∧ a ≠ p + 1) → a ≠ 92 → a ≠ 100 → N a = M a) : SP N n X o c ow := by
  obtain ⟨ρ, w, pv, ⟨h3, h4, h5, h6⟩, h7⟩ := h
  have e88 := h2 88 (notP rfl) (by decide) (by decide)
  have e89 := h2 89 (notP rfl) (by decide) (by decide)
  have e90 := h2 90 (notP rfl) (by decide) (by decide)
  have e91 := h2 91 np91 (by decide) (by decide)
  refine ⟨ρ, w, pv, ⟨?_, ?_, ?_, ?_⟩, h7⟩
  · rw [e88]; exact h3
  · rw [e89]; exact h4
  · rw [e90]; exact h5
  · rw [e91]; exact h6
theorem SP.q4 {M : Mem} {k n : Nat} {X : Nat → Pl k} {o c : Nat} {ow : Nat → Nat} (h : SP M n X o c ow) : M 88 4 = (c : Int) ∧ M 88 5 = (o : Int) := by
  obtain ⟨_, _, _, h2, _⟩ := h
  exact h2.1
set_option maxRecDepth 100000 in
theorem c_gather {d : Nat} {M : Mem} {k : Nat} {P : Int → Option (Pl k)} (C : CS M k P) {a b : Int} {f_a : Pl k} (ha : isC P a f_a) {f_b : Pl k} (hb : isC P b f_b) (na_ : a ≠ 8 ∧ (a < 92 ∨ 135 < a)) (nb_ : b ≠ 8 ∧ (b < 92 ∨ 135 < b)) {n : Nat} (hbn : dg f_b = (n : Int)) (hn4 : n ≤ 4) (da4 : dg f_a ≤ 4) : Ct 198 (d + 4) 100 [(1, 92), (1, a), (1, b)] M (fun r_ M' => ∃ (P' : Int → Option (Pl k)) (c R : Nat) (dp ow : Nat → Nat) (us : Nat → Nat → Nat), r_ = (4, 0) ∧ CS M' k P' ∧ GI M' P' (XL f_a f_b) n (n * mm k) dp us ow c R ∧ P' 102 = some pz ∧ (∀ p : Int, p ≠ 8 → (p < 92 ∨ 135 < p) → P' p = P p) ∧ (∀ a : Int, (∀ p : Int, isP p → a ≠ p ∧ a ≠ p + 1) → a ≠ 88 → a ≠ 89 → a ≠ 90 → a ≠ 91 → a ≠ 92 → a ≠ 100 → M' a = M a)) := by
  have hK : cd 100 = k100 := rfl
  have m1_ := mm_I k
  have nm_ : n * mm k ≤ 4 * mm k := Nat.mul_le_mul_right _ hn4
  have hbd_ : IsDg f_b (n : Int) := hbn ▸ dg_is ((C.bd hb).mono (by decide))
  show Wp 198 _ 100 0 [(1, 92), (1, a), (1, b), (3, 0), (3, 0)] [] M _
  refine w_al hK rfl rfl ?_
  refine w_ic hK rfl ?_
  refine w_puti (n := 10) (m := 10) hK rfl rfl (by decide) (by decide) rfl rfl rfl rfl ?_
  refine w_al hK rfl rfl ?_
  refine w_ic hK rfl ?_
  refine w_puti (n := 11) (m := 11) hK rfl rfl (by decide) (by decide) rfl rfl rfl rfl ?_
  refine w_al hK rfl rfl ?_
  refine w_getr (n := 9) (v := 102) hK rfl rfl (by decide) (by decide) rfl rfl rfl rfl ?_
  refine w_call [(1, 102)] hK rfl rfl rfl rfl (Or.inr ⟨_, _, _, rfl, (isP_of (p := 102) rfl).nn, (isP_of (p := 102) rfl).lb, (isP_of (p := 102) rfl).o⟩) (c_clear (CS.upc (CS.upc C (by decide) (notP rfl)) (by decide) (notP rfl)) (isP_of (p := 102) rfl)) ?_
  rintro _ V68 ⟨rfl, C68, S68⟩
  refine ⟨by decide, (?_ : Wp 198 _ 100 9 [(1, 92), (1, a), (1, b), (3, 0), (3, 0)] [] V68 _)⟩
  refine w_al hK rfl rfl ?_
  refine w_getr (n := 2) (v := 88) hK rfl rfl (by decide) (by decide) rfl rfl rfl rfl ?_
  refine w_call [(1, 88)] hK rfl rfl rfl rfl (Or.inr ⟨_, _, _, rfl, by decide, (by decide), rfl⟩) (c_spst) ?_
  rintro _ V69 ⟨rfl, x69_, y69_, F69⟩
  refine ⟨by decide, (?_ : Wp 198 _ 100 12 [(1, 92), (1, a), (1, b), (3, 0), (3, 0)] [] V69 _)⟩
  refine w_ic hK rfl ?_
  refine w_is [(1, 92), (1, a), (1, b), (0, 0), (3, 0)] hK rfl rfl rfl ?_
  have lp14 : ∀ (n_ : Nat) (j : Nat) (c R : Nat) (dp ow : Nat → Nat) (us : Nat → Nat → Nat) (P1 : Int → Option (Pl k)) (w4 : AV) (N14 : Mem), n - j = n_ → (j ≤ n) → (CS N14 k P1) → (GI N14 P1 (XL f_a f_b) n (j * mm k) dp us ow c R) → (P1 102 = some pz) → ((∀ p : Int, p ≠ 8 → (p < 92 ∨ 135 < p) → P1 p = P p)) → ((∀ a : Int, (∀ p : Int, isP p → a ≠ p ∧ a ≠ p + 1) → a ≠ 88 → a ≠ 89 → a ≠ 90 → a ≠ 91 → a ≠ 92 → a ≠ 100 → N14 a = M a)) → Wp 198 (d + 4) 100 14 [(1, 92), (1, a), (1, b), (0, (j : Int)), w4] [] N14 (fun r_ M' => ∃ (P' : Int → Option (Pl k)) (c R : Nat) (dp ow : Nat → Nat) (us : Nat → Nat → Nat), r_ = (4, 0) ∧ CS M' k P' ∧ GI M' P' (XL f_a f_b) n (n * mm k) dp us ow c R ∧ P' 102 = some pz ∧ (∀ p : Int, p ≠ 8 → (p < 92 ∨ 135 < p) → P' p = P p) ∧ (∀ a : Int, (∀ p : Int, isP p → a ≠ p ∧ a ≠ p + 1) → a ≠ 88 → a ≠ 89 → a ≠ 90 → a ≠ 91 → a ≠ 92 → a ≠ 100 → M' a = M a)) := by
    intro n_
    induction n_ using Nat.strongRecOn with
    | _ n_ ih14 =>
    intro j c R dp ow us P1 w4 N14 hm14 hj hC hG hw hP hF
    refine w_il hK rfl rfl ?_
    refine w_al hK rfl rfl ?_
    refine w_pt hK rfl hb.1 ?_
    rw [show N14 b 1 = dg f_b from hC.t ⟨hb.1, ((hP b nb_.1 nb_.2).trans hb.2)⟩]
    have tI_ := CS.dI hC ⟨hb.1, ((hP b nb_.1 nb_.2).trans hb.2)⟩
    refine w_ge2 hK rfl (by omega) (by omega) (by omega) (by omega) (fun h17 => ?_) (fun h17 => ?_)
    · refine w_ret hK rfl rfl ?_
      have ej_ : j = n := by omega
      rw [ej_] at hG
      exact ⟨P1, c, R, dp, ow, us, rfl, hC, hG, hw, hP, hF⟩
    · refine w_ic hK rfl ?_
      refine w_is [(1, 92), (1, a), (1, b), (0, (j : Int)), (0, 0)] hK rfl rfl rfl ?_
      have lp20 : ∀ (n_ : Nat) (s : Nat) (c R : Nat) (dp ow : Nat → Nat) (us : Nat → Nat → Nat) (P1 : Int → Option (Pl k)) (N20 : Mem), 5 - s = n_ → (s ≤ mm k) → (CS N20 k P1) → (GI N20 P1 (XL f_a f_b) n (j * mm k + s) dp us ow c R) → (P1 102 = some pz) → ((∀ p : Int, p ≠ 8 → (p < 92 ∨ 135 < p) → P1 p = P p)) → ((∀ a : Int, (∀ p : Int, isP p → a ≠ p ∧ a ≠ p + 1) → a ≠ 88 → a ≠ 89 → a ≠ 90 → a ≠ 91 → a ≠ 92 → a ≠ 100 → N20 a = M a)) → Wp 198 (d + 4) 100 20 [(1, 92), (1, a), (1, b), (0, (j : Int)), (0, (s : Int))] [] N20 (fun r_ M' => ∃ (P' : Int → Option (Pl k)) (c R : Nat) (dp ow : Nat → Nat) (us : Nat → Nat → Nat), r_ = (4, 0) ∧ CS M' k P' ∧ GI M' P' (XL f_a f_b) n (n * mm k) dp us ow c R ∧ P' 102 = some pz ∧ (∀ p : Int, p ≠ 8 → (p < 92 ∨ 135 < p) → P' p = P p) ∧ (∀ a : Int, (∀ p : Int, isP p → a ≠ p ∧ a ≠ p + 1) → a ≠ 88 → a ≠ 89 → a ≠ 90 → a ≠ 91 → a ≠ 92 → a ≠ 100 → M' a = M a)) := by
        intro n_
        induction n_ using Nat.strongRecOn with
        | _ n_ ih20 =>
        intro s c R dp ow us P1 N20 hm20 hs hC hG hw hP hF
        have jn_ : (j + 1) * mm k ≤ n * mm k := Nat.mul_le_mul_right _ (by omega)
        rw [Nat.add_mul, Nat.one_mul] at jn_
        have cR_ := hG.2.1
        have pt_ := pm_two k
        refine w_il hK rfl rfl ?_
        refine w_al hK rfl rfl ?_
        refine w_getr (n := 0) (v := 1) hK rfl rfl (by decide) (by decide) rfl rfl rfl rfl ?_
        refine w_geti (n := 3) (m := 3) hK rfl rfl (by decide) (by decide) rfl rfl rfl rfl ?_
        rw [show N20 1 3 = (mm k : Int) from hC.F.m]
        refine w_ge2 hK rfl (by omega) (by omega) (by omega) (by omega) (fun h24 => ?_) (fun h24 => ?_)
        · have es_ : s = mm k := by omega
          refine w_inc [(1, 92), (1, a), (1, b), (0, ((j : Int) + 1)), (0, (s : Int))] hK rfl rfl rfl (by omega) (by omega) rfl ?_
          refine w_goto hK rfl ?_
          exact ih14 _ (by omega) (j + 1) c R dp ow us P1 (0, (s : Int)) N20 rfl (by omega) hC (by rw [show (j + 1) * mm k = j * mm k + s from by rw [Nat.add_mul, Nat.one_mul, es_]]; exact hG) hw hP hF
        · refine w_al hK rfl rfl ?_
          refine w_getr (n := 4) (v := 95) hK rfl rfl (by decide) (by decide) rfl rfl rfl rfl ?_
          refine w_il hK rfl rfl ?_
          refine w_call [(1, 95), (0, (j : Int))] hK rfl rfl rfl rfl (Or.inr ⟨_, _, _, rfl, (isP_of (p := 95) rfl).nn, (isP_of (p := 95) rfl).lb, (isP_of (p := 95) rfl).o⟩) (c_becT hC (isP_of (p := 95) rfl) j (by omega)) ?_
          rintro _ V70 ⟨rfl, C70, S70⟩
          refine ⟨by decide, (?_ : Wp 198 _ 100 29 [(1, 92), (1, a), (1, b), (0, (j : Int)), (0, (s : Int))] [] V70 _)⟩
          refine w_al hK rfl rfl ?_
          refine w_getr (n := 4) (v := 95) hK rfl rfl (by decide) (by decide) rfl rfl rfl rfl ?_
          refine w_il hK rfl rfl ?_
          refine w_al hK rfl rfl ?_
          refine w_getr (n := 0) (v := 1) hK rfl rfl (by decide) (by decide) rfl rfl rfl rfl ?_
          refine w_il hK rfl rfl ?_
          refine w_call [(1, 1), (0, (s : Int))] hK rfl rfl rfl rfl (Or.inr ⟨_, _, _, rfl, by decide, (by decide), rfl⟩) (c_unit (by decide) C70.F s (by omega)) ?_
          rintro _ Mq ⟨rfl, e_⟩
          subst Mq
          have ul_ := unt_le (k := k) (s := s) (by omega)
          have uq_ := unt_lt (k := k) (s := s) (by omega)
          refine ⟨(by show (0 : Nat) ≠ 9; decide), (?_ : Wp 198 _ 100 36 [(1, 92), (1, a), (1, b), (0, (j : Int)), (0, (s : Int))] [(0, (unt k s : Int)), (0, (j : Int)), (1, 95)] V70 _)⟩
          refine w_call [(1, 95), (0, (j : Int)), (0, (unt k s : Int))] hK rfl rfl rfl rfl (Or.inr ⟨_, _, _, rfl, (isP_of (p := 95) rfl).nn, (isP_of (p := 95) rfl).lb, (isP_of (p := 95) rfl).o⟩) (Ct.cv (c_putN C70 ⟨(isP_of (p := 95) rfl), pu_eq⟩ j (el k (unt k s)) (by omega)) (by simp only [(elN (k := k) (n := unt k s) (by omega))]; try rfl)) ?_
          rintro _ V71 ⟨rfl, C71, S71⟩
          rw [pu_pu (P := P1) (p := 95) (f := tpw j) (g := up1 (tpw j) j (el k (unt k s)))] at C71
          refine ⟨by decide, (?_ : Wp 198 _ 100 37 [(1, 92), (1, a), (1, b), (0, (j : Int)), (0, (s : Int))] [] V71 _)⟩
          have pd_ := part_dg (k := k) (j := j) (by omega) (el k (unt k s))
          refine w_al hK rfl rfl ?_
          refine w_getr (n := 1) (v := 7) hK rfl rfl (by decide) (by decide) rfl rfl rfl rfl ?_
          refine w_al hK rfl rfl ?_
          refine w_al hK rfl rfl ?_
          refine w_getr (n := 4) (v := 95) hK rfl rfl (by decide) (by decide) rfl rfl rfl rfl ?_
          refine w_al hK rfl rfl ?_
          refine w_getr (n := 4) (v := 95) hK rfl rfl (by decide) (by decide) rfl rfl rfl rfl ?_
          refine w_call [(1, 7), (1, a), (1, 95), (1, 95)] hK rfl rfl rfl rfl (Or.inr ⟨_, _, _, rfl, by decide, (by decide), rfl⟩) (c_rprd C71 ⟨ha.1, ((pu_ne (P := P1) (f := up1 (tpw j) j (el k (unt k s))) (show a ≠ 95 by omega)).trans ((hP a na_.1 na_.2).trans ha.2))⟩ ⟨(isP_of (p := 95) rfl), pu_eq⟩ (isP_of (p := 95) rfl) (by omega) (by omega) (by omega)) ?_
          rintro _ V72 ⟨rfl, C72, S72⟩
          rw [pu_comm (P := pu P1 95 (up1 (tpw j) j (el k (unt k s)))) (a := 8) (b := 95) (f := mlp f_a (up1 (tpw j) j (el k (unt k s)))) (g := mlp f_a (up1 (tpw j) j (el k (unt k s)))) (by omega), pu_pu (P := P1) (p := 95) (f := up1 (tpw j) j (el k (unt k s))) (g := mlp f_a (up1 (tpw j) j (el k (unt k s))))] at C72
          refine ⟨by decide, (?_ : Wp 198 _ 100 45 [(1, 92), (1, a), (1, b), (0, (j : Int)), (0, (s : Int))] [] V72 _)⟩
          refine w_al hK rfl rfl ?_
          refine w_getr (n := 1) (v := 7) hK rfl rfl (by decide) (by decide) rfl rfl rfl rfl ?_
          refine w_al hK rfl rfl ?_
          refine w_getr (n := 4) (v := 95) hK rfl rfl (by decide) (by decide) rfl rfl rfl rfl ?_
          refine w_al hK rfl rfl ?_
          refine w_ic hK rfl ?_
          refine w_al hK rfl rfl ?_
          refine w_getr (n := 3) (v := 93) hK rfl rfl (by decide) (by decide) rfl rfl rfl rfl ?_
          refine w_al hK rfl rfl ?_
          refine w_getr (n := 5) (v := 97) hK rfl rfl (by decide) (by decide) rfl rfl rfl rfl ?_
          refine w_call [(1, 7), (1, 95), (1, b), (0, 0), (1, 93), (1, 97)] hK rfl rfl rfl rfl (Or.inr ⟨_, _, _, rfl, by decide, (by decide), rfl⟩) (c_div C72 ⟨(isP_of (p := 95) rfl), ((pu_ne (P := pu P1 95 (mlp f_a (up1 (tpw j) j (el k (unt k s))))) (f := mlp f_a (up1 (tpw j) j (el k (unt k s)))) (show 95 ≠ 8 by omega)).trans pu_eq)⟩ ⟨hb.1, ((pu_ne (P := pu P1 95 (mlp f_a (up1 (tpw j) j (el k (unt k s))))) (f := mlp f_a (up1 (tpw j) j (el k (unt k s)))) (show b ≠ 8 by omega)).trans ((pu_ne (P := P1) (f := mlp f_a (up1 (tpw j) j (el k (unt k s)))) (show b ≠ 95 by omega)).trans ((hP b nb_.1 nb_.2).trans hb.2)))⟩ 0 (isP_of (p := 93) rfl) (isP_of (p := 97) rfl) (by omega) (by omega) (by omega) (by omega) (by omega) (by omega)) ?_
          rintro _ V73 ⟨rfl, C73, S73⟩
          refine ⟨by decide, (?_ : Wp 198 _ 100 56 [(1, 92), (1, a), (1, b), (0, (j : Int)), (0, (s : Int))] [] V73 _)⟩
          refine w_al hK rfl rfl ?_
          refine w_getr (n := 2) (v := 88) hK rfl rfl (by decide) (by decide) rfl rfl rfl rfl ?_
          refine w_al hK rfl rfl ?_
          refine w_getr (n := 5) (v := 97) hK rfl rfl (by decide) (by decide) rfl rfl rfl rfl ?_
          refine w_al hK rfl rfl ?_
          refine w_pt hK rfl hb.1 ?_
          rw [show V73 b 1 = dg f_b from C73.t ⟨hb.1, ((pu_ne (P := pu (pu (pu P1 95 (mlp f_a (up1 (tpw j) j (el k (unt k s))))) 8 (mlp f_a (up1 (tpw j) j (el k (unt k s))))) 93 (dq 0 (mlp f_a (up1 (tpw j) j (el k (unt k s)))) f_b)) (f := dr 0 (mlp f_a (up1 (tpw j) j (el k (unt k s)))) f_b) (show b ≠ 97 by omega)).trans ((pu_ne (P := pu (pu P1 95 (mlp f_a (up1 (tpw j) j (el k (unt k s))))) 8 (mlp f_a (up1 (tpw j) j (el k (unt k s))))) (f := dq 0 (mlp f_a (up1 (tpw j) j (el k (unt k s)))) f_b) (show b ≠ 93 by omega)).trans ((pu_ne (P := pu P1 95 (mlp f_a (up1 (tpw j) j (el k (unt k s))))) (f := mlp f_a (up1 (tpw j) j (el k (unt k s)))) (show b ≠ 8 by omega)).trans ((pu_ne (P := P1) (f := mlp f_a (up1 (tpw j) j (el k (unt k s)))) (show b ≠ 95 by omega)).trans ((hP b nb_.1 nb_.2).trans hb.2)))))⟩]
          have tI_ := CS.dI C73 ⟨hb.1, ((pu_ne (P := pu (pu (pu P1 95 (mlp f_a (up1 (tpw j) j (el k (unt k s))))) 8 (mlp f_a (up1 (tpw j) j (el k (unt k s))))) 93 (dq 0 (mlp f_a (up1 (tpw j) j (el k (unt k s)))) f_b)) (f := dr 0 (mlp f_a (up1 (tpw j) j (el k (unt k s)))) f_b) (show b ≠ 97 by omega)).trans ((pu_ne (P := pu (pu P1 95 (mlp f_a (up1 (tpw j) j (el k (unt k s))))) 8 (mlp f_a (up1 (tpw j) j (el k (unt k s))))) (f := dq 0 (mlp f_a (up1 (tpw j) j (el k (unt k s)))) f_b) (show b ≠ 93 by omega)).trans ((pu_ne (P := pu P1 95 (mlp f_a (up1 (tpw j) j (el k (unt k s))))) (f := mlp f_a (up1 (tpw j) j (el k (unt k s)))) (show b ≠ 8 by omega)).trans ((pu_ne (P := P1) (f := mlp f_a (up1 (tpw j) j (el k (unt k s)))) (show b ≠ 95 by omega)).trans ((hP b nb_.1 nb_.2).trans hb.2)))))⟩
          have hX_ : (pu (pu (pu (pu P1 95 (mlp f_a (up1 (tpw j) j (el k (unt k s))))) 8 (mlp f_a (up1 (tpw j) j (el k (unt k s))))) 93 (dq 0 (mlp f_a (up1 (tpw j) j (el k (unt k s)))) f_b)) 97 (dr 0 (mlp f_a (up1 (tpw j) j (el k (unt k s)))) f_b)) 97 = some ((XL f_a f_b) (j * mm k + s)) := (pu_eq).trans (congrArg some (by unfold XL; rw [Uni_at (by omega)]))
          have hSP_ : SP V73 n (XL f_a f_b) (j * mm k + s) c ow := SP.congr hG.1.1 (fun a np_ n92_ n100_ => ((S73 a np_).trans ((S72 a np_).trans ((S71 a np_).trans (S70 a np_)))))
          have bX_ : Bd ((XL f_a f_b) (j * mm k + s)) n := by unfold XL; rw [Uni_at (by omega)]; exact dr_bd 0 hbd_ (Bd_mlp (C.bd ha) (fun i hi => by unfold up1 tpw up1; rw [if_neg (by omega), if_neg (by omega)]; rfl : Bd (up1 (tpw j) j (el k (unt k s))) 17))
          refine w_call [(1, 88), (1, 97), (0, (dg f_b))] hK rfl rfl rfl rfl (Or.inr ⟨_, _, _, rfl, by decide, (by decide), rfl⟩) (Ct.cv (c_dep C73 ⟨isP_of (p := 97) rfl, hX_⟩ (n := n) (o := j * mm k + s) (c := c) (X := (XL f_a f_b)) (ow := ow) (by omega) (by omega) (by omega) (by omega) rfl bX_ hSP_) (by rw [hbn])) ?_
          rintro _ V74 ⟨⟨rfl, u, hsr_, hou_, hsp_⟩ | ⟨rfl, hsp_⟩, F74⟩
          · refine ⟨by decide, (?_ : Wp 198 _ 100 63 [(1, 92), (1, a), (1, b), (0, (j : Int)), (0, (s : Int))] [(0, 1)] V74 _)⟩
            refine w_eq hK rfl (by omega) (by omega) (fun h63 => ?_) (fun h63 => ?_)
            · exfalso; omega
            · refine w_al hK rfl rfl ?_
              refine w_al hK rfl rfl ?_
              refine w_pt hK rfl hb.1 ?_
              rw [show V74 b 1 = dg f_b from (CS.congr C73 (fun a ha_ => F74 a (CSc_ne ha_ (by decide) (notP rfl)) (CSc_ne ha_ (by decide) (notP rfl)) (CSc_ne ha_ (by decide) (notP rfl)) (CSc_ne ha_ (by decide) np91))).t ⟨hb.1, ((pu_ne (P := pu (pu (pu P1 95 (mlp f_a (up1 (tpw j) j (el k (unt k s))))) 8 (mlp f_a (up1 (tpw j) j (el k (unt k s))))) 93 (dq 0 (mlp f_a (up1 (tpw j) j (el k (unt k s)))) f_b)) (f := dr 0 (mlp f_a (up1 (tpw j) j (el k (unt k s)))) f_b) (show b ≠ 97 by omega)).trans ((pu_ne (P := pu (pu P1 95 (mlp f_a (up1 (tpw j) j (el k (unt k s))))) 8 (mlp f_a (up1 (tpw j) j (el k (unt k s))))) (f := dq 0 (mlp f_a (up1 (tpw j) j (el k (unt k s)))) f_b) (show b ≠ 93 by omega)).trans ((pu_ne (P := pu P1 95 (mlp f_a (up1 (tpw j) j (el k (unt k s))))) (f := mlp f_a (up1 (tpw j) j (el k (unt k s)))) (show b ≠ 8 by omega)).trans ((pu_ne (P := P1) (f := mlp f_a (up1 (tpw j) j (el k (unt k s)))) (show b ≠ 95 by omega)).trans ((hP b nb_.1 nb_.2).trans hb.2)))))⟩]
              have tI_ := CS.dI (CS.congr C73 (fun a ha_ => F74 a (CSc_ne ha_ (by decide) (notP rfl)) (CSc_ne ha_ (by decide) (notP rfl)) (CSc_ne ha_ (by decide) (notP rfl)) (CSc_ne ha_ (by decide) np91))) ⟨hb.1, ((pu_ne (P := pu (pu (pu P1 95 (mlp f_a (up1 (tpw j) j (el k (unt k s))))) 8 (mlp f_a (up1 (tpw j) j (el k (unt k s))))) 93 (dq 0 (mlp f_a (up1 (tpw j) j (el k (unt k s)))) f_b)) (f := dr 0 (mlp f_a (up1 (tpw j) j (el k (unt k s)))) f_b) (show b ≠ 97 by omega)).trans ((pu_ne (P := pu (pu P1 95 (mlp f_a (up1 (tpw j) j (el k (unt k s))))) 8 (mlp f_a (up1 (tpw j) j (el k (unt k s))))) (f := dq 0 (mlp f_a (up1 (tpw j) j (el k (unt k s)))) f_b) (show b ≠ 93 by omega)).trans ((pu_ne (P := pu P1 95 (mlp f_a (up1 (tpw j) j (el k (unt k s))))) (f := mlp f_a (up1 (tpw j) j (el k (unt k s)))) (show b ≠ 8 by omega)).trans ((pu_ne (P := P1) (f := mlp f_a (up1 (tpw j) j (el k (unt k s)))) (show b ≠ 95 by omega)).trans ((hP b nb_.1 nb_.2).trans hb.2)))))⟩
              obtain ⟨hm4_, _⟩ := SP.q4 hsp_
              refine w_call [(1, 92), (0, (dg f_b))] hK rfl rfl rfl rfl (Or.inr ⟨_, _, _, rfl, by decide, (by decide), rfl⟩) (Ct.cv (c_addB (CS.congr C73 (fun a ha_ => F74 a (CSc_ne ha_ (by decide) (notP rfl)) (CSc_ne ha_ (by decide) (notP rfl)) (CSc_ne ha_ (by decide) (notP rfl)) (CSc_ne ha_ (by decide) np91))) (n := n) (c := c) (R := R) (u := u) (by omega) (by omega) (by omega) (by omega) (by omega) hm4_ ((congrFun (F74 92 (by decide) (by decide) (by decide) (by decide)) 10).trans ((congrFun (S73 92 (notP rfl)) 10).trans ((congrFun (S72 92 (notP rfl)) 10).trans ((congrFun (S71 92 (notP rfl)) 10).trans ((congrFun (S70 92 (notP rfl)) 10).trans hG.1.2.1))))) ((congrFun (F74 92 (by decide) (by decide) (by decide) (by decide)) 11).trans ((congrFun (S73 92 (notP rfl)) 11).trans ((congrFun (S72 92 (notP rfl)) 11).trans ((congrFun (S71 92 (notP rfl)) 11).trans ((congrFun (S70 92 (notP rfl)) 11).trans hG.1.2.2))))) hou_ hsr_.2.2.2.2) (by rw [hbn])) ?_
              rintro _ V75 ⟨P75, rfl, C75, S75, F75, f75, x75_, y75_, z75_⟩
              refine ⟨by decide, (?_ : Wp 198 _ 100 68 [(1, 92), (1, a), (1, b), (0, (j : Int)), (0, (s : Int))] [] V75 _)⟩
              refine w_inc [(1, 92), (1, a), (1, b), (0, (j : Int)), (0, ((s : Int) + 1))] hK rfl rfl rfl (by omega) (by omega) rfl ?_
              refine w_goto hK rfl ?_
              have hspZ_ := SP.congr hsp_ (fun a np_ n92_ n100_ => (S75 a np_ n92_ n100_))
              exact ih20 _ (by omega) (s + 1) c (R + 1) (fup dp R (j * mm k + s)) ow (fup us R u) _ V75 rfl (by omega) C75 (hG.yes hspZ_ hsr_ x75_ y75_ (fun r hr => ((F75 (104 + 2 * (r : Int)) (by omega)).trans ((pu_ne (P := pu (pu (pu P1 95 (mlp f_a (up1 (tpw j) j (el k (unt k s))))) 8 (mlp f_a (up1 (tpw j) j (el k (unt k s))))) 93 (dq 0 (mlp f_a (up1 (tpw j) j (el k (unt k s)))) f_b)) (f := dr 0 (mlp f_a (up1 (tpw j) j (el k (unt k s)))) f_b) (show (104 + 2 * (r : Int)) ≠ 97 by omega)).trans ((pu_ne (P := pu (pu P1 95 (mlp f_a (up1 (tpw j) j (el k (unt k s))))) 8 (mlp f_a (up1 (tpw j) j (el k (unt k s))))) (f := dq 0 (mlp f_a (up1 (tpw j) j (el k (unt k s)))) f_b) (show (104 + 2 * (r : Int)) ≠ 93 by omega)).trans ((pu_ne (P := pu P1 95 (mlp f_a (up1 (tpw j) j (el k (unt k s))))) (f := mlp f_a (up1 (tpw j) j (el k (unt k s)))) (show (104 + 2 * (r : Int)) ≠ 8 by omega)).trans (pu_ne (P := P1) (f := mlp f_a (up1 (tpw j) j (el k (unt k s)))) (show (104 + 2 * (r : Int)) ≠ 95 by omega))))))) f75 (z75_.trans (congrArg (fun f => upr f (R : Int) 0) ((F74 100 (by decide) (by decide) (by decide) (by decide)).trans ((S73 100 (notP rfl)).trans ((S72 100 (notP rfl)).trans ((S71 100 (notP rfl)).trans ((S70 100 (notP rfl)).trans rfl)))))))) ((F75 102 (by omega)).trans ((pu_ne (P := pu (pu (pu P1 95 (mlp f_a (up1 (tpw j) j (el k (unt k s))))) 8 (mlp f_a (up1 (tpw j) j (el k (unt k s))))) 93 (dq 0 (mlp f_a (up1 (tpw j) j (el k (unt k s)))) f_b)) (f := dr 0 (mlp f_a (up1 (tpw j) j (el k (unt k s)))) f_b) (show 102 ≠ 97 by omega)).trans ((pu_ne (P := pu (pu P1 95 (mlp f_a (up1 (tpw j) j (el k (unt k s))))) 8 (mlp f_a (up1 (tpw j) j (el k (unt k s))))) (f := dq 0 (mlp f_a (up1 (tpw j) j (el k (unt k s)))) f_b) (show 102 ≠ 93 by omega)).trans ((pu_ne (P := pu P1 95 (mlp f_a (up1 (tpw j) j (el k (unt k s))))) (f := mlp f_a (up1 (tpw j) j (el k (unt k s)))) (show 102 ≠ 8 by omega)).trans ((pu_ne (P := P1) (f := mlp f_a (up1 (tpw j) j (el k (unt k s)))) (show 102 ≠ 95 by omega)).trans hw))))) (fun p np8_ npL_ => ((F75 p (by omega)).trans ((pu_ne (P := pu (pu (pu P1 95 (mlp f_a (up1 (tpw j) j (el k (unt k s))))) 8 (mlp f_a (up1 (tpw j) j (el k (unt k s))))) 93 (dq 0 (mlp f_a (up1 (tpw j) j (el k (unt k s)))) f_b)) (f := dr 0 (mlp f_a (up1 (tpw j) j (el k (unt k s)))) f_b) (show p ≠ 97 by omega)).trans ((pu_ne (P := pu (pu P1 95 (mlp f_a (up1 (tpw j) j (el k (unt k s))))) 8 (mlp f_a (up1 (tpw j) j (el k (unt k s))))) (f := dq 0 (mlp f_a (up1 (tpw j) j (el k (unt k s)))) f_b) (show p ≠ 93 by omega)).trans ((pu_ne (P := pu P1 95 (mlp f_a (up1 (tpw j) j (el k (unt k s))))) (f := mlp f_a (up1 (tpw j) j (el k (unt k s)))) (show p ≠ 8 by omega)).trans ((pu_ne (P := P1) (f := mlp f_a (up1 (tpw j) j (el k (unt k s)))) (show p ≠ 95 by omega)).trans (hP p np8_ npL_))))))) (fun a np_ n88_ n89_ n90_ n91_ n92_ n100_ => ((S75 a np_ n92_ n100_).trans ((F74 a n88_ n89_ n90_ n91_).trans ((S73 a np_).trans ((S72 a np_).trans ((S71 a np_).trans ((S70 a np_).trans (hF a np_ n88_ n89_ n90_ n91_ n92_ n100_))))))))
          · refine ⟨by decide, (?_ : Wp 198 _ 100 63 [(1, 92), (1, a), (1, b), (0, (j : Int)), (0, (s : Int))] [(0, 0)] V74 _)⟩
            refine w_eq hK rfl (by omega) (by omega) (fun h63 => ?_) (fun h63 => ?_)
            · refine w_inc [(1, 92), (1, a), (1, b), (0, (j : Int)), (0, ((s : Int) + 1))] hK rfl rfl rfl (by omega) (by omega) rfl ?_
              refine w_goto hK rfl ?_
              exact ih20 _ (by omega) (s + 1) (c + 1) R dp (fup ow c (j * mm k + s)) us _ V74 rfl (by omega) (CS.congr C73 (fun a ha_ => F74 a (CSc_ne ha_ (by decide) (notP rfl)) (CSc_ne ha_ (by decide) (notP rfl)) (CSc_ne ha_ (by decide) (notP rfl)) (CSc_ne ha_ (by decide) np91))) (hG.no hsp_ ((congrFun (F74 92 (by decide) (by decide) (by decide) (by decide)) 10).trans ((congrFun (S73 92 (notP rfl)) 10).trans ((congrFun (S72 92 (notP rfl)) 10).trans ((congrFun (S71 92 (notP rfl)) 10).trans ((congrFun (S70 92 (notP rfl)) 10).trans hG.1.2.1))))) ((congrFun (F74 92 (by decide) (by decide) (by decide) (by decide)) 11).trans ((congrFun (S73 92 (notP rfl)) 11).trans ((congrFun (S72 92 (notP rfl)) 11).trans ((congrFun (S71 92 (notP rfl)) 11).trans ((congrFun (S70 92 (notP rfl)) 11).trans hG.1.2.2))))) (fun r hr => ((pu_ne (P := pu (pu (pu P1 95 (mlp f_a (up1 (tpw j) j (el k (unt k s))))) 8 (mlp f_a (up1 (tpw j) j (el k (unt k s))))) 93 (dq 0 (mlp f_a (up1 (tpw j) j (el k (unt k s)))) f_b)) (f := dr 0 (mlp f_a (up1 (tpw j) j (el k (unt k s)))) f_b) (show (104 + 2 * (r : Int)) ≠ 97 by omega)).trans ((pu_ne (P := pu (pu P1 95 (mlp f_a (up1 (tpw j) j (el k (unt k s))))) 8 (mlp f_a (up1 (tpw j) j (el k (unt k s))))) (f := dq 0 (mlp f_a (up1 (tpw j) j (el k (unt k s)))) f_b) (show (104 + 2 * (r : Int)) ≠ 93 by omega)).trans ((pu_ne (P := pu P1 95 (mlp f_a (up1 (tpw j) j (el k (unt k s))))) (f := mlp f_a (up1 (tpw j) j (el k (unt k s)))) (show (104 + 2 * (r : Int)) ≠ 8 by omega)).trans (pu_ne (P := P1) (f := mlp f_a (up1 (tpw j) j (el k (unt k s)))) (show (104 + 2 * (r : Int)) ≠ 95 by omega)))))) ((F74 100 (by decide) (by decide) (by decide) (by decide)).trans ((S73 100 (notP rfl)).trans ((S72 100 (notP rfl)).trans ((S71 100 (notP rfl)).trans ((S70 100 (notP rfl)).trans rfl)))))) ((pu_ne (P := pu (pu (pu P1 95 (mlp f_a (up1 (tpw j) j (el k (unt k s))))) 8 (mlp f_a (up1 (tpw j) j (el k (unt k s))))) 93 (dq 0 (mlp f_a (up1 (tpw j) j (el k (unt k s)))) f_b)) (f := dr 0 (mlp f_a (up1 (tpw j) j (el k (unt k s)))) f_b) (show 102 ≠ 97 by omega)).trans ((pu_ne (P := pu (pu P1 95 (mlp f_a (up1 (tpw j) j (el k (unt k s))))) 8 (mlp f_a (up1 (tpw j) j (el k (unt k s))))) (f := dq 0 (mlp f_a (up1 (tpw j) j (el k (unt k s)))) f_b) (show 102 ≠ 93 by omega)).trans ((pu_ne (P := pu P1 95 (mlp f_a (up1 (tpw j) j (el k (unt k s))))) (f := mlp f_a (up1 (tpw j) j (el k (unt k s)))) (show 102 ≠ 8 by omega)).trans ((pu_ne (P := P1) (f := mlp f_a (up1 (tpw j) j (el k (unt k s)))) (show 102 ≠ 95 by omega)).trans hw)))) (fun p np8_ npL_ => ((pu_ne (P := pu (pu (pu P1 95 (mlp f_a (up1 (tpw j) j (el k (unt k s))))) 8 (mlp f_a (up1 (tpw j) j (el k (unt k s))))) 93 (dq 0 (mlp f_a (up1 (tpw j) j (el k (unt k s)))) f_b)) (f := dr 0 (mlp f_a (up1 (tpw j) j (el k (unt k s)))) f_b) (show p ≠ 97 by omega)).trans ((pu_ne (P := pu (pu P1 95 (mlp f_a (up1 (tpw j) j (el k (unt k s))))) 8 (mlp f_a (up1 (tpw j) j (el k (unt k s))))) (f := dq 0 (mlp f_a (up1 (tpw j) j (el k (unt k s)))) f_b) (show p ≠ 93 by omega)).trans ((pu_ne (P := pu P1 95 (mlp f_a (up1 (tpw j) j (el k (unt k s))))) (f := mlp f_a (up1 (tpw j) j (el k (unt k s)))) (show p ≠ 8 by omega)).trans ((pu_ne (P := P1) (f := mlp f_a (up1 (tpw j) j (el k (unt k s)))) (show p ≠ 95 by omega)).trans (hP p np8_ npL_)))))) (fun a np_ n88_ n89_ n90_ n91_ n92_ n100_ => ((F74 a n88_ n89_ n90_ n91_).trans ((S73 a np_).trans ((S72 a np_).trans ((S71 a np_).trans ((S70 a np_).trans (hF a np_ n88_ n89_ n90_ n91_ n92_ n100_)))))))
            · exfalso; omega
      exact lp20 _ 0 c R dp ow us P1 N14 rfl (by omega) hC hG hw hP hF
  have zm_ : (0 : Nat) * mm k = 0 := Nat.zero_mul _
  exact lp14 _ 0 0 0 (fun _ => 0) (fun _ => 0) (fun _ _ => 0) _ (3, 0) V69 rfl (by omega) (CS.congr C68 (fun a ha_ => F69 a (CSc_ne ha_ (by decide) (notP rfl)))) ⟨⟨⟨fun _ => pz, fun _ _ => 0, fun _ => 0, ⟨⟨x69_, (y69_.trans (by rw [Nat.zero_mul]; rfl))⟩, fun r l hr => by omega, fun r l hr => by omega, fun r hr => by omega⟩, fun r hr => by omega, fun r hr => by omega⟩, ((congrFun (F69 92 (by decide)) 10).trans ((congrFun (S68 92 (notP rfl)) 10).trans ((up_ne2 (by omega)).trans up_eq))), ((congrFun (F69 92 (by decide)) 11).trans ((congrFun (S68 92 (notP rfl)) 11).trans up_eq))⟩, (Nat.zero_mul _).symm, fun r hr => by omega⟩ pu_eq (fun p np8_ npL_ => (pu_ne (P := P) (f := pz) (show p ≠ 102 by omega))) (fun a np_ n88_ n89_ n90_ n91_ n92_ n100_ => ((F69 a n88_).trans ((S68 a np_).trans ((up_row n92_).trans (up_row n92_)))))
