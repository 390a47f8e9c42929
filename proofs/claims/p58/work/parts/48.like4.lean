/-! contracts: Likeness, all ways */ -/
/-- what gathering leaves, of numbers alone -/
def GP {k : Nat} (X : Nat → Pl k) (n i : Nat) (dp : Nat → Nat) (us : Nat → Nat → Nat) (ow : Nat → Nat) (c R : Nat) : Prop := (∃ (ρ : Nat → Pl k) (w : Nat → Nat → Nat) (pv : Nat → Nat), SPp n X i c ρ w pv ow) ∧ c + R = i ∧ ∀ r : Nat, r < R → dp r < i ∧ SPr X (dp r) c ow (us r) ∧ (∀ s : Nat, s < c → ow s ≠ dp r) ∧ ∀ s : Nat, s < r → dp s < dp r
theorem GI.gp {M : Mem} {k : Nat} {P : Int → Option (Pl k)} {X : Nat → Pl k} {n i : Nat} {dp : Nat → Nat} {us : Nat → Nat → Nat} {ow : Nat → Nat} {c R : Nat} (h : GI M P X n i dp us ow c R) : GP X n i dp us ow c R := by
  obtain ⟨ρ, w, pv, _, h2⟩ := h.1.1
  exact ⟨⟨ρ, w, pv, h2⟩, h.2.1, fun r hr => (h.2.2 r hr).2.2⟩
theorem dgn_0 {p r : Nat} : dgn p 0 r = 0 := by
  unfold dgn
  rw [Nat.zero_div, Nat.zero_mod]
theorem wyU_0 {k n : Nat} {us : Nat → Nat → Nat} {R : Nat} : wyU (k := k) n us R 0 = pz := by
  unfold wyU
  rw [lcb_congr (w := fun _ => 0) (fun j _ => dgn_0), lcb_zero]
set_option maxRecDepth 100000 in
theorem c_find {d : Nat} {M : Mem} {k : Nat} {P : Int → Option (Pl k)} (C : CS M k P) {a b : Int} {f_a : Pl k} (ha : isC P a f_a) {f_b : Pl k} (hb : isC P b f_b) (na_ : a ≠ 8 ∧ (a < 92 ∨ 135 < a)) (nb_ : b ≠ 8 ∧ (b < 92 ∨ 135 < b)) (nbr_ : b ≠ 10 ∧ b ≠ 12 ∧ b ≠ 14 ∧ b ≠ 16) {n : Nat} (hbn : dg f_b = (n : Int)) (hn4 : n ≤ 4) (da4 : dg f_a ≤ 4) : Ct 198 (d + 5) 99 [(1, 92), (1, a), (1, b)] M (fun r_ M' => ∃ (P' : Int → Option (Pl k)) (c R : Nat) (dp ow : Nat → Nat) (us : Nat → Nat → Nat), r_ = (0, bz (∃ j : Nat, 1 ≤ j ∧ j < pp k ^ R ∧ Cop (wyU n us R j) f_b)) ∧ CS M' k P' ∧ GP (XL f_a f_b) n (n * mm k) dp us ow c R ∧ (∀ p : Int, p ≠ 8 → (p < 92 ∨ 135 < p) → (p ≠ 10 ∧ p ≠ 12 ∧ p ≠ 14 ∧ p ≠ 16) → P' p = P p) ∧ (∀ a : Int, (∀ p : Int, isP p → a ≠ p ∧ a ≠ p + 1) → a ≠ 88 → a ≠ 89 → a ≠ 90 → a ≠ 91 → a ≠ 92 → a ≠ 100 → M' a = M a) ∧ ∀ j : Nat, 1 ≤ j → j < pp k ^ R → Cop (wyU n us R j) f_b → (∀ i : Nat, 1 ≤ i → i < j → ¬ Cop (wyU n us R i) f_b) → P' 102 = some (wyU n us R j)) := by
  have hK : cd 99 = k99 := rfl
  have p1_ := pp_I k
  have m1_ := mm_I k
  have nm_ : n * mm k ≤ 4 * mm k := Nat.mul_le_mul_right _ hn4
  show Wp 198 _ 99 0 [(1, 92), (1, a), (1, b), (3, 0)] [] M _
  refine w_al hK rfl rfl ?_
  refine w_al hK rfl rfl ?_
  refine w_al hK rfl rfl ?_
  refine w_call [(1, 92), (1, a), (1, b)] hK rfl rfl rfl rfl (Or.inr ⟨_, _, _, rfl, by decide, (by decide), rfl⟩) (c_gather C ha hb na_ nb_ hbn hn4 da4) ?_
  rintro _ V77 ⟨P77, c, R, dp, ow, us, rfl, C77, hG, hw0, hP0, hF0⟩
  have hgp_ := hG.gp
  have hcR_ := hG.2.1
  have pt_ := pm_two k
  have pw_ := ppow_le k (r := R) (by omega) (by omega)
  have pw0_ : 0 < pp k ^ R := Nat.pow_pos (by have := pp_ge k; omega)
  refine ⟨by decide, (?_ : Wp 198 _ 99 4 [(1, 92), (1, a), (1, b), (3, 0)] [] V77 _)⟩
  refine w_ic hK rfl ?_
  refine w_is [(1, 92), (1, a), (1, b), (0, 1)] hK rfl rfl rfl ?_
  have lp6 : ∀ (n_ : Nat) (t : Nat) (P1 : Int → Option (Pl k)) (N6 : Mem), 65537 - t = n_ → (t + 1 ≤ pp k ^ R) → (CS N6 k P1) → (P1 102 = some (wyU n us R t)) → (∀ r : Nat, r < R → N6 100 (r : Int) = (dgn (pp k) t r : Int)) → (∀ r : Nat, r < R → P1 (104 + 2 * (r : Int)) = some (bsU n (us r))) → (N6 92 10 = (R : Int)) → (N6 92 11 = ((pp k ^ R : Nat) : Int)) → ((∀ p : Int, p ≠ 8 → (p < 92 ∨ 135 < p) → (p ≠ 10 ∧ p ≠ 12 ∧ p ≠ 14 ∧ p ≠ 16) → P1 p = P p)) → ((∀ a : Int, (∀ p : Int, isP p → a ≠ p ∧ a ≠ p + 1) → a ≠ 88 → a ≠ 89 → a ≠ 90 → a ≠ 91 → a ≠ 92 → a ≠ 100 → N6 a = M a)) → (∀ j : Nat, 1 ≤ j → j < t + 1 → ¬ (Cop (wyU n us R (j)) f_b)) → Wp 198 (d + 5) 99 6 [(1, 92), (1, a), (1, b), (0, ((t : Int) + 1))] [] N6 (fun r_ M' => ∃ (P' : Int → Option (Pl k)) (c R : Nat) (dp ow : Nat → Nat) (us : Nat → Nat → Nat), r_ = (0, bz (∃ j : Nat, 1 ≤ j ∧ j < pp k ^ R ∧ Cop (wyU n us R j) f_b)) ∧ CS M' k P' ∧ GP (XL f_a f_b) n (n * mm k) dp us ow c R ∧ (∀ p : Int, p ≠ 8 → (p < 92 ∨ 135 < p) → (p ≠ 10 ∧ p ≠ 12 ∧ p ≠ 14 ∧ p ≠ 16) → P' p = P p) ∧ (∀ a : Int, (∀ p : Int, isP p → a ≠ p ∧ a ≠ p + 1) → a ≠ 88 → a ≠ 89 → a ≠ 90 → a ≠ 91 → a ≠ 92 → a ≠ 100 → M' a = M a) ∧ ∀ j : Nat, 1 ≤ j → j < pp k ^ R → Cop (wyU n us R j) f_b → (∀ i : Nat, 1 ≤ i → i < j → ¬ Cop (wyU n us R i) f_b) → P' 102 = some (wyU n us R j)) := by
    intro n_
    induction n_ using Nat.strongRecOn with
    | _ n_ ih6 =>
    intro t P1 N6 hm6 ht hC hw hD hB r0_ r1_ hP hF hno
    refine w_il hK rfl rfl ?_
    refine w_al hK rfl rfl ?_
    refine w_geti (n := 11) (m := 11) hK rfl rfl (by decide) (by decide) rfl rfl rfl rfl ?_
    rw [show N6 92 11 = ((pp k ^ R : Nat) : Int) from r1_]
    refine w_ge2 hK rfl (by omega) (by omega) (by omega) (by omega) (fun h9 => ?_) (fun h9 => ?_)
    · refine w_ic hK rfl ?_
      refine w_zret hK rfl rfl (Or.inl rfl) ?_
      have no_ : ¬ ∃ j : Nat, 1 ≤ j ∧ j < pp k ^ R ∧ Cop (wyU n us R j) f_b := fun ⟨j, h1, h2, h3⟩ => hno j h1 (by omega) h3
      exact ⟨_, c, R, dp, ow, us, by rw [bz_neg no_], hC, hgp_, (fun p np8_ npL_ npr_ => (hP p np8_ npL_ npr_)), (fun a np_ n88_ n89_ n90_ n91_ n92_ n100_ => (hF a np_ n88_ n89_ n90_ n91_ n92_ n100_)), fun j h1 h2 h3 _ => absurd ⟨j, h1, h2, h3⟩ no_⟩
    · refine w_al hK rfl rfl ?_
      refine w_call [(1, 92)] hK rfl rfl rfl rfl (Or.inr ⟨_, _, _, rfl, by decide, (by decide), rfl⟩) (c_adv hC (n0 := n) (R := R) (n := t) (us := us) (by omega) r0_ hB hD (hw) (by omega)) ?_
      rintro _ V78 ⟨P78, rfl, C78, fw78, fD78, F78, S78⟩
      refine ⟨by decide, (?_ : Wp 198 _ 99 12 [(1, 92), (1, a), (1, b), (0, ((t : Int) + 1))] [] V78 _)⟩
      refine w_al hK rfl rfl ?_
      refine w_getr (n := 1) (v := 7) hK rfl rfl (by decide) (by decide) rfl rfl rfl rfl ?_
      refine w_al hK rfl rfl ?_
      refine w_getr (n := 9) (v := 102) hK rfl rfl (by decide) (by decide) rfl rfl rfl rfl ?_
      refine w_al hK rfl rfl ?_
      refine w_call [(1, 7), (1, 102), (1, b)] hK rfl rfl rfl rfl (Or.inr ⟨_, _, _, rfl, by decide, (by decide), rfl⟩) (c_cop C78 ⟨(isP_of (p := 102) rfl), fw78⟩ ⟨hb.1, ((F78 b (by omega)).trans ((hP b nb_.1 nb_.2 nbr_).trans hb.2))⟩ (by omega) (by omega)) ?_
      rintro _ V79 ⟨P79, rfl, C79, S79, F79⟩
      have bv_ := bz_01 (Cop (wyU n us R (t + 1)) f_b)
      refine ⟨by show (0 : Nat) ≠ 9; decide, (?_ : Wp 198 _ 99 18 [(1, 92), (1, a), (1, b), (0, ((t : Int) + 1))] [(0, (bz (Cop (wyU n us R (t + 1)) f_b)))] V79 _)⟩
      refine w_eq hK rfl (by omega) (by omega) (fun h18 => ?_) (fun h18 => ?_)
      · refine w_inc [(1, 92), (1, a), (1, b), (0, (((t : Int) + 1) + 1))] hK rfl rfl rfl (by omega) (by omega) rfl ?_
        refine w_goto hK rfl ?_
        have q6 := ih6 _ (by omega) (t + 1) _ V79 rfl (by omega) C79 ((F79 102 (by omega) (by omega) (by omega) (by omega)).trans fw78) (fun r hr => (congrFun (S79 100 (notP rfl)) _).trans (fD78 r hr)) (fun r hr => ((F79 (104 + 2 * (r : Int)) (by omega) (by omega) (by omega) (by omega)).trans (F78 (104 + 2 * (r : Int)) (by omega))).trans (hB r hr)) ((congrFun (S79 92 (notP rfl)) 10).trans ((congrFun (S78 92 (notP rfl) (by decide)) 10).trans r0_)) ((congrFun (S79 92 (notP rfl)) 11).trans ((congrFun (S78 92 (notP rfl) (by decide)) 11).trans r1_)) (fun p np8_ npL_ npr_ => ((F79 p (by omega) (by omega) (by omega) (by omega)).trans ((F78 p (by omega)).trans (hP p np8_ npL_ npr_)))) (fun a np_ n88_ n89_ n90_ n91_ n92_ n100_ => ((S79 a np_).trans ((S78 a np_ n100_).trans (hF a np_ n88_ n89_ n90_ n91_ n92_ n100_)))) (fun j h1 h2 => by
          by_cases q : j = t + 1
          · rw [q]; exact bz_no h18
          · exact hno j h1 (by omega))
        rw [show ((t + 1 : Nat) : Int) + 1 = (t : Int) + 1 + 1 by omega] at q6
        exact q6
      · refine w_ic hK rfl ?_
        refine w_zret hK rfl rfl (Or.inr rfl) ?_
        have hc_ := bz_yes h18
        refine ⟨_, c, R, dp, ow, us, by rw [bz_pos ⟨t + 1, by omega, by omega, hc_⟩], C79, hgp_, (fun p np8_ npL_ npr_ => ((F79 p (by omega) (by omega) (by omega) (by omega)).trans ((F78 p (by omega)).trans (hP p np8_ npL_ npr_)))), (fun a np_ n88_ n89_ n90_ n91_ n92_ n100_ => ((S79 a np_).trans ((S78 a np_ n100_).trans (hF a np_ n88_ n89_ n90_ n91_ n92_ n100_)))), fun j h1 h2 h3 h4 => ?_⟩
        have ej_ : j = t + 1 := by
          rcases Nat.lt_trichotomy j (t + 1) with q | q | q
          · exact absurd h3 (hno j h1 (by omega))
          · exact q
          · exact absurd hc_ (h4 (t + 1) (by omega) q)
        rw [ej_]
        exact ((F79 102 (by omega) (by omega) (by omega) (by omega)).trans fw78)
  have q6 := lp6 _ 0 _ V77 rfl (by omega) C77 (hw0.trans (congrArg some wyU_0.symm)) (fun r hr => by rw [(hG.2.2 r hr).2.1, dgn_0]; rfl) (fun r hr => (hG.2.2 r hr).1) hG.1.2.1 hG.1.2.2 (fun p np8_ npL_ npr_ => (hP0 p np8_ npL_)) (fun a np_ n88_ n89_ n90_ n91_ n92_ n100_ => (hF0 a np_ n88_ n89_ n90_ n91_ n92_ n100_)) (fun j h1 h2 => by omega)
  rw [show (((0 : Nat) : Int) + 1) = 1 from rfl] at q6
  exact q6
theorem sI_bz {q : Nat → Prop} : ∀ n : Nat, 0 ≤ sI (fun j => bz (q j)) n ∧ sI (fun j => bz (q j)) n ≤ n
  | 0 => ⟨by show (0 : Int) ≤ 0; decide, by show (0 : Int) ≤ 0; decide⟩
  | n + 1 => by
    have h := sI_bz (q := q) n
    have h2 := bz_01 (q n)
    show 0 ≤ sI (fun j => bz (q j)) n + bz (q n) ∧ sI (fun j => bz (q j)) n + bz (q n) ≤ _
    omega
set_option maxRecDepth 100000 in
theorem c_count {d : Nat} {M : Mem} {k : Nat} {P : Int → Option (Pl k)} (C : CS M k P) {a b : Int} {f_a : Pl k} (ha : isC P a f_a) {f_b : Pl k} (hb : isC P b f_b) (na_ : a ≠ 8 ∧ (a < 92 ∨ 135 < a)) (nb_ : b ≠ 8 ∧ (b < 92 ∨ 135 < b)) (nbr_ : b ≠ 10 ∧ b ≠ 12 ∧ b ≠ 14 ∧ b ≠ 16) {n : Nat} (hbn : dg f_b = (n : Int)) (hn4 : n ≤ 4) (da4 : dg f_a ≤ 4) : Ct 198 (d + 5) 103 [(1, 92), (1, a), (1, b)] M (fun r_ M' => ∃ (P' : Int → Option (Pl k)) (c R : Nat) (dp ow : Nat → Nat) (us : Nat → Nat → Nat), r_ = (0, (sI (fun j => bz (Cop (wyU n us R (j + 1)) f_b)) (pp k ^ R - 1))) ∧ CS M' k P' ∧ GP (XL f_a f_b) n (n * mm k) dp us ow c R ∧ (∀ p : Int, p ≠ 8 → (p < 92 ∨ 135 < p) → (p ≠ 10 ∧ p ≠ 12 ∧ p ≠ 14 ∧ p ≠ 16) → P' p = P p) ∧ (∀ a : Int, (∀ p : Int, isP p → a ≠ p ∧ a ≠ p + 1) → a ≠ 88 → a ≠ 89 → a ≠ 90 → a ≠ 91 → a ≠ 92 → a ≠ 100 → M' a = M a) ∧ M' 92 11 = ((pp k ^ R : Nat) : Int)) := by
  have hK : cd 103 = k103 := rfl
  have p1_ := pp_I k
  have m1_ := mm_I k
  have nm_ : n * mm k ≤ 4 * mm k := Nat.mul_le_mul_right _ hn4
  show Wp 198 _ 103 0 [(1, 92), (1, a), (1, b), (3, 0), (3, 0)] [] M _
  refine w_al hK rfl rfl ?_
  refine w_al hK rfl rfl ?_
  refine w_al hK rfl rfl ?_
  refine w_call [(1, 92), (1, a), (1, b)] hK rfl rfl rfl rfl (Or.inr ⟨_, _, _, rfl, by decide, (by decide), rfl⟩) (c_gather C ha hb na_ nb_ hbn hn4 da4) ?_
  rintro _ V80 ⟨P80, c, R, dp, ow, us, rfl, C80, hG, hw0, hP0, hF0⟩
  have hgp_ := hG.gp
  have hcR_ := hG.2.1
  have pt_ := pm_two k
  have pw_ := ppow_le k (r := R) (by omega) (by omega)
  have pw0_ : 0 < pp k ^ R := Nat.pow_pos (by have := pp_ge k; omega)
  refine ⟨by decide, (?_ : Wp 198 _ 103 4 [(1, 92), (1, a), (1, b), (3, 0), (3, 0)] [] V80 _)⟩
  refine w_ic hK rfl ?_
  refine w_is [(1, 92), (1, a), (1, b), (0, 0), (3, 0)] hK rfl rfl rfl ?_
  refine w_ic hK rfl ?_
  refine w_is [(1, 92), (1, a), (1, b), (0, 0), (0, 1)] hK rfl rfl rfl ?_
  have lp8 : ∀ (n_ : Nat) (t : Nat) (P1 : Int → Option (Pl k)) (N8 : Mem), 65537 - t = n_ → (t + 1 ≤ pp k ^ R) → (CS N8 k P1) → (P1 102 = some (wyU n us R t)) → (∀ r : Nat, r < R → N8 100 (r : Int) = (dgn (pp k) t r : Int)) → (∀ r : Nat, r < R → P1 (104 + 2 * (r : Int)) = some (bsU n (us r))) → (N8 92 10 = (R : Int)) → (N8 92 11 = ((pp k ^ R : Nat) : Int)) → ((∀ p : Int, p ≠ 8 → (p < 92 ∨ 135 < p) → (p ≠ 10 ∧ p ≠ 12 ∧ p ≠ 14 ∧ p ≠ 16) → P1 p = P p)) → ((∀ a : Int, (∀ p : Int, isP p → a ≠ p ∧ a ≠ p + 1) → a ≠ 88 → a ≠ 89 → a ≠ 90 → a ≠ 91 → a ≠ 92 → a ≠ 100 → N8 a = M a)) → Wp 198 (d + 5) 103 8 [(1, 92), (1, a), (1, b), (0, (sI (fun j => bz (Cop (wyU n us R (j + 1)) f_b)) t)), (0, ((t : Int) + 1))] [] N8 (fun r_ M' => ∃ (P' : Int → Option (Pl k)) (c R : Nat) (dp ow : Nat → Nat) (us : Nat → Nat → Nat), r_ = (0, (sI (fun j => bz (Cop (wyU n us R (j + 1)) f_b)) (pp k ^ R - 1))) ∧ CS M' k P' ∧ GP (XL f_a f_b) n (n * mm k) dp us ow c R ∧ (∀ p : Int, p ≠ 8 → (p < 92 ∨ 135 < p) → (p ≠ 10 ∧ p ≠ 12 ∧ p ≠ 14 ∧ p ≠ 16) → P' p = P p) ∧ (∀ a : Int, (∀ p : Int, isP p → a ≠ p ∧ a ≠ p + 1) → a ≠ 88 → a ≠ 89 → a ≠ 90 → a ≠ 91 → a ≠ 92 → a ≠ 100 → M' a = M a) ∧ M' 92 11 = ((pp k ^ R : Nat) : Int)) := by
    intro n_
    induction n_ using Nat.strongRecOn with
    | _ n_ ih8 =>
    intro t P1 N8 hm8 ht hC hw hD hB r0_ r1_ hP hF
    have sb_ := sI_bz (q := fun j => Cop (wyU n us R (j + 1)) f_b) t
    refine w_il hK rfl rfl ?_
    refine w_al hK rfl rfl ?_
    refine w_geti (n := 11) (m := 11) hK rfl rfl (by decide) (by decide) rfl rfl rfl rfl ?_
    rw [show N8 92 11 = ((pp k ^ R : Nat) : Int) from r1_]
    refine w_ge2 hK rfl (by omega) (by omega) (by omega) (by omega) (fun h11 => ?_) (fun h11 => ?_)
    · refine w_il hK rfl rfl ?_
      refine w_iret hK rfl rfl ?_
      have et_ : pp k ^ R - 1 = t := by omega
      exact ⟨P1, c, R, dp, ow, us, by rw [et_], hC, hgp_, hP, hF, r1_⟩
    · refine w_al hK rfl rfl ?_
      refine w_call [(1, 92)] hK rfl rfl rfl rfl (Or.inr ⟨_, _, _, rfl, by decide, (by decide), rfl⟩) (c_adv hC (n0 := n) (R := R) (n := t) (us := us) (by omega) r0_ hB hD (hw) (by omega)) ?_
      rintro _ V81 ⟨P81, rfl, C81, fw81, fD81, F81, S81⟩
      refine ⟨by decide, (?_ : Wp 198 _ 103 14 [(1, 92), (1, a), (1, b), (0, (sI (fun j => bz (Cop (wyU n us R (j + 1)) f_b)) t)), (0, ((t : Int) + 1))] [] V81 _)⟩
      refine w_al hK rfl rfl ?_
      refine w_getr (n := 1) (v := 7) hK rfl rfl (by decide) (by decide) rfl rfl rfl rfl ?_
      refine w_al hK rfl rfl ?_
      refine w_getr (n := 9) (v := 102) hK rfl rfl (by decide) (by decide) rfl rfl rfl rfl ?_
      refine w_al hK rfl rfl ?_
      refine w_call [(1, 7), (1, 102), (1, b)] hK rfl rfl rfl rfl (Or.inr ⟨_, _, _, rfl, by decide, (by decide), rfl⟩) (c_cop C81 ⟨(isP_of (p := 102) rfl), fw81⟩ ⟨hb.1, ((F81 b (by omega)).trans ((hP b nb_.1 nb_.2 nbr_).trans hb.2))⟩ (by omega) (by omega)) ?_
      rintro _ V82 ⟨P82, rfl, C82, S82, F82⟩
      have bv_ := bz_01 (Cop (wyU n us R (t + 1)) f_b)
      refine ⟨by show (0 : Nat) ≠ 9; decide, (?_ : Wp 198 _ 103 20 [(1, 92), (1, a), (1, b), (0, (sI (fun j => bz (Cop (wyU n us R (j + 1)) f_b)) t)), (0, ((t : Int) + 1))] [(0, (bz (Cop (wyU n us R (t + 1)) f_b)))] V82 _)⟩
      refine w_eq hK rfl (by omega) (by omega) (fun h20 => ?_) (fun h20 => ?_)
      · refine w_inc [(1, 92), (1, a), (1, b), (0, (sI (fun j => bz (Cop (wyU n us R (j + 1)) f_b)) t)), (0, (((t : Int) + 1) + 1))] hK rfl rfl rfl (by omega) (by omega) rfl ?_
        refine w_goto hK rfl ?_
        have q8 := ih8 _ (by omega) (t + 1) _ V82 rfl (by omega) C82 ((F82 102 (by omega) (by omega) (by omega) (by omega)).trans fw81) (fun r hr => (congrFun (S82 100 (notP rfl)) _).trans (fD81 r hr)) (fun r hr => ((F82 (104 + 2 * (r : Int)) (by omega) (by omega) (by omega) (by omega)).trans (F81 (104 + 2 * (r : Int)) (by omega))).trans (hB r hr)) ((congrFun (S82 92 (notP rfl)) 10).trans ((congrFun (S81 92 (notP rfl) (by decide)) 10).trans r0_)) ((congrFun (S82 92 (notP rfl)) 11).trans ((congrFun (S81 92 (notP rfl) (by decide)) 11).trans r1_)) (fun p np8_ npL_ npr_ => ((F82 p (by omega) (by omega) (by omega) (by omega)).trans ((F81 p (by omega)).trans (hP p np8_ npL_ npr_)))) (fun a np_ n88_ n89_ n90_ n91_ n92_ n100_ => ((S82 a np_).trans ((S81 a np_ n100_).trans (hF a np_ n88_ n89_ n90_ n91_ n92_ n100_))))
        rw [show ((t + 1 : Nat) : Int) + 1 = (t : Int) + 1 + 1 by omega, show sI (fun j => bz (Cop (wyU n us R (j + 1)) f_b)) (t + 1) = sI (fun j => bz (Cop (wyU n us R (j + 1)) f_b)) t from (congrArg (fun v => sI (fun j => bz (Cop (wyU n us R (j + 1)) f_b)) t + v) (show bz (Cop (wyU n us R (t + 1)) f_b) = 0 from h20)).trans (by omega)] at q8
        exact q8
      · refine w_inc [(1, 92), (1, a), (1, b), (0, ((sI (fun j => bz (Cop (wyU n us R (j + 1)) f_b)) t) + 1)), (0, ((t : Int) + 1))] hK rfl rfl rfl (by omega) (by omega) rfl ?_
        refine w_inc [(1, 92), (1, a), (1, b), (0, ((sI (fun j => bz (Cop (wyU n us R (j + 1)) f_b)) t) + 1)), (0, (((t : Int) + 1) + 1))] hK rfl rfl rfl (by omega) (by omega) rfl ?_
        refine w_goto hK rfl ?_
        have q8 := ih8 _ (by omega) (t + 1) _ V82 rfl (by omega) C82 ((F82 102 (by omega) (by omega) (by omega) (by omega)).trans fw81) (fun r hr => (congrFun (S82 100 (notP rfl)) _).trans (fD81 r hr)) (fun r hr => ((F82 (104 + 2 * (r : Int)) (by omega) (by omega) (by omega) (by omega)).trans (F81 (104 + 2 * (r : Int)) (by omega))).trans (hB r hr)) ((congrFun (S82 92 (notP rfl)) 10).trans ((congrFun (S81 92 (notP rfl) (by decide)) 10).trans r0_)) ((congrFun (S82 92 (notP rfl)) 11).trans ((congrFun (S81 92 (notP rfl) (by decide)) 11).trans r1_)) (fun p np8_ npL_ npr_ => ((F82 p (by omega) (by omega) (by omega) (by omega)).trans ((F81 p (by omega)).trans (hP p np8_ npL_ npr_)))) (fun a np_ n88_ n89_ n90_ n91_ n92_ n100_ => ((S82 a np_).trans ((S81 a np_ n100_).trans (hF a np_ n88_ n89_ n90_ n91_ n92_ n100_))))
        rw [show ((t + 1 : Nat) : Int) + 1 = (t : Int) + 1 + 1 by omega, show sI (fun j => bz (Cop (wyU n us R (j + 1)) f_b)) (t + 1) = sI (fun j => bz (Cop (wyU n us R (j + 1)) f_b)) t + 1 from (congrArg (fun v => sI (fun j => bz (Cop (wyU n us R (j + 1)) f_b)) t + v) (show bz (Cop (wyU n us R (t + 1)) f_b) = 1 from ((bz_01 _).resolve_left h20)))] at q8
        exact q8
  have q8 := lp8 _ 0 _ V80 rfl (by omega) C80 (hw0.trans (congrArg some wyU_0.symm)) (fun r hr => by rw [(hG.2.2 r hr).2.1, dgn_0]; rfl) (fun r hr => (hG.2.2 r hr).1) hG.1.2.1 hG.1.2.2 (fun p np8_ npL_ npr_ => (hP0 p np8_ npL_)) (fun a np_ n88_ n89_ n90_ n91_ n92_ n100_ => (hF0 a np_ n88_ n89_ n90_ n91_ n92_ n100_))
  rw [show (((0 : Nat) : Int) + 1) = 1 from rfl, show sI (fun j => bz (Cop (wyU n us R (j + 1)) f_b)) 0 = 0 from rfl] at q8
  exact q8
