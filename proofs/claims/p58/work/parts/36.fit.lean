/-! contracts: what fits couples -/
/-- what fits so far, what is 0 so far -/
def fitS {k : Nat} (pt wt : Int → Int) : Nat → Pl k × Pl k
  | 0 => (pz, one)
  | n + 1 => (adp (fitS pt wt n).1 (scl (ml (ad (el k (wt (n : Int)).toNat) (ng (vl (fitS (k := k) pt wt n).1 (el k (pt (n : Int)).toNat)))) (iv (vl (fitS (k := k) pt wt n).2 (el k (pt (n : Int)).toNat)))) (fitS pt wt n).2), vna (fitS pt wt n).2 (el k (pt (n : Int)).toNat))
/-- nothing hinders couple n -/
def fitOk (k : Nat) (pt wt : Int → Int) (n : Nat) : Prop := vl (fitS (k := k) pt wt n).2 (el k (pt (n : Int)).toNat) = z0 → ad (el k (wt (n : Int)).toNat) (ng (vl (fitS (k := k) pt wt n).1 (el k (pt (n : Int)).toNat))) = z0
theorem fitS_dg {k : Nat} (pt wt : Int → Int) : ∀ n : Nat, (∃ d : Nat, d ≤ n ∧ IsDg (fitS (k := k) pt wt n).2 (d : Int)) ∧ Bd (fitS (k := k) pt wt n).1 (n + 1)
  | 0 => ⟨⟨0, by omega, one_dg⟩, fun _ _ => rfl⟩
  | n + 1 => by
    obtain ⟨⟨d, h1, h2⟩, h3⟩ := fitS_dg (k := k) pt wt n
    refine ⟨?_, fun i hi => ?_⟩
    · show ∃ d : Nat, d ≤ n + 1 ∧ IsDg (vna (fitS (k := k) pt wt n).2 _) (d : Int)
      unfold vna
      split
      · exact ⟨d, by omega, h2⟩
      · exact ⟨1 + d, by omega, (IsDg_mlp (lin_is _) h2).1⟩
    · show ad ((fitS (k := k) pt wt n).1 i) (ml _ ((fitS (k := k) pt wt n).2 i)) = z0
      rw [h3 i (by omega), h2.2.1 i (by omega), ml_zero, ad_zero]
set_option maxRecDepth 100000 in
theorem c_fit {d : Nat} {M : Mem} {k : Nat} {P : Int → Option (Pl k)} (C : CS M k P) {o : Int} (ho : isP o) (o45 : 51 ≤ o) {c : Nat} (hc : c ≤ 6) (h4 : M 140 4 = (c : Int)) {pt wt : Int → Int} (hp : M 142 = pt) (hw : M 143 = wt) (hN1 : Nq (qq k : Int) pt c) (hN2 : Nq (qq k : Int) wt c) : Ct 198 (d + 5) 64 [(1, 45), (1, 140), (1, o)] M (fun r_ M' => ∃ P' : Int → Option (Pl k), r_ = (0, bz (∀ i : Nat, i < c → fitOk k pt wt i)) ∧ CS M' k P' ∧ (∀ a : Int, (∀ p : Int, isP p → a ≠ p ∧ a ≠ p + 1) → M' a = M a) ∧ (∀ p : Int, p ≠ 8 → p ≠ 46 → p ≠ 48 → p ≠ 50 → p ≠ o → P' p = P p) ∧ ((∀ i : Nat, i < c → fitOk k pt wt i) → P' o = some (fitS pt wt c).1)) := by
  have hK : cd 64 = k64 := rfl
  have q1_ := qq_I k
  show Wp 198 _ 64 0 [(1, 45), (1, 140), (1, o), (3, 0), (3, 0), (3, 0), (3, 0)] [] M _
  refine w_al hK rfl rfl ?_
  refine w_call [(1, o)] hK rfl rfl rfl rfl (Or.inr ⟨_, _, _, rfl, ho.nn, ho.lb, ho.o⟩) (c_clear C ho) ?_
  rintro _ V12 ⟨rfl, C12, S12⟩
  refine ⟨by decide, (?_ : Wp 198 _ 64 2 [(1, 45), (1, 140), (1, o), (3, 0), (3, 0), (3, 0), (3, 0)] [] V12 _)⟩
  refine w_al hK rfl rfl ?_
  refine w_getr (n := 3) (v := 48) hK rfl rfl (by decide) (by decide) rfl rfl rfl rfl ?_
  refine w_ic hK rfl ?_
  refine w_call [(1, 48), (0, 1)] hK rfl rfl rfl rfl (Or.inr ⟨_, _, _, rfl, (isP_of (p := 48) rfl).nn, (isP_of (p := 48) rfl).lb, (isP_of (p := 48) rfl).o⟩) (Ct.cv (c_bec C12 (isP_of (p := 48) rfl) e1) (by simp only [el1]; try rfl)) ?_
  rintro _ V13 ⟨rfl, C13, S13⟩
  refine ⟨by decide, (?_ : Wp 198 _ 64 6 [(1, 45), (1, 140), (1, o), (3, 0), (3, 0), (3, 0), (3, 0)] [] V13 _)⟩
  refine w_ic hK rfl ?_
  refine w_is [(1, 45), (1, 140), (1, o), (0, 0), (3, 0), (3, 0), (3, 0)] hK rfl rfl rfl ?_
  have lp8 : ∀ (n_ : Nat) (j : Nat) (P1 : Int → Option (Pl k)) (w4 w5 w6 : AV) (N8 : Mem), 7 - j = n_ → (j ≤ c) → (CS N8 k P1) → ((∀ p : Int, p ≠ 8 → p ≠ 46 → p ≠ 48 → p ≠ 50 → p ≠ o → P1 p = P p)) → (P1 o = some (fitS pt wt j).1) → (P1 48 = some (fitS pt wt j).2) → ((∀ a : Int, (∀ p : Int, isP p → a ≠ p ∧ a ≠ p + 1) → N8 a = M a)) → (∀ i : Nat, i < j → fitOk k pt wt i) → Wp 198 (d + 5) 64 8 [(1, 45), (1, 140), (1, o), (0, (j : Int)), w4, w5, w6] [] N8 (fun r_ M' => ∃ P' : Int → Option (Pl k), r_ = (0, bz (∀ i : Nat, i < c → fitOk k pt wt i)) ∧ CS M' k P' ∧ (∀ a : Int, (∀ p : Int, isP p → a ≠ p ∧ a ≠ p + 1) → M' a = M a) ∧ (∀ p : Int, p ≠ 8 → p ≠ 46 → p ≠ 48 → p ≠ 50 → p ≠ o → P' p = P p) ∧ ((∀ i : Nat, i < c → fitOk k pt wt i) → P' o = some (fitS pt wt c).1)) := by
    intro n_
    induction n_ using Nat.strongRecOn with
    | _ n_ ih8 =>
    intro j P1 w4 w5 w6 N8 hm8 hj hC hF hfo hfv hS hok
    obtain ⟨⟨d_, hd1, hd2⟩, hd3⟩ := fitS_dg (k := k) pt wt j
    have hb_ := hC.bd ⟨isP_of (p := 48) rfl, hfv⟩
    have hd4 := dg_eq (hb_.mono (by decide)) hd2
    refine w_il hK rfl rfl ?_
    refine w_al hK rfl rfl ?_
    refine w_geti (n := 4) (m := 4) hK rfl rfl (by decide) (by decide) rfl rfl rfl rfl ?_
    rw [show N8 140 4 = (c : Int) from ((congrFun (hS 140 (notP rfl)) 4).trans h4)]
    refine w_ge2 hK rfl (by omega) (by omega) (by omega) (by omega) (fun h11 => ?_) (fun h11 => ?_)
    · refine w_ic hK rfl ?_
      refine w_zret hK rfl rfl (Or.inr rfl) ?_
      have ec_ : j = c := by omega
      subst ec_
      exact ⟨P1, by rw [bz_pos hok], hC, (fun a np_ => (hS a np_)), (fun p pn8_ pn46_ pn48_ pn50_ pno_ => (hF p pn8_ pn46_ pn48_ pn50_ pno_)), fun _ => hfo⟩
    · have pj_ := hN1 j (by omega)
      have wj_ := hN2 j (by omega)
      refine w_al hK rfl rfl ?_
      refine w_il hK rfl rfl ?_
      refine w_call [(1, 140), (0, (j : Int))] hK rfl rfl rfl rfl (Or.inr ⟨_, _, _, rfl, by decide, (by decide), rfl⟩) (c_ptAt (j : Int) (by omega) (by omega) ((hS 142 (notP rfl)).trans hp)) ?_
      rintro _ Mq ⟨rfl, e_⟩
      subst Mq
      refine ⟨by show (0 : Nat) ≠ 9; decide, (?_ : Wp 198 _ 64 15 [(1, 45), (1, 140), (1, o), (0, (j : Int)), w4, w5, w6] [(0, (pt (j : Int)))] N8 _)⟩
      refine w_is [(1, 45), (1, 140), (1, o), (0, (j : Int)), (0, (pt (j : Int))), w5, w6] hK rfl rfl rfl ?_
      refine w_al hK rfl rfl ?_
      refine w_getr (n := 0) (v := 1) hK rfl rfl (by decide) (by decide) rfl rfl rfl rfl ?_
      refine w_al hK rfl rfl ?_
      refine w_il hK rfl rfl ?_
      refine w_call [(1, 140), (0, (j : Int))] hK rfl rfl rfl rfl (Or.inr ⟨_, _, _, rfl, by decide, (by decide), rfl⟩) (c_vlAt (j : Int) (by omega) (by omega) ((hS 143 (notP rfl)).trans hw)) ?_
      rintro _ Mq ⟨rfl, e_⟩
      subst Mq
      refine ⟨by show (0 : Nat) ≠ 9; decide, (?_ : Wp 198 _ 64 21 [(1, 45), (1, 140), (1, o), (0, (j : Int)), (0, (pt (j : Int))), w5, w6] [(0, (wt (j : Int))), (1, 1)] N8 _)⟩
      refine w_al hK rfl rfl ?_
      refine w_al hK rfl rfl ?_
      refine w_il hK rfl rfl ?_
      refine w_call [(1, 45), (1, o), (0, (pt (j : Int)))] hK rfl rfl rfl rfl (Or.inr ⟨_, _, _, rfl, by decide, (by decide), rfl⟩) (Ct.cv (c_val hC ⟨ho, hfo⟩ (el k ((pt (j : Int))).toNat)) (by simp only [(elI (k := k) (c := (pt (j : Int))) (by omega) (by omega))]; try rfl)) ?_
      rintro _ Mq ⟨rfl, e_⟩
      subst Mq
      have bv_ := el_I (vl ((fitS pt wt j).1) (el k ((pt (j : Int))).toNat))
      refine ⟨by show (0 : Nat) ≠ 9; decide, (?_ : Wp 198 _ 64 25 [(1, 45), (1, 140), (1, o), (0, (j : Int)), (0, (pt (j : Int))), w5, w6] [(0, ((vl ((fitS pt wt j).1) (el k ((pt (j : Int))).toNat)).val : Int)), (0, (wt (j : Int))), (1, 1)] N8 _)⟩
      refine w_call [(1, 1), (0, (wt (j : Int))), (0, ((vl ((fitS pt wt j).1) (el k ((pt (j : Int))).toNat)).val : Int))] hK rfl rfl rfl rfl (Or.inr ⟨_, _, _, rfl, by decide, (by decide), rfl⟩) (Ct.cv (c_diff (by decide) hC.F (el k ((wt (j : Int))).toNat) (vl ((fitS pt wt j).1) (el k ((pt (j : Int))).toNat)) ) (by simp only [(elI (k := k) (c := (wt (j : Int))) (by omega) (by omega))]; try rfl)) ?_
      rintro _ Mq ⟨rfl, e_⟩
      subst Mq
      have bv_ := el_I (ad (el k ((wt (j : Int))).toNat) (ng (vl ((fitS pt wt j).1) (el k ((pt (j : Int))).toNat))))
      refine ⟨by show (0 : Nat) ≠ 9; decide, (?_ : Wp 198 _ 64 26 [(1, 45), (1, 140), (1, o), (0, (j : Int)), (0, (pt (j : Int))), w5, w6] [(0, ((ad (el k ((wt (j : Int))).toNat) (ng (vl ((fitS pt wt j).1) (el k ((pt (j : Int))).toNat)))).val : Int))] N8 _)⟩
      refine w_is [(1, 45), (1, 140), (1, o), (0, (j : Int)), (0, (pt (j : Int))), (0, ((ad (el k ((wt (j : Int))).toNat) (ng (vl ((fitS pt wt j).1) (el k ((pt (j : Int))).toNat)))).val : Int)), w6] hK rfl rfl rfl ?_
      refine w_al hK rfl rfl ?_
      refine w_al hK rfl rfl ?_
      refine w_getr (n := 3) (v := 48) hK rfl rfl (by decide) (by decide) rfl rfl rfl rfl ?_
      refine w_il hK rfl rfl ?_
      refine w_call [(1, 45), (1, 48), (0, (pt (j : Int)))] hK rfl rfl rfl rfl (Or.inr ⟨_, _, _, rfl, by decide, (by decide), rfl⟩) (Ct.cv (c_val hC ⟨(isP_of (p := 48) rfl), hfv⟩ (el k ((pt (j : Int))).toNat)) (by simp only [(elI (k := k) (c := (pt (j : Int))) (by omega) (by omega))]; try rfl)) ?_
      rintro _ Mq ⟨rfl, e_⟩
      subst Mq
      have bv_ := el_I (vl ((fitS pt wt j).2) (el k ((pt (j : Int))).toNat))
      refine ⟨by show (0 : Nat) ≠ 9; decide, (?_ : Wp 198 _ 64 32 [(1, 45), (1, 140), (1, o), (0, (j : Int)), (0, (pt (j : Int))), (0, ((ad (el k ((wt (j : Int))).toNat) (ng (vl ((fitS pt wt j).1) (el k ((pt (j : Int))).toNat)))).val : Int)), w6] [(0, ((vl ((fitS pt wt j).2) (el k ((pt (j : Int))).toNat)).val : Int))] N8 _)⟩
      refine w_is [(1, 45), (1, 140), (1, o), (0, (j : Int)), (0, (pt (j : Int))), (0, ((ad (el k ((wt (j : Int))).toNat) (ng (vl ((fitS pt wt j).1) (el k ((pt (j : Int))).toNat)))).val : Int)), (0, ((vl ((fitS pt wt j).2) (el k ((pt (j : Int))).toNat)).val : Int))] hK rfl rfl rfl ?_
      have ev_ := el_I (vl (fitS pt wt j).2 (el k (pt (j : Int)).toNat))
      have el_ := el_I (ad (el k (wt (j : Int)).toNat) (ng (vl (fitS pt wt j).1 (el k (pt (j : Int)).toNat))))
      refine w_il hK rfl rfl ?_
      refine w_ne hK rfl (by omega) (by omega) (fun h34 => ?_) (fun h34 => ?_)
      · have okj_ : fitOk k pt wt j := fun q => absurd q (fun q2 => by have e := z0_iff.mp q2; omega)
        refine w_al hK rfl rfl ?_
        refine w_getr (n := 1) (v := 7) hK rfl rfl (by decide) (by decide) rfl rfl rfl rfl ?_
        refine w_al hK rfl rfl ?_
        refine w_getr (n := 0) (v := 1) hK rfl rfl (by decide) (by decide) rfl rfl rfl rfl ?_
        refine w_il hK rfl rfl ?_
        refine w_il hK rfl rfl ?_
        refine w_call [(1, 1), (0, ((ad (el k ((wt (j : Int))).toNat) (ng (vl ((fitS pt wt j).1) (el k ((pt (j : Int))).toNat)))).val : Int)), (0, ((vl ((fitS pt wt j).2) (el k ((pt (j : Int))).toNat)).val : Int))] hK rfl rfl rfl rfl (Or.inr ⟨_, _, _, rfl, by decide, (by decide), rfl⟩) (c_ratio (by decide) hC.F (ad (el k ((wt (j : Int))).toNat) (ng (vl ((fitS pt wt j).1) (el k ((pt (j : Int))).toNat)))) (vl ((fitS pt wt j).2) (el k ((pt (j : Int))).toNat)) ) ?_
        rintro _ Mq ⟨rfl, e_⟩
        subst Mq
        have bv_ := el_I (ml (ad (el k ((wt (j : Int))).toNat) (ng (vl ((fitS pt wt j).1) (el k ((pt (j : Int))).toNat)))) (iv (vl ((fitS pt wt j).2) (el k ((pt (j : Int))).toNat))))
        refine ⟨by show (0 : Nat) ≠ 9; decide, (?_ : Wp 198 _ 64 46 [(1, 45), (1, 140), (1, o), (0, (j : Int)), (0, (pt (j : Int))), (0, ((ad (el k ((wt (j : Int))).toNat) (ng (vl ((fitS pt wt j).1) (el k ((pt (j : Int))).toNat)))).val : Int)), (0, ((vl ((fitS pt wt j).2) (el k ((pt (j : Int))).toNat)).val : Int))] [(0, ((ml (ad (el k ((wt (j : Int))).toNat) (ng (vl ((fitS pt wt j).1) (el k ((pt (j : Int))).toNat)))) (iv (vl ((fitS pt wt j).2) (el k ((pt (j : Int))).toNat)))).val : Int)), (1, 7)] N8 _)⟩
        refine w_al hK rfl rfl ?_
        refine w_getr (n := 3) (v := 48) hK rfl rfl (by decide) (by decide) rfl rfl rfl rfl ?_
        refine w_al hK rfl rfl ?_
        refine w_getr (n := 4) (v := 50) hK rfl rfl (by decide) (by decide) rfl rfl rfl rfl ?_
        refine w_call [(1, 7), (0, ((ml (ad (el k ((wt (j : Int))).toNat) (ng (vl ((fitS pt wt j).1) (el k ((pt (j : Int))).toNat)))) (iv (vl ((fitS pt wt j).2) (el k ((pt (j : Int))).toNat)))).val : Int)), (1, 48), (1, 50)] hK rfl rfl rfl rfl (Or.inr ⟨_, _, _, rfl, by decide, (by decide), rfl⟩) (c_rscl hC (ml (ad (el k ((wt (j : Int))).toNat) (ng (vl ((fitS pt wt j).1) (el k ((pt (j : Int))).toNat)))) (iv (vl ((fitS pt wt j).2) (el k ((pt (j : Int))).toNat)))) ⟨(isP_of (p := 48) rfl), hfv⟩ (isP_of (p := 50) rfl)) ?_
        rintro _ V14 ⟨rfl, C14, S14⟩
        refine ⟨by decide, (?_ : Wp 198 _ 64 51 [(1, 45), (1, 140), (1, o), (0, (j : Int)), (0, (pt (j : Int))), (0, ((ad (el k ((wt (j : Int))).toNat) (ng (vl ((fitS pt wt j).1) (el k ((pt (j : Int))).toNat)))).val : Int)), (0, ((vl ((fitS pt wt j).2) (el k ((pt (j : Int))).toNat)).val : Int))] [] V14 _)⟩
        refine w_al hK rfl rfl ?_
        refine w_getr (n := 1) (v := 7) hK rfl rfl (by decide) (by decide) rfl rfl rfl rfl ?_
        refine w_al hK rfl rfl ?_
        refine w_al hK rfl rfl ?_
        refine w_getr (n := 4) (v := 50) hK rfl rfl (by decide) (by decide) rfl rfl rfl rfl ?_
        refine w_al hK rfl rfl ?_
        refine w_call [(1, 7), (1, o), (1, 50), (1, o)] hK rfl rfl rfl rfl (Or.inr ⟨_, _, _, rfl, by decide, (by decide), rfl⟩) (c_rsum C14 ⟨ho, ((pu_ne (P := P1) (f := scl (ml (ad (el k ((wt (j : Int))).toNat) (ng (vl ((fitS pt wt j).1) (el k ((pt (j : Int))).toNat)))) (iv (vl ((fitS pt wt j).2) (el k ((pt (j : Int))).toNat)))) ((fitS pt wt j).2)) (show o ≠ 50 by omega)).trans hfo)⟩ ⟨(isP_of (p := 50) rfl), pu_eq⟩ ho) ?_
        rintro _ V15 ⟨rfl, C15, S15⟩
        refine ⟨by decide, (?_ : Wp 198 _ 64 58 [(1, 45), (1, 140), (1, o), (0, (j : Int)), (0, (pt (j : Int))), (0, ((ad (el k ((wt (j : Int))).toNat) (ng (vl ((fitS pt wt j).1) (el k ((pt (j : Int))).toNat)))).val : Int)), (0, ((vl ((fitS pt wt j).2) (el k ((pt (j : Int))).toNat)).val : Int))] [] V15 _)⟩
        refine w_al hK rfl rfl ?_
        refine w_al hK rfl rfl ?_
        refine w_getr (n := 3) (v := 48) hK rfl rfl (by decide) (by decide) rfl rfl rfl rfl ?_
        refine w_il hK rfl rfl ?_
        refine w_call [(1, 45), (1, 48), (0, (pt (j : Int)))] hK rfl rfl rfl rfl (Or.inr ⟨_, _, _, rfl, by decide, (by decide), rfl⟩) (Ct.cv (c_vna C15 ⟨(isP_of (p := 48) rfl), ((pu_ne (P := pu P1 50 (scl (ml (ad (el k ((wt (j : Int))).toNat) (ng (vl ((fitS pt wt j).1) (el k ((pt (j : Int))).toNat)))) (iv (vl ((fitS pt wt j).2) (el k ((pt (j : Int))).toNat)))) ((fitS pt wt j).2))) (f := adp ((fitS pt wt j).1) (scl (ml (ad (el k ((wt (j : Int))).toNat) (ng (vl ((fitS pt wt j).1) (el k ((pt (j : Int))).toNat)))) (iv (vl ((fitS pt wt j).2) (el k ((pt (j : Int))).toNat)))) ((fitS pt wt j).2))) (show 48 ≠ o by omega)).trans ((pu_ne (P := P1) (f := scl (ml (ad (el k ((wt (j : Int))).toNat) (ng (vl ((fitS pt wt j).1) (el k ((pt (j : Int))).toNat)))) (iv (vl ((fitS pt wt j).2) (el k ((pt (j : Int))).toNat)))) ((fitS pt wt j).2)) (show 48 ≠ 50 by omega)).trans hfv))⟩ (by omega) (by omega) (el k ((pt (j : Int))).toNat) (by omega)) (by simp only [(elI (k := k) (c := (pt (j : Int))) (by omega) (by omega))]; try rfl)) ?_
        rintro _ V16 ⟨P16, rfl, C16, S16, F16, f16_0⟩
        refine ⟨by show (0 : Nat) ≠ 9; decide, (?_ : Wp 198 _ 64 63 [(1, 45), (1, 140), (1, o), (0, (j : Int)), (0, (pt (j : Int))), (0, ((ad (el k ((wt (j : Int))).toNat) (ng (vl ((fitS pt wt j).1) (el k ((pt (j : Int))).toNat)))).val : Int)), (0, ((vl ((fitS pt wt j).2) (el k ((pt (j : Int))).toNat)).val : Int))] [(0, (if vl ((fitS pt wt j).2) (el k ((pt (j : Int))).toNat) = z0 then 0 else 1))] V16 _)⟩
        refine w_pop hK rfl rfl ?_
        refine w_inc [(1, 45), (1, 140), (1, o), (0, ((j : Int) + 1)), (0, (pt (j : Int))), (0, ((ad (el k ((wt (j : Int))).toNat) (ng (vl ((fitS pt wt j).1) (el k ((pt (j : Int))).toNat)))).val : Int)), (0, ((vl ((fitS pt wt j).2) (el k ((pt (j : Int))).toNat)).val : Int))] hK rfl rfl rfl (by omega) (by omega) rfl ?_
        refine w_goto hK rfl ?_
        exact ih8 _ (by omega) (j + 1) _ (0, (pt (j : Int))) (0, ((ad (el k ((wt (j : Int))).toNat) (ng (vl ((fitS pt wt j).1) (el k ((pt (j : Int))).toNat)))).val : Int)) (0, ((vl ((fitS pt wt j).2) (el k ((pt (j : Int))).toNat)).val : Int)) V16 rfl (by omega) C16 (fun p pn8_ pn46_ pn48_ pn50_ pno_ => ((F16 p pn8_ pn46_ pn48_).trans ((pu_ne (P := pu P1 50 (scl (ml (ad (el k ((wt (j : Int))).toNat) (ng (vl ((fitS pt wt j).1) (el k ((pt (j : Int))).toNat)))) (iv (vl ((fitS pt wt j).2) (el k ((pt (j : Int))).toNat)))) ((fitS pt wt j).2))) (f := adp ((fitS pt wt j).1) (scl (ml (ad (el k ((wt (j : Int))).toNat) (ng (vl ((fitS pt wt j).1) (el k ((pt (j : Int))).toNat)))) (iv (vl ((fitS pt wt j).2) (el k ((pt (j : Int))).toNat)))) ((fitS pt wt j).2))) (show p ≠ o by omega)).trans ((pu_ne (P := P1) (f := scl (ml (ad (el k ((wt (j : Int))).toNat) (ng (vl ((fitS pt wt j).1) (el k ((pt (j : Int))).toNat)))) (iv (vl ((fitS pt wt j).2) (el k ((pt (j : Int))).toNat)))) ((fitS pt wt j).2)) (show p ≠ 50 by omega)).trans (hF p pn8_ pn46_ pn48_ pn50_ pno_))))) ((F16 o (by omega) (by omega) (by omega)).trans pu_eq) f16_0 (fun a np_ => ((S16 a np_).trans ((S15 a np_).trans ((S14 a np_).trans (hS a np_))))) (fun i hi => by
          by_cases e : i = j
          · subst e; exact okj_
          · exact hok i (by omega))
      · refine w_il hK rfl rfl ?_
        refine w_eq hK rfl (by omega) (by omega) (fun h36 => ?_) (fun h36 => ?_)
        · have okj_ : fitOk k pt wt j := fun _ => z0_iff.mpr (by omega)
          refine w_al hK rfl rfl ?_
          refine w_getr (n := 1) (v := 7) hK rfl rfl (by decide) (by decide) rfl rfl rfl rfl ?_
          refine w_al hK rfl rfl ?_
          refine w_getr (n := 0) (v := 1) hK rfl rfl (by decide) (by decide) rfl rfl rfl rfl ?_
          refine w_il hK rfl rfl ?_
          refine w_il hK rfl rfl ?_
          refine w_call [(1, 1), (0, ((ad (el k ((wt (j : Int))).toNat) (ng (vl ((fitS pt wt j).1) (el k ((pt (j : Int))).toNat)))).val : Int)), (0, ((vl ((fitS pt wt j).2) (el k ((pt (j : Int))).toNat)).val : Int))] hK rfl rfl rfl rfl (Or.inr ⟨_, _, _, rfl, by decide, (by decide), rfl⟩) (c_ratio (by decide) hC.F (ad (el k ((wt (j : Int))).toNat) (ng (vl ((fitS pt wt j).1) (el k ((pt (j : Int))).toNat)))) (vl ((fitS pt wt j).2) (el k ((pt (j : Int))).toNat)) ) ?_
          rintro _ Mq ⟨rfl, e_⟩
          subst Mq
          have bv_ := el_I (ml (ad (el k ((wt (j : Int))).toNat) (ng (vl ((fitS pt wt j).1) (el k ((pt (j : Int))).toNat)))) (iv (vl ((fitS pt wt j).2) (el k ((pt (j : Int))).toNat))))
          refine ⟨by show (0 : Nat) ≠ 9; decide, (?_ : Wp 198 _ 64 46 [(1, 45), (1, 140), (1, o), (0, (j : Int)), (0, (pt (j : Int))), (0, ((ad (el k ((wt (j : Int))).toNat) (ng (vl ((fitS pt wt j).1) (el k ((pt (j : Int))).toNat)))).val : Int)), (0, ((vl ((fitS pt wt j).2) (el k ((pt (j : Int))).toNat)).val : Int))] [(0, ((ml (ad (el k ((wt (j : Int))).toNat) (ng (vl ((fitS pt wt j).1) (el k ((pt (j : Int))).toNat)))) (iv (vl ((fitS pt wt j).2) (el k ((pt (j : Int))).toNat)))).val : Int)), (1, 7)] N8 _)⟩
          refine w_al hK rfl rfl ?_
          refine w_getr (n := 3) (v := 48) hK rfl rfl (by decide) (by decide) rfl rfl rfl rfl ?_
          refine w_al hK rfl rfl ?_
          refine w_getr (n := 4) (v := 50) hK rfl rfl (by decide) (by decide) rfl rfl rfl rfl ?_
          refine w_call [(1, 7), (0, ((ml (ad (el k ((wt (j : Int))).toNat) (ng (vl ((fitS pt wt j).1) (el k ((pt (j : Int))).toNat)))) (iv (vl ((fitS pt wt j).2) (el k ((pt (j : Int))).toNat)))).val : Int)), (1, 48), (1, 50)] hK rfl rfl rfl rfl (Or.inr ⟨_, _, _, rfl, by decide, (by decide), rfl⟩) (c_rscl hC (ml (ad (el k ((wt (j : Int))).toNat) (ng (vl ((fitS pt wt j).1) (el k ((pt (j : Int))).toNat)))) (iv (vl ((fitS pt wt j).2) (el k ((pt (j : Int))).toNat)))) ⟨(isP_of (p := 48) rfl), hfv⟩ (isP_of (p := 50) rfl)) ?_
          rintro _ V17 ⟨rfl, C17, S17⟩
          refine ⟨by decide, (?_ : Wp 198 _ 64 51 [(1, 45), (1, 140), (1, o), (0, (j : Int)), (0, (pt (j : Int))), (0, ((ad (el k ((wt (j : Int))).toNat) (ng (vl ((fitS pt wt j).1) (el k ((pt (j : Int))).toNat)))).val : Int)), (0, ((vl ((fitS pt wt j).2) (el k ((pt (j : Int))).toNat)).val : Int))] [] V17 _)⟩
          refine w_al hK rfl rfl ?_
          refine w_getr (n := 1) (v := 7) hK rfl rfl (by decide) (by decide) rfl rfl rfl rfl ?_
          refine w_al hK rfl rfl ?_
          refine w_al hK rfl rfl ?_
          refine w_getr (n := 4) (v := 50) hK rfl rfl (by decide) (by decide) rfl rfl rfl rfl ?_
          refine w_al hK rfl rfl ?_
          refine w_call [(1, 7), (1, o), (1, 50), (1, o)] hK rfl rfl rfl rfl (Or.inr ⟨_, _, _, rfl, by decide, (by decide), rfl⟩) (c_rsum C17 ⟨ho, ((pu_ne (P := P1) (f := scl (ml (ad (el k ((wt (j : Int))).toNat) (ng (vl ((fitS pt wt j).1) (el k ((pt (j : Int))).toNat)))) (iv (vl ((fitS pt wt j).2) (el k ((pt (j : Int))).toNat)))) ((fitS pt wt j).2)) (show o ≠ 50 by omega)).trans hfo)⟩ ⟨(isP_of (p := 50) rfl), pu_eq⟩ ho) ?_
          rintro _ V18 ⟨rfl, C18, S18⟩
          refine ⟨by decide, (?_ : Wp 198 _ 64 58 [(1, 45), (1, 140), (1, o), (0, (j : Int)), (0, (pt (j : Int))), (0, ((ad (el k ((wt (j : Int))).toNat) (ng (vl ((fitS pt wt j).1) (el k ((pt (j : Int))).toNat)))).val : Int)), (0, ((vl ((fitS pt wt j).2) (el k ((pt (j : Int))).toNat)).val : Int))] [] V18 _)⟩
          refine w_al hK rfl rfl ?_
          refine w_al hK rfl rfl ?_
          refine w_getr (n := 3) (v := 48) hK rfl rfl (by decide) (by decide) rfl rfl rfl rfl ?_
          refine w_il hK rfl rfl ?_
          refine w_call [(1, 45), (1, 48), (0, (pt (j : Int)))] hK rfl rfl rfl rfl (Or.inr ⟨_, _, _, rfl, by decide, (by decide), rfl⟩) (Ct.cv (c_vna C18 ⟨(isP_of (p := 48) rfl), ((pu_ne (P := pu P1 50 (scl (ml (ad (el k ((wt (j : Int))).toNat) (ng (vl ((fitS pt wt j).1) (el k ((pt (j : Int))).toNat)))) (iv (vl ((fitS pt wt j).2) (el k ((pt (j : Int))).toNat)))) ((fitS pt wt j).2))) (f := adp ((fitS pt wt j).1) (scl (ml (ad (el k ((wt (j : Int))).toNat) (ng (vl ((fitS pt wt j).1) (el k ((pt (j : Int))).toNat)))) (iv (vl ((fitS pt wt j).2) (el k ((pt (j : Int))).toNat)))) ((fitS pt wt j).2))) (show 48 ≠ o by omega)).trans ((pu_ne (P := P1) (f := scl (ml (ad (el k ((wt (j : Int))).toNat) (ng (vl ((fitS pt wt j).1) (el k ((pt (j : Int))).toNat)))) (iv (vl ((fitS pt wt j).2) (el k ((pt (j : Int))).toNat)))) ((fitS pt wt j).2)) (show 48 ≠ 50 by omega)).trans hfv))⟩ (by omega) (by omega) (el k ((pt (j : Int))).toNat) (by omega)) (by simp only [(elI (k := k) (c := (pt (j : Int))) (by omega) (by omega))]; try rfl)) ?_
          rintro _ V19 ⟨P19, rfl, C19, S19, F19, f19_0⟩
          refine ⟨by show (0 : Nat) ≠ 9; decide, (?_ : Wp 198 _ 64 63 [(1, 45), (1, 140), (1, o), (0, (j : Int)), (0, (pt (j : Int))), (0, ((ad (el k ((wt (j : Int))).toNat) (ng (vl ((fitS pt wt j).1) (el k ((pt (j : Int))).toNat)))).val : Int)), (0, ((vl ((fitS pt wt j).2) (el k ((pt (j : Int))).toNat)).val : Int))] [(0, (if vl ((fitS pt wt j).2) (el k ((pt (j : Int))).toNat) = z0 then 0 else 1))] V19 _)⟩
          refine w_pop hK rfl rfl ?_
          refine w_inc [(1, 45), (1, 140), (1, o), (0, ((j : Int) + 1)), (0, (pt (j : Int))), (0, ((ad (el k ((wt (j : Int))).toNat) (ng (vl ((fitS pt wt j).1) (el k ((pt (j : Int))).toNat)))).val : Int)), (0, ((vl ((fitS pt wt j).2) (el k ((pt (j : Int))).toNat)).val : Int))] hK rfl rfl rfl (by omega) (by omega) rfl ?_
          refine w_goto hK rfl ?_
          exact ih8 _ (by omega) (j + 1) _ (0, (pt (j : Int))) (0, ((ad (el k ((wt (j : Int))).toNat) (ng (vl ((fitS pt wt j).1) (el k ((pt (j : Int))).toNat)))).val : Int)) (0, ((vl ((fitS pt wt j).2) (el k ((pt (j : Int))).toNat)).val : Int)) V19 rfl (by omega) C19 (fun p pn8_ pn46_ pn48_ pn50_ pno_ => ((F19 p pn8_ pn46_ pn48_).trans ((pu_ne (P := pu P1 50 (scl (ml (ad (el k ((wt (j : Int))).toNat) (ng (vl ((fitS pt wt j).1) (el k ((pt (j : Int))).toNat)))) (iv (vl ((fitS pt wt j).2) (el k ((pt (j : Int))).toNat)))) ((fitS pt wt j).2))) (f := adp ((fitS pt wt j).1) (scl (ml (ad (el k ((wt (j : Int))).toNat) (ng (vl ((fitS pt wt j).1) (el k ((pt (j : Int))).toNat)))) (iv (vl ((fitS pt wt j).2) (el k ((pt (j : Int))).toNat)))) ((fitS pt wt j).2))) (show p ≠ o by omega)).trans ((pu_ne (P := P1) (f := scl (ml (ad (el k ((wt (j : Int))).toNat) (ng (vl ((fitS pt wt j).1) (el k ((pt (j : Int))).toNat)))) (iv (vl ((fitS pt wt j).2) (el k ((pt (j : Int))).toNat)))) ((fitS pt wt j).2)) (show p ≠ 50 by omega)).trans (hF p pn8_ pn46_ pn48_ pn50_ pno_))))) ((F19 o (by omega) (by omega) (by omega)).trans pu_eq) f19_0 (fun a np_ => ((S19 a np_).trans ((S18 a np_).trans ((S17 a np_).trans (hS a np_))))) (fun i hi => by
            by_cases e : i = j
            · subst e; exact okj_
            · exact hok i (by omega))
        · refine w_ic hK rfl ?_
          refine w_zret hK rfl rfl (Or.inl rfl) ?_
          have no_ : ¬ ∀ i : Nat, i < c → fitOk k pt wt i := fun q => by
            have e := q j (by omega) (z0_iff.mpr (by omega))
            have e2 := z0_iff.mp e
            omega
          exact ⟨P1, by rw [bz_neg no_], hC, (fun a np_ => (hS a np_)), (fun p pn8_ pn46_ pn48_ pn50_ pno_ => (hF p pn8_ pn46_ pn48_ pn50_ pno_)), fun q => absurd q no_⟩
  exact lp8 _ 0 _ (3, 0) (3, 0) (3, 0) V13 rfl (by omega) C13 (fun p pn8_ pn46_ pn48_ pn50_ pno_ => ((pu_ne (P := pu P o pz) (f := cst e1) (show p ≠ 48 by omega)).trans (pu_ne (P := P) (f := pz) (show p ≠ o by omega)))) ((pu_ne (P := pu P o pz) (f := cst e1) (show o ≠ 48 by omega)).trans pu_eq) pu_eq (fun a np_ => ((S13 a np_).trans (S12 a np_))) (fun i hi => by omega)
