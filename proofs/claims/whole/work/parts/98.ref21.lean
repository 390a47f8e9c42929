/-! the reference: division of long ones, bound */ -/
theorem dg_lt33 {k : Nat} {f : Pl k} (h : Bd f 33) : -1 ≤ dg f ∧ dg f ≤ 32 := ⟨dg_ge f, by have := dg_lt h (by decide); omega⟩
/-- on the way of a long division -/
def DW {k : Nat} (x y : Pl k) (b : Nat) (q r : Pl k) (i : Int) : Prop := x = adp (prd 0 q y) r ∧ Bd q 33 ∧ (∀ j : Nat, (j : Int) ≤ i → q j = z0) ∧ ∀ j : Nat, i + b < (j : Int) → r j = z0
theorem DW.start {k : Nat} {x y : Pl k} {b : Nat} {i : Int} (h : ∀ j : Nat, i + b < (j : Int) → x j = z0) : DW x y b pz x i := ⟨by rw [prd_pz, pz_adp], fun _ _ => rfl, fun _ _ => rfl, h⟩
theorem DW.done {k : Nat} {x y : Pl k} {b : Nat} {q r : Pl k} {i : Int} (h : DW x y b q r i) (hi : i < 0) (hy : IsDg y (b : Int)) : IsDv 0 x y q r := ⟨⟨33, h.2.1⟩, h.1, b, hy, fun j hj => h.2.2.2 j (by omega)⟩
theorem DW.gen {k : Nat} {x y : Pl k} {b : Nat} {q r : Pl k} {i : Int} {c : El k} (h : DW x y b q r i) (h0 : 0 ≤ i) (h1 : i < 33) (hc : ∀ j : Nat, i + b ≤ (j : Int) → prd 0 (mono c i.toNat) y j = r j) : DW x y b (up1 q i.toNat c) (sbp r (prd 0 (mono c i.toNat) y)) (i - 1) := by
  have e : up1 q i.toNat c = adp q (mono c i.toNat) := up1_mono (h.2.2.1 _ (by omega)) c
  refine ⟨?_, up1_bd' h.2.1 (by omega) c, fun j hj => ?_, fun j hj => ?_⟩
  · rw [e, prd_adp, adp_assoc, adp_sbp]
    exact h.1
  · unfold up1
    rw [if_neg (by omega)]
    exact h.2.2.1 j (by omega)
  · show ad (r j) (ng (prd 0 (mono c i.toNat) y j)) = z0
    rw [hc j (by omega), ad_neg]
theorem DW.ahead {k : Nat} {x y : Pl k} {b : Nat} {q r : Pl k} {i : Int} (h : DW x y b q r i) (h0 : 0 ≤ i) (h1 : i < 33) (hy : IsDg y (b : Int)) {c : El k} (hc : c = ml (cf r (i + b)) (iv (sg i.toNat (y b)))) :
    DW x y b (up1 q i.toNat c) (sbp r (mlp (mono c i.toNat) y)) (i - 1) := by
  have hb : y b ≠ z0 := hy.2.2 (by omega)
  refine h.gen h0 h1 (c := c) fun j hj => ?_
  show mlp (mono c i.toNat) y j = r j
  rw [mono_mlp, if_pos (by omega)]
  by_cases e : (j : Int) = i + b
  · have e1 : j - i.toNat = b := by omega
    have e2 : r j = cf r (i + b) := by rw [cf_toNat (by omega), ← e]; rfl
    rw [e1, e2, hc, ml_assoc, ml_comm (iv _), ml_iv _ (sg_ne hb), ml_one]
  · rw [h.2.2.2 j (by omega), hy.2.1 _ (by omega), sg_z, ml_zero]
theorem DW.deg {k : Nat} {x y : Pl k} {b : Nat} {q r : Pl k} {i : Int} (h : DW x y b q r i) (hr : Bd r 64) (hi : -1 ≤ i + b) : dg r ≤ i + b ∧ DW x y b q r (dg r - b) := by
  have h1 : dg r ≤ i + b := dg_le_of hr hi h.2.2.2
  exact ⟨h1, h.1, h.2.1, fun j hj => h.2.2.1 j (by omega), fun j hj => dg_z hr (by omega)⟩
set_option maxRecDepth 100000 in
theorem r_divW {d : Nat} {M : Mem} {k : Nat} {R : Int → Option (Pl k)} (C : RS M k R) {x : Int} {f_x : Pl k} (hx : isK R x f_x) {y : Int} {f_y : Pl k} (hy : isK R y f_y) (hx_ : x < 170 ∨ 174 < x) (hy_ : y < 170 ∨ 174 < y) {b : Nat} (hyb : dg f_y = (b : Int)) (bx33 : Bd f_x 33) (by9 : Bd f_y 9) : Ct 198 (d + 2) 238 [(1, 161), (1, x), (1, y), (0, 0)] M (fun r_ M' => ∃ R' : Int → Option (Pl k), r_ = (4, 0) ∧ RS M' k R' ∧ (∀ a : Int, (∀ p : Int, isR p → a ≠ p) → M' a = M a) ∧ (∀ p : Int, p ≠ 170 → p ≠ 171 → p ≠ 172 → p ≠ 173 → p ≠ 174 → R' p = R p) ∧ R' 173 = some (dr 0 f_x f_y) ∧ R' 174 = some (dq 0 f_x f_y)) := by
  have hK : cd 238 = k238 := rfl
  have hyd_ : IsDg f_y (b : Int) := hyb ▸ dg_is (by9.mono (by decide))
  have bY_ := dg_lt9 by9
  have bX_ := dg_lt33 bx33
  show Wp 198 _ 238 0 [(1, 161), (1, x), (1, y), (0, 0), (3, 0), (3, 0), (3, 0)] [] M _
  refine w_al hK rfl rfl ?_
  refine w_al hK rfl rfl ?_
  refine w_getr (n := 19) (v := 173) hK rfl rfl (by decide) (by decide) rfl rfl rfl rfl ?_
  refine w_call [(1, x), (1, 173)] hK rfl rfl rfl rfl (Or.inl rfl) (r_copy C hx (isR_of (p := 173) rfl) (by omega)) ?_
  rintro _ V680 ⟨P680, rfl, C680, S680, F680, f680_0⟩
  refine ⟨by decide, (?_ : Wp 198 _ 238 4 [(1, 161), (1, x), (1, y), (0, 0), (3, 0), (3, 0), (3, 0)] [] V680 _)⟩
  refine w_al hK rfl rfl ?_
  refine w_getr (n := 20) (v := 174) hK rfl rfl (by decide) (by decide) rfl rfl rfl rfl ?_
  refine w_call [(1, 174)] hK rfl rfl rfl rfl (Or.inl rfl) (r_clear C680 (isR_of (p := 174) rfl)) ?_
  rintro _ V681 ⟨P681, rfl, C681, S681, F681, f681_0⟩
  refine ⟨by decide, (?_ : Wp 198 _ 238 7 [(1, 161), (1, x), (1, y), (0, 0), (3, 0), (3, 0), (3, 0)] [] V681 _)⟩
  refine w_al hK rfl rfl ?_
  have dI_ : -1 ≤ dg f_y ∧ dg f_y ≤ 47 := C681.dI ⟨hy.1, ((F681 y (by omega)).trans ((F680 y (by omega)).trans hy.2))⟩
  refine w_call [(1, y)] hK rfl rfl rfl rfl (Or.inl rfl) (r_deg C681 ⟨hy.1, ((F681 y (by omega)).trans ((F680 y (by omega)).trans hy.2))⟩) ?_
  rintro _ Mq ⟨rfl, e_⟩
  subst Mq
  refine ⟨by show (0 : Nat) ≠ 9; decide, (?_ : Wp 198 _ 238 9 [(1, 161), (1, x), (1, y), (0, 0), (3, 0), (3, 0), (3, 0)] [(0, (dg f_y))] V681 _)⟩
  rw [hyb]
  refine w_is [(1, 161), (1, x), (1, y), (0, 0), (0, (b : Int)), (3, 0), (3, 0)] hK rfl rfl rfl ?_
  refine w_al hK rfl rfl ?_
  refine w_getr (n := 19) (v := 173) hK rfl rfl (by decide) (by decide) rfl rfl rfl rfl ?_
  have dI_ : -1 ≤ dg f_x ∧ dg f_x ≤ 47 := C681.dI ⟨(isR_of (p := 173) rfl), ((F681 173 (by omega)).trans f680_0)⟩
  refine w_call [(1, 173)] hK rfl rfl rfl rfl (Or.inl rfl) (r_deg C681 ⟨(isR_of (p := 173) rfl), ((F681 173 (by omega)).trans f680_0)⟩) ?_
  rintro _ Mq ⟨rfl, e_⟩
  subst Mq
  refine ⟨by show (0 : Nat) ≠ 9; decide, (?_ : Wp 198 _ 238 13 [(1, 161), (1, x), (1, y), (0, 0), (0, (b : Int)), (3, 0), (3, 0)] [(0, (dg f_x))] V681 _)⟩
  refine w_is [(1, 161), (1, x), (1, y), (0, 0), (0, (b : Int)), (0, (dg f_x)), (3, 0)] hK rfl rfl rfl ?_
  have lp14 : ∀ (n_ : Nat) (q_ r_ : Pl k) (R1 : Int → Option (Pl k)) (w6 : AV) (N14 : Mem), (dg r_ + 1).toNat = n_ → (RS N14 k R1) → (R1 173 = some r_) → (R1 174 = some q_) → (DW f_x f_y b q_ r_ (dg r_ - (b : Int))) → (Bd r_ 33) → ((∀ p : Int, p ≠ 170 → p ≠ 171 → p ≠ 172 → p ≠ 173 → p ≠ 174 → R1 p = R p)) → ((∀ a : Int, (∀ p : Int, isR p → a ≠ p) → N14 a = M a)) → Wp 198 (d + 2) 238 14 [(1, 161), (1, x), (1, y), (0, 0), (0, (b : Int)), (0, (dg r_)), w6] [] N14 (fun r_ M' => ∃ R' : Int → Option (Pl k), r_ = (4, 0) ∧ RS M' k R' ∧ (∀ a : Int, (∀ p : Int, isR p → a ≠ p) → M' a = M a) ∧ (∀ p : Int, p ≠ 170 → p ≠ 171 → p ≠ 172 → p ≠ 173 → p ≠ 174 → R' p = R p) ∧ R' 173 = some (dr 0 f_x f_y) ∧ R' 174 = some (dq 0 f_x f_y)) := by
    intro n_
    induction n_ using Nat.strongRecOn with
    | _ n_ ih14 =>
    intro q_ r_ R1 w6 N14 hm14 hC hr hq hD hb hG hS
    have br_ := dg_lt33 hb
    refine w_il hK rfl rfl ?_
    refine w_il hK rfl rfl ?_
    refine w_lt2 hK rfl (by omega) (by omega) (by omega) (by omega) (fun h16 => ?_) (fun h16 => ?_)
    · refine w_ret hK rfl rfl ?_
      have dv_ := dv_eq (hD.done (by omega) hyd_)
      rw [← dv_.1] at hq
      rw [← dv_.2] at hr
      exact ⟨R1, rfl, hC, hS, hG, hr, hq⟩
    · refine w_il hK rfl rfl ?_
      refine w_ne hK rfl (by omega) (by omega) (fun h18 => ?_) (fun h18 => ?_)
      · exfalso; omega
      · refine w_al hK rfl rfl ?_
        refine w_al hK rfl rfl ?_
        refine w_getr (n := 19) (v := 173) hK rfl rfl (by decide) (by decide) rfl rfl rfl rfl ?_
        refine w_il hK rfl rfl ?_
        refine w_ia hK rfl rfl (by decide) (by decide) (by omega) (by omega) ?_
        rw [show N14 173 (dg r_) = ((cf r_ (dg r_)).val : Int) from hC.atI ⟨(isR_of (p := 173) rfl), hr⟩ (by omega) (by omega)]
        refine w_al hK rfl rfl ?_
        refine w_getr (n := 7) (v := 165) hK rfl rfl (by decide) (by decide) rfl rfl rfl rfl ?_
        refine w_al hK rfl rfl ?_
        refine w_al hK rfl rfl ?_
        refine w_il hK rfl rfl ?_
        refine w_ria hK rfl hy.1 (by omega) (by omega) ?_
        rw [show N14 y (b : Int) = ((f_y b).val : Int) from hC.atz ⟨hy.1, ((hG y (by omega) (by omega) (by omega) (by omega) (by omega)).trans hy.2)⟩ (j := b) (by omega) (by omega)]
        refine w_il hK rfl rfl ?_
        refine w_il hK rfl rfl ?_
        refine w_sub hK rfl (by omega) (by omega) ?_
        refine w_call [(1, 161), (0, ((f_y b).val : Int)), (0, ((dg r_) - (b : Int)))] hK rfl rfl rfl rfl (Or.inr ⟨_, _, _, rfl, by decide, (by decide), rfl⟩) (r_mapd hC.F (f_y b) ((dg r_) - (b : Int)) (by omega) (by omega)) ?_
        rintro _ Mq ⟨rfl, e_⟩
        subst Mq
        have bv_ := el_I (sgI ((dg r_) - (b : Int)) (f_y b))
        refine ⟨by show (0 : Nat) ≠ 9; decide, (?_ : Wp 198 _ 238 34 [(1, 161), (1, x), (1, y), (0, 0), (0, (b : Int)), (0, (dg r_)), w6] [(0, ((sgI ((dg r_) - (b : Int)) (f_y b)).val : Int)), (1, 165), (0, ((cf r_ (dg r_)).val : Int)), (1, 161)] N14 _)⟩
        have bl_ := el_I (sgI ((dg r_) - (b : Int)) (f_y b))
        refine w_ia hK rfl rfl (by decide) (by decide) (by omega) (by omega) ?_
        rw [show N14 165 ((sgI ((dg r_) - (b : Int)) (f_y b)).val : Int) = ((iv (sgI ((dg r_) - (b : Int)) (f_y b))).val : Int) from hC.F.v (sgI ((dg r_) - (b : Int)) (f_y b))]
        refine w_call [(1, 161), (0, ((cf r_ (dg r_)).val : Int)), (0, ((iv (sgI ((dg r_) - (b : Int)) (f_y b))).val : Int))] hK rfl rfl rfl rfl (Or.inr ⟨_, _, _, rfl, by decide, (by decide), rfl⟩) (r_mul hC.F (cf r_ (dg r_)) (iv (sgI ((dg r_) - (b : Int)) (f_y b)))) ?_
        rintro _ Mq ⟨rfl, e_⟩
        subst Mq
        have bv_ := el_I (ml (cf r_ (dg r_)) (iv (sgI ((dg r_) - (b : Int)) (f_y b))))
        refine ⟨by show (0 : Nat) ≠ 9; decide, (?_ : Wp 198 _ 238 36 [(1, 161), (1, x), (1, y), (0, 0), (0, (b : Int)), (0, (dg r_)), w6] [(0, ((ml (cf r_ (dg r_)) (iv (sgI ((dg r_) - (b : Int)) (f_y b)))).val : Int))] N14 _)⟩
        refine w_goto hK rfl ?_
        refine w_is [(1, 161), (1, x), (1, y), (0, 0), (0, (b : Int)), (0, (dg r_)), (0, ((ml (cf r_ (dg r_)) (iv (sgI ((dg r_) - (b : Int)) (f_y b)))).val : Int))] hK rfl rfl rfl ?_
        refine w_al hK rfl rfl ?_
        refine w_getr (n := 20) (v := 174) hK rfl rfl (by decide) (by decide) rfl rfl rfl rfl ?_
        refine w_il hK rfl rfl ?_
        refine w_il hK rfl rfl ?_
        refine w_sub hK rfl (by omega) (by omega) ?_
        refine w_il hK rfl rfl ?_
        refine w_iat hK rfl rfl (by decide) (by decide) (by omega) (by omega) ?_
        refine w_al hK rfl rfl ?_
        refine w_getr (n := 17) (v := 171) hK rfl rfl (by decide) (by decide) rfl rfl rfl rfl ?_
        refine w_call [(1, 171)] hK rfl rfl rfl rfl (Or.inl rfl) (r_clear (RS.up hC ⟨(isR_of (p := 174) rfl), hq⟩ (j := (((dg r_) - (b : Int)).toNat)) (by omega) (by omega) (e := (ml (cf r_ (dg r_)) (iv (sgI ((dg r_) - (b : Int)) (f_y b))))) rfl) (isR_of (p := 171) rfl)) ?_
        rintro _ V682 ⟨P682, rfl, C682, S682, F682, f682_0⟩
        refine ⟨by decide, (?_ : Wp 198 _ 238 64 [(1, 161), (1, x), (1, y), (0, 0), (0, (b : Int)), (0, (dg r_)), (0, ((ml (cf r_ (dg r_)) (iv (sgI ((dg r_) - (b : Int)) (f_y b)))).val : Int))] [] V682 _)⟩
        refine w_al hK rfl rfl ?_
        refine w_getr (n := 17) (v := 171) hK rfl rfl (by decide) (by decide) rfl rfl rfl rfl ?_
        refine w_il hK rfl rfl ?_
        refine w_il hK rfl rfl ?_
        refine w_sub hK rfl (by omega) (by omega) ?_
        refine w_il hK rfl rfl ?_
        refine w_iat hK rfl rfl (by decide) (by decide) (by omega) (by omega) ?_
        have mo_ : dg (up1 pz ((dg r_) - (b : Int)).toNat (ml (cf r_ (dg r_)) (iv (sgI ((dg r_) - (b : Int)) (f_y b))))) ≤ ((((dg r_) - (b : Int)).toNat : Nat) : Int) := mono_le (ml (cf r_ (dg r_)) (iv (sgI ((dg r_) - (b : Int)) (f_y b)))) (j := ((dg r_) - (b : Int)).toNat) (by omega)
        refine w_il hK rfl rfl ?_
        refine w_ne hK rfl (by omega) (by omega) (fun h72 => ?_) (fun h72 => ?_)
        · exfalso; omega
        · refine w_al hK rfl rfl ?_
          refine w_al hK rfl rfl ?_
          refine w_getr (n := 17) (v := 171) hK rfl rfl (by decide) (by decide) rfl rfl rfl rfl ?_
          refine w_al hK rfl rfl ?_
          refine w_al hK rfl rfl ?_
          refine w_getr (n := 18) (v := 172) hK rfl rfl (by decide) (by decide) rfl rfl rfl rfl ?_
          refine w_call [(1, 161), (1, 171), (1, y), (1, 172)] hK rfl rfl rfl rfl (Or.inr ⟨_, _, _, rfl, by decide, (by decide), rfl⟩) (r_prod (RS.up C682 ⟨(isR_of (p := 171) rfl), f682_0⟩ (j := (((dg r_) - (b : Int)).toNat)) (by omega) (by omega) (e := (ml (cf r_ (dg r_)) (iv (sgI ((dg r_) - (b : Int)) (f_y b))))) rfl) ⟨(isR_of (p := 171) rfl), pu_eq⟩ ⟨hy.1, ((pu_ne (P := P682) (f := up1 pz (((dg r_) - (b : Int)).toNat) (ml (cf r_ (dg r_)) (iv (sgI ((dg r_) - (b : Int)) (f_y b))))) (show y ≠ 171 by omega)).trans ((F682 y (by omega)).trans ((pu_ne (P := R1) (f := up1 q_ (((dg r_) - (b : Int)).toNat) (ml (cf r_ (dg r_)) (iv (sgI ((dg r_) - (b : Int)) (f_y b))))) (show y ≠ 174 by omega)).trans ((hG y (by omega) (by omega) (by omega) (by omega) (by omega)).trans hy.2))))⟩ (isR_of (p := 172) rfl) (by omega) (by omega) (by omega) (by omega)) ?_
          rintro _ V683 ⟨P683, rfl, C683, S683, F683, f683_0⟩
          refine ⟨by decide, (?_ : Wp 198 _ 238 80 [(1, 161), (1, x), (1, y), (0, 0), (0, (b : Int)), (0, (dg r_)), (0, ((ml (cf r_ (dg r_)) (iv (sgI ((dg r_) - (b : Int)) (f_y b)))).val : Int))] [] V683 _)⟩
          refine w_goto hK rfl ?_
          refine w_al hK rfl rfl ?_
          refine w_al hK rfl rfl ?_
          refine w_getr (n := 18) (v := 172) hK rfl rfl (by decide) (by decide) rfl rfl rfl rfl ?_
          refine w_al hK rfl rfl ?_
          refine w_getr (n := 19) (v := 173) hK rfl rfl (by decide) (by decide) rfl rfl rfl rfl ?_
          refine w_call [(1, 161), (1, 172), (1, 173)] hK rfl rfl rfl rfl (Or.inr ⟨_, _, _, rfl, by decide, (by decide), rfl⟩) (r_less C683 ⟨(isR_of (p := 172) rfl), f683_0⟩ ⟨(isR_of (p := 173) rfl), ((F683 173 (by omega) (by omega)).trans ((pu_ne (P := P682) (f := up1 pz (((dg r_) - (b : Int)).toNat) (ml (cf r_ (dg r_)) (iv (sgI ((dg r_) - (b : Int)) (f_y b))))) (show 173 ≠ 171 by omega)).trans ((F682 173 (by omega)).trans ((pu_ne (P := R1) (f := up1 q_ (((dg r_) - (b : Int)).toNat) (ml (cf r_ (dg r_)) (iv (sgI ((dg r_) - (b : Int)) (f_y b))))) (show 173 ≠ 174 by omega)).trans hr))))⟩ (by omega)) ?_
          rintro _ V684 ⟨P684, rfl, C684, S684, F684, f684_0⟩
          refine ⟨by decide, (?_ : Wp 198 _ 238 94 [(1, 161), (1, x), (1, y), (0, 0), (0, (b : Int)), (0, (dg r_)), (0, ((ml (cf r_ (dg r_)) (iv (sgI ((dg r_) - (b : Int)) (f_y b)))).val : Int))] [] V684 _)⟩
          have hD2_ := hD.ahead (by omega) (by omega) hyd_ (c := (ml (cf r_ (dg r_)) (iv (sgI ((dg r_) - (b : Int)) (f_y b))))) (by rw [show dg r_ - (b : Int) + (b : Int) = dg r_ by omega, sgI_toNat (show 0 ≤ (dg r_) - (b : Int) by omega)])
          have hb2_ : Bd (sbp r_ (mlp (up1 pz (((dg r_) - (b : Int)).toNat) (ml (cf r_ (dg r_)) (iv (sgI ((dg r_) - (b : Int)) (f_y b))))) f_y)) 33 := fun j_ hj_ => hD2_.2.2.2 j_ (by omega)
          have hD3_ : dg (sbp r_ (mlp (up1 pz (((dg r_) - (b : Int)).toNat) (ml (cf r_ (dg r_)) (iv (sgI ((dg r_) - (b : Int)) (f_y b))))) f_y)) ≤ (dg r_ - (b : Int)) - 1 + (b : Int) ∧ DW f_x f_y b (up1 q_ (((dg r_) - (b : Int)).toNat) (ml (cf r_ (dg r_)) (iv (sgI ((dg r_) - (b : Int)) (f_y b))))) (sbp r_ (mlp (up1 pz (((dg r_) - (b : Int)).toNat) (ml (cf r_ (dg r_)) (iv (sgI ((dg r_) - (b : Int)) (f_y b))))) f_y)) (dg (sbp r_ (mlp (up1 pz (((dg r_) - (b : Int)).toNat) (ml (cf r_ (dg r_)) (iv (sgI ((dg r_) - (b : Int)) (f_y b))))) f_y)) - (b : Int)) := hD2_.deg (hb2_.mono (by decide)) (by omega)
          refine w_il hK rfl rfl ?_
          refine w_ne hK rfl (by omega) (by omega) (fun h95 => ?_) (fun h95 => ?_)
          · refine w_al hK rfl rfl ?_
            refine w_getr (n := 19) (v := 173) hK rfl rfl (by decide) (by decide) rfl rfl rfl rfl ?_
            have dI_ : -1 ≤ dg (sbp r_ (mlp (up1 pz (((dg r_) - (b : Int)).toNat) (ml (cf r_ (dg r_)) (iv (sgI ((dg r_) - (b : Int)) (f_y b))))) f_y)) ∧ dg (sbp r_ (mlp (up1 pz (((dg r_) - (b : Int)).toNat) (ml (cf r_ (dg r_)) (iv (sgI ((dg r_) - (b : Int)) (f_y b))))) f_y)) ≤ 47 := C684.dI ⟨(isR_of (p := 173) rfl), f684_0⟩
            refine w_call [(1, 173)] hK rfl rfl rfl rfl (Or.inl rfl) (r_deg C684 ⟨(isR_of (p := 173) rfl), f684_0⟩) ?_
            rintro _ Mq ⟨rfl, e_⟩
            subst Mq
            refine ⟨by show (0 : Nat) ≠ 9; decide, (?_ : Wp 198 _ 238 100 [(1, 161), (1, x), (1, y), (0, 0), (0, (b : Int)), (0, (dg r_)), (0, ((ml (cf r_ (dg r_)) (iv (sgI ((dg r_) - (b : Int)) (f_y b)))).val : Int))] [(0, (dg (sbp r_ (mlp (up1 pz (((dg r_) - (b : Int)).toNat) (ml (cf r_ (dg r_)) (iv (sgI ((dg r_) - (b : Int)) (f_y b))))) f_y))))] V684 _)⟩
            refine w_is [(1, 161), (1, x), (1, y), (0, 0), (0, (b : Int)), (0, (dg (sbp r_ (mlp (up1 pz (((dg r_) - (b : Int)).toNat) (ml (cf r_ (dg r_)) (iv (sgI ((dg r_) - (b : Int)) (f_y b))))) f_y)))), (0, ((ml (cf r_ (dg r_)) (iv (sgI ((dg r_) - (b : Int)) (f_y b)))).val : Int))] hK rfl rfl rfl ?_
            refine w_goto hK rfl ?_
            exact ih14 _ (by omega) _ _ _ (0, ((ml (cf r_ (dg r_)) (iv (sgI ((dg r_) - (b : Int)) (f_y b)))).val : Int)) V684 rfl C684 f684_0 ((F684 174 (by omega)).trans ((F683 174 (by omega) (by omega)).trans ((pu_ne (P := P682) (f := up1 pz (((dg r_) - (b : Int)).toNat) (ml (cf r_ (dg r_)) (iv (sgI ((dg r_) - (b : Int)) (f_y b))))) (show 174 ≠ 171 by omega)).trans ((F682 174 (by omega)).trans pu_eq)))) hD3_.2 hb2_ (fun p pn170_ pn171_ pn172_ pn173_ pn174_ => ((F684 p pn173_).trans ((F683 p pn170_ pn172_).trans ((pu_ne (P := P682) (f := up1 pz (((dg r_) - (b : Int)).toNat) (ml (cf r_ (dg r_)) (iv (sgI ((dg r_) - (b : Int)) (f_y b))))) (show p ≠ 171 by omega)).trans ((F682 p pn171_).trans ((pu_ne (P := R1) (f := up1 q_ (((dg r_) - (b : Int)).toNat) (ml (cf r_ (dg r_)) (iv (sgI ((dg r_) - (b : Int)) (f_y b))))) (show p ≠ 174 by omega)).trans (hG p pn170_ pn171_ pn172_ pn173_ pn174_))))))) (fun a nr_ => ((S684 a nr_).trans ((S683 a nr_).trans ((up_row (nr_ 171 (isR_of (p := 171) rfl))).trans ((S682 a nr_).trans ((up_row (nr_ 174 (isR_of (p := 174) rfl))).trans (hS a nr_)))))))
          · refine w_goto hK rfl ?_
            refine w_ret hK rfl rfl ?_
            have dv_ := dv_eq (hD2_.done (by omega) hyd_)
            exact ⟨_, rfl, C684, (fun a nr_ => ((S684 a nr_).trans ((S683 a nr_).trans ((up_row (nr_ 171 (isR_of (p := 171) rfl))).trans ((S682 a nr_).trans ((up_row (nr_ 174 (isR_of (p := 174) rfl))).trans (hS a nr_))))))), (fun p pn170_ pn171_ pn172_ pn173_ pn174_ => ((F684 p pn173_).trans ((F683 p pn170_ pn172_).trans ((pu_ne (P := P682) (f := up1 pz (((dg r_) - (b : Int)).toNat) (ml (cf r_ (dg r_)) (iv (sgI ((dg r_) - (b : Int)) (f_y b))))) (show p ≠ 171 by omega)).trans ((F682 p pn171_).trans ((pu_ne (P := R1) (f := up1 q_ (((dg r_) - (b : Int)).toNat) (ml (cf r_ (dg r_)) (iv (sgI ((dg r_) - (b : Int)) (f_y b))))) (show p ≠ 174 by omega)).trans (hG p pn170_ pn171_ pn172_ pn173_ pn174_))))))), f684_0.trans (congrArg some dv_.2.symm), ((F684 174 (by omega)).trans ((F683 174 (by omega) (by omega)).trans ((pu_ne (P := P682) (f := up1 pz (((dg r_) - (b : Int)).toNat) (ml (cf r_ (dg r_)) (iv (sgI ((dg r_) - (b : Int)) (f_y b))))) (show 174 ≠ 171 by omega)).trans ((F682 174 (by omega)).trans pu_eq)))).trans (congrArg some dv_.1.symm)⟩
  exact lp14 _ _ _ _ (3, 0) V681 rfl C681 ((F681 173 (by omega)).trans f680_0) f681_0 (DW.start (fun j_ hj_ => dg_z (bx33.mono (by decide)) (by omega))) bx33 (fun p pn170_ pn171_ pn172_ pn173_ pn174_ => ((F681 p pn174_).trans (F680 p pn173_))) (fun a nr_ => ((S681 a nr_).trans (S680 a nr_)))
set_option maxRecDepth 100000 in
theorem r_isdvW {d : Nat} {M : Mem} {k : Nat} {R : Int → Option (Pl k)} (C : RS M k R) {x : Int} {f_x : Pl k} (hx : isK R x f_x) {y : Int} {f_y : Pl k} (hy : isK R y f_y) (hx_ : x < 170 ∨ 174 < x) (hy_ : y < 170 ∨ 174 < y) (hy0 : 0 ≤ dg f_y) (bx33 : Bd f_x 33) (by9 : Bd f_y 9) : Ct 198 (d + 3) 280 [(1, 161), (1, x), (1, y), (0, 0)] M (fun r_ M' => ∃ R' : Int → Option (Pl k), r_ = (0, bz (dr 0 f_x f_y = pz)) ∧ RS M' k R' ∧ (∀ a : Int, (∀ p : Int, isR p → a ≠ p) → M' a = M a) ∧ (∀ p : Int, p ≠ 170 → p ≠ 171 → p ≠ 172 → p ≠ 173 → p ≠ 174 → R' p = R p)) := by
  have hK : cd 280 = k280 := rfl
  show Wp 198 _ 280 0 [(1, 161), (1, x), (1, y), (0, 0)] [] M _
  refine w_al hK rfl rfl ?_
  refine w_al hK rfl rfl ?_
  refine w_al hK rfl rfl ?_
  refine w_il hK rfl rfl ?_
  refine w_call [(1, 161), (1, x), (1, y), (0, 0)] hK rfl rfl rfl rfl (Or.inr ⟨_, _, _, rfl, by decide, (by decide), rfl⟩) (r_divW C hx hy (by omega) (by omega) (b := (dg f_y).toNat) (by omega) bx33 by9) ?_
  rintro _ V685 ⟨P685, rfl, C685, S685, F685, f685_0, f685_1⟩
  refine ⟨by decide, (?_ : Wp 198 _ 280 5 [(1, 161), (1, x), (1, y), (0, 0)] [] V685 _)⟩
  refine w_al hK rfl rfl ?_
  refine w_getr (n := 19) (v := 173) hK rfl rfl (by decide) (by decide) rfl rfl rfl rfl ?_
  have dI_ : -1 ≤ dg (dr 0 f_x f_y) ∧ dg (dr 0 f_x f_y) ≤ 47 := C685.dI ⟨(isR_of (p := 173) rfl), f685_0⟩
  refine w_call [(1, 173)] hK rfl rfl rfl rfl (Or.inl rfl) (r_deg C685 ⟨(isR_of (p := 173) rfl), f685_0⟩) ?_
  rintro _ Mq ⟨rfl, e_⟩
  subst Mq
  refine ⟨by show (0 : Nat) ≠ 9; decide, (?_ : Wp 198 _ 280 8 [(1, 161), (1, x), (1, y), (0, 0)] [(0, (dg (dr 0 f_x f_y)))] V685 _)⟩
  refine w_ic hK rfl ?_
  have gD_ := dg_ge (dr 0 f_x f_y)
  have bz_ := C685.bd ⟨(isR_of (p := 173) rfl), f685_0⟩
  refine w_ne2 hK rfl (by omega) (by omega) (by omega) (by omega) (fun h9 => ?_) (fun h9 => ?_)
  · refine w_ic hK rfl ?_
    refine w_zret hK rfl rfl (Or.inl rfl) ?_
    rw [bz_neg (fun q_ => by rw [q_, dg_pz] at h9; exact h9 rfl)]
    exact ⟨_, rfl, C685, (fun a nr_ => (S685 a nr_)), (fun p pn170_ pn171_ pn172_ pn173_ pn174_ => (F685 p pn170_ pn171_ pn172_ pn173_ pn174_))⟩
  · refine w_ic hK rfl ?_
    refine w_goto hK rfl ?_
    refine w_zret hK rfl rfl (Or.inr rfl) ?_
    rw [bz_pos ((dg_neg (bz_.mono (by decide))).mp (by omega))]
    exact ⟨_, rfl, C685, (fun a nr_ => (S685 a nr_)), (fun p pn170_ pn171_ pn172_ pn173_ pn174_ => (F685 p pn170_ pn171_ pn172_ pn173_ pn174_))⟩
set_option maxRecDepth 100000 in
theorem ro_bound {d : Nat} {M : Mem} {k : Nat} {pl : Nat → Pl k} {n : Int} {tx : Int → Int} {rc : Nat} {rw : Int → Int} {fc : Nat} {fa : Nat → Pl k} (H : RFS M k pl n tx rc rw fc fa) (i : Nat) (hi : i < 6) (hi0 : 0 ≤ dg (pl i)) (e0 c0 : Nat) (e8_ : e0 ≤ 8) (hc0 : c0 < unt k e0) (hh : dr 0 (cnp (k := k) e0 c0) (pl i) = pz) (hm : ∀ e c : Nat, (e < e0 ∧ c < unt k e) ∨ (e = e0 ∧ c < c0) → dr 0 (cnp (k := k) e c) (pl i) ≠ pz) : Ct 198 (d + 8) 297 [(1, 161), (0, (i : Int))] M (fun r_ M' => r_ = (0, (e0 : Int)) ∧ RFS M' k pl n tx (e0 + 1) (stw (fun m_ : Nat => ((cnp (k := k) e0 c0 (mm k * m_)).val : Int)) rw (e0 + 1)) fc fa ∧ (∀ a : Int, (a < 161 ∨ 197 < a) → M' a = M a)) := by
  have hK : cd 297 = k297 := rfl
  obtain ⟨R, C, hpl, T, hR, hF⟩ := H
  have q1_ := qq_I k
  have p1_ := pp_I k
  have m1_ := mm_I k
  have bi_ := (hpl i hi).2
  have di_ := dg_lt9 bi_
  show Wp 198 _ 297 0 [(1, 161), (0, (i : Int)), (3, 0), (3, 0), (3, 0)] [] M _
  refine w_al hK rfl rfl ?_
  refine w_ic hK rfl ?_
  refine w_puti (n := 14) (m := 14) hK rfl rfl (by decide) (by decide) rfl rfl rfl rfl ?_
  refine w_il hK rfl rfl ?_
  refine w_call [(0, (i : Int))] hK rfl rfl rfl rfl (Or.inl rfl) (r_place (i : Int) (by omega) (by omega)) ?_
  rintro _ Mq ⟨rfl, e_⟩
  subst Mq
  have pI_686 := ite01 (0 ≤ (i : Int) ∧ (i : Int) < 6)
  refine ⟨by show (0 : Nat) ≠ 9; decide, (?_ : Wp 198 _ 297 5 [(1, 161), (0, (i : Int)), (3, 0), (3, 0), (3, 0)] [(0, (if 0 ≤ (i : Int) ∧ (i : Int) < 6 then 1 else 0))] (up M 161 14 0) _)⟩
  refine w_ne hK rfl (by omega) (by omega) (fun h5 => ?_) (fun h5 => ?_)
  · refine w_al hK rfl rfl ?_
    refine w_il hK rfl rfl ?_
    refine w_al hK rfl rfl ?_
    refine w_getr (n := 26) (v := 180) hK rfl rfl (by decide) (by decide) rfl rfl rfl rfl ?_
    refine w_call [(1, 161), (0, (i : Int)), (1, 180)] hK rfl rfl rfl rfl (Or.inr ⟨_, _, _, rfl, by decide, (by decide), rfl⟩) (r_load (RS.cg C (fun j_ h1_ h2_ => up_ne2 (by omega)) (fun a_ h1_ h2_ => up_row h1_)) (PM.keep hpl (up_row (by decide))) i hi (isR_of (p := 180) rfl)) ?_
    rintro _ V687 ⟨P687, rfl, C687, S687, F687, f687_0⟩
    refine ⟨by decide, (?_ : Wp 198 _ 297 13 [(1, 161), (0, (i : Int)), (3, 0), (3, 0), (3, 0)] [] V687 _)⟩
    refine w_al hK rfl rfl ?_
    refine w_getr (n := 26) (v := 180) hK rfl rfl (by decide) (by decide) rfl rfl rfl rfl ?_
    have dI_ : -1 ≤ dg (pl i) ∧ dg (pl i) ≤ 47 := C687.dI ⟨(isR_of (p := 180) rfl), f687_0⟩
    refine w_call [(1, 180)] hK rfl rfl rfl rfl (Or.inl rfl) (r_deg C687 ⟨(isR_of (p := 180) rfl), f687_0⟩) ?_
    rintro _ Mq ⟨rfl, e_⟩
    subst Mq
    refine ⟨by show (0 : Nat) ≠ 9; decide, (?_ : Wp 198 _ 297 16 [(1, 161), (0, (i : Int)), (3, 0), (3, 0), (3, 0)] [(0, (dg (pl i)))] V687 _)⟩
    refine w_ic hK rfl ?_
    refine w_ne2 hK rfl (by omega) (by omega) (by omega) (by omega) (fun h17 => ?_) (fun h17 => ?_)
    · refine w_ic hK rfl ?_
      refine w_is [(1, 161), (0, (i : Int)), (0, 0), (3, 0), (3, 0)] hK rfl rfl rfl ?_
      have lp22 : ∀ (n_ : Nat) (e : Nat) (w3 w4 : AV) (R1 : Int → Option (Pl k)) (N22 : Mem), 9 - e = n_ → (e ≤ e0) → (RS N22 k R1) → (R1 180 = some (pl i)) → ((∀ p : Int, p ≠ 170 → p ≠ 171 → p ≠ 172 → p ≠ 173 → p ≠ 174 → p ≠ 187 → R1 p = P687 p)) → ((∀ a : Int, (∀ p : Int, isR p → a ≠ p) → N22 a = V687 a)) → Wp 198 (d + 8) 297 22 [(1, 161), (0, (i : Int)), (0, (e : Int)), w3, w4] [] N22 (fun r_ M' => r_ = (0, (e0 : Int)) ∧ RFS M' k pl n tx (e0 + 1) (stw (fun m_ : Nat => ((cnp (k := k) e0 c0 (mm k * m_)).val : Int)) rw (e0 + 1)) fc fa ∧ (∀ a : Int, (a < 161 ∨ 197 < a) → M' a = M a)) := by
        intro n_
        induction n_ using Nat.strongRecOn with
        | _ n_ ih22 =>
        intro e w3 w4 R1 N22 hm22 he_ hCR1 h180_ hGR1 hSN22
        have em_ : e * mm k ≤ 8 * mm k := Nat.mul_le_mul_right _ (by omega)
        have u8_ := unt_8 (k := k) (s := e) (by omega)
        have ue_ : e = e0 → unt k e = unt k e0 := fun q_ => by rw [q_]
        refine w_il hK rfl rfl ?_
        refine w_ic hK rfl ?_
        refine w_gt2 hK rfl (by omega) (by omega) (by omega) (by omega) (fun h24 => ?_) (fun h24 => ?_)
        · exfalso; omega
        · refine w_ic hK rfl ?_
          refine w_is [(1, 161), (0, (i : Int)), (0, (e : Int)), (0, 0), w4] hK rfl rfl rfl ?_
          have lp27 : ∀ (n_ : Nat) (c : Nat) (w4 : AV) (R2 : Int → Option (Pl k)) (N27 : Mem), 6562 - c = n_ → (c ≤ unt k e ∧ (e < e0 ∨ c ≤ c0)) → (RS N27 k R2) → (R2 180 = some (pl i)) → ((∀ p : Int, p ≠ 170 → p ≠ 171 → p ≠ 172 → p ≠ 173 → p ≠ 174 → p ≠ 187 → R2 p = R1 p)) → ((∀ a : Int, (∀ p : Int, isR p → a ≠ p) → N27 a = N22 a)) → Wp 198 (d + 8) 297 27 [(1, 161), (0, (i : Int)), (0, (e : Int)), (0, (c : Int)), w4] [] N27 (fun r_ M' => r_ = (0, (e0 : Int)) ∧ RFS M' k pl n tx (e0 + 1) (stw (fun m_ : Nat => ((cnp (k := k) e0 c0 (mm k * m_)).val : Int)) rw (e0 + 1)) fc fa ∧ (∀ a : Int, (a < 161 ∨ 197 < a) → M' a = M a)) := by
            intro n_
            induction n_ using Nat.strongRecOn with
            | _ n_ ih27 =>
            intro c w4 R2 N27 hm27 hc_ hCR2 hi180_ hGR2 hSN27
            refine w_il hK rfl rfl ?_
            refine w_al hK rfl rfl ?_
            refine w_il hK rfl rfl ?_
            refine w_call [(1, 161), (0, (e : Int))] hK rfl rfl rfl rfl (Or.inr ⟨_, _, _, rfl, by decide, (by decide), rfl⟩) (r_pow hCR2.F e (by omega)) ?_
            rintro _ Mq ⟨rfl, e_⟩
            subst Mq
            refine ⟨by show (0 : Nat) ≠ 9; decide, (?_ : Wp 198 _ 297 31 [(1, 161), (0, (i : Int)), (0, (e : Int)), (0, (c : Int)), w4] [(0, (unt k e : Int)), (0, (c : Int))] N27 _)⟩
            refine w_ge2 hK rfl (by omega) (by omega) (by omega) (by omega) (fun h31 => ?_) (fun h31 => ?_)
            · refine w_inc [(1, 161), (0, (i : Int)), (0, ((e : Int) + 1)), (0, (c : Int)), w4] hK rfl rfl rfl (by omega) (by omega) rfl ?_
              refine w_goto hK rfl ?_
              exact ih22 _ (by omega) (e + 1) (0, (c : Int)) w4 _ N27 rfl (by omega) hCR2 (hi180_) (fun p pn170_ pn171_ pn172_ pn173_ pn174_ pn187_ => ((hGR2 p pn170_ pn171_ pn172_ pn173_ pn174_ pn187_).trans (hGR1 p pn170_ pn171_ pn172_ pn173_ pn174_ pn187_))) (fun a nr_ => ((hSN27 a nr_).trans (hSN22 a nr_)))
            · refine w_al hK rfl rfl ?_
              refine w_il hK rfl rfl ?_
              refine w_il hK rfl rfl ?_
              refine w_al hK rfl rfl ?_
              refine w_getr (n := 35) (v := 187) hK rfl rfl (by decide) (by decide) rfl rfl rfl rfl ?_
              refine w_call [(1, 161), (0, (e : Int)), (0, (c : Int)), (1, 187)] hK rfl rfl rfl rfl (Or.inr ⟨_, _, _, rfl, by decide, (by decide), rfl⟩) (r_cof hCR2 (isR_of (p := 187) rfl) e c (by omega) (by omega)) ?_
              rintro _ V688 ⟨P688, rfl, C688, S688, F688, f688_0⟩
              refine ⟨by decide, (?_ : Wp 198 _ 297 38 [(1, 161), (0, (i : Int)), (0, (e : Int)), (0, (c : Int)), w4] [] V688 _)⟩
              refine w_al hK rfl rfl ?_
              refine w_al hK rfl rfl ?_
              refine w_getr (n := 35) (v := 187) hK rfl rfl (by decide) (by decide) rfl rfl rfl rfl ?_
              refine w_al hK rfl rfl ?_
              refine w_getr (n := 26) (v := 180) hK rfl rfl (by decide) (by decide) rfl rfl rfl rfl ?_
              refine w_ic hK rfl ?_
              refine w_call [(1, 161), (1, 187), (1, 180), (0, 0)] hK rfl rfl rfl rfl (Or.inr ⟨_, _, _, rfl, by decide, (by decide), rfl⟩) (r_isdvW C688 ⟨(isR_of (p := 187) rfl), f688_0⟩ ⟨(isR_of (p := 180) rfl), ((F688 180 (by omega)).trans hi180_)⟩ (by omega) (by omega) (by omega) (cnp_bd.mono (by omega)) bi_) ?_
              rintro _ V689 ⟨P689, rfl, C689, S689, F689⟩
              have bv_ := bz_01 (dr 0 (cnp (k := k) e c) (pl i) = pz)
              refine ⟨by show (0 : Nat) ≠ 9; decide, (?_ : Wp 198 _ 297 45 [(1, 161), (0, (i : Int)), (0, (e : Int)), (0, (c : Int)), w4] [(0, (bz (dr 0 (cnp (k := k) e c) (pl i) = pz)))] V689 _)⟩
              refine w_ne hK rfl (by omega) (by omega) (fun h45 => ?_) (fun h45 => ?_)
              · have hd_ := bz_yes (show bz (dr 0 (cnp (k := k) e c) (pl i) = pz) ≠ 0 by omega)
                have ec_ : e = e0 ∧ c = c0 := Classical.byContradiction (fun q_ => hm e c (by omega) hd_)
                refine w_al hK rfl rfl ?_
                refine w_ic hK rfl ?_
                refine w_puti (n := 13) (m := 13) hK rfl rfl (by decide) (by decide) rfl rfl rfl rfl ?_
                refine w_ic hK rfl ?_
                refine w_is [(1, 161), (0, (i : Int)), (0, (e : Int)), (0, (c : Int)), (0, 0)] hK rfl rfl rfl ?_
                have lp52 : ∀ (n_ : Nat) (m : Nat) (N52 : Mem), 10 - m = n_ → (m ≤ e + 1) → ((∀ a : Int, a ≠ 161 → a ≠ 169 → N52 a = (up V689 161 13 0) a)) → ((∀ j : Int, j ≠ 13 → N52 161 j = (up V689 161 13 0) 161 j)) → (RM N52 m (stw (fun m_ : Nat => ((cnp (k := k) e c (mm k * m_)).val : Int)) rw m)) → Wp 198 (d + 8) 297 52 [(1, 161), (0, (i : Int)), (0, (e : Int)), (0, (c : Int)), (0, (m : Int))] [] N52 (fun r_ M' => r_ = (0, (e0 : Int)) ∧ RFS M' k pl n tx (e0 + 1) (stw (fun m_ : Nat => ((cnp (k := k) e0 c0 (mm k * m_)).val : Int)) rw (e0 + 1)) fc fa ∧ (∀ a : Int, (a < 161 ∨ 197 < a) → M' a = M a)) := by
                  intro n_
                  induction n_ using Nat.strongRecOn with
                  | _ n_ ih52 =>
                  intro m N52 hm52 hm_ hSN52 hHN52 hRN52
                  have mm_ : mm k * m ≤ mm k * 9 := Nat.mul_le_mul_left _ (by omega)
                  have mmI_ : ((mm k * m : Nat) : Int) = (mm k : Int) * (m : Int) := Int.natCast_mul ..
                  refine w_il hK rfl rfl ?_
                  refine w_il hK rfl rfl ?_
                  refine w_gt2 hK rfl (by omega) (by omega) (by omega) (by omega) (fun h54 => ?_) (fun h54 => ?_)
                  · refine w_il hK rfl rfl ?_
                    refine w_iret hK rfl rfl ?_
                    have e_ : m = e + 1 := by omega
                    subst m
                    obtain ⟨ee_, cc_⟩ := ec_
                    rw [← ee_, ← cc_]
                    exact ⟨rfl, ⟨_, (RS.cg (RS.cg C689 (fun j_ h1_ h2_ => up_ne2 (by omega)) (fun a_ h1_ h2_ => up_row h1_)) (fun j_ h1_ h2_ => hHN52 j_ (by omega)) (fun a_ h1_ h2_ => hSN52 a_ h1_ (RSc_ne h2_ (by decide) (notR rfl)))), (PM.keep hpl ((hSN52 167 (by decide) (by decide)).trans ((up_row (by decide)).trans ((S689 167 (notR rfl)).trans ((S688 167 (notR rfl)).trans ((hSN27 167 (notR rfl)).trans ((hSN22 167 (notR rfl)).trans ((S687 167 (notR rfl)).trans (up_row (by decide)))))))))), (TMs.keep T ((hHN52 11 (by decide)).trans ((up_ne2 (by decide)).trans ((congrFun (S689 161 (notR rfl)) 11).trans ((congrFun (S688 161 (notR rfl)) 11).trans ((congrFun (hSN27 161 (notR rfl)) 11).trans ((congrFun (hSN22 161 (notR rfl)) 11).trans ((congrFun (S687 161 (notR rfl)) 11).trans (up_ne2 (by decide))))))))) ((hSN52 168 (by decide) (by decide)).trans ((up_row (by decide)).trans ((S689 168 (notR rfl)).trans ((S688 168 (notR rfl)).trans ((hSN27 168 (notR rfl)).trans ((hSN22 168 (notR rfl)).trans ((S687 168 (notR rfl)).trans (up_row (by decide)))))))))), hRN52, (FM.keep hF ((hHN52 15 (by decide)).trans ((up_ne2 (by decide)).trans ((congrFun (S689 161 (notR rfl)) 15).trans ((congrFun (S688 161 (notR rfl)) 15).trans ((congrFun (hSN27 161 (notR rfl)) 15).trans ((congrFun (hSN22 161 (notR rfl)) 15).trans ((congrFun (S687 161 (notR rfl)) 15).trans (up_ne2 (by decide))))))))) ((hSN52 189 (by decide) (by decide)).trans ((up_row (by decide)).trans ((S689 189 (notR rfl)).trans ((S688 189 (notR rfl)).trans ((hSN27 189 (notR rfl)).trans ((hSN22 189 (notR rfl)).trans ((S687 189 (notR rfl)).trans (up_row (by decide))))))))) ((hSN52 190 (by decide) (by decide)).trans ((up_row (by decide)).trans ((S689 190 (notR rfl)).trans ((S688 190 (notR rfl)).trans ((hSN27 190 (notR rfl)).trans ((hSN22 190 (notR rfl)).trans ((S687 190 (notR rfl)).trans (up_row (by decide))))))))))⟩, (fun a h_ => ((hSN52 a (by omega) (by omega)).trans ((up_row (by omega)).trans ((S689 a (npR h_)).trans ((S688 a (npR h_)).trans ((hSN27 a (npR h_)).trans ((hSN22 a (npR h_)).trans ((S687 a (npR h_)).trans (up_row (by omega))))))))))⟩
                  · refine w_al hK rfl rfl ?_
                    refine w_al hK rfl rfl ?_
                    refine w_getr (n := 35) (v := 187) hK rfl rfl (by decide) (by decide) rfl rfl rfl rfl ?_
                    refine w_al hK rfl rfl ?_
                    refine w_geti (n := 3) (m := 3) hK rfl rfl (by decide) (by decide) rfl rfl rfl rfl ?_
                    rw [show N52 161 3 = (mm k : Int) from (RS.cg (RS.cg C689 (fun j_ h1_ h2_ => up_ne2 (by omega)) (fun a_ h1_ h2_ => up_row h1_)) (fun j_ h1_ h2_ => hHN52 j_ (by omega)) (fun a_ h1_ h2_ => hSN52 a_ h1_ (RSc_ne h2_ (by decide) (notR rfl)))).F.m]
                    refine w_il hK rfl rfl ?_
                    refine w_mul hK rfl (by omega) (by omega) ?_
                    refine w_ia hK rfl rfl (by decide) (by decide) (by omega) (by omega) ?_
                    rw [show N52 187 ((mm k : Int) * (m : Int)) = (((cnp (k := k) e c) ((mm k) * m)).val : Int) from (RS.cg (RS.cg C689 (fun j_ h1_ h2_ => up_ne2 (by omega)) (fun a_ h1_ h2_ => up_row h1_)) (fun j_ h1_ h2_ => hHN52 j_ (by omega)) (fun a_ h1_ h2_ => hSN52 a_ h1_ (RSc_ne h2_ (by decide) (notR rfl)))).atz ⟨(isR_of (p := 187) rfl), ((F689 187 (by omega) (by omega) (by omega) (by omega) (by omega)).trans f688_0)⟩ (j := ((mm k) * m)) (by omega) (by omega)]
                    have em2_ := el_I (cnp (k := k) e c (mm k * m))
                    refine w_i2l hK rfl (by omega) (by omega) ?_
                    refine w_call [(1, 161), (2, (((cnp (k := k) e c) ((mm k) * m)).val : Int))] hK rfl rfl rfl rfl (Or.inr ⟨_, _, _, rfl, by decide, (by decide), rfl⟩) (r_tell hRN52 (by omega) (((cnp (k := k) e c) ((mm k) * m)).val : Int)) ?_
                    rintro _ V690 ⟨rfl, R690, F690, G690⟩
                    refine ⟨by decide, (?_ : Wp 198 _ 297 65 [(1, 161), (0, (i : Int)), (0, (e : Int)), (0, (c : Int)), (0, (m : Int))] [] V690 _)⟩
                    refine w_inc [(1, 161), (0, (i : Int)), (0, (e : Int)), (0, (c : Int)), (0, ((m : Int) + 1))] hK rfl rfl rfl (by omega) (by omega) rfl ?_
                    refine w_goto hK rfl ?_
                    exact ih52 _ (by omega) (m + 1) V690 rfl (by omega) (fun a n161_ n169_ => ((F690 a n161_ n169_).trans (hSN52 a n161_ n169_))) (fun j n13_ => ((G690 j n13_).trans (hHN52 j n13_))) R690
                exact lp52 _ 0 (up V689 161 13 0) rfl (by omega) (fun a n161_ n169_ => rfl) (fun j n13_ => rfl) (RM.zero (M := (up V689 161 13 0)) (rw := rw) up_eq)
              · refine w_goto hK rfl ?_
                refine w_inc [(1, 161), (0, (i : Int)), (0, (e : Int)), (0, ((c : Int) + 1)), w4] hK rfl rfl rfl (by omega) (by omega) rfl ?_
                refine w_goto hK rfl ?_
                have hnd_ := bz_no (show bz (dr 0 (cnp (k := k) e c) (pl i) = pz) = 0 by omega)
                have hx_ : ¬ (e = e0 ∧ c = c0) := fun q_ => by
                  obtain ⟨q1, q2⟩ := q_
                  rw [q1, q2] at hnd_
                  exact hnd_ hh
                exact ih27 _ (by omega) (c + 1) w4 _ V689 rfl (by omega) C689 (((F689 180 (by omega) (by omega) (by omega) (by omega) (by omega)).trans ((F688 180 (by omega)).trans hi180_))) (fun p pn170_ pn171_ pn172_ pn173_ pn174_ pn187_ => ((F689 p pn170_ pn171_ pn172_ pn173_ pn174_).trans ((F688 p pn187_).trans (hGR2 p pn170_ pn171_ pn172_ pn173_ pn174_ pn187_)))) (fun a nr_ => ((S689 a nr_).trans ((S688 a nr_).trans (hSN27 a nr_))))
          exact lp27 _ 0 w4 _ N22 rfl (by omega) hCR1 (h180_) (fun p pn170_ pn171_ pn172_ pn173_ pn174_ pn187_ => rfl) (fun a nr_ => rfl)
      exact lp22 _ 0 (3, 0) (3, 0) _ V687 rfl (by omega) C687 (f687_0) (fun p pn170_ pn171_ pn172_ pn173_ pn174_ pn187_ => rfl) (fun a nr_ => rfl)
    · exfalso; omega
  · exfalso; omega
set_option maxRecDepth 100000 in
theorem ry_bound {d : Nat} {M : Mem} {k : Nat} {pl : Nat → Pl k} {n : Int} {tx : Int → Int} {rc : Nat} {rw : Int → Int} {fc : Nat} {fa : Nat → Pl k} (H : RFS M k pl n tx rc rw fc fa) (i : Nat) (hi : i < 6) (hi0 : dg (pl i) < 0) : Ct 198 (d + 8) 297 [(1, 161), (0, (i : Int))] M (fun r_ M' => r_ = (0, (-2)) ∧ RFS M' k pl n tx rc rw fc fa ∧ (∀ a : Int, (a < 161 ∨ 197 < a) → M' a = M a)) := by
  have hK : cd 297 = k297 := rfl
  obtain ⟨R, C, hpl, T, hR, hF⟩ := H
  have q1_ := qq_I k
  have p1_ := pp_I k
  have m1_ := mm_I k
  have bi_ := (hpl i hi).2
  have di_ := dg_lt9 bi_
  have dIi_ := dg_ge (pl i)
  show Wp 198 _ 297 0 [(1, 161), (0, (i : Int)), (3, 0), (3, 0), (3, 0)] [] M _
  refine w_al hK rfl rfl ?_
  refine w_ic hK rfl ?_
  refine w_puti (n := 14) (m := 14) hK rfl rfl (by decide) (by decide) rfl rfl rfl rfl ?_
  refine w_il hK rfl rfl ?_
  refine w_call [(0, (i : Int))] hK rfl rfl rfl rfl (Or.inl rfl) (r_place (i : Int) (by omega) (by omega)) ?_
  rintro _ Mq ⟨rfl, e_⟩
  subst Mq
  have pI_691 := ite01 (0 ≤ (i : Int) ∧ (i : Int) < 6)
  refine ⟨by show (0 : Nat) ≠ 9; decide, (?_ : Wp 198 _ 297 5 [(1, 161), (0, (i : Int)), (3, 0), (3, 0), (3, 0)] [(0, (if 0 ≤ (i : Int) ∧ (i : Int) < 6 then 1 else 0))] (up M 161 14 0) _)⟩
  refine w_ne hK rfl (by omega) (by omega) (fun h5 => ?_) (fun h5 => ?_)
  · refine w_al hK rfl rfl ?_
    refine w_il hK rfl rfl ?_
    refine w_al hK rfl rfl ?_
    refine w_getr (n := 26) (v := 180) hK rfl rfl (by decide) (by decide) rfl rfl rfl rfl ?_
    refine w_call [(1, 161), (0, (i : Int)), (1, 180)] hK rfl rfl rfl rfl (Or.inr ⟨_, _, _, rfl, by decide, (by decide), rfl⟩) (r_load (RS.cg C (fun j_ h1_ h2_ => up_ne2 (by omega)) (fun a_ h1_ h2_ => up_row h1_)) (PM.keep hpl (up_row (by decide))) i hi (isR_of (p := 180) rfl)) ?_
    rintro _ V692 ⟨P692, rfl, C692, S692, F692, f692_0⟩
    refine ⟨by decide, (?_ : Wp 198 _ 297 13 [(1, 161), (0, (i : Int)), (3, 0), (3, 0), (3, 0)] [] V692 _)⟩
    refine w_al hK rfl rfl ?_
    refine w_getr (n := 26) (v := 180) hK rfl rfl (by decide) (by decide) rfl rfl rfl rfl ?_
    have dI_ : -1 ≤ dg (pl i) ∧ dg (pl i) ≤ 47 := C692.dI ⟨(isR_of (p := 180) rfl), f692_0⟩
    refine w_call [(1, 180)] hK rfl rfl rfl rfl (Or.inl rfl) (r_deg C692 ⟨(isR_of (p := 180) rfl), f692_0⟩) ?_
    rintro _ Mq ⟨rfl, e_⟩
    subst Mq
    refine ⟨by show (0 : Nat) ≠ 9; decide, (?_ : Wp 198 _ 297 16 [(1, 161), (0, (i : Int)), (3, 0), (3, 0), (3, 0)] [(0, (dg (pl i)))] V692 _)⟩
    refine w_ic hK rfl ?_
    refine w_ne2 hK rfl (by omega) (by omega) (by omega) (by omega) (fun h17 => ?_) (fun h17 => ?_)
    · exfalso; omega
    · refine w_ic hK rfl ?_
      refine w_iret hK rfl rfl ?_
      exact ⟨rfl, ⟨_, C692, (PM.keep hpl ((S692 167 (notR rfl)).trans (up_row (by decide)))), (TMs.keep T ((congrFun (S692 161 (notR rfl)) 11).trans (up_ne2 (by decide))) ((S692 168 (notR rfl)).trans (up_row (by decide)))), (RM.keep hR ((congrFun (S692 161 (notR rfl)) 13).trans (up_ne2 (by decide))) ((S692 169 (notR rfl)).trans (up_row (by decide)))), (FM.keep hF ((congrFun (S692 161 (notR rfl)) 15).trans (up_ne2 (by decide))) ((S692 189 (notR rfl)).trans (up_row (by decide))) ((S692 190 (notR rfl)).trans (up_row (by decide))))⟩, (fun a h_ => ((S692 a (npR h_)).trans (up_row (by omega))))⟩
  · exfalso; omega
set_option maxRecDepth 100000 in
theorem rn_bound {d : Nat} {M : Mem} {k : Nat} {pl : Nat → Pl k} {n : Int} {tx : Int → Int} {rc : Nat} {rw : Int → Int} {fc : Nat} {fa : Nat → Pl k} (H : RFS M k pl n tx rc rw fc fa) (i : Int) (i1_ : -2147483648 ≤ i) (i2_ : i ≤ 2147483647) (hn : ¬ (0 ≤ i ∧ i < 6)) : Ct 198 (d + 8) 297 [(1, 161), (0, i)] M (fun r_ M' => r_ = (0, -1) ∧ RFS M' k pl n tx rc rw fc fa ∧ (∀ a : Int, (a < 161 ∨ 197 < a) → M' a = M a)) := by
  have hK : cd 297 = k297 := rfl
  obtain ⟨R, C, hpl, T, hR, hF⟩ := H
  have q1_ := qq_I k
  have p1_ := pp_I k
  have m1_ := mm_I k
  show Wp 198 _ 297 0 [(1, 161), (0, i), (3, 0), (3, 0), (3, 0)] [] M _
  refine w_al hK rfl rfl ?_
  refine w_ic hK rfl ?_
  refine w_puti (n := 14) (m := 14) hK rfl rfl (by decide) (by decide) rfl rfl rfl rfl ?_
  refine w_il hK rfl rfl ?_
  refine w_call [(0, i)] hK rfl rfl rfl rfl (Or.inl rfl) (r_place i (by omega) (by omega)) ?_
  rintro _ Mq ⟨rfl, e_⟩
  subst Mq
  have pI_693 := ite01 (0 ≤ i ∧ i < 6)
  refine ⟨by show (0 : Nat) ≠ 9; decide, (?_ : Wp 198 _ 297 5 [(1, 161), (0, i), (3, 0), (3, 0), (3, 0)] [(0, (if 0 ≤ i ∧ i < 6 then 1 else 0))] (up M 161 14 0) _)⟩
  refine w_ne hK rfl (by omega) (by omega) (fun h5 => ?_) (fun h5 => ?_)
  · exfalso; omega
  · refine w_ic hK rfl ?_
    refine w_iret hK rfl rfl ?_
    exact ⟨rfl, ⟨_, (RS.cg C (fun j_ h1_ h2_ => up_ne2 (by omega)) (fun a_ h1_ h2_ => up_row h1_)), (PM.keep hpl (up_row (by decide))), (TMs.keep T (up_ne2 (by decide)) (up_row (by decide))), (RM.keep hR (up_ne2 (by decide)) (up_row (by decide))), (FM.keep hF (up_ne2 (by decide)) (up_row (by decide)) (up_row (by decide)))⟩, (fun a h_ => (up_row (by omega)))⟩
