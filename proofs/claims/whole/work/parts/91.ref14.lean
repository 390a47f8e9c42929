/-! the reference: texts read */ -/
theorem TMs.TX {M : Mem} {n : Int} {tx : Int → Int} (h : TMs M n tx) : TXs (fun a j => if a = 140 then (if j = 3 then n else 0) else tx j) n tx := ⟨⟨rfl, h.1.2⟩, fun i h1 h2 => ⟨rfl, (h.2.1 i h1 h2).2⟩, h.2.2⟩
set_option maxRecDepth 100000 in
theorem r_rdns {d : Nat} {M : Mem} {k : Nat} {R : Int → Option (Pl k)} (C : RS M k R) {n : Int} {tx : Int → Int} (T : TL M n tx) (ha : M 161 29 = 0)  : Ct 198 (d + 3) 216 [(1, 161), (1, 180)] M (fun r_ M' => ∃ (R' : Int → Option (Pl k)) (c : Int), (((rds (k := k) tx (qq k : Int) n 9 0 pz).1 = -1 ∧ r_ = (0, c) ∧ 1 ≤ c ∧ c ≤ 9 ∧ R' 180 = some (rds (k := k) tx (qq k : Int) n 9 0 pz).2) ∨ (0 ≤ (rds (k := k) tx (qq k : Int) n 9 0 pz).1 ∧ r_ = (0, -1) ∧ M' 161 29 = (rds (k := k) tx (qq k : Int) n 9 0 pz).1)) ∧ RS M' k R' ∧ (∀ a : Int, (∀ p : Int, isR p → a ≠ p) → a ≠ 161 → M' a = M a) ∧ (∀ j : Int, j ≠ 29 → M' 161 j = M 161 j) ∧ (∀ p : Int, p ≠ 180 → R' p = R p)) := by
  have hK : cd 216 = k216 := rfl
  have q1_ := qq_I k
  have p1_ := pp_I k
  have m1_ := mm_I k
  have tn_ := T.1.2
  show Wp 198 _ 216 0 [(1, 161), (1, 180), (3, 0), (3, 0)] [] M _
  refine w_al hK rfl rfl ?_
  refine w_call [(1, 180)] hK rfl rfl rfl rfl (Or.inl rfl) (r_clear C (isR_of (p := 180) rfl)) ?_
  rintro _ V524 ⟨P524, rfl, C524, S524, F524, f524_0⟩
  refine ⟨by decide, (?_ : Wp 198 _ 216 2 [(1, 161), (1, 180), (3, 0), (3, 0)] [] V524 _)⟩
  refine w_ic hK rfl ?_
  refine w_is [(1, 161), (1, 180), (0, 0), (3, 0)] hK rfl rfl rfl ?_
  have lp4 : ∀ (n_ : Nat) (j : Nat) (a : Int) (f : Pl k) (w3 : AV) (R1 : Int → Option (Pl k)) (N4 : Mem), 9 - j = n_ → (j ≤ 8) → (0 ≤ a ∧ a ≤ n) → (N4 161 29 = a) → (rds (k := k) tx (qq k : Int) n 9 0 pz = rds (k := k) tx (qq k : Int) n (9 - j) a f) → (RS N4 k R1) → (R1 180 = some (f)) → ((∀ p : Int, p ≠ 180 → R1 p = P524 p)) → ((∀ a : Int, (∀ p : Int, isR p → a ≠ p) → a ≠ 161 → N4 a = V524 a)) → ((∀ j : Int, j ≠ 29 → N4 161 j = V524 161 j)) → Wp 198 (d + 3) 216 4 [(1, 161), (1, 180), (0, (j : Int)), w3] [] N4 (fun r_ M' => ∃ (R' : Int → Option (Pl k)) (c : Int), (((rds (k := k) tx (qq k : Int) n 9 0 pz).1 = -1 ∧ r_ = (0, c) ∧ 1 ≤ c ∧ c ≤ 9 ∧ R' 180 = some (rds (k := k) tx (qq k : Int) n 9 0 pz).2) ∨ (0 ≤ (rds (k := k) tx (qq k : Int) n 9 0 pz).1 ∧ r_ = (0, -1) ∧ M' 161 29 = (rds (k := k) tx (qq k : Int) n 9 0 pz).1)) ∧ RS M' k R' ∧ (∀ a : Int, (∀ p : Int, isR p → a ≠ p) → a ≠ 161 → M' a = M a) ∧ (∀ j : Int, j ≠ 29 → M' 161 j = M 161 j) ∧ (∀ p : Int, p ≠ 180 → R' p = R p)) := by
    intro n_
    induction n_ using Nat.strongRecOn with
    | _ n_ ih4 =>
    intro j a f w3 R1 N4 hm4 hj_ ha_ hat_ hrd_ hCR1 ho1_ hGR1 hSN4 hHN4
    refine w_al hK rfl rfl ?_
    refine w_call [(1, 161)] hK rfl rfl rfl rfl (Or.inr ⟨_, _, _, rfl, by decide, (by decide), rfl⟩) (r_rnum hCR1 (TL.keep T ((hHN4 30 (by decide)).trans (congrFun (S524 161 (notR rfl)) 30)) ((hSN4 168 (notR rfl) (by decide)).trans (S524 168 (notR rfl)))) hat_ (by omega) (by omega)) ?_
    rintro _ V525 ⟨rfl, a525_, F525, G525⟩
    have rI_525 := rdn_I T.TX (qq k : Int) a (by omega) (by omega) (by omega)
    refine ⟨(by show (0 : Nat) ≠ 9; decide), (?_ : Wp 198 _ 216 6 [(1, 161), (1, 180), (0, (j : Int)), w3] [(0, (rdn tx (qq k : Int) a).1)] V525 _)⟩
    refine w_is [(1, 161), (1, 180), (0, (j : Int)), (0, (rdn tx (qq k : Int) a).1)] hK rfl rfl rfl ?_
    refine w_il hK rfl rfl ?_
    refine w_ic hK rfl ?_
    refine w_ne2 hK rfl (by omega) (by omega) (by omega) (by omega) (fun h9 => ?_) (fun h9 => ?_)
    · have eat_ : atn tx (qq k : Int) a = (rdn tx (qq k : Int) a).2.1 := if_neg (by omega)
      have etx_ : tx (atn tx (qq k : Int) a) = tx (rdn tx (qq k : Int) a).2.1 := by rw [eat_]
      refine w_al hK rfl rfl ?_
      refine w_il hK rfl rfl ?_
      refine w_il hK rfl rfl ?_
      refine w_iat hK rfl rfl (by decide) (by decide) (by omega) (by omega) ?_
      refine w_inc [(1, 161), (1, 180), (0, ((j : Int) + 1)), (0, (rdn tx (qq k : Int) a).1)] hK rfl rfl rfl (by omega) (by omega) rfl ?_
      refine w_al hK rfl rfl ?_
      refine w_geti (n := 29) (m := 29) hK rfl rfl (by decide) (by decide) rfl rfl rfl rfl ?_
      rw [show (up V525 180 (j : Int) ((rdn tx (qq k : Int) a).1)) 161 29 = (atn tx (qq k : Int) a) from ((congrFun (up_row (by decide)) 29).trans a525_)]
      refine w_al hK rfl rfl ?_
      refine w_geti (n := 30) (m := 30) hK rfl rfl (by decide) (by decide) rfl rfl rfl rfl ?_
      rw [show (up V525 180 (j : Int) ((rdn tx (qq k : Int) a).1)) 161 30 = n from (((congrFun (up_row (by decide)) 30).trans ((G525 30 (by decide)).trans ((hHN4 30 (by decide)).trans (congrFun (S524 161 (notR rfl)) 30)))).trans T.1.1)]
      refine w_ne2 hK rfl (by omega) (by omega) (by omega) (by omega) (fun h21 => ?_) (fun h21 => ?_)
      · refine w_al hK rfl rfl ?_
        refine w_call [(1, 161)] hK rfl rfl rfl rfl (Or.inr ⟨_, _, _, rfl, by decide, (by decide), rfl⟩) (r_here (TL.keep T ((congrFun (up_row (by decide)) 30).trans ((G525 30 (by decide)).trans ((hHN4 30 (by decide)).trans (congrFun (S524 161 (notR rfl)) 30)))) ((up_row (by decide)).trans ((F525 168 (by decide)).trans ((hSN4 168 (notR rfl) (by decide)).trans (S524 168 (notR rfl)))))) ((congrFun (up_row (by decide)) 29).trans a525_) (by omega) (by omega)) ?_
        rintro _ Mq ⟨rfl, e_⟩
        subst Mq
        have tI_526 := T.I (atn tx (qq k : Int) a)
        refine ⟨(by show (0 : Nat) ≠ 9; decide), (?_ : Wp 198 _ 216 26 [(1, 161), (1, 180), (0, ((j : Int) + 1)), (0, (rdn tx (qq k : Int) a).1)] [(0, (tx (atn tx (qq k : Int) a)))] (up V525 180 (j : Int) ((rdn tx (qq k : Int) a).1)) _)⟩
        refine w_ic hK rfl ?_
        refine w_ne2 hK rfl (by omega) (by omega) (by omega) (by omega) (fun h27 => ?_) (fun h27 => ?_)
        · refine w_ic hK rfl ?_
          refine w_iret hK rfl rfl ?_
          have e_ : rds (k := k) tx (qq k : Int) n 9 0 pz = ((rdn tx (qq k : Int) a).2.1, up1 f j (el k (rdn tx (qq k : Int) a).1.toNat)) := by rw [hrd_, rds_at (by omega), if_neg (by omega), if_neg (by omega), if_pos (by omega)]
          rw [e_]
          exact ⟨_, 0, Or.inr ⟨by show 0 ≤ (rdn tx (qq k : Int) a).2.1; omega, rfl, (((congrFun (up_row (by decide)) 29).trans a525_)).trans (if_neg (by omega))⟩, (RS.up (RS.cg hCR1 (fun j_ h1_ h2_ => G525 j_ (by omega)) (fun a_ h1_ h2_ => F525 a_ h1_)) ⟨(isR_of (p := 180) rfl), ho1_⟩ (j := j) (by omega) (by omega) (e := (el k (((rdn tx (qq k : Int) a).1)).toNat)) (elI (k := k) (c := ((rdn tx (qq k : Int) a).1)) (by omega) (by omega)).symm), (fun a nr_ n161_ => ((up_row (nr_ 180 (isR_of (p := 180) rfl))).trans ((F525 a n161_).trans ((hSN4 a nr_ n161_).trans (S524 a nr_))))), (fun j n29_ => ((congrFun (up_row (by decide)) j).trans ((G525 j n29_).trans ((hHN4 j n29_).trans (congrFun (S524 161 (notR rfl)) j))))), (fun p pn180_ => ((pu_ne (P := R1) (f := up1 f j (el k (((rdn tx (qq k : Int) a).1)).toNat)) (show p ≠ 180 by omega)).trans ((hGR1 p pn180_).trans (F524 p pn180_))))⟩
        · refine w_il hK rfl rfl ?_
          refine w_ic hK rfl ?_
          refine w_ne2 hK rfl (by omega) (by omega) (by omega) (by omega) (fun h30 => ?_) (fun h30 => ?_)
          · refine w_al hK rfl rfl ?_
            refine w_dup hK rfl rfl ?_
            refine w_geti (n := 29) (m := 29) hK rfl rfl (by decide) (by decide) rfl rfl rfl rfl ?_
            rw [show (up V525 180 (j : Int) ((rdn tx (qq k : Int) a).1)) 161 29 = (atn tx (qq k : Int) a) from ((congrFun (up_row (by decide)) 29).trans a525_)]
            refine w_ic hK rfl ?_
            refine w_add hK rfl (by omega) (by omega) ?_
            refine w_puti (n := 29) (m := 29) hK rfl rfl (by decide) (by decide) rfl rfl rfl rfl ?_
            refine w_goto hK rfl ?_
            exact ih4 _ (by omega) (j + 1) ((rdn tx (qq k : Int) a).2.1 + 1) _ (0, (rdn tx (qq k : Int) a).1) _ (up (up V525 180 (j : Int) ((rdn tx (qq k : Int) a).1)) 161 29 ((atn tx (qq k : Int) a) + 1)) rfl (by omega) (by omega) (up_eq.trans (by rw [eat_])) (by rw [hrd_, rds_at (by omega), if_neg (by omega), if_neg (by omega), if_neg (by omega)]) (RS.cg (RS.up (RS.cg hCR1 (fun j_ h1_ h2_ => G525 j_ (by omega)) (fun a_ h1_ h2_ => F525 a_ h1_)) ⟨(isR_of (p := 180) rfl), ho1_⟩ (j := j) (by omega) (by omega) (e := (el k (((rdn tx (qq k : Int) a).1)).toNat)) (elI (k := k) (c := ((rdn tx (qq k : Int) a).1)) (by omega) (by omega)).symm) (fun j_ h1_ h2_ => up_ne2 (by omega)) (fun a_ h1_ h2_ => up_row h1_)) (pu_eq) (fun p pn180_ => ((pu_ne (P := R1) (f := up1 f j (el k (((rdn tx (qq k : Int) a).1)).toNat)) (show p ≠ 180 by omega)).trans (hGR1 p pn180_))) (fun a nr_ n161_ => ((up_row n161_).trans ((up_row (nr_ 180 (isR_of (p := 180) rfl))).trans ((F525 a n161_).trans (hSN4 a nr_ n161_))))) (fun j n29_ => ((up_ne2 n29_).trans ((congrFun (up_row (by decide)) j).trans ((G525 j n29_).trans (hHN4 j n29_)))))
          · refine w_ic hK rfl ?_
            refine w_iret hK rfl rfl ?_
            have e_ : rds (k := k) tx (qq k : Int) n 9 0 pz = ((rdn tx (qq k : Int) a).2.1, up1 f j (el k (rdn tx (qq k : Int) a).1.toNat)) := by rw [hrd_, rds_at (by omega), if_neg (by omega), if_neg (by omega), if_pos (by omega)]
            rw [e_]
            exact ⟨_, 0, Or.inr ⟨by show 0 ≤ (rdn tx (qq k : Int) a).2.1; omega, rfl, (((congrFun (up_row (by decide)) 29).trans a525_)).trans (if_neg (by omega))⟩, (RS.up (RS.cg hCR1 (fun j_ h1_ h2_ => G525 j_ (by omega)) (fun a_ h1_ h2_ => F525 a_ h1_)) ⟨(isR_of (p := 180) rfl), ho1_⟩ (j := j) (by omega) (by omega) (e := (el k (((rdn tx (qq k : Int) a).1)).toNat)) (elI (k := k) (c := ((rdn tx (qq k : Int) a).1)) (by omega) (by omega)).symm), (fun a nr_ n161_ => ((up_row (nr_ 180 (isR_of (p := 180) rfl))).trans ((F525 a n161_).trans ((hSN4 a nr_ n161_).trans (S524 a nr_))))), (fun j n29_ => ((congrFun (up_row (by decide)) j).trans ((G525 j n29_).trans ((hHN4 j n29_).trans (congrFun (S524 161 (notR rfl)) j))))), (fun p pn180_ => ((pu_ne (P := R1) (f := up1 f j (el k (((rdn tx (qq k : Int) a).1)).toNat)) (show p ≠ 180 by omega)).trans ((hGR1 p pn180_).trans (F524 p pn180_))))⟩
      · refine w_il hK rfl rfl ?_
        refine w_iret hK rfl rfl ?_
        have e_ : rds (k := k) tx (qq k : Int) n 9 0 pz = (-1, up1 f j (el k (rdn tx (qq k : Int) a).1.toNat)) := by rw [hrd_, rds_at (by omega), if_neg (by omega), if_pos (by omega)]
        rw [e_]
        exact ⟨_, (j : Int) + 1, Or.inl ⟨rfl, rfl, by omega, by omega, pu_eq⟩, (RS.up (RS.cg hCR1 (fun j_ h1_ h2_ => G525 j_ (by omega)) (fun a_ h1_ h2_ => F525 a_ h1_)) ⟨(isR_of (p := 180) rfl), ho1_⟩ (j := j) (by omega) (by omega) (e := (el k (((rdn tx (qq k : Int) a).1)).toNat)) (elI (k := k) (c := ((rdn tx (qq k : Int) a).1)) (by omega) (by omega)).symm), (fun a nr_ n161_ => ((up_row (nr_ 180 (isR_of (p := 180) rfl))).trans ((F525 a n161_).trans ((hSN4 a nr_ n161_).trans (S524 a nr_))))), (fun j n29_ => ((congrFun (up_row (by decide)) j).trans ((G525 j n29_).trans ((hHN4 j n29_).trans (congrFun (S524 161 (notR rfl)) j))))), (fun p pn180_ => ((pu_ne (P := R1) (f := up1 f j (el k (((rdn tx (qq k : Int) a).1)).toNat)) (show p ≠ 180 by omega)).trans ((hGR1 p pn180_).trans (F524 p pn180_))))⟩
    · refine w_ic hK rfl ?_
      refine w_iret hK rfl rfl ?_
      have e_ : rds (k := k) tx (qq k : Int) n 9 0 pz = ((rdn tx (qq k : Int) a).2.2, f) := by rw [hrd_, rds_at (by omega), if_pos (by omega)]
      rw [e_]
      exact ⟨_, 0, Or.inr ⟨by show 0 ≤ (rdn tx (qq k : Int) a).2.2; omega, rfl, (a525_).trans (if_pos (by omega))⟩, (RS.cg hCR1 (fun j_ h1_ h2_ => G525 j_ (by omega)) (fun a_ h1_ h2_ => F525 a_ h1_)), (fun a nr_ n161_ => ((F525 a n161_).trans ((hSN4 a nr_ n161_).trans (S524 a nr_)))), (fun j n29_ => ((G525 j n29_).trans ((hHN4 j n29_).trans (congrFun (S524 161 (notR rfl)) j)))), (fun p pn180_ => ((hGR1 p pn180_).trans (F524 p pn180_)))⟩
  exact lp4 _ 0 0 pz (3, 0) _ V524 rfl (by omega) (by omega) ((congrFun (S524 161 (notR rfl)) 29).trans ha) rfl C524 (f524_0) (fun p pn180_ => rfl) (fun a nr_ n161_ => rfl) (fun j n29_ => rfl)
set_option maxRecDepth 100000 in
theorem ro_tells {d : Nat} {M : Mem} {k : Nat} {pl : Nat → Pl k} {n : Int} {tx : Int → Int} {rc : Nat} {rw : Int → Int} {fc : Nat} {fa : Nat → Pl k} (H : RFS M k pl n tx rc rw fc fa) (i : Nat) (hi : i < 6) (hf_ : (rds (k := k) tx (qq k : Int) n 9 0 pz).1 < 0) : Ct 198 (d + 8) 215 [(1, 161), (0, (i : Int))] M (fun r_ M' => r_ = (0, (dg (rds (k := k) tx (qq k : Int) n 9 0 pz).2)) ∧ RFS M' k (fup pl i (rds (k := k) tx (qq k : Int) n 9 0 pz).2) 0 (txC tx 0) rc rw fc fa ∧ (∀ a : Int, (a < 161 ∨ 197 < a) → M' a = M a)) := by
  have hK : cd 215 = k215 := rfl
  obtain ⟨R, C, hpl, T, hR, hF⟩ := H
  have q1_ := qq_I k
  have p1_ := pp_I k
  have m1_ := mm_I k
  have bi_ := (hpl i hi).2
  have di_ := dg_lt9 bi_
  have tn_ := T.1.2
  show Wp 198 _ 215 0 [(1, 161), (0, (i : Int))] [] M _
  refine w_al hK rfl rfl ?_
  refine w_ic hK rfl ?_
  refine w_puti (n := 14) (m := 14) hK rfl rfl (by decide) (by decide) rfl rfl rfl rfl ?_
  refine w_al hK rfl rfl ?_
  refine w_al hK rfl rfl ?_
  refine w_geti (n := 11) (m := 11) hK rfl rfl (by decide) (by decide) rfl rfl rfl rfl ?_
  rw [show (up M 161 14 0) 161 11 = n from (TMs.keep T (up_ne2 (by decide)) (up_row (by decide))).1.1]
  refine w_puti (n := 30) (m := 30) hK rfl rfl (by decide) (by decide) rfl rfl rfl rfl ?_
  refine w_al hK rfl rfl ?_
  refine w_ic hK rfl ?_
  refine w_puti (n := 11) (m := 11) hK rfl rfl (by decide) (by decide) rfl rfl rfl rfl ?_
  refine w_al hK rfl rfl ?_
  refine w_ic hK rfl ?_
  refine w_puti (n := 29) (m := 29) hK rfl rfl (by decide) (by decide) rfl rfl rfl rfl ?_
  refine w_al hK rfl rfl ?_
  refine w_al hK rfl rfl ?_
  refine w_getr (n := 26) (v := 180) hK rfl rfl (by decide) (by decide) rfl rfl rfl rfl ?_
  refine w_call [(1, 161), (1, 180)] hK rfl rfl rfl rfl (Or.inr ⟨_, _, _, rfl, by decide, (by decide), rfl⟩) (r_rdns (RS.cg (RS.cg (RS.cg (RS.cg C (fun j_ h1_ h2_ => up_ne2 (by omega)) (fun a_ h1_ h2_ => up_row h1_)) (fun j_ h1_ h2_ => up_ne2 (by omega)) (fun a_ h1_ h2_ => up_row h1_)) (fun j_ h1_ h2_ => up_ne2 (by omega)) (fun a_ h1_ h2_ => up_row h1_)) (fun j_ h1_ h2_ => up_ne2 (by omega)) (fun a_ h1_ h2_ => up_row h1_)) (TMs.TL T ((up_ne2 (by omega)).trans ((up_ne2 (by omega)).trans up_eq)) ((up_row (by decide)).trans ((up_row (by decide)).trans ((up_row (by decide)).trans (up_row (by decide)))))) up_eq) ?_
  rintro r_ V527 ⟨P527, c_, hor_, C527, S527, G527, F527⟩
  rcases hor_ with ⟨h1_, rfl, h2_, h3_, h4_⟩ | ⟨h1_, rfl, h2_⟩
  · refine ⟨(by show (0 : Nat) ≠ 9; decide), (?_ : Wp 198 _ 215 17 [(1, 161), (0, (i : Int))] [(0, c_)] V527 _)⟩
    refine w_ic hK rfl ?_
    refine w_ne2 hK rfl (by omega) (by omega) (by omega) (by omega) (fun h18 => ?_) (fun h18 => ?_)
    · refine w_il hK rfl rfl ?_
      refine w_call [(0, (i : Int))] hK rfl rfl rfl rfl (Or.inl rfl) (r_place (i : Int) (by omega) (by omega)) ?_
      rintro _ Mq ⟨rfl, e_⟩
      subst Mq
      have pI_528 := ite01 (0 ≤ (i : Int) ∧ (i : Int) < 6)
      refine ⟨by show (0 : Nat) ≠ 9; decide, (?_ : Wp 198 _ 215 26 [(1, 161), (0, (i : Int))] [(0, (if 0 ≤ (i : Int) ∧ (i : Int) < 6 then 1 else 0))] V527 _)⟩
      refine w_eq hK rfl (by omega) (by omega) (fun h26 => ?_) (fun h26 => ?_)
      · exfalso; omega
      · refine w_al hK rfl rfl ?_
        refine w_al hK rfl rfl ?_
        refine w_getr (n := 26) (v := 180) hK rfl rfl (by decide) (by decide) rfl rfl rfl rfl ?_
        refine w_il hK rfl rfl ?_
        refine w_call [(1, 161), (1, 180), (0, (i : Int))] hK rfl rfl rfl rfl (Or.inr ⟨_, _, _, rfl, by decide, (by decide), rfl⟩) (r_store C527 (PM.keep hpl ((S527 167 (notR rfl) (by decide)).trans ((up_row (by decide)).trans ((up_row (by decide)).trans ((up_row (by decide)).trans (up_row (by decide))))))) ⟨(isR_of (p := 180) rfl), h4_⟩ i hi (rds_bd 9 0 pz (by decide) (fun _ _ => rfl))) ?_
        rintro _ V529 ⟨rfl, C529, Q529, F529⟩
        refine ⟨(by show (0 : Nat) ≠ 9; decide), (?_ : Wp 198 _ 215 32 [(1, 161), (0, (i : Int))] [(0, (dg ((rds (k := k) tx (qq k : Int) n 9 0 pz).2)))] V529 _)⟩
        refine w_goto hK rfl ?_
        refine w_iret hK rfl rfl ?_
        exact ⟨rfl, ⟨_, C529, Q529, (TMs.keep (TMs.cut T (by decide) (by omega) ((up_ne2 (by omega)).trans up_eq) ((up_row (by decide)).trans ((up_row (by decide)).trans ((up_row (by decide)).trans (up_row (by decide)))))) ((congrFun (F529 161 (by decide)) 11).trans (G527 11 (by decide))) ((F529 168 (by decide)).trans (S527 168 (notR rfl) (by decide)))), (RM.keep hR ((congrFun (F529 161 (by decide)) 13).trans ((G527 13 (by decide)).trans ((up_ne2 (by decide)).trans ((up_ne2 (by decide)).trans ((up_ne2 (by decide)).trans (up_ne2 (by decide))))))) ((F529 169 (by decide)).trans ((S527 169 (notR rfl) (by decide)).trans ((up_row (by decide)).trans ((up_row (by decide)).trans ((up_row (by decide)).trans (up_row (by decide)))))))), (FM.keep hF ((congrFun (F529 161 (by decide)) 15).trans ((G527 15 (by decide)).trans ((up_ne2 (by decide)).trans ((up_ne2 (by decide)).trans ((up_ne2 (by decide)).trans (up_ne2 (by decide))))))) ((F529 189 (by decide)).trans ((S527 189 (notR rfl) (by decide)).trans ((up_row (by decide)).trans ((up_row (by decide)).trans ((up_row (by decide)).trans (up_row (by decide))))))) ((F529 190 (by decide)).trans ((S527 190 (notR rfl) (by decide)).trans ((up_row (by decide)).trans ((up_row (by decide)).trans ((up_row (by decide)).trans (up_row (by decide))))))))⟩, (fun a h_ => ((F529 a (by omega)).trans ((S527 a (npR h_) (by omega)).trans ((up_row (by omega)).trans ((up_row (by omega)).trans ((up_row (by omega)).trans (up_row (by omega))))))))⟩
    · exfalso; omega
  · exfalso; omega
set_option maxRecDepth 100000 in
theorem rn_tells {d : Nat} {M : Mem} {k : Nat} {pl : Nat → Pl k} {n : Int} {tx : Int → Int} {rc : Nat} {rw : Int → Int} {fc : Nat} {fa : Nat → Pl k} (H : RFS M k pl n tx rc rw fc fa) (i : Int) (i1_ : -2147483648 ≤ i) (i2_ : i ≤ 2147483647) (hf_ : (rds (k := k) tx (qq k : Int) n 9 0 pz).1 < 0) (hn : ¬ (0 ≤ i ∧ i < 6)) : Ct 198 (d + 8) 215 [(1, 161), (0, i)] M (fun r_ M' => r_ = (0, (-100)) ∧ RFS M' k pl 0 (txC tx 0) rc rw fc fa ∧ (∀ a : Int, (a < 161 ∨ 197 < a) → M' a = M a)) := by
  have hK : cd 215 = k215 := rfl
  obtain ⟨R, C, hpl, T, hR, hF⟩ := H
  have q1_ := qq_I k
  have p1_ := pp_I k
  have m1_ := mm_I k
  have tn_ := T.1.2
  show Wp 198 _ 215 0 [(1, 161), (0, i)] [] M _
  refine w_al hK rfl rfl ?_
  refine w_ic hK rfl ?_
  refine w_puti (n := 14) (m := 14) hK rfl rfl (by decide) (by decide) rfl rfl rfl rfl ?_
  refine w_al hK rfl rfl ?_
  refine w_al hK rfl rfl ?_
  refine w_geti (n := 11) (m := 11) hK rfl rfl (by decide) (by decide) rfl rfl rfl rfl ?_
  rw [show (up M 161 14 0) 161 11 = n from (TMs.keep T (up_ne2 (by decide)) (up_row (by decide))).1.1]
  refine w_puti (n := 30) (m := 30) hK rfl rfl (by decide) (by decide) rfl rfl rfl rfl ?_
  refine w_al hK rfl rfl ?_
  refine w_ic hK rfl ?_
  refine w_puti (n := 11) (m := 11) hK rfl rfl (by decide) (by decide) rfl rfl rfl rfl ?_
  refine w_al hK rfl rfl ?_
  refine w_ic hK rfl ?_
  refine w_puti (n := 29) (m := 29) hK rfl rfl (by decide) (by decide) rfl rfl rfl rfl ?_
  refine w_al hK rfl rfl ?_
  refine w_al hK rfl rfl ?_
  refine w_getr (n := 26) (v := 180) hK rfl rfl (by decide) (by decide) rfl rfl rfl rfl ?_
  refine w_call [(1, 161), (1, 180)] hK rfl rfl rfl rfl (Or.inr ⟨_, _, _, rfl, by decide, (by decide), rfl⟩) (r_rdns (RS.cg (RS.cg (RS.cg (RS.cg C (fun j_ h1_ h2_ => up_ne2 (by omega)) (fun a_ h1_ h2_ => up_row h1_)) (fun j_ h1_ h2_ => up_ne2 (by omega)) (fun a_ h1_ h2_ => up_row h1_)) (fun j_ h1_ h2_ => up_ne2 (by omega)) (fun a_ h1_ h2_ => up_row h1_)) (fun j_ h1_ h2_ => up_ne2 (by omega)) (fun a_ h1_ h2_ => up_row h1_)) (TMs.TL T ((up_ne2 (by omega)).trans ((up_ne2 (by omega)).trans up_eq)) ((up_row (by decide)).trans ((up_row (by decide)).trans ((up_row (by decide)).trans (up_row (by decide)))))) up_eq) ?_
  rintro r_ V530 ⟨P530, c_, hor_, C530, S530, G530, F530⟩
  rcases hor_ with ⟨h1_, rfl, h2_, h3_, h4_⟩ | ⟨h1_, rfl, h2_⟩
  · refine ⟨(by show (0 : Nat) ≠ 9; decide), (?_ : Wp 198 _ 215 17 [(1, 161), (0, i)] [(0, c_)] V530 _)⟩
    refine w_ic hK rfl ?_
    refine w_ne2 hK rfl (by omega) (by omega) (by omega) (by omega) (fun h18 => ?_) (fun h18 => ?_)
    · refine w_il hK rfl rfl ?_
      refine w_call [(0, i)] hK rfl rfl rfl rfl (Or.inl rfl) (r_place i (by omega) (by omega)) ?_
      rintro _ Mq ⟨rfl, e_⟩
      subst Mq
      have pI_531 := ite01 (0 ≤ i ∧ i < 6)
      refine ⟨by show (0 : Nat) ≠ 9; decide, (?_ : Wp 198 _ 215 26 [(1, 161), (0, i)] [(0, (if 0 ≤ i ∧ i < 6 then 1 else 0))] V530 _)⟩
      refine w_eq hK rfl (by omega) (by omega) (fun h26 => ?_) (fun h26 => ?_)
      · refine w_ic hK rfl ?_
        refine w_iret hK rfl rfl ?_
        exact ⟨rfl, ⟨_, C530, (PM.keep hpl ((S530 167 (notR rfl) (by decide)).trans ((up_row (by decide)).trans ((up_row (by decide)).trans ((up_row (by decide)).trans (up_row (by decide))))))), (TMs.keep (TMs.cut T (by decide) (by omega) ((up_ne2 (by omega)).trans up_eq) ((up_row (by decide)).trans ((up_row (by decide)).trans ((up_row (by decide)).trans (up_row (by decide)))))) (G530 11 (by decide)) (S530 168 (notR rfl) (by decide))), (RM.keep hR ((G530 13 (by decide)).trans ((up_ne2 (by decide)).trans ((up_ne2 (by decide)).trans ((up_ne2 (by decide)).trans (up_ne2 (by decide)))))) ((S530 169 (notR rfl) (by decide)).trans ((up_row (by decide)).trans ((up_row (by decide)).trans ((up_row (by decide)).trans (up_row (by decide))))))), (FM.keep hF ((G530 15 (by decide)).trans ((up_ne2 (by decide)).trans ((up_ne2 (by decide)).trans ((up_ne2 (by decide)).trans (up_ne2 (by decide)))))) ((S530 189 (notR rfl) (by decide)).trans ((up_row (by decide)).trans ((up_row (by decide)).trans ((up_row (by decide)).trans (up_row (by decide)))))) ((S530 190 (notR rfl) (by decide)).trans ((up_row (by decide)).trans ((up_row (by decide)).trans ((up_row (by decide)).trans (up_row (by decide)))))))⟩, (fun a h_ => ((S530 a (npR h_) (by omega)).trans ((up_row (by omega)).trans ((up_row (by omega)).trans ((up_row (by omega)).trans (up_row (by omega)))))))⟩
      · exfalso; omega
    · exfalso; omega
  · exfalso; omega
set_option maxRecDepth 100000 in
theorem rz_tells {d : Nat} {M : Mem} {k : Nat} {pl : Nat → Pl k} {n : Int} {tx : Int → Int} {rc : Nat} {rw : Int → Int} {fc : Nat} {fa : Nat → Pl k} (H : RFS M k pl n tx rc rw fc fa) (i : Int) (i1_ : -2147483648 ≤ i) (i2_ : i ≤ 2147483647) (hf_ : 0 ≤ (rds (k := k) tx (qq k : Int) n 9 0 pz).1) : Ct 198 (d + 8) 215 [(1, 161), (0, i)] M (fun r_ M' => r_ = (0, (-21 - (rds (k := k) tx (qq k : Int) n 9 0 pz).1)) ∧ RFS M' k pl 0 (txC tx 0) rc rw fc fa ∧ (∀ a : Int, (a < 161 ∨ 197 < a) → M' a = M a)) := by
  have hK : cd 215 = k215 := rfl
  obtain ⟨R, C, hpl, T, hR, hF⟩ := H
  have q1_ := qq_I k
  have p1_ := pp_I k
  have m1_ := mm_I k
  have tn_ := T.1.2
  have rI_ := rds_I (k := k) T.TX (q := (qq k : Int)) (by omega) 9 0 pz (by omega) (by omega)
  show Wp 198 _ 215 0 [(1, 161), (0, i)] [] M _
  refine w_al hK rfl rfl ?_
  refine w_ic hK rfl ?_
  refine w_puti (n := 14) (m := 14) hK rfl rfl (by decide) (by decide) rfl rfl rfl rfl ?_
  refine w_al hK rfl rfl ?_
  refine w_al hK rfl rfl ?_
  refine w_geti (n := 11) (m := 11) hK rfl rfl (by decide) (by decide) rfl rfl rfl rfl ?_
  rw [show (up M 161 14 0) 161 11 = n from (TMs.keep T (up_ne2 (by decide)) (up_row (by decide))).1.1]
  refine w_puti (n := 30) (m := 30) hK rfl rfl (by decide) (by decide) rfl rfl rfl rfl ?_
  refine w_al hK rfl rfl ?_
  refine w_ic hK rfl ?_
  refine w_puti (n := 11) (m := 11) hK rfl rfl (by decide) (by decide) rfl rfl rfl rfl ?_
  refine w_al hK rfl rfl ?_
  refine w_ic hK rfl ?_
  refine w_puti (n := 29) (m := 29) hK rfl rfl (by decide) (by decide) rfl rfl rfl rfl ?_
  refine w_al hK rfl rfl ?_
  refine w_al hK rfl rfl ?_
  refine w_getr (n := 26) (v := 180) hK rfl rfl (by decide) (by decide) rfl rfl rfl rfl ?_
  refine w_call [(1, 161), (1, 180)] hK rfl rfl rfl rfl (Or.inr ⟨_, _, _, rfl, by decide, (by decide), rfl⟩) (r_rdns (RS.cg (RS.cg (RS.cg (RS.cg C (fun j_ h1_ h2_ => up_ne2 (by omega)) (fun a_ h1_ h2_ => up_row h1_)) (fun j_ h1_ h2_ => up_ne2 (by omega)) (fun a_ h1_ h2_ => up_row h1_)) (fun j_ h1_ h2_ => up_ne2 (by omega)) (fun a_ h1_ h2_ => up_row h1_)) (fun j_ h1_ h2_ => up_ne2 (by omega)) (fun a_ h1_ h2_ => up_row h1_)) (TMs.TL T ((up_ne2 (by omega)).trans ((up_ne2 (by omega)).trans up_eq)) ((up_row (by decide)).trans ((up_row (by decide)).trans ((up_row (by decide)).trans (up_row (by decide)))))) up_eq) ?_
  rintro r_ V532 ⟨P532, c_, hor_, C532, S532, G532, F532⟩
  rcases hor_ with ⟨h1_, rfl, h2_, h3_, h4_⟩ | ⟨h1_, rfl, h2_⟩
  · exfalso; omega
  · refine ⟨(by show (0 : Nat) ≠ 9; decide), (?_ : Wp 198 _ 215 17 [(1, 161), (0, i)] [(0, (-1))] V532 _)⟩
    refine w_ic hK rfl ?_
    refine w_ne2 hK rfl (by omega) (by omega) (by omega) (by omega) (fun h18 => ?_) (fun h18 => ?_)
    · exfalso; omega
    · refine w_ic hK rfl ?_
      refine w_al hK rfl rfl ?_
      refine w_geti (n := 29) (m := 29) hK rfl rfl (by decide) (by decide) rfl rfl rfl rfl ?_
      rw [show V532 161 29 = (rds (k := k) tx (qq k : Int) n 9 0 pz).1 from h2_]
      refine w_sub hK rfl (by omega) (by omega) ?_
      refine w_iret hK rfl rfl ?_
      exact ⟨rfl, ⟨_, C532, (PM.keep hpl ((S532 167 (notR rfl) (by decide)).trans ((up_row (by decide)).trans ((up_row (by decide)).trans ((up_row (by decide)).trans (up_row (by decide))))))), (TMs.keep (TMs.cut T (by decide) (by omega) ((up_ne2 (by omega)).trans up_eq) ((up_row (by decide)).trans ((up_row (by decide)).trans ((up_row (by decide)).trans (up_row (by decide)))))) (G532 11 (by decide)) (S532 168 (notR rfl) (by decide))), (RM.keep hR ((G532 13 (by decide)).trans ((up_ne2 (by decide)).trans ((up_ne2 (by decide)).trans ((up_ne2 (by decide)).trans (up_ne2 (by decide)))))) ((S532 169 (notR rfl) (by decide)).trans ((up_row (by decide)).trans ((up_row (by decide)).trans ((up_row (by decide)).trans (up_row (by decide))))))), (FM.keep hF ((G532 15 (by decide)).trans ((up_ne2 (by decide)).trans ((up_ne2 (by decide)).trans ((up_ne2 (by decide)).trans (up_ne2 (by decide)))))) ((S532 189 (notR rfl) (by decide)).trans ((up_row (by decide)).trans ((up_row (by decide)).trans ((up_row (by decide)).trans (up_row (by decide)))))) ((S532 190 (notR rfl) (by decide)).trans ((up_row (by decide)).trans ((up_row (by decide)).trans ((up_row (by decide)).trans (up_row (by decide)))))))⟩, (fun a h_ => ((S532 a (npR h_) (by omega)).trans ((up_row (by omega)).trans ((up_row (by omega)).trans ((up_row (by omega)).trans (up_row (by omega)))))))⟩
set_option maxRecDepth 100000 in
theorem r_isT {d : Nat} {M : Mem} (v : Int) (v1 : -2147483648 ≤ v) (v2 : v ≤ 2147483647) {c : Nat} (hc : c ≤ 6) {pt : Int → Int} (hp : M 185 = pt) {q : Int} (hq : q ≤ 16) (hN : Nq q pt c) : Ct 198 (d) 273 [(1, 161), (0, v), (0, (c : Int))] M (fun r M' => r = (0, bz (IsPt pt c v)) ∧ M' = M) := by
  have hK : cd 273 = k273 := rfl
  show Wp 198 _ 273 0 [(1, 161), (0, v), (0, (c : Int)), (3, 0)] [] M _
  refine w_ic hK rfl ?_
  refine w_is [(1, 161), (0, v), (0, (c : Int)), (0, 0)] hK rfl rfl rfl ?_
  have lp2 : ∀ (n_ : Nat) (i : Nat), 7 - i = n_ → (i ≤ c) → (∀ j : Nat, j < i → pt (j : Int) ≠ v) → Wp 198 (d) 273 2 [(1, 161), (0, v), (0, (c : Int)), (0, (i : Int))] [] M (fun r M' => r = (0, bz (IsPt pt c v)) ∧ M' = M) := by
    intro n_
    induction n_ using Nat.strongRecOn with
    | _ n_ ih2 =>
    intro i  hm2 hi hz
    refine w_il hK rfl rfl ?_
    refine w_il hK rfl rfl ?_
    refine w_ge2 hK rfl (by omega) (by omega) (by omega) (by omega) (fun h4 => ?_) (fun h4 => ?_)
    · refine w_ic hK rfl ?_
      refine w_zret hK rfl rfl (Or.inl rfl) ?_
      rw [bz_neg (fun q_ => by obtain ⟨j_, h1_, h2_⟩ := q_; exact hz j_ (by omega) h2_)]
      exact ⟨rfl, rfl⟩
    · refine w_al hK rfl rfl ?_
      refine w_getr (n := 33) (v := 185) hK rfl rfl (by decide) (by decide) rfl rfl rfl rfl ?_
      refine w_il hK rfl rfl ?_
      refine w_ia hK rfl rfl (by decide) (by decide) (by omega) (by omega) ?_
      rw [show M 185 (i : Int) = (pt (i : Int)) from (congrFun hp (i : Int))]
      refine w_il hK rfl rfl ?_
      have pn_ := hN i (by omega)
      refine w_ne2 hK rfl (by omega) (by omega) (by omega) (by omega) (fun h10 => ?_) (fun h10 => ?_)
      · refine w_inc [(1, 161), (0, v), (0, (c : Int)), (0, ((i : Int) + 1))] hK rfl rfl rfl (by omega) (by omega) rfl ?_
        refine w_goto hK rfl ?_
        exact ih2 _ (by omega) (i + 1)  rfl (by omega) (fun j hj => by
          by_cases q_ : j = i
          · rw [q_]; exact h10
          · exact hz j (by omega))
      · refine w_ic hK rfl ?_
        refine w_zret hK rfl rfl (Or.inr rfl) ?_
        rw [bz_pos ⟨i, by omega, by omega⟩]
        exact ⟨rfl, rfl⟩
  exact lp2 _ 0  rfl (by omega) (fun j hj => by omega)
theorem rdn_dec (tx : Int → Int) (q a : Int) (h : (rdn tx q a).1 ≠ -1) : (rdn tx q a).2.2 = (rdn tx q a).2.1 - 1 := by
  unfold rdn at h ⊢
  split at h
  · exact absurd rfl h
  · rename_i h1
    rw [if_neg h1]
    split at h
    · rename_i h2; rw [if_pos h2]; dsimp only; omega
    · rename_i h2
      rw [if_neg h2]
      split at h
      · rename_i h3; rw [if_pos h3]; dsimp only; omega
      · exact absurd rfl h
set_option maxRecDepth 100000 in
theorem r_rcs {d : Nat} {M : Mem} {k : Nat} {R : Int → Option (Pl k)} (C : RS M k R) {n : Int} {tx : Int → Int} (T : TL M n tx) (ha : M 161 29 = 0) : Ct 198 (d + 3) 272 [(1, 161)] M (fun r_ M' => (((rcs tx (qq k : Int) n 6 0 (M 185) (M 186)).1 = -1 ∧ r_ = (0, ((rcs tx (qq k : Int) n 6 0 (M 185) (M 186)).2.2.2 : Int)) ∧ (1 ≤ (rcs tx (qq k : Int) n 6 0 (M 185) (M 186)).2.2.2 ∧ (rcs tx (qq k : Int) n 6 0 (M 185) (M 186)).2.2.2 ≤ 6) ∧ M' 185 = (rcs tx (qq k : Int) n 6 0 (M 185) (M 186)).2.1 ∧ M' 186 = (rcs tx (qq k : Int) n 6 0 (M 185) (M 186)).2.2.1 ∧ Nq (qq k : Int) (rcs tx (qq k : Int) n 6 0 (M 185) (M 186)).2.1 (rcs tx (qq k : Int) n 6 0 (M 185) (M 186)).2.2.2 ∧ Nq (qq k : Int) (rcs tx (qq k : Int) n 6 0 (M 185) (M 186)).2.2.1 (rcs tx (qq k : Int) n 6 0 (M 185) (M 186)).2.2.2) ∨ (0 ≤ (rcs tx (qq k : Int) n 6 0 (M 185) (M 186)).1 ∧ r_ = (0, -1) ∧ M' 161 29 = (rcs tx (qq k : Int) n 6 0 (M 185) (M 186)).1)) ∧ (∀ a : Int, a ≠ 161 → a ≠ 185 → a ≠ 186 → M' a = M a) ∧ (∀ j : Int, j ≠ 29 → M' 161 j = M 161 j)) := by
  have hK : cd 272 = k272 := rfl
  have q1_ := qq_I k
  have p1_ := pp_I k
  have m1_ := mm_I k
  have tn_ := T.1.2
  show Wp 198 _ 272 0 [(1, 161), (3, 0), (3, 0), (3, 0)] [] M _
  refine w_ic hK rfl ?_
  refine w_is [(1, 161), (0, 0), (3, 0), (3, 0)] hK rfl rfl rfl ?_
  have lp2 : ∀ (n_ : Nat) (j : Nat) (a : Int) (pt wt : Int → Int) (w2 w3 : AV) (N2 : Mem), 6 - j = n_ → (j ≤ 5) → (0 ≤ a ∧ a ≤ n) → (N2 161 29 = a) → (N2 185 = pt) → (N2 186 = wt) → (Nq (qq k : Int) pt j) → (Nq (qq k : Int) wt j) → (rcs tx (qq k : Int) n 6 0 (M 185) (M 186) = rcs tx (qq k : Int) n (6 - j) a pt wt) → ((∀ a : Int, a ≠ 161 → a ≠ 185 → a ≠ 186 → N2 a = M a)) → ((∀ j : Int, j ≠ 29 → N2 161 j = M 161 j)) → Wp 198 (d + 3) 272 2 [(1, 161), (0, (j : Int)), w2, w3] [] N2 (fun r_ M' => (((rcs tx (qq k : Int) n 6 0 (M 185) (M 186)).1 = -1 ∧ r_ = (0, ((rcs tx (qq k : Int) n 6 0 (M 185) (M 186)).2.2.2 : Int)) ∧ (1 ≤ (rcs tx (qq k : Int) n 6 0 (M 185) (M 186)).2.2.2 ∧ (rcs tx (qq k : Int) n 6 0 (M 185) (M 186)).2.2.2 ≤ 6) ∧ M' 185 = (rcs tx (qq k : Int) n 6 0 (M 185) (M 186)).2.1 ∧ M' 186 = (rcs tx (qq k : Int) n 6 0 (M 185) (M 186)).2.2.1 ∧ Nq (qq k : Int) (rcs tx (qq k : Int) n 6 0 (M 185) (M 186)).2.1 (rcs tx (qq k : Int) n 6 0 (M 185) (M 186)).2.2.2 ∧ Nq (qq k : Int) (rcs tx (qq k : Int) n 6 0 (M 185) (M 186)).2.2.1 (rcs tx (qq k : Int) n 6 0 (M 185) (M 186)).2.2.2) ∨ (0 ≤ (rcs tx (qq k : Int) n 6 0 (M 185) (M 186)).1 ∧ r_ = (0, -1) ∧ M' 161 29 = (rcs tx (qq k : Int) n 6 0 (M 185) (M 186)).1)) ∧ (∀ a : Int, a ≠ 161 → a ≠ 185 → a ≠ 186 → M' a = M a) ∧ (∀ j : Int, j ≠ 29 → M' 161 j = M 161 j)) := by
    intro n_
    induction n_ using Nat.strongRecOn with
    | _ n_ ih2 =>
    intro j a pt wt w2 w3 N2 hm2 hj_ ha_ hat_ h185_ h186_ hN1_ hN2_ hrd_ hSN2 hHN2
    refine w_al hK rfl rfl ?_
    refine w_call [(1, 161)] hK rfl rfl rfl rfl (Or.inr ⟨_, _, _, rfl, by decide, (by decide), rfl⟩) (r_rnum (RS.cg C (fun j_ h1_ h2_ => hHN2 j_ (by omega)) (fun a_ h1_ h2_ => hSN2 a_ h1_ (RSc_ne h2_ (by decide) (notR rfl)) (RSc_ne h2_ (by decide) (notR rfl)))) (TL.keep T (hHN2 30 (by decide)) (hSN2 168 (by decide) (by decide) (by decide))) hat_ (by omega) (by omega)) ?_
    rintro _ V533 ⟨rfl, a533_, F533, G533⟩
    have rI_533 := rdn_I T.TX (qq k : Int) a (by omega) (by omega) (by omega)
    refine ⟨(by show (0 : Nat) ≠ 9; decide), (?_ : Wp 198 _ 272 4 [(1, 161), (0, (j : Int)), w2, w3] [(0, (rdn tx (qq k : Int) a).1)] V533 _)⟩
    refine w_is [(1, 161), (0, (j : Int)), (0, (rdn tx (qq k : Int) a).1), w3] hK rfl rfl rfl ?_
    refine w_il hK rfl rfl ?_
    refine w_ic hK rfl ?_
    refine w_ne2 hK rfl (by omega) (by omega) (by omega) (by omega) (fun h7 => ?_) (fun h7 => ?_)
    · have ea_ : atn tx (qq k : Int) a = (rdn tx (qq k : Int) a).2.1 := if_neg (by omega)
      have etx_ : tx (atn tx (qq k : Int) a) = tx (rdn tx (qq k : Int) a).2.1 := by rw [ea_]
      refine w_al hK rfl rfl ?_
      refine w_il hK rfl rfl ?_
      refine w_il hK rfl rfl ?_
      refine w_call [(1, 161), (0, (rdn tx (qq k : Int) a).1), (0, (j : Int))] hK rfl rfl rfl rfl (Or.inr ⟨_, _, _, rfl, by decide, (by decide), rfl⟩) (r_isT ((rdn tx (qq k : Int) a).1) (by omega) (by omega) (by omega) ((F533 185 (by decide)).trans h185_) (by omega) hN1_) ?_
      rintro _ Mq ⟨rfl, e_⟩
      subst Mq
      have z_534 := bz_01 (IsPt pt j ((rdn tx (qq k : Int) a).1))
      refine ⟨(by show (0 : Nat) ≠ 9; decide), (?_ : Wp 198 _ 272 14 [(1, 161), (0, (j : Int)), (0, (rdn tx (qq k : Int) a).1), w3] [(0, (bz (IsPt pt j ((rdn tx (qq k : Int) a).1))))] V533 _)⟩
      refine w_eq hK rfl (by omega) (by omega) (fun h14 => ?_) (fun h14 => ?_)
      · refine w_al hK rfl rfl ?_
        refine w_call [(1, 161)] hK rfl rfl rfl rfl (Or.inr ⟨_, _, _, rfl, by decide, (by decide), rfl⟩) (r_here (TL.keep T ((G533 30 (by decide)).trans (hHN2 30 (by decide))) ((F533 168 (by decide)).trans (hSN2 168 (by decide) (by decide) (by decide)))) a533_ (by omega) (by omega)) ?_
        rintro _ Mq ⟨rfl, e_⟩
        subst Mq
        have tI_535 := T.I (atn tx (qq k : Int) a)
        refine ⟨(by show (0 : Nat) ≠ 9; decide), (?_ : Wp 198 _ 272 25 [(1, 161), (0, (j : Int)), (0, (rdn tx (qq k : Int) a).1), w3] [(0, (tx (atn tx (qq k : Int) a)))] V533 _)⟩
        refine w_ic hK rfl ?_
        refine w_eq2 hK rfl (by omega) (by omega) (by omega) (by omega) (fun h26 => ?_) (fun h26 => ?_)
        · have etl_ := T.I (rdn tx (qq k : Int) a).2.1
          have ew_ : (atn tx (qq k : Int) a) + 1 = ((rdn tx (qq k : Int) a).2.1 + 1) := by rw [ea_]
          refine w_al hK rfl rfl ?_
          refine w_dup hK rfl rfl ?_
          refine w_geti (n := 29) (m := 29) hK rfl rfl (by decide) (by decide) rfl rfl rfl rfl ?_
          rw [show V533 161 29 = (atn tx (qq k : Int) a) from a533_]
          refine w_ic hK rfl ?_
          refine w_add hK rfl (by omega) (by omega) ?_
          refine w_puti (n := 29) (m := 29) hK rfl rfl (by decide) (by decide) rfl rfl rfl rfl ?_
          refine w_al hK rfl rfl ?_
          have pw_ : (up V533 161 29 ((atn tx (qq k : Int) a) + 1)) 161 29 = ((rdn tx (qq k : Int) a).2.1 + 1) := (up_eq).trans ew_
          refine w_call [(1, 161)] hK rfl rfl rfl rfl (Or.inr ⟨_, _, _, rfl, by decide, (by decide), rfl⟩) (r_rnum (RS.cg (RS.cg (RS.cg C (fun j_ h1_ h2_ => hHN2 j_ (by omega)) (fun a_ h1_ h2_ => hSN2 a_ h1_ (RSc_ne h2_ (by decide) (notR rfl)) (RSc_ne h2_ (by decide) (notR rfl)))) (fun j_ h1_ h2_ => G533 j_ (by omega)) (fun a_ h1_ h2_ => F533 a_ h1_)) (fun j_ h1_ h2_ => up_ne2 (by omega)) (fun a_ h1_ h2_ => up_row h1_)) (TL.keep T ((up_ne2 (by decide)).trans ((G533 30 (by decide)).trans (hHN2 30 (by decide)))) ((up_row (by decide)).trans ((F533 168 (by decide)).trans (hSN2 168 (by decide) (by decide) (by decide))))) pw_ (by omega) (by omega)) ?_
          rintro _ V536 ⟨rfl, a536_, F536, G536⟩
          have rI_536 := rdn_I T.TX (qq k : Int) ((rdn tx (qq k : Int) a).2.1 + 1) (by omega) (by omega) (by omega)
          refine ⟨(by show (0 : Nat) ≠ 9; decide), (?_ : Wp 198 _ 272 37 [(1, 161), (0, (j : Int)), (0, (rdn tx (qq k : Int) a).1), w3] [(0, (rdn tx (qq k : Int) ((rdn tx (qq k : Int) a).2.1 + 1)).1)] V536 _)⟩
          refine w_is [(1, 161), (0, (j : Int)), (0, (rdn tx (qq k : Int) a).1), (0, (rdn tx (qq k : Int) ((rdn tx (qq k : Int) a).2.1 + 1)).1)] hK rfl rfl rfl ?_
          refine w_il hK rfl rfl ?_
          refine w_ic hK rfl ?_
          refine w_ne2 hK rfl (by omega) (by omega) (by omega) (by omega) (fun h40 => ?_) (fun h40 => ?_)
          · have eb_ : (atn tx (qq k : Int) ((rdn tx (qq k : Int) a).2.1 + 1)) = (rdn tx (qq k : Int) ((rdn tx (qq k : Int) a).2.1 + 1)).2.1 := if_neg (by omega)
            have ebx_ : tx (atn tx (qq k : Int) ((rdn tx (qq k : Int) a).2.1 + 1)) = tx (rdn tx (qq k : Int) ((rdn tx (qq k : Int) a).2.1 + 1)).2.1 := by rw [eb_]
            have erc_ : rcp tx (qq k : Int) a pt j = (-1, (rdn tx (qq k : Int) ((rdn tx (qq k : Int) a).2.1 + 1)).2.1, (rdn tx (qq k : Int) a).1, (rdn tx (qq k : Int) ((rdn tx (qq k : Int) a).2.1 + 1)).1) := by unfold rcp; rw [if_neg (by omega), if_neg (by omega), if_neg (by omega)]
            refine w_al hK rfl rfl ?_
            refine w_getr (n := 33) (v := 185) hK rfl rfl (by decide) (by decide) rfl rfl rfl rfl ?_
            refine w_il hK rfl rfl ?_
            refine w_il hK rfl rfl ?_
            refine w_iat hK rfl rfl (by decide) (by decide) (by omega) (by omega) ?_
            refine w_al hK rfl rfl ?_
            refine w_getr (n := 34) (v := 186) hK rfl rfl (by decide) (by decide) rfl rfl rfl rfl ?_
            refine w_il hK rfl rfl ?_
            refine w_il hK rfl rfl ?_
            refine w_iat hK rfl rfl (by decide) (by decide) (by omega) (by omega) ?_
            refine w_inc [(1, 161), (0, ((j : Int) + 1)), (0, (rdn tx (qq k : Int) a).1), (0, (rdn tx (qq k : Int) ((rdn tx (qq k : Int) a).2.1 + 1)).1)] hK rfl rfl rfl (by omega) (by omega) rfl ?_
            refine w_al hK rfl rfl ?_
            refine w_geti (n := 29) (m := 29) hK rfl rfl (by decide) (by decide) rfl rfl rfl rfl ?_
            rw [show (up (up V536 185 (j : Int) ((rdn tx (qq k : Int) a).1)) 186 (j : Int) ((rdn tx (qq k : Int) ((rdn tx (qq k : Int) a).2.1 + 1)).1)) 161 29 = (atn tx (qq k : Int) ((rdn tx (qq k : Int) a).2.1 + 1)) from ((congrFun (up_row (by decide)) 29).trans ((congrFun (up_row (by decide)) 29).trans a536_))]
            refine w_al hK rfl rfl ?_
            refine w_geti (n := 30) (m := 30) hK rfl rfl (by decide) (by decide) rfl rfl rfl rfl ?_
            rw [show (up (up V536 185 (j : Int) ((rdn tx (qq k : Int) a).1)) 186 (j : Int) ((rdn tx (qq k : Int) ((rdn tx (qq k : Int) a).2.1 + 1)).1)) 161 30 = n from (((congrFun (up_row (by decide)) 30).trans ((congrFun (up_row (by decide)) 30).trans ((G536 30 (by decide)).trans ((up_ne2 (by decide)).trans ((G533 30 (by decide)).trans (hHN2 30 (by decide))))))).trans T.1.1)]
            refine w_ne2 hK rfl (by omega) (by omega) (by omega) (by omega) (fun h58 => ?_) (fun h58 => ?_)
            · refine w_al hK rfl rfl ?_
              refine w_call [(1, 161)] hK rfl rfl rfl rfl (Or.inr ⟨_, _, _, rfl, by decide, (by decide), rfl⟩) (r_here (TL.keep T ((congrFun (up_row (by decide)) 30).trans ((congrFun (up_row (by decide)) 30).trans ((G536 30 (by decide)).trans ((up_ne2 (by decide)).trans ((G533 30 (by decide)).trans (hHN2 30 (by decide))))))) ((up_row (by decide)).trans ((up_row (by decide)).trans ((F536 168 (by decide)).trans ((up_row (by decide)).trans ((F533 168 (by decide)).trans (hSN2 168 (by decide) (by decide) (by decide)))))))) ((congrFun (up_row (by decide)) 29).trans ((congrFun (up_row (by decide)) 29).trans a536_)) (by omega) (by omega)) ?_
              rintro _ Mq ⟨rfl, e_⟩
              subst Mq
              have tI_537 := T.I (atn tx (qq k : Int) ((rdn tx (qq k : Int) a).2.1 + 1))
              refine ⟨(by show (0 : Nat) ≠ 9; decide), (?_ : Wp 198 _ 272 63 [(1, 161), (0, ((j : Int) + 1)), (0, (rdn tx (qq k : Int) a).1), (0, (rdn tx (qq k : Int) ((rdn tx (qq k : Int) a).2.1 + 1)).1)] [(0, (tx (atn tx (qq k : Int) ((rdn tx (qq k : Int) a).2.1 + 1))))] (up (up V536 185 (j : Int) ((rdn tx (qq k : Int) a).1)) 186 (j : Int) ((rdn tx (qq k : Int) ((rdn tx (qq k : Int) a).2.1 + 1)).1)) _)⟩
              refine w_ic hK rfl ?_
              refine w_ne2 hK rfl (by omega) (by omega) (by omega) (by omega) (fun h64 => ?_) (fun h64 => ?_)
              · refine w_ic hK rfl ?_
                refine w_iret hK rfl rfl ?_
                have e_ : rcs tx (qq k : Int) n 6 0 (M 185) (M 186) = ((rdn tx (qq k : Int) ((rdn tx (qq k : Int) a).2.1 + 1)).2.1, pt, wt, 0) := by rw [hrd_, rcs_at (by omega), erc_, if_neg (fun q_ => q_ rfl), if_neg (by dsimp only; omega), if_pos (by dsimp only; omega)]
                rw [e_]
                exact ⟨Or.inr ⟨by show 0 ≤ (rdn tx (qq k : Int) ((rdn tx (qq k : Int) a).2.1 + 1)).2.1; omega, rfl, (((congrFun (up_row (by decide)) 29).trans ((congrFun (up_row (by decide)) 29).trans a536_))).trans eb_⟩, (fun a n161_ n185_ n186_ => ((up_row n186_).trans ((up_row n185_).trans ((F536 a n161_).trans ((up_row n161_).trans ((F533 a n161_).trans (hSN2 a n161_ n185_ n186_))))))), (fun j n29_ => ((congrFun (up_row (by decide)) j).trans ((congrFun (up_row (by decide)) j).trans ((G536 j n29_).trans ((up_ne2 n29_).trans ((G533 j n29_).trans (hHN2 j n29_)))))))⟩
              · refine w_il hK rfl rfl ?_
                refine w_ic hK rfl ?_
                refine w_ne2 hK rfl (by omega) (by omega) (by omega) (by omega) (fun h67 => ?_) (fun h67 => ?_)
                · refine w_al hK rfl rfl ?_
                  refine w_dup hK rfl rfl ?_
                  refine w_geti (n := 29) (m := 29) hK rfl rfl (by decide) (by decide) rfl rfl rfl rfl ?_
                  rw [show (up (up V536 185 (j : Int) ((rdn tx (qq k : Int) a).1)) 186 (j : Int) ((rdn tx (qq k : Int) ((rdn tx (qq k : Int) a).2.1 + 1)).1)) 161 29 = (atn tx (qq k : Int) ((rdn tx (qq k : Int) a).2.1 + 1)) from ((congrFun (up_row (by decide)) 29).trans ((congrFun (up_row (by decide)) 29).trans a536_))]
                  refine w_ic hK rfl ?_
                  refine w_add hK rfl (by omega) (by omega) ?_
                  refine w_puti (n := 29) (m := 29) hK rfl rfl (by decide) (by decide) rfl rfl rfl rfl ?_
                  refine w_goto hK rfl ?_
                  exact ih2 _ (by omega) (j + 1) ((rdn tx (qq k : Int) ((rdn tx (qq k : Int) a).2.1 + 1)).2.1 + 1) _ _ (0, (rdn tx (qq k : Int) a).1) (0, (rdn tx (qq k : Int) ((rdn tx (qq k : Int) a).2.1 + 1)).1) (up (up (up V536 185 (j : Int) ((rdn tx (qq k : Int) a).1)) 186 (j : Int) ((rdn tx (qq k : Int) ((rdn tx (qq k : Int) a).2.1 + 1)).1)) 161 29 ((atn tx (qq k : Int) ((rdn tx (qq k : Int) a).2.1 + 1)) + 1)) rfl (by omega) (by omega) (up_eq.trans (by rw [eb_])) ((up_row (by decide)).trans ((up_row (by decide)).trans (up_upr ((F536 185 (by decide)).trans ((up_row (by decide)).trans ((F533 185 (by decide)).trans h185_)))))) ((up_row (by decide)).trans (up_upr ((up_row (by decide)).trans ((F536 186 (by decide)).trans ((up_row (by decide)).trans ((F533 186 (by decide)).trans h186_)))))) (hN1_.up (by omega) (by omega)) (hN2_.up (by omega) (by omega)) (by rw [hrd_, rcs_at (by omega), erc_, if_neg (fun q_ => q_ rfl), if_neg (by dsimp only; omega), if_neg (by dsimp only; omega)]) (fun a n161_ n185_ n186_ => ((up_row n161_).trans ((up_row n186_).trans ((up_row n185_).trans ((F536 a n161_).trans ((up_row n161_).trans ((F533 a n161_).trans (hSN2 a n161_ n185_ n186_)))))))) (fun j n29_ => ((up_ne2 n29_).trans ((congrFun (up_row (by decide)) j).trans ((congrFun (up_row (by decide)) j).trans ((G536 j n29_).trans ((up_ne2 n29_).trans ((G533 j n29_).trans (hHN2 j n29_))))))))
                · refine w_ic hK rfl ?_
                  refine w_iret hK rfl rfl ?_
                  have e_ : rcs tx (qq k : Int) n 6 0 (M 185) (M 186) = ((rdn tx (qq k : Int) ((rdn tx (qq k : Int) a).2.1 + 1)).2.1, pt, wt, 0) := by rw [hrd_, rcs_at (by omega), erc_, if_neg (fun q_ => q_ rfl), if_neg (by dsimp only; omega), if_pos (by dsimp only; omega)]
                  rw [e_]
                  exact ⟨Or.inr ⟨by show 0 ≤ (rdn tx (qq k : Int) ((rdn tx (qq k : Int) a).2.1 + 1)).2.1; omega, rfl, (((congrFun (up_row (by decide)) 29).trans ((congrFun (up_row (by decide)) 29).trans a536_))).trans eb_⟩, (fun a n161_ n185_ n186_ => ((up_row n186_).trans ((up_row n185_).trans ((F536 a n161_).trans ((up_row n161_).trans ((F533 a n161_).trans (hSN2 a n161_ n185_ n186_))))))), (fun j n29_ => ((congrFun (up_row (by decide)) j).trans ((congrFun (up_row (by decide)) j).trans ((G536 j n29_).trans ((up_ne2 n29_).trans ((G533 j n29_).trans (hHN2 j n29_)))))))⟩
            · refine w_il hK rfl rfl ?_
              refine w_iret hK rfl rfl ?_
              have e_ : rcs tx (qq k : Int) n 6 0 (M 185) (M 186) = (-1, (upr pt (j : Int) (rdn tx (qq k : Int) a).1), (upr wt (j : Int) (rdn tx (qq k : Int) ((rdn tx (qq k : Int) a).2.1 + 1)).1), j + 1) := by rw [hrd_, rcs_at (by omega), erc_, if_neg (fun q_ => q_ rfl), if_pos (by dsimp only; omega)]
              rw [e_]
              exact ⟨Or.inl ⟨rfl, rfl, ⟨by show 1 ≤ j + 1; omega, by show j + 1 ≤ 6; omega⟩, ((up_row (by decide)).trans (up_upr ((F536 185 (by decide)).trans ((up_row (by decide)).trans ((F533 185 (by decide)).trans h185_))))), (up_upr ((up_row (by decide)).trans ((F536 186 (by decide)).trans ((up_row (by decide)).trans ((F533 186 (by decide)).trans h186_))))), hN1_.up (by omega) (by omega), hN2_.up (by omega) (by omega)⟩, (fun a n161_ n185_ n186_ => ((up_row n186_).trans ((up_row n185_).trans ((F536 a n161_).trans ((up_row n161_).trans ((F533 a n161_).trans (hSN2 a n161_ n185_ n186_))))))), (fun j n29_ => ((congrFun (up_row (by decide)) j).trans ((congrFun (up_row (by decide)) j).trans ((G536 j n29_).trans ((up_ne2 n29_).trans ((G533 j n29_).trans (hHN2 j n29_)))))))⟩
          · refine w_ic hK rfl ?_
            refine w_iret hK rfl rfl ?_
            have erc_ : rcp tx (qq k : Int) a pt j = ((rdn tx (qq k : Int) ((rdn tx (qq k : Int) a).2.1 + 1)).2.2, 0, 0, 0) := by unfold rcp; rw [if_neg (by omega), if_neg (by omega), if_pos (by omega)]
            have e_ : rcs tx (qq k : Int) n 6 0 (M 185) (M 186) = ((rdn tx (qq k : Int) ((rdn tx (qq k : Int) a).2.1 + 1)).2.2, pt, wt, 0) := by rw [hrd_, rcs_at (by omega), erc_, if_pos (by dsimp only; omega)]
            rw [e_]
            exact ⟨Or.inr ⟨by show 0 ≤ (rdn tx (qq k : Int) ((rdn tx (qq k : Int) a).2.1 + 1)).2.2; omega, rfl, (a536_).trans (if_pos (by omega))⟩, (fun a n161_ n185_ n186_ => ((F536 a n161_).trans ((up_row n161_).trans ((F533 a n161_).trans (hSN2 a n161_ n185_ n186_))))), (fun j n29_ => ((G536 j n29_).trans ((up_ne2 n29_).trans ((G533 j n29_).trans (hHN2 j n29_)))))⟩
        · refine w_ic hK rfl ?_
          refine w_iret hK rfl rfl ?_
          have erc_ : rcp tx (qq k : Int) a pt j = ((rdn tx (qq k : Int) a).2.1, 0, 0, 0) := by unfold rcp; rw [if_neg (by omega), if_pos (by omega)]
          have e_ : rcs tx (qq k : Int) n 6 0 (M 185) (M 186) = ((rdn tx (qq k : Int) a).2.1, pt, wt, 0) := by rw [hrd_, rcs_at (by omega), erc_, if_pos (by dsimp only; omega)]
          rw [e_]
          exact ⟨Or.inr ⟨by show 0 ≤ (rdn tx (qq k : Int) a).2.1; omega, rfl, (a533_).trans (by omega)⟩, (fun a n161_ n185_ n186_ => ((F533 a n161_).trans (hSN2 a n161_ n185_ n186_))), (fun j n29_ => ((G533 j n29_).trans (hHN2 j n29_)))⟩
      · refine w_al hK rfl rfl ?_
        refine w_dup hK rfl rfl ?_
        refine w_geti (n := 29) (m := 29) hK rfl rfl (by decide) (by decide) rfl rfl rfl rfl ?_
        rw [show V533 161 29 = (atn tx (qq k : Int) a) from a533_]
        refine w_ic hK rfl ?_
        refine w_sub hK rfl (by omega) (by omega) ?_
        refine w_puti (n := 29) (m := 29) hK rfl rfl (by decide) (by decide) rfl rfl rfl rfl ?_
        refine w_ic hK rfl ?_
        refine w_iret hK rfl rfl ?_
        have erc_ : rcp tx (qq k : Int) a pt j = ((rdn tx (qq k : Int) a).2.2, 0, 0, 0) := by unfold rcp; rw [if_pos (Or.inr (by omega))]
        have e_ : rcs tx (qq k : Int) n 6 0 (M 185) (M 186) = ((rdn tx (qq k : Int) a).2.2, pt, wt, 0) := by rw [hrd_, rcs_at (by omega), erc_, if_pos (by dsimp only; omega)]
        rw [e_]
        exact ⟨Or.inr ⟨by show 0 ≤ (rdn tx (qq k : Int) a).2.2; omega, rfl, (up_eq).trans (by have := rdn_dec tx (qq k : Int) a (by omega); omega)⟩, (fun a n161_ n185_ n186_ => ((up_row n161_).trans ((F533 a n161_).trans (hSN2 a n161_ n185_ n186_)))), (fun j n29_ => ((up_ne2 n29_).trans ((G533 j n29_).trans (hHN2 j n29_))))⟩
    · refine w_ic hK rfl ?_
      refine w_iret hK rfl rfl ?_
      have erc_ : rcp tx (qq k : Int) a pt j = ((rdn tx (qq k : Int) a).2.2, 0, 0, 0) := by unfold rcp; rw [if_pos (Or.inl (by omega))]
      have e_ : rcs tx (qq k : Int) n 6 0 (M 185) (M 186) = ((rdn tx (qq k : Int) a).2.2, pt, wt, 0) := by rw [hrd_, rcs_at (by omega), erc_, if_pos (by dsimp only; omega)]
      rw [e_]
      exact ⟨Or.inr ⟨by show 0 ≤ (rdn tx (qq k : Int) a).2.2; omega, rfl, (a533_).trans (if_pos (by omega))⟩, (fun a n161_ n185_ n186_ => ((F533 a n161_).trans (hSN2 a n161_ n185_ n186_))), (fun j n29_ => ((G533 j n29_).trans (hHN2 j n29_)))⟩
  exact lp2 _ 0 0 _ _ (3, 0) (3, 0) M rfl (by omega) (by omega) ha rfl rfl (fun j hj => by omega) (fun j hj => by omega) rfl (fun a n161_ n185_ n186_ => rfl) (fun j n29_ => rfl)
