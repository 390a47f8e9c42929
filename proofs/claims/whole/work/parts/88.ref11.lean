/-! the reference's call cofactors -/
set_option maxRecDepth 100000 in
theorem ro_cofs {d : Nat} {M : Mem} {k : Nat} {pl : Nat → Pl k} {n : Int} {tx : Int → Int} {rc : Nat} {rw : Int → Int} {fc : Nat} {fa : Nat → Pl k} (H : RFS M k pl n tx rc rw fc fa) (i : Nat) (hi : i < 6) (j : Nat) (hj : j < 6) (l : Nat) (hl : l < 6) (m : Nat) (hm : m < 6) (hlm : l ≠ m) (h0_ : 0 ≤ dg (pl i) ∨ 0 ≤ dg (pl j)) : Ct 198 (d + 8) 254 [(1, 161), (0, (i : Int)), (0, (j : Int)), (0, (l : Int)), (0, (m : Int))] M (fun r_ M' => r_ = (0, (dg (euL 0 (pl i) (pl j)).1)) ∧ RFS M' k (fup (fup pl l (scl (iv (ld (euL 0 (pl i) (pl j)).1)) (euL 0 (pl i) (pl j)).2.2.1)) m (scl (iv (ld (euL 0 (pl i) (pl j)).1)) (euL 0 (pl i) (pl j)).2.2.2.2.1)) n tx rc rw fc fa ∧ (∀ a : Int, (a < 161 ∨ 197 < a) → M' a = M a)) := by
  have hK : cd 254 = k254 := rfl
  obtain ⟨R, C, hpl, T, hR, hF⟩ := H
  have q1_ := qq_I k
  have p1_ := pp_I k
  have m1_ := mm_I k
  have bi_ := (hpl i hi).2
  have di_ := dg_lt9 bi_
  have bj_ := (hpl j hj).2
  have dj_ := dg_lt9 bj_
  have bl_ := (hpl l hl).2
  have dl_ := dg_lt9 bl_
  have bm_ := (hpl m hm).2
  have dm_ := dg_lt9 bm_
  show Wp 198 _ 254 0 [(1, 161), (0, (i : Int)), (0, (j : Int)), (0, (l : Int)), (0, (m : Int)), (3, 0)] [] M _
  refine w_al hK rfl rfl ?_
  refine w_ic hK rfl ?_
  refine w_puti (n := 14) (m := 14) hK rfl rfl (by decide) (by decide) rfl rfl rfl rfl ?_
  refine w_il hK rfl rfl ?_
  refine w_call [(0, (m : Int))] hK rfl rfl rfl rfl (Or.inl rfl) (r_place (m : Int) (by omega) (by omega)) ?_
  rintro _ Mq ⟨rfl, e_⟩
  subst Mq
  have pI_479 := ite01 (0 ≤ (m : Int) ∧ (m : Int) < 6)
  refine ⟨by show (0 : Nat) ≠ 9; decide, (?_ : Wp 198 _ 254 5 [(1, 161), (0, (i : Int)), (0, (j : Int)), (0, (l : Int)), (0, (m : Int)), (3, 0)] [(0, (if 0 ≤ (m : Int) ∧ (m : Int) < 6 then 1 else 0))] (up M 161 14 0) _)⟩
  refine w_eq hK rfl (by omega) (by omega) (fun h5 => ?_) (fun h5 => ?_)
  · exfalso; omega
  · refine w_al hK rfl rfl ?_
    refine w_il hK rfl rfl ?_
    refine w_il hK rfl rfl ?_
    refine w_il hK rfl rfl ?_
    refine w_call [(1, 161), (0, (i : Int)), (0, (j : Int)), (0, (l : Int))] hK rfl rfl rfl rfl (Or.inr ⟨_, _, _, rfl, by decide, (by decide), rfl⟩) (r_loads (RS.cg C (fun j_ h1_ h2_ => up_ne2 (by omega)) (fun a_ h1_ h2_ => up_row h1_)) (PM.keep hpl (up_row (by decide))) i j l hi hj hl) ?_
    rintro _ V480 ⟨P480, rfl, C480, S480, F480, f480_0, f480_1⟩
    refine ⟨by show (0 : Nat) ≠ 9; decide, (?_ : Wp 198 _ 254 11 [(1, 161), (0, (i : Int)), (0, (j : Int)), (0, (l : Int)), (0, (m : Int)), (3, 0)] [(0, 1)] V480 _)⟩
    refine w_ne hK rfl (by omega) (by omega) (fun h11 => ?_) (fun h11 => ?_)
    · refine w_al hK rfl rfl ?_
      refine w_getr (n := 26) (v := 180) hK rfl rfl (by decide) (by decide) rfl rfl rfl rfl ?_
      have dI_ : -1 ≤ dg (pl i) ∧ dg (pl i) ≤ 47 := C480.dI ⟨(isR_of (p := 180) rfl), f480_0⟩
      refine w_call [(1, 180)] hK rfl rfl rfl rfl (Or.inl rfl) (r_deg C480 ⟨(isR_of (p := 180) rfl), f480_0⟩) ?_
      rintro _ Mq ⟨rfl, e_⟩
      subst Mq
      refine ⟨by show (0 : Nat) ≠ 9; decide, (?_ : Wp 198 _ 254 17 [(1, 161), (0, (i : Int)), (0, (j : Int)), (0, (l : Int)), (0, (m : Int)), (3, 0)] [(0, (dg (pl i)))] V480 _)⟩
      refine w_ic hK rfl ?_
      refine w_ne2 hK rfl (by omega) (by omega) (by omega) (by omega) (fun h18 => ?_) (fun h18 => ?_)
      · refine w_il hK rfl rfl ?_
        refine w_il hK rfl rfl ?_
        refine w_ne2 hK rfl (by omega) (by omega) (by omega) (by omega) (fun h28 => ?_) (fun h28 => ?_)
        · refine w_al hK rfl rfl ?_
          refine w_getr (n := 23) (v := 177) hK rfl rfl (by decide) (by decide) rfl rfl rfl rfl ?_
          refine w_call [(1, 177)] hK rfl rfl rfl rfl (Or.inl rfl) (r_clear C480 (isR_of (p := 177) rfl)) ?_
          rintro _ V481 ⟨P481, rfl, C481, S481, F481, f481_0⟩
          refine ⟨by decide, (?_ : Wp 198 _ 254 34 [(1, 161), (0, (i : Int)), (0, (j : Int)), (0, (l : Int)), (0, (m : Int)), (3, 0)] [] V481 _)⟩
          refine w_al hK rfl rfl ?_
          refine w_getr (n := 24) (v := 178) hK rfl rfl (by decide) (by decide) rfl rfl rfl rfl ?_
          refine w_call [(1, 178)] hK rfl rfl rfl rfl (Or.inl rfl) (r_clear C481 (isR_of (p := 178) rfl)) ?_
          rintro _ V482 ⟨P482, rfl, C482, S482, F482, f482_0⟩
          refine ⟨by decide, (?_ : Wp 198 _ 254 37 [(1, 161), (0, (i : Int)), (0, (j : Int)), (0, (l : Int)), (0, (m : Int)), (3, 0)] [] V482 _)⟩
          refine w_al hK rfl rfl ?_
          refine w_getr (n := 31) (v := 183) hK rfl rfl (by decide) (by decide) rfl rfl rfl rfl ?_
          refine w_call [(1, 183)] hK rfl rfl rfl rfl (Or.inl rfl) (r_clear C482 (isR_of (p := 183) rfl)) ?_
          rintro _ V483 ⟨P483, rfl, C483, S483, F483, f483_0⟩
          refine ⟨by decide, (?_ : Wp 198 _ 254 40 [(1, 161), (0, (i : Int)), (0, (j : Int)), (0, (l : Int)), (0, (m : Int)), (3, 0)] [] V483 _)⟩
          refine w_al hK rfl rfl ?_
          refine w_getr (n := 32) (v := 184) hK rfl rfl (by decide) (by decide) rfl rfl rfl rfl ?_
          refine w_call [(1, 184)] hK rfl rfl rfl rfl (Or.inl rfl) (r_clear C483 (isR_of (p := 184) rfl)) ?_
          rintro _ V484 ⟨P484, rfl, C484, S484, F484, f484_0⟩
          refine ⟨by decide, (?_ : Wp 198 _ 254 43 [(1, 161), (0, (i : Int)), (0, (j : Int)), (0, (l : Int)), (0, (m : Int)), (3, 0)] [] V484 _)⟩
          refine w_al hK rfl rfl ?_
          refine w_getr (n := 23) (v := 177) hK rfl rfl (by decide) (by decide) rfl rfl rfl rfl ?_
          refine w_ic hK rfl ?_
          refine w_ic hK rfl ?_
          refine w_iat hK rfl rfl (by decide) (by decide) (by omega) (by omega) ?_
          refine w_al hK rfl rfl ?_
          refine w_getr (n := 32) (v := 184) hK rfl rfl (by decide) (by decide) rfl rfl rfl rfl ?_
          refine w_ic hK rfl ?_
          refine w_ic hK rfl ?_
          refine w_iat hK rfl rfl (by decide) (by decide) (by omega) (by omega) ?_
          have lp53 : ∀ (n_ : Nat) (a : Nat) (w5 : AV) (R1 : Int → Option (Pl k)) (N53 : Mem), (dg (eu 0 (pl i) (pl j) a).2.1 + 1).toNat = n_ → (∀ m_ : Nat, m_ < a → (eu 0 (pl i) (pl j) m_).2.1 ≠ pz) → (RS N53 k R1) → (R1 180 = some ((eu 0 (pl i) (pl j) a).1)) → (R1 181 = some ((eu 0 (pl i) (pl j) a).2.1)) → (R1 177 = some ((eu 0 (pl i) (pl j) a).2.2.1)) → (R1 178 = some ((eu 0 (pl i) (pl j) a).2.2.2.1)) → (R1 183 = some ((eu 0 (pl i) (pl j) a).2.2.2.2.1)) → (R1 184 = some ((eu 0 (pl i) (pl j) a).2.2.2.2.2)) → ((∀ p : Int, p ≠ 170 → p ≠ 171 → p ≠ 172 → p ≠ 173 → p ≠ 174 → p ≠ 177 → p ≠ 178 → p ≠ 179 → p ≠ 180 → p ≠ 181 → p ≠ 182 → p ≠ 183 → p ≠ 184 → R1 p = (pu (pu P484 177 (up1 pz 0 e1)) 184 (up1 pz 0 e1)) p)) → ((∀ a : Int, (∀ p : Int, isR p → a ≠ p) → N53 a = (up (up V484 177 0 1) 184 0 1) a)) → Wp 198 (d + 8) 254 53 [(1, 161), (0, (i : Int)), (0, (j : Int)), (0, (l : Int)), (0, (m : Int)), w5] [] N53 (fun r_ M' => r_ = (0, (dg (euL 0 (pl i) (pl j)).1)) ∧ RFS M' k (fup (fup pl l (scl (iv (ld (euL 0 (pl i) (pl j)).1)) (euL 0 (pl i) (pl j)).2.2.1)) m (scl (iv (ld (euL 0 (pl i) (pl j)).1)) (euL 0 (pl i) (pl j)).2.2.2.2.1)) n tx rc rw fc fa ∧ (∀ a : Int, (a < 161 ∨ 197 < a) → M' a = M a)) := by
            intro n_
            induction n_ using Nat.strongRecOn with
            | _ n_ ih53 =>
            intro a w5 R1 N53 hm53 hz_ hCR1 h180_ h181_ h177_ h178_ h183_ h184_ hGR1 hSN53
            have hB_ := eu_B bi_ bj_ a hz_
            have gA_ := dg_lt9 hB_.1.1
            have gB_ := dg_lt9 hB_.1.2
            have gU_ := dg_lt17 hB_.2.1.2.1
            have gV_ := dg_lt17 hB_.2.1.2.2.2
            refine w_al hK rfl rfl ?_
            refine w_getr (n := 27) (v := 181) hK rfl rfl (by decide) (by decide) rfl rfl rfl rfl ?_
            have dI_ : -1 ≤ dg ((eu 0 (pl i) (pl j) a).2.1) ∧ dg ((eu 0 (pl i) (pl j) a).2.1) ≤ 47 := hCR1.dI ⟨(isR_of (p := 181) rfl), h181_⟩
            refine w_call [(1, 181)] hK rfl rfl rfl rfl (Or.inl rfl) (r_deg hCR1 ⟨(isR_of (p := 181) rfl), h181_⟩) ?_
            rintro _ Mq ⟨rfl, e_⟩
            subst Mq
            refine ⟨by show (0 : Nat) ≠ 9; decide, (?_ : Wp 198 _ 254 56 [(1, 161), (0, (i : Int)), (0, (j : Int)), (0, (l : Int)), (0, (m : Int)), w5] [(0, (dg ((eu 0 (pl i) (pl j) a).2.1)))] N53 _)⟩
            refine w_ic hK rfl ?_
            refine w_eq2 hK rfl (by omega) (by omega) (by omega) (by omega) (fun h57 => ?_) (fun h57 => ?_)
            · have eE_ : EuE 0 (pl i) (pl j) a := ⟨hz_, (dg_neg (hB_.1.2.mono (by decide))).mp (by omega)⟩
              rw [← euL_eq eE_] at h180_ h177_ h183_
              have eF_ := euL_facts bi_ bj_ eE_
              have eB_ := euL_B bi_ bj_ eE_
              have e0_ := eF_.2.2.2 (by rcases h0_ with q | q; exact Or.inl (fun e => by rw [e, dg_pz] at q; omega); exact Or.inr (fun e => by rw [e, dg_pz] at q; omega))
              refine w_al hK rfl rfl ?_
              refine w_getr (n := 26) (v := 180) hK rfl rfl (by decide) (by decide) rfl rfl rfl rfl ?_
              have dI_ : -1 ≤ dg ((euL 0 (pl i) (pl j)).1) ∧ dg ((euL 0 (pl i) (pl j)).1) ≤ 47 := hCR1.dI ⟨(isR_of (p := 180) rfl), h180_⟩
              refine w_call [(1, 180)] hK rfl rfl rfl rfl (Or.inl rfl) (r_deg hCR1 ⟨(isR_of (p := 180) rfl), h180_⟩) ?_
              rintro _ Mq ⟨rfl, e_⟩
              subst Mq
              refine ⟨by show (0 : Nat) ≠ 9; decide, (?_ : Wp 198 _ 254 96 [(1, 161), (0, (i : Int)), (0, (j : Int)), (0, (l : Int)), (0, (m : Int)), w5] [(0, (dg ((euL 0 (pl i) (pl j)).1)))] N53 _)⟩
              refine w_is [(1, 161), (0, (i : Int)), (0, (j : Int)), (0, (l : Int)), (0, (m : Int)), (0, (dg ((euL 0 (pl i) (pl j)).1)))] hK rfl rfl rfl ?_
              refine w_al hK rfl rfl ?_
              refine w_al hK rfl rfl ?_
              refine w_getr (n := 7) (v := 165) hK rfl rfl (by decide) (by decide) rfl rfl rfl rfl ?_
              refine w_al hK rfl rfl ?_
              refine w_getr (n := 26) (v := 180) hK rfl rfl (by decide) (by decide) rfl rfl rfl rfl ?_
              refine w_il hK rfl rfl ?_
              refine w_ia hK rfl rfl (by decide) (by decide) (by omega) (by omega) ?_
              rw [show N53 180 (dg ((euL 0 (pl i) (pl j)).1)) = ((cf ((euL 0 (pl i) (pl j)).1) (dg ((euL 0 (pl i) (pl j)).1))).val : Int) from hCR1.atI ⟨(isR_of (p := 180) rfl), h180_⟩ (by omega) (by omega)]
              have bl_ := el_I (cf (euL 0 (pl i) (pl j)).1 (dg (euL 0 (pl i) (pl j)).1))
              refine w_ia hK rfl rfl (by decide) (by decide) (by omega) (by omega) ?_
              rw [show N53 165 ((cf ((euL 0 (pl i) (pl j)).1) (dg ((euL 0 (pl i) (pl j)).1))).val : Int) = ((iv (cf ((euL 0 (pl i) (pl j)).1) (dg ((euL 0 (pl i) (pl j)).1)))).val : Int) from hCR1.F.v (cf ((euL 0 (pl i) (pl j)).1) (dg ((euL 0 (pl i) (pl j)).1)))]
              refine w_al hK rfl rfl ?_
              refine w_getr (n := 23) (v := 177) hK rfl rfl (by decide) (by decide) rfl rfl rfl rfl ?_
              refine w_call [(1, 161), (0, ((iv (cf ((euL 0 (pl i) (pl j)).1) (dg ((euL 0 (pl i) (pl j)).1)))).val : Int)), (1, 177)] hK rfl rfl rfl rfl (Or.inr ⟨_, _, _, rfl, by decide, (by decide), rfl⟩) (r_scal hCR1 (iv (cf ((euL 0 (pl i) (pl j)).1) (dg ((euL 0 (pl i) (pl j)).1)))) ⟨(isR_of (p := 177) rfl), h177_⟩) ?_
              rintro _ V485 ⟨P485, rfl, C485, S485, F485, f485_0⟩
              refine ⟨by decide, (?_ : Wp 198 _ 254 108 [(1, 161), (0, (i : Int)), (0, (j : Int)), (0, (l : Int)), (0, (m : Int)), (0, (dg ((euL 0 (pl i) (pl j)).1)))] [] V485 _)⟩
              refine w_al hK rfl rfl ?_
              refine w_al hK rfl rfl ?_
              refine w_getr (n := 7) (v := 165) hK rfl rfl (by decide) (by decide) rfl rfl rfl rfl ?_
              refine w_al hK rfl rfl ?_
              refine w_getr (n := 26) (v := 180) hK rfl rfl (by decide) (by decide) rfl rfl rfl rfl ?_
              refine w_il hK rfl rfl ?_
              refine w_ia hK rfl rfl (by decide) (by decide) (by omega) (by omega) ?_
              rw [show V485 180 (dg ((euL 0 (pl i) (pl j)).1)) = ((cf ((euL 0 (pl i) (pl j)).1) (dg ((euL 0 (pl i) (pl j)).1))).val : Int) from C485.atI ⟨(isR_of (p := 180) rfl), ((F485 180 (by omega)).trans h180_)⟩ (by omega) (by omega)]
              have bl_ := el_I (cf (euL 0 (pl i) (pl j)).1 (dg (euL 0 (pl i) (pl j)).1))
              refine w_ia hK rfl rfl (by decide) (by decide) (by omega) (by omega) ?_
              rw [show V485 165 ((cf ((euL 0 (pl i) (pl j)).1) (dg ((euL 0 (pl i) (pl j)).1))).val : Int) = ((iv (cf ((euL 0 (pl i) (pl j)).1) (dg ((euL 0 (pl i) (pl j)).1)))).val : Int) from C485.F.v (cf ((euL 0 (pl i) (pl j)).1) (dg ((euL 0 (pl i) (pl j)).1)))]
              refine w_al hK rfl rfl ?_
              refine w_getr (n := 31) (v := 183) hK rfl rfl (by decide) (by decide) rfl rfl rfl rfl ?_
              refine w_call [(1, 161), (0, ((iv (cf ((euL 0 (pl i) (pl j)).1) (dg ((euL 0 (pl i) (pl j)).1)))).val : Int)), (1, 183)] hK rfl rfl rfl rfl (Or.inr ⟨_, _, _, rfl, by decide, (by decide), rfl⟩) (r_scal C485 (iv (cf ((euL 0 (pl i) (pl j)).1) (dg ((euL 0 (pl i) (pl j)).1)))) ⟨(isR_of (p := 183) rfl), ((F485 183 (by omega)).trans h183_)⟩) ?_
              rintro _ V486 ⟨P486, rfl, C486, S486, F486, f486_0⟩
              refine ⟨by decide, (?_ : Wp 198 _ 254 119 [(1, 161), (0, (i : Int)), (0, (j : Int)), (0, (l : Int)), (0, (m : Int)), (0, (dg ((euL 0 (pl i) (pl j)).1)))] [] V486 _)⟩
              refine w_al hK rfl rfl ?_
              refine w_al hK rfl rfl ?_
              refine w_getr (n := 23) (v := 177) hK rfl rfl (by decide) (by decide) rfl rfl rfl rfl ?_
              refine w_il hK rfl rfl ?_
              refine w_call [(1, 161), (1, 177), (0, (l : Int))] hK rfl rfl rfl rfl (Or.inr ⟨_, _, _, rfl, by decide, (by decide), rfl⟩) (r_store C486 (PM.keep hpl ((S486 167 (notR rfl)).trans ((S485 167 (notR rfl)).trans ((hSN53 167 (notR rfl)).trans ((up_row (by decide)).trans ((up_row (by decide)).trans ((S484 167 (notR rfl)).trans ((S483 167 (notR rfl)).trans ((S482 167 (notR rfl)).trans ((S481 167 (notR rfl)).trans ((S480 167 (notR rfl)).trans (up_row (by decide))))))))))))) ⟨(isR_of (p := 177) rfl), ((F486 177 (by omega)).trans f485_0)⟩ l hl (Bd_scl _ (Bd9.of eB_.2.1.1 eF_.1))) ?_
              rintro _ V487 ⟨rfl, C487, Q487, F487⟩
              refine ⟨(by show (0 : Nat) ≠ 9; decide), (?_ : Wp 198 _ 254 124 [(1, 161), (0, (i : Int)), (0, (j : Int)), (0, (l : Int)), (0, (m : Int)), (0, (dg ((euL 0 (pl i) (pl j)).1)))] [(0, (dg (scl (iv (cf ((euL 0 (pl i) (pl j)).1) (dg ((euL 0 (pl i) (pl j)).1)))) ((euL 0 (pl i) (pl j)).2.2.1))))] V487 _)⟩
              refine w_pop hK rfl rfl ?_
              refine w_al hK rfl rfl ?_
              refine w_al hK rfl rfl ?_
              refine w_getr (n := 31) (v := 183) hK rfl rfl (by decide) (by decide) rfl rfl rfl rfl ?_
              refine w_il hK rfl rfl ?_
              refine w_call [(1, 161), (1, 183), (0, (m : Int))] hK rfl rfl rfl rfl (Or.inr ⟨_, _, _, rfl, by decide, (by decide), rfl⟩) (r_store C487 Q487 ⟨(isR_of (p := 183) rfl), f486_0⟩ m hm (Bd_scl _ (Bd9.of eB_.2.1.2.2.1 eF_.2.1))) ?_
              rintro _ V488 ⟨rfl, C488, Q488, F488⟩
              refine ⟨(by show (0 : Nat) ≠ 9; decide), (?_ : Wp 198 _ 254 130 [(1, 161), (0, (i : Int)), (0, (j : Int)), (0, (l : Int)), (0, (m : Int)), (0, (dg ((euL 0 (pl i) (pl j)).1)))] [(0, (dg (scl (iv (cf ((euL 0 (pl i) (pl j)).1) (dg ((euL 0 (pl i) (pl j)).1)))) ((euL 0 (pl i) (pl j)).2.2.2.2.1))))] V488 _)⟩
              refine w_pop hK rfl rfl ?_
              refine w_il hK rfl rfl ?_
              refine w_iret hK rfl rfl ?_
              exact ⟨rfl, ⟨_, C488, Q488, (TMs.keep T ((congrFun (F488 161 (by decide)) 11).trans ((congrFun (F487 161 (by decide)) 11).trans ((congrFun (S486 161 (notR rfl)) 11).trans ((congrFun (S485 161 (notR rfl)) 11).trans ((congrFun (hSN53 161 (notR rfl)) 11).trans ((congrFun (up_row (by decide)) 11).trans ((congrFun (up_row (by decide)) 11).trans ((congrFun (S484 161 (notR rfl)) 11).trans ((congrFun (S483 161 (notR rfl)) 11).trans ((congrFun (S482 161 (notR rfl)) 11).trans ((congrFun (S481 161 (notR rfl)) 11).trans ((congrFun (S480 161 (notR rfl)) 11).trans (up_ne2 (by decide)))))))))))))) ((F488 168 (by decide)).trans ((F487 168 (by decide)).trans ((S486 168 (notR rfl)).trans ((S485 168 (notR rfl)).trans ((hSN53 168 (notR rfl)).trans ((up_row (by decide)).trans ((up_row (by decide)).trans ((S484 168 (notR rfl)).trans ((S483 168 (notR rfl)).trans ((S482 168 (notR rfl)).trans ((S481 168 (notR rfl)).trans ((S480 168 (notR rfl)).trans (up_row (by decide))))))))))))))), (RM.keep hR ((congrFun (F488 161 (by decide)) 13).trans ((congrFun (F487 161 (by decide)) 13).trans ((congrFun (S486 161 (notR rfl)) 13).trans ((congrFun (S485 161 (notR rfl)) 13).trans ((congrFun (hSN53 161 (notR rfl)) 13).trans ((congrFun (up_row (by decide)) 13).trans ((congrFun (up_row (by decide)) 13).trans ((congrFun (S484 161 (notR rfl)) 13).trans ((congrFun (S483 161 (notR rfl)) 13).trans ((congrFun (S482 161 (notR rfl)) 13).trans ((congrFun (S481 161 (notR rfl)) 13).trans ((congrFun (S480 161 (notR rfl)) 13).trans (up_ne2 (by decide)))))))))))))) ((F488 169 (by decide)).trans ((F487 169 (by decide)).trans ((S486 169 (notR rfl)).trans ((S485 169 (notR rfl)).trans ((hSN53 169 (notR rfl)).trans ((up_row (by decide)).trans ((up_row (by decide)).trans ((S484 169 (notR rfl)).trans ((S483 169 (notR rfl)).trans ((S482 169 (notR rfl)).trans ((S481 169 (notR rfl)).trans ((S480 169 (notR rfl)).trans (up_row (by decide))))))))))))))), (FM.keep hF ((congrFun (F488 161 (by decide)) 15).trans ((congrFun (F487 161 (by decide)) 15).trans ((congrFun (S486 161 (notR rfl)) 15).trans ((congrFun (S485 161 (notR rfl)) 15).trans ((congrFun (hSN53 161 (notR rfl)) 15).trans ((congrFun (up_row (by decide)) 15).trans ((congrFun (up_row (by decide)) 15).trans ((congrFun (S484 161 (notR rfl)) 15).trans ((congrFun (S483 161 (notR rfl)) 15).trans ((congrFun (S482 161 (notR rfl)) 15).trans ((congrFun (S481 161 (notR rfl)) 15).trans ((congrFun (S480 161 (notR rfl)) 15).trans (up_ne2 (by decide)))))))))))))) ((F488 189 (by decide)).trans ((F487 189 (by decide)).trans ((S486 189 (notR rfl)).trans ((S485 189 (notR rfl)).trans ((hSN53 189 (notR rfl)).trans ((up_row (by decide)).trans ((up_row (by decide)).trans ((S484 189 (notR rfl)).trans ((S483 189 (notR rfl)).trans ((S482 189 (notR rfl)).trans ((S481 189 (notR rfl)).trans ((S480 189 (notR rfl)).trans (up_row (by decide)))))))))))))) ((F488 190 (by decide)).trans ((F487 190 (by decide)).trans ((S486 190 (notR rfl)).trans ((S485 190 (notR rfl)).trans ((hSN53 190 (notR rfl)).trans ((up_row (by decide)).trans ((up_row (by decide)).trans ((S484 190 (notR rfl)).trans ((S483 190 (notR rfl)).trans ((S482 190 (notR rfl)).trans ((S481 190 (notR rfl)).trans ((S480 190 (notR rfl)).trans (up_row (by decide)))))))))))))))⟩, (fun a h_ => ((F488 a (by omega)).trans ((F487 a (by omega)).trans ((S486 a (npR h_)).trans ((S485 a (npR h_)).trans ((hSN53 a (npR h_)).trans ((up_row (by omega)).trans ((up_row (by omega)).trans ((S484 a (npR h_)).trans ((S483 a (npR h_)).trans ((S482 a (npR h_)).trans ((S481 a (npR h_)).trans ((S480 a (npR h_)).trans (up_row (by omega)))))))))))))))⟩
            · have hne_ : (eu 0 (pl i) (pl j) a).2.1 ≠ pz := fun q_ => by rw [q_, dg_pz] at h57; exact h57 rfl
              have hdd_ := eu_dec hB_ hne_
              have dv_ := dg_dv 0 (hB_.1.1.mono (show 9 ≤ 17 by decide)) (hB_.1.2.mono (show 9 ≤ 17 by decide)) hdd_.2
              refine w_al hK rfl rfl ?_
              refine w_al hK rfl rfl ?_
              refine w_getr (n := 26) (v := 180) hK rfl rfl (by decide) (by decide) rfl rfl rfl rfl ?_
              refine w_al hK rfl rfl ?_
              refine w_getr (n := 27) (v := 181) hK rfl rfl (by decide) (by decide) rfl rfl rfl rfl ?_
              refine w_ic hK rfl ?_
              refine w_call [(1, 161), (1, 180), (1, 181), (0, 0)] hK rfl rfl rfl rfl (Or.inr ⟨_, _, _, rfl, by decide, (by decide), rfl⟩) (r_div hCR1 ⟨(isR_of (p := 180) rfl), h180_⟩ ⟨(isR_of (p := 181) rfl), h181_⟩ 0 (by omega) (by omega) (by omega) (by omega) (hB_.1.1.mono (by decide)) (hB_.1.2.mono (by decide))) ?_
              rintro _ V489 ⟨P489, rfl, C489, S489, F489, f489_0, f489_1⟩
              refine ⟨by decide, (?_ : Wp 198 _ 254 65 [(1, 161), (0, (i : Int)), (0, (j : Int)), (0, (l : Int)), (0, (m : Int)), w5] [] V489 _)⟩
              refine w_al hK rfl rfl ?_
              refine w_getr (n := 19) (v := 173) hK rfl rfl (by decide) (by decide) rfl rfl rfl rfl ?_
              refine w_al hK rfl rfl ?_
              refine w_getr (n := 28) (v := 182) hK rfl rfl (by decide) (by decide) rfl rfl rfl rfl ?_
              refine w_call [(1, 173), (1, 182)] hK rfl rfl rfl rfl (Or.inl rfl) (r_copy C489 ⟨(isR_of (p := 173) rfl), f489_0⟩ (isR_of (p := 182) rfl) (by omega)) ?_
              rintro _ V490 ⟨P490, rfl, C490, S490, F490, f490_0⟩
              refine ⟨by decide, (?_ : Wp 198 _ 254 70 [(1, 161), (0, (i : Int)), (0, (j : Int)), (0, (l : Int)), (0, (m : Int)), w5] [] V490 _)⟩
              refine w_al hK rfl rfl ?_
              refine w_al hK rfl rfl ?_
              refine w_getr (n := 23) (v := 177) hK rfl rfl (by decide) (by decide) rfl rfl rfl rfl ?_
              refine w_al hK rfl rfl ?_
              refine w_getr (n := 24) (v := 178) hK rfl rfl (by decide) (by decide) rfl rfl rfl rfl ?_
              refine w_call [(1, 161), (1, 177), (1, 178)] hK rfl rfl rfl rfl (Or.inr ⟨_, _, _, rfl, by decide, (by decide), rfl⟩) (r_turn C490 ⟨(isR_of (p := 177) rfl), ((F490 177 (by omega)).trans ((F489 177 (by omega) (by omega) (by omega) (by omega) (by omega)).trans h177_))⟩ ⟨(isR_of (p := 178) rfl), ((F490 178 (by omega)).trans ((F489 178 (by omega) (by omega) (by omega) (by omega) (by omega)).trans h178_))⟩ ((F490 174 (by omega)).trans f489_1) (by omega) (by omega) (by omega) (by omega)) ?_
              rintro _ V491 ⟨P491, rfl, C491, S491, F491, f491_0, f491_1⟩
              refine ⟨by decide, (?_ : Wp 198 _ 254 76 [(1, 161), (0, (i : Int)), (0, (j : Int)), (0, (l : Int)), (0, (m : Int)), w5] [] V491 _)⟩
              refine w_al hK rfl rfl ?_
              refine w_al hK rfl rfl ?_
              refine w_getr (n := 31) (v := 183) hK rfl rfl (by decide) (by decide) rfl rfl rfl rfl ?_
              refine w_al hK rfl rfl ?_
              refine w_getr (n := 32) (v := 184) hK rfl rfl (by decide) (by decide) rfl rfl rfl rfl ?_
              refine w_call [(1, 161), (1, 183), (1, 184)] hK rfl rfl rfl rfl (Or.inr ⟨_, _, _, rfl, by decide, (by decide), rfl⟩) (r_turn C491 ⟨(isR_of (p := 183) rfl), ((F491 183 (by omega) (by omega) (by omega) (by omega)).trans ((F490 183 (by omega)).trans ((F489 183 (by omega) (by omega) (by omega) (by omega) (by omega)).trans h183_)))⟩ ⟨(isR_of (p := 184) rfl), ((F491 184 (by omega) (by omega) (by omega) (by omega)).trans ((F490 184 (by omega)).trans ((F489 184 (by omega) (by omega) (by omega) (by omega) (by omega)).trans h184_)))⟩ ((F491 174 (by omega) (by omega) (by omega) (by omega)).trans ((F490 174 (by omega)).trans f489_1)) (by omega) (by omega) (by omega) (by omega)) ?_
              rintro _ V492 ⟨P492, rfl, C492, S492, F492, f492_0, f492_1⟩
              refine ⟨by decide, (?_ : Wp 198 _ 254 82 [(1, 161), (0, (i : Int)), (0, (j : Int)), (0, (l : Int)), (0, (m : Int)), w5] [] V492 _)⟩
              refine w_al hK rfl rfl ?_
              refine w_getr (n := 27) (v := 181) hK rfl rfl (by decide) (by decide) rfl rfl rfl rfl ?_
              refine w_al hK rfl rfl ?_
              refine w_getr (n := 26) (v := 180) hK rfl rfl (by decide) (by decide) rfl rfl rfl rfl ?_
              refine w_call [(1, 181), (1, 180)] hK rfl rfl rfl rfl (Or.inl rfl) (r_copy C492 ⟨(isR_of (p := 181) rfl), ((F492 181 (by omega) (by omega) (by omega) (by omega)).trans ((F491 181 (by omega) (by omega) (by omega) (by omega)).trans ((F490 181 (by omega)).trans ((F489 181 (by omega) (by omega) (by omega) (by omega) (by omega)).trans h181_))))⟩ (isR_of (p := 180) rfl) (by omega)) ?_
              rintro _ V493 ⟨P493, rfl, C493, S493, F493, f493_0⟩
              refine ⟨by decide, (?_ : Wp 198 _ 254 87 [(1, 161), (0, (i : Int)), (0, (j : Int)), (0, (l : Int)), (0, (m : Int)), w5] [] V493 _)⟩
              refine w_al hK rfl rfl ?_
              refine w_getr (n := 28) (v := 182) hK rfl rfl (by decide) (by decide) rfl rfl rfl rfl ?_
              refine w_al hK rfl rfl ?_
              refine w_getr (n := 27) (v := 181) hK rfl rfl (by decide) (by decide) rfl rfl rfl rfl ?_
              refine w_call [(1, 182), (1, 181)] hK rfl rfl rfl rfl (Or.inl rfl) (r_copy C493 ⟨(isR_of (p := 182) rfl), ((F493 182 (by omega)).trans ((F492 182 (by omega) (by omega) (by omega) (by omega)).trans ((F491 182 (by omega) (by omega) (by omega) (by omega)).trans f490_0)))⟩ (isR_of (p := 181) rfl) (by omega)) ?_
              rintro _ V494 ⟨P494, rfl, C494, S494, F494, f494_0⟩
              refine ⟨by decide, (?_ : Wp 198 _ 254 92 [(1, 161), (0, (i : Int)), (0, (j : Int)), (0, (l : Int)), (0, (m : Int)), w5] [] V494 _)⟩
              refine w_goto hK rfl ?_
              exact ih53 _ (by have := hdd_; omega) (a + 1) w5 _ V494 rfl (fun m_ h_ => by
                by_cases q_ : m_ = a
                · rw [q_]; exact hne_
                · exact hz_ m_ (by omega)) C494 (((F494 180 (by omega)).trans f493_0)) (f494_0) (((F494 177 (by omega)).trans ((F493 177 (by omega)).trans ((F492 177 (by omega) (by omega) (by omega) (by omega)).trans f491_0)))) (((F494 178 (by omega)).trans ((F493 178 (by omega)).trans ((F492 178 (by omega) (by omega) (by omega) (by omega)).trans f491_1)))) (((F494 183 (by omega)).trans ((F493 183 (by omega)).trans f492_0))) (((F494 184 (by omega)).trans ((F493 184 (by omega)).trans f492_1))) (fun p pn170_ pn171_ pn172_ pn173_ pn174_ pn177_ pn178_ pn179_ pn180_ pn181_ pn182_ pn183_ pn184_ => ((F494 p pn181_).trans ((F493 p pn180_).trans ((F492 p pn170_ pn179_ pn183_ pn184_).trans ((F491 p pn170_ pn179_ pn177_ pn178_).trans ((F490 p pn182_).trans ((F489 p pn170_ pn171_ pn172_ pn173_ pn174_).trans (hGR1 p pn170_ pn171_ pn172_ pn173_ pn174_ pn177_ pn178_ pn179_ pn180_ pn181_ pn182_ pn183_ pn184_)))))))) (fun a nr_ => ((S494 a nr_).trans ((S493 a nr_).trans ((S492 a nr_).trans ((S491 a nr_).trans ((S490 a nr_).trans ((S489 a nr_).trans (hSN53 a nr_))))))))
          exact lp53 _ 0 (3, 0) _ (up (up V484 177 0 1) 184 0 1) rfl (fun m_ h_ => by omega) (RS.up (RS.up C484 ⟨(isR_of (p := 177) rfl), ((F484 177 (by omega)).trans ((F483 177 (by omega)).trans ((F482 177 (by omega)).trans f481_0)))⟩ (j := 0) (by omega) (by omega) (e := e1) el1.symm) ⟨(isR_of (p := 184) rfl), ((pu_ne (P := P484) (f := up1 pz 0 e1) (show 184 ≠ 177 by omega)).trans f484_0)⟩ (j := 0) (by omega) (by omega) (e := e1) el1.symm) (((pu_ne (P := pu P484 177 (up1 pz 0 e1)) (f := up1 pz 0 e1) (show 180 ≠ 184 by omega)).trans ((pu_ne (P := P484) (f := up1 pz 0 e1) (show 180 ≠ 177 by omega)).trans ((F484 180 (by omega)).trans ((F483 180 (by omega)).trans ((F482 180 (by omega)).trans ((F481 180 (by omega)).trans f480_0))))))) (((pu_ne (P := pu P484 177 (up1 pz 0 e1)) (f := up1 pz 0 e1) (show 181 ≠ 184 by omega)).trans ((pu_ne (P := P484) (f := up1 pz 0 e1) (show 181 ≠ 177 by omega)).trans ((F484 181 (by omega)).trans ((F483 181 (by omega)).trans ((F482 181 (by omega)).trans ((F481 181 (by omega)).trans f480_1))))))) (((pu_ne (P := pu P484 177 (up1 pz 0 e1)) (f := up1 pz 0 e1) (show 177 ≠ 184 by omega)).trans pu_eq)) (((pu_ne (P := pu P484 177 (up1 pz 0 e1)) (f := up1 pz 0 e1) (show 178 ≠ 184 by omega)).trans ((pu_ne (P := P484) (f := up1 pz 0 e1) (show 178 ≠ 177 by omega)).trans ((F484 178 (by omega)).trans ((F483 178 (by omega)).trans f482_0))))) (((pu_ne (P := pu P484 177 (up1 pz 0 e1)) (f := up1 pz 0 e1) (show 183 ≠ 184 by omega)).trans ((pu_ne (P := P484) (f := up1 pz 0 e1) (show 183 ≠ 177 by omega)).trans ((F484 183 (by omega)).trans f483_0)))) (pu_eq) (fun p pn170_ pn171_ pn172_ pn173_ pn174_ pn177_ pn178_ pn179_ pn180_ pn181_ pn182_ pn183_ pn184_ => rfl) (fun a nr_ => rfl)
        · exfalso; omega
      · refine w_al hK rfl rfl ?_
        refine w_getr (n := 27) (v := 181) hK rfl rfl (by decide) (by decide) rfl rfl rfl rfl ?_
        have dI_ : -1 ≤ dg (pl j) ∧ dg (pl j) ≤ 47 := C480.dI ⟨(isR_of (p := 181) rfl), f480_1⟩
        refine w_call [(1, 181)] hK rfl rfl rfl rfl (Or.inl rfl) (r_deg C480 ⟨(isR_of (p := 181) rfl), f480_1⟩) ?_
        rintro _ Mq ⟨rfl, e_⟩
        subst Mq
        refine ⟨by show (0 : Nat) ≠ 9; decide, (?_ : Wp 198 _ 254 22 [(1, 161), (0, (i : Int)), (0, (j : Int)), (0, (l : Int)), (0, (m : Int)), (3, 0)] [(0, (dg (pl j)))] V480 _)⟩
        refine w_ic hK rfl ?_
        refine w_ne2 hK rfl (by omega) (by omega) (by omega) (by omega) (fun h23 => ?_) (fun h23 => ?_)
        · refine w_il hK rfl rfl ?_
          refine w_il hK rfl rfl ?_
          refine w_ne2 hK rfl (by omega) (by omega) (by omega) (by omega) (fun h28 => ?_) (fun h28 => ?_)
          · refine w_al hK rfl rfl ?_
            refine w_getr (n := 23) (v := 177) hK rfl rfl (by decide) (by decide) rfl rfl rfl rfl ?_
            refine w_call [(1, 177)] hK rfl rfl rfl rfl (Or.inl rfl) (r_clear C480 (isR_of (p := 177) rfl)) ?_
            rintro _ V495 ⟨P495, rfl, C495, S495, F495, f495_0⟩
            refine ⟨by decide, (?_ : Wp 198 _ 254 34 [(1, 161), (0, (i : Int)), (0, (j : Int)), (0, (l : Int)), (0, (m : Int)), (3, 0)] [] V495 _)⟩
            refine w_al hK rfl rfl ?_
            refine w_getr (n := 24) (v := 178) hK rfl rfl (by decide) (by decide) rfl rfl rfl rfl ?_
            refine w_call [(1, 178)] hK rfl rfl rfl rfl (Or.inl rfl) (r_clear C495 (isR_of (p := 178) rfl)) ?_
            rintro _ V496 ⟨P496, rfl, C496, S496, F496, f496_0⟩
            refine ⟨by decide, (?_ : Wp 198 _ 254 37 [(1, 161), (0, (i : Int)), (0, (j : Int)), (0, (l : Int)), (0, (m : Int)), (3, 0)] [] V496 _)⟩
            refine w_al hK rfl rfl ?_
            refine w_getr (n := 31) (v := 183) hK rfl rfl (by decide) (by decide) rfl rfl rfl rfl ?_
            refine w_call [(1, 183)] hK rfl rfl rfl rfl (Or.inl rfl) (r_clear C496 (isR_of (p := 183) rfl)) ?_
            rintro _ V497 ⟨P497, rfl, C497, S497, F497, f497_0⟩
            refine ⟨by decide, (?_ : Wp 198 _ 254 40 [(1, 161), (0, (i : Int)), (0, (j : Int)), (0, (l : Int)), (0, (m : Int)), (3, 0)] [] V497 _)⟩
            refine w_al hK rfl rfl ?_
            refine w_getr (n := 32) (v := 184) hK rfl rfl (by decide) (by decide) rfl rfl rfl rfl ?_
            refine w_call [(1, 184)] hK rfl rfl rfl rfl (Or.inl rfl) (r_clear C497 (isR_of (p := 184) rfl)) ?_
            rintro _ V498 ⟨P498, rfl, C498, S498, F498, f498_0⟩
            refine ⟨by decide, (?_ : Wp 198 _ 254 43 [(1, 161), (0, (i : Int)), (0, (j : Int)), (0, (l : Int)), (0, (m : Int)), (3, 0)] [] V498 _)⟩
            refine w_al hK rfl rfl ?_
            refine w_getr (n := 23) (v := 177) hK rfl rfl (by decide) (by decide) rfl rfl rfl rfl ?_
            refine w_ic hK rfl ?_
            refine w_ic hK rfl ?_
            refine w_iat hK rfl rfl (by decide) (by decide) (by omega) (by omega) ?_
            refine w_al hK rfl rfl ?_
            refine w_getr (n := 32) (v := 184) hK rfl rfl (by decide) (by decide) rfl rfl rfl rfl ?_
            refine w_ic hK rfl ?_
            refine w_ic hK rfl ?_
            refine w_iat hK rfl rfl (by decide) (by decide) (by omega) (by omega) ?_
            have lp53 : ∀ (n_ : Nat) (a : Nat) (w5 : AV) (R1 : Int → Option (Pl k)) (N53 : Mem), (dg (eu 0 (pl i) (pl j) a).2.1 + 1).toNat = n_ → (∀ m_ : Nat, m_ < a → (eu 0 (pl i) (pl j) m_).2.1 ≠ pz) → (RS N53 k R1) → (R1 180 = some ((eu 0 (pl i) (pl j) a).1)) → (R1 181 = some ((eu 0 (pl i) (pl j) a).2.1)) → (R1 177 = some ((eu 0 (pl i) (pl j) a).2.2.1)) → (R1 178 = some ((eu 0 (pl i) (pl j) a).2.2.2.1)) → (R1 183 = some ((eu 0 (pl i) (pl j) a).2.2.2.2.1)) → (R1 184 = some ((eu 0 (pl i) (pl j) a).2.2.2.2.2)) → ((∀ p : Int, p ≠ 170 → p ≠ 171 → p ≠ 172 → p ≠ 173 → p ≠ 174 → p ≠ 177 → p ≠ 178 → p ≠ 179 → p ≠ 180 → p ≠ 181 → p ≠ 182 → p ≠ 183 → p ≠ 184 → R1 p = (pu (pu P498 177 (up1 pz 0 e1)) 184 (up1 pz 0 e1)) p)) → ((∀ a : Int, (∀ p : Int, isR p → a ≠ p) → N53 a = (up (up V498 177 0 1) 184 0 1) a)) → Wp 198 (d + 8) 254 53 [(1, 161), (0, (i : Int)), (0, (j : Int)), (0, (l : Int)), (0, (m : Int)), w5] [] N53 (fun r_ M' => r_ = (0, (dg (euL 0 (pl i) (pl j)).1)) ∧ RFS M' k (fup (fup pl l (scl (iv (ld (euL 0 (pl i) (pl j)).1)) (euL 0 (pl i) (pl j)).2.2.1)) m (scl (iv (ld (euL 0 (pl i) (pl j)).1)) (euL 0 (pl i) (pl j)).2.2.2.2.1)) n tx rc rw fc fa ∧ (∀ a : Int, (a < 161 ∨ 197 < a) → M' a = M a)) := by
              intro n_
              induction n_ using Nat.strongRecOn with
              | _ n_ ih53 =>
              intro a w5 R1 N53 hm53 hz_ hCR1 h180_ h181_ h177_ h178_ h183_ h184_ hGR1 hSN53
              have hB_ := eu_B bi_ bj_ a hz_
              have gA_ := dg_lt9 hB_.1.1
              have gB_ := dg_lt9 hB_.1.2
              have gU_ := dg_lt17 hB_.2.1.2.1
              have gV_ := dg_lt17 hB_.2.1.2.2.2
              refine w_al hK rfl rfl ?_
              refine w_getr (n := 27) (v := 181) hK rfl rfl (by decide) (by decide) rfl rfl rfl rfl ?_
              have dI_ : -1 ≤ dg ((eu 0 (pl i) (pl j) a).2.1) ∧ dg ((eu 0 (pl i) (pl j) a).2.1) ≤ 47 := hCR1.dI ⟨(isR_of (p := 181) rfl), h181_⟩
              refine w_call [(1, 181)] hK rfl rfl rfl rfl (Or.inl rfl) (r_deg hCR1 ⟨(isR_of (p := 181) rfl), h181_⟩) ?_
              rintro _ Mq ⟨rfl, e_⟩
              subst Mq
              refine ⟨by show (0 : Nat) ≠ 9; decide, (?_ : Wp 198 _ 254 56 [(1, 161), (0, (i : Int)), (0, (j : Int)), (0, (l : Int)), (0, (m : Int)), w5] [(0, (dg ((eu 0 (pl i) (pl j) a).2.1)))] N53 _)⟩
              refine w_ic hK rfl ?_
              refine w_eq2 hK rfl (by omega) (by omega) (by omega) (by omega) (fun h57 => ?_) (fun h57 => ?_)
              · have eE_ : EuE 0 (pl i) (pl j) a := ⟨hz_, (dg_neg (hB_.1.2.mono (by decide))).mp (by omega)⟩
                rw [← euL_eq eE_] at h180_ h177_ h183_
                have eF_ := euL_facts bi_ bj_ eE_
                have eB_ := euL_B bi_ bj_ eE_
                have e0_ := eF_.2.2.2 (by rcases h0_ with q | q; exact Or.inl (fun e => by rw [e, dg_pz] at q; omega); exact Or.inr (fun e => by rw [e, dg_pz] at q; omega))
                refine w_al hK rfl rfl ?_
                refine w_getr (n := 26) (v := 180) hK rfl rfl (by decide) (by decide) rfl rfl rfl rfl ?_
                have dI_ : -1 ≤ dg ((euL 0 (pl i) (pl j)).1) ∧ dg ((euL 0 (pl i) (pl j)).1) ≤ 47 := hCR1.dI ⟨(isR_of (p := 180) rfl), h180_⟩
                refine w_call [(1, 180)] hK rfl rfl rfl rfl (Or.inl rfl) (r_deg hCR1 ⟨(isR_of (p := 180) rfl), h180_⟩) ?_
                rintro _ Mq ⟨rfl, e_⟩
                subst Mq
                refine ⟨by show (0 : Nat) ≠ 9; decide, (?_ : Wp 198 _ 254 96 [(1, 161), (0, (i : Int)), (0, (j : Int)), (0, (l : Int)), (0, (m : Int)), w5] [(0, (dg ((euL 0 (pl i) (pl j)).1)))] N53 _)⟩
                refine w_is [(1, 161), (0, (i : Int)), (0, (j : Int)), (0, (l : Int)), (0, (m : Int)), (0, (dg ((euL 0 (pl i) (pl j)).1)))] hK rfl rfl rfl ?_
                refine w_al hK rfl rfl ?_
                refine w_al hK rfl rfl ?_
                refine w_getr (n := 7) (v := 165) hK rfl rfl (by decide) (by decide) rfl rfl rfl rfl ?_
                refine w_al hK rfl rfl ?_
                refine w_getr (n := 26) (v := 180) hK rfl rfl (by decide) (by decide) rfl rfl rfl rfl ?_
                refine w_il hK rfl rfl ?_
                refine w_ia hK rfl rfl (by decide) (by decide) (by omega) (by omega) ?_
                rw [show N53 180 (dg ((euL 0 (pl i) (pl j)).1)) = ((cf ((euL 0 (pl i) (pl j)).1) (dg ((euL 0 (pl i) (pl j)).1))).val : Int) from hCR1.atI ⟨(isR_of (p := 180) rfl), h180_⟩ (by omega) (by omega)]
                have bl_ := el_I (cf (euL 0 (pl i) (pl j)).1 (dg (euL 0 (pl i) (pl j)).1))
                refine w_ia hK rfl rfl (by decide) (by decide) (by omega) (by omega) ?_
                rw [show N53 165 ((cf ((euL 0 (pl i) (pl j)).1) (dg ((euL 0 (pl i) (pl j)).1))).val : Int) = ((iv (cf ((euL 0 (pl i) (pl j)).1) (dg ((euL 0 (pl i) (pl j)).1)))).val : Int) from hCR1.F.v (cf ((euL 0 (pl i) (pl j)).1) (dg ((euL 0 (pl i) (pl j)).1)))]
                refine w_al hK rfl rfl ?_
                refine w_getr (n := 23) (v := 177) hK rfl rfl (by decide) (by decide) rfl rfl rfl rfl ?_
                refine w_call [(1, 161), (0, ((iv (cf ((euL 0 (pl i) (pl j)).1) (dg ((euL 0 (pl i) (pl j)).1)))).val : Int)), (1, 177)] hK rfl rfl rfl rfl (Or.inr ⟨_, _, _, rfl, by decide, (by decide), rfl⟩) (r_scal hCR1 (iv (cf ((euL 0 (pl i) (pl j)).1) (dg ((euL 0 (pl i) (pl j)).1)))) ⟨(isR_of (p := 177) rfl), h177_⟩) ?_
                rintro _ V499 ⟨P499, rfl, C499, S499, F499, f499_0⟩
                refine ⟨by decide, (?_ : Wp 198 _ 254 108 [(1, 161), (0, (i : Int)), (0, (j : Int)), (0, (l : Int)), (0, (m : Int)), (0, (dg ((euL 0 (pl i) (pl j)).1)))] [] V499 _)⟩
                refine w_al hK rfl rfl ?_
                refine w_al hK rfl rfl ?_
                refine w_getr (n := 7) (v := 165) hK rfl rfl (by decide) (by decide) rfl rfl rfl rfl ?_
                refine w_al hK rfl rfl ?_
                refine w_getr (n := 26) (v := 180) hK rfl rfl (by decide) (by decide) rfl rfl rfl rfl ?_
                refine w_il hK rfl rfl ?_
                refine w_ia hK rfl rfl (by decide) (by decide) (by omega) (by omega) ?_
                rw [show V499 180 (dg ((euL 0 (pl i) (pl j)).1)) = ((cf ((euL 0 (pl i) (pl j)).1) (dg ((euL 0 (pl i) (pl j)).1))).val : Int) from C499.atI ⟨(isR_of (p := 180) rfl), ((F499 180 (by omega)).trans h180_)⟩ (by omega) (by omega)]
                have bl_ := el_I (cf (euL 0 (pl i) (pl j)).1 (dg (euL 0 (pl i) (pl j)).1))
                refine w_ia hK rfl rfl (by decide) (by decide) (by omega) (by omega) ?_
                rw [show V499 165 ((cf ((euL 0 (pl i) (pl j)).1) (dg ((euL 0 (pl i) (pl j)).1))).val : Int) = ((iv (cf ((euL 0 (pl i) (pl j)).1) (dg ((euL 0 (pl i) (pl j)).1)))).val : Int) from C499.F.v (cf ((euL 0 (pl i) (pl j)).1) (dg ((euL 0 (pl i) (pl j)).1)))]
                refine w_al hK rfl rfl ?_
                refine w_getr (n := 31) (v := 183) hK rfl rfl (by decide) (by decide) rfl rfl rfl rfl ?_
                refine w_call [(1, 161), (0, ((iv (cf ((euL 0 (pl i) (pl j)).1) (dg ((euL 0 (pl i) (pl j)).1)))).val : Int)), (1, 183)] hK rfl rfl rfl rfl (Or.inr ⟨_, _, _, rfl, by decide, (by decide), rfl⟩) (r_scal C499 (iv (cf ((euL 0 (pl i) (pl j)).1) (dg ((euL 0 (pl i) (pl j)).1)))) ⟨(isR_of (p := 183) rfl), ((F499 183 (by omega)).trans h183_)⟩) ?_
                rintro _ V500 ⟨P500, rfl, C500, S500, F500, f500_0⟩
                refine ⟨by decide, (?_ : Wp 198 _ 254 119 [(1, 161), (0, (i : Int)), (0, (j : Int)), (0, (l : Int)), (0, (m : Int)), (0, (dg ((euL 0 (pl i) (pl j)).1)))] [] V500 _)⟩
                refine w_al hK rfl rfl ?_
                refine w_al hK rfl rfl ?_
                refine w_getr (n := 23) (v := 177) hK rfl rfl (by decide) (by decide) rfl rfl rfl rfl ?_
                refine w_il hK rfl rfl ?_
                refine w_call [(1, 161), (1, 177), (0, (l : Int))] hK rfl rfl rfl rfl (Or.inr ⟨_, _, _, rfl, by decide, (by decide), rfl⟩) (r_store C500 (PM.keep hpl ((S500 167 (notR rfl)).trans ((S499 167 (notR rfl)).trans ((hSN53 167 (notR rfl)).trans ((up_row (by decide)).trans ((up_row (by decide)).trans ((S498 167 (notR rfl)).trans ((S497 167 (notR rfl)).trans ((S496 167 (notR rfl)).trans ((S495 167 (notR rfl)).trans ((S480 167 (notR rfl)).trans (up_row (by decide))))))))))))) ⟨(isR_of (p := 177) rfl), ((F500 177 (by omega)).trans f499_0)⟩ l hl (Bd_scl _ (Bd9.of eB_.2.1.1 eF_.1))) ?_
                rintro _ V501 ⟨rfl, C501, Q501, F501⟩
                refine ⟨(by show (0 : Nat) ≠ 9; decide), (?_ : Wp 198 _ 254 124 [(1, 161), (0, (i : Int)), (0, (j : Int)), (0, (l : Int)), (0, (m : Int)), (0, (dg ((euL 0 (pl i) (pl j)).1)))] [(0, (dg (scl (iv (cf ((euL 0 (pl i) (pl j)).1) (dg ((euL 0 (pl i) (pl j)).1)))) ((euL 0 (pl i) (pl j)).2.2.1))))] V501 _)⟩
                refine w_pop hK rfl rfl ?_
                refine w_al hK rfl rfl ?_
                refine w_al hK rfl rfl ?_
                refine w_getr (n := 31) (v := 183) hK rfl rfl (by decide) (by decide) rfl rfl rfl rfl ?_
                refine w_il hK rfl rfl ?_
                refine w_call [(1, 161), (1, 183), (0, (m : Int))] hK rfl rfl rfl rfl (Or.inr ⟨_, _, _, rfl, by decide, (by decide), rfl⟩) (r_store C501 Q501 ⟨(isR_of (p := 183) rfl), f500_0⟩ m hm (Bd_scl _ (Bd9.of eB_.2.1.2.2.1 eF_.2.1))) ?_
                rintro _ V502 ⟨rfl, C502, Q502, F502⟩
                refine ⟨(by show (0 : Nat) ≠ 9; decide), (?_ : Wp 198 _ 254 130 [(1, 161), (0, (i : Int)), (0, (j : Int)), (0, (l : Int)), (0, (m : Int)), (0, (dg ((euL 0 (pl i) (pl j)).1)))] [(0, (dg (scl (iv (cf ((euL 0 (pl i) (pl j)).1) (dg ((euL 0 (pl i) (pl j)).1)))) ((euL 0 (pl i) (pl j)).2.2.2.2.1))))] V502 _)⟩
                refine w_pop hK rfl rfl ?_
                refine w_il hK rfl rfl ?_
                refine w_iret hK rfl rfl ?_
                exact ⟨rfl, ⟨_, C502, Q502, (TMs.keep T ((congrFun (F502 161 (by decide)) 11).trans ((congrFun (F501 161 (by decide)) 11).trans ((congrFun (S500 161 (notR rfl)) 11).trans ((congrFun (S499 161 (notR rfl)) 11).trans ((congrFun (hSN53 161 (notR rfl)) 11).trans ((congrFun (up_row (by decide)) 11).trans ((congrFun (up_row (by decide)) 11).trans ((congrFun (S498 161 (notR rfl)) 11).trans ((congrFun (S497 161 (notR rfl)) 11).trans ((congrFun (S496 161 (notR rfl)) 11).trans ((congrFun (S495 161 (notR rfl)) 11).trans ((congrFun (S480 161 (notR rfl)) 11).trans (up_ne2 (by decide)))))))))))))) ((F502 168 (by decide)).trans ((F501 168 (by decide)).trans ((S500 168 (notR rfl)).trans ((S499 168 (notR rfl)).trans ((hSN53 168 (notR rfl)).trans ((up_row (by decide)).trans ((up_row (by decide)).trans ((S498 168 (notR rfl)).trans ((S497 168 (notR rfl)).trans ((S496 168 (notR rfl)).trans ((S495 168 (notR rfl)).trans ((S480 168 (notR rfl)).trans (up_row (by decide))))))))))))))), (RM.keep hR ((congrFun (F502 161 (by decide)) 13).trans ((congrFun (F501 161 (by decide)) 13).trans ((congrFun (S500 161 (notR rfl)) 13).trans ((congrFun (S499 161 (notR rfl)) 13).trans ((congrFun (hSN53 161 (notR rfl)) 13).trans ((congrFun (up_row (by decide)) 13).trans ((congrFun (up_row (by decide)) 13).trans ((congrFun (S498 161 (notR rfl)) 13).trans ((congrFun (S497 161 (notR rfl)) 13).trans ((congrFun (S496 161 (notR rfl)) 13).trans ((congrFun (S495 161 (notR rfl)) 13).trans ((congrFun (S480 161 (notR rfl)) 13).trans (up_ne2 (by decide)))))))))))))) ((F502 169 (by decide)).trans ((F501 169 (by decide)).trans ((S500 169 (notR rfl)).trans ((S499 169 (notR rfl)).trans ((hSN53 169 (notR rfl)).trans ((up_row (by decide)).trans ((up_row (by decide)).trans ((S498 169 (notR rfl)).trans ((S497 169 (notR rfl)).trans ((S496 169 (notR rfl)).trans ((S495 169 (notR rfl)).trans ((S480 169 (notR rfl)).trans (up_row (by decide))))))))))))))), (FM.keep hF ((congrFun (F502 161 (by decide)) 15).trans ((congrFun (F501 161 (by decide)) 15).trans ((congrFun (S500 161 (notR rfl)) 15).trans ((congrFun (S499 161 (notR rfl)) 15).trans ((congrFun (hSN53 161 (notR rfl)) 15).trans ((congrFun (up_row (by decide)) 15).trans ((congrFun (up_row (by decide)) 15).trans ((congrFun (S498 161 (notR rfl)) 15).trans ((congrFun (S497 161 (notR rfl)) 15).trans ((congrFun (S496 161 (notR rfl)) 15).trans ((congrFun (S495 161 (notR rfl)) 15).trans ((congrFun (S480 161 (notR rfl)) 15).trans (up_ne2 (by decide)))))))))))))) ((F502 189 (by decide)).trans ((F501 189 (by decide)).trans ((S500 189 (notR rfl)).trans ((S499 189 (notR rfl)).trans ((hSN53 189 (notR rfl)).trans ((up_row (by decide)).trans ((up_row (by decide)).trans ((S498 189 (notR rfl)).trans ((S497 189 (notR rfl)).trans ((S496 189 (notR rfl)).trans ((S495 189 (notR rfl)).trans ((S480 189 (notR rfl)).trans (up_row (by decide)))))))))))))) ((F502 190 (by decide)).trans ((F501 190 (by decide)).trans ((S500 190 (notR rfl)).trans ((S499 190 (notR rfl)).trans ((hSN53 190 (notR rfl)).trans ((up_row (by decide)).trans ((up_row (by decide)).trans ((S498 190 (notR rfl)).trans ((S497 190 (notR rfl)).trans ((S496 190 (notR rfl)).trans ((S495 190 (notR rfl)).trans ((S480 190 (notR rfl)).trans (up_row (by decide)))))))))))))))⟩, (fun a h_ => ((F502 a (by omega)).trans ((F501 a (by omega)).trans ((S500 a (npR h_)).trans ((S499 a (npR h_)).trans ((hSN53 a (npR h_)).trans ((up_row (by omega)).trans ((up_row (by omega)).trans ((S498 a (npR h_)).trans ((S497 a (npR h_)).trans ((S496 a (npR h_)).trans ((S495 a (npR h_)).trans ((S480 a (npR h_)).trans (up_row (by omega)))))))))))))))⟩
              · have hne_ : (eu 0 (pl i) (pl j) a).2.1 ≠ pz := fun q_ => by rw [q_, dg_pz] at h57; exact h57 rfl
                have hdd_ := eu_dec hB_ hne_
                have dv_ := dg_dv 0 (hB_.1.1.mono (show 9 ≤ 17 by decide)) (hB_.1.2.mono (show 9 ≤ 17 by decide)) hdd_.2
                refine w_al hK rfl rfl ?_
                refine w_al hK rfl rfl ?_
                refine w_getr (n := 26) (v := 180) hK rfl rfl (by decide) (by decide) rfl rfl rfl rfl ?_
                refine w_al hK rfl rfl ?_
                refine w_getr (n := 27) (v := 181) hK rfl rfl (by decide) (by decide) rfl rfl rfl rfl ?_
                refine w_ic hK rfl ?_
                refine w_call [(1, 161), (1, 180), (1, 181), (0, 0)] hK rfl rfl rfl rfl (Or.inr ⟨_, _, _, rfl, by decide, (by decide), rfl⟩) (r_div hCR1 ⟨(isR_of (p := 180) rfl), h180_⟩ ⟨(isR_of (p := 181) rfl), h181_⟩ 0 (by omega) (by omega) (by omega) (by omega) (hB_.1.1.mono (by decide)) (hB_.1.2.mono (by decide))) ?_
                rintro _ V503 ⟨P503, rfl, C503, S503, F503, f503_0, f503_1⟩
                refine ⟨by decide, (?_ : Wp 198 _ 254 65 [(1, 161), (0, (i : Int)), (0, (j : Int)), (0, (l : Int)), (0, (m : Int)), w5] [] V503 _)⟩
                refine w_al hK rfl rfl ?_
                refine w_getr (n := 19) (v := 173) hK rfl rfl (by decide) (by decide) rfl rfl rfl rfl ?_
                refine w_al hK rfl rfl ?_
                refine w_getr (n := 28) (v := 182) hK rfl rfl (by decide) (by decide) rfl rfl rfl rfl ?_
                refine w_call [(1, 173), (1, 182)] hK rfl rfl rfl rfl (Or.inl rfl) (r_copy C503 ⟨(isR_of (p := 173) rfl), f503_0⟩ (isR_of (p := 182) rfl) (by omega)) ?_
                rintro _ V504 ⟨P504, rfl, C504, S504, F504, f504_0⟩
                refine ⟨by decide, (?_ : Wp 198 _ 254 70 [(1, 161), (0, (i : Int)), (0, (j : Int)), (0, (l : Int)), (0, (m : Int)), w5] [] V504 _)⟩
                refine w_al hK rfl rfl ?_
                refine w_al hK rfl rfl ?_
                refine w_getr (n := 23) (v := 177) hK rfl rfl (by decide) (by decide) rfl rfl rfl rfl ?_
                refine w_al hK rfl rfl ?_
                refine w_getr (n := 24) (v := 178) hK rfl rfl (by decide) (by decide) rfl rfl rfl rfl ?_
                refine w_call [(1, 161), (1, 177), (1, 178)] hK rfl rfl rfl rfl (Or.inr ⟨_, _, _, rfl, by decide, (by decide), rfl⟩) (r_turn C504 ⟨(isR_of (p := 177) rfl), ((F504 177 (by omega)).trans ((F503 177 (by omega) (by omega) (by omega) (by omega) (by omega)).trans h177_))⟩ ⟨(isR_of (p := 178) rfl), ((F504 178 (by omega)).trans ((F503 178 (by omega) (by omega) (by omega) (by omega) (by omega)).trans h178_))⟩ ((F504 174 (by omega)).trans f503_1) (by omega) (by omega) (by omega) (by omega)) ?_
                rintro _ V505 ⟨P505, rfl, C505, S505, F505, f505_0, f505_1⟩
                refine ⟨by decide, (?_ : Wp 198 _ 254 76 [(1, 161), (0, (i : Int)), (0, (j : Int)), (0, (l : Int)), (0, (m : Int)), w5] [] V505 _)⟩
                refine w_al hK rfl rfl ?_
                refine w_al hK rfl rfl ?_
                refine w_getr (n := 31) (v := 183) hK rfl rfl (by decide) (by decide) rfl rfl rfl rfl ?_
                refine w_al hK rfl rfl ?_
                refine w_getr (n := 32) (v := 184) hK rfl rfl (by decide) (by decide) rfl rfl rfl rfl ?_
                refine w_call [(1, 161), (1, 183), (1, 184)] hK rfl rfl rfl rfl (Or.inr ⟨_, _, _, rfl, by decide, (by decide), rfl⟩) (r_turn C505 ⟨(isR_of (p := 183) rfl), ((F505 183 (by omega) (by omega) (by omega) (by omega)).trans ((F504 183 (by omega)).trans ((F503 183 (by omega) (by omega) (by omega) (by omega) (by omega)).trans h183_)))⟩ ⟨(isR_of (p := 184) rfl), ((F505 184 (by omega) (by omega) (by omega) (by omega)).trans ((F504 184 (by omega)).trans ((F503 184 (by omega) (by omega) (by omega) (by omega) (by omega)).trans h184_)))⟩ ((F505 174 (by omega) (by omega) (by omega) (by omega)).trans ((F504 174 (by omega)).trans f503_1)) (by omega) (by omega) (by omega) (by omega)) ?_
                rintro _ V506 ⟨P506, rfl, C506, S506, F506, f506_0, f506_1⟩
                refine ⟨by decide, (?_ : Wp 198 _ 254 82 [(1, 161), (0, (i : Int)), (0, (j : Int)), (0, (l : Int)), (0, (m : Int)), w5] [] V506 _)⟩
                refine w_al hK rfl rfl ?_
                refine w_getr (n := 27) (v := 181) hK rfl rfl (by decide) (by decide) rfl rfl rfl rfl ?_
                refine w_al hK rfl rfl ?_
                refine w_getr (n := 26) (v := 180) hK rfl rfl (by decide) (by decide) rfl rfl rfl rfl ?_
                refine w_call [(1, 181), (1, 180)] hK rfl rfl rfl rfl (Or.inl rfl) (r_copy C506 ⟨(isR_of (p := 181) rfl), ((F506 181 (by omega) (by omega) (by omega) (by omega)).trans ((F505 181 (by omega) (by omega) (by omega) (by omega)).trans ((F504 181 (by omega)).trans ((F503 181 (by omega) (by omega) (by omega) (by omega) (by omega)).trans h181_))))⟩ (isR_of (p := 180) rfl) (by omega)) ?_
                rintro _ V507 ⟨P507, rfl, C507, S507, F507, f507_0⟩
                refine ⟨by decide, (?_ : Wp 198 _ 254 87 [(1, 161), (0, (i : Int)), (0, (j : Int)), (0, (l : Int)), (0, (m : Int)), w5] [] V507 _)⟩
                refine w_al hK rfl rfl ?_
                refine w_getr (n := 28) (v := 182) hK rfl rfl (by decide) (by decide) rfl rfl rfl rfl ?_
                refine w_al hK rfl rfl ?_
                refine w_getr (n := 27) (v := 181) hK rfl rfl (by decide) (by decide) rfl rfl rfl rfl ?_
                refine w_call [(1, 182), (1, 181)] hK rfl rfl rfl rfl (Or.inl rfl) (r_copy C507 ⟨(isR_of (p := 182) rfl), ((F507 182 (by omega)).trans ((F506 182 (by omega) (by omega) (by omega) (by omega)).trans ((F505 182 (by omega) (by omega) (by omega) (by omega)).trans f504_0)))⟩ (isR_of (p := 181) rfl) (by omega)) ?_
                rintro _ V508 ⟨P508, rfl, C508, S508, F508, f508_0⟩
                refine ⟨by decide, (?_ : Wp 198 _ 254 92 [(1, 161), (0, (i : Int)), (0, (j : Int)), (0, (l : Int)), (0, (m : Int)), w5] [] V508 _)⟩
                refine w_goto hK rfl ?_
                exact ih53 _ (by have := hdd_; omega) (a + 1) w5 _ V508 rfl (fun m_ h_ => by
                  by_cases q_ : m_ = a
                  · rw [q_]; exact hne_
                  · exact hz_ m_ (by omega)) C508 (((F508 180 (by omega)).trans f507_0)) (f508_0) (((F508 177 (by omega)).trans ((F507 177 (by omega)).trans ((F506 177 (by omega) (by omega) (by omega) (by omega)).trans f505_0)))) (((F508 178 (by omega)).trans ((F507 178 (by omega)).trans ((F506 178 (by omega) (by omega) (by omega) (by omega)).trans f505_1)))) (((F508 183 (by omega)).trans ((F507 183 (by omega)).trans f506_0))) (((F508 184 (by omega)).trans ((F507 184 (by omega)).trans f506_1))) (fun p pn170_ pn171_ pn172_ pn173_ pn174_ pn177_ pn178_ pn179_ pn180_ pn181_ pn182_ pn183_ pn184_ => ((F508 p pn181_).trans ((F507 p pn180_).trans ((F506 p pn170_ pn179_ pn183_ pn184_).trans ((F505 p pn170_ pn179_ pn177_ pn178_).trans ((F504 p pn182_).trans ((F503 p pn170_ pn171_ pn172_ pn173_ pn174_).trans (hGR1 p pn170_ pn171_ pn172_ pn173_ pn174_ pn177_ pn178_ pn179_ pn180_ pn181_ pn182_ pn183_ pn184_)))))))) (fun a nr_ => ((S508 a nr_).trans ((S507 a nr_).trans ((S506 a nr_).trans ((S505 a nr_).trans ((S504 a nr_).trans ((S503 a nr_).trans (hSN53 a nr_))))))))
            exact lp53 _ 0 (3, 0) _ (up (up V498 177 0 1) 184 0 1) rfl (fun m_ h_ => by omega) (RS.up (RS.up C498 ⟨(isR_of (p := 177) rfl), ((F498 177 (by omega)).trans ((F497 177 (by omega)).trans ((F496 177 (by omega)).trans f495_0)))⟩ (j := 0) (by omega) (by omega) (e := e1) el1.symm) ⟨(isR_of (p := 184) rfl), ((pu_ne (P := P498) (f := up1 pz 0 e1) (show 184 ≠ 177 by omega)).trans f498_0)⟩ (j := 0) (by omega) (by omega) (e := e1) el1.symm) (((pu_ne (P := pu P498 177 (up1 pz 0 e1)) (f := up1 pz 0 e1) (show 180 ≠ 184 by omega)).trans ((pu_ne (P := P498) (f := up1 pz 0 e1) (show 180 ≠ 177 by omega)).trans ((F498 180 (by omega)).trans ((F497 180 (by omega)).trans ((F496 180 (by omega)).trans ((F495 180 (by omega)).trans f480_0))))))) (((pu_ne (P := pu P498 177 (up1 pz 0 e1)) (f := up1 pz 0 e1) (show 181 ≠ 184 by omega)).trans ((pu_ne (P := P498) (f := up1 pz 0 e1) (show 181 ≠ 177 by omega)).trans ((F498 181 (by omega)).trans ((F497 181 (by omega)).trans ((F496 181 (by omega)).trans ((F495 181 (by omega)).trans f480_1))))))) (((pu_ne (P := pu P498 177 (up1 pz 0 e1)) (f := up1 pz 0 e1) (show 177 ≠ 184 by omega)).trans pu_eq)) (((pu_ne (P := pu P498 177 (up1 pz 0 e1)) (f := up1 pz 0 e1) (show 178 ≠ 184 by omega)).trans ((pu_ne (P := P498) (f := up1 pz 0 e1) (show 178 ≠ 177 by omega)).trans ((F498 178 (by omega)).trans ((F497 178 (by omega)).trans f496_0))))) (((pu_ne (P := pu P498 177 (up1 pz 0 e1)) (f := up1 pz 0 e1) (show 183 ≠ 184 by omega)).trans ((pu_ne (P := P498) (f := up1 pz 0 e1) (show 183 ≠ 177 by omega)).trans ((F498 183 (by omega)).trans f497_0)))) (pu_eq) (fun p pn170_ pn171_ pn172_ pn173_ pn174_ pn177_ pn178_ pn179_ pn180_ pn181_ pn182_ pn183_ pn184_ => rfl) (fun a nr_ => rfl)
          · exfalso; omega
        · exfalso; omega
    · exfalso; omega
set_option maxRecDepth 100000 in
theorem ry_cofs {d : Nat} {M : Mem} {k : Nat} {pl : Nat → Pl k} {n : Int} {tx : Int → Int} {rc : Nat} {rw : Int → Int} {fc : Nat} {fa : Nat → Pl k} (H : RFS M k pl n tx rc rw fc fa) (i : Nat) (hi : i < 6) (j : Nat) (hj : j < 6) (l : Nat) (hl : l < 6) (m : Nat) (hm : m < 6) (h0_ : dg (pl i) < 0 ∧ dg (pl j) < 0) : Ct 198 (d + 8) 254 [(1, 161), (0, (i : Int)), (0, (j : Int)), (0, (l : Int)), (0, (m : Int))] M (fun r_ M' => r_ = (0, -2) ∧ RFS M' k pl n tx rc rw fc fa ∧ (∀ a : Int, (a < 161 ∨ 197 < a) → M' a = M a)) := by
  have hK : cd 254 = k254 := rfl
  obtain ⟨R, C, hpl, T, hR, hF⟩ := H
  have q1_ := qq_I k
  have p1_ := pp_I k
  have m1_ := mm_I k
  have bi_ := (hpl i hi).2
  have di_ := dg_lt9 bi_
  have bj_ := (hpl j hj).2
  have dj_ := dg_lt9 bj_
  have bl_ := (hpl l hl).2
  have dl_ := dg_lt9 bl_
  have bm_ := (hpl m hm).2
  have dm_ := dg_lt9 bm_
  show Wp 198 _ 254 0 [(1, 161), (0, (i : Int)), (0, (j : Int)), (0, (l : Int)), (0, (m : Int)), (3, 0)] [] M _
  refine w_al hK rfl rfl ?_
  refine w_ic hK rfl ?_
  refine w_puti (n := 14) (m := 14) hK rfl rfl (by decide) (by decide) rfl rfl rfl rfl ?_
  refine w_il hK rfl rfl ?_
  refine w_call [(0, (m : Int))] hK rfl rfl rfl rfl (Or.inl rfl) (r_place (m : Int) (by omega) (by omega)) ?_
  rintro _ Mq ⟨rfl, e_⟩
  subst Mq
  have pI_509 := ite01 (0 ≤ (m : Int) ∧ (m : Int) < 6)
  refine ⟨by show (0 : Nat) ≠ 9; decide, (?_ : Wp 198 _ 254 5 [(1, 161), (0, (i : Int)), (0, (j : Int)), (0, (l : Int)), (0, (m : Int)), (3, 0)] [(0, (if 0 ≤ (m : Int) ∧ (m : Int) < 6 then 1 else 0))] (up M 161 14 0) _)⟩
  refine w_eq hK rfl (by omega) (by omega) (fun h5 => ?_) (fun h5 => ?_)
  · exfalso; omega
  · refine w_al hK rfl rfl ?_
    refine w_il hK rfl rfl ?_
    refine w_il hK rfl rfl ?_
    refine w_il hK rfl rfl ?_
    refine w_call [(1, 161), (0, (i : Int)), (0, (j : Int)), (0, (l : Int))] hK rfl rfl rfl rfl (Or.inr ⟨_, _, _, rfl, by decide, (by decide), rfl⟩) (r_loads (RS.cg C (fun j_ h1_ h2_ => up_ne2 (by omega)) (fun a_ h1_ h2_ => up_row h1_)) (PM.keep hpl (up_row (by decide))) i j l hi hj hl) ?_
    rintro _ V510 ⟨P510, rfl, C510, S510, F510, f510_0, f510_1⟩
    refine ⟨by show (0 : Nat) ≠ 9; decide, (?_ : Wp 198 _ 254 11 [(1, 161), (0, (i : Int)), (0, (j : Int)), (0, (l : Int)), (0, (m : Int)), (3, 0)] [(0, 1)] V510 _)⟩
    refine w_ne hK rfl (by omega) (by omega) (fun h11 => ?_) (fun h11 => ?_)
    · refine w_al hK rfl rfl ?_
      refine w_getr (n := 26) (v := 180) hK rfl rfl (by decide) (by decide) rfl rfl rfl rfl ?_
      have dI_ : -1 ≤ dg (pl i) ∧ dg (pl i) ≤ 47 := C510.dI ⟨(isR_of (p := 180) rfl), f510_0⟩
      refine w_call [(1, 180)] hK rfl rfl rfl rfl (Or.inl rfl) (r_deg C510 ⟨(isR_of (p := 180) rfl), f510_0⟩) ?_
      rintro _ Mq ⟨rfl, e_⟩
      subst Mq
      refine ⟨by show (0 : Nat) ≠ 9; decide, (?_ : Wp 198 _ 254 17 [(1, 161), (0, (i : Int)), (0, (j : Int)), (0, (l : Int)), (0, (m : Int)), (3, 0)] [(0, (dg (pl i)))] V510 _)⟩
      refine w_ic hK rfl ?_
      refine w_ne2 hK rfl (by omega) (by omega) (by omega) (by omega) (fun h18 => ?_) (fun h18 => ?_)
      · exfalso; omega
      · refine w_al hK rfl rfl ?_
        refine w_getr (n := 27) (v := 181) hK rfl rfl (by decide) (by decide) rfl rfl rfl rfl ?_
        have dI_ : -1 ≤ dg (pl j) ∧ dg (pl j) ≤ 47 := C510.dI ⟨(isR_of (p := 181) rfl), f510_1⟩
        refine w_call [(1, 181)] hK rfl rfl rfl rfl (Or.inl rfl) (r_deg C510 ⟨(isR_of (p := 181) rfl), f510_1⟩) ?_
        rintro _ Mq ⟨rfl, e_⟩
        subst Mq
        refine ⟨by show (0 : Nat) ≠ 9; decide, (?_ : Wp 198 _ 254 22 [(1, 161), (0, (i : Int)), (0, (j : Int)), (0, (l : Int)), (0, (m : Int)), (3, 0)] [(0, (dg (pl j)))] V510 _)⟩
        refine w_ic hK rfl ?_
        refine w_ne2 hK rfl (by omega) (by omega) (by omega) (by omega) (fun h23 => ?_) (fun h23 => ?_)
        · exfalso; omega
        · refine w_ic hK rfl ?_
          refine w_iret hK rfl rfl ?_
          exact ⟨rfl, ⟨_, C510, (PM.keep hpl ((S510 167 (notR rfl)).trans (up_row (by decide)))), (TMs.keep T ((congrFun (S510 161 (notR rfl)) 11).trans (up_ne2 (by decide))) ((S510 168 (notR rfl)).trans (up_row (by decide)))), (RM.keep hR ((congrFun (S510 161 (notR rfl)) 13).trans (up_ne2 (by decide))) ((S510 169 (notR rfl)).trans (up_row (by decide)))), (FM.keep hF ((congrFun (S510 161 (notR rfl)) 15).trans (up_ne2 (by decide))) ((S510 189 (notR rfl)).trans (up_row (by decide))) ((S510 190 (notR rfl)).trans (up_row (by decide))))⟩, (fun a h_ => ((S510 a (npR h_)).trans (up_row (by omega))))⟩
    · exfalso; omega
set_option maxRecDepth 100000 in
theorem rz_cofs {d : Nat} {M : Mem} {k : Nat} {pl : Nat → Pl k} {n : Int} {tx : Int → Int} {rc : Nat} {rw : Int → Int} {fc : Nat} {fa : Nat → Pl k} (H : RFS M k pl n tx rc rw fc fa) (i : Nat) (hi : i < 6) (j : Nat) (hj : j < 6) (l : Nat) (hl : l < 6) (h0_ : 0 ≤ dg (pl i) ∨ 0 ≤ dg (pl j)) : Ct 198 (d + 8) 254 [(1, 161), (0, (i : Int)), (0, (j : Int)), (0, (l : Int)), (0, (l : Int))] M (fun r_ M' => r_ = (0, -3) ∧ RFS M' k pl n tx rc rw fc fa ∧ (∀ a : Int, (a < 161 ∨ 197 < a) → M' a = M a)) := by
  have hK : cd 254 = k254 := rfl
  obtain ⟨R, C, hpl, T, hR, hF⟩ := H
  have q1_ := qq_I k
  have p1_ := pp_I k
  have m1_ := mm_I k
  have bi_ := (hpl i hi).2
  have di_ := dg_lt9 bi_
  have bj_ := (hpl j hj).2
  have dj_ := dg_lt9 bj_
  have bl_ := (hpl l hl).2
  have dl_ := dg_lt9 bl_
  show Wp 198 _ 254 0 [(1, 161), (0, (i : Int)), (0, (j : Int)), (0, (l : Int)), (0, (l : Int)), (3, 0)] [] M _
  refine w_al hK rfl rfl ?_
  refine w_ic hK rfl ?_
  refine w_puti (n := 14) (m := 14) hK rfl rfl (by decide) (by decide) rfl rfl rfl rfl ?_
  refine w_il hK rfl rfl ?_
  refine w_call [(0, (l : Int))] hK rfl rfl rfl rfl (Or.inl rfl) (r_place (l : Int) (by omega) (by omega)) ?_
  rintro _ Mq ⟨rfl, e_⟩
  subst Mq
  have pI_511 := ite01 (0 ≤ (l : Int) ∧ (l : Int) < 6)
  refine ⟨by show (0 : Nat) ≠ 9; decide, (?_ : Wp 198 _ 254 5 [(1, 161), (0, (i : Int)), (0, (j : Int)), (0, (l : Int)), (0, (l : Int)), (3, 0)] [(0, (if 0 ≤ (l : Int) ∧ (l : Int) < 6 then 1 else 0))] (up M 161 14 0) _)⟩
  refine w_eq hK rfl (by omega) (by omega) (fun h5 => ?_) (fun h5 => ?_)
  · exfalso; omega
  · refine w_al hK rfl rfl ?_
    refine w_il hK rfl rfl ?_
    refine w_il hK rfl rfl ?_
    refine w_il hK rfl rfl ?_
    refine w_call [(1, 161), (0, (i : Int)), (0, (j : Int)), (0, (l : Int))] hK rfl rfl rfl rfl (Or.inr ⟨_, _, _, rfl, by decide, (by decide), rfl⟩) (r_loads (RS.cg C (fun j_ h1_ h2_ => up_ne2 (by omega)) (fun a_ h1_ h2_ => up_row h1_)) (PM.keep hpl (up_row (by decide))) i j l hi hj hl) ?_
    rintro _ V512 ⟨P512, rfl, C512, S512, F512, f512_0, f512_1⟩
    refine ⟨by show (0 : Nat) ≠ 9; decide, (?_ : Wp 198 _ 254 11 [(1, 161), (0, (i : Int)), (0, (j : Int)), (0, (l : Int)), (0, (l : Int)), (3, 0)] [(0, 1)] V512 _)⟩
    refine w_ne hK rfl (by omega) (by omega) (fun h11 => ?_) (fun h11 => ?_)
    · refine w_al hK rfl rfl ?_
      refine w_getr (n := 26) (v := 180) hK rfl rfl (by decide) (by decide) rfl rfl rfl rfl ?_
      have dI_ : -1 ≤ dg (pl i) ∧ dg (pl i) ≤ 47 := C512.dI ⟨(isR_of (p := 180) rfl), f512_0⟩
      refine w_call [(1, 180)] hK rfl rfl rfl rfl (Or.inl rfl) (r_deg C512 ⟨(isR_of (p := 180) rfl), f512_0⟩) ?_
      rintro _ Mq ⟨rfl, e_⟩
      subst Mq
      refine ⟨by show (0 : Nat) ≠ 9; decide, (?_ : Wp 198 _ 254 17 [(1, 161), (0, (i : Int)), (0, (j : Int)), (0, (l : Int)), (0, (l : Int)), (3, 0)] [(0, (dg (pl i)))] V512 _)⟩
      refine w_ic hK rfl ?_
      refine w_ne2 hK rfl (by omega) (by omega) (by omega) (by omega) (fun h18 => ?_) (fun h18 => ?_)
      · refine w_il hK rfl rfl ?_
        refine w_il hK rfl rfl ?_
        refine w_ne2 hK rfl (by omega) (by omega) (by omega) (by omega) (fun h28 => ?_) (fun h28 => ?_)
        · exfalso; omega
        · refine w_ic hK rfl ?_
          refine w_iret hK rfl rfl ?_
          exact ⟨rfl, ⟨_, C512, (PM.keep hpl ((S512 167 (notR rfl)).trans (up_row (by decide)))), (TMs.keep T ((congrFun (S512 161 (notR rfl)) 11).trans (up_ne2 (by decide))) ((S512 168 (notR rfl)).trans (up_row (by decide)))), (RM.keep hR ((congrFun (S512 161 (notR rfl)) 13).trans (up_ne2 (by decide))) ((S512 169 (notR rfl)).trans (up_row (by decide)))), (FM.keep hF ((congrFun (S512 161 (notR rfl)) 15).trans (up_ne2 (by decide))) ((S512 189 (notR rfl)).trans (up_row (by decide))) ((S512 190 (notR rfl)).trans (up_row (by decide))))⟩, (fun a h_ => ((S512 a (npR h_)).trans (up_row (by omega))))⟩
      · refine w_al hK rfl rfl ?_
        refine w_getr (n := 27) (v := 181) hK rfl rfl (by decide) (by decide) rfl rfl rfl rfl ?_
        have dI_ : -1 ≤ dg (pl j) ∧ dg (pl j) ≤ 47 := C512.dI ⟨(isR_of (p := 181) rfl), f512_1⟩
        refine w_call [(1, 181)] hK rfl rfl rfl rfl (Or.inl rfl) (r_deg C512 ⟨(isR_of (p := 181) rfl), f512_1⟩) ?_
        rintro _ Mq ⟨rfl, e_⟩
        subst Mq
        refine ⟨by show (0 : Nat) ≠ 9; decide, (?_ : Wp 198 _ 254 22 [(1, 161), (0, (i : Int)), (0, (j : Int)), (0, (l : Int)), (0, (l : Int)), (3, 0)] [(0, (dg (pl j)))] V512 _)⟩
        refine w_ic hK rfl ?_
        refine w_ne2 hK rfl (by omega) (by omega) (by omega) (by omega) (fun h23 => ?_) (fun h23 => ?_)
        · refine w_il hK rfl rfl ?_
          refine w_il hK rfl rfl ?_
          refine w_ne2 hK rfl (by omega) (by omega) (by omega) (by omega) (fun h28 => ?_) (fun h28 => ?_)
          · exfalso; omega
          · refine w_ic hK rfl ?_
            refine w_iret hK rfl rfl ?_
            exact ⟨rfl, ⟨_, C512, (PM.keep hpl ((S512 167 (notR rfl)).trans (up_row (by decide)))), (TMs.keep T ((congrFun (S512 161 (notR rfl)) 11).trans (up_ne2 (by decide))) ((S512 168 (notR rfl)).trans (up_row (by decide)))), (RM.keep hR ((congrFun (S512 161 (notR rfl)) 13).trans (up_ne2 (by decide))) ((S512 169 (notR rfl)).trans (up_row (by decide)))), (FM.keep hF ((congrFun (S512 161 (notR rfl)) 15).trans (up_ne2 (by decide))) ((S512 189 (notR rfl)).trans (up_row (by decide))) ((S512 190 (notR rfl)).trans (up_row (by decide))))⟩, (fun a h_ => ((S512 a (npR h_)).trans (up_row (by omega))))⟩
        · exfalso; omega
    · exfalso; omega
set_option maxRecDepth 100000 in
theorem rn_cofs {d : Nat} {M : Mem} {k : Nat} {pl : Nat → Pl k} {n : Int} {tx : Int → Int} {rc : Nat} {rw : Int → Int} {fc : Nat} {fa : Nat → Pl k} (H : RFS M k pl n tx rc rw fc fa) (i j l m : Int) (i1_ : -2147483648 ≤ i) (i2_ : i ≤ 2147483647) (j1_ : -2147483648 ≤ j) (j2_ : j ≤ 2147483647) (l1_ : -2147483648 ≤ l) (l2_ : l ≤ 2147483647) (m1_ : -2147483648 ≤ m) (m2_ : m ≤ 2147483647) (hn : ¬ ((0 ≤ i ∧ i < 6) ∧ (0 ≤ j ∧ j < 6) ∧ (0 ≤ l ∧ l < 6) ∧ (0 ≤ m ∧ m < 6))) : Ct 198 (d + 8) 254 [(1, 161), (0, i), (0, j), (0, l), (0, m)] M (fun r_ M' => r_ = (0, -1) ∧ RFS M' k pl n tx rc rw fc fa ∧ (∀ a : Int, (a < 161 ∨ 197 < a) → M' a = M a)) := by
  have hK : cd 254 = k254 := rfl
  obtain ⟨R, C, hpl, T, hR, hF⟩ := H
  have q1_ := qq_I k
  have p1_ := pp_I k
  have m1_ := mm_I k
  show Wp 198 _ 254 0 [(1, 161), (0, i), (0, j), (0, l), (0, m), (3, 0)] [] M _
  refine w_al hK rfl rfl ?_
  refine w_ic hK rfl ?_
  refine w_puti (n := 14) (m := 14) hK rfl rfl (by decide) (by decide) rfl rfl rfl rfl ?_
  refine w_il hK rfl rfl ?_
  refine w_call [(0, m)] hK rfl rfl rfl rfl (Or.inl rfl) (r_place m (by omega) (by omega)) ?_
  rintro _ Mq ⟨rfl, e_⟩
  subst Mq
  have pI_513 := ite01 (0 ≤ m ∧ m < 6)
  refine ⟨by show (0 : Nat) ≠ 9; decide, (?_ : Wp 198 _ 254 5 [(1, 161), (0, i), (0, j), (0, l), (0, m), (3, 0)] [(0, (if 0 ≤ m ∧ m < 6 then 1 else 0))] (up M 161 14 0) _)⟩
  refine w_eq hK rfl (by omega) (by omega) (fun h5 => ?_) (fun h5 => ?_)
  · refine w_ic hK rfl ?_
    refine w_iret hK rfl rfl ?_
    exact ⟨rfl, ⟨_, (RS.cg C (fun j_ h1_ h2_ => up_ne2 (by omega)) (fun a_ h1_ h2_ => up_row h1_)), (PM.keep hpl (up_row (by decide))), (TMs.keep T (up_ne2 (by decide)) (up_row (by decide))), (RM.keep hR (up_ne2 (by decide)) (up_row (by decide))), (FM.keep hF (up_ne2 (by decide)) (up_row (by decide)) (up_row (by decide)))⟩, (fun a h_ => (up_row (by omega)))⟩
  · refine w_al hK rfl rfl ?_
    refine w_il hK rfl rfl ?_
    refine w_il hK rfl rfl ?_
    refine w_il hK rfl rfl ?_
    refine w_call [(1, 161), (0, i), (0, j), (0, l)] hK rfl rfl rfl rfl (Or.inr ⟨_, _, _, rfl, by decide, (by decide), rfl⟩) (r_loadsN i j l (by omega) (by omega) (by omega) (by omega) (by omega) (by omega) (by omega)) ?_
    rintro _ Mq ⟨rfl, e_⟩
    subst Mq
    refine ⟨by show (0 : Nat) ≠ 9; decide, (?_ : Wp 198 _ 254 11 [(1, 161), (0, i), (0, j), (0, l), (0, m), (3, 0)] [(0, 0)] (up M 161 14 0) _)⟩
    refine w_ne hK rfl (by omega) (by omega) (fun h11 => ?_) (fun h11 => ?_)
    · exfalso; omega
    · refine w_ic hK rfl ?_
      refine w_iret hK rfl rfl ?_
      exact ⟨rfl, ⟨_, (RS.cg C (fun j_ h1_ h2_ => up_ne2 (by omega)) (fun a_ h1_ h2_ => up_row h1_)), (PM.keep hpl (up_row (by decide))), (TMs.keep T (up_ne2 (by decide)) (up_row (by decide))), (RM.keep hR (up_ne2 (by decide)) (up_row (by decide))), (FM.keep hF (up_ne2 (by decide)) (up_row (by decide)) (up_row (by decide)))⟩, (fun a h_ => (up_row (by omega)))⟩
