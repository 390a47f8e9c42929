/-! the reference's call fits */ -/
theorem r_rcz {d : Nat} {M : Mem} {k : Nat} {R : Int → Option (Pl k)} (C : RS M k R) {n : Int} {tx : Int → Int} (T : TL M n tx) (ha : M 161 29 = 0) : Ct 198 (d + 3) 272 [(1, 161)] M (fun r_ M' => ∃ (pt wt : Int → Int), (((rcz k tx n).1 = -1 ∧ r_ = (0, ((rcz k tx n).2.2.2 : Int)) ∧ (1 ≤ (rcz k tx n).2.2.2 ∧ (rcz k tx n).2.2.2 ≤ 6) ∧ M' 185 = pt ∧ M' 186 = wt ∧ Nq (qq k : Int) pt (rcz k tx n).2.2.2 ∧ Nq (qq k : Int) wt (rcz k tx n).2.2.2 ∧ ∀ i : Nat, i < (rcz k tx n).2.2.2 → pt (i : Int) = (rcz k tx n).2.1 (i : Int) ∧ wt (i : Int) = (rcz k tx n).2.2.1 (i : Int)) ∨ (0 ≤ (rcz k tx n).1 ∧ r_ = (0, -1) ∧ M' 161 29 = (rcz k tx n).1)) ∧ (∀ a : Int, a ≠ 161 → a ≠ 185 → a ≠ 186 → M' a = M a) ∧ (∀ j : Int, j ≠ 29 → M' 161 j = M 161 j)) := by
  have hc := rcs_congr (tx := tx) (q := (qq k : Int)) (n := n) 6 0 0 (M 185) (M 186) (fun _ => 0) (fun _ => 0) rfl (fun i hi => by omega) (fun i hi => by omega)
  have z1_ : (rcs tx (qq k : Int) n 6 0 (M 185) (M 186)).1 = (rcz k tx n).1 := hc.1
  have z2_ : (rcs tx (qq k : Int) n 6 0 (M 185) (M 186)).2.2.2 = (rcz k tx n).2.2.2 := hc.2.1
  refine (r_rcs C T ha).imp (fun r M' h => ?_)
  refine ⟨(rcs tx (qq k : Int) n 6 0 (M 185) (M 186)).2.1, (rcs tx (qq k : Int) n 6 0 (M 185) (M 186)).2.2.1, ?_, h.2⟩
  rcases h.1 with ⟨h1, h2, h3, h4, h5, h6, h7⟩ | ⟨h1, h2, h3⟩
  · rw [z1_] at h1
    rw [z2_] at h2 h3 h6 h7
    exact Or.inl ⟨h1, h2, h3, h4, h5, h6, h7, fun i hi => hc.2.2 i (by rw [z2_]; exact hi)⟩
  · rw [z1_] at h1 h3
    exact Or.inr ⟨h1, h2, h3⟩
theorem fitS_s {k : Nat} {pt wt : Int → Int} {n : Nat} : fitS (k := k) pt wt (n + 1) = (adp (fitS pt wt n).1 (scl (ml (ad (el k (wt (n : Int)).toNat) (ng (vl (fitS (k := k) pt wt n).1 (el k (pt (n : Int)).toNat)))) (iv (vl (fitS (k := k) pt wt n).2 (el k (pt (n : Int)).toNat)))) (fitS pt wt n).2), vna (fitS pt wt n).2 (el k (pt (n : Int)).toNat)) := rfl
theorem fitS_0 {k : Nat} {pt wt : Int → Int} {n : Nat} (h1 : vl (fitS (k := k) pt wt n).2 (el k (pt (n : Int)).toNat) = z0) (h2 : ad (el k (wt (n : Int)).toNat) (ng (vl (fitS (k := k) pt wt n).1 (el k (pt (n : Int)).toNat))) = z0) : fitS (k := k) pt wt (n + 1) = fitS pt wt n := by
  rw [fitS_s, h2, zero_ml, show scl (z0 : El k) (fitS pt wt n).2 = pz from by funext j; exact zero_ml _, adp_pz]
  unfold vna
  rw [if_pos h1]
theorem fitS_1 {k : Nat} {pt wt : Int → Int} {n : Nat} (h1 : vl (fitS (k := k) pt wt n).2 (el k (pt (n : Int)).toNat) ≠ z0) : (fitS (k := k) pt wt (n + 1)).2 = mlp (up1 (tpw 1) 0 (ng (cjg (el k (pt (n : Int)).toNat) (vl (fitS (k := k) pt wt n).2 (el k (pt (n : Int)).toNat))))) (fitS pt wt n).2 := if_neg h1
set_option maxRecDepth 100000 in
theorem ro_fits {d : Nat} {M : Mem} {k : Nat} {pl : Nat → Pl k} {n : Int} {tx : Int → Int} {rc : Nat} {rw : Int → Int} {fc : Nat} {fa : Nat → Pl k} (H : RFS M k pl n tx rc rw fc fa) (i : Nat) (hi : i < 6) (hf_ : (rcz k tx n).1 < 0) (hok_ : ∀ i : Nat, i < (rcz k tx n).2.2.2 → fitOk k (rcz k tx n).2.1 (rcz k tx n).2.2.1 i) : Ct 198 (d + 8) 271 [(1, 161), (0, (i : Int))] M (fun r_ M' => r_ = (0, (dg (fitS (k := k) (rcz k tx n).2.1 (rcz k tx n).2.2.1 (rcz k tx n).2.2.2).1)) ∧ RFS M' k (fup pl i (fitS (k := k) (rcz k tx n).2.1 (rcz k tx n).2.2.1 (rcz k tx n).2.2.2).1) 0 (txC tx 0) rc rw fc fa ∧ (∀ a : Int, (a < 161 ∨ 197 < a) → M' a = M a)) := by
  have hK : cd 271 = k271 := rfl
  obtain ⟨R, C, hpl, T, hR, hF⟩ := H
  have q1_ := qq_I k
  have p1_ := pp_I k
  have m1_ := mm_I k
  have bi_ := (hpl i hi).2
  have di_ := dg_lt9 bi_
  have tn_ := T.1.2
  have rI_ := rcs_I T.TX (q := (qq k : Int)) (by omega) 6 0 0 (fun _ => 0) (fun _ => 0) rfl (by omega) (by omega)
  change -1 ≤ (rcz k tx n).1 ∧ (rcz k tx n).1 ≤ 44 at rI_
  show Wp 198 _ 271 0 [(1, 161), (0, (i : Int)), (3, 0), (3, 0), (3, 0), (3, 0)] [] M _
  refine w_al hK rfl rfl ?_
  refine w_ic hK rfl ?_
  refine w_puti (n := 14) (m := 14) hK rfl rfl (by decide) (by decide) rfl rfl rfl rfl ?_
  refine w_al hK rfl rfl ?_
  refine w_al hK rfl rfl ?_
  refine w_geti (n := 11) (m := 11) hK rfl rfl (by decide) (by decide) rfl rfl rfl rfl ?_
  rw [show (up M 161 14 0) 161 11 = n from (TMs.keep T (up_ne2 (by decide)) (up_row (by decide))).1.1]
  refine w_puti (n := 30) (m := 30) hK rfl rfl (by decide) (by decide) rfl rfl rfl rfl ?_
  refine w_al hK rfl rfl ?_
  refine w_ic hK rfl ?_
  refine w_puti (n := 11) (m := 11) hK rfl rfl (by decide) (by decide) rfl rfl rfl rfl ?_
  refine w_al hK rfl rfl ?_
  refine w_ic hK rfl ?_
  refine w_puti (n := 29) (m := 29) hK rfl rfl (by decide) (by decide) rfl rfl rfl rfl ?_
  refine w_al hK rfl rfl ?_
  refine w_call [(1, 161)] hK rfl rfl rfl rfl (Or.inr ⟨_, _, _, rfl, by decide, (by decide), rfl⟩) (r_rcz (RS.cg (RS.cg (RS.cg (RS.cg C (fun j_ h1_ h2_ => up_ne2 (by omega)) (fun a_ h1_ h2_ => up_row h1_)) (fun j_ h1_ h2_ => up_ne2 (by omega)) (fun a_ h1_ h2_ => up_row h1_)) (fun j_ h1_ h2_ => up_ne2 (by omega)) (fun a_ h1_ h2_ => up_row h1_)) (fun j_ h1_ h2_ => up_ne2 (by omega)) (fun a_ h1_ h2_ => up_row h1_)) (TMs.TL T ((up_ne2 (by omega)).trans ((up_ne2 (by omega)).trans up_eq)) ((up_row (by decide)).trans ((up_row (by decide)).trans ((up_row (by decide)).trans (up_row (by decide)))))) up_eq) ?_
  rintro r_ V538 ⟨pt_, wt_, hor_, F538, G538⟩
  rcases hor_ with ⟨h1_, rfl, hc6_, h185_, h186_, hn1_, hn2_, hpw_⟩ | ⟨h1_, rfl, h2_⟩
  · refine ⟨(by show (0 : Nat) ≠ 9; decide), (?_ : Wp 198 _ 271 15 [(1, 161), (0, (i : Int)), (3, 0), (3, 0), (3, 0), (3, 0)] [(0, ((rcz k tx n).2.2.2 : Int))] V538 _)⟩
    refine w_is [(1, 161), (0, (i : Int)), (0, ((rcz k tx n).2.2.2 : Int)), (3, 0), (3, 0), (3, 0)] hK rfl rfl rfl ?_
    refine w_il hK rfl rfl ?_
    refine w_ic hK rfl ?_
    refine w_ne2 hK rfl (by omega) (by omega) (by omega) (by omega) (fun h18 => ?_) (fun h18 => ?_)
    · refine w_il hK rfl rfl ?_
      refine w_call [(0, (i : Int))] hK rfl rfl rfl rfl (Or.inl rfl) (r_place (i : Int) (by omega) (by omega)) ?_
      rintro _ Mq ⟨rfl, e_⟩
      subst Mq
      have pI_539 := ite01 (0 ≤ (i : Int) ∧ (i : Int) < 6)
      refine ⟨by show (0 : Nat) ≠ 9; decide, (?_ : Wp 198 _ 271 26 [(1, 161), (0, (i : Int)), (0, ((rcz k tx n).2.2.2 : Int)), (3, 0), (3, 0), (3, 0)] [(0, (if 0 ≤ (i : Int) ∧ (i : Int) < 6 then 1 else 0))] V538 _)⟩
      refine w_ne hK rfl (by omega) (by omega) (fun h26 => ?_) (fun h26 => ?_)
      · refine w_al hK rfl rfl ?_
        refine w_getr (n := 28) (v := 182) hK rfl rfl (by decide) (by decide) rfl rfl rfl rfl ?_
        refine w_call [(1, 182)] hK rfl rfl rfl rfl (Or.inl rfl) (r_clear (RS.cg (RS.cg (RS.cg (RS.cg (RS.cg C (fun j_ h1_ h2_ => up_ne2 (by omega)) (fun a_ h1_ h2_ => up_row h1_)) (fun j_ h1_ h2_ => up_ne2 (by omega)) (fun a_ h1_ h2_ => up_row h1_)) (fun j_ h1_ h2_ => up_ne2 (by omega)) (fun a_ h1_ h2_ => up_row h1_)) (fun j_ h1_ h2_ => up_ne2 (by omega)) (fun a_ h1_ h2_ => up_row h1_)) (fun j_ h1_ h2_ => G538 j_ (by omega)) (fun a_ h1_ h2_ => F538 a_ h1_ (RSc_ne h2_ (by decide) (notR rfl)) (RSc_ne h2_ (by decide) (notR rfl)))) (isR_of (p := 182) rfl)) ?_
        rintro _ V540 ⟨P540, rfl, C540, S540, F540, f540_0⟩
        refine ⟨by decide, (?_ : Wp 198 _ 271 32 [(1, 161), (0, (i : Int)), (0, ((rcz k tx n).2.2.2 : Int)), (3, 0), (3, 0), (3, 0)] [] V540 _)⟩
        refine w_al hK rfl rfl ?_
        refine w_getr (n := 26) (v := 180) hK rfl rfl (by decide) (by decide) rfl rfl rfl rfl ?_
        refine w_call [(1, 180)] hK rfl rfl rfl rfl (Or.inl rfl) (r_clear C540 (isR_of (p := 180) rfl)) ?_
        rintro _ V541 ⟨P541, rfl, C541, S541, F541, f541_0⟩
        refine ⟨by decide, (?_ : Wp 198 _ 271 35 [(1, 161), (0, (i : Int)), (0, ((rcz k tx n).2.2.2 : Int)), (3, 0), (3, 0), (3, 0)] [] V541 _)⟩
        refine w_al hK rfl rfl ?_
        refine w_getr (n := 26) (v := 180) hK rfl rfl (by decide) (by decide) rfl rfl rfl rfl ?_
        refine w_ic hK rfl ?_
        refine w_ic hK rfl ?_
        refine w_iat hK rfl rfl (by decide) (by decide) (by omega) (by omega) ?_
        refine w_ic hK rfl ?_
        refine w_is [(1, 161), (0, (i : Int)), (0, ((rcz k tx n).2.2.2 : Int)), (0, 0), (3, 0), (3, 0)] hK rfl rfl rfl ?_
        have lp42 : ∀ (n_ : Nat) (a : Nat) (w4 w5 : AV) (R1 : Int → Option (Pl k)) (N42 : Mem), 7 - a = n_ → (a ≤ (rcz k tx n).2.2.2) → (∀ i_ : Nat, i_ < a → fitOk k pt_ wt_ i_) → (RS N42 k R1) → (R1 182 = some ((fitS (k := k) pt_ wt_ a).1)) → (R1 180 = some ((fitS (k := k) pt_ wt_ a).2)) → ((∀ p : Int, p ≠ 170 → p ≠ 179 → p ≠ 180 → p ≠ 181 → p ≠ 182 → R1 p = (pu P541 180 (up1 pz 0 e1)) p)) → ((∀ a : Int, (∀ p : Int, isR p → a ≠ p) → N42 a = (up V541 180 0 1) a)) → Wp 198 (d + 8) 271 42 [(1, 161), (0, (i : Int)), (0, ((rcz k tx n).2.2.2 : Int)), (0, (a : Int)), w4, w5] [] N42 (fun r_ M' => r_ = (0, (dg (fitS (k := k) (rcz k tx n).2.1 (rcz k tx n).2.2.1 (rcz k tx n).2.2.2).1)) ∧ RFS M' k (fup pl i (fitS (k := k) (rcz k tx n).2.1 (rcz k tx n).2.2.1 (rcz k tx n).2.2.2).1) 0 (txC tx 0) rc rw fc fa ∧ (∀ a : Int, (a < 161 ∨ 197 < a) → M' a = M a)) := by
          intro n_
          induction n_ using Nat.strongRecOn with
          | _ n_ ih42 =>
          intro a w4 w5 R1 N42 hm42 ha_ hok2_ hCR1 h182_ h180_ hGR1 hSN42
          obtain ⟨⟨dF_, hF1_, hF2_⟩, hF3_⟩ := fitS_dg (k := k) pt_ wt_ a
          have bF2_ : Bd (fitS (k := k) pt_ wt_ a).2 9 := (Bd_is hF2_).mono (by omega)
          have bF1_ : Bd (fitS (k := k) pt_ wt_ a).1 9 := hF3_.mono (by omega)
          have dF9_ := dg_lt9 bF2_
          refine w_il hK rfl rfl ?_
          refine w_il hK rfl rfl ?_
          refine w_ge2 hK rfl (by omega) (by omega) (by omega) (by omega) (fun h44 => ?_) (fun h44 => ?_)
          · refine w_al hK rfl rfl ?_
            refine w_al hK rfl rfl ?_
            refine w_getr (n := 28) (v := 182) hK rfl rfl (by decide) (by decide) rfl rfl rfl rfl ?_
            refine w_il hK rfl rfl ?_
            refine w_call [(1, 161), (1, 182), (0, (i : Int))] hK rfl rfl rfl rfl (Or.inr ⟨_, _, _, rfl, by decide, (by decide), rfl⟩) (r_store hCR1 (PM.keep hpl ((hSN42 167 (notR rfl)).trans ((up_row (by decide)).trans ((S541 167 (notR rfl)).trans ((S540 167 (notR rfl)).trans ((F538 167 (by decide) (by decide) (by decide)).trans ((up_row (by decide)).trans ((up_row (by decide)).trans ((up_row (by decide)).trans (up_row (by decide))))))))))) ⟨(isR_of (p := 182) rfl), h182_⟩ i hi bF1_) ?_
            rintro _ V542 ⟨rfl, C542, Q542, F542⟩
            refine ⟨(by show (0 : Nat) ≠ 9; decide), (?_ : Wp 198 _ 271 149 [(1, 161), (0, (i : Int)), (0, ((rcz k tx n).2.2.2 : Int)), (0, (a : Int)), w4, w5] [(0, (dg ((fitS (k := k) pt_ wt_ a).1)))] V542 _)⟩
            refine w_iret hK rfl rfl ?_
            have ea_ : a = (rcz k tx n).2.2.2 := by omega
            have ef_ : (fitS (k := k) pt_ wt_ a) = fitS (rcz k tx n).2.1 (rcz k tx n).2.2.1 (rcz k tx n).2.2.2 := by rw [ea_]; exact fitS_congr hpw_
            have Qe_ := Q542
            rw [ef_] at Qe_ ⊢
            exact ⟨rfl, ⟨_, C542, Qe_, (TMs.keep (TMs.cut T (by decide) (by omega) ((up_ne2 (by omega)).trans up_eq) ((up_row (by decide)).trans ((up_row (by decide)).trans ((up_row (by decide)).trans (up_row (by decide)))))) ((congrFun (F542 161 (by decide)) 11).trans ((congrFun (hSN42 161 (notR rfl)) 11).trans ((congrFun (up_row (by decide)) 11).trans ((congrFun (S541 161 (notR rfl)) 11).trans ((congrFun (S540 161 (notR rfl)) 11).trans (G538 11 (by decide))))))) ((F542 168 (by decide)).trans ((hSN42 168 (notR rfl)).trans ((up_row (by decide)).trans ((S541 168 (notR rfl)).trans ((S540 168 (notR rfl)).trans (F538 168 (by decide) (by decide) (by decide)))))))), (RM.keep hR ((congrFun (F542 161 (by decide)) 13).trans ((congrFun (hSN42 161 (notR rfl)) 13).trans ((congrFun (up_row (by decide)) 13).trans ((congrFun (S541 161 (notR rfl)) 13).trans ((congrFun (S540 161 (notR rfl)) 13).trans ((G538 13 (by decide)).trans ((up_ne2 (by decide)).trans ((up_ne2 (by decide)).trans ((up_ne2 (by decide)).trans (up_ne2 (by decide))))))))))) ((F542 169 (by decide)).trans ((hSN42 169 (notR rfl)).trans ((up_row (by decide)).trans ((S541 169 (notR rfl)).trans ((S540 169 (notR rfl)).trans ((F538 169 (by decide) (by decide) (by decide)).trans ((up_row (by decide)).trans ((up_row (by decide)).trans ((up_row (by decide)).trans (up_row (by decide)))))))))))), (FM.keep hF ((congrFun (F542 161 (by decide)) 15).trans ((congrFun (hSN42 161 (notR rfl)) 15).trans ((congrFun (up_row (by decide)) 15).trans ((congrFun (S541 161 (notR rfl)) 15).trans ((congrFun (S540 161 (notR rfl)) 15).trans ((G538 15 (by decide)).trans ((up_ne2 (by decide)).trans ((up_ne2 (by decide)).trans ((up_ne2 (by decide)).trans (up_ne2 (by decide))))))))))) ((F542 189 (by decide)).trans ((hSN42 189 (notR rfl)).trans ((up_row (by decide)).trans ((S541 189 (notR rfl)).trans ((S540 189 (notR rfl)).trans ((F538 189 (by decide) (by decide) (by decide)).trans ((up_row (by decide)).trans ((up_row (by decide)).trans ((up_row (by decide)).trans (up_row (by decide))))))))))) ((F542 190 (by decide)).trans ((hSN42 190 (notR rfl)).trans ((up_row (by decide)).trans ((S541 190 (notR rfl)).trans ((S540 190 (notR rfl)).trans ((F538 190 (by decide) (by decide) (by decide)).trans ((up_row (by decide)).trans ((up_row (by decide)).trans ((up_row (by decide)).trans (up_row (by decide))))))))))))⟩, (fun a h_ => ((F542 a (by omega)).trans ((hSN42 a (npR h_)).trans ((up_row (by omega)).trans ((S541 a (npR h_)).trans ((S540 a (npR h_)).trans ((F538 a (by omega) (by omega) (by omega)).trans ((up_row (by omega)).trans ((up_row (by omega)).trans ((up_row (by omega)).trans (up_row (by omega))))))))))))⟩
          · have pa_ := hn1_ a (by omega)
            have wa_ := hn2_ a (by omega)
            refine w_al hK rfl rfl ?_
            refine w_al hK rfl rfl ?_
            refine w_getr (n := 34) (v := 186) hK rfl rfl (by decide) (by decide) rfl rfl rfl rfl ?_
            refine w_il hK rfl rfl ?_
            refine w_ia hK rfl rfl (by decide) (by decide) (by omega) (by omega) ?_
            rw [show N42 186 (a : Int) = (wt_ (a : Int)) from ((congrFun (hSN42 186 (notR rfl)) (a : Int)).trans ((congrFun (up_row (by decide)) (a : Int)).trans ((congrFun (S541 186 (notR rfl)) (a : Int)).trans ((congrFun (S540 186 (notR rfl)) (a : Int)).trans (congrFun h186_ (a : Int))))))]
            refine w_al hK rfl rfl ?_
            refine w_getr (n := 6) (v := 164) hK rfl rfl (by decide) (by decide) rfl rfl rfl rfl ?_
            refine w_al hK rfl rfl ?_
            refine w_al hK rfl rfl ?_
            refine w_getr (n := 28) (v := 182) hK rfl rfl (by decide) (by decide) rfl rfl rfl rfl ?_
            refine w_al hK rfl rfl ?_
            refine w_getr (n := 33) (v := 185) hK rfl rfl (by decide) (by decide) rfl rfl rfl rfl ?_
            refine w_il hK rfl rfl ?_
            refine w_ia hK rfl rfl (by decide) (by decide) (by omega) (by omega) ?_
            rw [show N42 185 (a : Int) = (pt_ (a : Int)) from ((congrFun (hSN42 185 (notR rfl)) (a : Int)).trans ((congrFun (up_row (by decide)) (a : Int)).trans ((congrFun (S541 185 (notR rfl)) (a : Int)).trans ((congrFun (S540 185 (notR rfl)) (a : Int)).trans (congrFun h185_ (a : Int))))))]
            refine w_call [(1, 161), (1, 182), (0, (pt_ (a : Int)))] hK rfl rfl rfl rfl (Or.inr ⟨_, _, _, rfl, by decide, (by decide), rfl⟩) (Ct.cv (r_val hCR1 ⟨(isR_of (p := 182) rfl), h182_⟩ (bF1_.mono (by decide)) (el k ((pt_ (a : Int))).toNat)) (by simp only [(elI (k := k) (c := (pt_ (a : Int))) (by omega) (by omega))]; try rfl)) ?_
            rintro _ Mq ⟨rfl, e_⟩
            subst Mq
            have bv_ := el_I (vl ((fitS (k := k) pt_ wt_ a).1) (el k ((pt_ (a : Int))).toNat))
            refine ⟨by show (0 : Nat) ≠ 9; decide, (?_ : Wp 198 _ 271 60 [(1, 161), (0, (i : Int)), (0, ((rcz k tx n).2.2.2 : Int)), (0, (a : Int)), w4, w5] [(0, ((vl ((fitS (k := k) pt_ wt_ a).1) (el k ((pt_ (a : Int))).toNat)).val : Int)), (1, 164), (0, (wt_ (a : Int))), (1, 161)] N42 _)⟩
            refine w_ia hK rfl rfl (by decide) (by decide) (by omega) (by omega) ?_
            rw [show N42 164 ((vl ((fitS (k := k) pt_ wt_ a).1) (el k ((pt_ (a : Int))).toNat)).val : Int) = ((ng (vl ((fitS (k := k) pt_ wt_ a).1) (el k ((pt_ (a : Int))).toNat))).val : Int) from hCR1.F.n (vl ((fitS (k := k) pt_ wt_ a).1) (el k ((pt_ (a : Int))).toNat))]
            refine w_call [(1, 161), (0, (wt_ (a : Int))), (0, ((ng (vl ((fitS (k := k) pt_ wt_ a).1) (el k ((pt_ (a : Int))).toNat))).val : Int))] hK rfl rfl rfl rfl (Or.inr ⟨_, _, _, rfl, by decide, (by decide), rfl⟩) (Ct.cv (r_add hCR1.F (el k ((wt_ (a : Int))).toNat) (ng (vl ((fitS (k := k) pt_ wt_ a).1) (el k ((pt_ (a : Int))).toNat)))) (by simp only [(elI (k := k) (c := (wt_ (a : Int))) (by omega) (by omega))]; try rfl)) ?_
            rintro _ Mq ⟨rfl, e_⟩
            subst Mq
            have bv_ := el_I (ad (el k ((wt_ (a : Int))).toNat) (ng (vl ((fitS (k := k) pt_ wt_ a).1) (el k ((pt_ (a : Int))).toNat))))
            refine ⟨by show (0 : Nat) ≠ 9; decide, (?_ : Wp 198 _ 271 62 [(1, 161), (0, (i : Int)), (0, ((rcz k tx n).2.2.2 : Int)), (0, (a : Int)), w4, w5] [(0, ((ad (el k ((wt_ (a : Int))).toNat) (ng (vl ((fitS (k := k) pt_ wt_ a).1) (el k ((pt_ (a : Int))).toNat)))).val : Int))] N42 _)⟩
            refine w_is [(1, 161), (0, (i : Int)), (0, ((rcz k tx n).2.2.2 : Int)), (0, (a : Int)), (0, ((ad (el k ((wt_ (a : Int))).toNat) (ng (vl ((fitS (k := k) pt_ wt_ a).1) (el k ((pt_ (a : Int))).toNat)))).val : Int)), w5] hK rfl rfl rfl ?_
            refine w_al hK rfl rfl ?_
            refine w_al hK rfl rfl ?_
            refine w_getr (n := 26) (v := 180) hK rfl rfl (by decide) (by decide) rfl rfl rfl rfl ?_
            refine w_al hK rfl rfl ?_
            refine w_getr (n := 33) (v := 185) hK rfl rfl (by decide) (by decide) rfl rfl rfl rfl ?_
            refine w_il hK rfl rfl ?_
            refine w_ia hK rfl rfl (by decide) (by decide) (by omega) (by omega) ?_
            rw [show N42 185 (a : Int) = (pt_ (a : Int)) from ((congrFun (hSN42 185 (notR rfl)) (a : Int)).trans ((congrFun (up_row (by decide)) (a : Int)).trans ((congrFun (S541 185 (notR rfl)) (a : Int)).trans ((congrFun (S540 185 (notR rfl)) (a : Int)).trans (congrFun h185_ (a : Int))))))]
            refine w_call [(1, 161), (1, 180), (0, (pt_ (a : Int)))] hK rfl rfl rfl rfl (Or.inr ⟨_, _, _, rfl, by decide, (by decide), rfl⟩) (Ct.cv (r_val hCR1 ⟨(isR_of (p := 180) rfl), h180_⟩ (bF2_.mono (by decide)) (el k ((pt_ (a : Int))).toNat)) (by simp only [(elI (k := k) (c := (pt_ (a : Int))) (by omega) (by omega))]; try rfl)) ?_
            rintro _ Mq ⟨rfl, e_⟩
            subst Mq
            have bv_ := el_I (vl ((fitS (k := k) pt_ wt_ a).2) (el k ((pt_ (a : Int))).toNat))
            refine ⟨by show (0 : Nat) ≠ 9; decide, (?_ : Wp 198 _ 271 71 [(1, 161), (0, (i : Int)), (0, ((rcz k tx n).2.2.2 : Int)), (0, (a : Int)), (0, ((ad (el k ((wt_ (a : Int))).toNat) (ng (vl ((fitS (k := k) pt_ wt_ a).1) (el k ((pt_ (a : Int))).toNat)))).val : Int)), w5] [(0, ((vl ((fitS (k := k) pt_ wt_ a).2) (el k ((pt_ (a : Int))).toNat)).val : Int))] N42 _)⟩
            refine w_is [(1, 161), (0, (i : Int)), (0, ((rcz k tx n).2.2.2 : Int)), (0, (a : Int)), (0, ((ad (el k ((wt_ (a : Int))).toNat) (ng (vl ((fitS (k := k) pt_ wt_ a).1) (el k ((pt_ (a : Int))).toNat)))).val : Int)), (0, ((vl ((fitS (k := k) pt_ wt_ a).2) (el k ((pt_ (a : Int))).toNat)).val : Int))] hK rfl rfl rfl ?_
            refine w_il hK rfl rfl ?_
            refine w_ne hK rfl (by omega) (by omega) (fun h73 => ?_) (fun h73 => ?_)
            · refine w_il hK rfl rfl ?_
              refine w_ne hK rfl (by omega) (by omega) (fun h79 => ?_) (fun h79 => ?_)
              · refine w_al hK rfl rfl ?_
                refine w_getr (n := 26) (v := 180) hK rfl rfl (by decide) (by decide) rfl rfl rfl rfl ?_
                refine w_al hK rfl rfl ?_
                refine w_getr (n := 25) (v := 179) hK rfl rfl (by decide) (by decide) rfl rfl rfl rfl ?_
                refine w_call [(1, 180), (1, 179)] hK rfl rfl rfl rfl (Or.inl rfl) (r_copy hCR1 ⟨(isR_of (p := 180) rfl), h180_⟩ (isR_of (p := 179) rfl) (by omega)) ?_
                rintro _ V543 ⟨P543, rfl, C543, S543, F543, f543_0⟩
                refine ⟨by decide, (?_ : Wp 198 _ 271 86 [(1, 161), (0, (i : Int)), (0, ((rcz k tx n).2.2.2 : Int)), (0, (a : Int)), (0, ((ad (el k ((wt_ (a : Int))).toNat) (ng (vl ((fitS (k := k) pt_ wt_ a).1) (el k ((pt_ (a : Int))).toNat)))).val : Int)), (0, ((vl ((fitS (k := k) pt_ wt_ a).2) (el k ((pt_ (a : Int))).toNat)).val : Int))] [] V543 _)⟩
                refine w_al hK rfl rfl ?_
                refine w_al hK rfl rfl ?_
                refine w_il hK rfl rfl ?_
                refine w_al hK rfl rfl ?_
                refine w_getr (n := 7) (v := 165) hK rfl rfl (by decide) (by decide) rfl rfl rfl rfl ?_
                refine w_il hK rfl rfl ?_
                refine w_ia hK rfl rfl (by decide) (by decide) (by omega) (by omega) ?_
                rw [show V543 165 ((vl ((fitS (k := k) pt_ wt_ a).2) (el k ((pt_ (a : Int))).toNat)).val : Int) = ((iv (vl ((fitS (k := k) pt_ wt_ a).2) (el k ((pt_ (a : Int))).toNat))).val : Int) from C543.F.v (vl ((fitS (k := k) pt_ wt_ a).2) (el k ((pt_ (a : Int))).toNat))]
                refine w_call [(1, 161), (0, ((ad (el k ((wt_ (a : Int))).toNat) (ng (vl ((fitS (k := k) pt_ wt_ a).1) (el k ((pt_ (a : Int))).toNat)))).val : Int)), (0, ((iv (vl ((fitS (k := k) pt_ wt_ a).2) (el k ((pt_ (a : Int))).toNat))).val : Int))] hK rfl rfl rfl rfl (Or.inr ⟨_, _, _, rfl, by decide, (by decide), rfl⟩) (r_mul C543.F (ad (el k ((wt_ (a : Int))).toNat) (ng (vl ((fitS (k := k) pt_ wt_ a).1) (el k ((pt_ (a : Int))).toNat)))) (iv (vl ((fitS (k := k) pt_ wt_ a).2) (el k ((pt_ (a : Int))).toNat)))) ?_
                rintro _ Mq ⟨rfl, e_⟩
                subst Mq
                have bv_ := el_I (ml (ad (el k ((wt_ (a : Int))).toNat) (ng (vl ((fitS (k := k) pt_ wt_ a).1) (el k ((pt_ (a : Int))).toNat)))) (iv (vl ((fitS (k := k) pt_ wt_ a).2) (el k ((pt_ (a : Int))).toNat))))
                refine ⟨by show (0 : Nat) ≠ 9; decide, (?_ : Wp 198 _ 271 94 [(1, 161), (0, (i : Int)), (0, ((rcz k tx n).2.2.2 : Int)), (0, (a : Int)), (0, ((ad (el k ((wt_ (a : Int))).toNat) (ng (vl ((fitS (k := k) pt_ wt_ a).1) (el k ((pt_ (a : Int))).toNat)))).val : Int)), (0, ((vl ((fitS (k := k) pt_ wt_ a).2) (el k ((pt_ (a : Int))).toNat)).val : Int))] [(0, ((ml (ad (el k ((wt_ (a : Int))).toNat) (ng (vl ((fitS (k := k) pt_ wt_ a).1) (el k ((pt_ (a : Int))).toNat)))) (iv (vl ((fitS (k := k) pt_ wt_ a).2) (el k ((pt_ (a : Int))).toNat)))).val : Int)), (1, 161)] V543 _)⟩
                refine w_al hK rfl rfl ?_
                refine w_getr (n := 25) (v := 179) hK rfl rfl (by decide) (by decide) rfl rfl rfl rfl ?_
                refine w_call [(1, 161), (0, ((ml (ad (el k ((wt_ (a : Int))).toNat) (ng (vl ((fitS (k := k) pt_ wt_ a).1) (el k ((pt_ (a : Int))).toNat)))) (iv (vl ((fitS (k := k) pt_ wt_ a).2) (el k ((pt_ (a : Int))).toNat)))).val : Int)), (1, 179)] hK rfl rfl rfl rfl (Or.inr ⟨_, _, _, rfl, by decide, (by decide), rfl⟩) (r_scal C543 (ml (ad (el k ((wt_ (a : Int))).toNat) (ng (vl ((fitS (k := k) pt_ wt_ a).1) (el k ((pt_ (a : Int))).toNat)))) (iv (vl ((fitS (k := k) pt_ wt_ a).2) (el k ((pt_ (a : Int))).toNat)))) ⟨(isR_of (p := 179) rfl), f543_0⟩) ?_
                rintro _ V544 ⟨P544, rfl, C544, S544, F544, f544_0⟩
                refine ⟨by decide, (?_ : Wp 198 _ 271 97 [(1, 161), (0, (i : Int)), (0, ((rcz k tx n).2.2.2 : Int)), (0, (a : Int)), (0, ((ad (el k ((wt_ (a : Int))).toNat) (ng (vl ((fitS (k := k) pt_ wt_ a).1) (el k ((pt_ (a : Int))).toNat)))).val : Int)), (0, ((vl ((fitS (k := k) pt_ wt_ a).2) (el k ((pt_ (a : Int))).toNat)).val : Int))] [] V544 _)⟩
                refine w_al hK rfl rfl ?_
                refine w_al hK rfl rfl ?_
                refine w_getr (n := 25) (v := 179) hK rfl rfl (by decide) (by decide) rfl rfl rfl rfl ?_
                refine w_al hK rfl rfl ?_
                refine w_getr (n := 28) (v := 182) hK rfl rfl (by decide) (by decide) rfl rfl rfl rfl ?_
                refine w_call [(1, 161), (1, 179), (1, 182)] hK rfl rfl rfl rfl (Or.inr ⟨_, _, _, rfl, by decide, (by decide), rfl⟩) (r_adds C544 ⟨(isR_of (p := 179) rfl), f544_0⟩ ⟨(isR_of (p := 182) rfl), ((F544 182 (by omega)).trans ((F543 182 (by omega)).trans h182_))⟩ (by omega)) ?_
                rintro _ V545 ⟨P545, rfl, C545, S545, F545, f545_0⟩
                refine ⟨by decide, (?_ : Wp 198 _ 271 103 [(1, 161), (0, (i : Int)), (0, ((rcz k tx n).2.2.2 : Int)), (0, (a : Int)), (0, ((ad (el k ((wt_ (a : Int))).toNat) (ng (vl ((fitS (k := k) pt_ wt_ a).1) (el k ((pt_ (a : Int))).toNat)))).val : Int)), (0, ((vl ((fitS (k := k) pt_ wt_ a).2) (el k ((pt_ (a : Int))).toNat)).val : Int))] [] V545 _)⟩
                refine w_al hK rfl rfl ?_
                refine w_getr (n := 27) (v := 181) hK rfl rfl (by decide) (by decide) rfl rfl rfl rfl ?_
                refine w_call [(1, 181)] hK rfl rfl rfl rfl (Or.inl rfl) (r_clear C545 (isR_of (p := 181) rfl)) ?_
                rintro _ V546 ⟨P546, rfl, C546, S546, F546, f546_0⟩
                refine ⟨by decide, (?_ : Wp 198 _ 271 106 [(1, 161), (0, (i : Int)), (0, ((rcz k tx n).2.2.2 : Int)), (0, (a : Int)), (0, ((ad (el k ((wt_ (a : Int))).toNat) (ng (vl ((fitS (k := k) pt_ wt_ a).1) (el k ((pt_ (a : Int))).toNat)))).val : Int)), (0, ((vl ((fitS (k := k) pt_ wt_ a).2) (el k ((pt_ (a : Int))).toNat)).val : Int))] [] V546 _)⟩
                refine w_al hK rfl rfl ?_
                refine w_getr (n := 27) (v := 181) hK rfl rfl (by decide) (by decide) rfl rfl rfl rfl ?_
                refine w_ic hK rfl ?_
                refine w_ic hK rfl ?_
                refine w_iat hK rfl rfl (by decide) (by decide) (by omega) (by omega) ?_
                refine w_al hK rfl rfl ?_
                refine w_getr (n := 27) (v := 181) hK rfl rfl (by decide) (by decide) rfl rfl rfl rfl ?_
                refine w_ic hK rfl ?_
                refine w_al hK rfl rfl ?_
                refine w_getr (n := 6) (v := 164) hK rfl rfl (by decide) (by decide) rfl rfl rfl rfl ?_
                refine w_al hK rfl rfl ?_
                refine w_al hK rfl rfl ?_
                refine w_al hK rfl rfl ?_
                refine w_il hK rfl rfl ?_
                refine w_ic hK rfl ?_
                refine w_call [(1, 161), (0, ((vl ((fitS (k := k) pt_ wt_ a).2) (el k ((pt_ (a : Int))).toNat)).val : Int)), (0, 1)] hK rfl rfl rfl rfl (Or.inr ⟨_, _, _, rfl, by decide, (by decide), rfl⟩) (r_mapN (RS.up C546 ⟨(isR_of (p := 181) rfl), f546_0⟩ (j := 1) (by omega) (by omega) (e := e1) el1.symm).F (vl ((fitS (k := k) pt_ wt_ a).2) (el k ((pt_ (a : Int))).toNat)) 1 (by omega)) ?_
                rintro _ Mq ⟨rfl, e_⟩
                subst Mq
                have bv_ := el_I (sg 1 (vl ((fitS (k := k) pt_ wt_ a).2) (el k ((pt_ (a : Int))).toNat)))
                refine ⟨by show (0 : Nat) ≠ 9; decide, (?_ : Wp 198 _ 271 122 [(1, 161), (0, (i : Int)), (0, ((rcz k tx n).2.2.2 : Int)), (0, (a : Int)), (0, ((ad (el k ((wt_ (a : Int))).toNat) (ng (vl ((fitS (k := k) pt_ wt_ a).1) (el k ((pt_ (a : Int))).toNat)))).val : Int)), (0, ((vl ((fitS (k := k) pt_ wt_ a).2) (el k ((pt_ (a : Int))).toNat)).val : Int))] [(0, ((sg 1 (vl ((fitS (k := k) pt_ wt_ a).2) (el k ((pt_ (a : Int))).toNat))).val : Int)), (1, 161), (1, 161), (1, 164), (0, 0), (1, 181)] (up V546 181 1 1) _)⟩
                refine w_al hK rfl rfl ?_
                refine w_getr (n := 33) (v := 185) hK rfl rfl (by decide) (by decide) rfl rfl rfl rfl ?_
                refine w_il hK rfl rfl ?_
                refine w_ia hK rfl rfl (by decide) (by decide) (by omega) (by omega) ?_
                rw [show (up V546 181 1 1) 185 (a : Int) = (pt_ (a : Int)) from ((congrFun (up_row (by decide)) (a : Int)).trans ((congrFun (S546 185 (notR rfl)) (a : Int)).trans ((congrFun (S545 185 (notR rfl)) (a : Int)).trans ((congrFun (S544 185 (notR rfl)) (a : Int)).trans ((congrFun (S543 185 (notR rfl)) (a : Int)).trans ((congrFun (hSN42 185 (notR rfl)) (a : Int)).trans ((congrFun (up_row (by decide)) (a : Int)).trans ((congrFun (S541 185 (notR rfl)) (a : Int)).trans ((congrFun (S540 185 (notR rfl)) (a : Int)).trans (congrFun h185_ (a : Int)))))))))))]
                refine w_call [(1, 161), (0, ((sg 1 (vl ((fitS (k := k) pt_ wt_ a).2) (el k ((pt_ (a : Int))).toNat))).val : Int)), (0, (pt_ (a : Int)))] hK rfl rfl rfl rfl (Or.inr ⟨_, _, _, rfl, by decide, (by decide), rfl⟩) (Ct.cv (r_mul (RS.up C546 ⟨(isR_of (p := 181) rfl), f546_0⟩ (j := 1) (by omega) (by omega) (e := e1) el1.symm).F (sg 1 (vl ((fitS (k := k) pt_ wt_ a).2) (el k ((pt_ (a : Int))).toNat))) (el k ((pt_ (a : Int))).toNat)) (by simp only [(elI (k := k) (c := (pt_ (a : Int))) (by omega) (by omega))]; try rfl)) ?_
                rintro _ Mq ⟨rfl, e_⟩
                subst Mq
                have bv_ := el_I (ml (sg 1 (vl ((fitS (k := k) pt_ wt_ a).2) (el k ((pt_ (a : Int))).toNat))) (el k ((pt_ (a : Int))).toNat))
                refine ⟨by show (0 : Nat) ≠ 9; decide, (?_ : Wp 198 _ 271 127 [(1, 161), (0, (i : Int)), (0, ((rcz k tx n).2.2.2 : Int)), (0, (a : Int)), (0, ((ad (el k ((wt_ (a : Int))).toNat) (ng (vl ((fitS (k := k) pt_ wt_ a).1) (el k ((pt_ (a : Int))).toNat)))).val : Int)), (0, ((vl ((fitS (k := k) pt_ wt_ a).2) (el k ((pt_ (a : Int))).toNat)).val : Int))] [(0, ((ml (sg 1 (vl ((fitS (k := k) pt_ wt_ a).2) (el k ((pt_ (a : Int))).toNat))) (el k ((pt_ (a : Int))).toNat)).val : Int)), (1, 161), (1, 164), (0, 0), (1, 181)] (up V546 181 1 1) _)⟩
                refine w_al hK rfl rfl ?_
                refine w_getr (n := 7) (v := 165) hK rfl rfl (by decide) (by decide) rfl rfl rfl rfl ?_
                refine w_il hK rfl rfl ?_
                refine w_ia hK rfl rfl (by decide) (by decide) (by omega) (by omega) ?_
                rw [show (up V546 181 1 1) 165 ((vl ((fitS (k := k) pt_ wt_ a).2) (el k ((pt_ (a : Int))).toNat)).val : Int) = ((iv (vl ((fitS (k := k) pt_ wt_ a).2) (el k ((pt_ (a : Int))).toNat))).val : Int) from (RS.up C546 ⟨(isR_of (p := 181) rfl), f546_0⟩ (j := 1) (by omega) (by omega) (e := e1) el1.symm).F.v (vl ((fitS (k := k) pt_ wt_ a).2) (el k ((pt_ (a : Int))).toNat))]
                refine w_call [(1, 161), (0, ((ml (sg 1 (vl ((fitS (k := k) pt_ wt_ a).2) (el k ((pt_ (a : Int))).toNat))) (el k ((pt_ (a : Int))).toNat)).val : Int)), (0, ((iv (vl ((fitS (k := k) pt_ wt_ a).2) (el k ((pt_ (a : Int))).toNat))).val : Int))] hK rfl rfl rfl rfl (Or.inr ⟨_, _, _, rfl, by decide, (by decide), rfl⟩) (r_mul (RS.up C546 ⟨(isR_of (p := 181) rfl), f546_0⟩ (j := 1) (by omega) (by omega) (e := e1) el1.symm).F (ml (sg 1 (vl ((fitS (k := k) pt_ wt_ a).2) (el k ((pt_ (a : Int))).toNat))) (el k ((pt_ (a : Int))).toNat)) (iv (vl ((fitS (k := k) pt_ wt_ a).2) (el k ((pt_ (a : Int))).toNat)))) ?_
                rintro _ Mq ⟨rfl, e_⟩
                subst Mq
                have bv_ := el_I (ml (ml (sg 1 (vl ((fitS (k := k) pt_ wt_ a).2) (el k ((pt_ (a : Int))).toNat))) (el k ((pt_ (a : Int))).toNat)) (iv (vl ((fitS (k := k) pt_ wt_ a).2) (el k ((pt_ (a : Int))).toNat))))
                refine ⟨by show (0 : Nat) ≠ 9; decide, (?_ : Wp 198 _ 271 132 [(1, 161), (0, (i : Int)), (0, ((rcz k tx n).2.2.2 : Int)), (0, (a : Int)), (0, ((ad (el k ((wt_ (a : Int))).toNat) (ng (vl ((fitS (k := k) pt_ wt_ a).1) (el k ((pt_ (a : Int))).toNat)))).val : Int)), (0, ((vl ((fitS (k := k) pt_ wt_ a).2) (el k ((pt_ (a : Int))).toNat)).val : Int))] [(0, ((ml (ml (sg 1 (vl ((fitS (k := k) pt_ wt_ a).2) (el k ((pt_ (a : Int))).toNat))) (el k ((pt_ (a : Int))).toNat)) (iv (vl ((fitS (k := k) pt_ wt_ a).2) (el k ((pt_ (a : Int))).toNat)))).val : Int)), (1, 164), (0, 0), (1, 181)] (up V546 181 1 1) _)⟩
                refine w_ia hK rfl rfl (by decide) (by decide) (by omega) (by omega) ?_
                rw [show (up V546 181 1 1) 164 ((ml (ml (sg 1 (vl ((fitS (k := k) pt_ wt_ a).2) (el k ((pt_ (a : Int))).toNat))) (el k ((pt_ (a : Int))).toNat)) (iv (vl ((fitS (k := k) pt_ wt_ a).2) (el k ((pt_ (a : Int))).toNat)))).val : Int) = ((ng (ml (ml (sg 1 (vl ((fitS (k := k) pt_ wt_ a).2) (el k ((pt_ (a : Int))).toNat))) (el k ((pt_ (a : Int))).toNat)) (iv (vl ((fitS (k := k) pt_ wt_ a).2) (el k ((pt_ (a : Int))).toNat))))).val : Int) from (RS.up C546 ⟨(isR_of (p := 181) rfl), f546_0⟩ (j := 1) (by omega) (by omega) (e := e1) el1.symm).F.n (ml (ml (sg 1 (vl ((fitS (k := k) pt_ wt_ a).2) (el k ((pt_ (a : Int))).toNat))) (el k ((pt_ (a : Int))).toNat)) (iv (vl ((fitS (k := k) pt_ wt_ a).2) (el k ((pt_ (a : Int))).toNat))))]
                refine w_iat hK rfl rfl (by decide) (by decide) (by omega) (by omega) ?_
                have ld_ : dg (up1 (up1 pz 1 e1) 0 (ng (ml (ml (sg 1 (vl (fitS (k := k) pt_ wt_ a).2 (el k (pt_ (a : Int)).toNat))) (el k (pt_ (a : Int)).toNat)) (iv (vl (fitS (k := k) pt_ wt_ a).2 (el k (pt_ (a : Int)).toNat)))))) = 1 := lin_dg _
                refine w_al hK rfl rfl ?_
                refine w_al hK rfl rfl ?_
                refine w_getr (n := 27) (v := 181) hK rfl rfl (by decide) (by decide) rfl rfl rfl rfl ?_
                refine w_al hK rfl rfl ?_
                refine w_getr (n := 26) (v := 180) hK rfl rfl (by decide) (by decide) rfl rfl rfl rfl ?_
                refine w_al hK rfl rfl ?_
                refine w_getr (n := 26) (v := 180) hK rfl rfl (by decide) (by decide) rfl rfl rfl rfl ?_
                refine w_call [(1, 161), (1, 181), (1, 180), (1, 180)] hK rfl rfl rfl rfl (Or.inr ⟨_, _, _, rfl, by decide, (by decide), rfl⟩) (r_prod (RS.up (RS.up C546 ⟨(isR_of (p := 181) rfl), f546_0⟩ (j := 1) (by omega) (by omega) (e := e1) el1.symm) ⟨(isR_of (p := 181) rfl), pu_eq⟩ (j := 0) (by omega) (by omega) (e := (ng (ml (ml (sg 1 (vl ((fitS (k := k) pt_ wt_ a).2) (el k ((pt_ (a : Int))).toNat))) (el k ((pt_ (a : Int))).toNat)) (iv (vl ((fitS (k := k) pt_ wt_ a).2) (el k ((pt_ (a : Int))).toNat)))))) rfl) ⟨(isR_of (p := 181) rfl), pu_eq⟩ ⟨(isR_of (p := 180) rfl), ((pu_ne (P := pu P546 181 (up1 pz 1 e1)) (f := up1 (up1 pz 1 e1) 0 (ng (ml (ml (sg 1 (vl ((fitS (k := k) pt_ wt_ a).2) (el k ((pt_ (a : Int))).toNat))) (el k ((pt_ (a : Int))).toNat)) (iv (vl ((fitS (k := k) pt_ wt_ a).2) (el k ((pt_ (a : Int))).toNat)))))) (show 180 ≠ 181 by omega)).trans ((pu_ne (P := P546) (f := up1 pz 1 e1) (show 180 ≠ 181 by omega)).trans ((F546 180 (by omega)).trans ((F545 180 (by omega)).trans ((F544 180 (by omega)).trans ((F543 180 (by omega)).trans h180_))))))⟩ (isR_of (p := 180) rfl) (by omega) (by omega) (by omega) (by omega)) ?_
                rintro _ V547 ⟨P547, rfl, C547, S547, F547, f547_0⟩
                refine ⟨by decide, (?_ : Wp 198 _ 271 142 [(1, 161), (0, (i : Int)), (0, ((rcz k tx n).2.2.2 : Int)), (0, (a : Int)), (0, ((ad (el k ((wt_ (a : Int))).toNat) (ng (vl ((fitS (k := k) pt_ wt_ a).1) (el k ((pt_ (a : Int))).toNat)))).val : Int)), (0, ((vl ((fitS (k := k) pt_ wt_ a).2) (el k ((pt_ (a : Int))).toNat)).val : Int))] [] V547 _)⟩
                refine w_inc [(1, 161), (0, (i : Int)), (0, ((rcz k tx n).2.2.2 : Int)), (0, ((a : Int) + 1)), (0, ((ad (el k ((wt_ (a : Int))).toNat) (ng (vl ((fitS (k := k) pt_ wt_ a).1) (el k ((pt_ (a : Int))).toNat)))).val : Int)), (0, ((vl ((fitS (k := k) pt_ wt_ a).2) (el k ((pt_ (a : Int))).toNat)).val : Int))] hK rfl rfl rfl (by omega) (by omega) rfl ?_
                refine w_goto hK rfl ?_
                have ef_ := fitS_1 (k := k) (pt := pt_) (wt := wt_) (n := a) (fun q_ => by rw [q_, z0_val] at h79; exact h79 rfl)
                exact ih42 _ (by omega) (a + 1) (0, ((ad (el k ((wt_ (a : Int))).toNat) (ng (vl ((fitS (k := k) pt_ wt_ a).1) (el k ((pt_ (a : Int))).toNat)))).val : Int)) (0, ((vl ((fitS (k := k) pt_ wt_ a).2) (el k ((pt_ (a : Int))).toNat)).val : Int)) _ V547 rfl (by omega) (fun i_ hi_ => by
                  by_cases q_ : i_ = a
                  · rw [q_]; exact fun q_ => absurd q_ (fun q_ => by rw [q_, z0_val] at h79; exact h79 rfl)
                  · exact hok2_ i_ (by omega)) C547 (((F547 182 (by omega) (by omega)).trans ((pu_ne (P := pu P546 181 (up1 pz 1 e1)) (f := up1 (up1 pz 1 e1) 0 (ng (ml (ml (sg 1 (vl ((fitS (k := k) pt_ wt_ a).2) (el k ((pt_ (a : Int))).toNat))) (el k ((pt_ (a : Int))).toNat)) (iv (vl ((fitS (k := k) pt_ wt_ a).2) (el k ((pt_ (a : Int))).toNat)))))) (show 182 ≠ 181 by omega)).trans ((pu_ne (P := P546) (f := up1 pz 1 e1) (show 182 ≠ 181 by omega)).trans ((F546 182 (by omega)).trans f545_0))))) ((f547_0).trans (congrArg some ef_.symm)) (fun p pn170_ pn179_ pn180_ pn181_ pn182_ => ((F547 p pn170_ pn180_).trans ((pu_ne (P := pu P546 181 (up1 pz 1 e1)) (f := up1 (up1 pz 1 e1) 0 (ng (ml (ml (sg 1 (vl ((fitS (k := k) pt_ wt_ a).2) (el k ((pt_ (a : Int))).toNat))) (el k ((pt_ (a : Int))).toNat)) (iv (vl ((fitS (k := k) pt_ wt_ a).2) (el k ((pt_ (a : Int))).toNat)))))) (show p ≠ 181 by omega)).trans ((pu_ne (P := P546) (f := up1 pz 1 e1) (show p ≠ 181 by omega)).trans ((F546 p pn181_).trans ((F545 p pn182_).trans ((F544 p pn179_).trans ((F543 p pn179_).trans (hGR1 p pn170_ pn179_ pn180_ pn181_ pn182_))))))))) (fun a nr_ => ((S547 a nr_).trans ((up_row (nr_ 181 (isR_of (p := 181) rfl))).trans ((up_row (nr_ 181 (isR_of (p := 181) rfl))).trans ((S546 a nr_).trans ((S545 a nr_).trans ((S544 a nr_).trans ((S543 a nr_).trans (hSN42 a nr_)))))))))
              · refine w_goto hK rfl ?_
                refine w_inc [(1, 161), (0, (i : Int)), (0, ((rcz k tx n).2.2.2 : Int)), (0, ((a : Int) + 1)), (0, ((ad (el k ((wt_ (a : Int))).toNat) (ng (vl ((fitS (k := k) pt_ wt_ a).1) (el k ((pt_ (a : Int))).toNat)))).val : Int)), (0, ((vl ((fitS (k := k) pt_ wt_ a).2) (el k ((pt_ (a : Int))).toNat)).val : Int))] hK rfl rfl rfl (by omega) (by omega) rfl ?_
                refine w_goto hK rfl ?_
                have ef_ := fitS_0 (k := k) (pt := pt_) (wt := wt_) (n := a) (z0_iff.mpr (by omega)) (z0_iff.mpr (by omega))
                exact ih42 _ (by omega) (a + 1) (0, ((ad (el k ((wt_ (a : Int))).toNat) (ng (vl ((fitS (k := k) pt_ wt_ a).1) (el k ((pt_ (a : Int))).toNat)))).val : Int)) (0, ((vl ((fitS (k := k) pt_ wt_ a).2) (el k ((pt_ (a : Int))).toNat)).val : Int)) _ N42 rfl (by omega) (fun i_ hi_ => by
                  by_cases q_ : i_ = a
                  · rw [q_]; exact fun _ => z0_iff.mpr (by omega)
                  · exact hok2_ i_ (by omega)) hCR1 (h182_.trans (congrArg (fun t : Pl k × Pl k => some t.1) ef_.symm)) (h180_.trans (congrArg (fun t : Pl k × Pl k => some t.2) ef_.symm)) (fun p pn170_ pn179_ pn180_ pn181_ pn182_ => (hGR1 p pn170_ pn179_ pn180_ pn181_ pn182_)) (fun a nr_ => (hSN42 a nr_))
            · refine w_il hK rfl rfl ?_
              refine w_eq hK rfl (by omega) (by omega) (fun h75 => ?_) (fun h75 => ?_)
              · refine w_il hK rfl rfl ?_
                refine w_ne hK rfl (by omega) (by omega) (fun h79 => ?_) (fun h79 => ?_)
                · refine w_al hK rfl rfl ?_
                  refine w_getr (n := 26) (v := 180) hK rfl rfl (by decide) (by decide) rfl rfl rfl rfl ?_
                  refine w_al hK rfl rfl ?_
                  refine w_getr (n := 25) (v := 179) hK rfl rfl (by decide) (by decide) rfl rfl rfl rfl ?_
                  refine w_call [(1, 180), (1, 179)] hK rfl rfl rfl rfl (Or.inl rfl) (r_copy hCR1 ⟨(isR_of (p := 180) rfl), h180_⟩ (isR_of (p := 179) rfl) (by omega)) ?_
                  rintro _ V548 ⟨P548, rfl, C548, S548, F548, f548_0⟩
                  refine ⟨by decide, (?_ : Wp 198 _ 271 86 [(1, 161), (0, (i : Int)), (0, ((rcz k tx n).2.2.2 : Int)), (0, (a : Int)), (0, ((ad (el k ((wt_ (a : Int))).toNat) (ng (vl ((fitS (k := k) pt_ wt_ a).1) (el k ((pt_ (a : Int))).toNat)))).val : Int)), (0, ((vl ((fitS (k := k) pt_ wt_ a).2) (el k ((pt_ (a : Int))).toNat)).val : Int))] [] V548 _)⟩
                  refine w_al hK rfl rfl ?_
                  refine w_al hK rfl rfl ?_
                  refine w_il hK rfl rfl ?_
                  refine w_al hK rfl rfl ?_
                  refine w_getr (n := 7) (v := 165) hK rfl rfl (by decide) (by decide) rfl rfl rfl rfl ?_
                  refine w_il hK rfl rfl ?_
                  refine w_ia hK rfl rfl (by decide) (by decide) (by omega) (by omega) ?_
                  rw [show V548 165 ((vl ((fitS (k := k) pt_ wt_ a).2) (el k ((pt_ (a : Int))).toNat)).val : Int) = ((iv (vl ((fitS (k := k) pt_ wt_ a).2) (el k ((pt_ (a : Int))).toNat))).val : Int) from C548.F.v (vl ((fitS (k := k) pt_ wt_ a).2) (el k ((pt_ (a : Int))).toNat))]
                  refine w_call [(1, 161), (0, ((ad (el k ((wt_ (a : Int))).toNat) (ng (vl ((fitS (k := k) pt_ wt_ a).1) (el k ((pt_ (a : Int))).toNat)))).val : Int)), (0, ((iv (vl ((fitS (k := k) pt_ wt_ a).2) (el k ((pt_ (a : Int))).toNat))).val : Int))] hK rfl rfl rfl rfl (Or.inr ⟨_, _, _, rfl, by decide, (by decide), rfl⟩) (r_mul C548.F (ad (el k ((wt_ (a : Int))).toNat) (ng (vl ((fitS (k := k) pt_ wt_ a).1) (el k ((pt_ (a : Int))).toNat)))) (iv (vl ((fitS (k := k) pt_ wt_ a).2) (el k ((pt_ (a : Int))).toNat)))) ?_
                  rintro _ Mq ⟨rfl, e_⟩
                  subst Mq
                  have bv_ := el_I (ml (ad (el k ((wt_ (a : Int))).toNat) (ng (vl ((fitS (k := k) pt_ wt_ a).1) (el k ((pt_ (a : Int))).toNat)))) (iv (vl ((fitS (k := k) pt_ wt_ a).2) (el k ((pt_ (a : Int))).toNat))))
                  refine ⟨by show (0 : Nat) ≠ 9; decide, (?_ : Wp 198 _ 271 94 [(1, 161), (0, (i : Int)), (0, ((rcz k tx n).2.2.2 : Int)), (0, (a : Int)), (0, ((ad (el k ((wt_ (a : Int))).toNat) (ng (vl ((fitS (k := k) pt_ wt_ a).1) (el k ((pt_ (a : Int))).toNat)))).val : Int)), (0, ((vl ((fitS (k := k) pt_ wt_ a).2) (el k ((pt_ (a : Int))).toNat)).val : Int))] [(0, ((ml (ad (el k ((wt_ (a : Int))).toNat) (ng (vl ((fitS (k := k) pt_ wt_ a).1) (el k ((pt_ (a : Int))).toNat)))) (iv (vl ((fitS (k := k) pt_ wt_ a).2) (el k ((pt_ (a : Int))).toNat)))).val : Int)), (1, 161)] V548 _)⟩
                  refine w_al hK rfl rfl ?_
                  refine w_getr (n := 25) (v := 179) hK rfl rfl (by decide) (by decide) rfl rfl rfl rfl ?_
                  refine w_call [(1, 161), (0, ((ml (ad (el k ((wt_ (a : Int))).toNat) (ng (vl ((fitS (k := k) pt_ wt_ a).1) (el k ((pt_ (a : Int))).toNat)))) (iv (vl ((fitS (k := k) pt_ wt_ a).2) (el k ((pt_ (a : Int))).toNat)))).val : Int)), (1, 179)] hK rfl rfl rfl rfl (Or.inr ⟨_, _, _, rfl, by decide, (by decide), rfl⟩) (r_scal C548 (ml (ad (el k ((wt_ (a : Int))).toNat) (ng (vl ((fitS (k := k) pt_ wt_ a).1) (el k ((pt_ (a : Int))).toNat)))) (iv (vl ((fitS (k := k) pt_ wt_ a).2) (el k ((pt_ (a : Int))).toNat)))) ⟨(isR_of (p := 179) rfl), f548_0⟩) ?_
                  rintro _ V549 ⟨P549, rfl, C549, S549, F549, f549_0⟩
                  refine ⟨by decide, (?_ : Wp 198 _ 271 97 [(1, 161), (0, (i : Int)), (0, ((rcz k tx n).2.2.2 : Int)), (0, (a : Int)), (0, ((ad (el k ((wt_ (a : Int))).toNat) (ng (vl ((fitS (k := k) pt_ wt_ a).1) (el k ((pt_ (a : Int))).toNat)))).val : Int)), (0, ((vl ((fitS (k := k) pt_ wt_ a).2) (el k ((pt_ (a : Int))).toNat)).val : Int))] [] V549 _)⟩
                  refine w_al hK rfl rfl ?_
                  refine w_al hK rfl rfl ?_
                  refine w_getr (n := 25) (v := 179) hK rfl rfl (by decide) (by decide) rfl rfl rfl rfl ?_
                  refine w_al hK rfl rfl ?_
                  refine w_getr (n := 28) (v := 182) hK rfl rfl (by decide) (by decide) rfl rfl rfl rfl ?_
                  refine w_call [(1, 161), (1, 179), (1, 182)] hK rfl rfl rfl rfl (Or.inr ⟨_, _, _, rfl, by decide, (by decide), rfl⟩) (r_adds C549 ⟨(isR_of (p := 179) rfl), f549_0⟩ ⟨(isR_of (p := 182) rfl), ((F549 182 (by omega)).trans ((F548 182 (by omega)).trans h182_))⟩ (by omega)) ?_
                  rintro _ V550 ⟨P550, rfl, C550, S550, F550, f550_0⟩
                  refine ⟨by decide, (?_ : Wp 198 _ 271 103 [(1, 161), (0, (i : Int)), (0, ((rcz k tx n).2.2.2 : Int)), (0, (a : Int)), (0, ((ad (el k ((wt_ (a : Int))).toNat) (ng (vl ((fitS (k := k) pt_ wt_ a).1) (el k ((pt_ (a : Int))).toNat)))).val : Int)), (0, ((vl ((fitS (k := k) pt_ wt_ a).2) (el k ((pt_ (a : Int))).toNat)).val : Int))] [] V550 _)⟩
                  refine w_al hK rfl rfl ?_
                  refine w_getr (n := 27) (v := 181) hK rfl rfl (by decide) (by decide) rfl rfl rfl rfl ?_
                  refine w_call [(1, 181)] hK rfl rfl rfl rfl (Or.inl rfl) (r_clear C550 (isR_of (p := 181) rfl)) ?_
                  rintro _ V551 ⟨P551, rfl, C551, S551, F551, f551_0⟩
                  refine ⟨by decide, (?_ : Wp 198 _ 271 106 [(1, 161), (0, (i : Int)), (0, ((rcz k tx n).2.2.2 : Int)), (0, (a : Int)), (0, ((ad (el k ((wt_ (a : Int))).toNat) (ng (vl ((fitS (k := k) pt_ wt_ a).1) (el k ((pt_ (a : Int))).toNat)))).val : Int)), (0, ((vl ((fitS (k := k) pt_ wt_ a).2) (el k ((pt_ (a : Int))).toNat)).val : Int))] [] V551 _)⟩
                  refine w_al hK rfl rfl ?_
                  refine w_getr (n := 27) (v := 181) hK rfl rfl (by decide) (by decide) rfl rfl rfl rfl ?_
                  refine w_ic hK rfl ?_
                  refine w_ic hK rfl ?_
                  refine w_iat hK rfl rfl (by decide) (by decide) (by omega) (by omega) ?_
                  refine w_al hK rfl rfl ?_
                  refine w_getr (n := 27) (v := 181) hK rfl rfl (by decide) (by decide) rfl rfl rfl rfl ?_
                  refine w_ic hK rfl ?_
                  refine w_al hK rfl rfl ?_
                  refine w_getr (n := 6) (v := 164) hK rfl rfl (by decide) (by decide) rfl rfl rfl rfl ?_
                  refine w_al hK rfl rfl ?_
                  refine w_al hK rfl rfl ?_
                  refine w_al hK rfl rfl ?_
                  refine w_il hK rfl rfl ?_
                  refine w_ic hK rfl ?_
                  refine w_call [(1, 161), (0, ((vl ((fitS (k := k) pt_ wt_ a).2) (el k ((pt_ (a : Int))).toNat)).val : Int)), (0, 1)] hK rfl rfl rfl rfl (Or.inr ⟨_, _, _, rfl, by decide, (by decide), rfl⟩) (r_mapN (RS.up C551 ⟨(isR_of (p := 181) rfl), f551_0⟩ (j := 1) (by omega) (by omega) (e := e1) el1.symm).F (vl ((fitS (k := k) pt_ wt_ a).2) (el k ((pt_ (a : Int))).toNat)) 1 (by omega)) ?_
                  rintro _ Mq ⟨rfl, e_⟩
                  subst Mq
                  have bv_ := el_I (sg 1 (vl ((fitS (k := k) pt_ wt_ a).2) (el k ((pt_ (a : Int))).toNat)))
                  refine ⟨by show (0 : Nat) ≠ 9; decide, (?_ : Wp 198 _ 271 122 [(1, 161), (0, (i : Int)), (0, ((rcz k tx n).2.2.2 : Int)), (0, (a : Int)), (0, ((ad (el k ((wt_ (a : Int))).toNat) (ng (vl ((fitS (k := k) pt_ wt_ a).1) (el k ((pt_ (a : Int))).toNat)))).val : Int)), (0, ((vl ((fitS (k := k) pt_ wt_ a).2) (el k ((pt_ (a : Int))).toNat)).val : Int))] [(0, ((sg 1 (vl ((fitS (k := k) pt_ wt_ a).2) (el k ((pt_ (a : Int))).toNat))).val : Int)), (1, 161), (1, 161), (1, 164), (0, 0), (1, 181)] (up V551 181 1 1) _)⟩
                  refine w_al hK rfl rfl ?_
                  refine w_getr (n := 33) (v := 185) hK rfl rfl (by decide) (by decide) rfl rfl rfl rfl ?_
                  refine w_il hK rfl rfl ?_
                  refine w_ia hK rfl rfl (by decide) (by decide) (by omega) (by omega) ?_
                  rw [show (up V551 181 1 1) 185 (a : Int) = (pt_ (a : Int)) from ((congrFun (up_row (by decide)) (a : Int)).trans ((congrFun (S551 185 (notR rfl)) (a : Int)).trans ((congrFun (S550 185 (notR rfl)) (a : Int)).trans ((congrFun (S549 185 (notR rfl)) (a : Int)).trans ((congrFun (S548 185 (notR rfl)) (a : Int)).trans ((congrFun (hSN42 185 (notR rfl)) (a : Int)).trans ((congrFun (up_row (by decide)) (a : Int)).trans ((congrFun (S541 185 (notR rfl)) (a : Int)).trans ((congrFun (S540 185 (notR rfl)) (a : Int)).trans (congrFun h185_ (a : Int)))))))))))]
                  refine w_call [(1, 161), (0, ((sg 1 (vl ((fitS (k := k) pt_ wt_ a).2) (el k ((pt_ (a : Int))).toNat))).val : Int)), (0, (pt_ (a : Int)))] hK rfl rfl rfl rfl (Or.inr ⟨_, _, _, rfl, by decide, (by decide), rfl⟩) (Ct.cv (r_mul (RS.up C551 ⟨(isR_of (p := 181) rfl), f551_0⟩ (j := 1) (by omega) (by omega) (e := e1) el1.symm).F (sg 1 (vl ((fitS (k := k) pt_ wt_ a).2) (el k ((pt_ (a : Int))).toNat))) (el k ((pt_ (a : Int))).toNat)) (by simp only [(elI (k := k) (c := (pt_ (a : Int))) (by omega) (by omega))]; try rfl)) ?_
                  rintro _ Mq ⟨rfl, e_⟩
                  subst Mq
                  have bv_ := el_I (ml (sg 1 (vl ((fitS (k := k) pt_ wt_ a).2) (el k ((pt_ (a : Int))).toNat))) (el k ((pt_ (a : Int))).toNat))
                  refine ⟨by show (0 : Nat) ≠ 9; decide, (?_ : Wp 198 _ 271 127 [(1, 161), (0, (i : Int)), (0, ((rcz k tx n).2.2.2 : Int)), (0, (a : Int)), (0, ((ad (el k ((wt_ (a : Int))).toNat) (ng (vl ((fitS (k := k) pt_ wt_ a).1) (el k ((pt_ (a : Int))).toNat)))).val : Int)), (0, ((vl ((fitS (k := k) pt_ wt_ a).2) (el k ((pt_ (a : Int))).toNat)).val : Int))] [(0, ((ml (sg 1 (vl ((fitS (k := k) pt_ wt_ a).2) (el k ((pt_ (a : Int))).toNat))) (el k ((pt_ (a : Int))).toNat)).val : Int)), (1, 161), (1, 164), (0, 0), (1, 181)] (up V551 181 1 1) _)⟩
                  refine w_al hK rfl rfl ?_
                  refine w_getr (n := 7) (v := 165) hK rfl rfl (by decide) (by decide) rfl rfl rfl rfl ?_
                  refine w_il hK rfl rfl ?_
                  refine w_ia hK rfl rfl (by decide) (by decide) (by omega) (by omega) ?_
                  rw [show (up V551 181 1 1) 165 ((vl ((fitS (k := k) pt_ wt_ a).2) (el k ((pt_ (a : Int))).toNat)).val : Int) = ((iv (vl ((fitS (k := k) pt_ wt_ a).2) (el k ((pt_ (a : Int))).toNat))).val : Int) from (RS.up C551 ⟨(isR_of (p := 181) rfl), f551_0⟩ (j := 1) (by omega) (by omega) (e := e1) el1.symm).F.v (vl ((fitS (k := k) pt_ wt_ a).2) (el k ((pt_ (a : Int))).toNat))]
                  refine w_call [(1, 161), (0, ((ml (sg 1 (vl ((fitS (k := k) pt_ wt_ a).2) (el k ((pt_ (a : Int))).toNat))) (el k ((pt_ (a : Int))).toNat)).val : Int)), (0, ((iv (vl ((fitS (k := k) pt_ wt_ a).2) (el k ((pt_ (a : Int))).toNat))).val : Int))] hK rfl rfl rfl rfl (Or.inr ⟨_, _, _, rfl, by decide, (by decide), rfl⟩) (r_mul (RS.up C551 ⟨(isR_of (p := 181) rfl), f551_0⟩ (j := 1) (by omega) (by omega) (e := e1) el1.symm).F (ml (sg 1 (vl ((fitS (k := k) pt_ wt_ a).2) (el k ((pt_ (a : Int))).toNat))) (el k ((pt_ (a : Int))).toNat)) (iv (vl ((fitS (k := k) pt_ wt_ a).2) (el k ((pt_ (a : Int))).toNat)))) ?_
                  rintro _ Mq ⟨rfl, e_⟩
                  subst Mq
                  have bv_ := el_I (ml (ml (sg 1 (vl ((fitS (k := k) pt_ wt_ a).2) (el k ((pt_ (a : Int))).toNat))) (el k ((pt_ (a : Int))).toNat)) (iv (vl ((fitS (k := k) pt_ wt_ a).2) (el k ((pt_ (a : Int))).toNat))))
                  refine ⟨by show (0 : Nat) ≠ 9; decide, (?_ : Wp 198 _ 271 132 [(1, 161), (0, (i : Int)), (0, ((rcz k tx n).2.2.2 : Int)), (0, (a : Int)), (0, ((ad (el k ((wt_ (a : Int))).toNat) (ng (vl ((fitS (k := k) pt_ wt_ a).1) (el k ((pt_ (a : Int))).toNat)))).val : Int)), (0, ((vl ((fitS (k := k) pt_ wt_ a).2) (el k ((pt_ (a : Int))).toNat)).val : Int))] [(0, ((ml (ml (sg 1 (vl ((fitS (k := k) pt_ wt_ a).2) (el k ((pt_ (a : Int))).toNat))) (el k ((pt_ (a : Int))).toNat)) (iv (vl ((fitS (k := k) pt_ wt_ a).2) (el k ((pt_ (a : Int))).toNat)))).val : Int)), (1, 164), (0, 0), (1, 181)] (up V551 181 1 1) _)⟩
                  refine w_ia hK rfl rfl (by decide) (by decide) (by omega) (by omega) ?_
                  rw [show (up V551 181 1 1) 164 ((ml (ml (sg 1 (vl ((fitS (k := k) pt_ wt_ a).2) (el k ((pt_ (a : Int))).toNat))) (el k ((pt_ (a : Int))).toNat)) (iv (vl ((fitS (k := k) pt_ wt_ a).2) (el k ((pt_ (a : Int))).toNat)))).val : Int) = ((ng (ml (ml (sg 1 (vl ((fitS (k := k) pt_ wt_ a).2) (el k ((pt_ (a : Int))).toNat))) (el k ((pt_ (a : Int))).toNat)) (iv (vl ((fitS (k := k) pt_ wt_ a).2) (el k ((pt_ (a : Int))).toNat))))).val : Int) from (RS.up C551 ⟨(isR_of (p := 181) rfl), f551_0⟩ (j := 1) (by omega) (by omega) (e := e1) el1.symm).F.n (ml (ml (sg 1 (vl ((fitS (k := k) pt_ wt_ a).2) (el k ((pt_ (a : Int))).toNat))) (el k ((pt_ (a : Int))).toNat)) (iv (vl ((fitS (k := k) pt_ wt_ a).2) (el k ((pt_ (a : Int))).toNat))))]
                  refine w_iat hK rfl rfl (by decide) (by decide) (by omega) (by omega) ?_
                  have ld_ : dg (up1 (up1 pz 1 e1) 0 (ng (ml (ml (sg 1 (vl (fitS (k := k) pt_ wt_ a).2 (el k (pt_ (a : Int)).toNat))) (el k (pt_ (a : Int)).toNat)) (iv (vl (fitS (k := k) pt_ wt_ a).2 (el k (pt_ (a : Int)).toNat)))))) = 1 := lin_dg _
                  refine w_al hK rfl rfl ?_
                  refine w_al hK rfl rfl ?_
                  refine w_getr (n := 27) (v := 181) hK rfl rfl (by decide) (by decide) rfl rfl rfl rfl ?_
                  refine w_al hK rfl rfl ?_
                  refine w_getr (n := 26) (v := 180) hK rfl rfl (by decide) (by decide) rfl rfl rfl rfl ?_
                  refine w_al hK rfl rfl ?_
                  refine w_getr (n := 26) (v := 180) hK rfl rfl (by decide) (by decide) rfl rfl rfl rfl ?_
                  refine w_call [(1, 161), (1, 181), (1, 180), (1, 180)] hK rfl rfl rfl rfl (Or.inr ⟨_, _, _, rfl, by decide, (by decide), rfl⟩) (r_prod (RS.up (RS.up C551 ⟨(isR_of (p := 181) rfl), f551_0⟩ (j := 1) (by omega) (by omega) (e := e1) el1.symm) ⟨(isR_of (p := 181) rfl), pu_eq⟩ (j := 0) (by omega) (by omega) (e := (ng (ml (ml (sg 1 (vl ((fitS (k := k) pt_ wt_ a).2) (el k ((pt_ (a : Int))).toNat))) (el k ((pt_ (a : Int))).toNat)) (iv (vl ((fitS (k := k) pt_ wt_ a).2) (el k ((pt_ (a : Int))).toNat)))))) rfl) ⟨(isR_of (p := 181) rfl), pu_eq⟩ ⟨(isR_of (p := 180) rfl), ((pu_ne (P := pu P551 181 (up1 pz 1 e1)) (f := up1 (up1 pz 1 e1) 0 (ng (ml (ml (sg 1 (vl ((fitS (k := k) pt_ wt_ a).2) (el k ((pt_ (a : Int))).toNat))) (el k ((pt_ (a : Int))).toNat)) (iv (vl ((fitS (k := k) pt_ wt_ a).2) (el k ((pt_ (a : Int))).toNat)))))) (show 180 ≠ 181 by omega)).trans ((pu_ne (P := P551) (f := up1 pz 1 e1) (show 180 ≠ 181 by omega)).trans ((F551 180 (by omega)).trans ((F550 180 (by omega)).trans ((F549 180 (by omega)).trans ((F548 180 (by omega)).trans h180_))))))⟩ (isR_of (p := 180) rfl) (by omega) (by omega) (by omega) (by omega)) ?_
                  rintro _ V552 ⟨P552, rfl, C552, S552, F552, f552_0⟩
                  refine ⟨by decide, (?_ : Wp 198 _ 271 142 [(1, 161), (0, (i : Int)), (0, ((rcz k tx n).2.2.2 : Int)), (0, (a : Int)), (0, ((ad (el k ((wt_ (a : Int))).toNat) (ng (vl ((fitS (k := k) pt_ wt_ a).1) (el k ((pt_ (a : Int))).toNat)))).val : Int)), (0, ((vl ((fitS (k := k) pt_ wt_ a).2) (el k ((pt_ (a : Int))).toNat)).val : Int))] [] V552 _)⟩
                  refine w_inc [(1, 161), (0, (i : Int)), (0, ((rcz k tx n).2.2.2 : Int)), (0, ((a : Int) + 1)), (0, ((ad (el k ((wt_ (a : Int))).toNat) (ng (vl ((fitS (k := k) pt_ wt_ a).1) (el k ((pt_ (a : Int))).toNat)))).val : Int)), (0, ((vl ((fitS (k := k) pt_ wt_ a).2) (el k ((pt_ (a : Int))).toNat)).val : Int))] hK rfl rfl rfl (by omega) (by omega) rfl ?_
                  refine w_goto hK rfl ?_
                  have ef_ := fitS_1 (k := k) (pt := pt_) (wt := wt_) (n := a) (fun q_ => by rw [q_, z0_val] at h79; exact h79 rfl)
                  exact ih42 _ (by omega) (a + 1) (0, ((ad (el k ((wt_ (a : Int))).toNat) (ng (vl ((fitS (k := k) pt_ wt_ a).1) (el k ((pt_ (a : Int))).toNat)))).val : Int)) (0, ((vl ((fitS (k := k) pt_ wt_ a).2) (el k ((pt_ (a : Int))).toNat)).val : Int)) _ V552 rfl (by omega) (fun i_ hi_ => by
                    by_cases q_ : i_ = a
                    · rw [q_]; exact fun q_ => absurd q_ (fun q_ => by rw [q_, z0_val] at h79; exact h79 rfl)
                    · exact hok2_ i_ (by omega)) C552 (((F552 182 (by omega) (by omega)).trans ((pu_ne (P := pu P551 181 (up1 pz 1 e1)) (f := up1 (up1 pz 1 e1) 0 (ng (ml (ml (sg 1 (vl ((fitS (k := k) pt_ wt_ a).2) (el k ((pt_ (a : Int))).toNat))) (el k ((pt_ (a : Int))).toNat)) (iv (vl ((fitS (k := k) pt_ wt_ a).2) (el k ((pt_ (a : Int))).toNat)))))) (show 182 ≠ 181 by omega)).trans ((pu_ne (P := P551) (f := up1 pz 1 e1) (show 182 ≠ 181 by omega)).trans ((F551 182 (by omega)).trans f550_0))))) ((f552_0).trans (congrArg some ef_.symm)) (fun p pn170_ pn179_ pn180_ pn181_ pn182_ => ((F552 p pn170_ pn180_).trans ((pu_ne (P := pu P551 181 (up1 pz 1 e1)) (f := up1 (up1 pz 1 e1) 0 (ng (ml (ml (sg 1 (vl ((fitS (k := k) pt_ wt_ a).2) (el k ((pt_ (a : Int))).toNat))) (el k ((pt_ (a : Int))).toNat)) (iv (vl ((fitS (k := k) pt_ wt_ a).2) (el k ((pt_ (a : Int))).toNat)))))) (show p ≠ 181 by omega)).trans ((pu_ne (P := P551) (f := up1 pz 1 e1) (show p ≠ 181 by omega)).trans ((F551 p pn181_).trans ((F550 p pn182_).trans ((F549 p pn179_).trans ((F548 p pn179_).trans (hGR1 p pn170_ pn179_ pn180_ pn181_ pn182_))))))))) (fun a nr_ => ((S552 a nr_).trans ((up_row (nr_ 181 (isR_of (p := 181) rfl))).trans ((up_row (nr_ 181 (isR_of (p := 181) rfl))).trans ((S551 a nr_).trans ((S550 a nr_).trans ((S549 a nr_).trans ((S548 a nr_).trans (hSN42 a nr_)))))))))
                · refine w_goto hK rfl ?_
                  refine w_inc [(1, 161), (0, (i : Int)), (0, ((rcz k tx n).2.2.2 : Int)), (0, ((a : Int) + 1)), (0, ((ad (el k ((wt_ (a : Int))).toNat) (ng (vl ((fitS (k := k) pt_ wt_ a).1) (el k ((pt_ (a : Int))).toNat)))).val : Int)), (0, ((vl ((fitS (k := k) pt_ wt_ a).2) (el k ((pt_ (a : Int))).toNat)).val : Int))] hK rfl rfl rfl (by omega) (by omega) rfl ?_
                  refine w_goto hK rfl ?_
                  have ef_ := fitS_0 (k := k) (pt := pt_) (wt := wt_) (n := a) (z0_iff.mpr (by omega)) (z0_iff.mpr (by omega))
                  exact ih42 _ (by omega) (a + 1) (0, ((ad (el k ((wt_ (a : Int))).toNat) (ng (vl ((fitS (k := k) pt_ wt_ a).1) (el k ((pt_ (a : Int))).toNat)))).val : Int)) (0, ((vl ((fitS (k := k) pt_ wt_ a).2) (el k ((pt_ (a : Int))).toNat)).val : Int)) _ N42 rfl (by omega) (fun i_ hi_ => by
                    by_cases q_ : i_ = a
                    · rw [q_]; exact fun _ => z0_iff.mpr (by omega)
                    · exact hok2_ i_ (by omega)) hCR1 (h182_.trans (congrArg (fun t : Pl k × Pl k => some t.1) ef_.symm)) (h180_.trans (congrArg (fun t : Pl k × Pl k => some t.2) ef_.symm)) (fun p pn170_ pn179_ pn180_ pn181_ pn182_ => (hGR1 p pn170_ pn179_ pn180_ pn181_ pn182_)) (fun a nr_ => (hSN42 a nr_))
              · refine w_ic hK rfl ?_
                refine w_iret hK rfl rfl ?_
                exact absurd ((fitOk_congr hpw_).mpr hok_ a (by omega) (z0_iff.mpr (by omega))) (fun q_ => by rw [q_, z0_val] at h75; exact h75 rfl)
        exact lp42 _ 0 (3, 0) (3, 0) _ (up V541 180 0 1) rfl (by omega) (fun i_ hi_ => by omega) (RS.up C541 ⟨(isR_of (p := 180) rfl), f541_0⟩ (j := 0) (by omega) (by omega) (e := e1) el1.symm) (((pu_ne (P := P541) (f := up1 pz 0 e1) (show 182 ≠ 180 by omega)).trans ((F541 182 (by omega)).trans f540_0))) (pu_eq) (fun p pn170_ pn179_ pn180_ pn181_ pn182_ => rfl) (fun a nr_ => rfl)
      · exfalso; omega
    · exfalso; omega
  · exfalso; omega
set_option maxRecDepth 100000 in
theorem rx_fits {d : Nat} {M : Mem} {k : Nat} {pl : Nat → Pl k} {n : Int} {tx : Int → Int} {rc : Nat} {rw : Int → Int} {fc : Nat} {fa : Nat → Pl k} (H : RFS M k pl n tx rc rw fc fa) (i : Nat) (hi : i < 6) (hf_ : (rcz k tx n).1 < 0) (hok_ : ¬ ∀ i : Nat, i < (rcz k tx n).2.2.2 → fitOk k (rcz k tx n).2.1 (rcz k tx n).2.2.1 i) : Ct 198 (d + 8) 271 [(1, 161), (0, (i : Int))] M (fun r_ M' => r_ = (0, (-3)) ∧ RFS M' k pl 0 (txC tx 0) rc rw fc fa ∧ (∀ a : Int, (a < 161 ∨ 197 < a) → M' a = M a)) := by
  have hK : cd 271 = k271 := rfl
  obtain ⟨R, C, hpl, T, hR, hF⟩ := H
  have q1_ := qq_I k
  have p1_ := pp_I k
  have m1_ := mm_I k
  have bi_ := (hpl i hi).2
  have di_ := dg_lt9 bi_
  have tn_ := T.1.2
  have rI_ := rcs_I T.TX (q := (qq k : Int)) (by omega) 6 0 0 (fun _ => 0) (fun _ => 0) rfl (by omega) (by omega)
  change -1 ≤ (rcz k tx n).1 ∧ (rcz k tx n).1 ≤ 44 at rI_
  show Wp 198 _ 271 0 [(1, 161), (0, (i : Int)), (3, 0), (3, 0), (3, 0), (3, 0)] [] M _
  refine w_al hK rfl rfl ?_
  refine w_ic hK rfl ?_
  refine w_puti (n := 14) (m := 14) hK rfl rfl (by decide) (by decide) rfl rfl rfl rfl ?_
  refine w_al hK rfl rfl ?_
  refine w_al hK rfl rfl ?_
  refine w_geti (n := 11) (m := 11) hK rfl rfl (by decide) (by decide) rfl rfl rfl rfl ?_
  rw [show (up M 161 14 0) 161 11 = n from (TMs.keep T (up_ne2 (by decide)) (up_row (by decide))).1.1]
  refine w_puti (n := 30) (m := 30) hK rfl rfl (by decide) (by decide) rfl rfl rfl rfl ?_
  refine w_al hK rfl rfl ?_
  refine w_ic hK rfl ?_
  refine w_puti (n := 11) (m := 11) hK rfl rfl (by decide) (by decide) rfl rfl rfl rfl ?_
  refine w_al hK rfl rfl ?_
  refine w_ic hK rfl ?_
  refine w_puti (n := 29) (m := 29) hK rfl rfl (by decide) (by decide) rfl rfl rfl rfl ?_
  refine w_al hK rfl rfl ?_
  refine w_call [(1, 161)] hK rfl rfl rfl rfl (Or.inr ⟨_, _, _, rfl, by decide, (by decide), rfl⟩) (r_rcz (RS.cg (RS.cg (RS.cg (RS.cg C (fun j_ h1_ h2_ => up_ne2 (by omega)) (fun a_ h1_ h2_ => up_row h1_)) (fun j_ h1_ h2_ => up_ne2 (by omega)) (fun a_ h1_ h2_ => up_row h1_)) (fun j_ h1_ h2_ => up_ne2 (by omega)) (fun a_ h1_ h2_ => up_row h1_)) (fun j_ h1_ h2_ => up_ne2 (by omega)) (fun a_ h1_ h2_ => up_row h1_)) (TMs.TL T ((up_ne2 (by omega)).trans ((up_ne2 (by omega)).trans up_eq)) ((up_row (by decide)).trans ((up_row (by decide)).trans ((up_row (by decide)).trans (up_row (by decide)))))) up_eq) ?_
  rintro r_ V553 ⟨pt_, wt_, hor_, F553, G553⟩
  rcases hor_ with ⟨h1_, rfl, hc6_, h185_, h186_, hn1_, hn2_, hpw_⟩ | ⟨h1_, rfl, h2_⟩
  · refine ⟨(by show (0 : Nat) ≠ 9; decide), (?_ : Wp 198 _ 271 15 [(1, 161), (0, (i : Int)), (3, 0), (3, 0), (3, 0), (3, 0)] [(0, ((rcz k tx n).2.2.2 : Int))] V553 _)⟩
    refine w_is [(1, 161), (0, (i : Int)), (0, ((rcz k tx n).2.2.2 : Int)), (3, 0), (3, 0), (3, 0)] hK rfl rfl rfl ?_
    refine w_il hK rfl rfl ?_
    refine w_ic hK rfl ?_
    refine w_ne2 hK rfl (by omega) (by omega) (by omega) (by omega) (fun h18 => ?_) (fun h18 => ?_)
    · refine w_il hK rfl rfl ?_
      refine w_call [(0, (i : Int))] hK rfl rfl rfl rfl (Or.inl rfl) (r_place (i : Int) (by omega) (by omega)) ?_
      rintro _ Mq ⟨rfl, e_⟩
      subst Mq
      have pI_554 := ite01 (0 ≤ (i : Int) ∧ (i : Int) < 6)
      refine ⟨by show (0 : Nat) ≠ 9; decide, (?_ : Wp 198 _ 271 26 [(1, 161), (0, (i : Int)), (0, ((rcz k tx n).2.2.2 : Int)), (3, 0), (3, 0), (3, 0)] [(0, (if 0 ≤ (i : Int) ∧ (i : Int) < 6 then 1 else 0))] V553 _)⟩
      refine w_ne hK rfl (by omega) (by omega) (fun h26 => ?_) (fun h26 => ?_)
      · refine w_al hK rfl rfl ?_
        refine w_getr (n := 28) (v := 182) hK rfl rfl (by decide) (by decide) rfl rfl rfl rfl ?_
        refine w_call [(1, 182)] hK rfl rfl rfl rfl (Or.inl rfl) (r_clear (RS.cg (RS.cg (RS.cg (RS.cg (RS.cg C (fun j_ h1_ h2_ => up_ne2 (by omega)) (fun a_ h1_ h2_ => up_row h1_)) (fun j_ h1_ h2_ => up_ne2 (by omega)) (fun a_ h1_ h2_ => up_row h1_)) (fun j_ h1_ h2_ => up_ne2 (by omega)) (fun a_ h1_ h2_ => up_row h1_)) (fun j_ h1_ h2_ => up_ne2 (by omega)) (fun a_ h1_ h2_ => up_row h1_)) (fun j_ h1_ h2_ => G553 j_ (by omega)) (fun a_ h1_ h2_ => F553 a_ h1_ (RSc_ne h2_ (by decide) (notR rfl)) (RSc_ne h2_ (by decide) (notR rfl)))) (isR_of (p := 182) rfl)) ?_
        rintro _ V555 ⟨P555, rfl, C555, S555, F555, f555_0⟩
        refine ⟨by decide, (?_ : Wp 198 _ 271 32 [(1, 161), (0, (i : Int)), (0, ((rcz k tx n).2.2.2 : Int)), (3, 0), (3, 0), (3, 0)] [] V555 _)⟩
        refine w_al hK rfl rfl ?_
        refine w_getr (n := 26) (v := 180) hK rfl rfl (by decide) (by decide) rfl rfl rfl rfl ?_
        refine w_call [(1, 180)] hK rfl rfl rfl rfl (Or.inl rfl) (r_clear C555 (isR_of (p := 180) rfl)) ?_
        rintro _ V556 ⟨P556, rfl, C556, S556, F556, f556_0⟩
        refine ⟨by decide, (?_ : Wp 198 _ 271 35 [(1, 161), (0, (i : Int)), (0, ((rcz k tx n).2.2.2 : Int)), (3, 0), (3, 0), (3, 0)] [] V556 _)⟩
        refine w_al hK rfl rfl ?_
        refine w_getr (n := 26) (v := 180) hK rfl rfl (by decide) (by decide) rfl rfl rfl rfl ?_
        refine w_ic hK rfl ?_
        refine w_ic hK rfl ?_
        refine w_iat hK rfl rfl (by decide) (by decide) (by omega) (by omega) ?_
        refine w_ic hK rfl ?_
        refine w_is [(1, 161), (0, (i : Int)), (0, ((rcz k tx n).2.2.2 : Int)), (0, 0), (3, 0), (3, 0)] hK rfl rfl rfl ?_
        have lp42 : ∀ (n_ : Nat) (a : Nat) (w4 w5 : AV) (R1 : Int → Option (Pl k)) (N42 : Mem), 7 - a = n_ → (a ≤ (rcz k tx n).2.2.2) → (∀ i_ : Nat, i_ < a → fitOk k pt_ wt_ i_) → (RS N42 k R1) → (R1 182 = some ((fitS (k := k) pt_ wt_ a).1)) → (R1 180 = some ((fitS (k := k) pt_ wt_ a).2)) → ((∀ p : Int, p ≠ 170 → p ≠ 179 → p ≠ 180 → p ≠ 181 → p ≠ 182 → R1 p = (pu P556 180 (up1 pz 0 e1)) p)) → ((∀ a : Int, (∀ p : Int, isR p → a ≠ p) → N42 a = (up V556 180 0 1) a)) → Wp 198 (d + 8) 271 42 [(1, 161), (0, (i : Int)), (0, ((rcz k tx n).2.2.2 : Int)), (0, (a : Int)), w4, w5] [] N42 (fun r_ M' => r_ = (0, (-3)) ∧ RFS M' k pl 0 (txC tx 0) rc rw fc fa ∧ (∀ a : Int, (a < 161 ∨ 197 < a) → M' a = M a)) := by
          intro n_
          induction n_ using Nat.strongRecOn with
          | _ n_ ih42 =>
          intro a w4 w5 R1 N42 hm42 ha_ hok2_ hCR1 h182_ h180_ hGR1 hSN42
          obtain ⟨⟨dF_, hF1_, hF2_⟩, hF3_⟩ := fitS_dg (k := k) pt_ wt_ a
          have bF2_ : Bd (fitS (k := k) pt_ wt_ a).2 9 := (Bd_is hF2_).mono (by omega)
          have bF1_ : Bd (fitS (k := k) pt_ wt_ a).1 9 := hF3_.mono (by omega)
          have dF9_ := dg_lt9 bF2_
          refine w_il hK rfl rfl ?_
          refine w_il hK rfl rfl ?_
          refine w_ge2 hK rfl (by omega) (by omega) (by omega) (by omega) (fun h44 => ?_) (fun h44 => ?_)
          · refine w_al hK rfl rfl ?_
            refine w_al hK rfl rfl ?_
            refine w_getr (n := 28) (v := 182) hK rfl rfl (by decide) (by decide) rfl rfl rfl rfl ?_
            refine w_il hK rfl rfl ?_
            refine w_call [(1, 161), (1, 182), (0, (i : Int))] hK rfl rfl rfl rfl (Or.inr ⟨_, _, _, rfl, by decide, (by decide), rfl⟩) (r_store hCR1 (PM.keep hpl ((hSN42 167 (notR rfl)).trans ((up_row (by decide)).trans ((S556 167 (notR rfl)).trans ((S555 167 (notR rfl)).trans ((F553 167 (by decide) (by decide) (by decide)).trans ((up_row (by decide)).trans ((up_row (by decide)).trans ((up_row (by decide)).trans (up_row (by decide))))))))))) ⟨(isR_of (p := 182) rfl), h182_⟩ i hi bF1_) ?_
            rintro _ V557 ⟨rfl, C557, Q557, F557⟩
            refine ⟨(by show (0 : Nat) ≠ 9; decide), (?_ : Wp 198 _ 271 149 [(1, 161), (0, (i : Int)), (0, ((rcz k tx n).2.2.2 : Int)), (0, (a : Int)), w4, w5] [(0, (dg ((fitS (k := k) pt_ wt_ a).1)))] V557 _)⟩
            refine w_iret hK rfl rfl ?_
            exact absurd ((fitOk_congr hpw_).mp (fun i_ hi_ => hok2_ i_ (by omega))) hok_
          · have pa_ := hn1_ a (by omega)
            have wa_ := hn2_ a (by omega)
            refine w_al hK rfl rfl ?_
            refine w_al hK rfl rfl ?_
            refine w_getr (n := 34) (v := 186) hK rfl rfl (by decide) (by decide) rfl rfl rfl rfl ?_
            refine w_il hK rfl rfl ?_
            refine w_ia hK rfl rfl (by decide) (by decide) (by omega) (by omega) ?_
            rw [show N42 186 (a : Int) = (wt_ (a : Int)) from ((congrFun (hSN42 186 (notR rfl)) (a : Int)).trans ((congrFun (up_row (by decide)) (a : Int)).trans ((congrFun (S556 186 (notR rfl)) (a : Int)).trans ((congrFun (S555 186 (notR rfl)) (a : Int)).trans (congrFun h186_ (a : Int))))))]
            refine w_al hK rfl rfl ?_
            refine w_getr (n := 6) (v := 164) hK rfl rfl (by decide) (by decide) rfl rfl rfl rfl ?_
            refine w_al hK rfl rfl ?_
            refine w_al hK rfl rfl ?_
            refine w_getr (n := 28) (v := 182) hK rfl rfl (by decide) (by decide) rfl rfl rfl rfl ?_
            refine w_al hK rfl rfl ?_
            refine w_getr (n := 33) (v := 185) hK rfl rfl (by decide) (by decide) rfl rfl rfl rfl ?_
            refine w_il hK rfl rfl ?_
            refine w_ia hK rfl rfl (by decide) (by decide) (by omega) (by omega) ?_
            rw [show N42 185 (a : Int) = (pt_ (a : Int)) from ((congrFun (hSN42 185 (notR rfl)) (a : Int)).trans ((congrFun (up_row (by decide)) (a : Int)).trans ((congrFun (S556 185 (notR rfl)) (a : Int)).trans ((congrFun (S555 185 (notR rfl)) (a : Int)).trans (congrFun h185_ (a : Int))))))]
            refine w_call [(1, 161), (1, 182), (0, (pt_ (a : Int)))] hK rfl rfl rfl rfl (Or.inr ⟨_, _, _, rfl, by decide, (by decide), rfl⟩) (Ct.cv (r_val hCR1 ⟨(isR_of (p := 182) rfl), h182_⟩ (bF1_.mono (by decide)) (el k ((pt_ (a : Int))).toNat)) (by simp only [(elI (k := k) (c := (pt_ (a : Int))) (by omega) (by omega))]; try rfl)) ?_
            rintro _ Mq ⟨rfl, e_⟩
            subst Mq
            have bv_ := el_I (vl ((fitS (k := k) pt_ wt_ a).1) (el k ((pt_ (a : Int))).toNat))
            refine ⟨by show (0 : Nat) ≠ 9; decide, (?_ : Wp 198 _ 271 60 [(1, 161), (0, (i : Int)), (0, ((rcz k tx n).2.2.2 : Int)), (0, (a : Int)), w4, w5] [(0, ((vl ((fitS (k := k) pt_ wt_ a).1) (el k ((pt_ (a : Int))).toNat)).val : Int)), (1, 164), (0, (wt_ (a : Int))), (1, 161)] N42 _)⟩
            refine w_ia hK rfl rfl (by decide) (by decide) (by omega) (by omega) ?_
            rw [show N42 164 ((vl ((fitS (k := k) pt_ wt_ a).1) (el k ((pt_ (a : Int))).toNat)).val : Int) = ((ng (vl ((fitS (k := k) pt_ wt_ a).1) (el k ((pt_ (a : Int))).toNat))).val : Int) from hCR1.F.n (vl ((fitS (k := k) pt_ wt_ a).1) (el k ((pt_ (a : Int))).toNat))]
            refine w_call [(1, 161), (0, (wt_ (a : Int))), (0, ((ng (vl ((fitS (k := k) pt_ wt_ a).1) (el k ((pt_ (a : Int))).toNat))).val : Int))] hK rfl rfl rfl rfl (Or.inr ⟨_, _, _, rfl, by decide, (by decide), rfl⟩) (Ct.cv (r_add hCR1.F (el k ((wt_ (a : Int))).toNat) (ng (vl ((fitS (k := k) pt_ wt_ a).1) (el k ((pt_ (a : Int))).toNat)))) (by simp only [(elI (k := k) (c := (wt_ (a : Int))) (by omega) (by omega))]; try rfl)) ?_
            rintro _ Mq ⟨rfl, e_⟩
            subst Mq
            have bv_ := el_I (ad (el k ((wt_ (a : Int))).toNat) (ng (vl ((fitS (k := k) pt_ wt_ a).1) (el k ((pt_ (a : Int))).toNat))))
            refine ⟨by show (0 : Nat) ≠ 9; decide, (?_ : Wp 198 _ 271 62 [(1, 161), (0, (i : Int)), (0, ((rcz k tx n).2.2.2 : Int)), (0, (a : Int)), w4, w5] [(0, ((ad (el k ((wt_ (a : Int))).toNat) (ng (vl ((fitS (k := k) pt_ wt_ a).1) (el k ((pt_ (a : Int))).toNat)))).val : Int))] N42 _)⟩
            refine w_is [(1, 161), (0, (i : Int)), (0, ((rcz k tx n).2.2.2 : Int)), (0, (a : Int)), (0, ((ad (el k ((wt_ (a : Int))).toNat) (ng (vl ((fitS (k := k) pt_ wt_ a).1) (el k ((pt_ (a : Int))).toNat)))).val : Int)), w5] hK rfl rfl rfl ?_
            refine w_al hK rfl rfl ?_
            refine w_al hK rfl rfl ?_
            refine w_getr (n := 26) (v := 180) hK rfl rfl (by decide) (by decide) rfl rfl rfl rfl ?_
            refine w_al hK rfl rfl ?_
            refine w_getr (n := 33) (v := 185) hK rfl rfl (by decide) (by decide) rfl rfl rfl rfl ?_
            refine w_il hK rfl rfl ?_
            refine w_ia hK rfl rfl (by decide) (by decide) (by omega) (by omega) ?_
            rw [show N42 185 (a : Int) = (pt_ (a : Int)) from ((congrFun (hSN42 185 (notR rfl)) (a : Int)).trans ((congrFun (up_row (by decide)) (a : Int)).trans ((congrFun (S556 185 (notR rfl)) (a : Int)).trans ((congrFun (S555 185 (notR rfl)) (a : Int)).trans (congrFun h185_ (a : Int))))))]
            refine w_call [(1, 161), (1, 180), (0, (pt_ (a : Int)))] hK rfl rfl rfl rfl (Or.inr ⟨_, _, _, rfl, by decide, (by decide), rfl⟩) (Ct.cv (r_val hCR1 ⟨(isR_of (p := 180) rfl), h180_⟩ (bF2_.mono (by decide)) (el k ((pt_ (a : Int))).toNat)) (by simp only [(elI (k := k) (c := (pt_ (a : Int))) (by omega) (by omega))]; try rfl)) ?_
            rintro _ Mq ⟨rfl, e_⟩
            subst Mq
            have bv_ := el_I (vl ((fitS (k := k) pt_ wt_ a).2) (el k ((pt_ (a : Int))).toNat))
            refine ⟨by show (0 : Nat) ≠ 9; decide, (?_ : Wp 198 _ 271 71 [(1, 161), (0, (i : Int)), (0, ((rcz k tx n).2.2.2 : Int)), (0, (a : Int)), (0, ((ad (el k ((wt_ (a : Int))).toNat) (ng (vl ((fitS (k := k) pt_ wt_ a).1) (el k ((pt_ (a : Int))).toNat)))).val : Int)), w5] [(0, ((vl ((fitS (k := k) pt_ wt_ a).2) (el k ((pt_ (a : Int))).toNat)).val : Int))] N42 _)⟩
            refine w_is [(1, 161), (0, (i : Int)), (0, ((rcz k tx n).2.2.2 : Int)), (0, (a : Int)), (0, ((ad (el k ((wt_ (a : Int))).toNat) (ng (vl ((fitS (k := k) pt_ wt_ a).1) (el k ((pt_ (a : Int))).toNat)))).val : Int)), (0, ((vl ((fitS (k := k) pt_ wt_ a).2) (el k ((pt_ (a : Int))).toNat)).val : Int))] hK rfl rfl rfl ?_
            refine w_il hK rfl rfl ?_
            refine w_ne hK rfl (by omega) (by omega) (fun h73 => ?_) (fun h73 => ?_)
            · refine w_il hK rfl rfl ?_
              refine w_ne hK rfl (by omega) (by omega) (fun h79 => ?_) (fun h79 => ?_)
              · refine w_al hK rfl rfl ?_
                refine w_getr (n := 26) (v := 180) hK rfl rfl (by decide) (by decide) rfl rfl rfl rfl ?_
                refine w_al hK rfl rfl ?_
                refine w_getr (n := 25) (v := 179) hK rfl rfl (by decide) (by decide) rfl rfl rfl rfl ?_
                refine w_call [(1, 180), (1, 179)] hK rfl rfl rfl rfl (Or.inl rfl) (r_copy hCR1 ⟨(isR_of (p := 180) rfl), h180_⟩ (isR_of (p := 179) rfl) (by omega)) ?_
                rintro _ V558 ⟨P558, rfl, C558, S558, F558, f558_0⟩
                refine ⟨by decide, (?_ : Wp 198 _ 271 86 [(1, 161), (0, (i : Int)), (0, ((rcz k tx n).2.2.2 : Int)), (0, (a : Int)), (0, ((ad (el k ((wt_ (a : Int))).toNat) (ng (vl ((fitS (k := k) pt_ wt_ a).1) (el k ((pt_ (a : Int))).toNat)))).val : Int)), (0, ((vl ((fitS (k := k) pt_ wt_ a).2) (el k ((pt_ (a : Int))).toNat)).val : Int))] [] V558 _)⟩
                refine w_al hK rfl rfl ?_
                refine w_al hK rfl rfl ?_
                refine w_il hK rfl rfl ?_
                refine w_al hK rfl rfl ?_
                refine w_getr (n := 7) (v := 165) hK rfl rfl (by decide) (by decide) rfl rfl rfl rfl ?_
                refine w_il hK rfl rfl ?_
                refine w_ia hK rfl rfl (by decide) (by decide) (by omega) (by omega) ?_
                rw [show V558 165 ((vl ((fitS (k := k) pt_ wt_ a).2) (el k ((pt_ (a : Int))).toNat)).val : Int) = ((iv (vl ((fitS (k := k) pt_ wt_ a).2) (el k ((pt_ (a : Int))).toNat))).val : Int) from C558.F.v (vl ((fitS (k := k) pt_ wt_ a).2) (el k ((pt_ (a : Int))).toNat))]
                refine w_call [(1, 161), (0, ((ad (el k ((wt_ (a : Int))).toNat) (ng (vl ((fitS (k := k) pt_ wt_ a).1) (el k ((pt_ (a : Int))).toNat)))).val : Int)), (0, ((iv (vl ((fitS (k := k) pt_ wt_ a).2) (el k ((pt_ (a : Int))).toNat))).val : Int))] hK rfl rfl rfl rfl (Or.inr ⟨_, _, _, rfl, by decide, (by decide), rfl⟩) (r_mul C558.F (ad (el k ((wt_ (a : Int))).toNat) (ng (vl ((fitS (k := k) pt_ wt_ a).1) (el k ((pt_ (a : Int))).toNat)))) (iv (vl ((fitS (k := k) pt_ wt_ a).2) (el k ((pt_ (a : Int))).toNat)))) ?_
                rintro _ Mq ⟨rfl, e_⟩
                subst Mq
                have bv_ := el_I (ml (ad (el k ((wt_ (a : Int))).toNat) (ng (vl ((fitS (k := k) pt_ wt_ a).1) (el k ((pt_ (a : Int))).toNat)))) (iv (vl ((fitS (k := k) pt_ wt_ a).2) (el k ((pt_ (a : Int))).toNat))))
                refine ⟨by show (0 : Nat) ≠ 9; decide, (?_ : Wp 198 _ 271 94 [(1, 161), (0, (i : Int)), (0, ((rcz k tx n).2.2.2 : Int)), (0, (a : Int)), (0, ((ad (el k ((wt_ (a : Int))).toNat) (ng (vl ((fitS (k := k) pt_ wt_ a).1) (el k ((pt_ (a : Int))).toNat)))).val : Int)), (0, ((vl ((fitS (k := k) pt_ wt_ a).2) (el k ((pt_ (a : Int))).toNat)).val : Int))] [(0, ((ml (ad (el k ((wt_ (a : Int))).toNat) (ng (vl ((fitS (k := k) pt_ wt_ a).1) (el k ((pt_ (a : Int))).toNat)))) (iv (vl ((fitS (k := k) pt_ wt_ a).2) (el k ((pt_ (a : Int))).toNat)))).val : Int)), (1, 161)] V558 _)⟩
                refine w_al hK rfl rfl ?_
                refine w_getr (n := 25) (v := 179) hK rfl rfl (by decide) (by decide) rfl rfl rfl rfl ?_
                refine w_call [(1, 161), (0, ((ml (ad (el k ((wt_ (a : Int))).toNat) (ng (vl ((fitS (k := k) pt_ wt_ a).1) (el k ((pt_ (a : Int))).toNat)))) (iv (vl ((fitS (k := k) pt_ wt_ a).2) (el k ((pt_ (a : Int))).toNat)))).val : Int)), (1, 179)] hK rfl rfl rfl rfl (Or.inr ⟨_, _, _, rfl, by decide, (by decide), rfl⟩) (r_scal C558 (ml (ad (el k ((wt_ (a : Int))).toNat) (ng (vl ((fitS (k := k) pt_ wt_ a).1) (el k ((pt_ (a : Int))).toNat)))) (iv (vl ((fitS (k := k) pt_ wt_ a).2) (el k ((pt_ (a : Int))).toNat)))) ⟨(isR_of (p := 179) rfl), f558_0⟩) ?_
                rintro _ V559 ⟨P559, rfl, C559, S559, F559, f559_0⟩
                refine ⟨by decide, (?_ : Wp 198 _ 271 97 [(1, 161), (0, (i : Int)), (0, ((rcz k tx n).2.2.2 : Int)), (0, (a : Int)), (0, ((ad (el k ((wt_ (a : Int))).toNat) (ng (vl ((fitS (k := k) pt_ wt_ a).1) (el k ((pt_ (a : Int))).toNat)))).val : Int)), (0, ((vl ((fitS (k := k) pt_ wt_ a).2) (el k ((pt_ (a : Int))).toNat)).val : Int))] [] V559 _)⟩
                refine w_al hK rfl rfl ?_
                refine w_al hK rfl rfl ?_
                refine w_getr (n := 25) (v := 179) hK rfl rfl (by decide) (by decide) rfl rfl rfl rfl ?_
                refine w_al hK rfl rfl ?_
                refine w_getr (n := 28) (v := 182) hK rfl rfl (by decide) (by decide) rfl rfl rfl rfl ?_
                refine w_call [(1, 161), (1, 179), (1, 182)] hK rfl rfl rfl rfl (Or.inr ⟨_, _, _, rfl, by decide, (by decide), rfl⟩) (r_adds C559 ⟨(isR_of (p := 179) rfl), f559_0⟩ ⟨(isR_of (p := 182) rfl), ((F559 182 (by omega)).trans ((F558 182 (by omega)).trans h182_))⟩ (by omega)) ?_
                rintro _ V560 ⟨P560, rfl, C560, S560, F560, f560_0⟩
                refine ⟨by decide, (?_ : Wp 198 _ 271 103 [(1, 161), (0, (i : Int)), (0, ((rcz k tx n).2.2.2 : Int)), (0, (a : Int)), (0, ((ad (el k ((wt_ (a : Int))).toNat) (ng (vl ((fitS (k := k) pt_ wt_ a).1) (el k ((pt_ (a : Int))).toNat)))).val : Int)), (0, ((vl ((fitS (k := k) pt_ wt_ a).2) (el k ((pt_ (a : Int))).toNat)).val : Int))] [] V560 _)⟩
                refine w_al hK rfl rfl ?_
                refine w_getr (n := 27) (v := 181) hK rfl rfl (by decide) (by decide) rfl rfl rfl rfl ?_
                refine w_call [(1, 181)] hK rfl rfl rfl rfl (Or.inl rfl) (r_clear C560 (isR_of (p := 181) rfl)) ?_
                rintro _ V561 ⟨P561, rfl, C561, S561, F561, f561_0⟩
                refine ⟨by decide, (?_ : Wp 198 _ 271 106 [(1, 161), (0, (i : Int)), (0, ((rcz k tx n).2.2.2 : Int)), (0, (a : Int)), (0, ((ad (el k ((wt_ (a : Int))).toNat) (ng (vl ((fitS (k := k) pt_ wt_ a).1) (el k ((pt_ (a : Int))).toNat)))).val : Int)), (0, ((vl ((fitS (k := k) pt_ wt_ a).2) (el k ((pt_ (a : Int))).toNat)).val : Int))] [] V561 _)⟩
                refine w_al hK rfl rfl ?_
                refine w_getr (n := 27) (v := 181) hK rfl rfl (by decide) (by decide) rfl rfl rfl rfl ?_
                refine w_ic hK rfl ?_
                refine w_ic hK rfl ?_
                refine w_iat hK rfl rfl (by decide) (by decide) (by omega) (by omega) ?_
                refine w_al hK rfl rfl ?_
                refine w_getr (n := 27) (v := 181) hK rfl rfl (by decide) (by decide) rfl rfl rfl rfl ?_
                refine w_ic hK rfl ?_
                refine w_al hK rfl rfl ?_
                refine w_getr (n := 6) (v := 164) hK rfl rfl (by decide) (by decide) rfl rfl rfl rfl ?_
                refine w_al hK rfl rfl ?_
                refine w_al hK rfl rfl ?_
                refine w_al hK rfl rfl ?_
                refine w_il hK rfl rfl ?_
                refine w_ic hK rfl ?_
                refine w_call [(1, 161), (0, ((vl ((fitS (k := k) pt_ wt_ a).2) (el k ((pt_ (a : Int))).toNat)).val : Int)), (0, 1)] hK rfl rfl rfl rfl (Or.inr ⟨_, _, _, rfl, by decide, (by decide), rfl⟩) (r_mapN (RS.up C561 ⟨(isR_of (p := 181) rfl), f561_0⟩ (j := 1) (by omega) (by omega) (e := e1) el1.symm).F (vl ((fitS (k := k) pt_ wt_ a).2) (el k ((pt_ (a : Int))).toNat)) 1 (by omega)) ?_
                rintro _ Mq ⟨rfl, e_⟩
                subst Mq
                have bv_ := el_I (sg 1 (vl ((fitS (k := k) pt_ wt_ a).2) (el k ((pt_ (a : Int))).toNat)))
                refine ⟨by show (0 : Nat) ≠ 9; decide, (?_ : Wp 198 _ 271 122 [(1, 161), (0, (i : Int)), (0, ((rcz k tx n).2.2.2 : Int)), (0, (a : Int)), (0, ((ad (el k ((wt_ (a : Int))).toNat) (ng (vl ((fitS (k := k) pt_ wt_ a).1) (el k ((pt_ (a : Int))).toNat)))).val : Int)), (0, ((vl ((fitS (k := k) pt_ wt_ a).2) (el k ((pt_ (a : Int))).toNat)).val : Int))] [(0, ((sg 1 (vl ((fitS (k := k) pt_ wt_ a).2) (el k ((pt_ (a : Int))).toNat))).val : Int)), (1, 161), (1, 161), (1, 164), (0, 0), (1, 181)] (up V561 181 1 1) _)⟩
                refine w_al hK rfl rfl ?_
                refine w_getr (n := 33) (v := 185) hK rfl rfl (by decide) (by decide) rfl rfl rfl rfl ?_
                refine w_il hK rfl rfl ?_
                refine w_ia hK rfl rfl (by decide) (by decide) (by omega) (by omega) ?_
                rw [show (up V561 181 1 1) 185 (a : Int) = (pt_ (a : Int)) from ((congrFun (up_row (by decide)) (a : Int)).trans ((congrFun (S561 185 (notR rfl)) (a : Int)).trans ((congrFun (S560 185 (notR rfl)) (a : Int)).trans ((congrFun (S559 185 (notR rfl)) (a : Int)).trans ((congrFun (S558 185 (notR rfl)) (a : Int)).trans ((congrFun (hSN42 185 (notR rfl)) (a : Int)).trans ((congrFun (up_row (by decide)) (a : Int)).trans ((congrFun (S556 185 (notR rfl)) (a : Int)).trans ((congrFun (S555 185 (notR rfl)) (a : Int)).trans (congrFun h185_ (a : Int)))))))))))]
                refine w_call [(1, 161), (0, ((sg 1 (vl ((fitS (k := k) pt_ wt_ a).2) (el k ((pt_ (a : Int))).toNat))).val : Int)), (0, (pt_ (a : Int)))] hK rfl rfl rfl rfl (Or.inr ⟨_, _, _, rfl, by decide, (by decide), rfl⟩) (Ct.cv (r_mul (RS.up C561 ⟨(isR_of (p := 181) rfl), f561_0⟩ (j := 1) (by omega) (by omega) (e := e1) el1.symm).F (sg 1 (vl ((fitS (k := k) pt_ wt_ a).2) (el k ((pt_ (a : Int))).toNat))) (el k ((pt_ (a : Int))).toNat)) (by simp only [(elI (k := k) (c := (pt_ (a : Int))) (by omega) (by omega))]; try rfl)) ?_
                rintro _ Mq ⟨rfl, e_⟩
                subst Mq
                have bv_ := el_I (ml (sg 1 (vl ((fitS (k := k) pt_ wt_ a).2) (el k ((pt_ (a : Int))).toNat))) (el k ((pt_ (a : Int))).toNat))
                refine ⟨by show (0 : Nat) ≠ 9; decide, (?_ : Wp 198 _ 271 127 [(1, 161), (0, (i : Int)), (0, ((rcz k tx n).2.2.2 : Int)), (0, (a : Int)), (0, ((ad (el k ((wt_ (a : Int))).toNat) (ng (vl ((fitS (k := k) pt_ wt_ a).1) (el k ((pt_ (a : Int))).toNat)))).val : Int)), (0, ((vl ((fitS (k := k) pt_ wt_ a).2) (el k ((pt_ (a : Int))).toNat)).val : Int))] [(0, ((ml (sg 1 (vl ((fitS (k := k) pt_ wt_ a).2) (el k ((pt_ (a : Int))).toNat))) (el k ((pt_ (a : Int))).toNat)).val : Int)), (1, 161), (1, 164), (0, 0), (1, 181)] (up V561 181 1 1) _)⟩
                refine w_al hK rfl rfl ?_
                refine w_getr (n := 7) (v := 165) hK rfl rfl (by decide) (by decide) rfl rfl rfl rfl ?_
                refine w_il hK rfl rfl ?_
                refine w_ia hK rfl rfl (by decide) (by decide) (by omega) (by omega) ?_
                rw [show (up V561 181 1 1) 165 ((vl ((fitS (k := k) pt_ wt_ a).2) (el k ((pt_ (a : Int))).toNat)).val : Int) = ((iv (vl ((fitS (k := k) pt_ wt_ a).2) (el k ((pt_ (a : Int))).toNat))).val : Int) from (RS.up C561 ⟨(isR_of (p := 181) rfl), f561_0⟩ (j := 1) (by omega) (by omega) (e := e1) el1.symm).F.v (vl ((fitS (k := k) pt_ wt_ a).2) (el k ((pt_ (a : Int))).toNat))]
                refine w_call [(1, 161), (0, ((ml (sg 1 (vl ((fitS (k := k) pt_ wt_ a).2) (el k ((pt_ (a : Int))).toNat))) (el k ((pt_ (a : Int))).toNat)).val : Int)), (0, ((iv (vl ((fitS (k := k) pt_ wt_ a).2) (el k ((pt_ (a : Int))).toNat))).val : Int))] hK rfl rfl rfl rfl (Or.inr ⟨_, _, _, rfl, by decide, (by decide), rfl⟩) (r_mul (RS.up C561 ⟨(isR_of (p := 181) rfl), f561_0⟩ (j := 1) (by omega) (by omega) (e := e1) el1.symm).F (ml (sg 1 (vl ((fitS (k := k) pt_ wt_ a).2) (el k ((pt_ (a : Int))).toNat))) (el k ((pt_ (a : Int))).toNat)) (iv (vl ((fitS (k := k) pt_ wt_ a).2) (el k ((pt_ (a : Int))).toNat)))) ?_
                rintro _ Mq ⟨rfl, e_⟩
                subst Mq
                have bv_ := el_I (ml (ml (sg 1 (vl ((fitS (k := k) pt_ wt_ a).2) (el k ((pt_ (a : Int))).toNat))) (el k ((pt_ (a : Int))).toNat)) (iv (vl ((fitS (k := k) pt_ wt_ a).2) (el k ((pt_ (a : Int))).toNat))))
                refine ⟨by show (0 : Nat) ≠ 9; decide, (?_ : Wp 198 _ 271 132 [(1, 161), (0, (i : Int)), (0, ((rcz k tx n).2.2.2 : Int)), (0, (a : Int)), (0, ((ad (el k ((wt_ (a : Int))).toNat) (ng (vl ((fitS (k := k) pt_ wt_ a).1) (el k ((pt_ (a : Int))).toNat)))).val : Int)), (0, ((vl ((fitS (k := k) pt_ wt_ a).2) (el k ((pt_ (a : Int))).toNat)).val : Int))] [(0, ((ml (ml (sg 1 (vl ((fitS (k := k) pt_ wt_ a).2) (el k ((pt_ (a : Int))).toNat))) (el k ((pt_ (a : Int))).toNat)) (iv (vl ((fitS (k := k) pt_ wt_ a).2) (el k ((pt_ (a : Int))).toNat)))).val : Int)), (1, 164), (0, 0), (1, 181)] (up V561 181 1 1) _)⟩
                refine w_ia hK rfl rfl (by decide) (by decide) (by omega) (by omega) ?_
                rw [show (up V561 181 1 1) 164 ((ml (ml (sg 1 (vl ((fitS (k := k) pt_ wt_ a).2) (el k ((pt_ (a : Int))).toNat))) (el k ((pt_ (a : Int))).toNat)) (iv (vl ((fitS (k := k) pt_ wt_ a).2) (el k ((pt_ (a : Int))).toNat)))).val : Int) = ((ng (ml (ml (sg 1 (vl ((fitS (k := k) pt_ wt_ a).2) (el k ((pt_ (a : Int))).toNat))) (el k ((pt_ (a : Int))).toNat)) (iv (vl ((fitS (k := k) pt_ wt_ a).2) (el k ((pt_ (a : Int))).toNat))))).val : Int) from (RS.up C561 ⟨(isR_of (p := 181) rfl), f561_0⟩ (j := 1) (by omega) (by omega) (e := e1) el1.symm).F.n (ml (ml (sg 1 (vl ((fitS (k := k) pt_ wt_ a).2) (el k ((pt_ (a : Int))).toNat))) (el k ((pt_ (a : Int))).toNat)) (iv (vl ((fitS (k := k) pt_ wt_ a).2) (el k ((pt_ (a : Int))).toNat))))]
                refine w_iat hK rfl rfl (by decide) (by decide) (by omega) (by omega) ?_
                have ld_ : dg (up1 (up1 pz 1 e1) 0 (ng (ml (ml (sg 1 (vl (fitS (k := k) pt_ wt_ a).2 (el k (pt_ (a : Int)).toNat))) (el k (pt_ (a : Int)).toNat)) (iv (vl (fitS (k := k) pt_ wt_ a).2 (el k (pt_ (a : Int)).toNat)))))) = 1 := lin_dg _
                refine w_al hK rfl rfl ?_
                refine w_al hK rfl rfl ?_
                refine w_getr (n := 27) (v := 181) hK rfl rfl (by decide) (by decide) rfl rfl rfl rfl ?_
                refine w_al hK rfl rfl ?_
                refine w_getr (n := 26) (v := 180) hK rfl rfl (by decide) (by decide) rfl rfl rfl rfl ?_
                refine w_al hK rfl rfl ?_
                refine w_getr (n := 26) (v := 180) hK rfl rfl (by decide) (by decide) rfl rfl rfl rfl ?_
                refine w_call [(1, 161), (1, 181), (1, 180), (1, 180)] hK rfl rfl rfl rfl (Or.inr ⟨_, _, _, rfl, by decide, (by decide), rfl⟩) (r_prod (RS.up (RS.up C561 ⟨(isR_of (p := 181) rfl), f561_0⟩ (j := 1) (by omega) (by omega) (e := e1) el1.symm) ⟨(isR_of (p := 181) rfl), pu_eq⟩ (j := 0) (by omega) (by omega) (e := (ng (ml (ml (sg 1 (vl ((fitS (k := k) pt_ wt_ a).2) (el k ((pt_ (a : Int))).toNat))) (el k ((pt_ (a : Int))).toNat)) (iv (vl ((fitS (k := k) pt_ wt_ a).2) (el k ((pt_ (a : Int))).toNat)))))) rfl) ⟨(isR_of (p := 181) rfl), pu_eq⟩ ⟨(isR_of (p := 180) rfl), ((pu_ne (P := pu P561 181 (up1 pz 1 e1)) (f := up1 (up1 pz 1 e1) 0 (ng (ml (ml (sg 1 (vl ((fitS (k := k) pt_ wt_ a).2) (el k ((pt_ (a : Int))).toNat))) (el k ((pt_ (a : Int))).toNat)) (iv (vl ((fitS (k := k) pt_ wt_ a).2) (el k ((pt_ (a : Int))).toNat)))))) (show 180 ≠ 181 by omega)).trans ((pu_ne (P := P561) (f := up1 pz 1 e1) (show 180 ≠ 181 by omega)).trans ((F561 180 (by omega)).trans ((F560 180 (by omega)).trans ((F559 180 (by omega)).trans ((F558 180 (by omega)).trans h180_))))))⟩ (isR_of (p := 180) rfl) (by omega) (by omega) (by omega) (by omega)) ?_
                rintro _ V562 ⟨P562, rfl, C562, S562, F562, f562_0⟩
                refine ⟨by decide, (?_ : Wp 198 _ 271 142 [(1, 161), (0, (i : Int)), (0, ((rcz k tx n).2.2.2 : Int)), (0, (a : Int)), (0, ((ad (el k ((wt_ (a : Int))).toNat) (ng (vl ((fitS (k := k) pt_ wt_ a).1) (el k ((pt_ (a : Int))).toNat)))).val : Int)), (0, ((vl ((fitS (k := k) pt_ wt_ a).2) (el k ((pt_ (a : Int))).toNat)).val : Int))] [] V562 _)⟩
                refine w_inc [(1, 161), (0, (i : Int)), (0, ((rcz k tx n).2.2.2 : Int)), (0, ((a : Int) + 1)), (0, ((ad (el k ((wt_ (a : Int))).toNat) (ng (vl ((fitS (k := k) pt_ wt_ a).1) (el k ((pt_ (a : Int))).toNat)))).val : Int)), (0, ((vl ((fitS (k := k) pt_ wt_ a).2) (el k ((pt_ (a : Int))).toNat)).val : Int))] hK rfl rfl rfl (by omega) (by omega) rfl ?_
                refine w_goto hK rfl ?_
                have ef_ := fitS_1 (k := k) (pt := pt_) (wt := wt_) (n := a) (fun q_ => by rw [q_, z0_val] at h79; exact h79 rfl)
                exact ih42 _ (by omega) (a + 1) (0, ((ad (el k ((wt_ (a : Int))).toNat) (ng (vl ((fitS (k := k) pt_ wt_ a).1) (el k ((pt_ (a : Int))).toNat)))).val : Int)) (0, ((vl ((fitS (k := k) pt_ wt_ a).2) (el k ((pt_ (a : Int))).toNat)).val : Int)) _ V562 rfl (by omega) (fun i_ hi_ => by
                  by_cases q_ : i_ = a
                  · rw [q_]; exact fun q_ => absurd q_ (fun q_ => by rw [q_, z0_val] at h79; exact h79 rfl)
                  · exact hok2_ i_ (by omega)) C562 (((F562 182 (by omega) (by omega)).trans ((pu_ne (P := pu P561 181 (up1 pz 1 e1)) (f := up1 (up1 pz 1 e1) 0 (ng (ml (ml (sg 1 (vl ((fitS (k := k) pt_ wt_ a).2) (el k ((pt_ (a : Int))).toNat))) (el k ((pt_ (a : Int))).toNat)) (iv (vl ((fitS (k := k) pt_ wt_ a).2) (el k ((pt_ (a : Int))).toNat)))))) (show 182 ≠ 181 by omega)).trans ((pu_ne (P := P561) (f := up1 pz 1 e1) (show 182 ≠ 181 by omega)).trans ((F561 182 (by omega)).trans f560_0))))) ((f562_0).trans (congrArg some ef_.symm)) (fun p pn170_ pn179_ pn180_ pn181_ pn182_ => ((F562 p pn170_ pn180_).trans ((pu_ne (P := pu P561 181 (up1 pz 1 e1)) (f := up1 (up1 pz 1 e1) 0 (ng (ml (ml (sg 1 (vl ((fitS (k := k) pt_ wt_ a).2) (el k ((pt_ (a : Int))).toNat))) (el k ((pt_ (a : Int))).toNat)) (iv (vl ((fitS (k := k) pt_ wt_ a).2) (el k ((pt_ (a : Int))).toNat)))))) (show p ≠ 181 by omega)).trans ((pu_ne (P := P561) (f := up1 pz 1 e1) (show p ≠ 181 by omega)).trans ((F561 p pn181_).trans ((F560 p pn182_).trans ((F559 p pn179_).trans ((F558 p pn179_).trans (hGR1 p pn170_ pn179_ pn180_ pn181_ pn182_))))))))) (fun a nr_ => ((S562 a nr_).trans ((up_row (nr_ 181 (isR_of (p := 181) rfl))).trans ((up_row (nr_ 181 (isR_of (p := 181) rfl))).trans ((S561 a nr_).trans ((S560 a nr_).trans ((S559 a nr_).trans ((S558 a nr_).trans (hSN42 a nr_)))))))))
              · refine w_goto hK rfl ?_
                refine w_inc [(1, 161), (0, (i : Int)), (0, ((rcz k tx n).2.2.2 : Int)), (0, ((a : Int) + 1)), (0, ((ad (el k ((wt_ (a : Int))).toNat) (ng (vl ((fitS (k := k) pt_ wt_ a).1) (el k ((pt_ (a : Int))).toNat)))).val : Int)), (0, ((vl ((fitS (k := k) pt_ wt_ a).2) (el k ((pt_ (a : Int))).toNat)).val : Int))] hK rfl rfl rfl (by omega) (by omega) rfl ?_
                refine w_goto hK rfl ?_
                have ef_ := fitS_0 (k := k) (pt := pt_) (wt := wt_) (n := a) (z0_iff.mpr (by omega)) (z0_iff.mpr (by omega))
                exact ih42 _ (by omega) (a + 1) (0, ((ad (el k ((wt_ (a : Int))).toNat) (ng (vl ((fitS (k := k) pt_ wt_ a).1) (el k ((pt_ (a : Int))).toNat)))).val : Int)) (0, ((vl ((fitS (k := k) pt_ wt_ a).2) (el k ((pt_ (a : Int))).toNat)).val : Int)) _ N42 rfl (by omega) (fun i_ hi_ => by
                  by_cases q_ : i_ = a
                  · rw [q_]; exact fun _ => z0_iff.mpr (by omega)
                  · exact hok2_ i_ (by omega)) hCR1 (h182_.trans (congrArg (fun t : Pl k × Pl k => some t.1) ef_.symm)) (h180_.trans (congrArg (fun t : Pl k × Pl k => some t.2) ef_.symm)) (fun p pn170_ pn179_ pn180_ pn181_ pn182_ => (hGR1 p pn170_ pn179_ pn180_ pn181_ pn182_)) (fun a nr_ => (hSN42 a nr_))
            · refine w_il hK rfl rfl ?_
              refine w_eq hK rfl (by omega) (by omega) (fun h75 => ?_) (fun h75 => ?_)
              · refine w_il hK rfl rfl ?_
                refine w_ne hK rfl (by omega) (by omega) (fun h79 => ?_) (fun h79 => ?_)
                · refine w_al hK rfl rfl ?_
                  refine w_getr (n := 26) (v := 180) hK rfl rfl (by decide) (by decide) rfl rfl rfl rfl ?_
                  refine w_al hK rfl rfl ?_
                  refine w_getr (n := 25) (v := 179) hK rfl rfl (by decide) (by decide) rfl rfl rfl rfl ?_
                  refine w_call [(1, 180), (1, 179)] hK rfl rfl rfl rfl (Or.inl rfl) (r_copy hCR1 ⟨(isR_of (p := 180) rfl), h180_⟩ (isR_of (p := 179) rfl) (by omega)) ?_
                  rintro _ V563 ⟨P563, rfl, C563, S563, F563, f563_0⟩
                  refine ⟨by decide, (?_ : Wp 198 _ 271 86 [(1, 161), (0, (i : Int)), (0, ((rcz k tx n).2.2.2 : Int)), (0, (a : Int)), (0, ((ad (el k ((wt_ (a : Int))).toNat) (ng (vl ((fitS (k := k) pt_ wt_ a).1) (el k ((pt_ (a : Int))).toNat)))).val : Int)), (0, ((vl ((fitS (k := k) pt_ wt_ a).2) (el k ((pt_ (a : Int))).toNat)).val : Int))] [] V563 _)⟩
                  refine w_al hK rfl rfl ?_
                  refine w_al hK rfl rfl ?_
                  refine w_il hK rfl rfl ?_
                  refine w_al hK rfl rfl ?_
                  refine w_getr (n := 7) (v := 165) hK rfl rfl (by decide) (by decide) rfl rfl rfl rfl ?_
                  refine w_il hK rfl rfl ?_
                  refine w_ia hK rfl rfl (by decide) (by decide) (by omega) (by omega) ?_
                  rw [show V563 165 ((vl ((fitS (k := k) pt_ wt_ a).2) (el k ((pt_ (a : Int))).toNat)).val : Int) = ((iv (vl ((fitS (k := k) pt_ wt_ a).2) (el k ((pt_ (a : Int))).toNat))).val : Int) from C563.F.v (vl ((fitS (k := k) pt_ wt_ a).2) (el k ((pt_ (a : Int))).toNat))]
                  refine w_call [(1, 161), (0, ((ad (el k ((wt_ (a : Int))).toNat) (ng (vl ((fitS (k := k) pt_ wt_ a).1) (el k ((pt_ (a : Int))).toNat)))).val : Int)), (0, ((iv (vl ((fitS (k := k) pt_ wt_ a).2) (el k ((pt_ (a : Int))).toNat))).val : Int))] hK rfl rfl rfl rfl (Or.inr ⟨_, _, _, rfl, by decide, (by decide), rfl⟩) (r_mul C563.F (ad (el k ((wt_ (a : Int))).toNat) (ng (vl ((fitS (k := k) pt_ wt_ a).1) (el k ((pt_ (a : Int))).toNat)))) (iv (vl ((fitS (k := k) pt_ wt_ a).2) (el k ((pt_ (a : Int))).toNat)))) ?_
                  rintro _ Mq ⟨rfl, e_⟩
                  subst Mq
                  have bv_ := el_I (ml (ad (el k ((wt_ (a : Int))).toNat) (ng (vl ((fitS (k := k) pt_ wt_ a).1) (el k ((pt_ (a : Int))).toNat)))) (iv (vl ((fitS (k := k) pt_ wt_ a).2) (el k ((pt_ (a : Int))).toNat))))
                  refine ⟨by show (0 : Nat) ≠ 9; decide, (?_ : Wp 198 _ 271 94 [(1, 161), (0, (i : Int)), (0, ((rcz k tx n).2.2.2 : Int)), (0, (a : Int)), (0, ((ad (el k ((wt_ (a : Int))).toNat) (ng (vl ((fitS (k := k) pt_ wt_ a).1) (el k ((pt_ (a : Int))).toNat)))).val : Int)), (0, ((vl ((fitS (k := k) pt_ wt_ a).2) (el k ((pt_ (a : Int))).toNat)).val : Int))] [(0, ((ml (ad (el k ((wt_ (a : Int))).toNat) (ng (vl ((fitS (k := k) pt_ wt_ a).1) (el k ((pt_ (a : Int))).toNat)))) (iv (vl ((fitS (k := k) pt_ wt_ a).2) (el k ((pt_ (a : Int))).toNat)))).val : Int)), (1, 161)] V563 _)⟩
                  refine w_al hK rfl rfl ?_
                  refine w_getr (n := 25) (v := 179) hK rfl rfl (by decide) (by decide) rfl rfl rfl rfl ?_
                  refine w_call [(1, 161), (0, ((ml (ad (el k ((wt_ (a : Int))).toNat) (ng (vl ((fitS (k := k) pt_ wt_ a).1) (el k ((pt_ (a : Int))).toNat)))) (iv (vl ((fitS (k := k) pt_ wt_ a).2) (el k ((pt_ (a : Int))).toNat)))).val : Int)), (1, 179)] hK rfl rfl rfl rfl (Or.inr ⟨_, _, _, rfl, by decide, (by decide), rfl⟩) (r_scal C563 (ml (ad (el k ((wt_ (a : Int))).toNat) (ng (vl ((fitS (k := k) pt_ wt_ a).1) (el k ((pt_ (a : Int))).toNat)))) (iv (vl ((fitS (k := k) pt_ wt_ a).2) (el k ((pt_ (a : Int))).toNat)))) ⟨(isR_of (p := 179) rfl), f563_0⟩) ?_
                  rintro _ V564 ⟨P564, rfl, C564, S564, F564, f564_0⟩
                  refine ⟨by decide, (?_ : Wp 198 _ 271 97 [(1, 161), (0, (i : Int)), (0, ((rcz k tx n).2.2.2 : Int)), (0, (a : Int)), (0, ((ad (el k ((wt_ (a : Int))).toNat) (ng (vl ((fitS (k := k) pt_ wt_ a).1) (el k ((pt_ (a : Int))).toNat)))).val : Int)), (0, ((vl ((fitS (k := k) pt_ wt_ a).2) (el k ((pt_ (a : Int))).toNat)).val : Int))] [] V564 _)⟩
                  refine w_al hK rfl rfl ?_
                  refine w_al hK rfl rfl ?_
                  refine w_getr (n := 25) (v := 179) hK rfl rfl (by decide) (by decide) rfl rfl rfl rfl ?_
                  refine w_al hK rfl rfl ?_
                  refine w_getr (n := 28) (v := 182) hK rfl rfl (by decide) (by decide) rfl rfl rfl rfl ?_
                  refine w_call [(1, 161), (1, 179), (1, 182)] hK rfl rfl rfl rfl (Or.inr ⟨_, _, _, rfl, by decide, (by decide), rfl⟩) (r_adds C564 ⟨(isR_of (p := 179) rfl), f564_0⟩ ⟨(isR_of (p := 182) rfl), ((F564 182 (by omega)).trans ((F563 182 (by omega)).trans h182_))⟩ (by omega)) ?_
                  rintro _ V565 ⟨P565, rfl, C565, S565, F565, f565_0⟩
                  refine ⟨by decide, (?_ : Wp 198 _ 271 103 [(1, 161), (0, (i : Int)), (0, ((rcz k tx n).2.2.2 : Int)), (0, (a : Int)), (0, ((ad (el k ((wt_ (a : Int))).toNat) (ng (vl ((fitS (k := k) pt_ wt_ a).1) (el k ((pt_ (a : Int))).toNat)))).val : Int)), (0, ((vl ((fitS (k := k) pt_ wt_ a).2) (el k ((pt_ (a : Int))).toNat)).val : Int))] [] V565 _)⟩
                  refine w_al hK rfl rfl ?_
                  refine w_getr (n := 27) (v := 181) hK rfl rfl (by decide) (by decide) rfl rfl rfl rfl ?_
                  refine w_call [(1, 181)] hK rfl rfl rfl rfl (Or.inl rfl) (r_clear C565 (isR_of (p := 181) rfl)) ?_
                  rintro _ V566 ⟨P566, rfl, C566, S566, F566, f566_0⟩
                  refine ⟨by decide, (?_ : Wp 198 _ 271 106 [(1, 161), (0, (i : Int)), (0, ((rcz k tx n).2.2.2 : Int)), (0, (a : Int)), (0, ((ad (el k ((wt_ (a : Int))).toNat) (ng (vl ((fitS (k := k) pt_ wt_ a).1) (el k ((pt_ (a : Int))).toNat)))).val : Int)), (0, ((vl ((fitS (k := k) pt_ wt_ a).2) (el k ((pt_ (a : Int))).toNat)).val : Int))] [] V566 _)⟩
                  refine w_al hK rfl rfl ?_
                  refine w_getr (n := 27) (v := 181) hK rfl rfl (by decide) (by decide) rfl rfl rfl rfl ?_
                  refine w_ic hK rfl ?_
                  refine w_ic hK rfl ?_
                  refine w_iat hK rfl rfl (by decide) (by decide) (by omega) (by omega) ?_
                  refine w_al hK rfl rfl ?_
                  refine w_getr (n := 27) (v := 181) hK rfl rfl (by decide) (by decide) rfl rfl rfl rfl ?_
                  refine w_ic hK rfl ?_
                  refine w_al hK rfl rfl ?_
                  refine w_getr (n := 6) (v := 164) hK rfl rfl (by decide) (by decide) rfl rfl rfl rfl ?_
                  refine w_al hK rfl rfl ?_
                  refine w_al hK rfl rfl ?_
                  refine w_al hK rfl rfl ?_
                  refine w_il hK rfl rfl ?_
                  refine w_ic hK rfl ?_
                  refine w_call [(1, 161), (0, ((vl ((fitS (k := k) pt_ wt_ a).2) (el k ((pt_ (a : Int))).toNat)).val : Int)), (0, 1)] hK rfl rfl rfl rfl (Or.inr ⟨_, _, _, rfl, by decide, (by decide), rfl⟩) (r_mapN (RS.up C566 ⟨(isR_of (p := 181) rfl), f566_0⟩ (j := 1) (by omega) (by omega) (e := e1) el1.symm).F (vl ((fitS (k := k) pt_ wt_ a).2) (el k ((pt_ (a : Int))).toNat)) 1 (by omega)) ?_
                  rintro _ Mq ⟨rfl, e_⟩
                  subst Mq
                  have bv_ := el_I (sg 1 (vl ((fitS (k := k) pt_ wt_ a).2) (el k ((pt_ (a : Int))).toNat)))
                  refine ⟨by show (0 : Nat) ≠ 9; decide, (?_ : Wp 198 _ 271 122 [(1, 161), (0, (i : Int)), (0, ((rcz k tx n).2.2.2 : Int)), (0, (a : Int)), (0, ((ad (el k ((wt_ (a : Int))).toNat) (ng (vl ((fitS (k := k) pt_ wt_ a).1) (el k ((pt_ (a : Int))).toNat)))).val : Int)), (0, ((vl ((fitS (k := k) pt_ wt_ a).2) (el k ((pt_ (a : Int))).toNat)).val : Int))] [(0, ((sg 1 (vl ((fitS (k := k) pt_ wt_ a).2) (el k ((pt_ (a : Int))).toNat))).val : Int)), (1, 161), (1, 161), (1, 164), (0, 0), (1, 181)] (up V566 181 1 1) _)⟩
                  refine w_al hK rfl rfl ?_
                  refine w_getr (n := 33) (v := 185) hK rfl rfl (by decide) (by decide) rfl rfl rfl rfl ?_
                  refine w_il hK rfl rfl ?_
                  refine w_ia hK rfl rfl (by decide) (by decide) (by omega) (by omega) ?_
                  rw [show (up V566 181 1 1) 185 (a : Int) = (pt_ (a : Int)) from ((congrFun (up_row (by decide)) (a : Int)).trans ((congrFun (S566 185 (notR rfl)) (a : Int)).trans ((congrFun (S565 185 (notR rfl)) (a : Int)).trans ((congrFun (S564 185 (notR rfl)) (a : Int)).trans ((congrFun (S563 185 (notR rfl)) (a : Int)).trans ((congrFun (hSN42 185 (notR rfl)) (a : Int)).trans ((congrFun (up_row (by decide)) (a : Int)).trans ((congrFun (S556 185 (notR rfl)) (a : Int)).trans ((congrFun (S555 185 (notR rfl)) (a : Int)).trans (congrFun h185_ (a : Int)))))))))))]
                  refine w_call [(1, 161), (0, ((sg 1 (vl ((fitS (k := k) pt_ wt_ a).2) (el k ((pt_ (a : Int))).toNat))).val : Int)), (0, (pt_ (a : Int)))] hK rfl rfl rfl rfl (Or.inr ⟨_, _, _, rfl, by decide, (by decide), rfl⟩) (Ct.cv (r_mul (RS.up C566 ⟨(isR_of (p := 181) rfl), f566_0⟩ (j := 1) (by omega) (by omega) (e := e1) el1.symm).F (sg 1 (vl ((fitS (k := k) pt_ wt_ a).2) (el k ((pt_ (a : Int))).toNat))) (el k ((pt_ (a : Int))).toNat)) (by simp only [(elI (k := k) (c := (pt_ (a : Int))) (by omega) (by omega))]; try rfl)) ?_
                  rintro _ Mq ⟨rfl, e_⟩
                  subst Mq
                  have bv_ := el_I (ml (sg 1 (vl ((fitS (k := k) pt_ wt_ a).2) (el k ((pt_ (a : Int))).toNat))) (el k ((pt_ (a : Int))).toNat))
                  refine ⟨by show (0 : Nat) ≠ 9; decide, (?_ : Wp 198 _ 271 127 [(1, 161), (0, (i : Int)), (0, ((rcz k tx n).2.2.2 : Int)), (0, (a : Int)), (0, ((ad (el k ((wt_ (a : Int))).toNat) (ng (vl ((fitS (k := k) pt_ wt_ a).1) (el k ((pt_ (a : Int))).toNat)))).val : Int)), (0, ((vl ((fitS (k := k) pt_ wt_ a).2) (el k ((pt_ (a : Int))).toNat)).val : Int))] [(0, ((ml (sg 1 (vl ((fitS (k := k) pt_ wt_ a).2) (el k ((pt_ (a : Int))).toNat))) (el k ((pt_ (a : Int))).toNat)).val : Int)), (1, 161), (1, 164), (0, 0), (1, 181)] (up V566 181 1 1) _)⟩
                  refine w_al hK rfl rfl ?_
                  refine w_getr (n := 7) (v := 165) hK rfl rfl (by decide) (by decide) rfl rfl rfl rfl ?_
                  refine w_il hK rfl rfl ?_
                  refine w_ia hK rfl rfl (by decide) (by decide) (by omega) (by omega) ?_
                  rw [show (up V566 181 1 1) 165 ((vl ((fitS (k := k) pt_ wt_ a).2) (el k ((pt_ (a : Int))).toNat)).val : Int) = ((iv (vl ((fitS (k := k) pt_ wt_ a).2) (el k ((pt_ (a : Int))).toNat))).val : Int) from (RS.up C566 ⟨(isR_of (p := 181) rfl), f566_0⟩ (j := 1) (by omega) (by omega) (e := e1) el1.symm).F.v (vl ((fitS (k := k) pt_ wt_ a).2) (el k ((pt_ (a : Int))).toNat))]
                  refine w_call [(1, 161), (0, ((ml (sg 1 (vl ((fitS (k := k) pt_ wt_ a).2) (el k ((pt_ (a : Int))).toNat))) (el k ((pt_ (a : Int))).toNat)).val : Int)), (0, ((iv (vl ((fitS (k := k) pt_ wt_ a).2) (el k ((pt_ (a : Int))).toNat))).val : Int))] hK rfl rfl rfl rfl (Or.inr ⟨_, _, _, rfl, by decide, (by decide), rfl⟩) (r_mul (RS.up C566 ⟨(isR_of (p := 181) rfl), f566_0⟩ (j := 1) (by omega) (by omega) (e := e1) el1.symm).F (ml (sg 1 (vl ((fitS (k := k) pt_ wt_ a).2) (el k ((pt_ (a : Int))).toNat))) (el k ((pt_ (a : Int))).toNat)) (iv (vl ((fitS (k := k) pt_ wt_ a).2) (el k ((pt_ (a : Int))).toNat)))) ?_
                  rintro _ Mq ⟨rfl, e_⟩
                  subst Mq
                  have bv_ := el_I (ml (ml (sg 1 (vl ((fitS (k := k) pt_ wt_ a).2) (el k ((pt_ (a : Int))).toNat))) (el k ((pt_ (a : Int))).toNat)) (iv (vl ((fitS (k := k) pt_ wt_ a).2) (el k ((pt_ (a : Int))).toNat))))
                  refine ⟨by show (0 : Nat) ≠ 9; decide, (?_ : Wp 198 _ 271 132 [(1, 161), (0, (i : Int)), (0, ((rcz k tx n).2.2.2 : Int)), (0, (a : Int)), (0, ((ad (el k ((wt_ (a : Int))).toNat) (ng (vl ((fitS (k := k) pt_ wt_ a).1) (el k ((pt_ (a : Int))).toNat)))).val : Int)), (0, ((vl ((fitS (k := k) pt_ wt_ a).2) (el k ((pt_ (a : Int))).toNat)).val : Int))] [(0, ((ml (ml (sg 1 (vl ((fitS (k := k) pt_ wt_ a).2) (el k ((pt_ (a : Int))).toNat))) (el k ((pt_ (a : Int))).toNat)) (iv (vl ((fitS (k := k) pt_ wt_ a).2) (el k ((pt_ (a : Int))).toNat)))).val : Int)), (1, 164), (0, 0), (1, 181)] (up V566 181 1 1) _)⟩
                  refine w_ia hK rfl rfl (by decide) (by decide) (by omega) (by omega) ?_
                  rw [show (up V566 181 1 1) 164 ((ml (ml (sg 1 (vl ((fitS (k := k) pt_ wt_ a).2) (el k ((pt_ (a : Int))).toNat))) (el k ((pt_ (a : Int))).toNat)) (iv (vl ((fitS (k := k) pt_ wt_ a).2) (el k ((pt_ (a : Int))).toNat)))).val : Int) = ((ng (ml (ml (sg 1 (vl ((fitS (k := k) pt_ wt_ a).2) (el k ((pt_ (a : Int))).toNat))) (el k ((pt_ (a : Int))).toNat)) (iv (vl ((fitS (k := k) pt_ wt_ a).2) (el k ((pt_ (a : Int))).toNat))))).val : Int) from (RS.up C566 ⟨(isR_of (p := 181) rfl), f566_0⟩ (j := 1) (by omega) (by omega) (e := e1) el1.symm).F.n (ml (ml (sg 1 (vl ((fitS (k := k) pt_ wt_ a).2) (el k ((pt_ (a : Int))).toNat))) (el k ((pt_ (a : Int))).toNat)) (iv (vl ((fitS (k := k) pt_ wt_ a).2) (el k ((pt_ (a : Int))).toNat))))]
                  refine w_iat hK rfl rfl (by decide) (by decide) (by omega) (by omega) ?_
                  have ld_ : dg (up1 (up1 pz 1 e1) 0 (ng (ml (ml (sg 1 (vl (fitS (k := k) pt_ wt_ a).2 (el k (pt_ (a : Int)).toNat))) (el k (pt_ (a : Int)).toNat)) (iv (vl (fitS (k := k) pt_ wt_ a).2 (el k (pt_ (a : Int)).toNat)))))) = 1 := lin_dg _
                  refine w_al hK rfl rfl ?_
                  refine w_al hK rfl rfl ?_
                  refine w_getr (n := 27) (v := 181) hK rfl rfl (by decide) (by decide) rfl rfl rfl rfl ?_
                  refine w_al hK rfl rfl ?_
                  refine w_getr (n := 26) (v := 180) hK rfl rfl (by decide) (by decide) rfl rfl rfl rfl ?_
                  refine w_al hK rfl rfl ?_
                  refine w_getr (n := 26) (v := 180) hK rfl rfl (by decide) (by decide) rfl rfl rfl rfl ?_
                  refine w_call [(1, 161), (1, 181), (1, 180), (1, 180)] hK rfl rfl rfl rfl (Or.inr ⟨_, _, _, rfl, by decide, (by decide), rfl⟩) (r_prod (RS.up (RS.up C566 ⟨(isR_of (p := 181) rfl), f566_0⟩ (j := 1) (by omega) (by omega) (e := e1) el1.symm) ⟨(isR_of (p := 181) rfl), pu_eq⟩ (j := 0) (by omega) (by omega) (e := (ng (ml (ml (sg 1 (vl ((fitS (k := k) pt_ wt_ a).2) (el k ((pt_ (a : Int))).toNat))) (el k ((pt_ (a : Int))).toNat)) (iv (vl ((fitS (k := k) pt_ wt_ a).2) (el k ((pt_ (a : Int))).toNat)))))) rfl) ⟨(isR_of (p := 181) rfl), pu_eq⟩ ⟨(isR_of (p := 180) rfl), ((pu_ne (P := pu P566 181 (up1 pz 1 e1)) (f := up1 (up1 pz 1 e1) 0 (ng (ml (ml (sg 1 (vl ((fitS (k := k) pt_ wt_ a).2) (el k ((pt_ (a : Int))).toNat))) (el k ((pt_ (a : Int))).toNat)) (iv (vl ((fitS (k := k) pt_ wt_ a).2) (el k ((pt_ (a : Int))).toNat)))))) (show 180 ≠ 181 by omega)).trans ((pu_ne (P := P566) (f := up1 pz 1 e1) (show 180 ≠ 181 by omega)).trans ((F566 180 (by omega)).trans ((F565 180 (by omega)).trans ((F564 180 (by omega)).trans ((F563 180 (by omega)).trans h180_))))))⟩ (isR_of (p := 180) rfl) (by omega) (by omega) (by omega) (by omega)) ?_
                  rintro _ V567 ⟨P567, rfl, C567, S567, F567, f567_0⟩
                  refine ⟨by decide, (?_ : Wp 198 _ 271 142 [(1, 161), (0, (i : Int)), (0, ((rcz k tx n).2.2.2 : Int)), (0, (a : Int)), (0, ((ad (el k ((wt_ (a : Int))).toNat) (ng (vl ((fitS (k := k) pt_ wt_ a).1) (el k ((pt_ (a : Int))).toNat)))).val : Int)), (0, ((vl ((fitS (k := k) pt_ wt_ a).2) (el k ((pt_ (a : Int))).toNat)).val : Int))] [] V567 _)⟩
                  refine w_inc [(1, 161), (0, (i : Int)), (0, ((rcz k tx n).2.2.2 : Int)), (0, ((a : Int) + 1)), (0, ((ad (el k ((wt_ (a : Int))).toNat) (ng (vl ((fitS (k := k) pt_ wt_ a).1) (el k ((pt_ (a : Int))).toNat)))).val : Int)), (0, ((vl ((fitS (k := k) pt_ wt_ a).2) (el k ((pt_ (a : Int))).toNat)).val : Int))] hK rfl rfl rfl (by omega) (by omega) rfl ?_
                  refine w_goto hK rfl ?_
                  have ef_ := fitS_1 (k := k) (pt := pt_) (wt := wt_) (n := a) (fun q_ => by rw [q_, z0_val] at h79; exact h79 rfl)
                  exact ih42 _ (by omega) (a + 1) (0, ((ad (el k ((wt_ (a : Int))).toNat) (ng (vl ((fitS (k := k) pt_ wt_ a).1) (el k ((pt_ (a : Int))).toNat)))).val : Int)) (0, ((vl ((fitS (k := k) pt_ wt_ a).2) (el k ((pt_ (a : Int))).toNat)).val : Int)) _ V567 rfl (by omega) (fun i_ hi_ => by
                    by_cases q_ : i_ = a
                    · rw [q_]; exact fun q_ => absurd q_ (fun q_ => by rw [q_, z0_val] at h79; exact h79 rfl)
                    · exact hok2_ i_ (by omega)) C567 (((F567 182 (by omega) (by omega)).trans ((pu_ne (P := pu P566 181 (up1 pz 1 e1)) (f := up1 (up1 pz 1 e1) 0 (ng (ml (ml (sg 1 (vl ((fitS (k := k) pt_ wt_ a).2) (el k ((pt_ (a : Int))).toNat))) (el k ((pt_ (a : Int))).toNat)) (iv (vl ((fitS (k := k) pt_ wt_ a).2) (el k ((pt_ (a : Int))).toNat)))))) (show 182 ≠ 181 by omega)).trans ((pu_ne (P := P566) (f := up1 pz 1 e1) (show 182 ≠ 181 by omega)).trans ((F566 182 (by omega)).trans f565_0))))) ((f567_0).trans (congrArg some ef_.symm)) (fun p pn170_ pn179_ pn180_ pn181_ pn182_ => ((F567 p pn170_ pn180_).trans ((pu_ne (P := pu P566 181 (up1 pz 1 e1)) (f := up1 (up1 pz 1 e1) 0 (ng (ml (ml (sg 1 (vl ((fitS (k := k) pt_ wt_ a).2) (el k ((pt_ (a : Int))).toNat))) (el k ((pt_ (a : Int))).toNat)) (iv (vl ((fitS (k := k) pt_ wt_ a).2) (el k ((pt_ (a : Int))).toNat)))))) (show p ≠ 181 by omega)).trans ((pu_ne (P := P566) (f := up1 pz 1 e1) (show p ≠ 181 by omega)).trans ((F566 p pn181_).trans ((F565 p pn182_).trans ((F564 p pn179_).trans ((F563 p pn179_).trans (hGR1 p pn170_ pn179_ pn180_ pn181_ pn182_))))))))) (fun a nr_ => ((S567 a nr_).trans ((up_row (nr_ 181 (isR_of (p := 181) rfl))).trans ((up_row (nr_ 181 (isR_of (p := 181) rfl))).trans ((S566 a nr_).trans ((S565 a nr_).trans ((S564 a nr_).trans ((S563 a nr_).trans (hSN42 a nr_)))))))))
                · refine w_goto hK rfl ?_
                  refine w_inc [(1, 161), (0, (i : Int)), (0, ((rcz k tx n).2.2.2 : Int)), (0, ((a : Int) + 1)), (0, ((ad (el k ((wt_ (a : Int))).toNat) (ng (vl ((fitS (k := k) pt_ wt_ a).1) (el k ((pt_ (a : Int))).toNat)))).val : Int)), (0, ((vl ((fitS (k := k) pt_ wt_ a).2) (el k ((pt_ (a : Int))).toNat)).val : Int))] hK rfl rfl rfl (by omega) (by omega) rfl ?_
                  refine w_goto hK rfl ?_
                  have ef_ := fitS_0 (k := k) (pt := pt_) (wt := wt_) (n := a) (z0_iff.mpr (by omega)) (z0_iff.mpr (by omega))
                  exact ih42 _ (by omega) (a + 1) (0, ((ad (el k ((wt_ (a : Int))).toNat) (ng (vl ((fitS (k := k) pt_ wt_ a).1) (el k ((pt_ (a : Int))).toNat)))).val : Int)) (0, ((vl ((fitS (k := k) pt_ wt_ a).2) (el k ((pt_ (a : Int))).toNat)).val : Int)) _ N42 rfl (by omega) (fun i_ hi_ => by
                    by_cases q_ : i_ = a
                    · rw [q_]; exact fun _ => z0_iff.mpr (by omega)
                    · exact hok2_ i_ (by omega)) hCR1 (h182_.trans (congrArg (fun t : Pl k × Pl k => some t.1) ef_.symm)) (h180_.trans (congrArg (fun t : Pl k × Pl k => some t.2) ef_.symm)) (fun p pn170_ pn179_ pn180_ pn181_ pn182_ => (hGR1 p pn170_ pn179_ pn180_ pn181_ pn182_)) (fun a nr_ => (hSN42 a nr_))
              · refine w_ic hK rfl ?_
                refine w_iret hK rfl rfl ?_
                exact ⟨rfl, ⟨_, hCR1, (PM.keep hpl ((hSN42 167 (notR rfl)).trans ((up_row (by decide)).trans ((S556 167 (notR rfl)).trans ((S555 167 (notR rfl)).trans ((F553 167 (by decide) (by decide) (by decide)).trans ((up_row (by decide)).trans ((up_row (by decide)).trans ((up_row (by decide)).trans (up_row (by decide))))))))))), (TMs.keep (TMs.cut T (by decide) (by omega) ((up_ne2 (by omega)).trans up_eq) ((up_row (by decide)).trans ((up_row (by decide)).trans ((up_row (by decide)).trans (up_row (by decide)))))) ((congrFun (hSN42 161 (notR rfl)) 11).trans ((congrFun (up_row (by decide)) 11).trans ((congrFun (S556 161 (notR rfl)) 11).trans ((congrFun (S555 161 (notR rfl)) 11).trans (G553 11 (by decide)))))) ((hSN42 168 (notR rfl)).trans ((up_row (by decide)).trans ((S556 168 (notR rfl)).trans ((S555 168 (notR rfl)).trans (F553 168 (by decide) (by decide) (by decide))))))), (RM.keep hR ((congrFun (hSN42 161 (notR rfl)) 13).trans ((congrFun (up_row (by decide)) 13).trans ((congrFun (S556 161 (notR rfl)) 13).trans ((congrFun (S555 161 (notR rfl)) 13).trans ((G553 13 (by decide)).trans ((up_ne2 (by decide)).trans ((up_ne2 (by decide)).trans ((up_ne2 (by decide)).trans (up_ne2 (by decide)))))))))) ((hSN42 169 (notR rfl)).trans ((up_row (by decide)).trans ((S556 169 (notR rfl)).trans ((S555 169 (notR rfl)).trans ((F553 169 (by decide) (by decide) (by decide)).trans ((up_row (by decide)).trans ((up_row (by decide)).trans ((up_row (by decide)).trans (up_row (by decide))))))))))), (FM.keep hF ((congrFun (hSN42 161 (notR rfl)) 15).trans ((congrFun (up_row (by decide)) 15).trans ((congrFun (S556 161 (notR rfl)) 15).trans ((congrFun (S555 161 (notR rfl)) 15).trans ((G553 15 (by decide)).trans ((up_ne2 (by decide)).trans ((up_ne2 (by decide)).trans ((up_ne2 (by decide)).trans (up_ne2 (by decide)))))))))) ((hSN42 189 (notR rfl)).trans ((up_row (by decide)).trans ((S556 189 (notR rfl)).trans ((S555 189 (notR rfl)).trans ((F553 189 (by decide) (by decide) (by decide)).trans ((up_row (by decide)).trans ((up_row (by decide)).trans ((up_row (by decide)).trans (up_row (by decide)))))))))) ((hSN42 190 (notR rfl)).trans ((up_row (by decide)).trans ((S556 190 (notR rfl)).trans ((S555 190 (notR rfl)).trans ((F553 190 (by decide) (by decide) (by decide)).trans ((up_row (by decide)).trans ((up_row (by decide)).trans ((up_row (by decide)).trans (up_row (by decide)))))))))))⟩, (fun a h_ => ((hSN42 a (npR h_)).trans ((up_row (by omega)).trans ((S556 a (npR h_)).trans ((S555 a (npR h_)).trans ((F553 a (by omega) (by omega) (by omega)).trans ((up_row (by omega)).trans ((up_row (by omega)).trans ((up_row (by omega)).trans (up_row (by omega)))))))))))⟩
        exact lp42 _ 0 (3, 0) (3, 0) _ (up V556 180 0 1) rfl (by omega) (fun i_ hi_ => by omega) (RS.up C556 ⟨(isR_of (p := 180) rfl), f556_0⟩ (j := 0) (by omega) (by omega) (e := e1) el1.symm) (((pu_ne (P := P556) (f := up1 pz 0 e1) (show 182 ≠ 180 by omega)).trans ((F556 182 (by omega)).trans f555_0))) (pu_eq) (fun p pn170_ pn179_ pn180_ pn181_ pn182_ => rfl) (fun a nr_ => rfl)
      · exfalso; omega
    · exfalso; omega
  · exfalso; omega
set_option maxRecDepth 100000 in
theorem rn_fits {d : Nat} {M : Mem} {k : Nat} {pl : Nat → Pl k} {n : Int} {tx : Int → Int} {rc : Nat} {rw : Int → Int} {fc : Nat} {fa : Nat → Pl k} (H : RFS M k pl n tx rc rw fc fa) (i : Int) (i1_ : -2147483648 ≤ i) (i2_ : i ≤ 2147483647) (hf_ : (rcz k tx n).1 < 0) (hn : ¬ (0 ≤ i ∧ i < 6)) : Ct 198 (d + 8) 271 [(1, 161), (0, i)] M (fun r_ M' => r_ = (0, (-100)) ∧ RFS M' k pl 0 (txC tx 0) rc rw fc fa ∧ (∀ a : Int, (a < 161 ∨ 197 < a) → M' a = M a)) := by
  have hK : cd 271 = k271 := rfl
  obtain ⟨R, C, hpl, T, hR, hF⟩ := H
  have q1_ := qq_I k
  have p1_ := pp_I k
  have m1_ := mm_I k
  have tn_ := T.1.2
  have rI_ := rcs_I T.TX (q := (qq k : Int)) (by omega) 6 0 0 (fun _ => 0) (fun _ => 0) rfl (by omega) (by omega)
  change -1 ≤ (rcz k tx n).1 ∧ (rcz k tx n).1 ≤ 44 at rI_
  show Wp 198 _ 271 0 [(1, 161), (0, i), (3, 0), (3, 0), (3, 0), (3, 0)] [] M _
  refine w_al hK rfl rfl ?_
  refine w_ic hK rfl ?_
  refine w_puti (n := 14) (m := 14) hK rfl rfl (by decide) (by decide) rfl rfl rfl rfl ?_
  refine w_al hK rfl rfl ?_
  refine w_al hK rfl rfl ?_
  refine w_geti (n := 11) (m := 11) hK rfl rfl (by decide) (by decide) rfl rfl rfl rfl ?_
  rw [show (up M 161 14 0) 161 11 = n from (TMs.keep T (up_ne2 (by decide)) (up_row (by decide))).1.1]
  refine w_puti (n := 30) (m := 30) hK rfl rfl (by decide) (by decide) rfl rfl rfl rfl ?_
  refine w_al hK rfl rfl ?_
  refine w_ic hK rfl ?_
  refine w_puti (n := 11) (m := 11) hK rfl rfl (by decide) (by decide) rfl rfl rfl rfl ?_
  refine w_al hK rfl rfl ?_
  refine w_ic hK rfl ?_
  refine w_puti (n := 29) (m := 29) hK rfl rfl (by decide) (by decide) rfl rfl rfl rfl ?_
  refine w_al hK rfl rfl ?_
  refine w_call [(1, 161)] hK rfl rfl rfl rfl (Or.inr ⟨_, _, _, rfl, by decide, (by decide), rfl⟩) (r_rcz (RS.cg (RS.cg (RS.cg (RS.cg C (fun j_ h1_ h2_ => up_ne2 (by omega)) (fun a_ h1_ h2_ => up_row h1_)) (fun j_ h1_ h2_ => up_ne2 (by omega)) (fun a_ h1_ h2_ => up_row h1_)) (fun j_ h1_ h2_ => up_ne2 (by omega)) (fun a_ h1_ h2_ => up_row h1_)) (fun j_ h1_ h2_ => up_ne2 (by omega)) (fun a_ h1_ h2_ => up_row h1_)) (TMs.TL T ((up_ne2 (by omega)).trans ((up_ne2 (by omega)).trans up_eq)) ((up_row (by decide)).trans ((up_row (by decide)).trans ((up_row (by decide)).trans (up_row (by decide)))))) up_eq) ?_
  rintro r_ V568 ⟨pt_, wt_, hor_, F568, G568⟩
  rcases hor_ with ⟨h1_, rfl, hc6_, h185_, h186_, hn1_, hn2_, hpw_⟩ | ⟨h1_, rfl, h2_⟩
  · refine ⟨(by show (0 : Nat) ≠ 9; decide), (?_ : Wp 198 _ 271 15 [(1, 161), (0, i), (3, 0), (3, 0), (3, 0), (3, 0)] [(0, ((rcz k tx n).2.2.2 : Int))] V568 _)⟩
    refine w_is [(1, 161), (0, i), (0, ((rcz k tx n).2.2.2 : Int)), (3, 0), (3, 0), (3, 0)] hK rfl rfl rfl ?_
    refine w_il hK rfl rfl ?_
    refine w_ic hK rfl ?_
    refine w_ne2 hK rfl (by omega) (by omega) (by omega) (by omega) (fun h18 => ?_) (fun h18 => ?_)
    · refine w_il hK rfl rfl ?_
      refine w_call [(0, i)] hK rfl rfl rfl rfl (Or.inl rfl) (r_place i (by omega) (by omega)) ?_
      rintro _ Mq ⟨rfl, e_⟩
      subst Mq
      have pI_569 := ite01 (0 ≤ i ∧ i < 6)
      refine ⟨by show (0 : Nat) ≠ 9; decide, (?_ : Wp 198 _ 271 26 [(1, 161), (0, i), (0, ((rcz k tx n).2.2.2 : Int)), (3, 0), (3, 0), (3, 0)] [(0, (if 0 ≤ i ∧ i < 6 then 1 else 0))] V568 _)⟩
      refine w_ne hK rfl (by omega) (by omega) (fun h26 => ?_) (fun h26 => ?_)
      · exfalso; omega
      · refine w_ic hK rfl ?_
        refine w_iret hK rfl rfl ?_
        exact ⟨rfl, ⟨_, (RS.cg (RS.cg (RS.cg (RS.cg (RS.cg C (fun j_ h1_ h2_ => up_ne2 (by omega)) (fun a_ h1_ h2_ => up_row h1_)) (fun j_ h1_ h2_ => up_ne2 (by omega)) (fun a_ h1_ h2_ => up_row h1_)) (fun j_ h1_ h2_ => up_ne2 (by omega)) (fun a_ h1_ h2_ => up_row h1_)) (fun j_ h1_ h2_ => up_ne2 (by omega)) (fun a_ h1_ h2_ => up_row h1_)) (fun j_ h1_ h2_ => G568 j_ (by omega)) (fun a_ h1_ h2_ => F568 a_ h1_ (RSc_ne h2_ (by decide) (notR rfl)) (RSc_ne h2_ (by decide) (notR rfl)))), (PM.keep hpl ((F568 167 (by decide) (by decide) (by decide)).trans ((up_row (by decide)).trans ((up_row (by decide)).trans ((up_row (by decide)).trans (up_row (by decide))))))), (TMs.keep (TMs.cut T (by decide) (by omega) ((up_ne2 (by omega)).trans up_eq) ((up_row (by decide)).trans ((up_row (by decide)).trans ((up_row (by decide)).trans (up_row (by decide)))))) (G568 11 (by decide)) (F568 168 (by decide) (by decide) (by decide))), (RM.keep hR ((G568 13 (by decide)).trans ((up_ne2 (by decide)).trans ((up_ne2 (by decide)).trans ((up_ne2 (by decide)).trans (up_ne2 (by decide)))))) ((F568 169 (by decide) (by decide) (by decide)).trans ((up_row (by decide)).trans ((up_row (by decide)).trans ((up_row (by decide)).trans (up_row (by decide))))))), (FM.keep hF ((G568 15 (by decide)).trans ((up_ne2 (by decide)).trans ((up_ne2 (by decide)).trans ((up_ne2 (by decide)).trans (up_ne2 (by decide)))))) ((F568 189 (by decide) (by decide) (by decide)).trans ((up_row (by decide)).trans ((up_row (by decide)).trans ((up_row (by decide)).trans (up_row (by decide)))))) ((F568 190 (by decide) (by decide) (by decide)).trans ((up_row (by decide)).trans ((up_row (by decide)).trans ((up_row (by decide)).trans (up_row (by decide)))))))⟩, (fun a h_ => ((F568 a (by omega) (by omega) (by omega)).trans ((up_row (by omega)).trans ((up_row (by omega)).trans ((up_row (by omega)).trans (up_row (by omega)))))))⟩
    · exfalso; omega
  · exfalso; omega
set_option maxRecDepth 100000 in
theorem rz_fits {d : Nat} {M : Mem} {k : Nat} {pl : Nat → Pl k} {n : Int} {tx : Int → Int} {rc : Nat} {rw : Int → Int} {fc : Nat} {fa : Nat → Pl k} (H : RFS M k pl n tx rc rw fc fa) (i : Int) (i1_ : -2147483648 ≤ i) (i2_ : i ≤ 2147483647) (hf_ : 0 ≤ (rcz k tx n).1) : Ct 198 (d + 8) 271 [(1, 161), (0, i)] M (fun r_ M' => r_ = (0, (-21 - (rcz k tx n).1)) ∧ RFS M' k pl 0 (txC tx 0) rc rw fc fa ∧ (∀ a : Int, (a < 161 ∨ 197 < a) → M' a = M a)) := by
  have hK : cd 271 = k271 := rfl
  obtain ⟨R, C, hpl, T, hR, hF⟩ := H
  have q1_ := qq_I k
  have p1_ := pp_I k
  have m1_ := mm_I k
  have tn_ := T.1.2
  have rI_ := rcs_I T.TX (q := (qq k : Int)) (by omega) 6 0 0 (fun _ => 0) (fun _ => 0) rfl (by omega) (by omega)
  change -1 ≤ (rcz k tx n).1 ∧ (rcz k tx n).1 ≤ 44 at rI_
  show Wp 198 _ 271 0 [(1, 161), (0, i), (3, 0), (3, 0), (3, 0), (3, 0)] [] M _
  refine w_al hK rfl rfl ?_
  refine w_ic hK rfl ?_
  refine w_puti (n := 14) (m := 14) hK rfl rfl (by decide) (by decide) rfl rfl rfl rfl ?_
  refine w_al hK rfl rfl ?_
  refine w_al hK rfl rfl ?_
  refine w_geti (n := 11) (m := 11) hK rfl rfl (by decide) (by decide) rfl rfl rfl rfl ?_
  rw [show (up M 161 14 0) 161 11 = n from (TMs.keep T (up_ne2 (by decide)) (up_row (by decide))).1.1]
  refine w_puti (n := 30) (m := 30) hK rfl rfl (by decide) (by decide) rfl rfl rfl rfl ?_
  refine w_al hK rfl rfl ?_
  refine w_ic hK rfl ?_
  refine w_puti (n := 11) (m := 11) hK rfl rfl (by decide) (by decide) rfl rfl rfl rfl ?_
  refine w_al hK rfl rfl ?_
  refine w_ic hK rfl ?_
  refine w_puti (n := 29) (m := 29) hK rfl rfl (by decide) (by decide) rfl rfl rfl rfl ?_
  refine w_al hK rfl rfl ?_
  refine w_call [(1, 161)] hK rfl rfl rfl rfl (Or.inr ⟨_, _, _, rfl, by decide, (by decide), rfl⟩) (r_rcz (RS.cg (RS.cg (RS.cg (RS.cg C (fun j_ h1_ h2_ => up_ne2 (by omega)) (fun a_ h1_ h2_ => up_row h1_)) (fun j_ h1_ h2_ => up_ne2 (by omega)) (fun a_ h1_ h2_ => up_row h1_)) (fun j_ h1_ h2_ => up_ne2 (by omega)) (fun a_ h1_ h2_ => up_row h1_)) (fun j_ h1_ h2_ => up_ne2 (by omega)) (fun a_ h1_ h2_ => up_row h1_)) (TMs.TL T ((up_ne2 (by omega)).trans ((up_ne2 (by omega)).trans up_eq)) ((up_row (by decide)).trans ((up_row (by decide)).trans ((up_row (by decide)).trans (up_row (by decide)))))) up_eq) ?_
  rintro r_ V570 ⟨pt_, wt_, hor_, F570, G570⟩
  rcases hor_ with ⟨h1_, rfl, hc6_, h185_, h186_, hn1_, hn2_, hpw_⟩ | ⟨h1_, rfl, h2_⟩
  · exfalso; omega
  · refine ⟨(by show (0 : Nat) ≠ 9; decide), (?_ : Wp 198 _ 271 15 [(1, 161), (0, i), (3, 0), (3, 0), (3, 0), (3, 0)] [(0, (-1))] V570 _)⟩
    refine w_is [(1, 161), (0, i), (0, (-1)), (3, 0), (3, 0), (3, 0)] hK rfl rfl rfl ?_
    refine w_il hK rfl rfl ?_
    refine w_ic hK rfl ?_
    refine w_ne2 hK rfl (by omega) (by omega) (by omega) (by omega) (fun h18 => ?_) (fun h18 => ?_)
    · exfalso; omega
    · refine w_ic hK rfl ?_
      refine w_al hK rfl rfl ?_
      refine w_geti (n := 29) (m := 29) hK rfl rfl (by decide) (by decide) rfl rfl rfl rfl ?_
      rw [show V570 161 29 = (rcz k tx n).1 from h2_]
      refine w_sub hK rfl (by omega) (by omega) ?_
      refine w_iret hK rfl rfl ?_
      exact ⟨rfl, ⟨_, (RS.cg (RS.cg (RS.cg (RS.cg (RS.cg C (fun j_ h1_ h2_ => up_ne2 (by omega)) (fun a_ h1_ h2_ => up_row h1_)) (fun j_ h1_ h2_ => up_ne2 (by omega)) (fun a_ h1_ h2_ => up_row h1_)) (fun j_ h1_ h2_ => up_ne2 (by omega)) (fun a_ h1_ h2_ => up_row h1_)) (fun j_ h1_ h2_ => up_ne2 (by omega)) (fun a_ h1_ h2_ => up_row h1_)) (fun j_ h1_ h2_ => G570 j_ (by omega)) (fun a_ h1_ h2_ => F570 a_ h1_ (RSc_ne h2_ (by decide) (notR rfl)) (RSc_ne h2_ (by decide) (notR rfl)))), (PM.keep hpl ((F570 167 (by decide) (by decide) (by decide)).trans ((up_row (by decide)).trans ((up_row (by decide)).trans ((up_row (by decide)).trans (up_row (by decide))))))), (TMs.keep (TMs.cut T (by decide) (by omega) ((up_ne2 (by omega)).trans up_eq) ((up_row (by decide)).trans ((up_row (by decide)).trans ((up_row (by decide)).trans (up_row (by decide)))))) (G570 11 (by decide)) (F570 168 (by decide) (by decide) (by decide))), (RM.keep hR ((G570 13 (by decide)).trans ((up_ne2 (by decide)).trans ((up_ne2 (by decide)).trans ((up_ne2 (by decide)).trans (up_ne2 (by decide)))))) ((F570 169 (by decide) (by decide) (by decide)).trans ((up_row (by decide)).trans ((up_row (by decide)).trans ((up_row (by decide)).trans (up_row (by decide))))))), (FM.keep hF ((G570 15 (by decide)).trans ((up_ne2 (by decide)).trans ((up_ne2 (by decide)).trans ((up_ne2 (by decide)).trans (up_ne2 (by decide)))))) ((F570 189 (by decide) (by decide) (by decide)).trans ((up_row (by decide)).trans ((up_row (by decide)).trans ((up_row (by decide)).trans (up_row (by decide)))))) ((F570 190 (by decide) (by decide) (by decide)).trans ((up_row (by decide)).trans ((up_row (by decide)).trans ((up_row (by decide)).trans (up_row (by decide)))))))⟩, (fun a h_ => ((F570 a (by omega) (by omega) (by omega)).trans ((up_row (by omega)).trans ((up_row (by omega)).trans ((up_row (by omega)).trans (up_row (by omega)))))))⟩
