/-! the reference's calls: divisors, likes, like, commuting, part */ -/
/-- the divisors among the first monic ones: how many, and the first as ROW -/
noncomputable def dvS {k : Nat} (f : Pl k) (e : Nat) (rw_ : Int → Int) : Nat → Int × Nat × (Int → Int)
  | 0 => (0, 0, rw_)
  | c + 1 => if bz (dr 0 f (mnp e c) = pz) = 0 then dvS f e rw_ c else if (dvS f e rw_ c).1 = 0 then ((dvS f e rw_ c).1 + 1, e + 1, stw (fun m_ : Nat => ((mnp (k := k) e c m_).val : Int)) (dvS f e rw_ c).2.2 (e + 1)) else ((dvS f e rw_ c).1 + 1, (dvS f e rw_ c).2)
theorem dvS_0 {k : Nat} {f : Pl k} {e : Nat} {rw_ : Int → Int} {c : Nat} (h : bz (dr 0 f (mnp e c) = pz) = 0) : dvS f e rw_ (c + 1) = dvS f e rw_ c := if_pos h
theorem dvS_1 {k : Nat} {f : Pl k} {e : Nat} {rw_ : Int → Int} {c : Nat} (h : ¬ bz (dr 0 f (mnp e c) = pz) = 0) (h2 : (dvS f e rw_ c).1 = 0) : dvS f e rw_ (c + 1) = ((dvS f e rw_ c).1 + 1, e + 1, stw (fun m_ : Nat => ((mnp (k := k) e c m_).val : Int)) (dvS f e rw_ c).2.2 (e + 1)) := (if_neg h).trans (if_pos h2)
theorem dvS_2 {k : Nat} {f : Pl k} {e : Nat} {rw_ : Int → Int} {c : Nat} (h : ¬ bz (dr 0 f (mnp e c) = pz) = 0) (h2 : ¬ (dvS f e rw_ c).1 = 0) : dvS f e rw_ (c + 1) = ((dvS f e rw_ c).1 + 1, (dvS f e rw_ c).2) := (if_neg h).trans (if_neg h2)
theorem dvS_I {k : Nat} (f : Pl k) (e : Nat) (rw_ : Int → Int) : ∀ c : Nat, 0 ≤ (dvS f e rw_ c).1 ∧ (dvS f e rw_ c).1 ≤ (c : Int) ∧ ((dvS f e rw_ c).1 = 0 → (dvS f e rw_ c).2.1 = 0) ∧ (dvS f e rw_ c).2.1 ≤ e + 1
  | 0 => ⟨by show (0 : Int) ≤ 0; decide, by show (0 : Int) ≤ ((0 : Nat) : Int); decide, fun _ => rfl, by show 0 ≤ e + 1; omega⟩
  | c + 1 => by
    have ih := dvS_I f e rw_ c
    by_cases h : bz (dr 0 f (mnp e c) = pz) = 0
    · rw [dvS_0 h]; omega
    · by_cases h2 : (dvS f e rw_ c).1 = 0
      · rw [dvS_1 h h2]
        dsimp only
        omega
      · rw [dvS_2 h h2]
        dsimp only
        omega
theorem fwI_I {k : Nat} (A B : Pl k) {n : Nat} (h : n ≤ 4) : -1 ≤ fwI A B n ∧ fwI A B n ≤ 65536 := by
  have h1 := unq_4 (k := k) h
  unfold fwI
  split <;> omega
set_option maxRecDepth 100000 in
theorem ro_divs {d : Nat} {M : Mem} {k : Nat} {pl : Nat → Pl k} {n : Int} {tx : Int → Int} {rc : Nat} {rw : Int → Int} {fc : Nat} {fa : Nat → Pl k} (H : RFS M k pl n tx rc rw fc fa) (i : Nat) (hi : i < 6) (e : Nat) (e1_ : 1 ≤ e) (e3_ : e ≤ 3) (hi4 : dg (pl i) ≤ 4) (he : (e : Int) ≤ dg (pl i)) : Ct 198 (d + 8) 276 [(1, 161), (0, (i : Int)), (0, (e : Int))] M (fun r_ M' => r_ = (0, (dvS (pl i) e rw (unq k e)).1) ∧ RFS M' k pl n tx ((dvS (pl i) e rw (unq k e)).2.1) ((dvS (pl i) e rw (unq k e)).2.2) fc fa ∧ (∀ a : Int, (a < 161 ∨ 197 < a) → M' a = M a)) := by
  have hK : cd 276 = k276 := rfl
  obtain ⟨R, C, hpl, T, hR, hF⟩ := H
  have q1_ := qq_I k
  have p1_ := pp_I k
  have m1_ := mm_I k
  have bi_ := (hpl i hi).2
  have di_ := dg_lt9 bi_
  have u4_ := unq_4 (k := k) (s := e) (by omega)
  show Wp 198 _ 276 0 [(1, 161), (0, (i : Int)), (0, (e : Int)), (3, 0), (3, 0), (3, 0), (3, 0)] [] M _
  refine w_al hK rfl rfl ?_
  refine w_ic hK rfl ?_
  refine w_puti (n := 14) (m := 14) hK rfl rfl (by decide) (by decide) rfl rfl rfl rfl ?_
  refine w_il hK rfl rfl ?_
  refine w_i2l hK rfl (by omega) (by omega) ?_
  refine w_lc hK rfl ?_
  refine w_lcw hK rfl ?_
  refine w_call [(2, (e : Int)), (2, 1), (2, 3)] hK rfl rfl rfl rfl (Or.inl rfl) (r_in (e : Int) 1 3 (by omega) (by omega) (by omega) (by omega) (by omega) (by omega)) ?_
  rintro _ Mq ⟨rfl, e_⟩
  subst Mq
  have iI_609 := ite01 (1 ≤ (e : Int) ∧ (e : Int) ≤ 3)
  refine ⟨by show (0 : Nat) ≠ 9; decide, (?_ : Wp 198 _ 276 8 [(1, 161), (0, (i : Int)), (0, (e : Int)), (3, 0), (3, 0), (3, 0), (3, 0)] [(0, (if 1 ≤ (e : Int) ∧ (e : Int) ≤ 3 then 1 else 0))] (up M 161 14 0) _)⟩
  refine w_ne hK rfl (by omega) (by omega) (fun h8 => ?_) (fun h8 => ?_)
  · refine w_al hK rfl rfl ?_
    refine w_il hK rfl rfl ?_
    refine w_call [(1, 161), (0, (i : Int))] hK rfl rfl rfl rfl (Or.inr ⟨_, _, _, rfl, by decide, (by decide), rfl⟩) (r_ask (RS.cg C (fun j_ h1_ h2_ => up_ne2 (by omega)) (fun a_ h1_ h2_ => up_row h1_)) (PM.keep hpl (up_row (by decide))) i hi (dg (pl i)) (by omega)) ?_
    rintro _ V610 ⟨P610, rfl, C610, S610, F610, f610_0⟩
    refine ⟨by show (0 : Nat) ≠ 9; decide, (?_ : Wp 198 _ 276 14 [(1, 161), (0, (i : Int)), (0, (e : Int)), (3, 0), (3, 0), (3, 0), (3, 0)] [(0, (dg (pl i)))] V610 _)⟩
    refine w_is [(1, 161), (0, (i : Int)), (0, (e : Int)), (0, (dg (pl i))), (3, 0), (3, 0), (3, 0)] hK rfl rfl rfl ?_
    refine w_il hK rfl rfl ?_
    refine w_ge hK rfl (by omega) (by omega) (fun h16 => ?_) (fun h16 => ?_)
    · refine w_ic hK rfl ?_
      refine w_is [(1, 161), (0, (i : Int)), (0, (e : Int)), (0, (dg (pl i))), (0, 0), (3, 0), (3, 0)] hK rfl rfl rfl ?_
      refine w_al hK rfl rfl ?_
      refine w_ic hK rfl ?_
      refine w_puti (n := 13) (m := 13) hK rfl rfl (by decide) (by decide) rfl rfl rfl rfl ?_
      refine w_ic hK rfl ?_
      refine w_is [(1, 161), (0, (i : Int)), (0, (e : Int)), (0, (dg (pl i))), (0, 0), (0, 0), (3, 0)] hK rfl rfl rfl ?_
      have lp26 : ∀ (n_ : Nat) (c : Nat) (w6 : AV) (R1 : Int → Option (Pl k)) (N26 : Mem), 65537 - c = n_ → (c ≤ unq k e) → (RS N26 k R1) → (R1 180 = some (pl i)) → ((∀ p : Int, p ≠ 170 → p ≠ 171 → p ≠ 172 → p ≠ 173 → p ≠ 174 → p ≠ 187 → R1 p = P610 p)) → ((∀ a : Int, (∀ p : Int, isR p → a ≠ p) → a ≠ 161 → a ≠ 169 → N26 a = (up V610 161 13 0) a)) → ((∀ j : Int, j ≠ 13 → N26 161 j = (up V610 161 13 0) 161 j)) → (RM N26 (dvS (pl i) e rw c).2.1 (dvS (pl i) e rw c).2.2) → Wp 198 (d + 8) 276 26 [(1, 161), (0, (i : Int)), (0, (e : Int)), (0, (dg (pl i))), (0, (dvS (pl i) e rw c).1), (0, (c : Int)), w6] [] N26 (fun r_ M' => r_ = (0, (dvS (pl i) e rw (unq k e)).1) ∧ RFS M' k pl n tx ((dvS (pl i) e rw (unq k e)).2.1) ((dvS (pl i) e rw (unq k e)).2.2) fc fa ∧ (∀ a : Int, (a < 161 ∨ 197 < a) → M' a = M a)) := by
        intro n_
        induction n_ using Nat.strongRecOn with
        | _ n_ ih26 =>
        intro c w6 R1 N26 hm26 hc_ hCR1 h180_ hGR1 hSN26 hHN26 hRN26
        have sI_ := dvS_I (pl i) e rw c
        refine w_il hK rfl rfl ?_
        refine w_al hK rfl rfl ?_
        refine w_il hK rfl rfl ?_
        refine w_call [(1, 161), (0, (e : Int))] hK rfl rfl rfl rfl (Or.inr ⟨_, _, _, rfl, by decide, (by decide), rfl⟩) (r_count hCR1.F e (by omega)) ?_
        rintro _ Mq ⟨rfl, e_⟩
        subst Mq
        refine ⟨by show (0 : Nat) ≠ 9; decide, (?_ : Wp 198 _ 276 30 [(1, 161), (0, (i : Int)), (0, (e : Int)), (0, (dg (pl i))), (0, (dvS (pl i) e rw c).1), (0, (c : Int)), w6] [(0, (unq k e : Int)), (0, (c : Int))] N26 _)⟩
        refine w_ge2 hK rfl (by omega) (by omega) (by omega) (by omega) (fun h30 => ?_) (fun h30 => ?_)
        · refine w_il hK rfl rfl ?_
          refine w_iret hK rfl rfl ?_
          have e_ : c = unq k e := by omega
          subst e_
          exact ⟨rfl, ⟨_, hCR1, (PM.keep hpl ((hSN26 167 (notR rfl) (by decide) (by decide)).trans ((up_row (by decide)).trans ((S610 167 (notR rfl)).trans (up_row (by decide)))))), (TMs.keep T ((hHN26 11 (by decide)).trans ((up_ne2 (by decide)).trans ((congrFun (S610 161 (notR rfl)) 11).trans (up_ne2 (by decide))))) ((hSN26 168 (notR rfl) (by decide) (by decide)).trans ((up_row (by decide)).trans ((S610 168 (notR rfl)).trans (up_row (by decide)))))), hRN26, (FM.keep hF ((hHN26 15 (by decide)).trans ((up_ne2 (by decide)).trans ((congrFun (S610 161 (notR rfl)) 15).trans (up_ne2 (by decide))))) ((hSN26 189 (notR rfl) (by decide) (by decide)).trans ((up_row (by decide)).trans ((S610 189 (notR rfl)).trans (up_row (by decide))))) ((hSN26 190 (notR rfl) (by decide) (by decide)).trans ((up_row (by decide)).trans ((S610 190 (notR rfl)).trans (up_row (by decide))))))⟩, (fun a h_ => ((hSN26 a (npR h_) (by omega) (by omega)).trans ((up_row (by omega)).trans ((S610 a (npR h_)).trans (up_row (by omega))))))⟩
        · refine w_il hK rfl rfl ?_
          refine w_il hK rfl rfl ?_
          refine w_gt2 hK rfl (by omega) (by omega) (by omega) (by omega) (fun h33 => ?_) (fun h33 => ?_)
          · exfalso; omega
          · refine w_al hK rfl rfl ?_
            refine w_il hK rfl rfl ?_
            refine w_il hK rfl rfl ?_
            refine w_al hK rfl rfl ?_
            refine w_getr (n := 35) (v := 187) hK rfl rfl (by decide) (by decide) rfl rfl rfl rfl ?_
            refine w_call [(1, 161), (0, (e : Int)), (0, (c : Int)), (1, 187)] hK rfl rfl rfl rfl (Or.inr ⟨_, _, _, rfl, by decide, (by decide), rfl⟩) (r_mof hCR1 (isR_of (p := 187) rfl) e c (by omega) (by omega)) ?_
            rintro _ V611 ⟨P611, rfl, C611, S611, F611, f611_0⟩
            refine ⟨by decide, (?_ : Wp 198 _ 276 40 [(1, 161), (0, (i : Int)), (0, (e : Int)), (0, (dg (pl i))), (0, (dvS (pl i) e rw c).1), (0, (c : Int)), w6] [] V611 _)⟩
            refine w_al hK rfl rfl ?_
            refine w_al hK rfl rfl ?_
            refine w_getr (n := 26) (v := 180) hK rfl rfl (by decide) (by decide) rfl rfl rfl rfl ?_
            refine w_al hK rfl rfl ?_
            refine w_getr (n := 35) (v := 187) hK rfl rfl (by decide) (by decide) rfl rfl rfl rfl ?_
            refine w_ic hK rfl ?_
            have dm_ := mnp_dg (k := k) (n := e) (c := c) (by omega)
            refine w_call [(1, 161), (1, 180), (1, 187), (0, 0)] hK rfl rfl rfl rfl (Or.inr ⟨_, _, _, rfl, by decide, (by decide), rfl⟩) (r_isdv C611 ⟨(isR_of (p := 180) rfl), ((F611 180 (by omega)).trans h180_)⟩ ⟨(isR_of (p := 187) rfl), f611_0⟩ 0 (by omega) (by omega) (by omega) (by omega) (bi_.mono (by decide)) (mnp_bd.mono (by omega))) ?_
            rintro _ V612 ⟨P612, rfl, C612, S612, F612, f612_0, f612_1⟩
            have bv_ := bz_01 (dr 0 (pl i) (mnp (k := k) e c) = pz)
            refine ⟨by show (0 : Nat) ≠ 9; decide, (?_ : Wp 198 _ 276 47 [(1, 161), (0, (i : Int)), (0, (e : Int)), (0, (dg (pl i))), (0, (dvS (pl i) e rw c).1), (0, (c : Int)), w6] [(0, (bz (dr 0 (pl i) (mnp (k := k) e c) = pz)))] V612 _)⟩
            refine w_ne hK rfl (by omega) (by omega) (fun h47 => ?_) (fun h47 => ?_)
            · refine w_ic hK rfl ?_
              refine w_is [(1, 161), (0, (i : Int)), (0, (e : Int)), (0, (dg (pl i))), (0, (dvS (pl i) e rw c).1), (0, (c : Int)), (0, 0)] hK rfl rfl rfl ?_
              by_cases hf_ : (dvS (pl i) e rw c).1 = 0
              · have lp51 : ∀ (n_ : Nat) (m : Nat) (N51 : Mem), 5 - m = n_ → (m ≤ e + 1) → ((∀ a : Int, a ≠ 161 → a ≠ 169 → N51 a = V612 a)) → ((∀ j : Int, j ≠ 13 → N51 161 j = V612 161 j)) → (RM N51 m (stw (fun m_ : Nat => ((mnp (k := k) e c m_).val : Int)) (dvS (pl i) e rw c).2.2 m)) → Wp 198 (d + 8) 276 51 [(1, 161), (0, (i : Int)), (0, (e : Int)), (0, (dg (pl i))), (0, (dvS (pl i) e rw c).1), (0, (c : Int)), (0, (m : Int))] [] N51 (fun r_ M' => r_ = (0, (dvS (pl i) e rw (unq k e)).1) ∧ RFS M' k pl n tx ((dvS (pl i) e rw (unq k e)).2.1) ((dvS (pl i) e rw (unq k e)).2.2) fc fa ∧ (∀ a : Int, (a < 161 ∨ 197 < a) → M' a = M a)) := by
                  intro n_
                  induction n_ using Nat.strongRecOn with
                  | _ n_ ih51 =>
                  intro m N51 hm51 hm_ hSN51 hHN51 hRN51
                  refine w_il hK rfl rfl ?_
                  refine w_il hK rfl rfl ?_
                  refine w_gt2 hK rfl (by omega) (by omega) (by omega) (by omega) (fun h53 => ?_) (fun h53 => ?_)
                  · refine w_inc [(1, 161), (0, (i : Int)), (0, (e : Int)), (0, (dg (pl i))), (0, ((dvS (pl i) e rw c).1 + 1)), (0, (c : Int)), (0, (m : Int))] hK rfl rfl rfl (by omega) (by omega) rfl ?_
                    refine w_inc [(1, 161), (0, (i : Int)), (0, (e : Int)), (0, (dg (pl i))), (0, ((dvS (pl i) e rw c).1 + 1)), (0, ((c : Int) + 1)), (0, (m : Int))] hK rfl rfl rfl (by omega) (by omega) rfl ?_
                    refine w_goto hK rfl ?_
                    have eu_ := (show (dvS (pl i) e rw (c + 1)) = _ from dvS_1 (by omega) (by omega))
                    rw [show ((dvS (pl i) e rw c).1 + 1) = (dvS (pl i) e rw (c + 1)).1 from by rw [eu_]]
                    exact ih26 _ (by omega) (c + 1) (0, (m : Int)) _ N51 rfl (by omega) (RS.cg C612 (fun j_ h1_ h2_ => hHN51 j_ (by omega)) (fun a_ h1_ h2_ => hSN51 a_ h1_ (RSc_ne h2_ (by decide) (notR rfl)))) (((F612 180 (by omega) (by omega) (by omega) (by omega) (by omega)).trans ((F611 180 (by omega)).trans h180_))) (fun p pn170_ pn171_ pn172_ pn173_ pn174_ pn187_ => ((F612 p pn170_ pn171_ pn172_ pn173_ pn174_).trans ((F611 p pn187_).trans (hGR1 p pn170_ pn171_ pn172_ pn173_ pn174_ pn187_)))) (fun a nr_ n161_ n169_ => ((hSN51 a n161_ n169_).trans ((S612 a nr_).trans ((S611 a nr_).trans (hSN26 a nr_ n161_ n169_))))) (fun j n13_ => ((hHN51 j n13_).trans ((congrFun (S612 161 (notR rfl)) j).trans ((congrFun (S611 161 (notR rfl)) j).trans (hHN26 j n13_))))) (by rw [eu_]; exact (by have h_ := hRN51; rw [show m = e + 1 by omega] at h_; exact h_))
                  · refine w_il hK rfl rfl ?_
                    refine w_ne hK rfl (by omega) (by omega) (fun h55 => ?_) (fun h55 => ?_)
                    · exfalso; omega
                    · refine w_al hK rfl rfl ?_
                      refine w_al hK rfl rfl ?_
                      refine w_getr (n := 35) (v := 187) hK rfl rfl (by decide) (by decide) rfl rfl rfl rfl ?_
                      refine w_il hK rfl rfl ?_
                      refine w_ia hK rfl rfl (by decide) (by decide) (by omega) (by omega) ?_
                      rw [show N51 187 (m : Int) = (((mnp (k := k) e c) m).val : Int) from (RS.cg C612 (fun j_ h1_ h2_ => hHN51 j_ (by omega)) (fun a_ h1_ h2_ => hSN51 a_ h1_ (RSc_ne h2_ (by decide) (notR rfl)))).atz ⟨(isR_of (p := 187) rfl), ((F612 187 (by omega) (by omega) (by omega) (by omega) (by omega)).trans f611_0)⟩ (j := m) (by omega) (by omega)]
                      refine w_i2l hK rfl (by omega) (by omega) ?_
                      have em_ := el_I (mnp (k := k) e c m)
                      refine w_call [(1, 161), (2, (((mnp (k := k) e c) m).val : Int))] hK rfl rfl rfl rfl (Or.inr ⟨_, _, _, rfl, by decide, (by decide), rfl⟩) (r_tell hRN51 (by omega) (((mnp (k := k) e c) m).val : Int)) ?_
                      rintro _ V613 ⟨rfl, R613, F613, G613⟩
                      refine ⟨by decide, (?_ : Wp 198 _ 276 63 [(1, 161), (0, (i : Int)), (0, (e : Int)), (0, (dg (pl i))), (0, (dvS (pl i) e rw c).1), (0, (c : Int)), (0, (m : Int))] [] V613 _)⟩
                      refine w_inc [(1, 161), (0, (i : Int)), (0, (e : Int)), (0, (dg (pl i))), (0, (dvS (pl i) e rw c).1), (0, (c : Int)), (0, ((m : Int) + 1))] hK rfl rfl rfl (by omega) (by omega) rfl ?_
                      refine w_goto hK rfl ?_
                      exact ih51 _ (by omega) (m + 1) V613 rfl (by omega) (fun a n161_ n169_ => ((F613 a n161_ n169_).trans (hSN51 a n161_ n169_))) (fun j n13_ => ((G613 j n13_).trans (hHN51 j n13_))) R613
                exact lp51 _ 0 V612 rfl (by omega) (fun a n161_ n169_ => rfl) (fun j n13_ => rfl) (by have h_ := (RM.keep hRN26 ((congrFun (S612 161 (notR rfl)) 13).trans (congrFun (S611 161 (notR rfl)) 13)) ((S612 169 (notR rfl)).trans (S611 169 (notR rfl)))); rw [sI_.2.2.1 (by omega)] at h_; exact h_)
              · refine w_il hK rfl rfl ?_
                refine w_il hK rfl rfl ?_
                refine w_gt2 hK rfl (by omega) (by omega) (by omega) (by omega) (fun h53 => ?_) (fun h53 => ?_)
                · exfalso; omega
                · refine w_il hK rfl rfl ?_
                  refine w_ne hK rfl (by omega) (by omega) (fun h55 => ?_) (fun h55 => ?_)
                  · refine w_inc [(1, 161), (0, (i : Int)), (0, (e : Int)), (0, (dg (pl i))), (0, ((dvS (pl i) e rw c).1 + 1)), (0, (c : Int)), (0, 0)] hK rfl rfl rfl (by omega) (by omega) rfl ?_
                    refine w_inc [(1, 161), (0, (i : Int)), (0, (e : Int)), (0, (dg (pl i))), (0, ((dvS (pl i) e rw c).1 + 1)), (0, ((c : Int) + 1)), (0, 0)] hK rfl rfl rfl (by omega) (by omega) rfl ?_
                    refine w_goto hK rfl ?_
                    have eu_ := (show (dvS (pl i) e rw (c + 1)) = _ from dvS_2 (by omega) (by omega))
                    rw [show ((dvS (pl i) e rw c).1 + 1) = (dvS (pl i) e rw (c + 1)).1 from by rw [eu_]]
                    exact ih26 _ (by omega) (c + 1) (0, 0) _ V612 rfl (by omega) C612 (((F612 180 (by omega) (by omega) (by omega) (by omega) (by omega)).trans ((F611 180 (by omega)).trans h180_))) (fun p pn170_ pn171_ pn172_ pn173_ pn174_ pn187_ => ((F612 p pn170_ pn171_ pn172_ pn173_ pn174_).trans ((F611 p pn187_).trans (hGR1 p pn170_ pn171_ pn172_ pn173_ pn174_ pn187_)))) (fun a nr_ n161_ n169_ => ((S612 a nr_).trans ((S611 a nr_).trans (hSN26 a nr_ n161_ n169_)))) (fun j n13_ => ((congrFun (S612 161 (notR rfl)) j).trans ((congrFun (S611 161 (notR rfl)) j).trans (hHN26 j n13_)))) (by rw [eu_]; exact (by have h_ := (RM.keep hRN26 ((congrFun (S612 161 (notR rfl)) 13).trans (congrFun (S611 161 (notR rfl)) 13)) ((S612 169 (notR rfl)).trans (S611 169 (notR rfl)))); exact h_))
                  · exfalso; omega
            · refine w_goto hK rfl ?_
              refine w_inc [(1, 161), (0, (i : Int)), (0, (e : Int)), (0, (dg (pl i))), (0, (dvS (pl i) e rw c).1), (0, ((c : Int) + 1)), w6] hK rfl rfl rfl (by omega) (by omega) rfl ?_
              refine w_goto hK rfl ?_
              have eu_ := (show (dvS (pl i) e rw (c + 1)) = _ from dvS_0 (by omega))
              rw [show (dvS (pl i) e rw c).1 = (dvS (pl i) e rw (c + 1)).1 from by rw [eu_]]
              exact ih26 _ (by omega) (c + 1) w6 _ V612 rfl (by omega) C612 (((F612 180 (by omega) (by omega) (by omega) (by omega) (by omega)).trans ((F611 180 (by omega)).trans h180_))) (fun p pn170_ pn171_ pn172_ pn173_ pn174_ pn187_ => ((F612 p pn170_ pn171_ pn172_ pn173_ pn174_).trans ((F611 p pn187_).trans (hGR1 p pn170_ pn171_ pn172_ pn173_ pn174_ pn187_)))) (fun a nr_ n161_ n169_ => ((S612 a nr_).trans ((S611 a nr_).trans (hSN26 a nr_ n161_ n169_)))) (fun j n13_ => ((congrFun (S612 161 (notR rfl)) j).trans ((congrFun (S611 161 (notR rfl)) j).trans (hHN26 j n13_)))) (by rw [eu_]; exact (by have h_ := (RM.keep hRN26 ((congrFun (S612 161 (notR rfl)) 13).trans (congrFun (S611 161 (notR rfl)) 13)) ((S612 169 (notR rfl)).trans (S611 169 (notR rfl)))); exact h_))
      exact lp26 _ 0 (3, 0) _ (up V610 161 13 0) rfl (by omega) (RS.cg C610 (fun j_ h1_ h2_ => up_ne2 (by omega)) (fun a_ h1_ h2_ => up_row h1_)) (f610_0) (fun p pn170_ pn171_ pn172_ pn173_ pn174_ pn187_ => rfl) (fun a nr_ n161_ n169_ => rfl) (fun j n13_ => rfl) (RM.zero (M := (up V610 161 13 0)) (rw := rw) up_eq)
    · exfalso; omega
  · exfalso; omega
set_option maxRecDepth 100000 in
theorem rm_divs {d : Nat} {M : Mem} {k : Nat} {pl : Nat → Pl k} {n : Int} {tx : Int → Int} {rc : Nat} {rw : Int → Int} {fc : Nat} {fa : Nat → Pl k} (H : RFS M k pl n tx rc rw fc fa) (i : Nat) (hi : i < 6) (e : Nat) (e1_ : 1 ≤ e) (e3_ : e ≤ 3) (hi4 : dg (pl i) ≤ 4) (hi0 : 0 ≤ dg (pl i)) (he : dg (pl i) < (e : Int)) : Ct 198 (d + 8) 276 [(1, 161), (0, (i : Int)), (0, (e : Int))] M (fun r_ M' => r_ = (0, 0) ∧ RFS M' k pl n tx 0 rw fc fa ∧ (∀ a : Int, (a < 161 ∨ 197 < a) → M' a = M a)) := by
  have hK : cd 276 = k276 := rfl
  obtain ⟨R, C, hpl, T, hR, hF⟩ := H
  have q1_ := qq_I k
  have p1_ := pp_I k
  have m1_ := mm_I k
  have bi_ := (hpl i hi).2
  have di_ := dg_lt9 bi_
  have u4_ := unq_4 (k := k) (s := e) (by omega)
  show Wp 198 _ 276 0 [(1, 161), (0, (i : Int)), (0, (e : Int)), (3, 0), (3, 0), (3, 0), (3, 0)] [] M _
  refine w_al hK rfl rfl ?_
  refine w_ic hK rfl ?_
  refine w_puti (n := 14) (m := 14) hK rfl rfl (by decide) (by decide) rfl rfl rfl rfl ?_
  refine w_il hK rfl rfl ?_
  refine w_i2l hK rfl (by omega) (by omega) ?_
  refine w_lc hK rfl ?_
  refine w_lcw hK rfl ?_
  refine w_call [(2, (e : Int)), (2, 1), (2, 3)] hK rfl rfl rfl rfl (Or.inl rfl) (r_in (e : Int) 1 3 (by omega) (by omega) (by omega) (by omega) (by omega) (by omega)) ?_
  rintro _ Mq ⟨rfl, e_⟩
  subst Mq
  have iI_614 := ite01 (1 ≤ (e : Int) ∧ (e : Int) ≤ 3)
  refine ⟨by show (0 : Nat) ≠ 9; decide, (?_ : Wp 198 _ 276 8 [(1, 161), (0, (i : Int)), (0, (e : Int)), (3, 0), (3, 0), (3, 0), (3, 0)] [(0, (if 1 ≤ (e : Int) ∧ (e : Int) ≤ 3 then 1 else 0))] (up M 161 14 0) _)⟩
  refine w_ne hK rfl (by omega) (by omega) (fun h8 => ?_) (fun h8 => ?_)
  · refine w_al hK rfl rfl ?_
    refine w_il hK rfl rfl ?_
    refine w_call [(1, 161), (0, (i : Int))] hK rfl rfl rfl rfl (Or.inr ⟨_, _, _, rfl, by decide, (by decide), rfl⟩) (r_ask (RS.cg C (fun j_ h1_ h2_ => up_ne2 (by omega)) (fun a_ h1_ h2_ => up_row h1_)) (PM.keep hpl (up_row (by decide))) i hi (dg (pl i)) (by omega)) ?_
    rintro _ V615 ⟨P615, rfl, C615, S615, F615, f615_0⟩
    refine ⟨by show (0 : Nat) ≠ 9; decide, (?_ : Wp 198 _ 276 14 [(1, 161), (0, (i : Int)), (0, (e : Int)), (3, 0), (3, 0), (3, 0), (3, 0)] [(0, (dg (pl i)))] V615 _)⟩
    refine w_is [(1, 161), (0, (i : Int)), (0, (e : Int)), (0, (dg (pl i))), (3, 0), (3, 0), (3, 0)] hK rfl rfl rfl ?_
    refine w_il hK rfl rfl ?_
    refine w_ge hK rfl (by omega) (by omega) (fun h16 => ?_) (fun h16 => ?_)
    · refine w_ic hK rfl ?_
      refine w_is [(1, 161), (0, (i : Int)), (0, (e : Int)), (0, (dg (pl i))), (0, 0), (3, 0), (3, 0)] hK rfl rfl rfl ?_
      refine w_al hK rfl rfl ?_
      refine w_ic hK rfl ?_
      refine w_puti (n := 13) (m := 13) hK rfl rfl (by decide) (by decide) rfl rfl rfl rfl ?_
      refine w_ic hK rfl ?_
      refine w_is [(1, 161), (0, (i : Int)), (0, (e : Int)), (0, (dg (pl i))), (0, 0), (0, 0), (3, 0)] hK rfl rfl rfl ?_
      refine w_il hK rfl rfl ?_
      refine w_al hK rfl rfl ?_
      refine w_il hK rfl rfl ?_
      refine w_call [(1, 161), (0, (e : Int))] hK rfl rfl rfl rfl (Or.inr ⟨_, _, _, rfl, by decide, (by decide), rfl⟩) (r_count (RS.cg C615 (fun j_ h1_ h2_ => up_ne2 (by omega)) (fun a_ h1_ h2_ => up_row h1_)).F e (by omega)) ?_
      rintro _ Mq ⟨rfl, e_⟩
      subst Mq
      refine ⟨by show (0 : Nat) ≠ 9; decide, (?_ : Wp 198 _ 276 30 [(1, 161), (0, (i : Int)), (0, (e : Int)), (0, (dg (pl i))), (0, 0), (0, 0), (3, 0)] [(0, (unq k e : Int)), (0, 0)] (up V615 161 13 0) _)⟩
      refine w_ge2 hK rfl (by omega) (by omega) (by omega) (by omega) (fun h30 => ?_) (fun h30 => ?_)
      · exfalso; omega
      · refine w_il hK rfl rfl ?_
        refine w_il hK rfl rfl ?_
        refine w_gt2 hK rfl (by omega) (by omega) (by omega) (by omega) (fun h33 => ?_) (fun h33 => ?_)
        · refine w_il hK rfl rfl ?_
          refine w_iret hK rfl rfl ?_
          exact ⟨rfl, ⟨_, (RS.cg C615 (fun j_ h1_ h2_ => up_ne2 (by omega)) (fun a_ h1_ h2_ => up_row h1_)), (PM.keep hpl ((up_row (by decide)).trans ((S615 167 (notR rfl)).trans (up_row (by decide))))), (TMs.keep T ((up_ne2 (by decide)).trans ((congrFun (S615 161 (notR rfl)) 11).trans (up_ne2 (by decide)))) ((up_row (by decide)).trans ((S615 168 (notR rfl)).trans (up_row (by decide))))), (RM.zero (M := (up V615 161 13 0)) (rw := rw) up_eq), (FM.keep hF ((up_ne2 (by decide)).trans ((congrFun (S615 161 (notR rfl)) 15).trans (up_ne2 (by decide)))) ((up_row (by decide)).trans ((S615 189 (notR rfl)).trans (up_row (by decide)))) ((up_row (by decide)).trans ((S615 190 (notR rfl)).trans (up_row (by decide)))))⟩, (fun a h_ => ((up_row (by omega)).trans ((S615 a (npR h_)).trans (up_row (by omega)))))⟩
        · exfalso; omega
    · exfalso; omega
  · exfalso; omega
set_option maxRecDepth 100000 in
theorem ry_divs {d : Nat} {M : Mem} {k : Nat} {pl : Nat → Pl k} {n : Int} {tx : Int → Int} {rc : Nat} {rw : Int → Int} {fc : Nat} {fa : Nat → Pl k} (H : RFS M k pl n tx rc rw fc fa) (i : Nat) (hi : i < 6) (e : Nat) (e1_ : 1 ≤ e) (e3_ : e ≤ 3) (hi0 : dg (pl i) < 0) : Ct 198 (d + 8) 276 [(1, 161), (0, (i : Int)), (0, (e : Int))] M (fun r_ M' => r_ = (0, (-2)) ∧ RFS M' k pl n tx rc rw fc fa ∧ (∀ a : Int, (a < 161 ∨ 197 < a) → M' a = M a)) := by
  have hK : cd 276 = k276 := rfl
  obtain ⟨R, C, hpl, T, hR, hF⟩ := H
  have q1_ := qq_I k
  have p1_ := pp_I k
  have m1_ := mm_I k
  have bi_ := (hpl i hi).2
  have di_ := dg_lt9 bi_
  show Wp 198 _ 276 0 [(1, 161), (0, (i : Int)), (0, (e : Int)), (3, 0), (3, 0), (3, 0), (3, 0)] [] M _
  refine w_al hK rfl rfl ?_
  refine w_ic hK rfl ?_
  refine w_puti (n := 14) (m := 14) hK rfl rfl (by decide) (by decide) rfl rfl rfl rfl ?_
  refine w_il hK rfl rfl ?_
  refine w_i2l hK rfl (by omega) (by omega) ?_
  refine w_lc hK rfl ?_
  refine w_lcw hK rfl ?_
  refine w_call [(2, (e : Int)), (2, 1), (2, 3)] hK rfl rfl rfl rfl (Or.inl rfl) (r_in (e : Int) 1 3 (by omega) (by omega) (by omega) (by omega) (by omega) (by omega)) ?_
  rintro _ Mq ⟨rfl, e_⟩
  subst Mq
  have iI_616 := ite01 (1 ≤ (e : Int) ∧ (e : Int) ≤ 3)
  refine ⟨by show (0 : Nat) ≠ 9; decide, (?_ : Wp 198 _ 276 8 [(1, 161), (0, (i : Int)), (0, (e : Int)), (3, 0), (3, 0), (3, 0), (3, 0)] [(0, (if 1 ≤ (e : Int) ∧ (e : Int) ≤ 3 then 1 else 0))] (up M 161 14 0) _)⟩
  refine w_ne hK rfl (by omega) (by omega) (fun h8 => ?_) (fun h8 => ?_)
  · refine w_al hK rfl rfl ?_
    refine w_il hK rfl rfl ?_
    refine w_call [(1, 161), (0, (i : Int))] hK rfl rfl rfl rfl (Or.inr ⟨_, _, _, rfl, by decide, (by decide), rfl⟩) (r_ask (RS.cg C (fun j_ h1_ h2_ => up_ne2 (by omega)) (fun a_ h1_ h2_ => up_row h1_)) (PM.keep hpl (up_row (by decide))) i hi (-2) (by omega)) ?_
    rintro _ V617 ⟨P617, rfl, C617, S617, F617, f617_0⟩
    refine ⟨by show (0 : Nat) ≠ 9; decide, (?_ : Wp 198 _ 276 14 [(1, 161), (0, (i : Int)), (0, (e : Int)), (3, 0), (3, 0), (3, 0), (3, 0)] [(0, (-2))] V617 _)⟩
    refine w_is [(1, 161), (0, (i : Int)), (0, (e : Int)), (0, (-2)), (3, 0), (3, 0), (3, 0)] hK rfl rfl rfl ?_
    refine w_il hK rfl rfl ?_
    refine w_ge hK rfl (by omega) (by omega) (fun h16 => ?_) (fun h16 => ?_)
    · exfalso; omega
    · refine w_il hK rfl rfl ?_
      refine w_iret hK rfl rfl ?_
      exact ⟨rfl, ⟨_, C617, (PM.keep hpl ((S617 167 (notR rfl)).trans (up_row (by decide)))), (TMs.keep T ((congrFun (S617 161 (notR rfl)) 11).trans (up_ne2 (by decide))) ((S617 168 (notR rfl)).trans (up_row (by decide)))), (RM.keep hR ((congrFun (S617 161 (notR rfl)) 13).trans (up_ne2 (by decide))) ((S617 169 (notR rfl)).trans (up_row (by decide)))), (FM.keep hF ((congrFun (S617 161 (notR rfl)) 15).trans (up_ne2 (by decide))) ((S617 189 (notR rfl)).trans (up_row (by decide))) ((S617 190 (notR rfl)).trans (up_row (by decide))))⟩, (fun a h_ => ((S617 a (npR h_)).trans (up_row (by omega))))⟩
  · exfalso; omega
set_option maxRecDepth 100000 in
theorem rz_divs {d : Nat} {M : Mem} {k : Nat} {pl : Nat → Pl k} {n : Int} {tx : Int → Int} {rc : Nat} {rw : Int → Int} {fc : Nat} {fa : Nat → Pl k} (H : RFS M k pl n tx rc rw fc fa) (i : Nat) (hi : i < 6) (e : Nat) (e1_ : 1 ≤ e) (e3_ : e ≤ 3) (hi0 : 4 < dg (pl i)) : Ct 198 (d + 8) 276 [(1, 161), (0, (i : Int)), (0, (e : Int))] M (fun r_ M' => r_ = (0, (-3)) ∧ RFS M' k pl n tx rc rw fc fa ∧ (∀ a : Int, (a < 161 ∨ 197 < a) → M' a = M a)) := by
  have hK : cd 276 = k276 := rfl
  obtain ⟨R, C, hpl, T, hR, hF⟩ := H
  have q1_ := qq_I k
  have p1_ := pp_I k
  have m1_ := mm_I k
  have bi_ := (hpl i hi).2
  have di_ := dg_lt9 bi_
  show Wp 198 _ 276 0 [(1, 161), (0, (i : Int)), (0, (e : Int)), (3, 0), (3, 0), (3, 0), (3, 0)] [] M _
  refine w_al hK rfl rfl ?_
  refine w_ic hK rfl ?_
  refine w_puti (n := 14) (m := 14) hK rfl rfl (by decide) (by decide) rfl rfl rfl rfl ?_
  refine w_il hK rfl rfl ?_
  refine w_i2l hK rfl (by omega) (by omega) ?_
  refine w_lc hK rfl ?_
  refine w_lcw hK rfl ?_
  refine w_call [(2, (e : Int)), (2, 1), (2, 3)] hK rfl rfl rfl rfl (Or.inl rfl) (r_in (e : Int) 1 3 (by omega) (by omega) (by omega) (by omega) (by omega) (by omega)) ?_
  rintro _ Mq ⟨rfl, e_⟩
  subst Mq
  have iI_618 := ite01 (1 ≤ (e : Int) ∧ (e : Int) ≤ 3)
  refine ⟨by show (0 : Nat) ≠ 9; decide, (?_ : Wp 198 _ 276 8 [(1, 161), (0, (i : Int)), (0, (e : Int)), (3, 0), (3, 0), (3, 0), (3, 0)] [(0, (if 1 ≤ (e : Int) ∧ (e : Int) ≤ 3 then 1 else 0))] (up M 161 14 0) _)⟩
  refine w_ne hK rfl (by omega) (by omega) (fun h8 => ?_) (fun h8 => ?_)
  · refine w_al hK rfl rfl ?_
    refine w_il hK rfl rfl ?_
    refine w_call [(1, 161), (0, (i : Int))] hK rfl rfl rfl rfl (Or.inr ⟨_, _, _, rfl, by decide, (by decide), rfl⟩) (r_ask (RS.cg C (fun j_ h1_ h2_ => up_ne2 (by omega)) (fun a_ h1_ h2_ => up_row h1_)) (PM.keep hpl (up_row (by decide))) i hi (-3) (by omega)) ?_
    rintro _ V619 ⟨P619, rfl, C619, S619, F619, f619_0⟩
    refine ⟨by show (0 : Nat) ≠ 9; decide, (?_ : Wp 198 _ 276 14 [(1, 161), (0, (i : Int)), (0, (e : Int)), (3, 0), (3, 0), (3, 0), (3, 0)] [(0, (-3))] V619 _)⟩
    refine w_is [(1, 161), (0, (i : Int)), (0, (e : Int)), (0, (-3)), (3, 0), (3, 0), (3, 0)] hK rfl rfl rfl ?_
    refine w_il hK rfl rfl ?_
    refine w_ge hK rfl (by omega) (by omega) (fun h16 => ?_) (fun h16 => ?_)
    · exfalso; omega
    · refine w_il hK rfl rfl ?_
      refine w_iret hK rfl rfl ?_
      exact ⟨rfl, ⟨_, C619, (PM.keep hpl ((S619 167 (notR rfl)).trans (up_row (by decide)))), (TMs.keep T ((congrFun (S619 161 (notR rfl)) 11).trans (up_ne2 (by decide))) ((S619 168 (notR rfl)).trans (up_row (by decide)))), (RM.keep hR ((congrFun (S619 161 (notR rfl)) 13).trans (up_ne2 (by decide))) ((S619 169 (notR rfl)).trans (up_row (by decide)))), (FM.keep hF ((congrFun (S619 161 (notR rfl)) 15).trans (up_ne2 (by decide))) ((S619 189 (notR rfl)).trans (up_row (by decide))) ((S619 190 (notR rfl)).trans (up_row (by decide))))⟩, (fun a h_ => ((S619 a (npR h_)).trans (up_row (by omega))))⟩
  · exfalso; omega
set_option maxRecDepth 100000 in
theorem rn_divs {d : Nat} {M : Mem} {k : Nat} {pl : Nat → Pl k} {n : Int} {tx : Int → Int} {rc : Nat} {rw : Int → Int} {fc : Nat} {fa : Nat → Pl k} (H : RFS M k pl n tx rc rw fc fa) (i x : Int) (i1_ : -2147483648 ≤ i) (i2_ : i ≤ 2147483647) (x1_ : -2147483648 ≤ x) (x2_ : x ≤ 2147483647) (hx : ¬ (1 ≤ x ∧ x ≤ 3)) : Ct 198 (d + 8) 276 [(1, 161), (0, i), (0, x)] M (fun r_ M' => r_ = (0, -1) ∧ RFS M' k pl n tx rc rw fc fa ∧ (∀ a : Int, (a < 161 ∨ 197 < a) → M' a = M a)) := by
  have hK : cd 276 = k276 := rfl
  obtain ⟨R, C, hpl, T, hR, hF⟩ := H
  have q1_ := qq_I k
  have p1_ := pp_I k
  have m1_ := mm_I k
  show Wp 198 _ 276 0 [(1, 161), (0, i), (0, x), (3, 0), (3, 0), (3, 0), (3, 0)] [] M _
  refine w_al hK rfl rfl ?_
  refine w_ic hK rfl ?_
  refine w_puti (n := 14) (m := 14) hK rfl rfl (by decide) (by decide) rfl rfl rfl rfl ?_
  refine w_il hK rfl rfl ?_
  refine w_i2l hK rfl (by omega) (by omega) ?_
  refine w_lc hK rfl ?_
  refine w_lcw hK rfl ?_
  refine w_call [(2, x), (2, 1), (2, 3)] hK rfl rfl rfl rfl (Or.inl rfl) (r_in x 1 3 (by omega) (by omega) (by omega) (by omega) (by omega) (by omega)) ?_
  rintro _ Mq ⟨rfl, e_⟩
  subst Mq
  have iI_620 := ite01 (1 ≤ x ∧ x ≤ 3)
  refine ⟨by show (0 : Nat) ≠ 9; decide, (?_ : Wp 198 _ 276 8 [(1, 161), (0, i), (0, x), (3, 0), (3, 0), (3, 0), (3, 0)] [(0, (if 1 ≤ x ∧ x ≤ 3 then 1 else 0))] (up M 161 14 0) _)⟩
  refine w_ne hK rfl (by omega) (by omega) (fun h8 => ?_) (fun h8 => ?_)
  · exfalso; omega
  · refine w_ic hK rfl ?_
    refine w_iret hK rfl rfl ?_
    exact ⟨rfl, ⟨_, (RS.cg C (fun j_ h1_ h2_ => up_ne2 (by omega)) (fun a_ h1_ h2_ => up_row h1_)), (PM.keep hpl (up_row (by decide))), (TMs.keep T (up_ne2 (by decide)) (up_row (by decide))), (RM.keep hR (up_ne2 (by decide)) (up_row (by decide))), (FM.keep hF (up_ne2 (by decide)) (up_row (by decide)) (up_row (by decide)))⟩, (fun a h_ => (up_row (by omega)))⟩
set_option maxRecDepth 100000 in
theorem rm2_divs {d : Nat} {M : Mem} {k : Nat} {pl : Nat → Pl k} {n : Int} {tx : Int → Int} {rc : Nat} {rw : Int → Int} {fc : Nat} {fa : Nat → Pl k} (H : RFS M k pl n tx rc rw fc fa) (i x : Int) (i1_ : -2147483648 ≤ i) (i2_ : i ≤ 2147483647) (x1_ : -2147483648 ≤ x) (x2_ : x ≤ 2147483647) (hn : ¬ (0 ≤ i ∧ i < 6)) (hx : 1 ≤ x ∧ x ≤ 3) : Ct 198 (d + 8) 276 [(1, 161), (0, i), (0, x)] M (fun r_ M' => r_ = (0, -1) ∧ RFS M' k pl n tx rc rw fc fa ∧ (∀ a : Int, (a < 161 ∨ 197 < a) → M' a = M a)) := by
  have hK : cd 276 = k276 := rfl
  obtain ⟨R, C, hpl, T, hR, hF⟩ := H
  have q1_ := qq_I k
  have p1_ := pp_I k
  have m1_ := mm_I k
  show Wp 198 _ 276 0 [(1, 161), (0, i), (0, x), (3, 0), (3, 0), (3, 0), (3, 0)] [] M _
  refine w_al hK rfl rfl ?_
  refine w_ic hK rfl ?_
  refine w_puti (n := 14) (m := 14) hK rfl rfl (by decide) (by decide) rfl rfl rfl rfl ?_
  refine w_il hK rfl rfl ?_
  refine w_i2l hK rfl (by omega) (by omega) ?_
  refine w_lc hK rfl ?_
  refine w_lcw hK rfl ?_
  refine w_call [(2, x), (2, 1), (2, 3)] hK rfl rfl rfl rfl (Or.inl rfl) (r_in x 1 3 (by omega) (by omega) (by omega) (by omega) (by omega) (by omega)) ?_
  rintro _ Mq ⟨rfl, e_⟩
  subst Mq
  have iI_621 := ite01 (1 ≤ x ∧ x ≤ 3)
  refine ⟨by show (0 : Nat) ≠ 9; decide, (?_ : Wp 198 _ 276 8 [(1, 161), (0, i), (0, x), (3, 0), (3, 0), (3, 0), (3, 0)] [(0, (if 1 ≤ x ∧ x ≤ 3 then 1 else 0))] (up M 161 14 0) _)⟩
  refine w_ne hK rfl (by omega) (by omega) (fun h8 => ?_) (fun h8 => ?_)
  · refine w_al hK rfl rfl ?_
    refine w_il hK rfl rfl ?_
    refine w_call [(1, 161), (0, i)] hK rfl rfl rfl rfl (Or.inr ⟨_, _, _, rfl, by decide, (by decide), rfl⟩) (r_askN i (by omega) (by omega) (by omega)) ?_
    rintro _ Mq ⟨rfl, e_⟩
    subst Mq
    refine ⟨by show (0 : Nat) ≠ 9; decide, (?_ : Wp 198 _ 276 14 [(1, 161), (0, i), (0, x), (3, 0), (3, 0), (3, 0), (3, 0)] [(0, (-1))] (up M 161 14 0) _)⟩
    refine w_is [(1, 161), (0, i), (0, x), (0, (-1)), (3, 0), (3, 0), (3, 0)] hK rfl rfl rfl ?_
    refine w_il hK rfl rfl ?_
    refine w_ge hK rfl (by omega) (by omega) (fun h16 => ?_) (fun h16 => ?_)
    · exfalso; omega
    · refine w_il hK rfl rfl ?_
      refine w_iret hK rfl rfl ?_
      exact ⟨rfl, ⟨_, (RS.cg C (fun j_ h1_ h2_ => up_ne2 (by omega)) (fun a_ h1_ h2_ => up_row h1_)), (PM.keep hpl (up_row (by decide))), (TMs.keep T (up_ne2 (by decide)) (up_row (by decide))), (RM.keep hR (up_ne2 (by decide)) (up_row (by decide))), (FM.keep hF (up_ne2 (by decide)) (up_row (by decide)) (up_row (by decide)))⟩, (fun a h_ => (up_row (by omega)))⟩
  · exfalso; omega
set_option maxRecDepth 100000 in
theorem ro_likes {d : Nat} {M : Mem} {k : Nat} {pl : Nat → Pl k} {n : Int} {tx : Int → Int} {rc : Nat} {rw : Int → Int} {fc : Nat} {fa : Nat → Pl k} (H : RFS M k pl n tx rc rw fc fa) (i : Nat) (hi : i < 6) (n0 : Nat) (hn0 : dg (pl i) = (n0 : Int)) (n1_ : 1 ≤ n0) (n2_ : n0 ≤ 2) : Ct 198 (d + 8) 290 [(1, 161), (0, (i : Int))] M (fun r_ M' => r_ = (0, (sI (fun c_ : Nat => bz (fwI (pl i) (mnp (k := k) n0 c_) n0 ≠ -1)) (unq k n0))) ∧ RFS M' k pl n tx rc rw fc fa ∧ (∀ a : Int, (a < 161 ∨ 197 < a) → M' a = M a)) := by
  have hK : cd 290 = k290 := rfl
  obtain ⟨R, C, hpl, T, hR, hF⟩ := H
  have q1_ := qq_I k
  have p1_ := pp_I k
  have m1_ := mm_I k
  have bi_ := (hpl i hi).2
  have di_ := dg_lt9 bi_
  have u4_ := unq_4 (k := k) (s := n0) (by omega)
  show Wp 198 _ 290 0 [(1, 161), (0, (i : Int)), (3, 0), (3, 0), (3, 0)] [] M _
  refine w_al hK rfl rfl ?_
  refine w_ic hK rfl ?_
  refine w_puti (n := 14) (m := 14) hK rfl rfl (by decide) (by decide) rfl rfl rfl rfl ?_
  refine w_al hK rfl rfl ?_
  refine w_il hK rfl rfl ?_
  refine w_call [(1, 161), (0, (i : Int))] hK rfl rfl rfl rfl (Or.inr ⟨_, _, _, rfl, by decide, (by decide), rfl⟩) (r_ask (RS.cg C (fun j_ h1_ h2_ => up_ne2 (by omega)) (fun a_ h1_ h2_ => up_row h1_)) (PM.keep hpl (up_row (by decide))) i hi (n0 : Int) (by omega)) ?_
  rintro _ V622 ⟨P622, rfl, C622, S622, F622, f622_0⟩
  refine ⟨by show (0 : Nat) ≠ 9; decide, (?_ : Wp 198 _ 290 6 [(1, 161), (0, (i : Int)), (3, 0), (3, 0), (3, 0)] [(0, (n0 : Int))] V622 _)⟩
  refine w_is [(1, 161), (0, (i : Int)), (0, (n0 : Int)), (3, 0), (3, 0)] hK rfl rfl rfl ?_
  refine w_il hK rfl rfl ?_
  refine w_ge hK rfl (by omega) (by omega) (fun h8 => ?_) (fun h8 => ?_)
  · refine w_il hK rfl rfl ?_
    refine w_i2l hK rfl (by omega) (by omega) ?_
    refine w_lc hK rfl ?_
    refine w_lcw hK rfl ?_
    refine w_call [(2, (n0 : Int)), (2, 1), (2, 2)] hK rfl rfl rfl rfl (Or.inl rfl) (r_in (n0 : Int) 1 2 (by omega) (by omega) (by omega) (by omega) (by omega) (by omega)) ?_
    rintro _ Mq ⟨rfl, e_⟩
    subst Mq
    have iI_623 := ite01 (1 ≤ (n0 : Int) ∧ (n0 : Int) ≤ 2)
    refine ⟨by show (0 : Nat) ≠ 9; decide, (?_ : Wp 198 _ 290 16 [(1, 161), (0, (i : Int)), (0, (n0 : Int)), (3, 0), (3, 0)] [(0, (if 1 ≤ (n0 : Int) ∧ (n0 : Int) ≤ 2 then 1 else 0))] V622 _)⟩
    refine w_ne hK rfl (by omega) (by omega) (fun h16 => ?_) (fun h16 => ?_)
    · refine w_ic hK rfl ?_
      refine w_is [(1, 161), (0, (i : Int)), (0, (n0 : Int)), (0, 0), (3, 0)] hK rfl rfl rfl ?_
      refine w_ic hK rfl ?_
      refine w_is [(1, 161), (0, (i : Int)), (0, (n0 : Int)), (0, 0), (0, 0)] hK rfl rfl rfl ?_
      have lp23 : ∀ (n_ : Nat) (c : Nat) (R1 : Int → Option (Pl k)) (N23 : Mem), 65537 - c = n_ → (c ≤ unq k n0) → (RS N23 k R1) → (R1 180 = some (pl i)) → ((∀ p : Int, p ≠ 170 → p ≠ 171 → p ≠ 172 → p ≠ 173 → p ≠ 174 → p ≠ 175 → p ≠ 176 → p ≠ 177 → p ≠ 178 → p ≠ 179 → p ≠ 196 → p ≠ 197 → p ≠ 181 → R1 p = P622 p)) → ((∀ a : Int, (∀ p : Int, isR p → a ≠ p) → N23 a = V622 a)) → Wp 198 (d + 8) 290 23 [(1, 161), (0, (i : Int)), (0, (n0 : Int)), (0, (sI (fun c_ : Nat => bz (fwI (pl i) (mnp (k := k) n0 c_) n0 ≠ -1)) c)), (0, (c : Int))] [] N23 (fun r_ M' => r_ = (0, (sI (fun c_ : Nat => bz (fwI (pl i) (mnp (k := k) n0 c_) n0 ≠ -1)) (unq k n0))) ∧ RFS M' k pl n tx rc rw fc fa ∧ (∀ a : Int, (a < 161 ∨ 197 < a) → M' a = M a)) := by
        intro n_
        induction n_ using Nat.strongRecOn with
        | _ n_ ih23 =>
        intro c R1 N23 hm23 hc hCR1 h180_ hGR1 hSN23
        have sb_ := sI_bz (q := fun c_ : Nat => fwI (pl i) (mnp (k := k) n0 c_) n0 ≠ -1) c
        refine w_il hK rfl rfl ?_
        refine w_al hK rfl rfl ?_
        refine w_il hK rfl rfl ?_
        refine w_call [(1, 161), (0, (n0 : Int))] hK rfl rfl rfl rfl (Or.inr ⟨_, _, _, rfl, by decide, (by decide), rfl⟩) (r_count hCR1.F n0 (by omega)) ?_
        rintro _ Mq ⟨rfl, e_⟩
        subst Mq
        refine ⟨by show (0 : Nat) ≠ 9; decide, (?_ : Wp 198 _ 290 27 [(1, 161), (0, (i : Int)), (0, (n0 : Int)), (0, (sI (fun c_ : Nat => bz (fwI (pl i) (mnp (k := k) n0 c_) n0 ≠ -1)) c)), (0, (c : Int))] [(0, (unq k n0 : Int)), (0, (c : Int))] N23 _)⟩
        refine w_ge2 hK rfl (by omega) (by omega) (by omega) (by omega) (fun h27 => ?_) (fun h27 => ?_)
        · refine w_il hK rfl rfl ?_
          refine w_iret hK rfl rfl ?_
          have e_ : c = unq k n0 := by omega
          subst e_
          exact ⟨rfl, ⟨_, hCR1, (PM.keep hpl ((hSN23 167 (notR rfl)).trans ((S622 167 (notR rfl)).trans (up_row (by decide))))), (TMs.keep T ((congrFun (hSN23 161 (notR rfl)) 11).trans ((congrFun (S622 161 (notR rfl)) 11).trans (up_ne2 (by decide)))) ((hSN23 168 (notR rfl)).trans ((S622 168 (notR rfl)).trans (up_row (by decide))))), (RM.keep hR ((congrFun (hSN23 161 (notR rfl)) 13).trans ((congrFun (S622 161 (notR rfl)) 13).trans (up_ne2 (by decide)))) ((hSN23 169 (notR rfl)).trans ((S622 169 (notR rfl)).trans (up_row (by decide))))), (FM.keep hF ((congrFun (hSN23 161 (notR rfl)) 15).trans ((congrFun (S622 161 (notR rfl)) 15).trans (up_ne2 (by decide)))) ((hSN23 189 (notR rfl)).trans ((S622 189 (notR rfl)).trans (up_row (by decide)))) ((hSN23 190 (notR rfl)).trans ((S622 190 (notR rfl)).trans (up_row (by decide)))))⟩, (fun a h_ => ((hSN23 a (npR h_)).trans ((S622 a (npR h_)).trans (up_row (by omega)))))⟩
        · refine w_al hK rfl rfl ?_
          refine w_il hK rfl rfl ?_
          refine w_il hK rfl rfl ?_
          refine w_al hK rfl rfl ?_
          refine w_getr (n := 27) (v := 181) hK rfl rfl (by decide) (by decide) rfl rfl rfl rfl ?_
          refine w_call [(1, 161), (0, (n0 : Int)), (0, (c : Int)), (1, 181)] hK rfl rfl rfl rfl (Or.inr ⟨_, _, _, rfl, by decide, (by decide), rfl⟩) (r_mof hCR1 (isR_of (p := 181) rfl) n0 c (by omega) (by omega)) ?_
          rintro _ V624 ⟨P624, rfl, C624, S624, F624, f624_0⟩
          refine ⟨by decide, (?_ : Wp 198 _ 290 34 [(1, 161), (0, (i : Int)), (0, (n0 : Int)), (0, (sI (fun c_ : Nat => bz (fwI (pl i) (mnp (k := k) n0 c_) n0 ≠ -1)) c)), (0, (c : Int))] [] V624 _)⟩
          refine w_il hK rfl rfl ?_
          refine w_al hK rfl rfl ?_
          refine w_al hK rfl rfl ?_
          refine w_getr (n := 26) (v := 180) hK rfl rfl (by decide) (by decide) rfl rfl rfl rfl ?_
          refine w_al hK rfl rfl ?_
          refine w_getr (n := 27) (v := 181) hK rfl rfl (by decide) (by decide) rfl rfl rfl rfl ?_
          have dm_ := mnp_dg (k := k) (n := n0) (c := c) (by omega)
          refine w_call [(1, 161), (1, 180), (1, 181)] hK rfl rfl rfl rfl (Or.inr ⟨_, _, _, rfl, by decide, (by decide), rfl⟩) (r_fway C624 ⟨(isR_of (p := 180) rfl), ((F624 180 (by omega)).trans h180_)⟩ ⟨(isR_of (p := 181) rfl), f624_0⟩ (n := n0) (by omega) (by omega) (by omega) (by omega) (by omega) bi_ (mnp_bd.mono (by omega))) ?_
          rintro _ V625 ⟨P625, rfl, C625, S625, F625⟩
          refine ⟨by show (0 : Nat) ≠ 9; decide, (?_ : Wp 198 _ 290 41 [(1, 161), (0, (i : Int)), (0, (n0 : Int)), (0, (sI (fun c_ : Nat => bz (fwI (pl i) (mnp (k := k) n0 c_) n0 ≠ -1)) c)), (0, (c : Int))] [(0, (fwI (pl i) (mnp (k := k) n0 c) n0)), (0, (sI (fun c_ : Nat => bz (fwI (pl i) (mnp (k := k) n0 c_) n0 ≠ -1)) c))] V625 _)⟩
          have fw_ := fwI_I (pl i) (mnp (k := k) n0 c) (n := n0) (by omega)
          refine w_ic hK rfl ?_
          refine w_eq2 hK rfl (by omega) (by omega) (by omega) (by omega) (fun h42 => ?_) (fun h42 => ?_)
          · refine w_ic hK rfl ?_
            refine w_add hK rfl (by omega) (by omega) ?_
            refine w_is [(1, 161), (0, (i : Int)), (0, (n0 : Int)), (0, ((sI (fun c_ : Nat => bz (fwI (pl i) (mnp (k := k) n0 c_) n0 ≠ -1)) c) + 0)), (0, (c : Int))] hK rfl rfl rfl ?_
            refine w_inc [(1, 161), (0, (i : Int)), (0, (n0 : Int)), (0, ((sI (fun c_ : Nat => bz (fwI (pl i) (mnp (k := k) n0 c_) n0 ≠ -1)) c) + 0)), (0, ((c : Int) + 1))] hK rfl rfl rfl (by omega) (by omega) rfl ?_
            refine w_goto hK rfl ?_
            have bb_ : bz (fwI (pl i) (mnp (k := k) n0 c) n0 ≠ -1) = 0 := bz_neg (fun q_ => q_ (by omega))
            rw [show ((sI (fun c_ : Nat => bz (fwI (pl i) (mnp (k := k) n0 c_) n0 ≠ -1)) c) + 0) = (sI (fun c_ : Nat => bz (fwI (pl i) (mnp (k := k) n0 c_) n0 ≠ -1)) (c + 1)) from (show ((sI (fun c_ : Nat => bz (fwI (pl i) (mnp (k := k) n0 c_) n0 ≠ -1)) c) + 0) = (sI (fun c_ : Nat => bz (fwI (pl i) (mnp (k := k) n0 c_) n0 ≠ -1)) c) + bz (fwI (pl i) (mnp (k := k) n0 c) n0 ≠ -1) by omega).trans rfl]
            exact ih23 _ (by omega) (c + 1) _ V625 rfl (by omega) C625 (((F625 180 (by omega) (by omega) (by omega) (by omega) (by omega) (by omega) (by omega) (by omega) (by omega) (by omega) (by omega) (by omega)).trans ((F624 180 (by omega)).trans h180_))) (fun p pn170_ pn171_ pn172_ pn173_ pn174_ pn175_ pn176_ pn177_ pn178_ pn179_ pn196_ pn197_ pn181_ => ((F625 p pn170_ pn171_ pn172_ pn173_ pn174_ pn175_ pn176_ pn177_ pn178_ pn179_ pn196_ pn197_).trans ((F624 p pn181_).trans (hGR1 p pn170_ pn171_ pn172_ pn173_ pn174_ pn175_ pn176_ pn177_ pn178_ pn179_ pn196_ pn197_ pn181_)))) (fun a nr_ => ((S625 a nr_).trans ((S624 a nr_).trans (hSN23 a nr_))))
          · refine w_ic hK rfl ?_
            refine w_goto hK rfl ?_
            refine w_add hK rfl (by omega) (by omega) ?_
            refine w_is [(1, 161), (0, (i : Int)), (0, (n0 : Int)), (0, ((sI (fun c_ : Nat => bz (fwI (pl i) (mnp (k := k) n0 c_) n0 ≠ -1)) c) + 1)), (0, (c : Int))] hK rfl rfl rfl ?_
            refine w_inc [(1, 161), (0, (i : Int)), (0, (n0 : Int)), (0, ((sI (fun c_ : Nat => bz (fwI (pl i) (mnp (k := k) n0 c_) n0 ≠ -1)) c) + 1)), (0, ((c : Int) + 1))] hK rfl rfl rfl (by omega) (by omega) rfl ?_
            refine w_goto hK rfl ?_
            have bb_ : bz (fwI (pl i) (mnp (k := k) n0 c) n0 ≠ -1) = 1 := bz_pos (by omega)
            rw [show ((sI (fun c_ : Nat => bz (fwI (pl i) (mnp (k := k) n0 c_) n0 ≠ -1)) c) + 1) = (sI (fun c_ : Nat => bz (fwI (pl i) (mnp (k := k) n0 c_) n0 ≠ -1)) (c + 1)) from (show ((sI (fun c_ : Nat => bz (fwI (pl i) (mnp (k := k) n0 c_) n0 ≠ -1)) c) + 1) = (sI (fun c_ : Nat => bz (fwI (pl i) (mnp (k := k) n0 c_) n0 ≠ -1)) c) + bz (fwI (pl i) (mnp (k := k) n0 c) n0 ≠ -1) by omega).trans rfl]
            exact ih23 _ (by omega) (c + 1) _ V625 rfl (by omega) C625 (((F625 180 (by omega) (by omega) (by omega) (by omega) (by omega) (by omega) (by omega) (by omega) (by omega) (by omega) (by omega) (by omega)).trans ((F624 180 (by omega)).trans h180_))) (fun p pn170_ pn171_ pn172_ pn173_ pn174_ pn175_ pn176_ pn177_ pn178_ pn179_ pn196_ pn197_ pn181_ => ((F625 p pn170_ pn171_ pn172_ pn173_ pn174_ pn175_ pn176_ pn177_ pn178_ pn179_ pn196_ pn197_).trans ((F624 p pn181_).trans (hGR1 p pn170_ pn171_ pn172_ pn173_ pn174_ pn175_ pn176_ pn177_ pn178_ pn179_ pn196_ pn197_ pn181_)))) (fun a nr_ => ((S625 a nr_).trans ((S624 a nr_).trans (hSN23 a nr_))))
      exact lp23 _ 0 _ V622 rfl (by omega) C622 (f622_0) (fun p pn170_ pn171_ pn172_ pn173_ pn174_ pn175_ pn176_ pn177_ pn178_ pn179_ pn196_ pn197_ pn181_ => rfl) (fun a nr_ => rfl)
    · exfalso; omega
  · exfalso; omega
set_option maxRecDepth 100000 in
theorem ry_likes {d : Nat} {M : Mem} {k : Nat} {pl : Nat → Pl k} {n : Int} {tx : Int → Int} {rc : Nat} {rw : Int → Int} {fc : Nat} {fa : Nat → Pl k} (H : RFS M k pl n tx rc rw fc fa) (i : Nat) (hi : i < 6) (hi0 : dg (pl i) < 0) : Ct 198 (d + 8) 290 [(1, 161), (0, (i : Int))] M (fun r_ M' => r_ = (0, (-2)) ∧ RFS M' k pl n tx rc rw fc fa ∧ (∀ a : Int, (a < 161 ∨ 197 < a) → M' a = M a)) := by
  have hK : cd 290 = k290 := rfl
  obtain ⟨R, C, hpl, T, hR, hF⟩ := H
  have q1_ := qq_I k
  have p1_ := pp_I k
  have m1_ := mm_I k
  have bi_ := (hpl i hi).2
  have di_ := dg_lt9 bi_
  show Wp 198 _ 290 0 [(1, 161), (0, (i : Int)), (3, 0), (3, 0), (3, 0)] [] M _
  refine w_al hK rfl rfl ?_
  refine w_ic hK rfl ?_
  refine w_puti (n := 14) (m := 14) hK rfl rfl (by decide) (by decide) rfl rfl rfl rfl ?_
  refine w_al hK rfl rfl ?_
  refine w_il hK rfl rfl ?_
  refine w_call [(1, 161), (0, (i : Int))] hK rfl rfl rfl rfl (Or.inr ⟨_, _, _, rfl, by decide, (by decide), rfl⟩) (r_ask (RS.cg C (fun j_ h1_ h2_ => up_ne2 (by omega)) (fun a_ h1_ h2_ => up_row h1_)) (PM.keep hpl (up_row (by decide))) i hi (-2) (by omega)) ?_
  rintro _ V626 ⟨P626, rfl, C626, S626, F626, f626_0⟩
  refine ⟨by show (0 : Nat) ≠ 9; decide, (?_ : Wp 198 _ 290 6 [(1, 161), (0, (i : Int)), (3, 0), (3, 0), (3, 0)] [(0, (-2))] V626 _)⟩
  refine w_is [(1, 161), (0, (i : Int)), (0, (-2)), (3, 0), (3, 0)] hK rfl rfl rfl ?_
  refine w_il hK rfl rfl ?_
  refine w_ge hK rfl (by omega) (by omega) (fun h8 => ?_) (fun h8 => ?_)
  · exfalso; omega
  · refine w_il hK rfl rfl ?_
    refine w_iret hK rfl rfl ?_
    exact ⟨rfl, ⟨_, C626, (PM.keep hpl ((S626 167 (notR rfl)).trans (up_row (by decide)))), (TMs.keep T ((congrFun (S626 161 (notR rfl)) 11).trans (up_ne2 (by decide))) ((S626 168 (notR rfl)).trans (up_row (by decide)))), (RM.keep hR ((congrFun (S626 161 (notR rfl)) 13).trans (up_ne2 (by decide))) ((S626 169 (notR rfl)).trans (up_row (by decide)))), (FM.keep hF ((congrFun (S626 161 (notR rfl)) 15).trans (up_ne2 (by decide))) ((S626 189 (notR rfl)).trans (up_row (by decide))) ((S626 190 (notR rfl)).trans (up_row (by decide))))⟩, (fun a h_ => ((S626 a (npR h_)).trans (up_row (by omega))))⟩
set_option maxRecDepth 100000 in
theorem rz_likes {d : Nat} {M : Mem} {k : Nat} {pl : Nat → Pl k} {n : Int} {tx : Int → Int} {rc : Nat} {rw : Int → Int} {fc : Nat} {fa : Nat → Pl k} (H : RFS M k pl n tx rc rw fc fa) (i : Nat) (hi : i < 6) (hi0 : 4 < dg (pl i)) : Ct 198 (d + 8) 290 [(1, 161), (0, (i : Int))] M (fun r_ M' => r_ = (0, (-3)) ∧ RFS M' k pl n tx rc rw fc fa ∧ (∀ a : Int, (a < 161 ∨ 197 < a) → M' a = M a)) := by
  have hK : cd 290 = k290 := rfl
  obtain ⟨R, C, hpl, T, hR, hF⟩ := H
  have q1_ := qq_I k
  have p1_ := pp_I k
  have m1_ := mm_I k
  have bi_ := (hpl i hi).2
  have di_ := dg_lt9 bi_
  show Wp 198 _ 290 0 [(1, 161), (0, (i : Int)), (3, 0), (3, 0), (3, 0)] [] M _
  refine w_al hK rfl rfl ?_
  refine w_ic hK rfl ?_
  refine w_puti (n := 14) (m := 14) hK rfl rfl (by decide) (by decide) rfl rfl rfl rfl ?_
  refine w_al hK rfl rfl ?_
  refine w_il hK rfl rfl ?_
  refine w_call [(1, 161), (0, (i : Int))] hK rfl rfl rfl rfl (Or.inr ⟨_, _, _, rfl, by decide, (by decide), rfl⟩) (r_ask (RS.cg C (fun j_ h1_ h2_ => up_ne2 (by omega)) (fun a_ h1_ h2_ => up_row h1_)) (PM.keep hpl (up_row (by decide))) i hi (-3) (by omega)) ?_
  rintro _ V627 ⟨P627, rfl, C627, S627, F627, f627_0⟩
  refine ⟨by show (0 : Nat) ≠ 9; decide, (?_ : Wp 198 _ 290 6 [(1, 161), (0, (i : Int)), (3, 0), (3, 0), (3, 0)] [(0, (-3))] V627 _)⟩
  refine w_is [(1, 161), (0, (i : Int)), (0, (-3)), (3, 0), (3, 0)] hK rfl rfl rfl ?_
  refine w_il hK rfl rfl ?_
  refine w_ge hK rfl (by omega) (by omega) (fun h8 => ?_) (fun h8 => ?_)
  · exfalso; omega
  · refine w_il hK rfl rfl ?_
    refine w_iret hK rfl rfl ?_
    exact ⟨rfl, ⟨_, C627, (PM.keep hpl ((S627 167 (notR rfl)).trans (up_row (by decide)))), (TMs.keep T ((congrFun (S627 161 (notR rfl)) 11).trans (up_ne2 (by decide))) ((S627 168 (notR rfl)).trans (up_row (by decide)))), (RM.keep hR ((congrFun (S627 161 (notR rfl)) 13).trans (up_ne2 (by decide))) ((S627 169 (notR rfl)).trans (up_row (by decide)))), (FM.keep hF ((congrFun (S627 161 (notR rfl)) 15).trans (up_ne2 (by decide))) ((S627 189 (notR rfl)).trans (up_row (by decide))) ((S627 190 (notR rfl)).trans (up_row (by decide))))⟩, (fun a h_ => ((S627 a (npR h_)).trans (up_row (by omega))))⟩
set_option maxRecDepth 100000 in
theorem rx_likes {d : Nat} {M : Mem} {k : Nat} {pl : Nat → Pl k} {n : Int} {tx : Int → Int} {rc : Nat} {rw : Int → Int} {fc : Nat} {fa : Nat → Pl k} (H : RFS M k pl n tx rc rw fc fa) (i : Nat) (hi : i < 6) (hi0 : dg (pl i) = 0 ∨ 2 < dg (pl i)) (hi4 : dg (pl i) ≤ 4) : Ct 198 (d + 8) 290 [(1, 161), (0, (i : Int))] M (fun r_ M' => r_ = (0, (-3)) ∧ RFS M' k pl n tx rc rw fc fa ∧ (∀ a : Int, (a < 161 ∨ 197 < a) → M' a = M a)) := by
  have hK : cd 290 = k290 := rfl
  obtain ⟨R, C, hpl, T, hR, hF⟩ := H
  have q1_ := qq_I k
  have p1_ := pp_I k
  have m1_ := mm_I k
  have bi_ := (hpl i hi).2
  have di_ := dg_lt9 bi_
  show Wp 198 _ 290 0 [(1, 161), (0, (i : Int)), (3, 0), (3, 0), (3, 0)] [] M _
  refine w_al hK rfl rfl ?_
  refine w_ic hK rfl ?_
  refine w_puti (n := 14) (m := 14) hK rfl rfl (by decide) (by decide) rfl rfl rfl rfl ?_
  refine w_al hK rfl rfl ?_
  refine w_il hK rfl rfl ?_
  refine w_call [(1, 161), (0, (i : Int))] hK rfl rfl rfl rfl (Or.inr ⟨_, _, _, rfl, by decide, (by decide), rfl⟩) (r_ask (RS.cg C (fun j_ h1_ h2_ => up_ne2 (by omega)) (fun a_ h1_ h2_ => up_row h1_)) (PM.keep hpl (up_row (by decide))) i hi (dg (pl i)) (by omega)) ?_
  rintro _ V628 ⟨P628, rfl, C628, S628, F628, f628_0⟩
  refine ⟨by show (0 : Nat) ≠ 9; decide, (?_ : Wp 198 _ 290 6 [(1, 161), (0, (i : Int)), (3, 0), (3, 0), (3, 0)] [(0, (dg (pl i)))] V628 _)⟩
  refine w_is [(1, 161), (0, (i : Int)), (0, (dg (pl i))), (3, 0), (3, 0)] hK rfl rfl rfl ?_
  refine w_il hK rfl rfl ?_
  refine w_ge hK rfl (by omega) (by omega) (fun h8 => ?_) (fun h8 => ?_)
  · refine w_il hK rfl rfl ?_
    refine w_i2l hK rfl (by omega) (by omega) ?_
    refine w_lc hK rfl ?_
    refine w_lcw hK rfl ?_
    refine w_call [(2, (dg (pl i))), (2, 1), (2, 2)] hK rfl rfl rfl rfl (Or.inl rfl) (r_in (dg (pl i)) 1 2 (by omega) (by omega) (by omega) (by omega) (by omega) (by omega)) ?_
    rintro _ Mq ⟨rfl, e_⟩
    subst Mq
    have iI_629 := ite01 (1 ≤ (dg (pl i)) ∧ (dg (pl i)) ≤ 2)
    refine ⟨by show (0 : Nat) ≠ 9; decide, (?_ : Wp 198 _ 290 16 [(1, 161), (0, (i : Int)), (0, (dg (pl i))), (3, 0), (3, 0)] [(0, (if 1 ≤ (dg (pl i)) ∧ (dg (pl i)) ≤ 2 then 1 else 0))] V628 _)⟩
    refine w_ne hK rfl (by omega) (by omega) (fun h16 => ?_) (fun h16 => ?_)
    · exfalso; omega
    · refine w_ic hK rfl ?_
      refine w_iret hK rfl rfl ?_
      exact ⟨rfl, ⟨_, C628, (PM.keep hpl ((S628 167 (notR rfl)).trans (up_row (by decide)))), (TMs.keep T ((congrFun (S628 161 (notR rfl)) 11).trans (up_ne2 (by decide))) ((S628 168 (notR rfl)).trans (up_row (by decide)))), (RM.keep hR ((congrFun (S628 161 (notR rfl)) 13).trans (up_ne2 (by decide))) ((S628 169 (notR rfl)).trans (up_row (by decide)))), (FM.keep hF ((congrFun (S628 161 (notR rfl)) 15).trans (up_ne2 (by decide))) ((S628 189 (notR rfl)).trans (up_row (by decide))) ((S628 190 (notR rfl)).trans (up_row (by decide))))⟩, (fun a h_ => ((S628 a (npR h_)).trans (up_row (by omega))))⟩
  · exfalso; omega
set_option maxRecDepth 100000 in
theorem rn_likes {d : Nat} {M : Mem} {k : Nat} {pl : Nat → Pl k} {n : Int} {tx : Int → Int} {rc : Nat} {rw : Int → Int} {fc : Nat} {fa : Nat → Pl k} (H : RFS M k pl n tx rc rw fc fa) (i : Int) (i1_ : -2147483648 ≤ i) (i2_ : i ≤ 2147483647) (hn : ¬ (0 ≤ i ∧ i < 6)) : Ct 198 (d + 8) 290 [(1, 161), (0, i)] M (fun r_ M' => r_ = (0, -1) ∧ RFS M' k pl n tx rc rw fc fa ∧ (∀ a : Int, (a < 161 ∨ 197 < a) → M' a = M a)) := by
  have hK : cd 290 = k290 := rfl
  obtain ⟨R, C, hpl, T, hR, hF⟩ := H
  have q1_ := qq_I k
  have p1_ := pp_I k
  have m1_ := mm_I k
  show Wp 198 _ 290 0 [(1, 161), (0, i), (3, 0), (3, 0), (3, 0)] [] M _
  refine w_al hK rfl rfl ?_
  refine w_ic hK rfl ?_
  refine w_puti (n := 14) (m := 14) hK rfl rfl (by decide) (by decide) rfl rfl rfl rfl ?_
  refine w_al hK rfl rfl ?_
  refine w_il hK rfl rfl ?_
  refine w_call [(1, 161), (0, i)] hK rfl rfl rfl rfl (Or.inr ⟨_, _, _, rfl, by decide, (by decide), rfl⟩) (r_askN i (by omega) (by omega) (by omega)) ?_
  rintro _ Mq ⟨rfl, e_⟩
  subst Mq
  refine ⟨by show (0 : Nat) ≠ 9; decide, (?_ : Wp 198 _ 290 6 [(1, 161), (0, i), (3, 0), (3, 0), (3, 0)] [(0, (-1))] (up M 161 14 0) _)⟩
  refine w_is [(1, 161), (0, i), (0, (-1)), (3, 0), (3, 0)] hK rfl rfl rfl ?_
  refine w_il hK rfl rfl ?_
  refine w_ge hK rfl (by omega) (by omega) (fun h8 => ?_) (fun h8 => ?_)
  · exfalso; omega
  · refine w_il hK rfl rfl ?_
    refine w_iret hK rfl rfl ?_
    exact ⟨rfl, ⟨_, (RS.cg C (fun j_ h1_ h2_ => up_ne2 (by omega)) (fun a_ h1_ h2_ => up_row h1_)), (PM.keep hpl (up_row (by decide))), (TMs.keep T (up_ne2 (by decide)) (up_row (by decide))), (RM.keep hR (up_ne2 (by decide)) (up_row (by decide))), (FM.keep hF (up_ne2 (by decide)) (up_row (by decide)) (up_row (by decide)))⟩, (fun a h_ => (up_row (by omega)))⟩
set_option maxRecDepth 100000 in
theorem ro_like {d : Nat} {M : Mem} {k : Nat} {pl : Nat → Pl k} {n : Int} {tx : Int → Int} {rc : Nat} {rw : Int → Int} {fc : Nat} {fa : Nat → Pl k} (H : RFS M k pl n tx rc rw fc fa) (i : Nat) (hi : i < 6) (j : Nat) (hj : j < 6) (n0 : Nat) (hi0 : dg (pl i) = (n0 : Int)) (hn0 : dg (pl j) = (n0 : Int)) (n1_ : 1 ≤ n0) (n4_ : n0 ≤ 4) (c0 : Nat) (c1_ : 1 ≤ c0) (c2_ : c0 < unq k n0) (hc0 : fwI (pl i) (pl j) n0 = (c0 : Int)) : Ct 198 (d + 8) 293 [(1, 161), (0, (i : Int)), (0, (j : Int))] M (fun r_ M' => r_ = (0, 1) ∧ RFS M' k pl n tx n0 (stw (fun m_ : Nat => ((bnp (k := k) n0 c0 m_).val : Int)) rw n0) fc fa ∧ (∀ a : Int, (a < 161 ∨ 197 < a) → M' a = M a)) := by
  have hK : cd 293 = k293 := rfl
  obtain ⟨R, C, hpl, T, hR, hF⟩ := H
  have q1_ := qq_I k
  have p1_ := pp_I k
  have m1_ := mm_I k
  have bi_ := (hpl i hi).2
  have di_ := dg_lt9 bi_
  have bj_ := (hpl j hj).2
  have dj_ := dg_lt9 bj_
  have u4_ := unq_4 (k := k) (s := n0) (by omega)
  show Wp 198 _ 293 0 [(1, 161), (0, (i : Int)), (0, (j : Int)), (3, 0), (3, 0), (3, 0), (3, 0)] [] M _
  refine w_al hK rfl rfl ?_
  refine w_ic hK rfl ?_
  refine w_puti (n := 14) (m := 14) hK rfl rfl (by decide) (by decide) rfl rfl rfl rfl ?_
  refine w_il hK rfl rfl ?_
  refine w_call [(0, (i : Int))] hK rfl rfl rfl rfl (Or.inl rfl) (r_place (i : Int) (by omega) (by omega)) ?_
  rintro _ Mq ⟨rfl, e_⟩
  subst Mq
  have pI_630 := ite01 (0 ≤ (i : Int) ∧ (i : Int) < 6)
  refine ⟨by show (0 : Nat) ≠ 9; decide, (?_ : Wp 198 _ 293 5 [(1, 161), (0, (i : Int)), (0, (j : Int)), (3, 0), (3, 0), (3, 0), (3, 0)] [(0, (if 0 ≤ (i : Int) ∧ (i : Int) < 6 then 1 else 0))] (up M 161 14 0) _)⟩
  refine w_eq hK rfl (by omega) (by omega) (fun h5 => ?_) (fun h5 => ?_)
  · exfalso; omega
  · refine w_il hK rfl rfl ?_
    refine w_call [(0, (j : Int))] hK rfl rfl rfl rfl (Or.inl rfl) (r_place (j : Int) (by omega) (by omega)) ?_
    rintro _ Mq ⟨rfl, e_⟩
    subst Mq
    have pI_631 := ite01 (0 ≤ (j : Int) ∧ (j : Int) < 6)
    refine ⟨by show (0 : Nat) ≠ 9; decide, (?_ : Wp 198 _ 293 8 [(1, 161), (0, (i : Int)), (0, (j : Int)), (3, 0), (3, 0), (3, 0), (3, 0)] [(0, (if 0 ≤ (j : Int) ∧ (j : Int) < 6 then 1 else 0))] (up M 161 14 0) _)⟩
    refine w_ne hK rfl (by omega) (by omega) (fun h8 => ?_) (fun h8 => ?_)
    · refine w_al hK rfl rfl ?_
      refine w_il hK rfl rfl ?_
      refine w_al hK rfl rfl ?_
      refine w_getr (n := 26) (v := 180) hK rfl rfl (by decide) (by decide) rfl rfl rfl rfl ?_
      refine w_call [(1, 161), (0, (i : Int)), (1, 180)] hK rfl rfl rfl rfl (Or.inr ⟨_, _, _, rfl, by decide, (by decide), rfl⟩) (r_load (RS.cg C (fun j_ h1_ h2_ => up_ne2 (by omega)) (fun a_ h1_ h2_ => up_row h1_)) (PM.keep hpl (up_row (by decide))) i hi (isR_of (p := 180) rfl)) ?_
      rintro _ V632 ⟨P632, rfl, C632, S632, F632, f632_0⟩
      refine ⟨by decide, (?_ : Wp 198 _ 293 16 [(1, 161), (0, (i : Int)), (0, (j : Int)), (3, 0), (3, 0), (3, 0), (3, 0)] [] V632 _)⟩
      refine w_al hK rfl rfl ?_
      refine w_il hK rfl rfl ?_
      refine w_al hK rfl rfl ?_
      refine w_getr (n := 27) (v := 181) hK rfl rfl (by decide) (by decide) rfl rfl rfl rfl ?_
      refine w_call [(1, 161), (0, (j : Int)), (1, 181)] hK rfl rfl rfl rfl (Or.inr ⟨_, _, _, rfl, by decide, (by decide), rfl⟩) (r_load C632 (PM.keep hpl ((S632 167 (notR rfl)).trans (up_row (by decide)))) j hj (isR_of (p := 181) rfl)) ?_
      rintro _ V633 ⟨P633, rfl, C633, S633, F633, f633_0⟩
      refine ⟨by decide, (?_ : Wp 198 _ 293 21 [(1, 161), (0, (i : Int)), (0, (j : Int)), (3, 0), (3, 0), (3, 0), (3, 0)] [] V633 _)⟩
      refine w_al hK rfl rfl ?_
      refine w_getr (n := 26) (v := 180) hK rfl rfl (by decide) (by decide) rfl rfl rfl rfl ?_
      have dI_ : -1 ≤ dg (pl i) ∧ dg (pl i) ≤ 47 := C633.dI ⟨(isR_of (p := 180) rfl), ((F633 180 (by omega)).trans f632_0)⟩
      refine w_call [(1, 180)] hK rfl rfl rfl rfl (Or.inl rfl) (r_deg C633 ⟨(isR_of (p := 180) rfl), ((F633 180 (by omega)).trans f632_0)⟩) ?_
      rintro _ Mq ⟨rfl, e_⟩
      subst Mq
      refine ⟨by show (0 : Nat) ≠ 9; decide, (?_ : Wp 198 _ 293 24 [(1, 161), (0, (i : Int)), (0, (j : Int)), (3, 0), (3, 0), (3, 0), (3, 0)] [(0, (dg (pl i)))] V633 _)⟩
      rw [hi0]
      refine w_is [(1, 161), (0, (i : Int)), (0, (j : Int)), (0, (n0 : Int)), (3, 0), (3, 0), (3, 0)] hK rfl rfl rfl ?_
      refine w_al hK rfl rfl ?_
      refine w_getr (n := 27) (v := 181) hK rfl rfl (by decide) (by decide) rfl rfl rfl rfl ?_
      have dI_ : -1 ≤ dg (pl j) ∧ dg (pl j) ≤ 47 := C633.dI ⟨(isR_of (p := 181) rfl), f633_0⟩
      refine w_call [(1, 181)] hK rfl rfl rfl rfl (Or.inl rfl) (r_deg C633 ⟨(isR_of (p := 181) rfl), f633_0⟩) ?_
      rintro _ Mq ⟨rfl, e_⟩
      subst Mq
      refine ⟨by show (0 : Nat) ≠ 9; decide, (?_ : Wp 198 _ 293 28 [(1, 161), (0, (i : Int)), (0, (j : Int)), (0, (n0 : Int)), (3, 0), (3, 0), (3, 0)] [(0, (dg (pl j)))] V633 _)⟩
      rw [hn0]
      refine w_is [(1, 161), (0, (i : Int)), (0, (j : Int)), (0, (n0 : Int)), (0, (n0 : Int)), (3, 0), (3, 0)] hK rfl rfl rfl ?_
      refine w_il hK rfl rfl ?_
      refine w_ic hK rfl ?_
      refine w_eq2 hK rfl (by omega) (by omega) (by omega) (by omega) (fun h31 => ?_) (fun h31 => ?_)
      · exfalso; omega
      · refine w_il hK rfl rfl ?_
        refine w_ic hK rfl ?_
        refine w_ne2 hK rfl (by omega) (by omega) (by omega) (by omega) (fun h34 => ?_) (fun h34 => ?_)
        · refine w_il hK rfl rfl ?_
          refine w_ic hK rfl ?_
          refine w_gt2 hK rfl (by omega) (by omega) (by omega) (by omega) (fun h39 => ?_) (fun h39 => ?_)
          · exfalso; omega
          · refine w_il hK rfl rfl ?_
            refine w_ic hK rfl ?_
            refine w_le2 hK rfl (by omega) (by omega) (by omega) (by omega) (fun h42 => ?_) (fun h42 => ?_)
            · refine w_il hK rfl rfl ?_
              refine w_il hK rfl rfl ?_
              refine w_ne2 hK rfl (by omega) (by omega) (by omega) (by omega) (fun h47 => ?_) (fun h47 => ?_)
              · exfalso; omega
              · refine w_il hK rfl rfl ?_
                refine w_ne hK rfl (by omega) (by omega) (fun h49 => ?_) (fun h49 => ?_)
                · refine w_al hK rfl rfl ?_
                  refine w_al hK rfl rfl ?_
                  refine w_getr (n := 26) (v := 180) hK rfl rfl (by decide) (by decide) rfl rfl rfl rfl ?_
                  refine w_al hK rfl rfl ?_
                  refine w_getr (n := 27) (v := 181) hK rfl rfl (by decide) (by decide) rfl rfl rfl rfl ?_
                  refine w_call [(1, 161), (1, 180), (1, 181)] hK rfl rfl rfl rfl (Or.inr ⟨_, _, _, rfl, by decide, (by decide), rfl⟩) (r_fway C633 ⟨(isR_of (p := 180) rfl), ((F633 180 (by omega)).trans f632_0)⟩ ⟨(isR_of (p := 181) rfl), f633_0⟩ (n := n0) (by omega) (by omega) (by omega) (by omega) (by omega) bi_ bj_) ?_
                  rintro _ V634 ⟨P634, rfl, C634, S634, F634⟩
                  rw [hc0]
                  refine ⟨by show (0 : Nat) ≠ 9; decide, (?_ : Wp 198 _ 293 58 [(1, 161), (0, (i : Int)), (0, (j : Int)), (0, (n0 : Int)), (0, (n0 : Int)), (3, 0), (3, 0)] [(0, (c0 : Int))] V634 _)⟩
                  refine w_is [(1, 161), (0, (i : Int)), (0, (j : Int)), (0, (n0 : Int)), (0, (n0 : Int)), (0, (c0 : Int)), (3, 0)] hK rfl rfl rfl ?_
                  refine w_al hK rfl rfl ?_
                  refine w_ic hK rfl ?_
                  refine w_puti (n := 13) (m := 13) hK rfl rfl (by decide) (by decide) rfl rfl rfl rfl ?_
                  refine w_il hK rfl rfl ?_
                  refine w_ic hK rfl ?_
                  refine w_ne2 hK rfl (by omega) (by omega) (by omega) (by omega) (fun h64 => ?_) (fun h64 => ?_)
                  · refine w_al hK rfl rfl ?_
                    refine w_il hK rfl rfl ?_
                    refine w_il hK rfl rfl ?_
                    refine w_al hK rfl rfl ?_
                    refine w_getr (n := 44) (v := 196) hK rfl rfl (by decide) (by decide) rfl rfl rfl rfl ?_
                    refine w_call [(1, 161), (0, (n0 : Int)), (0, (c0 : Int)), (1, 196)] hK rfl rfl rfl rfl (Or.inr ⟨_, _, _, rfl, by decide, (by decide), rfl⟩) (r_bof (RS.cg C634 (fun j_ h1_ h2_ => up_ne2 (by omega)) (fun a_ h1_ h2_ => up_row h1_)) (isR_of (p := 196) rfl) n0 c0 (by omega) (by omega)) ?_
                    rintro _ V635 ⟨P635, rfl, C635, S635, F635, f635_0⟩
                    refine ⟨by decide, (?_ : Wp 198 _ 293 73 [(1, 161), (0, (i : Int)), (0, (j : Int)), (0, (n0 : Int)), (0, (n0 : Int)), (0, (c0 : Int)), (3, 0)] [] V635 _)⟩
                    refine w_ic hK rfl ?_
                    refine w_is [(1, 161), (0, (i : Int)), (0, (j : Int)), (0, (n0 : Int)), (0, (n0 : Int)), (0, (c0 : Int)), (0, 0)] hK rfl rfl rfl ?_
                    have lp75 : ∀ (n_ : Nat) (m : Nat) (N75 : Mem), 5 - m = n_ → (m ≤ n0) → ((∀ a : Int, a ≠ 161 → a ≠ 169 → N75 a = V635 a)) → ((∀ j : Int, j ≠ 13 → N75 161 j = V635 161 j)) → (RM N75 m (stw (fun m_ : Nat => ((bnp (k := k) n0 c0 m_).val : Int)) rw m)) → Wp 198 (d + 8) 293 75 [(1, 161), (0, (i : Int)), (0, (j : Int)), (0, (n0 : Int)), (0, (n0 : Int)), (0, (c0 : Int)), (0, (m : Int))] [] N75 (fun r_ M' => r_ = (0, 1) ∧ RFS M' k pl n tx n0 (stw (fun m_ : Nat => ((bnp (k := k) n0 c0 m_).val : Int)) rw n0) fc fa ∧ (∀ a : Int, (a < 161 ∨ 197 < a) → M' a = M a)) := by
                      intro n_
                      induction n_ using Nat.strongRecOn with
                      | _ n_ ih75 =>
                      intro m N75 hm75 hm_ hSN75 hHN75 hRN75
                      refine w_il hK rfl rfl ?_
                      refine w_il hK rfl rfl ?_
                      refine w_ge2 hK rfl (by omega) (by omega) (by omega) (by omega) (fun h77 => ?_) (fun h77 => ?_)
                      · refine w_ic hK rfl ?_
                        refine w_iret hK rfl rfl ?_
                        have e_ : m = n0 := by omega
                        subst e_
                        exact ⟨rfl, ⟨_, (RS.cg C635 (fun j_ h1_ h2_ => hHN75 j_ (by omega)) (fun a_ h1_ h2_ => hSN75 a_ h1_ (RSc_ne h2_ (by decide) (notR rfl)))), (PM.keep hpl ((hSN75 167 (by decide) (by decide)).trans ((S635 167 (notR rfl)).trans ((up_row (by decide)).trans ((S634 167 (notR rfl)).trans ((S633 167 (notR rfl)).trans ((S632 167 (notR rfl)).trans (up_row (by decide))))))))), (TMs.keep T ((hHN75 11 (by decide)).trans ((congrFun (S635 161 (notR rfl)) 11).trans ((up_ne2 (by decide)).trans ((congrFun (S634 161 (notR rfl)) 11).trans ((congrFun (S633 161 (notR rfl)) 11).trans ((congrFun (S632 161 (notR rfl)) 11).trans (up_ne2 (by decide)))))))) ((hSN75 168 (by decide) (by decide)).trans ((S635 168 (notR rfl)).trans ((up_row (by decide)).trans ((S634 168 (notR rfl)).trans ((S633 168 (notR rfl)).trans ((S632 168 (notR rfl)).trans (up_row (by decide))))))))), hRN75, (FM.keep hF ((hHN75 15 (by decide)).trans ((congrFun (S635 161 (notR rfl)) 15).trans ((up_ne2 (by decide)).trans ((congrFun (S634 161 (notR rfl)) 15).trans ((congrFun (S633 161 (notR rfl)) 15).trans ((congrFun (S632 161 (notR rfl)) 15).trans (up_ne2 (by decide)))))))) ((hSN75 189 (by decide) (by decide)).trans ((S635 189 (notR rfl)).trans ((up_row (by decide)).trans ((S634 189 (notR rfl)).trans ((S633 189 (notR rfl)).trans ((S632 189 (notR rfl)).trans (up_row (by decide)))))))) ((hSN75 190 (by decide) (by decide)).trans ((S635 190 (notR rfl)).trans ((up_row (by decide)).trans ((S634 190 (notR rfl)).trans ((S633 190 (notR rfl)).trans ((S632 190 (notR rfl)).trans (up_row (by decide)))))))))⟩, (fun a h_ => ((hSN75 a (by omega) (by omega)).trans ((S635 a (npR h_)).trans ((up_row (by omega)).trans ((S634 a (npR h_)).trans ((S633 a (npR h_)).trans ((S632 a (npR h_)).trans (up_row (by omega)))))))))⟩
                      · refine w_al hK rfl rfl ?_
                        refine w_al hK rfl rfl ?_
                        refine w_getr (n := 44) (v := 196) hK rfl rfl (by decide) (by decide) rfl rfl rfl rfl ?_
                        refine w_il hK rfl rfl ?_
                        refine w_ia hK rfl rfl (by decide) (by decide) (by omega) (by omega) ?_
                        rw [show N75 196 (m : Int) = (((bnp (k := k) n0 c0) m).val : Int) from (RS.cg C635 (fun j_ h1_ h2_ => hHN75 j_ (by omega)) (fun a_ h1_ h2_ => hSN75 a_ h1_ (RSc_ne h2_ (by decide) (notR rfl)))).atz ⟨(isR_of (p := 196) rfl), f635_0⟩ (j := m) (by omega) (by omega)]
                        have em_ := el_I (bnp (k := k) n0 c0 m)
                        refine w_i2l hK rfl (by omega) (by omega) ?_
                        refine w_call [(1, 161), (2, (((bnp (k := k) n0 c0) m).val : Int))] hK rfl rfl rfl rfl (Or.inr ⟨_, _, _, rfl, by decide, (by decide), rfl⟩) (r_tell hRN75 (by omega) (((bnp (k := k) n0 c0) m).val : Int)) ?_
                        rintro _ V636 ⟨rfl, R636, F636, G636⟩
                        refine ⟨by decide, (?_ : Wp 198 _ 293 85 [(1, 161), (0, (i : Int)), (0, (j : Int)), (0, (n0 : Int)), (0, (n0 : Int)), (0, (c0 : Int)), (0, (m : Int))] [] V636 _)⟩
                        refine w_inc [(1, 161), (0, (i : Int)), (0, (j : Int)), (0, (n0 : Int)), (0, (n0 : Int)), (0, (c0 : Int)), (0, ((m : Int) + 1))] hK rfl rfl rfl (by omega) (by omega) rfl ?_
                        refine w_goto hK rfl ?_
                        exact ih75 _ (by omega) (m + 1) V636 rfl (by omega) (fun a n161_ n169_ => ((F636 a n161_ n169_).trans (hSN75 a n161_ n169_))) (fun j n13_ => ((G636 j n13_).trans (hHN75 j n13_))) R636
                    exact lp75 _ 0 V635 rfl (by omega) (fun a n161_ n169_ => rfl) (fun j n13_ => rfl) (RM.keep (RM.zero (M := (up V634 161 13 0)) (rw := rw) up_eq) (congrFun (S635 161 (notR rfl)) 13) (S635 169 (notR rfl)))
                  · exfalso; omega
                · exfalso; omega
            · exfalso; omega
        · exfalso; omega
    · exfalso; omega
set_option maxRecDepth 100000 in
theorem rw_like {d : Nat} {M : Mem} {k : Nat} {pl : Nat → Pl k} {n : Int} {tx : Int → Int} {rc : Nat} {rw : Int → Int} {fc : Nat} {fa : Nat → Pl k} (H : RFS M k pl n tx rc rw fc fa) (i : Nat) (hi : i < 6) (j : Nat) (hj : j < 6) (n0 : Nat) (hi0 : dg (pl i) = (n0 : Int)) (hn0 : dg (pl j) = (n0 : Int)) (n1_ : 1 ≤ n0) (n4_ : n0 ≤ 4) (hc0 : fwI (pl i) (pl j) n0 = -1) : Ct 198 (d + 8) 293 [(1, 161), (0, (i : Int)), (0, (j : Int))] M (fun r_ M' => r_ = (0, 0) ∧ RFS M' k pl n tx 0 rw fc fa ∧ (∀ a : Int, (a < 161 ∨ 197 < a) → M' a = M a)) := by
  have hK : cd 293 = k293 := rfl
  obtain ⟨R, C, hpl, T, hR, hF⟩ := H
  have q1_ := qq_I k
  have p1_ := pp_I k
  have m1_ := mm_I k
  have bi_ := (hpl i hi).2
  have di_ := dg_lt9 bi_
  have bj_ := (hpl j hj).2
  have dj_ := dg_lt9 bj_
  have u4_ := unq_4 (k := k) (s := n0) (by omega)
  show Wp 198 _ 293 0 [(1, 161), (0, (i : Int)), (0, (j : Int)), (3, 0), (3, 0), (3, 0), (3, 0)] [] M _
  refine w_al hK rfl rfl ?_
  refine w_ic hK rfl ?_
  refine w_puti (n := 14) (m := 14) hK rfl rfl (by decide) (by decide) rfl rfl rfl rfl ?_
  refine w_il hK rfl rfl ?_
  refine w_call [(0, (i : Int))] hK rfl rfl rfl rfl (Or.inl rfl) (r_place (i : Int) (by omega) (by omega)) ?_
  rintro _ Mq ⟨rfl, e_⟩
  subst Mq
  have pI_637 := ite01 (0 ≤ (i : Int) ∧ (i : Int) < 6)
  refine ⟨by show (0 : Nat) ≠ 9; decide, (?_ : Wp 198 _ 293 5 [(1, 161), (0, (i : Int)), (0, (j : Int)), (3, 0), (3, 0), (3, 0), (3, 0)] [(0, (if 0 ≤ (i : Int) ∧ (i : Int) < 6 then 1 else 0))] (up M 161 14 0) _)⟩
  refine w_eq hK rfl (by omega) (by omega) (fun h5 => ?_) (fun h5 => ?_)
  · exfalso; omega
  · refine w_il hK rfl rfl ?_
    refine w_call [(0, (j : Int))] hK rfl rfl rfl rfl (Or.inl rfl) (r_place (j : Int) (by omega) (by omega)) ?_
    rintro _ Mq ⟨rfl, e_⟩
    subst Mq
    have pI_638 := ite01 (0 ≤ (j : Int) ∧ (j : Int) < 6)
    refine ⟨by show (0 : Nat) ≠ 9; decide, (?_ : Wp 198 _ 293 8 [(1, 161), (0, (i : Int)), (0, (j : Int)), (3, 0), (3, 0), (3, 0), (3, 0)] [(0, (if 0 ≤ (j : Int) ∧ (j : Int) < 6 then 1 else 0))] (up M 161 14 0) _)⟩
    refine w_ne hK rfl (by omega) (by omega) (fun h8 => ?_) (fun h8 => ?_)
    · refine w_al hK rfl rfl ?_
      refine w_il hK rfl rfl ?_
      refine w_al hK rfl rfl ?_
      refine w_getr (n := 26) (v := 180) hK rfl rfl (by decide) (by decide) rfl rfl rfl rfl ?_
      refine w_call [(1, 161), (0, (i : Int)), (1, 180)] hK rfl rfl rfl rfl (Or.inr ⟨_, _, _, rfl, by decide, (by decide), rfl⟩) (r_load (RS.cg C (fun j_ h1_ h2_ => up_ne2 (by omega)) (fun a_ h1_ h2_ => up_row h1_)) (PM.keep hpl (up_row (by decide))) i hi (isR_of (p := 180) rfl)) ?_
      rintro _ V639 ⟨P639, rfl, C639, S639, F639, f639_0⟩
      refine ⟨by decide, (?_ : Wp 198 _ 293 16 [(1, 161), (0, (i : Int)), (0, (j : Int)), (3, 0), (3, 0), (3, 0), (3, 0)] [] V639 _)⟩
      refine w_al hK rfl rfl ?_
      refine w_il hK rfl rfl ?_
      refine w_al hK rfl rfl ?_
      refine w_getr (n := 27) (v := 181) hK rfl rfl (by decide) (by decide) rfl rfl rfl rfl ?_
      refine w_call [(1, 161), (0, (j : Int)), (1, 181)] hK rfl rfl rfl rfl (Or.inr ⟨_, _, _, rfl, by decide, (by decide), rfl⟩) (r_load C639 (PM.keep hpl ((S639 167 (notR rfl)).trans (up_row (by decide)))) j hj (isR_of (p := 181) rfl)) ?_
      rintro _ V640 ⟨P640, rfl, C640, S640, F640, f640_0⟩
      refine ⟨by decide, (?_ : Wp 198 _ 293 21 [(1, 161), (0, (i : Int)), (0, (j : Int)), (3, 0), (3, 0), (3, 0), (3, 0)] [] V640 _)⟩
      refine w_al hK rfl rfl ?_
      refine w_getr (n := 26) (v := 180) hK rfl rfl (by decide) (by decide) rfl rfl rfl rfl ?_
      have dI_ : -1 ≤ dg (pl i) ∧ dg (pl i) ≤ 47 := C640.dI ⟨(isR_of (p := 180) rfl), ((F640 180 (by omega)).trans f639_0)⟩
      refine w_call [(1, 180)] hK rfl rfl rfl rfl (Or.inl rfl) (r_deg C640 ⟨(isR_of (p := 180) rfl), ((F640 180 (by omega)).trans f639_0)⟩) ?_
      rintro _ Mq ⟨rfl, e_⟩
      subst Mq
      refine ⟨by show (0 : Nat) ≠ 9; decide, (?_ : Wp 198 _ 293 24 [(1, 161), (0, (i : Int)), (0, (j : Int)), (3, 0), (3, 0), (3, 0), (3, 0)] [(0, (dg (pl i)))] V640 _)⟩
      rw [hi0]
      refine w_is [(1, 161), (0, (i : Int)), (0, (j : Int)), (0, (n0 : Int)), (3, 0), (3, 0), (3, 0)] hK rfl rfl rfl ?_
      refine w_al hK rfl rfl ?_
      refine w_getr (n := 27) (v := 181) hK rfl rfl (by decide) (by decide) rfl rfl rfl rfl ?_
      have dI_ : -1 ≤ dg (pl j) ∧ dg (pl j) ≤ 47 := C640.dI ⟨(isR_of (p := 181) rfl), f640_0⟩
      refine w_call [(1, 181)] hK rfl rfl rfl rfl (Or.inl rfl) (r_deg C640 ⟨(isR_of (p := 181) rfl), f640_0⟩) ?_
      rintro _ Mq ⟨rfl, e_⟩
      subst Mq
      refine ⟨by show (0 : Nat) ≠ 9; decide, (?_ : Wp 198 _ 293 28 [(1, 161), (0, (i : Int)), (0, (j : Int)), (0, (n0 : Int)), (3, 0), (3, 0), (3, 0)] [(0, (dg (pl j)))] V640 _)⟩
      rw [hn0]
      refine w_is [(1, 161), (0, (i : Int)), (0, (j : Int)), (0, (n0 : Int)), (0, (n0 : Int)), (3, 0), (3, 0)] hK rfl rfl rfl ?_
      refine w_il hK rfl rfl ?_
      refine w_ic hK rfl ?_
      refine w_eq2 hK rfl (by omega) (by omega) (by omega) (by omega) (fun h31 => ?_) (fun h31 => ?_)
      · exfalso; omega
      · refine w_il hK rfl rfl ?_
        refine w_ic hK rfl ?_
        refine w_ne2 hK rfl (by omega) (by omega) (by omega) (by omega) (fun h34 => ?_) (fun h34 => ?_)
        · refine w_il hK rfl rfl ?_
          refine w_ic hK rfl ?_
          refine w_gt2 hK rfl (by omega) (by omega) (by omega) (by omega) (fun h39 => ?_) (fun h39 => ?_)
          · exfalso; omega
          · refine w_il hK rfl rfl ?_
            refine w_ic hK rfl ?_
            refine w_le2 hK rfl (by omega) (by omega) (by omega) (by omega) (fun h42 => ?_) (fun h42 => ?_)
            · refine w_il hK rfl rfl ?_
              refine w_il hK rfl rfl ?_
              refine w_ne2 hK rfl (by omega) (by omega) (by omega) (by omega) (fun h47 => ?_) (fun h47 => ?_)
              · exfalso; omega
              · refine w_il hK rfl rfl ?_
                refine w_ne hK rfl (by omega) (by omega) (fun h49 => ?_) (fun h49 => ?_)
                · refine w_al hK rfl rfl ?_
                  refine w_al hK rfl rfl ?_
                  refine w_getr (n := 26) (v := 180) hK rfl rfl (by decide) (by decide) rfl rfl rfl rfl ?_
                  refine w_al hK rfl rfl ?_
                  refine w_getr (n := 27) (v := 181) hK rfl rfl (by decide) (by decide) rfl rfl rfl rfl ?_
                  refine w_call [(1, 161), (1, 180), (1, 181)] hK rfl rfl rfl rfl (Or.inr ⟨_, _, _, rfl, by decide, (by decide), rfl⟩) (r_fway C640 ⟨(isR_of (p := 180) rfl), ((F640 180 (by omega)).trans f639_0)⟩ ⟨(isR_of (p := 181) rfl), f640_0⟩ (n := n0) (by omega) (by omega) (by omega) (by omega) (by omega) bi_ bj_) ?_
                  rintro _ V641 ⟨P641, rfl, C641, S641, F641⟩
                  rw [hc0]
                  refine ⟨by show (0 : Nat) ≠ 9; decide, (?_ : Wp 198 _ 293 58 [(1, 161), (0, (i : Int)), (0, (j : Int)), (0, (n0 : Int)), (0, (n0 : Int)), (3, 0), (3, 0)] [(0, (-1))] V641 _)⟩
                  refine w_is [(1, 161), (0, (i : Int)), (0, (j : Int)), (0, (n0 : Int)), (0, (n0 : Int)), (0, (-1)), (3, 0)] hK rfl rfl rfl ?_
                  refine w_al hK rfl rfl ?_
                  refine w_ic hK rfl ?_
                  refine w_puti (n := 13) (m := 13) hK rfl rfl (by decide) (by decide) rfl rfl rfl rfl ?_
                  refine w_il hK rfl rfl ?_
                  refine w_ic hK rfl ?_
                  refine w_ne2 hK rfl (by omega) (by omega) (by omega) (by omega) (fun h64 => ?_) (fun h64 => ?_)
                  · exfalso; omega
                  · refine w_ic hK rfl ?_
                    refine w_iret hK rfl rfl ?_
                    exact ⟨rfl, ⟨_, (RS.cg C641 (fun j_ h1_ h2_ => up_ne2 (by omega)) (fun a_ h1_ h2_ => up_row h1_)), (PM.keep hpl ((up_row (by decide)).trans ((S641 167 (notR rfl)).trans ((S640 167 (notR rfl)).trans ((S639 167 (notR rfl)).trans (up_row (by decide))))))), (TMs.keep T ((up_ne2 (by decide)).trans ((congrFun (S641 161 (notR rfl)) 11).trans ((congrFun (S640 161 (notR rfl)) 11).trans ((congrFun (S639 161 (notR rfl)) 11).trans (up_ne2 (by decide)))))) ((up_row (by decide)).trans ((S641 168 (notR rfl)).trans ((S640 168 (notR rfl)).trans ((S639 168 (notR rfl)).trans (up_row (by decide))))))), (RM.zero (M := (up V641 161 13 0)) (rw := rw) up_eq), (FM.keep hF ((up_ne2 (by decide)).trans ((congrFun (S641 161 (notR rfl)) 15).trans ((congrFun (S640 161 (notR rfl)) 15).trans ((congrFun (S639 161 (notR rfl)) 15).trans (up_ne2 (by decide)))))) ((up_row (by decide)).trans ((S641 189 (notR rfl)).trans ((S640 189 (notR rfl)).trans ((S639 189 (notR rfl)).trans (up_row (by decide)))))) ((up_row (by decide)).trans ((S641 190 (notR rfl)).trans ((S640 190 (notR rfl)).trans ((S639 190 (notR rfl)).trans (up_row (by decide)))))))⟩, (fun a h_ => ((up_row (by omega)).trans ((S641 a (npR h_)).trans ((S640 a (npR h_)).trans ((S639 a (npR h_)).trans (up_row (by omega)))))))⟩
                · exfalso; omega
            · exfalso; omega
        · exfalso; omega
    · exfalso; omega
set_option maxRecDepth 100000 in
theorem rn_like {d : Nat} {M : Mem} {k : Nat} {pl : Nat → Pl k} {n : Int} {tx : Int → Int} {rc : Nat} {rw : Int → Int} {fc : Nat} {fa : Nat → Pl k} (H : RFS M k pl n tx rc rw fc fa) (i j : Int) (i1_ : -2147483648 ≤ i) (i2_ : i ≤ 2147483647) (j1_ : -2147483648 ≤ j) (j2_ : j ≤ 2147483647) (hn : ¬ ((0 ≤ i ∧ i < 6) ∧ (0 ≤ j ∧ j < 6))) : Ct 198 (d + 8) 293 [(1, 161), (0, i), (0, j)] M (fun r_ M' => r_ = (0, -1) ∧ RFS M' k pl n tx rc rw fc fa ∧ (∀ a : Int, (a < 161 ∨ 197 < a) → M' a = M a)) := by
  have hK : cd 293 = k293 := rfl
  obtain ⟨R, C, hpl, T, hR, hF⟩ := H
  have q1_ := qq_I k
  have p1_ := pp_I k
  have m1_ := mm_I k
  show Wp 198 _ 293 0 [(1, 161), (0, i), (0, j), (3, 0), (3, 0), (3, 0), (3, 0)] [] M _
  refine w_al hK rfl rfl ?_
  refine w_ic hK rfl ?_
  refine w_puti (n := 14) (m := 14) hK rfl rfl (by decide) (by decide) rfl rfl rfl rfl ?_
  refine w_il hK rfl rfl ?_
  refine w_call [(0, i)] hK rfl rfl rfl rfl (Or.inl rfl) (r_place i (by omega) (by omega)) ?_
  rintro _ Mq ⟨rfl, e_⟩
  subst Mq
  have pI_642 := ite01 (0 ≤ i ∧ i < 6)
  refine ⟨by show (0 : Nat) ≠ 9; decide, (?_ : Wp 198 _ 293 5 [(1, 161), (0, i), (0, j), (3, 0), (3, 0), (3, 0), (3, 0)] [(0, (if 0 ≤ i ∧ i < 6 then 1 else 0))] (up M 161 14 0) _)⟩
  refine w_eq hK rfl (by omega) (by omega) (fun h5 => ?_) (fun h5 => ?_)
  · refine w_ic hK rfl ?_
    refine w_iret hK rfl rfl ?_
    exact ⟨rfl, ⟨_, (RS.cg C (fun j_ h1_ h2_ => up_ne2 (by omega)) (fun a_ h1_ h2_ => up_row h1_)), (PM.keep hpl (up_row (by decide))), (TMs.keep T (up_ne2 (by decide)) (up_row (by decide))), (RM.keep hR (up_ne2 (by decide)) (up_row (by decide))), (FM.keep hF (up_ne2 (by decide)) (up_row (by decide)) (up_row (by decide)))⟩, (fun a h_ => (up_row (by omega)))⟩
  · refine w_il hK rfl rfl ?_
    refine w_call [(0, j)] hK rfl rfl rfl rfl (Or.inl rfl) (r_place j (by omega) (by omega)) ?_
    rintro _ Mq ⟨rfl, e_⟩
    subst Mq
    have pI_643 := ite01 (0 ≤ j ∧ j < 6)
    refine ⟨by show (0 : Nat) ≠ 9; decide, (?_ : Wp 198 _ 293 8 [(1, 161), (0, i), (0, j), (3, 0), (3, 0), (3, 0), (3, 0)] [(0, (if 0 ≤ j ∧ j < 6 then 1 else 0))] (up M 161 14 0) _)⟩
    refine w_ne hK rfl (by omega) (by omega) (fun h8 => ?_) (fun h8 => ?_)
    · exfalso; omega
    · refine w_ic hK rfl ?_
      refine w_iret hK rfl rfl ?_
      exact ⟨rfl, ⟨_, (RS.cg C (fun j_ h1_ h2_ => up_ne2 (by omega)) (fun a_ h1_ h2_ => up_row h1_)), (PM.keep hpl (up_row (by decide))), (TMs.keep T (up_ne2 (by decide)) (up_row (by decide))), (RM.keep hR (up_ne2 (by decide)) (up_row (by decide))), (FM.keep hF (up_ne2 (by decide)) (up_row (by decide)) (up_row (by decide)))⟩, (fun a h_ => (up_row (by omega)))⟩
set_option maxRecDepth 100000 in
theorem ry_like {d : Nat} {M : Mem} {k : Nat} {pl : Nat → Pl k} {n : Int} {tx : Int → Int} {rc : Nat} {rw : Int → Int} {fc : Nat} {fa : Nat → Pl k} (H : RFS M k pl n tx rc rw fc fa) (i : Nat) (hi : i < 6) (j : Nat) (hj : j < 6) (hi0 : dg (pl i) < 0 ∨ dg (pl j) < 0) : Ct 198 (d + 8) 293 [(1, 161), (0, (i : Int)), (0, (j : Int))] M (fun r_ M' => r_ = (0, (-2)) ∧ RFS M' k pl n tx rc rw fc fa ∧ (∀ a : Int, (a < 161 ∨ 197 < a) → M' a = M a)) := by
  have hK : cd 293 = k293 := rfl
  obtain ⟨R, C, hpl, T, hR, hF⟩ := H
  have q1_ := qq_I k
  have p1_ := pp_I k
  have m1_ := mm_I k
  have bi_ := (hpl i hi).2
  have di_ := dg_lt9 bi_
  have bj_ := (hpl j hj).2
  have dj_ := dg_lt9 bj_
  have dIi_ := dg_ge (pl i)
  have dIj_ := dg_ge (pl j)
  show Wp 198 _ 293 0 [(1, 161), (0, (i : Int)), (0, (j : Int)), (3, 0), (3, 0), (3, 0), (3, 0)] [] M _
  refine w_al hK rfl rfl ?_
  refine w_ic hK rfl ?_
  refine w_puti (n := 14) (m := 14) hK rfl rfl (by decide) (by decide) rfl rfl rfl rfl ?_
  refine w_il hK rfl rfl ?_
  refine w_call [(0, (i : Int))] hK rfl rfl rfl rfl (Or.inl rfl) (r_place (i : Int) (by omega) (by omega)) ?_
  rintro _ Mq ⟨rfl, e_⟩
  subst Mq
  have pI_644 := ite01 (0 ≤ (i : Int) ∧ (i : Int) < 6)
  refine ⟨by show (0 : Nat) ≠ 9; decide, (?_ : Wp 198 _ 293 5 [(1, 161), (0, (i : Int)), (0, (j : Int)), (3, 0), (3, 0), (3, 0), (3, 0)] [(0, (if 0 ≤ (i : Int) ∧ (i : Int) < 6 then 1 else 0))] (up M 161 14 0) _)⟩
  refine w_eq hK rfl (by omega) (by omega) (fun h5 => ?_) (fun h5 => ?_)
  · exfalso; omega
  · refine w_il hK rfl rfl ?_
    refine w_call [(0, (j : Int))] hK rfl rfl rfl rfl (Or.inl rfl) (r_place (j : Int) (by omega) (by omega)) ?_
    rintro _ Mq ⟨rfl, e_⟩
    subst Mq
    have pI_645 := ite01 (0 ≤ (j : Int) ∧ (j : Int) < 6)
    refine ⟨by show (0 : Nat) ≠ 9; decide, (?_ : Wp 198 _ 293 8 [(1, 161), (0, (i : Int)), (0, (j : Int)), (3, 0), (3, 0), (3, 0), (3, 0)] [(0, (if 0 ≤ (j : Int) ∧ (j : Int) < 6 then 1 else 0))] (up M 161 14 0) _)⟩
    refine w_ne hK rfl (by omega) (by omega) (fun h8 => ?_) (fun h8 => ?_)
    · refine w_al hK rfl rfl ?_
      refine w_il hK rfl rfl ?_
      refine w_al hK rfl rfl ?_
      refine w_getr (n := 26) (v := 180) hK rfl rfl (by decide) (by decide) rfl rfl rfl rfl ?_
      refine w_call [(1, 161), (0, (i : Int)), (1, 180)] hK rfl rfl rfl rfl (Or.inr ⟨_, _, _, rfl, by decide, (by decide), rfl⟩) (r_load (RS.cg C (fun j_ h1_ h2_ => up_ne2 (by omega)) (fun a_ h1_ h2_ => up_row h1_)) (PM.keep hpl (up_row (by decide))) i hi (isR_of (p := 180) rfl)) ?_
      rintro _ V646 ⟨P646, rfl, C646, S646, F646, f646_0⟩
      refine ⟨by decide, (?_ : Wp 198 _ 293 16 [(1, 161), (0, (i : Int)), (0, (j : Int)), (3, 0), (3, 0), (3, 0), (3, 0)] [] V646 _)⟩
      refine w_al hK rfl rfl ?_
      refine w_il hK rfl rfl ?_
      refine w_al hK rfl rfl ?_
      refine w_getr (n := 27) (v := 181) hK rfl rfl (by decide) (by decide) rfl rfl rfl rfl ?_
      refine w_call [(1, 161), (0, (j : Int)), (1, 181)] hK rfl rfl rfl rfl (Or.inr ⟨_, _, _, rfl, by decide, (by decide), rfl⟩) (r_load C646 (PM.keep hpl ((S646 167 (notR rfl)).trans (up_row (by decide)))) j hj (isR_of (p := 181) rfl)) ?_
      rintro _ V647 ⟨P647, rfl, C647, S647, F647, f647_0⟩
      refine ⟨by decide, (?_ : Wp 198 _ 293 21 [(1, 161), (0, (i : Int)), (0, (j : Int)), (3, 0), (3, 0), (3, 0), (3, 0)] [] V647 _)⟩
      refine w_al hK rfl rfl ?_
      refine w_getr (n := 26) (v := 180) hK rfl rfl (by decide) (by decide) rfl rfl rfl rfl ?_
      have dI_ : -1 ≤ dg (pl i) ∧ dg (pl i) ≤ 47 := C647.dI ⟨(isR_of (p := 180) rfl), ((F647 180 (by omega)).trans f646_0)⟩
      refine w_call [(1, 180)] hK rfl rfl rfl rfl (Or.inl rfl) (r_deg C647 ⟨(isR_of (p := 180) rfl), ((F647 180 (by omega)).trans f646_0)⟩) ?_
      rintro _ Mq ⟨rfl, e_⟩
      subst Mq
      refine ⟨by show (0 : Nat) ≠ 9; decide, (?_ : Wp 198 _ 293 24 [(1, 161), (0, (i : Int)), (0, (j : Int)), (3, 0), (3, 0), (3, 0), (3, 0)] [(0, (dg (pl i)))] V647 _)⟩
      refine w_is [(1, 161), (0, (i : Int)), (0, (j : Int)), (0, (dg (pl i))), (3, 0), (3, 0), (3, 0)] hK rfl rfl rfl ?_
      refine w_al hK rfl rfl ?_
      refine w_getr (n := 27) (v := 181) hK rfl rfl (by decide) (by decide) rfl rfl rfl rfl ?_
      have dI_ : -1 ≤ dg (pl j) ∧ dg (pl j) ≤ 47 := C647.dI ⟨(isR_of (p := 181) rfl), f647_0⟩
      refine w_call [(1, 181)] hK rfl rfl rfl rfl (Or.inl rfl) (r_deg C647 ⟨(isR_of (p := 181) rfl), f647_0⟩) ?_
      rintro _ Mq ⟨rfl, e_⟩
      subst Mq
      refine ⟨by show (0 : Nat) ≠ 9; decide, (?_ : Wp 198 _ 293 28 [(1, 161), (0, (i : Int)), (0, (j : Int)), (0, (dg (pl i))), (3, 0), (3, 0), (3, 0)] [(0, (dg (pl j)))] V647 _)⟩
      refine w_is [(1, 161), (0, (i : Int)), (0, (j : Int)), (0, (dg (pl i))), (0, (dg (pl j))), (3, 0), (3, 0)] hK rfl rfl rfl ?_
      refine w_il hK rfl rfl ?_
      refine w_ic hK rfl ?_
      refine w_eq2 hK rfl (by omega) (by omega) (by omega) (by omega) (fun h31 => ?_) (fun h31 => ?_)
      · refine w_ic hK rfl ?_
        refine w_iret hK rfl rfl ?_
        exact ⟨rfl, ⟨_, C647, (PM.keep hpl ((S647 167 (notR rfl)).trans ((S646 167 (notR rfl)).trans (up_row (by decide))))), (TMs.keep T ((congrFun (S647 161 (notR rfl)) 11).trans ((congrFun (S646 161 (notR rfl)) 11).trans (up_ne2 (by decide)))) ((S647 168 (notR rfl)).trans ((S646 168 (notR rfl)).trans (up_row (by decide))))), (RM.keep hR ((congrFun (S647 161 (notR rfl)) 13).trans ((congrFun (S646 161 (notR rfl)) 13).trans (up_ne2 (by decide)))) ((S647 169 (notR rfl)).trans ((S646 169 (notR rfl)).trans (up_row (by decide))))), (FM.keep hF ((congrFun (S647 161 (notR rfl)) 15).trans ((congrFun (S646 161 (notR rfl)) 15).trans (up_ne2 (by decide)))) ((S647 189 (notR rfl)).trans ((S646 189 (notR rfl)).trans (up_row (by decide)))) ((S647 190 (notR rfl)).trans ((S646 190 (notR rfl)).trans (up_row (by decide)))))⟩, (fun a h_ => ((S647 a (npR h_)).trans ((S646 a (npR h_)).trans (up_row (by omega)))))⟩
      · refine w_il hK rfl rfl ?_
        refine w_ic hK rfl ?_
        refine w_ne2 hK rfl (by omega) (by omega) (by omega) (by omega) (fun h34 => ?_) (fun h34 => ?_)
        · exfalso; omega
        · refine w_ic hK rfl ?_
          refine w_iret hK rfl rfl ?_
          exact ⟨rfl, ⟨_, C647, (PM.keep hpl ((S647 167 (notR rfl)).trans ((S646 167 (notR rfl)).trans (up_row (by decide))))), (TMs.keep T ((congrFun (S647 161 (notR rfl)) 11).trans ((congrFun (S646 161 (notR rfl)) 11).trans (up_ne2 (by decide)))) ((S647 168 (notR rfl)).trans ((S646 168 (notR rfl)).trans (up_row (by decide))))), (RM.keep hR ((congrFun (S647 161 (notR rfl)) 13).trans ((congrFun (S646 161 (notR rfl)) 13).trans (up_ne2 (by decide)))) ((S647 169 (notR rfl)).trans ((S646 169 (notR rfl)).trans (up_row (by decide))))), (FM.keep hF ((congrFun (S647 161 (notR rfl)) 15).trans ((congrFun (S646 161 (notR rfl)) 15).trans (up_ne2 (by decide)))) ((S647 189 (notR rfl)).trans ((S646 189 (notR rfl)).trans (up_row (by decide)))) ((S647 190 (notR rfl)).trans ((S646 190 (notR rfl)).trans (up_row (by decide)))))⟩, (fun a h_ => ((S647 a (npR h_)).trans ((S646 a (npR h_)).trans (up_row (by omega)))))⟩
    · exfalso; omega
set_option maxRecDepth 100000 in
theorem rz_like {d : Nat} {M : Mem} {k : Nat} {pl : Nat → Pl k} {n : Int} {tx : Int → Int} {rc : Nat} {rw : Int → Int} {fc : Nat} {fa : Nat → Pl k} (H : RFS M k pl n tx rc rw fc fa) (i : Nat) (hi : i < 6) (j : Nat) (hj : j < 6) (hi0 : 0 ≤ dg (pl i)) (hj0 : 0 ≤ dg (pl j)) (h4_ : 4 < dg (pl i) ∨ 4 < dg (pl j)) : Ct 198 (d + 8) 293 [(1, 161), (0, (i : Int)), (0, (j : Int))] M (fun r_ M' => r_ = (0, (-3)) ∧ RFS M' k pl n tx rc rw fc fa ∧ (∀ a : Int, (a < 161 ∨ 197 < a) → M' a = M a)) := by
  have hK : cd 293 = k293 := rfl
  obtain ⟨R, C, hpl, T, hR, hF⟩ := H
  have q1_ := qq_I k
  have p1_ := pp_I k
  have m1_ := mm_I k
  have bi_ := (hpl i hi).2
  have di_ := dg_lt9 bi_
  have bj_ := (hpl j hj).2
  have dj_ := dg_lt9 bj_
  show Wp 198 _ 293 0 [(1, 161), (0, (i : Int)), (0, (j : Int)), (3, 0), (3, 0), (3, 0), (3, 0)] [] M _
  refine w_al hK rfl rfl ?_
  refine w_ic hK rfl ?_
  refine w_puti (n := 14) (m := 14) hK rfl rfl (by decide) (by decide) rfl rfl rfl rfl ?_
  refine w_il hK rfl rfl ?_
  refine w_call [(0, (i : Int))] hK rfl rfl rfl rfl (Or.inl rfl) (r_place (i : Int) (by omega) (by omega)) ?_
  rintro _ Mq ⟨rfl, e_⟩
  subst Mq
  have pI_648 := ite01 (0 ≤ (i : Int) ∧ (i : Int) < 6)
  refine ⟨by show (0 : Nat) ≠ 9; decide, (?_ : Wp 198 _ 293 5 [(1, 161), (0, (i : Int)), (0, (j : Int)), (3, 0), (3, 0), (3, 0), (3, 0)] [(0, (if 0 ≤ (i : Int) ∧ (i : Int) < 6 then 1 else 0))] (up M 161 14 0) _)⟩
  refine w_eq hK rfl (by omega) (by omega) (fun h5 => ?_) (fun h5 => ?_)
  · exfalso; omega
  · refine w_il hK rfl rfl ?_
    refine w_call [(0, (j : Int))] hK rfl rfl rfl rfl (Or.inl rfl) (r_place (j : Int) (by omega) (by omega)) ?_
    rintro _ Mq ⟨rfl, e_⟩
    subst Mq
    have pI_649 := ite01 (0 ≤ (j : Int) ∧ (j : Int) < 6)
    refine ⟨by show (0 : Nat) ≠ 9; decide, (?_ : Wp 198 _ 293 8 [(1, 161), (0, (i : Int)), (0, (j : Int)), (3, 0), (3, 0), (3, 0), (3, 0)] [(0, (if 0 ≤ (j : Int) ∧ (j : Int) < 6 then 1 else 0))] (up M 161 14 0) _)⟩
    refine w_ne hK rfl (by omega) (by omega) (fun h8 => ?_) (fun h8 => ?_)
    · refine w_al hK rfl rfl ?_
      refine w_il hK rfl rfl ?_
      refine w_al hK rfl rfl ?_
      refine w_getr (n := 26) (v := 180) hK rfl rfl (by decide) (by decide) rfl rfl rfl rfl ?_
      refine w_call [(1, 161), (0, (i : Int)), (1, 180)] hK rfl rfl rfl rfl (Or.inr ⟨_, _, _, rfl, by decide, (by decide), rfl⟩) (r_load (RS.cg C (fun j_ h1_ h2_ => up_ne2 (by omega)) (fun a_ h1_ h2_ => up_row h1_)) (PM.keep hpl (up_row (by decide))) i hi (isR_of (p := 180) rfl)) ?_
      rintro _ V650 ⟨P650, rfl, C650, S650, F650, f650_0⟩
      refine ⟨by decide, (?_ : Wp 198 _ 293 16 [(1, 161), (0, (i : Int)), (0, (j : Int)), (3, 0), (3, 0), (3, 0), (3, 0)] [] V650 _)⟩
      refine w_al hK rfl rfl ?_
      refine w_il hK rfl rfl ?_
      refine w_al hK rfl rfl ?_
      refine w_getr (n := 27) (v := 181) hK rfl rfl (by decide) (by decide) rfl rfl rfl rfl ?_
      refine w_call [(1, 161), (0, (j : Int)), (1, 181)] hK rfl rfl rfl rfl (Or.inr ⟨_, _, _, rfl, by decide, (by decide), rfl⟩) (r_load C650 (PM.keep hpl ((S650 167 (notR rfl)).trans (up_row (by decide)))) j hj (isR_of (p := 181) rfl)) ?_
      rintro _ V651 ⟨P651, rfl, C651, S651, F651, f651_0⟩
      refine ⟨by decide, (?_ : Wp 198 _ 293 21 [(1, 161), (0, (i : Int)), (0, (j : Int)), (3, 0), (3, 0), (3, 0), (3, 0)] [] V651 _)⟩
      refine w_al hK rfl rfl ?_
      refine w_getr (n := 26) (v := 180) hK rfl rfl (by decide) (by decide) rfl rfl rfl rfl ?_
      have dI_ : -1 ≤ dg (pl i) ∧ dg (pl i) ≤ 47 := C651.dI ⟨(isR_of (p := 180) rfl), ((F651 180 (by omega)).trans f650_0)⟩
      refine w_call [(1, 180)] hK rfl rfl rfl rfl (Or.inl rfl) (r_deg C651 ⟨(isR_of (p := 180) rfl), ((F651 180 (by omega)).trans f650_0)⟩) ?_
      rintro _ Mq ⟨rfl, e_⟩
      subst Mq
      refine ⟨by show (0 : Nat) ≠ 9; decide, (?_ : Wp 198 _ 293 24 [(1, 161), (0, (i : Int)), (0, (j : Int)), (3, 0), (3, 0), (3, 0), (3, 0)] [(0, (dg (pl i)))] V651 _)⟩
      refine w_is [(1, 161), (0, (i : Int)), (0, (j : Int)), (0, (dg (pl i))), (3, 0), (3, 0), (3, 0)] hK rfl rfl rfl ?_
      refine w_al hK rfl rfl ?_
      refine w_getr (n := 27) (v := 181) hK rfl rfl (by decide) (by decide) rfl rfl rfl rfl ?_
      have dI_ : -1 ≤ dg (pl j) ∧ dg (pl j) ≤ 47 := C651.dI ⟨(isR_of (p := 181) rfl), f651_0⟩
      refine w_call [(1, 181)] hK rfl rfl rfl rfl (Or.inl rfl) (r_deg C651 ⟨(isR_of (p := 181) rfl), f651_0⟩) ?_
      rintro _ Mq ⟨rfl, e_⟩
      subst Mq
      refine ⟨by show (0 : Nat) ≠ 9; decide, (?_ : Wp 198 _ 293 28 [(1, 161), (0, (i : Int)), (0, (j : Int)), (0, (dg (pl i))), (3, 0), (3, 0), (3, 0)] [(0, (dg (pl j)))] V651 _)⟩
      refine w_is [(1, 161), (0, (i : Int)), (0, (j : Int)), (0, (dg (pl i))), (0, (dg (pl j))), (3, 0), (3, 0)] hK rfl rfl rfl ?_
      refine w_il hK rfl rfl ?_
      refine w_ic hK rfl ?_
      refine w_eq2 hK rfl (by omega) (by omega) (by omega) (by omega) (fun h31 => ?_) (fun h31 => ?_)
      · exfalso; omega
      · refine w_il hK rfl rfl ?_
        refine w_ic hK rfl ?_
        refine w_ne2 hK rfl (by omega) (by omega) (by omega) (by omega) (fun h34 => ?_) (fun h34 => ?_)
        · refine w_il hK rfl rfl ?_
          refine w_ic hK rfl ?_
          refine w_gt2 hK rfl (by omega) (by omega) (by omega) (by omega) (fun h39 => ?_) (fun h39 => ?_)
          · refine w_ic hK rfl ?_
            refine w_iret hK rfl rfl ?_
            exact ⟨rfl, ⟨_, C651, (PM.keep hpl ((S651 167 (notR rfl)).trans ((S650 167 (notR rfl)).trans (up_row (by decide))))), (TMs.keep T ((congrFun (S651 161 (notR rfl)) 11).trans ((congrFun (S650 161 (notR rfl)) 11).trans (up_ne2 (by decide)))) ((S651 168 (notR rfl)).trans ((S650 168 (notR rfl)).trans (up_row (by decide))))), (RM.keep hR ((congrFun (S651 161 (notR rfl)) 13).trans ((congrFun (S650 161 (notR rfl)) 13).trans (up_ne2 (by decide)))) ((S651 169 (notR rfl)).trans ((S650 169 (notR rfl)).trans (up_row (by decide))))), (FM.keep hF ((congrFun (S651 161 (notR rfl)) 15).trans ((congrFun (S650 161 (notR rfl)) 15).trans (up_ne2 (by decide)))) ((S651 189 (notR rfl)).trans ((S650 189 (notR rfl)).trans (up_row (by decide)))) ((S651 190 (notR rfl)).trans ((S650 190 (notR rfl)).trans (up_row (by decide)))))⟩, (fun a h_ => ((S651 a (npR h_)).trans ((S650 a (npR h_)).trans (up_row (by omega)))))⟩
          · refine w_il hK rfl rfl ?_
            refine w_ic hK rfl ?_
            refine w_le2 hK rfl (by omega) (by omega) (by omega) (by omega) (fun h42 => ?_) (fun h42 => ?_)
            · exfalso; omega
            · refine w_ic hK rfl ?_
              refine w_iret hK rfl rfl ?_
              exact ⟨rfl, ⟨_, C651, (PM.keep hpl ((S651 167 (notR rfl)).trans ((S650 167 (notR rfl)).trans (up_row (by decide))))), (TMs.keep T ((congrFun (S651 161 (notR rfl)) 11).trans ((congrFun (S650 161 (notR rfl)) 11).trans (up_ne2 (by decide)))) ((S651 168 (notR rfl)).trans ((S650 168 (notR rfl)).trans (up_row (by decide))))), (RM.keep hR ((congrFun (S651 161 (notR rfl)) 13).trans ((congrFun (S650 161 (notR rfl)) 13).trans (up_ne2 (by decide)))) ((S651 169 (notR rfl)).trans ((S650 169 (notR rfl)).trans (up_row (by decide))))), (FM.keep hF ((congrFun (S651 161 (notR rfl)) 15).trans ((congrFun (S650 161 (notR rfl)) 15).trans (up_ne2 (by decide)))) ((S651 189 (notR rfl)).trans ((S650 189 (notR rfl)).trans (up_row (by decide)))) ((S651 190 (notR rfl)).trans ((S650 190 (notR rfl)).trans (up_row (by decide)))))⟩, (fun a h_ => ((S651 a (npR h_)).trans ((S650 a (npR h_)).trans (up_row (by omega)))))⟩
        · exfalso; omega
    · exfalso; omega
set_option maxRecDepth 100000 in
theorem rx_like {d : Nat} {M : Mem} {k : Nat} {pl : Nat → Pl k} {n : Int} {tx : Int → Int} {rc : Nat} {rw : Int → Int} {fc : Nat} {fa : Nat → Pl k} (H : RFS M k pl n tx rc rw fc fa) (i : Nat) (hi : i < 6) (j : Nat) (hj : j < 6) (hi0 : 0 ≤ dg (pl i)) (hj0 : 0 ≤ dg (pl j)) (hi4 : dg (pl i) ≤ 4) (hj4 : dg (pl j) ≤ 4) (h4_ : dg (pl i) ≠ dg (pl j) ∨ dg (pl i) = 0) : Ct 198 (d + 8) 293 [(1, 161), (0, (i : Int)), (0, (j : Int))] M (fun r_ M' => r_ = (0, (-4)) ∧ RFS M' k pl n tx rc rw fc fa ∧ (∀ a : Int, (a < 161 ∨ 197 < a) → M' a = M a)) := by
  have hK : cd 293 = k293 := rfl
  obtain ⟨R, C, hpl, T, hR, hF⟩ := H
  have q1_ := qq_I k
  have p1_ := pp_I k
  have m1_ := mm_I k
  have bi_ := (hpl i hi).2
  have di_ := dg_lt9 bi_
  have bj_ := (hpl j hj).2
  have dj_ := dg_lt9 bj_
  show Wp 198 _ 293 0 [(1, 161), (0, (i : Int)), (0, (j : Int)), (3, 0), (3, 0), (3, 0), (3, 0)] [] M _
  refine w_al hK rfl rfl ?_
  refine w_ic hK rfl ?_
  refine w_puti (n := 14) (m := 14) hK rfl rfl (by decide) (by decide) rfl rfl rfl rfl ?_
  refine w_il hK rfl rfl ?_
  refine w_call [(0, (i : Int))] hK rfl rfl rfl rfl (Or.inl rfl) (r_place (i : Int) (by omega) (by omega)) ?_
  rintro _ Mq ⟨rfl, e_⟩
  subst Mq
  have pI_652 := ite01 (0 ≤ (i : Int) ∧ (i : Int) < 6)
  refine ⟨by show (0 : Nat) ≠ 9; decide, (?_ : Wp 198 _ 293 5 [(1, 161), (0, (i : Int)), (0, (j : Int)), (3, 0), (3, 0), (3, 0), (3, 0)] [(0, (if 0 ≤ (i : Int) ∧ (i : Int) < 6 then 1 else 0))] (up M 161 14 0) _)⟩
  refine w_eq hK rfl (by omega) (by omega) (fun h5 => ?_) (fun h5 => ?_)
  · exfalso; omega
  · refine w_il hK rfl rfl ?_
    refine w_call [(0, (j : Int))] hK rfl rfl rfl rfl (Or.inl rfl) (r_place (j : Int) (by omega) (by omega)) ?_
    rintro _ Mq ⟨rfl, e_⟩
    subst Mq
    have pI_653 := ite01 (0 ≤ (j : Int) ∧ (j : Int) < 6)
    refine ⟨by show (0 : Nat) ≠ 9; decide, (?_ : Wp 198 _ 293 8 [(1, 161), (0, (i : Int)), (0, (j : Int)), (3, 0), (3, 0), (3, 0), (3, 0)] [(0, (if 0 ≤ (j : Int) ∧ (j : Int) < 6 then 1 else 0))] (up M 161 14 0) _)⟩
    refine w_ne hK rfl (by omega) (by omega) (fun h8 => ?_) (fun h8 => ?_)
    · refine w_al hK rfl rfl ?_
      refine w_il hK rfl rfl ?_
      refine w_al hK rfl rfl ?_
      refine w_getr (n := 26) (v := 180) hK rfl rfl (by decide) (by decide) rfl rfl rfl rfl ?_
      refine w_call [(1, 161), (0, (i : Int)), (1, 180)] hK rfl rfl rfl rfl (Or.inr ⟨_, _, _, rfl, by decide, (by decide), rfl⟩) (r_load (RS.cg C (fun j_ h1_ h2_ => up_ne2 (by omega)) (fun a_ h1_ h2_ => up_row h1_)) (PM.keep hpl (up_row (by decide))) i hi (isR_of (p := 180) rfl)) ?_
      rintro _ V654 ⟨P654, rfl, C654, S654, F654, f654_0⟩
      refine ⟨by decide, (?_ : Wp 198 _ 293 16 [(1, 161), (0, (i : Int)), (0, (j : Int)), (3, 0), (3, 0), (3, 0), (3, 0)] [] V654 _)⟩
      refine w_al hK rfl rfl ?_
      refine w_il hK rfl rfl ?_
      refine w_al hK rfl rfl ?_
      refine w_getr (n := 27) (v := 181) hK rfl rfl (by decide) (by decide) rfl rfl rfl rfl ?_
      refine w_call [(1, 161), (0, (j : Int)), (1, 181)] hK rfl rfl rfl rfl (Or.inr ⟨_, _, _, rfl, by decide, (by decide), rfl⟩) (r_load C654 (PM.keep hpl ((S654 167 (notR rfl)).trans (up_row (by decide)))) j hj (isR_of (p := 181) rfl)) ?_
      rintro _ V655 ⟨P655, rfl, C655, S655, F655, f655_0⟩
      refine ⟨by decide, (?_ : Wp 198 _ 293 21 [(1, 161), (0, (i : Int)), (0, (j : Int)), (3, 0), (3, 0), (3, 0), (3, 0)] [] V655 _)⟩
      refine w_al hK rfl rfl ?_
      refine w_getr (n := 26) (v := 180) hK rfl rfl (by decide) (by decide) rfl rfl rfl rfl ?_
      have dI_ : -1 ≤ dg (pl i) ∧ dg (pl i) ≤ 47 := C655.dI ⟨(isR_of (p := 180) rfl), ((F655 180 (by omega)).trans f654_0)⟩
      refine w_call [(1, 180)] hK rfl rfl rfl rfl (Or.inl rfl) (r_deg C655 ⟨(isR_of (p := 180) rfl), ((F655 180 (by omega)).trans f654_0)⟩) ?_
      rintro _ Mq ⟨rfl, e_⟩
      subst Mq
      refine ⟨by show (0 : Nat) ≠ 9; decide, (?_ : Wp 198 _ 293 24 [(1, 161), (0, (i : Int)), (0, (j : Int)), (3, 0), (3, 0), (3, 0), (3, 0)] [(0, (dg (pl i)))] V655 _)⟩
      refine w_is [(1, 161), (0, (i : Int)), (0, (j : Int)), (0, (dg (pl i))), (3, 0), (3, 0), (3, 0)] hK rfl rfl rfl ?_
      refine w_al hK rfl rfl ?_
      refine w_getr (n := 27) (v := 181) hK rfl rfl (by decide) (by decide) rfl rfl rfl rfl ?_
      have dI_ : -1 ≤ dg (pl j) ∧ dg (pl j) ≤ 47 := C655.dI ⟨(isR_of (p := 181) rfl), f655_0⟩
      refine w_call [(1, 181)] hK rfl rfl rfl rfl (Or.inl rfl) (r_deg C655 ⟨(isR_of (p := 181) rfl), f655_0⟩) ?_
      rintro _ Mq ⟨rfl, e_⟩
      subst Mq
      refine ⟨by show (0 : Nat) ≠ 9; decide, (?_ : Wp 198 _ 293 28 [(1, 161), (0, (i : Int)), (0, (j : Int)), (0, (dg (pl i))), (3, 0), (3, 0), (3, 0)] [(0, (dg (pl j)))] V655 _)⟩
      refine w_is [(1, 161), (0, (i : Int)), (0, (j : Int)), (0, (dg (pl i))), (0, (dg (pl j))), (3, 0), (3, 0)] hK rfl rfl rfl ?_
      refine w_il hK rfl rfl ?_
      refine w_ic hK rfl ?_
      refine w_eq2 hK rfl (by omega) (by omega) (by omega) (by omega) (fun h31 => ?_) (fun h31 => ?_)
      · exfalso; omega
      · refine w_il hK rfl rfl ?_
        refine w_ic hK rfl ?_
        refine w_ne2 hK rfl (by omega) (by omega) (by omega) (by omega) (fun h34 => ?_) (fun h34 => ?_)
        · refine w_il hK rfl rfl ?_
          refine w_ic hK rfl ?_
          refine w_gt2 hK rfl (by omega) (by omega) (by omega) (by omega) (fun h39 => ?_) (fun h39 => ?_)
          · exfalso; omega
          · refine w_il hK rfl rfl ?_
            refine w_ic hK rfl ?_
            refine w_le2 hK rfl (by omega) (by omega) (by omega) (by omega) (fun h42 => ?_) (fun h42 => ?_)
            · refine w_il hK rfl rfl ?_
              refine w_il hK rfl rfl ?_
              refine w_ne2 hK rfl (by omega) (by omega) (by omega) (by omega) (fun h47 => ?_) (fun h47 => ?_)
              · refine w_ic hK rfl ?_
                refine w_iret hK rfl rfl ?_
                exact ⟨rfl, ⟨_, C655, (PM.keep hpl ((S655 167 (notR rfl)).trans ((S654 167 (notR rfl)).trans (up_row (by decide))))), (TMs.keep T ((congrFun (S655 161 (notR rfl)) 11).trans ((congrFun (S654 161 (notR rfl)) 11).trans (up_ne2 (by decide)))) ((S655 168 (notR rfl)).trans ((S654 168 (notR rfl)).trans (up_row (by decide))))), (RM.keep hR ((congrFun (S655 161 (notR rfl)) 13).trans ((congrFun (S654 161 (notR rfl)) 13).trans (up_ne2 (by decide)))) ((S655 169 (notR rfl)).trans ((S654 169 (notR rfl)).trans (up_row (by decide))))), (FM.keep hF ((congrFun (S655 161 (notR rfl)) 15).trans ((congrFun (S654 161 (notR rfl)) 15).trans (up_ne2 (by decide)))) ((S655 189 (notR rfl)).trans ((S654 189 (notR rfl)).trans (up_row (by decide)))) ((S655 190 (notR rfl)).trans ((S654 190 (notR rfl)).trans (up_row (by decide)))))⟩, (fun a h_ => ((S655 a (npR h_)).trans ((S654 a (npR h_)).trans (up_row (by omega)))))⟩
              · refine w_il hK rfl rfl ?_
                refine w_ne hK rfl (by omega) (by omega) (fun h49 => ?_) (fun h49 => ?_)
                · exfalso; omega
                · refine w_ic hK rfl ?_
                  refine w_iret hK rfl rfl ?_
                  exact ⟨rfl, ⟨_, C655, (PM.keep hpl ((S655 167 (notR rfl)).trans ((S654 167 (notR rfl)).trans (up_row (by decide))))), (TMs.keep T ((congrFun (S655 161 (notR rfl)) 11).trans ((congrFun (S654 161 (notR rfl)) 11).trans (up_ne2 (by decide)))) ((S655 168 (notR rfl)).trans ((S654 168 (notR rfl)).trans (up_row (by decide))))), (RM.keep hR ((congrFun (S655 161 (notR rfl)) 13).trans ((congrFun (S654 161 (notR rfl)) 13).trans (up_ne2 (by decide)))) ((S655 169 (notR rfl)).trans ((S654 169 (notR rfl)).trans (up_row (by decide))))), (FM.keep hF ((congrFun (S655 161 (notR rfl)) 15).trans ((congrFun (S654 161 (notR rfl)) 15).trans (up_ne2 (by decide)))) ((S655 189 (notR rfl)).trans ((S654 189 (notR rfl)).trans (up_row (by decide)))) ((S655 190 (notR rfl)).trans ((S654 190 (notR rfl)).trans (up_row (by decide)))))⟩, (fun a h_ => ((S655 a (npR h_)).trans ((S654 a (npR h_)).trans (up_row (by omega)))))⟩
            · exfalso; omega
        · exfalso; omega
    · exfalso; omega
