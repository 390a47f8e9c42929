/-! the class's calls: forms and values -/
theorem rchN_I {k : Nat} {y : Pl k} : ∀ n : Nat, 0 ≤ rchN y n ∧ rchN y n ≤ n
  | 0 => ⟨by show (0 : Int) ≤ 0; decide, by show (0 : Int) ≤ 0; decide⟩
  | n + 1 => by
    have h := rchN_I (y := y) n
    unfold rchN
    split
    · omega
    · rcases bz_01 (stN y (n + 1) = stN y 0) with q | q
      · rw [q]; omega
      · rw [q]; omega
set_option maxRecDepth 100000 in
theorem o_cofs {d : Nat} {M : Mem} {k : Nat} {pl : Nat → Pl k} {n : Int} {tx : Int → Int} {rc : Nat} {rw : Int → Int} {fc : Nat} {fa : Nat → Pl k} (H : CLS M k pl n tx rc rw fc fa) (i : Nat) (hi : i < 6) (j : Nat) (hj : j < 6) (l : Nat) (hl : l < 6) (m : Nat) (hm : m < 6) (hlm : l ≠ m) (h0_ : 0 ≤ dg (pl i) ∨ 0 ≤ dg (pl j)) : Ct 198 (d + 8) 159 [(1, 0), (0, (i : Int)), (0, (j : Int)), (0, (l : Int)), (0, (m : Int))] M (fun r_ M' => r_ = (0, (dg (euL 0 (pl i) (pl j)).1)) ∧ CLS M' k (fup (fup pl l (scl (iv (ld (euL 0 (pl i) (pl j)).1)) (euL 0 (pl i) (pl j)).2.2.1)) m (scl (iv (ld (euL 0 (pl i) (pl j)).1)) (euL 0 (pl i) (pl j)).2.2.2.2.1)) n tx rc rw fc fa ∧ (∀ a : Int, (a < 0 ∨ 160 < a) → M' a = M a)) := by
  have hK : cd 159 = k159 := rfl
  obtain ⟨P, u_, l_, z_, C, E, hpl, T, hR, hF⟩ := H
  have q1_ := qq_I k
  have p1_ := pp_I k
  have m1_ := mm_I k
  have bi_ := (hpl i hi).2
  have di_ := dg_lt9 bi_
  have bj_ := (hpl j hj).2
  have dj_ := dg_lt9 bj_
  have bl_ := (hpl l hl).2
  have dl_ := dg_lt9 bl_
  have bm_ := (hpl m hm).2
  have dm_ := dg_lt9 bm_
  have hs_ : (0 : Int) = 0 ∨ (0 : Int) = 1 := Or.inl rfl
  show Wp 198 _ 159 0 [(1, 0), (0, (i : Int)), (0, (j : Int)), (0, (l : Int)), (0, (m : Int)), (3, 0), (3, 0), (3, 0), (3, 0)] [] M _
  refine w_al hK rfl rfl ?_
  refine w_il hK rfl rfl ?_
  refine w_call [(1, 0), (0, (i : Int))] hK rfl rfl rfl rfl (Or.inr ⟨_, _, _, rfl, by decide, (by decide), rfl⟩) (c_pl i hi) ?_
  rintro _ Mq ⟨rfl, e_⟩
  subst Mq
  refine ⟨(by show (1 : Nat) ≠ 9; decide), (?_ : Wp 198 _ 159 3 [(1, 0), (0, (i : Int)), (0, (j : Int)), (0, (l : Int)), (0, (m : Int)), (3, 0), (3, 0), (3, 0), (3, 0)] [(1, (149 + 2 * (i : Int)))] M _)⟩
  refine w_as [(1, 0), (0, (i : Int)), (0, (j : Int)), (0, (l : Int)), (0, (m : Int)), (1, (149 + 2 * (i : Int))), (3, 0), (3, 0), (3, 0)] hK rfl rfl rfl ?_
  refine w_al hK rfl rfl ?_
  refine w_il hK rfl rfl ?_
  refine w_call [(1, 0), (0, (j : Int))] hK rfl rfl rfl rfl (Or.inr ⟨_, _, _, rfl, by decide, (by decide), rfl⟩) (c_pl j hj) ?_
  rintro _ Mq ⟨rfl, e_⟩
  subst Mq
  refine ⟨(by show (1 : Nat) ≠ 9; decide), (?_ : Wp 198 _ 159 7 [(1, 0), (0, (i : Int)), (0, (j : Int)), (0, (l : Int)), (0, (m : Int)), (1, (149 + 2 * (i : Int))), (3, 0), (3, 0), (3, 0)] [(1, (149 + 2 * (j : Int)))] M _)⟩
  refine w_as [(1, 0), (0, (i : Int)), (0, (j : Int)), (0, (l : Int)), (0, (m : Int)), (1, (149 + 2 * (i : Int))), (1, (149 + 2 * (j : Int))), (3, 0), (3, 0)] hK rfl rfl rfl ?_
  refine w_al hK rfl rfl ?_
  refine w_il hK rfl rfl ?_
  refine w_call [(1, 0), (0, (l : Int))] hK rfl rfl rfl rfl (Or.inr ⟨_, _, _, rfl, by decide, (by decide), rfl⟩) (c_pl l hl) ?_
  rintro _ Mq ⟨rfl, e_⟩
  subst Mq
  refine ⟨(by show (1 : Nat) ≠ 9; decide), (?_ : Wp 198 _ 159 11 [(1, 0), (0, (i : Int)), (0, (j : Int)), (0, (l : Int)), (0, (m : Int)), (1, (149 + 2 * (i : Int))), (1, (149 + 2 * (j : Int))), (3, 0), (3, 0)] [(1, (149 + 2 * (l : Int)))] M _)⟩
  refine w_as [(1, 0), (0, (i : Int)), (0, (j : Int)), (0, (l : Int)), (0, (m : Int)), (1, (149 + 2 * (i : Int))), (1, (149 + 2 * (j : Int))), (1, (149 + 2 * (l : Int))), (3, 0)] hK rfl rfl rfl ?_
  refine w_al hK rfl rfl ?_
  refine w_il hK rfl rfl ?_
  refine w_call [(1, 0), (0, (m : Int))] hK rfl rfl rfl rfl (Or.inr ⟨_, _, _, rfl, by decide, (by decide), rfl⟩) (c_pl m hm) ?_
  rintro _ Mq ⟨rfl, e_⟩
  subst Mq
  refine ⟨(by show (1 : Nat) ≠ 9; decide), (?_ : Wp 198 _ 159 15 [(1, 0), (0, (i : Int)), (0, (j : Int)), (0, (l : Int)), (0, (m : Int)), (1, (149 + 2 * (i : Int))), (1, (149 + 2 * (j : Int))), (1, (149 + 2 * (l : Int))), (3, 0)] [(1, (149 + 2 * (m : Int)))] M _)⟩
  refine w_as [(1, 0), (0, (i : Int)), (0, (j : Int)), (0, (l : Int)), (0, (m : Int)), (1, (149 + 2 * (i : Int))), (1, (149 + 2 * (j : Int))), (1, (149 + 2 * (l : Int))), (1, (149 + 2 * (m : Int)))] hK rfl rfl rfl ?_
  refine w_al hK rfl rfl ?_
  refine w_null hK rfl (fun h17 => ?_) (fun h17 => ?_)
  · exfalso; omega
  · refine w_al hK rfl rfl ?_
    refine w_null hK rfl (fun h19 => ?_) (fun h19 => ?_)
    · exfalso; omega
    · refine w_al hK rfl rfl ?_
      refine w_null hK rfl (fun h21 => ?_) (fun h21 => ?_)
      · exfalso; omega
      · refine w_al hK rfl rfl ?_
        refine w_nonnull hK rfl (fun h23 => ?_) (fun h23 => ?_)
        · refine w_al hK rfl rfl ?_
          refine w_pt hK rfl (isPP hi) ?_
          rw [show M (149 + 2 * (i : Int)) 1 = dg (pl i) from C.t ⟨(isPP hi), (hpl i hi).1⟩]
          have tI_ := CS.dI C ⟨(isPP hi), (hpl i hi).1⟩
          refine w_ge hK rfl (by omega) (by omega) (fun h28 => ?_) (fun h28 => ?_)
          · refine w_il hK rfl rfl ?_
            refine w_il hK rfl rfl ?_
            refine w_ne2 hK rfl (by omega) (by omega) (by omega) (by omega) (fun h36 => ?_) (fun h36 => ?_)
            · refine w_al hK rfl rfl ?_
              refine w_getr (n := 2) (v := 18) hK rfl rfl (by decide) (by decide) rfl rfl rfl rfl ?_
              refine w_al hK rfl rfl ?_
              refine w_al hK rfl rfl ?_
              refine w_ic hK rfl ?_
              refine w_call [(1, 18), (1, (149 + 2 * (i : Int))), (1, (149 + 2 * (j : Int))), (0, 0)] hK rfl rfl rfl rfl (Or.inr ⟨_, _, _, rfl, by decide, (by decide), rfl⟩) (c_run C E ⟨(isPP hi), (hpl i hi).1⟩ ⟨(isPP hj), (hpl j hj).1⟩ 0 hs_ (by omega) (by omega) bi_ bj_) ?_
              rintro _ V142 ⟨P142, u1_, l1_, z1_, n1_, rfl, C142, E142, S142, F142, hEu_, hEb_, hEv_⟩
              rw [← euL_eq hEu_] at hEb_ hEv_
              have eq_ := euL_facts bi_ bj_ hEu_
              refine ⟨by decide, (?_ : Wp 198 _ 159 45 [(1, 0), (0, (i : Int)), (0, (j : Int)), (0, (l : Int)), (0, (m : Int)), (1, (149 + 2 * (i : Int))), (1, (149 + 2 * (j : Int))), (1, (149 + 2 * (l : Int))), (1, (149 + 2 * (m : Int)))] [] V142 _)⟩
              refine w_al hK rfl rfl ?_
              refine w_getr (n := 2) (v := 18) hK rfl rfl (by decide) (by decide) rfl rfl rfl rfl ?_
              refine w_al hK rfl rfl ?_
              refine w_al hK rfl rfl ?_
              refine w_call [(1, 18), (1, (149 + 2 * (l : Int))), (1, (149 + 2 * (m : Int)))] hK rfl rfl rfl rfl (Or.inr ⟨_, _, _, rfl, by decide, (by decide), rfl⟩) (c_cto C142 E142 hEv_.1.1 hEv_.2.1.1 hEv_.2.2.1 (isPP hl) (isPP hm) (by omega) (by omega)) ?_
              rintro _ V143 ⟨rfl, C143, S143⟩
              refine ⟨by show (0 : Nat) ≠ 9; decide, (?_ : Wp 198 _ 159 50 [(1, 0), (0, (i : Int)), (0, (j : Int)), (0, (l : Int)), (0, (m : Int)), (1, (149 + 2 * (i : Int))), (1, (149 + 2 * (j : Int))), (1, (149 + 2 * (l : Int))), (1, (149 + 2 * (m : Int)))] [(0, (dg ((euL 0 (pl i) (pl j)).1)))] V143 _)⟩
              refine w_iret hK rfl rfl ?_
              exact ⟨rfl, ⟨_, u1_, l1_, z1_, C143, (ES.keep E142 (S143 18 (notP rfl))), (PLs.put2 hpl ((pu_ne (P := pu P142 (149 + 2 * (l : Int)) (scl (iv (ld ((euL 0 (pl i) (pl j)).1))) ((euL 0 (pl i) (pl j)).2.2.1))) (f := scl (iv (ld ((euL 0 (pl i) (pl j)).1))) ((euL 0 (pl i) (pl j)).2.2.2.2.1)) (show (149 + 2 * (l : Int)) ≠ (149 + 2 * (m : Int)) by omega)).trans pu_eq) (Bd_scl _ (Bd9.of hEb_.2.1.1 eq_.1)) pu_eq (Bd_scl _ (Bd9.of hEb_.2.1.2.2.1 eq_.2.1)) (by omega) (fun q_ hq_ hn_ hn2_ => ((pu_ne (P := pu P142 (149 + 2 * (l : Int)) (scl (iv (ld ((euL 0 (pl i) (pl j)).1))) ((euL 0 (pl i) (pl j)).2.2.1))) (f := scl (iv (ld ((euL 0 (pl i) (pl j)).1))) ((euL 0 (pl i) (pl j)).2.2.2.2.1)) (show (149 + 2 * (q_ : Int)) ≠ (149 + 2 * (m : Int)) by omega)).trans ((pu_ne (P := P142) (f := scl (iv (ld ((euL 0 (pl i) (pl j)).1))) ((euL 0 (pl i) (pl j)).2.2.1)) (show (149 + 2 * (q_ : Int)) ≠ (149 + 2 * (l : Int)) by omega)).trans (F142 (149 + 2 * (q_ : Int)) (by omega)))))), (TXs.keep T ((S143 140 (notP rfl)).trans (S142 140 (by decide) (by decide) (notP rfl))) ((S143 141 (notP rfl)).trans (S142 141 (by decide) (by decide) (notP rfl)))), (RWs.keep hR ((S143 0 (notP rfl)).trans (S142 0 (by decide) (by decide) (notP rfl))) ((S143 144 (notP rfl)).trans (S142 144 (by decide) (by decide) (notP rfl)))), (FCs.keep hF ((S143 52 (notP rfl)).trans (S142 52 (by decide) (by decide) (notP rfl))) (fun q_ hq_ => ((pu_ne (P := pu P142 (149 + 2 * (l : Int)) (scl (iv (ld ((euL 0 (pl i) (pl j)).1))) ((euL 0 (pl i) (pl j)).2.2.1))) (f := scl (iv (ld ((euL 0 (pl i) (pl j)).1))) ((euL 0 (pl i) (pl j)).2.2.2.2.1)) (show (68 + 6 * (q_ : Int)) ≠ (149 + 2 * (m : Int)) by omega)).trans ((pu_ne (P := P142) (f := scl (iv (ld ((euL 0 (pl i) (pl j)).1))) ((euL 0 (pl i) (pl j)).2.2.1)) (show (68 + 6 * (q_ : Int)) ≠ (149 + 2 * (l : Int)) by omega)).trans (F142 (68 + 6 * (q_ : Int)) (by omega))))))⟩, (fun a h_ => ((S143 a (npC h_)).trans (S142 a (by omega) (by omega) (npC h_))))⟩
            · exfalso; omega
          · refine w_al hK rfl rfl ?_
            refine w_pt hK rfl (isPP hj) ?_
            rw [show M (149 + 2 * (j : Int)) 1 = dg (pl j) from C.t ⟨(isPP hj), (hpl j hj).1⟩]
            have tI_ := CS.dI C ⟨(isPP hj), (hpl j hj).1⟩
            refine w_ge hK rfl (by omega) (by omega) (fun h31 => ?_) (fun h31 => ?_)
            · refine w_il hK rfl rfl ?_
              refine w_il hK rfl rfl ?_
              refine w_ne2 hK rfl (by omega) (by omega) (by omega) (by omega) (fun h36 => ?_) (fun h36 => ?_)
              · refine w_al hK rfl rfl ?_
                refine w_getr (n := 2) (v := 18) hK rfl rfl (by decide) (by decide) rfl rfl rfl rfl ?_
                refine w_al hK rfl rfl ?_
                refine w_al hK rfl rfl ?_
                refine w_ic hK rfl ?_
                refine w_call [(1, 18), (1, (149 + 2 * (i : Int))), (1, (149 + 2 * (j : Int))), (0, 0)] hK rfl rfl rfl rfl (Or.inr ⟨_, _, _, rfl, by decide, (by decide), rfl⟩) (c_run C E ⟨(isPP hi), (hpl i hi).1⟩ ⟨(isPP hj), (hpl j hj).1⟩ 0 hs_ (by omega) (by omega) bi_ bj_) ?_
                rintro _ V144 ⟨P144, u1_, l1_, z1_, n1_, rfl, C144, E144, S144, F144, hEu_, hEb_, hEv_⟩
                rw [← euL_eq hEu_] at hEb_ hEv_
                have eq_ := euL_facts bi_ bj_ hEu_
                refine ⟨by decide, (?_ : Wp 198 _ 159 45 [(1, 0), (0, (i : Int)), (0, (j : Int)), (0, (l : Int)), (0, (m : Int)), (1, (149 + 2 * (i : Int))), (1, (149 + 2 * (j : Int))), (1, (149 + 2 * (l : Int))), (1, (149 + 2 * (m : Int)))] [] V144 _)⟩
                refine w_al hK rfl rfl ?_
                refine w_getr (n := 2) (v := 18) hK rfl rfl (by decide) (by decide) rfl rfl rfl rfl ?_
                refine w_al hK rfl rfl ?_
                refine w_al hK rfl rfl ?_
                refine w_call [(1, 18), (1, (149 + 2 * (l : Int))), (1, (149 + 2 * (m : Int)))] hK rfl rfl rfl rfl (Or.inr ⟨_, _, _, rfl, by decide, (by decide), rfl⟩) (c_cto C144 E144 hEv_.1.1 hEv_.2.1.1 hEv_.2.2.1 (isPP hl) (isPP hm) (by omega) (by omega)) ?_
                rintro _ V145 ⟨rfl, C145, S145⟩
                refine ⟨by show (0 : Nat) ≠ 9; decide, (?_ : Wp 198 _ 159 50 [(1, 0), (0, (i : Int)), (0, (j : Int)), (0, (l : Int)), (0, (m : Int)), (1, (149 + 2 * (i : Int))), (1, (149 + 2 * (j : Int))), (1, (149 + 2 * (l : Int))), (1, (149 + 2 * (m : Int)))] [(0, (dg ((euL 0 (pl i) (pl j)).1)))] V145 _)⟩
                refine w_iret hK rfl rfl ?_
                exact ⟨rfl, ⟨_, u1_, l1_, z1_, C145, (ES.keep E144 (S145 18 (notP rfl))), (PLs.put2 hpl ((pu_ne (P := pu P144 (149 + 2 * (l : Int)) (scl (iv (ld ((euL 0 (pl i) (pl j)).1))) ((euL 0 (pl i) (pl j)).2.2.1))) (f := scl (iv (ld ((euL 0 (pl i) (pl j)).1))) ((euL 0 (pl i) (pl j)).2.2.2.2.1)) (show (149 + 2 * (l : Int)) ≠ (149 + 2 * (m : Int)) by omega)).trans pu_eq) (Bd_scl _ (Bd9.of hEb_.2.1.1 eq_.1)) pu_eq (Bd_scl _ (Bd9.of hEb_.2.1.2.2.1 eq_.2.1)) (by omega) (fun q_ hq_ hn_ hn2_ => ((pu_ne (P := pu P144 (149 + 2 * (l : Int)) (scl (iv (ld ((euL 0 (pl i) (pl j)).1))) ((euL 0 (pl i) (pl j)).2.2.1))) (f := scl (iv (ld ((euL 0 (pl i) (pl j)).1))) ((euL 0 (pl i) (pl j)).2.2.2.2.1)) (show (149 + 2 * (q_ : Int)) ≠ (149 + 2 * (m : Int)) by omega)).trans ((pu_ne (P := P144) (f := scl (iv (ld ((euL 0 (pl i) (pl j)).1))) ((euL 0 (pl i) (pl j)).2.2.1)) (show (149 + 2 * (q_ : Int)) ≠ (149 + 2 * (l : Int)) by omega)).trans (F144 (149 + 2 * (q_ : Int)) (by omega)))))), (TXs.keep T ((S145 140 (notP rfl)).trans (S144 140 (by decide) (by decide) (notP rfl))) ((S145 141 (notP rfl)).trans (S144 141 (by decide) (by decide) (notP rfl)))), (RWs.keep hR ((S145 0 (notP rfl)).trans (S144 0 (by decide) (by decide) (notP rfl))) ((S145 144 (notP rfl)).trans (S144 144 (by decide) (by decide) (notP rfl)))), (FCs.keep hF ((S145 52 (notP rfl)).trans (S144 52 (by decide) (by decide) (notP rfl))) (fun q_ hq_ => ((pu_ne (P := pu P144 (149 + 2 * (l : Int)) (scl (iv (ld ((euL 0 (pl i) (pl j)).1))) ((euL 0 (pl i) (pl j)).2.2.1))) (f := scl (iv (ld ((euL 0 (pl i) (pl j)).1))) ((euL 0 (pl i) (pl j)).2.2.2.2.1)) (show (68 + 6 * (q_ : Int)) ≠ (149 + 2 * (m : Int)) by omega)).trans ((pu_ne (P := P144) (f := scl (iv (ld ((euL 0 (pl i) (pl j)).1))) ((euL 0 (pl i) (pl j)).2.2.1)) (show (68 + 6 * (q_ : Int)) ≠ (149 + 2 * (l : Int)) by omega)).trans (F144 (68 + 6 * (q_ : Int)) (by omega))))))⟩, (fun a h_ => ((S145 a (npC h_)).trans (S144 a (by omega) (by omega) (npC h_))))⟩
              · exfalso; omega
            · exfalso; omega
        · exfalso; omega
set_option maxRecDepth 100000 in
theorem y_cofs {d : Nat} {M : Mem} {k : Nat} {pl : Nat → Pl k} {n : Int} {tx : Int → Int} {rc : Nat} {rw : Int → Int} {fc : Nat} {fa : Nat → Pl k} (H : CLS M k pl n tx rc rw fc fa) (i : Nat) (hi : i < 6) (j : Nat) (hj : j < 6) (l : Nat) (hl : l < 6) (m : Nat) (hm : m < 6) (h0_ : dg (pl i) < 0 ∧ dg (pl j) < 0) : Ct 198 (d + 8) 159 [(1, 0), (0, (i : Int)), (0, (j : Int)), (0, (l : Int)), (0, (m : Int))] M (fun r_ M' => r_ = (0, -2) ∧ M' = M) := by
  have hK : cd 159 = k159 := rfl
  obtain ⟨P, u_, l_, z_, C, E, hpl, T, hR, hF⟩ := H
  have q1_ := qq_I k
  have p1_ := pp_I k
  have m1_ := mm_I k
  have bi_ := (hpl i hi).2
  have di_ := dg_lt9 bi_
  have bj_ := (hpl j hj).2
  have dj_ := dg_lt9 bj_
  have bl_ := (hpl l hl).2
  have dl_ := dg_lt9 bl_
  have bm_ := (hpl m hm).2
  have dm_ := dg_lt9 bm_
  show Wp 198 _ 159 0 [(1, 0), (0, (i : Int)), (0, (j : Int)), (0, (l : Int)), (0, (m : Int)), (3, 0), (3, 0), (3, 0), (3, 0)] [] M _
  refine w_al hK rfl rfl ?_
  refine w_il hK rfl rfl ?_
  refine w_call [(1, 0), (0, (i : Int))] hK rfl rfl rfl rfl (Or.inr ⟨_, _, _, rfl, by decide, (by decide), rfl⟩) (c_pl i hi) ?_
  rintro _ Mq ⟨rfl, e_⟩
  subst Mq
  refine ⟨(by show (1 : Nat) ≠ 9; decide), (?_ : Wp 198 _ 159 3 [(1, 0), (0, (i : Int)), (0, (j : Int)), (0, (l : Int)), (0, (m : Int)), (3, 0), (3, 0), (3, 0), (3, 0)] [(1, (149 + 2 * (i : Int)))] M _)⟩
  refine w_as [(1, 0), (0, (i : Int)), (0, (j : Int)), (0, (l : Int)), (0, (m : Int)), (1, (149 + 2 * (i : Int))), (3, 0), (3, 0), (3, 0)] hK rfl rfl rfl ?_
  refine w_al hK rfl rfl ?_
  refine w_il hK rfl rfl ?_
  refine w_call [(1, 0), (0, (j : Int))] hK rfl rfl rfl rfl (Or.inr ⟨_, _, _, rfl, by decide, (by decide), rfl⟩) (c_pl j hj) ?_
  rintro _ Mq ⟨rfl, e_⟩
  subst Mq
  refine ⟨(by show (1 : Nat) ≠ 9; decide), (?_ : Wp 198 _ 159 7 [(1, 0), (0, (i : Int)), (0, (j : Int)), (0, (l : Int)), (0, (m : Int)), (1, (149 + 2 * (i : Int))), (3, 0), (3, 0), (3, 0)] [(1, (149 + 2 * (j : Int)))] M _)⟩
  refine w_as [(1, 0), (0, (i : Int)), (0, (j : Int)), (0, (l : Int)), (0, (m : Int)), (1, (149 + 2 * (i : Int))), (1, (149 + 2 * (j : Int))), (3, 0), (3, 0)] hK rfl rfl rfl ?_
  refine w_al hK rfl rfl ?_
  refine w_il hK rfl rfl ?_
  refine w_call [(1, 0), (0, (l : Int))] hK rfl rfl rfl rfl (Or.inr ⟨_, _, _, rfl, by decide, (by decide), rfl⟩) (c_pl l hl) ?_
  rintro _ Mq ⟨rfl, e_⟩
  subst Mq
  refine ⟨(by show (1 : Nat) ≠ 9; decide), (?_ : Wp 198 _ 159 11 [(1, 0), (0, (i : Int)), (0, (j : Int)), (0, (l : Int)), (0, (m : Int)), (1, (149 + 2 * (i : Int))), (1, (149 + 2 * (j : Int))), (3, 0), (3, 0)] [(1, (149 + 2 * (l : Int)))] M _)⟩
  refine w_as [(1, 0), (0, (i : Int)), (0, (j : Int)), (0, (l : Int)), (0, (m : Int)), (1, (149 + 2 * (i : Int))), (1, (149 + 2 * (j : Int))), (1, (149 + 2 * (l : Int))), (3, 0)] hK rfl rfl rfl ?_
  refine w_al hK rfl rfl ?_
  refine w_il hK rfl rfl ?_
  refine w_call [(1, 0), (0, (m : Int))] hK rfl rfl rfl rfl (Or.inr ⟨_, _, _, rfl, by decide, (by decide), rfl⟩) (c_pl m hm) ?_
  rintro _ Mq ⟨rfl, e_⟩
  subst Mq
  refine ⟨(by show (1 : Nat) ≠ 9; decide), (?_ : Wp 198 _ 159 15 [(1, 0), (0, (i : Int)), (0, (j : Int)), (0, (l : Int)), (0, (m : Int)), (1, (149 + 2 * (i : Int))), (1, (149 + 2 * (j : Int))), (1, (149 + 2 * (l : Int))), (3, 0)] [(1, (149 + 2 * (m : Int)))] M _)⟩
  refine w_as [(1, 0), (0, (i : Int)), (0, (j : Int)), (0, (l : Int)), (0, (m : Int)), (1, (149 + 2 * (i : Int))), (1, (149 + 2 * (j : Int))), (1, (149 + 2 * (l : Int))), (1, (149 + 2 * (m : Int)))] hK rfl rfl rfl ?_
  refine w_al hK rfl rfl ?_
  refine w_null hK rfl (fun h17 => ?_) (fun h17 => ?_)
  · exfalso; omega
  · refine w_al hK rfl rfl ?_
    refine w_null hK rfl (fun h19 => ?_) (fun h19 => ?_)
    · exfalso; omega
    · refine w_al hK rfl rfl ?_
      refine w_null hK rfl (fun h21 => ?_) (fun h21 => ?_)
      · exfalso; omega
      · refine w_al hK rfl rfl ?_
        refine w_nonnull hK rfl (fun h23 => ?_) (fun h23 => ?_)
        · refine w_al hK rfl rfl ?_
          refine w_pt hK rfl (isPP hi) ?_
          rw [show M (149 + 2 * (i : Int)) 1 = dg (pl i) from C.t ⟨(isPP hi), (hpl i hi).1⟩]
          have tI_ := CS.dI C ⟨(isPP hi), (hpl i hi).1⟩
          refine w_ge hK rfl (by omega) (by omega) (fun h28 => ?_) (fun h28 => ?_)
          · exfalso; omega
          · refine w_al hK rfl rfl ?_
            refine w_pt hK rfl (isPP hj) ?_
            rw [show M (149 + 2 * (j : Int)) 1 = dg (pl j) from C.t ⟨(isPP hj), (hpl j hj).1⟩]
            have tI_ := CS.dI C ⟨(isPP hj), (hpl j hj).1⟩
            refine w_ge hK rfl (by omega) (by omega) (fun h31 => ?_) (fun h31 => ?_)
            · exfalso; omega
            · refine w_ic hK rfl ?_
              refine w_iret hK rfl rfl ?_
              exact ⟨rfl, rfl⟩
        · exfalso; omega
set_option maxRecDepth 100000 in
theorem z_cofs {d : Nat} {M : Mem} {k : Nat} {pl : Nat → Pl k} {n : Int} {tx : Int → Int} {rc : Nat} {rw : Int → Int} {fc : Nat} {fa : Nat → Pl k} (H : CLS M k pl n tx rc rw fc fa) (i : Nat) (hi : i < 6) (j : Nat) (hj : j < 6) (l : Nat) (hl : l < 6) (h0_ : 0 ≤ dg (pl i) ∨ 0 ≤ dg (pl j)) : Ct 198 (d + 8) 159 [(1, 0), (0, (i : Int)), (0, (j : Int)), (0, (l : Int)), (0, (l : Int))] M (fun r_ M' => r_ = (0, -3) ∧ M' = M) := by
  have hK : cd 159 = k159 := rfl
  obtain ⟨P, u_, l_, z_, C, E, hpl, T, hR, hF⟩ := H
  have q1_ := qq_I k
  have p1_ := pp_I k
  have m1_ := mm_I k
  have bi_ := (hpl i hi).2
  have di_ := dg_lt9 bi_
  have bj_ := (hpl j hj).2
  have dj_ := dg_lt9 bj_
  have bl_ := (hpl l hl).2
  have dl_ := dg_lt9 bl_
  show Wp 198 _ 159 0 [(1, 0), (0, (i : Int)), (0, (j : Int)), (0, (l : Int)), (0, (l : Int)), (3, 0), (3, 0), (3, 0), (3, 0)] [] M _
  refine w_al hK rfl rfl ?_
  refine w_il hK rfl rfl ?_
  refine w_call [(1, 0), (0, (i : Int))] hK rfl rfl rfl rfl (Or.inr ⟨_, _, _, rfl, by decide, (by decide), rfl⟩) (c_pl i hi) ?_
  rintro _ Mq ⟨rfl, e_⟩
  subst Mq
  refine ⟨(by show (1 : Nat) ≠ 9; decide), (?_ : Wp 198 _ 159 3 [(1, 0), (0, (i : Int)), (0, (j : Int)), (0, (l : Int)), (0, (l : Int)), (3, 0), (3, 0), (3, 0), (3, 0)] [(1, (149 + 2 * (i : Int)))] M _)⟩
  refine w_as [(1, 0), (0, (i : Int)), (0, (j : Int)), (0, (l : Int)), (0, (l : Int)), (1, (149 + 2 * (i : Int))), (3, 0), (3, 0), (3, 0)] hK rfl rfl rfl ?_
  refine w_al hK rfl rfl ?_
  refine w_il hK rfl rfl ?_
  refine w_call [(1, 0), (0, (j : Int))] hK rfl rfl rfl rfl (Or.inr ⟨_, _, _, rfl, by decide, (by decide), rfl⟩) (c_pl j hj) ?_
  rintro _ Mq ⟨rfl, e_⟩
  subst Mq
  refine ⟨(by show (1 : Nat) ≠ 9; decide), (?_ : Wp 198 _ 159 7 [(1, 0), (0, (i : Int)), (0, (j : Int)), (0, (l : Int)), (0, (l : Int)), (1, (149 + 2 * (i : Int))), (3, 0), (3, 0), (3, 0)] [(1, (149 + 2 * (j : Int)))] M _)⟩
  refine w_as [(1, 0), (0, (i : Int)), (0, (j : Int)), (0, (l : Int)), (0, (l : Int)), (1, (149 + 2 * (i : Int))), (1, (149 + 2 * (j : Int))), (3, 0), (3, 0)] hK rfl rfl rfl ?_
  refine w_al hK rfl rfl ?_
  refine w_il hK rfl rfl ?_
  refine w_call [(1, 0), (0, (l : Int))] hK rfl rfl rfl rfl (Or.inr ⟨_, _, _, rfl, by decide, (by decide), rfl⟩) (c_pl l hl) ?_
  rintro _ Mq ⟨rfl, e_⟩
  subst Mq
  refine ⟨(by show (1 : Nat) ≠ 9; decide), (?_ : Wp 198 _ 159 11 [(1, 0), (0, (i : Int)), (0, (j : Int)), (0, (l : Int)), (0, (l : Int)), (1, (149 + 2 * (i : Int))), (1, (149 + 2 * (j : Int))), (3, 0), (3, 0)] [(1, (149 + 2 * (l : Int)))] M _)⟩
  refine w_as [(1, 0), (0, (i : Int)), (0, (j : Int)), (0, (l : Int)), (0, (l : Int)), (1, (149 + 2 * (i : Int))), (1, (149 + 2 * (j : Int))), (1, (149 + 2 * (l : Int))), (3, 0)] hK rfl rfl rfl ?_
  refine w_al hK rfl rfl ?_
  refine w_il hK rfl rfl ?_
  refine w_call [(1, 0), (0, (l : Int))] hK rfl rfl rfl rfl (Or.inr ⟨_, _, _, rfl, by decide, (by decide), rfl⟩) (c_pl l hl) ?_
  rintro _ Mq ⟨rfl, e_⟩
  subst Mq
  refine ⟨(by show (1 : Nat) ≠ 9; decide), (?_ : Wp 198 _ 159 15 [(1, 0), (0, (i : Int)), (0, (j : Int)), (0, (l : Int)), (0, (l : Int)), (1, (149 + 2 * (i : Int))), (1, (149 + 2 * (j : Int))), (1, (149 + 2 * (l : Int))), (3, 0)] [(1, (149 + 2 * (l : Int)))] M _)⟩
  refine w_as [(1, 0), (0, (i : Int)), (0, (j : Int)), (0, (l : Int)), (0, (l : Int)), (1, (149 + 2 * (i : Int))), (1, (149 + 2 * (j : Int))), (1, (149 + 2 * (l : Int))), (1, (149 + 2 * (l : Int)))] hK rfl rfl rfl ?_
  refine w_al hK rfl rfl ?_
  refine w_null hK rfl (fun h17 => ?_) (fun h17 => ?_)
  · exfalso; omega
  · refine w_al hK rfl rfl ?_
    refine w_null hK rfl (fun h19 => ?_) (fun h19 => ?_)
    · exfalso; omega
    · refine w_al hK rfl rfl ?_
      refine w_null hK rfl (fun h21 => ?_) (fun h21 => ?_)
      · exfalso; omega
      · refine w_al hK rfl rfl ?_
        refine w_nonnull hK rfl (fun h23 => ?_) (fun h23 => ?_)
        · refine w_al hK rfl rfl ?_
          refine w_pt hK rfl (isPP hi) ?_
          rw [show M (149 + 2 * (i : Int)) 1 = dg (pl i) from C.t ⟨(isPP hi), (hpl i hi).1⟩]
          have tI_ := CS.dI C ⟨(isPP hi), (hpl i hi).1⟩
          refine w_ge hK rfl (by omega) (by omega) (fun h28 => ?_) (fun h28 => ?_)
          · refine w_il hK rfl rfl ?_
            refine w_il hK rfl rfl ?_
            refine w_ne2 hK rfl (by omega) (by omega) (by omega) (by omega) (fun h36 => ?_) (fun h36 => ?_)
            · exfalso; omega
            · refine w_ic hK rfl ?_
              refine w_iret hK rfl rfl ?_
              exact ⟨rfl, rfl⟩
          · refine w_al hK rfl rfl ?_
            refine w_pt hK rfl (isPP hj) ?_
            rw [show M (149 + 2 * (j : Int)) 1 = dg (pl j) from C.t ⟨(isPP hj), (hpl j hj).1⟩]
            have tI_ := CS.dI C ⟨(isPP hj), (hpl j hj).1⟩
            refine w_ge hK rfl (by omega) (by omega) (fun h31 => ?_) (fun h31 => ?_)
            · refine w_il hK rfl rfl ?_
              refine w_il hK rfl rfl ?_
              refine w_ne2 hK rfl (by omega) (by omega) (by omega) (by omega) (fun h36 => ?_) (fun h36 => ?_)
              · exfalso; omega
              · refine w_ic hK rfl ?_
                refine w_iret hK rfl rfl ?_
                exact ⟨rfl, rfl⟩
            · exfalso; omega
        · exfalso; omega
set_option maxRecDepth 100000 in
theorem n_cofs {d : Nat} {M : Mem} {k : Nat} {pl : Nat → Pl k} {n : Int} {tx : Int → Int} {rc : Nat} {rw : Int → Int} {fc : Nat} {fa : Nat → Pl k} (H : CLS M k pl n tx rc rw fc fa) (i j l m : Int) (i1_ : -2147483648 ≤ i) (i2_ : i ≤ 2147483647) (j1_ : -2147483648 ≤ j) (j2_ : j ≤ 2147483647) (l1_ : -2147483648 ≤ l) (l2_ : l ≤ 2147483647) (m1_ : -2147483648 ≤ m) (m2_ : m ≤ 2147483647) (hn : ¬ ((0 ≤ i ∧ i < 6) ∧ (0 ≤ j ∧ j < 6) ∧ (0 ≤ l ∧ l < 6) ∧ (0 ≤ m ∧ m < 6))) : Ct 198 (d + 8) 159 [(1, 0), (0, i), (0, j), (0, l), (0, m)] M (fun r_ M' => r_ = (0, -1) ∧ M' = M) := by
  have hK : cd 159 = k159 := rfl
  obtain ⟨P, u_, l_, z_, C, E, hpl, T, hR, hF⟩ := H
  have q1_ := qq_I k
  have p1_ := pp_I k
  have m1_ := mm_I k
  show Wp 198 _ 159 0 [(1, 0), (0, i), (0, j), (0, l), (0, m), (3, 0), (3, 0), (3, 0), (3, 0)] [] M _
  refine w_al hK rfl rfl ?_
  refine w_il hK rfl rfl ?_
  refine w_call [(1, 0), (0, i)] hK rfl rfl rfl rfl (Or.inr ⟨_, _, _, rfl, by decide, (by decide), rfl⟩) (c_plI i (by omega) (by omega)) ?_
  rintro _ Mq ⟨rfl, e_⟩
  subst Mq
  have pI_ := plr_I i
  refine ⟨(by show (1 : Nat) ≠ 9; decide), (?_ : Wp 198 _ 159 3 [(1, 0), (0, i), (0, j), (0, l), (0, m), (3, 0), (3, 0), (3, 0), (3, 0)] [(1, (plr i))] M _)⟩
  refine w_as [(1, 0), (0, i), (0, j), (0, l), (0, m), (1, (plr i)), (3, 0), (3, 0), (3, 0)] hK rfl rfl rfl ?_
  refine w_al hK rfl rfl ?_
  refine w_il hK rfl rfl ?_
  refine w_call [(1, 0), (0, j)] hK rfl rfl rfl rfl (Or.inr ⟨_, _, _, rfl, by decide, (by decide), rfl⟩) (c_plI j (by omega) (by omega)) ?_
  rintro _ Mq ⟨rfl, e_⟩
  subst Mq
  have pI_ := plr_I j
  refine ⟨(by show (1 : Nat) ≠ 9; decide), (?_ : Wp 198 _ 159 7 [(1, 0), (0, i), (0, j), (0, l), (0, m), (1, (plr i)), (3, 0), (3, 0), (3, 0)] [(1, (plr j))] M _)⟩
  refine w_as [(1, 0), (0, i), (0, j), (0, l), (0, m), (1, (plr i)), (1, (plr j)), (3, 0), (3, 0)] hK rfl rfl rfl ?_
  refine w_al hK rfl rfl ?_
  refine w_il hK rfl rfl ?_
  refine w_call [(1, 0), (0, l)] hK rfl rfl rfl rfl (Or.inr ⟨_, _, _, rfl, by decide, (by decide), rfl⟩) (c_plI l (by omega) (by omega)) ?_
  rintro _ Mq ⟨rfl, e_⟩
  subst Mq
  have pI_ := plr_I l
  refine ⟨(by show (1 : Nat) ≠ 9; decide), (?_ : Wp 198 _ 159 11 [(1, 0), (0, i), (0, j), (0, l), (0, m), (1, (plr i)), (1, (plr j)), (3, 0), (3, 0)] [(1, (plr l))] M _)⟩
  refine w_as [(1, 0), (0, i), (0, j), (0, l), (0, m), (1, (plr i)), (1, (plr j)), (1, (plr l)), (3, 0)] hK rfl rfl rfl ?_
  refine w_al hK rfl rfl ?_
  refine w_il hK rfl rfl ?_
  refine w_call [(1, 0), (0, m)] hK rfl rfl rfl rfl (Or.inr ⟨_, _, _, rfl, by decide, (by decide), rfl⟩) (c_plI m (by omega) (by omega)) ?_
  rintro _ Mq ⟨rfl, e_⟩
  subst Mq
  have pI_ := plr_I m
  refine ⟨(by show (1 : Nat) ≠ 9; decide), (?_ : Wp 198 _ 159 15 [(1, 0), (0, i), (0, j), (0, l), (0, m), (1, (plr i)), (1, (plr j)), (1, (plr l)), (3, 0)] [(1, (plr m))] M _)⟩
  refine w_as [(1, 0), (0, i), (0, j), (0, l), (0, m), (1, (plr i)), (1, (plr j)), (1, (plr l)), (1, (plr m))] hK rfl rfl rfl ?_
  refine w_al hK rfl rfl ?_
  refine w_null hK rfl (fun h17 => ?_) (fun h17 => ?_)
  · refine w_ic hK rfl ?_
    refine w_iret hK rfl rfl ?_
    exact ⟨rfl, rfl⟩
  · refine w_al hK rfl rfl ?_
    refine w_null hK rfl (fun h19 => ?_) (fun h19 => ?_)
    · refine w_ic hK rfl ?_
      refine w_iret hK rfl rfl ?_
      exact ⟨rfl, rfl⟩
    · refine w_al hK rfl rfl ?_
      refine w_null hK rfl (fun h21 => ?_) (fun h21 => ?_)
      · refine w_ic hK rfl ?_
        refine w_iret hK rfl rfl ?_
        exact ⟨rfl, rfl⟩
      · refine w_al hK rfl rfl ?_
        refine w_nonnull hK rfl (fun h23 => ?_) (fun h23 => ?_)
        · exfalso; omega
        · refine w_ic hK rfl ?_
          refine w_iret hK rfl rfl ?_
          exact ⟨rfl, rfl⟩
set_option maxRecDepth 100000 in
theorem o_form0 {d : Nat} {M : Mem} {k : Nat} {pl : Nat → Pl k} {n : Int} {tx : Int → Int} {rc : Nat} {rw : Int → Int} {fc : Nat} {fa : Nat → Pl k} (H : CLS M k pl n tx rc rw fc fa) (i : Nat) (hi : i < 6)  : Ct 198 (d + 8) 155 [(1, 0), (0, (i : Int)), (0, 0)] M (fun r_ M' => r_ = (0, ((ld (pl i)).val : Int)) ∧ CLS M' k pl n tx rc rw fc fa ∧ (∀ a : Int, (a < 0 ∨ 160 < a) → M' a = M a)) := by
  have hK : cd 155 = k155 := rfl
  obtain ⟨P, u_, l_, z_, C, E, hpl, T, hR, hF⟩ := H
  have q1_ := qq_I k
  have p1_ := pp_I k
  have m1_ := mm_I k
  have bi_ := (hpl i hi).2
  have di_ := dg_lt9 bi_
  show Wp 198 _ 155 0 [(1, 0), (0, (i : Int)), (0, 0), (3, 0)] [] M _
  refine w_al hK rfl rfl ?_
  refine w_il hK rfl rfl ?_
  refine w_call [(1, 0), (0, (i : Int))] hK rfl rfl rfl rfl (Or.inr ⟨_, _, _, rfl, by decide, (by decide), rfl⟩) (c_pl i hi) ?_
  rintro _ Mq ⟨rfl, e_⟩
  subst Mq
  refine ⟨(by show (1 : Nat) ≠ 9; decide), (?_ : Wp 198 _ 155 3 [(1, 0), (0, (i : Int)), (0, 0), (3, 0)] [(1, (149 + 2 * (i : Int)))] M _)⟩
  refine w_as [(1, 0), (0, (i : Int)), (0, 0), (1, (149 + 2 * (i : Int)))] hK rfl rfl rfl ?_
  refine w_al hK rfl rfl ?_
  refine w_nonnull hK rfl (fun h5 => ?_) (fun h5 => ?_)
  · refine w_il hK rfl rfl ?_
    refine w_tab hK rfl rfl (by decide) (by decide) (fun h_ => absurd h_ (by decide)) (fun _ _ => ?_)
    show Wp 198 _ 155 10 [(1, 0), (0, (i : Int)), (0, 0), (1, (149 + 2 * (i : Int)))] [] M _
    refine w_al hK rfl rfl ?_
    refine w_call [(1, (149 + 2 * (i : Int)))] hK rfl rfl rfl rfl (Or.inr ⟨_, _, _, rfl, (isPP hi).nn, (isPP hi).lb, (isPP hi).o⟩) (c_ld C ⟨(isPP hi), (hpl i hi).1⟩) ?_
    rintro _ Mq ⟨rfl, e_⟩
    subst Mq
    have bv_ := el_I (ld (pl i))
    refine ⟨by show (0 : Nat) ≠ 9; decide, (?_ : Wp 198 _ 155 12 [(1, 0), (0, (i : Int)), (0, 0), (1, (149 + 2 * (i : Int)))] [(0, ((ld (pl i)).val : Int))] M _)⟩
    refine w_iret hK rfl rfl ?_
    exact ⟨rfl, ⟨_, u_, l_, z_, C, E, hpl, T, hR, hF⟩, (fun a h_ => rfl)⟩
  · exfalso; omega
set_option maxRecDepth 100000 in
theorem o_form1 {d : Nat} {M : Mem} {k : Nat} {pl : Nat → Pl k} {n : Int} {tx : Int → Int} {rc : Nat} {rw : Int → Int} {fc : Nat} {fa : Nat → Pl k} (H : CLS M k pl n tx rc rw fc fa) (i : Nat) (hi : i < 6)  : Ct 198 (d + 8) 155 [(1, 0), (0, (i : Int)), (0, 1)] M (fun r_ M' => r_ = (0, (wgt (pl i) 17)) ∧ CLS M' k pl n tx rc rw fc fa ∧ (∀ a : Int, (a < 0 ∨ 160 < a) → M' a = M a)) := by
  have hK : cd 155 = k155 := rfl
  obtain ⟨P, u_, l_, z_, C, E, hpl, T, hR, hF⟩ := H
  have q1_ := qq_I k
  have p1_ := pp_I k
  have m1_ := mm_I k
  have bi_ := (hpl i hi).2
  have di_ := dg_lt9 bi_
  show Wp 198 _ 155 0 [(1, 0), (0, (i : Int)), (0, 1), (3, 0)] [] M _
  refine w_al hK rfl rfl ?_
  refine w_il hK rfl rfl ?_
  refine w_call [(1, 0), (0, (i : Int))] hK rfl rfl rfl rfl (Or.inr ⟨_, _, _, rfl, by decide, (by decide), rfl⟩) (c_pl i hi) ?_
  rintro _ Mq ⟨rfl, e_⟩
  subst Mq
  refine ⟨(by show (1 : Nat) ≠ 9; decide), (?_ : Wp 198 _ 155 3 [(1, 0), (0, (i : Int)), (0, 1), (3, 0)] [(1, (149 + 2 * (i : Int)))] M _)⟩
  refine w_as [(1, 0), (0, (i : Int)), (0, 1), (1, (149 + 2 * (i : Int)))] hK rfl rfl rfl ?_
  refine w_al hK rfl rfl ?_
  refine w_nonnull hK rfl (fun h5 => ?_) (fun h5 => ?_)
  · refine w_il hK rfl rfl ?_
    refine w_tab hK rfl rfl (by decide) (by decide) (fun h_ => absurd h_ (by decide)) (fun _ _ => ?_)
    show Wp 198 _ 155 13 [(1, 0), (0, (i : Int)), (0, 1), (1, (149 + 2 * (i : Int)))] [] M _
    refine w_al hK rfl rfl ?_
    refine w_call [(1, (149 + 2 * (i : Int)))] hK rfl rfl rfl rfl (Or.inr ⟨_, _, _, rfl, (isPP hi).nn, (isPP hi).lb, (isPP hi).o⟩) (c_wgt C ⟨(isPP hi), (hpl i hi).1⟩) ?_
    rintro _ Mq ⟨rfl, e_⟩
    subst Mq
    refine ⟨by show (0 : Nat) ≠ 9; decide, (?_ : Wp 198 _ 155 15 [(1, 0), (0, (i : Int)), (0, 1), (1, (149 + 2 * (i : Int)))] [(0, (wgt (pl i) 17))] M _)⟩
    refine w_iret hK rfl rfl ?_
    exact ⟨rfl, ⟨_, u_, l_, z_, C, E, hpl, T, hR, hF⟩, (fun a h_ => rfl)⟩
  · exfalso; omega
set_option maxRecDepth 100000 in
theorem o_form2 {d : Nat} {M : Mem} {k : Nat} {pl : Nat → Pl k} {n : Int} {tx : Int → Int} {rc : Nat} {rw : Int → Int} {fc : Nat} {fa : Nat → Pl k} (H : CLS M k pl n tx rc rw fc fa) (i : Nat) (hi : i < 6) (hi0 : 0 ≤ dg (pl i)) : Ct 198 (d + 8) 155 [(1, 0), (0, (i : Int)), (0, 2)] M (fun r_ M' => r_ = (0, (lowF (pl i) 17)) ∧ CLS M' k pl n tx rc rw fc fa ∧ (∀ a : Int, (a < 0 ∨ 160 < a) → M' a = M a)) := by
  have hK : cd 155 = k155 := rfl
  obtain ⟨P, u_, l_, z_, C, E, hpl, T, hR, hF⟩ := H
  have q1_ := qq_I k
  have p1_ := pp_I k
  have m1_ := mm_I k
  have bi_ := (hpl i hi).2
  have di_ := dg_lt9 bi_
  show Wp 198 _ 155 0 [(1, 0), (0, (i : Int)), (0, 2), (3, 0)] [] M _
  refine w_al hK rfl rfl ?_
  refine w_il hK rfl rfl ?_
  refine w_call [(1, 0), (0, (i : Int))] hK rfl rfl rfl rfl (Or.inr ⟨_, _, _, rfl, by decide, (by decide), rfl⟩) (c_pl i hi) ?_
  rintro _ Mq ⟨rfl, e_⟩
  subst Mq
  refine ⟨(by show (1 : Nat) ≠ 9; decide), (?_ : Wp 198 _ 155 3 [(1, 0), (0, (i : Int)), (0, 2), (3, 0)] [(1, (149 + 2 * (i : Int)))] M _)⟩
  refine w_as [(1, 0), (0, (i : Int)), (0, 2), (1, (149 + 2 * (i : Int)))] hK rfl rfl rfl ?_
  refine w_al hK rfl rfl ?_
  refine w_nonnull hK rfl (fun h5 => ?_) (fun h5 => ?_)
  · refine w_il hK rfl rfl ?_
    refine w_tab hK rfl rfl (by decide) (by decide) (fun h_ => absurd h_ (by decide)) (fun _ _ => ?_)
    show Wp 198 _ 155 16 [(1, 0), (0, (i : Int)), (0, 2), (1, (149 + 2 * (i : Int)))] [] M _
    refine w_al hK rfl rfl ?_
    refine w_pt hK rfl (isPP hi) ?_
    rw [show M (149 + 2 * (i : Int)) 1 = dg (pl i) from C.t ⟨(isPP hi), (hpl i hi).1⟩]
    have tI_ := CS.dI C ⟨(isPP hi), (hpl i hi).1⟩
    refine w_ge hK rfl (by omega) (by omega) (fun h18 => ?_) (fun h18 => ?_)
    · refine w_al hK rfl rfl ?_
      refine w_call [(1, (149 + 2 * (i : Int)))] hK rfl rfl rfl rfl (Or.inr ⟨_, _, _, rfl, (isPP hi).nn, (isPP hi).lb, (isPP hi).o⟩) (c_low C ⟨(isPP hi), (hpl i hi).1⟩) ?_
      rintro _ Mq ⟨rfl, e_⟩
      subst Mq
      refine ⟨by show (0 : Nat) ≠ 9; decide, (?_ : Wp 198 _ 155 23 [(1, 0), (0, (i : Int)), (0, 2), (1, (149 + 2 * (i : Int)))] [(0, (lowF (pl i) 17))] M _)⟩
      refine w_iret hK rfl rfl ?_
      exact ⟨rfl, ⟨_, u_, l_, z_, C, E, hpl, T, hR, hF⟩, (fun a h_ => rfl)⟩
    · exfalso; omega
  · exfalso; omega
set_option maxRecDepth 100000 in
theorem z_form2 {d : Nat} {M : Mem} {k : Nat} {pl : Nat → Pl k} {n : Int} {tx : Int → Int} {rc : Nat} {rw : Int → Int} {fc : Nat} {fa : Nat → Pl k} (H : CLS M k pl n tx rc rw fc fa) (i : Nat) (hi : i < 6) (hi0 : dg (pl i) < 0) : Ct 198 (d + 8) 155 [(1, 0), (0, (i : Int)), (0, 2)] M (fun r_ M' => r_ = (0, -2) ∧ M' = M) := by
  have hK : cd 155 = k155 := rfl
  obtain ⟨P, u_, l_, z_, C, E, hpl, T, hR, hF⟩ := H
  have q1_ := qq_I k
  have p1_ := pp_I k
  have m1_ := mm_I k
  have bi_ := (hpl i hi).2
  have di_ := dg_lt9 bi_
  show Wp 198 _ 155 0 [(1, 0), (0, (i : Int)), (0, 2), (3, 0)] [] M _
  refine w_al hK rfl rfl ?_
  refine w_il hK rfl rfl ?_
  refine w_call [(1, 0), (0, (i : Int))] hK rfl rfl rfl rfl (Or.inr ⟨_, _, _, rfl, by decide, (by decide), rfl⟩) (c_pl i hi) ?_
  rintro _ Mq ⟨rfl, e_⟩
  subst Mq
  refine ⟨(by show (1 : Nat) ≠ 9; decide), (?_ : Wp 198 _ 155 3 [(1, 0), (0, (i : Int)), (0, 2), (3, 0)] [(1, (149 + 2 * (i : Int)))] M _)⟩
  refine w_as [(1, 0), (0, (i : Int)), (0, 2), (1, (149 + 2 * (i : Int)))] hK rfl rfl rfl ?_
  refine w_al hK rfl rfl ?_
  refine w_nonnull hK rfl (fun h5 => ?_) (fun h5 => ?_)
  · refine w_il hK rfl rfl ?_
    refine w_tab hK rfl rfl (by decide) (by decide) (fun h_ => absurd h_ (by decide)) (fun _ _ => ?_)
    show Wp 198 _ 155 16 [(1, 0), (0, (i : Int)), (0, 2), (1, (149 + 2 * (i : Int)))] [] M _
    refine w_al hK rfl rfl ?_
    refine w_pt hK rfl (isPP hi) ?_
    rw [show M (149 + 2 * (i : Int)) 1 = dg (pl i) from C.t ⟨(isPP hi), (hpl i hi).1⟩]
    have tI_ := CS.dI C ⟨(isPP hi), (hpl i hi).1⟩
    refine w_ge hK rfl (by omega) (by omega) (fun h18 => ?_) (fun h18 => ?_)
    · exfalso; omega
    · refine w_ic hK rfl ?_
      refine w_goto hK rfl ?_
      refine w_iret hK rfl rfl ?_
      exact ⟨rfl, rfl⟩
  · exfalso; omega
set_option maxRecDepth 100000 in
theorem o_form3 {d : Nat} {M : Mem} {k : Nat} {pl : Nat → Pl k} {n : Int} {tx : Int → Int} {rc : Nat} {rw : Int → Int} {fc : Nat} {fa : Nat → Pl k} (H : CLS M k pl n tx rc rw fc fa) (i : Nat) (hi : i < 6)  : Ct 198 (d + 8) 155 [(1, 0), (0, (i : Int)), (0, 3)] M (fun r_ M' => r_ = (0, (bz (pl i = one))) ∧ CLS M' k pl n tx rc rw fc fa ∧ (∀ a : Int, (a < 0 ∨ 160 < a) → M' a = M a)) := by
  have hK : cd 155 = k155 := rfl
  obtain ⟨P, u_, l_, z_, C, E, hpl, T, hR, hF⟩ := H
  have q1_ := qq_I k
  have p1_ := pp_I k
  have m1_ := mm_I k
  have bi_ := (hpl i hi).2
  have di_ := dg_lt9 bi_
  show Wp 198 _ 155 0 [(1, 0), (0, (i : Int)), (0, 3), (3, 0)] [] M _
  refine w_al hK rfl rfl ?_
  refine w_il hK rfl rfl ?_
  refine w_call [(1, 0), (0, (i : Int))] hK rfl rfl rfl rfl (Or.inr ⟨_, _, _, rfl, by decide, (by decide), rfl⟩) (c_pl i hi) ?_
  rintro _ Mq ⟨rfl, e_⟩
  subst Mq
  refine ⟨(by show (1 : Nat) ≠ 9; decide), (?_ : Wp 198 _ 155 3 [(1, 0), (0, (i : Int)), (0, 3), (3, 0)] [(1, (149 + 2 * (i : Int)))] M _)⟩
  refine w_as [(1, 0), (0, (i : Int)), (0, 3), (1, (149 + 2 * (i : Int)))] hK rfl rfl rfl ?_
  refine w_al hK rfl rfl ?_
  refine w_nonnull hK rfl (fun h5 => ?_) (fun h5 => ?_)
  · refine w_il hK rfl rfl ?_
    refine w_tab hK rfl rfl (by decide) (by decide) (fun h_ => absurd h_ (by decide)) (fun _ _ => ?_)
    show Wp 198 _ 155 24 [(1, 0), (0, (i : Int)), (0, 3), (1, (149 + 2 * (i : Int)))] [] M _
    refine w_al hK rfl rfl ?_
    refine w_call [(1, (149 + 2 * (i : Int)))] hK rfl rfl rfl rfl (Or.inr ⟨_, _, _, rfl, (isPP hi).nn, (isPP hi).lb, (isPP hi).o⟩) (c_isone C ⟨(isPP hi), (hpl i hi).1⟩) ?_
    rintro _ Mq ⟨rfl, e_⟩
    subst Mq
    have bv_ := bz_01 (pl i = one)
    refine ⟨by show (0 : Nat) ≠ 9; decide, (?_ : Wp 198 _ 155 26 [(1, 0), (0, (i : Int)), (0, 3), (1, (149 + 2 * (i : Int)))] [(0, (bz (pl i = one)))] M _)⟩
    have b1_ := bz_01 (pl i = one)
    refine w_eq hK rfl (by omega) (by omega) (fun h26 => ?_) (fun h26 => ?_)
    · refine w_ic hK rfl ?_
      refine w_iret hK rfl rfl ?_
      exact ⟨(congrArg (Prod.mk 0) (by omega)), ⟨_, u_, l_, z_, C, E, hpl, T, hR, hF⟩, (fun a h_ => rfl)⟩
    · refine w_ic hK rfl ?_
      refine w_goto hK rfl ?_
      refine w_iret hK rfl rfl ?_
      exact ⟨(congrArg (Prod.mk 0) (by omega)), ⟨_, u_, l_, z_, C, E, hpl, T, hR, hF⟩, (fun a h_ => rfl)⟩
  · exfalso; omega
set_option maxRecDepth 100000 in
theorem o_same {d : Nat} {M : Mem} {k : Nat} {pl : Nat → Pl k} {n : Int} {tx : Int → Int} {rc : Nat} {rw : Int → Int} {fc : Nat} {fa : Nat → Pl k} (H : CLS M k pl n tx rc rw fc fa) (i : Nat) (hi : i < 6) (j : Nat) (hj : j < 6)  : Ct 198 (d + 8) 156 [(1, 0), (0, (i : Int)), (0, (j : Int))] M (fun r_ M' => r_ = (0, (bz (pl i = pl j))) ∧ CLS M' k pl n tx 1 (upr rw 0 (bz (mlp (pl i) (pl j) = mlp (pl j) (pl i)))) fc fa ∧ (∀ a : Int, (a < 0 ∨ 160 < a) → M' a = M a)) := by
  have hK : cd 156 = k156 := rfl
  obtain ⟨P, u_, l_, z_, C, E, hpl, T, hR, hF⟩ := H
  have q1_ := qq_I k
  have p1_ := pp_I k
  have m1_ := mm_I k
  have bi_ := (hpl i hi).2
  have di_ := dg_lt9 bi_
  have bj_ := (hpl j hj).2
  have dj_ := dg_lt9 bj_
  show Wp 198 _ 156 0 [(1, 0), (0, (i : Int)), (0, (j : Int)), (3, 0), (3, 0)] [] M _
  refine w_al hK rfl rfl ?_
  refine w_il hK rfl rfl ?_
  refine w_call [(1, 0), (0, (i : Int))] hK rfl rfl rfl rfl (Or.inr ⟨_, _, _, rfl, by decide, (by decide), rfl⟩) (c_pl i hi) ?_
  rintro _ Mq ⟨rfl, e_⟩
  subst Mq
  refine ⟨(by show (1 : Nat) ≠ 9; decide), (?_ : Wp 198 _ 156 3 [(1, 0), (0, (i : Int)), (0, (j : Int)), (3, 0), (3, 0)] [(1, (149 + 2 * (i : Int)))] M _)⟩
  refine w_as [(1, 0), (0, (i : Int)), (0, (j : Int)), (1, (149 + 2 * (i : Int))), (3, 0)] hK rfl rfl rfl ?_
  refine w_al hK rfl rfl ?_
  refine w_il hK rfl rfl ?_
  refine w_call [(1, 0), (0, (j : Int))] hK rfl rfl rfl rfl (Or.inr ⟨_, _, _, rfl, by decide, (by decide), rfl⟩) (c_pl j hj) ?_
  rintro _ Mq ⟨rfl, e_⟩
  subst Mq
  refine ⟨(by show (1 : Nat) ≠ 9; decide), (?_ : Wp 198 _ 156 7 [(1, 0), (0, (i : Int)), (0, (j : Int)), (1, (149 + 2 * (i : Int))), (3, 0)] [(1, (149 + 2 * (j : Int)))] M _)⟩
  refine w_as [(1, 0), (0, (i : Int)), (0, (j : Int)), (1, (149 + 2 * (i : Int))), (1, (149 + 2 * (j : Int)))] hK rfl rfl rfl ?_
  refine w_al hK rfl rfl ?_
  refine w_null hK rfl (fun h9 => ?_) (fun h9 => ?_)
  · exfalso; omega
  · refine w_al hK rfl rfl ?_
    refine w_nonnull hK rfl (fun h11 => ?_) (fun h11 => ?_)
    · refine w_al hK rfl rfl ?_
      refine w_getr (n := 1) (v := 7) hK rfl rfl (by decide) (by decide) rfl rfl rfl rfl ?_
      refine w_al hK rfl rfl ?_
      refine w_al hK rfl rfl ?_
      refine w_al hK rfl rfl ?_
      refine w_getr (n := 12) (v := 145) hK rfl rfl (by decide) (by decide) rfl rfl rfl rfl ?_
      refine w_call [(1, 7), (1, (149 + 2 * (i : Int))), (1, (149 + 2 * (j : Int))), (1, 145)] hK rfl rfl rfl rfl (Or.inr ⟨_, _, _, rfl, by decide, (by decide), rfl⟩) (c_rprd C ⟨(isPP hi), (hpl i hi).1⟩ ⟨(isPP hj), (hpl j hj).1⟩ (isP_of (p := 145) rfl) (by omega) (by omega) (by omega)) ?_
      rintro _ V146 ⟨rfl, C146, S146⟩
      refine ⟨by decide, (?_ : Wp 198 _ 156 21 [(1, 0), (0, (i : Int)), (0, (j : Int)), (1, (149 + 2 * (i : Int))), (1, (149 + 2 * (j : Int)))] [] V146 _)⟩
      refine w_al hK rfl rfl ?_
      refine w_getr (n := 1) (v := 7) hK rfl rfl (by decide) (by decide) rfl rfl rfl rfl ?_
      refine w_al hK rfl rfl ?_
      refine w_al hK rfl rfl ?_
      refine w_al hK rfl rfl ?_
      refine w_getr (n := 13) (v := 147) hK rfl rfl (by decide) (by decide) rfl rfl rfl rfl ?_
      refine w_call [(1, 7), (1, (149 + 2 * (j : Int))), (1, (149 + 2 * (i : Int))), (1, 147)] hK rfl rfl rfl rfl (Or.inr ⟨_, _, _, rfl, by decide, (by decide), rfl⟩) (c_rprd C146 ⟨(isPP hj), ((pu_ne (P := pu P 8 (mlp (pl i) (pl j))) (f := mlp (pl i) (pl j)) (show (149 + 2 * (j : Int)) ≠ 145 by omega)).trans ((pu_ne (P := P) (f := mlp (pl i) (pl j)) (show (149 + 2 * (j : Int)) ≠ 8 by omega)).trans (hpl j hj).1))⟩ ⟨(isPP hi), ((pu_ne (P := pu P 8 (mlp (pl i) (pl j))) (f := mlp (pl i) (pl j)) (show (149 + 2 * (i : Int)) ≠ 145 by omega)).trans ((pu_ne (P := P) (f := mlp (pl i) (pl j)) (show (149 + 2 * (i : Int)) ≠ 8 by omega)).trans (hpl i hi).1))⟩ (isP_of (p := 147) rfl) (by omega) (by omega) (by omega)) ?_
      rintro _ V147 ⟨rfl, C147, S147⟩
      rw [pu_comm (P := pu P 8 (mlp (pl i) (pl j))) (a := 145) (b := 8) (f := mlp (pl i) (pl j)) (g := mlp (pl j) (pl i)) (by omega), pu_pu (P := P) (p := 8) (f := mlp (pl i) (pl j)) (g := mlp (pl j) (pl i))] at C147
      refine ⟨by decide, (?_ : Wp 198 _ 156 28 [(1, 0), (0, (i : Int)), (0, (j : Int)), (1, (149 + 2 * (i : Int))), (1, (149 + 2 * (j : Int)))] [] V147 _)⟩
      refine w_al hK rfl rfl ?_
      refine w_call [(1, 0)] hK rfl rfl rfl rfl (Or.inr ⟨_, _, _, rfl, by decide, (by decide), rfl⟩) (c_start0 (RWs.keep hR ((S147 0 (notP rfl)).trans (S146 0 (notP rfl))) ((S147 144 (notP rfl)).trans (S146 144 (notP rfl))))) ?_
      rintro _ V148 ⟨rfl, R148, F148⟩
      refine ⟨by decide, (?_ : Wp 198 _ 156 30 [(1, 0), (0, (i : Int)), (0, (j : Int)), (1, (149 + 2 * (i : Int))), (1, (149 + 2 * (j : Int)))] [] V148 _)⟩
      refine w_al hK rfl rfl ?_
      refine w_al hK rfl rfl ?_
      refine w_getr (n := 12) (v := 145) hK rfl rfl (by decide) (by decide) rfl rfl rfl rfl ?_
      refine w_al hK rfl rfl ?_
      refine w_getr (n := 13) (v := 147) hK rfl rfl (by decide) (by decide) rfl rfl rfl rfl ?_
      refine w_call [(1, 145), (1, 147)] hK rfl rfl rfl rfl (Or.inr ⟨_, _, _, rfl, (isP_of (p := 145) rfl).nn, (isP_of (p := 145) rfl).lb, (isP_of (p := 145) rfl).o⟩) (c_like (CS.congr C147 (fun a ha_ => F148 a (CSc_ne ha_ (by decide) (notP rfl)))) ⟨(isP_of (p := 145) rfl), ((pu_ne (P := pu (pu P 8 (mlp (pl j) (pl i))) 145 (mlp (pl i) (pl j))) (f := mlp (pl j) (pl i)) (show 145 ≠ 147 by omega)).trans pu_eq)⟩ ⟨(isP_of (p := 147) rfl), pu_eq⟩) ?_
      rintro _ Mq ⟨rfl, e_⟩
      subst Mq
      have bv_ := bz_01 ((mlp (pl i) (pl j)) = (mlp (pl j) (pl i)))
      refine ⟨by show (0 : Nat) ≠ 9; decide, (?_ : Wp 198 _ 156 36 [(1, 0), (0, (i : Int)), (0, (j : Int)), (1, (149 + 2 * (i : Int))), (1, (149 + 2 * (j : Int)))] [(0, (bz ((mlp (pl i) (pl j)) = (mlp (pl j) (pl i))))), (1, 0)] V148 _)⟩
      have b1_ := bz_01 (mlp (pl i) (pl j) = mlp (pl j) (pl i))
      refine w_eq hK rfl (by omega) (by omega) (fun h36 => ?_) (fun h36 => ?_)
      · refine w_lc hK rfl ?_
        refine w_call [(1, 0), (2, 0)] hK rfl rfl rfl rfl (Or.inr ⟨_, _, _, rfl, by decide, (by decide), rfl⟩) (c_tell R148 (by omega) 0) ?_
        rintro _ V149 ⟨rfl, R149, F149⟩
        refine ⟨by decide, (?_ : Wp 198 _ 156 41 [(1, 0), (0, (i : Int)), (0, (j : Int)), (1, (149 + 2 * (i : Int))), (1, (149 + 2 * (j : Int)))] [] V149 _)⟩
        refine w_al hK rfl rfl ?_
        refine w_al hK rfl rfl ?_
        refine w_call [(1, (149 + 2 * (i : Int))), (1, (149 + 2 * (j : Int)))] hK rfl rfl rfl rfl (Or.inr ⟨_, _, _, rfl, (isPP hi).nn, (isPP hi).lb, (isPP hi).o⟩) (c_like (CS.congr (CS.congr C147 (fun a ha_ => F148 a (CSc_ne ha_ (by decide) (notP rfl)))) (fun a ha_ => F149 a (CSc_ne ha_ (by decide) (notP rfl)) (CSc_ne ha_ (by decide) (notP rfl)))) ⟨(isPP hi), ((pu_ne (P := pu (pu P 8 (mlp (pl j) (pl i))) 145 (mlp (pl i) (pl j))) (f := mlp (pl j) (pl i)) (show (149 + 2 * (i : Int)) ≠ 147 by omega)).trans ((pu_ne (P := pu P 8 (mlp (pl j) (pl i))) (f := mlp (pl i) (pl j)) (show (149 + 2 * (i : Int)) ≠ 145 by omega)).trans ((pu_ne (P := P) (f := mlp (pl j) (pl i)) (show (149 + 2 * (i : Int)) ≠ 8 by omega)).trans (hpl i hi).1)))⟩ ⟨(isPP hj), ((pu_ne (P := pu (pu P 8 (mlp (pl j) (pl i))) 145 (mlp (pl i) (pl j))) (f := mlp (pl j) (pl i)) (show (149 + 2 * (j : Int)) ≠ 147 by omega)).trans ((pu_ne (P := pu P 8 (mlp (pl j) (pl i))) (f := mlp (pl i) (pl j)) (show (149 + 2 * (j : Int)) ≠ 145 by omega)).trans ((pu_ne (P := P) (f := mlp (pl j) (pl i)) (show (149 + 2 * (j : Int)) ≠ 8 by omega)).trans (hpl j hj).1)))⟩) ?_
        rintro _ Mq ⟨rfl, e_⟩
        subst Mq
        have bv_ := bz_01 ((pl i) = (pl j))
        refine ⟨by show (0 : Nat) ≠ 9; decide, (?_ : Wp 198 _ 156 44 [(1, 0), (0, (i : Int)), (0, (j : Int)), (1, (149 + 2 * (i : Int))), (1, (149 + 2 * (j : Int)))] [(0, (bz ((pl i) = (pl j))))] V149 _)⟩
        have b2_ := bz_01 (pl i = pl j)
        refine w_eq hK rfl (by omega) (by omega) (fun h44 => ?_) (fun h44 => ?_)
        · refine w_ic hK rfl ?_
          refine w_iret hK rfl rfl ?_
          rw [show bz (pl i = pl j) = 0 by omega, show bz (mlp (pl i) (pl j) = mlp (pl j) (pl i)) = 0 by omega]
          exact ⟨rfl, ⟨_, u_, l_, z_, (CS.congr (CS.congr C147 (fun a ha_ => F148 a (CSc_ne ha_ (by decide) (notP rfl)))) (fun a ha_ => F149 a (CSc_ne ha_ (by decide) (notP rfl)) (CSc_ne ha_ (by decide) (notP rfl)))), (ES.keep E ((F149 18 (by decide) (by decide)).trans ((F148 18 (by decide)).trans ((S147 18 (notP rfl)).trans (S146 18 (notP rfl)))))), (PLs.keep hpl (fun q_ hq_ => ((pu_ne (P := pu (pu P 8 (mlp (pl j) (pl i))) 145 (mlp (pl i) (pl j))) (f := mlp (pl j) (pl i)) (show (149 + 2 * (q_ : Int)) ≠ 147 by omega)).trans ((pu_ne (P := pu P 8 (mlp (pl j) (pl i))) (f := mlp (pl i) (pl j)) (show (149 + 2 * (q_ : Int)) ≠ 145 by omega)).trans (pu_ne (P := P) (f := mlp (pl j) (pl i)) (show (149 + 2 * (q_ : Int)) ≠ 8 by omega)))))), (TXs.keep T ((F149 140 (by decide) (by decide)).trans ((F148 140 (by decide)).trans ((S147 140 (notP rfl)).trans (S146 140 (notP rfl))))) ((F149 141 (by decide) (by decide)).trans ((F148 141 (by decide)).trans ((S147 141 (notP rfl)).trans (S146 141 (notP rfl)))))), R149, (FCs.keep hF ((F149 52 (by decide) (by decide)).trans ((F148 52 (by decide)).trans ((S147 52 (notP rfl)).trans (S146 52 (notP rfl))))) (fun q_ hq_ => ((pu_ne (P := pu (pu P 8 (mlp (pl j) (pl i))) 145 (mlp (pl i) (pl j))) (f := mlp (pl j) (pl i)) (show (68 + 6 * (q_ : Int)) ≠ 147 by omega)).trans ((pu_ne (P := pu P 8 (mlp (pl j) (pl i))) (f := mlp (pl i) (pl j)) (show (68 + 6 * (q_ : Int)) ≠ 145 by omega)).trans (pu_ne (P := P) (f := mlp (pl j) (pl i)) (show (68 + 6 * (q_ : Int)) ≠ 8 by omega))))))⟩, (fun a h_ => ((F149 a (by omega) (by omega)).trans ((F148 a (by omega)).trans ((S147 a (npC h_)).trans (S146 a (npC h_))))))⟩
        · refine w_ic hK rfl ?_
          refine w_goto hK rfl ?_
          refine w_iret hK rfl rfl ?_
          rw [show bz (pl i = pl j) = 1 by omega, show bz (mlp (pl i) (pl j) = mlp (pl j) (pl i)) = 0 by omega]
          exact ⟨rfl, ⟨_, u_, l_, z_, (CS.congr (CS.congr C147 (fun a ha_ => F148 a (CSc_ne ha_ (by decide) (notP rfl)))) (fun a ha_ => F149 a (CSc_ne ha_ (by decide) (notP rfl)) (CSc_ne ha_ (by decide) (notP rfl)))), (ES.keep E ((F149 18 (by decide) (by decide)).trans ((F148 18 (by decide)).trans ((S147 18 (notP rfl)).trans (S146 18 (notP rfl)))))), (PLs.keep hpl (fun q_ hq_ => ((pu_ne (P := pu (pu P 8 (mlp (pl j) (pl i))) 145 (mlp (pl i) (pl j))) (f := mlp (pl j) (pl i)) (show (149 + 2 * (q_ : Int)) ≠ 147 by omega)).trans ((pu_ne (P := pu P 8 (mlp (pl j) (pl i))) (f := mlp (pl i) (pl j)) (show (149 + 2 * (q_ : Int)) ≠ 145 by omega)).trans (pu_ne (P := P) (f := mlp (pl j) (pl i)) (show (149 + 2 * (q_ : Int)) ≠ 8 by omega)))))), (TXs.keep T ((F149 140 (by decide) (by decide)).trans ((F148 140 (by decide)).trans ((S147 140 (notP rfl)).trans (S146 140 (notP rfl))))) ((F149 141 (by decide) (by decide)).trans ((F148 141 (by decide)).trans ((S147 141 (notP rfl)).trans (S146 141 (notP rfl)))))), R149, (FCs.keep hF ((F149 52 (by decide) (by decide)).trans ((F148 52 (by decide)).trans ((S147 52 (notP rfl)).trans (S146 52 (notP rfl))))) (fun q_ hq_ => ((pu_ne (P := pu (pu P 8 (mlp (pl j) (pl i))) 145 (mlp (pl i) (pl j))) (f := mlp (pl j) (pl i)) (show (68 + 6 * (q_ : Int)) ≠ 147 by omega)).trans ((pu_ne (P := pu P 8 (mlp (pl j) (pl i))) (f := mlp (pl i) (pl j)) (show (68 + 6 * (q_ : Int)) ≠ 145 by omega)).trans (pu_ne (P := P) (f := mlp (pl j) (pl i)) (show (68 + 6 * (q_ : Int)) ≠ 8 by omega))))))⟩, (fun a h_ => ((F149 a (by omega) (by omega)).trans ((F148 a (by omega)).trans ((S147 a (npC h_)).trans (S146 a (npC h_))))))⟩
      · refine w_lc hK rfl ?_
        refine w_goto hK rfl ?_
        refine w_call [(1, 0), (2, 1)] hK rfl rfl rfl rfl (Or.inr ⟨_, _, _, rfl, by decide, (by decide), rfl⟩) (c_tell R148 (by omega) 1) ?_
        rintro _ V150 ⟨rfl, R150, F150⟩
        refine ⟨by decide, (?_ : Wp 198 _ 156 41 [(1, 0), (0, (i : Int)), (0, (j : Int)), (1, (149 + 2 * (i : Int))), (1, (149 + 2 * (j : Int)))] [] V150 _)⟩
        refine w_al hK rfl rfl ?_
        refine w_al hK rfl rfl ?_
        refine w_call [(1, (149 + 2 * (i : Int))), (1, (149 + 2 * (j : Int)))] hK rfl rfl rfl rfl (Or.inr ⟨_, _, _, rfl, (isPP hi).nn, (isPP hi).lb, (isPP hi).o⟩) (c_like (CS.congr (CS.congr C147 (fun a ha_ => F148 a (CSc_ne ha_ (by decide) (notP rfl)))) (fun a ha_ => F150 a (CSc_ne ha_ (by decide) (notP rfl)) (CSc_ne ha_ (by decide) (notP rfl)))) ⟨(isPP hi), ((pu_ne (P := pu (pu P 8 (mlp (pl j) (pl i))) 145 (mlp (pl i) (pl j))) (f := mlp (pl j) (pl i)) (show (149 + 2 * (i : Int)) ≠ 147 by omega)).trans ((pu_ne (P := pu P 8 (mlp (pl j) (pl i))) (f := mlp (pl i) (pl j)) (show (149 + 2 * (i : Int)) ≠ 145 by omega)).trans ((pu_ne (P := P) (f := mlp (pl j) (pl i)) (show (149 + 2 * (i : Int)) ≠ 8 by omega)).trans (hpl i hi).1)))⟩ ⟨(isPP hj), ((pu_ne (P := pu (pu P 8 (mlp (pl j) (pl i))) 145 (mlp (pl i) (pl j))) (f := mlp (pl j) (pl i)) (show (149 + 2 * (j : Int)) ≠ 147 by omega)).trans ((pu_ne (P := pu P 8 (mlp (pl j) (pl i))) (f := mlp (pl i) (pl j)) (show (149 + 2 * (j : Int)) ≠ 145 by omega)).trans ((pu_ne (P := P) (f := mlp (pl j) (pl i)) (show (149 + 2 * (j : Int)) ≠ 8 by omega)).trans (hpl j hj).1)))⟩) ?_
        rintro _ Mq ⟨rfl, e_⟩
        subst Mq
        have bv_ := bz_01 ((pl i) = (pl j))
        refine ⟨by show (0 : Nat) ≠ 9; decide, (?_ : Wp 198 _ 156 44 [(1, 0), (0, (i : Int)), (0, (j : Int)), (1, (149 + 2 * (i : Int))), (1, (149 + 2 * (j : Int)))] [(0, (bz ((pl i) = (pl j))))] V150 _)⟩
        have b2_ := bz_01 (pl i = pl j)
        refine w_eq hK rfl (by omega) (by omega) (fun h44 => ?_) (fun h44 => ?_)
        · refine w_ic hK rfl ?_
          refine w_iret hK rfl rfl ?_
          rw [show bz (pl i = pl j) = 0 by omega, show bz (mlp (pl i) (pl j) = mlp (pl j) (pl i)) = 1 by omega]
          exact ⟨rfl, ⟨_, u_, l_, z_, (CS.congr (CS.congr C147 (fun a ha_ => F148 a (CSc_ne ha_ (by decide) (notP rfl)))) (fun a ha_ => F150 a (CSc_ne ha_ (by decide) (notP rfl)) (CSc_ne ha_ (by decide) (notP rfl)))), (ES.keep E ((F150 18 (by decide) (by decide)).trans ((F148 18 (by decide)).trans ((S147 18 (notP rfl)).trans (S146 18 (notP rfl)))))), (PLs.keep hpl (fun q_ hq_ => ((pu_ne (P := pu (pu P 8 (mlp (pl j) (pl i))) 145 (mlp (pl i) (pl j))) (f := mlp (pl j) (pl i)) (show (149 + 2 * (q_ : Int)) ≠ 147 by omega)).trans ((pu_ne (P := pu P 8 (mlp (pl j) (pl i))) (f := mlp (pl i) (pl j)) (show (149 + 2 * (q_ : Int)) ≠ 145 by omega)).trans (pu_ne (P := P) (f := mlp (pl j) (pl i)) (show (149 + 2 * (q_ : Int)) ≠ 8 by omega)))))), (TXs.keep T ((F150 140 (by decide) (by decide)).trans ((F148 140 (by decide)).trans ((S147 140 (notP rfl)).trans (S146 140 (notP rfl))))) ((F150 141 (by decide) (by decide)).trans ((F148 141 (by decide)).trans ((S147 141 (notP rfl)).trans (S146 141 (notP rfl)))))), R150, (FCs.keep hF ((F150 52 (by decide) (by decide)).trans ((F148 52 (by decide)).trans ((S147 52 (notP rfl)).trans (S146 52 (notP rfl))))) (fun q_ hq_ => ((pu_ne (P := pu (pu P 8 (mlp (pl j) (pl i))) 145 (mlp (pl i) (pl j))) (f := mlp (pl j) (pl i)) (show (68 + 6 * (q_ : Int)) ≠ 147 by omega)).trans ((pu_ne (P := pu P 8 (mlp (pl j) (pl i))) (f := mlp (pl i) (pl j)) (show (68 + 6 * (q_ : Int)) ≠ 145 by omega)).trans (pu_ne (P := P) (f := mlp (pl j) (pl i)) (show (68 + 6 * (q_ : Int)) ≠ 8 by omega))))))⟩, (fun a h_ => ((F150 a (by omega) (by omega)).trans ((F148 a (by omega)).trans ((S147 a (npC h_)).trans (S146 a (npC h_))))))⟩
        · refine w_ic hK rfl ?_
          refine w_goto hK rfl ?_
          refine w_iret hK rfl rfl ?_
          rw [show bz (pl i = pl j) = 1 by omega, show bz (mlp (pl i) (pl j) = mlp (pl j) (pl i)) = 1 by omega]
          exact ⟨rfl, ⟨_, u_, l_, z_, (CS.congr (CS.congr C147 (fun a ha_ => F148 a (CSc_ne ha_ (by decide) (notP rfl)))) (fun a ha_ => F150 a (CSc_ne ha_ (by decide) (notP rfl)) (CSc_ne ha_ (by decide) (notP rfl)))), (ES.keep E ((F150 18 (by decide) (by decide)).trans ((F148 18 (by decide)).trans ((S147 18 (notP rfl)).trans (S146 18 (notP rfl)))))), (PLs.keep hpl (fun q_ hq_ => ((pu_ne (P := pu (pu P 8 (mlp (pl j) (pl i))) 145 (mlp (pl i) (pl j))) (f := mlp (pl j) (pl i)) (show (149 + 2 * (q_ : Int)) ≠ 147 by omega)).trans ((pu_ne (P := pu P 8 (mlp (pl j) (pl i))) (f := mlp (pl i) (pl j)) (show (149 + 2 * (q_ : Int)) ≠ 145 by omega)).trans (pu_ne (P := P) (f := mlp (pl j) (pl i)) (show (149 + 2 * (q_ : Int)) ≠ 8 by omega)))))), (TXs.keep T ((F150 140 (by decide) (by decide)).trans ((F148 140 (by decide)).trans ((S147 140 (notP rfl)).trans (S146 140 (notP rfl))))) ((F150 141 (by decide) (by decide)).trans ((F148 141 (by decide)).trans ((S147 141 (notP rfl)).trans (S146 141 (notP rfl)))))), R150, (FCs.keep hF ((F150 52 (by decide) (by decide)).trans ((F148 52 (by decide)).trans ((S147 52 (notP rfl)).trans (S146 52 (notP rfl))))) (fun q_ hq_ => ((pu_ne (P := pu (pu P 8 (mlp (pl j) (pl i))) 145 (mlp (pl i) (pl j))) (f := mlp (pl j) (pl i)) (show (68 + 6 * (q_ : Int)) ≠ 147 by omega)).trans ((pu_ne (P := pu P 8 (mlp (pl j) (pl i))) (f := mlp (pl i) (pl j)) (show (68 + 6 * (q_ : Int)) ≠ 145 by omega)).trans (pu_ne (P := P) (f := mlp (pl j) (pl i)) (show (68 + 6 * (q_ : Int)) ≠ 8 by omega))))))⟩, (fun a h_ => ((F150 a (by omega) (by omega)).trans ((F148 a (by omega)).trans ((S147 a (npC h_)).trans (S146 a (npC h_))))))⟩
    · exfalso; omega
set_option maxRecDepth 100000 in
theorem n_same {d : Nat} {M : Mem} {k : Nat} {pl : Nat → Pl k} {n : Int} {tx : Int → Int} {rc : Nat} {rw : Int → Int} {fc : Nat} {fa : Nat → Pl k} (H : CLS M k pl n tx rc rw fc fa) (i j : Int) (i1_ : -2147483648 ≤ i) (i2_ : i ≤ 2147483647) (j1_ : -2147483648 ≤ j) (j2_ : j ≤ 2147483647) (hn : ¬ ((0 ≤ i ∧ i < 6) ∧ (0 ≤ j ∧ j < 6))) : Ct 198 (d + 8) 156 [(1, 0), (0, i), (0, j)] M (fun r_ M' => r_ = (0, -1) ∧ M' = M) := by
  have hK : cd 156 = k156 := rfl
  obtain ⟨P, u_, l_, z_, C, E, hpl, T, hR, hF⟩ := H
  have q1_ := qq_I k
  have p1_ := pp_I k
  have m1_ := mm_I k
  show Wp 198 _ 156 0 [(1, 0), (0, i), (0, j), (3, 0), (3, 0)] [] M _
  refine w_al hK rfl rfl ?_
  refine w_il hK rfl rfl ?_
  refine w_call [(1, 0), (0, i)] hK rfl rfl rfl rfl (Or.inr ⟨_, _, _, rfl, by decide, (by decide), rfl⟩) (c_plI i (by omega) (by omega)) ?_
  rintro _ Mq ⟨rfl, e_⟩
  subst Mq
  have pI_ := plr_I i
  refine ⟨(by show (1 : Nat) ≠ 9; decide), (?_ : Wp 198 _ 156 3 [(1, 0), (0, i), (0, j), (3, 0), (3, 0)] [(1, (plr i))] M _)⟩
  refine w_as [(1, 0), (0, i), (0, j), (1, (plr i)), (3, 0)] hK rfl rfl rfl ?_
  refine w_al hK rfl rfl ?_
  refine w_il hK rfl rfl ?_
  refine w_call [(1, 0), (0, j)] hK rfl rfl rfl rfl (Or.inr ⟨_, _, _, rfl, by decide, (by decide), rfl⟩) (c_plI j (by omega) (by omega)) ?_
  rintro _ Mq ⟨rfl, e_⟩
  subst Mq
  have pI_ := plr_I j
  refine ⟨(by show (1 : Nat) ≠ 9; decide), (?_ : Wp 198 _ 156 7 [(1, 0), (0, i), (0, j), (1, (plr i)), (3, 0)] [(1, (plr j))] M _)⟩
  refine w_as [(1, 0), (0, i), (0, j), (1, (plr i)), (1, (plr j))] hK rfl rfl rfl ?_
  refine w_al hK rfl rfl ?_
  refine w_null hK rfl (fun h9 => ?_) (fun h9 => ?_)
  · refine w_ic hK rfl ?_
    refine w_iret hK rfl rfl ?_
    exact ⟨rfl, rfl⟩
  · refine w_al hK rfl rfl ?_
    refine w_nonnull hK rfl (fun h11 => ?_) (fun h11 => ?_)
    · exfalso; omega
    · refine w_ic hK rfl ?_
      refine w_iret hK rfl rfl ?_
      exact ⟨rfl, rfl⟩
set_option maxRecDepth 100000 in
theorem o_conj {d : Nat} {M : Mem} {k : Nat} {pl : Nat → Pl k} {n : Int} {tx : Int → Int} {rc : Nat} {rw : Int → Int} {fc : Nat} {fa : Nat → Pl k} (H : CLS M k pl n tx rc rw fc fa) (x : El k) : Ct 198 (d + 8) 131 [(1, 0), (0, (x.val : Int))] M (fun r_ M' => r_ = (0, (cjs x (qq k - 1))) ∧ CLS M' k pl n tx 1 (upr rw 0 (bcw (cjs x (qq k - 1)))) fc fa ∧ (∀ a : Int, (a < 0 ∨ 160 < a) → M' a = M a)) := by
  have hK : cd 131 = k131 := rfl
  obtain ⟨P, u_, l_, z_, C, E, hpl, T, hR, hF⟩ := H
  have q1_ := qq_I k
  have p1_ := pp_I k
  have m1_ := mm_I k
  have lx_ := x.isLt
  show Wp 198 _ 131 0 [(1, 0), (0, (x.val : Int)), (3, 0)] [] M _
  refine w_al hK rfl rfl ?_
  refine w_getr (n := 0) (v := 1) hK rfl rfl (by decide) (by decide) rfl rfl rfl rfl ?_
  refine w_il hK rfl rfl ?_
  refine w_call [(1, 1), (0, (x.val : Int))] hK rfl rfl rfl rfl (Or.inr ⟨_, _, _, rfl, by decide, (by decide), rfl⟩) (c_has (by decide) C.F (x.val : Int) (by omega) (by omega)) ?_
  rintro _ Mq ⟨rfl, e_⟩
  subst Mq
  have hI_ := ite01 (0 ≤ (x.val : Int) ∧ (x.val : Int) < (qq k : Int))
  refine ⟨(by show (0 : Nat) ≠ 9; decide), (?_ : Wp 198 _ 131 4 [(1, 0), (0, (x.val : Int)), (3, 0)] [(0, (if 0 ≤ (x.val : Int) ∧ (x.val : Int) < (qq k : Int) then 1 else 0))] M _)⟩
  refine w_ne hK rfl (by omega) (by omega) (fun h4 => ?_) (fun h4 => ?_)
  · refine w_al hK rfl rfl ?_
    refine w_getr (n := 0) (v := 1) hK rfl rfl (by decide) (by decide) rfl rfl rfl rfl ?_
    refine w_il hK rfl rfl ?_
    refine w_call [(1, 1), (0, (x.val : Int))] hK rfl rfl rfl rfl (Or.inr ⟨_, _, _, rfl, by decide, (by decide), rfl⟩) (c_conjs (by decide) C.F x) ?_
    rintro _ Mq ⟨rfl, e_⟩
    subst Mq
    refine ⟨by show (0 : Nat) ≠ 9; decide, (?_ : Wp 198 _ 131 11 [(1, 0), (0, (x.val : Int)), (3, 0)] [(0, (cjs x (qq k - 1)))] M _)⟩
    refine w_is [(1, 0), (0, (x.val : Int)), (0, (cjs x (qq k - 1)))] hK rfl rfl rfl ?_
    refine w_al hK rfl rfl ?_
    refine w_call [(1, 0)] hK rfl rfl rfl rfl (Or.inr ⟨_, _, _, rfl, by decide, (by decide), rfl⟩) (c_start0 hR) ?_
    rintro _ V151 ⟨rfl, R151, F151⟩
    refine ⟨by decide, (?_ : Wp 198 _ 131 14 [(1, 0), (0, (x.val : Int)), (0, (cjs x (qq k - 1)))] [] V151 _)⟩
    refine w_al hK rfl rfl ?_
    refine w_il hK rfl rfl ?_
    refine w_call [(0, (cjs x (qq k - 1)))] hK rfl rfl rfl rfl (Or.inl rfl) (c_bitc (cjs x (qq k - 1))) ?_
    rintro _ Mq ⟨rfl, e_⟩
    subst Mq
    refine ⟨by show (0 : Nat) ≠ 9; decide, (?_ : Wp 198 _ 131 17 [(1, 0), (0, (x.val : Int)), (0, (cjs x (qq k - 1)))] [(0, (bcw (cjs x (qq k - 1)))), (1, 0)] V151 _)⟩
    have bI_ := bcw_I (cjs x (qq k - 1))
    refine w_i2l hK rfl (by omega) (by omega) ?_
    refine w_call [(1, 0), (2, (bcw (cjs x (qq k - 1))))] hK rfl rfl rfl rfl (Or.inr ⟨_, _, _, rfl, by decide, (by decide), rfl⟩) (c_tell R151 (by omega) (bcw (cjs x (qq k - 1)))) ?_
    rintro _ V152 ⟨rfl, R152, F152⟩
    refine ⟨by decide, (?_ : Wp 198 _ 131 19 [(1, 0), (0, (x.val : Int)), (0, (cjs x (qq k - 1)))] [] V152 _)⟩
    refine w_il hK rfl rfl ?_
    refine w_iret hK rfl rfl ?_
    exact ⟨rfl, ⟨_, u_, l_, z_, (CS.congr (CS.congr C (fun a ha_ => F151 a (CSc_ne ha_ (by decide) (notP rfl)))) (fun a ha_ => F152 a (CSc_ne ha_ (by decide) (notP rfl)) (CSc_ne ha_ (by decide) (notP rfl)))), (ES.keep E ((F152 18 (by decide) (by decide)).trans (F151 18 (by decide)))), hpl, (TXs.keep T ((F152 140 (by decide) (by decide)).trans (F151 140 (by decide))) ((F152 141 (by decide) (by decide)).trans (F151 141 (by decide)))), R152, (FCs.keep hF ((F152 52 (by decide) (by decide)).trans (F151 52 (by decide))) (fun q_ hq_ => rfl))⟩, (fun a h_ => ((F152 a (by omega) (by omega)).trans (F151 a (by omega))))⟩
  · exfalso; omega
set_option maxRecDepth 100000 in
theorem n_conj {d : Nat} {M : Mem} {k : Nat} {pl : Nat → Pl k} {n : Int} {tx : Int → Int} {rc : Nat} {rw : Int → Int} {fc : Nat} {fa : Nat → Pl k} (H : CLS M k pl n tx rc rw fc fa) (a : Int) (a1_ : -2147483648 ≤ a) (a2_ : a ≤ 2147483647) (hn : ¬ (0 ≤ a ∧ a < (qq k : Int))) : Ct 198 (d + 8) 131 [(1, 0), (0, a)] M (fun r_ M' => r_ = (0, -1) ∧ M' = M) := by
  have hK : cd 131 = k131 := rfl
  obtain ⟨P, u_, l_, z_, C, E, hpl, T, hR, hF⟩ := H
  have q1_ := qq_I k
  have p1_ := pp_I k
  have m1_ := mm_I k
  show Wp 198 _ 131 0 [(1, 0), (0, a), (3, 0)] [] M _
  refine w_al hK rfl rfl ?_
  refine w_getr (n := 0) (v := 1) hK rfl rfl (by decide) (by decide) rfl rfl rfl rfl ?_
  refine w_il hK rfl rfl ?_
  refine w_call [(1, 1), (0, a)] hK rfl rfl rfl rfl (Or.inr ⟨_, _, _, rfl, by decide, (by decide), rfl⟩) (c_has (by decide) C.F a (by omega) (by omega)) ?_
  rintro _ Mq ⟨rfl, e_⟩
  subst Mq
  have hI_ := ite01 (0 ≤ a ∧ a < (qq k : Int))
  refine ⟨(by show (0 : Nat) ≠ 9; decide), (?_ : Wp 198 _ 131 4 [(1, 0), (0, a), (3, 0)] [(0, (if 0 ≤ a ∧ a < (qq k : Int) then 1 else 0))] M _)⟩
  refine w_ne hK rfl (by omega) (by omega) (fun h4 => ?_) (fun h4 => ?_)
  · exfalso; omega
  · refine w_ic hK rfl ?_
    refine w_iret hK rfl rfl ?_
    exact ⟨rfl, rfl⟩
set_option maxRecDepth 100000 in
theorem o_value {d : Nat} {M : Mem} {k : Nat} {pl : Nat → Pl k} {n : Int} {tx : Int → Int} {rc : Nat} {rw : Int → Int} {fc : Nat} {fa : Nat → Pl k} (H : CLS M k pl n tx rc rw fc fa) (i : Nat) (hi : i < 6) (x : El k) : Ct 198 (d + 8) 161 [(1, 0), (0, (i : Int)), (0, (x.val : Int))] M (fun r_ M' => r_ = (0, ((vl (pl i) x).val : Int)) ∧ CLS M' k pl n tx rc rw fc fa ∧ (∀ a : Int, (a < 0 ∨ 160 < a) → M' a = M a)) := by
  have hK : cd 161 = k161 := rfl
  obtain ⟨P, u_, l_, z_, C, E, hpl, T, hR, hF⟩ := H
  have q1_ := qq_I k
  have p1_ := pp_I k
  have m1_ := mm_I k
  have bi_ := (hpl i hi).2
  have di_ := dg_lt9 bi_
  have lx_ := x.isLt
  show Wp 198 _ 161 0 [(1, 0), (0, (i : Int)), (0, (x.val : Int)), (3, 0)] [] M _
  refine w_al hK rfl rfl ?_
  refine w_il hK rfl rfl ?_
  refine w_call [(1, 0), (0, (i : Int))] hK rfl rfl rfl rfl (Or.inr ⟨_, _, _, rfl, by decide, (by decide), rfl⟩) (c_pl i hi) ?_
  rintro _ Mq ⟨rfl, e_⟩
  subst Mq
  refine ⟨(by show (1 : Nat) ≠ 9; decide), (?_ : Wp 198 _ 161 3 [(1, 0), (0, (i : Int)), (0, (x.val : Int)), (3, 0)] [(1, (149 + 2 * (i : Int)))] M _)⟩
  refine w_as [(1, 0), (0, (i : Int)), (0, (x.val : Int)), (1, (149 + 2 * (i : Int)))] hK rfl rfl rfl ?_
  refine w_al hK rfl rfl ?_
  refine w_null hK rfl (fun h5 => ?_) (fun h5 => ?_)
  · exfalso; omega
  · refine w_al hK rfl rfl ?_
    refine w_getr (n := 0) (v := 1) hK rfl rfl (by decide) (by decide) rfl rfl rfl rfl ?_
    refine w_il hK rfl rfl ?_
    refine w_call [(1, 1), (0, (x.val : Int))] hK rfl rfl rfl rfl (Or.inr ⟨_, _, _, rfl, by decide, (by decide), rfl⟩) (c_has (by decide) C.F (x.val : Int) (by omega) (by omega)) ?_
    rintro _ Mq ⟨rfl, e_⟩
    subst Mq
    have hI_ := ite01 (0 ≤ (x.val : Int) ∧ (x.val : Int) < (qq k : Int))
    refine ⟨(by show (0 : Nat) ≠ 9; decide), (?_ : Wp 198 _ 161 10 [(1, 0), (0, (i : Int)), (0, (x.val : Int)), (1, (149 + 2 * (i : Int)))] [(0, (if 0 ≤ (x.val : Int) ∧ (x.val : Int) < (qq k : Int) then 1 else 0))] M _)⟩
    refine w_ne hK rfl (by omega) (by omega) (fun h10 => ?_) (fun h10 => ?_)
    · refine w_al hK rfl rfl ?_
      refine w_getr (n := 3) (v := 45) hK rfl rfl (by decide) (by decide) rfl rfl rfl rfl ?_
      refine w_al hK rfl rfl ?_
      refine w_il hK rfl rfl ?_
      refine w_call [(1, 45), (1, (149 + 2 * (i : Int))), (0, (x.val : Int))] hK rfl rfl rfl rfl (Or.inr ⟨_, _, _, rfl, by decide, (by decide), rfl⟩) (c_val C ⟨(isPP hi), (hpl i hi).1⟩ x) ?_
      rintro _ Mq ⟨rfl, e_⟩
      subst Mq
      have bv_ := el_I (vl (pl i) x)
      refine ⟨by show (0 : Nat) ≠ 9; decide, (?_ : Wp 198 _ 161 18 [(1, 0), (0, (i : Int)), (0, (x.val : Int)), (1, (149 + 2 * (i : Int)))] [(0, ((vl (pl i) x).val : Int))] M _)⟩
      refine w_iret hK rfl rfl ?_
      exact ⟨rfl, ⟨_, u_, l_, z_, C, E, hpl, T, hR, hF⟩, (fun a h_ => rfl)⟩
    · exfalso; omega
set_option maxRecDepth 100000 in
theorem n_value {d : Nat} {M : Mem} {k : Nat} {pl : Nat → Pl k} {n : Int} {tx : Int → Int} {rc : Nat} {rw : Int → Int} {fc : Nat} {fa : Nat → Pl k} (H : CLS M k pl n tx rc rw fc fa) (i x : Int) (i1_ : -2147483648 ≤ i) (i2_ : i ≤ 2147483647) (x1_ : -2147483648 ≤ x) (x2_ : x ≤ 2147483647) (hn : ¬ ((0 ≤ i ∧ i < 6) ∧ 0 ≤ x ∧ x < (qq k : Int))) : Ct 198 (d + 8) 161 [(1, 0), (0, i), (0, x)] M (fun r_ M' => r_ = (0, -1) ∧ M' = M) := by
  have hK : cd 161 = k161 := rfl
  obtain ⟨P, u_, l_, z_, C, E, hpl, T, hR, hF⟩ := H
  have q1_ := qq_I k
  have p1_ := pp_I k
  have m1_ := mm_I k
  show Wp 198 _ 161 0 [(1, 0), (0, i), (0, x), (3, 0)] [] M _
  refine w_al hK rfl rfl ?_
  refine w_il hK rfl rfl ?_
  refine w_call [(1, 0), (0, i)] hK rfl rfl rfl rfl (Or.inr ⟨_, _, _, rfl, by decide, (by decide), rfl⟩) (c_plI i (by omega) (by omega)) ?_
  rintro _ Mq ⟨rfl, e_⟩
  subst Mq
  have pI_ := plr_I i
  refine ⟨(by show (1 : Nat) ≠ 9; decide), (?_ : Wp 198 _ 161 3 [(1, 0), (0, i), (0, x), (3, 0)] [(1, (plr i))] M _)⟩
  refine w_as [(1, 0), (0, i), (0, x), (1, (plr i))] hK rfl rfl rfl ?_
  refine w_al hK rfl rfl ?_
  refine w_null hK rfl (fun h5 => ?_) (fun h5 => ?_)
  · refine w_ic hK rfl ?_
    refine w_goto hK rfl ?_
    refine w_iret hK rfl rfl ?_
    exact ⟨rfl, rfl⟩
  · refine w_al hK rfl rfl ?_
    refine w_getr (n := 0) (v := 1) hK rfl rfl (by decide) (by decide) rfl rfl rfl rfl ?_
    refine w_il hK rfl rfl ?_
    refine w_call [(1, 1), (0, x)] hK rfl rfl rfl rfl (Or.inr ⟨_, _, _, rfl, by decide, (by decide), rfl⟩) (c_has (by decide) C.F x (by omega) (by omega)) ?_
    rintro _ Mq ⟨rfl, e_⟩
    subst Mq
    have hI_ := ite01 (0 ≤ x ∧ x < (qq k : Int))
    refine ⟨(by show (0 : Nat) ≠ 9; decide), (?_ : Wp 198 _ 161 10 [(1, 0), (0, i), (0, x), (1, (plr i))] [(0, (if 0 ≤ x ∧ x < (qq k : Int) then 1 else 0))] M _)⟩
    refine w_ne hK rfl (by omega) (by omega) (fun h10 => ?_) (fun h10 => ?_)
    · exfalso; omega
    · refine w_ic hK rfl ?_
      refine w_goto hK rfl ?_
      refine w_iret hK rfl rfl ?_
      exact ⟨rfl, rfl⟩
set_option maxRecDepth 100000 in
theorem o_does {d : Nat} {M : Mem} {k : Nat} {pl : Nat → Pl k} {n : Int} {tx : Int → Int} {rc : Nat} {rw : Int → Int} {fc : Nat} {fa : Nat → Pl k} (H : CLS M k pl n tx rc rw fc fa) (i : Nat) (hi : i < 6) (x : El k) : Ct 198 (d + 8) 163 [(1, 0), (0, (i : Int)), (0, (x.val : Int))] M (fun r_ M' => r_ = (0, ((dn (pl i) x).val : Int)) ∧ CLS M' k pl n tx rc rw fc fa ∧ (∀ a : Int, (a < 0 ∨ 160 < a) → M' a = M a)) := by
  have hK : cd 163 = k163 := rfl
  obtain ⟨P, u_, l_, z_, C, E, hpl, T, hR, hF⟩ := H
  have q1_ := qq_I k
  have p1_ := pp_I k
  have m1_ := mm_I k
  have bi_ := (hpl i hi).2
  have di_ := dg_lt9 bi_
  have lx_ := x.isLt
  show Wp 198 _ 163 0 [(1, 0), (0, (i : Int)), (0, (x.val : Int)), (3, 0)] [] M _
  refine w_al hK rfl rfl ?_
  refine w_il hK rfl rfl ?_
  refine w_call [(1, 0), (0, (i : Int))] hK rfl rfl rfl rfl (Or.inr ⟨_, _, _, rfl, by decide, (by decide), rfl⟩) (c_pl i hi) ?_
  rintro _ Mq ⟨rfl, e_⟩
  subst Mq
  refine ⟨(by show (1 : Nat) ≠ 9; decide), (?_ : Wp 198 _ 163 3 [(1, 0), (0, (i : Int)), (0, (x.val : Int)), (3, 0)] [(1, (149 + 2 * (i : Int)))] M _)⟩
  refine w_as [(1, 0), (0, (i : Int)), (0, (x.val : Int)), (1, (149 + 2 * (i : Int)))] hK rfl rfl rfl ?_
  refine w_al hK rfl rfl ?_
  refine w_null hK rfl (fun h5 => ?_) (fun h5 => ?_)
  · exfalso; omega
  · refine w_al hK rfl rfl ?_
    refine w_getr (n := 0) (v := 1) hK rfl rfl (by decide) (by decide) rfl rfl rfl rfl ?_
    refine w_il hK rfl rfl ?_
    refine w_call [(1, 1), (0, (x.val : Int))] hK rfl rfl rfl rfl (Or.inr ⟨_, _, _, rfl, by decide, (by decide), rfl⟩) (c_has (by decide) C.F (x.val : Int) (by omega) (by omega)) ?_
    rintro _ Mq ⟨rfl, e_⟩
    subst Mq
    have hI_ := ite01 (0 ≤ (x.val : Int) ∧ (x.val : Int) < (qq k : Int))
    refine ⟨(by show (0 : Nat) ≠ 9; decide), (?_ : Wp 198 _ 163 10 [(1, 0), (0, (i : Int)), (0, (x.val : Int)), (1, (149 + 2 * (i : Int)))] [(0, (if 0 ≤ (x.val : Int) ∧ (x.val : Int) < (qq k : Int) then 1 else 0))] M _)⟩
    refine w_ne hK rfl (by omega) (by omega) (fun h10 => ?_) (fun h10 => ?_)
    · refine w_al hK rfl rfl ?_
      refine w_getr (n := 3) (v := 45) hK rfl rfl (by decide) (by decide) rfl rfl rfl rfl ?_
      refine w_al hK rfl rfl ?_
      refine w_il hK rfl rfl ?_
      refine w_call [(1, 45), (1, (149 + 2 * (i : Int))), (0, (x.val : Int))] hK rfl rfl rfl rfl (Or.inr ⟨_, _, _, rfl, by decide, (by decide), rfl⟩) (c_done C ⟨(isPP hi), (hpl i hi).1⟩ x) ?_
      rintro _ Mq ⟨rfl, e_⟩
      subst Mq
      have bv_ := el_I (dn (pl i) x)
      refine ⟨by show (0 : Nat) ≠ 9; decide, (?_ : Wp 198 _ 163 18 [(1, 0), (0, (i : Int)), (0, (x.val : Int)), (1, (149 + 2 * (i : Int)))] [(0, ((dn (pl i) x).val : Int))] M _)⟩
      refine w_iret hK rfl rfl ?_
      exact ⟨rfl, ⟨_, u_, l_, z_, C, E, hpl, T, hR, hF⟩, (fun a h_ => rfl)⟩
    · exfalso; omega
set_option maxRecDepth 100000 in
theorem n_does {d : Nat} {M : Mem} {k : Nat} {pl : Nat → Pl k} {n : Int} {tx : Int → Int} {rc : Nat} {rw : Int → Int} {fc : Nat} {fa : Nat → Pl k} (H : CLS M k pl n tx rc rw fc fa) (i x : Int) (i1_ : -2147483648 ≤ i) (i2_ : i ≤ 2147483647) (x1_ : -2147483648 ≤ x) (x2_ : x ≤ 2147483647) (hn : ¬ ((0 ≤ i ∧ i < 6) ∧ 0 ≤ x ∧ x < (qq k : Int))) : Ct 198 (d + 8) 163 [(1, 0), (0, i), (0, x)] M (fun r_ M' => r_ = (0, -1) ∧ M' = M) := by
  have hK : cd 163 = k163 := rfl
  obtain ⟨P, u_, l_, z_, C, E, hpl, T, hR, hF⟩ := H
  have q1_ := qq_I k
  have p1_ := pp_I k
  have m1_ := mm_I k
  show Wp 198 _ 163 0 [(1, 0), (0, i), (0, x), (3, 0)] [] M _
  refine w_al hK rfl rfl ?_
  refine w_il hK rfl rfl ?_
  refine w_call [(1, 0), (0, i)] hK rfl rfl rfl rfl (Or.inr ⟨_, _, _, rfl, by decide, (by decide), rfl⟩) (c_plI i (by omega) (by omega)) ?_
  rintro _ Mq ⟨rfl, e_⟩
  subst Mq
  have pI_ := plr_I i
  refine ⟨(by show (1 : Nat) ≠ 9; decide), (?_ : Wp 198 _ 163 3 [(1, 0), (0, i), (0, x), (3, 0)] [(1, (plr i))] M _)⟩
  refine w_as [(1, 0), (0, i), (0, x), (1, (plr i))] hK rfl rfl rfl ?_
  refine w_al hK rfl rfl ?_
  refine w_null hK rfl (fun h5 => ?_) (fun h5 => ?_)
  · refine w_ic hK rfl ?_
    refine w_goto hK rfl ?_
    refine w_iret hK rfl rfl ?_
    exact ⟨rfl, rfl⟩
  · refine w_al hK rfl rfl ?_
    refine w_getr (n := 0) (v := 1) hK rfl rfl (by decide) (by decide) rfl rfl rfl rfl ?_
    refine w_il hK rfl rfl ?_
    refine w_call [(1, 1), (0, x)] hK rfl rfl rfl rfl (Or.inr ⟨_, _, _, rfl, by decide, (by decide), rfl⟩) (c_has (by decide) C.F x (by omega) (by omega)) ?_
    rintro _ Mq ⟨rfl, e_⟩
    subst Mq
    have hI_ := ite01 (0 ≤ x ∧ x < (qq k : Int))
    refine ⟨(by show (0 : Nat) ≠ 9; decide), (?_ : Wp 198 _ 163 10 [(1, 0), (0, i), (0, x), (1, (plr i))] [(0, (if 0 ≤ x ∧ x < (qq k : Int) then 1 else 0))] M _)⟩
    refine w_ne hK rfl (by omega) (by omega) (fun h10 => ?_) (fun h10 => ?_)
    · exfalso; omega
    · refine w_ic hK rfl ?_
      refine w_goto hK rfl ?_
      refine w_iret hK rfl rfl ?_
      exact ⟨rfl, rfl⟩
set_option maxRecDepth 100000 in
theorem o_roots {d : Nat} {M : Mem} {k : Nat} {pl : Nat → Pl k} {n : Int} {tx : Int → Int} {rc : Nat} {rw : Int → Int} {fc : Nat} {fa : Nat → Pl k} (H : CLS M k pl n tx rc rw fc fa) (i : Nat) (hi : i < 6)  : Ct 198 (d + 8) 162 [(1, 0), (0, (i : Int))] M (fun r_ M' => r_ = (0, (rts (pl i) (qq k))) ∧ CLS M' k pl n tx 1 (upr rw 0 (bcw (rts (pl i) (qq k)))) fc fa ∧ (∀ a : Int, (a < 0 ∨ 160 < a) → M' a = M a)) := by
  have hK : cd 162 = k162 := rfl
  obtain ⟨P, u_, l_, z_, C, E, hpl, T, hR, hF⟩ := H
  have q1_ := qq_I k
  have p1_ := pp_I k
  have m1_ := mm_I k
  have bi_ := (hpl i hi).2
  have di_ := dg_lt9 bi_
  show Wp 198 _ 162 0 [(1, 0), (0, (i : Int)), (3, 0), (3, 0)] [] M _
  refine w_al hK rfl rfl ?_
  refine w_il hK rfl rfl ?_
  refine w_call [(1, 0), (0, (i : Int))] hK rfl rfl rfl rfl (Or.inr ⟨_, _, _, rfl, by decide, (by decide), rfl⟩) (c_pl i hi) ?_
  rintro _ Mq ⟨rfl, e_⟩
  subst Mq
  refine ⟨(by show (1 : Nat) ≠ 9; decide), (?_ : Wp 198 _ 162 3 [(1, 0), (0, (i : Int)), (3, 0), (3, 0)] [(1, (149 + 2 * (i : Int)))] M _)⟩
  refine w_as [(1, 0), (0, (i : Int)), (1, (149 + 2 * (i : Int))), (3, 0)] hK rfl rfl rfl ?_
  refine w_al hK rfl rfl ?_
  refine w_nonnull hK rfl (fun h5 => ?_) (fun h5 => ?_)
  · refine w_al hK rfl rfl ?_
    refine w_getr (n := 3) (v := 45) hK rfl rfl (by decide) (by decide) rfl rfl rfl rfl ?_
    refine w_al hK rfl rfl ?_
    refine w_call [(1, 45), (1, (149 + 2 * (i : Int)))] hK rfl rfl rfl rfl (Or.inr ⟨_, _, _, rfl, by decide, (by decide), rfl⟩) (c_roots C ⟨(isPP hi), (hpl i hi).1⟩) ?_
    rintro _ Mq ⟨rfl, e_⟩
    subst Mq
    refine ⟨by show (0 : Nat) ≠ 9; decide, (?_ : Wp 198 _ 162 12 [(1, 0), (0, (i : Int)), (1, (149 + 2 * (i : Int))), (3, 0)] [(0, (rts (pl i) (qq k)))] M _)⟩
    refine w_is [(1, 0), (0, (i : Int)), (1, (149 + 2 * (i : Int))), (0, (rts (pl i) (qq k)))] hK rfl rfl rfl ?_
    refine w_al hK rfl rfl ?_
    refine w_call [(1, 0)] hK rfl rfl rfl rfl (Or.inr ⟨_, _, _, rfl, by decide, (by decide), rfl⟩) (c_start0 hR) ?_
    rintro _ V153 ⟨rfl, R153, F153⟩
    refine ⟨by decide, (?_ : Wp 198 _ 162 15 [(1, 0), (0, (i : Int)), (1, (149 + 2 * (i : Int))), (0, (rts (pl i) (qq k)))] [] V153 _)⟩
    refine w_al hK rfl rfl ?_
    refine w_il hK rfl rfl ?_
    refine w_call [(0, (rts (pl i) (qq k)))] hK rfl rfl rfl rfl (Or.inl rfl) (c_bitc (rts (pl i) (qq k))) ?_
    rintro _ Mq ⟨rfl, e_⟩
    subst Mq
    refine ⟨by show (0 : Nat) ≠ 9; decide, (?_ : Wp 198 _ 162 18 [(1, 0), (0, (i : Int)), (1, (149 + 2 * (i : Int))), (0, (rts (pl i) (qq k)))] [(0, (bcw (rts (pl i) (qq k)))), (1, 0)] V153 _)⟩
    have bI_ := bcw_I (rts (pl i) (qq k))
    refine w_i2l hK rfl (by omega) (by omega) ?_
    refine w_call [(1, 0), (2, (bcw (rts (pl i) (qq k))))] hK rfl rfl rfl rfl (Or.inr ⟨_, _, _, rfl, by decide, (by decide), rfl⟩) (c_tell R153 (by omega) (bcw (rts (pl i) (qq k)))) ?_
    rintro _ V154 ⟨rfl, R154, F154⟩
    refine ⟨by decide, (?_ : Wp 198 _ 162 20 [(1, 0), (0, (i : Int)), (1, (149 + 2 * (i : Int))), (0, (rts (pl i) (qq k)))] [] V154 _)⟩
    refine w_il hK rfl rfl ?_
    refine w_iret hK rfl rfl ?_
    exact ⟨rfl, ⟨_, u_, l_, z_, (CS.congr (CS.congr C (fun a ha_ => F153 a (CSc_ne ha_ (by decide) (notP rfl)))) (fun a ha_ => F154 a (CSc_ne ha_ (by decide) (notP rfl)) (CSc_ne ha_ (by decide) (notP rfl)))), (ES.keep E ((F154 18 (by decide) (by decide)).trans (F153 18 (by decide)))), hpl, (TXs.keep T ((F154 140 (by decide) (by decide)).trans (F153 140 (by decide))) ((F154 141 (by decide) (by decide)).trans (F153 141 (by decide)))), R154, (FCs.keep hF ((F154 52 (by decide) (by decide)).trans (F153 52 (by decide))) (fun q_ hq_ => rfl))⟩, (fun a h_ => ((F154 a (by omega) (by omega)).trans (F153 a (by omega))))⟩
  · exfalso; omega
set_option maxRecDepth 100000 in
theorem n_roots {d : Nat} {M : Mem} {k : Nat} {pl : Nat → Pl k} {n : Int} {tx : Int → Int} {rc : Nat} {rw : Int → Int} {fc : Nat} {fa : Nat → Pl k} (H : CLS M k pl n tx rc rw fc fa) (i : Int) (i1_ : -2147483648 ≤ i) (i2_ : i ≤ 2147483647) (hn : ¬ (0 ≤ i ∧ i < 6)) : Ct 198 (d + 8) 162 [(1, 0), (0, i)] M (fun r_ M' => r_ = (0, -1) ∧ M' = M) := by
  have hK : cd 162 = k162 := rfl
  obtain ⟨P, u_, l_, z_, C, E, hpl, T, hR, hF⟩ := H
  have q1_ := qq_I k
  have p1_ := pp_I k
  have m1_ := mm_I k
  show Wp 198 _ 162 0 [(1, 0), (0, i), (3, 0), (3, 0)] [] M _
  refine w_al hK rfl rfl ?_
  refine w_il hK rfl rfl ?_
  refine w_call [(1, 0), (0, i)] hK rfl rfl rfl rfl (Or.inr ⟨_, _, _, rfl, by decide, (by decide), rfl⟩) (c_plI i (by omega) (by omega)) ?_
  rintro _ Mq ⟨rfl, e_⟩
  subst Mq
  have pI_ := plr_I i
  refine ⟨(by show (1 : Nat) ≠ 9; decide), (?_ : Wp 198 _ 162 3 [(1, 0), (0, i), (3, 0), (3, 0)] [(1, (plr i))] M _)⟩
  refine w_as [(1, 0), (0, i), (1, (plr i)), (3, 0)] hK rfl rfl rfl ?_
  refine w_al hK rfl rfl ?_
  refine w_nonnull hK rfl (fun h5 => ?_) (fun h5 => ?_)
  · exfalso; omega
  · refine w_ic hK rfl ?_
    refine w_iret hK rfl rfl ?_
    exact ⟨rfl, rfl⟩
set_option maxRecDepth 100000 in
theorem o_kernel {d : Nat} {M : Mem} {k : Nat} {pl : Nat → Pl k} {n : Int} {tx : Int → Int} {rc : Nat} {rw : Int → Int} {fc : Nat} {fa : Nat → Pl k} (H : CLS M k pl n tx rc rw fc fa) (i : Nat) (hi : i < 6)  : Ct 198 (d + 8) 164 [(1, 0), (0, (i : Int))] M (fun r_ M' => r_ = (0, (dnT (pl i) z0 (qq k))) ∧ CLS M' k pl n tx 2 (upr (upr rw 0 (bcw (dnT (pl i) z0 (qq k)))) 1 (bcw (img (pl i) (qq k)))) fc fa ∧ (∀ a : Int, (a < 0 ∨ 160 < a) → M' a = M a)) := by
  have hK : cd 164 = k164 := rfl
  obtain ⟨P, u_, l_, z_, C, E, hpl, T, hR, hF⟩ := H
  have q1_ := qq_I k
  have p1_ := pp_I k
  have m1_ := mm_I k
  have bi_ := (hpl i hi).2
  have di_ := dg_lt9 bi_
  show Wp 198 _ 164 0 [(1, 0), (0, (i : Int)), (3, 0), (3, 0)] [] M _
  refine w_al hK rfl rfl ?_
  refine w_il hK rfl rfl ?_
  refine w_call [(1, 0), (0, (i : Int))] hK rfl rfl rfl rfl (Or.inr ⟨_, _, _, rfl, by decide, (by decide), rfl⟩) (c_pl i hi) ?_
  rintro _ Mq ⟨rfl, e_⟩
  subst Mq
  refine ⟨(by show (1 : Nat) ≠ 9; decide), (?_ : Wp 198 _ 164 3 [(1, 0), (0, (i : Int)), (3, 0), (3, 0)] [(1, (149 + 2 * (i : Int)))] M _)⟩
  refine w_as [(1, 0), (0, (i : Int)), (1, (149 + 2 * (i : Int))), (3, 0)] hK rfl rfl rfl ?_
  refine w_al hK rfl rfl ?_
  refine w_nonnull hK rfl (fun h5 => ?_) (fun h5 => ?_)
  · refine w_al hK rfl rfl ?_
    refine w_getr (n := 3) (v := 45) hK rfl rfl (by decide) (by decide) rfl rfl rfl rfl ?_
    refine w_al hK rfl rfl ?_
    refine w_ic hK rfl ?_
    refine w_call [(1, 45), (1, (149 + 2 * (i : Int))), (0, 0)] hK rfl rfl rfl rfl (Or.inr ⟨_, _, _, rfl, by decide, (by decide), rfl⟩) (Ct.cv (c_doneTo C ⟨(isPP hi), (hpl i hi).1⟩ z0) (by simp only [el0]; try rfl)) ?_
    rintro _ Mq ⟨rfl, e_⟩
    subst Mq
    refine ⟨by show (0 : Nat) ≠ 9; decide, (?_ : Wp 198 _ 164 13 [(1, 0), (0, (i : Int)), (1, (149 + 2 * (i : Int))), (3, 0)] [(0, (dnT (pl i) z0 (qq k)))] M _)⟩
    refine w_is [(1, 0), (0, (i : Int)), (1, (149 + 2 * (i : Int))), (0, (dnT (pl i) z0 (qq k)))] hK rfl rfl rfl ?_
    refine w_al hK rfl rfl ?_
    refine w_call [(1, 0)] hK rfl rfl rfl rfl (Or.inr ⟨_, _, _, rfl, by decide, (by decide), rfl⟩) (c_start0 hR) ?_
    rintro _ V155 ⟨rfl, R155, F155⟩
    refine ⟨by decide, (?_ : Wp 198 _ 164 16 [(1, 0), (0, (i : Int)), (1, (149 + 2 * (i : Int))), (0, (dnT (pl i) z0 (qq k)))] [] V155 _)⟩
    refine w_al hK rfl rfl ?_
    refine w_il hK rfl rfl ?_
    refine w_call [(0, (dnT (pl i) z0 (qq k)))] hK rfl rfl rfl rfl (Or.inl rfl) (c_bitc (dnT (pl i) z0 (qq k))) ?_
    rintro _ Mq ⟨rfl, e_⟩
    subst Mq
    refine ⟨by show (0 : Nat) ≠ 9; decide, (?_ : Wp 198 _ 164 19 [(1, 0), (0, (i : Int)), (1, (149 + 2 * (i : Int))), (0, (dnT (pl i) z0 (qq k)))] [(0, (bcw (dnT (pl i) z0 (qq k)))), (1, 0)] V155 _)⟩
    have bI_ := bcw_I (dnT (pl i) z0 (qq k))
    refine w_i2l hK rfl (by omega) (by omega) ?_
    refine w_call [(1, 0), (2, (bcw (dnT (pl i) z0 (qq k))))] hK rfl rfl rfl rfl (Or.inr ⟨_, _, _, rfl, by decide, (by decide), rfl⟩) (c_tell R155 (by omega) (bcw (dnT (pl i) z0 (qq k)))) ?_
    rintro _ V156 ⟨rfl, R156, F156⟩
    refine ⟨by decide, (?_ : Wp 198 _ 164 21 [(1, 0), (0, (i : Int)), (1, (149 + 2 * (i : Int))), (0, (dnT (pl i) z0 (qq k)))] [] V156 _)⟩
    refine w_al hK rfl rfl ?_
    refine w_al hK rfl rfl ?_
    refine w_getr (n := 3) (v := 45) hK rfl rfl (by decide) (by decide) rfl rfl rfl rfl ?_
    refine w_al hK rfl rfl ?_
    refine w_call [(1, 45), (1, (149 + 2 * (i : Int)))] hK rfl rfl rfl rfl (Or.inr ⟨_, _, _, rfl, by decide, (by decide), rfl⟩) (c_imgs (CS.congr (CS.congr C (fun a ha_ => F155 a (CSc_ne ha_ (by decide) (notP rfl)))) (fun a ha_ => F156 a (CSc_ne ha_ (by decide) (notP rfl)) (CSc_ne ha_ (by decide) (notP rfl)))) ⟨(isPP hi), (hpl i hi).1⟩) ?_
    rintro _ Mq ⟨rfl, e_⟩
    subst Mq
    refine ⟨by show (0 : Nat) ≠ 9; decide, (?_ : Wp 198 _ 164 26 [(1, 0), (0, (i : Int)), (1, (149 + 2 * (i : Int))), (0, (dnT (pl i) z0 (qq k)))] [(0, (img (pl i) (qq k))), (1, 0)] V156 _)⟩
    refine w_call [(0, (img (pl i) (qq k)))] hK rfl rfl rfl rfl (Or.inl rfl) (c_bitc (img (pl i) (qq k))) ?_
    rintro _ Mq ⟨rfl, e_⟩
    subst Mq
    refine ⟨by show (0 : Nat) ≠ 9; decide, (?_ : Wp 198 _ 164 27 [(1, 0), (0, (i : Int)), (1, (149 + 2 * (i : Int))), (0, (dnT (pl i) z0 (qq k)))] [(0, (bcw (img (pl i) (qq k)))), (1, 0)] V156 _)⟩
    have bI_ := bcw_I (img (pl i) (qq k))
    refine w_i2l hK rfl (by omega) (by omega) ?_
    refine w_call [(1, 0), (2, (bcw (img (pl i) (qq k))))] hK rfl rfl rfl rfl (Or.inr ⟨_, _, _, rfl, by decide, (by decide), rfl⟩) (c_tell R156 (by omega) (bcw (img (pl i) (qq k)))) ?_
    rintro _ V157 ⟨rfl, R157, F157⟩
    refine ⟨by decide, (?_ : Wp 198 _ 164 29 [(1, 0), (0, (i : Int)), (1, (149 + 2 * (i : Int))), (0, (dnT (pl i) z0 (qq k)))] [] V157 _)⟩
    refine w_il hK rfl rfl ?_
    refine w_iret hK rfl rfl ?_
    exact ⟨rfl, ⟨_, u_, l_, z_, (CS.congr (CS.congr (CS.congr C (fun a ha_ => F155 a (CSc_ne ha_ (by decide) (notP rfl)))) (fun a ha_ => F156 a (CSc_ne ha_ (by decide) (notP rfl)) (CSc_ne ha_ (by decide) (notP rfl)))) (fun a ha_ => F157 a (CSc_ne ha_ (by decide) (notP rfl)) (CSc_ne ha_ (by decide) (notP rfl)))), (ES.keep E ((F157 18 (by decide) (by decide)).trans ((F156 18 (by decide) (by decide)).trans (F155 18 (by decide))))), hpl, (TXs.keep T ((F157 140 (by decide) (by decide)).trans ((F156 140 (by decide) (by decide)).trans (F155 140 (by decide)))) ((F157 141 (by decide) (by decide)).trans ((F156 141 (by decide) (by decide)).trans (F155 141 (by decide))))), R157, (FCs.keep hF ((F157 52 (by decide) (by decide)).trans ((F156 52 (by decide) (by decide)).trans (F155 52 (by decide)))) (fun q_ hq_ => rfl))⟩, (fun a h_ => ((F157 a (by omega) (by omega)).trans ((F156 a (by omega) (by omega)).trans (F155 a (by omega)))))⟩
  · exfalso; omega
set_option maxRecDepth 100000 in
theorem n_kernel {d : Nat} {M : Mem} {k : Nat} {pl : Nat → Pl k} {n : Int} {tx : Int → Int} {rc : Nat} {rw : Int → Int} {fc : Nat} {fa : Nat → Pl k} (H : CLS M k pl n tx rc rw fc fa) (i : Int) (i1_ : -2147483648 ≤ i) (i2_ : i ≤ 2147483647) (hn : ¬ (0 ≤ i ∧ i < 6)) : Ct 198 (d + 8) 164 [(1, 0), (0, i)] M (fun r_ M' => r_ = (0, -1) ∧ M' = M) := by
  have hK : cd 164 = k164 := rfl
  obtain ⟨P, u_, l_, z_, C, E, hpl, T, hR, hF⟩ := H
  have q1_ := qq_I k
  have p1_ := pp_I k
  have m1_ := mm_I k
  show Wp 198 _ 164 0 [(1, 0), (0, i), (3, 0), (3, 0)] [] M _
  refine w_al hK rfl rfl ?_
  refine w_il hK rfl rfl ?_
  refine w_call [(1, 0), (0, i)] hK rfl rfl rfl rfl (Or.inr ⟨_, _, _, rfl, by decide, (by decide), rfl⟩) (c_plI i (by omega) (by omega)) ?_
  rintro _ Mq ⟨rfl, e_⟩
  subst Mq
  have pI_ := plr_I i
  refine ⟨(by show (1 : Nat) ≠ 9; decide), (?_ : Wp 198 _ 164 3 [(1, 0), (0, i), (3, 0), (3, 0)] [(1, (plr i))] M _)⟩
  refine w_as [(1, 0), (0, i), (1, (plr i)), (3, 0)] hK rfl rfl rfl ?_
  refine w_al hK rfl rfl ?_
  refine w_nonnull hK rfl (fun h5 => ?_) (fun h5 => ?_)
  · exfalso; omega
  · refine w_ic hK rfl ?_
    refine w_iret hK rfl rfl ?_
    exact ⟨rfl, rfl⟩
set_option maxRecDepth 100000 in
theorem o_solves {d : Nat} {M : Mem} {k : Nat} {pl : Nat → Pl k} {n : Int} {tx : Int → Int} {rc : Nat} {rw : Int → Int} {fc : Nat} {fa : Nat → Pl k} (H : CLS M k pl n tx rc rw fc fa) (i : Nat) (hi : i < 6) (x : El k) : Ct 198 (d + 8) 165 [(1, 0), (0, (i : Int)), (0, (x.val : Int))] M (fun r_ M' => r_ = (0, (dnT (pl i) x (qq k))) ∧ CLS M' k pl n tx 1 (upr rw 0 (bcw (dnT (pl i) x (qq k)))) fc fa ∧ (∀ a : Int, (a < 0 ∨ 160 < a) → M' a = M a)) := by
  have hK : cd 165 = k165 := rfl
  obtain ⟨P, u_, l_, z_, C, E, hpl, T, hR, hF⟩ := H
  have q1_ := qq_I k
  have p1_ := pp_I k
  have m1_ := mm_I k
  have bi_ := (hpl i hi).2
  have di_ := dg_lt9 bi_
  have lx_ := x.isLt
  show Wp 198 _ 165 0 [(1, 0), (0, (i : Int)), (0, (x.val : Int)), (3, 0), (3, 0)] [] M _
  refine w_al hK rfl rfl ?_
  refine w_il hK rfl rfl ?_
  refine w_call [(1, 0), (0, (i : Int))] hK rfl rfl rfl rfl (Or.inr ⟨_, _, _, rfl, by decide, (by decide), rfl⟩) (c_pl i hi) ?_
  rintro _ Mq ⟨rfl, e_⟩
  subst Mq
  refine ⟨(by show (1 : Nat) ≠ 9; decide), (?_ : Wp 198 _ 165 3 [(1, 0), (0, (i : Int)), (0, (x.val : Int)), (3, 0), (3, 0)] [(1, (149 + 2 * (i : Int)))] M _)⟩
  refine w_as [(1, 0), (0, (i : Int)), (0, (x.val : Int)), (1, (149 + 2 * (i : Int))), (3, 0)] hK rfl rfl rfl ?_
  refine w_al hK rfl rfl ?_
  refine w_null hK rfl (fun h5 => ?_) (fun h5 => ?_)
  · exfalso; omega
  · refine w_al hK rfl rfl ?_
    refine w_getr (n := 0) (v := 1) hK rfl rfl (by decide) (by decide) rfl rfl rfl rfl ?_
    refine w_il hK rfl rfl ?_
    refine w_call [(1, 1), (0, (x.val : Int))] hK rfl rfl rfl rfl (Or.inr ⟨_, _, _, rfl, by decide, (by decide), rfl⟩) (c_has (by decide) C.F (x.val : Int) (by omega) (by omega)) ?_
    rintro _ Mq ⟨rfl, e_⟩
    subst Mq
    have hI_ := ite01 (0 ≤ (x.val : Int) ∧ (x.val : Int) < (qq k : Int))
    refine ⟨(by show (0 : Nat) ≠ 9; decide), (?_ : Wp 198 _ 165 10 [(1, 0), (0, (i : Int)), (0, (x.val : Int)), (1, (149 + 2 * (i : Int))), (3, 0)] [(0, (if 0 ≤ (x.val : Int) ∧ (x.val : Int) < (qq k : Int) then 1 else 0))] M _)⟩
    refine w_ne hK rfl (by omega) (by omega) (fun h10 => ?_) (fun h10 => ?_)
    · refine w_al hK rfl rfl ?_
      refine w_getr (n := 3) (v := 45) hK rfl rfl (by decide) (by decide) rfl rfl rfl rfl ?_
      refine w_al hK rfl rfl ?_
      refine w_il hK rfl rfl ?_
      refine w_call [(1, 45), (1, (149 + 2 * (i : Int))), (0, (x.val : Int))] hK rfl rfl rfl rfl (Or.inr ⟨_, _, _, rfl, by decide, (by decide), rfl⟩) (c_doneTo C ⟨(isPP hi), (hpl i hi).1⟩ x) ?_
      rintro _ Mq ⟨rfl, e_⟩
      subst Mq
      refine ⟨by show (0 : Nat) ≠ 9; decide, (?_ : Wp 198 _ 165 18 [(1, 0), (0, (i : Int)), (0, (x.val : Int)), (1, (149 + 2 * (i : Int))), (3, 0)] [(0, (dnT (pl i) x (qq k)))] M _)⟩
      refine w_is [(1, 0), (0, (i : Int)), (0, (x.val : Int)), (1, (149 + 2 * (i : Int))), (0, (dnT (pl i) x (qq k)))] hK rfl rfl rfl ?_
      refine w_al hK rfl rfl ?_
      refine w_call [(1, 0)] hK rfl rfl rfl rfl (Or.inr ⟨_, _, _, rfl, by decide, (by decide), rfl⟩) (c_start0 hR) ?_
      rintro _ V158 ⟨rfl, R158, F158⟩
      refine ⟨by decide, (?_ : Wp 198 _ 165 21 [(1, 0), (0, (i : Int)), (0, (x.val : Int)), (1, (149 + 2 * (i : Int))), (0, (dnT (pl i) x (qq k)))] [] V158 _)⟩
      refine w_al hK rfl rfl ?_
      refine w_il hK rfl rfl ?_
      refine w_call [(0, (dnT (pl i) x (qq k)))] hK rfl rfl rfl rfl (Or.inl rfl) (c_bitc (dnT (pl i) x (qq k))) ?_
      rintro _ Mq ⟨rfl, e_⟩
      subst Mq
      refine ⟨by show (0 : Nat) ≠ 9; decide, (?_ : Wp 198 _ 165 24 [(1, 0), (0, (i : Int)), (0, (x.val : Int)), (1, (149 + 2 * (i : Int))), (0, (dnT (pl i) x (qq k)))] [(0, (bcw (dnT (pl i) x (qq k)))), (1, 0)] V158 _)⟩
      have bI_ := bcw_I (dnT (pl i) x (qq k))
      refine w_i2l hK rfl (by omega) (by omega) ?_
      refine w_call [(1, 0), (2, (bcw (dnT (pl i) x (qq k))))] hK rfl rfl rfl rfl (Or.inr ⟨_, _, _, rfl, by decide, (by decide), rfl⟩) (c_tell R158 (by omega) (bcw (dnT (pl i) x (qq k)))) ?_
      rintro _ V159 ⟨rfl, R159, F159⟩
      refine ⟨by decide, (?_ : Wp 198 _ 165 26 [(1, 0), (0, (i : Int)), (0, (x.val : Int)), (1, (149 + 2 * (i : Int))), (0, (dnT (pl i) x (qq k)))] [] V159 _)⟩
      refine w_il hK rfl rfl ?_
      refine w_iret hK rfl rfl ?_
      exact ⟨rfl, ⟨_, u_, l_, z_, (CS.congr (CS.congr C (fun a ha_ => F158 a (CSc_ne ha_ (by decide) (notP rfl)))) (fun a ha_ => F159 a (CSc_ne ha_ (by decide) (notP rfl)) (CSc_ne ha_ (by decide) (notP rfl)))), (ES.keep E ((F159 18 (by decide) (by decide)).trans (F158 18 (by decide)))), hpl, (TXs.keep T ((F159 140 (by decide) (by decide)).trans (F158 140 (by decide))) ((F159 141 (by decide) (by decide)).trans (F158 141 (by decide)))), R159, (FCs.keep hF ((F159 52 (by decide) (by decide)).trans (F158 52 (by decide))) (fun q_ hq_ => rfl))⟩, (fun a h_ => ((F159 a (by omega) (by omega)).trans (F158 a (by omega))))⟩
    · exfalso; omega
set_option maxRecDepth 100000 in
theorem n_solves {d : Nat} {M : Mem} {k : Nat} {pl : Nat → Pl k} {n : Int} {tx : Int → Int} {rc : Nat} {rw : Int → Int} {fc : Nat} {fa : Nat → Pl k} (H : CLS M k pl n tx rc rw fc fa) (i x : Int) (i1_ : -2147483648 ≤ i) (i2_ : i ≤ 2147483647) (x1_ : -2147483648 ≤ x) (x2_ : x ≤ 2147483647) (hn : ¬ ((0 ≤ i ∧ i < 6) ∧ 0 ≤ x ∧ x < (qq k : Int))) : Ct 198 (d + 8) 165 [(1, 0), (0, i), (0, x)] M (fun r_ M' => r_ = (0, -1) ∧ M' = M) := by
  have hK : cd 165 = k165 := rfl
  obtain ⟨P, u_, l_, z_, C, E, hpl, T, hR, hF⟩ := H
  have q1_ := qq_I k
  have p1_ := pp_I k
  have m1_ := mm_I k
  show Wp 198 _ 165 0 [(1, 0), (0, i), (0, x), (3, 0), (3, 0)] [] M _
  refine w_al hK rfl rfl ?_
  refine w_il hK rfl rfl ?_
  refine w_call [(1, 0), (0, i)] hK rfl rfl rfl rfl (Or.inr ⟨_, _, _, rfl, by decide, (by decide), rfl⟩) (c_plI i (by omega) (by omega)) ?_
  rintro _ Mq ⟨rfl, e_⟩
  subst Mq
  have pI_ := plr_I i
  refine ⟨(by show (1 : Nat) ≠ 9; decide), (?_ : Wp 198 _ 165 3 [(1, 0), (0, i), (0, x), (3, 0), (3, 0)] [(1, (plr i))] M _)⟩
  refine w_as [(1, 0), (0, i), (0, x), (1, (plr i)), (3, 0)] hK rfl rfl rfl ?_
  refine w_al hK rfl rfl ?_
  refine w_null hK rfl (fun h5 => ?_) (fun h5 => ?_)
  · refine w_ic hK rfl ?_
    refine w_iret hK rfl rfl ?_
    exact ⟨rfl, rfl⟩
  · refine w_al hK rfl rfl ?_
    refine w_getr (n := 0) (v := 1) hK rfl rfl (by decide) (by decide) rfl rfl rfl rfl ?_
    refine w_il hK rfl rfl ?_
    refine w_call [(1, 1), (0, x)] hK rfl rfl rfl rfl (Or.inr ⟨_, _, _, rfl, by decide, (by decide), rfl⟩) (c_has (by decide) C.F x (by omega) (by omega)) ?_
    rintro _ Mq ⟨rfl, e_⟩
    subst Mq
    have hI_ := ite01 (0 ≤ x ∧ x < (qq k : Int))
    refine ⟨(by show (0 : Nat) ≠ 9; decide), (?_ : Wp 198 _ 165 10 [(1, 0), (0, i), (0, x), (1, (plr i)), (3, 0)] [(0, (if 0 ≤ x ∧ x < (qq k : Int) then 1 else 0))] M _)⟩
    refine w_ne hK rfl (by omega) (by omega) (fun h10 => ?_) (fun h10 => ?_)
    · exfalso; omega
    · refine w_ic hK rfl ?_
      refine w_iret hK rfl rfl ?_
      exact ⟨rfl, rfl⟩
set_option maxRecDepth 100000 in
theorem o_reaches {d : Nat} {M : Mem} {k : Nat} {pl : Nat → Pl k} {n : Int} {tx : Int → Int} {rc : Nat} {rw : Int → Int} {fc : Nat} {fa : Nat → Pl k} (H : CLS M k pl n tx rc rw fc fa) (i : Nat) (hi : i < 6) (hi0 : 0 ≤ dg (pl i)) : Ct 198 (d + 8) 166 [(1, 0), (0, (i : Int))] M (fun r_ M' => r_ = (0, (if 0 < rchN (pl i) 300 then rchN (pl i) 300 else -3)) ∧ CLS M' k pl n tx rc rw fc fa ∧ (∀ a : Int, (a < 0 ∨ 160 < a) → M' a = M a)) := by
  have hK : cd 166 = k166 := rfl
  obtain ⟨P, u_, l_, z_, C, E, hpl, T, hR, hF⟩ := H
  have q1_ := qq_I k
  have p1_ := pp_I k
  have m1_ := mm_I k
  have bi_ := (hpl i hi).2
  have di_ := dg_lt9 bi_
  show Wp 198 _ 166 0 [(1, 0), (0, (i : Int)), (3, 0), (3, 0)] [] M _
  refine w_al hK rfl rfl ?_
  refine w_il hK rfl rfl ?_
  refine w_call [(1, 0), (0, (i : Int))] hK rfl rfl rfl rfl (Or.inr ⟨_, _, _, rfl, by decide, (by decide), rfl⟩) (c_pl i hi) ?_
  rintro _ Mq ⟨rfl, e_⟩
  subst Mq
  refine ⟨(by show (1 : Nat) ≠ 9; decide), (?_ : Wp 198 _ 166 3 [(1, 0), (0, (i : Int)), (3, 0), (3, 0)] [(1, (149 + 2 * (i : Int)))] M _)⟩
  refine w_as [(1, 0), (0, (i : Int)), (1, (149 + 2 * (i : Int))), (3, 0)] hK rfl rfl rfl ?_
  refine w_al hK rfl rfl ?_
  refine w_nonnull hK rfl (fun h5 => ?_) (fun h5 => ?_)
  · refine w_al hK rfl rfl ?_
    refine w_pt hK rfl (isPP hi) ?_
    rw [show M (149 + 2 * (i : Int)) 1 = dg (pl i) from C.t ⟨(isPP hi), (hpl i hi).1⟩]
    have tI_ := CS.dI C ⟨(isPP hi), (hpl i hi).1⟩
    refine w_ge hK rfl (by omega) (by omega) (fun h10 => ?_) (fun h10 => ?_)
    · refine w_al hK rfl rfl ?_
      refine w_getr (n := 1) (v := 7) hK rfl rfl (by decide) (by decide) rfl rfl rfl rfl ?_
      refine w_al hK rfl rfl ?_
      refine w_ic hK rfl ?_
      refine w_call [(1, 7), (1, (149 + 2 * (i : Int))), (0, 300)] hK rfl rfl rfl rfl (Or.inr ⟨_, _, _, rfl, by decide, (by decide), rfl⟩) (c_reach C ⟨(isPP hi), (hpl i hi).1⟩ 300 (by omega) (by omega) (by omega)) ?_
      rintro _ V160 ⟨P160, rfl, C160, S160, F160⟩
      have rI_ := rchN_I (y := (pl i)) 300
      refine ⟨by show (0 : Nat) ≠ 9; decide, (?_ : Wp 198 _ 166 18 [(1, 0), (0, (i : Int)), (1, (149 + 2 * (i : Int))), (3, 0)] [(0, (rchN (pl i) 300))] V160 _)⟩
      refine w_is [(1, 0), (0, (i : Int)), (1, (149 + 2 * (i : Int))), (0, (rchN (pl i) 300))] hK rfl rfl rfl ?_
      refine w_il hK rfl rfl ?_
      refine w_le hK rfl (by omega) (by omega) (fun h20 => ?_) (fun h20 => ?_)
      · refine w_ic hK rfl ?_
        refine w_iret hK rfl rfl ?_
        rw [if_neg (show ¬ 0 < rchN (pl i) 300 by omega)]
        exact ⟨rfl, ⟨_, u_, l_, z_, C160, (ES.keep E (S160 18 (notP rfl))), (PLs.keep hpl (fun q_ hq_ => (F160 (149 + 2 * (q_ : Int)) (by omega) (by omega)))), (TXs.keep T (S160 140 (notP rfl)) (S160 141 (notP rfl))), (RWs.keep hR (S160 0 (notP rfl)) (S160 144 (notP rfl))), (FCs.keep hF (S160 52 (notP rfl)) (fun q_ hq_ => (F160 (68 + 6 * (q_ : Int)) (by omega) (by omega))))⟩, (fun a h_ => (S160 a (npC h_)))⟩
      · refine w_il hK rfl rfl ?_
        refine w_goto hK rfl ?_
        refine w_iret hK rfl rfl ?_
        rw [if_pos (show 0 < rchN (pl i) 300 by omega)]
        exact ⟨rfl, ⟨_, u_, l_, z_, C160, (ES.keep E (S160 18 (notP rfl))), (PLs.keep hpl (fun q_ hq_ => (F160 (149 + 2 * (q_ : Int)) (by omega) (by omega)))), (TXs.keep T (S160 140 (notP rfl)) (S160 141 (notP rfl))), (RWs.keep hR (S160 0 (notP rfl)) (S160 144 (notP rfl))), (FCs.keep hF (S160 52 (notP rfl)) (fun q_ hq_ => (F160 (68 + 6 * (q_ : Int)) (by omega) (by omega))))⟩, (fun a h_ => (S160 a (npC h_)))⟩
    · exfalso; omega
  · exfalso; omega
set_option maxRecDepth 100000 in
theorem z_reaches {d : Nat} {M : Mem} {k : Nat} {pl : Nat → Pl k} {n : Int} {tx : Int → Int} {rc : Nat} {rw : Int → Int} {fc : Nat} {fa : Nat → Pl k} (H : CLS M k pl n tx rc rw fc fa) (i : Nat) (hi : i < 6) (hi0 : dg (pl i) < 0) : Ct 198 (d + 8) 166 [(1, 0), (0, (i : Int))] M (fun r_ M' => r_ = (0, -2) ∧ M' = M) := by
  have hK : cd 166 = k166 := rfl
  obtain ⟨P, u_, l_, z_, C, E, hpl, T, hR, hF⟩ := H
  have q1_ := qq_I k
  have p1_ := pp_I k
  have m1_ := mm_I k
  have bi_ := (hpl i hi).2
  have di_ := dg_lt9 bi_
  show Wp 198 _ 166 0 [(1, 0), (0, (i : Int)), (3, 0), (3, 0)] [] M _
  refine w_al hK rfl rfl ?_
  refine w_il hK rfl rfl ?_
  refine w_call [(1, 0), (0, (i : Int))] hK rfl rfl rfl rfl (Or.inr ⟨_, _, _, rfl, by decide, (by decide), rfl⟩) (c_pl i hi) ?_
  rintro _ Mq ⟨rfl, e_⟩
  subst Mq
  refine ⟨(by show (1 : Nat) ≠ 9; decide), (?_ : Wp 198 _ 166 3 [(1, 0), (0, (i : Int)), (3, 0), (3, 0)] [(1, (149 + 2 * (i : Int)))] M _)⟩
  refine w_as [(1, 0), (0, (i : Int)), (1, (149 + 2 * (i : Int))), (3, 0)] hK rfl rfl rfl ?_
  refine w_al hK rfl rfl ?_
  refine w_nonnull hK rfl (fun h5 => ?_) (fun h5 => ?_)
  · refine w_al hK rfl rfl ?_
    refine w_pt hK rfl (isPP hi) ?_
    rw [show M (149 + 2 * (i : Int)) 1 = dg (pl i) from C.t ⟨(isPP hi), (hpl i hi).1⟩]
    have tI_ := CS.dI C ⟨(isPP hi), (hpl i hi).1⟩
    refine w_ge hK rfl (by omega) (by omega) (fun h10 => ?_) (fun h10 => ?_)
    · exfalso; omega
    · refine w_ic hK rfl ?_
      refine w_iret hK rfl rfl ?_
      exact ⟨rfl, rfl⟩
  · exfalso; omega
set_option maxRecDepth 100000 in
theorem n_reaches {d : Nat} {M : Mem} {k : Nat} {pl : Nat → Pl k} {n : Int} {tx : Int → Int} {rc : Nat} {rw : Int → Int} {fc : Nat} {fa : Nat → Pl k} (H : CLS M k pl n tx rc rw fc fa) (i : Int) (i1_ : -2147483648 ≤ i) (i2_ : i ≤ 2147483647) (hn : ¬ (0 ≤ i ∧ i < 6)) : Ct 198 (d + 8) 166 [(1, 0), (0, i)] M (fun r_ M' => r_ = (0, -1) ∧ M' = M) := by
  have hK : cd 166 = k166 := rfl
  obtain ⟨P, u_, l_, z_, C, E, hpl, T, hR, hF⟩ := H
  have q1_ := qq_I k
  have p1_ := pp_I k
  have m1_ := mm_I k
  show Wp 198 _ 166 0 [(1, 0), (0, i), (3, 0), (3, 0)] [] M _
  refine w_al hK rfl rfl ?_
  refine w_il hK rfl rfl ?_
  refine w_call [(1, 0), (0, i)] hK rfl rfl rfl rfl (Or.inr ⟨_, _, _, rfl, by decide, (by decide), rfl⟩) (c_plI i (by omega) (by omega)) ?_
  rintro _ Mq ⟨rfl, e_⟩
  subst Mq
  have pI_ := plr_I i
  refine ⟨(by show (1 : Nat) ≠ 9; decide), (?_ : Wp 198 _ 166 3 [(1, 0), (0, i), (3, 0), (3, 0)] [(1, (plr i))] M _)⟩
  refine w_as [(1, 0), (0, i), (1, (plr i)), (3, 0)] hK rfl rfl rfl ?_
  refine w_al hK rfl rfl ?_
  refine w_nonnull hK rfl (fun h5 => ?_) (fun h5 => ?_)
  · exfalso; omega
  · refine w_ic hK rfl ?_
    refine w_iret hK rfl rfl ?_
    exact ⟨rfl, rfl⟩
