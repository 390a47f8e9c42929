/-! the class's calls: like, commuting, bound */ -/
theorem nat_first {q : Nat → Prop} (h : ∃ n : Nat, q n) : ∃ n : Nat, q n ∧ ∀ m : Nat, m < n → ¬ q m := by
  obtain ⟨n, hn⟩ := h
  induction n using Nat.strongRecOn with
  | _ n ih =>
    by_cases c : ∃ m : Nat, m < n ∧ q m
    · obtain ⟨m, h1, h2⟩ := c
      exact ih m h1 h2
    · exact ⟨n, hn, fun m h1 h2 => c ⟨m, h1, h2⟩⟩
theorem gp_pow {k : Nat} {X : Nat → Pl k} {n i : Nat} {dp : Nat → Nat} {us : Nat → Nat → Nat} {ow : Nat → Nat} {c R : Nat} (h : GP X n i dp us ow c R) (hi : i ≤ 4 * mm k) : 1 ≤ (pp k ^ R : Nat) ∧ (pp k ^ R : Nat) ≤ 65536 := by
  have h1 := h.2.1
  have h2 := mm_le k
  have h3 := pm_two k
  exact ⟨Nat.pow_pos (by have := pp_ge k; omega), ppow_le k (by omega) (by omega)⟩
set_option maxRecDepth 100000 in
theorem o_like {d : Nat} {M : Mem} {k : Nat} {pl : Nat → Pl k} {n : Int} {tx : Int → Int} {rc : Nat} {rw : Int → Int} {fc : Nat} {fa : Nat → Pl k} (H : CLS M k pl n tx rc rw fc fa) (i : Nat) (hi : i < 6) (j : Nat) (hj : j < 6) (n0 : Nat) (hi0 : dg (pl i) = (n0 : Int)) (hn0 : dg (pl j) = (n0 : Int)) (n1_ : 1 ≤ n0) (n4_ : n0 ≤ 4) : Ct 198 (d + 8) 178 [(1, 0), (0, (i : Int)), (0, (j : Int))] M (fun r_ M' => ∃ (c R : Nat) (dp ow : Nat → Nat) (us : Nat → Nat → Nat), GP (XL (pl i) (pl j)) n0 (n0 * mm k) dp us ow c R ∧ ((∃ t : Nat, ((1 ≤ t ∧ t < pp k ^ R ∧ Cop (wyU (k := k) n0 us R t) (pl j)) ∧ ∀ s_ : Nat, 1 ≤ s_ → s_ < t → ¬ Cop (wyU n0 us R s_) (pl j)) ∧ (r_ = (0, 1) ∧ CLS M' k pl n tx n0 (stw (fun m_ : Nat => ((wyU (k := k) n0 us R t m_).val : Int)) rw n0) fc fa ∧ (∀ a : Int, (a < 0 ∨ 160 < a) → M' a = M a))) ∨ ((∀ t : Nat, 1 ≤ t → t < pp k ^ R → ¬ Cop (wyU (k := k) n0 us R t) (pl j)) ∧ (r_ = (0, 0) ∧ CLS M' k pl n tx 0 rw fc fa ∧ (∀ a : Int, (a < 0 ∨ 160 < a) → M' a = M a))))) := by
  have hK : cd 178 = k178 := rfl
  obtain ⟨P, u_, l_, z_, C, E, hpl, T, hR, hF⟩ := H
  have q1_ := qq_I k
  have p1_ := pp_I k
  have m1_ := mm_I k
  have bi_ := (hpl i hi).2
  have di_ := dg_lt9 bi_
  have bj_ := (hpl j hj).2
  have dj_ := dg_lt9 bj_
  show Wp 198 _ 178 0 [(1, 0), (0, (i : Int)), (0, (j : Int)), (3, 0), (3, 0), (3, 0), (3, 0)] [] M _
  refine w_al hK rfl rfl ?_
  refine w_il hK rfl rfl ?_
  refine w_call [(1, 0), (0, (i : Int))] hK rfl rfl rfl rfl (Or.inr ⟨_, _, _, rfl, by decide, (by decide), rfl⟩) (c_pl i hi) ?_
  rintro _ Mq ⟨rfl, e_⟩
  subst Mq
  refine ⟨(by show (1 : Nat) ≠ 9; decide), (?_ : Wp 198 _ 178 3 [(1, 0), (0, (i : Int)), (0, (j : Int)), (3, 0), (3, 0), (3, 0), (3, 0)] [(1, (149 + 2 * (i : Int)))] M _)⟩
  refine w_as [(1, 0), (0, (i : Int)), (0, (j : Int)), (1, (149 + 2 * (i : Int))), (3, 0), (3, 0), (3, 0)] hK rfl rfl rfl ?_
  refine w_al hK rfl rfl ?_
  refine w_il hK rfl rfl ?_
  refine w_call [(1, 0), (0, (j : Int))] hK rfl rfl rfl rfl (Or.inr ⟨_, _, _, rfl, by decide, (by decide), rfl⟩) (c_pl j hj) ?_
  rintro _ Mq ⟨rfl, e_⟩
  subst Mq
  refine ⟨(by show (1 : Nat) ≠ 9; decide), (?_ : Wp 198 _ 178 7 [(1, 0), (0, (i : Int)), (0, (j : Int)), (1, (149 + 2 * (i : Int))), (3, 0), (3, 0), (3, 0)] [(1, (149 + 2 * (j : Int)))] M _)⟩
  refine w_as [(1, 0), (0, (i : Int)), (0, (j : Int)), (1, (149 + 2 * (i : Int))), (1, (149 + 2 * (j : Int))), (3, 0), (3, 0)] hK rfl rfl rfl ?_
  refine w_al hK rfl rfl ?_
  refine w_null hK rfl (fun h9 => ?_) (fun h9 => ?_)
  · exfalso; omega
  · refine w_al hK rfl rfl ?_
    refine w_nonnull hK rfl (fun h11 => ?_) (fun h11 => ?_)
    · refine w_al hK rfl rfl ?_
      refine w_pt hK rfl (isPP hi) ?_
      rw [show M (149 + 2 * (i : Int)) 1 = dg (pl i) from C.t ⟨(isPP hi), (hpl i hi).1⟩]
      have tI_ := CS.dI C ⟨(isPP hi), (hpl i hi).1⟩
      refine w_lt hK rfl (by omega) (by omega) (fun h16 => ?_) (fun h16 => ?_)
      · exfalso; omega
      · refine w_al hK rfl rfl ?_
        refine w_pt hK rfl (isPP hj) ?_
        rw [show M (149 + 2 * (j : Int)) 1 = dg (pl j) from C.t ⟨(isPP hj), (hpl j hj).1⟩]
        have tI_ := CS.dI C ⟨(isPP hj), (hpl j hj).1⟩
        refine w_ge hK rfl (by omega) (by omega) (fun h19 => ?_) (fun h19 => ?_)
        · refine w_al hK rfl rfl ?_
          refine w_pt hK rfl (isPP hi) ?_
          rw [show M (149 + 2 * (i : Int)) 1 = dg (pl i) from C.t ⟨(isPP hi), (hpl i hi).1⟩]
          have tI_ := CS.dI C ⟨(isPP hi), (hpl i hi).1⟩
          refine w_ic hK rfl ?_
          refine w_gt2 hK rfl (by omega) (by omega) (by omega) (by omega) (fun h25 => ?_) (fun h25 => ?_)
          · exfalso; omega
          · refine w_al hK rfl rfl ?_
            refine w_pt hK rfl (isPP hj) ?_
            rw [show M (149 + 2 * (j : Int)) 1 = dg (pl j) from C.t ⟨(isPP hj), (hpl j hj).1⟩]
            have tI_ := CS.dI C ⟨(isPP hj), (hpl j hj).1⟩
            refine w_ic hK rfl ?_
            refine w_le2 hK rfl (by omega) (by omega) (by omega) (by omega) (fun h29 => ?_) (fun h29 => ?_)
            · refine w_al hK rfl rfl ?_
              refine w_pt hK rfl (isPP hi) ?_
              rw [show M (149 + 2 * (i : Int)) 1 = dg (pl i) from C.t ⟨(isPP hi), (hpl i hi).1⟩]
              have tI_ := CS.dI C ⟨(isPP hi), (hpl i hi).1⟩
              refine w_al hK rfl rfl ?_
              refine w_pt hK rfl (isPP hj) ?_
              rw [show M (149 + 2 * (j : Int)) 1 = dg (pl j) from C.t ⟨(isPP hj), (hpl j hj).1⟩]
              have tI_ := CS.dI C ⟨(isPP hj), (hpl j hj).1⟩
              refine w_ne2 hK rfl (by omega) (by omega) (by omega) (by omega) (fun h36 => ?_) (fun h36 => ?_)
              · exfalso; omega
              · refine w_al hK rfl rfl ?_
                refine w_pt hK rfl (isPP hi) ?_
                rw [show M (149 + 2 * (i : Int)) 1 = dg (pl i) from C.t ⟨(isPP hi), (hpl i hi).1⟩]
                have tI_ := CS.dI C ⟨(isPP hi), (hpl i hi).1⟩
                refine w_ne hK rfl (by omega) (by omega) (fun h39 => ?_) (fun h39 => ?_)
                · refine w_al hK rfl rfl ?_
                  refine w_getr (n := 6) (v := 92) hK rfl rfl (by decide) (by decide) rfl rfl rfl rfl ?_
                  refine w_al hK rfl rfl ?_
                  refine w_al hK rfl rfl ?_
                  refine w_call [(1, 92), (1, (149 + 2 * (i : Int))), (1, (149 + 2 * (j : Int)))] hK rfl rfl rfl rfl (Or.inr ⟨_, _, _, rfl, by decide, (by decide), rfl⟩) (c_find C ⟨(isPP hi), (hpl i hi).1⟩ ⟨(isPP hj), (hpl j hj).1⟩ (by omega) (by omega) (by omega) (n := n0) hn0 (by omega) (by omega)) ?_
                  rintro _ V219 ⟨P219, c_, R_, dp_, ow_, us_, rfl, C219, hGP_, F219, S219, hw_⟩
                  rcases Classical.em (∃ t_ : Nat, 1 ≤ t_ ∧ t_ < pp k ^ R_ ∧ Cop (wyU n0 us_ R_ t_) (pl j)) with hY_ | hN_
                  · rw [bz_pos hY_]
                    obtain ⟨t_, ⟨ht1_, ht2_, ht3_⟩, ht4_⟩ := nat_first hY_
                    have ht5_ : ∀ s_ : Nat, 1 ≤ s_ → s_ < t_ → ¬ Cop (wyU n0 us_ R_ s_) (pl j) := fun s_ h1_ h2_ h3_ => ht4_ s_ h2_ ⟨h1_, by omega, h3_⟩
                    have fw_ := hw_ t_ ht1_ ht2_ ht3_ ht5_
                    refine ⟨(by show (0 : Nat) ≠ 9; decide), (?_ : Wp 198 _ 178 47 [(1, 0), (0, (i : Int)), (0, (j : Int)), (1, (149 + 2 * (i : Int))), (1, (149 + 2 * (j : Int))), (3, 0), (3, 0)] [(0, 1)] V219 _)⟩
                    refine w_is [(1, 0), (0, (i : Int)), (0, (j : Int)), (1, (149 + 2 * (i : Int))), (1, (149 + 2 * (j : Int))), (0, 1), (3, 0)] hK rfl rfl rfl ?_
                    refine w_al hK rfl rfl ?_
                    refine w_call [(1, 0)] hK rfl rfl rfl rfl (Or.inr ⟨_, _, _, rfl, by decide, (by decide), rfl⟩) (c_start0 (RWs.keep hR (S219 0 (notP rfl) (by decide) (by decide) (by decide) (by decide) (by decide) (by decide)) (S219 144 (notP rfl) (by decide) (by decide) (by decide) (by decide) (by decide) (by decide)))) ?_
                    rintro _ V220 ⟨rfl, R220, F220⟩
                    refine ⟨by decide, (?_ : Wp 198 _ 178 50 [(1, 0), (0, (i : Int)), (0, (j : Int)), (1, (149 + 2 * (i : Int))), (1, (149 + 2 * (j : Int))), (0, 1), (3, 0)] [] V220 _)⟩
                    refine w_ic hK rfl ?_
                    refine w_is [(1, 0), (0, (i : Int)), (0, (j : Int)), (1, (149 + 2 * (i : Int))), (1, (149 + 2 * (j : Int))), (0, 1), (0, 0)] hK rfl rfl rfl ?_
                    have lp52 : ∀ (n_ : Nat) (a : Nat) (N52 : Mem), 17 - a = n_ → (a ≤ n0) → (RWs N52 a (stw (fun m_ : Nat => ((wyU (k := k) n0 us_ R_ t_ m_).val : Int)) rw a)) → ((∀ a : Int, a ≠ 0 → a ≠ 144 → N52 a = V219 a)) → Wp 198 (d + 8) 178 52 [(1, 0), (0, (i : Int)), (0, (j : Int)), (1, (149 + 2 * (i : Int))), (1, (149 + 2 * (j : Int))), (0, 1), (0, (a : Int))] [] N52 (fun r_ M' => ∃ (c R : Nat) (dp ow : Nat → Nat) (us : Nat → Nat → Nat), GP (XL (pl i) (pl j)) n0 (n0 * mm k) dp us ow c R ∧ ((∃ t : Nat, ((1 ≤ t ∧ t < pp k ^ R ∧ Cop (wyU (k := k) n0 us R t) (pl j)) ∧ ∀ s_ : Nat, 1 ≤ s_ → s_ < t → ¬ Cop (wyU n0 us R s_) (pl j)) ∧ (r_ = (0, 1) ∧ CLS M' k pl n tx n0 (stw (fun m_ : Nat => ((wyU (k := k) n0 us R t m_).val : Int)) rw n0) fc fa ∧ (∀ a : Int, (a < 0 ∨ 160 < a) → M' a = M a))) ∨ ((∀ t : Nat, 1 ≤ t → t < pp k ^ R → ¬ Cop (wyU (k := k) n0 us R t) (pl j)) ∧ (r_ = (0, 0) ∧ CLS M' k pl n tx 0 rw fc fa ∧ (∀ a : Int, (a < 0 ∨ 160 < a) → M' a = M a))))) := by
                      intro n_
                      induction n_ using Nat.strongRecOn with
                      | _ n_ ih52 =>
                      intro a N52 hm52 hj_ hR_ hS
                      refine w_il hK rfl rfl ?_
                      refine w_al hK rfl rfl ?_
                      refine w_pt hK rfl (isPP hi) ?_
                      rw [show N52 (149 + 2 * (i : Int)) 1 = dg (pl i) from (CS.congr C219 (fun a ha_ => hS a (CSc_ne ha_ (by decide) (notP rfl)) (CSc_ne ha_ (by decide) (notP rfl)))).t ⟨(isPP hi), ((F219 (149 + 2 * (i : Int)) (by omega) (by omega) (by omega)).trans (hpl i hi).1)⟩]
                      have tI_ := CS.dI (CS.congr C219 (fun a ha_ => hS a (CSc_ne ha_ (by decide) (notP rfl)) (CSc_ne ha_ (by decide) (notP rfl)))) ⟨(isPP hi), ((F219 (149 + 2 * (i : Int)) (by omega) (by omega) (by omega)).trans (hpl i hi).1)⟩
                      refine w_ge2 hK rfl (by omega) (by omega) (by omega) (by omega) (fun h55 => ?_) (fun h55 => ?_)
                      · refine w_il hK rfl rfl ?_
                        refine w_eq hK rfl (by omega) (by omega) (fun h69 => ?_) (fun h69 => ?_)
                        · exfalso; omega
                        · refine w_ic hK rfl ?_
                          refine w_goto hK rfl ?_
                          refine w_iret hK rfl rfl ?_
                          have e_ : a = n0 := by omega
                          subst a
                          refine ⟨c_, R_, dp_, ow_, us_, hGP_, Or.inl ⟨t_, ⟨⟨ht1_, ht2_, ht3_⟩, ht5_⟩, ?_⟩⟩
                          exact ⟨rfl, ⟨_, u_, l_, z_, (CS.congr C219 (fun a ha_ => hS a (CSc_ne ha_ (by decide) (notP rfl)) (CSc_ne ha_ (by decide) (notP rfl)))), (ES.keep E ((hS 18 (by decide) (by decide)).trans (S219 18 (notP rfl) (by decide) (by decide) (by decide) (by decide) (by decide) (by decide)))), (PLs.keep hpl (fun q_ hq_ => (F219 (149 + 2 * (q_ : Int)) (by omega) (by omega) (by omega)))), (TXs.keep T ((hS 140 (by decide) (by decide)).trans (S219 140 (notP rfl) (by decide) (by decide) (by decide) (by decide) (by decide) (by decide))) ((hS 141 (by decide) (by decide)).trans (S219 141 (notP rfl) (by decide) (by decide) (by decide) (by decide) (by decide) (by decide)))), hR_, (FCs.keep hF ((hS 52 (by decide) (by decide)).trans (S219 52 (notP rfl) (by decide) (by decide) (by decide) (by decide) (by decide) (by decide))) (fun q_ hq_ => (F219 (68 + 6 * (q_ : Int)) (by omega) (by omega) (by omega))))⟩, (fun a h_ => ((hS a (by omega) (by omega)).trans (S219 a (npC h_) (by omega) (by omega) (by omega) (by omega) (by omega) (by omega))))⟩
                      · refine w_il hK rfl rfl ?_
                        refine w_eq hK rfl (by omega) (by omega) (fun h57 => ?_) (fun h57 => ?_)
                        · exfalso; omega
                        · refine w_al hK rfl rfl ?_
                          refine w_al hK rfl rfl ?_
                          refine w_getr (n := 6) (v := 92) hK rfl rfl (by decide) (by decide) rfl rfl rfl rfl ?_
                          refine w_getr (n := 9) (v := 102) hK rfl rfl (by decide) (by decide) rfl rfl rfl rfl ?_
                          refine w_il hK rfl rfl ?_
                          refine w_call [(1, 102), (0, (a : Int))] hK rfl rfl rfl rfl (Or.inr ⟨_, _, _, rfl, (isP_of (p := 102) rfl).nn, (isP_of (p := 102) rfl).lb, (isP_of (p := 102) rfl).o⟩) (c_atN (CS.congr C219 (fun a ha_ => hS a (CSc_ne ha_ (by decide) (notP rfl)) (CSc_ne ha_ (by decide) (notP rfl)))) ⟨(isP_of (p := 102) rfl), fw_⟩ a (by omega)) ?_
                          rintro _ Mq ⟨rfl, e_⟩
                          subst Mq
                          have bv_ := el_I ((wyU (k := k) n0 us_ R_ t_) a)
                          refine ⟨by show (0 : Nat) ≠ 9; decide, (?_ : Wp 198 _ 178 64 [(1, 0), (0, (i : Int)), (0, (j : Int)), (1, (149 + 2 * (i : Int))), (1, (149 + 2 * (j : Int))), (0, 1), (0, (a : Int))] [(0, (((wyU (k := k) n0 us_ R_ t_) a).val : Int)), (1, 0)] N52 _)⟩
                          refine w_i2l hK rfl (by omega) (by omega) ?_
                          refine w_call [(1, 0), (2, (((wyU (k := k) n0 us_ R_ t_) a).val : Int))] hK rfl rfl rfl rfl (Or.inr ⟨_, _, _, rfl, by decide, (by decide), rfl⟩) (c_tell hR_ (by omega) (((wyU (k := k) n0 us_ R_ t_) a).val : Int)) ?_
                          rintro _ V221 ⟨rfl, R221, F221⟩
                          refine ⟨by decide, (?_ : Wp 198 _ 178 66 [(1, 0), (0, (i : Int)), (0, (j : Int)), (1, (149 + 2 * (i : Int))), (1, (149 + 2 * (j : Int))), (0, 1), (0, (a : Int))] [] V221 _)⟩
                          refine w_inc [(1, 0), (0, (i : Int)), (0, (j : Int)), (1, (149 + 2 * (i : Int))), (1, (149 + 2 * (j : Int))), (0, 1), (0, ((a : Int) + 1))] hK rfl rfl rfl (by omega) (by omega) rfl ?_
                          refine w_goto hK rfl ?_
                          exact ih52 _ (by omega) (a + 1) V221 rfl (by omega) R221 (fun a n0_ n144_ => ((F221 a n0_ n144_).trans (hS a n0_ n144_)))
                    exact lp52 _ 0 V220 rfl (by omega) R220 (fun a n0_ n144_ => (F220 a n0_))
                  · rw [bz_neg hN_]
                    refine ⟨(by show (0 : Nat) ≠ 9; decide), (?_ : Wp 198 _ 178 47 [(1, 0), (0, (i : Int)), (0, (j : Int)), (1, (149 + 2 * (i : Int))), (1, (149 + 2 * (j : Int))), (3, 0), (3, 0)] [(0, 0)] V219 _)⟩
                    refine w_is [(1, 0), (0, (i : Int)), (0, (j : Int)), (1, (149 + 2 * (i : Int))), (1, (149 + 2 * (j : Int))), (0, 0), (3, 0)] hK rfl rfl rfl ?_
                    refine w_al hK rfl rfl ?_
                    refine w_call [(1, 0)] hK rfl rfl rfl rfl (Or.inr ⟨_, _, _, rfl, by decide, (by decide), rfl⟩) (c_start0 (RWs.keep hR (S219 0 (notP rfl) (by decide) (by decide) (by decide) (by decide) (by decide) (by decide)) (S219 144 (notP rfl) (by decide) (by decide) (by decide) (by decide) (by decide) (by decide)))) ?_
                    rintro _ V222 ⟨rfl, R222, F222⟩
                    refine ⟨by decide, (?_ : Wp 198 _ 178 50 [(1, 0), (0, (i : Int)), (0, (j : Int)), (1, (149 + 2 * (i : Int))), (1, (149 + 2 * (j : Int))), (0, 0), (3, 0)] [] V222 _)⟩
                    refine w_ic hK rfl ?_
                    refine w_is [(1, 0), (0, (i : Int)), (0, (j : Int)), (1, (149 + 2 * (i : Int))), (1, (149 + 2 * (j : Int))), (0, 0), (0, 0)] hK rfl rfl rfl ?_
                    refine w_il hK rfl rfl ?_
                    refine w_al hK rfl rfl ?_
                    refine w_pt hK rfl (isPP hi) ?_
                    rw [show V222 (149 + 2 * (i : Int)) 1 = dg (pl i) from (CS.congr C219 (fun a ha_ => F222 a (CSc_ne ha_ (by decide) (notP rfl)))).t ⟨(isPP hi), ((F219 (149 + 2 * (i : Int)) (by omega) (by omega) (by omega)).trans (hpl i hi).1)⟩]
                    have tI_ := CS.dI (CS.congr C219 (fun a ha_ => F222 a (CSc_ne ha_ (by decide) (notP rfl)))) ⟨(isPP hi), ((F219 (149 + 2 * (i : Int)) (by omega) (by omega) (by omega)).trans (hpl i hi).1)⟩
                    refine w_ge2 hK rfl (by omega) (by omega) (by omega) (by omega) (fun h55 => ?_) (fun h55 => ?_)
                    · exfalso; omega
                    · refine w_il hK rfl rfl ?_
                      refine w_eq hK rfl (by omega) (by omega) (fun h57 => ?_) (fun h57 => ?_)
                      · refine w_il hK rfl rfl ?_
                        refine w_eq hK rfl (by omega) (by omega) (fun h69 => ?_) (fun h69 => ?_)
                        · refine w_ic hK rfl ?_
                          refine w_iret hK rfl rfl ?_
                          refine ⟨c_, R_, dp_, ow_, us_, hGP_, Or.inr ⟨fun t_ h1_ h2_ h3_ => hN_ ⟨t_, h1_, h2_, h3_⟩, ?_⟩⟩
                          exact ⟨rfl, ⟨_, u_, l_, z_, (CS.congr C219 (fun a ha_ => F222 a (CSc_ne ha_ (by decide) (notP rfl)))), (ES.keep E ((F222 18 (by decide)).trans (S219 18 (notP rfl) (by decide) (by decide) (by decide) (by decide) (by decide) (by decide)))), (PLs.keep hpl (fun q_ hq_ => (F219 (149 + 2 * (q_ : Int)) (by omega) (by omega) (by omega)))), (TXs.keep T ((F222 140 (by decide)).trans (S219 140 (notP rfl) (by decide) (by decide) (by decide) (by decide) (by decide) (by decide))) ((F222 141 (by decide)).trans (S219 141 (notP rfl) (by decide) (by decide) (by decide) (by decide) (by decide) (by decide)))), R222, (FCs.keep hF ((F222 52 (by decide)).trans (S219 52 (notP rfl) (by decide) (by decide) (by decide) (by decide) (by decide) (by decide))) (fun q_ hq_ => (F219 (68 + 6 * (q_ : Int)) (by omega) (by omega) (by omega))))⟩, (fun a h_ => ((F222 a (by omega)).trans (S219 a (npC h_) (by omega) (by omega) (by omega) (by omega) (by omega) (by omega))))⟩
                        · exfalso; omega
                      · exfalso; omega
                · exfalso; omega
            · exfalso; omega
        · exfalso; omega
    · exfalso; omega
set_option maxRecDepth 100000 in
theorem o_commuting {d : Nat} {M : Mem} {k : Nat} {pl : Nat → Pl k} {n : Int} {tx : Int → Int} {rc : Nat} {rw : Int → Int} {fc : Nat} {fa : Nat → Pl k} (H : CLS M k pl n tx rc rw fc fa) (i : Nat) (hi : i < 6) (n0 : Nat) (hn0 : dg (pl i) = (n0 : Int)) (n1_ : 1 ≤ n0) (n3_ : n0 ≤ 3) : Ct 198 (d + 8) 179 [(1, 0), (0, (i : Int))] M (fun r_ M' => ∃ (c R : Nat) (dp ow : Nat → Nat) (us : Nat → Nat → Nat), GP (XL (pl i) (pl i)) n0 (n0 * mm k) dp us ow c R ∧ (r_ = (0, ((pp k ^ R : Nat) : Int)) ∧ CLS M' k pl n tx 1 (upr rw 0 (sI (fun j => bz (Cop (wyU n0 us R (j + 1)) (pl i))) (pp k ^ R - 1))) fc fa ∧ (∀ a : Int, (a < 0 ∨ 160 < a) → M' a = M a))) := by
  have hK : cd 179 = k179 := rfl
  obtain ⟨P, u_, l_, z_, C, E, hpl, T, hR, hF⟩ := H
  have q1_ := qq_I k
  have p1_ := pp_I k
  have m1_ := mm_I k
  have bi_ := (hpl i hi).2
  have di_ := dg_lt9 bi_
  show Wp 198 _ 179 0 [(1, 0), (0, (i : Int)), (3, 0), (3, 0)] [] M _
  refine w_al hK rfl rfl ?_
  refine w_il hK rfl rfl ?_
  refine w_call [(1, 0), (0, (i : Int))] hK rfl rfl rfl rfl (Or.inr ⟨_, _, _, rfl, by decide, (by decide), rfl⟩) (c_pl i hi) ?_
  rintro _ Mq ⟨rfl, e_⟩
  subst Mq
  refine ⟨(by show (1 : Nat) ≠ 9; decide), (?_ : Wp 198 _ 179 3 [(1, 0), (0, (i : Int)), (3, 0), (3, 0)] [(1, (149 + 2 * (i : Int)))] M _)⟩
  refine w_as [(1, 0), (0, (i : Int)), (1, (149 + 2 * (i : Int))), (3, 0)] hK rfl rfl rfl ?_
  refine w_al hK rfl rfl ?_
  refine w_nonnull hK rfl (fun h5 => ?_) (fun h5 => ?_)
  · refine w_al hK rfl rfl ?_
    refine w_pt hK rfl (isPP hi) ?_
    rw [show M (149 + 2 * (i : Int)) 1 = dg (pl i) from C.t ⟨(isPP hi), (hpl i hi).1⟩]
    have tI_ := CS.dI C ⟨(isPP hi), (hpl i hi).1⟩
    refine w_ge hK rfl (by omega) (by omega) (fun h10 => ?_) (fun h10 => ?_)
    · refine w_al hK rfl rfl ?_
      refine w_pt hK rfl (isPP hi) ?_
      rw [show M (149 + 2 * (i : Int)) 1 = dg (pl i) from C.t ⟨(isPP hi), (hpl i hi).1⟩]
      have tI_ := CS.dI C ⟨(isPP hi), (hpl i hi).1⟩
      refine w_ic hK rfl ?_
      refine w_lt2 hK rfl (by omega) (by omega) (by omega) (by omega) (fun h16 => ?_) (fun h16 => ?_)
      · exfalso; omega
      · refine w_al hK rfl rfl ?_
        refine w_pt hK rfl (isPP hi) ?_
        rw [show M (149 + 2 * (i : Int)) 1 = dg (pl i) from C.t ⟨(isPP hi), (hpl i hi).1⟩]
        have tI_ := CS.dI C ⟨(isPP hi), (hpl i hi).1⟩
        refine w_ic hK rfl ?_
        refine w_le2 hK rfl (by omega) (by omega) (by omega) (by omega) (fun h20 => ?_) (fun h20 => ?_)
        · refine w_al hK rfl rfl ?_
          refine w_getr (n := 6) (v := 92) hK rfl rfl (by decide) (by decide) rfl rfl rfl rfl ?_
          refine w_al hK rfl rfl ?_
          refine w_al hK rfl rfl ?_
          refine w_call [(1, 92), (1, (149 + 2 * (i : Int))), (1, (149 + 2 * (i : Int)))] hK rfl rfl rfl rfl (Or.inr ⟨_, _, _, rfl, by decide, (by decide), rfl⟩) (c_count C ⟨(isPP hi), (hpl i hi).1⟩ ⟨(isPP hi), (hpl i hi).1⟩ (by omega) (by omega) (by omega) (n := n0) hn0 (by omega) (by omega)) ?_
          rintro _ V223 ⟨P223, c_, R_, dp_, ow_, us_, rfl, C223, hGP_, F223, S223, hm11_⟩
          have gp_ := gp_pow hGP_ (Nat.mul_le_mul_right _ (by omega))
          have sB_ := sI_bz (q := fun j => Cop (wyU n0 us_ R_ (j + 1)) (pl i)) (pp k ^ R_ - 1)
          refine ⟨(by show (0 : Nat) ≠ 9; decide), (?_ : Wp 198 _ 179 28 [(1, 0), (0, (i : Int)), (1, (149 + 2 * (i : Int))), (3, 0)] [(0, (sI (fun j => bz (Cop (wyU n0 us_ R_ (j + 1)) (pl i))) (pp k ^ R_ - 1)))] V223 _)⟩
          refine w_is [(1, 0), (0, (i : Int)), (1, (149 + 2 * (i : Int))), (0, (sI (fun j => bz (Cop (wyU n0 us_ R_ (j + 1)) (pl i))) (pp k ^ R_ - 1)))] hK rfl rfl rfl ?_
          refine w_al hK rfl rfl ?_
          refine w_call [(1, 0)] hK rfl rfl rfl rfl (Or.inr ⟨_, _, _, rfl, by decide, (by decide), rfl⟩) (c_start0 (RWs.keep hR (S223 0 (notP rfl) (by decide) (by decide) (by decide) (by decide) (by decide) (by decide)) (S223 144 (notP rfl) (by decide) (by decide) (by decide) (by decide) (by decide) (by decide)))) ?_
          rintro _ V224 ⟨rfl, R224, F224⟩
          refine ⟨by decide, (?_ : Wp 198 _ 179 31 [(1, 0), (0, (i : Int)), (1, (149 + 2 * (i : Int))), (0, (sI (fun j => bz (Cop (wyU n0 us_ R_ (j + 1)) (pl i))) (pp k ^ R_ - 1)))] [] V224 _)⟩
          refine w_al hK rfl rfl ?_
          refine w_il hK rfl rfl ?_
          refine w_i2l hK rfl (by omega) (by omega) ?_
          refine w_call [(1, 0), (2, (sI (fun j => bz (Cop (wyU n0 us_ R_ (j + 1)) (pl i))) (pp k ^ R_ - 1)))] hK rfl rfl rfl rfl (Or.inr ⟨_, _, _, rfl, by decide, (by decide), rfl⟩) (c_tell R224 (by omega) (sI (fun j => bz (Cop (wyU n0 us_ R_ (j + 1)) (pl i))) (pp k ^ R_ - 1))) ?_
          rintro _ V225 ⟨rfl, R225, F225⟩
          refine ⟨by decide, (?_ : Wp 198 _ 179 35 [(1, 0), (0, (i : Int)), (1, (149 + 2 * (i : Int))), (0, (sI (fun j => bz (Cop (wyU n0 us_ R_ (j + 1)) (pl i))) (pp k ^ R_ - 1)))] [] V225 _)⟩
          refine w_al hK rfl rfl ?_
          refine w_getr (n := 6) (v := 92) hK rfl rfl (by decide) (by decide) rfl rfl rfl rfl ?_
          refine w_geti (n := 11) (m := 11) hK rfl rfl (by decide) (by decide) rfl rfl rfl rfl ?_
          rw [show V225 92 11 = ((pp k ^ R_ : Nat) : Int) from ((congrFun (F225 92 (by decide) (by decide)) 11).trans ((congrFun (F224 92 (by decide)) 11).trans hm11_))]
          refine w_iret hK rfl rfl ?_
          refine ⟨c_, R_, dp_, ow_, us_, hGP_, ?_⟩
          exact ⟨rfl, ⟨_, u_, l_, z_, (CS.congr (CS.congr C223 (fun a ha_ => F224 a (CSc_ne ha_ (by decide) (notP rfl)))) (fun a ha_ => F225 a (CSc_ne ha_ (by decide) (notP rfl)) (CSc_ne ha_ (by decide) (notP rfl)))), (ES.keep E ((F225 18 (by decide) (by decide)).trans ((F224 18 (by decide)).trans (S223 18 (notP rfl) (by decide) (by decide) (by decide) (by decide) (by decide) (by decide))))), (PLs.keep hpl (fun q_ hq_ => (F223 (149 + 2 * (q_ : Int)) (by omega) (by omega) (by omega)))), (TXs.keep T ((F225 140 (by decide) (by decide)).trans ((F224 140 (by decide)).trans (S223 140 (notP rfl) (by decide) (by decide) (by decide) (by decide) (by decide) (by decide)))) ((F225 141 (by decide) (by decide)).trans ((F224 141 (by decide)).trans (S223 141 (notP rfl) (by decide) (by decide) (by decide) (by decide) (by decide) (by decide))))), R225, (FCs.keep hF ((F225 52 (by decide) (by decide)).trans ((F224 52 (by decide)).trans (S223 52 (notP rfl) (by decide) (by decide) (by decide) (by decide) (by decide) (by decide)))) (fun q_ hq_ => (F223 (68 + 6 * (q_ : Int)) (by omega) (by omega) (by omega))))⟩, (fun a h_ => ((F225 a (by omega) (by omega)).trans ((F224 a (by omega)).trans (S223 a (npC h_) (by omega) (by omega) (by omega) (by omega) (by omega) (by omega)))))⟩
        · exfalso; omega
    · exfalso; omega
  · exfalso; omega
set_option maxRecDepth 100000 in
theorem o_bound {d : Nat} {M : Mem} {k : Nat} {pl : Nat → Pl k} {n : Int} {tx : Int → Int} {rc : Nat} {rw : Int → Int} {fc : Nat} {fa : Nat → Pl k} (H : CLS M k pl n tx rc rw fc fa) (i : Nat) (hi : i < 6) (n0 : Nat) (hn0 : dg (pl i) = (n0 : Int)) (n8_ : n0 ≤ 8) (hex : ∀ (ρ : Nat → Pl k) (w : Nat → Nat → Nat) (pv : Nat → Nat), ¬ SPp n0 (fun t_ : Nat => stN (pl i) (t_ * mm k)) 9 9 ρ w pv (fun r => r)) : Ct 198 (d + 8) 181 [(1, 0), (0, (i : Int))] M (fun r_ M' => ∃ (e0 : Nat) (u0 : Nat → Nat), (e0 ≤ 8 ∧ SPr (fun t_ : Nat => stN (pl i) (t_ * mm k)) e0 e0 (fun r => r) u0 ∧ ∃ (ρ : Nat → Pl k) (w : Nat → Nat → Nat) (pv : Nat → Nat), SPp n0 (fun t_ : Nat => stN (pl i) (t_ * mm k)) e0 e0 ρ w pv (fun r => r)) ∧ (r_ = (0, (e0 : Int)) ∧ CLS M' k pl n tx (e0 + 1) (stw (fun m_ : Nat => (u0 m_ : Int)) rw (e0 + 1)) fc fa ∧ (∀ a : Int, (a < 0 ∨ 160 < a) → M' a = M a))) := by
  have hK : cd 181 = k181 := rfl
  obtain ⟨P, u_, l_, z_, C, E, hpl, T, hR, hF⟩ := H
  have q1_ := qq_I k
  have p1_ := pp_I k
  have m1_ := mm_I k
  have bi_ := (hpl i hi).2
  have di_ := dg_lt9 bi_
  show Wp 198 _ 181 0 [(1, 0), (0, (i : Int)), (3, 0), (3, 0), (3, 0)] [] M _
  refine w_al hK rfl rfl ?_
  refine w_il hK rfl rfl ?_
  refine w_call [(1, 0), (0, (i : Int))] hK rfl rfl rfl rfl (Or.inr ⟨_, _, _, rfl, by decide, (by decide), rfl⟩) (c_pl i hi) ?_
  rintro _ Mq ⟨rfl, e_⟩
  subst Mq
  refine ⟨(by show (1 : Nat) ≠ 9; decide), (?_ : Wp 198 _ 181 3 [(1, 0), (0, (i : Int)), (3, 0), (3, 0), (3, 0)] [(1, (149 + 2 * (i : Int)))] M _)⟩
  refine w_as [(1, 0), (0, (i : Int)), (1, (149 + 2 * (i : Int))), (3, 0), (3, 0)] hK rfl rfl rfl ?_
  refine w_al hK rfl rfl ?_
  refine w_nonnull hK rfl (fun h5 => ?_) (fun h5 => ?_)
  · refine w_al hK rfl rfl ?_
    refine w_pt hK rfl (isPP hi) ?_
    rw [show M (149 + 2 * (i : Int)) 1 = dg (pl i) from C.t ⟨(isPP hi), (hpl i hi).1⟩]
    have tI_ := CS.dI C ⟨(isPP hi), (hpl i hi).1⟩
    refine w_ge hK rfl (by omega) (by omega) (fun h10 => ?_) (fun h10 => ?_)
    · refine w_al hK rfl rfl ?_
      refine w_getr (n := 7) (v := 136) hK rfl rfl (by decide) (by decide) rfl rfl rfl rfl ?_
      refine w_al hK rfl rfl ?_
      refine w_call [(1, 136), (1, (149 + 2 * (i : Int)))] hK rfl rfl rfl rfl (Or.inr ⟨_, _, _, rfl, by decide, (by decide), rfl⟩) (c_bound C ⟨(isPP hi), (hpl i hi).1⟩ (by omega) (n := n0) hn0 (by omega) hex) ?_
      rintro _ V226 ⟨P226, e0_, u0_, rfl, he8_, C226, F226, S226, hr_, hp_, h90_, h88_⟩
      have hu_ := hr_.2.2.2.2
      refine ⟨(by show (0 : Nat) ≠ 9; decide), (?_ : Wp 198 _ 181 17 [(1, 0), (0, (i : Int)), (1, (149 + 2 * (i : Int))), (3, 0), (3, 0)] [(0, (e0_ : Int))] V226 _)⟩
      refine w_is [(1, 0), (0, (i : Int)), (1, (149 + 2 * (i : Int))), (0, (e0_ : Int)), (3, 0)] hK rfl rfl rfl ?_
      refine w_al hK rfl rfl ?_
      refine w_call [(1, 0)] hK rfl rfl rfl rfl (Or.inr ⟨_, _, _, rfl, by decide, (by decide), rfl⟩) (c_start0 (RWs.keep hR (S226 0 (notP rfl) (by decide) (by decide) (by decide) (by decide)) (S226 144 (notP rfl) (by decide) (by decide) (by decide) (by decide)))) ?_
      rintro _ V227 ⟨rfl, R227, F227⟩
      refine ⟨by decide, (?_ : Wp 198 _ 181 20 [(1, 0), (0, (i : Int)), (1, (149 + 2 * (i : Int))), (0, (e0_ : Int)), (3, 0)] [] V227 _)⟩
      refine w_ic hK rfl ?_
      refine w_is [(1, 0), (0, (i : Int)), (1, (149 + 2 * (i : Int))), (0, (e0_ : Int)), (0, 0)] hK rfl rfl rfl ?_
      have lp22 : ∀ (n_ : Nat) (a : Nat) (N22 : Mem), 17 - a = n_ → (a ≤ e0_ + 1) → (RWs N22 a (stw (fun m_ : Nat => (u0_ m_ : Int)) rw a)) → ((∀ a : Int, a ≠ 0 → a ≠ 144 → N22 a = V226 a)) → Wp 198 (d + 8) 181 22 [(1, 0), (0, (i : Int)), (1, (149 + 2 * (i : Int))), (0, (e0_ : Int)), (0, (a : Int))] [] N22 (fun r_ M' => ∃ (e0 : Nat) (u0 : Nat → Nat), (e0 ≤ 8 ∧ SPr (fun t_ : Nat => stN (pl i) (t_ * mm k)) e0 e0 (fun r => r) u0 ∧ ∃ (ρ : Nat → Pl k) (w : Nat → Nat → Nat) (pv : Nat → Nat), SPp n0 (fun t_ : Nat => stN (pl i) (t_ * mm k)) e0 e0 ρ w pv (fun r => r)) ∧ (r_ = (0, (e0 : Int)) ∧ CLS M' k pl n tx (e0 + 1) (stw (fun m_ : Nat => (u0 m_ : Int)) rw (e0 + 1)) fc fa ∧ (∀ a : Int, (a < 0 ∨ 160 < a) → M' a = M a))) := by
        intro n_
        induction n_ using Nat.strongRecOn with
        | _ n_ ih22 =>
        intro a N22 hm22 hj_ hR_ hS
        refine w_il hK rfl rfl ?_
        refine w_il hK rfl rfl ?_
        refine w_gt2 hK rfl (by omega) (by omega) (by omega) (by omega) (fun h24 => ?_) (fun h24 => ?_)
        · refine w_il hK rfl rfl ?_
          refine w_iret hK rfl rfl ?_
          have e_ : a = e0_ + 1 := by omega
          subst a
          refine ⟨e0_, u0_, ⟨he8_, hr_, hp_⟩, ?_⟩
          exact ⟨rfl, ⟨_, u_, l_, z_, (CS.congr C226 (fun a ha_ => hS a (CSc_ne ha_ (by decide) (notP rfl)) (CSc_ne ha_ (by decide) (notP rfl)))), (ES.keep E ((hS 18 (by decide) (by decide)).trans (S226 18 (notP rfl) (by decide) (by decide) (by decide) (by decide)))), (PLs.keep hpl (fun q_ hq_ => (F226 (149 + 2 * (q_ : Int)) (by omega)))), (TXs.keep T ((hS 140 (by decide) (by decide)).trans (S226 140 (notP rfl) (by decide) (by decide) (by decide) (by decide))) ((hS 141 (by decide) (by decide)).trans (S226 141 (notP rfl) (by decide) (by decide) (by decide) (by decide)))), hR_, (FCs.keep hF ((hS 52 (by decide) (by decide)).trans (S226 52 (notP rfl) (by decide) (by decide) (by decide) (by decide))) (fun q_ hq_ => (F226 (68 + 6 * (q_ : Int)) (by omega))))⟩, (fun a h_ => ((hS a (by omega) (by omega)).trans (S226 a (npC h_) (by omega) (by omega) (by omega) (by omega))))⟩
        · refine w_al hK rfl rfl ?_
          refine w_al hK rfl rfl ?_
          refine w_getr (n := 5) (v := 88) hK rfl rfl (by decide) (by decide) rfl rfl rfl rfl ?_
          refine w_il hK rfl rfl ?_
          refine w_call [(1, 88), (0, (a : Int))] hK rfl rfl rfl rfl (Or.inr ⟨_, _, _, rfl, by decide, (by decide), rfl⟩) (c_relAt (c := e0_) (by omega) ((congrFun (hS 88 (by decide) (by decide)) 4).trans h88_) (a : Int) (by omega) (by omega)) ?_
          rintro _ Mq ⟨rfl, e_⟩
          subst Mq
          rw [if_pos (by omega), show N22 90 ((e0_ : Int) * 17 + (a : Int)) = (u0_ a : Int) from (congrFun (hS 90 (by decide) (by decide)) _).trans (h90_ a (by omega))]
          have ua_ := hu_ a
          refine ⟨(by show (0 : Nat) ≠ 9; decide), (?_ : Wp 198 _ 181 30 [(1, 0), (0, (i : Int)), (1, (149 + 2 * (i : Int))), (0, (e0_ : Int)), (0, (a : Int))] [(0, (u0_ a : Int)), (1, 0)] N22 _)⟩
          refine w_i2l hK rfl (by omega) (by omega) ?_
          refine w_call [(1, 0), (2, (u0_ a : Int))] hK rfl rfl rfl rfl (Or.inr ⟨_, _, _, rfl, by decide, (by decide), rfl⟩) (c_tell hR_ (by omega) (u0_ a : Int)) ?_
          rintro _ V228 ⟨rfl, R228, F228⟩
          refine ⟨by decide, (?_ : Wp 198 _ 181 32 [(1, 0), (0, (i : Int)), (1, (149 + 2 * (i : Int))), (0, (e0_ : Int)), (0, (a : Int))] [] V228 _)⟩
          refine w_inc [(1, 0), (0, (i : Int)), (1, (149 + 2 * (i : Int))), (0, (e0_ : Int)), (0, ((a : Int) + 1))] hK rfl rfl rfl (by omega) (by omega) rfl ?_
          refine w_goto hK rfl ?_
          exact ih22 _ (by omega) (a + 1) V228 rfl (by omega) R228 (fun a n0_ n144_ => ((F228 a n0_ n144_).trans (hS a n0_ n144_)))
      exact lp22 _ 0 V227 rfl (by omega) R227 (fun a n0_ n144_ => (F227 a n0_))
    · exfalso; omega
  · exfalso; omega
