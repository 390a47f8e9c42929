/-! the class's calls: divisors -/
theorem trN_le (k : Nat) (n d : Int) : trN k n d ≤ 256 := by
  have h := trI_I k n d
  unfold trN
  omega
set_option maxRecDepth 100000 in
theorem o_divs1 {d : Nat} {M : Mem} {k : Nat} {pl : Nat → Pl k} {n : Int} {tx : Int → Int} {rc : Nat} {rw : Int → Int} {fc : Nat} {fa : Nat → Pl k} (H : CLS M k pl n tx rc rw fc fa) (i : Nat) (hi : i < 6) (e : Nat) (e1_ : 1 ≤ e) (e3_ : e ≤ 3) (hi0 : 0 ≤ dg (pl i)) (hi4 : dg (pl i) ≤ 4) (sv_ : 0 < svN (pl i) e (trN k (dg (pl i)) e)) : Ct 198 (d + 8) 172 [(1, 0), (0, (i : Int)), (0, (e : Int))] M (fun r_ M' => r_ = (0, (svN (pl i) e (trN k (dg (pl i)) e))) ∧ CLS M' k pl n tx (e + 1) (stw (fun m_ : Nat => ((svB (pl i) e (trN k (dg (pl i)) e) m_).val : Int)) rw (e + 1)) fc fa ∧ (∀ a : Int, (a < 0 ∨ 160 < a) → M' a = M a)) := by
  have hK : cd 172 = k172 := rfl
  obtain ⟨P, u_, l_, z_, C, E, hpl, T, hR, hF⟩ := H
  have q1_ := qq_I k
  have p1_ := pp_I k
  have m1_ := mm_I k
  have bi_ := (hpl i hi).2
  have di_ := dg_lt9 bi_
  have sI_ := svN_I (pl i) e (trN k (dg (pl i)) e)
  have tN_ := trN_le k (dg (pl i)) e
  show Wp 198 _ 172 0 [(1, 0), (0, (i : Int)), (0, (e : Int)), (3, 0), (3, 0), (3, 0), (3, 0)] [] M _
  refine w_al hK rfl rfl ?_
  refine w_il hK rfl rfl ?_
  refine w_call [(1, 0), (0, (i : Int))] hK rfl rfl rfl rfl (Or.inr ⟨_, _, _, rfl, by decide, (by decide), rfl⟩) (c_pl i hi) ?_
  rintro _ Mq ⟨rfl, e_⟩
  subst Mq
  refine ⟨(by show (1 : Nat) ≠ 9; decide), (?_ : Wp 198 _ 172 3 [(1, 0), (0, (i : Int)), (0, (e : Int)), (3, 0), (3, 0), (3, 0), (3, 0)] [(1, (149 + 2 * (i : Int)))] M _)⟩
  refine w_as [(1, 0), (0, (i : Int)), (0, (e : Int)), (1, (149 + 2 * (i : Int))), (3, 0), (3, 0), (3, 0)] hK rfl rfl rfl ?_
  refine w_al hK rfl rfl ?_
  refine w_null hK rfl (fun h5 => ?_) (fun h5 => ?_)
  · exfalso; omega
  · refine w_il hK rfl rfl ?_
    refine w_ic hK rfl ?_
    refine w_lt2 hK rfl (by omega) (by omega) (by omega) (by omega) (fun h8 => ?_) (fun h8 => ?_)
    · exfalso; omega
    · refine w_il hK rfl rfl ?_
      refine w_ic hK rfl ?_
      refine w_le2 hK rfl (by omega) (by omega) (by omega) (by omega) (fun h11 => ?_) (fun h11 => ?_)
      · refine w_al hK rfl rfl ?_
        refine w_call [(1, (149 + 2 * (i : Int)))] hK rfl rfl rfl rfl (Or.inl rfl) (c_refus C ⟨(isPP hi), (hpl i hi).1⟩) ?_
        rintro _ Mq ⟨rfl, e_⟩
        subst Mq
        refine ⟨by show (0 : Nat) ≠ 9; decide, (?_ : Wp 198 _ 172 16 [(1, 0), (0, (i : Int)), (0, (e : Int)), (1, (149 + 2 * (i : Int))), (3, 0), (3, 0), (3, 0)] [(0, (if dg (pl i) < 0 then -2 else if 4 < dg (pl i) then -3 else 0))] M _)⟩
        have rI_ : (if dg (pl i) < 0 then -2 else if 4 < dg (pl i) then -3 else 0) = (0 : Int) := by rw [if_neg (by omega), if_neg (by omega)]
        refine w_is [(1, 0), (0, (i : Int)), (0, (e : Int)), (1, (149 + 2 * (i : Int))), (0, (if dg (pl i) < 0 then -2 else if 4 < dg (pl i) then -3 else 0)), (3, 0), (3, 0)] hK rfl rfl rfl ?_
        refine w_il hK rfl rfl ?_
        refine w_ge hK rfl (by omega) (by omega) (fun h18 => ?_) (fun h18 => ?_)
        · refine w_al hK rfl rfl ?_
          refine w_getr (n := 4) (v := 52) hK rfl rfl (by decide) (by decide) rfl rfl rfl rfl ?_
          refine w_al hK rfl rfl ?_
          refine w_il hK rfl rfl ?_
          refine w_al hK rfl rfl ?_
          refine w_getr (n := 12) (v := 145) hK rfl rfl (by decide) (by decide) rfl rfl rfl rfl ?_
          refine w_call [(1, 52), (1, (149 + 2 * (i : Int))), (0, (e : Int)), (1, 145)] hK rfl rfl rfl rfl (Or.inr ⟨_, _, _, rfl, by decide, (by decide), rfl⟩) (c_survey C ⟨(isPP hi), (hpl i hi).1⟩ (isP_of (p := 145) rfl) (by omega) (by omega) e (by omega) (by omega)) ?_
          rintro _ V190 ⟨P190, rfl, C190, S190, F190, f190_0⟩
          have f190_1 := f190_0 (by omega)
          refine ⟨(by show (0 : Nat) ≠ 9; decide), (?_ : Wp 198 _ 172 28 [(1, 0), (0, (i : Int)), (0, (e : Int)), (1, (149 + 2 * (i : Int))), (0, (if dg (pl i) < 0 then -2 else if 4 < dg (pl i) then -3 else 0)), (3, 0), (3, 0)] [(0, (svN (pl i) e (trN k (dg (pl i)) e)))] V190 _)⟩
          refine w_is [(1, 0), (0, (i : Int)), (0, (e : Int)), (1, (149 + 2 * (i : Int))), (0, (if dg (pl i) < 0 then -2 else if 4 < dg (pl i) then -3 else 0)), (0, (svN (pl i) e (trN k (dg (pl i)) e))), (3, 0)] hK rfl rfl rfl ?_
          refine w_al hK rfl rfl ?_
          refine w_call [(1, 0)] hK rfl rfl rfl rfl (Or.inr ⟨_, _, _, rfl, by decide, (by decide), rfl⟩) (c_start0 (RWs.keep hR (S190 0 (notP rfl)) (S190 144 (notP rfl)))) ?_
          rintro _ V191 ⟨rfl, R191, F191⟩
          refine ⟨by decide, (?_ : Wp 198 _ 172 31 [(1, 0), (0, (i : Int)), (0, (e : Int)), (1, (149 + 2 * (i : Int))), (0, (if dg (pl i) < 0 then -2 else if 4 < dg (pl i) then -3 else 0)), (0, (svN (pl i) e (trN k (dg (pl i)) e))), (3, 0)] [] V191 _)⟩
          refine w_ic hK rfl ?_
          refine w_is [(1, 0), (0, (i : Int)), (0, (e : Int)), (1, (149 + 2 * (i : Int))), (0, (if dg (pl i) < 0 then -2 else if 4 < dg (pl i) then -3 else 0)), (0, (svN (pl i) e (trN k (dg (pl i)) e))), (0, 0)] hK rfl rfl rfl ?_
          have lp33 : ∀ (n_ : Nat) (a : Nat) (N33 : Mem), 17 - a = n_ → (a ≤ e + 1) → (RWs N33 a (stw (fun m_ : Nat => ((svB (pl i) e (trN k (dg (pl i)) e) m_).val : Int)) rw a)) → ((∀ a : Int, a ≠ 0 → a ≠ 144 → N33 a = V190 a)) → Wp 198 (d + 8) 172 33 [(1, 0), (0, (i : Int)), (0, (e : Int)), (1, (149 + 2 * (i : Int))), (0, (if dg (pl i) < 0 then -2 else if 4 < dg (pl i) then -3 else 0)), (0, (svN (pl i) e (trN k (dg (pl i)) e))), (0, (a : Int))] [] N33 (fun r_ M' => r_ = (0, (svN (pl i) e (trN k (dg (pl i)) e))) ∧ CLS M' k pl n tx (e + 1) (stw (fun m_ : Nat => ((svB (pl i) e (trN k (dg (pl i)) e) m_).val : Int)) rw (e + 1)) fc fa ∧ (∀ a : Int, (a < 0 ∨ 160 < a) → M' a = M a)) := by
            intro n_
            induction n_ using Nat.strongRecOn with
            | _ n_ ih33 =>
            intro a N33 hm33 hj_ hR_ hS
            refine w_il hK rfl rfl ?_
            refine w_il hK rfl rfl ?_
            refine w_gt2 hK rfl (by omega) (by omega) (by omega) (by omega) (fun h35 => ?_) (fun h35 => ?_)
            · refine w_il hK rfl rfl ?_
              refine w_iret hK rfl rfl ?_
              have e_ : a = e + 1 := by omega
              subst a
              exact ⟨rfl, ⟨_, u_, l_, z_, (CS.congr C190 (fun a ha_ => hS a (CSc_ne ha_ (by decide) (notP rfl)) (CSc_ne ha_ (by decide) (notP rfl)))), (ES.keep E ((hS 18 (by decide) (by decide)).trans (S190 18 (notP rfl)))), (PLs.keep hpl (fun q_ hq_ => (F190 (149 + 2 * (q_ : Int)) (by omega) (by omega) (by omega) (by omega)))), (TXs.keep T ((hS 140 (by decide) (by decide)).trans (S190 140 (notP rfl))) ((hS 141 (by decide) (by decide)).trans (S190 141 (notP rfl)))), hR_, (FCs.keep hF ((hS 52 (by decide) (by decide)).trans (S190 52 (notP rfl))) (fun q_ hq_ => (F190 (68 + 6 * (q_ : Int)) (by omega) (by omega) (by omega) (by omega))))⟩, (fun a h_ => ((hS a (by omega) (by omega)).trans (S190 a (npC h_))))⟩
            · refine w_il hK rfl rfl ?_
              refine w_le hK rfl (by omega) (by omega) (fun h37 => ?_) (fun h37 => ?_)
              · exfalso; omega
              · refine w_al hK rfl rfl ?_
                refine w_al hK rfl rfl ?_
                refine w_getr (n := 12) (v := 145) hK rfl rfl (by decide) (by decide) rfl rfl rfl rfl ?_
                refine w_il hK rfl rfl ?_
                refine w_call [(1, 145), (0, (a : Int))] hK rfl rfl rfl rfl (Or.inr ⟨_, _, _, rfl, (isP_of (p := 145) rfl).nn, (isP_of (p := 145) rfl).lb, (isP_of (p := 145) rfl).o⟩) (c_atN (CS.congr C190 (fun a ha_ => hS a (CSc_ne ha_ (by decide) (notP rfl)) (CSc_ne ha_ (by decide) (notP rfl)))) ⟨(isP_of (p := 145) rfl), f190_1⟩ a (by omega)) ?_
                rintro _ Mq ⟨rfl, e_⟩
                subst Mq
                have bv_ := el_I ((svB (pl i) e (trN k (dg (pl i)) e)) a)
                refine ⟨by show (0 : Nat) ≠ 9; decide, (?_ : Wp 198 _ 172 43 [(1, 0), (0, (i : Int)), (0, (e : Int)), (1, (149 + 2 * (i : Int))), (0, (if dg (pl i) < 0 then -2 else if 4 < dg (pl i) then -3 else 0)), (0, (svN (pl i) e (trN k (dg (pl i)) e))), (0, (a : Int))] [(0, (((svB (pl i) e (trN k (dg (pl i)) e)) a).val : Int)), (1, 0)] N33 _)⟩
                refine w_i2l hK rfl (by omega) (by omega) ?_
                refine w_call [(1, 0), (2, (((svB (pl i) e (trN k (dg (pl i)) e)) a).val : Int))] hK rfl rfl rfl rfl (Or.inr ⟨_, _, _, rfl, by decide, (by decide), rfl⟩) (c_tell hR_ (by omega) (((svB (pl i) e (trN k (dg (pl i)) e)) a).val : Int)) ?_
                rintro _ V192 ⟨rfl, R192, F192⟩
                refine ⟨by decide, (?_ : Wp 198 _ 172 45 [(1, 0), (0, (i : Int)), (0, (e : Int)), (1, (149 + 2 * (i : Int))), (0, (if dg (pl i) < 0 then -2 else if 4 < dg (pl i) then -3 else 0)), (0, (svN (pl i) e (trN k (dg (pl i)) e))), (0, (a : Int))] [] V192 _)⟩
                refine w_inc [(1, 0), (0, (i : Int)), (0, (e : Int)), (1, (149 + 2 * (i : Int))), (0, (if dg (pl i) < 0 then -2 else if 4 < dg (pl i) then -3 else 0)), (0, (svN (pl i) e (trN k (dg (pl i)) e))), (0, ((a : Int) + 1))] hK rfl rfl rfl (by omega) (by omega) rfl ?_
                refine w_goto hK rfl ?_
                exact ih33 _ (by omega) (a + 1) V192 rfl (by omega) R192 (fun a n0_ n144_ => ((F192 a n0_ n144_).trans (hS a n0_ n144_)))
          exact lp33 _ 0 V191 rfl (by omega) R191 (fun a n0_ n144_ => (F191 a n0_))
        · exfalso; omega
      · exfalso; omega
set_option maxRecDepth 100000 in
theorem o_divs0 {d : Nat} {M : Mem} {k : Nat} {pl : Nat → Pl k} {n : Int} {tx : Int → Int} {rc : Nat} {rw : Int → Int} {fc : Nat} {fa : Nat → Pl k} (H : CLS M k pl n tx rc rw fc fa) (i : Nat) (hi : i < 6) (e : Nat) (e1_ : 1 ≤ e) (e3_ : e ≤ 3) (hi0 : 0 ≤ dg (pl i)) (hi4 : dg (pl i) ≤ 4) (sv_ : svN (pl i) e (trN k (dg (pl i)) e) = 0) : Ct 198 (d + 8) 172 [(1, 0), (0, (i : Int)), (0, (e : Int))] M (fun r_ M' => r_ = (0, 0) ∧ CLS M' k pl n tx 0 rw fc fa ∧ (∀ a : Int, (a < 0 ∨ 160 < a) → M' a = M a)) := by
  have hK : cd 172 = k172 := rfl
  obtain ⟨P, u_, l_, z_, C, E, hpl, T, hR, hF⟩ := H
  have q1_ := qq_I k
  have p1_ := pp_I k
  have m1_ := mm_I k
  have bi_ := (hpl i hi).2
  have di_ := dg_lt9 bi_
  have sI_ := svN_I (pl i) e (trN k (dg (pl i)) e)
  have tN_ := trN_le k (dg (pl i)) e
  show Wp 198 _ 172 0 [(1, 0), (0, (i : Int)), (0, (e : Int)), (3, 0), (3, 0), (3, 0), (3, 0)] [] M _
  refine w_al hK rfl rfl ?_
  refine w_il hK rfl rfl ?_
  refine w_call [(1, 0), (0, (i : Int))] hK rfl rfl rfl rfl (Or.inr ⟨_, _, _, rfl, by decide, (by decide), rfl⟩) (c_pl i hi) ?_
  rintro _ Mq ⟨rfl, e_⟩
  subst Mq
  refine ⟨(by show (1 : Nat) ≠ 9; decide), (?_ : Wp 198 _ 172 3 [(1, 0), (0, (i : Int)), (0, (e : Int)), (3, 0), (3, 0), (3, 0), (3, 0)] [(1, (149 + 2 * (i : Int)))] M _)⟩
  refine w_as [(1, 0), (0, (i : Int)), (0, (e : Int)), (1, (149 + 2 * (i : Int))), (3, 0), (3, 0), (3, 0)] hK rfl rfl rfl ?_
  refine w_al hK rfl rfl ?_
  refine w_null hK rfl (fun h5 => ?_) (fun h5 => ?_)
  · exfalso; omega
  · refine w_il hK rfl rfl ?_
    refine w_ic hK rfl ?_
    refine w_lt2 hK rfl (by omega) (by omega) (by omega) (by omega) (fun h8 => ?_) (fun h8 => ?_)
    · exfalso; omega
    · refine w_il hK rfl rfl ?_
      refine w_ic hK rfl ?_
      refine w_le2 hK rfl (by omega) (by omega) (by omega) (by omega) (fun h11 => ?_) (fun h11 => ?_)
      · refine w_al hK rfl rfl ?_
        refine w_call [(1, (149 + 2 * (i : Int)))] hK rfl rfl rfl rfl (Or.inl rfl) (c_refus C ⟨(isPP hi), (hpl i hi).1⟩) ?_
        rintro _ Mq ⟨rfl, e_⟩
        subst Mq
        refine ⟨by show (0 : Nat) ≠ 9; decide, (?_ : Wp 198 _ 172 16 [(1, 0), (0, (i : Int)), (0, (e : Int)), (1, (149 + 2 * (i : Int))), (3, 0), (3, 0), (3, 0)] [(0, (if dg (pl i) < 0 then -2 else if 4 < dg (pl i) then -3 else 0))] M _)⟩
        have rI_ : (if dg (pl i) < 0 then -2 else if 4 < dg (pl i) then -3 else 0) = (0 : Int) := by rw [if_neg (by omega), if_neg (by omega)]
        refine w_is [(1, 0), (0, (i : Int)), (0, (e : Int)), (1, (149 + 2 * (i : Int))), (0, (if dg (pl i) < 0 then -2 else if 4 < dg (pl i) then -3 else 0)), (3, 0), (3, 0)] hK rfl rfl rfl ?_
        refine w_il hK rfl rfl ?_
        refine w_ge hK rfl (by omega) (by omega) (fun h18 => ?_) (fun h18 => ?_)
        · refine w_al hK rfl rfl ?_
          refine w_getr (n := 4) (v := 52) hK rfl rfl (by decide) (by decide) rfl rfl rfl rfl ?_
          refine w_al hK rfl rfl ?_
          refine w_il hK rfl rfl ?_
          refine w_al hK rfl rfl ?_
          refine w_getr (n := 12) (v := 145) hK rfl rfl (by decide) (by decide) rfl rfl rfl rfl ?_
          refine w_call [(1, 52), (1, (149 + 2 * (i : Int))), (0, (e : Int)), (1, 145)] hK rfl rfl rfl rfl (Or.inr ⟨_, _, _, rfl, by decide, (by decide), rfl⟩) (c_survey C ⟨(isPP hi), (hpl i hi).1⟩ (isP_of (p := 145) rfl) (by omega) (by omega) e (by omega) (by omega)) ?_
          rintro _ V193 ⟨P193, rfl, C193, S193, F193, f193_0⟩
          refine ⟨(by show (0 : Nat) ≠ 9; decide), (?_ : Wp 198 _ 172 28 [(1, 0), (0, (i : Int)), (0, (e : Int)), (1, (149 + 2 * (i : Int))), (0, (if dg (pl i) < 0 then -2 else if 4 < dg (pl i) then -3 else 0)), (3, 0), (3, 0)] [(0, (svN (pl i) e (trN k (dg (pl i)) e)))] V193 _)⟩
          refine w_is [(1, 0), (0, (i : Int)), (0, (e : Int)), (1, (149 + 2 * (i : Int))), (0, (if dg (pl i) < 0 then -2 else if 4 < dg (pl i) then -3 else 0)), (0, (svN (pl i) e (trN k (dg (pl i)) e))), (3, 0)] hK rfl rfl rfl ?_
          refine w_al hK rfl rfl ?_
          refine w_call [(1, 0)] hK rfl rfl rfl rfl (Or.inr ⟨_, _, _, rfl, by decide, (by decide), rfl⟩) (c_start0 (RWs.keep hR (S193 0 (notP rfl)) (S193 144 (notP rfl)))) ?_
          rintro _ V194 ⟨rfl, R194, F194⟩
          refine ⟨by decide, (?_ : Wp 198 _ 172 31 [(1, 0), (0, (i : Int)), (0, (e : Int)), (1, (149 + 2 * (i : Int))), (0, (if dg (pl i) < 0 then -2 else if 4 < dg (pl i) then -3 else 0)), (0, (svN (pl i) e (trN k (dg (pl i)) e))), (3, 0)] [] V194 _)⟩
          refine w_ic hK rfl ?_
          refine w_is [(1, 0), (0, (i : Int)), (0, (e : Int)), (1, (149 + 2 * (i : Int))), (0, (if dg (pl i) < 0 then -2 else if 4 < dg (pl i) then -3 else 0)), (0, (svN (pl i) e (trN k (dg (pl i)) e))), (0, 0)] hK rfl rfl rfl ?_
          refine w_il hK rfl rfl ?_
          refine w_il hK rfl rfl ?_
          refine w_gt2 hK rfl (by omega) (by omega) (by omega) (by omega) (fun h35 => ?_) (fun h35 => ?_)
          · exfalso; omega
          · refine w_il hK rfl rfl ?_
            refine w_le hK rfl (by omega) (by omega) (fun h37 => ?_) (fun h37 => ?_)
            · refine w_il hK rfl rfl ?_
              refine w_iret hK rfl rfl ?_
              exact ⟨(congrArg (Prod.mk 0) sv_), ⟨_, u_, l_, z_, (CS.congr C193 (fun a ha_ => F194 a (CSc_ne ha_ (by decide) (notP rfl)))), (ES.keep E ((F194 18 (by decide)).trans (S193 18 (notP rfl)))), (PLs.keep hpl (fun q_ hq_ => (F193 (149 + 2 * (q_ : Int)) (by omega) (by omega) (by omega) (by omega)))), (TXs.keep T ((F194 140 (by decide)).trans (S193 140 (notP rfl))) ((F194 141 (by decide)).trans (S193 141 (notP rfl)))), R194, (FCs.keep hF ((F194 52 (by decide)).trans (S193 52 (notP rfl))) (fun q_ hq_ => (F193 (68 + 6 * (q_ : Int)) (by omega) (by omega) (by omega) (by omega))))⟩, (fun a h_ => ((F194 a (by omega)).trans (S193 a (npC h_))))⟩
            · exfalso; omega
        · exfalso; omega
      · exfalso; omega
