/-! the class's calls: rows of numbers -/
theorem lst_I {k : Nat} (f : Pl k) (a : El k) : ∀ n : Nat, 0 ≤ lst f a n ∧ lst f a n ≤ n
  | 0 => ⟨by show (0 : Int) ≤ 0; decide, by show (0 : Int) ≤ 0; decide⟩
  | n + 1 => by
    have h := lst_I f a n
    unfold lst
    split
    · omega
    · split <;> omega
/-- eigen: the numbers, how many were told, the row -/
def egn {k : Nat} (f : Pl k) (rw_ : Int → Int) : Nat → Int × Nat × (Int → Int)
  | 0 => (0, 0, rw_)
  | n + 1 => if 0 < lst f (el k n) (qq k - 1) then (bset (egn f rw_ n).1 n, (egn f rw_ n).2.1 + 1, upr (egn f rw_ n).2.2 ((egn f rw_ n).2.1 : Int) (lst f (el k n) (qq k - 1))) else egn f rw_ n
theorem egn_I {k : Nat} (f : Pl k) (rw_ : Int → Int) : ∀ n : Nat, (egn f rw_ n).2.1 ≤ n ∧ -2147483648 ≤ (egn f rw_ n).1 ∧ (egn f rw_ n).1 ≤ 2147483647
  | 0 => ⟨Nat.le_refl _, by show (-2147483648 : Int) ≤ 0; decide, by show (0 : Int) ≤ 2147483647; decide⟩
  | n + 1 => by
    have h := egn_I f rw_ n
    have h2 := bset_I (egn f rw_ n).1 n
    unfold egn
    split
    · exact ⟨by show (egn f rw_ n).2.1 + 1 ≤ n + 1; omega, h2⟩
    · exact ⟨by omega, h.2⟩
def bor (x y : Int) : Int := (i32 x ||| i32 y).toInt
/-- classes: the seen, how many, the row -/
def cln (k : Nat) (rw_ : Int → Int) : Nat → Int × Nat × (Int → Int)
  | 0 => (0, 0, rw_)
  | n + 1 => if btst (cln k rw_ n).1 n = 0 then (bor (cln k rw_ n).1 (cjs (el k n) (qq k - 1)), (cln k rw_ n).2.1 + 1, upr (cln k rw_ n).2.2 ((cln k rw_ n).2.1 : Int) n) else cln k rw_ n
theorem cln_I (k : Nat) (rw_ : Int → Int) : ∀ n : Nat, (cln k rw_ n).2.1 ≤ n
  | 0 => Nat.le_refl _
  | n + 1 => by
    have h := cln_I k rw_ n
    unfold cln
    split
    · show (cln k rw_ n).2.1 + 1 ≤ n + 1; omega
    · omega
set_option maxRecDepth 100000 in
theorem o_eigen {d : Nat} {M : Mem} {k : Nat} {pl : Nat → Pl k} {n : Int} {tx : Int → Int} {rc : Nat} {rw : Int → Int} {fc : Nat} {fa : Nat → Pl k} (H : CLS M k pl n tx rc rw fc fa) (i : Nat) (hi : i < 6)  : Ct 198 (d + 8) 170 [(1, 0), (0, (i : Int))] M (fun r_ M' => r_ = (0, (egn (pl i) rw (qq k)).1) ∧ CLS M' k pl n tx ((egn (pl i) rw (qq k)).2.1) ((egn (pl i) rw (qq k)).2.2) fc fa ∧ (∀ a : Int, (a < 0 ∨ 160 < a) → M' a = M a)) := by
  have hK : cd 170 = k170 := rfl
  obtain ⟨P, u_, l_, z_, C, E, hpl, T, hR, hF⟩ := H
  have q1_ := qq_I k
  have p1_ := pp_I k
  have m1_ := mm_I k
  have bi_ := (hpl i hi).2
  have di_ := dg_lt9 bi_
  show Wp 198 _ 170 0 [(1, 0), (0, (i : Int)), (3, 0), (3, 0), (3, 0), (3, 0)] [] M _
  refine w_al hK rfl rfl ?_
  refine w_il hK rfl rfl ?_
  refine w_call [(1, 0), (0, (i : Int))] hK rfl rfl rfl rfl (Or.inr ⟨_, _, _, rfl, by decide, (by decide), rfl⟩) (c_pl i hi) ?_
  rintro _ Mq ⟨rfl, e_⟩
  subst Mq
  refine ⟨(by show (1 : Nat) ≠ 9; decide), (?_ : Wp 198 _ 170 3 [(1, 0), (0, (i : Int)), (3, 0), (3, 0), (3, 0), (3, 0)] [(1, (149 + 2 * (i : Int)))] M _)⟩
  refine w_as [(1, 0), (0, (i : Int)), (1, (149 + 2 * (i : Int))), (3, 0), (3, 0), (3, 0)] hK rfl rfl rfl ?_
  refine w_al hK rfl rfl ?_
  refine w_nonnull hK rfl (fun h5 => ?_) (fun h5 => ?_)
  · refine w_ic hK rfl ?_
    refine w_is [(1, 0), (0, (i : Int)), (1, (149 + 2 * (i : Int))), (0, 0), (3, 0), (3, 0)] hK rfl rfl rfl ?_
    refine w_al hK rfl rfl ?_
    refine w_call [(1, 0)] hK rfl rfl rfl rfl (Or.inr ⟨_, _, _, rfl, by decide, (by decide), rfl⟩) (c_start0 hR) ?_
    rintro _ V179 ⟨rfl, R179, F179⟩
    refine ⟨by decide, (?_ : Wp 198 _ 170 12 [(1, 0), (0, (i : Int)), (1, (149 + 2 * (i : Int))), (0, 0), (3, 0), (3, 0)] [] V179 _)⟩
    refine w_ic hK rfl ?_
    refine w_is [(1, 0), (0, (i : Int)), (1, (149 + 2 * (i : Int))), (0, 0), (0, 0), (3, 0)] hK rfl rfl rfl ?_
    have lp14 : ∀ (n_ : Nat) (a : Nat) (w5 : AV) (N14 : Mem), 17 - a = n_ → (a ≤ qq k) → (RWs N14 (egn (pl i) rw a).2.1 (egn (pl i) rw a).2.2) → ((∀ a : Int, a ≠ 0 → a ≠ 144 → N14 a = M a)) → Wp 198 (d + 8) 170 14 [(1, 0), (0, (i : Int)), (1, (149 + 2 * (i : Int))), (0, (egn (pl i) rw a).1), (0, (a : Int)), w5] [] N14 (fun r_ M' => r_ = (0, (egn (pl i) rw (qq k)).1) ∧ CLS M' k pl n tx ((egn (pl i) rw (qq k)).2.1) ((egn (pl i) rw (qq k)).2.2) fc fa ∧ (∀ a : Int, (a < 0 ∨ 160 < a) → M' a = M a)) := by
      intro n_
      induction n_ using Nat.strongRecOn with
      | _ n_ ih14 =>
      intro a w5 N14 hm14 hj hR_ hS
      have gI_ := egn_I (pl i) rw a
      refine w_il hK rfl rfl ?_
      refine w_al hK rfl rfl ?_
      refine w_getr (n := 0) (v := 1) hK rfl rfl (by decide) (by decide) rfl rfl rfl rfl ?_
      refine w_geti (n := 1) (m := 1) hK rfl rfl (by decide) (by decide) rfl rfl rfl rfl ?_
      rw [show N14 1 1 = (qq k : Int) from (CS.congr C (fun a ha_ => hS a (CSc_ne ha_ (by decide) (notP rfl)) (CSc_ne ha_ (by decide) (notP rfl)))).F.q]
      refine w_ge2 hK rfl (by omega) (by omega) (by omega) (by omega) (fun h18 => ?_) (fun h18 => ?_)
      · refine w_il hK rfl rfl ?_
        refine w_iret hK rfl rfl ?_
        have e_ : a = qq k := by omega
        subst e_
        exact ⟨rfl, ⟨_, u_, l_, z_, (CS.congr C (fun a ha_ => hS a (CSc_ne ha_ (by decide) (notP rfl)) (CSc_ne ha_ (by decide) (notP rfl)))), (ES.keep E (hS 18 (by decide) (by decide))), hpl, (TXs.keep T (hS 140 (by decide) (by decide)) (hS 141 (by decide) (by decide))), hR_, (FCs.keep hF (hS 52 (by decide) (by decide)) (fun q_ hq_ => rfl))⟩, (fun a h_ => (hS a (by omega) (by omega)))⟩
      · refine w_al hK rfl rfl ?_
        refine w_getr (n := 3) (v := 45) hK rfl rfl (by decide) (by decide) rfl rfl rfl rfl ?_
        refine w_al hK rfl rfl ?_
        refine w_il hK rfl rfl ?_
        refine w_call [(1, 45), (1, (149 + 2 * (i : Int))), (0, (a : Int))] hK rfl rfl rfl rfl (Or.inr ⟨_, _, _, rfl, by decide, (by decide), rfl⟩) (Ct.cv (c_least (CS.congr C (fun a ha_ => hS a (CSc_ne ha_ (by decide) (notP rfl)) (CSc_ne ha_ (by decide) (notP rfl)))) ⟨(isPP hi), (hpl i hi).1⟩ (el k a)) (by simp only [(elN (k := k) (n := a) (by omega))]; try rfl)) ?_
        rintro _ Mq ⟨rfl, e_⟩
        subst Mq
        refine ⟨by show (0 : Nat) ≠ 9; decide, (?_ : Wp 198 _ 170 24 [(1, 0), (0, (i : Int)), (1, (149 + 2 * (i : Int))), (0, (egn (pl i) rw a).1), (0, (a : Int)), w5] [(0, (lst (pl i) (el k a) (qq k - 1)))] N14 _)⟩
        refine w_is [(1, 0), (0, (i : Int)), (1, (149 + 2 * (i : Int))), (0, (egn (pl i) rw a).1), (0, (a : Int)), (0, (lst (pl i) (el k a) (qq k - 1)))] hK rfl rfl rfl ?_
        have lI_ := lst_I (pl i) (el k a) (qq k - 1)
        refine w_il hK rfl rfl ?_
        refine w_le hK rfl (by omega) (by omega) (fun h26 => ?_) (fun h26 => ?_)
        · refine w_inc [(1, 0), (0, (i : Int)), (1, (149 + 2 * (i : Int))), (0, (egn (pl i) rw a).1), (0, ((a : Int) + 1)), (0, (lst (pl i) (el k a) (qq k - 1)))] hK rfl rfl rfl (by omega) (by omega) rfl ?_
          refine w_goto hK rfl ?_
          have eu_ : (egn (pl i) rw (a + 1)) = (egn (pl i) rw a) := if_neg (by omega)
          have e1_ : (egn (pl i) rw (a + 1)).1 = (egn (pl i) rw a).1 := congrArg Prod.fst eu_
          have e2_ : (egn (pl i) rw (a + 1)).2.1 = (egn (pl i) rw a).2.1 := congrArg (fun t => t.2.1) eu_
          rw [← e1_]
          exact ih14 _ (by omega) (a + 1) (0, (lst (pl i) (el k a) (qq k - 1))) N14 rfl (by omega) (by rw [eu_]; exact hR_) (fun a n0_ n144_ => (hS a n0_ n144_))
        · refine w_il hK rfl rfl ?_
          refine w_ic hK rfl ?_
          refine w_il hK rfl rfl ?_
          refine w_bin (w := i32 1 <<< (i32 (a : Int) &&& 31)) hK rfl rfl rfl ?_
          refine w_bin (w := i32 ((egn (pl i) rw a).1) ||| i32 ((i32 1 <<< (i32 (a : Int) &&& 31)).toInt)) hK rfl rfl rfl ?_
          refine w_is [(1, 0), (0, (i : Int)), (1, (149 + 2 * (i : Int))), (0, (i32 ((egn (pl i) rw a).1) ||| i32 ((i32 1 <<< (i32 (a : Int) &&& 31)).toInt)).toInt), (0, (a : Int)), (0, (lst (pl i) (el k a) (qq k - 1)))] hK rfl rfl rfl ?_
          refine w_al hK rfl rfl ?_
          refine w_il hK rfl rfl ?_
          refine w_i2l hK rfl (by omega) (by omega) ?_
          refine w_call [(1, 0), (2, (lst (pl i) (el k a) (qq k - 1)))] hK rfl rfl rfl rfl (Or.inr ⟨_, _, _, rfl, by decide, (by decide), rfl⟩) (c_tell hR_ (by omega) (lst (pl i) (el k a) (qq k - 1))) ?_
          rintro _ V180 ⟨rfl, R180, F180⟩
          refine ⟨by decide, (?_ : Wp 198 _ 170 37 [(1, 0), (0, (i : Int)), (1, (149 + 2 * (i : Int))), (0, (i32 ((egn (pl i) rw a).1) ||| i32 ((i32 1 <<< (i32 (a : Int) &&& 31)).toInt)).toInt), (0, (a : Int)), (0, (lst (pl i) (el k a) (qq k - 1)))] [] V180 _)⟩
          refine w_inc [(1, 0), (0, (i : Int)), (1, (149 + 2 * (i : Int))), (0, (i32 ((egn (pl i) rw a).1) ||| i32 ((i32 1 <<< (i32 (a : Int) &&& 31)).toInt)).toInt), (0, ((a : Int) + 1)), (0, (lst (pl i) (el k a) (qq k - 1)))] hK rfl rfl rfl (by omega) (by omega) rfl ?_
          refine w_goto hK rfl ?_
          have eu_ : (egn (pl i) rw (a + 1)) = ((i32 ((egn (pl i) rw a).1) ||| i32 ((i32 1 <<< (i32 (a : Int) &&& 31)).toInt)).toInt, ((egn (pl i) rw a).2.1 + 1), (upr (egn (pl i) rw a).2.2 ((egn (pl i) rw a).2.1 : Int) (lst (pl i) (el k a) (qq k - 1)))) := if_pos (by omega)
          have e1_ : (egn (pl i) rw (a + 1)).1 = (i32 ((egn (pl i) rw a).1) ||| i32 ((i32 1 <<< (i32 (a : Int) &&& 31)).toInt)).toInt := congrArg Prod.fst eu_
          have e2_ : (egn (pl i) rw (a + 1)).2.1 = ((egn (pl i) rw a).2.1 + 1) := congrArg (fun t => t.2.1) eu_
          rw [← e1_]
          exact ih14 _ (by omega) (a + 1) (0, (lst (pl i) (el k a) (qq k - 1))) V180 rfl (by omega) (by rw [eu_]; exact R180) (fun a n0_ n144_ => ((F180 a n0_ n144_).trans (hS a n0_ n144_)))
    exact lp14 _ 0 (3, 0) V179 rfl (by omega) R179 (fun a n0_ n144_ => (F179 a n0_))
  · exfalso; omega
set_option maxRecDepth 100000 in
theorem n_eigen {d : Nat} {M : Mem} {k : Nat} {pl : Nat → Pl k} {n : Int} {tx : Int → Int} {rc : Nat} {rw : Int → Int} {fc : Nat} {fa : Nat → Pl k} (H : CLS M k pl n tx rc rw fc fa) (i : Int) (i1_ : -2147483648 ≤ i) (i2_ : i ≤ 2147483647) (hn : ¬ (0 ≤ i ∧ i < 6)) : Ct 198 (d + 8) 170 [(1, 0), (0, i)] M (fun r_ M' => r_ = (0, -1) ∧ M' = M) := by
  have hK : cd 170 = k170 := rfl
  obtain ⟨P, u_, l_, z_, C, E, hpl, T, hR, hF⟩ := H
  have q1_ := qq_I k
  have p1_ := pp_I k
  have m1_ := mm_I k
  show Wp 198 _ 170 0 [(1, 0), (0, i), (3, 0), (3, 0), (3, 0), (3, 0)] [] M _
  refine w_al hK rfl rfl ?_
  refine w_il hK rfl rfl ?_
  refine w_call [(1, 0), (0, i)] hK rfl rfl rfl rfl (Or.inr ⟨_, _, _, rfl, by decide, (by decide), rfl⟩) (c_plI i (by omega) (by omega)) ?_
  rintro _ Mq ⟨rfl, e_⟩
  subst Mq
  have pI_ := plr_I i
  refine ⟨(by show (1 : Nat) ≠ 9; decide), (?_ : Wp 198 _ 170 3 [(1, 0), (0, i), (3, 0), (3, 0), (3, 0), (3, 0)] [(1, (plr i))] M _)⟩
  refine w_as [(1, 0), (0, i), (1, (plr i)), (3, 0), (3, 0), (3, 0)] hK rfl rfl rfl ?_
  refine w_al hK rfl rfl ?_
  refine w_nonnull hK rfl (fun h5 => ?_) (fun h5 => ?_)
  · exfalso; omega
  · refine w_ic hK rfl ?_
    refine w_iret hK rfl rfl ?_
    exact ⟨rfl, rfl⟩
set_option maxRecDepth 100000 in
theorem o_classes {d : Nat} {M : Mem} {k : Nat} {pl : Nat → Pl k} {n : Int} {tx : Int → Int} {rc : Nat} {rw : Int → Int} {fc : Nat} {fa : Nat → Pl k} (H : CLS M k pl n tx rc rw fc fa)  : Ct 198 (d + 8) 134 [(1, 0)] M (fun r_ M' => r_ = (0, ((cln k rw (qq k)).2.1 : Int)) ∧ CLS M' k pl n tx ((cln k rw (qq k)).2.1) ((cln k rw (qq k)).2.2) fc fa ∧ (∀ a : Int, (a < 0 ∨ 160 < a) → M' a = M a)) := by
  have hK : cd 134 = k134 := rfl
  obtain ⟨P, u_, l_, z_, C, E, hpl, T, hR, hF⟩ := H
  have q1_ := qq_I k
  have p1_ := pp_I k
  have m1_ := mm_I k
  show Wp 198 _ 134 0 [(1, 0), (3, 0), (3, 0), (3, 0)] [] M _
  refine w_ic hK rfl ?_
  refine w_is [(1, 0), (0, 0), (3, 0), (3, 0)] hK rfl rfl rfl ?_
  refine w_ic hK rfl ?_
  refine w_is [(1, 0), (0, 0), (0, 0), (3, 0)] hK rfl rfl rfl ?_
  refine w_al hK rfl rfl ?_
  refine w_call [(1, 0)] hK rfl rfl rfl rfl (Or.inr ⟨_, _, _, rfl, by decide, (by decide), rfl⟩) (c_start0 hR) ?_
  rintro _ V181 ⟨rfl, R181, F181⟩
  refine ⟨by decide, (?_ : Wp 198 _ 134 6 [(1, 0), (0, 0), (0, 0), (3, 0)] [] V181 _)⟩
  refine w_ic hK rfl ?_
  refine w_is [(1, 0), (0, 0), (0, 0), (0, 0)] hK rfl rfl rfl ?_
  have lp8 : ∀ (n_ : Nat) (a : Nat) (N8 : Mem), 17 - a = n_ → (a ≤ qq k) → (RWs N8 (cln k rw a).2.1 (cln k rw a).2.2) → ((∀ a : Int, a ≠ 0 → a ≠ 144 → N8 a = M a)) → Wp 198 (d + 8) 134 8 [(1, 0), (0, (cln k rw a).1), (0, ((cln k rw a).2.1 : Int)), (0, (a : Int))] [] N8 (fun r_ M' => r_ = (0, ((cln k rw (qq k)).2.1 : Int)) ∧ CLS M' k pl n tx ((cln k rw (qq k)).2.1) ((cln k rw (qq k)).2.2) fc fa ∧ (∀ a : Int, (a < 0 ∨ 160 < a) → M' a = M a)) := by
    intro n_
    induction n_ using Nat.strongRecOn with
    | _ n_ ih8 =>
    intro a N8 hm8 hj hR_ hS
    have gI_ := cln_I k rw a
    refine w_il hK rfl rfl ?_
    refine w_al hK rfl rfl ?_
    refine w_getr (n := 0) (v := 1) hK rfl rfl (by decide) (by decide) rfl rfl rfl rfl ?_
    refine w_geti (n := 1) (m := 1) hK rfl rfl (by decide) (by decide) rfl rfl rfl rfl ?_
    rw [show N8 1 1 = (qq k : Int) from (CS.congr C (fun a ha_ => hS a (CSc_ne ha_ (by decide) (notP rfl)) (CSc_ne ha_ (by decide) (notP rfl)))).F.q]
    refine w_ge2 hK rfl (by omega) (by omega) (by omega) (by omega) (fun h12 => ?_) (fun h12 => ?_)
    · refine w_il hK rfl rfl ?_
      refine w_iret hK rfl rfl ?_
      have e_ : a = qq k := by omega
      subst e_
      exact ⟨rfl, ⟨_, u_, l_, z_, (CS.congr C (fun a ha_ => hS a (CSc_ne ha_ (by decide) (notP rfl)) (CSc_ne ha_ (by decide) (notP rfl)))), (ES.keep E (hS 18 (by decide) (by decide))), hpl, (TXs.keep T (hS 140 (by decide) (by decide)) (hS 141 (by decide) (by decide))), hR_, (FCs.keep hF (hS 52 (by decide) (by decide)) (fun q_ hq_ => rfl))⟩, (fun a h_ => (hS a (by omega) (by omega)))⟩
    · refine w_il hK rfl rfl ?_
      refine w_il hK rfl rfl ?_
      refine w_bin (w := i32 ((cln k rw a).1) >>> (i32 (a : Int) &&& 31)) hK rfl rfl rfl ?_
      refine w_ic hK rfl ?_
      refine w_bin (w := i32 ((i32 ((cln k rw a).1) >>> (i32 (a : Int) &&& 31)).toInt) &&& i32 1) hK rfl rfl rfl ?_
      have wI_ := w32_I (i32 ((i32 ((cln k rw a).1) >>> (i32 (a : Int) &&& 31)).toInt) &&& i32 1)
      refine w_ne hK rfl (by omega) (by omega) (fun h18 => ?_) (fun h18 => ?_)
      · refine w_inc [(1, 0), (0, (cln k rw a).1), (0, ((cln k rw a).2.1 : Int)), (0, ((a : Int) + 1))] hK rfl rfl rfl (by omega) (by omega) rfl ?_
        refine w_goto hK rfl ?_
        have eu_ : (cln k rw (a + 1)) = (cln k rw a) := if_neg h18
        have e1_ : (cln k rw (a + 1)).1 = (cln k rw a).1 := congrArg Prod.fst eu_
        have e2_ : (cln k rw (a + 1)).2.1 = (cln k rw a).2.1 := congrArg (fun t => t.2.1) eu_
        rw [← e1_]
        rw [show ((cln k rw a).2.1 : Int) = (((cln k rw (a + 1)).2.1 : Nat) : Int) by rw [e2_]]
        exact ih8 _ (by omega) (a + 1) N8 rfl (by omega) (by rw [eu_]; exact hR_) (fun a n0_ n144_ => (hS a n0_ n144_))
      · refine w_il hK rfl rfl ?_
        refine w_al hK rfl rfl ?_
        refine w_getr (n := 0) (v := 1) hK rfl rfl (by decide) (by decide) rfl rfl rfl rfl ?_
        refine w_il hK rfl rfl ?_
        refine w_call [(1, 1), (0, (a : Int))] hK rfl rfl rfl rfl (Or.inr ⟨_, _, _, rfl, by decide, (by decide), rfl⟩) (Ct.cv (c_conjs (by decide) (CS.congr C (fun a ha_ => hS a (CSc_ne ha_ (by decide) (notP rfl)) (CSc_ne ha_ (by decide) (notP rfl)))).F (el k a)) (by simp only [(elN (k := k) (n := a) (by omega))]; try rfl)) ?_
        rintro _ Mq ⟨rfl, e_⟩
        subst Mq
        refine ⟨by show (0 : Nat) ≠ 9; decide, (?_ : Wp 198 _ 134 24 [(1, 0), (0, (cln k rw a).1), (0, ((cln k rw a).2.1 : Int)), (0, (a : Int))] [(0, (cjs (el k a) (qq k - 1))), (0, (cln k rw a).1)] N8 _)⟩
        refine w_bin (w := i32 ((cln k rw a).1) ||| i32 (cjs (el k a) (qq k - 1))) hK rfl rfl rfl ?_
        refine w_is [(1, 0), (0, (i32 ((cln k rw a).1) ||| i32 (cjs (el k a) (qq k - 1))).toInt), (0, ((cln k rw a).2.1 : Int)), (0, (a : Int))] hK rfl rfl rfl ?_
        refine w_al hK rfl rfl ?_
        refine w_il hK rfl rfl ?_
        refine w_i2l hK rfl (by omega) (by omega) ?_
        refine w_call [(1, 0), (2, (a : Int))] hK rfl rfl rfl rfl (Or.inr ⟨_, _, _, rfl, by decide, (by decide), rfl⟩) (c_tell hR_ (by omega) (a : Int)) ?_
        rintro _ V182 ⟨rfl, R182, F182⟩
        refine ⟨by decide, (?_ : Wp 198 _ 134 30 [(1, 0), (0, (i32 ((cln k rw a).1) ||| i32 (cjs (el k a) (qq k - 1))).toInt), (0, ((cln k rw a).2.1 : Int)), (0, (a : Int))] [] V182 _)⟩
        refine w_inc [(1, 0), (0, (i32 ((cln k rw a).1) ||| i32 (cjs (el k a) (qq k - 1))).toInt), (0, (((cln k rw a).2.1 : Int) + 1)), (0, (a : Int))] hK rfl rfl rfl (by omega) (by omega) rfl ?_
        refine w_inc [(1, 0), (0, (i32 ((cln k rw a).1) ||| i32 (cjs (el k a) (qq k - 1))).toInt), (0, (((cln k rw a).2.1 : Int) + 1)), (0, ((a : Int) + 1))] hK rfl rfl rfl (by omega) (by omega) rfl ?_
        refine w_goto hK rfl ?_
        have eu_ : (cln k rw (a + 1)) = ((i32 ((cln k rw a).1) ||| i32 (cjs (el k a) (qq k - 1))).toInt, ((cln k rw a).2.1 + 1), (upr (cln k rw a).2.2 ((cln k rw a).2.1 : Int) (a : Int))) := if_pos h18
        have e1_ : (cln k rw (a + 1)).1 = (i32 ((cln k rw a).1) ||| i32 (cjs (el k a) (qq k - 1))).toInt := congrArg Prod.fst eu_
        have e2_ : (cln k rw (a + 1)).2.1 = ((cln k rw a).2.1 + 1) := congrArg (fun t => t.2.1) eu_
        rw [← e1_]
        rw [show (((cln k rw a).2.1 : Int) + 1) = (((cln k rw (a + 1)).2.1 : Nat) : Int) by rw [e2_]; omega]
        exact ih8 _ (by omega) (a + 1) V182 rfl (by omega) (by rw [eu_]; exact R182) (fun a n0_ n144_ => ((F182 a n0_ n144_).trans (hS a n0_ n144_)))
  exact lp8 _ 0 V181 rfl (by omega) R181 (fun a n0_ n144_ => (F181 a n0_))
