/-! the class's calls: fits, field -/
theorem rcp_congr {tx : Int → Int} {q a : Int} {pt pt' : Int → Int} {c : Nat} (h : ∀ i : Nat, i < c → pt (i : Int) = pt' (i : Int)) : rcp tx q a pt c = rcp tx q a pt' c := by
  have e : ∀ v : Int, IsPt pt c v = IsPt pt' c v := fun v => propext ⟨fun ⟨j, h1, h2⟩ => ⟨j, h1, (h j h1).symm.trans h2⟩, fun ⟨j, h1, h2⟩ => ⟨j, h1, (h j h1).trans h2⟩⟩
  unfold rcp
  rw [e]
theorem upr_congr {pt pt' : Int → Int} {c : Nat} {v : Int} (h : ∀ i : Nat, i < c → pt (i : Int) = pt' (i : Int)) : ∀ i : Nat, i < c + 1 → upr pt (c : Int) v (i : Int) = upr pt' (c : Int) v (i : Int) := fun i hi => by
  by_cases e : i = c
  · rw [e, upr_eq, upr_eq]
  · rw [upr_ne (by omega), upr_ne (by omega)]; exact h i (by omega)
/-- what stands above the couples read so far doesn't matter -/
theorem rcs_congr {tx : Int → Int} {q n : Int} : ∀ (m j : Nat) (a : Int) (pt wt pt' wt' : Int → Int), m + j = 6 → (∀ i : Nat, i < j → pt (i : Int) = pt' (i : Int)) → (∀ i : Nat, i < j → wt (i : Int) = wt' (i : Int)) → (rcs tx q n m a pt wt).1 = (rcs tx q n m a pt' wt').1 ∧ (rcs tx q n m a pt wt).2.2.2 = (rcs tx q n m a pt' wt').2.2.2 ∧ ∀ i : Nat, i < (rcs tx q n m a pt wt).2.2.2 → (rcs tx q n m a pt wt).2.1 (i : Int) = (rcs tx q n m a pt' wt').2.1 (i : Int) ∧ (rcs tx q n m a pt wt).2.2.1 (i : Int) = (rcs tx q n m a pt' wt').2.2.1 (i : Int)
  | 0, j, a, pt, wt, pt', wt', hj, h1, h2 => ⟨rfl, rfl, fun i hi => by
      change i < 0 at hi
      omega⟩
  | m + 1, j, a, pt, wt, pt', wt', hj, h1, h2 => by
    have ej : m = 5 - j := by omega
    subst ej
    have e6 : (5 - j) + 1 = 6 - j := by omega
    have j5 : j ≤ 5 := by omega
    rw [e6, rcs_at (a := a) (pt := pt) (wt := wt) j5, rcs_at (a := a) (pt := pt') (wt := wt') j5, rcp_congr h1]
    by_cases c1 : (rcp tx q a pt' j).1 ≠ -1
    · rw [if_pos c1, if_pos c1]
      exact ⟨rfl, rfl, fun i hi => by
        change i < 0 at hi
        omega⟩
    · rw [if_neg c1, if_neg c1]
      by_cases c2 : (rcp tx q a pt' j).2.1 = n
      · rw [if_pos c2, if_pos c2]
        exact ⟨rfl, rfl, fun i hi => ⟨upr_congr h1 i hi, upr_congr h2 i hi⟩⟩
      · rw [if_neg c2, if_neg c2]
        by_cases c3 : tx (rcp tx q a pt' j).2.1 ≠ 44 ∨ j = 5
        · rw [if_pos c3, if_pos c3]
          exact ⟨rfl, rfl, fun i hi => by
            change i < 0 at hi
            omega⟩
        · rw [if_neg c3, if_neg c3]
          have h6 : 6 - (j + 1) = 5 - j := by omega
          rw [h6]
          exact rcs_congr (5 - j) (j + 1) _ _ _ _ _ (by omega) (upr_congr h1) (upr_congr h2)
theorem rcp_le {M : Mem} {n : Int} {tx : Int → Int} (T : TXs M n tx) (q a : Int) (q1 : q ≤ 16) (a0 : 0 ≤ a) (a1 : a ≤ n) (pt : Int → Int) (c : Nat) : (rcp tx q a pt c).1 ≤ 44 := by
  have h1 := rdn_I T q a q1 a0 a1
  have h0 := T.1.2
  unfold rcp
  split
  · dsimp only; omega
  · split
    · dsimp only; omega
    · rename_i h2 h3
      have h4 : (rdn tx q a).2.1 < n := by
        rcases Int.lt_or_le (rdn tx q a).2.1 n with e | e
        · exact e
        · have := T.2.2 _ (Or.inr e)
          omega
      have h5 := rdn_I T q ((rdn tx q a).2.1 + 1) q1 (by omega) (by omega)
      split <;> (dsimp only; omega)
theorem rcs_I {M : Mem} {n : Int} {tx : Int → Int} (T : TXs M n tx) {q : Int} (q1 : q ≤ 16) : ∀ (m j : Nat) (a : Int) (pt wt : Int → Int), m + j = 6 → 0 ≤ a → a ≤ n → -1 ≤ (rcs tx q n m a pt wt).1 ∧ (rcs tx q n m a pt wt).1 ≤ 44
  | 0, j, a, pt, wt, hj, a0, a1 => by
    have := T.1.2
    show -1 ≤ a ∧ a ≤ 44
    omega
  | m + 1, j, a, pt, wt, hj, a0, a1 => by
    have ej : m = 5 - j := by omega
    subst ej
    have e6 : (5 - j) + 1 = 6 - j := by omega
    have b := rcp_I T q a q1 a0 a1 pt j
    have b2 := rcp_le T q a q1 a0 a1 pt j
    have b0 := T.1.2
    have j5 : j ≤ 5 := by omega
    rw [e6, rcs_at (a := a) (pt := pt) (wt := wt) j5]
    by_cases c1 : (rcp tx q a pt j).1 ≠ -1
    · rw [if_pos c1]; dsimp only; omega
    · rw [if_neg c1]
      by_cases c2 : (rcp tx q a pt j).2.1 = n
      · rw [if_pos c2]; exact ⟨by show (-1 : Int) ≤ -1; decide, by show (-1 : Int) ≤ 44; decide⟩
      · rw [if_neg c2]
        by_cases c3 : tx (rcp tx q a pt j).2.1 ≠ 44 ∨ j = 5
        · rw [if_pos c3]; dsimp only; omega
        · rw [if_neg c3]
          have h6 : 6 - (j + 1) = 5 - j := by omega
          rw [h6]
          have c : (rcp tx q a pt j).2.1 < n := by
            rcases Int.lt_or_le (rcp tx q a pt j).2.1 n with z | z
            · exact z
            · have := T.2.2 _ (Or.inr z); omega
          exact rcs_I T q1 (5 - j) (j + 1) _ _ _ (by omega) (by omega) (by omega)
/-- the couples, whatever stood there before -/
noncomputable def rcz (k : Nat) (tx : Int → Int) (n : Int) : Int × (Int → Int) × (Int → Int) × Nat := rcs tx (qq k : Int) n 6 0 (fun _ => 0) (fun _ => 0)
theorem c_rcz {d : Nat} {M : Mem} {k : Nat} {n : Int} {tx : Int → Int} (T : TXs M n tx) : Ct 198 (d + 4) 117 [(1, 140), (0, (qq k : Int))] M (fun r M' => ∃ (pt wt : Int → Int), r = (0, (rcz k tx n).1) ∧ ((rcz k tx n).1 = -1 → (1 ≤ (rcz k tx n).2.2.2 ∧ (rcz k tx n).2.2.2 ≤ 6) ∧ M' 140 4 = ((rcz k tx n).2.2.2 : Int) ∧ M' 142 = pt ∧ M' 143 = wt ∧ Nq (qq k : Int) pt (rcz k tx n).2.2.2 ∧ Nq (qq k : Int) wt (rcz k tx n).2.2.2 ∧ ∀ i : Nat, i < (rcz k tx n).2.2.2 → pt (i : Int) = (rcz k tx n).2.1 (i : Int) ∧ wt (i : Int) = (rcz k tx n).2.2.1 (i : Int)) ∧ M' 140 3 = n ∧ (∀ a : Int, a ≠ 140 → a ≠ 142 → a ≠ 143 → M' a = M a)) := by
  have hc := rcs_congr (tx := tx) (q := (qq k : Int)) (n := n) 6 0 0 (M 142) (M 143) (fun _ => 0) (fun _ => 0) rfl (fun i hi => by omega) (fun i hi => by omega)
  refine (c_rcs T).imp (fun r M' h => ?_)
  refine ⟨(rcs tx (qq k : Int) n 6 0 (M 142) (M 143)).2.1, (rcs tx (qq k : Int) n 6 0 (M 142) (M 143)).2.2.1, by rw [h.1, hc.1]; rfl, fun h1 => ?_, h.2.2⟩
  have h2 := h.2.1 (hc.1.trans h1)
  have e3 : (rcs tx (qq k : Int) n 6 0 (M 142) (M 143)).2.2.2 = (rcz k tx n).2.2.2 := hc.2.1
  obtain ⟨w1, w2, w3, w4, w5, w6⟩ := h2
  rw [e3] at w1 w2 w5 w6
  exact ⟨w1, w2, w3, w4, w5, w6, fun i hi => hc.2.2 i (by rw [e3]; exact hi)⟩
theorem fitS_congr {k : Nat} {pt wt pt' wt' : Int → Int} : ∀ {n : Nat}, (∀ i : Nat, i < n → pt (i : Int) = pt' (i : Int) ∧ wt (i : Int) = wt' (i : Int)) → fitS (k := k) pt wt n = fitS pt' wt' n
  | 0, _ => rfl
  | n + 1, h => by
    have e := fitS_congr (k := k) (n := n) (pt := pt) (wt := wt) (pt' := pt') (wt' := wt') (fun i hi => h i (by omega))
    show (adp (fitS pt wt n).1 (scl (ml (ad (el k (wt (n : Int)).toNat) (ng (vl (fitS (k := k) pt wt n).1 (el k (pt (n : Int)).toNat)))) (iv (vl (fitS (k := k) pt wt n).2 (el k (pt (n : Int)).toNat)))) (fitS pt wt n).2), vna (fitS pt wt n).2 (el k (pt (n : Int)).toNat)) = _
    rw [e, (h n (by omega)).1, (h n (by omega)).2]
    rfl
theorem fitOk_congr {k : Nat} {pt wt pt' wt' : Int → Int} {c : Nat} (h : ∀ i : Nat, i < c → pt (i : Int) = pt' (i : Int) ∧ wt (i : Int) = wt' (i : Int)) : (∀ i : Nat, i < c → fitOk k pt wt i) ↔ ∀ i : Nat, i < c → fitOk k pt' wt' i := by
  have e : ∀ i : Nat, i < c → fitOk k pt wt i = fitOk k pt' wt' i := fun i hi => by
    unfold fitOk
    rw [fitS_congr (k := k) (n := i) (pt := pt) (wt := wt) (pt' := pt') (wt' := wt') (fun j hj => h j (by omega)), (h i hi).1, (h i hi).2]
  exact ⟨fun q i hi => e i hi ▸ q i hi, fun q i hi => (e i hi).symm ▸ q i hi⟩
theorem CS.fresh {M N : Mem} {k k2 : Nat} {P : Int → Option (Pl k)} (C : CS M k P) (F : FS N k2) (h : ∀ p : Int, isP p → N p = M p ∧ N (p + 1) = M (p + 1)) : CS N k2 (fun _ => none) := ⟨F, fun p hp => ⟨by
  have := C.jk hp
  unfold JK at this ⊢
  rw [(h p hp).1, (h p hp).2]
  exact this, fun f hf => by cases hf⟩⟩
theorem FS.h50 {M : Mem} {k : Nat} (F : FS M k) : M 5 0 = 0 := by
  have h := F.2.2.2.2.2.1 z0
  rw [iv_zero0 z0 rfl, z0_val] at h
  exact h
theorem isP_lo {p : Int} (h : isP p) (a : Int) (ha : a ≤ 7) : p ≠ a ∧ p + 1 ≠ a := by have := h.1; omega
theorem isP_52 {p : Int} (h : isP p) : p ≠ 52 ∧ p + 1 ≠ 52 := by
  have := (notP (a := 52) rfl) p h
  exact ⟨fun e => this.1 e.symm, fun e => this.2 e.symm⟩
set_option maxRecDepth 100000 in
theorem c_tclr2 {d : Nat} {M : Mem} : Ct 198 (d) 116 [(1, 140)] M (fun r M' => r = (4, 0) ∧ M' = up M 140 3 0) := by
  have hK : cd 116 = k116 := rfl
  show Wp 198 _ 116 0 [(1, 140)] [] M _
  refine w_al hK rfl rfl ?_
  refine w_ic hK rfl ?_
  refine w_puti (n := 3) (m := 3) hK rfl rfl (by decide) (by decide) rfl rfl rfl rfl ?_
  refine w_ret hK rfl rfl ?_
  exact ⟨rfl, rfl⟩
set_option maxRecDepth 100000 in
theorem o_fits {d : Nat} {M : Mem} {k : Nat} {pl : Nat → Pl k} {n : Int} {tx : Int → Int} {rc : Nat} {rw : Int → Int} {fc : Nat} {fa : Nat → Pl k} (H : CLS M k pl n tx rc rw fc fa) (i : Nat) (hi : i < 6) (hf_ : (rcz k tx n).1 < 0) (hok_ : ∀ i : Nat, i < (rcz k tx n).2.2.2 → fitOk k (rcz k tx n).2.1 (rcz k tx n).2.2.1 i) : Ct 198 (d + 8) 160 [(1, 0), (0, (i : Int))] M (fun r_ M' => r_ = (0, (dg (fitS (k := k) (rcz k tx n).2.1 (rcz k tx n).2.2.1 (rcz k tx n).2.2.2).1)) ∧ CLS M' k (fup pl i (fitS (k := k) (rcz k tx n).2.1 (rcz k tx n).2.2.1 (rcz k tx n).2.2.2).1) 0 (txC tx 0) rc rw fc fa ∧ (∀ a : Int, (a < 0 ∨ 160 < a) → M' a = M a)) := by
  have hK : cd 160 = k160 := rfl
  obtain ⟨P, u_, l_, z_, C, E, hpl, T, hR, hF⟩ := H
  have q1_ := qq_I k
  have p1_ := pp_I k
  have m1_ := mm_I k
  have bi_ := (hpl i hi).2
  have di_ := dg_lt9 bi_
  have tn_ := T.1.2
  show Wp 198 _ 160 0 [(1, 0), (0, (i : Int)), (3, 0), (3, 0)] [] M _
  refine w_al hK rfl rfl ?_
  refine w_getr (n := 9) (v := 140) hK rfl rfl (by decide) (by decide) rfl rfl rfl rfl ?_
  refine w_al hK rfl rfl ?_
  refine w_getr (n := 0) (v := 1) hK rfl rfl (by decide) (by decide) rfl rfl rfl rfl ?_
  refine w_geti (n := 1) (m := 1) hK rfl rfl (by decide) (by decide) rfl rfl rfl rfl ?_
  rw [show M 1 1 = (qq k : Int) from C.F.q]
  refine w_call [(1, 140), (0, (qq k : Int))] hK rfl rfl rfl rfl (Or.inr ⟨_, _, _, rfl, by decide, (by decide), rfl⟩) (c_rcz (k := k) T) ?_
  rintro _ V205 ⟨pt_, wt_, rfl, hz_, h3_, F205⟩
  have rI_ := rcs_I T (q := (qq k : Int)) (by omega) 6 0 0 (fun _ => 0) (fun _ => 0) rfl (by omega) (by omega)
  change -1 ≤ (rcz k tx n).1 ∧ (rcz k tx n).1 ≤ 44 at rI_
  obtain ⟨hc6_, h4_, h142_, h143_, hn1_, hn2_, hpw_⟩ := hz_ (by omega)
  refine ⟨(by show (0 : Nat) ≠ 9; decide), (?_ : Wp 198 _ 160 6 [(1, 0), (0, (i : Int)), (3, 0), (3, 0)] [(0, (rcz k tx n).1)] V205 _)⟩
  refine w_is [(1, 0), (0, (i : Int)), (0, (rcz k tx n).1), (3, 0)] hK rfl rfl rfl ?_
  refine w_al hK rfl rfl ?_
  refine w_getr (n := 9) (v := 140) hK rfl rfl (by decide) (by decide) rfl rfl rfl rfl ?_
  refine w_call [(1, 140)] hK rfl rfl rfl rfl (Or.inr ⟨_, _, _, rfl, by decide, (by decide), rfl⟩) (c_tclr2) ?_
  rintro _ V206 ⟨rfl, u206⟩
  refine ⟨by decide, (?_ : Wp 198 _ 160 10 [(1, 0), (0, (i : Int)), (0, (rcz k tx n).1), (3, 0)] [] V206 _)⟩
  refine w_il hK rfl rfl ?_
  refine w_lt hK rfl (by omega) (by omega) (fun h11 => ?_) (fun h11 => ?_)
  · refine w_al hK rfl rfl ?_
    refine w_il hK rfl rfl ?_
    refine w_call [(1, 0), (0, (i : Int))] hK rfl rfl rfl rfl (Or.inr ⟨_, _, _, rfl, by decide, (by decide), rfl⟩) (c_pl i hi) ?_
    rintro _ Mq ⟨rfl, e_⟩
    subst Mq
    refine ⟨(by show (1 : Nat) ≠ 9; decide), (?_ : Wp 198 _ 160 19 [(1, 0), (0, (i : Int)), (0, (rcz k tx n).1), (3, 0)] [(1, (149 + 2 * (i : Int)))] V206 _)⟩
    refine w_as [(1, 0), (0, (i : Int)), (0, (rcz k tx n).1), (1, (149 + 2 * (i : Int)))] hK rfl rfl rfl ?_
    refine w_al hK rfl rfl ?_
    refine w_nonnull hK rfl (fun h21 => ?_) (fun h21 => ?_)
    · refine w_al hK rfl rfl ?_
      refine w_getr (n := 3) (v := 45) hK rfl rfl (by decide) (by decide) rfl rfl rfl rfl ?_
      refine w_al hK rfl rfl ?_
      refine w_getr (n := 9) (v := 140) hK rfl rfl (by decide) (by decide) rfl rfl rfl rfl ?_
      refine w_al hK rfl rfl ?_
      refine w_getr (n := 12) (v := 145) hK rfl rfl (by decide) (by decide) rfl rfl rfl rfl ?_
      refine w_call [(1, 45), (1, 140), (1, 145)] hK rfl rfl rfl rfl (Or.inr ⟨_, _, _, rfl, by decide, (by decide), rfl⟩) (c_fit (CS.congr (CS.congr C (fun a ha_ => F205 a (CSc_ne ha_ (by decide) (notP rfl)) (CSc_ne ha_ (by decide) (notP rfl)) (CSc_ne ha_ (by decide) (notP rfl)))) (fun a ha_ => (fun a (na_ : a ≠ 140) => (congrFun u206 a).trans (up_row na_)) a (CSc_ne ha_ (by decide) (notP rfl)))) (isP_of (p := 145) rfl) (by decide) (c := (rcz k tx n).2.2.2) (by omega) ((congrFun (congrFun u206 140) 4).trans ((up_ne2 (by decide)).trans h4_)) (((fun a (na_ : a ≠ 140) => (congrFun u206 a).trans (up_row na_)) 142 (by decide)).trans h142_) (((fun a (na_ : a ≠ 140) => (congrFun u206 a).trans (up_row na_)) 143 (by decide)).trans h143_) hn1_ hn2_) ?_
      rintro _ V207 ⟨P207, rfl, C207, S207, F207, f207⟩
      have ok_ := (fitOk_congr hpw_).mpr hok_
      have f207z := (f207 ok_).trans (congrArg (fun t : Pl k × Pl k => some t.1) (fitS_congr hpw_))
      rw [bz_pos ok_]
      refine ⟨(by show (0 : Nat) ≠ 9; decide), (?_ : Wp 198 _ 160 31 [(1, 0), (0, (i : Int)), (0, (rcz k tx n).1), (1, (149 + 2 * (i : Int)))] [(0, 1)] V207 _)⟩
      refine w_ne hK rfl (by omega) (by omega) (fun h31 => ?_) (fun h31 => ?_)
      · refine w_al hK rfl rfl ?_
        refine w_al hK rfl rfl ?_
        refine w_getr (n := 12) (v := 145) hK rfl rfl (by decide) (by decide) rfl rfl rfl rfl ?_
        refine w_call [(1, (149 + 2 * (i : Int))), (1, 145)] hK rfl rfl rfl rfl (Or.inr ⟨_, _, _, rfl, (isPP hi).nn, (isPP hi).lb, (isPP hi).o⟩) (c_copy C207 (isPP hi) ⟨(isP_of (p := 145) rfl), f207z⟩) ?_
        rintro _ V208 ⟨rfl, C208, S208⟩
        refine ⟨by decide, (?_ : Wp 198 _ 160 38 [(1, 0), (0, (i : Int)), (0, (rcz k tx n).1), (1, (149 + 2 * (i : Int)))] [] V208 _)⟩
        refine w_al hK rfl rfl ?_
        refine w_pt hK rfl (isPP hi) ?_
        rw [show V208 (149 + 2 * (i : Int)) 1 = dg ((fitS (k := k) (rcz k tx n).2.1 (rcz k tx n).2.2.1 (rcz k tx n).2.2.2).1) from C208.t ⟨(isPP hi), pu_eq⟩]
        have tI_ := CS.dI C208 ⟨(isPP hi), pu_eq⟩
        refine w_iret hK rfl rfl ?_
        exact ⟨rfl, ⟨_, u_, l_, z_, C208, (ES.keep E ((S208 18 (notP rfl)).trans ((S207 18 (notP rfl)).trans (((fun a (na_ : a ≠ 140) => (congrFun u206 a).trans (up_row na_)) 18 (by decide)).trans (F205 18 (by decide) (by decide) (by decide)))))), (PLs.put hpl pu_eq ((fitS_dg (rcz k tx n).2.1 (rcz k tx n).2.2.1 (rcz k tx n).2.2.2).2.mono (by omega)) (fun q_ hq_ hn_ => ((pu_ne (P := P207) (f := (fitS (k := k) (rcz k tx n).2.1 (rcz k tx n).2.2.1 (rcz k tx n).2.2.2).1) (show (149 + 2 * (q_ : Int)) ≠ (149 + 2 * (i : Int)) by omega)).trans (F207 (149 + 2 * (q_ : Int)) (by omega) (by omega) (by omega) (by omega) (by omega))))), (TXs.keep (TXs.cut (TXs.mk2 T h3_ (F205 141 (by decide) (by decide) (by decide))) (by decide) (by omega) ((congrFun (congrFun u206 140) 3).trans up_eq) ((congrFun u206 141).trans (up_row (by decide)))) ((S208 140 (notP rfl)).trans (S207 140 (notP rfl))) ((S208 141 (notP rfl)).trans (S207 141 (notP rfl)))), (RWs.keep hR ((S208 0 (notP rfl)).trans ((S207 0 (notP rfl)).trans (((fun a (na_ : a ≠ 140) => (congrFun u206 a).trans (up_row na_)) 0 (by decide)).trans (F205 0 (by decide) (by decide) (by decide))))) ((S208 144 (notP rfl)).trans ((S207 144 (notP rfl)).trans (((fun a (na_ : a ≠ 140) => (congrFun u206 a).trans (up_row na_)) 144 (by decide)).trans (F205 144 (by decide) (by decide) (by decide)))))), (FCs.keep hF ((S208 52 (notP rfl)).trans ((S207 52 (notP rfl)).trans (((fun a (na_ : a ≠ 140) => (congrFun u206 a).trans (up_row na_)) 52 (by decide)).trans (F205 52 (by decide) (by decide) (by decide))))) (fun q_ hq_ => ((pu_ne (P := P207) (f := (fitS (k := k) (rcz k tx n).2.1 (rcz k tx n).2.2.1 (rcz k tx n).2.2.2).1) (show (68 + 6 * (q_ : Int)) ≠ (149 + 2 * (i : Int)) by omega)).trans (F207 (68 + 6 * (q_ : Int)) (by omega) (by omega) (by omega) (by omega) (by omega)))))⟩, (fun a h_ => ((S208 a (npC h_)).trans ((S207 a (npC h_)).trans (((fun a (na_ : a ≠ 140) => (congrFun u206 a).trans (up_row na_)) a (by omega)).trans (F205 a (by omega) (by omega) (by omega))))))⟩
      · exfalso; omega
    · exfalso; omega
  · exfalso; omega
set_option maxRecDepth 100000 in
theorem x_fits {d : Nat} {M : Mem} {k : Nat} {pl : Nat → Pl k} {n : Int} {tx : Int → Int} {rc : Nat} {rw : Int → Int} {fc : Nat} {fa : Nat → Pl k} (H : CLS M k pl n tx rc rw fc fa) (i : Nat) (hi : i < 6) (hf_ : (rcz k tx n).1 < 0) (hok_ : ¬ ∀ i : Nat, i < (rcz k tx n).2.2.2 → fitOk k (rcz k tx n).2.1 (rcz k tx n).2.2.1 i) : Ct 198 (d + 8) 160 [(1, 0), (0, (i : Int))] M (fun r_ M' => r_ = (0, (-3)) ∧ CLS M' k pl 0 (txC tx 0) rc rw fc fa ∧ (∀ a : Int, (a < 0 ∨ 160 < a) → M' a = M a)) := by
  have hK : cd 160 = k160 := rfl
  obtain ⟨P, u_, l_, z_, C, E, hpl, T, hR, hF⟩ := H
  have q1_ := qq_I k
  have p1_ := pp_I k
  have m1_ := mm_I k
  have bi_ := (hpl i hi).2
  have di_ := dg_lt9 bi_
  have tn_ := T.1.2
  show Wp 198 _ 160 0 [(1, 0), (0, (i : Int)), (3, 0), (3, 0)] [] M _
  refine w_al hK rfl rfl ?_
  refine w_getr (n := 9) (v := 140) hK rfl rfl (by decide) (by decide) rfl rfl rfl rfl ?_
  refine w_al hK rfl rfl ?_
  refine w_getr (n := 0) (v := 1) hK rfl rfl (by decide) (by decide) rfl rfl rfl rfl ?_
  refine w_geti (n := 1) (m := 1) hK rfl rfl (by decide) (by decide) rfl rfl rfl rfl ?_
  rw [show M 1 1 = (qq k : Int) from C.F.q]
  refine w_call [(1, 140), (0, (qq k : Int))] hK rfl rfl rfl rfl (Or.inr ⟨_, _, _, rfl, by decide, (by decide), rfl⟩) (c_rcz (k := k) T) ?_
  rintro _ V209 ⟨pt_, wt_, rfl, hz_, h3_, F209⟩
  have rI_ := rcs_I T (q := (qq k : Int)) (by omega) 6 0 0 (fun _ => 0) (fun _ => 0) rfl (by omega) (by omega)
  change -1 ≤ (rcz k tx n).1 ∧ (rcz k tx n).1 ≤ 44 at rI_
  obtain ⟨hc6_, h4_, h142_, h143_, hn1_, hn2_, hpw_⟩ := hz_ (by omega)
  refine ⟨(by show (0 : Nat) ≠ 9; decide), (?_ : Wp 198 _ 160 6 [(1, 0), (0, (i : Int)), (3, 0), (3, 0)] [(0, (rcz k tx n).1)] V209 _)⟩
  refine w_is [(1, 0), (0, (i : Int)), (0, (rcz k tx n).1), (3, 0)] hK rfl rfl rfl ?_
  refine w_al hK rfl rfl ?_
  refine w_getr (n := 9) (v := 140) hK rfl rfl (by decide) (by decide) rfl rfl rfl rfl ?_
  refine w_call [(1, 140)] hK rfl rfl rfl rfl (Or.inr ⟨_, _, _, rfl, by decide, (by decide), rfl⟩) (c_tclr2) ?_
  rintro _ V210 ⟨rfl, u210⟩
  refine ⟨by decide, (?_ : Wp 198 _ 160 10 [(1, 0), (0, (i : Int)), (0, (rcz k tx n).1), (3, 0)] [] V210 _)⟩
  refine w_il hK rfl rfl ?_
  refine w_lt hK rfl (by omega) (by omega) (fun h11 => ?_) (fun h11 => ?_)
  · refine w_al hK rfl rfl ?_
    refine w_il hK rfl rfl ?_
    refine w_call [(1, 0), (0, (i : Int))] hK rfl rfl rfl rfl (Or.inr ⟨_, _, _, rfl, by decide, (by decide), rfl⟩) (c_pl i hi) ?_
    rintro _ Mq ⟨rfl, e_⟩
    subst Mq
    refine ⟨(by show (1 : Nat) ≠ 9; decide), (?_ : Wp 198 _ 160 19 [(1, 0), (0, (i : Int)), (0, (rcz k tx n).1), (3, 0)] [(1, (149 + 2 * (i : Int)))] V210 _)⟩
    refine w_as [(1, 0), (0, (i : Int)), (0, (rcz k tx n).1), (1, (149 + 2 * (i : Int)))] hK rfl rfl rfl ?_
    refine w_al hK rfl rfl ?_
    refine w_nonnull hK rfl (fun h21 => ?_) (fun h21 => ?_)
    · refine w_al hK rfl rfl ?_
      refine w_getr (n := 3) (v := 45) hK rfl rfl (by decide) (by decide) rfl rfl rfl rfl ?_
      refine w_al hK rfl rfl ?_
      refine w_getr (n := 9) (v := 140) hK rfl rfl (by decide) (by decide) rfl rfl rfl rfl ?_
      refine w_al hK rfl rfl ?_
      refine w_getr (n := 12) (v := 145) hK rfl rfl (by decide) (by decide) rfl rfl rfl rfl ?_
      refine w_call [(1, 45), (1, 140), (1, 145)] hK rfl rfl rfl rfl (Or.inr ⟨_, _, _, rfl, by decide, (by decide), rfl⟩) (c_fit (CS.congr (CS.congr C (fun a ha_ => F209 a (CSc_ne ha_ (by decide) (notP rfl)) (CSc_ne ha_ (by decide) (notP rfl)) (CSc_ne ha_ (by decide) (notP rfl)))) (fun a ha_ => (fun a (na_ : a ≠ 140) => (congrFun u210 a).trans (up_row na_)) a (CSc_ne ha_ (by decide) (notP rfl)))) (isP_of (p := 145) rfl) (by decide) (c := (rcz k tx n).2.2.2) (by omega) ((congrFun (congrFun u210 140) 4).trans ((up_ne2 (by decide)).trans h4_)) (((fun a (na_ : a ≠ 140) => (congrFun u210 a).trans (up_row na_)) 142 (by decide)).trans h142_) (((fun a (na_ : a ≠ 140) => (congrFun u210 a).trans (up_row na_)) 143 (by decide)).trans h143_) hn1_ hn2_) ?_
      rintro _ V211 ⟨P211, rfl, C211, S211, F211, f211⟩
      rw [bz_neg (fun q_ => hok_ ((fitOk_congr hpw_).mp q_))]
      refine ⟨(by show (0 : Nat) ≠ 9; decide), (?_ : Wp 198 _ 160 31 [(1, 0), (0, (i : Int)), (0, (rcz k tx n).1), (1, (149 + 2 * (i : Int)))] [(0, 0)] V211 _)⟩
      refine w_ne hK rfl (by omega) (by omega) (fun h31 => ?_) (fun h31 => ?_)
      · exfalso; omega
      · refine w_ic hK rfl ?_
        refine w_iret hK rfl rfl ?_
        exact ⟨rfl, ⟨_, u_, l_, z_, C211, (ES.keep E ((S211 18 (notP rfl)).trans (((fun a (na_ : a ≠ 140) => (congrFun u210 a).trans (up_row na_)) 18 (by decide)).trans (F209 18 (by decide) (by decide) (by decide))))), (PLs.keep hpl (fun q_ hq_ => (F211 (149 + 2 * (q_ : Int)) (by omega) (by omega) (by omega) (by omega) (by omega)))), (TXs.keep (TXs.cut (TXs.mk2 T h3_ (F209 141 (by decide) (by decide) (by decide))) (by decide) (by omega) ((congrFun (congrFun u210 140) 3).trans up_eq) ((congrFun u210 141).trans (up_row (by decide)))) (S211 140 (notP rfl)) (S211 141 (notP rfl))), (RWs.keep hR ((S211 0 (notP rfl)).trans (((fun a (na_ : a ≠ 140) => (congrFun u210 a).trans (up_row na_)) 0 (by decide)).trans (F209 0 (by decide) (by decide) (by decide)))) ((S211 144 (notP rfl)).trans (((fun a (na_ : a ≠ 140) => (congrFun u210 a).trans (up_row na_)) 144 (by decide)).trans (F209 144 (by decide) (by decide) (by decide))))), (FCs.keep hF ((S211 52 (notP rfl)).trans (((fun a (na_ : a ≠ 140) => (congrFun u210 a).trans (up_row na_)) 52 (by decide)).trans (F209 52 (by decide) (by decide) (by decide)))) (fun q_ hq_ => (F211 (68 + 6 * (q_ : Int)) (by omega) (by omega) (by omega) (by omega) (by omega))))⟩, (fun a h_ => ((S211 a (npC h_)).trans (((fun a (na_ : a ≠ 140) => (congrFun u210 a).trans (up_row na_)) a (by omega)).trans (F209 a (by omega) (by omega) (by omega)))))⟩
    · exfalso; omega
  · exfalso; omega
set_option maxRecDepth 100000 in
theorem z_fits {d : Nat} {M : Mem} {k : Nat} {pl : Nat → Pl k} {n : Int} {tx : Int → Int} {rc : Nat} {rw : Int → Int} {fc : Nat} {fa : Nat → Pl k} (H : CLS M k pl n tx rc rw fc fa) (i : Int) (i1_ : -2147483648 ≤ i) (i2_ : i ≤ 2147483647) (hf_ : 0 ≤ (rcz k tx n).1) : Ct 198 (d + 8) 160 [(1, 0), (0, i)] M (fun r_ M' => r_ = (0, (-21 - (rcz k tx n).1)) ∧ CLS M' k pl 0 (txC tx 0) rc rw fc fa ∧ (∀ a : Int, (a < 0 ∨ 160 < a) → M' a = M a)) := by
  have hK : cd 160 = k160 := rfl
  obtain ⟨P, u_, l_, z_, C, E, hpl, T, hR, hF⟩ := H
  have q1_ := qq_I k
  have p1_ := pp_I k
  have m1_ := mm_I k
  have tn_ := T.1.2
  show Wp 198 _ 160 0 [(1, 0), (0, i), (3, 0), (3, 0)] [] M _
  refine w_al hK rfl rfl ?_
  refine w_getr (n := 9) (v := 140) hK rfl rfl (by decide) (by decide) rfl rfl rfl rfl ?_
  refine w_al hK rfl rfl ?_
  refine w_getr (n := 0) (v := 1) hK rfl rfl (by decide) (by decide) rfl rfl rfl rfl ?_
  refine w_geti (n := 1) (m := 1) hK rfl rfl (by decide) (by decide) rfl rfl rfl rfl ?_
  rw [show M 1 1 = (qq k : Int) from C.F.q]
  refine w_call [(1, 140), (0, (qq k : Int))] hK rfl rfl rfl rfl (Or.inr ⟨_, _, _, rfl, by decide, (by decide), rfl⟩) (c_rcz (k := k) T) ?_
  rintro _ V212 ⟨pt_, wt_, rfl, hz_, h3_, F212⟩
  have rI_ := rcs_I T (q := (qq k : Int)) (by omega) 6 0 0 (fun _ => 0) (fun _ => 0) rfl (by omega) (by omega)
  change -1 ≤ (rcz k tx n).1 ∧ (rcz k tx n).1 ≤ 44 at rI_
  refine ⟨(by show (0 : Nat) ≠ 9; decide), (?_ : Wp 198 _ 160 6 [(1, 0), (0, i), (3, 0), (3, 0)] [(0, (rcz k tx n).1)] V212 _)⟩
  refine w_is [(1, 0), (0, i), (0, (rcz k tx n).1), (3, 0)] hK rfl rfl rfl ?_
  refine w_al hK rfl rfl ?_
  refine w_getr (n := 9) (v := 140) hK rfl rfl (by decide) (by decide) rfl rfl rfl rfl ?_
  refine w_call [(1, 140)] hK rfl rfl rfl rfl (Or.inr ⟨_, _, _, rfl, by decide, (by decide), rfl⟩) (c_tclr2) ?_
  rintro _ V213 ⟨rfl, u213⟩
  refine ⟨by decide, (?_ : Wp 198 _ 160 10 [(1, 0), (0, i), (0, (rcz k tx n).1), (3, 0)] [] V213 _)⟩
  refine w_il hK rfl rfl ?_
  refine w_lt hK rfl (by omega) (by omega) (fun h11 => ?_) (fun h11 => ?_)
  · exfalso; omega
  · refine w_ic hK rfl ?_
    refine w_il hK rfl rfl ?_
    refine w_sub hK rfl (by omega) (by omega) ?_
    refine w_iret hK rfl rfl ?_
    exact ⟨rfl, ⟨_, u_, l_, z_, (CS.congr (CS.congr C (fun a ha_ => F212 a (CSc_ne ha_ (by decide) (notP rfl)) (CSc_ne ha_ (by decide) (notP rfl)) (CSc_ne ha_ (by decide) (notP rfl)))) (fun a ha_ => (fun a (na_ : a ≠ 140) => (congrFun u213 a).trans (up_row na_)) a (CSc_ne ha_ (by decide) (notP rfl)))), (ES.keep E (((fun a (na_ : a ≠ 140) => (congrFun u213 a).trans (up_row na_)) 18 (by decide)).trans (F212 18 (by decide) (by decide) (by decide)))), hpl, (TXs.cut (TXs.mk2 T h3_ (F212 141 (by decide) (by decide) (by decide))) (by decide) (by omega) ((congrFun (congrFun u213 140) 3).trans up_eq) ((congrFun u213 141).trans (up_row (by decide)))), (RWs.keep hR (((fun a (na_ : a ≠ 140) => (congrFun u213 a).trans (up_row na_)) 0 (by decide)).trans (F212 0 (by decide) (by decide) (by decide))) (((fun a (na_ : a ≠ 140) => (congrFun u213 a).trans (up_row na_)) 144 (by decide)).trans (F212 144 (by decide) (by decide) (by decide)))), (FCs.keep hF (((fun a (na_ : a ≠ 140) => (congrFun u213 a).trans (up_row na_)) 52 (by decide)).trans (F212 52 (by decide) (by decide) (by decide))) (fun q_ hq_ => rfl))⟩, (fun a h_ => (((fun a (na_ : a ≠ 140) => (congrFun u213 a).trans (up_row na_)) a (by omega)).trans (F212 a (by omega) (by omega) (by omega))))⟩
set_option maxRecDepth 100000 in
theorem n_fits {d : Nat} {M : Mem} {k : Nat} {pl : Nat → Pl k} {n : Int} {tx : Int → Int} {rc : Nat} {rw : Int → Int} {fc : Nat} {fa : Nat → Pl k} (H : CLS M k pl n tx rc rw fc fa) (i : Int) (i1_ : -2147483648 ≤ i) (i2_ : i ≤ 2147483647) (hf_ : (rcz k tx n).1 < 0) (hn : ¬ (0 ≤ i ∧ i < 6)) : Ct 198 (d + 8) 160 [(1, 0), (0, i)] M (fun r_ M' => r_ = (0, (-100)) ∧ CLS M' k pl 0 (txC tx 0) rc rw fc fa ∧ (∀ a : Int, (a < 0 ∨ 160 < a) → M' a = M a)) := by
  have hK : cd 160 = k160 := rfl
  obtain ⟨P, u_, l_, z_, C, E, hpl, T, hR, hF⟩ := H
  have q1_ := qq_I k
  have p1_ := pp_I k
  have m1_ := mm_I k
  have tn_ := T.1.2
  show Wp 198 _ 160 0 [(1, 0), (0, i), (3, 0), (3, 0)] [] M _
  refine w_al hK rfl rfl ?_
  refine w_getr (n := 9) (v := 140) hK rfl rfl (by decide) (by decide) rfl rfl rfl rfl ?_
  refine w_al hK rfl rfl ?_
  refine w_getr (n := 0) (v := 1) hK rfl rfl (by decide) (by decide) rfl rfl rfl rfl ?_
  refine w_geti (n := 1) (m := 1) hK rfl rfl (by decide) (by decide) rfl rfl rfl rfl ?_
  rw [show M 1 1 = (qq k : Int) from C.F.q]
  refine w_call [(1, 140), (0, (qq k : Int))] hK rfl rfl rfl rfl (Or.inr ⟨_, _, _, rfl, by decide, (by decide), rfl⟩) (c_rcz (k := k) T) ?_
  rintro _ V214 ⟨pt_, wt_, rfl, hz_, h3_, F214⟩
  have rI_ := rcs_I T (q := (qq k : Int)) (by omega) 6 0 0 (fun _ => 0) (fun _ => 0) rfl (by omega) (by omega)
  change -1 ≤ (rcz k tx n).1 ∧ (rcz k tx n).1 ≤ 44 at rI_
  refine ⟨(by show (0 : Nat) ≠ 9; decide), (?_ : Wp 198 _ 160 6 [(1, 0), (0, i), (3, 0), (3, 0)] [(0, (rcz k tx n).1)] V214 _)⟩
  refine w_is [(1, 0), (0, i), (0, (rcz k tx n).1), (3, 0)] hK rfl rfl rfl ?_
  refine w_al hK rfl rfl ?_
  refine w_getr (n := 9) (v := 140) hK rfl rfl (by decide) (by decide) rfl rfl rfl rfl ?_
  refine w_call [(1, 140)] hK rfl rfl rfl rfl (Or.inr ⟨_, _, _, rfl, by decide, (by decide), rfl⟩) (c_tclr2) ?_
  rintro _ V215 ⟨rfl, u215⟩
  refine ⟨by decide, (?_ : Wp 198 _ 160 10 [(1, 0), (0, i), (0, (rcz k tx n).1), (3, 0)] [] V215 _)⟩
  refine w_il hK rfl rfl ?_
  refine w_lt hK rfl (by omega) (by omega) (fun h11 => ?_) (fun h11 => ?_)
  · refine w_al hK rfl rfl ?_
    refine w_il hK rfl rfl ?_
    refine w_call [(1, 0), (0, i)] hK rfl rfl rfl rfl (Or.inr ⟨_, _, _, rfl, by decide, (by decide), rfl⟩) (c_plI i (by omega) (by omega)) ?_
    rintro _ Mq ⟨rfl, e_⟩
    subst Mq
    have pI_ := plr_I i
    refine ⟨(by show (1 : Nat) ≠ 9; decide), (?_ : Wp 198 _ 160 19 [(1, 0), (0, i), (0, (rcz k tx n).1), (3, 0)] [(1, (plr i))] V215 _)⟩
    refine w_as [(1, 0), (0, i), (0, (rcz k tx n).1), (1, (plr i))] hK rfl rfl rfl ?_
    refine w_al hK rfl rfl ?_
    refine w_nonnull hK rfl (fun h21 => ?_) (fun h21 => ?_)
    · exfalso; omega
    · refine w_ic hK rfl ?_
      refine w_iret hK rfl rfl ?_
      exact ⟨rfl, ⟨_, u_, l_, z_, (CS.congr (CS.congr C (fun a ha_ => F214 a (CSc_ne ha_ (by decide) (notP rfl)) (CSc_ne ha_ (by decide) (notP rfl)) (CSc_ne ha_ (by decide) (notP rfl)))) (fun a ha_ => (fun a (na_ : a ≠ 140) => (congrFun u215 a).trans (up_row na_)) a (CSc_ne ha_ (by decide) (notP rfl)))), (ES.keep E (((fun a (na_ : a ≠ 140) => (congrFun u215 a).trans (up_row na_)) 18 (by decide)).trans (F214 18 (by decide) (by decide) (by decide)))), hpl, (TXs.cut (TXs.mk2 T h3_ (F214 141 (by decide) (by decide) (by decide))) (by decide) (by omega) ((congrFun (congrFun u215 140) 3).trans up_eq) ((congrFun u215 141).trans (up_row (by decide)))), (RWs.keep hR (((fun a (na_ : a ≠ 140) => (congrFun u215 a).trans (up_row na_)) 0 (by decide)).trans (F214 0 (by decide) (by decide) (by decide))) (((fun a (na_ : a ≠ 140) => (congrFun u215 a).trans (up_row na_)) 144 (by decide)).trans (F214 144 (by decide) (by decide) (by decide)))), (FCs.keep hF (((fun a (na_ : a ≠ 140) => (congrFun u215 a).trans (up_row na_)) 52 (by decide)).trans (F214 52 (by decide) (by decide) (by decide))) (fun q_ hq_ => rfl))⟩, (fun a h_ => (((fun a (na_ : a ≠ 140) => (congrFun u215 a).trans (up_row na_)) a (by omega)).trans (F214 a (by omega) (by omega) (by omega))))⟩
  · exfalso; omega
set_option maxRecDepth 100000 in
theorem n_field {d : Nat} {M : Mem} {k : Nat} {pl : Nat → Pl k} {n : Int} {tx : Int → Int} {rc : Nat} {rw : Int → Int} {fc : Nat} {fa : Nat → Pl k} (H : CLS M k pl n tx rc rw fc fa) (x : Int) (x1_ : -2147483648 ≤ x) (x2_ : x ≤ 2147483647) (hn : ¬ (0 ≤ x ∧ x < 4)) : Ct 198 (d + 8) 123 [(1, 0), (0, x)] M (fun r_ M' => r_ = (0, -1) ∧ M' = M) := by
  have hK : cd 123 = k123 := rfl
  obtain ⟨P, u_, l_, z_, C, E, hpl, T, hR, hF⟩ := H
  have q1_ := qq_I k
  have p1_ := pp_I k
  have m1_ := mm_I k
  show Wp 198 _ 123 0 [(1, 0), (0, x), (3, 0), (3, 0)] [] M _
  refine w_il hK rfl rfl ?_
  refine w_call [(0, x)] hK rfl rfl rfl rfl (Or.inl rfl) (c_isk x (by omega) (by omega)) ?_
  rintro _ Mq ⟨rfl, e_⟩
  subst Mq
  refine ⟨by show (0 : Nat) ≠ 9; decide, (?_ : Wp 198 _ 123 2 [(1, 0), (0, x), (3, 0), (3, 0)] [(0, (if 0 ≤ x ∧ x < 4 then 1 else 0))] M _)⟩
  have tI_ := ite01 (0 ≤ x ∧ x < 4)
  refine w_ne hK rfl (by omega) (by omega) (fun h2 => ?_) (fun h2 => ?_)
  · exfalso; omega
  · refine w_ic hK rfl ?_
    refine w_iret hK rfl rfl ?_
    exact ⟨rfl, rfl⟩
set_option maxRecDepth 100000 in
theorem y_field {d : Nat} {M : Mem} {k : Nat} {pl : Nat → Pl k} {n : Int} {tx : Int → Int} {rc : Nat} {rw : Int → Int} {fc : Nat} {fa : Nat → Pl k} (H : CLS M k pl n tx rc rw fc fa) (x : Int) (hx : x = (k : Int)) (hk_ : k < 4) : Ct 198 (d + 8) 123 [(1, 0), (0, x)] M (fun r_ M' => r_ = (0, -2) ∧ M' = M) := by
  have hK : cd 123 = k123 := rfl
  obtain ⟨P, u_, l_, z_, C, E, hpl, T, hR, hF⟩ := H
  have q1_ := qq_I k
  have p1_ := pp_I k
  have m1_ := mm_I k
  have k4_ := C.F.1
  show Wp 198 _ 123 0 [(1, 0), (0, x), (3, 0), (3, 0)] [] M _
  refine w_il hK rfl rfl ?_
  refine w_call [(0, x)] hK rfl rfl rfl rfl (Or.inl rfl) (c_isk x (by omega) (by omega)) ?_
  rintro _ Mq ⟨rfl, e_⟩
  subst Mq
  refine ⟨by show (0 : Nat) ≠ 9; decide, (?_ : Wp 198 _ 123 2 [(1, 0), (0, x), (3, 0), (3, 0)] [(0, (if 0 ≤ x ∧ x < 4 then 1 else 0))] M _)⟩
  have tI_ := ite01 (0 ≤ x ∧ x < 4)
  refine w_ne hK rfl (by omega) (by omega) (fun h2 => ?_) (fun h2 => ?_)
  · refine w_il hK rfl rfl ?_
    refine w_al hK rfl rfl ?_
    refine w_getr (n := 0) (v := 1) hK rfl rfl (by decide) (by decide) rfl rfl rfl rfl ?_
    refine w_geti (n := 0) (m := 0) hK rfl rfl (by decide) (by decide) rfl rfl rfl rfl ?_
    rw [show M 1 0 = (k : Int) from C.F.2.1.1]
    refine w_ne2 hK rfl (by omega) (by omega) (by omega) (by omega) (fun h9 => ?_) (fun h9 => ?_)
    · exfalso; omega
    · refine w_ic hK rfl ?_
      refine w_iret hK rfl rfl ?_
      exact ⟨rfl, rfl⟩
  · exfalso; omega
set_option maxRecDepth 100000 in
theorem o_field {d : Nat} {M : Mem} {k : Nat} {pl : Nat → Pl k} {n : Int} {tx : Int → Int} {rc : Nat} {rw : Int → Int} {fc : Nat} {fa : Nat → Pl k} (H : CLS M k pl n tx rc rw fc fa) (k2 : Nat) (hk2 : k2 < 4) (hne : (k2 : Int) ≠ (k : Int)) : Ct 198 (d + 8) 123 [(1, 0), (0, (k2 : Int))] M (fun r_ M' => r_ = (0, (qq k2 : Int)) ∧ CLS M' k2 (fun _ => pz) n tx rc rw 0 (fun _ => (pz : Pl k2)) ∧ (∀ a : Int, (a < 0 ∨ 160 < a) → M' a = M a)) := by
  have hK : cd 123 = k123 := rfl
  obtain ⟨P, u_, l_, z_, C, E, hpl, T, hR, hF⟩ := H
  have q1_ := qq_I k
  have p1_ := pp_I k
  have m1_ := mm_I k
  have k4_ := C.F.1
  show Wp 198 _ 123 0 [(1, 0), (0, (k2 : Int)), (3, 0), (3, 0)] [] M _
  refine w_il hK rfl rfl ?_
  refine w_call [(0, (k2 : Int))] hK rfl rfl rfl rfl (Or.inl rfl) (c_isk (k2 : Int) (by omega) (by omega)) ?_
  rintro _ Mq ⟨rfl, e_⟩
  subst Mq
  refine ⟨by show (0 : Nat) ≠ 9; decide, (?_ : Wp 198 _ 123 2 [(1, 0), (0, (k2 : Int)), (3, 0), (3, 0)] [(0, (if 0 ≤ (k2 : Int) ∧ (k2 : Int) < 4 then 1 else 0))] M _)⟩
  have tI_ := ite01 (0 ≤ (k2 : Int) ∧ (k2 : Int) < 4)
  refine w_ne hK rfl (by omega) (by omega) (fun h2 => ?_) (fun h2 => ?_)
  · refine w_il hK rfl rfl ?_
    refine w_al hK rfl rfl ?_
    refine w_getr (n := 0) (v := 1) hK rfl rfl (by decide) (by decide) rfl rfl rfl rfl ?_
    refine w_geti (n := 0) (m := 0) hK rfl rfl (by decide) (by decide) rfl rfl rfl rfl ?_
    rw [show M 1 0 = (k : Int) from C.F.2.1.1]
    refine w_ne2 hK rfl (by omega) (by omega) (by omega) (by omega) (fun h9 => ?_) (fun h9 => ?_)
    · refine w_al hK rfl rfl ?_
      refine w_getr (n := 0) (v := 1) hK rfl rfl (by decide) (by decide) rfl rfl rfl rfl ?_
      refine w_il hK rfl rfl ?_
      refine w_call [(1, 1), (0, (k2 : Int))] hK rfl rfl rfl rfl (Or.inr ⟨_, _, _, rfl, by decide, (by decide), rfl⟩) (c_bec_ hk2 C.F.h50) ?_
      rintro _ V216 ⟨rfl, hFS_, F216⟩
      refine ⟨by decide, (?_ : Wp 198 _ 123 16 [(1, 0), (0, (k2 : Int)), (3, 0), (3, 0)] [] V216 _)⟩
      refine w_al hK rfl rfl ?_
      refine w_getr (n := 4) (v := 52) hK rfl rfl (by decide) (by decide) rfl rfl rfl rfl ?_
      refine w_call [(1, 52)] hK rfl rfl rfl rfl (Or.inr ⟨_, _, _, rfl, by decide, (by decide), rfl⟩) (c_forget) ?_
      rintro _ V217 ⟨rfl, h9_, F217⟩
      have hCf_ : CS V217 k2 (fun _ => none) := CS.fresh C (hFS_.congr (fun x_ h1_ h2_ => F217 x_ (by omega))) (fun p_ hp_ => by
        have w1_ := isP_52 hp_
        have w2_ := hp_.1
        exact ⟨(F217 p_ w1_.1).trans (F216 p_ (by omega) (by omega) (by omega) (by omega) (by omega) (by omega)), (F217 (p_ + 1) w1_.2).trans (F216 (p_ + 1) (by omega) (by omega) (by omega) (by omega) (by omega) (by omega))⟩)
      refine ⟨by decide, (?_ : Wp 198 _ 123 19 [(1, 0), (0, (k2 : Int)), (3, 0), (3, 0)] [] V217 _)⟩
      refine w_ic hK rfl ?_
      refine w_is [(1, 0), (0, (k2 : Int)), (0, 0), (3, 0)] hK rfl rfl rfl ?_
      have lp21 : ∀ (n_ : Nat) (a : Nat) (P1 : Int → Option (Pl k2)) (w3 : AV) (N21 : Mem), 7 - a = n_ → (a ≤ 6) → (CS N21 k2 P1) → (∀ j_ : Nat, j_ < a → P1 (149 + 2 * (j_ : Int)) = some pz) → ((∀ a : Int, (∀ p : Int, isP p → a ≠ p ∧ a ≠ p + 1) → N21 a = V217 a)) → Wp 198 (d + 8) 123 21 [(1, 0), (0, (k2 : Int)), (0, (a : Int)), w3] [] N21 (fun r_ M' => r_ = (0, (qq k2 : Int)) ∧ CLS M' k2 (fun _ => pz) n tx rc rw 0 (fun _ => (pz : Pl k2)) ∧ (∀ a : Int, (a < 0 ∨ 160 < a) → M' a = M a)) := by
        intro n_
        induction n_ using Nat.strongRecOn with
        | _ n_ ih21 =>
        intro a P1 w3 N21 hm21 ha hC hz hS
        refine w_il hK rfl rfl ?_
        refine w_al hK rfl rfl ?_
        refine w_getr (n := 8) (v := 139) hK rfl rfl (by decide) (by decide) rfl rfl rfl rfl ?_
        refine w_len hK rfl rfl (by decide) (by decide) rfl ?_
        refine w_ge2 hK rfl (by omega) (by omega) (by omega) (by omega) (fun h25 => ?_) (fun h25 => ?_)
        · refine w_al hK rfl rfl ?_
          refine w_getr (n := 0) (v := 1) hK rfl rfl (by decide) (by decide) rfl rfl rfl rfl ?_
          refine w_geti (n := 1) (m := 1) hK rfl rfl (by decide) (by decide) rfl rfl rfl rfl ?_
          rw [show N21 1 1 = (qq k2 : Int) from hC.F.q]
          refine w_iret hK rfl rfl ?_
          exact ⟨rfl, ⟨P1, u_, l_, z_, hC, (ES.keep E ((hS 18 (notP rfl)).trans ((F217 18 (by decide)).trans (F216 18 (by decide) (by decide) (by decide) (by decide) (by decide) (by decide))))), fun q_ hq_ => ⟨hz q_ (by omega), fun _ _ => rfl⟩, (TXs.keep T ((hS 140 (notP rfl)).trans ((F217 140 (by decide)).trans (F216 140 (by decide) (by decide) (by decide) (by decide) (by decide) (by decide)))) ((hS 141 (notP rfl)).trans ((F217 141 (by decide)).trans (F216 141 (by decide) (by decide) (by decide) (by decide) (by decide) (by decide))))), (RWs.keep hR ((hS 0 (notP rfl)).trans ((F217 0 (by decide)).trans (F216 0 (by decide) (by decide) (by decide) (by decide) (by decide) (by decide)))) ((hS 144 (notP rfl)).trans ((F217 144 (by decide)).trans (F216 144 (by decide) (by decide) (by decide) (by decide) (by decide) (by decide))))), ⟨((congrFun (hS 52 (notP rfl)) 9).trans h9_), by decide, fun q_ hq_ => by omega⟩⟩, (fun a h_ => ((hS a (npC h_)).trans ((F217 a (by omega)).trans (F216 a (by omega) (by omega) (by omega) (by omega) (by omega) (by omega)))))⟩
        · refine w_al hK rfl rfl ?_
          refine w_il hK rfl rfl ?_
          refine w_call [(1, 0), (0, (a : Int))] hK rfl rfl rfl rfl (Or.inr ⟨_, _, _, rfl, by decide, (by decide), rfl⟩) (c_pl a (by omega)) ?_
          rintro _ Mq ⟨rfl, e_⟩
          subst Mq
          refine ⟨(by show (1 : Nat) ≠ 9; decide), (?_ : Wp 198 _ 123 29 [(1, 0), (0, (k2 : Int)), (0, (a : Int)), w3] [(1, (149 + 2 * (a : Int)))] N21 _)⟩
          refine w_as [(1, 0), (0, (k2 : Int)), (0, (a : Int)), (1, (149 + 2 * (a : Int)))] hK rfl rfl rfl ?_
          refine w_al hK rfl rfl ?_
          refine w_null hK rfl (fun h31 => ?_) (fun h31 => ?_)
          · exfalso; omega
          · refine w_al hK rfl rfl ?_
            refine w_call [(1, (149 + 2 * (a : Int)))] hK rfl rfl rfl rfl (Or.inr ⟨_, _, _, rfl, (isPP (i := a) (by omega)).nn, (isPP (i := a) (by omega)).lb, (isPP (i := a) (by omega)).o⟩) (c_clear hC (isPP (i := a) (by omega))) ?_
            rintro _ V218 ⟨rfl, C218, S218⟩
            refine ⟨by decide, (?_ : Wp 198 _ 123 34 [(1, 0), (0, (k2 : Int)), (0, (a : Int)), (1, (149 + 2 * (a : Int)))] [] V218 _)⟩
            refine w_inc [(1, 0), (0, (k2 : Int)), (0, ((a : Int) + 1)), (1, (149 + 2 * (a : Int)))] hK rfl rfl rfl (by omega) (by omega) rfl ?_
            refine w_goto hK rfl ?_
            exact ih21 _ (by omega) (a + 1) _ (1, (149 + 2 * (a : Int))) V218 rfl (by omega) C218 (fun j_ hj_ => by
              by_cases q_ : j_ = a
              · rw [q_]; exact pu_eq
              · rw [pu_ne (by omega)]; exact hz j_ (by omega)) (fun a np_ => ((S218 a np_).trans (hS a np_)))
      exact lp21 _ 0 _ (3, 0) V217 rfl (by omega) hCf_ (fun j_ hj_ => by omega) (fun a np_ => rfl)
    · exfalso; omega
  · exfalso; omega
