/-! likes, by numbers */ -/
theorem vc_bnp {k c : Nat} (h : c < qq k * qq k) : vc (k := k) c = bnp 2 c := by
  funext j
  show (if j = 1 then el k (c / qq k) else if j = 0 then el k (c % qq k) else z0) = if j < 2 then el k (c / qq k ^ j % qq k) else z0
  by_cases h1 : j = 1
  · rw [if_pos h1, if_pos (by omega), h1, Nat.pow_one]
    exact Fin.ext (by show c / qq k % qq k = c / qq k % qq k % qq k; rw [Nat.mod_mod])
  · rw [if_neg h1]
    by_cases h0 : j = 0
    · rw [if_pos h0, if_pos (by omega), h0, Nat.pow_zero, Nat.div_one]
    · rw [if_neg h0, if_neg (by omega)]
theorem vc_bnp1 {k c : Nat} (h : c < qq k) : vc (k := k) c = bnp 1 c := by
  funext j
  show (if j = 1 then el k (c / qq k) else if j = 0 then el k (c % qq k) else z0) = if j < 1 then el k (c / qq k ^ j % qq k) else z0
  by_cases h1 : j = 1
  · rw [if_pos h1, if_neg (by omega), Nat.div_eq_of_lt h]
    rfl
  · rw [if_neg h1]
    by_cases h0 : j = 0
    · rw [if_pos h0, if_pos (by omega), h0, Nat.pow_zero, Nat.div_one]
    · rw [if_neg h0, if_neg (by omega)]
theorem bnp_pz {k n a : Nat} (ha : a < unq k n) : bnp (k := k) n a = pz ↔ a = 0 := by
  constructor
  · intro e
    have w := cdp_bnp (k := k) ha
    rw [e, cdp_pz] at w
    exact w.symm
  · intro e
    have e2 : (pz : Pl k) = bnp n (cdp (pz : Pl k) n) := bnp_cdp (fun _ _ => rfl)
    rw [cdp_pz] at e2
    rw [e]
    exact e2.symm
theorem pz_at {k n : Nat} {f : Pl k} (hf : Bd f n) : f = pz ↔ ∀ j : Nat, j < n → f j = z0 := by
  constructor
  · intro e j _
    rw [e]
    rfl
  · intro h
    funext j
    by_cases q : j < n
    · exact h j q
    · exact hf j (by omega)
theorem dgn_val {k c r : Nat} : (el k (dgn (qq k) c r)).val = dgn (qq k) c r := Nat.mod_eq_of_lt (dgq_lt k c r)
/-- one number: its B -/
theorem LK_1 {k c : Nat} {A : Pl k} (hA : IsDg A ((1 : Nat) : Int)) (hc : c < unq k 1) : LK A (mnp 1 c) 1 ↔ MKd A 1 (qq k) (c : Int) := by
  have hq : unq k 1 = qq k := by unfold unq; rw [Nat.pow_one]
  rw [hq] at hc
  have hd : dgn (qq k) c 0 = c := by show c / qq k ^ 0 % qq k = c; rw [Nat.pow_zero, Nat.div_one, Nat.mod_eq_of_lt hc]
  have hin : ∀ V : Pl k, Bd V 1 → (InL (mlp (mnp 1 c) V) A ↔ ad (sT A V 0) (ml (el k c) (V 0)) = z0) := fun V hV => by
    have hs : Bd (sT A V) 1 := dr_bd 0 hA (Bd_t hV)
    have l := lin_V hA hV e1 (el k (dgn (qq k) c 0))
    rw [show adp (mono e1 1) (cst (el k (dgn (qq k) c 0))) = mnp 1 c from mnp_1.symm] at l
    have hb : Bd (adp (scl e1 (sT A V)) (scl (el k (dgn (qq k) c 0)) V)) 1 := Bd_adp' (scl_b hs) (scl_b hV)
    rw [in_iff (m := 2 + 1) hA (Bd_mlp mnp_bd hV) hb l, pz_at hb, hd]
    constructor
    · intro h
      have w := h 0 (by decide)
      have w2 : ad (ml e1 (sT A V 0)) (ml (el k c) (V 0)) = z0 := w
      rw [one_ml] at w2
      exact w2
    · intro h j hj
      rw [show j = 0 by omega]
      show ad (ml e1 (sT A V 0)) (ml (el k c) (V 0)) = z0
      rw [one_ml]
      exact h
  have hv : ∀ V : Pl k, V 0 ≠ z0 → (kcL A V = (c : Int) ↔ ad (sT A V 0) (ml (el k c) (V 0)) = z0) := fun V h0 => by
    unfold kcL
    have hcv : ∀ x : El k, ((x.val : Int) = (c : Int)) ↔ x = el k c := fun x => ⟨fun q => Fin.ext (by show x.val = c % qq k; rw [Nat.mod_eq_of_lt hc]; omega), fun q => by rw [q]; show ((c % qq k : Nat) : Int) = _; rw [Nat.mod_eq_of_lt hc]⟩
    rw [hcv]
    constructor
    · intro e
      rw [← e, ng_ml, ml_assoc, ml_comm (iv (V 0)), ml_iv _ h0, ml_one, ad_neg]
    · intro e
      have e2 := ng_uniq _ _ e
      have e3 : ml (ml (el k c) (V 0)) (iv (V 0)) = ml (ng (sT A V 0)) (iv (V 0)) := by rw [e2]
      rw [ml_assoc, ml_iv _ h0, ml_one, ng_ml] at e3
      exact e3.symm
  constructor
  · rintro ⟨V, v1, v2, v3⟩
    have e := bnp_cdp v1
    have l := cdp_lt V 1
    rw [hq] at l
    have hne := cop_ne hA (by decide) v3
    have h0 : V 0 ≠ z0 := fun q => hne ((pz_at v1).mpr (fun j hj => by rw [show j = 0 by omega]; exact q))
    refine ⟨cdp V 1, ?_, l, ?_⟩
    · by_cases q : cdp V 1 = 0
      · rw [q, (bnp_pz (n := 1) (a := 0) (unq_pos k 1)).mpr rfl] at e
        exact absurd e hne
      · omega
    · unfold kc
      rw [if_pos rfl, vc_bnp1 l, ← e]
      exact (hv V h0).mpr ((hin V v1).mp v2)
  · rintro ⟨i, i1, i2, i3⟩
    unfold kc at i3
    rw [if_pos rfl, vc_bnp1 i2] at i3
    have hne : bnp (k := k) 1 i ≠ pz := fun q => by
      have := (bnp_pz (by rw [hq]; exact i2)).mp q
      omega
    have h0 : bnp (k := k) 1 i 0 ≠ z0 := fun q => hne ((pz_at bnp_bd).mpr (fun j hj => by rw [show j = 0 by omega]; exact q))
    refine ⟨bnp 1 i, bnp_bd, (hin _ bnp_bd).mpr ((hv _ h0).mp i3), Cop_comm.mp (Cop_const ⟨by decide, fun j hj => bnp_bd j (by omega), fun _ => h0⟩)⟩
theorem LK_2 {k c : Nat} {A : Pl k} (hA : IsDg A ((2 : Nat) : Int)) (hc : c < unq k 2) : LK A (mnp 2 c) 2 ↔ MKd A 2 (qq k * qq k) (c : Int) := by
  have hq : unq k 2 = qq k * qq k := by unfold unq; rw [Nat.pow_succ, Nat.pow_one]
  rw [hq] at hc
  have hd0 : dgn (qq k) c 0 = c % qq k := by show c / qq k ^ 0 % qq k = _; rw [Nat.pow_zero, Nat.div_one]
  have hd1 : dgn (qq k) c 1 = c / qq k := by
    show c / qq k ^ 1 % qq k = _
    rw [Nat.pow_one, Nat.mod_eq_of_lt (Nat.div_lt_of_lt_mul hc)]
  have hdm := Nat.div_add_mod c (qq k)
  generalize hb1 : el k (dgn (qq k) c 1) = b1
  generalize hb0 : el k (dgn (qq k) c 0) = b0
  have hv1 : b1.val = c / qq k := by rw [← hb1, dgn_val, hd1]
  have hv0 : b0.val = c % qq k := by rw [← hb0, dgn_val, hd0]
  have hB : mnp (k := k) 2 c = adp (mono e1 2) (adp (mono b1 1) (cst b0)) := by rw [mnp_2, hb1, hb0]
  have hin : ∀ V : Pl k, Bd V 2 → (InL (mlp (mnp 2 c) V) A ↔ ad (sT A (sT A V) 0) (ad (ml b1 (sT A V 0)) (ml b0 (V 0))) = z0 ∧ ad (sT A (sT A V) 1) (ad (ml b1 (sT A V 1)) (ml b0 (V 1))) = z0) := fun V hV => by
    have hs : Bd (sT A V) 2 := dr_bd 0 hA (Bd_t hV)
    have hss : Bd (sT A (sT A V)) 2 := dr_bd 0 hA (Bd_t hs)
    have l := quad_V hA hV b1 b0
    rw [← hB] at l
    have hb : Bd (adp (sT A (sT A V)) (adp (scl b1 (sT A V)) (scl b0 V))) 2 := Bd_adp' hss (Bd_adp' (scl_b hs) (scl_b hV))
    rw [in_iff (m := 3 + 2) hA (Bd_mlp mnp_bd hV) hb l, pz_at hb]
    constructor
    · intro h
      exact ⟨h 0 (by decide), h 1 (by decide)⟩
    · rintro ⟨h0, h1⟩ j hj
      rcases (show j = 0 ∨ j = 1 by omega) with q | q
      · rw [q]; exact h0
      · rw [q]; exact h1
  have hk : ∀ V : Pl k, crs (V 0) (V 1) (sT A V 0) (sT A V 1) ≠ z0 → (kcQ A V = (c : Int) ↔ crs (sT A (sT A V) 0) (sT A (sT A V) 1) (V 0) (V 1) = ml b1 (crs (V 0) (V 1) (sT A V 0) (sT A V 1)) ∧ crs (sT A V 0) (sT A V 1) (sT A (sT A V) 0) (sT A (sT A V) 1) = ml b0 (crs (V 0) (V 1) (sT A V 0) (sT A V 1))) := fun V hD => by
    unfold kcQ
    rw [if_neg hD]
    generalize crs (V 0) (V 1) (sT A V 0) (sT A V 1) = D at hD ⊢
    generalize crs (sT A (sT A V) 0) (sT A (sT A V) 1) (V 0) (V 1) = x
    generalize crs (sT A V 0) (sT A V 1) (sT A (sT A V) 0) (sT A (sT A V) 1) = y
    have e : ∀ x b : El k, ml x (iv D) = b ↔ x = ml b D := fun x b => ⟨fun q => by rw [← q, ml_assoc, ml_comm (iv D), ml_iv _ hD, ml_one], fun q => by rw [q, ml_assoc, ml_iv _ hD, ml_one]⟩
    rw [← e, ← e]
    have l0 := (ml y (iv D)).isLt
    have m0 := b0.isLt
    constructor
    · intro h
      have h2 : (ml x (iv D)).val * qq k + (ml y (iv D)).val = c := by
        have h3 : (((ml x (iv D)).val * qq k + (ml y (iv D)).val : Nat) : Int) = (c : Int) := by rw [Int.natCast_add, Int.natCast_mul]; exact h
        omega
      have h4 : c / qq k = (ml x (iv D)).val := by rw [← h2, Nat.mul_comm, Nat.mul_add_div (qq_pos k), Nat.div_eq_of_lt l0, Nat.add_zero]
      have h5 : c % qq k = (ml y (iv D)).val := by rw [← h2, Nat.mul_comm, Nat.mul_add_mod, Nat.mod_eq_of_lt l0]
      exact ⟨Fin.ext (by rw [hv1, h4]), Fin.ext (by rw [hv0, h5])⟩
    · rintro ⟨h1, h2⟩
      rw [h1, h2, hv1, hv0]
      have h3 : (((c / qq k) * qq k + c % qq k : Nat) : Int) = (c : Int) := by rw [Nat.mul_comm, hdm]
      rw [← h3, Int.natCast_add, Int.natCast_mul]
  constructor
  · rintro ⟨V, v1, v2, v3⟩
    have e := bnp_cdp v1
    have l := cdp_lt V 2
    rw [hq] at l
    have hne := cop_ne hA (by decide) v3
    have hs : Bd (sT A V) 2 := dr_bd 0 hA (Bd_t v1)
    -- no short one takes V to 0
    have short : ∀ c1 c0 : El k, ad (ml c1 (sT A V 0)) (ml c0 (V 0)) = z0 → ad (ml c1 (sT A V 1)) (ml c0 (V 1)) = z0 → c1 = z0 ∧ c0 = z0 := fun c1 c0 q0 q1 => by
      have hbx : Bd (adp (mono c1 1) (cst c0)) 2 := Bd_adp' (mono_bd c1 1) (fun j hj => if_neg (by omega))
      have hb : Bd (adp (scl c1 (sT A V)) (scl c0 V)) 2 := Bd_adp' (scl_b hs) (scl_b v1)
      have z : adp (scl c1 (sT A V)) (scl c0 V) = pz := (pz_at hb).mpr (fun j hj => by
        rcases (show j = 0 ∨ j = 1 by omega) with q | q
        · rw [q]; exact q0
        · rw [q]; exact q1)
      have li := lin_V hA v1 c1 c0
      have i1 : InL (mlp (adp (mono c1 1) (cst c0)) V) A := (in_iff hA (Bd_mlp hbx v1) hb li).mpr z
      have i2 := like_inj mnp_is hA v1 v2 v3 hbx i1
      have z2 : adp (mono c1 1) (cst c0) = pz := by
        have r := dr_low (s := 0) (x := adp (mono c1 1) (cst c0)) (mnp_is (k := k) (n := 2) (c := c)) hbx
        rw [← r.1]
        exact i2.lf mnp_is
      constructor
      · have w := congrFun z2 1
        have w2 : ad c1 z0 = z0 := w
        rw [ad_zero] at w2
        exact w2
      · have w := congrFun z2 0
        have w2 : ad z0 c0 = z0 := w
        rw [zero_ad] at w2
        exact w2
    have hD : crs (V 0) (V 1) (sT A V 0) (sT A V 1) ≠ z0 := fun q => by
      have q' := ng_eq0 q
      have a := short (V 0) (ng (sT A V 0)) (by rw [ng_ml, ml_comm (V 0), ad_neg]) (by rw [ng_ml, q', ml_comm (V 1), ad_neg])
      have b := short (V 1) (ng (sT A V 1)) (by rw [ng_ml, ← q', ml_comm (V 0), ad_neg]) (by rw [ng_ml, ml_comm (V 1), ad_neg])
      exact hne ((pz_at v1).mpr (fun j hj => by
        rcases (show j = 0 ∨ j = 1 by omega) with r | r
        · rw [r]; exact a.1
        · rw [r]; exact b.1))
    refine ⟨cdp V 2, ?_, l, ?_⟩
    · by_cases q : cdp V 2 = 0
      · rw [q, (bnp_pz (n := 2) (a := 0) (unq_pos k 2)).mpr rfl] at e
        exact absurd e hne
      · omega
    · unfold kc
      rw [if_neg (by decide), vc_bnp l, ← e]
      have w := (hin V v1).mp v2
      exact (hk V hD).mpr (crs_solve w.1 w.2)
  · rintro ⟨i, i1, i2, i3⟩
    unfold kc at i3
    rw [if_neg (by decide), vc_bnp i2] at i3
    generalize hV : bnp (k := k) 2 i = V at i3
    have v1 : Bd V 2 := by rw [← hV]; exact bnp_bd
    have hs : Bd (sT A V) 2 := dr_bd 0 hA (Bd_t v1)
    have hD : crs (V 0) (V 1) (sT A V 0) (sT A V 1) ≠ z0 := fun q => by
      unfold kcQ at i3
      rw [if_pos q] at i3
      omega
    have w := (hk V hD).mp i3
    refine ⟨V, v1, (hin V v1).mpr ?_, ?_⟩
    · refine crs_zero (x0 := ad (sT A (sT A V) 0) (ad (ml b1 (sT A V 0)) (ml b0 (V 0)))) (x1 := ad (sT A (sT A V) 1) (ad (ml b1 (sT A V 1)) (ml b0 (V 1)))) hD ?_ ?_
      · rw [crs_add, crs_add, crs_mul, crs_mul, crs_self, ml_zero, ad_zero, w.1, crs_neg (V 0) (V 1) (sT A V 0) (sT A V 1), ml_ng, ad_neg]
      · rw [crs_add, crs_add, crs_mul, crs_mul, crs_self, ml_zero, zero_ad, crs_neg (sT A V 0) (sT A V 1) (sT A (sT A V) 0) (sT A (sT A V) 1), w.2, ad_comm, ad_neg]
    · -- (c1 t + c0) V is 1
      generalize hE : crs (V 0) (V 1) (sT A V 0) (sT A V 1) = D at hD
      have li := lin_V hA v1 (ml (ng (V 1)) (iv D)) (ml (sT A V 1) (iv D))
      have one_ : adp (scl (ml (ng (V 1)) (iv D)) (sT A V)) (scl (ml (sT A V 1) (iv D)) V) = one := by
        have hb : Bd (adp (scl (ml (ng (V 1)) (iv D)) (sT A V)) (scl (ml (sT A V 1) (iv D)) V)) 2 := Bd_adp' (scl_b hs) (scl_b v1)
        funext j
        by_cases r0 : j = 0
        · rw [r0]
          show ad (ml (ml (ng (V 1)) (iv D)) (sT A V 0)) (ml (ml (sT A V 1) (iv D)) (V 0)) = e1
          have f1 : ml (ml (ng (V 1)) (iv D)) (sT A V 0) = ml (ng (ml (V 1) (sT A V 0))) (iv D) := by rw [ml_assoc, ml_comm (iv D), ← ml_assoc, ng_ml]
          have f2 : ml (ml (sT A V 1) (iv D)) (V 0) = ml (ml (V 0) (sT A V 1)) (iv D) := by rw [ml_comm, ← ml_assoc]
          rw [f1, f2, ← ad_ml, ad_comm, show ad (ml (V 0) (sT A V 1)) (ng (ml (V 1) (sT A V 0))) = D from hE, ml_iv _ hD]
        · by_cases r1 : j = 1
          · rw [r1]
            show ad (ml (ml (ng (V 1)) (iv D)) (sT A V 1)) (ml (ml (sT A V 1) (iv D)) (V 1)) = z0
            have f1 : ml (ml (ng (V 1)) (iv D)) (sT A V 1) = ng (ml (ml (sT A V 1) (iv D)) (V 1)) := by
              rw [ng_ml, ng_ml, ml_comm, ← ml_assoc, ml_assoc, ml_assoc, ml_comm (iv D)]
            rw [f1, ad_comm, ad_neg]
          · rw [hb j (by omega)]
            exact (if_neg r0).symm
      rw [one_] at li
      obtain ⟨q, m, hq', eq⟩ := li
      refine ⟨adp (mono (ml (ng (V 1)) (iv D)) 1) (cst (ml (sT A V 1) (iv D))), sbp pz q, 2 + m, (Bd_adp' (mono_bd _ 1) (fun j hj => if_neg (by omega)) : Bd _ 2).mono (by omega), (Bd_sbp (n := 0) (fun _ _ => rfl) hq').mono (by omega), ?_⟩
      rw [sbp_mlp, pz_mlp, ← eq]
      generalize mlp (adp (mono (ml (ng (V 1)) (iv D)) 1) (cst (ml (sT A V 1) (iv D)))) V = f
      funext j
      show ad (f j) (ad z0 (ng (ad (f j) (ng (one j))))) = one j
      rw [zero_ad, ng_ad, ng_ng, ← ad_assoc, ad_neg, zero_ad]
theorem kc_lt {k n i : Nat} {A : Pl k} (hn : n = 1 ∨ n = 2) : kc A n i < (unq k n : Int) := by
  unfold kc unq
  rcases hn with e | e
  · rw [if_pos e, e, Nat.pow_one]
    have := (ng (ml (sT A (vc i) 0) (iv (vc (k := k) i 0)))).isLt
    show ((ng (ml (sT A (vc i) 0) (iv (vc (k := k) i 0)))).val : Int) < _
    omega
  · rw [if_neg (by omega), e, Nat.pow_succ, Nat.pow_one]
    unfold kcQ
    have hq := qq_pos k
    have h0 : 0 < qq k * qq k := Nat.mul_pos hq hq
    split
    · omega
    · generalize ml (crs (sT A (sT A (vc i)) 0) (sT A (sT A (vc i)) 1) (vc i 0) (vc i 1)) (iv (crs (vc i 0) (vc i 1) (sT A (vc i) 0) (sT A (vc (k := k) i) 1))) = x
      generalize ml (crs (sT A (vc i) 0) (sT A (vc i) 1) (sT A (sT A (vc i)) 0) (sT A (sT A (vc i)) 1)) (iv (crs (vc i 0) (vc i 1) (sT A (vc i) 0) (sT A (vc (k := k) i) 1))) = y
      have a := x.isLt
      have b := y.isLt
      have c : (x.val + 1) * qq k ≤ qq k * qq k := Nat.mul_le_mul_right _ a
      rw [Nat.add_mul, Nat.one_mul] at c
      have d : ((x.val * qq k + y.val : Nat) : Int) = (x.val : Int) * (qq k : Int) + (y.val : Int) := by rw [Int.natCast_add, Int.natCast_mul]
      rw [← d]
      omega
theorem sI_pad {f : Nat → Int} {a : Nat} : ∀ {b : Nat}, a ≤ b → (∀ i : Nat, a ≤ i → f i = 0) → sI f b = sI f a
  | 0, h, _ => by rw [show a = 0 by omega]
  | b + 1, h, hz => by
    by_cases e : a = b + 1
    · rw [e]
    · show sI f b + f b = _
      rw [hz b (by omega), sI_pad (show a ≤ b by omega) hz]
      omega
theorem likes_eq {k n Q : Nat} {A : Pl k} (hA : IsDg A (n : Int)) (hn : (n = 1 ∧ Q = qq k) ∨ (n = 2 ∧ Q = qq k * qq k)) : sI (fun c => bz (fwI A (mnp (k := k) n c) n ≠ -1)) (unq k n) = sI (fun j => bz (MKd A n Q (j : Int))) 256 := by
  have hu : unq k n ≤ 256 := by
    have := qq_le k
    unfold unq
    rcases hn with ⟨e, _⟩ | ⟨e, _⟩
    · rw [e, Nat.pow_one]; omega
    · rw [e, Nat.pow_succ, Nat.pow_one]
      exact Nat.le_trans (Nat.mul_le_mul this this) (by decide)
  rw [sI_pad hu (fun j hj => bz_neg (fun q => by
    obtain ⟨i, _, _, e⟩ := q
    have := kc_lt (k := k) (n := n) (i := i) (A := A) (by omega)
    omega))]
  refine sI_congr (fun c hc => bz_congr ?_)
  rw [fw_LK hA mnp_is (by omega) (by omega)]
  rcases hn with ⟨e, e2⟩ | ⟨e, e2⟩
  · subst e; rw [e2]; exact LK_1 hA hc
  · subst e; rw [e2]; exact LK_2 hA hc
