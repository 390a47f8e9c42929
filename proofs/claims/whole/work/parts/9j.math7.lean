/-! like and commuting: the class's list is all that the search tries */ -/
theorem lcb_X {k : Nat} {w : Nat → Nat} {X Y : Nat → Pl k} : ∀ {R : Nat}, (∀ r, r < R → X r = Y r) → lcb w X R = lcb w Y R
  | 0, _ => rfl
  | R + 1, h => by
    show adp (lcb w X R) (scl _ (X R)) = adp (lcb w Y R) (scl _ (Y R))
    rw [lcb_X (fun r hr => h r (by omega)), h R (by omega)]
theorem cdp_pz {k : Nat} : ∀ n : Nat, cdp (pz : Pl k) n = 0
  | 0 => rfl
  | n + 1 => by
    show cdp (pz : Pl k) n + (z0 : El k).val * unq k n = 0
    rw [cdp_pz n, z0_val, Nat.zero_mul]
theorem wyU_00 {k n R : Nat} {us : Nat → Nat → Nat} : wyU (k := k) n us R 0 = pz := by
  unfold wyU
  rw [lcb_congr (w := fun _ => 0) (fun r _ => dgn_0), lcb_zero]
theorem gp_main {k n c R m : Nat} {A B : Pl k} {dp ow : Nat → Nat} {us : Nat → Nat → Nat} (hA : Bd A m) (hB : IsDg B (n : Int)) (h : GP (XL A B) n (n * mm k) dp us ow c R) : (∀ t : Nat, dr 0 (mlp A (wyU n us R t)) B = pz) ∧ (∀ t t' : Nat, t < t' → t' < pp k ^ R → cdp (wyU (k := k) n us R t) n < cdp (wyU (k := k) n us R t') n) ∧ ∀ U : Pl k, Bd U n → dr 0 (mlp A U) B = pz → ∃ t : Nat, t < pp k ^ R ∧ U = wyU n us R t := by
  obtain ⟨⟨ρ, w, pv, hS⟩, hc, hr⟩ := h
  have hp := pp_ge k
  have hp3 := pp_le k
  have hus : ∀ r, r < R → ∀ j, us r j < pp k := fun r hr' => (hr r hr').2.1.2.2.2.2
  have hdl : ∀ t r, dgn (pp k) t r < pp k := fun t r => dgn_lt hp t r
  have hV : ∀ t l, cmb (pp k) us (dgn (pp k) t) R l < pp k := fun t l => cmb_lt hp us _ R l
  have eV : ∀ t, wyU (k := k) n us R t = bsU n (cmb (pp k) us (dgn (pp k) t) R) := fun t => by
    rw [← bsU_lcb (hV t), lcb_cmb (hdl t) hus]
    exact lcb_X (fun r hr' => (bsU_lcb (hus r hr')).symm)
  have sep : ∀ r r', r < R → r' < R → r' ≠ r → us r' (dp r) = 0 := fun r r' h1 h2 h3 => by
    apply Classical.byContradiction
    intro q
    rcases (hr r' h2).2.1.2.2.2.1 (dp r) q with e | ⟨s, hs, e⟩
    · rcases Nat.lt_or_ge r r' with q2 | q2
      · have := (hr r' h2).2.2.2 r q2; omega
      · have := (hr r h1).2.2.2 r' (by omega); omega
    · exact (hr r h1).2.2.1 s hs e.symm
  have hVd : ∀ t r, r < R → cmb (pp k) us (dgn (pp k) t) R (dp r) = dgn (pp k) t r := fun t r h1 => by
    rw [cmb_at (s := r) (hr r h1).2.1.2.1 (fun r' h2 h3 => sep r r' h1 h2 h3), if_pos h1, Nat.mod_eq_of_lt (hdl t r)]
  have hker : ∀ t, lcb (cmb (pp k) us (dgn (pp k) t) R) (XL A B) (n * mm k) = pz := fun t => by
    rw [lcb_cmb (hdl t) hus]
    refine lcb_z (fun r h1 => ?_)
    have q := (hr r h1).2.1
    rw [lcb_top (o := dp r + 1) (fun j hj => q.2.2.1 j (by omega)) (by have := (hr r h1).1; omega)]
    exact q.1
  refine ⟨fun t => ?_, fun t t' h1 h2 => ?_, fun U hU h0 => ?_⟩
  · rw [eV t, ← bsU_lcb (hV t), ← lcb_XL hA hB (hV t)]
    exact hker t
  · rw [eV t, eV t', cdp_bsU (hV t), cdp_bsU (hV t')]
    have e1_ := nbS_dgn (p := pp k) (t := t) R
    have e2_ := nbS_dgn (p := pp k) (t := t') R
    rw [Nat.mod_eq_of_lt (by omega)] at e1_
    rw [Nat.mod_eq_of_lt h2] at e2_
    have hd : ∃ r : Nat, r < R ∧ dgn (pp k) t r ≠ dgn (pp k) t' r := by
      apply Classical.byContradiction
      intro q
      have e3 : nbS (pp k) (dgn (pp k) t) 0 R = nbS (pp k) (dgn (pp k) t') 0 R := nbS_congr (fun j hj => by
        apply Classical.byContradiction
        intro q2
        exact q ⟨0 + j, by omega, q2⟩)
      omega
    obtain ⟨r, r1, r2, r3⟩ := top_diff R hd
    rcases Nat.lt_or_ge (dgn (pp k) t r) (dgn (pp k) t' r) with q | q
    · refine nbS_less (s := dp r) (hV t) (hr r r1).1 (by rw [hVd t r r1, hVd t' r r1]; exact q) (fun l l1 l2 => cmb_congr (fun r' h3 => ?_))
      rcases Nat.lt_or_ge r r' with q2 | q2
      · rw [r3 r' q2 h3]
      · have z : us r' l = 0 := (hr r' h3).2.1.2.2.1 l (by
          by_cases e : r' = r
          · rw [e]; exact l1
          · have := (hr r r1).2.2.2 r' (by omega)
            omega)
        rw [z, Nat.mul_zero, Nat.mul_zero]
    · exfalso
      have := nbS_less (p := pp k) (N := R) (s := r) (u := dgn (pp k) t') (v := dgn (pp k) t) (hdl t') r1 (by omega) (fun l l1 l2 => (r3 l l1 l2).symm)
      omega
  · have hud : ∀ l, dgs U l < pp k := dgs_lt U
    have hk0 : lcb (dgs U) (XL A B) (n * mm k) = pz := by
      rw [lcb_XL hA hB hud, bsU_lcb hud, bsU_dgs hU]
      exact h0
    have hdd : ∀ r, dgs U (dp r) < pp k := fun r => hud _
    refine ⟨nbS (pp k) (fun r => dgs U (dp r)) 0 R, nbS_lt (b := 0) hdd R, ?_⟩
    generalize ht : nbS (pp k) (fun r => dgs U (dp r)) 0 R = t
    have hdt : ∀ r, r < R → dgn (pp k) t r = dgs U (dp r) := fun r h1 => by
      rw [← ht]
      exact dgn_nbS hp hdd R r h1
    have cov : ∀ l, l < n * mm k → (∃ s, s < c ∧ l = ow s) ∨ ∃ r, r < R ∧ l = dp r := fun l hl => by
      have mono : ∀ s s', s < s' → s' < c → ow s < ow s' := fun s s' h1 h2 => (hS.2 s' h2).2.1 s h1
      obtain ⟨i, hi, e⟩ := inj_surj (f := fun i => if i < c then ow i else dp (i - c)) (N := n * mm k) (fun i hi => by
        show (if i < c then ow i else dp (i - c)) < _
        split
        · rename_i q; exact (hS.2 i q).1
        · exact (hr (i - c) (by omega)).1) (fun i j hi hj e => by
        have e2 : (if i < c then ow i else dp (i - c)) = (if j < c then ow j else dp (j - c)) := e
        by_cases a1 : i < c
        · rw [if_pos a1] at e2
          by_cases a2 : j < c
          · rw [if_pos a2] at e2
            rcases Nat.lt_trichotomy i j with q | q | q
            · have := mono i j q a2; omega
            · exact q
            · have := mono j i q a1; omega
          · rw [if_neg a2] at e2
            exact absurd e2 ((hr (j - c) (by omega)).2.2.1 i a1)
        · rw [if_neg a1] at e2
          by_cases a2 : j < c
          · rw [if_pos a2] at e2
            exact absurd e2.symm ((hr (i - c) (by omega)).2.2.1 j a2)
          · rw [if_neg a2] at e2
            rcases Nat.lt_trichotomy i j with q | q | q
            · have := (hr (j - c) (by omega)).2.2.2 (i - c) (by omega); omega
            · exact q
            · have := (hr (i - c) (by omega)).2.2.2 (j - c) (by omega); omega) hl
      have e2 : (if i < c then ow i else dp (i - c)) = l := e
      by_cases a1 : i < c
      · rw [if_pos a1] at e2
        exact Or.inl ⟨i, a1, e2.symm⟩
      · rw [if_neg a1] at e2
        exact Or.inr ⟨i - c, by omega, e2.symm⟩
    have hv := ech_ind hS (v := fun l => if l < n * mm k then (dgs U l + (pp k - 1) * cmb (pp k) us (dgn (pp k) t) R l) % pp k else 0) (fun l => by
      show (if l < n * mm k then (dgs U l + (pp k - 1) * cmb (pp k) us (dgn (pp k) t) R l) % pp k else 0) < _
      split
      · exact Nat.mod_lt _ (by omega)
      · omega) (fun l hl => by
      have hl' : (if l < n * mm k then (dgs U l + (pp k - 1) * cmb (pp k) us (dgn (pp k) t) R l) % pp k else 0) ≠ 0 := hl
      by_cases q : l < n * mm k
      · rw [if_pos q] at hl'
        rcases cov l q with e | ⟨r, r1, e⟩
        · exact e
        · exfalso
          apply hl'
          rw [e, hVd t r r1, hdt r r1, show dgs U (dp r) + (pp k - 1) * dgs U (dp r) = pp k * dgs U (dp r) by
            have e3 : pp k * dgs U (dp r) = (1 + (pp k - 1)) * dgs U (dp r) := by rw [show 1 + (pp k - 1) = pp k by omega]
            rw [e3, Nat.add_mul, Nat.one_mul]]
          exact Nat.mul_mod_right _ _
      · rw [if_neg q] at hl'
        exact absurd rfl hl') (by
      have e := lcb_lin (u := dgs U) (w := cmb (pp k) us (dgn (pp k) t) R) (X := XL A B) (c := pp k - 1) (by omega) hud (hV t) (n * mm k)
      rw [hk0, hker t, scl_pz, pz_adp] at e
      rw [← e]
      exact lcb_congr (fun j hj => if_pos hj))
    rw [eV t]
    refine (bsU_dgs hU).symm.trans (bsU_congr (fun l hl => ?_))
    have z : (if l < n * mm k then (dgs U l + (pp k - 1) * cmb (pp k) us (dgn (pp k) t) R l) % pp k else 0) = 0 := hv l
    rw [if_pos hl] at z
    have a1 := hud l
    have a2 := hV t l
    generalize cmb (pp k) us (dgn (pp k) t) R l = y at z a2
    generalize dgs U l = x at z a1
    rcases (show pp k = 2 ∨ pp k = 3 by omega) with e | e
    · rw [e] at z a1 a2; omega
    · rw [e] at z a1 a2; omega
/-- what the search finds is in the list -/
theorem gp_find {k n c R m : Nat} {A B : Pl k} {dp ow : Nat → Nat} {us : Nat → Nat → Nat} (hA : Bd A m) (hB : IsDg B (n : Int)) (hB9 : Bd B 9) (hn : n ≤ 9) (h : GP (XL A B) n (n * mm k) dp us ow c R) {a : Nat} (a1 : 1 ≤ a) (a2 : a < unq k n) (hw : wyP A B n a) : ∃ t : Nat, 1 ≤ t ∧ t < pp k ^ R ∧ bnp n a = wyU (k := k) n us R t ∧ Cop (wyU (k := k) n us R t) B := by
  obtain ⟨g1, g2, g3⟩ := gp_main hA hB h
  have w := (wyP_cop hB9 hn).mp hw
  obtain ⟨t, h1, h2⟩ := g3 _ bnp_bd w.1
  refine ⟨t, ?_, h1, h2, by rw [← h2]; exact w.2⟩
  by_cases q : t = 0
  · exfalso
    rw [q, wyU_00] at h2
    have e := cdp_bnp (k := k) a2
    rw [h2, cdp_pz] at e
    omega
  · omega
theorem like_some {k n c R m t : Nat} {A B : Pl k} {dp ow : Nat → Nat} {us : Nat → Nat → Nat} (hA : Bd A m) (hB : IsDg B (n : Int)) (hB9 : Bd B 9) (hn : n ≤ 9) (h : GP (XL A B) n (n * mm k) dp us ow c R) (t1 : 1 ≤ t) (t2 : t < pp k ^ R) (t3 : Cop (wyU (k := k) n us R t) B) (t4 : ∀ s : Nat, 1 ≤ s → s < t → ¬ Cop (wyU (k := k) n us R s) B) : ∃ a : Nat, 1 ≤ a ∧ a < unq k n ∧ fwI A B n = (a : Int) ∧ bnp n a = wyU (k := k) n us R t := by
  obtain ⟨g1, g2, g3⟩ := gp_main hA hB h
  have e : wyU (k := k) n us R t = bnp n (cdp (wyU (k := k) n us R t) n) := bnp_cdp wyU_bd
  have l0 := g2 0 t (by omega) t2
  have l1 := cdp_lt (wyU (k := k) n us R t) n
  refine ⟨cdp (wyU (k := k) n us R t) n, by omega, l1, fwI_at (by omega) l1 (fun a a1 a2 hw => ?_) ((wyP_cop hB9 hn).mpr ⟨by rw [← e]; exact g1 t, by rw [← e]; exact t3⟩), e.symm⟩
  obtain ⟨s, s1, s2, s3, s4⟩ := gp_find hA hB hB9 hn h a1 (by omega) hw
  refine t4 s s1 ?_ s4
  have ea : cdp (wyU (k := k) n us R s) n = a := by rw [← s3, cdp_bnp (by omega)]
  rcases Nat.lt_trichotomy s t with q | q | q
  · exact q
  · rw [q] at ea; omega
  · have := g2 t s q s2; omega
theorem like_none {k n c R m : Nat} {A B : Pl k} {dp ow : Nat → Nat} {us : Nat → Nat → Nat} (hA : Bd A m) (hB : IsDg B (n : Int)) (hB9 : Bd B 9) (hn : n ≤ 9) (h : GP (XL A B) n (n * mm k) dp us ow c R) (t4 : ∀ s : Nat, 1 ≤ s → s < pp k ^ R → ¬ Cop (wyU (k := k) n us R s) B) : fwI A B n = -1 := by
  refine fwI_none (fun a a1 a2 hw => ?_)
  obtain ⟨s, s1, s2, s3, s4⟩ := gp_find hA hB hB9 hn h a1 a2 hw
  exact t4 s s1 s2 s4
theorem comm_cnt {k n c R m : Nat} {A B : Pl k} {dp ow : Nat → Nat} {us : Nat → Nat → Nat} (hA : Bd A m) (hB : IsDg B (n : Int)) (h : GP (XL A B) n (n * mm k) dp us ow c R) : sI (fun c_ : Nat => bz (dr 0 (mlp A (bnp (k := k) n c_)) B = pz)) (unq k n) = ((pp k ^ R : Nat) : Int) := by
  obtain ⟨g1, g2, g3⟩ := gp_main hA hB h
  have inj : ∀ t t' : Nat, t < pp k ^ R → t' < pp k ^ R → cdp (wyU (k := k) n us R t) n = cdp (wyU (k := k) n us R t') n → t = t' := fun t t' h1 h2 e => by
    rcases Nat.lt_trichotomy t t' with q | q | q
    · have := g2 t t' q h2; omega
    · exact q
    · have := g2 t' t q h1; omega
  rw [← sI_ones]
  refine (sI_bij (f := fun t => cdp (wyU (k := k) n us R t) n) (P := fun _ => True) (Q := fun c_ => dr 0 (mlp A (bnp (k := k) n c_)) B = pz) (fun i _ q => absurd trivial q) (fun c_ _ q => bz_neg q) (fun t ht _ => ?_) (fun t t' h1 h2 _ _ e => inj t t' h1 h2 e) (fun a ha q => ?_)).symm
  · have e : wyU (k := k) n us R t = bnp n (cdp (wyU (k := k) n us R t) n) := bnp_cdp wyU_bd
    have q : dr 0 (mlp A (bnp (k := k) n (cdp (wyU (k := k) n us R t) n))) B = pz := by rw [← e]; exact g1 t
    exact ⟨cdp_lt _ n, q, bz_pos q⟩
  · obtain ⟨t, h1, h2⟩ := g3 _ bnp_bd q
    exact ⟨t, h1, trivial, by show cdp (wyU (k := k) n us R t) n = a; rw [← h2, cdp_bnp ha]⟩
theorem comm_uni {k n c R m : Nat} {A B : Pl k} {dp ow : Nat → Nat} {us : Nat → Nat → Nat} (hA : Bd A m) (hB : IsDg B (n : Int)) (hB9 : Bd B 9) (n1 : 1 ≤ n) (hn : n ≤ 9) (h : GP (XL A B) n (n * mm k) dp us ow c R) : sI (fun c_ : Nat => bz (wyP A B n c_)) (unq k n) = sI (fun j => bz (Cop (wyU (k := k) n us R (j + 1)) B)) (pp k ^ R - 1) := by
  obtain ⟨g1, g2, g3⟩ := gp_main hA hB h
  refine (sI_bij (f := fun t => cdp (wyU (k := k) n us R (t + 1)) n) (P := fun j => Cop (wyU (k := k) n us R (j + 1)) B) (Q := fun c_ => wyP A B n c_) (fun i _ q => bz_neg q) (fun c_ _ q => bz_neg q) (fun t ht p => ?_) (fun t t' h1 h2 _ _ e => ?_) (fun a ha q => ?_)).symm
  · have e : wyU (k := k) n us R (t + 1) = bnp n (cdp (wyU (k := k) n us R (t + 1)) n) := bnp_cdp wyU_bd
    have q : wyP A B n (cdp (wyU (k := k) n us R (t + 1)) n) := (wyP_cop hB9 hn).mpr ⟨by rw [← e]; exact g1 (t + 1), by rw [← e]; exact p⟩
    exact ⟨cdp_lt _ n, q, (bz_pos q).trans (bz_pos p).symm⟩
  · have e2 : cdp (wyU (k := k) n us R (t + 1)) n = cdp (wyU (k := k) n us R (t' + 1)) n := e
    rcases Nat.lt_trichotomy t t' with q | q | q
    · have := g2 (t + 1) (t' + 1) (by omega) (by omega); omega
    · exact q
    · have := g2 (t' + 1) (t + 1) (by omega) (by omega); omega
  · by_cases z : a = 0
    · exfalso
      have w := ((wyP_cop hB9 hn).mp q).2
      have e : bnp (k := k) n a = pz := by
        have e2 : (pz : Pl k) = bnp n (cdp (pz : Pl k) n) := bnp_cdp (fun _ _ => rfl)
        rw [cdp_pz] at e2
        rw [z]
        exact e2.symm
      rw [e] at w
      have w2 := (Cop_pz hB9).mp (Cop_comm.mp w)
      have := hB.uniq w2
      omega
    · obtain ⟨t, h1, h2, h3, h4⟩ := gp_find hA hB hB9 hn h (show 1 ≤ a by omega) ha q
      refine ⟨t - 1, by omega, ?_, ?_⟩
      · show Cop (wyU (k := k) n us R (t - 1 + 1)) B
        rw [show t - 1 + 1 = t by omega]
        exact h4
      · show cdp (wyU (k := k) n us R (t - 1 + 1)) n = a
        rw [show t - 1 + 1 = t by omega, ← h3, cdp_bnp ha]
