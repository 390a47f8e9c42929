/-! a central one of no more degree, at last */ -/
def sN (D : Nat → Nat) : Nat → Nat
  | 0 => 0
  | i + 1 => sN D i + D i
theorem sN_le {D : Nat → Nat} {i : Nat} : ∀ {m : Nat}, i < m → sN D i + D i ≤ sN D m
  | 0, h => by omega
  | m + 1, h => by
    show _ ≤ sN D m + D m
    by_cases e : i = m
    · rw [e]; exact Nat.le_refl _
    · have := sN_le (D := D) (show i < m by omega)
      omega
theorem sN_at {D : Nat → Nat} {s : Nat} : ∀ {m : Nat}, s < sN D m → ∃ i a : Nat, i < m ∧ a < D i ∧ s = sN D i + a
  | 0, h => absurd h (Nat.not_lt_zero _)
  | m + 1, h => by
    have h' : s < sN D m + D m := h
    by_cases q : s < sN D m
    · obtain ⟨i, a, h1, h2, h3⟩ := sN_at q
      exact ⟨i, a, by omega, h2, h3⟩
    · exact ⟨m, s - sN D m, by omega, by omega, by omega⟩
theorem ecl_sum {k n : Nat} {A : Pl k} (hA : IsDg A (n : Int)) {D : Nat → Nat} (hD : ∀ i : Nat, i < mm k → ∀ d : Nat, d < D i → ¬ Ecl A i d) : sN D (mm k) ≤ n := by
  have hm := mm_pos k
  have hml : ∀ l : Nat, l % mm k < mm k := fun l => Nat.mod_lt l hm
  have hbd : ∀ c : Nat, Bd (fun l => if l / mm k < D (l % mm k) then el k (dgn (qq k) c (sN D (l % mm k) + l / mm k)) else z0) (sN D (mm k) * mm k) := fun c l hl => if_neg (fun q => by
    have h1 : sN D (mm k) ≤ l / mm k := by rw [Nat.le_div_iff_mul_le hm]; exact hl
    have h2 := sN_le (D := D) (hml l)
    omega)
  have h := inj_le (g := fun c => cdp (dr 0 (fun l => if l / mm k < D (l % mm k) then el k (dgn (qq k) c (sN D (l % mm k) + l / mm k)) else z0) A) n) (a := unq k (sN D (mm k))) (b := unq k n) (fun c _ => cdp_lt _ n) (fun c c' hc hc' e => by
    have e2 : dr 0 (fun l => if l / mm k < D (l % mm k) then el k (dgn (qq k) c (sN D (l % mm k) + l / mm k)) else z0) A = dr 0 (fun l => if l / mm k < D (l % mm k) then el k (dgn (qq k) c' (sN D (l % mm k) + l / mm k)) else z0) A := by
      rw [bnp_cdp (dr_bd 0 hA (hbd c)), bnp_cdp (dr_bd 0 hA (hbd c'))]
      exact congrArg _ e
    have d1 := dr_sub hA (hbd c)
    have d2 := dr_sub hA (hbd c')
    rw [← e2] at d2
    generalize dr 0 (fun l => if l / mm k < D (l % mm k) then el k (dgn (qq k) c (sN D (l % mm k) + l / mm k)) else z0) A = R at d1 d2
    have hI := d1.sub d2
    have e3 : ∀ f g : Pl k, sbp (sbp f R) (sbp g R) = sbp f g := fun f g => by
      funext j
      show ad (ad (f j) (ng (R j))) (ng (ad (g j) (ng (R j)))) = ad (f j) (ng (g j))
      rw [ng_ad, ng_ng, ad4, ad_comm (ng (R j)), ad_neg, ad_zero]
    rw [e3] at hI
    have hz : sbp (fun l => if l / mm k < D (l % mm k) then el k (dgn (qq k) c (sN D (l % mm k) + l / mm k)) else z0) (fun l => if l / mm k < D (l % mm k) then el k (dgn (qq k) c' (sN D (l % mm k) + l / mm k)) else z0) = pz := by
      apply Classical.byContradiction
      intro hne
      obtain ⟨i', d, h1, h2, h3⟩ := ecl_of (Bd_sbp' (hbd c) (hbd c')) hI hne
      have h4 : (d * mm k + i') % mm k = i' := by rw [Nat.mul_comm, Nat.mul_add_mod, Nat.mod_eq_of_lt h1]
      have h5 : (d * mm k + i') / mm k = d := by rw [Nat.mul_comm, Nat.mul_add_div hm, Nat.div_eq_of_lt h1, Nat.add_zero]
      have h6 : d < D i' := by
        apply Classical.byContradiction
        intro q
        apply h2
        show ad (if (d * mm k + i') / mm k < D ((d * mm k + i') % mm k) then _ else z0) (ng (if (d * mm k + i') / mm k < D ((d * mm k + i') % mm k) then _ else z0)) = z0
        rw [h4, h5, if_neg q, if_neg q, ng_z, ad_zero]
      exact hD i' h1 d h6 h3
    have key : ∀ s : Nat, s < sN D (mm k) → dgn (qq k) c s = dgn (qq k) c' s := fun s hs => by
      obtain ⟨i, a, h1, h2, h3⟩ := sN_at hs
      have w := congrFun hz (a * mm k + i)
      have h4 : (a * mm k + i) % mm k = i := by rw [Nat.mul_comm, Nat.mul_add_mod, Nat.mod_eq_of_lt h1]
      have h5 : (a * mm k + i) / mm k = a := by rw [Nat.mul_comm, Nat.mul_add_div hm, Nat.div_eq_of_lt h1, Nat.add_zero]
      have w2 : ad (if (a * mm k + i) / mm k < D ((a * mm k + i) % mm k) then el k (dgn (qq k) c (sN D ((a * mm k + i) % mm k) + (a * mm k + i) / mm k)) else z0) (ng (if (a * mm k + i) / mm k < D ((a * mm k + i) % mm k) then el k (dgn (qq k) c' (sN D ((a * mm k + i) % mm k) + (a * mm k + i) / mm k)) else z0)) = z0 := w
      rw [h4, h5, if_pos h2, if_pos h2, ← h3] at w2
      have w3 := congrArg Fin.val (ng_eq0 w2)
      rw [dgn_val, dgn_val] at w3
      exact w3
    have e4 : bnp (k := k) (sN D (mm k)) c = bnp (sN D (mm k)) c' := by
      funext j
      show (if j < sN D (mm k) then el k (dgn (qq k) c j) else z0) = if j < sN D (mm k) then el k (dgn (qq k) c' j) else z0
      by_cases q : j < sN D (mm k)
      · rw [if_pos q, if_pos q, key j q]
      · rw [if_neg q, if_neg q]
    rw [← cdp_bnp (k := k) hc, ← cdp_bnp (k := k) hc', e4])
  rcases Nat.lt_or_ge n (sN D (mm k)) with q | q
  · exfalso
    have h2 : qq k ^ n < qq k ^ sN D (mm k) := Nat.pow_lt_pow_right (by have := qq_ge k; omega) q
    unfold unq at h
    omega
  · exact q
theorem sbp_sbp {k : Nat} (f g : Pl k) : sbp f (sbp f g) = g := by
  funext l
  show ad (f l) (ng (ad (f l) (ng (g l)))) = g l
  rw [ng_ad, ng_ng, ← ad_assoc, ad_neg, zero_ad]
/-- takes all of the first i classes into R A -/
theorem ann_i {k : Nat} {A : Pl k} {D : Nat → Nat} (hD : ∀ i : Nat, i < mm k → Ecl A i (D i)) : ∀ i : Nat, i ≤ mm k → ∃ H : Pl k, Csp H ∧ Mn H (sN D i * mm k) ∧ ∀ (W : Pl k) (b : Nat), Bd W b → (∀ l : Nat, W l ≠ z0 → l % mm k < i) → InL (mlp H W) A
  | 0, _ => by
    refine ⟨one, fun l hl => if_neg (fun q => hl (by rw [q]; exact Nat.zero_mod _)), ?_, fun W b _ hW => ?_⟩
    · show Mn one (0 * mm k)
      rw [Nat.zero_mul]
      exact ⟨⟨by decide, fun j hj => if_neg (by omega), fun _ => e1_ne⟩, rfl⟩
    · have e : W = pz := by
        funext l
        apply Classical.byContradiction
        intro q
        have := hW l q
        omega
      rw [e, mlp_pz]
      exact ⟨pz, 0, fun _ _ => rfl, (pz_mlp A).symm⟩
  | i + 1, hi => by
    obtain ⟨H, h1, h2, h3⟩ := ann_i hD i (by omega)
    obtain ⟨P, b, p1, p2, p3, p4⟩ := hD i (by omega)
    have hi' : i < mm k := by omega
    have hHb := Bd_is h2.1
    have hT : Bd (mono (e1 : El k) i) (i + 1) := mono_bd _ _
    -- the rest of f, its class i taken off
    have rest : ∀ f : Pl k, (∀ l : Nat, f l ≠ z0 → l % mm k < i + 1) → ∀ l : Nat, sbp f (mlp (cpt f i) (mono e1 i)) l ≠ z0 → l % mm k < i := fun f hf l q => by
      by_cases z : l % mm k = i
      · exfalso
        apply q
        show ad (f l) (ng (mlp (cpt f i) (mono e1 i) l)) = z0
        rw [cpt_t f hi', if_pos z, ad_neg]
      · have q2 : f l ≠ z0 := fun y => q (by
          show ad (f l) (ng (mlp (cpt f i) (mono e1 i) l)) = z0
          rw [cpt_t f hi', if_neg z, y, ng_z, ad_zero])
        have := hf l q2
        omega
    have gt : Mn (cpt P i) (D i * mm k) := by
      have m0 : D i * mm k % mm k = 0 := Nat.mul_mod_left _ _
      have top : cpt P i (D i * mm k) = e1 := by
        show (if D i * mm k % mm k = 0 then P (D i * mm k + i) else z0) = e1
        rw [if_pos m0, p3]
      refine ⟨⟨by omega, fun l hl => ?_, fun _ => ?_⟩, top⟩
      · show (if l % mm k = 0 then P (l + i) else z0) = z0
        by_cases z : l % mm k = 0
        · rw [if_pos z]
          apply Classical.byContradiction
          intro q
          have e : (l + i) % mm k = i := by rw [Nat.add_mod, z, Nat.zero_add, Nat.mod_mod, Nat.mod_eq_of_lt hi']
          rcases p4 _ q with y | y <;> omega
        · rw [if_neg z]
      · rw [show (((D i * mm k : Nat) : Int)).toNat = D i * mm k by omega, top]
        exact e1_ne
    have hg := cpt_csp P i
    have hgb := cpt_bd p1 i
    have pr := IsDg_mlp h2.1 gt.1
    refine ⟨mlp H (cpt P i), csp_mlp h1 hg, ?_, fun W b' hW hc => ?_⟩
    · show Mn _ ((sN D i + D i) * mm k)
      rw [Nat.add_mul]
      exact ⟨pr.1, by rw [pr.2, h2.2, gt.2, sg_e, ml_one]⟩
    · have hh := cpt_csp W i
      have hhb := cpt_bd hW i
      have e : W = adp (mlp (cpt W i) (mono e1 i)) (sbp W (mlp (cpt W i) (mono e1 i))) := (adp_sbp _ _).symm
      rw [e, mlp_adp]
      refine InL.add ?_ ?_
      · have f1 : mlp (mlp H (cpt P i)) (mlp (cpt W i) (mono e1 i)) = mlp (cpt W i) (mlp H (mlp (cpt P i) (mono e1 i))) := by
          rw [← mlp_assoc, csp_comm (csp_mlp h1 hg) hh, mlp_assoc, mlp_assoc]
        rw [f1]
        refine InL.mul _ hhb ?_
        have f2 : mlp H (mlp (cpt P i) (mono e1 i)) = sbp (mlp H P) (mlp H (sbp P (mlp (cpt P i) (mono e1 i)))) := by
          rw [← mlp_sbp, sbp_sbp]
        rw [f2]
        refine (p2.mul H hHb).sub (h3 _ (b + (b + (i + 1))) (Bd_sbp p1 (Bd_mlp hgb hT)) (rest P (fun l q => ?_)))
        rcases p4 l q with y | y <;> omega
      · rw [csp_comm h1 hg, mlp_assoc]
        exact (h3 _ (b' + (b' + (i + 1))) (Bd_sbp hW (Bd_mlp hhb hT)) (rest W hc)).mul _ hgb
/-- all of R into R A -/
def Ann {k : Nat} (A g : Pl k) : Prop := ∀ (W : Pl k) (b : Nat), Bd W b → InL (mlp g W) A
theorem ann_ex {k n : Nat} {A : Pl k} (hA : IsDg A (n : Int)) : ∃ (e : Nat) (g : Pl k), e ≤ n ∧ Csp g ∧ Mn g (e * mm k) ∧ Ann A g := by
  have hex : ∀ i : Nat, ∃ d : Nat, i < mm k → Ecl A i d ∧ ∀ d' : Nat, d' < d → ¬ Ecl A i d' := fun i => by
    by_cases q : i < mm k
    · obtain ⟨d, h1, h2⟩ := nat_first (ecl_ex hA q)
      exact ⟨d, fun _ => ⟨h1, h2⟩⟩
    · exact ⟨0, fun q2 => absurd q2 q⟩
  have hs := fun i => Classical.choose_spec (hex i)
  obtain ⟨H, h1, h2, h3⟩ := ann_i (A := A) (D := fun i => Classical.choose (hex i)) (fun i hi => (hs i hi).1) (mm k) (Nat.le_refl _)
  exact ⟨sN (fun i => Classical.choose (hex i)) (mm k), H, ecl_sum hA (fun i hi => (hs i hi).2), h1, h2, fun W b hW => h3 W b hW (fun l _ => Nat.mod_lt _ (mm_pos k))⟩
theorem sg_fix0 {k : Nat} : ∀ (a : El k), sg 1 a = a → a.val < pp k := match k with | 0 => by decide +kernel | 1 => by decide +kernel | 2 => by decide +kernel | _ + 3 => (by decide +kernel : ∀ (a : El 3), sg 1 a = a → a.val < pp 3)
theorem t_cancel {k : Nat} {A x : Pl k} (hA0 : A 0 ≠ z0) (h : InL (mlp (mono e1 1) x) A) : InL x A := by
  obtain ⟨q, m, hq, e⟩ := h
  have hm := mm_pos k
  have tx : ∀ (f : Pl k) (l : Nat), mlp (mono e1 1) f (l + 1) = sg 1 (f l) := fun f l => by
    rw [mono_mlp, if_pos (by omega), one_ml, show l + 1 - 1 = l by omega]
  have t0 : ∀ f : Pl k, mlp (mono e1 1) f 0 = z0 := fun f => by rw [mono_mlp, if_neg (by omega)]
  have q0 : q 0 = z0 := by
    have w := congrFun e 0
    rw [t0] at w
    have w2 : z0 = ad z0 (ml (q 0) (sg 0 (A 0))) := w
    rw [zero_ad, sg_0] at w2
    rcases ml_eq_zero w2.symm with y | y
    · exact y
    · exact absurd y hA0
  refine ⟨fun l => sg (mm k - 1) (q (l + 1)), m, fun l hl => by show sg _ (q (l + 1)) = z0; rw [hq _ (by omega), sg_z], ?_⟩
  have eq : mlp (mono e1 1) (fun l => sg (mm k - 1) (q (l + 1))) = q := by
    funext l
    cases l with
    | zero => rw [t0, q0]
    | succ l =>
      rw [tx]
      show sg 1 (sg (mm k - 1) (q (l + 1))) = _
      rw [← sg_sg, show 1 + (mm k - 1) = 1 * mm k by omega, sg_mul]
  have e2 : mlp (mono e1 1) x = mlp (mono e1 1) (mlp (fun l => sg (mm k - 1) (q (l + 1))) A) := by rw [← mlp_assoc, eq, e]
  funext l
  have w := congrFun e2 (l + 1)
  rw [tx, tx] at w
  exact sg_inj w
theorem tp_cancel {k : Nat} {A : Pl k} (hA0 : A 0 ≠ z0) : ∀ (j : Nat) {x : Pl k}, InL (mlp (mono e1 j) x) A → InL x A
  | 0, x, h => by rw [tp_0] at h; exact h
  | j + 1, x, h => by
    rw [show j + 1 = 1 + j by omega, ← tp_mul, mlp_assoc] at h
    exact tp_cancel hA0 j (t_cancel hA0 h)
theorem csp_t {k : Nat} (j : Nat) : Csp (mono (e1 : El k) (j * mm k)) := fun l hl => if_neg (fun q => hl (by rw [q]; exact Nat.mul_mod_left _ _))
/-- where t can be taken off: a central one in R A -/
theorem cen_0 {k n : Nat} {A : Pl k} (hA : IsDg A (n : Int)) (hA0 : A 0 ≠ z0) : ∃ (e : Nat) (g : Pl k), e ≤ n ∧ Csp g ∧ Mn g (e * mm k) ∧ (∀ l : Nat, (g l).val < pp k) ∧ InL g A := by
  have hm := mm_pos k
  obtain ⟨e0, g0, a1, a2, a3, a4⟩ := ann_ex hA
  obtain ⟨e, ⟨g, h1, h2, h3⟩, hmin⟩ := nat_first (q := fun e => ∃ g : Pl k, Csp g ∧ Mn g (e * mm k) ∧ Ann A g) ⟨e0, g0, a2, a3, a4⟩
  have he : e ≤ n := by
    rcases Nat.lt_or_ge e0 e with q | q
    · exact absurd ⟨g0, a2, a3, a4⟩ (hmin e0 q)
    · omega
  have hgb := Bd_is h2.1
  -- MAP of it does so too
  have hsC : Csp (fun l => sg 1 (g l)) := fun l hl => by show sg 1 (g l) = z0; rw [h1 l hl, sg_z]
  have tg : mlp (mono e1 1) g = mlp (fun l => sg 1 (g l)) (mono e1 1) := by
    funext l
    rw [mono_mlp, mlp_mono]
    by_cases q : 1 ≤ l
    · rw [if_pos q, if_pos q, one_ml, sg_e, ml_one]
    · rw [if_neg q, if_neg q]
  have hsA : Ann A (fun l => sg 1 (g l)) := fun W b hW => by
    refine tp_cancel hA0 (1 * mm k) ?_
    have e1_ : mlp (mono e1 (1 * mm k)) (mlp (fun l => sg 1 (g l)) W) = mlp (mono e1 1) (mlp g (mlp (mono e1 (mm k - 1)) W)) := by
      rw [← mlp_assoc, csp_comm (csp_t 1) hsC, show 1 * mm k = 1 + (mm k - 1) by omega, ← tp_mul, ← mlp_assoc, ← tg, mlp_assoc, mlp_assoc]
    rw [e1_]
    exact (h3 _ (mm k - 1 + 1 + b) (Bd_mlp (mono_bd _ _) hW)).mul _ (mono_bd e1 1)
  have hfix : ∀ l : Nat, sg 1 (g l) = g l := by
    apply Classical.byContradiction
    intro hne
    have hd : sbp g (fun l => sg 1 (g l)) ≠ pz := fun q => hne (fun l => (ng_eq0 (congrFun q l)).symm)
    have hsb : Bd (fun l => sg 1 (g l)) (e * mm k + 1) := fun l hl => by show sg 1 (g l) = z0; rw [hgb l hl, sg_z]
    obtain ⟨a, ha⟩ := isdg_pos (Bd_sbp' hgb hsb) hd
    have hdC : Csp (sbp g (fun l => sg 1 (g l))) := fun l hl => by
      show ad (g l) (ng (sg 1 (g l))) = z0
      rw [h1 l hl, sg_z, ng_z, ad_zero]
    have am : a % mm k = 0 := by
      apply Classical.byContradiction
      intro q
      exact ha.tp (hdC a q)
    have al : a < e * mm k := by
      rcases Nat.lt_trichotomy a (e * mm k) with q | q | q
      · exact q
      · exfalso
        apply ha.tp
        show ad (g a) (ng (sg 1 (g a))) = z0
        rw [q, h2.2, sg_e, ad_neg]
      · exfalso
        apply ha.tp
        show ad (g a) (ng (sg 1 (g a))) = z0
        rw [hgb a (by omega), sg_z, ng_z, ad_zero]
    have ea : a / mm k * mm k = a := by
      have := Nat.div_add_mod a (mm k)
      rw [am, Nat.add_zero, Nat.mul_comm] at this
      exact this
    have ae : a / mm k < e := by
      rcases Nat.lt_or_ge (a / mm k) e with q | q
      · exact q
      · have := Nat.mul_le_mul_right (mm k) q
        omega
    refine hmin (a / mm k) ae ⟨scl (iv (sbp g (fun l => sg 1 (g l)) a)) (sbp g (fun l => sg 1 (g l))), fun l hl => by show ml _ (sbp g _ l) = z0; rw [hdC l hl, ml_zero], ?_, fun W b hW => ?_⟩
    · rw [ea]
      refine ⟨scl_is (iv_ne ha.tp) ha, ?_⟩
      show ml (iv _) (sbp g _ a) = e1
      rw [ml_comm, ml_iv _ ha.tp]
    · rw [scl_mlp, sbp_mlp]
      exact ((h3 W b hW).sub (hsA W b hW)).scl _
  refine ⟨e, g, he, h1, h2, fun l => sg_fix0 _ (hfix l), ?_⟩
  have w := h3 one 1 (fun j hj => if_neg (by omega))
  rw [mlp_one] at w
  exact w
/-- for all -/
theorem cen_all {k n : Nat} {A : Pl k} (hA : IsDg A (n : Int)) : ∃ (e : Nat) (z : Pl k), e ≤ n ∧ Csp z ∧ Mn z (e * mm k) ∧ (∀ l : Nat, (z l).val < pp k) ∧ InL z A := by
  have hm := mm_pos k
  obtain ⟨κ, h0, h1⟩ := nat_first (q := fun l => A l ≠ z0) ⟨n, hA.tp⟩
  have hκ : κ ≤ n := by
    rcases Nat.lt_or_ge n κ with q | q
    · exact absurd hA.tp (h1 n q)
    · exact q
  have hA2 : IsDg (fun l => A (l + κ)) ((n - κ : Nat) : Int) := ⟨by omega, fun l hl => hA.2.1 _ (by omega), fun _ => by
    show A ((((n - κ : Nat) : Int)).toNat + κ) ≠ z0
    rw [show (((n - κ : Nat) : Int)).toNat + κ = n by omega]
    exact hA.tp⟩
  have eA : mlp (fun l => A (l + κ)) (mono e1 κ) = A := by
    funext l
    rw [mlp_mono]
    by_cases q : κ ≤ l
    · rw [if_pos q, sg_e, ml_one, show l - κ + κ = l by omega]
    · rw [if_neg q]
      apply Classical.byContradiction
      intro y
      exact h1 l (by omega) (fun z => y z.symm)
  obtain ⟨e, g, g1, g2, g3, g4, g5⟩ := cen_0 hA2 (show A (0 + κ) ≠ z0 by rw [Nat.zero_add]; exact h0)
  have hkm : κ ≤ κ * mm k := Nat.le_mul_of_pos_right κ hm
  have fx : ∀ (j l : Nat), sg j (g l) = g l := fun j l => by
    have w := sg_pp (k := k) j (g4 l)
    rw [el_val] at w
    exact w
  have ez : ∀ l : Nat, mlp (mono e1 (κ * mm k - κ)) (mlp g (mono e1 κ)) l = if κ * mm k ≤ l then g (l - κ * mm k) else z0 := fun l => by
    rw [mono_mlp]
    by_cases q : κ * mm k ≤ l
    · rw [if_pos (by omega), if_pos q, one_ml, mlp_mono, if_pos (by omega), sg_e, ml_one, fx, show l - (κ * mm k - κ) - κ = l - κ * mm k by omega]
    · rw [if_neg q]
      by_cases q2 : κ * mm k - κ ≤ l
      · rw [if_pos q2, one_ml, mlp_mono, if_neg (by omega), sg_z]
      · rw [if_neg q2]
  have gz := g3.1.2.1
  refine ⟨e + κ, mlp (mono e1 (κ * mm k - κ)) (mlp g (mono e1 κ)), by omega, fun l hl => ?_, ?_, fun l => ?_, ?_⟩
  · rw [ez]
    by_cases q : κ * mm k ≤ l
    · rw [if_pos q]
      refine g2 _ (fun y => hl ?_)
      rw [show l = (l - κ * mm k) + κ * mm k by omega, Nat.add_mul_mod_self_right]
      exact y
    · rw [if_neg q]
  · have top : mlp (mono e1 (κ * mm k - κ)) (mlp g (mono e1 κ)) ((e + κ) * mm k) = e1 := by
      rw [ez, Nat.add_mul, if_pos (by omega), show e * mm k + κ * mm k - κ * mm k = e * mm k by omega, g3.2]
    refine ⟨⟨by omega, fun l hl => ?_, fun _ => ?_⟩, top⟩
    · rw [ez]
      by_cases q : κ * mm k ≤ l
      · rw [if_pos q]
        refine gz _ ?_
        have e4 : (e + κ) * mm k = e * mm k + κ * mm k := Nat.add_mul _ _ _
        omega
      · rw [if_neg q]
    · rw [show ((((e + κ) * mm k : Nat) : Int)).toNat = (e + κ) * mm k by omega, top]
      exact e1_ne
  · rw [ez]
    split
    · exact g4 _
    · rw [z0_val]
      have := pp_ge k
      omega
  · obtain ⟨q, m, hq, eg⟩ := g5
    refine InL.mul _ (mono_bd e1 _) ⟨q, m, hq, ?_⟩
    rw [eg, mlp_assoc, eA]
