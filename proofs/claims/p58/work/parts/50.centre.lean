/-! contracts: Centre -/
/-- what all commute with -/
def IsCn {k : Nat} (f : Pl k) : Prop := ∀ j : Nat, f j ≠ z0 → (f j).val < pp k ∧ j % mm k = 0
/-- a central one of degree d, its first i numbers -/
def cnI {k : Nat} (d c i : Nat) : Pl k := fun j => if j = d * mm k then e1 else if j % mm k = 0 ∧ j < i * mm k then el k (dgn (pp k) c (j / mm k)) else z0
def cnp {k : Nat} (d c : Nat) : Pl k := cnI d c d
theorem cnI_0 {k d c : Nat} : cnI (k := k) d c 0 = tpw (d * mm k) := by
  funext j
  unfold cnI tpw up1
  by_cases e : j = d * mm k
  · rw [if_pos e, if_pos e]
  · rw [if_neg e, if_neg e, if_neg (fun q => by have := q.2; rw [Nat.zero_mul] at this; omega)]
    rfl
theorem cnI_up {k d c i : Nat} (hi : i < d) : up1 (cnI (k := k) d c i) (i * mm k) (el k (dgn (pp k) c i)) = cnI d c (i + 1) := by
  have h1 : (i + 1) * mm k ≤ d * mm k := Nat.mul_le_mul_right _ hi
  have h2 := mm_pos k
  have h3 : i * mm k / mm k = i := Nat.mul_div_cancel _ h2
  have h4 : i * mm k % mm k = 0 := Nat.mul_mod_left _ _
  rw [Nat.add_mul, Nat.one_mul] at h1
  funext j
  unfold cnI up1
  dsimp only
  by_cases e : j = i * mm k
  · rw [if_pos e, e, if_neg (by omega), if_pos ⟨h4, by rw [Nat.add_mul, Nat.one_mul]; omega⟩, h3]
  · rw [if_neg e]
    by_cases e2 : j = d * mm k
    · rw [if_pos e2, if_pos e2]
    · rw [if_neg e2, if_neg e2]
      by_cases q : j % mm k = 0 ∧ j < i * mm k
      · rw [if_pos q, if_pos ⟨q.1, by rw [Nat.add_mul, Nat.one_mul]; omega⟩]
      · rw [if_neg q, if_neg (fun q2 => q ⟨q2.1, by
          have h5 := q2.2
          have h6 := Nat.div_add_mod j (mm k)
          rw [q2.1, Nat.add_zero, Nat.mul_comm] at h6
          have h7 : j / mm k < i + 1 := by
            rcases Nat.lt_or_ge (j / mm k) (i + 1) with q3 | q3
            · exact q3
            · have := Nat.mul_le_mul_right (mm k) q3
              omega
          have h8 : j / mm k ≠ i := fun q4 => e (by rw [← h6, q4])
          have h9 : (j / mm k + 1) * mm k ≤ i * mm k := Nat.mul_le_mul_right _ (by omega)
          rw [Nat.add_mul, Nat.one_mul] at h9
          omega⟩)]
theorem el_small {k n : Nat} (h : n < pp k) : n < qq k := by
  have h1 := pp_le k
  have h2 := qq_ge k
  omega
/-- the first number below n with a property; n: none -/
noncomputable def fsN (q : Nat → Prop) : Nat → Nat
  | 0 => 0
  | n + 1 => if fsN q n < n then fsN q n else if bz (q n) = 1 then n else n + 1
theorem fsN_le (q : Nat → Prop) : ∀ n : Nat, fsN q n ≤ n
  | 0 => Nat.le_refl _
  | n + 1 => by
    have := fsN_le q n
    unfold fsN
    split
    · omega
    · split <;> omega
theorem fsN_none {q : Nat → Prop} : ∀ {n : Nat}, (∀ j : Nat, j < n → ¬ q j) → fsN q n = n
  | 0, _ => rfl
  | n + 1, h => by
    unfold fsN
    rw [fsN_none (n := n) (fun j hj => h j (by omega)), if_neg (by omega), bz_neg (h n (by omega)), if_neg (by decide)]
theorem fsN_at {q : Nat → Prop} {j : Nat} (h : ∀ i : Nat, i < j → ¬ q i) (hj : q j) : ∀ {n : Nat}, j < n → fsN q n = j
  | 0, h0 => by omega
  | n + 1, h0 => by
    unfold fsN
    by_cases e : j = n
    · rw [← e, fsN_none h, if_neg (by omega), bz_pos hj, if_pos rfl]
    · rw [fsN_at h hj (n := n) (by omega), if_pos (by omega)]
theorem fsN_spec {q : Nat → Prop} : ∀ {n : Nat}, (fsN q n < n ∧ q (fsN q n) ∧ ∀ i : Nat, i < fsN q n → ¬ q i) ∨ (fsN q n = n ∧ ∀ i : Nat, i < n → ¬ q i)
  | 0 => Or.inr ⟨rfl, fun i hi => by omega⟩
  | n + 1 => by
    rcases fsN_spec (q := q) (n := n) with ⟨h1, h2, h3⟩ | ⟨h1, h2⟩
    · have e := fsN_at h3 h2 (n := n + 1) (by omega)
      rw [e]
      exact Or.inl ⟨by omega, h2, h3⟩
    · by_cases c : q n
      · have e := fsN_at h2 c (n := n + 1) (by omega)
        rw [e]
        exact Or.inl ⟨by omega, c, h2⟩
      · have h4 : ∀ i : Nat, i < n + 1 → ¬ q i := fun i hi => by
          by_cases e : i = n
          · rw [e]; exact c
          · exact h2 i (by omega)
        exact Or.inr ⟨fsN_none h4, h4⟩
/-- the greatest central one that divides x, of a degree up to d -/
noncomputable def gpD {k : Nat} (x : Pl k) : Nat → Pl k
  | 0 => one
  | d + 1 => if fsN (fun c => dr 0 x (cnp (d + 1) c) = pz) (pp k ^ (d + 1)) < pp k ^ (d + 1) then cnp (d + 1) (fsN (fun c => dr 0 x (cnp (d + 1) c) = pz) (pp k ^ (d + 1))) else gpD x d
set_option maxRecDepth 100000 in
theorem c_holds {d : Nat} {M : Mem} {k : Nat} {P : Int → Option (Pl k)} (C : CS M k P) {a : Int} {f_a : Pl k} (ha : isC P a f_a) : Ct 198 (d + 1) 105 [(1, 136), (1, a)] M (fun r M' => r = (0, bz (IsCn f_a)) ∧ M' = M) := by
  have hK : cd 105 = k105 := rfl
  have p1_ := pp_I k
  have m1_ := mm_I k
  have da_ := C.dI ha
  show Wp 198 _ 105 0 [(1, 136), (1, a), (3, 0), (3, 0)] [] M _
  refine w_ic hK rfl ?_
  refine w_is [(1, 136), (1, a), (0, 0), (3, 0)] hK rfl rfl rfl ?_
  have lp2 : ∀ (n_ : Nat) (j : Nat) (w3 : AV), 18 - j = n_ → ((j : Int) ≤ dg f_a + 1) → (∀ i : Nat, i < j → f_a i ≠ z0 → (f_a i).val < pp k ∧ i % mm k = 0) → Wp 198 (d + 1) 105 2 [(1, 136), (1, a), (0, (j : Int)), w3] [] M (fun r M' => r = (0, bz (IsCn f_a)) ∧ M' = M) := by
    intro n_
    induction n_ using Nat.strongRecOn with
    | _ n_ ih2 =>
    intro j w3  hm2 hj hn
    refine w_il hK rfl rfl ?_
    have vj_ := el_I (f_a j)
    refine w_al hK rfl rfl ?_
    refine w_pt hK rfl ha.1 ?_
    rw [show M a 1 = dg f_a from C.t ha]
    have tI_ := CS.dI C ha
    refine w_gt2 hK rfl (by omega) (by omega) (by omega) (by omega) (fun h5 => ?_) (fun h5 => ?_)
    · refine w_ic hK rfl ?_
      refine w_zret hK rfl rfl (Or.inr rfl) ?_
      exact ⟨by rw [bz_pos (p := IsCn f_a) (fun i q => by
        by_cases e : i < j
        · exact hn i e q
        · exact absurd (C.z ha (by omega)) q)], rfl⟩
    · refine w_al hK rfl rfl ?_
      refine w_getr (n := 0) (v := 1) hK rfl rfl (by decide) (by decide) rfl rfl rfl rfl ?_
      refine w_geti (n := 3) (m := 3) hK rfl rfl (by decide) (by decide) rfl rfl rfl rfl ?_
      rw [show M 1 3 = (mm k : Int) from C.F.m]
      refine w_le hK rfl (by omega) (by omega) (fun h9 => ?_) (fun h9 => ?_)
      · exfalso; omega
      · refine w_al hK rfl rfl ?_
        refine w_il hK rfl rfl ?_
        refine w_call [(1, a), (0, (j : Int))] hK rfl rfl rfl rfl (Or.inr ⟨_, _, _, rfl, ha.1.nn, ha.1.lb, ha.1.o⟩) (c_atN C ha j (by omega)) ?_
        rintro _ Mq ⟨rfl, e_⟩
        subst Mq
        have bv_ := el_I (f_a j)
        refine ⟨by show (0 : Nat) ≠ 9; decide, (?_ : Wp 198 _ 105 13 [(1, 136), (1, a), (0, (j : Int)), w3] [(0, ((f_a j).val : Int))] M _)⟩
        refine w_is [(1, 136), (1, a), (0, (j : Int)), (0, ((f_a j).val : Int))] hK rfl rfl rfl ?_
        refine w_il hK rfl rfl ?_
        refine w_al hK rfl rfl ?_
        refine w_getr (n := 0) (v := 1) hK rfl rfl (by decide) (by decide) rfl rfl rfl rfl ?_
        refine w_geti (n := 2) (m := 2) hK rfl rfl (by decide) (by decide) rfl rfl rfl rfl ?_
        rw [show M 1 2 = (pp k : Int) from C.F.p]
        refine w_ge2 hK rfl (by omega) (by omega) (by omega) (by omega) (fun h18 => ?_) (fun h18 => ?_)
        · refine w_ic hK rfl ?_
          refine w_zret hK rfl rfl (Or.inl rfl) ?_
          exact ⟨by rw [bz_neg (p := IsCn f_a) (fun q => by
            have q2 := q j (fun e => by have := z0_iff.mp e; omega)
            omega)], rfl⟩
        · refine w_il hK rfl rfl ?_
          refine w_eq hK rfl (by omega) (by omega) (fun h20 => ?_) (fun h20 => ?_)
          · refine w_inc [(1, 136), (1, a), (0, ((j : Int) + 1)), (0, ((f_a j).val : Int))] hK rfl rfl rfl (by omega) (by omega) rfl ?_
            refine w_goto hK rfl ?_
            exact ih2 _ (by omega) (j + 1) (0, ((f_a j).val : Int))  rfl (by omega) (fun i hi q => by
              by_cases e : i = j
              · subst e
                exact absurd (z0_iff.mpr (by omega)) q
              · exact hn i (by omega) q)
          · refine w_il hK rfl rfl ?_
            refine w_al hK rfl rfl ?_
            refine w_getr (n := 0) (v := 1) hK rfl rfl (by decide) (by decide) rfl rfl rfl rfl ?_
            refine w_geti (n := 3) (m := 3) hK rfl rfl (by decide) (by decide) rfl rfl rfl rfl ?_
            rw [show M 1 3 = (mm k : Int) from C.F.m]
            refine w_rem hK rfl (by omega) (by omega) (by omega) (by omega) ?_
            rw [modI]
            have mj_ := Nat.mod_lt j (mm_pos k)
            refine w_eq hK rfl (by omega) (by omega) (fun h26 => ?_) (fun h26 => ?_)
            · refine w_inc [(1, 136), (1, a), (0, ((j : Int) + 1)), (0, ((f_a j).val : Int))] hK rfl rfl rfl (by omega) (by omega) rfl ?_
              refine w_goto hK rfl ?_
              exact ih2 _ (by omega) (j + 1) (0, ((f_a j).val : Int))  rfl (by omega) (fun i hi q => by
                by_cases e : i = j
                · subst e
                  exact ⟨by omega, by omega⟩
                · exact hn i (by omega) q)
            · refine w_ic hK rfl ?_
              refine w_zret hK rfl rfl (Or.inl rfl) ?_
              exact ⟨by rw [bz_neg (p := IsCn f_a) (fun q => by
                have q2 := q j (fun e => by have := z0_iff.mp e; omega)
                omega)], rfl⟩
  exact lp2 _ 0 (3, 0)  rfl (by omega) (fun i hi => by omega)
set_option maxRecDepth 100000 in
theorem c_bcen {d : Nat} {M : Mem} {k : Nat} {P : Int → Option (Pl k)} (C : CS M k P) {o : Int} (ho : isP o) (e c : Nat) (he : e * mm k ≤ 16) (he2 : e ≤ 8) (hc : c ≤ 65536) : Ct 198 (d + 2) 108 [(1, 136), (1, o), (0, (e : Int)), (0, (c : Int))] M (fun r M' => r = (4, 0) ∧ CS M' k (pu P o (cnp e c)) ∧ (∀ a : Int, (∀ p : Int, isP p → a ≠ p ∧ a ≠ p + 1) → M' a = M a)) := by
  have hK : cd 108 = k108 := rfl
  have p1_ := pp_I k
  have m1_ := mm_I k
  have emI_ : ((e * mm k : Nat) : Int) = (e : Int) * (mm k : Int) := Int.natCast_mul ..
  show Wp 198 _ 108 0 [(1, 136), (1, o), (0, (e : Int)), (0, (c : Int)), (3, 0), (3, 0)] [] M _
  refine w_al hK rfl rfl ?_
  refine w_il hK rfl rfl ?_
  refine w_al hK rfl rfl ?_
  refine w_getr (n := 0) (v := 1) hK rfl rfl (by decide) (by decide) rfl rfl rfl rfl ?_
  refine w_geti (n := 3) (m := 3) hK rfl rfl (by decide) (by decide) rfl rfl rfl rfl ?_
  rw [show M 1 3 = (mm k : Int) from C.F.m]
  refine w_mul hK rfl (by omega) (by omega) ?_
  rw [← emI_]
  refine w_call [(1, o), (0, ((e * mm k : Nat) : Int))] hK rfl rfl rfl rfl (Or.inr ⟨_, _, _, rfl, ho.nn, ho.lb, ho.o⟩) (c_becT C ho (e * mm k : Nat) (by omega)) ?_
  rintro _ V92 ⟨rfl, C92, S92⟩
  refine ⟨by decide, (?_ : Wp 198 _ 108 7 [(1, 136), (1, o), (0, (e : Int)), (0, (c : Int)), (3, 0), (3, 0)] [] V92 _)⟩
  refine w_il hK rfl rfl ?_
  refine w_is [(1, 136), (1, o), (0, (e : Int)), (0, (c : Int)), (0, (c : Int)), (3, 0)] hK rfl rfl rfl ?_
  refine w_ic hK rfl ?_
  refine w_is [(1, 136), (1, o), (0, (e : Int)), (0, (c : Int)), (0, (c : Int)), (0, 0)] hK rfl rfl rfl ?_
  have lp11 : ∀ (n_ : Nat) (i : Nat) (N11 : Mem), e - i = n_ → (i ≤ e) → (CS N11 k (pu P o (cnI e c i))) → ((∀ a : Int, (∀ p : Int, isP p → a ≠ p ∧ a ≠ p + 1) → N11 a = M a)) → Wp 198 (d + 2) 108 11 [(1, 136), (1, o), (0, (e : Int)), (0, (c : Int)), (0, ((c / pp k ^ i : Nat) : Int)), (0, (i : Int))] [] N11 (fun r M' => r = (4, 0) ∧ CS M' k (pu P o (cnp e c)) ∧ (∀ a : Int, (∀ p : Int, isP p → a ≠ p ∧ a ≠ p + 1) → M' a = M a)) := by
    intro n_
    induction n_ using Nat.strongRecOn with
    | _ n_ ih11 =>
    intro i N11 hm11 hi hC hF
    have rn_ : (0 : Int) ≤ ((c / pp k ^ i : Nat) : Int) := Int.natCast_nonneg _
    have rs_ : c / pp k ^ i ≤ c := Nat.div_le_self _ _
    have ie_ : i * mm k ≤ e * mm k := Nat.mul_le_mul_right _ hi
    have imI_ : ((i * mm k : Nat) : Int) = (i : Int) * (mm k : Int) := Int.natCast_mul ..
    refine w_il hK rfl rfl ?_
    refine w_il hK rfl rfl ?_
    refine w_ge2 hK rfl (by omega) (by omega) (by omega) (by omega) (fun h13 => ?_) (fun h13 => ?_)
    · refine w_ret hK rfl rfl ?_
      have ei_ : i = e := by omega
      rw [ei_] at hC
      exact ⟨rfl, hC, hF⟩
    · refine w_al hK rfl rfl ?_
      refine w_getr (n := 0) (v := 1) hK rfl rfl (by decide) (by decide) rfl rfl rfl rfl ?_
      refine w_geti (n := 2) (m := 2) hK rfl rfl (by decide) (by decide) rfl rfl rfl rfl ?_
      rw [show N11 1 2 = (pp k : Int) from hC.F.p]
      refine w_le hK rfl (by omega) (by omega) (fun h17 => ?_) (fun h17 => ?_)
      · exfalso; omega
      · refine w_al hK rfl rfl ?_
        refine w_il hK rfl rfl ?_
        refine w_al hK rfl rfl ?_
        refine w_getr (n := 0) (v := 1) hK rfl rfl (by decide) (by decide) rfl rfl rfl rfl ?_
        refine w_geti (n := 3) (m := 3) hK rfl rfl (by decide) (by decide) rfl rfl rfl rfl ?_
        rw [show N11 1 3 = (mm k : Int) from hC.F.m]
        refine w_mul hK rfl (by omega) (by omega) ?_
        refine w_il hK rfl rfl ?_
        refine w_al hK rfl rfl ?_
        refine w_getr (n := 0) (v := 1) hK rfl rfl (by decide) (by decide) rfl rfl rfl rfl ?_
        refine w_geti (n := 2) (m := 2) hK rfl rfl (by decide) (by decide) rfl rfl rfl rfl ?_
        rw [show N11 1 2 = (pp k : Int) from hC.F.p]
        refine w_rem hK rfl (by omega) (by omega) (by omega) (by omega) ?_
        rw [modI, ← imI_, show (c / pp k ^ i % pp k : Nat) = dgn (pp k) c i from rfl]
        have dl_ := dgn_lt (pp_ge k) c i
        have ds_ := el_small dl_
        refine w_call [(1, o), (0, ((i * mm k : Nat) : Int)), (0, ((dgn (pp k) c i : Nat) : Int))] hK rfl rfl rfl rfl (Or.inr ⟨_, _, _, rfl, ho.nn, ho.lb, ho.o⟩) (Ct.cv (c_putN hC ⟨ho, pu_eq⟩ (i * mm k : Nat) (el k (dgn (pp k) c i : Nat)) (by omega)) (by simp only [(elN (k := k) (n := (dgn (pp k) c i : Nat)) (by omega))]; try rfl)) ?_
        rintro _ V93 ⟨rfl, C93, S93⟩
        rw [pu_pu (P := P) (p := o) (f := cnI e c i) (g := up1 (cnI e c i) (i * mm k : Nat) (el k (dgn (pp k) c i : Nat)))] at C93
        refine ⟨by decide, (?_ : Wp 198 _ 108 30 [(1, 136), (1, o), (0, (e : Int)), (0, (c : Int)), (0, ((c / pp k ^ i : Nat) : Int)), (0, (i : Int))] [] V93 _)⟩
        refine w_il hK rfl rfl ?_
        refine w_al hK rfl rfl ?_
        refine w_getr (n := 0) (v := 1) hK rfl rfl (by decide) (by decide) rfl rfl rfl rfl ?_
        refine w_geti (n := 2) (m := 2) hK rfl rfl (by decide) (by decide) rfl rfl rfl rfl ?_
        rw [show V93 1 2 = (pp k : Int) from C93.F.p]
        refine w_div hK rfl (by omega) (by omega) (by omega) (by omega) ?_
        rw [divI]
        refine w_is [(1, 136), (1, o), (0, (e : Int)), (0, (c : Int)), (0, ((c / pp k ^ i / pp k : Nat) : Int)), (0, (i : Int))] hK rfl rfl rfl ?_
        refine w_inc [(1, 136), (1, o), (0, (e : Int)), (0, (c : Int)), (0, ((c / pp k ^ i / pp k : Nat) : Int)), (0, ((i : Int) + 1))] hK rfl rfl rfl (by omega) (by omega) rfl ?_
        refine w_goto hK rfl ?_
        have q11 := ih11 _ (by omega) (i + 1) V93 rfl (by omega) (by have h_ := C93; rw [cnI_up (by omega)] at h_; exact h_) (fun a np_ => ((S93 a np_).trans (hF a np_)))
        rw [show (c / pp k ^ (i + 1) : Nat) = c / pp k ^ i / pp k by rw [Nat.pow_succ, Nat.div_div_eq_div_mul]] at q11
        exact q11
  have q11 := lp11 _ 0 V92 rfl (by omega) (cnI_0.symm ▸ C92) (fun a np_ => (S92 a np_))
  rw [show (c / pp k ^ 0 : Nat) = c by rw [Nat.pow_zero, Nat.div_one]] at q11
  exact q11
set_option maxRecDepth 100000 in
theorem c_gpart {d : Nat} {M : Mem} {k : Nat} {P : Int → Option (Pl k)} (C : CS M k P) {a o : Int} {f_a : Pl k} (ha : isC P a f_a) (ho : isP o) (na_ : a ≠ 10 ∧ a ≠ 12 ∧ a ≠ o) (no_ : o ≠ 10 ∧ o ≠ 12) (d0_ : 0 ≤ dg f_a) (d8_ : dg f_a ≤ 8) : Ct 198 (d + 5) 107 [(1, 136), (1, a), (1, o)] M (fun r_ M' => ∃ P' : Int → Option (Pl k), r_ = (4, 0) ∧ CS M' k P' ∧ (∀ a : Int, (∀ p : Int, isP p → a ≠ p ∧ a ≠ p + 1) → M' a = M a) ∧ (∀ p : Int, p ≠ 10 → p ≠ 12 → p ≠ o → P' p = P p) ∧ P' o = some (gpD f_a (dg f_a / (mm k : Int)).toNat)) := by
  have hK : cd 107 = k107 := rfl
  have p1_ := pp_I k
  have m1_ := mm_I k
  have pt_ := pm_two k
  have dv0_ : 0 ≤ dg f_a / (mm k : Int) := Int.ediv_nonneg d0_ (by omega)
  have dv1_ : dg f_a / (mm k : Int) * (mm k : Int) ≤ dg f_a := Int.ediv_mul_le _ (by omega)
  have dv2_ : dg f_a / (mm k : Int) ≤ dg f_a := Int.ediv_le_self _ d0_
  show Wp 198 _ 107 0 [(1, 136), (1, a), (1, o), (3, 0), (3, 0), (3, 0)] [] M _
  refine w_al hK rfl rfl ?_
  refine w_getr (n := 0) (v := 1) hK rfl rfl (by decide) (by decide) rfl rfl rfl rfl ?_
  refine w_geti (n := 3) (m := 3) hK rfl rfl (by decide) (by decide) rfl rfl rfl rfl ?_
  rw [show M 1 3 = (mm k : Int) from C.F.m]
  refine w_le hK rfl (by omega) (by omega) (fun h3 => ?_) (fun h3 => ?_)
  · exfalso; omega
  · refine w_al hK rfl rfl ?_
    refine w_pt hK rfl ha.1 ?_
    rw [show M a 1 = dg f_a from C.t ha]
    have tI_ := CS.dI C ha
    refine w_al hK rfl rfl ?_
    refine w_getr (n := 0) (v := 1) hK rfl rfl (by decide) (by decide) rfl rfl rfl rfl ?_
    refine w_geti (n := 3) (m := 3) hK rfl rfl (by decide) (by decide) rfl rfl rfl rfl ?_
    rw [show M 1 3 = (mm k : Int) from C.F.m]
    refine w_div hK rfl (by omega) (by omega) (by omega) (by omega) ?_
    refine w_goto hK rfl ?_
    refine w_is [(1, 136), (1, a), (1, o), (0, ((dg f_a) / (mm k : Int))), (3, 0), (3, 0)] hK rfl rfl rfl ?_
    have lp13 : ∀ (n_ : Nat) (e : Nat) (P1 : Int → Option (Pl k)) (w4 w5 : AV) (N13 : Mem), e = n_ → ((e : Int) ≤ dg f_a / (mm k : Int)) → (CS N13 k P1) → ((∀ p : Int, p ≠ 10 → p ≠ 12 → p ≠ o → P1 p = P p)) → ((∀ a : Int, (∀ p : Int, isP p → a ≠ p ∧ a ≠ p + 1) → N13 a = M a)) → (gpD f_a e = gpD f_a (dg f_a / (mm k : Int)).toNat) → Wp 198 (d + 5) 107 13 [(1, 136), (1, a), (1, o), (0, (e : Int)), w4, w5] [] N13 (fun r_ M' => ∃ P' : Int → Option (Pl k), r_ = (4, 0) ∧ CS M' k P' ∧ (∀ a : Int, (∀ p : Int, isP p → a ≠ p ∧ a ≠ p + 1) → M' a = M a) ∧ (∀ p : Int, p ≠ 10 → p ≠ 12 → p ≠ o → P' p = P p) ∧ P' o = some (gpD f_a (dg f_a / (mm k : Int)).toNat)) := by
      intro n_
      induction n_ using Nat.strongRecOn with
      | _ n_ ih13 =>
      intro e P1 w4 w5 N13 hm13 he hC hP hF hg
      have em_ : (e : Int) * (mm k : Int) ≤ dg f_a / (mm k : Int) * (mm k : Int) := Int.mul_le_mul_of_nonneg_right he (by omega)
      have e2_ : (e : Int) * 2 ≤ (e : Int) * (mm k : Int) := Int.mul_le_mul_of_nonneg_left m1_.1 (by omega)
      refine w_il hK rfl rfl ?_
      refine w_le hK rfl (by omega) (by omega) (fun h14 => ?_) (fun h14 => ?_)
      · refine w_al hK rfl rfl ?_
        refine w_ic hK rfl ?_
        refine w_call [(1, o), (0, 1)] hK rfl rfl rfl rfl (Or.inr ⟨_, _, _, rfl, ho.nn, ho.lb, ho.o⟩) (Ct.cv (c_bec hC ho e1) (by simp only [el1]; try rfl)) ?_
        rintro _ V94 ⟨rfl, C94, S94⟩
        refine ⟨by decide, (?_ : Wp 198 _ 107 54 [(1, 136), (1, a), (1, o), (0, (e : Int)), w4, w5] [] V94 _)⟩
        refine w_ret hK rfl rfl ?_
        have e0_ : e = 0 := by omega
        rw [e0_] at hg
        exact ⟨_, rfl, C94, (fun a np_ => ((S94 a np_).trans (hF a np_))), (fun p pn10_ pn12_ pno_ => ((pu_ne (P := P1) (f := cst e1) (show p ≠ o by omega)).trans (hP p pn10_ pn12_ pno_))), pu_eq.trans (congrArg some hg)⟩
      · refine w_ic hK rfl ?_
        refine w_is [(1, 136), (1, a), (1, o), (0, (e : Int)), (0, 1), w5] hK rfl rfl rfl ?_
        refine w_ic hK rfl ?_
        refine w_is [(1, 136), (1, a), (1, o), (0, (e : Int)), (0, 1), (0, 0)] hK rfl rfl rfl ?_
        have lp19 : ∀ (n_ : Nat) (i : Nat), 9 - i = n_ → (i ≤ e) → Wp 198 (d + 5) 107 19 [(1, 136), (1, a), (1, o), (0, (e : Int)), (0, ((pp k ^ i : Nat) : Int)), (0, (i : Int))] [] N13 (fun r_ M' => ∃ P' : Int → Option (Pl k), r_ = (4, 0) ∧ CS M' k P' ∧ (∀ a : Int, (∀ p : Int, isP p → a ≠ p ∧ a ≠ p + 1) → M' a = M a) ∧ (∀ p : Int, p ≠ 10 → p ≠ 12 → p ≠ o → P' p = P p) ∧ P' o = some (gpD f_a (dg f_a / (mm k : Int)).toNat)) := by
          intro n_
          induction n_ using Nat.strongRecOn with
          | _ n_ ih19 =>
          intro i  hm19 hi
          have pw_ := ppow_le k (r := i) (by omega) (by omega)
          have pwI_ : ((pp k ^ (i + 1) : Nat) : Int) = ((pp k ^ i : Nat) : Int) * (pp k : Int) := by rw [Nat.pow_succ, Int.natCast_mul]
          have pw2_ := ppow_le k (r := i + 1) (by omega) (by omega)
          refine w_il hK rfl rfl ?_
          refine w_il hK rfl rfl ?_
          refine w_ge2 hK rfl (by omega) (by omega) (by omega) (by omega) (fun h21 => ?_) (fun h21 => ?_)
          · have ei_ : i = e := by omega
            rw [ei_]
            have emI_ : ((e * mm k : Nat) : Int) = (e : Int) * (mm k : Int) := Int.natCast_mul ..
            have pwe_ := ppow_le k (r := e) (by omega) (by omega)
            refine w_ic hK rfl ?_
            refine w_is [(1, 136), (1, a), (1, o), (0, (e : Int)), (0, ((pp k ^ e : Nat) : Int)), (0, 0)] hK rfl rfl rfl ?_
            have lp32 : ∀ (n_ : Nat) (c : Nat) (P2 : Int → Option (Pl k)) (N32 : Mem), 65537 - c = n_ → (c ≤ pp k ^ e) → (CS N32 k P2) → ((∀ p : Int, p ≠ 10 → p ≠ 12 → p ≠ o → P2 p = P p)) → ((∀ a : Int, (∀ p : Int, isP p → a ≠ p ∧ a ≠ p + 1) → N32 a = M a)) → (∀ j : Nat, j < c → ¬ dr 0 f_a (cnp e j) = pz) → Wp 198 (d + 5) 107 32 [(1, 136), (1, a), (1, o), (0, (e : Int)), (0, ((pp k ^ e : Nat) : Int)), (0, (c : Int))] [] N32 (fun r_ M' => ∃ P' : Int → Option (Pl k), r_ = (4, 0) ∧ CS M' k P' ∧ (∀ a : Int, (∀ p : Int, isP p → a ≠ p ∧ a ≠ p + 1) → M' a = M a) ∧ (∀ p : Int, p ≠ 10 → p ≠ 12 → p ≠ o → P' p = P p) ∧ P' o = some (gpD f_a (dg f_a / (mm k : Int)).toNat)) := by
              intro n_
              induction n_ using Nat.strongRecOn with
              | _ n_ ih32 =>
              intro c P2 N32 hm32 hc hC hP hF hn
              refine w_il hK rfl rfl ?_
              refine w_il hK rfl rfl ?_
              refine w_ge2 hK rfl (by omega) (by omega) (by omega) (by omega) (fun h34 => ?_) (fun h34 => ?_)
              · refine w_inc [(1, 136), (1, a), (1, o), (0, ((e : Int) + (-1))), (0, ((pp k ^ e : Nat) : Int)), (0, (c : Int))] hK rfl rfl rfl (by omega) (by omega) rfl ?_
                refine w_goto hK rfl ?_
                have q13 := ih13 _ (by omega) (e - 1) P2 (0, ((pp k ^ e : Nat) : Int)) (0, (c : Int)) N32 rfl (by omega) hC hP hF (by
                  rw [← hg]
                  obtain ⟨f, ef⟩ : ∃ f : Nat, e = f + 1 := ⟨e - 1, by omega⟩
                  subst ef
                  have ec_ : c = pp k ^ (f + 1) := by omega
                  have n_ := fsN_none (q := (fun c => dr 0 f_a (cnp (f + 1) c) = pz)) (n := pp k ^ (f + 1)) (fun j hj => hn j (by omega))
                  show gpD f_a f = (if _ then _ else gpD f_a f)
                  rw [n_, if_neg (by omega)])
                rw [show ((e - 1 : Nat) : Int) = (e : Int) + (-1) by omega] at q13
                exact q13
              · refine w_al hK rfl rfl ?_
                refine w_al hK rfl rfl ?_
                refine w_il hK rfl rfl ?_
                refine w_il hK rfl rfl ?_
                refine w_call [(1, 136), (1, o), (0, (e : Int)), (0, (c : Int))] hK rfl rfl rfl rfl (Or.inr ⟨_, _, _, rfl, by decide, (by decide), rfl⟩) (c_bcen hC ho e c (by omega) (by omega) (by omega)) ?_
                rintro _ V95 ⟨rfl, C95, S95⟩
                refine ⟨by decide, (?_ : Wp 198 _ 107 40 [(1, 136), (1, a), (1, o), (0, (e : Int)), (0, ((pp k ^ e : Nat) : Int)), (0, (c : Int))] [] V95 _)⟩
                refine w_al hK rfl rfl ?_
                refine w_getr (n := 1) (v := 7) hK rfl rfl (by decide) (by decide) rfl rfl rfl rfl ?_
                refine w_al hK rfl rfl ?_
                refine w_al hK rfl rfl ?_
                refine w_call [(1, 7), (1, o), (1, a)] hK rfl rfl rfl rfl (Or.inr ⟨_, _, _, rfl, by decide, (by decide), rfl⟩) (c_dvs C95 ⟨ho, pu_eq⟩ ⟨ha.1, ((pu_ne (P := P2) (f := cnp e c) (show a ≠ o by omega)).trans ((hP a (by omega) (by omega) (by omega)).trans ha.2))⟩ (by omega) (by omega) (by omega) (by omega)) ?_
                rintro _ V96 ⟨rfl, C96, S96⟩
                have bv_ := bz_01 (dr 0 f_a (cnp e c) = pz)
                refine ⟨(by show (0 : Nat) ≠ 9; decide), (?_ : Wp 198 _ 107 45 [(1, 136), (1, a), (1, o), (0, (e : Int)), (0, ((pp k ^ e : Nat) : Int)), (0, (c : Int))] [(0, (bz (dr 0 f_a (cnp e c) = pz)))] V96 _)⟩
                refine w_eq hK rfl (by omega) (by omega) (fun h45 => ?_) (fun h45 => ?_)
                · refine w_inc [(1, 136), (1, a), (1, o), (0, (e : Int)), (0, ((pp k ^ e : Nat) : Int)), (0, ((c : Int) + 1))] hK rfl rfl rfl (by omega) (by omega) rfl ?_
                  refine w_goto hK rfl ?_
                  exact ih32 _ (by omega) (c + 1) _ V96 rfl (by omega) C96 (fun p pn10_ pn12_ pno_ => ((pu_ne (P := pu (pu P2 o (cnp e c)) 10 (dq 0 f_a (cnp e c))) (f := dr 0 f_a (cnp e c)) (show p ≠ 12 by omega)).trans ((pu_ne (P := pu P2 o (cnp e c)) (f := dq 0 f_a (cnp e c)) (show p ≠ 10 by omega)).trans ((pu_ne (P := P2) (f := cnp e c) (show p ≠ o by omega)).trans (hP p pn10_ pn12_ pno_))))) (fun a np_ => ((S96 a np_).trans ((S95 a np_).trans (hF a np_)))) (fun j hj => by
                    by_cases q : j = c
                    · rw [q]; exact bz_no h45
                    · exact hn j (by omega))
                · refine w_ret hK rfl rfl ?_
                  refine ⟨_, rfl, C96, (fun a np_ => ((S96 a np_).trans ((S95 a np_).trans (hF a np_)))), (fun p pn10_ pn12_ pno_ => ((pu_ne (P := pu (pu P2 o (cnp e c)) 10 (dq 0 f_a (cnp e c))) (f := dr 0 f_a (cnp e c)) (show p ≠ 12 by omega)).trans ((pu_ne (P := pu P2 o (cnp e c)) (f := dq 0 f_a (cnp e c)) (show p ≠ 10 by omega)).trans ((pu_ne (P := P2) (f := cnp e c) (show p ≠ o by omega)).trans (hP p pn10_ pn12_ pno_))))), ((pu_ne (P := pu (pu P2 o (cnp e c)) 10 (dq 0 f_a (cnp e c))) (f := dr 0 f_a (cnp e c)) (show o ≠ 12 by omega)).trans ((pu_ne (P := pu P2 o (cnp e c)) (f := dq 0 f_a (cnp e c)) (show o ≠ 10 by omega)).trans pu_eq)).trans (congrArg some ?_)⟩
                  rw [← hg]
                  obtain ⟨f, ef⟩ : ∃ f : Nat, e = f + 1 := ⟨e - 1, by omega⟩
                  subst ef
                  have n_ := fsN_at (q := (fun c => dr 0 f_a (cnp (f + 1) c) = pz)) hn (bz_yes h45) (n := pp k ^ (f + 1)) (by omega)
                  show _ = (if _ then _ else gpD f_a f)
                  rw [n_, if_pos (by omega)]
            exact lp32 _ 0 P1 N13 rfl (by omega) hC hP hF (fun j hj => by omega)
          · refine w_il hK rfl rfl ?_
            refine w_al hK rfl rfl ?_
            refine w_getr (n := 0) (v := 1) hK rfl rfl (by decide) (by decide) rfl rfl rfl rfl ?_
            refine w_geti (n := 2) (m := 2) hK rfl rfl (by decide) (by decide) rfl rfl rfl rfl ?_
            rw [show N13 1 2 = (pp k : Int) from hC.F.p]
            refine w_mul hK rfl (by omega) (by omega) ?_
            refine w_is [(1, 136), (1, a), (1, o), (0, (e : Int)), (0, (((pp k ^ i : Nat) : Int) * (pp k : Int))), (0, (i : Int))] hK rfl rfl rfl ?_
            refine w_inc [(1, 136), (1, a), (1, o), (0, (e : Int)), (0, (((pp k ^ i : Nat) : Int) * (pp k : Int))), (0, ((i : Int) + 1))] hK rfl rfl rfl (by omega) (by omega) rfl ?_
            refine w_goto hK rfl ?_
            have q19 := ih19 _ (by omega) (i + 1)  rfl (by omega)
            rw [pwI_] at q19
            exact q19
        have q19 := lp19 _ 0  rfl (by omega)
        rw [show ((pp k ^ 0 : Nat) : Int) = 1 by rw [Nat.pow_zero]; rfl] at q19
        exact q19
    have eI_ : (((dg f_a / (mm k : Int)).toNat : Nat) : Int) = dg f_a / (mm k : Int) := by omega
    have q13 := lp13 _ (dg f_a / (mm k : Int)).toNat P (3, 0) (3, 0) M rfl (by omega) C (fun p _ _ _ => rfl) (fun a _ => rfl) rfl
    rw [eI_] at q13
    exact q13
