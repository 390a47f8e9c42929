/-! bound: the class's relation is the search's find */ -/
theorem stN_dr {k n : Nat} {A : Pl k} (hA : IsDg A (n : Int)) : ∀ l : Nat, stN A l = dr 0 (mono e1 l) A
  | 0 => rfl
  | l + 1 => by
    have ih := stN_dr hA l
    have hb : Bd (mlp (mono e1 1) (stN A l)) (2 + n) := Bd_mlp (mono_bd _ _) (stN_bd hA l)
    have hr : Bd (stN A (l + 1)) n := stN_bd hA (l + 1)
    refine (dr_of (m := 0) hA hr ?_).symm
    have d1 : InL (sbp (mlp (mono e1 1) (stN A l)) (stN A (l + 1))) A := dr_sub hA hb
    have d2 : InL (mlp (mono e1 1) (sbp (mono e1 l) (stN A l))) A := by
      rw [ih]
      exact (dr_sub hA (mono_bd e1 l)).mul _ (mono_bd e1 1)
    have e : sbp (mono e1 (l + 1)) (stN A (l + 1)) = adp (mlp (mono e1 1) (sbp (mono e1 l) (stN A l))) (sbp (mlp (mono e1 1) (stN A l)) (stN A (l + 1))) := by
      rw [mlp_sbp, tp_mul, show 1 + l = l + 1 by omega]
      generalize mlp (mono e1 1) (stN A l) = f
      funext j
      show ad (mono e1 (l + 1) j) (ng (stN A (l + 1) j)) = ad (ad (mono e1 (l + 1) j) (ng (f j))) (ad (f j) (ng (stN A (l + 1) j)))
      rw [ad_assoc, ← ad_assoc (ng (f j)), ad_comm (ng (f j)), ad_neg, zero_ad]
    rw [e]
    exact d2.add d1
theorem lcb_tp {k : Nat} {w : Nat → Nat} : ∀ (o l : Nat), lcb w (fun j => mono (e1 : El k) (j * mm k)) o l = if l % mm k = 0 ∧ l / mm k < o then el k (w (l / mm k)) else z0
  | 0, l => (if_neg (fun q => Nat.not_lt_zero _ q.2)).symm
  | o + 1, l => by
    have hm := mm_pos k
    show ad (lcb w _ o l) (ml (el k (w o)) (if l = o * mm k then e1 else z0)) = _
    rw [lcb_tp o l]
    have dm := Nat.div_add_mod l (mm k)
    by_cases q : l = o * mm k
    · have q1 : l % mm k = 0 := by rw [q, Nat.mul_mod_left]
      have q2 : l / mm k = o := by rw [q, Nat.mul_div_cancel _ hm]
      rw [if_pos q, if_neg (by omega), if_pos ⟨q1, by omega⟩, ml_one, zero_ad, q2]
    · rw [if_neg q, ml_zero, ad_zero]
      have q3 : ¬ (l % mm k = 0 ∧ l / mm k = o) := fun y => q (by
        rw [y.1, y.2, Nat.add_zero, Nat.mul_comm] at dm
        exact dm.symm)
      by_cases y : l % mm k = 0 ∧ l / mm k < o
      · rw [if_pos y, if_pos ⟨y.1, by omega⟩]
      · rw [if_neg y, if_neg (fun z => y ⟨z.1, by
          have : l / mm k ≠ o := fun z2 => q3 ⟨z.1, z2⟩
          omega⟩)]
theorem lcb_dr {k n : Nat} {A : Pl k} (hA : IsDg A (n : Int)) {u : Nat → Nat} (hu : ∀ j, u j < pp k) {Y : Nat → Pl k} (hY : ∀ j, ∃ m, Bd (Y j) m) : ∀ o : Nat, (∃ m, Bd (lcb u Y o) m) ∧ lcb u (fun j => dr 0 (Y j) A) o = dr 0 (lcb u Y o) A
  | 0 => ⟨⟨0, fun _ _ => rfl⟩, (dr_pz hA).symm⟩
  | o + 1 => by
    obtain ⟨⟨m, hm⟩, ih⟩ := lcb_dr hA hu hY o
    obtain ⟨m', hm'⟩ := hY o
    refine ⟨⟨m + m', Bd_adp hm (scl_b hm')⟩, ?_⟩
    show adp (lcb u _ o) (scl _ (dr 0 (Y o) A)) = dr 0 (adp (lcb u Y o) (scl (el k (u o)) (Y o))) A
    rw [ih, dr_lin hA hm hm']
theorem lcb_st {k n : Nat} {A : Pl k} (hA : IsDg A (n : Int)) {u : Nat → Nat} (hu : ∀ j, u j < pp k) (o : Nat) : lcb u (fun t_ : Nat => stN A (t_ * mm k)) o = dr 0 (lcb u (fun j => mono (e1 : El k) (j * mm k)) o) A := by
  rw [← (lcb_dr hA hu (Y := fun j => mono e1 (j * mm k)) (fun j => ⟨_, mono_bd _ _⟩) o).2]
  exact lcb_X (fun j _ => stN_dr hA (j * mm k))
/-- nine of them are never independent -/
theorem hex_all {k n : Nat} {A : Pl k} (hA : IsDg A (n : Int)) (n8 : n ≤ 8) (ρ : Nat → Pl k) (w : Nat → Nat → Nat) (pv : Nat → Nat) : ¬ SPp n (fun t_ : Nat => stN A (t_ * mm k)) 9 9 ρ w pv (fun r => r) := fun hS => by
  have hm := mm_pos k
  have hp := pp_ge k
  obtain ⟨e, z, h1, h2, h3, h4, h5⟩ := cen_all hA
  have h3d : IsDg z ((e * mm k : Nat) : Int) := h3.1
  have hv : ∀ j : Nat, (if j < 9 then (z (j * mm k)).val else 0) < pp k := fun j => by
    split
    · exact h4 _
    · omega
  have hz : lcb (fun j => if j < 9 then (z (j * mm k)).val else 0) (fun j => mono (e1 : El k) (j * mm k)) 9 = z := by
    funext l
    rw [lcb_tp]
    have dm := Nat.div_add_mod l (mm k)
    by_cases q : l % mm k = 0 ∧ l / mm k < 9
    · rw [if_pos q]
      rw [q.1, Nat.add_zero, Nat.mul_comm] at dm
      rw [if_pos q.2, dm, el_val]
    · rw [if_neg q]
      by_cases q2 : l % mm k = 0
      · have q3 : 9 ≤ l / mm k := by omega
        have q4 : 9 * mm k ≤ l / mm k * mm k := Nat.mul_le_mul_right _ q3
        have q5 : e * mm k ≤ 8 * mm k := Nat.mul_le_mul_right _ (by omega)
        rw [q2, Nat.add_zero, Nat.mul_comm] at dm
        exact (h3d.2.1 l (by omega)).symm
      · exact (h2 l q2).symm
  have h0 := lcb_st hA hv 9
  rw [hz, h5.lf hA] at h0
  have w0 := ech_ind hS hv (fun j hj => ⟨j, by
    rcases Nat.lt_or_ge j 9 with q | q
    · exact q
    · exact absurd (if_neg (by omega)) hj, rfl⟩) h0 e
  rw [if_pos (by omega), h3.2, e1_val] at w0
  omega
/-- the number of what the class finds -/
theorem cnp_lcb {k : Nat} (e c : Nat) : cnp (k := k) e c = lcb (fun j => if j < e then dgn (pp k) c j else if j = e then 1 else 0) (fun j => mono (e1 : El k) (j * mm k)) (e + 1) := by
  have hm := mm_pos k
  funext l
  rw [lcb_tp]
  show (if l = e * mm k then e1 else if l % mm k = 0 ∧ l < e * mm k then el k (dgn (pp k) c (l / mm k)) else z0) = _
  have dm := Nat.div_add_mod l (mm k)
  by_cases q : l = e * mm k
  · have q1 : l % mm k = 0 := by rw [q, Nat.mul_mod_left]
    have q2 : l / mm k = e := by rw [q, Nat.mul_div_cancel _ hm]
    rw [if_pos q, if_pos ⟨q1, by omega⟩, q2, if_neg (by omega), if_pos rfl]
    rfl
  · rw [if_neg q]
    by_cases q0 : l % mm k = 0
    · rw [q0, Nat.add_zero, Nat.mul_comm] at dm
      by_cases q1 : l < e * mm k
      · have q2 : l / mm k < e := by
          rcases Nat.lt_or_ge (l / mm k) e with y | y
          · exact y
          · have := Nat.mul_le_mul_right (mm k) y
            omega
        rw [if_pos ⟨q0, q1⟩, if_pos ⟨q0, by omega⟩, if_pos q2]
      · have q2 : e < l / mm k := by
          rcases Nat.lt_or_ge e (l / mm k) with y | y
          · exact y
          · have := Nat.mul_le_mul_right (mm k) y
            omega
        rw [if_neg (fun y => q1 y.2), if_neg (by omega)]
    · rw [if_neg (fun y => q0 y.1), if_neg (fun y => q0 y.1)]
theorem cnp_dr {k n e c : Nat} {A : Pl k} (hA : IsDg A (n : Int)) : dr 0 (cnp e c) A = lcb (fun j => if j < e then dgn (pp k) c j else if j = e then 1 else 0) (fun t_ : Nat => stN A (t_ * mm k)) (e + 1) := by
  rw [cnp_lcb, lcb_st hA (fun j => by
    have hp := pp_ge k
    split
    · exact dgn_lt hp _ _
    · split <;> omega)]
theorem bound_eq {k n e0 : Nat} {A : Pl k} {u0 : Nat → Nat} (hA : IsDg A (n : Int)) (hr : SPr (fun t_ : Nat => stN A (t_ * mm k)) e0 e0 (fun r => r) u0) (hs : ∃ (ρ : Nat → Pl k) (w : Nat → Nat → Nat) (pv : Nat → Nat), SPp n (fun t_ : Nat => stN A (t_ * mm k)) e0 e0 ρ w pv (fun r => r)) : ∃ c0 : Nat, c0 < unt k e0 ∧ dr 0 (cnp (k := k) e0 c0) A = pz ∧ (∀ e c : Nat, (e < e0 ∧ c < unt k e) ∨ (e = e0 ∧ c < c0) → dr 0 (cnp (k := k) e c) A ≠ pz) ∧ ∀ m : Nat, m < e0 + 1 → ((cnp (k := k) e0 c0 (mm k * m)).val : Int) = (u0 m : Int) := by
  have hp := pp_ge k
  have hp3 := pp_le k
  obtain ⟨ρ, w, pv, hS⟩ := hs
  obtain ⟨r1, r2, r3, r4, r5⟩ := hr
  have hd : ∀ j, j < e0 → dgn (pp k) (nbS (pp k) u0 0 e0) j = u0 j := fun j hj => dgn_nbS hp r5 e0 j hj
  have hl : nbS (pp k) u0 0 e0 < unt k e0 := nbS_lt (b := 0) r5 e0
  refine ⟨nbS (pp k) u0 0 e0, hl, ?_, fun e c hc hz => ?_, fun m hm' => ?_⟩
  · rw [cnp_dr hA, ← r1]
    refine lcb_congr (fun j hj => ?_)
    by_cases q : j < e0
    · rw [if_pos q, hd j q]
    · rw [if_neg q, if_pos (by omega), show j = e0 by omega, r2]
  · rw [cnp_dr hA] at hz
    rcases hc with ⟨h1, h2⟩ | ⟨h1, h2⟩
    · have hv : ∀ j : Nat, (if j < e then dgn (pp k) c j else if j = e then 1 else 0) < pp k := fun j => by
        split
        · exact dgn_lt hp _ _
        · split <;> omega
      have h0 : lcb (fun j => if j < e then dgn (pp k) c j else if j = e then 1 else 0) (fun t_ : Nat => stN A (t_ * mm k)) e0 = pz := by
        rw [lcb_top (o := e + 1) (fun j hj => by rw [if_neg (by omega), if_neg (by omega)]) (by omega)]
        exact hz
      have z := ech_ind hS hv (fun j hj => ⟨j, by
        have hj' : (if j < e then dgn (pp k) c j else if j = e then 1 else 0) ≠ 0 := hj
        rcases Nat.lt_or_ge j e0 with q | q
        · exact q
        · exact absurd (by rw [if_neg (by omega), if_neg (by omega)]) hj', rfl⟩) h0 e
      rw [if_neg (by omega), if_pos rfl] at z
      omega
    · subst h1
      have hv : ∀ j : Nat, (if j < e then dgn (pp k) c j else if j = e then 1 else 0) < pp k := fun j => by
        split
        · exact dgn_lt hp _ _
        · split <;> omega
      have l := lcb_lin (u := u0) (w := fun j => if j < e then dgn (pp k) c j else if j = e then 1 else 0) (X := fun t_ : Nat => stN A (t_ * mm k)) (c := pp k - 1) (by omega) r5 hv (e + 1)
      rw [r1, hz, scl_pz, pz_adp] at l
      have top : (u0 e + (pp k - 1) * (if e < e then dgn (pp k) c e else if e = e then 1 else 0)) % pp k = 0 := by
        rw [if_neg (by omega), if_pos rfl, r2, Nat.mul_one, show 1 + (pp k - 1) = pp k by omega, Nat.mod_self]
      have l2 := lcb_more (X := fun t_ : Nat => stN A (t_ * mm k)) (w := fun j => (u0 j + (pp k - 1) * (if j < e then dgn (pp k) c j else if j = e then 1 else 0)) % pp k) (o := e) top
      rw [l2] at l
      have above : ∀ j, e < j → (u0 j + (pp k - 1) * (if j < e then dgn (pp k) c j else if j = e then 1 else 0)) % pp k = 0 := fun j hj => by
        rw [r3 j hj, if_neg (by omega), if_neg (by omega), Nat.mul_zero, Nat.zero_mod]
      have z := ech_ind hS (v := fun j => (u0 j + (pp k - 1) * (if j < e then dgn (pp k) c j else if j = e then 1 else 0)) % pp k) (fun j => Nat.mod_lt _ (by omega)) (fun j hj => ⟨j, by
        rcases Nat.lt_trichotomy j e with q | q | q
        · exact q
        · exfalso
          apply hj
          show (u0 j + (pp k - 1) * (if j < e then dgn (pp k) c j else if j = e then 1 else 0)) % pp k = 0
          rw [q]
          exact top
        · exact absurd (above j q) hj, rfl⟩) l
      have ed : ∀ j, j < e → dgn (pp k) c j = u0 j := fun j hj => by
        have y : (u0 j + (pp k - 1) * (if j < e then dgn (pp k) c j else if j = e then 1 else 0)) % pp k = 0 := z j
        rw [if_pos hj] at y
        have a1 := r5 j
        have a2 := dgn_lt hp c j
        generalize dgn (pp k) c j = b at y a2 ⊢
        generalize u0 j = a at y a1 ⊢
        rcases (show pp k = 2 ∨ pp k = 3 by omega) with q | q
        · rw [q] at y a1 a2; omega
        · rw [q] at y a1 a2; omega
      have e5 := nbS_dgn (p := pp k) (t := c) e
      rw [nbS_congr (v := u0) (c := 0) (fun j hj => by rw [Nat.zero_add]; exact ed j hj)] at e5
      have hl' : nbS (pp k) u0 0 e < pp k ^ e := hl
      rw [Nat.mod_eq_of_lt (by omega)] at e5
      omega
  · show (((if mm k * m = e0 * mm k then e1 else if mm k * m % mm k = 0 ∧ mm k * m < e0 * mm k then el k (dgn (pp k) (nbS (pp k) u0 0 e0) (mm k * m / mm k)) else z0 : El k)).val : Int) = _
    have hmp := mm_pos k
    by_cases q : m = e0
    · rw [if_pos (by rw [q, Nat.mul_comm]), q, r2, e1_val]
    · have q1 : mm k * m < e0 * mm k := by
        rw [Nat.mul_comm]
        exact Nat.mul_lt_mul_of_pos_right (by omega) hmp
      rw [if_neg (by omega), if_pos ⟨Nat.mul_mod_right _ _, q1⟩, Nat.mul_div_cancel_left _ hmp, hd m (by omega)]
      have a := r5 m
      show ((u0 m % qq k : Nat) : Int) = _
      rw [Nat.mod_eq_of_lt (el_small a)]
