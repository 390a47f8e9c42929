/-! factors: how many, their degrees, the prime ones, the ways -/
theorem stw_at {g : Nat → Int} {rw_ : Int → Int} : ∀ {n j : Nat}, j < n → stw g rw_ n (j : Int) = g j
  | 0, _, h => by omega
  | n + 1, j, h => by
    show upr (stw g rw_ n) (n : Int) (g n) (j : Int) = _
    by_cases e : j = n
    · rw [e, upr_eq]
    · rw [upr_ne (by omega)]
      exact stw_at (by omega)
theorem sp_ex {k : Nat} {x : Pl k} : ∀ (m n r : Nat), r ≤ m → r ≤ 4 → (∀ j : Nat, j < n → 0 < dg (spR x j)) → IsDg (spR x n) (r : Int) → ∃ c : Nat, n ≤ c ∧ c ≤ n + r ∧ (∀ j : Nat, j < c → 0 < dg (spR x j)) ∧ dg (spR x c) ≤ 0 ∧ sI (fun j => dg (spF x j)) c = sI (fun j => dg (spF x j)) n + (r : Int)
  | m, n, r, hm, h4, h, hr => by
    have er := dg_eq17 ((Bd_is hr).mono (by omega)) hr
    by_cases r0 : r = 0
    · exact ⟨n, Nat.le_refl _, by omega, h, by omega, by omega⟩
    · match m, hm with
      | 0, hm => exact absurd hm (by omega)
      | m + 1, hm =>
        have hl := lsN_ne er (by omega) h4
        have hs := sp_step hr h4 hl rfl
        obtain ⟨c, c1, c2, c3, c4, c5⟩ := sp_ex m (n + 1) (r - lsN (spR x n)) (by omega) (by omega) (fun j hj => by
          by_cases e : j = n
          · rw [e]; omega
          · exact h j (by omega)) hs.1
        refine ⟨c, by omega, by omega, c3, c4, ?_⟩
        have e1 : dg (spF x n) = (lsN (spR x n) : Int) := dg_eq17 ((Bd_is hs.2.2.1).mono (by omega)) hs.2.2.1
        have e2 : sI (fun j => dg (spF x j)) (n + 1) = sI (fun j => dg (spF x j)) n + dg (spF x n) := rfl
        rw [c5, e2, e1]
        omega
theorem spC_ok {k r : Nat} {x : Pl k} (hx : IsDg x (r : Int)) (h4 : r ≤ 4) : spC x ≤ r ∧ (∀ j : Nat, j < spC x → 0 < dg (spR x j)) ∧ dg (spR x (spC x)) ≤ 0 ∧ sI (fun j => dg (spF x j)) (spC x) = (r : Int) := by
  obtain ⟨c, c1, c2, c3, c4, c5⟩ := sp_ex (x := x) r 0 r (Nat.le_refl _) h4 (fun j hj => by omega) hx
  have e := spC_eq c3 c4
  rw [e]
  refine ⟨by omega, c3, c4, ?_⟩
  rw [c5]
  show (0 : Int) + (r : Int) = _
  omega
theorem svN_hit {k : Nat} {x : Pl k} {d i : Nat} (h : htR x d i) : ∀ {m : Nat}, i < m → svN x d m ≠ 0
  | 0, hi => by omega
  | m + 1, hi => by
    have h0 := (svN_I x d m).1
    unfold svN
    by_cases e : i = m
    · subst e
      rw [if_neg (by rw [bz_pos h]; decide)]
      omega
    · have h1 := svN_hit h (m := m) (by omega)
      split <;> omega
theorem lsN_le {k : Nat} {x : Pl k} {d : Nat} (h1 : 1 ≤ d) (h4 : d ≤ 4) (h : svN x d (trN k (dg x) (d : Int)) ≠ 0) : lsN x ≤ d := by
  unfold lsN
  rcases (show d = 1 ∨ d = 2 ∨ d = 3 ∨ d = 4 by omega) with e | e | e | e
  · subst e; rw [if_pos h]; omega
  · subst e
    split
    · omega
    · omega
  · subst e
    split
    · omega
    · split
      · omega
      · omega
  · subst e
    split
    · omega
    · split
      · omega
      · split <;> omega
theorem hit_ls {k d i r : Nat} {x : Pl k} (hx : IsDg x (r : Int)) (h4 : r ≤ 4) (hi : (i : Int) < trI k (r : Int) (d : Int)) (h : htR x d i) : lsN x ≤ d := by
  have er := dg_eq17 ((Bd_is hx).mono (by omega)) hx
  obtain ⟨_, _, _, d1, d2⟩ := trI_ok hi
  exact lsN_le d1 (by omega) (svN_hit h (by rw [er]; unfold trN; omega))
theorem ls_hit {k r : Nat} {x : Pl k} (hx : IsDg x (r : Int)) (h1 : 1 ≤ r) (h4 : r ≤ 4) : ∃ i : Nat, (i : Int) < trI k (r : Int) (lsN x : Int) ∧ htR x (lsN x) i ∧ 1 ≤ lsN x ∧ lsN x ≤ r := by
  have er := dg_eq17 ((Bd_is hx).mono (by omega)) hx
  obtain ⟨i, i1, i2, _⟩ := svB_hit (lsN_ne er h1 h4)
  have hi : (i : Int) < trI k (r : Int) (lsN x : Int) := by rw [er] at i1; unfold trN at i1; omega
  obtain ⟨_, _, _, d1, d2⟩ := trI_ok hi
  exact ⟨i, hi, i2, d1, by omega⟩
theorem spC_prime {k r : Nat} {x : Pl k} (hx : IsDg x (r : Int)) (h4 : r ≤ 4) : bz (prC x) = if spC x = 1 ∧ 0 < r then 1 else 0 := by
  have hb : Bd x 17 := (Bd_is hx).mono (by omega)
  have er := dg_eq17 hb hx
  by_cases r0 : r = 0
  · rw [bz_neg (fun q => by have := q.1; omega), if_neg (by omega)]
  · obtain ⟨i, i1, i2, l1, l2⟩ := ls_hit hx (by omega) h4
    have hs := sp_step (x := x) (n := 0) hx h4 (lsN_ne er (by omega) h4) rfl
    have e1 : dg (spR x 1) = ((r - lsN x : Nat) : Int) := dg_eq17 ((Bd_is hs.1).mono (by omega)) hs.1
    by_cases hl : lsN x = r
    · have hc : spC x = 1 := spC_eq (fun j hj => by
        rw [show j = 0 by omega]
        show 0 < dg x
        omega) (by omega)
      rw [if_pos ⟨hc, by omega⟩]
      refine bz_pos ⟨by omega, fun d i hd hi hR => ?_⟩
      rw [er] at hi
      have := hit_ls hx h4 hi hR
      omega
    · rw [bz_neg (fun q => q.2 (lsN x) i (by omega) (by rw [er]; exact i1) i2), if_neg (fun q => ?_)]
      have := (spC_ok hx h4).2.2.1
      rw [q.1] at this
      omega
theorem sI_pos {f : Nat → Int} {j : Nat} (h1 : 1 ≤ f j) : ∀ {n : Nat}, (∀ i : Nat, i < n → 0 ≤ f i) → j < n → 1 ≤ sI f n
  | 0, _, hj => by omega
  | n + 1, h0, hj => by
    show 1 ≤ sI f n + f n
    have hn := h0 n (by omega)
    by_cases e : j = n
    · subst e
      have := sI_nn (f := f) (n := j) (fun i hi => h0 i (by omega))
      omega
    · have := sI_pos h1 (n := n) (fun i hi => h0 i (by omega)) (by omega)
      omega
theorem dr_dvs {k n d : Nat} {x g : Pl k} (hb : Bd x n) (hg : IsDg g (d : Int)) (h : dr 0 x g = pz) : Dvs 0 g x := by
  obtain ⟨⟨m, hm⟩, e, _⟩ := dv_is 0 hg hb
  rw [h, adp_pz] at e
  exact ⟨_, m, hm, e⟩
theorem ls_prime {k r i : Nat} {x : Pl k} (hx : IsDg x (r : Int)) (h4 : r ≤ 4) (hi : (i : Int) < trI k (r : Int) (lsN x : Int)) (h : htR x (lsN x) i) : prC (htB x (lsN x) i) := by
  have hb : Bd x 17 := (Bd_is hx).mono (by omega)
  obtain ⟨_, _, _, l1, l2⟩ := trI_ok hi
  obtain ⟨s1, s2, s3⟩ := hit_spec hx hb l1 (by omega) h4 h
  have hy : Bd (htB x (lsN x) i) 17 := (Bd_is s1.1).mono (by omega)
  have ey := dg_eq17 hy s1.1
  refine (prC_M s1.1 hy (by omega)).mpr ⟨by omega, fun a c a1 a2 hc q => ?_⟩
  have d1 : Dvs 0 (mnp a c) (htB x (lsN x) i) := dr_dvs hy mnp_mn.1 q
  have d2 : Dvs 0 (htB x (lsN x) i) x := ⟨_, _, Bd_is s2, s3⟩
  obtain ⟨j, j1, j2, _⟩ := divs_all hx hb a1 h4 (mnp_mn (c := c)) (Dvs.rem0 (d1.tr d2) mnp_mn.1)
  have := hit_ls hx h4 j1 j2
  omega
theorem wy_pos {k : Nat} : ∀ (m : Nat) {x : Pl k} {r : Nat}, IsDg x (r : Int) → r ≤ 4 → r ≤ m + 1 → 1 ≤ wyC m x
  | 0, x, r, _, _, _ => by show (1 : Int) ≤ 1; decide
  | m + 1, x, r, hx, h4, hm => by
    have hb : Bd x 17 := (Bd_is hx).mono (by omega)
    have er := dg_eq17 hb hx
    rw [wyC_s]
    by_cases r2 : dg x < 2
    · rw [if_pos r2]; decide
    · rw [if_neg r2]
      obtain ⟨i, i1, i2, l1, l2⟩ := ls_hit hx (by omega) h4
      have key : ∀ d i : Nat, (i : Int) < trI k (r : Int) ((d + 1 : Nat) : Int) → htR x (d + 1) i → 1 ≤ wyC m (htQ x (d + 1) i) := fun d i hi hR => by
        obtain ⟨_, _, _, d1, d2⟩ := trI_ok hi
        obtain ⟨s1, s2, s3⟩ := hit_spec hx hb d1 (by omega) h4 hR
        exact wy_pos m s2 (by omega) (by omega)
      have nn : ∀ d i : Nat, i < trN k (dg x) ((d + 1 : Nat) : Int) → 0 ≤ (if bz (htR x (d + 1) i) = 0 then 0 else if bz (prC (htB x (d + 1) i)) = 0 then 0 else wyC m (htQ x (d + 1) i)) := fun d i hi => by
        split
        · exact Int.le_refl 0
        · rename_i q
          split
          · exact Int.le_refl 0
          · have hR : htR x (d + 1) i := Classical.byContradiction fun c => q (bz_neg c)
            have := key d i (by rw [er] at hi; unfold trN at hi; omega) hR
            omega
      have el : lsN x - 1 + 1 = lsN x := by omega
      refine sI_pos (j := lsN x - 1) ?_ (fun d hd => sI_nn (fun i hi => nn d i hi)) (by omega)
      refine sI_pos (j := i) ?_ (fun i hi => nn _ i hi) (by rw [el, er]; unfold trN; omega)
      rw [el, if_neg (by rw [bz_pos i2]; decide), if_neg (by rw [bz_pos (ls_prime hx h4 i1 i2)]; decide)]
      have h1 := key (lsN x - 1) i (by rw [el]; exact i1) (by rw [el]; exact i2)
      rw [el] at h1
      exact h1
