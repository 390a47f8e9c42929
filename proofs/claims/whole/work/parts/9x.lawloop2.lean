/-! the law's loop */ -/
theorem cOf307 : cOf 307 = (601024, 7293034) := by decide +kernel
set_option maxRecDepth 100000 in
theorem law_loop {D : Nat} {X : Int → Int} (hX : ∀ j : Int, -2147483648 ≤ X j ∧ X j ≤ 2147483647) {c0 s0 : Nat} (hN0 : 0 ≤ X (-1)) (hN : 5 * (c0 : Int) + X (-1) ≤ 3005120) (hN2 : 5 * (s0 : Int) + 8 * X (-1) ≤ 36465170) : ∀ (n_ i : Nat) (M : Mem) (cc ss : Nat) (w5 w6 w7 : AV), (X (-1)).toNat + 5 - i = n_ → i ≤ (X (-1)).toNat + 5 → M (-2) = X → STT M → (c0 ≤ cc ∧ 5 * cc ≤ 5 * c0 + i ∧ ss + 8 * c0 = s0 + 8 * cc) → i ≤ (X (-1)).toNat → WL (D + 13) 13 [(1, -2), (1, 0), (1, 161), (1, 198), (0, (i : Int)), w5, w6, w7] [] M cc ss := by
  have hK : cd 307 = k307 := rfl
  intro n_
  induction n_ using Nat.strongRecOn with
  | _ n_ ih =>
  intro i M cc ss w5 w6 w7 hm hi hM hs hc hi2
  have x0_ := hX (i : Int)
  have xN_ := hX (-1)
  have r1_ : (cOf 307).1 = 601024 := congrArg Prod.fst cOf307
  have r2_ : (cOf 307).2 = 7293034 := congrArg Prod.snd cOf307
  refine wl_il hK rfl rfl ?_
  refine wl_al hK rfl rfl ?_
  refine wl_slen hK rfl ?_
  rw [hM]
  refine wl_ic hK rfl ?_
  refine wl_sub hK rfl (by omega) (by omega) ?_
  refine wl_gt2 hK rfl (by omega) (by omega) (by omega) (by omega) (fun h18 => ?_) (fun h18 => ?_)
  · refine wl_ic hK rfl ?_
    exact wl_end hK rfl ⟨by omega, by omega⟩
  · have hcs : cc + 1 ≤ (cOf 307).1 ∧ ss + 8 ≤ (cOf 307).2 := ⟨by omega, by omega⟩
    have next : ∀ (M' : Mem) (v5 v6 v7 : AV) (c2 s2 : Nat), M' (-2) = X → STT M' → (c2 = cc ∧ s2 = ss) ∨ (c2 = cc + 1 ∧ s2 = ss + 8) → WL (D + 13) 1475 [(1, -2), (1, 0), (1, 161), (1, 198), (0, (i : Int)), v5, v6, v7] [] M' c2 s2 := fun M' v5 v6 v7 c2 s2 q1 q2 q3 => by
      refine wl_inc [(1, -2), (1, 0), (1, 161), (1, 198), (0, ((i + 5 : Nat) : Int)), v5, v6, v7] hK rfl rfl rfl (by omega) (by omega) rfl ?_
      refine wl_goto hK rfl ?_
      exact ih ((X (-1)).toNat + 5 - (i + 5)) (by omega) (i + 5) M' c2 s2 v5 v6 v7 rfl (by omega) q1 q2 (by omega) (by omega)
    have hi5 : (i : Int) + 5 ≤ X (-1) := by omega
    refine wl_al hK rfl rfl ?_
    refine wl_il hK rfl rfl ?_
    refine wl_sat hK rfl (by omega) (by rw [hM]; omega) ?_
    rw [hM]
    refine wl_ic hK rfl ?_
    refine wl_bin (w := i32 (X (i : Int)) &&& i32 63) hK rfl rfl rfl ?_
    have y_ := and63 (i32 (X (i : Int)))
    refine wl_tab hK rfl rfl (by omega) (by omega) (fun _ => ?_) (fun g1_ g2_ => ?_)
    · exact next M w5 w6 w7 cc ss hM hs (Or.inl ⟨rfl, rfl⟩)
    · obtain ⟨t, ht⟩ : ∃ t : Nat, (i32 (X (i : Int)) &&& i32 63).toInt = (t : Int) := ⟨((i32 (X (i : Int)) &&& i32 63).toInt).toNat, by omega⟩
      rw [ht] at g1_ g2_ ⊢
      clear y_ ht
      rcases (show t = 0 ∨ t = 1 ∨ t = 2 ∨ t = 3 ∨ t = 4 ∨ t = 5 ∨ t = 6 ∨ t = 7 ∨ t = 8 ∨ t = 9 ∨ t = 10 ∨ t = 11 ∨ t = 12 ∨ t = 13 ∨ t = 14 ∨ t = 15 ∨ t = 16 ∨ t = 17 ∨ t = 18 ∨ t = 19 ∨ t = 20 ∨ t = 21 ∨ t = 22 ∨ t = 23 ∨ t = 24 ∨ t = 25 ∨ t = 26 ∨ t = 27 ∨ t = 28 ∨ t = 29 ∨ t = 30 ∨ t = 31 ∨ t = 32 ∨ t = 33 ∨ t = 34 ∨ t = 35 ∨ t = 36 ∨ t = 37 ∨ t = 38 ∨ t = 39 ∨ t = 40 ∨ t = 41 ∨ t = 42 ∨ t = 43 ∨ t = 44 ∨ t = 45 ∨ t = 46 ∨ t = 47 ∨ t = 48 ∨ t = 49 ∨ t = 50 ∨ t = 51 ∨ t = 52 ∨ t = 53 ∨ t = 54 by omega) with e | e | e | e | e | e | e | e | e | e | e | e | e | e | e | e | e | e | e | e | e | e | e | e | e | e | e | e | e | e | e | e | e | e | e | e | e | e | e | e | e | e | e | e | e | e | e | e | e | e | e | e | e | e | e
      · subst e; exact lc_0 hX hi5 hM hs hcs next
      · subst e; exact lc_1 hX hi5 hM hs hcs next
      · subst e; exact lc_2 hX hi5 hM hs hcs next
      · subst e; exact lc_3 hX hi5 hM hs hcs next
      · subst e; exact lc_4 hX hi5 hM hs hcs next
      · subst e; exact lc_5 hX hi5 hM hs hcs next
      · subst e; exact lc_6 hX hi5 hM hs hcs next
      · subst e; exact lc_7 hX hi5 hM hs hcs next
      · subst e; exact lc_8 hX hi5 hM hs hcs next
      · subst e; exact lc_9 hX hi5 hM hs hcs next
      · subst e; exact lc_10 hX hi5 hM hs hcs next
      · subst e; exact lc_11 hX hi5 hM hs hcs next
      · subst e; exact lc_12 hX hi5 hM hs hcs next
      · subst e; exact lc_13 hX hi5 hM hs hcs next
      · subst e; exact lc_14 hX hi5 hM hs hcs next
      · subst e; exact lc_15 hX hi5 hM hs hcs next
      · subst e; exact lc_16 hX hi5 hM hs hcs next
      · subst e; exact lc_17 hX hi5 hM hs hcs next
      · subst e; exact lc_18 hX hi5 hM hs hcs next
      · subst e; exact lc_19 hX hi5 hM hs hcs next
      · subst e; exact lc_20 hX hi5 hM hs hcs next
      · subst e; exact lc_21 hX hi5 hM hs hcs next
      · subst e; exact lc_22 hX hi5 hM hs hcs next
      · subst e; exact lc_23 hX hi5 hM hs hcs next
      · subst e; exact lc_24 hX hi5 hM hs hcs next
      · subst e; exact lc_25 hX hi5 hM hs hcs next
      · subst e; exact lc_26 hX hi5 hM hs hcs next
      · subst e; exact lc_27 hX hi5 hM hs hcs next
      · subst e; exact lc_28 hX hi5 hM hs hcs next
      · subst e; exact lc_29 hX hi5 hM hs hcs next
      · subst e; exact lc_30 hX hi5 hM hs hcs next
      · subst e; exact lc_31 hX hi5 hM hs hcs next
      · subst e; exact lc_32 hX hi5 hM hs hcs next
      · subst e; exact lc_33 hX hi5 hM hs hcs next
      · subst e; exact lc_34 hX hi5 hM hs hcs next
      · subst e; exact lc_35 hX hi5 hM hs hcs next
      · subst e; exact lc_36 hX hi5 hM hs hcs next
      · subst e; exact lc_37 hX hi5 hM hs hcs next
      · subst e; exact lc_38 hX hi5 hM hs hcs next
      · subst e; exact lc_39 hX hi5 hM hs hcs next
      · subst e; exact lc_40 hX hi5 hM hs hcs next
      · subst e; exact lc_41 hX hi5 hM hs hcs next
      · subst e; exact lc_42 hX hi5 hM hs hcs next
      · subst e; exact lc_43 hX hi5 hM hs hcs next
      · subst e; exact lc_44 hX hi5 hM hs hcs next
      · subst e; exact lc_45 hX hi5 hM hs hcs next
      · subst e; exact lc_46 hX hi5 hM hs hcs next
      · subst e; exact lc_47 hX hi5 hM hs hcs next
      · subst e; exact lc_48 hX hi5 hM hs hcs next
      · subst e; exact lc_49 hX hi5 hM hs hcs next
      · subst e; exact lc_50 hX hi5 hM hs hcs next
      · subst e; exact lc_51 hX hi5 hM hs hcs next
      · subst e; exact lc_52 hX hi5 hM hs hcs next
      · subst e; exact lc_53 hX hi5 hM hs hcs next
      · subst e; exact lc_54 hX hi5 hM hs hcs next
