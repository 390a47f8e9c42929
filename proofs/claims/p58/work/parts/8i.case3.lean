/-! the law: factors -/
theorem i64_add {x y : Int} (h1 : -2147483648 ≤ x ∧ x ≤ 2147483647) (h2 : -2147483648 ≤ y ∧ y ≤ 2147483647) : (i64 x + i64 y).toInt = x + y := by
  unfold i64
  rw [← Int64.ofInt_add]
  exact Int64.toInt_ofInt_of_le (by omega) (by omega)
set_option maxRecDepth 100000 in
theorem lk_3 {X : Int → Int} {M : Mem} {k : Nat} (hk : k < 4) {pl : Nat → Pl k} {rc : Nat} {rw_ : Int → Int} (H : LZ X M k pl rc rw_) {f kk c d e s : Int} {i : Nat} (hs : s = 0 ∨ s = 1) (hde : (i = 0 ∧ d = dg (pl 0) ∧ e = dg (pl 1)) ∨ (i = 1 ∧ d = dg (pl 1) ∧ e = dg (pl 0))) (dd_ : -1 ≤ dg (pl 0) ∧ dg (pl 0) ≤ 3) (ee_ : -1 ≤ dg (pl 1) ∧ dg (pl 1) ≤ 3) {x10 x11 x12 x13 : AV} {cc ss : Nat} (hc : cc ≤ (cOf 307).1 ∧ ss ≤ (cOf 307).2) (next : ∀ (M' : Mem) (pl' : Nat → Pl k) (rc' : Nat) (rw' : Int → Int) (y10 y11 y12 y13 : AV), LZ X M' k pl' rc' rw' → pl' 0 = pl 0 → pl' 1 = pl 1 → WL 24 588 [(1, -2), (1, 0), (0, f), (0, (qq k : Int)), (0, kk), (0, c), (0, (i : Int)), (0, d), (0, e), (0, s), y10, y11, y12, y13] [] M' cc ss) : WL 24 317 [(1, -2), (1, 0), (0, f), (0, (qq k : Int)), (0, kk), (0, c), (0, (i : Int)), (0, d), (0, e), (0, s), x10, x11, x12, x13] [] M cc ss := by
  have hK : cd 307 = k307 := rfl
  have b0 := H.bd 0 (by decide)
  have b1 := H.bd 1 (by decide)
  have q1 := qq_I k
  have hi : i < 6 := by omega
  have hd : d = dg (pl i) := by rcases hde with ⟨rfl, h, _⟩ | ⟨rfl, h, _⟩ <;> exact h
  have bi := H.bd i hi
  rcases Int.lt_or_le (dg (pl i)) 0 with q0 | q0
  · refine wl_al hK rfl rfl ?_
    refine wl_il hK rfl rfl ?_
    refine wl_cv [(1, 0), (0, (i : Int))] hK rfl rfl rfl rfl (Or.inr ⟨_, _, _, rfl, by decide, by decide, rfl⟩) (Or.inl rfl) hc (ey_facs H i hi (pl i) rfl q0) (fun v1 M1 e1 H1 => (?_ : WL 24 320 [(1, -2), (1, 0), (0, f), (0, (qq k : Int)), (0, kk), (0, c), (0, (i : Int)), (0, d), (0, e), (0, s), x10, x11, x12, x13] [(0, v1)] M1 cc ss))
    refine wl_is [(1, -2), (1, 0), (0, f), (0, (qq k : Int)), (0, kk), (0, c), (0, (i : Int)), (0, d), (0, e), (0, s), (0, v1), x11, x12, x13] hK rfl rfl rfl ?_
    refine wl_il hK rfl rfl ?_
    refine wl_ge hK rfl (by omega) (by omega) (fun h2 => ?_) (fun h2 => ?_)
    · exfalso
      omega
    · refine wl_il hK rfl rfl ?_
      refine wl_ic hK rfl ?_
      refine wl_eq2 hK rfl (by omega) (by omega) (by omega) (by omega) (fun h3 => ?_) (fun h3 => ?_)
      · exact next M1 _ _ _ _ _ _ _ H1 rfl rfl
      · exfalso
        omega
  · obtain ⟨r, hr⟩ : ∃ r : Nat, (r : Int) = d := ⟨d.toNat, by omega⟩
    have hI : IsDg (pl i) (r : Int) := by
      rw [hr, hd]
      exact dg_is (bi.mono (by decide))
    obtain ⟨c1, _, _, c4⟩ := spC_ok hI (by omega)
    have hp := spC_prime hI (by omega)
    have hw1 := wy_pos 4 hI (by omega) (by omega)
    have hw2 := (wyC_le 4 (pl i) (bi.mono (by decide))).2.2.2.1 (by omega)
    have f0 := dg_ge (spF (pl i) 0)
    have f1 := dg_ge (spF (pl i) 1)
    have f2 := dg_ge (spF (pl i) 2)
    rcases (show spC (pl i) = 0 ∨ spC (pl i) = 1 ∨ spC (pl i) = 2 ∨ spC (pl i) = 3 by omega) with ec | ec | ec | ec
    · have cs : (0 : Int) = d := by
        rw [← hr, ← c4, ec]
        rfl
      refine wl_al hK rfl rfl ?_
      refine wl_il hK rfl rfl ?_
      refine wl_cv [(1, 0), (0, (i : Int))] hK rfl rfl rfl rfl (Or.inr ⟨_, _, _, rfl, by decide, by decide, rfl⟩) (Or.inl rfl) hc (eo_facs H i hi (pl i) rfl q0 (by omega)) (fun v1 M1 e1 H1 => (?_ : WL 24 320 [(1, -2), (1, 0), (0, f), (0, (qq k : Int)), (0, kk), (0, c), (0, (i : Int)), (0, d), (0, e), (0, s), x10, x11, x12, x13] [(0, v1)] M1 cc ss))
      obtain rfl : v1 = 0 := by rw [e1, ec]; rfl
      refine wl_is [(1, -2), (1, 0), (0, f), (0, (qq k : Int)), (0, kk), (0, c), (0, (i : Int)), (0, d), (0, e), (0, s), (0, 0), x11, x12, x13] hK rfl rfl rfl ?_
      refine wl_il hK rfl rfl ?_
      refine wl_ge hK rfl (by omega) (by omega) (fun h2 => ?_) (fun h2 => ?_)
      · refine wl_il hK rfl rfl ?_
        refine wl_lt hK rfl (by omega) (by omega) (fun h3 => ?_) (fun h3 => ?_)
        · exfalso
          omega
        · refine wl_il hK rfl rfl ?_
          refine wl_il hK rfl rfl ?_
          refine wl_gt2 hK rfl (by omega) (by omega) (by omega) (by omega) (fun h4 => ?_) (fun h4 => ?_)
          · exfalso
            omega
          · refine wl_al hK rfl rfl ?_
            refine wl_il hK rfl rfl ?_
            refine wl_cv [(1, 0), (0, (i : Int))] hK rfl rfl rfl rfl (Or.inr ⟨_, _, _, rfl, by decide, by decide, rfl⟩) (Or.inl rfl) hc (eo_prime H1 i hi (pl i) rfl q0 (by omega)) (fun v5 M5 e5 H5 => (?_ : WL 24 336 [(1, -2), (1, 0), (0, f), (0, (qq k : Int)), (0, kk), (0, c), (0, (i : Int)), (0, d), (0, e), (0, s), (0, 0), x11, x12, x13] [(0, v5)] M5 cc ss))
            rw [hp, ec] at e5
            have g5 : v5 = 0 := by rw [e5]; exact if_neg (by omega)
            refine wl_il hK rfl rfl ?_
            refine wl_ic hK rfl ?_
            refine wl_ne2 hK rfl (by omega) (by omega) (by omega) (by omega) (fun h6 => ?_) (fun h6 => ?_)
            · refine wl_ic hK rfl ?_
              refine wl_ne2 hK rfl (by omega) (by omega) (by omega) (by omega) (fun h7 => ?_) (fun h7 => ?_)
              · exfalso
                omega
              · refine wl_al hK rfl rfl ?_
                refine wl_il hK rfl rfl ?_
                refine wl_cv [(1, 0), (0, (i : Int))] hK rfl rfl rfl rfl (Or.inr ⟨_, _, _, rfl, by decide, by decide, rfl⟩) (Or.inl rfl) hc (eo_ways H5 i hi (pl i) rfl q0 (by omega)) (fun v8 M8 e8 H8 => (?_ : WL 24 348 [(1, -2), (1, 0), (0, f), (0, (qq k : Int)), (0, kk), (0, c), (0, (i : Int)), (0, d), (0, e), (0, s), (0, 0), x11, x12, x13] [(0, v8)] M8 cc ss))
                refine wl_ic hK rfl ?_
                refine wl_ge2 hK rfl (by omega) (by omega) (by omega) (by omega) (fun h9 => ?_) (fun h9 => ?_)
                · refine wl_al hK rfl rfl ?_
                  refine wl_il hK rfl rfl ?_
                  refine wl_cv [(1, 0), (0, (i : Int))] hK rfl rfl rfl rfl (Or.inr ⟨_, _, _, rfl, by decide, by decide, rfl⟩) (Or.inl rfl) hc (eo_facs H8 i hi (pl i) rfl q0 (by omega)) (fun v10 M10 e10 H10 => (?_ : WL 24 355 [(1, -2), (1, 0), (0, f), (0, (qq k : Int)), (0, kk), (0, c), (0, (i : Int)), (0, d), (0, e), (0, s), (0, 0), x11, x12, x13] [(0, v10)] M10 cc ss))
                  refine wl_pop hK rfl rfl ?_
                  refine wl_lc hK rfl ?_
                  refine wl_ls [(1, -2), (1, 0), (0, f), (0, (qq k : Int)), (0, kk), (0, c), (0, (i : Int)), (0, d), (0, e), (0, s), (0, 0), (2, 0), (3, 0), x13] hK rfl rfl rfl ?_
                  refine wl_ic hK rfl ?_
                  refine wl_is [(1, -2), (1, 0), (0, f), (0, (qq k : Int)), (0, kk), (0, c), (0, (i : Int)), (0, d), (0, e), (0, s), (0, 0), (2, 0), (3, 0), (0, 1)] hK rfl rfl rfl ?_
                  refine wl_il hK rfl rfl ?_
                  refine wl_il hK rfl rfl ?_
                  refine wl_gt2 hK rfl (by omega) (by omega) (by omega) (by omega) (fun h11 => ?_) (fun h11 => ?_)
                  · refine wl_ll hK rfl rfl ?_
                    refine wl_il hK rfl rfl ?_
                    refine wl_i2l hK rfl (by omega) (by omega) ?_
                    refine wl_lcmp hK rfl ?_
                    rw [show (lg_cmp (i64 0) (i64 d)).toInt = 0 from (congrArg (fun z : Int => (lg_cmp (i64 z) (i64 d)).toInt) (show (0 : Int) = d by omega)).trans (lcmp_self _)]
                    refine wl_ne hK rfl (by omega) (by omega) (fun h12 => ?_) (fun h12 => ?_)
                    · exfalso
                      omega
                    · refine wl_al hK rfl rfl ?_
                      refine wl_ic hK rfl ?_
                      refine wl_cv [(1, 0), (0, 0)] hK rfl rfl rfl rfl (Or.inr ⟨_, _, _, rfl, by decide, by decide, rfl⟩) (Or.inr rfl) hc (eo_row H10 0 (by omega)) (fun v13 M13 e13 H13 => (?_ : WL 24 379 [(1, -2), (1, 0), (0, f), (0, (qq k : Int)), (0, kk), (0, c), (0, (i : Int)), (0, d), (0, e), (0, s), (0, 0), (2, 0), (3, 0), (0, 1)] [(2, v13)] M13 cc ss))
                      have g13 : v13 = ((ld (pl i)).val : Int) := e13.trans (stw_at (by omega))
                      have i13 := el_I (ld (pl i))
                      refine wl_al hK rfl rfl ?_
                      refine wl_il hK rfl rfl ?_
                      refine wl_ic hK rfl ?_
                      refine wl_cv [(1, 0), (0, (i : Int)), (0, 0)] hK rfl rfl rfl rfl (Or.inr ⟨_, _, _, rfl, by decide, by decide, rfl⟩) (Or.inl rfl) hc (eo_form0 H13 i hi (pl i) rfl) (fun v14 M14 e14 H14 => (?_ : WL 24 383 [(1, -2), (1, 0), (0, f), (0, (qq k : Int)), (0, kk), (0, c), (0, (i : Int)), (0, d), (0, e), (0, s), (0, 0), (2, 0), (3, 0), (0, 1)] [(0, v14), (2, v13)] M14 cc ss))
                      have i14 := el_I (ld (pl i))
                      refine wl_i2l hK rfl (by omega) (by omega) ?_
                      refine wl_lcmp hK rfl ?_
                      rw [show (lg_cmp (i64 v13) (i64 v14)).toInt = 0 from (congrArg (fun z : Int => (lg_cmp (i64 z) (i64 v14)).toInt) (show (v13 : Int) = v14 by omega)).trans (lcmp_self _)]
                      refine wl_eq hK rfl (by omega) (by omega) (fun h15 => ?_) (fun h15 => ?_)
                      · exact next M14 _ _ _ _ _ _ _ H14 rfl rfl
                      · exfalso
                        omega
                  · exfalso
                    omega
                · exfalso
                  omega
            · exfalso
              omega
      · exfalso
        omega
    · have cs : 0 + dg (spF (pl i) 0) = d := by
        rw [← hr, ← c4, ec]
        rfl
      refine wl_al hK rfl rfl ?_
      refine wl_il hK rfl rfl ?_
      refine wl_cv [(1, 0), (0, (i : Int))] hK rfl rfl rfl rfl (Or.inr ⟨_, _, _, rfl, by decide, by decide, rfl⟩) (Or.inl rfl) hc (eo_facs H i hi (pl i) rfl q0 (by omega)) (fun v1 M1 e1 H1 => (?_ : WL 24 320 [(1, -2), (1, 0), (0, f), (0, (qq k : Int)), (0, kk), (0, c), (0, (i : Int)), (0, d), (0, e), (0, s), x10, x11, x12, x13] [(0, v1)] M1 cc ss))
      obtain rfl : v1 = 1 := by rw [e1, ec]; rfl
      refine wl_is [(1, -2), (1, 0), (0, f), (0, (qq k : Int)), (0, kk), (0, c), (0, (i : Int)), (0, d), (0, e), (0, s), (0, 1), x11, x12, x13] hK rfl rfl rfl ?_
      refine wl_il hK rfl rfl ?_
      refine wl_ge hK rfl (by omega) (by omega) (fun h2 => ?_) (fun h2 => ?_)
      · refine wl_il hK rfl rfl ?_
        refine wl_lt hK rfl (by omega) (by omega) (fun h3 => ?_) (fun h3 => ?_)
        · exfalso
          omega
        · refine wl_il hK rfl rfl ?_
          refine wl_il hK rfl rfl ?_
          refine wl_gt2 hK rfl (by omega) (by omega) (by omega) (by omega) (fun h4 => ?_) (fun h4 => ?_)
          · exfalso
            omega
          · refine wl_al hK rfl rfl ?_
            refine wl_il hK rfl rfl ?_
            refine wl_cv [(1, 0), (0, (i : Int))] hK rfl rfl rfl rfl (Or.inr ⟨_, _, _, rfl, by decide, by decide, rfl⟩) (Or.inl rfl) hc (eo_prime H1 i hi (pl i) rfl q0 (by omega)) (fun v5 M5 e5 H5 => (?_ : WL 24 336 [(1, -2), (1, 0), (0, f), (0, (qq k : Int)), (0, kk), (0, c), (0, (i : Int)), (0, d), (0, e), (0, s), (0, 1), x11, x12, x13] [(0, v5)] M5 cc ss))
            rw [hp, ec] at e5
            have g5 : v5 = if 0 < d then 1 else 0 := by rw [e5]; split <;> split <;> omega
            refine wl_il hK rfl rfl ?_
            refine wl_ic hK rfl ?_
            refine wl_ne2 hK rfl (by omega) (by omega) (by omega) (by omega) (fun h6 => ?_) (fun h6 => ?_)
            · exfalso
              omega
            · refine wl_il hK rfl rfl ?_
              refine wl_le hK rfl (by omega) (by omega) (fun h7 => ?_) (fun h7 => ?_)
              · refine wl_ic hK rfl ?_
                refine wl_ne2 hK rfl (by omega) (by omega) (by omega) (by omega) (fun h8 => ?_) (fun h8 => ?_)
                · exfalso
                  omega
                · refine wl_al hK rfl rfl ?_
                  refine wl_il hK rfl rfl ?_
                  refine wl_cv [(1, 0), (0, (i : Int))] hK rfl rfl rfl rfl (Or.inr ⟨_, _, _, rfl, by decide, by decide, rfl⟩) (Or.inl rfl) hc (eo_ways H5 i hi (pl i) rfl q0 (by omega)) (fun v9 M9 e9 H9 => (?_ : WL 24 348 [(1, -2), (1, 0), (0, f), (0, (qq k : Int)), (0, kk), (0, c), (0, (i : Int)), (0, d), (0, e), (0, s), (0, 1), x11, x12, x13] [(0, v9)] M9 cc ss))
                  refine wl_ic hK rfl ?_
                  refine wl_ge2 hK rfl (by omega) (by omega) (by omega) (by omega) (fun h10 => ?_) (fun h10 => ?_)
                  · refine wl_al hK rfl rfl ?_
                    refine wl_il hK rfl rfl ?_
                    refine wl_cv [(1, 0), (0, (i : Int))] hK rfl rfl rfl rfl (Or.inr ⟨_, _, _, rfl, by decide, by decide, rfl⟩) (Or.inl rfl) hc (eo_facs H9 i hi (pl i) rfl q0 (by omega)) (fun v11 M11 e11 H11 => (?_ : WL 24 355 [(1, -2), (1, 0), (0, f), (0, (qq k : Int)), (0, kk), (0, c), (0, (i : Int)), (0, d), (0, e), (0, s), (0, 1), x11, x12, x13] [(0, v11)] M11 cc ss))
                    refine wl_pop hK rfl rfl ?_
                    refine wl_lc hK rfl ?_
                    refine wl_ls [(1, -2), (1, 0), (0, f), (0, (qq k : Int)), (0, kk), (0, c), (0, (i : Int)), (0, d), (0, e), (0, s), (0, 1), (2, 0), (3, 0), x13] hK rfl rfl rfl ?_
                    refine wl_ic hK rfl ?_
                    refine wl_is [(1, -2), (1, 0), (0, f), (0, (qq k : Int)), (0, kk), (0, c), (0, (i : Int)), (0, d), (0, e), (0, s), (0, 1), (2, 0), (3, 0), (0, 1)] hK rfl rfl rfl ?_
                    refine wl_il hK rfl rfl ?_
                    refine wl_il hK rfl rfl ?_
                    refine wl_gt2 hK rfl (by omega) (by omega) (by omega) (by omega) (fun h12 => ?_) (fun h12 => ?_)
                    · exfalso
                      omega
                    · refine wl_ll hK rfl rfl ?_
                      refine wl_al hK rfl rfl ?_
                      refine wl_il hK rfl rfl ?_
                      refine wl_cv [(1, 0), (0, 1)] hK rfl rfl rfl rfl (Or.inr ⟨_, _, _, rfl, by decide, by decide, rfl⟩) (Or.inr rfl) hc (eo_row H11 1 (by omega)) (fun v13 M13 e13 H13 => (?_ : WL 24 367 [(1, -2), (1, 0), (0, f), (0, (qq k : Int)), (0, kk), (0, c), (0, (i : Int)), (0, d), (0, e), (0, s), (0, 1), (2, 0), (3, 0), (0, 1)] [(2, v13), (2, 0)] M13 cc ss))
                      have g13 : v13 = dg (spF (pl i) 0) := e13.trans ((stw_at (by omega)).trans (facG_at (b := 0) (by decide) (by omega)))
                      refine wl_lb hK rfl rfl ?_
                      show WL 24 368 [(1, -2), (1, 0), (0, f), (0, (qq k : Int)), (0, kk), (0, c), (0, (i : Int)), (0, d), (0, e), (0, s), (0, 1), (2, 0), (3, 0), (0, 1)] [(2, (i64 0 + i64 v13).toInt)] M13 cc ss
                      obtain ⟨w14, hw14⟩ : ∃ w : Int, w = (i64 0 + i64 v13).toInt := ⟨_, rfl⟩
                      rw [← hw14]
                      rw [i64_add (by omega) (by omega)] at hw14
                      refine wl_ls [(1, -2), (1, 0), (0, f), (0, (qq k : Int)), (0, kk), (0, c), (0, (i : Int)), (0, d), (0, e), (0, s), (0, 1), (2, w14), (3, 0), (0, 1)] hK rfl rfl rfl ?_
                      refine wl_inc [(1, -2), (1, 0), (0, f), (0, (qq k : Int)), (0, kk), (0, c), (0, (i : Int)), (0, d), (0, e), (0, s), (0, 1), (2, w14), (3, 0), (0, 2)] hK rfl rfl rfl (by omega) (by omega) rfl ?_
                      refine wl_goto hK rfl ?_
                      refine wl_il hK rfl rfl ?_
                      refine wl_il hK rfl rfl ?_
                      refine wl_gt2 hK rfl (by omega) (by omega) (by omega) (by omega) (fun h15 => ?_) (fun h15 => ?_)
                      · refine wl_ll hK rfl rfl ?_
                        refine wl_il hK rfl rfl ?_
                        refine wl_i2l hK rfl (by omega) (by omega) ?_
                        refine wl_lcmp hK rfl ?_
                        rw [show (lg_cmp (i64 w14) (i64 d)).toInt = 0 from (congrArg (fun z : Int => (lg_cmp (i64 z) (i64 d)).toInt) (show (w14 : Int) = d by omega)).trans (lcmp_self _)]
                        refine wl_ne hK rfl (by omega) (by omega) (fun h16 => ?_) (fun h16 => ?_)
                        · exfalso
                          omega
                        · refine wl_al hK rfl rfl ?_
                          refine wl_ic hK rfl ?_
                          refine wl_cv [(1, 0), (0, 0)] hK rfl rfl rfl rfl (Or.inr ⟨_, _, _, rfl, by decide, by decide, rfl⟩) (Or.inr rfl) hc (eo_row H13 0 (by omega)) (fun v17 M17 e17 H17 => (?_ : WL 24 379 [(1, -2), (1, 0), (0, f), (0, (qq k : Int)), (0, kk), (0, c), (0, (i : Int)), (0, d), (0, e), (0, s), (0, 1), (2, w14), (3, 0), (0, 2)] [(2, v17)] M17 cc ss))
                          have g17 : v17 = ((ld (pl i)).val : Int) := e17.trans (stw_at (by omega))
                          have i17 := el_I (ld (pl i))
                          refine wl_al hK rfl rfl ?_
                          refine wl_il hK rfl rfl ?_
                          refine wl_ic hK rfl ?_
                          refine wl_cv [(1, 0), (0, (i : Int)), (0, 0)] hK rfl rfl rfl rfl (Or.inr ⟨_, _, _, rfl, by decide, by decide, rfl⟩) (Or.inl rfl) hc (eo_form0 H17 i hi (pl i) rfl) (fun v18 M18 e18 H18 => (?_ : WL 24 383 [(1, -2), (1, 0), (0, f), (0, (qq k : Int)), (0, kk), (0, c), (0, (i : Int)), (0, d), (0, e), (0, s), (0, 1), (2, w14), (3, 0), (0, 2)] [(0, v18), (2, v17)] M18 cc ss))
                          have i18 := el_I (ld (pl i))
                          refine wl_i2l hK rfl (by omega) (by omega) ?_
                          refine wl_lcmp hK rfl ?_
                          rw [show (lg_cmp (i64 v17) (i64 v18)).toInt = 0 from (congrArg (fun z : Int => (lg_cmp (i64 z) (i64 v18)).toInt) (show (v17 : Int) = v18 by omega)).trans (lcmp_self _)]
                          refine wl_eq hK rfl (by omega) (by omega) (fun h19 => ?_) (fun h19 => ?_)
                          · exact next M18 _ _ _ _ _ _ _ H18 rfl rfl
                          · exfalso
                            omega
                      · exfalso
                        omega
                  · exfalso
                    omega
              · refine wl_ic hK rfl ?_
                refine wl_goto hK rfl ?_
                refine wl_ne2 hK rfl (by omega) (by omega) (by omega) (by omega) (fun h20 => ?_) (fun h20 => ?_)
                · exfalso
                  omega
                · refine wl_al hK rfl rfl ?_
                  refine wl_il hK rfl rfl ?_
                  refine wl_cv [(1, 0), (0, (i : Int))] hK rfl rfl rfl rfl (Or.inr ⟨_, _, _, rfl, by decide, by decide, rfl⟩) (Or.inl rfl) hc (eo_ways H5 i hi (pl i) rfl q0 (by omega)) (fun v21 M21 e21 H21 => (?_ : WL 24 348 [(1, -2), (1, 0), (0, f), (0, (qq k : Int)), (0, kk), (0, c), (0, (i : Int)), (0, d), (0, e), (0, s), (0, 1), x11, x12, x13] [(0, v21)] M21 cc ss))
                  refine wl_ic hK rfl ?_
                  refine wl_ge2 hK rfl (by omega) (by omega) (by omega) (by omega) (fun h22 => ?_) (fun h22 => ?_)
                  · refine wl_al hK rfl rfl ?_
                    refine wl_il hK rfl rfl ?_
                    refine wl_cv [(1, 0), (0, (i : Int))] hK rfl rfl rfl rfl (Or.inr ⟨_, _, _, rfl, by decide, by decide, rfl⟩) (Or.inl rfl) hc (eo_facs H21 i hi (pl i) rfl q0 (by omega)) (fun v23 M23 e23 H23 => (?_ : WL 24 355 [(1, -2), (1, 0), (0, f), (0, (qq k : Int)), (0, kk), (0, c), (0, (i : Int)), (0, d), (0, e), (0, s), (0, 1), x11, x12, x13] [(0, v23)] M23 cc ss))
                    refine wl_pop hK rfl rfl ?_
                    refine wl_lc hK rfl ?_
                    refine wl_ls [(1, -2), (1, 0), (0, f), (0, (qq k : Int)), (0, kk), (0, c), (0, (i : Int)), (0, d), (0, e), (0, s), (0, 1), (2, 0), (3, 0), x13] hK rfl rfl rfl ?_
                    refine wl_ic hK rfl ?_
                    refine wl_is [(1, -2), (1, 0), (0, f), (0, (qq k : Int)), (0, kk), (0, c), (0, (i : Int)), (0, d), (0, e), (0, s), (0, 1), (2, 0), (3, 0), (0, 1)] hK rfl rfl rfl ?_
                    refine wl_il hK rfl rfl ?_
                    refine wl_il hK rfl rfl ?_
                    refine wl_gt2 hK rfl (by omega) (by omega) (by omega) (by omega) (fun h24 => ?_) (fun h24 => ?_)
                    · exfalso
                      omega
                    · refine wl_ll hK rfl rfl ?_
                      refine wl_al hK rfl rfl ?_
                      refine wl_il hK rfl rfl ?_
                      refine wl_cv [(1, 0), (0, 1)] hK rfl rfl rfl rfl (Or.inr ⟨_, _, _, rfl, by decide, by decide, rfl⟩) (Or.inr rfl) hc (eo_row H23 1 (by omega)) (fun v25 M25 e25 H25 => (?_ : WL 24 367 [(1, -2), (1, 0), (0, f), (0, (qq k : Int)), (0, kk), (0, c), (0, (i : Int)), (0, d), (0, e), (0, s), (0, 1), (2, 0), (3, 0), (0, 1)] [(2, v25), (2, 0)] M25 cc ss))
                      have g25 : v25 = dg (spF (pl i) 0) := e25.trans ((stw_at (by omega)).trans (facG_at (b := 0) (by decide) (by omega)))
                      refine wl_lb hK rfl rfl ?_
                      show WL 24 368 [(1, -2), (1, 0), (0, f), (0, (qq k : Int)), (0, kk), (0, c), (0, (i : Int)), (0, d), (0, e), (0, s), (0, 1), (2, 0), (3, 0), (0, 1)] [(2, (i64 0 + i64 v25).toInt)] M25 cc ss
                      obtain ⟨w26, hw26⟩ : ∃ w : Int, w = (i64 0 + i64 v25).toInt := ⟨_, rfl⟩
                      rw [← hw26]
                      rw [i64_add (by omega) (by omega)] at hw26
                      refine wl_ls [(1, -2), (1, 0), (0, f), (0, (qq k : Int)), (0, kk), (0, c), (0, (i : Int)), (0, d), (0, e), (0, s), (0, 1), (2, w26), (3, 0), (0, 1)] hK rfl rfl rfl ?_
                      refine wl_inc [(1, -2), (1, 0), (0, f), (0, (qq k : Int)), (0, kk), (0, c), (0, (i : Int)), (0, d), (0, e), (0, s), (0, 1), (2, w26), (3, 0), (0, 2)] hK rfl rfl rfl (by omega) (by omega) rfl ?_
                      refine wl_goto hK rfl ?_
                      refine wl_il hK rfl rfl ?_
                      refine wl_il hK rfl rfl ?_
                      refine wl_gt2 hK rfl (by omega) (by omega) (by omega) (by omega) (fun h27 => ?_) (fun h27 => ?_)
                      · refine wl_ll hK rfl rfl ?_
                        refine wl_il hK rfl rfl ?_
                        refine wl_i2l hK rfl (by omega) (by omega) ?_
                        refine wl_lcmp hK rfl ?_
                        rw [show (lg_cmp (i64 w26) (i64 d)).toInt = 0 from (congrArg (fun z : Int => (lg_cmp (i64 z) (i64 d)).toInt) (show (w26 : Int) = d by omega)).trans (lcmp_self _)]
                        refine wl_ne hK rfl (by omega) (by omega) (fun h28 => ?_) (fun h28 => ?_)
                        · exfalso
                          omega
                        · refine wl_al hK rfl rfl ?_
                          refine wl_ic hK rfl ?_
                          refine wl_cv [(1, 0), (0, 0)] hK rfl rfl rfl rfl (Or.inr ⟨_, _, _, rfl, by decide, by decide, rfl⟩) (Or.inr rfl) hc (eo_row H25 0 (by omega)) (fun v29 M29 e29 H29 => (?_ : WL 24 379 [(1, -2), (1, 0), (0, f), (0, (qq k : Int)), (0, kk), (0, c), (0, (i : Int)), (0, d), (0, e), (0, s), (0, 1), (2, w26), (3, 0), (0, 2)] [(2, v29)] M29 cc ss))
                          have g29 : v29 = ((ld (pl i)).val : Int) := e29.trans (stw_at (by omega))
                          have i29 := el_I (ld (pl i))
                          refine wl_al hK rfl rfl ?_
                          refine wl_il hK rfl rfl ?_
                          refine wl_ic hK rfl ?_
                          refine wl_cv [(1, 0), (0, (i : Int)), (0, 0)] hK rfl rfl rfl rfl (Or.inr ⟨_, _, _, rfl, by decide, by decide, rfl⟩) (Or.inl rfl) hc (eo_form0 H29 i hi (pl i) rfl) (fun v30 M30 e30 H30 => (?_ : WL 24 383 [(1, -2), (1, 0), (0, f), (0, (qq k : Int)), (0, kk), (0, c), (0, (i : Int)), (0, d), (0, e), (0, s), (0, 1), (2, w26), (3, 0), (0, 2)] [(0, v30), (2, v29)] M30 cc ss))
                          have i30 := el_I (ld (pl i))
                          refine wl_i2l hK rfl (by omega) (by omega) ?_
                          refine wl_lcmp hK rfl ?_
                          rw [show (lg_cmp (i64 v29) (i64 v30)).toInt = 0 from (congrArg (fun z : Int => (lg_cmp (i64 z) (i64 v30)).toInt) (show (v29 : Int) = v30 by omega)).trans (lcmp_self _)]
                          refine wl_eq hK rfl (by omega) (by omega) (fun h31 => ?_) (fun h31 => ?_)
                          · exact next M30 _ _ _ _ _ _ _ H30 rfl rfl
                          · exfalso
                            omega
                      · exfalso
                        omega
                  · exfalso
                    omega
      · exfalso
        omega
    · have cs : 0 + dg (spF (pl i) 0) + dg (spF (pl i) 1) = d := by
        rw [← hr, ← c4, ec]
        rfl
      refine wl_al hK rfl rfl ?_
      refine wl_il hK rfl rfl ?_
      refine wl_cv [(1, 0), (0, (i : Int))] hK rfl rfl rfl rfl (Or.inr ⟨_, _, _, rfl, by decide, by decide, rfl⟩) (Or.inl rfl) hc (eo_facs H i hi (pl i) rfl q0 (by omega)) (fun v1 M1 e1 H1 => (?_ : WL 24 320 [(1, -2), (1, 0), (0, f), (0, (qq k : Int)), (0, kk), (0, c), (0, (i : Int)), (0, d), (0, e), (0, s), x10, x11, x12, x13] [(0, v1)] M1 cc ss))
      obtain rfl : v1 = 2 := by rw [e1, ec]; rfl
      refine wl_is [(1, -2), (1, 0), (0, f), (0, (qq k : Int)), (0, kk), (0, c), (0, (i : Int)), (0, d), (0, e), (0, s), (0, 2), x11, x12, x13] hK rfl rfl rfl ?_
      refine wl_il hK rfl rfl ?_
      refine wl_ge hK rfl (by omega) (by omega) (fun h2 => ?_) (fun h2 => ?_)
      · refine wl_il hK rfl rfl ?_
        refine wl_lt hK rfl (by omega) (by omega) (fun h3 => ?_) (fun h3 => ?_)
        · exfalso
          omega
        · refine wl_il hK rfl rfl ?_
          refine wl_il hK rfl rfl ?_
          refine wl_gt2 hK rfl (by omega) (by omega) (by omega) (by omega) (fun h4 => ?_) (fun h4 => ?_)
          · exfalso
            omega
          · refine wl_al hK rfl rfl ?_
            refine wl_il hK rfl rfl ?_
            refine wl_cv [(1, 0), (0, (i : Int))] hK rfl rfl rfl rfl (Or.inr ⟨_, _, _, rfl, by decide, by decide, rfl⟩) (Or.inl rfl) hc (eo_prime H1 i hi (pl i) rfl q0 (by omega)) (fun v5 M5 e5 H5 => (?_ : WL 24 336 [(1, -2), (1, 0), (0, f), (0, (qq k : Int)), (0, kk), (0, c), (0, (i : Int)), (0, d), (0, e), (0, s), (0, 2), x11, x12, x13] [(0, v5)] M5 cc ss))
            rw [hp, ec] at e5
            have g5 : v5 = 0 := by rw [e5]; exact if_neg (by omega)
            refine wl_il hK rfl rfl ?_
            refine wl_ic hK rfl ?_
            refine wl_ne2 hK rfl (by omega) (by omega) (by omega) (by omega) (fun h6 => ?_) (fun h6 => ?_)
            · refine wl_ic hK rfl ?_
              refine wl_ne2 hK rfl (by omega) (by omega) (by omega) (by omega) (fun h7 => ?_) (fun h7 => ?_)
              · exfalso
                omega
              · refine wl_al hK rfl rfl ?_
                refine wl_il hK rfl rfl ?_
                refine wl_cv [(1, 0), (0, (i : Int))] hK rfl rfl rfl rfl (Or.inr ⟨_, _, _, rfl, by decide, by decide, rfl⟩) (Or.inl rfl) hc (eo_ways H5 i hi (pl i) rfl q0 (by omega)) (fun v8 M8 e8 H8 => (?_ : WL 24 348 [(1, -2), (1, 0), (0, f), (0, (qq k : Int)), (0, kk), (0, c), (0, (i : Int)), (0, d), (0, e), (0, s), (0, 2), x11, x12, x13] [(0, v8)] M8 cc ss))
                refine wl_ic hK rfl ?_
                refine wl_ge2 hK rfl (by omega) (by omega) (by omega) (by omega) (fun h9 => ?_) (fun h9 => ?_)
                · refine wl_al hK rfl rfl ?_
                  refine wl_il hK rfl rfl ?_
                  refine wl_cv [(1, 0), (0, (i : Int))] hK rfl rfl rfl rfl (Or.inr ⟨_, _, _, rfl, by decide, by decide, rfl⟩) (Or.inl rfl) hc (eo_facs H8 i hi (pl i) rfl q0 (by omega)) (fun v10 M10 e10 H10 => (?_ : WL 24 355 [(1, -2), (1, 0), (0, f), (0, (qq k : Int)), (0, kk), (0, c), (0, (i : Int)), (0, d), (0, e), (0, s), (0, 2), x11, x12, x13] [(0, v10)] M10 cc ss))
                  refine wl_pop hK rfl rfl ?_
                  refine wl_lc hK rfl ?_
                  refine wl_ls [(1, -2), (1, 0), (0, f), (0, (qq k : Int)), (0, kk), (0, c), (0, (i : Int)), (0, d), (0, e), (0, s), (0, 2), (2, 0), (3, 0), x13] hK rfl rfl rfl ?_
                  refine wl_ic hK rfl ?_
                  refine wl_is [(1, -2), (1, 0), (0, f), (0, (qq k : Int)), (0, kk), (0, c), (0, (i : Int)), (0, d), (0, e), (0, s), (0, 2), (2, 0), (3, 0), (0, 1)] hK rfl rfl rfl ?_
                  refine wl_il hK rfl rfl ?_
                  refine wl_il hK rfl rfl ?_
                  refine wl_gt2 hK rfl (by omega) (by omega) (by omega) (by omega) (fun h11 => ?_) (fun h11 => ?_)
                  · exfalso
                    omega
                  · refine wl_ll hK rfl rfl ?_
                    refine wl_al hK rfl rfl ?_
                    refine wl_il hK rfl rfl ?_
                    refine wl_cv [(1, 0), (0, 1)] hK rfl rfl rfl rfl (Or.inr ⟨_, _, _, rfl, by decide, by decide, rfl⟩) (Or.inr rfl) hc (eo_row H10 1 (by omega)) (fun v12 M12 e12 H12 => (?_ : WL 24 367 [(1, -2), (1, 0), (0, f), (0, (qq k : Int)), (0, kk), (0, c), (0, (i : Int)), (0, d), (0, e), (0, s), (0, 2), (2, 0), (3, 0), (0, 1)] [(2, v12), (2, 0)] M12 cc ss))
                    have g12 : v12 = dg (spF (pl i) 1) := e12.trans ((stw_at (by omega)).trans (facG_at (b := 1) (by decide) (by omega)))
                    refine wl_lb hK rfl rfl ?_
                    show WL 24 368 [(1, -2), (1, 0), (0, f), (0, (qq k : Int)), (0, kk), (0, c), (0, (i : Int)), (0, d), (0, e), (0, s), (0, 2), (2, 0), (3, 0), (0, 1)] [(2, (i64 0 + i64 v12).toInt)] M12 cc ss
                    obtain ⟨w13, hw13⟩ : ∃ w : Int, w = (i64 0 + i64 v12).toInt := ⟨_, rfl⟩
                    rw [← hw13]
                    rw [i64_add (by omega) (by omega)] at hw13
                    refine wl_ls [(1, -2), (1, 0), (0, f), (0, (qq k : Int)), (0, kk), (0, c), (0, (i : Int)), (0, d), (0, e), (0, s), (0, 2), (2, w13), (3, 0), (0, 1)] hK rfl rfl rfl ?_
                    refine wl_inc [(1, -2), (1, 0), (0, f), (0, (qq k : Int)), (0, kk), (0, c), (0, (i : Int)), (0, d), (0, e), (0, s), (0, 2), (2, w13), (3, 0), (0, 2)] hK rfl rfl rfl (by omega) (by omega) rfl ?_
                    refine wl_goto hK rfl ?_
                    refine wl_il hK rfl rfl ?_
                    refine wl_il hK rfl rfl ?_
                    refine wl_gt2 hK rfl (by omega) (by omega) (by omega) (by omega) (fun h14 => ?_) (fun h14 => ?_)
                    · exfalso
                      omega
                    · refine wl_ll hK rfl rfl ?_
                      refine wl_al hK rfl rfl ?_
                      refine wl_il hK rfl rfl ?_
                      refine wl_cv [(1, 0), (0, 2)] hK rfl rfl rfl rfl (Or.inr ⟨_, _, _, rfl, by decide, by decide, rfl⟩) (Or.inr rfl) hc (eo_row H12 2 (by omega)) (fun v15 M15 e15 H15 => (?_ : WL 24 367 [(1, -2), (1, 0), (0, f), (0, (qq k : Int)), (0, kk), (0, c), (0, (i : Int)), (0, d), (0, e), (0, s), (0, 2), (2, w13), (3, 0), (0, 2)] [(2, v15), (2, w13)] M15 cc ss))
                      have g15 : v15 = dg (spF (pl i) 0) := e15.trans ((stw_at (by omega)).trans (facG_at (b := 0) (by decide) (by omega)))
                      refine wl_lb hK rfl rfl ?_
                      show WL 24 368 [(1, -2), (1, 0), (0, f), (0, (qq k : Int)), (0, kk), (0, c), (0, (i : Int)), (0, d), (0, e), (0, s), (0, 2), (2, w13), (3, 0), (0, 2)] [(2, (i64 w13 + i64 v15).toInt)] M15 cc ss
                      obtain ⟨w16, hw16⟩ : ∃ w : Int, w = (i64 w13 + i64 v15).toInt := ⟨_, rfl⟩
                      rw [← hw16]
                      rw [i64_add (by omega) (by omega)] at hw16
                      refine wl_ls [(1, -2), (1, 0), (0, f), (0, (qq k : Int)), (0, kk), (0, c), (0, (i : Int)), (0, d), (0, e), (0, s), (0, 2), (2, w16), (3, 0), (0, 2)] hK rfl rfl rfl ?_
                      refine wl_inc [(1, -2), (1, 0), (0, f), (0, (qq k : Int)), (0, kk), (0, c), (0, (i : Int)), (0, d), (0, e), (0, s), (0, 2), (2, w16), (3, 0), (0, 3)] hK rfl rfl rfl (by omega) (by omega) rfl ?_
                      refine wl_goto hK rfl ?_
                      refine wl_il hK rfl rfl ?_
                      refine wl_il hK rfl rfl ?_
                      refine wl_gt2 hK rfl (by omega) (by omega) (by omega) (by omega) (fun h17 => ?_) (fun h17 => ?_)
                      · refine wl_ll hK rfl rfl ?_
                        refine wl_il hK rfl rfl ?_
                        refine wl_i2l hK rfl (by omega) (by omega) ?_
                        refine wl_lcmp hK rfl ?_
                        rw [show (lg_cmp (i64 w16) (i64 d)).toInt = 0 from (congrArg (fun z : Int => (lg_cmp (i64 z) (i64 d)).toInt) (show (w16 : Int) = d by omega)).trans (lcmp_self _)]
                        refine wl_ne hK rfl (by omega) (by omega) (fun h18 => ?_) (fun h18 => ?_)
                        · exfalso
                          omega
                        · refine wl_al hK rfl rfl ?_
                          refine wl_ic hK rfl ?_
                          refine wl_cv [(1, 0), (0, 0)] hK rfl rfl rfl rfl (Or.inr ⟨_, _, _, rfl, by decide, by decide, rfl⟩) (Or.inr rfl) hc (eo_row H15 0 (by omega)) (fun v19 M19 e19 H19 => (?_ : WL 24 379 [(1, -2), (1, 0), (0, f), (0, (qq k : Int)), (0, kk), (0, c), (0, (i : Int)), (0, d), (0, e), (0, s), (0, 2), (2, w16), (3, 0), (0, 3)] [(2, v19)] M19 cc ss))
                          have g19 : v19 = ((ld (pl i)).val : Int) := e19.trans (stw_at (by omega))
                          have i19 := el_I (ld (pl i))
                          refine wl_al hK rfl rfl ?_
                          refine wl_il hK rfl rfl ?_
                          refine wl_ic hK rfl ?_
                          refine wl_cv [(1, 0), (0, (i : Int)), (0, 0)] hK rfl rfl rfl rfl (Or.inr ⟨_, _, _, rfl, by decide, by decide, rfl⟩) (Or.inl rfl) hc (eo_form0 H19 i hi (pl i) rfl) (fun v20 M20 e20 H20 => (?_ : WL 24 383 [(1, -2), (1, 0), (0, f), (0, (qq k : Int)), (0, kk), (0, c), (0, (i : Int)), (0, d), (0, e), (0, s), (0, 2), (2, w16), (3, 0), (0, 3)] [(0, v20), (2, v19)] M20 cc ss))
                          have i20 := el_I (ld (pl i))
                          refine wl_i2l hK rfl (by omega) (by omega) ?_
                          refine wl_lcmp hK rfl ?_
                          rw [show (lg_cmp (i64 v19) (i64 v20)).toInt = 0 from (congrArg (fun z : Int => (lg_cmp (i64 z) (i64 v20)).toInt) (show (v19 : Int) = v20 by omega)).trans (lcmp_self _)]
                          refine wl_eq hK rfl (by omega) (by omega) (fun h21 => ?_) (fun h21 => ?_)
                          · exact next M20 _ _ _ _ _ _ _ H20 rfl rfl
                          · exfalso
                            omega
                      · exfalso
                        omega
                · exfalso
                  omega
            · exfalso
              omega
      · exfalso
        omega
    · have cs : 0 + dg (spF (pl i) 0) + dg (spF (pl i) 1) + dg (spF (pl i) 2) = d := by
        rw [← hr, ← c4, ec]
        rfl
      refine wl_al hK rfl rfl ?_
      refine wl_il hK rfl rfl ?_
      refine wl_cv [(1, 0), (0, (i : Int))] hK rfl rfl rfl rfl (Or.inr ⟨_, _, _, rfl, by decide, by decide, rfl⟩) (Or.inl rfl) hc (eo_facs H i hi (pl i) rfl q0 (by omega)) (fun v1 M1 e1 H1 => (?_ : WL 24 320 [(1, -2), (1, 0), (0, f), (0, (qq k : Int)), (0, kk), (0, c), (0, (i : Int)), (0, d), (0, e), (0, s), x10, x11, x12, x13] [(0, v1)] M1 cc ss))
      obtain rfl : v1 = 3 := by rw [e1, ec]; rfl
      refine wl_is [(1, -2), (1, 0), (0, f), (0, (qq k : Int)), (0, kk), (0, c), (0, (i : Int)), (0, d), (0, e), (0, s), (0, 3), x11, x12, x13] hK rfl rfl rfl ?_
      refine wl_il hK rfl rfl ?_
      refine wl_ge hK rfl (by omega) (by omega) (fun h2 => ?_) (fun h2 => ?_)
      · refine wl_il hK rfl rfl ?_
        refine wl_lt hK rfl (by omega) (by omega) (fun h3 => ?_) (fun h3 => ?_)
        · exfalso
          omega
        · refine wl_il hK rfl rfl ?_
          refine wl_il hK rfl rfl ?_
          refine wl_gt2 hK rfl (by omega) (by omega) (by omega) (by omega) (fun h4 => ?_) (fun h4 => ?_)
          · exfalso
            omega
          · refine wl_al hK rfl rfl ?_
            refine wl_il hK rfl rfl ?_
            refine wl_cv [(1, 0), (0, (i : Int))] hK rfl rfl rfl rfl (Or.inr ⟨_, _, _, rfl, by decide, by decide, rfl⟩) (Or.inl rfl) hc (eo_prime H1 i hi (pl i) rfl q0 (by omega)) (fun v5 M5 e5 H5 => (?_ : WL 24 336 [(1, -2), (1, 0), (0, f), (0, (qq k : Int)), (0, kk), (0, c), (0, (i : Int)), (0, d), (0, e), (0, s), (0, 3), x11, x12, x13] [(0, v5)] M5 cc ss))
            rw [hp, ec] at e5
            have g5 : v5 = 0 := by rw [e5]; exact if_neg (by omega)
            refine wl_il hK rfl rfl ?_
            refine wl_ic hK rfl ?_
            refine wl_ne2 hK rfl (by omega) (by omega) (by omega) (by omega) (fun h6 => ?_) (fun h6 => ?_)
            · refine wl_ic hK rfl ?_
              refine wl_ne2 hK rfl (by omega) (by omega) (by omega) (by omega) (fun h7 => ?_) (fun h7 => ?_)
              · exfalso
                omega
              · refine wl_al hK rfl rfl ?_
                refine wl_il hK rfl rfl ?_
                refine wl_cv [(1, 0), (0, (i : Int))] hK rfl rfl rfl rfl (Or.inr ⟨_, _, _, rfl, by decide, by decide, rfl⟩) (Or.inl rfl) hc (eo_ways H5 i hi (pl i) rfl q0 (by omega)) (fun v8 M8 e8 H8 => (?_ : WL 24 348 [(1, -2), (1, 0), (0, f), (0, (qq k : Int)), (0, kk), (0, c), (0, (i : Int)), (0, d), (0, e), (0, s), (0, 3), x11, x12, x13] [(0, v8)] M8 cc ss))
                refine wl_ic hK rfl ?_
                refine wl_ge2 hK rfl (by omega) (by omega) (by omega) (by omega) (fun h9 => ?_) (fun h9 => ?_)
                · refine wl_al hK rfl rfl ?_
                  refine wl_il hK rfl rfl ?_
                  refine wl_cv [(1, 0), (0, (i : Int))] hK rfl rfl rfl rfl (Or.inr ⟨_, _, _, rfl, by decide, by decide, rfl⟩) (Or.inl rfl) hc (eo_facs H8 i hi (pl i) rfl q0 (by omega)) (fun v10 M10 e10 H10 => (?_ : WL 24 355 [(1, -2), (1, 0), (0, f), (0, (qq k : Int)), (0, kk), (0, c), (0, (i : Int)), (0, d), (0, e), (0, s), (0, 3), x11, x12, x13] [(0, v10)] M10 cc ss))
                  refine wl_pop hK rfl rfl ?_
                  refine wl_lc hK rfl ?_
                  refine wl_ls [(1, -2), (1, 0), (0, f), (0, (qq k : Int)), (0, kk), (0, c), (0, (i : Int)), (0, d), (0, e), (0, s), (0, 3), (2, 0), (3, 0), x13] hK rfl rfl rfl ?_
                  refine wl_ic hK rfl ?_
                  refine wl_is [(1, -2), (1, 0), (0, f), (0, (qq k : Int)), (0, kk), (0, c), (0, (i : Int)), (0, d), (0, e), (0, s), (0, 3), (2, 0), (3, 0), (0, 1)] hK rfl rfl rfl ?_
                  refine wl_il hK rfl rfl ?_
                  refine wl_il hK rfl rfl ?_
                  refine wl_gt2 hK rfl (by omega) (by omega) (by omega) (by omega) (fun h11 => ?_) (fun h11 => ?_)
                  · exfalso
                    omega
                  · refine wl_ll hK rfl rfl ?_
                    refine wl_al hK rfl rfl ?_
                    refine wl_il hK rfl rfl ?_
                    refine wl_cv [(1, 0), (0, 1)] hK rfl rfl rfl rfl (Or.inr ⟨_, _, _, rfl, by decide, by decide, rfl⟩) (Or.inr rfl) hc (eo_row H10 1 (by omega)) (fun v12 M12 e12 H12 => (?_ : WL 24 367 [(1, -2), (1, 0), (0, f), (0, (qq k : Int)), (0, kk), (0, c), (0, (i : Int)), (0, d), (0, e), (0, s), (0, 3), (2, 0), (3, 0), (0, 1)] [(2, v12), (2, 0)] M12 cc ss))
                    have g12 : v12 = dg (spF (pl i) 2) := e12.trans ((stw_at (by omega)).trans (facG_at (b := 2) (by decide) (by omega)))
                    refine wl_lb hK rfl rfl ?_
                    show WL 24 368 [(1, -2), (1, 0), (0, f), (0, (qq k : Int)), (0, kk), (0, c), (0, (i : Int)), (0, d), (0, e), (0, s), (0, 3), (2, 0), (3, 0), (0, 1)] [(2, (i64 0 + i64 v12).toInt)] M12 cc ss
                    obtain ⟨w13, hw13⟩ : ∃ w : Int, w = (i64 0 + i64 v12).toInt := ⟨_, rfl⟩
                    rw [← hw13]
                    rw [i64_add (by omega) (by omega)] at hw13
                    refine wl_ls [(1, -2), (1, 0), (0, f), (0, (qq k : Int)), (0, kk), (0, c), (0, (i : Int)), (0, d), (0, e), (0, s), (0, 3), (2, w13), (3, 0), (0, 1)] hK rfl rfl rfl ?_
                    refine wl_inc [(1, -2), (1, 0), (0, f), (0, (qq k : Int)), (0, kk), (0, c), (0, (i : Int)), (0, d), (0, e), (0, s), (0, 3), (2, w13), (3, 0), (0, 2)] hK rfl rfl rfl (by omega) (by omega) rfl ?_
                    refine wl_goto hK rfl ?_
                    refine wl_il hK rfl rfl ?_
                    refine wl_il hK rfl rfl ?_
                    refine wl_gt2 hK rfl (by omega) (by omega) (by omega) (by omega) (fun h14 => ?_) (fun h14 => ?_)
                    · exfalso
                      omega
                    · refine wl_ll hK rfl rfl ?_
                      refine wl_al hK rfl rfl ?_
                      refine wl_il hK rfl rfl ?_
                      refine wl_cv [(1, 0), (0, 2)] hK rfl rfl rfl rfl (Or.inr ⟨_, _, _, rfl, by decide, by decide, rfl⟩) (Or.inr rfl) hc (eo_row H12 2 (by omega)) (fun v15 M15 e15 H15 => (?_ : WL 24 367 [(1, -2), (1, 0), (0, f), (0, (qq k : Int)), (0, kk), (0, c), (0, (i : Int)), (0, d), (0, e), (0, s), (0, 3), (2, w13), (3, 0), (0, 2)] [(2, v15), (2, w13)] M15 cc ss))
                      have g15 : v15 = dg (spF (pl i) 1) := e15.trans ((stw_at (by omega)).trans (facG_at (b := 1) (by decide) (by omega)))
                      refine wl_lb hK rfl rfl ?_
                      show WL 24 368 [(1, -2), (1, 0), (0, f), (0, (qq k : Int)), (0, kk), (0, c), (0, (i : Int)), (0, d), (0, e), (0, s), (0, 3), (2, w13), (3, 0), (0, 2)] [(2, (i64 w13 + i64 v15).toInt)] M15 cc ss
                      obtain ⟨w16, hw16⟩ : ∃ w : Int, w = (i64 w13 + i64 v15).toInt := ⟨_, rfl⟩
                      rw [← hw16]
                      rw [i64_add (by omega) (by omega)] at hw16
                      refine wl_ls [(1, -2), (1, 0), (0, f), (0, (qq k : Int)), (0, kk), (0, c), (0, (i : Int)), (0, d), (0, e), (0, s), (0, 3), (2, w16), (3, 0), (0, 2)] hK rfl rfl rfl ?_
                      refine wl_inc [(1, -2), (1, 0), (0, f), (0, (qq k : Int)), (0, kk), (0, c), (0, (i : Int)), (0, d), (0, e), (0, s), (0, 3), (2, w16), (3, 0), (0, 3)] hK rfl rfl rfl (by omega) (by omega) rfl ?_
                      refine wl_goto hK rfl ?_
                      refine wl_il hK rfl rfl ?_
                      refine wl_il hK rfl rfl ?_
                      refine wl_gt2 hK rfl (by omega) (by omega) (by omega) (by omega) (fun h17 => ?_) (fun h17 => ?_)
                      · exfalso
                        omega
                      · refine wl_ll hK rfl rfl ?_
                        refine wl_al hK rfl rfl ?_
                        refine wl_il hK rfl rfl ?_
                        refine wl_cv [(1, 0), (0, 3)] hK rfl rfl rfl rfl (Or.inr ⟨_, _, _, rfl, by decide, by decide, rfl⟩) (Or.inr rfl) hc (eo_row H15 3 (by omega)) (fun v18 M18 e18 H18 => (?_ : WL 24 367 [(1, -2), (1, 0), (0, f), (0, (qq k : Int)), (0, kk), (0, c), (0, (i : Int)), (0, d), (0, e), (0, s), (0, 3), (2, w16), (3, 0), (0, 3)] [(2, v18), (2, w16)] M18 cc ss))
                        have g18 : v18 = dg (spF (pl i) 0) := e18.trans ((stw_at (by omega)).trans (facG_at (b := 0) (by decide) (by omega)))
                        refine wl_lb hK rfl rfl ?_
                        show WL 24 368 [(1, -2), (1, 0), (0, f), (0, (qq k : Int)), (0, kk), (0, c), (0, (i : Int)), (0, d), (0, e), (0, s), (0, 3), (2, w16), (3, 0), (0, 3)] [(2, (i64 w16 + i64 v18).toInt)] M18 cc ss
                        obtain ⟨w19, hw19⟩ : ∃ w : Int, w = (i64 w16 + i64 v18).toInt := ⟨_, rfl⟩
                        rw [← hw19]
                        rw [i64_add (by omega) (by omega)] at hw19
                        refine wl_ls [(1, -2), (1, 0), (0, f), (0, (qq k : Int)), (0, kk), (0, c), (0, (i : Int)), (0, d), (0, e), (0, s), (0, 3), (2, w19), (3, 0), (0, 3)] hK rfl rfl rfl ?_
                        refine wl_inc [(1, -2), (1, 0), (0, f), (0, (qq k : Int)), (0, kk), (0, c), (0, (i : Int)), (0, d), (0, e), (0, s), (0, 3), (2, w19), (3, 0), (0, 4)] hK rfl rfl rfl (by omega) (by omega) rfl ?_
                        refine wl_goto hK rfl ?_
                        refine wl_il hK rfl rfl ?_
                        refine wl_il hK rfl rfl ?_
                        refine wl_gt2 hK rfl (by omega) (by omega) (by omega) (by omega) (fun h20 => ?_) (fun h20 => ?_)
                        · refine wl_ll hK rfl rfl ?_
                          refine wl_il hK rfl rfl ?_
                          refine wl_i2l hK rfl (by omega) (by omega) ?_
                          refine wl_lcmp hK rfl ?_
                          rw [show (lg_cmp (i64 w19) (i64 d)).toInt = 0 from (congrArg (fun z : Int => (lg_cmp (i64 z) (i64 d)).toInt) (show (w19 : Int) = d by omega)).trans (lcmp_self _)]
                          refine wl_ne hK rfl (by omega) (by omega) (fun h21 => ?_) (fun h21 => ?_)
                          · exfalso
                            omega
                          · refine wl_al hK rfl rfl ?_
                            refine wl_ic hK rfl ?_
                            refine wl_cv [(1, 0), (0, 0)] hK rfl rfl rfl rfl (Or.inr ⟨_, _, _, rfl, by decide, by decide, rfl⟩) (Or.inr rfl) hc (eo_row H18 0 (by omega)) (fun v22 M22 e22 H22 => (?_ : WL 24 379 [(1, -2), (1, 0), (0, f), (0, (qq k : Int)), (0, kk), (0, c), (0, (i : Int)), (0, d), (0, e), (0, s), (0, 3), (2, w19), (3, 0), (0, 4)] [(2, v22)] M22 cc ss))
                            have g22 : v22 = ((ld (pl i)).val : Int) := e22.trans (stw_at (by omega))
                            have i22 := el_I (ld (pl i))
                            refine wl_al hK rfl rfl ?_
                            refine wl_il hK rfl rfl ?_
                            refine wl_ic hK rfl ?_
                            refine wl_cv [(1, 0), (0, (i : Int)), (0, 0)] hK rfl rfl rfl rfl (Or.inr ⟨_, _, _, rfl, by decide, by decide, rfl⟩) (Or.inl rfl) hc (eo_form0 H22 i hi (pl i) rfl) (fun v23 M23 e23 H23 => (?_ : WL 24 383 [(1, -2), (1, 0), (0, f), (0, (qq k : Int)), (0, kk), (0, c), (0, (i : Int)), (0, d), (0, e), (0, s), (0, 3), (2, w19), (3, 0), (0, 4)] [(0, v23), (2, v22)] M23 cc ss))
                            have i23 := el_I (ld (pl i))
                            refine wl_i2l hK rfl (by omega) (by omega) ?_
                            refine wl_lcmp hK rfl ?_
                            rw [show (lg_cmp (i64 v22) (i64 v23)).toInt = 0 from (congrArg (fun z : Int => (lg_cmp (i64 z) (i64 v23)).toInt) (show (v22 : Int) = v23 by omega)).trans (lcmp_self _)]
                            refine wl_eq hK rfl (by omega) (by omega) (fun h24 => ?_) (fun h24 => ?_)
                            · exact next M23 _ _ _ _ _ _ _ H23 rfl rfl
                            · exfalso
                              omega
                        · exfalso
                          omega
                · exfalso
                  omega
            · exfalso
              omega
      · exfalso
        omega
