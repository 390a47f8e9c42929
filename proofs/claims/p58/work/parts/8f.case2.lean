/-! the law: values -/
theorem dn_scl {k : Nat} (c : El k) (f : Pl k) (x : El k) : dn (scl c f) x = ml c (dn f x) := by
  show sm (fun j => ml (ml c (f j)) (sg j x)) 17 = ml c (sm (fun j => ml (f j) (sg j x)) 17)
  rw [ml_sm]
  exact sm_congr fun j _ => ml_assoc _ _ _
theorem el_of {k : Nat} {v : Int} (h0 : 0 ≤ v) (h1 : v < (qq k : Int)) : ∃ x : El k, (x.val : Int) = v := ⟨⟨v.toNat, by omega⟩, by show (v.toNat : Int) = v; omega⟩
set_option maxRecDepth 100000 in
theorem lk_2 {X : Int → Int} {M : Mem} {k : Nat} (hk : k < 4) {pl : Nat → Pl k} {rc : Nat} {rw_ : Int → Int} (H : LZ X M k pl rc rw_) {f kk c d e s : Int} {i : Nat} (hs : s = 0 ∨ s = 1) (hde : (i = 0 ∧ d = dg (pl 0) ∧ e = dg (pl 1)) ∨ (i = 1 ∧ d = dg (pl 1) ∧ e = dg (pl 0))) (dd_ : -1 ≤ dg (pl 0) ∧ dg (pl 0) ≤ 3) (ee_ : -1 ≤ dg (pl 1) ∧ dg (pl 1) ≤ 3) {x10 x11 x12 x13 : AV} {cc ss : Nat} (hc : cc ≤ (cOf 307).1 ∧ ss ≤ (cOf 307).2) (next : ∀ (M' : Mem) (pl' : Nat → Pl k) (rc' : Nat) (rw' : Int → Int) (y10 y11 y12 y13 : AV), LZ X M' k pl' rc' rw' → pl' 0 = pl 0 → pl' 1 = pl 1 → WL 24 588 [(1, -2), (1, 0), (0, f), (0, (qq k : Int)), (0, kk), (0, c), (0, (i : Int)), (0, d), (0, e), (0, s), y10, y11, y12, y13] [] M' cc ss) : WL 24 246 [(1, -2), (1, 0), (0, f), (0, (qq k : Int)), (0, kk), (0, c), (0, (i : Int)), (0, d), (0, e), (0, s), x10, x11, x12, x13] [] M cc ss := by
  have hK : cd 307 = k307 := rfl
  have b0 := H.bd 0 (by decide)
  have b1 := H.bd 1 (by decide)
  have q1 := qq_I k
  have hi : i < 6 := by omega
  refine wl_il hK rfl rfl ?_
  refine wl_ic hK rfl ?_
  refine wl_any (w := ((i32 c).toUInt32 >>> ((i32 24).toUInt32 &&& Int32.toUInt32 31)).toInt32) hK rfl rfl rfl (fun v1 e1 a1 b1 => (?_ : WL 24 249 [(1, -2), (1, 0), (0, f), (0, (qq k : Int)), (0, kk), (0, c), (0, (i : Int)), (0, d), (0, e), (0, s), x10, x11, x12, x13] [(0, v1)] M cc ss))
  refine wl_ic hK rfl ?_
  refine wl_msk hK rfl (by omega) (by omega) (fun v2 e2 a2 b2 => (?_ : WL 24 251 [(1, -2), (1, 0), (0, f), (0, (qq k : Int)), (0, kk), (0, c), (0, (i : Int)), (0, d), (0, e), (0, s), x10, x11, x12, x13] [(0, v2)] M cc ss))
  refine wl_il hK rfl rfl ?_
  refine wl_rem hK rfl (by omega) (by omega) (by omega) (by omega) ?_
  obtain ⟨x, hx⟩ := el_of (k := k) (v := (v2 % (qq k : Int))) (Int.emod_nonneg _ (by omega)) (Int.emod_lt_of_pos _ (by omega))
  rw [← hx]
  have gx := el_I x
  refine wl_is [(1, -2), (1, 0), (0, f), (0, (qq k : Int)), (0, kk), (0, c), (0, (i : Int)), (0, d), (0, e), (0, s), (0, (x.val : Int)), x11, x12, x13] hK rfl rfl rfl ?_
  refine wl_il hK rfl rfl ?_
  refine wl_ic hK rfl ?_
  refine wl_any (w := ((i32 c).toUInt32 >>> ((i32 28).toUInt32 &&& Int32.toUInt32 31)).toInt32) hK rfl rfl rfl (fun v3 e3 a3 b3 => (?_ : WL 24 257 [(1, -2), (1, 0), (0, f), (0, (qq k : Int)), (0, kk), (0, c), (0, (i : Int)), (0, d), (0, e), (0, s), (0, (x.val : Int)), x11, x12, x13] [(0, v3)] M cc ss))
  refine wl_ic hK rfl ?_
  refine wl_msk hK rfl (by omega) (by omega) (fun v4 e4 a4 b4 => (?_ : WL 24 259 [(1, -2), (1, 0), (0, f), (0, (qq k : Int)), (0, kk), (0, c), (0, (i : Int)), (0, d), (0, e), (0, s), (0, (x.val : Int)), x11, x12, x13] [(0, v4)] M cc ss))
  refine wl_il hK rfl rfl ?_
  refine wl_rem hK rfl (by omega) (by omega) (by omega) (by omega) ?_
  obtain ⟨y, hy⟩ := el_of (k := k) (v := (v4 % (qq k : Int))) (Int.emod_nonneg _ (by omega)) (Int.emod_lt_of_pos _ (by omega))
  rw [← hy]
  have gy := el_I y
  refine wl_is [(1, -2), (1, 0), (0, f), (0, (qq k : Int)), (0, kk), (0, c), (0, (i : Int)), (0, d), (0, e), (0, s), (0, (x.val : Int)), (0, (y.val : Int)), x12, x13] hK rfl rfl rfl ?_
  refine wl_al hK rfl rfl ?_
  refine wl_il hK rfl rfl ?_
  refine wl_il hK rfl rfl ?_
  refine wl_ic hK rfl ?_
  refine wl_cv [(1, 0), (0, (x.val : Int)), (0, (i : Int)), (0, 2)] hK rfl rfl rfl rfl (Or.inr ⟨_, _, _, rfl, by decide, by decide, rfl⟩) (Or.inl rfl) hc (eo_scales H i hi (pl i) rfl 2 (by decide) x) (fun v5 M5 e5 H5 => (?_ : WL 24 267 [(1, -2), (1, 0), (0, f), (0, (qq k : Int)), (0, kk), (0, c), (0, (i : Int)), (0, d), (0, e), (0, s), (0, (x.val : Int)), (0, (y.val : Int)), x12, x13] [(0, v5)] M5 cc ss))
  have g5 : -1 ≤ v5 ∧ v5 ≤ 8 := by rw [e5]; exact H5.dI 2 (by decide)
  refine wl_pop hK rfl rfl ?_
  refine wl_al hK rfl rfl ?_
  refine wl_ic hK rfl ?_
  refine wl_il hK rfl rfl ?_
  refine wl_cv [(1, 0), (0, 2), (0, (y.val : Int))] hK rfl rfl rfl rfl (Or.inr ⟨_, _, _, rfl, by decide, by decide, rfl⟩) (Or.inl rfl) hc (eo_value H5 2 (by decide) (scl x (pl i)) rfl y) (fun v6 M6 e6 H6 => (?_ : WL 24 272 [(1, -2), (1, 0), (0, f), (0, (qq k : Int)), (0, kk), (0, c), (0, (i : Int)), (0, d), (0, e), (0, s), (0, (x.val : Int)), (0, (y.val : Int)), x12, x13] [(0, v6)] M6 cc ss))
  have i6 := el_I (vl (scl x (pl i)) y)
  refine wl_al hK rfl rfl ?_
  refine wl_il hK rfl rfl ?_
  refine wl_al hK rfl rfl ?_
  refine wl_il hK rfl rfl ?_
  refine wl_il hK rfl rfl ?_
  refine wl_cv [(1, 0), (0, (i : Int)), (0, (y.val : Int))] hK rfl rfl rfl rfl (Or.inr ⟨_, _, _, rfl, by decide, by decide, rfl⟩) (Or.inl rfl) hc (eo_value H6 i hi (pl i) (fup_ne (by omega)) y) (fun v7 M7 e7 H7 => (?_ : WL 24 278 [(1, -2), (1, 0), (0, f), (0, (qq k : Int)), (0, kk), (0, c), (0, (i : Int)), (0, d), (0, e), (0, s), (0, (x.val : Int)), (0, (y.val : Int)), x12, x13] [(0, v7), (0, (x.val : Int)), (1, 0), (0, v6)] M7 cc ss))
  subst e7
  refine wl_cv [(1, 0), (0, (x.val : Int)), (0, ((vl (pl i) y).val : Int))] hK rfl rfl rfl rfl (Or.inr ⟨_, _, _, rfl, by decide, by decide, rfl⟩) (Or.inl rfl) hc (eo_times H7 x (vl (pl i) y)) (fun v8 M8 e8 H8 => (?_ : WL 24 279 [(1, -2), (1, 0), (0, f), (0, (qq k : Int)), (0, kk), (0, c), (0, (i : Int)), (0, d), (0, e), (0, s), (0, (x.val : Int)), (0, (y.val : Int)), x12, x13] [(0, v8), (0, v6)] M8 cc ss))
  have i8 := el_I (ml x (vl (pl i) y))
  rw [← vl_scl] at e8 i8
  refine wl_ne2 hK rfl (by omega) (by omega) (by omega) (by omega) (fun h9 => ?_) (fun h9 => ?_)
  · exfalso
    omega
  · refine wl_al hK rfl rfl ?_
    refine wl_ic hK rfl ?_
    refine wl_il hK rfl rfl ?_
    refine wl_cv [(1, 0), (0, 2), (0, (y.val : Int))] hK rfl rfl rfl rfl (Or.inr ⟨_, _, _, rfl, by decide, by decide, rfl⟩) (Or.inl rfl) hc (eo_does H8 2 (by decide) (scl x (pl i)) rfl y) (fun v10 M10 e10 H10 => (?_ : WL 24 284 [(1, -2), (1, 0), (0, f), (0, (qq k : Int)), (0, kk), (0, c), (0, (i : Int)), (0, d), (0, e), (0, s), (0, (x.val : Int)), (0, (y.val : Int)), x12, x13] [(0, v10)] M10 cc ss))
    have i10 := el_I (dn (scl x (pl i)) y)
    refine wl_al hK rfl rfl ?_
    refine wl_il hK rfl rfl ?_
    refine wl_al hK rfl rfl ?_
    refine wl_il hK rfl rfl ?_
    refine wl_il hK rfl rfl ?_
    refine wl_cv [(1, 0), (0, (i : Int)), (0, (y.val : Int))] hK rfl rfl rfl rfl (Or.inr ⟨_, _, _, rfl, by decide, by decide, rfl⟩) (Or.inl rfl) hc (eo_does H10 i hi (pl i) (fup_ne (by omega)) y) (fun v11 M11 e11 H11 => (?_ : WL 24 290 [(1, -2), (1, 0), (0, f), (0, (qq k : Int)), (0, kk), (0, c), (0, (i : Int)), (0, d), (0, e), (0, s), (0, (x.val : Int)), (0, (y.val : Int)), x12, x13] [(0, v11), (0, (x.val : Int)), (1, 0), (0, v10)] M11 cc ss))
    subst e11
    refine wl_cv [(1, 0), (0, (x.val : Int)), (0, ((dn (pl i) y).val : Int))] hK rfl rfl rfl rfl (Or.inr ⟨_, _, _, rfl, by decide, by decide, rfl⟩) (Or.inl rfl) hc (eo_times H11 x (dn (pl i) y)) (fun v12 M12 e12 H12 => (?_ : WL 24 291 [(1, -2), (1, 0), (0, f), (0, (qq k : Int)), (0, kk), (0, c), (0, (i : Int)), (0, d), (0, e), (0, s), (0, (x.val : Int)), (0, (y.val : Int)), x12, x13] [(0, v12), (0, v10)] M12 cc ss))
    have i12 := el_I (ml x (dn (pl i) y))
    rw [← dn_scl] at e12 i12
    refine wl_eq2 hK rfl (by omega) (by omega) (by omega) (by omega) (fun h13 => ?_) (fun h13 => ?_)
    · refine wl_al hK rfl rfl ?_
      refine wl_ic hK rfl ?_
      refine wl_ic hK rfl ?_
      refine wl_ic hK rfl ?_
      refine wl_cv [(1, 0), (0, 0), (0, 1), (0, 2)] hK rfl rfl rfl rfl (Or.inr ⟨_, _, _, rfl, by decide, by decide, rfl⟩) (Or.inl rfl) hc (eo_adds H12 0 (by decide) (pl 0) rfl 1 (by decide) (pl 1) rfl 2 (by decide)) (fun v14 M14 e14 H14 => (?_ : WL 24 299 [(1, -2), (1, 0), (0, f), (0, (qq k : Int)), (0, kk), (0, c), (0, (i : Int)), (0, d), (0, e), (0, s), (0, (x.val : Int)), (0, (y.val : Int)), x12, x13] [(0, v14)] M14 cc ss))
      refine wl_pop hK rfl rfl ?_
      refine wl_al hK rfl rfl ?_
      refine wl_ic hK rfl ?_
      refine wl_il hK rfl rfl ?_
      refine wl_cv [(1, 0), (0, 2), (0, (y.val : Int))] hK rfl rfl rfl rfl (Or.inr ⟨_, _, _, rfl, by decide, by decide, rfl⟩) (Or.inl rfl) hc (eo_value H14 2 (by decide) (adp (pl 0) (pl 1)) rfl y) (fun v15 M15 e15 H15 => (?_ : WL 24 304 [(1, -2), (1, 0), (0, f), (0, (qq k : Int)), (0, kk), (0, c), (0, (i : Int)), (0, d), (0, e), (0, s), (0, (x.val : Int)), (0, (y.val : Int)), x12, x13] [(0, v15)] M15 cc ss))
      have i15 := el_I (vl (adp (pl 0) (pl 1)) y)
      refine wl_al hK rfl rfl ?_
      refine wl_al hK rfl rfl ?_
      refine wl_ic hK rfl ?_
      refine wl_il hK rfl rfl ?_
      refine wl_cv [(1, 0), (0, 0), (0, (y.val : Int))] hK rfl rfl rfl rfl (Or.inr ⟨_, _, _, rfl, by decide, by decide, rfl⟩) (Or.inl rfl) hc (eo_value H15 0 (by decide) (pl 0) rfl y) (fun v16 M16 e16 H16 => (?_ : WL 24 309 [(1, -2), (1, 0), (0, f), (0, (qq k : Int)), (0, kk), (0, c), (0, (i : Int)), (0, d), (0, e), (0, s), (0, (x.val : Int)), (0, (y.val : Int)), x12, x13] [(0, v16), (1, 0), (0, v15)] M16 cc ss))
      subst e16
      refine wl_al hK rfl rfl ?_
      refine wl_ic hK rfl ?_
      refine wl_il hK rfl rfl ?_
      refine wl_cv [(1, 0), (0, 1), (0, (y.val : Int))] hK rfl rfl rfl rfl (Or.inr ⟨_, _, _, rfl, by decide, by decide, rfl⟩) (Or.inl rfl) hc (eo_value H16 1 (by decide) (pl 1) rfl y) (fun v17 M17 e17 H17 => (?_ : WL 24 313 [(1, -2), (1, 0), (0, f), (0, (qq k : Int)), (0, kk), (0, c), (0, (i : Int)), (0, d), (0, e), (0, s), (0, (x.val : Int)), (0, (y.val : Int)), x12, x13] [(0, v17), (0, ((vl (pl 0) y).val : Int)), (1, 0), (0, v15)] M17 cc ss))
      subst e17
      refine wl_cv [(1, 0), (0, ((vl (pl 0) y).val : Int)), (0, ((vl (pl 1) y).val : Int))] hK rfl rfl rfl rfl (Or.inr ⟨_, _, _, rfl, by decide, by decide, rfl⟩) (Or.inl rfl) hc (eo_plus H17 (vl (pl 0) y) (vl (pl 1) y)) (fun v18 M18 e18 H18 => (?_ : WL 24 314 [(1, -2), (1, 0), (0, f), (0, (qq k : Int)), (0, kk), (0, c), (0, (i : Int)), (0, d), (0, e), (0, s), (0, (x.val : Int)), (0, (y.val : Int)), x12, x13] [(0, v18), (0, v15)] M18 cc ss))
      have i18 := el_I (ad (vl (pl 0) y) (vl (pl 1) y))
      rw [← vl_adp] at e18 i18
      refine wl_eq2 hK rfl (by omega) (by omega) (by omega) (by omega) (fun h19 => ?_) (fun h19 => ?_)
      · exact next M18 _ _ _ _ _ _ _ H18 rfl rfl
      · exfalso
        omega
    · exfalso
      omega
