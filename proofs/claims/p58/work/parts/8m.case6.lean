/-! the law: sets -/
theorem vl_ml0 {k n m : Nat} {h f : Pl k} {a : El k} (hf : Bd f (n + 1)) (hh : Bd h m) (hn : m + n ≤ 16) (h0 : vl f a = z0) : vl (mlp h f) a = z0 := by
  obtain ⟨q, hq, e⟩ := vl_div hf (by omega) a
  have ec : (cst (z0 : El k)) = pz := by
    funext j
    show up1 pz 0 z0 j = z0
    unfold up1
    split <;> rfl
  rw [h0, ec, adp_pz] at e
  rw [e, ← mlp_assoc]
  exact vl_lin0 ((Bd_mlp hh hq).mono hn) a
theorem vna_0 {k n : Nat} {f : Pl k} (a : El k) (hf : Bd f (n + 1)) (hn : n ≤ 12) : vl (vna f a) a = z0 := by
  unfold vna
  split
  · rename_i h; exact h
  · rename_i h
    obtain ⟨q, hq, e⟩ := vl_div hf (by omega) a
    rw [vl_twist h e]
    exact vl_lin0 ((Bd_adp (Bd_mlp (lin_bd _) hq) (cst_bd _)).mono (by omega)) a
theorem vna_keep {k n : Nat} {f : Pl k} (a : El k) {b : El k} (hf : Bd f (n + 1)) (hn : n ≤ 12) (h : vl f b = z0) : vl (vna f a) b = z0 := by
  unfold vna
  split
  · exact h
  · exact vl_ml0 hf (lin_bd _) (by omega) h
theorem basF_van {k : Nat} (hk : k < 4) (s : Int) : ∀ n i : Nat, i < n → btst s (i : Int) = 1 → vl (basF (k := k) s n) (el k i) = z0
  | 0, i, h, _ => absurd h (by omega)
  | n + 1, i, h, hb => by
    obtain ⟨d, d5, hd⟩ := basF_le hk s n
    have hB : Bd (basF (k := k) s n) (5 + 1) := (Bd_is hd).mono (by omega)
    unfold basF
    by_cases e : i = n
    · rw [e] at hb ⊢
      rw [if_pos hb]
      exact vna_0 _ hB (by decide)
    · have ih := basF_van hk s n i (by omega) hb
      split
      · exact vna_keep _ hB (by decide) ih
      · exact ih
theorem van_sub {k : Nat} (hk : k < 4) {x : Int} (x0 : 0 ≤ x) (x1 : x < 256) (x2 : x < 2 ^ qq k) {f : Pl k} (hf : ∀ i : Nat, i < qq k → vl (basF (k := k) x (qq k)) (el k i) = z0 → vl f (el k i) = z0) : ∀ i : Nat, x.toNat.testBit i = true → i < qq k ∧ vl f (el k i) = z0 := fun i hi => by
  have hq := qq_le k
  have h1 : i < qq k := by
    refine Nat.lt_of_not_le fun h => ?_
    have h2 : x.toNat < 2 ^ qq k := by
      have h4 : ((x.toNat : Nat) : Int) < ((2 ^ qq k : Nat) : Int) := by
        rw [Int.toNat_of_nonneg x0, Int.natCast_pow]
        exact x2
      exact Int.ofNat_lt.mp h4
    have h3 : x.toNat < 2 ^ i := Nat.lt_of_lt_of_le h2 (Nat.pow_le_pow_right (by decide) h)
    rw [Nat.testBit_lt_two_pow h3] at hi
    exact absurd hi (by decide)
  exact ⟨h1, hf i h1 (basF_van hk x (qq k) i h1 (((Sb.of x0 (by omega)).bit (by omega)).mpr hi))⟩
theorem shl_m (k : Nat) : 1 ≤ (i32 1 <<< (i32 (min 8 (qq k : Int)) &&& 31)).toInt ∧ (i32 1 <<< (i32 (min 8 (qq k : Int)) &&& 31)).toInt ≤ 256 ∧ (i32 1 <<< (i32 (min 8 (qq k : Int)) &&& 31)).toInt ≤ (2 : Int) ^ qq k := match k with | 0 => by decide +kernel | 1 => by decide +kernel | 2 => by decide +kernel | _ + 3 => (by decide +kernel : 1 ≤ (i32 1 <<< (i32 (min 8 (qq 3 : Int)) &&& 31)).toInt ∧ (i32 1 <<< (i32 (min 8 (qq 3 : Int)) &&& 31)).toInt ≤ 256 ∧ (i32 1 <<< (i32 (min 8 (qq 3 : Int)) &&& 31)).toInt ≤ (2 : Int) ^ qq 3)
set_option maxRecDepth 100000 in
theorem lk_6 {X : Int → Int} {M : Mem} {k : Nat} (hk : k < 4) {pl : Nat → Pl k} {rc : Nat} {rw_ : Int → Int} (H : LZ X M k pl rc rw_) {f kk c d e s : Int} {i : Nat} (hs : s = 0 ∨ s = 1) (hde : (i = 0 ∧ d = dg (pl 0) ∧ e = dg (pl 1)) ∨ (i = 1 ∧ d = dg (pl 1) ∧ e = dg (pl 0))) (dd_ : -1 ≤ dg (pl 0) ∧ dg (pl 0) ≤ 3) (ee_ : -1 ≤ dg (pl 1) ∧ dg (pl 1) ≤ 3) {x10 x11 x12 x13 : AV} {cc ss : Nat} (hc : cc ≤ (cOf 307).1 ∧ ss ≤ (cOf 307).2) (next : ∀ (M' : Mem) (pl' : Nat → Pl k) (rc' : Nat) (rw' : Int → Int) (y10 y11 y12 y13 : AV), LZ X M' k pl' rc' rw' → pl' 0 = pl 0 → pl' 1 = pl 1 → WL 24 588 [(1, -2), (1, 0), (0, f), (0, (qq k : Int)), (0, kk), (0, c), (0, (i : Int)), (0, d), (0, e), (0, s), y10, y11, y12, y13] [] M' cc ss) : WL 24 472 [(1, -2), (1, 0), (0, f), (0, (qq k : Int)), (0, kk), (0, c), (0, (i : Int)), (0, d), (0, e), (0, s), x10, x11, x12, x13] [] M cc ss := by
  have hK : cd 307 = k307 := rfl
  have b0 := H.bd 0 (by decide)
  have b1 := H.bd 1 (by decide)
  have q1 := qq_I k
  have hi : i < 6 := by omega
  have hd : d = dg (pl i) := by rcases hde with ⟨rfl, h, _⟩ | ⟨rfl, h, _⟩ <;> exact h
  have bi := H.bd i hi
  refine wl_il hK rfl rfl ?_
  refine wl_ic hK rfl ?_
  refine wl_any (w := ((i32 c).toUInt32 >>> ((i32 24).toUInt32 &&& Int32.toUInt32 31)).toInt32) hK rfl rfl rfl (fun v1 e1 a1 b1 => (?_ : WL 24 475 [(1, -2), (1, 0), (0, f), (0, (qq k : Int)), (0, kk), (0, c), (0, (i : Int)), (0, d), (0, e), (0, s), x10, x11, x12, x13] [(0, v1)] M cc ss))
  refine wl_ic hK rfl ?_
  refine wl_ic hK rfl ?_
  refine wl_il hK rfl rfl ?_
  refine wl_cv [(0, 8), (0, (qq k : Int))] hK rfl rfl rfl rfl (Or.inl rfl) (Or.inl rfl) hc (c_min 8 (qq k : Int) (by omega) (by omega) (by omega) (by omega)) (fun v2 M2 e2 H2 => (?_ : WL 24 479 [(1, -2), (1, 0), (0, f), (0, (qq k : Int)), (0, kk), (0, c), (0, (i : Int)), (0, d), (0, e), (0, s), x10, x11, x12, x13] [(0, v2), (0, 1), (0, v1)] M2 cc ss))
  subst M2
  subst e2
  refine wl_any (w := i32 1 <<< (i32 (min 8 (qq k : Int)) &&& 31)) hK rfl rfl rfl (fun v3 e3 a3 b3 => (?_ : WL 24 480 [(1, -2), (1, 0), (0, f), (0, (qq k : Int)), (0, kk), (0, c), (0, (i : Int)), (0, d), (0, e), (0, s), x10, x11, x12, x13] [(0, v3), (0, v1)] M cc ss))
  have m1 := shl_m k
  rw [← e3] at m1
  refine wl_ic hK rfl ?_
  refine wl_sub hK rfl (by omega) (by omega) ?_
  refine wl_msk hK rfl (by omega) (by omega) (fun v4 e4 a4 b4 => (?_ : WL 24 483 [(1, -2), (1, 0), (0, f), (0, (qq k : Int)), (0, kk), (0, c), (0, (i : Int)), (0, d), (0, e), (0, s), x10, x11, x12, x13] [(0, v4)] M cc ss))
  have x2 : v4 < 2 ^ qq k := Int.lt_of_lt_of_le (by omega) m1.2.2
  have x0 : 0 ≤ v4 := a4
  have x1 : v4 < 256 := by omega
  obtain ⟨df, df5, hF⟩ := basF_le hk v4 (qq k)
  have eF : dg (basF (k := k) v4 (qq k)) = (df : Int) := dg_eq17 ((Bd_is hF).mono (by omega)) hF
  have bF : Bd (basF (k := k) v4 (qq k)) (5 + 1) := (Bd_is hF).mono (by omega)
  refine wl_is [(1, -2), (1, 0), (0, f), (0, (qq k : Int)), (0, kk), (0, c), (0, (i : Int)), (0, d), (0, e), (0, s), (0, v4), x11, x12, x13] hK rfl rfl rfl ?_
  refine wl_al hK rfl rfl ?_
  refine wl_il hK rfl rfl ?_
  refine wl_ic hK rfl ?_
  refine wl_cv [(1, 0), (0, v4), (0, 2)] hK rfl rfl rfl rfl (Or.inr ⟨_, _, _, rfl, by decide, by decide, rfl⟩) (Or.inl rfl) hc (eo_van H 2 (by decide) v4 x0 x2) (fun v5 M5 e5 H5 => (?_ : WL 24 488 [(1, -2), (1, 0), (0, f), (0, (qq k : Int)), (0, kk), (0, c), (0, (i : Int)), (0, d), (0, e), (0, s), (0, v4), x11, x12, x13] [(0, v5)] M5 cc ss))
  have g5 := e5.trans eF
  refine wl_is [(1, -2), (1, 0), (0, f), (0, (qq k : Int)), (0, kk), (0, c), (0, (i : Int)), (0, d), (0, e), (0, s), (0, v4), (0, v5), x12, x13] hK rfl rfl rfl ?_
  refine wl_il hK rfl rfl ?_
  refine wl_lt hK rfl (by omega) (by omega) (fun h6 => ?_) (fun h6 => ?_)
  · exfalso
    omega
  · refine wl_al hK rfl rfl ?_
    refine wl_ic hK rfl ?_
    refine wl_cv [(1, 0), (0, 0)] hK rfl rfl rfl rfl (Or.inr ⟨_, _, _, rfl, by decide, by decide, rfl⟩) (Or.inr rfl) hc (eo_row H5 0 (by decide)) (fun v7 M7 e7 H7 => (?_ : WL 24 494 [(1, -2), (1, 0), (0, f), (0, (qq k : Int)), (0, kk), (0, c), (0, (i : Int)), (0, d), (0, e), (0, s), (0, v4), (0, v5), x12, x13] [(2, v7)] M7 cc ss))
    have g7 : v7 = rts (basF (k := k) v4 (qq k)) (qq k) := e7.trans upr_eq
    refine wl_il hK rfl rfl ?_
    refine wl_i2l hK rfl (by omega) (by omega) ?_
    refine wl_lb hK rfl rfl ?_
    show WL 24 497 [(1, -2), (1, 0), (0, f), (0, (qq k : Int)), (0, kk), (0, c), (0, (i : Int)), (0, d), (0, e), (0, s), (0, v4), (0, v5), x12, x13] [(2, (i64 v7 &&& i64 v4).toInt)] M7 cc ss
    have ea : (i64 v7 &&& i64 v4).toInt = v4 := by
      rw [g7]
      exact (rts_S (basF (k := k) v4 (qq k)) (qq k) (qq_le k)).and64 (Sb.of x0 (by omega)) (van_sub hk x0 x1 x2 (fun i _ h => h))
    rw [ea]
    refine wl_il hK rfl rfl ?_
    refine wl_i2l hK rfl (by omega) (by omega) ?_
    refine wl_lcmp hK rfl ?_
    rw [show (lg_cmp (i64 v4) (i64 v4)).toInt = 0 from lcmp_self _]
    refine wl_ne hK rfl (by omega) (by omega) (fun h8 => ?_) (fun h8 => ?_)
    · exfalso
      omega
    · refine wl_al hK rfl rfl ?_
      refine wl_ic hK rfl ?_
      refine wl_cv [(1, 0), (0, 2)] hK rfl rfl rfl rfl (Or.inr ⟨_, _, _, rfl, by decide, by decide, rfl⟩) (Or.inl rfl) hc (eo_degree H7 2 (by decide) (basF (k := k) v4 (qq k)) rfl) (fun v9 M9 e9 H9 => (?_ : WL 24 504 [(1, -2), (1, 0), (0, f), (0, (qq k : Int)), (0, kk), (0, c), (0, (i : Int)), (0, d), (0, e), (0, s), (0, v4), (0, v5), x12, x13] [(0, v9)] M9 cc ss))
      have g9 := e9.trans eF
      refine wl_il hK rfl rfl ?_
      refine wl_eq2 hK rfl (by omega) (by omega) (by omega) (by omega) (fun h10 => ?_) (fun h10 => ?_)
      · have hp8 : -1 ≤ dg (mlp (pl i) (basF (k := k) v4 (qq k))) ∧ dg (mlp (pl i) (basF (k := k) v4 (qq k))) ≤ 8 := by
          have h1 := dg_prd (s := 0) (f := pl i) (g := basF (k := k) v4 (qq k)) (bi.mono (by decide)) (bF.mono (by decide))
          have e : prd 0 (pl i) (basF (k := k) v4 (qq k)) = mlp (pl i) (basF (k := k) v4 (qq k)) := rfl
          rw [e] at h1
          refine ⟨dg_ge _, ?_⟩
          rcases Int.lt_or_le (dg (pl i)) 0 with q | q
          · rw [h1.1 (Or.inl q), dg_pz]; decide
          · have := h1.2.1 q (by omega)
            omega
        have b4 : Bd (pl i) 4 := dg_bd (bi.mono (by decide)) (by omega)
        refine wl_al hK rfl rfl ?_
        refine wl_il hK rfl rfl ?_
        refine wl_ic hK rfl ?_
        refine wl_ic hK rfl ?_
        refine wl_cv [(1, 0), (0, (i : Int)), (0, 2), (0, 3)] hK rfl rfl rfl rfl (Or.inr ⟨_, _, _, rfl, by decide, by decide, rfl⟩) (Or.inl rfl) hc (em_mult H9 i hi (pl i) (fup_ne (by omega)) 2 (by decide) (basF (k := k) v4 (qq k)) rfl 3 (by decide) hp8.2) (fun v11 M11 e11 H11 => (?_ : WL 24 513 [(1, -2), (1, 0), (0, f), (0, (qq k : Int)), (0, kk), (0, c), (0, (i : Int)), (0, d), (0, e), (0, s), (0, v4), (0, v5), x12, x13] [(0, v11)] M11 cc ss))
        have g11 : -1 ≤ v11 ∧ v11 ≤ 8 := by rw [e11]; exact hp8
        refine wl_pop hK rfl rfl ?_
        refine wl_il hK rfl rfl ?_
        refine wl_lt hK rfl (by omega) (by omega) (fun h12 => ?_) (fun h12 => ?_)
        · exact next M11 _ _ _ _ _ _ _ H11 rfl rfl
        · refine wl_il hK rfl rfl ?_
          refine wl_il hK rfl rfl ?_
          refine wl_add hK rfl (by omega) (by omega) ?_
          refine wl_ic hK rfl ?_
          refine wl_gt2 hK rfl (by omega) (by omega) (by omega) (by omega) (fun h13 => ?_) (fun h13 => ?_)
          · exact next M11 _ _ _ _ _ _ _ H11 rfl rfl
          · refine wl_al hK rfl rfl ?_
            refine wl_ic hK rfl ?_
            refine wl_cv [(1, 0), (0, 3)] hK rfl rfl rfl rfl (Or.inr ⟨_, _, _, rfl, by decide, by decide, rfl⟩) (Or.inl rfl) hc (eo_roots H11 3 (by decide) (mlp (pl i) (basF (k := k) v4 (qq k))) rfl) (fun v14 M14 e14 H14 => (?_ : WL 24 524 [(1, -2), (1, 0), (0, f), (0, (qq k : Int)), (0, kk), (0, c), (0, (i : Int)), (0, d), (0, e), (0, s), (0, v4), (0, v5), x12, x13] [(0, v14)] M14 cc ss))
            have sr := rts_S (mlp (pl i) (basF (k := k) v4 (qq k))) (qq k) (qq_le k)
            rw [← e14] at sr
            have sri := sr.I
            refine wl_il hK rfl rfl ?_
            refine wl_msk hK rfl (by omega) (by omega) (fun v15 e15 a15 b15 => (?_ : WL 24 526 [(1, -2), (1, 0), (0, f), (0, (qq k : Int)), (0, kk), (0, c), (0, (i : Int)), (0, d), (0, e), (0, s), (0, v4), (0, v5), x12, x13] [(0, v15)] M14 cc ss))
            have g15 : v15 = v4 := e15.trans (sr.and32 (Sb.of x0 (by omega)) (van_sub hk x0 x1 x2 (fun i _ h => vl_ml0 bF b4 (by decide) h)))
            refine wl_il hK rfl rfl ?_
            refine wl_eq2 hK rfl (by omega) (by omega) (by omega) (by omega) (fun h16 => ?_) (fun h16 => ?_)
            · exact next M14 _ _ _ _ _ _ _ H14 rfl rfl
            · exfalso
              omega
      · exfalso
        omega
