/-! the law: quotients, divisors -/
theorem dqm_le {k : Nat} (s : Int) {x y : Pl k} (hx : Bd x 9) (hy : Bd y 9) (h : 0 ≤ dg y) : -1 ≤ dg (prd s (dq s x y) y) ∧ dg (prd s (dq s x y) y) ≤ 8 := by
  obtain ⟨h1, h2, h3, h4⟩ := Bd_dqr s hx hy h
  have e : prd s (dq s x y) y = sbp x (dr s x y) := by
    have e2 := (congrArg (fun t => sbp t (dr s x y)) (h1.trans (adp_comm _ _))).trans (sbp_adp _ _)
    exact e2.symm
  have hb : Bd (prd s (dq s x y) y) 9 := fun j hj => by
    rw [e]
    show ad (x j) (ng (dr s x y j)) = z0
    rw [hx j hj, h3 j hj, ng_z, ad_zero]
  exact dg_lt9 hb
set_option maxRecDepth 100000 in
theorem lk_0 {X : Int → Int} {M : Mem} {k : Nat} (hk : k < 4) {pl : Nat → Pl k} {rc : Nat} {rw_ : Int → Int} (H : LZ X M k pl rc rw_) {f kk c d e s : Int} {i : Nat} (hs : s = 0 ∨ s = 1) (hde : (i = 0 ∧ d = dg (pl 0) ∧ e = dg (pl 1)) ∨ (i = 1 ∧ d = dg (pl 1) ∧ e = dg (pl 0))) (dd_ : -1 ≤ dg (pl 0) ∧ dg (pl 0) ≤ 3) (ee_ : -1 ≤ dg (pl 1) ∧ dg (pl 1) ≤ 3) {x10 x11 x12 x13 : AV} {cc ss : Nat} (hc : cc ≤ (cOf 307).1 ∧ ss ≤ (cOf 307).2) (next : ∀ (M' : Mem) (pl' : Nat → Pl k) (rc' : Nat) (rw' : Int → Int) (y10 y11 y12 y13 : AV), LZ X M' k pl' rc' rw' → pl' 0 = pl 0 → pl' 1 = pl 1 → WL 24 588 [(1, -2), (1, 0), (0, f), (0, (qq k : Int)), (0, kk), (0, c), (0, (i : Int)), (0, d), (0, e), (0, s), y10, y11, y12, y13] [] M' cc ss) : WL 24 98 [(1, -2), (1, 0), (0, f), (0, (qq k : Int)), (0, kk), (0, c), (0, (i : Int)), (0, d), (0, e), (0, s), x10, x11, x12, x13] [] M cc ss := by
  have hK : cd 307 = k307 := rfl
  have b0 := H.bd 0 (by decide)
  have b1 := H.bd 1 (by decide)
  rcases hs with rfl | rfl
  · rcases Int.lt_or_le (dg (pl 1)) 0 with q1 | q1
    · refine wl_al hK rfl rfl ?_
      refine wl_ic hK rfl ?_
      refine wl_ic hK rfl ?_
      refine wl_il hK rfl rfl ?_
      refine wl_ic hK rfl ?_
      refine wl_cv [(1, 0), (0, 0), (0, 1), (0, 0), (0, 2)] hK rfl rfl rfl rfl (Or.inr ⟨_, _, _, rfl, by decide, by decide, rfl⟩) (Or.inl rfl) hc (ez_quot H 0 (by decide) 1 (by decide) (pl 1) rfl 2 (by decide) 0 (Or.inl rfl) q1) (fun v1 M1 e1 H1 => (?_ : WL 24 104 [(1, -2), (1, 0), (0, f), (0, (qq k : Int)), (0, kk), (0, c), (0, (i : Int)), (0, d), (0, e), (0, 0), x10, x11, x12, x13] [(0, v1)] M1 cc ss))
      refine wl_is [(1, -2), (1, 0), (0, f), (0, (qq k : Int)), (0, kk), (0, c), (0, (i : Int)), (0, d), (0, e), (0, 0), (0, v1), x11, x12, x13] hK rfl rfl rfl ?_
      refine wl_al hK rfl rfl ?_
      refine wl_ic hK rfl ?_
      refine wl_ic hK rfl ?_
      refine wl_il hK rfl rfl ?_
      refine wl_ic hK rfl ?_
      refine wl_cv [(1, 0), (0, 0), (0, 1), (0, 0), (0, 3)] hK rfl rfl rfl rfl (Or.inr ⟨_, _, _, rfl, by decide, by decide, rfl⟩) (Or.inl rfl) hc (ez_rem H1 0 (by decide) 1 (by decide) (pl 1) rfl 3 (by decide) 0 (Or.inl rfl) q1) (fun v2 M2 e2 H2 => (?_ : WL 24 111 [(1, -2), (1, 0), (0, f), (0, (qq k : Int)), (0, kk), (0, c), (0, (i : Int)), (0, d), (0, e), (0, 0), (0, v1), x11, x12, x13] [(0, v2)] M2 cc ss))
      refine wl_is [(1, -2), (1, 0), (0, f), (0, (qq k : Int)), (0, kk), (0, c), (0, (i : Int)), (0, d), (0, e), (0, 0), (0, v1), (0, v2), x12, x13] hK rfl rfl rfl ?_
      refine wl_al hK rfl rfl ?_
      refine wl_ic hK rfl ?_
      refine wl_cv [(1, 0), (0, 1)] hK rfl rfl rfl rfl (Or.inr ⟨_, _, _, rfl, by decide, by decide, rfl⟩) (Or.inl rfl) hc (eo_degree H2 1 (by decide) (pl 1) rfl) (fun v3 M3 e3 H3 => (?_ : WL 24 115 [(1, -2), (1, 0), (0, f), (0, (qq k : Int)), (0, kk), (0, c), (0, (i : Int)), (0, d), (0, e), (0, 0), (0, v1), (0, v2), x12, x13] [(0, v3)] M3 cc ss))
      have g3 : v3 = dg (pl 1) := e3
      refine wl_ge hK rfl (by omega) (by omega) (fun h4 => ?_) (fun h4 => ?_)
      · exfalso
        omega
      · refine wl_il hK rfl rfl ?_
        refine wl_ic hK rfl ?_
        refine wl_ne2 hK rfl (by omega) (by omega) (by omega) (by omega) (fun h5 => ?_) (fun h5 => ?_)
        · exfalso
          omega
        · refine wl_il hK rfl rfl ?_
          refine wl_ic hK rfl ?_
          refine wl_eq2 hK rfl (by omega) (by omega) (by omega) (by omega) (fun h6 => ?_) (fun h6 => ?_)
          · exact next M3 _ _ _ _ _ _ _ H3 rfl rfl
          · exfalso
            omega
    · refine wl_al hK rfl rfl ?_
      refine wl_ic hK rfl ?_
      refine wl_ic hK rfl ?_
      refine wl_il hK rfl rfl ?_
      refine wl_ic hK rfl ?_
      refine wl_cv [(1, 0), (0, 0), (0, 1), (0, 0), (0, 2)] hK rfl rfl rfl rfl (Or.inr ⟨_, _, _, rfl, by decide, by decide, rfl⟩) (Or.inl rfl) hc (eo_quot H 0 (by decide) (pl 0) rfl 1 (by decide) (pl 1) rfl 2 (by decide) 0 (Or.inl rfl) q1) (fun v1 M1 e1 H1 => (?_ : WL 24 104 [(1, -2), (1, 0), (0, f), (0, (qq k : Int)), (0, kk), (0, c), (0, (i : Int)), (0, d), (0, e), (0, 0), x10, x11, x12, x13] [(0, v1)] M1 cc ss))
      have g1 : -1 ≤ v1 ∧ v1 ≤ 8 := by rw [e1]; exact dg_lt9 (Bd_dqr 0 b0 b1 q1).2.1
      refine wl_is [(1, -2), (1, 0), (0, f), (0, (qq k : Int)), (0, kk), (0, c), (0, (i : Int)), (0, d), (0, e), (0, 0), (0, v1), x11, x12, x13] hK rfl rfl rfl ?_
      refine wl_al hK rfl rfl ?_
      refine wl_ic hK rfl ?_
      refine wl_ic hK rfl ?_
      refine wl_il hK rfl rfl ?_
      refine wl_ic hK rfl ?_
      refine wl_cv [(1, 0), (0, 0), (0, 1), (0, 0), (0, 3)] hK rfl rfl rfl rfl (Or.inr ⟨_, _, _, rfl, by decide, by decide, rfl⟩) (Or.inl rfl) hc (eo_rem H1 0 (by decide) (pl 0) rfl 1 (by decide) (pl 1) rfl 3 (by decide) 0 (Or.inl rfl) q1) (fun v2 M2 e2 H2 => (?_ : WL 24 111 [(1, -2), (1, 0), (0, f), (0, (qq k : Int)), (0, kk), (0, c), (0, (i : Int)), (0, d), (0, e), (0, 0), (0, v1), x11, x12, x13] [(0, v2)] M2 cc ss))
      have g2 : -1 ≤ v2 ∧ v2 < dg (pl 1) := by rw [e2]; exact ⟨dg_ge _, (Bd_dqr 0 b0 b1 q1).2.2.2⟩
      refine wl_is [(1, -2), (1, 0), (0, f), (0, (qq k : Int)), (0, kk), (0, c), (0, (i : Int)), (0, d), (0, e), (0, 0), (0, v1), (0, v2), x12, x13] hK rfl rfl rfl ?_
      refine wl_al hK rfl rfl ?_
      refine wl_ic hK rfl ?_
      refine wl_cv [(1, 0), (0, 1)] hK rfl rfl rfl rfl (Or.inr ⟨_, _, _, rfl, by decide, by decide, rfl⟩) (Or.inl rfl) hc (eo_degree H2 1 (by decide) (pl 1) rfl) (fun v3 M3 e3 H3 => (?_ : WL 24 115 [(1, -2), (1, 0), (0, f), (0, (qq k : Int)), (0, kk), (0, c), (0, (i : Int)), (0, d), (0, e), (0, 0), (0, v1), (0, v2), x12, x13] [(0, v3)] M3 cc ss))
      have g3 : v3 = dg (pl 1) := e3
      refine wl_ge hK rfl (by omega) (by omega) (fun h4 => ?_) (fun h4 => ?_)
      · refine wl_il hK rfl rfl ?_
        refine wl_al hK rfl rfl ?_
        refine wl_ic hK rfl ?_
        refine wl_cv [(1, 0), (0, 1)] hK rfl rfl rfl rfl (Or.inr ⟨_, _, _, rfl, by decide, by decide, rfl⟩) (Or.inl rfl) hc (eo_degree H3 1 (by decide) (pl 1) rfl) (fun v5 M5 e5 H5 => (?_ : WL 24 128 [(1, -2), (1, 0), (0, f), (0, (qq k : Int)), (0, kk), (0, c), (0, (i : Int)), (0, d), (0, e), (0, 0), (0, v1), (0, v2), x12, x13] [(0, v5), (0, v2)] M5 cc ss))
        have g5 : v5 = dg (pl 1) := e5
        refine wl_lt2 hK rfl (by omega) (by omega) (by omega) (by omega) (fun h6 => ?_) (fun h6 => ?_)
        · refine wl_il hK rfl rfl ?_
          refine wl_ne hK rfl (by omega) (by omega) (fun h7 => ?_) (fun h7 => ?_)
          · exfalso
            omega
          · refine wl_al hK rfl rfl ?_
            refine wl_ic hK rfl ?_
            refine wl_ic hK rfl ?_
            refine wl_ic hK rfl ?_
            refine wl_cv [(1, 0), (0, 2), (0, 1), (0, 4)] hK rfl rfl rfl rfl (Or.inr ⟨_, _, _, rfl, by decide, by decide, rfl⟩) (Or.inl rfl) hc (em_mult H5 2 (by decide) (dq 0 (pl 0) (pl 1)) rfl 1 (by decide) (pl 1) rfl 4 (by decide) (dqm_le 0 b0 b1 q1).2) (fun v8 M8 e8 H8 => (?_ : WL 24 138 [(1, -2), (1, 0), (0, f), (0, (qq k : Int)), (0, kk), (0, c), (0, (i : Int)), (0, d), (0, e), (0, 0), (0, v1), (0, v2), x12, x13] [(0, v8)] M8 cc ss))
            have g8 : -1 ≤ v8 ∧ v8 ≤ 8 := by rw [e8]; exact dqm_le 0 b0 b1 q1
            refine wl_ic hK rfl ?_
            refine wl_ge2 hK rfl (by omega) (by omega) (by omega) (by omega) (fun h9 => ?_) (fun h9 => ?_)
            · refine wl_al hK rfl rfl ?_
              refine wl_ic hK rfl ?_
              refine wl_ic hK rfl ?_
              refine wl_ic hK rfl ?_
              refine wl_cv [(1, 0), (0, 4), (0, 3), (0, 5)] hK rfl rfl rfl rfl (Or.inr ⟨_, _, _, rfl, by decide, by decide, rfl⟩) (Or.inl rfl) hc (eo_adds H8 4 (by decide) (mlp (dq 0 (pl 0) (pl 1)) (pl 1)) rfl 3 (by decide) (dr 0 (pl 0) (pl 1)) rfl 5 (by decide)) (fun v10 M10 e10 H10 => (?_ : WL 24 155 [(1, -2), (1, 0), (0, f), (0, (qq k : Int)), (0, kk), (0, c), (0, (i : Int)), (0, d), (0, e), (0, 0), (0, v1), (0, v2), x12, x13] [(0, v10)] M10 cc ss))
              refine wl_pop hK rfl rfl ?_
              refine wl_al hK rfl rfl ?_
              refine wl_ic hK rfl ?_
              refine wl_ic hK rfl ?_
              refine wl_cv [(1, 0), (0, 5), (0, 0)] hK rfl rfl rfl rfl (Or.inr ⟨_, _, _, rfl, by decide, by decide, rfl⟩) (Or.inl rfl) hc (eo_same H10 5 (by decide) (adp (mlp (dq 0 (pl 0) (pl 1)) (pl 1)) (dr 0 (pl 0) (pl 1))) rfl 0 (by decide) (pl 0) rfl) (fun v11 M11 e11 H11 => (?_ : WL 24 160 [(1, -2), (1, 0), (0, f), (0, (qq k : Int)), (0, kk), (0, c), (0, (i : Int)), (0, d), (0, e), (0, 0), (0, v1), (0, v2), x12, x13] [(0, v11)] M11 cc ss))
              have g11 : v11 = 1 := by rw [e11]; exact bz_pos (Bd_dqr 0 b0 b1 q1).1.symm
              refine wl_ic hK rfl ?_
              refine wl_eq2 hK rfl (by omega) (by omega) (by omega) (by omega) (fun h12 => ?_) (fun h12 => ?_)
              · exact next M11 _ _ _ _ _ _ _ H11 rfl rfl
              · exfalso
                omega
            · refine wl_goto hK rfl ?_
              exfalso
              omega
        · exfalso
          omega
      · exfalso
        omega
  · rcases Int.lt_or_le (dg (pl 1)) 0 with q1 | q1
    · refine wl_al hK rfl rfl ?_
      refine wl_ic hK rfl ?_
      refine wl_ic hK rfl ?_
      refine wl_il hK rfl rfl ?_
      refine wl_ic hK rfl ?_
      refine wl_cv [(1, 0), (0, 0), (0, 1), (0, 1), (0, 2)] hK rfl rfl rfl rfl (Or.inr ⟨_, _, _, rfl, by decide, by decide, rfl⟩) (Or.inl rfl) hc (ez_quot H 0 (by decide) 1 (by decide) (pl 1) rfl 2 (by decide) 1 (Or.inr rfl) q1) (fun v1 M1 e1 H1 => (?_ : WL 24 104 [(1, -2), (1, 0), (0, f), (0, (qq k : Int)), (0, kk), (0, c), (0, (i : Int)), (0, d), (0, e), (0, 1), x10, x11, x12, x13] [(0, v1)] M1 cc ss))
      refine wl_is [(1, -2), (1, 0), (0, f), (0, (qq k : Int)), (0, kk), (0, c), (0, (i : Int)), (0, d), (0, e), (0, 1), (0, v1), x11, x12, x13] hK rfl rfl rfl ?_
      refine wl_al hK rfl rfl ?_
      refine wl_ic hK rfl ?_
      refine wl_ic hK rfl ?_
      refine wl_il hK rfl rfl ?_
      refine wl_ic hK rfl ?_
      refine wl_cv [(1, 0), (0, 0), (0, 1), (0, 1), (0, 3)] hK rfl rfl rfl rfl (Or.inr ⟨_, _, _, rfl, by decide, by decide, rfl⟩) (Or.inl rfl) hc (ez_rem H1 0 (by decide) 1 (by decide) (pl 1) rfl 3 (by decide) 1 (Or.inr rfl) q1) (fun v2 M2 e2 H2 => (?_ : WL 24 111 [(1, -2), (1, 0), (0, f), (0, (qq k : Int)), (0, kk), (0, c), (0, (i : Int)), (0, d), (0, e), (0, 1), (0, v1), x11, x12, x13] [(0, v2)] M2 cc ss))
      refine wl_is [(1, -2), (1, 0), (0, f), (0, (qq k : Int)), (0, kk), (0, c), (0, (i : Int)), (0, d), (0, e), (0, 1), (0, v1), (0, v2), x12, x13] hK rfl rfl rfl ?_
      refine wl_al hK rfl rfl ?_
      refine wl_ic hK rfl ?_
      refine wl_cv [(1, 0), (0, 1)] hK rfl rfl rfl rfl (Or.inr ⟨_, _, _, rfl, by decide, by decide, rfl⟩) (Or.inl rfl) hc (eo_degree H2 1 (by decide) (pl 1) rfl) (fun v3 M3 e3 H3 => (?_ : WL 24 115 [(1, -2), (1, 0), (0, f), (0, (qq k : Int)), (0, kk), (0, c), (0, (i : Int)), (0, d), (0, e), (0, 1), (0, v1), (0, v2), x12, x13] [(0, v3)] M3 cc ss))
      have g3 : v3 = dg (pl 1) := e3
      refine wl_ge hK rfl (by omega) (by omega) (fun h4 => ?_) (fun h4 => ?_)
      · exfalso
        omega
      · refine wl_il hK rfl rfl ?_
        refine wl_ic hK rfl ?_
        refine wl_ne2 hK rfl (by omega) (by omega) (by omega) (by omega) (fun h5 => ?_) (fun h5 => ?_)
        · exfalso
          omega
        · refine wl_il hK rfl rfl ?_
          refine wl_ic hK rfl ?_
          refine wl_eq2 hK rfl (by omega) (by omega) (by omega) (by omega) (fun h6 => ?_) (fun h6 => ?_)
          · exact next M3 _ _ _ _ _ _ _ H3 rfl rfl
          · exfalso
            omega
    · refine wl_al hK rfl rfl ?_
      refine wl_ic hK rfl ?_
      refine wl_ic hK rfl ?_
      refine wl_il hK rfl rfl ?_
      refine wl_ic hK rfl ?_
      refine wl_cv [(1, 0), (0, 0), (0, 1), (0, 1), (0, 2)] hK rfl rfl rfl rfl (Or.inr ⟨_, _, _, rfl, by decide, by decide, rfl⟩) (Or.inl rfl) hc (eo_quot H 0 (by decide) (pl 0) rfl 1 (by decide) (pl 1) rfl 2 (by decide) 1 (Or.inr rfl) q1) (fun v1 M1 e1 H1 => (?_ : WL 24 104 [(1, -2), (1, 0), (0, f), (0, (qq k : Int)), (0, kk), (0, c), (0, (i : Int)), (0, d), (0, e), (0, 1), x10, x11, x12, x13] [(0, v1)] M1 cc ss))
      have g1 : -1 ≤ v1 ∧ v1 ≤ 8 := by rw [e1]; exact dg_lt9 (Bd_dqr 1 b0 b1 q1).2.1
      refine wl_is [(1, -2), (1, 0), (0, f), (0, (qq k : Int)), (0, kk), (0, c), (0, (i : Int)), (0, d), (0, e), (0, 1), (0, v1), x11, x12, x13] hK rfl rfl rfl ?_
      refine wl_al hK rfl rfl ?_
      refine wl_ic hK rfl ?_
      refine wl_ic hK rfl ?_
      refine wl_il hK rfl rfl ?_
      refine wl_ic hK rfl ?_
      refine wl_cv [(1, 0), (0, 0), (0, 1), (0, 1), (0, 3)] hK rfl rfl rfl rfl (Or.inr ⟨_, _, _, rfl, by decide, by decide, rfl⟩) (Or.inl rfl) hc (eo_rem H1 0 (by decide) (pl 0) rfl 1 (by decide) (pl 1) rfl 3 (by decide) 1 (Or.inr rfl) q1) (fun v2 M2 e2 H2 => (?_ : WL 24 111 [(1, -2), (1, 0), (0, f), (0, (qq k : Int)), (0, kk), (0, c), (0, (i : Int)), (0, d), (0, e), (0, 1), (0, v1), x11, x12, x13] [(0, v2)] M2 cc ss))
      have g2 : -1 ≤ v2 ∧ v2 < dg (pl 1) := by rw [e2]; exact ⟨dg_ge _, (Bd_dqr 1 b0 b1 q1).2.2.2⟩
      refine wl_is [(1, -2), (1, 0), (0, f), (0, (qq k : Int)), (0, kk), (0, c), (0, (i : Int)), (0, d), (0, e), (0, 1), (0, v1), (0, v2), x12, x13] hK rfl rfl rfl ?_
      refine wl_al hK rfl rfl ?_
      refine wl_ic hK rfl ?_
      refine wl_cv [(1, 0), (0, 1)] hK rfl rfl rfl rfl (Or.inr ⟨_, _, _, rfl, by decide, by decide, rfl⟩) (Or.inl rfl) hc (eo_degree H2 1 (by decide) (pl 1) rfl) (fun v3 M3 e3 H3 => (?_ : WL 24 115 [(1, -2), (1, 0), (0, f), (0, (qq k : Int)), (0, kk), (0, c), (0, (i : Int)), (0, d), (0, e), (0, 1), (0, v1), (0, v2), x12, x13] [(0, v3)] M3 cc ss))
      have g3 : v3 = dg (pl 1) := e3
      refine wl_ge hK rfl (by omega) (by omega) (fun h4 => ?_) (fun h4 => ?_)
      · refine wl_il hK rfl rfl ?_
        refine wl_al hK rfl rfl ?_
        refine wl_ic hK rfl ?_
        refine wl_cv [(1, 0), (0, 1)] hK rfl rfl rfl rfl (Or.inr ⟨_, _, _, rfl, by decide, by decide, rfl⟩) (Or.inl rfl) hc (eo_degree H3 1 (by decide) (pl 1) rfl) (fun v5 M5 e5 H5 => (?_ : WL 24 128 [(1, -2), (1, 0), (0, f), (0, (qq k : Int)), (0, kk), (0, c), (0, (i : Int)), (0, d), (0, e), (0, 1), (0, v1), (0, v2), x12, x13] [(0, v5), (0, v2)] M5 cc ss))
        have g5 : v5 = dg (pl 1) := e5
        refine wl_lt2 hK rfl (by omega) (by omega) (by omega) (by omega) (fun h6 => ?_) (fun h6 => ?_)
        · refine wl_il hK rfl rfl ?_
          refine wl_ne hK rfl (by omega) (by omega) (fun h7 => ?_) (fun h7 => ?_)
          · refine wl_al hK rfl rfl ?_
            refine wl_ic hK rfl ?_
            refine wl_ic hK rfl ?_
            refine wl_ic hK rfl ?_
            refine wl_cv [(1, 0), (0, 1), (0, 2), (0, 4)] hK rfl rfl rfl rfl (Or.inr ⟨_, _, _, rfl, by decide, by decide, rfl⟩) (Or.inl rfl) hc (em_mult H5 1 (by decide) (pl 1) rfl 2 (by decide) (dq 1 (pl 0) (pl 1)) rfl 4 (by decide) (dqm_le 1 b0 b1 q1).2) (fun v8 M8 e8 H8 => (?_ : WL 24 146 [(1, -2), (1, 0), (0, f), (0, (qq k : Int)), (0, kk), (0, c), (0, (i : Int)), (0, d), (0, e), (0, 1), (0, v1), (0, v2), x12, x13] [(0, v8)] M8 cc ss))
            have g8 : -1 ≤ v8 ∧ v8 ≤ 8 := by rw [e8]; exact dqm_le 1 b0 b1 q1
            refine wl_ic hK rfl ?_
            refine wl_ge2 hK rfl (by omega) (by omega) (by omega) (by omega) (fun h9 => ?_) (fun h9 => ?_)
            · refine wl_al hK rfl rfl ?_
              refine wl_ic hK rfl ?_
              refine wl_ic hK rfl ?_
              refine wl_ic hK rfl ?_
              refine wl_cv [(1, 0), (0, 4), (0, 3), (0, 5)] hK rfl rfl rfl rfl (Or.inr ⟨_, _, _, rfl, by decide, by decide, rfl⟩) (Or.inl rfl) hc (eo_adds H8 4 (by decide) (mlp (pl 1) (dq 1 (pl 0) (pl 1))) rfl 3 (by decide) (dr 1 (pl 0) (pl 1)) rfl 5 (by decide)) (fun v10 M10 e10 H10 => (?_ : WL 24 155 [(1, -2), (1, 0), (0, f), (0, (qq k : Int)), (0, kk), (0, c), (0, (i : Int)), (0, d), (0, e), (0, 1), (0, v1), (0, v2), x12, x13] [(0, v10)] M10 cc ss))
              refine wl_pop hK rfl rfl ?_
              refine wl_al hK rfl rfl ?_
              refine wl_ic hK rfl ?_
              refine wl_ic hK rfl ?_
              refine wl_cv [(1, 0), (0, 5), (0, 0)] hK rfl rfl rfl rfl (Or.inr ⟨_, _, _, rfl, by decide, by decide, rfl⟩) (Or.inl rfl) hc (eo_same H10 5 (by decide) (adp (mlp (pl 1) (dq 1 (pl 0) (pl 1))) (dr 1 (pl 0) (pl 1))) rfl 0 (by decide) (pl 0) rfl) (fun v11 M11 e11 H11 => (?_ : WL 24 160 [(1, -2), (1, 0), (0, f), (0, (qq k : Int)), (0, kk), (0, c), (0, (i : Int)), (0, d), (0, e), (0, 1), (0, v1), (0, v2), x12, x13] [(0, v11)] M11 cc ss))
              have g11 : v11 = 1 := by rw [e11]; exact bz_pos (Bd_dqr 1 b0 b1 q1).1.symm
              refine wl_ic hK rfl ?_
              refine wl_eq2 hK rfl (by omega) (by omega) (by omega) (by omega) (fun h12 => ?_) (fun h12 => ?_)
              · exact next M11 _ _ _ _ _ _ _ H11 rfl rfl
              · exfalso
                omega
            · exfalso
              omega
          · exfalso
            omega
        · exfalso
          omega
      · exfalso
        omega
set_option maxRecDepth 100000 in
theorem lk_1 {X : Int → Int} {M : Mem} {k : Nat} (hk : k < 4) {pl : Nat → Pl k} {rc : Nat} {rw_ : Int → Int} (H : LZ X M k pl rc rw_) {f kk c d e s : Int} {i : Nat} (hs : s = 0 ∨ s = 1) (hde : (i = 0 ∧ d = dg (pl 0) ∧ e = dg (pl 1)) ∨ (i = 1 ∧ d = dg (pl 1) ∧ e = dg (pl 0))) (dd_ : -1 ≤ dg (pl 0) ∧ dg (pl 0) ≤ 3) (ee_ : -1 ≤ dg (pl 1) ∧ dg (pl 1) ≤ 3) {x10 x11 x12 x13 : AV} {cc ss : Nat} (hc : cc ≤ (cOf 307).1 ∧ ss ≤ (cOf 307).2) (next : ∀ (M' : Mem) (pl' : Nat → Pl k) (rc' : Nat) (rw' : Int → Int) (y10 y11 y12 y13 : AV), LZ X M' k pl' rc' rw' → pl' 0 = pl 0 → pl' 1 = pl 1 → WL 24 588 [(1, -2), (1, 0), (0, f), (0, (qq k : Int)), (0, kk), (0, c), (0, (i : Int)), (0, d), (0, e), (0, s), y10, y11, y12, y13] [] M' cc ss) : WL 24 164 [(1, -2), (1, 0), (0, f), (0, (qq k : Int)), (0, kk), (0, c), (0, (i : Int)), (0, d), (0, e), (0, s), x10, x11, x12, x13] [] M cc ss := by
  have hK : cd 307 = k307 := rfl
  have b0 := H.bd 0 (by decide)
  have b1 := H.bd 1 (by decide)
  by_cases qa : dg (pl 0) < 0 ∧ dg (pl 1) < 0
  · refine wl_al hK rfl rfl ?_
    refine wl_ic hK rfl ?_
    refine wl_ic hK rfl ?_
    refine wl_il hK rfl rfl ?_
    refine wl_ic hK rfl ?_
    refine wl_cv [(1, 0), (0, 0), (0, 1), (0, s), (0, 2)] hK rfl rfl rfl rfl (Or.inr ⟨_, _, _, rfl, by decide, by decide, rfl⟩) (Or.inl rfl) hc (ez_divisor H 0 (by decide) (pl 0) rfl 1 (by decide) (pl 1) rfl 2 (by decide) s hs qa) (fun v1 M1 e1 H1 => (?_ : WL 24 170 [(1, -2), (1, 0), (0, f), (0, (qq k : Int)), (0, kk), (0, c), (0, (i : Int)), (0, d), (0, e), (0, s), x10, x11, x12, x13] [(0, v1)] M1 cc ss))
    refine wl_is [(1, -2), (1, 0), (0, f), (0, (qq k : Int)), (0, kk), (0, c), (0, (i : Int)), (0, d), (0, e), (0, s), (0, v1), x11, x12, x13] hK rfl rfl rfl ?_
    refine wl_al hK rfl rfl ?_
    refine wl_ic hK rfl ?_
    refine wl_ic hK rfl ?_
    refine wl_il hK rfl rfl ?_
    refine wl_ic hK rfl ?_
    refine wl_cv [(1, 0), (0, 0), (0, 1), (0, s), (0, 3)] hK rfl rfl rfl rfl (Or.inr ⟨_, _, _, rfl, by decide, by decide, rfl⟩) (Or.inl rfl) hc (ez_multiple H1 0 (by decide) (pl 0) rfl 1 (by decide) (pl 1) rfl 3 (by decide) s hs (Or.inl qa.1)) (fun v2 M2 e2 H2 => (?_ : WL 24 177 [(1, -2), (1, 0), (0, f), (0, (qq k : Int)), (0, kk), (0, c), (0, (i : Int)), (0, d), (0, e), (0, s), (0, v1), x11, x12, x13] [(0, v2)] M2 cc ss))
    refine wl_is [(1, -2), (1, 0), (0, f), (0, (qq k : Int)), (0, kk), (0, c), (0, (i : Int)), (0, d), (0, e), (0, s), (0, v1), (0, v2), x12, x13] hK rfl rfl rfl ?_
    refine wl_il hK rfl rfl ?_
    refine wl_ge hK rfl (by omega) (by omega) (fun h3 => ?_) (fun h3 => ?_)
    · exfalso
      omega
    · refine wl_il hK rfl rfl ?_
      refine wl_ge hK rfl (by omega) (by omega) (fun h4 => ?_) (fun h4 => ?_)
      · exfalso
        omega
      · refine wl_il hK rfl rfl ?_
        refine wl_ic hK rfl ?_
        refine wl_ne2 hK rfl (by omega) (by omega) (by omega) (by omega) (fun h5 => ?_) (fun h5 => ?_)
        · exfalso
          omega
        · refine wl_il hK rfl rfl ?_
          refine wl_ic hK rfl ?_
          refine wl_eq2 hK rfl (by omega) (by omega) (by omega) (by omega) (fun h6 => ?_) (fun h6 => ?_)
          · exact next M2 _ _ _ _ _ _ _ H2 rfl rfl
          · exfalso
            omega
  · have qo : 0 ≤ dg (pl 0) ∨ 0 ≤ dg (pl 1) := by omega
    have hg := gcd_dvs s b0 b1 qo
    have ig : IsDg (mon s (euL s (pl 0) (pl 1)).1) ((dg (mon s (euL s (pl 0) (pl 1)).1)).toNat : Int) := isdg_dg (hg.2.2.2.1.mono (by decide)) hg.2.2.1
    by_cases qb : dg (pl 0) < 0 ∨ dg (pl 1) < 0
    · refine wl_al hK rfl rfl ?_
      refine wl_ic hK rfl ?_
      refine wl_ic hK rfl ?_
      refine wl_il hK rfl rfl ?_
      refine wl_ic hK rfl ?_
      refine wl_cv [(1, 0), (0, 0), (0, 1), (0, s), (0, 2)] hK rfl rfl rfl rfl (Or.inr ⟨_, _, _, rfl, by decide, by decide, rfl⟩) (Or.inl rfl) hc (eo_divisor H 0 (by decide) (pl 0) rfl 1 (by decide) (pl 1) rfl 2 (by decide) s hs qo) (fun v1 M1 e1 H1 => (?_ : WL 24 170 [(1, -2), (1, 0), (0, f), (0, (qq k : Int)), (0, kk), (0, c), (0, (i : Int)), (0, d), (0, e), (0, s), x10, x11, x12, x13] [(0, v1)] M1 cc ss))
      have g1 : v1 = max (dg (pl 0)) (dg (pl 1)) := by rw [e1, hg.2.2.2.2]; exact gcd_one s b0 b1 (by omega)
      refine wl_is [(1, -2), (1, 0), (0, f), (0, (qq k : Int)), (0, kk), (0, c), (0, (i : Int)), (0, d), (0, e), (0, s), (0, v1), x11, x12, x13] hK rfl rfl rfl ?_
      refine wl_al hK rfl rfl ?_
      refine wl_ic hK rfl ?_
      refine wl_ic hK rfl ?_
      refine wl_il hK rfl rfl ?_
      refine wl_ic hK rfl ?_
      refine wl_cv [(1, 0), (0, 0), (0, 1), (0, s), (0, 3)] hK rfl rfl rfl rfl (Or.inr ⟨_, _, _, rfl, by decide, by decide, rfl⟩) (Or.inl rfl) hc (ez_multiple H1 0 (by decide) (pl 0) rfl 1 (by decide) (pl 1) rfl 3 (by decide) s hs qb) (fun v2 M2 e2 H2 => (?_ : WL 24 177 [(1, -2), (1, 0), (0, f), (0, (qq k : Int)), (0, kk), (0, c), (0, (i : Int)), (0, d), (0, e), (0, s), (0, v1), x11, x12, x13] [(0, v2)] M2 cc ss))
      refine wl_is [(1, -2), (1, 0), (0, f), (0, (qq k : Int)), (0, kk), (0, c), (0, (i : Int)), (0, d), (0, e), (0, s), (0, v1), (0, v2), x12, x13] hK rfl rfl rfl ?_
      refine wl_il hK rfl rfl ?_
      refine wl_ge hK rfl (by omega) (by omega) (fun h3 => ?_) (fun h3 => ?_)
      · refine wl_ic hK rfl ?_
        refine wl_is [(1, -2), (1, 0), (0, f), (0, (qq k : Int)), (0, kk), (0, c), (0, (i : Int)), (0, d), (0, e), (0, s), (0, v1), (0, v2), (0, 0), x13] hK rfl rfl rfl ?_
        refine wl_il hK rfl rfl ?_
        refine wl_ic hK rfl ?_
        refine wl_ge2 hK rfl (by omega) (by omega) (by omega) (by omega) (fun h4 => ?_) (fun h4 => ?_)
        · exfalso
          omega
        · refine wl_al hK rfl rfl ?_
          refine wl_il hK rfl rfl ?_
          refine wl_ic hK rfl ?_
          refine wl_il hK rfl rfl ?_
          refine wl_ic hK rfl ?_
          refine wl_cv [(1, 0), (0, 0), (0, 2), (0, s), (0, 4)] hK rfl rfl rfl rfl (Or.inr ⟨_, _, _, rfl, by decide, by decide, rfl⟩) (Or.inl rfl) hc (eo_rem H2 0 (by decide) (pl 0) rfl 2 (by decide) (mon s (euL s (pl 0) (pl 1)).1) rfl 4 (by decide) s hs hg.2.2.1) (fun v5 M5 e5 H5 => (?_ : WL 24 201 [(1, -2), (1, 0), (0, f), (0, (qq k : Int)), (0, kk), (0, c), (0, (i : Int)), (0, d), (0, e), (0, s), (0, v1), (0, v2), (0, 0), x13] [(0, v5)] M5 cc ss))
          have g5 : v5 = -1 := by rw [e5, show dr s (pl 0) (mon s (euL s (pl 0) (pl 1)).1) = pz from Dvs.rem0 hg.1 ig]; exact dg_pz
          refine wl_ic hK rfl ?_
          refine wl_eq2 hK rfl (by omega) (by omega) (by omega) (by omega) (fun h6 => ?_) (fun h6 => ?_)
          · refine wl_inc [(1, -2), (1, 0), (0, f), (0, (qq k : Int)), (0, kk), (0, c), (0, (i : Int)), (0, d), (0, e), (0, s), (0, v1), (0, v2), (0, 1), x13] hK rfl rfl rfl (by omega) (by omega) rfl ?_
            refine wl_goto hK rfl ?_
            refine wl_il hK rfl rfl ?_
            refine wl_ic hK rfl ?_
            refine wl_ge2 hK rfl (by omega) (by omega) (by omega) (by omega) (fun h7 => ?_) (fun h7 => ?_)
            · exfalso
              omega
            · refine wl_al hK rfl rfl ?_
              refine wl_il hK rfl rfl ?_
              refine wl_ic hK rfl ?_
              refine wl_il hK rfl rfl ?_
              refine wl_ic hK rfl ?_
              refine wl_cv [(1, 0), (0, 1), (0, 2), (0, s), (0, 4)] hK rfl rfl rfl rfl (Or.inr ⟨_, _, _, rfl, by decide, by decide, rfl⟩) (Or.inl rfl) hc (eo_rem H5 1 (by decide) (pl 1) rfl 2 (by decide) (mon s (euL s (pl 0) (pl 1)).1) rfl 4 (by decide) s hs hg.2.2.1) (fun v8 M8 e8 H8 => (?_ : WL 24 201 [(1, -2), (1, 0), (0, f), (0, (qq k : Int)), (0, kk), (0, c), (0, (i : Int)), (0, d), (0, e), (0, s), (0, v1), (0, v2), (0, 1), x13] [(0, v8)] M8 cc ss))
              have g8 : v8 = -1 := by rw [e8, show dr s (pl 1) (mon s (euL s (pl 0) (pl 1)).1) = pz from Dvs.rem0 hg.2.1 ig]; exact dg_pz
              refine wl_ic hK rfl ?_
              refine wl_eq2 hK rfl (by omega) (by omega) (by omega) (by omega) (fun h9 => ?_) (fun h9 => ?_)
              · refine wl_inc [(1, -2), (1, 0), (0, f), (0, (qq k : Int)), (0, kk), (0, c), (0, (i : Int)), (0, d), (0, e), (0, s), (0, v1), (0, v2), (0, 2), x13] hK rfl rfl rfl (by omega) (by omega) rfl ?_
                refine wl_goto hK rfl ?_
                refine wl_il hK rfl rfl ?_
                refine wl_ic hK rfl ?_
                refine wl_ge2 hK rfl (by omega) (by omega) (by omega) (by omega) (fun h10 => ?_) (fun h10 => ?_)
                · refine wl_il hK rfl rfl ?_
                  refine wl_lt hK rfl (by omega) (by omega) (fun h11 => ?_) (fun h11 => ?_)
                  · refine wl_il hK rfl rfl ?_
                    refine wl_ic hK rfl ?_
                    refine wl_ne2 hK rfl (by omega) (by omega) (by omega) (by omega) (fun h12 => ?_) (fun h12 => ?_)
                    · exfalso
                      omega
                    · refine wl_il hK rfl rfl ?_
                      refine wl_il hK rfl rfl ?_
                      refine wl_il hK rfl rfl ?_
                      refine wl_cv [(0, d), (0, e)] hK rfl rfl rfl rfl (Or.inl rfl) (Or.inl rfl) hc (c_max d e (by omega) (by omega) (by omega) (by omega)) (fun v13 M13 e13 H13 => (?_ : WL 24 218 [(1, -2), (1, 0), (0, f), (0, (qq k : Int)), (0, kk), (0, c), (0, (i : Int)), (0, d), (0, e), (0, s), (0, v1), (0, v2), (0, 2), x13] [(0, v13), (0, v1)] M13 cc ss))
                      subst M13
                      refine wl_eq2 hK rfl (by omega) (by omega) (by omega) (by omega) (fun h14 => ?_) (fun h14 => ?_)
                      · exact next M8 _ _ _ _ _ _ _ H8 rfl rfl
                      · exfalso
                        omega
                  · refine wl_il hK rfl rfl ?_
                    refine wl_ge hK rfl (by omega) (by omega) (fun h15 => ?_) (fun h15 => ?_)
                    · exfalso
                      omega
                    · refine wl_il hK rfl rfl ?_
                      refine wl_ic hK rfl ?_
                      refine wl_ne2 hK rfl (by omega) (by omega) (by omega) (by omega) (fun h16 => ?_) (fun h16 => ?_)
                      · exfalso
                        omega
                      · refine wl_il hK rfl rfl ?_
                        refine wl_il hK rfl rfl ?_
                        refine wl_il hK rfl rfl ?_
                        refine wl_cv [(0, d), (0, e)] hK rfl rfl rfl rfl (Or.inl rfl) (Or.inl rfl) hc (c_max d e (by omega) (by omega) (by omega) (by omega)) (fun v17 M17 e17 H17 => (?_ : WL 24 218 [(1, -2), (1, 0), (0, f), (0, (qq k : Int)), (0, kk), (0, c), (0, (i : Int)), (0, d), (0, e), (0, s), (0, v1), (0, v2), (0, 2), x13] [(0, v17), (0, v1)] M17 cc ss))
                        subst M17
                        refine wl_eq2 hK rfl (by omega) (by omega) (by omega) (by omega) (fun h18 => ?_) (fun h18 => ?_)
                        · exact next M8 _ _ _ _ _ _ _ H8 rfl rfl
                        · exfalso
                          omega
                · exfalso
                  omega
              · exfalso
                omega
          · exfalso
            omega
      · refine wl_il hK rfl rfl ?_
        refine wl_ge hK rfl (by omega) (by omega) (fun h19 => ?_) (fun h19 => ?_)
        · refine wl_ic hK rfl ?_
          refine wl_is [(1, -2), (1, 0), (0, f), (0, (qq k : Int)), (0, kk), (0, c), (0, (i : Int)), (0, d), (0, e), (0, s), (0, v1), (0, v2), (0, 0), x13] hK rfl rfl rfl ?_
          refine wl_il hK rfl rfl ?_
          refine wl_ic hK rfl ?_
          refine wl_ge2 hK rfl (by omega) (by omega) (by omega) (by omega) (fun h20 => ?_) (fun h20 => ?_)
          · exfalso
            omega
          · refine wl_al hK rfl rfl ?_
            refine wl_il hK rfl rfl ?_
            refine wl_ic hK rfl ?_
            refine wl_il hK rfl rfl ?_
            refine wl_ic hK rfl ?_
            refine wl_cv [(1, 0), (0, 0), (0, 2), (0, s), (0, 4)] hK rfl rfl rfl rfl (Or.inr ⟨_, _, _, rfl, by decide, by decide, rfl⟩) (Or.inl rfl) hc (eo_rem H2 0 (by decide) (pl 0) rfl 2 (by decide) (mon s (euL s (pl 0) (pl 1)).1) rfl 4 (by decide) s hs hg.2.2.1) (fun v21 M21 e21 H21 => (?_ : WL 24 201 [(1, -2), (1, 0), (0, f), (0, (qq k : Int)), (0, kk), (0, c), (0, (i : Int)), (0, d), (0, e), (0, s), (0, v1), (0, v2), (0, 0), x13] [(0, v21)] M21 cc ss))
            have g21 : v21 = -1 := by rw [e21, show dr s (pl 0) (mon s (euL s (pl 0) (pl 1)).1) = pz from Dvs.rem0 hg.1 ig]; exact dg_pz
            refine wl_ic hK rfl ?_
            refine wl_eq2 hK rfl (by omega) (by omega) (by omega) (by omega) (fun h22 => ?_) (fun h22 => ?_)
            · refine wl_inc [(1, -2), (1, 0), (0, f), (0, (qq k : Int)), (0, kk), (0, c), (0, (i : Int)), (0, d), (0, e), (0, s), (0, v1), (0, v2), (0, 1), x13] hK rfl rfl rfl (by omega) (by omega) rfl ?_
              refine wl_goto hK rfl ?_
              refine wl_il hK rfl rfl ?_
              refine wl_ic hK rfl ?_
              refine wl_ge2 hK rfl (by omega) (by omega) (by omega) (by omega) (fun h23 => ?_) (fun h23 => ?_)
              · exfalso
                omega
              · refine wl_al hK rfl rfl ?_
                refine wl_il hK rfl rfl ?_
                refine wl_ic hK rfl ?_
                refine wl_il hK rfl rfl ?_
                refine wl_ic hK rfl ?_
                refine wl_cv [(1, 0), (0, 1), (0, 2), (0, s), (0, 4)] hK rfl rfl rfl rfl (Or.inr ⟨_, _, _, rfl, by decide, by decide, rfl⟩) (Or.inl rfl) hc (eo_rem H21 1 (by decide) (pl 1) rfl 2 (by decide) (mon s (euL s (pl 0) (pl 1)).1) rfl 4 (by decide) s hs hg.2.2.1) (fun v24 M24 e24 H24 => (?_ : WL 24 201 [(1, -2), (1, 0), (0, f), (0, (qq k : Int)), (0, kk), (0, c), (0, (i : Int)), (0, d), (0, e), (0, s), (0, v1), (0, v2), (0, 1), x13] [(0, v24)] M24 cc ss))
                have g24 : v24 = -1 := by rw [e24, show dr s (pl 1) (mon s (euL s (pl 0) (pl 1)).1) = pz from Dvs.rem0 hg.2.1 ig]; exact dg_pz
                refine wl_ic hK rfl ?_
                refine wl_eq2 hK rfl (by omega) (by omega) (by omega) (by omega) (fun h25 => ?_) (fun h25 => ?_)
                · refine wl_inc [(1, -2), (1, 0), (0, f), (0, (qq k : Int)), (0, kk), (0, c), (0, (i : Int)), (0, d), (0, e), (0, s), (0, v1), (0, v2), (0, 2), x13] hK rfl rfl rfl (by omega) (by omega) rfl ?_
                  refine wl_goto hK rfl ?_
                  refine wl_il hK rfl rfl ?_
                  refine wl_ic hK rfl ?_
                  refine wl_ge2 hK rfl (by omega) (by omega) (by omega) (by omega) (fun h26 => ?_) (fun h26 => ?_)
                  · refine wl_il hK rfl rfl ?_
                    refine wl_lt hK rfl (by omega) (by omega) (fun h27 => ?_) (fun h27 => ?_)
                    · refine wl_il hK rfl rfl ?_
                      refine wl_ic hK rfl ?_
                      refine wl_ne2 hK rfl (by omega) (by omega) (by omega) (by omega) (fun h28 => ?_) (fun h28 => ?_)
                      · exfalso
                        omega
                      · refine wl_il hK rfl rfl ?_
                        refine wl_il hK rfl rfl ?_
                        refine wl_il hK rfl rfl ?_
                        refine wl_cv [(0, d), (0, e)] hK rfl rfl rfl rfl (Or.inl rfl) (Or.inl rfl) hc (c_max d e (by omega) (by omega) (by omega) (by omega)) (fun v29 M29 e29 H29 => (?_ : WL 24 218 [(1, -2), (1, 0), (0, f), (0, (qq k : Int)), (0, kk), (0, c), (0, (i : Int)), (0, d), (0, e), (0, s), (0, v1), (0, v2), (0, 2), x13] [(0, v29), (0, v1)] M29 cc ss))
                        subst M29
                        refine wl_eq2 hK rfl (by omega) (by omega) (by omega) (by omega) (fun h30 => ?_) (fun h30 => ?_)
                        · exact next M24 _ _ _ _ _ _ _ H24 rfl rfl
                        · exfalso
                          omega
                    · refine wl_il hK rfl rfl ?_
                      refine wl_ge hK rfl (by omega) (by omega) (fun h31 => ?_) (fun h31 => ?_)
                      · exfalso
                        omega
                      · refine wl_il hK rfl rfl ?_
                        refine wl_ic hK rfl ?_
                        refine wl_ne2 hK rfl (by omega) (by omega) (by omega) (by omega) (fun h32 => ?_) (fun h32 => ?_)
                        · exfalso
                          omega
                        · refine wl_il hK rfl rfl ?_
                          refine wl_il hK rfl rfl ?_
                          refine wl_il hK rfl rfl ?_
                          refine wl_cv [(0, d), (0, e)] hK rfl rfl rfl rfl (Or.inl rfl) (Or.inl rfl) hc (c_max d e (by omega) (by omega) (by omega) (by omega)) (fun v33 M33 e33 H33 => (?_ : WL 24 218 [(1, -2), (1, 0), (0, f), (0, (qq k : Int)), (0, kk), (0, c), (0, (i : Int)), (0, d), (0, e), (0, s), (0, v1), (0, v2), (0, 2), x13] [(0, v33), (0, v1)] M33 cc ss))
                          subst M33
                          refine wl_eq2 hK rfl (by omega) (by omega) (by omega) (by omega) (fun h34 => ?_) (fun h34 => ?_)
                          · exact next M24 _ _ _ _ _ _ _ H24 rfl rfl
                          · exfalso
                            omega
                  · exfalso
                    omega
                · exfalso
                  omega
            · exfalso
              omega
        · exfalso
          omega
    · have qx : 0 ≤ dg (pl 0) := by omega
      have qy : 0 ≤ dg (pl 1) := by omega
      have hm := mul_all s b0 b1 qx qy
      have gq := hg.2.2.2.2
      have gz := dg_lt9 hg.2.2.2.1
      refine wl_al hK rfl rfl ?_
      refine wl_ic hK rfl ?_
      refine wl_ic hK rfl ?_
      refine wl_il hK rfl rfl ?_
      refine wl_ic hK rfl ?_
      refine wl_cv [(1, 0), (0, 0), (0, 1), (0, s), (0, 2)] hK rfl rfl rfl rfl (Or.inr ⟨_, _, _, rfl, by decide, by decide, rfl⟩) (Or.inl rfl) hc (eo_divisor H 0 (by decide) (pl 0) rfl 1 (by decide) (pl 1) rfl 2 (by decide) s hs qo) (fun v1 M1 e1 H1 => (?_ : WL 24 170 [(1, -2), (1, 0), (0, f), (0, (qq k : Int)), (0, kk), (0, c), (0, (i : Int)), (0, d), (0, e), (0, s), x10, x11, x12, x13] [(0, v1)] M1 cc ss))
      have g1 : v1 = dg (euL s (pl 0) (pl 1)).1 := by rw [e1]; exact hg.2.2.2.2
      refine wl_is [(1, -2), (1, 0), (0, f), (0, (qq k : Int)), (0, kk), (0, c), (0, (i : Int)), (0, d), (0, e), (0, s), (0, v1), x11, x12, x13] hK rfl rfl rfl ?_
      refine wl_al hK rfl rfl ?_
      refine wl_ic hK rfl ?_
      refine wl_ic hK rfl ?_
      refine wl_il hK rfl rfl ?_
      refine wl_ic hK rfl ?_
      refine wl_cv [(1, 0), (0, 0), (0, 1), (0, s), (0, 3)] hK rfl rfl rfl rfl (Or.inr ⟨_, _, _, rfl, by decide, by decide, rfl⟩) (Or.inl rfl) hc (em_multiple H1 0 (by decide) (pl 0) rfl 1 (by decide) (pl 1) rfl 3 (by decide) s hs qx qy (by omega)) (fun v2 M2 e2 H2 => (?_ : WL 24 177 [(1, -2), (1, 0), (0, f), (0, (qq k : Int)), (0, kk), (0, c), (0, (i : Int)), (0, d), (0, e), (0, s), (0, v1), x11, x12, x13] [(0, v2)] M2 cc ss))
      have g2 := e2.trans hm.2.2
      refine wl_is [(1, -2), (1, 0), (0, f), (0, (qq k : Int)), (0, kk), (0, c), (0, (i : Int)), (0, d), (0, e), (0, s), (0, v1), (0, v2), x12, x13] hK rfl rfl rfl ?_
      refine wl_il hK rfl rfl ?_
      refine wl_ge hK rfl (by omega) (by omega) (fun h3 => ?_) (fun h3 => ?_)
      · refine wl_ic hK rfl ?_
        refine wl_is [(1, -2), (1, 0), (0, f), (0, (qq k : Int)), (0, kk), (0, c), (0, (i : Int)), (0, d), (0, e), (0, s), (0, v1), (0, v2), (0, 0), x13] hK rfl rfl rfl ?_
        refine wl_il hK rfl rfl ?_
        refine wl_ic hK rfl ?_
        refine wl_ge2 hK rfl (by omega) (by omega) (by omega) (by omega) (fun h4 => ?_) (fun h4 => ?_)
        · exfalso
          omega
        · refine wl_al hK rfl rfl ?_
          refine wl_il hK rfl rfl ?_
          refine wl_ic hK rfl ?_
          refine wl_il hK rfl rfl ?_
          refine wl_ic hK rfl ?_
          refine wl_cv [(1, 0), (0, 0), (0, 2), (0, s), (0, 4)] hK rfl rfl rfl rfl (Or.inr ⟨_, _, _, rfl, by decide, by decide, rfl⟩) (Or.inl rfl) hc (eo_rem H2 0 (by decide) (pl 0) rfl 2 (by decide) (mon s (euL s (pl 0) (pl 1)).1) rfl 4 (by decide) s hs hg.2.2.1) (fun v5 M5 e5 H5 => (?_ : WL 24 201 [(1, -2), (1, 0), (0, f), (0, (qq k : Int)), (0, kk), (0, c), (0, (i : Int)), (0, d), (0, e), (0, s), (0, v1), (0, v2), (0, 0), x13] [(0, v5)] M5 cc ss))
          have g5 : v5 = -1 := by rw [e5, show dr s (pl 0) (mon s (euL s (pl 0) (pl 1)).1) = pz from Dvs.rem0 hg.1 ig]; exact dg_pz
          refine wl_ic hK rfl ?_
          refine wl_eq2 hK rfl (by omega) (by omega) (by omega) (by omega) (fun h6 => ?_) (fun h6 => ?_)
          · refine wl_inc [(1, -2), (1, 0), (0, f), (0, (qq k : Int)), (0, kk), (0, c), (0, (i : Int)), (0, d), (0, e), (0, s), (0, v1), (0, v2), (0, 1), x13] hK rfl rfl rfl (by omega) (by omega) rfl ?_
            refine wl_goto hK rfl ?_
            refine wl_il hK rfl rfl ?_
            refine wl_ic hK rfl ?_
            refine wl_ge2 hK rfl (by omega) (by omega) (by omega) (by omega) (fun h7 => ?_) (fun h7 => ?_)
            · exfalso
              omega
            · refine wl_al hK rfl rfl ?_
              refine wl_il hK rfl rfl ?_
              refine wl_ic hK rfl ?_
              refine wl_il hK rfl rfl ?_
              refine wl_ic hK rfl ?_
              refine wl_cv [(1, 0), (0, 1), (0, 2), (0, s), (0, 4)] hK rfl rfl rfl rfl (Or.inr ⟨_, _, _, rfl, by decide, by decide, rfl⟩) (Or.inl rfl) hc (eo_rem H5 1 (by decide) (pl 1) rfl 2 (by decide) (mon s (euL s (pl 0) (pl 1)).1) rfl 4 (by decide) s hs hg.2.2.1) (fun v8 M8 e8 H8 => (?_ : WL 24 201 [(1, -2), (1, 0), (0, f), (0, (qq k : Int)), (0, kk), (0, c), (0, (i : Int)), (0, d), (0, e), (0, s), (0, v1), (0, v2), (0, 1), x13] [(0, v8)] M8 cc ss))
              have g8 : v8 = -1 := by rw [e8, show dr s (pl 1) (mon s (euL s (pl 0) (pl 1)).1) = pz from Dvs.rem0 hg.2.1 ig]; exact dg_pz
              refine wl_ic hK rfl ?_
              refine wl_eq2 hK rfl (by omega) (by omega) (by omega) (by omega) (fun h9 => ?_) (fun h9 => ?_)
              · refine wl_inc [(1, -2), (1, 0), (0, f), (0, (qq k : Int)), (0, kk), (0, c), (0, (i : Int)), (0, d), (0, e), (0, s), (0, v1), (0, v2), (0, 2), x13] hK rfl rfl rfl (by omega) (by omega) rfl ?_
                refine wl_goto hK rfl ?_
                refine wl_il hK rfl rfl ?_
                refine wl_ic hK rfl ?_
                refine wl_ge2 hK rfl (by omega) (by omega) (by omega) (by omega) (fun h10 => ?_) (fun h10 => ?_)
                · refine wl_il hK rfl rfl ?_
                  refine wl_lt hK rfl (by omega) (by omega) (fun h11 => ?_) (fun h11 => ?_)
                  · exfalso
                    omega
                  · refine wl_il hK rfl rfl ?_
                    refine wl_ge hK rfl (by omega) (by omega) (fun h12 => ?_) (fun h12 => ?_)
                    · refine wl_il hK rfl rfl ?_
                      refine wl_il hK rfl rfl ?_
                      refine wl_il hK rfl rfl ?_
                      refine wl_add hK rfl (by omega) (by omega) ?_
                      refine wl_il hK rfl rfl ?_
                      refine wl_sub hK rfl (by omega) (by omega) ?_
                      refine wl_ne2 hK rfl (by omega) (by omega) (by omega) (by omega) (fun h13 => ?_) (fun h13 => ?_)
                      · exfalso
                        omega
                      · refine wl_al hK rfl rfl ?_
                        refine wl_ic hK rfl ?_
                        refine wl_ic hK rfl ?_
                        refine wl_il hK rfl rfl ?_
                        refine wl_ic hK rfl ?_
                        refine wl_cv [(1, 0), (0, 3), (0, 0), (0, s), (0, 4)] hK rfl rfl rfl rfl (Or.inr ⟨_, _, _, rfl, by decide, by decide, rfl⟩) (Or.inl rfl) hc (eo_rem H8 3 (by decide) (mon s (prd s (euL s (pl 0) (pl 1)).2.2.2.1 (pl 0))) rfl 0 (by decide) (pl 0) rfl 4 (by decide) s hs qx) (fun v14 M14 e14 H14 => (?_ : WL 24 234 [(1, -2), (1, 0), (0, f), (0, (qq k : Int)), (0, kk), (0, c), (0, (i : Int)), (0, d), (0, e), (0, s), (0, v1), (0, v2), (0, 2), x13] [(0, v14)] M14 cc ss))
                        have g14 : v14 = -1 := by rw [e14, show dr s (mon s (prd s (euL s (pl 0) (pl 1)).2.2.2.1 (pl 0))) (pl 0) = pz from Dvs.rem0 hm.1 (isdg_dg (b0.mono (by decide)) qx)]; exact dg_pz
                        refine wl_ic hK rfl ?_
                        refine wl_ne2 hK rfl (by omega) (by omega) (by omega) (by omega) (fun h15 => ?_) (fun h15 => ?_)
                        · exfalso
                          omega
                        · refine wl_al hK rfl rfl ?_
                          refine wl_ic hK rfl ?_
                          refine wl_ic hK rfl ?_
                          refine wl_il hK rfl rfl ?_
                          refine wl_ic hK rfl ?_
                          refine wl_cv [(1, 0), (0, 3), (0, 1), (0, s), (0, 4)] hK rfl rfl rfl rfl (Or.inr ⟨_, _, _, rfl, by decide, by decide, rfl⟩) (Or.inl rfl) hc (eo_rem H14 3 (by decide) (mon s (prd s (euL s (pl 0) (pl 1)).2.2.2.1 (pl 0))) rfl 1 (by decide) (pl 1) rfl 4 (by decide) s hs qy) (fun v16 M16 e16 H16 => (?_ : WL 24 242 [(1, -2), (1, 0), (0, f), (0, (qq k : Int)), (0, kk), (0, c), (0, (i : Int)), (0, d), (0, e), (0, s), (0, v1), (0, v2), (0, 2), x13] [(0, v16)] M16 cc ss))
                          have g16 : v16 = -1 := by rw [e16, show dr s (mon s (prd s (euL s (pl 0) (pl 1)).2.2.2.1 (pl 0))) (pl 1) = pz from Dvs.rem0 hm.2.1 (isdg_dg (b1.mono (by decide)) qy)]; exact dg_pz
                          refine wl_ic hK rfl ?_
                          refine wl_eq2 hK rfl (by omega) (by omega) (by omega) (by omega) (fun h17 => ?_) (fun h17 => ?_)
                          · exact next M16 _ _ _ _ _ _ _ H16 rfl rfl
                          · exfalso
                            omega
                    · exfalso
                      omega
                · exfalso
                  omega
              · exfalso
                omega
          · exfalso
            omega
      · exfalso
        omega
