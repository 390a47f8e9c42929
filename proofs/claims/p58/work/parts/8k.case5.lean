/-! the law: what is like -/
def Lk {k : Nat} (A B : Pl k) (n : Nat) : Prop := ∃ U : Pl k, Bd U n ∧ InL (mlp A U) B ∧ Cop U B
theorem Lk.sym {k n : Nat} {A B : Pl k} (hA : IsDg A (n : Int)) (hB : IsDg B (n : Int)) (h : Lk A B n) : Lk B A n := by
  obtain ⟨U, h1, h2, h3⟩ := h
  exact like_sym hA hB h1 h2 h3
theorem e_like {X : Int → Int} {M : Mem} {k : Nat} {pl : Nat → Pl k} {rc : Nat} {rw_ : Int → Int} (H : LZ X M k pl rc rw_) (i : Nat) (hi : i < 6) (j : Nat) (hj : j < 6) (n0 : Nat) (hi0 : dg (pl i) = (n0 : Int)) (hj0 : dg (pl j) = (n0 : Int)) (n1_ : 1 ≤ n0) (n4_ : n0 ≤ 4) : Ct 198 23 178 [(1, 0), (0, (i : Int)), (0, (j : Int))] M (fun r M' => ∃ v : Int, r = (0, v) ∧ ((v = 1 ∧ Lk (pl i) (pl j) n0) ∨ (v = 0 ∧ ¬ Lk (pl i) (pl j) n0)) ∧ ∃ (rc' : Nat) (rw' : Int → Int), LZ X M' k pl rc' rw') := by
  have bi := H.bd i hi
  have bj := H.bd j hj
  have hB : IsDg (pl j) (n0 : Int) := by rw [← hj0]; exact dg_is (bj.mono (by decide))
  obtain ⟨⟨tx, fc, fa, H⟩, hX⟩ := H
  refine (o_like (d := 15) H i hi j hj n0 hi0 hj0 n1_ n4_).imp (fun r M' h => ?_)
  obtain ⟨c, R, dp, ow, us, hG, h⟩ := h
  have gm := gp_main bi hB hG
  rcases h with ⟨t, ⟨⟨t1, t2, t3⟩, _⟩, h1, h2, h3⟩ | ⟨hn, h1, h2, h3⟩
  · exact ⟨1, h1, Or.inl ⟨rfl, _, wyU_bd, InL.of hB (Bd_mlp bi (wyU_bd (t := t))) (gm.1 t), t3⟩, _, _, ⟨_, _, _, h2⟩, (h3 (-2) (Or.inl (by decide))).trans hX⟩
  · refine ⟨0, h1, Or.inr ⟨rfl, fun hL => ?_⟩, _, _, ⟨_, _, _, h2⟩, (h3 (-2) (Or.inl (by decide))).trans hX⟩
    obtain ⟨U, u1, u2, u3⟩ := hL
    obtain ⟨t, t1, t2⟩ := gm.2.2 U u1 (u2.lf hB)
    subst t2
    rcases Nat.eq_zero_or_pos t with e | e
    · subst e
      rw [wyU_0] at u3
      have h4 := (Cop_pz bj).mp (Cop_comm.mp u3)
      have h5 := hB.uniq h4
      omega
    · exact hn t e t1 u3
theorem likes_pos {k : Nat} (A : Pl k) : 1 ≤ sI (fun j => bz (MKd A 1 (qq k) (j : Int))) 256 ∧ sI (fun j => bz (MKd A 1 (qq k) (j : Int))) 256 ≤ 256 := by
  have h1 := kcL_I A (vc 1)
  have hq := qq_I k
  have hz : ∀ j : Nat, 0 ≤ bz (MKd A 1 (qq k) (j : Int)) ∧ bz (MKd A 1 (qq k) (j : Int)) ≤ 1 := fun j => by
    by_cases h : MKd A 1 (qq k) (j : Int)
    · rw [bz_pos h]; decide
    · rw [bz_neg h]; decide
  refine ⟨sI_pos (j := (kcL A (vc 1)).toNat) ?_ (fun j _ => (hz j).1) (by omega), (sI_le (B := 1) (n := 256) (fun j _ => hz j)).2⟩
  have e : (((kcL A (vc 1)).toNat : Nat) : Int) = kcL A (vc 1) := Int.toNat_of_nonneg h1.1
  rw [e, bz_pos ⟨1, Nat.le_refl 1, by omega, if_pos rfl⟩]
  decide
set_option maxRecDepth 100000 in
theorem lk_5 {X : Int → Int} {M : Mem} {k : Nat} (hk : k < 4) {pl : Nat → Pl k} {rc : Nat} {rw_ : Int → Int} (H : LZ X M k pl rc rw_) {f kk c d e s : Int} {i : Nat} (hs : s = 0 ∨ s = 1) (hde : (i = 0 ∧ d = dg (pl 0) ∧ e = dg (pl 1)) ∨ (i = 1 ∧ d = dg (pl 1) ∧ e = dg (pl 0))) (dd_ : -1 ≤ dg (pl 0) ∧ dg (pl 0) ≤ 3) (ee_ : -1 ≤ dg (pl 1) ∧ dg (pl 1) ≤ 3) {x10 x11 x12 x13 : AV} {cc ss : Nat} (hc : cc ≤ (cOf 307).1 ∧ ss ≤ (cOf 307).2) (next : ∀ (M' : Mem) (pl' : Nat → Pl k) (rc' : Nat) (rw' : Int → Int) (y10 y11 y12 y13 : AV), LZ X M' k pl' rc' rw' → pl' 0 = pl 0 → pl' 1 = pl 1 → WL 24 588 [(1, -2), (1, 0), (0, f), (0, (qq k : Int)), (0, kk), (0, c), (0, (i : Int)), (0, d), (0, e), (0, s), y10, y11, y12, y13] [] M' cc ss) : WL 24 441 [(1, -2), (1, 0), (0, f), (0, (qq k : Int)), (0, kk), (0, c), (0, (i : Int)), (0, d), (0, e), (0, s), x10, x11, x12, x13] [] M cc ss := by
  have hK : cd 307 = k307 := rfl
  have b0 := H.bd 0 (by decide)
  have b1 := H.bd 1 (by decide)
  have q1 := qq_I k
  have hi : i < 6 := by omega
  have hd : d = dg (pl i) := by rcases hde with ⟨rfl, h, _⟩ | ⟨rfl, h, _⟩ <;> exact h
  have bi := H.bd i hi
  by_cases qa : dg (pl 0) < 0 ∨ dg (pl 1) < 0
  · refine wl_al hK rfl rfl ?_
    refine wl_ic hK rfl ?_
    refine wl_ic hK rfl ?_
    refine wl_cv [(1, 0), (0, 0), (0, 1)] hK rfl rfl rfl rfl (Or.inr ⟨_, _, _, rfl, by decide, by decide, rfl⟩) (Or.inl rfl) hc (ey_like H 0 (by decide) (pl 0) rfl 1 (by decide) (pl 1) rfl qa) (fun v1 M1 e1 H1 => (?_ : WL 24 445 [(1, -2), (1, 0), (0, f), (0, (qq k : Int)), (0, kk), (0, c), (0, (i : Int)), (0, d), (0, e), (0, s), x10, x11, x12, x13] [(0, v1)] M1 cc ss))
    refine wl_is [(1, -2), (1, 0), (0, f), (0, (qq k : Int)), (0, kk), (0, c), (0, (i : Int)), (0, d), (0, e), (0, s), (0, v1), x11, x12, x13] hK rfl rfl rfl ?_
    refine wl_al hK rfl rfl ?_
    refine wl_ic hK rfl ?_
    refine wl_ic hK rfl ?_
    refine wl_cv [(1, 0), (0, 1), (0, 0)] hK rfl rfl rfl rfl (Or.inr ⟨_, _, _, rfl, by decide, by decide, rfl⟩) (Or.inl rfl) hc (ey_like H1 1 (by decide) (pl 1) rfl 0 (by decide) (pl 0) rfl qa.symm) (fun v2 M2 e2 H2 => (?_ : WL 24 450 [(1, -2), (1, 0), (0, f), (0, (qq k : Int)), (0, kk), (0, c), (0, (i : Int)), (0, d), (0, e), (0, s), (0, v1), x11, x12, x13] [(0, v2)] M2 cc ss))
    refine wl_is [(1, -2), (1, 0), (0, f), (0, (qq k : Int)), (0, kk), (0, c), (0, (i : Int)), (0, d), (0, e), (0, s), (0, v1), (0, v2), x12, x13] hK rfl rfl rfl ?_
    refine wl_il hK rfl rfl ?_
    refine wl_il hK rfl rfl ?_
    refine wl_ne2 hK rfl (by omega) (by omega) (by omega) (by omega) (fun h3 => ?_) (fun h3 => ?_)
    · exfalso
      omega
    · refine wl_il hK rfl rfl ?_
      refine wl_lt hK rfl (by omega) (by omega) (fun h4 => ?_) (fun h4 => ?_)
      · refine wl_il hK rfl rfl ?_
        refine wl_ic hK rfl ?_
        refine wl_ne2 hK rfl (by omega) (by omega) (by omega) (by omega) (fun h5 => ?_) (fun h5 => ?_)
        · exact next M2 _ _ _ _ _ _ _ H2 rfl rfl
        · refine wl_il hK rfl rfl ?_
          refine wl_ic hK rfl ?_
          refine wl_ne2 hK rfl (by omega) (by omega) (by omega) (by omega) (fun h6 => ?_) (fun h6 => ?_)
          · exact next M2 _ _ _ _ _ _ _ H2 rfl rfl
          · refine wl_al hK rfl rfl ?_
            refine wl_ic hK rfl ?_
            refine wl_cv [(1, 0), (0, 0)] hK rfl rfl rfl rfl (Or.inr ⟨_, _, _, rfl, by decide, by decide, rfl⟩) (Or.inl rfl) hc (eo_likes1 H2 0 (by decide) (pl 0) rfl (by omega)) (fun v7 M7 e7 H7 => (?_ : WL 24 468 [(1, -2), (1, 0), (0, f), (0, (qq k : Int)), (0, kk), (0, c), (0, (i : Int)), (0, d), (0, e), (0, s), (0, v1), (0, v2), x12, x13] [(0, v7)] M7 cc ss))
            have g7 := likes_pos (pl 0)
            rw [← e7] at g7
            refine wl_ic hK rfl ?_
            refine wl_ge2 hK rfl (by omega) (by omega) (by omega) (by omega) (fun h8 => ?_) (fun h8 => ?_)
            · exact next M7 _ _ _ _ _ _ _ H7 rfl rfl
            · exfalso
              omega
      · exfalso
        omega
  · by_cases qb : dg (pl 0) ≠ dg (pl 1) ∨ dg (pl 0) = 0
    · refine wl_al hK rfl rfl ?_
      refine wl_ic hK rfl ?_
      refine wl_ic hK rfl ?_
      refine wl_cv [(1, 0), (0, 0), (0, 1)] hK rfl rfl rfl rfl (Or.inr ⟨_, _, _, rfl, by decide, by decide, rfl⟩) (Or.inl rfl) hc (ex_like H 0 (by decide) (pl 0) rfl 1 (by decide) (pl 1) rfl (by omega) (by omega) (by omega) (by omega) qb) (fun v1 M1 e1 H1 => (?_ : WL 24 445 [(1, -2), (1, 0), (0, f), (0, (qq k : Int)), (0, kk), (0, c), (0, (i : Int)), (0, d), (0, e), (0, s), x10, x11, x12, x13] [(0, v1)] M1 cc ss))
      refine wl_is [(1, -2), (1, 0), (0, f), (0, (qq k : Int)), (0, kk), (0, c), (0, (i : Int)), (0, d), (0, e), (0, s), (0, v1), x11, x12, x13] hK rfl rfl rfl ?_
      refine wl_al hK rfl rfl ?_
      refine wl_ic hK rfl ?_
      refine wl_ic hK rfl ?_
      refine wl_cv [(1, 0), (0, 1), (0, 0)] hK rfl rfl rfl rfl (Or.inr ⟨_, _, _, rfl, by decide, by decide, rfl⟩) (Or.inl rfl) hc (ex_like H1 1 (by decide) (pl 1) rfl 0 (by decide) (pl 0) rfl (by omega) (by omega) (by omega) (by omega) (by omega)) (fun v2 M2 e2 H2 => (?_ : WL 24 450 [(1, -2), (1, 0), (0, f), (0, (qq k : Int)), (0, kk), (0, c), (0, (i : Int)), (0, d), (0, e), (0, s), (0, v1), x11, x12, x13] [(0, v2)] M2 cc ss))
      refine wl_is [(1, -2), (1, 0), (0, f), (0, (qq k : Int)), (0, kk), (0, c), (0, (i : Int)), (0, d), (0, e), (0, s), (0, v1), (0, v2), x12, x13] hK rfl rfl rfl ?_
      refine wl_il hK rfl rfl ?_
      refine wl_il hK rfl rfl ?_
      refine wl_ne2 hK rfl (by omega) (by omega) (by omega) (by omega) (fun h3 => ?_) (fun h3 => ?_)
      · exfalso
        omega
      · refine wl_il hK rfl rfl ?_
        refine wl_lt hK rfl (by omega) (by omega) (fun h4 => ?_) (fun h4 => ?_)
        · refine wl_il hK rfl rfl ?_
          refine wl_ic hK rfl ?_
          refine wl_ne2 hK rfl (by omega) (by omega) (by omega) (by omega) (fun h5 => ?_) (fun h5 => ?_)
          · exact next M2 _ _ _ _ _ _ _ H2 rfl rfl
          · refine wl_il hK rfl rfl ?_
            refine wl_ic hK rfl ?_
            refine wl_ne2 hK rfl (by omega) (by omega) (by omega) (by omega) (fun h6 => ?_) (fun h6 => ?_)
            · exact next M2 _ _ _ _ _ _ _ H2 rfl rfl
            · refine wl_al hK rfl rfl ?_
              refine wl_ic hK rfl ?_
              refine wl_cv [(1, 0), (0, 0)] hK rfl rfl rfl rfl (Or.inr ⟨_, _, _, rfl, by decide, by decide, rfl⟩) (Or.inl rfl) hc (eo_likes1 H2 0 (by decide) (pl 0) rfl (by omega)) (fun v7 M7 e7 H7 => (?_ : WL 24 468 [(1, -2), (1, 0), (0, f), (0, (qq k : Int)), (0, kk), (0, c), (0, (i : Int)), (0, d), (0, e), (0, s), (0, v1), (0, v2), x12, x13] [(0, v7)] M7 cc ss))
              have g7 := likes_pos (pl 0)
              rw [← e7] at g7
              refine wl_ic hK rfl ?_
              refine wl_ge2 hK rfl (by omega) (by omega) (by omega) (by omega) (fun h8 => ?_) (fun h8 => ?_)
              · exact next M7 _ _ _ _ _ _ _ H7 rfl rfl
              · exfalso
                omega
        · exfalso
          omega
    · obtain ⟨n0, hn0⟩ : ∃ n0 : Nat, dg (pl 0) = (n0 : Int) := ⟨(dg (pl 0)).toNat, by omega⟩
      have hn1 : dg (pl 1) = (n0 : Int) := by omega
      have iA : IsDg (pl 0) (n0 : Int) := by rw [← hn0]; exact dg_is (b0.mono (by decide))
      have iB : IsDg (pl 1) (n0 : Int) := by rw [← hn1]; exact dg_is (b1.mono (by decide))
      refine wl_al hK rfl rfl ?_
      refine wl_ic hK rfl ?_
      refine wl_ic hK rfl ?_
      refine wl_ce [(1, 0), (0, 0), (0, 1)] hK rfl rfl rfl rfl (Or.inr ⟨_, _, _, rfl, by decide, by decide, rfl⟩) (Or.inl rfl) hc (e_like H 0 (by decide) 1 (by decide) n0 hn0 hn1 (by omega) (by omega)) (fun v1 M1 H1 => (?_ : WL 24 445 [(1, -2), (1, 0), (0, f), (0, (qq k : Int)), (0, kk), (0, c), (0, (i : Int)), (0, d), (0, e), (0, s), x10, x11, x12, x13] [(0, v1)] M1 cc ss))
      obtain ⟨hl1, rc1, rw1, Hx1⟩ := H1
      have g1 : v1 = 0 ∨ v1 = 1 := by rcases hl1 with q | q <;> omega
      refine wl_is [(1, -2), (1, 0), (0, f), (0, (qq k : Int)), (0, kk), (0, c), (0, (i : Int)), (0, d), (0, e), (0, s), (0, v1), x11, x12, x13] hK rfl rfl rfl ?_
      refine wl_al hK rfl rfl ?_
      refine wl_ic hK rfl ?_
      refine wl_ic hK rfl ?_
      refine wl_ce [(1, 0), (0, 1), (0, 0)] hK rfl rfl rfl rfl (Or.inr ⟨_, _, _, rfl, by decide, by decide, rfl⟩) (Or.inl rfl) hc (e_like Hx1 1 (by decide) 0 (by decide) n0 hn1 hn0 (by omega) (by omega)) (fun v2 M2 H2 => (?_ : WL 24 450 [(1, -2), (1, 0), (0, f), (0, (qq k : Int)), (0, kk), (0, c), (0, (i : Int)), (0, d), (0, e), (0, s), (0, v1), x11, x12, x13] [(0, v2)] M2 cc ss))
      obtain ⟨hl2, rc2, rw2, Hx2⟩ := H2
      have g2 : v2 = 0 ∨ v2 = 1 := by rcases hl2 with q | q <;> omega
      have gs : v1 = v2 := by
        rcases hl1 with q | q
        · rcases hl2 with q2 | q2
          · omega
          · exact absurd (q.2.sym iA iB) q2.2
        · rcases hl2 with q2 | q2
          · exact absurd (q2.2.sym iB iA) q.2
          · omega
      refine wl_is [(1, -2), (1, 0), (0, f), (0, (qq k : Int)), (0, kk), (0, c), (0, (i : Int)), (0, d), (0, e), (0, s), (0, v1), (0, v2), x12, x13] hK rfl rfl rfl ?_
      refine wl_il hK rfl rfl ?_
      refine wl_il hK rfl rfl ?_
      refine wl_ne2 hK rfl (by omega) (by omega) (by omega) (by omega) (fun h3 => ?_) (fun h3 => ?_)
      · exfalso
        omega
      · refine wl_il hK rfl rfl ?_
        refine wl_lt hK rfl (by omega) (by omega) (fun h4 => ?_) (fun h4 => ?_)
        · exfalso
          omega
        · refine wl_il hK rfl rfl ?_
          refine wl_il hK rfl rfl ?_
          refine wl_ne2 hK rfl (by omega) (by omega) (by omega) (by omega) (fun h5 => ?_) (fun h5 => ?_)
          · exfalso
            omega
          · refine wl_il hK rfl rfl ?_
            refine wl_ic hK rfl ?_
            refine wl_ne2 hK rfl (by omega) (by omega) (by omega) (by omega) (fun h6 => ?_) (fun h6 => ?_)
            · exact next M2 _ _ _ _ _ _ _ Hx2 rfl rfl
            · refine wl_il hK rfl rfl ?_
              refine wl_ic hK rfl ?_
              refine wl_ne2 hK rfl (by omega) (by omega) (by omega) (by omega) (fun h7 => ?_) (fun h7 => ?_)
              · exact next M2 _ _ _ _ _ _ _ Hx2 rfl rfl
              · refine wl_al hK rfl rfl ?_
                refine wl_ic hK rfl ?_
                refine wl_cv [(1, 0), (0, 0)] hK rfl rfl rfl rfl (Or.inr ⟨_, _, _, rfl, by decide, by decide, rfl⟩) (Or.inl rfl) hc (eo_likes1 Hx2 0 (by decide) (pl 0) rfl (by omega)) (fun v8 M8 e8 H8 => (?_ : WL 24 468 [(1, -2), (1, 0), (0, f), (0, (qq k : Int)), (0, kk), (0, c), (0, (i : Int)), (0, d), (0, e), (0, s), (0, v1), (0, v2), x12, x13] [(0, v8)] M8 cc ss))
                have g8 := likes_pos (pl 0)
                rw [← e8] at g8
                refine wl_ic hK rfl ?_
                refine wl_ge2 hK rfl (by omega) (by omega) (by omega) (by omega) (fun h9 => ?_) (fun h9 => ?_)
                · exact next M8 _ _ _ _ _ _ _ H8 rfl rfl
                · exfalso
                  omega
