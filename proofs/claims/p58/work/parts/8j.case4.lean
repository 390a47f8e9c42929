/-! bounds and parts -/
theorem bnd_le {k n e0 : Nat} {A : Pl k} (hA : IsDg A (n : Int)) (hs : ∃ (ρ : Nat → Pl k) (w : Nat → Nat → Nat) (pv : Nat → Nat), SPp n (fun t_ : Nat => stN A (t_ * mm k)) e0 e0 ρ w pv (fun r => r)) : e0 ≤ n := by
  refine Nat.not_lt.mp (fun hlt => ?_)
  obtain ⟨ρ, w, pv, hS⟩ := hs
  have hm := mm_pos k
  have hp := pp_ge k
  obtain ⟨e, z, h1, h2, h3, h4, h5⟩ := cen_all hA
  have h3d : IsDg z ((e * mm k : Nat) : Int) := h3.1
  have hv : ∀ j : Nat, (if j < e0 then (z (j * mm k)).val else 0) < pp k := fun j => by
    split
    · exact h4 _
    · omega
  have hz : lcb (fun j => if j < e0 then (z (j * mm k)).val else 0) (fun j => mono (e1 : El k) (j * mm k)) e0 = z := by
    funext l
    rw [lcb_tp]
    have dm := Nat.div_add_mod l (mm k)
    by_cases q : l % mm k = 0 ∧ l / mm k < e0
    · rw [if_pos q]
      rw [q.1, Nat.add_zero, Nat.mul_comm] at dm
      rw [if_pos q.2, dm, el_val]
    · rw [if_neg q]
      by_cases q2 : l % mm k = 0
      · have q3 : e0 ≤ l / mm k := by omega
        have q4 : e0 * mm k ≤ l / mm k * mm k := Nat.mul_le_mul_right _ q3
        have q5 : (e + 1) * mm k ≤ e0 * mm k := Nat.mul_le_mul_right _ (by omega)
        rw [Nat.add_mul, Nat.one_mul] at q5
        rw [q2, Nat.add_zero, Nat.mul_comm] at dm
        exact (h3d.2.1 l (by omega)).symm
      · exact (h2 l q2).symm
  have h0 := lcb_st hA hv e0
  rw [hz, h5.lf hA] at h0
  have w0 := ech_ind hS hv (fun j hj => ⟨j, by
    rcases Nat.lt_or_ge j e0 with q | q
    · exact q
    · exact absurd (if_neg (by omega)) hj, rfl⟩) h0 e
  rw [if_pos (by omega), h3.2, e1_val] at w0
  omega
theorem cn_comm {k : Nat} {f : Pl k} (hf : IsCn f) (g : Pl k) : mlp f g = mlp g f := by
  funext n
  refine sm_rev (h := fun i => ml (f i) (sg i (g (n - i)))) (g := fun i => ml (g i) (sg i (f (n - i)))) (fun i hi => ?_)
  show ml (f i) (sg i (g (n - i))) = ml (g (n - i)) (sg (n - i) (f (n - (n - i))))
  rw [show n - (n - i) = i by omega]
  by_cases a : f i = z0
  · rw [a, zero_ml, sg_z, ml_zero]
  · obtain ⟨h1, h2⟩ := hf i a
    have h3 := sg_pp (k := k) (n - i) h1
    rw [el_val] at h3
    rw [h3, sg_m0 h2, ml_comm]
theorem cn_dvs {k : Nat} {s : Int} {f x : Pl k} (hf : IsCn f) (h : Dvs 0 f x) : Dvs s f x := by
  obtain ⟨q, m, hq, e⟩ := h
  have e2 : x = mlp q f := e
  refine ⟨q, m, hq, ?_⟩
  unfold prd
  split
  · exact e2
  · rw [cn_comm hf]; exact e2
theorem cnp_at {k e c : Nat} : cnp (k := k) e c (e * mm k) = e1 := if_pos rfl
theorem cnp_is {k e c : Nat} : IsDg (cnp (k := k) e c) ((e * mm k : Nat) : Int) := ⟨by omega, fun j hj => cnp_bd j (by omega), fun _ => by
  rw [Int.toNat_natCast, cnp_at]
  exact e1_ne⟩
theorem cnp_cn {k e c : Nat} : IsCn (cnp (k := k) e c) := fun j hj => by
  have hp := pp_ge k
  change (if j = e * mm k then e1 else if j % mm k = 0 ∧ j < e * mm k then el k (dgn (pp k) c (j / mm k)) else z0) ≠ z0 at hj
  show (if j = e * mm k then e1 else if j % mm k = 0 ∧ j < e * mm k then el k (dgn (pp k) c (j / mm k)) else z0).val < pp k ∧ j % mm k = 0
  split at hj
  · rename_i h
    rw [if_pos h, e1_val]
    exact ⟨by omega, by rw [h]; exact Nat.mul_mod_left _ _⟩
  · rename_i h
    rw [if_neg h]
    split at hj
    · rename_i h2
      rw [if_pos h2]
      have h3 := dgn_lt (pp_ge k) c (j / mm k)
      have h4 : (el k (dgn (pp k) c (j / mm k))).val = dgn (pp k) c (j / mm k) % qq k := rfl
      have h5 := Nat.mod_le (dgn (pp k) c (j / mm k)) (qq k)
      exact ⟨by omega, h2.1⟩
    · exact absurd rfl hj
theorem one_cn {k : Nat} : IsCn (one : Pl k) := fun j hj => by
  have hp := pp_ge k
  have h0 : j = 0 := Classical.byContradiction fun h => hj (by show mono e1 0 j = z0; rw [mono_at, if_neg h])
  subst h0
  refine ⟨?_, Nat.zero_mod _⟩
  show (e1 : El k).val < pp k
  rw [e1_val]
  omega
theorem gp_ok {k n : Nat} {x : Pl k} (hx : IsDg x (n : Int)) (hb : Bd x 9) : ∀ d : Nat, d * mm k ≤ n → (∃ e : Nat, IsDg (gpD x d) (e : Int) ∧ e ≤ n) ∧ IsCn (gpD x d) ∧ Dvs 0 (gpD x d) x
  | 0, _ => ⟨⟨0, one_dg, by omega⟩, one_cn, ⟨x, 9, hb, (prd_one2 0 x).symm⟩⟩
  | d + 1, h => by
    have ih := gp_ok hx hb d (by rw [Nat.add_mul] at h; omega)
    unfold gpD
    split
    · rename_i q
      have hs : dr 0 x (cnp (d + 1) (fsN (fun c => dr 0 x (cnp (d + 1) c) = pz) (pp k ^ (d + 1)))) = pz := by
        rcases fsN_spec (q := fun c => dr 0 x (cnp (d + 1) c) = pz) (n := pp k ^ (d + 1)) with h2 | h2
        · exact h2.2.1
        · rw [h2.1] at q
          omega
      exact ⟨⟨_, cnp_is, h⟩, cnp_cn, dr_dvs hb cnp_is hs⟩
    · exact ih
section WLE
variable {d i pc len c' cc ss : Nat} {a b' : Int} {L L' st : List AV} {M : Mem} {K : List Rw} {x y p j v : Int}
theorem wl_ce {u tg : Nat} {st' : List AV} {Q : Int → Mem → Prop} (as : List AV) (hK : cd 307 = K) (hc : K[i]? = some (pc, len, 54, a, b', c')) (hu : a.toNat = u)
    (hst : st = as.reverse ++ st') (hn : (decide (as.length = nArg u) && decide (catS st' ≤ 8) && decide ((spread as).length ≤ lOf u) && decide (cOf u = (0, 0))) = true)
    (hr : sOf u = 1 ∨ ∃ p as' rs, as = (1, p) :: as' ∧ 0 ≤ p ∧ p.toNat < 198 ∧ S0[p.toNat]? = some (0, kOf u, rs)) (ht : tg = 0 ∨ tg = 2) (hcs : cc ≤ (cOf 307).1 ∧ ss ≤ (cOf 307).2)
    (hC : Ct 198 d u as M (fun r M' => ∃ v : Int, r = (tg, v) ∧ Q v M')) (h : ∀ (v : Int) (M' : Mem), Q v M' → WL (d + 1) (i + 1) L ((tg, v) :: st') M' cc ss) : WL (d + 1) i L st M cc ss :=
  wl_call as hK hc hu hst hn hr hcs hC (fun r M' hr => by
    obtain ⟨v, e, q⟩ := hr
    refine ⟨by rw [e]; dsimp only; omega, ?_⟩
    have e2 : pushR r st' = (tg, v) :: st' := by
      rw [e]
      rcases ht with rfl | rfl <;> rfl
    rw [e2]
    exact h v M' q)
end WLE
theorem e_bound {X : Int → Int} {M : Mem} {k : Nat} {pl : Nat → Pl k} {rc : Nat} {rw_ : Int → Int} (H : LZ X M k pl rc rw_) (i : Nat) (hi : i < 6) (n0 : Nat) (hn0 : dg (pl i) = (n0 : Int)) (n8 : n0 ≤ 8) : Ct 198 23 181 [(1, 0), (0, (i : Int))] M (fun r M' => ∃ v : Int, r = (0, v) ∧ ∃ e0 : Nat, v = (e0 : Int) ∧ e0 ≤ n0 ∧ ∃ rw' : Int → Int, LZ X M' k pl (e0 + 1) rw' ∧ rw' (e0 : Int) = 1) := by
  have hb := H.bd i hi
  have hA : IsDg (pl i) (n0 : Int) := by rw [← hn0]; exact dg_is (hb.mono (by decide))
  obtain ⟨⟨tx, fc, fa, H⟩, hX⟩ := H
  refine (o_bound (d := 15) H i hi n0 hn0 n8 (hex_all hA n8)).imp (fun r M' h => ?_)
  obtain ⟨e0, u0, ⟨_, hr, hs⟩, h1, h2, h3⟩ := h
  refine ⟨(e0 : Int), h1, e0, rfl, bnd_le hA hs, _, ⟨⟨_, _, _, h2⟩, (h3 (-2) (Or.inl (by decide))).trans hX⟩, ?_⟩
  rw [stw_at (by omega), hr.2.1]
  rfl
set_option maxRecDepth 100000 in
theorem lk_4 {X : Int → Int} {M : Mem} {k : Nat} (hk : k < 4) {pl : Nat → Pl k} {rc : Nat} {rw_ : Int → Int} (H : LZ X M k pl rc rw_) {f kk c d e s : Int} {i : Nat} (hs : s = 0 ∨ s = 1) (hde : (i = 0 ∧ d = dg (pl 0) ∧ e = dg (pl 1)) ∨ (i = 1 ∧ d = dg (pl 1) ∧ e = dg (pl 0))) (dd_ : -1 ≤ dg (pl 0) ∧ dg (pl 0) ≤ 3) (ee_ : -1 ≤ dg (pl 1) ∧ dg (pl 1) ≤ 3) {x10 x11 x12 x13 : AV} {cc ss : Nat} (hc : cc ≤ (cOf 307).1 ∧ ss ≤ (cOf 307).2) (next : ∀ (M' : Mem) (pl' : Nat → Pl k) (rc' : Nat) (rw' : Int → Int) (y10 y11 y12 y13 : AV), LZ X M' k pl' rc' rw' → pl' 0 = pl 0 → pl' 1 = pl 1 → WL 24 588 [(1, -2), (1, 0), (0, f), (0, (qq k : Int)), (0, kk), (0, c), (0, (i : Int)), (0, d), (0, e), (0, s), y10, y11, y12, y13] [] M' cc ss) : WL 24 388 [(1, -2), (1, 0), (0, f), (0, (qq k : Int)), (0, kk), (0, c), (0, (i : Int)), (0, d), (0, e), (0, s), x10, x11, x12, x13] [] M cc ss := by
  have hK : cd 307 = k307 := rfl
  have b0 := H.bd 0 (by decide)
  have b1 := H.bd 1 (by decide)
  have q1 := qq_I k
  have hi : i < 6 := by omega
  have hd : d = dg (pl i) := by rcases hde with ⟨rfl, h, _⟩ | ⟨rfl, h, _⟩ <;> exact h
  have bi := H.bd i hi
  rcases Int.lt_or_le (dg (pl i)) 0 with q0 | q0
  · refine wl_al hK rfl rfl ?_
    refine wl_il hK rfl rfl ?_
    refine wl_cv [(1, 0), (0, (i : Int))] hK rfl rfl rfl rfl (Or.inr ⟨_, _, _, rfl, by decide, by decide, rfl⟩) (Or.inl rfl) hc (ey_bound H i hi (pl i) rfl q0) (fun v1 M1 e1 H1 => (?_ : WL 24 391 [(1, -2), (1, 0), (0, f), (0, (qq k : Int)), (0, kk), (0, c), (0, (i : Int)), (0, d), (0, e), (0, s), x10, x11, x12, x13] [(0, v1)] M1 cc ss))
    refine wl_is [(1, -2), (1, 0), (0, f), (0, (qq k : Int)), (0, kk), (0, c), (0, (i : Int)), (0, d), (0, e), (0, s), (0, v1), x11, x12, x13] hK rfl rfl rfl ?_
    refine wl_il hK rfl rfl ?_
    refine wl_il hK rfl rfl ?_
    refine wl_ge hK rfl (by omega) (by omega) (fun h2 => ?_) (fun h2 => ?_)
    · exfalso
      omega
    · refine wl_ic hK rfl ?_
      refine wl_goto hK rfl ?_
      refine wl_ne2 hK rfl (by omega) (by omega) (by omega) (by omega) (fun h3 => ?_) (fun h3 => ?_)
      · exfalso
        omega
      · refine wl_il hK rfl rfl ?_
        refine wl_lt hK rfl (by omega) (by omega) (fun h4 => ?_) (fun h4 => ?_)
        · refine wl_al hK rfl rfl ?_
          refine wl_il hK rfl rfl ?_
          refine wl_ic hK rfl ?_
          refine wl_cv [(1, 0), (0, (i : Int)), (0, 2)] hK rfl rfl rfl rfl (Or.inr ⟨_, _, _, rfl, by decide, by decide, rfl⟩) (Or.inl rfl) hc (ey_part H1 i hi (pl i) rfl 2 (by decide) q0) (fun v5 M5 e5 H5 => (?_ : WL 24 418 [(1, -2), (1, 0), (0, f), (0, (qq k : Int)), (0, kk), (0, c), (0, (i : Int)), (0, d), (0, e), (0, s), (0, v1), x11, x12, x13] [(0, v5)] M5 cc ss))
          refine wl_is [(1, -2), (1, 0), (0, f), (0, (qq k : Int)), (0, kk), (0, c), (0, (i : Int)), (0, d), (0, e), (0, s), (0, v1), (0, v5), x12, x13] hK rfl rfl rfl ?_
          refine wl_il hK rfl rfl ?_
          refine wl_lt hK rfl (by omega) (by omega) (fun h6 => ?_) (fun h6 => ?_)
          · exact next M5 _ _ _ _ _ _ _ H5 rfl rfl
          · exfalso
            omega
        · exfalso
          omega
  · obtain ⟨r, hr⟩ : ∃ r : Nat, (r : Int) = d := ⟨d.toNat, by omega⟩
    have hI : IsDg (pl i) (r : Int) := by
      rw [hr, hd]
      exact dg_is (bi.mono (by decide))
    have hG : (dg (pl i) / (mm k : Int)).toNat * mm k ≤ r := by
      have m1 := mm_pos k
      have h1 : dg (pl i) / (mm k : Int) * (mm k : Int) ≤ dg (pl i) := Int.ediv_mul_le _ (by omega)
      have h2 : 0 ≤ dg (pl i) / (mm k : Int) := Int.ediv_nonneg q0 (by omega)
      have h3 : (((dg (pl i) / (mm k : Int)).toNat * mm k : Nat) : Int) = dg (pl i) / (mm k : Int) * (mm k : Int) := by
        rw [Int.natCast_mul, Int.toNat_of_nonneg h2]
      omega
    obtain ⟨⟨g, hg1, hg2⟩, hg3, hg4⟩ := gp_ok hI bi _ hG
    have hgd : dg (gpD (pl i) (dg (pl i) / (mm k : Int)).toNat) = (g : Int) := dg_eq17 ((Bd_is hg1).mono (by omega)) hg1
    refine wl_al hK rfl rfl ?_
    refine wl_il hK rfl rfl ?_
    refine wl_ce [(1, 0), (0, (i : Int))] hK rfl rfl rfl rfl (Or.inr ⟨_, _, _, rfl, by decide, by decide, rfl⟩) (Or.inl rfl) hc (e_bound H i hi r (by omega) (by omega)) (fun v1 M1 H1 => (?_ : WL 24 391 [(1, -2), (1, 0), (0, f), (0, (qq k : Int)), (0, kk), (0, c), (0, (i : Int)), (0, d), (0, e), (0, s), x10, x11, x12, x13] [(0, v1)] M1 cc ss))
    obtain ⟨b0, rfl, hb1, rwb, Hb, hb2⟩ := H1
    refine wl_is [(1, -2), (1, 0), (0, f), (0, (qq k : Int)), (0, kk), (0, c), (0, (i : Int)), (0, d), (0, e), (0, s), (0, (b0 : Int)), x11, x12, x13] hK rfl rfl rfl ?_
    refine wl_il hK rfl rfl ?_
    refine wl_il hK rfl rfl ?_
    refine wl_ge hK rfl (by omega) (by omega) (fun h2 => ?_) (fun h2 => ?_)
    · refine wl_il hK rfl rfl ?_
      refine wl_ne2 hK rfl (by omega) (by omega) (by omega) (by omega) (fun h3 => ?_) (fun h3 => ?_)
      · exfalso
        omega
      · refine wl_il hK rfl rfl ?_
        refine wl_lt hK rfl (by omega) (by omega) (fun h4 => ?_) (fun h4 => ?_)
        · exfalso
          omega
        · refine wl_il hK rfl rfl ?_
          refine wl_lt hK rfl (by omega) (by omega) (fun h5 => ?_) (fun h5 => ?_)
          · exfalso
            omega
          · refine wl_il hK rfl rfl ?_
            refine wl_il hK rfl rfl ?_
            refine wl_gt2 hK rfl (by omega) (by omega) (by omega) (by omega) (fun h6 => ?_) (fun h6 => ?_)
            · exfalso
              omega
            · refine wl_al hK rfl rfl ?_
              refine wl_il hK rfl rfl ?_
              refine wl_cv [(1, 0), (0, (b0 : Int))] hK rfl rfl rfl rfl (Or.inr ⟨_, _, _, rfl, by decide, by decide, rfl⟩) (Or.inr rfl) hc (eo_row Hb b0 (by omega)) (fun v7 M7 e7 H7 => (?_ : WL 24 409 [(1, -2), (1, 0), (0, f), (0, (qq k : Int)), (0, kk), (0, c), (0, (i : Int)), (0, d), (0, e), (0, s), (0, (b0 : Int)), x11, x12, x13] [(2, v7)] M7 cc ss))
              have g7 := e7.trans hb2
              refine wl_lc hK rfl ?_
              refine wl_lcmp hK rfl ?_
              rw [show (lg_cmp (i64 v7) (i64 1)).toInt = 0 from (congrArg (fun z : Int => (lg_cmp (i64 z) (i64 1)).toInt) (show (v7 : Int) = 1 by omega)).trans (lcmp_self _)]
              refine wl_eq hK rfl (by omega) (by omega) (fun h8 => ?_) (fun h8 => ?_)
              · refine wl_al hK rfl rfl ?_
                refine wl_il hK rfl rfl ?_
                refine wl_ic hK rfl ?_
                refine wl_cv [(1, 0), (0, (i : Int)), (0, 2)] hK rfl rfl rfl rfl (Or.inr ⟨_, _, _, rfl, by decide, by decide, rfl⟩) (Or.inl rfl) hc (eo_part H7 i hi (pl i) rfl 2 (by decide) q0 (by omega)) (fun v9 M9 e9 H9 => (?_ : WL 24 418 [(1, -2), (1, 0), (0, f), (0, (qq k : Int)), (0, kk), (0, c), (0, (i : Int)), (0, d), (0, e), (0, s), (0, (b0 : Int)), x11, x12, x13] [(0, v9)] M9 cc ss))
                have g9 := e9.trans hgd
                refine wl_is [(1, -2), (1, 0), (0, f), (0, (qq k : Int)), (0, kk), (0, c), (0, (i : Int)), (0, d), (0, e), (0, s), (0, (b0 : Int)), (0, v9), x12, x13] hK rfl rfl rfl ?_
                refine wl_il hK rfl rfl ?_
                refine wl_lt hK rfl (by omega) (by omega) (fun h10 => ?_) (fun h10 => ?_)
                · exfalso
                  omega
                · refine wl_il hK rfl rfl ?_
                  refine wl_lt hK rfl (by omega) (by omega) (fun h11 => ?_) (fun h11 => ?_)
                  · exfalso
                    omega
                  · refine wl_il hK rfl rfl ?_
                    refine wl_il hK rfl rfl ?_
                    refine wl_gt2 hK rfl (by omega) (by omega) (by omega) (by omega) (fun h12 => ?_) (fun h12 => ?_)
                    · exfalso
                      omega
                    · refine wl_al hK rfl rfl ?_
                      refine wl_ic hK rfl ?_
                      refine wl_cv [(1, 0), (0, 2)] hK rfl rfl rfl rfl (Or.inr ⟨_, _, _, rfl, by decide, by decide, rfl⟩) (Or.inl rfl) hc (eo_central H9 2 (by decide) (gpD (pl i) (dg (pl i) / (mm k : Int)).toNat) rfl) (fun v13 M13 e13 H13 => (?_ : WL 24 429 [(1, -2), (1, 0), (0, f), (0, (qq k : Int)), (0, kk), (0, c), (0, (i : Int)), (0, d), (0, e), (0, s), (0, (b0 : Int)), (0, v9), x12, x13] [(0, v13)] M13 cc ss))
                      have g13 : v13 = 1 := e13.trans (bz_pos hg3)
                      refine wl_ic hK rfl ?_
                      refine wl_ne2 hK rfl (by omega) (by omega) (by omega) (by omega) (fun h14 => ?_) (fun h14 => ?_)
                      · exfalso
                        omega
                      · refine wl_al hK rfl rfl ?_
                        refine wl_il hK rfl rfl ?_
                        refine wl_ic hK rfl ?_
                        refine wl_il hK rfl rfl ?_
                        refine wl_ic hK rfl ?_
                        refine wl_cv [(1, 0), (0, (i : Int)), (0, 2), (0, s), (0, 3)] hK rfl rfl rfl rfl (Or.inr ⟨_, _, _, rfl, by decide, by decide, rfl⟩) (Or.inl rfl) hc (eo_rem H13 i hi (pl i) (fup_ne (by omega)) 2 (by decide) (gpD (pl i) (dg (pl i) / (mm k : Int)).toNat) rfl 3 (by decide) s hs (by omega)) (fun v15 M15 e15 H15 => (?_ : WL 24 437 [(1, -2), (1, 0), (0, f), (0, (qq k : Int)), (0, kk), (0, c), (0, (i : Int)), (0, d), (0, e), (0, s), (0, (b0 : Int)), (0, v9), x12, x13] [(0, v15)] M15 cc ss))
                        have g15 : v15 = -1 := by rw [e15, show dr s (pl i) (gpD (pl i) (dg (pl i) / (mm k : Int)).toNat) = pz from Dvs.rem0 (cn_dvs hg3 hg4) hg1]; exact dg_pz
                        refine wl_ic hK rfl ?_
                        refine wl_eq2 hK rfl (by omega) (by omega) (by omega) (by omega) (fun h16 => ?_) (fun h16 => ?_)
                        · exact next M15 _ _ _ _ _ _ _ H15 rfl rfl
                        · exfalso
                          omega
              · exfalso
                omega
    · exfalso
      omega
