/-! the law: its loop -/
theorem ubs_S {k : Nat} (pl : Nat → Pl k) : ∀ n : Nat, n ≤ 16 → Sb (ubs pl n) (fun j => j < n ∧ 0 ≤ dg (pl j))
  | 0, _ => Sb.z.congr fun i => ⟨fun h => h.elim, fun h => absurd h.1 (by omega)⟩
  | n + 1, h => by
    have ih := ubs_S pl n (by omega)
    unfold ubs
    split
    · rename_i q
      exact (ih.set (by omega)).congr fun i => ⟨fun c => c.elim (fun c => ⟨by omega, c.2⟩) (fun c => ⟨by omega, by rw [c]; exact q⟩), fun c => by
        by_cases e : i = n
        · exact Or.inr e
        · exact Or.inl ⟨by omega, c.2⟩⟩
    · rename_i q
      exact ih.congr fun i => ⟨fun c => ⟨by omega, c.2⟩, fun c => ⟨by
        have : i ≠ n := fun e => q (by rw [← e]; exact c.2)
        omega, c.2⟩⟩
theorem e_tells {X : Int → Int} {M : Mem} {k : Nat} {pl : Nat → Pl k} {n : Int} {tx : Int → Int} {rc : Nat} {rw_ : Int → Int} {fc : Nat} {fa : Nat → Pl k} (H : CLS M k pl n tx rc rw_ fc fa) (hX : M (-2) = X) (i : Nat) (hi : i < 6) (hr : (rds (k := k) tx (qq k : Int) n 9 0 pz).1 < 0) (hb : Bd (rds (k := k) tx (qq k : Int) n 9 0 pz).2 4) : Ct 198 23 137 [(1, 0), (0, (i : Int))] M (fun r M' => ∃ v : Int, r = (0, v) ∧ ∃ f : Pl k, v = dg f ∧ Bd f 4 ∧ LZ X M' k (fup pl i f) rc rw_) :=
  (o_tells (d := 15) H i hi hr).imp (fun r M' h => ⟨_, h.1, _, rfl, hb, ⟨_, _, _, h.2.1⟩, (h.2.2 (-2) (Or.inl (by decide))).trans hX⟩)
set_option maxRecDepth 100000 in
theorem lw_tail {X : Int → Int} {M : Mem} {k : Nat} {pl : Nat → Pl k} {rc : Nat} {rw_ : Int → Int} (H : LZ X M k pl rc rw_) {f kk c d e s : Int} {i : Nat} (hi : i < 2) (hd : d = dg (pl i)) (he : e = dg (pl (1 - i))) (hkk : 1 ≤ kk ∧ kk ≤ 10) {x10 x11 x12 x13 : AV} {cc ss : Nat} (hc : cc ≤ (cOf 307).1 ∧ ss ≤ (cOf 307).2) (next : ∀ M' : Mem, LZ X M' k pl rc rw_ → WL 24 29 [(1, -2), (1, 0), (0, f), (0, (qq k : Int)), (0, (kk + 1)), (0, c), (0, (i : Int)), (0, d), (0, e), (0, s), x10, x11, x12, x13] [] M' cc ss) : WL 24 588 [(1, -2), (1, 0), (0, f), (0, (qq k : Int)), (0, kk), (0, c), (0, (i : Int)), (0, d), (0, e), (0, s), x10, x11, x12, x13] [] M cc ss := by
  have hK : cd 307 = k307 := rfl
  have di := H.dI i (by omega)
  have dj := H.dI (1 - i) (by omega)
  refine wl_al hK rfl rfl ?_
  refine wl_il hK rfl rfl ?_
  refine wl_cv [(1, 0), (0, (i : Int))] hK rfl rfl rfl rfl (Or.inr ⟨_, _, _, rfl, by decide, by decide, rfl⟩) (Or.inl rfl) hc (eo_degree H i (by omega) (pl i) rfl) (fun v1 M1 e1 H1 => (?_ : WL 24 591 [(1, -2), (1, 0), (0, f), (0, (qq k : Int)), (0, kk), (0, c), (0, (i : Int)), (0, d), (0, e), (0, s), x10, x11, x12, x13] [(0, v1)] M1 cc ss))
  refine wl_il hK rfl rfl ?_
  refine wl_ne2 hK rfl (by omega) (by omega) (by omega) (by omega) (fun h2 => ?_) (fun h2 => ?_)
  · exfalso
    omega
  · refine wl_al hK rfl rfl ?_
    refine wl_ic hK rfl ?_
    refine wl_il hK rfl rfl ?_
    refine wl_sub hK rfl (by omega) (by omega) ?_
    rw [show (1 - (i : Int)) = ((1 - i : Nat) : Int) by omega]
    refine wl_cv [(1, 0), (0, ((1 - i : Nat) : Int))] hK rfl rfl rfl rfl (Or.inr ⟨_, _, _, rfl, by decide, by decide, rfl⟩) (Or.inl rfl) hc (eo_degree H1 (1 - i) (by omega) (pl (1 - i)) rfl) (fun v3 M3 e3 H3 => (?_ : WL 24 598 [(1, -2), (1, 0), (0, f), (0, (qq k : Int)), (0, kk), (0, c), (0, (i : Int)), (0, d), (0, e), (0, s), x10, x11, x12, x13] [(0, v3)] M3 cc ss))
    refine wl_il hK rfl rfl ?_
    refine wl_eq2 hK rfl (by omega) (by omega) (by omega) (by omega) (fun h4 => ?_) (fun h4 => ?_)
    · refine wl_inc [(1, -2), (1, 0), (0, f), (0, (qq k : Int)), (0, (kk + 1)), (0, c), (0, (i : Int)), (0, d), (0, e), (0, s), x10, x11, x12, x13] hK rfl rfl rfl (by omega) (by omega) rfl ?_
      refine wl_goto hK rfl ?_
      exact next M3 H3
    · exfalso
      omega
set_option maxRecDepth 100000 in
theorem law_loop {X : Int → Int} (hX : ∀ j : Int, -2147483648 ≤ X j ∧ X j ≤ 2147483647) {k : Nat} (hk : k < 4) {f : Int} : ∀ (m : Nat) {M : Mem} {pl : Nat → Pl k} {rc : Nat} {rw_ : Int → Int} {kk : Int} {cc ss : Nat} {w5 w6 w7 w8 w9 w10 w11 w12 w13 : AV}, LZ X M k pl rc rw_ → (-1 ≤ dg (pl 0) ∧ dg (pl 0) ≤ 3) → (-1 ≤ dg (pl 1) ∧ dg (pl 1) ≤ 3) → kk + (m : Int) = 11 → 1 ≤ kk → cc + 14 * m ≤ (cOf 307).1 ∧ ss + 80 * m ≤ (cOf 307).2 → WL 24 29 [(1, -2), (1, 0), (0, f), (0, (qq k : Int)), (0, kk), w5, w6, w7, w8, w9, w10, w11, w12, w13] [] M cc ss
  | 0, M, pl, rc, rw_, kk, cc, ss, w5, w6, w7, w8, w9, w10, w11, w12, w13, H, dd_, ee_, hm, hk1, hcs => by
    have hK : cd 307 = k307 := rfl
    have hc : cc ≤ (cOf 307).1 ∧ ss ≤ (cOf 307).2 := ⟨by omega, by omega⟩
    refine wl_il hK rfl rfl ?_
    refine wl_ic hK rfl ?_
    refine wl_ge2 hK rfl (by omega) (by omega) (by omega) (by omega) (fun h1 => ?_) (fun h1 => ?_)
    · refine wl_ic hK rfl ?_
      exact wl_end hK rfl hc
    · exfalso
      omega
  | m + 1, M, pl, rc, rw_, kk, cc, ss, w5, w6, w7, w8, w9, w10, w11, w12, w13, H, dd_, ee_, hm, hk1, hcs => by
    have hK : cd 307 = k307 := rfl
    have ih := @law_loop X hX k hk f m
    have q1 := qq_I k
    have hc : cc ≤ (cOf 307).1 ∧ ss ≤ (cOf 307).2 := ⟨by omega, by omega⟩
    have hc2 : cc + 14 ≤ (cOf 307).1 ∧ ss + 80 ≤ (cOf 307).2 := ⟨by omega, by omega⟩
    refine wl_il hK rfl rfl ?_
    refine wl_ic hK rfl ?_
    refine wl_ge2 hK rfl (by omega) (by omega) (by omega) (by omega) (fun h1 => ?_) (fun h1 => ?_)
    · exfalso
      omega
    · refine wl_al hK rfl rfl ?_
      refine wl_il hK rfl rfl ?_
      refine wl_cv [(1, -2), (0, kk)] hK rfl rfl rfl rfl (Or.inl rfl) (Or.inl rfl) hc (c_cell H.2 hX kk (by omega) (by omega)) (fun v2 M2 e2 H2 => (?_ : WL 24 35 [(1, -2), (1, 0), (0, f), (0, (qq k : Int)), (0, kk), w5, w6, w7, w8, w9, w10, w11, w12, w13] [(0, v2)] M2 cc ss))
      subst M2
      have g2 : -2147483648 ≤ v2 ∧ v2 ≤ 2147483647 := by
        rw [e2]
        split
        · exact hX kk
        · decide
      refine wl_is [(1, -2), (1, 0), (0, f), (0, (qq k : Int)), (0, kk), (0, v2), w6, w7, w8, w9, w10, w11, w12, w13] hK rfl rfl rfl ?_
      refine wl_il hK rfl rfl ?_
      refine wl_ic hK rfl ?_
      refine wl_msk hK rfl (by omega) (by omega) (fun v3 e3 a3 b3 => (?_ : WL 24 39 [(1, -2), (1, 0), (0, f), (0, (qq k : Int)), (0, kk), (0, v2), w6, w7, w8, w9, w10, w11, w12, w13] [(0, v3)] M cc ss))
      obtain ⟨i, ei⟩ : ∃ i : Nat, (i : Int) = v3 := ⟨v3.toNat, by omega⟩
      rw [← ei]
      have hi : i < 2 := by omega
      refine wl_is [(1, -2), (1, 0), (0, f), (0, (qq k : Int)), (0, kk), (0, v2), (0, (i : Int)), w7, w8, w9, w10, w11, w12, w13] hK rfl rfl rfl ?_
      refine wl_al hK rfl rfl ?_
      refine wl_il hK rfl rfl ?_
      refine wl_il hK rfl rfl ?_
      refine wl_say hK rfl (by omega) ⟨by omega, by omega⟩ (e_say H v2) (fun M4 H4 => (?_ : WL 24 45 [(1, -2), (1, 0), (0, f), (0, (qq k : Int)), (0, kk), (0, v2), (0, (i : Int)), w7, w8, w9, w10, w11, w12, w13] [] M4 (cc + 14) (ss + 80)))
      obtain ⟨hX4, tn4, tx4, fc4, fa4, Hc4, hr4, hb4⟩ := H4
      refine wl_al hK rfl rfl ?_
      refine wl_il hK rfl rfl ?_
      refine wl_ce [(1, 0), (0, (i : Int))] hK rfl rfl rfl rfl (Or.inr ⟨_, _, _, rfl, by decide, by decide, rfl⟩) (Or.inl rfl) hc2 (e_tells Hc4 hX4 i (by omega) hr4 hb4) (fun v5 M5 H5 => (?_ : WL 24 48 [(1, -2), (1, 0), (0, f), (0, (qq k : Int)), (0, kk), (0, v2), (0, (i : Int)), w7, w8, w9, w10, w11, w12, w13] [(0, v5)] M5 (cc + 14) (ss + 80)))
      obtain ⟨ft, ed, bt, Ht⟩ := H5
      have gd := dg_lt bt (by decide)
      have gd0 := dg_ge ft
      have p0 : -1 ≤ dg (fup pl i ft 0) ∧ dg (fup pl i ft 0) ≤ 3 := by
        rcases (show i = 0 ∨ i = 1 by omega) with h | h
        · subst h
          show -1 ≤ dg ft ∧ dg ft ≤ 3
          omega
        · subst h
          exact dd_
      have p1 : -1 ≤ dg (fup pl i ft 1) ∧ dg (fup pl i ft 1) ≤ 3 := by
        rcases (show i = 0 ∨ i = 1 by omega) with h | h
        · subst h
          exact ee_
        · subst h
          show -1 ≤ dg ft ∧ dg ft ≤ 3
          omega
      have pj : -1 ≤ dg (pl (1 - i)) ∧ dg (pl (1 - i)) ≤ 3 := by
        rcases (show i = 0 ∨ i = 1 by omega) with h | h
        · subst h
          exact ee_
        · subst h
          exact dd_
      refine wl_is [(1, -2), (1, 0), (0, f), (0, (qq k : Int)), (0, kk), (0, v2), (0, (i : Int)), (0, v5), w8, w9, w10, w11, w12, w13] hK rfl rfl rfl ?_
      refine wl_il hK rfl rfl ?_
      refine wl_ic hK rfl ?_
      refine wl_lt2 hK rfl (by omega) (by omega) (by omega) (by omega) (fun h6 => ?_) (fun h6 => ?_)
      · exfalso
        omega
      · refine wl_il hK rfl rfl ?_
        refine wl_ic hK rfl ?_
        refine wl_gt2 hK rfl (by omega) (by omega) (by omega) (by omega) (fun h7 => ?_) (fun h7 => ?_)
        · exfalso
          omega
        · refine wl_al hK rfl rfl ?_
          refine wl_il hK rfl rfl ?_
          refine wl_cv [(1, 0), (0, (i : Int))] hK rfl rfl rfl rfl (Or.inr ⟨_, _, _, rfl, by decide, by decide, rfl⟩) (Or.inl rfl) hc2 (eo_degree Ht i (by omega) ft fup_eq) (fun v8 M8 e8 H8 => (?_ : WL 24 58 [(1, -2), (1, 0), (0, f), (0, (qq k : Int)), (0, kk), (0, v2), (0, (i : Int)), (0, v5), w8, w9, w10, w11, w12, w13] [(0, v8)] M8 (cc + 14) (ss + 80)))
          refine wl_il hK rfl rfl ?_
          refine wl_ne2 hK rfl (by omega) (by omega) (by omega) (by omega) (fun h9 => ?_) (fun h9 => ?_)
          · exfalso
            omega
          · refine wl_il hK rfl rfl ?_
            refine wl_lt hK rfl (by omega) (by omega) (fun h10 => ?_) (fun h10 => ?_)
            · refine wl_ic hK rfl ?_
              refine wl_al hK rfl rfl ?_
              refine wl_ic hK rfl ?_
              refine wl_cv [(1, 0), (0, 4)] hK rfl rfl rfl rfl (Or.inr ⟨_, _, _, rfl, by decide, by decide, rfl⟩) (Or.inl rfl) hc2 (eo_count4 H8) (fun v11 M11 e11 H11 => (?_ : WL 24 68 [(1, -2), (1, 0), (0, f), (0, (qq k : Int)), (0, kk), (0, v2), (0, (i : Int)), (0, v5), w8, w9, w10, w11, w12, w13] [(0, v11), (0, 0)] M11 (cc + 14) (ss + 80)))
              have i11 : -2147483648 ≤ v11 ∧ v11 ≤ 2147483647 := by rw [e11]; exact ubs_I _ 6
              refine wl_il hK rfl rfl ?_
              refine wl_any (w := i32 v11 >>> (i32 (i : Int) &&& 31)) hK rfl rfl rfl (fun v12 e12 a12 b12 => (?_ : WL 24 70 [(1, -2), (1, 0), (0, f), (0, (qq k : Int)), (0, kk), (0, v2), (0, (i : Int)), (0, v5), w8, w9, w10, w11, w12, w13] [(0, v12), (0, 0)] M11 (cc + 14) (ss + 80)))
              refine wl_ic hK rfl ?_
              refine wl_msk hK rfl (by omega) (by omega) (fun v13 e13 a13 b13 => (?_ : WL 24 72 [(1, -2), (1, 0), (0, f), (0, (qq k : Int)), (0, kk), (0, v2), (0, (i : Int)), (0, v5), w8, w9, w10, w11, w12, w13] [(0, v13), (0, 0)] M11 (cc + 14) (ss + 80)))
              have gb : v13 = 1 ↔ 0 ≤ v5 := by
                have h := (ubs_S (fup pl i ft) 6 (by decide)).bit (v := i) (by omega)
                unfold btst at h
                rw [← e11, ← e12, ← e13, fup_eq] at h
                omega
              refine wl_ic hK rfl ?_
              refine wl_ne2 hK rfl (by omega) (by omega) (by omega) (by omega) (fun h14 => ?_) (fun h14 => ?_)
              · refine wl_ic hK rfl ?_
                refine wl_eq2 hK rfl (by omega) (by omega) (by omega) (by omega) (fun h15 => ?_) (fun h15 => ?_)
                · refine wl_al hK rfl rfl ?_
                  refine wl_ic hK rfl ?_
                  refine wl_il hK rfl rfl ?_
                  refine wl_sub hK rfl (by omega) (by omega) ?_
                  rw [show (1 - (i : Int)) = ((1 - i : Nat) : Int) by omega]
                  refine wl_cv [(1, 0), (0, ((1 - i : Nat) : Int))] hK rfl rfl rfl rfl (Or.inr ⟨_, _, _, rfl, by decide, by decide, rfl⟩) (Or.inl rfl) hc2 (eo_degree H11 (1 - i) (by omega) (pl (1 - i)) (fup_ne (by omega))) (fun v16 M16 e16 H16 => (?_ : WL 24 85 [(1, -2), (1, 0), (0, f), (0, (qq k : Int)), (0, kk), (0, v2), (0, (i : Int)), (0, v5), w8, w9, w10, w11, w12, w13] [(0, v16)] M16 (cc + 14) (ss + 80)))
                  have hde : (i = 0 ∧ v5 = dg (fup pl i ft 0) ∧ v16 = dg (fup pl i ft 1)) ∨ (i = 1 ∧ v5 = dg (fup pl i ft 1) ∧ v16 = dg (fup pl i ft 0)) := by
                    rcases (show i = 0 ∨ i = 1 by omega) with h | h
                    · subst h
                      exact Or.inl ⟨rfl, ed, e16⟩
                    · subst h
                      exact Or.inr ⟨rfl, ed, e16⟩
                  refine wl_is [(1, -2), (1, 0), (0, f), (0, (qq k : Int)), (0, kk), (0, v2), (0, (i : Int)), (0, v5), (0, v16), w9, w10, w11, w12, w13] hK rfl rfl rfl ?_
                  refine wl_il hK rfl rfl ?_
                  refine wl_ic hK rfl ?_
                  refine wl_any (w := ((i32 v2).toUInt32 >>> ((i32 20).toUInt32 &&& Int32.toUInt32 31)).toInt32) hK rfl rfl rfl (fun v17 e17 a17 b17 => (?_ : WL 24 89 [(1, -2), (1, 0), (0, f), (0, (qq k : Int)), (0, kk), (0, v2), (0, (i : Int)), (0, v5), (0, v16), w9, w10, w11, w12, w13] [(0, v17)] M16 (cc + 14) (ss + 80)))
                  refine wl_ic hK rfl ?_
                  refine wl_msk hK rfl (by omega) (by omega) (fun v18 e18 a18 b18 => (?_ : WL 24 91 [(1, -2), (1, 0), (0, f), (0, (qq k : Int)), (0, kk), (0, v2), (0, (i : Int)), (0, v5), (0, v16), w9, w10, w11, w12, w13] [(0, v18)] M16 (cc + 14) (ss + 80)))
                  refine wl_is [(1, -2), (1, 0), (0, f), (0, (qq k : Int)), (0, kk), (0, v2), (0, (i : Int)), (0, v5), (0, v16), (0, v18), w10, w11, w12, w13] hK rfl rfl rfl ?_
                  refine wl_il hK rfl rfl ?_
                  refine wl_ic hK rfl ?_
                  refine wl_any (w := ((i32 v2).toUInt32 >>> ((i32 21).toUInt32 &&& Int32.toUInt32 31)).toInt32) hK rfl rfl rfl (fun v19 e19 a19 b19 => (?_ : WL 24 95 [(1, -2), (1, 0), (0, f), (0, (qq k : Int)), (0, kk), (0, v2), (0, (i : Int)), (0, v5), (0, v16), (0, v18), w10, w11, w12, w13] [(0, v19)] M16 (cc + 14) (ss + 80)))
                  refine wl_ic hK rfl ?_
                  refine wl_msk hK rfl (by omega) (by omega) (fun v20 e20 a20 b20 => (?_ : WL 24 97 [(1, -2), (1, 0), (0, f), (0, (qq k : Int)), (0, kk), (0, v2), (0, (i : Int)), (0, v5), (0, v16), (0, v18), w10, w11, w12, w13] [(0, v20)] M16 (cc + 14) (ss + 80)))
                  refine wl_tab hK rfl rfl (by omega) (by omega) (fun ht => ?_) (fun ht1 ht2 => ?_)
                  · exact lk_7 hk H16 (by omega) hde p0 p1 hc2 (fun M' pl' rc' rw' y10 y11 y12 y13 H' q0 q1' => lw_tail H' hi (by
                      rcases (show i = 0 ∨ i = 1 by omega) with h | h
                      · subst h
                        rw [q0]; exact ed
                      · subst h
                        rw [q1']; exact ed) (by
                      rcases (show i = 0 ∨ i = 1 by omega) with h | h
                      · subst h
                        exact e16.trans (congrArg dg q1'.symm)
                      · subst h
                        exact e16.trans (congrArg dg q0.symm)) ⟨by omega, by omega⟩ hc2 (fun M2 H2 => ih H2 (by rw [q0]; exact p0) (by rw [q1']; exact p1) (by omega) (by omega) ⟨by omega, by omega⟩))
                  · rcases (show v20 = 0 ∨ v20 = 1 ∨ v20 = 2 ∨ v20 = 3 ∨ v20 = 4 ∨ v20 = 5 ∨ v20 = 6 by omega) with et | et | et | et | et | et | et
                    · rw [et]
                      show WL 24 98 [(1, -2), (1, 0), (0, f), (0, (qq k : Int)), (0, kk), (0, v2), (0, (i : Int)), (0, v5), (0, v16), (0, v18), w10, w11, w12, w13] [] M16 (cc + 14) (ss + 80)
                      exact lk_0 hk H16 (by omega) hde p0 p1 hc2 (fun M' pl' rc' rw' y10 y11 y12 y13 H' q0 q1' => lw_tail H' hi (by
                        rcases (show i = 0 ∨ i = 1 by omega) with h | h
                        · subst h
                          rw [q0]; exact ed
                        · subst h
                          rw [q1']; exact ed) (by
                        rcases (show i = 0 ∨ i = 1 by omega) with h | h
                        · subst h
                          exact e16.trans (congrArg dg q1'.symm)
                        · subst h
                          exact e16.trans (congrArg dg q0.symm)) ⟨by omega, by omega⟩ hc2 (fun M2 H2 => ih H2 (by rw [q0]; exact p0) (by rw [q1']; exact p1) (by omega) (by omega) ⟨by omega, by omega⟩))
                    · rw [et]
                      show WL 24 164 [(1, -2), (1, 0), (0, f), (0, (qq k : Int)), (0, kk), (0, v2), (0, (i : Int)), (0, v5), (0, v16), (0, v18), w10, w11, w12, w13] [] M16 (cc + 14) (ss + 80)
                      exact lk_1 hk H16 (by omega) hde p0 p1 hc2 (fun M' pl' rc' rw' y10 y11 y12 y13 H' q0 q1' => lw_tail H' hi (by
                        rcases (show i = 0 ∨ i = 1 by omega) with h | h
                        · subst h
                          rw [q0]; exact ed
                        · subst h
                          rw [q1']; exact ed) (by
                        rcases (show i = 0 ∨ i = 1 by omega) with h | h
                        · subst h
                          exact e16.trans (congrArg dg q1'.symm)
                        · subst h
                          exact e16.trans (congrArg dg q0.symm)) ⟨by omega, by omega⟩ hc2 (fun M2 H2 => ih H2 (by rw [q0]; exact p0) (by rw [q1']; exact p1) (by omega) (by omega) ⟨by omega, by omega⟩))
                    · rw [et]
                      show WL 24 246 [(1, -2), (1, 0), (0, f), (0, (qq k : Int)), (0, kk), (0, v2), (0, (i : Int)), (0, v5), (0, v16), (0, v18), w10, w11, w12, w13] [] M16 (cc + 14) (ss + 80)
                      exact lk_2 hk H16 (by omega) hde p0 p1 hc2 (fun M' pl' rc' rw' y10 y11 y12 y13 H' q0 q1' => lw_tail H' hi (by
                        rcases (show i = 0 ∨ i = 1 by omega) with h | h
                        · subst h
                          rw [q0]; exact ed
                        · subst h
                          rw [q1']; exact ed) (by
                        rcases (show i = 0 ∨ i = 1 by omega) with h | h
                        · subst h
                          exact e16.trans (congrArg dg q1'.symm)
                        · subst h
                          exact e16.trans (congrArg dg q0.symm)) ⟨by omega, by omega⟩ hc2 (fun M2 H2 => ih H2 (by rw [q0]; exact p0) (by rw [q1']; exact p1) (by omega) (by omega) ⟨by omega, by omega⟩))
                    · rw [et]
                      show WL 24 317 [(1, -2), (1, 0), (0, f), (0, (qq k : Int)), (0, kk), (0, v2), (0, (i : Int)), (0, v5), (0, v16), (0, v18), w10, w11, w12, w13] [] M16 (cc + 14) (ss + 80)
                      exact lk_3 hk H16 (by omega) hde p0 p1 hc2 (fun M' pl' rc' rw' y10 y11 y12 y13 H' q0 q1' => lw_tail H' hi (by
                        rcases (show i = 0 ∨ i = 1 by omega) with h | h
                        · subst h
                          rw [q0]; exact ed
                        · subst h
                          rw [q1']; exact ed) (by
                        rcases (show i = 0 ∨ i = 1 by omega) with h | h
                        · subst h
                          exact e16.trans (congrArg dg q1'.symm)
                        · subst h
                          exact e16.trans (congrArg dg q0.symm)) ⟨by omega, by omega⟩ hc2 (fun M2 H2 => ih H2 (by rw [q0]; exact p0) (by rw [q1']; exact p1) (by omega) (by omega) ⟨by omega, by omega⟩))
                    · rw [et]
                      show WL 24 388 [(1, -2), (1, 0), (0, f), (0, (qq k : Int)), (0, kk), (0, v2), (0, (i : Int)), (0, v5), (0, v16), (0, v18), w10, w11, w12, w13] [] M16 (cc + 14) (ss + 80)
                      exact lk_4 hk H16 (by omega) hde p0 p1 hc2 (fun M' pl' rc' rw' y10 y11 y12 y13 H' q0 q1' => lw_tail H' hi (by
                        rcases (show i = 0 ∨ i = 1 by omega) with h | h
                        · subst h
                          rw [q0]; exact ed
                        · subst h
                          rw [q1']; exact ed) (by
                        rcases (show i = 0 ∨ i = 1 by omega) with h | h
                        · subst h
                          exact e16.trans (congrArg dg q1'.symm)
                        · subst h
                          exact e16.trans (congrArg dg q0.symm)) ⟨by omega, by omega⟩ hc2 (fun M2 H2 => ih H2 (by rw [q0]; exact p0) (by rw [q1']; exact p1) (by omega) (by omega) ⟨by omega, by omega⟩))
                    · rw [et]
                      show WL 24 441 [(1, -2), (1, 0), (0, f), (0, (qq k : Int)), (0, kk), (0, v2), (0, (i : Int)), (0, v5), (0, v16), (0, v18), w10, w11, w12, w13] [] M16 (cc + 14) (ss + 80)
                      exact lk_5 hk H16 (by omega) hde p0 p1 hc2 (fun M' pl' rc' rw' y10 y11 y12 y13 H' q0 q1' => lw_tail H' hi (by
                        rcases (show i = 0 ∨ i = 1 by omega) with h | h
                        · subst h
                          rw [q0]; exact ed
                        · subst h
                          rw [q1']; exact ed) (by
                        rcases (show i = 0 ∨ i = 1 by omega) with h | h
                        · subst h
                          exact e16.trans (congrArg dg q1'.symm)
                        · subst h
                          exact e16.trans (congrArg dg q0.symm)) ⟨by omega, by omega⟩ hc2 (fun M2 H2 => ih H2 (by rw [q0]; exact p0) (by rw [q1']; exact p1) (by omega) (by omega) ⟨by omega, by omega⟩))
                    · rw [et]
                      show WL 24 472 [(1, -2), (1, 0), (0, f), (0, (qq k : Int)), (0, kk), (0, v2), (0, (i : Int)), (0, v5), (0, v16), (0, v18), w10, w11, w12, w13] [] M16 (cc + 14) (ss + 80)
                      exact lk_6 hk H16 (by omega) hde p0 p1 hc2 (fun M' pl' rc' rw' y10 y11 y12 y13 H' q0 q1' => lw_tail H' hi (by
                        rcases (show i = 0 ∨ i = 1 by omega) with h | h
                        · subst h
                          rw [q0]; exact ed
                        · subst h
                          rw [q1']; exact ed) (by
                        rcases (show i = 0 ∨ i = 1 by omega) with h | h
                        · subst h
                          exact e16.trans (congrArg dg q1'.symm)
                        · subst h
                          exact e16.trans (congrArg dg q0.symm)) ⟨by omega, by omega⟩ hc2 (fun M2 H2 => ih H2 (by rw [q0]; exact p0) (by rw [q1']; exact p1) (by omega) (by omega) ⟨by omega, by omega⟩))
                · exfalso
                  omega
              · refine wl_ic hK rfl ?_
                refine wl_goto hK rfl ?_
                refine wl_eq2 hK rfl (by omega) (by omega) (by omega) (by omega) (fun h21 => ?_) (fun h21 => ?_)
                · exfalso
                  omega
                · exfalso
                  omega
            · refine wl_ic hK rfl ?_
              refine wl_goto hK rfl ?_
              refine wl_al hK rfl rfl ?_
              refine wl_ic hK rfl ?_
              refine wl_cv [(1, 0), (0, 4)] hK rfl rfl rfl rfl (Or.inr ⟨_, _, _, rfl, by decide, by decide, rfl⟩) (Or.inl rfl) hc2 (eo_count4 H8) (fun v22 M22 e22 H22 => (?_ : WL 24 68 [(1, -2), (1, 0), (0, f), (0, (qq k : Int)), (0, kk), (0, v2), (0, (i : Int)), (0, v5), w8, w9, w10, w11, w12, w13] [(0, v22), (0, 1)] M22 (cc + 14) (ss + 80)))
              have i22 : -2147483648 ≤ v22 ∧ v22 ≤ 2147483647 := by rw [e22]; exact ubs_I _ 6
              refine wl_il hK rfl rfl ?_
              refine wl_any (w := i32 v22 >>> (i32 (i : Int) &&& 31)) hK rfl rfl rfl (fun v23 e23 a23 b23 => (?_ : WL 24 70 [(1, -2), (1, 0), (0, f), (0, (qq k : Int)), (0, kk), (0, v2), (0, (i : Int)), (0, v5), w8, w9, w10, w11, w12, w13] [(0, v23), (0, 1)] M22 (cc + 14) (ss + 80)))
              refine wl_ic hK rfl ?_
              refine wl_msk hK rfl (by omega) (by omega) (fun v24 e24 a24 b24 => (?_ : WL 24 72 [(1, -2), (1, 0), (0, f), (0, (qq k : Int)), (0, kk), (0, v2), (0, (i : Int)), (0, v5), w8, w9, w10, w11, w12, w13] [(0, v24), (0, 1)] M22 (cc + 14) (ss + 80)))
              have gb : v24 = 1 ↔ 0 ≤ v5 := by
                have h := (ubs_S (fup pl i ft) 6 (by decide)).bit (v := i) (by omega)
                unfold btst at h
                rw [← e22, ← e23, ← e24, fup_eq] at h
                omega
              refine wl_ic hK rfl ?_
              refine wl_ne2 hK rfl (by omega) (by omega) (by omega) (by omega) (fun h25 => ?_) (fun h25 => ?_)
              · refine wl_ic hK rfl ?_
                refine wl_eq2 hK rfl (by omega) (by omega) (by omega) (by omega) (fun h26 => ?_) (fun h26 => ?_)
                · exfalso
                  omega
                · exfalso
                  omega
              · refine wl_ic hK rfl ?_
                refine wl_goto hK rfl ?_
                refine wl_eq2 hK rfl (by omega) (by omega) (by omega) (by omega) (fun h27 => ?_) (fun h27 => ?_)
                · refine wl_al hK rfl rfl ?_
                  refine wl_ic hK rfl ?_
                  refine wl_il hK rfl rfl ?_
                  refine wl_sub hK rfl (by omega) (by omega) ?_
                  rw [show (1 - (i : Int)) = ((1 - i : Nat) : Int) by omega]
                  refine wl_cv [(1, 0), (0, ((1 - i : Nat) : Int))] hK rfl rfl rfl rfl (Or.inr ⟨_, _, _, rfl, by decide, by decide, rfl⟩) (Or.inl rfl) hc2 (eo_degree H22 (1 - i) (by omega) (pl (1 - i)) (fup_ne (by omega))) (fun v28 M28 e28 H28 => (?_ : WL 24 85 [(1, -2), (1, 0), (0, f), (0, (qq k : Int)), (0, kk), (0, v2), (0, (i : Int)), (0, v5), w8, w9, w10, w11, w12, w13] [(0, v28)] M28 (cc + 14) (ss + 80)))
                  have hde : (i = 0 ∧ v5 = dg (fup pl i ft 0) ∧ v28 = dg (fup pl i ft 1)) ∨ (i = 1 ∧ v5 = dg (fup pl i ft 1) ∧ v28 = dg (fup pl i ft 0)) := by
                    rcases (show i = 0 ∨ i = 1 by omega) with h | h
                    · subst h
                      exact Or.inl ⟨rfl, ed, e28⟩
                    · subst h
                      exact Or.inr ⟨rfl, ed, e28⟩
                  refine wl_is [(1, -2), (1, 0), (0, f), (0, (qq k : Int)), (0, kk), (0, v2), (0, (i : Int)), (0, v5), (0, v28), w9, w10, w11, w12, w13] hK rfl rfl rfl ?_
                  refine wl_il hK rfl rfl ?_
                  refine wl_ic hK rfl ?_
                  refine wl_any (w := ((i32 v2).toUInt32 >>> ((i32 20).toUInt32 &&& Int32.toUInt32 31)).toInt32) hK rfl rfl rfl (fun v29 e29 a29 b29 => (?_ : WL 24 89 [(1, -2), (1, 0), (0, f), (0, (qq k : Int)), (0, kk), (0, v2), (0, (i : Int)), (0, v5), (0, v28), w9, w10, w11, w12, w13] [(0, v29)] M28 (cc + 14) (ss + 80)))
                  refine wl_ic hK rfl ?_
                  refine wl_msk hK rfl (by omega) (by omega) (fun v30 e30 a30 b30 => (?_ : WL 24 91 [(1, -2), (1, 0), (0, f), (0, (qq k : Int)), (0, kk), (0, v2), (0, (i : Int)), (0, v5), (0, v28), w9, w10, w11, w12, w13] [(0, v30)] M28 (cc + 14) (ss + 80)))
                  refine wl_is [(1, -2), (1, 0), (0, f), (0, (qq k : Int)), (0, kk), (0, v2), (0, (i : Int)), (0, v5), (0, v28), (0, v30), w10, w11, w12, w13] hK rfl rfl rfl ?_
                  refine wl_il hK rfl rfl ?_
                  refine wl_ic hK rfl ?_
                  refine wl_any (w := ((i32 v2).toUInt32 >>> ((i32 21).toUInt32 &&& Int32.toUInt32 31)).toInt32) hK rfl rfl rfl (fun v31 e31 a31 b31 => (?_ : WL 24 95 [(1, -2), (1, 0), (0, f), (0, (qq k : Int)), (0, kk), (0, v2), (0, (i : Int)), (0, v5), (0, v28), (0, v30), w10, w11, w12, w13] [(0, v31)] M28 (cc + 14) (ss + 80)))
                  refine wl_ic hK rfl ?_
                  refine wl_msk hK rfl (by omega) (by omega) (fun v32 e32 a32 b32 => (?_ : WL 24 97 [(1, -2), (1, 0), (0, f), (0, (qq k : Int)), (0, kk), (0, v2), (0, (i : Int)), (0, v5), (0, v28), (0, v30), w10, w11, w12, w13] [(0, v32)] M28 (cc + 14) (ss + 80)))
                  refine wl_tab hK rfl rfl (by omega) (by omega) (fun ht => ?_) (fun ht1 ht2 => ?_)
                  · exact lk_7 hk H28 (by omega) hde p0 p1 hc2 (fun M' pl' rc' rw' y10 y11 y12 y13 H' q0 q1' => lw_tail H' hi (by
                      rcases (show i = 0 ∨ i = 1 by omega) with h | h
                      · subst h
                        rw [q0]; exact ed
                      · subst h
                        rw [q1']; exact ed) (by
                      rcases (show i = 0 ∨ i = 1 by omega) with h | h
                      · subst h
                        exact e28.trans (congrArg dg q1'.symm)
                      · subst h
                        exact e28.trans (congrArg dg q0.symm)) ⟨by omega, by omega⟩ hc2 (fun M2 H2 => ih H2 (by rw [q0]; exact p0) (by rw [q1']; exact p1) (by omega) (by omega) ⟨by omega, by omega⟩))
                  · rcases (show v32 = 0 ∨ v32 = 1 ∨ v32 = 2 ∨ v32 = 3 ∨ v32 = 4 ∨ v32 = 5 ∨ v32 = 6 by omega) with et | et | et | et | et | et | et
                    · rw [et]
                      show WL 24 98 [(1, -2), (1, 0), (0, f), (0, (qq k : Int)), (0, kk), (0, v2), (0, (i : Int)), (0, v5), (0, v28), (0, v30), w10, w11, w12, w13] [] M28 (cc + 14) (ss + 80)
                      exact lk_0 hk H28 (by omega) hde p0 p1 hc2 (fun M' pl' rc' rw' y10 y11 y12 y13 H' q0 q1' => lw_tail H' hi (by
                        rcases (show i = 0 ∨ i = 1 by omega) with h | h
                        · subst h
                          rw [q0]; exact ed
                        · subst h
                          rw [q1']; exact ed) (by
                        rcases (show i = 0 ∨ i = 1 by omega) with h | h
                        · subst h
                          exact e28.trans (congrArg dg q1'.symm)
                        · subst h
                          exact e28.trans (congrArg dg q0.symm)) ⟨by omega, by omega⟩ hc2 (fun M2 H2 => ih H2 (by rw [q0]; exact p0) (by rw [q1']; exact p1) (by omega) (by omega) ⟨by omega, by omega⟩))
                    · rw [et]
                      show WL 24 164 [(1, -2), (1, 0), (0, f), (0, (qq k : Int)), (0, kk), (0, v2), (0, (i : Int)), (0, v5), (0, v28), (0, v30), w10, w11, w12, w13] [] M28 (cc + 14) (ss + 80)
                      exact lk_1 hk H28 (by omega) hde p0 p1 hc2 (fun M' pl' rc' rw' y10 y11 y12 y13 H' q0 q1' => lw_tail H' hi (by
                        rcases (show i = 0 ∨ i = 1 by omega) with h | h
                        · subst h
                          rw [q0]; exact ed
                        · subst h
                          rw [q1']; exact ed) (by
                        rcases (show i = 0 ∨ i = 1 by omega) with h | h
                        · subst h
                          exact e28.trans (congrArg dg q1'.symm)
                        · subst h
                          exact e28.trans (congrArg dg q0.symm)) ⟨by omega, by omega⟩ hc2 (fun M2 H2 => ih H2 (by rw [q0]; exact p0) (by rw [q1']; exact p1) (by omega) (by omega) ⟨by omega, by omega⟩))
                    · rw [et]
                      show WL 24 246 [(1, -2), (1, 0), (0, f), (0, (qq k : Int)), (0, kk), (0, v2), (0, (i : Int)), (0, v5), (0, v28), (0, v30), w10, w11, w12, w13] [] M28 (cc + 14) (ss + 80)
                      exact lk_2 hk H28 (by omega) hde p0 p1 hc2 (fun M' pl' rc' rw' y10 y11 y12 y13 H' q0 q1' => lw_tail H' hi (by
                        rcases (show i = 0 ∨ i = 1 by omega) with h | h
                        · subst h
                          rw [q0]; exact ed
                        · subst h
                          rw [q1']; exact ed) (by
                        rcases (show i = 0 ∨ i = 1 by omega) with h | h
                        · subst h
                          exact e28.trans (congrArg dg q1'.symm)
                        · subst h
                          exact e28.trans (congrArg dg q0.symm)) ⟨by omega, by omega⟩ hc2 (fun M2 H2 => ih H2 (by rw [q0]; exact p0) (by rw [q1']; exact p1) (by omega) (by omega) ⟨by omega, by omega⟩))
                    · rw [et]
                      show WL 24 317 [(1, -2), (1, 0), (0, f), (0, (qq k : Int)), (0, kk), (0, v2), (0, (i : Int)), (0, v5), (0, v28), (0, v30), w10, w11, w12, w13] [] M28 (cc + 14) (ss + 80)
                      exact lk_3 hk H28 (by omega) hde p0 p1 hc2 (fun M' pl' rc' rw' y10 y11 y12 y13 H' q0 q1' => lw_tail H' hi (by
                        rcases (show i = 0 ∨ i = 1 by omega) with h | h
                        · subst h
                          rw [q0]; exact ed
                        · subst h
                          rw [q1']; exact ed) (by
                        rcases (show i = 0 ∨ i = 1 by omega) with h | h
                        · subst h
                          exact e28.trans (congrArg dg q1'.symm)
                        · subst h
                          exact e28.trans (congrArg dg q0.symm)) ⟨by omega, by omega⟩ hc2 (fun M2 H2 => ih H2 (by rw [q0]; exact p0) (by rw [q1']; exact p1) (by omega) (by omega) ⟨by omega, by omega⟩))
                    · rw [et]
                      show WL 24 388 [(1, -2), (1, 0), (0, f), (0, (qq k : Int)), (0, kk), (0, v2), (0, (i : Int)), (0, v5), (0, v28), (0, v30), w10, w11, w12, w13] [] M28 (cc + 14) (ss + 80)
                      exact lk_4 hk H28 (by omega) hde p0 p1 hc2 (fun M' pl' rc' rw' y10 y11 y12 y13 H' q0 q1' => lw_tail H' hi (by
                        rcases (show i = 0 ∨ i = 1 by omega) with h | h
                        · subst h
                          rw [q0]; exact ed
                        · subst h
                          rw [q1']; exact ed) (by
                        rcases (show i = 0 ∨ i = 1 by omega) with h | h
                        · subst h
                          exact e28.trans (congrArg dg q1'.symm)
                        · subst h
                          exact e28.trans (congrArg dg q0.symm)) ⟨by omega, by omega⟩ hc2 (fun M2 H2 => ih H2 (by rw [q0]; exact p0) (by rw [q1']; exact p1) (by omega) (by omega) ⟨by omega, by omega⟩))
                    · rw [et]
                      show WL 24 441 [(1, -2), (1, 0), (0, f), (0, (qq k : Int)), (0, kk), (0, v2), (0, (i : Int)), (0, v5), (0, v28), (0, v30), w10, w11, w12, w13] [] M28 (cc + 14) (ss + 80)
                      exact lk_5 hk H28 (by omega) hde p0 p1 hc2 (fun M' pl' rc' rw' y10 y11 y12 y13 H' q0 q1' => lw_tail H' hi (by
                        rcases (show i = 0 ∨ i = 1 by omega) with h | h
                        · subst h
                          rw [q0]; exact ed
                        · subst h
                          rw [q1']; exact ed) (by
                        rcases (show i = 0 ∨ i = 1 by omega) with h | h
                        · subst h
                          exact e28.trans (congrArg dg q1'.symm)
                        · subst h
                          exact e28.trans (congrArg dg q0.symm)) ⟨by omega, by omega⟩ hc2 (fun M2 H2 => ih H2 (by rw [q0]; exact p0) (by rw [q1']; exact p1) (by omega) (by omega) ⟨by omega, by omega⟩))
                    · rw [et]
                      show WL 24 472 [(1, -2), (1, 0), (0, f), (0, (qq k : Int)), (0, kk), (0, v2), (0, (i : Int)), (0, v5), (0, v28), (0, v30), w10, w11, w12, w13] [] M28 (cc + 14) (ss + 80)
                      exact lk_6 hk H28 (by omega) hde p0 p1 hc2 (fun M' pl' rc' rw' y10 y11 y12 y13 H' q0 q1' => lw_tail H' hi (by
                        rcases (show i = 0 ∨ i = 1 by omega) with h | h
                        · subst h
                          rw [q0]; exact ed
                        · subst h
                          rw [q1']; exact ed) (by
                        rcases (show i = 0 ∨ i = 1 by omega) with h | h
                        · subst h
                          exact e28.trans (congrArg dg q1'.symm)
                        · subst h
                          exact e28.trans (congrArg dg q0.symm)) ⟨by omega, by omega⟩ hc2 (fun M2 H2 => ih H2 (by rw [q0]; exact p0) (by rw [q1']; exact p1) (by omega) (by omega) ⟨by omega, by omega⟩))
                · exfalso
                  omega
