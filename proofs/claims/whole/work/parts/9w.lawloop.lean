/-! the law: factor and row, the loop */ -/
set_option maxRecDepth 100000 in
theorem r_thrown {d : Nat} {M : Mem} {q : Int} (h0 : M 161 14 = q) : Ct 198 (d) 196 [(1, 161)] M (fun r M' => r = (0, q) ∧ M' = M) := by
  have hK : cd 196 = k196 := rfl
  show Wp 198 _ 196 0 [(1, 161)] [] M _
  refine w_al hK rfl rfl ?_
  refine w_geti (n := 14) (m := 14) hK rfl rfl (by decide) (by decide) rfl rfl rfl rfl ?_
  rw [show M 161 14 = q from h0]
  refine w_iret hK rfl rfl ?_
  exact ⟨rfl, rfl⟩
theorem lcmp_self (x : Int) : (lg_cmp (i64 x) (i64 x)).toInt = 0 := by
  unfold lg_cmp
  rw [if_neg (show ¬ i64 x > i64 x from Int64.lt_irrefl), if_pos rfl]
  rfl
theorem i3264 {x : Int} (h1 : -2147483648 ≤ x) (h2 : x ≤ 2147483647) : (i32 x).toInt64.toInt = x := by
  rw [Int32.toInt_toInt64]
  exact i32_in h1 h2
theorem wl_ls {d i pc len c' cc ss : Nat} {a b' : Int} {L st : List AV} {M : Mem} {K : List Rw} {x : Int} (L' : List AV) (hK : cd 307 = K) (hc : K[i]? = some (pc, len, 5, a, b', c')) (hv : (decide (a.toNat + 1 < L.length) && (decide (a.toNat = 0) || decide ((L.getD (a.toNat - 1) (3, 0)).1 ≠ 2))) = true) (hL : (L.set a.toNat (2, x)).set (a.toNat + 1) (3, 0) = L') (h : WL d (i + 1) L' st M cc ss) : WL d i L ((2, x) :: st) M cc ss := by
  simp only [Bool.and_eq_true, Bool.or_eq_true, decide_eq_true_eq] at hv
  exact wl_stp hK hc ⟨rfl, by decide, by decide⟩ (fun S g _ => by
    show oSl a.toNat i L ((2, x) :: st) (S, M, g, cc, ss) = _
    unfold oSl
    dsimp only
    rw [if_pos ⟨rfl, hv⟩, hL]) h
set_option maxRecDepth 100000 in
theorem tl_factor {D : Nat} {X : Int → Int} {V : Mem} {i cc ss : Nat} {w5 w6 w7 : AV} (hX : ∀ j : Int, -2147483648 ≤ X j ∧ X j ≤ 2147483647) (hi : (i : Int) + 5 ≤ X (-1)) (hV : V (-2) = X) {k : Nat} {pl : Nat → Pl k} {n : Int} {tx : Int → Int} {rc : Nat} {rw_ : Int → Int} {fc : Nat} {fa : Nat → Pl k} (h1 : CLS V k pl n tx rc rw_ fc fa) (h2 : RFS V k pl n tx rc rw_ fc fa) (hcs : cc ≤ (cOf 307).1 ∧ ss ≤ (cOf 307).2) {q x : Int} (Rf : Ct 198 (D + 12) 285 [(1, 161), (0, X ((i : Int) + 1)), (0, X ((i : Int) + 2))] V (fun r_ M' => r_ = (0, x) ∧ RFS M' k pl n tx rc rw_ fc fa ∧ (∀ a : Int, (a < 161 ∨ 197 < a) → M' a = V a) ∧ M' 161 14 = q)) (hq : q = 1 ∨ (q = 0 ∧ V 198 0 = x)) (hx : -2147483648 ≤ x ∧ x ≤ 2147483647) (next : ∀ (M' : Mem) (v5 v6 v7 : AV), M' (-2) = X → STT M' → WL (D + 13) 1475 [(1, -2), (1, 0), (1, 161), (1, 198), (0, (i : Int)), v5, v6, v7] [] M' cc ss) : WL (D + 13) 1236 [(1, -2), (1, 0), (1, 161), (1, 198), (0, (i : Int)), w5, w6, w7] [(0, q)] V cc ss := by
  have hK : cd 307 = k307 := rfl
  have x1_ := hX ((i : Int) + 1)
  have x2_ := hX ((i : Int) + 2)
  have i31_ := hX (-1)
  refine wl_is [(1, -2), (1, 0), (1, 161), (1, 198), (0, (i : Int)), (0, q), w6, w7] hK rfl rfl rfl ?_
  refine wl_al hK rfl rfl ?_
  refine wl_al hK rfl rfl ?_
  refine wl_il hK rfl rfl ?_
  refine wl_ic hK rfl ?_
  refine wl_add hK rfl (by omega) (by omega) ?_
  refine wl_sat hK rfl (by omega) (by rw [hV]; omega) ?_
  rw [hV]
  refine wl_al hK rfl rfl ?_
  refine wl_il hK rfl rfl ?_
  refine wl_ic hK rfl ?_
  refine wl_add hK rfl (by omega) (by omega) ?_
  refine wl_sat hK rfl (by omega) (by rw [hV]; omega) ?_
  rw [hV]
  refine wl_call [(1, 161), (0, X ((i : Int) + 1)), (0, X ((i : Int) + 2))] hK rfl rfl rfl rfl (Or.inr ⟨_, _, _, rfl, by decide, by decide, rfl⟩) hcs (Rf.mono (by decide)) ?_
  rintro _ W ⟨rfl, s2_, f2_, e14_⟩
  refine ⟨(by show (0 : Nat) ≠ 9; decide), (?_ : WL (D + 13) 1249 [(1, -2), (1, 0), (1, 161), (1, 198), (0, (i : Int)), (0, q), w6, w7] [(0, x)] W cc ss)⟩
  refine wl_is [(1, -2), (1, 0), (1, 161), (1, 198), (0, (i : Int)), (0, q), (0, x), w7] hK rfl rfl rfl ?_
  refine wl_al hK rfl rfl ?_
  refine wl_call [(1, 161)] hK rfl rfl rfl rfl (Or.inr ⟨_, _, _, rfl, by decide, by decide, rfl⟩) hcs (Ct.mono (r_thrown (d := D + 12) e14_) (by decide)) ?_
  rintro _ W2 ⟨rfl, e_⟩
  subst W2
  refine ⟨(by show (0 : Nat) ≠ 9; decide), (?_ : WL (D + 13) 1252 [(1, -2), (1, 0), (1, 161), (1, 198), (0, (i : Int)), (0, q), (0, x), w7] [(0, q)] W cc ss)⟩
  refine wl_il hK rfl rfl ?_
  refine wl_same hK rfl ?_
  refine wl_il hK rfl rfl ?_
  have nx_ := next W (0, q) (0, x) w7 ((f2_ (-2) (by decide)).trans hV) ⟨k, pl, n, tx, rc, rw_, fc, fa, h1.congr (fun a q1 q2 => f2_ a (by omega)), s2_⟩
  refine wl_ne hK rfl (by omega) (by omega) (fun g_ => ?_) (fun g_ => ?_)
  · refine wl_goto hK rfl ?_
    exact nx_
  · have ex_ : V 198 0 = x := hq.elim (fun q_ => by omega) (fun q_ => q_.2)
    refine wl_al hK rfl rfl ?_
    refine wl_ic hK rfl ?_
    refine wl_la hK rfl rfl (by decide) (by decide) (by decide) (by decide) ?_
    rw [show W 198 0 = x from (congrFun (f2_ 198 (by decide)) 0).trans ex_]
    refine wl_il hK rfl rfl ?_
    refine wl_i2l hK rfl (by omega) (by omega) ?_
    refine wl_lcmp hK rfl ?_
    rw [lcmp_self]
    refine wl_eq hK rfl (by decide) (by decide) (fun _ => ?_) (fun g2_ => absurd rfl g2_)
    refine wl_goto hK rfl ?_
    exact nx_
set_option maxRecDepth 100000 in
theorem tl_row {D : Nat} {X : Int → Int} {V : Mem} {i cc ss : Nat} {w5 w6 w7 : AV} (hX : ∀ j : Int, -2147483648 ≤ X j ∧ X j ≤ 2147483647) (hi : (i : Int) + 5 ≤ X (-1)) (hV : V (-2) = X) {k : Nat} {pl : Nat → Pl k} {n : Int} {tx : Int → Int} {rc : Nat} {rw_ : Int → Int} {fc : Nat} {fa : Nat → Pl k} (h1 : CLS V k pl n tx rc rw_ fc fa) (h2 : RFS V k pl n tx rc rw_ fc fa) (hcs : cc ≤ (cOf 307).1 ∧ ss ≤ (cOf 307).2) {q x : Int} (Rf : Ct 198 (D + 12) 303 [(1, 161), (0, X ((i : Int) + 1))] V (fun r_ M' => r_ = (2, x) ∧ RFS M' k pl n tx rc rw_ fc fa ∧ (∀ a : Int, (a < 161 ∨ 197 < a) → M' a = V a) ∧ M' 161 14 = q)) (hq : q = 1 ∨ (q = 0 ∧ V 198 0 = x)) (next : ∀ (M' : Mem) (v5 v6 v7 : AV), M' (-2) = X → STT M' → WL (D + 13) 1475 [(1, -2), (1, 0), (1, 161), (1, 198), (0, (i : Int)), v5, v6, v7] [] M' cc ss) : WL (D + 13) 1449 [(1, -2), (1, 0), (1, 161), (1, 198), (0, (i : Int)), w5, w6, w7] [(0, q)] V cc ss := by
  have hK : cd 307 = k307 := rfl
  have x1_ := hX ((i : Int) + 1)
  have i31_ := hX (-1)
  refine wl_is [(1, -2), (1, 0), (1, 161), (1, 198), (0, (i : Int)), (0, q), w6, w7] hK rfl rfl rfl ?_
  refine wl_al hK rfl rfl ?_
  refine wl_al hK rfl rfl ?_
  refine wl_il hK rfl rfl ?_
  refine wl_ic hK rfl ?_
  refine wl_add hK rfl (by omega) (by omega) ?_
  refine wl_sat hK rfl (by omega) (by rw [hV]; omega) ?_
  rw [hV]
  refine wl_call [(1, 161), (0, X ((i : Int) + 1))] hK rfl rfl rfl rfl (Or.inr ⟨_, _, _, rfl, by decide, by decide, rfl⟩) hcs (Rf.mono (by decide)) ?_
  rintro _ W ⟨rfl, s2_, f2_, e14_⟩
  refine ⟨(by show (2 : Nat) ≠ 9; decide), (?_ : WL (D + 13) 1457 [(1, -2), (1, 0), (1, 161), (1, 198), (0, (i : Int)), (0, q), w6, w7] [(2, x)] W cc ss)⟩
  refine wl_ls [(1, -2), (1, 0), (1, 161), (1, 198), (0, (i : Int)), (0, q), (2, x), (3, 0)] hK rfl rfl rfl ?_
  refine wl_al hK rfl rfl ?_
  refine wl_call [(1, 161)] hK rfl rfl rfl rfl (Or.inr ⟨_, _, _, rfl, by decide, by decide, rfl⟩) hcs (Ct.mono (r_thrown (d := D + 12) e14_) (by decide)) ?_
  rintro _ W2 ⟨rfl, e_⟩
  subst W2
  refine ⟨(by show (0 : Nat) ≠ 9; decide), (?_ : WL (D + 13) 1460 [(1, -2), (1, 0), (1, 161), (1, 198), (0, (i : Int)), (0, q), (2, x), (3, 0)] [(0, q)] W cc ss)⟩
  refine wl_il hK rfl rfl ?_
  refine wl_same hK rfl ?_
  refine wl_il hK rfl rfl ?_
  have nx_ := next W (0, q) (2, x) (3, 0) ((f2_ (-2) (by decide)).trans hV) ⟨k, pl, n, tx, rc, rw_, fc, fa, h1.congr (fun a q1 q2 => f2_ a (by omega)), s2_⟩
  refine wl_ne hK rfl (by omega) (by omega) (fun g_ => ?_) (fun g_ => ?_)
  · refine wl_goto hK rfl ?_
    exact nx_
  · have ex_ : V 198 0 = x := hq.elim (fun q_ => by omega) (fun q_ => q_.2)
    refine wl_al hK rfl rfl ?_
    refine wl_ic hK rfl ?_
    refine wl_la hK rfl rfl (by decide) (by decide) (by decide) (by decide) ?_
    rw [show W 198 0 = x from (congrFun (f2_ 198 (by decide)) 0).trans ex_]
    refine wl_ll hK rfl rfl ?_
    refine wl_lcmp hK rfl ?_
    rw [lcmp_self]
    refine wl_eq hK rfl (by decide) (by decide) (fun _ => ?_) (fun g2_ => absurd rfl g2_)
    refine wl_goto hK rfl ?_
    exact nx_
set_option maxRecDepth 100000 in
theorem lc_44 {D : Nat} {X : Int → Int} {M : Mem} {i cc ss : Nat} {w5 w6 w7 : AV} (hX : ∀ j : Int, -2147483648 ≤ X j ∧ X j ≤ 2147483647) (hi : (i : Int) + 5 ≤ X (-1)) (hM : M (-2) = X) (hs : STT M) (hcs : cc + 1 ≤ (cOf 307).1 ∧ ss + 8 ≤ (cOf 307).2) (next : ∀ (M' : Mem) (v5 v6 v7 : AV) (c2 s2 : Nat), M' (-2) = X → STT M' → (c2 = cc ∧ s2 = ss) ∨ (c2 = cc + 1 ∧ s2 = ss + 8) → WL (D + 13) 1475 [(1, -2), (1, 0), (1, 161), (1, 198), (0, (i : Int)), v5, v6, v7] [] M' c2 s2) : WL (D + 13) 1223 [(1, -2), (1, 0), (1, 161), (1, 198), (0, (i : Int)), w5, w6, w7] [] M cc ss := by
  have hK : cd 307 = k307 := rfl
  obtain ⟨k, pl, n, tx, rc, rw_, fc, fa, h1, h2⟩ := hs
  have ft_ := STT.facts h2
  have x1_ := hX ((i : Int) + 1)
  have x2_ := hX ((i : Int) + 2)
  have i31_ := hX (-1)
  have k1 : ∀ v : Int, CLS (up M 198 0 v) k pl n tx rc rw_ fc fa := fun v => h1.congr (fun a q1 q2 => up_row (by omega))
  have k2 : ∀ v : Int, RFS (up M 198 0 v) k pl n tx rc rw_ fc fa := fun v => h2.congr (fun a q1 q2 => up_row (by omega))
  have kM : ∀ v : Int, (up M 198 0 v) (-2) = X := fun v => (up_row (by decide)).trans hM
  refine wl_al hK rfl rfl ?_
  refine wl_al hK rfl rfl ?_
  refine wl_il hK rfl rfl ?_
  refine wl_ic hK rfl ?_
  refine wl_add hK rfl (by omega) (by omega) ?_
  refine wl_sat hK rfl (by omega) (by rw [hM]; omega) ?_
  rw [hM]
  refine wl_al hK rfl rfl ?_
  refine wl_il hK rfl rfl ?_
  refine wl_ic hK rfl ?_
  refine wl_add hK rfl (by omega) (by omega) ?_
  refine wl_sat hK rfl (by omega) (by rw [hM]; omega) ?_
  rw [hM]
  refine wl_al hK rfl rfl ?_
  have nx_ : ∀ (M' : Mem) (v5 v6 v7 : AV), M' (-2) = X → STT M' → WL (D + 13) 1475 [(1, -2), (1, 0), (1, 161), (1, 198), (0, (i : Int)), v5, v6, v7] [] M' (cc + 1) (ss + 8) := fun M' v5 v6 v7 a b => next M' v5 v6 v7 _ _ a b (Or.inr ⟨rfl, rfl⟩)
  generalize hp1_ : X ((i : Int) + 1) = p1 at *
  generalize hp2_ : X ((i : Int) + 2) = p2 at *
  by_cases g1 : 1 ≤ p1 ∧ p1 ≤ (fc : Int)
  · obtain ⟨j, rfl⟩ : ∃ a_ : Nat, p1 = (a_ : Int) := ⟨p1.toNat, by omega⟩
    have hj : (fc - j) + j = fc := by omega
    by_cases g2 : 0 ≤ p2 ∧ p2 ≤ dg (fa (fc - j))
    · obtain ⟨x, rfl⟩ : ∃ a_ : Nat, p2 = (a_ : Int) := ⟨p2.toNat, by omega⟩
      refine wl_prim (u := 308) (w := 186) [(1, 0), (0, (j : Int)), (0, (x : Int))] hK rfl rfl rfl rfl rfl rfl (Or.inr ⟨_, _, _, rfl, by decide, by decide, rfl⟩) hcs (Ct.mono (o_factor (d := D + 3) h1 (fc - j) j x hj (by omega) (by omega)) (by decide)) ?_
      rintro _ W ⟨rfl, e_⟩
      subst W
      have bv_ := el_I (fa (fc - j) x)
      refine Or.inr ⟨Or.inl rfl, ?_⟩
      rw [if_pos rfl, i3264 (by omega) (by omega)]
      refine tl_factor (hX := hX) hi (kM _) (k1 _) (k2 _) hcs (q := 0) (x := ((fa (fc - j) x).val : Int)) ?_ (Or.inr ⟨rfl, up_eq⟩) ⟨by omega, by omega⟩ nx_
      rw [hp1_, hp2_]
      exact ro_factor (d := D + 4) (k2 _) (fc - j) j x hj (by omega) (by omega)
    · refine wl_prim (u := 308) (w := 186) [(1, 0), (0, (j : Int)), (0, p2)] hK rfl rfl rfl rfl rfl rfl (Or.inr ⟨_, _, _, rfl, by decide, by decide, rfl⟩) hcs (Ct.mono (m_factor (d := D + 3) h1 (fc - j) j p2 hj (by omega) (by omega) (by omega) (by omega)) (by decide)) ?_
      rintro _ W ⟨rfl, e_⟩
      subst W
      refine Or.inl ⟨rfl, ?_⟩
      refine tl_factor (hX := hX) hi hM h1 h2 hcs (q := 1) (x := 0) ?_ (Or.inl rfl) ⟨by omega, by omega⟩ nx_
      rw [hp1_, hp2_]
      exact rm_factor (d := D + 4) h2 (fc - j) j p2 (by omega) (by omega) hj (by omega) (by omega)
  · refine wl_prim (u := 308) (w := 186) [(1, 0), (0, p1), (0, p2)] hK rfl rfl rfl rfl rfl rfl (Or.inr ⟨_, _, _, rfl, by decide, by decide, rfl⟩) hcs (Ct.mono (n_factor (d := D + 3) h1 p1 p2 (by omega) (by omega) (by omega) (by omega) (by omega)) (by decide)) ?_
    rintro _ W ⟨rfl, e_⟩
    subst W
    refine Or.inl ⟨rfl, ?_⟩
    refine tl_factor (hX := hX) hi hM h1 h2 hcs (q := 1) (x := 0) ?_ (Or.inl rfl) ⟨by omega, by omega⟩ nx_
    rw [hp1_, hp2_]
    exact rn_factor (d := D + 4) h2 p1 p2 (by omega) (by omega) (by omega) (by omega) (by omega)
set_option maxRecDepth 100000 in
theorem lc_54 {D : Nat} {X : Int → Int} {M : Mem} {i cc ss : Nat} {w5 w6 w7 : AV} (hX : ∀ j : Int, -2147483648 ≤ X j ∧ X j ≤ 2147483647) (hi : (i : Int) + 5 ≤ X (-1)) (hM : M (-2) = X) (hs : STT M) (hcs : cc + 1 ≤ (cOf 307).1 ∧ ss + 8 ≤ (cOf 307).2) (next : ∀ (M' : Mem) (v5 v6 v7 : AV) (c2 s2 : Nat), M' (-2) = X → STT M' → (c2 = cc ∧ s2 = ss) ∨ (c2 = cc + 1 ∧ s2 = ss + 8) → WL (D + 13) 1475 [(1, -2), (1, 0), (1, 161), (1, 198), (0, (i : Int)), v5, v6, v7] [] M' c2 s2) : WL (D + 13) 1441 [(1, -2), (1, 0), (1, 161), (1, 198), (0, (i : Int)), w5, w6, w7] [] M cc ss := by
  have hK : cd 307 = k307 := rfl
  obtain ⟨k, pl, n, tx, rc, rw_, fc, fa, h1, h2⟩ := hs
  have ft_ := STT.facts h2
  have x1_ := hX ((i : Int) + 1)
  have i31_ := hX (-1)
  have k1 : ∀ v : Int, CLS (up M 198 0 v) k pl n tx rc rw_ fc fa := fun v => h1.congr (fun a q1 q2 => up_row (by omega))
  have k2 : ∀ v : Int, RFS (up M 198 0 v) k pl n tx rc rw_ fc fa := fun v => h2.congr (fun a q1 q2 => up_row (by omega))
  have kM : ∀ v : Int, (up M 198 0 v) (-2) = X := fun v => (up_row (by decide)).trans hM
  refine wl_al hK rfl rfl ?_
  refine wl_al hK rfl rfl ?_
  refine wl_il hK rfl rfl ?_
  refine wl_ic hK rfl ?_
  refine wl_add hK rfl (by omega) (by omega) ?_
  refine wl_sat hK rfl (by omega) (by rw [hM]; omega) ?_
  rw [hM]
  refine wl_al hK rfl rfl ?_
  have nx_ : ∀ (M' : Mem) (v5 v6 v7 : AV), M' (-2) = X → STT M' → WL (D + 13) 1475 [(1, -2), (1, 0), (1, 161), (1, 198), (0, (i : Int)), v5, v6, v7] [] M' (cc + 1) (ss + 8) := fun M' v5 v6 v7 a b => next M' v5 v6 v7 _ _ a b (Or.inr ⟨rfl, rfl⟩)
  generalize hp1_ : X ((i : Int) + 1) = p1 at *
  by_cases g1 : 0 ≤ p1 ∧ p1 < (rc : Int)
  · obtain ⟨j, rfl⟩ : ∃ a_ : Nat, p1 = (a_ : Int) := ⟨p1.toNat, by omega⟩
    refine wl_prim (u := 309) (w := 187) [(1, 0), (0, (j : Int))] hK rfl rfl rfl rfl rfl rfl (Or.inr ⟨_, _, _, rfl, by decide, by decide, rfl⟩) hcs (Ct.mono (o_row (d := D + 3) h1 j (by omega)) (by decide)) ?_
    rintro _ W ⟨rfl, e_⟩
    subst W
    refine Or.inr ⟨Or.inr rfl, (?_ : WL (D + 13) 1449 [(1, -2), (1, 0), (1, 161), (1, 198), (0, (i : Int)), w5, w6, w7] [(0, 0)] (up M 198 0 (rw_ (j : Int))) (cc + 1) (ss + 8))⟩
    refine tl_row (hX := hX) hi (kM _) (k1 _) (k2 _) hcs (q := 0) (x := rw_ (j : Int)) ?_ (Or.inr ⟨rfl, up_eq⟩) nx_
    rw [hp1_]
    exact ro_row (d := D + 4) (k2 _) j (by omega)
  · refine wl_prim (u := 309) (w := 187) [(1, 0), (0, p1)] hK rfl rfl rfl rfl rfl rfl (Or.inr ⟨_, _, _, rfl, by decide, by decide, rfl⟩) hcs (Ct.mono (n_row (d := D + 3) h1 p1 (by omega) (by omega) (by omega)) (by decide)) ?_
    rintro _ W ⟨rfl, e_⟩
    subst W
    refine Or.inl ⟨rfl, ?_⟩
    refine tl_row (hX := hX) hi hM h1 h2 hcs (q := 1) (x := 0) ?_ (Or.inl rfl) nx_
    rw [hp1_]
    exact rn_row (d := D + 4) h2 p1 (by omega) (by omega) (by omega)
