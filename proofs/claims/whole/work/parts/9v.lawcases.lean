/-! the law's cases */ -/
theorem wl_same {d i pc len c' cc ss : Nat} {b' : Int} {L st : List AV} {M : Mem} {K : List Rw} {x : Int} (hK : cd 307 = K) (hc : K[i]? = some (pc, len, 31, 0, b', c')) (h : WL d c' L st M cc ss) : WL d i L ((0, x) :: (0, x) :: st) M cc ss :=
  wl_stp hK hc ⟨rfl, by decide, by decide⟩ (fun S g _ => by simp [stp, oIf2, cnd]) h
set_option maxRecDepth 100000 in
theorem lc_0 {D : Nat} {X : Int → Int} {M : Mem} {i cc ss : Nat} {w5 w6 w7 : AV} (hX : ∀ j : Int, -2147483648 ≤ X j ∧ X j ≤ 2147483647) (hi : (i : Int) + 5 ≤ X (-1)) (hM : M (-2) = X) (hs : STT M) (hcs : cc + 1 ≤ (cOf 307).1 ∧ ss + 8 ≤ (cOf 307).2) (next : ∀ (M' : Mem) (v5 v6 v7 : AV) (c2 s2 : Nat), M' (-2) = X → STT M' → (c2 = cc ∧ s2 = ss) ∨ (c2 = cc + 1 ∧ s2 = ss + 8) → WL (D + 13) 1475 [(1, -2), (1, 0), (1, 161), (1, 198), (0, (i : Int)), v5, v6, v7] [] M' c2 s2) : WL (D + 13) 25 [(1, -2), (1, 0), (1, 161), (1, 198), (0, (i : Int)), w5, w6, w7] [] M cc ss := by
  have hK : cd 307 = k307 := rfl
  obtain ⟨k, pl, n, tx, rc, rw_, fc, fa, h1, h2⟩ := hs
  obtain ⟨hk_, hb_, _⟩ := STT.facts h2
  have x1_ := hX ((i : Int) + 1)
  have i31_ := hX (-1)
  have hc0 : cc ≤ (cOf 307).1 ∧ ss ≤ (cOf 307).2 := ⟨by omega, by omega⟩
  refine wl_al hK rfl rfl ?_
  refine wl_al hK rfl rfl ?_
  refine wl_il hK rfl rfl ?_
  refine wl_ic hK rfl ?_
  refine wl_add hK rfl (by omega) (by omega) ?_
  refine wl_sat hK rfl (by omega) (by rw [hM]; omega) ?_
  rw [hM]
  obtain ⟨v, B1⟩ := (b_field hk_ hb_ (X ((i : Int) + 1)) x1_.1 x1_.2).two (d := D) h1 h2
  refine wl_call [(1, 0), (0, X ((i : Int) + 1))] hK rfl rfl rfl rfl (Or.inr ⟨_, _, _, rfl, by decide, by decide, rfl⟩) hc0 (B1.mono (by decide)) ?_
  rintro _ V ⟨rfl, f1_, B2⟩
  refine ⟨(by show (0 : Nat) ≠ 9; decide), (?_ : WL (D + 13) 32 [(1, -2), (1, 0), (1, 161), (1, 198), (0, (i : Int)), w5, w6, w7] [(0, v)] V cc ss)⟩
  have hV : V (-2) = X := (f1_ (-2) (by decide)).trans hM
  refine wl_al hK rfl rfl ?_
  refine wl_al hK rfl rfl ?_
  refine wl_il hK rfl rfl ?_
  refine wl_ic hK rfl ?_
  refine wl_add hK rfl (by omega) (by omega) ?_
  refine wl_sat hK rfl (by omega) (by rw [hV]; omega) ?_
  rw [hV]
  refine wl_call [(1, 161), (0, X ((i : Int) + 1))] hK rfl rfl rfl rfl (Or.inr ⟨_, _, _, rfl, by decide, by decide, rfl⟩) hc0 (B2.mono (by decide)) ?_
  rintro _ V2 ⟨rfl, s2_, f2_⟩
  refine ⟨(by show (0 : Nat) ≠ 9; decide), (?_ : WL (D + 13) 39 [(1, -2), (1, 0), (1, 161), (1, 198), (0, (i : Int)), w5, w6, w7] [(0, v), (0, v)] V2 cc ss)⟩
  refine wl_same hK rfl ?_
  exact next V2 _ _ _ _ _ ((f2_ (-2) (by decide)).trans hM) s2_ (Or.inl ⟨rfl, rfl⟩)
set_option maxRecDepth 100000 in
theorem lc_1 {D : Nat} {X : Int → Int} {M : Mem} {i cc ss : Nat} {w5 w6 w7 : AV} (hX : ∀ j : Int, -2147483648 ≤ X j ∧ X j ≤ 2147483647) (hi : (i : Int) + 5 ≤ X (-1)) (hM : M (-2) = X) (hs : STT M) (hcs : cc + 1 ≤ (cOf 307).1 ∧ ss + 8 ≤ (cOf 307).2) (next : ∀ (M' : Mem) (v5 v6 v7 : AV) (c2 s2 : Nat), M' (-2) = X → STT M' → (c2 = cc ∧ s2 = ss) ∨ (c2 = cc + 1 ∧ s2 = ss + 8) → WL (D + 13) 1475 [(1, -2), (1, 0), (1, 161), (1, 198), (0, (i : Int)), v5, v6, v7] [] M' c2 s2) : WL (D + 13) 42 [(1, -2), (1, 0), (1, 161), (1, 198), (0, (i : Int)), w5, w6, w7] [] M cc ss := by
  have hK : cd 307 = k307 := rfl
  obtain ⟨k, pl, n, tx, rc, rw_, fc, fa, h1, h2⟩ := hs
  obtain ⟨hk_, hb_, _⟩ := STT.facts h2
  have x1_ := hX ((i : Int) + 1)
  have x2_ := hX ((i : Int) + 2)
  have i31_ := hX (-1)
  have hc0 : cc ≤ (cOf 307).1 ∧ ss ≤ (cOf 307).2 := ⟨by omega, by omega⟩
  refine wl_al hK rfl rfl ?_
  refine wl_al hK rfl rfl ?_
  refine wl_il hK rfl rfl ?_
  refine wl_ic hK rfl ?_
  refine wl_add hK rfl (by omega) (by omega) ?_
  refine wl_sat hK rfl (by omega) (by rw [hM]; omega) ?_
  rw [hM]
  refine wl_al hK rfl rfl ?_
  refine wl_il hK rfl rfl ?_
  refine wl_ic hK rfl ?_
  refine wl_add hK rfl (by omega) (by omega) ?_
  refine wl_sat hK rfl (by omega) (by rw [hM]; omega) ?_
  rw [hM]
  obtain ⟨v, B1⟩ := (b_plus hk_ hb_ (X ((i : Int) + 1)) (X ((i : Int) + 2)) x1_.1 x1_.2 x2_.1 x2_.2).two (d := D) h1 h2
  refine wl_call [(1, 0), (0, X ((i : Int) + 1)), (0, X ((i : Int) + 2))] hK rfl rfl rfl rfl (Or.inr ⟨_, _, _, rfl, by decide, by decide, rfl⟩) hc0 (B1.mono (by decide)) ?_
  rintro _ V ⟨rfl, f1_, B2⟩
  refine ⟨(by show (0 : Nat) ≠ 9; decide), (?_ : WL (D + 13) 54 [(1, -2), (1, 0), (1, 161), (1, 198), (0, (i : Int)), w5, w6, w7] [(0, v)] V cc ss)⟩
  have hV : V (-2) = X := (f1_ (-2) (by decide)).trans hM
  refine wl_al hK rfl rfl ?_
  refine wl_al hK rfl rfl ?_
  refine wl_il hK rfl rfl ?_
  refine wl_ic hK rfl ?_
  refine wl_add hK rfl (by omega) (by omega) ?_
  refine wl_sat hK rfl (by omega) (by rw [hV]; omega) ?_
  rw [hV]
  refine wl_al hK rfl rfl ?_
  refine wl_il hK rfl rfl ?_
  refine wl_ic hK rfl ?_
  refine wl_add hK rfl (by omega) (by omega) ?_
  refine wl_sat hK rfl (by omega) (by rw [hV]; omega) ?_
  rw [hV]
  refine wl_call [(1, 161), (0, X ((i : Int) + 1)), (0, X ((i : Int) + 2))] hK rfl rfl rfl rfl (Or.inr ⟨_, _, _, rfl, by decide, by decide, rfl⟩) hc0 (B2.mono (by decide)) ?_
  rintro _ V2 ⟨rfl, s2_, f2_⟩
  refine ⟨(by show (0 : Nat) ≠ 9; decide), (?_ : WL (D + 13) 66 [(1, -2), (1, 0), (1, 161), (1, 198), (0, (i : Int)), w5, w6, w7] [(0, v), (0, v)] V2 cc ss)⟩
  refine wl_same hK rfl ?_
  exact next V2 _ _ _ _ _ ((f2_ (-2) (by decide)).trans hM) s2_ (Or.inl ⟨rfl, rfl⟩)
set_option maxRecDepth 100000 in
theorem lc_2 {D : Nat} {X : Int → Int} {M : Mem} {i cc ss : Nat} {w5 w6 w7 : AV} (hX : ∀ j : Int, -2147483648 ≤ X j ∧ X j ≤ 2147483647) (hi : (i : Int) + 5 ≤ X (-1)) (hM : M (-2) = X) (hs : STT M) (hcs : cc + 1 ≤ (cOf 307).1 ∧ ss + 8 ≤ (cOf 307).2) (next : ∀ (M' : Mem) (v5 v6 v7 : AV) (c2 s2 : Nat), M' (-2) = X → STT M' → (c2 = cc ∧ s2 = ss) ∨ (c2 = cc + 1 ∧ s2 = ss + 8) → WL (D + 13) 1475 [(1, -2), (1, 0), (1, 161), (1, 198), (0, (i : Int)), v5, v6, v7] [] M' c2 s2) : WL (D + 13) 69 [(1, -2), (1, 0), (1, 161), (1, 198), (0, (i : Int)), w5, w6, w7] [] M cc ss := by
  have hK : cd 307 = k307 := rfl
  obtain ⟨k, pl, n, tx, rc, rw_, fc, fa, h1, h2⟩ := hs
  obtain ⟨hk_, hb_, _⟩ := STT.facts h2
  have x1_ := hX ((i : Int) + 1)
  have x2_ := hX ((i : Int) + 2)
  have i31_ := hX (-1)
  have hc0 : cc ≤ (cOf 307).1 ∧ ss ≤ (cOf 307).2 := ⟨by omega, by omega⟩
  refine wl_al hK rfl rfl ?_
  refine wl_al hK rfl rfl ?_
  refine wl_il hK rfl rfl ?_
  refine wl_ic hK rfl ?_
  refine wl_add hK rfl (by omega) (by omega) ?_
  refine wl_sat hK rfl (by omega) (by rw [hM]; omega) ?_
  rw [hM]
  refine wl_al hK rfl rfl ?_
  refine wl_il hK rfl rfl ?_
  refine wl_ic hK rfl ?_
  refine wl_add hK rfl (by omega) (by omega) ?_
  refine wl_sat hK rfl (by omega) (by rw [hM]; omega) ?_
  rw [hM]
  obtain ⟨v, B1⟩ := (b_times hk_ hb_ (X ((i : Int) + 1)) (X ((i : Int) + 2)) x1_.1 x1_.2 x2_.1 x2_.2).two (d := D) h1 h2
  refine wl_call [(1, 0), (0, X ((i : Int) + 1)), (0, X ((i : Int) + 2))] hK rfl rfl rfl rfl (Or.inr ⟨_, _, _, rfl, by decide, by decide, rfl⟩) hc0 (B1.mono (by decide)) ?_
  rintro _ V ⟨rfl, f1_, B2⟩
  refine ⟨(by show (0 : Nat) ≠ 9; decide), (?_ : WL (D + 13) 81 [(1, -2), (1, 0), (1, 161), (1, 198), (0, (i : Int)), w5, w6, w7] [(0, v)] V cc ss)⟩
  have hV : V (-2) = X := (f1_ (-2) (by decide)).trans hM
  refine wl_al hK rfl rfl ?_
  refine wl_al hK rfl rfl ?_
  refine wl_il hK rfl rfl ?_
  refine wl_ic hK rfl ?_
  refine wl_add hK rfl (by omega) (by omega) ?_
  refine wl_sat hK rfl (by omega) (by rw [hV]; omega) ?_
  rw [hV]
  refine wl_al hK rfl rfl ?_
  refine wl_il hK rfl rfl ?_
  refine wl_ic hK rfl ?_
  refine wl_add hK rfl (by omega) (by omega) ?_
  refine wl_sat hK rfl (by omega) (by rw [hV]; omega) ?_
  rw [hV]
  refine wl_call [(1, 161), (0, X ((i : Int) + 1)), (0, X ((i : Int) + 2))] hK rfl rfl rfl rfl (Or.inr ⟨_, _, _, rfl, by decide, by decide, rfl⟩) hc0 (B2.mono (by decide)) ?_
  rintro _ V2 ⟨rfl, s2_, f2_⟩
  refine ⟨(by show (0 : Nat) ≠ 9; decide), (?_ : WL (D + 13) 93 [(1, -2), (1, 0), (1, 161), (1, 198), (0, (i : Int)), w5, w6, w7] [(0, v), (0, v)] V2 cc ss)⟩
  refine wl_same hK rfl ?_
  exact next V2 _ _ _ _ _ ((f2_ (-2) (by decide)).trans hM) s2_ (Or.inl ⟨rfl, rfl⟩)
set_option maxRecDepth 100000 in
theorem lc_3 {D : Nat} {X : Int → Int} {M : Mem} {i cc ss : Nat} {w5 w6 w7 : AV} (hX : ∀ j : Int, -2147483648 ≤ X j ∧ X j ≤ 2147483647) (hi : (i : Int) + 5 ≤ X (-1)) (hM : M (-2) = X) (hs : STT M) (hcs : cc + 1 ≤ (cOf 307).1 ∧ ss + 8 ≤ (cOf 307).2) (next : ∀ (M' : Mem) (v5 v6 v7 : AV) (c2 s2 : Nat), M' (-2) = X → STT M' → (c2 = cc ∧ s2 = ss) ∨ (c2 = cc + 1 ∧ s2 = ss + 8) → WL (D + 13) 1475 [(1, -2), (1, 0), (1, 161), (1, 198), (0, (i : Int)), v5, v6, v7] [] M' c2 s2) : WL (D + 13) 96 [(1, -2), (1, 0), (1, 161), (1, 198), (0, (i : Int)), w5, w6, w7] [] M cc ss := by
  have hK : cd 307 = k307 := rfl
  obtain ⟨k, pl, n, tx, rc, rw_, fc, fa, h1, h2⟩ := hs
  obtain ⟨hk_, hb_, _⟩ := STT.facts h2
  have x1_ := hX ((i : Int) + 1)
  have i31_ := hX (-1)
  have hc0 : cc ≤ (cOf 307).1 ∧ ss ≤ (cOf 307).2 := ⟨by omega, by omega⟩
  refine wl_al hK rfl rfl ?_
  refine wl_al hK rfl rfl ?_
  refine wl_il hK rfl rfl ?_
  refine wl_ic hK rfl ?_
  refine wl_add hK rfl (by omega) (by omega) ?_
  refine wl_sat hK rfl (by omega) (by rw [hM]; omega) ?_
  rw [hM]
  obtain ⟨v, B1⟩ := (b_inverse hk_ hb_ (X ((i : Int) + 1)) x1_.1 x1_.2).two (d := D) h1 h2
  refine wl_call [(1, 0), (0, X ((i : Int) + 1))] hK rfl rfl rfl rfl (Or.inr ⟨_, _, _, rfl, by decide, by decide, rfl⟩) hc0 (B1.mono (by decide)) ?_
  rintro _ V ⟨rfl, f1_, B2⟩
  refine ⟨(by show (0 : Nat) ≠ 9; decide), (?_ : WL (D + 13) 103 [(1, -2), (1, 0), (1, 161), (1, 198), (0, (i : Int)), w5, w6, w7] [(0, v)] V cc ss)⟩
  have hV : V (-2) = X := (f1_ (-2) (by decide)).trans hM
  refine wl_al hK rfl rfl ?_
  refine wl_al hK rfl rfl ?_
  refine wl_il hK rfl rfl ?_
  refine wl_ic hK rfl ?_
  refine wl_add hK rfl (by omega) (by omega) ?_
  refine wl_sat hK rfl (by omega) (by rw [hV]; omega) ?_
  rw [hV]
  refine wl_call [(1, 161), (0, X ((i : Int) + 1))] hK rfl rfl rfl rfl (Or.inr ⟨_, _, _, rfl, by decide, by decide, rfl⟩) hc0 (B2.mono (by decide)) ?_
  rintro _ V2 ⟨rfl, s2_, f2_⟩
  refine ⟨(by show (0 : Nat) ≠ 9; decide), (?_ : WL (D + 13) 110 [(1, -2), (1, 0), (1, 161), (1, 198), (0, (i : Int)), w5, w6, w7] [(0, v), (0, v)] V2 cc ss)⟩
  refine wl_same hK rfl ?_
  exact next V2 _ _ _ _ _ ((f2_ (-2) (by decide)).trans hM) s2_ (Or.inl ⟨rfl, rfl⟩)
set_option maxRecDepth 100000 in
theorem lc_4 {D : Nat} {X : Int → Int} {M : Mem} {i cc ss : Nat} {w5 w6 w7 : AV} (hX : ∀ j : Int, -2147483648 ≤ X j ∧ X j ≤ 2147483647) (hi : (i : Int) + 5 ≤ X (-1)) (hM : M (-2) = X) (hs : STT M) (hcs : cc + 1 ≤ (cOf 307).1 ∧ ss + 8 ≤ (cOf 307).2) (next : ∀ (M' : Mem) (v5 v6 v7 : AV) (c2 s2 : Nat), M' (-2) = X → STT M' → (c2 = cc ∧ s2 = ss) ∨ (c2 = cc + 1 ∧ s2 = ss + 8) → WL (D + 13) 1475 [(1, -2), (1, 0), (1, 161), (1, 198), (0, (i : Int)), v5, v6, v7] [] M' c2 s2) : WL (D + 13) 113 [(1, -2), (1, 0), (1, 161), (1, 198), (0, (i : Int)), w5, w6, w7] [] M cc ss := by
  have hK : cd 307 = k307 := rfl
  obtain ⟨k, pl, n, tx, rc, rw_, fc, fa, h1, h2⟩ := hs
  obtain ⟨hk_, hb_, _⟩ := STT.facts h2
  have x1_ := hX ((i : Int) + 1)
  have x2_ := hX ((i : Int) + 2)
  have i31_ := hX (-1)
  have hc0 : cc ≤ (cOf 307).1 ∧ ss ≤ (cOf 307).2 := ⟨by omega, by omega⟩
  refine wl_al hK rfl rfl ?_
  refine wl_al hK rfl rfl ?_
  refine wl_il hK rfl rfl ?_
  refine wl_ic hK rfl ?_
  refine wl_add hK rfl (by omega) (by omega) ?_
  refine wl_sat hK rfl (by omega) (by rw [hM]; omega) ?_
  rw [hM]
  refine wl_al hK rfl rfl ?_
  refine wl_il hK rfl rfl ?_
  refine wl_ic hK rfl ?_
  refine wl_add hK rfl (by omega) (by omega) ?_
  refine wl_sat hK rfl (by omega) (by rw [hM]; omega) ?_
  rw [hM]
  obtain ⟨v, B1⟩ := (b_map hk_ hb_ (X ((i : Int) + 1)) (X ((i : Int) + 2)) x1_.1 x1_.2 x2_.1 x2_.2).two (d := D) h1 h2
  refine wl_call [(1, 0), (0, X ((i : Int) + 1)), (0, X ((i : Int) + 2))] hK rfl rfl rfl rfl (Or.inr ⟨_, _, _, rfl, by decide, by decide, rfl⟩) hc0 (B1.mono (by decide)) ?_
  rintro _ V ⟨rfl, f1_, B2⟩
  refine ⟨(by show (0 : Nat) ≠ 9; decide), (?_ : WL (D + 13) 125 [(1, -2), (1, 0), (1, 161), (1, 198), (0, (i : Int)), w5, w6, w7] [(0, v)] V cc ss)⟩
  have hV : V (-2) = X := (f1_ (-2) (by decide)).trans hM
  refine wl_al hK rfl rfl ?_
  refine wl_al hK rfl rfl ?_
  refine wl_il hK rfl rfl ?_
  refine wl_ic hK rfl ?_
  refine wl_add hK rfl (by omega) (by omega) ?_
  refine wl_sat hK rfl (by omega) (by rw [hV]; omega) ?_
  rw [hV]
  refine wl_al hK rfl rfl ?_
  refine wl_il hK rfl rfl ?_
  refine wl_ic hK rfl ?_
  refine wl_add hK rfl (by omega) (by omega) ?_
  refine wl_sat hK rfl (by omega) (by rw [hV]; omega) ?_
  rw [hV]
  refine wl_call [(1, 161), (0, X ((i : Int) + 1)), (0, X ((i : Int) + 2))] hK rfl rfl rfl rfl (Or.inr ⟨_, _, _, rfl, by decide, by decide, rfl⟩) hc0 (B2.mono (by decide)) ?_
  rintro _ V2 ⟨rfl, s2_, f2_⟩
  refine ⟨(by show (0 : Nat) ≠ 9; decide), (?_ : WL (D + 13) 137 [(1, -2), (1, 0), (1, 161), (1, 198), (0, (i : Int)), w5, w6, w7] [(0, v), (0, v)] V2 cc ss)⟩
  refine wl_same hK rfl ?_
  exact next V2 _ _ _ _ _ ((f2_ (-2) (by decide)).trans hM) s2_ (Or.inl ⟨rfl, rfl⟩)
set_option maxRecDepth 100000 in
theorem lc_5 {D : Nat} {X : Int → Int} {M : Mem} {i cc ss : Nat} {w5 w6 w7 : AV} (hX : ∀ j : Int, -2147483648 ≤ X j ∧ X j ≤ 2147483647) (hi : (i : Int) + 5 ≤ X (-1)) (hM : M (-2) = X) (hs : STT M) (hcs : cc + 1 ≤ (cOf 307).1 ∧ ss + 8 ≤ (cOf 307).2) (next : ∀ (M' : Mem) (v5 v6 v7 : AV) (c2 s2 : Nat), M' (-2) = X → STT M' → (c2 = cc ∧ s2 = ss) ∨ (c2 = cc + 1 ∧ s2 = ss + 8) → WL (D + 13) 1475 [(1, -2), (1, 0), (1, 161), (1, 198), (0, (i : Int)), v5, v6, v7] [] M' c2 s2) : WL (D + 13) 140 [(1, -2), (1, 0), (1, 161), (1, 198), (0, (i : Int)), w5, w6, w7] [] M cc ss := by
  have hK : cd 307 = k307 := rfl
  obtain ⟨k, pl, n, tx, rc, rw_, fc, fa, h1, h2⟩ := hs
  obtain ⟨hk_, hb_, _⟩ := STT.facts h2
  have x1_ := hX ((i : Int) + 1)
  have x2_ := hX ((i : Int) + 2)
  have i31_ := hX (-1)
  have hc0 : cc ≤ (cOf 307).1 ∧ ss ≤ (cOf 307).2 := ⟨by omega, by omega⟩
  refine wl_al hK rfl rfl ?_
  refine wl_al hK rfl rfl ?_
  refine wl_il hK rfl rfl ?_
  refine wl_ic hK rfl ?_
  refine wl_add hK rfl (by omega) (by omega) ?_
  refine wl_sat hK rfl (by omega) (by rw [hM]; omega) ?_
  rw [hM]
  refine wl_al hK rfl rfl ?_
  refine wl_il hK rfl rfl ?_
  refine wl_ic hK rfl ?_
  refine wl_add hK rfl (by omega) (by omega) ?_
  refine wl_sat hK rfl (by omega) (by rw [hM]; omega) ?_
  rw [hM]
  obtain ⟨v, B1⟩ := (b_norm hk_ hb_ (X ((i : Int) + 1)) (X ((i : Int) + 2)) x1_.1 x1_.2 x2_.1 x2_.2).two (d := D) h1 h2
  refine wl_call [(1, 0), (0, X ((i : Int) + 1)), (0, X ((i : Int) + 2))] hK rfl rfl rfl rfl (Or.inr ⟨_, _, _, rfl, by decide, by decide, rfl⟩) hc0 (B1.mono (by decide)) ?_
  rintro _ V ⟨rfl, f1_, B2⟩
  refine ⟨(by show (0 : Nat) ≠ 9; decide), (?_ : WL (D + 13) 152 [(1, -2), (1, 0), (1, 161), (1, 198), (0, (i : Int)), w5, w6, w7] [(0, v)] V cc ss)⟩
  have hV : V (-2) = X := (f1_ (-2) (by decide)).trans hM
  refine wl_al hK rfl rfl ?_
  refine wl_al hK rfl rfl ?_
  refine wl_il hK rfl rfl ?_
  refine wl_ic hK rfl ?_
  refine wl_add hK rfl (by omega) (by omega) ?_
  refine wl_sat hK rfl (by omega) (by rw [hV]; omega) ?_
  rw [hV]
  refine wl_al hK rfl rfl ?_
  refine wl_il hK rfl rfl ?_
  refine wl_ic hK rfl ?_
  refine wl_add hK rfl (by omega) (by omega) ?_
  refine wl_sat hK rfl (by omega) (by rw [hV]; omega) ?_
  rw [hV]
  refine wl_call [(1, 161), (0, X ((i : Int) + 1)), (0, X ((i : Int) + 2))] hK rfl rfl rfl rfl (Or.inr ⟨_, _, _, rfl, by decide, by decide, rfl⟩) hc0 (B2.mono (by decide)) ?_
  rintro _ V2 ⟨rfl, s2_, f2_⟩
  refine ⟨(by show (0 : Nat) ≠ 9; decide), (?_ : WL (D + 13) 164 [(1, -2), (1, 0), (1, 161), (1, 198), (0, (i : Int)), w5, w6, w7] [(0, v), (0, v)] V2 cc ss)⟩
  refine wl_same hK rfl ?_
  exact next V2 _ _ _ _ _ ((f2_ (-2) (by decide)).trans hM) s2_ (Or.inl ⟨rfl, rfl⟩)
set_option maxRecDepth 100000 in
theorem lc_6 {D : Nat} {X : Int → Int} {M : Mem} {i cc ss : Nat} {w5 w6 w7 : AV} (hX : ∀ j : Int, -2147483648 ≤ X j ∧ X j ≤ 2147483647) (hi : (i : Int) + 5 ≤ X (-1)) (hM : M (-2) = X) (hs : STT M) (hcs : cc + 1 ≤ (cOf 307).1 ∧ ss + 8 ≤ (cOf 307).2) (next : ∀ (M' : Mem) (v5 v6 v7 : AV) (c2 s2 : Nat), M' (-2) = X → STT M' → (c2 = cc ∧ s2 = ss) ∨ (c2 = cc + 1 ∧ s2 = ss + 8) → WL (D + 13) 1475 [(1, -2), (1, 0), (1, 161), (1, 198), (0, (i : Int)), v5, v6, v7] [] M' c2 s2) : WL (D + 13) 167 [(1, -2), (1, 0), (1, 161), (1, 198), (0, (i : Int)), w5, w6, w7] [] M cc ss := by
  have hK : cd 307 = k307 := rfl
  obtain ⟨k, pl, n, tx, rc, rw_, fc, fa, h1, h2⟩ := hs
  obtain ⟨hk_, hb_, _⟩ := STT.facts h2
  have x1_ := hX ((i : Int) + 1)
  have i31_ := hX (-1)
  have hc0 : cc ≤ (cOf 307).1 ∧ ss ≤ (cOf 307).2 := ⟨by omega, by omega⟩
  refine wl_al hK rfl rfl ?_
  refine wl_al hK rfl rfl ?_
  refine wl_il hK rfl rfl ?_
  refine wl_ic hK rfl ?_
  refine wl_add hK rfl (by omega) (by omega) ?_
  refine wl_sat hK rfl (by omega) (by rw [hM]; omega) ?_
  rw [hM]
  obtain ⟨v, B1⟩ := (b_conj hk_ hb_ (X ((i : Int) + 1)) x1_.1 x1_.2).two (d := D) h1 h2
  refine wl_call [(1, 0), (0, X ((i : Int) + 1))] hK rfl rfl rfl rfl (Or.inr ⟨_, _, _, rfl, by decide, by decide, rfl⟩) hc0 (B1.mono (by decide)) ?_
  rintro _ V ⟨rfl, f1_, B2⟩
  refine ⟨(by show (0 : Nat) ≠ 9; decide), (?_ : WL (D + 13) 174 [(1, -2), (1, 0), (1, 161), (1, 198), (0, (i : Int)), w5, w6, w7] [(0, v)] V cc ss)⟩
  have hV : V (-2) = X := (f1_ (-2) (by decide)).trans hM
  refine wl_al hK rfl rfl ?_
  refine wl_al hK rfl rfl ?_
  refine wl_il hK rfl rfl ?_
  refine wl_ic hK rfl ?_
  refine wl_add hK rfl (by omega) (by omega) ?_
  refine wl_sat hK rfl (by omega) (by rw [hV]; omega) ?_
  rw [hV]
  refine wl_call [(1, 161), (0, X ((i : Int) + 1))] hK rfl rfl rfl rfl (Or.inr ⟨_, _, _, rfl, by decide, by decide, rfl⟩) hc0 (B2.mono (by decide)) ?_
  rintro _ V2 ⟨rfl, s2_, f2_⟩
  refine ⟨(by show (0 : Nat) ≠ 9; decide), (?_ : WL (D + 13) 181 [(1, -2), (1, 0), (1, 161), (1, 198), (0, (i : Int)), w5, w6, w7] [(0, v), (0, v)] V2 cc ss)⟩
  refine wl_same hK rfl ?_
  exact next V2 _ _ _ _ _ ((f2_ (-2) (by decide)).trans hM) s2_ (Or.inl ⟨rfl, rfl⟩)
set_option maxRecDepth 100000 in
theorem lc_7 {D : Nat} {X : Int → Int} {M : Mem} {i cc ss : Nat} {w5 w6 w7 : AV} (hX : ∀ j : Int, -2147483648 ≤ X j ∧ X j ≤ 2147483647) (hi : (i : Int) + 5 ≤ X (-1)) (hM : M (-2) = X) (hs : STT M) (hcs : cc + 1 ≤ (cOf 307).1 ∧ ss + 8 ≤ (cOf 307).2) (next : ∀ (M' : Mem) (v5 v6 v7 : AV) (c2 s2 : Nat), M' (-2) = X → STT M' → (c2 = cc ∧ s2 = ss) ∨ (c2 = cc + 1 ∧ s2 = ss + 8) → WL (D + 13) 1475 [(1, -2), (1, 0), (1, 161), (1, 198), (0, (i : Int)), v5, v6, v7] [] M' c2 s2) : WL (D + 13) 184 [(1, -2), (1, 0), (1, 161), (1, 198), (0, (i : Int)), w5, w6, w7] [] M cc ss := by
  have hK : cd 307 = k307 := rfl
  obtain ⟨k, pl, n, tx, rc, rw_, fc, fa, h1, h2⟩ := hs
  obtain ⟨hk_, hb_, _⟩ := STT.facts h2
  have i31_ := hX (-1)
  have hc0 : cc ≤ (cOf 307).1 ∧ ss ≤ (cOf 307).2 := ⟨by omega, by omega⟩
  refine wl_al hK rfl rfl ?_
  obtain ⟨v, B1⟩ := (b_classes hk_ hb_).two (d := D) h1 h2
  refine wl_call [(1, 0)] hK rfl rfl rfl rfl (Or.inr ⟨_, _, _, rfl, by decide, by decide, rfl⟩) hc0 (B1.mono (by decide)) ?_
  rintro _ V ⟨rfl, f1_, B2⟩
  refine ⟨(by show (0 : Nat) ≠ 9; decide), (?_ : WL (D + 13) 186 [(1, -2), (1, 0), (1, 161), (1, 198), (0, (i : Int)), w5, w6, w7] [(0, v)] V cc ss)⟩
  have hV : V (-2) = X := (f1_ (-2) (by decide)).trans hM
  refine wl_al hK rfl rfl ?_
  refine wl_call [(1, 161)] hK rfl rfl rfl rfl (Or.inr ⟨_, _, _, rfl, by decide, by decide, rfl⟩) hc0 (B2.mono (by decide)) ?_
  rintro _ V2 ⟨rfl, s2_, f2_⟩
  refine ⟨(by show (0 : Nat) ≠ 9; decide), (?_ : WL (D + 13) 188 [(1, -2), (1, 0), (1, 161), (1, 198), (0, (i : Int)), w5, w6, w7] [(0, v), (0, v)] V2 cc ss)⟩
  refine wl_same hK rfl ?_
  exact next V2 _ _ _ _ _ ((f2_ (-2) (by decide)).trans hM) s2_ (Or.inl ⟨rfl, rfl⟩)
set_option maxRecDepth 100000 in
theorem lc_8 {D : Nat} {X : Int → Int} {M : Mem} {i cc ss : Nat} {w5 w6 w7 : AV} (hX : ∀ j : Int, -2147483648 ≤ X j ∧ X j ≤ 2147483647) (hi : (i : Int) + 5 ≤ X (-1)) (hM : M (-2) = X) (hs : STT M) (hcs : cc + 1 ≤ (cOf 307).1 ∧ ss + 8 ≤ (cOf 307).2) (next : ∀ (M' : Mem) (v5 v6 v7 : AV) (c2 s2 : Nat), M' (-2) = X → STT M' → (c2 = cc ∧ s2 = ss) ∨ (c2 = cc + 1 ∧ s2 = ss + 8) → WL (D + 13) 1475 [(1, -2), (1, 0), (1, 161), (1, 198), (0, (i : Int)), v5, v6, v7] [] M' c2 s2) : WL (D + 13) 191 [(1, -2), (1, 0), (1, 161), (1, 198), (0, (i : Int)), w5, w6, w7] [] M cc ss := by
  have hK : cd 307 = k307 := rfl
  obtain ⟨k, pl, n, tx, rc, rw_, fc, fa, h1, h2⟩ := hs
  obtain ⟨hk_, hb_, _⟩ := STT.facts h2
  have x1_ := hX ((i : Int) + 1)
  have i31_ := hX (-1)
  have hc0 : cc ≤ (cOf 307).1 ∧ ss ≤ (cOf 307).2 := ⟨by omega, by omega⟩
  refine wl_al hK rfl rfl ?_
  refine wl_al hK rfl rfl ?_
  refine wl_il hK rfl rfl ?_
  refine wl_ic hK rfl ?_
  refine wl_add hK rfl (by omega) (by omega) ?_
  refine wl_sat hK rfl (by omega) (by rw [hM]; omega) ?_
  rw [hM]
  obtain ⟨v, B1⟩ := (b_sign hk_ hb_ (X ((i : Int) + 1)) x1_.1 x1_.2).two (d := D) h1 h2
  refine wl_call [(1, 0), (0, X ((i : Int) + 1))] hK rfl rfl rfl rfl (Or.inr ⟨_, _, _, rfl, by decide, by decide, rfl⟩) hc0 (B1.mono (by decide)) ?_
  rintro _ V ⟨rfl, f1_, B2⟩
  refine ⟨(by show (0 : Nat) ≠ 9; decide), (?_ : WL (D + 13) 198 [(1, -2), (1, 0), (1, 161), (1, 198), (0, (i : Int)), w5, w6, w7] [(0, v)] V cc ss)⟩
  have hV : V (-2) = X := (f1_ (-2) (by decide)).trans hM
  refine wl_al hK rfl rfl ?_
  refine wl_al hK rfl rfl ?_
  refine wl_il hK rfl rfl ?_
  refine wl_ic hK rfl ?_
  refine wl_add hK rfl (by omega) (by omega) ?_
  refine wl_sat hK rfl (by omega) (by rw [hV]; omega) ?_
  rw [hV]
  refine wl_call [(1, 161), (0, X ((i : Int) + 1))] hK rfl rfl rfl rfl (Or.inr ⟨_, _, _, rfl, by decide, by decide, rfl⟩) hc0 (B2.mono (by decide)) ?_
  rintro _ V2 ⟨rfl, s2_, f2_⟩
  refine ⟨(by show (0 : Nat) ≠ 9; decide), (?_ : WL (D + 13) 205 [(1, -2), (1, 0), (1, 161), (1, 198), (0, (i : Int)), w5, w6, w7] [(0, v), (0, v)] V2 cc ss)⟩
  refine wl_same hK rfl ?_
  exact next V2 _ _ _ _ _ ((f2_ (-2) (by decide)).trans hM) s2_ (Or.inl ⟨rfl, rfl⟩)
set_option maxRecDepth 100000 in
theorem lc_9 {D : Nat} {X : Int → Int} {M : Mem} {i cc ss : Nat} {w5 w6 w7 : AV} (hX : ∀ j : Int, -2147483648 ≤ X j ∧ X j ≤ 2147483647) (hi : (i : Int) + 5 ≤ X (-1)) (hM : M (-2) = X) (hs : STT M) (hcs : cc + 1 ≤ (cOf 307).1 ∧ ss + 8 ≤ (cOf 307).2) (next : ∀ (M' : Mem) (v5 v6 v7 : AV) (c2 s2 : Nat), M' (-2) = X → STT M' → (c2 = cc ∧ s2 = ss) ∨ (c2 = cc + 1 ∧ s2 = ss + 8) → WL (D + 13) 1475 [(1, -2), (1, 0), (1, 161), (1, 198), (0, (i : Int)), v5, v6, v7] [] M' c2 s2) : WL (D + 13) 208 [(1, -2), (1, 0), (1, 161), (1, 198), (0, (i : Int)), w5, w6, w7] [] M cc ss := by
  have hK : cd 307 = k307 := rfl
  obtain ⟨k, pl, n, tx, rc, rw_, fc, fa, h1, h2⟩ := hs
  obtain ⟨hk_, hb_, _⟩ := STT.facts h2
  have x1_ := hX ((i : Int) + 1)
  have i31_ := hX (-1)
  have hc0 : cc ≤ (cOf 307).1 ∧ ss ≤ (cOf 307).2 := ⟨by omega, by omega⟩
  refine wl_al hK rfl rfl ?_
  refine wl_al hK rfl rfl ?_
  refine wl_il hK rfl rfl ?_
  refine wl_ic hK rfl ?_
  refine wl_add hK rfl (by omega) (by omega) ?_
  refine wl_sat hK rfl (by omega) (by rw [hM]; omega) ?_
  rw [hM]
  obtain ⟨v, B1⟩ := (b_end hk_ hb_ (X ((i : Int) + 1)) x1_.1 x1_.2).two (d := D) h1 h2
  refine wl_call [(1, 0), (0, X ((i : Int) + 1))] hK rfl rfl rfl rfl (Or.inr ⟨_, _, _, rfl, by decide, by decide, rfl⟩) hc0 (B1.mono (by decide)) ?_
  rintro _ V ⟨rfl, f1_, B2⟩
  refine ⟨(by show (0 : Nat) ≠ 9; decide), (?_ : WL (D + 13) 215 [(1, -2), (1, 0), (1, 161), (1, 198), (0, (i : Int)), w5, w6, w7] [(0, v)] V cc ss)⟩
  have hV : V (-2) = X := (f1_ (-2) (by decide)).trans hM
  refine wl_al hK rfl rfl ?_
  refine wl_al hK rfl rfl ?_
  refine wl_il hK rfl rfl ?_
  refine wl_ic hK rfl ?_
  refine wl_add hK rfl (by omega) (by omega) ?_
  refine wl_sat hK rfl (by omega) (by rw [hV]; omega) ?_
  rw [hV]
  refine wl_call [(1, 161), (0, X ((i : Int) + 1))] hK rfl rfl rfl rfl (Or.inr ⟨_, _, _, rfl, by decide, by decide, rfl⟩) hc0 (B2.mono (by decide)) ?_
  rintro _ V2 ⟨rfl, s2_, f2_⟩
  refine ⟨(by show (0 : Nat) ≠ 9; decide), (?_ : WL (D + 13) 222 [(1, -2), (1, 0), (1, 161), (1, 198), (0, (i : Int)), w5, w6, w7] [(0, v), (0, v)] V2 cc ss)⟩
  refine wl_same hK rfl ?_
  exact next V2 _ _ _ _ _ ((f2_ (-2) (by decide)).trans hM) s2_ (Or.inl ⟨rfl, rfl⟩)
set_option maxRecDepth 100000 in
theorem lc_10 {D : Nat} {X : Int → Int} {M : Mem} {i cc ss : Nat} {w5 w6 w7 : AV} (hX : ∀ j : Int, -2147483648 ≤ X j ∧ X j ≤ 2147483647) (hi : (i : Int) + 5 ≤ X (-1)) (hM : M (-2) = X) (hs : STT M) (hcs : cc + 1 ≤ (cOf 307).1 ∧ ss + 8 ≤ (cOf 307).2) (next : ∀ (M' : Mem) (v5 v6 v7 : AV) (c2 s2 : Nat), M' (-2) = X → STT M' → (c2 = cc ∧ s2 = ss) ∨ (c2 = cc + 1 ∧ s2 = ss + 8) → WL (D + 13) 1475 [(1, -2), (1, 0), (1, 161), (1, 198), (0, (i : Int)), v5, v6, v7] [] M' c2 s2) : WL (D + 13) 225 [(1, -2), (1, 0), (1, 161), (1, 198), (0, (i : Int)), w5, w6, w7] [] M cc ss := by
  have hK : cd 307 = k307 := rfl
  obtain ⟨k, pl, n, tx, rc, rw_, fc, fa, h1, h2⟩ := hs
  obtain ⟨hk_, hb_, _⟩ := STT.facts h2
  have x1_ := hX ((i : Int) + 1)
  have i31_ := hX (-1)
  have hc0 : cc ≤ (cOf 307).1 ∧ ss ≤ (cOf 307).2 := ⟨by omega, by omega⟩
  refine wl_al hK rfl rfl ?_
  refine wl_al hK rfl rfl ?_
  refine wl_il hK rfl rfl ?_
  refine wl_ic hK rfl ?_
  refine wl_add hK rfl (by omega) (by omega) ?_
  refine wl_sat hK rfl (by omega) (by rw [hM]; omega) ?_
  rw [hM]
  obtain ⟨v, B1⟩ := (b_tells hk_ hb_ (X ((i : Int) + 1)) x1_.1 x1_.2).two (d := D) h1 h2
  refine wl_call [(1, 0), (0, X ((i : Int) + 1))] hK rfl rfl rfl rfl (Or.inr ⟨_, _, _, rfl, by decide, by decide, rfl⟩) hc0 (B1.mono (by decide)) ?_
  rintro _ V ⟨rfl, f1_, B2⟩
  refine ⟨(by show (0 : Nat) ≠ 9; decide), (?_ : WL (D + 13) 232 [(1, -2), (1, 0), (1, 161), (1, 198), (0, (i : Int)), w5, w6, w7] [(0, v)] V cc ss)⟩
  have hV : V (-2) = X := (f1_ (-2) (by decide)).trans hM
  refine wl_al hK rfl rfl ?_
  refine wl_al hK rfl rfl ?_
  refine wl_il hK rfl rfl ?_
  refine wl_ic hK rfl ?_
  refine wl_add hK rfl (by omega) (by omega) ?_
  refine wl_sat hK rfl (by omega) (by rw [hV]; omega) ?_
  rw [hV]
  refine wl_call [(1, 161), (0, X ((i : Int) + 1))] hK rfl rfl rfl rfl (Or.inr ⟨_, _, _, rfl, by decide, by decide, rfl⟩) hc0 (B2.mono (by decide)) ?_
  rintro _ V2 ⟨rfl, s2_, f2_⟩
  refine ⟨(by show (0 : Nat) ≠ 9; decide), (?_ : WL (D + 13) 239 [(1, -2), (1, 0), (1, 161), (1, 198), (0, (i : Int)), w5, w6, w7] [(0, v), (0, v)] V2 cc ss)⟩
  refine wl_same hK rfl ?_
  exact next V2 _ _ _ _ _ ((f2_ (-2) (by decide)).trans hM) s2_ (Or.inl ⟨rfl, rfl⟩)
set_option maxRecDepth 100000 in
theorem lc_11 {D : Nat} {X : Int → Int} {M : Mem} {i cc ss : Nat} {w5 w6 w7 : AV} (hX : ∀ j : Int, -2147483648 ≤ X j ∧ X j ≤ 2147483647) (hi : (i : Int) + 5 ≤ X (-1)) (hM : M (-2) = X) (hs : STT M) (hcs : cc + 1 ≤ (cOf 307).1 ∧ ss + 8 ≤ (cOf 307).2) (next : ∀ (M' : Mem) (v5 v6 v7 : AV) (c2 s2 : Nat), M' (-2) = X → STT M' → (c2 = cc ∧ s2 = ss) ∨ (c2 = cc + 1 ∧ s2 = ss + 8) → WL (D + 13) 1475 [(1, -2), (1, 0), (1, 161), (1, 198), (0, (i : Int)), v5, v6, v7] [] M' c2 s2) : WL (D + 13) 242 [(1, -2), (1, 0), (1, 161), (1, 198), (0, (i : Int)), w5, w6, w7] [] M cc ss := by
  have hK : cd 307 = k307 := rfl
  obtain ⟨k, pl, n, tx, rc, rw_, fc, fa, h1, h2⟩ := hs
  obtain ⟨hk_, hb_, _⟩ := STT.facts h2
  have x1_ := hX ((i : Int) + 1)
  have i31_ := hX (-1)
  have hc0 : cc ≤ (cOf 307).1 ∧ ss ≤ (cOf 307).2 := ⟨by omega, by omega⟩
  refine wl_al hK rfl rfl ?_
  refine wl_al hK rfl rfl ?_
  refine wl_il hK rfl rfl ?_
  refine wl_ic hK rfl ?_
  refine wl_add hK rfl (by omega) (by omega) ?_
  refine wl_sat hK rfl (by omega) (by rw [hM]; omega) ?_
  rw [hM]
  obtain ⟨v, B1⟩ := (b_degree hk_ hb_ (X ((i : Int) + 1)) x1_.1 x1_.2).two (d := D) h1 h2
  refine wl_call [(1, 0), (0, X ((i : Int) + 1))] hK rfl rfl rfl rfl (Or.inr ⟨_, _, _, rfl, by decide, by decide, rfl⟩) hc0 (B1.mono (by decide)) ?_
  rintro _ V ⟨rfl, f1_, B2⟩
  refine ⟨(by show (0 : Nat) ≠ 9; decide), (?_ : WL (D + 13) 249 [(1, -2), (1, 0), (1, 161), (1, 198), (0, (i : Int)), w5, w6, w7] [(0, v)] V cc ss)⟩
  have hV : V (-2) = X := (f1_ (-2) (by decide)).trans hM
  refine wl_al hK rfl rfl ?_
  refine wl_al hK rfl rfl ?_
  refine wl_il hK rfl rfl ?_
  refine wl_ic hK rfl ?_
  refine wl_add hK rfl (by omega) (by omega) ?_
  refine wl_sat hK rfl (by omega) (by rw [hV]; omega) ?_
  rw [hV]
  refine wl_call [(1, 161), (0, X ((i : Int) + 1))] hK rfl rfl rfl rfl (Or.inr ⟨_, _, _, rfl, by decide, by decide, rfl⟩) hc0 (B2.mono (by decide)) ?_
  rintro _ V2 ⟨rfl, s2_, f2_⟩
  refine ⟨(by show (0 : Nat) ≠ 9; decide), (?_ : WL (D + 13) 256 [(1, -2), (1, 0), (1, 161), (1, 198), (0, (i : Int)), w5, w6, w7] [(0, v), (0, v)] V2 cc ss)⟩
  refine wl_same hK rfl ?_
  exact next V2 _ _ _ _ _ ((f2_ (-2) (by decide)).trans hM) s2_ (Or.inl ⟨rfl, rfl⟩)
set_option maxRecDepth 100000 in
theorem lc_12 {D : Nat} {X : Int → Int} {M : Mem} {i cc ss : Nat} {w5 w6 w7 : AV} (hX : ∀ j : Int, -2147483648 ≤ X j ∧ X j ≤ 2147483647) (hi : (i : Int) + 5 ≤ X (-1)) (hM : M (-2) = X) (hs : STT M) (hcs : cc + 1 ≤ (cOf 307).1 ∧ ss + 8 ≤ (cOf 307).2) (next : ∀ (M' : Mem) (v5 v6 v7 : AV) (c2 s2 : Nat), M' (-2) = X → STT M' → (c2 = cc ∧ s2 = ss) ∨ (c2 = cc + 1 ∧ s2 = ss + 8) → WL (D + 13) 1475 [(1, -2), (1, 0), (1, 161), (1, 198), (0, (i : Int)), v5, v6, v7] [] M' c2 s2) : WL (D + 13) 259 [(1, -2), (1, 0), (1, 161), (1, 198), (0, (i : Int)), w5, w6, w7] [] M cc ss := by
  have hK : cd 307 = k307 := rfl
  obtain ⟨k, pl, n, tx, rc, rw_, fc, fa, h1, h2⟩ := hs
  obtain ⟨hk_, hb_, _⟩ := STT.facts h2
  have x1_ := hX ((i : Int) + 1)
  have x2_ := hX ((i : Int) + 2)
  have i31_ := hX (-1)
  have hc0 : cc ≤ (cOf 307).1 ∧ ss ≤ (cOf 307).2 := ⟨by omega, by omega⟩
  refine wl_al hK rfl rfl ?_
  refine wl_al hK rfl rfl ?_
  refine wl_il hK rfl rfl ?_
  refine wl_ic hK rfl ?_
  refine wl_add hK rfl (by omega) (by omega) ?_
  refine wl_sat hK rfl (by omega) (by rw [hM]; omega) ?_
  rw [hM]
  refine wl_al hK rfl rfl ?_
  refine wl_il hK rfl rfl ?_
  refine wl_ic hK rfl ?_
  refine wl_add hK rfl (by omega) (by omega) ?_
  refine wl_sat hK rfl (by omega) (by rw [hM]; omega) ?_
  rw [hM]
  obtain ⟨v, B1⟩ := (b_number hk_ hb_ (X ((i : Int) + 1)) (X ((i : Int) + 2)) x1_.1 x1_.2 x2_.1 x2_.2).two (d := D) h1 h2
  refine wl_call [(1, 0), (0, X ((i : Int) + 1)), (0, X ((i : Int) + 2))] hK rfl rfl rfl rfl (Or.inr ⟨_, _, _, rfl, by decide, by decide, rfl⟩) hc0 (B1.mono (by decide)) ?_
  rintro _ V ⟨rfl, f1_, B2⟩
  refine ⟨(by show (0 : Nat) ≠ 9; decide), (?_ : WL (D + 13) 271 [(1, -2), (1, 0), (1, 161), (1, 198), (0, (i : Int)), w5, w6, w7] [(0, v)] V cc ss)⟩
  have hV : V (-2) = X := (f1_ (-2) (by decide)).trans hM
  refine wl_al hK rfl rfl ?_
  refine wl_al hK rfl rfl ?_
  refine wl_il hK rfl rfl ?_
  refine wl_ic hK rfl ?_
  refine wl_add hK rfl (by omega) (by omega) ?_
  refine wl_sat hK rfl (by omega) (by rw [hV]; omega) ?_
  rw [hV]
  refine wl_al hK rfl rfl ?_
  refine wl_il hK rfl rfl ?_
  refine wl_ic hK rfl ?_
  refine wl_add hK rfl (by omega) (by omega) ?_
  refine wl_sat hK rfl (by omega) (by rw [hV]; omega) ?_
  rw [hV]
  refine wl_call [(1, 161), (0, X ((i : Int) + 1)), (0, X ((i : Int) + 2))] hK rfl rfl rfl rfl (Or.inr ⟨_, _, _, rfl, by decide, by decide, rfl⟩) hc0 (B2.mono (by decide)) ?_
  rintro _ V2 ⟨rfl, s2_, f2_⟩
  refine ⟨(by show (0 : Nat) ≠ 9; decide), (?_ : WL (D + 13) 283 [(1, -2), (1, 0), (1, 161), (1, 198), (0, (i : Int)), w5, w6, w7] [(0, v), (0, v)] V2 cc ss)⟩
  refine wl_same hK rfl ?_
  exact next V2 _ _ _ _ _ ((f2_ (-2) (by decide)).trans hM) s2_ (Or.inl ⟨rfl, rfl⟩)
set_option maxRecDepth 100000 in
theorem lc_13 {D : Nat} {X : Int → Int} {M : Mem} {i cc ss : Nat} {w5 w6 w7 : AV} (hX : ∀ j : Int, -2147483648 ≤ X j ∧ X j ≤ 2147483647) (hi : (i : Int) + 5 ≤ X (-1)) (hM : M (-2) = X) (hs : STT M) (hcs : cc + 1 ≤ (cOf 307).1 ∧ ss + 8 ≤ (cOf 307).2) (next : ∀ (M' : Mem) (v5 v6 v7 : AV) (c2 s2 : Nat), M' (-2) = X → STT M' → (c2 = cc ∧ s2 = ss) ∨ (c2 = cc + 1 ∧ s2 = ss + 8) → WL (D + 13) 1475 [(1, -2), (1, 0), (1, 161), (1, 198), (0, (i : Int)), v5, v6, v7] [] M' c2 s2) : WL (D + 13) 286 [(1, -2), (1, 0), (1, 161), (1, 198), (0, (i : Int)), w5, w6, w7] [] M cc ss := by
  have hK : cd 307 = k307 := rfl
  obtain ⟨k, pl, n, tx, rc, rw_, fc, fa, h1, h2⟩ := hs
  obtain ⟨hk_, hb_, _⟩ := STT.facts h2
  have x1_ := hX ((i : Int) + 1)
  have x2_ := hX ((i : Int) + 2)
  have x3_ := hX ((i : Int) + 3)
  have i31_ := hX (-1)
  have hc0 : cc ≤ (cOf 307).1 ∧ ss ≤ (cOf 307).2 := ⟨by omega, by omega⟩
  refine wl_al hK rfl rfl ?_
  refine wl_al hK rfl rfl ?_
  refine wl_il hK rfl rfl ?_
  refine wl_ic hK rfl ?_
  refine wl_add hK rfl (by omega) (by omega) ?_
  refine wl_sat hK rfl (by omega) (by rw [hM]; omega) ?_
  rw [hM]
  refine wl_al hK rfl rfl ?_
  refine wl_il hK rfl rfl ?_
  refine wl_ic hK rfl ?_
  refine wl_add hK rfl (by omega) (by omega) ?_
  refine wl_sat hK rfl (by omega) (by rw [hM]; omega) ?_
  rw [hM]
  refine wl_al hK rfl rfl ?_
  refine wl_il hK rfl rfl ?_
  refine wl_ic hK rfl ?_
  refine wl_add hK rfl (by omega) (by omega) ?_
  refine wl_sat hK rfl (by omega) (by rw [hM]; omega) ?_
  rw [hM]
  obtain ⟨v, B1⟩ := (b_adds hk_ hb_ (X ((i : Int) + 1)) (X ((i : Int) + 2)) (X ((i : Int) + 3)) x1_.1 x1_.2 x2_.1 x2_.2 x3_.1 x3_.2).two (d := D) h1 h2
  refine wl_call [(1, 0), (0, X ((i : Int) + 1)), (0, X ((i : Int) + 2)), (0, X ((i : Int) + 3))] hK rfl rfl rfl rfl (Or.inr ⟨_, _, _, rfl, by decide, by decide, rfl⟩) hc0 (B1.mono (by decide)) ?_
  rintro _ V ⟨rfl, f1_, B2⟩
  refine ⟨(by show (0 : Nat) ≠ 9; decide), (?_ : WL (D + 13) 303 [(1, -2), (1, 0), (1, 161), (1, 198), (0, (i : Int)), w5, w6, w7] [(0, v)] V cc ss)⟩
  have hV : V (-2) = X := (f1_ (-2) (by decide)).trans hM
  refine wl_al hK rfl rfl ?_
  refine wl_al hK rfl rfl ?_
  refine wl_il hK rfl rfl ?_
  refine wl_ic hK rfl ?_
  refine wl_add hK rfl (by omega) (by omega) ?_
  refine wl_sat hK rfl (by omega) (by rw [hV]; omega) ?_
  rw [hV]
  refine wl_al hK rfl rfl ?_
  refine wl_il hK rfl rfl ?_
  refine wl_ic hK rfl ?_
  refine wl_add hK rfl (by omega) (by omega) ?_
  refine wl_sat hK rfl (by omega) (by rw [hV]; omega) ?_
  rw [hV]
  refine wl_al hK rfl rfl ?_
  refine wl_il hK rfl rfl ?_
  refine wl_ic hK rfl ?_
  refine wl_add hK rfl (by omega) (by omega) ?_
  refine wl_sat hK rfl (by omega) (by rw [hV]; omega) ?_
  rw [hV]
  refine wl_call [(1, 161), (0, X ((i : Int) + 1)), (0, X ((i : Int) + 2)), (0, X ((i : Int) + 3))] hK rfl rfl rfl rfl (Or.inr ⟨_, _, _, rfl, by decide, by decide, rfl⟩) hc0 (B2.mono (by decide)) ?_
  rintro _ V2 ⟨rfl, s2_, f2_⟩
  refine ⟨(by show (0 : Nat) ≠ 9; decide), (?_ : WL (D + 13) 320 [(1, -2), (1, 0), (1, 161), (1, 198), (0, (i : Int)), w5, w6, w7] [(0, v), (0, v)] V2 cc ss)⟩
  refine wl_same hK rfl ?_
  exact next V2 _ _ _ _ _ ((f2_ (-2) (by decide)).trans hM) s2_ (Or.inl ⟨rfl, rfl⟩)
set_option maxRecDepth 100000 in
theorem lc_14 {D : Nat} {X : Int → Int} {M : Mem} {i cc ss : Nat} {w5 w6 w7 : AV} (hX : ∀ j : Int, -2147483648 ≤ X j ∧ X j ≤ 2147483647) (hi : (i : Int) + 5 ≤ X (-1)) (hM : M (-2) = X) (hs : STT M) (hcs : cc + 1 ≤ (cOf 307).1 ∧ ss + 8 ≤ (cOf 307).2) (next : ∀ (M' : Mem) (v5 v6 v7 : AV) (c2 s2 : Nat), M' (-2) = X → STT M' → (c2 = cc ∧ s2 = ss) ∨ (c2 = cc + 1 ∧ s2 = ss + 8) → WL (D + 13) 1475 [(1, -2), (1, 0), (1, 161), (1, 198), (0, (i : Int)), v5, v6, v7] [] M' c2 s2) : WL (D + 13) 323 [(1, -2), (1, 0), (1, 161), (1, 198), (0, (i : Int)), w5, w6, w7] [] M cc ss := by
  have hK : cd 307 = k307 := rfl
  obtain ⟨k, pl, n, tx, rc, rw_, fc, fa, h1, h2⟩ := hs
  obtain ⟨hk_, hb_, _⟩ := STT.facts h2
  have x1_ := hX ((i : Int) + 1)
  have x2_ := hX ((i : Int) + 2)
  have x3_ := hX ((i : Int) + 3)
  have i31_ := hX (-1)
  have hc0 : cc ≤ (cOf 307).1 ∧ ss ≤ (cOf 307).2 := ⟨by omega, by omega⟩
  refine wl_al hK rfl rfl ?_
  refine wl_al hK rfl rfl ?_
  refine wl_il hK rfl rfl ?_
  refine wl_ic hK rfl ?_
  refine wl_add hK rfl (by omega) (by omega) ?_
  refine wl_sat hK rfl (by omega) (by rw [hM]; omega) ?_
  rw [hM]
  refine wl_al hK rfl rfl ?_
  refine wl_il hK rfl rfl ?_
  refine wl_ic hK rfl ?_
  refine wl_add hK rfl (by omega) (by omega) ?_
  refine wl_sat hK rfl (by omega) (by rw [hM]; omega) ?_
  rw [hM]
  refine wl_al hK rfl rfl ?_
  refine wl_il hK rfl rfl ?_
  refine wl_ic hK rfl ?_
  refine wl_add hK rfl (by omega) (by omega) ?_
  refine wl_sat hK rfl (by omega) (by rw [hM]; omega) ?_
  rw [hM]
  obtain ⟨v, B1⟩ := (b_takes hk_ hb_ (X ((i : Int) + 1)) (X ((i : Int) + 2)) (X ((i : Int) + 3)) x1_.1 x1_.2 x2_.1 x2_.2 x3_.1 x3_.2).two (d := D) h1 h2
  refine wl_call [(1, 0), (0, X ((i : Int) + 1)), (0, X ((i : Int) + 2)), (0, X ((i : Int) + 3))] hK rfl rfl rfl rfl (Or.inr ⟨_, _, _, rfl, by decide, by decide, rfl⟩) hc0 (B1.mono (by decide)) ?_
  rintro _ V ⟨rfl, f1_, B2⟩
  refine ⟨(by show (0 : Nat) ≠ 9; decide), (?_ : WL (D + 13) 340 [(1, -2), (1, 0), (1, 161), (1, 198), (0, (i : Int)), w5, w6, w7] [(0, v)] V cc ss)⟩
  have hV : V (-2) = X := (f1_ (-2) (by decide)).trans hM
  refine wl_al hK rfl rfl ?_
  refine wl_al hK rfl rfl ?_
  refine wl_il hK rfl rfl ?_
  refine wl_ic hK rfl ?_
  refine wl_add hK rfl (by omega) (by omega) ?_
  refine wl_sat hK rfl (by omega) (by rw [hV]; omega) ?_
  rw [hV]
  refine wl_al hK rfl rfl ?_
  refine wl_il hK rfl rfl ?_
  refine wl_ic hK rfl ?_
  refine wl_add hK rfl (by omega) (by omega) ?_
  refine wl_sat hK rfl (by omega) (by rw [hV]; omega) ?_
  rw [hV]
  refine wl_al hK rfl rfl ?_
  refine wl_il hK rfl rfl ?_
  refine wl_ic hK rfl ?_
  refine wl_add hK rfl (by omega) (by omega) ?_
  refine wl_sat hK rfl (by omega) (by rw [hV]; omega) ?_
  rw [hV]
  refine wl_call [(1, 161), (0, X ((i : Int) + 1)), (0, X ((i : Int) + 2)), (0, X ((i : Int) + 3))] hK rfl rfl rfl rfl (Or.inr ⟨_, _, _, rfl, by decide, by decide, rfl⟩) hc0 (B2.mono (by decide)) ?_
  rintro _ V2 ⟨rfl, s2_, f2_⟩
  refine ⟨(by show (0 : Nat) ≠ 9; decide), (?_ : WL (D + 13) 357 [(1, -2), (1, 0), (1, 161), (1, 198), (0, (i : Int)), w5, w6, w7] [(0, v), (0, v)] V2 cc ss)⟩
  refine wl_same hK rfl ?_
  exact next V2 _ _ _ _ _ ((f2_ (-2) (by decide)).trans hM) s2_ (Or.inl ⟨rfl, rfl⟩)
set_option maxRecDepth 100000 in
theorem lc_15 {D : Nat} {X : Int → Int} {M : Mem} {i cc ss : Nat} {w5 w6 w7 : AV} (hX : ∀ j : Int, -2147483648 ≤ X j ∧ X j ≤ 2147483647) (hi : (i : Int) + 5 ≤ X (-1)) (hM : M (-2) = X) (hs : STT M) (hcs : cc + 1 ≤ (cOf 307).1 ∧ ss + 8 ≤ (cOf 307).2) (next : ∀ (M' : Mem) (v5 v6 v7 : AV) (c2 s2 : Nat), M' (-2) = X → STT M' → (c2 = cc ∧ s2 = ss) ∨ (c2 = cc + 1 ∧ s2 = ss + 8) → WL (D + 13) 1475 [(1, -2), (1, 0), (1, 161), (1, 198), (0, (i : Int)), v5, v6, v7] [] M' c2 s2) : WL (D + 13) 360 [(1, -2), (1, 0), (1, 161), (1, 198), (0, (i : Int)), w5, w6, w7] [] M cc ss := by
  have hK : cd 307 = k307 := rfl
  obtain ⟨k, pl, n, tx, rc, rw_, fc, fa, h1, h2⟩ := hs
  obtain ⟨hk_, hb_, _⟩ := STT.facts h2
  have x1_ := hX ((i : Int) + 1)
  have x2_ := hX ((i : Int) + 2)
  have x3_ := hX ((i : Int) + 3)
  have i31_ := hX (-1)
  have hc0 : cc ≤ (cOf 307).1 ∧ ss ≤ (cOf 307).2 := ⟨by omega, by omega⟩
  refine wl_al hK rfl rfl ?_
  refine wl_al hK rfl rfl ?_
  refine wl_il hK rfl rfl ?_
  refine wl_ic hK rfl ?_
  refine wl_add hK rfl (by omega) (by omega) ?_
  refine wl_sat hK rfl (by omega) (by rw [hM]; omega) ?_
  rw [hM]
  refine wl_al hK rfl rfl ?_
  refine wl_il hK rfl rfl ?_
  refine wl_ic hK rfl ?_
  refine wl_add hK rfl (by omega) (by omega) ?_
  refine wl_sat hK rfl (by omega) (by rw [hM]; omega) ?_
  rw [hM]
  refine wl_al hK rfl rfl ?_
  refine wl_il hK rfl rfl ?_
  refine wl_ic hK rfl ?_
  refine wl_add hK rfl (by omega) (by omega) ?_
  refine wl_sat hK rfl (by omega) (by rw [hM]; omega) ?_
  rw [hM]
  obtain ⟨v, B1⟩ := (b_scales hk_ hb_ (X ((i : Int) + 1)) (X ((i : Int) + 2)) (X ((i : Int) + 3)) x1_.1 x1_.2 x2_.1 x2_.2 x3_.1 x3_.2).two (d := D) h1 h2
  refine wl_call [(1, 0), (0, X ((i : Int) + 1)), (0, X ((i : Int) + 2)), (0, X ((i : Int) + 3))] hK rfl rfl rfl rfl (Or.inr ⟨_, _, _, rfl, by decide, by decide, rfl⟩) hc0 (B1.mono (by decide)) ?_
  rintro _ V ⟨rfl, f1_, B2⟩
  refine ⟨(by show (0 : Nat) ≠ 9; decide), (?_ : WL (D + 13) 377 [(1, -2), (1, 0), (1, 161), (1, 198), (0, (i : Int)), w5, w6, w7] [(0, v)] V cc ss)⟩
  have hV : V (-2) = X := (f1_ (-2) (by decide)).trans hM
  refine wl_al hK rfl rfl ?_
  refine wl_al hK rfl rfl ?_
  refine wl_il hK rfl rfl ?_
  refine wl_ic hK rfl ?_
  refine wl_add hK rfl (by omega) (by omega) ?_
  refine wl_sat hK rfl (by omega) (by rw [hV]; omega) ?_
  rw [hV]
  refine wl_al hK rfl rfl ?_
  refine wl_il hK rfl rfl ?_
  refine wl_ic hK rfl ?_
  refine wl_add hK rfl (by omega) (by omega) ?_
  refine wl_sat hK rfl (by omega) (by rw [hV]; omega) ?_
  rw [hV]
  refine wl_al hK rfl rfl ?_
  refine wl_il hK rfl rfl ?_
  refine wl_ic hK rfl ?_
  refine wl_add hK rfl (by omega) (by omega) ?_
  refine wl_sat hK rfl (by omega) (by rw [hV]; omega) ?_
  rw [hV]
  refine wl_call [(1, 161), (0, X ((i : Int) + 1)), (0, X ((i : Int) + 2)), (0, X ((i : Int) + 3))] hK rfl rfl rfl rfl (Or.inr ⟨_, _, _, rfl, by decide, by decide, rfl⟩) hc0 (B2.mono (by decide)) ?_
  rintro _ V2 ⟨rfl, s2_, f2_⟩
  refine ⟨(by show (0 : Nat) ≠ 9; decide), (?_ : WL (D + 13) 394 [(1, -2), (1, 0), (1, 161), (1, 198), (0, (i : Int)), w5, w6, w7] [(0, v), (0, v)] V2 cc ss)⟩
  refine wl_same hK rfl ?_
  exact next V2 _ _ _ _ _ ((f2_ (-2) (by decide)).trans hM) s2_ (Or.inl ⟨rfl, rfl⟩)
set_option maxRecDepth 100000 in
theorem lc_16 {D : Nat} {X : Int → Int} {M : Mem} {i cc ss : Nat} {w5 w6 w7 : AV} (hX : ∀ j : Int, -2147483648 ≤ X j ∧ X j ≤ 2147483647) (hi : (i : Int) + 5 ≤ X (-1)) (hM : M (-2) = X) (hs : STT M) (hcs : cc + 1 ≤ (cOf 307).1 ∧ ss + 8 ≤ (cOf 307).2) (next : ∀ (M' : Mem) (v5 v6 v7 : AV) (c2 s2 : Nat), M' (-2) = X → STT M' → (c2 = cc ∧ s2 = ss) ∨ (c2 = cc + 1 ∧ s2 = ss + 8) → WL (D + 13) 1475 [(1, -2), (1, 0), (1, 161), (1, 198), (0, (i : Int)), v5, v6, v7] [] M' c2 s2) : WL (D + 13) 397 [(1, -2), (1, 0), (1, 161), (1, 198), (0, (i : Int)), w5, w6, w7] [] M cc ss := by
  have hK : cd 307 = k307 := rfl
  obtain ⟨k, pl, n, tx, rc, rw_, fc, fa, h1, h2⟩ := hs
  obtain ⟨hk_, hb_, _⟩ := STT.facts h2
  have x1_ := hX ((i : Int) + 1)
  have x2_ := hX ((i : Int) + 2)
  have x3_ := hX ((i : Int) + 3)
  have i31_ := hX (-1)
  have hc0 : cc ≤ (cOf 307).1 ∧ ss ≤ (cOf 307).2 := ⟨by omega, by omega⟩
  refine wl_al hK rfl rfl ?_
  refine wl_al hK rfl rfl ?_
  refine wl_il hK rfl rfl ?_
  refine wl_ic hK rfl ?_
  refine wl_add hK rfl (by omega) (by omega) ?_
  refine wl_sat hK rfl (by omega) (by rw [hM]; omega) ?_
  rw [hM]
  refine wl_al hK rfl rfl ?_
  refine wl_il hK rfl rfl ?_
  refine wl_ic hK rfl ?_
  refine wl_add hK rfl (by omega) (by omega) ?_
  refine wl_sat hK rfl (by omega) (by rw [hM]; omega) ?_
  rw [hM]
  refine wl_al hK rfl rfl ?_
  refine wl_il hK rfl rfl ?_
  refine wl_ic hK rfl ?_
  refine wl_add hK rfl (by omega) (by omega) ?_
  refine wl_sat hK rfl (by omega) (by rw [hM]; omega) ?_
  rw [hM]
  obtain ⟨v, B1⟩ := (b_mult hk_ hb_ (X ((i : Int) + 1)) (X ((i : Int) + 2)) (X ((i : Int) + 3)) x1_.1 x1_.2 x2_.1 x2_.2 x3_.1 x3_.2).two (d := D) h1 h2
  refine wl_call [(1, 0), (0, X ((i : Int) + 1)), (0, X ((i : Int) + 2)), (0, X ((i : Int) + 3))] hK rfl rfl rfl rfl (Or.inr ⟨_, _, _, rfl, by decide, by decide, rfl⟩) hc0 (B1.mono (by decide)) ?_
  rintro _ V ⟨rfl, f1_, B2⟩
  refine ⟨(by show (0 : Nat) ≠ 9; decide), (?_ : WL (D + 13) 414 [(1, -2), (1, 0), (1, 161), (1, 198), (0, (i : Int)), w5, w6, w7] [(0, v)] V cc ss)⟩
  have hV : V (-2) = X := (f1_ (-2) (by decide)).trans hM
  refine wl_al hK rfl rfl ?_
  refine wl_al hK rfl rfl ?_
  refine wl_il hK rfl rfl ?_
  refine wl_ic hK rfl ?_
  refine wl_add hK rfl (by omega) (by omega) ?_
  refine wl_sat hK rfl (by omega) (by rw [hV]; omega) ?_
  rw [hV]
  refine wl_al hK rfl rfl ?_
  refine wl_il hK rfl rfl ?_
  refine wl_ic hK rfl ?_
  refine wl_add hK rfl (by omega) (by omega) ?_
  refine wl_sat hK rfl (by omega) (by rw [hV]; omega) ?_
  rw [hV]
  refine wl_al hK rfl rfl ?_
  refine wl_il hK rfl rfl ?_
  refine wl_ic hK rfl ?_
  refine wl_add hK rfl (by omega) (by omega) ?_
  refine wl_sat hK rfl (by omega) (by rw [hV]; omega) ?_
  rw [hV]
  refine wl_call [(1, 161), (0, X ((i : Int) + 1)), (0, X ((i : Int) + 2)), (0, X ((i : Int) + 3))] hK rfl rfl rfl rfl (Or.inr ⟨_, _, _, rfl, by decide, by decide, rfl⟩) hc0 (B2.mono (by decide)) ?_
  rintro _ V2 ⟨rfl, s2_, f2_⟩
  refine ⟨(by show (0 : Nat) ≠ 9; decide), (?_ : WL (D + 13) 431 [(1, -2), (1, 0), (1, 161), (1, 198), (0, (i : Int)), w5, w6, w7] [(0, v), (0, v)] V2 cc ss)⟩
  refine wl_same hK rfl ?_
  exact next V2 _ _ _ _ _ ((f2_ (-2) (by decide)).trans hM) s2_ (Or.inl ⟨rfl, rfl⟩)
set_option maxRecDepth 100000 in
theorem lc_17 {D : Nat} {X : Int → Int} {M : Mem} {i cc ss : Nat} {w5 w6 w7 : AV} (hX : ∀ j : Int, -2147483648 ≤ X j ∧ X j ≤ 2147483647) (hi : (i : Int) + 5 ≤ X (-1)) (hM : M (-2) = X) (hs : STT M) (hcs : cc + 1 ≤ (cOf 307).1 ∧ ss + 8 ≤ (cOf 307).2) (next : ∀ (M' : Mem) (v5 v6 v7 : AV) (c2 s2 : Nat), M' (-2) = X → STT M' → (c2 = cc ∧ s2 = ss) ∨ (c2 = cc + 1 ∧ s2 = ss + 8) → WL (D + 13) 1475 [(1, -2), (1, 0), (1, 161), (1, 198), (0, (i : Int)), v5, v6, v7] [] M' c2 s2) : WL (D + 13) 434 [(1, -2), (1, 0), (1, 161), (1, 198), (0, (i : Int)), w5, w6, w7] [] M cc ss := by
  have hK : cd 307 = k307 := rfl
  obtain ⟨k, pl, n, tx, rc, rw_, fc, fa, h1, h2⟩ := hs
  obtain ⟨hk_, hb_, _⟩ := STT.facts h2
  have x1_ := hX ((i : Int) + 1)
  have x2_ := hX ((i : Int) + 2)
  have x3_ := hX ((i : Int) + 3)
  have x4_ := hX ((i : Int) + 4)
  have i31_ := hX (-1)
  have hc0 : cc ≤ (cOf 307).1 ∧ ss ≤ (cOf 307).2 := ⟨by omega, by omega⟩
  refine wl_al hK rfl rfl ?_
  refine wl_al hK rfl rfl ?_
  refine wl_il hK rfl rfl ?_
  refine wl_ic hK rfl ?_
  refine wl_add hK rfl (by omega) (by omega) ?_
  refine wl_sat hK rfl (by omega) (by rw [hM]; omega) ?_
  rw [hM]
  refine wl_al hK rfl rfl ?_
  refine wl_il hK rfl rfl ?_
  refine wl_ic hK rfl ?_
  refine wl_add hK rfl (by omega) (by omega) ?_
  refine wl_sat hK rfl (by omega) (by rw [hM]; omega) ?_
  rw [hM]
  refine wl_al hK rfl rfl ?_
  refine wl_il hK rfl rfl ?_
  refine wl_ic hK rfl ?_
  refine wl_add hK rfl (by omega) (by omega) ?_
  refine wl_sat hK rfl (by omega) (by rw [hM]; omega) ?_
  rw [hM]
  refine wl_al hK rfl rfl ?_
  refine wl_il hK rfl rfl ?_
  refine wl_ic hK rfl ?_
  refine wl_add hK rfl (by omega) (by omega) ?_
  refine wl_sat hK rfl (by omega) (by rw [hM]; omega) ?_
  rw [hM]
  obtain ⟨v, B1⟩ := (b_quot hk_ hb_ (X ((i : Int) + 1)) (X ((i : Int) + 2)) (X ((i : Int) + 3)) (X ((i : Int) + 4)) x1_.1 x1_.2 x2_.1 x2_.2 x3_.1 x3_.2 x4_.1 x4_.2).two (d := D) h1 h2
  refine wl_call [(1, 0), (0, X ((i : Int) + 1)), (0, X ((i : Int) + 2)), (0, X ((i : Int) + 3)), (0, X ((i : Int) + 4))] hK rfl rfl rfl rfl (Or.inr ⟨_, _, _, rfl, by decide, by decide, rfl⟩) hc0 (B1.mono (by decide)) ?_
  rintro _ V ⟨rfl, f1_, B2⟩
  refine ⟨(by show (0 : Nat) ≠ 9; decide), (?_ : WL (D + 13) 456 [(1, -2), (1, 0), (1, 161), (1, 198), (0, (i : Int)), w5, w6, w7] [(0, v)] V cc ss)⟩
  have hV : V (-2) = X := (f1_ (-2) (by decide)).trans hM
  refine wl_al hK rfl rfl ?_
  refine wl_al hK rfl rfl ?_
  refine wl_il hK rfl rfl ?_
  refine wl_ic hK rfl ?_
  refine wl_add hK rfl (by omega) (by omega) ?_
  refine wl_sat hK rfl (by omega) (by rw [hV]; omega) ?_
  rw [hV]
  refine wl_al hK rfl rfl ?_
  refine wl_il hK rfl rfl ?_
  refine wl_ic hK rfl ?_
  refine wl_add hK rfl (by omega) (by omega) ?_
  refine wl_sat hK rfl (by omega) (by rw [hV]; omega) ?_
  rw [hV]
  refine wl_al hK rfl rfl ?_
  refine wl_il hK rfl rfl ?_
  refine wl_ic hK rfl ?_
  refine wl_add hK rfl (by omega) (by omega) ?_
  refine wl_sat hK rfl (by omega) (by rw [hV]; omega) ?_
  rw [hV]
  refine wl_al hK rfl rfl ?_
  refine wl_il hK rfl rfl ?_
  refine wl_ic hK rfl ?_
  refine wl_add hK rfl (by omega) (by omega) ?_
  refine wl_sat hK rfl (by omega) (by rw [hV]; omega) ?_
  rw [hV]
  refine wl_call [(1, 161), (0, X ((i : Int) + 1)), (0, X ((i : Int) + 2)), (0, X ((i : Int) + 3)), (0, X ((i : Int) + 4))] hK rfl rfl rfl rfl (Or.inr ⟨_, _, _, rfl, by decide, by decide, rfl⟩) hc0 (B2.mono (by decide)) ?_
  rintro _ V2 ⟨rfl, s2_, f2_⟩
  refine ⟨(by show (0 : Nat) ≠ 9; decide), (?_ : WL (D + 13) 478 [(1, -2), (1, 0), (1, 161), (1, 198), (0, (i : Int)), w5, w6, w7] [(0, v), (0, v)] V2 cc ss)⟩
  refine wl_same hK rfl ?_
  exact next V2 _ _ _ _ _ ((f2_ (-2) (by decide)).trans hM) s2_ (Or.inl ⟨rfl, rfl⟩)
set_option maxRecDepth 100000 in
theorem lc_18 {D : Nat} {X : Int → Int} {M : Mem} {i cc ss : Nat} {w5 w6 w7 : AV} (hX : ∀ j : Int, -2147483648 ≤ X j ∧ X j ≤ 2147483647) (hi : (i : Int) + 5 ≤ X (-1)) (hM : M (-2) = X) (hs : STT M) (hcs : cc + 1 ≤ (cOf 307).1 ∧ ss + 8 ≤ (cOf 307).2) (next : ∀ (M' : Mem) (v5 v6 v7 : AV) (c2 s2 : Nat), M' (-2) = X → STT M' → (c2 = cc ∧ s2 = ss) ∨ (c2 = cc + 1 ∧ s2 = ss + 8) → WL (D + 13) 1475 [(1, -2), (1, 0), (1, 161), (1, 198), (0, (i : Int)), v5, v6, v7] [] M' c2 s2) : WL (D + 13) 481 [(1, -2), (1, 0), (1, 161), (1, 198), (0, (i : Int)), w5, w6, w7] [] M cc ss := by
  have hK : cd 307 = k307 := rfl
  obtain ⟨k, pl, n, tx, rc, rw_, fc, fa, h1, h2⟩ := hs
  obtain ⟨hk_, hb_, _⟩ := STT.facts h2
  have x1_ := hX ((i : Int) + 1)
  have x2_ := hX ((i : Int) + 2)
  have x3_ := hX ((i : Int) + 3)
  have x4_ := hX ((i : Int) + 4)
  have i31_ := hX (-1)
  have hc0 : cc ≤ (cOf 307).1 ∧ ss ≤ (cOf 307).2 := ⟨by omega, by omega⟩
  refine wl_al hK rfl rfl ?_
  refine wl_al hK rfl rfl ?_
  refine wl_il hK rfl rfl ?_
  refine wl_ic hK rfl ?_
  refine wl_add hK rfl (by omega) (by omega) ?_
  refine wl_sat hK rfl (by omega) (by rw [hM]; omega) ?_
  rw [hM]
  refine wl_al hK rfl rfl ?_
  refine wl_il hK rfl rfl ?_
  refine wl_ic hK rfl ?_
  refine wl_add hK rfl (by omega) (by omega) ?_
  refine wl_sat hK rfl (by omega) (by rw [hM]; omega) ?_
  rw [hM]
  refine wl_al hK rfl rfl ?_
  refine wl_il hK rfl rfl ?_
  refine wl_ic hK rfl ?_
  refine wl_add hK rfl (by omega) (by omega) ?_
  refine wl_sat hK rfl (by omega) (by rw [hM]; omega) ?_
  rw [hM]
  refine wl_al hK rfl rfl ?_
  refine wl_il hK rfl rfl ?_
  refine wl_ic hK rfl ?_
  refine wl_add hK rfl (by omega) (by omega) ?_
  refine wl_sat hK rfl (by omega) (by rw [hM]; omega) ?_
  rw [hM]
  obtain ⟨v, B1⟩ := (b_rem hk_ hb_ (X ((i : Int) + 1)) (X ((i : Int) + 2)) (X ((i : Int) + 3)) (X ((i : Int) + 4)) x1_.1 x1_.2 x2_.1 x2_.2 x3_.1 x3_.2 x4_.1 x4_.2).two (d := D) h1 h2
  refine wl_call [(1, 0), (0, X ((i : Int) + 1)), (0, X ((i : Int) + 2)), (0, X ((i : Int) + 3)), (0, X ((i : Int) + 4))] hK rfl rfl rfl rfl (Or.inr ⟨_, _, _, rfl, by decide, by decide, rfl⟩) hc0 (B1.mono (by decide)) ?_
  rintro _ V ⟨rfl, f1_, B2⟩
  refine ⟨(by show (0 : Nat) ≠ 9; decide), (?_ : WL (D + 13) 503 [(1, -2), (1, 0), (1, 161), (1, 198), (0, (i : Int)), w5, w6, w7] [(0, v)] V cc ss)⟩
  have hV : V (-2) = X := (f1_ (-2) (by decide)).trans hM
  refine wl_al hK rfl rfl ?_
  refine wl_al hK rfl rfl ?_
  refine wl_il hK rfl rfl ?_
  refine wl_ic hK rfl ?_
  refine wl_add hK rfl (by omega) (by omega) ?_
  refine wl_sat hK rfl (by omega) (by rw [hV]; omega) ?_
  rw [hV]
  refine wl_al hK rfl rfl ?_
  refine wl_il hK rfl rfl ?_
  refine wl_ic hK rfl ?_
  refine wl_add hK rfl (by omega) (by omega) ?_
  refine wl_sat hK rfl (by omega) (by rw [hV]; omega) ?_
  rw [hV]
  refine wl_al hK rfl rfl ?_
  refine wl_il hK rfl rfl ?_
  refine wl_ic hK rfl ?_
  refine wl_add hK rfl (by omega) (by omega) ?_
  refine wl_sat hK rfl (by omega) (by rw [hV]; omega) ?_
  rw [hV]
  refine wl_al hK rfl rfl ?_
  refine wl_il hK rfl rfl ?_
  refine wl_ic hK rfl ?_
  refine wl_add hK rfl (by omega) (by omega) ?_
  refine wl_sat hK rfl (by omega) (by rw [hV]; omega) ?_
  rw [hV]
  refine wl_call [(1, 161), (0, X ((i : Int) + 1)), (0, X ((i : Int) + 2)), (0, X ((i : Int) + 3)), (0, X ((i : Int) + 4))] hK rfl rfl rfl rfl (Or.inr ⟨_, _, _, rfl, by decide, by decide, rfl⟩) hc0 (B2.mono (by decide)) ?_
  rintro _ V2 ⟨rfl, s2_, f2_⟩
  refine ⟨(by show (0 : Nat) ≠ 9; decide), (?_ : WL (D + 13) 525 [(1, -2), (1, 0), (1, 161), (1, 198), (0, (i : Int)), w5, w6, w7] [(0, v), (0, v)] V2 cc ss)⟩
  refine wl_same hK rfl ?_
  exact next V2 _ _ _ _ _ ((f2_ (-2) (by decide)).trans hM) s2_ (Or.inl ⟨rfl, rfl⟩)
set_option maxRecDepth 100000 in
theorem lc_19 {D : Nat} {X : Int → Int} {M : Mem} {i cc ss : Nat} {w5 w6 w7 : AV} (hX : ∀ j : Int, -2147483648 ≤ X j ∧ X j ≤ 2147483647) (hi : (i : Int) + 5 ≤ X (-1)) (hM : M (-2) = X) (hs : STT M) (hcs : cc + 1 ≤ (cOf 307).1 ∧ ss + 8 ≤ (cOf 307).2) (next : ∀ (M' : Mem) (v5 v6 v7 : AV) (c2 s2 : Nat), M' (-2) = X → STT M' → (c2 = cc ∧ s2 = ss) ∨ (c2 = cc + 1 ∧ s2 = ss + 8) → WL (D + 13) 1475 [(1, -2), (1, 0), (1, 161), (1, 198), (0, (i : Int)), v5, v6, v7] [] M' c2 s2) : WL (D + 13) 528 [(1, -2), (1, 0), (1, 161), (1, 198), (0, (i : Int)), w5, w6, w7] [] M cc ss := by
  have hK : cd 307 = k307 := rfl
  obtain ⟨k, pl, n, tx, rc, rw_, fc, fa, h1, h2⟩ := hs
  obtain ⟨hk_, hb_, _⟩ := STT.facts h2
  have x1_ := hX ((i : Int) + 1)
  have x2_ := hX ((i : Int) + 2)
  have x3_ := hX ((i : Int) + 3)
  have x4_ := hX ((i : Int) + 4)
  have i31_ := hX (-1)
  have hc0 : cc ≤ (cOf 307).1 ∧ ss ≤ (cOf 307).2 := ⟨by omega, by omega⟩
  refine wl_al hK rfl rfl ?_
  refine wl_al hK rfl rfl ?_
  refine wl_il hK rfl rfl ?_
  refine wl_ic hK rfl ?_
  refine wl_add hK rfl (by omega) (by omega) ?_
  refine wl_sat hK rfl (by omega) (by rw [hM]; omega) ?_
  rw [hM]
  refine wl_al hK rfl rfl ?_
  refine wl_il hK rfl rfl ?_
  refine wl_ic hK rfl ?_
  refine wl_add hK rfl (by omega) (by omega) ?_
  refine wl_sat hK rfl (by omega) (by rw [hM]; omega) ?_
  rw [hM]
  refine wl_al hK rfl rfl ?_
  refine wl_il hK rfl rfl ?_
  refine wl_ic hK rfl ?_
  refine wl_add hK rfl (by omega) (by omega) ?_
  refine wl_sat hK rfl (by omega) (by rw [hM]; omega) ?_
  rw [hM]
  refine wl_al hK rfl rfl ?_
  refine wl_il hK rfl rfl ?_
  refine wl_ic hK rfl ?_
  refine wl_add hK rfl (by omega) (by omega) ?_
  refine wl_sat hK rfl (by omega) (by rw [hM]; omega) ?_
  rw [hM]
  obtain ⟨v, B1⟩ := (b_divisor hk_ hb_ (X ((i : Int) + 1)) (X ((i : Int) + 2)) (X ((i : Int) + 3)) (X ((i : Int) + 4)) x1_.1 x1_.2 x2_.1 x2_.2 x3_.1 x3_.2 x4_.1 x4_.2).two (d := D) h1 h2
  refine wl_call [(1, 0), (0, X ((i : Int) + 1)), (0, X ((i : Int) + 2)), (0, X ((i : Int) + 3)), (0, X ((i : Int) + 4))] hK rfl rfl rfl rfl (Or.inr ⟨_, _, _, rfl, by decide, by decide, rfl⟩) hc0 (B1.mono (by decide)) ?_
  rintro _ V ⟨rfl, f1_, B2⟩
  refine ⟨(by show (0 : Nat) ≠ 9; decide), (?_ : WL (D + 13) 550 [(1, -2), (1, 0), (1, 161), (1, 198), (0, (i : Int)), w5, w6, w7] [(0, v)] V cc ss)⟩
  have hV : V (-2) = X := (f1_ (-2) (by decide)).trans hM
  refine wl_al hK rfl rfl ?_
  refine wl_al hK rfl rfl ?_
  refine wl_il hK rfl rfl ?_
  refine wl_ic hK rfl ?_
  refine wl_add hK rfl (by omega) (by omega) ?_
  refine wl_sat hK rfl (by omega) (by rw [hV]; omega) ?_
  rw [hV]
  refine wl_al hK rfl rfl ?_
  refine wl_il hK rfl rfl ?_
  refine wl_ic hK rfl ?_
  refine wl_add hK rfl (by omega) (by omega) ?_
  refine wl_sat hK rfl (by omega) (by rw [hV]; omega) ?_
  rw [hV]
  refine wl_al hK rfl rfl ?_
  refine wl_il hK rfl rfl ?_
  refine wl_ic hK rfl ?_
  refine wl_add hK rfl (by omega) (by omega) ?_
  refine wl_sat hK rfl (by omega) (by rw [hV]; omega) ?_
  rw [hV]
  refine wl_al hK rfl rfl ?_
  refine wl_il hK rfl rfl ?_
  refine wl_ic hK rfl ?_
  refine wl_add hK rfl (by omega) (by omega) ?_
  refine wl_sat hK rfl (by omega) (by rw [hV]; omega) ?_
  rw [hV]
  refine wl_call [(1, 161), (0, X ((i : Int) + 1)), (0, X ((i : Int) + 2)), (0, X ((i : Int) + 3)), (0, X ((i : Int) + 4))] hK rfl rfl rfl rfl (Or.inr ⟨_, _, _, rfl, by decide, by decide, rfl⟩) hc0 (B2.mono (by decide)) ?_
  rintro _ V2 ⟨rfl, s2_, f2_⟩
  refine ⟨(by show (0 : Nat) ≠ 9; decide), (?_ : WL (D + 13) 572 [(1, -2), (1, 0), (1, 161), (1, 198), (0, (i : Int)), w5, w6, w7] [(0, v), (0, v)] V2 cc ss)⟩
  refine wl_same hK rfl ?_
  exact next V2 _ _ _ _ _ ((f2_ (-2) (by decide)).trans hM) s2_ (Or.inl ⟨rfl, rfl⟩)
set_option maxRecDepth 100000 in
theorem lc_20 {D : Nat} {X : Int → Int} {M : Mem} {i cc ss : Nat} {w5 w6 w7 : AV} (hX : ∀ j : Int, -2147483648 ≤ X j ∧ X j ≤ 2147483647) (hi : (i : Int) + 5 ≤ X (-1)) (hM : M (-2) = X) (hs : STT M) (hcs : cc + 1 ≤ (cOf 307).1 ∧ ss + 8 ≤ (cOf 307).2) (next : ∀ (M' : Mem) (v5 v6 v7 : AV) (c2 s2 : Nat), M' (-2) = X → STT M' → (c2 = cc ∧ s2 = ss) ∨ (c2 = cc + 1 ∧ s2 = ss + 8) → WL (D + 13) 1475 [(1, -2), (1, 0), (1, 161), (1, 198), (0, (i : Int)), v5, v6, v7] [] M' c2 s2) : WL (D + 13) 575 [(1, -2), (1, 0), (1, 161), (1, 198), (0, (i : Int)), w5, w6, w7] [] M cc ss := by
  have hK : cd 307 = k307 := rfl
  obtain ⟨k, pl, n, tx, rc, rw_, fc, fa, h1, h2⟩ := hs
  obtain ⟨hk_, hb_, _⟩ := STT.facts h2
  have x1_ := hX ((i : Int) + 1)
  have x2_ := hX ((i : Int) + 2)
  have x3_ := hX ((i : Int) + 3)
  have x4_ := hX ((i : Int) + 4)
  have i31_ := hX (-1)
  have hc0 : cc ≤ (cOf 307).1 ∧ ss ≤ (cOf 307).2 := ⟨by omega, by omega⟩
  refine wl_al hK rfl rfl ?_
  refine wl_al hK rfl rfl ?_
  refine wl_il hK rfl rfl ?_
  refine wl_ic hK rfl ?_
  refine wl_add hK rfl (by omega) (by omega) ?_
  refine wl_sat hK rfl (by omega) (by rw [hM]; omega) ?_
  rw [hM]
  refine wl_al hK rfl rfl ?_
  refine wl_il hK rfl rfl ?_
  refine wl_ic hK rfl ?_
  refine wl_add hK rfl (by omega) (by omega) ?_
  refine wl_sat hK rfl (by omega) (by rw [hM]; omega) ?_
  rw [hM]
  refine wl_al hK rfl rfl ?_
  refine wl_il hK rfl rfl ?_
  refine wl_ic hK rfl ?_
  refine wl_add hK rfl (by omega) (by omega) ?_
  refine wl_sat hK rfl (by omega) (by rw [hM]; omega) ?_
  rw [hM]
  refine wl_al hK rfl rfl ?_
  refine wl_il hK rfl rfl ?_
  refine wl_ic hK rfl ?_
  refine wl_add hK rfl (by omega) (by omega) ?_
  refine wl_sat hK rfl (by omega) (by rw [hM]; omega) ?_
  rw [hM]
  obtain ⟨v, B1⟩ := (b_multiple hk_ hb_ (X ((i : Int) + 1)) (X ((i : Int) + 2)) (X ((i : Int) + 3)) (X ((i : Int) + 4)) x1_.1 x1_.2 x2_.1 x2_.2 x3_.1 x3_.2 x4_.1 x4_.2).two (d := D) h1 h2
  refine wl_call [(1, 0), (0, X ((i : Int) + 1)), (0, X ((i : Int) + 2)), (0, X ((i : Int) + 3)), (0, X ((i : Int) + 4))] hK rfl rfl rfl rfl (Or.inr ⟨_, _, _, rfl, by decide, by decide, rfl⟩) hc0 (B1.mono (by decide)) ?_
  rintro _ V ⟨rfl, f1_, B2⟩
  refine ⟨(by show (0 : Nat) ≠ 9; decide), (?_ : WL (D + 13) 597 [(1, -2), (1, 0), (1, 161), (1, 198), (0, (i : Int)), w5, w6, w7] [(0, v)] V cc ss)⟩
  have hV : V (-2) = X := (f1_ (-2) (by decide)).trans hM
  refine wl_al hK rfl rfl ?_
  refine wl_al hK rfl rfl ?_
  refine wl_il hK rfl rfl ?_
  refine wl_ic hK rfl ?_
  refine wl_add hK rfl (by omega) (by omega) ?_
  refine wl_sat hK rfl (by omega) (by rw [hV]; omega) ?_
  rw [hV]
  refine wl_al hK rfl rfl ?_
  refine wl_il hK rfl rfl ?_
  refine wl_ic hK rfl ?_
  refine wl_add hK rfl (by omega) (by omega) ?_
  refine wl_sat hK rfl (by omega) (by rw [hV]; omega) ?_
  rw [hV]
  refine wl_al hK rfl rfl ?_
  refine wl_il hK rfl rfl ?_
  refine wl_ic hK rfl ?_
  refine wl_add hK rfl (by omega) (by omega) ?_
  refine wl_sat hK rfl (by omega) (by rw [hV]; omega) ?_
  rw [hV]
  refine wl_al hK rfl rfl ?_
  refine wl_il hK rfl rfl ?_
  refine wl_ic hK rfl ?_
  refine wl_add hK rfl (by omega) (by omega) ?_
  refine wl_sat hK rfl (by omega) (by rw [hV]; omega) ?_
  rw [hV]
  refine wl_call [(1, 161), (0, X ((i : Int) + 1)), (0, X ((i : Int) + 2)), (0, X ((i : Int) + 3)), (0, X ((i : Int) + 4))] hK rfl rfl rfl rfl (Or.inr ⟨_, _, _, rfl, by decide, by decide, rfl⟩) hc0 (B2.mono (by decide)) ?_
  rintro _ V2 ⟨rfl, s2_, f2_⟩
  refine ⟨(by show (0 : Nat) ≠ 9; decide), (?_ : WL (D + 13) 619 [(1, -2), (1, 0), (1, 161), (1, 198), (0, (i : Int)), w5, w6, w7] [(0, v), (0, v)] V2 cc ss)⟩
  refine wl_same hK rfl ?_
  exact next V2 _ _ _ _ _ ((f2_ (-2) (by decide)).trans hM) s2_ (Or.inl ⟨rfl, rfl⟩)
set_option maxRecDepth 100000 in
theorem lc_21 {D : Nat} {X : Int → Int} {M : Mem} {i cc ss : Nat} {w5 w6 w7 : AV} (hX : ∀ j : Int, -2147483648 ≤ X j ∧ X j ≤ 2147483647) (hi : (i : Int) + 5 ≤ X (-1)) (hM : M (-2) = X) (hs : STT M) (hcs : cc + 1 ≤ (cOf 307).1 ∧ ss + 8 ≤ (cOf 307).2) (next : ∀ (M' : Mem) (v5 v6 v7 : AV) (c2 s2 : Nat), M' (-2) = X → STT M' → (c2 = cc ∧ s2 = ss) ∨ (c2 = cc + 1 ∧ s2 = ss + 8) → WL (D + 13) 1475 [(1, -2), (1, 0), (1, 161), (1, 198), (0, (i : Int)), v5, v6, v7] [] M' c2 s2) : WL (D + 13) 622 [(1, -2), (1, 0), (1, 161), (1, 198), (0, (i : Int)), w5, w6, w7] [] M cc ss := by
  have hK : cd 307 = k307 := rfl
  obtain ⟨k, pl, n, tx, rc, rw_, fc, fa, h1, h2⟩ := hs
  obtain ⟨hk_, hb_, _⟩ := STT.facts h2
  have x1_ := hX ((i : Int) + 1)
  have x2_ := hX ((i : Int) + 2)
  have x3_ := hX ((i : Int) + 3)
  have i31_ := hX (-1)
  have hc0 : cc ≤ (cOf 307).1 ∧ ss ≤ (cOf 307).2 := ⟨by omega, by omega⟩
  refine wl_al hK rfl rfl ?_
  refine wl_al hK rfl rfl ?_
  refine wl_il hK rfl rfl ?_
  refine wl_ic hK rfl ?_
  refine wl_add hK rfl (by omega) (by omega) ?_
  refine wl_sat hK rfl (by omega) (by rw [hM]; omega) ?_
  rw [hM]
  refine wl_al hK rfl rfl ?_
  refine wl_il hK rfl rfl ?_
  refine wl_ic hK rfl ?_
  refine wl_add hK rfl (by omega) (by omega) ?_
  refine wl_sat hK rfl (by omega) (by rw [hM]; omega) ?_
  rw [hM]
  refine wl_al hK rfl rfl ?_
  refine wl_il hK rfl rfl ?_
  refine wl_ic hK rfl ?_
  refine wl_add hK rfl (by omega) (by omega) ?_
  refine wl_sat hK rfl (by omega) (by rw [hM]; omega) ?_
  rw [hM]
  obtain ⟨v, B1⟩ := (b_steps hk_ hb_ (X ((i : Int) + 1)) (X ((i : Int) + 2)) (X ((i : Int) + 3)) x1_.1 x1_.2 x2_.1 x2_.2 x3_.1 x3_.2).two (d := D) h1 h2
  refine wl_call [(1, 0), (0, X ((i : Int) + 1)), (0, X ((i : Int) + 2)), (0, X ((i : Int) + 3))] hK rfl rfl rfl rfl (Or.inr ⟨_, _, _, rfl, by decide, by decide, rfl⟩) hc0 (B1.mono (by decide)) ?_
  rintro _ V ⟨rfl, f1_, B2⟩
  refine ⟨(by show (0 : Nat) ≠ 9; decide), (?_ : WL (D + 13) 639 [(1, -2), (1, 0), (1, 161), (1, 198), (0, (i : Int)), w5, w6, w7] [(0, v)] V cc ss)⟩
  have hV : V (-2) = X := (f1_ (-2) (by decide)).trans hM
  refine wl_al hK rfl rfl ?_
  refine wl_al hK rfl rfl ?_
  refine wl_il hK rfl rfl ?_
  refine wl_ic hK rfl ?_
  refine wl_add hK rfl (by omega) (by omega) ?_
  refine wl_sat hK rfl (by omega) (by rw [hV]; omega) ?_
  rw [hV]
  refine wl_al hK rfl rfl ?_
  refine wl_il hK rfl rfl ?_
  refine wl_ic hK rfl ?_
  refine wl_add hK rfl (by omega) (by omega) ?_
  refine wl_sat hK rfl (by omega) (by rw [hV]; omega) ?_
  rw [hV]
  refine wl_al hK rfl rfl ?_
  refine wl_il hK rfl rfl ?_
  refine wl_ic hK rfl ?_
  refine wl_add hK rfl (by omega) (by omega) ?_
  refine wl_sat hK rfl (by omega) (by rw [hV]; omega) ?_
  rw [hV]
  refine wl_call [(1, 161), (0, X ((i : Int) + 1)), (0, X ((i : Int) + 2)), (0, X ((i : Int) + 3))] hK rfl rfl rfl rfl (Or.inr ⟨_, _, _, rfl, by decide, by decide, rfl⟩) hc0 (B2.mono (by decide)) ?_
  rintro _ V2 ⟨rfl, s2_, f2_⟩
  refine ⟨(by show (0 : Nat) ≠ 9; decide), (?_ : WL (D + 13) 656 [(1, -2), (1, 0), (1, 161), (1, 198), (0, (i : Int)), w5, w6, w7] [(0, v), (0, v)] V2 cc ss)⟩
  refine wl_same hK rfl ?_
  exact next V2 _ _ _ _ _ ((f2_ (-2) (by decide)).trans hM) s2_ (Or.inl ⟨rfl, rfl⟩)
set_option maxRecDepth 100000 in
theorem lc_22 {D : Nat} {X : Int → Int} {M : Mem} {i cc ss : Nat} {w5 w6 w7 : AV} (hX : ∀ j : Int, -2147483648 ≤ X j ∧ X j ≤ 2147483647) (hi : (i : Int) + 5 ≤ X (-1)) (hM : M (-2) = X) (hs : STT M) (hcs : cc + 1 ≤ (cOf 307).1 ∧ ss + 8 ≤ (cOf 307).2) (next : ∀ (M' : Mem) (v5 v6 v7 : AV) (c2 s2 : Nat), M' (-2) = X → STT M' → (c2 = cc ∧ s2 = ss) ∨ (c2 = cc + 1 ∧ s2 = ss + 8) → WL (D + 13) 1475 [(1, -2), (1, 0), (1, 161), (1, 198), (0, (i : Int)), v5, v6, v7] [] M' c2 s2) : WL (D + 13) 659 [(1, -2), (1, 0), (1, 161), (1, 198), (0, (i : Int)), w5, w6, w7] [] M cc ss := by
  have hK : cd 307 = k307 := rfl
  obtain ⟨k, pl, n, tx, rc, rw_, fc, fa, h1, h2⟩ := hs
  obtain ⟨hk_, hb_, _⟩ := STT.facts h2
  have x1_ := hX ((i : Int) + 1)
  have x2_ := hX ((i : Int) + 2)
  have x3_ := hX ((i : Int) + 3)
  have i31_ := hX (-1)
  have hc0 : cc ≤ (cOf 307).1 ∧ ss ≤ (cOf 307).2 := ⟨by omega, by omega⟩
  refine wl_al hK rfl rfl ?_
  refine wl_al hK rfl rfl ?_
  refine wl_il hK rfl rfl ?_
  refine wl_ic hK rfl ?_
  refine wl_add hK rfl (by omega) (by omega) ?_
  refine wl_sat hK rfl (by omega) (by rw [hM]; omega) ?_
  rw [hM]
  refine wl_al hK rfl rfl ?_
  refine wl_il hK rfl rfl ?_
  refine wl_ic hK rfl ?_
  refine wl_add hK rfl (by omega) (by omega) ?_
  refine wl_sat hK rfl (by omega) (by rw [hM]; omega) ?_
  rw [hM]
  refine wl_al hK rfl rfl ?_
  refine wl_il hK rfl rfl ?_
  refine wl_ic hK rfl ?_
  refine wl_add hK rfl (by omega) (by omega) ?_
  refine wl_sat hK rfl (by omega) (by rw [hM]; omega) ?_
  rw [hM]
  obtain ⟨v, B1⟩ := (b_cross hk_ hb_ (X ((i : Int) + 1)) (X ((i : Int) + 2)) (X ((i : Int) + 3)) x1_.1 x1_.2 x2_.1 x2_.2 x3_.1 x3_.2).two (d := D) h1 h2
  refine wl_call [(1, 0), (0, X ((i : Int) + 1)), (0, X ((i : Int) + 2)), (0, X ((i : Int) + 3))] hK rfl rfl rfl rfl (Or.inr ⟨_, _, _, rfl, by decide, by decide, rfl⟩) hc0 (B1.mono (by decide)) ?_
  rintro _ V ⟨rfl, f1_, B2⟩
  refine ⟨(by show (0 : Nat) ≠ 9; decide), (?_ : WL (D + 13) 676 [(1, -2), (1, 0), (1, 161), (1, 198), (0, (i : Int)), w5, w6, w7] [(0, v)] V cc ss)⟩
  have hV : V (-2) = X := (f1_ (-2) (by decide)).trans hM
  refine wl_al hK rfl rfl ?_
  refine wl_al hK rfl rfl ?_
  refine wl_il hK rfl rfl ?_
  refine wl_ic hK rfl ?_
  refine wl_add hK rfl (by omega) (by omega) ?_
  refine wl_sat hK rfl (by omega) (by rw [hV]; omega) ?_
  rw [hV]
  refine wl_al hK rfl rfl ?_
  refine wl_il hK rfl rfl ?_
  refine wl_ic hK rfl ?_
  refine wl_add hK rfl (by omega) (by omega) ?_
  refine wl_sat hK rfl (by omega) (by rw [hV]; omega) ?_
  rw [hV]
  refine wl_al hK rfl rfl ?_
  refine wl_il hK rfl rfl ?_
  refine wl_ic hK rfl ?_
  refine wl_add hK rfl (by omega) (by omega) ?_
  refine wl_sat hK rfl (by omega) (by rw [hV]; omega) ?_
  rw [hV]
  refine wl_call [(1, 161), (0, X ((i : Int) + 1)), (0, X ((i : Int) + 2)), (0, X ((i : Int) + 3))] hK rfl rfl rfl rfl (Or.inr ⟨_, _, _, rfl, by decide, by decide, rfl⟩) hc0 (B2.mono (by decide)) ?_
  rintro _ V2 ⟨rfl, s2_, f2_⟩
  refine ⟨(by show (0 : Nat) ≠ 9; decide), (?_ : WL (D + 13) 693 [(1, -2), (1, 0), (1, 161), (1, 198), (0, (i : Int)), w5, w6, w7] [(0, v), (0, v)] V2 cc ss)⟩
  refine wl_same hK rfl ?_
  exact next V2 _ _ _ _ _ ((f2_ (-2) (by decide)).trans hM) s2_ (Or.inl ⟨rfl, rfl⟩)
set_option maxRecDepth 100000 in
theorem lc_23 {D : Nat} {X : Int → Int} {M : Mem} {i cc ss : Nat} {w5 w6 w7 : AV} (hX : ∀ j : Int, -2147483648 ≤ X j ∧ X j ≤ 2147483647) (hi : (i : Int) + 5 ≤ X (-1)) (hM : M (-2) = X) (hs : STT M) (hcs : cc + 1 ≤ (cOf 307).1 ∧ ss + 8 ≤ (cOf 307).2) (next : ∀ (M' : Mem) (v5 v6 v7 : AV) (c2 s2 : Nat), M' (-2) = X → STT M' → (c2 = cc ∧ s2 = ss) ∨ (c2 = cc + 1 ∧ s2 = ss + 8) → WL (D + 13) 1475 [(1, -2), (1, 0), (1, 161), (1, 198), (0, (i : Int)), v5, v6, v7] [] M' c2 s2) : WL (D + 13) 696 [(1, -2), (1, 0), (1, 161), (1, 198), (0, (i : Int)), w5, w6, w7] [] M cc ss := by
  have hK : cd 307 = k307 := rfl
  obtain ⟨k, pl, n, tx, rc, rw_, fc, fa, h1, h2⟩ := hs
  obtain ⟨hk_, hb_, _⟩ := STT.facts h2
  have x1_ := hX ((i : Int) + 1)
  have x2_ := hX ((i : Int) + 2)
  have x3_ := hX ((i : Int) + 3)
  have i31_ := hX (-1)
  have hc0 : cc ≤ (cOf 307).1 ∧ ss ≤ (cOf 307).2 := ⟨by omega, by omega⟩
  refine wl_al hK rfl rfl ?_
  refine wl_al hK rfl rfl ?_
  refine wl_il hK rfl rfl ?_
  refine wl_ic hK rfl ?_
  refine wl_add hK rfl (by omega) (by omega) ?_
  refine wl_sat hK rfl (by omega) (by rw [hM]; omega) ?_
  rw [hM]
  refine wl_al hK rfl rfl ?_
  refine wl_il hK rfl rfl ?_
  refine wl_ic hK rfl ?_
  refine wl_add hK rfl (by omega) (by omega) ?_
  refine wl_sat hK rfl (by omega) (by rw [hM]; omega) ?_
  rw [hM]
  refine wl_al hK rfl rfl ?_
  refine wl_il hK rfl rfl ?_
  refine wl_ic hK rfl ?_
  refine wl_add hK rfl (by omega) (by omega) ?_
  refine wl_sat hK rfl (by omega) (by rw [hM]; omega) ?_
  rw [hM]
  obtain ⟨v, B1⟩ := (b_maps hk_ hb_ (X ((i : Int) + 1)) (X ((i : Int) + 2)) (X ((i : Int) + 3)) x1_.1 x1_.2 x2_.1 x2_.2 x3_.1 x3_.2).two (d := D) h1 h2
  refine wl_call [(1, 0), (0, X ((i : Int) + 1)), (0, X ((i : Int) + 2)), (0, X ((i : Int) + 3))] hK rfl rfl rfl rfl (Or.inr ⟨_, _, _, rfl, by decide, by decide, rfl⟩) hc0 (B1.mono (by decide)) ?_
  rintro _ V ⟨rfl, f1_, B2⟩
  refine ⟨(by show (0 : Nat) ≠ 9; decide), (?_ : WL (D + 13) 713 [(1, -2), (1, 0), (1, 161), (1, 198), (0, (i : Int)), w5, w6, w7] [(0, v)] V cc ss)⟩
  have hV : V (-2) = X := (f1_ (-2) (by decide)).trans hM
  refine wl_al hK rfl rfl ?_
  refine wl_al hK rfl rfl ?_
  refine wl_il hK rfl rfl ?_
  refine wl_ic hK rfl ?_
  refine wl_add hK rfl (by omega) (by omega) ?_
  refine wl_sat hK rfl (by omega) (by rw [hV]; omega) ?_
  rw [hV]
  refine wl_al hK rfl rfl ?_
  refine wl_il hK rfl rfl ?_
  refine wl_ic hK rfl ?_
  refine wl_add hK rfl (by omega) (by omega) ?_
  refine wl_sat hK rfl (by omega) (by rw [hV]; omega) ?_
  rw [hV]
  refine wl_al hK rfl rfl ?_
  refine wl_il hK rfl rfl ?_
  refine wl_ic hK rfl ?_
  refine wl_add hK rfl (by omega) (by omega) ?_
  refine wl_sat hK rfl (by omega) (by rw [hV]; omega) ?_
  rw [hV]
  refine wl_call [(1, 161), (0, X ((i : Int) + 1)), (0, X ((i : Int) + 2)), (0, X ((i : Int) + 3))] hK rfl rfl rfl rfl (Or.inr ⟨_, _, _, rfl, by decide, by decide, rfl⟩) hc0 (B2.mono (by decide)) ?_
  rintro _ V2 ⟨rfl, s2_, f2_⟩
  refine ⟨(by show (0 : Nat) ≠ 9; decide), (?_ : WL (D + 13) 730 [(1, -2), (1, 0), (1, 161), (1, 198), (0, (i : Int)), w5, w6, w7] [(0, v), (0, v)] V2 cc ss)⟩
  refine wl_same hK rfl ?_
  exact next V2 _ _ _ _ _ ((f2_ (-2) (by decide)).trans hM) s2_ (Or.inl ⟨rfl, rfl⟩)
set_option maxRecDepth 100000 in
theorem lc_24 {D : Nat} {X : Int → Int} {M : Mem} {i cc ss : Nat} {w5 w6 w7 : AV} (hX : ∀ j : Int, -2147483648 ≤ X j ∧ X j ≤ 2147483647) (hi : (i : Int) + 5 ≤ X (-1)) (hM : M (-2) = X) (hs : STT M) (hcs : cc + 1 ≤ (cOf 307).1 ∧ ss + 8 ≤ (cOf 307).2) (next : ∀ (M' : Mem) (v5 v6 v7 : AV) (c2 s2 : Nat), M' (-2) = X → STT M' → (c2 = cc ∧ s2 = ss) ∨ (c2 = cc + 1 ∧ s2 = ss + 8) → WL (D + 13) 1475 [(1, -2), (1, 0), (1, 161), (1, 198), (0, (i : Int)), v5, v6, v7] [] M' c2 s2) : WL (D + 13) 733 [(1, -2), (1, 0), (1, 161), (1, 198), (0, (i : Int)), w5, w6, w7] [] M cc ss := by
  have hK : cd 307 = k307 := rfl
  obtain ⟨k, pl, n, tx, rc, rw_, fc, fa, h1, h2⟩ := hs
  obtain ⟨hk_, hb_, _⟩ := STT.facts h2
  have x1_ := hX ((i : Int) + 1)
  have i31_ := hX (-1)
  have hc0 : cc ≤ (cOf 307).1 ∧ ss ≤ (cOf 307).2 := ⟨by omega, by omega⟩
  refine wl_al hK rfl rfl ?_
  refine wl_al hK rfl rfl ?_
  refine wl_il hK rfl rfl ?_
  refine wl_ic hK rfl ?_
  refine wl_add hK rfl (by omega) (by omega) ?_
  refine wl_sat hK rfl (by omega) (by rw [hM]; omega) ?_
  rw [hM]
  obtain ⟨v, B1⟩ := (b_monic hk_ hb_ (X ((i : Int) + 1)) x1_.1 x1_.2).two (d := D) h1 h2
  refine wl_call [(1, 0), (0, X ((i : Int) + 1))] hK rfl rfl rfl rfl (Or.inr ⟨_, _, _, rfl, by decide, by decide, rfl⟩) hc0 (B1.mono (by decide)) ?_
  rintro _ V ⟨rfl, f1_, B2⟩
  refine ⟨(by show (0 : Nat) ≠ 9; decide), (?_ : WL (D + 13) 740 [(1, -2), (1, 0), (1, 161), (1, 198), (0, (i : Int)), w5, w6, w7] [(0, v)] V cc ss)⟩
  have hV : V (-2) = X := (f1_ (-2) (by decide)).trans hM
  refine wl_al hK rfl rfl ?_
  refine wl_al hK rfl rfl ?_
  refine wl_il hK rfl rfl ?_
  refine wl_ic hK rfl ?_
  refine wl_add hK rfl (by omega) (by omega) ?_
  refine wl_sat hK rfl (by omega) (by rw [hV]; omega) ?_
  rw [hV]
  refine wl_call [(1, 161), (0, X ((i : Int) + 1))] hK rfl rfl rfl rfl (Or.inr ⟨_, _, _, rfl, by decide, by decide, rfl⟩) hc0 (B2.mono (by decide)) ?_
  rintro _ V2 ⟨rfl, s2_, f2_⟩
  refine ⟨(by show (0 : Nat) ≠ 9; decide), (?_ : WL (D + 13) 747 [(1, -2), (1, 0), (1, 161), (1, 198), (0, (i : Int)), w5, w6, w7] [(0, v), (0, v)] V2 cc ss)⟩
  refine wl_same hK rfl ?_
  exact next V2 _ _ _ _ _ ((f2_ (-2) (by decide)).trans hM) s2_ (Or.inl ⟨rfl, rfl⟩)
set_option maxRecDepth 100000 in
theorem lc_25 {D : Nat} {X : Int → Int} {M : Mem} {i cc ss : Nat} {w5 w6 w7 : AV} (hX : ∀ j : Int, -2147483648 ≤ X j ∧ X j ≤ 2147483647) (hi : (i : Int) + 5 ≤ X (-1)) (hM : M (-2) = X) (hs : STT M) (hcs : cc + 1 ≤ (cOf 307).1 ∧ ss + 8 ≤ (cOf 307).2) (next : ∀ (M' : Mem) (v5 v6 v7 : AV) (c2 s2 : Nat), M' (-2) = X → STT M' → (c2 = cc ∧ s2 = ss) ∨ (c2 = cc + 1 ∧ s2 = ss + 8) → WL (D + 13) 1475 [(1, -2), (1, 0), (1, 161), (1, 198), (0, (i : Int)), v5, v6, v7] [] M' c2 s2) : WL (D + 13) 750 [(1, -2), (1, 0), (1, 161), (1, 198), (0, (i : Int)), w5, w6, w7] [] M cc ss := by
  have hK : cd 307 = k307 := rfl
  obtain ⟨k, pl, n, tx, rc, rw_, fc, fa, h1, h2⟩ := hs
  obtain ⟨hk_, hb_, _⟩ := STT.facts h2
  have x1_ := hX ((i : Int) + 1)
  have x2_ := hX ((i : Int) + 2)
  have i31_ := hX (-1)
  have hc0 : cc ≤ (cOf 307).1 ∧ ss ≤ (cOf 307).2 := ⟨by omega, by omega⟩
  refine wl_al hK rfl rfl ?_
  refine wl_al hK rfl rfl ?_
  refine wl_il hK rfl rfl ?_
  refine wl_ic hK rfl ?_
  refine wl_add hK rfl (by omega) (by omega) ?_
  refine wl_sat hK rfl (by omega) (by rw [hM]; omega) ?_
  rw [hM]
  refine wl_al hK rfl rfl ?_
  refine wl_il hK rfl rfl ?_
  refine wl_ic hK rfl ?_
  refine wl_add hK rfl (by omega) (by omega) ?_
  refine wl_sat hK rfl (by omega) (by rw [hM]; omega) ?_
  rw [hM]
  obtain ⟨v, B1⟩ := (b_form hk_ hb_ (X ((i : Int) + 1)) (X ((i : Int) + 2)) x1_.1 x1_.2 x2_.1 x2_.2).two (d := D) h1 h2
  refine wl_call [(1, 0), (0, X ((i : Int) + 1)), (0, X ((i : Int) + 2))] hK rfl rfl rfl rfl (Or.inr ⟨_, _, _, rfl, by decide, by decide, rfl⟩) hc0 (B1.mono (by decide)) ?_
  rintro _ V ⟨rfl, f1_, B2⟩
  refine ⟨(by show (0 : Nat) ≠ 9; decide), (?_ : WL (D + 13) 762 [(1, -2), (1, 0), (1, 161), (1, 198), (0, (i : Int)), w5, w6, w7] [(0, v)] V cc ss)⟩
  have hV : V (-2) = X := (f1_ (-2) (by decide)).trans hM
  refine wl_al hK rfl rfl ?_
  refine wl_al hK rfl rfl ?_
  refine wl_il hK rfl rfl ?_
  refine wl_ic hK rfl ?_
  refine wl_add hK rfl (by omega) (by omega) ?_
  refine wl_sat hK rfl (by omega) (by rw [hV]; omega) ?_
  rw [hV]
  refine wl_al hK rfl rfl ?_
  refine wl_il hK rfl rfl ?_
  refine wl_ic hK rfl ?_
  refine wl_add hK rfl (by omega) (by omega) ?_
  refine wl_sat hK rfl (by omega) (by rw [hV]; omega) ?_
  rw [hV]
  refine wl_call [(1, 161), (0, X ((i : Int) + 1)), (0, X ((i : Int) + 2))] hK rfl rfl rfl rfl (Or.inr ⟨_, _, _, rfl, by decide, by decide, rfl⟩) hc0 (B2.mono (by decide)) ?_
  rintro _ V2 ⟨rfl, s2_, f2_⟩
  refine ⟨(by show (0 : Nat) ≠ 9; decide), (?_ : WL (D + 13) 774 [(1, -2), (1, 0), (1, 161), (1, 198), (0, (i : Int)), w5, w6, w7] [(0, v), (0, v)] V2 cc ss)⟩
  refine wl_same hK rfl ?_
  exact next V2 _ _ _ _ _ ((f2_ (-2) (by decide)).trans hM) s2_ (Or.inl ⟨rfl, rfl⟩)
set_option maxRecDepth 100000 in
theorem lc_26 {D : Nat} {X : Int → Int} {M : Mem} {i cc ss : Nat} {w5 w6 w7 : AV} (hX : ∀ j : Int, -2147483648 ≤ X j ∧ X j ≤ 2147483647) (hi : (i : Int) + 5 ≤ X (-1)) (hM : M (-2) = X) (hs : STT M) (hcs : cc + 1 ≤ (cOf 307).1 ∧ ss + 8 ≤ (cOf 307).2) (next : ∀ (M' : Mem) (v5 v6 v7 : AV) (c2 s2 : Nat), M' (-2) = X → STT M' → (c2 = cc ∧ s2 = ss) ∨ (c2 = cc + 1 ∧ s2 = ss + 8) → WL (D + 13) 1475 [(1, -2), (1, 0), (1, 161), (1, 198), (0, (i : Int)), v5, v6, v7] [] M' c2 s2) : WL (D + 13) 777 [(1, -2), (1, 0), (1, 161), (1, 198), (0, (i : Int)), w5, w6, w7] [] M cc ss := by
  have hK : cd 307 = k307 := rfl
  obtain ⟨k, pl, n, tx, rc, rw_, fc, fa, h1, h2⟩ := hs
  obtain ⟨hk_, hb_, _⟩ := STT.facts h2
  have x1_ := hX ((i : Int) + 1)
  have x2_ := hX ((i : Int) + 2)
  have i31_ := hX (-1)
  have hc0 : cc ≤ (cOf 307).1 ∧ ss ≤ (cOf 307).2 := ⟨by omega, by omega⟩
  refine wl_al hK rfl rfl ?_
  refine wl_al hK rfl rfl ?_
  refine wl_il hK rfl rfl ?_
  refine wl_ic hK rfl ?_
  refine wl_add hK rfl (by omega) (by omega) ?_
  refine wl_sat hK rfl (by omega) (by rw [hM]; omega) ?_
  rw [hM]
  refine wl_al hK rfl rfl ?_
  refine wl_il hK rfl rfl ?_
  refine wl_ic hK rfl ?_
  refine wl_add hK rfl (by omega) (by omega) ?_
  refine wl_sat hK rfl (by omega) (by rw [hM]; omega) ?_
  rw [hM]
  obtain ⟨v, B1⟩ := (b_same hk_ hb_ (X ((i : Int) + 1)) (X ((i : Int) + 2)) x1_.1 x1_.2 x2_.1 x2_.2).two (d := D) h1 h2
  refine wl_call [(1, 0), (0, X ((i : Int) + 1)), (0, X ((i : Int) + 2))] hK rfl rfl rfl rfl (Or.inr ⟨_, _, _, rfl, by decide, by decide, rfl⟩) hc0 (B1.mono (by decide)) ?_
  rintro _ V ⟨rfl, f1_, B2⟩
  refine ⟨(by show (0 : Nat) ≠ 9; decide), (?_ : WL (D + 13) 789 [(1, -2), (1, 0), (1, 161), (1, 198), (0, (i : Int)), w5, w6, w7] [(0, v)] V cc ss)⟩
  have hV : V (-2) = X := (f1_ (-2) (by decide)).trans hM
  refine wl_al hK rfl rfl ?_
  refine wl_al hK rfl rfl ?_
  refine wl_il hK rfl rfl ?_
  refine wl_ic hK rfl ?_
  refine wl_add hK rfl (by omega) (by omega) ?_
  refine wl_sat hK rfl (by omega) (by rw [hV]; omega) ?_
  rw [hV]
  refine wl_al hK rfl rfl ?_
  refine wl_il hK rfl rfl ?_
  refine wl_ic hK rfl ?_
  refine wl_add hK rfl (by omega) (by omega) ?_
  refine wl_sat hK rfl (by omega) (by rw [hV]; omega) ?_
  rw [hV]
  refine wl_call [(1, 161), (0, X ((i : Int) + 1)), (0, X ((i : Int) + 2))] hK rfl rfl rfl rfl (Or.inr ⟨_, _, _, rfl, by decide, by decide, rfl⟩) hc0 (B2.mono (by decide)) ?_
  rintro _ V2 ⟨rfl, s2_, f2_⟩
  refine ⟨(by show (0 : Nat) ≠ 9; decide), (?_ : WL (D + 13) 801 [(1, -2), (1, 0), (1, 161), (1, 198), (0, (i : Int)), w5, w6, w7] [(0, v), (0, v)] V2 cc ss)⟩
  refine wl_same hK rfl ?_
  exact next V2 _ _ _ _ _ ((f2_ (-2) (by decide)).trans hM) s2_ (Or.inl ⟨rfl, rfl⟩)
set_option maxRecDepth 100000 in
theorem lc_27 {D : Nat} {X : Int → Int} {M : Mem} {i cc ss : Nat} {w5 w6 w7 : AV} (hX : ∀ j : Int, -2147483648 ≤ X j ∧ X j ≤ 2147483647) (hi : (i : Int) + 5 ≤ X (-1)) (hM : M (-2) = X) (hs : STT M) (hcs : cc + 1 ≤ (cOf 307).1 ∧ ss + 8 ≤ (cOf 307).2) (next : ∀ (M' : Mem) (v5 v6 v7 : AV) (c2 s2 : Nat), M' (-2) = X → STT M' → (c2 = cc ∧ s2 = ss) ∨ (c2 = cc + 1 ∧ s2 = ss + 8) → WL (D + 13) 1475 [(1, -2), (1, 0), (1, 161), (1, 198), (0, (i : Int)), v5, v6, v7] [] M' c2 s2) : WL (D + 13) 804 [(1, -2), (1, 0), (1, 161), (1, 198), (0, (i : Int)), w5, w6, w7] [] M cc ss := by
  have hK : cd 307 = k307 := rfl
  obtain ⟨k, pl, n, tx, rc, rw_, fc, fa, h1, h2⟩ := hs
  obtain ⟨hk_, hb_, _⟩ := STT.facts h2
  have x1_ := hX ((i : Int) + 1)
  have x2_ := hX ((i : Int) + 2)
  have x3_ := hX ((i : Int) + 3)
  have i31_ := hX (-1)
  have hc0 : cc ≤ (cOf 307).1 ∧ ss ≤ (cOf 307).2 := ⟨by omega, by omega⟩
  refine wl_al hK rfl rfl ?_
  refine wl_al hK rfl rfl ?_
  refine wl_il hK rfl rfl ?_
  refine wl_ic hK rfl ?_
  refine wl_add hK rfl (by omega) (by omega) ?_
  refine wl_sat hK rfl (by omega) (by rw [hM]; omega) ?_
  rw [hM]
  refine wl_al hK rfl rfl ?_
  refine wl_il hK rfl rfl ?_
  refine wl_ic hK rfl ?_
  refine wl_add hK rfl (by omega) (by omega) ?_
  refine wl_sat hK rfl (by omega) (by rw [hM]; omega) ?_
  rw [hM]
  refine wl_al hK rfl rfl ?_
  refine wl_il hK rfl rfl ?_
  refine wl_ic hK rfl ?_
  refine wl_add hK rfl (by omega) (by omega) ?_
  refine wl_sat hK rfl (by omega) (by rw [hM]; omega) ?_
  rw [hM]
  obtain ⟨v, B1⟩ := (b_power hk_ hb_ (X ((i : Int) + 1)) (X ((i : Int) + 2)) (X ((i : Int) + 3)) x1_.1 x1_.2 x2_.1 x2_.2 x3_.1 x3_.2).two (d := D) h1 h2
  refine wl_call [(1, 0), (0, X ((i : Int) + 1)), (0, X ((i : Int) + 2)), (0, X ((i : Int) + 3))] hK rfl rfl rfl rfl (Or.inr ⟨_, _, _, rfl, by decide, by decide, rfl⟩) hc0 (B1.mono (by decide)) ?_
  rintro _ V ⟨rfl, f1_, B2⟩
  refine ⟨(by show (0 : Nat) ≠ 9; decide), (?_ : WL (D + 13) 821 [(1, -2), (1, 0), (1, 161), (1, 198), (0, (i : Int)), w5, w6, w7] [(0, v)] V cc ss)⟩
  have hV : V (-2) = X := (f1_ (-2) (by decide)).trans hM
  refine wl_al hK rfl rfl ?_
  refine wl_al hK rfl rfl ?_
  refine wl_il hK rfl rfl ?_
  refine wl_ic hK rfl ?_
  refine wl_add hK rfl (by omega) (by omega) ?_
  refine wl_sat hK rfl (by omega) (by rw [hV]; omega) ?_
  rw [hV]
  refine wl_al hK rfl rfl ?_
  refine wl_il hK rfl rfl ?_
  refine wl_ic hK rfl ?_
  refine wl_add hK rfl (by omega) (by omega) ?_
  refine wl_sat hK rfl (by omega) (by rw [hV]; omega) ?_
  rw [hV]
  refine wl_al hK rfl rfl ?_
  refine wl_il hK rfl rfl ?_
  refine wl_ic hK rfl ?_
  refine wl_add hK rfl (by omega) (by omega) ?_
  refine wl_sat hK rfl (by omega) (by rw [hV]; omega) ?_
  rw [hV]
  refine wl_call [(1, 161), (0, X ((i : Int) + 1)), (0, X ((i : Int) + 2)), (0, X ((i : Int) + 3))] hK rfl rfl rfl rfl (Or.inr ⟨_, _, _, rfl, by decide, by decide, rfl⟩) hc0 (B2.mono (by decide)) ?_
  rintro _ V2 ⟨rfl, s2_, f2_⟩
  refine ⟨(by show (0 : Nat) ≠ 9; decide), (?_ : WL (D + 13) 838 [(1, -2), (1, 0), (1, 161), (1, 198), (0, (i : Int)), w5, w6, w7] [(0, v), (0, v)] V2 cc ss)⟩
  refine wl_same hK rfl ?_
  exact next V2 _ _ _ _ _ ((f2_ (-2) (by decide)).trans hM) s2_ (Or.inl ⟨rfl, rfl⟩)
set_option maxRecDepth 100000 in
theorem lc_28 {D : Nat} {X : Int → Int} {M : Mem} {i cc ss : Nat} {w5 w6 w7 : AV} (hX : ∀ j : Int, -2147483648 ≤ X j ∧ X j ≤ 2147483647) (hi : (i : Int) + 5 ≤ X (-1)) (hM : M (-2) = X) (hs : STT M) (hcs : cc + 1 ≤ (cOf 307).1 ∧ ss + 8 ≤ (cOf 307).2) (next : ∀ (M' : Mem) (v5 v6 v7 : AV) (c2 s2 : Nat), M' (-2) = X → STT M' → (c2 = cc ∧ s2 = ss) ∨ (c2 = cc + 1 ∧ s2 = ss + 8) → WL (D + 13) 1475 [(1, -2), (1, 0), (1, 161), (1, 198), (0, (i : Int)), v5, v6, v7] [] M' c2 s2) : WL (D + 13) 841 [(1, -2), (1, 0), (1, 161), (1, 198), (0, (i : Int)), w5, w6, w7] [] M cc ss := by
  have hK : cd 307 = k307 := rfl
  obtain ⟨k, pl, n, tx, rc, rw_, fc, fa, h1, h2⟩ := hs
  obtain ⟨hk_, hb_, _⟩ := STT.facts h2
  have x1_ := hX ((i : Int) + 1)
  have x2_ := hX ((i : Int) + 2)
  have x3_ := hX ((i : Int) + 3)
  have i31_ := hX (-1)
  have hc0 : cc ≤ (cOf 307).1 ∧ ss ≤ (cOf 307).2 := ⟨by omega, by omega⟩
  refine wl_al hK rfl rfl ?_
  refine wl_al hK rfl rfl ?_
  refine wl_il hK rfl rfl ?_
  refine wl_ic hK rfl ?_
  refine wl_add hK rfl (by omega) (by omega) ?_
  refine wl_sat hK rfl (by omega) (by rw [hM]; omega) ?_
  rw [hM]
  refine wl_al hK rfl rfl ?_
  refine wl_il hK rfl rfl ?_
  refine wl_ic hK rfl ?_
  refine wl_add hK rfl (by omega) (by omega) ?_
  refine wl_sat hK rfl (by omega) (by rw [hM]; omega) ?_
  rw [hM]
  refine wl_al hK rfl rfl ?_
  refine wl_il hK rfl rfl ?_
  refine wl_ic hK rfl ?_
  refine wl_add hK rfl (by omega) (by omega) ?_
  refine wl_sat hK rfl (by omega) (by rw [hM]; omega) ?_
  rw [hM]
  obtain ⟨v, B1⟩ := (b_turned hk_ hb_ (X ((i : Int) + 1)) (X ((i : Int) + 2)) (X ((i : Int) + 3)) x1_.1 x1_.2 x2_.1 x2_.2 x3_.1 x3_.2).two (d := D) h1 h2
  refine wl_call [(1, 0), (0, X ((i : Int) + 1)), (0, X ((i : Int) + 2)), (0, X ((i : Int) + 3))] hK rfl rfl rfl rfl (Or.inr ⟨_, _, _, rfl, by decide, by decide, rfl⟩) hc0 (B1.mono (by decide)) ?_
  rintro _ V ⟨rfl, f1_, B2⟩
  refine ⟨(by show (0 : Nat) ≠ 9; decide), (?_ : WL (D + 13) 858 [(1, -2), (1, 0), (1, 161), (1, 198), (0, (i : Int)), w5, w6, w7] [(0, v)] V cc ss)⟩
  have hV : V (-2) = X := (f1_ (-2) (by decide)).trans hM
  refine wl_al hK rfl rfl ?_
  refine wl_al hK rfl rfl ?_
  refine wl_il hK rfl rfl ?_
  refine wl_ic hK rfl ?_
  refine wl_add hK rfl (by omega) (by omega) ?_
  refine wl_sat hK rfl (by omega) (by rw [hV]; omega) ?_
  rw [hV]
  refine wl_al hK rfl rfl ?_
  refine wl_il hK rfl rfl ?_
  refine wl_ic hK rfl ?_
  refine wl_add hK rfl (by omega) (by omega) ?_
  refine wl_sat hK rfl (by omega) (by rw [hV]; omega) ?_
  rw [hV]
  refine wl_al hK rfl rfl ?_
  refine wl_il hK rfl rfl ?_
  refine wl_ic hK rfl ?_
  refine wl_add hK rfl (by omega) (by omega) ?_
  refine wl_sat hK rfl (by omega) (by rw [hV]; omega) ?_
  rw [hV]
  refine wl_call [(1, 161), (0, X ((i : Int) + 1)), (0, X ((i : Int) + 2)), (0, X ((i : Int) + 3))] hK rfl rfl rfl rfl (Or.inr ⟨_, _, _, rfl, by decide, by decide, rfl⟩) hc0 (B2.mono (by decide)) ?_
  rintro _ V2 ⟨rfl, s2_, f2_⟩
  refine ⟨(by show (0 : Nat) ≠ 9; decide), (?_ : WL (D + 13) 875 [(1, -2), (1, 0), (1, 161), (1, 198), (0, (i : Int)), w5, w6, w7] [(0, v), (0, v)] V2 cc ss)⟩
  refine wl_same hK rfl ?_
  exact next V2 _ _ _ _ _ ((f2_ (-2) (by decide)).trans hM) s2_ (Or.inl ⟨rfl, rfl⟩)
set_option maxRecDepth 100000 in
theorem lc_29 {D : Nat} {X : Int → Int} {M : Mem} {i cc ss : Nat} {w5 w6 w7 : AV} (hX : ∀ j : Int, -2147483648 ≤ X j ∧ X j ≤ 2147483647) (hi : (i : Int) + 5 ≤ X (-1)) (hM : M (-2) = X) (hs : STT M) (hcs : cc + 1 ≤ (cOf 307).1 ∧ ss + 8 ≤ (cOf 307).2) (next : ∀ (M' : Mem) (v5 v6 v7 : AV) (c2 s2 : Nat), M' (-2) = X → STT M' → (c2 = cc ∧ s2 = ss) ∨ (c2 = cc + 1 ∧ s2 = ss + 8) → WL (D + 13) 1475 [(1, -2), (1, 0), (1, 161), (1, 198), (0, (i : Int)), v5, v6, v7] [] M' c2 s2) : WL (D + 13) 878 [(1, -2), (1, 0), (1, 161), (1, 198), (0, (i : Int)), w5, w6, w7] [] M cc ss := by
  have hK : cd 307 = k307 := rfl
  obtain ⟨k, pl, n, tx, rc, rw_, fc, fa, h1, h2⟩ := hs
  obtain ⟨hk_, hb_, _⟩ := STT.facts h2
  have x1_ := hX ((i : Int) + 1)
  have x2_ := hX ((i : Int) + 2)
  have x3_ := hX ((i : Int) + 3)
  have x4_ := hX ((i : Int) + 4)
  have i31_ := hX (-1)
  have hc0 : cc ≤ (cOf 307).1 ∧ ss ≤ (cOf 307).2 := ⟨by omega, by omega⟩
  refine wl_al hK rfl rfl ?_
  refine wl_al hK rfl rfl ?_
  refine wl_il hK rfl rfl ?_
  refine wl_ic hK rfl ?_
  refine wl_add hK rfl (by omega) (by omega) ?_
  refine wl_sat hK rfl (by omega) (by rw [hM]; omega) ?_
  rw [hM]
  refine wl_al hK rfl rfl ?_
  refine wl_il hK rfl rfl ?_
  refine wl_ic hK rfl ?_
  refine wl_add hK rfl (by omega) (by omega) ?_
  refine wl_sat hK rfl (by omega) (by rw [hM]; omega) ?_
  rw [hM]
  refine wl_al hK rfl rfl ?_
  refine wl_il hK rfl rfl ?_
  refine wl_ic hK rfl ?_
  refine wl_add hK rfl (by omega) (by omega) ?_
  refine wl_sat hK rfl (by omega) (by rw [hM]; omega) ?_
  rw [hM]
  refine wl_al hK rfl rfl ?_
  refine wl_il hK rfl rfl ?_
  refine wl_ic hK rfl ?_
  refine wl_add hK rfl (by omega) (by omega) ?_
  refine wl_sat hK rfl (by omega) (by rw [hM]; omega) ?_
  rw [hM]
  obtain ⟨v, B1⟩ := (b_cofs hk_ hb_ (X ((i : Int) + 1)) (X ((i : Int) + 2)) (X ((i : Int) + 3)) (X ((i : Int) + 4)) x1_.1 x1_.2 x2_.1 x2_.2 x3_.1 x3_.2 x4_.1 x4_.2).two (d := D) h1 h2
  refine wl_call [(1, 0), (0, X ((i : Int) + 1)), (0, X ((i : Int) + 2)), (0, X ((i : Int) + 3)), (0, X ((i : Int) + 4))] hK rfl rfl rfl rfl (Or.inr ⟨_, _, _, rfl, by decide, by decide, rfl⟩) hc0 (B1.mono (by decide)) ?_
  rintro _ V ⟨rfl, f1_, B2⟩
  refine ⟨(by show (0 : Nat) ≠ 9; decide), (?_ : WL (D + 13) 900 [(1, -2), (1, 0), (1, 161), (1, 198), (0, (i : Int)), w5, w6, w7] [(0, v)] V cc ss)⟩
  have hV : V (-2) = X := (f1_ (-2) (by decide)).trans hM
  refine wl_al hK rfl rfl ?_
  refine wl_al hK rfl rfl ?_
  refine wl_il hK rfl rfl ?_
  refine wl_ic hK rfl ?_
  refine wl_add hK rfl (by omega) (by omega) ?_
  refine wl_sat hK rfl (by omega) (by rw [hV]; omega) ?_
  rw [hV]
  refine wl_al hK rfl rfl ?_
  refine wl_il hK rfl rfl ?_
  refine wl_ic hK rfl ?_
  refine wl_add hK rfl (by omega) (by omega) ?_
  refine wl_sat hK rfl (by omega) (by rw [hV]; omega) ?_
  rw [hV]
  refine wl_al hK rfl rfl ?_
  refine wl_il hK rfl rfl ?_
  refine wl_ic hK rfl ?_
  refine wl_add hK rfl (by omega) (by omega) ?_
  refine wl_sat hK rfl (by omega) (by rw [hV]; omega) ?_
  rw [hV]
  refine wl_al hK rfl rfl ?_
  refine wl_il hK rfl rfl ?_
  refine wl_ic hK rfl ?_
  refine wl_add hK rfl (by omega) (by omega) ?_
  refine wl_sat hK rfl (by omega) (by rw [hV]; omega) ?_
  rw [hV]
  refine wl_call [(1, 161), (0, X ((i : Int) + 1)), (0, X ((i : Int) + 2)), (0, X ((i : Int) + 3)), (0, X ((i : Int) + 4))] hK rfl rfl rfl rfl (Or.inr ⟨_, _, _, rfl, by decide, by decide, rfl⟩) hc0 (B2.mono (by decide)) ?_
  rintro _ V2 ⟨rfl, s2_, f2_⟩
  refine ⟨(by show (0 : Nat) ≠ 9; decide), (?_ : WL (D + 13) 922 [(1, -2), (1, 0), (1, 161), (1, 198), (0, (i : Int)), w5, w6, w7] [(0, v), (0, v)] V2 cc ss)⟩
  refine wl_same hK rfl ?_
  exact next V2 _ _ _ _ _ ((f2_ (-2) (by decide)).trans hM) s2_ (Or.inl ⟨rfl, rfl⟩)
set_option maxRecDepth 100000 in
theorem lc_30 {D : Nat} {X : Int → Int} {M : Mem} {i cc ss : Nat} {w5 w6 w7 : AV} (hX : ∀ j : Int, -2147483648 ≤ X j ∧ X j ≤ 2147483647) (hi : (i : Int) + 5 ≤ X (-1)) (hM : M (-2) = X) (hs : STT M) (hcs : cc + 1 ≤ (cOf 307).1 ∧ ss + 8 ≤ (cOf 307).2) (next : ∀ (M' : Mem) (v5 v6 v7 : AV) (c2 s2 : Nat), M' (-2) = X → STT M' → (c2 = cc ∧ s2 = ss) ∨ (c2 = cc + 1 ∧ s2 = ss + 8) → WL (D + 13) 1475 [(1, -2), (1, 0), (1, 161), (1, 198), (0, (i : Int)), v5, v6, v7] [] M' c2 s2) : WL (D + 13) 925 [(1, -2), (1, 0), (1, 161), (1, 198), (0, (i : Int)), w5, w6, w7] [] M cc ss := by
  have hK : cd 307 = k307 := rfl
  obtain ⟨k, pl, n, tx, rc, rw_, fc, fa, h1, h2⟩ := hs
  obtain ⟨hk_, hb_, _⟩ := STT.facts h2
  have x1_ := hX ((i : Int) + 1)
  have i31_ := hX (-1)
  have hc0 : cc ≤ (cOf 307).1 ∧ ss ≤ (cOf 307).2 := ⟨by omega, by omega⟩
  refine wl_al hK rfl rfl ?_
  refine wl_al hK rfl rfl ?_
  refine wl_il hK rfl rfl ?_
  refine wl_ic hK rfl ?_
  refine wl_add hK rfl (by omega) (by omega) ?_
  refine wl_sat hK rfl (by omega) (by rw [hM]; omega) ?_
  rw [hM]
  obtain ⟨v, B1⟩ := (b_fits hk_ hb_ (X ((i : Int) + 1)) x1_.1 x1_.2).two (d := D) h1 h2
  refine wl_call [(1, 0), (0, X ((i : Int) + 1))] hK rfl rfl rfl rfl (Or.inr ⟨_, _, _, rfl, by decide, by decide, rfl⟩) hc0 (B1.mono (by decide)) ?_
  rintro _ V ⟨rfl, f1_, B2⟩
  refine ⟨(by show (0 : Nat) ≠ 9; decide), (?_ : WL (D + 13) 932 [(1, -2), (1, 0), (1, 161), (1, 198), (0, (i : Int)), w5, w6, w7] [(0, v)] V cc ss)⟩
  have hV : V (-2) = X := (f1_ (-2) (by decide)).trans hM
  refine wl_al hK rfl rfl ?_
  refine wl_al hK rfl rfl ?_
  refine wl_il hK rfl rfl ?_
  refine wl_ic hK rfl ?_
  refine wl_add hK rfl (by omega) (by omega) ?_
  refine wl_sat hK rfl (by omega) (by rw [hV]; omega) ?_
  rw [hV]
  refine wl_call [(1, 161), (0, X ((i : Int) + 1))] hK rfl rfl rfl rfl (Or.inr ⟨_, _, _, rfl, by decide, by decide, rfl⟩) hc0 (B2.mono (by decide)) ?_
  rintro _ V2 ⟨rfl, s2_, f2_⟩
  refine ⟨(by show (0 : Nat) ≠ 9; decide), (?_ : WL (D + 13) 939 [(1, -2), (1, 0), (1, 161), (1, 198), (0, (i : Int)), w5, w6, w7] [(0, v), (0, v)] V2 cc ss)⟩
  refine wl_same hK rfl ?_
  exact next V2 _ _ _ _ _ ((f2_ (-2) (by decide)).trans hM) s2_ (Or.inl ⟨rfl, rfl⟩)
set_option maxRecDepth 100000 in
theorem lc_31 {D : Nat} {X : Int → Int} {M : Mem} {i cc ss : Nat} {w5 w6 w7 : AV} (hX : ∀ j : Int, -2147483648 ≤ X j ∧ X j ≤ 2147483647) (hi : (i : Int) + 5 ≤ X (-1)) (hM : M (-2) = X) (hs : STT M) (hcs : cc + 1 ≤ (cOf 307).1 ∧ ss + 8 ≤ (cOf 307).2) (next : ∀ (M' : Mem) (v5 v6 v7 : AV) (c2 s2 : Nat), M' (-2) = X → STT M' → (c2 = cc ∧ s2 = ss) ∨ (c2 = cc + 1 ∧ s2 = ss + 8) → WL (D + 13) 1475 [(1, -2), (1, 0), (1, 161), (1, 198), (0, (i : Int)), v5, v6, v7] [] M' c2 s2) : WL (D + 13) 942 [(1, -2), (1, 0), (1, 161), (1, 198), (0, (i : Int)), w5, w6, w7] [] M cc ss := by
  have hK : cd 307 = k307 := rfl
  obtain ⟨k, pl, n, tx, rc, rw_, fc, fa, h1, h2⟩ := hs
  obtain ⟨hk_, hb_, _⟩ := STT.facts h2
  have x1_ := hX ((i : Int) + 1)
  have x2_ := hX ((i : Int) + 2)
  have i31_ := hX (-1)
  have hc0 : cc ≤ (cOf 307).1 ∧ ss ≤ (cOf 307).2 := ⟨by omega, by omega⟩
  refine wl_al hK rfl rfl ?_
  refine wl_al hK rfl rfl ?_
  refine wl_il hK rfl rfl ?_
  refine wl_ic hK rfl ?_
  refine wl_add hK rfl (by omega) (by omega) ?_
  refine wl_sat hK rfl (by omega) (by rw [hM]; omega) ?_
  rw [hM]
  refine wl_al hK rfl rfl ?_
  refine wl_il hK rfl rfl ?_
  refine wl_ic hK rfl ?_
  refine wl_add hK rfl (by omega) (by omega) ?_
  refine wl_sat hK rfl (by omega) (by rw [hM]; omega) ?_
  rw [hM]
  obtain ⟨v, B1⟩ := (b_value hk_ hb_ (X ((i : Int) + 1)) (X ((i : Int) + 2)) x1_.1 x1_.2 x2_.1 x2_.2).two (d := D) h1 h2
  refine wl_call [(1, 0), (0, X ((i : Int) + 1)), (0, X ((i : Int) + 2))] hK rfl rfl rfl rfl (Or.inr ⟨_, _, _, rfl, by decide, by decide, rfl⟩) hc0 (B1.mono (by decide)) ?_
  rintro _ V ⟨rfl, f1_, B2⟩
  refine ⟨(by show (0 : Nat) ≠ 9; decide), (?_ : WL (D + 13) 954 [(1, -2), (1, 0), (1, 161), (1, 198), (0, (i : Int)), w5, w6, w7] [(0, v)] V cc ss)⟩
  have hV : V (-2) = X := (f1_ (-2) (by decide)).trans hM
  refine wl_al hK rfl rfl ?_
  refine wl_al hK rfl rfl ?_
  refine wl_il hK rfl rfl ?_
  refine wl_ic hK rfl ?_
  refine wl_add hK rfl (by omega) (by omega) ?_
  refine wl_sat hK rfl (by omega) (by rw [hV]; omega) ?_
  rw [hV]
  refine wl_al hK rfl rfl ?_
  refine wl_il hK rfl rfl ?_
  refine wl_ic hK rfl ?_
  refine wl_add hK rfl (by omega) (by omega) ?_
  refine wl_sat hK rfl (by omega) (by rw [hV]; omega) ?_
  rw [hV]
  refine wl_call [(1, 161), (0, X ((i : Int) + 1)), (0, X ((i : Int) + 2))] hK rfl rfl rfl rfl (Or.inr ⟨_, _, _, rfl, by decide, by decide, rfl⟩) hc0 (B2.mono (by decide)) ?_
  rintro _ V2 ⟨rfl, s2_, f2_⟩
  refine ⟨(by show (0 : Nat) ≠ 9; decide), (?_ : WL (D + 13) 966 [(1, -2), (1, 0), (1, 161), (1, 198), (0, (i : Int)), w5, w6, w7] [(0, v), (0, v)] V2 cc ss)⟩
  refine wl_same hK rfl ?_
  exact next V2 _ _ _ _ _ ((f2_ (-2) (by decide)).trans hM) s2_ (Or.inl ⟨rfl, rfl⟩)
set_option maxRecDepth 100000 in
theorem lc_32 {D : Nat} {X : Int → Int} {M : Mem} {i cc ss : Nat} {w5 w6 w7 : AV} (hX : ∀ j : Int, -2147483648 ≤ X j ∧ X j ≤ 2147483647) (hi : (i : Int) + 5 ≤ X (-1)) (hM : M (-2) = X) (hs : STT M) (hcs : cc + 1 ≤ (cOf 307).1 ∧ ss + 8 ≤ (cOf 307).2) (next : ∀ (M' : Mem) (v5 v6 v7 : AV) (c2 s2 : Nat), M' (-2) = X → STT M' → (c2 = cc ∧ s2 = ss) ∨ (c2 = cc + 1 ∧ s2 = ss + 8) → WL (D + 13) 1475 [(1, -2), (1, 0), (1, 161), (1, 198), (0, (i : Int)), v5, v6, v7] [] M' c2 s2) : WL (D + 13) 969 [(1, -2), (1, 0), (1, 161), (1, 198), (0, (i : Int)), w5, w6, w7] [] M cc ss := by
  have hK : cd 307 = k307 := rfl
  obtain ⟨k, pl, n, tx, rc, rw_, fc, fa, h1, h2⟩ := hs
  obtain ⟨hk_, hb_, _⟩ := STT.facts h2
  have x1_ := hX ((i : Int) + 1)
  have i31_ := hX (-1)
  have hc0 : cc ≤ (cOf 307).1 ∧ ss ≤ (cOf 307).2 := ⟨by omega, by omega⟩
  refine wl_al hK rfl rfl ?_
  refine wl_al hK rfl rfl ?_
  refine wl_il hK rfl rfl ?_
  refine wl_ic hK rfl ?_
  refine wl_add hK rfl (by omega) (by omega) ?_
  refine wl_sat hK rfl (by omega) (by rw [hM]; omega) ?_
  rw [hM]
  obtain ⟨v, B1⟩ := (b_roots hk_ hb_ (X ((i : Int) + 1)) x1_.1 x1_.2).two (d := D) h1 h2
  refine wl_call [(1, 0), (0, X ((i : Int) + 1))] hK rfl rfl rfl rfl (Or.inr ⟨_, _, _, rfl, by decide, by decide, rfl⟩) hc0 (B1.mono (by decide)) ?_
  rintro _ V ⟨rfl, f1_, B2⟩
  refine ⟨(by show (0 : Nat) ≠ 9; decide), (?_ : WL (D + 13) 976 [(1, -2), (1, 0), (1, 161), (1, 198), (0, (i : Int)), w5, w6, w7] [(0, v)] V cc ss)⟩
  have hV : V (-2) = X := (f1_ (-2) (by decide)).trans hM
  refine wl_al hK rfl rfl ?_
  refine wl_al hK rfl rfl ?_
  refine wl_il hK rfl rfl ?_
  refine wl_ic hK rfl ?_
  refine wl_add hK rfl (by omega) (by omega) ?_
  refine wl_sat hK rfl (by omega) (by rw [hV]; omega) ?_
  rw [hV]
  refine wl_call [(1, 161), (0, X ((i : Int) + 1))] hK rfl rfl rfl rfl (Or.inr ⟨_, _, _, rfl, by decide, by decide, rfl⟩) hc0 (B2.mono (by decide)) ?_
  rintro _ V2 ⟨rfl, s2_, f2_⟩
  refine ⟨(by show (0 : Nat) ≠ 9; decide), (?_ : WL (D + 13) 983 [(1, -2), (1, 0), (1, 161), (1, 198), (0, (i : Int)), w5, w6, w7] [(0, v), (0, v)] V2 cc ss)⟩
  refine wl_same hK rfl ?_
  exact next V2 _ _ _ _ _ ((f2_ (-2) (by decide)).trans hM) s2_ (Or.inl ⟨rfl, rfl⟩)
set_option maxRecDepth 100000 in
theorem lc_33 {D : Nat} {X : Int → Int} {M : Mem} {i cc ss : Nat} {w5 w6 w7 : AV} (hX : ∀ j : Int, -2147483648 ≤ X j ∧ X j ≤ 2147483647) (hi : (i : Int) + 5 ≤ X (-1)) (hM : M (-2) = X) (hs : STT M) (hcs : cc + 1 ≤ (cOf 307).1 ∧ ss + 8 ≤ (cOf 307).2) (next : ∀ (M' : Mem) (v5 v6 v7 : AV) (c2 s2 : Nat), M' (-2) = X → STT M' → (c2 = cc ∧ s2 = ss) ∨ (c2 = cc + 1 ∧ s2 = ss + 8) → WL (D + 13) 1475 [(1, -2), (1, 0), (1, 161), (1, 198), (0, (i : Int)), v5, v6, v7] [] M' c2 s2) : WL (D + 13) 986 [(1, -2), (1, 0), (1, 161), (1, 198), (0, (i : Int)), w5, w6, w7] [] M cc ss := by
  have hK : cd 307 = k307 := rfl
  obtain ⟨k, pl, n, tx, rc, rw_, fc, fa, h1, h2⟩ := hs
  obtain ⟨hk_, hb_, _⟩ := STT.facts h2
  have x1_ := hX ((i : Int) + 1)
  have x2_ := hX ((i : Int) + 2)
  have i31_ := hX (-1)
  have hc0 : cc ≤ (cOf 307).1 ∧ ss ≤ (cOf 307).2 := ⟨by omega, by omega⟩
  refine wl_al hK rfl rfl ?_
  refine wl_al hK rfl rfl ?_
  refine wl_il hK rfl rfl ?_
  refine wl_ic hK rfl ?_
  refine wl_add hK rfl (by omega) (by omega) ?_
  refine wl_sat hK rfl (by omega) (by rw [hM]; omega) ?_
  rw [hM]
  refine wl_al hK rfl rfl ?_
  refine wl_il hK rfl rfl ?_
  refine wl_ic hK rfl ?_
  refine wl_add hK rfl (by omega) (by omega) ?_
  refine wl_sat hK rfl (by omega) (by rw [hM]; omega) ?_
  rw [hM]
  obtain ⟨v, B1⟩ := (b_does hk_ hb_ (X ((i : Int) + 1)) (X ((i : Int) + 2)) x1_.1 x1_.2 x2_.1 x2_.2).two (d := D) h1 h2
  refine wl_call [(1, 0), (0, X ((i : Int) + 1)), (0, X ((i : Int) + 2))] hK rfl rfl rfl rfl (Or.inr ⟨_, _, _, rfl, by decide, by decide, rfl⟩) hc0 (B1.mono (by decide)) ?_
  rintro _ V ⟨rfl, f1_, B2⟩
  refine ⟨(by show (0 : Nat) ≠ 9; decide), (?_ : WL (D + 13) 998 [(1, -2), (1, 0), (1, 161), (1, 198), (0, (i : Int)), w5, w6, w7] [(0, v)] V cc ss)⟩
  have hV : V (-2) = X := (f1_ (-2) (by decide)).trans hM
  refine wl_al hK rfl rfl ?_
  refine wl_al hK rfl rfl ?_
  refine wl_il hK rfl rfl ?_
  refine wl_ic hK rfl ?_
  refine wl_add hK rfl (by omega) (by omega) ?_
  refine wl_sat hK rfl (by omega) (by rw [hV]; omega) ?_
  rw [hV]
  refine wl_al hK rfl rfl ?_
  refine wl_il hK rfl rfl ?_
  refine wl_ic hK rfl ?_
  refine wl_add hK rfl (by omega) (by omega) ?_
  refine wl_sat hK rfl (by omega) (by rw [hV]; omega) ?_
  rw [hV]
  refine wl_call [(1, 161), (0, X ((i : Int) + 1)), (0, X ((i : Int) + 2))] hK rfl rfl rfl rfl (Or.inr ⟨_, _, _, rfl, by decide, by decide, rfl⟩) hc0 (B2.mono (by decide)) ?_
  rintro _ V2 ⟨rfl, s2_, f2_⟩
  refine ⟨(by show (0 : Nat) ≠ 9; decide), (?_ : WL (D + 13) 1010 [(1, -2), (1, 0), (1, 161), (1, 198), (0, (i : Int)), w5, w6, w7] [(0, v), (0, v)] V2 cc ss)⟩
  refine wl_same hK rfl ?_
  exact next V2 _ _ _ _ _ ((f2_ (-2) (by decide)).trans hM) s2_ (Or.inl ⟨rfl, rfl⟩)
set_option maxRecDepth 100000 in
theorem lc_34 {D : Nat} {X : Int → Int} {M : Mem} {i cc ss : Nat} {w5 w6 w7 : AV} (hX : ∀ j : Int, -2147483648 ≤ X j ∧ X j ≤ 2147483647) (hi : (i : Int) + 5 ≤ X (-1)) (hM : M (-2) = X) (hs : STT M) (hcs : cc + 1 ≤ (cOf 307).1 ∧ ss + 8 ≤ (cOf 307).2) (next : ∀ (M' : Mem) (v5 v6 v7 : AV) (c2 s2 : Nat), M' (-2) = X → STT M' → (c2 = cc ∧ s2 = ss) ∨ (c2 = cc + 1 ∧ s2 = ss + 8) → WL (D + 13) 1475 [(1, -2), (1, 0), (1, 161), (1, 198), (0, (i : Int)), v5, v6, v7] [] M' c2 s2) : WL (D + 13) 1013 [(1, -2), (1, 0), (1, 161), (1, 198), (0, (i : Int)), w5, w6, w7] [] M cc ss := by
  have hK : cd 307 = k307 := rfl
  obtain ⟨k, pl, n, tx, rc, rw_, fc, fa, h1, h2⟩ := hs
  obtain ⟨hk_, hb_, _⟩ := STT.facts h2
  have x1_ := hX ((i : Int) + 1)
  have i31_ := hX (-1)
  have hc0 : cc ≤ (cOf 307).1 ∧ ss ≤ (cOf 307).2 := ⟨by omega, by omega⟩
  refine wl_al hK rfl rfl ?_
  refine wl_al hK rfl rfl ?_
  refine wl_il hK rfl rfl ?_
  refine wl_ic hK rfl ?_
  refine wl_add hK rfl (by omega) (by omega) ?_
  refine wl_sat hK rfl (by omega) (by rw [hM]; omega) ?_
  rw [hM]
  obtain ⟨v, B1⟩ := (b_kernel hk_ hb_ (X ((i : Int) + 1)) x1_.1 x1_.2).two (d := D) h1 h2
  refine wl_call [(1, 0), (0, X ((i : Int) + 1))] hK rfl rfl rfl rfl (Or.inr ⟨_, _, _, rfl, by decide, by decide, rfl⟩) hc0 (B1.mono (by decide)) ?_
  rintro _ V ⟨rfl, f1_, B2⟩
  refine ⟨(by show (0 : Nat) ≠ 9; decide), (?_ : WL (D + 13) 1020 [(1, -2), (1, 0), (1, 161), (1, 198), (0, (i : Int)), w5, w6, w7] [(0, v)] V cc ss)⟩
  have hV : V (-2) = X := (f1_ (-2) (by decide)).trans hM
  refine wl_al hK rfl rfl ?_
  refine wl_al hK rfl rfl ?_
  refine wl_il hK rfl rfl ?_
  refine wl_ic hK rfl ?_
  refine wl_add hK rfl (by omega) (by omega) ?_
  refine wl_sat hK rfl (by omega) (by rw [hV]; omega) ?_
  rw [hV]
  refine wl_call [(1, 161), (0, X ((i : Int) + 1))] hK rfl rfl rfl rfl (Or.inr ⟨_, _, _, rfl, by decide, by decide, rfl⟩) hc0 (B2.mono (by decide)) ?_
  rintro _ V2 ⟨rfl, s2_, f2_⟩
  refine ⟨(by show (0 : Nat) ≠ 9; decide), (?_ : WL (D + 13) 1027 [(1, -2), (1, 0), (1, 161), (1, 198), (0, (i : Int)), w5, w6, w7] [(0, v), (0, v)] V2 cc ss)⟩
  refine wl_same hK rfl ?_
  exact next V2 _ _ _ _ _ ((f2_ (-2) (by decide)).trans hM) s2_ (Or.inl ⟨rfl, rfl⟩)
set_option maxRecDepth 100000 in
theorem lc_35 {D : Nat} {X : Int → Int} {M : Mem} {i cc ss : Nat} {w5 w6 w7 : AV} (hX : ∀ j : Int, -2147483648 ≤ X j ∧ X j ≤ 2147483647) (hi : (i : Int) + 5 ≤ X (-1)) (hM : M (-2) = X) (hs : STT M) (hcs : cc + 1 ≤ (cOf 307).1 ∧ ss + 8 ≤ (cOf 307).2) (next : ∀ (M' : Mem) (v5 v6 v7 : AV) (c2 s2 : Nat), M' (-2) = X → STT M' → (c2 = cc ∧ s2 = ss) ∨ (c2 = cc + 1 ∧ s2 = ss + 8) → WL (D + 13) 1475 [(1, -2), (1, 0), (1, 161), (1, 198), (0, (i : Int)), v5, v6, v7] [] M' c2 s2) : WL (D + 13) 1030 [(1, -2), (1, 0), (1, 161), (1, 198), (0, (i : Int)), w5, w6, w7] [] M cc ss := by
  have hK : cd 307 = k307 := rfl
  obtain ⟨k, pl, n, tx, rc, rw_, fc, fa, h1, h2⟩ := hs
  obtain ⟨hk_, hb_, _⟩ := STT.facts h2
  have x1_ := hX ((i : Int) + 1)
  have x2_ := hX ((i : Int) + 2)
  have i31_ := hX (-1)
  have hc0 : cc ≤ (cOf 307).1 ∧ ss ≤ (cOf 307).2 := ⟨by omega, by omega⟩
  refine wl_al hK rfl rfl ?_
  refine wl_al hK rfl rfl ?_
  refine wl_il hK rfl rfl ?_
  refine wl_ic hK rfl ?_
  refine wl_add hK rfl (by omega) (by omega) ?_
  refine wl_sat hK rfl (by omega) (by rw [hM]; omega) ?_
  rw [hM]
  refine wl_al hK rfl rfl ?_
  refine wl_il hK rfl rfl ?_
  refine wl_ic hK rfl ?_
  refine wl_add hK rfl (by omega) (by omega) ?_
  refine wl_sat hK rfl (by omega) (by rw [hM]; omega) ?_
  rw [hM]
  obtain ⟨v, B1⟩ := (b_solves hk_ hb_ (X ((i : Int) + 1)) (X ((i : Int) + 2)) x1_.1 x1_.2 x2_.1 x2_.2).two (d := D) h1 h2
  refine wl_call [(1, 0), (0, X ((i : Int) + 1)), (0, X ((i : Int) + 2))] hK rfl rfl rfl rfl (Or.inr ⟨_, _, _, rfl, by decide, by decide, rfl⟩) hc0 (B1.mono (by decide)) ?_
  rintro _ V ⟨rfl, f1_, B2⟩
  refine ⟨(by show (0 : Nat) ≠ 9; decide), (?_ : WL (D + 13) 1042 [(1, -2), (1, 0), (1, 161), (1, 198), (0, (i : Int)), w5, w6, w7] [(0, v)] V cc ss)⟩
  have hV : V (-2) = X := (f1_ (-2) (by decide)).trans hM
  refine wl_al hK rfl rfl ?_
  refine wl_al hK rfl rfl ?_
  refine wl_il hK rfl rfl ?_
  refine wl_ic hK rfl ?_
  refine wl_add hK rfl (by omega) (by omega) ?_
  refine wl_sat hK rfl (by omega) (by rw [hV]; omega) ?_
  rw [hV]
  refine wl_al hK rfl rfl ?_
  refine wl_il hK rfl rfl ?_
  refine wl_ic hK rfl ?_
  refine wl_add hK rfl (by omega) (by omega) ?_
  refine wl_sat hK rfl (by omega) (by rw [hV]; omega) ?_
  rw [hV]
  refine wl_call [(1, 161), (0, X ((i : Int) + 1)), (0, X ((i : Int) + 2))] hK rfl rfl rfl rfl (Or.inr ⟨_, _, _, rfl, by decide, by decide, rfl⟩) hc0 (B2.mono (by decide)) ?_
  rintro _ V2 ⟨rfl, s2_, f2_⟩
  refine ⟨(by show (0 : Nat) ≠ 9; decide), (?_ : WL (D + 13) 1054 [(1, -2), (1, 0), (1, 161), (1, 198), (0, (i : Int)), w5, w6, w7] [(0, v), (0, v)] V2 cc ss)⟩
  refine wl_same hK rfl ?_
  exact next V2 _ _ _ _ _ ((f2_ (-2) (by decide)).trans hM) s2_ (Or.inl ⟨rfl, rfl⟩)
set_option maxRecDepth 100000 in
theorem lc_36 {D : Nat} {X : Int → Int} {M : Mem} {i cc ss : Nat} {w5 w6 w7 : AV} (hX : ∀ j : Int, -2147483648 ≤ X j ∧ X j ≤ 2147483647) (hi : (i : Int) + 5 ≤ X (-1)) (hM : M (-2) = X) (hs : STT M) (hcs : cc + 1 ≤ (cOf 307).1 ∧ ss + 8 ≤ (cOf 307).2) (next : ∀ (M' : Mem) (v5 v6 v7 : AV) (c2 s2 : Nat), M' (-2) = X → STT M' → (c2 = cc ∧ s2 = ss) ∨ (c2 = cc + 1 ∧ s2 = ss + 8) → WL (D + 13) 1475 [(1, -2), (1, 0), (1, 161), (1, 198), (0, (i : Int)), v5, v6, v7] [] M' c2 s2) : WL (D + 13) 1057 [(1, -2), (1, 0), (1, 161), (1, 198), (0, (i : Int)), w5, w6, w7] [] M cc ss := by
  have hK : cd 307 = k307 := rfl
  obtain ⟨k, pl, n, tx, rc, rw_, fc, fa, h1, h2⟩ := hs
  obtain ⟨hk_, hb_, _⟩ := STT.facts h2
  have x1_ := hX ((i : Int) + 1)
  have i31_ := hX (-1)
  have hc0 : cc ≤ (cOf 307).1 ∧ ss ≤ (cOf 307).2 := ⟨by omega, by omega⟩
  refine wl_al hK rfl rfl ?_
  refine wl_al hK rfl rfl ?_
  refine wl_il hK rfl rfl ?_
  refine wl_ic hK rfl ?_
  refine wl_add hK rfl (by omega) (by omega) ?_
  refine wl_sat hK rfl (by omega) (by rw [hM]; omega) ?_
  rw [hM]
  obtain ⟨v, B1⟩ := (b_reaches hk_ hb_ (X ((i : Int) + 1)) x1_.1 x1_.2).two (d := D) h1 h2
  refine wl_call [(1, 0), (0, X ((i : Int) + 1))] hK rfl rfl rfl rfl (Or.inr ⟨_, _, _, rfl, by decide, by decide, rfl⟩) hc0 (B1.mono (by decide)) ?_
  rintro _ V ⟨rfl, f1_, B2⟩
  refine ⟨(by show (0 : Nat) ≠ 9; decide), (?_ : WL (D + 13) 1064 [(1, -2), (1, 0), (1, 161), (1, 198), (0, (i : Int)), w5, w6, w7] [(0, v)] V cc ss)⟩
  have hV : V (-2) = X := (f1_ (-2) (by decide)).trans hM
  refine wl_al hK rfl rfl ?_
  refine wl_al hK rfl rfl ?_
  refine wl_il hK rfl rfl ?_
  refine wl_ic hK rfl ?_
  refine wl_add hK rfl (by omega) (by omega) ?_
  refine wl_sat hK rfl (by omega) (by rw [hV]; omega) ?_
  rw [hV]
  refine wl_call [(1, 161), (0, X ((i : Int) + 1))] hK rfl rfl rfl rfl (Or.inr ⟨_, _, _, rfl, by decide, by decide, rfl⟩) hc0 (B2.mono (by decide)) ?_
  rintro _ V2 ⟨rfl, s2_, f2_⟩
  refine ⟨(by show (0 : Nat) ≠ 9; decide), (?_ : WL (D + 13) 1071 [(1, -2), (1, 0), (1, 161), (1, 198), (0, (i : Int)), w5, w6, w7] [(0, v), (0, v)] V2 cc ss)⟩
  refine wl_same hK rfl ?_
  exact next V2 _ _ _ _ _ ((f2_ (-2) (by decide)).trans hM) s2_ (Or.inl ⟨rfl, rfl⟩)
set_option maxRecDepth 100000 in
theorem lc_37 {D : Nat} {X : Int → Int} {M : Mem} {i cc ss : Nat} {w5 w6 w7 : AV} (hX : ∀ j : Int, -2147483648 ≤ X j ∧ X j ≤ 2147483647) (hi : (i : Int) + 5 ≤ X (-1)) (hM : M (-2) = X) (hs : STT M) (hcs : cc + 1 ≤ (cOf 307).1 ∧ ss + 8 ≤ (cOf 307).2) (next : ∀ (M' : Mem) (v5 v6 v7 : AV) (c2 s2 : Nat), M' (-2) = X → STT M' → (c2 = cc ∧ s2 = ss) ∨ (c2 = cc + 1 ∧ s2 = ss + 8) → WL (D + 13) 1475 [(1, -2), (1, 0), (1, 161), (1, 198), (0, (i : Int)), v5, v6, v7] [] M' c2 s2) : WL (D + 13) 1074 [(1, -2), (1, 0), (1, 161), (1, 198), (0, (i : Int)), w5, w6, w7] [] M cc ss := by
  have hK : cd 307 = k307 := rfl
  obtain ⟨k, pl, n, tx, rc, rw_, fc, fa, h1, h2⟩ := hs
  obtain ⟨hk_, hb_, _⟩ := STT.facts h2
  have x1_ := hX ((i : Int) + 1)
  have i31_ := hX (-1)
  have hc0 : cc ≤ (cOf 307).1 ∧ ss ≤ (cOf 307).2 := ⟨by omega, by omega⟩
  refine wl_al hK rfl rfl ?_
  refine wl_al hK rfl rfl ?_
  refine wl_il hK rfl rfl ?_
  refine wl_ic hK rfl ?_
  refine wl_add hK rfl (by omega) (by omega) ?_
  refine wl_sat hK rfl (by omega) (by rw [hM]; omega) ?_
  rw [hM]
  obtain ⟨v, B1⟩ := (b_basis hk_ hb_ (X ((i : Int) + 1)) x1_.1 x1_.2).two (d := D) h1 h2
  refine wl_call [(1, 0), (0, X ((i : Int) + 1))] hK rfl rfl rfl rfl (Or.inr ⟨_, _, _, rfl, by decide, by decide, rfl⟩) hc0 (B1.mono (by decide)) ?_
  rintro _ V ⟨rfl, f1_, B2⟩
  refine ⟨(by show (0 : Nat) ≠ 9; decide), (?_ : WL (D + 13) 1081 [(1, -2), (1, 0), (1, 161), (1, 198), (0, (i : Int)), w5, w6, w7] [(0, v)] V cc ss)⟩
  have hV : V (-2) = X := (f1_ (-2) (by decide)).trans hM
  refine wl_al hK rfl rfl ?_
  refine wl_al hK rfl rfl ?_
  refine wl_il hK rfl rfl ?_
  refine wl_ic hK rfl ?_
  refine wl_add hK rfl (by omega) (by omega) ?_
  refine wl_sat hK rfl (by omega) (by rw [hV]; omega) ?_
  rw [hV]
  refine wl_call [(1, 161), (0, X ((i : Int) + 1))] hK rfl rfl rfl rfl (Or.inr ⟨_, _, _, rfl, by decide, by decide, rfl⟩) hc0 (B2.mono (by decide)) ?_
  rintro _ V2 ⟨rfl, s2_, f2_⟩
  refine ⟨(by show (0 : Nat) ≠ 9; decide), (?_ : WL (D + 13) 1088 [(1, -2), (1, 0), (1, 161), (1, 198), (0, (i : Int)), w5, w6, w7] [(0, v), (0, v)] V2 cc ss)⟩
  refine wl_same hK rfl ?_
  exact next V2 _ _ _ _ _ ((f2_ (-2) (by decide)).trans hM) s2_ (Or.inl ⟨rfl, rfl⟩)
set_option maxRecDepth 100000 in
theorem lc_38 {D : Nat} {X : Int → Int} {M : Mem} {i cc ss : Nat} {w5 w6 w7 : AV} (hX : ∀ j : Int, -2147483648 ≤ X j ∧ X j ≤ 2147483647) (hi : (i : Int) + 5 ≤ X (-1)) (hM : M (-2) = X) (hs : STT M) (hcs : cc + 1 ≤ (cOf 307).1 ∧ ss + 8 ≤ (cOf 307).2) (next : ∀ (M' : Mem) (v5 v6 v7 : AV) (c2 s2 : Nat), M' (-2) = X → STT M' → (c2 = cc ∧ s2 = ss) ∨ (c2 = cc + 1 ∧ s2 = ss + 8) → WL (D + 13) 1475 [(1, -2), (1, 0), (1, 161), (1, 198), (0, (i : Int)), v5, v6, v7] [] M' c2 s2) : WL (D + 13) 1091 [(1, -2), (1, 0), (1, 161), (1, 198), (0, (i : Int)), w5, w6, w7] [] M cc ss := by
  have hK : cd 307 = k307 := rfl
  obtain ⟨k, pl, n, tx, rc, rw_, fc, fa, h1, h2⟩ := hs
  obtain ⟨hk_, hb_, _⟩ := STT.facts h2
  have x1_ := hX ((i : Int) + 1)
  have x2_ := hX ((i : Int) + 2)
  have i31_ := hX (-1)
  have hc0 : cc ≤ (cOf 307).1 ∧ ss ≤ (cOf 307).2 := ⟨by omega, by omega⟩
  refine wl_al hK rfl rfl ?_
  refine wl_al hK rfl rfl ?_
  refine wl_il hK rfl rfl ?_
  refine wl_ic hK rfl ?_
  refine wl_add hK rfl (by omega) (by omega) ?_
  refine wl_sat hK rfl (by omega) (by rw [hM]; omega) ?_
  rw [hM]
  refine wl_al hK rfl rfl ?_
  refine wl_il hK rfl rfl ?_
  refine wl_ic hK rfl ?_
  refine wl_add hK rfl (by omega) (by omega) ?_
  refine wl_sat hK rfl (by omega) (by rw [hM]; omega) ?_
  rw [hM]
  obtain ⟨v, B1⟩ := (b_shares hk_ hb_ (X ((i : Int) + 1)) (X ((i : Int) + 2)) x1_.1 x1_.2 x2_.1 x2_.2).two (d := D) h1 h2
  refine wl_call [(1, 0), (0, X ((i : Int) + 1)), (0, X ((i : Int) + 2))] hK rfl rfl rfl rfl (Or.inr ⟨_, _, _, rfl, by decide, by decide, rfl⟩) hc0 (B1.mono (by decide)) ?_
  rintro _ V ⟨rfl, f1_, B2⟩
  refine ⟨(by show (0 : Nat) ≠ 9; decide), (?_ : WL (D + 13) 1103 [(1, -2), (1, 0), (1, 161), (1, 198), (0, (i : Int)), w5, w6, w7] [(0, v)] V cc ss)⟩
  have hV : V (-2) = X := (f1_ (-2) (by decide)).trans hM
  refine wl_al hK rfl rfl ?_
  refine wl_al hK rfl rfl ?_
  refine wl_il hK rfl rfl ?_
  refine wl_ic hK rfl ?_
  refine wl_add hK rfl (by omega) (by omega) ?_
  refine wl_sat hK rfl (by omega) (by rw [hV]; omega) ?_
  rw [hV]
  refine wl_al hK rfl rfl ?_
  refine wl_il hK rfl rfl ?_
  refine wl_ic hK rfl ?_
  refine wl_add hK rfl (by omega) (by omega) ?_
  refine wl_sat hK rfl (by omega) (by rw [hV]; omega) ?_
  rw [hV]
  refine wl_call [(1, 161), (0, X ((i : Int) + 1)), (0, X ((i : Int) + 2))] hK rfl rfl rfl rfl (Or.inr ⟨_, _, _, rfl, by decide, by decide, rfl⟩) hc0 (B2.mono (by decide)) ?_
  rintro _ V2 ⟨rfl, s2_, f2_⟩
  refine ⟨(by show (0 : Nat) ≠ 9; decide), (?_ : WL (D + 13) 1115 [(1, -2), (1, 0), (1, 161), (1, 198), (0, (i : Int)), w5, w6, w7] [(0, v), (0, v)] V2 cc ss)⟩
  refine wl_same hK rfl ?_
  exact next V2 _ _ _ _ _ ((f2_ (-2) (by decide)).trans hM) s2_ (Or.inl ⟨rfl, rfl⟩)
set_option maxRecDepth 100000 in
theorem lc_39 {D : Nat} {X : Int → Int} {M : Mem} {i cc ss : Nat} {w5 w6 w7 : AV} (hX : ∀ j : Int, -2147483648 ≤ X j ∧ X j ≤ 2147483647) (hi : (i : Int) + 5 ≤ X (-1)) (hM : M (-2) = X) (hs : STT M) (hcs : cc + 1 ≤ (cOf 307).1 ∧ ss + 8 ≤ (cOf 307).2) (next : ∀ (M' : Mem) (v5 v6 v7 : AV) (c2 s2 : Nat), M' (-2) = X → STT M' → (c2 = cc ∧ s2 = ss) ∨ (c2 = cc + 1 ∧ s2 = ss + 8) → WL (D + 13) 1475 [(1, -2), (1, 0), (1, 161), (1, 198), (0, (i : Int)), v5, v6, v7] [] M' c2 s2) : WL (D + 13) 1118 [(1, -2), (1, 0), (1, 161), (1, 198), (0, (i : Int)), w5, w6, w7] [] M cc ss := by
  have hK : cd 307 = k307 := rfl
  obtain ⟨k, pl, n, tx, rc, rw_, fc, fa, h1, h2⟩ := hs
  obtain ⟨hk_, hb_, _⟩ := STT.facts h2
  have x1_ := hX ((i : Int) + 1)
  have i31_ := hX (-1)
  have hc0 : cc ≤ (cOf 307).1 ∧ ss ≤ (cOf 307).2 := ⟨by omega, by omega⟩
  refine wl_al hK rfl rfl ?_
  refine wl_al hK rfl rfl ?_
  refine wl_il hK rfl rfl ?_
  refine wl_ic hK rfl ?_
  refine wl_add hK rfl (by omega) (by omega) ?_
  refine wl_sat hK rfl (by omega) (by rw [hM]; omega) ?_
  rw [hM]
  obtain ⟨v, B1⟩ := (b_eigen hk_ hb_ (X ((i : Int) + 1)) x1_.1 x1_.2).two (d := D) h1 h2
  refine wl_call [(1, 0), (0, X ((i : Int) + 1))] hK rfl rfl rfl rfl (Or.inr ⟨_, _, _, rfl, by decide, by decide, rfl⟩) hc0 (B1.mono (by decide)) ?_
  rintro _ V ⟨rfl, f1_, B2⟩
  refine ⟨(by show (0 : Nat) ≠ 9; decide), (?_ : WL (D + 13) 1125 [(1, -2), (1, 0), (1, 161), (1, 198), (0, (i : Int)), w5, w6, w7] [(0, v)] V cc ss)⟩
  have hV : V (-2) = X := (f1_ (-2) (by decide)).trans hM
  refine wl_al hK rfl rfl ?_
  refine wl_al hK rfl rfl ?_
  refine wl_il hK rfl rfl ?_
  refine wl_ic hK rfl ?_
  refine wl_add hK rfl (by omega) (by omega) ?_
  refine wl_sat hK rfl (by omega) (by rw [hV]; omega) ?_
  rw [hV]
  refine wl_call [(1, 161), (0, X ((i : Int) + 1))] hK rfl rfl rfl rfl (Or.inr ⟨_, _, _, rfl, by decide, by decide, rfl⟩) hc0 (B2.mono (by decide)) ?_
  rintro _ V2 ⟨rfl, s2_, f2_⟩
  refine ⟨(by show (0 : Nat) ≠ 9; decide), (?_ : WL (D + 13) 1132 [(1, -2), (1, 0), (1, 161), (1, 198), (0, (i : Int)), w5, w6, w7] [(0, v), (0, v)] V2 cc ss)⟩
  refine wl_same hK rfl ?_
  exact next V2 _ _ _ _ _ ((f2_ (-2) (by decide)).trans hM) s2_ (Or.inl ⟨rfl, rfl⟩)
set_option maxRecDepth 100000 in
theorem lc_40 {D : Nat} {X : Int → Int} {M : Mem} {i cc ss : Nat} {w5 w6 w7 : AV} (hX : ∀ j : Int, -2147483648 ≤ X j ∧ X j ≤ 2147483647) (hi : (i : Int) + 5 ≤ X (-1)) (hM : M (-2) = X) (hs : STT M) (hcs : cc + 1 ≤ (cOf 307).1 ∧ ss + 8 ≤ (cOf 307).2) (next : ∀ (M' : Mem) (v5 v6 v7 : AV) (c2 s2 : Nat), M' (-2) = X → STT M' → (c2 = cc ∧ s2 = ss) ∨ (c2 = cc + 1 ∧ s2 = ss + 8) → WL (D + 13) 1475 [(1, -2), (1, 0), (1, 161), (1, 198), (0, (i : Int)), v5, v6, v7] [] M' c2 s2) : WL (D + 13) 1135 [(1, -2), (1, 0), (1, 161), (1, 198), (0, (i : Int)), w5, w6, w7] [] M cc ss := by
  have hK : cd 307 = k307 := rfl
  obtain ⟨k, pl, n, tx, rc, rw_, fc, fa, h1, h2⟩ := hs
  obtain ⟨hk_, hb_, _⟩ := STT.facts h2
  have x1_ := hX ((i : Int) + 1)
  have x2_ := hX ((i : Int) + 2)
  have i31_ := hX (-1)
  have hc0 : cc ≤ (cOf 307).1 ∧ ss ≤ (cOf 307).2 := ⟨by omega, by omega⟩
  refine wl_al hK rfl rfl ?_
  refine wl_al hK rfl rfl ?_
  refine wl_il hK rfl rfl ?_
  refine wl_ic hK rfl ?_
  refine wl_add hK rfl (by omega) (by omega) ?_
  refine wl_sat hK rfl (by omega) (by rw [hM]; omega) ?_
  rw [hM]
  refine wl_al hK rfl rfl ?_
  refine wl_il hK rfl rfl ?_
  refine wl_ic hK rfl ?_
  refine wl_add hK rfl (by omega) (by omega) ?_
  refine wl_sat hK rfl (by omega) (by rw [hM]; omega) ?_
  rw [hM]
  obtain ⟨v, B1⟩ := (b_van hk_ hb_ (X ((i : Int) + 1)) (X ((i : Int) + 2)) x1_.1 x1_.2 x2_.1 x2_.2).two (d := D) h1 h2
  refine wl_call [(1, 0), (0, X ((i : Int) + 1)), (0, X ((i : Int) + 2))] hK rfl rfl rfl rfl (Or.inr ⟨_, _, _, rfl, by decide, by decide, rfl⟩) hc0 (B1.mono (by decide)) ?_
  rintro _ V ⟨rfl, f1_, B2⟩
  refine ⟨(by show (0 : Nat) ≠ 9; decide), (?_ : WL (D + 13) 1147 [(1, -2), (1, 0), (1, 161), (1, 198), (0, (i : Int)), w5, w6, w7] [(0, v)] V cc ss)⟩
  have hV : V (-2) = X := (f1_ (-2) (by decide)).trans hM
  refine wl_al hK rfl rfl ?_
  refine wl_al hK rfl rfl ?_
  refine wl_il hK rfl rfl ?_
  refine wl_ic hK rfl ?_
  refine wl_add hK rfl (by omega) (by omega) ?_
  refine wl_sat hK rfl (by omega) (by rw [hV]; omega) ?_
  rw [hV]
  refine wl_al hK rfl rfl ?_
  refine wl_il hK rfl rfl ?_
  refine wl_ic hK rfl ?_
  refine wl_add hK rfl (by omega) (by omega) ?_
  refine wl_sat hK rfl (by omega) (by rw [hV]; omega) ?_
  rw [hV]
  refine wl_call [(1, 161), (0, X ((i : Int) + 1)), (0, X ((i : Int) + 2))] hK rfl rfl rfl rfl (Or.inr ⟨_, _, _, rfl, by decide, by decide, rfl⟩) hc0 (B2.mono (by decide)) ?_
  rintro _ V2 ⟨rfl, s2_, f2_⟩
  refine ⟨(by show (0 : Nat) ≠ 9; decide), (?_ : WL (D + 13) 1159 [(1, -2), (1, 0), (1, 161), (1, 198), (0, (i : Int)), w5, w6, w7] [(0, v), (0, v)] V2 cc ss)⟩
  refine wl_same hK rfl ?_
  exact next V2 _ _ _ _ _ ((f2_ (-2) (by decide)).trans hM) s2_ (Or.inl ⟨rfl, rfl⟩)
set_option maxRecDepth 100000 in
theorem lc_41 {D : Nat} {X : Int → Int} {M : Mem} {i cc ss : Nat} {w5 w6 w7 : AV} (hX : ∀ j : Int, -2147483648 ≤ X j ∧ X j ≤ 2147483647) (hi : (i : Int) + 5 ≤ X (-1)) (hM : M (-2) = X) (hs : STT M) (hcs : cc + 1 ≤ (cOf 307).1 ∧ ss + 8 ≤ (cOf 307).2) (next : ∀ (M' : Mem) (v5 v6 v7 : AV) (c2 s2 : Nat), M' (-2) = X → STT M' → (c2 = cc ∧ s2 = ss) ∨ (c2 = cc + 1 ∧ s2 = ss + 8) → WL (D + 13) 1475 [(1, -2), (1, 0), (1, 161), (1, 198), (0, (i : Int)), v5, v6, v7] [] M' c2 s2) : WL (D + 13) 1162 [(1, -2), (1, 0), (1, 161), (1, 198), (0, (i : Int)), w5, w6, w7] [] M cc ss := by
  have hK : cd 307 = k307 := rfl
  obtain ⟨k, pl, n, tx, rc, rw_, fc, fa, h1, h2⟩ := hs
  obtain ⟨hk_, hb_, _⟩ := STT.facts h2
  have x1_ := hX ((i : Int) + 1)
  have x2_ := hX ((i : Int) + 2)
  have i31_ := hX (-1)
  have hc0 : cc ≤ (cOf 307).1 ∧ ss ≤ (cOf 307).2 := ⟨by omega, by omega⟩
  refine wl_al hK rfl rfl ?_
  refine wl_al hK rfl rfl ?_
  refine wl_il hK rfl rfl ?_
  refine wl_ic hK rfl ?_
  refine wl_add hK rfl (by omega) (by omega) ?_
  refine wl_sat hK rfl (by omega) (by rw [hM]; omega) ?_
  rw [hM]
  refine wl_al hK rfl rfl ?_
  refine wl_il hK rfl rfl ?_
  refine wl_ic hK rfl ?_
  refine wl_add hK rfl (by omega) (by omega) ?_
  refine wl_sat hK rfl (by omega) (by rw [hM]; omega) ?_
  rw [hM]
  obtain ⟨v, B1⟩ := (b_divs hk_ hb_ (X ((i : Int) + 1)) (X ((i : Int) + 2)) x1_.1 x1_.2 x2_.1 x2_.2).two (d := D) h1 h2
  refine wl_call [(1, 0), (0, X ((i : Int) + 1)), (0, X ((i : Int) + 2))] hK rfl rfl rfl rfl (Or.inr ⟨_, _, _, rfl, by decide, by decide, rfl⟩) hc0 (B1.mono (by decide)) ?_
  rintro _ V ⟨rfl, f1_, B2⟩
  refine ⟨(by show (0 : Nat) ≠ 9; decide), (?_ : WL (D + 13) 1174 [(1, -2), (1, 0), (1, 161), (1, 198), (0, (i : Int)), w5, w6, w7] [(0, v)] V cc ss)⟩
  have hV : V (-2) = X := (f1_ (-2) (by decide)).trans hM
  refine wl_al hK rfl rfl ?_
  refine wl_al hK rfl rfl ?_
  refine wl_il hK rfl rfl ?_
  refine wl_ic hK rfl ?_
  refine wl_add hK rfl (by omega) (by omega) ?_
  refine wl_sat hK rfl (by omega) (by rw [hV]; omega) ?_
  rw [hV]
  refine wl_al hK rfl rfl ?_
  refine wl_il hK rfl rfl ?_
  refine wl_ic hK rfl ?_
  refine wl_add hK rfl (by omega) (by omega) ?_
  refine wl_sat hK rfl (by omega) (by rw [hV]; omega) ?_
  rw [hV]
  refine wl_call [(1, 161), (0, X ((i : Int) + 1)), (0, X ((i : Int) + 2))] hK rfl rfl rfl rfl (Or.inr ⟨_, _, _, rfl, by decide, by decide, rfl⟩) hc0 (B2.mono (by decide)) ?_
  rintro _ V2 ⟨rfl, s2_, f2_⟩
  refine ⟨(by show (0 : Nat) ≠ 9; decide), (?_ : WL (D + 13) 1186 [(1, -2), (1, 0), (1, 161), (1, 198), (0, (i : Int)), w5, w6, w7] [(0, v), (0, v)] V2 cc ss)⟩
  refine wl_same hK rfl ?_
  exact next V2 _ _ _ _ _ ((f2_ (-2) (by decide)).trans hM) s2_ (Or.inl ⟨rfl, rfl⟩)
set_option maxRecDepth 100000 in
theorem lc_42 {D : Nat} {X : Int → Int} {M : Mem} {i cc ss : Nat} {w5 w6 w7 : AV} (hX : ∀ j : Int, -2147483648 ≤ X j ∧ X j ≤ 2147483647) (hi : (i : Int) + 5 ≤ X (-1)) (hM : M (-2) = X) (hs : STT M) (hcs : cc + 1 ≤ (cOf 307).1 ∧ ss + 8 ≤ (cOf 307).2) (next : ∀ (M' : Mem) (v5 v6 v7 : AV) (c2 s2 : Nat), M' (-2) = X → STT M' → (c2 = cc ∧ s2 = ss) ∨ (c2 = cc + 1 ∧ s2 = ss + 8) → WL (D + 13) 1475 [(1, -2), (1, 0), (1, 161), (1, 198), (0, (i : Int)), v5, v6, v7] [] M' c2 s2) : WL (D + 13) 1189 [(1, -2), (1, 0), (1, 161), (1, 198), (0, (i : Int)), w5, w6, w7] [] M cc ss := by
  have hK : cd 307 = k307 := rfl
  obtain ⟨k, pl, n, tx, rc, rw_, fc, fa, h1, h2⟩ := hs
  obtain ⟨hk_, hb_, _⟩ := STT.facts h2
  have x1_ := hX ((i : Int) + 1)
  have i31_ := hX (-1)
  have hc0 : cc ≤ (cOf 307).1 ∧ ss ≤ (cOf 307).2 := ⟨by omega, by omega⟩
  refine wl_al hK rfl rfl ?_
  refine wl_al hK rfl rfl ?_
  refine wl_il hK rfl rfl ?_
  refine wl_ic hK rfl ?_
  refine wl_add hK rfl (by omega) (by omega) ?_
  refine wl_sat hK rfl (by omega) (by rw [hM]; omega) ?_
  rw [hM]
  obtain ⟨v, B1⟩ := (b_prime hk_ hb_ (X ((i : Int) + 1)) x1_.1 x1_.2).two (d := D) h1 h2
  refine wl_call [(1, 0), (0, X ((i : Int) + 1))] hK rfl rfl rfl rfl (Or.inr ⟨_, _, _, rfl, by decide, by decide, rfl⟩) hc0 (B1.mono (by decide)) ?_
  rintro _ V ⟨rfl, f1_, B2⟩
  refine ⟨(by show (0 : Nat) ≠ 9; decide), (?_ : WL (D + 13) 1196 [(1, -2), (1, 0), (1, 161), (1, 198), (0, (i : Int)), w5, w6, w7] [(0, v)] V cc ss)⟩
  have hV : V (-2) = X := (f1_ (-2) (by decide)).trans hM
  refine wl_al hK rfl rfl ?_
  refine wl_al hK rfl rfl ?_
  refine wl_il hK rfl rfl ?_
  refine wl_ic hK rfl ?_
  refine wl_add hK rfl (by omega) (by omega) ?_
  refine wl_sat hK rfl (by omega) (by rw [hV]; omega) ?_
  rw [hV]
  refine wl_call [(1, 161), (0, X ((i : Int) + 1))] hK rfl rfl rfl rfl (Or.inr ⟨_, _, _, rfl, by decide, by decide, rfl⟩) hc0 (B2.mono (by decide)) ?_
  rintro _ V2 ⟨rfl, s2_, f2_⟩
  refine ⟨(by show (0 : Nat) ≠ 9; decide), (?_ : WL (D + 13) 1203 [(1, -2), (1, 0), (1, 161), (1, 198), (0, (i : Int)), w5, w6, w7] [(0, v), (0, v)] V2 cc ss)⟩
  refine wl_same hK rfl ?_
  exact next V2 _ _ _ _ _ ((f2_ (-2) (by decide)).trans hM) s2_ (Or.inl ⟨rfl, rfl⟩)
set_option maxRecDepth 100000 in
theorem lc_43 {D : Nat} {X : Int → Int} {M : Mem} {i cc ss : Nat} {w5 w6 w7 : AV} (hX : ∀ j : Int, -2147483648 ≤ X j ∧ X j ≤ 2147483647) (hi : (i : Int) + 5 ≤ X (-1)) (hM : M (-2) = X) (hs : STT M) (hcs : cc + 1 ≤ (cOf 307).1 ∧ ss + 8 ≤ (cOf 307).2) (next : ∀ (M' : Mem) (v5 v6 v7 : AV) (c2 s2 : Nat), M' (-2) = X → STT M' → (c2 = cc ∧ s2 = ss) ∨ (c2 = cc + 1 ∧ s2 = ss + 8) → WL (D + 13) 1475 [(1, -2), (1, 0), (1, 161), (1, 198), (0, (i : Int)), v5, v6, v7] [] M' c2 s2) : WL (D + 13) 1206 [(1, -2), (1, 0), (1, 161), (1, 198), (0, (i : Int)), w5, w6, w7] [] M cc ss := by
  have hK : cd 307 = k307 := rfl
  obtain ⟨k, pl, n, tx, rc, rw_, fc, fa, h1, h2⟩ := hs
  obtain ⟨hk_, hb_, _⟩ := STT.facts h2
  have x1_ := hX ((i : Int) + 1)
  have i31_ := hX (-1)
  have hc0 : cc ≤ (cOf 307).1 ∧ ss ≤ (cOf 307).2 := ⟨by omega, by omega⟩
  refine wl_al hK rfl rfl ?_
  refine wl_al hK rfl rfl ?_
  refine wl_il hK rfl rfl ?_
  refine wl_ic hK rfl ?_
  refine wl_add hK rfl (by omega) (by omega) ?_
  refine wl_sat hK rfl (by omega) (by rw [hM]; omega) ?_
  rw [hM]
  obtain ⟨v, B1⟩ := (b_factors hk_ hb_ (X ((i : Int) + 1)) x1_.1 x1_.2).two (d := D) h1 h2
  refine wl_call [(1, 0), (0, X ((i : Int) + 1))] hK rfl rfl rfl rfl (Or.inr ⟨_, _, _, rfl, by decide, by decide, rfl⟩) hc0 (B1.mono (by decide)) ?_
  rintro _ V ⟨rfl, f1_, B2⟩
  refine ⟨(by show (0 : Nat) ≠ 9; decide), (?_ : WL (D + 13) 1213 [(1, -2), (1, 0), (1, 161), (1, 198), (0, (i : Int)), w5, w6, w7] [(0, v)] V cc ss)⟩
  have hV : V (-2) = X := (f1_ (-2) (by decide)).trans hM
  refine wl_al hK rfl rfl ?_
  refine wl_al hK rfl rfl ?_
  refine wl_il hK rfl rfl ?_
  refine wl_ic hK rfl ?_
  refine wl_add hK rfl (by omega) (by omega) ?_
  refine wl_sat hK rfl (by omega) (by rw [hV]; omega) ?_
  rw [hV]
  refine wl_call [(1, 161), (0, X ((i : Int) + 1))] hK rfl rfl rfl rfl (Or.inr ⟨_, _, _, rfl, by decide, by decide, rfl⟩) hc0 (B2.mono (by decide)) ?_
  rintro _ V2 ⟨rfl, s2_, f2_⟩
  refine ⟨(by show (0 : Nat) ≠ 9; decide), (?_ : WL (D + 13) 1220 [(1, -2), (1, 0), (1, 161), (1, 198), (0, (i : Int)), w5, w6, w7] [(0, v), (0, v)] V2 cc ss)⟩
  refine wl_same hK rfl ?_
  exact next V2 _ _ _ _ _ ((f2_ (-2) (by decide)).trans hM) s2_ (Or.inl ⟨rfl, rfl⟩)
set_option maxRecDepth 100000 in
theorem lc_45 {D : Nat} {X : Int → Int} {M : Mem} {i cc ss : Nat} {w5 w6 w7 : AV} (hX : ∀ j : Int, -2147483648 ≤ X j ∧ X j ≤ 2147483647) (hi : (i : Int) + 5 ≤ X (-1)) (hM : M (-2) = X) (hs : STT M) (hcs : cc + 1 ≤ (cOf 307).1 ∧ ss + 8 ≤ (cOf 307).2) (next : ∀ (M' : Mem) (v5 v6 v7 : AV) (c2 s2 : Nat), M' (-2) = X → STT M' → (c2 = cc ∧ s2 = ss) ∨ (c2 = cc + 1 ∧ s2 = ss + 8) → WL (D + 13) 1475 [(1, -2), (1, 0), (1, 161), (1, 198), (0, (i : Int)), v5, v6, v7] [] M' c2 s2) : WL (D + 13) 1268 [(1, -2), (1, 0), (1, 161), (1, 198), (0, (i : Int)), w5, w6, w7] [] M cc ss := by
  have hK : cd 307 = k307 := rfl
  obtain ⟨k, pl, n, tx, rc, rw_, fc, fa, h1, h2⟩ := hs
  obtain ⟨hk_, hb_, _⟩ := STT.facts h2
  have x1_ := hX ((i : Int) + 1)
  have i31_ := hX (-1)
  have hc0 : cc ≤ (cOf 307).1 ∧ ss ≤ (cOf 307).2 := ⟨by omega, by omega⟩
  refine wl_al hK rfl rfl ?_
  refine wl_al hK rfl rfl ?_
  refine wl_il hK rfl rfl ?_
  refine wl_ic hK rfl ?_
  refine wl_add hK rfl (by omega) (by omega) ?_
  refine wl_sat hK rfl (by omega) (by rw [hM]; omega) ?_
  rw [hM]
  obtain ⟨v, B1⟩ := (b_ways hk_ hb_ (X ((i : Int) + 1)) x1_.1 x1_.2).two (d := D) h1 h2
  refine wl_call [(1, 0), (0, X ((i : Int) + 1))] hK rfl rfl rfl rfl (Or.inr ⟨_, _, _, rfl, by decide, by decide, rfl⟩) hc0 (B1.mono (by decide)) ?_
  rintro _ V ⟨rfl, f1_, B2⟩
  refine ⟨(by show (0 : Nat) ≠ 9; decide), (?_ : WL (D + 13) 1275 [(1, -2), (1, 0), (1, 161), (1, 198), (0, (i : Int)), w5, w6, w7] [(0, v)] V cc ss)⟩
  have hV : V (-2) = X := (f1_ (-2) (by decide)).trans hM
  refine wl_al hK rfl rfl ?_
  refine wl_al hK rfl rfl ?_
  refine wl_il hK rfl rfl ?_
  refine wl_ic hK rfl ?_
  refine wl_add hK rfl (by omega) (by omega) ?_
  refine wl_sat hK rfl (by omega) (by rw [hV]; omega) ?_
  rw [hV]
  refine wl_call [(1, 161), (0, X ((i : Int) + 1))] hK rfl rfl rfl rfl (Or.inr ⟨_, _, _, rfl, by decide, by decide, rfl⟩) hc0 (B2.mono (by decide)) ?_
  rintro _ V2 ⟨rfl, s2_, f2_⟩
  refine ⟨(by show (0 : Nat) ≠ 9; decide), (?_ : WL (D + 13) 1282 [(1, -2), (1, 0), (1, 161), (1, 198), (0, (i : Int)), w5, w6, w7] [(0, v), (0, v)] V2 cc ss)⟩
  refine wl_same hK rfl ?_
  exact next V2 _ _ _ _ _ ((f2_ (-2) (by decide)).trans hM) s2_ (Or.inl ⟨rfl, rfl⟩)
set_option maxRecDepth 100000 in
theorem lc_46 {D : Nat} {X : Int → Int} {M : Mem} {i cc ss : Nat} {w5 w6 w7 : AV} (hX : ∀ j : Int, -2147483648 ≤ X j ∧ X j ≤ 2147483647) (hi : (i : Int) + 5 ≤ X (-1)) (hM : M (-2) = X) (hs : STT M) (hcs : cc + 1 ≤ (cOf 307).1 ∧ ss + 8 ≤ (cOf 307).2) (next : ∀ (M' : Mem) (v5 v6 v7 : AV) (c2 s2 : Nat), M' (-2) = X → STT M' → (c2 = cc ∧ s2 = ss) ∨ (c2 = cc + 1 ∧ s2 = ss + 8) → WL (D + 13) 1475 [(1, -2), (1, 0), (1, 161), (1, 198), (0, (i : Int)), v5, v6, v7] [] M' c2 s2) : WL (D + 13) 1285 [(1, -2), (1, 0), (1, 161), (1, 198), (0, (i : Int)), w5, w6, w7] [] M cc ss := by
  have hK : cd 307 = k307 := rfl
  obtain ⟨k, pl, n, tx, rc, rw_, fc, fa, h1, h2⟩ := hs
  obtain ⟨hk_, hb_, _⟩ := STT.facts h2
  have x1_ := hX ((i : Int) + 1)
  have i31_ := hX (-1)
  have hc0 : cc ≤ (cOf 307).1 ∧ ss ≤ (cOf 307).2 := ⟨by omega, by omega⟩
  refine wl_al hK rfl rfl ?_
  refine wl_al hK rfl rfl ?_
  refine wl_il hK rfl rfl ?_
  refine wl_ic hK rfl ?_
  refine wl_add hK rfl (by omega) (by omega) ?_
  refine wl_sat hK rfl (by omega) (by rw [hM]; omega) ?_
  rw [hM]
  obtain ⟨v, B1⟩ := (b_likes hk_ hb_ (X ((i : Int) + 1)) x1_.1 x1_.2).two (d := D) h1 h2
  refine wl_call [(1, 0), (0, X ((i : Int) + 1))] hK rfl rfl rfl rfl (Or.inr ⟨_, _, _, rfl, by decide, by decide, rfl⟩) hc0 (B1.mono (by decide)) ?_
  rintro _ V ⟨rfl, f1_, B2⟩
  refine ⟨(by show (0 : Nat) ≠ 9; decide), (?_ : WL (D + 13) 1292 [(1, -2), (1, 0), (1, 161), (1, 198), (0, (i : Int)), w5, w6, w7] [(0, v)] V cc ss)⟩
  have hV : V (-2) = X := (f1_ (-2) (by decide)).trans hM
  refine wl_al hK rfl rfl ?_
  refine wl_al hK rfl rfl ?_
  refine wl_il hK rfl rfl ?_
  refine wl_ic hK rfl ?_
  refine wl_add hK rfl (by omega) (by omega) ?_
  refine wl_sat hK rfl (by omega) (by rw [hV]; omega) ?_
  rw [hV]
  refine wl_call [(1, 161), (0, X ((i : Int) + 1))] hK rfl rfl rfl rfl (Or.inr ⟨_, _, _, rfl, by decide, by decide, rfl⟩) hc0 (B2.mono (by decide)) ?_
  rintro _ V2 ⟨rfl, s2_, f2_⟩
  refine ⟨(by show (0 : Nat) ≠ 9; decide), (?_ : WL (D + 13) 1299 [(1, -2), (1, 0), (1, 161), (1, 198), (0, (i : Int)), w5, w6, w7] [(0, v), (0, v)] V2 cc ss)⟩
  refine wl_same hK rfl ?_
  exact next V2 _ _ _ _ _ ((f2_ (-2) (by decide)).trans hM) s2_ (Or.inl ⟨rfl, rfl⟩)
set_option maxRecDepth 100000 in
theorem lc_47 {D : Nat} {X : Int → Int} {M : Mem} {i cc ss : Nat} {w5 w6 w7 : AV} (hX : ∀ j : Int, -2147483648 ≤ X j ∧ X j ≤ 2147483647) (hi : (i : Int) + 5 ≤ X (-1)) (hM : M (-2) = X) (hs : STT M) (hcs : cc + 1 ≤ (cOf 307).1 ∧ ss + 8 ≤ (cOf 307).2) (next : ∀ (M' : Mem) (v5 v6 v7 : AV) (c2 s2 : Nat), M' (-2) = X → STT M' → (c2 = cc ∧ s2 = ss) ∨ (c2 = cc + 1 ∧ s2 = ss + 8) → WL (D + 13) 1475 [(1, -2), (1, 0), (1, 161), (1, 198), (0, (i : Int)), v5, v6, v7] [] M' c2 s2) : WL (D + 13) 1302 [(1, -2), (1, 0), (1, 161), (1, 198), (0, (i : Int)), w5, w6, w7] [] M cc ss := by
  have hK : cd 307 = k307 := rfl
  obtain ⟨k, pl, n, tx, rc, rw_, fc, fa, h1, h2⟩ := hs
  obtain ⟨hk_, hb_, _⟩ := STT.facts h2
  have x1_ := hX ((i : Int) + 1)
  have x2_ := hX ((i : Int) + 2)
  have i31_ := hX (-1)
  have hc0 : cc ≤ (cOf 307).1 ∧ ss ≤ (cOf 307).2 := ⟨by omega, by omega⟩
  refine wl_al hK rfl rfl ?_
  refine wl_al hK rfl rfl ?_
  refine wl_il hK rfl rfl ?_
  refine wl_ic hK rfl ?_
  refine wl_add hK rfl (by omega) (by omega) ?_
  refine wl_sat hK rfl (by omega) (by rw [hM]; omega) ?_
  rw [hM]
  refine wl_al hK rfl rfl ?_
  refine wl_il hK rfl rfl ?_
  refine wl_ic hK rfl ?_
  refine wl_add hK rfl (by omega) (by omega) ?_
  refine wl_sat hK rfl (by omega) (by rw [hM]; omega) ?_
  rw [hM]
  obtain ⟨v, B1⟩ := (b_like hk_ hb_ (X ((i : Int) + 1)) (X ((i : Int) + 2)) x1_.1 x1_.2 x2_.1 x2_.2).two (d := D) h1 h2
  refine wl_call [(1, 0), (0, X ((i : Int) + 1)), (0, X ((i : Int) + 2))] hK rfl rfl rfl rfl (Or.inr ⟨_, _, _, rfl, by decide, by decide, rfl⟩) hc0 (B1.mono (by decide)) ?_
  rintro _ V ⟨rfl, f1_, B2⟩
  refine ⟨(by show (0 : Nat) ≠ 9; decide), (?_ : WL (D + 13) 1314 [(1, -2), (1, 0), (1, 161), (1, 198), (0, (i : Int)), w5, w6, w7] [(0, v)] V cc ss)⟩
  have hV : V (-2) = X := (f1_ (-2) (by decide)).trans hM
  refine wl_al hK rfl rfl ?_
  refine wl_al hK rfl rfl ?_
  refine wl_il hK rfl rfl ?_
  refine wl_ic hK rfl ?_
  refine wl_add hK rfl (by omega) (by omega) ?_
  refine wl_sat hK rfl (by omega) (by rw [hV]; omega) ?_
  rw [hV]
  refine wl_al hK rfl rfl ?_
  refine wl_il hK rfl rfl ?_
  refine wl_ic hK rfl ?_
  refine wl_add hK rfl (by omega) (by omega) ?_
  refine wl_sat hK rfl (by omega) (by rw [hV]; omega) ?_
  rw [hV]
  refine wl_call [(1, 161), (0, X ((i : Int) + 1)), (0, X ((i : Int) + 2))] hK rfl rfl rfl rfl (Or.inr ⟨_, _, _, rfl, by decide, by decide, rfl⟩) hc0 (B2.mono (by decide)) ?_
  rintro _ V2 ⟨rfl, s2_, f2_⟩
  refine ⟨(by show (0 : Nat) ≠ 9; decide), (?_ : WL (D + 13) 1326 [(1, -2), (1, 0), (1, 161), (1, 198), (0, (i : Int)), w5, w6, w7] [(0, v), (0, v)] V2 cc ss)⟩
  refine wl_same hK rfl ?_
  exact next V2 _ _ _ _ _ ((f2_ (-2) (by decide)).trans hM) s2_ (Or.inl ⟨rfl, rfl⟩)
set_option maxRecDepth 100000 in
theorem lc_48 {D : Nat} {X : Int → Int} {M : Mem} {i cc ss : Nat} {w5 w6 w7 : AV} (hX : ∀ j : Int, -2147483648 ≤ X j ∧ X j ≤ 2147483647) (hi : (i : Int) + 5 ≤ X (-1)) (hM : M (-2) = X) (hs : STT M) (hcs : cc + 1 ≤ (cOf 307).1 ∧ ss + 8 ≤ (cOf 307).2) (next : ∀ (M' : Mem) (v5 v6 v7 : AV) (c2 s2 : Nat), M' (-2) = X → STT M' → (c2 = cc ∧ s2 = ss) ∨ (c2 = cc + 1 ∧ s2 = ss + 8) → WL (D + 13) 1475 [(1, -2), (1, 0), (1, 161), (1, 198), (0, (i : Int)), v5, v6, v7] [] M' c2 s2) : WL (D + 13) 1329 [(1, -2), (1, 0), (1, 161), (1, 198), (0, (i : Int)), w5, w6, w7] [] M cc ss := by
  have hK : cd 307 = k307 := rfl
  obtain ⟨k, pl, n, tx, rc, rw_, fc, fa, h1, h2⟩ := hs
  obtain ⟨hk_, hb_, _⟩ := STT.facts h2
  have x1_ := hX ((i : Int) + 1)
  have i31_ := hX (-1)
  have hc0 : cc ≤ (cOf 307).1 ∧ ss ≤ (cOf 307).2 := ⟨by omega, by omega⟩
  refine wl_al hK rfl rfl ?_
  refine wl_al hK rfl rfl ?_
  refine wl_il hK rfl rfl ?_
  refine wl_ic hK rfl ?_
  refine wl_add hK rfl (by omega) (by omega) ?_
  refine wl_sat hK rfl (by omega) (by rw [hM]; omega) ?_
  rw [hM]
  obtain ⟨v, B1⟩ := (b_commuting hk_ hb_ (X ((i : Int) + 1)) x1_.1 x1_.2).two (d := D) h1 h2
  refine wl_call [(1, 0), (0, X ((i : Int) + 1))] hK rfl rfl rfl rfl (Or.inr ⟨_, _, _, rfl, by decide, by decide, rfl⟩) hc0 (B1.mono (by decide)) ?_
  rintro _ V ⟨rfl, f1_, B2⟩
  refine ⟨(by show (0 : Nat) ≠ 9; decide), (?_ : WL (D + 13) 1336 [(1, -2), (1, 0), (1, 161), (1, 198), (0, (i : Int)), w5, w6, w7] [(0, v)] V cc ss)⟩
  have hV : V (-2) = X := (f1_ (-2) (by decide)).trans hM
  refine wl_al hK rfl rfl ?_
  refine wl_al hK rfl rfl ?_
  refine wl_il hK rfl rfl ?_
  refine wl_ic hK rfl ?_
  refine wl_add hK rfl (by omega) (by omega) ?_
  refine wl_sat hK rfl (by omega) (by rw [hV]; omega) ?_
  rw [hV]
  refine wl_call [(1, 161), (0, X ((i : Int) + 1))] hK rfl rfl rfl rfl (Or.inr ⟨_, _, _, rfl, by decide, by decide, rfl⟩) hc0 (B2.mono (by decide)) ?_
  rintro _ V2 ⟨rfl, s2_, f2_⟩
  refine ⟨(by show (0 : Nat) ≠ 9; decide), (?_ : WL (D + 13) 1343 [(1, -2), (1, 0), (1, 161), (1, 198), (0, (i : Int)), w5, w6, w7] [(0, v), (0, v)] V2 cc ss)⟩
  refine wl_same hK rfl ?_
  exact next V2 _ _ _ _ _ ((f2_ (-2) (by decide)).trans hM) s2_ (Or.inl ⟨rfl, rfl⟩)
set_option maxRecDepth 100000 in
theorem lc_49 {D : Nat} {X : Int → Int} {M : Mem} {i cc ss : Nat} {w5 w6 w7 : AV} (hX : ∀ j : Int, -2147483648 ≤ X j ∧ X j ≤ 2147483647) (hi : (i : Int) + 5 ≤ X (-1)) (hM : M (-2) = X) (hs : STT M) (hcs : cc + 1 ≤ (cOf 307).1 ∧ ss + 8 ≤ (cOf 307).2) (next : ∀ (M' : Mem) (v5 v6 v7 : AV) (c2 s2 : Nat), M' (-2) = X → STT M' → (c2 = cc ∧ s2 = ss) ∨ (c2 = cc + 1 ∧ s2 = ss + 8) → WL (D + 13) 1475 [(1, -2), (1, 0), (1, 161), (1, 198), (0, (i : Int)), v5, v6, v7] [] M' c2 s2) : WL (D + 13) 1346 [(1, -2), (1, 0), (1, 161), (1, 198), (0, (i : Int)), w5, w6, w7] [] M cc ss := by
  have hK : cd 307 = k307 := rfl
  obtain ⟨k, pl, n, tx, rc, rw_, fc, fa, h1, h2⟩ := hs
  obtain ⟨hk_, hb_, _⟩ := STT.facts h2
  have x1_ := hX ((i : Int) + 1)
  have i31_ := hX (-1)
  have hc0 : cc ≤ (cOf 307).1 ∧ ss ≤ (cOf 307).2 := ⟨by omega, by omega⟩
  refine wl_al hK rfl rfl ?_
  refine wl_al hK rfl rfl ?_
  refine wl_il hK rfl rfl ?_
  refine wl_ic hK rfl ?_
  refine wl_add hK rfl (by omega) (by omega) ?_
  refine wl_sat hK rfl (by omega) (by rw [hM]; omega) ?_
  rw [hM]
  obtain ⟨v, B1⟩ := (b_central hk_ hb_ (X ((i : Int) + 1)) x1_.1 x1_.2).two (d := D) h1 h2
  refine wl_call [(1, 0), (0, X ((i : Int) + 1))] hK rfl rfl rfl rfl (Or.inr ⟨_, _, _, rfl, by decide, by decide, rfl⟩) hc0 (B1.mono (by decide)) ?_
  rintro _ V ⟨rfl, f1_, B2⟩
  refine ⟨(by show (0 : Nat) ≠ 9; decide), (?_ : WL (D + 13) 1353 [(1, -2), (1, 0), (1, 161), (1, 198), (0, (i : Int)), w5, w6, w7] [(0, v)] V cc ss)⟩
  have hV : V (-2) = X := (f1_ (-2) (by decide)).trans hM
  refine wl_al hK rfl rfl ?_
  refine wl_al hK rfl rfl ?_
  refine wl_il hK rfl rfl ?_
  refine wl_ic hK rfl ?_
  refine wl_add hK rfl (by omega) (by omega) ?_
  refine wl_sat hK rfl (by omega) (by rw [hV]; omega) ?_
  rw [hV]
  refine wl_call [(1, 161), (0, X ((i : Int) + 1))] hK rfl rfl rfl rfl (Or.inr ⟨_, _, _, rfl, by decide, by decide, rfl⟩) hc0 (B2.mono (by decide)) ?_
  rintro _ V2 ⟨rfl, s2_, f2_⟩
  refine ⟨(by show (0 : Nat) ≠ 9; decide), (?_ : WL (D + 13) 1360 [(1, -2), (1, 0), (1, 161), (1, 198), (0, (i : Int)), w5, w6, w7] [(0, v), (0, v)] V2 cc ss)⟩
  refine wl_same hK rfl ?_
  exact next V2 _ _ _ _ _ ((f2_ (-2) (by decide)).trans hM) s2_ (Or.inl ⟨rfl, rfl⟩)
set_option maxRecDepth 100000 in
theorem lc_50 {D : Nat} {X : Int → Int} {M : Mem} {i cc ss : Nat} {w5 w6 w7 : AV} (hX : ∀ j : Int, -2147483648 ≤ X j ∧ X j ≤ 2147483647) (hi : (i : Int) + 5 ≤ X (-1)) (hM : M (-2) = X) (hs : STT M) (hcs : cc + 1 ≤ (cOf 307).1 ∧ ss + 8 ≤ (cOf 307).2) (next : ∀ (M' : Mem) (v5 v6 v7 : AV) (c2 s2 : Nat), M' (-2) = X → STT M' → (c2 = cc ∧ s2 = ss) ∨ (c2 = cc + 1 ∧ s2 = ss + 8) → WL (D + 13) 1475 [(1, -2), (1, 0), (1, 161), (1, 198), (0, (i : Int)), v5, v6, v7] [] M' c2 s2) : WL (D + 13) 1363 [(1, -2), (1, 0), (1, 161), (1, 198), (0, (i : Int)), w5, w6, w7] [] M cc ss := by
  have hK : cd 307 = k307 := rfl
  obtain ⟨k, pl, n, tx, rc, rw_, fc, fa, h1, h2⟩ := hs
  obtain ⟨hk_, hb_, _⟩ := STT.facts h2
  have x1_ := hX ((i : Int) + 1)
  have i31_ := hX (-1)
  have hc0 : cc ≤ (cOf 307).1 ∧ ss ≤ (cOf 307).2 := ⟨by omega, by omega⟩
  refine wl_al hK rfl rfl ?_
  refine wl_al hK rfl rfl ?_
  refine wl_il hK rfl rfl ?_
  refine wl_ic hK rfl ?_
  refine wl_add hK rfl (by omega) (by omega) ?_
  refine wl_sat hK rfl (by omega) (by rw [hM]; omega) ?_
  rw [hM]
  obtain ⟨v, B1⟩ := (b_bound hk_ hb_ (X ((i : Int) + 1)) x1_.1 x1_.2).two (d := D) h1 h2
  refine wl_call [(1, 0), (0, X ((i : Int) + 1))] hK rfl rfl rfl rfl (Or.inr ⟨_, _, _, rfl, by decide, by decide, rfl⟩) hc0 (B1.mono (by decide)) ?_
  rintro _ V ⟨rfl, f1_, B2⟩
  refine ⟨(by show (0 : Nat) ≠ 9; decide), (?_ : WL (D + 13) 1370 [(1, -2), (1, 0), (1, 161), (1, 198), (0, (i : Int)), w5, w6, w7] [(0, v)] V cc ss)⟩
  have hV : V (-2) = X := (f1_ (-2) (by decide)).trans hM
  refine wl_al hK rfl rfl ?_
  refine wl_al hK rfl rfl ?_
  refine wl_il hK rfl rfl ?_
  refine wl_ic hK rfl ?_
  refine wl_add hK rfl (by omega) (by omega) ?_
  refine wl_sat hK rfl (by omega) (by rw [hV]; omega) ?_
  rw [hV]
  refine wl_call [(1, 161), (0, X ((i : Int) + 1))] hK rfl rfl rfl rfl (Or.inr ⟨_, _, _, rfl, by decide, by decide, rfl⟩) hc0 (B2.mono (by decide)) ?_
  rintro _ V2 ⟨rfl, s2_, f2_⟩
  refine ⟨(by show (0 : Nat) ≠ 9; decide), (?_ : WL (D + 13) 1377 [(1, -2), (1, 0), (1, 161), (1, 198), (0, (i : Int)), w5, w6, w7] [(0, v), (0, v)] V2 cc ss)⟩
  refine wl_same hK rfl ?_
  exact next V2 _ _ _ _ _ ((f2_ (-2) (by decide)).trans hM) s2_ (Or.inl ⟨rfl, rfl⟩)
set_option maxRecDepth 100000 in
theorem lc_51 {D : Nat} {X : Int → Int} {M : Mem} {i cc ss : Nat} {w5 w6 w7 : AV} (hX : ∀ j : Int, -2147483648 ≤ X j ∧ X j ≤ 2147483647) (hi : (i : Int) + 5 ≤ X (-1)) (hM : M (-2) = X) (hs : STT M) (hcs : cc + 1 ≤ (cOf 307).1 ∧ ss + 8 ≤ (cOf 307).2) (next : ∀ (M' : Mem) (v5 v6 v7 : AV) (c2 s2 : Nat), M' (-2) = X → STT M' → (c2 = cc ∧ s2 = ss) ∨ (c2 = cc + 1 ∧ s2 = ss + 8) → WL (D + 13) 1475 [(1, -2), (1, 0), (1, 161), (1, 198), (0, (i : Int)), v5, v6, v7] [] M' c2 s2) : WL (D + 13) 1380 [(1, -2), (1, 0), (1, 161), (1, 198), (0, (i : Int)), w5, w6, w7] [] M cc ss := by
  have hK : cd 307 = k307 := rfl
  obtain ⟨k, pl, n, tx, rc, rw_, fc, fa, h1, h2⟩ := hs
  obtain ⟨hk_, hb_, _⟩ := STT.facts h2
  have x1_ := hX ((i : Int) + 1)
  have x2_ := hX ((i : Int) + 2)
  have i31_ := hX (-1)
  have hc0 : cc ≤ (cOf 307).1 ∧ ss ≤ (cOf 307).2 := ⟨by omega, by omega⟩
  refine wl_al hK rfl rfl ?_
  refine wl_al hK rfl rfl ?_
  refine wl_il hK rfl rfl ?_
  refine wl_ic hK rfl ?_
  refine wl_add hK rfl (by omega) (by omega) ?_
  refine wl_sat hK rfl (by omega) (by rw [hM]; omega) ?_
  rw [hM]
  refine wl_al hK rfl rfl ?_
  refine wl_il hK rfl rfl ?_
  refine wl_ic hK rfl ?_
  refine wl_add hK rfl (by omega) (by omega) ?_
  refine wl_sat hK rfl (by omega) (by rw [hM]; omega) ?_
  rw [hM]
  obtain ⟨v, B1⟩ := (b_part hk_ hb_ (X ((i : Int) + 1)) (X ((i : Int) + 2)) x1_.1 x1_.2 x2_.1 x2_.2).two (d := D) h1 h2
  refine wl_call [(1, 0), (0, X ((i : Int) + 1)), (0, X ((i : Int) + 2))] hK rfl rfl rfl rfl (Or.inr ⟨_, _, _, rfl, by decide, by decide, rfl⟩) hc0 (B1.mono (by decide)) ?_
  rintro _ V ⟨rfl, f1_, B2⟩
  refine ⟨(by show (0 : Nat) ≠ 9; decide), (?_ : WL (D + 13) 1392 [(1, -2), (1, 0), (1, 161), (1, 198), (0, (i : Int)), w5, w6, w7] [(0, v)] V cc ss)⟩
  have hV : V (-2) = X := (f1_ (-2) (by decide)).trans hM
  refine wl_al hK rfl rfl ?_
  refine wl_al hK rfl rfl ?_
  refine wl_il hK rfl rfl ?_
  refine wl_ic hK rfl ?_
  refine wl_add hK rfl (by omega) (by omega) ?_
  refine wl_sat hK rfl (by omega) (by rw [hV]; omega) ?_
  rw [hV]
  refine wl_al hK rfl rfl ?_
  refine wl_il hK rfl rfl ?_
  refine wl_ic hK rfl ?_
  refine wl_add hK rfl (by omega) (by omega) ?_
  refine wl_sat hK rfl (by omega) (by rw [hV]; omega) ?_
  rw [hV]
  refine wl_call [(1, 161), (0, X ((i : Int) + 1)), (0, X ((i : Int) + 2))] hK rfl rfl rfl rfl (Or.inr ⟨_, _, _, rfl, by decide, by decide, rfl⟩) hc0 (B2.mono (by decide)) ?_
  rintro _ V2 ⟨rfl, s2_, f2_⟩
  refine ⟨(by show (0 : Nat) ≠ 9; decide), (?_ : WL (D + 13) 1404 [(1, -2), (1, 0), (1, 161), (1, 198), (0, (i : Int)), w5, w6, w7] [(0, v), (0, v)] V2 cc ss)⟩
  refine wl_same hK rfl ?_
  exact next V2 _ _ _ _ _ ((f2_ (-2) (by decide)).trans hM) s2_ (Or.inl ⟨rfl, rfl⟩)
set_option maxRecDepth 100000 in
theorem lc_52 {D : Nat} {X : Int → Int} {M : Mem} {i cc ss : Nat} {w5 w6 w7 : AV} (hX : ∀ j : Int, -2147483648 ≤ X j ∧ X j ≤ 2147483647) (hi : (i : Int) + 5 ≤ X (-1)) (hM : M (-2) = X) (hs : STT M) (hcs : cc + 1 ≤ (cOf 307).1 ∧ ss + 8 ≤ (cOf 307).2) (next : ∀ (M' : Mem) (v5 v6 v7 : AV) (c2 s2 : Nat), M' (-2) = X → STT M' → (c2 = cc ∧ s2 = ss) ∨ (c2 = cc + 1 ∧ s2 = ss + 8) → WL (D + 13) 1475 [(1, -2), (1, 0), (1, 161), (1, 198), (0, (i : Int)), v5, v6, v7] [] M' c2 s2) : WL (D + 13) 1407 [(1, -2), (1, 0), (1, 161), (1, 198), (0, (i : Int)), w5, w6, w7] [] M cc ss := by
  have hK : cd 307 = k307 := rfl
  obtain ⟨k, pl, n, tx, rc, rw_, fc, fa, h1, h2⟩ := hs
  obtain ⟨hk_, hb_, _⟩ := STT.facts h2
  have x1_ := hX ((i : Int) + 1)
  have i31_ := hX (-1)
  have hc0 : cc ≤ (cOf 307).1 ∧ ss ≤ (cOf 307).2 := ⟨by omega, by omega⟩
  refine wl_al hK rfl rfl ?_
  refine wl_al hK rfl rfl ?_
  refine wl_il hK rfl rfl ?_
  refine wl_ic hK rfl ?_
  refine wl_add hK rfl (by omega) (by omega) ?_
  refine wl_sat hK rfl (by omega) (by rw [hM]; omega) ?_
  rw [hM]
  obtain ⟨v, B1⟩ := (b_primes hk_ hb_ (X ((i : Int) + 1)) x1_.1 x1_.2).two (d := D) h1 h2
  refine wl_call [(1, 0), (0, X ((i : Int) + 1))] hK rfl rfl rfl rfl (Or.inr ⟨_, _, _, rfl, by decide, by decide, rfl⟩) hc0 (B1.mono (by decide)) ?_
  rintro _ V ⟨rfl, f1_, B2⟩
  refine ⟨(by show (0 : Nat) ≠ 9; decide), (?_ : WL (D + 13) 1414 [(1, -2), (1, 0), (1, 161), (1, 198), (0, (i : Int)), w5, w6, w7] [(0, v)] V cc ss)⟩
  have hV : V (-2) = X := (f1_ (-2) (by decide)).trans hM
  refine wl_al hK rfl rfl ?_
  refine wl_al hK rfl rfl ?_
  refine wl_il hK rfl rfl ?_
  refine wl_ic hK rfl ?_
  refine wl_add hK rfl (by omega) (by omega) ?_
  refine wl_sat hK rfl (by omega) (by rw [hV]; omega) ?_
  rw [hV]
  refine wl_call [(1, 161), (0, X ((i : Int) + 1))] hK rfl rfl rfl rfl (Or.inr ⟨_, _, _, rfl, by decide, by decide, rfl⟩) hc0 (B2.mono (by decide)) ?_
  rintro _ V2 ⟨rfl, s2_, f2_⟩
  refine ⟨(by show (0 : Nat) ≠ 9; decide), (?_ : WL (D + 13) 1421 [(1, -2), (1, 0), (1, 161), (1, 198), (0, (i : Int)), w5, w6, w7] [(0, v), (0, v)] V2 cc ss)⟩
  refine wl_same hK rfl ?_
  exact next V2 _ _ _ _ _ ((f2_ (-2) (by decide)).trans hM) s2_ (Or.inl ⟨rfl, rfl⟩)
set_option maxRecDepth 100000 in
theorem lc_53 {D : Nat} {X : Int → Int} {M : Mem} {i cc ss : Nat} {w5 w6 w7 : AV} (hX : ∀ j : Int, -2147483648 ≤ X j ∧ X j ≤ 2147483647) (hi : (i : Int) + 5 ≤ X (-1)) (hM : M (-2) = X) (hs : STT M) (hcs : cc + 1 ≤ (cOf 307).1 ∧ ss + 8 ≤ (cOf 307).2) (next : ∀ (M' : Mem) (v5 v6 v7 : AV) (c2 s2 : Nat), M' (-2) = X → STT M' → (c2 = cc ∧ s2 = ss) ∨ (c2 = cc + 1 ∧ s2 = ss + 8) → WL (D + 13) 1475 [(1, -2), (1, 0), (1, 161), (1, 198), (0, (i : Int)), v5, v6, v7] [] M' c2 s2) : WL (D + 13) 1424 [(1, -2), (1, 0), (1, 161), (1, 198), (0, (i : Int)), w5, w6, w7] [] M cc ss := by
  have hK : cd 307 = k307 := rfl
  obtain ⟨k, pl, n, tx, rc, rw_, fc, fa, h1, h2⟩ := hs
  obtain ⟨hk_, hb_, _⟩ := STT.facts h2
  have x1_ := hX ((i : Int) + 1)
  have i31_ := hX (-1)
  have hc0 : cc ≤ (cOf 307).1 ∧ ss ≤ (cOf 307).2 := ⟨by omega, by omega⟩
  refine wl_al hK rfl rfl ?_
  refine wl_al hK rfl rfl ?_
  refine wl_il hK rfl rfl ?_
  refine wl_ic hK rfl ?_
  refine wl_add hK rfl (by omega) (by omega) ?_
  refine wl_sat hK rfl (by omega) (by rw [hM]; omega) ?_
  rw [hM]
  obtain ⟨v, B1⟩ := (b_count hk_ hb_ (X ((i : Int) + 1)) x1_.1 x1_.2).two (d := D) h1 h2
  refine wl_call [(1, 0), (0, X ((i : Int) + 1))] hK rfl rfl rfl rfl (Or.inr ⟨_, _, _, rfl, by decide, by decide, rfl⟩) hc0 (B1.mono (by decide)) ?_
  rintro _ V ⟨rfl, f1_, B2⟩
  refine ⟨(by show (0 : Nat) ≠ 9; decide), (?_ : WL (D + 13) 1431 [(1, -2), (1, 0), (1, 161), (1, 198), (0, (i : Int)), w5, w6, w7] [(0, v)] V cc ss)⟩
  have hV : V (-2) = X := (f1_ (-2) (by decide)).trans hM
  refine wl_al hK rfl rfl ?_
  refine wl_al hK rfl rfl ?_
  refine wl_il hK rfl rfl ?_
  refine wl_ic hK rfl ?_
  refine wl_add hK rfl (by omega) (by omega) ?_
  refine wl_sat hK rfl (by omega) (by rw [hV]; omega) ?_
  rw [hV]
  refine wl_call [(1, 161), (0, X ((i : Int) + 1))] hK rfl rfl rfl rfl (Or.inr ⟨_, _, _, rfl, by decide, by decide, rfl⟩) hc0 (B2.mono (by decide)) ?_
  rintro _ V2 ⟨rfl, s2_, f2_⟩
  refine ⟨(by show (0 : Nat) ≠ 9; decide), (?_ : WL (D + 13) 1438 [(1, -2), (1, 0), (1, 161), (1, 198), (0, (i : Int)), w5, w6, w7] [(0, v), (0, v)] V2 cc ss)⟩
  refine wl_same hK rfl ?_
  exact next V2 _ _ _ _ _ ((f2_ (-2) (by decide)).trans hM) s2_ (Or.inl ⟨rfl, rfl⟩)
