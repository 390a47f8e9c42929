/-! the class's calls: division and the chain -/
theorem ld_nz {k : Nat} {f : Pl k} {n : Nat} (h : Bd f n) (hn : n ≤ 64) (hd : 0 ≤ dg f) : (ld f).val ≠ 0 := fun q => by
  have h1 := isdg_dg (h.mono hn) hd
  have h2 := ld_at (f := f) (b := (dg f).toNat) (by omega)
  exact h1.tp (h2 ▸ z0_iff.mpr q)
set_option maxRecDepth 100000 in
theorem o_dvd1 {d : Nat} {M : Mem} {k : Nat} {pl : Nat → Pl k} {n : Int} {tx : Int → Int} {rc : Nat} {rw : Int → Int} {fc : Nat} {fa : Nat → Pl k} (H : CLS M k pl n tx rc rw fc fa) (i : Nat) (hi : i < 6) (j : Nat) (hj : j < 6) (l : Nat) (hl : l < 6) (s : Int) (hs_ : s = 0 ∨ s = 1) (hj0 : 0 ≤ dg (pl j)) : Ct 198 (d + 7) 146 [(1, 0), (0, (i : Int)), (0, (j : Int)), (0, s), (0, (l : Int)), (0, 1)] M (fun r_ M' => r_ = (0, (dg (dq s (pl i) (pl j)))) ∧ CLS M' k (fup pl l (dq s (pl i) (pl j))) n tx rc rw fc fa ∧ (∀ a : Int, (a < 0 ∨ 160 < a) → M' a = M a)) := by
  have hK : cd 146 = k146 := rfl
  obtain ⟨P, u_, l_, z_, C, E, hpl, T, hR, hF⟩ := H
  have q1_ := qq_I k
  have p1_ := pp_I k
  have m1_ := mm_I k
  have bi_ := (hpl i hi).2
  have di_ := dg_lt9 bi_
  have bj_ := (hpl j hj).2
  have dj_ := dg_lt9 bj_
  have bl_ := (hpl l hl).2
  have dl_ := dg_lt9 bl_
  show Wp 198 _ 146 0 [(1, 0), (0, (i : Int)), (0, (j : Int)), (0, s), (0, (l : Int)), (0, 1), (3, 0), (3, 0), (3, 0)] [] M _
  refine w_al hK rfl rfl ?_
  refine w_il hK rfl rfl ?_
  refine w_call [(1, 0), (0, (i : Int))] hK rfl rfl rfl rfl (Or.inr ⟨_, _, _, rfl, by decide, (by decide), rfl⟩) (c_pl i hi) ?_
  rintro _ Mq ⟨rfl, e_⟩
  subst Mq
  refine ⟨(by show (1 : Nat) ≠ 9; decide), (?_ : Wp 198 _ 146 3 [(1, 0), (0, (i : Int)), (0, (j : Int)), (0, s), (0, (l : Int)), (0, 1), (3, 0), (3, 0), (3, 0)] [(1, (149 + 2 * (i : Int)))] M _)⟩
  refine w_as [(1, 0), (0, (i : Int)), (0, (j : Int)), (0, s), (0, (l : Int)), (0, 1), (1, (149 + 2 * (i : Int))), (3, 0), (3, 0)] hK rfl rfl rfl ?_
  refine w_al hK rfl rfl ?_
  refine w_il hK rfl rfl ?_
  refine w_call [(1, 0), (0, (j : Int))] hK rfl rfl rfl rfl (Or.inr ⟨_, _, _, rfl, by decide, (by decide), rfl⟩) (c_pl j hj) ?_
  rintro _ Mq ⟨rfl, e_⟩
  subst Mq
  refine ⟨(by show (1 : Nat) ≠ 9; decide), (?_ : Wp 198 _ 146 7 [(1, 0), (0, (i : Int)), (0, (j : Int)), (0, s), (0, (l : Int)), (0, 1), (1, (149 + 2 * (i : Int))), (3, 0), (3, 0)] [(1, (149 + 2 * (j : Int)))] M _)⟩
  refine w_as [(1, 0), (0, (i : Int)), (0, (j : Int)), (0, s), (0, (l : Int)), (0, 1), (1, (149 + 2 * (i : Int))), (1, (149 + 2 * (j : Int))), (3, 0)] hK rfl rfl rfl ?_
  refine w_al hK rfl rfl ?_
  refine w_il hK rfl rfl ?_
  refine w_call [(1, 0), (0, (l : Int))] hK rfl rfl rfl rfl (Or.inr ⟨_, _, _, rfl, by decide, (by decide), rfl⟩) (c_pl l hl) ?_
  rintro _ Mq ⟨rfl, e_⟩
  subst Mq
  refine ⟨(by show (1 : Nat) ≠ 9; decide), (?_ : Wp 198 _ 146 11 [(1, 0), (0, (i : Int)), (0, (j : Int)), (0, s), (0, (l : Int)), (0, 1), (1, (149 + 2 * (i : Int))), (1, (149 + 2 * (j : Int))), (3, 0)] [(1, (149 + 2 * (l : Int)))] M _)⟩
  refine w_as [(1, 0), (0, (i : Int)), (0, (j : Int)), (0, s), (0, (l : Int)), (0, 1), (1, (149 + 2 * (i : Int))), (1, (149 + 2 * (j : Int))), (1, (149 + 2 * (l : Int)))] hK rfl rfl rfl ?_
  refine w_al hK rfl rfl ?_
  refine w_null hK rfl (fun h13 => ?_) (fun h13 => ?_)
  · exfalso; omega
  · refine w_al hK rfl rfl ?_
    refine w_null hK rfl (fun h15 => ?_) (fun h15 => ?_)
    · exfalso; omega
    · refine w_al hK rfl rfl ?_
      refine w_null hK rfl (fun h17 => ?_) (fun h17 => ?_)
      · exfalso; omega
      · refine w_il hK rfl rfl ?_
        refine w_call [(0, s)] hK rfl rfl rfl rfl (Or.inl rfl) (c_side s (by omega) (by omega)) ?_
        rintro _ Mq ⟨rfl, e_⟩
        subst Mq
        refine ⟨by show (0 : Nat) ≠ 9; decide, (?_ : Wp 198 _ 146 20 [(1, 0), (0, (i : Int)), (0, (j : Int)), (0, s), (0, (l : Int)), (0, 1), (1, (149 + 2 * (i : Int))), (1, (149 + 2 * (j : Int))), (1, (149 + 2 * (l : Int)))] [(0, (if s = 0 ∨ s = 1 then 1 else 0))] M _)⟩
        have tI_ := ite01 (s = 0 ∨ s = 1)
        refine w_ne hK rfl (by omega) (by omega) (fun h20 => ?_) (fun h20 => ?_)
        · refine w_al hK rfl rfl ?_
          refine w_pt hK rfl (isPP hj) ?_
          rw [show M (149 + 2 * (j : Int)) 1 = dg (pl j) from C.t ⟨(isPP hj), (hpl j hj).1⟩]
          have tI_ := CS.dI C ⟨(isPP hj), (hpl j hj).1⟩
          refine w_ge hK rfl (by omega) (by omega) (fun h25 => ?_) (fun h25 => ?_)
          · refine w_al hK rfl rfl ?_
            refine w_getr (n := 1) (v := 7) hK rfl rfl (by decide) (by decide) rfl rfl rfl rfl ?_
            refine w_al hK rfl rfl ?_
            refine w_al hK rfl rfl ?_
            refine w_il hK rfl rfl ?_
            refine w_al hK rfl rfl ?_
            refine w_getr (n := 12) (v := 145) hK rfl rfl (by decide) (by decide) rfl rfl rfl rfl ?_
            refine w_al hK rfl rfl ?_
            refine w_getr (n := 13) (v := 147) hK rfl rfl (by decide) (by decide) rfl rfl rfl rfl ?_
            refine w_call [(1, 7), (1, (149 + 2 * (i : Int))), (1, (149 + 2 * (j : Int))), (0, s), (1, 145), (1, 147)] hK rfl rfl rfl rfl (Or.inr ⟨_, _, _, rfl, by decide, (by decide), rfl⟩) (c_div C ⟨(isPP hi), (hpl i hi).1⟩ ⟨(isPP hj), (hpl j hj).1⟩ s (isP_of (p := 145) rfl) (isP_of (p := 147) rfl) (by omega) (by omega) (by omega) (by omega) (by omega) (by omega)) ?_
            rintro _ V128 ⟨rfl, C128, S128⟩
            refine ⟨by decide, (?_ : Wp 198 _ 146 38 [(1, 0), (0, (i : Int)), (0, (j : Int)), (0, s), (0, (l : Int)), (0, 1), (1, (149 + 2 * (i : Int))), (1, (149 + 2 * (j : Int))), (1, (149 + 2 * (l : Int)))] [] V128 _)⟩
            refine w_al hK rfl rfl ?_
            refine w_il hK rfl rfl ?_
            refine w_eq hK rfl (by omega) (by omega) (fun h40 => ?_) (fun h40 => ?_)
            · exfalso; omega
            · refine w_al hK rfl rfl ?_
              refine w_getr (n := 12) (v := 145) hK rfl rfl (by decide) (by decide) rfl rfl rfl rfl ?_
              refine w_goto hK rfl ?_
              refine w_call [(1, (149 + 2 * (l : Int))), (1, 145)] hK rfl rfl rfl rfl (Or.inr ⟨_, _, _, rfl, (isPP hl).nn, (isPP hl).lb, (isPP hl).o⟩) (c_copy C128 (isPP hl) ⟨(isP_of (p := 145) rfl), ((pu_ne (P := pu P 145 (dq s (pl i) (pl j))) (f := dr s (pl i) (pl j)) (show 145 ≠ 147 by omega)).trans pu_eq)⟩) ?_
              rintro _ V129 ⟨rfl, C129, S129⟩
              refine ⟨by decide, (?_ : Wp 198 _ 146 47 [(1, 0), (0, (i : Int)), (0, (j : Int)), (0, s), (0, (l : Int)), (0, 1), (1, (149 + 2 * (i : Int))), (1, (149 + 2 * (j : Int))), (1, (149 + 2 * (l : Int)))] [] V129 _)⟩
              refine w_al hK rfl rfl ?_
              refine w_pt hK rfl (isPP hl) ?_
              rw [show V129 (149 + 2 * (l : Int)) 1 = dg (dq s (pl i) (pl j)) from C129.t ⟨(isPP hl), pu_eq⟩]
              have tI_ := CS.dI C129 ⟨(isPP hl), pu_eq⟩
              refine w_iret hK rfl rfl ?_
              exact ⟨rfl, ⟨_, u_, l_, z_, C129, (ES.keep E ((S129 18 (notP rfl)).trans (S128 18 (notP rfl)))), (PLs.put hpl pu_eq (Bd_dq9 s bi_ bj_ hj0).1 (fun q_ hq_ hn_ => ((pu_ne (P := pu (pu P 145 (dq s (pl i) (pl j))) 147 (dr s (pl i) (pl j))) (f := dq s (pl i) (pl j)) (show (149 + 2 * (q_ : Int)) ≠ (149 + 2 * (l : Int)) by omega)).trans ((pu_ne (P := pu P 145 (dq s (pl i) (pl j))) (f := dr s (pl i) (pl j)) (show (149 + 2 * (q_ : Int)) ≠ 147 by omega)).trans (pu_ne (P := P) (f := dq s (pl i) (pl j)) (show (149 + 2 * (q_ : Int)) ≠ 145 by omega)))))), (TXs.keep T ((S129 140 (notP rfl)).trans (S128 140 (notP rfl))) ((S129 141 (notP rfl)).trans (S128 141 (notP rfl)))), (RWs.keep hR ((S129 0 (notP rfl)).trans (S128 0 (notP rfl))) ((S129 144 (notP rfl)).trans (S128 144 (notP rfl)))), (FCs.keep hF ((S129 52 (notP rfl)).trans (S128 52 (notP rfl))) (fun q_ hq_ => ((pu_ne (P := pu (pu P 145 (dq s (pl i) (pl j))) 147 (dr s (pl i) (pl j))) (f := dq s (pl i) (pl j)) (show (68 + 6 * (q_ : Int)) ≠ (149 + 2 * (l : Int)) by omega)).trans ((pu_ne (P := pu P 145 (dq s (pl i) (pl j))) (f := dr s (pl i) (pl j)) (show (68 + 6 * (q_ : Int)) ≠ 147 by omega)).trans (pu_ne (P := P) (f := dq s (pl i) (pl j)) (show (68 + 6 * (q_ : Int)) ≠ 145 by omega))))))⟩, (fun a h_ => ((S129 a (npC h_)).trans (S128 a (npC h_))))⟩
          · exfalso; omega
        · exfalso; omega
set_option maxRecDepth 100000 in
theorem o_quot {d : Nat} {M : Mem} {k : Nat} {pl : Nat → Pl k} {n : Int} {tx : Int → Int} {rc : Nat} {rw : Int → Int} {fc : Nat} {fa : Nat → Pl k} (H : CLS M k pl n tx rc rw fc fa) (i : Nat) (hi : i < 6) (j : Nat) (hj : j < 6) (l : Nat) (hl : l < 6) (s : Int) (hs_ : s = 0 ∨ s = 1) (hj0 : 0 ≤ dg (pl j)) : Ct 198 (d + 8) 145 [(1, 0), (0, (i : Int)), (0, (j : Int)), (0, s), (0, (l : Int))] M (fun r_ M' => r_ = (0, (dg (dq s (pl i) (pl j)))) ∧ CLS M' k (fup pl l (dq s (pl i) (pl j))) n tx rc rw fc fa ∧ (∀ a : Int, (a < 0 ∨ 160 < a) → M' a = M a)) := by
  have hK : cd 145 = k145 := rfl
  show Wp 198 _ 145 0 [(1, 0), (0, (i : Int)), (0, (j : Int)), (0, s), (0, (l : Int))] [] M _
  refine w_al hK rfl rfl ?_
  refine w_il hK rfl rfl ?_
  refine w_il hK rfl rfl ?_
  refine w_il hK rfl rfl ?_
  refine w_il hK rfl rfl ?_
  refine w_ic hK rfl ?_
  refine w_call [(1, 0), (0, (i : Int)), (0, (j : Int)), (0, s), (0, (l : Int)), (0, 1)] hK rfl rfl rfl rfl (Or.inr ⟨_, _, _, rfl, by decide, (by decide), rfl⟩) (o_dvd1 H i hi j hj l hl s hs_ hj0) ?_
  rintro _ Mq ⟨rfl, e_⟩
  refine ⟨(by show (0 : Nat) ≠ 9; decide), (?_ : Wp 198 _ 145 7 [(1, 0), (0, (i : Int)), (0, (j : Int)), (0, s), (0, (l : Int))] [(0, dg (dq s (pl i) (pl j)))] Mq _)⟩
  refine w_iret hK rfl rfl ?_
  exact ⟨rfl, e_⟩
set_option maxRecDepth 100000 in
theorem n_dvd1 {d : Nat} {M : Mem} {k : Nat} {pl : Nat → Pl k} {n : Int} {tx : Int → Int} {rc : Nat} {rw : Int → Int} {fc : Nat} {fa : Nat → Pl k} (H : CLS M k pl n tx rc rw fc fa) (i j s l : Int) (i1_ : -2147483648 ≤ i) (i2_ : i ≤ 2147483647) (j1_ : -2147483648 ≤ j) (j2_ : j ≤ 2147483647) (s1_ : -2147483648 ≤ s) (s2_ : s ≤ 2147483647) (l1_ : -2147483648 ≤ l) (l2_ : l ≤ 2147483647) (hn : ¬ ((0 ≤ i ∧ i < 6) ∧ (0 ≤ j ∧ j < 6) ∧ (0 ≤ l ∧ l < 6) ∧ (s = 0 ∨ s = 1))) : Ct 198 (d + 7) 146 [(1, 0), (0, i), (0, j), (0, s), (0, l), (0, 1)] M (fun r_ M' => r_ = (0, -2) ∧ M' = M) := by
  have hK : cd 146 = k146 := rfl
  obtain ⟨P, u_, l_, z_, C, E, hpl, T, hR, hF⟩ := H
  have q1_ := qq_I k
  have p1_ := pp_I k
  have m1_ := mm_I k
  show Wp 198 _ 146 0 [(1, 0), (0, i), (0, j), (0, s), (0, l), (0, 1), (3, 0), (3, 0), (3, 0)] [] M _
  refine w_al hK rfl rfl ?_
  refine w_il hK rfl rfl ?_
  refine w_call [(1, 0), (0, i)] hK rfl rfl rfl rfl (Or.inr ⟨_, _, _, rfl, by decide, (by decide), rfl⟩) (c_plI i (by omega) (by omega)) ?_
  rintro _ Mq ⟨rfl, e_⟩
  subst Mq
  have pI_ := plr_I i
  refine ⟨(by show (1 : Nat) ≠ 9; decide), (?_ : Wp 198 _ 146 3 [(1, 0), (0, i), (0, j), (0, s), (0, l), (0, 1), (3, 0), (3, 0), (3, 0)] [(1, (plr i))] M _)⟩
  refine w_as [(1, 0), (0, i), (0, j), (0, s), (0, l), (0, 1), (1, (plr i)), (3, 0), (3, 0)] hK rfl rfl rfl ?_
  refine w_al hK rfl rfl ?_
  refine w_il hK rfl rfl ?_
  refine w_call [(1, 0), (0, j)] hK rfl rfl rfl rfl (Or.inr ⟨_, _, _, rfl, by decide, (by decide), rfl⟩) (c_plI j (by omega) (by omega)) ?_
  rintro _ Mq ⟨rfl, e_⟩
  subst Mq
  have pI_ := plr_I j
  refine ⟨(by show (1 : Nat) ≠ 9; decide), (?_ : Wp 198 _ 146 7 [(1, 0), (0, i), (0, j), (0, s), (0, l), (0, 1), (1, (plr i)), (3, 0), (3, 0)] [(1, (plr j))] M _)⟩
  refine w_as [(1, 0), (0, i), (0, j), (0, s), (0, l), (0, 1), (1, (plr i)), (1, (plr j)), (3, 0)] hK rfl rfl rfl ?_
  refine w_al hK rfl rfl ?_
  refine w_il hK rfl rfl ?_
  refine w_call [(1, 0), (0, l)] hK rfl rfl rfl rfl (Or.inr ⟨_, _, _, rfl, by decide, (by decide), rfl⟩) (c_plI l (by omega) (by omega)) ?_
  rintro _ Mq ⟨rfl, e_⟩
  subst Mq
  have pI_ := plr_I l
  refine ⟨(by show (1 : Nat) ≠ 9; decide), (?_ : Wp 198 _ 146 11 [(1, 0), (0, i), (0, j), (0, s), (0, l), (0, 1), (1, (plr i)), (1, (plr j)), (3, 0)] [(1, (plr l))] M _)⟩
  refine w_as [(1, 0), (0, i), (0, j), (0, s), (0, l), (0, 1), (1, (plr i)), (1, (plr j)), (1, (plr l))] hK rfl rfl rfl ?_
  refine w_al hK rfl rfl ?_
  refine w_null hK rfl (fun h13 => ?_) (fun h13 => ?_)
  · refine w_ic hK rfl ?_
    refine w_iret hK rfl rfl ?_
    exact ⟨rfl, rfl⟩
  · refine w_al hK rfl rfl ?_
    refine w_null hK rfl (fun h15 => ?_) (fun h15 => ?_)
    · refine w_ic hK rfl ?_
      refine w_iret hK rfl rfl ?_
      exact ⟨rfl, rfl⟩
    · refine w_al hK rfl rfl ?_
      refine w_null hK rfl (fun h17 => ?_) (fun h17 => ?_)
      · refine w_ic hK rfl ?_
        refine w_iret hK rfl rfl ?_
        exact ⟨rfl, rfl⟩
      · refine w_il hK rfl rfl ?_
        refine w_call [(0, s)] hK rfl rfl rfl rfl (Or.inl rfl) (c_side s (by omega) (by omega)) ?_
        rintro _ Mq ⟨rfl, e_⟩
        subst Mq
        refine ⟨by show (0 : Nat) ≠ 9; decide, (?_ : Wp 198 _ 146 20 [(1, 0), (0, i), (0, j), (0, s), (0, l), (0, 1), (1, (plr i)), (1, (plr j)), (1, (plr l))] [(0, (if s = 0 ∨ s = 1 then 1 else 0))] M _)⟩
        have tI_ := ite01 (s = 0 ∨ s = 1)
        refine w_ne hK rfl (by omega) (by omega) (fun h20 => ?_) (fun h20 => ?_)
        · exfalso; omega
        · refine w_ic hK rfl ?_
          refine w_iret hK rfl rfl ?_
          exact ⟨rfl, rfl⟩
set_option maxRecDepth 100000 in
theorem n_quot {d : Nat} {M : Mem} {k : Nat} {pl : Nat → Pl k} {n : Int} {tx : Int → Int} {rc : Nat} {rw : Int → Int} {fc : Nat} {fa : Nat → Pl k} (H : CLS M k pl n tx rc rw fc fa) (i j s l : Int) (i1_ : -2147483648 ≤ i) (i2_ : i ≤ 2147483647) (j1_ : -2147483648 ≤ j) (j2_ : j ≤ 2147483647) (s1_ : -2147483648 ≤ s) (s2_ : s ≤ 2147483647) (l1_ : -2147483648 ≤ l) (l2_ : l ≤ 2147483647) (hn : ¬ ((0 ≤ i ∧ i < 6) ∧ (0 ≤ j ∧ j < 6) ∧ (0 ≤ l ∧ l < 6) ∧ (s = 0 ∨ s = 1))) : Ct 198 (d + 8) 145 [(1, 0), (0, i), (0, j), (0, s), (0, l)] M (fun r_ M' => r_ = (0, -2) ∧ M' = M) := by
  have hK : cd 145 = k145 := rfl
  show Wp 198 _ 145 0 [(1, 0), (0, i), (0, j), (0, s), (0, l)] [] M _
  refine w_al hK rfl rfl ?_
  refine w_il hK rfl rfl ?_
  refine w_il hK rfl rfl ?_
  refine w_il hK rfl rfl ?_
  refine w_il hK rfl rfl ?_
  refine w_ic hK rfl ?_
  refine w_call [(1, 0), (0, i), (0, j), (0, s), (0, l), (0, 1)] hK rfl rfl rfl rfl (Or.inr ⟨_, _, _, rfl, by decide, (by decide), rfl⟩) (n_dvd1 H i j s l i1_ i2_ j1_ j2_ s1_ s2_ l1_ l2_ hn) ?_
  rintro _ Mq ⟨rfl, e_⟩
  refine ⟨(by show (0 : Nat) ≠ 9; decide), (?_ : Wp 198 _ 145 7 [(1, 0), (0, i), (0, j), (0, s), (0, l)] [(0, -2)] Mq _)⟩
  refine w_iret hK rfl rfl ?_
  exact ⟨rfl, e_⟩
set_option maxRecDepth 100000 in
theorem z_dvd1 {d : Nat} {M : Mem} {k : Nat} {pl : Nat → Pl k} {n : Int} {tx : Int → Int} {rc : Nat} {rw : Int → Int} {fc : Nat} {fa : Nat → Pl k} (H : CLS M k pl n tx rc rw fc fa) (i : Nat) (hi : i < 6) (j : Nat) (hj : j < 6) (l : Nat) (hl : l < 6) (s : Int) (hs_ : s = 0 ∨ s = 1) (hj0 : dg (pl j) < 0) : Ct 198 (d + 7) 146 [(1, 0), (0, (i : Int)), (0, (j : Int)), (0, s), (0, (l : Int)), (0, 1)] M (fun r_ M' => r_ = (0, -3) ∧ M' = M) := by
  have hK : cd 146 = k146 := rfl
  obtain ⟨P, u_, l_, z_, C, E, hpl, T, hR, hF⟩ := H
  have q1_ := qq_I k
  have p1_ := pp_I k
  have m1_ := mm_I k
  have bi_ := (hpl i hi).2
  have di_ := dg_lt9 bi_
  have bj_ := (hpl j hj).2
  have dj_ := dg_lt9 bj_
  have bl_ := (hpl l hl).2
  have dl_ := dg_lt9 bl_
  show Wp 198 _ 146 0 [(1, 0), (0, (i : Int)), (0, (j : Int)), (0, s), (0, (l : Int)), (0, 1), (3, 0), (3, 0), (3, 0)] [] M _
  refine w_al hK rfl rfl ?_
  refine w_il hK rfl rfl ?_
  refine w_call [(1, 0), (0, (i : Int))] hK rfl rfl rfl rfl (Or.inr ⟨_, _, _, rfl, by decide, (by decide), rfl⟩) (c_pl i hi) ?_
  rintro _ Mq ⟨rfl, e_⟩
  subst Mq
  refine ⟨(by show (1 : Nat) ≠ 9; decide), (?_ : Wp 198 _ 146 3 [(1, 0), (0, (i : Int)), (0, (j : Int)), (0, s), (0, (l : Int)), (0, 1), (3, 0), (3, 0), (3, 0)] [(1, (149 + 2 * (i : Int)))] M _)⟩
  refine w_as [(1, 0), (0, (i : Int)), (0, (j : Int)), (0, s), (0, (l : Int)), (0, 1), (1, (149 + 2 * (i : Int))), (3, 0), (3, 0)] hK rfl rfl rfl ?_
  refine w_al hK rfl rfl ?_
  refine w_il hK rfl rfl ?_
  refine w_call [(1, 0), (0, (j : Int))] hK rfl rfl rfl rfl (Or.inr ⟨_, _, _, rfl, by decide, (by decide), rfl⟩) (c_pl j hj) ?_
  rintro _ Mq ⟨rfl, e_⟩
  subst Mq
  refine ⟨(by show (1 : Nat) ≠ 9; decide), (?_ : Wp 198 _ 146 7 [(1, 0), (0, (i : Int)), (0, (j : Int)), (0, s), (0, (l : Int)), (0, 1), (1, (149 + 2 * (i : Int))), (3, 0), (3, 0)] [(1, (149 + 2 * (j : Int)))] M _)⟩
  refine w_as [(1, 0), (0, (i : Int)), (0, (j : Int)), (0, s), (0, (l : Int)), (0, 1), (1, (149 + 2 * (i : Int))), (1, (149 + 2 * (j : Int))), (3, 0)] hK rfl rfl rfl ?_
  refine w_al hK rfl rfl ?_
  refine w_il hK rfl rfl ?_
  refine w_call [(1, 0), (0, (l : Int))] hK rfl rfl rfl rfl (Or.inr ⟨_, _, _, rfl, by decide, (by decide), rfl⟩) (c_pl l hl) ?_
  rintro _ Mq ⟨rfl, e_⟩
  subst Mq
  refine ⟨(by show (1 : Nat) ≠ 9; decide), (?_ : Wp 198 _ 146 11 [(1, 0), (0, (i : Int)), (0, (j : Int)), (0, s), (0, (l : Int)), (0, 1), (1, (149 + 2 * (i : Int))), (1, (149 + 2 * (j : Int))), (3, 0)] [(1, (149 + 2 * (l : Int)))] M _)⟩
  refine w_as [(1, 0), (0, (i : Int)), (0, (j : Int)), (0, s), (0, (l : Int)), (0, 1), (1, (149 + 2 * (i : Int))), (1, (149 + 2 * (j : Int))), (1, (149 + 2 * (l : Int)))] hK rfl rfl rfl ?_
  refine w_al hK rfl rfl ?_
  refine w_null hK rfl (fun h13 => ?_) (fun h13 => ?_)
  · exfalso; omega
  · refine w_al hK rfl rfl ?_
    refine w_null hK rfl (fun h15 => ?_) (fun h15 => ?_)
    · exfalso; omega
    · refine w_al hK rfl rfl ?_
      refine w_null hK rfl (fun h17 => ?_) (fun h17 => ?_)
      · exfalso; omega
      · refine w_il hK rfl rfl ?_
        refine w_call [(0, s)] hK rfl rfl rfl rfl (Or.inl rfl) (c_side s (by omega) (by omega)) ?_
        rintro _ Mq ⟨rfl, e_⟩
        subst Mq
        refine ⟨by show (0 : Nat) ≠ 9; decide, (?_ : Wp 198 _ 146 20 [(1, 0), (0, (i : Int)), (0, (j : Int)), (0, s), (0, (l : Int)), (0, 1), (1, (149 + 2 * (i : Int))), (1, (149 + 2 * (j : Int))), (1, (149 + 2 * (l : Int)))] [(0, (if s = 0 ∨ s = 1 then 1 else 0))] M _)⟩
        have tI_ := ite01 (s = 0 ∨ s = 1)
        refine w_ne hK rfl (by omega) (by omega) (fun h20 => ?_) (fun h20 => ?_)
        · refine w_al hK rfl rfl ?_
          refine w_pt hK rfl (isPP hj) ?_
          rw [show M (149 + 2 * (j : Int)) 1 = dg (pl j) from C.t ⟨(isPP hj), (hpl j hj).1⟩]
          have tI_ := CS.dI C ⟨(isPP hj), (hpl j hj).1⟩
          refine w_ge hK rfl (by omega) (by omega) (fun h25 => ?_) (fun h25 => ?_)
          · exfalso; omega
          · refine w_ic hK rfl ?_
            refine w_iret hK rfl rfl ?_
            exact ⟨rfl, rfl⟩
        · exfalso; omega
set_option maxRecDepth 100000 in
theorem z_quot {d : Nat} {M : Mem} {k : Nat} {pl : Nat → Pl k} {n : Int} {tx : Int → Int} {rc : Nat} {rw : Int → Int} {fc : Nat} {fa : Nat → Pl k} (H : CLS M k pl n tx rc rw fc fa) (i : Nat) (hi : i < 6) (j : Nat) (hj : j < 6) (l : Nat) (hl : l < 6) (s : Int) (hs_ : s = 0 ∨ s = 1) (hj0 : dg (pl j) < 0) : Ct 198 (d + 8) 145 [(1, 0), (0, (i : Int)), (0, (j : Int)), (0, s), (0, (l : Int))] M (fun r_ M' => r_ = (0, -3) ∧ M' = M) := by
  have hK : cd 145 = k145 := rfl
  show Wp 198 _ 145 0 [(1, 0), (0, (i : Int)), (0, (j : Int)), (0, s), (0, (l : Int))] [] M _
  refine w_al hK rfl rfl ?_
  refine w_il hK rfl rfl ?_
  refine w_il hK rfl rfl ?_
  refine w_il hK rfl rfl ?_
  refine w_il hK rfl rfl ?_
  refine w_ic hK rfl ?_
  refine w_call [(1, 0), (0, (i : Int)), (0, (j : Int)), (0, s), (0, (l : Int)), (0, 1)] hK rfl rfl rfl rfl (Or.inr ⟨_, _, _, rfl, by decide, (by decide), rfl⟩) (z_dvd1 H i hi j hj l hl s hs_ hj0) ?_
  rintro _ Mq ⟨rfl, e_⟩
  refine ⟨(by show (0 : Nat) ≠ 9; decide), (?_ : Wp 198 _ 145 7 [(1, 0), (0, (i : Int)), (0, (j : Int)), (0, s), (0, (l : Int))] [(0, -3)] Mq _)⟩
  refine w_iret hK rfl rfl ?_
  exact ⟨rfl, e_⟩
set_option maxRecDepth 100000 in
theorem o_dvd0 {d : Nat} {M : Mem} {k : Nat} {pl : Nat → Pl k} {n : Int} {tx : Int → Int} {rc : Nat} {rw : Int → Int} {fc : Nat} {fa : Nat → Pl k} (H : CLS M k pl n tx rc rw fc fa) (i : Nat) (hi : i < 6) (j : Nat) (hj : j < 6) (l : Nat) (hl : l < 6) (s : Int) (hs_ : s = 0 ∨ s = 1) (hj0 : 0 ≤ dg (pl j)) : Ct 198 (d + 7) 146 [(1, 0), (0, (i : Int)), (0, (j : Int)), (0, s), (0, (l : Int)), (0, 0)] M (fun r_ M' => r_ = (0, (dg (dr s (pl i) (pl j)))) ∧ CLS M' k (fup pl l (dr s (pl i) (pl j))) n tx rc rw fc fa ∧ (∀ a : Int, (a < 0 ∨ 160 < a) → M' a = M a)) := by
  have hK : cd 146 = k146 := rfl
  obtain ⟨P, u_, l_, z_, C, E, hpl, T, hR, hF⟩ := H
  have q1_ := qq_I k
  have p1_ := pp_I k
  have m1_ := mm_I k
  have bi_ := (hpl i hi).2
  have di_ := dg_lt9 bi_
  have bj_ := (hpl j hj).2
  have dj_ := dg_lt9 bj_
  have bl_ := (hpl l hl).2
  have dl_ := dg_lt9 bl_
  show Wp 198 _ 146 0 [(1, 0), (0, (i : Int)), (0, (j : Int)), (0, s), (0, (l : Int)), (0, 0), (3, 0), (3, 0), (3, 0)] [] M _
  refine w_al hK rfl rfl ?_
  refine w_il hK rfl rfl ?_
  refine w_call [(1, 0), (0, (i : Int))] hK rfl rfl rfl rfl (Or.inr ⟨_, _, _, rfl, by decide, (by decide), rfl⟩) (c_pl i hi) ?_
  rintro _ Mq ⟨rfl, e_⟩
  subst Mq
  refine ⟨(by show (1 : Nat) ≠ 9; decide), (?_ : Wp 198 _ 146 3 [(1, 0), (0, (i : Int)), (0, (j : Int)), (0, s), (0, (l : Int)), (0, 0), (3, 0), (3, 0), (3, 0)] [(1, (149 + 2 * (i : Int)))] M _)⟩
  refine w_as [(1, 0), (0, (i : Int)), (0, (j : Int)), (0, s), (0, (l : Int)), (0, 0), (1, (149 + 2 * (i : Int))), (3, 0), (3, 0)] hK rfl rfl rfl ?_
  refine w_al hK rfl rfl ?_
  refine w_il hK rfl rfl ?_
  refine w_call [(1, 0), (0, (j : Int))] hK rfl rfl rfl rfl (Or.inr ⟨_, _, _, rfl, by decide, (by decide), rfl⟩) (c_pl j hj) ?_
  rintro _ Mq ⟨rfl, e_⟩
  subst Mq
  refine ⟨(by show (1 : Nat) ≠ 9; decide), (?_ : Wp 198 _ 146 7 [(1, 0), (0, (i : Int)), (0, (j : Int)), (0, s), (0, (l : Int)), (0, 0), (1, (149 + 2 * (i : Int))), (3, 0), (3, 0)] [(1, (149 + 2 * (j : Int)))] M _)⟩
  refine w_as [(1, 0), (0, (i : Int)), (0, (j : Int)), (0, s), (0, (l : Int)), (0, 0), (1, (149 + 2 * (i : Int))), (1, (149 + 2 * (j : Int))), (3, 0)] hK rfl rfl rfl ?_
  refine w_al hK rfl rfl ?_
  refine w_il hK rfl rfl ?_
  refine w_call [(1, 0), (0, (l : Int))] hK rfl rfl rfl rfl (Or.inr ⟨_, _, _, rfl, by decide, (by decide), rfl⟩) (c_pl l hl) ?_
  rintro _ Mq ⟨rfl, e_⟩
  subst Mq
  refine ⟨(by show (1 : Nat) ≠ 9; decide), (?_ : Wp 198 _ 146 11 [(1, 0), (0, (i : Int)), (0, (j : Int)), (0, s), (0, (l : Int)), (0, 0), (1, (149 + 2 * (i : Int))), (1, (149 + 2 * (j : Int))), (3, 0)] [(1, (149 + 2 * (l : Int)))] M _)⟩
  refine w_as [(1, 0), (0, (i : Int)), (0, (j : Int)), (0, s), (0, (l : Int)), (0, 0), (1, (149 + 2 * (i : Int))), (1, (149 + 2 * (j : Int))), (1, (149 + 2 * (l : Int)))] hK rfl rfl rfl ?_
  refine w_al hK rfl rfl ?_
  refine w_null hK rfl (fun h13 => ?_) (fun h13 => ?_)
  · exfalso; omega
  · refine w_al hK rfl rfl ?_
    refine w_null hK rfl (fun h15 => ?_) (fun h15 => ?_)
    · exfalso; omega
    · refine w_al hK rfl rfl ?_
      refine w_null hK rfl (fun h17 => ?_) (fun h17 => ?_)
      · exfalso; omega
      · refine w_il hK rfl rfl ?_
        refine w_call [(0, s)] hK rfl rfl rfl rfl (Or.inl rfl) (c_side s (by omega) (by omega)) ?_
        rintro _ Mq ⟨rfl, e_⟩
        subst Mq
        refine ⟨by show (0 : Nat) ≠ 9; decide, (?_ : Wp 198 _ 146 20 [(1, 0), (0, (i : Int)), (0, (j : Int)), (0, s), (0, (l : Int)), (0, 0), (1, (149 + 2 * (i : Int))), (1, (149 + 2 * (j : Int))), (1, (149 + 2 * (l : Int)))] [(0, (if s = 0 ∨ s = 1 then 1 else 0))] M _)⟩
        have tI_ := ite01 (s = 0 ∨ s = 1)
        refine w_ne hK rfl (by omega) (by omega) (fun h20 => ?_) (fun h20 => ?_)
        · refine w_al hK rfl rfl ?_
          refine w_pt hK rfl (isPP hj) ?_
          rw [show M (149 + 2 * (j : Int)) 1 = dg (pl j) from C.t ⟨(isPP hj), (hpl j hj).1⟩]
          have tI_ := CS.dI C ⟨(isPP hj), (hpl j hj).1⟩
          refine w_ge hK rfl (by omega) (by omega) (fun h25 => ?_) (fun h25 => ?_)
          · refine w_al hK rfl rfl ?_
            refine w_getr (n := 1) (v := 7) hK rfl rfl (by decide) (by decide) rfl rfl rfl rfl ?_
            refine w_al hK rfl rfl ?_
            refine w_al hK rfl rfl ?_
            refine w_il hK rfl rfl ?_
            refine w_al hK rfl rfl ?_
            refine w_getr (n := 12) (v := 145) hK rfl rfl (by decide) (by decide) rfl rfl rfl rfl ?_
            refine w_al hK rfl rfl ?_
            refine w_getr (n := 13) (v := 147) hK rfl rfl (by decide) (by decide) rfl rfl rfl rfl ?_
            refine w_call [(1, 7), (1, (149 + 2 * (i : Int))), (1, (149 + 2 * (j : Int))), (0, s), (1, 145), (1, 147)] hK rfl rfl rfl rfl (Or.inr ⟨_, _, _, rfl, by decide, (by decide), rfl⟩) (c_div C ⟨(isPP hi), (hpl i hi).1⟩ ⟨(isPP hj), (hpl j hj).1⟩ s (isP_of (p := 145) rfl) (isP_of (p := 147) rfl) (by omega) (by omega) (by omega) (by omega) (by omega) (by omega)) ?_
            rintro _ V130 ⟨rfl, C130, S130⟩
            refine ⟨by decide, (?_ : Wp 198 _ 146 38 [(1, 0), (0, (i : Int)), (0, (j : Int)), (0, s), (0, (l : Int)), (0, 0), (1, (149 + 2 * (i : Int))), (1, (149 + 2 * (j : Int))), (1, (149 + 2 * (l : Int)))] [] V130 _)⟩
            refine w_al hK rfl rfl ?_
            refine w_il hK rfl rfl ?_
            refine w_eq hK rfl (by omega) (by omega) (fun h40 => ?_) (fun h40 => ?_)
            · refine w_al hK rfl rfl ?_
              refine w_getr (n := 13) (v := 147) hK rfl rfl (by decide) (by decide) rfl rfl rfl rfl ?_
              refine w_call [(1, (149 + 2 * (l : Int))), (1, 147)] hK rfl rfl rfl rfl (Or.inr ⟨_, _, _, rfl, (isPP hl).nn, (isPP hl).lb, (isPP hl).o⟩) (c_copy C130 (isPP hl) ⟨(isP_of (p := 147) rfl), pu_eq⟩) ?_
              rintro _ V131 ⟨rfl, C131, S131⟩
              refine ⟨by decide, (?_ : Wp 198 _ 146 47 [(1, 0), (0, (i : Int)), (0, (j : Int)), (0, s), (0, (l : Int)), (0, 0), (1, (149 + 2 * (i : Int))), (1, (149 + 2 * (j : Int))), (1, (149 + 2 * (l : Int)))] [] V131 _)⟩
              refine w_al hK rfl rfl ?_
              refine w_pt hK rfl (isPP hl) ?_
              rw [show V131 (149 + 2 * (l : Int)) 1 = dg (dr s (pl i) (pl j)) from C131.t ⟨(isPP hl), pu_eq⟩]
              have tI_ := CS.dI C131 ⟨(isPP hl), pu_eq⟩
              refine w_iret hK rfl rfl ?_
              exact ⟨rfl, ⟨_, u_, l_, z_, C131, (ES.keep E ((S131 18 (notP rfl)).trans (S130 18 (notP rfl)))), (PLs.put hpl pu_eq (Bd_dq9 s bi_ bj_ hj0).2 (fun q_ hq_ hn_ => ((pu_ne (P := pu (pu P 145 (dq s (pl i) (pl j))) 147 (dr s (pl i) (pl j))) (f := dr s (pl i) (pl j)) (show (149 + 2 * (q_ : Int)) ≠ (149 + 2 * (l : Int)) by omega)).trans ((pu_ne (P := pu P 145 (dq s (pl i) (pl j))) (f := dr s (pl i) (pl j)) (show (149 + 2 * (q_ : Int)) ≠ 147 by omega)).trans (pu_ne (P := P) (f := dq s (pl i) (pl j)) (show (149 + 2 * (q_ : Int)) ≠ 145 by omega)))))), (TXs.keep T ((S131 140 (notP rfl)).trans (S130 140 (notP rfl))) ((S131 141 (notP rfl)).trans (S130 141 (notP rfl)))), (RWs.keep hR ((S131 0 (notP rfl)).trans (S130 0 (notP rfl))) ((S131 144 (notP rfl)).trans (S130 144 (notP rfl)))), (FCs.keep hF ((S131 52 (notP rfl)).trans (S130 52 (notP rfl))) (fun q_ hq_ => ((pu_ne (P := pu (pu P 145 (dq s (pl i) (pl j))) 147 (dr s (pl i) (pl j))) (f := dr s (pl i) (pl j)) (show (68 + 6 * (q_ : Int)) ≠ (149 + 2 * (l : Int)) by omega)).trans ((pu_ne (P := pu P 145 (dq s (pl i) (pl j))) (f := dr s (pl i) (pl j)) (show (68 + 6 * (q_ : Int)) ≠ 147 by omega)).trans (pu_ne (P := P) (f := dq s (pl i) (pl j)) (show (68 + 6 * (q_ : Int)) ≠ 145 by omega))))))⟩, (fun a h_ => ((S131 a (npC h_)).trans (S130 a (npC h_))))⟩
            · exfalso; omega
          · exfalso; omega
        · exfalso; omega
set_option maxRecDepth 100000 in
theorem o_rem {d : Nat} {M : Mem} {k : Nat} {pl : Nat → Pl k} {n : Int} {tx : Int → Int} {rc : Nat} {rw : Int → Int} {fc : Nat} {fa : Nat → Pl k} (H : CLS M k pl n tx rc rw fc fa) (i : Nat) (hi : i < 6) (j : Nat) (hj : j < 6) (l : Nat) (hl : l < 6) (s : Int) (hs_ : s = 0 ∨ s = 1) (hj0 : 0 ≤ dg (pl j)) : Ct 198 (d + 8) 148 [(1, 0), (0, (i : Int)), (0, (j : Int)), (0, s), (0, (l : Int))] M (fun r_ M' => r_ = (0, (dg (dr s (pl i) (pl j)))) ∧ CLS M' k (fup pl l (dr s (pl i) (pl j))) n tx rc rw fc fa ∧ (∀ a : Int, (a < 0 ∨ 160 < a) → M' a = M a)) := by
  have hK : cd 148 = k148 := rfl
  show Wp 198 _ 148 0 [(1, 0), (0, (i : Int)), (0, (j : Int)), (0, s), (0, (l : Int))] [] M _
  refine w_al hK rfl rfl ?_
  refine w_il hK rfl rfl ?_
  refine w_il hK rfl rfl ?_
  refine w_il hK rfl rfl ?_
  refine w_il hK rfl rfl ?_
  refine w_ic hK rfl ?_
  refine w_call [(1, 0), (0, (i : Int)), (0, (j : Int)), (0, s), (0, (l : Int)), (0, 0)] hK rfl rfl rfl rfl (Or.inr ⟨_, _, _, rfl, by decide, (by decide), rfl⟩) (o_dvd0 H i hi j hj l hl s hs_ hj0) ?_
  rintro _ Mq ⟨rfl, e_⟩
  refine ⟨(by show (0 : Nat) ≠ 9; decide), (?_ : Wp 198 _ 148 7 [(1, 0), (0, (i : Int)), (0, (j : Int)), (0, s), (0, (l : Int))] [(0, dg (dr s (pl i) (pl j)))] Mq _)⟩
  refine w_iret hK rfl rfl ?_
  exact ⟨rfl, e_⟩
set_option maxRecDepth 100000 in
theorem n_dvd0 {d : Nat} {M : Mem} {k : Nat} {pl : Nat → Pl k} {n : Int} {tx : Int → Int} {rc : Nat} {rw : Int → Int} {fc : Nat} {fa : Nat → Pl k} (H : CLS M k pl n tx rc rw fc fa) (i j s l : Int) (i1_ : -2147483648 ≤ i) (i2_ : i ≤ 2147483647) (j1_ : -2147483648 ≤ j) (j2_ : j ≤ 2147483647) (s1_ : -2147483648 ≤ s) (s2_ : s ≤ 2147483647) (l1_ : -2147483648 ≤ l) (l2_ : l ≤ 2147483647) (hn : ¬ ((0 ≤ i ∧ i < 6) ∧ (0 ≤ j ∧ j < 6) ∧ (0 ≤ l ∧ l < 6) ∧ (s = 0 ∨ s = 1))) : Ct 198 (d + 7) 146 [(1, 0), (0, i), (0, j), (0, s), (0, l), (0, 0)] M (fun r_ M' => r_ = (0, -2) ∧ M' = M) := by
  have hK : cd 146 = k146 := rfl
  obtain ⟨P, u_, l_, z_, C, E, hpl, T, hR, hF⟩ := H
  have q1_ := qq_I k
  have p1_ := pp_I k
  have m1_ := mm_I k
  show Wp 198 _ 146 0 [(1, 0), (0, i), (0, j), (0, s), (0, l), (0, 0), (3, 0), (3, 0), (3, 0)] [] M _
  refine w_al hK rfl rfl ?_
  refine w_il hK rfl rfl ?_
  refine w_call [(1, 0), (0, i)] hK rfl rfl rfl rfl (Or.inr ⟨_, _, _, rfl, by decide, (by decide), rfl⟩) (c_plI i (by omega) (by omega)) ?_
  rintro _ Mq ⟨rfl, e_⟩
  subst Mq
  have pI_ := plr_I i
  refine ⟨(by show (1 : Nat) ≠ 9; decide), (?_ : Wp 198 _ 146 3 [(1, 0), (0, i), (0, j), (0, s), (0, l), (0, 0), (3, 0), (3, 0), (3, 0)] [(1, (plr i))] M _)⟩
  refine w_as [(1, 0), (0, i), (0, j), (0, s), (0, l), (0, 0), (1, (plr i)), (3, 0), (3, 0)] hK rfl rfl rfl ?_
  refine w_al hK rfl rfl ?_
  refine w_il hK rfl rfl ?_
  refine w_call [(1, 0), (0, j)] hK rfl rfl rfl rfl (Or.inr ⟨_, _, _, rfl, by decide, (by decide), rfl⟩) (c_plI j (by omega) (by omega)) ?_
  rintro _ Mq ⟨rfl, e_⟩
  subst Mq
  have pI_ := plr_I j
  refine ⟨(by show (1 : Nat) ≠ 9; decide), (?_ : Wp 198 _ 146 7 [(1, 0), (0, i), (0, j), (0, s), (0, l), (0, 0), (1, (plr i)), (3, 0), (3, 0)] [(1, (plr j))] M _)⟩
  refine w_as [(1, 0), (0, i), (0, j), (0, s), (0, l), (0, 0), (1, (plr i)), (1, (plr j)), (3, 0)] hK rfl rfl rfl ?_
  refine w_al hK rfl rfl ?_
  refine w_il hK rfl rfl ?_
  refine w_call [(1, 0), (0, l)] hK rfl rfl rfl rfl (Or.inr ⟨_, _, _, rfl, by decide, (by decide), rfl⟩) (c_plI l (by omega) (by omega)) ?_
  rintro _ Mq ⟨rfl, e_⟩
  subst Mq
  have pI_ := plr_I l
  refine ⟨(by show (1 : Nat) ≠ 9; decide), (?_ : Wp 198 _ 146 11 [(1, 0), (0, i), (0, j), (0, s), (0, l), (0, 0), (1, (plr i)), (1, (plr j)), (3, 0)] [(1, (plr l))] M _)⟩
  refine w_as [(1, 0), (0, i), (0, j), (0, s), (0, l), (0, 0), (1, (plr i)), (1, (plr j)), (1, (plr l))] hK rfl rfl rfl ?_
  refine w_al hK rfl rfl ?_
  refine w_null hK rfl (fun h13 => ?_) (fun h13 => ?_)
  · refine w_ic hK rfl ?_
    refine w_iret hK rfl rfl ?_
    exact ⟨rfl, rfl⟩
  · refine w_al hK rfl rfl ?_
    refine w_null hK rfl (fun h15 => ?_) (fun h15 => ?_)
    · refine w_ic hK rfl ?_
      refine w_iret hK rfl rfl ?_
      exact ⟨rfl, rfl⟩
    · refine w_al hK rfl rfl ?_
      refine w_null hK rfl (fun h17 => ?_) (fun h17 => ?_)
      · refine w_ic hK rfl ?_
        refine w_iret hK rfl rfl ?_
        exact ⟨rfl, rfl⟩
      · refine w_il hK rfl rfl ?_
        refine w_call [(0, s)] hK rfl rfl rfl rfl (Or.inl rfl) (c_side s (by omega) (by omega)) ?_
        rintro _ Mq ⟨rfl, e_⟩
        subst Mq
        refine ⟨by show (0 : Nat) ≠ 9; decide, (?_ : Wp 198 _ 146 20 [(1, 0), (0, i), (0, j), (0, s), (0, l), (0, 0), (1, (plr i)), (1, (plr j)), (1, (plr l))] [(0, (if s = 0 ∨ s = 1 then 1 else 0))] M _)⟩
        have tI_ := ite01 (s = 0 ∨ s = 1)
        refine w_ne hK rfl (by omega) (by omega) (fun h20 => ?_) (fun h20 => ?_)
        · exfalso; omega
        · refine w_ic hK rfl ?_
          refine w_iret hK rfl rfl ?_
          exact ⟨rfl, rfl⟩
set_option maxRecDepth 100000 in
theorem n_rem {d : Nat} {M : Mem} {k : Nat} {pl : Nat → Pl k} {n : Int} {tx : Int → Int} {rc : Nat} {rw : Int → Int} {fc : Nat} {fa : Nat → Pl k} (H : CLS M k pl n tx rc rw fc fa) (i j s l : Int) (i1_ : -2147483648 ≤ i) (i2_ : i ≤ 2147483647) (j1_ : -2147483648 ≤ j) (j2_ : j ≤ 2147483647) (s1_ : -2147483648 ≤ s) (s2_ : s ≤ 2147483647) (l1_ : -2147483648 ≤ l) (l2_ : l ≤ 2147483647) (hn : ¬ ((0 ≤ i ∧ i < 6) ∧ (0 ≤ j ∧ j < 6) ∧ (0 ≤ l ∧ l < 6) ∧ (s = 0 ∨ s = 1))) : Ct 198 (d + 8) 148 [(1, 0), (0, i), (0, j), (0, s), (0, l)] M (fun r_ M' => r_ = (0, -2) ∧ M' = M) := by
  have hK : cd 148 = k148 := rfl
  show Wp 198 _ 148 0 [(1, 0), (0, i), (0, j), (0, s), (0, l)] [] M _
  refine w_al hK rfl rfl ?_
  refine w_il hK rfl rfl ?_
  refine w_il hK rfl rfl ?_
  refine w_il hK rfl rfl ?_
  refine w_il hK rfl rfl ?_
  refine w_ic hK rfl ?_
  refine w_call [(1, 0), (0, i), (0, j), (0, s), (0, l), (0, 0)] hK rfl rfl rfl rfl (Or.inr ⟨_, _, _, rfl, by decide, (by decide), rfl⟩) (n_dvd0 H i j s l i1_ i2_ j1_ j2_ s1_ s2_ l1_ l2_ hn) ?_
  rintro _ Mq ⟨rfl, e_⟩
  refine ⟨(by show (0 : Nat) ≠ 9; decide), (?_ : Wp 198 _ 148 7 [(1, 0), (0, i), (0, j), (0, s), (0, l)] [(0, -2)] Mq _)⟩
  refine w_iret hK rfl rfl ?_
  exact ⟨rfl, e_⟩
set_option maxRecDepth 100000 in
theorem z_dvd0 {d : Nat} {M : Mem} {k : Nat} {pl : Nat → Pl k} {n : Int} {tx : Int → Int} {rc : Nat} {rw : Int → Int} {fc : Nat} {fa : Nat → Pl k} (H : CLS M k pl n tx rc rw fc fa) (i : Nat) (hi : i < 6) (j : Nat) (hj : j < 6) (l : Nat) (hl : l < 6) (s : Int) (hs_ : s = 0 ∨ s = 1) (hj0 : dg (pl j) < 0) : Ct 198 (d + 7) 146 [(1, 0), (0, (i : Int)), (0, (j : Int)), (0, s), (0, (l : Int)), (0, 0)] M (fun r_ M' => r_ = (0, -3) ∧ M' = M) := by
  have hK : cd 146 = k146 := rfl
  obtain ⟨P, u_, l_, z_, C, E, hpl, T, hR, hF⟩ := H
  have q1_ := qq_I k
  have p1_ := pp_I k
  have m1_ := mm_I k
  have bi_ := (hpl i hi).2
  have di_ := dg_lt9 bi_
  have bj_ := (hpl j hj).2
  have dj_ := dg_lt9 bj_
  have bl_ := (hpl l hl).2
  have dl_ := dg_lt9 bl_
  show Wp 198 _ 146 0 [(1, 0), (0, (i : Int)), (0, (j : Int)), (0, s), (0, (l : Int)), (0, 0), (3, 0), (3, 0), (3, 0)] [] M _
  refine w_al hK rfl rfl ?_
  refine w_il hK rfl rfl ?_
  refine w_call [(1, 0), (0, (i : Int))] hK rfl rfl rfl rfl (Or.inr ⟨_, _, _, rfl, by decide, (by decide), rfl⟩) (c_pl i hi) ?_
  rintro _ Mq ⟨rfl, e_⟩
  subst Mq
  refine ⟨(by show (1 : Nat) ≠ 9; decide), (?_ : Wp 198 _ 146 3 [(1, 0), (0, (i : Int)), (0, (j : Int)), (0, s), (0, (l : Int)), (0, 0), (3, 0), (3, 0), (3, 0)] [(1, (149 + 2 * (i : Int)))] M _)⟩
  refine w_as [(1, 0), (0, (i : Int)), (0, (j : Int)), (0, s), (0, (l : Int)), (0, 0), (1, (149 + 2 * (i : Int))), (3, 0), (3, 0)] hK rfl rfl rfl ?_
  refine w_al hK rfl rfl ?_
  refine w_il hK rfl rfl ?_
  refine w_call [(1, 0), (0, (j : Int))] hK rfl rfl rfl rfl (Or.inr ⟨_, _, _, rfl, by decide, (by decide), rfl⟩) (c_pl j hj) ?_
  rintro _ Mq ⟨rfl, e_⟩
  subst Mq
  refine ⟨(by show (1 : Nat) ≠ 9; decide), (?_ : Wp 198 _ 146 7 [(1, 0), (0, (i : Int)), (0, (j : Int)), (0, s), (0, (l : Int)), (0, 0), (1, (149 + 2 * (i : Int))), (3, 0), (3, 0)] [(1, (149 + 2 * (j : Int)))] M _)⟩
  refine w_as [(1, 0), (0, (i : Int)), (0, (j : Int)), (0, s), (0, (l : Int)), (0, 0), (1, (149 + 2 * (i : Int))), (1, (149 + 2 * (j : Int))), (3, 0)] hK rfl rfl rfl ?_
  refine w_al hK rfl rfl ?_
  refine w_il hK rfl rfl ?_
  refine w_call [(1, 0), (0, (l : Int))] hK rfl rfl rfl rfl (Or.inr ⟨_, _, _, rfl, by decide, (by decide), rfl⟩) (c_pl l hl) ?_
  rintro _ Mq ⟨rfl, e_⟩
  subst Mq
  refine ⟨(by show (1 : Nat) ≠ 9; decide), (?_ : Wp 198 _ 146 11 [(1, 0), (0, (i : Int)), (0, (j : Int)), (0, s), (0, (l : Int)), (0, 0), (1, (149 + 2 * (i : Int))), (1, (149 + 2 * (j : Int))), (3, 0)] [(1, (149 + 2 * (l : Int)))] M _)⟩
  refine w_as [(1, 0), (0, (i : Int)), (0, (j : Int)), (0, s), (0, (l : Int)), (0, 0), (1, (149 + 2 * (i : Int))), (1, (149 + 2 * (j : Int))), (1, (149 + 2 * (l : Int)))] hK rfl rfl rfl ?_
  refine w_al hK rfl rfl ?_
  refine w_null hK rfl (fun h13 => ?_) (fun h13 => ?_)
  · exfalso; omega
  · refine w_al hK rfl rfl ?_
    refine w_null hK rfl (fun h15 => ?_) (fun h15 => ?_)
    · exfalso; omega
    · refine w_al hK rfl rfl ?_
      refine w_null hK rfl (fun h17 => ?_) (fun h17 => ?_)
      · exfalso; omega
      · refine w_il hK rfl rfl ?_
        refine w_call [(0, s)] hK rfl rfl rfl rfl (Or.inl rfl) (c_side s (by omega) (by omega)) ?_
        rintro _ Mq ⟨rfl, e_⟩
        subst Mq
        refine ⟨by show (0 : Nat) ≠ 9; decide, (?_ : Wp 198 _ 146 20 [(1, 0), (0, (i : Int)), (0, (j : Int)), (0, s), (0, (l : Int)), (0, 0), (1, (149 + 2 * (i : Int))), (1, (149 + 2 * (j : Int))), (1, (149 + 2 * (l : Int)))] [(0, (if s = 0 ∨ s = 1 then 1 else 0))] M _)⟩
        have tI_ := ite01 (s = 0 ∨ s = 1)
        refine w_ne hK rfl (by omega) (by omega) (fun h20 => ?_) (fun h20 => ?_)
        · refine w_al hK rfl rfl ?_
          refine w_pt hK rfl (isPP hj) ?_
          rw [show M (149 + 2 * (j : Int)) 1 = dg (pl j) from C.t ⟨(isPP hj), (hpl j hj).1⟩]
          have tI_ := CS.dI C ⟨(isPP hj), (hpl j hj).1⟩
          refine w_ge hK rfl (by omega) (by omega) (fun h25 => ?_) (fun h25 => ?_)
          · exfalso; omega
          · refine w_ic hK rfl ?_
            refine w_iret hK rfl rfl ?_
            exact ⟨rfl, rfl⟩
        · exfalso; omega
set_option maxRecDepth 100000 in
theorem z_rem {d : Nat} {M : Mem} {k : Nat} {pl : Nat → Pl k} {n : Int} {tx : Int → Int} {rc : Nat} {rw : Int → Int} {fc : Nat} {fa : Nat → Pl k} (H : CLS M k pl n tx rc rw fc fa) (i : Nat) (hi : i < 6) (j : Nat) (hj : j < 6) (l : Nat) (hl : l < 6) (s : Int) (hs_ : s = 0 ∨ s = 1) (hj0 : dg (pl j) < 0) : Ct 198 (d + 8) 148 [(1, 0), (0, (i : Int)), (0, (j : Int)), (0, s), (0, (l : Int))] M (fun r_ M' => r_ = (0, -3) ∧ M' = M) := by
  have hK : cd 148 = k148 := rfl
  show Wp 198 _ 148 0 [(1, 0), (0, (i : Int)), (0, (j : Int)), (0, s), (0, (l : Int))] [] M _
  refine w_al hK rfl rfl ?_
  refine w_il hK rfl rfl ?_
  refine w_il hK rfl rfl ?_
  refine w_il hK rfl rfl ?_
  refine w_il hK rfl rfl ?_
  refine w_ic hK rfl ?_
  refine w_call [(1, 0), (0, (i : Int)), (0, (j : Int)), (0, s), (0, (l : Int)), (0, 0)] hK rfl rfl rfl rfl (Or.inr ⟨_, _, _, rfl, by decide, (by decide), rfl⟩) (z_dvd0 H i hi j hj l hl s hs_ hj0) ?_
  rintro _ Mq ⟨rfl, e_⟩
  refine ⟨(by show (0 : Nat) ≠ 9; decide), (?_ : Wp 198 _ 148 7 [(1, 0), (0, (i : Int)), (0, (j : Int)), (0, s), (0, (l : Int))] [(0, -3)] Mq _)⟩
  refine w_iret hK rfl rfl ?_
  exact ⟨rfl, e_⟩
set_option maxRecDepth 100000 in
theorem o_divisor {d : Nat} {M : Mem} {k : Nat} {pl : Nat → Pl k} {n : Int} {tx : Int → Int} {rc : Nat} {rw : Int → Int} {fc : Nat} {fa : Nat → Pl k} (H : CLS M k pl n tx rc rw fc fa) (i : Nat) (hi : i < 6) (j : Nat) (hj : j < 6) (l : Nat) (hl : l < 6) (s : Int) (hs_ : s = 0 ∨ s = 1) (h0_ : 0 ≤ dg (pl i) ∨ 0 ≤ dg (pl j)) : Ct 198 (d + 8) 149 [(1, 0), (0, (i : Int)), (0, (j : Int)), (0, s), (0, (l : Int))] M (fun r_ M' => r_ = (0, (dg (mon s (euL s (pl i) (pl j)).1))) ∧ CLS M' k (fup pl l (mon s (euL s (pl i) (pl j)).1)) n tx rc rw fc fa ∧ (∀ a : Int, (a < 0 ∨ 160 < a) → M' a = M a)) := by
  have hK : cd 149 = k149 := rfl
  obtain ⟨P, u_, l_, z_, C, E, hpl, T, hR, hF⟩ := H
  have q1_ := qq_I k
  have p1_ := pp_I k
  have m1_ := mm_I k
  have bi_ := (hpl i hi).2
  have di_ := dg_lt9 bi_
  have bj_ := (hpl j hj).2
  have dj_ := dg_lt9 bj_
  have bl_ := (hpl l hl).2
  have dl_ := dg_lt9 bl_
  show Wp 198 _ 149 0 [(1, 0), (0, (i : Int)), (0, (j : Int)), (0, s), (0, (l : Int)), (3, 0), (3, 0), (3, 0)] [] M _
  refine w_al hK rfl rfl ?_
  refine w_il hK rfl rfl ?_
  refine w_call [(1, 0), (0, (i : Int))] hK rfl rfl rfl rfl (Or.inr ⟨_, _, _, rfl, by decide, (by decide), rfl⟩) (c_pl i hi) ?_
  rintro _ Mq ⟨rfl, e_⟩
  subst Mq
  refine ⟨(by show (1 : Nat) ≠ 9; decide), (?_ : Wp 198 _ 149 3 [(1, 0), (0, (i : Int)), (0, (j : Int)), (0, s), (0, (l : Int)), (3, 0), (3, 0), (3, 0)] [(1, (149 + 2 * (i : Int)))] M _)⟩
  refine w_as [(1, 0), (0, (i : Int)), (0, (j : Int)), (0, s), (0, (l : Int)), (1, (149 + 2 * (i : Int))), (3, 0), (3, 0)] hK rfl rfl rfl ?_
  refine w_al hK rfl rfl ?_
  refine w_il hK rfl rfl ?_
  refine w_call [(1, 0), (0, (j : Int))] hK rfl rfl rfl rfl (Or.inr ⟨_, _, _, rfl, by decide, (by decide), rfl⟩) (c_pl j hj) ?_
  rintro _ Mq ⟨rfl, e_⟩
  subst Mq
  refine ⟨(by show (1 : Nat) ≠ 9; decide), (?_ : Wp 198 _ 149 7 [(1, 0), (0, (i : Int)), (0, (j : Int)), (0, s), (0, (l : Int)), (1, (149 + 2 * (i : Int))), (3, 0), (3, 0)] [(1, (149 + 2 * (j : Int)))] M _)⟩
  refine w_as [(1, 0), (0, (i : Int)), (0, (j : Int)), (0, s), (0, (l : Int)), (1, (149 + 2 * (i : Int))), (1, (149 + 2 * (j : Int))), (3, 0)] hK rfl rfl rfl ?_
  refine w_al hK rfl rfl ?_
  refine w_il hK rfl rfl ?_
  refine w_call [(1, 0), (0, (l : Int))] hK rfl rfl rfl rfl (Or.inr ⟨_, _, _, rfl, by decide, (by decide), rfl⟩) (c_pl l hl) ?_
  rintro _ Mq ⟨rfl, e_⟩
  subst Mq
  refine ⟨(by show (1 : Nat) ≠ 9; decide), (?_ : Wp 198 _ 149 11 [(1, 0), (0, (i : Int)), (0, (j : Int)), (0, s), (0, (l : Int)), (1, (149 + 2 * (i : Int))), (1, (149 + 2 * (j : Int))), (3, 0)] [(1, (149 + 2 * (l : Int)))] M _)⟩
  refine w_as [(1, 0), (0, (i : Int)), (0, (j : Int)), (0, s), (0, (l : Int)), (1, (149 + 2 * (i : Int))), (1, (149 + 2 * (j : Int))), (1, (149 + 2 * (l : Int)))] hK rfl rfl rfl ?_
  refine w_al hK rfl rfl ?_
  refine w_null hK rfl (fun h13 => ?_) (fun h13 => ?_)
  · exfalso; omega
  · refine w_al hK rfl rfl ?_
    refine w_null hK rfl (fun h15 => ?_) (fun h15 => ?_)
    · exfalso; omega
    · refine w_al hK rfl rfl ?_
      refine w_null hK rfl (fun h17 => ?_) (fun h17 => ?_)
      · exfalso; omega
      · refine w_il hK rfl rfl ?_
        refine w_call [(0, s)] hK rfl rfl rfl rfl (Or.inl rfl) (c_side s (by omega) (by omega)) ?_
        rintro _ Mq ⟨rfl, e_⟩
        subst Mq
        refine ⟨by show (0 : Nat) ≠ 9; decide, (?_ : Wp 198 _ 149 20 [(1, 0), (0, (i : Int)), (0, (j : Int)), (0, s), (0, (l : Int)), (1, (149 + 2 * (i : Int))), (1, (149 + 2 * (j : Int))), (1, (149 + 2 * (l : Int)))] [(0, (if s = 0 ∨ s = 1 then 1 else 0))] M _)⟩
        have tI_ := ite01 (s = 0 ∨ s = 1)
        refine w_ne hK rfl (by omega) (by omega) (fun h20 => ?_) (fun h20 => ?_)
        · refine w_al hK rfl rfl ?_
          refine w_pt hK rfl (isPP hi) ?_
          rw [show M (149 + 2 * (i : Int)) 1 = dg (pl i) from C.t ⟨(isPP hi), (hpl i hi).1⟩]
          have tI_ := CS.dI C ⟨(isPP hi), (hpl i hi).1⟩
          refine w_ge hK rfl (by omega) (by omega) (fun h25 => ?_) (fun h25 => ?_)
          · refine w_al hK rfl rfl ?_
            refine w_getr (n := 2) (v := 18) hK rfl rfl (by decide) (by decide) rfl rfl rfl rfl ?_
            refine w_al hK rfl rfl ?_
            refine w_al hK rfl rfl ?_
            refine w_il hK rfl rfl ?_
            refine w_call [(1, 18), (1, (149 + 2 * (i : Int))), (1, (149 + 2 * (j : Int))), (0, s)] hK rfl rfl rfl rfl (Or.inr ⟨_, _, _, rfl, by decide, (by decide), rfl⟩) (c_run C E ⟨(isPP hi), (hpl i hi).1⟩ ⟨(isPP hj), (hpl j hj).1⟩ s hs_ (by omega) (by omega) bi_ bj_) ?_
            rintro _ V132 ⟨P132, u1_, l1_, z1_, n1_, rfl, C132, E132, S132, F132, hEu_, hEb_, hEv_⟩
            rw [← euL_eq hEu_] at hEb_ hEv_
            have eq_ := euL_facts bi_ bj_ hEu_
            refine ⟨by decide, (?_ : Wp 198 _ 149 37 [(1, 0), (0, (i : Int)), (0, (j : Int)), (0, s), (0, (l : Int)), (1, (149 + 2 * (i : Int))), (1, (149 + 2 * (j : Int))), (1, (149 + 2 * (l : Int)))] [] V132 _)⟩
            refine w_al hK rfl rfl ?_
            refine w_getr (n := 2) (v := 18) hK rfl rfl (by decide) (by decide) rfl rfl rfl rfl ?_
            refine w_il hK rfl rfl ?_
            refine w_al hK rfl rfl ?_
            refine w_call [(1, 18), (0, s), (1, (149 + 2 * (l : Int)))] hK rfl rfl rfl rfl (Or.inr ⟨_, _, _, rfl, by decide, (by decide), rfl⟩) (c_dto C132 E132 hEv_.1.1 s (by omega) (isPP hl) (by omega)) ?_
            rintro _ V133 ⟨rfl, C133, S133⟩
            refine ⟨by decide, (?_ : Wp 198 _ 149 42 [(1, 0), (0, (i : Int)), (0, (j : Int)), (0, s), (0, (l : Int)), (1, (149 + 2 * (i : Int))), (1, (149 + 2 * (j : Int))), (1, (149 + 2 * (l : Int)))] [] V133 _)⟩
            refine w_al hK rfl rfl ?_
            refine w_pt hK rfl (isPP hl) ?_
            rw [show V133 (149 + 2 * (l : Int)) 1 = dg (mon s ((euL s (pl i) (pl j)).1)) from C133.t ⟨(isPP hl), pu_eq⟩]
            have tI_ := CS.dI C133 ⟨(isPP hl), pu_eq⟩
            refine w_iret hK rfl rfl ?_
            exact ⟨rfl, ⟨_, u1_, l1_, z1_, C133, (ES.keep E132 (S133 18 (notP rfl))), (PLs.put hpl pu_eq (Bd_mon s hEb_.1.1) (fun q_ hq_ hn_ => ((pu_ne (P := P132) (f := mon s ((euL s (pl i) (pl j)).1)) (show (149 + 2 * (q_ : Int)) ≠ (149 + 2 * (l : Int)) by omega)).trans (F132 (149 + 2 * (q_ : Int)) (by omega))))), (TXs.keep T ((S133 140 (notP rfl)).trans (S132 140 (by decide) (by decide) (notP rfl))) ((S133 141 (notP rfl)).trans (S132 141 (by decide) (by decide) (notP rfl)))), (RWs.keep hR ((S133 0 (notP rfl)).trans (S132 0 (by decide) (by decide) (notP rfl))) ((S133 144 (notP rfl)).trans (S132 144 (by decide) (by decide) (notP rfl)))), (FCs.keep hF ((S133 52 (notP rfl)).trans (S132 52 (by decide) (by decide) (notP rfl))) (fun q_ hq_ => ((pu_ne (P := P132) (f := mon s ((euL s (pl i) (pl j)).1)) (show (68 + 6 * (q_ : Int)) ≠ (149 + 2 * (l : Int)) by omega)).trans (F132 (68 + 6 * (q_ : Int)) (by omega)))))⟩, (fun a h_ => ((S133 a (npC h_)).trans (S132 a (by omega) (by omega) (npC h_))))⟩
          · refine w_al hK rfl rfl ?_
            refine w_pt hK rfl (isPP hj) ?_
            rw [show M (149 + 2 * (j : Int)) 1 = dg (pl j) from C.t ⟨(isPP hj), (hpl j hj).1⟩]
            have tI_ := CS.dI C ⟨(isPP hj), (hpl j hj).1⟩
            refine w_ge hK rfl (by omega) (by omega) (fun h28 => ?_) (fun h28 => ?_)
            · refine w_al hK rfl rfl ?_
              refine w_getr (n := 2) (v := 18) hK rfl rfl (by decide) (by decide) rfl rfl rfl rfl ?_
              refine w_al hK rfl rfl ?_
              refine w_al hK rfl rfl ?_
              refine w_il hK rfl rfl ?_
              refine w_call [(1, 18), (1, (149 + 2 * (i : Int))), (1, (149 + 2 * (j : Int))), (0, s)] hK rfl rfl rfl rfl (Or.inr ⟨_, _, _, rfl, by decide, (by decide), rfl⟩) (c_run C E ⟨(isPP hi), (hpl i hi).1⟩ ⟨(isPP hj), (hpl j hj).1⟩ s hs_ (by omega) (by omega) bi_ bj_) ?_
              rintro _ V134 ⟨P134, u1_, l1_, z1_, n1_, rfl, C134, E134, S134, F134, hEu_, hEb_, hEv_⟩
              rw [← euL_eq hEu_] at hEb_ hEv_
              have eq_ := euL_facts bi_ bj_ hEu_
              refine ⟨by decide, (?_ : Wp 198 _ 149 37 [(1, 0), (0, (i : Int)), (0, (j : Int)), (0, s), (0, (l : Int)), (1, (149 + 2 * (i : Int))), (1, (149 + 2 * (j : Int))), (1, (149 + 2 * (l : Int)))] [] V134 _)⟩
              refine w_al hK rfl rfl ?_
              refine w_getr (n := 2) (v := 18) hK rfl rfl (by decide) (by decide) rfl rfl rfl rfl ?_
              refine w_il hK rfl rfl ?_
              refine w_al hK rfl rfl ?_
              refine w_call [(1, 18), (0, s), (1, (149 + 2 * (l : Int)))] hK rfl rfl rfl rfl (Or.inr ⟨_, _, _, rfl, by decide, (by decide), rfl⟩) (c_dto C134 E134 hEv_.1.1 s (by omega) (isPP hl) (by omega)) ?_
              rintro _ V135 ⟨rfl, C135, S135⟩
              refine ⟨by decide, (?_ : Wp 198 _ 149 42 [(1, 0), (0, (i : Int)), (0, (j : Int)), (0, s), (0, (l : Int)), (1, (149 + 2 * (i : Int))), (1, (149 + 2 * (j : Int))), (1, (149 + 2 * (l : Int)))] [] V135 _)⟩
              refine w_al hK rfl rfl ?_
              refine w_pt hK rfl (isPP hl) ?_
              rw [show V135 (149 + 2 * (l : Int)) 1 = dg (mon s ((euL s (pl i) (pl j)).1)) from C135.t ⟨(isPP hl), pu_eq⟩]
              have tI_ := CS.dI C135 ⟨(isPP hl), pu_eq⟩
              refine w_iret hK rfl rfl ?_
              exact ⟨rfl, ⟨_, u1_, l1_, z1_, C135, (ES.keep E134 (S135 18 (notP rfl))), (PLs.put hpl pu_eq (Bd_mon s hEb_.1.1) (fun q_ hq_ hn_ => ((pu_ne (P := P134) (f := mon s ((euL s (pl i) (pl j)).1)) (show (149 + 2 * (q_ : Int)) ≠ (149 + 2 * (l : Int)) by omega)).trans (F134 (149 + 2 * (q_ : Int)) (by omega))))), (TXs.keep T ((S135 140 (notP rfl)).trans (S134 140 (by decide) (by decide) (notP rfl))) ((S135 141 (notP rfl)).trans (S134 141 (by decide) (by decide) (notP rfl)))), (RWs.keep hR ((S135 0 (notP rfl)).trans (S134 0 (by decide) (by decide) (notP rfl))) ((S135 144 (notP rfl)).trans (S134 144 (by decide) (by decide) (notP rfl)))), (FCs.keep hF ((S135 52 (notP rfl)).trans (S134 52 (by decide) (by decide) (notP rfl))) (fun q_ hq_ => ((pu_ne (P := P134) (f := mon s ((euL s (pl i) (pl j)).1)) (show (68 + 6 * (q_ : Int)) ≠ (149 + 2 * (l : Int)) by omega)).trans (F134 (68 + 6 * (q_ : Int)) (by omega)))))⟩, (fun a h_ => ((S135 a (npC h_)).trans (S134 a (by omega) (by omega) (npC h_))))⟩
            · exfalso; omega
        · exfalso; omega
set_option maxRecDepth 100000 in
theorem z_divisor {d : Nat} {M : Mem} {k : Nat} {pl : Nat → Pl k} {n : Int} {tx : Int → Int} {rc : Nat} {rw : Int → Int} {fc : Nat} {fa : Nat → Pl k} (H : CLS M k pl n tx rc rw fc fa) (i : Nat) (hi : i < 6) (j : Nat) (hj : j < 6) (l : Nat) (hl : l < 6) (s : Int) (hs_ : s = 0 ∨ s = 1) (h0_ : dg (pl i) < 0 ∧ dg (pl j) < 0) : Ct 198 (d + 8) 149 [(1, 0), (0, (i : Int)), (0, (j : Int)), (0, s), (0, (l : Int))] M (fun r_ M' => r_ = (0, -2) ∧ M' = M) := by
  have hK : cd 149 = k149 := rfl
  obtain ⟨P, u_, l_, z_, C, E, hpl, T, hR, hF⟩ := H
  have q1_ := qq_I k
  have p1_ := pp_I k
  have m1_ := mm_I k
  have bi_ := (hpl i hi).2
  have di_ := dg_lt9 bi_
  have bj_ := (hpl j hj).2
  have dj_ := dg_lt9 bj_
  have bl_ := (hpl l hl).2
  have dl_ := dg_lt9 bl_
  show Wp 198 _ 149 0 [(1, 0), (0, (i : Int)), (0, (j : Int)), (0, s), (0, (l : Int)), (3, 0), (3, 0), (3, 0)] [] M _
  refine w_al hK rfl rfl ?_
  refine w_il hK rfl rfl ?_
  refine w_call [(1, 0), (0, (i : Int))] hK rfl rfl rfl rfl (Or.inr ⟨_, _, _, rfl, by decide, (by decide), rfl⟩) (c_pl i hi) ?_
  rintro _ Mq ⟨rfl, e_⟩
  subst Mq
  refine ⟨(by show (1 : Nat) ≠ 9; decide), (?_ : Wp 198 _ 149 3 [(1, 0), (0, (i : Int)), (0, (j : Int)), (0, s), (0, (l : Int)), (3, 0), (3, 0), (3, 0)] [(1, (149 + 2 * (i : Int)))] M _)⟩
  refine w_as [(1, 0), (0, (i : Int)), (0, (j : Int)), (0, s), (0, (l : Int)), (1, (149 + 2 * (i : Int))), (3, 0), (3, 0)] hK rfl rfl rfl ?_
  refine w_al hK rfl rfl ?_
  refine w_il hK rfl rfl ?_
  refine w_call [(1, 0), (0, (j : Int))] hK rfl rfl rfl rfl (Or.inr ⟨_, _, _, rfl, by decide, (by decide), rfl⟩) (c_pl j hj) ?_
  rintro _ Mq ⟨rfl, e_⟩
  subst Mq
  refine ⟨(by show (1 : Nat) ≠ 9; decide), (?_ : Wp 198 _ 149 7 [(1, 0), (0, (i : Int)), (0, (j : Int)), (0, s), (0, (l : Int)), (1, (149 + 2 * (i : Int))), (3, 0), (3, 0)] [(1, (149 + 2 * (j : Int)))] M _)⟩
  refine w_as [(1, 0), (0, (i : Int)), (0, (j : Int)), (0, s), (0, (l : Int)), (1, (149 + 2 * (i : Int))), (1, (149 + 2 * (j : Int))), (3, 0)] hK rfl rfl rfl ?_
  refine w_al hK rfl rfl ?_
  refine w_il hK rfl rfl ?_
  refine w_call [(1, 0), (0, (l : Int))] hK rfl rfl rfl rfl (Or.inr ⟨_, _, _, rfl, by decide, (by decide), rfl⟩) (c_pl l hl) ?_
  rintro _ Mq ⟨rfl, e_⟩
  subst Mq
  refine ⟨(by show (1 : Nat) ≠ 9; decide), (?_ : Wp 198 _ 149 11 [(1, 0), (0, (i : Int)), (0, (j : Int)), (0, s), (0, (l : Int)), (1, (149 + 2 * (i : Int))), (1, (149 + 2 * (j : Int))), (3, 0)] [(1, (149 + 2 * (l : Int)))] M _)⟩
  refine w_as [(1, 0), (0, (i : Int)), (0, (j : Int)), (0, s), (0, (l : Int)), (1, (149 + 2 * (i : Int))), (1, (149 + 2 * (j : Int))), (1, (149 + 2 * (l : Int)))] hK rfl rfl rfl ?_
  refine w_al hK rfl rfl ?_
  refine w_null hK rfl (fun h13 => ?_) (fun h13 => ?_)
  · exfalso; omega
  · refine w_al hK rfl rfl ?_
    refine w_null hK rfl (fun h15 => ?_) (fun h15 => ?_)
    · exfalso; omega
    · refine w_al hK rfl rfl ?_
      refine w_null hK rfl (fun h17 => ?_) (fun h17 => ?_)
      · exfalso; omega
      · refine w_il hK rfl rfl ?_
        refine w_call [(0, s)] hK rfl rfl rfl rfl (Or.inl rfl) (c_side s (by omega) (by omega)) ?_
        rintro _ Mq ⟨rfl, e_⟩
        subst Mq
        refine ⟨by show (0 : Nat) ≠ 9; decide, (?_ : Wp 198 _ 149 20 [(1, 0), (0, (i : Int)), (0, (j : Int)), (0, s), (0, (l : Int)), (1, (149 + 2 * (i : Int))), (1, (149 + 2 * (j : Int))), (1, (149 + 2 * (l : Int)))] [(0, (if s = 0 ∨ s = 1 then 1 else 0))] M _)⟩
        have tI_ := ite01 (s = 0 ∨ s = 1)
        refine w_ne hK rfl (by omega) (by omega) (fun h20 => ?_) (fun h20 => ?_)
        · refine w_al hK rfl rfl ?_
          refine w_pt hK rfl (isPP hi) ?_
          rw [show M (149 + 2 * (i : Int)) 1 = dg (pl i) from C.t ⟨(isPP hi), (hpl i hi).1⟩]
          have tI_ := CS.dI C ⟨(isPP hi), (hpl i hi).1⟩
          refine w_ge hK rfl (by omega) (by omega) (fun h25 => ?_) (fun h25 => ?_)
          · exfalso; omega
          · refine w_al hK rfl rfl ?_
            refine w_pt hK rfl (isPP hj) ?_
            rw [show M (149 + 2 * (j : Int)) 1 = dg (pl j) from C.t ⟨(isPP hj), (hpl j hj).1⟩]
            have tI_ := CS.dI C ⟨(isPP hj), (hpl j hj).1⟩
            refine w_ge hK rfl (by omega) (by omega) (fun h28 => ?_) (fun h28 => ?_)
            · exfalso; omega
            · refine w_ic hK rfl ?_
              refine w_iret hK rfl rfl ?_
              exact ⟨rfl, rfl⟩
        · exfalso; omega
set_option maxRecDepth 100000 in
theorem n_divisor {d : Nat} {M : Mem} {k : Nat} {pl : Nat → Pl k} {n : Int} {tx : Int → Int} {rc : Nat} {rw : Int → Int} {fc : Nat} {fa : Nat → Pl k} (H : CLS M k pl n tx rc rw fc fa) (i j s l : Int) (i1_ : -2147483648 ≤ i) (i2_ : i ≤ 2147483647) (j1_ : -2147483648 ≤ j) (j2_ : j ≤ 2147483647) (s1_ : -2147483648 ≤ s) (s2_ : s ≤ 2147483647) (l1_ : -2147483648 ≤ l) (l2_ : l ≤ 2147483647) (hn : ¬ ((0 ≤ i ∧ i < 6) ∧ (0 ≤ j ∧ j < 6) ∧ (0 ≤ l ∧ l < 6) ∧ (s = 0 ∨ s = 1))) : Ct 198 (d + 8) 149 [(1, 0), (0, i), (0, j), (0, s), (0, l)] M (fun r_ M' => r_ = (0, -1) ∧ M' = M) := by
  have hK : cd 149 = k149 := rfl
  obtain ⟨P, u_, l_, z_, C, E, hpl, T, hR, hF⟩ := H
  have q1_ := qq_I k
  have p1_ := pp_I k
  have m1_ := mm_I k
  show Wp 198 _ 149 0 [(1, 0), (0, i), (0, j), (0, s), (0, l), (3, 0), (3, 0), (3, 0)] [] M _
  refine w_al hK rfl rfl ?_
  refine w_il hK rfl rfl ?_
  refine w_call [(1, 0), (0, i)] hK rfl rfl rfl rfl (Or.inr ⟨_, _, _, rfl, by decide, (by decide), rfl⟩) (c_plI i (by omega) (by omega)) ?_
  rintro _ Mq ⟨rfl, e_⟩
  subst Mq
  have pI_ := plr_I i
  refine ⟨(by show (1 : Nat) ≠ 9; decide), (?_ : Wp 198 _ 149 3 [(1, 0), (0, i), (0, j), (0, s), (0, l), (3, 0), (3, 0), (3, 0)] [(1, (plr i))] M _)⟩
  refine w_as [(1, 0), (0, i), (0, j), (0, s), (0, l), (1, (plr i)), (3, 0), (3, 0)] hK rfl rfl rfl ?_
  refine w_al hK rfl rfl ?_
  refine w_il hK rfl rfl ?_
  refine w_call [(1, 0), (0, j)] hK rfl rfl rfl rfl (Or.inr ⟨_, _, _, rfl, by decide, (by decide), rfl⟩) (c_plI j (by omega) (by omega)) ?_
  rintro _ Mq ⟨rfl, e_⟩
  subst Mq
  have pI_ := plr_I j
  refine ⟨(by show (1 : Nat) ≠ 9; decide), (?_ : Wp 198 _ 149 7 [(1, 0), (0, i), (0, j), (0, s), (0, l), (1, (plr i)), (3, 0), (3, 0)] [(1, (plr j))] M _)⟩
  refine w_as [(1, 0), (0, i), (0, j), (0, s), (0, l), (1, (plr i)), (1, (plr j)), (3, 0)] hK rfl rfl rfl ?_
  refine w_al hK rfl rfl ?_
  refine w_il hK rfl rfl ?_
  refine w_call [(1, 0), (0, l)] hK rfl rfl rfl rfl (Or.inr ⟨_, _, _, rfl, by decide, (by decide), rfl⟩) (c_plI l (by omega) (by omega)) ?_
  rintro _ Mq ⟨rfl, e_⟩
  subst Mq
  have pI_ := plr_I l
  refine ⟨(by show (1 : Nat) ≠ 9; decide), (?_ : Wp 198 _ 149 11 [(1, 0), (0, i), (0, j), (0, s), (0, l), (1, (plr i)), (1, (plr j)), (3, 0)] [(1, (plr l))] M _)⟩
  refine w_as [(1, 0), (0, i), (0, j), (0, s), (0, l), (1, (plr i)), (1, (plr j)), (1, (plr l))] hK rfl rfl rfl ?_
  refine w_al hK rfl rfl ?_
  refine w_null hK rfl (fun h13 => ?_) (fun h13 => ?_)
  · refine w_ic hK rfl ?_
    refine w_iret hK rfl rfl ?_
    exact ⟨rfl, rfl⟩
  · refine w_al hK rfl rfl ?_
    refine w_null hK rfl (fun h15 => ?_) (fun h15 => ?_)
    · refine w_ic hK rfl ?_
      refine w_iret hK rfl rfl ?_
      exact ⟨rfl, rfl⟩
    · refine w_al hK rfl rfl ?_
      refine w_null hK rfl (fun h17 => ?_) (fun h17 => ?_)
      · refine w_ic hK rfl ?_
        refine w_iret hK rfl rfl ?_
        exact ⟨rfl, rfl⟩
      · refine w_il hK rfl rfl ?_
        refine w_call [(0, s)] hK rfl rfl rfl rfl (Or.inl rfl) (c_side s (by omega) (by omega)) ?_
        rintro _ Mq ⟨rfl, e_⟩
        subst Mq
        refine ⟨by show (0 : Nat) ≠ 9; decide, (?_ : Wp 198 _ 149 20 [(1, 0), (0, i), (0, j), (0, s), (0, l), (1, (plr i)), (1, (plr j)), (1, (plr l))] [(0, (if s = 0 ∨ s = 1 then 1 else 0))] M _)⟩
        have tI_ := ite01 (s = 0 ∨ s = 1)
        refine w_ne hK rfl (by omega) (by omega) (fun h20 => ?_) (fun h20 => ?_)
        · exfalso; omega
        · refine w_ic hK rfl ?_
          refine w_iret hK rfl rfl ?_
          exact ⟨rfl, rfl⟩
set_option maxRecDepth 100000 in
theorem o_multiple {d : Nat} {M : Mem} {k : Nat} {pl : Nat → Pl k} {n : Int} {tx : Int → Int} {rc : Nat} {rw : Int → Int} {fc : Nat} {fa : Nat → Pl k} (H : CLS M k pl n tx rc rw fc fa) (i : Nat) (hi : i < 6) (j : Nat) (hj : j < 6) (l : Nat) (hl : l < 6) (s : Int) (hs_ : s = 0 ∨ s = 1) (hi0 : 0 ≤ dg (pl i)) (hj0 : 0 ≤ dg (pl j)) : Ct 198 (d + 8) 150 [(1, 0), (0, (i : Int)), (0, (j : Int)), (0, s), (0, (l : Int))] M (fun r_ M' => r_ = (0, (if 8 < dg (mon s (prd s (euL s (pl i) (pl j)).2.2.2.1 (pl i))) then -3 else dg (mon s (prd s (euL s (pl i) (pl j)).2.2.2.1 (pl i))))) ∧ CLS M' k (if 8 < dg (mon s (prd s (euL s (pl i) (pl j)).2.2.2.1 (pl i))) then pl else fup pl l (mon s (prd s (euL s (pl i) (pl j)).2.2.2.1 (pl i)))) n tx rc rw fc fa ∧ (∀ a : Int, (a < 0 ∨ 160 < a) → M' a = M a)) := by
  have hK : cd 150 = k150 := rfl
  obtain ⟨P, u_, l_, z_, C, E, hpl, T, hR, hF⟩ := H
  have q1_ := qq_I k
  have p1_ := pp_I k
  have m1_ := mm_I k
  have bi_ := (hpl i hi).2
  have di_ := dg_lt9 bi_
  have bj_ := (hpl j hj).2
  have dj_ := dg_lt9 bj_
  have bl_ := (hpl l hl).2
  have dl_ := dg_lt9 bl_
  show Wp 198 _ 150 0 [(1, 0), (0, (i : Int)), (0, (j : Int)), (0, s), (0, (l : Int)), (3, 0), (3, 0), (3, 0)] [] M _
  refine w_al hK rfl rfl ?_
  refine w_il hK rfl rfl ?_
  refine w_call [(1, 0), (0, (i : Int))] hK rfl rfl rfl rfl (Or.inr ⟨_, _, _, rfl, by decide, (by decide), rfl⟩) (c_pl i hi) ?_
  rintro _ Mq ⟨rfl, e_⟩
  subst Mq
  refine ⟨(by show (1 : Nat) ≠ 9; decide), (?_ : Wp 198 _ 150 3 [(1, 0), (0, (i : Int)), (0, (j : Int)), (0, s), (0, (l : Int)), (3, 0), (3, 0), (3, 0)] [(1, (149 + 2 * (i : Int)))] M _)⟩
  refine w_as [(1, 0), (0, (i : Int)), (0, (j : Int)), (0, s), (0, (l : Int)), (1, (149 + 2 * (i : Int))), (3, 0), (3, 0)] hK rfl rfl rfl ?_
  refine w_al hK rfl rfl ?_
  refine w_il hK rfl rfl ?_
  refine w_call [(1, 0), (0, (j : Int))] hK rfl rfl rfl rfl (Or.inr ⟨_, _, _, rfl, by decide, (by decide), rfl⟩) (c_pl j hj) ?_
  rintro _ Mq ⟨rfl, e_⟩
  subst Mq
  refine ⟨(by show (1 : Nat) ≠ 9; decide), (?_ : Wp 198 _ 150 7 [(1, 0), (0, (i : Int)), (0, (j : Int)), (0, s), (0, (l : Int)), (1, (149 + 2 * (i : Int))), (3, 0), (3, 0)] [(1, (149 + 2 * (j : Int)))] M _)⟩
  refine w_as [(1, 0), (0, (i : Int)), (0, (j : Int)), (0, s), (0, (l : Int)), (1, (149 + 2 * (i : Int))), (1, (149 + 2 * (j : Int))), (3, 0)] hK rfl rfl rfl ?_
  refine w_al hK rfl rfl ?_
  refine w_il hK rfl rfl ?_
  refine w_call [(1, 0), (0, (l : Int))] hK rfl rfl rfl rfl (Or.inr ⟨_, _, _, rfl, by decide, (by decide), rfl⟩) (c_pl l hl) ?_
  rintro _ Mq ⟨rfl, e_⟩
  subst Mq
  refine ⟨(by show (1 : Nat) ≠ 9; decide), (?_ : Wp 198 _ 150 11 [(1, 0), (0, (i : Int)), (0, (j : Int)), (0, s), (0, (l : Int)), (1, (149 + 2 * (i : Int))), (1, (149 + 2 * (j : Int))), (3, 0)] [(1, (149 + 2 * (l : Int)))] M _)⟩
  refine w_as [(1, 0), (0, (i : Int)), (0, (j : Int)), (0, s), (0, (l : Int)), (1, (149 + 2 * (i : Int))), (1, (149 + 2 * (j : Int))), (1, (149 + 2 * (l : Int)))] hK rfl rfl rfl ?_
  refine w_al hK rfl rfl ?_
  refine w_null hK rfl (fun h13 => ?_) (fun h13 => ?_)
  · exfalso; omega
  · refine w_al hK rfl rfl ?_
    refine w_null hK rfl (fun h15 => ?_) (fun h15 => ?_)
    · exfalso; omega
    · refine w_al hK rfl rfl ?_
      refine w_null hK rfl (fun h17 => ?_) (fun h17 => ?_)
      · exfalso; omega
      · refine w_il hK rfl rfl ?_
        refine w_call [(0, s)] hK rfl rfl rfl rfl (Or.inl rfl) (c_side s (by omega) (by omega)) ?_
        rintro _ Mq ⟨rfl, e_⟩
        subst Mq
        refine ⟨by show (0 : Nat) ≠ 9; decide, (?_ : Wp 198 _ 150 20 [(1, 0), (0, (i : Int)), (0, (j : Int)), (0, s), (0, (l : Int)), (1, (149 + 2 * (i : Int))), (1, (149 + 2 * (j : Int))), (1, (149 + 2 * (l : Int)))] [(0, (if s = 0 ∨ s = 1 then 1 else 0))] M _)⟩
        have tI_ := ite01 (s = 0 ∨ s = 1)
        refine w_ne hK rfl (by omega) (by omega) (fun h20 => ?_) (fun h20 => ?_)
        · refine w_al hK rfl rfl ?_
          refine w_pt hK rfl (isPP hi) ?_
          rw [show M (149 + 2 * (i : Int)) 1 = dg (pl i) from C.t ⟨(isPP hi), (hpl i hi).1⟩]
          have tI_ := CS.dI C ⟨(isPP hi), (hpl i hi).1⟩
          refine w_lt hK rfl (by omega) (by omega) (fun h25 => ?_) (fun h25 => ?_)
          · exfalso; omega
          · refine w_al hK rfl rfl ?_
            refine w_pt hK rfl (isPP hj) ?_
            rw [show M (149 + 2 * (j : Int)) 1 = dg (pl j) from C.t ⟨(isPP hj), (hpl j hj).1⟩]
            have tI_ := CS.dI C ⟨(isPP hj), (hpl j hj).1⟩
            refine w_ge hK rfl (by omega) (by omega) (fun h28 => ?_) (fun h28 => ?_)
            · refine w_al hK rfl rfl ?_
              refine w_getr (n := 2) (v := 18) hK rfl rfl (by decide) (by decide) rfl rfl rfl rfl ?_
              refine w_al hK rfl rfl ?_
              refine w_al hK rfl rfl ?_
              refine w_il hK rfl rfl ?_
              refine w_call [(1, 18), (1, (149 + 2 * (i : Int))), (1, (149 + 2 * (j : Int))), (0, s)] hK rfl rfl rfl rfl (Or.inr ⟨_, _, _, rfl, by decide, (by decide), rfl⟩) (c_run C E ⟨(isPP hi), (hpl i hi).1⟩ ⟨(isPP hj), (hpl j hj).1⟩ s hs_ (by omega) (by omega) bi_ bj_) ?_
              rintro _ V136 ⟨P136, u1_, l1_, z1_, n1_, rfl, C136, E136, S136, F136, hEu_, hEb_, hEv_⟩
              rw [← euL_eq hEu_] at hEb_ hEv_
              have eq_ := euL_facts bi_ bj_ hEu_
              refine ⟨by decide, (?_ : Wp 198 _ 150 37 [(1, 0), (0, (i : Int)), (0, (j : Int)), (0, s), (0, (l : Int)), (1, (149 + 2 * (i : Int))), (1, (149 + 2 * (j : Int))), (1, (149 + 2 * (l : Int)))] [] V136 _)⟩
              refine w_al hK rfl rfl ?_
              refine w_getr (n := 2) (v := 18) hK rfl rfl (by decide) (by decide) rfl rfl rfl rfl ?_
              refine w_al hK rfl rfl ?_
              refine w_il hK rfl rfl ?_
              refine w_al hK rfl rfl ?_
              refine w_getr (n := 12) (v := 145) hK rfl rfl (by decide) (by decide) rfl rfl rfl rfl ?_
              have ez_ := eq_.2.2.2 (Or.inl (fun q => by rw [q, dg_pz] at hi0; omega))
              have ed_ := hEb_.2.2.1.1
              refine w_call [(1, 18), (1, (149 + 2 * (i : Int))), (0, s), (1, 145)] hK rfl rfl rfl rfl (Or.inr ⟨_, _, _, rfl, by decide, (by decide), rfl⟩) (c_mto C136 E136 hEv_.2.1.2 ⟨(isPP hi), ((F136 (149 + 2 * (i : Int)) (by omega)).trans (hpl i hi).1)⟩ s (by omega) (isP_of (p := 145) rfl) (by omega) (by omega) (by omega)) ?_
              rintro _ V137 ⟨rfl, C137, S137⟩
              refine ⟨by decide, (?_ : Wp 198 _ 150 44 [(1, 0), (0, (i : Int)), (0, (j : Int)), (0, s), (0, (l : Int)), (1, (149 + 2 * (i : Int))), (1, (149 + 2 * (j : Int))), (1, (149 + 2 * (l : Int)))] [] V137 _)⟩
              refine w_al hK rfl rfl ?_
              refine w_getr (n := 12) (v := 145) hK rfl rfl (by decide) (by decide) rfl rfl rfl rfl ?_
              refine w_al hK rfl rfl ?_
              refine w_call [(1, 145), (1, (149 + 2 * (l : Int)))] hK rfl rfl rfl rfl (Or.inl rfl) (c_keep C137 ⟨(isP_of (p := 145) rfl), pu_eq⟩ (isPP hl) (by omega)) ?_
              rintro _ V138 (⟨g_, rfl, e_⟩ | ⟨g_, rfl, C138, S138⟩)
              · subst V138
                refine ⟨by decide, (?_ : Wp 198 _ 150 48 [(1, 0), (0, (i : Int)), (0, (j : Int)), (0, s), (0, (l : Int)), (1, (149 + 2 * (i : Int))), (1, (149 + 2 * (j : Int))), (1, (149 + 2 * (l : Int)))] [(0, (-3))] V137 _)⟩
                refine w_iret hK rfl rfl ?_
                rw [if_pos g_, if_pos g_]
                exact ⟨rfl, ⟨_, u1_, l1_, z1_, C137, (ES.keep E136 (S137 18 (notP rfl))), (PLs.keep hpl (fun q_ hq_ => ((pu_ne (P := pu P136 8 (prd s ((euL s (pl i) (pl j)).2.2.2.1) (pl i))) (f := mon s (prd s ((euL s (pl i) (pl j)).2.2.2.1) (pl i))) (show (149 + 2 * (q_ : Int)) ≠ 145 by omega)).trans ((pu_ne (P := P136) (f := prd s ((euL s (pl i) (pl j)).2.2.2.1) (pl i)) (show (149 + 2 * (q_ : Int)) ≠ 8 by omega)).trans (F136 (149 + 2 * (q_ : Int)) (by omega)))))), (TXs.keep T ((S137 140 (notP rfl)).trans (S136 140 (by decide) (by decide) (notP rfl))) ((S137 141 (notP rfl)).trans (S136 141 (by decide) (by decide) (notP rfl)))), (RWs.keep hR ((S137 0 (notP rfl)).trans (S136 0 (by decide) (by decide) (notP rfl))) ((S137 144 (notP rfl)).trans (S136 144 (by decide) (by decide) (notP rfl)))), (FCs.keep hF ((S137 52 (notP rfl)).trans (S136 52 (by decide) (by decide) (notP rfl))) (fun q_ hq_ => ((pu_ne (P := pu P136 8 (prd s ((euL s (pl i) (pl j)).2.2.2.1) (pl i))) (f := mon s (prd s ((euL s (pl i) (pl j)).2.2.2.1) (pl i))) (show (68 + 6 * (q_ : Int)) ≠ 145 by omega)).trans ((pu_ne (P := P136) (f := prd s ((euL s (pl i) (pl j)).2.2.2.1) (pl i)) (show (68 + 6 * (q_ : Int)) ≠ 8 by omega)).trans (F136 (68 + 6 * (q_ : Int)) (by omega))))))⟩, (fun a h_ => ((S137 a (npC h_)).trans (S136 a (by omega) (by omega) (npC h_))))⟩
              · refine ⟨(by show (0 : Nat) ≠ 9; decide), (?_ : Wp 198 _ 150 48 [(1, 0), (0, (i : Int)), (0, (j : Int)), (0, s), (0, (l : Int)), (1, (149 + 2 * (i : Int))), (1, (149 + 2 * (j : Int))), (1, (149 + 2 * (l : Int)))] [(0, (dg (mon s (prd s ((euL s (pl i) (pl j)).2.2.2.1) (pl i)))))] V138 _)⟩
                refine w_iret hK rfl rfl ?_
                rw [if_neg (show ¬ 8 < dg (mon s (prd s (euL s (pl i) (pl j)).2.2.2.1 (pl i))) by omega), if_neg (show ¬ 8 < dg (mon s (prd s (euL s (pl i) (pl j)).2.2.2.1 (pl i))) by omega)]
                exact ⟨rfl, ⟨_, u1_, l1_, z1_, C138, (ES.keep E136 ((S138 18 (notP rfl)).trans (S137 18 (notP rfl)))), (PLs.put hpl pu_eq (Bd9.of (CS.bd C138 ⟨isPP hl, pu_eq⟩) g_) (fun q_ hq_ hn_ => ((pu_ne (P := pu (pu P136 8 (prd s ((euL s (pl i) (pl j)).2.2.2.1) (pl i))) 145 (mon s (prd s ((euL s (pl i) (pl j)).2.2.2.1) (pl i)))) (f := mon s (prd s ((euL s (pl i) (pl j)).2.2.2.1) (pl i))) (show (149 + 2 * (q_ : Int)) ≠ (149 + 2 * (l : Int)) by omega)).trans ((pu_ne (P := pu P136 8 (prd s ((euL s (pl i) (pl j)).2.2.2.1) (pl i))) (f := mon s (prd s ((euL s (pl i) (pl j)).2.2.2.1) (pl i))) (show (149 + 2 * (q_ : Int)) ≠ 145 by omega)).trans ((pu_ne (P := P136) (f := prd s ((euL s (pl i) (pl j)).2.2.2.1) (pl i)) (show (149 + 2 * (q_ : Int)) ≠ 8 by omega)).trans (F136 (149 + 2 * (q_ : Int)) (by omega))))))), (TXs.keep T ((S138 140 (notP rfl)).trans ((S137 140 (notP rfl)).trans (S136 140 (by decide) (by decide) (notP rfl)))) ((S138 141 (notP rfl)).trans ((S137 141 (notP rfl)).trans (S136 141 (by decide) (by decide) (notP rfl))))), (RWs.keep hR ((S138 0 (notP rfl)).trans ((S137 0 (notP rfl)).trans (S136 0 (by decide) (by decide) (notP rfl)))) ((S138 144 (notP rfl)).trans ((S137 144 (notP rfl)).trans (S136 144 (by decide) (by decide) (notP rfl))))), (FCs.keep hF ((S138 52 (notP rfl)).trans ((S137 52 (notP rfl)).trans (S136 52 (by decide) (by decide) (notP rfl)))) (fun q_ hq_ => ((pu_ne (P := pu (pu P136 8 (prd s ((euL s (pl i) (pl j)).2.2.2.1) (pl i))) 145 (mon s (prd s ((euL s (pl i) (pl j)).2.2.2.1) (pl i)))) (f := mon s (prd s ((euL s (pl i) (pl j)).2.2.2.1) (pl i))) (show (68 + 6 * (q_ : Int)) ≠ (149 + 2 * (l : Int)) by omega)).trans ((pu_ne (P := pu P136 8 (prd s ((euL s (pl i) (pl j)).2.2.2.1) (pl i))) (f := mon s (prd s ((euL s (pl i) (pl j)).2.2.2.1) (pl i))) (show (68 + 6 * (q_ : Int)) ≠ 145 by omega)).trans ((pu_ne (P := P136) (f := prd s ((euL s (pl i) (pl j)).2.2.2.1) (pl i)) (show (68 + 6 * (q_ : Int)) ≠ 8 by omega)).trans (F136 (68 + 6 * (q_ : Int)) (by omega)))))))⟩, (fun a h_ => ((S138 a (npC h_)).trans ((S137 a (npC h_)).trans (S136 a (by omega) (by omega) (npC h_)))))⟩
            · exfalso; omega
        · exfalso; omega
set_option maxRecDepth 100000 in
theorem z_multiple {d : Nat} {M : Mem} {k : Nat} {pl : Nat → Pl k} {n : Int} {tx : Int → Int} {rc : Nat} {rw : Int → Int} {fc : Nat} {fa : Nat → Pl k} (H : CLS M k pl n tx rc rw fc fa) (i : Nat) (hi : i < 6) (j : Nat) (hj : j < 6) (l : Nat) (hl : l < 6) (s : Int) (hs_ : s = 0 ∨ s = 1) (h0_ : dg (pl i) < 0 ∨ dg (pl j) < 0) : Ct 198 (d + 8) 150 [(1, 0), (0, (i : Int)), (0, (j : Int)), (0, s), (0, (l : Int))] M (fun r_ M' => r_ = (0, -2) ∧ M' = M) := by
  have hK : cd 150 = k150 := rfl
  obtain ⟨P, u_, l_, z_, C, E, hpl, T, hR, hF⟩ := H
  have q1_ := qq_I k
  have p1_ := pp_I k
  have m1_ := mm_I k
  have bi_ := (hpl i hi).2
  have di_ := dg_lt9 bi_
  have bj_ := (hpl j hj).2
  have dj_ := dg_lt9 bj_
  have bl_ := (hpl l hl).2
  have dl_ := dg_lt9 bl_
  show Wp 198 _ 150 0 [(1, 0), (0, (i : Int)), (0, (j : Int)), (0, s), (0, (l : Int)), (3, 0), (3, 0), (3, 0)] [] M _
  refine w_al hK rfl rfl ?_
  refine w_il hK rfl rfl ?_
  refine w_call [(1, 0), (0, (i : Int))] hK rfl rfl rfl rfl (Or.inr ⟨_, _, _, rfl, by decide, (by decide), rfl⟩) (c_pl i hi) ?_
  rintro _ Mq ⟨rfl, e_⟩
  subst Mq
  refine ⟨(by show (1 : Nat) ≠ 9; decide), (?_ : Wp 198 _ 150 3 [(1, 0), (0, (i : Int)), (0, (j : Int)), (0, s), (0, (l : Int)), (3, 0), (3, 0), (3, 0)] [(1, (149 + 2 * (i : Int)))] M _)⟩
  refine w_as [(1, 0), (0, (i : Int)), (0, (j : Int)), (0, s), (0, (l : Int)), (1, (149 + 2 * (i : Int))), (3, 0), (3, 0)] hK rfl rfl rfl ?_
  refine w_al hK rfl rfl ?_
  refine w_il hK rfl rfl ?_
  refine w_call [(1, 0), (0, (j : Int))] hK rfl rfl rfl rfl (Or.inr ⟨_, _, _, rfl, by decide, (by decide), rfl⟩) (c_pl j hj) ?_
  rintro _ Mq ⟨rfl, e_⟩
  subst Mq
  refine ⟨(by show (1 : Nat) ≠ 9; decide), (?_ : Wp 198 _ 150 7 [(1, 0), (0, (i : Int)), (0, (j : Int)), (0, s), (0, (l : Int)), (1, (149 + 2 * (i : Int))), (3, 0), (3, 0)] [(1, (149 + 2 * (j : Int)))] M _)⟩
  refine w_as [(1, 0), (0, (i : Int)), (0, (j : Int)), (0, s), (0, (l : Int)), (1, (149 + 2 * (i : Int))), (1, (149 + 2 * (j : Int))), (3, 0)] hK rfl rfl rfl ?_
  refine w_al hK rfl rfl ?_
  refine w_il hK rfl rfl ?_
  refine w_call [(1, 0), (0, (l : Int))] hK rfl rfl rfl rfl (Or.inr ⟨_, _, _, rfl, by decide, (by decide), rfl⟩) (c_pl l hl) ?_
  rintro _ Mq ⟨rfl, e_⟩
  subst Mq
  refine ⟨(by show (1 : Nat) ≠ 9; decide), (?_ : Wp 198 _ 150 11 [(1, 0), (0, (i : Int)), (0, (j : Int)), (0, s), (0, (l : Int)), (1, (149 + 2 * (i : Int))), (1, (149 + 2 * (j : Int))), (3, 0)] [(1, (149 + 2 * (l : Int)))] M _)⟩
  refine w_as [(1, 0), (0, (i : Int)), (0, (j : Int)), (0, s), (0, (l : Int)), (1, (149 + 2 * (i : Int))), (1, (149 + 2 * (j : Int))), (1, (149 + 2 * (l : Int)))] hK rfl rfl rfl ?_
  refine w_al hK rfl rfl ?_
  refine w_null hK rfl (fun h13 => ?_) (fun h13 => ?_)
  · exfalso; omega
  · refine w_al hK rfl rfl ?_
    refine w_null hK rfl (fun h15 => ?_) (fun h15 => ?_)
    · exfalso; omega
    · refine w_al hK rfl rfl ?_
      refine w_null hK rfl (fun h17 => ?_) (fun h17 => ?_)
      · exfalso; omega
      · refine w_il hK rfl rfl ?_
        refine w_call [(0, s)] hK rfl rfl rfl rfl (Or.inl rfl) (c_side s (by omega) (by omega)) ?_
        rintro _ Mq ⟨rfl, e_⟩
        subst Mq
        refine ⟨by show (0 : Nat) ≠ 9; decide, (?_ : Wp 198 _ 150 20 [(1, 0), (0, (i : Int)), (0, (j : Int)), (0, s), (0, (l : Int)), (1, (149 + 2 * (i : Int))), (1, (149 + 2 * (j : Int))), (1, (149 + 2 * (l : Int)))] [(0, (if s = 0 ∨ s = 1 then 1 else 0))] M _)⟩
        have tI_ := ite01 (s = 0 ∨ s = 1)
        refine w_ne hK rfl (by omega) (by omega) (fun h20 => ?_) (fun h20 => ?_)
        · refine w_al hK rfl rfl ?_
          refine w_pt hK rfl (isPP hi) ?_
          rw [show M (149 + 2 * (i : Int)) 1 = dg (pl i) from C.t ⟨(isPP hi), (hpl i hi).1⟩]
          have tI_ := CS.dI C ⟨(isPP hi), (hpl i hi).1⟩
          refine w_lt hK rfl (by omega) (by omega) (fun h25 => ?_) (fun h25 => ?_)
          · refine w_ic hK rfl ?_
            refine w_iret hK rfl rfl ?_
            exact ⟨rfl, rfl⟩
          · refine w_al hK rfl rfl ?_
            refine w_pt hK rfl (isPP hj) ?_
            rw [show M (149 + 2 * (j : Int)) 1 = dg (pl j) from C.t ⟨(isPP hj), (hpl j hj).1⟩]
            have tI_ := CS.dI C ⟨(isPP hj), (hpl j hj).1⟩
            refine w_ge hK rfl (by omega) (by omega) (fun h28 => ?_) (fun h28 => ?_)
            · exfalso; omega
            · refine w_ic hK rfl ?_
              refine w_iret hK rfl rfl ?_
              exact ⟨rfl, rfl⟩
        · exfalso; omega
set_option maxRecDepth 100000 in
theorem n_multiple {d : Nat} {M : Mem} {k : Nat} {pl : Nat → Pl k} {n : Int} {tx : Int → Int} {rc : Nat} {rw : Int → Int} {fc : Nat} {fa : Nat → Pl k} (H : CLS M k pl n tx rc rw fc fa) (i j s l : Int) (i1_ : -2147483648 ≤ i) (i2_ : i ≤ 2147483647) (j1_ : -2147483648 ≤ j) (j2_ : j ≤ 2147483647) (s1_ : -2147483648 ≤ s) (s2_ : s ≤ 2147483647) (l1_ : -2147483648 ≤ l) (l2_ : l ≤ 2147483647) (hn : ¬ ((0 ≤ i ∧ i < 6) ∧ (0 ≤ j ∧ j < 6) ∧ (0 ≤ l ∧ l < 6) ∧ (s = 0 ∨ s = 1))) : Ct 198 (d + 8) 150 [(1, 0), (0, i), (0, j), (0, s), (0, l)] M (fun r_ M' => r_ = (0, -1) ∧ M' = M) := by
  have hK : cd 150 = k150 := rfl
  obtain ⟨P, u_, l_, z_, C, E, hpl, T, hR, hF⟩ := H
  have q1_ := qq_I k
  have p1_ := pp_I k
  have m1_ := mm_I k
  show Wp 198 _ 150 0 [(1, 0), (0, i), (0, j), (0, s), (0, l), (3, 0), (3, 0), (3, 0)] [] M _
  refine w_al hK rfl rfl ?_
  refine w_il hK rfl rfl ?_
  refine w_call [(1, 0), (0, i)] hK rfl rfl rfl rfl (Or.inr ⟨_, _, _, rfl, by decide, (by decide), rfl⟩) (c_plI i (by omega) (by omega)) ?_
  rintro _ Mq ⟨rfl, e_⟩
  subst Mq
  have pI_ := plr_I i
  refine ⟨(by show (1 : Nat) ≠ 9; decide), (?_ : Wp 198 _ 150 3 [(1, 0), (0, i), (0, j), (0, s), (0, l), (3, 0), (3, 0), (3, 0)] [(1, (plr i))] M _)⟩
  refine w_as [(1, 0), (0, i), (0, j), (0, s), (0, l), (1, (plr i)), (3, 0), (3, 0)] hK rfl rfl rfl ?_
  refine w_al hK rfl rfl ?_
  refine w_il hK rfl rfl ?_
  refine w_call [(1, 0), (0, j)] hK rfl rfl rfl rfl (Or.inr ⟨_, _, _, rfl, by decide, (by decide), rfl⟩) (c_plI j (by omega) (by omega)) ?_
  rintro _ Mq ⟨rfl, e_⟩
  subst Mq
  have pI_ := plr_I j
  refine ⟨(by show (1 : Nat) ≠ 9; decide), (?_ : Wp 198 _ 150 7 [(1, 0), (0, i), (0, j), (0, s), (0, l), (1, (plr i)), (3, 0), (3, 0)] [(1, (plr j))] M _)⟩
  refine w_as [(1, 0), (0, i), (0, j), (0, s), (0, l), (1, (plr i)), (1, (plr j)), (3, 0)] hK rfl rfl rfl ?_
  refine w_al hK rfl rfl ?_
  refine w_il hK rfl rfl ?_
  refine w_call [(1, 0), (0, l)] hK rfl rfl rfl rfl (Or.inr ⟨_, _, _, rfl, by decide, (by decide), rfl⟩) (c_plI l (by omega) (by omega)) ?_
  rintro _ Mq ⟨rfl, e_⟩
  subst Mq
  have pI_ := plr_I l
  refine ⟨(by show (1 : Nat) ≠ 9; decide), (?_ : Wp 198 _ 150 11 [(1, 0), (0, i), (0, j), (0, s), (0, l), (1, (plr i)), (1, (plr j)), (3, 0)] [(1, (plr l))] M _)⟩
  refine w_as [(1, 0), (0, i), (0, j), (0, s), (0, l), (1, (plr i)), (1, (plr j)), (1, (plr l))] hK rfl rfl rfl ?_
  refine w_al hK rfl rfl ?_
  refine w_null hK rfl (fun h13 => ?_) (fun h13 => ?_)
  · refine w_ic hK rfl ?_
    refine w_iret hK rfl rfl ?_
    exact ⟨rfl, rfl⟩
  · refine w_al hK rfl rfl ?_
    refine w_null hK rfl (fun h15 => ?_) (fun h15 => ?_)
    · refine w_ic hK rfl ?_
      refine w_iret hK rfl rfl ?_
      exact ⟨rfl, rfl⟩
    · refine w_al hK rfl rfl ?_
      refine w_null hK rfl (fun h17 => ?_) (fun h17 => ?_)
      · refine w_ic hK rfl ?_
        refine w_iret hK rfl rfl ?_
        exact ⟨rfl, rfl⟩
      · refine w_il hK rfl rfl ?_
        refine w_call [(0, s)] hK rfl rfl rfl rfl (Or.inl rfl) (c_side s (by omega) (by omega)) ?_
        rintro _ Mq ⟨rfl, e_⟩
        subst Mq
        refine ⟨by show (0 : Nat) ≠ 9; decide, (?_ : Wp 198 _ 150 20 [(1, 0), (0, i), (0, j), (0, s), (0, l), (1, (plr i)), (1, (plr j)), (1, (plr l))] [(0, (if s = 0 ∨ s = 1 then 1 else 0))] M _)⟩
        have tI_ := ite01 (s = 0 ∨ s = 1)
        refine w_ne hK rfl (by omega) (by omega) (fun h20 => ?_) (fun h20 => ?_)
        · exfalso; omega
        · refine w_ic hK rfl ?_
          refine w_iret hK rfl rfl ?_
          exact ⟨rfl, rfl⟩
set_option maxRecDepth 100000 in
theorem o_monic {d : Nat} {M : Mem} {k : Nat} {pl : Nat → Pl k} {n : Int} {tx : Int → Int} {rc : Nat} {rw : Int → Int} {fc : Nat} {fa : Nat → Pl k} (H : CLS M k pl n tx rc rw fc fa) (i : Nat) (hi : i < 6) (hi0 : 0 ≤ dg (pl i)) : Ct 198 (d + 8) 154 [(1, 0), (0, (i : Int))] M (fun r_ M' => r_ = (0, ((ld (pl i)).val : Int)) ∧ CLS M' k (fup pl i (mon 0 (pl i))) n tx rc rw fc fa ∧ (∀ a : Int, (a < 0 ∨ 160 < a) → M' a = M a)) := by
  have hK : cd 154 = k154 := rfl
  obtain ⟨P, u_, l_, z_, C, E, hpl, T, hR, hF⟩ := H
  have q1_ := qq_I k
  have p1_ := pp_I k
  have m1_ := mm_I k
  have bi_ := (hpl i hi).2
  have di_ := dg_lt9 bi_
  have lz_ := ld_nz bi_ (by decide) hi0
  show Wp 198 _ 154 0 [(1, 0), (0, (i : Int)), (3, 0), (3, 0)] [] M _
  refine w_al hK rfl rfl ?_
  refine w_il hK rfl rfl ?_
  refine w_call [(1, 0), (0, (i : Int))] hK rfl rfl rfl rfl (Or.inr ⟨_, _, _, rfl, by decide, (by decide), rfl⟩) (c_pl i hi) ?_
  rintro _ Mq ⟨rfl, e_⟩
  subst Mq
  refine ⟨(by show (1 : Nat) ≠ 9; decide), (?_ : Wp 198 _ 154 3 [(1, 0), (0, (i : Int)), (3, 0), (3, 0)] [(1, (149 + 2 * (i : Int)))] M _)⟩
  refine w_as [(1, 0), (0, (i : Int)), (1, (149 + 2 * (i : Int))), (3, 0)] hK rfl rfl rfl ?_
  refine w_al hK rfl rfl ?_
  refine w_nonnull hK rfl (fun h5 => ?_) (fun h5 => ?_)
  · refine w_al hK rfl rfl ?_
    refine w_call [(1, (149 + 2 * (i : Int)))] hK rfl rfl rfl rfl (Or.inr ⟨_, _, _, rfl, (isPP hi).nn, (isPP hi).lb, (isPP hi).o⟩) (c_ld C ⟨(isPP hi), (hpl i hi).1⟩) ?_
    rintro _ Mq ⟨rfl, e_⟩
    subst Mq
    have bv_ := el_I (ld (pl i))
    refine ⟨by show (0 : Nat) ≠ 9; decide, (?_ : Wp 198 _ 154 10 [(1, 0), (0, (i : Int)), (1, (149 + 2 * (i : Int))), (3, 0)] [(0, ((ld (pl i)).val : Int))] M _)⟩
    refine w_is [(1, 0), (0, (i : Int)), (1, (149 + 2 * (i : Int))), (0, ((ld (pl i)).val : Int))] hK rfl rfl rfl ?_
    refine w_il hK rfl rfl ?_
    refine w_ne hK rfl (by omega) (by omega) (fun h12 => ?_) (fun h12 => ?_)
    · refine w_al hK rfl rfl ?_
      refine w_getr (n := 1) (v := 7) hK rfl rfl (by decide) (by decide) rfl rfl rfl rfl ?_
      refine w_al hK rfl rfl ?_
      refine w_ic hK rfl ?_
      refine w_call [(1, 7), (1, (149 + 2 * (i : Int))), (0, 0)] hK rfl rfl rfl rfl (Or.inr ⟨_, _, _, rfl, by decide, (by decide), rfl⟩) (c_mon C ⟨(isPP hi), (hpl i hi).1⟩ 0 (by omega)) ?_
      rintro _ V139 ⟨rfl, C139, S139⟩
      refine ⟨by decide, (?_ : Wp 198 _ 154 20 [(1, 0), (0, (i : Int)), (1, (149 + 2 * (i : Int))), (0, ((ld (pl i)).val : Int))] [] V139 _)⟩
      refine w_il hK rfl rfl ?_
      refine w_iret hK rfl rfl ?_
      exact ⟨rfl, ⟨_, u_, l_, z_, C139, (ES.keep E (S139 18 (notP rfl))), (PLs.put hpl pu_eq (Bd_mon 0 bi_) (fun q_ hq_ hn_ => (pu_ne (P := P) (f := mon 0 (pl i)) (show (149 + 2 * (q_ : Int)) ≠ (149 + 2 * (i : Int)) by omega)))), (TXs.keep T (S139 140 (notP rfl)) (S139 141 (notP rfl))), (RWs.keep hR (S139 0 (notP rfl)) (S139 144 (notP rfl))), (FCs.keep hF (S139 52 (notP rfl)) (fun q_ hq_ => (pu_ne (P := P) (f := mon 0 (pl i)) (show (68 + 6 * (q_ : Int)) ≠ (149 + 2 * (i : Int)) by omega))))⟩, (fun a h_ => (S139 a (npC h_)))⟩
    · exfalso; omega
  · exfalso; omega
set_option maxRecDepth 100000 in
theorem n_monic {d : Nat} {M : Mem} {k : Nat} {pl : Nat → Pl k} {n : Int} {tx : Int → Int} {rc : Nat} {rw : Int → Int} {fc : Nat} {fa : Nat → Pl k} (H : CLS M k pl n tx rc rw fc fa) (i : Int) (i1_ : -2147483648 ≤ i) (i2_ : i ≤ 2147483647) (hn : ¬ (0 ≤ i ∧ i < 6)) : Ct 198 (d + 8) 154 [(1, 0), (0, i)] M (fun r_ M' => r_ = (0, -1) ∧ M' = M) := by
  have hK : cd 154 = k154 := rfl
  obtain ⟨P, u_, l_, z_, C, E, hpl, T, hR, hF⟩ := H
  have q1_ := qq_I k
  have p1_ := pp_I k
  have m1_ := mm_I k
  show Wp 198 _ 154 0 [(1, 0), (0, i), (3, 0), (3, 0)] [] M _
  refine w_al hK rfl rfl ?_
  refine w_il hK rfl rfl ?_
  refine w_call [(1, 0), (0, i)] hK rfl rfl rfl rfl (Or.inr ⟨_, _, _, rfl, by decide, (by decide), rfl⟩) (c_plI i (by omega) (by omega)) ?_
  rintro _ Mq ⟨rfl, e_⟩
  subst Mq
  have pI_ := plr_I i
  refine ⟨(by show (1 : Nat) ≠ 9; decide), (?_ : Wp 198 _ 154 3 [(1, 0), (0, i), (3, 0), (3, 0)] [(1, (plr i))] M _)⟩
  refine w_as [(1, 0), (0, i), (1, (plr i)), (3, 0)] hK rfl rfl rfl ?_
  refine w_al hK rfl rfl ?_
  refine w_nonnull hK rfl (fun h5 => ?_) (fun h5 => ?_)
  · exfalso; omega
  · refine w_ic hK rfl ?_
    refine w_iret hK rfl rfl ?_
    exact ⟨rfl, rfl⟩
set_option maxRecDepth 100000 in
theorem o_turned {d : Nat} {M : Mem} {k : Nat} {pl : Nat → Pl k} {n : Int} {tx : Int → Int} {rc : Nat} {rw : Int → Int} {fc : Nat} {fa : Nat → Pl k} (H : CLS M k pl n tx rc rw fc fa) (i : Nat) (hi : i < 6) (l : Nat) (hl : l < 6) (x : El k) (x0 : (x.val : Int) ≠ 0) : Ct 198 (d + 8) 158 [(1, 0), (0, (x.val : Int)), (0, (i : Int)), (0, (l : Int))] M (fun r_ M' => r_ = (0, (dg (scb (scl (iv x) (pl i)) x))) ∧ CLS M' k (fup pl l (scb (scl (iv x) (pl i)) x)) n tx rc rw fc fa ∧ (∀ a : Int, (a < 0 ∨ 160 < a) → M' a = M a)) := by
  have hK : cd 158 = k158 := rfl
  obtain ⟨P, u_, l_, z_, C, E, hpl, T, hR, hF⟩ := H
  have q1_ := qq_I k
  have p1_ := pp_I k
  have m1_ := mm_I k
  have bi_ := (hpl i hi).2
  have di_ := dg_lt9 bi_
  have bl_ := (hpl l hl).2
  have dl_ := dg_lt9 bl_
  have lx_ := x.isLt
  show Wp 198 _ 158 0 [(1, 0), (0, (x.val : Int)), (0, (i : Int)), (0, (l : Int)), (3, 0), (3, 0)] [] M _
  refine w_al hK rfl rfl ?_
  refine w_il hK rfl rfl ?_
  refine w_call [(1, 0), (0, (i : Int))] hK rfl rfl rfl rfl (Or.inr ⟨_, _, _, rfl, by decide, (by decide), rfl⟩) (c_pl i hi) ?_
  rintro _ Mq ⟨rfl, e_⟩
  subst Mq
  refine ⟨(by show (1 : Nat) ≠ 9; decide), (?_ : Wp 198 _ 158 3 [(1, 0), (0, (x.val : Int)), (0, (i : Int)), (0, (l : Int)), (3, 0), (3, 0)] [(1, (149 + 2 * (i : Int)))] M _)⟩
  refine w_as [(1, 0), (0, (x.val : Int)), (0, (i : Int)), (0, (l : Int)), (1, (149 + 2 * (i : Int))), (3, 0)] hK rfl rfl rfl ?_
  refine w_al hK rfl rfl ?_
  refine w_il hK rfl rfl ?_
  refine w_call [(1, 0), (0, (l : Int))] hK rfl rfl rfl rfl (Or.inr ⟨_, _, _, rfl, by decide, (by decide), rfl⟩) (c_pl l hl) ?_
  rintro _ Mq ⟨rfl, e_⟩
  subst Mq
  refine ⟨(by show (1 : Nat) ≠ 9; decide), (?_ : Wp 198 _ 158 7 [(1, 0), (0, (x.val : Int)), (0, (i : Int)), (0, (l : Int)), (1, (149 + 2 * (i : Int))), (3, 0)] [(1, (149 + 2 * (l : Int)))] M _)⟩
  refine w_as [(1, 0), (0, (x.val : Int)), (0, (i : Int)), (0, (l : Int)), (1, (149 + 2 * (i : Int))), (1, (149 + 2 * (l : Int)))] hK rfl rfl rfl ?_
  refine w_al hK rfl rfl ?_
  refine w_null hK rfl (fun h9 => ?_) (fun h9 => ?_)
  · exfalso; omega
  · refine w_al hK rfl rfl ?_
    refine w_null hK rfl (fun h11 => ?_) (fun h11 => ?_)
    · exfalso; omega
    · refine w_al hK rfl rfl ?_
      refine w_getr (n := 0) (v := 1) hK rfl rfl (by decide) (by decide) rfl rfl rfl rfl ?_
      refine w_il hK rfl rfl ?_
      refine w_call [(1, 1), (0, (x.val : Int))] hK rfl rfl rfl rfl (Or.inr ⟨_, _, _, rfl, by decide, (by decide), rfl⟩) (c_has (by decide) C.F (x.val : Int) (by omega) (by omega)) ?_
      rintro _ Mq ⟨rfl, e_⟩
      subst Mq
      have hI_ := ite01 (0 ≤ (x.val : Int) ∧ (x.val : Int) < (qq k : Int))
      refine ⟨(by show (0 : Nat) ≠ 9; decide), (?_ : Wp 198 _ 158 16 [(1, 0), (0, (x.val : Int)), (0, (i : Int)), (0, (l : Int)), (1, (149 + 2 * (i : Int))), (1, (149 + 2 * (l : Int)))] [(0, (if 0 ≤ (x.val : Int) ∧ (x.val : Int) < (qq k : Int) then 1 else 0))] M _)⟩
      refine w_ne hK rfl (by omega) (by omega) (fun h16 => ?_) (fun h16 => ?_)
      · refine w_il hK rfl rfl ?_
        refine w_ne hK rfl (by omega) (by omega) (fun h20 => ?_) (fun h20 => ?_)
        · refine w_al hK rfl rfl ?_
          refine w_getr (n := 1) (v := 7) hK rfl rfl (by decide) (by decide) rfl rfl rfl rfl ?_
          refine w_al hK rfl rfl ?_
          refine w_getr (n := 0) (v := 1) hK rfl rfl (by decide) (by decide) rfl rfl rfl rfl ?_
          refine w_il hK rfl rfl ?_
          refine w_call [(1, 1), (0, (x.val : Int))] hK rfl rfl rfl rfl (Or.inr ⟨_, _, _, rfl, by decide, (by decide), rfl⟩) (c_inv (by decide) C.F x ) ?_
          rintro _ Mq ⟨rfl, e_⟩
          subst Mq
          have bv_ := el_I (iv x)
          refine ⟨by show (0 : Nat) ≠ 9; decide, (?_ : Wp 198 _ 158 29 [(1, 0), (0, (x.val : Int)), (0, (i : Int)), (0, (l : Int)), (1, (149 + 2 * (i : Int))), (1, (149 + 2 * (l : Int)))] [(0, ((iv x).val : Int)), (1, 7)] M _)⟩
          refine w_al hK rfl rfl ?_
          refine w_al hK rfl rfl ?_
          refine w_getr (n := 12) (v := 145) hK rfl rfl (by decide) (by decide) rfl rfl rfl rfl ?_
          refine w_call [(1, 7), (0, ((iv x).val : Int)), (1, (149 + 2 * (i : Int))), (1, 145)] hK rfl rfl rfl rfl (Or.inr ⟨_, _, _, rfl, by decide, (by decide), rfl⟩) (c_rscl C (iv x) ⟨(isPP hi), (hpl i hi).1⟩ (isP_of (p := 145) rfl)) ?_
          rintro _ V140 ⟨rfl, C140, S140⟩
          refine ⟨by decide, (?_ : Wp 198 _ 158 33 [(1, 0), (0, (x.val : Int)), (0, (i : Int)), (0, (l : Int)), (1, (149 + 2 * (i : Int))), (1, (149 + 2 * (l : Int)))] [] V140 _)⟩
          refine w_al hK rfl rfl ?_
          refine w_getr (n := 1) (v := 7) hK rfl rfl (by decide) (by decide) rfl rfl rfl rfl ?_
          refine w_al hK rfl rfl ?_
          refine w_getr (n := 12) (v := 145) hK rfl rfl (by decide) (by decide) rfl rfl rfl rfl ?_
          refine w_il hK rfl rfl ?_
          refine w_al hK rfl rfl ?_
          refine w_call [(1, 7), (1, 145), (0, (x.val : Int)), (1, (149 + 2 * (l : Int)))] hK rfl rfl rfl rfl (Or.inr ⟨_, _, _, rfl, by decide, (by decide), rfl⟩) (c_rscb C140 ⟨(isP_of (p := 145) rfl), pu_eq⟩ x (isPP hl)) ?_
          rintro _ V141 ⟨rfl, C141, S141⟩
          refine ⟨by decide, (?_ : Wp 198 _ 158 40 [(1, 0), (0, (x.val : Int)), (0, (i : Int)), (0, (l : Int)), (1, (149 + 2 * (i : Int))), (1, (149 + 2 * (l : Int)))] [] V141 _)⟩
          refine w_al hK rfl rfl ?_
          refine w_pt hK rfl (isPP hl) ?_
          rw [show V141 (149 + 2 * (l : Int)) 1 = dg (scb (scl (iv x) (pl i)) x) from C141.t ⟨(isPP hl), pu_eq⟩]
          have tI_ := CS.dI C141 ⟨(isPP hl), pu_eq⟩
          refine w_iret hK rfl rfl ?_
          exact ⟨rfl, ⟨_, u_, l_, z_, C141, (ES.keep E ((S141 18 (notP rfl)).trans (S140 18 (notP rfl)))), (PLs.put hpl pu_eq (Bd_scb x (Bd_scl (iv x) bi_)) (fun q_ hq_ hn_ => ((pu_ne (P := pu P 145 (scl (iv x) (pl i))) (f := scb (scl (iv x) (pl i)) x) (show (149 + 2 * (q_ : Int)) ≠ (149 + 2 * (l : Int)) by omega)).trans (pu_ne (P := P) (f := scl (iv x) (pl i)) (show (149 + 2 * (q_ : Int)) ≠ 145 by omega))))), (TXs.keep T ((S141 140 (notP rfl)).trans (S140 140 (notP rfl))) ((S141 141 (notP rfl)).trans (S140 141 (notP rfl)))), (RWs.keep hR ((S141 0 (notP rfl)).trans (S140 0 (notP rfl))) ((S141 144 (notP rfl)).trans (S140 144 (notP rfl)))), (FCs.keep hF ((S141 52 (notP rfl)).trans (S140 52 (notP rfl))) (fun q_ hq_ => ((pu_ne (P := pu P 145 (scl (iv x) (pl i))) (f := scb (scl (iv x) (pl i)) x) (show (68 + 6 * (q_ : Int)) ≠ (149 + 2 * (l : Int)) by omega)).trans (pu_ne (P := P) (f := scl (iv x) (pl i)) (show (68 + 6 * (q_ : Int)) ≠ 145 by omega)))))⟩, (fun a h_ => ((S141 a (npC h_)).trans (S140 a (npC h_))))⟩
        · exfalso; omega
      · exfalso; omega
set_option maxRecDepth 100000 in
theorem z_turned {d : Nat} {M : Mem} {k : Nat} {pl : Nat → Pl k} {n : Int} {tx : Int → Int} {rc : Nat} {rw : Int → Int} {fc : Nat} {fa : Nat → Pl k} (H : CLS M k pl n tx rc rw fc fa) (i : Nat) (hi : i < 6) (l : Nat) (hl : l < 6) (x : El k) (x0 : (x.val : Int) = 0) : Ct 198 (d + 8) 158 [(1, 0), (0, (x.val : Int)), (0, (i : Int)), (0, (l : Int))] M (fun r_ M' => r_ = (0, -3) ∧ M' = M) := by
  have hK : cd 158 = k158 := rfl
  obtain ⟨P, u_, l_, z_, C, E, hpl, T, hR, hF⟩ := H
  have q1_ := qq_I k
  have p1_ := pp_I k
  have m1_ := mm_I k
  have bi_ := (hpl i hi).2
  have di_ := dg_lt9 bi_
  have bl_ := (hpl l hl).2
  have dl_ := dg_lt9 bl_
  have lx_ := x.isLt
  show Wp 198 _ 158 0 [(1, 0), (0, (x.val : Int)), (0, (i : Int)), (0, (l : Int)), (3, 0), (3, 0)] [] M _
  refine w_al hK rfl rfl ?_
  refine w_il hK rfl rfl ?_
  refine w_call [(1, 0), (0, (i : Int))] hK rfl rfl rfl rfl (Or.inr ⟨_, _, _, rfl, by decide, (by decide), rfl⟩) (c_pl i hi) ?_
  rintro _ Mq ⟨rfl, e_⟩
  subst Mq
  refine ⟨(by show (1 : Nat) ≠ 9; decide), (?_ : Wp 198 _ 158 3 [(1, 0), (0, (x.val : Int)), (0, (i : Int)), (0, (l : Int)), (3, 0), (3, 0)] [(1, (149 + 2 * (i : Int)))] M _)⟩
  refine w_as [(1, 0), (0, (x.val : Int)), (0, (i : Int)), (0, (l : Int)), (1, (149 + 2 * (i : Int))), (3, 0)] hK rfl rfl rfl ?_
  refine w_al hK rfl rfl ?_
  refine w_il hK rfl rfl ?_
  refine w_call [(1, 0), (0, (l : Int))] hK rfl rfl rfl rfl (Or.inr ⟨_, _, _, rfl, by decide, (by decide), rfl⟩) (c_pl l hl) ?_
  rintro _ Mq ⟨rfl, e_⟩
  subst Mq
  refine ⟨(by show (1 : Nat) ≠ 9; decide), (?_ : Wp 198 _ 158 7 [(1, 0), (0, (x.val : Int)), (0, (i : Int)), (0, (l : Int)), (1, (149 + 2 * (i : Int))), (3, 0)] [(1, (149 + 2 * (l : Int)))] M _)⟩
  refine w_as [(1, 0), (0, (x.val : Int)), (0, (i : Int)), (0, (l : Int)), (1, (149 + 2 * (i : Int))), (1, (149 + 2 * (l : Int)))] hK rfl rfl rfl ?_
  refine w_al hK rfl rfl ?_
  refine w_null hK rfl (fun h9 => ?_) (fun h9 => ?_)
  · exfalso; omega
  · refine w_al hK rfl rfl ?_
    refine w_null hK rfl (fun h11 => ?_) (fun h11 => ?_)
    · exfalso; omega
    · refine w_al hK rfl rfl ?_
      refine w_getr (n := 0) (v := 1) hK rfl rfl (by decide) (by decide) rfl rfl rfl rfl ?_
      refine w_il hK rfl rfl ?_
      refine w_call [(1, 1), (0, (x.val : Int))] hK rfl rfl rfl rfl (Or.inr ⟨_, _, _, rfl, by decide, (by decide), rfl⟩) (c_has (by decide) C.F (x.val : Int) (by omega) (by omega)) ?_
      rintro _ Mq ⟨rfl, e_⟩
      subst Mq
      have hI_ := ite01 (0 ≤ (x.val : Int) ∧ (x.val : Int) < (qq k : Int))
      refine ⟨(by show (0 : Nat) ≠ 9; decide), (?_ : Wp 198 _ 158 16 [(1, 0), (0, (x.val : Int)), (0, (i : Int)), (0, (l : Int)), (1, (149 + 2 * (i : Int))), (1, (149 + 2 * (l : Int)))] [(0, (if 0 ≤ (x.val : Int) ∧ (x.val : Int) < (qq k : Int) then 1 else 0))] M _)⟩
      refine w_ne hK rfl (by omega) (by omega) (fun h16 => ?_) (fun h16 => ?_)
      · refine w_il hK rfl rfl ?_
        refine w_ne hK rfl (by omega) (by omega) (fun h20 => ?_) (fun h20 => ?_)
        · exfalso; omega
        · refine w_ic hK rfl ?_
          refine w_iret hK rfl rfl ?_
          exact ⟨rfl, rfl⟩
      · exfalso; omega
set_option maxRecDepth 100000 in
theorem n_turned {d : Nat} {M : Mem} {k : Nat} {pl : Nat → Pl k} {n : Int} {tx : Int → Int} {rc : Nat} {rw : Int → Int} {fc : Nat} {fa : Nat → Pl k} (H : CLS M k pl n tx rc rw fc fa) (x i l : Int) (x1_ : -2147483648 ≤ x) (x2_ : x ≤ 2147483647) (i1_ : -2147483648 ≤ i) (i2_ : i ≤ 2147483647) (l1_ : -2147483648 ≤ l) (l2_ : l ≤ 2147483647) (hn : ¬ ((0 ≤ i ∧ i < 6) ∧ (0 ≤ l ∧ l < 6) ∧ 0 ≤ x ∧ x < (qq k : Int))) : Ct 198 (d + 8) 158 [(1, 0), (0, x), (0, i), (0, l)] M (fun r_ M' => r_ = (0, -2) ∧ M' = M) := by
  have hK : cd 158 = k158 := rfl
  obtain ⟨P, u_, l_, z_, C, E, hpl, T, hR, hF⟩ := H
  have q1_ := qq_I k
  have p1_ := pp_I k
  have m1_ := mm_I k
  show Wp 198 _ 158 0 [(1, 0), (0, x), (0, i), (0, l), (3, 0), (3, 0)] [] M _
  refine w_al hK rfl rfl ?_
  refine w_il hK rfl rfl ?_
  refine w_call [(1, 0), (0, i)] hK rfl rfl rfl rfl (Or.inr ⟨_, _, _, rfl, by decide, (by decide), rfl⟩) (c_plI i (by omega) (by omega)) ?_
  rintro _ Mq ⟨rfl, e_⟩
  subst Mq
  have pI_ := plr_I i
  refine ⟨(by show (1 : Nat) ≠ 9; decide), (?_ : Wp 198 _ 158 3 [(1, 0), (0, x), (0, i), (0, l), (3, 0), (3, 0)] [(1, (plr i))] M _)⟩
  refine w_as [(1, 0), (0, x), (0, i), (0, l), (1, (plr i)), (3, 0)] hK rfl rfl rfl ?_
  refine w_al hK rfl rfl ?_
  refine w_il hK rfl rfl ?_
  refine w_call [(1, 0), (0, l)] hK rfl rfl rfl rfl (Or.inr ⟨_, _, _, rfl, by decide, (by decide), rfl⟩) (c_plI l (by omega) (by omega)) ?_
  rintro _ Mq ⟨rfl, e_⟩
  subst Mq
  have pI_ := plr_I l
  refine ⟨(by show (1 : Nat) ≠ 9; decide), (?_ : Wp 198 _ 158 7 [(1, 0), (0, x), (0, i), (0, l), (1, (plr i)), (3, 0)] [(1, (plr l))] M _)⟩
  refine w_as [(1, 0), (0, x), (0, i), (0, l), (1, (plr i)), (1, (plr l))] hK rfl rfl rfl ?_
  refine w_al hK rfl rfl ?_
  refine w_null hK rfl (fun h9 => ?_) (fun h9 => ?_)
  · refine w_ic hK rfl ?_
    refine w_iret hK rfl rfl ?_
    exact ⟨rfl, rfl⟩
  · refine w_al hK rfl rfl ?_
    refine w_null hK rfl (fun h11 => ?_) (fun h11 => ?_)
    · refine w_ic hK rfl ?_
      refine w_iret hK rfl rfl ?_
      exact ⟨rfl, rfl⟩
    · refine w_al hK rfl rfl ?_
      refine w_getr (n := 0) (v := 1) hK rfl rfl (by decide) (by decide) rfl rfl rfl rfl ?_
      refine w_il hK rfl rfl ?_
      refine w_call [(1, 1), (0, x)] hK rfl rfl rfl rfl (Or.inr ⟨_, _, _, rfl, by decide, (by decide), rfl⟩) (c_has (by decide) C.F x (by omega) (by omega)) ?_
      rintro _ Mq ⟨rfl, e_⟩
      subst Mq
      have hI_ := ite01 (0 ≤ x ∧ x < (qq k : Int))
      refine ⟨(by show (0 : Nat) ≠ 9; decide), (?_ : Wp 198 _ 158 16 [(1, 0), (0, x), (0, i), (0, l), (1, (plr i)), (1, (plr l))] [(0, (if 0 ≤ x ∧ x < (qq k : Int) then 1 else 0))] M _)⟩
      refine w_ne hK rfl (by omega) (by omega) (fun h16 => ?_) (fun h16 => ?_)
      · exfalso; omega
      · refine w_ic hK rfl ?_
        refine w_iret hK rfl rfl ?_
        exact ⟨rfl, rfl⟩
