/-! contracts: the text's couples -/
/-- a couple is read: the place of a fault or -1, where the reading stands, its two numbers -/
noncomputable def rcp (tx : Int → Int) (q a : Int) (pt : Int → Int) (c : Nat) : Int × Int × Int × Int :=
  if (rdn tx q a).1 < 0 ∨ bz (IsPt pt c (rdn tx q a).1) ≠ 0 then ((rdn tx q a).2.2, 0, 0, 0)
  else if tx (rdn tx q a).2.1 ≠ 58 then ((rdn tx q a).2.1, 0, 0, 0)
  else if (rdn tx q ((rdn tx q a).2.1 + 1)).1 < 0 then ((rdn tx q ((rdn tx q a).2.1 + 1)).2.2, 0, 0, 0)
  else (-1, (rdn tx q ((rdn tx q a).2.1 + 1)).2.1, (rdn tx q a).1, (rdn tx q ((rdn tx q a).2.1 + 1)).1)
theorem rcp_I {M : Mem} {n : Int} {tx : Int → Int} (T : TXs M n tx) (q a : Int) (q1 : q ≤ 16) (a0 : 0 ≤ a) (a1 : a ≤ n) (pt : Int → Int) (c : Nat) : -1 ≤ (rcp tx q a pt c).1 ∧ ((rcp tx q a pt c).1 = -1 → (0 ≤ (rcp tx q a pt c).2.1 ∧ (rcp tx q a pt c).2.1 ≤ n) ∧ (0 ≤ (rcp tx q a pt c).2.2.1 ∧ (rcp tx q a pt c).2.2.1 < q) ∧ 0 ≤ (rcp tx q a pt c).2.2.2 ∧ (rcp tx q a pt c).2.2.2 < q) := by
  have h1 := rdn_I T q a q1 a0 a1
  unfold rcp
  split
  · dsimp only; omega
  · split
    · dsimp only; omega
    · rename_i h2 h3
      have h4 : (rdn tx q a).2.1 < n := by
        rcases Int.lt_or_le (rdn tx q a).2.1 n with e | e
        · exact e
        · have := T.2.2 _ (Or.inr e)
          omega
      have h5 := rdn_I T q ((rdn tx q a).2.1 + 1) q1 (by omega) (by omega)
      split <;> (dsimp only; omega)
set_option maxRecDepth 100000 in
theorem c_rcp {d : Nat} {M : Mem} {k : Nat} {n : Int} {tx : Int → Int} (T : TXs M n tx) (a : Int) (h5 : M 140 5 = a) (a0 : 0 ≤ a) (a1 : a ≤ n) {c : Nat} (hc : c ≤ 5) (h4 : M 140 4 = (c : Int)) {pt wt : Int → Int} (hp : M 142 = pt) (hw : M 143 = wt) (hN1 : Nq (qq k : Int) pt c) : Ct 198 (d + 3) 118 [(1, 140), (0, (qq k : Int))] M (fun r M' => ((r = (0, 0) ∧ 0 ≤ (rcp tx (qq k : Int) a pt c).1 ∧ M' 140 6 = (rcp tx (qq k : Int) a pt c).1) ∨ (r = (0, 1) ∧ (rcp tx (qq k : Int) a pt c).1 = -1 ∧ M' 140 5 = (rcp tx (qq k : Int) a pt c).2.1 ∧ M' 140 4 = (c : Int) + 1 ∧ M' 142 = upr pt (c : Int) (rcp tx (qq k : Int) a pt c).2.2.1 ∧ M' 143 = upr wt (c : Int) (rcp tx (qq k : Int) a pt c).2.2.2)) ∧ M' 140 3 = n ∧ (∀ a : Int, a ≠ 140 → a ≠ 142 → a ≠ 143 → M' a = M a)) := by
  have hK : cd 118 = k118 := rfl
  have q1_ := qq_I k
  have q16 := q1_.2
  have tn_ := T.1.2
  show Wp 198 _ 118 0 [(1, 140), (0, (qq k : Int)), (3, 0), (3, 0)] [] M _
  refine w_al hK rfl rfl ?_
  refine w_il hK rfl rfl ?_
  refine w_call [(1, 140), (0, (qq k : Int))] hK rfl rfl rfl rfl (Or.inr ⟨_, _, _, rfl, by decide, (by decide), rfl⟩) (c_rdn T (qq k : Int) (by omega) (by omega) a h5 (by omega) (by omega)) ?_
  rintro _ V4 ⟨⟨rfl, x4, y4⟩, F4, G4⟩
  have rI4 := rdn_I T (qq k : Int) a (by omega) (by omega) (by omega)
  refine ⟨(by show (0 : Nat) ≠ 9; decide), (?_ : Wp 198 _ 118 3 [(1, 140), (0, (qq k : Int)), (3, 0), (3, 0)] [(0, (rdn tx (qq k : Int) a).1)] V4 _)⟩
  refine w_is [(1, 140), (0, (qq k : Int)), (0, (rdn tx (qq k : Int) a).1), (3, 0)] hK rfl rfl rfl ?_
  refine w_il hK rfl rfl ?_
  refine w_lt hK rfl (by omega) (by omega) (fun h5 => ?_) (fun h5 => ?_)
  · refine w_ic hK rfl ?_
    refine w_zret hK rfl rfl (Or.inl rfl) ?_
    have er_ : rcp tx (qq k : Int) a pt c = ((rdn tx (qq k : Int) a).2.2, 0, 0, 0) := by unfold rcp; rw [if_pos (by omega)]
    rw [er_]
    exact ⟨Or.inl ⟨rfl, by show 0 ≤ (rdn tx (qq k : Int) a).2.2; omega, y4⟩, ((G4 3 (by decide) (by decide)).trans T.1.1), (fun a n140_ n142_ n143_ => (F4 a n140_))⟩
  · refine w_al hK rfl rfl ?_
    refine w_il hK rfl rfl ?_
    refine w_call [(1, 140), (0, (rdn tx (qq k : Int) a).1)] hK rfl rfl rfl rfl (Or.inr ⟨_, _, _, rfl, by decide, (by decide), rfl⟩) (c_isPt ((rdn tx (qq k : Int) a).1) (by omega) (by omega) (by omega) ((G4 4 (by decide) (by decide)).trans h4) ((F4 142 (by decide)).trans hp) q16 hN1) ?_
    rintro _ Mq ⟨rfl, e_⟩
    subst Mq
    have bv_ := bz_01 (IsPt pt c ((rdn tx (qq k : Int) a).1))
    refine ⟨by show (0 : Nat) ≠ 9; decide, (?_ : Wp 198 _ 118 9 [(1, 140), (0, (qq k : Int)), (0, (rdn tx (qq k : Int) a).1), (3, 0)] [(0, (bz (IsPt pt c ((rdn tx (qq k : Int) a).1))))] V4 _)⟩
    have bz9_ := bz_01 (IsPt pt c (rdn tx (qq k : Int) a).1)
    refine w_eq hK rfl (by omega) (by omega) (fun h9 => ?_) (fun h9 => ?_)
    · refine w_al hK rfl rfl ?_
      refine w_al hK rfl rfl ?_
      refine w_geti (n := 5) (m := 5) hK rfl rfl (by decide) (by decide) rfl rfl rfl rfl ?_
      rw [show V4 140 5 = (rdn tx (qq k : Int) a).2.1 from x4]
      refine w_puti (n := 6) (m := 6) hK rfl rfl (by decide) (by decide) rfl rfl rfl rfl ?_
      refine w_al hK rfl rfl ?_
      refine w_al hK rfl rfl ?_
      refine w_geti (n := 5) (m := 5) hK rfl rfl (by decide) (by decide) rfl rfl rfl rfl ?_
      rw [show (up V4 140 6 ((rdn tx (qq k : Int) a).2.1)) 140 5 = (rdn tx (qq k : Int) a).2.1 from ((up_ne2 (by omega)).trans x4)]
      refine w_call [(1, 140), (0, (rdn tx (qq k : Int) a).2.1)] hK rfl rfl rfl rfl (Or.inr ⟨_, _, _, rfl, by decide, (by decide), rfl⟩) (c_sgn (TXs.mk2 T ((up_ne2 (by omega)).trans ((G4 3 (by decide) (by decide)).trans T.1.1)) ((up_row (by decide)).trans (F4 141 (by decide)))) ((rdn tx (qq k : Int) a).2.1) (by omega) (by omega)) ?_
      rintro _ Mq ⟨rfl, e_⟩
      subst Mq
      have tI_ := T.I ((rdn tx (qq k : Int) a).2.1)
      refine ⟨by show (0 : Nat) ≠ 9; decide, (?_ : Wp 198 _ 118 20 [(1, 140), (0, (qq k : Int)), (0, (rdn tx (qq k : Int) a).1), (3, 0)] [(0, (tx ((rdn tx (qq k : Int) a).2.1)))] (up V4 140 6 ((rdn tx (qq k : Int) a).2.1)) _)⟩
      refine w_ic hK rfl ?_
      refine w_eq2 hK rfl (by omega) (by omega) (by omega) (by omega) (fun h21 => ?_) (fun h21 => ?_)
      · have an_ : (rdn tx (qq k : Int) a).2.1 < n := by
          rcases Int.lt_or_le (rdn tx (qq k : Int) a).2.1 n with e | e
          · exact e
          · have := T.2.2 _ (Or.inr e)
            omega
        refine w_al hK rfl rfl ?_
        refine w_dup hK rfl rfl ?_
        refine w_geti (n := 5) (m := 5) hK rfl rfl (by decide) (by decide) rfl rfl rfl rfl ?_
        rw [show (up V4 140 6 ((rdn tx (qq k : Int) a).2.1)) 140 5 = (rdn tx (qq k : Int) a).2.1 from ((up_ne2 (by omega)).trans x4)]
        refine w_ic hK rfl ?_
        refine w_add hK rfl (by omega) (by omega) ?_
        refine w_puti (n := 5) (m := 5) hK rfl rfl (by decide) (by decide) rfl rfl rfl rfl ?_
        refine w_al hK rfl rfl ?_
        refine w_il hK rfl rfl ?_
        refine w_call [(1, 140), (0, (qq k : Int))] hK rfl rfl rfl rfl (Or.inr ⟨_, _, _, rfl, by decide, (by decide), rfl⟩) (c_rdn (TXs.mk2 T ((up_ne2 (by omega)).trans ((up_ne2 (by omega)).trans ((G4 3 (by decide) (by decide)).trans T.1.1))) ((up_row (by decide)).trans ((up_row (by decide)).trans (F4 141 (by decide))))) (qq k : Int) (by omega) (by omega) ((rdn tx (qq k : Int) a).2.1 + 1) up_eq (by omega) (by omega)) ?_
        rintro _ V5 ⟨⟨rfl, x5, y5⟩, F5, G5⟩
        have rI5 := rdn_I T (qq k : Int) ((rdn tx (qq k : Int) a).2.1 + 1) (by omega) (by omega) (by omega)
        refine ⟨(by show (0 : Nat) ≠ 9; decide), (?_ : Wp 198 _ 118 33 [(1, 140), (0, (qq k : Int)), (0, (rdn tx (qq k : Int) a).1), (3, 0)] [(0, (rdn tx (qq k : Int) ((rdn tx (qq k : Int) a).2.1 + 1)).1)] V5 _)⟩
        refine w_is [(1, 140), (0, (qq k : Int)), (0, (rdn tx (qq k : Int) a).1), (0, (rdn tx (qq k : Int) ((rdn tx (qq k : Int) a).2.1 + 1)).1)] hK rfl rfl rfl ?_
        refine w_il hK rfl rfl ?_
        refine w_lt hK rfl (by omega) (by omega) (fun h35 => ?_) (fun h35 => ?_)
        · refine w_ic hK rfl ?_
          refine w_zret hK rfl rfl (Or.inl rfl) ?_
          have er_ : rcp tx (qq k : Int) a pt c = ((rdn tx (qq k : Int) ((rdn tx (qq k : Int) a).2.1 + 1)).2.2, 0, 0, 0) := by unfold rcp; rw [if_neg (by omega), if_neg (by omega), if_pos (by omega)]
          rw [er_]
          exact ⟨Or.inl ⟨rfl, by show 0 ≤ (rdn tx (qq k : Int) ((rdn tx (qq k : Int) a).2.1 + 1)).2.2; omega, y5⟩, ((G5 3 (by decide) (by decide)).trans ((up_ne2 (by omega)).trans ((up_ne2 (by omega)).trans ((G4 3 (by decide) (by decide)).trans T.1.1)))), (fun a n140_ n142_ n143_ => ((F5 a n140_).trans ((up_row n140_).trans ((up_row n140_).trans (F4 a n140_)))))⟩
        · refine w_al hK rfl rfl ?_
          refine w_geti (n := 4) (m := 4) hK rfl rfl (by decide) (by decide) rfl rfl rfl rfl ?_
          rw [show V5 140 4 = (c : Int) from ((G5 4 (by decide) (by decide)).trans ((up_ne2 (by omega)).trans ((up_ne2 (by omega)).trans ((G4 4 (by decide) (by decide)).trans h4))))]
          refine w_lt hK rfl (by omega) (by omega) (fun h38 => ?_) (fun h38 => ?_)
          · exfalso; omega
          · refine w_al hK rfl rfl ?_
            refine w_geti (n := 4) (m := 4) hK rfl rfl (by decide) (by decide) rfl rfl rfl rfl ?_
            rw [show V5 140 4 = (c : Int) from ((G5 4 (by decide) (by decide)).trans ((up_ne2 (by omega)).trans ((up_ne2 (by omega)).trans ((G4 4 (by decide) (by decide)).trans h4))))]
            refine w_ic hK rfl ?_
            refine w_lt2 hK rfl (by omega) (by omega) (by omega) (by omega) (fun h42 => ?_) (fun h42 => ?_)
            · refine w_al hK rfl rfl ?_
              refine w_getr (n := 1) (v := 142) hK rfl rfl (by decide) (by decide) rfl rfl rfl rfl ?_
              refine w_al hK rfl rfl ?_
              refine w_geti (n := 4) (m := 4) hK rfl rfl (by decide) (by decide) rfl rfl rfl rfl ?_
              rw [show V5 140 4 = (c : Int) from ((G5 4 (by decide) (by decide)).trans ((up_ne2 (by omega)).trans ((up_ne2 (by omega)).trans ((G4 4 (by decide) (by decide)).trans h4))))]
              refine w_il hK rfl rfl ?_
              refine w_iat hK rfl rfl (by decide) (by decide) (by omega) (by omega) ?_
              refine w_al hK rfl rfl ?_
              refine w_getr (n := 2) (v := 143) hK rfl rfl (by decide) (by decide) rfl rfl rfl rfl ?_
              refine w_al hK rfl rfl ?_
              refine w_geti (n := 4) (m := 4) hK rfl rfl (by decide) (by decide) rfl rfl rfl rfl ?_
              rw [show (up V5 142 (c : Int) ((rdn tx (qq k : Int) a).1)) 140 4 = (c : Int) from ((congrFun (up_row (by decide)) 4).trans ((G5 4 (by decide) (by decide)).trans ((up_ne2 (by omega)).trans ((up_ne2 (by omega)).trans ((G4 4 (by decide) (by decide)).trans h4)))))]
              refine w_il hK rfl rfl ?_
              refine w_iat hK rfl rfl (by decide) (by decide) (by omega) (by omega) ?_
              refine w_al hK rfl rfl ?_
              refine w_dup hK rfl rfl ?_
              refine w_geti (n := 4) (m := 4) hK rfl rfl (by decide) (by decide) rfl rfl rfl rfl ?_
              rw [show (up (up V5 142 (c : Int) ((rdn tx (qq k : Int) a).1)) 143 (c : Int) ((rdn tx (qq k : Int) ((rdn tx (qq k : Int) a).2.1 + 1)).1)) 140 4 = (c : Int) from ((congrFun (up_row (by decide)) 4).trans ((congrFun (up_row (by decide)) 4).trans ((G5 4 (by decide) (by decide)).trans ((up_ne2 (by omega)).trans ((up_ne2 (by omega)).trans ((G4 4 (by decide) (by decide)).trans h4))))))]
              refine w_ic hK rfl ?_
              refine w_add hK rfl (by omega) (by omega) ?_
              refine w_puti (n := 4) (m := 4) hK rfl rfl (by decide) (by decide) rfl rfl rfl rfl ?_
              refine w_ic hK rfl ?_
              refine w_zret hK rfl rfl (Or.inr rfl) ?_
              have er_ : rcp tx (qq k : Int) a pt c = (-1, (rdn tx (qq k : Int) ((rdn tx (qq k : Int) a).2.1 + 1)).2.1, (rdn tx (qq k : Int) a).1, (rdn tx (qq k : Int) ((rdn tx (qq k : Int) a).2.1 + 1)).1) := by unfold rcp; rw [if_neg (by omega), if_neg (by omega), if_neg (by omega)]
              rw [er_]
              exact ⟨Or.inr ⟨rfl, rfl, ((up_ne2 (by omega)).trans ((congrFun (up_row (by decide)) 5).trans ((congrFun (up_row (by decide)) 5).trans x5))), up_eq, ((up_row (by decide)).trans ((up_row (by decide)).trans (up_upr ((F5 142 (by decide)).trans ((up_row (by decide)).trans ((up_row (by decide)).trans ((F4 142 (by decide)).trans hp))))))), ((up_row (by decide)).trans (up_upr ((up_row (by decide)).trans ((F5 143 (by decide)).trans ((up_row (by decide)).trans ((up_row (by decide)).trans ((F4 143 (by decide)).trans hw)))))))⟩, ((up_ne2 (by omega)).trans ((congrFun (up_row (by decide)) 3).trans ((congrFun (up_row (by decide)) 3).trans ((G5 3 (by decide) (by decide)).trans ((up_ne2 (by omega)).trans ((up_ne2 (by omega)).trans ((G4 3 (by decide) (by decide)).trans T.1.1))))))), (fun a n140_ n142_ n143_ => ((up_row n140_).trans ((up_row n143_).trans ((up_row n142_).trans ((F5 a n140_).trans ((up_row n140_).trans ((up_row n140_).trans (F4 a n140_))))))))⟩
            · exfalso; omega
      · refine w_ic hK rfl ?_
        refine w_zret hK rfl rfl (Or.inl rfl) ?_
        have er_ : rcp tx (qq k : Int) a pt c = ((rdn tx (qq k : Int) a).2.1, 0, 0, 0) := by unfold rcp; rw [if_neg (by omega), if_pos (by omega)]
        rw [er_]
        exact ⟨Or.inl ⟨rfl, by show 0 ≤ (rdn tx (qq k : Int) a).2.1; omega, up_eq⟩, ((up_ne2 (by omega)).trans ((G4 3 (by decide) (by decide)).trans T.1.1)), (fun a n140_ n142_ n143_ => ((up_row n140_).trans (F4 a n140_)))⟩
    · have bz10_ := bz_01 (IsPt pt c (rdn tx (qq k : Int) a).1)
      refine w_ic hK rfl ?_
      refine w_zret hK rfl rfl (Or.inl rfl) ?_
      have er_ : rcp tx (qq k : Int) a pt c = ((rdn tx (qq k : Int) a).2.2, 0, 0, 0) := by unfold rcp; rw [if_pos (by omega)]
      rw [er_]
      exact ⟨Or.inl ⟨rfl, by show 0 ≤ (rdn tx (qq k : Int) a).2.2; omega, y4⟩, ((G4 3 (by decide) (by decide)).trans T.1.1), (fun a n140_ n142_ n143_ => (F4 a n140_))⟩
/-- couples are read: the place of a fault or -1, the points, what is wanted there, how many -/
noncomputable def rcs (tx : Int → Int) (q n : Int) : Nat → Int → (Int → Int) → (Int → Int) → Int × (Int → Int) × (Int → Int) × Nat
  | 0, a, pt, wt => (a, pt, wt, 0)
  | m + 1, a, pt, wt => if (rcp tx q a pt (5 - m)).1 ≠ -1 then ((rcp tx q a pt (5 - m)).1, pt, wt, 0)
    else if (rcp tx q a pt (5 - m)).2.1 = n then (-1, upr pt ((5 - m : Nat) : Int) (rcp tx q a pt (5 - m)).2.2.1, upr wt ((5 - m : Nat) : Int) (rcp tx q a pt (5 - m)).2.2.2, 6 - m)
    else if tx (rcp tx q a pt (5 - m)).2.1 ≠ 44 ∨ m = 0 then ((rcp tx q a pt (5 - m)).2.1, pt, wt, 0)
    else rcs tx q n m ((rcp tx q a pt (5 - m)).2.1 + 1) (upr pt ((5 - m : Nat) : Int) (rcp tx q a pt (5 - m)).2.2.1) (upr wt ((5 - m : Nat) : Int) (rcp tx q a pt (5 - m)).2.2.2)
theorem rcs_at {tx : Int → Int} {q n : Int} {j : Nat} (hj : j ≤ 5) {a : Int} {pt wt : Int → Int} : rcs tx q n (6 - j) a pt wt = if (rcp tx q a pt j).1 ≠ -1 then ((rcp tx q a pt j).1, pt, wt, 0)
    else if (rcp tx q a pt j).2.1 = n then (-1, upr pt (j : Int) (rcp tx q a pt j).2.2.1, upr wt (j : Int) (rcp tx q a pt j).2.2.2, j + 1)
    else if tx (rcp tx q a pt j).2.1 ≠ 44 ∨ j = 5 then ((rcp tx q a pt j).2.1, pt, wt, 0)
    else rcs tx q n (6 - (j + 1)) ((rcp tx q a pt j).2.1 + 1) (upr pt (j : Int) (rcp tx q a pt j).2.2.1) (upr wt (j : Int) (rcp tx q a pt j).2.2.2) := by
  have e1 : 6 - j = (5 - j) + 1 := by omega
  have e2 : 5 - (5 - j) = j := by omega
  have e3 : (5 - j = 0) = (j = 5) := propext (by omega)
  have e4 : 6 - (j + 1) = 5 - j := by omega
  have e5 : 6 - (5 - j) = j + 1 := by omega
  rw [e1, e4]
  show (if _ then _ else if _ then (_, _, _, 6 - (5 - j)) else if _ ∨ 5 - j = 0 then _ else _) = _
  simp only [e2, e3, e5]
theorem Nq.up {q v : Int} {f : Int → Int} {c : Nat} (h : Nq q f c) (h0 : 0 ≤ v) (h1 : v < q) : Nq q (upr f (c : Int) v) (c + 1) := fun j hj => by
  unfold upr
  by_cases e : (j : Int) = (c : Int)
  · rw [if_pos e]; exact ⟨h0, h1⟩
  · rw [if_neg e]; exact h j (by omega)
set_option maxRecDepth 100000 in
theorem c_rcs {d : Nat} {M : Mem} {k : Nat} {n : Int} {tx : Int → Int} (T : TXs M n tx) : Ct 198 (d + 4) 117 [(1, 140), (0, (qq k : Int))] M (fun r M' => r = (0, (rcs tx (qq k : Int) n 6 0 (M 142) (M 143)).1) ∧ ((rcs tx (qq k : Int) n 6 0 (M 142) (M 143)).1 = -1 → (1 ≤ (rcs tx (qq k : Int) n 6 0 (M 142) (M 143)).2.2.2 ∧ (rcs tx (qq k : Int) n 6 0 (M 142) (M 143)).2.2.2 ≤ 6) ∧ M' 140 4 = ((rcs tx (qq k : Int) n 6 0 (M 142) (M 143)).2.2.2 : Int) ∧ M' 142 = (rcs tx (qq k : Int) n 6 0 (M 142) (M 143)).2.1 ∧ M' 143 = (rcs tx (qq k : Int) n 6 0 (M 142) (M 143)).2.2.1 ∧ Nq (qq k : Int) (rcs tx (qq k : Int) n 6 0 (M 142) (M 143)).2.1 (rcs tx (qq k : Int) n 6 0 (M 142) (M 143)).2.2.2 ∧ Nq (qq k : Int) (rcs tx (qq k : Int) n 6 0 (M 142) (M 143)).2.2.1 (rcs tx (qq k : Int) n 6 0 (M 142) (M 143)).2.2.2) ∧ M' 140 3 = n ∧ (∀ a : Int, a ≠ 140 → a ≠ 142 → a ≠ 143 → M' a = M a)) := by
  have hK : cd 117 = k117 := rfl
  have q1_ := qq_I k
  have q16 := q1_.2
  have tn_ := T.1.2
  show Wp 198 _ 117 0 [(1, 140), (0, (qq k : Int)), (3, 0)] [] M _
  refine w_al hK rfl rfl ?_
  refine w_ic hK rfl ?_
  refine w_puti (n := 5) (m := 5) hK rfl rfl (by decide) (by decide) rfl rfl rfl rfl ?_
  refine w_al hK rfl rfl ?_
  refine w_ic hK rfl ?_
  refine w_puti (n := 4) (m := 4) hK rfl rfl (by decide) (by decide) rfl rfl rfl rfl ?_
  refine w_ic hK rfl ?_
  refine w_is [(1, 140), (0, (qq k : Int)), (0, 0)] hK rfl rfl rfl ?_
  have lp8 : ∀ (n_ : Nat) (j : Nat) (a : Int) (pt wt : Int → Int) (N8 : Mem), 6 - j = n_ → (j ≤ 5) → (0 ≤ a) → (a ≤ n) → (N8 140 3 = n) → (N8 140 4 = (j : Int)) → (N8 140 5 = a) → (N8 142 = pt) → (N8 143 = wt) → (Nq (qq k : Int) pt j) → (Nq (qq k : Int) wt j) → ((∀ a : Int, a ≠ 140 → a ≠ 142 → a ≠ 143 → N8 a = M a)) → (rcs tx (qq k : Int) n (6 - j) a pt wt = rcs tx (qq k : Int) n 6 0 (M 142) (M 143)) → Wp 198 (d + 4) 117 8 [(1, 140), (0, (qq k : Int)), (0, (j : Int))] [] N8 (fun r M' => r = (0, (rcs tx (qq k : Int) n 6 0 (M 142) (M 143)).1) ∧ ((rcs tx (qq k : Int) n 6 0 (M 142) (M 143)).1 = -1 → (1 ≤ (rcs tx (qq k : Int) n 6 0 (M 142) (M 143)).2.2.2 ∧ (rcs tx (qq k : Int) n 6 0 (M 142) (M 143)).2.2.2 ≤ 6) ∧ M' 140 4 = ((rcs tx (qq k : Int) n 6 0 (M 142) (M 143)).2.2.2 : Int) ∧ M' 142 = (rcs tx (qq k : Int) n 6 0 (M 142) (M 143)).2.1 ∧ M' 143 = (rcs tx (qq k : Int) n 6 0 (M 142) (M 143)).2.2.1 ∧ Nq (qq k : Int) (rcs tx (qq k : Int) n 6 0 (M 142) (M 143)).2.1 (rcs tx (qq k : Int) n 6 0 (M 142) (M 143)).2.2.2 ∧ Nq (qq k : Int) (rcs tx (qq k : Int) n 6 0 (M 142) (M 143)).2.2.1 (rcs tx (qq k : Int) n 6 0 (M 142) (M 143)).2.2.2) ∧ M' 140 3 = n ∧ (∀ a : Int, a ≠ 140 → a ≠ 142 → a ≠ 143 → M' a = M a)) := by
    intro n_
    induction n_ using Nat.strongRecOn with
    | _ n_ ih8 =>
    intro j a pt wt N8 hm8 hj ha0 han h3 h4 h5 hpt hwt hN1 hN2 hF hres
    refine w_il hK rfl rfl ?_
    refine w_ic hK rfl ?_
    refine w_ge2 hK rfl (by omega) (by omega) (by omega) (by omega) (fun h10 => ?_) (fun h10 => ?_)
    · exfalso; omega
    · refine w_al hK rfl rfl ?_
      refine w_il hK rfl rfl ?_
      refine w_call [(1, 140), (0, (qq k : Int))] hK rfl rfl rfl rfl (Or.inr ⟨_, _, _, rfl, by decide, (by decide), rfl⟩) (c_rcp (k := k) (TXs.mk2 T h3 (hF 141 (by decide) (by decide) (by decide))) a h5 (by omega) (by omega) (c := j) (by omega) h4 hpt hwt hN1) ?_
      have rI_ := rcp_I T (qq k : Int) a (by omega) (by omega) (by omega) pt j
      rintro _ V6 ⟨⟨rfl, g6, x6⟩ | ⟨rfl, g6, x6, y6, z6, w6⟩, k6, F6⟩
      · refine ⟨by decide, (?_ : Wp 198 _ 117 14 [(1, 140), (0, (qq k : Int)), (0, (j : Int))] [(0, 0)] V6 _)⟩
        refine w_ne hK rfl (by omega) (by omega) (fun h14 => ?_) (fun h14 => ?_)
        · exfalso; omega
        · refine w_al hK rfl rfl ?_
          refine w_geti (n := 6) (m := 6) hK rfl rfl (by decide) (by decide) rfl rfl rfl rfl ?_
          rw [show V6 140 6 = (rcp tx (qq k : Int) a pt j).1 from x6]
          refine w_iret hK rfl rfl ?_
          rw [rcs_at (by omega), if_pos (by omega)] at hres
          rw [← hres]
          exact ⟨rfl, fun q => absurd q (by dsimp only; omega), k6, (fun a n140_ n142_ n143_ => ((F6 a n140_ n142_ n143_).trans (hF a n140_ n142_ n143_)))⟩
      · refine ⟨by decide, (?_ : Wp 198 _ 117 14 [(1, 140), (0, (qq k : Int)), (0, (j : Int))] [(0, 1)] V6 _)⟩
        refine w_ne hK rfl (by omega) (by omega) (fun h14 => ?_) (fun h14 => ?_)
        · refine w_al hK rfl rfl ?_
          refine w_geti (n := 5) (m := 5) hK rfl rfl (by decide) (by decide) rfl rfl rfl rfl ?_
          rw [show V6 140 5 = (rcp tx (qq k : Int) a pt j).2.1 from x6]
          refine w_al hK rfl rfl ?_
          refine w_geti (n := 3) (m := 3) hK rfl rfl (by decide) (by decide) rfl rfl rfl rfl ?_
          rw [show V6 140 3 = n from k6]
          refine w_ne2 hK rfl (by omega) (by omega) (by omega) (by omega) (fun h22 => ?_) (fun h22 => ?_)
          · refine w_al hK rfl rfl ?_
            refine w_al hK rfl rfl ?_
            refine w_geti (n := 5) (m := 5) hK rfl rfl (by decide) (by decide) rfl rfl rfl rfl ?_
            rw [show V6 140 5 = (rcp tx (qq k : Int) a pt j).2.1 from x6]
            refine w_call [(1, 140), (0, (rcp tx (qq k : Int) a pt j).2.1)] hK rfl rfl rfl rfl (Or.inr ⟨_, _, _, rfl, by decide, (by decide), rfl⟩) (c_sgn (TXs.mk2 T k6 ((F6 141 (by decide) (by decide) (by decide)).trans (hF 141 (by decide) (by decide) (by decide)))) ((rcp tx (qq k : Int) a pt j).2.1) (by omega) (by omega)) ?_
            rintro _ Mq ⟨rfl, e_⟩
            subst Mq
            have tI_ := T.I ((rcp tx (qq k : Int) a pt j).2.1)
            refine ⟨by show (0 : Nat) ≠ 9; decide, (?_ : Wp 198 _ 117 29 [(1, 140), (0, (qq k : Int)), (0, (j : Int))] [(0, (tx ((rcp tx (qq k : Int) a pt j).2.1)))] V6 _)⟩
            refine w_ic hK rfl ?_
            refine w_ne2 hK rfl (by omega) (by omega) (by omega) (by omega) (fun h30 => ?_) (fun h30 => ?_)
            · refine w_al hK rfl rfl ?_
              refine w_geti (n := 5) (m := 5) hK rfl rfl (by decide) (by decide) rfl rfl rfl rfl ?_
              rw [show V6 140 5 = (rcp tx (qq k : Int) a pt j).2.1 from x6]
              refine w_iret hK rfl rfl ?_
              rw [rcs_at (by omega), if_neg (by omega), if_neg h22, if_pos (by omega)] at hres
              rw [← hres]
              exact ⟨rfl, fun q => absurd q (by dsimp only; omega), k6, (fun a n140_ n142_ n143_ => ((F6 a n140_ n142_ n143_).trans (hF a n140_ n142_ n143_)))⟩
            · refine w_il hK rfl rfl ?_
              refine w_ic hK rfl ?_
              refine w_add hK rfl (by omega) (by omega) ?_
              refine w_ic hK rfl ?_
              refine w_ne2 hK rfl (by omega) (by omega) (by omega) (by omega) (fun h35 => ?_) (fun h35 => ?_)
              · refine w_al hK rfl rfl ?_
                refine w_dup hK rfl rfl ?_
                refine w_geti (n := 5) (m := 5) hK rfl rfl (by decide) (by decide) rfl rfl rfl rfl ?_
                rw [show V6 140 5 = (rcp tx (qq k : Int) a pt j).2.1 from x6]
                refine w_ic hK rfl ?_
                refine w_add hK rfl (by omega) (by omega) ?_
                refine w_puti (n := 5) (m := 5) hK rfl rfl (by decide) (by decide) rfl rfl rfl rfl ?_
                refine w_inc [(1, 140), (0, (qq k : Int)), (0, ((j : Int) + 1))] hK rfl rfl rfl (by omega) (by omega) rfl ?_
                refine w_goto hK rfl ?_
                exact ih8 _ (by omega) (j + 1) ((rcp tx (qq k : Int) a pt j).2.1 + 1) (upr pt (j : Int) (rcp tx (qq k : Int) a pt j).2.2.1) (upr wt (j : Int) (rcp tx (qq k : Int) a pt j).2.2.2) (up V6 140 5 ((rcp tx (qq k : Int) a pt j).2.1 + 1)) rfl (by omega) (by omega) (by omega) ((up_ne2 (by omega)).trans k6) ((up_ne2 (by omega)).trans y6) up_eq ((up_row (by decide)).trans z6) ((up_row (by decide)).trans w6) (hN1.up (by omega) (by omega)) (hN2.up (by omega) (by omega)) (fun a n140_ n142_ n143_ => ((up_row n140_).trans ((F6 a n140_ n142_ n143_).trans (hF a n140_ n142_ n143_)))) (by
                  rw [← hres, rcs_at (j := j) (a := a) (pt := pt) (wt := wt) (by omega), if_neg (by omega), if_neg h22, if_neg (by omega)])
              · refine w_al hK rfl rfl ?_
                refine w_geti (n := 5) (m := 5) hK rfl rfl (by decide) (by decide) rfl rfl rfl rfl ?_
                rw [show V6 140 5 = (rcp tx (qq k : Int) a pt j).2.1 from x6]
                refine w_iret hK rfl rfl ?_
                rw [rcs_at (by omega), if_neg (by omega), if_neg h22, if_pos (by omega)] at hres
                rw [← hres]
                exact ⟨rfl, fun q => absurd q (by dsimp only; omega), k6, (fun a n140_ n142_ n143_ => ((F6 a n140_ n142_ n143_).trans (hF a n140_ n142_ n143_)))⟩
          · refine w_ic hK rfl ?_
            refine w_iret hK rfl rfl ?_
            rw [rcs_at (by omega), if_neg (by omega), if_pos (by omega)] at hres
            rw [← hres]
            exact ⟨rfl, fun _ => ⟨(by dsimp only; omega), (by show _ = ((j + 1 : Nat) : Int); rw [y6]; omega), (by exact z6), (by exact w6), (by exact hN1.up (by omega) (by omega)), (by exact hN2.up (by omega) (by omega))⟩, k6, (fun a n140_ n142_ n143_ => ((F6 a n140_ n142_ n143_).trans (hF a n140_ n142_ n143_)))⟩
        · exfalso; omega
  exact lp8 _ 0 0 (M 142) (M 143) (up (up M 140 5 0) 140 4 0) rfl (by omega) (by omega) (by omega) ((up_ne2 (by omega)).trans ((up_ne2 (by omega)).trans T.1.1)) up_eq ((up_ne2 (by omega)).trans up_eq) ((up_row (by decide)).trans (up_row (by decide))) ((up_row (by decide)).trans (up_row (by decide))) (fun j hj => by omega) (fun j hj => by omega) (fun a n140_ n142_ n143_ => ((up_row n140_).trans (up_row n140_))) rfl
