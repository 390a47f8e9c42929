/-! the class's calls: powers -/
noncomputable def pwp {k : Nat} (f : Pl k) : Nat → Pl k
  | 0 => one
  | n + 1 => mlp (pwp f n) f
theorem pwp_dg {k : Nat} {f : Pl k} (hf : Bd f 9) {n : Nat} (h : dg f * n ≤ 8) : ∀ j : Nat, j ≤ n → Bd (pwp f j) 17 ∧ dg (pwp f j) ≤ 8 ∧ (0 ≤ dg f → dg (pwp f j) = dg f * j)
  | 0, _ => ⟨one_bd.mono (by decide), by show dg (one : Pl k) ≤ 8; rw [dg_one]; decide, fun _ => by show dg (one : Pl k) = dg f * ((0 : Nat) : Int); rw [dg_one]; omega⟩
  | j + 1, hj => by
    obtain ⟨h1, h2, h3⟩ := pwp_dg hf h j (by omega)
    have p1 := dg_prd (s := 0) (h1.mono (show 17 ≤ 32 by decide)) (hf.mono (show 9 ≤ 32 by decide))
    have p2 : prd 0 (pwp f j) f = pwp f (j + 1) := rfl
    rw [p2] at p1
    have a1 := dg_ge (pwp f (j + 1))
    by_cases q : 0 ≤ dg f
    · have e1 := h3 q
      have e0 : 0 ≤ dg f * (j : Int) := Int.mul_nonneg q (by omega)
      have e2 := p1.2.1 (by omega) q
      have e3 : dg f * ((j + 1 : Nat) : Int) = dg f * (j : Int) + dg f := by
        rw [Int.natCast_add, Int.mul_add]; show dg f * (j : Int) + dg f * 1 = _; rw [Int.mul_one]
      have e4 : dg f * ((j + 1 : Nat) : Int) ≤ dg f * (n : Int) := Int.mul_le_mul_of_nonneg_left (by omega) q
      exact ⟨dg_bd p1.2.2 (by omega), by omega, fun _ => by omega⟩
    · have e2 := p1.1 (Or.inr (by omega))
      rw [e2, dg_pz]
      exact ⟨fun _ _ => rfl, by decide, fun q2 => absurd q2 q⟩
set_option maxRecDepth 100000 in
theorem o_power {d : Nat} {M : Mem} {k : Nat} {pl : Nat → Pl k} {n : Int} {tx : Int → Int} {rc : Nat} {rw : Int → Int} {fc : Nat} {fa : Nat → Pl k} (H : CLS M k pl n tx rc rw fc fa) (i : Nat) (hi : i < 6) (l : Nat) (hl : l < 6) (n0 : Nat) (n8 : n0 ≤ 8) (hm_ : dg (pl i) * (n0 : Int) ≤ 8) : Ct 198 (d + 8) 157 [(1, 0), (0, (i : Int)), (0, (n0 : Int)), (0, (l : Int))] M (fun r_ M' => r_ = (0, (dg (pwp (pl i) n0))) ∧ CLS M' k (fup pl l (pwp (pl i) n0)) n tx rc rw fc fa ∧ (∀ a : Int, (a < 0 ∨ 160 < a) → M' a = M a)) := by
  have hK : cd 157 = k157 := rfl
  obtain ⟨P, u_, l_, z_, C, E, hpl, T, hR, hF⟩ := H
  have q1_ := qq_I k
  have p1_ := pp_I k
  have m1_ := mm_I k
  have bi_ := (hpl i hi).2
  have di_ := dg_lt9 bi_
  have bl_ := (hpl l hl).2
  have dl_ := dg_lt9 bl_
  have mI_ : -8 ≤ dg (pl i) * (n0 : Int) ∧ dg (pl i) * (n0 : Int) ≤ 64 := by
    have e1 : dg (pl i) * (n0 : Int) ≤ 8 * (n0 : Int) := Int.mul_le_mul_of_nonneg_right (by omega) (by omega)
    have e2 : (-1) * (n0 : Int) ≤ dg (pl i) * (n0 : Int) := Int.mul_le_mul_of_nonneg_right (by omega) (by omega)
    omega
  show Wp 198 _ 157 0 [(1, 0), (0, (i : Int)), (0, (n0 : Int)), (0, (l : Int)), (3, 0), (3, 0), (3, 0)] [] M _
  refine w_al hK rfl rfl ?_
  refine w_il hK rfl rfl ?_
  refine w_call [(1, 0), (0, (i : Int))] hK rfl rfl rfl rfl (Or.inr ⟨_, _, _, rfl, by decide, (by decide), rfl⟩) (c_pl i hi) ?_
  rintro _ Mq ⟨rfl, e_⟩
  subst Mq
  refine ⟨(by show (1 : Nat) ≠ 9; decide), (?_ : Wp 198 _ 157 3 [(1, 0), (0, (i : Int)), (0, (n0 : Int)), (0, (l : Int)), (3, 0), (3, 0), (3, 0)] [(1, (149 + 2 * (i : Int)))] M _)⟩
  refine w_as [(1, 0), (0, (i : Int)), (0, (n0 : Int)), (0, (l : Int)), (1, (149 + 2 * (i : Int))), (3, 0), (3, 0)] hK rfl rfl rfl ?_
  refine w_al hK rfl rfl ?_
  refine w_il hK rfl rfl ?_
  refine w_call [(1, 0), (0, (l : Int))] hK rfl rfl rfl rfl (Or.inr ⟨_, _, _, rfl, by decide, (by decide), rfl⟩) (c_pl l hl) ?_
  rintro _ Mq ⟨rfl, e_⟩
  subst Mq
  refine ⟨(by show (1 : Nat) ≠ 9; decide), (?_ : Wp 198 _ 157 7 [(1, 0), (0, (i : Int)), (0, (n0 : Int)), (0, (l : Int)), (1, (149 + 2 * (i : Int))), (3, 0), (3, 0)] [(1, (149 + 2 * (l : Int)))] M _)⟩
  refine w_as [(1, 0), (0, (i : Int)), (0, (n0 : Int)), (0, (l : Int)), (1, (149 + 2 * (i : Int))), (1, (149 + 2 * (l : Int))), (3, 0)] hK rfl rfl rfl ?_
  refine w_al hK rfl rfl ?_
  refine w_null hK rfl (fun h9 => ?_) (fun h9 => ?_)
  · exfalso; omega
  · refine w_al hK rfl rfl ?_
    refine w_null hK rfl (fun h11 => ?_) (fun h11 => ?_)
    · exfalso; omega
    · refine w_il hK rfl rfl ?_
      refine w_lt hK rfl (by omega) (by omega) (fun h13 => ?_) (fun h13 => ?_)
      · exfalso; omega
      · refine w_il hK rfl rfl ?_
        refine w_ic hK rfl ?_
        refine w_le2 hK rfl (by omega) (by omega) (by omega) (by omega) (fun h16 => ?_) (fun h16 => ?_)
        · refine w_al hK rfl rfl ?_
          refine w_pt hK rfl (isPP hi) ?_
          rw [show M (149 + 2 * (i : Int)) 1 = dg (pl i) from C.t ⟨(isPP hi), (hpl i hi).1⟩]
          have tI_ := CS.dI C ⟨(isPP hi), (hpl i hi).1⟩
          refine w_il hK rfl rfl ?_
          refine w_mul hK rfl (by omega) (by omega) ?_
          refine w_ic hK rfl ?_
          refine w_le2 hK rfl (by omega) (by omega) (by omega) (by omega) (fun h24 => ?_) (fun h24 => ?_)
          · refine w_al hK rfl rfl ?_
            refine w_getr (n := 12) (v := 145) hK rfl rfl (by decide) (by decide) rfl rfl rfl rfl ?_
            refine w_ic hK rfl ?_
            refine w_call [(1, 145), (0, 1)] hK rfl rfl rfl rfl (Or.inr ⟨_, _, _, rfl, (isP_of (p := 145) rfl).nn, (isP_of (p := 145) rfl).lb, (isP_of (p := 145) rfl).o⟩) (Ct.cv (c_bec C (isP_of (p := 145) rfl) e1) (by simp only [el1]; try rfl)) ?_
            rintro _ V176 ⟨rfl, C176, S176⟩
            refine ⟨by decide, (?_ : Wp 198 _ 157 31 [(1, 0), (0, (i : Int)), (0, (n0 : Int)), (0, (l : Int)), (1, (149 + 2 * (i : Int))), (1, (149 + 2 * (l : Int))), (3, 0)] [] V176 _)⟩
            refine w_ic hK rfl ?_
            refine w_is [(1, 0), (0, (i : Int)), (0, (n0 : Int)), (0, (l : Int)), (1, (149 + 2 * (i : Int))), (1, (149 + 2 * (l : Int))), (0, 0)] hK rfl rfl rfl ?_
            have lp33 : ∀ (n_ : Nat) (j : Nat) (P1 : Int → Option (Pl k)) (N33 : Mem), 9 - j = n_ → (j ≤ n0) → (CS N33 k P1) → ((∀ p : Int, p ≠ 8 → p ≠ 145 → P1 p = P p)) → (P1 145 = some (pwp (pl i) j)) → ((∀ a : Int, (∀ p : Int, isP p → a ≠ p ∧ a ≠ p + 1) → N33 a = M a)) → Wp 198 (d + 8) 157 33 [(1, 0), (0, (i : Int)), (0, (n0 : Int)), (0, (l : Int)), (1, (149 + 2 * (i : Int))), (1, (149 + 2 * (l : Int))), (0, (j : Int))] [] N33 (fun r_ M' => r_ = (0, (dg (pwp (pl i) n0))) ∧ CLS M' k (fup pl l (pwp (pl i) n0)) n tx rc rw fc fa ∧ (∀ a : Int, (a < 0 ∨ 160 < a) → M' a = M a)) := by
              intro n_
              induction n_ using Nat.strongRecOn with
              | _ n_ ih33 =>
              intro j P1 N33 hm33 hj hC hG hfo hS
              obtain ⟨hq1, hq2, _⟩ := pwp_dg bi_ hm_ j (by omega)
              refine w_il hK rfl rfl ?_
              refine w_il hK rfl rfl ?_
              refine w_ge2 hK rfl (by omega) (by omega) (by omega) (by omega) (fun h35 => ?_) (fun h35 => ?_)
              · refine w_al hK rfl rfl ?_
                refine w_getr (n := 12) (v := 145) hK rfl rfl (by decide) (by decide) rfl rfl rfl rfl ?_
                refine w_al hK rfl rfl ?_
                refine w_call [(1, 145), (1, (149 + 2 * (l : Int)))] hK rfl rfl rfl rfl (Or.inl rfl) (c_keep hC ⟨(isP_of (p := 145) rfl), hfo⟩ (isPP hl) (by omega)) ?_
                rintro _ V177 (⟨g_, rfl, e_⟩ | ⟨g_, rfl, C177, S177⟩)
                · subst V177
                  refine ⟨by decide, (?_ : Wp 198 _ 157 50 [(1, 0), (0, (i : Int)), (0, (n0 : Int)), (0, (l : Int)), (1, (149 + 2 * (i : Int))), (1, (149 + 2 * (l : Int))), (0, (j : Int))] [(0, (-3))] N33 _)⟩
                  refine w_iret hK rfl rfl ?_
                  exfalso; omega
                · refine ⟨(by show (0 : Nat) ≠ 9; decide), (?_ : Wp 198 _ 157 50 [(1, 0), (0, (i : Int)), (0, (n0 : Int)), (0, (l : Int)), (1, (149 + 2 * (i : Int))), (1, (149 + 2 * (l : Int))), (0, (j : Int))] [(0, (dg (pwp (pl i) j)))] V177 _)⟩
                  refine w_iret hK rfl rfl ?_
                  have e_ : j = n0 := by omega
                  subst e_
                  exact ⟨rfl, ⟨_, u_, l_, z_, C177, (ES.keep E ((S177 18 (notP rfl)).trans (hS 18 (notP rfl)))), (PLs.put hpl pu_eq (Bd9.of (CS.bd C177 ⟨isPP hl, pu_eq⟩) g_) (fun q_ hq_ hn_ => ((pu_ne (P := P1) (f := pwp (pl i) j) (show (149 + 2 * (q_ : Int)) ≠ (149 + 2 * (l : Int)) by omega)).trans (hG (149 + 2 * (q_ : Int)) (by omega) (by omega))))), (TXs.keep T ((S177 140 (notP rfl)).trans (hS 140 (notP rfl))) ((S177 141 (notP rfl)).trans (hS 141 (notP rfl)))), (RWs.keep hR ((S177 0 (notP rfl)).trans (hS 0 (notP rfl))) ((S177 144 (notP rfl)).trans (hS 144 (notP rfl)))), (FCs.keep hF ((S177 52 (notP rfl)).trans (hS 52 (notP rfl))) (fun q_ hq_ => ((pu_ne (P := P1) (f := pwp (pl i) j) (show (68 + 6 * (q_ : Int)) ≠ (149 + 2 * (l : Int)) by omega)).trans (hG (68 + 6 * (q_ : Int)) (by omega) (by omega)))))⟩, (fun a h_ => ((S177 a (npC h_)).trans (hS a (npC h_))))⟩
              · refine w_al hK rfl rfl ?_
                refine w_getr (n := 1) (v := 7) hK rfl rfl (by decide) (by decide) rfl rfl rfl rfl ?_
                refine w_al hK rfl rfl ?_
                refine w_getr (n := 12) (v := 145) hK rfl rfl (by decide) (by decide) rfl rfl rfl rfl ?_
                refine w_al hK rfl rfl ?_
                refine w_al hK rfl rfl ?_
                refine w_getr (n := 12) (v := 145) hK rfl rfl (by decide) (by decide) rfl rfl rfl rfl ?_
                refine w_call [(1, 7), (1, 145), (1, (149 + 2 * (i : Int))), (1, 145)] hK rfl rfl rfl rfl (Or.inr ⟨_, _, _, rfl, by decide, (by decide), rfl⟩) (c_rprd hC ⟨(isP_of (p := 145) rfl), hfo⟩ ⟨(isPP hi), ((hG (149 + 2 * (i : Int)) (by omega) (by omega)).trans (hpl i hi).1)⟩ (isP_of (p := 145) rfl) (by omega) (by omega) (by omega)) ?_
                rintro _ V178 ⟨rfl, C178, S178⟩
                refine ⟨by decide, (?_ : Wp 198 _ 157 44 [(1, 0), (0, (i : Int)), (0, (n0 : Int)), (0, (l : Int)), (1, (149 + 2 * (i : Int))), (1, (149 + 2 * (l : Int))), (0, (j : Int))] [] V178 _)⟩
                refine w_inc [(1, 0), (0, (i : Int)), (0, (n0 : Int)), (0, (l : Int)), (1, (149 + 2 * (i : Int))), (1, (149 + 2 * (l : Int))), (0, ((j : Int) + 1))] hK rfl rfl rfl (by omega) (by omega) rfl ?_
                refine w_goto hK rfl ?_
                exact ih33 _ (by omega) (j + 1) _ V178 rfl (by omega) C178 (fun p pn8_ pn145_ => ((pu_ne (P := pu P1 8 (mlp (pwp (pl i) j) (pl i))) (f := mlp (pwp (pl i) j) (pl i)) (show p ≠ 145 by omega)).trans ((pu_ne (P := P1) (f := mlp (pwp (pl i) j) (pl i)) (show p ≠ 8 by omega)).trans (hG p pn8_ pn145_)))) pu_eq (fun a np_ => ((S178 a np_).trans (hS a np_)))
            exact lp33 _ 0 _ V176 rfl (by omega) C176 (fun p pn8_ pn145_ => (pu_ne (P := P) (f := cst e1) (show p ≠ 145 by omega))) pu_eq (fun a np_ => (S176 a np_))
          · exfalso; omega
        · exfalso; omega
set_option maxRecDepth 100000 in
theorem z_power {d : Nat} {M : Mem} {k : Nat} {pl : Nat → Pl k} {n : Int} {tx : Int → Int} {rc : Nat} {rw : Int → Int} {fc : Nat} {fa : Nat → Pl k} (H : CLS M k pl n tx rc rw fc fa) (i : Nat) (hi : i < 6) (l : Nat) (hl : l < 6) (n0 : Nat) (n8 : n0 ≤ 8) (hm_ : 8 < dg (pl i) * (n0 : Int)) : Ct 198 (d + 8) 157 [(1, 0), (0, (i : Int)), (0, (n0 : Int)), (0, (l : Int))] M (fun r_ M' => r_ = (0, -3) ∧ M' = M) := by
  have hK : cd 157 = k157 := rfl
  obtain ⟨P, u_, l_, z_, C, E, hpl, T, hR, hF⟩ := H
  have q1_ := qq_I k
  have p1_ := pp_I k
  have m1_ := mm_I k
  have bi_ := (hpl i hi).2
  have di_ := dg_lt9 bi_
  have bl_ := (hpl l hl).2
  have dl_ := dg_lt9 bl_
  have mI_ : -8 ≤ dg (pl i) * (n0 : Int) ∧ dg (pl i) * (n0 : Int) ≤ 64 := by
    have e1 : dg (pl i) * (n0 : Int) ≤ 8 * (n0 : Int) := Int.mul_le_mul_of_nonneg_right (by omega) (by omega)
    have e2 : (-1) * (n0 : Int) ≤ dg (pl i) * (n0 : Int) := Int.mul_le_mul_of_nonneg_right (by omega) (by omega)
    omega
  show Wp 198 _ 157 0 [(1, 0), (0, (i : Int)), (0, (n0 : Int)), (0, (l : Int)), (3, 0), (3, 0), (3, 0)] [] M _
  refine w_al hK rfl rfl ?_
  refine w_il hK rfl rfl ?_
  refine w_call [(1, 0), (0, (i : Int))] hK rfl rfl rfl rfl (Or.inr ⟨_, _, _, rfl, by decide, (by decide), rfl⟩) (c_pl i hi) ?_
  rintro _ Mq ⟨rfl, e_⟩
  subst Mq
  refine ⟨(by show (1 : Nat) ≠ 9; decide), (?_ : Wp 198 _ 157 3 [(1, 0), (0, (i : Int)), (0, (n0 : Int)), (0, (l : Int)), (3, 0), (3, 0), (3, 0)] [(1, (149 + 2 * (i : Int)))] M _)⟩
  refine w_as [(1, 0), (0, (i : Int)), (0, (n0 : Int)), (0, (l : Int)), (1, (149 + 2 * (i : Int))), (3, 0), (3, 0)] hK rfl rfl rfl ?_
  refine w_al hK rfl rfl ?_
  refine w_il hK rfl rfl ?_
  refine w_call [(1, 0), (0, (l : Int))] hK rfl rfl rfl rfl (Or.inr ⟨_, _, _, rfl, by decide, (by decide), rfl⟩) (c_pl l hl) ?_
  rintro _ Mq ⟨rfl, e_⟩
  subst Mq
  refine ⟨(by show (1 : Nat) ≠ 9; decide), (?_ : Wp 198 _ 157 7 [(1, 0), (0, (i : Int)), (0, (n0 : Int)), (0, (l : Int)), (1, (149 + 2 * (i : Int))), (3, 0), (3, 0)] [(1, (149 + 2 * (l : Int)))] M _)⟩
  refine w_as [(1, 0), (0, (i : Int)), (0, (n0 : Int)), (0, (l : Int)), (1, (149 + 2 * (i : Int))), (1, (149 + 2 * (l : Int))), (3, 0)] hK rfl rfl rfl ?_
  refine w_al hK rfl rfl ?_
  refine w_null hK rfl (fun h9 => ?_) (fun h9 => ?_)
  · exfalso; omega
  · refine w_al hK rfl rfl ?_
    refine w_null hK rfl (fun h11 => ?_) (fun h11 => ?_)
    · exfalso; omega
    · refine w_il hK rfl rfl ?_
      refine w_lt hK rfl (by omega) (by omega) (fun h13 => ?_) (fun h13 => ?_)
      · exfalso; omega
      · refine w_il hK rfl rfl ?_
        refine w_ic hK rfl ?_
        refine w_le2 hK rfl (by omega) (by omega) (by omega) (by omega) (fun h16 => ?_) (fun h16 => ?_)
        · refine w_al hK rfl rfl ?_
          refine w_pt hK rfl (isPP hi) ?_
          rw [show M (149 + 2 * (i : Int)) 1 = dg (pl i) from C.t ⟨(isPP hi), (hpl i hi).1⟩]
          have tI_ := CS.dI C ⟨(isPP hi), (hpl i hi).1⟩
          refine w_il hK rfl rfl ?_
          refine w_mul hK rfl (by omega) (by omega) ?_
          refine w_ic hK rfl ?_
          refine w_le2 hK rfl (by omega) (by omega) (by omega) (by omega) (fun h24 => ?_) (fun h24 => ?_)
          · exfalso; omega
          · refine w_ic hK rfl ?_
            refine w_iret hK rfl rfl ?_
            exact ⟨rfl, rfl⟩
        · exfalso; omega
set_option maxRecDepth 100000 in
theorem n_power {d : Nat} {M : Mem} {k : Nat} {pl : Nat → Pl k} {n : Int} {tx : Int → Int} {rc : Nat} {rw : Int → Int} {fc : Nat} {fa : Nat → Pl k} (H : CLS M k pl n tx rc rw fc fa) (i n0 l : Int) (i1_ : -2147483648 ≤ i) (i2_ : i ≤ 2147483647) (n01_ : -2147483648 ≤ n0) (n02_ : n0 ≤ 2147483647) (l1_ : -2147483648 ≤ l) (l2_ : l ≤ 2147483647) (hn : ¬ ((0 ≤ i ∧ i < 6) ∧ (0 ≤ l ∧ l < 6) ∧ 0 ≤ n0 ∧ n0 ≤ 8)) : Ct 198 (d + 8) 157 [(1, 0), (0, i), (0, n0), (0, l)] M (fun r_ M' => r_ = (0, -2) ∧ M' = M) := by
  have hK : cd 157 = k157 := rfl
  obtain ⟨P, u_, l_, z_, C, E, hpl, T, hR, hF⟩ := H
  have q1_ := qq_I k
  have p1_ := pp_I k
  have m1_ := mm_I k
  show Wp 198 _ 157 0 [(1, 0), (0, i), (0, n0), (0, l), (3, 0), (3, 0), (3, 0)] [] M _
  refine w_al hK rfl rfl ?_
  refine w_il hK rfl rfl ?_
  refine w_call [(1, 0), (0, i)] hK rfl rfl rfl rfl (Or.inr ⟨_, _, _, rfl, by decide, (by decide), rfl⟩) (c_plI i (by omega) (by omega)) ?_
  rintro _ Mq ⟨rfl, e_⟩
  subst Mq
  have pI_ := plr_I i
  refine ⟨(by show (1 : Nat) ≠ 9; decide), (?_ : Wp 198 _ 157 3 [(1, 0), (0, i), (0, n0), (0, l), (3, 0), (3, 0), (3, 0)] [(1, (plr i))] M _)⟩
  refine w_as [(1, 0), (0, i), (0, n0), (0, l), (1, (plr i)), (3, 0), (3, 0)] hK rfl rfl rfl ?_
  refine w_al hK rfl rfl ?_
  refine w_il hK rfl rfl ?_
  refine w_call [(1, 0), (0, l)] hK rfl rfl rfl rfl (Or.inr ⟨_, _, _, rfl, by decide, (by decide), rfl⟩) (c_plI l (by omega) (by omega)) ?_
  rintro _ Mq ⟨rfl, e_⟩
  subst Mq
  have pI_ := plr_I l
  refine ⟨(by show (1 : Nat) ≠ 9; decide), (?_ : Wp 198 _ 157 7 [(1, 0), (0, i), (0, n0), (0, l), (1, (plr i)), (3, 0), (3, 0)] [(1, (plr l))] M _)⟩
  refine w_as [(1, 0), (0, i), (0, n0), (0, l), (1, (plr i)), (1, (plr l)), (3, 0)] hK rfl rfl rfl ?_
  refine w_al hK rfl rfl ?_
  refine w_null hK rfl (fun h9 => ?_) (fun h9 => ?_)
  · refine w_ic hK rfl ?_
    refine w_iret hK rfl rfl ?_
    exact ⟨rfl, rfl⟩
  · refine w_al hK rfl rfl ?_
    refine w_null hK rfl (fun h11 => ?_) (fun h11 => ?_)
    · refine w_ic hK rfl ?_
      refine w_iret hK rfl rfl ?_
      exact ⟨rfl, rfl⟩
    · refine w_il hK rfl rfl ?_
      refine w_lt hK rfl (by omega) (by omega) (fun h13 => ?_) (fun h13 => ?_)
      · refine w_ic hK rfl ?_
        refine w_iret hK rfl rfl ?_
        exact ⟨rfl, rfl⟩
      · refine w_il hK rfl rfl ?_
        refine w_ic hK rfl ?_
        refine w_le2 hK rfl (by omega) (by omega) (by omega) (by omega) (fun h16 => ?_) (fun h16 => ?_)
        · exfalso; omega
        · refine w_ic hK rfl ?_
          refine w_iret hK rfl rfl ?_
          exact ⟨rfl, rfl⟩
