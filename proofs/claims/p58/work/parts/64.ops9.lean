/-! the class's calls: the steps of the chain -/
/-- a row told from its first number on -/
def stw (g : Nat → Int) (rw_ : Int → Int) : Nat → Int → Int
  | 0 => rw_
  | n + 1 => upr (stw g rw_ n) (n : Int) (g n)
/-- how many divisions the chain has -/
noncomputable def euN {k : Nat} (s : Int) (x y : Pl k) : Nat := Classical.epsilon fun n => EuE s x y n
theorem euN_eq {k : Nat} {s : Int} {x y : Pl k} {n : Nat} (h : EuE s x y n) : euN s x y = n := by
  have h2 : EuE s x y (euN s x y) := Classical.epsilon_spec (p := fun n => EuE s x y n) ⟨n, h⟩
  exact h2.uniq h
theorem eu_dg {k : Nat} {s : Int} {x y : Pl k} {n : Nat} (hx : Bd x 9) (hy : Bd y 9) (h : EuE s x y n) (j : Nat) (hj : j ≤ n) : dg (eu s x y j).2.1 ≤ 8 := by
  have hB : ∀ j : Nat, j ≤ n → EuB (eu s x y j) := fun j => by
    induction j with
    | zero => exact fun _ => EuB.zero hx hy
    | succ j ih => exact fun hj => (ih (by omega)).step (by
        have h1 := ih (by omega)
        have h2 := h.1 j (by omega)
        rcases Int.lt_or_le (dg (eu s x y j).2.1) 0 with q | q
        · exact absurd ((dg_neg (h1.1.2.mono (by decide))).mp q) h2
        · exact q)
  exact (dg_lt9 (hB j hj).1.2).2
set_option maxRecDepth 100000 in
theorem o_steps {d : Nat} {M : Mem} {k : Nat} {pl : Nat → Pl k} {n : Int} {tx : Int → Int} {rc : Nat} {rw : Int → Int} {fc : Nat} {fa : Nat → Pl k} (H : CLS M k pl n tx rc rw fc fa) (i : Nat) (hi : i < 6) (j : Nat) (hj : j < 6) (s : Int) (hs_ : s = 0 ∨ s = 1) : Ct 198 (d + 8) 151 [(1, 0), (0, (i : Int)), (0, (j : Int)), (0, s)] M (fun r_ M' => r_ = (0, (euN s (pl i) (pl j) : Int)) ∧ CLS M' k pl n tx (euN s (pl i) (pl j)) (stw (fun m_ : Nat => dg (eu s (pl i) (pl j) (m_ + 1)).2.1) rw (euN s (pl i) (pl j))) fc fa ∧ (∀ a : Int, (a < 0 ∨ 160 < a) → M' a = M a)) := by
  have hK : cd 151 = k151 := rfl
  obtain ⟨P, u_, l_, z_, C, E, hpl, T, hR, hF⟩ := H
  have q1_ := qq_I k
  have p1_ := pp_I k
  have m1_ := mm_I k
  have bi_ := (hpl i hi).2
  have di_ := dg_lt9 bi_
  have bj_ := (hpl j hj).2
  have dj_ := dg_lt9 bj_
  show Wp 198 _ 151 0 [(1, 0), (0, (i : Int)), (0, (j : Int)), (0, s), (3, 0), (3, 0), (3, 0), (3, 0)] [] M _
  refine w_al hK rfl rfl ?_
  refine w_il hK rfl rfl ?_
  refine w_call [(1, 0), (0, (i : Int))] hK rfl rfl rfl rfl (Or.inr ⟨_, _, _, rfl, by decide, (by decide), rfl⟩) (c_pl i hi) ?_
  rintro _ Mq ⟨rfl, e_⟩
  subst Mq
  refine ⟨(by show (1 : Nat) ≠ 9; decide), (?_ : Wp 198 _ 151 3 [(1, 0), (0, (i : Int)), (0, (j : Int)), (0, s), (3, 0), (3, 0), (3, 0), (3, 0)] [(1, (149 + 2 * (i : Int)))] M _)⟩
  refine w_as [(1, 0), (0, (i : Int)), (0, (j : Int)), (0, s), (1, (149 + 2 * (i : Int))), (3, 0), (3, 0), (3, 0)] hK rfl rfl rfl ?_
  refine w_al hK rfl rfl ?_
  refine w_il hK rfl rfl ?_
  refine w_call [(1, 0), (0, (j : Int))] hK rfl rfl rfl rfl (Or.inr ⟨_, _, _, rfl, by decide, (by decide), rfl⟩) (c_pl j hj) ?_
  rintro _ Mq ⟨rfl, e_⟩
  subst Mq
  refine ⟨(by show (1 : Nat) ≠ 9; decide), (?_ : Wp 198 _ 151 7 [(1, 0), (0, (i : Int)), (0, (j : Int)), (0, s), (1, (149 + 2 * (i : Int))), (3, 0), (3, 0), (3, 0)] [(1, (149 + 2 * (j : Int)))] M _)⟩
  refine w_as [(1, 0), (0, (i : Int)), (0, (j : Int)), (0, s), (1, (149 + 2 * (i : Int))), (1, (149 + 2 * (j : Int))), (3, 0), (3, 0)] hK rfl rfl rfl ?_
  refine w_al hK rfl rfl ?_
  refine w_null hK rfl (fun h9 => ?_) (fun h9 => ?_)
  · exfalso; omega
  · refine w_al hK rfl rfl ?_
    refine w_null hK rfl (fun h11 => ?_) (fun h11 => ?_)
    · exfalso; omega
    · refine w_il hK rfl rfl ?_
      refine w_call [(0, s)] hK rfl rfl rfl rfl (Or.inl rfl) (c_side s (by omega) (by omega)) ?_
      rintro _ Mq ⟨rfl, e_⟩
      subst Mq
      refine ⟨by show (0 : Nat) ≠ 9; decide, (?_ : Wp 198 _ 151 14 [(1, 0), (0, (i : Int)), (0, (j : Int)), (0, s), (1, (149 + 2 * (i : Int))), (1, (149 + 2 * (j : Int))), (3, 0), (3, 0)] [(0, (if s = 0 ∨ s = 1 then 1 else 0))] M _)⟩
      have tI_ := ite01 (s = 0 ∨ s = 1)
      refine w_ne hK rfl (by omega) (by omega) (fun h14 => ?_) (fun h14 => ?_)
      · refine w_al hK rfl rfl ?_
        refine w_getr (n := 2) (v := 18) hK rfl rfl (by decide) (by decide) rfl rfl rfl rfl ?_
        refine w_al hK rfl rfl ?_
        refine w_al hK rfl rfl ?_
        refine w_il hK rfl rfl ?_
        refine w_call [(1, 18), (1, (149 + 2 * (i : Int))), (1, (149 + 2 * (j : Int))), (0, s)] hK rfl rfl rfl rfl (Or.inr ⟨_, _, _, rfl, by decide, (by decide), rfl⟩) (c_divs C E ⟨(isPP hi), (hpl i hi).1⟩ ⟨(isPP hj), (hpl j hj).1⟩ s hs_ (by omega) (by omega) bi_ bj_) ?_
        rintro _ V183 ⟨P183, u1_, l1_, z1_, n1_, rfl, C183, E183, S183, F183, ⟨hn9_, hEu_⟩, hRd_⟩
        refine ⟨(by show (0 : Nat) ≠ 9; decide), (?_ : Wp 198 _ 151 23 [(1, 0), (0, (i : Int)), (0, (j : Int)), (0, s), (1, (149 + 2 * (i : Int))), (1, (149 + 2 * (j : Int))), (3, 0), (3, 0)] [(0, (n1_ : Int))] V183 _)⟩
        refine w_is [(1, 0), (0, (i : Int)), (0, (j : Int)), (0, s), (1, (149 + 2 * (i : Int))), (1, (149 + 2 * (j : Int))), (0, (n1_ : Int)), (3, 0)] hK rfl rfl rfl ?_
        refine w_al hK rfl rfl ?_
        refine w_call [(1, 0)] hK rfl rfl rfl rfl (Or.inr ⟨_, _, _, rfl, by decide, (by decide), rfl⟩) (c_start0 (RWs.keep hR (S183 0 (by decide) (by decide) (notP rfl)) (S183 144 (by decide) (by decide) (notP rfl)))) ?_
        rintro _ V184 ⟨rfl, R184, F184⟩
        refine ⟨by decide, (?_ : Wp 198 _ 151 26 [(1, 0), (0, (i : Int)), (0, (j : Int)), (0, s), (1, (149 + 2 * (i : Int))), (1, (149 + 2 * (j : Int))), (0, (n1_ : Int)), (3, 0)] [] V184 _)⟩
        refine w_ic hK rfl ?_
        refine w_is [(1, 0), (0, (i : Int)), (0, (j : Int)), (0, s), (1, (149 + 2 * (i : Int))), (1, (149 + 2 * (j : Int))), (0, (n1_ : Int)), (0, 0)] hK rfl rfl rfl ?_
        have lp28 : ∀ (n_ : Nat) (a : Nat) (N28 : Mem), 17 - a = n_ → (a ≤ n1_) → (RWs N28 a (stw (fun m_ : Nat => dg (eu s (pl i) (pl j) (m_ + 1)).2.1) rw a)) → ((∀ a : Int, a ≠ 0 → a ≠ 144 → N28 a = V183 a)) → Wp 198 (d + 8) 151 28 [(1, 0), (0, (i : Int)), (0, (j : Int)), (0, s), (1, (149 + 2 * (i : Int))), (1, (149 + 2 * (j : Int))), (0, (n1_ : Int)), (0, (a : Int))] [] N28 (fun r_ M' => r_ = (0, (euN s (pl i) (pl j) : Int)) ∧ CLS M' k pl n tx (euN s (pl i) (pl j)) (stw (fun m_ : Nat => dg (eu s (pl i) (pl j) (m_ + 1)).2.1) rw (euN s (pl i) (pl j))) fc fa ∧ (∀ a : Int, (a < 0 ∨ 160 < a) → M' a = M a)) := by
          intro n_
          induction n_ using Nat.strongRecOn with
          | _ n_ ih28 =>
          intro a N28 hm28 hj_ hR_ hS
          refine w_il hK rfl rfl ?_
          refine w_il hK rfl rfl ?_
          refine w_ge2 hK rfl (by omega) (by omega) (by omega) (by omega) (fun h30 => ?_) (fun h30 => ?_)
          · refine w_il hK rfl rfl ?_
            refine w_iret hK rfl rfl ?_
            have e_ : a = n1_ := by omega
            subst e_
            rw [euN_eq hEu_]
            exact ⟨rfl, ⟨_, u1_, l1_, z1_, (CS.congr C183 (fun a ha_ => hS a (CSc_ne ha_ (by decide) (notP rfl)) (CSc_ne ha_ (by decide) (notP rfl)))), (ES.keep E183 (hS 18 (by decide) (by decide))), (PLs.keep hpl (fun q_ hq_ => (F183 (149 + 2 * (q_ : Int)) (by omega)))), (TXs.keep T ((hS 140 (by decide) (by decide)).trans (S183 140 (by decide) (by decide) (notP rfl))) ((hS 141 (by decide) (by decide)).trans (S183 141 (by decide) (by decide) (notP rfl)))), hR_, (FCs.keep hF ((hS 52 (by decide) (by decide)).trans (S183 52 (by decide) (by decide) (notP rfl))) (fun q_ hq_ => (F183 (68 + 6 * (q_ : Int)) (by omega))))⟩, (fun a h_ => ((hS a (by omega) (by omega)).trans (S183 a (by omega) (by omega) (npC h_))))⟩
          · refine w_al hK rfl rfl ?_
            refine w_al hK rfl rfl ?_
            refine w_getr (n := 2) (v := 18) hK rfl rfl (by decide) (by decide) rfl rfl rfl rfl ?_
            refine w_il hK rfl rfl ?_
            refine w_call [(1, 18), (0, (a : Int))] hK rfl rfl rfl rfl (Or.inr ⟨_, _, _, rfl, by decide, (by decide), rfl⟩) (c_rdeg (a : Int) (by omega) (by omega)) ?_
            rintro _ Mq ⟨rfl, e_⟩
            subst Mq
            rw [show N28 44 (a : Int) = dg (eu s (pl i) (pl j) (a + 1)).2.1 from (congrFun (hS 44 (by decide) (by decide)) _).trans (hRd_ a (by omega))]
            have gD_ := dg_ge (eu s (pl i) (pl j) (a + 1)).2.1
            have gE_ := eu_dg bi_ bj_ hEu_ (a + 1) (by omega)
            refine ⟨(by show (0 : Nat) ≠ 9; decide), (?_ : Wp 198 _ 151 36 [(1, 0), (0, (i : Int)), (0, (j : Int)), (0, s), (1, (149 + 2 * (i : Int))), (1, (149 + 2 * (j : Int))), (0, (n1_ : Int)), (0, (a : Int))] [(0, (dg (eu s (pl i) (pl j) (a + 1)).2.1)), (1, 0)] N28 _)⟩
            refine w_i2l hK rfl (by omega) (by omega) ?_
            refine w_call [(1, 0), (2, (dg (eu s (pl i) (pl j) (a + 1)).2.1))] hK rfl rfl rfl rfl (Or.inr ⟨_, _, _, rfl, by decide, (by decide), rfl⟩) (c_tell hR_ (by omega) (dg (eu s (pl i) (pl j) (a + 1)).2.1)) ?_
            rintro _ V185 ⟨rfl, R185, F185⟩
            refine ⟨by decide, (?_ : Wp 198 _ 151 38 [(1, 0), (0, (i : Int)), (0, (j : Int)), (0, s), (1, (149 + 2 * (i : Int))), (1, (149 + 2 * (j : Int))), (0, (n1_ : Int)), (0, (a : Int))] [] V185 _)⟩
            refine w_inc [(1, 0), (0, (i : Int)), (0, (j : Int)), (0, s), (1, (149 + 2 * (i : Int))), (1, (149 + 2 * (j : Int))), (0, (n1_ : Int)), (0, ((a : Int) + 1))] hK rfl rfl rfl (by omega) (by omega) rfl ?_
            refine w_goto hK rfl ?_
            exact ih28 _ (by omega) (a + 1) V185 rfl (by omega) R185 (fun a n0_ n144_ => ((F185 a n0_ n144_).trans (hS a n0_ n144_)))
        exact lp28 _ 0 V184 rfl (by omega) R184 (fun a n0_ n144_ => (F184 a n0_))
      · exfalso; omega
set_option maxRecDepth 100000 in
theorem n_steps {d : Nat} {M : Mem} {k : Nat} {pl : Nat → Pl k} {n : Int} {tx : Int → Int} {rc : Nat} {rw : Int → Int} {fc : Nat} {fa : Nat → Pl k} (H : CLS M k pl n tx rc rw fc fa) (i j s : Int) (i1_ : -2147483648 ≤ i) (i2_ : i ≤ 2147483647) (j1_ : -2147483648 ≤ j) (j2_ : j ≤ 2147483647) (s1_ : -2147483648 ≤ s) (s2_ : s ≤ 2147483647) (hn : ¬ ((0 ≤ i ∧ i < 6) ∧ (0 ≤ j ∧ j < 6) ∧ (s = 0 ∨ s = 1))) : Ct 198 (d + 8) 151 [(1, 0), (0, i), (0, j), (0, s)] M (fun r_ M' => r_ = (0, -1) ∧ M' = M) := by
  have hK : cd 151 = k151 := rfl
  obtain ⟨P, u_, l_, z_, C, E, hpl, T, hR, hF⟩ := H
  have q1_ := qq_I k
  have p1_ := pp_I k
  have m1_ := mm_I k
  show Wp 198 _ 151 0 [(1, 0), (0, i), (0, j), (0, s), (3, 0), (3, 0), (3, 0), (3, 0)] [] M _
  refine w_al hK rfl rfl ?_
  refine w_il hK rfl rfl ?_
  refine w_call [(1, 0), (0, i)] hK rfl rfl rfl rfl (Or.inr ⟨_, _, _, rfl, by decide, (by decide), rfl⟩) (c_plI i (by omega) (by omega)) ?_
  rintro _ Mq ⟨rfl, e_⟩
  subst Mq
  have pI_ := plr_I i
  refine ⟨(by show (1 : Nat) ≠ 9; decide), (?_ : Wp 198 _ 151 3 [(1, 0), (0, i), (0, j), (0, s), (3, 0), (3, 0), (3, 0), (3, 0)] [(1, (plr i))] M _)⟩
  refine w_as [(1, 0), (0, i), (0, j), (0, s), (1, (plr i)), (3, 0), (3, 0), (3, 0)] hK rfl rfl rfl ?_
  refine w_al hK rfl rfl ?_
  refine w_il hK rfl rfl ?_
  refine w_call [(1, 0), (0, j)] hK rfl rfl rfl rfl (Or.inr ⟨_, _, _, rfl, by decide, (by decide), rfl⟩) (c_plI j (by omega) (by omega)) ?_
  rintro _ Mq ⟨rfl, e_⟩
  subst Mq
  have pI_ := plr_I j
  refine ⟨(by show (1 : Nat) ≠ 9; decide), (?_ : Wp 198 _ 151 7 [(1, 0), (0, i), (0, j), (0, s), (1, (plr i)), (3, 0), (3, 0), (3, 0)] [(1, (plr j))] M _)⟩
  refine w_as [(1, 0), (0, i), (0, j), (0, s), (1, (plr i)), (1, (plr j)), (3, 0), (3, 0)] hK rfl rfl rfl ?_
  refine w_al hK rfl rfl ?_
  refine w_null hK rfl (fun h9 => ?_) (fun h9 => ?_)
  · refine w_ic hK rfl ?_
    refine w_iret hK rfl rfl ?_
    exact ⟨rfl, rfl⟩
  · refine w_al hK rfl rfl ?_
    refine w_null hK rfl (fun h11 => ?_) (fun h11 => ?_)
    · refine w_ic hK rfl ?_
      refine w_iret hK rfl rfl ?_
      exact ⟨rfl, rfl⟩
    · refine w_il hK rfl rfl ?_
      refine w_call [(0, s)] hK rfl rfl rfl rfl (Or.inl rfl) (c_side s (by omega) (by omega)) ?_
      rintro _ Mq ⟨rfl, e_⟩
      subst Mq
      refine ⟨by show (0 : Nat) ≠ 9; decide, (?_ : Wp 198 _ 151 14 [(1, 0), (0, i), (0, j), (0, s), (1, (plr i)), (1, (plr j)), (3, 0), (3, 0)] [(0, (if s = 0 ∨ s = 1 then 1 else 0))] M _)⟩
      have tI_ := ite01 (s = 0 ∨ s = 1)
      refine w_ne hK rfl (by omega) (by omega) (fun h14 => ?_) (fun h14 => ?_)
      · exfalso; omega
      · refine w_ic hK rfl ?_
        refine w_iret hK rfl rfl ?_
        exact ⟨rfl, rfl⟩
