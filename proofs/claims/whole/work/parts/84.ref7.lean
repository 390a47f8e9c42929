/-! the reference's calls: products, division, forms */ -/
theorem dg_mon {k : Nat} {s : Int} {f : Pl k} {n : Nat} (h : Bd f n) (hn : n ≤ 64) (h0 : 0 ≤ dg f) : dg (mon s f) = dg f := by
  have hd := dg_is (h.mono hn)
  have h1 : ld f = f (dg f).toNat := by unfold ld; rw [cf_toNat h0]
  have hl : ld f ≠ z0 := by rw [h1]; exact hd.2.2 h0
  refine dg_eq ((Bd_mon s h).mono hn) ⟨hd.1, fun j hj => ?_, fun _ => ?_⟩
  · unfold mon
    split
    · show ml (iv (ld f)) (f j) = z0
      rw [hd.2.1 j hj, ml_zero]
    · show ml (f j) (sg j (sgI (-(dg f)) (iv (ld f)))) = z0
      rw [hd.2.1 j hj, zero_ml]
  · unfold mon
    split
    · exact fun q => (ml_eq_zero q).elim (fun q2 => iv_ne hl q2) (fun q2 => hd.2.2 h0 q2)
    · exact fun q => (ml_eq_zero q).elim (fun q2 => hd.2.2 h0 q2) (fun q2 => sg_ne (show sgI (-(dg f)) (iv (ld f)) ≠ z0 from sg_ne (iv_ne hl)) q2)
theorem dg_pr16 {k : Nat} {f g : Pl k} (hf : Bd f 9) (hg : Bd g 9) : -1 ≤ dg (mlp f g) ∧ dg (mlp f g) ≤ 16 ∧ Bd (mlp f g) 18 := by
  have h := Bd_mlp hf hg
  have h2 := dg_prd (s := 0) (hf.mono (show 9 ≤ 32 by decide)) (hg.mono (show 9 ≤ 32 by decide))
  have e : prd 0 f g = mlp f g := rfl
  rw [e] at h2
  have h3 := dg_lt9 hf
  have h4 := dg_lt9 hg
  refine ⟨dg_ge _, ?_, h⟩
  by_cases q : dg f < 0 ∨ dg g < 0
  · rw [h2.1 q, dg_pz]; decide
  · rw [h2.2.1 (by omega) (by omega)]; omega
theorem Bd9.of64 {k : Nat} {f : Pl k} {n : Nat} (h : Bd f n) (hn : n ≤ 64) (hd : dg f ≤ 8) : Bd f 9 := dg_bd (h.mono hn) (by omega)
theorem eu_B {k : Nat} {s : Int} {x y : Pl k} (hx : Bd x 9) (hy : Bd y 9) : ∀ n : Nat, (∀ m : Nat, m < n → (eu s x y m).2.1 ≠ pz) → EuB (eu s x y n)
  | 0, _ => EuB.zero hx hy
  | n + 1, h => by
    have h1 := eu_B hx hy n (fun m hm => h m (by omega))
    refine h1.step ?_
    rcases Int.lt_or_le (dg (eu s x y n).2.1) 0 with q | q
    · exact absurd ((dg_neg (h1.1.2.mono (by decide))).mp q) (h n (by omega))
    · exact q
theorem eu_dec {k : Nat} {s : Int} {x y : Pl k} {n : Nat} (h1 : EuB (eu s x y n)) (h : (eu s x y n).2.1 ≠ pz) : dg (eu s x y (n + 1)).2.1 < dg (eu s x y n).2.1 ∧ 0 ≤ dg (eu s x y n).2.1 := by
  have h0 : 0 ≤ dg (eu s x y n).2.1 := by
    rcases Int.lt_or_le (dg (eu s x y n).2.1) 0 with q | q
    · exact absurd ((dg_neg (h1.1.2.mono (by decide))).mp q) h
    · exact q
  have d := dg_dv s (h1.1.1.mono (show 9 ≤ 17 by decide)) (h1.1.2.mono (show 9 ≤ 17 by decide)) h0
  exact ⟨d.2.1, h0⟩
theorem euE_ex {k : Nat} (s : Int) {x y : Pl k} (hx : Bd x 9) (hy : Bd y 9) : ∃ n : Nat, EuE s x y n := by
  have key : ∀ t n : Nat, dg (eu s x y n).2.1 + 1 ≤ (t : Int) → (∀ m : Nat, m < n → (eu s x y m).2.1 ≠ pz) → ∃ n : Nat, EuE s x y n := fun t => by
    induction t with
    | zero =>
      intro n h1 h2
      have hb := eu_B hx hy n h2
      exact ⟨n, h2, (dg_neg (hb.1.2.mono (by decide))).mp (by omega)⟩
    | succ t ih =>
      intro n h1 h2
      have hb := eu_B hx hy n h2
      by_cases c : (eu s x y n).2.1 = pz
      · exact ⟨n, h2, c⟩
      · have d := eu_dec hb c
        exact ih (n + 1) (by omega) (fun m hm => by
          by_cases q : m = n
          · rw [q]; exact c
          · exact h2 m (by omega))
  exact key 10 0 (by have := dg_lt9 hy; show dg y + 1 ≤ ((10 : Nat) : Int); omega) (fun m hm => by omega)
theorem euL_B {k : Nat} {s : Int} {x y : Pl k} {n : Nat} (hx : Bd x 9) (hy : Bd y 9) (h : EuE s x y n) : EuB (euL s x y) := by
  rw [euL_eq h]; exact eu_B hx hy n h.1
theorem dg_sbp_lt {k : Nat} {f g : Pl k} (hf : Bd f 64) (hg : Bd g 64) (h : dg f < dg g) : dg (sbp f g) = dg g := by
  have h0 := dg_ge f
  have ig := dg_is hg
  refine dg_eq (Bd_sbp' hf hg) ⟨ig.1, fun j hj => ?_, fun q => ?_⟩
  · show ad (f j) (ng (g j)) = z0
    rw [ig.2.1 j hj, (dg_is hf).2.1 j (by omega), ng_z, ad_zero]
  · show ad (f (dg g).toNat) (ng (g (dg g).toNat)) ≠ z0
    rw [(dg_is hf).2.1 (dg g).toNat (by omega), zero_ad]
    exact fun e => ig.2.2 q (by rw [← ng_ng (g (dg g).toNat), e, ng_z])
theorem dg_sbp_gt {k : Nat} {f g : Pl k} (hf : Bd f 64) (hg : Bd g 64) (h : dg g < dg f) : dg (sbp f g) = dg f := by
  have h0 := dg_ge g
  have ig := dg_is hf
  refine dg_eq (Bd_sbp' hf hg) ⟨ig.1, fun j hj => ?_, fun q => ?_⟩
  · show ad (f j) (ng (g j)) = z0
    rw [ig.2.1 j hj, (dg_is hg).2.1 j (by omega), ng_z, ad_zero]
  · show ad (f (dg f).toNat) (ng (g (dg f).toNat)) ≠ z0
    rw [(dg_is hg).2.1 (dg f).toNat (by omega), ng_z, ad_zero]
    exact ig.2.2 q
theorem dg_dq_eq {k : Nat} (s : Int) {a b : Pl k} (ha : Bd a 17) (hb : Bd b 17) (h0 : 0 ≤ dg b) (h : dg b ≤ dg a) : dg (dq s a b) = dg a - dg b := by
  have hd := dg_dv s ha hb h0
  have e3 : a = adp (dr s a b) (prd s (dq s a b) b) := (dv_is s (isdg_dg (hb.mono (by decide)) h0) ha).2.1.trans (adp_comm _ _)
  have e4 : sbp a (dr s a b) = prd s (dq s a b) b := (congrArg (fun t => sbp t (dr s a b)) e3).trans (sbp_adp _ _)
  have hp := dg_prd (s := s) (f := dq s a b) (g := b) (hd.1.mono (by decide)) (hb.mono (by decide))
  have h4 := dg_sbp_gt (f := a) (g := dr s a b) (ha.mono (by decide)) (hd.2.2.2.2.mono (by decide)) (by omega)
  rw [e4] at h4
  rcases Int.lt_or_le (dg (dq s a b)) 0 with q | q
  · rw [hp.1 (Or.inl q), dg_pz] at h4; omega
  · have := hp.2.1 q h0; omega
/-- behind the first division the multipliers grow */ -/
theorem eu_grow {k : Nat} {s : Int} {x y : Pl k} (hx : Bd x 9) (hy : Bd y 9) : ∀ n : Nat, (∀ m : Nat, m < n + 1 → (eu s x y m).2.1 ≠ pz) → dg (eu s x y (n + 1)).2.2.1 < dg (eu s x y (n + 1)).2.2.2.1 ∧ dg (eu s x y (n + 1)).2.1 < dg (eu s x y (n + 1)).1
  | 0, h => by
    have h1 : EuB (eu s x y 0) := EuB.zero hx hy
    have d := eu_dec h1 (h 0 (by omega))
    refine ⟨?_, d.1⟩
    show dg (pz : Pl k) < dg (sbp one (prd s (dq s x y) pz))
    have e : prd s (dq s x y) pz = pz := by unfold prd; split; exact mlp_pz _; exact pz_mlp _
    rw [e, sbp_pz, dg_pz, dg_one]
    decide
  | n + 1, h => by
    have ih := eu_grow hx hy n (fun m hm => h m (by omega))
    have hB := eu_B hx hy (n + 1) (fun m hm => h m (by omega))
    have d := eu_dec hB (h (n + 1) (by omega))
    refine ⟨?_, d.1⟩
    show dg (eu s x y (n + 1)).2.2.2.1 < dg (sbp (eu s x y (n + 1)).2.2.1 (prd s (dq s (eu s x y (n + 1)).1 (eu s x y (n + 1)).2.1) (eu s x y (n + 1)).2.2.2.1))
    have hd := dg_dv s (hB.1.1.mono (show 9 ≤ 17 by decide)) (hB.1.2.mono (show 9 ≤ 17 by decide)) d.2
    have ih2 := ih.2
    have hq := dg_dq_eq s (hB.1.1.mono (show 9 ≤ 17 by decide)) (hB.1.2.mono (show 9 ≤ 17 by decide)) d.2 (by omega)
    have g0 := dg_ge (eu s x y (n + 1)).2.2.1
    have ih1 := ih.1
    have hp := dg_prd (s := s) (f := dq s (eu s x y (n + 1)).1 (eu s x y (n + 1)).2.1) (g := (eu s x y (n + 1)).2.2.2.1) (hd.1.mono (by decide)) (hB.2.1.2.1.mono (by decide))
    have hp2 := hp.2.1 (by omega) (by omega)
    have h3 := dg_sbp_lt (f := (eu s x y (n + 1)).2.2.1) (g := prd s (dq s (eu s x y (n + 1)).1 (eu s x y (n + 1)).2.1) (eu s x y (n + 1)).2.2.2.1) (hB.2.1.1.mono (by decide)) hp.2.2 (by omega)
    omega
theorem euL_u {k : Nat} {s : Int} {x y : Pl k} (hx : Bd x 9) (hy : Bd y 9) (h : y ≠ pz) : 0 ≤ dg (euL s x y).2.2.2.1 ∧ dg (euL s x y).2.2.2.1 ≤ 8 ∧ 0 ≤ dg (euL s x y).1 := by
  obtain ⟨n, hn⟩ := euE_ex s hx hy
  have hB := euL_B hx hy hn
  have hF := euL_facts hx hy hn
  have h1 := hF.2.2.2 (Or.inr h)
  have h2 := hB.2.2.1.1
  refine ⟨?_, by omega, h1⟩
  rw [euL_eq hn]
  cases n with
  | zero => exact absurd hn.2 h
  | succ n =>
    have h3 := (eu_grow hx hy n hn.1).1
    have h4 := dg_ge (eu s x y (n + 1)).2.2.1
    omega
noncomputable def Tml {k : Nat} (s : Int) (x y : Pl k) : Pl k := prd s (euL s x y).2.2.2.1 x
theorem Tml_dg {k : Nat} {s : Int} {x y : Pl k} (hx : Bd x 9) (hy : Bd y 9) (hx0 : 0 ≤ dg x) (h : y ≠ pz) : 0 ≤ dg (prd s (euL s x y).2.2.2.1 x) ∧ dg (prd s (euL s x y).2.2.2.1 x) ≤ 16 ∧ Bd (prd s (euL s x y).2.2.2.1 x) 17 ∧ dg (mon s (prd s (euL s x y).2.2.2.1 x)) = dg (prd s (euL s x y).2.2.2.1 x) := by
  obtain ⟨n, hn⟩ := euE_ex s hx hy
  have hB := euL_B hx hy hn
  have hu := euL_u hx hy (s := s) h
  have hp := dg_prd (s := s) (f := (euL s x y).2.2.2.1) (g := x) (hB.2.1.2.1.mono (by decide)) (hx.mono (by decide))
  have hp2 := hp.2.1 hu.1 hx0
  have h9 := dg_lt9 hx
  have hb : Bd (prd s (euL s x y).2.2.2.1 x) 17 := dg_bd hp.2.2 (by omega)
  exact ⟨by omega, by omega, hb, dg_mon hb (by decide) (by omega)⟩
set_option maxRecDepth 100000 in
theorem ro_mult {d : Nat} {M : Mem} {k : Nat} {pl : Nat → Pl k} {n : Int} {tx : Int → Int} {rc : Nat} {rw : Int → Int} {fc : Nat} {fa : Nat → Pl k} (H : RFS M k pl n tx rc rw fc fa) (i : Nat) (hi : i < 6) (j : Nat) (hj : j < 6) (l : Nat) (hl : l < 6)  : Ct 198 (d + 8) 233 [(1, 161), (0, (i : Int)), (0, (j : Int)), (0, (l : Int))] M (fun r_ M' => r_ = (0, (if 8 < dg (mlp (pl i) (pl j)) then -3 else dg (mlp (pl i) (pl j)))) ∧ RFS M' k (if 8 < dg (mlp (pl i) (pl j)) then pl else fup pl l (mlp (pl i) (pl j))) n tx rc rw fc fa ∧ (∀ a : Int, (a < 161 ∨ 197 < a) → M' a = M a)) := by
  have hK : cd 233 = k233 := rfl
  obtain ⟨R, C, hpl, T, hR, hF⟩ := H
  have q1_ := qq_I k
  have p1_ := pp_I k
  have m1_ := mm_I k
  have bi_ := (hpl i hi).2
  have di_ := dg_lt9 bi_
  have bj_ := (hpl j hj).2
  have dj_ := dg_lt9 bj_
  have bl_ := (hpl l hl).2
  have dl_ := dg_lt9 bl_
  have pr_ := dg_pr16 bi_ bj_
  have pr2_ := dg_pr16 bj_ bi_
  show Wp 198 _ 233 0 [(1, 161), (0, (i : Int)), (0, (j : Int)), (0, (l : Int))] [] M _
  refine w_al hK rfl rfl ?_
  refine w_ic hK rfl ?_
  refine w_puti (n := 14) (m := 14) hK rfl rfl (by decide) (by decide) rfl rfl rfl rfl ?_
  refine w_al hK rfl rfl ?_
  refine w_il hK rfl rfl ?_
  refine w_il hK rfl rfl ?_
  refine w_il hK rfl rfl ?_
  refine w_call [(1, 161), (0, (i : Int)), (0, (j : Int)), (0, (l : Int))] hK rfl rfl rfl rfl (Or.inr ⟨_, _, _, rfl, by decide, (by decide), rfl⟩) (r_loads (RS.cg C (fun j_ h1_ h2_ => up_ne2 (by omega)) (fun a_ h1_ h2_ => up_row h1_)) (PM.keep hpl (up_row (by decide))) i j l hi hj hl) ?_
  rintro _ V310 ⟨P310, rfl, C310, S310, F310, f310_0, f310_1⟩
  refine ⟨by show (0 : Nat) ≠ 9; decide, (?_ : Wp 198 _ 233 8 [(1, 161), (0, (i : Int)), (0, (j : Int)), (0, (l : Int))] [(0, 1)] V310 _)⟩
  refine w_ne hK rfl (by omega) (by omega) (fun h8 => ?_) (fun h8 => ?_)
  · refine w_al hK rfl rfl ?_
    refine w_al hK rfl rfl ?_
    refine w_getr (n := 26) (v := 180) hK rfl rfl (by decide) (by decide) rfl rfl rfl rfl ?_
    refine w_al hK rfl rfl ?_
    refine w_getr (n := 27) (v := 181) hK rfl rfl (by decide) (by decide) rfl rfl rfl rfl ?_
    refine w_al hK rfl rfl ?_
    refine w_getr (n := 28) (v := 182) hK rfl rfl (by decide) (by decide) rfl rfl rfl rfl ?_
    refine w_call [(1, 161), (1, 180), (1, 181), (1, 182)] hK rfl rfl rfl rfl (Or.inr ⟨_, _, _, rfl, by decide, (by decide), rfl⟩) (r_prod C310 ⟨(isR_of (p := 180) rfl), f310_0⟩ ⟨(isR_of (p := 181) rfl), f310_1⟩ (isR_of (p := 182) rfl) (by omega) (by omega) (by omega) (by omega)) ?_
    rintro _ V311 ⟨P311, rfl, C311, S311, F311, f311_0⟩
    refine ⟨by decide, (?_ : Wp 198 _ 233 19 [(1, 161), (0, (i : Int)), (0, (j : Int)), (0, (l : Int))] [] V311 _)⟩
    refine w_al hK rfl rfl ?_
    refine w_getr (n := 28) (v := 182) hK rfl rfl (by decide) (by decide) rfl rfl rfl rfl ?_
    have dI_ : -1 ≤ dg (mlp (pl i) (pl j)) ∧ dg (mlp (pl i) (pl j)) ≤ 47 := C311.dI ⟨(isR_of (p := 182) rfl), f311_0⟩
    refine w_call [(1, 182)] hK rfl rfl rfl rfl (Or.inl rfl) (r_deg C311 ⟨(isR_of (p := 182) rfl), f311_0⟩) ?_
    rintro _ Mq ⟨rfl, e_⟩
    subst Mq
    refine ⟨by show (0 : Nat) ≠ 9; decide, (?_ : Wp 198 _ 233 22 [(1, 161), (0, (i : Int)), (0, (j : Int)), (0, (l : Int))] [(0, (dg (mlp (pl i) (pl j))))] V311 _)⟩
    refine w_ic hK rfl ?_
    refine w_le2 hK rfl (by omega) (by omega) (by omega) (by omega) (fun h23 => ?_) (fun h23 => ?_)
    · refine w_al hK rfl rfl ?_
      refine w_al hK rfl rfl ?_
      refine w_getr (n := 28) (v := 182) hK rfl rfl (by decide) (by decide) rfl rfl rfl rfl ?_
      refine w_il hK rfl rfl ?_
      refine w_call [(1, 161), (1, 182), (0, (l : Int))] hK rfl rfl rfl rfl (Or.inr ⟨_, _, _, rfl, by decide, (by decide), rfl⟩) (r_store C311 (PM.keep hpl ((S311 167 (notR rfl)).trans ((S310 167 (notR rfl)).trans (up_row (by decide))))) ⟨(isR_of (p := 182) rfl), f311_0⟩ l hl (Bd9.of64 pr_.2.2 (by decide) (by omega))) ?_
      rintro _ V312 ⟨rfl, C312, Q312, F312⟩
      refine ⟨(by show (0 : Nat) ≠ 9; decide), (?_ : Wp 198 _ 233 31 [(1, 161), (0, (i : Int)), (0, (j : Int)), (0, (l : Int))] [(0, (dg (mlp (pl i) (pl j))))] V312 _)⟩
      refine w_iret hK rfl rfl ?_
      rw [if_neg (show ¬ 8 < dg (mlp (pl i) (pl j)) by omega), if_neg (show ¬ 8 < dg (mlp (pl i) (pl j)) by omega)]
      exact ⟨rfl, ⟨_, C312, Q312, (TMs.keep T ((congrFun (F312 161 (by decide)) 11).trans ((congrFun (S311 161 (notR rfl)) 11).trans ((congrFun (S310 161 (notR rfl)) 11).trans (up_ne2 (by decide))))) ((F312 168 (by decide)).trans ((S311 168 (notR rfl)).trans ((S310 168 (notR rfl)).trans (up_row (by decide)))))), (RM.keep hR ((congrFun (F312 161 (by decide)) 13).trans ((congrFun (S311 161 (notR rfl)) 13).trans ((congrFun (S310 161 (notR rfl)) 13).trans (up_ne2 (by decide))))) ((F312 169 (by decide)).trans ((S311 169 (notR rfl)).trans ((S310 169 (notR rfl)).trans (up_row (by decide)))))), (FM.keep hF ((congrFun (F312 161 (by decide)) 15).trans ((congrFun (S311 161 (notR rfl)) 15).trans ((congrFun (S310 161 (notR rfl)) 15).trans (up_ne2 (by decide))))) ((F312 189 (by decide)).trans ((S311 189 (notR rfl)).trans ((S310 189 (notR rfl)).trans (up_row (by decide))))) ((F312 190 (by decide)).trans ((S311 190 (notR rfl)).trans ((S310 190 (notR rfl)).trans (up_row (by decide))))))⟩, (fun a h_ => ((F312 a (by omega)).trans ((S311 a (npR h_)).trans ((S310 a (npR h_)).trans (up_row (by omega))))))⟩
    · refine w_ic hK rfl ?_
      refine w_goto hK rfl ?_
      refine w_iret hK rfl rfl ?_
      rw [if_pos (show 8 < dg (mlp (pl i) (pl j)) by omega), if_pos (show 8 < dg (mlp (pl i) (pl j)) by omega)]
      exact ⟨rfl, ⟨_, C311, (PM.keep hpl ((S311 167 (notR rfl)).trans ((S310 167 (notR rfl)).trans (up_row (by decide))))), (TMs.keep T ((congrFun (S311 161 (notR rfl)) 11).trans ((congrFun (S310 161 (notR rfl)) 11).trans (up_ne2 (by decide)))) ((S311 168 (notR rfl)).trans ((S310 168 (notR rfl)).trans (up_row (by decide))))), (RM.keep hR ((congrFun (S311 161 (notR rfl)) 13).trans ((congrFun (S310 161 (notR rfl)) 13).trans (up_ne2 (by decide)))) ((S311 169 (notR rfl)).trans ((S310 169 (notR rfl)).trans (up_row (by decide))))), (FM.keep hF ((congrFun (S311 161 (notR rfl)) 15).trans ((congrFun (S310 161 (notR rfl)) 15).trans (up_ne2 (by decide)))) ((S311 189 (notR rfl)).trans ((S310 189 (notR rfl)).trans (up_row (by decide)))) ((S311 190 (notR rfl)).trans ((S310 190 (notR rfl)).trans (up_row (by decide)))))⟩, (fun a h_ => ((S311 a (npR h_)).trans ((S310 a (npR h_)).trans (up_row (by omega)))))⟩
  · exfalso; omega
set_option maxRecDepth 100000 in
theorem rn_mult {d : Nat} {M : Mem} {k : Nat} {pl : Nat → Pl k} {n : Int} {tx : Int → Int} {rc : Nat} {rw : Int → Int} {fc : Nat} {fa : Nat → Pl k} (H : RFS M k pl n tx rc rw fc fa) (i j l : Int) (i1_ : -2147483648 ≤ i) (i2_ : i ≤ 2147483647) (j1_ : -2147483648 ≤ j) (j2_ : j ≤ 2147483647) (l1_ : -2147483648 ≤ l) (l2_ : l ≤ 2147483647) (hn : ¬ ((0 ≤ i ∧ i < 6) ∧ (0 ≤ j ∧ j < 6) ∧ (0 ≤ l ∧ l < 6))) : Ct 198 (d + 8) 233 [(1, 161), (0, i), (0, j), (0, l)] M (fun r_ M' => r_ = (0, -2) ∧ RFS M' k pl n tx rc rw fc fa ∧ (∀ a : Int, (a < 161 ∨ 197 < a) → M' a = M a)) := by
  have hK : cd 233 = k233 := rfl
  obtain ⟨R, C, hpl, T, hR, hF⟩ := H
  have q1_ := qq_I k
  have p1_ := pp_I k
  have m1_ := mm_I k
  show Wp 198 _ 233 0 [(1, 161), (0, i), (0, j), (0, l)] [] M _
  refine w_al hK rfl rfl ?_
  refine w_ic hK rfl ?_
  refine w_puti (n := 14) (m := 14) hK rfl rfl (by decide) (by decide) rfl rfl rfl rfl ?_
  refine w_al hK rfl rfl ?_
  refine w_il hK rfl rfl ?_
  refine w_il hK rfl rfl ?_
  refine w_il hK rfl rfl ?_
  refine w_call [(1, 161), (0, i), (0, j), (0, l)] hK rfl rfl rfl rfl (Or.inr ⟨_, _, _, rfl, by decide, (by decide), rfl⟩) (r_loadsN i j l (by omega) (by omega) (by omega) (by omega) (by omega) (by omega) (by omega)) ?_
  rintro _ Mq ⟨rfl, e_⟩
  subst Mq
  refine ⟨by show (0 : Nat) ≠ 9; decide, (?_ : Wp 198 _ 233 8 [(1, 161), (0, i), (0, j), (0, l)] [(0, 0)] (up M 161 14 0) _)⟩
  refine w_ne hK rfl (by omega) (by omega) (fun h8 => ?_) (fun h8 => ?_)
  · exfalso; omega
  · refine w_ic hK rfl ?_
    refine w_iret hK rfl rfl ?_
    exact ⟨rfl, ⟨_, (RS.cg C (fun j_ h1_ h2_ => up_ne2 (by omega)) (fun a_ h1_ h2_ => up_row h1_)), (PM.keep hpl (up_row (by decide))), (TMs.keep T (up_ne2 (by decide)) (up_row (by decide))), (RM.keep hR (up_ne2 (by decide)) (up_row (by decide))), (FM.keep hF (up_ne2 (by decide)) (up_row (by decide)) (up_row (by decide)))⟩, (fun a h_ => (up_row (by omega)))⟩
set_option maxRecDepth 100000 in
theorem ro_cross {d : Nat} {M : Mem} {k : Nat} {pl : Nat → Pl k} {n : Int} {tx : Int → Int} {rc : Nat} {rw : Int → Int} {fc : Nat} {fa : Nat → Pl k} (H : RFS M k pl n tx rc rw fc fa) (i : Nat) (hi : i < 6) (j : Nat) (hj : j < 6) (l : Nat) (hl : l < 6)  : Ct 198 (d + 8) 247 [(1, 161), (0, (i : Int)), (0, (j : Int)), (0, (l : Int))] M (fun r_ M' => r_ = (0, (if 8 < dg (sbp (mlp (pl i) (pl j)) (mlp (pl j) (pl i))) then -3 else dg (sbp (mlp (pl i) (pl j)) (mlp (pl j) (pl i))))) ∧ RFS M' k (if 8 < dg (sbp (mlp (pl i) (pl j)) (mlp (pl j) (pl i))) then pl else fup pl l (sbp (mlp (pl i) (pl j)) (mlp (pl j) (pl i)))) n tx rc rw fc fa ∧ (∀ a : Int, (a < 161 ∨ 197 < a) → M' a = M a)) := by
  have hK : cd 247 = k247 := rfl
  obtain ⟨R, C, hpl, T, hR, hF⟩ := H
  have q1_ := qq_I k
  have p1_ := pp_I k
  have m1_ := mm_I k
  have bi_ := (hpl i hi).2
  have di_ := dg_lt9 bi_
  have bj_ := (hpl j hj).2
  have dj_ := dg_lt9 bj_
  have bl_ := (hpl l hl).2
  have dl_ := dg_lt9 bl_
  have pr_ := dg_pr16 bi_ bj_
  have pr2_ := dg_pr16 bj_ bi_
  have bc_ : Bd (sbp (mlp (pl i) (pl j)) (mlp (pl j) (pl i))) 18 := Bd_sbp' pr_.2.2 pr2_.2.2
  show Wp 198 _ 247 0 [(1, 161), (0, (i : Int)), (0, (j : Int)), (0, (l : Int))] [] M _
  refine w_al hK rfl rfl ?_
  refine w_ic hK rfl ?_
  refine w_puti (n := 14) (m := 14) hK rfl rfl (by decide) (by decide) rfl rfl rfl rfl ?_
  refine w_al hK rfl rfl ?_
  refine w_il hK rfl rfl ?_
  refine w_il hK rfl rfl ?_
  refine w_il hK rfl rfl ?_
  refine w_call [(1, 161), (0, (i : Int)), (0, (j : Int)), (0, (l : Int))] hK rfl rfl rfl rfl (Or.inr ⟨_, _, _, rfl, by decide, (by decide), rfl⟩) (r_loads (RS.cg C (fun j_ h1_ h2_ => up_ne2 (by omega)) (fun a_ h1_ h2_ => up_row h1_)) (PM.keep hpl (up_row (by decide))) i j l hi hj hl) ?_
  rintro _ V313 ⟨P313, rfl, C313, S313, F313, f313_0, f313_1⟩
  refine ⟨by show (0 : Nat) ≠ 9; decide, (?_ : Wp 198 _ 247 8 [(1, 161), (0, (i : Int)), (0, (j : Int)), (0, (l : Int))] [(0, 1)] V313 _)⟩
  refine w_ne hK rfl (by omega) (by omega) (fun h8 => ?_) (fun h8 => ?_)
  · refine w_al hK rfl rfl ?_
    refine w_al hK rfl rfl ?_
    refine w_getr (n := 26) (v := 180) hK rfl rfl (by decide) (by decide) rfl rfl rfl rfl ?_
    refine w_al hK rfl rfl ?_
    refine w_getr (n := 27) (v := 181) hK rfl rfl (by decide) (by decide) rfl rfl rfl rfl ?_
    refine w_al hK rfl rfl ?_
    refine w_getr (n := 28) (v := 182) hK rfl rfl (by decide) (by decide) rfl rfl rfl rfl ?_
    refine w_call [(1, 161), (1, 180), (1, 181), (1, 182)] hK rfl rfl rfl rfl (Or.inr ⟨_, _, _, rfl, by decide, (by decide), rfl⟩) (r_prod C313 ⟨(isR_of (p := 180) rfl), f313_0⟩ ⟨(isR_of (p := 181) rfl), f313_1⟩ (isR_of (p := 182) rfl) (by omega) (by omega) (by omega) (by omega)) ?_
    rintro _ V314 ⟨P314, rfl, C314, S314, F314, f314_0⟩
    refine ⟨by decide, (?_ : Wp 198 _ 247 19 [(1, 161), (0, (i : Int)), (0, (j : Int)), (0, (l : Int))] [] V314 _)⟩
    refine w_al hK rfl rfl ?_
    refine w_al hK rfl rfl ?_
    refine w_getr (n := 27) (v := 181) hK rfl rfl (by decide) (by decide) rfl rfl rfl rfl ?_
    refine w_al hK rfl rfl ?_
    refine w_getr (n := 26) (v := 180) hK rfl rfl (by decide) (by decide) rfl rfl rfl rfl ?_
    refine w_al hK rfl rfl ?_
    refine w_getr (n := 25) (v := 179) hK rfl rfl (by decide) (by decide) rfl rfl rfl rfl ?_
    refine w_call [(1, 161), (1, 181), (1, 180), (1, 179)] hK rfl rfl rfl rfl (Or.inr ⟨_, _, _, rfl, by decide, (by decide), rfl⟩) (r_prod C314 ⟨(isR_of (p := 181) rfl), ((F314 181 (by omega) (by omega)).trans f313_1)⟩ ⟨(isR_of (p := 180) rfl), ((F314 180 (by omega) (by omega)).trans f313_0)⟩ (isR_of (p := 179) rfl) (by omega) (by omega) (by omega) (by omega)) ?_
    rintro _ V315 ⟨P315, rfl, C315, S315, F315, f315_0⟩
    refine ⟨by decide, (?_ : Wp 198 _ 247 27 [(1, 161), (0, (i : Int)), (0, (j : Int)), (0, (l : Int))] [] V315 _)⟩
    refine w_al hK rfl rfl ?_
    refine w_al hK rfl rfl ?_
    refine w_getr (n := 25) (v := 179) hK rfl rfl (by decide) (by decide) rfl rfl rfl rfl ?_
    refine w_al hK rfl rfl ?_
    refine w_getr (n := 28) (v := 182) hK rfl rfl (by decide) (by decide) rfl rfl rfl rfl ?_
    refine w_call [(1, 161), (1, 179), (1, 182)] hK rfl rfl rfl rfl (Or.inr ⟨_, _, _, rfl, by decide, (by decide), rfl⟩) (r_less C315 ⟨(isR_of (p := 179) rfl), f315_0⟩ ⟨(isR_of (p := 182) rfl), ((F315 182 (by omega) (by omega)).trans f314_0)⟩ (by omega)) ?_
    rintro _ V316 ⟨P316, rfl, C316, S316, F316, f316_0⟩
    refine ⟨by decide, (?_ : Wp 198 _ 247 33 [(1, 161), (0, (i : Int)), (0, (j : Int)), (0, (l : Int))] [] V316 _)⟩
    refine w_al hK rfl rfl ?_
    refine w_getr (n := 28) (v := 182) hK rfl rfl (by decide) (by decide) rfl rfl rfl rfl ?_
    have dI_ : -1 ≤ dg (sbp (mlp (pl i) (pl j)) (mlp (pl j) (pl i))) ∧ dg (sbp (mlp (pl i) (pl j)) (mlp (pl j) (pl i))) ≤ 47 := C316.dI ⟨(isR_of (p := 182) rfl), f316_0⟩
    refine w_call [(1, 182)] hK rfl rfl rfl rfl (Or.inl rfl) (r_deg C316 ⟨(isR_of (p := 182) rfl), f316_0⟩) ?_
    rintro _ Mq ⟨rfl, e_⟩
    subst Mq
    refine ⟨by show (0 : Nat) ≠ 9; decide, (?_ : Wp 198 _ 247 36 [(1, 161), (0, (i : Int)), (0, (j : Int)), (0, (l : Int))] [(0, (dg (sbp (mlp (pl i) (pl j)) (mlp (pl j) (pl i)))))] V316 _)⟩
    refine w_ic hK rfl ?_
    refine w_le2 hK rfl (by omega) (by omega) (by omega) (by omega) (fun h37 => ?_) (fun h37 => ?_)
    · refine w_al hK rfl rfl ?_
      refine w_al hK rfl rfl ?_
      refine w_getr (n := 28) (v := 182) hK rfl rfl (by decide) (by decide) rfl rfl rfl rfl ?_
      refine w_il hK rfl rfl ?_
      refine w_call [(1, 161), (1, 182), (0, (l : Int))] hK rfl rfl rfl rfl (Or.inr ⟨_, _, _, rfl, by decide, (by decide), rfl⟩) (r_store C316 (PM.keep hpl ((S316 167 (notR rfl)).trans ((S315 167 (notR rfl)).trans ((S314 167 (notR rfl)).trans ((S313 167 (notR rfl)).trans (up_row (by decide))))))) ⟨(isR_of (p := 182) rfl), f316_0⟩ l hl (Bd9.of64 bc_ (by decide) (by omega))) ?_
      rintro _ V317 ⟨rfl, C317, Q317, F317⟩
      refine ⟨(by show (0 : Nat) ≠ 9; decide), (?_ : Wp 198 _ 247 45 [(1, 161), (0, (i : Int)), (0, (j : Int)), (0, (l : Int))] [(0, (dg (sbp (mlp (pl i) (pl j)) (mlp (pl j) (pl i)))))] V317 _)⟩
      refine w_iret hK rfl rfl ?_
      rw [if_neg (show ¬ 8 < dg (sbp (mlp (pl i) (pl j)) (mlp (pl j) (pl i))) by omega), if_neg (show ¬ 8 < dg (sbp (mlp (pl i) (pl j)) (mlp (pl j) (pl i))) by omega)]
      exact ⟨rfl, ⟨_, C317, Q317, (TMs.keep T ((congrFun (F317 161 (by decide)) 11).trans ((congrFun (S316 161 (notR rfl)) 11).trans ((congrFun (S315 161 (notR rfl)) 11).trans ((congrFun (S314 161 (notR rfl)) 11).trans ((congrFun (S313 161 (notR rfl)) 11).trans (up_ne2 (by decide))))))) ((F317 168 (by decide)).trans ((S316 168 (notR rfl)).trans ((S315 168 (notR rfl)).trans ((S314 168 (notR rfl)).trans ((S313 168 (notR rfl)).trans (up_row (by decide)))))))), (RM.keep hR ((congrFun (F317 161 (by decide)) 13).trans ((congrFun (S316 161 (notR rfl)) 13).trans ((congrFun (S315 161 (notR rfl)) 13).trans ((congrFun (S314 161 (notR rfl)) 13).trans ((congrFun (S313 161 (notR rfl)) 13).trans (up_ne2 (by decide))))))) ((F317 169 (by decide)).trans ((S316 169 (notR rfl)).trans ((S315 169 (notR rfl)).trans ((S314 169 (notR rfl)).trans ((S313 169 (notR rfl)).trans (up_row (by decide)))))))), (FM.keep hF ((congrFun (F317 161 (by decide)) 15).trans ((congrFun (S316 161 (notR rfl)) 15).trans ((congrFun (S315 161 (notR rfl)) 15).trans ((congrFun (S314 161 (notR rfl)) 15).trans ((congrFun (S313 161 (notR rfl)) 15).trans (up_ne2 (by decide))))))) ((F317 189 (by decide)).trans ((S316 189 (notR rfl)).trans ((S315 189 (notR rfl)).trans ((S314 189 (notR rfl)).trans ((S313 189 (notR rfl)).trans (up_row (by decide))))))) ((F317 190 (by decide)).trans ((S316 190 (notR rfl)).trans ((S315 190 (notR rfl)).trans ((S314 190 (notR rfl)).trans ((S313 190 (notR rfl)).trans (up_row (by decide))))))))⟩, (fun a h_ => ((F317 a (by omega)).trans ((S316 a (npR h_)).trans ((S315 a (npR h_)).trans ((S314 a (npR h_)).trans ((S313 a (npR h_)).trans (up_row (by omega))))))))⟩
    · refine w_ic hK rfl ?_
      refine w_goto hK rfl ?_
      refine w_iret hK rfl rfl ?_
      rw [if_pos (show 8 < dg (sbp (mlp (pl i) (pl j)) (mlp (pl j) (pl i))) by omega), if_pos (show 8 < dg (sbp (mlp (pl i) (pl j)) (mlp (pl j) (pl i))) by omega)]
      exact ⟨rfl, ⟨_, C316, (PM.keep hpl ((S316 167 (notR rfl)).trans ((S315 167 (notR rfl)).trans ((S314 167 (notR rfl)).trans ((S313 167 (notR rfl)).trans (up_row (by decide))))))), (TMs.keep T ((congrFun (S316 161 (notR rfl)) 11).trans ((congrFun (S315 161 (notR rfl)) 11).trans ((congrFun (S314 161 (notR rfl)) 11).trans ((congrFun (S313 161 (notR rfl)) 11).trans (up_ne2 (by decide)))))) ((S316 168 (notR rfl)).trans ((S315 168 (notR rfl)).trans ((S314 168 (notR rfl)).trans ((S313 168 (notR rfl)).trans (up_row (by decide))))))), (RM.keep hR ((congrFun (S316 161 (notR rfl)) 13).trans ((congrFun (S315 161 (notR rfl)) 13).trans ((congrFun (S314 161 (notR rfl)) 13).trans ((congrFun (S313 161 (notR rfl)) 13).trans (up_ne2 (by decide)))))) ((S316 169 (notR rfl)).trans ((S315 169 (notR rfl)).trans ((S314 169 (notR rfl)).trans ((S313 169 (notR rfl)).trans (up_row (by decide))))))), (FM.keep hF ((congrFun (S316 161 (notR rfl)) 15).trans ((congrFun (S315 161 (notR rfl)) 15).trans ((congrFun (S314 161 (notR rfl)) 15).trans ((congrFun (S313 161 (notR rfl)) 15).trans (up_ne2 (by decide)))))) ((S316 189 (notR rfl)).trans ((S315 189 (notR rfl)).trans ((S314 189 (notR rfl)).trans ((S313 189 (notR rfl)).trans (up_row (by decide)))))) ((S316 190 (notR rfl)).trans ((S315 190 (notR rfl)).trans ((S314 190 (notR rfl)).trans ((S313 190 (notR rfl)).trans (up_row (by decide)))))))⟩, (fun a h_ => ((S316 a (npR h_)).trans ((S315 a (npR h_)).trans ((S314 a (npR h_)).trans ((S313 a (npR h_)).trans (up_row (by omega)))))))⟩
  · exfalso; omega
set_option maxRecDepth 100000 in
theorem rn_cross {d : Nat} {M : Mem} {k : Nat} {pl : Nat → Pl k} {n : Int} {tx : Int → Int} {rc : Nat} {rw : Int → Int} {fc : Nat} {fa : Nat → Pl k} (H : RFS M k pl n tx rc rw fc fa) (i j l : Int) (i1_ : -2147483648 ≤ i) (i2_ : i ≤ 2147483647) (j1_ : -2147483648 ≤ j) (j2_ : j ≤ 2147483647) (l1_ : -2147483648 ≤ l) (l2_ : l ≤ 2147483647) (hn : ¬ ((0 ≤ i ∧ i < 6) ∧ (0 ≤ j ∧ j < 6) ∧ (0 ≤ l ∧ l < 6))) : Ct 198 (d + 8) 247 [(1, 161), (0, i), (0, j), (0, l)] M (fun r_ M' => r_ = (0, -2) ∧ RFS M' k pl n tx rc rw fc fa ∧ (∀ a : Int, (a < 161 ∨ 197 < a) → M' a = M a)) := by
  have hK : cd 247 = k247 := rfl
  obtain ⟨R, C, hpl, T, hR, hF⟩ := H
  have q1_ := qq_I k
  have p1_ := pp_I k
  have m1_ := mm_I k
  show Wp 198 _ 247 0 [(1, 161), (0, i), (0, j), (0, l)] [] M _
  refine w_al hK rfl rfl ?_
  refine w_ic hK rfl ?_
  refine w_puti (n := 14) (m := 14) hK rfl rfl (by decide) (by decide) rfl rfl rfl rfl ?_
  refine w_al hK rfl rfl ?_
  refine w_il hK rfl rfl ?_
  refine w_il hK rfl rfl ?_
  refine w_il hK rfl rfl ?_
  refine w_call [(1, 161), (0, i), (0, j), (0, l)] hK rfl rfl rfl rfl (Or.inr ⟨_, _, _, rfl, by decide, (by decide), rfl⟩) (r_loadsN i j l (by omega) (by omega) (by omega) (by omega) (by omega) (by omega) (by omega)) ?_
  rintro _ Mq ⟨rfl, e_⟩
  subst Mq
  refine ⟨by show (0 : Nat) ≠ 9; decide, (?_ : Wp 198 _ 247 8 [(1, 161), (0, i), (0, j), (0, l)] [(0, 0)] (up M 161 14 0) _)⟩
  refine w_ne hK rfl (by omega) (by omega) (fun h8 => ?_) (fun h8 => ?_)
  · exfalso; omega
  · refine w_ic hK rfl ?_
    refine w_iret hK rfl rfl ?_
    exact ⟨rfl, ⟨_, (RS.cg C (fun j_ h1_ h2_ => up_ne2 (by omega)) (fun a_ h1_ h2_ => up_row h1_)), (PM.keep hpl (up_row (by decide))), (TMs.keep T (up_ne2 (by decide)) (up_row (by decide))), (RM.keep hR (up_ne2 (by decide)) (up_row (by decide))), (FM.keep hF (up_ne2 (by decide)) (up_row (by decide)) (up_row (by decide)))⟩, (fun a h_ => (up_row (by omega)))⟩
set_option maxRecDepth 100000 in
theorem ro_quot {d : Nat} {M : Mem} {k : Nat} {pl : Nat → Pl k} {n : Int} {tx : Int → Int} {rc : Nat} {rw : Int → Int} {fc : Nat} {fa : Nat → Pl k} (H : RFS M k pl n tx rc rw fc fa) (i : Nat) (hi : i < 6) (j : Nat) (hj : j < 6) (l : Nat) (hl : l < 6) (s : Int) (hs_ : s = 0 ∨ s = 1) (hj0 : 0 ≤ dg (pl j)) : Ct 198 (d + 8) 236 [(1, 161), (0, (i : Int)), (0, (j : Int)), (0, s), (0, (l : Int))] M (fun r_ M' => r_ = (0, (dg (dq s (pl i) (pl j)))) ∧ RFS M' k (fup pl l (dq s (pl i) (pl j))) n tx rc rw fc fa ∧ (∀ a : Int, (a < 161 ∨ 197 < a) → M' a = M a)) := by
  have hK : cd 236 = k236 := rfl
  obtain ⟨R, C, hpl, T, hR, hF⟩ := H
  have q1_ := qq_I k
  have p1_ := pp_I k
  have m1_ := mm_I k
  have bi_ := (hpl i hi).2
  have di_ := dg_lt9 bi_
  have bj_ := (hpl j hj).2
  have dj_ := dg_lt9 bj_
  have bl_ := (hpl l hl).2
  have dl_ := dg_lt9 bl_
  show Wp 198 _ 236 0 [(1, 161), (0, (i : Int)), (0, (j : Int)), (0, s), (0, (l : Int))] [] M _
  refine w_al hK rfl rfl ?_
  refine w_ic hK rfl ?_
  refine w_puti (n := 14) (m := 14) hK rfl rfl (by decide) (by decide) rfl rfl rfl rfl ?_
  refine w_il hK rfl rfl ?_
  refine w_call [(0, s)] hK rfl rfl rfl rfl (Or.inl rfl) (r_side s (by omega) (by omega)) ?_
  rintro _ Mq ⟨rfl, e_⟩
  subst Mq
  have sI_318 := ite01 (s = 0 ∨ s = 1)
  refine ⟨by show (0 : Nat) ≠ 9; decide, (?_ : Wp 198 _ 236 5 [(1, 161), (0, (i : Int)), (0, (j : Int)), (0, s), (0, (l : Int))] [(0, (if s = 0 ∨ s = 1 then 1 else 0))] (up M 161 14 0) _)⟩
  refine w_eq hK rfl (by omega) (by omega) (fun h5 => ?_) (fun h5 => ?_)
  · exfalso; omega
  · refine w_al hK rfl rfl ?_
    refine w_il hK rfl rfl ?_
    refine w_il hK rfl rfl ?_
    refine w_il hK rfl rfl ?_
    refine w_call [(1, 161), (0, (i : Int)), (0, (j : Int)), (0, (l : Int))] hK rfl rfl rfl rfl (Or.inr ⟨_, _, _, rfl, by decide, (by decide), rfl⟩) (r_loads (RS.cg C (fun j_ h1_ h2_ => up_ne2 (by omega)) (fun a_ h1_ h2_ => up_row h1_)) (PM.keep hpl (up_row (by decide))) i j l hi hj hl) ?_
    rintro _ V319 ⟨P319, rfl, C319, S319, F319, f319_0, f319_1⟩
    refine ⟨by show (0 : Nat) ≠ 9; decide, (?_ : Wp 198 _ 236 11 [(1, 161), (0, (i : Int)), (0, (j : Int)), (0, s), (0, (l : Int))] [(0, 1)] V319 _)⟩
    refine w_ne hK rfl (by omega) (by omega) (fun h11 => ?_) (fun h11 => ?_)
    · refine w_al hK rfl rfl ?_
      refine w_getr (n := 27) (v := 181) hK rfl rfl (by decide) (by decide) rfl rfl rfl rfl ?_
      have dI_ : -1 ≤ dg (pl j) ∧ dg (pl j) ≤ 47 := C319.dI ⟨(isR_of (p := 181) rfl), f319_1⟩
      refine w_call [(1, 181)] hK rfl rfl rfl rfl (Or.inl rfl) (r_deg C319 ⟨(isR_of (p := 181) rfl), f319_1⟩) ?_
      rintro _ Mq ⟨rfl, e_⟩
      subst Mq
      refine ⟨by show (0 : Nat) ≠ 9; decide, (?_ : Wp 198 _ 236 17 [(1, 161), (0, (i : Int)), (0, (j : Int)), (0, s), (0, (l : Int))] [(0, (dg (pl j)))] V319 _)⟩
      refine w_ic hK rfl ?_
      refine w_ne2 hK rfl (by omega) (by omega) (by omega) (by omega) (fun h18 => ?_) (fun h18 => ?_)
      · refine w_al hK rfl rfl ?_
        refine w_al hK rfl rfl ?_
        refine w_getr (n := 26) (v := 180) hK rfl rfl (by decide) (by decide) rfl rfl rfl rfl ?_
        refine w_al hK rfl rfl ?_
        refine w_getr (n := 27) (v := 181) hK rfl rfl (by decide) (by decide) rfl rfl rfl rfl ?_
        refine w_il hK rfl rfl ?_
        refine w_call [(1, 161), (1, 180), (1, 181), (0, s)] hK rfl rfl rfl rfl (Or.inr ⟨_, _, _, rfl, by decide, (by decide), rfl⟩) (r_div C319 ⟨(isR_of (p := 180) rfl), f319_0⟩ ⟨(isR_of (p := 181) rfl), f319_1⟩ s (by omega) (by omega) (by omega) (by omega) (bi_.mono (by decide)) (bj_.mono (by decide))) ?_
        rintro _ V320 ⟨P320, rfl, C320, S320, F320, f320_0, f320_1⟩
        refine ⟨by decide, (?_ : Wp 198 _ 236 28 [(1, 161), (0, (i : Int)), (0, (j : Int)), (0, s), (0, (l : Int))] [] V320 _)⟩
        refine w_al hK rfl rfl ?_
        refine w_al hK rfl rfl ?_
        refine w_getr (n := 20) (v := 174) hK rfl rfl (by decide) (by decide) rfl rfl rfl rfl ?_
        refine w_il hK rfl rfl ?_
        refine w_call [(1, 161), (1, 174), (0, (l : Int))] hK rfl rfl rfl rfl (Or.inr ⟨_, _, _, rfl, by decide, (by decide), rfl⟩) (r_store C320 (PM.keep hpl ((S320 167 (notR rfl)).trans ((S319 167 (notR rfl)).trans (up_row (by decide))))) ⟨(isR_of (p := 174) rfl), f320_1⟩ l hl (Bd9_dr s bi_ bj_ hj0).1) ?_
        rintro _ V321 ⟨rfl, C321, Q321, F321⟩
        refine ⟨(by show (0 : Nat) ≠ 9; decide), (?_ : Wp 198 _ 236 33 [(1, 161), (0, (i : Int)), (0, (j : Int)), (0, s), (0, (l : Int))] [(0, (dg (dq s (pl i) (pl j))))] V321 _)⟩
        refine w_iret hK rfl rfl ?_
        exact ⟨rfl, ⟨_, C321, Q321, (TMs.keep T ((congrFun (F321 161 (by decide)) 11).trans ((congrFun (S320 161 (notR rfl)) 11).trans ((congrFun (S319 161 (notR rfl)) 11).trans (up_ne2 (by decide))))) ((F321 168 (by decide)).trans ((S320 168 (notR rfl)).trans ((S319 168 (notR rfl)).trans (up_row (by decide)))))), (RM.keep hR ((congrFun (F321 161 (by decide)) 13).trans ((congrFun (S320 161 (notR rfl)) 13).trans ((congrFun (S319 161 (notR rfl)) 13).trans (up_ne2 (by decide))))) ((F321 169 (by decide)).trans ((S320 169 (notR rfl)).trans ((S319 169 (notR rfl)).trans (up_row (by decide)))))), (FM.keep hF ((congrFun (F321 161 (by decide)) 15).trans ((congrFun (S320 161 (notR rfl)) 15).trans ((congrFun (S319 161 (notR rfl)) 15).trans (up_ne2 (by decide))))) ((F321 189 (by decide)).trans ((S320 189 (notR rfl)).trans ((S319 189 (notR rfl)).trans (up_row (by decide))))) ((F321 190 (by decide)).trans ((S320 190 (notR rfl)).trans ((S319 190 (notR rfl)).trans (up_row (by decide))))))⟩, (fun a h_ => ((F321 a (by omega)).trans ((S320 a (npR h_)).trans ((S319 a (npR h_)).trans (up_row (by omega))))))⟩
      · exfalso; omega
    · exfalso; omega
set_option maxRecDepth 100000 in
theorem rz_quot {d : Nat} {M : Mem} {k : Nat} {pl : Nat → Pl k} {n : Int} {tx : Int → Int} {rc : Nat} {rw : Int → Int} {fc : Nat} {fa : Nat → Pl k} (H : RFS M k pl n tx rc rw fc fa) (i : Nat) (hi : i < 6) (j : Nat) (hj : j < 6) (l : Nat) (hl : l < 6) (s : Int) (hs_ : s = 0 ∨ s = 1) (hj0 : dg (pl j) < 0) : Ct 198 (d + 8) 236 [(1, 161), (0, (i : Int)), (0, (j : Int)), (0, s), (0, (l : Int))] M (fun r_ M' => r_ = (0, -3) ∧ RFS M' k pl n tx rc rw fc fa ∧ (∀ a : Int, (a < 161 ∨ 197 < a) → M' a = M a)) := by
  have hK : cd 236 = k236 := rfl
  obtain ⟨R, C, hpl, T, hR, hF⟩ := H
  have q1_ := qq_I k
  have p1_ := pp_I k
  have m1_ := mm_I k
  have bi_ := (hpl i hi).2
  have di_ := dg_lt9 bi_
  have bj_ := (hpl j hj).2
  have dj_ := dg_lt9 bj_
  have bl_ := (hpl l hl).2
  have dl_ := dg_lt9 bl_
  show Wp 198 _ 236 0 [(1, 161), (0, (i : Int)), (0, (j : Int)), (0, s), (0, (l : Int))] [] M _
  refine w_al hK rfl rfl ?_
  refine w_ic hK rfl ?_
  refine w_puti (n := 14) (m := 14) hK rfl rfl (by decide) (by decide) rfl rfl rfl rfl ?_
  refine w_il hK rfl rfl ?_
  refine w_call [(0, s)] hK rfl rfl rfl rfl (Or.inl rfl) (r_side s (by omega) (by omega)) ?_
  rintro _ Mq ⟨rfl, e_⟩
  subst Mq
  have sI_322 := ite01 (s = 0 ∨ s = 1)
  refine ⟨by show (0 : Nat) ≠ 9; decide, (?_ : Wp 198 _ 236 5 [(1, 161), (0, (i : Int)), (0, (j : Int)), (0, s), (0, (l : Int))] [(0, (if s = 0 ∨ s = 1 then 1 else 0))] (up M 161 14 0) _)⟩
  refine w_eq hK rfl (by omega) (by omega) (fun h5 => ?_) (fun h5 => ?_)
  · exfalso; omega
  · refine w_al hK rfl rfl ?_
    refine w_il hK rfl rfl ?_
    refine w_il hK rfl rfl ?_
    refine w_il hK rfl rfl ?_
    refine w_call [(1, 161), (0, (i : Int)), (0, (j : Int)), (0, (l : Int))] hK rfl rfl rfl rfl (Or.inr ⟨_, _, _, rfl, by decide, (by decide), rfl⟩) (r_loads (RS.cg C (fun j_ h1_ h2_ => up_ne2 (by omega)) (fun a_ h1_ h2_ => up_row h1_)) (PM.keep hpl (up_row (by decide))) i j l hi hj hl) ?_
    rintro _ V323 ⟨P323, rfl, C323, S323, F323, f323_0, f323_1⟩
    refine ⟨by show (0 : Nat) ≠ 9; decide, (?_ : Wp 198 _ 236 11 [(1, 161), (0, (i : Int)), (0, (j : Int)), (0, s), (0, (l : Int))] [(0, 1)] V323 _)⟩
    refine w_ne hK rfl (by omega) (by omega) (fun h11 => ?_) (fun h11 => ?_)
    · refine w_al hK rfl rfl ?_
      refine w_getr (n := 27) (v := 181) hK rfl rfl (by decide) (by decide) rfl rfl rfl rfl ?_
      have dI_ : -1 ≤ dg (pl j) ∧ dg (pl j) ≤ 47 := C323.dI ⟨(isR_of (p := 181) rfl), f323_1⟩
      refine w_call [(1, 181)] hK rfl rfl rfl rfl (Or.inl rfl) (r_deg C323 ⟨(isR_of (p := 181) rfl), f323_1⟩) ?_
      rintro _ Mq ⟨rfl, e_⟩
      subst Mq
      refine ⟨by show (0 : Nat) ≠ 9; decide, (?_ : Wp 198 _ 236 17 [(1, 161), (0, (i : Int)), (0, (j : Int)), (0, s), (0, (l : Int))] [(0, (dg (pl j)))] V323 _)⟩
      refine w_ic hK rfl ?_
      refine w_ne2 hK rfl (by omega) (by omega) (by omega) (by omega) (fun h18 => ?_) (fun h18 => ?_)
      · exfalso; omega
      · refine w_ic hK rfl ?_
        refine w_iret hK rfl rfl ?_
        exact ⟨rfl, ⟨_, C323, (PM.keep hpl ((S323 167 (notR rfl)).trans (up_row (by decide)))), (TMs.keep T ((congrFun (S323 161 (notR rfl)) 11).trans (up_ne2 (by decide))) ((S323 168 (notR rfl)).trans (up_row (by decide)))), (RM.keep hR ((congrFun (S323 161 (notR rfl)) 13).trans (up_ne2 (by decide))) ((S323 169 (notR rfl)).trans (up_row (by decide)))), (FM.keep hF ((congrFun (S323 161 (notR rfl)) 15).trans (up_ne2 (by decide))) ((S323 189 (notR rfl)).trans (up_row (by decide))) ((S323 190 (notR rfl)).trans (up_row (by decide))))⟩, (fun a h_ => ((S323 a (npR h_)).trans (up_row (by omega))))⟩
    · exfalso; omega
set_option maxRecDepth 100000 in
theorem rn_quot {d : Nat} {M : Mem} {k : Nat} {pl : Nat → Pl k} {n : Int} {tx : Int → Int} {rc : Nat} {rw : Int → Int} {fc : Nat} {fa : Nat → Pl k} (H : RFS M k pl n tx rc rw fc fa) (i j s l : Int) (i1_ : -2147483648 ≤ i) (i2_ : i ≤ 2147483647) (j1_ : -2147483648 ≤ j) (j2_ : j ≤ 2147483647) (s1_ : -2147483648 ≤ s) (s2_ : s ≤ 2147483647) (l1_ : -2147483648 ≤ l) (l2_ : l ≤ 2147483647) (hn : ¬ ((0 ≤ i ∧ i < 6) ∧ (0 ≤ j ∧ j < 6) ∧ (0 ≤ l ∧ l < 6) ∧ (s = 0 ∨ s = 1))) : Ct 198 (d + 8) 236 [(1, 161), (0, i), (0, j), (0, s), (0, l)] M (fun r_ M' => r_ = (0, -2) ∧ RFS M' k pl n tx rc rw fc fa ∧ (∀ a : Int, (a < 161 ∨ 197 < a) → M' a = M a)) := by
  have hK : cd 236 = k236 := rfl
  obtain ⟨R, C, hpl, T, hR, hF⟩ := H
  have q1_ := qq_I k
  have p1_ := pp_I k
  have m1_ := mm_I k
  show Wp 198 _ 236 0 [(1, 161), (0, i), (0, j), (0, s), (0, l)] [] M _
  refine w_al hK rfl rfl ?_
  refine w_ic hK rfl ?_
  refine w_puti (n := 14) (m := 14) hK rfl rfl (by decide) (by decide) rfl rfl rfl rfl ?_
  refine w_il hK rfl rfl ?_
  refine w_call [(0, s)] hK rfl rfl rfl rfl (Or.inl rfl) (r_side s (by omega) (by omega)) ?_
  rintro _ Mq ⟨rfl, e_⟩
  subst Mq
  have sI_324 := ite01 (s = 0 ∨ s = 1)
  refine ⟨by show (0 : Nat) ≠ 9; decide, (?_ : Wp 198 _ 236 5 [(1, 161), (0, i), (0, j), (0, s), (0, l)] [(0, (if s = 0 ∨ s = 1 then 1 else 0))] (up M 161 14 0) _)⟩
  refine w_eq hK rfl (by omega) (by omega) (fun h5 => ?_) (fun h5 => ?_)
  · refine w_ic hK rfl ?_
    refine w_iret hK rfl rfl ?_
    exact ⟨rfl, ⟨_, (RS.cg C (fun j_ h1_ h2_ => up_ne2 (by omega)) (fun a_ h1_ h2_ => up_row h1_)), (PM.keep hpl (up_row (by decide))), (TMs.keep T (up_ne2 (by decide)) (up_row (by decide))), (RM.keep hR (up_ne2 (by decide)) (up_row (by decide))), (FM.keep hF (up_ne2 (by decide)) (up_row (by decide)) (up_row (by decide)))⟩, (fun a h_ => (up_row (by omega)))⟩
  · refine w_al hK rfl rfl ?_
    refine w_il hK rfl rfl ?_
    refine w_il hK rfl rfl ?_
    refine w_il hK rfl rfl ?_
    refine w_call [(1, 161), (0, i), (0, j), (0, l)] hK rfl rfl rfl rfl (Or.inr ⟨_, _, _, rfl, by decide, (by decide), rfl⟩) (r_loadsN i j l (by omega) (by omega) (by omega) (by omega) (by omega) (by omega) (by omega)) ?_
    rintro _ Mq ⟨rfl, e_⟩
    subst Mq
    refine ⟨by show (0 : Nat) ≠ 9; decide, (?_ : Wp 198 _ 236 11 [(1, 161), (0, i), (0, j), (0, s), (0, l)] [(0, 0)] (up M 161 14 0) _)⟩
    refine w_ne hK rfl (by omega) (by omega) (fun h11 => ?_) (fun h11 => ?_)
    · exfalso; omega
    · refine w_ic hK rfl ?_
      refine w_iret hK rfl rfl ?_
      exact ⟨rfl, ⟨_, (RS.cg C (fun j_ h1_ h2_ => up_ne2 (by omega)) (fun a_ h1_ h2_ => up_row h1_)), (PM.keep hpl (up_row (by decide))), (TMs.keep T (up_ne2 (by decide)) (up_row (by decide))), (RM.keep hR (up_ne2 (by decide)) (up_row (by decide))), (FM.keep hF (up_ne2 (by decide)) (up_row (by decide)) (up_row (by decide)))⟩, (fun a h_ => (up_row (by omega)))⟩
set_option maxRecDepth 100000 in
theorem ro_rem {d : Nat} {M : Mem} {k : Nat} {pl : Nat → Pl k} {n : Int} {tx : Int → Int} {rc : Nat} {rw : Int → Int} {fc : Nat} {fa : Nat → Pl k} (H : RFS M k pl n tx rc rw fc fa) (i : Nat) (hi : i < 6) (j : Nat) (hj : j < 6) (l : Nat) (hl : l < 6) (s : Int) (hs_ : s = 0 ∨ s = 1) (hj0 : 0 ≤ dg (pl j)) : Ct 198 (d + 8) 239 [(1, 161), (0, (i : Int)), (0, (j : Int)), (0, s), (0, (l : Int))] M (fun r_ M' => r_ = (0, (dg (dr s (pl i) (pl j)))) ∧ RFS M' k (fup pl l (dr s (pl i) (pl j))) n tx rc rw fc fa ∧ (∀ a : Int, (a < 161 ∨ 197 < a) → M' a = M a)) := by
  have hK : cd 239 = k239 := rfl
  obtain ⟨R, C, hpl, T, hR, hF⟩ := H
  have q1_ := qq_I k
  have p1_ := pp_I k
  have m1_ := mm_I k
  have bi_ := (hpl i hi).2
  have di_ := dg_lt9 bi_
  have bj_ := (hpl j hj).2
  have dj_ := dg_lt9 bj_
  have bl_ := (hpl l hl).2
  have dl_ := dg_lt9 bl_
  show Wp 198 _ 239 0 [(1, 161), (0, (i : Int)), (0, (j : Int)), (0, s), (0, (l : Int))] [] M _
  refine w_al hK rfl rfl ?_
  refine w_ic hK rfl ?_
  refine w_puti (n := 14) (m := 14) hK rfl rfl (by decide) (by decide) rfl rfl rfl rfl ?_
  refine w_il hK rfl rfl ?_
  refine w_call [(0, s)] hK rfl rfl rfl rfl (Or.inl rfl) (r_side s (by omega) (by omega)) ?_
  rintro _ Mq ⟨rfl, e_⟩
  subst Mq
  have sI_325 := ite01 (s = 0 ∨ s = 1)
  refine ⟨by show (0 : Nat) ≠ 9; decide, (?_ : Wp 198 _ 239 5 [(1, 161), (0, (i : Int)), (0, (j : Int)), (0, s), (0, (l : Int))] [(0, (if s = 0 ∨ s = 1 then 1 else 0))] (up M 161 14 0) _)⟩
  refine w_eq hK rfl (by omega) (by omega) (fun h5 => ?_) (fun h5 => ?_)
  · exfalso; omega
  · refine w_al hK rfl rfl ?_
    refine w_il hK rfl rfl ?_
    refine w_il hK rfl rfl ?_
    refine w_il hK rfl rfl ?_
    refine w_call [(1, 161), (0, (i : Int)), (0, (j : Int)), (0, (l : Int))] hK rfl rfl rfl rfl (Or.inr ⟨_, _, _, rfl, by decide, (by decide), rfl⟩) (r_loads (RS.cg C (fun j_ h1_ h2_ => up_ne2 (by omega)) (fun a_ h1_ h2_ => up_row h1_)) (PM.keep hpl (up_row (by decide))) i j l hi hj hl) ?_
    rintro _ V326 ⟨P326, rfl, C326, S326, F326, f326_0, f326_1⟩
    refine ⟨by show (0 : Nat) ≠ 9; decide, (?_ : Wp 198 _ 239 11 [(1, 161), (0, (i : Int)), (0, (j : Int)), (0, s), (0, (l : Int))] [(0, 1)] V326 _)⟩
    refine w_ne hK rfl (by omega) (by omega) (fun h11 => ?_) (fun h11 => ?_)
    · refine w_al hK rfl rfl ?_
      refine w_getr (n := 27) (v := 181) hK rfl rfl (by decide) (by decide) rfl rfl rfl rfl ?_
      have dI_ : -1 ≤ dg (pl j) ∧ dg (pl j) ≤ 47 := C326.dI ⟨(isR_of (p := 181) rfl), f326_1⟩
      refine w_call [(1, 181)] hK rfl rfl rfl rfl (Or.inl rfl) (r_deg C326 ⟨(isR_of (p := 181) rfl), f326_1⟩) ?_
      rintro _ Mq ⟨rfl, e_⟩
      subst Mq
      refine ⟨by show (0 : Nat) ≠ 9; decide, (?_ : Wp 198 _ 239 17 [(1, 161), (0, (i : Int)), (0, (j : Int)), (0, s), (0, (l : Int))] [(0, (dg (pl j)))] V326 _)⟩
      refine w_ic hK rfl ?_
      refine w_ne2 hK rfl (by omega) (by omega) (by omega) (by omega) (fun h18 => ?_) (fun h18 => ?_)
      · refine w_al hK rfl rfl ?_
        refine w_al hK rfl rfl ?_
        refine w_getr (n := 26) (v := 180) hK rfl rfl (by decide) (by decide) rfl rfl rfl rfl ?_
        refine w_al hK rfl rfl ?_
        refine w_getr (n := 27) (v := 181) hK rfl rfl (by decide) (by decide) rfl rfl rfl rfl ?_
        refine w_il hK rfl rfl ?_
        refine w_call [(1, 161), (1, 180), (1, 181), (0, s)] hK rfl rfl rfl rfl (Or.inr ⟨_, _, _, rfl, by decide, (by decide), rfl⟩) (r_div C326 ⟨(isR_of (p := 180) rfl), f326_0⟩ ⟨(isR_of (p := 181) rfl), f326_1⟩ s (by omega) (by omega) (by omega) (by omega) (bi_.mono (by decide)) (bj_.mono (by decide))) ?_
        rintro _ V327 ⟨P327, rfl, C327, S327, F327, f327_0, f327_1⟩
        refine ⟨by decide, (?_ : Wp 198 _ 239 28 [(1, 161), (0, (i : Int)), (0, (j : Int)), (0, s), (0, (l : Int))] [] V327 _)⟩
        refine w_al hK rfl rfl ?_
        refine w_al hK rfl rfl ?_
        refine w_getr (n := 19) (v := 173) hK rfl rfl (by decide) (by decide) rfl rfl rfl rfl ?_
        refine w_il hK rfl rfl ?_
        refine w_call [(1, 161), (1, 173), (0, (l : Int))] hK rfl rfl rfl rfl (Or.inr ⟨_, _, _, rfl, by decide, (by decide), rfl⟩) (r_store C327 (PM.keep hpl ((S327 167 (notR rfl)).trans ((S326 167 (notR rfl)).trans (up_row (by decide))))) ⟨(isR_of (p := 173) rfl), f327_0⟩ l hl (Bd9_dr s bi_ bj_ hj0).2) ?_
        rintro _ V328 ⟨rfl, C328, Q328, F328⟩
        refine ⟨(by show (0 : Nat) ≠ 9; decide), (?_ : Wp 198 _ 239 33 [(1, 161), (0, (i : Int)), (0, (j : Int)), (0, s), (0, (l : Int))] [(0, (dg (dr s (pl i) (pl j))))] V328 _)⟩
        refine w_iret hK rfl rfl ?_
        exact ⟨rfl, ⟨_, C328, Q328, (TMs.keep T ((congrFun (F328 161 (by decide)) 11).trans ((congrFun (S327 161 (notR rfl)) 11).trans ((congrFun (S326 161 (notR rfl)) 11).trans (up_ne2 (by decide))))) ((F328 168 (by decide)).trans ((S327 168 (notR rfl)).trans ((S326 168 (notR rfl)).trans (up_row (by decide)))))), (RM.keep hR ((congrFun (F328 161 (by decide)) 13).trans ((congrFun (S327 161 (notR rfl)) 13).trans ((congrFun (S326 161 (notR rfl)) 13).trans (up_ne2 (by decide))))) ((F328 169 (by decide)).trans ((S327 169 (notR rfl)).trans ((S326 169 (notR rfl)).trans (up_row (by decide)))))), (FM.keep hF ((congrFun (F328 161 (by decide)) 15).trans ((congrFun (S327 161 (notR rfl)) 15).trans ((congrFun (S326 161 (notR rfl)) 15).trans (up_ne2 (by decide))))) ((F328 189 (by decide)).trans ((S327 189 (notR rfl)).trans ((S326 189 (notR rfl)).trans (up_row (by decide))))) ((F328 190 (by decide)).trans ((S327 190 (notR rfl)).trans ((S326 190 (notR rfl)).trans (up_row (by decide))))))⟩, (fun a h_ => ((F328 a (by omega)).trans ((S327 a (npR h_)).trans ((S326 a (npR h_)).trans (up_row (by omega))))))⟩
      · exfalso; omega
    · exfalso; omega
set_option maxRecDepth 100000 in
theorem rz_rem {d : Nat} {M : Mem} {k : Nat} {pl : Nat → Pl k} {n : Int} {tx : Int → Int} {rc : Nat} {rw : Int → Int} {fc : Nat} {fa : Nat → Pl k} (H : RFS M k pl n tx rc rw fc fa) (i : Nat) (hi : i < 6) (j : Nat) (hj : j < 6) (l : Nat) (hl : l < 6) (s : Int) (hs_ : s = 0 ∨ s = 1) (hj0 : dg (pl j) < 0) : Ct 198 (d + 8) 239 [(1, 161), (0, (i : Int)), (0, (j : Int)), (0, s), (0, (l : Int))] M (fun r_ M' => r_ = (0, -3) ∧ RFS M' k pl n tx rc rw fc fa ∧ (∀ a : Int, (a < 161 ∨ 197 < a) → M' a = M a)) := by
  have hK : cd 239 = k239 := rfl
  obtain ⟨R, C, hpl, T, hR, hF⟩ := H
  have q1_ := qq_I k
  have p1_ := pp_I k
  have m1_ := mm_I k
  have bi_ := (hpl i hi).2
  have di_ := dg_lt9 bi_
  have bj_ := (hpl j hj).2
  have dj_ := dg_lt9 bj_
  have bl_ := (hpl l hl).2
  have dl_ := dg_lt9 bl_
  show Wp 198 _ 239 0 [(1, 161), (0, (i : Int)), (0, (j : Int)), (0, s), (0, (l : Int))] [] M _
  refine w_al hK rfl rfl ?_
  refine w_ic hK rfl ?_
  refine w_puti (n := 14) (m := 14) hK rfl rfl (by decide) (by decide) rfl rfl rfl rfl ?_
  refine w_il hK rfl rfl ?_
  refine w_call [(0, s)] hK rfl rfl rfl rfl (Or.inl rfl) (r_side s (by omega) (by omega)) ?_
  rintro _ Mq ⟨rfl, e_⟩
  subst Mq
  have sI_329 := ite01 (s = 0 ∨ s = 1)
  refine ⟨by show (0 : Nat) ≠ 9; decide, (?_ : Wp 198 _ 239 5 [(1, 161), (0, (i : Int)), (0, (j : Int)), (0, s), (0, (l : Int))] [(0, (if s = 0 ∨ s = 1 then 1 else 0))] (up M 161 14 0) _)⟩
  refine w_eq hK rfl (by omega) (by omega) (fun h5 => ?_) (fun h5 => ?_)
  · exfalso; omega
  · refine w_al hK rfl rfl ?_
    refine w_il hK rfl rfl ?_
    refine w_il hK rfl rfl ?_
    refine w_il hK rfl rfl ?_
    refine w_call [(1, 161), (0, (i : Int)), (0, (j : Int)), (0, (l : Int))] hK rfl rfl rfl rfl (Or.inr ⟨_, _, _, rfl, by decide, (by decide), rfl⟩) (r_loads (RS.cg C (fun j_ h1_ h2_ => up_ne2 (by omega)) (fun a_ h1_ h2_ => up_row h1_)) (PM.keep hpl (up_row (by decide))) i j l hi hj hl) ?_
    rintro _ V330 ⟨P330, rfl, C330, S330, F330, f330_0, f330_1⟩
    refine ⟨by show (0 : Nat) ≠ 9; decide, (?_ : Wp 198 _ 239 11 [(1, 161), (0, (i : Int)), (0, (j : Int)), (0, s), (0, (l : Int))] [(0, 1)] V330 _)⟩
    refine w_ne hK rfl (by omega) (by omega) (fun h11 => ?_) (fun h11 => ?_)
    · refine w_al hK rfl rfl ?_
      refine w_getr (n := 27) (v := 181) hK rfl rfl (by decide) (by decide) rfl rfl rfl rfl ?_
      have dI_ : -1 ≤ dg (pl j) ∧ dg (pl j) ≤ 47 := C330.dI ⟨(isR_of (p := 181) rfl), f330_1⟩
      refine w_call [(1, 181)] hK rfl rfl rfl rfl (Or.inl rfl) (r_deg C330 ⟨(isR_of (p := 181) rfl), f330_1⟩) ?_
      rintro _ Mq ⟨rfl, e_⟩
      subst Mq
      refine ⟨by show (0 : Nat) ≠ 9; decide, (?_ : Wp 198 _ 239 17 [(1, 161), (0, (i : Int)), (0, (j : Int)), (0, s), (0, (l : Int))] [(0, (dg (pl j)))] V330 _)⟩
      refine w_ic hK rfl ?_
      refine w_ne2 hK rfl (by omega) (by omega) (by omega) (by omega) (fun h18 => ?_) (fun h18 => ?_)
      · exfalso; omega
      · refine w_ic hK rfl ?_
        refine w_iret hK rfl rfl ?_
        exact ⟨rfl, ⟨_, C330, (PM.keep hpl ((S330 167 (notR rfl)).trans (up_row (by decide)))), (TMs.keep T ((congrFun (S330 161 (notR rfl)) 11).trans (up_ne2 (by decide))) ((S330 168 (notR rfl)).trans (up_row (by decide)))), (RM.keep hR ((congrFun (S330 161 (notR rfl)) 13).trans (up_ne2 (by decide))) ((S330 169 (notR rfl)).trans (up_row (by decide)))), (FM.keep hF ((congrFun (S330 161 (notR rfl)) 15).trans (up_ne2 (by decide))) ((S330 189 (notR rfl)).trans (up_row (by decide))) ((S330 190 (notR rfl)).trans (up_row (by decide))))⟩, (fun a h_ => ((S330 a (npR h_)).trans (up_row (by omega))))⟩
    · exfalso; omega
set_option maxRecDepth 100000 in
theorem rn_rem {d : Nat} {M : Mem} {k : Nat} {pl : Nat → Pl k} {n : Int} {tx : Int → Int} {rc : Nat} {rw : Int → Int} {fc : Nat} {fa : Nat → Pl k} (H : RFS M k pl n tx rc rw fc fa) (i j s l : Int) (i1_ : -2147483648 ≤ i) (i2_ : i ≤ 2147483647) (j1_ : -2147483648 ≤ j) (j2_ : j ≤ 2147483647) (s1_ : -2147483648 ≤ s) (s2_ : s ≤ 2147483647) (l1_ : -2147483648 ≤ l) (l2_ : l ≤ 2147483647) (hn : ¬ ((0 ≤ i ∧ i < 6) ∧ (0 ≤ j ∧ j < 6) ∧ (0 ≤ l ∧ l < 6) ∧ (s = 0 ∨ s = 1))) : Ct 198 (d + 8) 239 [(1, 161), (0, i), (0, j), (0, s), (0, l)] M (fun r_ M' => r_ = (0, -2) ∧ RFS M' k pl n tx rc rw fc fa ∧ (∀ a : Int, (a < 161 ∨ 197 < a) → M' a = M a)) := by
  have hK : cd 239 = k239 := rfl
  obtain ⟨R, C, hpl, T, hR, hF⟩ := H
  have q1_ := qq_I k
  have p1_ := pp_I k
  have m1_ := mm_I k
  show Wp 198 _ 239 0 [(1, 161), (0, i), (0, j), (0, s), (0, l)] [] M _
  refine w_al hK rfl rfl ?_
  refine w_ic hK rfl ?_
  refine w_puti (n := 14) (m := 14) hK rfl rfl (by decide) (by decide) rfl rfl rfl rfl ?_
  refine w_il hK rfl rfl ?_
  refine w_call [(0, s)] hK rfl rfl rfl rfl (Or.inl rfl) (r_side s (by omega) (by omega)) ?_
  rintro _ Mq ⟨rfl, e_⟩
  subst Mq
  have sI_331 := ite01 (s = 0 ∨ s = 1)
  refine ⟨by show (0 : Nat) ≠ 9; decide, (?_ : Wp 198 _ 239 5 [(1, 161), (0, i), (0, j), (0, s), (0, l)] [(0, (if s = 0 ∨ s = 1 then 1 else 0))] (up M 161 14 0) _)⟩
  refine w_eq hK rfl (by omega) (by omega) (fun h5 => ?_) (fun h5 => ?_)
  · refine w_ic hK rfl ?_
    refine w_iret hK rfl rfl ?_
    exact ⟨rfl, ⟨_, (RS.cg C (fun j_ h1_ h2_ => up_ne2 (by omega)) (fun a_ h1_ h2_ => up_row h1_)), (PM.keep hpl (up_row (by decide))), (TMs.keep T (up_ne2 (by decide)) (up_row (by decide))), (RM.keep hR (up_ne2 (by decide)) (up_row (by decide))), (FM.keep hF (up_ne2 (by decide)) (up_row (by decide)) (up_row (by decide)))⟩, (fun a h_ => (up_row (by omega)))⟩
  · refine w_al hK rfl rfl ?_
    refine w_il hK rfl rfl ?_
    refine w_il hK rfl rfl ?_
    refine w_il hK rfl rfl ?_
    refine w_call [(1, 161), (0, i), (0, j), (0, l)] hK rfl rfl rfl rfl (Or.inr ⟨_, _, _, rfl, by decide, (by decide), rfl⟩) (r_loadsN i j l (by omega) (by omega) (by omega) (by omega) (by omega) (by omega) (by omega)) ?_
    rintro _ Mq ⟨rfl, e_⟩
    subst Mq
    refine ⟨by show (0 : Nat) ≠ 9; decide, (?_ : Wp 198 _ 239 11 [(1, 161), (0, i), (0, j), (0, s), (0, l)] [(0, 0)] (up M 161 14 0) _)⟩
    refine w_ne hK rfl (by omega) (by omega) (fun h11 => ?_) (fun h11 => ?_)
    · exfalso; omega
    · refine w_ic hK rfl ?_
      refine w_iret hK rfl rfl ?_
      exact ⟨rfl, ⟨_, (RS.cg C (fun j_ h1_ h2_ => up_ne2 (by omega)) (fun a_ h1_ h2_ => up_row h1_)), (PM.keep hpl (up_row (by decide))), (TMs.keep T (up_ne2 (by decide)) (up_row (by decide))), (RM.keep hR (up_ne2 (by decide)) (up_row (by decide))), (FM.keep hF (up_ne2 (by decide)) (up_row (by decide)) (up_row (by decide)))⟩, (fun a h_ => (up_row (by omega)))⟩
set_option maxRecDepth 100000 in
theorem ro_divisor {d : Nat} {M : Mem} {k : Nat} {pl : Nat → Pl k} {n : Int} {tx : Int → Int} {rc : Nat} {rw : Int → Int} {fc : Nat} {fa : Nat → Pl k} (H : RFS M k pl n tx rc rw fc fa) (i : Nat) (hi : i < 6) (j : Nat) (hj : j < 6) (l : Nat) (hl : l < 6) (s : Int) (hs_ : s = 0 ∨ s = 1) (h0_ : 0 ≤ dg (pl i) ∨ 0 ≤ dg (pl j)) : Ct 198 (d + 8) 240 [(1, 161), (0, (i : Int)), (0, (j : Int)), (0, s), (0, (l : Int))] M (fun r_ M' => r_ = (0, (dg (mon s (euL s (pl i) (pl j)).1))) ∧ RFS M' k (fup pl l (mon s (euL s (pl i) (pl j)).1)) n tx rc rw fc fa ∧ (∀ a : Int, (a < 161 ∨ 197 < a) → M' a = M a)) := by
  have hK : cd 240 = k240 := rfl
  obtain ⟨R, C, hpl, T, hR, hF⟩ := H
  have q1_ := qq_I k
  have p1_ := pp_I k
  have m1_ := mm_I k
  have bi_ := (hpl i hi).2
  have di_ := dg_lt9 bi_
  have bj_ := (hpl j hj).2
  have dj_ := dg_lt9 bj_
  have bl_ := (hpl l hl).2
  have dl_ := dg_lt9 bl_
  obtain ⟨nE_, eE_⟩ := euE_ex s bi_ bj_
  have eF_ := euL_facts bi_ bj_ eE_
  have eB_ := euL_B bi_ bj_ eE_
  have eD_ := dg_lt9 eB_.1.1
  have hE0_ := eF_.2.2.2 (by rcases h0_ with q | q; exact Or.inl (fun e => by rw [e, dg_pz] at q; omega); exact Or.inr (fun e => by rw [e, dg_pz] at q; omega))
  show Wp 198 _ 240 0 [(1, 161), (0, (i : Int)), (0, (j : Int)), (0, s), (0, (l : Int))] [] M _
  refine w_al hK rfl rfl ?_
  refine w_ic hK rfl ?_
  refine w_puti (n := 14) (m := 14) hK rfl rfl (by decide) (by decide) rfl rfl rfl rfl ?_
  refine w_il hK rfl rfl ?_
  refine w_call [(0, s)] hK rfl rfl rfl rfl (Or.inl rfl) (r_side s (by omega) (by omega)) ?_
  rintro _ Mq ⟨rfl, e_⟩
  subst Mq
  have sI_332 := ite01 (s = 0 ∨ s = 1)
  refine ⟨by show (0 : Nat) ≠ 9; decide, (?_ : Wp 198 _ 240 5 [(1, 161), (0, (i : Int)), (0, (j : Int)), (0, s), (0, (l : Int))] [(0, (if s = 0 ∨ s = 1 then 1 else 0))] (up M 161 14 0) _)⟩
  refine w_eq hK rfl (by omega) (by omega) (fun h5 => ?_) (fun h5 => ?_)
  · exfalso; omega
  · refine w_al hK rfl rfl ?_
    refine w_il hK rfl rfl ?_
    refine w_il hK rfl rfl ?_
    refine w_il hK rfl rfl ?_
    refine w_call [(1, 161), (0, (i : Int)), (0, (j : Int)), (0, (l : Int))] hK rfl rfl rfl rfl (Or.inr ⟨_, _, _, rfl, by decide, (by decide), rfl⟩) (r_loads (RS.cg C (fun j_ h1_ h2_ => up_ne2 (by omega)) (fun a_ h1_ h2_ => up_row h1_)) (PM.keep hpl (up_row (by decide))) i j l hi hj hl) ?_
    rintro _ V333 ⟨P333, rfl, C333, S333, F333, f333_0, f333_1⟩
    refine ⟨by show (0 : Nat) ≠ 9; decide, (?_ : Wp 198 _ 240 11 [(1, 161), (0, (i : Int)), (0, (j : Int)), (0, s), (0, (l : Int))] [(0, 1)] V333 _)⟩
    refine w_ne hK rfl (by omega) (by omega) (fun h11 => ?_) (fun h11 => ?_)
    · refine w_al hK rfl rfl ?_
      refine w_getr (n := 26) (v := 180) hK rfl rfl (by decide) (by decide) rfl rfl rfl rfl ?_
      have dI_ : -1 ≤ dg (pl i) ∧ dg (pl i) ≤ 47 := C333.dI ⟨(isR_of (p := 180) rfl), f333_0⟩
      refine w_call [(1, 180)] hK rfl rfl rfl rfl (Or.inl rfl) (r_deg C333 ⟨(isR_of (p := 180) rfl), f333_0⟩) ?_
      rintro _ Mq ⟨rfl, e_⟩
      subst Mq
      refine ⟨by show (0 : Nat) ≠ 9; decide, (?_ : Wp 198 _ 240 17 [(1, 161), (0, (i : Int)), (0, (j : Int)), (0, s), (0, (l : Int))] [(0, (dg (pl i)))] V333 _)⟩
      refine w_ic hK rfl ?_
      refine w_ne2 hK rfl (by omega) (by omega) (by omega) (by omega) (fun h18 => ?_) (fun h18 => ?_)
      · refine w_al hK rfl rfl ?_
        refine w_al hK rfl rfl ?_
        refine w_getr (n := 26) (v := 180) hK rfl rfl (by decide) (by decide) rfl rfl rfl rfl ?_
        refine w_al hK rfl rfl ?_
        refine w_getr (n := 27) (v := 181) hK rfl rfl (by decide) (by decide) rfl rfl rfl rfl ?_
        refine w_il hK rfl rfl ?_
        refine w_call [(1, 161), (1, 180), (1, 181), (0, s)] hK rfl rfl rfl rfl (Or.inr ⟨_, _, _, rfl, by decide, (by decide), rfl⟩) (r_euc C333 ⟨(isR_of (p := 180) rfl), f333_0⟩ ⟨(isR_of (p := 181) rfl), f333_1⟩ s (by omega) (by omega) (by omega) bi_ bj_) ?_
        rintro _ V334 ⟨P334, rfl, C334, S334, F334, f334_0, f334_1⟩
        refine ⟨by decide, (?_ : Wp 198 _ 240 33 [(1, 161), (0, (i : Int)), (0, (j : Int)), (0, s), (0, (l : Int))] [] V334 _)⟩
        refine w_al hK rfl rfl ?_
        refine w_al hK rfl rfl ?_
        refine w_getr (n := 21) (v := 175) hK rfl rfl (by decide) (by decide) rfl rfl rfl rfl ?_
        refine w_il hK rfl rfl ?_
        refine w_call [(1, 161), (1, 175), (0, s)] hK rfl rfl rfl rfl (Or.inr ⟨_, _, _, rfl, by decide, (by decide), rfl⟩) (r_mon C334 ⟨(isR_of (p := 175) rfl), f334_0⟩ (by omega) (by omega) s (by omega)) ?_
        rintro _ V335 ⟨P335, rfl, C335, S335, F335, f335_0⟩
        refine ⟨by decide, (?_ : Wp 198 _ 240 38 [(1, 161), (0, (i : Int)), (0, (j : Int)), (0, s), (0, (l : Int))] [] V335 _)⟩
        refine w_al hK rfl rfl ?_
        refine w_al hK rfl rfl ?_
        refine w_getr (n := 21) (v := 175) hK rfl rfl (by decide) (by decide) rfl rfl rfl rfl ?_
        refine w_il hK rfl rfl ?_
        refine w_call [(1, 161), (1, 175), (0, (l : Int))] hK rfl rfl rfl rfl (Or.inr ⟨_, _, _, rfl, by decide, (by decide), rfl⟩) (r_store C335 (PM.keep hpl ((S335 167 (notR rfl)).trans ((S334 167 (notR rfl)).trans ((S333 167 (notR rfl)).trans (up_row (by decide)))))) ⟨(isR_of (p := 175) rfl), f335_0⟩ l hl (Bd_mon s eB_.1.1)) ?_
        rintro _ V336 ⟨rfl, C336, Q336, F336⟩
        refine ⟨(by show (0 : Nat) ≠ 9; decide), (?_ : Wp 198 _ 240 43 [(1, 161), (0, (i : Int)), (0, (j : Int)), (0, s), (0, (l : Int))] [(0, (dg (mon s ((euL s (pl i) (pl j)).1))))] V336 _)⟩
        refine w_iret hK rfl rfl ?_
        exact ⟨rfl, ⟨_, C336, Q336, (TMs.keep T ((congrFun (F336 161 (by decide)) 11).trans ((congrFun (S335 161 (notR rfl)) 11).trans ((congrFun (S334 161 (notR rfl)) 11).trans ((congrFun (S333 161 (notR rfl)) 11).trans (up_ne2 (by decide)))))) ((F336 168 (by decide)).trans ((S335 168 (notR rfl)).trans ((S334 168 (notR rfl)).trans ((S333 168 (notR rfl)).trans (up_row (by decide))))))), (RM.keep hR ((congrFun (F336 161 (by decide)) 13).trans ((congrFun (S335 161 (notR rfl)) 13).trans ((congrFun (S334 161 (notR rfl)) 13).trans ((congrFun (S333 161 (notR rfl)) 13).trans (up_ne2 (by decide)))))) ((F336 169 (by decide)).trans ((S335 169 (notR rfl)).trans ((S334 169 (notR rfl)).trans ((S333 169 (notR rfl)).trans (up_row (by decide))))))), (FM.keep hF ((congrFun (F336 161 (by decide)) 15).trans ((congrFun (S335 161 (notR rfl)) 15).trans ((congrFun (S334 161 (notR rfl)) 15).trans ((congrFun (S333 161 (notR rfl)) 15).trans (up_ne2 (by decide)))))) ((F336 189 (by decide)).trans ((S335 189 (notR rfl)).trans ((S334 189 (notR rfl)).trans ((S333 189 (notR rfl)).trans (up_row (by decide)))))) ((F336 190 (by decide)).trans ((S335 190 (notR rfl)).trans ((S334 190 (notR rfl)).trans ((S333 190 (notR rfl)).trans (up_row (by decide)))))))⟩, (fun a h_ => ((F336 a (by omega)).trans ((S335 a (npR h_)).trans ((S334 a (npR h_)).trans ((S333 a (npR h_)).trans (up_row (by omega)))))))⟩
      · refine w_al hK rfl rfl ?_
        refine w_getr (n := 27) (v := 181) hK rfl rfl (by decide) (by decide) rfl rfl rfl rfl ?_
        have dI_ : -1 ≤ dg (pl j) ∧ dg (pl j) ≤ 47 := C333.dI ⟨(isR_of (p := 181) rfl), f333_1⟩
        refine w_call [(1, 181)] hK rfl rfl rfl rfl (Or.inl rfl) (r_deg C333 ⟨(isR_of (p := 181) rfl), f333_1⟩) ?_
        rintro _ Mq ⟨rfl, e_⟩
        subst Mq
        refine ⟨by show (0 : Nat) ≠ 9; decide, (?_ : Wp 198 _ 240 22 [(1, 161), (0, (i : Int)), (0, (j : Int)), (0, s), (0, (l : Int))] [(0, (dg (pl j)))] V333 _)⟩
        refine w_ic hK rfl ?_
        refine w_ne2 hK rfl (by omega) (by omega) (by omega) (by omega) (fun h23 => ?_) (fun h23 => ?_)
        · refine w_al hK rfl rfl ?_
          refine w_al hK rfl rfl ?_
          refine w_getr (n := 26) (v := 180) hK rfl rfl (by decide) (by decide) rfl rfl rfl rfl ?_
          refine w_al hK rfl rfl ?_
          refine w_getr (n := 27) (v := 181) hK rfl rfl (by decide) (by decide) rfl rfl rfl rfl ?_
          refine w_il hK rfl rfl ?_
          refine w_call [(1, 161), (1, 180), (1, 181), (0, s)] hK rfl rfl rfl rfl (Or.inr ⟨_, _, _, rfl, by decide, (by decide), rfl⟩) (r_euc C333 ⟨(isR_of (p := 180) rfl), f333_0⟩ ⟨(isR_of (p := 181) rfl), f333_1⟩ s (by omega) (by omega) (by omega) bi_ bj_) ?_
          rintro _ V337 ⟨P337, rfl, C337, S337, F337, f337_0, f337_1⟩
          refine ⟨by decide, (?_ : Wp 198 _ 240 33 [(1, 161), (0, (i : Int)), (0, (j : Int)), (0, s), (0, (l : Int))] [] V337 _)⟩
          refine w_al hK rfl rfl ?_
          refine w_al hK rfl rfl ?_
          refine w_getr (n := 21) (v := 175) hK rfl rfl (by decide) (by decide) rfl rfl rfl rfl ?_
          refine w_il hK rfl rfl ?_
          refine w_call [(1, 161), (1, 175), (0, s)] hK rfl rfl rfl rfl (Or.inr ⟨_, _, _, rfl, by decide, (by decide), rfl⟩) (r_mon C337 ⟨(isR_of (p := 175) rfl), f337_0⟩ (by omega) (by omega) s (by omega)) ?_
          rintro _ V338 ⟨P338, rfl, C338, S338, F338, f338_0⟩
          refine ⟨by decide, (?_ : Wp 198 _ 240 38 [(1, 161), (0, (i : Int)), (0, (j : Int)), (0, s), (0, (l : Int))] [] V338 _)⟩
          refine w_al hK rfl rfl ?_
          refine w_al hK rfl rfl ?_
          refine w_getr (n := 21) (v := 175) hK rfl rfl (by decide) (by decide) rfl rfl rfl rfl ?_
          refine w_il hK rfl rfl ?_
          refine w_call [(1, 161), (1, 175), (0, (l : Int))] hK rfl rfl rfl rfl (Or.inr ⟨_, _, _, rfl, by decide, (by decide), rfl⟩) (r_store C338 (PM.keep hpl ((S338 167 (notR rfl)).trans ((S337 167 (notR rfl)).trans ((S333 167 (notR rfl)).trans (up_row (by decide)))))) ⟨(isR_of (p := 175) rfl), f338_0⟩ l hl (Bd_mon s eB_.1.1)) ?_
          rintro _ V339 ⟨rfl, C339, Q339, F339⟩
          refine ⟨(by show (0 : Nat) ≠ 9; decide), (?_ : Wp 198 _ 240 43 [(1, 161), (0, (i : Int)), (0, (j : Int)), (0, s), (0, (l : Int))] [(0, (dg (mon s ((euL s (pl i) (pl j)).1))))] V339 _)⟩
          refine w_iret hK rfl rfl ?_
          exact ⟨rfl, ⟨_, C339, Q339, (TMs.keep T ((congrFun (F339 161 (by decide)) 11).trans ((congrFun (S338 161 (notR rfl)) 11).trans ((congrFun (S337 161 (notR rfl)) 11).trans ((congrFun (S333 161 (notR rfl)) 11).trans (up_ne2 (by decide)))))) ((F339 168 (by decide)).trans ((S338 168 (notR rfl)).trans ((S337 168 (notR rfl)).trans ((S333 168 (notR rfl)).trans (up_row (by decide))))))), (RM.keep hR ((congrFun (F339 161 (by decide)) 13).trans ((congrFun (S338 161 (notR rfl)) 13).trans ((congrFun (S337 161 (notR rfl)) 13).trans ((congrFun (S333 161 (notR rfl)) 13).trans (up_ne2 (by decide)))))) ((F339 169 (by decide)).trans ((S338 169 (notR rfl)).trans ((S337 169 (notR rfl)).trans ((S333 169 (notR rfl)).trans (up_row (by decide))))))), (FM.keep hF ((congrFun (F339 161 (by decide)) 15).trans ((congrFun (S338 161 (notR rfl)) 15).trans ((congrFun (S337 161 (notR rfl)) 15).trans ((congrFun (S333 161 (notR rfl)) 15).trans (up_ne2 (by decide)))))) ((F339 189 (by decide)).trans ((S338 189 (notR rfl)).trans ((S337 189 (notR rfl)).trans ((S333 189 (notR rfl)).trans (up_row (by decide)))))) ((F339 190 (by decide)).trans ((S338 190 (notR rfl)).trans ((S337 190 (notR rfl)).trans ((S333 190 (notR rfl)).trans (up_row (by decide)))))))⟩, (fun a h_ => ((F339 a (by omega)).trans ((S338 a (npR h_)).trans ((S337 a (npR h_)).trans ((S333 a (npR h_)).trans (up_row (by omega)))))))⟩
        · exfalso; omega
    · exfalso; omega
set_option maxRecDepth 100000 in
theorem rz_divisor {d : Nat} {M : Mem} {k : Nat} {pl : Nat → Pl k} {n : Int} {tx : Int → Int} {rc : Nat} {rw : Int → Int} {fc : Nat} {fa : Nat → Pl k} (H : RFS M k pl n tx rc rw fc fa) (i : Nat) (hi : i < 6) (j : Nat) (hj : j < 6) (l : Nat) (hl : l < 6) (s : Int) (hs_ : s = 0 ∨ s = 1) (h0_ : dg (pl i) < 0 ∧ dg (pl j) < 0) : Ct 198 (d + 8) 240 [(1, 161), (0, (i : Int)), (0, (j : Int)), (0, s), (0, (l : Int))] M (fun r_ M' => r_ = (0, -2) ∧ RFS M' k pl n tx rc rw fc fa ∧ (∀ a : Int, (a < 161 ∨ 197 < a) → M' a = M a)) := by
  have hK : cd 240 = k240 := rfl
  obtain ⟨R, C, hpl, T, hR, hF⟩ := H
  have q1_ := qq_I k
  have p1_ := pp_I k
  have m1_ := mm_I k
  have bi_ := (hpl i hi).2
  have di_ := dg_lt9 bi_
  have bj_ := (hpl j hj).2
  have dj_ := dg_lt9 bj_
  have bl_ := (hpl l hl).2
  have dl_ := dg_lt9 bl_
  show Wp 198 _ 240 0 [(1, 161), (0, (i : Int)), (0, (j : Int)), (0, s), (0, (l : Int))] [] M _
  refine w_al hK rfl rfl ?_
  refine w_ic hK rfl ?_
  refine w_puti (n := 14) (m := 14) hK rfl rfl (by decide) (by decide) rfl rfl rfl rfl ?_
  refine w_il hK rfl rfl ?_
  refine w_call [(0, s)] hK rfl rfl rfl rfl (Or.inl rfl) (r_side s (by omega) (by omega)) ?_
  rintro _ Mq ⟨rfl, e_⟩
  subst Mq
  have sI_340 := ite01 (s = 0 ∨ s = 1)
  refine ⟨by show (0 : Nat) ≠ 9; decide, (?_ : Wp 198 _ 240 5 [(1, 161), (0, (i : Int)), (0, (j : Int)), (0, s), (0, (l : Int))] [(0, (if s = 0 ∨ s = 1 then 1 else 0))] (up M 161 14 0) _)⟩
  refine w_eq hK rfl (by omega) (by omega) (fun h5 => ?_) (fun h5 => ?_)
  · exfalso; omega
  · refine w_al hK rfl rfl ?_
    refine w_il hK rfl rfl ?_
    refine w_il hK rfl rfl ?_
    refine w_il hK rfl rfl ?_
    refine w_call [(1, 161), (0, (i : Int)), (0, (j : Int)), (0, (l : Int))] hK rfl rfl rfl rfl (Or.inr ⟨_, _, _, rfl, by decide, (by decide), rfl⟩) (r_loads (RS.cg C (fun j_ h1_ h2_ => up_ne2 (by omega)) (fun a_ h1_ h2_ => up_row h1_)) (PM.keep hpl (up_row (by decide))) i j l hi hj hl) ?_
    rintro _ V341 ⟨P341, rfl, C341, S341, F341, f341_0, f341_1⟩
    refine ⟨by show (0 : Nat) ≠ 9; decide, (?_ : Wp 198 _ 240 11 [(1, 161), (0, (i : Int)), (0, (j : Int)), (0, s), (0, (l : Int))] [(0, 1)] V341 _)⟩
    refine w_ne hK rfl (by omega) (by omega) (fun h11 => ?_) (fun h11 => ?_)
    · refine w_al hK rfl rfl ?_
      refine w_getr (n := 26) (v := 180) hK rfl rfl (by decide) (by decide) rfl rfl rfl rfl ?_
      have dI_ : -1 ≤ dg (pl i) ∧ dg (pl i) ≤ 47 := C341.dI ⟨(isR_of (p := 180) rfl), f341_0⟩
      refine w_call [(1, 180)] hK rfl rfl rfl rfl (Or.inl rfl) (r_deg C341 ⟨(isR_of (p := 180) rfl), f341_0⟩) ?_
      rintro _ Mq ⟨rfl, e_⟩
      subst Mq
      refine ⟨by show (0 : Nat) ≠ 9; decide, (?_ : Wp 198 _ 240 17 [(1, 161), (0, (i : Int)), (0, (j : Int)), (0, s), (0, (l : Int))] [(0, (dg (pl i)))] V341 _)⟩
      refine w_ic hK rfl ?_
      refine w_ne2 hK rfl (by omega) (by omega) (by omega) (by omega) (fun h18 => ?_) (fun h18 => ?_)
      · exfalso; omega
      · refine w_al hK rfl rfl ?_
        refine w_getr (n := 27) (v := 181) hK rfl rfl (by decide) (by decide) rfl rfl rfl rfl ?_
        have dI_ : -1 ≤ dg (pl j) ∧ dg (pl j) ≤ 47 := C341.dI ⟨(isR_of (p := 181) rfl), f341_1⟩
        refine w_call [(1, 181)] hK rfl rfl rfl rfl (Or.inl rfl) (r_deg C341 ⟨(isR_of (p := 181) rfl), f341_1⟩) ?_
        rintro _ Mq ⟨rfl, e_⟩
        subst Mq
        refine ⟨by show (0 : Nat) ≠ 9; decide, (?_ : Wp 198 _ 240 22 [(1, 161), (0, (i : Int)), (0, (j : Int)), (0, s), (0, (l : Int))] [(0, (dg (pl j)))] V341 _)⟩
        refine w_ic hK rfl ?_
        refine w_ne2 hK rfl (by omega) (by omega) (by omega) (by omega) (fun h23 => ?_) (fun h23 => ?_)
        · exfalso; omega
        · refine w_ic hK rfl ?_
          refine w_iret hK rfl rfl ?_
          exact ⟨rfl, ⟨_, C341, (PM.keep hpl ((S341 167 (notR rfl)).trans (up_row (by decide)))), (TMs.keep T ((congrFun (S341 161 (notR rfl)) 11).trans (up_ne2 (by decide))) ((S341 168 (notR rfl)).trans (up_row (by decide)))), (RM.keep hR ((congrFun (S341 161 (notR rfl)) 13).trans (up_ne2 (by decide))) ((S341 169 (notR rfl)).trans (up_row (by decide)))), (FM.keep hF ((congrFun (S341 161 (notR rfl)) 15).trans (up_ne2 (by decide))) ((S341 189 (notR rfl)).trans (up_row (by decide))) ((S341 190 (notR rfl)).trans (up_row (by decide))))⟩, (fun a h_ => ((S341 a (npR h_)).trans (up_row (by omega))))⟩
    · exfalso; omega
set_option maxRecDepth 100000 in
theorem rn_divisor {d : Nat} {M : Mem} {k : Nat} {pl : Nat → Pl k} {n : Int} {tx : Int → Int} {rc : Nat} {rw : Int → Int} {fc : Nat} {fa : Nat → Pl k} (H : RFS M k pl n tx rc rw fc fa) (i j s l : Int) (i1_ : -2147483648 ≤ i) (i2_ : i ≤ 2147483647) (j1_ : -2147483648 ≤ j) (j2_ : j ≤ 2147483647) (s1_ : -2147483648 ≤ s) (s2_ : s ≤ 2147483647) (l1_ : -2147483648 ≤ l) (l2_ : l ≤ 2147483647) (hn : ¬ ((0 ≤ i ∧ i < 6) ∧ (0 ≤ j ∧ j < 6) ∧ (0 ≤ l ∧ l < 6) ∧ (s = 0 ∨ s = 1))) : Ct 198 (d + 8) 240 [(1, 161), (0, i), (0, j), (0, s), (0, l)] M (fun r_ M' => r_ = (0, -1) ∧ RFS M' k pl n tx rc rw fc fa ∧ (∀ a : Int, (a < 161 ∨ 197 < a) → M' a = M a)) := by
  have hK : cd 240 = k240 := rfl
  obtain ⟨R, C, hpl, T, hR, hF⟩ := H
  have q1_ := qq_I k
  have p1_ := pp_I k
  have m1_ := mm_I k
  show Wp 198 _ 240 0 [(1, 161), (0, i), (0, j), (0, s), (0, l)] [] M _
  refine w_al hK rfl rfl ?_
  refine w_ic hK rfl ?_
  refine w_puti (n := 14) (m := 14) hK rfl rfl (by decide) (by decide) rfl rfl rfl rfl ?_
  refine w_il hK rfl rfl ?_
  refine w_call [(0, s)] hK rfl rfl rfl rfl (Or.inl rfl) (r_side s (by omega) (by omega)) ?_
  rintro _ Mq ⟨rfl, e_⟩
  subst Mq
  have sI_342 := ite01 (s = 0 ∨ s = 1)
  refine ⟨by show (0 : Nat) ≠ 9; decide, (?_ : Wp 198 _ 240 5 [(1, 161), (0, i), (0, j), (0, s), (0, l)] [(0, (if s = 0 ∨ s = 1 then 1 else 0))] (up M 161 14 0) _)⟩
  refine w_eq hK rfl (by omega) (by omega) (fun h5 => ?_) (fun h5 => ?_)
  · refine w_ic hK rfl ?_
    refine w_iret hK rfl rfl ?_
    exact ⟨rfl, ⟨_, (RS.cg C (fun j_ h1_ h2_ => up_ne2 (by omega)) (fun a_ h1_ h2_ => up_row h1_)), (PM.keep hpl (up_row (by decide))), (TMs.keep T (up_ne2 (by decide)) (up_row (by decide))), (RM.keep hR (up_ne2 (by decide)) (up_row (by decide))), (FM.keep hF (up_ne2 (by decide)) (up_row (by decide)) (up_row (by decide)))⟩, (fun a h_ => (up_row (by omega)))⟩
  · refine w_al hK rfl rfl ?_
    refine w_il hK rfl rfl ?_
    refine w_il hK rfl rfl ?_
    refine w_il hK rfl rfl ?_
    refine w_call [(1, 161), (0, i), (0, j), (0, l)] hK rfl rfl rfl rfl (Or.inr ⟨_, _, _, rfl, by decide, (by decide), rfl⟩) (r_loadsN i j l (by omega) (by omega) (by omega) (by omega) (by omega) (by omega) (by omega)) ?_
    rintro _ Mq ⟨rfl, e_⟩
    subst Mq
    refine ⟨by show (0 : Nat) ≠ 9; decide, (?_ : Wp 198 _ 240 11 [(1, 161), (0, i), (0, j), (0, s), (0, l)] [(0, 0)] (up M 161 14 0) _)⟩
    refine w_ne hK rfl (by omega) (by omega) (fun h11 => ?_) (fun h11 => ?_)
    · exfalso; omega
    · refine w_ic hK rfl ?_
      refine w_iret hK rfl rfl ?_
      exact ⟨rfl, ⟨_, (RS.cg C (fun j_ h1_ h2_ => up_ne2 (by omega)) (fun a_ h1_ h2_ => up_row h1_)), (PM.keep hpl (up_row (by decide))), (TMs.keep T (up_ne2 (by decide)) (up_row (by decide))), (RM.keep hR (up_ne2 (by decide)) (up_row (by decide))), (FM.keep hF (up_ne2 (by decide)) (up_row (by decide)) (up_row (by decide)))⟩, (fun a h_ => (up_row (by omega)))⟩
set_option maxRecDepth 100000 in
theorem ro_multiple0 {d : Nat} {M : Mem} {k : Nat} {pl : Nat → Pl k} {n : Int} {tx : Int → Int} {rc : Nat} {rw : Int → Int} {fc : Nat} {fa : Nat → Pl k} (H : RFS M k pl n tx rc rw fc fa) (i : Nat) (hi : i < 6) (j : Nat) (hj : j < 6) (l : Nat) (hl : l < 6) (hi0 : 0 ≤ dg (pl i)) (hj0 : 0 ≤ dg (pl j)) : Ct 198 (d + 8) 244 [(1, 161), (0, (i : Int)), (0, (j : Int)), (0, 0), (0, (l : Int))] M (fun r_ M' => r_ = (0, (if 8 < dg (mon 0 (prd 0 (euL 0 (pl i) (pl j)).2.2.2.1 (pl i))) then -3 else dg (mon 0 (prd 0 (euL 0 (pl i) (pl j)).2.2.2.1 (pl i))))) ∧ RFS M' k (if 8 < dg (mon 0 (prd 0 (euL 0 (pl i) (pl j)).2.2.2.1 (pl i))) then pl else fup pl l (mon 0 (prd 0 (euL 0 (pl i) (pl j)).2.2.2.1 (pl i)))) n tx rc rw fc fa ∧ (∀ a : Int, (a < 161 ∨ 197 < a) → M' a = M a)) := by
  have hK : cd 244 = k244 := rfl
  obtain ⟨R, C, hpl, T, hR, hF⟩ := H
  have q1_ := qq_I k
  have p1_ := pp_I k
  have m1_ := mm_I k
  have bi_ := (hpl i hi).2
  have di_ := dg_lt9 bi_
  have bj_ := (hpl j hj).2
  have dj_ := dg_lt9 bj_
  have bl_ := (hpl l hl).2
  have dl_ := dg_lt9 bl_
  have hu_ := euL_u (s := 0) bi_ bj_ (fun q => by rw [q, dg_pz] at hj0; omega)
  have hT_ : 0 ≤ dg (mlp (euL 0 (pl i) (pl j)).2.2.2.1 (pl i)) ∧ dg (mlp (euL 0 (pl i) (pl j)).2.2.2.1 (pl i)) ≤ 16 ∧ Bd (mlp (euL 0 (pl i) (pl j)).2.2.2.1 (pl i)) 17 ∧ dg (mon 0 (mlp (euL 0 (pl i) (pl j)).2.2.2.1 (pl i))) = dg (mlp (euL 0 (pl i) (pl j)).2.2.2.1 (pl i)) := Tml_dg (s := 0) bi_ bj_ hi0 (fun q => by rw [q, dg_pz] at hj0; omega)
  show Wp 198 _ 244 0 [(1, 161), (0, (i : Int)), (0, (j : Int)), (0, 0), (0, (l : Int))] [] M _
  refine w_al hK rfl rfl ?_
  refine w_ic hK rfl ?_
  refine w_puti (n := 14) (m := 14) hK rfl rfl (by decide) (by decide) rfl rfl rfl rfl ?_
  refine w_il hK rfl rfl ?_
  refine w_call [(0, 0)] hK rfl rfl rfl rfl (Or.inl rfl) (r_side 0 (by omega) (by omega)) ?_
  rintro _ Mq ⟨rfl, e_⟩
  subst Mq
  have sI_343 := ite01 (0 = 0 ∨ 0 = 1)
  refine ⟨by show (0 : Nat) ≠ 9; decide, (?_ : Wp 198 _ 244 5 [(1, 161), (0, (i : Int)), (0, (j : Int)), (0, 0), (0, (l : Int))] [(0, (if 0 = 0 ∨ 0 = 1 then 1 else 0))] (up M 161 14 0) _)⟩
  refine w_eq hK rfl (by omega) (by omega) (fun h5 => ?_) (fun h5 => ?_)
  · exfalso; omega
  · refine w_al hK rfl rfl ?_
    refine w_il hK rfl rfl ?_
    refine w_il hK rfl rfl ?_
    refine w_il hK rfl rfl ?_
    refine w_call [(1, 161), (0, (i : Int)), (0, (j : Int)), (0, (l : Int))] hK rfl rfl rfl rfl (Or.inr ⟨_, _, _, rfl, by decide, (by decide), rfl⟩) (r_loads (RS.cg C (fun j_ h1_ h2_ => up_ne2 (by omega)) (fun a_ h1_ h2_ => up_row h1_)) (PM.keep hpl (up_row (by decide))) i j l hi hj hl) ?_
    rintro _ V344 ⟨P344, rfl, C344, S344, F344, f344_0, f344_1⟩
    refine ⟨by show (0 : Nat) ≠ 9; decide, (?_ : Wp 198 _ 244 11 [(1, 161), (0, (i : Int)), (0, (j : Int)), (0, 0), (0, (l : Int))] [(0, 1)] V344 _)⟩
    refine w_ne hK rfl (by omega) (by omega) (fun h11 => ?_) (fun h11 => ?_)
    · refine w_al hK rfl rfl ?_
      refine w_getr (n := 26) (v := 180) hK rfl rfl (by decide) (by decide) rfl rfl rfl rfl ?_
      have dI_ : -1 ≤ dg (pl i) ∧ dg (pl i) ≤ 47 := C344.dI ⟨(isR_of (p := 180) rfl), f344_0⟩
      refine w_call [(1, 180)] hK rfl rfl rfl rfl (Or.inl rfl) (r_deg C344 ⟨(isR_of (p := 180) rfl), f344_0⟩) ?_
      rintro _ Mq ⟨rfl, e_⟩
      subst Mq
      refine ⟨by show (0 : Nat) ≠ 9; decide, (?_ : Wp 198 _ 244 17 [(1, 161), (0, (i : Int)), (0, (j : Int)), (0, 0), (0, (l : Int))] [(0, (dg (pl i)))] V344 _)⟩
      refine w_ic hK rfl ?_
      refine w_eq2 hK rfl (by omega) (by omega) (by omega) (by omega) (fun h18 => ?_) (fun h18 => ?_)
      · exfalso; omega
      · refine w_al hK rfl rfl ?_
        refine w_getr (n := 27) (v := 181) hK rfl rfl (by decide) (by decide) rfl rfl rfl rfl ?_
        have dI_ : -1 ≤ dg (pl j) ∧ dg (pl j) ≤ 47 := C344.dI ⟨(isR_of (p := 181) rfl), f344_1⟩
        refine w_call [(1, 181)] hK rfl rfl rfl rfl (Or.inl rfl) (r_deg C344 ⟨(isR_of (p := 181) rfl), f344_1⟩) ?_
        rintro _ Mq ⟨rfl, e_⟩
        subst Mq
        refine ⟨by show (0 : Nat) ≠ 9; decide, (?_ : Wp 198 _ 244 22 [(1, 161), (0, (i : Int)), (0, (j : Int)), (0, 0), (0, (l : Int))] [(0, (dg (pl j)))] V344 _)⟩
        refine w_ic hK rfl ?_
        refine w_ne2 hK rfl (by omega) (by omega) (by omega) (by omega) (fun h23 => ?_) (fun h23 => ?_)
        · refine w_al hK rfl rfl ?_
          refine w_al hK rfl rfl ?_
          refine w_getr (n := 26) (v := 180) hK rfl rfl (by decide) (by decide) rfl rfl rfl rfl ?_
          refine w_al hK rfl rfl ?_
          refine w_getr (n := 27) (v := 181) hK rfl rfl (by decide) (by decide) rfl rfl rfl rfl ?_
          refine w_il hK rfl rfl ?_
          refine w_call [(1, 161), (1, 180), (1, 181), (0, 0)] hK rfl rfl rfl rfl (Or.inr ⟨_, _, _, rfl, by decide, (by decide), rfl⟩) (r_euc C344 ⟨(isR_of (p := 180) rfl), f344_0⟩ ⟨(isR_of (p := 181) rfl), f344_1⟩ 0 (by omega) (by omega) (by omega) bi_ bj_) ?_
          rintro _ V345 ⟨P345, rfl, C345, S345, F345, f345_0, f345_1⟩
          refine ⟨by decide, (?_ : Wp 198 _ 244 33 [(1, 161), (0, (i : Int)), (0, (j : Int)), (0, 0), (0, (l : Int))] [] V345 _)⟩
          refine w_il hK rfl rfl ?_
          refine w_ne hK rfl (by omega) (by omega) (fun h34 => ?_) (fun h34 => ?_)
          · exfalso; omega
          · refine w_al hK rfl rfl ?_
            refine w_al hK rfl rfl ?_
            refine w_getr (n := 24) (v := 178) hK rfl rfl (by decide) (by decide) rfl rfl rfl rfl ?_
            refine w_al hK rfl rfl ?_
            refine w_getr (n := 26) (v := 180) hK rfl rfl (by decide) (by decide) rfl rfl rfl rfl ?_
            refine w_al hK rfl rfl ?_
            refine w_getr (n := 28) (v := 182) hK rfl rfl (by decide) (by decide) rfl rfl rfl rfl ?_
            refine w_call [(1, 161), (1, 178), (1, 180), (1, 182)] hK rfl rfl rfl rfl (Or.inr ⟨_, _, _, rfl, by decide, (by decide), rfl⟩) (r_prod C345 ⟨(isR_of (p := 178) rfl), f345_1⟩ ⟨(isR_of (p := 180) rfl), ((F345 180 (by omega) (by omega) (by omega) (by omega) (by omega) (by omega) (by omega) (by omega) (by omega) (by omega)).trans f344_0)⟩ (isR_of (p := 182) rfl) (by omega) (by omega) (by omega) (by omega)) ?_
            rintro _ V346 ⟨P346, rfl, C346, S346, F346, f346_0⟩
            refine ⟨by decide, (?_ : Wp 198 _ 244 43 [(1, 161), (0, (i : Int)), (0, (j : Int)), (0, 0), (0, (l : Int))] [] V346 _)⟩
            refine w_goto hK rfl ?_
            refine w_al hK rfl rfl ?_
            refine w_getr (n := 28) (v := 182) hK rfl rfl (by decide) (by decide) rfl rfl rfl rfl ?_
            have dI_ : -1 ≤ dg (mlp ((euL 0 (pl i) (pl j)).2.2.2.1) (pl i)) ∧ dg (mlp ((euL 0 (pl i) (pl j)).2.2.2.1) (pl i)) ≤ 47 := C346.dI ⟨(isR_of (p := 182) rfl), f346_0⟩
            refine w_call [(1, 182)] hK rfl rfl rfl rfl (Or.inl rfl) (r_deg C346 ⟨(isR_of (p := 182) rfl), f346_0⟩) ?_
            rintro _ Mq ⟨rfl, e_⟩
            subst Mq
            refine ⟨by show (0 : Nat) ≠ 9; decide, (?_ : Wp 198 _ 244 55 [(1, 161), (0, (i : Int)), (0, (j : Int)), (0, 0), (0, (l : Int))] [(0, (dg (mlp ((euL 0 (pl i) (pl j)).2.2.2.1) (pl i))))] V346 _)⟩
            refine w_ic hK rfl ?_
            refine w_le2 hK rfl (by omega) (by omega) (by omega) (by omega) (fun h56 => ?_) (fun h56 => ?_)
            · refine w_al hK rfl rfl ?_
              refine w_al hK rfl rfl ?_
              refine w_getr (n := 28) (v := 182) hK rfl rfl (by decide) (by decide) rfl rfl rfl rfl ?_
              refine w_il hK rfl rfl ?_
              refine w_call [(1, 161), (1, 182), (0, 0)] hK rfl rfl rfl rfl (Or.inr ⟨_, _, _, rfl, by decide, (by decide), rfl⟩) (r_mon C346 ⟨(isR_of (p := 182) rfl), f346_0⟩ (by omega) (by omega) 0 (by omega)) ?_
              rintro _ V347 ⟨P347, rfl, C347, S347, F347, f347_0⟩
              refine ⟨by decide, (?_ : Wp 198 _ 244 64 [(1, 161), (0, (i : Int)), (0, (j : Int)), (0, 0), (0, (l : Int))] [] V347 _)⟩
              refine w_al hK rfl rfl ?_
              refine w_al hK rfl rfl ?_
              refine w_getr (n := 28) (v := 182) hK rfl rfl (by decide) (by decide) rfl rfl rfl rfl ?_
              refine w_il hK rfl rfl ?_
              refine w_call [(1, 161), (1, 182), (0, (l : Int))] hK rfl rfl rfl rfl (Or.inr ⟨_, _, _, rfl, by decide, (by decide), rfl⟩) (r_store C347 (PM.keep hpl ((S347 167 (notR rfl)).trans ((S346 167 (notR rfl)).trans ((S345 167 (notR rfl)).trans ((S344 167 (notR rfl)).trans (up_row (by decide))))))) ⟨(isR_of (p := 182) rfl), f347_0⟩ l hl (Bd9.of64 (Bd_mon 0 hT_.2.2.1) (by decide) (by omega))) ?_
              rintro _ V348 ⟨rfl, C348, Q348, F348⟩
              refine ⟨(by show (0 : Nat) ≠ 9; decide), (?_ : Wp 198 _ 244 69 [(1, 161), (0, (i : Int)), (0, (j : Int)), (0, 0), (0, (l : Int))] [(0, (dg (mon 0 (mlp ((euL 0 (pl i) (pl j)).2.2.2.1) (pl i)))))] V348 _)⟩
              refine w_iret hK rfl rfl ?_
              show _ = (0, (if 8 < dg (mon 0 (mlp (euL 0 (pl i) (pl j)).2.2.2.1 (pl i))) then -3 else dg (mon 0 (mlp (euL 0 (pl i) (pl j)).2.2.2.1 (pl i))))) ∧ RFS _ k (if 8 < dg (mon 0 (mlp (euL 0 (pl i) (pl j)).2.2.2.1 (pl i))) then pl else fup pl l (mon 0 (mlp (euL 0 (pl i) (pl j)).2.2.2.1 (pl i)))) n tx rc rw fc fa ∧ _
              rw [if_neg (show ¬ 8 < dg (mon 0 (mlp (euL 0 (pl i) (pl j)).2.2.2.1 (pl i))) by omega), if_neg (show ¬ 8 < dg (mon 0 (mlp (euL 0 (pl i) (pl j)).2.2.2.1 (pl i))) by omega)]
              exact ⟨rfl, ⟨_, C348, Q348, (TMs.keep T ((congrFun (F348 161 (by decide)) 11).trans ((congrFun (S347 161 (notR rfl)) 11).trans ((congrFun (S346 161 (notR rfl)) 11).trans ((congrFun (S345 161 (notR rfl)) 11).trans ((congrFun (S344 161 (notR rfl)) 11).trans (up_ne2 (by decide))))))) ((F348 168 (by decide)).trans ((S347 168 (notR rfl)).trans ((S346 168 (notR rfl)).trans ((S345 168 (notR rfl)).trans ((S344 168 (notR rfl)).trans (up_row (by decide)))))))), (RM.keep hR ((congrFun (F348 161 (by decide)) 13).trans ((congrFun (S347 161 (notR rfl)) 13).trans ((congrFun (S346 161 (notR rfl)) 13).trans ((congrFun (S345 161 (notR rfl)) 13).trans ((congrFun (S344 161 (notR rfl)) 13).trans (up_ne2 (by decide))))))) ((F348 169 (by decide)).trans ((S347 169 (notR rfl)).trans ((S346 169 (notR rfl)).trans ((S345 169 (notR rfl)).trans ((S344 169 (notR rfl)).trans (up_row (by decide)))))))), (FM.keep hF ((congrFun (F348 161 (by decide)) 15).trans ((congrFun (S347 161 (notR rfl)) 15).trans ((congrFun (S346 161 (notR rfl)) 15).trans ((congrFun (S345 161 (notR rfl)) 15).trans ((congrFun (S344 161 (notR rfl)) 15).trans (up_ne2 (by decide))))))) ((F348 189 (by decide)).trans ((S347 189 (notR rfl)).trans ((S346 189 (notR rfl)).trans ((S345 189 (notR rfl)).trans ((S344 189 (notR rfl)).trans (up_row (by decide))))))) ((F348 190 (by decide)).trans ((S347 190 (notR rfl)).trans ((S346 190 (notR rfl)).trans ((S345 190 (notR rfl)).trans ((S344 190 (notR rfl)).trans (up_row (by decide))))))))⟩, (fun a h_ => ((F348 a (by omega)).trans ((S347 a (npR h_)).trans ((S346 a (npR h_)).trans ((S345 a (npR h_)).trans ((S344 a (npR h_)).trans (up_row (by omega))))))))⟩
            · refine w_ic hK rfl ?_
              refine w_iret hK rfl rfl ?_
              show _ = (0, (if 8 < dg (mon 0 (mlp (euL 0 (pl i) (pl j)).2.2.2.1 (pl i))) then -3 else dg (mon 0 (mlp (euL 0 (pl i) (pl j)).2.2.2.1 (pl i))))) ∧ RFS _ k (if 8 < dg (mon 0 (mlp (euL 0 (pl i) (pl j)).2.2.2.1 (pl i))) then pl else fup pl l (mon 0 (mlp (euL 0 (pl i) (pl j)).2.2.2.1 (pl i)))) n tx rc rw fc fa ∧ _
              rw [if_pos (show 8 < dg (mon 0 (mlp (euL 0 (pl i) (pl j)).2.2.2.1 (pl i))) by omega), if_pos (show 8 < dg (mon 0 (mlp (euL 0 (pl i) (pl j)).2.2.2.1 (pl i))) by omega)]
              exact ⟨rfl, ⟨_, C346, (PM.keep hpl ((S346 167 (notR rfl)).trans ((S345 167 (notR rfl)).trans ((S344 167 (notR rfl)).trans (up_row (by decide)))))), (TMs.keep T ((congrFun (S346 161 (notR rfl)) 11).trans ((congrFun (S345 161 (notR rfl)) 11).trans ((congrFun (S344 161 (notR rfl)) 11).trans (up_ne2 (by decide))))) ((S346 168 (notR rfl)).trans ((S345 168 (notR rfl)).trans ((S344 168 (notR rfl)).trans (up_row (by decide)))))), (RM.keep hR ((congrFun (S346 161 (notR rfl)) 13).trans ((congrFun (S345 161 (notR rfl)) 13).trans ((congrFun (S344 161 (notR rfl)) 13).trans (up_ne2 (by decide))))) ((S346 169 (notR rfl)).trans ((S345 169 (notR rfl)).trans ((S344 169 (notR rfl)).trans (up_row (by decide)))))), (FM.keep hF ((congrFun (S346 161 (notR rfl)) 15).trans ((congrFun (S345 161 (notR rfl)) 15).trans ((congrFun (S344 161 (notR rfl)) 15).trans (up_ne2 (by decide))))) ((S346 189 (notR rfl)).trans ((S345 189 (notR rfl)).trans ((S344 189 (notR rfl)).trans (up_row (by decide))))) ((S346 190 (notR rfl)).trans ((S345 190 (notR rfl)).trans ((S344 190 (notR rfl)).trans (up_row (by decide))))))⟩, (fun a h_ => ((S346 a (npR h_)).trans ((S345 a (npR h_)).trans ((S344 a (npR h_)).trans (up_row (by omega))))))⟩
        · exfalso; omega
    · exfalso; omega
set_option maxRecDepth 100000 in
theorem ro_multiple1 {d : Nat} {M : Mem} {k : Nat} {pl : Nat → Pl k} {n : Int} {tx : Int → Int} {rc : Nat} {rw : Int → Int} {fc : Nat} {fa : Nat → Pl k} (H : RFS M k pl n tx rc rw fc fa) (i : Nat) (hi : i < 6) (j : Nat) (hj : j < 6) (l : Nat) (hl : l < 6) (hi0 : 0 ≤ dg (pl i)) (hj0 : 0 ≤ dg (pl j)) : Ct 198 (d + 8) 244 [(1, 161), (0, (i : Int)), (0, (j : Int)), (0, 1), (0, (l : Int))] M (fun r_ M' => r_ = (0, (if 8 < dg (mon 1 (prd 1 (euL 1 (pl i) (pl j)).2.2.2.1 (pl i))) then -3 else dg (mon 1 (prd 1 (euL 1 (pl i) (pl j)).2.2.2.1 (pl i))))) ∧ RFS M' k (if 8 < dg (mon 1 (prd 1 (euL 1 (pl i) (pl j)).2.2.2.1 (pl i))) then pl else fup pl l (mon 1 (prd 1 (euL 1 (pl i) (pl j)).2.2.2.1 (pl i)))) n tx rc rw fc fa ∧ (∀ a : Int, (a < 161 ∨ 197 < a) → M' a = M a)) := by
  have hK : cd 244 = k244 := rfl
  obtain ⟨R, C, hpl, T, hR, hF⟩ := H
  have q1_ := qq_I k
  have p1_ := pp_I k
  have m1_ := mm_I k
  have bi_ := (hpl i hi).2
  have di_ := dg_lt9 bi_
  have bj_ := (hpl j hj).2
  have dj_ := dg_lt9 bj_
  have bl_ := (hpl l hl).2
  have dl_ := dg_lt9 bl_
  have hu_ := euL_u (s := 1) bi_ bj_ (fun q => by rw [q, dg_pz] at hj0; omega)
  have hT_ : 0 ≤ dg (mlp (pl i) (euL 1 (pl i) (pl j)).2.2.2.1) ∧ dg (mlp (pl i) (euL 1 (pl i) (pl j)).2.2.2.1) ≤ 16 ∧ Bd (mlp (pl i) (euL 1 (pl i) (pl j)).2.2.2.1) 17 ∧ dg (mon 1 (mlp (pl i) (euL 1 (pl i) (pl j)).2.2.2.1)) = dg (mlp (pl i) (euL 1 (pl i) (pl j)).2.2.2.1) := Tml_dg (s := 1) bi_ bj_ hi0 (fun q => by rw [q, dg_pz] at hj0; omega)
  show Wp 198 _ 244 0 [(1, 161), (0, (i : Int)), (0, (j : Int)), (0, 1), (0, (l : Int))] [] M _
  refine w_al hK rfl rfl ?_
  refine w_ic hK rfl ?_
  refine w_puti (n := 14) (m := 14) hK rfl rfl (by decide) (by decide) rfl rfl rfl rfl ?_
  refine w_il hK rfl rfl ?_
  refine w_call [(0, 1)] hK rfl rfl rfl rfl (Or.inl rfl) (r_side 1 (by omega) (by omega)) ?_
  rintro _ Mq ⟨rfl, e_⟩
  subst Mq
  have sI_349 := ite01 (1 = 0 ∨ 1 = 1)
  refine ⟨by show (0 : Nat) ≠ 9; decide, (?_ : Wp 198 _ 244 5 [(1, 161), (0, (i : Int)), (0, (j : Int)), (0, 1), (0, (l : Int))] [(0, (if 1 = 0 ∨ 1 = 1 then 1 else 0))] (up M 161 14 0) _)⟩
  refine w_eq hK rfl (by omega) (by omega) (fun h5 => ?_) (fun h5 => ?_)
  · exfalso; omega
  · refine w_al hK rfl rfl ?_
    refine w_il hK rfl rfl ?_
    refine w_il hK rfl rfl ?_
    refine w_il hK rfl rfl ?_
    refine w_call [(1, 161), (0, (i : Int)), (0, (j : Int)), (0, (l : Int))] hK rfl rfl rfl rfl (Or.inr ⟨_, _, _, rfl, by decide, (by decide), rfl⟩) (r_loads (RS.cg C (fun j_ h1_ h2_ => up_ne2 (by omega)) (fun a_ h1_ h2_ => up_row h1_)) (PM.keep hpl (up_row (by decide))) i j l hi hj hl) ?_
    rintro _ V350 ⟨P350, rfl, C350, S350, F350, f350_0, f350_1⟩
    refine ⟨by show (0 : Nat) ≠ 9; decide, (?_ : Wp 198 _ 244 11 [(1, 161), (0, (i : Int)), (0, (j : Int)), (0, 1), (0, (l : Int))] [(0, 1)] V350 _)⟩
    refine w_ne hK rfl (by omega) (by omega) (fun h11 => ?_) (fun h11 => ?_)
    · refine w_al hK rfl rfl ?_
      refine w_getr (n := 26) (v := 180) hK rfl rfl (by decide) (by decide) rfl rfl rfl rfl ?_
      have dI_ : -1 ≤ dg (pl i) ∧ dg (pl i) ≤ 47 := C350.dI ⟨(isR_of (p := 180) rfl), f350_0⟩
      refine w_call [(1, 180)] hK rfl rfl rfl rfl (Or.inl rfl) (r_deg C350 ⟨(isR_of (p := 180) rfl), f350_0⟩) ?_
      rintro _ Mq ⟨rfl, e_⟩
      subst Mq
      refine ⟨by show (0 : Nat) ≠ 9; decide, (?_ : Wp 198 _ 244 17 [(1, 161), (0, (i : Int)), (0, (j : Int)), (0, 1), (0, (l : Int))] [(0, (dg (pl i)))] V350 _)⟩
      refine w_ic hK rfl ?_
      refine w_eq2 hK rfl (by omega) (by omega) (by omega) (by omega) (fun h18 => ?_) (fun h18 => ?_)
      · exfalso; omega
      · refine w_al hK rfl rfl ?_
        refine w_getr (n := 27) (v := 181) hK rfl rfl (by decide) (by decide) rfl rfl rfl rfl ?_
        have dI_ : -1 ≤ dg (pl j) ∧ dg (pl j) ≤ 47 := C350.dI ⟨(isR_of (p := 181) rfl), f350_1⟩
        refine w_call [(1, 181)] hK rfl rfl rfl rfl (Or.inl rfl) (r_deg C350 ⟨(isR_of (p := 181) rfl), f350_1⟩) ?_
        rintro _ Mq ⟨rfl, e_⟩
        subst Mq
        refine ⟨by show (0 : Nat) ≠ 9; decide, (?_ : Wp 198 _ 244 22 [(1, 161), (0, (i : Int)), (0, (j : Int)), (0, 1), (0, (l : Int))] [(0, (dg (pl j)))] V350 _)⟩
        refine w_ic hK rfl ?_
        refine w_ne2 hK rfl (by omega) (by omega) (by omega) (by omega) (fun h23 => ?_) (fun h23 => ?_)
        · refine w_al hK rfl rfl ?_
          refine w_al hK rfl rfl ?_
          refine w_getr (n := 26) (v := 180) hK rfl rfl (by decide) (by decide) rfl rfl rfl rfl ?_
          refine w_al hK rfl rfl ?_
          refine w_getr (n := 27) (v := 181) hK rfl rfl (by decide) (by decide) rfl rfl rfl rfl ?_
          refine w_il hK rfl rfl ?_
          refine w_call [(1, 161), (1, 180), (1, 181), (0, 1)] hK rfl rfl rfl rfl (Or.inr ⟨_, _, _, rfl, by decide, (by decide), rfl⟩) (r_euc C350 ⟨(isR_of (p := 180) rfl), f350_0⟩ ⟨(isR_of (p := 181) rfl), f350_1⟩ 1 (by omega) (by omega) (by omega) bi_ bj_) ?_
          rintro _ V351 ⟨P351, rfl, C351, S351, F351, f351_0, f351_1⟩
          refine ⟨by decide, (?_ : Wp 198 _ 244 33 [(1, 161), (0, (i : Int)), (0, (j : Int)), (0, 1), (0, (l : Int))] [] V351 _)⟩
          refine w_il hK rfl rfl ?_
          refine w_ne hK rfl (by omega) (by omega) (fun h34 => ?_) (fun h34 => ?_)
          · refine w_al hK rfl rfl ?_
            refine w_al hK rfl rfl ?_
            refine w_getr (n := 26) (v := 180) hK rfl rfl (by decide) (by decide) rfl rfl rfl rfl ?_
            refine w_al hK rfl rfl ?_
            refine w_getr (n := 24) (v := 178) hK rfl rfl (by decide) (by decide) rfl rfl rfl rfl ?_
            refine w_al hK rfl rfl ?_
            refine w_getr (n := 28) (v := 182) hK rfl rfl (by decide) (by decide) rfl rfl rfl rfl ?_
            refine w_call [(1, 161), (1, 180), (1, 178), (1, 182)] hK rfl rfl rfl rfl (Or.inr ⟨_, _, _, rfl, by decide, (by decide), rfl⟩) (r_prod C351 ⟨(isR_of (p := 180) rfl), ((F351 180 (by omega) (by omega) (by omega) (by omega) (by omega) (by omega) (by omega) (by omega) (by omega) (by omega)).trans f350_0)⟩ ⟨(isR_of (p := 178) rfl), f351_1⟩ (isR_of (p := 182) rfl) (by omega) (by omega) (by omega) (by omega)) ?_
            rintro _ V352 ⟨P352, rfl, C352, S352, F352, f352_0⟩
            refine ⟨by decide, (?_ : Wp 198 _ 244 52 [(1, 161), (0, (i : Int)), (0, (j : Int)), (0, 1), (0, (l : Int))] [] V352 _)⟩
            refine w_al hK rfl rfl ?_
            refine w_getr (n := 28) (v := 182) hK rfl rfl (by decide) (by decide) rfl rfl rfl rfl ?_
            have dI_ : -1 ≤ dg (mlp (pl i) ((euL 1 (pl i) (pl j)).2.2.2.1)) ∧ dg (mlp (pl i) ((euL 1 (pl i) (pl j)).2.2.2.1)) ≤ 47 := C352.dI ⟨(isR_of (p := 182) rfl), f352_0⟩
            refine w_call [(1, 182)] hK rfl rfl rfl rfl (Or.inl rfl) (r_deg C352 ⟨(isR_of (p := 182) rfl), f352_0⟩) ?_
            rintro _ Mq ⟨rfl, e_⟩
            subst Mq
            refine ⟨by show (0 : Nat) ≠ 9; decide, (?_ : Wp 198 _ 244 55 [(1, 161), (0, (i : Int)), (0, (j : Int)), (0, 1), (0, (l : Int))] [(0, (dg (mlp (pl i) ((euL 1 (pl i) (pl j)).2.2.2.1))))] V352 _)⟩
            refine w_ic hK rfl ?_
            refine w_le2 hK rfl (by omega) (by omega) (by omega) (by omega) (fun h56 => ?_) (fun h56 => ?_)
            · refine w_al hK rfl rfl ?_
              refine w_al hK rfl rfl ?_
              refine w_getr (n := 28) (v := 182) hK rfl rfl (by decide) (by decide) rfl rfl rfl rfl ?_
              refine w_il hK rfl rfl ?_
              refine w_call [(1, 161), (1, 182), (0, 1)] hK rfl rfl rfl rfl (Or.inr ⟨_, _, _, rfl, by decide, (by decide), rfl⟩) (r_mon C352 ⟨(isR_of (p := 182) rfl), f352_0⟩ (by omega) (by omega) 1 (by omega)) ?_
              rintro _ V353 ⟨P353, rfl, C353, S353, F353, f353_0⟩
              refine ⟨by decide, (?_ : Wp 198 _ 244 64 [(1, 161), (0, (i : Int)), (0, (j : Int)), (0, 1), (0, (l : Int))] [] V353 _)⟩
              refine w_al hK rfl rfl ?_
              refine w_al hK rfl rfl ?_
              refine w_getr (n := 28) (v := 182) hK rfl rfl (by decide) (by decide) rfl rfl rfl rfl ?_
              refine w_il hK rfl rfl ?_
              refine w_call [(1, 161), (1, 182), (0, (l : Int))] hK rfl rfl rfl rfl (Or.inr ⟨_, _, _, rfl, by decide, (by decide), rfl⟩) (r_store C353 (PM.keep hpl ((S353 167 (notR rfl)).trans ((S352 167 (notR rfl)).trans ((S351 167 (notR rfl)).trans ((S350 167 (notR rfl)).trans (up_row (by decide))))))) ⟨(isR_of (p := 182) rfl), f353_0⟩ l hl (Bd9.of64 (Bd_mon 1 hT_.2.2.1) (by decide) (by omega))) ?_
              rintro _ V354 ⟨rfl, C354, Q354, F354⟩
              refine ⟨(by show (0 : Nat) ≠ 9; decide), (?_ : Wp 198 _ 244 69 [(1, 161), (0, (i : Int)), (0, (j : Int)), (0, 1), (0, (l : Int))] [(0, (dg (mon 1 (mlp (pl i) ((euL 1 (pl i) (pl j)).2.2.2.1)))))] V354 _)⟩
              refine w_iret hK rfl rfl ?_
              show _ = (0, (if 8 < dg (mon 1 (mlp (pl i) (euL 1 (pl i) (pl j)).2.2.2.1)) then -3 else dg (mon 1 (mlp (pl i) (euL 1 (pl i) (pl j)).2.2.2.1)))) ∧ RFS _ k (if 8 < dg (mon 1 (mlp (pl i) (euL 1 (pl i) (pl j)).2.2.2.1)) then pl else fup pl l (mon 1 (mlp (pl i) (euL 1 (pl i) (pl j)).2.2.2.1))) n tx rc rw fc fa ∧ _
              rw [if_neg (show ¬ 8 < dg (mon 1 (mlp (pl i) (euL 1 (pl i) (pl j)).2.2.2.1)) by omega), if_neg (show ¬ 8 < dg (mon 1 (mlp (pl i) (euL 1 (pl i) (pl j)).2.2.2.1)) by omega)]
              exact ⟨rfl, ⟨_, C354, Q354, (TMs.keep T ((congrFun (F354 161 (by decide)) 11).trans ((congrFun (S353 161 (notR rfl)) 11).trans ((congrFun (S352 161 (notR rfl)) 11).trans ((congrFun (S351 161 (notR rfl)) 11).trans ((congrFun (S350 161 (notR rfl)) 11).trans (up_ne2 (by decide))))))) ((F354 168 (by decide)).trans ((S353 168 (notR rfl)).trans ((S352 168 (notR rfl)).trans ((S351 168 (notR rfl)).trans ((S350 168 (notR rfl)).trans (up_row (by decide)))))))), (RM.keep hR ((congrFun (F354 161 (by decide)) 13).trans ((congrFun (S353 161 (notR rfl)) 13).trans ((congrFun (S352 161 (notR rfl)) 13).trans ((congrFun (S351 161 (notR rfl)) 13).trans ((congrFun (S350 161 (notR rfl)) 13).trans (up_ne2 (by decide))))))) ((F354 169 (by decide)).trans ((S353 169 (notR rfl)).trans ((S352 169 (notR rfl)).trans ((S351 169 (notR rfl)).trans ((S350 169 (notR rfl)).trans (up_row (by decide)))))))), (FM.keep hF ((congrFun (F354 161 (by decide)) 15).trans ((congrFun (S353 161 (notR rfl)) 15).trans ((congrFun (S352 161 (notR rfl)) 15).trans ((congrFun (S351 161 (notR rfl)) 15).trans ((congrFun (S350 161 (notR rfl)) 15).trans (up_ne2 (by decide))))))) ((F354 189 (by decide)).trans ((S353 189 (notR rfl)).trans ((S352 189 (notR rfl)).trans ((S351 189 (notR rfl)).trans ((S350 189 (notR rfl)).trans (up_row (by decide))))))) ((F354 190 (by decide)).trans ((S353 190 (notR rfl)).trans ((S352 190 (notR rfl)).trans ((S351 190 (notR rfl)).trans ((S350 190 (notR rfl)).trans (up_row (by decide))))))))⟩, (fun a h_ => ((F354 a (by omega)).trans ((S353 a (npR h_)).trans ((S352 a (npR h_)).trans ((S351 a (npR h_)).trans ((S350 a (npR h_)).trans (up_row (by omega))))))))⟩
            · refine w_ic hK rfl ?_
              refine w_iret hK rfl rfl ?_
              show _ = (0, (if 8 < dg (mon 1 (mlp (pl i) (euL 1 (pl i) (pl j)).2.2.2.1)) then -3 else dg (mon 1 (mlp (pl i) (euL 1 (pl i) (pl j)).2.2.2.1)))) ∧ RFS _ k (if 8 < dg (mon 1 (mlp (pl i) (euL 1 (pl i) (pl j)).2.2.2.1)) then pl else fup pl l (mon 1 (mlp (pl i) (euL 1 (pl i) (pl j)).2.2.2.1))) n tx rc rw fc fa ∧ _
              rw [if_pos (show 8 < dg (mon 1 (mlp (pl i) (euL 1 (pl i) (pl j)).2.2.2.1)) by omega), if_pos (show 8 < dg (mon 1 (mlp (pl i) (euL 1 (pl i) (pl j)).2.2.2.1)) by omega)]
              exact ⟨rfl, ⟨_, C352, (PM.keep hpl ((S352 167 (notR rfl)).trans ((S351 167 (notR rfl)).trans ((S350 167 (notR rfl)).trans (up_row (by decide)))))), (TMs.keep T ((congrFun (S352 161 (notR rfl)) 11).trans ((congrFun (S351 161 (notR rfl)) 11).trans ((congrFun (S350 161 (notR rfl)) 11).trans (up_ne2 (by decide))))) ((S352 168 (notR rfl)).trans ((S351 168 (notR rfl)).trans ((S350 168 (notR rfl)).trans (up_row (by decide)))))), (RM.keep hR ((congrFun (S352 161 (notR rfl)) 13).trans ((congrFun (S351 161 (notR rfl)) 13).trans ((congrFun (S350 161 (notR rfl)) 13).trans (up_ne2 (by decide))))) ((S352 169 (notR rfl)).trans ((S351 169 (notR rfl)).trans ((S350 169 (notR rfl)).trans (up_row (by decide)))))), (FM.keep hF ((congrFun (S352 161 (notR rfl)) 15).trans ((congrFun (S351 161 (notR rfl)) 15).trans ((congrFun (S350 161 (notR rfl)) 15).trans (up_ne2 (by decide))))) ((S352 189 (notR rfl)).trans ((S351 189 (notR rfl)).trans ((S350 189 (notR rfl)).trans (up_row (by decide))))) ((S352 190 (notR rfl)).trans ((S351 190 (notR rfl)).trans ((S350 190 (notR rfl)).trans (up_row (by decide))))))⟩, (fun a h_ => ((S352 a (npR h_)).trans ((S351 a (npR h_)).trans ((S350 a (npR h_)).trans (up_row (by omega))))))⟩
          · exfalso; omega
        · exfalso; omega
    · exfalso; omega
theorem ro_multiple {d : Nat} {M : Mem} {k : Nat} {pl : Nat → Pl k} {n : Int} {tx : Int → Int} {rc : Nat} {rw : Int → Int} {fc : Nat} {fa : Nat → Pl k} (H : RFS M k pl n tx rc rw fc fa) (i : Nat) (hi : i < 6) (j : Nat) (hj : j < 6) (l : Nat) (hl : l < 6) (s : Int) (hs_ : s = 0 ∨ s = 1) (hi0 : 0 ≤ dg (pl i)) (hj0 : 0 ≤ dg (pl j)) : Ct 198 (d + 8) 244 [(1, 161), (0, (i : Int)), (0, (j : Int)), (0, s), (0, (l : Int))] M (fun r_ M' => r_ = (0, (if 8 < dg (mon s (prd s (euL s (pl i) (pl j)).2.2.2.1 (pl i))) then -3 else dg (mon s (prd s (euL s (pl i) (pl j)).2.2.2.1 (pl i))))) ∧ RFS M' k (if 8 < dg (mon s (prd s (euL s (pl i) (pl j)).2.2.2.1 (pl i))) then pl else fup pl l (mon s (prd s (euL s (pl i) (pl j)).2.2.2.1 (pl i)))) n tx rc rw fc fa ∧ (∀ a : Int, (a < 161 ∨ 197 < a) → M' a = M a)) := by
  rcases hs_ with e | e
  · subst e; exact ro_multiple0 H i hi j hj l hl hi0 hj0
  · subst e; exact ro_multiple1 H i hi j hj l hl hi0 hj0
set_option maxRecDepth 100000 in
theorem rz_multiple {d : Nat} {M : Mem} {k : Nat} {pl : Nat → Pl k} {n : Int} {tx : Int → Int} {rc : Nat} {rw : Int → Int} {fc : Nat} {fa : Nat → Pl k} (H : RFS M k pl n tx rc rw fc fa) (i : Nat) (hi : i < 6) (j : Nat) (hj : j < 6) (l : Nat) (hl : l < 6) (s : Int) (hs_ : s = 0 ∨ s = 1) (h0_ : dg (pl i) < 0 ∨ dg (pl j) < 0) : Ct 198 (d + 8) 244 [(1, 161), (0, (i : Int)), (0, (j : Int)), (0, s), (0, (l : Int))] M (fun r_ M' => r_ = (0, -2) ∧ RFS M' k pl n tx rc rw fc fa ∧ (∀ a : Int, (a < 161 ∨ 197 < a) → M' a = M a)) := by
  have hK : cd 244 = k244 := rfl
  obtain ⟨R, C, hpl, T, hR, hF⟩ := H
  have q1_ := qq_I k
  have p1_ := pp_I k
  have m1_ := mm_I k
  have bi_ := (hpl i hi).2
  have di_ := dg_lt9 bi_
  have bj_ := (hpl j hj).2
  have dj_ := dg_lt9 bj_
  have bl_ := (hpl l hl).2
  have dl_ := dg_lt9 bl_
  show Wp 198 _ 244 0 [(1, 161), (0, (i : Int)), (0, (j : Int)), (0, s), (0, (l : Int))] [] M _
  refine w_al hK rfl rfl ?_
  refine w_ic hK rfl ?_
  refine w_puti (n := 14) (m := 14) hK rfl rfl (by decide) (by decide) rfl rfl rfl rfl ?_
  refine w_il hK rfl rfl ?_
  refine w_call [(0, s)] hK rfl rfl rfl rfl (Or.inl rfl) (r_side s (by omega) (by omega)) ?_
  rintro _ Mq ⟨rfl, e_⟩
  subst Mq
  have sI_355 := ite01 (s = 0 ∨ s = 1)
  refine ⟨by show (0 : Nat) ≠ 9; decide, (?_ : Wp 198 _ 244 5 [(1, 161), (0, (i : Int)), (0, (j : Int)), (0, s), (0, (l : Int))] [(0, (if s = 0 ∨ s = 1 then 1 else 0))] (up M 161 14 0) _)⟩
  refine w_eq hK rfl (by omega) (by omega) (fun h5 => ?_) (fun h5 => ?_)
  · exfalso; omega
  · refine w_al hK rfl rfl ?_
    refine w_il hK rfl rfl ?_
    refine w_il hK rfl rfl ?_
    refine w_il hK rfl rfl ?_
    refine w_call [(1, 161), (0, (i : Int)), (0, (j : Int)), (0, (l : Int))] hK rfl rfl rfl rfl (Or.inr ⟨_, _, _, rfl, by decide, (by decide), rfl⟩) (r_loads (RS.cg C (fun j_ h1_ h2_ => up_ne2 (by omega)) (fun a_ h1_ h2_ => up_row h1_)) (PM.keep hpl (up_row (by decide))) i j l hi hj hl) ?_
    rintro _ V356 ⟨P356, rfl, C356, S356, F356, f356_0, f356_1⟩
    refine ⟨by show (0 : Nat) ≠ 9; decide, (?_ : Wp 198 _ 244 11 [(1, 161), (0, (i : Int)), (0, (j : Int)), (0, s), (0, (l : Int))] [(0, 1)] V356 _)⟩
    refine w_ne hK rfl (by omega) (by omega) (fun h11 => ?_) (fun h11 => ?_)
    · refine w_al hK rfl rfl ?_
      refine w_getr (n := 26) (v := 180) hK rfl rfl (by decide) (by decide) rfl rfl rfl rfl ?_
      have dI_ : -1 ≤ dg (pl i) ∧ dg (pl i) ≤ 47 := C356.dI ⟨(isR_of (p := 180) rfl), f356_0⟩
      refine w_call [(1, 180)] hK rfl rfl rfl rfl (Or.inl rfl) (r_deg C356 ⟨(isR_of (p := 180) rfl), f356_0⟩) ?_
      rintro _ Mq ⟨rfl, e_⟩
      subst Mq
      refine ⟨by show (0 : Nat) ≠ 9; decide, (?_ : Wp 198 _ 244 17 [(1, 161), (0, (i : Int)), (0, (j : Int)), (0, s), (0, (l : Int))] [(0, (dg (pl i)))] V356 _)⟩
      refine w_ic hK rfl ?_
      refine w_eq2 hK rfl (by omega) (by omega) (by omega) (by omega) (fun h18 => ?_) (fun h18 => ?_)
      · refine w_ic hK rfl ?_
        refine w_iret hK rfl rfl ?_
        exact ⟨rfl, ⟨_, C356, (PM.keep hpl ((S356 167 (notR rfl)).trans (up_row (by decide)))), (TMs.keep T ((congrFun (S356 161 (notR rfl)) 11).trans (up_ne2 (by decide))) ((S356 168 (notR rfl)).trans (up_row (by decide)))), (RM.keep hR ((congrFun (S356 161 (notR rfl)) 13).trans (up_ne2 (by decide))) ((S356 169 (notR rfl)).trans (up_row (by decide)))), (FM.keep hF ((congrFun (S356 161 (notR rfl)) 15).trans (up_ne2 (by decide))) ((S356 189 (notR rfl)).trans (up_row (by decide))) ((S356 190 (notR rfl)).trans (up_row (by decide))))⟩, (fun a h_ => ((S356 a (npR h_)).trans (up_row (by omega))))⟩
      · refine w_al hK rfl rfl ?_
        refine w_getr (n := 27) (v := 181) hK rfl rfl (by decide) (by decide) rfl rfl rfl rfl ?_
        have dI_ : -1 ≤ dg (pl j) ∧ dg (pl j) ≤ 47 := C356.dI ⟨(isR_of (p := 181) rfl), f356_1⟩
        refine w_call [(1, 181)] hK rfl rfl rfl rfl (Or.inl rfl) (r_deg C356 ⟨(isR_of (p := 181) rfl), f356_1⟩) ?_
        rintro _ Mq ⟨rfl, e_⟩
        subst Mq
        refine ⟨by show (0 : Nat) ≠ 9; decide, (?_ : Wp 198 _ 244 22 [(1, 161), (0, (i : Int)), (0, (j : Int)), (0, s), (0, (l : Int))] [(0, (dg (pl j)))] V356 _)⟩
        refine w_ic hK rfl ?_
        refine w_ne2 hK rfl (by omega) (by omega) (by omega) (by omega) (fun h23 => ?_) (fun h23 => ?_)
        · exfalso; omega
        · refine w_ic hK rfl ?_
          refine w_iret hK rfl rfl ?_
          exact ⟨rfl, ⟨_, C356, (PM.keep hpl ((S356 167 (notR rfl)).trans (up_row (by decide)))), (TMs.keep T ((congrFun (S356 161 (notR rfl)) 11).trans (up_ne2 (by decide))) ((S356 168 (notR rfl)).trans (up_row (by decide)))), (RM.keep hR ((congrFun (S356 161 (notR rfl)) 13).trans (up_ne2 (by decide))) ((S356 169 (notR rfl)).trans (up_row (by decide)))), (FM.keep hF ((congrFun (S356 161 (notR rfl)) 15).trans (up_ne2 (by decide))) ((S356 189 (notR rfl)).trans (up_row (by decide))) ((S356 190 (notR rfl)).trans (up_row (by decide))))⟩, (fun a h_ => ((S356 a (npR h_)).trans (up_row (by omega))))⟩
    · exfalso; omega
set_option maxRecDepth 100000 in
theorem rn_multiple {d : Nat} {M : Mem} {k : Nat} {pl : Nat → Pl k} {n : Int} {tx : Int → Int} {rc : Nat} {rw : Int → Int} {fc : Nat} {fa : Nat → Pl k} (H : RFS M k pl n tx rc rw fc fa) (i j s l : Int) (i1_ : -2147483648 ≤ i) (i2_ : i ≤ 2147483647) (j1_ : -2147483648 ≤ j) (j2_ : j ≤ 2147483647) (s1_ : -2147483648 ≤ s) (s2_ : s ≤ 2147483647) (l1_ : -2147483648 ≤ l) (l2_ : l ≤ 2147483647) (hn : ¬ ((0 ≤ i ∧ i < 6) ∧ (0 ≤ j ∧ j < 6) ∧ (0 ≤ l ∧ l < 6) ∧ (s = 0 ∨ s = 1))) : Ct 198 (d + 8) 244 [(1, 161), (0, i), (0, j), (0, s), (0, l)] M (fun r_ M' => r_ = (0, -1) ∧ RFS M' k pl n tx rc rw fc fa ∧ (∀ a : Int, (a < 161 ∨ 197 < a) → M' a = M a)) := by
  have hK : cd 244 = k244 := rfl
  obtain ⟨R, C, hpl, T, hR, hF⟩ := H
  have q1_ := qq_I k
  have p1_ := pp_I k
  have m1_ := mm_I k
  show Wp 198 _ 244 0 [(1, 161), (0, i), (0, j), (0, s), (0, l)] [] M _
  refine w_al hK rfl rfl ?_
  refine w_ic hK rfl ?_
  refine w_puti (n := 14) (m := 14) hK rfl rfl (by decide) (by decide) rfl rfl rfl rfl ?_
  refine w_il hK rfl rfl ?_
  refine w_call [(0, s)] hK rfl rfl rfl rfl (Or.inl rfl) (r_side s (by omega) (by omega)) ?_
  rintro _ Mq ⟨rfl, e_⟩
  subst Mq
  have sI_357 := ite01 (s = 0 ∨ s = 1)
  refine ⟨by show (0 : Nat) ≠ 9; decide, (?_ : Wp 198 _ 244 5 [(1, 161), (0, i), (0, j), (0, s), (0, l)] [(0, (if s = 0 ∨ s = 1 then 1 else 0))] (up M 161 14 0) _)⟩
  refine w_eq hK rfl (by omega) (by omega) (fun h5 => ?_) (fun h5 => ?_)
  · refine w_ic hK rfl ?_
    refine w_iret hK rfl rfl ?_
    exact ⟨rfl, ⟨_, (RS.cg C (fun j_ h1_ h2_ => up_ne2 (by omega)) (fun a_ h1_ h2_ => up_row h1_)), (PM.keep hpl (up_row (by decide))), (TMs.keep T (up_ne2 (by decide)) (up_row (by decide))), (RM.keep hR (up_ne2 (by decide)) (up_row (by decide))), (FM.keep hF (up_ne2 (by decide)) (up_row (by decide)) (up_row (by decide)))⟩, (fun a h_ => (up_row (by omega)))⟩
  · refine w_al hK rfl rfl ?_
    refine w_il hK rfl rfl ?_
    refine w_il hK rfl rfl ?_
    refine w_il hK rfl rfl ?_
    refine w_call [(1, 161), (0, i), (0, j), (0, l)] hK rfl rfl rfl rfl (Or.inr ⟨_, _, _, rfl, by decide, (by decide), rfl⟩) (r_loadsN i j l (by omega) (by omega) (by omega) (by omega) (by omega) (by omega) (by omega)) ?_
    rintro _ Mq ⟨rfl, e_⟩
    subst Mq
    refine ⟨by show (0 : Nat) ≠ 9; decide, (?_ : Wp 198 _ 244 11 [(1, 161), (0, i), (0, j), (0, s), (0, l)] [(0, 0)] (up M 161 14 0) _)⟩
    refine w_ne hK rfl (by omega) (by omega) (fun h11 => ?_) (fun h11 => ?_)
    · exfalso; omega
    · refine w_ic hK rfl ?_
      refine w_iret hK rfl rfl ?_
      exact ⟨rfl, ⟨_, (RS.cg C (fun j_ h1_ h2_ => up_ne2 (by omega)) (fun a_ h1_ h2_ => up_row h1_)), (PM.keep hpl (up_row (by decide))), (TMs.keep T (up_ne2 (by decide)) (up_row (by decide))), (RM.keep hR (up_ne2 (by decide)) (up_row (by decide))), (FM.keep hF (up_ne2 (by decide)) (up_row (by decide)) (up_row (by decide)))⟩, (fun a h_ => (up_row (by omega)))⟩
set_option maxRecDepth 100000 in
theorem ro_monic {d : Nat} {M : Mem} {k : Nat} {pl : Nat → Pl k} {n : Int} {tx : Int → Int} {rc : Nat} {rw : Int → Int} {fc : Nat} {fa : Nat → Pl k} (H : RFS M k pl n tx rc rw fc fa) (i : Nat) (hi : i < 6) (hi0 : 0 ≤ dg (pl i)) : Ct 198 (d + 8) 245 [(1, 161), (0, (i : Int))] M (fun r_ M' => r_ = (0, ((ld (pl i)).val : Int)) ∧ RFS M' k (fup pl i (mon 0 (pl i))) n tx rc rw fc fa ∧ (∀ a : Int, (a < 161 ∨ 197 < a) → M' a = M a)) := by
  have hK : cd 245 = k245 := rfl
  obtain ⟨R, C, hpl, T, hR, hF⟩ := H
  have q1_ := qq_I k
  have p1_ := pp_I k
  have m1_ := mm_I k
  have bi_ := (hpl i hi).2
  have di_ := dg_lt9 bi_
  show Wp 198 _ 245 0 [(1, 161), (0, (i : Int)), (3, 0), (3, 0)] [] M _
  refine w_al hK rfl rfl ?_
  refine w_ic hK rfl ?_
  refine w_puti (n := 14) (m := 14) hK rfl rfl (by decide) (by decide) rfl rfl rfl rfl ?_
  refine w_il hK rfl rfl ?_
  refine w_call [(0, (i : Int))] hK rfl rfl rfl rfl (Or.inl rfl) (r_place (i : Int) (by omega) (by omega)) ?_
  rintro _ Mq ⟨rfl, e_⟩
  subst Mq
  have pI_358 := ite01 (0 ≤ (i : Int) ∧ (i : Int) < 6)
  refine ⟨by show (0 : Nat) ≠ 9; decide, (?_ : Wp 198 _ 245 5 [(1, 161), (0, (i : Int)), (3, 0), (3, 0)] [(0, (if 0 ≤ (i : Int) ∧ (i : Int) < 6 then 1 else 0))] (up M 161 14 0) _)⟩
  refine w_ne hK rfl (by omega) (by omega) (fun h5 => ?_) (fun h5 => ?_)
  · refine w_al hK rfl rfl ?_
    refine w_il hK rfl rfl ?_
    refine w_al hK rfl rfl ?_
    refine w_getr (n := 26) (v := 180) hK rfl rfl (by decide) (by decide) rfl rfl rfl rfl ?_
    refine w_call [(1, 161), (0, (i : Int)), (1, 180)] hK rfl rfl rfl rfl (Or.inr ⟨_, _, _, rfl, by decide, (by decide), rfl⟩) (r_load (RS.cg C (fun j_ h1_ h2_ => up_ne2 (by omega)) (fun a_ h1_ h2_ => up_row h1_)) (PM.keep hpl (up_row (by decide))) i hi (isR_of (p := 180) rfl)) ?_
    rintro _ V359 ⟨P359, rfl, C359, S359, F359, f359_0⟩
    refine ⟨by decide, (?_ : Wp 198 _ 245 13 [(1, 161), (0, (i : Int)), (3, 0), (3, 0)] [] V359 _)⟩
    refine w_al hK rfl rfl ?_
    refine w_getr (n := 26) (v := 180) hK rfl rfl (by decide) (by decide) rfl rfl rfl rfl ?_
    have dI_ : -1 ≤ dg (pl i) ∧ dg (pl i) ≤ 47 := C359.dI ⟨(isR_of (p := 180) rfl), f359_0⟩
    refine w_call [(1, 180)] hK rfl rfl rfl rfl (Or.inl rfl) (r_deg C359 ⟨(isR_of (p := 180) rfl), f359_0⟩) ?_
    rintro _ Mq ⟨rfl, e_⟩
    subst Mq
    refine ⟨by show (0 : Nat) ≠ 9; decide, (?_ : Wp 198 _ 245 16 [(1, 161), (0, (i : Int)), (3, 0), (3, 0)] [(0, (dg (pl i)))] V359 _)⟩
    refine w_is [(1, 161), (0, (i : Int)), (0, (dg (pl i))), (3, 0)] hK rfl rfl rfl ?_
    refine w_il hK rfl rfl ?_
    refine w_ic hK rfl ?_
    refine w_ne2 hK rfl (by omega) (by omega) (by omega) (by omega) (fun h19 => ?_) (fun h19 => ?_)
    · refine w_al hK rfl rfl ?_
      refine w_getr (n := 26) (v := 180) hK rfl rfl (by decide) (by decide) rfl rfl rfl rfl ?_
      refine w_il hK rfl rfl ?_
      refine w_ia hK rfl rfl (by decide) (by decide) (by omega) (by omega) ?_
      rw [show V359 180 (dg (pl i)) = ((cf (pl i) (dg (pl i))).val : Int) from C359.atI ⟨(isR_of (p := 180) rfl), f359_0⟩ (by omega) (by omega)]
      refine w_is [(1, 161), (0, (i : Int)), (0, (dg (pl i))), (0, ((cf (pl i) (dg (pl i))).val : Int))] hK rfl rfl rfl ?_
      refine w_al hK rfl rfl ?_
      refine w_al hK rfl rfl ?_
      refine w_getr (n := 26) (v := 180) hK rfl rfl (by decide) (by decide) rfl rfl rfl rfl ?_
      refine w_ic hK rfl ?_
      refine w_call [(1, 161), (1, 180), (0, 0)] hK rfl rfl rfl rfl (Or.inr ⟨_, _, _, rfl, by decide, (by decide), rfl⟩) (r_mon C359 ⟨(isR_of (p := 180) rfl), f359_0⟩ (by omega) (by omega) 0 (by omega)) ?_
      rintro _ V360 ⟨P360, rfl, C360, S360, F360, f360_0⟩
      refine ⟨by decide, (?_ : Wp 198 _ 245 32 [(1, 161), (0, (i : Int)), (0, (dg (pl i))), (0, ((cf (pl i) (dg (pl i))).val : Int))] [] V360 _)⟩
      refine w_al hK rfl rfl ?_
      refine w_al hK rfl rfl ?_
      refine w_getr (n := 26) (v := 180) hK rfl rfl (by decide) (by decide) rfl rfl rfl rfl ?_
      refine w_il hK rfl rfl ?_
      refine w_call [(1, 161), (1, 180), (0, (i : Int))] hK rfl rfl rfl rfl (Or.inr ⟨_, _, _, rfl, by decide, (by decide), rfl⟩) (r_store C360 (PM.keep hpl ((S360 167 (notR rfl)).trans ((S359 167 (notR rfl)).trans (up_row (by decide))))) ⟨(isR_of (p := 180) rfl), f360_0⟩ i hi (Bd_mon 0 bi_)) ?_
      rintro _ V361 ⟨rfl, C361, Q361, F361⟩
      refine ⟨(by show (0 : Nat) ≠ 9; decide), (?_ : Wp 198 _ 245 37 [(1, 161), (0, (i : Int)), (0, (dg (pl i))), (0, ((cf (pl i) (dg (pl i))).val : Int))] [(0, (dg (mon 0 (pl i))))] V361 _)⟩
      refine w_pop hK rfl rfl ?_
      refine w_il hK rfl rfl ?_
      refine w_iret hK rfl rfl ?_
      exact ⟨rfl, ⟨_, C361, Q361, (TMs.keep T ((congrFun (F361 161 (by decide)) 11).trans ((congrFun (S360 161 (notR rfl)) 11).trans ((congrFun (S359 161 (notR rfl)) 11).trans (up_ne2 (by decide))))) ((F361 168 (by decide)).trans ((S360 168 (notR rfl)).trans ((S359 168 (notR rfl)).trans (up_row (by decide)))))), (RM.keep hR ((congrFun (F361 161 (by decide)) 13).trans ((congrFun (S360 161 (notR rfl)) 13).trans ((congrFun (S359 161 (notR rfl)) 13).trans (up_ne2 (by decide))))) ((F361 169 (by decide)).trans ((S360 169 (notR rfl)).trans ((S359 169 (notR rfl)).trans (up_row (by decide)))))), (FM.keep hF ((congrFun (F361 161 (by decide)) 15).trans ((congrFun (S360 161 (notR rfl)) 15).trans ((congrFun (S359 161 (notR rfl)) 15).trans (up_ne2 (by decide))))) ((F361 189 (by decide)).trans ((S360 189 (notR rfl)).trans ((S359 189 (notR rfl)).trans (up_row (by decide))))) ((F361 190 (by decide)).trans ((S360 190 (notR rfl)).trans ((S359 190 (notR rfl)).trans (up_row (by decide))))))⟩, (fun a h_ => ((F361 a (by omega)).trans ((S360 a (npR h_)).trans ((S359 a (npR h_)).trans (up_row (by omega))))))⟩
    · exfalso; omega
  · exfalso; omega
set_option maxRecDepth 100000 in
theorem rz_monic {d : Nat} {M : Mem} {k : Nat} {pl : Nat → Pl k} {n : Int} {tx : Int → Int} {rc : Nat} {rw : Int → Int} {fc : Nat} {fa : Nat → Pl k} (H : RFS M k pl n tx rc rw fc fa) (i : Nat) (hi : i < 6) (hi0 : dg (pl i) < 0) : Ct 198 (d + 8) 245 [(1, 161), (0, (i : Int))] M (fun r_ M' => r_ = (0, -2) ∧ RFS M' k pl n tx rc rw fc fa ∧ (∀ a : Int, (a < 161 ∨ 197 < a) → M' a = M a)) := by
  have hK : cd 245 = k245 := rfl
  obtain ⟨R, C, hpl, T, hR, hF⟩ := H
  have q1_ := qq_I k
  have p1_ := pp_I k
  have m1_ := mm_I k
  have bi_ := (hpl i hi).2
  have di_ := dg_lt9 bi_
  show Wp 198 _ 245 0 [(1, 161), (0, (i : Int)), (3, 0), (3, 0)] [] M _
  refine w_al hK rfl rfl ?_
  refine w_ic hK rfl ?_
  refine w_puti (n := 14) (m := 14) hK rfl rfl (by decide) (by decide) rfl rfl rfl rfl ?_
  refine w_il hK rfl rfl ?_
  refine w_call [(0, (i : Int))] hK rfl rfl rfl rfl (Or.inl rfl) (r_place (i : Int) (by omega) (by omega)) ?_
  rintro _ Mq ⟨rfl, e_⟩
  subst Mq
  have pI_362 := ite01 (0 ≤ (i : Int) ∧ (i : Int) < 6)
  refine ⟨by show (0 : Nat) ≠ 9; decide, (?_ : Wp 198 _ 245 5 [(1, 161), (0, (i : Int)), (3, 0), (3, 0)] [(0, (if 0 ≤ (i : Int) ∧ (i : Int) < 6 then 1 else 0))] (up M 161 14 0) _)⟩
  refine w_ne hK rfl (by omega) (by omega) (fun h5 => ?_) (fun h5 => ?_)
  · refine w_al hK rfl rfl ?_
    refine w_il hK rfl rfl ?_
    refine w_al hK rfl rfl ?_
    refine w_getr (n := 26) (v := 180) hK rfl rfl (by decide) (by decide) rfl rfl rfl rfl ?_
    refine w_call [(1, 161), (0, (i : Int)), (1, 180)] hK rfl rfl rfl rfl (Or.inr ⟨_, _, _, rfl, by decide, (by decide), rfl⟩) (r_load (RS.cg C (fun j_ h1_ h2_ => up_ne2 (by omega)) (fun a_ h1_ h2_ => up_row h1_)) (PM.keep hpl (up_row (by decide))) i hi (isR_of (p := 180) rfl)) ?_
    rintro _ V363 ⟨P363, rfl, C363, S363, F363, f363_0⟩
    refine ⟨by decide, (?_ : Wp 198 _ 245 13 [(1, 161), (0, (i : Int)), (3, 0), (3, 0)] [] V363 _)⟩
    refine w_al hK rfl rfl ?_
    refine w_getr (n := 26) (v := 180) hK rfl rfl (by decide) (by decide) rfl rfl rfl rfl ?_
    have dI_ : -1 ≤ dg (pl i) ∧ dg (pl i) ≤ 47 := C363.dI ⟨(isR_of (p := 180) rfl), f363_0⟩
    refine w_call [(1, 180)] hK rfl rfl rfl rfl (Or.inl rfl) (r_deg C363 ⟨(isR_of (p := 180) rfl), f363_0⟩) ?_
    rintro _ Mq ⟨rfl, e_⟩
    subst Mq
    refine ⟨by show (0 : Nat) ≠ 9; decide, (?_ : Wp 198 _ 245 16 [(1, 161), (0, (i : Int)), (3, 0), (3, 0)] [(0, (dg (pl i)))] V363 _)⟩
    refine w_is [(1, 161), (0, (i : Int)), (0, (dg (pl i))), (3, 0)] hK rfl rfl rfl ?_
    refine w_il hK rfl rfl ?_
    refine w_ic hK rfl ?_
    refine w_ne2 hK rfl (by omega) (by omega) (by omega) (by omega) (fun h19 => ?_) (fun h19 => ?_)
    · exfalso; omega
    · refine w_ic hK rfl ?_
      refine w_iret hK rfl rfl ?_
      exact ⟨rfl, ⟨_, C363, (PM.keep hpl ((S363 167 (notR rfl)).trans (up_row (by decide)))), (TMs.keep T ((congrFun (S363 161 (notR rfl)) 11).trans (up_ne2 (by decide))) ((S363 168 (notR rfl)).trans (up_row (by decide)))), (RM.keep hR ((congrFun (S363 161 (notR rfl)) 13).trans (up_ne2 (by decide))) ((S363 169 (notR rfl)).trans (up_row (by decide)))), (FM.keep hF ((congrFun (S363 161 (notR rfl)) 15).trans (up_ne2 (by decide))) ((S363 189 (notR rfl)).trans (up_row (by decide))) ((S363 190 (notR rfl)).trans (up_row (by decide))))⟩, (fun a h_ => ((S363 a (npR h_)).trans (up_row (by omega))))⟩
  · exfalso; omega
set_option maxRecDepth 100000 in
theorem rn_monic {d : Nat} {M : Mem} {k : Nat} {pl : Nat → Pl k} {n : Int} {tx : Int → Int} {rc : Nat} {rw : Int → Int} {fc : Nat} {fa : Nat → Pl k} (H : RFS M k pl n tx rc rw fc fa) (i : Int) (i1_ : -2147483648 ≤ i) (i2_ : i ≤ 2147483647) (hn : ¬ (0 ≤ i ∧ i < 6)) : Ct 198 (d + 8) 245 [(1, 161), (0, i)] M (fun r_ M' => r_ = (0, -1) ∧ RFS M' k pl n tx rc rw fc fa ∧ (∀ a : Int, (a < 161 ∨ 197 < a) → M' a = M a)) := by
  have hK : cd 245 = k245 := rfl
  obtain ⟨R, C, hpl, T, hR, hF⟩ := H
  have q1_ := qq_I k
  have p1_ := pp_I k
  have m1_ := mm_I k
  show Wp 198 _ 245 0 [(1, 161), (0, i), (3, 0), (3, 0)] [] M _
  refine w_al hK rfl rfl ?_
  refine w_ic hK rfl ?_
  refine w_puti (n := 14) (m := 14) hK rfl rfl (by decide) (by decide) rfl rfl rfl rfl ?_
  refine w_il hK rfl rfl ?_
  refine w_call [(0, i)] hK rfl rfl rfl rfl (Or.inl rfl) (r_place i (by omega) (by omega)) ?_
  rintro _ Mq ⟨rfl, e_⟩
  subst Mq
  have pI_364 := ite01 (0 ≤ i ∧ i < 6)
  refine ⟨by show (0 : Nat) ≠ 9; decide, (?_ : Wp 198 _ 245 5 [(1, 161), (0, i), (3, 0), (3, 0)] [(0, (if 0 ≤ i ∧ i < 6 then 1 else 0))] (up M 161 14 0) _)⟩
  refine w_ne hK rfl (by omega) (by omega) (fun h5 => ?_) (fun h5 => ?_)
  · exfalso; omega
  · refine w_ic hK rfl ?_
    refine w_iret hK rfl rfl ?_
    exact ⟨rfl, ⟨_, (RS.cg C (fun j_ h1_ h2_ => up_ne2 (by omega)) (fun a_ h1_ h2_ => up_row h1_)), (PM.keep hpl (up_row (by decide))), (TMs.keep T (up_ne2 (by decide)) (up_row (by decide))), (RM.keep hR (up_ne2 (by decide)) (up_row (by decide))), (FM.keep hF (up_ne2 (by decide)) (up_row (by decide)) (up_row (by decide)))⟩, (fun a h_ => (up_row (by omega)))⟩
set_option maxRecDepth 100000 in
theorem ro_maps {d : Nat} {M : Mem} {k : Nat} {pl : Nat → Pl k} {n : Int} {tx : Int → Int} {rc : Nat} {rw : Int → Int} {fc : Nat} {fa : Nat → Pl k} (H : RFS M k pl n tx rc rw fc fa) (i : Nat) (hi : i < 6) (l : Nat) (hl : l < 6) (n0 : Int) (n1_ : -8 ≤ n0) (n2_ : n0 ≤ 8) : Ct 198 (d + 8) 248 [(1, 161), (0, (i : Int)), (0, n0), (0, (l : Int))] M (fun r_ M' => r_ = (0, (dg (mpp n0 (pl i)))) ∧ RFS M' k (fup pl l (mpp n0 (pl i))) n tx rc rw fc fa ∧ (∀ a : Int, (a < 161 ∨ 197 < a) → M' a = M a)) := by
  have hK : cd 248 = k248 := rfl
  obtain ⟨R, C, hpl, T, hR, hF⟩ := H
  have q1_ := qq_I k
  have p1_ := pp_I k
  have m1_ := mm_I k
  have bi_ := (hpl i hi).2
  have di_ := dg_lt9 bi_
  have bl_ := (hpl l hl).2
  have dl_ := dg_lt9 bl_
  show Wp 198 _ 248 0 [(1, 161), (0, (i : Int)), (0, n0), (0, (l : Int)), (3, 0)] [] M _
  refine w_al hK rfl rfl ?_
  refine w_ic hK rfl ?_
  refine w_puti (n := 14) (m := 14) hK rfl rfl (by decide) (by decide) rfl rfl rfl rfl ?_
  refine w_il hK rfl rfl ?_
  refine w_i2l hK rfl (by omega) (by omega) ?_
  refine w_lcw hK rfl ?_
  refine w_lcw hK rfl ?_
  refine w_call [(2, n0), (2, (-8)), (2, 8)] hK rfl rfl rfl rfl (Or.inl rfl) (r_in n0 (-8) 8 (by omega) (by omega) (by omega) (by omega) (by omega) (by omega)) ?_
  rintro _ Mq ⟨rfl, e_⟩
  subst Mq
  have iI_365 := ite01 ((-8) ≤ n0 ∧ n0 ≤ 8)
  refine ⟨by show (0 : Nat) ≠ 9; decide, (?_ : Wp 198 _ 248 8 [(1, 161), (0, (i : Int)), (0, n0), (0, (l : Int)), (3, 0)] [(0, (if (-8) ≤ n0 ∧ n0 ≤ 8 then 1 else 0))] (up M 161 14 0) _)⟩
  refine w_eq hK rfl (by omega) (by omega) (fun h8 => ?_) (fun h8 => ?_)
  · exfalso; omega
  · refine w_al hK rfl rfl ?_
    refine w_il hK rfl rfl ?_
    refine w_il hK rfl rfl ?_
    refine w_il hK rfl rfl ?_
    refine w_call [(1, 161), (0, (i : Int)), (0, (i : Int)), (0, (l : Int))] hK rfl rfl rfl rfl (Or.inr ⟨_, _, _, rfl, by decide, (by decide), rfl⟩) (r_loads (RS.cg C (fun j_ h1_ h2_ => up_ne2 (by omega)) (fun a_ h1_ h2_ => up_row h1_)) (PM.keep hpl (up_row (by decide))) i i l hi hi hl) ?_
    rintro _ V366 ⟨P366, rfl, C366, S366, F366, f366_0, f366_1⟩
    refine ⟨by show (0 : Nat) ≠ 9; decide, (?_ : Wp 198 _ 248 14 [(1, 161), (0, (i : Int)), (0, n0), (0, (l : Int)), (3, 0)] [(0, 1)] V366 _)⟩
    refine w_ne hK rfl (by omega) (by omega) (fun h14 => ?_) (fun h14 => ?_)
    · refine w_ic hK rfl ?_
      refine w_is [(1, 161), (0, (i : Int)), (0, n0), (0, (l : Int)), (0, 0)] hK rfl rfl rfl ?_
      have lp19 : ∀ (n_ : Nat) (x : Nat) (R1 : Int → Option (Pl k)) (N19 : Mem), 49 - x = n_ → (x ≤ 48) → (RS N19 k R1) → (R1 180 = some (mxu (mpp n0 (pl i)) (pl i) x)) → ((∀ p : Int, p ≠ 180 → R1 p = P366 p)) → ((∀ a : Int, (∀ p : Int, isR p → a ≠ p) → N19 a = V366 a)) → Wp 198 (d + 8) 248 19 [(1, 161), (0, (i : Int)), (0, n0), (0, (l : Int)), (0, (x : Int))] [] N19 (fun r_ M' => r_ = (0, (dg (mpp n0 (pl i)))) ∧ RFS M' k (fup pl l (mpp n0 (pl i))) n tx rc rw fc fa ∧ (∀ a : Int, (a < 161 ∨ 197 < a) → M' a = M a)) := by
        intro n_
        induction n_ using Nat.strongRecOn with
        | _ n_ ih19 =>
        intro x R1 N19 hm19 hi_ hCR1 hy1_ hGR1 hSN19
        refine w_il hK rfl rfl ?_
        refine w_ic hK rfl ?_
        refine w_ge2 hK rfl (by omega) (by omega) (by omega) (by omega) (fun h21 => ?_) (fun h21 => ?_)
        · have ex_ : x = 48 := by omega
          have bm_ : Bd (mxu (mpp n0 (pl i)) (pl i) x) 9 := by
            rw [ex_, mxu_end ((sgI_bd n0 bi_).mono (by decide)) (bi_.mono (by decide))]; exact sgI_bd n0 bi_
          refine w_al hK rfl rfl ?_
          refine w_al hK rfl rfl ?_
          refine w_getr (n := 26) (v := 180) hK rfl rfl (by decide) (by decide) rfl rfl rfl rfl ?_
          refine w_il hK rfl rfl ?_
          refine w_call [(1, 161), (1, 180), (0, (l : Int))] hK rfl rfl rfl rfl (Or.inr ⟨_, _, _, rfl, by decide, (by decide), rfl⟩) (r_store hCR1 (PM.keep hpl ((hSN19 167 (notR rfl)).trans ((S366 167 (notR rfl)).trans (up_row (by decide))))) ⟨(isR_of (p := 180) rfl), hy1_⟩ l hl bm_) ?_
          rintro _ V367 ⟨rfl, C367, Q367, F367⟩
          refine ⟨(by show (0 : Nat) ≠ 9; decide), (?_ : Wp 198 _ 248 40 [(1, 161), (0, (i : Int)), (0, n0), (0, (l : Int)), (0, (x : Int))] [(0, (dg (mxu (mpp n0 (pl i)) (pl i) x)))] V367 _)⟩
          refine w_iret hK rfl rfl ?_
          have em_ : mxu (mpp n0 (pl i)) (pl i) x = mpp n0 (pl i) := by rw [ex_, mxu_end ((sgI_bd n0 bi_).mono (by decide)) (bi_.mono (by decide))]
          have Qe_ := Q367
          rw [em_] at Qe_ ⊢
          exact ⟨rfl, ⟨_, C367, Qe_, (TMs.keep T ((congrFun (F367 161 (by decide)) 11).trans ((congrFun (hSN19 161 (notR rfl)) 11).trans ((congrFun (S366 161 (notR rfl)) 11).trans (up_ne2 (by decide))))) ((F367 168 (by decide)).trans ((hSN19 168 (notR rfl)).trans ((S366 168 (notR rfl)).trans (up_row (by decide)))))), (RM.keep hR ((congrFun (F367 161 (by decide)) 13).trans ((congrFun (hSN19 161 (notR rfl)) 13).trans ((congrFun (S366 161 (notR rfl)) 13).trans (up_ne2 (by decide))))) ((F367 169 (by decide)).trans ((hSN19 169 (notR rfl)).trans ((S366 169 (notR rfl)).trans (up_row (by decide)))))), (FM.keep hF ((congrFun (F367 161 (by decide)) 15).trans ((congrFun (hSN19 161 (notR rfl)) 15).trans ((congrFun (S366 161 (notR rfl)) 15).trans (up_ne2 (by decide))))) ((F367 189 (by decide)).trans ((hSN19 189 (notR rfl)).trans ((S366 189 (notR rfl)).trans (up_row (by decide))))) ((F367 190 (by decide)).trans ((hSN19 190 (notR rfl)).trans ((S366 190 (notR rfl)).trans (up_row (by decide))))))⟩, (fun a h_ => ((F367 a (by omega)).trans ((hSN19 a (npR h_)).trans ((S366 a (npR h_)).trans (up_row (by omega))))))⟩
        · refine w_al hK rfl rfl ?_
          refine w_getr (n := 26) (v := 180) hK rfl rfl (by decide) (by decide) rfl rfl rfl rfl ?_
          refine w_il hK rfl rfl ?_
          refine w_al hK rfl rfl ?_
          refine w_al hK rfl rfl ?_
          refine w_getr (n := 26) (v := 180) hK rfl rfl (by decide) (by decide) rfl rfl rfl rfl ?_
          refine w_il hK rfl rfl ?_
          refine w_ia hK rfl rfl (by decide) (by decide) (by omega) (by omega) ?_
          rw [show N19 180 (x : Int) = (((mxu (mpp n0 (pl i)) (pl i) x) x).val : Int) from hCR1.atz ⟨(isR_of (p := 180) rfl), hy1_⟩ (j := x) (by omega) (by omega)]
          refine w_il hK rfl rfl ?_
          refine w_call [(1, 161), (0, (((mxu (mpp n0 (pl i)) (pl i) x) x).val : Int)), (0, n0)] hK rfl rfl rfl rfl (Or.inr ⟨_, _, _, rfl, by decide, (by decide), rfl⟩) (r_mapd hCR1.F ((mxu (mpp n0 (pl i)) (pl i) x) x) n0 (by omega) (by omega)) ?_
          rintro _ Mq ⟨rfl, e_⟩
          subst Mq
          have bv_ := el_I (sgI n0 ((mxu (mpp n0 (pl i)) (pl i) x) x))
          refine ⟨by show (0 : Nat) ≠ 9; decide, (?_ : Wp 198 _ 248 32 [(1, 161), (0, (i : Int)), (0, n0), (0, (l : Int)), (0, (x : Int))] [(0, ((sgI n0 ((mxu (mpp n0 (pl i)) (pl i) x) x)).val : Int)), (0, (x : Int)), (1, 180)] N19 _)⟩
          refine w_iat hK rfl rfl (by decide) (by decide) (by omega) (by omega) ?_
          refine w_inc [(1, 161), (0, (i : Int)), (0, n0), (0, (l : Int)), (0, ((x : Int) + 1))] hK rfl rfl rfl (by omega) (by omega) rfl ?_
          refine w_goto hK rfl ?_
          exact ih19 _ (by omega) (x + 1) _ (up N19 180 (x : Int) ((sgI n0 ((mxu (mpp n0 (pl i)) (pl i) x) x)).val : Int)) rfl (by omega) (RS.up hCR1 ⟨(isR_of (p := 180) rfl), hy1_⟩ (j := x) (by omega) (by omega) (e := (sgI n0 ((mxu (mpp n0 (pl i)) (pl i) x) x))) rfl) (pu_eq.trans (congrArg some (mxu_up (by first | rfl | (rw [mxu_at]; rfl))))) (fun p pn180_ => ((pu_ne (P := R1) (f := up1 (mxu (mpp n0 (pl i)) (pl i) x) x (sgI n0 ((mxu (mpp n0 (pl i)) (pl i) x) x))) (show p ≠ 180 by omega)).trans (hGR1 p pn180_))) (fun a nr_ => ((up_row (nr_ 180 (isR_of (p := 180) rfl))).trans (hSN19 a nr_)))
      exact lp19 _ 0 _ V366 rfl (by omega) C366 (f366_0.trans (congrArg some mxu_0.symm)) (fun p pn180_ => rfl) (fun a nr_ => rfl)
    · exfalso; omega
set_option maxRecDepth 100000 in
theorem rn_maps {d : Nat} {M : Mem} {k : Nat} {pl : Nat → Pl k} {n : Int} {tx : Int → Int} {rc : Nat} {rw : Int → Int} {fc : Nat} {fa : Nat → Pl k} (H : RFS M k pl n tx rc rw fc fa) (i n0 l : Int) (i1_ : -2147483648 ≤ i) (i2_ : i ≤ 2147483647) (n01_ : -2147483648 ≤ n0) (n02_ : n0 ≤ 2147483647) (l1_ : -2147483648 ≤ l) (l2_ : l ≤ 2147483647) (hn : ¬ ((0 ≤ i ∧ i < 6) ∧ (0 ≤ l ∧ l < 6) ∧ -8 ≤ n0 ∧ n0 ≤ 8)) : Ct 198 (d + 8) 248 [(1, 161), (0, i), (0, n0), (0, l)] M (fun r_ M' => r_ = (0, -2) ∧ RFS M' k pl n tx rc rw fc fa ∧ (∀ a : Int, (a < 161 ∨ 197 < a) → M' a = M a)) := by
  have hK : cd 248 = k248 := rfl
  obtain ⟨R, C, hpl, T, hR, hF⟩ := H
  have q1_ := qq_I k
  have p1_ := pp_I k
  have m1_ := mm_I k
  show Wp 198 _ 248 0 [(1, 161), (0, i), (0, n0), (0, l), (3, 0)] [] M _
  refine w_al hK rfl rfl ?_
  refine w_ic hK rfl ?_
  refine w_puti (n := 14) (m := 14) hK rfl rfl (by decide) (by decide) rfl rfl rfl rfl ?_
  refine w_il hK rfl rfl ?_
  refine w_i2l hK rfl (by omega) (by omega) ?_
  refine w_lcw hK rfl ?_
  refine w_lcw hK rfl ?_
  refine w_call [(2, n0), (2, (-8)), (2, 8)] hK rfl rfl rfl rfl (Or.inl rfl) (r_in n0 (-8) 8 (by omega) (by omega) (by omega) (by omega) (by omega) (by omega)) ?_
  rintro _ Mq ⟨rfl, e_⟩
  subst Mq
  have iI_368 := ite01 ((-8) ≤ n0 ∧ n0 ≤ 8)
  refine ⟨by show (0 : Nat) ≠ 9; decide, (?_ : Wp 198 _ 248 8 [(1, 161), (0, i), (0, n0), (0, l), (3, 0)] [(0, (if (-8) ≤ n0 ∧ n0 ≤ 8 then 1 else 0))] (up M 161 14 0) _)⟩
  refine w_eq hK rfl (by omega) (by omega) (fun h8 => ?_) (fun h8 => ?_)
  · refine w_ic hK rfl ?_
    refine w_iret hK rfl rfl ?_
    exact ⟨rfl, ⟨_, (RS.cg C (fun j_ h1_ h2_ => up_ne2 (by omega)) (fun a_ h1_ h2_ => up_row h1_)), (PM.keep hpl (up_row (by decide))), (TMs.keep T (up_ne2 (by decide)) (up_row (by decide))), (RM.keep hR (up_ne2 (by decide)) (up_row (by decide))), (FM.keep hF (up_ne2 (by decide)) (up_row (by decide)) (up_row (by decide)))⟩, (fun a h_ => (up_row (by omega)))⟩
  · refine w_al hK rfl rfl ?_
    refine w_il hK rfl rfl ?_
    refine w_il hK rfl rfl ?_
    refine w_il hK rfl rfl ?_
    refine w_call [(1, 161), (0, i), (0, i), (0, l)] hK rfl rfl rfl rfl (Or.inr ⟨_, _, _, rfl, by decide, (by decide), rfl⟩) (r_loadsN i i l (by omega) (by omega) (by omega) (by omega) (by omega) (by omega) (by omega)) ?_
    rintro _ Mq ⟨rfl, e_⟩
    subst Mq
    refine ⟨by show (0 : Nat) ≠ 9; decide, (?_ : Wp 198 _ 248 14 [(1, 161), (0, i), (0, n0), (0, l), (3, 0)] [(0, 0)] (up M 161 14 0) _)⟩
    refine w_ne hK rfl (by omega) (by omega) (fun h14 => ?_) (fun h14 => ?_)
    · exfalso; omega
    · refine w_ic hK rfl ?_
      refine w_iret hK rfl rfl ?_
      exact ⟨rfl, ⟨_, (RS.cg C (fun j_ h1_ h2_ => up_ne2 (by omega)) (fun a_ h1_ h2_ => up_row h1_)), (PM.keep hpl (up_row (by decide))), (TMs.keep T (up_ne2 (by decide)) (up_row (by decide))), (RM.keep hR (up_ne2 (by decide)) (up_row (by decide))), (FM.keep hF (up_ne2 (by decide)) (up_row (by decide)) (up_row (by decide)))⟩, (fun a h_ => (up_row (by omega)))⟩
set_option maxRecDepth 100000 in
theorem ro_turned {d : Nat} {M : Mem} {k : Nat} {pl : Nat → Pl k} {n : Int} {tx : Int → Int} {rc : Nat} {rw : Int → Int} {fc : Nat} {fa : Nat → Pl k} (H : RFS M k pl n tx rc rw fc fa) (i : Nat) (hi : i < 6) (l : Nat) (hl : l < 6) (x : El k) (x0 : (x.val : Int) ≠ 0) : Ct 198 (d + 8) 253 [(1, 161), (0, (x.val : Int)), (0, (i : Int)), (0, (l : Int))] M (fun r_ M' => r_ = (0, (dg (scb (scl (iv x) (pl i)) x))) ∧ RFS M' k (fup pl l (scb (scl (iv x) (pl i)) x)) n tx rc rw fc fa ∧ (∀ a : Int, (a < 161 ∨ 197 < a) → M' a = M a)) := by
  have hK : cd 253 = k253 := rfl
  obtain ⟨R, C, hpl, T, hR, hF⟩ := H
  have q1_ := qq_I k
  have p1_ := pp_I k
  have m1_ := mm_I k
  have bi_ := (hpl i hi).2
  have di_ := dg_lt9 bi_
  have bl_ := (hpl l hl).2
  have dl_ := dg_lt9 bl_
  have lx_ := x.isLt
  show Wp 198 _ 253 0 [(1, 161), (0, (x.val : Int)), (0, (i : Int)), (0, (l : Int))] [] M _
  refine w_al hK rfl rfl ?_
  refine w_ic hK rfl ?_
  refine w_puti (n := 14) (m := 14) hK rfl rfl (by decide) (by decide) rfl rfl rfl rfl ?_
  refine w_al hK rfl rfl ?_
  refine w_il hK rfl rfl ?_
  refine w_call [(1, 161), (0, (x.val : Int))] hK rfl rfl rfl rfl (Or.inr ⟨_, _, _, rfl, by decide, (by decide), rfl⟩) (r_isnum (RS.cg C (fun j_ h1_ h2_ => up_ne2 (by omega)) (fun a_ h1_ h2_ => up_row h1_)).F (x.val : Int) (by omega) (by omega)) ?_
  rintro _ Mq ⟨rfl, e_⟩
  subst Mq
  have nI_369 := ite01 (0 ≤ (x.val : Int) ∧ (x.val : Int) < (qq k : Int))
  refine ⟨by show (0 : Nat) ≠ 9; decide, (?_ : Wp 198 _ 253 6 [(1, 161), (0, (x.val : Int)), (0, (i : Int)), (0, (l : Int))] [(0, (if 0 ≤ (x.val : Int) ∧ (x.val : Int) < (qq k : Int) then 1 else 0))] (up M 161 14 0) _)⟩
  refine w_eq hK rfl (by omega) (by omega) (fun h6 => ?_) (fun h6 => ?_)
  · exfalso; omega
  · refine w_al hK rfl rfl ?_
    refine w_il hK rfl rfl ?_
    refine w_il hK rfl rfl ?_
    refine w_il hK rfl rfl ?_
    refine w_call [(1, 161), (0, (i : Int)), (0, (i : Int)), (0, (l : Int))] hK rfl rfl rfl rfl (Or.inr ⟨_, _, _, rfl, by decide, (by decide), rfl⟩) (r_loads (RS.cg C (fun j_ h1_ h2_ => up_ne2 (by omega)) (fun a_ h1_ h2_ => up_row h1_)) (PM.keep hpl (up_row (by decide))) i i l hi hi hl) ?_
    rintro _ V370 ⟨P370, rfl, C370, S370, F370, f370_0, f370_1⟩
    refine ⟨by show (0 : Nat) ≠ 9; decide, (?_ : Wp 198 _ 253 12 [(1, 161), (0, (x.val : Int)), (0, (i : Int)), (0, (l : Int))] [(0, 1)] V370 _)⟩
    refine w_ne hK rfl (by omega) (by omega) (fun h12 => ?_) (fun h12 => ?_)
    · refine w_il hK rfl rfl ?_
      refine w_ne hK rfl (by omega) (by omega) (fun h16 => ?_) (fun h16 => ?_)
      · refine w_al hK rfl rfl ?_
        refine w_al hK rfl rfl ?_
        refine w_getr (n := 7) (v := 165) hK rfl rfl (by decide) (by decide) rfl rfl rfl rfl ?_
        refine w_il hK rfl rfl ?_
        refine w_ia hK rfl rfl (by decide) (by decide) (by omega) (by omega) ?_
        rw [show V370 165 (x.val : Int) = ((iv x).val : Int) from C370.F.v x]
        refine w_al hK rfl rfl ?_
        refine w_getr (n := 26) (v := 180) hK rfl rfl (by decide) (by decide) rfl rfl rfl rfl ?_
        refine w_call [(1, 161), (0, ((iv x).val : Int)), (1, 180)] hK rfl rfl rfl rfl (Or.inr ⟨_, _, _, rfl, by decide, (by decide), rfl⟩) (r_scal C370 (iv x) ⟨(isR_of (p := 180) rfl), f370_0⟩) ?_
        rintro _ V371 ⟨P371, rfl, C371, S371, F371, f371_0⟩
        refine ⟨by decide, (?_ : Wp 198 _ 253 27 [(1, 161), (0, (x.val : Int)), (0, (i : Int)), (0, (l : Int))] [] V371 _)⟩
        refine w_al hK rfl rfl ?_
        refine w_al hK rfl rfl ?_
        refine w_getr (n := 26) (v := 180) hK rfl rfl (by decide) (by decide) rfl rfl rfl rfl ?_
        refine w_il hK rfl rfl ?_
        refine w_call [(1, 161), (1, 180), (0, (x.val : Int))] hK rfl rfl rfl rfl (Or.inr ⟨_, _, _, rfl, by decide, (by decide), rfl⟩) (r_scb C371 ⟨(isR_of (p := 180) rfl), f371_0⟩ x) ?_
        rintro _ V372 ⟨P372, rfl, C372, S372, F372, f372_0⟩
        refine ⟨by decide, (?_ : Wp 198 _ 253 32 [(1, 161), (0, (x.val : Int)), (0, (i : Int)), (0, (l : Int))] [] V372 _)⟩
        refine w_al hK rfl rfl ?_
        refine w_al hK rfl rfl ?_
        refine w_getr (n := 26) (v := 180) hK rfl rfl (by decide) (by decide) rfl rfl rfl rfl ?_
        refine w_il hK rfl rfl ?_
        refine w_call [(1, 161), (1, 180), (0, (l : Int))] hK rfl rfl rfl rfl (Or.inr ⟨_, _, _, rfl, by decide, (by decide), rfl⟩) (r_store C372 (PM.keep hpl ((S372 167 (notR rfl)).trans ((S371 167 (notR rfl)).trans ((S370 167 (notR rfl)).trans (up_row (by decide)))))) ⟨(isR_of (p := 180) rfl), f372_0⟩ l hl (Bd_scb x (Bd_scl (iv x) bi_))) ?_
        rintro _ V373 ⟨rfl, C373, Q373, F373⟩
        refine ⟨(by show (0 : Nat) ≠ 9; decide), (?_ : Wp 198 _ 253 37 [(1, 161), (0, (x.val : Int)), (0, (i : Int)), (0, (l : Int))] [(0, (dg (scb (scl (iv x) (pl i)) x)))] V373 _)⟩
        refine w_iret hK rfl rfl ?_
        exact ⟨rfl, ⟨_, C373, Q373, (TMs.keep T ((congrFun (F373 161 (by decide)) 11).trans ((congrFun (S372 161 (notR rfl)) 11).trans ((congrFun (S371 161 (notR rfl)) 11).trans ((congrFun (S370 161 (notR rfl)) 11).trans (up_ne2 (by decide)))))) ((F373 168 (by decide)).trans ((S372 168 (notR rfl)).trans ((S371 168 (notR rfl)).trans ((S370 168 (notR rfl)).trans (up_row (by decide))))))), (RM.keep hR ((congrFun (F373 161 (by decide)) 13).trans ((congrFun (S372 161 (notR rfl)) 13).trans ((congrFun (S371 161 (notR rfl)) 13).trans ((congrFun (S370 161 (notR rfl)) 13).trans (up_ne2 (by decide)))))) ((F373 169 (by decide)).trans ((S372 169 (notR rfl)).trans ((S371 169 (notR rfl)).trans ((S370 169 (notR rfl)).trans (up_row (by decide))))))), (FM.keep hF ((congrFun (F373 161 (by decide)) 15).trans ((congrFun (S372 161 (notR rfl)) 15).trans ((congrFun (S371 161 (notR rfl)) 15).trans ((congrFun (S370 161 (notR rfl)) 15).trans (up_ne2 (by decide)))))) ((F373 189 (by decide)).trans ((S372 189 (notR rfl)).trans ((S371 189 (notR rfl)).trans ((S370 189 (notR rfl)).trans (up_row (by decide)))))) ((F373 190 (by decide)).trans ((S372 190 (notR rfl)).trans ((S371 190 (notR rfl)).trans ((S370 190 (notR rfl)).trans (up_row (by decide)))))))⟩, (fun a h_ => ((F373 a (by omega)).trans ((S372 a (npR h_)).trans ((S371 a (npR h_)).trans ((S370 a (npR h_)).trans (up_row (by omega)))))))⟩
      · exfalso; omega
    · exfalso; omega
set_option maxRecDepth 100000 in
theorem rz_turned {d : Nat} {M : Mem} {k : Nat} {pl : Nat → Pl k} {n : Int} {tx : Int → Int} {rc : Nat} {rw : Int → Int} {fc : Nat} {fa : Nat → Pl k} (H : RFS M k pl n tx rc rw fc fa) (i : Nat) (hi : i < 6) (l : Nat) (hl : l < 6) (x : El k) (x0 : (x.val : Int) = 0) : Ct 198 (d + 8) 253 [(1, 161), (0, (x.val : Int)), (0, (i : Int)), (0, (l : Int))] M (fun r_ M' => r_ = (0, -3) ∧ RFS M' k pl n tx rc rw fc fa ∧ (∀ a : Int, (a < 161 ∨ 197 < a) → M' a = M a)) := by
  have hK : cd 253 = k253 := rfl
  obtain ⟨R, C, hpl, T, hR, hF⟩ := H
  have q1_ := qq_I k
  have p1_ := pp_I k
  have m1_ := mm_I k
  have bi_ := (hpl i hi).2
  have di_ := dg_lt9 bi_
  have bl_ := (hpl l hl).2
  have dl_ := dg_lt9 bl_
  have lx_ := x.isLt
  show Wp 198 _ 253 0 [(1, 161), (0, (x.val : Int)), (0, (i : Int)), (0, (l : Int))] [] M _
  refine w_al hK rfl rfl ?_
  refine w_ic hK rfl ?_
  refine w_puti (n := 14) (m := 14) hK rfl rfl (by decide) (by decide) rfl rfl rfl rfl ?_
  refine w_al hK rfl rfl ?_
  refine w_il hK rfl rfl ?_
  refine w_call [(1, 161), (0, (x.val : Int))] hK rfl rfl rfl rfl (Or.inr ⟨_, _, _, rfl, by decide, (by decide), rfl⟩) (r_isnum (RS.cg C (fun j_ h1_ h2_ => up_ne2 (by omega)) (fun a_ h1_ h2_ => up_row h1_)).F (x.val : Int) (by omega) (by omega)) ?_
  rintro _ Mq ⟨rfl, e_⟩
  subst Mq
  have nI_374 := ite01 (0 ≤ (x.val : Int) ∧ (x.val : Int) < (qq k : Int))
  refine ⟨by show (0 : Nat) ≠ 9; decide, (?_ : Wp 198 _ 253 6 [(1, 161), (0, (x.val : Int)), (0, (i : Int)), (0, (l : Int))] [(0, (if 0 ≤ (x.val : Int) ∧ (x.val : Int) < (qq k : Int) then 1 else 0))] (up M 161 14 0) _)⟩
  refine w_eq hK rfl (by omega) (by omega) (fun h6 => ?_) (fun h6 => ?_)
  · exfalso; omega
  · refine w_al hK rfl rfl ?_
    refine w_il hK rfl rfl ?_
    refine w_il hK rfl rfl ?_
    refine w_il hK rfl rfl ?_
    refine w_call [(1, 161), (0, (i : Int)), (0, (i : Int)), (0, (l : Int))] hK rfl rfl rfl rfl (Or.inr ⟨_, _, _, rfl, by decide, (by decide), rfl⟩) (r_loads (RS.cg C (fun j_ h1_ h2_ => up_ne2 (by omega)) (fun a_ h1_ h2_ => up_row h1_)) (PM.keep hpl (up_row (by decide))) i i l hi hi hl) ?_
    rintro _ V375 ⟨P375, rfl, C375, S375, F375, f375_0, f375_1⟩
    refine ⟨by show (0 : Nat) ≠ 9; decide, (?_ : Wp 198 _ 253 12 [(1, 161), (0, (x.val : Int)), (0, (i : Int)), (0, (l : Int))] [(0, 1)] V375 _)⟩
    refine w_ne hK rfl (by omega) (by omega) (fun h12 => ?_) (fun h12 => ?_)
    · refine w_il hK rfl rfl ?_
      refine w_ne hK rfl (by omega) (by omega) (fun h16 => ?_) (fun h16 => ?_)
      · exfalso; omega
      · refine w_ic hK rfl ?_
        refine w_iret hK rfl rfl ?_
        exact ⟨rfl, ⟨_, C375, (PM.keep hpl ((S375 167 (notR rfl)).trans (up_row (by decide)))), (TMs.keep T ((congrFun (S375 161 (notR rfl)) 11).trans (up_ne2 (by decide))) ((S375 168 (notR rfl)).trans (up_row (by decide)))), (RM.keep hR ((congrFun (S375 161 (notR rfl)) 13).trans (up_ne2 (by decide))) ((S375 169 (notR rfl)).trans (up_row (by decide)))), (FM.keep hF ((congrFun (S375 161 (notR rfl)) 15).trans (up_ne2 (by decide))) ((S375 189 (notR rfl)).trans (up_row (by decide))) ((S375 190 (notR rfl)).trans (up_row (by decide))))⟩, (fun a h_ => ((S375 a (npR h_)).trans (up_row (by omega))))⟩
    · exfalso; omega
set_option maxRecDepth 100000 in
theorem rn_turned {d : Nat} {M : Mem} {k : Nat} {pl : Nat → Pl k} {n : Int} {tx : Int → Int} {rc : Nat} {rw : Int → Int} {fc : Nat} {fa : Nat → Pl k} (H : RFS M k pl n tx rc rw fc fa) (x i l : Int) (x1_ : -2147483648 ≤ x) (x2_ : x ≤ 2147483647) (i1_ : -2147483648 ≤ i) (i2_ : i ≤ 2147483647) (l1_ : -2147483648 ≤ l) (l2_ : l ≤ 2147483647) (hn : ¬ ((0 ≤ i ∧ i < 6) ∧ (0 ≤ l ∧ l < 6) ∧ 0 ≤ x ∧ x < (qq k : Int))) : Ct 198 (d + 8) 253 [(1, 161), (0, x), (0, i), (0, l)] M (fun r_ M' => r_ = (0, -2) ∧ RFS M' k pl n tx rc rw fc fa ∧ (∀ a : Int, (a < 161 ∨ 197 < a) → M' a = M a)) := by
  have hK : cd 253 = k253 := rfl
  obtain ⟨R, C, hpl, T, hR, hF⟩ := H
  have q1_ := qq_I k
  have p1_ := pp_I k
  have m1_ := mm_I k
  show Wp 198 _ 253 0 [(1, 161), (0, x), (0, i), (0, l)] [] M _
  refine w_al hK rfl rfl ?_
  refine w_ic hK rfl ?_
  refine w_puti (n := 14) (m := 14) hK rfl rfl (by decide) (by decide) rfl rfl rfl rfl ?_
  refine w_al hK rfl rfl ?_
  refine w_il hK rfl rfl ?_
  refine w_call [(1, 161), (0, x)] hK rfl rfl rfl rfl (Or.inr ⟨_, _, _, rfl, by decide, (by decide), rfl⟩) (r_isnum (RS.cg C (fun j_ h1_ h2_ => up_ne2 (by omega)) (fun a_ h1_ h2_ => up_row h1_)).F x (by omega) (by omega)) ?_
  rintro _ Mq ⟨rfl, e_⟩
  subst Mq
  have nI_376 := ite01 (0 ≤ x ∧ x < (qq k : Int))
  refine ⟨by show (0 : Nat) ≠ 9; decide, (?_ : Wp 198 _ 253 6 [(1, 161), (0, x), (0, i), (0, l)] [(0, (if 0 ≤ x ∧ x < (qq k : Int) then 1 else 0))] (up M 161 14 0) _)⟩
  refine w_eq hK rfl (by omega) (by omega) (fun h6 => ?_) (fun h6 => ?_)
  · refine w_ic hK rfl ?_
    refine w_iret hK rfl rfl ?_
    exact ⟨rfl, ⟨_, (RS.cg C (fun j_ h1_ h2_ => up_ne2 (by omega)) (fun a_ h1_ h2_ => up_row h1_)), (PM.keep hpl (up_row (by decide))), (TMs.keep T (up_ne2 (by decide)) (up_row (by decide))), (RM.keep hR (up_ne2 (by decide)) (up_row (by decide))), (FM.keep hF (up_ne2 (by decide)) (up_row (by decide)) (up_row (by decide)))⟩, (fun a h_ => (up_row (by omega)))⟩
  · refine w_al hK rfl rfl ?_
    refine w_il hK rfl rfl ?_
    refine w_il hK rfl rfl ?_
    refine w_il hK rfl rfl ?_
    refine w_call [(1, 161), (0, i), (0, i), (0, l)] hK rfl rfl rfl rfl (Or.inr ⟨_, _, _, rfl, by decide, (by decide), rfl⟩) (r_loadsN i i l (by omega) (by omega) (by omega) (by omega) (by omega) (by omega) (by omega)) ?_
    rintro _ Mq ⟨rfl, e_⟩
    subst Mq
    refine ⟨by show (0 : Nat) ≠ 9; decide, (?_ : Wp 198 _ 253 12 [(1, 161), (0, x), (0, i), (0, l)] [(0, 0)] (up M 161 14 0) _)⟩
    refine w_ne hK rfl (by omega) (by omega) (fun h12 => ?_) (fun h12 => ?_)
    · exfalso; omega
    · refine w_ic hK rfl ?_
      refine w_iret hK rfl rfl ?_
      exact ⟨rfl, ⟨_, (RS.cg C (fun j_ h1_ h2_ => up_ne2 (by omega)) (fun a_ h1_ h2_ => up_row h1_)), (PM.keep hpl (up_row (by decide))), (TMs.keep T (up_ne2 (by decide)) (up_row (by decide))), (RM.keep hR (up_ne2 (by decide)) (up_row (by decide))), (FM.keep hF (up_ne2 (by decide)) (up_row (by decide)) (up_row (by decide)))⟩, (fun a h_ => (up_row (by omega)))⟩
