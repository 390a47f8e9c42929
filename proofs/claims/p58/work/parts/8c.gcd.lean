/-! what the greatest divisor divides; multiples -/
theorem dg_mon {k : Nat} {s : Int} {f : Pl k} {n : Nat} (h : Bd f n) (hn : n ≤ 64) (h0 : 0 ≤ dg f) : dg (mon s f) = dg f := by
  have hd := dg_is (h.mono hn)
  have h1 : ld f = f (dg f).toNat := by unfold ld; rw [cf_toNat h0]
  have hl : ld f ≠ z0 := by rw [h1]; exact hd.2.2 h0
  refine dg_eq ((Bd_mon s h).mono hn) ⟨hd.1, fun j hj => ?_, fun _ => ?_⟩
  · unfold mon
    split
    · show ml (iv (ld f)) (f j) = z0
      rw [hd.2.1 j hj, ml_zero]
    · show ml (f j) (sg j (sgI (-(dg f)) (iv (ld f)))) = z0
      rw [hd.2.1 j hj, zero_ml]
  · unfold mon
    split
    · exact fun q => (ml_eq_zero q).elim (fun q2 => iv_ne hl q2) (fun q2 => hd.2.2 h0 q2)
    · exact fun q => (ml_eq_zero q).elim (fun q2 => hd.2.2 h0 q2) (fun q2 => sg_ne (show sgI (-(dg f)) (iv (ld f)) ≠ z0 from sg_ne (iv_ne hl)) q2)
theorem dg_pr16 {k : Nat} {f g : Pl k} (hf : Bd f 9) (hg : Bd g 9) : -1 ≤ dg (mlp f g) ∧ dg (mlp f g) ≤ 16 ∧ Bd (mlp f g) 18 := by
  have h := Bd_mlp hf hg
  have h2 := dg_prd (s := 0) (hf.mono (show 9 ≤ 32 by decide)) (hg.mono (show 9 ≤ 32 by decide))
  have e : prd 0 f g = mlp f g := rfl
  rw [e] at h2
  have h3 := dg_lt9 hf
  have h4 := dg_lt9 hg
  refine ⟨dg_ge _, ?_, h⟩
  by_cases q : dg f < 0 ∨ dg g < 0
  · rw [h2.1 q, dg_pz]; decide
  · rw [h2.2.1 (by omega) (by omega)]; omega
theorem Bd9.of64 {k : Nat} {f : Pl k} {n : Nat} (h : Bd f n) (hn : n ≤ 64) (hd : dg f ≤ 8) : Bd f 9 := dg_bd (h.mono hn) (by omega)
theorem eu_B {k : Nat} {s : Int} {x y : Pl k} (hx : Bd x 9) (hy : Bd y 9) : ∀ n : Nat, (∀ m : Nat, m < n → (eu s x y m).2.1 ≠ pz) → EuB (eu s x y n)
  | 0, _ => EuB.zero hx hy
  | n + 1, h => by
    have h1 := eu_B hx hy n (fun m hm => h m (by omega))
    refine h1.step ?_
    rcases Int.lt_or_le (dg (eu s x y n).2.1) 0 with q | q
    · exact absurd ((dg_neg (h1.1.2.mono (by decide))).mp q) (h n (by omega))
    · exact q
theorem eu_dec {k : Nat} {s : Int} {x y : Pl k} {n : Nat} (h1 : EuB (eu s x y n)) (h : (eu s x y n).2.1 ≠ pz) : dg (eu s x y (n + 1)).2.1 < dg (eu s x y n).2.1 ∧ 0 ≤ dg (eu s x y n).2.1 := by
  have h0 : 0 ≤ dg (eu s x y n).2.1 := by
    rcases Int.lt_or_le (dg (eu s x y n).2.1) 0 with q | q
    · exact absurd ((dg_neg (h1.1.2.mono (by decide))).mp q) h
    · exact q
  have d := dg_dv s (h1.1.1.mono (show 9 ≤ 17 by decide)) (h1.1.2.mono (show 9 ≤ 17 by decide)) h0
  exact ⟨d.2.1, h0⟩
theorem euE_ex {k : Nat} (s : Int) {x y : Pl k} (hx : Bd x 9) (hy : Bd y 9) : ∃ n : Nat, EuE s x y n := by
  have key : ∀ t n : Nat, dg (eu s x y n).2.1 + 1 ≤ (t : Int) → (∀ m : Nat, m < n → (eu s x y m).2.1 ≠ pz) → ∃ n : Nat, EuE s x y n := fun t => by
    induction t with
    | zero =>
      intro n h1 h2
      have hb := eu_B hx hy n h2
      exact ⟨n, h2, (dg_neg (hb.1.2.mono (by decide))).mp (by omega)⟩
    | succ t ih =>
      intro n h1 h2
      have hb := eu_B hx hy n h2
      by_cases c : (eu s x y n).2.1 = pz
      · exact ⟨n, h2, c⟩
      · have d := eu_dec hb c
        exact ih (n + 1) (by omega) (fun m hm => by
          by_cases q : m = n
          · rw [q]; exact c
          · exact h2 m (by omega))
  exact key 10 0 (by have := dg_lt9 hy; show dg y + 1 ≤ ((10 : Nat) : Int); omega) (fun m hm => by omega)
theorem euL_B {k : Nat} {s : Int} {x y : Pl k} {n : Nat} (hx : Bd x 9) (hy : Bd y 9) (h : EuE s x y n) : EuB (euL s x y) := by
  rw [euL_eq h]; exact eu_B hx hy n h.1
theorem dg_sbp_lt {k : Nat} {f g : Pl k} (hf : Bd f 64) (hg : Bd g 64) (h : dg f < dg g) : dg (sbp f g) = dg g := by
  have h0 := dg_ge f
  have ig := dg_is hg
  refine dg_eq (Bd_sbp' hf hg) ⟨ig.1, fun j hj => ?_, fun q => ?_⟩
  · show ad (f j) (ng (g j)) = z0
    rw [ig.2.1 j hj, (dg_is hf).2.1 j (by omega), ng_z, ad_zero]
  · show ad (f (dg g).toNat) (ng (g (dg g).toNat)) ≠ z0
    rw [(dg_is hf).2.1 (dg g).toNat (by omega), zero_ad]
    exact fun e => ig.2.2 q (by rw [← ng_ng (g (dg g).toNat), e, ng_z])
theorem dg_sbp_gt {k : Nat} {f g : Pl k} (hf : Bd f 64) (hg : Bd g 64) (h : dg g < dg f) : dg (sbp f g) = dg f := by
  have h0 := dg_ge g
  have ig := dg_is hf
  refine dg_eq (Bd_sbp' hf hg) ⟨ig.1, fun j hj => ?_, fun q => ?_⟩
  · show ad (f j) (ng (g j)) = z0
    rw [ig.2.1 j hj, (dg_is hg).2.1 j (by omega), ng_z, ad_zero]
  · show ad (f (dg f).toNat) (ng (g (dg f).toNat)) ≠ z0
    rw [(dg_is hg).2.1 (dg f).toNat (by omega), ng_z, ad_zero]
    exact ig.2.2 q
theorem dg_dq_eq {k : Nat} (s : Int) {a b : Pl k} (ha : Bd a 17) (hb : Bd b 17) (h0 : 0 ≤ dg b) (h : dg b ≤ dg a) : dg (dq s a b) = dg a - dg b := by
  have hd := dg_dv s ha hb h0
  have e3 : a = adp (dr s a b) (prd s (dq s a b) b) := (dv_is s (isdg_dg (hb.mono (by decide)) h0) ha).2.1.trans (adp_comm _ _)
  have e4 : sbp a (dr s a b) = prd s (dq s a b) b := (congrArg (fun t => sbp t (dr s a b)) e3).trans (sbp_adp _ _)
  have hp := dg_prd (s := s) (f := dq s a b) (g := b) (hd.1.mono (by decide)) (hb.mono (by decide))
  have h4 := dg_sbp_gt (f := a) (g := dr s a b) (ha.mono (by decide)) (hd.2.2.2.2.mono (by decide)) (by omega)
  rw [e4] at h4
  rcases Int.lt_or_le (dg (dq s a b)) 0 with q | q
  · rw [hp.1 (Or.inl q), dg_pz] at h4; omega
  · have := hp.2.1 q h0; omega
/-- behind the first division the multipliers grow */ -/
theorem eu_grow {k : Nat} {s : Int} {x y : Pl k} (hx : Bd x 9) (hy : Bd y 9) : ∀ n : Nat, (∀ m : Nat, m < n + 1 → (eu s x y m).2.1 ≠ pz) → dg (eu s x y (n + 1)).2.2.1 < dg (eu s x y (n + 1)).2.2.2.1 ∧ dg (eu s x y (n + 1)).2.1 < dg (eu s x y (n + 1)).1
  | 0, h => by
    have h1 : EuB (eu s x y 0) := EuB.zero hx hy
    have d := eu_dec h1 (h 0 (by omega))
    refine ⟨?_, d.1⟩
    show dg (pz : Pl k) < dg (sbp one (prd s (dq s x y) pz))
    have e : prd s (dq s x y) pz = pz := by unfold prd; split; exact mlp_pz _; exact pz_mlp _
    rw [e, sbp_pz, dg_pz, dg_one]
    decide
  | n + 1, h => by
    have ih := eu_grow hx hy n (fun m hm => h m (by omega))
    have hB := eu_B hx hy (n + 1) (fun m hm => h m (by omega))
    have d := eu_dec hB (h (n + 1) (by omega))
    refine ⟨?_, d.1⟩
    show dg (eu s x y (n + 1)).2.2.2.1 < dg (sbp (eu s x y (n + 1)).2.2.1 (prd s (dq s (eu s x y (n + 1)).1 (eu s x y (n + 1)).2.1) (eu s x y (n + 1)).2.2.2.1))
    have hd := dg_dv s (hB.1.1.mono (show 9 ≤ 17 by decide)) (hB.1.2.mono (show 9 ≤ 17 by decide)) d.2
    have ih2 := ih.2
    have hq := dg_dq_eq s (hB.1.1.mono (show 9 ≤ 17 by decide)) (hB.1.2.mono (show 9 ≤ 17 by decide)) d.2 (by omega)
    have g0 := dg_ge (eu s x y (n + 1)).2.2.1
    have ih1 := ih.1
    have hp := dg_prd (s := s) (f := dq s (eu s x y (n + 1)).1 (eu s x y (n + 1)).2.1) (g := (eu s x y (n + 1)).2.2.2.1) (hd.1.mono (by decide)) (hB.2.1.2.1.mono (by decide))
    have hp2 := hp.2.1 (by omega) (by omega)
    have h3 := dg_sbp_lt (f := (eu s x y (n + 1)).2.2.1) (g := prd s (dq s (eu s x y (n + 1)).1 (eu s x y (n + 1)).2.1) (eu s x y (n + 1)).2.2.2.1) (hB.2.1.1.mono (by decide)) hp.2.2 (by omega)
    omega
theorem euL_u {k : Nat} {s : Int} {x y : Pl k} (hx : Bd x 9) (hy : Bd y 9) (h : y ≠ pz) : 0 ≤ dg (euL s x y).2.2.2.1 ∧ dg (euL s x y).2.2.2.1 ≤ 8 ∧ 0 ≤ dg (euL s x y).1 := by
  obtain ⟨n, hn⟩ := euE_ex s hx hy
  have hB := euL_B hx hy hn
  have hF := euL_facts hx hy hn
  have h1 := hF.2.2.2 (Or.inr h)
  have h2 := hB.2.2.1.1
  refine ⟨?_, by omega, h1⟩
  rw [euL_eq hn]
  cases n with
  | zero => exact absurd hn.2 h
  | succ n =>
    have h3 := (eu_grow hx hy n hn.1).1
    have h4 := dg_ge (eu s x y (n + 1)).2.2.1
    omega
noncomputable def Tml {k : Nat} (s : Int) (x y : Pl k) : Pl k := prd s (euL s x y).2.2.2.1 x
theorem Tml_dg {k : Nat} {s : Int} {x y : Pl k} (hx : Bd x 9) (hy : Bd y 9) (hx0 : 0 ≤ dg x) (h : y ≠ pz) : 0 ≤ dg (prd s (euL s x y).2.2.2.1 x) ∧ dg (prd s (euL s x y).2.2.2.1 x) ≤ 16 ∧ Bd (prd s (euL s x y).2.2.2.1 x) 17 ∧ dg (mon s (prd s (euL s x y).2.2.2.1 x)) = dg (prd s (euL s x y).2.2.2.1 x) := by
  obtain ⟨n, hn⟩ := euE_ex s hx hy
  have hB := euL_B hx hy hn
  have hu := euL_u hx hy (s := s) h
  have hp := dg_prd (s := s) (f := (euL s x y).2.2.2.1) (g := x) (hB.2.1.2.1.mono (by decide)) (hx.mono (by decide))
  have hp2 := hp.2.1 hu.1 hx0
  have h9 := dg_lt9 hx
  have hb : Bd (prd s (euL s x y).2.2.2.1 x) 17 := dg_bd hp.2.2 (by omega)
  exact ⟨by omega, by omega, hb, dg_mon hb (by decide) (by omega)⟩
theorem prd_as {k : Nat} (s : Int) (f g h : Pl k) : prd s (prd s f g) h = prd s f (prd s g h) := by
  unfold prd
  split
  · exact mlp_assoc f g h
  · exact (mlp_assoc h g f).symm
theorem Bd_prd {k : Nat} {s : Int} {f g : Pl k} {n m : Nat} (hf : Bd f n) (hg : Bd g m) : Bd (prd s f g) (n + m) := by
  unfold prd
  split
  · exact Bd_mlp hf hg
  · rw [Nat.add_comm]; exact Bd_mlp hg hf
theorem prd_one {k : Nat} (s : Int) (f : Pl k) : prd s one f = f := by
  unfold prd
  split
  · exact one_mlp f
  · exact mlp_one f
theorem prd_one2 {k : Nat} (s : Int) (f : Pl k) : prd s f one = f := by
  unfold prd
  split
  · exact mlp_one f
  · exact one_mlp f
theorem prd_pz2 {k : Nat} (s : Int) (f : Pl k) : prd s f pz = pz := by
  unfold prd
  split
  · exact mlp_pz f
  · exact pz_mlp f
theorem prd_adp2 {k : Nat} (s : Int) (f g h : Pl k) : prd s f (adp g h) = adp (prd s f g) (prd s f h) := by
  unfold prd
  split
  · exact mlp_adp f g h
  · exact adp_mlp g h f
/-- g divides x -/
def Dvs {k : Nat} (s : Int) (g x : Pl k) : Prop := ∃ (h : Pl k) (n : Nat), Bd h n ∧ x = prd s h g
theorem Dvs.rf {k : Nat} {s : Int} (g : Pl k) : Dvs s g g := ⟨one, 1, one_bd, (prd_one s g).symm⟩
theorem Dvs.nul {k : Nat} {s : Int} (g : Pl k) : Dvs s g (pz : Pl k) := ⟨pz, 0, fun _ _ => rfl, (prd_pz s g).symm⟩
theorem Dvs.lin {k : Nat} {s : Int} {g x y q r : Pl k} {n : Nat} (h1 : Dvs s g y) (h2 : Dvs s g r) (hq : Bd q n) (e : x = adp (prd s q y) r) : Dvs s g x := by
  obtain ⟨a, m, ha, ea⟩ := h1
  obtain ⟨b, l, hb, eb⟩ := h2
  refine ⟨adp (prd s q a) b, _, Bd_adp (Bd_prd hq ha) hb, ?_⟩
  rw [e, ea, eb, prd_adp, prd_as]
theorem Dvs.tr {k : Nat} {s : Int} {g y x : Pl k} (h1 : Dvs s g y) (h2 : Dvs s y x) : Dvs s g x := by
  obtain ⟨a, m, ha, ea⟩ := h1
  obtain ⟨b, l, hb, eb⟩ := h2
  exact ⟨prd s b a, _, Bd_prd hb ha, by rw [eb, ea, prd_as]⟩
theorem Dvs.rem0 {k : Nat} {s : Int} {g x : Pl k} {b : Nat} (h : Dvs s g x) (hg : IsDg g (b : Int)) : dr s x g = pz := by
  obtain ⟨a, m, ha, ea⟩ := h
  exact (dv_eq (q := a) (r := pz) ⟨⟨m, ha⟩, by rw [adp_pz]; exact ea, b, hg, fun _ _ => rfl⟩).2
theorem cst_prd {k : Nat} (a b : El k) : prd 0 (cst a) (cst b) = cst (ml a b) := by
  show mlp (cst a) (cst b) = _
  rw [cst_mlp]
  funext j
  show ml a (up1 pz 0 b j) = up1 pz 0 (ml a b) j
  unfold up1
  split
  · rfl
  · exact ml_zero a
theorem cst_prdS {k : Nat} (s : Int) (a b : El k) : prd s (cst a) (cst b) = cst (ml a b) := by
  unfold prd
  split
  · exact cst_prd a b
  · rw [ml_comm]; exact cst_prd b a
theorem cst_bd {k : Nat} (a : El k) : Bd (cst a) 1 := fun j hj => by
  show up1 pz 0 a j = z0
  unfold up1
  rw [if_neg (by omega)]
  rfl
theorem mon_c {k : Nat} (s : Int) {f : Pl k} {n : Nat} (h : Bd f n) (hn : n ≤ 64) (h0 : 0 ≤ dg f) : Dvs s f (mon s f) ∧ Dvs s (mon s f) f := by
  have hd := dg_is (h.mono hn)
  have hl : ld f ≠ z0 := by
    have h1 : ld f = f (dg f).toNat := by unfold ld; rw [cf_toNat h0]
    rw [h1]; exact hd.2.2 h0
  obtain ⟨c, hc, e⟩ : ∃ c : El k, c ≠ z0 ∧ mon s f = prd s (cst c) f := by
    by_cases hs : s = 0
    · refine ⟨iv (ld f), iv_ne hl, ?_⟩
      unfold mon prd
      rw [if_pos hs, if_pos hs, cst_mlp]
    · refine ⟨sgI (-(dg f)) (iv (ld f)), sg_ne (iv_ne hl), ?_⟩
      unfold mon prd
      rw [if_neg hs, if_neg hs, mlp_cst]
  refine ⟨⟨_, _, cst_bd c, e⟩, ⟨_, _, cst_bd (iv c), ?_⟩⟩
  rw [e, ← prd_as, cst_prdS, ml_comm, ml_iv _ hc, cst_e1, prd_one]
theorem Bd_dqr {k : Nat} (s : Int) {x y : Pl k} (hx : Bd x 9) (hy : Bd y 9) (h : 0 ≤ dg y) : x = adp (prd s (dq s x y) y) (dr s x y) ∧ Bd (dq s x y) 9 ∧ Bd (dr s x y) 9 ∧ dg (dr s x y) < dg y := by
  have h1 := dv_is s (isdg_dg (hy.mono (by decide)) h) hx
  have h2 := Bd_dq9 s hx hy h
  have h3 := dg_dv s (hx.mono (show 9 ≤ 17 by decide)) (hy.mono (show 9 ≤ 17 by decide)) h
  exact ⟨h1.2.1, h2.1, h2.2, h3.2.1⟩
/-- what the chain ends with divides both -/
theorem eu_dvs {k : Nat} {s : Int} {x y g : Pl k} (hx : Bd x 9) (hy : Bd y 9) : ∀ n : Nat, (∀ m : Nat, m < n → (eu s x y m).2.1 ≠ pz) → Dvs s g (eu s x y n).1 → Dvs s g (eu s x y n).2.1 → Dvs s g x ∧ Dvs s g y
  | 0, _, h1, h2 => ⟨h1, h2⟩
  | n + 1, h, h1, h2 => by
    have hB := eu_B hx hy n (fun m hm => h m (by omega))
    have d := eu_dec hB (h n (by omega))
    have q := Bd_dqr s hB.1.1 hB.1.2 d.2
    exact eu_dvs hx hy n (fun m hm => h m (by omega)) (Dvs.lin h1 h2 q.2.1 q.1) h1
theorem gcd_dvs {k : Nat} (s : Int) {x y : Pl k} (hx : Bd x 9) (hy : Bd y 9) (h : 0 ≤ dg x ∨ 0 ≤ dg y) : Dvs s (mon s (euL s x y).1) x ∧ Dvs s (mon s (euL s x y).1) y ∧ 0 ≤ dg (mon s (euL s x y).1) ∧ Bd (mon s (euL s x y).1) 9 ∧ dg (mon s (euL s x y).1) = dg (euL s x y).1 := by
  obtain ⟨n, hn⟩ := euE_ex s hx hy
  have hB := euL_B hx hy hn
  have hne : x ≠ pz ∨ y ≠ pz := by
    rcases h with h | h
    · exact Or.inl (fun q => by rw [q, dg_pz] at h; omega)
    · exact Or.inr (fun q => by rw [q, dg_pz] at h; omega)
  have h0 := (euL_facts hx hy hn).2.2.2 hne
  have hm := mon_c s hB.1.1 (by decide) h0
  have hd := dg_mon (s := s) hB.1.1 (by decide) h0
  have e2 := hn.2
  have h1 := eu_dvs (g := mon s (euL s x y).1) hx hy n hn.1 (by rw [← euL_eq hn]; exact hm.2) (by rw [e2]; exact Dvs.nul _)
  exact ⟨h1.1, h1.2, by omega, Bd_mon s hB.1.1, hd⟩
/-- with one of them zero -/
theorem gcd_one {k : Nat} (s : Int) {x y : Pl k} (hx : Bd x 9) (hy : Bd y 9) (h : (dg x < 0 ∧ 0 ≤ dg y) ∨ (0 ≤ dg x ∧ dg y < 0)) : dg (euL s x y).1 = max (dg x) (dg y) := by
  rcases h with h | h
  · have ex : x = pz := (dg_neg (hx.mono (by decide))).mp h.1
    have hy0 : y ≠ pz := fun q => by rw [q, dg_pz] at h; omega
    have hE : EuE s x y 1 := by
      refine ⟨fun m hm => ?_, ?_⟩
      · rw [show m = 0 by omega]; exact hy0
      · show dr s x y = pz
        rw [ex]
        exact Dvs.rem0 (Dvs.nul y) (isdg_dg (hy.mono (by decide)) h.2)
    rw [euL_eq hE]
    show dg y = _
    omega
  · have ey : y = pz := (dg_neg (hy.mono (by decide))).mp h.2
    have hE : EuE s x y 0 := ⟨fun m hm => by omega, ey⟩
    rw [euL_eq hE]
    show dg x = _
    omega
/-- what stands on the lower line is made of both -/
theorem eu_com {k : Nat} {s : Int} {x y : Pl k} (hx : Bd x 9) (hy : Bd y 9) : ∀ n : Nat, (∀ m : Nat, m < n → (eu s x y m).2.1 ≠ pz) → (eu s x y n).1 = adp (prd s (eu s x y n).2.2.1 x) (prd s (eu s x y n).2.2.2.2.1 y) ∧ (eu s x y n).2.1 = adp (prd s (eu s x y n).2.2.2.1 x) (prd s (eu s x y n).2.2.2.2.2 y)
  | 0, _ => by
    refine ⟨?_, ?_⟩
    · show x = adp (prd s one x) (prd s pz y)
      rw [prd_one, prd_pz, adp_pz]
    · show y = adp (prd s pz x) (prd s one y)
      rw [prd_one, prd_pz, pz_adp]
  | n + 1, h => by
    have ih := eu_com hx hy n (fun m hm => h m (by omega))
    have hB := eu_B hx hy n (fun m hm => h m (by omega))
    have d := eu_dec hB (h n (by omega))
    have q := (Bd_dqr s hB.1.1 hB.1.2 d.2).1
    refine ⟨ih.2, ?_⟩
    show dr s (eu s x y n).1 (eu s x y n).2.1 = adp (prd s (sbp (eu s x y n).2.2.1 (prd s (dq s (eu s x y n).1 (eu s x y n).2.1) (eu s x y n).2.2.2.1)) x) (prd s (sbp (eu s x y n).2.2.2.2.1 (prd s (dq s (eu s x y n).1 (eu s x y n).2.1) (eu s x y n).2.2.2.2.2)) y)
    have e1 : dr s (eu s x y n).1 (eu s x y n).2.1 = sbp (eu s x y n).1 (prd s (dq s (eu s x y n).1 (eu s x y n).2.1) (eu s x y n).2.1) := by
      have e2 := (congrArg (fun t => sbp t (prd s (dq s (eu s x y n).1 (eu s x y n).2.1) (eu s x y n).2.1)) q).trans (sbp_adp _ _)
      exact e2.symm
    rw [e1]
    generalize dq s (eu s x y n).1 (eu s x y n).2.1 = Q at *
    rw [prd_sbp, prd_sbp, prd_as, prd_as]
    have e3 : prd s Q (eu s x y n).2.1 = adp (prd s Q (prd s (eu s x y n).2.2.2.1 x)) (prd s Q (prd s (eu s x y n).2.2.2.2.2 y)) := by rw [← prd_adp2]; exact congrArg (prd s Q) ih.2
    rw [e3]
    have e4 : ∀ a b c d : Pl k, sbp (adp a b) (adp c d) = adp (sbp a c) (sbp b d) := fun a b c d => by
      funext j
      show ad (ad (a j) (b j)) (ng (ad (c j) (d j))) = ad (ad (a j) (ng (c j))) (ad (b j) (ng (d j)))
      rw [ng_ad, ad_assoc, ad_assoc, ← ad_assoc (b j), ad_comm (b j) (ng (c j)), ad_assoc (ng (c j))]
    rw [← e4]
    exact congrArg (fun t => sbp t _) ih.1
theorem eu_sum {k : Nat} {s : Int} {x y : Pl k} (hx : Bd x 9) (hy : Bd y 9) : ∀ n : Nat, (∀ m : Nat, m < n + 1 → (eu s x y m).2.1 ≠ pz) → dg (eu s x y (n + 1)).2.2.2.1 + dg (eu s x y (n + 1)).1 = dg y
  | 0, h => by
    show dg (sbp one (prd s (dq s x y) pz)) + dg y = dg y
    rw [prd_pz2, sbp_pz, dg_one]
    omega
  | n + 1, h => by
    have ih := eu_sum hx hy n (fun m hm => h m (by omega))
    have gr := eu_grow hx hy n (fun m hm => h m (by omega))
    have hB := eu_B hx hy (n + 1) (fun m hm => h m (by omega))
    have d := eu_dec hB (h (n + 1) (by omega))
    have hd := dg_dv s (hB.1.1.mono (show 9 ≤ 17 by decide)) (hB.1.2.mono (show 9 ≤ 17 by decide)) d.2
    have hq := dg_dq_eq s (hB.1.1.mono (show 9 ≤ 17 by decide)) (hB.1.2.mono (show 9 ≤ 17 by decide)) d.2 (by omega)
    have g0 := dg_ge (eu s x y (n + 1)).2.2.1
    have hp := dg_prd (s := s) (f := dq s (eu s x y (n + 1)).1 (eu s x y (n + 1)).2.1) (g := (eu s x y (n + 1)).2.2.2.1) (hd.1.mono (by decide)) (hB.2.1.2.1.mono (by decide))
    have hp2 := hp.2.1 (by omega) (by omega)
    have h3 := dg_sbp_lt (f := (eu s x y (n + 1)).2.2.1) (g := prd s (dq s (eu s x y (n + 1)).1 (eu s x y (n + 1)).2.1) (eu s x y (n + 1)).2.2.2.1) (hB.2.1.1.mono (by decide)) hp.2.2 (by omega)
    show dg (sbp (eu s x y (n + 1)).2.2.1 (prd s (dq s (eu s x y (n + 1)).1 (eu s x y (n + 1)).2.1) (eu s x y (n + 1)).2.2.2.1)) + dg (eu s x y (n + 1)).2.1 = dg y
    omega
theorem ngp_prd {k : Nat} (s : Int) (f g : Pl k) : prd s (ngp f) g = ngp (prd s f g) := by
  unfold prd
  split
  · exact ngp_mlp f g
  · exact mlp_ngp g f
theorem mul_all {k : Nat} (s : Int) {x y : Pl k} (hx : Bd x 9) (hy : Bd y 9) (hx0 : 0 ≤ dg x) (hy0 : 0 ≤ dg y) : Dvs s x (mon s (prd s (euL s x y).2.2.2.1 x)) ∧ Dvs s y (mon s (prd s (euL s x y).2.2.2.1 x)) ∧ dg (mon s (prd s (euL s x y).2.2.2.1 x)) = dg x + dg y - dg (euL s x y).1 := by
  have hyn : y ≠ pz := fun q => by rw [q, dg_pz] at hy0; omega
  obtain ⟨n, hn⟩ := euE_ex s hx hy
  have hB := euL_B hx hy hn
  have hT := Tml_dg (s := s) hx hy hx0 hyn
  have hu := euL_u (s := s) hx hy hyn
  have hm := mon_c s hT.2.2.1 (by decide) hT.1
  have hp := dg_prd (s := s) (f := (euL s x y).2.2.2.1) (g := x) (hB.2.1.2.1.mono (by decide)) (hx.mono (by decide))
  have hp2 := hp.2.1 hu.1 hx0
  have h1 : Dvs s x (prd s (euL s x y).2.2.2.1 x) := ⟨_, _, hB.2.1.2.1, rfl⟩
  have h2 : Dvs s y (prd s (euL s x y).2.2.2.1 x) := by
    have hc := (eu_com hx hy n hn.1).2
    rw [hn.2, ← euL_eq hn] at hc
    refine ⟨ngp (euL s x y).2.2.2.2.2, _, Bd_ngp hB.2.1.2.2.2, ?_⟩
    rw [ngp_prd]
    have e := (congrArg (fun t => sbp t (prd s (euL s x y).2.2.2.2.2 y)) (hc.trans (adp_comm _ _))).trans (sbp_adp _ _)
    rw [← e]
    exact (pz_adp _)
  refine ⟨h1.tr hm.1, h2.tr hm.1, ?_⟩
  rw [hT.2.2.2, hp2]
  have hs : dg (euL s x y).2.2.2.1 + dg (euL s x y).1 = dg y := by
    rw [euL_eq hn]
    cases n with
    | zero => exact absurd hn.2 hyn
    | succ n => exact eu_sum hx hy n hn.1
  omega
