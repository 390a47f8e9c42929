/-! the searches' results, as the class finds them */ -/
theorem scl_adp3 {k : Nat} (c : El k) (f g : Pl k) : scl c (adp f g) = adp (scl c f) (scl c g) := by
  funext j
  exact ml_ad _ _ _
theorem scl_z {k : Nat} (c : El k) : scl c (pz : Pl k) = pz := by
  funext j
  exact ml_zero _
theorem scl_pz_iff {k : Nat} {c : El k} (hc : c ≠ z0) {f : Pl k} : scl c f = pz ↔ f = pz := by
  constructor
  · intro h
    have h2 : scl (iv c) (scl c f) = scl (iv c) pz := congrArg _ h
    rw [scl_scl, ml_comm, ml_iv _ hc, scl_e1, scl_z] at h2
    exact h2
  · intro h
    rw [h, scl_z]
theorem scl_dv {k d : Nat} {c : El k} {x g : Pl k} (hb : Bd x 17) (hg : IsDg g (d : Int)) : dq 0 (scl c x) g = scl c (dq 0 x g) ∧ dr 0 (scl c x) g = scl c (dr 0 x g) := by
  obtain ⟨⟨m, hm⟩, e, b, hb2, hr⟩ := dv_is 0 hg hb
  have e' : x = adp (mlp (dq 0 x g) g) (dr 0 x g) := e
  have e2 : scl c x = adp (mlp (scl c (dq 0 x g)) g) (scl c (dr 0 x g)) := by
    rw [scl_mlp, ← scl_adp3, ← e']
  exact dv_eq (s := 0) ⟨⟨m, Bd_scl c hm⟩, e2, b, hb2, Bd_scl c hr⟩
theorem mon0 {k : Nat} (x : Pl k) : mon 0 x = scl (iv (ld x)) x := if_pos rfl
theorem mon_mn {k d : Nat} {g : Pl k} (h : Mn g d) (hd : d ≤ 16) : mon 0 g = g := by
  rw [mon0, ld_eq ((Bd_is h.1).mono (by omega)) h.1, h.2, show iv (e1 : El k) = e1 from (iv_uniq _ _ (ml_one _)).symm, scl_e1]
/-- made monic, it is divided by the same ones -/
theorem mon_dv {k n d : Nat} {x g : Pl k} (hx : IsDg x (n : Int)) (hb : Bd x 17) (hg : IsDg g (d : Int)) : (dr 0 (mon 0 x) g = pz ↔ dr 0 x g = pz) ∧ dq 0 (mon 0 x) g = scl (iv (ld x)) (dq 0 x g) := by
  have hl : ld x ≠ z0 := by rw [ld_eq hb hx]; exact hx.tp
  have h := scl_dv (c := iv (ld x)) hb hg
  rw [mon0, h.1, h.2]
  exact ⟨scl_pz_iff (iv_ne hl), rfl⟩
theorem svN_none {k n d : Nat} {x : Pl k} (hx : IsDg x (n : Int)) (hb : Bd x 17) (h1 : 1 ≤ d) (h4 : n ≤ 4) (h : ∀ c : Nat, c < unq k d → dr 0 x (mnp d c) ≠ pz) : svN x d (trN k (dg x) (d : Int)) = 0 := by
  rw [svN_num hx hb h1 h4]
  exact sI_zero (fun c hc => bz_neg (h c hc))
/-- what the search finds first is the class's next factor -/
theorem ldP_sp {k n e : Nat} {x g : Pl k} (hx : IsDg x (n : Int)) (hb : Bd x 17) (n1 : 1 ≤ n) (h4 : n ≤ 4) (h : ldP (mon 0 x) e g) : lsN x = e ∧ g = svB x (lsN x) (trN k (dg x) (lsN x : Nat)) ∧ (1 ≤ e ∧ e ≤ n) ∧ Mn g e := by
  have en := dg_eq17 hb hx
  have hm := mon_is hb hx
  have em : dg (mon 0 x) = (n : Int) := hm.1.dg (by omega)
  have hno : ∀ a : Nat, 1 ≤ a → a < e → svN x a (trN k (dg x) (a : Int)) = 0 := fun a a1 a2 => svN_none hx hb a1 h4 (fun c hc q => h.1 a c a1 a2 hc ((mon_dv hx hb mnp_is).1.mpr q))
  rcases h.2 with ⟨e1_, e2_⟩ | ⟨e1_, e2_, c, hc, hg, hd, hmin⟩
  · have ee : e = n := by omega
    subst ee
    have t := svN_top en n1
    have hl : lsN x = e := lsN_eq n1 h4 (fun a a1 a2 => hno a a1 a2) (by rw [t.1, t.2]; decide)
    rw [hl, t.1]
    have hs : svB x e 1 = mon 0 x := by
      show (if bz (htR x e 0) = 0 then _ else if svN x e 0 = 0 ∨ _ then htB x e 0 else _) = _
      have p : htR x e 0 := by unfold htR; rw [if_pos en.symm]; trivial
      rw [bz_pos p, if_neg (by decide), if_pos (Or.inl (show svN x e 0 = 0 from rfl))]
      unfold htB
      rw [if_pos en.symm]
    refine ⟨rfl, ?_, ⟨n1, Nat.le_refl _⟩, ?_⟩
    · rw [hs, e2_, mon_mn hm.1 (by omega)]
    · rw [e2_, mon_mn hm.1 (by omega)]; exact hm.1
  · have he : e < n := by omega
    have s := svB_num hx hb e1_ (by omega) h4 hc ((mon_dv hx hb mnp_is).1.mp hd) (fun a ha q => hmin a ha ((mon_dv hx hb mnp_is).1.mpr q))
    have hl : lsN x = e := lsN_eq e1_ (by omega) (fun a a1 a2 => hno a a1 a2) s.1
    rw [hl, s.2]
    exact ⟨rfl, hg, ⟨e1_, by omega⟩, by rw [hg]; exact mnp_mn⟩
/-- and what it leaves, made monic, is the class's rest, made monic -/
theorem sp_mon {k n d : Nat} {x g : Pl k} (hx : IsDg x (n : Int)) (hb : Bd x 17) (hg : Mn g d) (h : dr 0 x g = pz) : dq 0 (mon 0 x) g = mon 0 (dq 0 x g) := by
  obtain ⟨_, _, h3, h4⟩ := mdq hx hb hg h
  rw [(mon_dv hx hb hg.1).2, mon0 (dq 0 x g), ld_eq hb hx]
  have hq : Bd (dq 0 x g) 17 := (Bd_is h3).mono (by
    have h5 := (dg_lt17 hb).2
    have h6 := dg_eq17 hb hx
    omega)
  rw [ld_eq hq h3, h4]
/-! divisors: the reference's count and first -/
theorem dvS_none {k e : Nat} {f : Pl k} {rw_ : Int → Int} : ∀ {c : Nat}, (∀ a : Nat, a < c → dr 0 f (mnp e a) ≠ pz) → dvS f e rw_ c = (0, 0, rw_)
  | 0, _ => rfl
  | c + 1, h => by rw [dvS_0 (bz_neg (h c (by omega))), dvS_none (fun a ha => h a (by omega))]
theorem dvS_some {k e c0 : Nat} {f : Pl k} {rw_ : Int → Int} (h0 : dr 0 f (mnp e c0) = pz) (hm : ∀ a : Nat, a < c0 → dr 0 f (mnp e a) ≠ pz) : ∀ {c : Nat}, c0 < c → 0 < (dvS f e rw_ c).1 ∧ (dvS f e rw_ c).2 = (e + 1, stw (fun m_ : Nat => ((mnp (k := k) e c0 m_).val : Int)) rw_ (e + 1))
  | 0, h => by omega
  | c + 1, h => by
    by_cases q : c = c0
    · subst q
      have z := dvS_none (rw_ := rw_) hm
      rw [dvS_1 (by rw [bz_pos h0]; decide) (by rw [z]), z]
      exact ⟨by show (0 : Int) < 0 + 1; decide, rfl⟩
    · have ih := dvS_some (rw_ := rw_) h0 hm (c := c) (by omega)
      by_cases p : bz (dr 0 f (mnp e c) = pz) = 0
      · rw [dvS_0 p]; exact ih
      · rw [dvS_2 p (by omega)]
        dsimp only
        exact ⟨by omega, ih.2⟩
theorem dvS_cnt {k e : Nat} {f : Pl k} {rw_ : Int → Int} : ∀ c : Nat, (dvS f e rw_ c).1 = sI (fun a => bz (dr 0 f (mnp e a) = pz)) c
  | 0 => rfl
  | c + 1 => by
    show _ = sI (fun a => bz (dr 0 f (mnp e a) = pz)) c + bz (dr 0 f (mnp e c) = pz)
    rw [← dvS_cnt (rw_ := rw_) c]
    rcases bz_01 (dr 0 f (mnp e c) = pz) with p | p
    · rw [dvS_0 p, p]; omega
    · by_cases z : (dvS f e rw_ c).1 = 0
      · rw [dvS_1 (by omega) z, p]
      · rw [dvS_2 (by omega) z, p]
theorem sI_hit {q : Nat → Prop} : ∀ {n : Nat}, sI (fun a => bz (q a)) n ≠ 0 → ∃ c : Nat, c < n ∧ q c ∧ ∀ a : Nat, a < c → ¬ q a
  | 0, h => absurd rfl h
  | n + 1, h => by
    by_cases z : sI (fun a => bz (q a)) n = 0
    · have h2 : sI (fun a => bz (q a)) n + bz (q n) ≠ 0 := h
      rw [z] at h2
      refine ⟨n, by omega, bz_yes (by omega), fun a ha p => ?_⟩
      have c5 : bz (q a) = 1 := bz_pos p
      rw [sI_out ha] at z
      have c4 : 0 ≤ sI (fun c => if c = a then 0 else (fun a => bz (q a)) c) n := sI_nn fun j _ => by
        show 0 ≤ if j = a then 0 else bz (q j)
        have := bz_01 (q j)
        split <;> omega
      dsimp only at z c4
      omega
    · obtain ⟨c, h1, h2, h3⟩ := sI_hit z
      exact ⟨c, by omega, h2, h3⟩
theorem divs_eq {k n e : Nat} {x : Pl k} {rw_ : Int → Int} (hx : IsDg x (n : Int)) (hb : Bd x 17) (h1 : 1 ≤ e) (h2 : e ≤ n) (h4 : n ≤ 4) : (svN x e (trN k (dg x) (e : Int)) = 0 → dvS x e rw_ (unq k e) = (0, 0, rw_)) ∧ (0 < svN x e (trN k (dg x) (e : Int)) → dvS x e rw_ (unq k e) = (svN x e (trN k (dg x) (e : Int)), e + 1, stw (fun m_ : Nat => ((svB x e (trN k (dg x) (e : Int)) m_).val : Int)) rw_ (e + 1))) := by
  have en := svN_num hx hb h1 h4
  constructor
  · intro z
    rw [en] at z
    refine dvS_none (fun a ha p => ?_)
    have c5 : bz (dr 0 x (mnp e a) = pz) = 1 := bz_pos p
    rw [sI_out ha] at z
    have c4 : 0 ≤ sI (fun c => if c = a then 0 else (fun c => bz (dr 0 x (mnp e c) = pz)) c) (unq k e) := sI_nn fun j _ => by
      show 0 ≤ if j = a then 0 else bz (dr 0 x (mnp e j) = pz)
      have := bz_01 (dr 0 x (mnp e j) = pz)
      split <;> omega
    dsimp only at z c4
    omega
  · intro z
    rw [en] at z
    obtain ⟨c, c1, c2, c3⟩ := sI_hit (q := fun c => dr 0 x (mnp e c) = pz) (n := unq k e) (by omega)
    have s := svB_num hx hb h1 h2 h4 c1 c2 c3
    have d := dvS_some (rw_ := rw_) c2 c3 c1
    rw [s.2, en, ← dvS_cnt (rw_ := rw_), ← d.2]
theorem svN_high {k n e : Nat} {x : Pl k} (hx : dg x = (n : Int)) (h : n < e) : svN x e (trN k (dg x) (e : Int)) = 0 := by
  have t : trN k (dg x) (e : Int) = 0 := by
    unfold trN trI
    rw [hx, if_pos (by omega)]
    rfl
  rw [t]
  rfl
/-! ways: the leading number does not matter; by numbers -/
/-- what number c adds -/
noncomputable def wyG {k : Nat} (m : Nat) (x : Pl k) (d c : Nat) : Int := if bz (dr 0 x (mnp d c) = pz) = 0 then 0 else if bz (prM (mnp (k := k) d c)) = 0 then 0 else wyC m (dq 0 x (mnp d c))
noncomputable def wyF {k : Nat} (m : Nat) (x : Pl k) (d i : Nat) : Int := if bz (htR x d i) = 0 then 0 else if bz (prC (htB x d i)) = 0 then 0 else wyC m (htQ x d i)
theorem wy_sum {k n m d : Nat} {x : Pl k} (hx : IsDg x (n : Int)) (hb : Bd x 17) (h1 : 1 ≤ d) (h4 : n ≤ 4) : sI (wyF m x d) (trN k (dg x) (d : Int)) = sI (wyG m x d) (unq k d) := by
  rw [dg_eq17 hb hx]
  refine divs_sum hx hb h1 h4 (fun i p => if_pos (bz_neg p)) (fun c p => if_pos (bz_neg p)) (fun i c hi hc p e => ?_)
  have hs := divs_hit hx hb h4 hi p
  obtain ⟨_, _, _, _, h5⟩ := trI_ok hi
  have hp : prC (htB x d i) ↔ prM (htB x d i) := prC_M hs.1.1 ((Bd_is hs.1.1).mono (by omega)) (by omega)
  unfold wyG wyF
  rw [← e, bz_pos p, bz_pos hs.2.1, bz_congr hp, hs.2.2]
theorem wy_scl {k : Nat} : ∀ (m : Nat) {n : Nat} {c : El k} {x : Pl k}, IsDg x (n : Int) → Bd x 17 → n ≤ 4 → c ≠ z0 → wyC m (scl c x) = wyC m x
  | 0, _, _, _, _, _, _, _ => rfl
  | m + 1, n, c, x, hx, hb, h4, hc => by
    have hx2 := scl_is hc hx
    have hb2 := Bd_scl c hb
    rw [wyC_s, wyC_s, dg_eq17 hb2 hx2, dg_eq17 hb hx]
    split
    · rfl
    · refine sI_congr (fun d hd => ?_)
      have s1 := wy_sum (m := m) (d := d + 1) hx2 hb2 (by omega) h4
      have s2 := wy_sum (m := m) (d := d + 1) hx hb (by omega) h4
      rw [dg_eq17 hb2 hx2] at s1
      rw [dg_eq17 hb hx] at s2
      refine s1.trans (Eq.trans ?_ s2.symm)
      refine sI_congr (fun a ha => ?_)
      unfold wyG
      have h := scl_dv (c := c) (g := mnp (k := k) (d + 1) a) hb mnp_is
      rw [h.1, h.2, bz_congr (scl_pz_iff hc)]
      by_cases p : dr 0 x (mnp (d + 1) a) = pz
      · obtain ⟨_, q2, q3, _⟩ := mdq hx hb mnp_mn p
        rw [wy_scl m q3 ((Bd_is q3).mono (by omega)) (by omega) hc]
      · rw [if_pos (bz_neg p), if_pos (bz_neg p)]
theorem wy_0 {k m : Nat} {x : Pl k} (h : dg x < 2) : wyC m x = 1 := by
  cases m with
  | zero => rfl
  | succ m => rw [wyC_s, if_pos h]
/-- the top degree adds one, for a prime -/
theorem wy_top {k n m : Nat} {x : Pl k} (hx : IsDg x (n : Int)) (hb : Bd x 17) (h1 : 1 ≤ n) (h4 : n ≤ 4) (hm : Mn x n) : sI (wyF m x n) (trN k (dg x) (n : Int)) = bz (prM x) := by
  have en := dg_eq17 hb hx
  rw [(svN_top en h1).1]
  show 0 + wyF m x n 0 = _
  have p : htR x n 0 := by unfold htR; rw [if_pos en.symm]; trivial
  have e1_ : htB x n 0 = x := by unfold htB; rw [if_pos en.symm]; exact mon_mn hm (by omega)
  have e2_ : htQ x n 0 = cst (ld x) := by unfold htQ; rw [if_pos en.symm]
  have c0 : dg (cst (ld x)) < 2 := by
    have := dg_lt (f := cst (ld x)) (n := 1) (fun j hj => by show (if j = 0 then _ else z0) = z0; rw [if_neg (by omega)]) (by decide)
    omega
  unfold wyF
  rw [bz_pos p, e1_, e2_, bz_congr (prC_M hx hb h4), wy_0 c0, if_neg (by decide)]
  rcases bz_01 (prM x) with q | q
  · rw [if_pos q, q]; rfl
  · rw [if_neg (by omega), q]; rfl
/-- a linear one is prime -/
theorem prM_1 {k : Nat} {x : Pl k} (h : dg x = 1) : prM x := ⟨by omega, fun a c a1 a2 => by omega⟩
/-- the sum over all degrees -/
theorem wy_all {k n m : Nat} {x : Pl k} (hx : IsDg x (n : Int)) (hb : Bd x 17) (h1 : 1 ≤ n) (h4 : n ≤ 4) (hm : Mn x n) : wyC (m + 1) x = sI (fun d => sI (wyF m x (d + 1)) (trN k (dg x) ((d + 1 : Nat) : Int))) n := by
  have en := dg_eq17 hb hx
  rw [wyC_s]
  by_cases c : dg x < 2
  · rw [if_pos c]
    have e : n = 1 := by omega
    subst e
    show _ = 0 + sI (wyF m x 1) (trN k (dg x) ((1 : Nat) : Int))
    rw [wy_top hx hb h1 h4 hm, bz_pos (prM_1 en)]
    rfl
  · rw [if_neg c, en, show ((n : Int)).toNat = n by omega]
    rfl
