/-! the monic right divisors: by tries, by their numbers -/
/-- the number of the first d of g -/
def cdp {k : Nat} (g : Pl k) : Nat → Nat
  | 0 => 0
  | d + 1 => cdp g d + (g d).val * unq k d
theorem unq_s (k n : Nat) : unq k (n + 1) = unq k n * qq k := by unfold unq; rw [Nat.pow_succ]
theorem unq_pos (k n : Nat) : 0 < unq k n := Nat.pow_pos (qq_pos k)
theorem cdp_lt {k : Nat} (g : Pl k) : ∀ d : Nat, cdp g d < unq k d
  | 0 => unq_pos k 0
  | d + 1 => by
    have h := cdp_lt g d
    have h2 := (g d).isLt
    have h3 : ((g d).val + 1) * unq k d ≤ qq k * unq k d := Nat.mul_le_mul_right _ h2
    rw [Nat.add_mul, Nat.one_mul] at h3
    rw [unq_s, Nat.mul_comm]
    show cdp g d + _ < _
    omega
theorem cdp_dig {k : Nat} (g : Pl k) : ∀ d j : Nat, j < d → dgn (qq k) (cdp g d) j = (g j).val
  | 0, j, h => by omega
  | d + 1, j, h => by
    have hq := qq_pos k
    by_cases e : j = d
    · subst e
      have h1 := cdp_lt g j
      show (cdp g j + (g j).val * unq k j) / unq k j % qq k = _
      rw [Nat.add_mul_div_right _ _ (unq_pos k j), Nat.div_eq_of_lt h1, Nat.zero_add]
      exact Nat.mod_eq_of_lt (g j).isLt
    · have ih := cdp_dig g d j (by omega)
      rw [← ih]
      have e2 : (g d).val * unq k d = ((g d).val * unq k (d - j - 1) * qq k) * unq k j := by
        unfold unq
        rw [Nat.mul_assoc, Nat.mul_assoc, ← Nat.pow_succ', ← Nat.pow_add, show d - j - 1 + (j + 1) = d by omega]
      show (cdp g d + (g d).val * unq k d) / unq k j % qq k = cdp g d / unq k j % qq k
      rw [e2, Nat.add_mul_div_right _ _ (unq_pos k j), Nat.add_mul_mod_self_right]
theorem cdp_congr {k : Nat} {f g : Pl k} : ∀ {d : Nat}, (∀ j : Nat, j < d → f j = g j) → cdp f d = cdp g d
  | 0, _ => rfl
  | d + 1, h => by
    show cdp f d + (f d).val * _ = cdp g d + (g d).val * _
    rw [cdp_congr (fun j hj => h j (by omega)), h d (by omega)]
theorem cdp_mod {k : Nat} (n c : Nat) : ∀ d : Nat, d ≤ n → cdp (bnp (k := k) n c) d = c % unq k d
  | 0, _ => by show 0 = c % qq k ^ 0; rw [Nat.pow_zero, Nat.mod_one]
  | d + 1, h => by
    have e : (bnp (k := k) n c d).val = dgn (qq k) c d := by
      show (if d < n then el k (dgn (qq k) c d) else z0).val = _
      rw [if_pos (by omega)]
      exact Nat.mod_eq_of_lt (dgq_lt k c d)
    show cdp (bnp (k := k) n c) d + (bnp (k := k) n c d).val * unq k d = c % qq k ^ (d + 1)
    rw [cdp_mod n c d (by omega), e, Nat.mod_pow_succ, Nat.mul_comm]
    rfl
theorem cdp_bnp {k d c : Nat} (h : c < unq k d) : cdp (bnp (k := k) d c) d = c := by rw [cdp_mod d c d (Nat.le_refl _), Nat.mod_eq_of_lt h]
theorem cdp_mnp {k d c : Nat} (h : c < unq k d) : cdp (mnp (k := k) d c) d = c := by
  refine (cdp_congr (fun j hj => ?_)).trans (cdp_bnp h)
  show (if j = d then e1 else bnp d c j) = _
  rw [if_neg (by omega)]
theorem bnp_cdp {k d : Nat} {g : Pl k} (h : Bd g d) : g = bnp d (cdp g d) := by
  funext j
  show g j = if j < d then el k (dgn (qq k) (cdp g d) j) else z0
  by_cases e : j < d
  · rw [if_pos e, cdp_dig g d j e, el_val]
  · rw [if_neg e, h j (by omega)]
theorem mnp_cdp {k d : Nat} {g : Pl k} (h : Mn g d) : g = mnp d (cdp g d) := by
  funext j
  show g j = if j = d then e1 else if j < d then el k (dgn (qq k) (cdp g d) j) else z0
  by_cases e : j = d
  · rw [if_pos e, e, h.2]
  · rw [if_neg e]
    by_cases e2 : j < d
    · rw [if_pos e2, cdp_dig g d j e2, el_val]
    · rw [if_neg e2]; exact h.1.2.1 j (by omega)
theorem mnp_mn {k d c : Nat} : Mn (mnp (k := k) d c) d := ⟨mnp_is, if_pos rfl⟩
theorem mnp_inj {k d a b : Nat} (ha : a < unq k d) (hb : b < unq k d) (h : mnp (k := k) d a = mnp d b) : a = b := by rw [← cdp_mnp (k := k) ha, ← cdp_mnp (k := k) hb, h]
theorem cmpD_lt {k : Nat} (f g : Pl k) : ∀ n : Nat, cmpD f g n < 0 ↔ cdp f n < cdp g n
  | 0 => by show (0 : Int) < 0 ↔ 0 < 0; omega
  | n + 1 => by
    have ih := cmpD_lt f g n
    have h1 := cdp_lt f n
    have h2 := cdp_lt g n
    show (if f n = g n then cmpD f g n else ((f n).val : Int) - ((g n).val : Int)) < 0 ↔ cdp f n + (f n).val * unq k n < cdp g n + (g n).val * unq k n
    by_cases e : f n = g n
    · rw [if_pos e, e]; omega
    · rw [if_neg e]
      have e2 : (f n).val ≠ (g n).val := fun q => e (Fin.ext q)
      by_cases c : (f n).val < (g n).val
      · have h3 : ((f n).val + 1) * unq k n ≤ (g n).val * unq k n := Nat.mul_le_mul_right _ c
        rw [Nat.add_mul, Nat.one_mul] at h3
        omega
      · have h3 : ((g n).val + 1) * unq k n ≤ (f n).val * unq k n := Nat.mul_le_mul_right _ (by omega)
        rw [Nat.add_mul, Nat.one_mul] at h3
        omega
theorem Mn.dg {k d : Nat} {f : Pl k} (h : Mn f d) (hd : d ≤ 16) : dg f = (d : Int) := dg_eq17 ((Bd_is h.1).mono (by omega)) h.1
theorem cmpP_lt {k d : Nat} {f g : Pl k} (hf : Mn f d) (hg : Mn g d) (hd : d ≤ 16) : cmpP f g < 0 ↔ cdp f d < cdp g d := by
  unfold cmpP
  rw [hf.dg hd, hg.dg hd, if_pos rfl, show ((d : Int) + 1).toNat = d + 1 by omega, cmpD_lt]
  show cdp f d + (f d).val * _ < cdp g d + (g d).val * _ ↔ _
  rw [hf.2, hg.2]
  omega
theorem sI_zero {f : Nat → Int} : ∀ {n : Nat}, (∀ i : Nat, i < n → f i = 0) → sI f n = 0
  | 0, _ => rfl
  | n + 1, h => by
    show sI f n + f n = 0
    rw [sI_zero (fun i hi => h i (by omega)), h n (by omega)]
    rfl
theorem sI_out {F : Nat → Int} {c0 : Nat} : ∀ {b : Nat}, c0 < b → sI F b = sI (fun c => if c = c0 then 0 else F c) b + F c0
  | 0, h => by omega
  | b + 1, h => by
    show sI F b + F b = sI (fun c => if c = c0 then 0 else F c) b + (if b = c0 then 0 else F b) + F c0
    by_cases e : b = c0
    · rw [if_pos e, ← e]
      have e2 : sI (fun c => if c = b then 0 else F c) b = sI F b := sI_congr (fun i hi => if_neg (by omega))
      rw [e2]
      omega
    · rw [if_neg e, sI_out (F := F) (show c0 < b by omega)]
      omega
/-- sums over what stands for one another -/
theorem sI_bij {f : Nat → Nat} {b : Nat} : ∀ {a : Nat} {P Q : Nat → Prop} {F G : Nat → Int}, (∀ i : Nat, i < a → ¬ P i → F i = 0) → (∀ c : Nat, c < b → ¬ Q c → G c = 0) → (∀ i : Nat, i < a → P i → f i < b ∧ Q (f i) ∧ G (f i) = F i) → (∀ i j : Nat, i < a → j < a → P i → P j → f i = f j → i = j) → (∀ c : Nat, c < b → Q c → ∃ i : Nat, i < a ∧ P i ∧ f i = c) → sI F a = sI G b
  | 0, P, Q, F, G, _, h2, _, _, h5 => by
    refine (sI_zero (f := G) (n := b) (fun c hc => h2 c hc (fun q => ?_))).symm
    obtain ⟨i, hi, _⟩ := h5 c hc q
    omega
  | a + 1, P, Q, F, G, h1, h2, h3, h4, h5 => by
    show sI F a + F a = _
    by_cases p : P a
    · obtain ⟨g1, g2, g3⟩ := h3 a (by omega) p
      rw [sI_out (F := G) g1, g3]
      have ih := sI_bij (f := f) (b := b) (a := a) (P := P) (Q := fun c => Q c ∧ c ≠ f a) (F := F) (G := fun c => if c = f a then 0 else G c) (fun i hi => h1 i (by omega)) (fun c hc q => by
        show (if c = f a then 0 else G c) = 0
        by_cases e : c = f a
        · rw [if_pos e]
        · rw [if_neg e]; exact h2 c hc (fun q2 => q ⟨q2, e⟩)) (fun i hi pi => by
        obtain ⟨k1, k2, k3⟩ := h3 i (by omega) pi
        have e : f i ≠ f a := fun q => by have := h4 i a (by omega) (by omega) pi p q; omega
        refine ⟨k1, ⟨k2, e⟩, ?_⟩
        show (if f i = f a then 0 else G (f i)) = _
        rw [if_neg e]
        exact k3) (fun i j hi hj => h4 i j (by omega) (by omega)) (fun c hc q => by
        obtain ⟨i, hi, pi, e⟩ := h5 c hc q.1
        refine ⟨i, ?_, pi, e⟩
        by_cases e2 : i = a
        · subst e2; exact absurd e.symm q.2
        · omega)
      rw [ih]
    · rw [h1 a (by omega) p]
      have ih := sI_bij (f := f) (b := b) (a := a) (P := P) (Q := Q) (F := F) (G := G) (fun i hi => h1 i (by omega)) h2 (fun i hi => h3 i (by omega)) (fun i j hi hj => h4 i j (by omega) (by omega)) (fun c hc q => by
        obtain ⟨i, hi, pi, e⟩ := h5 c hc q
        refine ⟨i, ?_, pi, e⟩
        by_cases e2 : i = a
        · subst e2; exact absurd pi p
        · omega)
      rw [ih]
      omega
theorem mc_mnp {k d i : Nat} (h1 : 1 ≤ d) (h2 : d ≤ 2) : mc (k := k) d i = mnp d i := by
  have z : ∀ n : Nat, el k (n % qq k) = el k n := fun n => Fin.ext (Nat.mod_mod _ _)
  funext j
  rcases (show d = 1 ∨ d = 2 by omega) with e | e
  · subst e
    show (if j = 0 then el k (i % qq k) else if j = 1 then e1 else z0) = (if j = 1 then e1 else if j < 1 then el k (i / qq k ^ j % qq k) else z0)
    by_cases c : j = 0
    · rw [if_pos c, if_neg (by omega), if_pos (by omega), c, Nat.pow_zero, Nat.div_one]
    · rw [if_neg c]
      by_cases c1 : j = 1
      · rw [if_pos c1, if_pos c1]
      · rw [if_neg c1, if_neg c1, if_neg (by omega)]
  · subst e
    show (if j = 1 then el k (i / qq k) else if j = 0 then el k (i % qq k) else if j = 2 then e1 else z0) = (if j = 2 then e1 else if j < 2 then el k (i / qq k ^ j % qq k) else z0)
    by_cases c1 : j = 1
    · rw [if_pos c1, if_neg (by omega), if_pos (by omega), c1, Nat.pow_one, z]
    · rw [if_neg c1]
      by_cases c : j = 0
      · rw [if_pos c, if_neg (by omega), if_pos (by omega), c, Nat.pow_zero, Nat.div_one]
      · rw [if_neg c]
        by_cases c2 : j = 2
        · rw [if_pos c2, if_pos c2]
        · rw [if_neg c2, if_neg c2, if_neg (by omega)]
theorem trI_top {k : Nat} {n : Nat} (h : 1 ≤ n) : trI k (n : Int) (n : Int) = 1 := by
  unfold trI
  rw [if_neg (by omega), if_pos rfl]
theorem trI_low {k n d : Nat} (h1 : 1 ≤ d) (h : d = 1 ∨ d + 1 = n) (h2 : d < n) : trI k (n : Int) (d : Int) = (qq k : Int) := by
  unfold trI
  rw [if_neg (by omega), if_neg (by omega), if_pos (by omega)]
theorem trI_mid {k n d : Nat} (h1 : 1 < d) (h : d + 1 < n) : trI k (n : Int) (d : Int) = ((qq k * qq k : Nat) : Int) := by
  unfold trI
  rw [if_neg (by omega), if_neg (by omega), if_neg (by omega), Int.natCast_mul]
/-- a monic right divisor: what it leaves -/
theorem mdq {k n d : Nat} {x g : Pl k} (hx : IsDg x (n : Int)) (hb : Bd x 17) (hg : Mn g d) (h : dr 0 x g = pz) : x = mlp (dq 0 x g) g ∧ d ≤ n ∧ IsDg (dq 0 x g) ((n - d : Nat) : Int) ∧ dq 0 x g (n - d) = x n := by
  obtain ⟨⟨m, hm⟩, e, _⟩ := dv_is 0 hg.1 hb
  rw [h, adp_pz] at e
  have e' : x = mlp (dq 0 x g) g := e
  obtain ⟨h1, h2, h3⟩ := dg_quot hx hg.1 hm e'
  refine ⟨e', h1, h2, ?_⟩
  rw [h3, hg.2, sg_e, ml_one]
theorem mdv {k n d m : Nat} {x q g : Pl k} (hg : IsDg g (d : Int)) (hq : Bd q m) (e : x = mlp q g) : dq 0 x g = q ∧ dr 0 x g = pz := dv_eq (s := 0) (r := pz) ⟨⟨m, hq⟩, by rw [adp_pz]; exact e, d, hg, fun _ _ => rfl⟩
theorem divs_hit {k n d i : Nat} {x : Pl k} (hx : IsDg x (n : Int)) (hb : Bd x 17) (h4 : n ≤ 4) (hi : (i : Int) < trI k (n : Int) (d : Int)) (h : htR x d i) : Mn (htB x d i) d ∧ dr 0 x (htB x d i) = pz ∧ dq 0 x (htB x d i) = htQ x d i := by
  obtain ⟨_, _, _, h1, h2⟩ := trI_ok hi
  have hs := hit_spec hx hb h1 (by omega) h4 h
  have hm := mdv (n := n) hs.1.1 (Bd_is hs.2.1) hs.2.2
  exact ⟨hs.1, hm.2, hm.1⟩
theorem divs_all {k n d : Nat} {x g : Pl k} (hx : IsDg x (n : Int)) (hb : Bd x 17) (h1 : 1 ≤ d) (h4 : n ≤ 4) (hg : Mn g d) (h : dr 0 x g = pz) : ∃ i : Nat, (i : Int) < trI k (n : Int) (d : Int) ∧ htR x d i ∧ htB x d i = g := by
  obtain ⟨e, hd, hq, ht⟩ := mdq hx hb hg h
  have en : dg x = (n : Int) := dg_eq17 hb hx
  have elx := ld_eq hb hx
  have ln : x n ≠ z0 := hx.tp
  by_cases c1 : d = n
  · subst c1
    refine ⟨0, by rw [trI_top h1]; decide, ?_, ?_⟩
    · unfold htR
      rw [if_pos en.symm]
      trivial
    · unfold htB
      rw [if_pos en.symm]
      have e2 : dq 0 x g = cst (x d) := by
        funext j
        show _ = if j = 0 then x d else z0
        by_cases c : j = 0
        · rw [if_pos c, c, ← ht, Nat.sub_self]
        · rw [if_neg c]; exact hq.2.1 j (by omega)
      rw [e2, cst_mlp] at e
      unfold mon
      rw [if_pos rfl, elx]
      have e3 : scl (iv (x d)) x = scl (iv (x d)) (scl (x d) g) := congrArg _ e
      rw [e3, scl_scl, ml_comm, ml_iv _ ln, scl_e1]
  · by_cases c2 : 1 < d ∧ d + 1 = n
    · refine ⟨(dq 0 x g 0).val, ?_, ?_⟩
      · rw [trI_low h1 (Or.inr c2.2) (by omega)]
        have := (dq 0 x g 0).isLt
        omega
      · have e2 : dq 0 x g = lin2 (ld x) (el k (dq 0 x g 0).val) := by
          have e3 := lin2_of (q := dq 0 x g) (fun j hj => hq.2.1 j (by omega))
          rw [show n - d = 1 by omega] at ht
          rw [ht, ← elx] at e3
          rw [el_val]
          exact e3
        have l := lin2_is (b := el k (dq 0 x g 0).val) (show ld x ≠ z0 by rw [elx]; exact ln)
        have e4 : x = mlp (lin2 (ld x) (el k (dq 0 x g 0).val)) g := by rw [← e2]; exact e
        have dv := dv_eq (s := 1) (x := x) (y := lin2 (ld x) (el k (dq 0 x g 0).val)) (q := g) (r := pz) ⟨⟨_, Bd_is hg.1⟩, by rw [adp_pz]; exact e4, 1, l.1, fun _ _ => rfl⟩
        unfold htR htB
        rw [en, if_neg (show ¬ (d : Int) = (n : Int) by omega), if_neg (show ¬ (d : Int) = (n : Int) by omega), if_pos (show 1 < d ∧ (d : Int) = (n : Int) - 1 by omega), if_pos (show 1 < d ∧ (d : Int) = (n : Int) - 1 by omega)]
        exact ⟨dv.2, dv.1⟩
    · have e2 : mc d (cdp g d) = g := by rw [mc_mnp h1 (by omega)]; exact (mnp_cdp hg).symm
      refine ⟨cdp g d, ?_, ?_⟩
      · have l := cdp_lt g d
        unfold unq at l
        rcases (show d = 1 ∨ d = 2 by omega) with q | q
        · rw [q, Nat.pow_one] at l
          rw [trI_low h1 (Or.inl q) (by omega), q]
          omega
        · rw [trI_mid (by omega) (by omega)]
          rw [q, Nat.pow_succ, Nat.pow_one] at l
          rw [q]
          omega
      · unfold htR htB
        rw [en, if_neg (show ¬ (d : Int) = (n : Int) by omega), if_neg (show ¬ (d : Int) = (n : Int) by omega), if_neg (show ¬ (1 < d ∧ (d : Int) = (n : Int) - 1) by omega), if_neg (show ¬ (1 < d ∧ (d : Int) = (n : Int) - 1) by omega), e2]
        exact ⟨h, rfl⟩
theorem divs_inj {k n d i j : Nat} {x : Pl k} (hx : IsDg x (n : Int)) (hb : Bd x 17) (h4 : n ≤ 4) (hi : (i : Int) < trI k (n : Int) (d : Int)) (hj : (j : Int) < trI k (n : Int) (d : Int)) (h : htR x d i) (h' : htR x d j) (e : htB x d i = htB x d j) : i = j := by
  obtain ⟨_, _, _, h1, h2⟩ := trI_ok hi
  have en : dg x = (n : Int) := dg_eq17 hb hx
  have a := divs_hit hx hb h4 hi h
  have b := divs_hit hx hb h4 hj h'
  by_cases c1 : d = n
  · subst c1
    rw [trI_top h1] at hi hj
    omega
  · by_cases c2 : 1 < d ∧ d + 1 = n
    · have e2 : htQ x d i = htQ x d j := by rw [← a.2.2, ← b.2.2, e]
      unfold htQ at e2
      rw [en, if_neg (show ¬ (d : Int) = (n : Int) by omega), if_neg (show ¬ (d : Int) = (n : Int) by omega), if_pos (show 1 < d ∧ (d : Int) = (n : Int) - 1 by omega), if_pos (show 1 < d ∧ (d : Int) = (n : Int) - 1 by omega)] at e2
      rw [trI_low h1 (Or.inr c2.2) (by omega)] at hi hj
      have e3 : el k i = el k j := congrFun e2 0
      have e4 : i % qq k = j % qq k := congrArg Fin.val e3
      rw [Nat.mod_eq_of_lt (by omega), Nat.mod_eq_of_lt (by omega)] at e4
      exact e4
    · unfold htB at e
      rw [en, if_neg (show ¬ (d : Int) = (n : Int) by omega), if_neg (show ¬ (d : Int) = (n : Int) by omega), if_neg (show ¬ (1 < d ∧ (d : Int) = (n : Int) - 1) by omega), if_neg (show ¬ (1 < d ∧ (d : Int) = (n : Int) - 1) by omega), mc_mnp h1 (by omega), mc_mnp h1 (by omega)] at e
      have hu : trI k (n : Int) (d : Int) = (unq k d : Int) := by
        unfold unq
        rcases (show d = 1 ∨ d = 2 by omega) with q | q
        · rw [trI_low h1 (Or.inl q) (by omega), q, Nat.pow_one]
        · rw [trI_mid (by omega) (by omega), q, Nat.pow_succ, Nat.pow_one]
      rw [hu] at hi hj
      exact mnp_inj (by omega) (by omega) e
theorem trN_eq (k : Nat) (n d : Int) : (trN k n d : Int) = trI k n d := by
  have := trI_I k n d
  unfold trN
  omega
/-- a sum over the tries is one over the numbers -/
theorem divs_sum {k n d : Nat} {x : Pl k} (hx : IsDg x (n : Int)) (hb : Bd x 17) (h1 : 1 ≤ d) (h4 : n ≤ 4) {F G : Nat → Int} (hF : ∀ i : Nat, ¬ htR x d i → F i = 0) (hG : ∀ c : Nat, ¬ dr 0 x (mnp d c) = pz → G c = 0) (hFG : ∀ i c : Nat, (i : Int) < trI k (n : Int) (d : Int) → c < unq k d → htR x d i → htB x d i = mnp d c → G c = F i) : sI F (trN k (n : Int) (d : Int)) = sI G (unq k d) := by
  have ht := trN_eq k (n : Int) (d : Int)
  have key : ∀ i : Nat, i < trN k (n : Int) (d : Int) → htR x d i → htB x d i = mnp d (cdp (htB x d i) d) := fun i hi p => mnp_cdp (divs_hit hx hb h4 (by omega) p).1
  refine sI_bij (f := fun i => cdp (htB x d i) d) (P := fun i => htR x d i) (Q := fun c => dr 0 x (mnp d c) = pz) (fun i _ p => hF i p) (fun c _ p => hG c p) (fun i hi p => ?_) (fun i j hi hj p p' e => ?_) (fun c hc q => ?_)
  · have l := cdp_lt (htB x d i) d
    refine ⟨l, ?_, hFG i _ (by omega) l p (key i hi p)⟩
    show dr 0 x (mnp d (cdp (htB x d i) d)) = pz
    rw [← key i hi p]
    exact (divs_hit hx hb h4 (by omega) p).2.1
  · have e2 : cdp (htB x d i) d = cdp (htB x d j) d := e
    exact divs_inj hx hb h4 (by omega) (by omega) p p' (by rw [key i hi p, key j hj p', e2])
  · obtain ⟨i, hi, p, e⟩ := divs_all hx hb h1 h4 mnp_mn q
    refine ⟨i, by omega, p, ?_⟩
    show cdp (htB x d i) d = c
    rw [e, cdp_mnp hc]
theorem svN_sI {k d : Nat} {x : Pl k} : ∀ m : Nat, svN x d m = sI (fun i => bz (htR x d i)) m
  | 0 => rfl
  | m + 1 => by
    show (if bz (htR x d m) = 0 then svN x d m else svN x d m + 1) = sI (fun i => bz (htR x d i)) m + bz (htR x d m)
    rw [svN_sI m]
    rcases bz_01 (htR x d m) with q | q
    · rw [if_pos q, q]; omega
    · rw [if_neg (by omega), q]
theorem svN_num {k n d : Nat} {x : Pl k} (hx : IsDg x (n : Int)) (hb : Bd x 17) (h1 : 1 ≤ d) (h4 : n ≤ 4) : svN x d (trN k (dg x) (d : Int)) = sI (fun c => bz (dr 0 x (mnp d c) = pz)) (unq k d) := by
  rw [dg_eq17 hb hx, svN_sI]
  refine divs_sum hx hb h1 h4 (fun i p => bz_neg p) (fun c p => bz_neg p) (fun i c hi hc p e => ?_)
  rw [bz_pos p, ← e]
  exact bz_pos (divs_hit hx hb h4 hi p).2.1
theorem svB_min {k d : Nat} {x : Pl k} (hd : d ≤ 16) : ∀ m : Nat, (∀ i : Nat, i < m → htR x d i → Mn (htB x d i) d) → svN x d m ≠ 0 → Mn (svB x d m) d ∧ ∀ i : Nat, i < m → htR x d i → cdp (svB x d m) d ≤ cdp (htB x d i) d
  | 0, _, h => absurd rfl h
  | m + 1, hM, h => by
    unfold svN at h
    unfold svB
    by_cases c : bz (htR x d m) = 0
    · rw [if_pos c] at h ⊢
      obtain ⟨h1, h2⟩ := svB_min hd m (fun i hi => hM i (by omega)) h
      refine ⟨h1, fun i hi p => h2 i ?_ p⟩
      by_cases e : i = m
      · rw [e] at p; exact absurd p (bz_no c)
      · omega
    · rw [if_neg c]
      have pm := hM m (by omega) (bz_yes c)
      by_cases c2 : svN x d m = 0
      · rw [if_pos (Or.inl c2)]
        refine ⟨pm, fun i hi p => ?_⟩
        by_cases e : i = m
        · rw [e]; exact Nat.le_refl _
        · exfalso
          have c3 := c2
          rw [svN_sI, sI_out (c0 := i) (show i < m by omega)] at c3
          have c4 : 0 ≤ sI (fun c => if c = i then 0 else (fun i => bz (htR x d i)) c) m := sI_nn fun j _ => by
            show 0 ≤ if j = i then 0 else bz (htR x d j)
            have := bz_01 (htR x d j)
            split <;> omega
          have c5 : bz (htR x d i) = 1 := bz_pos p
          dsimp only at c3 c4
          omega
      · obtain ⟨h1, h2⟩ := svB_min hd m (fun i hi => hM i (by omega)) c2
        have hc := cmpP_lt pm h1 hd
        by_cases c3 : cmpP (htB x d m) (svB x d m) < 0
        · rw [if_pos (Or.inr c3)]
          refine ⟨pm, fun i hi p => ?_⟩
          by_cases e : i = m
          · rw [e]; exact Nat.le_refl _
          · have := h2 i (by omega) p
            have := hc.mp c3
            omega
        · rw [if_neg (fun q => q.elim c2 c3)]
          refine ⟨h1, fun i hi p => ?_⟩
          by_cases e : i = m
          · rw [e]
            have h5 : ¬ cdp (htB x d m) d < cdp (svB x d m) d := fun q => c3 (hc.mpr q)
            omega
          · exact h2 i (by omega) p
/-- the first by ORDER has the least number -/
theorem svB_num {k n d c : Nat} {x : Pl k} (hx : IsDg x (n : Int)) (hb : Bd x 17) (h1 : 1 ≤ d) (h2 : d ≤ n) (h4 : n ≤ 4) (hc : c < unq k d) (hd : dr 0 x (mnp d c) = pz) (hm : ∀ a : Nat, a < c → dr 0 x (mnp d a) ≠ pz) : svN x d (trN k (dg x) (d : Int)) ≠ 0 ∧ svB x d (trN k (dg x) (d : Int)) = mnp d c := by
  have en := dg_eq17 hb hx
  have ht := trN_eq k (n : Int) (d : Int)
  obtain ⟨i, hi, p, e⟩ := divs_all hx hb h1 h4 (mnp_mn (c := c)) hd
  have hn : svN x d (trN k (dg x) (d : Int)) ≠ 0 := by
    rw [en, svN_sI, sI_out (c0 := i) (show i < trN k (n : Int) (d : Int) by omega)]
    have c4 : 0 ≤ sI (fun c => if c = i then 0 else (fun i => bz (htR x d i)) c) (trN k (n : Int) (d : Int)) := sI_nn fun j _ => by
      show 0 ≤ if j = i then 0 else bz (htR x d j)
      have := bz_01 (htR x d j)
      split <;> omega
    have c5 : bz (htR x d i) = 1 := bz_pos p
    dsimp only at c4 ⊢
    omega
  refine ⟨hn, ?_⟩
  obtain ⟨j, j1, j2, j3⟩ := svB_hit hn
  have hj : (j : Int) < trI k (n : Int) (d : Int) := by rw [en] at j1; omega
  have hmn : ∀ i : Nat, i < trN k (dg x) (d : Int) → htR x d i → Mn (htB x d i) d := fun i hi p => (divs_hit hx hb h4 (by rw [en] at hi; omega) p).1
  obtain ⟨m1, m2⟩ := svB_min (by omega) _ hmn hn
  have l := m2 i (by rw [en]; omega) p
  rw [e, cdp_mnp hc] at l
  have hs := divs_hit hx hb h4 hj j2
  have e5 := mnp_cdp m1
  by_cases q : cdp (svB x d (trN k (dg x) (d : Int))) d < c
  · exfalso
    refine hm _ q ?_
    rw [← e5, j3]
    exact hs.2.1
  · rw [e5, show cdp (svB x d (trN k (dg x) (d : Int))) d = c by omega]
theorem prC_M {k n : Nat} {x : Pl k} (hx : IsDg x (n : Int)) (hb : Bd x 17) (h4 : n ≤ 4) : prC x ↔ prM x := by
  have en := dg_eq17 hb hx
  constructor
  · rintro ⟨h1, h2⟩
    refine ⟨h1, fun a c a1 a2 hc q => ?_⟩
    obtain ⟨i, hi, p, e⟩ := divs_all hx hb a1 h4 (mnp_mn (c := c)) q
    exact h2 a i a2 (by rw [en]; exact hi) p
  · rintro ⟨h1, h2⟩
    refine ⟨h1, fun d i d1 hi p => ?_⟩
    rw [en] at hi
    obtain ⟨_, _, _, h5, h6⟩ := trI_ok hi
    have hs := divs_hit hx hb h4 hi p
    refine h2 d (cdp (htB x d i) d) h5 d1 (cdp_lt _ d) ?_
    rw [← mnp_cdp hs.1]
    exact hs.2.1
