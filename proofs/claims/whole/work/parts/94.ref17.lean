/-! the reference: asks, the least divisor, primes, central ones, the first way */ -/
/-- the monic right divisor that the search finds first, and its degree -/
def ldP {k : Nat} (f : Pl k) (e : Nat) (g : Pl k) : Prop := (∀ a c : Nat, 1 ≤ a → a < e → c < unq k a → dr 0 f (mnp a c) ≠ pz) ∧ (((e : Int) = dg f ∧ g = mon 0 f) ∨ (1 ≤ e ∧ (e : Int) < dg f ∧ ∃ c : Nat, c < unq k e ∧ g = mnp e c ∧ dr 0 f (mnp e c) = pz ∧ ∀ c_ : Nat, c_ < c → dr 0 f (mnp e c_) ≠ pz))
/-- no monic right divisor of less degree, but 1 -/
def prM {k : Nat} (f : Pl k) : Prop := 0 < dg f ∧ ∀ a c : Nat, 1 ≤ a → (a : Int) < dg f → c < unq k a → dr 0 f (mnp a c) ≠ pz
theorem ldP.pr {k : Nat} {f : Pl k} {e : Nat} {g : Pl k} (h : ldP f e g) (h0 : 0 < dg f) : (e : Int) = dg f ↔ prM f := by
  constructor
  · intro q
    exact ⟨h0, fun a c h1 h2 h3 => h.1 a c h1 (by omega) h3⟩
  · intro q
    rcases h.2 with r | ⟨r1, r2, c, r3, r4, r5, r6⟩
    · exact r.1
    · exact absurd r5 (q.2 e c r1 r2 r3)
/-- U of number c: B divides A U, and only units divide U and B -/
def wyP {k : Nat} (A B : Pl k) (n c : Nat) : Prop := dr 0 (mlp A (bnp n c)) B = pz ∧ dg (euL 0 (bnp n c) B).1 = 0
noncomputable def fwN {k : Nat} (A B : Pl k) (n : Nat) : Nat := fsN (fun c => wyP A B n (c + 1)) (unq k n - 1)
noncomputable def fwI {k : Nat} (A B : Pl k) (n : Nat) : Int := if fwN A B n < unq k n - 1 then (fwN A B n : Int) + 1 else -1
theorem fwI_at {k : Nat} {A B : Pl k} {n c : Nat} (h1 : 1 ≤ c) (h2 : c < unq k n) (h : ∀ a : Nat, 1 ≤ a → a < c → ¬ wyP A B n a) (hc : wyP A B n c) : fwI A B n = (c : Int) := by
  have e := fsN_at (q := fun c => wyP A B n (c + 1)) (j := c - 1) (fun i hi => h (i + 1) (by omega) (by omega)) (by show wyP A B n (c - 1 + 1); rw [show c - 1 + 1 = c by omega]; exact hc) (n := unq k n - 1) (by omega)
  have e2 : fwN A B n = c - 1 := e
  unfold fwI
  rw [e2, if_pos (by omega)]
  omega
theorem fwI_none {k : Nat} {A B : Pl k} {n : Nat} (h : ∀ a : Nat, 1 ≤ a → a < unq k n → ¬ wyP A B n a) : fwI A B n = -1 := by
  have e := fsN_none (q := fun c => wyP A B n (c + 1)) (n := unq k n - 1) (fun i hi => h (i + 1) (by omega) (by omega))
  have e2 : fwN A B n = unq k n - 1 := e
  unfold fwI
  rw [e2, if_neg (by omega)]
set_option maxRecDepth 100000 in
theorem r_ask {d : Nat} {M : Mem} {k : Nat} {R : Int → Option (Pl k)} (C : RS M k R) {pl : Nat → Pl k} (hpl : PM M pl) (i : Nat) (hi : i < 6) (v : Int) (hv : (dg (pl i) = -1 ∧ v = -2) ∨ (4 < dg (pl i) ∧ v = -3) ∨ (0 ≤ dg (pl i) ∧ dg (pl i) ≤ 4 ∧ v = dg (pl i))) : Ct 198 (d + 2) 277 [(1, 161), (0, (i : Int))] M (fun r_ M' => ∃ R' : Int → Option (Pl k), r_ = (0, v) ∧ RS M' k R' ∧ (∀ a : Int, (∀ p : Int, isR p → a ≠ p) → M' a = M a) ∧ (∀ p : Int, p ≠ 180 → R' p = R p) ∧ R' 180 = some (pl i)) := by
  have hK : cd 277 = k277 := rfl
  have dI_ := dg_lt9 (hpl i hi).2
  show Wp 198 _ 277 0 [(1, 161), (0, (i : Int)), (3, 0)] [] M _
  refine w_il hK rfl rfl ?_
  refine w_call [(0, (i : Int))] hK rfl rfl rfl rfl (Or.inl rfl) (r_place (i : Int) (by omega) (by omega)) ?_
  rintro _ Mq ⟨rfl, e_⟩
  subst Mq
  have pI_574 := ite01 (0 ≤ (i : Int) ∧ (i : Int) < 6)
  refine ⟨by show (0 : Nat) ≠ 9; decide, (?_ : Wp 198 _ 277 2 [(1, 161), (0, (i : Int)), (3, 0)] [(0, (if 0 ≤ (i : Int) ∧ (i : Int) < 6 then 1 else 0))] M _)⟩
  refine w_ne hK rfl (by omega) (by omega) (fun h2 => ?_) (fun h2 => ?_)
  · refine w_al hK rfl rfl ?_
    refine w_il hK rfl rfl ?_
    refine w_al hK rfl rfl ?_
    refine w_getr (n := 26) (v := 180) hK rfl rfl (by decide) (by decide) rfl rfl rfl rfl ?_
    refine w_call [(1, 161), (0, (i : Int)), (1, 180)] hK rfl rfl rfl rfl (Or.inr ⟨_, _, _, rfl, by decide, (by decide), rfl⟩) (r_load C hpl i hi (isR_of (p := 180) rfl)) ?_
    rintro _ V575 ⟨P575, rfl, C575, S575, F575, f575_0⟩
    refine ⟨by decide, (?_ : Wp 198 _ 277 10 [(1, 161), (0, (i : Int)), (3, 0)] [] V575 _)⟩
    refine w_al hK rfl rfl ?_
    refine w_getr (n := 26) (v := 180) hK rfl rfl (by decide) (by decide) rfl rfl rfl rfl ?_
    have dI_ : -1 ≤ dg (pl i) ∧ dg (pl i) ≤ 47 := C575.dI ⟨(isR_of (p := 180) rfl), f575_0⟩
    refine w_call [(1, 180)] hK rfl rfl rfl rfl (Or.inl rfl) (r_deg C575 ⟨(isR_of (p := 180) rfl), f575_0⟩) ?_
    rintro _ Mq ⟨rfl, e_⟩
    subst Mq
    refine ⟨by show (0 : Nat) ≠ 9; decide, (?_ : Wp 198 _ 277 13 [(1, 161), (0, (i : Int)), (3, 0)] [(0, (dg (pl i)))] V575 _)⟩
    refine w_is [(1, 161), (0, (i : Int)), (0, (dg (pl i)))] hK rfl rfl rfl ?_
    refine w_il hK rfl rfl ?_
    refine w_ic hK rfl ?_
    refine w_ne2 hK rfl (by omega) (by omega) (by omega) (by omega) (fun h16 => ?_) (fun h16 => ?_)
    · refine w_il hK rfl rfl ?_
      refine w_ic hK rfl ?_
      refine w_le2 hK rfl (by omega) (by omega) (by omega) (by omega) (fun h21 => ?_) (fun h21 => ?_)
      · refine w_il hK rfl rfl ?_
        refine w_iret hK rfl rfl ?_
        exact ⟨_, congrArg (Prod.mk 0) (by omega), C575, (fun a nr_ => (S575 a nr_)), (fun p pn180_ => (F575 p pn180_)), f575_0⟩
      · refine w_ic hK rfl ?_
        refine w_goto hK rfl ?_
        refine w_iret hK rfl rfl ?_
        exact ⟨_, congrArg (Prod.mk 0) (by omega), C575, (fun a nr_ => (S575 a nr_)), (fun p pn180_ => (F575 p pn180_)), f575_0⟩
    · refine w_ic hK rfl ?_
      refine w_goto hK rfl ?_
      refine w_iret hK rfl rfl ?_
      exact ⟨_, congrArg (Prod.mk 0) (by omega), C575, (fun a nr_ => (S575 a nr_)), (fun p pn180_ => (F575 p pn180_)), f575_0⟩
  · exfalso; omega
set_option maxRecDepth 100000 in
theorem r_askN {d : Nat} {M : Mem} (i : Int) (i1_ : -2147483648 ≤ i) (i2_ : i ≤ 2147483647) (hn : ¬ (0 ≤ i ∧ i < 6)) : Ct 198 (d + 2) 277 [(1, 161), (0, i)] M (fun r_ M' => r_ = (0, -1) ∧ M' = M) := by
  have hK : cd 277 = k277 := rfl
  show Wp 198 _ 277 0 [(1, 161), (0, i), (3, 0)] [] M _
  refine w_il hK rfl rfl ?_
  refine w_call [(0, i)] hK rfl rfl rfl rfl (Or.inl rfl) (r_place i (by omega) (by omega)) ?_
  rintro _ Mq ⟨rfl, e_⟩
  subst Mq
  have pI_576 := ite01 (0 ≤ i ∧ i < 6)
  refine ⟨by show (0 : Nat) ≠ 9; decide, (?_ : Wp 198 _ 277 2 [(1, 161), (0, i), (3, 0)] [(0, (if 0 ≤ i ∧ i < 6 then 1 else 0))] M _)⟩
  refine w_ne hK rfl (by omega) (by omega) (fun h2 => ?_) (fun h2 => ?_)
  · exfalso; omega
  · refine w_ic hK rfl ?_
    refine w_iret hK rfl rfl ?_
    exact ⟨rfl, rfl⟩
set_option maxRecDepth 100000 in
theorem r_ld {d : Nat} {M : Mem} {k : Nat} {R : Int → Option (Pl k)} (C : RS M k R) {x : Int} {f_x : Pl k} (hx : isK R x f_x) {n : Nat} (hn : dg f_x = (n : Int)) (n1 : 1 ≤ n) (n4 : n ≤ 4) (hx_ : (174 < x ∧ x < 188) ∨ 188 < x) (bx9 : Bd f_x 9) : Ct 198 (d + 4) 283 [(1, 161), (1, x)] M (fun r_ M' => ∃ (e_ : Nat) (g_ : Pl k) (R' : Int → Option (Pl k)), ldP f_x e_ g_ ∧ r_ = (0, (e_ : Int)) ∧ RS M' k R' ∧ (∀ a : Int, (∀ p : Int, isR p → a ≠ p) → M' a = M a) ∧ (∀ p : Int, p ≠ 170 → p ≠ 171 → p ≠ 172 → p ≠ 173 → p ≠ 174 → p ≠ 188 → R' p = R p) ∧ R' 188 = some g_) := by
  have hK : cd 283 = k283 := rfl
  show Wp 198 _ 283 0 [(1, 161), (1, x), (3, 0), (3, 0), (3, 0)] [] M _
  refine w_al hK rfl rfl ?_
  have dI_ : -1 ≤ dg f_x ∧ dg f_x ≤ 47 := C.dI hx
  refine w_call [(1, x)] hK rfl rfl rfl rfl (Or.inl rfl) (r_deg C hx) ?_
  rintro _ Mq ⟨rfl, e_⟩
  subst Mq
  refine ⟨by show (0 : Nat) ≠ 9; decide, (?_ : Wp 198 _ 283 2 [(1, 161), (1, x), (3, 0), (3, 0), (3, 0)] [(0, (dg f_x))] M _)⟩
  rw [hn]
  refine w_is [(1, 161), (1, x), (0, (n : Int)), (3, 0), (3, 0)] hK rfl rfl rfl ?_
  refine w_ic hK rfl ?_
  refine w_is [(1, 161), (1, x), (0, (n : Int)), (0, 1), (3, 0)] hK rfl rfl rfl ?_
  have lp5 : ∀ (n_ : Nat) (e : Nat) (R1 : Int → Option (Pl k)) (w4 : AV) (N5 : Mem), 5 - e = n_ → (1 ≤ e ∧ e ≤ n) → (∀ a c : Nat, 1 ≤ a → a < e → c < unq k a → dr 0 f_x (mnp a c) ≠ pz) → (RS N5 k R1) → ((∀ p : Int, p ≠ 170 → p ≠ 171 → p ≠ 172 → p ≠ 173 → p ≠ 174 → p ≠ 188 → R1 p = R p)) → ((∀ a : Int, (∀ p : Int, isR p → a ≠ p) → N5 a = M a)) → Wp 198 (d + 4) 283 5 [(1, 161), (1, x), (0, (n : Int)), (0, (e : Int)), w4] [] N5 (fun r_ M' => ∃ (e_ : Nat) (g_ : Pl k) (R' : Int → Option (Pl k)), ldP f_x e_ g_ ∧ r_ = (0, (e_ : Int)) ∧ RS M' k R' ∧ (∀ a : Int, (∀ p : Int, isR p → a ≠ p) → M' a = M a) ∧ (∀ p : Int, p ≠ 170 → p ≠ 171 → p ≠ 172 → p ≠ 173 → p ≠ 174 → p ≠ 188 → R' p = R p) ∧ R' 188 = some g_) := by
    intro n_
    induction n_ using Nat.strongRecOn with
    | _ n_ ih5 =>
    intro e R1 w4 N5 hm5 he hn1 hC hG hS
    have u4_ := unq_4 (k := k) (s := e) (by omega)
    refine w_il hK rfl rfl ?_
    refine w_il hK rfl rfl ?_
    refine w_ge2 hK rfl (by omega) (by omega) (by omega) (by omega) (fun h7 => ?_) (fun h7 => ?_)
    · refine w_al hK rfl rfl ?_
      refine w_al hK rfl rfl ?_
      refine w_getr (n := 36) (v := 188) hK rfl rfl (by decide) (by decide) rfl rfl rfl rfl ?_
      refine w_call [(1, x), (1, 188)] hK rfl rfl rfl rfl (Or.inl rfl) (r_copy hC ⟨hx.1, ((hG x (by omega) (by omega) (by omega) (by omega) (by omega) (by omega)).trans hx.2)⟩ (isR_of (p := 188) rfl) (by omega)) ?_
      rintro _ V577 ⟨P577, rfl, C577, S577, F577, f577_0⟩
      refine ⟨by decide, (?_ : Wp 198 _ 283 38 [(1, 161), (1, x), (0, (n : Int)), (0, (e : Int)), w4] [] V577 _)⟩
      refine w_al hK rfl rfl ?_
      refine w_al hK rfl rfl ?_
      refine w_getr (n := 36) (v := 188) hK rfl rfl (by decide) (by decide) rfl rfl rfl rfl ?_
      refine w_ic hK rfl ?_
      refine w_call [(1, 161), (1, 188), (0, 0)] hK rfl rfl rfl rfl (Or.inr ⟨_, _, _, rfl, by decide, (by decide), rfl⟩) (r_mon C577 ⟨(isR_of (p := 188) rfl), f577_0⟩ (by omega) (by omega) 0 (by omega)) ?_
      rintro _ V578 ⟨P578, rfl, C578, S578, F578, f578_0⟩
      refine ⟨by decide, (?_ : Wp 198 _ 283 43 [(1, 161), (1, x), (0, (n : Int)), (0, (e : Int)), w4] [] V578 _)⟩
      refine w_il hK rfl rfl ?_
      refine w_iret hK rfl rfl ?_
      exact ⟨n, _, _, ⟨fun a c_ h1 h2 h3 => hn1 a c_ h1 (by omega) h3, Or.inl ⟨by omega, rfl⟩⟩, rfl, C578, (fun a nr_ => ((S578 a nr_).trans ((S577 a nr_).trans (hS a nr_)))), (fun p pn170_ pn171_ pn172_ pn173_ pn174_ pn188_ => ((F578 p pn188_).trans ((F577 p pn188_).trans (hG p pn170_ pn171_ pn172_ pn173_ pn174_ pn188_)))), f578_0⟩
    · refine w_ic hK rfl ?_
      refine w_is [(1, 161), (1, x), (0, (n : Int)), (0, (e : Int)), (0, 0)] hK rfl rfl rfl ?_
      have lp10 : ∀ (n_ : Nat) (c : Nat) (R2 : Int → Option (Pl k)) (N10 : Mem), 65537 - c = n_ → (c ≤ unq k e) → (∀ c_ : Nat, c_ < c → dr 0 f_x (mnp e c_) ≠ pz) → (RS N10 k R2) → ((∀ p : Int, p ≠ 170 → p ≠ 171 → p ≠ 172 → p ≠ 173 → p ≠ 174 → p ≠ 188 → R2 p = R p)) → ((∀ a : Int, (∀ p : Int, isR p → a ≠ p) → N10 a = M a)) → Wp 198 (d + 4) 283 10 [(1, 161), (1, x), (0, (n : Int)), (0, (e : Int)), (0, (c : Int))] [] N10 (fun r_ M' => ∃ (e_ : Nat) (g_ : Pl k) (R' : Int → Option (Pl k)), ldP f_x e_ g_ ∧ r_ = (0, (e_ : Int)) ∧ RS M' k R' ∧ (∀ a : Int, (∀ p : Int, isR p → a ≠ p) → M' a = M a) ∧ (∀ p : Int, p ≠ 170 → p ≠ 171 → p ≠ 172 → p ≠ 173 → p ≠ 174 → p ≠ 188 → R' p = R p) ∧ R' 188 = some g_) := by
        intro n_
        induction n_ using Nat.strongRecOn with
        | _ n_ ih10 =>
        intro c R2 N10 hm10 hc hn2 hC2 hG2 hS2
        refine w_il hK rfl rfl ?_
        refine w_al hK rfl rfl ?_
        refine w_il hK rfl rfl ?_
        refine w_call [(1, 161), (0, (e : Int))] hK rfl rfl rfl rfl (Or.inr ⟨_, _, _, rfl, by decide, (by decide), rfl⟩) (r_count hC2.F e (by omega)) ?_
        rintro _ Mq ⟨rfl, e_⟩
        subst Mq
        refine ⟨by show (0 : Nat) ≠ 9; decide, (?_ : Wp 198 _ 283 14 [(1, 161), (1, x), (0, (n : Int)), (0, (e : Int)), (0, (c : Int))] [(0, (unq k e : Int)), (0, (c : Int))] N10 _)⟩
        refine w_ge2 hK rfl (by omega) (by omega) (by omega) (by omega) (fun h14 => ?_) (fun h14 => ?_)
        · refine w_inc [(1, 161), (1, x), (0, (n : Int)), (0, ((e : Int) + 1)), (0, (c : Int))] hK rfl rfl rfl (by omega) (by omega) rfl ?_
          refine w_goto hK rfl ?_
          exact ih5 _ (by omega) (e + 1) _ (0, (c : Int)) N10 rfl (by omega) (fun a c_ h1 h2 h3 => by
            by_cases q_ : a = e
            · subst a; exact hn2 c_ (by omega)
            · exact hn1 a c_ h1 (by omega) h3) hC2 (fun p pn170_ pn171_ pn172_ pn173_ pn174_ pn188_ => (hG2 p pn170_ pn171_ pn172_ pn173_ pn174_ pn188_)) (fun a nr_ => (hS2 a nr_))
        · refine w_al hK rfl rfl ?_
          refine w_il hK rfl rfl ?_
          refine w_il hK rfl rfl ?_
          refine w_al hK rfl rfl ?_
          refine w_getr (n := 36) (v := 188) hK rfl rfl (by decide) (by decide) rfl rfl rfl rfl ?_
          refine w_call [(1, 161), (0, (e : Int)), (0, (c : Int)), (1, 188)] hK rfl rfl rfl rfl (Or.inr ⟨_, _, _, rfl, by decide, (by decide), rfl⟩) (r_mof hC2 (isR_of (p := 188) rfl) e c (by omega) (by omega)) ?_
          rintro _ V579 ⟨P579, rfl, C579, S579, F579, f579_0⟩
          refine ⟨by decide, (?_ : Wp 198 _ 283 21 [(1, 161), (1, x), (0, (n : Int)), (0, (e : Int)), (0, (c : Int))] [] V579 _)⟩
          refine w_al hK rfl rfl ?_
          refine w_al hK rfl rfl ?_
          refine w_al hK rfl rfl ?_
          refine w_getr (n := 36) (v := 188) hK rfl rfl (by decide) (by decide) rfl rfl rfl rfl ?_
          refine w_ic hK rfl ?_
          have dm_ := mnp_dg (k := k) (n := e) (c := c) (by omega)
          refine w_call [(1, 161), (1, x), (1, 188), (0, 0)] hK rfl rfl rfl rfl (Or.inr ⟨_, _, _, rfl, by decide, (by decide), rfl⟩) (r_isdv C579 ⟨hx.1, ((F579 x (by omega)).trans ((hG2 x (by omega) (by omega) (by omega) (by omega) (by omega) (by omega)).trans hx.2))⟩ ⟨(isR_of (p := 188) rfl), f579_0⟩ 0 (by omega) (by omega) (by omega) (by omega) (bx9.mono (by decide)) (mnp_bd.mono (by omega))) ?_
          rintro _ V580 ⟨P580, rfl, C580, S580, F580, f580_0, f580_1⟩
          have bv_ := bz_01 (dr 0 f_x (mnp e c) = pz)
          refine ⟨by show (0 : Nat) ≠ 9; decide, (?_ : Wp 198 _ 283 27 [(1, 161), (1, x), (0, (n : Int)), (0, (e : Int)), (0, (c : Int))] [(0, (bz (dr 0 f_x (mnp e c) = pz)))] V580 _)⟩
          refine w_eq hK rfl (by omega) (by omega) (fun h27 => ?_) (fun h27 => ?_)
          · refine w_inc [(1, 161), (1, x), (0, (n : Int)), (0, (e : Int)), (0, ((c : Int) + 1))] hK rfl rfl rfl (by omega) (by omega) rfl ?_
            refine w_goto hK rfl ?_
            exact ih10 _ (by omega) (c + 1) _ V580 rfl (by omega) (fun c_ h_ => by
              by_cases q_ : c_ = c
              · rw [q_]; exact bz_no h27
              · exact hn2 c_ (by omega)) C580 (fun p pn170_ pn171_ pn172_ pn173_ pn174_ pn188_ => ((F580 p pn170_ pn171_ pn172_ pn173_ pn174_).trans ((F579 p pn188_).trans (hG2 p pn170_ pn171_ pn172_ pn173_ pn174_ pn188_)))) (fun a nr_ => ((S580 a nr_).trans ((S579 a nr_).trans (hS2 a nr_))))
          · refine w_il hK rfl rfl ?_
            refine w_iret hK rfl rfl ?_
            exact ⟨e, _, _, ⟨hn1, Or.inr ⟨by omega, by omega, c, by omega, rfl, bz_yes h27, hn2⟩⟩, rfl, C580, (fun a nr_ => ((S580 a nr_).trans ((S579 a nr_).trans (hS2 a nr_)))), (fun p pn170_ pn171_ pn172_ pn173_ pn174_ pn188_ => ((F580 p pn170_ pn171_ pn172_ pn173_ pn174_).trans ((F579 p pn188_).trans (hG2 p pn170_ pn171_ pn172_ pn173_ pn174_ pn188_)))), ((F580 188 (by omega) (by omega) (by omega) (by omega) (by omega)).trans f579_0)⟩
      exact lp10 _ 0 _ N5 rfl (by omega) (fun c_ h_ => by omega) hC (fun p pn170_ pn171_ pn172_ pn173_ pn174_ pn188_ => (hG p pn170_ pn171_ pn172_ pn173_ pn174_ pn188_)) (fun a nr_ => (hS a nr_))
  exact lp5 _ 1 _ (3, 0) M rfl (by omega) (fun a c h1 h2 => by omega) C (fun p pn170_ pn171_ pn172_ pn173_ pn174_ pn188_ => rfl) (fun a nr_ => rfl)
set_option maxRecDepth 100000 in
theorem r_isP {d : Nat} {M : Mem} {k : Nat} {R : Int → Option (Pl k)} (C : RS M k R) {x : Int} {f_x : Pl k} (hx : isK R x f_x) (d4 : dg f_x ≤ 4) (hx_ : (174 < x ∧ x < 188) ∨ 188 < x) (bx9 : Bd f_x 9) : Ct 198 (d + 5) 282 [(1, 161), (1, x)] M (fun r_ M' => ∃ R' : Int → Option (Pl k), r_ = (0, bz (prM f_x)) ∧ RS M' k R' ∧ (∀ a : Int, (∀ p : Int, isR p → a ≠ p) → M' a = M a) ∧ (∀ p : Int, p ≠ 170 → p ≠ 171 → p ≠ 172 → p ≠ 173 → p ≠ 174 → p ≠ 188 → R' p = R p)) := by
  have hK : cd 282 = k282 := rfl
  show Wp 198 _ 282 0 [(1, 161), (1, x)] [] M _
  refine w_al hK rfl rfl ?_
  have dI_ : -1 ≤ dg f_x ∧ dg f_x ≤ 47 := C.dI hx
  refine w_call [(1, x)] hK rfl rfl rfl rfl (Or.inl rfl) (r_deg C hx) ?_
  rintro _ Mq ⟨rfl, e_⟩
  subst Mq
  refine ⟨by show (0 : Nat) ≠ 9; decide, (?_ : Wp 198 _ 282 2 [(1, 161), (1, x)] [(0, (dg f_x))] M _)⟩
  refine w_ic hK rfl ?_
  refine w_lt2 hK rfl (by omega) (by omega) (by omega) (by omega) (fun h3 => ?_) (fun h3 => ?_)
  · refine w_ic hK rfl ?_
    refine w_zret hK rfl rfl (Or.inl rfl) ?_
    exact ⟨_, congrArg (Prod.mk 0) (bz_neg (fun q_ : prM f_x => by have := q_.1; omega)).symm, C, (fun a nr_ => rfl), (fun p pn170_ pn171_ pn172_ pn173_ pn174_ pn188_ => rfl)⟩
  · refine w_al hK rfl rfl ?_
    refine w_al hK rfl rfl ?_
    refine w_call [(1, 161), (1, x)] hK rfl rfl rfl rfl (Or.inr ⟨_, _, _, rfl, by decide, (by decide), rfl⟩) (r_ld C hx (n := (dg f_x).toNat) (by omega) (by omega) (by omega) (by omega) bx9) ?_
    rintro _ V581 ⟨e581, g581, P581, L581, rfl, C581, S581, F581, f581_0⟩
    have l581_ : (e581 : Int) ≤ dg f_x := L581.2.elim (fun q_ => by omega) (fun q_ => by omega)
    refine ⟨(by show (0 : Nat) ≠ 9; decide), (?_ : Wp 198 _ 282 7 [(1, 161), (1, x)] [(0, (e581 : Int))] V581 _)⟩
    refine w_al hK rfl rfl ?_
    have dI_ : -1 ≤ dg f_x ∧ dg f_x ≤ 47 := C581.dI ⟨hx.1, ((F581 x (by omega) (by omega) (by omega) (by omega) (by omega) (by omega)).trans hx.2)⟩
    refine w_call [(1, x)] hK rfl rfl rfl rfl (Or.inl rfl) (r_deg C581 ⟨hx.1, ((F581 x (by omega) (by omega) (by omega) (by omega) (by omega) (by omega)).trans hx.2)⟩) ?_
    rintro _ Mq ⟨rfl, e_⟩
    subst Mq
    refine ⟨by show (0 : Nat) ≠ 9; decide, (?_ : Wp 198 _ 282 9 [(1, 161), (1, x)] [(0, (dg f_x)), (0, (e581 : Int))] V581 _)⟩
    refine w_ne2 hK rfl (by omega) (by omega) (by omega) (by omega) (fun h9 => ?_) (fun h9 => ?_)
    · refine w_ic hK rfl ?_
      refine w_zret hK rfl rfl (Or.inl rfl) ?_
      exact ⟨_, congrArg (Prod.mk 0) (bz_neg (fun q_ : prM f_x => h9 ((ldP.pr L581 (by omega)).mpr q_))).symm, C581, (fun a nr_ => (S581 a nr_)), (fun p pn170_ pn171_ pn172_ pn173_ pn174_ pn188_ => (F581 p pn170_ pn171_ pn172_ pn173_ pn174_ pn188_))⟩
    · refine w_ic hK rfl ?_
      refine w_goto hK rfl ?_
      refine w_zret hK rfl rfl (Or.inr rfl) ?_
      exact ⟨_, congrArg (Prod.mk 0) (bz_pos ((ldP.pr L581 (by omega)).mp (by omega))).symm, C581, (fun a nr_ => (S581 a nr_)), (fun p pn170_ pn171_ pn172_ pn173_ pn174_ pn188_ => (F581 p pn170_ pn171_ pn172_ pn173_ pn174_ pn188_))⟩
set_option maxRecDepth 100000 in
theorem r_isC {d : Nat} {M : Mem} {k : Nat} {R : Int → Option (Pl k)} (C : RS M k R) {x : Int} {f_x : Pl k} (hx : isK R x f_x) : Ct 198 (d) 296 [(1, 161), (1, x)] M (fun r M' => r = (0, bz (IsCn f_x)) ∧ M' = M) := by
  have hK : cd 296 = k296 := rfl
  have q1_ := qq_I k
  have p1_ := pp_I k
  have m1_ := mm_I k
  show Wp 198 _ 296 0 [(1, 161), (1, x), (3, 0)] [] M _
  refine w_ic hK rfl ?_
  refine w_is [(1, 161), (1, x), (0, 0)] hK rfl rfl rfl ?_
  have lp2 : ∀ (n_ : Nat) (j : Nat), 49 - j = n_ → (j ≤ 48) → (∀ i : Nat, i < j → f_x i ≠ z0 → (f_x i).val < pp k ∧ i % mm k = 0) → Wp 198 (d) 296 2 [(1, 161), (1, x), (0, (j : Int))] [] M (fun r M' => r = (0, bz (IsCn f_x)) ∧ M' = M) := by
    intro n_
    induction n_ using Nat.strongRecOn with
    | _ n_ ih2 =>
    intro j  hm2 hj hn
    refine w_il hK rfl rfl ?_
    refine w_ic hK rfl ?_
    refine w_ge2 hK rfl (by omega) (by omega) (by omega) (by omega) (fun h4 => ?_) (fun h4 => ?_)
    · refine w_ic hK rfl ?_
      refine w_zret hK rfl rfl (Or.inr rfl) ?_
      exact ⟨by rw [bz_pos (p := IsCn f_x) (fun i q => by
        by_cases e : i < j
        · exact hn i e q
        · exact absurd (C.bd hx i (by omega)) q)], rfl⟩
    · refine w_al hK rfl rfl ?_
      refine w_il hK rfl rfl ?_
      refine w_ria hK rfl hx.1 (by omega) (by omega) ?_
      rw [show M x (j : Int) = ((f_x j).val : Int) from C.atz hx (j := j) (by omega) (by omega)]
      have bv_ := el_I (f_x j)
      refine w_eq hK rfl (by omega) (by omega) (fun h8 => ?_) (fun h8 => ?_)
      · refine w_inc [(1, 161), (1, x), (0, ((j : Int) + 1))] hK rfl rfl rfl (by omega) (by omega) rfl ?_
        refine w_goto hK rfl ?_
        exact ih2 _ (by omega) (j + 1)  rfl (by omega) (fun i hi q => by
          by_cases e : i = j
          · subst i
            exact absurd (z0_iff.mpr (by omega)) q
          · exact hn i (by omega) q)
      · refine w_il hK rfl rfl ?_
        refine w_al hK rfl rfl ?_
        refine w_geti (n := 3) (m := 3) hK rfl rfl (by decide) (by decide) rfl rfl rfl rfl ?_
        rw [show M 161 3 = (mm k : Int) from C.F.m]
        refine w_rem hK rfl (by omega) (by omega) (by omega) (by omega) ?_
        rw [modI]
        have mj_ := Nat.mod_lt j (mm_pos k)
        refine w_ne hK rfl (by omega) (by omega) (fun h13 => ?_) (fun h13 => ?_)
        · refine w_ic hK rfl ?_
          refine w_zret hK rfl rfl (Or.inl rfl) ?_
          exact ⟨by rw [bz_neg (p := IsCn f_x) (fun q => by
            have q2 := q j (fun e => by have := z0_iff.mp e; omega)
            omega)], rfl⟩
        · refine w_al hK rfl rfl ?_
          refine w_il hK rfl rfl ?_
          refine w_ria hK rfl hx.1 (by omega) (by omega) ?_
          rw [show M x (j : Int) = ((f_x j).val : Int) from C.atz hx (j := j) (by omega) (by omega)]
          refine w_al hK rfl rfl ?_
          refine w_geti (n := 2) (m := 2) hK rfl rfl (by decide) (by decide) rfl rfl rfl rfl ?_
          rw [show M 161 2 = (pp k : Int) from C.F.p]
          refine w_lt2 hK rfl (by omega) (by omega) (by omega) (by omega) (fun h19 => ?_) (fun h19 => ?_)
          · refine w_inc [(1, 161), (1, x), (0, ((j : Int) + 1))] hK rfl rfl rfl (by omega) (by omega) rfl ?_
            refine w_goto hK rfl ?_
            exact ih2 _ (by omega) (j + 1)  rfl (by omega) (fun i hi q => by
              by_cases e : i = j
              · subst i
                exact ⟨by omega, by omega⟩
              · exact hn i (by omega) q)
          · refine w_ic hK rfl ?_
            refine w_zret hK rfl rfl (Or.inl rfl) ?_
            exact ⟨by rw [bz_neg (p := IsCn f_x) (fun q => by
              have q2 := q j (fun e => by have := z0_iff.mp e; omega)
              omega)], rfl⟩
  exact lp2 _ 0  rfl (by omega) (fun i hi => by omega)
set_option maxRecDepth 100000 in
theorem r_left {d : Nat} {M : Mem} (i : Nat) (i1 : 1 ≤ i) (i4 : i ≤ 4) : Ct 198 (d) 289 [(1, 161), (0, (i : Int))] M (fun r_ M' => r_ = (1, (190 + (i : Int))) ∧ M' = M) := by
  have hK : cd 289 = k289 := rfl
  show Wp 198 _ 289 0 [(1, 161), (0, (i : Int))] [] M _
  refine w_il hK rfl rfl ?_
  refine w_ic hK rfl ?_
  refine w_ne2 hK rfl (by omega) (by omega) (by omega) (by omega) (fun h2 => ?_) (fun h2 => ?_)
  · refine w_il hK rfl rfl ?_
    refine w_ic hK rfl ?_
    refine w_ne2 hK rfl (by omega) (by omega) (by omega) (by omega) (fun h8 => ?_) (fun h8 => ?_)
    · refine w_il hK rfl rfl ?_
      refine w_ic hK rfl ?_
      refine w_ne2 hK rfl (by omega) (by omega) (by omega) (by omega) (fun h14 => ?_) (fun h14 => ?_)
      · refine w_al hK rfl rfl ?_
        refine w_getr (n := 42) (v := 194) hK rfl rfl (by decide) (by decide) rfl rfl rfl rfl ?_
        refine w_aret hK rfl rfl ?_
        exact ⟨congrArg (Prod.mk 1) (by omega), rfl⟩
      · refine w_al hK rfl rfl ?_
        refine w_getr (n := 41) (v := 193) hK rfl rfl (by decide) (by decide) rfl rfl rfl rfl ?_
        refine w_goto hK rfl ?_
        refine w_aret hK rfl rfl ?_
        exact ⟨congrArg (Prod.mk 1) (by omega), rfl⟩
    · refine w_al hK rfl rfl ?_
      refine w_getr (n := 40) (v := 192) hK rfl rfl (by decide) (by decide) rfl rfl rfl rfl ?_
      refine w_goto hK rfl ?_
      refine w_aret hK rfl rfl ?_
      exact ⟨congrArg (Prod.mk 1) (by omega), rfl⟩
  · refine w_al hK rfl rfl ?_
    refine w_getr (n := 39) (v := 191) hK rfl rfl (by decide) (by decide) rfl rfl rfl rfl ?_
    refine w_goto hK rfl ?_
    refine w_aret hK rfl rfl ?_
    exact ⟨congrArg (Prod.mk 1) (by omega), rfl⟩
theorem pr_17 {k : Nat} {f g : Pl k} {n : Nat} (hf : Bd f 9) (hg : Bd g n) (h : n ≤ 8) : (-1 ≤ dg f ∧ dg f ≤ 8) ∧ (-1 ≤ dg g ∧ dg g ≤ 8) ∧ Bd (mlp f g) 17 := by
  have h3 := dg_lt9 hf
  have h4 := dg_lt9 (hg.mono (show n ≤ 9 by omega))
  exact ⟨h3, h4, (Bd_mlp hf hg).mono (by omega)⟩
set_option maxRecDepth 100000 in
theorem r_fway {d : Nat} {M : Mem} {k : Nat} {R : Int → Option (Pl k)} (C : RS M k R) {x : Int} {f_x : Pl k} (hx : isK R x f_x) {y : Int} {f_y : Pl k} (hy : isK R y f_y) {n : Nat} (hn : dg f_y = (n : Int)) (n1 : 1 ≤ n) (n4 : n ≤ 4) (hx_ : (179 < x ∧ x < 196) ∨ 197 < x) (hy_ : (179 < y ∧ y < 196) ∨ 197 < y) (bx9 : Bd f_x 9) (by9 : Bd f_y 9) : Ct 198 (d + 5) 291 [(1, 161), (1, x), (1, y)] M (fun r_ M' => ∃ R' : Int → Option (Pl k), r_ = (0, fwI f_x f_y n) ∧ RS M' k R' ∧ (∀ a : Int, (∀ p : Int, isR p → a ≠ p) → M' a = M a) ∧ (∀ p : Int, p ≠ 170 → p ≠ 171 → p ≠ 172 → p ≠ 173 → p ≠ 174 → p ≠ 175 → p ≠ 176 → p ≠ 177 → p ≠ 178 → p ≠ 179 → p ≠ 196 → p ≠ 197 → R' p = R p)) := by
  have hK : cd 291 = k291 := rfl
  have u4_ := unq_4 (k := k) (s := n) (by omega)
  show Wp 198 _ 291 0 [(1, 161), (1, x), (1, y), (3, 0), (3, 0)] [] M _
  refine w_al hK rfl rfl ?_
  have dI_ : -1 ≤ dg f_y ∧ dg f_y ≤ 47 := C.dI hy
  refine w_call [(1, y)] hK rfl rfl rfl rfl (Or.inl rfl) (r_deg C hy) ?_
  rintro _ Mq ⟨rfl, e_⟩
  subst Mq
  refine ⟨by show (0 : Nat) ≠ 9; decide, (?_ : Wp 198 _ 291 2 [(1, 161), (1, x), (1, y), (3, 0), (3, 0)] [(0, (dg f_y))] M _)⟩
  rw [hn]
  refine w_is [(1, 161), (1, x), (1, y), (0, (n : Int)), (3, 0)] hK rfl rfl rfl ?_
  refine w_ic hK rfl ?_
  refine w_is [(1, 161), (1, x), (1, y), (0, (n : Int)), (0, 1)] hK rfl rfl rfl ?_
  have lp5 : ∀ (n_ : Nat) (c : Nat) (R1 : Int → Option (Pl k)) (N5 : Mem), 65537 - c = n_ → (1 ≤ c ∧ c ≤ unq k n) → (∀ c_ : Nat, 1 ≤ c_ → c_ < c → ¬ wyP f_x f_y n c_) → (RS N5 k R1) → ((∀ p : Int, p ≠ 170 → p ≠ 171 → p ≠ 172 → p ≠ 173 → p ≠ 174 → p ≠ 175 → p ≠ 176 → p ≠ 177 → p ≠ 178 → p ≠ 179 → p ≠ 196 → p ≠ 197 → R1 p = R p)) → ((∀ a : Int, (∀ p : Int, isR p → a ≠ p) → N5 a = M a)) → Wp 198 (d + 5) 291 5 [(1, 161), (1, x), (1, y), (0, (n : Int)), (0, (c : Int))] [] N5 (fun r_ M' => ∃ R' : Int → Option (Pl k), r_ = (0, fwI f_x f_y n) ∧ RS M' k R' ∧ (∀ a : Int, (∀ p : Int, isR p → a ≠ p) → M' a = M a) ∧ (∀ p : Int, p ≠ 170 → p ≠ 171 → p ≠ 172 → p ≠ 173 → p ≠ 174 → p ≠ 175 → p ≠ 176 → p ≠ 177 → p ≠ 178 → p ≠ 179 → p ≠ 196 → p ≠ 197 → R' p = R p)) := by
    intro n_
    induction n_ using Nat.strongRecOn with
    | _ n_ ih5 =>
    intro c R1 N5 hm5 hc hn1 hC hG hS
    refine w_il hK rfl rfl ?_
    refine w_al hK rfl rfl ?_
    refine w_il hK rfl rfl ?_
    refine w_call [(1, 161), (0, (n : Int))] hK rfl rfl rfl rfl (Or.inr ⟨_, _, _, rfl, by decide, (by decide), rfl⟩) (r_count hC.F n (by omega)) ?_
    rintro _ Mq ⟨rfl, e_⟩
    subst Mq
    refine ⟨by show (0 : Nat) ≠ 9; decide, (?_ : Wp 198 _ 291 9 [(1, 161), (1, x), (1, y), (0, (n : Int)), (0, (c : Int))] [(0, (unq k n : Int)), (0, (c : Int))] N5 _)⟩
    refine w_ge2 hK rfl (by omega) (by omega) (by omega) (by omega) (fun h9 => ?_) (fun h9 => ?_)
    · refine w_ic hK rfl ?_
      refine w_iret hK rfl rfl ?_
      exact ⟨_, congrArg (Prod.mk 0) (fwI_none (fun a h1_ h2_ => hn1 a h1_ (by omega))).symm, hC, (fun a nr_ => (hS a nr_)), (fun p pn170_ pn171_ pn172_ pn173_ pn174_ pn175_ pn176_ pn177_ pn178_ pn179_ pn196_ pn197_ => (hG p pn170_ pn171_ pn172_ pn173_ pn174_ pn175_ pn176_ pn177_ pn178_ pn179_ pn196_ pn197_))⟩
    · refine w_al hK rfl rfl ?_
      refine w_il hK rfl rfl ?_
      refine w_il hK rfl rfl ?_
      refine w_al hK rfl rfl ?_
      refine w_getr (n := 44) (v := 196) hK rfl rfl (by decide) (by decide) rfl rfl rfl rfl ?_
      refine w_call [(1, 161), (0, (n : Int)), (0, (c : Int)), (1, 196)] hK rfl rfl rfl rfl (Or.inr ⟨_, _, _, rfl, by decide, (by decide), rfl⟩) (r_bof hC (isR_of (p := 196) rfl) n c (by omega) (by omega)) ?_
      rintro _ V582 ⟨P582, rfl, C582, S582, F582, f582_0⟩
      refine ⟨by decide, (?_ : Wp 198 _ 291 16 [(1, 161), (1, x), (1, y), (0, (n : Int)), (0, (c : Int))] [] V582 _)⟩
      refine w_al hK rfl rfl ?_
      refine w_al hK rfl rfl ?_
      refine w_al hK rfl rfl ?_
      refine w_getr (n := 44) (v := 196) hK rfl rfl (by decide) (by decide) rfl rfl rfl rfl ?_
      refine w_al hK rfl rfl ?_
      refine w_getr (n := 45) (v := 197) hK rfl rfl (by decide) (by decide) rfl rfl rfl rfl ?_
      have pr_ := pr_17 bx9 (bnp_bd (k := k) (n := n) (c := c)) (by omega)
      refine w_call [(1, 161), (1, x), (1, 196), (1, 197)] hK rfl rfl rfl rfl (Or.inr ⟨_, _, _, rfl, by decide, (by decide), rfl⟩) (r_prod C582 ⟨hx.1, ((F582 x (by omega)).trans ((hG x (by omega) (by omega) (by omega) (by omega) (by omega) (by omega) (by omega) (by omega) (by omega) (by omega) (by omega) (by omega)).trans hx.2))⟩ ⟨(isR_of (p := 196) rfl), f582_0⟩ (isR_of (p := 197) rfl) (by omega) (by omega) (by omega) (by omega)) ?_
      rintro _ V583 ⟨P583, rfl, C583, S583, F583, f583_0⟩
      refine ⟨by decide, (?_ : Wp 198 _ 291 23 [(1, 161), (1, x), (1, y), (0, (n : Int)), (0, (c : Int))] [] V583 _)⟩
      refine w_al hK rfl rfl ?_
      refine w_al hK rfl rfl ?_
      refine w_getr (n := 45) (v := 197) hK rfl rfl (by decide) (by decide) rfl rfl rfl rfl ?_
      refine w_al hK rfl rfl ?_
      refine w_ic hK rfl ?_
      refine w_call [(1, 161), (1, 197), (1, y), (0, 0)] hK rfl rfl rfl rfl (Or.inr ⟨_, _, _, rfl, by decide, (by decide), rfl⟩) (r_isdv C583 ⟨(isR_of (p := 197) rfl), f583_0⟩ ⟨hy.1, ((F583 y (by omega) (by omega)).trans ((F582 y (by omega)).trans ((hG y (by omega) (by omega) (by omega) (by omega) (by omega) (by omega) (by omega) (by omega) (by omega) (by omega) (by omega) (by omega)).trans hy.2)))⟩ 0 (by omega) (by omega) (by omega) (by omega) (pr_.2.2) (by9.mono (by decide))) ?_
      rintro _ V584 ⟨P584, rfl, C584, S584, F584, f584_0, f584_1⟩
      have bv_ := bz_01 (dr 0 (mlp f_x (bnp n c)) f_y = pz)
      refine ⟨by show (0 : Nat) ≠ 9; decide, (?_ : Wp 198 _ 291 29 [(1, 161), (1, x), (1, y), (0, (n : Int)), (0, (c : Int))] [(0, (bz (dr 0 (mlp f_x (bnp n c)) f_y = pz)))] V584 _)⟩
      refine w_ne hK rfl (by omega) (by omega) (fun h29 => ?_) (fun h29 => ?_)
      · refine w_al hK rfl rfl ?_
        refine w_al hK rfl rfl ?_
        refine w_getr (n := 44) (v := 196) hK rfl rfl (by decide) (by decide) rfl rfl rfl rfl ?_
        refine w_al hK rfl rfl ?_
        refine w_ic hK rfl ?_
        refine w_call [(1, 161), (1, 196), (1, y), (0, 0)] hK rfl rfl rfl rfl (Or.inr ⟨_, _, _, rfl, by decide, (by decide), rfl⟩) (r_euc C584 ⟨(isR_of (p := 196) rfl), ((F584 196 (by omega) (by omega) (by omega) (by omega) (by omega)).trans ((F583 196 (by omega) (by omega)).trans f582_0))⟩ ⟨hy.1, ((F584 y (by omega) (by omega) (by omega) (by omega) (by omega)).trans ((F583 y (by omega) (by omega)).trans ((F582 y (by omega)).trans ((hG y (by omega) (by omega) (by omega) (by omega) (by omega) (by omega) (by omega) (by omega) (by omega) (by omega) (by omega) (by omega)).trans hy.2))))⟩ 0 (by omega) (by omega) (by omega) (bnp_bd.mono (by omega)) by9) ?_
        rintro _ V585 ⟨P585, rfl, C585, S585, F585, f585_0, f585_1⟩
        refine ⟨by decide, (?_ : Wp 198 _ 291 37 [(1, 161), (1, x), (1, y), (0, (n : Int)), (0, (c : Int))] [] V585 _)⟩
        refine w_al hK rfl rfl ?_
        refine w_getr (n := 21) (v := 175) hK rfl rfl (by decide) (by decide) rfl rfl rfl rfl ?_
        have dI_ : -1 ≤ dg ((euL 0 (bnp n c) f_y).1) ∧ dg ((euL 0 (bnp n c) f_y).1) ≤ 47 := C585.dI ⟨(isR_of (p := 175) rfl), f585_0⟩
        refine w_call [(1, 175)] hK rfl rfl rfl rfl (Or.inl rfl) (r_deg C585 ⟨(isR_of (p := 175) rfl), f585_0⟩) ?_
        rintro _ Mq ⟨rfl, e_⟩
        subst Mq
        refine ⟨by show (0 : Nat) ≠ 9; decide, (?_ : Wp 198 _ 291 40 [(1, 161), (1, x), (1, y), (0, (n : Int)), (0, (c : Int))] [(0, (dg ((euL 0 (bnp n c) f_y).1)))] V585 _)⟩
        refine w_ne hK rfl (by omega) (by omega) (fun h40 => ?_) (fun h40 => ?_)
        · refine w_inc [(1, 161), (1, x), (1, y), (0, (n : Int)), (0, ((c : Int) + 1))] hK rfl rfl rfl (by omega) (by omega) rfl ?_
          refine w_goto hK rfl ?_
          exact ih5 _ (by omega) (c + 1) _ V585 rfl (by omega) (fun c_ h1_ h2_ => by
            by_cases q_ : c_ = c
            · rw [q_]; exact fun w_ => h40 w_.2
            · exact hn1 c_ h1_ (by omega)) C585 (fun p pn170_ pn171_ pn172_ pn173_ pn174_ pn175_ pn176_ pn177_ pn178_ pn179_ pn196_ pn197_ => ((F585 p pn170_ pn171_ pn172_ pn173_ pn174_ pn175_ pn176_ pn177_ pn178_ pn179_).trans ((F584 p pn170_ pn171_ pn172_ pn173_ pn174_).trans ((F583 p pn170_ pn197_).trans ((F582 p pn196_).trans (hG p pn170_ pn171_ pn172_ pn173_ pn174_ pn175_ pn176_ pn177_ pn178_ pn179_ pn196_ pn197_)))))) (fun a nr_ => ((S585 a nr_).trans ((S584 a nr_).trans ((S583 a nr_).trans ((S582 a nr_).trans (hS a nr_))))))
        · refine w_il hK rfl rfl ?_
          refine w_iret hK rfl rfl ?_
          exact ⟨_, congrArg (Prod.mk 0) (fwI_at (by omega) (by omega) hn1 ⟨bz_yes h29, by omega⟩).symm, C585, (fun a nr_ => ((S585 a nr_).trans ((S584 a nr_).trans ((S583 a nr_).trans ((S582 a nr_).trans (hS a nr_)))))), (fun p pn170_ pn171_ pn172_ pn173_ pn174_ pn175_ pn176_ pn177_ pn178_ pn179_ pn196_ pn197_ => ((F585 p pn170_ pn171_ pn172_ pn173_ pn174_ pn175_ pn176_ pn177_ pn178_ pn179_).trans ((F584 p pn170_ pn171_ pn172_ pn173_ pn174_).trans ((F583 p pn170_ pn197_).trans ((F582 p pn196_).trans (hG p pn170_ pn171_ pn172_ pn173_ pn174_ pn175_ pn176_ pn177_ pn178_ pn179_ pn196_ pn197_))))))⟩
      · refine w_goto hK rfl ?_
        refine w_inc [(1, 161), (1, x), (1, y), (0, (n : Int)), (0, ((c : Int) + 1))] hK rfl rfl rfl (by omega) (by omega) rfl ?_
        refine w_goto hK rfl ?_
        exact ih5 _ (by omega) (c + 1) _ V584 rfl (by omega) (fun c_ h1_ h2_ => by
          by_cases q_ : c_ = c
          · rw [q_]; exact fun w_ => bz_no h29 w_.1
          · exact hn1 c_ h1_ (by omega)) C584 (fun p pn170_ pn171_ pn172_ pn173_ pn174_ pn175_ pn176_ pn177_ pn178_ pn179_ pn196_ pn197_ => ((F584 p pn170_ pn171_ pn172_ pn173_ pn174_).trans ((F583 p pn170_ pn197_).trans ((F582 p pn196_).trans (hG p pn170_ pn171_ pn172_ pn173_ pn174_ pn175_ pn176_ pn177_ pn178_ pn179_ pn196_ pn197_))))) (fun a nr_ => ((S584 a nr_).trans ((S583 a nr_).trans ((S582 a nr_).trans (hS a nr_)))))
  exact lp5 _ 1 _ M rfl (by omega) (fun c_ h1 h2 => by omega) C (fun p pn170_ pn171_ pn172_ pn173_ pn174_ pn175_ pn176_ pn177_ pn178_ pn179_ pn196_ pn197_ => rfl) (fun a nr_ => rfl)
