/-! counting; coprime ones by the chain -/
theorem inj_le {g : Nat → Nat} {a b : Nat} (h1 : ∀ i : Nat, i < a → g i < b) (h2 : ∀ i j : Nat, i < a → j < a → g i = g j → i = j) : a ≤ b := by
  have h := sI_bij (f := g) (b := b) (a := a) (P := fun _ => True) (Q := fun c => ∃ i : Nat, i < a ∧ g i = c) (F := fun _ => 1) (G := fun c => bz (∃ i : Nat, i < a ∧ g i = c)) (fun i _ q => absurd trivial q) (fun c _ q => bz_neg q) (fun i hi _ => ⟨h1 i hi, ⟨i, hi, rfl⟩, bz_pos ⟨i, hi, rfl⟩⟩) (fun i j hi hj _ _ e => h2 i j hi hj e) (fun c _ q => by
    obtain ⟨i, hi, e⟩ := q
    exact ⟨i, hi, trivial, e⟩)
  rw [sI_ones] at h
  have h3 := sI_bz (q := fun c => ∃ i : Nat, i < a ∧ g i = c) b
  omega
theorem inj_surj {f : Nat → Nat} {N : Nat} (h1 : ∀ i : Nat, i < N → f i < N) (h2 : ∀ i j : Nat, i < N → j < N → f i = f j → i = j) {c : Nat} (hc : c < N) : ∃ i : Nat, i < N ∧ f i = c := by
  apply Classical.byContradiction
  intro h
  have hn : ∀ i : Nat, i < N → f i ≠ c := fun i hi e => h ⟨i, hi, e⟩
  have := inj_le (g := fun i => if f i < c then f i else f i - 1) (a := N) (b := N - 1) (fun i hi => by
    have a1 := h1 i hi
    have a2 := hn i hi
    show (if f i < c then f i else f i - 1) < _
    split <;> omega) (fun i j hi hj e => by
    have a2 := hn i hi
    have b2 := hn j hj
    have e2 : (if f i < c then f i else f i - 1) = (if f j < c then f j else f j - 1) := e
    refine h2 i j hi hj ?_
    split at e2 <;> split at e2 <;> omega)
  omega
theorem surj_inj {f : Nat → Nat} {N : Nat} (h1 : ∀ c : Nat, c < N → ∃ i : Nat, i < N ∧ f i = c) {i j : Nat} (hi : i < N) (hj : j < N) (h0 : f i < N) (e : f i = f j) : i = j := by
  have hg : ∀ c : Nat, ∃ i : Nat, c < N → i < N ∧ f i = c := fun c => by
    by_cases q : c < N
    · obtain ⟨i, hi⟩ := h1 c q
      exact ⟨i, fun _ => hi⟩
    · exact ⟨0, fun q2 => absurd q2 q⟩
  have hs := fun c => Classical.choose_spec (hg c)
  have s : ∀ i : Nat, i < N → ∃ c : Nat, c < N ∧ Classical.choose (hg c) = i := fun i hi => inj_surj (f := fun c => Classical.choose (hg c)) (fun c hc => (hs c hc).1) (fun c c' hc hc' e => by
    have a := (hs c hc).2
    have b := (hs c' hc').2
    have e2 : Classical.choose (hg c) = Classical.choose (hg c') := e
    rw [e2] at a
    exact a.symm.trans b) hi
  obtain ⟨c, hc, ec⟩ := s i hi
  obtain ⟨c', hc', ec'⟩ := s j hj
  have a := (hs c hc).2
  have b := (hs c' hc').2
  rw [ec] at a
  rw [ec'] at b
  have e3 : c = c' := by rw [← a, ← b, e]
  rw [← ec, ← ec', e3]
theorem cop_eu {k : Nat} {x y : Pl k} (hx : Bd x 9) (hy : Bd y 9) : ∀ n : Nat, (∀ m : Nat, m < n → (eu 0 x y m).2.1 ≠ pz) → (Cop x y ↔ Cop (eu 0 x y n).1 (eu 0 x y n).2.1)
  | 0, _ => Iff.rfl
  | n + 1, h => by
    have ih := cop_eu hx hy n (fun m hm => h m (by omega))
    have hB := eu_B hx hy n (fun m hm => h m (by omega))
    have d := eu_dec hB (h n (by omega))
    obtain ⟨⟨m, hm⟩, e, _⟩ := dv_is 0 (isdg_dg (hB.1.2.mono (show 9 ≤ 64 by decide)) d.2) hB.1.1
    rw [ih]
    exact Cop_step hm e
theorem cop_euL {k : Nat} {x y : Pl k} (hx : Bd x 9) (hy : Bd y 9) : Cop x y ↔ dg (euL 0 x y).1 = 0 := by
  obtain ⟨n, hn⟩ := euE_ex 0 hx hy
  have hB := eu_B hx hy n hn.1
  rw [cop_eu hx hy n hn.1, hn.2, euL_eq hn, Cop_pz hB.1.1]
  constructor
  · intro h
    exact dg_eq (hB.1.1.mono (by decide)) h
  · intro h
    have := dg_is (hB.1.1.mono (show 9 ≤ 64 by decide))
    rw [h] at this
    exact this
theorem wyP_cop {k : Nat} {A B : Pl k} {n c : Nat} (hB : Bd B 9) (hn : n ≤ 9) : wyP A B n c ↔ dr 0 (mlp A (bnp n c)) B = pz ∧ Cop (bnp n c) B := by
  unfold wyP
  rw [cop_euL (bnp_bd.mono hn) hB]
/-! sums of rows -/
/-- so many of each, number by number -/
def cmb (p : Nat) (us : Nat → Nat → Nat) (a : Nat → Nat) : Nat → Nat → Nat
  | 0, _ => 0
  | R + 1, l => (cmb p us a R l + a R * us R l) % p
theorem cmb_lt {p : Nat} (hp : 2 ≤ p) (us : Nat → Nat → Nat) (a : Nat → Nat) (R l : Nat) : cmb p us a R l < p := by
  cases R with
  | zero => show 0 < p; omega
  | succ R => exact Nat.mod_lt _ (by omega)
theorem lcb_cmb {k : Nat} {us : Nat → Nat → Nat} {a : Nat → Nat} {X : Nat → Pl k} {o : Nat} (ha : ∀ r, a r < pp k) : ∀ {R : Nat}, (∀ r, r < R → ∀ j, us r j < pp k) → lcb (cmb (pp k) us a R) X o = lcb a (fun r => lcb (us r) X o) R
  | 0, _ => lcb_zero o
  | R + 1, h => by
    have e := lcb_lin (u := cmb (pp k) us a R) (w := us R) (X := X) (ha R) (cmb_lt (pp_ge k) us a R) (h R (by omega)) o
    refine e.trans ?_
    rw [lcb_cmb ha (fun r hr => h r (by omega))]
    rfl
theorem lcb_top {k : Nat} {w : Nat → Nat} {X : Nat → Pl k} {o : Nat} (h : ∀ j, o ≤ j → w j = 0) : ∀ {N : Nat}, o ≤ N → lcb w X N = lcb w X o
  | 0, hN => by rw [show o = 0 by omega]
  | N + 1, hN => by
    by_cases e : o = N + 1
    · rw [e]
    · rw [lcb_more (h N (by omega)), lcb_top h (show o ≤ N by omega)]
theorem lcb_z {k : Nat} {w : Nat → Nat} {X : Nat → Pl k} : ∀ {R : Nat}, (∀ r, r < R → X r = pz) → lcb w X R = pz
  | 0, _ => rfl
  | R + 1, h => by
    show adp (lcb w X R) (scl _ (X R)) = pz
    rw [lcb_z (fun r hr => h r (by omega)), h R (by omega), scl_pz, pz_adp]
/-- what it is at l, where but one of the rows is not 0 -/
theorem cmb_at {p : Nat} {us : Nat → Nat → Nat} {a : Nat → Nat} {l s : Nat} (hs : us s l = 1) : ∀ {R : Nat}, (∀ r, r < R → r ≠ s → us r l = 0) → cmb p us a R l = if s < R then a s % p else 0
  | 0, _ => by rw [if_neg (by omega)]; rfl
  | R + 1, h => by
    show (cmb p us a R l + a R * us R l) % p = _
    rw [cmb_at hs (fun r hr => h r (by omega))]
    by_cases e : s = R
    · rw [if_neg (by omega), if_pos (by omega), ← e, hs, Nat.zero_add, Nat.mul_one]
    · rw [h R (by omega) (fun q => e q.symm), Nat.mul_zero, Nat.add_zero]
      by_cases q : s < R
      · rw [if_pos q, if_pos (by omega), Nat.mod_mod]
      · rw [if_neg q, if_neg (by omega), Nat.zero_mod]
theorem cmb_z {p : Nat} {us : Nat → Nat → Nat} {a : Nat → Nat} {l : Nat} : ∀ {R : Nat}, (∀ r, r < R → a r * us r l = 0) → cmb p us a R l = 0
  | 0, _ => rfl
  | R + 1, h => by
    show (cmb p us a R l + a R * us R l) % p = 0
    rw [cmb_z (fun r hr => h r (by omega)), h R (by omega), Nat.zero_mod]
theorem cmb_congr {p : Nat} {us : Nat → Nat → Nat} {a b : Nat → Nat} {l : Nat} : ∀ {R : Nat}, (∀ r, r < R → a r * us r l = b r * us r l) → cmb p us a R l = cmb p us b R l
  | 0, _ => rfl
  | R + 1, h => by
    show (cmb p us a R l + a R * us R l) % p = (cmb p us b R l + b R * us R l) % p
    rw [cmb_congr (fun r hr => h r (by omega)), h R (by omega)]
/-- the rows' sums are 0 only by none of each -/
theorem ech_zero {k n c o : Nat} {X ρ : Nat → Pl k} {w : Nat → Nat → Nat} {pv ow : Nat → Nat} (h : SPp n X o c ρ w pv ow) {b : Nat → Nat} (hb : ∀ r, b r < pp k) (h0 : lcb b ρ c = pz) : ∀ s : Nat, s < c → b s = 0 := by
  have hp := pp_ge k
  have key : ∀ s : Nat, s < c → (∀ r : Nat, r < s → b r = 0) → ∀ R : Nat, R ≤ c → vec n (lcb b ρ R) (pv s) = if s < R then (b s : Int) else 0 := by
    intro s hs hz R
    induction R with
    | zero =>
      intro _
      rw [if_neg (by omega)]
      have z := vec_scl (n := n) (pz : Pl k) (a := 0) (by omega) (pv s)
      rw [show scl (el k 0) (pz : Pl k) = pz from scl_pz _, Int.mul_comm] at z
      rw [show ((0 : Nat) : Int) = 0 from rfl, Int.zero_mul, Int.zero_emod] at z
      exact z
    | succ R ih =>
      intro hR
      have e := vec_lin (n := n) (lcb b ρ R) (ρ R) (hb R) (pv s)
      show vec n (adp (lcb b ρ R) (scl (el k (b R)) (ρ R))) (pv s) = _
      rw [e, ih (by omega)]
      have hr := h.1 R (by omega)
      by_cases q : s < R
      · rw [if_pos q, if_pos (by omega), hr.2.2.2.2 s q, Int.mul_zero, Int.add_zero]
        have := hb s
        exact Int.emod_eq_of_lt (by omega) (by omega)
      · rw [if_neg q]
        by_cases e2 : s = R
        · rw [if_pos (by omega), e2, hr.2.2.2.1, Int.mul_one, Int.zero_add]
          have := hb R
          exact Int.emod_eq_of_lt (by omega) (by omega)
        · rw [if_neg (by omega), hz R (by omega)]
          rw [show ((0 : Nat) : Int) = 0 from rfl, Int.zero_mul, Int.zero_add, Int.zero_emod]
  intro s
  induction s using Nat.strongRecOn with
  | _ s ih =>
    intro hs
    have e := key s hs (fun r hr => ih r hr (by omega)) c (Nat.le_refl _)
    rw [h0, if_pos hs] at e
    have z := vec_scl (n := n) (pz : Pl k) (a := 0) (by omega) (pv s)
    rw [show scl (el k 0) (pz : Pl k) = pz from scl_pz _] at z
    rw [show ((0 : Nat) : Int) = 0 from rfl, Int.mul_zero, Int.zero_emod] at z
    omega
/-- what stands at the rows' own places only is a sum of the rows -/
theorem ech_sum {k n c o : Nat} {X ρ : Nat → Pl k} {w : Nat → Nat → Nat} {pv ow : Nat → Nat} (h : SPp n X o c ρ w pv ow) : ∀ c' : Nat, c' ≤ c → ∀ v : Nat → Nat, (∀ j, v j < pp k) → (∀ j, v j ≠ 0 → ∃ s : Nat, s < c' ∧ j = ow s) → ∃ b : Nat → Nat, (∀ r, b r < pp k) ∧ ∀ j, v j = cmb (pp k) w b c' j
  | 0, _, v, hv, hs => ⟨fun _ => 0, fun _ => by have := pp_ge k; show 0 < pp k; omega, fun j => by
    show v j = 0
    apply Classical.byContradiction
    intro q
    obtain ⟨s, h1, _⟩ := hs j q
    omega⟩
  | c' + 1, hc, v, hv, hs => by
    have hp := pp_ge k
    have hw := h.2 c' (by omega)
    have hwl := hw.2.2.2.2.2
    -- how many of the last row
    have sq := sq_mod0 (k := k) ⟨w c' (ow c'), hwl _⟩ hw.2.2.1
    dsimp only at sq
    have hx : v (ow c') * w c' (ow c') % pp k * w c' (ow c') % pp k = v (ow c') := by
      rw [Nat.mod_mul_mod, Nat.mul_assoc, Nat.mul_mod, sq, Nat.mul_one, Nat.mod_mod, Nat.mod_eq_of_lt (hv _)]
    have hxl : v (ow c') * w c' (ow c') % pp k < pp k := Nat.mod_lt _ (by omega)
    generalize v (ow c') * w c' (ow c') % pp k = x at hx hxl
    -- what the others are to make
    obtain ⟨b, hb, he⟩ := ech_sum h c' (by omega) (fun j => (v j + (pp k - 1) * (x * w c' j)) % pp k) (fun j => Nat.mod_lt _ (by omega)) (fun j hj => by
      have hj' : (v j + (pp k - 1) * (x * w c' j)) % pp k ≠ 0 := hj
      by_cases e : j = ow c'
      · exfalso
        apply hj'
        rw [e]
        have e2 : (v (ow c') + (pp k - 1) * (x * w c' (ow c'))) % pp k = (v (ow c') + (pp k - 1) * v (ow c')) % pp k := by
          rw [Nat.add_mod, Nat.mul_mod, hx, ← Nat.mod_eq_of_lt (hv (ow c')), Nat.mod_mod, ← Nat.mul_mod, ← Nat.add_mod]
          rw [Nat.mod_eq_of_lt (hv (ow c'))]
        rw [e2, show v (ow c') + (pp k - 1) * v (ow c') = pp k * v (ow c') by
          have e3 : pp k * v (ow c') = (1 + (pp k - 1)) * v (ow c') := by rw [show 1 + (pp k - 1) = pp k by omega]
          rw [e3, Nat.add_mul, Nat.one_mul]]
        exact Nat.mul_mod_right _ _
      · by_cases z : v j = 0
        · have wz : w c' j ≠ 0 := fun q => hj' (by rw [z, q, Nat.mul_zero, Nat.mul_zero, Nat.zero_mod])
          obtain ⟨s, s1, s2⟩ := hw.2.2.2.2.1 j wz
          refine ⟨s, ?_, s2⟩
          by_cases q : s = c'
          · exact absurd (by rw [s2, q]) e
          · omega
        · obtain ⟨s, s1, s2⟩ := hs j z
          refine ⟨s, ?_, s2⟩
          by_cases q : s = c'
          · exact absurd (by rw [s2, q]) e
          · omega)
    refine ⟨fun r => if r = c' then x else b r, fun r => ?_, fun j => ?_⟩
    · show (if r = c' then x else b r) < _
      split
      · exact hxl
      · exact hb r
    · show v j = (cmb (pp k) w (fun r => if r = c' then x else b r) c' j + (if c' = c' then x else b c') * w c' j) % pp k
      have e1_ : cmb (pp k) w (fun r => if r = c' then x else b r) c' j = cmb (pp k) w b c' j := cmb_congr (fun r hr => by
        show (if r = c' then x else b r) * _ = _
        rw [if_neg (by omega)])
      rw [e1_, ← he j, if_pos rfl]
      show v j = ((v j + (pp k - 1) * (x * w c' j)) % pp k + x * w c' j) % pp k
      rw [Nat.mod_add_mod, Nat.add_assoc, show (pp k - 1) * (x * w c' j) + x * w c' j = pp k * (x * w c' j) by
        have e3 : pp k * (x * w c' j) = ((pp k - 1) + 1) * (x * w c' j) := by rw [show pp k - 1 + 1 = pp k by omega]
        rw [e3, Nat.add_mul, Nat.one_mul], Nat.add_mul_mod_self_left, Nat.mod_eq_of_lt (hv j)]
/-- so it is 0 if its sum of what was offered is -/
theorem ech_ind {k n c o : Nat} {X ρ : Nat → Pl k} {w : Nat → Nat → Nat} {pv ow : Nat → Nat} (h : SPp n X o c ρ w pv ow) {v : Nat → Nat} (hv : ∀ j, v j < pp k) (hs : ∀ j, v j ≠ 0 → ∃ s : Nat, s < c ∧ j = ow s) (h0 : lcb v X o = pz) : ∀ j, v j = 0 := by
  obtain ⟨b, hb, he⟩ := ech_sum h c (Nat.le_refl _) v hv hs
  have e : lcb v X o = lcb b ρ c := by
    rw [lcb_congr (w := cmb (pp k) w b c) (fun j _ => he j), lcb_cmb hb (fun r hr => (h.2 r hr).2.2.2.2.2)]
    have key : ∀ R : Nat, R ≤ c → lcb b (fun r => lcb (w r) X o) R = lcb b ρ R := fun R => by
      induction R with
      | zero => intro _; rfl
      | succ R ih =>
        intro hR
        show adp (lcb b (fun r => lcb (w r) X o) R) (scl _ (lcb (w R) X o)) = adp (lcb b ρ R) (scl _ (ρ R))
        rw [ih (by omega), (h.1 R (by omega)).2.1]
    exact key c (Nat.le_refl _)
  have hz := ech_zero h hb (by rw [← e]; exact h0)
  intro j
  rw [he j]
  exact cmb_z (fun r hr => by rw [hz r hr, Nat.zero_mul])
