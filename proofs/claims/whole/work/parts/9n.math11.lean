/-! a central one of no more degree: bound */ -/
theorem tp_mul {k : Nat} (i j : Nat) : mlp (mono (e1 : El k) i) (mono e1 j) = mono e1 (i + j) := by
  funext n
  rw [mono_mlp]
  show (if i ≤ n then ml e1 (sg i (if n - i = j then e1 else z0)) else z0) = if n = i + j then e1 else z0
  by_cases h : i ≤ n
  · rw [if_pos h]
    by_cases h2 : n - i = j
    · rw [if_pos h2, sg_e, one_ml, if_pos (by omega)]
    · rw [if_neg h2, sg_z, ml_zero, if_neg (by omega)]
  · rw [if_neg h, if_neg (by omega)]
theorem tp_0 {k : Nat} (f : Pl k) : mlp (mono e1 0) f = f := one_mlp f
/-- on the places of so many times MAP's order only -/
def Csp {k : Nat} (f : Pl k) : Prop := ∀ l : Nat, l % mm k ≠ 0 → f l = z0
theorem sg_mul {k : Nat} (j : Nat) (a : El k) : sg (j * mm k) a = a := by rw [← sg_mod, Nat.mul_mod_left, sg_0]
theorem sg_m0 {k l : Nat} (h : l % mm k = 0) (a : El k) : sg l a = a := by rw [← sg_mod, h, sg_0]
theorem sm_rev {k : Nat} {h g : Nat → El k} : ∀ {n : Nat}, (∀ i : Nat, i ≤ n → h i = g (n - i)) → sm h (n + 1) = sm g (n + 1) := by
  intro n e
  have key : ∀ t : Nat, t ≤ n + 1 → ad (sm g (n + 1 - t)) (sm h t) = sm g (n + 1) := fun t => by
    induction t with
    | zero => intro _; show ad (sm g (n + 1)) z0 = _; rw [ad_zero]
    | succ t ih =>
      intro ht
      have i1 := ih (by omega)
      rw [show n + 1 - t = (n - t) + 1 by omega] at i1
      rw [show n + 1 - (t + 1) = n - t by omega]
      have i2 : ad (ad (sm g (n - t)) (g (n - t))) (sm h t) = sm g (n + 1) := i1
      show ad (sm g (n - t)) (ad (sm h t) (h t)) = _
      rw [e t (by omega), ad_comm (sm h t), ← ad_assoc]
      exact i2
  have w := key (n + 1) (Nat.le_refl _)
  rw [Nat.sub_self] at w
  have w2 : ad z0 (sm h (n + 1)) = sm g (n + 1) := w
  rw [zero_ad] at w2
  exact w2
theorem csp_comm {k : Nat} {f g : Pl k} (hf : Csp f) (hg : Csp g) : mlp f g = mlp g f := by
  funext n
  refine sm_rev (h := fun i => ml (f i) (sg i (g (n - i)))) (g := fun i => ml (g i) (sg i (f (n - i)))) (fun i hi => ?_)
  show ml (f i) (sg i (g (n - i))) = ml (g (n - i)) (sg (n - i) (f (n - (n - i))))
  rw [show n - (n - i) = i by omega]
  by_cases a : i % mm k = 0
  · by_cases b : (n - i) % mm k = 0
    · rw [sg_m0 a, sg_m0 b, ml_comm]
    · rw [hg _ b, sg_z, ml_zero, zero_ml]
  · rw [hf _ a, zero_ml, sg_z, ml_zero]
theorem csp_mlp {k : Nat} {f g : Pl k} (hf : Csp f) (hg : Csp g) : Csp (mlp f g) := fun n hn => sm_z fun i hi => by
  by_cases a : i % mm k = 0
  · have b : (n - i) % mm k ≠ 0 := fun q => hn (by
      have := Nat.add_mod i (n - i) (mm k)
      rw [a, q, show i + (n - i) = n by omega] at this
      rw [this]
      exact Nat.zero_mod _)
    rw [hg _ b, sg_z, ml_zero]
  · rw [hf _ a, zero_ml]
/-- of its class i only, as one of class 0 -/
def cpt {k : Nat} (f : Pl k) (i : Nat) : Pl k := fun l => if l % mm k = 0 then f (l + i) else z0
theorem cpt_csp {k : Nat} (f : Pl k) (i : Nat) : Csp (cpt f i) := fun l h => if_neg h
theorem cpt_bd {k b : Nat} {f : Pl k} (h : Bd f b) (i : Nat) : Bd (cpt f i) b := fun l hl => by
  show (if _ then _ else _) = _
  split
  · exact h _ (by omega)
  · rfl
theorem cpt_t {k : Nat} (f : Pl k) {i : Nat} (hi : i < mm k) (l : Nat) : mlp (cpt f i) (mono e1 i) l = if l % mm k = i then f l else z0 := by
  rw [mlp_mono, sg_e]
  by_cases h : i ≤ l
  · rw [if_pos h, ml_one]
    show (if (l - i) % mm k = 0 then f (l - i + i) else z0) = _
    have e : (l - i) % mm k = 0 ↔ l % mm k = i := by
      have h1 := Nat.div_add_mod (l - i) (mm k)
      have h2 := Nat.div_add_mod l (mm k)
      constructor
      · intro q
        rw [q] at h1
        rw [show l = i + mm k * ((l - i) / mm k) by omega, Nat.add_mul_mod_self_left, Nat.mod_eq_of_lt hi]
      · intro q
        rw [q] at h2
        rw [show l - i = mm k * (l / mm k) by omega, Nat.mul_mod_right]
    by_cases q : l % mm k = i
    · rw [if_pos (e.mpr q), if_pos q, show l - i + i = l by omega]
    · rw [if_neg (fun z => q (e.mp z)), if_neg q]
  · rw [if_neg h, if_neg (fun q => by have := Nat.mod_le l (mm k); omega)]
/-- an element of R A whose last class is i, with its own degree d, and 1 there -/
def Ecl {k : Nat} (A : Pl k) (i d : Nat) : Prop := ∃ (P : Pl k) (b : Nat), Bd P b ∧ InL P A ∧ P (d * mm k + i) = e1 ∧ ∀ l : Nat, P l ≠ z0 → l % mm k < i ∨ (l % mm k = i ∧ l ≤ d * mm k + i)
theorem ecl_of {k b : Nat} {A P : Pl k} (hb : Bd P b) (hP : InL P A) (hne : P ≠ pz) : ∃ i d : Nat, i < mm k ∧ P (d * mm k + i) ≠ z0 ∧ Ecl A i d := by
  have hm := mm_pos k
  -- the last class in use, and in it the last place
  have h1 : ∃ r : Nat, ∃ l : Nat, P l ≠ z0 ∧ mm k - 1 - l % mm k = r := by
    apply Classical.byContradiction
    intro q
    apply hne
    funext l
    apply Classical.byContradiction
    intro q2
    exact q ⟨_, l, q2, rfl⟩
  obtain ⟨r, ⟨l0, p0, e0⟩, hr⟩ := nat_first h1
  have h2 : ∃ s : Nat, ∃ l : Nat, P l ≠ z0 ∧ l % mm k = l0 % mm k ∧ b - l = s := ⟨_, l0, p0, rfl, rfl⟩
  obtain ⟨s, ⟨l1, p1, c1, e1_⟩, hs⟩ := nat_first h2
  have lb : ∀ l, P l ≠ z0 → l < b := fun l q => by
    rcases Nat.lt_or_ge l b with z | z
    · exact z
    · exact absurd (hb l z) q
  have ml0 := Nat.mod_lt l0 hm
  have dm := Nat.div_add_mod l1 (mm k)
  have em : l1 / mm k * mm k + l1 % mm k = l1 := by rw [Nat.mul_comm]; exact dm
  have b1 := lb l1 p1
  refine ⟨l1 % mm k, l1 / mm k, Nat.mod_lt _ hm, by rw [em]; exact p1, scl (iv (P l1)) P, b, scl_b hb, hP.scl _, ?_, fun l hl => ?_⟩
  · show ml (iv (P l1)) (P _) = e1
    rw [em, ml_comm, ml_iv _ p1]
  · have pl : P l ≠ z0 := fun q => hl (by show ml _ (P l) = z0; rw [q, ml_zero])
    have bl := lb l pl
    have mlt := Nat.mod_lt l hm
    rw [em, c1]
    have a1 : ¬ mm k - 1 - l % mm k < r := fun q => hr _ q ⟨l, pl, rfl⟩
    by_cases q : l % mm k = l0 % mm k
    · have a2 : ¬ b - l < s := fun z => hs _ z ⟨l, pl, q, rfl⟩
      exact Or.inr ⟨q, by omega⟩
    · exact Or.inl (by omega)
/-- more numbers than are left make one of R A -/
theorem ecl_ex {k n i : Nat} {A : Pl k} (hA : IsDg A (n : Int)) (hi : i < mm k) : ∃ d : Nat, Ecl A i d := by
  apply Classical.byContradiction
  intro hno
  have hm := mm_pos k
  -- the one of number c on the class i
  have hP : ∀ c : Nat, ∃ P : Pl k, P = fun l => if l % mm k = i ∧ l / mm k < n + 1 then el k (dgn (qq k) c (l / mm k)) else z0 := fun c => ⟨_, rfl⟩
  have hbd : ∀ c : Nat, Bd (fun l => if l % mm k = i ∧ l / mm k < n + 1 then el k (dgn (qq k) c (l / mm k)) else z0) ((n + 1) * mm k) := fun c l hl => if_neg (fun q => by
    have h1 : n + 1 ≤ l / mm k := by rw [Nat.le_div_iff_mul_le hm]; exact hl
    omega)
  have := inj_le (g := fun c => cdp (dr 0 (fun l => if l % mm k = i ∧ l / mm k < n + 1 then el k (dgn (qq k) c (l / mm k)) else z0) A) n) (a := unq k (n + 1)) (b := unq k n) (fun c _ => cdp_lt _ n) (fun c c' hc hc' e => by
    have e2 : dr 0 (fun l => if l % mm k = i ∧ l / mm k < n + 1 then el k (dgn (qq k) c (l / mm k)) else z0) A = dr 0 (fun l => if l % mm k = i ∧ l / mm k < n + 1 then el k (dgn (qq k) c' (l / mm k)) else z0) A := by
      rw [bnp_cdp (dr_bd 0 hA (hbd c)), bnp_cdp (dr_bd 0 hA (hbd c'))]
      exact congrArg _ e
    have d1 := dr_sub hA (hbd c)
    have d2 := dr_sub hA (hbd c')
    rw [← e2] at d2
    generalize dr 0 (fun l => if l % mm k = i ∧ l / mm k < n + 1 then el k (dgn (qq k) c (l / mm k)) else z0) A = R at d1 d2
    have hI := d1.sub d2
    have hz : sbp (fun l => if l % mm k = i ∧ l / mm k < n + 1 then el k (dgn (qq k) c (l / mm k)) else z0) (fun l => if l % mm k = i ∧ l / mm k < n + 1 then el k (dgn (qq k) c' (l / mm k)) else z0) = pz := by
      apply Classical.byContradiction
      intro hne
      have hI2 : InL (sbp (fun l => if l % mm k = i ∧ l / mm k < n + 1 then el k (dgn (qq k) c (l / mm k)) else z0) (fun l => if l % mm k = i ∧ l / mm k < n + 1 then el k (dgn (qq k) c' (l / mm k)) else z0)) A := by
        have e3 : ∀ f g : Pl k, sbp (sbp f R) (sbp g R) = sbp f g := fun f g => by
          funext j
          show ad (ad (f j) (ng (R j))) (ng (ad (g j) (ng (R j)))) = ad (f j) (ng (g j))
          rw [ng_ad, ng_ng, ad4, ad_comm (ng (R j)), ad_neg, ad_zero]
        rw [e3] at hI
        exact hI
      obtain ⟨i', d, h1, h2, h3⟩ := ecl_of (Bd_sbp' (hbd c) (hbd c')) hI2 hne
      have h4 : (d * mm k + i') % mm k = i' := by rw [Nat.mul_comm, Nat.mul_add_mod, Nat.mod_eq_of_lt h1]
      have h5 : i' = i := by
        apply Classical.byContradiction
        intro q
        apply h2
        show ad (if (d * mm k + i') % mm k = i ∧ _ then _ else z0) (ng (if (d * mm k + i') % mm k = i ∧ _ then _ else z0)) = z0
        rw [if_neg (fun z => q (by rw [← h4]; exact z.1)), if_neg (fun z => q (by rw [← h4]; exact z.1)), ng_z, ad_zero]
      rw [h5] at h3
      exact hno ⟨d, h3⟩
    have key : ∀ j : Nat, j < n + 1 → dgn (qq k) c j = dgn (qq k) c' j := fun j hj => by
      have w := congrFun hz (j * mm k + i)
      have h4 : (j * mm k + i) % mm k = i := by rw [Nat.mul_comm, Nat.mul_add_mod, Nat.mod_eq_of_lt hi]
      have h5 : (j * mm k + i) / mm k = j := by rw [Nat.mul_comm, Nat.mul_add_div hm, Nat.div_eq_of_lt hi, Nat.add_zero]
      have w2 : ad (if (j * mm k + i) % mm k = i ∧ (j * mm k + i) / mm k < n + 1 then el k (dgn (qq k) c ((j * mm k + i) / mm k)) else z0) (ng (if (j * mm k + i) % mm k = i ∧ (j * mm k + i) / mm k < n + 1 then el k (dgn (qq k) c' ((j * mm k + i) / mm k)) else z0)) = z0 := w
      rw [h4, h5, if_pos ⟨rfl, hj⟩, if_pos ⟨rfl, hj⟩] at w2
      have w3 := congrArg Fin.val (ng_eq0 w2)
      rw [dgn_val, dgn_val] at w3
      exact w3
    have e3 : bnp (k := k) (n + 1) c = bnp (n + 1) c' := by
      funext j
      show (if j < n + 1 then el k (dgn (qq k) c j) else z0) = if j < n + 1 then el k (dgn (qq k) c' j) else z0
      by_cases q : j < n + 1
      · rw [if_pos q, if_pos q, key j q]
      · rw [if_neg q, if_neg q]
    rw [← cdp_bnp (k := k) hc, ← cdp_bnp (k := k) hc', e3])
  rw [unq_s] at this
  have h1 := unq_pos k n
  have h2 := qq_ge k
  have h3 : unq k n * 2 ≤ unq k n * qq k := Nat.mul_le_mul_left _ (by omega)
  omega
