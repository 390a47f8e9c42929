/-! polynomials: what the class's cells hold -/
abbrev Pl (k : Nat) : Type := Nat → El k
def pz {k : Nat} : Pl k := fun _ => z0
def Bd {k : Nat} (f : Pl k) (n : Nat) : Prop := ∀ j : Nat, n ≤ j → f j = z0
def dgN {k : Nat} (f : Pl k) : Nat → Int
  | 0 => -1
  | n + 1 => if f n = z0 then dgN f n else (n : Int)
/-- DEGREE -/
def dg {k : Nat} (f : Pl k) : Int := dgN f 64
def IsDg {k : Nat} (f : Pl k) (d : Int) : Prop := -1 ≤ d ∧ (∀ j : Nat, d < (j : Int) → f j = z0) ∧ (0 ≤ d → f d.toNat ≠ z0)
theorem dgN_spec {k : Nat} (f : Pl k) : ∀ n : Nat, -1 ≤ dgN f n ∧ dgN f n < (n : Int) ∧ (∀ j : Nat, dgN f n < (j : Int) → j < n → f j = z0) ∧ (0 ≤ dgN f n → f (dgN f n).toNat ≠ z0)
  | 0 => ⟨by show (-1 : Int) ≤ -1; decide, by show (-1 : Int) < 0; decide, fun j _ h => by omega, fun h => absurd h (by show ¬ (0 : Int) ≤ -1; decide)⟩
  | n + 1 => by
    obtain ⟨h1, h2, h3, h4⟩ := dgN_spec f n
    unfold dgN
    by_cases h : f n = z0
    · rw [if_pos h]
      refine ⟨h1, by omega, fun j hj hn => ?_, h4⟩
      by_cases e : j = n
      · rw [e]; exact h
      · exact h3 j hj (by omega)
    · rw [if_neg h]
      exact ⟨by omega, by omega, fun j hj hn => by omega, fun _ => by rw [Int.toNat_natCast]; exact h⟩
theorem IsDg.uniq {k : Nat} {f : Pl k} {d d' : Int} (h : IsDg f d) (h' : IsDg f d') : d = d' := by
  rcases Int.lt_trichotomy d d' with q | q | q
  · have h1 := h'.2.2 (by have := h.1; omega)
    exact absurd (h.2.1 d'.toNat (by have := h.1; omega)) h1
  · exact q
  · have h1 := h.2.2 (by have := h'.1; omega)
    exact absurd (h'.2.1 d.toNat (by have := h'.1; omega)) h1
theorem dg_is {k : Nat} {f : Pl k} (h : Bd f 64) : IsDg f (dg f) := by
  obtain ⟨h1, h2, h3, h4⟩ := dgN_spec f 64
  refine ⟨h1, fun j hj => ?_, h4⟩
  by_cases e : j < 64
  · exact h3 j hj e
  · exact h j (by omega)
theorem dg_eq {k : Nat} {f : Pl k} {d : Int} (h : Bd f 64) (hd : IsDg f d) : dg f = d := (dg_is h).uniq hd
theorem Bd.mono {k : Nat} {f : Pl k} {n m : Nat} (h : Bd f n) (hm : n ≤ m) : Bd f m := fun j hj => h j (by omega)
theorem dg_lt {k : Nat} {f : Pl k} {n : Nat} (h : Bd f n) (hn : n ≤ 64) : dg f < (n : Int) := by
  rcases Int.lt_or_le (dg f) n with q | q
  · exact q
  · exact absurd (h (dg f).toNat (by omega)) ((dg_is (h.mono hn)).2.2 (by omega))
theorem dg_ge {k : Nat} (f : Pl k) : -1 ≤ dg f := (dgN_spec f 64).1
theorem dg_bd {k : Nat} {f : Pl k} {n : Nat} (h : Bd f 64) (hd : dg f < (n : Int)) : Bd f n := fun j hj => (dg_is h).2.1 j (by omega)
theorem dg_neg {k : Nat} {f : Pl k} (h : Bd f 64) : dg f < 0 ↔ f = pz := by
  constructor
  · intro q
    funext j
    exact (dg_is h).2.1 j (by omega)
  · intro q
    subst q
    rw [dg_eq (f := pz) (d := -1) (fun _ _ => rfl) ⟨by decide, fun _ _ => rfl, fun q => absurd q (by decide)⟩]
    decide
theorem dg_pz {k : Nat} : dg (pz : Pl k) = -1 := dg_eq (fun _ _ => rfl) ⟨by decide, fun _ _ => rfl, fun q => absurd q (by decide)⟩
def up1 {k : Nat} (f : Pl k) (j : Nat) (v : El k) : Pl k := fun i => if i = j then v else f i
/-- the number at t^j, of any j -/
def cf {k : Nat} (f : Pl k) (j : Int) : El k := if 0 ≤ j then f j.toNat else z0
theorem cf_nat {k : Nat} (f : Pl k) (j : Nat) : cf f (j : Int) = f j := by unfold cf; rw [if_pos (by omega)]; rfl
/-- LEADING -/
def ld {k : Nat} (f : Pl k) : El k := cf f (dg f)
def isP (p : Int) : Prop := (8 ≤ p ∧ p ≤ 159) ∧ S0[p.toNat]? = some (0, 6, [p + 1, -1]) ∧ S0[(p + 1).toNat]? = some (1, 17, [])
theorem isP.nn {p : Int} (h : isP p) : 0 ≤ p := by have := h.1; omega
theorem isP.lb {p : Int} (h : isP p) : p.toNat < 198 := by have := h.1; omega
theorem isP.o {p : Int} (h : isP p) : S0[p.toNat]? = some (0, 6, [p + 1, -1]) := h.2.1
theorem isP.ap {p q : Int} (h : isP p) (h' : isP q) : p ≠ q + 1 := by
  intro e
  have h1 := h.2.1
  have h2 := h'.2.2
  rw [← e, h1] at h2
  cases h2
def isPs (p : Int) : Bool := decide (8 ≤ p ∧ p ≤ 159) && decide (S0[p.toNat]? = some (0, 6, [p + 1, -1])) && decide (S0[(p + 1).toNat]? = some (1, 17, []))
theorem isP_of {p : Int} (h : isPs p = true) : isP p := by
  simp only [isPs, Bool.and_eq_true, decide_eq_true_eq] at h
  exact ⟨h.1.1, h.1.2, h.2⟩
/-- the cells of a polynomial -/
def IsPl (M : Mem) {k : Nat} (p : Int) (f : Pl k) : Prop := (∀ j : Nat, j < 17 → M (p + 1) (j : Int) = ((f j).val : Int)) ∧ Bd f 17 ∧ M p 1 = dg f
/-- stale cells of a polynomial: nothing stands above its top -/
def JK (M : Mem) (p : Int) : Prop := (-1 ≤ M p 1 ∧ M p 1 ≤ 16) ∧ (∀ j : Nat, j < 17 → 0 ≤ M (p + 1) (j : Int) ∧ M (p + 1) (j : Int) ≤ 15) ∧ ∀ j : Nat, M p 1 < (j : Int) → j < 17 → M (p + 1) (j : Int) = 0
theorem IsPl.jk {M : Mem} {k : Nat} {p : Int} {f : Pl k} (h : IsPl M p f) : JK M p := by
  obtain ⟨h1, h2, h3⟩ := h
  have hd := dg_lt h2 (show 17 ≤ 64 by decide)
  have hg := dg_ge f
  refine ⟨by omega, fun j hj => by rw [h1 j hj]; exact el_I _, fun j h4 h5 => ?_⟩
  rw [h1 j h5, (dg_is (h2.mono (show 17 ≤ 64 by decide))).2.1 j (by omega)]
  exact el0
def PS (M : Mem) {k : Nat} (P : Int → Option (Pl k)) : Prop := ∀ p : Int, isP p → JK M p ∧ ∀ f : Pl k, P p = some f → IsPl M p f
/-- the class's field is k, its polynomials are P, where they are not stale -/
def CS (M : Mem) (k : Nat) (P : Int → Option (Pl k)) : Prop := FS M k ∧ PS M P
/-- a polynomial that is not stale, and which it is -/
def isC {k : Nat} (P : Int → Option (Pl k)) (p : Int) (f : Pl k) : Prop := isP p ∧ P p = some f
/-- nothing but polynomials has changed -/
def NPS (M M' : Mem) : Prop := ∀ a : Int, (∀ p : Int, isP p → a ≠ p ∧ a ≠ p + 1) → M' a = M a
theorem NPS.rf {M : Mem} : NPS M M := fun _ _ => rfl
theorem NPS.tr {M M1 M2 : Mem} (h : NPS M M1) (h' : NPS M1 M2) : NPS M M2 := fun a ha => (h' a ha).trans (h a ha)
theorem FS_low {p : Int} (h : isP p) {x : Int} (h1 : x ≤ 7) : x ≠ p ∧ x ≠ p + 1 := by have := h.1; omega
theorem FS.nps {M M' : Mem} {k : Nat} (F : FS M k) (h : NPS M M') : FS M' k := F.congr fun x _ h2 => h x fun p hp => FS_low hp (by omega)
def pu {k : Nat} (P : Int → Option (Pl k)) (p : Int) (f : Pl k) : Int → Option (Pl k) := fun q => if q = p then some f else P q
theorem pu_eq {k : Nat} {P : Int → Option (Pl k)} {p : Int} {f : Pl k} : pu P p f p = some f := by simp [pu]
theorem pu_ne {k : Nat} {P : Int → Option (Pl k)} {p q : Int} {f : Pl k} (h : q ≠ p) : pu P p f q = P q := by simp [pu, h]
theorem pu_pu {k : Nat} {P : Int → Option (Pl k)} {p : Int} {f g : Pl k} : pu (pu P p f) p g = pu P p g := by
  funext q
  by_cases e : q = p
  · subst e; rw [pu_eq, pu_eq]
  · rw [pu_ne e, pu_ne e, pu_ne e]
theorem CS.F {M : Mem} {k : Nat} {P : Int → Option (Pl k)} (C : CS M k P) : FS M k := C.1
theorem CS.jk {M : Mem} {k : Nat} {P : Int → Option (Pl k)} (C : CS M k P) {p : Int} (hp : isP p) : JK M p := (C.2 p hp).1
theorem CS.pl {M : Mem} {k : Nat} {P : Int → Option (Pl k)} (C : CS M k P) {p : Int} {f : Pl k} (hp : isC P p f) : IsPl M p f := (C.2 p hp.1).2 f hp.2
theorem CS.bd {M : Mem} {k : Nat} {P : Int → Option (Pl k)} (C : CS M k P) {p : Int} {f : Pl k} (hp : isC P p f) : Bd f 17 := (C.pl hp).2.1
theorem CS.t {M : Mem} {k : Nat} {P : Int → Option (Pl k)} (C : CS M k P) {p : Int} {f : Pl k} (hp : isC P p f) : M p 1 = dg f := (C.pl hp).2.2
theorem CS.at {M : Mem} {k : Nat} {P : Int → Option (Pl k)} (C : CS M k P) {p : Int} {f : Pl k} (hp : isC P p f) {j : Nat} (hj : j < 17) : M (p + 1) (j : Int) = ((f j).val : Int) := (C.pl hp).1 j hj
theorem CS.dI {M : Mem} {k : Nat} {P : Int → Option (Pl k)} (C : CS M k P) {p : Int} {f : Pl k} (hp : isC P p f) : -1 ≤ dg f ∧ dg f ≤ 16 := ⟨dg_ge _, by have := dg_lt (C.bd hp) (by decide); omega⟩
/-- one polynomial is written, whatever happened to it on the way -/
theorem CS.wr {M N : Mem} {k : Nat} {P : Int → Option (Pl k)} (C : CS M k P) {p : Int} (hp : isP p) {g : Pl k} (h1 : ∀ j : Nat, j < 17 → N (p + 1) (j : Int) = ((g j).val : Int)) (h2 : Bd g 17) (h3 : N p 1 = dg g) (h4 : ∀ a : Int, a ≠ p → a ≠ p + 1 → N a = M a) : CS N k (pu P p g) ∧ NPS M N := by
  have hn : NPS M N := fun a ha => h4 a (ha p hp).1 (ha p hp).2
  refine ⟨⟨C.1.nps hn, fun q hq => ?_⟩, hn⟩
  by_cases e : q = p
  · subst e
    refine ⟨IsPl.jk (f := g) ⟨h1, h2, h3⟩, fun f hf => ?_⟩
    rw [pu_eq] at hf
    cases hf
    exact ⟨h1, h2, h3⟩
  · have a1 : q + 1 ≠ p := fun w => hp.ap hq w.symm
    have a2 : q ≠ p + 1 := hq.ap hp
    have r1 := h4 q e a2
    have r2 := h4 (q + 1) a1 (by omega)
    obtain ⟨j1, j2⟩ := C.2 q hq
    refine ⟨?_, fun f hf => ?_⟩
    · unfold JK; rw [r1, r2]; exact j1
    · rw [pu_ne e] at hf
      have := j2 f hf
      unfold IsPl
      rw [r1, r2]
      exact this
theorem CS.congr {M N : Mem} {k : Nat} {P : Int → Option (Pl k)} (C : CS M k P) (h : ∀ a : Int, (1 ≤ a ∧ a ≤ 6) ∨ (∃ p, isP p ∧ (a = p ∨ a = p + 1)) → N a = M a) : CS N k P := by
  refine ⟨C.1.congr fun x h1 h2 => h x (Or.inl ⟨h1, h2⟩), fun p hp => ?_⟩
  have r1 := h p (Or.inr ⟨p, hp, Or.inl rfl⟩)
  have r2 := h (p + 1) (Or.inr ⟨p, hp, Or.inr rfl⟩)
  obtain ⟨j1, j2⟩ := C.2 p hp
  refine ⟨?_, fun f hf => ?_⟩
  · unfold JK; rw [r1, r2]; exact j1
  · have := j2 f hf
    unfold IsPl
    rw [r1, r2]
    exact this
/-- one forgets what a polynomial is -/
theorem CS.less {M : Mem} {k : Nat} {P Q : Int → Option (Pl k)} (C : CS M k P) (h : ∀ p : Int, Q p = P p ∨ Q p = none) : CS M k Q := ⟨C.1, fun p hp => ⟨(C.2 p hp).1, fun f hf => by
  rcases h p with e | e
  · exact (C.2 p hp).2 f (by rw [← e]; exact hf)
  · rw [e] at hf; cases hf⟩⟩
section PW
variable {d t i pc len c' : Nat} {a b' : Int} {L st : List AV} {M : Mem} {Φ : AV → Mem → Prop} {K : List Rw} {p j v : Int}
theorem w_pa (hK : cd t = K) (hc : K[i]? = some (pc, len, 40, 6, 0, c')) (hp : isP p) (h : Wp 198 d t (i + 1) L ((1, p + 1) :: st) M Φ) : Wp 198 d t i L ((1, p) :: st) M Φ := w_getr (ci := 6) (n := 0) hK hc hp.o hp.nn hp.lb rfl rfl rfl rfl h
theorem w_pt (hK : cd t = K) (hc : K[i]? = some (pc, len, 40, 6, 1, c')) (hp : isP p) (h : Wp 198 d t (i + 1) L ((0, M p 1) :: st) M Φ) : Wp 198 d t i L ((1, p) :: st) M Φ := w_geti (ci := 6) (n := 1) (m := 1) hK hc hp.o hp.nn hp.lb rfl rfl rfl rfl h
theorem w_ptput (hK : cd t = K) (hc : K[i]? = some (pc, len, 41, 6, 1, c')) (hp : isP p) (h : Wp 198 d t (i + 1) L st (up M p 1 v) Φ) : Wp 198 d t i L ((0, v) :: (1, p) :: st) M Φ := w_puti (ci := 6) (n := 1) (m := 1) hK hc hp.o hp.nn hp.lb rfl rfl rfl rfl h
theorem isP.nn1 {p : Int} (h : isP p) : 0 ≤ p + 1 := by have := h.1; omega
theorem isP.lb1 {p : Int} (h : isP p) : (p + 1).toNat < 198 := by have := h.1; omega
theorem w_plen (hK : cd t = K) (hc : K[i]? = some (pc, len, 42, a, b', c')) (hp : isP p) (h : Wp 198 d t (i + 1) L ((0, 17) :: st) M Φ) : Wp 198 d t i L ((1, p + 1) :: st) M Φ := w_len hK hc hp.2.2 hp.nn1 hp.lb1 rfl h
theorem w_pia (hK : cd t = K) (hc : K[i]? = some (pc, len, 43, a, b', c')) (hp : isP p) (h0 : 0 ≤ j) (h1 : j < 17) (h : Wp 198 d t (i + 1) L ((0, M (p + 1) j) :: st) M Φ) : Wp 198 d t i L ((0, j) :: (1, p + 1) :: st) M Φ := w_ia hK hc hp.2.2 hp.nn1 hp.lb1 h0 (by omega) h
theorem w_piat (hK : cd t = K) (hc : K[i]? = some (pc, len, 44, a, b', c')) (hp : isP p) (h0 : 0 ≤ j) (h1 : j < 17) (h : Wp 198 d t (i + 1) L st (up M (p + 1) j v) Φ) : Wp 198 d t i L ((0, v) :: (0, j) :: (1, p + 1) :: st) M Φ := w_iat hK hc hp.2.2 hp.nn1 hp.lb1 h0 (by omega) h
end PW
theorem cf_bd {k : Nat} {f : Pl k} (h : Bd f 17) {j : Int} (hj : j < 0 ∨ 17 ≤ j) : cf f j = z0 := by
  unfold cf
  split
  · exact h _ (by omega)
  · rfl
theorem isC.nn {k : Nat} {P : Int → Option (Pl k)} {p : Int} {f : Pl k} (h : isC P p f) : 0 ≤ p := h.1.nn
def gup (g : Nat → Int) (j : Nat) (w : Int) : Nat → Int := fun i => if i = j then w else g i
theorem gup_I {g : Nat → Int} {j : Nat} {w : Int} (h : ∀ i, i < 17 → 0 ≤ g i ∧ g i ≤ 15) (h0 : 0 ≤ w) (h1 : w ≤ 15) : ∀ i, i < 17 → 0 ≤ gup g j w i ∧ gup g j w i ≤ 15 := fun i hi => by
  unfold gup
  split
  · exact ⟨h0, h1⟩
  · exact h i hi
set_option maxRecDepth 100000 in
theorem c_max {d b : Nat} {M : Mem} (x y : Int) (h1 : -2147483648 ≤ x) (h2 : x ≤ 2147483647) (h3 : -2147483648 ≤ y) (h4 : y ≤ 2147483647) : Ct b (d) 305 [(0, x), (0, y)] M (fun r M' => r = (0, max x y) ∧ M' = M) := by
  have hK : cd 305 = k305 := rfl
  show Wp b _ 305 0 [(0, x), (0, y)] [] M _
  refine w_il hK rfl rfl ?_
  refine w_il hK rfl rfl ?_
  refine w_lt2 hK rfl (by omega) (by omega) (by omega) (by omega) (fun h2 => ?_) (fun h2 => ?_)
  · refine w_il hK rfl rfl ?_
    refine w_iret hK rfl rfl ?_
    exact ⟨congrArg (Prod.mk 0) (by omega), rfl⟩
  · refine w_il hK rfl rfl ?_
    refine w_goto hK rfl ?_
    refine w_iret hK rfl rfl ?_
    exact ⟨congrArg (Prod.mk 0) (by omega), rfl⟩
set_option maxRecDepth 100000 in
theorem c_at0 {d : Nat} {M : Mem} {k : Nat} {f : Pl k} {p : Int} (hp : isP p) (hA : ∀ i : Nat, i < 17 → M (p + 1) (i : Int) = ((f i).val : Int)) (hf : Bd f 17) (j : Int) (h1 : -2147483648 ≤ j) (h2 : j ≤ 2147483647) : Ct 198 (d) 25 [(1, p), (0, j)] M (fun r M' => r = (0, ((cf f j).val : Int)) ∧ M' = M) := by
  have hK : cd 25 = k25 := rfl
  show Wp 198 _ 25 0 [(1, p), (0, j)] [] M _
  refine w_il hK rfl rfl ?_
  refine w_lt hK rfl (by omega) (by omega) (fun h1 => ?_) (fun h1 => ?_)
  · refine w_ic hK rfl ?_
    refine w_iret hK rfl rfl ?_
    exact ⟨by rw [cf_bd hf (by omega), el0], rfl⟩
  · refine w_il hK rfl rfl ?_
    refine w_al hK rfl rfl ?_
    refine w_pa hK rfl hp ?_
    refine w_plen hK rfl hp ?_
    refine w_ge2 hK rfl (by omega) (by omega) (by omega) (by omega) (fun h6 => ?_) (fun h6 => ?_)
    · refine w_ic hK rfl ?_
      refine w_iret hK rfl rfl ?_
      exact ⟨by rw [cf_bd hf (by omega), el0], rfl⟩
    · refine w_al hK rfl rfl ?_
      refine w_pa hK rfl hp ?_
      refine w_il hK rfl rfl ?_
      refine w_pia hK rfl hp (by omega) (by omega) ?_
      refine w_goto hK rfl ?_
      refine w_iret hK rfl rfl ?_
      have e := hA j.toNat (by omega)
      rw [Int.toNat_of_nonneg (by omega)] at e
      exact ⟨by rw [e]; unfold cf; rw [if_pos (by omega)], rfl⟩
theorem c_at {d : Nat} {M : Mem} {k : Nat} {P : Int → Option (Pl k)} (C : CS M k P) {p : Int} {f : Pl k} (hp : isC P p f) (j : Int) (h1 : -2147483648 ≤ j) (h2 : j ≤ 2147483647) : Ct 198 d 25 [(1, p), (0, j)] M (fun r M' => r = (0, ((cf f j).val : Int)) ∧ M' = M) := c_at0 hp.1 (fun i hi => C.at hp hi) (C.bd hp) j h1 h2
theorem c_atN {d : Nat} {M : Mem} {k : Nat} {P : Int → Option (Pl k)} (C : CS M k P) {p : Int} {f : Pl k} (hp : isC P p f) (j : Nat) (hj : j ≤ 1000) : Ct 198 d 25 [(1, p), (0, (j : Int))] M (fun r M' => r = (0, ((f j).val : Int)) ∧ M' = M) := by
  have h := c_at (d := d) C hp (j : Int) (by omega) (by omega)
  rw [cf_nat] at h
  exact h
theorem up1_bd {k : Nat} {f : Pl k} (h : Bd f 17) {j : Nat} (hj : j < 17) (v : El k) : Bd (up1 f j v) 17 := fun i hi => by unfold up1; rw [if_neg (by omega)]; exact h i hi
set_option maxRecDepth 100000 in
theorem c_putJ {d : Nat} {M : Mem} {p : Int} (hp : isP p) {g : Nat → Int} (hg : ∀ i : Nat, i < 17 → M (p + 1) (i : Int) = g i) (gb : ∀ i : Nat, i < 17 → 0 ≤ g i ∧ g i ≤ 15) (hd : -1 ≤ M p 1 ∧ M p 1 ≤ 16) (ht : ∀ i : Nat, M p 1 < (i : Int) → i < 17 → g i = 0) (j w : Int) (w0 : 0 ≤ w) (w1 : w ≤ 15) (h0 : 0 ≤ j) (h16 : j < 17) : Ct 198 (d) 23 [(1, p), (0, j), (0, w)] M (fun r M' => r = (4, 0) ∧ (∀ i : Nat, i < 17 → M' (p + 1) (i : Int) = gup g j.toNat w i) ∧ (-1 ≤ M' p 1 ∧ M' p 1 ≤ 16) ∧ (∀ i : Nat, M' p 1 < (i : Int) → i < 17 → gup g j.toNat w i = 0) ∧ (0 ≤ M' p 1 → gup g j.toNat w (M' p 1).toNat ≠ 0) ∧ ∀ a : Int, a ≠ p → a ≠ p + 1 → M' a = M a) := by
  have hK : cd 23 = k23 := rfl
  show Wp 198 _ 23 0 [(1, p), (0, j), (0, w)] [] M _
  have lp22 : ∀ (n_ : Nat)  (N22 : Mem), (N22 p 1 + 1).toNat = n_ → (∀ i : Nat, i < 17 → N22 (p + 1) (i : Int) = gup g j.toNat w i) → (-1 ≤ N22 p 1 ∧ N22 p 1 ≤ 16) → (∀ i : Nat, N22 p 1 < (i : Int) → i < 17 → gup g j.toNat w i = 0) → (∀ a : Int, a ≠ p → a ≠ p + 1 → N22 a = M a) → Wp 198 (d) 23 22 [(1, p), (0, j), (0, w)] [] N22 (fun r M' => r = (4, 0) ∧ (∀ i : Nat, i < 17 → M' (p + 1) (i : Int) = gup g j.toNat w i) ∧ (-1 ≤ M' p 1 ∧ M' p 1 ≤ 16) ∧ (∀ i : Nat, M' p 1 < (i : Int) → i < 17 → gup g j.toNat w i = 0) ∧ (0 ≤ M' p 1 → gup g j.toNat w (M' p 1).toNat ≠ 0) ∧ ∀ a : Int, a ≠ p → a ≠ p + 1 → M' a = M a) := by
    intro n_
    induction n_ using Nat.strongRecOn with
    | _ n_ ih22 =>
    intro  N22 hm22 hA hB hC hD
    refine w_al hK rfl rfl ?_
    refine w_pt hK rfl hp ?_
    refine w_lt hK rfl (by omega) (by omega) (fun h24 => ?_) (fun h24 => ?_)
    · refine w_ret hK rfl rfl ?_
      exact ⟨rfl, hA, hB, hC, fun q => absurd q (by omega), hD⟩
    · refine w_al hK rfl rfl ?_
      refine w_pt hK rfl hp ?_
      refine w_al hK rfl rfl ?_
      refine w_pa hK rfl hp ?_
      refine w_plen hK rfl hp ?_
      refine w_ge2 hK rfl (by omega) (by omega) (by omega) (by omega) (fun h30 => ?_) (fun h30 => ?_)
      · exfalso; omega
      · refine w_al hK rfl rfl ?_
        refine w_pa hK rfl hp ?_
        refine w_al hK rfl rfl ?_
        refine w_pt hK rfl hp ?_
        refine w_pia hK rfl hp (by omega) (by omega) ?_
        have e36 := hA (N22 p 1).toNat (by omega)
        rw [Int.toNat_of_nonneg (by omega)] at e36
        have b36 := gup_I (j := j.toNat) gb w0 w1 (N22 p 1).toNat (by omega)
        refine w_ne hK rfl (by omega) (by omega) (fun h36 => ?_) (fun h36 => ?_)
        · refine w_ret hK rfl rfl ?_
          exact ⟨rfl, hA, hB, hC, fun q => by
            have e2 := hA (N22 p 1).toNat (by omega)
            rw [Int.toNat_of_nonneg q] at e2
            omega, hD⟩
        · refine w_al hK rfl rfl ?_
          refine w_dup hK rfl rfl ?_
          refine w_pt hK rfl hp ?_
          refine w_ic hK rfl ?_
          refine w_sub hK rfl (by omega) (by omega) ?_
          refine w_ptput hK rfl hp ?_
          refine w_goto hK rfl ?_
          exact ih22 _ (by rw [up_eq]; omega)  (up N22 p 1 ((N22 p 1) - 1)) rfl (fun i hi => by rw [up_ne (by omega)]; exact hA i hi) (by rw [up_eq]; omega) (fun i hi hi2 => by
                  rw [up_eq] at hi
                  by_cases e : (i : Int) = N22 p 1
                  · have e2 := hA i (by omega)
                    rw [e] at e2
                    omega
                  · exact hC i (by omega) hi2) (fun a a1 a2 => by rw [up_row a1]; exact hD a a1 a2)
  refine w_il hK rfl rfl ?_
  refine w_lt hK rfl (by omega) (by omega) (fun h1 => ?_) (fun h1 => ?_)
  · exfalso; omega
  · refine w_il hK rfl rfl ?_
    refine w_al hK rfl rfl ?_
    refine w_pa hK rfl hp ?_
    refine w_plen hK rfl hp ?_
    refine w_lt2 hK rfl (by omega) (by omega) (by omega) (by omega) (fun h6 => ?_) (fun h6 => ?_)
    · refine w_al hK rfl rfl ?_
      refine w_pa hK rfl hp ?_
      refine w_il hK rfl rfl ?_
      refine w_il hK rfl rfl ?_
      refine w_piat hK rfl hp (by omega) (by omega) ?_
      refine w_il hK rfl rfl ?_
      refine w_eq hK rfl (by omega) (by omega) (fun h14 => ?_) (fun h14 => ?_)
      · exact lp22 _  (up M (p + 1) j w) rfl (fun i hi => by
              by_cases e : i = j.toNat
              · subst e; rw [Int.toNat_of_nonneg (by omega), up_eq]; simp [gup]
              · rw [up_ne2 (by omega), hg i hi]; simp [gup, e]) (by rw [up_ne (by omega)]; exact hd) (fun i hi hi2 => by
              rw [up_ne (by omega)] at hi
              unfold gup
              split
              · omega
              · exact ht i hi hi2) (fun a a1 a2 => by rw [up_row a2])
      · refine w_il hK rfl rfl ?_
        refine w_al hK rfl rfl ?_
        refine w_pt hK rfl hp ?_
        rw [show up M (p + 1) j w p 1 = M p 1 by rw [up_ne (by omega)]]
        refine w_le2 hK rfl (by omega) (by omega) (by omega) (by omega) (fun h18 => ?_) (fun h18 => ?_)
        · exact lp22 _  (up M (p + 1) j w) rfl (fun i hi => by
                by_cases e : i = j.toNat
                · subst e; rw [Int.toNat_of_nonneg (by omega), up_eq]; simp [gup]
                · rw [up_ne2 (by omega), hg i hi]; simp [gup, e]) (by rw [up_ne (by omega)]; exact hd) (fun i hi hi2 => by
                rw [up_ne (by omega)] at hi
                unfold gup
                split
                · exfalso; omega
                · exact ht i hi hi2) (fun a a1 a2 => by rw [up_row a2])
        · refine w_al hK rfl rfl ?_
          refine w_il hK rfl rfl ?_
          refine w_ptput hK rfl hp ?_
          exact lp22 _  (up (up M (p + 1) j w) p 1 j) rfl (fun i hi => by
                rw [up_ne (by omega)]
                by_cases e : i = j.toNat
                · subst e; rw [Int.toNat_of_nonneg (by omega), up_eq]; simp [gup]
                · rw [up_ne2 (by omega), hg i hi]; simp [gup, e]) (by rw [up_eq]; omega) (fun i hi hi2 => by rw [up_eq] at hi; unfold gup; rw [if_neg (by omega)]; exact ht i (by omega) hi2) (fun a a1 a2 => by rw [up_row a1, up_row a2])
    · exfalso; omega
theorem c_put {d : Nat} {M : Mem} {k : Nat} {P : Int → Option (Pl k)} (C : CS M k P) {p : Int} {f : Pl k} (hp : isC P p f) (j : Int) (w : El k) (h0 : 0 ≤ j) (h16 : j < 17) : Ct 198 (d) 23 [(1, p), (0, j), (0, (w.val : Int))] M (fun r M' => r = (4, 0) ∧ CS M' k (pu P p (up1 f j.toNat w)) ∧ NPS M M') := by
  have hd := C.dI hp
  have ht := (dg_is ((C.bd hp).mono (show 17 ≤ 64 by decide))).2.1
  have he := C.t hp
  have hw := el_I w
  have hgu : ∀ i : Nat, gup (fun i => ((f i).val : Int)) j.toNat (w.val : Int) i = ((up1 f j.toNat w i).val : Int) := fun i => by
    unfold gup up1
    split <;> rfl
  refine (c_putJ hp.1 (g := fun i => ((f i).val : Int)) (fun i hi => C.at hp hi) (fun i _ => el_I _) (by omega) (fun i h1 h2 => by rw [ht i (by omega)]; exact el0) j (w.val : Int) hw.1 hw.2 h0 h16).imp fun r M' h => ?_
  obtain ⟨h1, h2, h3, h4, h5, h6⟩ := h
  have hb := up1_bd (C.bd hp) (j := j.toNat) (by omega) w
  have hdg : IsDg (up1 f j.toNat w) (M' p 1) := ⟨h3.1, fun i hi => by
    by_cases q : i < 17
    · have := h4 i hi q
      rw [hgu i] at this
      exact z0_iff.mpr (by omega)
    · exact hb i (by omega), fun q e => h5 q (by rw [hgu, e]; exact el0)⟩
  obtain ⟨o1, o2⟩ := C.wr hp.1 (fun i hi => (h2 i hi).trans (hgu i)) hb (dg_eq (hb.mono (by decide)) hdg).symm h6
  exact ⟨h1, o1, o2⟩
set_option maxRecDepth 100000 in
theorem c_clear {d : Nat} {M : Mem} {k : Nat} {P : Int → Option (Pl k)} (C : CS M k P) {p : Int} (hp : isP p) : Ct 198 (d) 22 [(1, p)] M (fun r M' => r = (4, 0) ∧ CS M' k (pu P p pz) ∧ NPS M M') := by
  have hK : cd 22 = k22 := rfl
  obtain ⟨hd, hjb, ht⟩ := C.jk hp
  show Wp 198 _ 22 0 [(1, p), (3, 0)] [] M _
  refine w_ic hK rfl ?_
  refine w_is [(1, p), (0, 0)] hK rfl rfl rfl ?_
  have lp2 : ∀ (n_ : Nat) (j : Nat) (N2 : Mem), 17 - j = n_ → (j ≤ 17) → (∀ i : Nat, i < 17 → N2 (p + 1) (i : Int) = if i < j then 0 else M (p + 1) (i : Int)) → (N2 p 1 = M p 1) → (∀ a : Int, a ≠ p → a ≠ p + 1 → N2 a = M a) → Wp 198 (d) 22 2 [(1, p), (0, (j : Int))] [] N2 (fun r M' => r = (4, 0) ∧ CS M' k (pu P p pz) ∧ NPS M M') := by
    intro n_
    induction n_ using Nat.strongRecOn with
    | _ n_ ih2 =>
    intro j N2 hm2 hj hA hB hD
    refine w_il hK rfl rfl ?_
    refine w_al hK rfl rfl ?_
    refine w_pt hK rfl hp ?_
    rw [hB]
    refine w_gt2 hK rfl (by omega) (by omega) (by omega) (by omega) (fun h5 => ?_) (fun h5 => ?_)
    · refine w_al hK rfl rfl ?_
      refine w_ic hK rfl ?_
      refine w_ptput hK rfl hp ?_
      refine w_ret hK rfl rfl ?_
      obtain ⟨o1, o2⟩ := C.wr (N := (up N2 p 1 (-1))) hp (g := pz) (fun i hi => by
        rw [up_ne (by omega), hA i hi]
        split
        · exact el0.symm
        · rw [ht i (by omega) hi]; exact el0.symm) (fun _ _ => rfl) (by rw [up_eq, dg_pz]) (fun a a1 a2 => by rw [up_row a1]; exact hD a a1 a2)
      exact ⟨rfl, o1, o2⟩
    · refine w_il hK rfl rfl ?_
      refine w_al hK rfl rfl ?_
      refine w_pa hK rfl hp ?_
      refine w_plen hK rfl hp ?_
      refine w_ge2 hK rfl (by omega) (by omega) (by omega) (by omega) (fun h10 => ?_) (fun h10 => ?_)
      · exfalso; omega
      · refine w_al hK rfl rfl ?_
        refine w_pa hK rfl hp ?_
        refine w_il hK rfl rfl ?_
        refine w_ic hK rfl ?_
        refine w_piat hK rfl hp (by omega) (by omega) ?_
        refine w_inc [(1, p), (0, ((j : Int) + 1))] hK rfl rfl rfl (by omega) (by omega) rfl ?_
        refine w_goto hK rfl ?_
        exact ih2 _ (by omega) (j + 1) (up N2 (p + 1) (j : Int) 0) rfl (by omega) (fun i hi => by
          by_cases e : i = j
          · subst e; rw [up_eq, if_pos (by omega)]
          · rw [up_ne2 (by omega), hA i hi]
            by_cases e2 : i < j
            · rw [if_pos e2, if_pos (by omega)]
            · rw [if_neg e2, if_neg (by omega)]) (by rw [up_ne (by omega)]; exact hB) (fun a a1 a2 => by rw [up_row a2]; exact hD a a1 a2)
  exact lp2 _ 0 M rfl (by omega) (fun i hi => by rw [if_neg (by omega)]) rfl (fun _ _ _ => rfl)
/-- a number alone -/
def cst {k : Nat} (v : El k) : Pl k := up1 pz 0 v
/-- t^n -/
def tpw {k : Nat} (n : Nat) : Pl k := up1 pz n e1
set_option maxRecDepth 100000 in
theorem c_bec {d : Nat} {M : Mem} {k : Nat} {P : Int → Option (Pl k)} (C : CS M k P) {p : Int} (hp : isP p) (w : El k) : Ct 198 (d + 1) 27 [(1, p), (0, (w.val : Int))] M (fun r M' => r = (4, 0) ∧ CS M' k (pu P p (cst w)) ∧ NPS M M') := by
  have hK : cd 27 = k27 := rfl
  show Wp 198 _ 27 0 [(1, p), (0, (w.val : Int))] [] M _
  refine w_al hK rfl rfl ?_
  refine w_call [(1, p)] hK rfl rfl rfl rfl (Or.inr ⟨_, _, _, rfl, hp.nn, hp.lb, hp.o⟩) (c_clear C hp) ?_
  rintro _ V1 ⟨rfl, C1, S1⟩
  refine ⟨by decide, (?_ : Wp 198 _ 27 2 [(1, p), (0, (w.val : Int))] [] V1 _)⟩
  refine w_al hK rfl rfl ?_
  refine w_ic hK rfl ?_
  refine w_il hK rfl rfl ?_
  refine w_call [(1, p), (0, 0), (0, (w.val : Int))] hK rfl rfl rfl rfl (Or.inr ⟨_, _, _, rfl, hp.nn, hp.lb, hp.o⟩) (c_put C1 ⟨hp, pu_eq⟩ 0 w (by omega) (by omega)) ?_
  rintro _ V2 ⟨rfl, C2, S2⟩
  refine ⟨by decide, (?_ : Wp 198 _ 27 6 [(1, p), (0, (w.val : Int))] [] V2 _)⟩
  refine w_ret hK rfl rfl ?_
  have o := C2
  rw [pu_pu] at o
  exact ⟨rfl, o, (S1.tr S2)⟩
set_option maxRecDepth 100000 in
theorem c_becT {d : Nat} {M : Mem} {k : Nat} {P : Int → Option (Pl k)} (C : CS M k P) {p : Int} (hp : isP p) (n : Nat) (hn : n < 17) : Ct 198 (d + 1) 33 [(1, p), (0, (n : Int))] M (fun r M' => r = (4, 0) ∧ CS M' k (pu P p (tpw n)) ∧ NPS M M') := by
  have hK : cd 33 = k33 := rfl
  show Wp 198 _ 33 0 [(1, p), (0, (n : Int))] [] M _
  refine w_al hK rfl rfl ?_
  refine w_call [(1, p)] hK rfl rfl rfl rfl (Or.inr ⟨_, _, _, rfl, hp.nn, hp.lb, hp.o⟩) (c_clear C hp) ?_
  rintro _ V3 ⟨rfl, C3, S3⟩
  refine ⟨by decide, (?_ : Wp 198 _ 33 2 [(1, p), (0, (n : Int))] [] V3 _)⟩
  refine w_al hK rfl rfl ?_
  refine w_il hK rfl rfl ?_
  refine w_ic hK rfl ?_
  refine w_call [(1, p), (0, (n : Int)), (0, 1)] hK rfl rfl rfl rfl (Or.inr ⟨_, _, _, rfl, hp.nn, hp.lb, hp.o⟩) (Ct.cv (c_put C3 ⟨hp, pu_eq⟩ (n : Int) e1 (by omega) (by omega)) (by simp only [el1])) ?_
  rintro _ V4 ⟨rfl, C4, S4⟩
  refine ⟨by decide, (?_ : Wp 198 _ 33 6 [(1, p), (0, (n : Int))] [] V4 _)⟩
  refine w_ret hK rfl rfl ?_
  have o := C4
  rw [pu_pu] at o
  exact ⟨rfl, o, (S3.tr S4)⟩
set_option maxRecDepth 100000 in
theorem c_copy {d : Nat} {M : Mem} {k : Nat} {P : Int → Option (Pl k)} (C : CS M k P) {p q : Int} {f : Pl k} (hp : isP p) (hq : isC P q f) : Ct 198 (d + 1) 24 [(1, p), (1, q)] M (fun r M' => r = (4, 0) ∧ CS M' k (pu P p f) ∧ NPS M M') := by
  have hK : cd 24 = k24 := rfl
  obtain ⟨hd, hjb, ht⟩ := C.jk hp
  have hdq := C.dI hq
  have htq := (dg_is ((C.bd hq).mono (show 17 ≤ 64 by decide))).2.1
  show Wp 198 _ 24 0 [(1, p), (1, q), (3, 0), (3, 0)] [] M _
  refine w_al hK rfl rfl ?_
  refine w_pt hK rfl hp ?_
  refine w_al hK rfl rfl ?_
  refine w_pt hK rfl hq.1 ?_
  rw [show M q 1 = dg f from C.t hq]
  refine w_call [(0, (M p 1)), (0, (dg f))] hK rfl rfl rfl rfl (Or.inl rfl) (c_max (M p 1) (dg f) (by omega) (by omega) (by omega) (by omega)) ?_
  rintro _ Mq ⟨rfl, e_⟩
  subst Mq
  refine ⟨by show (0 : Nat) ≠ 9; decide, (?_ : Wp 198 _ 24 5 [(1, p), (1, q), (3, 0), (3, 0)] [(0, (max (M p 1) (dg f)))] M _)⟩
  refine w_is [(1, p), (1, q), (0, (max (M p 1) (dg f))), (3, 0)] hK rfl rfl rfl ?_
  refine w_ic hK rfl ?_
  refine w_is [(1, p), (1, q), (0, (max (M p 1) (dg f))), (0, 0)] hK rfl rfl rfl ?_
  have lp8 : ∀ (n_ : Nat) (j : Nat) (N8 : Mem), 17 - j = n_ → (j ≤ 17) → (∀ i : Nat, i < 17 → N8 (p + 1) (i : Int) = if i < j then ((f i).val : Int) else M (p + 1) (i : Int)) → (∀ a : Int, a ≠ p + 1 → N8 a = M a) → Wp 198 (d + 1) 24 8 [(1, p), (1, q), (0, (max (M p 1) (dg f))), (0, (j : Int))] [] N8 (fun r M' => r = (4, 0) ∧ CS M' k (pu P p f) ∧ NPS M M') := by
    intro n_
    induction n_ using Nat.strongRecOn with
    | _ n_ ih8 =>
    intro j N8 hm8 hj hA hD
    have hQ : ∀ i : Nat, i < 17 → N8 (q + 1) (i : Int) = ((f i).val : Int) := fun i hi => by
      by_cases e : q = p
      · subst e; rw [hA i hi]; split
        · rfl
        · exact C.at hq hi
      · rw [hD (q + 1) (by omega)]; exact C.at hq hi
    refine w_il hK rfl rfl ?_
    refine w_il hK rfl rfl ?_
    refine w_gt2 hK rfl (by omega) (by omega) (by omega) (by omega) (fun h10 => ?_) (fun h10 => ?_)
    · refine w_al hK rfl rfl ?_
      refine w_al hK rfl rfl ?_
      refine w_pt hK rfl hq.1 ?_
      rw [show N8 q 1 = dg f from (congrFun (hD q (hq.1.ap hp)) 1).trans (C.t hq)]
      refine w_ptput hK rfl hp ?_
      refine w_ret hK rfl rfl ?_
      obtain ⟨o1, o2⟩ := C.wr (N := (up N8 p 1 (dg f))) hp (g := f) (fun i hi => by
        rw [up_ne (by omega), hA i hi]
        split
        · rfl
        · rw [ht i (by omega) hi, htq i (by omega)]; exact el0.symm) (C.bd hq) (by rw [up_eq]) (fun a a1 a2 => by rw [up_row a1]; exact hD a a2)
      exact ⟨rfl, o1, o2⟩
    · refine w_il hK rfl rfl ?_
      refine w_al hK rfl rfl ?_
      refine w_pa hK rfl hp ?_
      refine w_plen hK rfl hp ?_
      refine w_ge2 hK rfl (by omega) (by omega) (by omega) (by omega) (fun h15 => ?_) (fun h15 => ?_)
      · exfalso; omega
      · refine w_al hK rfl rfl ?_
        refine w_pa hK rfl hp ?_
        refine w_il hK rfl rfl ?_
        refine w_al hK rfl rfl ?_
        refine w_il hK rfl rfl ?_
        refine w_call [(1, q), (0, (j : Int))] hK rfl rfl rfl rfl (Or.inr ⟨_, _, _, rfl, hq.1.nn, hq.1.lb, hq.1.o⟩) (c_at0 hq.1 hQ (C.bd hq) (j : Int) (by omega) (by omega)) ?_
        rintro _ Mq ⟨rfl, e_⟩
        subst Mq
        have bv_ := el_I (cf f (j : Int))
        refine ⟨by show (0 : Nat) ≠ 9; decide, (?_ : Wp 198 _ 24 22 [(1, p), (1, q), (0, (max (M p 1) (dg f))), (0, (j : Int))] [(0, ((cf f (j : Int)).val : Int)), (0, (j : Int)), (1, (p + 1))] N8 _)⟩
        refine w_piat hK rfl hp (by omega) (by omega) ?_
        refine w_inc [(1, p), (1, q), (0, (max (M p 1) (dg f))), (0, ((j : Int) + 1))] hK rfl rfl rfl (by omega) (by omega) rfl ?_
        refine w_goto hK rfl ?_
        exact ih8 _ (by omega) (j + 1) (up N8 (p + 1) (j : Int) ((cf f (j : Int)).val : Int)) rfl (by omega) (fun i hi => by
          by_cases e : i = j
          · subst e; rw [up_eq, if_pos (by omega), cf_nat]
          · rw [up_ne2 (by omega), hA i hi]
            by_cases e2 : i < j
            · rw [if_pos e2, if_pos (by omega)]
            · rw [if_neg e2, if_neg (by omega)]) (fun a a1 => by rw [up_row a1]; exact hD a a1)
  exact lp8 _ 0 M rfl (by omega) (fun i hi => by rw [if_neg (by omega)]) (fun _ _ => rfl)
theorem c_ld0 : True := trivial
set_option maxRecDepth 100000 in
theorem c_ld {d : Nat} {M : Mem} {k : Nat} {P : Int → Option (Pl k)} (C : CS M k P) {p : Int} {f : Pl k} (hp : isC P p f) : Ct 198 (d + 1) 26 [(1, p)] M (fun r M' => r = (0, ((ld f).val : Int)) ∧ M' = M) := by
  have hK : cd 26 = k26 := rfl
  have hd := C.dI hp
  show Wp 198 _ 26 0 [(1, p)] [] M _
  refine w_al hK rfl rfl ?_
  refine w_al hK rfl rfl ?_
  refine w_pt hK rfl hp.1 ?_
  rw [show M p 1 = dg f from C.t hp]
  refine w_call [(1, p), (0, (dg f))] hK rfl rfl rfl rfl (Or.inr ⟨_, _, _, rfl, hp.1.nn, hp.1.lb, hp.1.o⟩) (c_at C hp (dg f) (by omega) (by omega)) ?_
  rintro _ Mq ⟨rfl, e_⟩
  subst Mq
  have bv_ := el_I (cf f (dg f))
  refine ⟨by show (0 : Nat) ≠ 9; decide, (?_ : Wp 198 _ 26 4 [(1, p)] [(0, ((cf f (dg f)).val : Int))] M _)⟩
  refine w_iret hK rfl rfl ?_
  exact ⟨rfl, rfl⟩
