/-! contracts: Line, Euclid -/
def isL (p : Int) : Prop := (p = 19 ∨ p = 26 ∨ p = 33) ∧ S0[p.toNat]? = some (0, 5, [p + 1, p + 3, p + 5])
theorem isL.p1 {p : Int} (h : isL p) : isP (p + 1) := by
  rcases h.1 with e | e | e
  · subst e; exact isP_of (p := 20) rfl
  · subst e; exact isP_of (p := 27) rfl
  · subst e; exact isP_of (p := 34) rfl
theorem isL.p3 {p : Int} (h : isL p) : isP (p + 3) := by
  rcases h.1 with e | e | e
  · subst e; exact isP_of (p := 22) rfl
  · subst e; exact isP_of (p := 29) rfl
  · subst e; exact isP_of (p := 36) rfl
theorem isL.p5 {p : Int} (h : isL p) : isP (p + 5) := by
  rcases h.1 with e | e | e
  · subst e; exact isP_of (p := 24) rfl
  · subst e; exact isP_of (p := 31) rfl
  · subst e; exact isP_of (p := 38) rfl
theorem isL.nn {p : Int} (h : isL p) : 0 ≤ p := by have := h.1; omega
theorem isL.lb {p : Int} (h : isL p) : p.toNat < 198 := by have := h.1; omega
theorem isL.o {p : Int} (h : isL p) : S0[p.toNat]? = some (0, 5, [p + 1, p + 3, p + 5]) := h.2
section LN
variable {d t i pc len c' : Nat} {a b' : Int} {L st : List AV} {M : Mem} {Φ : AV → Mem → Prop} {K : List Rw} {p : Int}
theorem w_ln1 (hK : cd t = K) (hc : K[i]? = some (pc, len, 40, 5, 0, c')) (hp : isL p) (h : Wp 198 d t (i + 1) L ((1, p + 1) :: st) M Φ) : Wp 198 d t i L ((1, p) :: st) M Φ := w_getr (ci := 5) (n := 0) hK hc hp.o hp.nn hp.lb rfl rfl rfl rfl h
theorem w_ln3 (hK : cd t = K) (hc : K[i]? = some (pc, len, 40, 5, 1, c')) (hp : isL p) (h : Wp 198 d t (i + 1) L ((1, p + 3) :: st) M Φ) : Wp 198 d t i L ((1, p) :: st) M Φ := w_getr (ci := 5) (n := 1) hK hc hp.o hp.nn hp.lb rfl rfl rfl rfl h
theorem w_ln5 (hK : cd t = K) (hc : K[i]? = some (pc, len, 40, 5, 2, c')) (hp : isL p) (h : Wp 198 d t (i + 1) L ((1, p + 5) :: st) M Φ) : Wp 198 d t i L ((1, p) :: st) M Φ := w_getr (ci := 5) (n := 2) hK hc hp.o hp.nn hp.lb rfl rfl rfl rfl h
end LN
/-- which lines are upper, lower and next -/
def ES (M : Mem) (u l n : Int) : Prop := (M 18 1 = u ∧ M 18 2 = l ∧ M 18 3 = n) ∧ (isL u ∧ isL l ∧ isL n) ∧ u ≠ l ∧ u ≠ n ∧ l ≠ n
theorem notP {a : Int} (h : (match S0[a.toNat]? with | some (0, 6, _) => false | some (1, 17, _) => false | some _ => true | none => false) = true) : ∀ p : Int, isP p → a ≠ p ∧ a ≠ p + 1 := by
  intro p hp
  constructor
  · intro e
    subst e
    rw [hp.2.1] at h
    cases h
  · intro e
    subst e
    rw [hp.2.2] at h
    cases h
theorem ES.nps {M M' : Mem} {u l n : Int} (E : ES M u l n) (h : NPS M M') : ES M' u l n := by
  have e := h 18 (notP rfl)
  unfold ES
  rw [e]
  exact E
/-- nothing but polynomials and the lines' order and the degrees told has changed -/
def NPE (M M' : Mem) : Prop := ∀ a : Int, a ≠ 18 → a ≠ 44 → (∀ p : Int, isP p → a ≠ p ∧ a ≠ p + 1) → M' a = M a
theorem NPE.rf {M : Mem} : NPE M M := fun _ _ _ _ => rfl
theorem NPE.tr {M M1 M2 : Mem} (h : NPE M M1) (h' : NPE M1 M2) : NPE M M2 := fun a h1 h2 h3 => (h' a h1 h2 h3).trans (h a h1 h2 h3)
theorem NPS.e {M M' : Mem} (h : NPS M M') : NPE M M' := fun a _ _ h3 => h a h3
theorem NPE.trS {M M1 M2 : Mem} (h : NPE M M1) (h' : NPS M1 M2) : NPE M M2 := h.tr h'.e
theorem CS.at18 {M N : Mem} {k : Nat} {P : Int → Option (Pl k)} (C : CS M k P) (h : ∀ a : Int, a ≠ 18 → a ≠ 44 → N a = M a) : CS N k P := C.congr fun a ha => h a (by
  rcases ha with ha | ⟨p, hp, e⟩
  · omega
  · have := notP (a := 18) rfl p hp
    omega) (by
  rcases ha with ha | ⟨p, hp, e⟩
  · omega
  · have := notP (a := 44) rfl p hp
    omega)
theorem NPE.at18 {M M1 M2 : Mem} (h : NPE M M1) (h' : ∀ a : Int, a ≠ 18 → a ≠ 44 → M2 a = M1 a) : NPE M M2 := fun a h1 h2 h3 => (h' a h1 h2).trans (h a h1 h2 h3)
set_option maxRecDepth 100000 in
theorem c_lstart {d : Nat} {M : Mem} {k : Nat} {P : Int → Option (Pl k)} (C : CS M k P) {p x : Int} (hp : isL p) {f_x : Pl k} (hx : isC P x f_x) (f g : El k) (xn : x ≠ p + 1 ∧ x ≠ p + 3 ∧ x ≠ p + 5) : Ct 198 (d + 2) 35 [(1, p), (1, x), (0, (f.val : Int)), (0, (g.val : Int))] M (fun r M' => r = (4, 0) ∧ CS M' k (pu (pu (pu P (p + 1) f_x) (p + 3) (cst f)) (p + 5) (cst g)) ∧ NPS M M') := by
  have hK : cd 35 = k35 := rfl
  have bf := el_I f
  have bg := el_I g
  show Wp 198 _ 35 0 [(1, p), (1, x), (0, (f.val : Int)), (0, (g.val : Int))] [] M _
  refine w_al hK rfl rfl ?_
  refine w_ln1 hK rfl hp ?_
  refine w_al hK rfl rfl ?_
  refine w_call [(1, (p + 1)), (1, x)] hK rfl rfl rfl rfl (Or.inr ⟨_, _, _, rfl, hp.p1.nn, hp.p1.lb, hp.p1.o⟩) (c_copy C hp.p1 hx) ?_
  rintro _ V1 ⟨rfl, C1, S1⟩
  refine ⟨by decide, (?_ : Wp 198 _ 35 4 [(1, p), (1, x), (0, (f.val : Int)), (0, (g.val : Int))] [] V1 _)⟩
  refine w_al hK rfl rfl ?_
  refine w_ln3 hK rfl hp ?_
  refine w_il hK rfl rfl ?_
  refine w_call [(1, (p + 3)), (0, (f.val : Int))] hK rfl rfl rfl rfl (Or.inr ⟨_, _, _, rfl, hp.p3.nn, hp.p3.lb, hp.p3.o⟩) (c_bec C1 hp.p3 f) ?_
  rintro _ V2 ⟨rfl, C2, S2⟩
  refine ⟨by decide, (?_ : Wp 198 _ 35 8 [(1, p), (1, x), (0, (f.val : Int)), (0, (g.val : Int))] [] V2 _)⟩
  refine w_al hK rfl rfl ?_
  refine w_ln5 hK rfl hp ?_
  refine w_il hK rfl rfl ?_
  refine w_call [(1, (p + 5)), (0, (g.val : Int))] hK rfl rfl rfl rfl (Or.inr ⟨_, _, _, rfl, hp.p5.nn, hp.p5.lb, hp.p5.o⟩) (c_bec C2 hp.p5 g) ?_
  rintro _ V3 ⟨rfl, C3, S3⟩
  refine ⟨by decide, (?_ : Wp 198 _ 35 12 [(1, p), (1, x), (0, (f.val : Int)), (0, (g.val : Int))] [] V3 _)⟩
  refine w_ret hK rfl rfl ?_
  exact ⟨rfl, C3, ((S1.tr S2).tr S3)⟩
set_option maxRecDepth 100000 in
theorem c_turn {d : Nat} {M : Mem} {u l n : Int} (E : ES M u l n) : Ct 198 (d) 57 [(1, 18)] M (fun r M' => r = (4, 0) ∧ ES M' l n u ∧ ∀ a : Int, a ≠ 18 → M' a = M a) := by
  have hK : cd 57 = k57 := rfl
  show Wp 198 _ 57 0 [(1, 18), (3, 0)] [] M _
  refine w_al hK rfl rfl ?_
  refine w_getq (n := 1) (m := 1) hK rfl rfl (by decide) (by decide) rfl rfl rfl rfl ?_
  rw [show M 18 1 = u from E.1.1]
  refine w_as [(1, 18), (1, u)] hK rfl rfl rfl ?_
  refine w_al hK rfl rfl ?_
  refine w_al hK rfl rfl ?_
  refine w_getq (n := 2) (m := 2) hK rfl rfl (by decide) (by decide) rfl rfl rfl rfl ?_
  rw [show M 18 2 = l from E.1.2.1]
  refine w_putq (n := 1) (m := 1) hK rfl rfl (by decide) (by decide) rfl rfl rfl rfl ?_
  refine w_al hK rfl rfl ?_
  refine w_al hK rfl rfl ?_
  refine w_getq (n := 3) (m := 3) hK rfl rfl (by decide) (by decide) rfl rfl rfl rfl ?_
  rw [show (up M 18 1 l) 18 3 = n from by rw [up_ne2 (by decide)]; exact E.1.2.2]
  refine w_putq (n := 2) (m := 2) hK rfl rfl (by decide) (by decide) rfl rfl rfl rfl ?_
  refine w_al hK rfl rfl ?_
  refine w_al hK rfl rfl ?_
  refine w_putq (n := 3) (m := 3) hK rfl rfl (by decide) (by decide) rfl rfl rfl rfl ?_
  refine w_ret hK rfl rfl ?_
  exact ⟨rfl, ⟨⟨by rw [up_ne2 (by decide), up_ne2 (by decide), up_eq], by rw [up_ne2 (by decide), up_eq], by rw [up_eq]⟩, ⟨E.2.1.2.1, E.2.1.2.2, E.2.1.1⟩, E.2.2.2.2, fun q => E.2.2.1 q.symm, fun q => E.2.2.2.1 q.symm⟩, fun a ha => by rw [up_row ha, up_row ha, up_row ha]⟩
