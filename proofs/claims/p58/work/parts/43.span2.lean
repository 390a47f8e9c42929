/-! contracts: Span, relations -/
theorem dgt_lin0 {k : Nat} : ∀ (x y : El k) (a : Fin (pp k)) (s : Fin (mm k)), dgt (ad x (ml (el k a.val) y)) s.val = (dgt x s.val + a.val * dgt y s.val) % pp k := match k with | 0 => by decide +kernel | 1 => by decide +kernel | 2 => by decide +kernel | _ + 3 => (by decide +kernel : ∀ (x y : El 3) (a : Fin (pp 3)) (s : Fin (mm 3)), dgt (ad x (ml (el 3 a.val) y)) s.val = (dgt x s.val + a.val * dgt y s.val) % pp 3)
theorem dgt_zero0 {k : Nat} : ∀ (x : El k), (∀ s : Fin (mm k), dgt x s.val = 0) → x = z0 := match k with | 0 => by decide +kernel | 1 => by decide +kernel | 2 => by decide +kernel | _ + 3 => (by decide +kernel : ∀ (x : El 3), (∀ s : Fin (mm 3), dgt x s.val = 0) → x = z0)
theorem el_lin0 {k : Nat} : ∀ (a b c : Fin (pp k)), el k ((a.val + c.val * b.val) % pp k) = ad (el k a.val) (ml (el k c.val) (el k b.val)) := match k with | 0 => by decide +kernel | 1 => by decide +kernel | 2 => by decide +kernel | _ + 3 => (by decide +kernel : ∀ (a b c : Fin (pp 3)), el 3 ((a.val + c.val * b.val) % pp 3) = ad (el 3 a.val) (ml (el 3 c.val) (el 3 b.val)))
theorem sq_mod0 {k : Nat} : ∀ (a : Fin (pp k)), a.val ≠ 0 → a.val * a.val % pp k = 1 := match k with | 0 => by decide +kernel | 1 => by decide +kernel | 2 => by decide +kernel | _ + 3 => (by decide +kernel : ∀ (a : Fin (pp 3)), a.val ≠ 0 → a.val * a.val % pp 3 = 1)
theorem dgt_z0 {k : Nat} : ∀ (s : Fin (mm k)), dgt (z0 : El k) s.val = 0 := match k with | 0 => by decide +kernel | 1 => by decide +kernel | 2 => by decide +kernel | _ + 3 => (by decide +kernel : ∀ (s : Fin (mm 3)), dgt (z0 : El 3) s.val = 0)
theorem vec_lin {k n : Nat} (f g : Pl k) {a : Nat} (ha : a < pp k) (j : Nat) : vec n (adp f (scl (el k a) g)) j = (vec n f j + (a : Int) * vec n g j) % (pp k : Int) := by
  unfold vec
  split
  · have h := dgt_lin0 (f (j / mm k)) (g (j / mm k)) ⟨a, ha⟩ ⟨j % mm k, Nat.mod_lt _ (mm_pos k)⟩
    show (dgt (ad (f (j / mm k)) (ml (el k a) (g (j / mm k)))) (j % mm k) : Int) = _
    rw [h]
    simp
  · simp
theorem adp_pz2 {k : Nat} (f : Pl k) : adp pz f = f := pz_adp f
theorem vec_scl {k n : Nat} (f : Pl k) {a : Nat} (ha : a < pp k) (j : Nat) : vec n (scl (el k a) f) j = (vec n f j * (a : Int)) % (pp k : Int) := by
  have h := vec_lin (n := n) pz f ha j
  rw [pz_adp] at h
  have hz : vec n (pz : Pl k) j = 0 := by
    unfold vec
    split
    · have := dgt_z0 (k := k) ⟨j % mm k, Nat.mod_lt _ (mm_pos k)⟩
      show (dgt (z0 : El k) (j % mm k) : Int) = 0
      rw [this]
      rfl
    · rfl
  rw [h, hz, Int.zero_add, Int.mul_comm]
theorem vec_zero {k n : Nat} {f : Pl k} (hf : Bd f n) (h : ∀ j : Nat, j < n * mm k → vec n f j = 0) : f = pz := by
  funext i
  by_cases hi : i < n
  · refine dgt_zero0 (f i) (fun s => ?_)
    have h1 : (i + 1) * mm k ≤ n * mm k := Nat.mul_le_mul_right _ hi
    rw [Nat.add_mul, Nat.one_mul] at h1
    have h2 := h (i * mm k + s.val) (by have := s.isLt; omega)
    rw [vec_at hi s.isLt] at h2
    omega
  · exact hf i (by omega)
/-- a sum of so many of each -/
def lcb {k : Nat} (w : Nat → Nat) (X : Nat → Pl k) : Nat → Pl k
  | 0 => pz
  | o + 1 => adp (lcb w X o) (scl (el k (w o)) (X o))
theorem scl_adp {k : Nat} (c : El k) (f g : Pl k) : scl c (adp f g) = adp (scl c f) (scl c g) := by
  funext n
  exact ml_ad _ _ _
theorem scl_pz {k : Nat} (c : El k) : scl c (pz : Pl k) = pz := by
  funext n
  exact ml_zero _
theorem adp4 {k : Nat} (a b c d : Pl k) : adp (adp a b) (adp c d) = adp (adp a c) (adp b d) := by
  funext n
  exact ad4 _ _ _ _
theorem adp_scl {k : Nat} (a b : El k) (f : Pl k) : scl (ad a b) f = adp (scl a f) (scl b f) := by
  funext n
  exact ad_ml _ _ _
theorem lcb_lin {k : Nat} {u w : Nat → Nat} {X : Nat → Pl k} {c : Nat} (hc : c < pp k) (hu : ∀ j, u j < pp k) (hw : ∀ j, w j < pp k) : ∀ o : Nat, lcb (fun j => (u j + c * w j) % pp k) X o = adp (lcb u X o) (scl (el k c) (lcb w X o))
  | 0 => by
    show pz = adp pz (scl (el k c) pz)
    rw [pz_adp, scl_pz]
  | o + 1 => by
    show adp (lcb _ X o) (scl (el k ((u o + c * w o) % pp k)) (X o)) = adp (adp (lcb u X o) (scl (el k (u o)) (X o))) (scl (el k c) (adp (lcb w X o) (scl (el k (w o)) (X o))))
    rw [lcb_lin hc hu hw o, el_lin0 ⟨u o, hu o⟩ ⟨w o, hw o⟩ ⟨c, hc⟩, adp_scl, scl_adp, adp4, ← scl_scl]
theorem lcb_zero {k : Nat} {X : Nat → Pl k} : ∀ o : Nat, lcb (fun _ => 0) X o = (pz : Pl k)
  | 0 => rfl
  | o + 1 => by
    show adp (lcb _ X o) (scl (el k 0) (X o)) = pz
    rw [lcb_zero o, pz_adp]
    funext n
    exact zero_ml _
theorem lcb_congr {k : Nat} {u w : Nat → Nat} {X : Nat → Pl k} : ∀ {o : Nat}, (∀ j, j < o → u j = w j) → lcb u X o = lcb w X o
  | 0, _ => rfl
  | o + 1, h => by
    show adp (lcb u X o) (scl (el k (u o)) (X o)) = adp (lcb w X o) (scl (el k (w o)) (X o))
    rw [lcb_congr (o := o) (fun j hj => h j (by omega)), h o (by omega)]
theorem lcb_scl {k : Nat} {w : Nat → Nat} {X : Nat → Pl k} {c : Nat} (hc : c < pp k) (hw : ∀ j, w j < pp k) (o : Nat) : lcb (fun j => (w j * c) % pp k) X o = scl (el k c) (lcb w X o) := by
  have h := lcb_lin (u := fun _ => 0) (w := w) (X := X) hc (fun _ => by have := pp_ge k; omega) hw o
  rw [lcb_zero, pz_adp] at h
  rw [← h]
  exact lcb_congr fun j _ => by rw [Nat.zero_add, Nat.mul_comm]
theorem lcb_more {k : Nat} {w : Nat → Nat} {X : Nat → Pl k} {o : Nat} (h : w o = 0) : lcb w X (o + 1) = lcb w X o := by
  show adp (lcb w X o) (scl (el k (w o)) (X o)) = _
  rw [h, show scl (el k 0) (X o) = pz from funext fun n => zero_ml _, adp_pz]
theorem lcb_own {k : Nat} {X : Nat → Pl k} {o : Nat} : lcb (fun j => if j = o then 1 else 0) X (o + 1) = X o := by
  show adp (lcb _ X o) (scl (el k (if o = o then 1 else 0)) (X o)) = _
  rw [lcb_congr (w := fun _ => 0) (fun j hj => by show (if j = o then 1 else 0) = 0; rw [if_neg (by omega)]), lcb_zero, pz_adp, if_pos rfl]
  exact scl_e1 _
/-- the rows of the span: sums of what was offered, each with a 1 at its pivot and 0 at those ahead -/
def SPp {k : Nat} (n : Nat) (X : Nat → Pl k) (o c : Nat) (ρ : Nat → Pl k) (w : Nat → Nat → Nat) (pv ow : Nat → Nat) : Prop :=
  (∀ r : Nat, r < c → Bd (ρ r) n ∧ ρ r = lcb (w r) X o ∧ pv r < n * mm k ∧ vec n (ρ r) (pv r) = 1 ∧ ∀ s : Nat, s < r → vec n (ρ r) (pv s) = 0) ∧
  ∀ r : Nat, r < c → ow r < o ∧ (∀ s : Nat, s < r → ow s < ow r) ∧ w r (ow r) ≠ 0 ∧ (∀ j : Nat, ow r < j → w r j = 0) ∧ (∀ j : Nat, w r j ≠ 0 → ∃ s : Nat, s ≤ r ∧ j = ow s) ∧ ∀ j : Nat, w r j < pp k
/-- what of this stands in the span's cells -/
def SPm (M : Mem) {k : Nat} (n o c : Nat) (ρ : Nat → Pl k) (w : Nat → Nat → Nat) (pv : Nat → Nat) : Prop := (M 88 4 = (c : Int) ∧ M 88 5 = (o : Int)) ∧ (∀ r l : Nat, r < c → l < 32 → M 89 ((r : Int) * 32 + (l : Int)) = vec n (ρ r) l) ∧ (∀ r l : Nat, r < c → l < 17 → M 90 ((r : Int) * 17 + (l : Int)) = (w r l : Int)) ∧ ∀ r : Nat, r < c → M 91 (r : Int) = (pv r : Int)
/-- the relation found: how often each that was offered is in it -/
def SPr {k : Nat} (X : Nat → Pl k) (o c : Nat) (ow : Nat → Nat) (u : Nat → Nat) : Prop := lcb u X (o + 1) = pz ∧ u o = 1 ∧ (∀ j : Nat, o < j → u j = 0) ∧ (∀ j : Nat, u j ≠ 0 → j = o ∨ ∃ s : Nat, s < c ∧ j = ow s) ∧ ∀ j : Nat, u j < pp k
set_option maxRecDepth 100000 in
theorem c_settles {d : Nat} {M : Mem} {k : Nat} {P : Int → Option (Pl k)} (C : CS M k P) {c : Nat} (hc : c ≤ 16) {o : Int} (q4_ : M 88 4 = (c : Int)) (q5_ : M 88 5 = o) {R O Pv : Int → Int} (h89 : M 89 = R) (h90 : M 90 = O) (h91 : M 91 = Pv) {v u : Nat → Int} (hv : ∀ l : Nat, l < 32 → R ((c : Int) * 32 + (l : Int)) = v l) (hu : ∀ l : Nat, l < 17 → O ((c : Int) * 17 + (l : Int)) = u l) (bv : ∀ l : Nat, 0 ≤ v l ∧ v l < (pp k : Int)) (bu : ∀ l : Nat, 0 ≤ u l ∧ u l < (pp k : Int)) : Ct 198 (d + 2) 91 [(1, 88)] M (fun r_ M' => (r_ = (0, 0) ∧ (∀ l : Nat, l < 32 → v l = 0) ∧ M' = M) ∨ (r_ = (0, 1) ∧ ∃ t : Nat, t < 32 ∧ v t ≠ 0 ∧ M' 88 4 = (c : Int) + 1 ∧ (∃ R' : Int → Int, M' 89 = R' ∧ Wm R R' ((c : Int) * 32) 32 (fun l => R ((c : Int) * 32 + (l : Int)) * v t % (pp k : Int))) ∧ (∃ O' : Int → Int, M' 90 = O' ∧ Wm O O' ((c : Int) * 17) 17 (fun l => O ((c : Int) * 17 + (l : Int)) * v t % (pp k : Int))) ∧ M' 91 = upr Pv (c : Int) (t : Int) ∧ M' 88 5 = o ∧ (∀ a : Int, a ≠ 88 → a ≠ 89 → a ≠ 90 → a ≠ 91 → M' a = M a))) := by
  have hK : cd 91 = k91 := rfl
  have p1_ := pp_I k
  show Wp 198 _ 91 0 [(1, 88), (3, 0), (3, 0)] [] M _
  refine w_ic hK rfl ?_
  refine w_is [(1, 88), (0, 0), (3, 0)] hK rfl rfl rfl ?_
  have lp2 : ∀ (n_ : Nat) (t : Nat) (w2 : AV), 33 - t = n_ → (t ≤ 32) → (∀ l : Nat, l < t → v l = 0) → Wp 198 (d + 2) 91 2 [(1, 88), (0, (t : Int)), w2] [] M (fun r_ M' => (r_ = (0, 0) ∧ (∀ l : Nat, l < 32 → v l = 0) ∧ M' = M) ∨ (r_ = (0, 1) ∧ ∃ t : Nat, t < 32 ∧ v t ≠ 0 ∧ M' 88 4 = (c : Int) + 1 ∧ (∃ R' : Int → Int, M' 89 = R' ∧ Wm R R' ((c : Int) * 32) 32 (fun l => R ((c : Int) * 32 + (l : Int)) * v t % (pp k : Int))) ∧ (∃ O' : Int → Int, M' 90 = O' ∧ Wm O O' ((c : Int) * 17) 17 (fun l => O ((c : Int) * 17 + (l : Int)) * v t % (pp k : Int))) ∧ M' 91 = upr Pv (c : Int) (t : Int) ∧ M' 88 5 = o ∧ (∀ a : Int, a ≠ 88 → a ≠ 89 → a ≠ 90 → a ≠ 91 → M' a = M a))) := by
    intro n_
    induction n_ using Nat.strongRecOn with
    | _ n_ ih2 =>
    intro t w2  hm2 ht hz
    refine w_il hK rfl rfl ?_
    refine w_ic hK rfl ?_
    refine w_ge2 hK rfl (by omega) (by omega) (by omega) (by omega) (fun h4 => ?_) (fun h4 => ?_)
    · refine w_il hK rfl rfl ?_
      refine w_ic hK rfl ?_
      refine w_ne2 hK rfl (by omega) (by omega) (by omega) (by omega) (fun h19 => ?_) (fun h19 => ?_)
      · have vt_ := bv t
        have et_ := hv t (by omega)
        have hvt_ : v t ≠ 0 := by omega
        have hb9_ : ∀ l : Nat, l < 32 → 0 ≤ R ((c : Int) * 32 + (l : Int)) ∧ R ((c : Int) * 32 + (l : Int)) < (pp k : Int) := fun l hl => by rw [hv l hl]; exact bv l
        have hb0_ : ∀ l : Nat, l < 17 → 0 ≤ O ((c : Int) * 17 + (l : Int)) ∧ O ((c : Int) * 17 + (l : Int)) < (pp k : Int) := fun l hl => by rw [hu l hl]; exact bu l
        refine w_al hK rfl rfl ?_
        refine w_getr (n := 1) (v := 89) hK rfl rfl (by decide) (by decide) rfl rfl rfl rfl ?_
        refine w_al hK rfl rfl ?_
        refine w_geti (n := 4) (m := 4) hK rfl rfl (by decide) (by decide) rfl rfl rfl rfl ?_
        rw [show M 88 4 = (c : Int) from q4_]
        refine w_ic hK rfl ?_
        refine w_mul hK rfl (by omega) (by omega) ?_
        refine w_il hK rfl rfl ?_
        refine w_add hK rfl (by omega) (by omega) ?_
        refine w_call [(1, 89), (0, (((c : Int) * 32) + (t : Int)))] hK rfl rfl rfl rfl (Or.inl rfl) (c_get89 (((c : Int) * 32) + (t : Int)) (by omega) (by omega)) ?_
        rintro _ Mq ⟨rfl, e_⟩
        subst Mq
        rw [show M 89 (((c : Int) * 32) + (t : Int)) = (R (((c : Int) * 32) + (t : Int))) from (congrFun h89 (((c : Int) * 32) + (t : Int)))]
        refine ⟨(by show (0 : Nat) ≠ 9; decide), (?_ : Wp 198 _ 91 31 [(1, 88), (0, (t : Int)), w2] [(0, (R (((c : Int) * 32) + (t : Int))))] M _)⟩
        refine w_is [(1, 88), (0, (t : Int)), (0, (R (((c : Int) * 32) + (t : Int))))] hK rfl rfl rfl ?_
        refine w_al hK rfl rfl ?_
        refine w_al hK rfl rfl ?_
        refine w_getr (n := 1) (v := 89) hK rfl rfl (by decide) (by decide) rfl rfl rfl rfl ?_
        refine w_ic hK rfl ?_
        refine w_il hK rfl rfl ?_
        refine w_call [(1, 88), (1, 89), (0, 32), (0, (R (((c : Int) * 32) + (t : Int))))] hK rfl rfl rfl rfl (Or.inr ⟨_, _, _, rfl, by decide, (by decide), rfl⟩) (c_mult89 C (c := c) (f := (R (((c : Int) * 32) + (t : Int)))) (by omega) (by omega) q4_ h89 hb9_) ?_
        rintro _ V54 ⟨rfl, ⟨R54, g54, W54⟩, F54⟩
        refine ⟨by decide, (?_ : Wp 198 _ 91 38 [(1, 88), (0, (t : Int)), (0, (R (((c : Int) * 32) + (t : Int))))] [] V54 _)⟩
        refine w_al hK rfl rfl ?_
        refine w_al hK rfl rfl ?_
        refine w_getr (n := 2) (v := 90) hK rfl rfl (by decide) (by decide) rfl rfl rfl rfl ?_
        refine w_ic hK rfl ?_
        refine w_il hK rfl rfl ?_
        refine w_call [(1, 88), (1, 90), (0, 17), (0, (R (((c : Int) * 32) + (t : Int))))] hK rfl rfl rfl rfl (Or.inr ⟨_, _, _, rfl, by decide, (by decide), rfl⟩) (c_mult90 (CS.congr C (fun a ha_ => F54 a (CSc_ne ha_ (by decide) (notP rfl)))) (c := c) (f := (R (((c : Int) * 32) + (t : Int)))) (by omega) (by omega) ((congrFun (F54 88 (by decide)) 4).trans q4_) ((F54 90 (by decide)).trans h90) hb0_) ?_
        rintro _ V55 ⟨rfl, ⟨R55, g55, W55⟩, F55⟩
        refine ⟨by decide, (?_ : Wp 198 _ 91 44 [(1, 88), (0, (t : Int)), (0, (R (((c : Int) * 32) + (t : Int))))] [] V55 _)⟩
        refine w_al hK rfl rfl ?_
        refine w_getr (n := 3) (v := 91) hK rfl rfl (by decide) (by decide) rfl rfl rfl rfl ?_
        refine w_al hK rfl rfl ?_
        refine w_geti (n := 4) (m := 4) hK rfl rfl (by decide) (by decide) rfl rfl rfl rfl ?_
        rw [show V55 88 4 = (c : Int) from ((congrFun (F55 88 (by decide)) 4).trans ((congrFun (F54 88 (by decide)) 4).trans q4_))]
        refine w_il hK rfl rfl ?_
        refine w_call [(1, 91), (0, (c : Int)), (0, (t : Int))] hK rfl rfl rfl rfl (Or.inl rfl) (c_set91 (c : Int) (t : Int) (by omega) (by omega)) ?_
        rintro _ V56 ⟨rfl, u56⟩
        refine ⟨by decide, (?_ : Wp 198 _ 91 50 [(1, 88), (0, (t : Int)), (0, (R (((c : Int) * 32) + (t : Int))))] [] V56 _)⟩
        refine w_al hK rfl rfl ?_
        refine w_dup hK rfl rfl ?_
        refine w_geti (n := 4) (m := 4) hK rfl rfl (by decide) (by decide) rfl rfl rfl rfl ?_
        rw [show V56 88 4 = (c : Int) from ((congrFun ((fun a (na_ : a ≠ 91) => (congrFun u56 a).trans (up_row na_)) 88 (by decide)) 4).trans ((congrFun (F55 88 (by decide)) 4).trans ((congrFun (F54 88 (by decide)) 4).trans q4_)))]
        refine w_ic hK rfl ?_
        refine w_add hK rfl (by omega) (by omega) ?_
        refine w_puti (n := 4) (m := 4) hK rfl rfl (by decide) (by decide) rfl rfl rfl rfl ?_
        refine w_ic hK rfl ?_
        refine w_zret hK rfl rfl (Or.inr rfl) ?_
        exact Or.inr ⟨rfl, t, by omega, hvt_, up_eq, ⟨_, ((up_row (by decide)).trans (((fun a (na_ : a ≠ 91) => (congrFun u56 a).trans (up_row na_)) 89 (by decide)).trans ((F55 89 (by decide)).trans g54))), by rw [← hv t (by omega)]; exact W54⟩, ⟨_, ((up_row (by decide)).trans (((fun a (na_ : a ≠ 91) => (congrFun u56 a).trans (up_row na_)) 90 (by decide)).trans g55)), by rw [← hv t (by omega)]; exact W55⟩, ((up_row (by decide)).trans ((congrFun u56 91).trans (up_upr ((F55 91 (by decide)).trans ((F54 91 (by decide)).trans h91))))), ((up_ne2 (by omega)).trans ((congrFun ((fun a (na_ : a ≠ 91) => (congrFun u56 a).trans (up_row na_)) 88 (by decide)) 5).trans ((congrFun (F55 88 (by decide)) 5).trans ((congrFun (F54 88 (by decide)) 5).trans q5_)))), (fun a n88_ n89_ n90_ n91_ => ((up_row n88_).trans (((fun a (na_ : a ≠ 91) => (congrFun u56 a).trans (up_row na_)) a n91_).trans ((F55 a n90_).trans (F54 a n89_)))))⟩
      · refine w_ic hK rfl ?_
        refine w_zret hK rfl rfl (Or.inl rfl) ?_
        exact Or.inl ⟨rfl, fun l hl => hz l (by omega), rfl⟩
    · refine w_al hK rfl rfl ?_
      refine w_getr (n := 1) (v := 89) hK rfl rfl (by decide) (by decide) rfl rfl rfl rfl ?_
      refine w_al hK rfl rfl ?_
      refine w_geti (n := 4) (m := 4) hK rfl rfl (by decide) (by decide) rfl rfl rfl rfl ?_
      rw [show M 88 4 = (c : Int) from q4_]
      refine w_ic hK rfl ?_
      refine w_mul hK rfl (by omega) (by omega) ?_
      refine w_il hK rfl rfl ?_
      refine w_add hK rfl (by omega) (by omega) ?_
      refine w_call [(1, 89), (0, (((c : Int) * 32) + (t : Int)))] hK rfl rfl rfl rfl (Or.inl rfl) (c_get89 (((c : Int) * 32) + (t : Int)) (by omega) (by omega)) ?_
      rintro _ Mq ⟨rfl, e_⟩
      subst Mq
      rw [show M 89 (((c : Int) * 32) + (t : Int)) = (R (((c : Int) * 32) + (t : Int))) from (congrFun h89 (((c : Int) * 32) + (t : Int)))]
      refine ⟨(by show (0 : Nat) ≠ 9; decide), (?_ : Wp 198 _ 91 14 [(1, 88), (0, (t : Int)), w2] [(0, (R (((c : Int) * 32) + (t : Int))))] M _)⟩
      have vt_ := bv t
      have et_ := hv t (by omega)
      refine w_ne hK rfl (by omega) (by omega) (fun h14 => ?_) (fun h14 => ?_)
      · refine w_il hK rfl rfl ?_
        refine w_ic hK rfl ?_
        refine w_ne2 hK rfl (by omega) (by omega) (by omega) (by omega) (fun h19 => ?_) (fun h19 => ?_)
        · have vt_ := bv t
          have et_ := hv t (by omega)
          have hvt_ : v t ≠ 0 := by omega
          have hb9_ : ∀ l : Nat, l < 32 → 0 ≤ R ((c : Int) * 32 + (l : Int)) ∧ R ((c : Int) * 32 + (l : Int)) < (pp k : Int) := fun l hl => by rw [hv l hl]; exact bv l
          have hb0_ : ∀ l : Nat, l < 17 → 0 ≤ O ((c : Int) * 17 + (l : Int)) ∧ O ((c : Int) * 17 + (l : Int)) < (pp k : Int) := fun l hl => by rw [hu l hl]; exact bu l
          refine w_al hK rfl rfl ?_
          refine w_getr (n := 1) (v := 89) hK rfl rfl (by decide) (by decide) rfl rfl rfl rfl ?_
          refine w_al hK rfl rfl ?_
          refine w_geti (n := 4) (m := 4) hK rfl rfl (by decide) (by decide) rfl rfl rfl rfl ?_
          rw [show M 88 4 = (c : Int) from q4_]
          refine w_ic hK rfl ?_
          refine w_mul hK rfl (by omega) (by omega) ?_
          refine w_il hK rfl rfl ?_
          refine w_add hK rfl (by omega) (by omega) ?_
          refine w_call [(1, 89), (0, (((c : Int) * 32) + (t : Int)))] hK rfl rfl rfl rfl (Or.inl rfl) (c_get89 (((c : Int) * 32) + (t : Int)) (by omega) (by omega)) ?_
          rintro _ Mq ⟨rfl, e_⟩
          subst Mq
          rw [show M 89 (((c : Int) * 32) + (t : Int)) = (R (((c : Int) * 32) + (t : Int))) from (congrFun h89 (((c : Int) * 32) + (t : Int)))]
          refine ⟨(by show (0 : Nat) ≠ 9; decide), (?_ : Wp 198 _ 91 31 [(1, 88), (0, (t : Int)), w2] [(0, (R (((c : Int) * 32) + (t : Int))))] M _)⟩
          refine w_is [(1, 88), (0, (t : Int)), (0, (R (((c : Int) * 32) + (t : Int))))] hK rfl rfl rfl ?_
          refine w_al hK rfl rfl ?_
          refine w_al hK rfl rfl ?_
          refine w_getr (n := 1) (v := 89) hK rfl rfl (by decide) (by decide) rfl rfl rfl rfl ?_
          refine w_ic hK rfl ?_
          refine w_il hK rfl rfl ?_
          refine w_call [(1, 88), (1, 89), (0, 32), (0, (R (((c : Int) * 32) + (t : Int))))] hK rfl rfl rfl rfl (Or.inr ⟨_, _, _, rfl, by decide, (by decide), rfl⟩) (c_mult89 C (c := c) (f := (R (((c : Int) * 32) + (t : Int)))) (by omega) (by omega) q4_ h89 hb9_) ?_
          rintro _ V57 ⟨rfl, ⟨R57, g57, W57⟩, F57⟩
          refine ⟨by decide, (?_ : Wp 198 _ 91 38 [(1, 88), (0, (t : Int)), (0, (R (((c : Int) * 32) + (t : Int))))] [] V57 _)⟩
          refine w_al hK rfl rfl ?_
          refine w_al hK rfl rfl ?_
          refine w_getr (n := 2) (v := 90) hK rfl rfl (by decide) (by decide) rfl rfl rfl rfl ?_
          refine w_ic hK rfl ?_
          refine w_il hK rfl rfl ?_
          refine w_call [(1, 88), (1, 90), (0, 17), (0, (R (((c : Int) * 32) + (t : Int))))] hK rfl rfl rfl rfl (Or.inr ⟨_, _, _, rfl, by decide, (by decide), rfl⟩) (c_mult90 (CS.congr C (fun a ha_ => F57 a (CSc_ne ha_ (by decide) (notP rfl)))) (c := c) (f := (R (((c : Int) * 32) + (t : Int)))) (by omega) (by omega) ((congrFun (F57 88 (by decide)) 4).trans q4_) ((F57 90 (by decide)).trans h90) hb0_) ?_
          rintro _ V58 ⟨rfl, ⟨R58, g58, W58⟩, F58⟩
          refine ⟨by decide, (?_ : Wp 198 _ 91 44 [(1, 88), (0, (t : Int)), (0, (R (((c : Int) * 32) + (t : Int))))] [] V58 _)⟩
          refine w_al hK rfl rfl ?_
          refine w_getr (n := 3) (v := 91) hK rfl rfl (by decide) (by decide) rfl rfl rfl rfl ?_
          refine w_al hK rfl rfl ?_
          refine w_geti (n := 4) (m := 4) hK rfl rfl (by decide) (by decide) rfl rfl rfl rfl ?_
          rw [show V58 88 4 = (c : Int) from ((congrFun (F58 88 (by decide)) 4).trans ((congrFun (F57 88 (by decide)) 4).trans q4_))]
          refine w_il hK rfl rfl ?_
          refine w_call [(1, 91), (0, (c : Int)), (0, (t : Int))] hK rfl rfl rfl rfl (Or.inl rfl) (c_set91 (c : Int) (t : Int) (by omega) (by omega)) ?_
          rintro _ V59 ⟨rfl, u59⟩
          refine ⟨by decide, (?_ : Wp 198 _ 91 50 [(1, 88), (0, (t : Int)), (0, (R (((c : Int) * 32) + (t : Int))))] [] V59 _)⟩
          refine w_al hK rfl rfl ?_
          refine w_dup hK rfl rfl ?_
          refine w_geti (n := 4) (m := 4) hK rfl rfl (by decide) (by decide) rfl rfl rfl rfl ?_
          rw [show V59 88 4 = (c : Int) from ((congrFun ((fun a (na_ : a ≠ 91) => (congrFun u59 a).trans (up_row na_)) 88 (by decide)) 4).trans ((congrFun (F58 88 (by decide)) 4).trans ((congrFun (F57 88 (by decide)) 4).trans q4_)))]
          refine w_ic hK rfl ?_
          refine w_add hK rfl (by omega) (by omega) ?_
          refine w_puti (n := 4) (m := 4) hK rfl rfl (by decide) (by decide) rfl rfl rfl rfl ?_
          refine w_ic hK rfl ?_
          refine w_zret hK rfl rfl (Or.inr rfl) ?_
          exact Or.inr ⟨rfl, t, by omega, hvt_, up_eq, ⟨_, ((up_row (by decide)).trans (((fun a (na_ : a ≠ 91) => (congrFun u59 a).trans (up_row na_)) 89 (by decide)).trans ((F58 89 (by decide)).trans g57))), by rw [← hv t (by omega)]; exact W57⟩, ⟨_, ((up_row (by decide)).trans (((fun a (na_ : a ≠ 91) => (congrFun u59 a).trans (up_row na_)) 90 (by decide)).trans g58)), by rw [← hv t (by omega)]; exact W58⟩, ((up_row (by decide)).trans ((congrFun u59 91).trans (up_upr ((F58 91 (by decide)).trans ((F57 91 (by decide)).trans h91))))), ((up_ne2 (by omega)).trans ((congrFun ((fun a (na_ : a ≠ 91) => (congrFun u59 a).trans (up_row na_)) 88 (by decide)) 5).trans ((congrFun (F58 88 (by decide)) 5).trans ((congrFun (F57 88 (by decide)) 5).trans q5_)))), (fun a n88_ n89_ n90_ n91_ => ((up_row n88_).trans (((fun a (na_ : a ≠ 91) => (congrFun u59 a).trans (up_row na_)) a n91_).trans ((F58 a n90_).trans (F57 a n89_)))))⟩
        · refine w_ic hK rfl ?_
          refine w_zret hK rfl rfl (Or.inl rfl) ?_
          exact Or.inl ⟨rfl, fun l hl => hz l (by omega), rfl⟩
      · refine w_inc [(1, 88), (0, ((t : Int) + 1)), w2] hK rfl rfl rfl (by omega) (by omega) rfl ?_
        refine w_goto hK rfl ?_
        exact ih2 _ (by omega) (t + 1) _  rfl (by omega) (fun l hl => by
          by_cases q : l = t
          · rw [q, ← hv t (by omega)]; exact h14
          · exact hz l (by omega))
  exact lp2 _ 0 _  rfl (by omega) (fun l hl => by omega)
set_option maxRecDepth 100000 in
theorem c_relAt {d : Nat} {M : Mem} {c : Nat} (hc : c ≤ 16) (q4_ : M 88 4 = (c : Int)) (i : Int) (i1 : -2147483648 ≤ i) (i2 : i ≤ 2147483647) : Ct 198 (d + 1) 93 [(1, 88), (0, i)] M (fun r M' => r = (0, if 0 ≤ i ∧ i < 17 then M 90 ((c : Int) * 17 + i) else 0) ∧ M' = M) := by
  have hK : cd 93 = k93 := rfl
  show Wp 198 _ 93 0 [(1, 88), (0, i)] [] M _
  refine w_il hK rfl rfl ?_
  refine w_lt hK rfl (by omega) (by omega) (fun h1 => ?_) (fun h1 => ?_)
  · refine w_ic hK rfl ?_
    refine w_iret hK rfl rfl ?_
    exact ⟨by rw [if_neg (by omega)], rfl⟩
  · refine w_il hK rfl rfl ?_
    refine w_ic hK rfl ?_
    refine w_ge2 hK rfl (by omega) (by omega) (by omega) (by omega) (fun h4 => ?_) (fun h4 => ?_)
    · refine w_ic hK rfl ?_
      refine w_iret hK rfl rfl ?_
      exact ⟨by rw [if_neg (by omega)], rfl⟩
    · refine w_al hK rfl rfl ?_
      refine w_getr (n := 2) (v := 90) hK rfl rfl (by decide) (by decide) rfl rfl rfl rfl ?_
      refine w_al hK rfl rfl ?_
      refine w_geti (n := 4) (m := 4) hK rfl rfl (by decide) (by decide) rfl rfl rfl rfl ?_
      rw [show M 88 4 = (c : Int) from q4_]
      refine w_ic hK rfl ?_
      refine w_mul hK rfl (by omega) (by omega) ?_
      refine w_il hK rfl rfl ?_
      refine w_add hK rfl (by omega) (by omega) ?_
      refine w_call [(1, 90), (0, (((c : Int) * 17) + i))] hK rfl rfl rfl rfl (Or.inl rfl) (c_get90 (((c : Int) * 17) + i) (by omega) (by omega)) ?_
      rintro _ Mq ⟨rfl, e_⟩
      subst Mq
      refine ⟨(by show (0 : Nat) ≠ 9; decide), (?_ : Wp 198 _ 93 14 [(1, 88), (0, i)] [(0, (M 90 (((c : Int) * 17) + i)))] M _)⟩
      refine w_goto hK rfl ?_
      refine w_iret hK rfl rfl ?_
      exact ⟨by rw [if_pos (by omega)], rfl⟩
