/-! the reference: the chain */ -/
theorem Bd_dr17 {k : Nat} (s : Int) {a b : Pl k} (ha : Bd a 17) (hb : Bd b 17) (h : 0 ≤ dg b) : Bd (dr s a b) 17 ∧ Bd (dq s a b) 17 := by
  obtain ⟨q1, q2, q3, q4, q5⟩ := dg_dv s ha hb h
  exact ⟨q5, q1⟩
theorem eu_s {k : Nat} {s : Int} {x y : Pl k} {n : Nat} : (eu s x y (n + 1)).1 = (eu s x y n).2.1 ∧ (eu s x y (n + 1)).2.1 = dr s (eu s x y n).1 (eu s x y n).2.1 ∧ (eu s x y (n + 1)).2.2.1 = (eu s x y n).2.2.2.1 ∧ (eu s x y (n + 1)).2.2.2.1 = sbp (eu s x y n).2.2.1 (prd s (dq s (eu s x y n).1 (eu s x y n).2.1) (eu s x y n).2.2.2.1) ∧ (eu s x y (n + 1)).2.2.2.2.1 = (eu s x y n).2.2.2.2.2 ∧ (eu s x y (n + 1)).2.2.2.2.2 = sbp (eu s x y n).2.2.2.2.1 (prd s (dq s (eu s x y n).1 (eu s x y n).2.1) (eu s x y n).2.2.2.2.2) := ⟨rfl, rfl, rfl, rfl, rfl, rfl⟩
set_option maxRecDepth 100000 in
theorem r_isdv {d : Nat} {M : Mem} {k : Nat} {R : Int → Option (Pl k)} (C : RS M k R) {x : Int} {f_x : Pl k} (hx : isK R x f_x) {y : Int} {f_y : Pl k} (hy : isK R y f_y) (s : Int) (hs : s = 0 ∨ s = 1) (hx_ : x < 170 ∨ 174 < x) (hy_ : y < 170 ∨ 174 < y) (hy0 : 0 ≤ dg f_y) (bx17 : Bd f_x 17) (by17 : Bd f_y 17) : Ct 198 (d + 3) 280 [(1, 161), (1, x), (1, y), (0, s)] M (fun r_ M' => ∃ R' : Int → Option (Pl k), r_ = (0, bz (dr s f_x f_y = pz)) ∧ RS M' k R' ∧ (∀ a : Int, (∀ p : Int, isR p → a ≠ p) → M' a = M a) ∧ (∀ p : Int, p ≠ 170 → p ≠ 171 → p ≠ 172 → p ≠ 173 → p ≠ 174 → R' p = R p) ∧ R' 173 = some (dr s f_x f_y) ∧ R' 174 = some (dq s f_x f_y)) := by
  have hK : cd 280 = k280 := rfl
  have bz_ := Bd_dr17 s bx17 by17 hy0
  show Wp 198 _ 280 0 [(1, 161), (1, x), (1, y), (0, s)] [] M _
  refine w_al hK rfl rfl ?_
  refine w_al hK rfl rfl ?_
  refine w_al hK rfl rfl ?_
  refine w_il hK rfl rfl ?_
  refine w_call [(1, 161), (1, x), (1, y), (0, s)] hK rfl rfl rfl rfl (Or.inr ⟨_, _, _, rfl, by decide, (by decide), rfl⟩) (r_div C hx hy s (by omega) (by omega) (by omega) (by omega) bx17 by17) ?_
  rintro _ V242 ⟨P242, rfl, C242, S242, F242, f242_0, f242_1⟩
  refine ⟨by decide, (?_ : Wp 198 _ 280 5 [(1, 161), (1, x), (1, y), (0, s)] [] V242 _)⟩
  refine w_al hK rfl rfl ?_
  refine w_getr (n := 19) (v := 173) hK rfl rfl (by decide) (by decide) rfl rfl rfl rfl ?_
  have dI_ : -1 ≤ dg (dr s f_x f_y) ∧ dg (dr s f_x f_y) ≤ 47 := C242.dI ⟨(isR_of (p := 173) rfl), f242_0⟩
  refine w_call [(1, 173)] hK rfl rfl rfl rfl (Or.inl rfl) (r_deg C242 ⟨(isR_of (p := 173) rfl), f242_0⟩) ?_
  rintro _ Mq ⟨rfl, e_⟩
  subst Mq
  refine ⟨by show (0 : Nat) ≠ 9; decide, (?_ : Wp 198 _ 280 8 [(1, 161), (1, x), (1, y), (0, s)] [(0, (dg (dr s f_x f_y)))] V242 _)⟩
  refine w_ic hK rfl ?_
  have gD_ := dg_ge (dr s f_x f_y)
  refine w_ne2 hK rfl (by omega) (by omega) (by omega) (by omega) (fun h9 => ?_) (fun h9 => ?_)
  · refine w_ic hK rfl ?_
    refine w_zret hK rfl rfl (Or.inl rfl) ?_
    rw [bz_neg (fun q_ => by rw [q_, dg_pz] at h9; exact h9 rfl)]
    exact ⟨_, rfl, C242, (fun a nr_ => (S242 a nr_)), (fun p pn170_ pn171_ pn172_ pn173_ pn174_ => (F242 p pn170_ pn171_ pn172_ pn173_ pn174_)), f242_0, f242_1⟩
  · refine w_ic hK rfl ?_
    refine w_goto hK rfl ?_
    refine w_zret hK rfl rfl (Or.inr rfl) ?_
    rw [bz_pos ((dg_neg (bz_.1.mono (by decide))).mp (by omega))]
    exact ⟨_, rfl, C242, (fun a nr_ => (S242 a nr_)), (fun p pn170_ pn171_ pn172_ pn173_ pn174_ => (F242 p pn170_ pn171_ pn172_ pn173_ pn174_)), f242_0, f242_1⟩
set_option maxRecDepth 100000 in
theorem r_mon0 {d : Nat} {M : Mem} {k : Nat} {R : Int → Option (Pl k)} (C : RS M k R) {x : Int} {f_x : Pl k} (hx : isK R x f_x) (hx0 : 0 ≤ dg f_x) (hx8 : dg f_x ≤ 60) : Ct 198 (d + 2) 242 [(1, 161), (1, x), (0, 0)] M (fun r_ M' => ∃ R' : Int → Option (Pl k), r_ = (4, 0) ∧ RS M' k R' ∧ (∀ a : Int, (∀ p : Int, isR p → a ≠ p) → M' a = M a) ∧ (∀ p : Int, p ≠ x → R' p = R p) ∧ R' x = some (mon 0 f_x)) := by
  have hK : cd 242 = k242 := rfl
  show Wp 198 _ 242 0 [(1, 161), (1, x), (0, 0), (3, 0), (3, 0)] [] M _
  refine w_al hK rfl rfl ?_
  have dI_ : -1 ≤ dg f_x ∧ dg f_x ≤ 47 := C.dI hx
  refine w_call [(1, x)] hK rfl rfl rfl rfl (Or.inl rfl) (r_deg C hx) ?_
  rintro _ Mq ⟨rfl, e_⟩
  subst Mq
  refine ⟨by show (0 : Nat) ≠ 9; decide, (?_ : Wp 198 _ 242 2 [(1, 161), (1, x), (0, 0), (3, 0), (3, 0)] [(0, (dg f_x))] M _)⟩
  refine w_is [(1, 161), (1, x), (0, 0), (0, (dg f_x)), (3, 0)] hK rfl rfl rfl ?_
  refine w_al hK rfl rfl ?_
  refine w_getr (n := 7) (v := 165) hK rfl rfl (by decide) (by decide) rfl rfl rfl rfl ?_
  refine w_al hK rfl rfl ?_
  refine w_il hK rfl rfl ?_
  refine w_ria hK rfl hx.1 (by omega) (by omega) ?_
  rw [show M x (dg f_x) = ((cf f_x (dg f_x)).val : Int) from C.atI hx (by omega) (by omega)]
  have bl_ := el_I (cf f_x (dg f_x))
  refine w_ia hK rfl rfl (by decide) (by decide) (by omega) (by omega) ?_
  rw [show M 165 ((cf f_x (dg f_x)).val : Int) = ((iv (cf f_x (dg f_x))).val : Int) from C.F.v (cf f_x (dg f_x))]
  refine w_is [(1, 161), (1, x), (0, 0), (0, (dg f_x)), (0, ((iv (cf f_x (dg f_x))).val : Int))] hK rfl rfl rfl ?_
  refine w_il hK rfl rfl ?_
  refine w_ne hK rfl (by omega) (by omega) (fun h11 => ?_) (fun h11 => ?_)
  · exfalso; omega
  · refine w_al hK rfl rfl ?_
    refine w_il hK rfl rfl ?_
    refine w_al hK rfl rfl ?_
    refine w_call [(1, 161), (0, ((iv (cf f_x (dg f_x))).val : Int)), (1, x)] hK rfl rfl rfl rfl (Or.inr ⟨_, _, _, rfl, by decide, (by decide), rfl⟩) (r_scal C (iv (cf f_x (dg f_x))) hx) ?_
    rintro _ V243 ⟨P243, rfl, C243, S243, F243, f243_0⟩
    refine ⟨by decide, (?_ : Wp 198 _ 242 16 [(1, 161), (1, x), (0, 0), (0, (dg f_x)), (0, ((iv (cf f_x (dg f_x))).val : Int))] [] V243 _)⟩
    refine w_goto hK rfl ?_
    refine w_ret hK rfl rfl ?_
    exact ⟨_, rfl, C243, (fun a nr_ => (S243 a nr_)), (fun p pnx_ => (F243 p pnx_)), f243_0⟩
set_option maxRecDepth 100000 in
theorem r_mon1 {d : Nat} {M : Mem} {k : Nat} {R : Int → Option (Pl k)} (C : RS M k R) {x : Int} {f_x : Pl k} (hx : isK R x f_x) (hx0 : 0 ≤ dg f_x) (hx8 : dg f_x ≤ 60) : Ct 198 (d + 2) 242 [(1, 161), (1, x), (0, 1)] M (fun r_ M' => ∃ R' : Int → Option (Pl k), r_ = (4, 0) ∧ RS M' k R' ∧ (∀ a : Int, (∀ p : Int, isR p → a ≠ p) → M' a = M a) ∧ (∀ p : Int, p ≠ x → R' p = R p) ∧ R' x = some (mon 1 f_x)) := by
  have hK : cd 242 = k242 := rfl
  show Wp 198 _ 242 0 [(1, 161), (1, x), (0, 1), (3, 0), (3, 0)] [] M _
  refine w_al hK rfl rfl ?_
  have dI_ : -1 ≤ dg f_x ∧ dg f_x ≤ 47 := C.dI hx
  refine w_call [(1, x)] hK rfl rfl rfl rfl (Or.inl rfl) (r_deg C hx) ?_
  rintro _ Mq ⟨rfl, e_⟩
  subst Mq
  refine ⟨by show (0 : Nat) ≠ 9; decide, (?_ : Wp 198 _ 242 2 [(1, 161), (1, x), (0, 1), (3, 0), (3, 0)] [(0, (dg f_x))] M _)⟩
  refine w_is [(1, 161), (1, x), (0, 1), (0, (dg f_x)), (3, 0)] hK rfl rfl rfl ?_
  refine w_al hK rfl rfl ?_
  refine w_getr (n := 7) (v := 165) hK rfl rfl (by decide) (by decide) rfl rfl rfl rfl ?_
  refine w_al hK rfl rfl ?_
  refine w_il hK rfl rfl ?_
  refine w_ria hK rfl hx.1 (by omega) (by omega) ?_
  rw [show M x (dg f_x) = ((cf f_x (dg f_x)).val : Int) from C.atI hx (by omega) (by omega)]
  have bl_ := el_I (cf f_x (dg f_x))
  refine w_ia hK rfl rfl (by decide) (by decide) (by omega) (by omega) ?_
  rw [show M 165 ((cf f_x (dg f_x)).val : Int) = ((iv (cf f_x (dg f_x))).val : Int) from C.F.v (cf f_x (dg f_x))]
  refine w_is [(1, 161), (1, x), (0, 1), (0, (dg f_x)), (0, ((iv (cf f_x (dg f_x))).val : Int))] hK rfl rfl rfl ?_
  refine w_il hK rfl rfl ?_
  refine w_ne hK rfl (by omega) (by omega) (fun h11 => ?_) (fun h11 => ?_)
  · refine w_al hK rfl rfl ?_
    refine w_al hK rfl rfl ?_
    refine w_al hK rfl rfl ?_
    refine w_il hK rfl rfl ?_
    refine w_il hK rfl rfl ?_
    refine w_neg hK rfl (by omega) (by omega) ?_
    refine w_call [(1, 161), (0, ((iv (cf f_x (dg f_x))).val : Int)), (0, (-(dg f_x)))] hK rfl rfl rfl rfl (Or.inr ⟨_, _, _, rfl, by decide, (by decide), rfl⟩) (r_mapd C.F (iv (cf f_x (dg f_x))) (-(dg f_x)) (by omega) (by omega)) ?_
    rintro _ Mq ⟨rfl, e_⟩
    subst Mq
    have bv_ := el_I (sgI (-(dg f_x)) (iv (cf f_x (dg f_x))))
    refine ⟨by show (0 : Nat) ≠ 9; decide, (?_ : Wp 198 _ 242 24 [(1, 161), (1, x), (0, 1), (0, (dg f_x)), (0, ((iv (cf f_x (dg f_x))).val : Int))] [(0, ((sgI (-(dg f_x)) (iv (cf f_x (dg f_x)))).val : Int)), (1, x), (1, 161)] M _)⟩
    refine w_call [(1, 161), (1, x), (0, ((sgI (-(dg f_x)) (iv (cf f_x (dg f_x)))).val : Int))] hK rfl rfl rfl rfl (Or.inr ⟨_, _, _, rfl, by decide, (by decide), rfl⟩) (r_scb C hx (sgI (-(dg f_x)) (iv (cf f_x (dg f_x))))) ?_
    rintro _ V244 ⟨P244, rfl, C244, S244, F244, f244_0⟩
    refine ⟨by decide, (?_ : Wp 198 _ 242 25 [(1, 161), (1, x), (0, 1), (0, (dg f_x)), (0, ((iv (cf f_x (dg f_x))).val : Int))] [] V244 _)⟩
    refine w_ret hK rfl rfl ?_
    exact ⟨_, rfl, C244, (fun a nr_ => (S244 a nr_)), (fun p pnx_ => (F244 p pnx_)), f244_0⟩
  · exfalso; omega
theorem r_mon {d : Nat} {M : Mem} {k : Nat} {R : Int → Option (Pl k)} (C : RS M k R) {x : Int} {f_x : Pl k} (hx : isK R x f_x) (hx0 : 0 ≤ dg f_x) (hx8 : dg f_x ≤ 60) (s : Int) (hs : s = 0 ∨ s = 1) : Ct 198 (d + 2) 242 [(1, 161), (1, x), (0, s)] M (fun r_ M' => ∃ R' : Int → Option (Pl k), r_ = (4, 0) ∧ RS M' k R' ∧ (∀ a : Int, (∀ p : Int, isR p → a ≠ p) → M' a = M a) ∧ (∀ p : Int, p ≠ x → R' p = R p) ∧ R' x = some (mon s f_x)) := by
  rcases hs with e | e
  · subst e; exact r_mon0 C hx hx0 hx8
  · subst e; exact r_mon1 C hx hx0 hx8
set_option maxRecDepth 100000 in
theorem r_loads {d : Nat} {M : Mem} {k : Nat} {R : Int → Option (Pl k)} (C : RS M k R) {pl : Nat → Pl k} (hpl : PM M pl) (i j l : Nat) (hi : i < 6) (hj : j < 6) (hl : l < 6) : Ct 198 (d + 3) 227 [(1, 161), (0, (i : Int)), (0, (j : Int)), (0, (l : Int))] M (fun r_ M' => ∃ R' : Int → Option (Pl k), r_ = (0, 1) ∧ RS M' k R' ∧ (∀ a : Int, (∀ p : Int, isR p → a ≠ p) → M' a = M a) ∧ (∀ p : Int, p ≠ 180 → p ≠ 181 → R' p = R p) ∧ R' 180 = some (pl i) ∧ R' 181 = some (pl j)) := by
  have hK : cd 227 = k227 := rfl
  show Wp 198 _ 227 0 [(1, 161), (0, (i : Int)), (0, (j : Int)), (0, (l : Int))] [] M _
  refine w_il hK rfl rfl ?_
  refine w_call [(0, (i : Int))] hK rfl rfl rfl rfl (Or.inl rfl) (r_place (i : Int) (by omega) (by omega)) ?_
  rintro _ Mq ⟨rfl, e_⟩
  subst Mq
  refine ⟨by show (0 : Nat) ≠ 9; decide, (?_ : Wp 198 _ 227 2 [(1, 161), (0, (i : Int)), (0, (j : Int)), (0, (l : Int))] [(0, (if 0 ≤ (i : Int) ∧ (i : Int) < 6 then 1 else 0))] M _)⟩
  have tI_ := ite01 (0 ≤ (i : Int) ∧ (i : Int) < 6)
  refine w_eq hK rfl (by omega) (by omega) (fun h2 => ?_) (fun h2 => ?_)
  · exfalso; omega
  · refine w_il hK rfl rfl ?_
    refine w_call [(0, (j : Int))] hK rfl rfl rfl rfl (Or.inl rfl) (r_place (j : Int) (by omega) (by omega)) ?_
    rintro _ Mq ⟨rfl, e_⟩
    subst Mq
    refine ⟨by show (0 : Nat) ≠ 9; decide, (?_ : Wp 198 _ 227 5 [(1, 161), (0, (i : Int)), (0, (j : Int)), (0, (l : Int))] [(0, (if 0 ≤ (j : Int) ∧ (j : Int) < 6 then 1 else 0))] M _)⟩
    have tI2_ := ite01 (0 ≤ (j : Int) ∧ (j : Int) < 6)
    refine w_eq hK rfl (by omega) (by omega) (fun h5 => ?_) (fun h5 => ?_)
    · exfalso; omega
    · refine w_il hK rfl rfl ?_
      refine w_call [(0, (l : Int))] hK rfl rfl rfl rfl (Or.inl rfl) (r_place (l : Int) (by omega) (by omega)) ?_
      rintro _ Mq ⟨rfl, e_⟩
      subst Mq
      refine ⟨by show (0 : Nat) ≠ 9; decide, (?_ : Wp 198 _ 227 8 [(1, 161), (0, (i : Int)), (0, (j : Int)), (0, (l : Int))] [(0, (if 0 ≤ (l : Int) ∧ (l : Int) < 6 then 1 else 0))] M _)⟩
      have tI3_ := ite01 (0 ≤ (l : Int) ∧ (l : Int) < 6)
      refine w_ne hK rfl (by omega) (by omega) (fun h8 => ?_) (fun h8 => ?_)
      · refine w_al hK rfl rfl ?_
        refine w_il hK rfl rfl ?_
        refine w_al hK rfl rfl ?_
        refine w_getr (n := 26) (v := 180) hK rfl rfl (by decide) (by decide) rfl rfl rfl rfl ?_
        refine w_call [(1, 161), (0, (i : Int)), (1, 180)] hK rfl rfl rfl rfl (Or.inr ⟨_, _, _, rfl, by decide, (by decide), rfl⟩) (r_load C hpl i hi (isR_of (p := 180) rfl)) ?_
        rintro _ V245 ⟨P245, rfl, C245, S245, F245, f245_0⟩
        refine ⟨by decide, (?_ : Wp 198 _ 227 16 [(1, 161), (0, (i : Int)), (0, (j : Int)), (0, (l : Int))] [] V245 _)⟩
        refine w_al hK rfl rfl ?_
        refine w_il hK rfl rfl ?_
        refine w_al hK rfl rfl ?_
        refine w_getr (n := 27) (v := 181) hK rfl rfl (by decide) (by decide) rfl rfl rfl rfl ?_
        refine w_call [(1, 161), (0, (j : Int)), (1, 181)] hK rfl rfl rfl rfl (Or.inr ⟨_, _, _, rfl, by decide, (by decide), rfl⟩) (r_load C245 (PM.keep hpl (S245 167 (notR rfl))) j hj (isR_of (p := 181) rfl)) ?_
        rintro _ V246 ⟨P246, rfl, C246, S246, F246, f246_0⟩
        refine ⟨by decide, (?_ : Wp 198 _ 227 21 [(1, 161), (0, (i : Int)), (0, (j : Int)), (0, (l : Int))] [] V246 _)⟩
        refine w_ic hK rfl ?_
        refine w_zret hK rfl rfl (Or.inr rfl) ?_
        exact ⟨_, rfl, C246, (fun a nr_ => ((S246 a nr_).trans (S245 a nr_))), (fun p pn180_ pn181_ => ((F246 p pn181_).trans (F245 p pn180_))), ((F246 180 (by omega)).trans f245_0), f246_0⟩
      · exfalso; omega
set_option maxRecDepth 100000 in
theorem r_loadsN {d : Nat} {M : Mem} (i j l : Int) (i1_ : -2147483648 ≤ i) (i2_ : i ≤ 2147483647) (j1_ : -2147483648 ≤ j) (j2_ : j ≤ 2147483647) (l1_ : -2147483648 ≤ l) (l2_ : l ≤ 2147483647) (hn : ¬ ((0 ≤ i ∧ i < 6) ∧ (0 ≤ j ∧ j < 6) ∧ 0 ≤ l ∧ l < 6)) : Ct 198 (d + 3) 227 [(1, 161), (0, i), (0, j), (0, l)] M (fun r_ M' => r_ = (0, 0) ∧ M' = M) := by
  have hK : cd 227 = k227 := rfl
  show Wp 198 _ 227 0 [(1, 161), (0, i), (0, j), (0, l)] [] M _
  refine w_il hK rfl rfl ?_
  refine w_call [(0, i)] hK rfl rfl rfl rfl (Or.inl rfl) (r_place i (by omega) (by omega)) ?_
  rintro _ Mq ⟨rfl, e_⟩
  subst Mq
  refine ⟨by show (0 : Nat) ≠ 9; decide, (?_ : Wp 198 _ 227 2 [(1, 161), (0, i), (0, j), (0, l)] [(0, (if 0 ≤ i ∧ i < 6 then 1 else 0))] M _)⟩
  have tI_ := ite01 (0 ≤ i ∧ i < 6)
  refine w_eq hK rfl (by omega) (by omega) (fun h2 => ?_) (fun h2 => ?_)
  · refine w_ic hK rfl ?_
    refine w_zret hK rfl rfl (Or.inl rfl) ?_
    exact ⟨rfl, rfl⟩
  · refine w_il hK rfl rfl ?_
    refine w_call [(0, j)] hK rfl rfl rfl rfl (Or.inl rfl) (r_place j (by omega) (by omega)) ?_
    rintro _ Mq ⟨rfl, e_⟩
    subst Mq
    refine ⟨by show (0 : Nat) ≠ 9; decide, (?_ : Wp 198 _ 227 5 [(1, 161), (0, i), (0, j), (0, l)] [(0, (if 0 ≤ j ∧ j < 6 then 1 else 0))] M _)⟩
    have tI2_ := ite01 (0 ≤ j ∧ j < 6)
    refine w_eq hK rfl (by omega) (by omega) (fun h5 => ?_) (fun h5 => ?_)
    · refine w_ic hK rfl ?_
      refine w_zret hK rfl rfl (Or.inl rfl) ?_
      exact ⟨rfl, rfl⟩
    · refine w_il hK rfl rfl ?_
      refine w_call [(0, l)] hK rfl rfl rfl rfl (Or.inl rfl) (r_place l (by omega) (by omega)) ?_
      rintro _ Mq ⟨rfl, e_⟩
      subst Mq
      refine ⟨by show (0 : Nat) ≠ 9; decide, (?_ : Wp 198 _ 227 8 [(1, 161), (0, i), (0, j), (0, l)] [(0, (if 0 ≤ l ∧ l < 6 then 1 else 0))] M _)⟩
      have tI3_ := ite01 (0 ≤ l ∧ l < 6)
      refine w_ne hK rfl (by omega) (by omega) (fun h8 => ?_) (fun h8 => ?_)
      · exfalso; omega
      · refine w_ic hK rfl ?_
        refine w_zret hK rfl rfl (Or.inl rfl) ?_
        exact ⟨rfl, rfl⟩
set_option maxRecDepth 100000 in
theorem r_euc0 {d : Nat} {M : Mem} {k : Nat} {R : Int → Option (Pl k)} (C : RS M k R) {x : Int} {f_x : Pl k} (hx : isK R x f_x) {y : Int} {f_y : Pl k} (hy : isK R y f_y) (hx_ : x < 170 ∨ 179 < x) (hy_ : y < 170 ∨ 179 < y) (bx9 : Bd f_x 9) (by9 : Bd f_y 9) : Ct 198 (d + 4) 241 [(1, 161), (1, x), (1, y), (0, 0)] M (fun r_ M' => ∃ R' : Int → Option (Pl k), r_ = (4, 0) ∧ RS M' k R' ∧ (∀ a : Int, (∀ p : Int, isR p → a ≠ p) → M' a = M a) ∧ (∀ p : Int, p ≠ 170 → p ≠ 171 → p ≠ 172 → p ≠ 173 → p ≠ 174 → p ≠ 175 → p ≠ 176 → p ≠ 177 → p ≠ 178 → p ≠ 179 → R' p = R p) ∧ R' 175 = some ((euL 0 f_x f_y).1) ∧ R' 178 = some ((euL 0 f_x f_y).2.2.2.1)) := by
  have hK : cd 241 = k241 := rfl
  show Wp 198 _ 241 0 [(1, 161), (1, x), (1, y), (0, 0)] [] M _
  refine w_al hK rfl rfl ?_
  refine w_al hK rfl rfl ?_
  refine w_getr (n := 21) (v := 175) hK rfl rfl (by decide) (by decide) rfl rfl rfl rfl ?_
  refine w_call [(1, x), (1, 175)] hK rfl rfl rfl rfl (Or.inl rfl) (r_copy C hx (isR_of (p := 175) rfl) (by omega)) ?_
  rintro _ V247 ⟨P247, rfl, C247, S247, F247, f247_0⟩
  refine ⟨by decide, (?_ : Wp 198 _ 241 4 [(1, 161), (1, x), (1, y), (0, 0)] [] V247 _)⟩
  refine w_al hK rfl rfl ?_
  refine w_al hK rfl rfl ?_
  refine w_getr (n := 22) (v := 176) hK rfl rfl (by decide) (by decide) rfl rfl rfl rfl ?_
  refine w_call [(1, y), (1, 176)] hK rfl rfl rfl rfl (Or.inl rfl) (r_copy C247 ⟨hy.1, ((F247 y (by omega)).trans hy.2)⟩ (isR_of (p := 176) rfl) (by omega)) ?_
  rintro _ V248 ⟨P248, rfl, C248, S248, F248, f248_0⟩
  refine ⟨by decide, (?_ : Wp 198 _ 241 8 [(1, 161), (1, x), (1, y), (0, 0)] [] V248 _)⟩
  refine w_al hK rfl rfl ?_
  refine w_getr (n := 23) (v := 177) hK rfl rfl (by decide) (by decide) rfl rfl rfl rfl ?_
  refine w_call [(1, 177)] hK rfl rfl rfl rfl (Or.inl rfl) (r_clear C248 (isR_of (p := 177) rfl)) ?_
  rintro _ V249 ⟨P249, rfl, C249, S249, F249, f249_0⟩
  refine ⟨by decide, (?_ : Wp 198 _ 241 11 [(1, 161), (1, x), (1, y), (0, 0)] [] V249 _)⟩
  refine w_al hK rfl rfl ?_
  refine w_getr (n := 24) (v := 178) hK rfl rfl (by decide) (by decide) rfl rfl rfl rfl ?_
  refine w_call [(1, 178)] hK rfl rfl rfl rfl (Or.inl rfl) (r_clear C249 (isR_of (p := 178) rfl)) ?_
  rintro _ V250 ⟨P250, rfl, C250, S250, F250, f250_0⟩
  refine ⟨by decide, (?_ : Wp 198 _ 241 14 [(1, 161), (1, x), (1, y), (0, 0)] [] V250 _)⟩
  refine w_al hK rfl rfl ?_
  refine w_getr (n := 23) (v := 177) hK rfl rfl (by decide) (by decide) rfl rfl rfl rfl ?_
  refine w_ic hK rfl ?_
  refine w_ic hK rfl ?_
  refine w_iat hK rfl rfl (by decide) (by decide) (by omega) (by omega) ?_
  have lp19 : ∀ (n_ : Nat) (n : Nat) (R1 : Int → Option (Pl k)) (N19 : Mem), (dg (eu 0 f_x f_y n).2.1 + 1).toNat = n_ → (EuB (eu 0 f_x f_y n)) → (∀ m_ : Nat, m_ < n → (eu 0 f_x f_y m_).2.1 ≠ pz) → (RS N19 k R1) → (R1 175 = some (eu 0 f_x f_y n).1) → (R1 176 = some (eu 0 f_x f_y n).2.1) → (R1 177 = some (eu 0 f_x f_y n).2.2.1) → (R1 178 = some (eu 0 f_x f_y n).2.2.2.1) → ((∀ p : Int, p ≠ 170 → p ≠ 171 → p ≠ 172 → p ≠ 173 → p ≠ 174 → p ≠ 175 → p ≠ 176 → p ≠ 177 → p ≠ 178 → p ≠ 179 → R1 p = R p)) → ((∀ a : Int, (∀ p : Int, isR p → a ≠ p) → N19 a = M a)) → Wp 198 (d + 4) 241 19 [(1, 161), (1, x), (1, y), (0, 0)] [] N19 (fun r_ M' => ∃ R' : Int → Option (Pl k), r_ = (4, 0) ∧ RS M' k R' ∧ (∀ a : Int, (∀ p : Int, isR p → a ≠ p) → M' a = M a) ∧ (∀ p : Int, p ≠ 170 → p ≠ 171 → p ≠ 172 → p ≠ 173 → p ≠ 174 → p ≠ 175 → p ≠ 176 → p ≠ 177 → p ≠ 178 → p ≠ 179 → R' p = R p) ∧ R' 175 = some ((euL 0 f_x f_y).1) ∧ R' 178 = some ((euL 0 f_x f_y).2.2.2.1)) := by
    intro n_
    induction n_ using Nat.strongRecOn with
    | _ n_ ih19 =>
    intro n R1 N19 hm19 hB_ hz_ hC h175_ h176_ h177_ h178_ hG hS
    refine w_al hK rfl rfl ?_
    refine w_getr (n := 22) (v := 176) hK rfl rfl (by decide) (by decide) rfl rfl rfl rfl ?_
    have dI_ : -1 ≤ dg ((eu 0 f_x f_y n).2.1) ∧ dg ((eu 0 f_x f_y n).2.1) ≤ 47 := hC.dI ⟨(isR_of (p := 176) rfl), h176_⟩
    refine w_call [(1, 176)] hK rfl rfl rfl rfl (Or.inl rfl) (r_deg hC ⟨(isR_of (p := 176) rfl), h176_⟩) ?_
    rintro _ Mq ⟨rfl, e_⟩
    subst Mq
    refine ⟨by show (0 : Nat) ≠ 9; decide, (?_ : Wp 198 _ 241 22 [(1, 161), (1, x), (1, y), (0, 0)] [(0, (dg ((eu 0 f_x f_y n).2.1)))] N19 _)⟩
    refine w_ic hK rfl ?_
    have gD_ := dg_ge (eu 0 f_x f_y n).2.1
    have gB_ := dg_lt9 hB_.1.2
    have gA_ := dg_lt9 hB_.1.1
    have gU_ := dg_lt17 hB_.2.1.2.1
    have gV_ := dg_lt17 hB_.2.1.1
    have gX_ := hB_.2.2.1.1
    refine w_eq2 hK rfl (by omega) (by omega) (by omega) (by omega) (fun h23 => ?_) (fun h23 => ?_)
    · refine w_ret hK rfl rfl ?_
      have eE_ : EuE 0 f_x f_y n := ⟨hz_, (dg_neg (hB_.1.2.mono (by decide))).mp (by omega)⟩
      rw [← euL_eq eE_] at h175_ h178_ h176_ h177_
      exact ⟨R1, rfl, hC, hS, hG, h175_, h178_⟩
    · have hne_ : (eu 0 f_x f_y n).2.1 ≠ pz := fun q_ => by rw [q_, dg_pz] at h23; exact h23 rfl
      have dv_ := dg_dv 0 (hB_.1.1.mono (show 9 ≤ 17 by decide)) (hB_.1.2.mono (show 9 ≤ 17 by decide)) (by omega)
      refine w_al hK rfl rfl ?_
      refine w_al hK rfl rfl ?_
      refine w_getr (n := 21) (v := 175) hK rfl rfl (by decide) (by decide) rfl rfl rfl rfl ?_
      refine w_al hK rfl rfl ?_
      refine w_getr (n := 22) (v := 176) hK rfl rfl (by decide) (by decide) rfl rfl rfl rfl ?_
      refine w_il hK rfl rfl ?_
      refine w_call [(1, 161), (1, 175), (1, 176), (0, 0)] hK rfl rfl rfl rfl (Or.inr ⟨_, _, _, rfl, by decide, (by decide), rfl⟩) (r_div hC ⟨(isR_of (p := 175) rfl), h175_⟩ ⟨(isR_of (p := 176) rfl), h176_⟩ 0 (by omega) (by omega) (by omega) (by omega) (hB_.1.1.mono (by decide)) (hB_.1.2.mono (by decide))) ?_
      rintro _ V251 ⟨P251, rfl, C251, S251, F251, f251_0, f251_1⟩
      refine ⟨by decide, (?_ : Wp 198 _ 241 31 [(1, 161), (1, x), (1, y), (0, 0)] [] V251 _)⟩
      refine w_al hK rfl rfl ?_
      refine w_getr (n := 22) (v := 176) hK rfl rfl (by decide) (by decide) rfl rfl rfl rfl ?_
      refine w_al hK rfl rfl ?_
      refine w_getr (n := 21) (v := 175) hK rfl rfl (by decide) (by decide) rfl rfl rfl rfl ?_
      refine w_call [(1, 176), (1, 175)] hK rfl rfl rfl rfl (Or.inl rfl) (r_copy C251 ⟨(isR_of (p := 176) rfl), ((F251 176 (by omega) (by omega) (by omega) (by omega) (by omega)).trans h176_)⟩ (isR_of (p := 175) rfl) (by omega)) ?_
      rintro _ V252 ⟨P252, rfl, C252, S252, F252, f252_0⟩
      refine ⟨by decide, (?_ : Wp 198 _ 241 36 [(1, 161), (1, x), (1, y), (0, 0)] [] V252 _)⟩
      refine w_al hK rfl rfl ?_
      refine w_getr (n := 19) (v := 173) hK rfl rfl (by decide) (by decide) rfl rfl rfl rfl ?_
      refine w_al hK rfl rfl ?_
      refine w_getr (n := 22) (v := 176) hK rfl rfl (by decide) (by decide) rfl rfl rfl rfl ?_
      refine w_call [(1, 173), (1, 176)] hK rfl rfl rfl rfl (Or.inl rfl) (r_copy C252 ⟨(isR_of (p := 173) rfl), ((F252 173 (by omega)).trans f251_0)⟩ (isR_of (p := 176) rfl) (by omega)) ?_
      rintro _ V253 ⟨P253, rfl, C253, S253, F253, f253_0⟩
      refine ⟨by decide, (?_ : Wp 198 _ 241 41 [(1, 161), (1, x), (1, y), (0, 0)] [] V253 _)⟩
      refine w_il hK rfl rfl ?_
      refine w_ne hK rfl (by omega) (by omega) (fun h42 => ?_) (fun h42 => ?_)
      · exfalso; omega
      · refine w_al hK rfl rfl ?_
        refine w_al hK rfl rfl ?_
        refine w_getr (n := 20) (v := 174) hK rfl rfl (by decide) (by decide) rfl rfl rfl rfl ?_
        refine w_al hK rfl rfl ?_
        refine w_getr (n := 24) (v := 178) hK rfl rfl (by decide) (by decide) rfl rfl rfl rfl ?_
        refine w_al hK rfl rfl ?_
        refine w_getr (n := 25) (v := 179) hK rfl rfl (by decide) (by decide) rfl rfl rfl rfl ?_
        refine w_call [(1, 161), (1, 174), (1, 178), (1, 179)] hK rfl rfl rfl rfl (Or.inr ⟨_, _, _, rfl, by decide, (by decide), rfl⟩) (r_prod C253 ⟨(isR_of (p := 174) rfl), ((F253 174 (by omega)).trans ((F252 174 (by omega)).trans f251_1))⟩ ⟨(isR_of (p := 178) rfl), ((F253 178 (by omega)).trans ((F252 178 (by omega)).trans ((F251 178 (by omega) (by omega) (by omega) (by omega) (by omega)).trans h178_)))⟩ (isR_of (p := 179) rfl) (by omega) (by omega) (by omega) (by omega)) ?_
        rintro _ V254 ⟨P254, rfl, C254, S254, F254, f254_0⟩
        refine ⟨by decide, (?_ : Wp 198 _ 241 51 [(1, 161), (1, x), (1, y), (0, 0)] [] V254 _)⟩
        refine w_goto hK rfl ?_
        refine w_al hK rfl rfl ?_
        refine w_al hK rfl rfl ?_
        refine w_getr (n := 25) (v := 179) hK rfl rfl (by decide) (by decide) rfl rfl rfl rfl ?_
        refine w_al hK rfl rfl ?_
        refine w_getr (n := 23) (v := 177) hK rfl rfl (by decide) (by decide) rfl rfl rfl rfl ?_
        refine w_call [(1, 161), (1, 179), (1, 177)] hK rfl rfl rfl rfl (Or.inr ⟨_, _, _, rfl, by decide, (by decide), rfl⟩) (r_less C254 ⟨(isR_of (p := 179) rfl), f254_0⟩ ⟨(isR_of (p := 177) rfl), ((F254 177 (by omega) (by omega)).trans ((F253 177 (by omega)).trans ((F252 177 (by omega)).trans ((F251 177 (by omega) (by omega) (by omega) (by omega) (by omega)).trans h177_))))⟩ (by omega)) ?_
        rintro _ V255 ⟨P255, rfl, C255, S255, F255, f255_0⟩
        refine ⟨by decide, (?_ : Wp 198 _ 241 66 [(1, 161), (1, x), (1, y), (0, 0)] [] V255 _)⟩
        refine w_al hK rfl rfl ?_
        refine w_getr (n := 23) (v := 177) hK rfl rfl (by decide) (by decide) rfl rfl rfl rfl ?_
        refine w_al hK rfl rfl ?_
        refine w_getr (n := 25) (v := 179) hK rfl rfl (by decide) (by decide) rfl rfl rfl rfl ?_
        refine w_call [(1, 177), (1, 179)] hK rfl rfl rfl rfl (Or.inl rfl) (r_copy C255 ⟨(isR_of (p := 177) rfl), f255_0⟩ (isR_of (p := 179) rfl) (by omega)) ?_
        rintro _ V256 ⟨P256, rfl, C256, S256, F256, f256_0⟩
        refine ⟨by decide, (?_ : Wp 198 _ 241 71 [(1, 161), (1, x), (1, y), (0, 0)] [] V256 _)⟩
        refine w_al hK rfl rfl ?_
        refine w_getr (n := 24) (v := 178) hK rfl rfl (by decide) (by decide) rfl rfl rfl rfl ?_
        refine w_al hK rfl rfl ?_
        refine w_getr (n := 23) (v := 177) hK rfl rfl (by decide) (by decide) rfl rfl rfl rfl ?_
        refine w_call [(1, 178), (1, 177)] hK rfl rfl rfl rfl (Or.inl rfl) (r_copy C256 ⟨(isR_of (p := 178) rfl), ((F256 178 (by omega)).trans ((F255 178 (by omega)).trans ((F254 178 (by omega) (by omega)).trans ((F253 178 (by omega)).trans ((F252 178 (by omega)).trans ((F251 178 (by omega) (by omega) (by omega) (by omega) (by omega)).trans h178_))))))⟩ (isR_of (p := 177) rfl) (by omega)) ?_
        rintro _ V257 ⟨P257, rfl, C257, S257, F257, f257_0⟩
        refine ⟨by decide, (?_ : Wp 198 _ 241 76 [(1, 161), (1, x), (1, y), (0, 0)] [] V257 _)⟩
        refine w_al hK rfl rfl ?_
        refine w_getr (n := 25) (v := 179) hK rfl rfl (by decide) (by decide) rfl rfl rfl rfl ?_
        refine w_al hK rfl rfl ?_
        refine w_getr (n := 24) (v := 178) hK rfl rfl (by decide) (by decide) rfl rfl rfl rfl ?_
        refine w_call [(1, 179), (1, 178)] hK rfl rfl rfl rfl (Or.inl rfl) (r_copy C257 ⟨(isR_of (p := 179) rfl), ((F257 179 (by omega)).trans f256_0)⟩ (isR_of (p := 178) rfl) (by omega)) ?_
        rintro _ V258 ⟨P258, rfl, C258, S258, F258, f258_0⟩
        refine ⟨by decide, (?_ : Wp 198 _ 241 81 [(1, 161), (1, x), (1, y), (0, 0)] [] V258 _)⟩
        refine w_goto hK rfl ?_
        exact ih19 _ (by rw [eu_s.2.1]; omega) (n + 1) _ V258 rfl (hB_.step (by omega)) (fun m_ h_ => by
          by_cases q_ : m_ = n
          · rw [q_]; exact hne_
          · exact hz_ m_ (by omega)) C258 (((F258 175 (by omega)).trans ((F257 175 (by omega)).trans ((F256 175 (by omega)).trans ((F255 175 (by omega)).trans ((F254 175 (by omega) (by omega)).trans ((F253 175 (by omega)).trans f252_0))))))) (((F258 176 (by omega)).trans ((F257 176 (by omega)).trans ((F256 176 (by omega)).trans ((F255 176 (by omega)).trans ((F254 176 (by omega) (by omega)).trans f253_0)))))) (((F258 177 (by omega)).trans f257_0)) (f258_0) (fun p pn170_ pn171_ pn172_ pn173_ pn174_ pn175_ pn176_ pn177_ pn178_ pn179_ => ((F258 p pn178_).trans ((F257 p pn177_).trans ((F256 p pn179_).trans ((F255 p pn177_).trans ((F254 p pn170_ pn179_).trans ((F253 p pn176_).trans ((F252 p pn175_).trans ((F251 p pn170_ pn171_ pn172_ pn173_ pn174_).trans (hG p pn170_ pn171_ pn172_ pn173_ pn174_ pn175_ pn176_ pn177_ pn178_ pn179_)))))))))) (fun a nr_ => ((S258 a nr_).trans ((S257 a nr_).trans ((S256 a nr_).trans ((S255 a nr_).trans ((S254 a nr_).trans ((S253 a nr_).trans ((S252 a nr_).trans ((S251 a nr_).trans (hS a nr_))))))))))
  exact lp19 _ 0 _ (up V250 177 0 1) rfl (EuB.zero bx9 by9) (fun m_ h_ => by omega) (RS.up C250 ⟨(isR_of (p := 177) rfl), ((F250 177 (by omega)).trans f249_0)⟩ (j := 0) (by omega) (by omega) (e := e1) el1.symm) (((pu_ne (P := P250) (f := up1 pz 0 e1) (show 175 ≠ 177 by omega)).trans ((F250 175 (by omega)).trans ((F249 175 (by omega)).trans ((F248 175 (by omega)).trans f247_0))))) (((pu_ne (P := P250) (f := up1 pz 0 e1) (show 176 ≠ 177 by omega)).trans ((F250 176 (by omega)).trans ((F249 176 (by omega)).trans f248_0)))) (pu_eq) (((pu_ne (P := P250) (f := up1 pz 0 e1) (show 178 ≠ 177 by omega)).trans f250_0)) (fun p pn170_ pn171_ pn172_ pn173_ pn174_ pn175_ pn176_ pn177_ pn178_ pn179_ => ((pu_ne (P := P250) (f := up1 pz 0 e1) (show p ≠ 177 by omega)).trans ((F250 p pn178_).trans ((F249 p pn177_).trans ((F248 p pn176_).trans (F247 p pn175_)))))) (fun a nr_ => ((up_row (nr_ 177 (isR_of (p := 177) rfl))).trans ((S250 a nr_).trans ((S249 a nr_).trans ((S248 a nr_).trans (S247 a nr_))))))
set_option maxRecDepth 100000 in
theorem r_euc1 {d : Nat} {M : Mem} {k : Nat} {R : Int → Option (Pl k)} (C : RS M k R) {x : Int} {f_x : Pl k} (hx : isK R x f_x) {y : Int} {f_y : Pl k} (hy : isK R y f_y) (hx_ : x < 170 ∨ 179 < x) (hy_ : y < 170 ∨ 179 < y) (bx9 : Bd f_x 9) (by9 : Bd f_y 9) : Ct 198 (d + 4) 241 [(1, 161), (1, x), (1, y), (0, 1)] M (fun r_ M' => ∃ R' : Int → Option (Pl k), r_ = (4, 0) ∧ RS M' k R' ∧ (∀ a : Int, (∀ p : Int, isR p → a ≠ p) → M' a = M a) ∧ (∀ p : Int, p ≠ 170 → p ≠ 171 → p ≠ 172 → p ≠ 173 → p ≠ 174 → p ≠ 175 → p ≠ 176 → p ≠ 177 → p ≠ 178 → p ≠ 179 → R' p = R p) ∧ R' 175 = some ((euL 1 f_x f_y).1) ∧ R' 178 = some ((euL 1 f_x f_y).2.2.2.1)) := by
  have hK : cd 241 = k241 := rfl
  show Wp 198 _ 241 0 [(1, 161), (1, x), (1, y), (0, 1)] [] M _
  refine w_al hK rfl rfl ?_
  refine w_al hK rfl rfl ?_
  refine w_getr (n := 21) (v := 175) hK rfl rfl (by decide) (by decide) rfl rfl rfl rfl ?_
  refine w_call [(1, x), (1, 175)] hK rfl rfl rfl rfl (Or.inl rfl) (r_copy C hx (isR_of (p := 175) rfl) (by omega)) ?_
  rintro _ V259 ⟨P259, rfl, C259, S259, F259, f259_0⟩
  refine ⟨by decide, (?_ : Wp 198 _ 241 4 [(1, 161), (1, x), (1, y), (0, 1)] [] V259 _)⟩
  refine w_al hK rfl rfl ?_
  refine w_al hK rfl rfl ?_
  refine w_getr (n := 22) (v := 176) hK rfl rfl (by decide) (by decide) rfl rfl rfl rfl ?_
  refine w_call [(1, y), (1, 176)] hK rfl rfl rfl rfl (Or.inl rfl) (r_copy C259 ⟨hy.1, ((F259 y (by omega)).trans hy.2)⟩ (isR_of (p := 176) rfl) (by omega)) ?_
  rintro _ V260 ⟨P260, rfl, C260, S260, F260, f260_0⟩
  refine ⟨by decide, (?_ : Wp 198 _ 241 8 [(1, 161), (1, x), (1, y), (0, 1)] [] V260 _)⟩
  refine w_al hK rfl rfl ?_
  refine w_getr (n := 23) (v := 177) hK rfl rfl (by decide) (by decide) rfl rfl rfl rfl ?_
  refine w_call [(1, 177)] hK rfl rfl rfl rfl (Or.inl rfl) (r_clear C260 (isR_of (p := 177) rfl)) ?_
  rintro _ V261 ⟨P261, rfl, C261, S261, F261, f261_0⟩
  refine ⟨by decide, (?_ : Wp 198 _ 241 11 [(1, 161), (1, x), (1, y), (0, 1)] [] V261 _)⟩
  refine w_al hK rfl rfl ?_
  refine w_getr (n := 24) (v := 178) hK rfl rfl (by decide) (by decide) rfl rfl rfl rfl ?_
  refine w_call [(1, 178)] hK rfl rfl rfl rfl (Or.inl rfl) (r_clear C261 (isR_of (p := 178) rfl)) ?_
  rintro _ V262 ⟨P262, rfl, C262, S262, F262, f262_0⟩
  refine ⟨by decide, (?_ : Wp 198 _ 241 14 [(1, 161), (1, x), (1, y), (0, 1)] [] V262 _)⟩
  refine w_al hK rfl rfl ?_
  refine w_getr (n := 23) (v := 177) hK rfl rfl (by decide) (by decide) rfl rfl rfl rfl ?_
  refine w_ic hK rfl ?_
  refine w_ic hK rfl ?_
  refine w_iat hK rfl rfl (by decide) (by decide) (by omega) (by omega) ?_
  have lp19 : ∀ (n_ : Nat) (n : Nat) (R1 : Int → Option (Pl k)) (N19 : Mem), (dg (eu 1 f_x f_y n).2.1 + 1).toNat = n_ → (EuB (eu 1 f_x f_y n)) → (∀ m_ : Nat, m_ < n → (eu 1 f_x f_y m_).2.1 ≠ pz) → (RS N19 k R1) → (R1 175 = some (eu 1 f_x f_y n).1) → (R1 176 = some (eu 1 f_x f_y n).2.1) → (R1 177 = some (eu 1 f_x f_y n).2.2.1) → (R1 178 = some (eu 1 f_x f_y n).2.2.2.1) → ((∀ p : Int, p ≠ 170 → p ≠ 171 → p ≠ 172 → p ≠ 173 → p ≠ 174 → p ≠ 175 → p ≠ 176 → p ≠ 177 → p ≠ 178 → p ≠ 179 → R1 p = R p)) → ((∀ a : Int, (∀ p : Int, isR p → a ≠ p) → N19 a = M a)) → Wp 198 (d + 4) 241 19 [(1, 161), (1, x), (1, y), (0, 1)] [] N19 (fun r_ M' => ∃ R' : Int → Option (Pl k), r_ = (4, 0) ∧ RS M' k R' ∧ (∀ a : Int, (∀ p : Int, isR p → a ≠ p) → M' a = M a) ∧ (∀ p : Int, p ≠ 170 → p ≠ 171 → p ≠ 172 → p ≠ 173 → p ≠ 174 → p ≠ 175 → p ≠ 176 → p ≠ 177 → p ≠ 178 → p ≠ 179 → R' p = R p) ∧ R' 175 = some ((euL 1 f_x f_y).1) ∧ R' 178 = some ((euL 1 f_x f_y).2.2.2.1)) := by
    intro n_
    induction n_ using Nat.strongRecOn with
    | _ n_ ih19 =>
    intro n R1 N19 hm19 hB_ hz_ hC h175_ h176_ h177_ h178_ hG hS
    refine w_al hK rfl rfl ?_
    refine w_getr (n := 22) (v := 176) hK rfl rfl (by decide) (by decide) rfl rfl rfl rfl ?_
    have dI_ : -1 ≤ dg ((eu 1 f_x f_y n).2.1) ∧ dg ((eu 1 f_x f_y n).2.1) ≤ 47 := hC.dI ⟨(isR_of (p := 176) rfl), h176_⟩
    refine w_call [(1, 176)] hK rfl rfl rfl rfl (Or.inl rfl) (r_deg hC ⟨(isR_of (p := 176) rfl), h176_⟩) ?_
    rintro _ Mq ⟨rfl, e_⟩
    subst Mq
    refine ⟨by show (0 : Nat) ≠ 9; decide, (?_ : Wp 198 _ 241 22 [(1, 161), (1, x), (1, y), (0, 1)] [(0, (dg ((eu 1 f_x f_y n).2.1)))] N19 _)⟩
    refine w_ic hK rfl ?_
    have gD_ := dg_ge (eu 1 f_x f_y n).2.1
    have gB_ := dg_lt9 hB_.1.2
    have gA_ := dg_lt9 hB_.1.1
    have gU_ := dg_lt17 hB_.2.1.2.1
    have gV_ := dg_lt17 hB_.2.1.1
    have gX_ := hB_.2.2.1.1
    refine w_eq2 hK rfl (by omega) (by omega) (by omega) (by omega) (fun h23 => ?_) (fun h23 => ?_)
    · refine w_ret hK rfl rfl ?_
      have eE_ : EuE 1 f_x f_y n := ⟨hz_, (dg_neg (hB_.1.2.mono (by decide))).mp (by omega)⟩
      rw [← euL_eq eE_] at h175_ h178_ h176_ h177_
      exact ⟨R1, rfl, hC, hS, hG, h175_, h178_⟩
    · have hne_ : (eu 1 f_x f_y n).2.1 ≠ pz := fun q_ => by rw [q_, dg_pz] at h23; exact h23 rfl
      have dv_ := dg_dv 1 (hB_.1.1.mono (show 9 ≤ 17 by decide)) (hB_.1.2.mono (show 9 ≤ 17 by decide)) (by omega)
      refine w_al hK rfl rfl ?_
      refine w_al hK rfl rfl ?_
      refine w_getr (n := 21) (v := 175) hK rfl rfl (by decide) (by decide) rfl rfl rfl rfl ?_
      refine w_al hK rfl rfl ?_
      refine w_getr (n := 22) (v := 176) hK rfl rfl (by decide) (by decide) rfl rfl rfl rfl ?_
      refine w_il hK rfl rfl ?_
      refine w_call [(1, 161), (1, 175), (1, 176), (0, 1)] hK rfl rfl rfl rfl (Or.inr ⟨_, _, _, rfl, by decide, (by decide), rfl⟩) (r_div hC ⟨(isR_of (p := 175) rfl), h175_⟩ ⟨(isR_of (p := 176) rfl), h176_⟩ 1 (by omega) (by omega) (by omega) (by omega) (hB_.1.1.mono (by decide)) (hB_.1.2.mono (by decide))) ?_
      rintro _ V263 ⟨P263, rfl, C263, S263, F263, f263_0, f263_1⟩
      refine ⟨by decide, (?_ : Wp 198 _ 241 31 [(1, 161), (1, x), (1, y), (0, 1)] [] V263 _)⟩
      refine w_al hK rfl rfl ?_
      refine w_getr (n := 22) (v := 176) hK rfl rfl (by decide) (by decide) rfl rfl rfl rfl ?_
      refine w_al hK rfl rfl ?_
      refine w_getr (n := 21) (v := 175) hK rfl rfl (by decide) (by decide) rfl rfl rfl rfl ?_
      refine w_call [(1, 176), (1, 175)] hK rfl rfl rfl rfl (Or.inl rfl) (r_copy C263 ⟨(isR_of (p := 176) rfl), ((F263 176 (by omega) (by omega) (by omega) (by omega) (by omega)).trans h176_)⟩ (isR_of (p := 175) rfl) (by omega)) ?_
      rintro _ V264 ⟨P264, rfl, C264, S264, F264, f264_0⟩
      refine ⟨by decide, (?_ : Wp 198 _ 241 36 [(1, 161), (1, x), (1, y), (0, 1)] [] V264 _)⟩
      refine w_al hK rfl rfl ?_
      refine w_getr (n := 19) (v := 173) hK rfl rfl (by decide) (by decide) rfl rfl rfl rfl ?_
      refine w_al hK rfl rfl ?_
      refine w_getr (n := 22) (v := 176) hK rfl rfl (by decide) (by decide) rfl rfl rfl rfl ?_
      refine w_call [(1, 173), (1, 176)] hK rfl rfl rfl rfl (Or.inl rfl) (r_copy C264 ⟨(isR_of (p := 173) rfl), ((F264 173 (by omega)).trans f263_0)⟩ (isR_of (p := 176) rfl) (by omega)) ?_
      rintro _ V265 ⟨P265, rfl, C265, S265, F265, f265_0⟩
      refine ⟨by decide, (?_ : Wp 198 _ 241 41 [(1, 161), (1, x), (1, y), (0, 1)] [] V265 _)⟩
      refine w_il hK rfl rfl ?_
      refine w_ne hK rfl (by omega) (by omega) (fun h42 => ?_) (fun h42 => ?_)
      · refine w_al hK rfl rfl ?_
        refine w_al hK rfl rfl ?_
        refine w_getr (n := 24) (v := 178) hK rfl rfl (by decide) (by decide) rfl rfl rfl rfl ?_
        refine w_al hK rfl rfl ?_
        refine w_getr (n := 20) (v := 174) hK rfl rfl (by decide) (by decide) rfl rfl rfl rfl ?_
        refine w_al hK rfl rfl ?_
        refine w_getr (n := 25) (v := 179) hK rfl rfl (by decide) (by decide) rfl rfl rfl rfl ?_
        refine w_call [(1, 161), (1, 178), (1, 174), (1, 179)] hK rfl rfl rfl rfl (Or.inr ⟨_, _, _, rfl, by decide, (by decide), rfl⟩) (r_prod C265 ⟨(isR_of (p := 178) rfl), ((F265 178 (by omega)).trans ((F264 178 (by omega)).trans ((F263 178 (by omega) (by omega) (by omega) (by omega) (by omega)).trans h178_)))⟩ ⟨(isR_of (p := 174) rfl), ((F265 174 (by omega)).trans ((F264 174 (by omega)).trans f263_1))⟩ (isR_of (p := 179) rfl) (by omega) (by omega) (by omega) (by omega)) ?_
        rintro _ V266 ⟨P266, rfl, C266, S266, F266, f266_0⟩
        refine ⟨by decide, (?_ : Wp 198 _ 241 60 [(1, 161), (1, x), (1, y), (0, 1)] [] V266 _)⟩
        refine w_al hK rfl rfl ?_
        refine w_al hK rfl rfl ?_
        refine w_getr (n := 25) (v := 179) hK rfl rfl (by decide) (by decide) rfl rfl rfl rfl ?_
        refine w_al hK rfl rfl ?_
        refine w_getr (n := 23) (v := 177) hK rfl rfl (by decide) (by decide) rfl rfl rfl rfl ?_
        refine w_call [(1, 161), (1, 179), (1, 177)] hK rfl rfl rfl rfl (Or.inr ⟨_, _, _, rfl, by decide, (by decide), rfl⟩) (r_less C266 ⟨(isR_of (p := 179) rfl), f266_0⟩ ⟨(isR_of (p := 177) rfl), ((F266 177 (by omega) (by omega)).trans ((F265 177 (by omega)).trans ((F264 177 (by omega)).trans ((F263 177 (by omega) (by omega) (by omega) (by omega) (by omega)).trans h177_))))⟩ (by omega)) ?_
        rintro _ V267 ⟨P267, rfl, C267, S267, F267, f267_0⟩
        refine ⟨by decide, (?_ : Wp 198 _ 241 66 [(1, 161), (1, x), (1, y), (0, 1)] [] V267 _)⟩
        refine w_al hK rfl rfl ?_
        refine w_getr (n := 23) (v := 177) hK rfl rfl (by decide) (by decide) rfl rfl rfl rfl ?_
        refine w_al hK rfl rfl ?_
        refine w_getr (n := 25) (v := 179) hK rfl rfl (by decide) (by decide) rfl rfl rfl rfl ?_
        refine w_call [(1, 177), (1, 179)] hK rfl rfl rfl rfl (Or.inl rfl) (r_copy C267 ⟨(isR_of (p := 177) rfl), f267_0⟩ (isR_of (p := 179) rfl) (by omega)) ?_
        rintro _ V268 ⟨P268, rfl, C268, S268, F268, f268_0⟩
        refine ⟨by decide, (?_ : Wp 198 _ 241 71 [(1, 161), (1, x), (1, y), (0, 1)] [] V268 _)⟩
        refine w_al hK rfl rfl ?_
        refine w_getr (n := 24) (v := 178) hK rfl rfl (by decide) (by decide) rfl rfl rfl rfl ?_
        refine w_al hK rfl rfl ?_
        refine w_getr (n := 23) (v := 177) hK rfl rfl (by decide) (by decide) rfl rfl rfl rfl ?_
        refine w_call [(1, 178), (1, 177)] hK rfl rfl rfl rfl (Or.inl rfl) (r_copy C268 ⟨(isR_of (p := 178) rfl), ((F268 178 (by omega)).trans ((F267 178 (by omega)).trans ((F266 178 (by omega) (by omega)).trans ((F265 178 (by omega)).trans ((F264 178 (by omega)).trans ((F263 178 (by omega) (by omega) (by omega) (by omega) (by omega)).trans h178_))))))⟩ (isR_of (p := 177) rfl) (by omega)) ?_
        rintro _ V269 ⟨P269, rfl, C269, S269, F269, f269_0⟩
        refine ⟨by decide, (?_ : Wp 198 _ 241 76 [(1, 161), (1, x), (1, y), (0, 1)] [] V269 _)⟩
        refine w_al hK rfl rfl ?_
        refine w_getr (n := 25) (v := 179) hK rfl rfl (by decide) (by decide) rfl rfl rfl rfl ?_
        refine w_al hK rfl rfl ?_
        refine w_getr (n := 24) (v := 178) hK rfl rfl (by decide) (by decide) rfl rfl rfl rfl ?_
        refine w_call [(1, 179), (1, 178)] hK rfl rfl rfl rfl (Or.inl rfl) (r_copy C269 ⟨(isR_of (p := 179) rfl), ((F269 179 (by omega)).trans f268_0)⟩ (isR_of (p := 178) rfl) (by omega)) ?_
        rintro _ V270 ⟨P270, rfl, C270, S270, F270, f270_0⟩
        refine ⟨by decide, (?_ : Wp 198 _ 241 81 [(1, 161), (1, x), (1, y), (0, 1)] [] V270 _)⟩
        refine w_goto hK rfl ?_
        exact ih19 _ (by rw [eu_s.2.1]; omega) (n + 1) _ V270 rfl (hB_.step (by omega)) (fun m_ h_ => by
          by_cases q_ : m_ = n
          · rw [q_]; exact hne_
          · exact hz_ m_ (by omega)) C270 (((F270 175 (by omega)).trans ((F269 175 (by omega)).trans ((F268 175 (by omega)).trans ((F267 175 (by omega)).trans ((F266 175 (by omega) (by omega)).trans ((F265 175 (by omega)).trans f264_0))))))) (((F270 176 (by omega)).trans ((F269 176 (by omega)).trans ((F268 176 (by omega)).trans ((F267 176 (by omega)).trans ((F266 176 (by omega) (by omega)).trans f265_0)))))) (((F270 177 (by omega)).trans f269_0)) (f270_0) (fun p pn170_ pn171_ pn172_ pn173_ pn174_ pn175_ pn176_ pn177_ pn178_ pn179_ => ((F270 p pn178_).trans ((F269 p pn177_).trans ((F268 p pn179_).trans ((F267 p pn177_).trans ((F266 p pn170_ pn179_).trans ((F265 p pn176_).trans ((F264 p pn175_).trans ((F263 p pn170_ pn171_ pn172_ pn173_ pn174_).trans (hG p pn170_ pn171_ pn172_ pn173_ pn174_ pn175_ pn176_ pn177_ pn178_ pn179_)))))))))) (fun a nr_ => ((S270 a nr_).trans ((S269 a nr_).trans ((S268 a nr_).trans ((S267 a nr_).trans ((S266 a nr_).trans ((S265 a nr_).trans ((S264 a nr_).trans ((S263 a nr_).trans (hS a nr_))))))))))
      · exfalso; omega
  exact lp19 _ 0 _ (up V262 177 0 1) rfl (EuB.zero bx9 by9) (fun m_ h_ => by omega) (RS.up C262 ⟨(isR_of (p := 177) rfl), ((F262 177 (by omega)).trans f261_0)⟩ (j := 0) (by omega) (by omega) (e := e1) el1.symm) (((pu_ne (P := P262) (f := up1 pz 0 e1) (show 175 ≠ 177 by omega)).trans ((F262 175 (by omega)).trans ((F261 175 (by omega)).trans ((F260 175 (by omega)).trans f259_0))))) (((pu_ne (P := P262) (f := up1 pz 0 e1) (show 176 ≠ 177 by omega)).trans ((F262 176 (by omega)).trans ((F261 176 (by omega)).trans f260_0)))) (pu_eq) (((pu_ne (P := P262) (f := up1 pz 0 e1) (show 178 ≠ 177 by omega)).trans f262_0)) (fun p pn170_ pn171_ pn172_ pn173_ pn174_ pn175_ pn176_ pn177_ pn178_ pn179_ => ((pu_ne (P := P262) (f := up1 pz 0 e1) (show p ≠ 177 by omega)).trans ((F262 p pn178_).trans ((F261 p pn177_).trans ((F260 p pn176_).trans (F259 p pn175_)))))) (fun a nr_ => ((up_row (nr_ 177 (isR_of (p := 177) rfl))).trans ((S262 a nr_).trans ((S261 a nr_).trans ((S260 a nr_).trans (S259 a nr_))))))
theorem r_euc {d : Nat} {M : Mem} {k : Nat} {R : Int → Option (Pl k)} (C : RS M k R) {x : Int} {f_x : Pl k} (hx : isK R x f_x) {y : Int} {f_y : Pl k} (hy : isK R y f_y) (s : Int) (hs : s = 0 ∨ s = 1) (hx_ : x < 170 ∨ 179 < x) (hy_ : y < 170 ∨ 179 < y) (bx9 : Bd f_x 9) (by9 : Bd f_y 9) : Ct 198 (d + 4) 241 [(1, 161), (1, x), (1, y), (0, s)] M (fun r_ M' => ∃ R' : Int → Option (Pl k), r_ = (4, 0) ∧ RS M' k R' ∧ (∀ a : Int, (∀ p : Int, isR p → a ≠ p) → M' a = M a) ∧ (∀ p : Int, p ≠ 170 → p ≠ 171 → p ≠ 172 → p ≠ 173 → p ≠ 174 → p ≠ 175 → p ≠ 176 → p ≠ 177 → p ≠ 178 → p ≠ 179 → R' p = R p) ∧ R' 175 = some ((euL s f_x f_y).1) ∧ R' 178 = some ((euL s f_x f_y).2.2.2.1)) := by
  rcases hs with e | e
  · subst e; exact r_euc0 C hx hy hx_ hy_ bx9 by9
  · subst e; exact r_euc1 C hx hy hx_ hy_ bx9 by9
