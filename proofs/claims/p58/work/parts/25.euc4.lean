/-! contracts: Euclid's answers -/
set_option maxRecDepth 100000 in
theorem c_dto {d : Nat} {M : Mem} {k : Nat} {P : Int → Option (Pl k)} (C : CS M k P) {u l z : Int} (E : ES M u l z) {f_u1 : Pl k} (hu1 : P (u + 1) = some f_u1) {o : Int} (s : Int) (hs : s = 0 ∨ s = 1) (ho : isP o) (o45 : 45 ≤ o) : Ct 198 (d + 4) 58 [(1, 18), (0, s), (1, o)] M (fun r M' => r = (4, 0) ∧ CS M' k (pu P o (mon s f_u1)) ∧ NPS M M') := by
  have hK : cd 58 = k58 := rfl
  have tu := E.2.1.1.1
  have tl := E.2.1.2.1.1
  have tz := E.2.1.2.2.1
  have t12 := E.2.2.1
  have t13 := E.2.2.2.1
  have t23 := E.2.2.2.2
  show Wp 198 _ 58 0 [(1, 18), (0, s), (1, o)] [] M _
  refine w_al hK rfl rfl ?_
  refine w_al hK rfl rfl ?_
  refine w_getq (n := 1) (m := 1) hK rfl rfl (by decide) (by decide) rfl rfl rfl rfl ?_
  rw [show M 18 1 = u from E.1.1]
  refine w_ln1 hK rfl E.2.1.1 ?_
  refine w_call [(1, o), (1, (u + 1))] hK rfl rfl rfl rfl (Or.inr ⟨_, _, _, rfl, ho.nn, ho.lb, ho.o⟩) (c_copy C ho (⟨E.2.1.1.p1, hu1⟩ : isC P (u + 1) f_u1)) ?_
  rintro _ V12 ⟨rfl, C12, S12⟩
  have E12 := E.nps S12
  refine ⟨by decide, (?_ : Wp 198 _ 58 5 [(1, 18), (0, s), (1, o)] [] V12 _)⟩
  refine w_al hK rfl rfl ?_
  refine w_getr (n := 0) (v := 7) hK rfl rfl (by decide) (by decide) rfl rfl rfl rfl ?_
  refine w_al hK rfl rfl ?_
  refine w_il hK rfl rfl ?_
  refine w_call [(1, 7), (1, o), (0, s)] hK rfl rfl rfl rfl (Or.inr ⟨_, _, _, rfl, by decide, (by decide), rfl⟩) (c_mon C12 ⟨ho, pu_eq⟩ s (by omega)) ?_
  rintro _ V13 ⟨rfl, C13, S13⟩
  rw [pu_pu (P := P) (p := o) (f := f_u1) (g := mon s f_u1)] at C13
  have E13 := E12.nps S13
  refine ⟨by decide, (?_ : Wp 198 _ 58 10 [(1, 18), (0, s), (1, o)] [] V13 _)⟩
  refine w_ret hK rfl rfl ?_
  exact ⟨rfl, C13, (S12.tr S13)⟩
set_option maxRecDepth 100000 in
theorem c_mto {d : Nat} {M : Mem} {k : Nat} {P : Int → Option (Pl k)} (C : CS M k P) {u l z : Int} (E : ES M u l z) {f_l3 : Pl k} (hl3 : P (l + 3) = some f_l3) {x o : Int} {f_x : Pl k} (hx : isC P x f_x) (s : Int) (hs : s = 0 ∨ s = 1) (ho : isP o) (x45 : 45 ≤ x) (o45 : 45 ≤ o) (hd : dg f_l3 + dg f_x ≤ 16) : Ct 198 (d + 4) 59 [(1, 18), (1, x), (0, s), (1, o)] M (fun r M' => r = (4, 0) ∧ CS M' k (pu (pu P 8 (prd s f_l3 f_x)) o (mon s (prd s f_l3 f_x))) ∧ NPS M M') := by
  have hK : cd 59 = k59 := rfl
  have tu := E.2.1.1.1
  have tl := E.2.1.2.1.1
  have tz := E.2.1.2.2.1
  have t12 := E.2.2.1
  have t13 := E.2.2.2.1
  have t23 := E.2.2.2.2
  show Wp 198 _ 59 0 [(1, 18), (1, x), (0, s), (1, o)] [] M _
  refine w_al hK rfl rfl ?_
  refine w_getr (n := 0) (v := 7) hK rfl rfl (by decide) (by decide) rfl rfl rfl rfl ?_
  refine w_il hK rfl rfl ?_
  refine w_al hK rfl rfl ?_
  refine w_getq (n := 2) (m := 2) hK rfl rfl (by decide) (by decide) rfl rfl rfl rfl ?_
  rw [show M 18 2 = l from E.1.2.1]
  refine w_ln3 hK rfl E.2.1.2.1 ?_
  refine w_al hK rfl rfl ?_
  refine w_al hK rfl rfl ?_
  refine w_call [(1, 7), (0, s), (1, (l + 3)), (1, x), (1, o)] hK rfl rfl rfl rfl (Or.inr ⟨_, _, _, rfl, by decide, (by decide), rfl⟩) (c_rpat C s (⟨E.2.1.2.1.p3, hl3⟩ : isC P (l + 3) f_l3) hx ho (by omega) (by omega) (by omega) (by omega)) ?_
  rintro _ V14 ⟨rfl, C14, S14⟩
  have E14 := E.nps S14
  refine ⟨by decide, (?_ : Wp 198 _ 59 9 [(1, 18), (1, x), (0, s), (1, o)] [] V14 _)⟩
  refine w_al hK rfl rfl ?_
  refine w_getr (n := 0) (v := 7) hK rfl rfl (by decide) (by decide) rfl rfl rfl rfl ?_
  refine w_al hK rfl rfl ?_
  refine w_il hK rfl rfl ?_
  refine w_call [(1, 7), (1, o), (0, s)] hK rfl rfl rfl rfl (Or.inr ⟨_, _, _, rfl, by decide, (by decide), rfl⟩) (c_mon C14 ⟨ho, pu_eq⟩ s (by omega)) ?_
  rintro _ V15 ⟨rfl, C15, S15⟩
  rw [pu_pu (P := pu P 8 (prd s f_l3 f_x)) (p := o) (f := prd s f_l3 f_x) (g := mon s (prd s f_l3 f_x))] at C15
  have E15 := E14.nps S15
  refine ⟨by decide, (?_ : Wp 198 _ 59 14 [(1, 18), (1, x), (0, s), (1, o)] [] V15 _)⟩
  refine w_ret hK rfl rfl ?_
  exact ⟨rfl, C15, (S14.tr S15)⟩
set_option maxRecDepth 100000 in
theorem c_cto {d : Nat} {M : Mem} {k : Nat} {P : Int → Option (Pl k)} (C : CS M k P) {u l z : Int} (E : ES M u l z) {f_u1 : Pl k} (hu1 : P (u + 1) = some f_u1) {f_u3 : Pl k} (hu3 : P (u + 3) = some f_u3) {f_u5 : Pl k} (hu5 : P (u + 5) = some f_u5) {c e : Int} (hc_ : isP c) (he : isP e) (c45 : 45 ≤ c) (e45 : 45 ≤ e) : Ct 198 (d + 2) 62 [(1, 18), (1, c), (1, e)] M (fun r M' => r = (0, dg f_u1) ∧ CS M' k (pu (pu P c (scl (iv (ld f_u1)) f_u3)) e (scl (iv (ld f_u1)) f_u5)) ∧ NPS M M') := by
  have hK : cd 62 = k62 := rfl
  have tu := E.2.1.1.1
  have tl := E.2.1.2.1.1
  have tz := E.2.1.2.2.1
  have t12 := E.2.2.1
  have t13 := E.2.2.2.1
  have t23 := E.2.2.2.2
  show Wp 198 _ 62 0 [(1, 18), (1, c), (1, e), (3, 0)] [] M _
  refine w_al hK rfl rfl ?_
  refine w_getr (n := 0) (v := 7) hK rfl rfl (by decide) (by decide) rfl rfl rfl rfl ?_
  refine w_getr (n := 0) (v := 1) hK rfl rfl (by decide) (by decide) rfl rfl rfl rfl ?_
  refine w_al hK rfl rfl ?_
  refine w_getq (n := 1) (m := 1) hK rfl rfl (by decide) (by decide) rfl rfl rfl rfl ?_
  rw [show M 18 1 = u from E.1.1]
  refine w_ln1 hK rfl E.2.1.1 ?_
  refine w_call [(1, (u + 1))] hK rfl rfl rfl rfl (Or.inr ⟨_, _, _, rfl, E.2.1.1.p1.nn, E.2.1.1.p1.lb, E.2.1.1.p1.o⟩) (c_ld C (⟨E.2.1.1.p1, hu1⟩ : isC P (u + 1) f_u1)) ?_
  rintro _ Mq ⟨rfl, e_⟩
  subst Mq
  have bv_ := el_I (ld f_u1)
  refine ⟨by show (0 : Nat) ≠ 9; decide, (?_ : Wp 198 _ 62 7 [(1, 18), (1, c), (1, e), (3, 0)] [(0, ((ld f_u1).val : Int)), (1, 1)] M _)⟩
  refine w_call [(1, 1), (0, ((ld f_u1).val : Int))] hK rfl rfl rfl rfl (Or.inr ⟨_, _, _, rfl, by decide, (by decide), rfl⟩) (c_inv (by decide) C.F (ld f_u1) ) ?_
  rintro _ Mq ⟨rfl, e_⟩
  subst Mq
  have bv_ := el_I (iv (ld f_u1))
  refine ⟨by show (0 : Nat) ≠ 9; decide, (?_ : Wp 198 _ 62 8 [(1, 18), (1, c), (1, e), (3, 0)] [(0, ((iv (ld f_u1)).val : Int))] M _)⟩
  refine w_is [(1, 18), (1, c), (1, e), (0, ((iv (ld f_u1)).val : Int))] hK rfl rfl rfl ?_
  refine w_al hK rfl rfl ?_
  refine w_getr (n := 0) (v := 7) hK rfl rfl (by decide) (by decide) rfl rfl rfl rfl ?_
  refine w_il hK rfl rfl ?_
  refine w_al hK rfl rfl ?_
  refine w_getq (n := 1) (m := 1) hK rfl rfl (by decide) (by decide) rfl rfl rfl rfl ?_
  rw [show M 18 1 = u from E.1.1]
  refine w_ln3 hK rfl E.2.1.1 ?_
  refine w_al hK rfl rfl ?_
  refine w_call [(1, 7), (0, ((iv (ld f_u1)).val : Int)), (1, (u + 3)), (1, c)] hK rfl rfl rfl rfl (Or.inr ⟨_, _, _, rfl, by decide, (by decide), rfl⟩) (c_rscl C (iv (ld f_u1)) (⟨E.2.1.1.p3, hu3⟩ : isC P (u + 3) f_u3) hc_) ?_
  rintro _ V16 ⟨rfl, C16, S16⟩
  have E16 := E.nps S16
  refine ⟨by decide, (?_ : Wp 198 _ 62 17 [(1, 18), (1, c), (1, e), (0, ((iv (ld f_u1)).val : Int))] [] V16 _)⟩
  refine w_al hK rfl rfl ?_
  refine w_getr (n := 0) (v := 7) hK rfl rfl (by decide) (by decide) rfl rfl rfl rfl ?_
  refine w_il hK rfl rfl ?_
  refine w_al hK rfl rfl ?_
  refine w_getq (n := 1) (m := 1) hK rfl rfl (by decide) (by decide) rfl rfl rfl rfl ?_
  rw [show V16 18 1 = u from E16.1.1]
  refine w_ln5 hK rfl E.2.1.1 ?_
  refine w_al hK rfl rfl ?_
  refine w_call [(1, 7), (0, ((iv (ld f_u1)).val : Int)), (1, (u + 5)), (1, e)] hK rfl rfl rfl rfl (Or.inr ⟨_, _, _, rfl, by decide, (by decide), rfl⟩) (c_rscl C16 (iv (ld f_u1)) ⟨E.2.1.1.p5, ((pu_ne (P := P) (f := scl (iv (ld f_u1)) f_u3) (show (u + 5) ≠ c by omega)).trans (⟨E.2.1.1.p5, hu5⟩ : isC P (u + 5) f_u5).2)⟩ he) ?_
  rintro _ V17 ⟨rfl, C17, S17⟩
  have E17 := E16.nps S17
  refine ⟨by decide, (?_ : Wp 198 _ 62 25 [(1, 18), (1, c), (1, e), (0, ((iv (ld f_u1)).val : Int))] [] V17 _)⟩
  refine w_al hK rfl rfl ?_
  refine w_getq (n := 1) (m := 1) hK rfl rfl (by decide) (by decide) rfl rfl rfl rfl ?_
  rw [show V17 18 1 = u from E17.1.1]
  refine w_ln1 hK rfl E.2.1.1 ?_
  refine w_pt hK rfl E.2.1.1.p1 ?_
  rw [show V17 (u + 1) 1 = dg f_u1 from C17.t ⟨E.2.1.1.p1, ((pu_ne (P := pu P c (scl (iv (ld f_u1)) f_u3)) (f := scl (iv (ld f_u1)) f_u5) (show (u + 1) ≠ e by omega)).trans ((pu_ne (P := P) (f := scl (iv (ld f_u1)) f_u3) (show (u + 1) ≠ c by omega)).trans (⟨E.2.1.1.p1, hu1⟩ : isC P (u + 1) f_u1).2))⟩]
  refine w_iret hK rfl rfl ?_
  exact ⟨rfl, C17, (S16.tr S17)⟩
set_option maxRecDepth 100000 in
theorem c_rdeg {d : Nat} {M : Mem} (i : Int) (h0 : 0 ≤ i) (h1 : i < 20) : Ct 198 (d) 61 [(1, 18), (0, i)] M (fun r M' => r = (0, M 44 i) ∧ M' = M) := by
  have hK : cd 61 = k61 := rfl
  show Wp 198 _ 61 0 [(1, 18), (0, i)] [] M _
  refine w_il hK rfl rfl ?_
  refine w_lt hK rfl (by omega) (by omega) (fun h1 => ?_) (fun h1 => ?_)
  · exfalso; omega
  · refine w_il hK rfl rfl ?_
    refine w_al hK rfl rfl ?_
    refine w_getr (n := 6) (v := 44) hK rfl rfl (by decide) (by decide) rfl rfl rfl rfl ?_
    refine w_len hK rfl rfl (by decide) (by decide) rfl ?_
    refine w_ge2 hK rfl (by omega) (by omega) (by omega) (by omega) (fun h6 => ?_) (fun h6 => ?_)
    · exfalso; omega
    · refine w_al hK rfl rfl ?_
      refine w_getr (n := 6) (v := 44) hK rfl rfl (by decide) (by decide) rfl rfl rfl rfl ?_
      refine w_il hK rfl rfl ?_
      refine w_ia hK rfl rfl (by decide) (by decide) (by omega) (by omega) ?_
      refine w_goto hK rfl ?_
      refine w_iret hK rfl rfl ?_
      exact ⟨rfl, rfl⟩
set_option maxRecDepth 100000 in
theorem c_divs {d : Nat} {M : Mem} {k : Nat} {P : Int → Option (Pl k)} (C : CS M k P) {u1 l1 w1 : Int} (E : ES M u1 l1 w1) {x y : Int} {f_x : Pl k} (hx : isC P x f_x) {f_y : Pl k} (hy : isC P y f_y) (s : Int) (hs : s = 0 ∨ s = 1) (x45 : 45 ≤ x) (y45 : 45 ≤ y) (hx9 : Bd f_x 9) (hy9 : Bd f_y 9) : Ct 198 (d + 5) 60 [(1, 18), (1, x), (1, y), (0, s)] M (fun r_ M' => ∃ (P' : Int → Option (Pl k)) (u l z : Int) (n : Nat), r_ = (0, (n : Int)) ∧ CS M' k P' ∧ ES M' u l z ∧ NPE M M' ∧ (∀ p : Int, p < 8 ∨ 45 ≤ p → P' p = P p) ∧ (n ≤ 9 ∧ EuE s f_x f_y n) ∧ ∀ j : Nat, j < n → M' 44 (j : Int) = dg (eu s f_x f_y (j + 1)).2.1) := by
  have hK : cd 60 = k60 := rfl
  have dx := dg_lt hx9 (by decide)
  have dy := dg_lt hy9 (by decide)
  have tu1 := E.2.1.1.1
  have tl1 := E.2.1.2.1.1
  have tw1 := E.2.1.2.2.1
  have t112 := E.2.2.1
  have t113 := E.2.2.2.1
  have t123 := E.2.2.2.2
  show Wp 198 _ 60 0 [(1, 18), (1, x), (1, y), (0, s), (3, 0)] [] M _
  refine w_al hK rfl rfl ?_
  refine w_getq (n := 1) (m := 1) hK rfl rfl (by decide) (by decide) rfl rfl rfl rfl ?_
  rw [show M 18 1 = u1 from E.1.1]
  refine w_ln1 hK rfl E.2.1.1 ?_
  refine w_al hK rfl rfl ?_
  refine w_call [(1, (u1 + 1)), (1, x)] hK rfl rfl rfl rfl (Or.inr ⟨_, _, _, rfl, E.2.1.1.p1.nn, E.2.1.1.p1.lb, E.2.1.1.p1.o⟩) (c_copy C E.2.1.1.p1 hx) ?_
  rintro _ V18 ⟨rfl, C18, S18⟩
  have E18 := E.nps S18
  refine ⟨by decide, (?_ : Wp 198 _ 60 5 [(1, 18), (1, x), (1, y), (0, s), (3, 0)] [] V18 _)⟩
  refine w_al hK rfl rfl ?_
  refine w_getq (n := 2) (m := 2) hK rfl rfl (by decide) (by decide) rfl rfl rfl rfl ?_
  rw [show V18 18 2 = l1 from E18.1.2.1]
  refine w_ln1 hK rfl E.2.1.2.1 ?_
  refine w_al hK rfl rfl ?_
  refine w_call [(1, (l1 + 1)), (1, y)] hK rfl rfl rfl rfl (Or.inr ⟨_, _, _, rfl, E.2.1.2.1.p1.nn, E.2.1.2.1.p1.lb, E.2.1.2.1.p1.o⟩) (c_copy C18 E.2.1.2.1.p1 ⟨hy.1, ((pu_ne (P := P) (f := f_x) (show y ≠ (u1 + 1) by omega)).trans hy.2)⟩) ?_
  rintro _ V19 ⟨rfl, C19, S19⟩
  have E19 := E18.nps S19
  refine ⟨by decide, (?_ : Wp 198 _ 60 10 [(1, 18), (1, x), (1, y), (0, s), (3, 0)] [] V19 _)⟩
  refine w_ic hK rfl ?_
  refine w_is [(1, 18), (1, x), (1, y), (0, s), (0, 0)] hK rfl rfl rfl ?_
  have lp12 : ∀ (n_ : Nat) (u l z : Int) (n : Nat) (P1 : Int → Option (Pl k)) (N12 : Mem), 20 - n = n_ → (ES N12 u l z) → (n ≤ 9) → (EuB (eu s f_x f_y n)) → (CS N12 k P1) → (NPE M N12) → (∀ p : Int, p < 8 ∨ 45 ≤ p → P1 p = P p) → (∀ m : Nat, m < n → (eu s f_x f_y m).2.1 ≠ pz) → (P1 (u + 1) = some (eu s f_x f_y n).1) → (P1 (l + 1) = some (eu s f_x f_y n).2.1) → ((n : Int) + dg (eu s f_x f_y n).2.1 ≤ 8) → (∀ j : Nat, j < n → N12 44 (j : Int) = dg (eu s f_x f_y (j + 1)).2.1) → Wp 198 (d + 5) 60 12 [(1, 18), (1, x), (1, y), (0, s), (0, (n : Int))] [] N12 (fun r_ M' => ∃ (P' : Int → Option (Pl k)) (u l z : Int) (n : Nat), r_ = (0, (n : Int)) ∧ CS M' k P' ∧ ES M' u l z ∧ NPE M M' ∧ (∀ p : Int, p < 8 ∨ 45 ≤ p → P' p = P p) ∧ (n ≤ 9 ∧ EuE s f_x f_y n) ∧ ∀ j : Nat, j < n → M' 44 (j : Int) = dg (eu s f_x f_y (j + 1)).2.1) := by
    intro n_
    induction n_ using Nat.strongRecOn with
    | _ n_ ih12 =>
    intro u l z n P1 N12 hm12 hE hn hB hC hS hF hm_ hv1 hv2 hdn hR
    have tu := hE.2.1.1.1
    have tl := hE.2.1.2.1.1
    have tz := hE.2.1.2.2.1
    have t12 := hE.2.2.1
    have t13 := hE.2.2.2.1
    have t23 := hE.2.2.2.2
    have g1 := dg_ge (eu s f_x f_y n).2.1
    have g2 := dg_lt hB.1.2 (by decide)
    refine w_il hK rfl rfl ?_
    refine w_al hK rfl rfl ?_
    refine w_getr (n := 6) (v := 44) hK rfl rfl (by decide) (by decide) rfl rfl rfl rfl ?_
    refine w_len hK rfl rfl (by decide) (by decide) rfl ?_
    refine w_ge2 hK rfl (by omega) (by omega) (by omega) (by omega) (fun h16 => ?_) (fun h16 => ?_)
    · exfalso; omega
    · refine w_al hK rfl rfl ?_
      refine w_getq (n := 2) (m := 2) hK rfl rfl (by decide) (by decide) rfl rfl rfl rfl ?_
      rw [show N12 18 2 = l from hE.1.2.1]
      refine w_ln1 hK rfl hE.2.1.2.1 ?_
      refine w_pt hK rfl hE.2.1.2.1.p1 ?_
      rw [show N12 (l + 1) 1 = dg ((eu s f_x f_y n).2.1) from hC.t ⟨hE.2.1.2.1.p1, hv2⟩]
      refine w_lt hK rfl (by omega) (by omega) (fun h21 => ?_) (fun h21 => ?_)
      · refine w_il hK rfl rfl ?_
        refine w_iret hK rfl rfl ?_
        exact ⟨P1, u, l, z, n, rfl, hC, hE, hS, hF, ⟨hn, hm_, (dg_neg (hB.1.2.mono (by decide))).mp (by omega)⟩, hR⟩
      · have hB2 := EuB.step hB h21
        have qd := dg_dv s (hB.1.1.mono (show 9 ≤ 17 by decide)) (hB.1.2.mono (show 9 ≤ 17 by decide)) h21
        refine w_al hK rfl rfl ?_
        refine w_getr (n := 0) (v := 7) hK rfl rfl (by decide) (by decide) rfl rfl rfl rfl ?_
        refine w_al hK rfl rfl ?_
        refine w_getq (n := 1) (m := 1) hK rfl rfl (by decide) (by decide) rfl rfl rfl rfl ?_
        rw [show N12 18 1 = u from hE.1.1]
        refine w_ln1 hK rfl hE.2.1.1 ?_
        refine w_al hK rfl rfl ?_
        refine w_getq (n := 2) (m := 2) hK rfl rfl (by decide) (by decide) rfl rfl rfl rfl ?_
        rw [show N12 18 2 = l from hE.1.2.1]
        refine w_ln1 hK rfl hE.2.1.2.1 ?_
        refine w_il hK rfl rfl ?_
        refine w_al hK rfl rfl ?_
        refine w_getr (n := 4) (v := 40) hK rfl rfl (by decide) (by decide) rfl rfl rfl rfl ?_
        refine w_al hK rfl rfl ?_
        refine w_getq (n := 3) (m := 3) hK rfl rfl (by decide) (by decide) rfl rfl rfl rfl ?_
        rw [show N12 18 3 = z from hE.1.2.2]
        refine w_ln1 hK rfl hE.2.1.2.2 ?_
        refine w_call [(1, 7), (1, (u + 1)), (1, (l + 1)), (0, s), (1, 40), (1, (z + 1))] hK rfl rfl rfl rfl (Or.inr ⟨_, _, _, rfl, by decide, (by decide), rfl⟩) (c_div hC ⟨hE.2.1.1.p1, hv1⟩ ⟨hE.2.1.2.1.p1, hv2⟩ s (isP_of (p := 40) rfl) hE.2.1.2.2.p1 (by omega) (by omega) (by omega) (by omega) (by omega) (by omega)) ?_
        rintro _ V20 ⟨rfl, C20, S20⟩
        have E20 := hE.nps S20
        refine ⟨by decide, (?_ : Wp 198 _ 60 37 [(1, 18), (1, x), (1, y), (0, s), (0, (n : Int))] [] V20 _)⟩
        refine w_al hK rfl rfl ?_
        refine w_getr (n := 6) (v := 44) hK rfl rfl (by decide) (by decide) rfl rfl rfl rfl ?_
        refine w_il hK rfl rfl ?_
        refine w_al hK rfl rfl ?_
        refine w_getq (n := 3) (m := 3) hK rfl rfl (by decide) (by decide) rfl rfl rfl rfl ?_
        rw [show V20 18 3 = z from E20.1.2.2]
        refine w_ln1 hK rfl hE.2.1.2.2 ?_
        refine w_pt hK rfl hE.2.1.2.2.p1 ?_
        rw [show V20 (z + 1) 1 = dg (dr s ((eu s f_x f_y n).1) ((eu s f_x f_y n).2.1)) from C20.t ⟨hE.2.1.2.2.p1, pu_eq⟩]
        refine w_iat hK rfl rfl (by decide) (by decide) (by omega) (by omega) ?_
        have hS44 : V20 44 = N12 44 := S20 44 (notP rfl)
        generalize H44 : (up V20 44 (n : Int) (dg (dr s ((eu s f_x f_y n).1) ((eu s f_x f_y n).2.1)))) = W21
        have H44_ := H44
        replace H44 : W21 = (up V20 44 (n : Int) (dg (dr s ((eu s f_x f_y n).1) ((eu s f_x f_y n).2.1)))) := H44_.symm
        clear H44_
        have C21 : CS W21 k (pu (pu P1 40 (dq s ((eu s f_x f_y n).1) ((eu s f_x f_y n).2.1))) (z + 1) (dr s ((eu s f_x f_y n).1) ((eu s f_x f_y n).2.1))) := C20.at18 (fun a _ h => by rw [H44]; exact up_row h)
        have E21 : ES W21 u l z := by
          have e : W21 18 = V20 18 := by rw [H44]; exact up_row (by decide)
          unfold ES
          rw [e]
          exact E20
        refine w_al hK rfl rfl ?_
        refine w_call [(1, 18)] hK rfl rfl rfl rfl (Or.inr ⟨_, _, _, rfl, by decide, (by decide), rfl⟩) (c_turn E21) ?_
        rintro _ V22 ⟨rfl, E22, T22⟩
        have C22 := C21.at18 (fun a h1 _ => T22 a h1)
        have hT44 : V22 44 = W21 44 := T22 44 (by decide)
        refine ⟨by decide, (?_ : Wp 198 _ 60 47 [(1, 18), (1, x), (1, y), (0, s), (0, (n : Int))] [] V22 _)⟩
        refine w_inc [(1, 18), (1, x), (1, y), (0, s), (0, ((n : Int) + 1))] hK rfl rfl rfl (by omega) (by omega) rfl ?_
        refine w_goto hK rfl ?_
        exact ih12 _ (by omega) l z u (n + 1) _ V22 rfl E22 (by omega) hB2 C22 (NPE.at18 (NPE.at18 (NPE.trS hS S20) (fun a _ h => by rw [H44]; exact up_row h)) (fun a h1 _ => T22 a h1)) (fun p h => ((pu_ne (P := pu P1 40 (dq s ((eu s f_x f_y n).1) ((eu s f_x f_y n).2.1))) (f := dr s ((eu s f_x f_y n).1) ((eu s f_x f_y n).2.1)) (show p ≠ (z + 1) by omega)).trans ((pu_ne (P := P1) (f := dq s ((eu s f_x f_y n).1) ((eu s f_x f_y n).2.1)) (show p ≠ 40 by omega)).trans (hF p (by omega))))) (fun m hm => by
          by_cases e : m = n
          · subst e; intro q; rw [q, dg_pz] at h21; omega
          · exact hm_ m (by omega)) ((pu_ne (P := pu P1 40 (dq s ((eu s f_x f_y n).1) ((eu s f_x f_y n).2.1))) (f := dr s ((eu s f_x f_y n).1) ((eu s f_x f_y n).2.1)) (show (l + 1) ≠ (z + 1) by omega)).trans ((pu_ne (P := P1) (f := dq s ((eu s f_x f_y n).1) ((eu s f_x f_y n).2.1)) (show (l + 1) ≠ 40 by omega)).trans hv2)) pu_eq (by
          show ((n + 1 : Nat) : Int) + dg (dr s (eu s f_x f_y n).1 (eu s f_x f_y n).2.1) ≤ 8
          omega) (fun j hj => by
          rw [hT44, H44]
          by_cases e : j = n
          · subst e; rw [up_eq]; rfl
          · rw [up_ne2 (by omega), hS44]; exact hR j (by omega))
  exact lp12 _ u1 l1 w1 0 _ V19 rfl E19 (by omega) (EuB.zero hx9 hy9) C19 (NPE.trS (NPE.trS NPE.rf S18) S19) (fun p h => ((pu_ne (P := pu P (u1 + 1) f_x) (f := f_y) (show p ≠ (l1 + 1) by omega)).trans (pu_ne (P := P) (f := f_x) (show p ≠ (u1 + 1) by omega)))) (fun m hm => by omega) ((pu_ne (P := pu P (u1 + 1) f_x) (f := f_y) (show (u1 + 1) ≠ (l1 + 1) by omega)).trans pu_eq) pu_eq (by show ((0 : Nat) : Int) + dg f_y ≤ 8; omega) (fun j hj => by omega)
