/-! contracts: Centre.boundOf -/
theorem fup_id (d : Nat) : fup (fun r => r) d d = fun r => r := by
  funext r
  unfold fup
  split
  · rename_i h; exact h.symm
  · rfl
set_option maxRecDepth 100000 in
theorem c_bound {d : Nat} {M : Mem} {k : Nat} {P : Int → Option (Pl k)} (C : CS M k P) {a : Int} {f_a : Pl k} (ha : isC P a f_a) (na_ : a ≠ 137) {n : Nat} (hbn : dg f_a = (n : Int)) (hn8 : n ≤ 8) (hex : ∀ (ρ : Nat → Pl k) (w : Nat → Nat → Nat) (pv : Nat → Nat), ¬ SPp n (fun i => stN f_a (i * mm k)) 9 9 ρ w pv (fun r => r)) : Ct 198 (d + 4) 106 [(1, 136), (1, a)] M (fun r_ M' => ∃ (P' : Int → Option (Pl k)) (e : Nat) (u : Nat → Nat), r_ = (0, (e : Int)) ∧ e ≤ 8 ∧ CS M' k P' ∧ (∀ p : Int, p ≠ 137 → P' p = P p) ∧ (∀ a : Int, (∀ p : Int, isP p → a ≠ p ∧ a ≠ p + 1) → a ≠ 88 → a ≠ 89 → a ≠ 90 → a ≠ 91 → M' a = M a) ∧ SPr (fun i => stN f_a (i * mm k)) e e (fun r => r) u ∧ (∃ (ρ : Nat → Pl k) (w : Nat → Nat → Nat) (pv : Nat → Nat), SPp n (fun i => stN f_a (i * mm k)) e e ρ w pv (fun r => r)) ∧ (∀ l : Nat, l < 17 → M' 90 ((e : Int) * 17 + (l : Int)) = (u l : Int)) ∧ M' 88 4 = (e : Int)) := by
  have hK : cd 106 = k106 := rfl
  have p1_ := pp_I k
  have m1_ := mm_I k
  have nm_ : n * mm k ≤ n * 4 := Nat.mul_le_mul_left _ (mm_le k)
  have hbd_ : IsDg f_a (n : Int) := hbn ▸ dg_is ((C.bd ha).mono (by decide))
  show Wp 198 _ 106 0 [(1, 136), (1, a), (3, 0), (3, 0)] [] M _
  refine w_al hK rfl rfl ?_
  refine w_getr (n := 2) (v := 88) hK rfl rfl (by decide) (by decide) rfl rfl rfl rfl ?_
  refine w_call [(1, 88)] hK rfl rfl rfl rfl (Or.inr ⟨_, _, _, rfl, by decide, (by decide), rfl⟩) (c_spst) ?_
  rintro _ V97 ⟨rfl, x97_, y97_, F97⟩
  refine ⟨by decide, (?_ : Wp 198 _ 106 3 [(1, 136), (1, a), (3, 0), (3, 0)] [] V97 _)⟩
  refine w_al hK rfl rfl ?_
  refine w_getr (n := 1) (v := 7) hK rfl rfl (by decide) (by decide) rfl rfl rfl rfl ?_
  refine w_al hK rfl rfl ?_
  refine w_getr (n := 3) (v := 137) hK rfl rfl (by decide) (by decide) rfl rfl rfl rfl ?_
  refine w_al hK rfl rfl ?_
  refine w_call [(1, 7), (1, 137), (1, a)] hK rfl rfl rfl rfl (Or.inr ⟨_, _, _, rfl, by decide, (by decide), rfl⟩) (c_start (CS.congr C (fun a ha_ => F97 a (CSc_ne ha_ (by decide) (notP rfl)))) (isP_of (p := 137) rfl) ha (by omega)) ?_
  rintro _ V98 ⟨rfl, C98, S98⟩
  refine ⟨by decide, (?_ : Wp 198 _ 106 9 [(1, 136), (1, a), (3, 0), (3, 0)] [] V98 _)⟩
  refine w_ic hK rfl ?_
  refine w_is [(1, 136), (1, a), (0, 0), (3, 0)] hK rfl rfl rfl ?_
  have lp11 : ∀ (n_ : Nat) (d1 : Nat) (P1 : Int → Option (Pl k)) (w3 : AV) (N11 : Mem), 10 - d1 = n_ → (d1 ≤ 9) → (CS N11 k P1) → (P1 137 = some (stN f_a (d1 * mm k))) → ((∀ p : Int, p ≠ 137 → P1 p = P p)) → ((∀ a : Int, (∀ p : Int, isP p → a ≠ p ∧ a ≠ p + 1) → a ≠ 88 → a ≠ 89 → a ≠ 90 → a ≠ 91 → N11 a = M a)) → (SP N11 n (fun i => stN f_a (i * mm k)) d1 d1 (fun r => r)) → Wp 198 (d + 4) 106 11 [(1, 136), (1, a), (0, (d1 : Int)), w3] [] N11 (fun r_ M' => ∃ (P' : Int → Option (Pl k)) (e : Nat) (u : Nat → Nat), r_ = (0, (e : Int)) ∧ e ≤ 8 ∧ CS M' k P' ∧ (∀ p : Int, p ≠ 137 → P' p = P p) ∧ (∀ a : Int, (∀ p : Int, isP p → a ≠ p ∧ a ≠ p + 1) → a ≠ 88 → a ≠ 89 → a ≠ 90 → a ≠ 91 → M' a = M a) ∧ SPr (fun i => stN f_a (i * mm k)) e e (fun r => r) u ∧ (∃ (ρ : Nat → Pl k) (w : Nat → Nat → Nat) (pv : Nat → Nat), SPp n (fun i => stN f_a (i * mm k)) e e ρ w pv (fun r => r)) ∧ (∀ l : Nat, l < 17 → M' 90 ((e : Int) * 17 + (l : Int)) = (u l : Int)) ∧ M' 88 4 = (e : Int)) := by
    intro n_
    induction n_ using Nat.strongRecOn with
    | _ n_ ih11 =>
    intro d1 P1 w3 N11 hm11 hd hC hst hP hF hSP
    refine w_il hK rfl rfl ?_
    refine w_ic hK rfl ?_
    refine w_gt2 hK rfl (by omega) (by omega) (by omega) (by omega) (fun h13 => ?_) (fun h13 => ?_)
    · refine w_ic hK rfl ?_
      refine w_iret hK rfl rfl ?_
      exfalso
      have e9_ : d1 = 9 := by omega
      rw [e9_] at hSP
      obtain ⟨ρ, w, pv, _, h2⟩ := hSP
      exact hex ρ w pv h2
    · refine w_al hK rfl rfl ?_
      refine w_getr (n := 2) (v := 88) hK rfl rfl (by decide) (by decide) rfl rfl rfl rfl ?_
      refine w_al hK rfl rfl ?_
      refine w_getr (n := 3) (v := 137) hK rfl rfl (by decide) (by decide) rfl rfl rfl rfl ?_
      refine w_al hK rfl rfl ?_
      refine w_pt hK rfl ha.1 ?_
      rw [show N11 a 1 = dg f_a from hC.t ⟨ha.1, ((hP a (by omega)).trans ha.2)⟩]
      have tI_ := CS.dI hC ⟨ha.1, ((hP a (by omega)).trans ha.2)⟩
      have bX_ := stN_bd hbd_ (d1 * mm k)
      refine w_call [(1, 88), (1, 137), (0, (dg f_a))] hK rfl rfl rfl rfl (Or.inr ⟨_, _, _, rfl, by decide, (by decide), rfl⟩) (Ct.cv (c_dep hC ⟨isP_of (p := 137) rfl, hst⟩ (n := n) (o := d1) (c := d1) (X := (fun i => stN f_a (i * mm k))) (ow := fun r => r) (by omega) (by omega) (by omega) (by omega) rfl bX_ hSP) (by rw [hbn])) ?_
      rintro _ V99 ⟨⟨rfl, u, hsr_, hou_, hsp_⟩ | ⟨rfl, hsp_⟩, F99⟩
      · refine ⟨by decide, (?_ : Wp 198 _ 106 21 [(1, 136), (1, a), (0, (d1 : Int)), w3] [(0, 1)] V99 _)⟩
        refine w_eq hK rfl (by omega) (by omega) (fun h21 => ?_) (fun h21 => ?_)
        · exfalso; omega
        · refine w_il hK rfl rfl ?_
          refine w_iret hK rfl rfl ?_
          refine ⟨P1, d1, u, rfl, by omega, (CS.congr hC (fun a ha_ => F99 a (CSc_ne ha_ (by decide) (notP rfl)) (CSc_ne ha_ (by decide) (notP rfl)) (CSc_ne ha_ (by decide) (notP rfl)) (CSc_ne ha_ (by decide) np91))), hP, (fun a np_ n88_ n89_ n90_ n91_ => ((F99 a n88_ n89_ n90_ n91_).trans (hF a np_ n88_ n89_ n90_ n91_))), hsr_, ?_, hou_, (SP.q4 hsp_).1⟩
          obtain ⟨ρ, w, pv, _, h2⟩ := hSP
          exact ⟨ρ, w, pv, h2⟩
      · refine ⟨by decide, (?_ : Wp 198 _ 106 21 [(1, 136), (1, a), (0, (d1 : Int)), w3] [(0, 0)] V99 _)⟩
        refine w_eq hK rfl (by omega) (by omega) (fun h21 => ?_) (fun h21 => ?_)
        · refine w_ic hK rfl ?_
          refine w_is [(1, 136), (1, a), (0, (d1 : Int)), (0, 0)] hK rfl rfl rfl ?_
          have lp26 : ∀ (n_ : Nat) (s : Nat) (P2 : Int → Option (Pl k)) (N26 : Mem), 5 - s = n_ → (s ≤ mm k) → (CS N26 k P2) → (P2 137 = some (stN f_a (d1 * mm k + s))) → ((∀ p : Int, p ≠ 137 → P2 p = P p)) → ((∀ a : Int, (∀ p : Int, isP p → a ≠ p ∧ a ≠ p + 1) → a ≠ 88 → a ≠ 89 → a ≠ 90 → a ≠ 91 → N26 a = M a)) → (SP N26 n (fun i => stN f_a (i * mm k)) (d1 + 1) (d1 + 1) (fun r => r)) → Wp 198 (d + 4) 106 26 [(1, 136), (1, a), (0, (d1 : Int)), (0, (s : Int))] [] N26 (fun r_ M' => ∃ (P' : Int → Option (Pl k)) (e : Nat) (u : Nat → Nat), r_ = (0, (e : Int)) ∧ e ≤ 8 ∧ CS M' k P' ∧ (∀ p : Int, p ≠ 137 → P' p = P p) ∧ (∀ a : Int, (∀ p : Int, isP p → a ≠ p ∧ a ≠ p + 1) → a ≠ 88 → a ≠ 89 → a ≠ 90 → a ≠ 91 → M' a = M a) ∧ SPr (fun i => stN f_a (i * mm k)) e e (fun r => r) u ∧ (∃ (ρ : Nat → Pl k) (w : Nat → Nat → Nat) (pv : Nat → Nat), SPp n (fun i => stN f_a (i * mm k)) e e ρ w pv (fun r => r)) ∧ (∀ l : Nat, l < 17 → M' 90 ((e : Int) * 17 + (l : Int)) = (u l : Int)) ∧ M' 88 4 = (e : Int)) := by
            intro n_
            induction n_ using Nat.strongRecOn with
            | _ n_ ih26 =>
            intro s P2 N26 hm26 hs hC2 hst2 hP2 hF2 hSP2
            have sd_ := dg_lt (stN_bd hbd_ (d1 * mm k + s)) (show n ≤ 64 by omega)
            refine w_il hK rfl rfl ?_
            refine w_al hK rfl rfl ?_
            refine w_getr (n := 0) (v := 1) hK rfl rfl (by decide) (by decide) rfl rfl rfl rfl ?_
            refine w_geti (n := 3) (m := 3) hK rfl rfl (by decide) (by decide) rfl rfl rfl rfl ?_
            rw [show N26 1 3 = (mm k : Int) from hC2.F.m]
            refine w_ge2 hK rfl (by omega) (by omega) (by omega) (by omega) (fun h30 => ?_) (fun h30 => ?_)
            · have es_ : s = mm k := by omega
              refine w_inc [(1, 136), (1, a), (0, ((d1 : Int) + 1)), (0, (s : Int))] hK rfl rfl rfl (by omega) (by omega) rfl ?_
              refine w_goto hK rfl ?_
              exact ih11 _ (by omega) (d1 + 1) P2 (0, (s : Int)) N26 rfl (by omega) hC2 (by rw [show (d1 + 1) * mm k = d1 * mm k + s from by rw [Nat.add_mul, Nat.one_mul, es_]]; exact hst2) hP2 hF2 hSP2
            · refine w_al hK rfl rfl ?_
              refine w_getr (n := 1) (v := 7) hK rfl rfl (by decide) (by decide) rfl rfl rfl rfl ?_
              refine w_al hK rfl rfl ?_
              refine w_getr (n := 3) (v := 137) hK rfl rfl (by decide) (by decide) rfl rfl rfl rfl ?_
              refine w_al hK rfl rfl ?_
              refine w_call [(1, 7), (1, 137), (1, a)] hK rfl rfl rfl rfl (Or.inr ⟨_, _, _, rfl, by decide, (by decide), rfl⟩) (c_step hC2 ⟨(isP_of (p := 137) rfl), hst2⟩ ⟨ha.1, ((hP2 a (by omega)).trans ha.2)⟩ (by omega) (by omega)) ?_
              rintro _ V100 ⟨rfl, C100, S100⟩
              refine ⟨by decide, (?_ : Wp 198 _ 106 37 [(1, 136), (1, a), (0, (d1 : Int)), (0, (s : Int))] [] V100 _)⟩
              refine w_inc [(1, 136), (1, a), (0, (d1 : Int)), (0, ((s : Int) + 1))] hK rfl rfl rfl (by omega) (by omega) rfl ?_
              refine w_goto hK rfl ?_
              exact ih26 _ (by omega) (s + 1) _ V100 rfl (by omega) C100 (pu_eq.trans rfl) (fun p pn137_ => ((pu_ne (P := P2) (f := dr 0 (mlp (mono e1 1) (stN f_a (d1 * mm k + s))) f_a) (show p ≠ 137 by omega)).trans (hP2 p pn137_))) (fun a np_ n88_ n89_ n90_ n91_ => ((S100 a np_).trans (hF2 a np_ n88_ n89_ n90_ n91_))) (SP.congr hSP2 (fun a np_ n92_ n100_ => (S100 a np_)))
          exact lp26 _ 0 P1 V99 rfl (by omega) (CS.congr hC (fun a ha_ => F99 a (CSc_ne ha_ (by decide) (notP rfl)) (CSc_ne ha_ (by decide) (notP rfl)) (CSc_ne ha_ (by decide) (notP rfl)) (CSc_ne ha_ (by decide) np91))) hst hP (fun a np_ n88_ n89_ n90_ n91_ => ((F99 a n88_ n89_ n90_ n91_).trans (hF a np_ n88_ n89_ n90_ n91_))) (fup_id d1 ▸ hsp_)
        · exfalso; omega
  exact lp11 _ 0 _ (3, 0) V98 rfl (by omega) C98 (pu_eq.trans (by rw [Nat.zero_mul]; rfl)) (fun p pn137_ => (pu_ne (P := P) (f := dr 0 one f_a) (show p ≠ 137 by omega))) (fun a np_ n88_ n89_ n90_ n91_ => ((S98 a np_).trans (F97 a n88_))) ⟨fun _ => pz, fun _ _ => 0, fun _ => 0, ⟨⟨((congrFun (S98 88 (notP rfl)) 4).trans x97_), ((congrFun (S98 88 (notP rfl)) 5).trans y97_)⟩, fun r l hr => by omega, fun r l hr => by omega, fun r hr => by omega⟩, fun r hr => by omega, fun r hr => by omega⟩
