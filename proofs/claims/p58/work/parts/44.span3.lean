/-! contracts: Span.depends -/
def fup {α : Type} (f : Nat → α) (c : Nat) (v : α) : Nat → α := fun r => if r = c then v else f r
theorem fup_eq {α : Type} {f : Nat → α} {c : Nat} {v : α} : fup f c v c = v := if_pos rfl
theorem fup_ne {α : Type} {f : Nat → α} {c r : Nat} {v : α} (h : r ≠ c) : fup f c v r = f r := if_neg h
/-- the span's state -/
def SP (M : Mem) {k : Nat} (n : Nat) (X : Nat → Pl k) (o c : Nat) (ow : Nat → Nat) : Prop := ∃ (ρ : Nat → Pl k) (w : Nat → Nat → Nat) (pv : Nat → Nat), SPm M n o c ρ w pv ∧ SPp n X o c ρ w pv ow
theorem SPp_more {k n : Nat} {X : Nat → Pl k} {o c : Nat} {ρ : Nat → Pl k} {w : Nat → Nat → Nat} {pv ow : Nat → Nat} (h : SPp n X o c ρ w pv ow) : SPp n X (o + 1) c ρ w pv ow := by
  refine ⟨fun r hr => ?_, fun r hr => ?_⟩
  · obtain ⟨h1, h2, h3⟩ := h.1 r hr
    obtain ⟨h4, _, _, h5, _⟩ := h.2 r hr
    exact ⟨h1, by rw [lcb_more (h5 o h4)]; exact h2, h3⟩
  · obtain ⟨h4, h5⟩ := h.2 r hr
    exact ⟨by omega, h5⟩
theorem SPp_push {k n : Nat} {X : Nat → Pl k} {o c : Nat} {ρ : Nat → Pl k} {w : Nat → Nat → Nat} {pv ow : Nat → Nat} (h : SPp n X o c ρ w pv ow) {f : Pl k} {u : Nat → Nat} {t φ : Nat} (hf : Bd f n) (hl : f = lcb u X (o + 1)) (h0 : ∀ s : Nat, s < c → vec n f (pv s) = 0) (h1 : u o = 1) (h2 : ∀ j : Nat, o < j → u j = 0) (h3 : ∀ j : Nat, u j ≠ 0 → j = o ∨ ∃ s : Nat, s < c ∧ j = ow s) (h4 : ∀ j : Nat, u j < pp k) (hφ : vec n f t = (φ : Int)) (hφ0 : φ ≠ 0) : SPp n X (o + 1) (c + 1) (fup ρ c (scl (el k φ) f)) (fup w c (fun j => u j * φ % pp k)) (fup pv c t) (fup ow c o) := by
  have bv := vec_I n f t
  have hp : φ < pp k := by omega
  have hp2 := pp_ge k
  have ht : t < n * mm k := by
    rcases Nat.lt_or_ge t (n * mm k) with q | q
    · exact q
    · exfalso
      unfold vec at hφ
      rw [if_neg (by omega)] at hφ
      omega
  have hm := SPp_more h
  refine ⟨fun r hr => ?_, fun r hr => ?_⟩
  · by_cases e : r = c
    · rw [e, fup_eq, fup_eq, fup_eq]
      refine ⟨fun j hj => by show ml _ (f j) = z0; rw [hf j hj, ml_zero], by rw [lcb_scl hp h4, ← hl], ht, ?_, fun s hs => ?_⟩
      · rw [vec_scl f hp, hφ]
        have := sq_mod0 (k := k) ⟨φ, hp⟩ hφ0
        have e2 : ((φ * φ % pp k : Nat) : Int) = 1 := by rw [this]; rfl
        simpa using e2
      · rw [fup_ne (by omega), vec_scl f hp, h0 s hs]
        simp
    · rw [fup_ne e, fup_ne e, fup_ne e]
      obtain ⟨q1, q2, q3, q4, q5⟩ := hm.1 r (by omega)
      exact ⟨q1, q2, q3, q4, fun s hs => by rw [fup_ne (by omega)]; exact q5 s hs⟩
  · by_cases e : r = c
    · rw [e, fup_eq, fup_eq]
      refine ⟨by omega, fun s hs => by rw [fup_ne (by omega)]; exact (h.2 s hs).1, ?_, fun j hj => ?_, fun j hj => ?_, fun j => Nat.mod_lt _ (by omega)⟩
      · show u o * φ % pp k ≠ 0
        rw [h1, Nat.one_mul, Nat.mod_eq_of_lt hp]
        exact hφ0
      · show u j * φ % pp k = 0
        rw [h2 j hj, Nat.zero_mul, Nat.zero_mod]
      · have : u j ≠ 0 := fun q => hj (by show u j * φ % pp k = 0; rw [q, Nat.zero_mul, Nat.zero_mod])
        rcases h3 j this with q | ⟨s, hs, q⟩
        · exact ⟨c, by omega, by rw [fup_eq]; exact q⟩
        · exact ⟨s, by omega, by rw [fup_ne (by omega)]; exact q⟩
    · rw [fup_ne e, fup_ne e]
      obtain ⟨q1, q2, q3, q4, q5, q6⟩ := hm.2 r (by omega)
      exact ⟨q1, fun s hs => by rw [fup_ne (by omega)]; exact q2 s hs, q3, q4, fun j hj => by
        obtain ⟨s, hs, q⟩ := q5 j hj
        exact ⟨s, hs, by rw [fup_ne (by omega)]; exact q⟩, q6⟩
/-- one row's elimination -/
def elu (k : Nat) (u w : Nat → Nat) (a : Nat) : Nat → Nat := fun j => (u j + a * w j) % pp k
set_option maxRecDepth 100000 in
theorem c_dep {d : Nat} {M : Mem} {k : Nat} {P : Int → Option (Pl k)} (C : CS M k P) {x : Int} {f_x : Pl k} (hx : isC P x f_x) {n o c : Nat} {X : Nat → Pl k} {ow : Nat → Nat} (hn : n * mm k ≤ 32) (hn2 : n ≤ 16) (ho : o ≤ 16) (hco : c ≤ o) (hX : f_x = X o) (hxn : Bd f_x n) (hS : SP M n X o c ow) : Ct 198 (d + 3) 86 [(1, 88), (1, x), (0, (n : Int))] M (fun r_ M' => ((r_ = (0, 1) ∧ ∃ u : Nat → Nat, SPr X o c ow u ∧ (∀ l : Nat, l < 17 → M' 90 ((c : Int) * 17 + (l : Int)) = (u l : Int)) ∧ SP M' n X (o + 1) c ow) ∨ (r_ = (0, 0) ∧ SP M' n X (o + 1) (c + 1) (fup ow c o))) ∧ (∀ a : Int, a ≠ 88 → a ≠ 89 → a ≠ 90 → a ≠ 91 → M' a = M a)) := by
  have hK : cd 86 = k86 := rfl
  have p1_ := pp_I k
  obtain ⟨ρ, w, pv, hm, hs_⟩ := hS
  show Wp 198 _ 86 0 [(1, 88), (1, x), (0, (n : Int)), (3, 0), (3, 0)] [] M _
  refine w_al hK rfl rfl ?_
  refine w_geti (n := 4) (m := 4) hK rfl rfl (by decide) (by decide) rfl rfl rfl rfl ?_
  rw [show M 88 4 = (c : Int) from hm.1.1]
  refine w_ic hK rfl ?_
  refine w_ge2 hK rfl (by omega) (by omega) (by omega) (by omega) (fun h3 => ?_) (fun h3 => ?_)
  · exfalso; omega
  · refine w_al hK rfl rfl ?_
    refine w_geti (n := 5) (m := 5) hK rfl rfl (by decide) (by decide) rfl rfl rfl rfl ?_
    rw [show M 88 5 = (o : Int) from hm.1.2]
    refine w_ic hK rfl ?_
    refine w_lt2 hK rfl (by omega) (by omega) (by omega) (by omega) (fun h7 => ?_) (fun h7 => ?_)
    · refine w_al hK rfl rfl ?_
      refine w_al hK rfl rfl ?_
      refine w_il hK rfl rfl ?_
      refine w_call [(1, 88), (1, x), (0, (n : Int))] hK rfl rfl rfl rfl (Or.inr ⟨_, _, _, rfl, by decide, (by decide), rfl⟩) (c_wdig C hx (by omega) hn (by omega) hm.1.1 rfl) ?_
      rintro _ V60 ⟨rfl, ⟨R2, g60, hR2a, hR2b⟩, F60⟩
      refine ⟨by decide, (?_ : Wp 198 _ 86 14 [(1, 88), (1, x), (0, (n : Int)), (3, 0), (3, 0)] [] V60 _)⟩
      refine w_ic hK rfl ?_
      refine w_is [(1, 88), (1, x), (0, (n : Int)), (0, 0), (3, 0)] hK rfl rfl rfl ?_
      have lp16 : ∀ (n_ : Nat) (i : Nat) (O' : Int → Int) (w4 : AV) (N16 : Mem), 18 - i = n_ → (i ≤ 17) → (N16 90 = O') → (Wm (M 90) O' ((c : Int) * 17) i (fun l => if l = o then 1 else 0)) → (N16 89 = R2) → (N16 88 4 = (c : Int)) → (N16 88 5 = (o : Int)) → ((∀ a : Int, a ≠ 89 → a ≠ 90 → N16 a = M a)) → Wp 198 (d + 3) 86 16 [(1, 88), (1, x), (0, (n : Int)), (0, (i : Int)), w4] [] N16 (fun r_ M' => ((r_ = (0, 1) ∧ ∃ u : Nat → Nat, SPr X o c ow u ∧ (∀ l : Nat, l < 17 → M' 90 ((c : Int) * 17 + (l : Int)) = (u l : Int)) ∧ SP M' n X (o + 1) c ow) ∨ (r_ = (0, 0) ∧ SP M' n X (o + 1) (c + 1) (fup ow c o))) ∧ (∀ a : Int, a ≠ 88 → a ≠ 89 → a ≠ 90 → a ≠ 91 → M' a = M a)) := by
        intro n_
        induction n_ using Nat.strongRecOn with
        | _ n_ ih16 =>
        intro i O' w4 N16 hm16 hi hO hW h89 h4_ h5_ hF
        refine w_il hK rfl rfl ?_
        refine w_ic hK rfl ?_
        refine w_ge2 hK rfl (by omega) (by omega) (by omega) (by omega) (fun h18 => ?_) (fun h18 => ?_)
        · have ei_ : i = 17 := by omega
          subst i
          refine w_al hK rfl rfl ?_
          refine w_dup hK rfl rfl ?_
          refine w_geti (n := 5) (m := 5) hK rfl rfl (by decide) (by decide) rfl rfl rfl rfl ?_
          rw [show N16 88 5 = (o : Int) from h5_]
          refine w_ic hK rfl ?_
          refine w_add hK rfl (by omega) (by omega) ?_
          refine w_puti (n := 5) (m := 5) hK rfl rfl (by decide) (by decide) rfl rfl rfl rfl ?_
          refine w_ic hK rfl ?_
          refine w_is [(1, 88), (1, x), (0, (n : Int)), (0, 0), w4] hK rfl rfl rfl ?_
          have lp45 : ∀ (n_ : Nat) (r : Nat) (R' O2 : Int → Int) (f : Pl k) (u : Nat → Nat) (w4 : AV) (N45 : Mem), 17 - r = n_ → (r ≤ c) → (N45 89 = R') → (N45 90 = O2) → (∀ l : Nat, l < 32 → R' ((c : Int) * 32 + (l : Int)) = vec n f l) → (∀ l : Nat, l < 17 → O2 ((c : Int) * 17 + (l : Int)) = (u l : Int)) → (∀ j : Int, j < (c : Int) * 32 → R' j = M 89 j) → (∀ j : Int, j < (c : Int) * 17 → O2 j = M 90 j) → (N45 88 4 = (c : Int)) → (N45 88 5 = (o : Int) + 1) → (N45 91 = M 91) → (Bd f n) → (f = lcb u X (o + 1)) → (∀ s : Nat, s < r → vec n f (pv s) = 0) → (u o = 1) → (∀ j : Nat, o < j → u j = 0) → (∀ j : Nat, u j ≠ 0 → j = o ∨ ∃ s : Nat, s < c ∧ j = ow s) → (∀ j : Nat, u j < pp k) → ((∀ a : Int, a ≠ 88 → a ≠ 89 → a ≠ 90 → N45 a = M a)) → Wp 198 (d + 3) 86 45 [(1, 88), (1, x), (0, (n : Int)), (0, (r : Int)), w4] [] N45 (fun r_ M' => ((r_ = (0, 1) ∧ ∃ u : Nat → Nat, SPr X o c ow u ∧ (∀ l : Nat, l < 17 → M' 90 ((c : Int) * 17 + (l : Int)) = (u l : Int)) ∧ SP M' n X (o + 1) c ow) ∨ (r_ = (0, 0) ∧ SP M' n X (o + 1) (c + 1) (fup ow c o))) ∧ (∀ a : Int, a ≠ 88 → a ≠ 89 → a ≠ 90 → a ≠ 91 → M' a = M a)) := by
            intro n_
            induction n_ using Nat.strongRecOn with
            | _ n_ ih45 =>
            intro r R' O2 f u w4 N45 hm45 hr hR hO2 hRv hOv hRo hOo h4c h5c h91 hf hl h0 h1 h2 h3 hu hF
            refine w_il hK rfl rfl ?_
            refine w_al hK rfl rfl ?_
            refine w_geti (n := 4) (m := 4) hK rfl rfl (by decide) (by decide) rfl rfl rfl rfl ?_
            rw [show N45 88 4 = (c : Int) from h4c]
            refine w_ge2 hK rfl (by omega) (by omega) (by omega) (by omega) (fun h48 => ?_) (fun h48 => ?_)
            · refine w_al hK rfl rfl ?_
              have er_ : r = c := by omega
              subst r
              refine w_call [(1, 88)] hK rfl rfl rfl rfl (Or.inr ⟨_, _, _, rfl, by decide, (by decide), rfl⟩) (c_settles (CS.congr C (fun a ha_ => hF a (CSc_ne ha_ (by decide) (notP rfl)) (CSc_ne ha_ (by decide) (notP rfl)) (CSc_ne ha_ (by decide) (notP rfl)))) (c := c) (by omega) (o := (o : Int) + 1) h4c h5c hR hO2 h91 hRv (u := fun l => (u l : Int)) hOv (fun l => vec_I n f l) (fun l => by have := hu l; omega)) ?_
              rintro _ V61 (⟨rfl, hz_, e_⟩ | ⟨rfl, t, t1_, t2_, x4_, ⟨R3, x9_, W9_⟩, ⟨O3, x0_, W0_⟩, x1_, x5_, F61⟩)
              · subst V61
                refine ⟨by decide, (?_ : Wp 198 _ 86 82 [(1, 88), (1, x), (0, (n : Int)), (0, (c : Int)), w4] [(0, 0)] N45 _)⟩
                refine w_ne hK rfl (by omega) (by omega) (fun h82 => ?_) (fun h82 => ?_)
                · exfalso; omega
                · refine w_ic hK rfl ?_
                  refine w_goto hK rfl ?_
                  refine w_zret hK rfl rfl (Or.inr rfl) ?_
                  have fz_ : f = pz := vec_zero hf (fun j hj => hz_ j (by omega))
                  refine ⟨Or.inl ⟨rfl, u, ⟨by rw [← hl]; exact fz_, h1, h2, h3, hu⟩, fun l hl_ => by rw [hO2]; exact hOv l hl_, ρ, w, pv, ⟨⟨h4c, by rw [h5c]; simp⟩, fun r l hr hl_ => ?_, fun r l hr hl_ => ?_, fun r hr => ?_⟩, SPp_more hs_⟩, (fun a n88_ n89_ n90_ n91_ => (hF a n88_ n89_ n90_))⟩
                  · rw [hR, hRo _ (by omega)]; exact hm.2.1 r l hr hl_
                  · rw [hO2, hOo _ (by omega)]; exact hm.2.2.1 r l hr hl_
                  · rw [h91]; exact hm.2.2.2 r hr
              · refine ⟨by decide, (?_ : Wp 198 _ 86 82 [(1, 88), (1, x), (0, (n : Int)), (0, (c : Int)), w4] [(0, 1)] V61 _)⟩
                refine w_ne hK rfl (by omega) (by omega) (fun h82 => ?_) (fun h82 => ?_)
                · refine w_ic hK rfl ?_
                  refine w_zret hK rfl rfl (Or.inl rfl) ?_
                  obtain ⟨φ, eφ⟩ : ∃ φ : Nat, vec n f t = (φ : Int) := ⟨(vec n f t).toNat, by have := vec_I n f t; omega⟩
                  have bv_ := vec_I n f t
                  have hp_ : φ < pp k := by omega
                  refine ⟨Or.inr ⟨rfl, _, _, _, ⟨⟨by rw [x4_]; simp, by rw [x5_]; simp⟩, fun r l hr hl_ => ?_, fun r l hr hl_ => ?_, fun r hr => ?_⟩, SPp_push hs_ hf hl h0 h1 h2 h3 hu eφ (by omega)⟩, (fun a n88_ n89_ n90_ n91_ => ((F61 a n88_ n89_ n90_ n91_).trans (hF a n88_ n89_ n90_)))⟩
                  · rw [x9_]
                    by_cases q : r = c
                    · subst r
                      rw [fup_eq, W9_.1 l hl_]
                      try dsimp only
                      rw [vec_scl f hp_, hRv l hl_, eφ]
                    · rw [fup_ne q, W9_.2 _ (by omega), hRo _ (by omega)]
                      exact hm.2.1 r l (by omega) hl_
                  · rw [x0_]
                    by_cases q : r = c
                    · subst r
                      rw [fup_eq, W0_.1 l hl_]
                      try dsimp only
                      rw [hOv l hl_, eφ]
                      simp
                    · rw [fup_ne q, W0_.2 _ (by omega), hOo _ (by omega)]
                      exact hm.2.2.1 r l (by omega) hl_
                  · rw [x1_]
                    by_cases q : r = c
                    · subst r
                      rw [fup_eq, upr_eq]
                    · rw [fup_ne q, upr_ne (by omega)]
                      exact hm.2.2.2 r (by omega)
                · exfalso; omega
            · refine w_al hK rfl rfl ?_
              refine w_getr (n := 1) (v := 89) hK rfl rfl (by decide) (by decide) rfl rfl rfl rfl ?_
              refine w_al hK rfl rfl ?_
              refine w_geti (n := 4) (m := 4) hK rfl rfl (by decide) (by decide) rfl rfl rfl rfl ?_
              rw [show N45 88 4 = (c : Int) from h4c]
              refine w_ic hK rfl ?_
              refine w_mul hK rfl (by omega) (by omega) ?_
              refine w_al hK rfl rfl ?_
              refine w_getr (n := 3) (v := 91) hK rfl rfl (by decide) (by decide) rfl rfl rfl rfl ?_
              refine w_il hK rfl rfl ?_
              refine w_call [(1, 91), (0, (r : Int))] hK rfl rfl rfl rfl (Or.inl rfl) (c_get91 (r : Int) (by omega) (by omega)) ?_
              rintro _ Mq ⟨rfl, e_⟩
              subst Mq
              rw [show N45 91 (r : Int) = (pv r : Int) from (congrFun h91 (r : Int)).trans (hm.2.2.2 r (by omega))]
              have pl_ := (hs_.1 r (by omega)).2.2.1
              refine ⟨(by show (0 : Nat) ≠ 9; decide), (?_ : Wp 198 _ 86 59 [(1, 88), (1, x), (0, (n : Int)), (0, (r : Int)), w4] [(0, (pv r : Int)), (0, ((c : Int) * 32)), (1, 89)] N45 _)⟩
              refine w_add hK rfl (by omega) (by omega) ?_
              refine w_call [(1, 89), (0, (((c : Int) * 32) + (pv r : Int)))] hK rfl rfl rfl rfl (Or.inl rfl) (c_get89 (((c : Int) * 32) + (pv r : Int)) (by omega) (by omega)) ?_
              rintro _ Mq ⟨rfl, e_⟩
              subst Mq
              rw [show N45 89 (((c : Int) * 32) + (pv r : Int)) = vec n f (pv r) from (congrFun hR (((c : Int) * 32) + (pv r : Int))).trans (hRv (pv r) (by omega))]
              have bv_ := vec_I n f (pv r)
              refine ⟨(by show (0 : Nat) ≠ 9; decide), (?_ : Wp 198 _ 86 61 [(1, 88), (1, x), (0, (n : Int)), (0, (r : Int)), w4] [(0, (vec n f (pv r)))] N45 _)⟩
              refine w_is [(1, 88), (1, x), (0, (n : Int)), (0, (r : Int)), (0, (vec n f (pv r)))] hK rfl rfl rfl ?_
              refine w_il hK rfl rfl ?_
              refine w_eq hK rfl (by omega) (by omega) (fun h63 => ?_) (fun h63 => ?_)
              · refine w_inc [(1, 88), (1, x), (0, (n : Int)), (0, ((r : Int) + 1)), (0, (vec n f (pv r)))] hK rfl rfl rfl (by omega) (by omega) rfl ?_
                refine w_goto hK rfl ?_
                exact ih45 _ (by omega) (r + 1) R' O2 f u (0, (vec n f (pv r))) N45 rfl (by omega) hR hO2 hRv hOv hRo hOo h4c h5c h91 hf hl (fun s hs => by
                  by_cases q : s = r
                  · subst s; exact h63
                  · exact h0 s (by omega)) h1 h2 h3 hu hF
              · obtain ⟨a_, ea_⟩ : ∃ a_ : Nat, (a_ : Int) = (pp k : Int) - vec n f (pv r) := ⟨((pp k : Int) - vec n f (pv r)).toNat, by omega⟩
                have ha_ : a_ < pp k := by omega
                have hb9c_ : ∀ l : Nat, l < 32 → 0 ≤ R' ((c : Int) * 32 + (l : Int)) ∧ R' ((c : Int) * 32 + (l : Int)) < (pp k : Int) := fun l hl => by rw [hRv l hl]; exact vec_I n f l
                have hb9r_ : ∀ l : Nat, l < 32 → 0 ≤ R' ((r : Int) * 32 + (l : Int)) ∧ R' ((r : Int) * 32 + (l : Int)) < (pp k : Int) := fun l hl => by rw [hRo _ (by omega), hm.2.1 r l (by omega) hl]; exact vec_I n _ l
                have hb0c_ : ∀ l : Nat, l < 17 → 0 ≤ O2 ((c : Int) * 17 + (l : Int)) ∧ O2 ((c : Int) * 17 + (l : Int)) < (pp k : Int) := fun l hl => by
                  rw [hOv l hl]
                  have := hu l
                  omega
                have hb0r_ : ∀ l : Nat, l < 17 → 0 ≤ O2 ((r : Int) * 17 + (l : Int)) ∧ O2 ((r : Int) * 17 + (l : Int)) < (pp k : Int) := fun l hl => by
                  rw [hOo _ (by omega), hm.2.2.1 r l (by omega) hl]
                  have := (hs_.2 r (by omega)).2.2.2.2.2 l
                  omega
                refine w_al hK rfl rfl ?_
                refine w_al hK rfl rfl ?_
                refine w_getr (n := 1) (v := 89) hK rfl rfl (by decide) (by decide) rfl rfl rfl rfl ?_
                refine w_ic hK rfl ?_
                refine w_il hK rfl rfl ?_
                refine w_il hK rfl rfl ?_
                refine w_call [(1, 88), (1, 89), (0, 32), (0, (r : Int)), (0, (vec n f (pv r)))] hK rfl rfl rfl rfl (Or.inr ⟨_, _, _, rfl, by decide, (by decide), rfl⟩) (c_take89 (CS.congr C (fun a ha_ => hF a (CSc_ne ha_ (by decide) (notP rfl)) (CSc_ne ha_ (by decide) (notP rfl)) (CSc_ne ha_ (by decide) (notP rfl)))) (c := c) (r := r) (f := (vec n f (pv r))) (by omega) (by omega) (by omega) h4c hR hb9c_ hb9r_) ?_
                rintro _ V62 ⟨rfl, ⟨R62, g62, W62⟩, F62⟩
                refine ⟨by decide, (?_ : Wp 198 _ 86 71 [(1, 88), (1, x), (0, (n : Int)), (0, (r : Int)), (0, (vec n f (pv r)))] [] V62 _)⟩
                refine w_al hK rfl rfl ?_
                refine w_al hK rfl rfl ?_
                refine w_getr (n := 2) (v := 90) hK rfl rfl (by decide) (by decide) rfl rfl rfl rfl ?_
                refine w_ic hK rfl ?_
                refine w_il hK rfl rfl ?_
                refine w_il hK rfl rfl ?_
                refine w_call [(1, 88), (1, 90), (0, 17), (0, (r : Int)), (0, (vec n f (pv r)))] hK rfl rfl rfl rfl (Or.inr ⟨_, _, _, rfl, by decide, (by decide), rfl⟩) (c_take90 (CS.congr (CS.congr C (fun a ha_ => hF a (CSc_ne ha_ (by decide) (notP rfl)) (CSc_ne ha_ (by decide) (notP rfl)) (CSc_ne ha_ (by decide) (notP rfl)))) (fun a ha_ => F62 a (CSc_ne ha_ (by decide) (notP rfl)))) (c := c) (r := r) (f := (vec n f (pv r))) (by omega) (by omega) (by omega) ((congrFun (F62 88 (by decide)) 4).trans h4c) ((F62 90 (by decide)).trans hO2) hb0c_ hb0r_) ?_
                rintro _ V63 ⟨rfl, ⟨R63, g63, W63⟩, F63⟩
                refine ⟨by decide, (?_ : Wp 198 _ 86 78 [(1, 88), (1, x), (0, (n : Int)), (0, (r : Int)), (0, (vec n f (pv r)))] [] V63 _)⟩
                refine w_inc [(1, 88), (1, x), (0, (n : Int)), (0, ((r : Int) + 1)), (0, (vec n f (pv r)))] hK rfl rfl rfl (by omega) (by omega) rfl ?_
                refine w_goto hK rfl ?_
                refine ih45 _ (by omega) (r + 1) _ _ (adp f (scl (el k a_) (ρ r))) (elu k u (w r) a_) (0, (vec n f (pv r))) V63 rfl (by omega) ((F63 89 (by decide)).trans g62) g63 (fun l hl => ?_) (fun l hl => ?_) (fun j hj => ?_) (fun j hj => ?_) ((congrFun (F63 88 (by decide)) 4).trans ((congrFun (F62 88 (by decide)) 4).trans h4c)) ((congrFun (F63 88 (by decide)) 5).trans ((congrFun (F62 88 (by decide)) 5).trans h5c)) ((F63 91 (by decide)).trans ((F62 91 (by decide)).trans h91)) ?_ ?_ (fun s hs => ?_) ?_ (fun j hj => ?_) (fun j hj => ?_) (fun j => Nat.mod_lt _ (by omega)) (fun a n88_ n89_ n90_ => ((F63 a n90_).trans ((F62 a n89_).trans (hF a n88_ n89_ n90_))))
                · rw [W62.1 l hl]
                  try dsimp only
                  rw [hRv l hl, hRo _ (by omega), hm.2.1 r l (by omega) hl, vec_lin f (ρ r) ha_, ← ea_]
                · rw [W63.1 l hl]
                  try dsimp only
                  rw [hOv l hl, hOo _ (by omega), hm.2.2.1 r l (by omega) hl, ← ea_]
                  unfold elu
                  simp
                · rw [W62.2 j (Or.inl hj)]
                  exact hRo j hj
                · rw [W63.2 j (Or.inl hj)]
                  exact hOo j hj
                · exact fun j hj => by show ad (f j) (ml _ (ρ r j)) = z0; rw [hf j hj, (hs_.1 r (by omega)).1 j hj, ml_zero, ad_zero]
                · have e1_ := lcb_lin (X := X) ha_ hu (hs_.2 r (by omega)).2.2.2.2.2 (o + 1)
                  have e2_ := lcb_more (X := X) ((hs_.2 r (by omega)).2.2.2.1 o (hs_.2 r (by omega)).1)
                  show _ = lcb (elu k u (w r) a_) X (o + 1)
                  unfold elu
                  rw [e1_, e2_, ← hl, ← (hs_.1 r (by omega)).2.1]
                · rw [vec_lin f (ρ r) ha_]
                  by_cases q : s = r
                  · rw [q, (hs_.1 r (by omega)).2.2.2.1, ea_]
                    rw [show vec n f (pv r) + ((pp k : Int) - vec n f (pv r)) * 1 = (pp k : Int) by omega]
                    simp
                  · rw [h0 s (by omega), (hs_.1 r (by omega)).2.2.2.2 s (by omega)]
                    simp
                · show (u o + a_ * w r o) % pp k = 1
                  rw [h1, (hs_.2 r (by omega)).2.2.2.1 o (hs_.2 r (by omega)).1, Nat.mul_zero, Nat.add_zero, Nat.mod_eq_of_lt (by omega)]
                · show (u j + a_ * w r j) % pp k = 0
                  rw [h2 j hj, (hs_.2 r (by omega)).2.2.2.1 j (by have := (hs_.2 r (by omega)).1; omega), Nat.mul_zero, Nat.add_zero, Nat.zero_mod]
                · by_cases q : u j = 0
                  · by_cases q2 : w r j = 0
                    · exact absurd (show (u j + a_ * w r j) % pp k = 0 by rw [q, q2, Nat.mul_zero, Nat.add_zero, Nat.zero_mod]) hj
                    · obtain ⟨s, hs, e⟩ := (hs_.2 r (by omega)).2.2.2.2.1 j q2
                      exact Or.inr ⟨s, by omega, e⟩
                  · exact h3 j q
          exact lp45 _ 0 R2 O' f_x (fun j => if j = o then 1 else 0) w4 (up N16 88 5 ((o : Int) + 1)) rfl (by omega) ((up_row (by decide)).trans h89) ((up_row (by decide)).trans hO) hR2a (fun l hl => by
            rw [hW.1 l hl]
            show (if l = o then (1 : Int) else 0) = ((if l = o then 1 else 0 : Nat) : Int)
            split <;> rfl) (fun j hj => hR2b j (Or.inl hj)) (fun j hj => hW.2 j (Or.inl hj)) ((up_ne2 (by omega)).trans h4_) up_eq ((up_row (by decide)).trans (hF 91 (by decide) (by decide))) hxn (by rw [lcb_own]; exact hX) (fun s hs => by omega) (if_pos rfl) (fun j hj => if_neg (by omega)) (fun j hj => Or.inl (by
            by_cases q : j = o
            · exact q
            · exact absurd (if_neg q) hj)) (fun j => by
            have := pp_ge k
            try dsimp only
            split <;> omega) (fun a n88_ n89_ n90_ => ((up_row n88_).trans (hF a n89_ n90_)))
        · refine w_al hK rfl rfl ?_
          refine w_getr (n := 2) (v := 90) hK rfl rfl (by decide) (by decide) rfl rfl rfl rfl ?_
          refine w_al hK rfl rfl ?_
          refine w_geti (n := 4) (m := 4) hK rfl rfl (by decide) (by decide) rfl rfl rfl rfl ?_
          rw [show N16 88 4 = (c : Int) from h4_]
          refine w_ic hK rfl ?_
          refine w_mul hK rfl (by omega) (by omega) ?_
          refine w_il hK rfl rfl ?_
          refine w_add hK rfl (by omega) (by omega) ?_
          refine w_il hK rfl rfl ?_
          refine w_al hK rfl rfl ?_
          refine w_geti (n := 5) (m := 5) hK rfl rfl (by decide) (by decide) rfl rfl rfl rfl ?_
          rw [show N16 88 5 = (o : Int) from h5_]
          refine w_ne2 hK rfl (by omega) (by omega) (by omega) (by omega) (fun h30 => ?_) (fun h30 => ?_)
          · refine w_ic hK rfl ?_
            refine w_call [(1, 90), (0, (((c : Int) * 17) + (i : Int))), (0, 0)] hK rfl rfl rfl rfl (Or.inl rfl) (c_set90 (((c : Int) * 17) + (i : Int)) 0 (by omega) (by omega)) ?_
            rintro _ V64 ⟨rfl, u64⟩
            refine ⟨by decide, (?_ : Wp 198 _ 86 35 [(1, 88), (1, x), (0, (n : Int)), (0, (i : Int)), w4] [] V64 _)⟩
            refine w_inc [(1, 88), (1, x), (0, (n : Int)), (0, ((i : Int) + 1)), w4] hK rfl rfl rfl (by omega) (by omega) rfl ?_
            refine w_goto hK rfl ?_
            exact ih16 _ (by omega) (i + 1) _ w4 V64 rfl (by omega) ((congrFun u64 90).trans (up_upr hO)) (hW.step (by rw [if_neg (by omega)])) (((fun a (na_ : a ≠ 90) => (congrFun u64 a).trans (up_row na_)) 89 (by decide)).trans h89) ((congrFun ((fun a (na_ : a ≠ 90) => (congrFun u64 a).trans (up_row na_)) 88 (by decide)) 4).trans h4_) ((congrFun ((fun a (na_ : a ≠ 90) => (congrFun u64 a).trans (up_row na_)) 88 (by decide)) 5).trans h5_) (fun a n89_ n90_ => (((fun a (na_ : a ≠ 90) => (congrFun u64 a).trans (up_row na_)) a n90_).trans (hF a n89_ n90_)))
          · refine w_ic hK rfl ?_
            refine w_goto hK rfl ?_
            refine w_call [(1, 90), (0, (((c : Int) * 17) + (i : Int))), (0, 1)] hK rfl rfl rfl rfl (Or.inl rfl) (c_set90 (((c : Int) * 17) + (i : Int)) 1 (by omega) (by omega)) ?_
            rintro _ V65 ⟨rfl, u65⟩
            refine ⟨by decide, (?_ : Wp 198 _ 86 35 [(1, 88), (1, x), (0, (n : Int)), (0, (i : Int)), w4] [] V65 _)⟩
            refine w_inc [(1, 88), (1, x), (0, (n : Int)), (0, ((i : Int) + 1)), w4] hK rfl rfl rfl (by omega) (by omega) rfl ?_
            refine w_goto hK rfl ?_
            exact ih16 _ (by omega) (i + 1) _ w4 V65 rfl (by omega) ((congrFun u65 90).trans (up_upr hO)) (hW.step (by rw [if_pos (by omega)])) (((fun a (na_ : a ≠ 90) => (congrFun u65 a).trans (up_row na_)) 89 (by decide)).trans h89) ((congrFun ((fun a (na_ : a ≠ 90) => (congrFun u65 a).trans (up_row na_)) 88 (by decide)) 4).trans h4_) ((congrFun ((fun a (na_ : a ≠ 90) => (congrFun u65 a).trans (up_row na_)) 88 (by decide)) 5).trans h5_) (fun a n89_ n90_ => (((fun a (na_ : a ≠ 90) => (congrFun u65 a).trans (up_row na_)) a n90_).trans (hF a n89_ n90_)))
      exact lp16 _ 0 _ (3, 0) V60 rfl (by omega) (F60 90 (by decide)) Wm.zero g60 ((congrFun (F60 88 (by decide)) 4).trans hm.1.1) ((congrFun (F60 88 (by decide)) 5).trans hm.1.2) (fun a n89_ n90_ => (F60 a n89_))
    · exfalso; omega
