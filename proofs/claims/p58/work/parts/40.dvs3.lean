/-! contracts: Divisors, factors -/
theorem isPD {i : Nat} (h : i < 4) : isP (64 + 6 * (i : Int)) ∧ isP (66 + 6 * (i : Int)) ∧ isP (68 + 6 * (i : Int)) := by
  rcases (show i = 0 ∨ i = 1 ∨ i = 2 ∨ i = 3 by omega) with e | e | e | e
  · subst e; exact ⟨isP_of (p := 64) rfl, isP_of (p := 66) rfl, isP_of (p := 68) rfl⟩
  · subst e; exact ⟨isP_of (p := 70) rfl, isP_of (p := 72) rfl, isP_of (p := 74) rfl⟩
  · subst e; exact ⟨isP_of (p := 76) rfl, isP_of (p := 78) rfl, isP_of (p := 80) rfl⟩
  · subst e; exact ⟨isP_of (p := 82) rfl, isP_of (p := 84) rfl, isP_of (p := 86) rfl⟩
theorem trN_I (k : Nat) (n d : Int) : (trN k n d : Int) ≤ 256 := by
  have := trI_I k n d
  unfold trN
  omega
/-- the least degree of which the survey finds one -/
noncomputable def lsN {k : Nat} (x : Pl k) : Nat := if svN x 1 (trN k (dg x) (1 : Nat)) ≠ 0 then 1 else if svN x 2 (trN k (dg x) (2 : Nat)) ≠ 0 then 2 else if svN x 3 (trN k (dg x) (3 : Nat)) ≠ 0 then 3 else 4
theorem lsN_eq {k : Nat} {x : Pl k} {d : Nat} (h1 : 1 ≤ d) (h4 : d ≤ 4) (h : ∀ e : Nat, 1 ≤ e → e < d → svN x e (trN k (dg x) e) = 0) (hd : svN x d (trN k (dg x) d) ≠ 0) : lsN x = d := by
  unfold lsN
  by_cases c1 : d = 1
  · subst c1; rw [if_pos hd]
  rw [if_neg (fun q => q (h 1 (by omega) (by omega)))]
  by_cases c2 : d = 2
  · subst c2; rw [if_pos hd]
  rw [if_neg (fun q => q (h 2 (by omega) (by omega)))]
  by_cases c3 : d = 3
  · subst c3; rw [if_pos hd]
  rw [if_neg (fun q => q (h 3 (by omega) (by omega)))]
  omega
/-- what is left, and the factor then found -/
noncomputable def spR {k : Nat} (x : Pl k) : Nat → Pl k
  | 0 => x
  | n + 1 => dq 0 (spR x n) (svB (spR x n) (lsN (spR x n)) (trN k (dg (spR x n)) (lsN (spR x n) : Nat)))
noncomputable def spF {k : Nat} (x : Pl k) (n : Nat) : Pl k := svB (spR x n) (lsN (spR x n)) (trN k (dg (spR x n)) (lsN (spR x n) : Nat))
theorem sp_step {k : Nat} {x : Pl k} {n r d : Nat} (hr : IsDg (spR x n) (r : Int)) (r4 : r ≤ 4) (hd : svN (spR x n) d (trN k (dg (spR x n)) (d : Nat)) ≠ 0) (hl : lsN (spR x n) = d) : IsDg (spR x (n + 1)) ((r - d : Nat) : Int) ∧ (1 ≤ d ∧ d ≤ r) ∧ Mn (spF x n) d := by
  have hb : Bd (spR x n) 17 := (Bd_is hr).mono (by omega)
  have en := dg_eq17 hb hr
  obtain ⟨i, h1, h2, h3⟩ := svB_hit hd
  have hi : (i : Int) < trI k (dg (spR x n)) (d : Int) := by unfold trN at h1; omega
  obtain ⟨_, _, _, h4, h5⟩ := trI_ok hi
  have h6 := hit_spec hr hb h4 (by omega) r4 h2
  have e1 : spF x n = htB (spR x n) d i := by unfold spF; rw [hl]; exact h3
  have e2 : spR x (n + 1) = htQ (spR x n) d i := by
    show dq 0 (spR x n) (spF x n) = _
    rw [e1]
    exact (dv_eq (s := 0) (r := pz) ⟨⟨_, Bd_is h6.2.1⟩, by rw [adp_pz]; exact h6.2.2, d, h6.1.1, fun _ _ => rfl⟩).1
  rw [e1, e2]
  exact ⟨h6.2.1, ⟨h4, by omega⟩, h6.1⟩
set_option maxRecDepth 100000 in
theorem c_pA0 {d : Nat} {M : Mem} (i : Nat) (hi : i < 4) : Ct 198 (d) 81 [(1, 61), (0, (i : Int))] M (fun r M' => r = (1, 64 + 6 * (i : Int)) ∧ M' = M) := by
  have hK : cd 81 = k81 := rfl
  show Wp 198 _ 81 0 [(1, 61), (0, (i : Int))] [] M _
  refine w_il hK rfl rfl ?_
  refine w_lt hK rfl (by omega) (by omega) (fun h1 => ?_) (fun h1 => ?_)
  · exfalso; omega
  · refine w_il hK rfl rfl ?_
    refine w_al hK rfl rfl ?_
    refine w_len hK rfl rfl (by decide) (by decide) rfl ?_
    refine w_ge2 hK rfl (by omega) (by omega) (by omega) (by omega) (fun h5 => ?_) (fun h5 => ?_)
    · exfalso; omega
    · refine w_al hK rfl rfl ?_
      refine w_il hK rfl rfl ?_
      refine w_aa hK rfl rfl (by decide) (by decide) (by omega) (by omega) ?_
      refine w_goto hK rfl ?_
      refine w_aret hK rfl rfl ?_
      refine ⟨congrArg (Prod.mk 1) ?_, rfl⟩
      rcases (show i = 0 ∨ i = 1 ∨ i = 2 ∨ i = 3 by omega) with e | e | e | e <;> (subst e; rfl)
set_option maxRecDepth 100000 in
theorem c_pA1 {d : Nat} {M : Mem} (i : Nat) (hi : i < 4) : Ct 198 (d) 81 [(1, 62), (0, (i : Int))] M (fun r M' => r = (1, 66 + 6 * (i : Int)) ∧ M' = M) := by
  have hK : cd 81 = k81 := rfl
  show Wp 198 _ 81 0 [(1, 62), (0, (i : Int))] [] M _
  refine w_il hK rfl rfl ?_
  refine w_lt hK rfl (by omega) (by omega) (fun h1 => ?_) (fun h1 => ?_)
  · exfalso; omega
  · refine w_il hK rfl rfl ?_
    refine w_al hK rfl rfl ?_
    refine w_len hK rfl rfl (by decide) (by decide) rfl ?_
    refine w_ge2 hK rfl (by omega) (by omega) (by omega) (by omega) (fun h5 => ?_) (fun h5 => ?_)
    · exfalso; omega
    · refine w_al hK rfl rfl ?_
      refine w_il hK rfl rfl ?_
      refine w_aa hK rfl rfl (by decide) (by decide) (by omega) (by omega) ?_
      refine w_goto hK rfl ?_
      refine w_aret hK rfl rfl ?_
      refine ⟨congrArg (Prod.mk 1) ?_, rfl⟩
      rcases (show i = 0 ∨ i = 1 ∨ i = 2 ∨ i = 3 by omega) with e | e | e | e <;> (subst e; rfl)
set_option maxRecDepth 100000 in
theorem c_pA2 {d : Nat} {M : Mem} (i : Nat) (hi : i < 4) : Ct 198 (d) 81 [(1, 63), (0, (i : Int))] M (fun r M' => r = (1, 68 + 6 * (i : Int)) ∧ M' = M) := by
  have hK : cd 81 = k81 := rfl
  show Wp 198 _ 81 0 [(1, 63), (0, (i : Int))] [] M _
  refine w_il hK rfl rfl ?_
  refine w_lt hK rfl (by omega) (by omega) (fun h1 => ?_) (fun h1 => ?_)
  · exfalso; omega
  · refine w_il hK rfl rfl ?_
    refine w_al hK rfl rfl ?_
    refine w_len hK rfl rfl (by decide) (by decide) rfl ?_
    refine w_ge2 hK rfl (by omega) (by omega) (by omega) (by omega) (fun h5 => ?_) (fun h5 => ?_)
    · exfalso; omega
    · refine w_al hK rfl rfl ?_
      refine w_il hK rfl rfl ?_
      refine w_aa hK rfl rfl (by decide) (by decide) (by omega) (by omega) ?_
      refine w_goto hK rfl ?_
      refine w_aret hK rfl rfl ?_
      refine ⟨congrArg (Prod.mk 1) ?_, rfl⟩
      rcases (show i = 0 ∨ i = 1 ∨ i = 2 ∨ i = 3 by omega) with e | e | e | e <;> (subst e; rfl)
set_option maxRecDepth 100000 in
theorem c_split {d : Nat} {M : Mem} {k : Nat} {P : Int → Option (Pl k)} (C : CS M k P) {x : Int} {f_x : Pl k} (hx : isC P x f_x) (nx : x < 53 ∨ 86 < x) (dx0 : 0 ≤ dg f_x) (dx4 : dg f_x ≤ 4) : Ct 198 (d + 6) 80 [(1, 52), (1, x)] M (fun r_ M' => ∃ (P' : Int → Option (Pl k)) (c : Nat), r_ = (0, (c : Int)) ∧ CS M' k P' ∧ M' 52 9 = (c : Int) ∧ (∀ a : Int, (∀ p : Int, isP p → a ≠ p ∧ a ≠ p + 1) → a ≠ 52 → M' a = M a) ∧ (∀ p : Int, p ≠ 53 → p ≠ 55 → p ≠ 57 → p ≠ 59 → p ≠ 68 → p ≠ 74 → p ≠ 80 → p ≠ 86 → P' p = P p) ∧ c ≤ 4 ∧ (∀ j : Nat, j < c → P' (68 + 6 * (j : Int)) = some (spF f_x j) ∧ 0 < dg (spR f_x j)) ∧ dg (spR f_x c) ≤ 0) := by
  have hK : cd 80 = k80 := rfl
  have q1_ := qq_I k
  have dx_ := C.dI hx
  show Wp 198 _ 80 0 [(1, 52), (1, x), (3, 0), (3, 0), (3, 0)] [] M _
  refine w_al hK rfl rfl ?_
  refine w_ic hK rfl ?_
  refine w_puti (n := 9) (m := 9) hK rfl rfl (by decide) (by decide) rfl rfl rfl rfl ?_
  refine w_al hK rfl rfl ?_
  refine w_getr (n := 5) (v := 59) hK rfl rfl (by decide) (by decide) rfl rfl rfl rfl ?_
  refine w_al hK rfl rfl ?_
  refine w_call [(1, 59), (1, x)] hK rfl rfl rfl rfl (Or.inr ⟨_, _, _, rfl, (isP_of (p := 59) rfl).nn, (isP_of (p := 59) rfl).lb, (isP_of (p := 59) rfl).o⟩) (c_copy (CS.upc C (by decide) (notP rfl)) (isP_of (p := 59) rfl) hx) ?_
  rintro _ V41 ⟨rfl, C41, S41⟩
  refine ⟨by decide, (?_ : Wp 198 _ 80 7 [(1, 52), (1, x), (3, 0), (3, 0), (3, 0)] [] V41 _)⟩
  refine w_ic hK rfl ?_
  refine w_is [(1, 52), (1, x), (0, 0), (3, 0), (3, 0)] hK rfl rfl rfl ?_
  have lp9 : ∀ (n_ : Nat) (n : Nat) (P1 : Int → Option (Pl k)) (w3 w4 : AV) (N9 : Mem), 5 - n = n_ → (n ≤ 4) → (CS N9 k P1) → (N9 52 9 = (n : Int)) → ((∀ a : Int, (∀ p : Int, isP p → a ≠ p ∧ a ≠ p + 1) → a ≠ 52 → N9 a = M a)) → ((∀ p : Int, p ≠ 53 → p ≠ 55 → p ≠ 57 → p ≠ 59 → p ≠ 68 → p ≠ 74 → p ≠ 80 → p ≠ 86 → P1 p = P p)) → (P1 59 = some (spR f_x n)) → (∀ j : Nat, j < n → P1 (68 + 6 * (j : Int)) = some (spF f_x j) ∧ 0 < dg (spR f_x j)) → (∃ r : Nat, IsDg (spR f_x n) (r : Int) ∧ r + n ≤ 4) → Wp 198 (d + 6) 80 9 [(1, 52), (1, x), (0, (n : Int)), w3, w4] [] N9 (fun r_ M' => ∃ (P' : Int → Option (Pl k)) (c : Nat), r_ = (0, (c : Int)) ∧ CS M' k P' ∧ M' 52 9 = (c : Int) ∧ (∀ a : Int, (∀ p : Int, isP p → a ≠ p ∧ a ≠ p + 1) → a ≠ 52 → M' a = M a) ∧ (∀ p : Int, p ≠ 53 → p ≠ 55 → p ≠ 57 → p ≠ 59 → p ≠ 68 → p ≠ 74 → p ≠ 80 → p ≠ 86 → P' p = P p) ∧ c ≤ 4 ∧ (∀ j : Nat, j < c → P' (68 + 6 * (j : Int)) = some (spF f_x j) ∧ 0 < dg (spR f_x j)) ∧ dg (spR f_x c) ≤ 0) := by
    intro n_
    induction n_ using Nat.strongRecOn with
    | _ n_ ih9 =>
    intro n P1 w3 w4 N9 hm9 hn hC h9 hS hF hR hfa hdg
    obtain ⟨r_, hr1, hr2⟩ := hdg
    have dr_ := dg_eq17 ((Bd_is hr1).mono (show r_ + 1 ≤ 17 by omega)) hr1
    refine w_il hK rfl rfl ?_
    refine w_ic hK rfl ?_
    refine w_ge2 hK rfl (by omega) (by omega) (by omega) (by omega) (fun h11 => ?_) (fun h11 => ?_)
    · refine w_al hK rfl rfl ?_
      refine w_geti (n := 9) (m := 9) hK rfl rfl (by decide) (by decide) rfl rfl rfl rfl ?_
      rw [show N9 52 9 = (n : Int) from h9]
      refine w_iret hK rfl rfl ?_
      exact ⟨P1, n, rfl, hC, h9, (fun a np_ n52_ => (hS a np_ n52_)), hF, by omega, hfa, by show dg (spR f_x n) ≤ 0; omega⟩
    · refine w_al hK rfl rfl ?_
      refine w_getr (n := 5) (v := 59) hK rfl rfl (by decide) (by decide) rfl rfl rfl rfl ?_
      refine w_pt hK rfl (isP_of (p := 59) rfl) ?_
      rw [show N9 59 1 = dg (spR f_x n) from hC.t ⟨(isP_of (p := 59) rfl), hR⟩]
      have tI_ := CS.dI hC ⟨(isP_of (p := 59) rfl), hR⟩
      refine w_le hK rfl (by omega) (by omega) (fun h15 => ?_) (fun h15 => ?_)
      · refine w_al hK rfl rfl ?_
        refine w_geti (n := 9) (m := 9) hK rfl rfl (by decide) (by decide) rfl rfl rfl rfl ?_
        rw [show N9 52 9 = (n : Int) from h9]
        refine w_iret hK rfl rfl ?_
        exact ⟨P1, n, rfl, hC, h9, (fun a np_ n52_ => (hS a np_ n52_)), hF, by omega, hfa, by show dg (spR f_x n) ≤ 0; omega⟩
      · refine w_al hK rfl rfl ?_
        refine w_getr (n := 8) (v := 63) hK rfl rfl (by decide) (by decide) rfl rfl rfl rfl ?_
        refine w_il hK rfl rfl ?_
        refine w_call [(1, 63), (0, (n : Int))] hK rfl rfl rfl rfl (Or.inl rfl) (c_pA2 n (by omega)) ?_
        rintro _ Mq ⟨rfl, e_⟩
        subst Mq
        refine ⟨by show (1 : Nat) ≠ 9; decide, (?_ : Wp 198 _ 80 20 [(1, 52), (1, x), (0, (n : Int)), w3, w4] [(1, (68 + 6 * (n : Int)))] N9 _)⟩
        refine w_as [(1, 52), (1, x), (0, (n : Int)), (1, (68 + 6 * (n : Int))), w4] hK rfl rfl rfl ?_
        have hf_ := isPD (i := n) (by omega)
        refine w_al hK rfl rfl ?_
        refine w_nonnull hK rfl (fun h22 => ?_) (fun h22 => ?_)
        · refine w_ic hK rfl ?_
          refine w_is [(1, 52), (1, x), (0, (n : Int)), (1, (68 + 6 * (n : Int))), (0, 1)] hK rfl rfl rfl ?_
          have lp28 : ∀ (n_ : Nat) (e : Nat) (P2 : Int → Option (Pl k)) (N28 : Mem), 6 - e = n_ → (1 ≤ e ∧ e ≤ 5) → (CS N28 k P2) → ((∀ a : Int, (∀ p : Int, isP p → a ≠ p ∧ a ≠ p + 1) → N28 a = N9 a)) → ((∀ p : Int, p ≠ 53 → p ≠ 55 → p ≠ 57 → p ≠ (68 + 6 * (n : Int)) → P2 p = P1 p)) → (∀ j : Nat, 1 ≤ j → j < e → svN (spR f_x n) j (trN k (dg (spR f_x n)) j) = 0) → Wp 198 (d + 6) 80 28 [(1, 52), (1, x), (0, (n : Int)), (1, (68 + 6 * (n : Int))), (0, (e : Int))] [] N28 (fun r_ M' => ∃ (P' : Int → Option (Pl k)) (c : Nat), r_ = (0, (c : Int)) ∧ CS M' k P' ∧ M' 52 9 = (c : Int) ∧ (∀ a : Int, (∀ p : Int, isP p → a ≠ p ∧ a ≠ p + 1) → a ≠ 52 → M' a = M a) ∧ (∀ p : Int, p ≠ 53 → p ≠ 55 → p ≠ 57 → p ≠ 59 → p ≠ 68 → p ≠ 74 → p ≠ 80 → p ≠ 86 → P' p = P p) ∧ c ≤ 4 ∧ (∀ j : Nat, j < c → P' (68 + 6 * (j : Int)) = some (spF f_x j) ∧ 0 < dg (spR f_x j)) ∧ dg (spR f_x c) ≤ 0) := by
            intro n_
            induction n_ using Nat.strongRecOn with
            | _ n_ ih28 =>
            intro e P2 N28 hm28 he hC2 hS2 hF2 hz
            have sv_ := svN_I (spR f_x n) e (trN k (dg (spR f_x n)) (e : Int))
            have tn_ := trN_I k (dg (spR f_x n)) (e : Int)
            refine w_il hK rfl rfl ?_
            refine w_ic hK rfl ?_
            refine w_gt2 hK rfl (by omega) (by omega) (by omega) (by omega) (fun h30 => ?_) (fun h30 => ?_)
            · exfalso
              have q_ := svN_top (k := k) dr_ (by omega)
              have q2_ := hz r_ (by omega) (by omega)
              rw [q_.1, q_.2] at q2_
              omega
            · refine w_al hK rfl rfl ?_
              refine w_al hK rfl rfl ?_
              refine w_getr (n := 5) (v := 59) hK rfl rfl (by decide) (by decide) rfl rfl rfl rfl ?_
              refine w_il hK rfl rfl ?_
              refine w_al hK rfl rfl ?_
              refine w_call [(1, 52), (1, 59), (0, (e : Int)), (1, (68 + 6 * (n : Int)))] hK rfl rfl rfl rfl (Or.inr ⟨_, _, _, rfl, by decide, (by decide), rfl⟩) (c_survey hC2 ⟨(isP_of (p := 59) rfl), ((hF2 59 (by omega) (by omega) (by omega) (by omega)).trans hR)⟩ hf_.2.2 (by omega) (by omega) e (by omega) (by omega)) ?_
              rintro _ V42 ⟨P42, rfl, C42, S42, F42, f42⟩
              refine ⟨by show (0 : Nat) ≠ 9; decide, (?_ : Wp 198 _ 80 37 [(1, 52), (1, x), (0, (n : Int)), (1, (68 + 6 * (n : Int))), (0, (e : Int))] [(0, (svN (spR f_x n) e (trN k (dg (spR f_x n)) (e : Int))))] V42 _)⟩
              refine w_ne hK rfl (by omega) (by omega) (fun h37 => ?_) (fun h37 => ?_)
              · have hls_ := lsN_eq he.1 (by omega) hz h37
                have hsp_ := sp_step hr1 (by omega) h37 hls_
                refine w_al hK rfl rfl ?_
                refine w_getr (n := 1) (v := 7) hK rfl rfl (by decide) (by decide) rfl rfl rfl rfl ?_
                refine w_al hK rfl rfl ?_
                refine w_getr (n := 5) (v := 59) hK rfl rfl (by decide) (by decide) rfl rfl rfl rfl ?_
                refine w_al hK rfl rfl ?_
                refine w_ic hK rfl ?_
                refine w_al hK rfl rfl ?_
                refine w_getr (n := 4) (v := 57) hK rfl rfl (by decide) (by decide) rfl rfl rfl rfl ?_
                refine w_al hK rfl rfl ?_
                refine w_getr (n := 2) (v := 53) hK rfl rfl (by decide) (by decide) rfl rfl rfl rfl ?_
                refine w_call [(1, 7), (1, 59), (1, (68 + 6 * (n : Int))), (0, 0), (1, 57), (1, 53)] hK rfl rfl rfl rfl (Or.inr ⟨_, _, _, rfl, by decide, (by decide), rfl⟩) (c_div C42 ⟨(isP_of (p := 59) rfl), ((F42 59 (by omega) (by omega) (by omega) (by omega)).trans ((hF2 59 (by omega) (by omega) (by omega) (by omega)).trans hR))⟩ ⟨hf_.2.2, (f42 h37)⟩ 0 (isP_of (p := 57) rfl) (isP_of (p := 53) rfl) (by omega) (by omega) (by omega) (by omega) (by omega) (by omega)) ?_
                rintro _ V43 ⟨rfl, C43, S43⟩
                refine ⟨by decide, (?_ : Wp 198 _ 80 51 [(1, 52), (1, x), (0, (n : Int)), (1, (68 + 6 * (n : Int))), (0, (e : Int))] [] V43 _)⟩
                refine w_al hK rfl rfl ?_
                refine w_getr (n := 5) (v := 59) hK rfl rfl (by decide) (by decide) rfl rfl rfl rfl ?_
                refine w_al hK rfl rfl ?_
                refine w_getr (n := 4) (v := 57) hK rfl rfl (by decide) (by decide) rfl rfl rfl rfl ?_
                refine w_call [(1, 59), (1, 57)] hK rfl rfl rfl rfl (Or.inr ⟨_, _, _, rfl, (isP_of (p := 59) rfl).nn, (isP_of (p := 59) rfl).lb, (isP_of (p := 59) rfl).o⟩) (c_copy C43 (isP_of (p := 59) rfl) ⟨(isP_of (p := 57) rfl), ((pu_ne (P := pu P42 57 (dq 0 (spR f_x n) (svB (spR f_x n) e (trN k (dg (spR f_x n)) (e : Int))))) (f := dr 0 (spR f_x n) (svB (spR f_x n) e (trN k (dg (spR f_x n)) (e : Int)))) (show 57 ≠ 53 by omega)).trans pu_eq)⟩) ?_
                rintro _ V44 ⟨rfl, C44, S44⟩
                refine ⟨by decide, (?_ : Wp 198 _ 80 56 [(1, 52), (1, x), (0, (n : Int)), (1, (68 + 6 * (n : Int))), (0, (e : Int))] [] V44 _)⟩
                refine w_al hK rfl rfl ?_
                refine w_dup hK rfl rfl ?_
                refine w_geti (n := 9) (m := 9) hK rfl rfl (by decide) (by decide) rfl rfl rfl rfl ?_
                rw [show V44 52 9 = (n : Int) from ((congrFun (S44 52 (notP rfl)) 9).trans ((congrFun (S43 52 (notP rfl)) 9).trans ((congrFun (S42 52 (notP rfl)) 9).trans ((congrFun (hS2 52 (notP rfl)) 9).trans h9))))]
                refine w_ic hK rfl ?_
                refine w_add hK rfl (by omega) (by omega) ?_
                refine w_puti (n := 9) (m := 9) hK rfl rfl (by decide) (by decide) rfl rfl rfl rfl ?_
                refine w_inc [(1, 52), (1, x), (0, ((n : Int) + 1)), (1, (68 + 6 * (n : Int))), (0, (e : Int))] hK rfl rfl rfl (by omega) (by omega) rfl ?_
                refine w_goto hK rfl ?_
                exact ih9 _ (by omega) (n + 1) _ (1, (68 + 6 * (n : Int))) (0, (e : Int)) (up V44 52 9 ((n : Int) + 1)) rfl (by omega) (CS.upc C44 (by decide) (notP rfl)) up_eq (fun a np_ n52_ => ((up_row n52_).trans ((S44 a np_).trans ((S43 a np_).trans ((S42 a np_).trans ((hS2 a np_).trans (hS a np_ n52_))))))) (fun p pn53_ pn55_ pn57_ pn59_ pn68_ pn74_ pn80_ pn86_ => ((pu_ne (P := pu (pu P42 57 (dq 0 (spR f_x n) (svB (spR f_x n) e (trN k (dg (spR f_x n)) (e : Int))))) 53 (dr 0 (spR f_x n) (svB (spR f_x n) e (trN k (dg (spR f_x n)) (e : Int))))) (f := dq 0 (spR f_x n) (svB (spR f_x n) e (trN k (dg (spR f_x n)) (e : Int)))) (show p ≠ 59 by omega)).trans ((pu_ne (P := pu P42 57 (dq 0 (spR f_x n) (svB (spR f_x n) e (trN k (dg (spR f_x n)) (e : Int))))) (f := dr 0 (spR f_x n) (svB (spR f_x n) e (trN k (dg (spR f_x n)) (e : Int)))) (show p ≠ 53 by omega)).trans ((pu_ne (P := P42) (f := dq 0 (spR f_x n) (svB (spR f_x n) e (trN k (dg (spR f_x n)) (e : Int)))) (show p ≠ 57 by omega)).trans ((F42 p pn53_ pn55_ pn57_ (by omega)).trans ((hF2 p pn53_ pn55_ pn57_ (by omega)).trans (hF p pn53_ pn55_ pn57_ pn59_ pn68_ pn74_ pn80_ pn86_))))))) (pu_eq.trans (congrArg some (by show _ = dq 0 _ _; rw [hls_]))) (by
                  intro j hj
                  by_cases q_ : j = n
                  · subst j
                    exact ⟨((pu_ne (P := pu (pu P42 57 (dq 0 (spR f_x n) (svB (spR f_x n) e (trN k (dg (spR f_x n)) (e : Int))))) 53 (dr 0 (spR f_x n) (svB (spR f_x n) e (trN k (dg (spR f_x n)) (e : Int))))) (f := dq 0 (spR f_x n) (svB (spR f_x n) e (trN k (dg (spR f_x n)) (e : Int)))) (show (68 + 6 * (n : Int)) ≠ 59 by omega)).trans ((pu_ne (P := pu P42 57 (dq 0 (spR f_x n) (svB (spR f_x n) e (trN k (dg (spR f_x n)) (e : Int))))) (f := dr 0 (spR f_x n) (svB (spR f_x n) e (trN k (dg (spR f_x n)) (e : Int)))) (show (68 + 6 * (n : Int)) ≠ 53 by omega)).trans ((pu_ne (P := P42) (f := dq 0 (spR f_x n) (svB (spR f_x n) e (trN k (dg (spR f_x n)) (e : Int)))) (show (68 + 6 * (n : Int)) ≠ 57 by omega)).trans (f42 h37)))).trans (congrArg some (by unfold spF; rw [hls_])), by omega⟩
                  · exact ⟨((pu_ne (P := pu (pu P42 57 (dq 0 (spR f_x n) (svB (spR f_x n) e (trN k (dg (spR f_x n)) (e : Int))))) 53 (dr 0 (spR f_x n) (svB (spR f_x n) e (trN k (dg (spR f_x n)) (e : Int))))) (f := dq 0 (spR f_x n) (svB (spR f_x n) e (trN k (dg (spR f_x n)) (e : Int)))) (show (68 + 6 * (j : Int)) ≠ 59 by omega)).trans ((pu_ne (P := pu P42 57 (dq 0 (spR f_x n) (svB (spR f_x n) e (trN k (dg (spR f_x n)) (e : Int))))) (f := dr 0 (spR f_x n) (svB (spR f_x n) e (trN k (dg (spR f_x n)) (e : Int)))) (show (68 + 6 * (j : Int)) ≠ 53 by omega)).trans ((pu_ne (P := P42) (f := dq 0 (spR f_x n) (svB (spR f_x n) e (trN k (dg (spR f_x n)) (e : Int)))) (show (68 + 6 * (j : Int)) ≠ 57 by omega)).trans ((F42 (68 + 6 * (j : Int)) (by omega) (by omega) (by omega) (by omega)).trans (hF2 (68 + 6 * (j : Int)) (by omega) (by omega) (by omega) (by omega)))))).trans (hfa j (by omega)).1, (hfa j (by omega)).2⟩) ⟨_, hsp_.1, by have := hsp_.2.1; omega⟩
              · refine w_inc [(1, 52), (1, x), (0, (n : Int)), (1, (68 + 6 * (n : Int))), (0, ((e : Int) + 1))] hK rfl rfl rfl (by omega) (by omega) rfl ?_
                refine w_goto hK rfl ?_
                exact ih28 _ (by omega) (e + 1) _ V42 rfl (by omega) C42 (fun a np_ => ((S42 a np_).trans (hS2 a np_))) (fun p pn53_ pn55_ pn57_ pn686nInt_ => ((F42 p pn53_ pn55_ pn57_ pn686nInt_).trans (hF2 p pn53_ pn55_ pn57_ pn686nInt_))) (fun j h1 h2 => by
                  by_cases q : j = e
                  · subst q; exact h37
                  · exact hz j h1 (by omega))
          exact lp28 _ 1 _ N9 rfl (by omega) hC (fun a np_ => rfl) (fun p h1 h2 h3 h4 => rfl) (fun j h1 h2 => by omega)
        · exfalso; omega
  exact lp9 _ 0 _ (3, 0) (3, 0) V41 rfl (by omega) C41 ((congrFun (S41 52 (notP rfl)) 9).trans up_eq) (fun a np_ n52_ => ((S41 a np_).trans (up_row n52_))) (fun p pn53_ pn55_ pn57_ pn59_ pn68_ pn74_ pn80_ pn86_ => (pu_ne (P := P) (f := f_x) (show p ≠ 59 by omega))) pu_eq (fun j hj => by omega) ⟨_, isdg_dg ((C.bd hx).mono (by decide)) dx0, by show (dg f_x).toNat + 0 ≤ 4; omega⟩
