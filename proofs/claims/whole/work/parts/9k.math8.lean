/-! LIKE goes both ways */ -/
/-- a left multiple of B -/
def InL {k : Nat} (x B : Pl k) : Prop := ∃ (q : Pl k) (m : Nat), Bd q m ∧ x = mlp q B
theorem InL.lf {k n : Nat} {x B : Pl k} (hB : IsDg B (n : Int)) (h : InL x B) : dr 0 x B = pz := by
  obtain ⟨q, m, hq, e⟩ := h
  exact (mdv (n := 0) hB hq e).2
theorem InL.of {k n m : Nat} {x B : Pl k} (hB : IsDg B (n : Int)) (hx : Bd x m) (h : dr 0 x B = pz) : InL x B := by
  obtain ⟨⟨a, ha⟩, e, _⟩ := dv_is 0 hB hx
  rw [h, adp_pz] at e
  exact ⟨_, a, ha, e⟩
theorem InL.mul {k m : Nat} {x B : Pl k} (g : Pl k) (hg : Bd g m) (h : InL x B) : InL (mlp g x) B := by
  obtain ⟨q, a, hq, e⟩ := h
  exact ⟨mlp g q, m + a, Bd_mlp hg hq, by rw [e, mlp_assoc]⟩
theorem InL.self {k : Nat} (B : Pl k) : InL B B := ⟨one, 1, fun j hj => if_neg (by omega), (one_mlp B).symm⟩
theorem InL.sub {k : Nat} {x y B : Pl k} (h : InL x B) (h' : InL y B) : InL (sbp x y) B := by
  obtain ⟨q, m, hq, e⟩ := h
  obtain ⟨q', m', hq', e'⟩ := h'
  exact ⟨sbp q q', m + m', Bd_sbp hq hq', by rw [sbp_mlp, e, e']⟩
theorem InL.add {k : Nat} {x y B : Pl k} (h : InL x B) (h' : InL y B) : InL (adp x y) B := by
  obtain ⟨q, m, hq, e⟩ := h
  obtain ⟨q', m', hq', e'⟩ := h'
  exact ⟨adp q q', m + m', Bd_adp hq hq', by rw [adp_mlp, e, e']⟩
/-- what is left by B of x and of x less a multiple is the same -/
theorem dr_of {k n m : Nat} {x r B : Pl k} (hB : IsDg B (n : Int)) (hr : Bd r n) (h : InL (sbp x r) B) : dr 0 x B = r := by
  obtain ⟨q, a, hq, e⟩ := h
  refine (dv_eq (s := 0) (q := q) ⟨⟨a, hq⟩, ?_, n, hB, hr⟩).2
  show x = adp (mlp q B) r
  rw [← e, adp_comm, adp_sbp]
theorem dr_sub {k n m : Nat} {x B : Pl k} (hB : IsDg B (n : Int)) (hx : Bd x m) : InL (sbp x (dr 0 x B)) B := by
  obtain ⟨⟨a, ha⟩, e, _⟩ := dv_is 0 hB hx
  refine ⟨dq 0 x B, a, ha, ?_⟩
  have e' : x = adp (mlp (dq 0 x B) B) (dr 0 x B) := e
  exact (congrArg (fun t => sbp t (dr 0 x B)) (e'.trans (adp_comm _ _))).trans (sbp_adp _ _)
/-- x U in R B only if x in R A -/
theorem like_inj {k n a : Nat} {A B U x : Pl k} (hA : IsDg A (n : Int)) (hB : IsDg B (n : Int)) (hU : Bd U n) (hAU : InL (mlp A U) B) (hc : Cop U B) (hx : Bd x a) (h : InL (mlp x U) B) : InL x A := by
  obtain ⟨X, Y, m, hX, hY, e1_⟩ := hc
  have hs := dr_bd 0 hA hx
  -- what is left of x is taken to 0 too
  have h1 : InL (mlp (dr 0 x A) U) B := by
    obtain ⟨q, b, hq, e⟩ := dr_sub hA hx
    have e2 : mlp (dr 0 x A) U = sbp (mlp x U) (mlp q (mlp A U)) := by
      rw [← mlp_assoc, ← e, ← sbp_mlp]
      congr 1
      funext j
      show dr 0 x A j = ad (x j) (ng (ad (x j) (ng (dr 0 x A j))))
      rw [ng_ad, ng_ng, ← ad_assoc, ad_neg, zero_ad]
    rw [e2]
    exact h.sub (hAU.mul q hq)
  have surj : ∀ c : Nat, c < unq k n → ∃ i : Nat, i < unq k n ∧ cdp (dr 0 (mlp (bnp (k := k) n i) U) B) n = c := fun c hc => by
    have hrX : Bd (mlp (bnp (k := k) n c) X) (n + m) := Bd_mlp bnp_bd hX
    have hsb : Bd (dr 0 (mlp (bnp (k := k) n c) X) A) n := dr_bd 0 hA hrX
    refine ⟨cdp (dr 0 (mlp (bnp (k := k) n c) X) A) n, cdp_lt _ n, ?_⟩
    rw [← bnp_cdp hsb]
    have e : dr 0 (mlp (dr 0 (mlp (bnp (k := k) n c) X) A) U) B = bnp n c := by
      refine dr_of (m := 0) hB bnp_bd ?_
      obtain ⟨q, b, hq, eq⟩ := dr_sub hA hrX
      have k1 : InL (mlp (sbp (mlp (bnp (k := k) n c) X) (dr 0 (mlp (bnp (k := k) n c) X) A)) U) B := by
        rw [eq, mlp_assoc]
        exact hAU.mul q hq
      have k2 : InL (sbp (bnp (k := k) n c) (mlp (mlp (bnp (k := k) n c) X) U)) B := by
        refine ⟨mlp (bnp n c) Y, n + m, Bd_mlp bnp_bd hY, ?_⟩
        have e3 : bnp (k := k) n c = adp (mlp (mlp (bnp n c) X) U) (mlp (mlp (bnp n c) Y) B) := by
          rw [mlp_assoc, mlp_assoc, ← mlp_adp, e1_, mlp_one]
        have e4 := congrArg (fun t => sbp t (mlp (mlp (bnp (k := k) n c) X) U)) e3
        exact e4.trans (sbp_adp _ _)
      have e5 : sbp (mlp (dr 0 (mlp (bnp (k := k) n c) X) A) U) (bnp n c) = sbp (sbp pz (mlp (sbp (mlp (bnp (k := k) n c) X) (dr 0 (mlp (bnp (k := k) n c) X) A)) U)) (sbp (bnp (k := k) n c) (mlp (mlp (bnp (k := k) n c) X) U)) := by
        rw [sbp_mlp]
        generalize mlp (dr 0 (mlp (bnp (k := k) n c) X) A) U = f
        generalize mlp (mlp (bnp (k := k) n c) X) U = g
        funext j
        show ad (f j) (ng (bnp n c j)) = ad (ad z0 (ng (ad (g j) (ng (f j))))) (ng (ad (bnp n c j) (ng (g j))))
        rw [zero_ad, ng_ad, ng_ng, ng_ad, ng_ng, ad_comm (ng (g j)), ad_assoc, ad_comm (ng (bnp n c j)), ← ad_assoc (ng (g j)), ad_comm (ng (g j)), ad_neg, zero_ad]
      rw [e5]
      exact (InL.sub ⟨pz, 0, fun _ _ => rfl, (pz_mlp B).symm⟩ k1).sub k2
    rw [e, cdp_bnp hc]
  have hz : cdp (dr 0 x A) n = cdp (pz : Pl k) n := by
    refine surj_inj (f := fun i => cdp (dr 0 (mlp (bnp (k := k) n i) U) B) n) surj (cdp_lt _ n) (cdp_lt _ n) (cdp_lt _ n) ?_
    show cdp (dr 0 (mlp (bnp (k := k) n (cdp (dr 0 x A) n)) U) B) n = cdp (dr 0 (mlp (bnp (k := k) n (cdp (pz : Pl k) n)) U) B) n
    rw [← bnp_cdp hs, ← bnp_cdp (show Bd (pz : Pl k) n from fun _ _ => rfl), h1.lf hB, pz_mlp, dr_pz hB]
  refine InL.of hA hx ?_
  rw [bnp_cdp hs, hz, ← bnp_cdp (show Bd (pz : Pl k) n from fun _ _ => rfl)]
theorem like_sym {k n : Nat} {A B U : Pl k} (hA : IsDg A (n : Int)) (hB : IsDg B (n : Int)) (hU : Bd U n) (hAU : InL (mlp A U) B) (hc : Cop U B) : ∃ V : Pl k, Bd V n ∧ InL (mlp B V) A ∧ Cop V A := by
  have hc' := hc
  obtain ⟨X, Y, m, hX, hY, e1_⟩ := hc'
  have hBb : Bd B (n + 1) := Bd_is hB
  have hAb : Bd A (n + 1) := Bd_is hA
  -- B X is a multiple of A
  have h1 : InL (mlp B X) A := by
    refine like_inj hA hB hU hAU hc (Bd_mlp hBb hX) ?_
    refine ⟨sbp one (mlp B Y), 1 + (n + 1 + m), Bd_sbp (fun j hj => if_neg (by omega)) (Bd_mlp hBb hY), ?_⟩
    have e3 : B = adp (mlp (mlp B X) U) (mlp (mlp B Y) B) := by rw [mlp_assoc, mlp_assoc, ← mlp_adp, e1_, mlp_one]
    have e4 := congrArg (fun t => sbp t (mlp (mlp B Y) B)) (e3.trans (adp_comm _ _))
    rw [sbp_mlp, one_mlp]
    exact (e4.trans (sbp_adp _ _)).symm
  -- U X - 1 too
  have h2 : InL (sbp (mlp U X) one) A := by
    refine like_inj hA hB hU hAU hc (a := n + m + 1) (Bd_sbp (Bd_mlp hU hX) (fun j hj => if_neg (by omega))) ?_
    refine ⟨sbp pz (mlp U Y), 0 + (n + m), Bd_sbp (fun _ _ => rfl) (Bd_mlp hU hY), ?_⟩
    have e3 : U = adp (mlp (mlp U X) U) (mlp (mlp U Y) B) := by rw [mlp_assoc, mlp_assoc, ← mlp_adp, e1_, mlp_one]
    rw [sbp_mlp, sbp_mlp, one_mlp, pz_mlp]
    generalize mlp (mlp U X) U = f at e3 ⊢
    generalize mlp (mlp U Y) B = g at e3 ⊢
    funext j
    have e4 : U j = ad (f j) (g j) := congrFun e3 j
    show ad (f j) (ng (U j)) = ad z0 (ng (g j))
    rw [e4, ng_ad, ← ad_assoc, ad_neg, zero_ad]
  have hV := dr_bd 0 hA hX
  obtain ⟨q, b, hq, e⟩ := dr_sub hA hX
  refine ⟨dr 0 X A, hV, ?_, ?_⟩
  · have e5 : mlp B (dr 0 X A) = sbp (mlp B X) (mlp (mlp B q) A) := by
      rw [mlp_assoc, ← e]
      have e6 : X = adp (sbp X (dr 0 X A)) (dr 0 X A) := by rw [adp_comm, adp_sbp]
      have e7 : mlp B X = adp (mlp B (sbp X (dr 0 X A))) (mlp B (dr 0 X A)) := by rw [← mlp_adp, ← e6]
      rw [e7, sbp_adp]
    rw [e5]
    exact h1.sub ⟨mlp B q, n + 1 + b, Bd_mlp hBb hq, rfl⟩
  · obtain ⟨w, c, hw, ew⟩ := h2
    -- U V + (U q - w) A = 1
    refine ⟨U, sbp (mlp U q) w, n + b + c + n, hU.mono (by omega), (Bd_sbp (Bd_mlp hU hq) hw).mono (by omega), ?_⟩
    rw [sbp_mlp, mlp_assoc, ← e, ← ew]
    have e6 : X = adp (sbp X (dr 0 X A)) (dr 0 X A) := by rw [adp_comm, adp_sbp]
    have e7 : mlp U X = adp (mlp U (sbp X (dr 0 X A))) (mlp U (dr 0 X A)) := by rw [← mlp_adp, ← e6]
    generalize mlp U (dr 0 X A) = f at e7 ⊢
    generalize mlp U (sbp X (dr 0 X A)) = g at e7 ⊢
    rw [e7]
    funext j
    show ad (f j) (ad (g j) (ng (ad (ad (g j) (f j)) (ng (one j))))) = one j
    rw [ng_ad, ng_ng, ← ad_assoc, ← ad_assoc, ad_comm (f j), ad_neg, zero_ad]
