/-! division -/
theorem isdg_ex {k : Nat} {f : Pl k} {n : Nat} (h : Bd f n) : ∃ a : Int, IsDg f a := by
  obtain ⟨h1, h2, h3, h4⟩ := dgN_spec f n
  refine ⟨dgN f n, h1, fun j hj => ?_, h4⟩
  by_cases q : j < n
  · exact h3 j hj q
  · exact h j (by omega)
theorem isdg_neg {k : Nat} {f : Pl k} {a : Int} (h : IsDg f a) (ha : a < 0) : f = pz := by
  funext j
  exact h.2.1 j (by omega)
theorem isdg_pos {k : Nat} {f : Pl k} {n : Nat} (h : Bd f n) (hf : f ≠ pz) : ∃ a : Nat, IsDg f (a : Int) := by
  obtain ⟨a, ha⟩ := isdg_ex h
  by_cases q : a < 0
  · exact absurd (isdg_neg ha q) hf
  · refine ⟨a.toNat, ?_⟩
    rw [Int.toNat_of_nonneg (by omega)]
    exact ha
def prd {k : Nat} (s : Int) (f g : Pl k) : Pl k := if s = 0 then mlp f g else mlp g f
theorem prd_adp {k : Nat} (s : Int) (f g h : Pl k) : prd s (adp f g) h = adp (prd s f h) (prd s g h) := by
  unfold prd
  split
  · exact adp_mlp f g h
  · exact mlp_adp h f g
theorem prd_sbp {k : Nat} (s : Int) (f g h : Pl k) : prd s (sbp f g) h = sbp (prd s f h) (prd s g h) := by
  unfold prd
  split
  · exact sbp_mlp f g h
  · exact mlp_sbp h f g
theorem prd_pz {k : Nat} (s : Int) (h : Pl k) : prd s pz h = pz := by
  unfold prd
  split
  · exact pz_mlp h
  · exact mlp_pz h
theorem prd_dg {k : Nat} {s : Int} {f g : Pl k} {a b : Nat} (hf : IsDg f (a : Int)) (hg : IsDg g (b : Int)) : IsDg (prd s f g) ((a + b : Nat) : Int) := by
  unfold prd
  split
  · exact (IsDg_mlp hf hg).1
  · rw [Nat.add_comm]
    exact (IsDg_mlp hg hf).1
/-- x by y at a side: q, and r is left -/
def IsDv {k : Nat} (s : Int) (x y q r : Pl k) : Prop := (∃ n : Nat, Bd q n) ∧ x = adp (prd s q y) r ∧ ∃ b : Nat, IsDg y (b : Int) ∧ Bd r b
theorem Bd_sbp {k : Nat} {f g : Pl k} {n m : Nat} (h : Bd f n) (h' : Bd g m) : Bd (sbp f g) (n + m) := fun j hj => by
  show ad (f j) (ng (g j)) = z0
  rw [h j (by omega), h' j (by omega), ng_z, ad_zero]
theorem Bd_adp {k : Nat} {f g : Pl k} {n m : Nat} (h : Bd f n) (h' : Bd g m) : Bd (adp f g) (n + m) := fun j hj => by
  show ad (f j) (g j) = z0
  rw [h j (by omega), h' j (by omega), ad_zero]
theorem IsDv.uniq {k : Nat} {s : Int} {x y q r q' r' : Pl k} (h : IsDv s x y q r) (h' : IsDv s x y q' r') : q = q' ∧ r = r' := by
  obtain ⟨⟨n, hn⟩, h2, b, h3, h4⟩ := h
  obtain ⟨⟨n', hn'⟩, h2', b', h3', h4'⟩ := h'
  have hb : (b : Int) = (b' : Int) := h3.uniq h3'
  have hz : ∀ j : Nat, b ≤ j → prd s (sbp q q') y j = z0 := fun j hj => by
    rw [prd_sbp]
    have e1 : x j = ad (prd s q y j) (r j) := congrFun h2 j
    have e2 : x j = ad (prd s q' y j) (r' j) := congrFun h2' j
    rw [h4 j hj, ad_zero] at e1
    rw [h4' j (by omega), ad_zero] at e2
    show ad (prd s q y j) (ng (prd s q' y j)) = z0
    rw [← e1, ← e2, ad_neg]
  by_cases hd : sbp q q' = pz
  · have hq := sbp_eq_pz hd
    subst hq
    exact ⟨rfl, adp_cancel (h2.symm.trans h2')⟩
  · obtain ⟨a, ha⟩ := isdg_pos (Bd_sbp hn hn') hd
    exact absurd (hz (a + b) (by omega)) ((prd_dg ha h3).2.2 (by omega))
theorem dv_ex {k : Nat} (s : Int) (x y : Pl k) : ∃ qr : Pl k × Pl k, IsDv s x y qr.1 qr.2 ∨ ((¬ ∃ q r, IsDv s x y q r) ∧ qr = (pz, x)) := by
  by_cases h : ∃ q r, IsDv s x y q r
  · obtain ⟨q, r, h⟩ := h
    exact ⟨(q, r), Or.inl h⟩
  · exact ⟨(pz, x), Or.inr ⟨h, rfl⟩⟩
/-- the quotient -/
noncomputable def dq {k : Nat} (s : Int) (x y : Pl k) : Pl k := (Classical.choose (dv_ex s x y)).1
/-- what is left -/
noncomputable def dr {k : Nat} (s : Int) (x y : Pl k) : Pl k := (Classical.choose (dv_ex s x y)).2
theorem dv_eq {k : Nat} {s : Int} {x y q r : Pl k} (h : IsDv s x y q r) : dq s x y = q ∧ dr s x y = r := by
  rcases Classical.choose_spec (dv_ex s x y) with e | e
  · exact IsDv.uniq e h
  · exact absurd ⟨q, r, h⟩ e.1
theorem dv_pz {k : Nat} (s : Int) (x : Pl k) : dq s x pz = pz ∧ dr s x pz = x := by
  rcases Classical.choose_spec (dv_ex s x (pz : Pl k)) with e | e
  · obtain ⟨_, _, b, hb, _⟩ := e
    exact absurd rfl (hb.2.2 (by omega))
  · unfold dq dr
    rw [e.2]
    exact ⟨rfl, rfl⟩
theorem mm_sg {k : Nat} (b : Nat) (a : El k) : sg b (sgI (-(b : Int)) a) = a := by
  unfold sgI
  rw [← sg_sg, ← sg_mod]
  have h0 : 0 ≤ (-(b : Int)) % (mm k : Int) := Int.emod_nonneg _ (by have := mm_pos k; omega)
  have h1 : (b + ((-(b : Int)) % (mm k : Int)).toNat) % mm k = 0 := by
    apply Int.ofNat.inj
    show (((b + ((-(b : Int)) % (mm k : Int)).toNat) % mm k : Nat) : Int) = ((0 : Nat) : Int)
    rw [Int.natCast_emod, Int.natCast_add, Int.toNat_of_nonneg h0, Int.add_emod_emod, Int.add_right_neg]
    rfl
  rw [h1, sg_0]
/-- on the way: q stands above i, r up to i and the divisor's degree -/
def DI {k : Nat} (s : Int) (x y : Pl k) (b : Nat) (q r : Pl k) (i : Int) : Prop := x = adp (prd s q y) r ∧ Bd q 17 ∧ (∀ j : Nat, (j : Int) ≤ i → q j = z0) ∧ ∀ j : Nat, i + b < (j : Int) → r j = z0
theorem DI.start {k : Nat} {s : Int} {x y : Pl k} {b : Nat} {i : Int} (h : ∀ j : Nat, i + b < (j : Int) → x j = z0) : DI s x y b pz x i := ⟨by rw [prd_pz, pz_adp], fun _ _ => rfl, fun _ _ => rfl, h⟩
theorem DI.skip {k : Nat} {s : Int} {x y : Pl k} {b : Nat} {q r : Pl k} {i : Int} (h : DI s x y b q r i) (h0 : 0 ≤ i) (hz : cf r (i + b) = z0) : DI s x y b q r (i - 1) := by
  refine ⟨h.1, h.2.1, fun j hj => h.2.2.1 j (by omega), fun j hj => ?_⟩
  by_cases e : (j : Int) = i + b
  · rw [← hz]
    unfold cf
    rw [if_pos (by omega), ← e]
    rfl
  · exact h.2.2.2 j (by omega)
theorem DI.done {k : Nat} {s : Int} {x y : Pl k} {b : Nat} {q r : Pl k} {i : Int} (h : DI s x y b q r i) (hi : i < 0) (hy : IsDg y (b : Int)) : IsDv s x y q r := ⟨⟨17, h.2.1⟩, h.1, b, hy, fun j hj => h.2.2.2 j (by omega)⟩
theorem up1_bd' {k : Nat} {f : Pl k} {n : Nat} (h : Bd f n) {j : Nat} (hj : j < n) (v : El k) : Bd (up1 f j v) n := fun i hi => by unfold up1; rw [if_neg (by omega)]; exact h i hi
theorem DI.gen {k : Nat} {s : Int} {x y : Pl k} {b : Nat} {q r : Pl k} {i : Int} {c : El k} (h : DI s x y b q r i) (h0 : 0 ≤ i) (h1 : i < 17) (hc : ∀ j : Nat, i + b ≤ (j : Int) → prd s (mono c i.toNat) y j = r j) : DI s x y b (up1 q i.toNat c) (sbp r (prd s (mono c i.toNat) y)) (i - 1) := by
  have e : up1 q i.toNat c = adp q (mono c i.toNat) := up1_mono (h.2.2.1 _ (by omega)) c
  refine ⟨?_, up1_bd' h.2.1 (by omega) c, fun j hj => ?_, fun j hj => ?_⟩
  · rw [e, prd_adp, adp_assoc, adp_sbp]
    exact h.1
  · unfold up1
    rw [if_neg (by omega)]
    exact h.2.2.1 j (by omega)
  · show ad (r j) (ng (prd s (mono c i.toNat) y j)) = z0
    rw [hc j (by omega), ad_neg]
theorem cf_toNat {k : Nat} {f : Pl k} {i : Int} (h : 0 ≤ i) : cf f i = f i.toNat := by unfold cf; rw [if_pos h]
theorem DI.ahead {k : Nat} {x y : Pl k} {b : Nat} {q r : Pl k} {i : Int} (h : DI 0 x y b q r i) (h0 : 0 ≤ i) (h1 : i < 17) (hy : IsDg y (b : Int)) {c : El k} (hc : c = ml (cf r (i + b)) (iv (sg i.toNat (y b)))) :
    DI 0 x y b (up1 q i.toNat c) (sbp r (mlp (mono c i.toNat) y)) (i - 1) := by
  have hb : y b ≠ z0 := hy.2.2 (by omega)
  refine h.gen h0 h1 (c := c) fun j hj => ?_
  show mlp (mono c i.toNat) y j = r j
  rw [mono_mlp, if_pos (by omega)]
  by_cases e : (j : Int) = i + b
  · have e1 : j - i.toNat = b := by omega
    have e2 : r j = cf r (i + b) := by rw [cf_toNat (by omega), ← e]; rfl
    rw [e1, e2, hc, ml_assoc, ml_comm (iv _), ml_iv _ (sg_ne hb), ml_one]
  · rw [h.2.2.2 j (by omega), hy.2.1 _ (by omega), sg_z, ml_zero]
theorem DI.behind {k : Nat} {s : Int} (hs : s ≠ 0) {x y : Pl k} {b : Nat} {q r : Pl k} {i : Int} (h : DI s x y b q r i) (h0 : 0 ≤ i) (h1 : i < 17) (hy : IsDg y (b : Int)) {c : El k} (hc : c = sgI (-(b : Int)) (ml (cf r (i + b)) (iv (y b)))) :
    DI s x y b (up1 q i.toNat c) (sbp r (mlp y (mono c i.toNat))) (i - 1) := by
  have hb : y b ≠ z0 := hy.2.2 (by omega)
  have ep : ∀ f : Pl k, prd s f y = mlp y f := fun f => by unfold prd; rw [if_neg hs]
  rw [← ep]
  refine h.gen h0 h1 (c := c) fun j hj => ?_
  rw [ep, mlp_mono, if_pos (by omega)]
  by_cases e : (j : Int) = i + b
  · have e1 : j - i.toNat = b := by omega
    have e2 : r j = cf r (i + b) := by rw [cf_toNat (by omega), ← e]; rfl
    rw [e1, e2, hc, mm_sg, ml_comm, ml_assoc, ml_comm (iv _), ml_iv _ hb, ml_one]
  · rw [h.2.2.2 j (by omega), hy.2.1 _ (by omega), zero_ml]
theorem ld_at {k : Nat} {f : Pl k} {b : Nat} (h : dg f = (b : Int)) : ld f = f b := by unfold ld; rw [h, cf_nat]
