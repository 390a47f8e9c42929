/-! likes: how many are made is how many are like it */ -/
theorem fw_ne {k n : Nat} {A B : Pl k} : fwI A B n ≠ -1 ↔ ∃ a : Nat, 1 ≤ a ∧ a < unq k n ∧ wyP A B n a := by
  constructor
  · intro h
    apply Classical.byContradiction
    intro q
    exact h (fwI_none (fun a a1 a2 w => q ⟨a, a1, a2, w⟩))
  · rintro ⟨a, a1, a2, w⟩
    rcases fsN_spec (q := fun c => wyP A B n (c + 1)) (n := unq k n - 1) with ⟨h1, _⟩ | ⟨_, h2⟩
    · have h1' : fwN A B n < unq k n - 1 := h1
      unfold fwI
      rw [if_pos h1']
      omega
    · exact absurd (show wyP A B n (a - 1 + 1) by rw [show a - 1 + 1 = a by omega]; exact w) (h2 (a - 1) (by omega))
theorem cop_ne {k n : Nat} {V A : Pl k} (hA : IsDg A (n : Int)) (n1 : 1 ≤ n) (h : Cop V A) : V ≠ pz := fun q => by
  rw [q] at h
  have w := (Cop_pz (Bd_is hA)).mp (Cop_comm.mp h)
  have := hA.uniq w
  omega
/-- like it: a V takes B into R A -/
def LK {k : Nat} (A B : Pl k) (n : Nat) : Prop := ∃ V : Pl k, Bd V n ∧ InL (mlp B V) A ∧ Cop V A
theorem fw_LK {k n : Nat} {A B : Pl k} (hA : IsDg A (n : Int)) (hB : IsDg B (n : Int)) (n1 : 1 ≤ n) (n4 : n ≤ 4) : fwI A B n ≠ -1 ↔ LK A B n := by
  have hB9 : Bd B 9 := (Bd_is hB).mono (by omega)
  rw [fw_ne]
  constructor
  · rintro ⟨a, a1, a2, w⟩
    have w2 := (wyP_cop hB9 (by omega)).mp w
    exact like_sym hA hB bnp_bd (InL.of hB (Bd_mlp (Bd_is hA) bnp_bd) w2.1) w2.2
  · rintro ⟨V, v1, v2, v3⟩
    obtain ⟨U, u1, u2, u3⟩ := like_sym hB hA v1 v2 v3
    have e := bnp_cdp u1
    have l := cdp_lt U n
    refine ⟨cdp U n, ?_, l, (wyP_cop hB9 (by omega)).mpr ⟨by rw [← e]; exact u2.lf hB, by rw [← e]; exact u3⟩⟩
    by_cases q : cdp U n = 0
    · exfalso
      refine cop_ne hB n1 u3 ?_
      rw [e, q]
      have e2 : (pz : Pl k) = bnp n (cdp (pz : Pl k) n) := bnp_cdp (fun _ _ => rfl)
      rw [cdp_pz] at e2
      exact e2.symm
    · omega
theorem scl_b {k n : Nat} {c : El k} {f : Pl k} (h : Bd f n) : Bd (scl c f) n := fun j hj => by show ml c (f j) = z0; rw [h j hj, ml_zero]
theorem mono_scl {k : Nat} (b : El k) (j : Nat) : mono b j = scl b (mono e1 j) := by
  funext i
  show (if i = j then b else z0) = ml b (if i = j then e1 else z0)
  split
  · rw [ml_one]
  · rw [ml_zero]
theorem mono_tt {k : Nat} (f : Pl k) : mlp (mono e1 2) f = mlp (mono e1 1) (mlp (mono e1 1) f) := by
  rw [← mlp_assoc]
  congr 1
  funext j
  rw [mono_mlp]
  show (if j = 2 then e1 else z0) = if 1 ≤ j then ml e1 (sg 1 (if j - 1 = 1 then e1 else z0)) else z0
  by_cases h : j = 2
  · rw [if_pos h, if_pos (by omega), if_pos (by omega), sg_e, one_ml]
  · rw [if_neg h]
    by_cases h2 : 1 ≤ j
    · rw [if_pos h2, if_neg (by omega), sg_z, ml_zero]
    · rw [if_neg h2]
theorem InL.scl {k : Nat} {x B : Pl k} (c : El k) (h : InL x B) : InL (scl c x) B := by
  rw [← cst_mlp]
  exact h.mul (m := 1) (cst c) (fun j hj => if_neg (by omega))
theorem sub_adp {k : Nat} (a b c d : Pl k) : sbp (adp a b) (adp c d) = adp (sbp a c) (sbp b d) := by
  funext j
  show ad (ad (a j) (b j)) (ng (ad (c j) (d j))) = ad (ad (a j) (ng (c j))) (ad (b j) (ng (d j)))
  rw [ng_ad, ad4]
theorem scl_sbp {k : Nat} (c : El k) (f g : Pl k) : scl c (sbp f g) = sbp (scl c f) (scl c g) := by
  funext j
  show ml c (ad (f j) (ng (g j))) = ad (ml c (f j)) (ng (ml c (g j)))
  rw [ml_ad, ml_ng]
theorem Bd_t {k n : Nat} {V : Pl k} (h : Bd V n) : Bd (mlp (mono e1 1) V) (2 + n) := Bd_mlp (mono_bd _ _) h
/-- what A leaves of (b1 t + b0) V -/
theorem lin_V {k n : Nat} {A V : Pl k} (hA : IsDg A (n : Int)) (hV : Bd V n) (b1 b0 : El k) : InL (sbp (mlp (adp (mono b1 1) (cst b0)) V) (adp (scl b1 (sT A V)) (scl b0 V))) A := by
  have e : mlp (adp (mono b1 1) (cst b0)) V = adp (scl b1 (mlp (mono e1 1) V)) (scl b0 V) := by rw [adp_mlp, mono_scl, scl_mlp, cst_mlp]
  rw [e, sub_adp, sbp_self, adp_pz, ← scl_sbp]
  exact (dr_sub hA (Bd_t hV)).scl b1
theorem quad_V {k n : Nat} {A V : Pl k} (hA : IsDg A (n : Int)) (hV : Bd V n) (b1 b0 : El k) : InL (sbp (mlp (adp (mono e1 2) (adp (mono b1 1) (cst b0))) V) (adp (sT A (sT A V)) (adp (scl b1 (sT A V)) (scl b0 V)))) A := by
  have hs : Bd (sT A V) n := dr_bd 0 hA (Bd_t hV)
  rw [adp_mlp, sub_adp]
  refine InL.add ?_ (lin_V hA hV b1 b0)
  have e : sbp (mlp (mono e1 2) V) (sT A (sT A V)) = adp (mlp (mono e1 1) (sbp (mlp (mono e1 1) V) (sT A V))) (sbp (mlp (mono e1 1) (sT A V)) (sT A (sT A V))) := by
    rw [mono_tt, mlp_sbp]
    generalize mlp (mono e1 1) (mlp (mono e1 1) V) = f
    generalize mlp (mono e1 1) (sT A V) = g
    funext j
    show ad (f j) (ng (sT A (sT A V) j)) = ad (ad (f j) (ng (g j))) (ad (g j) (ng (sT A (sT A V) j)))
    rw [ad_assoc, ← ad_assoc (ng (g j)), ad_comm (ng (g j)), ad_neg, zero_ad]
  rw [e]
  exact ((dr_sub hA (Bd_t hV)).mul _ (mono_bd e1 1)).add (dr_sub hA (Bd_t hs))
theorem in_iff {k n m : Nat} {A x r : Pl k} (hA : IsDg A (n : Int)) (hx : Bd x m) (hr : Bd r n) (h : InL (sbp x r) A) : InL x A ↔ r = pz := by
  have e := dr_of (m := m) hA hr h
  constructor
  · intro q
    rw [← e, q.lf hA]
  · intro q
    exact InL.of hA hx (by rw [e, q])
theorem mnp_1 {k c : Nat} : mnp (k := k) 1 c = adp (mono e1 1) (cst (el k (dgn (qq k) c 0))) := by
  funext j
  show (if j = 1 then e1 else if j < 1 then el k (dgn (qq k) c j) else z0) = ad (if j = 1 then e1 else z0) (if j = 0 then el k (dgn (qq k) c 0) else z0)
  by_cases h : j = 1
  · rw [if_pos h, if_pos h, if_neg (by omega), ad_zero]
  · rw [if_neg h, if_neg h, zero_ad]
    by_cases h2 : j = 0
    · rw [if_pos (by omega), if_pos h2, h2]
    · rw [if_neg (by omega), if_neg h2]
theorem mnp_2 {k c : Nat} : mnp (k := k) 2 c = adp (mono e1 2) (adp (mono (el k (dgn (qq k) c 1)) 1) (cst (el k (dgn (qq k) c 0)))) := by
  funext j
  show (if j = 2 then e1 else if j < 2 then el k (dgn (qq k) c j) else z0) = ad (if j = 2 then e1 else z0) (ad (if j = 1 then el k (dgn (qq k) c 1) else z0) (if j = 0 then el k (dgn (qq k) c 0) else z0))
  by_cases h : j = 2
  · rw [if_pos h, if_pos h, if_neg (by omega), if_neg (by omega), ad_zero, ad_zero]
  · rw [if_neg h, if_neg h, zero_ad]
    by_cases h1 : j = 1
    · rw [if_pos (by omega), if_pos h1, if_neg (by omega), ad_zero, h1]
    · rw [if_neg h1, zero_ad]
      by_cases h2 : j = 0
      · rw [if_pos (by omega), if_pos h2, h2]
      · rw [if_neg (by omega), if_neg h2]
/-! crossing -/
theorem crs_add {k : Nat} (a b a' b' c d : El k) : crs (ad a a') (ad b b') c d = ad (crs a b c d) (crs a' b' c d) := by
  unfold crs
  rw [ad_ml, ad_ml, ng_ad, ad4]
theorem crs_mul {k : Nat} (r a b c d : El k) : crs (ml r a) (ml r b) c d = ml r (crs a b c d) := by
  unfold crs
  rw [ml_assoc, ml_assoc, ml_ad, ml_ng]
theorem crs_self {k : Nat} (a b : El k) : crs a b a b = z0 := by
  unfold crs
  rw [ml_comm b a, ad_neg]
theorem crs_neg {k : Nat} (a b c d : El k) : crs c d a b = ng (crs a b c d) := by
  unfold crs
  rw [ng_ad, ng_ng, ad_comm, ml_comm d a, ml_comm c b]
theorem ng_eq0 {k : Nat} {a b : El k} (h : ad a (ng b) = z0) : a = b := by
  have e := ng_uniq _ _ h
  have e2 := congrArg ng e
  rw [ng_ng, ng_ng] at e2
  exact e2.symm
/-- the two crossings of what solves it -/
theorem crs_solve {k : Nat} {s0 s1 t0 t1 v0 v1 b1 b0 : El k} (h0 : ad t0 (ad (ml b1 s0) (ml b0 v0)) = z0) (h1 : ad t1 (ad (ml b1 s1) (ml b0 v1)) = z0) : crs t0 t1 v0 v1 = ml b1 (crs v0 v1 s0 s1) ∧ crs s0 s1 t0 t1 = ml b0 (crs v0 v1 s0 s1) := by
  have z : ∀ c d : El k, crs (ad t0 (ad (ml b1 s0) (ml b0 v0))) (ad t1 (ad (ml b1 s1) (ml b0 v1))) c d = z0 := fun c d => by
    rw [h0, h1]
    unfold crs
    rw [zero_ml, zero_ml, ng_z, ad_zero]
  have e : ∀ c d : El k, ad (crs t0 t1 c d) (ad (ml b1 (crs s0 s1 c d)) (ml b0 (crs v0 v1 c d))) = z0 := fun c d => by
    have w := z c d
    rw [crs_add, crs_add, crs_mul, crs_mul] at w
    exact w
  constructor
  · have w := e v0 v1
    rw [crs_self, ml_zero, ad_zero, crs_neg v0 v1 s0 s1, ml_ng] at w
    exact ng_eq0 w
  · have w := e s0 s1
    rw [crs_self, ml_zero, zero_ad] at w
    have e2 := ng_uniq _ _ w
    rw [crs_neg t0 t1 s0 s1, ← e2]
/-- and what crosses the two to nothing is nothing -/
theorem crs_zero {k : Nat} {s0 s1 v0 v1 x0 x1 : El k} (hD : crs v0 v1 s0 s1 ≠ z0) (hv : crs x0 x1 v0 v1 = z0) (hs : crs x0 x1 s0 s1 = z0) : x0 = z0 ∧ x1 = z0 := by
  have a := ng_eq0 hv
  have b := ng_eq0 hs
  have key : ∀ x y z w u : El k, ml x y = ml z w → ml (ml x u) y = ml z (ml w u) := fun x y z w u h => by
    rw [ml_assoc, ml_comm u y, ← ml_assoc, h, ml_assoc]
  constructor
  · have e : ml x0 (crs v0 v1 s0 s1) = z0 := by
      unfold crs
      rw [ml_ad, ml_ng, ← ml_assoc, ← ml_assoc, a]
      have e1_ : ml (ml x0 v0) s1 = ml (ml x1 v0) s0 := by
        rw [ml_assoc, ml_comm v0 s1, ← ml_assoc, b, ml_assoc, ml_comm s0 v0, ← ml_assoc]
      rw [e1_, ad_neg]
    rcases ml_eq_zero e with q | q
    · exact q
    · exact absurd q hD
  · have e : ml x1 (crs v0 v1 s0 s1) = z0 := by
      unfold crs
      rw [ml_ad, ml_ng, ← ml_assoc, ← ml_assoc]
      have e1_ : ml (ml x1 v0) s1 = ml (ml x1 v1) s0 := by
        have f1 : ml (ml x1 v1) s0 = ml (ml x0 s1) v1 := by rw [ml_assoc, ml_comm v1 s0, ← ml_assoc, ← b]
        have f2 : ml (ml x0 v1) s1 = ml (ml x0 s1) v1 := by rw [ml_assoc, ml_comm v1 s1, ← ml_assoc]
        rw [← a]
        exact f2.trans f1.symm
      rw [e1_, ad_neg]
    rcases ml_eq_zero e with q | q
    · exact q
    · exact absurd q hD
