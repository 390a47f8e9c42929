/-! the ways that the class lists are all, in ORDER */ -/
theorem el_dig0 {k : Nat} : ∀ (s : Fin (mm k)) (x : Fin (qq k)) (u : Fin (pp k)), x.val < pp k ^ s.val → el k (x.val + u.val * pp k ^ s.val) = ad (el k x.val) (ml (el k u.val) (el k (unt k s.val))) := match k with | 0 => by decide +kernel | 1 => by decide +kernel | 2 => by decide +kernel | _ + 3 => (by decide +kernel : ∀ (s : Fin (mm 3)) (x : Fin (qq 3)) (u : Fin (pp 3)), x.val < pp 3 ^ s.val → el 3 (x.val + u.val * pp 3 ^ s.val) = ad (el 3 x.val) (ml (el 3 u.val) (el 3 (unt 3 s.val))))
theorem sg_pp0 {k : Nat} : ∀ (j : Fin (mm k)) (c : Fin (pp k)), sg j.val (el k c.val) = el k c.val := match k with | 0 => by decide +kernel | 1 => by decide +kernel | 2 => by decide +kernel | _ + 3 => (by decide +kernel : ∀ (j : Fin (mm 3)) (c : Fin (pp 3)), sg j.val (el 3 c.val) = el 3 c.val)
theorem dgt_sum0 {k : Nat} : ∀ (x : El k), nbS (pp k) (fun s => dgt x s) 0 (mm k) = x.val := match k with | 0 => by decide +kernel | 1 => by decide +kernel | 2 => by decide +kernel | _ + 3 => (by decide +kernel : ∀ (x : El 3), nbS (pp 3) (fun s => dgt x s) 0 (mm 3) = x.val)
theorem sg_pp {k : Nat} (j : Nat) {c : Nat} (hc : c < pp k) : sg j (el k c) = el k c := by
  rw [← sg_mod]
  exact sg_pp0 ⟨j % mm k, Nat.mod_lt _ (mm_pos k)⟩ ⟨c, hc⟩
theorem mlp_sclp {k c : Nat} (hc : c < pp k) (f g : Pl k) : mlp f (scl (el k c) g) = scl (el k c) (mlp f g) := by
  have e : scb f (el k c) = scl (el k c) f := by
    funext n
    show ml (f n) (sg n (el k c)) = ml (el k c) (f n)
    rw [sg_pp n hc, ml_comm]
  rw [← cst_mlp, ← mlp_assoc, mlp_cst, e, scl_mlp]
theorem dr_lin {k c n m m' : Nat} {x y B : Pl k} (hB : IsDg B (n : Int)) (hx : Bd x m) (hy : Bd y m') : dr 0 (adp x (scl (el k c) y)) B = adp (dr 0 x B) (scl (el k c) (dr 0 y B)) := by
  obtain ⟨⟨a, ha⟩, e1_, b, hb, r1⟩ := dv_is 0 hB hx
  obtain ⟨⟨a', ha'⟩, e2_, b', hb', r2⟩ := dv_is 0 hB hy
  have eb : (b : Int) = (b' : Int) := hb.uniq hb'
  have f1 : x = adp (mlp (dq 0 x B) B) (dr 0 x B) := e1_
  have f2 : y = adp (mlp (dq 0 y B) B) (dr 0 y B) := e2_
  refine (dv_eq (s := 0) (q := adp (dq 0 x B) (scl (el k c) (dq 0 y B))) ⟨⟨a + a', ?_⟩, ?_, b, hb, ?_⟩).2
  · exact Bd_adp (ha.mono (by omega)) (fun j hj => by show ml _ (dq 0 y B j) = z0; rw [ha' j (by omega), ml_zero])
  · show adp x (scl (el k c) y) = adp (mlp (adp (dq 0 x B) (scl (el k c) (dq 0 y B))) B) (adp (dr 0 x B) (scl (el k c) (dr 0 y B)))
    have e3 : mlp (adp (dq 0 x B) (scl (el k c) (dq 0 y B))) B = adp (mlp (dq 0 x B) B) (scl (el k c) (mlp (dq 0 y B) B)) := by rw [adp_mlp, scl_mlp]
    rw [e3, adp4, ← scl_adp, ← f1, ← f2]
  · intro j hj
    show ad (dr 0 x B j) (ml _ (dr 0 y B j)) = z0
    rw [r1 j hj, r2 j (by omega), ml_zero, ad_zero]
theorem Uni_bd {k l : Nat} : Bd (Uni (k := k) l) (l / mm k + 1) := mono_bd _ _
theorem lcb_bd2 {k : Nat} {u : Nat → Nat} : ∀ o : Nat, ∃ m : Nat, Bd (lcb u (Uni (k := k)) o) m
  | 0 => ⟨0, fun _ _ => rfl⟩
  | o + 1 => by
    obtain ⟨m, hm⟩ := lcb_bd2 (k := k) (u := u) o
    have hU := Uni_bd (k := k) (l := o)
    generalize o / mm k = e at hU
    refine ⟨m + (e + 1), fun j hj => ?_⟩
    show ad (lcb u Uni o j) (ml _ (Uni o j)) = z0
    rw [hm j (by omega), hU j (by omega), ml_zero, ad_zero]
theorem dr_pz {k n : Nat} {B : Pl k} (hB : IsDg B (n : Int)) : dr 0 (pz : Pl k) B = pz := (mdv (n := 0) (q := pz) (m := 0) hB (fun _ _ => rfl) (pz_mlp _).symm).2
/-- a sum of the ways' products is the product of their sum -/
theorem lcb_XL {k n m : Nat} {A B : Pl k} (hA : Bd A m) (hB : IsDg B (n : Int)) {u : Nat → Nat} (hu : ∀ j, u j < pp k) : ∀ o : Nat, lcb u (XL A B) o = dr 0 (mlp A (lcb u Uni o)) B
  | 0 => by
    show pz = dr 0 (mlp A pz) B
    rw [mlp_pz, dr_pz hB]
  | o + 1 => by
    obtain ⟨m', hm'⟩ := lcb_bd2 (k := k) (u := u) o
    show adp (lcb u (XL A B) o) (scl _ (XL A B o)) = dr 0 (mlp A (adp (lcb u Uni o) (scl (el k (u o)) (Uni o)))) B
    rw [mlp_adp, mlp_sclp (hu o), dr_lin hB (Bd_mlp hA hm') (Bd_mlp hA Uni_bd), lcb_XL hA hB hu o]
    rfl
theorem nbS_congr {p : Nat} {u v : Nat → Nat} {b c : Nat} : ∀ {s : Nat}, (∀ j, j < s → u (b + j) = v (c + j)) → nbS p u b s = nbS p v c s
  | 0, _ => rfl
  | s + 1, h => by
    show nbS p u b s + u (b + s) * p ^ s = nbS p v c s + v (c + s) * p ^ s
    rw [nbS_congr (fun j hj => h j (by omega)), h s (by omega)]
theorem nbS_add {p : Nat} {u : Nat → Nat} {b s : Nat} : ∀ t : Nat, nbS p u b (s + t) = nbS p u b s + nbS p u (b + s) t * p ^ s
  | 0 => by show nbS p u b s = nbS p u b s + 0 * _; rw [Nat.zero_mul, Nat.add_zero]
  | t + 1 => by
    show nbS p u b (s + t) + u (b + (s + t)) * p ^ (s + t) = nbS p u b s + (nbS p u (b + s) t + u (b + s + t) * p ^ t) * p ^ s
    rw [nbS_add t, Nat.add_mul, Nat.mul_assoc, ← Nat.pow_add, Nat.add_comm t s, ← Nat.add_assoc b s t, Nat.add_assoc]
theorem pw_qq {k s : Nat} (h : s + 1 ≤ mm k) : pp k ^ s ≤ qq k := by
  rw [qq_pm]
  exact Nat.pow_le_pow_right (by have := pp_ge k; omega) (by omega)
theorem lcb_uni {k : Nat} {u : Nat → Nat} (hu : ∀ j, u j < pp k) : ∀ n s : Nat, s ≤ mm k → lcb u (Uni (k := k)) (n * mm k + s) = up1 (bsU n u) n (el k (nbS (pp k) u (n * mm k) s)) := by
  have h0 : ∀ n : Nat, up1 (bsU (k := k) n u) n (el k 0) = bsU n u := fun n => by
    funext j
    unfold up1
    by_cases e : j = n
    · rw [if_pos e, e]
      exact (if_neg (by omega)).symm
    · rw [if_neg e]
  intro n
  induction n with
  | zero =>
    intro s
    induction s with
    | zero =>
      intro _
      rw [show 0 * mm k + 0 = 0 by omega]
      show pz = up1 (bsU 0 u) 0 (el k 0)
      rw [h0, bsU_0]
    | succ s ih =>
      intro hs
      have hl := nbS_lt (b := 0 * mm k) hu s
      have hq : pp k ^ s ≤ qq k := pw_qq hs
      show adp (lcb u Uni (0 * mm k + s)) (scl (el k (u (0 * mm k + s))) (Uni (0 * mm k + s))) = _
      rw [ih (by omega), Uni_at (by omega)]
      have e := el_dig0 (k := k) ⟨s, by omega⟩ ⟨nbS (pp k) u (0 * mm k) s, by omega⟩ ⟨u (0 * mm k + s), hu _⟩ hl
      dsimp only at e
      funext j
      show ad (up1 (bsU 0 u) 0 _ j) (ml _ (up1 (tpw 0) 0 _ j)) = up1 (bsU 0 u) 0 (el k (nbS (pp k) u (0 * mm k) s + u (0 * mm k + s) * pp k ^ s)) j
      unfold up1
      by_cases q : j = 0
      · rw [if_pos q, if_pos q, if_pos q, e]
      · rw [if_neg q, if_neg q, if_neg q]
        show ad _ (ml _ (if j = 0 then e1 else z0)) = _
        rw [if_neg q, ml_zero, ad_zero]
  | succ n ihn =>
    intro s
    induction s with
    | zero =>
      intro _
      have e := ihn (mm k) (Nat.le_refl _)
      rw [bsU_up] at e
      show lcb u Uni ((n + 1) * mm k + 0) = up1 (bsU (n + 1) u) (n + 1) (el k 0)
      rw [h0, show (n + 1) * mm k + 0 = n * mm k + mm k by rw [Nat.add_mul, Nat.one_mul]; rfl]
      exact e
    | succ s ih =>
      intro hs
      have hl := nbS_lt (b := (n + 1) * mm k) hu s
      have hq : pp k ^ s ≤ qq k := pw_qq hs
      show adp (lcb u Uni ((n + 1) * mm k + s)) (scl (el k (u ((n + 1) * mm k + s))) (Uni ((n + 1) * mm k + s))) = _
      rw [ih (by omega), Uni_at (by omega)]
      have e := el_dig0 (k := k) ⟨s, by omega⟩ ⟨nbS (pp k) u ((n + 1) * mm k) s, by omega⟩ ⟨u ((n + 1) * mm k + s), hu _⟩ hl
      dsimp only at e
      funext j
      show ad (up1 (bsU (n + 1) u) (n + 1) _ j) (ml _ (up1 (tpw (n + 1)) (n + 1) _ j)) = up1 (bsU (n + 1) u) (n + 1) (el k (nbS (pp k) u ((n + 1) * mm k) s + u ((n + 1) * mm k + s) * pp k ^ s)) j
      unfold up1
      by_cases q : j = n + 1
      · rw [if_pos q, if_pos q, if_pos q, e]
      · rw [if_neg q, if_neg q, if_neg q]
        show ad _ (ml _ (if j = n + 1 then e1 else z0)) = _
        rw [if_neg q, ml_zero, ad_zero]
theorem bsU_lcb {k n : Nat} {u : Nat → Nat} (hu : ∀ j, u j < pp k) : lcb u (Uni (k := k)) (n * mm k) = bsU n u := by
  have e := lcb_uni hu n 0 (by omega)
  rw [Nat.add_zero] at e
  rw [e]
  funext j
  unfold up1
  by_cases q : j = n
  · rw [if_pos q, q]
    exact (if_neg (by omega)).symm
  · rw [if_neg q]
theorem bsU_congr {k n : Nat} {u v : Nat → Nat} (h : ∀ l, l < n * mm k → u l = v l) : bsU (k := k) n u = bsU n v := by
  funext j
  show (if j < n then _ else _) = (if j < n then _ else _)
  by_cases q : j < n
  · rw [if_pos q, if_pos q]
    have h2 : (j + 1) * mm k ≤ n * mm k := Nat.mul_le_mul_right _ q
    rw [Nat.add_mul, Nat.one_mul] at h2
    rw [nbS_congr (v := v) (c := j * mm k) (fun s hs => h _ (by omega))]
  · rw [if_neg q, if_neg q]
/-- the digits of a polynomial -/
def dgs {k : Nat} (U : Pl k) (l : Nat) : Nat := dgt (U (l / mm k)) (l % mm k)
theorem dgs_lt {k : Nat} (U : Pl k) (l : Nat) : dgs U l < pp k := Nat.mod_lt _ (by have := pp_ge k; omega)
theorem bsU_dgs {k n : Nat} {U : Pl k} (h : Bd U n) : bsU n (dgs U) = U := by
  funext j
  show (if j < n then _ else _) = _
  by_cases q : j < n
  · rw [if_pos q]
    have e : nbS (pp k) (dgs U) (j * mm k) (mm k) = nbS (pp k) (fun s => dgt (U j) s) 0 (mm k) := nbS_congr (fun s hs => by
      show dgt (U ((j * mm k + s) / mm k)) ((j * mm k + s) % mm k) = dgt (U j) (0 + s)
      rw [Nat.mul_comm, Nat.mul_add_div (mm_pos k), Nat.div_eq_of_lt hs, Nat.add_zero, Nat.mul_add_mod, Nat.mod_eq_of_lt hs, Nat.zero_add])
    rw [e, dgt_sum0, el_val]
  · rw [if_neg q, h j (by omega)]
/-- its number is that of its digits -/
theorem cdp_bsU {k : Nat} {u : Nat → Nat} (hu : ∀ j, u j < pp k) : ∀ n : Nat, cdp (bsU (k := k) n u) n = nbS (pp k) u 0 (n * mm k)
  | 0 => by rw [Nat.zero_mul]; rfl
  | n + 1 => by
    have e1_ : cdp (bsU (k := k) (n + 1) u) n = cdp (bsU (k := k) n u) n := cdp_congr (fun j hj => by
      show (if j < n + 1 then _ else _) = (if j < n then _ else _)
      rw [if_pos (by omega), if_pos hj])
    have e2_ : (bsU (k := k) (n + 1) u n).val = nbS (pp k) u (n * mm k) (mm k) := by
      show (if n < n + 1 then el k _ else z0).val = _
      rw [if_pos (by omega)]
      refine Nat.mod_eq_of_lt ?_
      have := nbS_lt (b := n * mm k) hu (mm k)
      rw [← qq_pm] at this
      exact this
    show cdp (bsU (k := k) (n + 1) u) n + (bsU (k := k) (n + 1) u n).val * unq k n = _
    rw [e1_, e2_, cdp_bsU hu n, Nat.add_mul, Nat.one_mul, nbS_add, Nat.zero_add]
    unfold unq
    rw [qq_pm, ← Nat.pow_mul, Nat.mul_comm (mm k) n]
theorem nbS_less {p N s : Nat} {u v : Nat → Nat} (hu : ∀ j, u j < p) (hs : s < N) (h : u s < v s) (he : ∀ l, s < l → l < N → u l = v l) : nbS p u 0 N < nbS p v 0 N := by
  have a := nbS_add (p := p) (u := u) (b := 0) (s := s + 1) (N - (s + 1))
  have b := nbS_add (p := p) (u := v) (b := 0) (s := s + 1) (N - (s + 1))
  rw [show s + 1 + (N - (s + 1)) = N by omega] at a b
  have c : nbS p u (0 + (s + 1)) (N - (s + 1)) = nbS p v (0 + (s + 1)) (N - (s + 1)) := nbS_congr (fun j hj => he _ (by omega) (by omega))
  rw [a, b, c]
  have h1 := nbS_lt (b := 0) hu s
  have h2 : (u s + 1) * p ^ s ≤ v s * p ^ s := Nat.mul_le_mul_right _ h
  rw [Nat.add_mul, Nat.one_mul] at h2
  show nbS p u 0 s + u (0 + s) * p ^ s + _ < nbS p v 0 s + v (0 + s) * p ^ s + _
  rw [Nat.zero_add]
  omega
theorem top_diff {a b : Nat → Nat} : ∀ R : Nat, (∃ r : Nat, r < R ∧ a r ≠ b r) → ∃ r : Nat, r < R ∧ a r ≠ b r ∧ ∀ s : Nat, r < s → s < R → a s = b s
  | 0, h => by obtain ⟨r, hr, _⟩ := h; omega
  | R + 1, h => by
    by_cases e : a R = b R
    · obtain ⟨r, hr, hn⟩ := h
      have hr2 : r < R := by
        by_cases q : r = R
        · rw [q] at hn; exact absurd e hn
        · omega
      obtain ⟨r', h1, h2, h3⟩ := top_diff R ⟨r, hr2, hn⟩
      refine ⟨r', by omega, h2, fun s hs hs2 => ?_⟩
      by_cases q : s = R
      · rw [q]; exact e
      · exact h3 s hs (by omega)
    · exact ⟨R, by omega, e, fun s hs hs2 => by omega⟩
theorem nbS_dgn {p t : Nat} : ∀ R : Nat, nbS p (dgn p t) 0 R = t % p ^ R
  | 0 => by show 0 = t % p ^ 0; rw [Nat.pow_zero, Nat.mod_one]
  | R + 1 => by
    show nbS p (dgn p t) 0 R + dgn p t (0 + R) * p ^ R = _
    rw [nbS_dgn R, Nat.zero_add, Nat.mod_pow_succ, Nat.mul_comm]
    rfl
theorem dgn_nbS {p : Nat} (hp : 2 ≤ p) {u : Nat → Nat} (hu : ∀ j, u j < p) : ∀ R r : Nat, r < R → dgn p (nbS p u 0 R) r = u r
  | 0, r, h => by omega
  | R + 1, r, h => by
    have h0 : ∀ n, 0 < p ^ n := fun n => Nat.pow_pos (by omega)
    show (nbS p u 0 R + u (0 + R) * p ^ R) / p ^ r % p = _
    rw [Nat.zero_add]
    by_cases e : r = R
    · have h1 := nbS_lt (b := 0) hu R
      rw [e, Nat.add_mul_div_right _ _ (h0 R), Nat.div_eq_of_lt h1, Nat.zero_add]
      exact Nat.mod_eq_of_lt (hu R)
    · have ih := dgn_nbS hp hu R r (by omega)
      have e2 : u R * p ^ R = (u R * p ^ (R - r - 1) * p) * p ^ r := by
        rw [Nat.mul_assoc, Nat.mul_assoc, ← Nat.pow_succ', ← Nat.pow_add, show R - r - 1 + (r + 1) = R by omega]
      rw [e2, Nat.add_mul_div_right _ _ (h0 r), Nat.add_mul_mod_self_right]
      exact ih
