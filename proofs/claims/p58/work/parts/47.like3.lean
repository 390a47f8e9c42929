/-! contracts: Likeness, one way behind another */ -/
def dgn (p n r : Nat) : Nat := n / p ^ r % p
theorem dgn_lt {p : Nat} (hp : 2 ≤ p) (n r : Nat) : dgn p n r < p := Nat.mod_lt _ (by omega)
/-- the lower i digits of n are full -/
def Full (p n i : Nat) : Prop := ∃ N : Nat, n + 1 = p ^ i * (N + 1)
theorem Full.zero {p n : Nat} : Full p n 0 := ⟨n, by rw [Nat.pow_zero, Nat.one_mul]⟩
theorem Full.div {p n i N : Nat} (hp : 2 ≤ p) (h : n + 1 = p ^ i * (N + 1)) : n / p ^ i = N := by
  have h0 : 0 < p ^ i := Nat.pow_pos (by omega)
  rw [Nat.mul_add, Nat.mul_one] at h
  rw [show n = (p ^ i - 1) + p ^ i * N by omega, Nat.add_mul_div_left _ _ h0, Nat.div_eq_of_lt (by omega), Nat.zero_add]
theorem Full.next {p n i : Nat} (hp : 2 ≤ p) (h : Full p n i) (hd : dgn p n i + 1 = p) : Full p n (i + 1) := by
  obtain ⟨N, hN⟩ := h
  have e := Full.div hp hN
  unfold dgn at hd
  rw [e] at hd
  have h2 := Nat.div_add_mod N p
  refine ⟨N / p, ?_⟩
  rw [hN, Nat.pow_succ, Nat.mul_assoc]
  congr 1
  rw [Nat.mul_add, Nat.mul_one]
  omega
theorem dgn_inc {p n i : Nat} (hp : 2 ≤ p) (h : Full p n i) (hd : dgn p n i + 1 < p) (r : Nat) : dgn p (n + 1) r = if r = i then dgn p n i + 1 else if r < i then 0 else dgn p n r := by
  obtain ⟨N, hN⟩ := h
  have e := Full.div hp hN
  have hd' : N % p + 1 < p := by
    unfold dgn at hd
    rwa [e] at hd
  have hdi : dgn p n i = N % p := by unfold dgn; rw [e]
  have hdm := Nat.div_add_mod N p
  have hN1 : (N + 1) / p = N / p := by
    rw [show N + 1 = (N % p + 1) + p * (N / p) by omega, Nat.add_mul_div_left _ _ (by omega), Nat.div_eq_of_lt hd', Nat.zero_add]
  by_cases c1 : r = i
  · rw [if_pos c1, c1, hdi]
    unfold dgn
    rw [hN, Nat.mul_div_cancel_left _ (Nat.pow_pos (by omega)), show N + 1 = (N % p + 1) + p * (N / p) by omega, Nat.add_mul_mod_self_left, Nat.mod_eq_of_lt hd']
  · rw [if_neg c1]
    by_cases c2 : r < i
    · rw [if_pos c2]
      unfold dgn
      have e2 : p ^ i = p ^ r * (p * p ^ (i - r - 1)) := by
        rw [← Nat.pow_succ', ← Nat.pow_add]
        congr 1
        omega
      rw [hN, e2, Nat.mul_assoc, Nat.mul_div_cancel_left _ (Nat.pow_pos (by omega)), Nat.mul_assoc, Nat.mul_mod_right]
    · rw [if_neg c2]
      unfold dgn
      have e2 : p ^ r = p ^ i * (p * p ^ (r - i - 1)) := by
        rw [← Nat.pow_succ', ← Nat.pow_add]
        congr 1
        omega
      have a1 : (n + 1) / p ^ r = (N + 1) / p / p ^ (r - i - 1) := by
        rw [e2, ← Nat.div_div_eq_div_mul, ← Nat.div_div_eq_div_mul, hN, Nat.mul_div_cancel_left _ (Nat.pow_pos (by omega))]
      have a2 : n / p ^ r = N / p / p ^ (r - i - 1) := by
        rw [e2, ← Nat.div_div_eq_div_mul, ← Nat.div_div_eq_div_mul, e]
      rw [a1, a2, hN1]
theorem el_inc0 {k : Nat} : ∀ a : Fin (pp k), el k ((a.val + 1) % pp k) = ad (el k a.val) e1 := match k with | 0 => by decide +kernel | 1 => by decide +kernel | 2 => by decide +kernel | _ + 3 => (by decide +kernel : ∀ a : Fin (pp 3), el 3 ((a.val + 1) % pp 3) = ad (el 3 a.val) e1)
theorem lcb_inc {k : Nat} {D : Nat → Nat} {B : Nat → Pl k} {i : Nat} (hD : ∀ j, D j < pp k) : ∀ {R : Nat}, i < R → adp (lcb D B R) (B i) = lcb (fun r => if r = i then (D r + 1) % pp k else D r) B R
  | 0, h => by omega
  | R + 1, h => by
    show adp (adp (lcb D B R) (scl (el k (D R)) (B R))) (B i) = adp (lcb _ B R) (scl (el k (if R = i then (D R + 1) % pp k else D R)) (B R))
    by_cases e : i = R
    · have h1 := el_inc0 (k := k) ⟨D R, hD R⟩
      dsimp only at h1
      rw [if_pos e.symm, lcb_congr (u := fun r => if r = i then (D r + 1) % pp k else D r) (w := D) (fun j hj => by show (if j = i then (D j + 1) % pp k else D j) = D j; rw [if_neg (by omega)]), adp_assoc, h1, adp_scl, scl_e1, e]
    · rw [if_neg (fun q => e q.symm), ← lcb_inc hD (show i < R by omega), adp_assoc, adp_assoc, adp_comm (scl _ _) (B i)]
/-- the way of number t -/
def wyU {k : Nat} (n : Nat) (us : Nat → Nat → Nat) (R t : Nat) : Pl k := lcb (dgn (pp k) t) (fun r => bsU n (us r)) R
theorem lcb_bd {k : Nat} {w : Nat → Nat} {X : Nat → Pl k} {n : Nat} : ∀ {o : Nat}, (∀ j, j < o → Bd (X j) n) → Bd (lcb w X o) n
  | 0, _ => fun _ _ => rfl
  | o + 1, h => fun j hj => by
    show ad (lcb w X o j) (ml _ (X o j)) = z0
    rw [lcb_bd (o := o) (fun j hj => h j (by omega)) j hj, h o (by omega) j hj, ml_zero, ad_zero]
theorem bsU_bd {k n : Nat} {u : Nat → Nat} : Bd (bsU (k := k) n u) n := fun j hj => if_neg (by omega)
theorem wyU_bd {k n : Nat} {us : Nat → Nat → Nat} {R t : Nat} : Bd (wyU (k := k) n us R t) n := lcb_bd fun _ _ => bsU_bd
/-- the digits at hand: those below i are 0 already -/
def dgi (p n i : Nat) (r : Nat) : Nat := if r < i then 0 else dgn p n r
theorem dgi_step {p n i : Nat} (h : dgn p n i + 1 = p) : (fun r => if r = i then (dgi p n i r + 1) % p else dgi p n i r) = dgi p n (i + 1) := by
  funext r
  unfold dgi
  by_cases c : r = i
  · subst c
    rw [if_pos rfl, if_neg (Nat.lt_irrefl r), h, Nat.mod_self, if_pos (by omega)]
  · rw [if_neg c]
    by_cases c2 : r < i
    · rw [if_pos c2, if_pos (by omega)]
    · rw [if_neg c2, if_neg (by omega)]
theorem dgi_last {p n i : Nat} (hp : 2 ≤ p) (hf : Full p n i) (h : dgn p n i + 1 < p) : (fun r => if r = i then (dgi p n i r + 1) % p else dgi p n i r) = dgn p (n + 1) := by
  funext r
  rw [dgn_inc hp hf h r]
  unfold dgi
  by_cases c : r = i
  · rw [if_pos c, if_pos c, c, if_neg (by omega), Nat.mod_eq_of_lt h]
  · rw [if_neg c, if_neg c]
theorem Full.small {p n i : Nat} (hp : 2 ≤ p) (h : Full p n i) : p ^ i ≤ n + 1 := by
  obtain ⟨N, hN⟩ := h
  rw [hN, Nat.mul_add, Nat.mul_one]
  omega
set_option maxRecDepth 100000 in
theorem c_adv {d : Nat} {M : Mem} {k : Nat} {P : Int → Option (Pl k)} (C : CS M k P) {n0 R n : Nat} {us : Nat → Nat → Nat} (hR : R ≤ 16) (r0_ : M 92 10 = (R : Int)) (hB : ∀ r : Nat, r < R → P (104 + 2 * (r : Int)) = some (bsU n0 (us r))) (hD0 : ∀ r : Nat, r < R → M 100 (r : Int) = (dgn (pp k) n r : Int)) (hw0 : P 102 = some (wyU n0 us R n)) (hn : n + 1 < pp k ^ R) : Ct 198 (d + 3) 102 [(1, 92)] M (fun r_ M' => ∃ P' : Int → Option (Pl k), r_ = (4, 0) ∧ CS M' k P' ∧ P' 102 = some (wyU n0 us R (n + 1)) ∧ (∀ r : Nat, r < R → M' 100 (r : Int) = (dgn (pp k) (n + 1) r : Int)) ∧ (∀ p : Int, p ≠ 102 → P' p = P p) ∧ (∀ a : Int, (∀ p : Int, isP p → a ≠ p ∧ a ≠ p + 1) → a ≠ 100 → M' a = M a)) := by
  have hK : cd 102 = k102 := rfl
  have p1_ := pp_I k
  have p2_ := pp_ge k
  show Wp 198 _ 102 0 [(1, 92), (3, 0), (3, 0)] [] M _
  refine w_ic hK rfl ?_
  refine w_is [(1, 92), (0, 0), (3, 0)] hK rfl rfl rfl ?_
  have lp2 : ∀ (n_ : Nat) (i : Nat) (P1 : Int → Option (Pl k)) (D1 : Int → Int) (w2 : AV) (N2 : Mem), 17 - i = n_ → (i ≤ R) → (CS N2 k P1) → (P1 102 = some (lcb (dgi (pp k) n i) (fun r => bsU n0 (us r)) R)) → (Full (pp k) n i) → (N2 100 = D1) → (∀ r : Nat, r < R → D1 (r : Int) = ((dgi (pp k) n i) r : Int)) → ((∀ p : Int, p ≠ 102 → P1 p = P p)) → ((∀ a : Int, (∀ p : Int, isP p → a ≠ p ∧ a ≠ p + 1) → a ≠ 100 → N2 a = M a)) → Wp 198 (d + 3) 102 2 [(1, 92), (0, (i : Int)), w2] [] N2 (fun r_ M' => ∃ P' : Int → Option (Pl k), r_ = (4, 0) ∧ CS M' k P' ∧ P' 102 = some (wyU n0 us R (n + 1)) ∧ (∀ r : Nat, r < R → M' 100 (r : Int) = (dgn (pp k) (n + 1) r : Int)) ∧ (∀ p : Int, p ≠ 102 → P' p = P p) ∧ (∀ a : Int, (∀ p : Int, isP p → a ≠ p ∧ a ≠ p + 1) → a ≠ 100 → M' a = M a)) := by
    intro n_
    induction n_ using Nat.strongRecOn with
    | _ n_ ih2 =>
    intro i P1 D1 w2 N2 hm2 hi hC hw hfl hD hDv hP hF
    refine w_il hK rfl rfl ?_
    refine w_al hK rfl rfl ?_
    refine w_geti (n := 10) (m := 10) hK rfl rfl (by decide) (by decide) rfl rfl rfl rfl ?_
    rw [show N2 92 10 = (R : Int) from ((congrFun (hF 92 (notP rfl) (by decide)) 10).trans r0_)]
    refine w_ge2 hK rfl (by omega) (by omega) (by omega) (by omega) (fun h5 => ?_) (fun h5 => ?_)
    · refine w_ret hK rfl rfl ?_
      exfalso
      have e_ : i = R := by omega
      rw [e_] at hfl
      have := hfl.small p2_
      omega
    · refine w_il hK rfl rfl ?_
      refine w_al hK rfl rfl ?_
      refine w_getr (n := 7) (v := 100) hK rfl rfl (by decide) (by decide) rfl rfl rfl rfl ?_
      refine w_len hK rfl rfl (by decide) (by decide) rfl ?_
      refine w_ge2 hK rfl (by omega) (by omega) (by omega) (by omega) (fun h10 => ?_) (fun h10 => ?_)
      · exfalso; omega
      · refine w_al hK rfl rfl ?_
        refine w_getr (n := 6) (v := 99) hK rfl rfl (by decide) (by decide) rfl rfl rfl rfl ?_
        refine w_il hK rfl rfl ?_
        refine w_aa hK rfl rfl (by decide) (by decide) (by omega) (by omega) ?_
        rw [base_ref (show i < 16 by omega)]
        refine w_as [(1, 92), (0, (i : Int)), (1, (104 + 2 * (i : Int)))] hK rfl rfl rfl ?_
        refine w_al hK rfl rfl ?_
        refine w_null hK rfl (fun h17 => ?_) (fun h17 => ?_)
        · exfalso; omega
        · refine w_al hK rfl rfl ?_
          refine w_getr (n := 1) (v := 7) hK rfl rfl (by decide) (by decide) rfl rfl rfl rfl ?_
          refine w_al hK rfl rfl ?_
          refine w_getr (n := 9) (v := 102) hK rfl rfl (by decide) (by decide) rfl rfl rfl rfl ?_
          refine w_al hK rfl rfl ?_
          refine w_al hK rfl rfl ?_
          refine w_getr (n := 9) (v := 102) hK rfl rfl (by decide) (by decide) rfl rfl rfl rfl ?_
          refine w_call [(1, 7), (1, 102), (1, (104 + 2 * (i : Int))), (1, 102)] hK rfl rfl rfl rfl (Or.inr ⟨_, _, _, rfl, by decide, (by decide), rfl⟩) (c_rsum hC ⟨(isP_of (p := 102) rfl), hw⟩ ⟨(isPB (show i < 16 by omega)), ((hP (104 + 2 * (i : Int)) (by omega)).trans (hB i (by omega)))⟩ (isP_of (p := 102) rfl)) ?_
          rintro _ V76 ⟨rfl, C76, S76⟩
          refine ⟨by decide, (?_ : Wp 198 _ 102 26 [(1, 92), (0, (i : Int)), (1, (104 + 2 * (i : Int)))] [] V76 _)⟩
          have dv_ := hDv i (by omega)
          have dl_ := dgn_lt p2_ n i
          have de_ : dgi (pp k) n i i = dgn (pp k) n i := if_neg (by omega)
          rw [de_] at dv_
          refine w_al hK rfl rfl ?_
          refine w_getr (n := 7) (v := 100) hK rfl rfl (by decide) (by decide) rfl rfl rfl rfl ?_
          refine w_il hK rfl rfl ?_
          refine w_dup2 hK rfl rfl rfl ?_
          refine w_ia hK rfl rfl (by decide) (by decide) (by omega) (by omega) ?_
          rw [show V76 100 (i : Int) = (D1 (i : Int)) from ((congrFun (S76 100 (notP rfl)) (i : Int)).trans (congrFun hD (i : Int)))]
          refine w_ic hK rfl ?_
          refine w_add hK rfl (by omega) (by omega) ?_
          refine w_iat hK rfl rfl (by decide) (by decide) (by omega) (by omega) ?_
          refine w_al hK rfl rfl ?_
          refine w_getr (n := 7) (v := 100) hK rfl rfl (by decide) (by decide) rfl rfl rfl rfl ?_
          refine w_il hK rfl rfl ?_
          refine w_ia hK rfl rfl (by decide) (by decide) (by omega) (by omega) ?_
          rw [show (up V76 100 (i : Int) ((D1 (i : Int)) + 1)) 100 (i : Int) = ((D1 (i : Int)) + 1) from up_eq]
          refine w_al hK rfl rfl ?_
          refine w_getr (n := 0) (v := 1) hK rfl rfl (by decide) (by decide) rfl rfl rfl rfl ?_
          refine w_geti (n := 2) (m := 2) hK rfl rfl (by decide) (by decide) rfl rfl rfl rfl ?_
          rw [show (up V76 100 (i : Int) ((D1 (i : Int)) + 1)) 1 2 = (pp k : Int) from (CS.upc C76 (by decide) (notP rfl)).F.p]
          refine w_ge2 hK rfl (by omega) (by omega) (by omega) (by omega) (fun h41 => ?_) (fun h41 => ?_)
          · refine w_al hK rfl rfl ?_
            refine w_getr (n := 7) (v := 100) hK rfl rfl (by decide) (by decide) rfl rfl rfl rfl ?_
            refine w_il hK rfl rfl ?_
            refine w_ic hK rfl ?_
            refine w_iat hK rfl rfl (by decide) (by decide) (by omega) (by omega) ?_
            refine w_inc [(1, 92), (0, ((i : Int) + 1)), (1, (104 + 2 * (i : Int)))] hK rfl rfl rfl (by omega) (by omega) rfl ?_
            refine w_goto hK rfl ?_
            refine ih2 _ (by omega) (i + 1) _ _ (1, (104 + 2 * (i : Int))) (up (up V76 100 (i : Int) ((D1 (i : Int)) + 1)) 100 (i : Int) 0) rfl (by omega) (CS.upc (CS.upc C76 (by decide) (notP rfl)) (by decide) (notP rfl)) (pu_eq.trans (congrArg some ((lcb_inc (fun j => by unfold dgi; have := dgn_lt p2_ n j; split <;> omega) (by omega)).trans (by rw [dgi_step (by omega)])))) (hfl.next p2_ (by omega)) (up_upr (up_upr ((S76 100 (notP rfl)).trans hD))) (fun r hr => ?_) (fun p pn102_ => ((pu_ne (P := P1) (f := adp (lcb (dgi (pp k) n i) (fun r => bsU n0 (us r)) R) ((fun r => bsU n0 (us r)) i)) (show p ≠ 102 by omega)).trans (hP p pn102_))) (fun a np_ n100_ => ((up_row n100_).trans ((up_row n100_).trans ((S76 a np_).trans (hF a np_ n100_)))))
            by_cases q : r = i
            · subst q
              rw [upr_eq]
              unfold dgi
              rw [if_pos (by omega)]
              rfl
            · rw [upr_ne (by omega), upr_ne (by omega), hDv r hr]
              unfold dgi
              by_cases q2 : r < i
              · rw [if_pos q2, if_pos (by omega)]
              · rw [if_neg q2, if_neg (by omega)]
          · refine w_ret hK rfl rfl ?_
            refine ⟨pu P1 102 (adp (lcb (dgi (pp k) n i) (fun r => bsU n0 (us r)) R) ((fun r => bsU n0 (us r)) i)), rfl, (CS.upc C76 (by decide) (notP rfl)), pu_eq.trans (congrArg some ((lcb_inc (fun j => by unfold dgi; have := dgn_lt p2_ n j; split <;> omega) (by omega)).trans (by rw [dgi_last p2_ hfl (by omega)]; rfl))), fun r hr => ?_, (fun p pn102_ => ((pu_ne (P := P1) (f := adp (lcb (dgi (pp k) n i) (fun r => bsU n0 (us r)) R) ((fun r => bsU n0 (us r)) i)) (show p ≠ 102 by omega)).trans (hP p pn102_))), (fun a np_ n100_ => ((up_row n100_).trans ((S76 a np_).trans (hF a np_ n100_))))⟩
            rw [show (up V76 100 (i : Int) ((D1 (i : Int)) + 1)) 100 = (upr D1 (i : Int) ((D1 (i : Int)) + 1)) from (up_upr ((S76 100 (notP rfl)).trans hD))]
            by_cases q : r = i
            · subst q
              rw [upr_eq, ← dgi_last p2_ hfl (by omega)]
              dsimp only
              rw [if_pos rfl]
              unfold dgi
              rw [if_neg (by omega), Nat.mod_eq_of_lt (by omega)]
              simpa using dv_
            · rw [upr_ne (by omega), hDv r hr, ← dgi_last p2_ hfl (by omega)]
              dsimp only
              rw [if_neg q]
  exact lp2 _ 0 P (M 100) (3, 0) M rfl (by omega) C (hw0.trans (congrArg (fun D => some (lcb D (fun r => bsU n0 (us r)) R)) (funext fun r => (if_neg (by omega)).symm))) Full.zero rfl (fun r hr => by rw [hD0 r hr]; unfold dgi; rw [if_neg (by omega)]) (fun p _ => rfl) (fun a _ _ => rfl)
