/-! how many quadratics are prime -/
theorem prM_2 {k c : Nat} : prM (mnp (k := k) 2 c) ↔ ∀ a : El k, ad (ad (el k (c % qq k)) (ml (el k (c / qq k % qq k)) a)) (chn a 2) ≠ z0 := by
  have hd : dg (mnp (k := k) 2 c) = ((2 : Nat) : Int) := mnp_dg (by omega)
  have h0 : mnp (k := k) 2 c 0 = el k (c % qq k) := by
    show (if 0 = 2 then e1 else if 0 < 2 then el k (c / qq k ^ 0 % qq k) else z0) = _
    rw [if_neg (by decide), if_pos (by decide), Nat.pow_zero, Nat.div_one]
  have h1 : mnp (k := k) 2 c 1 = el k (c / qq k % qq k) := by
    show (if 1 = 2 then e1 else if 1 < 2 then el k (c / qq k ^ 1 % qq k) else z0) = _
    rw [if_neg (by decide), if_pos (by decide), Nat.pow_one]
  have h2 : mnp (k := k) 2 c 2 = e1 := mnp_mn.2
  have hv : ∀ a : El k, vl (mnp (k := k) 2 c) a = ad (ad (el k (c % qq k)) (ml (el k (c / qq k % qq k)) a)) (chn a 2) := fun a => by
    have e : vl (mnp (k := k) 2 c) a = sm (fun j => ml (mnp (k := k) 2 c j) (chn a j)) 3 := sm_more (by omega) (fun i q1 q2 => by rw [mnp_bd i (by omega), zero_ml])
    rw [e]
    show ad (ad (ad z0 (ml (mnp (k := k) 2 c 0) (chn a 0))) (ml (mnp (k := k) 2 c 1) (chn a 1))) (ml (mnp (k := k) 2 c 2) (chn a 2)) = _
    rw [h0, h1, h2, one_ml, zero_ad, show chn a 0 = e1 from rfl, ml_one, show chn a 1 = ml e1 (sg 0 a) from rfl, one_ml, sg_0]
  have hz : ∀ a : El k, dr 0 (mnp (k := k) 2 c) (up1 (tpw 1) 0 (ng a)) = cst (vl (mnp (k := k) 2 c) a) := fun a => by
    obtain ⟨q, hq, e⟩ := vl_div (f := mnp (k := k) 2 c) (n := 2) mnp_bd (by decide) a
    refine (dv_eq (s := 0) (q := q) ⟨⟨2, hq⟩, e, 1, lin_is _, fun j hj => ?_⟩).2
    show (if j = 0 then _ else z0) = z0
    rw [if_neg (by omega)]
  have hc : ∀ v : El k, cst v = pz ↔ v = z0 := fun v => ⟨fun q => congrFun q 0, fun q => by
    rw [q]
    funext j
    show (if j = 0 then z0 else z0) = z0
    split <;> rfl⟩
  have hm : ∀ a : El k, mnp (k := k) 1 (ng a).val = up1 (tpw 1) 0 (ng a) := fun a => by
    rw [← mc_mnp (by decide) (by decide)]
    unfold mc
    rw [if_pos (by decide), Nat.mod_eq_of_lt (ng a).isLt, el_val]
  constructor
  · intro h a q
    refine h.2 1 (ng a).val (by decide) (by omega) (by unfold unq; rw [Nat.pow_one]; exact (ng a).isLt) ?_
    rw [hm, hz, hc, hv]
    exact q
  · intro h
    refine ⟨by omega, fun d e d1 d2 he q => ?_⟩
    have ed : d = 1 := by omega
    subst ed
    unfold unq at he
    rw [Nat.pow_one] at he
    have em : mnp (k := k) 1 e = up1 (tpw 1) 0 (ng (ng (el k e))) := by
      rw [← hm, ng_ng, show (el k e).val = e from Nat.mod_eq_of_lt he]
    rw [em, hz, hc, hv] at q
    exact h _ q
def qnr {k : Nat} (a0 a1 : El k) : Bool := decide (∀ a : El k, ad (ad a0 (ml a1 a)) (chn a 2) ≠ z0)
def qnc (k : Nat) : Nat → Nat
  | 0 => 0
  | c + 1 => qnc k c + (if qnr (el k (c % qq k)) (el k (c / qq k % qq k)) = true then 1 else 0)
theorem qnc_eq {k : Nat} (hk : k < 4) : (qnc k (qq k * qq k) : Int) = qwr k (qq k) := by
  rcases (show k = 0 ∨ k = 1 ∨ k = 2 ∨ k = 3 by omega) with e | e | e | e <;> subst e <;> decide +kernel
theorem qnc_sI {k : Nat} : ∀ n : Nat, sI (fun c => bz (prM (mnp (k := k) 2 c))) n = (qnc k n : Int)
  | 0 => rfl
  | n + 1 => by
    show sI (fun c => bz (prM (mnp (k := k) 2 c))) n + bz (prM (mnp (k := k) 2 n)) = ((qnc k n + _ : Nat) : Int)
    rw [qnc_sI n]
    by_cases h : prM (mnp (k := k) 2 n)
    · rw [bz_pos h, if_pos (show qnr (el k (n % qq k)) (el k (n / qq k % qq k)) = true from decide_eq_true (prM_2.mp h))]
      rfl
    · rw [bz_neg h, if_neg (show ¬ qnr (el k (n % qq k)) (el k (n / qq k % qq k)) = true from fun q => h (prM_2.mpr (of_decide_eq_true q)))]
      rfl
theorem primes_2 {k : Nat} (hk : k < 4) : sI (fun c => bz (prM (mnp (k := k) 2 c))) (unq k 2) = qwr k (qq k) := by
  rw [← qnc_eq hk, ← qnc_sI]
  unfold unq
  rw [Nat.pow_succ, Nat.pow_one]
theorem sI_ones : ∀ n : Nat, sI (fun _ => 1) n = (n : Int)
  | 0 => rfl
  | n + 1 => by
    show sI (fun _ => 1) n + 1 = _
    rw [sI_ones n]
    omega
theorem primes_1 {k : Nat} : sI (fun c => bz (prM (mnp (k := k) 1 c))) (unq k 1) = (qq k : Int) := by
  have h : sI (fun c => bz (prM (mnp (k := k) 1 c))) (unq k 1) = sI (fun _ => 1) (unq k 1) := sI_congr (fun c _ => bz_pos (prM_1 (mnp_dg (by omega))))
  rw [h, sI_ones]
  unfold unq
  rw [Nat.pow_one]
