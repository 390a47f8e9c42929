/-! contracts: Likeness.kin -/
def crs {k : Nat} (a b c d : El k) : El k := ad (ml a d) (ng (ml b c))
/-- t times V, by A -/
noncomputable def sT {k : Nat} (A V : Pl k) : Pl k := dr 0 (mlp (mono e1 1) V) A
noncomputable def kcL {k : Nat} (A V : Pl k) : Int := ((ng (ml (sT A V 0) (iv (V 0)))).val : Int)
noncomputable def kcQ {k : Nat} (A V : Pl k) : Int := if crs (V 0) (V 1) (sT A V 0) (sT A V 1) = z0 then -1 else
  ((ml (crs (sT A (sT A V) 0) (sT A (sT A V) 1) (V 0) (V 1)) (iv (crs (V 0) (V 1) (sT A V 0) (sT A V 1)))).val : Int) * (qq k : Int) + ((ml (crs (sT A V 0) (sT A V 1) (sT A (sT A V) 0) (sT A (sT A V) 1)) (iv (crs (V 0) (V 1) (sT A V 0) (sT A V 1)))).val : Int)
/-- the V of number c -/
def vc {k : Nat} (c : Nat) : Pl k := up1 (cst (el k (c % qq k))) 1 (el k (c / qq k))
noncomputable def kc {k : Nat} (A : Pl k) (n c : Nat) : Int := if n = 1 then kcL A (vc c) else kcQ A (vc c)
def MKd {k : Nat} (A : Pl k) (n c : Nat) (j : Int) : Prop := ∃ i : Nat, 1 ≤ i ∧ i < c ∧ kc A n i = j
theorem kcL_I {k : Nat} (A V : Pl k) : 0 ≤ kcL A V ∧ kcL A V ≤ 15 := el_I _
theorem mul_sm2 {a b : Int} (h1 : 0 ≤ a) (h2 : a ≤ 15) (h3 : 0 ≤ b) (h4 : b ≤ 16) : 0 ≤ a * b ∧ a * b ≤ 240 := ⟨Int.mul_nonneg h1 h3, by
  have := Int.mul_le_mul h2 h4 h3 (show (0 : Int) ≤ 15 by decide)
  omega⟩
theorem kcQ_I {k : Nat} (A V : Pl k) : -1 ≤ kcQ A V ∧ kcQ A V ≤ 255 := by
  unfold kcQ
  split
  · omega
  · have h1 := el_I (ml (crs (sT A (sT A V) 0) (sT A (sT A V) 1) (V 0) (V 1)) (iv (crs (V 0) (V 1) (sT A V 0) (sT A V 1))))
    have h2 := el_I (ml (crs (sT A V 0) (sT A V 1) (sT A (sT A V) 0) (sT A (sT A V) 1)) (iv (crs (V 0) (V 1) (sT A V 0) (sT A V 1))))
    have h3 := qq_I k
    have h4 := mul_sm2 h1.1 h1.2 (show (0 : Int) ≤ qq k by omega) h3.2
    omega
theorem vc_bd {k c : Nat} : Bd (vc (k := k) c) 2 := fun j hj => by
  unfold vc cst up1
  rw [if_neg (by omega), if_neg (by omega)]
  rfl
theorem vc_dg {k c : Nat} : dg (vc (k := k) c) ≤ 1 := by
  have := dg_lt (vc_bd (k := k) (c := c)) (by decide)
  omega
theorem vc_dg0 {k c : Nat} (h : c < qq k) : dg (vc (k := k) c) ≤ 0 := dg_le_of (vc_bd.mono (by decide)) (by decide) (fun j hj => by
  unfold vc cst up1
  by_cases e : j = 1
  · rw [if_pos e, Nat.div_eq_of_lt h]
    rfl
  · rw [if_neg e, if_neg (by omega)]
    rfl)
theorem sI_one {f g : Nat → Int} {v : Nat} (h : ∀ j : Nat, j ≠ v → g j = f j) (hv : g v = f v + 1) : ∀ {n : Nat}, sI g n = sI f n + (if v < n then 1 else 0)
  | 0 => by show (0 : Int) = 0 + (if v < 0 then 1 else 0); rw [if_neg (by omega)]; rfl
  | n + 1 => by
    show sI g n + g n = sI f n + f n + _
    rw [sI_one h hv (n := n)]
    by_cases e : v = n
    · rw [if_neg (by omega), if_pos (by omega), ← e, hv]
      omega
    · rw [h n (fun q => e q.symm)]
      by_cases q : v < n
      · rw [if_pos q, if_pos (by omega)]; omega
      · rw [if_neg q, if_neg (by omega)]; omega
theorem sI_0s : ∀ {n : Nat}, sI (fun _ => 0) n = 0
  | 0 => rfl
  | n + 1 => by
    show sI (fun _ => 0) n + 0 = 0
    rw [sI_0s]
    rfl
set_option maxRecDepth 100000 in
theorem c_cross {d : Nat} {M : Mem} {k : Nat} {P : Int → Option (Pl k)} (C : CS M k P) (x0 x1 y0 y1 : El k) : Ct 198 (d + 2) 98 [(1, 92), (0, (x0.val : Int)), (0, (x1.val : Int)), (0, (y0.val : Int)), (0, (y1.val : Int))] M (fun r M' => r = (0, ((crs x0 x1 y0 y1).val : Int)) ∧ M' = M) := by
  have hK : cd 98 = k98 := rfl
  show Wp 198 _ 98 0 [(1, 92), (0, (x0.val : Int)), (0, (x1.val : Int)), (0, (y0.val : Int)), (0, (y1.val : Int))] [] M _
  refine w_al hK rfl rfl ?_
  refine w_getr (n := 0) (v := 1) hK rfl rfl (by decide) (by decide) rfl rfl rfl rfl ?_
  refine w_al hK rfl rfl ?_
  refine w_getr (n := 0) (v := 1) hK rfl rfl (by decide) (by decide) rfl rfl rfl rfl ?_
  refine w_il hK rfl rfl ?_
  refine w_il hK rfl rfl ?_
  refine w_call [(1, 1), (0, (x0.val : Int)), (0, (y1.val : Int))] hK rfl rfl rfl rfl (Or.inr ⟨_, _, _, rfl, by decide, (by decide), rfl⟩) (c_prod (by decide) C.F x0 y1 ) ?_
  rintro _ Mq ⟨rfl, e_⟩
  subst Mq
  have bv_ := el_I (ml x0 y1)
  refine ⟨by show (0 : Nat) ≠ 9; decide, (?_ : Wp 198 _ 98 7 [(1, 92), (0, (x0.val : Int)), (0, (x1.val : Int)), (0, (y0.val : Int)), (0, (y1.val : Int))] [(0, ((ml x0 y1).val : Int)), (1, 1)] M _)⟩
  refine w_al hK rfl rfl ?_
  refine w_getr (n := 0) (v := 1) hK rfl rfl (by decide) (by decide) rfl rfl rfl rfl ?_
  refine w_il hK rfl rfl ?_
  refine w_il hK rfl rfl ?_
  refine w_call [(1, 1), (0, (x1.val : Int)), (0, (y0.val : Int))] hK rfl rfl rfl rfl (Or.inr ⟨_, _, _, rfl, by decide, (by decide), rfl⟩) (c_prod (by decide) C.F x1 y0 ) ?_
  rintro _ Mq ⟨rfl, e_⟩
  subst Mq
  have bv_ := el_I (ml x1 y0)
  refine ⟨by show (0 : Nat) ≠ 9; decide, (?_ : Wp 198 _ 98 12 [(1, 92), (0, (x0.val : Int)), (0, (x1.val : Int)), (0, (y0.val : Int)), (0, (y1.val : Int))] [(0, ((ml x1 y0).val : Int)), (0, ((ml x0 y1).val : Int)), (1, 1)] M _)⟩
  refine w_call [(1, 1), (0, ((ml x0 y1).val : Int)), (0, ((ml x1 y0).val : Int))] hK rfl rfl rfl rfl (Or.inr ⟨_, _, _, rfl, by decide, (by decide), rfl⟩) (c_diff (by decide) C.F (ml x0 y1) (ml x1 y0) ) ?_
  rintro _ Mq ⟨rfl, e_⟩
  subst Mq
  have bv_ := el_I (ad (ml x0 y1) (ng (ml x1 y0)))
  refine ⟨by show (0 : Nat) ≠ 9; decide, (?_ : Wp 198 _ 98 13 [(1, 92), (0, (x0.val : Int)), (0, (x1.val : Int)), (0, (y0.val : Int)), (0, (y1.val : Int))] [(0, ((ad (ml x0 y1) (ng (ml x1 y0))).val : Int))] M _)⟩
  refine w_iret hK rfl rfl ?_
  exact ⟨rfl, rfl⟩
set_option maxRecDepth 100000 in
theorem c_linK {d : Nat} {M : Mem} {k : Nat} {P : Int → Option (Pl k)} (C : CS M k P) {f_w : Pl k} (hw : P 102 = some f_w) {a : Int} {f_a : Pl k} (ha : isC P a f_a) (na_ : a ≠ 102) (hd : dg f_w < dg f_a) : Ct 198 (d + 4) 96 [(1, 92), (1, a)] M (fun r_ M' => ∃ P' : Int → Option (Pl k), r_ = (0, kcL f_a f_w) ∧ CS M' k P' ∧ (∀ p : Int, p ≠ 102 → P' p = P p) ∧ (∀ a : Int, (∀ p : Int, isP p → a ≠ p ∧ a ≠ p + 1) → M' a = M a)) := by
  have hK : cd 96 = k96 := rfl
  show Wp 198 _ 96 0 [(1, 92), (1, a), (3, 0)] [] M _
  refine w_al hK rfl rfl ?_
  refine w_getr (n := 9) (v := 102) hK rfl rfl (by decide) (by decide) rfl rfl rfl rfl ?_
  refine w_ic hK rfl ?_
  refine w_call [(1, 102), (0, 0)] hK rfl rfl rfl rfl (Or.inr ⟨_, _, _, rfl, (isP_of (p := 102) rfl).nn, (isP_of (p := 102) rfl).lb, (isP_of (p := 102) rfl).o⟩) (c_atN C (⟨isP_of (p := 102) rfl, hw⟩ : isC P 102 f_w) 0 (by omega)) ?_
  rintro _ Mq ⟨rfl, e_⟩
  subst Mq
  have bv_ := el_I (f_w 0)
  refine ⟨by show (0 : Nat) ≠ 9; decide, (?_ : Wp 198 _ 96 4 [(1, 92), (1, a), (3, 0)] [(0, ((f_w 0).val : Int))] M _)⟩
  refine w_is [(1, 92), (1, a), (0, ((f_w 0).val : Int))] hK rfl rfl rfl ?_
  refine w_al hK rfl rfl ?_
  refine w_getr (n := 1) (v := 7) hK rfl rfl (by decide) (by decide) rfl rfl rfl rfl ?_
  refine w_al hK rfl rfl ?_
  refine w_getr (n := 9) (v := 102) hK rfl rfl (by decide) (by decide) rfl rfl rfl rfl ?_
  refine w_al hK rfl rfl ?_
  refine w_call [(1, 7), (1, 102), (1, a)] hK rfl rfl rfl rfl (Or.inr ⟨_, _, _, rfl, by decide, (by decide), rfl⟩) (c_step C (⟨isP_of (p := 102) rfl, hw⟩ : isC P 102 f_w) ha (by omega) (by omega)) ?_
  rintro _ V83 ⟨rfl, C83, S83⟩
  refine ⟨by decide, (?_ : Wp 198 _ 96 11 [(1, 92), (1, a), (0, ((f_w 0).val : Int))] [] V83 _)⟩
  refine w_al hK rfl rfl ?_
  refine w_getr (n := 0) (v := 1) hK rfl rfl (by decide) (by decide) rfl rfl rfl rfl ?_
  refine w_al hK rfl rfl ?_
  refine w_getr (n := 0) (v := 1) hK rfl rfl (by decide) (by decide) rfl rfl rfl rfl ?_
  refine w_al hK rfl rfl ?_
  refine w_getr (n := 9) (v := 102) hK rfl rfl (by decide) (by decide) rfl rfl rfl rfl ?_
  refine w_ic hK rfl ?_
  refine w_call [(1, 102), (0, 0)] hK rfl rfl rfl rfl (Or.inr ⟨_, _, _, rfl, (isP_of (p := 102) rfl).nn, (isP_of (p := 102) rfl).lb, (isP_of (p := 102) rfl).o⟩) (c_atN C83 ⟨(isP_of (p := 102) rfl), pu_eq⟩ 0 (by omega)) ?_
  rintro _ Mq ⟨rfl, e_⟩
  subst Mq
  have bv_ := el_I ((dr 0 (mlp (mono e1 1) f_w) f_a) 0)
  refine ⟨by show (0 : Nat) ≠ 9; decide, (?_ : Wp 198 _ 96 19 [(1, 92), (1, a), (0, ((f_w 0).val : Int))] [(0, (((dr 0 (mlp (mono e1 1) f_w) f_a) 0).val : Int)), (1, 1), (1, 1)] V83 _)⟩
  refine w_il hK rfl rfl ?_
  refine w_call [(1, 1), (0, (((dr 0 (mlp (mono e1 1) f_w) f_a) 0).val : Int)), (0, ((f_w 0).val : Int))] hK rfl rfl rfl rfl (Or.inr ⟨_, _, _, rfl, by decide, (by decide), rfl⟩) (c_ratio (by decide) C83.F ((dr 0 (mlp (mono e1 1) f_w) f_a) 0) (f_w 0) ) ?_
  rintro _ Mq ⟨rfl, e_⟩
  subst Mq
  have bv_ := el_I (ml ((dr 0 (mlp (mono e1 1) f_w) f_a) 0) (iv (f_w 0)))
  refine ⟨by show (0 : Nat) ≠ 9; decide, (?_ : Wp 198 _ 96 21 [(1, 92), (1, a), (0, ((f_w 0).val : Int))] [(0, ((ml ((dr 0 (mlp (mono e1 1) f_w) f_a) 0) (iv (f_w 0))).val : Int)), (1, 1)] V83 _)⟩
  refine w_call [(1, 1), (0, ((ml ((dr 0 (mlp (mono e1 1) f_w) f_a) 0) (iv (f_w 0))).val : Int))] hK rfl rfl rfl rfl (Or.inr ⟨_, _, _, rfl, by decide, (by decide), rfl⟩) (c_opp (by decide) C83.F (ml ((dr 0 (mlp (mono e1 1) f_w) f_a) 0) (iv (f_w 0))) ) ?_
  rintro _ Mq ⟨rfl, e_⟩
  subst Mq
  have bv_ := el_I (ng (ml ((dr 0 (mlp (mono e1 1) f_w) f_a) 0) (iv (f_w 0))))
  refine ⟨by show (0 : Nat) ≠ 9; decide, (?_ : Wp 198 _ 96 22 [(1, 92), (1, a), (0, ((f_w 0).val : Int))] [(0, ((ng (ml ((dr 0 (mlp (mono e1 1) f_w) f_a) 0) (iv (f_w 0)))).val : Int))] V83 _)⟩
  refine w_iret hK rfl rfl ?_
  exact ⟨_, rfl, C83, (fun p pn102_ => (pu_ne (P := P) (f := dr 0 (mlp (mono e1 1) f_w) f_a) (show p ≠ 102 by omega))), (fun a np_ => (S83 a np_))⟩
theorem sT_dg {k : Nat} {A V : Pl k} (hA : Bd A 17) (hV : Bd V 17) (h : 0 ≤ dg A) : dg (sT A V) < dg A := by
  have hi := isdg_dg (hA.mono (by decide)) h
  have hb : Bd (mlp (mono e1 1) V) 19 := (Bd_mlp (n := 2) (m := 17) (fun j hj => by rw [mono_at, if_neg (by omega)]) hV)
  have h2 := dr_bd 0 hi hb
  have h3 : dg (sT A V) < ((dg A).toNat : Int) := dg_lt h2 (by have := dg_lt hA (by decide); omega)
  omega
set_option maxRecDepth 100000 in
theorem c_quaK {d : Nat} {M : Mem} {k : Nat} {P : Int → Option (Pl k)} (C : CS M k P) {f_w : Pl k} (hw : P 102 = some f_w) {a : Int} {f_a : Pl k} (ha : isC P a f_a) (na_ : a ≠ 102) (hd : dg f_w < dg f_a) (h0_ : 0 ≤ dg f_a) : Ct 198 (d + 4) 97 [(1, 92), (1, a)] M (fun r_ M' => ∃ P' : Int → Option (Pl k), r_ = (0, kcQ f_a f_w) ∧ CS M' k P' ∧ (∀ p : Int, p ≠ 102 → P' p = P p) ∧ (∀ a : Int, (∀ p : Int, isP p → a ≠ p ∧ a ≠ p + 1) → M' a = M a)) := by
  have hK : cd 97 = k97 := rfl
  have q1_ := qq_I k
  show Wp 198 _ 97 0 [(1, 92), (1, a), (3, 0), (3, 0), (3, 0), (3, 0), (3, 0), (3, 0), (3, 0)] [] M _
  refine w_al hK rfl rfl ?_
  refine w_getr (n := 9) (v := 102) hK rfl rfl (by decide) (by decide) rfl rfl rfl rfl ?_
  refine w_ic hK rfl ?_
  refine w_call [(1, 102), (0, 0)] hK rfl rfl rfl rfl (Or.inr ⟨_, _, _, rfl, (isP_of (p := 102) rfl).nn, (isP_of (p := 102) rfl).lb, (isP_of (p := 102) rfl).o⟩) (c_atN C (⟨isP_of (p := 102) rfl, hw⟩ : isC P 102 f_w) 0 (by omega)) ?_
  rintro _ Mq ⟨rfl, e_⟩
  subst Mq
  have bv_ := el_I (f_w 0)
  refine ⟨by show (0 : Nat) ≠ 9; decide, (?_ : Wp 198 _ 97 4 [(1, 92), (1, a), (3, 0), (3, 0), (3, 0), (3, 0), (3, 0), (3, 0), (3, 0)] [(0, ((f_w 0).val : Int))] M _)⟩
  refine w_is [(1, 92), (1, a), (0, ((f_w 0).val : Int)), (3, 0), (3, 0), (3, 0), (3, 0), (3, 0), (3, 0)] hK rfl rfl rfl ?_
  refine w_al hK rfl rfl ?_
  refine w_getr (n := 9) (v := 102) hK rfl rfl (by decide) (by decide) rfl rfl rfl rfl ?_
  refine w_ic hK rfl ?_
  refine w_call [(1, 102), (0, 1)] hK rfl rfl rfl rfl (Or.inr ⟨_, _, _, rfl, (isP_of (p := 102) rfl).nn, (isP_of (p := 102) rfl).lb, (isP_of (p := 102) rfl).o⟩) (c_atN C (⟨isP_of (p := 102) rfl, hw⟩ : isC P 102 f_w) 1 (by omega)) ?_
  rintro _ Mq ⟨rfl, e_⟩
  subst Mq
  have bv_ := el_I (f_w 1)
  refine ⟨by show (0 : Nat) ≠ 9; decide, (?_ : Wp 198 _ 97 9 [(1, 92), (1, a), (0, ((f_w 0).val : Int)), (3, 0), (3, 0), (3, 0), (3, 0), (3, 0), (3, 0)] [(0, ((f_w 1).val : Int))] M _)⟩
  refine w_is [(1, 92), (1, a), (0, ((f_w 0).val : Int)), (0, ((f_w 1).val : Int)), (3, 0), (3, 0), (3, 0), (3, 0), (3, 0)] hK rfl rfl rfl ?_
  refine w_al hK rfl rfl ?_
  refine w_getr (n := 1) (v := 7) hK rfl rfl (by decide) (by decide) rfl rfl rfl rfl ?_
  refine w_al hK rfl rfl ?_
  refine w_getr (n := 9) (v := 102) hK rfl rfl (by decide) (by decide) rfl rfl rfl rfl ?_
  refine w_al hK rfl rfl ?_
  refine w_call [(1, 7), (1, 102), (1, a)] hK rfl rfl rfl rfl (Or.inr ⟨_, _, _, rfl, by decide, (by decide), rfl⟩) (c_step C (⟨isP_of (p := 102) rfl, hw⟩ : isC P 102 f_w) ha (by omega) (by omega)) ?_
  rintro _ V84 ⟨rfl, C84, S84⟩
  refine ⟨by decide, (?_ : Wp 198 _ 97 16 [(1, 92), (1, a), (0, ((f_w 0).val : Int)), (0, ((f_w 1).val : Int)), (3, 0), (3, 0), (3, 0), (3, 0), (3, 0)] [] V84 _)⟩
  refine w_al hK rfl rfl ?_
  refine w_getr (n := 9) (v := 102) hK rfl rfl (by decide) (by decide) rfl rfl rfl rfl ?_
  refine w_ic hK rfl ?_
  refine w_call [(1, 102), (0, 0)] hK rfl rfl rfl rfl (Or.inr ⟨_, _, _, rfl, (isP_of (p := 102) rfl).nn, (isP_of (p := 102) rfl).lb, (isP_of (p := 102) rfl).o⟩) (c_atN C84 ⟨(isP_of (p := 102) rfl), pu_eq⟩ 0 (by omega)) ?_
  rintro _ Mq ⟨rfl, e_⟩
  subst Mq
  have bv_ := el_I ((dr 0 (mlp (mono e1 1) f_w) f_a) 0)
  refine ⟨by show (0 : Nat) ≠ 9; decide, (?_ : Wp 198 _ 97 20 [(1, 92), (1, a), (0, ((f_w 0).val : Int)), (0, ((f_w 1).val : Int)), (3, 0), (3, 0), (3, 0), (3, 0), (3, 0)] [(0, (((dr 0 (mlp (mono e1 1) f_w) f_a) 0).val : Int))] V84 _)⟩
  refine w_is [(1, 92), (1, a), (0, ((f_w 0).val : Int)), (0, ((f_w 1).val : Int)), (0, (((dr 0 (mlp (mono e1 1) f_w) f_a) 0).val : Int)), (3, 0), (3, 0), (3, 0), (3, 0)] hK rfl rfl rfl ?_
  refine w_al hK rfl rfl ?_
  refine w_getr (n := 9) (v := 102) hK rfl rfl (by decide) (by decide) rfl rfl rfl rfl ?_
  refine w_ic hK rfl ?_
  refine w_call [(1, 102), (0, 1)] hK rfl rfl rfl rfl (Or.inr ⟨_, _, _, rfl, (isP_of (p := 102) rfl).nn, (isP_of (p := 102) rfl).lb, (isP_of (p := 102) rfl).o⟩) (c_atN C84 ⟨(isP_of (p := 102) rfl), pu_eq⟩ 1 (by omega)) ?_
  rintro _ Mq ⟨rfl, e_⟩
  subst Mq
  have bv_ := el_I ((dr 0 (mlp (mono e1 1) f_w) f_a) 1)
  refine ⟨by show (0 : Nat) ≠ 9; decide, (?_ : Wp 198 _ 97 25 [(1, 92), (1, a), (0, ((f_w 0).val : Int)), (0, ((f_w 1).val : Int)), (0, (((dr 0 (mlp (mono e1 1) f_w) f_a) 0).val : Int)), (3, 0), (3, 0), (3, 0), (3, 0)] [(0, (((dr 0 (mlp (mono e1 1) f_w) f_a) 1).val : Int))] V84 _)⟩
  refine w_is [(1, 92), (1, a), (0, ((f_w 0).val : Int)), (0, ((f_w 1).val : Int)), (0, (((dr 0 (mlp (mono e1 1) f_w) f_a) 0).val : Int)), (0, (((dr 0 (mlp (mono e1 1) f_w) f_a) 1).val : Int)), (3, 0), (3, 0), (3, 0)] hK rfl rfl rfl ?_
  have w1_ := sT_dg (A := f_a) (V := f_w) (C.bd ha) (C.bd (⟨isP_of (p := 102) rfl, hw⟩ : isC P 102 f_w)) (by omega)
  unfold sT at w1_
  refine w_al hK rfl rfl ?_
  refine w_getr (n := 1) (v := 7) hK rfl rfl (by decide) (by decide) rfl rfl rfl rfl ?_
  refine w_al hK rfl rfl ?_
  refine w_getr (n := 9) (v := 102) hK rfl rfl (by decide) (by decide) rfl rfl rfl rfl ?_
  refine w_al hK rfl rfl ?_
  refine w_call [(1, 7), (1, 102), (1, a)] hK rfl rfl rfl rfl (Or.inr ⟨_, _, _, rfl, by decide, (by decide), rfl⟩) (c_step C84 ⟨(isP_of (p := 102) rfl), pu_eq⟩ ⟨ha.1, ((pu_ne (P := P) (f := dr 0 (mlp (mono e1 1) f_w) f_a) (show a ≠ 102 by omega)).trans ha.2)⟩ (by omega) (by omega)) ?_
  rintro _ V85 ⟨rfl, C85, S85⟩
  rw [pu_pu (P := P) (p := 102) (f := dr 0 (mlp (mono e1 1) f_w) f_a) (g := dr 0 (mlp (mono e1 1) (dr 0 (mlp (mono e1 1) f_w) f_a)) f_a)] at C85
  refine ⟨by decide, (?_ : Wp 198 _ 97 32 [(1, 92), (1, a), (0, ((f_w 0).val : Int)), (0, ((f_w 1).val : Int)), (0, (((dr 0 (mlp (mono e1 1) f_w) f_a) 0).val : Int)), (0, (((dr 0 (mlp (mono e1 1) f_w) f_a) 1).val : Int)), (3, 0), (3, 0), (3, 0)] [] V85 _)⟩
  refine w_al hK rfl rfl ?_
  refine w_il hK rfl rfl ?_
  refine w_il hK rfl rfl ?_
  refine w_il hK rfl rfl ?_
  refine w_il hK rfl rfl ?_
  refine w_call [(1, 92), (0, ((f_w 0).val : Int)), (0, ((f_w 1).val : Int)), (0, (((dr 0 (mlp (mono e1 1) f_w) f_a) 0).val : Int)), (0, (((dr 0 (mlp (mono e1 1) f_w) f_a) 1).val : Int))] hK rfl rfl rfl rfl (Or.inr ⟨_, _, _, rfl, by decide, (by decide), rfl⟩) (c_cross C85 (f_w 0) (f_w 1) ((dr 0 (mlp (mono e1 1) f_w) f_a) 0) ((dr 0 (mlp (mono e1 1) f_w) f_a) 1)) ?_
  rintro _ Mq ⟨rfl, e_⟩
  subst Mq
  have bv_ := el_I (crs (f_w 0) (f_w 1) ((dr 0 (mlp (mono e1 1) f_w) f_a) 0) ((dr 0 (mlp (mono e1 1) f_w) f_a) 1))
  refine ⟨by show (0 : Nat) ≠ 9; decide, (?_ : Wp 198 _ 97 38 [(1, 92), (1, a), (0, ((f_w 0).val : Int)), (0, ((f_w 1).val : Int)), (0, (((dr 0 (mlp (mono e1 1) f_w) f_a) 0).val : Int)), (0, (((dr 0 (mlp (mono e1 1) f_w) f_a) 1).val : Int)), (3, 0), (3, 0), (3, 0)] [(0, ((crs (f_w 0) (f_w 1) ((dr 0 (mlp (mono e1 1) f_w) f_a) 0) ((dr 0 (mlp (mono e1 1) f_w) f_a) 1)).val : Int))] V85 _)⟩
  refine w_is [(1, 92), (1, a), (0, ((f_w 0).val : Int)), (0, ((f_w 1).val : Int)), (0, (((dr 0 (mlp (mono e1 1) f_w) f_a) 0).val : Int)), (0, (((dr 0 (mlp (mono e1 1) f_w) f_a) 1).val : Int)), (0, ((crs (f_w 0) (f_w 1) ((dr 0 (mlp (mono e1 1) f_w) f_a) 0) ((dr 0 (mlp (mono e1 1) f_w) f_a) 1)).val : Int)), (3, 0), (3, 0)] hK rfl rfl rfl ?_
  refine w_il hK rfl rfl ?_
  refine w_ne hK rfl (by omega) (by omega) (fun h40 => ?_) (fun h40 => ?_)
  · refine w_al hK rfl rfl ?_
    refine w_getr (n := 0) (v := 1) hK rfl rfl (by decide) (by decide) rfl rfl rfl rfl ?_
    refine w_al hK rfl rfl ?_
    refine w_il hK rfl rfl ?_
    refine w_il hK rfl rfl ?_
    refine w_al hK rfl rfl ?_
    refine w_getr (n := 9) (v := 102) hK rfl rfl (by decide) (by decide) rfl rfl rfl rfl ?_
    refine w_ic hK rfl ?_
    refine w_call [(1, 102), (0, 0)] hK rfl rfl rfl rfl (Or.inr ⟨_, _, _, rfl, (isP_of (p := 102) rfl).nn, (isP_of (p := 102) rfl).lb, (isP_of (p := 102) rfl).o⟩) (c_atN C85 ⟨(isP_of (p := 102) rfl), pu_eq⟩ 0 (by omega)) ?_
    rintro _ Mq ⟨rfl, e_⟩
    subst Mq
    have bv_ := el_I ((dr 0 (mlp (mono e1 1) (dr 0 (mlp (mono e1 1) f_w) f_a)) f_a) 0)
    refine ⟨by show (0 : Nat) ≠ 9; decide, (?_ : Wp 198 _ 97 52 [(1, 92), (1, a), (0, ((f_w 0).val : Int)), (0, ((f_w 1).val : Int)), (0, (((dr 0 (mlp (mono e1 1) f_w) f_a) 0).val : Int)), (0, (((dr 0 (mlp (mono e1 1) f_w) f_a) 1).val : Int)), (0, ((crs (f_w 0) (f_w 1) ((dr 0 (mlp (mono e1 1) f_w) f_a) 0) ((dr 0 (mlp (mono e1 1) f_w) f_a) 1)).val : Int)), (3, 0), (3, 0)] [(0, (((dr 0 (mlp (mono e1 1) (dr 0 (mlp (mono e1 1) f_w) f_a)) f_a) 0).val : Int)), (0, (((dr 0 (mlp (mono e1 1) f_w) f_a) 1).val : Int)), (0, (((dr 0 (mlp (mono e1 1) f_w) f_a) 0).val : Int)), (1, 92), (1, 1)] V85 _)⟩
    refine w_al hK rfl rfl ?_
    refine w_getr (n := 9) (v := 102) hK rfl rfl (by decide) (by decide) rfl rfl rfl rfl ?_
    refine w_ic hK rfl ?_
    refine w_call [(1, 102), (0, 1)] hK rfl rfl rfl rfl (Or.inr ⟨_, _, _, rfl, (isP_of (p := 102) rfl).nn, (isP_of (p := 102) rfl).lb, (isP_of (p := 102) rfl).o⟩) (c_atN C85 ⟨(isP_of (p := 102) rfl), pu_eq⟩ 1 (by omega)) ?_
    rintro _ Mq ⟨rfl, e_⟩
    subst Mq
    have bv_ := el_I ((dr 0 (mlp (mono e1 1) (dr 0 (mlp (mono e1 1) f_w) f_a)) f_a) 1)
    refine ⟨by show (0 : Nat) ≠ 9; decide, (?_ : Wp 198 _ 97 56 [(1, 92), (1, a), (0, ((f_w 0).val : Int)), (0, ((f_w 1).val : Int)), (0, (((dr 0 (mlp (mono e1 1) f_w) f_a) 0).val : Int)), (0, (((dr 0 (mlp (mono e1 1) f_w) f_a) 1).val : Int)), (0, ((crs (f_w 0) (f_w 1) ((dr 0 (mlp (mono e1 1) f_w) f_a) 0) ((dr 0 (mlp (mono e1 1) f_w) f_a) 1)).val : Int)), (3, 0), (3, 0)] [(0, (((dr 0 (mlp (mono e1 1) (dr 0 (mlp (mono e1 1) f_w) f_a)) f_a) 1).val : Int)), (0, (((dr 0 (mlp (mono e1 1) (dr 0 (mlp (mono e1 1) f_w) f_a)) f_a) 0).val : Int)), (0, (((dr 0 (mlp (mono e1 1) f_w) f_a) 1).val : Int)), (0, (((dr 0 (mlp (mono e1 1) f_w) f_a) 0).val : Int)), (1, 92), (1, 1)] V85 _)⟩
    refine w_call [(1, 92), (0, (((dr 0 (mlp (mono e1 1) f_w) f_a) 0).val : Int)), (0, (((dr 0 (mlp (mono e1 1) f_w) f_a) 1).val : Int)), (0, (((dr 0 (mlp (mono e1 1) (dr 0 (mlp (mono e1 1) f_w) f_a)) f_a) 0).val : Int)), (0, (((dr 0 (mlp (mono e1 1) (dr 0 (mlp (mono e1 1) f_w) f_a)) f_a) 1).val : Int))] hK rfl rfl rfl rfl (Or.inr ⟨_, _, _, rfl, by decide, (by decide), rfl⟩) (c_cross C85 ((dr 0 (mlp (mono e1 1) f_w) f_a) 0) ((dr 0 (mlp (mono e1 1) f_w) f_a) 1) ((dr 0 (mlp (mono e1 1) (dr 0 (mlp (mono e1 1) f_w) f_a)) f_a) 0) ((dr 0 (mlp (mono e1 1) (dr 0 (mlp (mono e1 1) f_w) f_a)) f_a) 1)) ?_
    rintro _ Mq ⟨rfl, e_⟩
    subst Mq
    have bv_ := el_I (crs ((dr 0 (mlp (mono e1 1) f_w) f_a) 0) ((dr 0 (mlp (mono e1 1) f_w) f_a) 1) ((dr 0 (mlp (mono e1 1) (dr 0 (mlp (mono e1 1) f_w) f_a)) f_a) 0) ((dr 0 (mlp (mono e1 1) (dr 0 (mlp (mono e1 1) f_w) f_a)) f_a) 1))
    refine ⟨by show (0 : Nat) ≠ 9; decide, (?_ : Wp 198 _ 97 57 [(1, 92), (1, a), (0, ((f_w 0).val : Int)), (0, ((f_w 1).val : Int)), (0, (((dr 0 (mlp (mono e1 1) f_w) f_a) 0).val : Int)), (0, (((dr 0 (mlp (mono e1 1) f_w) f_a) 1).val : Int)), (0, ((crs (f_w 0) (f_w 1) ((dr 0 (mlp (mono e1 1) f_w) f_a) 0) ((dr 0 (mlp (mono e1 1) f_w) f_a) 1)).val : Int)), (3, 0), (3, 0)] [(0, ((crs ((dr 0 (mlp (mono e1 1) f_w) f_a) 0) ((dr 0 (mlp (mono e1 1) f_w) f_a) 1) ((dr 0 (mlp (mono e1 1) (dr 0 (mlp (mono e1 1) f_w) f_a)) f_a) 0) ((dr 0 (mlp (mono e1 1) (dr 0 (mlp (mono e1 1) f_w) f_a)) f_a) 1)).val : Int)), (1, 1)] V85 _)⟩
    refine w_il hK rfl rfl ?_
    refine w_call [(1, 1), (0, ((crs ((dr 0 (mlp (mono e1 1) f_w) f_a) 0) ((dr 0 (mlp (mono e1 1) f_w) f_a) 1) ((dr 0 (mlp (mono e1 1) (dr 0 (mlp (mono e1 1) f_w) f_a)) f_a) 0) ((dr 0 (mlp (mono e1 1) (dr 0 (mlp (mono e1 1) f_w) f_a)) f_a) 1)).val : Int)), (0, ((crs (f_w 0) (f_w 1) ((dr 0 (mlp (mono e1 1) f_w) f_a) 0) ((dr 0 (mlp (mono e1 1) f_w) f_a) 1)).val : Int))] hK rfl rfl rfl rfl (Or.inr ⟨_, _, _, rfl, by decide, (by decide), rfl⟩) (c_ratio (by decide) C85.F (crs ((dr 0 (mlp (mono e1 1) f_w) f_a) 0) ((dr 0 (mlp (mono e1 1) f_w) f_a) 1) ((dr 0 (mlp (mono e1 1) (dr 0 (mlp (mono e1 1) f_w) f_a)) f_a) 0) ((dr 0 (mlp (mono e1 1) (dr 0 (mlp (mono e1 1) f_w) f_a)) f_a) 1)) (crs (f_w 0) (f_w 1) ((dr 0 (mlp (mono e1 1) f_w) f_a) 0) ((dr 0 (mlp (mono e1 1) f_w) f_a) 1)) ) ?_
    rintro _ Mq ⟨rfl, e_⟩
    subst Mq
    have bv_ := el_I (ml (crs ((dr 0 (mlp (mono e1 1) f_w) f_a) 0) ((dr 0 (mlp (mono e1 1) f_w) f_a) 1) ((dr 0 (mlp (mono e1 1) (dr 0 (mlp (mono e1 1) f_w) f_a)) f_a) 0) ((dr 0 (mlp (mono e1 1) (dr 0 (mlp (mono e1 1) f_w) f_a)) f_a) 1)) (iv (crs (f_w 0) (f_w 1) ((dr 0 (mlp (mono e1 1) f_w) f_a) 0) ((dr 0 (mlp (mono e1 1) f_w) f_a) 1))))
    refine ⟨by show (0 : Nat) ≠ 9; decide, (?_ : Wp 198 _ 97 59 [(1, 92), (1, a), (0, ((f_w 0).val : Int)), (0, ((f_w 1).val : Int)), (0, (((dr 0 (mlp (mono e1 1) f_w) f_a) 0).val : Int)), (0, (((dr 0 (mlp (mono e1 1) f_w) f_a) 1).val : Int)), (0, ((crs (f_w 0) (f_w 1) ((dr 0 (mlp (mono e1 1) f_w) f_a) 0) ((dr 0 (mlp (mono e1 1) f_w) f_a) 1)).val : Int)), (3, 0), (3, 0)] [(0, ((ml (crs ((dr 0 (mlp (mono e1 1) f_w) f_a) 0) ((dr 0 (mlp (mono e1 1) f_w) f_a) 1) ((dr 0 (mlp (mono e1 1) (dr 0 (mlp (mono e1 1) f_w) f_a)) f_a) 0) ((dr 0 (mlp (mono e1 1) (dr 0 (mlp (mono e1 1) f_w) f_a)) f_a) 1)) (iv (crs (f_w 0) (f_w 1) ((dr 0 (mlp (mono e1 1) f_w) f_a) 0) ((dr 0 (mlp (mono e1 1) f_w) f_a) 1)))).val : Int))] V85 _)⟩
    refine w_is [(1, 92), (1, a), (0, ((f_w 0).val : Int)), (0, ((f_w 1).val : Int)), (0, (((dr 0 (mlp (mono e1 1) f_w) f_a) 0).val : Int)), (0, (((dr 0 (mlp (mono e1 1) f_w) f_a) 1).val : Int)), (0, ((crs (f_w 0) (f_w 1) ((dr 0 (mlp (mono e1 1) f_w) f_a) 0) ((dr 0 (mlp (mono e1 1) f_w) f_a) 1)).val : Int)), (0, ((ml (crs ((dr 0 (mlp (mono e1 1) f_w) f_a) 0) ((dr 0 (mlp (mono e1 1) f_w) f_a) 1) ((dr 0 (mlp (mono e1 1) (dr 0 (mlp (mono e1 1) f_w) f_a)) f_a) 0) ((dr 0 (mlp (mono e1 1) (dr 0 (mlp (mono e1 1) f_w) f_a)) f_a) 1)) (iv (crs (f_w 0) (f_w 1) ((dr 0 (mlp (mono e1 1) f_w) f_a) 0) ((dr 0 (mlp (mono e1 1) f_w) f_a) 1)))).val : Int)), (3, 0)] hK rfl rfl rfl ?_
    refine w_al hK rfl rfl ?_
    refine w_getr (n := 0) (v := 1) hK rfl rfl (by decide) (by decide) rfl rfl rfl rfl ?_
    refine w_al hK rfl rfl ?_
    refine w_al hK rfl rfl ?_
    refine w_getr (n := 9) (v := 102) hK rfl rfl (by decide) (by decide) rfl rfl rfl rfl ?_
    refine w_ic hK rfl ?_
    refine w_call [(1, 102), (0, 0)] hK rfl rfl rfl rfl (Or.inr ⟨_, _, _, rfl, (isP_of (p := 102) rfl).nn, (isP_of (p := 102) rfl).lb, (isP_of (p := 102) rfl).o⟩) (c_atN C85 ⟨(isP_of (p := 102) rfl), pu_eq⟩ 0 (by omega)) ?_
    rintro _ Mq ⟨rfl, e_⟩
    subst Mq
    have bv_ := el_I ((dr 0 (mlp (mono e1 1) (dr 0 (mlp (mono e1 1) f_w) f_a)) f_a) 0)
    refine ⟨by show (0 : Nat) ≠ 9; decide, (?_ : Wp 198 _ 97 67 [(1, 92), (1, a), (0, ((f_w 0).val : Int)), (0, ((f_w 1).val : Int)), (0, (((dr 0 (mlp (mono e1 1) f_w) f_a) 0).val : Int)), (0, (((dr 0 (mlp (mono e1 1) f_w) f_a) 1).val : Int)), (0, ((crs (f_w 0) (f_w 1) ((dr 0 (mlp (mono e1 1) f_w) f_a) 0) ((dr 0 (mlp (mono e1 1) f_w) f_a) 1)).val : Int)), (0, ((ml (crs ((dr 0 (mlp (mono e1 1) f_w) f_a) 0) ((dr 0 (mlp (mono e1 1) f_w) f_a) 1) ((dr 0 (mlp (mono e1 1) (dr 0 (mlp (mono e1 1) f_w) f_a)) f_a) 0) ((dr 0 (mlp (mono e1 1) (dr 0 (mlp (mono e1 1) f_w) f_a)) f_a) 1)) (iv (crs (f_w 0) (f_w 1) ((dr 0 (mlp (mono e1 1) f_w) f_a) 0) ((dr 0 (mlp (mono e1 1) f_w) f_a) 1)))).val : Int)), (3, 0)] [(0, (((dr 0 (mlp (mono e1 1) (dr 0 (mlp (mono e1 1) f_w) f_a)) f_a) 0).val : Int)), (1, 92), (1, 1)] V85 _)⟩
    refine w_al hK rfl rfl ?_
    refine w_getr (n := 9) (v := 102) hK rfl rfl (by decide) (by decide) rfl rfl rfl rfl ?_
    refine w_ic hK rfl ?_
    refine w_call [(1, 102), (0, 1)] hK rfl rfl rfl rfl (Or.inr ⟨_, _, _, rfl, (isP_of (p := 102) rfl).nn, (isP_of (p := 102) rfl).lb, (isP_of (p := 102) rfl).o⟩) (c_atN C85 ⟨(isP_of (p := 102) rfl), pu_eq⟩ 1 (by omega)) ?_
    rintro _ Mq ⟨rfl, e_⟩
    subst Mq
    have bv_ := el_I ((dr 0 (mlp (mono e1 1) (dr 0 (mlp (mono e1 1) f_w) f_a)) f_a) 1)
    refine ⟨by show (0 : Nat) ≠ 9; decide, (?_ : Wp 198 _ 97 71 [(1, 92), (1, a), (0, ((f_w 0).val : Int)), (0, ((f_w 1).val : Int)), (0, (((dr 0 (mlp (mono e1 1) f_w) f_a) 0).val : Int)), (0, (((dr 0 (mlp (mono e1 1) f_w) f_a) 1).val : Int)), (0, ((crs (f_w 0) (f_w 1) ((dr 0 (mlp (mono e1 1) f_w) f_a) 0) ((dr 0 (mlp (mono e1 1) f_w) f_a) 1)).val : Int)), (0, ((ml (crs ((dr 0 (mlp (mono e1 1) f_w) f_a) 0) ((dr 0 (mlp (mono e1 1) f_w) f_a) 1) ((dr 0 (mlp (mono e1 1) (dr 0 (mlp (mono e1 1) f_w) f_a)) f_a) 0) ((dr 0 (mlp (mono e1 1) (dr 0 (mlp (mono e1 1) f_w) f_a)) f_a) 1)) (iv (crs (f_w 0) (f_w 1) ((dr 0 (mlp (mono e1 1) f_w) f_a) 0) ((dr 0 (mlp (mono e1 1) f_w) f_a) 1)))).val : Int)), (3, 0)] [(0, (((dr 0 (mlp (mono e1 1) (dr 0 (mlp (mono e1 1) f_w) f_a)) f_a) 1).val : Int)), (0, (((dr 0 (mlp (mono e1 1) (dr 0 (mlp (mono e1 1) f_w) f_a)) f_a) 0).val : Int)), (1, 92), (1, 1)] V85 _)⟩
    refine w_il hK rfl rfl ?_
    refine w_il hK rfl rfl ?_
    refine w_call [(1, 92), (0, (((dr 0 (mlp (mono e1 1) (dr 0 (mlp (mono e1 1) f_w) f_a)) f_a) 0).val : Int)), (0, (((dr 0 (mlp (mono e1 1) (dr 0 (mlp (mono e1 1) f_w) f_a)) f_a) 1).val : Int)), (0, ((f_w 0).val : Int)), (0, ((f_w 1).val : Int))] hK rfl rfl rfl rfl (Or.inr ⟨_, _, _, rfl, by decide, (by decide), rfl⟩) (c_cross C85 ((dr 0 (mlp (mono e1 1) (dr 0 (mlp (mono e1 1) f_w) f_a)) f_a) 0) ((dr 0 (mlp (mono e1 1) (dr 0 (mlp (mono e1 1) f_w) f_a)) f_a) 1) (f_w 0) (f_w 1)) ?_
    rintro _ Mq ⟨rfl, e_⟩
    subst Mq
    have bv_ := el_I (crs ((dr 0 (mlp (mono e1 1) (dr 0 (mlp (mono e1 1) f_w) f_a)) f_a) 0) ((dr 0 (mlp (mono e1 1) (dr 0 (mlp (mono e1 1) f_w) f_a)) f_a) 1) (f_w 0) (f_w 1))
    refine ⟨by show (0 : Nat) ≠ 9; decide, (?_ : Wp 198 _ 97 74 [(1, 92), (1, a), (0, ((f_w 0).val : Int)), (0, ((f_w 1).val : Int)), (0, (((dr 0 (mlp (mono e1 1) f_w) f_a) 0).val : Int)), (0, (((dr 0 (mlp (mono e1 1) f_w) f_a) 1).val : Int)), (0, ((crs (f_w 0) (f_w 1) ((dr 0 (mlp (mono e1 1) f_w) f_a) 0) ((dr 0 (mlp (mono e1 1) f_w) f_a) 1)).val : Int)), (0, ((ml (crs ((dr 0 (mlp (mono e1 1) f_w) f_a) 0) ((dr 0 (mlp (mono e1 1) f_w) f_a) 1) ((dr 0 (mlp (mono e1 1) (dr 0 (mlp (mono e1 1) f_w) f_a)) f_a) 0) ((dr 0 (mlp (mono e1 1) (dr 0 (mlp (mono e1 1) f_w) f_a)) f_a) 1)) (iv (crs (f_w 0) (f_w 1) ((dr 0 (mlp (mono e1 1) f_w) f_a) 0) ((dr 0 (mlp (mono e1 1) f_w) f_a) 1)))).val : Int)), (3, 0)] [(0, ((crs ((dr 0 (mlp (mono e1 1) (dr 0 (mlp (mono e1 1) f_w) f_a)) f_a) 0) ((dr 0 (mlp (mono e1 1) (dr 0 (mlp (mono e1 1) f_w) f_a)) f_a) 1) (f_w 0) (f_w 1)).val : Int)), (1, 1)] V85 _)⟩
    refine w_il hK rfl rfl ?_
    refine w_call [(1, 1), (0, ((crs ((dr 0 (mlp (mono e1 1) (dr 0 (mlp (mono e1 1) f_w) f_a)) f_a) 0) ((dr 0 (mlp (mono e1 1) (dr 0 (mlp (mono e1 1) f_w) f_a)) f_a) 1) (f_w 0) (f_w 1)).val : Int)), (0, ((crs (f_w 0) (f_w 1) ((dr 0 (mlp (mono e1 1) f_w) f_a) 0) ((dr 0 (mlp (mono e1 1) f_w) f_a) 1)).val : Int))] hK rfl rfl rfl rfl (Or.inr ⟨_, _, _, rfl, by decide, (by decide), rfl⟩) (c_ratio (by decide) C85.F (crs ((dr 0 (mlp (mono e1 1) (dr 0 (mlp (mono e1 1) f_w) f_a)) f_a) 0) ((dr 0 (mlp (mono e1 1) (dr 0 (mlp (mono e1 1) f_w) f_a)) f_a) 1) (f_w 0) (f_w 1)) (crs (f_w 0) (f_w 1) ((dr 0 (mlp (mono e1 1) f_w) f_a) 0) ((dr 0 (mlp (mono e1 1) f_w) f_a) 1)) ) ?_
    rintro _ Mq ⟨rfl, e_⟩
    subst Mq
    have bv_ := el_I (ml (crs ((dr 0 (mlp (mono e1 1) (dr 0 (mlp (mono e1 1) f_w) f_a)) f_a) 0) ((dr 0 (mlp (mono e1 1) (dr 0 (mlp (mono e1 1) f_w) f_a)) f_a) 1) (f_w 0) (f_w 1)) (iv (crs (f_w 0) (f_w 1) ((dr 0 (mlp (mono e1 1) f_w) f_a) 0) ((dr 0 (mlp (mono e1 1) f_w) f_a) 1))))
    refine ⟨by show (0 : Nat) ≠ 9; decide, (?_ : Wp 198 _ 97 76 [(1, 92), (1, a), (0, ((f_w 0).val : Int)), (0, ((f_w 1).val : Int)), (0, (((dr 0 (mlp (mono e1 1) f_w) f_a) 0).val : Int)), (0, (((dr 0 (mlp (mono e1 1) f_w) f_a) 1).val : Int)), (0, ((crs (f_w 0) (f_w 1) ((dr 0 (mlp (mono e1 1) f_w) f_a) 0) ((dr 0 (mlp (mono e1 1) f_w) f_a) 1)).val : Int)), (0, ((ml (crs ((dr 0 (mlp (mono e1 1) f_w) f_a) 0) ((dr 0 (mlp (mono e1 1) f_w) f_a) 1) ((dr 0 (mlp (mono e1 1) (dr 0 (mlp (mono e1 1) f_w) f_a)) f_a) 0) ((dr 0 (mlp (mono e1 1) (dr 0 (mlp (mono e1 1) f_w) f_a)) f_a) 1)) (iv (crs (f_w 0) (f_w 1) ((dr 0 (mlp (mono e1 1) f_w) f_a) 0) ((dr 0 (mlp (mono e1 1) f_w) f_a) 1)))).val : Int)), (3, 0)] [(0, ((ml (crs ((dr 0 (mlp (mono e1 1) (dr 0 (mlp (mono e1 1) f_w) f_a)) f_a) 0) ((dr 0 (mlp (mono e1 1) (dr 0 (mlp (mono e1 1) f_w) f_a)) f_a) 1) (f_w 0) (f_w 1)) (iv (crs (f_w 0) (f_w 1) ((dr 0 (mlp (mono e1 1) f_w) f_a) 0) ((dr 0 (mlp (mono e1 1) f_w) f_a) 1)))).val : Int))] V85 _)⟩
    refine w_is [(1, 92), (1, a), (0, ((f_w 0).val : Int)), (0, ((f_w 1).val : Int)), (0, (((dr 0 (mlp (mono e1 1) f_w) f_a) 0).val : Int)), (0, (((dr 0 (mlp (mono e1 1) f_w) f_a) 1).val : Int)), (0, ((crs (f_w 0) (f_w 1) ((dr 0 (mlp (mono e1 1) f_w) f_a) 0) ((dr 0 (mlp (mono e1 1) f_w) f_a) 1)).val : Int)), (0, ((ml (crs ((dr 0 (mlp (mono e1 1) f_w) f_a) 0) ((dr 0 (mlp (mono e1 1) f_w) f_a) 1) ((dr 0 (mlp (mono e1 1) (dr 0 (mlp (mono e1 1) f_w) f_a)) f_a) 0) ((dr 0 (mlp (mono e1 1) (dr 0 (mlp (mono e1 1) f_w) f_a)) f_a) 1)) (iv (crs (f_w 0) (f_w 1) ((dr 0 (mlp (mono e1 1) f_w) f_a) 0) ((dr 0 (mlp (mono e1 1) f_w) f_a) 1)))).val : Int)), (0, ((ml (crs ((dr 0 (mlp (mono e1 1) (dr 0 (mlp (mono e1 1) f_w) f_a)) f_a) 0) ((dr 0 (mlp (mono e1 1) (dr 0 (mlp (mono e1 1) f_w) f_a)) f_a) 1) (f_w 0) (f_w 1)) (iv (crs (f_w 0) (f_w 1) ((dr 0 (mlp (mono e1 1) f_w) f_a) 0) ((dr 0 (mlp (mono e1 1) f_w) f_a) 1)))).val : Int))] hK rfl rfl rfl ?_
    refine w_il hK rfl rfl ?_
    refine w_al hK rfl rfl ?_
    refine w_getr (n := 0) (v := 1) hK rfl rfl (by decide) (by decide) rfl rfl rfl rfl ?_
    refine w_geti (n := 1) (m := 1) hK rfl rfl (by decide) (by decide) rfl rfl rfl rfl ?_
    rw [show V85 1 1 = (qq k : Int) from C85.F.q]
    have ml_ := mul_sm2 (el_I (ml (crs ((dr 0 (mlp (mono e1 1) (dr 0 (mlp (mono e1 1) f_w) f_a)) f_a) 0) ((dr 0 (mlp (mono e1 1) (dr 0 (mlp (mono e1 1) f_w) f_a)) f_a) 1) (f_w 0) (f_w 1)) (iv (crs (f_w 0) (f_w 1) ((dr 0 (mlp (mono e1 1) f_w) f_a) 0) ((dr 0 (mlp (mono e1 1) f_w) f_a) 1))))).1 (el_I (ml (crs ((dr 0 (mlp (mono e1 1) (dr 0 (mlp (mono e1 1) f_w) f_a)) f_a) 0) ((dr 0 (mlp (mono e1 1) (dr 0 (mlp (mono e1 1) f_w) f_a)) f_a) 1) (f_w 0) (f_w 1)) (iv (crs (f_w 0) (f_w 1) ((dr 0 (mlp (mono e1 1) f_w) f_a) 0) ((dr 0 (mlp (mono e1 1) f_w) f_a) 1))))).2 (show (0 : Int) ≤ qq k by omega) q1_.2
    refine w_mul hK rfl (by omega) (by omega) ?_
    refine w_il hK rfl rfl ?_
    refine w_add hK rfl (by omega) (by omega) ?_
    refine w_iret hK rfl rfl ?_
    refine ⟨_, ?_, C85, (fun p pn102_ => (pu_ne (P := P) (f := dr 0 (mlp (mono e1 1) (dr 0 (mlp (mono e1 1) f_w) f_a)) f_a) (show p ≠ 102 by omega))), (fun a np_ => ((S85 a np_).trans (S84 a np_)))⟩
    unfold kcQ
    rw [if_neg (fun q => by have q2 := z0_iff.mp q; unfold sT at q2; omega)]
    rfl
  · refine w_ic hK rfl ?_
    refine w_iret hK rfl rfl ?_
    refine ⟨_, ?_, C85, (fun p pn102_ => (pu_ne (P := P) (f := dr 0 (mlp (mono e1 1) (dr 0 (mlp (mono e1 1) f_w) f_a)) f_a) (show p ≠ 102 by omega))), (fun a np_ => ((S85 a np_).trans (S84 a np_)))⟩
    unfold kcQ
    rw [if_pos (z0_iff.mpr (by show ((crs (f_w 0) (f_w 1) (sT f_a f_w 0) (sT f_a f_w 1)).val) = 0; unfold sT; omega))]
theorem MKd_next {k : Nat} {A : Pl k} {n c : Nat} (hc : 1 ≤ c) {j : Int} : MKd A n (c + 1) j ↔ MKd A n c j ∨ kc A n c = j := by
  constructor
  · intro ⟨i, h1, h2, h3⟩
    by_cases e : i = c
    · exact Or.inr (e ▸ h3)
    · exact Or.inl ⟨i, h1, by omega, h3⟩
  · intro h
    rcases h with ⟨i, h1, h2, h3⟩ | h
    · exact ⟨i, h1, by omega, h3⟩
    · exact ⟨c, hc, by omega, h⟩
set_option maxRecDepth 100000 in
theorem c_kin1 {d : Nat} {M : Mem} {k : Nat} {P : Int → Option (Pl k)} (C : CS M k P) {a : Int} {f_a : Pl k} (ha : isC P a f_a) (na_ : a ≠ 102) (hd : dg f_a = 1) : Ct 198 (d + 5) 95 [(1, 92), (1, a)] M (fun r_ M' => ∃ P' : Int → Option (Pl k), r_ = (0, sI (fun j => bz (MKd f_a 1 (qq k) (j : Int))) 256) ∧ CS M' k P' ∧ (∀ p : Int, p ≠ 102 → P' p = P p) ∧ (∀ a : Int, (∀ p : Int, isP p → a ≠ p ∧ a ≠ p + 1) → a ≠ 101 → M' a = M a)) := by
  have hK : cd 95 = k95 := rfl
  have q1_ := qq_I k
  have q2_ := qq_sq k
  have q4_ : 4 * (qq k : Int) ≤ (qq k : Int) * (qq k : Int) := Int.mul_le_mul_of_nonneg_right q1_.1 (by omega)
  have q3_ : ((qq k * qq k : Nat) : Int) = (qq k : Int) * (qq k : Int) := Int.natCast_mul ..
  show Wp 198 _ 95 0 [(1, 92), (1, a), (3, 0), (3, 0), (3, 0), (3, 0)] [] M _
  refine w_ic hK rfl ?_
  refine w_is [(1, 92), (1, a), (0, 0), (3, 0), (3, 0), (3, 0)] hK rfl rfl rfl ?_
  have lp2 : ∀ (n_ : Nat) (i : Nat) (D1 : Int → Int) (w3 w4 w5 : AV) (N2 : Mem), 257 - i = n_ → (i ≤ 256) → (N2 101 = D1) → (∀ j : Nat, j < i → D1 (j : Int) = 0) → ((∀ a : Int, a ≠ 101 → N2 a = M a)) → Wp 198 (d + 5) 95 2 [(1, 92), (1, a), (0, (i : Int)), w3, w4, w5] [] N2 (fun r_ M' => ∃ P' : Int → Option (Pl k), r_ = (0, sI (fun j => bz (MKd f_a 1 (qq k) (j : Int))) 256) ∧ CS M' k P' ∧ (∀ p : Int, p ≠ 102 → P' p = P p) ∧ (∀ a : Int, (∀ p : Int, isP p → a ≠ p ∧ a ≠ p + 1) → a ≠ 101 → M' a = M a)) := by
    intro n_
    induction n_ using Nat.strongRecOn with
    | _ n_ ih2 =>
    intro i D1 w3 w4 w5 N2 hm2 hi hD hz hF
    refine w_il hK rfl rfl ?_
    refine w_al hK rfl rfl ?_
    refine w_getr (n := 8) (v := 101) hK rfl rfl (by decide) (by decide) rfl rfl rfl rfl ?_
    refine w_len hK rfl rfl (by decide) (by decide) rfl ?_
    refine w_ge2 hK rfl (by omega) (by omega) (by omega) (by omega) (fun h6 => ?_) (fun h6 => ?_)
    · have ei_ : i = 256 := by omega
      have hz256_ := hz
      refine w_ic hK rfl ?_
      refine w_is [(1, 92), (1, a), (0, 0), w3, w4, w5] hK rfl rfl rfl ?_
      refine w_al hK rfl rfl ?_
      refine w_pt hK rfl ha.1 ?_
      rw [show N2 a 1 = dg f_a from (CS.congr C (fun a ha_ => hF a (CSc_ne ha_ (by decide) (notP rfl)))).t ha]
      have tI_ := CS.dI (CS.congr C (fun a ha_ => hF a (CSc_ne ha_ (by decide) (notP rfl)))) ha
      refine w_ic hK rfl ?_
      refine w_ne2 hK rfl (by omega) (by omega) (by omega) (by omega) (fun h19 => ?_) (fun h19 => ?_)
      · exfalso; omega
      · refine w_al hK rfl rfl ?_
        refine w_getr (n := 0) (v := 1) hK rfl rfl (by decide) (by decide) rfl rfl rfl rfl ?_
        refine w_geti (n := 1) (m := 1) hK rfl rfl (by decide) (by decide) rfl rfl rfl rfl ?_
        rw [show N2 1 1 = (qq k : Int) from (CS.congr C (fun a ha_ => hF a (CSc_ne ha_ (by decide) (notP rfl)))).F.q]
        refine w_goto hK rfl ?_
        refine w_is [(1, 92), (1, a), (0, 0), (0, (qq k : Int)), w4, w5] hK rfl rfl rfl ?_
        refine w_ic hK rfl ?_
        refine w_is [(1, 92), (1, a), (0, 0), (0, (qq k : Int)), (0, 1), w5] hK rfl rfl rfl ?_
        have lp34 : ∀ (n_ : Nat) (c : Nat) (P1 : Int → Option (Pl k)) (D1 : Int → Int) (w5 : AV) (N34 : Mem), 257 - c = n_ → (1 ≤ c ∧ (c : Int) ≤ (qq k : Int)) → (CS N34 k P1) → (N34 101 = D1) → (∀ j : Nat, j < 256 → D1 (j : Int) = bz (MKd f_a 1 c (j : Int))) → ((∀ p : Int, p ≠ 102 → P1 p = P p)) → ((∀ a : Int, (∀ p : Int, isP p → a ≠ p ∧ a ≠ p + 1) → a ≠ 101 → N34 a = M a)) → Wp 198 (d + 5) 95 34 [(1, 92), (1, a), (0, (sI (fun j => bz (MKd f_a 1 c (j : Int))) 256)), (0, (qq k : Int)), (0, (c : Int)), w5] [] N34 (fun r_ M' => ∃ P' : Int → Option (Pl k), r_ = (0, sI (fun j => bz (MKd f_a 1 (qq k) (j : Int))) 256) ∧ CS M' k P' ∧ (∀ p : Int, p ≠ 102 → P' p = P p) ∧ (∀ a : Int, (∀ p : Int, isP p → a ≠ p ∧ a ≠ p + 1) → a ≠ 101 → M' a = M a)) := by
          intro n_
          induction n_ using Nat.strongRecOn with
          | _ n_ ih34 =>
          intro c P1 D1 w5 N34 hm34 hc hC hD hDv hP hF
          have sb_ := sI_bz (q := fun j => MKd f_a 1 c (j : Int)) 256
          refine w_il hK rfl rfl ?_
          refine w_il hK rfl rfl ?_
          refine w_ge2 hK rfl (by omega) (by omega) (by omega) (by omega) (fun h36 => ?_) (fun h36 => ?_)
          · refine w_il hK rfl rfl ?_
            refine w_iret hK rfl rfl ?_
            have ec_ : c = qq k := by omega
            exact ⟨P1, by rw [ec_], hC, hP, hF⟩
          · refine w_al hK rfl rfl ?_
            refine w_getr (n := 0) (v := 1) hK rfl rfl (by decide) (by decide) rfl rfl rfl rfl ?_
            refine w_geti (n := 1) (m := 1) hK rfl rfl (by decide) (by decide) rfl rfl rfl rfl ?_
            rw [show N34 1 1 = (qq k : Int) from hC.F.q]
            refine w_le hK rfl (by omega) (by omega) (fun h40 => ?_) (fun h40 => ?_)
            · exfalso; omega
            · refine w_al hK rfl rfl ?_
              refine w_getr (n := 9) (v := 102) hK rfl rfl (by decide) (by decide) rfl rfl rfl rfl ?_
              refine w_il hK rfl rfl ?_
              refine w_al hK rfl rfl ?_
              refine w_getr (n := 0) (v := 1) hK rfl rfl (by decide) (by decide) rfl rfl rfl rfl ?_
              refine w_geti (n := 1) (m := 1) hK rfl rfl (by decide) (by decide) rfl rfl rfl rfl ?_
              rw [show N34 1 1 = (qq k : Int) from hC.F.q]
              refine w_rem hK rfl (by omega) (by omega) (by omega) (by omega) ?_
              rw [modI]
              have mi_ := Nat.mod_lt c (qq_pos k)
              refine w_call [(1, 102), (0, ((c % qq k : Nat) : Int))] hK rfl rfl rfl rfl (Or.inr ⟨_, _, _, rfl, (isP_of (p := 102) rfl).nn, (isP_of (p := 102) rfl).lb, (isP_of (p := 102) rfl).o⟩) (Ct.cv (c_bec hC (isP_of (p := 102) rfl) (el k (c % qq k : Nat))) (by simp only [(elN (k := k) (n := (c % qq k : Nat)) (by omega))]; try rfl)) ?_
              rintro _ V86 ⟨rfl, C86, S86⟩
              refine ⟨by decide, (?_ : Wp 198 _ 95 49 [(1, 92), (1, a), (0, (sI (fun j => bz (MKd f_a 1 c (j : Int))) 256)), (0, (qq k : Int)), (0, (c : Int)), w5] [] V86 _)⟩
              refine w_al hK rfl rfl ?_
              refine w_getr (n := 9) (v := 102) hK rfl rfl (by decide) (by decide) rfl rfl rfl rfl ?_
              refine w_ic hK rfl ?_
              refine w_il hK rfl rfl ?_
              refine w_al hK rfl rfl ?_
              refine w_getr (n := 0) (v := 1) hK rfl rfl (by decide) (by decide) rfl rfl rfl rfl ?_
              refine w_geti (n := 1) (m := 1) hK rfl rfl (by decide) (by decide) rfl rfl rfl rfl ?_
              rw [show V86 1 1 = (qq k : Int) from C86.F.q]
              refine w_div hK rfl (by omega) (by omega) (by omega) (by omega) ?_
              rw [divI]
              have di_ := (Nat.div_lt_iff_lt_mul (qq_pos k)).mpr (show c < qq k * qq k by omega)
              refine w_call [(1, 102), (0, 1), (0, ((c / qq k : Nat) : Int))] hK rfl rfl rfl rfl (Or.inr ⟨_, _, _, rfl, (isP_of (p := 102) rfl).nn, (isP_of (p := 102) rfl).lb, (isP_of (p := 102) rfl).o⟩) (Ct.cv (c_putN C86 ⟨(isP_of (p := 102) rfl), pu_eq⟩ 1 (el k (c / qq k : Nat)) (by omega)) (by simp only [(elN (k := k) (n := (c / qq k : Nat)) (by omega))]; try rfl)) ?_
              rintro _ V87 ⟨rfl, C87, S87⟩
              rw [pu_pu (P := P1) (p := 102) (f := cst (el k (c % qq k : Nat))) (g := up1 (cst (el k (c % qq k : Nat))) 1 (el k (c / qq k : Nat)))] at C87
              refine ⟨by decide, (?_ : Wp 198 _ 95 58 [(1, 92), (1, a), (0, (sI (fun j => bz (MKd f_a 1 c (j : Int))) 256)), (0, (qq k : Int)), (0, (c : Int)), w5] [] V87 _)⟩
              refine w_al hK rfl rfl ?_
              refine w_pt hK rfl ha.1 ?_
              rw [show V87 a 1 = dg f_a from C87.t ⟨ha.1, ((pu_ne (P := P1) (f := up1 (cst (el k (c % qq k : Nat))) 1 (el k (c / qq k : Nat))) (show a ≠ 102 by omega)).trans ((hP a (by omega)).trans ha.2))⟩]
              have tI_ := CS.dI C87 ⟨ha.1, ((pu_ne (P := P1) (f := up1 (cst (el k (c % qq k : Nat))) 1 (el k (c / qq k : Nat))) (show a ≠ 102 by omega)).trans ((hP a (by omega)).trans ha.2))⟩
              refine w_ic hK rfl ?_
              refine w_ne2 hK rfl (by omega) (by omega) (by omega) (by omega) (fun h61 => ?_) (fun h61 => ?_)
              · exfalso; omega
              · refine w_al hK rfl rfl ?_
                refine w_al hK rfl rfl ?_
                refine w_call [(1, 92), (1, a)] hK rfl rfl rfl rfl (Or.inr ⟨_, _, _, rfl, by decide, (by decide), rfl⟩) (c_linK C87 pu_eq ⟨ha.1, ((pu_ne (P := P1) (f := up1 (cst (el k (c % qq k : Nat))) 1 (el k (c / qq k : Nat))) (show a ≠ 102 by omega)).trans ((hP a (by omega)).trans ha.2))⟩ (by omega) (by show dg (vc c) < dg f_a; have := vc_dg (k := k) (c := c); have := vc_dg0 (k := k) (c := c) (by omega); omega)) ?_
                rintro _ V88 ⟨P88, rfl, C88, F88, S88⟩
                have kI_ := kcL_I f_a (vc c)
                have ke_ : kc f_a 1 c = kcL f_a (vc c) := by unfold kc; rw [if_pos (by decide)]
                refine ⟨(by show (0 : Nat) ≠ 9; decide), (?_ : Wp 198 _ 95 65 [(1, 92), (1, a), (0, (sI (fun j => bz (MKd f_a 1 c (j : Int))) 256)), (0, (qq k : Int)), (0, (c : Int)), w5] [(0, (kcL f_a (vc c)))] V88 _)⟩
                refine w_goto hK rfl ?_
                refine w_is [(1, 92), (1, a), (0, (sI (fun j => bz (MKd f_a 1 c (j : Int))) 256)), (0, (qq k : Int)), (0, (c : Int)), (0, (kcL f_a (vc c)))] hK rfl rfl rfl ?_
                refine w_il hK rfl rfl ?_
                refine w_lt hK rfl (by omega) (by omega) (fun h71 => ?_) (fun h71 => ?_)
                · exfalso; omega
                · refine w_il hK rfl rfl ?_
                  refine w_al hK rfl rfl ?_
                  refine w_getr (n := 8) (v := 101) hK rfl rfl (by decide) (by decide) rfl rfl rfl rfl ?_
                  refine w_len hK rfl rfl (by decide) (by decide) rfl ?_
                  refine w_ge2 hK rfl (by omega) (by omega) (by omega) (by omega) (fun h76 => ?_) (fun h76 => ?_)
                  · exfalso; omega
                  · refine w_al hK rfl rfl ?_
                    refine w_getr (n := 8) (v := 101) hK rfl rfl (by decide) (by decide) rfl rfl rfl rfl ?_
                    refine w_il hK rfl rfl ?_
                    refine w_ia hK rfl rfl (by decide) (by decide) (by omega) (by omega) ?_
                    rw [show V88 101 (kcL f_a (vc c)) = (D1 (kcL f_a (vc c))) from ((congrFun (S88 101 (notP rfl)) (kcL f_a (vc c))).trans ((congrFun (S87 101 (notP rfl)) (kcL f_a (vc c))).trans ((congrFun (S86 101 (notP rfl)) (kcL f_a (vc c))).trans (congrFun hD (kcL f_a (vc c))))))]
                    obtain ⟨v_, ev_⟩ : ∃ v_ : Nat, (v_ : Int) = kcL f_a (vc c) := ⟨(kcL f_a (vc c)).toNat, by omega⟩
                    have d_ := hDv v_ (by omega)
                    rw [ev_] at d_
                    have bz_ := bz_01 (MKd f_a 1 c (kcL f_a (vc c)))
                    refine w_ne hK rfl (by omega) (by omega) (fun h81 => ?_) (fun h81 => ?_)
                    · obtain ⟨v_, ev_⟩ : ∃ v_ : Nat, (v_ : Int) = kcL f_a (vc c) := ⟨(kcL f_a (vc c)).toNat, by omega⟩
                      have old_ : ∀ j : Nat, kc f_a 1 c = (j : Int) → MKd f_a 1 c (j : Int) := fun j e => by
                        have d_ := hDv v_ (by omega)
                        rw [ev_] at d_
                        have ej_ : (j : Int) = (v_ : Int) := by omega
                        rw [ej_]
                        refine bz_yes ?_
                        rw [ev_]
                        omega
                      refine w_inc [(1, 92), (1, a), (0, (sI (fun j => bz (MKd f_a 1 c (j : Int))) 256)), (0, (qq k : Int)), (0, ((c : Int) + 1)), (0, (kcL f_a (vc c)))] hK rfl rfl rfl (by omega) (by omega) rfl ?_
                      refine w_goto hK rfl ?_
                      have q34 := ih34 _ (by omega) (c + 1) _ _ (0, (kcL f_a (vc c))) V88 rfl (by omega) C88 ((S88 101 (notP rfl)).trans ((S87 101 (notP rfl)).trans ((S86 101 (notP rfl)).trans hD))) (fun j hj => by
                        rw [hDv j hj]
                        exact bz_congr ⟨fun h => (MKd_next (by omega)).mpr (Or.inl h), fun h => ((MKd_next (by omega)).mp h).elim id (fun e => old_ j e)⟩) (fun p pn102_ => ((F88 p pn102_).trans ((pu_ne (P := P1) (f := up1 (cst (el k (c % qq k : Nat))) 1 (el k (c / qq k : Nat))) (show p ≠ 102 by omega)).trans (hP p pn102_)))) (fun a np_ n101_ => ((S88 a np_).trans ((S87 a np_).trans ((S86 a np_).trans (hF a np_ n101_)))))
                      rw [sI_congr (g := fun j => bz (MKd f_a 1 c (j : Int))) (fun j hj => bz_congr ⟨fun h => ((MKd_next (by omega)).mp h).elim id (fun e => old_ j e), fun h => (MKd_next (by omega)).mpr (Or.inl h)⟩), show ((c + 1 : Nat) : Int) = (c : Int) + 1 from rfl] at q34
                      exact q34
                    · refine w_al hK rfl rfl ?_
                      refine w_getr (n := 8) (v := 101) hK rfl rfl (by decide) (by decide) rfl rfl rfl rfl ?_
                      refine w_il hK rfl rfl ?_
                      refine w_ic hK rfl ?_
                      refine w_iat hK rfl rfl (by decide) (by decide) (by omega) (by omega) ?_
                      refine w_inc [(1, 92), (1, a), (0, ((sI (fun j => bz (MKd f_a 1 c (j : Int))) 256) + 1)), (0, (qq k : Int)), (0, (c : Int)), (0, (kcL f_a (vc c)))] hK rfl rfl rfl (by omega) (by omega) rfl ?_
                      refine w_inc [(1, 92), (1, a), (0, ((sI (fun j => bz (MKd f_a 1 c (j : Int))) 256) + 1)), (0, (qq k : Int)), (0, ((c : Int) + 1)), (0, (kcL f_a (vc c)))] hK rfl rfl rfl (by omega) (by omega) rfl ?_
                      refine w_goto hK rfl ?_
                      have q34 := ih34 _ (by omega) (c + 1) _ _ (0, (kcL f_a (vc c))) (up V88 101 (kcL f_a (vc c)) 1) rfl (by omega) (CS.upc C88 (by decide) (notP rfl)) (up_upr ((S88 101 (notP rfl)).trans ((S87 101 (notP rfl)).trans ((S86 101 (notP rfl)).trans hD)))) (fun j hj => by
                        by_cases q : (j : Int) = kcL f_a (vc c)
                        · rw [q, upr_eq, bz_pos ((MKd_next (by omega)).mpr (Or.inr ke_))]
                        · rw [upr_ne q, hDv j hj]
                          exact bz_congr ⟨fun h => (MKd_next (by omega)).mpr (Or.inl h), fun h => ((MKd_next (by omega)).mp h).resolve_right (fun e => q (by omega))⟩) (fun p pn102_ => ((F88 p pn102_).trans ((pu_ne (P := P1) (f := up1 (cst (el k (c % qq k : Nat))) 1 (el k (c / qq k : Nat))) (show p ≠ 102 by omega)).trans (hP p pn102_)))) (fun a np_ n101_ => ((up_row n101_).trans ((S88 a np_).trans ((S87 a np_).trans ((S86 a np_).trans (hF a np_ n101_))))))
                      obtain ⟨v_, ev_⟩ : ∃ v_ : Nat, (v_ : Int) = kcL f_a (vc c) := ⟨(kcL f_a (vc c)).toNat, by omega⟩
                      have sm_ := sI_one (f := fun j => bz (MKd f_a 1 c (j : Int))) (g := fun j => bz (MKd f_a 1 (c + 1) (j : Int))) (v := v_) (fun j hj => bz_congr ⟨fun h => ((MKd_next (by omega)).mp h).resolve_right (fun e => hj (by omega)), fun h => (MKd_next (by omega)).mpr (Or.inl h)⟩) (by
                        have d_ := hDv v_ (by omega)
                        rw [ev_] at d_
                        show bz (MKd f_a 1 (c + 1) (v_ : Int)) = bz (MKd f_a 1 c (v_ : Int)) + 1
                        rw [bz_pos ((MKd_next (by omega)).mpr (Or.inr (ke_.trans ev_.symm))), ev_]
                        omega) (n := 256)
                      rw [if_pos (by omega)] at sm_
                      rw [sm_, show ((c + 1 : Nat) : Int) = (c : Int) + 1 from rfl] at q34
                      exact q34
        have q34 := lp34 _ 1 _ _ w5 N2 rfl (by omega) (CS.congr C (fun a ha_ => hF a (CSc_ne ha_ (by decide) (notP rfl)))) hD (fun j hj => by rw [hz j (by omega), bz_neg (fun ⟨i, h1, h2, _⟩ => by omega)]) (fun p pn102_ => rfl) (fun a np_ n101_ => (hF a n101_))
        rw [show sI (fun j => bz (MKd f_a 1 1 (j : Int))) 256 = 0 from (sI_congr (g := fun _ => 0) (fun j hj => bz_neg (fun ⟨i, h1, h2, _⟩ => by omega))).trans sI_0s] at q34
        exact q34
    · refine w_al hK rfl rfl ?_
      refine w_getr (n := 8) (v := 101) hK rfl rfl (by decide) (by decide) rfl rfl rfl rfl ?_
      refine w_il hK rfl rfl ?_
      refine w_ic hK rfl ?_
      refine w_iat hK rfl rfl (by decide) (by decide) (by omega) (by omega) ?_
      refine w_inc [(1, 92), (1, a), (0, ((i : Int) + 1)), w3, w4, w5] hK rfl rfl rfl (by omega) (by omega) rfl ?_
      refine w_goto hK rfl ?_
      exact ih2 _ (by omega) (i + 1) _ w3 w4 w5 (up N2 101 (i : Int) 0) rfl (by omega) (up_upr hD) (fun j hj => by
        by_cases q : j = i
        · rw [q, upr_eq]
        · rw [upr_ne (by omega)]; exact hz j (by omega)) (fun a n101_ => ((up_row n101_).trans (hF a n101_)))
  exact lp2 _ 0 (M 101) (3, 0) (3, 0) (3, 0) M rfl (by omega) rfl (fun j hj => by omega) (fun a _ => rfl)
set_option maxRecDepth 100000 in
theorem c_kin2 {d : Nat} {M : Mem} {k : Nat} {P : Int → Option (Pl k)} (C : CS M k P) {a : Int} {f_a : Pl k} (ha : isC P a f_a) (na_ : a ≠ 102) (hd : dg f_a = 2) : Ct 198 (d + 5) 95 [(1, 92), (1, a)] M (fun r_ M' => ∃ P' : Int → Option (Pl k), r_ = (0, sI (fun j => bz (MKd f_a 2 (qq k * qq k) (j : Int))) 256) ∧ CS M' k P' ∧ (∀ p : Int, p ≠ 102 → P' p = P p) ∧ (∀ a : Int, (∀ p : Int, isP p → a ≠ p ∧ a ≠ p + 1) → a ≠ 101 → M' a = M a)) := by
  have hK : cd 95 = k95 := rfl
  have q1_ := qq_I k
  have q2_ := qq_sq k
  have q4_ : 4 * (qq k : Int) ≤ (qq k : Int) * (qq k : Int) := Int.mul_le_mul_of_nonneg_right q1_.1 (by omega)
  have q3_ : ((qq k * qq k : Nat) : Int) = (qq k : Int) * (qq k : Int) := Int.natCast_mul ..
  show Wp 198 _ 95 0 [(1, 92), (1, a), (3, 0), (3, 0), (3, 0), (3, 0)] [] M _
  refine w_ic hK rfl ?_
  refine w_is [(1, 92), (1, a), (0, 0), (3, 0), (3, 0), (3, 0)] hK rfl rfl rfl ?_
  have lp2 : ∀ (n_ : Nat) (i : Nat) (D1 : Int → Int) (w3 w4 w5 : AV) (N2 : Mem), 257 - i = n_ → (i ≤ 256) → (N2 101 = D1) → (∀ j : Nat, j < i → D1 (j : Int) = 0) → ((∀ a : Int, a ≠ 101 → N2 a = M a)) → Wp 198 (d + 5) 95 2 [(1, 92), (1, a), (0, (i : Int)), w3, w4, w5] [] N2 (fun r_ M' => ∃ P' : Int → Option (Pl k), r_ = (0, sI (fun j => bz (MKd f_a 2 (qq k * qq k) (j : Int))) 256) ∧ CS M' k P' ∧ (∀ p : Int, p ≠ 102 → P' p = P p) ∧ (∀ a : Int, (∀ p : Int, isP p → a ≠ p ∧ a ≠ p + 1) → a ≠ 101 → M' a = M a)) := by
    intro n_
    induction n_ using Nat.strongRecOn with
    | _ n_ ih2 =>
    intro i D1 w3 w4 w5 N2 hm2 hi hD hz hF
    refine w_il hK rfl rfl ?_
    refine w_al hK rfl rfl ?_
    refine w_getr (n := 8) (v := 101) hK rfl rfl (by decide) (by decide) rfl rfl rfl rfl ?_
    refine w_len hK rfl rfl (by decide) (by decide) rfl ?_
    refine w_ge2 hK rfl (by omega) (by omega) (by omega) (by omega) (fun h6 => ?_) (fun h6 => ?_)
    · have ei_ : i = 256 := by omega
      have hz256_ := hz
      refine w_ic hK rfl ?_
      refine w_is [(1, 92), (1, a), (0, 0), w3, w4, w5] hK rfl rfl rfl ?_
      refine w_al hK rfl rfl ?_
      refine w_pt hK rfl ha.1 ?_
      rw [show N2 a 1 = dg f_a from (CS.congr C (fun a ha_ => hF a (CSc_ne ha_ (by decide) (notP rfl)))).t ha]
      have tI_ := CS.dI (CS.congr C (fun a ha_ => hF a (CSc_ne ha_ (by decide) (notP rfl)))) ha
      refine w_ic hK rfl ?_
      refine w_ne2 hK rfl (by omega) (by omega) (by omega) (by omega) (fun h19 => ?_) (fun h19 => ?_)
      · refine w_al hK rfl rfl ?_
        refine w_getr (n := 0) (v := 1) hK rfl rfl (by decide) (by decide) rfl rfl rfl rfl ?_
        refine w_geti (n := 1) (m := 1) hK rfl rfl (by decide) (by decide) rfl rfl rfl rfl ?_
        rw [show N2 1 1 = (qq k : Int) from (CS.congr C (fun a ha_ => hF a (CSc_ne ha_ (by decide) (notP rfl)))).F.q]
        refine w_al hK rfl rfl ?_
        refine w_getr (n := 0) (v := 1) hK rfl rfl (by decide) (by decide) rfl rfl rfl rfl ?_
        refine w_geti (n := 1) (m := 1) hK rfl rfl (by decide) (by decide) rfl rfl rfl rfl ?_
        rw [show N2 1 1 = (qq k : Int) from (CS.congr C (fun a ha_ => hF a (CSc_ne ha_ (by decide) (notP rfl)))).F.q]
        refine w_mul hK rfl (by omega) (by omega) ?_
        refine w_is [(1, 92), (1, a), (0, 0), (0, ((qq k : Int) * (qq k : Int))), w4, w5] hK rfl rfl rfl ?_
        refine w_ic hK rfl ?_
        refine w_is [(1, 92), (1, a), (0, 0), (0, ((qq k : Int) * (qq k : Int))), (0, 1), w5] hK rfl rfl rfl ?_
        have lp34 : ∀ (n_ : Nat) (c : Nat) (P1 : Int → Option (Pl k)) (D1 : Int → Int) (w5 : AV) (N34 : Mem), 257 - c = n_ → (1 ≤ c ∧ (c : Int) ≤ ((qq k : Int) * (qq k : Int))) → (CS N34 k P1) → (N34 101 = D1) → (∀ j : Nat, j < 256 → D1 (j : Int) = bz (MKd f_a 2 c (j : Int))) → ((∀ p : Int, p ≠ 102 → P1 p = P p)) → ((∀ a : Int, (∀ p : Int, isP p → a ≠ p ∧ a ≠ p + 1) → a ≠ 101 → N34 a = M a)) → Wp 198 (d + 5) 95 34 [(1, 92), (1, a), (0, (sI (fun j => bz (MKd f_a 2 c (j : Int))) 256)), (0, ((qq k : Int) * (qq k : Int))), (0, (c : Int)), w5] [] N34 (fun r_ M' => ∃ P' : Int → Option (Pl k), r_ = (0, sI (fun j => bz (MKd f_a 2 (qq k * qq k) (j : Int))) 256) ∧ CS M' k P' ∧ (∀ p : Int, p ≠ 102 → P' p = P p) ∧ (∀ a : Int, (∀ p : Int, isP p → a ≠ p ∧ a ≠ p + 1) → a ≠ 101 → M' a = M a)) := by
          intro n_
          induction n_ using Nat.strongRecOn with
          | _ n_ ih34 =>
          intro c P1 D1 w5 N34 hm34 hc hC hD hDv hP hF
          have sb_ := sI_bz (q := fun j => MKd f_a 2 c (j : Int)) 256
          refine w_il hK rfl rfl ?_
          refine w_il hK rfl rfl ?_
          refine w_ge2 hK rfl (by omega) (by omega) (by omega) (by omega) (fun h36 => ?_) (fun h36 => ?_)
          · refine w_il hK rfl rfl ?_
            refine w_iret hK rfl rfl ?_
            have ec_ : c = qq k * qq k := by omega
            exact ⟨P1, by rw [ec_], hC, hP, hF⟩
          · refine w_al hK rfl rfl ?_
            refine w_getr (n := 0) (v := 1) hK rfl rfl (by decide) (by decide) rfl rfl rfl rfl ?_
            refine w_geti (n := 1) (m := 1) hK rfl rfl (by decide) (by decide) rfl rfl rfl rfl ?_
            rw [show N34 1 1 = (qq k : Int) from hC.F.q]
            refine w_le hK rfl (by omega) (by omega) (fun h40 => ?_) (fun h40 => ?_)
            · exfalso; omega
            · refine w_al hK rfl rfl ?_
              refine w_getr (n := 9) (v := 102) hK rfl rfl (by decide) (by decide) rfl rfl rfl rfl ?_
              refine w_il hK rfl rfl ?_
              refine w_al hK rfl rfl ?_
              refine w_getr (n := 0) (v := 1) hK rfl rfl (by decide) (by decide) rfl rfl rfl rfl ?_
              refine w_geti (n := 1) (m := 1) hK rfl rfl (by decide) (by decide) rfl rfl rfl rfl ?_
              rw [show N34 1 1 = (qq k : Int) from hC.F.q]
              refine w_rem hK rfl (by omega) (by omega) (by omega) (by omega) ?_
              rw [modI]
              have mi_ := Nat.mod_lt c (qq_pos k)
              refine w_call [(1, 102), (0, ((c % qq k : Nat) : Int))] hK rfl rfl rfl rfl (Or.inr ⟨_, _, _, rfl, (isP_of (p := 102) rfl).nn, (isP_of (p := 102) rfl).lb, (isP_of (p := 102) rfl).o⟩) (Ct.cv (c_bec hC (isP_of (p := 102) rfl) (el k (c % qq k : Nat))) (by simp only [(elN (k := k) (n := (c % qq k : Nat)) (by omega))]; try rfl)) ?_
              rintro _ V89 ⟨rfl, C89, S89⟩
              refine ⟨by decide, (?_ : Wp 198 _ 95 49 [(1, 92), (1, a), (0, (sI (fun j => bz (MKd f_a 2 c (j : Int))) 256)), (0, ((qq k : Int) * (qq k : Int))), (0, (c : Int)), w5] [] V89 _)⟩
              refine w_al hK rfl rfl ?_
              refine w_getr (n := 9) (v := 102) hK rfl rfl (by decide) (by decide) rfl rfl rfl rfl ?_
              refine w_ic hK rfl ?_
              refine w_il hK rfl rfl ?_
              refine w_al hK rfl rfl ?_
              refine w_getr (n := 0) (v := 1) hK rfl rfl (by decide) (by decide) rfl rfl rfl rfl ?_
              refine w_geti (n := 1) (m := 1) hK rfl rfl (by decide) (by decide) rfl rfl rfl rfl ?_
              rw [show V89 1 1 = (qq k : Int) from C89.F.q]
              refine w_div hK rfl (by omega) (by omega) (by omega) (by omega) ?_
              rw [divI]
              have di_ := (Nat.div_lt_iff_lt_mul (qq_pos k)).mpr (show c < qq k * qq k by omega)
              refine w_call [(1, 102), (0, 1), (0, ((c / qq k : Nat) : Int))] hK rfl rfl rfl rfl (Or.inr ⟨_, _, _, rfl, (isP_of (p := 102) rfl).nn, (isP_of (p := 102) rfl).lb, (isP_of (p := 102) rfl).o⟩) (Ct.cv (c_putN C89 ⟨(isP_of (p := 102) rfl), pu_eq⟩ 1 (el k (c / qq k : Nat)) (by omega)) (by simp only [(elN (k := k) (n := (c / qq k : Nat)) (by omega))]; try rfl)) ?_
              rintro _ V90 ⟨rfl, C90, S90⟩
              rw [pu_pu (P := P1) (p := 102) (f := cst (el k (c % qq k : Nat))) (g := up1 (cst (el k (c % qq k : Nat))) 1 (el k (c / qq k : Nat)))] at C90
              refine ⟨by decide, (?_ : Wp 198 _ 95 58 [(1, 92), (1, a), (0, (sI (fun j => bz (MKd f_a 2 c (j : Int))) 256)), (0, ((qq k : Int) * (qq k : Int))), (0, (c : Int)), w5] [] V90 _)⟩
              refine w_al hK rfl rfl ?_
              refine w_pt hK rfl ha.1 ?_
              rw [show V90 a 1 = dg f_a from C90.t ⟨ha.1, ((pu_ne (P := P1) (f := up1 (cst (el k (c % qq k : Nat))) 1 (el k (c / qq k : Nat))) (show a ≠ 102 by omega)).trans ((hP a (by omega)).trans ha.2))⟩]
              have tI_ := CS.dI C90 ⟨ha.1, ((pu_ne (P := P1) (f := up1 (cst (el k (c % qq k : Nat))) 1 (el k (c / qq k : Nat))) (show a ≠ 102 by omega)).trans ((hP a (by omega)).trans ha.2))⟩
              refine w_ic hK rfl ?_
              refine w_ne2 hK rfl (by omega) (by omega) (by omega) (by omega) (fun h61 => ?_) (fun h61 => ?_)
              · refine w_al hK rfl rfl ?_
                refine w_al hK rfl rfl ?_
                refine w_call [(1, 92), (1, a)] hK rfl rfl rfl rfl (Or.inr ⟨_, _, _, rfl, by decide, (by decide), rfl⟩) (c_quaK C90 pu_eq ⟨ha.1, ((pu_ne (P := P1) (f := up1 (cst (el k (c % qq k : Nat))) 1 (el k (c / qq k : Nat))) (show a ≠ 102 by omega)).trans ((hP a (by omega)).trans ha.2))⟩ (by omega) (by show dg (vc c) < dg f_a; have := vc_dg (k := k) (c := c); omega) (by omega)) ?_
                rintro _ V91 ⟨P91, rfl, C91, F91, S91⟩
                have kI_ := kcQ_I f_a (vc c)
                have ke_ : kc f_a 2 c = kcQ f_a (vc c) := by unfold kc; rw [if_neg (by decide)]
                refine ⟨(by show (0 : Nat) ≠ 9; decide), (?_ : Wp 198 _ 95 69 [(1, 92), (1, a), (0, (sI (fun j => bz (MKd f_a 2 c (j : Int))) 256)), (0, ((qq k : Int) * (qq k : Int))), (0, (c : Int)), w5] [(0, (kcQ f_a (vc c)))] V91 _)⟩
                refine w_is [(1, 92), (1, a), (0, (sI (fun j => bz (MKd f_a 2 c (j : Int))) 256)), (0, ((qq k : Int) * (qq k : Int))), (0, (c : Int)), (0, (kcQ f_a (vc c)))] hK rfl rfl rfl ?_
                refine w_il hK rfl rfl ?_
                refine w_lt hK rfl (by omega) (by omega) (fun h71 => ?_) (fun h71 => ?_)
                · have old_ : ∀ j : Nat, kc f_a 2 c = (j : Int) → MKd f_a 2 c (j : Int) := fun j e => by exfalso; omega
                  refine w_inc [(1, 92), (1, a), (0, (sI (fun j => bz (MKd f_a 2 c (j : Int))) 256)), (0, ((qq k : Int) * (qq k : Int))), (0, ((c : Int) + 1)), (0, (kcQ f_a (vc c)))] hK rfl rfl rfl (by omega) (by omega) rfl ?_
                  refine w_goto hK rfl ?_
                  have q34 := ih34 _ (by omega) (c + 1) _ _ (0, (kcQ f_a (vc c))) V91 rfl (by omega) C91 ((S91 101 (notP rfl)).trans ((S90 101 (notP rfl)).trans ((S89 101 (notP rfl)).trans hD))) (fun j hj => by
                    rw [hDv j hj]
                    exact bz_congr ⟨fun h => (MKd_next (by omega)).mpr (Or.inl h), fun h => ((MKd_next (by omega)).mp h).elim id (fun e => old_ j e)⟩) (fun p pn102_ => ((F91 p pn102_).trans ((pu_ne (P := P1) (f := up1 (cst (el k (c % qq k : Nat))) 1 (el k (c / qq k : Nat))) (show p ≠ 102 by omega)).trans (hP p pn102_)))) (fun a np_ n101_ => ((S91 a np_).trans ((S90 a np_).trans ((S89 a np_).trans (hF a np_ n101_)))))
                  rw [sI_congr (g := fun j => bz (MKd f_a 2 c (j : Int))) (fun j hj => bz_congr ⟨fun h => ((MKd_next (by omega)).mp h).elim id (fun e => old_ j e), fun h => (MKd_next (by omega)).mpr (Or.inl h)⟩), show ((c + 1 : Nat) : Int) = (c : Int) + 1 from rfl] at q34
                  exact q34
                · refine w_il hK rfl rfl ?_
                  refine w_al hK rfl rfl ?_
                  refine w_getr (n := 8) (v := 101) hK rfl rfl (by decide) (by decide) rfl rfl rfl rfl ?_
                  refine w_len hK rfl rfl (by decide) (by decide) rfl ?_
                  refine w_ge2 hK rfl (by omega) (by omega) (by omega) (by omega) (fun h76 => ?_) (fun h76 => ?_)
                  · exfalso; omega
                  · refine w_al hK rfl rfl ?_
                    refine w_getr (n := 8) (v := 101) hK rfl rfl (by decide) (by decide) rfl rfl rfl rfl ?_
                    refine w_il hK rfl rfl ?_
                    refine w_ia hK rfl rfl (by decide) (by decide) (by omega) (by omega) ?_
                    rw [show V91 101 (kcQ f_a (vc c)) = (D1 (kcQ f_a (vc c))) from ((congrFun (S91 101 (notP rfl)) (kcQ f_a (vc c))).trans ((congrFun (S90 101 (notP rfl)) (kcQ f_a (vc c))).trans ((congrFun (S89 101 (notP rfl)) (kcQ f_a (vc c))).trans (congrFun hD (kcQ f_a (vc c))))))]
                    obtain ⟨v_, ev_⟩ : ∃ v_ : Nat, (v_ : Int) = kcQ f_a (vc c) := ⟨(kcQ f_a (vc c)).toNat, by omega⟩
                    have d_ := hDv v_ (by omega)
                    rw [ev_] at d_
                    have bz_ := bz_01 (MKd f_a 2 c (kcQ f_a (vc c)))
                    refine w_ne hK rfl (by omega) (by omega) (fun h81 => ?_) (fun h81 => ?_)
                    · obtain ⟨v_, ev_⟩ : ∃ v_ : Nat, (v_ : Int) = kcQ f_a (vc c) := ⟨(kcQ f_a (vc c)).toNat, by omega⟩
                      have old_ : ∀ j : Nat, kc f_a 2 c = (j : Int) → MKd f_a 2 c (j : Int) := fun j e => by
                        have d_ := hDv v_ (by omega)
                        rw [ev_] at d_
                        have ej_ : (j : Int) = (v_ : Int) := by omega
                        rw [ej_]
                        refine bz_yes ?_
                        rw [ev_]
                        omega
                      refine w_inc [(1, 92), (1, a), (0, (sI (fun j => bz (MKd f_a 2 c (j : Int))) 256)), (0, ((qq k : Int) * (qq k : Int))), (0, ((c : Int) + 1)), (0, (kcQ f_a (vc c)))] hK rfl rfl rfl (by omega) (by omega) rfl ?_
                      refine w_goto hK rfl ?_
                      have q34 := ih34 _ (by omega) (c + 1) _ _ (0, (kcQ f_a (vc c))) V91 rfl (by omega) C91 ((S91 101 (notP rfl)).trans ((S90 101 (notP rfl)).trans ((S89 101 (notP rfl)).trans hD))) (fun j hj => by
                        rw [hDv j hj]
                        exact bz_congr ⟨fun h => (MKd_next (by omega)).mpr (Or.inl h), fun h => ((MKd_next (by omega)).mp h).elim id (fun e => old_ j e)⟩) (fun p pn102_ => ((F91 p pn102_).trans ((pu_ne (P := P1) (f := up1 (cst (el k (c % qq k : Nat))) 1 (el k (c / qq k : Nat))) (show p ≠ 102 by omega)).trans (hP p pn102_)))) (fun a np_ n101_ => ((S91 a np_).trans ((S90 a np_).trans ((S89 a np_).trans (hF a np_ n101_)))))
                      rw [sI_congr (g := fun j => bz (MKd f_a 2 c (j : Int))) (fun j hj => bz_congr ⟨fun h => ((MKd_next (by omega)).mp h).elim id (fun e => old_ j e), fun h => (MKd_next (by omega)).mpr (Or.inl h)⟩), show ((c + 1 : Nat) : Int) = (c : Int) + 1 from rfl] at q34
                      exact q34
                    · refine w_al hK rfl rfl ?_
                      refine w_getr (n := 8) (v := 101) hK rfl rfl (by decide) (by decide) rfl rfl rfl rfl ?_
                      refine w_il hK rfl rfl ?_
                      refine w_ic hK rfl ?_
                      refine w_iat hK rfl rfl (by decide) (by decide) (by omega) (by omega) ?_
                      refine w_inc [(1, 92), (1, a), (0, ((sI (fun j => bz (MKd f_a 2 c (j : Int))) 256) + 1)), (0, ((qq k : Int) * (qq k : Int))), (0, (c : Int)), (0, (kcQ f_a (vc c)))] hK rfl rfl rfl (by omega) (by omega) rfl ?_
                      refine w_inc [(1, 92), (1, a), (0, ((sI (fun j => bz (MKd f_a 2 c (j : Int))) 256) + 1)), (0, ((qq k : Int) * (qq k : Int))), (0, ((c : Int) + 1)), (0, (kcQ f_a (vc c)))] hK rfl rfl rfl (by omega) (by omega) rfl ?_
                      refine w_goto hK rfl ?_
                      have q34 := ih34 _ (by omega) (c + 1) _ _ (0, (kcQ f_a (vc c))) (up V91 101 (kcQ f_a (vc c)) 1) rfl (by omega) (CS.upc C91 (by decide) (notP rfl)) (up_upr ((S91 101 (notP rfl)).trans ((S90 101 (notP rfl)).trans ((S89 101 (notP rfl)).trans hD)))) (fun j hj => by
                        by_cases q : (j : Int) = kcQ f_a (vc c)
                        · rw [q, upr_eq, bz_pos ((MKd_next (by omega)).mpr (Or.inr ke_))]
                        · rw [upr_ne q, hDv j hj]
                          exact bz_congr ⟨fun h => (MKd_next (by omega)).mpr (Or.inl h), fun h => ((MKd_next (by omega)).mp h).resolve_right (fun e => q (by omega))⟩) (fun p pn102_ => ((F91 p pn102_).trans ((pu_ne (P := P1) (f := up1 (cst (el k (c % qq k : Nat))) 1 (el k (c / qq k : Nat))) (show p ≠ 102 by omega)).trans (hP p pn102_)))) (fun a np_ n101_ => ((up_row n101_).trans ((S91 a np_).trans ((S90 a np_).trans ((S89 a np_).trans (hF a np_ n101_))))))
                      obtain ⟨v_, ev_⟩ : ∃ v_ : Nat, (v_ : Int) = kcQ f_a (vc c) := ⟨(kcQ f_a (vc c)).toNat, by omega⟩
                      have sm_ := sI_one (f := fun j => bz (MKd f_a 2 c (j : Int))) (g := fun j => bz (MKd f_a 2 (c + 1) (j : Int))) (v := v_) (fun j hj => bz_congr ⟨fun h => ((MKd_next (by omega)).mp h).resolve_right (fun e => hj (by omega)), fun h => (MKd_next (by omega)).mpr (Or.inl h)⟩) (by
                        have d_ := hDv v_ (by omega)
                        rw [ev_] at d_
                        show bz (MKd f_a 2 (c + 1) (v_ : Int)) = bz (MKd f_a 2 c (v_ : Int)) + 1
                        rw [bz_pos ((MKd_next (by omega)).mpr (Or.inr (ke_.trans ev_.symm))), ev_]
                        omega) (n := 256)
                      rw [if_pos (by omega)] at sm_
                      rw [sm_, show ((c + 1 : Nat) : Int) = (c : Int) + 1 from rfl] at q34
                      exact q34
              · exfalso; omega
        have q34 := lp34 _ 1 _ _ w5 N2 rfl (by omega) (CS.congr C (fun a ha_ => hF a (CSc_ne ha_ (by decide) (notP rfl)))) hD (fun j hj => by rw [hz j (by omega), bz_neg (fun ⟨i, h1, h2, _⟩ => by omega)]) (fun p pn102_ => rfl) (fun a np_ n101_ => (hF a n101_))
        rw [show sI (fun j => bz (MKd f_a 2 1 (j : Int))) 256 = 0 from (sI_congr (g := fun _ => 0) (fun j hj => bz_neg (fun ⟨i, h1, h2, _⟩ => by omega))).trans sI_0s] at q34
        exact q34
      · exfalso; omega
    · refine w_al hK rfl rfl ?_
      refine w_getr (n := 8) (v := 101) hK rfl rfl (by decide) (by decide) rfl rfl rfl rfl ?_
      refine w_il hK rfl rfl ?_
      refine w_ic hK rfl ?_
      refine w_iat hK rfl rfl (by decide) (by decide) (by omega) (by omega) ?_
      refine w_inc [(1, 92), (1, a), (0, ((i : Int) + 1)), w3, w4, w5] hK rfl rfl rfl (by omega) (by omega) rfl ?_
      refine w_goto hK rfl ?_
      exact ih2 _ (by omega) (i + 1) _ w3 w4 w5 (up N2 101 (i : Int) 0) rfl (by omega) (up_upr hD) (fun j hj => by
        by_cases q : j = i
        · rw [q, upr_eq]
        · rw [upr_ne (by omega)]; exact hz j (by omega)) (fun a n101_ => ((up_row n101_).trans (hF a n101_)))
  exact lp2 _ 0 (M 101) (3, 0) (3, 0) (3, 0) M rfl (by omega) rfl (fun j hj => by omega) (fun a _ => rfl)
