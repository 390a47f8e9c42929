/-! contracts: Poly's rest, Ring's rest -/
theorem c_putN {d : Nat} {M : Mem} {k : Nat} {P : Int → Option (Pl k)} (C : CS M k P) {p : Int} {f : Pl k} (hp : isC P p f) (j : Nat) (w : El k) (h16 : j < 17) : Ct 198 d 23 [(1, p), (0, (j : Int)), (0, (w.val : Int))] M (fun r M' => r = (4, 0) ∧ CS M' k (pu P p (up1 f j w)) ∧ NPS M M') := c_put C hp (j : Int) w (by omega) (by omega)
/-- 1 for what holds, 0 for what doesn't -/
noncomputable def bz (p : Prop) : Int := @ite _ p (Classical.propDecidable p) 1 0
theorem bz_pos {p : Prop} (h : p) : bz p = 1 := if_pos h
theorem bz_neg {p : Prop} (h : ¬ p) : bz p = 0 := if_neg h
theorem bz_01 (p : Prop) : bz p = 0 ∨ bz p = 1 := by
  by_cases h : p
  · exact Or.inr (bz_pos h)
  · exact Or.inl (bz_neg h)
theorem bz_yes {p : Prop} (h : bz p ≠ 0) : p := by
  by_cases q : p
  · exact q
  · exact absurd (bz_neg q) h
theorem bz_no {p : Prop} (h : bz p = 0) : ¬ p := fun q => by rw [bz_pos q] at h; exact absurd h (by decide)
theorem bz_congr {p q : Prop} (h : p ↔ q) : bz p = bz q := by rw [propext h]
def wgt {k : Nat} (f : Pl k) : Nat → Int
  | 0 => 0
  | n + 1 => if f n = z0 then wgt f n else wgt f n + 1
theorem wgt_I {k : Nat} (f : Pl k) : ∀ n : Nat, 0 ≤ wgt f n ∧ wgt f n ≤ n
  | 0 => ⟨by show (0 : Int) ≤ 0; decide, by show (0 : Int) ≤ 0; decide⟩
  | n + 1 => by
    have := wgt_I f n
    unfold wgt
    split <;> omega
theorem wgt_more {k : Nat} {f : Pl k} {n : Nat} : ∀ {m : Nat}, n ≤ m → (∀ i : Nat, n ≤ i → f i = z0) → wgt f m = wgt f n
  | 0, hm, _ => by
    have e : n = 0 := by omega
    rw [e]
  | m + 1, hm, h => by
    by_cases q : n = m + 1
    · rw [q]
    · have e : wgt f (m + 1) = if f m = z0 then wgt f m else wgt f m + 1 := rfl
      rw [e, if_pos (h m (by omega))]
      exact wgt_more (by omega) h
/-- the least place below n where a number stands; else -1 -/
def lowF {k : Nat} (f : Pl k) : Nat → Int
  | 0 => -1
  | n + 1 => if lowF f n ≠ -1 then lowF f n else if f n = z0 then -1 else (n : Int)
theorem lowF_none {k : Nat} {f : Pl k} : ∀ {n : Nat}, (∀ i : Nat, i < n → f i = z0) → lowF f n = -1
  | 0, _ => rfl
  | n + 1, h => by
    unfold lowF
    rw [lowF_none (n := n) (fun i hi => h i (by omega)), if_neg (by decide), if_pos (h n (by omega))]
theorem lowF_at {k : Nat} {f : Pl k} {j : Nat} (h : ∀ i : Nat, i < j → f i = z0) (hj : f j ≠ z0) : ∀ {n : Nat}, j < n → lowF f n = (j : Int)
  | 0, q => by omega
  | n + 1, q => by
    unfold lowF
    by_cases e : j = n
    · subst e; rw [lowF_none h, if_neg (by decide), if_neg hj]
    · rw [lowF_at h hj (n := n) (by omega), if_pos (by omega)]
/-- one behind another, from the top -/
def cmpD {k : Nat} (f g : Pl k) : Nat → Int
  | 0 => 0
  | n + 1 => if f n = g n then cmpD f g n else ((f n).val : Int) - ((g n).val : Int)
def cmpP {k : Nat} (f g : Pl k) : Int := if dg f = dg g then cmpD f g (dg f + 1).toNat else dg f - dg g
theorem cmpD_0 {k : Nat} {f g : Pl k} : ∀ {n : Nat}, cmpD f g n = 0 ↔ ∀ i : Nat, i < n → f i = g i
  | 0 => ⟨fun _ i hi => by omega, fun _ => rfl⟩
  | n + 1 => by
    unfold cmpD
    by_cases h : f n = g n
    · rw [if_pos h, cmpD_0]
      constructor
      · intro q i hi
        by_cases e : i = n
        · rw [e]; exact h
        · exact q i (by omega)
      · intro q i hi
        exact q i (by omega)
    · rw [if_neg h]
      constructor
      · intro q
        exact absurd (Fin.ext (by omega)) h
      · intro q
        exact absurd (q n (by omega)) h
theorem cmpP_0 {k : Nat} {f g : Pl k} (hf : Bd f 64) (hg : Bd g 64) : cmpP f g = 0 ↔ f = g := by
  unfold cmpP
  by_cases h : dg f = dg g
  · rw [if_pos h, cmpD_0]
    constructor
    · intro q
      funext i
      by_cases e : i < (dg f + 1).toNat
      · exact q i e
      · rw [(dg_is hf).2.1 i (by omega), (dg_is hg).2.1 i (by omega)]
    · intro q i _
      rw [q]
  · rw [if_neg h]
    constructor
    · intro q
      exact absurd (by omega) h
    · intro q
      exact absurd (by rw [q]) h
theorem cmpD_I {k : Nat} (f g : Pl k) : ∀ n : Nat, -16 ≤ cmpD f g n ∧ cmpD f g n ≤ 16
  | 0 => ⟨by show (-16 : Int) ≤ 0; decide, by show (0 : Int) ≤ 16; decide⟩
  | n + 1 => by
    have := cmpD_I f g n
    have := el_I (f n)
    have := el_I (g n)
    unfold cmpD
    split <;> omega
theorem cmpP_I {k : Nat} {f g : Pl k} (hf : Bd f 17) (hg : Bd g 17) : -17 ≤ cmpP f g ∧ cmpP f g ≤ 17 := by
  have := cmpD_I f g (dg f + 1).toNat
  have := dg_ge f
  have := dg_ge g
  have := dg_lt hf (by decide)
  have := dg_lt hg (by decide)
  unfold cmpP
  split <;> omega
/-- made monic -/
def mon {k : Nat} (s : Int) (f : Pl k) : Pl k := if s = 0 then scl (iv (ld f)) f else scb f (sgI (-(dg f)) (iv (ld f)))
theorem mx_lo {k : Nat} {s h : Pl k} {i j : Int} (hj : j ≤ i) : cf (mx s h i) j = cf h j := by
  unfold cf
  split
  · unfold mx; rw [if_neg (by omega)]
  · rfl
theorem IsDg.nz {k : Nat} {f : Pl k} (h : Bd f 17) {b : Nat} (hb : dg f = (b : Int)) : IsDg f (b : Int) := hb ▸ dg_is (h.mono (by decide))
theorem dr_low {k : Nat} {s : Int} {x y : Pl k} {b : Nat} (hy : IsDg y (b : Int)) (hx : Bd x b) : dr s x y = x ∧ dq s x y = pz := by
  have h := dv_eq (s := s) (x := x) (y := y) (q := pz) (r := x) ⟨⟨0, fun _ _ => rfl⟩, by rw [prd_pz, pz_adp], b, hy, hx⟩
  exact ⟨h.2, h.1⟩
theorem tx_at {k : Nat} (f : Pl k) (n : Nat) : mlp (mono e1 1) f n = if 1 ≤ n then sg 1 (f (n - 1)) else z0 := by
  rw [mono_mlp]
  split
  · rw [one_ml]
  · rfl
theorem IsDg.tp {k : Nat} {f : Pl k} {b : Nat} (h : IsDg f (b : Int)) : f b ≠ z0 := h.2.2 (by omega)
/-- a step with a lead taken away -/
theorem dr_take {k : Nat} {x y : Pl k} {b : Nat} (hy : IsDg y (b : Int)) (hx : Bd x (b + 1)) : dr 0 x y = sbp x (mlp (mono (ml (x b) (iv (y b))) 0) y) := by
  refine (dv_eq (s := 0) (q := mono (ml (x b) (iv (y b))) 0) ⟨⟨1, fun j hj => by rw [mono_at, if_neg (by omega)]⟩, (adp_sbp _ _).symm, b, hy, fun j hj => ?_⟩).2
  show ad (x j) (ng (mlp _ y j)) = z0
  rw [mono_mlp, if_pos (by omega), sg_0, Nat.sub_zero]
  by_cases e : j = b
  · rw [e, ml_assoc, ml_comm (iv _), ml_iv _ hy.tp, ml_one, ad_neg]
  · rw [hx j (by omega), hy.2.1 j (by omega), ml_zero, ng_z, ad_zero]
/-- t^n and what is left of it -/
noncomputable def stN {k : Nat} (y : Pl k) : Nat → Pl k
  | 0 => dr 0 one y
  | n + 1 => dr 0 (mlp (mono e1 1) (stN y n)) y
noncomputable def rchN {k : Nat} (y : Pl k) : Nat → Int
  | 0 => 0
  | n + 1 => if rchN y n ≠ 0 then rchN y n else bz (stN y (n + 1) = stN y 0) * (n + 1)
theorem rchN_keep {k : Nat} {y : Pl k} {n : Nat} (h : rchN y n ≠ 0) : ∀ {m : Nat}, n ≤ m → rchN y m = rchN y n
  | 0, q => by
    have e : n = 0 := by omega
    rw [e]
  | m + 1, q => by
    by_cases e : n = m + 1
    · rw [e]
    · have h2 := rchN_keep h (m := m) (by omega)
      have e2 : rchN y (m + 1) = if rchN y m ≠ 0 then rchN y m else bz (stN y (m + 1) = stN y 0) * (m + 1) := rfl
      rw [e2, if_pos (by rw [h2]; exact h), h2]
set_option maxRecDepth 100000 in
theorem c_wgt {d : Nat} {M : Mem} {k : Nat} {P : Int → Option (Pl k)} (C : CS M k P) {p : Int} {f_p : Pl k} (hp : isC P p f_p) : Ct 198 (d + 1) 28 [(1, p)] M (fun r M' => r = (0, wgt f_p 17) ∧ M' = M) := by
  have hK : cd 28 = k28 := rfl
  have dp := C.dI hp
  show Wp 198 _ 28 0 [(1, p), (3, 0), (3, 0)] [] M _
  refine w_ic hK rfl ?_
  refine w_is [(1, p), (0, 0), (3, 0)] hK rfl rfl rfl ?_
  refine w_ic hK rfl ?_
  refine w_is [(1, p), (0, 0), (0, 0)] hK rfl rfl rfl ?_
  have lp4 : ∀ (n_ : Nat) (j : Nat), 17 - j = n_ → (j ≤ 17) → Wp 198 (d + 1) 28 4 [(1, p), (0, wgt f_p j), (0, (j : Int))] [] M (fun r M' => r = (0, wgt f_p 17) ∧ M' = M) := by
    intro n_
    induction n_ using Nat.strongRecOn with
    | _ n_ ih4 =>
    intro j  hm4 hj
    have wj := wgt_I f_p j
    refine w_il hK rfl rfl ?_
    refine w_al hK rfl rfl ?_
    refine w_pt hK rfl hp.1 ?_
    rw [show M p 1 = dg f_p from C.t hp]
    refine w_gt2 hK rfl (by omega) (by omega) (by omega) (by omega) (fun h7 => ?_) (fun h7 => ?_)
    · refine w_il hK rfl rfl ?_
      refine w_iret hK rfl rfl ?_
      rw [wgt_more (f := f_p) (n := j) (m := 17) (by omega) (fun i hi => C.z hp (by omega))]
      exact ⟨rfl, rfl⟩
    · refine w_al hK rfl rfl ?_
      refine w_il hK rfl rfl ?_
      refine w_call [(1, p), (0, (j : Int))] hK rfl rfl rfl rfl (Or.inr ⟨_, _, _, rfl, hp.1.nn, hp.1.lb, hp.1.o⟩) (c_atN C hp j (by omega)) ?_
      rintro _ Mq ⟨rfl, e_⟩
      subst Mq
      have bv_ := el_I (f_p j)
      refine ⟨by show (0 : Nat) ≠ 9; decide, (?_ : Wp 198 _ 28 11 [(1, p), (0, wgt f_p j), (0, (j : Int))] [(0, ((f_p j).val : Int))] M _)⟩
      refine w_eq hK rfl (by omega) (by omega) (fun h11 => ?_) (fun h11 => ?_)
      · refine w_inc [(1, p), (0, wgt f_p j), (0, ((j : Int) + 1))] hK rfl rfl rfl (by omega) (by omega) rfl ?_
        refine w_goto hK rfl ?_
        have q4 := ih4 _ (by omega) (j + 1)  rfl (by omega)
        rw [show wgt f_p (j + 1) = if f_p j = z0 then wgt f_p j else wgt f_p j + 1 from rfl, if_pos (z0_iff.mpr (by omega))] at q4
        exact q4
      · refine w_inc [(1, p), (0, (wgt f_p j + 1)), (0, (j : Int))] hK rfl rfl rfl (by omega) (by omega) rfl ?_
        refine w_inc [(1, p), (0, (wgt f_p j + 1)), (0, ((j : Int) + 1))] hK rfl rfl rfl (by omega) (by omega) rfl ?_
        refine w_goto hK rfl ?_
        have q4 := ih4 _ (by omega) (j + 1)  rfl (by omega)
        rw [show wgt f_p (j + 1) = if f_p j = z0 then wgt f_p j else wgt f_p j + 1 from rfl, if_neg (fun q => by rw [q, z0_val] at h11; exact h11 rfl)] at q4
        exact q4
  exact lp4 _ 0  rfl (by omega)
set_option maxRecDepth 100000 in
theorem c_low {d : Nat} {M : Mem} {k : Nat} {P : Int → Option (Pl k)} (C : CS M k P) {p : Int} {f_p : Pl k} (hp : isC P p f_p) : Ct 198 (d + 1) 29 [(1, p)] M (fun r M' => r = (0, lowF f_p 17) ∧ M' = M) := by
  have hK : cd 29 = k29 := rfl
  have dp := C.dI hp
  show Wp 198 _ 29 0 [(1, p), (3, 0)] [] M _
  refine w_ic hK rfl ?_
  refine w_is [(1, p), (0, 0)] hK rfl rfl rfl ?_
  have lp2 : ∀ (n_ : Nat) (j : Nat), 17 - j = n_ → (j ≤ 17) → (∀ i : Nat, i < j → f_p i = z0) → Wp 198 (d + 1) 29 2 [(1, p), (0, (j : Int))] [] M (fun r M' => r = (0, lowF f_p 17) ∧ M' = M) := by
    intro n_
    induction n_ using Nat.strongRecOn with
    | _ n_ ih2 =>
    intro j  hm2 hj hz
    refine w_il hK rfl rfl ?_
    refine w_al hK rfl rfl ?_
    refine w_pt hK rfl hp.1 ?_
    rw [show M p 1 = dg f_p from C.t hp]
    refine w_gt2 hK rfl (by omega) (by omega) (by omega) (by omega) (fun h5 => ?_) (fun h5 => ?_)
    · refine w_ic hK rfl ?_
      refine w_iret hK rfl rfl ?_
      exact ⟨by rw [lowF_none (fun i hi => if q : i < j then hz i q else C.z hp (by omega))], rfl⟩
    · refine w_al hK rfl rfl ?_
      refine w_il hK rfl rfl ?_
      refine w_call [(1, p), (0, (j : Int))] hK rfl rfl rfl rfl (Or.inr ⟨_, _, _, rfl, hp.1.nn, hp.1.lb, hp.1.o⟩) (c_atN C hp j (by omega)) ?_
      rintro _ Mq ⟨rfl, e_⟩
      subst Mq
      have bv_ := el_I (f_p j)
      refine ⟨by show (0 : Nat) ≠ 9; decide, (?_ : Wp 198 _ 29 9 [(1, p), (0, (j : Int))] [(0, ((f_p j).val : Int))] M _)⟩
      refine w_eq hK rfl (by omega) (by omega) (fun h9 => ?_) (fun h9 => ?_)
      · refine w_inc [(1, p), (0, ((j : Int) + 1))] hK rfl rfl rfl (by omega) (by omega) rfl ?_
        refine w_goto hK rfl ?_
        exact ih2 _ (by omega) (j + 1)  rfl (by omega) (fun i hi => by
          by_cases e : i = j
          · rw [e]; exact z0_iff.mpr (by omega)
          · exact hz i (by omega))
      · refine w_il hK rfl rfl ?_
        refine w_iret hK rfl rfl ?_
        exact ⟨by rw [lowF_at hz (fun q => by rw [q, z0_val] at h9; exact h9 rfl) (by omega)], rfl⟩
  exact lp2 _ 0  rfl (by omega) (fun i hi => by omega)
set_option maxRecDepth 100000 in
theorem c_isone {d : Nat} {M : Mem} {k : Nat} {P : Int → Option (Pl k)} (C : CS M k P) {p : Int} {f_p : Pl k} (hp : isC P p f_p) : Ct 198 (d + 1) 30 [(1, p)] M (fun r M' => r = (0, bz (f_p = one)) ∧ M' = M) := by
  have hK : cd 30 = k30 := rfl
  have dp := C.dI hp
  show Wp 198 _ 30 0 [(1, p)] [] M _
  refine w_al hK rfl rfl ?_
  refine w_pt hK rfl hp.1 ?_
  rw [show M p 1 = dg f_p from C.t hp]
  refine w_ne hK rfl (by omega) (by omega) (fun h2 => ?_) (fun h2 => ?_)
  · refine w_ic hK rfl ?_
    refine w_zret hK rfl rfl (Or.inl rfl) ?_
    have hn : ¬ f_p = one := by
      intro q
      have e1_ : dg f_p = 0 := by rw [q]; exact dg_eq (fun j hj => by show mono e1 0 j = z0; rw [mono_at, if_neg (by omega)]) ⟨by decide, fun j hj => by show mono e1 0 j = z0; rw [mono_at, if_neg (by omega)], fun _ => e1_ne⟩
      omega
    exact ⟨by rw [bz_neg hn], rfl⟩
  · refine w_al hK rfl rfl ?_
    refine w_ic hK rfl ?_
    refine w_call [(1, p), (0, 0)] hK rfl rfl rfl rfl (Or.inr ⟨_, _, _, rfl, hp.1.nn, hp.1.lb, hp.1.o⟩) (c_atN C hp 0 (by omega)) ?_
    rintro _ Mq ⟨rfl, e_⟩
    subst Mq
    have bv_ := el_I (f_p 0)
    refine ⟨by show (0 : Nat) ≠ 9; decide, (?_ : Wp 198 _ 30 6 [(1, p)] [(0, ((f_p 0).val : Int))] M _)⟩
    refine w_ic hK rfl ?_
    refine w_ne2 hK rfl (by omega) (by omega) (by omega) (by omega) (fun h7 => ?_) (fun h7 => ?_)
    · refine w_ic hK rfl ?_
      refine w_zret hK rfl rfl (Or.inl rfl) ?_
      have hn : ¬ f_p = one := by
        intro q
        have e1_ : (f_p 0).val = 1 := by rw [q]; exact e1_val
        omega
      exact ⟨by rw [bz_neg hn], rfl⟩
    · refine w_ic hK rfl ?_
      refine w_goto hK rfl ?_
      refine w_zret hK rfl rfl (Or.inr rfl) ?_
      have hn : f_p = one := by
        funext n
        show f_p n = mono e1 0 n
        rw [mono_at]
        by_cases e : n = 0
        · rw [if_pos e, e]
          exact Fin.ext (by rw [e1_val]; omega)
        · rw [if_neg e]
          exact C.z hp (by omega)
      exact ⟨by rw [bz_pos hn], rfl⟩
set_option maxRecDepth 100000 in
theorem c_cmp {d : Nat} {M : Mem} {k : Nat} {P : Int → Option (Pl k)} (C : CS M k P) {p q : Int} {f_p : Pl k} (hp : isC P p f_p) {f_q : Pl k} (hq : isC P q f_q) : Ct 198 (d + 1) 32 [(1, p), (1, q)] M (fun r M' => r = (0, cmpP f_p f_q) ∧ M' = M) := by
  have hK : cd 32 = k32 := rfl
  have dp := C.dI hp
  have dq_ := C.dI hq
  show Wp 198 _ 32 0 [(1, p), (1, q), (3, 0)] [] M _
  refine w_al hK rfl rfl ?_
  refine w_pt hK rfl hp.1 ?_
  rw [show M p 1 = dg f_p from C.t hp]
  refine w_al hK rfl rfl ?_
  refine w_pt hK rfl hq.1 ?_
  rw [show M q 1 = dg f_q from C.t hq]
  refine w_eq2 hK rfl (by omega) (by omega) (by omega) (by omega) (fun h4 => ?_) (fun h4 => ?_)
  · refine w_al hK rfl rfl ?_
    refine w_pt hK rfl hp.1 ?_
    rw [show M p 1 = dg f_p from C.t hp]
    refine w_is [(1, p), (1, q), (0, (dg f_p))] hK rfl rfl rfl ?_
    have lp14 : ∀ (n_ : Nat) (i : Int), (i + 1).toNat = n_ → (-1 ≤ i) → (i ≤ 16) → (cmpP f_p f_q = cmpD f_p f_q (i + 1).toNat) → Wp 198 (d + 1) 32 14 [(1, p), (1, q), (0, i)] [] M (fun r M' => r = (0, cmpP f_p f_q) ∧ M' = M) := by
      intro n_
      induction n_ using Nat.strongRecOn with
      | _ n_ ih14 =>
      intro i  hm14 h1 h2 he
      refine w_il hK rfl rfl ?_
      refine w_lt hK rfl (by omega) (by omega) (fun h15 => ?_) (fun h15 => ?_)
      · refine w_ic hK rfl ?_
        refine w_iret hK rfl rfl ?_
        refine ⟨congrArg (Prod.mk 0) ?_, rfl⟩
        rw [he, show (i + 1).toNat = 0 by omega]
        rfl
      · refine w_al hK rfl rfl ?_
        refine w_il hK rfl rfl ?_
        refine w_call [(1, p), (0, i)] hK rfl rfl rfl rfl (Or.inr ⟨_, _, _, rfl, hp.1.nn, hp.1.lb, hp.1.o⟩) (c_at C hp i (by omega) (by omega)) ?_
        rintro _ Mq ⟨rfl, e_⟩
        subst Mq
        have bv_ := el_I (cf f_p i)
        refine ⟨by show (0 : Nat) ≠ 9; decide, (?_ : Wp 198 _ 32 19 [(1, p), (1, q), (0, i)] [(0, ((cf f_p i).val : Int))] M _)⟩
        refine w_al hK rfl rfl ?_
        refine w_il hK rfl rfl ?_
        refine w_call [(1, q), (0, i)] hK rfl rfl rfl rfl (Or.inr ⟨_, _, _, rfl, hq.1.nn, hq.1.lb, hq.1.o⟩) (c_at C hq i (by omega) (by omega)) ?_
        rintro _ Mq ⟨rfl, e_⟩
        subst Mq
        have bv_ := el_I (cf f_q i)
        refine ⟨by show (0 : Nat) ≠ 9; decide, (?_ : Wp 198 _ 32 22 [(1, p), (1, q), (0, i)] [(0, ((cf f_q i).val : Int)), (0, ((cf f_p i).val : Int))] M _)⟩
        have b22 := el_I (cf f_p i)
        have c22 := el_I (cf f_q i)
        refine w_eq2 hK rfl (by omega) (by omega) (by omega) (by omega) (fun h22 => ?_) (fun h22 => ?_)
        · refine w_inc [(1, p), (1, q), (0, (i + (-1)))] hK rfl rfl rfl (by omega) (by omega) rfl ?_
          refine w_goto hK rfl ?_
          exact ih14 _ (by omega) (i - 1)  rfl (by omega) (by omega) (by
            rw [cf_toNat (by omega), cf_toNat (by omega)] at h22
            rw [he, show (i + 1).toNat = i.toNat + 1 by omega, show (i - 1 + 1).toNat = i.toNat by omega]
            show (if _ then _ else _) = _
            rw [if_pos (Fin.ext (by omega))])
        · refine w_al hK rfl rfl ?_
          refine w_il hK rfl rfl ?_
          refine w_call [(1, p), (0, i)] hK rfl rfl rfl rfl (Or.inr ⟨_, _, _, rfl, hp.1.nn, hp.1.lb, hp.1.o⟩) (c_at C hp i (by omega) (by omega)) ?_
          rintro _ Mq ⟨rfl, e_⟩
          subst Mq
          have bv_ := el_I (cf f_p i)
          refine ⟨by show (0 : Nat) ≠ 9; decide, (?_ : Wp 198 _ 32 26 [(1, p), (1, q), (0, i)] [(0, ((cf f_p i).val : Int))] M _)⟩
          refine w_al hK rfl rfl ?_
          refine w_il hK rfl rfl ?_
          refine w_call [(1, q), (0, i)] hK rfl rfl rfl rfl (Or.inr ⟨_, _, _, rfl, hq.1.nn, hq.1.lb, hq.1.o⟩) (c_at C hq i (by omega) (by omega)) ?_
          rintro _ Mq ⟨rfl, e_⟩
          subst Mq
          have bv_ := el_I (cf f_q i)
          refine ⟨by show (0 : Nat) ≠ 9; decide, (?_ : Wp 198 _ 32 29 [(1, p), (1, q), (0, i)] [(0, ((cf f_q i).val : Int)), (0, ((cf f_p i).val : Int))] M _)⟩
          refine w_sub hK rfl (by omega) (by omega) ?_
          refine w_iret hK rfl rfl ?_
          refine ⟨congrArg (Prod.mk 0) ?_, rfl⟩
          rw [cf_toNat (by omega), cf_toNat (by omega)] at h22 ⊢
          rw [he, show (i + 1).toNat = i.toNat + 1 by omega]
          symm
          show (if _ then _ else _) = _
          rw [if_neg (fun q => by rw [q] at h22; exact h22 rfl)]
    exact lp14 _ (dg f_p)  rfl (by omega) (by omega) (by unfold cmpP; rw [if_pos (by omega)])
  · refine w_al hK rfl rfl ?_
    refine w_pt hK rfl hp.1 ?_
    rw [show M p 1 = dg f_p from C.t hp]
    refine w_al hK rfl rfl ?_
    refine w_pt hK rfl hq.1 ?_
    rw [show M q 1 = dg f_q from C.t hq]
    refine w_sub hK rfl (by omega) (by omega) ?_
    refine w_iret hK rfl rfl ?_
    exact ⟨by unfold cmpP; rw [if_neg (by omega)], rfl⟩
set_option maxRecDepth 100000 in
theorem c_like {d : Nat} {M : Mem} {k : Nat} {P : Int → Option (Pl k)} (C : CS M k P) {p q : Int} {f_p : Pl k} (hp : isC P p f_p) {f_q : Pl k} (hq : isC P q f_q) : Ct 198 (d + 2) 31 [(1, p), (1, q)] M (fun r M' => r = (0, bz (f_p = f_q)) ∧ M' = M) := by
  have hK : cd 31 = k31 := rfl
  have cI := cmpP_I (C.bd hp) (C.bd hq)
  have c0 := cmpP_0 ((C.bd hp).mono (show 17 ≤ 64 by decide)) ((C.bd hq).mono (show 17 ≤ 64 by decide))
  show Wp 198 _ 31 0 [(1, p), (1, q)] [] M _
  refine w_al hK rfl rfl ?_
  refine w_al hK rfl rfl ?_
  refine w_call [(1, p), (1, q)] hK rfl rfl rfl rfl (Or.inr ⟨_, _, _, rfl, hp.1.nn, hp.1.lb, hp.1.o⟩) (c_cmp C hp hq) ?_
  rintro _ Mq ⟨rfl, e_⟩
  subst Mq
  refine ⟨by show (0 : Nat) ≠ 9; decide, (?_ : Wp 198 _ 31 3 [(1, p), (1, q)] [(0, (cmpP f_p f_q))] M _)⟩
  refine w_ne hK rfl (by omega) (by omega) (fun h3 => ?_) (fun h3 => ?_)
  · refine w_ic hK rfl ?_
    refine w_zret hK rfl rfl (Or.inl rfl) ?_
    exact ⟨by rw [bz_neg (fun q => by have := c0.mpr q; omega)], rfl⟩
  · refine w_ic hK rfl ?_
    refine w_goto hK rfl ?_
    refine w_zret hK rfl rfl (Or.inr rfl) ?_
    exact ⟨by rw [bz_pos (c0.mp (by omega))], rfl⟩
set_option maxRecDepth 100000 in
theorem c_mon {d : Nat} {M : Mem} {k : Nat} {P : Int → Option (Pl k)} (C : CS M k P) {x : Int} {f_x : Pl k} (hx : isC P x f_x) (s : Int) (hs : s = 0 ∨ s = 1) : Ct 198 (d + 3) 46 [(1, 7), (1, x), (0, s)] M (fun r M' => r = (4, 0) ∧ CS M' k (pu P x (mon s f_x)) ∧ NPS M M') := by
  have hK : cd 46 = k46 := rfl
  have dx := C.dI hx
  show Wp 198 _ 46 0 [(1, 7), (1, x), (0, s), (3, 0)] [] M _
  refine w_al hK rfl rfl ?_
  refine w_getr (n := 0) (v := 1) hK rfl rfl (by decide) (by decide) rfl rfl rfl rfl ?_
  refine w_al hK rfl rfl ?_
  refine w_call [(1, x)] hK rfl rfl rfl rfl (Or.inr ⟨_, _, _, rfl, hx.1.nn, hx.1.lb, hx.1.o⟩) (c_ld C hx) ?_
  rintro _ Mq ⟨rfl, e_⟩
  subst Mq
  have bv_ := el_I (ld f_x)
  refine ⟨by show (0 : Nat) ≠ 9; decide, (?_ : Wp 198 _ 46 4 [(1, 7), (1, x), (0, s), (3, 0)] [(0, ((ld f_x).val : Int)), (1, 1)] M _)⟩
  refine w_call [(1, 1), (0, ((ld f_x).val : Int))] hK rfl rfl rfl rfl (Or.inr ⟨_, _, _, rfl, by decide, (by decide), rfl⟩) (c_inv (by decide) C.F (ld f_x) ) ?_
  rintro _ Mq ⟨rfl, e_⟩
  subst Mq
  have bv_ := el_I (iv (ld f_x))
  refine ⟨by show (0 : Nat) ≠ 9; decide, (?_ : Wp 198 _ 46 5 [(1, 7), (1, x), (0, s), (3, 0)] [(0, ((iv (ld f_x)).val : Int))] M _)⟩
  refine w_is [(1, 7), (1, x), (0, s), (0, ((iv (ld f_x)).val : Int))] hK rfl rfl rfl ?_
  refine w_il hK rfl rfl ?_
  refine w_ne hK rfl (by omega) (by omega) (fun h7 => ?_) (fun h7 => ?_)
  · refine w_al hK rfl rfl ?_
    refine w_al hK rfl rfl ?_
    refine w_al hK rfl rfl ?_
    refine w_getr (n := 0) (v := 1) hK rfl rfl (by decide) (by decide) rfl rfl rfl rfl ?_
    refine w_il hK rfl rfl ?_
    refine w_al hK rfl rfl ?_
    refine w_pt hK rfl hx.1 ?_
    rw [show M x 1 = dg f_x from C.t hx]
    refine w_neg hK rfl (by omega) (by omega) ?_
    refine w_call [(1, 1), (0, ((iv (ld f_x)).val : Int)), (0, (-(dg f_x)))] hK rfl rfl rfl rfl (Or.inr ⟨_, _, _, rfl, by decide, (by decide), rfl⟩) (c_image (by decide) C.F (iv (ld f_x)) (-(dg f_x)) (by omega) (by omega)) ?_
    rintro _ Mq ⟨rfl, e_⟩
    subst Mq
    have bv_ := el_I (sgI (-(dg f_x)) (iv (ld f_x)))
    refine ⟨by show (0 : Nat) ≠ 9; decide, (?_ : Wp 198 _ 46 23 [(1, 7), (1, x), (0, s), (0, ((iv (ld f_x)).val : Int))] [(0, ((sgI (-(dg f_x)) (iv (ld f_x))).val : Int)), (1, x), (1, 7)] M _)⟩
    refine w_al hK rfl rfl ?_
    refine w_call [(1, 7), (1, x), (0, ((sgI (-(dg f_x)) (iv (ld f_x))).val : Int)), (1, x)] hK rfl rfl rfl rfl (Or.inr ⟨_, _, _, rfl, by decide, (by decide), rfl⟩) (c_rscb C hx (sgI (-(dg f_x)) (iv (ld f_x))) hx.1) ?_
    rintro _ V1 ⟨rfl, C1, S1⟩
    refine ⟨by decide, (?_ : Wp 198 _ 46 25 [(1, 7), (1, x), (0, s), (0, ((iv (ld f_x)).val : Int))] [] V1 _)⟩
    refine w_ret hK rfl rfl ?_
    have e := C1
    unfold mon
    rw [if_neg (by omega)]
    exact ⟨rfl, e, S1⟩
  · refine w_al hK rfl rfl ?_
    refine w_il hK rfl rfl ?_
    refine w_al hK rfl rfl ?_
    refine w_al hK rfl rfl ?_
    refine w_call [(1, 7), (0, ((iv (ld f_x)).val : Int)), (1, x), (1, x)] hK rfl rfl rfl rfl (Or.inr ⟨_, _, _, rfl, by decide, (by decide), rfl⟩) (c_rscl C (iv (ld f_x)) hx hx.1) ?_
    rintro _ V2 ⟨rfl, C2, S2⟩
    refine ⟨by decide, (?_ : Wp 198 _ 46 13 [(1, 7), (1, x), (0, s), (0, ((iv (ld f_x)).val : Int))] [] V2 _)⟩
    refine w_goto hK rfl ?_
    refine w_ret hK rfl rfl ?_
    have e := C2
    unfold mon
    rw [if_pos (by omega)]
    exact ⟨rfl, e, S2⟩
set_option maxRecDepth 100000 in
theorem c_dvs {d : Nat} {M : Mem} {k : Nat} {P : Int → Option (Pl k)} (C : CS M k P) {y x : Int} {f_y : Pl k} (hy : isC P y f_y) {f_x : Pl k} (hx : isC P x f_x) (y1 : y ≠ 10) (y2 : y ≠ 12) (x1 : x ≠ 10) (x2 : x ≠ 12) : Ct 198 (d + 4) 53 [(1, 7), (1, y), (1, x)] M (fun r M' => r = (0, bz (dr 0 f_x f_y = pz)) ∧ CS M' k (pu (pu P 10 (dq 0 f_x f_y)) 12 (dr 0 f_x f_y)) ∧ NPS M M') := by
  have hK : cd 53 = k53 := rfl
  show Wp 198 _ 53 0 [(1, 7), (1, y), (1, x)] [] M _
  refine w_al hK rfl rfl ?_
  refine w_al hK rfl rfl ?_
  refine w_al hK rfl rfl ?_
  refine w_ic hK rfl ?_
  refine w_al hK rfl rfl ?_
  refine w_getr (n := 2) (v := 10) hK rfl rfl (by decide) (by decide) rfl rfl rfl rfl ?_
  refine w_al hK rfl rfl ?_
  refine w_getr (n := 3) (v := 12) hK rfl rfl (by decide) (by decide) rfl rfl rfl rfl ?_
  refine w_call [(1, 7), (1, x), (1, y), (0, 0), (1, 10), (1, 12)] hK rfl rfl rfl rfl (Or.inr ⟨_, _, _, rfl, by decide, (by decide), rfl⟩) (c_div C hx hy 0 (isP_of (p := 10) rfl) (isP_of (p := 12) rfl) (by omega) (by omega) (by omega) (by omega) (by omega) (by omega)) ?_
  rintro _ V3 ⟨rfl, C3, S3⟩
  refine ⟨by decide, (?_ : Wp 198 _ 53 9 [(1, 7), (1, y), (1, x)] [] V3 _)⟩
  refine w_al hK rfl rfl ?_
  refine w_getr (n := 3) (v := 12) hK rfl rfl (by decide) (by decide) rfl rfl rfl rfl ?_
  have d0 := C3.dI ⟨isP_of (p := 12) rfl, pu_eq⟩
  have dn := dg_neg ((C3.bd ⟨isP_of (p := 12) rfl, pu_eq⟩ : Bd (dr 0 f_x f_y) 17).mono (show 17 ≤ 64 by decide))
  refine w_pt hK rfl (isP_of (p := 12) rfl) ?_
  rw [show V3 12 1 = dg (dr 0 f_x f_y) from C3.t ⟨(isP_of (p := 12) rfl), pu_eq⟩]
  refine w_ge hK rfl (by omega) (by omega) (fun h12 => ?_) (fun h12 => ?_)
  · refine w_ic hK rfl ?_
    refine w_zret hK rfl rfl (Or.inl rfl) ?_
    exact ⟨by rw [bz_neg (fun q => by have := dn.mpr q; omega)], C3, S3⟩
  · refine w_ic hK rfl ?_
    refine w_goto hK rfl ?_
    refine w_zret hK rfl rfl (Or.inr rfl) ?_
    exact ⟨by rw [bz_pos (dn.mp (by omega))], C3, S3⟩
set_option maxRecDepth 100000 in
theorem c_step {d : Nat} {M : Mem} {k : Nat} {P : Int → Option (Pl k)} (C : CS M k P) {x y : Int} {f_x : Pl k} (hx : isC P x f_x) {f_y : Pl k} (hy : isC P y f_y) (hne : y ≠ x) (hd : dg f_x < dg f_y) : Ct 198 (d + 3) 51 [(1, 7), (1, x), (1, y)] M (fun r M' => r = (4, 0) ∧ CS M' k (pu P x (dr 0 (mlp (mono e1 1) f_x) f_y)) ∧ NPS M M') := by
  have hK : cd 51 = k51 := rfl
  have dx := C.dI hx
  have dy := C.dI hy
  show Wp 198 _ 51 0 [(1, 7), (1, x), (1, y), (3, 0)] [] M _
  refine w_al hK rfl rfl ?_
  refine w_pt hK rfl hx.1 ?_
  rw [show M x 1 = dg f_x from C.t hx]
  refine w_is [(1, 7), (1, x), (1, y), (0, (dg f_x))] hK rfl rfl rfl ?_
  have lp3 : ∀ (n_ : Nat) (i : Int) (N3 : Mem), (i + 1).toNat = n_ → (-1 ≤ i) → (i ≤ dg f_x) → (CS N3 k (pu P x (mx (mlp (mono e1 1) f_x) f_x (i + 1)))) → (NPS M N3) → Wp 198 (d + 3) 51 3 [(1, 7), (1, x), (1, y), (0, i)] [] N3 (fun r M' => r = (4, 0) ∧ CS M' k (pu P x (dr 0 (mlp (mono e1 1) f_x) f_y)) ∧ NPS M M') := by
    intro n_
    induction n_ using Nat.strongRecOn with
    | _ n_ ih3 =>
    intro i N3 hm3 h1 h2 hC hS
    refine w_il hK rfl rfl ?_
    refine w_lt hK rfl (by omega) (by omega) (fun h4 => ?_) (fun h4 => ?_)
    · refine w_al hK rfl rfl ?_
      refine w_ic hK rfl ?_
      refine w_ic hK rfl ?_
      refine w_call [(1, x), (0, 0), (0, 0)] hK rfl rfl rfl rfl (Or.inr ⟨_, _, _, rfl, hx.1.nn, hx.1.lb, hx.1.o⟩) (Ct.cv (c_putN hC ⟨hx.1, pu_eq⟩ 0 z0 (by omega)) (by simp only [el0]; try rfl)) ?_
      rintro _ V4 ⟨rfl, C4, S4⟩
      rw [pu_pu (P := P) (p := x) (f := mx (mlp (mono e1 1) f_x) f_x (i + 1)) (g := up1 (mx (mlp (mono e1 1) f_x) f_x (i + 1)) 0 z0)] at C4
      refine ⟨by decide, (?_ : Wp 198 _ 51 23 [(1, 7), (1, x), (1, y), (0, i)] [] V4 _)⟩
      have D4 := C4
      rw [show up1 (mx (mlp (mono e1 1) f_x) f_x (i + 1)) 0 z0 = mlp (mono e1 1) f_x from by
        have e := mx_up (s := mlp (mono e1 1) f_x) (h := f_x) (i := 0) (w := z0) (by omega) (by rw [tx_at, if_neg (by decide)])
        rw [show i + 1 = 0 by omega]
        exact e.trans (mx_all (by omega))] at D4
      have bt : Bd (mlp (mono e1 1) f_x) 17 := D4.bd ⟨hx.1, pu_eq⟩
      have dt : -1 ≤ dg (mlp (mono e1 1) f_x) ∧ dg (mlp (mono e1 1) f_x) ≤ dg f_x + 1 := ⟨dg_ge _, by
        have e := dg_lt (f := mlp (mono e1 1) f_x) (n := (dg f_x + 2).toNat) (fun j hj => by rw [tx_at, if_pos (by omega), C.z hx (by omega), sg_z]) (by omega)
        omega⟩
      obtain ⟨b, hb⟩ : ∃ b : Nat, dg f_y = (b : Int) := ⟨(dg f_y).toNat, by omega⟩
      have hy2 := IsDg.nz (C.bd hy) hb
      refine w_al hK rfl rfl ?_
      refine w_pt hK rfl hx.1 ?_
      rw [show V4 x 1 = dg (mlp (mono e1 1) f_x) from D4.t ⟨hx.1, pu_eq⟩]
      refine w_lt hK rfl (by omega) (by omega) (fun h25 => ?_) (fun h25 => ?_)
      · refine w_ret hK rfl rfl ?_
        have e := D4
        rw [← (dr_low (s := 0) hy2 (dg_bd (bt.mono (by decide)) (by omega))).1] at e
        exact ⟨rfl, e, (hS.tr S4)⟩
      · refine w_al hK rfl rfl ?_
        refine w_pt hK rfl hx.1 ?_
        rw [show V4 x 1 = dg (mlp (mono e1 1) f_x) from D4.t ⟨hx.1, pu_eq⟩]
        refine w_al hK rfl rfl ?_
        refine w_pt hK rfl hy.1 ?_
        rw [show V4 y 1 = dg f_y from D4.t ⟨hy.1, ((pu_ne (P := P) (f := mlp (mono e1 1) f_x) (show y ≠ x by omega)).trans hy.2)⟩]
        refine w_ne2 hK rfl (by omega) (by omega) (by omega) (by omega) (fun h30 => ?_) (fun h30 => ?_)
        · refine w_ret hK rfl rfl ?_
          have e := D4
          rw [← (dr_low (s := 0) hy2 (dg_bd (bt.mono (by decide)) (by omega))).1] at e
          exact ⟨rfl, e, (hS.tr S4)⟩
        · refine w_al hK rfl rfl ?_
          refine w_al hK rfl rfl ?_
          refine w_al hK rfl rfl ?_
          refine w_getr (n := 0) (v := 1) hK rfl rfl (by decide) (by decide) rfl rfl rfl rfl ?_
          refine w_al hK rfl rfl ?_
          refine w_call [(1, x)] hK rfl rfl rfl rfl (Or.inr ⟨_, _, _, rfl, hx.1.nn, hx.1.lb, hx.1.o⟩) (c_ld D4 ⟨hx.1, pu_eq⟩) ?_
          rintro _ Mq ⟨rfl, e_⟩
          subst Mq
          have bv_ := el_I (ld (mlp (mono e1 1) f_x))
          refine ⟨by show (0 : Nat) ≠ 9; decide, (?_ : Wp 198 _ 51 37 [(1, 7), (1, x), (1, y), (0, i)] [(0, ((ld (mlp (mono e1 1) f_x)).val : Int)), (1, 1), (1, x), (1, 7)] V4 _)⟩
          refine w_al hK rfl rfl ?_
          refine w_call [(1, y)] hK rfl rfl rfl rfl (Or.inr ⟨_, _, _, rfl, hy.1.nn, hy.1.lb, hy.1.o⟩) (c_ld D4 ⟨hy.1, ((pu_ne (P := P) (f := mlp (mono e1 1) f_x) (show y ≠ x by omega)).trans hy.2)⟩) ?_
          rintro _ Mq ⟨rfl, e_⟩
          subst Mq
          have bv_ := el_I (ld f_y)
          refine ⟨by show (0 : Nat) ≠ 9; decide, (?_ : Wp 198 _ 51 39 [(1, 7), (1, x), (1, y), (0, i)] [(0, ((ld f_y).val : Int)), (0, ((ld (mlp (mono e1 1) f_x)).val : Int)), (1, 1), (1, x), (1, 7)] V4 _)⟩
          refine w_call [(1, 1), (0, ((ld (mlp (mono e1 1) f_x)).val : Int)), (0, ((ld f_y).val : Int))] hK rfl rfl rfl rfl (Or.inr ⟨_, _, _, rfl, by decide, (by decide), rfl⟩) (c_ratio (by decide) D4.F (ld (mlp (mono e1 1) f_x)) (ld f_y) ) ?_
          rintro _ Mq ⟨rfl, e_⟩
          subst Mq
          have bv_ := el_I (ml (ld (mlp (mono e1 1) f_x)) (iv (ld f_y)))
          refine ⟨by show (0 : Nat) ≠ 9; decide, (?_ : Wp 198 _ 51 40 [(1, 7), (1, x), (1, y), (0, i)] [(0, ((ml (ld (mlp (mono e1 1) f_x)) (iv (ld f_y))).val : Int)), (1, x), (1, 7)] V4 _)⟩
          refine w_ic hK rfl ?_
          refine w_al hK rfl rfl ?_
          refine w_call [(1, 7), (1, x), (0, ((ml (ld (mlp (mono e1 1) f_x)) (iv (ld f_y))).val : Int)), (0, 0), (1, y)] hK rfl rfl rfl rfl (Or.inr ⟨_, _, _, rfl, by decide, (by decide), rfl⟩) (c_ahead D4 ⟨hx.1, pu_eq⟩ ⟨hy.1, ((pu_ne (P := P) (f := mlp (mono e1 1) f_x) (show y ≠ x by omega)).trans hy.2)⟩ (ml (ld (mlp (mono e1 1) f_x)) (iv (ld f_y))) 0 (by omega) (by omega) (by omega)) ?_
          rintro _ V5 ⟨rfl, C5, S5⟩
          rw [pu_pu (P := P) (p := x) (f := mlp (mono e1 1) f_x) (g := sbp (mlp (mono e1 1) f_x) (mlp (mono (ml (ld (mlp (mono e1 1) f_x)) (iv (ld f_y))) (Int.toNat 0)) f_y))] at C5
          refine ⟨by decide, (?_ : Wp 198 _ 51 43 [(1, 7), (1, x), (1, y), (0, i)] [] V5 _)⟩
          refine w_ret hK rfl rfl ?_
          have e := C5
          rw [show Int.toNat 0 = 0 from rfl, ld_at hb, ld_at (b := b) (by omega), ← dr_take hy2 (dg_bd (bt.mono (by decide)) (by omega))] at e
          exact ⟨rfl, e, ((hS.tr S4).tr S5)⟩
    · refine w_al hK rfl rfl ?_
      refine w_il hK rfl rfl ?_
      refine w_ic hK rfl ?_
      refine w_add hK rfl (by omega) (by omega) ?_
      refine w_al hK rfl rfl ?_
      refine w_getr (n := 0) (v := 1) hK rfl rfl (by decide) (by decide) rfl rfl rfl rfl ?_
      refine w_al hK rfl rfl ?_
      refine w_il hK rfl rfl ?_
      refine w_call [(1, x), (0, i)] hK rfl rfl rfl rfl (Or.inr ⟨_, _, _, rfl, hx.1.nn, hx.1.lb, hx.1.o⟩) (c_at hC ⟨hx.1, pu_eq⟩ i (by omega) (by omega)) ?_
      rintro _ Mq ⟨rfl, e_⟩
      subst Mq
      have bv_ := el_I (cf (mx (mlp (mono e1 1) f_x) f_x (i + 1)) i)
      refine ⟨by show (0 : Nat) ≠ 9; decide, (?_ : Wp 198 _ 51 14 [(1, 7), (1, x), (1, y), (0, i)] [(0, ((cf (mx (mlp (mono e1 1) f_x) f_x (i + 1)) i).val : Int)), (1, 1), (0, (i + 1)), (1, x)] N3 _)⟩
      refine w_ic hK rfl ?_
      refine w_call [(1, 1), (0, ((cf (mx (mlp (mono e1 1) f_x) f_x (i + 1)) i).val : Int)), (0, 1)] hK rfl rfl rfl rfl (Or.inr ⟨_, _, _, rfl, by decide, (by decide), rfl⟩) (c_imageN (by decide) hC.F (cf (mx (mlp (mono e1 1) f_x) f_x (i + 1)) i) 1 (by omega)) ?_
      rintro _ Mq ⟨rfl, e_⟩
      subst Mq
      have bv_ := el_I (sg 1 (cf (mx (mlp (mono e1 1) f_x) f_x (i + 1)) i))
      refine ⟨by show (0 : Nat) ≠ 9; decide, (?_ : Wp 198 _ 51 16 [(1, 7), (1, x), (1, y), (0, i)] [(0, ((sg 1 (cf (mx (mlp (mono e1 1) f_x) f_x (i + 1)) i)).val : Int)), (0, (i + 1)), (1, x)] N3 _)⟩
      refine w_call [(1, x), (0, (i + 1)), (0, ((sg 1 (cf (mx (mlp (mono e1 1) f_x) f_x (i + 1)) i)).val : Int))] hK rfl rfl rfl rfl (Or.inr ⟨_, _, _, rfl, hx.1.nn, hx.1.lb, hx.1.o⟩) (c_put hC ⟨hx.1, pu_eq⟩ (i + 1) (sg 1 (cf (mx (mlp (mono e1 1) f_x) f_x (i + 1)) i)) (by omega) (by omega)) ?_
      rintro _ V6 ⟨rfl, C6, S6⟩
      rw [pu_pu (P := P) (p := x) (f := mx (mlp (mono e1 1) f_x) f_x (i + 1)) (g := up1 (mx (mlp (mono e1 1) f_x) f_x (i + 1)) (i + 1).toNat (sg 1 (cf (mx (mlp (mono e1 1) f_x) f_x (i + 1)) i)))] at C6
      refine ⟨by decide, (?_ : Wp 198 _ 51 17 [(1, 7), (1, x), (1, y), (0, i)] [] V6 _)⟩
      refine w_inc [(1, 7), (1, x), (1, y), (0, (i + (-1)))] hK rfl rfl rfl (by omega) (by omega) rfl ?_
      refine w_goto hK rfl ?_
      exact ih3 _ (by omega) (i - 1) V6 rfl (by omega) (by omega) (by have e := C6; rw [mx_up (s := mlp (mono e1 1) f_x) (h := f_x) (i := i + 1) (by omega), show i + 1 - 1 = i - 1 + 1 by omega] at e; exact e; rw [mx_lo (by omega), cf_toNat (by omega), tx_at, if_pos (by omega), show (i + 1).toNat - 1 = i.toNat by omega]) ((hS.tr S6))
  exact lp3 _ (dg f_x) M rfl (by omega) (by omega) (by rw [mx_none (s := mlp (mono e1 1) f_x) (h := f_x) (i := dg f_x + 1) (fun n hn => by rw [tx_at, if_pos (by omega), C.z hx (by omega), C.z hx (by omega), sg_z]), pu_same hx.2]; exact C) NPS.rf
set_option maxRecDepth 100000 in
theorem c_start {d : Nat} {M : Mem} {k : Nat} {P : Int → Option (Pl k)} (C : CS M k P) {x y : Int} (hx : isP x) {f_y : Pl k} (hy : isC P y f_y) (hd : 0 ≤ dg f_y) : Ct 198 (d + 2) 50 [(1, 7), (1, x), (1, y)] M (fun r M' => r = (4, 0) ∧ CS M' k (pu P x (dr 0 one f_y)) ∧ NPS M M') := by
  have hK : cd 50 = k50 := rfl
  have dy := C.dI hy
  obtain ⟨b, hb⟩ : ∃ b : Nat, dg f_y = (b : Int) := ⟨(dg f_y).toNat, by omega⟩
  have hy2 := IsDg.nz (C.bd hy) hb
  show Wp 198 _ 50 0 [(1, 7), (1, x), (1, y)] [] M _
  refine w_al hK rfl rfl ?_
  refine w_al hK rfl rfl ?_
  refine w_pt hK rfl hy.1 ?_
  rw [show M y 1 = dg f_y from C.t hy]
  refine w_le hK rfl (by omega) (by omega) (fun h3 => ?_) (fun h3 => ?_)
  · refine w_ic hK rfl ?_
    refine w_call [(1, x), (0, 0)] hK rfl rfl rfl rfl (Or.inr ⟨_, _, _, rfl, hx.nn, hx.lb, hx.o⟩) (Ct.cv (c_bec C hx z0) (by simp only [el0]; try rfl)) ?_
    rintro _ V7 ⟨rfl, C7, S7⟩
    refine ⟨by decide, (?_ : Wp 198 _ 50 8 [(1, 7), (1, x), (1, y)] [] V7 _)⟩
    refine w_ret hK rfl rfl ?_
    have e : dr 0 one f_y = cst z0 := by
      have b0 : b = 0 := by omega
      subst b0
      rw [dr_take hy2 (fun j hj => by show mono e1 0 j = z0; rw [mono_at, if_neg (by omega)])]
      funext n
      show ad (mono e1 0 n) (ng (mlp _ _ n)) = up1 pz 0 z0 n
      rw [mono_mlp, if_pos (by omega), sg_0, Nat.sub_zero, mono_at]
      unfold up1
      by_cases q : n = 0
      · rw [if_pos q, if_pos q, q, ml_assoc, ml_comm (iv _), ml_iv _ (hy2.tp), ml_one, show (one : Pl k) 0 = e1 from rfl, ad_neg]
      · rw [if_neg q, if_neg q, hy2.2.1 n (by omega), ml_zero, ng_z, ad_zero]
        rfl
    rw [e]
    exact ⟨rfl, C7, S7⟩
  · refine w_ic hK rfl ?_
    refine w_goto hK rfl ?_
    refine w_call [(1, x), (0, 1)] hK rfl rfl rfl rfl (Or.inr ⟨_, _, _, rfl, hx.nn, hx.lb, hx.o⟩) (Ct.cv (c_bec C hx e1) (by simp only [el1]; try rfl)) ?_
    rintro _ V8 ⟨rfl, C8, S8⟩
    refine ⟨by decide, (?_ : Wp 198 _ 50 8 [(1, 7), (1, x), (1, y)] [] V8 _)⟩
    refine w_ret hK rfl rfl ?_
    rw [(dr_low (s := 0) (x := one) hy2 (fun j hj => by show mono e1 0 j = z0; rw [mono_at, if_neg (by omega)])).1]
    exact ⟨rfl, C8, S8⟩
