/-! contracts: Values -/
/-- the VALUE of f at a -/
def vl {k : Nat} (f : Pl k) (a : El k) : El k := sm (fun j => ml (f j) (chn a j)) 17
/-- what f does to x -/
def dn {k : Nat} (f : Pl k) (x : El k) : El k := sm (fun j => ml (f j) (sg j x)) 17
def rts {k : Nat} (f : Pl k) : Nat → Int
  | 0 => 0
  | n + 1 => if vl f (el k n) = z0 then bset (rts f n) n else rts f n
def dnT {k : Nat} (f : Pl k) (v : El k) : Nat → Int
  | 0 => 0
  | n + 1 => if dn f (el k n) = v then bset (dnT f v n) n else dnT f v n
def img {k : Nat} (f : Pl k) : Nat → Int
  | 0 => 0
  | n + 1 => bset (img f n) ((dn f (el k n)).val : Int)
/-- the least x from 1 to n that f does to a x -/
def lst {k : Nat} (f : Pl k) (a : El k) : Nat → Int
  | 0 => 0
  | n + 1 => if lst f a n ≠ 0 then lst f a n else if dn f (el k (n + 1)) = ml a (el k (n + 1)) then (n : Int) + 1 else 0
theorem lst_keep {k : Nat} {f : Pl k} {a : El k} {n : Nat} (h : lst f a n ≠ 0) : ∀ {m : Nat}, n ≤ m → lst f a m = lst f a n
  | 0, q => by
    have e : n = 0 := by omega
    rw [e]
  | m + 1, q => by
    by_cases e : n = m + 1
    · rw [e]
    · have h2 := lst_keep h (m := m) (by omega)
      have e2 : lst f a (m + 1) = if lst f a m ≠ 0 then lst f a m else if dn f (el k (m + 1)) = ml a (el k (m + 1)) then (m : Int) + 1 else 0 := rfl
      rw [e2, if_pos (by rw [h2]; exact h), h2]
set_option maxRecDepth 100000 in
theorem c_val {d : Nat} {M : Mem} {k : Nat} {P : Int → Option (Pl k)} (C : CS M k P) {p : Int} {f_p : Pl k} (hp : isC P p f_p) (a : El k) : Ct 198 (d + 2) 65 [(1, 45), (1, p), (0, (a.val : Int))] M (fun r M' => r = (0, ((vl f_p a).val : Int)) ∧ M' = M) := by
  have hK : cd 65 = k65 := rfl
  have dp := C.dI hp
  have ba_ := el_I a
  show Wp 198 _ 65 0 [(1, 45), (1, p), (0, (a.val : Int)), (3, 0), (3, 0), (3, 0)] [] M _
  refine w_ic hK rfl ?_
  refine w_is [(1, 45), (1, p), (0, (a.val : Int)), (0, 0), (3, 0), (3, 0)] hK rfl rfl rfl ?_
  refine w_ic hK rfl ?_
  refine w_is [(1, 45), (1, p), (0, (a.val : Int)), (0, 0), (0, 1), (3, 0)] hK rfl rfl rfl ?_
  refine w_ic hK rfl ?_
  refine w_is [(1, 45), (1, p), (0, (a.val : Int)), (0, 0), (0, 1), (0, 0)] hK rfl rfl rfl ?_
  have lp6 : ∀ (n_ : Nat) (j : Nat), 17 - j = n_ → (j ≤ 17) → Wp 198 (d + 2) 65 6 [(1, 45), (1, p), (0, (a.val : Int)), (0, ((sm (fun i => ml (f_p i) (chn a i)) j).val : Int)), (0, ((chn a j).val : Int)), (0, (j : Int))] [] M (fun r M' => r = (0, ((vl f_p a).val : Int)) ∧ M' = M) := by
    intro n_
    induction n_ using Nat.strongRecOn with
    | _ n_ ih6 =>
    intro j  hm6 hj
    have b1_ := el_I (sm (fun i => ml (f_p i) (chn a i)) j)
    have b2_ := el_I (chn a j)
    refine w_il hK rfl rfl ?_
    refine w_al hK rfl rfl ?_
    refine w_pt hK rfl hp.1 ?_
    rw [show M p 1 = dg f_p from C.t hp]
    refine w_gt2 hK rfl (by omega) (by omega) (by omega) (by omega) (fun h9 => ?_) (fun h9 => ?_)
    · refine w_il hK rfl rfl ?_
      refine w_iret hK rfl rfl ?_
      have e : vl f_p a = sm (fun i => ml (f_p i) (chn a i)) j := sm_more (by omega) (fun i h1 h2 => by rw [C.z hp (by omega), zero_ml])
      rw [e]
      exact ⟨rfl, rfl⟩
    · refine w_al hK rfl rfl ?_
      refine w_getr (n := 0) (v := 1) hK rfl rfl (by decide) (by decide) rfl rfl rfl rfl ?_
      refine w_il hK rfl rfl ?_
      refine w_al hK rfl rfl ?_
      refine w_getr (n := 0) (v := 1) hK rfl rfl (by decide) (by decide) rfl rfl rfl rfl ?_
      refine w_al hK rfl rfl ?_
      refine w_il hK rfl rfl ?_
      refine w_call [(1, p), (0, (j : Int))] hK rfl rfl rfl rfl (Or.inr ⟨_, _, _, rfl, hp.1.nn, hp.1.lb, hp.1.o⟩) (c_atN C hp j (by omega)) ?_
      rintro _ Mq ⟨rfl, e_⟩
      subst Mq
      have bv_ := el_I (f_p j)
      refine ⟨by show (0 : Nat) ≠ 9; decide, (?_ : Wp 198 _ 65 18 [(1, 45), (1, p), (0, (a.val : Int)), (0, ((sm (fun i => ml (f_p i) (chn a i)) j).val : Int)), (0, ((chn a j).val : Int)), (0, (j : Int))] [(0, ((f_p j).val : Int)), (1, 1), (0, ((sm (fun i => ml (f_p i) (chn a i)) j).val : Int)), (1, 1)] M _)⟩
      refine w_il hK rfl rfl ?_
      refine w_call [(1, 1), (0, ((f_p j).val : Int)), (0, ((chn a j).val : Int))] hK rfl rfl rfl rfl (Or.inr ⟨_, _, _, rfl, by decide, (by decide), rfl⟩) (c_prod (by decide) C.F (f_p j) (chn a j) ) ?_
      rintro _ Mq ⟨rfl, e_⟩
      subst Mq
      have bv_ := el_I (ml (f_p j) (chn a j))
      refine ⟨by show (0 : Nat) ≠ 9; decide, (?_ : Wp 198 _ 65 20 [(1, 45), (1, p), (0, (a.val : Int)), (0, ((sm (fun i => ml (f_p i) (chn a i)) j).val : Int)), (0, ((chn a j).val : Int)), (0, (j : Int))] [(0, ((ml (f_p j) (chn a j)).val : Int)), (0, ((sm (fun i => ml (f_p i) (chn a i)) j).val : Int)), (1, 1)] M _)⟩
      refine w_call [(1, 1), (0, ((sm (fun i => ml (f_p i) (chn a i)) j).val : Int)), (0, ((ml (f_p j) (chn a j)).val : Int))] hK rfl rfl rfl rfl (Or.inr ⟨_, _, _, rfl, by decide, (by decide), rfl⟩) (c_sum (by decide) C.F (sm (fun i => ml (f_p i) (chn a i)) j) (ml (f_p j) (chn a j)) ) ?_
      rintro _ Mq ⟨rfl, e_⟩
      subst Mq
      have bv_ := el_I (ad (sm (fun i => ml (f_p i) (chn a i)) j) (ml (f_p j) (chn a j)))
      refine ⟨by show (0 : Nat) ≠ 9; decide, (?_ : Wp 198 _ 65 21 [(1, 45), (1, p), (0, (a.val : Int)), (0, ((sm (fun i => ml (f_p i) (chn a i)) j).val : Int)), (0, ((chn a j).val : Int)), (0, (j : Int))] [(0, ((ad (sm (fun i => ml (f_p i) (chn a i)) j) (ml (f_p j) (chn a j))).val : Int))] M _)⟩
      refine w_is [(1, 45), (1, p), (0, (a.val : Int)), (0, ((ad (sm (fun i => ml (f_p i) (chn a i)) j) (ml (f_p j) (chn a j))).val : Int)), (0, ((chn a j).val : Int)), (0, (j : Int))] hK rfl rfl rfl ?_
      refine w_al hK rfl rfl ?_
      refine w_getr (n := 0) (v := 1) hK rfl rfl (by decide) (by decide) rfl rfl rfl rfl ?_
      refine w_il hK rfl rfl ?_
      refine w_al hK rfl rfl ?_
      refine w_getr (n := 0) (v := 1) hK rfl rfl (by decide) (by decide) rfl rfl rfl rfl ?_
      refine w_il hK rfl rfl ?_
      refine w_il hK rfl rfl ?_
      refine w_call [(1, 1), (0, (a.val : Int)), (0, (j : Int))] hK rfl rfl rfl rfl (Or.inr ⟨_, _, _, rfl, by decide, (by decide), rfl⟩) (c_imageN (by decide) C.F a j (by omega)) ?_
      rintro _ Mq ⟨rfl, e_⟩
      subst Mq
      have bv_ := el_I (sg j a)
      refine ⟨by show (0 : Nat) ≠ 9; decide, (?_ : Wp 198 _ 65 30 [(1, 45), (1, p), (0, (a.val : Int)), (0, ((ad (sm (fun i => ml (f_p i) (chn a i)) j) (ml (f_p j) (chn a j))).val : Int)), (0, ((chn a j).val : Int)), (0, (j : Int))] [(0, ((sg j a).val : Int)), (0, ((chn a j).val : Int)), (1, 1)] M _)⟩
      refine w_call [(1, 1), (0, ((chn a j).val : Int)), (0, ((sg j a).val : Int))] hK rfl rfl rfl rfl (Or.inr ⟨_, _, _, rfl, by decide, (by decide), rfl⟩) (c_prod (by decide) C.F (chn a j) (sg j a) ) ?_
      rintro _ Mq ⟨rfl, e_⟩
      subst Mq
      have bv_ := el_I (ml (chn a j) (sg j a))
      refine ⟨by show (0 : Nat) ≠ 9; decide, (?_ : Wp 198 _ 65 31 [(1, 45), (1, p), (0, (a.val : Int)), (0, ((ad (sm (fun i => ml (f_p i) (chn a i)) j) (ml (f_p j) (chn a j))).val : Int)), (0, ((chn a j).val : Int)), (0, (j : Int))] [(0, ((ml (chn a j) (sg j a)).val : Int))] M _)⟩
      refine w_is [(1, 45), (1, p), (0, (a.val : Int)), (0, ((ad (sm (fun i => ml (f_p i) (chn a i)) j) (ml (f_p j) (chn a j))).val : Int)), (0, ((ml (chn a j) (sg j a)).val : Int)), (0, (j : Int))] hK rfl rfl rfl ?_
      refine w_inc [(1, 45), (1, p), (0, (a.val : Int)), (0, ((ad (sm (fun i => ml (f_p i) (chn a i)) j) (ml (f_p j) (chn a j))).val : Int)), (0, ((ml (chn a j) (sg j a)).val : Int)), (0, ((j : Int) + 1))] hK rfl rfl rfl (by omega) (by omega) rfl ?_
      refine w_goto hK rfl ?_
      exact ih6 _ (by omega) (j + 1)  rfl (by omega)
  have q6 := lp6 _ 0  rfl (by omega)
  rw [show ((chn a 0).val : Int) = 1 by simp [chn, e1_val], show ((sm (fun i => ml (f_p i) (chn a i)) 0).val : Int) = 0 by simp [sm, z0_val]] at q6
  exact q6
set_option maxRecDepth 100000 in
theorem c_done {d : Nat} {M : Mem} {k : Nat} {P : Int → Option (Pl k)} (C : CS M k P) {p : Int} {f_p : Pl k} (hp : isC P p f_p) (a : El k) : Ct 198 (d + 2) 68 [(1, 45), (1, p), (0, (a.val : Int))] M (fun r M' => r = (0, ((dn f_p a).val : Int)) ∧ M' = M) := by
  have hK : cd 68 = k68 := rfl
  have dp := C.dI hp
  have ba_ := el_I a
  show Wp 198 _ 68 0 [(1, 45), (1, p), (0, (a.val : Int)), (3, 0), (3, 0)] [] M _
  refine w_ic hK rfl ?_
  refine w_is [(1, 45), (1, p), (0, (a.val : Int)), (0, 0), (3, 0)] hK rfl rfl rfl ?_
  refine w_ic hK rfl ?_
  refine w_is [(1, 45), (1, p), (0, (a.val : Int)), (0, 0), (0, 0)] hK rfl rfl rfl ?_
  have lp4 : ∀ (n_ : Nat) (j : Nat), 17 - j = n_ → (j ≤ 17) → Wp 198 (d + 2) 68 4 [(1, 45), (1, p), (0, (a.val : Int)), (0, ((sm (fun i => ml (f_p i) (sg i a)) j).val : Int)), (0, (j : Int))] [] M (fun r M' => r = (0, ((dn f_p a).val : Int)) ∧ M' = M) := by
    intro n_
    induction n_ using Nat.strongRecOn with
    | _ n_ ih4 =>
    intro j  hm4 hj
    have b1_ := el_I (sm (fun i => ml (f_p i) (sg i a)) j)
    refine w_il hK rfl rfl ?_
    refine w_al hK rfl rfl ?_
    refine w_pt hK rfl hp.1 ?_
    rw [show M p 1 = dg f_p from C.t hp]
    refine w_gt2 hK rfl (by omega) (by omega) (by omega) (by omega) (fun h7 => ?_) (fun h7 => ?_)
    · refine w_il hK rfl rfl ?_
      refine w_iret hK rfl rfl ?_
      have e : dn f_p a = sm (fun i => ml (f_p i) (sg i a)) j := sm_more (by omega) (fun i h1 h2 => by rw [C.z hp (by omega), zero_ml])
      rw [e]
      exact ⟨rfl, rfl⟩
    · refine w_al hK rfl rfl ?_
      refine w_getr (n := 0) (v := 1) hK rfl rfl (by decide) (by decide) rfl rfl rfl rfl ?_
      refine w_il hK rfl rfl ?_
      refine w_al hK rfl rfl ?_
      refine w_getr (n := 0) (v := 1) hK rfl rfl (by decide) (by decide) rfl rfl rfl rfl ?_
      refine w_al hK rfl rfl ?_
      refine w_il hK rfl rfl ?_
      refine w_call [(1, p), (0, (j : Int))] hK rfl rfl rfl rfl (Or.inr ⟨_, _, _, rfl, hp.1.nn, hp.1.lb, hp.1.o⟩) (c_atN C hp j (by omega)) ?_
      rintro _ Mq ⟨rfl, e_⟩
      subst Mq
      have bv_ := el_I (f_p j)
      refine ⟨by show (0 : Nat) ≠ 9; decide, (?_ : Wp 198 _ 68 16 [(1, 45), (1, p), (0, (a.val : Int)), (0, ((sm (fun i => ml (f_p i) (sg i a)) j).val : Int)), (0, (j : Int))] [(0, ((f_p j).val : Int)), (1, 1), (0, ((sm (fun i => ml (f_p i) (sg i a)) j).val : Int)), (1, 1)] M _)⟩
      refine w_al hK rfl rfl ?_
      refine w_getr (n := 0) (v := 1) hK rfl rfl (by decide) (by decide) rfl rfl rfl rfl ?_
      refine w_il hK rfl rfl ?_
      refine w_il hK rfl rfl ?_
      refine w_call [(1, 1), (0, (a.val : Int)), (0, (j : Int))] hK rfl rfl rfl rfl (Or.inr ⟨_, _, _, rfl, by decide, (by decide), rfl⟩) (c_imageN (by decide) C.F a j (by omega)) ?_
      rintro _ Mq ⟨rfl, e_⟩
      subst Mq
      have bv_ := el_I (sg j a)
      refine ⟨by show (0 : Nat) ≠ 9; decide, (?_ : Wp 198 _ 68 21 [(1, 45), (1, p), (0, (a.val : Int)), (0, ((sm (fun i => ml (f_p i) (sg i a)) j).val : Int)), (0, (j : Int))] [(0, ((sg j a).val : Int)), (0, ((f_p j).val : Int)), (1, 1), (0, ((sm (fun i => ml (f_p i) (sg i a)) j).val : Int)), (1, 1)] M _)⟩
      refine w_call [(1, 1), (0, ((f_p j).val : Int)), (0, ((sg j a).val : Int))] hK rfl rfl rfl rfl (Or.inr ⟨_, _, _, rfl, by decide, (by decide), rfl⟩) (c_prod (by decide) C.F (f_p j) (sg j a) ) ?_
      rintro _ Mq ⟨rfl, e_⟩
      subst Mq
      have bv_ := el_I (ml (f_p j) (sg j a))
      refine ⟨by show (0 : Nat) ≠ 9; decide, (?_ : Wp 198 _ 68 22 [(1, 45), (1, p), (0, (a.val : Int)), (0, ((sm (fun i => ml (f_p i) (sg i a)) j).val : Int)), (0, (j : Int))] [(0, ((ml (f_p j) (sg j a)).val : Int)), (0, ((sm (fun i => ml (f_p i) (sg i a)) j).val : Int)), (1, 1)] M _)⟩
      refine w_call [(1, 1), (0, ((sm (fun i => ml (f_p i) (sg i a)) j).val : Int)), (0, ((ml (f_p j) (sg j a)).val : Int))] hK rfl rfl rfl rfl (Or.inr ⟨_, _, _, rfl, by decide, (by decide), rfl⟩) (c_sum (by decide) C.F (sm (fun i => ml (f_p i) (sg i a)) j) (ml (f_p j) (sg j a)) ) ?_
      rintro _ Mq ⟨rfl, e_⟩
      subst Mq
      have bv_ := el_I (ad (sm (fun i => ml (f_p i) (sg i a)) j) (ml (f_p j) (sg j a)))
      refine ⟨by show (0 : Nat) ≠ 9; decide, (?_ : Wp 198 _ 68 23 [(1, 45), (1, p), (0, (a.val : Int)), (0, ((sm (fun i => ml (f_p i) (sg i a)) j).val : Int)), (0, (j : Int))] [(0, ((ad (sm (fun i => ml (f_p i) (sg i a)) j) (ml (f_p j) (sg j a))).val : Int))] M _)⟩
      refine w_is [(1, 45), (1, p), (0, (a.val : Int)), (0, ((ad (sm (fun i => ml (f_p i) (sg i a)) j) (ml (f_p j) (sg j a))).val : Int)), (0, (j : Int))] hK rfl rfl rfl ?_
      refine w_inc [(1, 45), (1, p), (0, (a.val : Int)), (0, ((ad (sm (fun i => ml (f_p i) (sg i a)) j) (ml (f_p j) (sg j a))).val : Int)), (0, ((j : Int) + 1))] hK rfl rfl rfl (by omega) (by omega) rfl ?_
      refine w_goto hK rfl ?_
      exact ih4 _ (by omega) (j + 1)  rfl (by omega)
  have q4 := lp4 _ 0  rfl (by omega)
  rw [show ((sm (fun i => ml (f_p i) (sg i a)) 0).val : Int) = 0 by simp [sm, z0_val]] at q4
  exact q4
set_option maxRecDepth 100000 in
theorem c_roots {d : Nat} {M : Mem} {k : Nat} {P : Int → Option (Pl k)} (C : CS M k P) {p : Int} {f_p : Pl k} (hp : isC P p f_p) : Ct 198 (d + 3) 67 [(1, 45), (1, p)] M (fun r M' => r = (0, rts f_p (qq k)) ∧ M' = M) := by
  have hK : cd 67 = k67 := rfl
  have q1_ := qq_I k
  show Wp 198 _ 67 0 [(1, 45), (1, p), (3, 0), (3, 0)] [] M _
  refine w_ic hK rfl ?_
  refine w_is [(1, 45), (1, p), (0, 0), (3, 0)] hK rfl rfl rfl ?_
  refine w_ic hK rfl ?_
  refine w_is [(1, 45), (1, p), (0, 0), (0, 0)] hK rfl rfl rfl ?_
  have lp4 : ∀ (n_ : Nat) (j : Nat), 17 - j = n_ → (j ≤ qq k) → Wp 198 (d + 3) 67 4 [(1, 45), (1, p), (0, rts f_p j), (0, (j : Int))] [] M (fun r M' => r = (0, rts f_p (qq k)) ∧ M' = M) := by
    intro n_
    induction n_ using Nat.strongRecOn with
    | _ n_ ih4 =>
    intro j  hm4 hj
    refine w_il hK rfl rfl ?_
    refine w_al hK rfl rfl ?_
    refine w_getr (n := 0) (v := 1) hK rfl rfl (by decide) (by decide) rfl rfl rfl rfl ?_
    refine w_geti (n := 1) (m := 1) hK rfl rfl (by decide) (by decide) rfl rfl rfl rfl ?_
    rw [show M 1 1 = (qq k : Int) from C.F.q]
    refine w_ge2 hK rfl (by omega) (by omega) (by omega) (by omega) (fun h8 => ?_) (fun h8 => ?_)
    · refine w_il hK rfl rfl ?_
      refine w_iret hK rfl rfl ?_
      have e : j = qq k := by omega
      subst e
      exact ⟨rfl, rfl⟩
    · refine w_al hK rfl rfl ?_
      refine w_al hK rfl rfl ?_
      refine w_il hK rfl rfl ?_
      refine w_call [(1, 45), (1, p), (0, (j : Int))] hK rfl rfl rfl rfl (Or.inr ⟨_, _, _, rfl, by decide, (by decide), rfl⟩) (Ct.cv (c_val C hp (el k j)) (by simp only [(elN (k := k) (n := j) (by omega))]; try rfl)) ?_
      rintro _ Mq ⟨rfl, e_⟩
      subst Mq
      have bv_ := el_I (vl f_p (el k j))
      refine ⟨by show (0 : Nat) ≠ 9; decide, (?_ : Wp 198 _ 67 13 [(1, 45), (1, p), (0, rts f_p j), (0, (j : Int))] [(0, ((vl f_p (el k j)).val : Int))] M _)⟩
      refine w_ne hK rfl (by omega) (by omega) (fun h13 => ?_) (fun h13 => ?_)
      · refine w_inc [(1, 45), (1, p), (0, rts f_p j), (0, ((j : Int) + 1))] hK rfl rfl rfl (by omega) (by omega) rfl ?_
        refine w_goto hK rfl ?_
        have q4 := ih4 _ (by omega) (j + 1)  rfl (by omega)
        rw [show rts f_p (j + 1) = if vl f_p (el k j) = z0 then bset (rts f_p j) j else rts f_p j from rfl, if_neg (fun q => by rw [q, z0_val] at h13; exact h13 rfl)] at q4
        exact q4
      · refine w_il hK rfl rfl ?_
        refine w_ic hK rfl ?_
        refine w_il hK rfl rfl ?_
        refine w_bin (w := i32 1 <<< (i32 (j : Int) &&& 31)) hK rfl rfl rfl ?_
        refine w_bin (w := i32 (rts f_p j) ||| i32 ((i32 1 <<< (i32 (j : Int) &&& 31)).toInt)) hK rfl rfl rfl ?_
        refine w_is [(1, 45), (1, p), (0, (i32 (rts f_p j) ||| i32 ((i32 1 <<< (i32 (j : Int) &&& 31)).toInt)).toInt), (0, (j : Int))] hK rfl rfl rfl ?_
        refine w_inc [(1, 45), (1, p), (0, (i32 (rts f_p j) ||| i32 ((i32 1 <<< (i32 (j : Int) &&& 31)).toInt)).toInt), (0, ((j : Int) + 1))] hK rfl rfl rfl (by omega) (by omega) rfl ?_
        refine w_goto hK rfl ?_
        have q4 := ih4 _ (by omega) (j + 1)  rfl (by omega)
        rw [show rts f_p (j + 1) = if vl f_p (el k j) = z0 then bset (rts f_p j) j else rts f_p j from rfl, if_pos (z0_iff.mpr (by omega))] at q4
        exact q4
  exact lp4 _ 0  rfl (by omega)
set_option maxRecDepth 100000 in
theorem c_doneTo {d : Nat} {M : Mem} {k : Nat} {P : Int → Option (Pl k)} (C : CS M k P) {p : Int} {f_p : Pl k} (hp : isC P p f_p) (v : El k) : Ct 198 (d + 3) 69 [(1, 45), (1, p), (0, (v.val : Int))] M (fun r M' => r = (0, dnT f_p v (qq k)) ∧ M' = M) := by
  have hK : cd 69 = k69 := rfl
  have q1_ := qq_I k
  have bv0_ := el_I v
  show Wp 198 _ 69 0 [(1, 45), (1, p), (0, (v.val : Int)), (3, 0), (3, 0)] [] M _
  refine w_ic hK rfl ?_
  refine w_is [(1, 45), (1, p), (0, (v.val : Int)), (0, 0), (3, 0)] hK rfl rfl rfl ?_
  refine w_ic hK rfl ?_
  refine w_is [(1, 45), (1, p), (0, (v.val : Int)), (0, 0), (0, 0)] hK rfl rfl rfl ?_
  have lp4 : ∀ (n_ : Nat) (j : Nat), 17 - j = n_ → (j ≤ qq k) → Wp 198 (d + 3) 69 4 [(1, 45), (1, p), (0, (v.val : Int)), (0, dnT f_p v j), (0, (j : Int))] [] M (fun r M' => r = (0, dnT f_p v (qq k)) ∧ M' = M) := by
    intro n_
    induction n_ using Nat.strongRecOn with
    | _ n_ ih4 =>
    intro j  hm4 hj
    refine w_il hK rfl rfl ?_
    refine w_al hK rfl rfl ?_
    refine w_getr (n := 0) (v := 1) hK rfl rfl (by decide) (by decide) rfl rfl rfl rfl ?_
    refine w_geti (n := 1) (m := 1) hK rfl rfl (by decide) (by decide) rfl rfl rfl rfl ?_
    rw [show M 1 1 = (qq k : Int) from C.F.q]
    refine w_ge2 hK rfl (by omega) (by omega) (by omega) (by omega) (fun h8 => ?_) (fun h8 => ?_)
    · refine w_il hK rfl rfl ?_
      refine w_iret hK rfl rfl ?_
      have e : j = qq k := by omega
      subst e
      exact ⟨rfl, rfl⟩
    · refine w_al hK rfl rfl ?_
      refine w_al hK rfl rfl ?_
      refine w_il hK rfl rfl ?_
      refine w_call [(1, 45), (1, p), (0, (j : Int))] hK rfl rfl rfl rfl (Or.inr ⟨_, _, _, rfl, by decide, (by decide), rfl⟩) (Ct.cv (c_done C hp (el k j)) (by simp only [(elN (k := k) (n := j) (by omega))]; try rfl)) ?_
      rintro _ Mq ⟨rfl, e_⟩
      subst Mq
      have bv_ := el_I (dn f_p (el k j))
      refine ⟨by show (0 : Nat) ≠ 9; decide, (?_ : Wp 198 _ 69 13 [(1, 45), (1, p), (0, (v.val : Int)), (0, dnT f_p v j), (0, (j : Int))] [(0, ((dn f_p (el k j)).val : Int))] M _)⟩
      refine w_il hK rfl rfl ?_
      refine w_ne2 hK rfl (by omega) (by omega) (by omega) (by omega) (fun h14 => ?_) (fun h14 => ?_)
      · refine w_inc [(1, 45), (1, p), (0, (v.val : Int)), (0, dnT f_p v j), (0, ((j : Int) + 1))] hK rfl rfl rfl (by omega) (by omega) rfl ?_
        refine w_goto hK rfl ?_
        have q4 := ih4 _ (by omega) (j + 1)  rfl (by omega)
        rw [show dnT f_p v (j + 1) = if dn f_p (el k j) = v then bset (dnT f_p v j) j else dnT f_p v j from rfl, if_neg (fun q => by rw [q] at h14; exact h14 rfl)] at q4
        exact q4
      · refine w_il hK rfl rfl ?_
        refine w_ic hK rfl ?_
        refine w_il hK rfl rfl ?_
        refine w_bin (w := i32 1 <<< (i32 (j : Int) &&& 31)) hK rfl rfl rfl ?_
        refine w_bin (w := i32 (dnT f_p v j) ||| i32 ((i32 1 <<< (i32 (j : Int) &&& 31)).toInt)) hK rfl rfl rfl ?_
        refine w_is [(1, 45), (1, p), (0, (v.val : Int)), (0, (i32 (dnT f_p v j) ||| i32 ((i32 1 <<< (i32 (j : Int) &&& 31)).toInt)).toInt), (0, (j : Int))] hK rfl rfl rfl ?_
        refine w_inc [(1, 45), (1, p), (0, (v.val : Int)), (0, (i32 (dnT f_p v j) ||| i32 ((i32 1 <<< (i32 (j : Int) &&& 31)).toInt)).toInt), (0, ((j : Int) + 1))] hK rfl rfl rfl (by omega) (by omega) rfl ?_
        refine w_goto hK rfl ?_
        have q4 := ih4 _ (by omega) (j + 1)  rfl (by omega)
        rw [show dnT f_p v (j + 1) = if dn f_p (el k j) = v then bset (dnT f_p v j) j else dnT f_p v j from rfl, if_pos (Fin.ext (by omega))] at q4
        exact q4
  exact lp4 _ 0  rfl (by omega)
set_option maxRecDepth 100000 in
theorem c_imgs {d : Nat} {M : Mem} {k : Nat} {P : Int → Option (Pl k)} (C : CS M k P) {p : Int} {f_p : Pl k} (hp : isC P p f_p) : Ct 198 (d + 3) 70 [(1, 45), (1, p)] M (fun r M' => r = (0, img f_p (qq k)) ∧ M' = M) := by
  have hK : cd 70 = k70 := rfl
  have q1_ := qq_I k
  show Wp 198 _ 70 0 [(1, 45), (1, p), (3, 0), (3, 0)] [] M _
  refine w_ic hK rfl ?_
  refine w_is [(1, 45), (1, p), (0, 0), (3, 0)] hK rfl rfl rfl ?_
  refine w_ic hK rfl ?_
  refine w_is [(1, 45), (1, p), (0, 0), (0, 0)] hK rfl rfl rfl ?_
  have lp4 : ∀ (n_ : Nat) (j : Nat), 17 - j = n_ → (j ≤ qq k) → Wp 198 (d + 3) 70 4 [(1, 45), (1, p), (0, img f_p j), (0, (j : Int))] [] M (fun r M' => r = (0, img f_p (qq k)) ∧ M' = M) := by
    intro n_
    induction n_ using Nat.strongRecOn with
    | _ n_ ih4 =>
    intro j  hm4 hj
    refine w_il hK rfl rfl ?_
    refine w_al hK rfl rfl ?_
    refine w_getr (n := 0) (v := 1) hK rfl rfl (by decide) (by decide) rfl rfl rfl rfl ?_
    refine w_geti (n := 1) (m := 1) hK rfl rfl (by decide) (by decide) rfl rfl rfl rfl ?_
    rw [show M 1 1 = (qq k : Int) from C.F.q]
    refine w_ge2 hK rfl (by omega) (by omega) (by omega) (by omega) (fun h8 => ?_) (fun h8 => ?_)
    · refine w_il hK rfl rfl ?_
      refine w_iret hK rfl rfl ?_
      have e : j = qq k := by omega
      subst e
      exact ⟨rfl, rfl⟩
    · refine w_il hK rfl rfl ?_
      refine w_ic hK rfl ?_
      refine w_al hK rfl rfl ?_
      refine w_al hK rfl rfl ?_
      refine w_il hK rfl rfl ?_
      refine w_call [(1, 45), (1, p), (0, (j : Int))] hK rfl rfl rfl rfl (Or.inr ⟨_, _, _, rfl, by decide, (by decide), rfl⟩) (Ct.cv (c_done C hp (el k j)) (by simp only [(elN (k := k) (n := j) (by omega))]; try rfl)) ?_
      rintro _ Mq ⟨rfl, e_⟩
      subst Mq
      have bv_ := el_I (dn f_p (el k j))
      refine ⟨by show (0 : Nat) ≠ 9; decide, (?_ : Wp 198 _ 70 15 [(1, 45), (1, p), (0, img f_p j), (0, (j : Int))] [(0, ((dn f_p (el k j)).val : Int)), (0, 1), (0, img f_p j)] M _)⟩
      refine w_bin (w := i32 1 <<< (i32 ((dn f_p (el k j)).val : Int) &&& 31)) hK rfl rfl rfl ?_
      refine w_bin (w := i32 (img f_p j) ||| i32 ((i32 1 <<< (i32 ((dn f_p (el k j)).val : Int) &&& 31)).toInt)) hK rfl rfl rfl ?_
      refine w_is [(1, 45), (1, p), (0, (i32 (img f_p j) ||| i32 ((i32 1 <<< (i32 ((dn f_p (el k j)).val : Int) &&& 31)).toInt)).toInt), (0, (j : Int))] hK rfl rfl rfl ?_
      refine w_inc [(1, 45), (1, p), (0, (i32 (img f_p j) ||| i32 ((i32 1 <<< (i32 ((dn f_p (el k j)).val : Int) &&& 31)).toInt)).toInt), (0, ((j : Int) + 1))] hK rfl rfl rfl (by omega) (by omega) rfl ?_
      refine w_goto hK rfl ?_
      exact ih4 _ (by omega) (j + 1)  rfl (by omega)
  exact lp4 _ 0  rfl (by omega)
