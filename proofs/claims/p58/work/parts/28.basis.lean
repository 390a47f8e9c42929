/-! contracts: a set's basis -/
/-- the bit v of a set -/
def btst (s v : Int) : Int := (i32 ((i32 s >>> (i32 v &&& 31)).toInt) &&& i32 1).toInt
theorem btst_I (s v : Int) : -2147483648 ≤ btst s v ∧ btst s v ≤ 2147483647 := by
  unfold btst
  have h1 := Int32.le_toInt (i32 ((i32 s >>> (i32 v &&& 31)).toInt) &&& i32 1)
  have h2 := Int32.toInt_lt (i32 ((i32 s >>> (i32 v &&& 31)).toInt) &&& i32 1)
  omega
def basF {k : Nat} (s : Int) : Nat → Pl k
  | 0 => one
  | n + 1 => if btst s n = 1 then vna (basF s n) (el k n) else basF s n
def basT (k : Nat) (s : Int) : Nat → Int
  | 0 => 0
  | n + 1 => if btst s n = 1 ∧ vl (basF s n : Pl k) (el k n) ≠ z0 then bset (basT k s n) n else basT k s n
theorem basF_dg {k : Nat} (s : Int) : ∀ n : Nat, ∃ d : Nat, d ≤ n ∧ IsDg (basF s n : Pl k) (d : Int)
  | 0 => ⟨0, by omega, one_dg⟩
  | n + 1 => by
    obtain ⟨d, h1, h2⟩ := basF_dg (k := k) s n
    unfold basF
    by_cases h : btst s n = 1
    · rw [if_pos h]
      unfold vna
      by_cases e : vl (basF s n : Pl k) (el k n) = z0
      · rw [if_pos e]
        exact ⟨d, by omega, h2⟩
      · rw [if_neg e]
        exact ⟨1 + d, by omega, (IsDg_mlp (lin_is _) h2).1⟩
    · rw [if_neg h]
      exact ⟨d, by omega, h2⟩
set_option maxRecDepth 100000 in
theorem c_basis {d : Nat} {M : Mem} {k : Nat} {P : Int → Option (Pl k)} (C : CS M k P) {f : Int} (hf : isP f) (f46 : f ≠ 46) (f8 : f ≠ 8) (set : Int) (s1 : -2147483648 ≤ set) (s2 : set ≤ 2147483647) : Ct 198 (d + 4) 71 [(1, 45), (0, set), (1, f)] M (fun r_ M' => ∃ P' : Int → Option (Pl k), r_ = (0, basT k set (qq k)) ∧ CS M' k P' ∧ NPS M M' ∧ (∀ p : Int, p ≠ 8 → p ≠ 46 → p ≠ f → P' p = P p) ∧ P' f = some (basF set (qq k))) := by
  have hK : cd 71 = k71 := rfl
  have q1_ := qq_I k
  show Wp 198 _ 71 0 [(1, 45), (0, set), (1, f), (3, 0), (3, 0)] [] M _
  refine w_ic hK rfl ?_
  refine w_is [(1, 45), (0, set), (1, f), (0, 0), (3, 0)] hK rfl rfl rfl ?_
  refine w_al hK rfl rfl ?_
  refine w_ic hK rfl ?_
  refine w_call [(1, f), (0, 1)] hK rfl rfl rfl rfl (Or.inr ⟨_, _, _, rfl, hf.nn, hf.lb, hf.o⟩) (Ct.cv (c_bec C hf e1) (by simp only [el1]; try rfl)) ?_
  rintro _ V10 ⟨rfl, C10, S10⟩
  refine ⟨by decide, (?_ : Wp 198 _ 71 5 [(1, 45), (0, set), (1, f), (0, 0), (3, 0)] [] V10 _)⟩
  refine w_ic hK rfl ?_
  refine w_is [(1, 45), (0, set), (1, f), (0, 0), (0, 0)] hK rfl rfl rfl ?_
  have lp7 : ∀ (n_ : Nat) (j : Nat) (P1 : Int → Option (Pl k)) (N7 : Mem), 17 - j = n_ → (j ≤ qq k) → (CS N7 k P1) → (NPS M N7) → (∀ p : Int, p ≠ 8 → p ≠ 46 → p ≠ f → P1 p = P p) → (P1 f = some (basF set j)) → Wp 198 (d + 4) 71 7 [(1, 45), (0, set), (1, f), (0, basT k set j), (0, (j : Int))] [] N7 (fun r_ M' => ∃ P' : Int → Option (Pl k), r_ = (0, basT k set (qq k)) ∧ CS M' k P' ∧ NPS M M' ∧ (∀ p : Int, p ≠ 8 → p ≠ 46 → p ≠ f → P' p = P p) ∧ P' f = some (basF set (qq k))) := by
    intro n_
    induction n_ using Nat.strongRecOn with
    | _ n_ ih7 =>
    intro j P1 N7 hm7 hj hC hS hF hf1
    obtain ⟨d_, hd1, hd2⟩ := basF_dg (k := k) set j
    have hb_ := hC.bd ⟨hf, hf1⟩
    have hd3 := dg_eq (hb_.mono (by decide)) hd2
    have bi_ := btst_I set (j : Int)
    unfold btst at bi_
    refine w_il hK rfl rfl ?_
    refine w_al hK rfl rfl ?_
    refine w_getr (n := 0) (v := 1) hK rfl rfl (by decide) (by decide) rfl rfl rfl rfl ?_
    refine w_geti (n := 1) (m := 1) hK rfl rfl (by decide) (by decide) rfl rfl rfl rfl ?_
    rw [show N7 1 1 = (qq k : Int) from hC.F.q]
    refine w_ge2 hK rfl (by omega) (by omega) (by omega) (by omega) (fun h11 => ?_) (fun h11 => ?_)
    · refine w_il hK rfl rfl ?_
      refine w_iret hK rfl rfl ?_
      have e : j = qq k := by omega
      subst e
      exact ⟨P1, rfl, hC, hS, hF, hf1⟩
    · refine w_il hK rfl rfl ?_
      refine w_il hK rfl rfl ?_
      refine w_bin (w := i32 set >>> (i32 (j : Int) &&& 31)) hK rfl rfl rfl ?_
      refine w_ic hK rfl ?_
      refine w_bin (w := i32 ((i32 set >>> (i32 (j : Int) &&& 31)).toInt) &&& i32 1) hK rfl rfl rfl ?_
      refine w_ic hK rfl ?_
      have e18 : True := trivial
      refine w_ne2 hK rfl (by omega) (by omega) (by omega) (by omega) (fun h18 => ?_) (fun h18 => ?_)
      · refine w_inc [(1, 45), (0, set), (1, f), (0, basT k set j), (0, ((j : Int) + 1))] hK rfl rfl rfl (by omega) (by omega) rfl ?_
        refine w_goto hK rfl ?_
        have q7 := ih7 _ (by omega) (j + 1) _ N7 rfl (by omega) hC (hS) (fun p h1 h2 h3 => (hF p h1 h2 h3)) (hf1.trans (congrArg some (by show _ = (if _ then _ else _); rw [if_neg (show ¬ btst set (j : Int) = 1 from h18)])))
        rw [show basT k set (j + 1) = basT k set j from if_neg (fun q => h18 (show btst set (j : Int) = 1 from q.1))] at q7
        exact q7
      · refine w_al hK rfl rfl ?_
        refine w_al hK rfl rfl ?_
        refine w_il hK rfl rfl ?_
        refine w_call [(1, 45), (1, f), (0, (j : Int))] hK rfl rfl rfl rfl (Or.inr ⟨_, _, _, rfl, by decide, (by decide), rfl⟩) (Ct.cv (c_vna hC ⟨hf, hf1⟩ (by omega) (by omega) (el k j) (by omega)) (by simp only [(elN (k := k) (n := j) (by omega))]; try rfl)) ?_
        rintro _ V11 ⟨P11, rfl, C11, S11, F11, f11_0⟩
        refine ⟨by show (0 : Nat) ≠ 9; decide, (?_ : Wp 198 _ 71 23 [(1, 45), (0, set), (1, f), (0, basT k set j), (0, (j : Int))] [(0, (if vl (basF set j : Pl k) (el k j) = z0 then 0 else 1))] V11 _)⟩
        have b23 : (if vl (basF set j : Pl k) (el k j) = z0 then (0 : Int) else 1) = 0 ∨ (if vl (basF set j : Pl k) (el k j) = z0 then (0 : Int) else 1) = 1 := by split <;> simp
        refine w_eq hK rfl (by omega) (by omega) (fun h23 => ?_) (fun h23 => ?_)
        · refine w_inc [(1, 45), (0, set), (1, f), (0, basT k set j), (0, ((j : Int) + 1))] hK rfl rfl rfl (by omega) (by omega) rfl ?_
          refine w_goto hK rfl ?_
          have q7 := ih7 _ (by omega) (j + 1) _ V11 rfl (by omega) C11 ((hS.tr S11)) (fun p h1 h2 h3 => ((F11 p h1 h2 h3).trans (hF p h1 h2 h3))) (f11_0.trans (congrArg some (by show _ = (if _ then _ else _); rw [if_pos (show btst set (j : Int) = 1 from h18)])))
          rw [show basT k set (j + 1) = basT k set j from if_neg (fun q => by rw [if_neg q.2] at h23; exact absurd h23 (by decide))] at q7
          exact q7
        · refine w_il hK rfl rfl ?_
          refine w_ic hK rfl ?_
          refine w_il hK rfl rfl ?_
          refine w_bin (w := i32 1 <<< (i32 (j : Int) &&& 31)) hK rfl rfl rfl ?_
          refine w_bin (w := i32 (basT k set j) ||| i32 ((i32 1 <<< (i32 (j : Int) &&& 31)).toInt)) hK rfl rfl rfl ?_
          refine w_is [(1, 45), (0, set), (1, f), (0, (i32 (basT k set j) ||| i32 ((i32 1 <<< (i32 (j : Int) &&& 31)).toInt)).toInt), (0, (j : Int))] hK rfl rfl rfl ?_
          refine w_inc [(1, 45), (0, set), (1, f), (0, (i32 (basT k set j) ||| i32 ((i32 1 <<< (i32 (j : Int) &&& 31)).toInt)).toInt), (0, ((j : Int) + 1))] hK rfl rfl rfl (by omega) (by omega) rfl ?_
          refine w_goto hK rfl ?_
          have q7 := ih7 _ (by omega) (j + 1) _ V11 rfl (by omega) C11 ((hS.tr S11)) (fun p h1 h2 h3 => ((F11 p h1 h2 h3).trans (hF p h1 h2 h3))) (f11_0.trans (congrArg some (by show _ = (if _ then _ else _); rw [if_pos (show btst set (j : Int) = 1 from h18)])))
          rw [show basT k set (j + 1) = bset (basT k set j) j from if_pos ⟨h18, fun q => by rw [if_pos q] at h23; exact h23 rfl⟩] at q7
          exact q7
  exact lp7 _ 0 _ V10 rfl (by omega) C10 (S10) (fun p h1 h2 h3 => (pu_ne (P := P) (f := cst e1) (show p ≠ f by omega))) pu_eq
