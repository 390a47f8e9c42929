/-! contracts: Values, what vanishes -/
theorem lin_is {k : Nat} (b : El k) : IsDg (up1 (tpw 1) 0 b) ((1 : Nat) : Int) := by
  refine ⟨by decide, fun j hj => ?_, fun _ => e1_ne⟩
  show (if j = 0 then b else if j = 1 then e1 else z0) = z0
  rw [if_neg (by omega), if_neg (by omega)]
theorem lin_dg {k : Nat} (b : El k) : dg (up1 (tpw 1) 0 b) = 1 := dg_eq (fun j hj => (lin_is b).2.1 j (by omega)) (lin_is b)
/-- what vanishes at a, too -/
def vna {k : Nat} (f : Pl k) (a : El k) : Pl k := if vl f a = z0 then f else mlp (up1 (tpw 1) 0 (ng (cjg a (vl f a)))) f
set_option maxRecDepth 100000 in
theorem c_least {d : Nat} {M : Mem} {k : Nat} {P : Int → Option (Pl k)} (C : CS M k P) {p : Int} {f_p : Pl k} (hp : isC P p f_p) (a : El k) : Ct 198 (d + 3) 72 [(1, 45), (1, p), (0, (a.val : Int))] M (fun r M' => r = (0, lst f_p a (qq k - 1)) ∧ M' = M) := by
  have hK : cd 72 = k72 := rfl
  have q1_ := qq_I k
  have ba_ := el_I a
  show Wp 198 _ 72 0 [(1, 45), (1, p), (0, (a.val : Int)), (3, 0)] [] M _
  refine w_ic hK rfl ?_
  refine w_is [(1, 45), (1, p), (0, (a.val : Int)), (0, 1)] hK rfl rfl rfl ?_
  have lp2 : ∀ (n_ : Nat) (j : Nat), 17 - j = n_ → (j + 1 ≤ qq k) → (lst f_p a j = 0) → Wp 198 (d + 3) 72 2 [(1, 45), (1, p), (0, (a.val : Int)), (0, (((j + 1) : Nat) : Int))] [] M (fun r M' => r = (0, lst f_p a (qq k - 1)) ∧ M' = M) := by
    intro n_
    induction n_ using Nat.strongRecOn with
    | _ n_ ih2 =>
    intro j  hm2 hj h0
    refine w_il hK rfl rfl ?_
    refine w_al hK rfl rfl ?_
    refine w_getr (n := 0) (v := 1) hK rfl rfl (by decide) (by decide) rfl rfl rfl rfl ?_
    refine w_geti (n := 1) (m := 1) hK rfl rfl (by decide) (by decide) rfl rfl rfl rfl ?_
    rw [show M 1 1 = (qq k : Int) from C.F.q]
    refine w_ge2 hK rfl (by omega) (by omega) (by omega) (by omega) (fun h6 => ?_) (fun h6 => ?_)
    · refine w_ic hK rfl ?_
      refine w_iret hK rfl rfl ?_
      have e1_ : qq k - 1 = j := by omega
      rw [e1_, h0]
      exact ⟨rfl, rfl⟩
    · refine w_al hK rfl rfl ?_
      refine w_al hK rfl rfl ?_
      refine w_il hK rfl rfl ?_
      refine w_call [(1, 45), (1, p), (0, (((j + 1) : Nat) : Int))] hK rfl rfl rfl rfl (Or.inr ⟨_, _, _, rfl, by decide, (by decide), rfl⟩) (Ct.cv (c_done C hp (el k (j + 1))) (by simp only [(elN (k := k) (n := (j + 1)) (by omega))]; try rfl)) ?_
      rintro _ Mq ⟨rfl, e_⟩
      subst Mq
      have bv_ := el_I (dn f_p (el k (j + 1)))
      refine ⟨by show (0 : Nat) ≠ 9; decide, (?_ : Wp 198 _ 72 11 [(1, 45), (1, p), (0, (a.val : Int)), (0, (((j + 1) : Nat) : Int))] [(0, ((dn f_p (el k (j + 1))).val : Int))] M _)⟩
      refine w_al hK rfl rfl ?_
      refine w_getr (n := 0) (v := 1) hK rfl rfl (by decide) (by decide) rfl rfl rfl rfl ?_
      refine w_il hK rfl rfl ?_
      refine w_il hK rfl rfl ?_
      refine w_call [(1, 1), (0, (a.val : Int)), (0, (((j + 1) : Nat) : Int))] hK rfl rfl rfl rfl (Or.inr ⟨_, _, _, rfl, by decide, (by decide), rfl⟩) (Ct.cv (c_prod (by decide) C.F a (el k (j + 1)) ) (by simp only [(elN (k := k) (n := (j + 1)) (by omega))]; try rfl)) ?_
      rintro _ Mq ⟨rfl, e_⟩
      subst Mq
      have bv_ := el_I (ml a (el k (j + 1)))
      refine ⟨by show (0 : Nat) ≠ 9; decide, (?_ : Wp 198 _ 72 16 [(1, 45), (1, p), (0, (a.val : Int)), (0, (((j + 1) : Nat) : Int))] [(0, ((ml a (el k (j + 1))).val : Int)), (0, ((dn f_p (el k (j + 1))).val : Int))] M _)⟩
      refine w_ne2 hK rfl (by omega) (by omega) (by omega) (by omega) (fun h16 => ?_) (fun h16 => ?_)
      · refine w_inc [(1, 45), (1, p), (0, (a.val : Int)), (0, ((((j + 1) : Nat) : Int) + 1))] hK rfl rfl rfl (by omega) (by omega) rfl ?_
        refine w_goto hK rfl ?_
        exact ih2 _ (by omega) (j + 1)  rfl (by omega) (by show (if _ then _ else _) = _; rw [if_neg (by omega), if_neg (fun q => by rw [q] at h16; exact h16 rfl)])
      · refine w_il hK rfl rfl ?_
        refine w_iret hK rfl rfl ?_
        have e1_ : lst f_p a (j + 1) = (j : Int) + 1 := by
          show (if _ then _ else _) = _
          rw [if_neg (by omega), if_pos (Fin.ext (by omega))]
        have e2_ := lst_keep (f := f_p) (a := a) (n := j + 1) (by omega) (m := qq k - 1) (by omega)
        exact ⟨by rw [e2_, e1_]; rfl, rfl⟩
  exact lp2 _ 0  rfl (by omega) rfl
set_option maxRecDepth 100000 in
theorem c_vna {d : Nat} {M : Mem} {k : Nat} {P : Int → Option (Pl k)} (C : CS M k P) {f : Int} {f_f : Pl k} (hf : isC P f f_f) (f46 : f ≠ 46) (f8 : f ≠ 8) (a : El k) (hd : dg f_f ≤ 15) : Ct 198 (d + 3) 66 [(1, 45), (1, f), (0, (a.val : Int))] M (fun r_ M' => ∃ P' : Int → Option (Pl k), r_ = (0, if vl f_f a = z0 then 0 else 1) ∧ CS M' k P' ∧ NPS M M' ∧ (∀ p : Int, p ≠ 8 → p ≠ 46 → p ≠ f → P' p = P p) ∧ P' f = some (vna f_f a)) := by
  have hK : cd 66 = k66 := rfl
  have ba_ := el_I a
  have ld_ := lin_dg (ng (cjg a (vl f_f a)))
  show Wp 198 _ 66 0 [(1, 45), (1, f), (0, (a.val : Int)), (3, 0)] [] M _
  refine w_al hK rfl rfl ?_
  refine w_al hK rfl rfl ?_
  refine w_il hK rfl rfl ?_
  refine w_call [(1, 45), (1, f), (0, (a.val : Int))] hK rfl rfl rfl rfl (Or.inr ⟨_, _, _, rfl, by decide, (by decide), rfl⟩) (c_val C hf a) ?_
  rintro _ Mq ⟨rfl, e_⟩
  subst Mq
  have bv_ := el_I (vl f_f a)
  refine ⟨by show (0 : Nat) ≠ 9; decide, (?_ : Wp 198 _ 66 4 [(1, 45), (1, f), (0, (a.val : Int)), (3, 0)] [(0, ((vl f_f a).val : Int))] M _)⟩
  refine w_is [(1, 45), (1, f), (0, (a.val : Int)), (0, ((vl f_f a).val : Int))] hK rfl rfl rfl ?_
  refine w_il hK rfl rfl ?_
  refine w_ne hK rfl (by omega) (by omega) (fun h6 => ?_) (fun h6 => ?_)
  · refine w_al hK rfl rfl ?_
    refine w_getr (n := 2) (v := 46) hK rfl rfl (by decide) (by decide) rfl rfl rfl rfl ?_
    refine w_ic hK rfl ?_
    refine w_call [(1, 46), (0, 1)] hK rfl rfl rfl rfl (Or.inr ⟨_, _, _, rfl, (isP_of (p := 46) rfl).nn, (isP_of (p := 46) rfl).lb, (isP_of (p := 46) rfl).o⟩) (c_becT C (isP_of (p := 46) rfl) 1 (by omega)) ?_
    rintro _ V7 ⟨rfl, C7, S7⟩
    refine ⟨by decide, (?_ : Wp 198 _ 66 13 [(1, 45), (1, f), (0, (a.val : Int)), (0, ((vl f_f a).val : Int))] [] V7 _)⟩
    refine w_al hK rfl rfl ?_
    refine w_getr (n := 2) (v := 46) hK rfl rfl (by decide) (by decide) rfl rfl rfl rfl ?_
    refine w_ic hK rfl ?_
    refine w_al hK rfl rfl ?_
    refine w_getr (n := 0) (v := 1) hK rfl rfl (by decide) (by decide) rfl rfl rfl rfl ?_
    refine w_al hK rfl rfl ?_
    refine w_getr (n := 0) (v := 1) hK rfl rfl (by decide) (by decide) rfl rfl rfl rfl ?_
    refine w_il hK rfl rfl ?_
    refine w_il hK rfl rfl ?_
    refine w_call [(1, 1), (0, (a.val : Int)), (0, ((vl f_f a).val : Int))] hK rfl rfl rfl rfl (Or.inr ⟨_, _, _, rfl, by decide, (by decide), rfl⟩) (c_conj (by decide) C7.F a (vl f_f a) ) ?_
    rintro _ Mq ⟨rfl, e_⟩
    subst Mq
    have bv_ := el_I (cjg a (vl f_f a))
    refine ⟨by show (0 : Nat) ≠ 9; decide, (?_ : Wp 198 _ 66 23 [(1, 45), (1, f), (0, (a.val : Int)), (0, ((vl f_f a).val : Int))] [(0, ((cjg a (vl f_f a)).val : Int)), (1, 1), (0, 0), (1, 46)] V7 _)⟩
    refine w_call [(1, 1), (0, ((cjg a (vl f_f a)).val : Int))] hK rfl rfl rfl rfl (Or.inr ⟨_, _, _, rfl, by decide, (by decide), rfl⟩) (c_opp (by decide) C7.F (cjg a (vl f_f a)) ) ?_
    rintro _ Mq ⟨rfl, e_⟩
    subst Mq
    have bv_ := el_I (ng (cjg a (vl f_f a)))
    refine ⟨by show (0 : Nat) ≠ 9; decide, (?_ : Wp 198 _ 66 24 [(1, 45), (1, f), (0, (a.val : Int)), (0, ((vl f_f a).val : Int))] [(0, ((ng (cjg a (vl f_f a))).val : Int)), (0, 0), (1, 46)] V7 _)⟩
    refine w_call [(1, 46), (0, 0), (0, ((ng (cjg a (vl f_f a))).val : Int))] hK rfl rfl rfl rfl (Or.inr ⟨_, _, _, rfl, (isP_of (p := 46) rfl).nn, (isP_of (p := 46) rfl).lb, (isP_of (p := 46) rfl).o⟩) (c_putN C7 ⟨(isP_of (p := 46) rfl), pu_eq⟩ 0 (ng (cjg a (vl f_f a))) (by omega)) ?_
    rintro _ V8 ⟨rfl, C8, S8⟩
    rw [pu_pu (P := P) (p := 46) (f := tpw 1) (g := up1 (tpw 1) 0 (ng (cjg a (vl f_f a))))] at C8
    refine ⟨by decide, (?_ : Wp 198 _ 66 25 [(1, 45), (1, f), (0, (a.val : Int)), (0, ((vl f_f a).val : Int))] [] V8 _)⟩
    refine w_al hK rfl rfl ?_
    refine w_getr (n := 1) (v := 7) hK rfl rfl (by decide) (by decide) rfl rfl rfl rfl ?_
    refine w_al hK rfl rfl ?_
    refine w_getr (n := 2) (v := 46) hK rfl rfl (by decide) (by decide) rfl rfl rfl rfl ?_
    refine w_al hK rfl rfl ?_
    refine w_al hK rfl rfl ?_
    refine w_call [(1, 7), (1, 46), (1, f), (1, f)] hK rfl rfl rfl rfl (Or.inr ⟨_, _, _, rfl, by decide, (by decide), rfl⟩) (c_rprd C8 ⟨(isP_of (p := 46) rfl), pu_eq⟩ ⟨hf.1, ((pu_ne (P := P) (f := up1 (tpw 1) 0 (ng (cjg a (vl f_f a)))) (show f ≠ 46 by omega)).trans hf.2)⟩ hf.1 (by omega) (by omega) (by omega)) ?_
    rintro _ V9 ⟨rfl, C9, S9⟩
    refine ⟨by decide, (?_ : Wp 198 _ 66 32 [(1, 45), (1, f), (0, (a.val : Int)), (0, ((vl f_f a).val : Int))] [] V9 _)⟩
    refine w_ic hK rfl ?_
    refine w_zret hK rfl rfl (Or.inr rfl) ?_
    have e1_ : vl f_f a ≠ z0 := fun q => by rw [q, z0_val] at h6; exact h6 rfl
    exact ⟨_, by rw [if_neg e1_], C9, ((S7.tr S8).tr S9), fun p h1 h2 h3 => ((pu_ne (P := pu (pu P 46 (up1 (tpw 1) 0 (ng (cjg a (vl f_f a))))) 8 (mlp (up1 (tpw 1) 0 (ng (cjg a (vl f_f a)))) f_f)) (f := mlp (up1 (tpw 1) 0 (ng (cjg a (vl f_f a)))) f_f) (show p ≠ f by omega)).trans ((pu_ne (P := pu P 46 (up1 (tpw 1) 0 (ng (cjg a (vl f_f a))))) (f := mlp (up1 (tpw 1) 0 (ng (cjg a (vl f_f a)))) f_f) (show p ≠ 8 by omega)).trans (pu_ne (P := P) (f := up1 (tpw 1) 0 (ng (cjg a (vl f_f a)))) (show p ≠ 46 by omega)))), by unfold vna; rw [if_neg e1_]; exact pu_eq⟩
  · refine w_ic hK rfl ?_
    refine w_zret hK rfl rfl (Or.inl rfl) ?_
    have e1_ : vl f_f a = z0 := z0_iff.mpr (by omega)
    exact ⟨P, by rw [if_pos e1_], C, NPS.rf, fun _ _ _ _ => rfl, by unfold vna; rw [if_pos e1_]; exact hf.2⟩
