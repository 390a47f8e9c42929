/-! the reference's calls: steps, forms, powers, cofactors, classes */ -/
theorem and1_I (w : Int32) : (w &&& i32 1).toInt = 0 ∨ (w &&& i32 1).toInt = 1 := by
  have h : (w &&& i32 1).toBitVec = w.toBitVec &&& 1#32 := rfl
  have h2 : (w.toBitVec &&& 1#32).toNat ≤ 1 := by
    rw [BitVec.toNat_and]
    exact Nat.and_le_right
  show (w &&& i32 1).toBitVec.toInt = 0 ∨ (w &&& i32 1).toBitVec.toInt = 1
  rw [h, BitVec.toInt_eq_toNat_of_lt (by omega)]
  omega
theorem btst_01 (s v : Int) : btst s v = 0 ∨ btst s v = 1 := and1_I _
theorem euN_val {k : Nat} {s : Int} {x y : Pl k} {n : Nat} (h : EuE s x y n) : euN s x y = n := euN_eq h
set_option maxRecDepth 100000 in
theorem ro_steps {d : Nat} {M : Mem} {k : Nat} {pl : Nat → Pl k} {n : Int} {tx : Int → Int} {rc : Nat} {rw : Int → Int} {fc : Nat} {fa : Nat → Pl k} (H : RFS M k pl n tx rc rw fc fa) (i : Nat) (hi : i < 6) (j : Nat) (hj : j < 6) (s : Int) (hs_ : s = 0 ∨ s = 1) : Ct 198 (d + 8) 246 [(1, 161), (0, (i : Int)), (0, (j : Int)), (0, s)] M (fun r_ M' => r_ = (0, (euN s (pl i) (pl j) : Int)) ∧ RFS M' k pl n tx (euN s (pl i) (pl j)) (stw (fun m_ : Nat => dg (eu s (pl i) (pl j) (m_ + 1)).2.1) rw (euN s (pl i) (pl j))) fc fa ∧ (∀ a : Int, (a < 161 ∨ 197 < a) → M' a = M a)) := by
  have hK : cd 246 = k246 := rfl
  obtain ⟨R, C, hpl, T, hR, hF⟩ := H
  have q1_ := qq_I k
  have p1_ := pp_I k
  have m1_ := mm_I k
  have bi_ := (hpl i hi).2
  have di_ := dg_lt9 bi_
  have bj_ := (hpl j hj).2
  have dj_ := dg_lt9 bj_
  show Wp 198 _ 246 0 [(1, 161), (0, (i : Int)), (0, (j : Int)), (0, s), (3, 0)] [] M _
  refine w_al hK rfl rfl ?_
  refine w_ic hK rfl ?_
  refine w_puti (n := 14) (m := 14) hK rfl rfl (by decide) (by decide) rfl rfl rfl rfl ?_
  refine w_il hK rfl rfl ?_
  refine w_call [(0, s)] hK rfl rfl rfl rfl (Or.inl rfl) (r_side s (by omega) (by omega)) ?_
  rintro _ Mq ⟨rfl, e_⟩
  subst Mq
  have sI_377 := ite01 (s = 0 ∨ s = 1)
  refine ⟨by show (0 : Nat) ≠ 9; decide, (?_ : Wp 198 _ 246 5 [(1, 161), (0, (i : Int)), (0, (j : Int)), (0, s), (3, 0)] [(0, (if s = 0 ∨ s = 1 then 1 else 0))] (up M 161 14 0) _)⟩
  refine w_eq hK rfl (by omega) (by omega) (fun h5 => ?_) (fun h5 => ?_)
  · exfalso; omega
  · refine w_al hK rfl rfl ?_
    refine w_il hK rfl rfl ?_
    refine w_il hK rfl rfl ?_
    refine w_ic hK rfl ?_
    refine w_call [(1, 161), (0, (i : Int)), (0, (j : Int)), (0, 0)] hK rfl rfl rfl rfl (Or.inr ⟨_, _, _, rfl, by decide, (by decide), rfl⟩) (r_loads (RS.cg C (fun j_ h1_ h2_ => up_ne2 (by omega)) (fun a_ h1_ h2_ => up_row h1_)) (PM.keep hpl (up_row (by decide))) i j 0 hi hj (by decide)) ?_
    rintro _ V378 ⟨P378, rfl, C378, S378, F378, f378_0, f378_1⟩
    refine ⟨by show (0 : Nat) ≠ 9; decide, (?_ : Wp 198 _ 246 11 [(1, 161), (0, (i : Int)), (0, (j : Int)), (0, s), (3, 0)] [(0, 1)] V378 _)⟩
    refine w_ne hK rfl (by omega) (by omega) (fun h11 => ?_) (fun h11 => ?_)
    · refine w_al hK rfl rfl ?_
      refine w_ic hK rfl ?_
      refine w_puti (n := 13) (m := 13) hK rfl rfl (by decide) (by decide) rfl rfl rfl rfl ?_
      refine w_ic hK rfl ?_
      refine w_is [(1, 161), (0, (i : Int)), (0, (j : Int)), (0, s), (0, 0)] hK rfl rfl rfl ?_
      have lp19 : ∀ (n_ : Nat) (a : Nat) (R1 : Int → Option (Pl k)) (N19 : Mem), 10 - a = n_ → (∀ m_ : Nat, m_ < a → (eu s (pl i) (pl j) m_).2.1 ≠ pz) → (dg (eu s (pl i) (pl j) a).2.1 + (a : Int) ≤ 8) → (RS N19 k R1) → (R1 180 = some ((eu s (pl i) (pl j) a).1)) → (R1 181 = some ((eu s (pl i) (pl j) a).2.1)) → ((∀ p : Int, p ≠ 170 → p ≠ 171 → p ≠ 172 → p ≠ 173 → p ≠ 174 → p ≠ 180 → p ≠ 181 → R1 p = P378 p)) → ((∀ a : Int, (∀ p : Int, isR p → a ≠ p) → a ≠ 161 → a ≠ 169 → N19 a = (up V378 161 13 0) a)) → ((∀ j : Int, j ≠ 13 → N19 161 j = (up V378 161 13 0) 161 j)) → (RM N19 a (stw (fun m_ : Nat => dg (eu s (pl i) (pl j) (m_ + 1)).2.1) rw a)) → Wp 198 (d + 8) 246 19 [(1, 161), (0, (i : Int)), (0, (j : Int)), (0, s), (0, (a : Int))] [] N19 (fun r_ M' => r_ = (0, (euN s (pl i) (pl j) : Int)) ∧ RFS M' k pl n tx (euN s (pl i) (pl j)) (stw (fun m_ : Nat => dg (eu s (pl i) (pl j) (m_ + 1)).2.1) rw (euN s (pl i) (pl j))) fc fa ∧ (∀ a : Int, (a < 161 ∨ 197 < a) → M' a = M a)) := by
        intro n_
        induction n_ using Nat.strongRecOn with
        | _ n_ ih19 =>
        intro a R1 N19 hm19 hz_ hd_ hCR1 h0_ h1_ hGR1 hSN19 hHN19 hRN19
        have hB_ := eu_B bi_ bj_ a hz_
        have gA_ := dg_lt9 hB_.1.1
        have gB_ := dg_lt9 hB_.1.2
        refine w_al hK rfl rfl ?_
        refine w_getr (n := 27) (v := 181) hK rfl rfl (by decide) (by decide) rfl rfl rfl rfl ?_
        have dI_ : -1 ≤ dg ((eu s (pl i) (pl j) a).2.1) ∧ dg ((eu s (pl i) (pl j) a).2.1) ≤ 47 := hCR1.dI ⟨(isR_of (p := 181) rfl), h1_⟩
        refine w_call [(1, 181)] hK rfl rfl rfl rfl (Or.inl rfl) (r_deg hCR1 ⟨(isR_of (p := 181) rfl), h1_⟩) ?_
        rintro _ Mq ⟨rfl, e_⟩
        subst Mq
        refine ⟨by show (0 : Nat) ≠ 9; decide, (?_ : Wp 198 _ 246 22 [(1, 161), (0, (i : Int)), (0, (j : Int)), (0, s), (0, (a : Int))] [(0, (dg ((eu s (pl i) (pl j) a).2.1)))] N19 _)⟩
        refine w_ic hK rfl ?_
        refine w_eq2 hK rfl (by omega) (by omega) (by omega) (by omega) (fun h23 => ?_) (fun h23 => ?_)
        · refine w_il hK rfl rfl ?_
          refine w_iret hK rfl rfl ?_
          have eE_ : EuE s (pl i) (pl j) a := ⟨hz_, (dg_neg (hB_.1.2.mono (by decide))).mp (by omega)⟩
          rw [euN_eq eE_]
          exact ⟨rfl, ⟨_, hCR1, (PM.keep hpl ((hSN19 167 (notR rfl) (by decide) (by decide)).trans ((up_row (by decide)).trans ((S378 167 (notR rfl)).trans (up_row (by decide)))))), (TMs.keep T ((hHN19 11 (by decide)).trans ((up_ne2 (by decide)).trans ((congrFun (S378 161 (notR rfl)) 11).trans (up_ne2 (by decide))))) ((hSN19 168 (notR rfl) (by decide) (by decide)).trans ((up_row (by decide)).trans ((S378 168 (notR rfl)).trans (up_row (by decide)))))), hRN19, (FM.keep hF ((hHN19 15 (by decide)).trans ((up_ne2 (by decide)).trans ((congrFun (S378 161 (notR rfl)) 15).trans (up_ne2 (by decide))))) ((hSN19 189 (notR rfl) (by decide) (by decide)).trans ((up_row (by decide)).trans ((S378 189 (notR rfl)).trans (up_row (by decide))))) ((hSN19 190 (notR rfl) (by decide) (by decide)).trans ((up_row (by decide)).trans ((S378 190 (notR rfl)).trans (up_row (by decide))))))⟩, (fun a h_ => ((hSN19 a (npR h_) (by omega) (by omega)).trans ((up_row (by omega)).trans ((S378 a (npR h_)).trans (up_row (by omega))))))⟩
        · have hne_ : (eu s (pl i) (pl j) a).2.1 ≠ pz := fun q_ => by rw [q_, dg_pz] at h23; exact h23 rfl
          have hdd_ := eu_dec hB_ hne_
          refine w_al hK rfl rfl ?_
          refine w_al hK rfl rfl ?_
          refine w_getr (n := 26) (v := 180) hK rfl rfl (by decide) (by decide) rfl rfl rfl rfl ?_
          refine w_al hK rfl rfl ?_
          refine w_getr (n := 27) (v := 181) hK rfl rfl (by decide) (by decide) rfl rfl rfl rfl ?_
          refine w_il hK rfl rfl ?_
          refine w_call [(1, 161), (1, 180), (1, 181), (0, s)] hK rfl rfl rfl rfl (Or.inr ⟨_, _, _, rfl, by decide, (by decide), rfl⟩) (r_div hCR1 ⟨(isR_of (p := 180) rfl), h0_⟩ ⟨(isR_of (p := 181) rfl), h1_⟩ s (by omega) (by omega) (by omega) (by omega) (hB_.1.1.mono (by decide)) (hB_.1.2.mono (by decide))) ?_
          rintro _ V379 ⟨P379, rfl, C379, S379, F379, f379_0, f379_1⟩
          refine ⟨by decide, (?_ : Wp 198 _ 246 31 [(1, 161), (0, (i : Int)), (0, (j : Int)), (0, s), (0, (a : Int))] [] V379 _)⟩
          refine w_al hK rfl rfl ?_
          refine w_getr (n := 27) (v := 181) hK rfl rfl (by decide) (by decide) rfl rfl rfl rfl ?_
          refine w_al hK rfl rfl ?_
          refine w_getr (n := 26) (v := 180) hK rfl rfl (by decide) (by decide) rfl rfl rfl rfl ?_
          refine w_call [(1, 181), (1, 180)] hK rfl rfl rfl rfl (Or.inl rfl) (r_copy C379 ⟨(isR_of (p := 181) rfl), ((F379 181 (by omega) (by omega) (by omega) (by omega) (by omega)).trans h1_)⟩ (isR_of (p := 180) rfl) (by omega)) ?_
          rintro _ V380 ⟨P380, rfl, C380, S380, F380, f380_0⟩
          refine ⟨by decide, (?_ : Wp 198 _ 246 36 [(1, 161), (0, (i : Int)), (0, (j : Int)), (0, s), (0, (a : Int))] [] V380 _)⟩
          refine w_al hK rfl rfl ?_
          refine w_getr (n := 19) (v := 173) hK rfl rfl (by decide) (by decide) rfl rfl rfl rfl ?_
          refine w_al hK rfl rfl ?_
          refine w_getr (n := 27) (v := 181) hK rfl rfl (by decide) (by decide) rfl rfl rfl rfl ?_
          refine w_call [(1, 173), (1, 181)] hK rfl rfl rfl rfl (Or.inl rfl) (r_copy C380 ⟨(isR_of (p := 173) rfl), ((F380 173 (by omega)).trans f379_0)⟩ (isR_of (p := 181) rfl) (by omega)) ?_
          rintro _ V381 ⟨P381, rfl, C381, S381, F381, f381_0⟩
          refine ⟨by decide, (?_ : Wp 198 _ 246 41 [(1, 161), (0, (i : Int)), (0, (j : Int)), (0, s), (0, (a : Int))] [] V381 _)⟩
          refine w_al hK rfl rfl ?_
          refine w_al hK rfl rfl ?_
          refine w_getr (n := 27) (v := 181) hK rfl rfl (by decide) (by decide) rfl rfl rfl rfl ?_
          have dI_ : -1 ≤ dg (dr s ((eu s (pl i) (pl j) a).1) ((eu s (pl i) (pl j) a).2.1)) ∧ dg (dr s ((eu s (pl i) (pl j) a).1) ((eu s (pl i) (pl j) a).2.1)) ≤ 47 := C381.dI ⟨(isR_of (p := 181) rfl), f381_0⟩
          refine w_call [(1, 181)] hK rfl rfl rfl rfl (Or.inl rfl) (r_deg C381 ⟨(isR_of (p := 181) rfl), f381_0⟩) ?_
          rintro _ Mq ⟨rfl, e_⟩
          subst Mq
          refine ⟨by show (0 : Nat) ≠ 9; decide, (?_ : Wp 198 _ 246 45 [(1, 161), (0, (i : Int)), (0, (j : Int)), (0, s), (0, (a : Int))] [(0, (dg (dr s ((eu s (pl i) (pl j) a).1) ((eu s (pl i) (pl j) a).2.1)))), (1, 161)] V381 _)⟩
          have gC_ : dg (dr s (eu s (pl i) (pl j) a).1 (eu s (pl i) (pl j) a).2.1) < dg (eu s (pl i) (pl j) a).2.1 := hdd_.1
          refine w_i2l hK rfl (by omega) (by omega) ?_
          refine w_call [(1, 161), (2, (dg (dr s ((eu s (pl i) (pl j) a).1) ((eu s (pl i) (pl j) a).2.1))))] hK rfl rfl rfl rfl (Or.inr ⟨_, _, _, rfl, by decide, (by decide), rfl⟩) (r_tell (RM.keep hRN19 ((congrFun (S381 161 (notR rfl)) 13).trans ((congrFun (S380 161 (notR rfl)) 13).trans (congrFun (S379 161 (notR rfl)) 13))) ((S381 169 (notR rfl)).trans ((S380 169 (notR rfl)).trans (S379 169 (notR rfl))))) (by omega) (dg (dr s ((eu s (pl i) (pl j) a).1) ((eu s (pl i) (pl j) a).2.1)))) ?_
          rintro _ V382 ⟨rfl, R382, F382, G382⟩
          refine ⟨by decide, (?_ : Wp 198 _ 246 47 [(1, 161), (0, (i : Int)), (0, (j : Int)), (0, s), (0, (a : Int))] [] V382 _)⟩
          refine w_inc [(1, 161), (0, (i : Int)), (0, (j : Int)), (0, s), (0, ((a : Int) + 1))] hK rfl rfl rfl (by omega) (by omega) rfl ?_
          refine w_goto hK rfl ?_
          exact ih19 _ (by omega) (a + 1) _ V382 rfl (fun m_ h_ => by
            by_cases q_ : m_ = a
            · rw [q_]; exact hne_
            · exact hz_ m_ (by omega)) (by have := eu_dec hB_ hne_; omega) (RS.cg C381 (fun j_ h1_ h2_ => G382 j_ (by omega)) (fun a_ h1_ h2_ => F382 a_ h1_ (RSc_ne h2_ (by decide) (notR rfl)))) (((F381 180 (by omega)).trans f380_0)) (f381_0) (fun p pn170_ pn171_ pn172_ pn173_ pn174_ pn180_ pn181_ => ((F381 p pn181_).trans ((F380 p pn180_).trans ((F379 p pn170_ pn171_ pn172_ pn173_ pn174_).trans (hGR1 p pn170_ pn171_ pn172_ pn173_ pn174_ pn180_ pn181_))))) (fun a nr_ n161_ n169_ => ((F382 a n161_ n169_).trans ((S381 a nr_).trans ((S380 a nr_).trans ((S379 a nr_).trans (hSN19 a nr_ n161_ n169_)))))) (fun j n13_ => ((G382 j n13_).trans ((congrFun (S381 161 (notR rfl)) j).trans ((congrFun (S380 161 (notR rfl)) j).trans ((congrFun (S379 161 (notR rfl)) j).trans (hHN19 j n13_)))))) R382
      exact lp19 _ 0 _ (up V378 161 13 0) rfl (fun m_ h_ => by omega) (by show dg (pl j) + ((0 : Nat) : Int) ≤ 8; omega) (RS.cg C378 (fun j_ h1_ h2_ => up_ne2 (by omega)) (fun a_ h1_ h2_ => up_row h1_)) (f378_0) (f378_1) (fun p pn170_ pn171_ pn172_ pn173_ pn174_ pn180_ pn181_ => rfl) (fun a nr_ n161_ n169_ => rfl) (fun j n13_ => rfl) (RM.zero (M := (up V378 161 13 0)) (rw := rw) up_eq)
    · exfalso; omega
set_option maxRecDepth 100000 in
theorem rn_steps {d : Nat} {M : Mem} {k : Nat} {pl : Nat → Pl k} {n : Int} {tx : Int → Int} {rc : Nat} {rw : Int → Int} {fc : Nat} {fa : Nat → Pl k} (H : RFS M k pl n tx rc rw fc fa) (i j s : Int) (i1_ : -2147483648 ≤ i) (i2_ : i ≤ 2147483647) (j1_ : -2147483648 ≤ j) (j2_ : j ≤ 2147483647) (s1_ : -2147483648 ≤ s) (s2_ : s ≤ 2147483647) (hn : ¬ ((0 ≤ i ∧ i < 6) ∧ (0 ≤ j ∧ j < 6) ∧ (s = 0 ∨ s = 1))) : Ct 198 (d + 8) 246 [(1, 161), (0, i), (0, j), (0, s)] M (fun r_ M' => r_ = (0, -1) ∧ RFS M' k pl n tx rc rw fc fa ∧ (∀ a : Int, (a < 161 ∨ 197 < a) → M' a = M a)) := by
  have hK : cd 246 = k246 := rfl
  obtain ⟨R, C, hpl, T, hR, hF⟩ := H
  have q1_ := qq_I k
  have p1_ := pp_I k
  have m1_ := mm_I k
  show Wp 198 _ 246 0 [(1, 161), (0, i), (0, j), (0, s), (3, 0)] [] M _
  refine w_al hK rfl rfl ?_
  refine w_ic hK rfl ?_
  refine w_puti (n := 14) (m := 14) hK rfl rfl (by decide) (by decide) rfl rfl rfl rfl ?_
  refine w_il hK rfl rfl ?_
  refine w_call [(0, s)] hK rfl rfl rfl rfl (Or.inl rfl) (r_side s (by omega) (by omega)) ?_
  rintro _ Mq ⟨rfl, e_⟩
  subst Mq
  have sI_383 := ite01 (s = 0 ∨ s = 1)
  refine ⟨by show (0 : Nat) ≠ 9; decide, (?_ : Wp 198 _ 246 5 [(1, 161), (0, i), (0, j), (0, s), (3, 0)] [(0, (if s = 0 ∨ s = 1 then 1 else 0))] (up M 161 14 0) _)⟩
  refine w_eq hK rfl (by omega) (by omega) (fun h5 => ?_) (fun h5 => ?_)
  · refine w_ic hK rfl ?_
    refine w_iret hK rfl rfl ?_
    exact ⟨rfl, ⟨_, (RS.cg C (fun j_ h1_ h2_ => up_ne2 (by omega)) (fun a_ h1_ h2_ => up_row h1_)), (PM.keep hpl (up_row (by decide))), (TMs.keep T (up_ne2 (by decide)) (up_row (by decide))), (RM.keep hR (up_ne2 (by decide)) (up_row (by decide))), (FM.keep hF (up_ne2 (by decide)) (up_row (by decide)) (up_row (by decide)))⟩, (fun a h_ => (up_row (by omega)))⟩
  · refine w_al hK rfl rfl ?_
    refine w_il hK rfl rfl ?_
    refine w_il hK rfl rfl ?_
    refine w_ic hK rfl ?_
    refine w_call [(1, 161), (0, i), (0, j), (0, 0)] hK rfl rfl rfl rfl (Or.inr ⟨_, _, _, rfl, by decide, (by decide), rfl⟩) (r_loadsN i j 0 (by omega) (by omega) (by omega) (by omega) (by omega) (by omega) (by omega)) ?_
    rintro _ Mq ⟨rfl, e_⟩
    subst Mq
    refine ⟨by show (0 : Nat) ≠ 9; decide, (?_ : Wp 198 _ 246 11 [(1, 161), (0, i), (0, j), (0, s), (3, 0)] [(0, 0)] (up M 161 14 0) _)⟩
    refine w_ne hK rfl (by omega) (by omega) (fun h11 => ?_) (fun h11 => ?_)
    · exfalso; omega
    · refine w_ic hK rfl ?_
      refine w_iret hK rfl rfl ?_
      exact ⟨rfl, ⟨_, (RS.cg C (fun j_ h1_ h2_ => up_ne2 (by omega)) (fun a_ h1_ h2_ => up_row h1_)), (PM.keep hpl (up_row (by decide))), (TMs.keep T (up_ne2 (by decide)) (up_row (by decide))), (RM.keep hR (up_ne2 (by decide)) (up_row (by decide))), (FM.keep hF (up_ne2 (by decide)) (up_row (by decide)) (up_row (by decide)))⟩, (fun a h_ => (up_row (by omega)))⟩
set_option maxRecDepth 100000 in
theorem ro_form0 {d : Nat} {M : Mem} {k : Nat} {pl : Nat → Pl k} {n : Int} {tx : Int → Int} {rc : Nat} {rw : Int → Int} {fc : Nat} {fa : Nat → Pl k} (H : RFS M k pl n tx rc rw fc fa) (i : Nat) (hi : i < 6)  : Ct 198 (d + 8) 249 [(1, 161), (0, (i : Int)), (0, 0)] M (fun r_ M' => r_ = (0, ((ld (pl i)).val : Int)) ∧ RFS M' k pl n tx rc rw fc fa ∧ (∀ a : Int, (a < 161 ∨ 197 < a) → M' a = M a)) := by
  have hK : cd 249 = k249 := rfl
  obtain ⟨R, C, hpl, T, hR, hF⟩ := H
  have q1_ := qq_I k
  have p1_ := pp_I k
  have m1_ := mm_I k
  have bi_ := (hpl i hi).2
  have di_ := dg_lt9 bi_
  show Wp 198 _ 249 0 [(1, 161), (0, (i : Int)), (0, 0), (3, 0)] [] M _
  refine w_al hK rfl rfl ?_
  refine w_ic hK rfl ?_
  refine w_puti (n := 14) (m := 14) hK rfl rfl (by decide) (by decide) rfl rfl rfl rfl ?_
  refine w_il hK rfl rfl ?_
  refine w_call [(0, (i : Int))] hK rfl rfl rfl rfl (Or.inl rfl) (r_place (i : Int) (by omega) (by omega)) ?_
  rintro _ Mq ⟨rfl, e_⟩
  subst Mq
  have pI_384 := ite01 (0 ≤ (i : Int) ∧ (i : Int) < 6)
  refine ⟨by show (0 : Nat) ≠ 9; decide, (?_ : Wp 198 _ 249 5 [(1, 161), (0, (i : Int)), (0, 0), (3, 0)] [(0, (if 0 ≤ (i : Int) ∧ (i : Int) < 6 then 1 else 0))] (up M 161 14 0) _)⟩
  refine w_ne hK rfl (by omega) (by omega) (fun h5 => ?_) (fun h5 => ?_)
  · refine w_al hK rfl rfl ?_
    refine w_il hK rfl rfl ?_
    refine w_al hK rfl rfl ?_
    refine w_getr (n := 26) (v := 180) hK rfl rfl (by decide) (by decide) rfl rfl rfl rfl ?_
    refine w_call [(1, 161), (0, (i : Int)), (1, 180)] hK rfl rfl rfl rfl (Or.inr ⟨_, _, _, rfl, by decide, (by decide), rfl⟩) (r_load (RS.cg C (fun j_ h1_ h2_ => up_ne2 (by omega)) (fun a_ h1_ h2_ => up_row h1_)) (PM.keep hpl (up_row (by decide))) i hi (isR_of (p := 180) rfl)) ?_
    rintro _ V385 ⟨P385, rfl, C385, S385, F385, f385_0⟩
    refine ⟨by decide, (?_ : Wp 198 _ 249 13 [(1, 161), (0, (i : Int)), (0, 0), (3, 0)] [] V385 _)⟩
    refine w_al hK rfl rfl ?_
    refine w_getr (n := 26) (v := 180) hK rfl rfl (by decide) (by decide) rfl rfl rfl rfl ?_
    have dI_ : -1 ≤ dg (pl i) ∧ dg (pl i) ≤ 47 := C385.dI ⟨(isR_of (p := 180) rfl), f385_0⟩
    refine w_call [(1, 180)] hK rfl rfl rfl rfl (Or.inl rfl) (r_deg C385 ⟨(isR_of (p := 180) rfl), f385_0⟩) ?_
    rintro _ Mq ⟨rfl, e_⟩
    subst Mq
    refine ⟨by show (0 : Nat) ≠ 9; decide, (?_ : Wp 198 _ 249 16 [(1, 161), (0, (i : Int)), (0, 0), (3, 0)] [(0, (dg (pl i)))] V385 _)⟩
    refine w_is [(1, 161), (0, (i : Int)), (0, 0), (0, (dg (pl i)))] hK rfl rfl rfl ?_
    refine w_il hK rfl rfl ?_
    refine w_tab hK rfl rfl (by decide) (by decide) (fun h_ => absurd h_ (by decide)) (fun _ _ => ?_)
    show Wp 198 _ 249 19 [(1, 161), (0, (i : Int)), (0, 0), (0, (dg (pl i)))] [] V385 _
    refine w_il hK rfl rfl ?_
    refine w_ic hK rfl ?_
    refine w_ne2 hK rfl (by omega) (by omega) (by omega) (by omega) (fun h21 => ?_) (fun h21 => ?_)
    · refine w_al hK rfl rfl ?_
      refine w_getr (n := 26) (v := 180) hK rfl rfl (by decide) (by decide) rfl rfl rfl rfl ?_
      refine w_il hK rfl rfl ?_
      refine w_ia hK rfl rfl (by decide) (by decide) (by omega) (by omega) ?_
      rw [show V385 180 (dg (pl i)) = ((cf (pl i) (dg (pl i))).val : Int) from C385.atI ⟨(isR_of (p := 180) rfl), f385_0⟩ (by omega) (by omega)]
      refine w_iret hK rfl rfl ?_
      exact ⟨rfl, ⟨_, C385, (PM.keep hpl ((S385 167 (notR rfl)).trans (up_row (by decide)))), (TMs.keep T ((congrFun (S385 161 (notR rfl)) 11).trans (up_ne2 (by decide))) ((S385 168 (notR rfl)).trans (up_row (by decide)))), (RM.keep hR ((congrFun (S385 161 (notR rfl)) 13).trans (up_ne2 (by decide))) ((S385 169 (notR rfl)).trans (up_row (by decide)))), (FM.keep hF ((congrFun (S385 161 (notR rfl)) 15).trans (up_ne2 (by decide))) ((S385 189 (notR rfl)).trans (up_row (by decide))) ((S385 190 (notR rfl)).trans (up_row (by decide))))⟩, (fun a h_ => ((S385 a (npR h_)).trans (up_row (by omega))))⟩
    · refine w_ic hK rfl ?_
      refine w_goto hK rfl ?_
      refine w_iret hK rfl rfl ?_
      have l0_ : ld (pl i) = z0 := by unfold ld cf; rw [if_neg (by omega)]
      rw [l0_]
      exact ⟨(congrArg (Prod.mk 0) el0.symm), ⟨_, C385, (PM.keep hpl ((S385 167 (notR rfl)).trans (up_row (by decide)))), (TMs.keep T ((congrFun (S385 161 (notR rfl)) 11).trans (up_ne2 (by decide))) ((S385 168 (notR rfl)).trans (up_row (by decide)))), (RM.keep hR ((congrFun (S385 161 (notR rfl)) 13).trans (up_ne2 (by decide))) ((S385 169 (notR rfl)).trans (up_row (by decide)))), (FM.keep hF ((congrFun (S385 161 (notR rfl)) 15).trans (up_ne2 (by decide))) ((S385 189 (notR rfl)).trans (up_row (by decide))) ((S385 190 (notR rfl)).trans (up_row (by decide))))⟩, (fun a h_ => ((S385 a (npR h_)).trans (up_row (by omega))))⟩
  · exfalso; omega
set_option maxRecDepth 100000 in
theorem ro_form1 {d : Nat} {M : Mem} {k : Nat} {pl : Nat → Pl k} {n : Int} {tx : Int → Int} {rc : Nat} {rw : Int → Int} {fc : Nat} {fa : Nat → Pl k} (H : RFS M k pl n tx rc rw fc fa) (i : Nat) (hi : i < 6)  : Ct 198 (d + 8) 249 [(1, 161), (0, (i : Int)), (0, 1)] M (fun r_ M' => r_ = (0, (wgt (pl i) 17)) ∧ RFS M' k pl n tx rc rw fc fa ∧ (∀ a : Int, (a < 161 ∨ 197 < a) → M' a = M a)) := by
  have hK : cd 249 = k249 := rfl
  obtain ⟨R, C, hpl, T, hR, hF⟩ := H
  have q1_ := qq_I k
  have p1_ := pp_I k
  have m1_ := mm_I k
  have bi_ := (hpl i hi).2
  have di_ := dg_lt9 bi_
  show Wp 198 _ 249 0 [(1, 161), (0, (i : Int)), (0, 1), (3, 0)] [] M _
  refine w_al hK rfl rfl ?_
  refine w_ic hK rfl ?_
  refine w_puti (n := 14) (m := 14) hK rfl rfl (by decide) (by decide) rfl rfl rfl rfl ?_
  refine w_il hK rfl rfl ?_
  refine w_call [(0, (i : Int))] hK rfl rfl rfl rfl (Or.inl rfl) (r_place (i : Int) (by omega) (by omega)) ?_
  rintro _ Mq ⟨rfl, e_⟩
  subst Mq
  have pI_386 := ite01 (0 ≤ (i : Int) ∧ (i : Int) < 6)
  refine ⟨by show (0 : Nat) ≠ 9; decide, (?_ : Wp 198 _ 249 5 [(1, 161), (0, (i : Int)), (0, 1), (3, 0)] [(0, (if 0 ≤ (i : Int) ∧ (i : Int) < 6 then 1 else 0))] (up M 161 14 0) _)⟩
  refine w_ne hK rfl (by omega) (by omega) (fun h5 => ?_) (fun h5 => ?_)
  · refine w_al hK rfl rfl ?_
    refine w_il hK rfl rfl ?_
    refine w_al hK rfl rfl ?_
    refine w_getr (n := 26) (v := 180) hK rfl rfl (by decide) (by decide) rfl rfl rfl rfl ?_
    refine w_call [(1, 161), (0, (i : Int)), (1, 180)] hK rfl rfl rfl rfl (Or.inr ⟨_, _, _, rfl, by decide, (by decide), rfl⟩) (r_load (RS.cg C (fun j_ h1_ h2_ => up_ne2 (by omega)) (fun a_ h1_ h2_ => up_row h1_)) (PM.keep hpl (up_row (by decide))) i hi (isR_of (p := 180) rfl)) ?_
    rintro _ V387 ⟨P387, rfl, C387, S387, F387, f387_0⟩
    refine ⟨by decide, (?_ : Wp 198 _ 249 13 [(1, 161), (0, (i : Int)), (0, 1), (3, 0)] [] V387 _)⟩
    refine w_al hK rfl rfl ?_
    refine w_getr (n := 26) (v := 180) hK rfl rfl (by decide) (by decide) rfl rfl rfl rfl ?_
    have dI_ : -1 ≤ dg (pl i) ∧ dg (pl i) ≤ 47 := C387.dI ⟨(isR_of (p := 180) rfl), f387_0⟩
    refine w_call [(1, 180)] hK rfl rfl rfl rfl (Or.inl rfl) (r_deg C387 ⟨(isR_of (p := 180) rfl), f387_0⟩) ?_
    rintro _ Mq ⟨rfl, e_⟩
    subst Mq
    refine ⟨by show (0 : Nat) ≠ 9; decide, (?_ : Wp 198 _ 249 16 [(1, 161), (0, (i : Int)), (0, 1), (3, 0)] [(0, (dg (pl i)))] V387 _)⟩
    refine w_is [(1, 161), (0, (i : Int)), (0, 1), (0, (dg (pl i)))] hK rfl rfl rfl ?_
    refine w_il hK rfl rfl ?_
    refine w_tab hK rfl rfl (by decide) (by decide) (fun h_ => absurd h_ (by decide)) (fun _ _ => ?_)
    show Wp 198 _ 249 29 [(1, 161), (0, (i : Int)), (0, 1), (0, (dg (pl i)))] [] V387 _
    refine w_al hK rfl rfl ?_
    refine w_getr (n := 26) (v := 180) hK rfl rfl (by decide) (by decide) rfl rfl rfl rfl ?_
    refine w_call [(1, 180)] hK rfl rfl rfl rfl (Or.inl rfl) (r_nums C387 ⟨(isR_of (p := 180) rfl), f387_0⟩) ?_
    rintro _ Mq ⟨rfl, e_⟩
    subst Mq
    refine ⟨by show (0 : Nat) ≠ 9; decide, (?_ : Wp 198 _ 249 32 [(1, 161), (0, (i : Int)), (0, 1), (0, (dg (pl i)))] [(0, (wgt (pl i) 48))] V387 _)⟩
    refine w_iret hK rfl rfl ?_
    rw [wgt_more (f := pl i) (show 17 ≤ 48 by decide) (fun q_ hq_ => bi_ q_ (by omega))]
    exact ⟨rfl, ⟨_, C387, (PM.keep hpl ((S387 167 (notR rfl)).trans (up_row (by decide)))), (TMs.keep T ((congrFun (S387 161 (notR rfl)) 11).trans (up_ne2 (by decide))) ((S387 168 (notR rfl)).trans (up_row (by decide)))), (RM.keep hR ((congrFun (S387 161 (notR rfl)) 13).trans (up_ne2 (by decide))) ((S387 169 (notR rfl)).trans (up_row (by decide)))), (FM.keep hF ((congrFun (S387 161 (notR rfl)) 15).trans (up_ne2 (by decide))) ((S387 189 (notR rfl)).trans (up_row (by decide))) ((S387 190 (notR rfl)).trans (up_row (by decide))))⟩, (fun a h_ => ((S387 a (npR h_)).trans (up_row (by omega))))⟩
  · exfalso; omega
theorem low_same {k : Nat} {f : Pl k} (hf : Bd f 9) : lowF f 48 = lowF f 17 ∧ (lowF f 17 = -1 ↔ f = pz) := by
  by_cases h : ∃ j : Nat, f j ≠ z0
  · obtain ⟨j, hj, hm⟩ := nat_first h
    have hl : j < 9 := by
      rcases Nat.lt_or_ge j 9 with q | q
      · exact q
      · exact absurd (hf j q) hj
    have h2 : ∀ i : Nat, i < j → f i = z0 := fun i hi => Classical.not_not.mp (hm i hi)
    rw [lowF_at h2 hj (n := 48) (by omega), lowF_at h2 hj (n := 17) (by omega)]
    exact ⟨rfl, fun q => by omega, fun q => absurd (congrFun q j) hj⟩
  · have h2 : ∀ i : Nat, f i = z0 := fun i => Classical.not_not.mp (fun q => h ⟨i, q⟩)
    rw [lowF_none (fun i _ => h2 i), lowF_none (fun i _ => h2 i)]
    exact ⟨rfl, fun _ => funext h2, fun _ => rfl⟩
set_option maxRecDepth 100000 in
theorem ro_form2 {d : Nat} {M : Mem} {k : Nat} {pl : Nat → Pl k} {n : Int} {tx : Int → Int} {rc : Nat} {rw : Int → Int} {fc : Nat} {fa : Nat → Pl k} (H : RFS M k pl n tx rc rw fc fa) (i : Nat) (hi : i < 6) (hi0 : 0 ≤ dg (pl i)) : Ct 198 (d + 8) 249 [(1, 161), (0, (i : Int)), (0, 2)] M (fun r_ M' => r_ = (0, (lowF (pl i) 17)) ∧ RFS M' k pl n tx rc rw fc fa ∧ (∀ a : Int, (a < 161 ∨ 197 < a) → M' a = M a)) := by
  have hK : cd 249 = k249 := rfl
  obtain ⟨R, C, hpl, T, hR, hF⟩ := H
  have q1_ := qq_I k
  have p1_ := pp_I k
  have m1_ := mm_I k
  have bi_ := (hpl i hi).2
  have di_ := dg_lt9 bi_
  show Wp 198 _ 249 0 [(1, 161), (0, (i : Int)), (0, 2), (3, 0)] [] M _
  refine w_al hK rfl rfl ?_
  refine w_ic hK rfl ?_
  refine w_puti (n := 14) (m := 14) hK rfl rfl (by decide) (by decide) rfl rfl rfl rfl ?_
  refine w_il hK rfl rfl ?_
  refine w_call [(0, (i : Int))] hK rfl rfl rfl rfl (Or.inl rfl) (r_place (i : Int) (by omega) (by omega)) ?_
  rintro _ Mq ⟨rfl, e_⟩
  subst Mq
  have pI_388 := ite01 (0 ≤ (i : Int) ∧ (i : Int) < 6)
  refine ⟨by show (0 : Nat) ≠ 9; decide, (?_ : Wp 198 _ 249 5 [(1, 161), (0, (i : Int)), (0, 2), (3, 0)] [(0, (if 0 ≤ (i : Int) ∧ (i : Int) < 6 then 1 else 0))] (up M 161 14 0) _)⟩
  refine w_ne hK rfl (by omega) (by omega) (fun h5 => ?_) (fun h5 => ?_)
  · refine w_al hK rfl rfl ?_
    refine w_il hK rfl rfl ?_
    refine w_al hK rfl rfl ?_
    refine w_getr (n := 26) (v := 180) hK rfl rfl (by decide) (by decide) rfl rfl rfl rfl ?_
    refine w_call [(1, 161), (0, (i : Int)), (1, 180)] hK rfl rfl rfl rfl (Or.inr ⟨_, _, _, rfl, by decide, (by decide), rfl⟩) (r_load (RS.cg C (fun j_ h1_ h2_ => up_ne2 (by omega)) (fun a_ h1_ h2_ => up_row h1_)) (PM.keep hpl (up_row (by decide))) i hi (isR_of (p := 180) rfl)) ?_
    rintro _ V389 ⟨P389, rfl, C389, S389, F389, f389_0⟩
    refine ⟨by decide, (?_ : Wp 198 _ 249 13 [(1, 161), (0, (i : Int)), (0, 2), (3, 0)] [] V389 _)⟩
    refine w_al hK rfl rfl ?_
    refine w_getr (n := 26) (v := 180) hK rfl rfl (by decide) (by decide) rfl rfl rfl rfl ?_
    have dI_ : -1 ≤ dg (pl i) ∧ dg (pl i) ≤ 47 := C389.dI ⟨(isR_of (p := 180) rfl), f389_0⟩
    refine w_call [(1, 180)] hK rfl rfl rfl rfl (Or.inl rfl) (r_deg C389 ⟨(isR_of (p := 180) rfl), f389_0⟩) ?_
    rintro _ Mq ⟨rfl, e_⟩
    subst Mq
    refine ⟨by show (0 : Nat) ≠ 9; decide, (?_ : Wp 198 _ 249 16 [(1, 161), (0, (i : Int)), (0, 2), (3, 0)] [(0, (dg (pl i)))] V389 _)⟩
    refine w_is [(1, 161), (0, (i : Int)), (0, 2), (0, (dg (pl i)))] hK rfl rfl rfl ?_
    refine w_il hK rfl rfl ?_
    refine w_tab hK rfl rfl (by decide) (by decide) (fun h_ => absurd h_ (by decide)) (fun _ _ => ?_)
    show Wp 198 _ 249 33 [(1, 161), (0, (i : Int)), (0, 2), (0, (dg (pl i)))] [] V389 _
    refine w_al hK rfl rfl ?_
    refine w_getr (n := 26) (v := 180) hK rfl rfl (by decide) (by decide) rfl rfl rfl rfl ?_
    refine w_call [(1, 180)] hK rfl rfl rfl rfl (Or.inl rfl) (r_low C389 ⟨(isR_of (p := 180) rfl), f389_0⟩) ?_
    rintro _ Mq ⟨rfl, e_⟩
    subst Mq
    refine ⟨by show (0 : Nat) ≠ 9; decide, (?_ : Wp 198 _ 249 36 [(1, 161), (0, (i : Int)), (0, 2), (0, (dg (pl i)))] [(0, (if lowF (pl i) 48 = -1 then -2 else lowF (pl i) 48))] V389 _)⟩
    refine w_iret hK rfl rfl ?_
    have lw_ := low_same bi_
    have hp_ : ¬ lowF (pl i) 48 = -1 := by rw [lw_.1]; exact fun q_ => by rw [lw_.2.mp q_, dg_pz] at hi0; omega
    rw [if_neg hp_, lw_.1]
    exact ⟨rfl, ⟨_, C389, (PM.keep hpl ((S389 167 (notR rfl)).trans (up_row (by decide)))), (TMs.keep T ((congrFun (S389 161 (notR rfl)) 11).trans (up_ne2 (by decide))) ((S389 168 (notR rfl)).trans (up_row (by decide)))), (RM.keep hR ((congrFun (S389 161 (notR rfl)) 13).trans (up_ne2 (by decide))) ((S389 169 (notR rfl)).trans (up_row (by decide)))), (FM.keep hF ((congrFun (S389 161 (notR rfl)) 15).trans (up_ne2 (by decide))) ((S389 189 (notR rfl)).trans (up_row (by decide))) ((S389 190 (notR rfl)).trans (up_row (by decide))))⟩, (fun a h_ => ((S389 a (npR h_)).trans (up_row (by omega))))⟩
  · exfalso; omega
set_option maxRecDepth 100000 in
theorem rz_form2 {d : Nat} {M : Mem} {k : Nat} {pl : Nat → Pl k} {n : Int} {tx : Int → Int} {rc : Nat} {rw : Int → Int} {fc : Nat} {fa : Nat → Pl k} (H : RFS M k pl n tx rc rw fc fa) (i : Nat) (hi : i < 6) (hi0 : dg (pl i) < 0) : Ct 198 (d + 8) 249 [(1, 161), (0, (i : Int)), (0, 2)] M (fun r_ M' => r_ = (0, -2) ∧ RFS M' k pl n tx rc rw fc fa ∧ (∀ a : Int, (a < 161 ∨ 197 < a) → M' a = M a)) := by
  have hK : cd 249 = k249 := rfl
  obtain ⟨R, C, hpl, T, hR, hF⟩ := H
  have q1_ := qq_I k
  have p1_ := pp_I k
  have m1_ := mm_I k
  have bi_ := (hpl i hi).2
  have di_ := dg_lt9 bi_
  show Wp 198 _ 249 0 [(1, 161), (0, (i : Int)), (0, 2), (3, 0)] [] M _
  refine w_al hK rfl rfl ?_
  refine w_ic hK rfl ?_
  refine w_puti (n := 14) (m := 14) hK rfl rfl (by decide) (by decide) rfl rfl rfl rfl ?_
  refine w_il hK rfl rfl ?_
  refine w_call [(0, (i : Int))] hK rfl rfl rfl rfl (Or.inl rfl) (r_place (i : Int) (by omega) (by omega)) ?_
  rintro _ Mq ⟨rfl, e_⟩
  subst Mq
  have pI_390 := ite01 (0 ≤ (i : Int) ∧ (i : Int) < 6)
  refine ⟨by show (0 : Nat) ≠ 9; decide, (?_ : Wp 198 _ 249 5 [(1, 161), (0, (i : Int)), (0, 2), (3, 0)] [(0, (if 0 ≤ (i : Int) ∧ (i : Int) < 6 then 1 else 0))] (up M 161 14 0) _)⟩
  refine w_ne hK rfl (by omega) (by omega) (fun h5 => ?_) (fun h5 => ?_)
  · refine w_al hK rfl rfl ?_
    refine w_il hK rfl rfl ?_
    refine w_al hK rfl rfl ?_
    refine w_getr (n := 26) (v := 180) hK rfl rfl (by decide) (by decide) rfl rfl rfl rfl ?_
    refine w_call [(1, 161), (0, (i : Int)), (1, 180)] hK rfl rfl rfl rfl (Or.inr ⟨_, _, _, rfl, by decide, (by decide), rfl⟩) (r_load (RS.cg C (fun j_ h1_ h2_ => up_ne2 (by omega)) (fun a_ h1_ h2_ => up_row h1_)) (PM.keep hpl (up_row (by decide))) i hi (isR_of (p := 180) rfl)) ?_
    rintro _ V391 ⟨P391, rfl, C391, S391, F391, f391_0⟩
    refine ⟨by decide, (?_ : Wp 198 _ 249 13 [(1, 161), (0, (i : Int)), (0, 2), (3, 0)] [] V391 _)⟩
    refine w_al hK rfl rfl ?_
    refine w_getr (n := 26) (v := 180) hK rfl rfl (by decide) (by decide) rfl rfl rfl rfl ?_
    have dI_ : -1 ≤ dg (pl i) ∧ dg (pl i) ≤ 47 := C391.dI ⟨(isR_of (p := 180) rfl), f391_0⟩
    refine w_call [(1, 180)] hK rfl rfl rfl rfl (Or.inl rfl) (r_deg C391 ⟨(isR_of (p := 180) rfl), f391_0⟩) ?_
    rintro _ Mq ⟨rfl, e_⟩
    subst Mq
    refine ⟨by show (0 : Nat) ≠ 9; decide, (?_ : Wp 198 _ 249 16 [(1, 161), (0, (i : Int)), (0, 2), (3, 0)] [(0, (dg (pl i)))] V391 _)⟩
    refine w_is [(1, 161), (0, (i : Int)), (0, 2), (0, (dg (pl i)))] hK rfl rfl rfl ?_
    refine w_il hK rfl rfl ?_
    refine w_tab hK rfl rfl (by decide) (by decide) (fun h_ => absurd h_ (by decide)) (fun _ _ => ?_)
    show Wp 198 _ 249 33 [(1, 161), (0, (i : Int)), (0, 2), (0, (dg (pl i)))] [] V391 _
    refine w_al hK rfl rfl ?_
    refine w_getr (n := 26) (v := 180) hK rfl rfl (by decide) (by decide) rfl rfl rfl rfl ?_
    refine w_call [(1, 180)] hK rfl rfl rfl rfl (Or.inl rfl) (r_low C391 ⟨(isR_of (p := 180) rfl), f391_0⟩) ?_
    rintro _ Mq ⟨rfl, e_⟩
    subst Mq
    refine ⟨by show (0 : Nat) ≠ 9; decide, (?_ : Wp 198 _ 249 36 [(1, 161), (0, (i : Int)), (0, 2), (0, (dg (pl i)))] [(0, (if lowF (pl i) 48 = -1 then -2 else lowF (pl i) 48))] V391 _)⟩
    refine w_iret hK rfl rfl ?_
    have lw_ := low_same bi_
    have hp_ : lowF (pl i) 48 = -1 := by rw [lw_.1]; exact lw_.2.mpr ((dg_neg (bi_.mono (by decide))).mp hi0)
    rw [if_pos hp_]
    exact ⟨rfl, ⟨_, C391, (PM.keep hpl ((S391 167 (notR rfl)).trans (up_row (by decide)))), (TMs.keep T ((congrFun (S391 161 (notR rfl)) 11).trans (up_ne2 (by decide))) ((S391 168 (notR rfl)).trans (up_row (by decide)))), (RM.keep hR ((congrFun (S391 161 (notR rfl)) 13).trans (up_ne2 (by decide))) ((S391 169 (notR rfl)).trans (up_row (by decide)))), (FM.keep hF ((congrFun (S391 161 (notR rfl)) 15).trans (up_ne2 (by decide))) ((S391 189 (notR rfl)).trans (up_row (by decide))) ((S391 190 (notR rfl)).trans (up_row (by decide))))⟩, (fun a h_ => ((S391 a (npR h_)).trans (up_row (by omega))))⟩
  · exfalso; omega
theorem is_one {k : Nat} {f : Pl k} (hf : Bd f 9) : f = one ↔ dg f = 0 ∧ (f 0).val = 1 := by
  constructor
  · intro h
    rw [h, dg_one]
    exact ⟨rfl, e1_val⟩
  · rintro ⟨h1, h2⟩
    funext j
    show f j = if j = 0 then e1 else z0
    by_cases q : j = 0
    · rw [if_pos q, q]; exact Fin.ext (h2.trans e1_val.symm)
    · rw [if_neg q]; exact dg_z (hf.mono (by decide)) (by omega)
set_option maxRecDepth 100000 in
theorem ro_form3 {d : Nat} {M : Mem} {k : Nat} {pl : Nat → Pl k} {n : Int} {tx : Int → Int} {rc : Nat} {rw : Int → Int} {fc : Nat} {fa : Nat → Pl k} (H : RFS M k pl n tx rc rw fc fa) (i : Nat) (hi : i < 6)  : Ct 198 (d + 8) 249 [(1, 161), (0, (i : Int)), (0, 3)] M (fun r_ M' => r_ = (0, (bz (pl i = one))) ∧ RFS M' k pl n tx rc rw fc fa ∧ (∀ a : Int, (a < 161 ∨ 197 < a) → M' a = M a)) := by
  have hK : cd 249 = k249 := rfl
  obtain ⟨R, C, hpl, T, hR, hF⟩ := H
  have q1_ := qq_I k
  have p1_ := pp_I k
  have m1_ := mm_I k
  have bi_ := (hpl i hi).2
  have di_ := dg_lt9 bi_
  show Wp 198 _ 249 0 [(1, 161), (0, (i : Int)), (0, 3), (3, 0)] [] M _
  refine w_al hK rfl rfl ?_
  refine w_ic hK rfl ?_
  refine w_puti (n := 14) (m := 14) hK rfl rfl (by decide) (by decide) rfl rfl rfl rfl ?_
  refine w_il hK rfl rfl ?_
  refine w_call [(0, (i : Int))] hK rfl rfl rfl rfl (Or.inl rfl) (r_place (i : Int) (by omega) (by omega)) ?_
  rintro _ Mq ⟨rfl, e_⟩
  subst Mq
  have pI_392 := ite01 (0 ≤ (i : Int) ∧ (i : Int) < 6)
  refine ⟨by show (0 : Nat) ≠ 9; decide, (?_ : Wp 198 _ 249 5 [(1, 161), (0, (i : Int)), (0, 3), (3, 0)] [(0, (if 0 ≤ (i : Int) ∧ (i : Int) < 6 then 1 else 0))] (up M 161 14 0) _)⟩
  refine w_ne hK rfl (by omega) (by omega) (fun h5 => ?_) (fun h5 => ?_)
  · refine w_al hK rfl rfl ?_
    refine w_il hK rfl rfl ?_
    refine w_al hK rfl rfl ?_
    refine w_getr (n := 26) (v := 180) hK rfl rfl (by decide) (by decide) rfl rfl rfl rfl ?_
    refine w_call [(1, 161), (0, (i : Int)), (1, 180)] hK rfl rfl rfl rfl (Or.inr ⟨_, _, _, rfl, by decide, (by decide), rfl⟩) (r_load (RS.cg C (fun j_ h1_ h2_ => up_ne2 (by omega)) (fun a_ h1_ h2_ => up_row h1_)) (PM.keep hpl (up_row (by decide))) i hi (isR_of (p := 180) rfl)) ?_
    rintro _ V393 ⟨P393, rfl, C393, S393, F393, f393_0⟩
    refine ⟨by decide, (?_ : Wp 198 _ 249 13 [(1, 161), (0, (i : Int)), (0, 3), (3, 0)] [] V393 _)⟩
    refine w_al hK rfl rfl ?_
    refine w_getr (n := 26) (v := 180) hK rfl rfl (by decide) (by decide) rfl rfl rfl rfl ?_
    have dI_ : -1 ≤ dg (pl i) ∧ dg (pl i) ≤ 47 := C393.dI ⟨(isR_of (p := 180) rfl), f393_0⟩
    refine w_call [(1, 180)] hK rfl rfl rfl rfl (Or.inl rfl) (r_deg C393 ⟨(isR_of (p := 180) rfl), f393_0⟩) ?_
    rintro _ Mq ⟨rfl, e_⟩
    subst Mq
    refine ⟨by show (0 : Nat) ≠ 9; decide, (?_ : Wp 198 _ 249 16 [(1, 161), (0, (i : Int)), (0, 3), (3, 0)] [(0, (dg (pl i)))] V393 _)⟩
    refine w_is [(1, 161), (0, (i : Int)), (0, 3), (0, (dg (pl i)))] hK rfl rfl rfl ?_
    refine w_il hK rfl rfl ?_
    refine w_tab hK rfl rfl (by decide) (by decide) (fun h_ => absurd h_ (by decide)) (fun _ _ => ?_)
    show Wp 198 _ 249 37 [(1, 161), (0, (i : Int)), (0, 3), (0, (dg (pl i)))] [] V393 _
    refine w_il hK rfl rfl ?_
    refine w_ne hK rfl (by omega) (by omega) (fun h38 => ?_) (fun h38 => ?_)
    · refine w_ic hK rfl ?_
      refine w_iret hK rfl rfl ?_
      rw [bz_neg (fun q_ => by have w_ := (is_one bi_).mp q_; omega)]
      exact ⟨rfl, ⟨_, C393, (PM.keep hpl ((S393 167 (notR rfl)).trans (up_row (by decide)))), (TMs.keep T ((congrFun (S393 161 (notR rfl)) 11).trans (up_ne2 (by decide))) ((S393 168 (notR rfl)).trans (up_row (by decide)))), (RM.keep hR ((congrFun (S393 161 (notR rfl)) 13).trans (up_ne2 (by decide))) ((S393 169 (notR rfl)).trans (up_row (by decide)))), (FM.keep hF ((congrFun (S393 161 (notR rfl)) 15).trans (up_ne2 (by decide))) ((S393 189 (notR rfl)).trans (up_row (by decide))) ((S393 190 (notR rfl)).trans (up_row (by decide))))⟩, (fun a h_ => ((S393 a (npR h_)).trans (up_row (by omega))))⟩
    · refine w_al hK rfl rfl ?_
      refine w_getr (n := 26) (v := 180) hK rfl rfl (by decide) (by decide) rfl rfl rfl rfl ?_
      refine w_ic hK rfl ?_
      refine w_ia hK rfl rfl (by decide) (by decide) (by omega) (by omega) ?_
      rw [show V393 180 0 = (((pl i) 0).val : Int) from C393.atz ⟨(isR_of (p := 180) rfl), f393_0⟩ (j := 0) (by omega) (by omega)]
      refine w_ic hK rfl ?_
      have bo_ := el_I (pl i 0)
      refine w_ne2 hK rfl (by omega) (by omega) (by omega) (by omega) (fun h44 => ?_) (fun h44 => ?_)
      · refine w_ic hK rfl ?_
        refine w_iret hK rfl rfl ?_
        rw [bz_neg (fun q_ => by have w_ := (is_one bi_).mp q_; omega)]
        exact ⟨rfl, ⟨_, C393, (PM.keep hpl ((S393 167 (notR rfl)).trans (up_row (by decide)))), (TMs.keep T ((congrFun (S393 161 (notR rfl)) 11).trans (up_ne2 (by decide))) ((S393 168 (notR rfl)).trans (up_row (by decide)))), (RM.keep hR ((congrFun (S393 161 (notR rfl)) 13).trans (up_ne2 (by decide))) ((S393 169 (notR rfl)).trans (up_row (by decide)))), (FM.keep hF ((congrFun (S393 161 (notR rfl)) 15).trans (up_ne2 (by decide))) ((S393 189 (notR rfl)).trans (up_row (by decide))) ((S393 190 (notR rfl)).trans (up_row (by decide))))⟩, (fun a h_ => ((S393 a (npR h_)).trans (up_row (by omega))))⟩
      · refine w_ic hK rfl ?_
        refine w_goto hK rfl ?_
        refine w_iret hK rfl rfl ?_
        rw [bz_pos ((is_one bi_).mpr ⟨by omega, by omega⟩)]
        exact ⟨rfl, ⟨_, C393, (PM.keep hpl ((S393 167 (notR rfl)).trans (up_row (by decide)))), (TMs.keep T ((congrFun (S393 161 (notR rfl)) 11).trans (up_ne2 (by decide))) ((S393 168 (notR rfl)).trans (up_row (by decide)))), (RM.keep hR ((congrFun (S393 161 (notR rfl)) 13).trans (up_ne2 (by decide))) ((S393 169 (notR rfl)).trans (up_row (by decide)))), (FM.keep hF ((congrFun (S393 161 (notR rfl)) 15).trans (up_ne2 (by decide))) ((S393 189 (notR rfl)).trans (up_row (by decide))) ((S393 190 (notR rfl)).trans (up_row (by decide))))⟩, (fun a h_ => ((S393 a (npR h_)).trans (up_row (by omega))))⟩
  · exfalso; omega
set_option maxRecDepth 100000 in
theorem rn_form {d : Nat} {M : Mem} {k : Nat} {pl : Nat → Pl k} {n : Int} {tx : Int → Int} {rc : Nat} {rw : Int → Int} {fc : Nat} {fa : Nat → Pl k} (H : RFS M k pl n tx rc rw fc fa) (i x : Int) (i1_ : -2147483648 ≤ i) (i2_ : i ≤ 2147483647) (x1_ : -2147483648 ≤ x) (x2_ : x ≤ 2147483647) (hn : ¬ (0 ≤ i ∧ i < 6)) : Ct 198 (d + 8) 249 [(1, 161), (0, i), (0, x)] M (fun r_ M' => r_ = (0, -1) ∧ RFS M' k pl n tx rc rw fc fa ∧ (∀ a : Int, (a < 161 ∨ 197 < a) → M' a = M a)) := by
  have hK : cd 249 = k249 := rfl
  obtain ⟨R, C, hpl, T, hR, hF⟩ := H
  have q1_ := qq_I k
  have p1_ := pp_I k
  have m1_ := mm_I k
  show Wp 198 _ 249 0 [(1, 161), (0, i), (0, x), (3, 0)] [] M _
  refine w_al hK rfl rfl ?_
  refine w_ic hK rfl ?_
  refine w_puti (n := 14) (m := 14) hK rfl rfl (by decide) (by decide) rfl rfl rfl rfl ?_
  refine w_il hK rfl rfl ?_
  refine w_call [(0, i)] hK rfl rfl rfl rfl (Or.inl rfl) (r_place i (by omega) (by omega)) ?_
  rintro _ Mq ⟨rfl, e_⟩
  subst Mq
  have pI_394 := ite01 (0 ≤ i ∧ i < 6)
  refine ⟨by show (0 : Nat) ≠ 9; decide, (?_ : Wp 198 _ 249 5 [(1, 161), (0, i), (0, x), (3, 0)] [(0, (if 0 ≤ i ∧ i < 6 then 1 else 0))] (up M 161 14 0) _)⟩
  refine w_ne hK rfl (by omega) (by omega) (fun h5 => ?_) (fun h5 => ?_)
  · exfalso; omega
  · refine w_ic hK rfl ?_
    refine w_iret hK rfl rfl ?_
    exact ⟨rfl, ⟨_, (RS.cg C (fun j_ h1_ h2_ => up_ne2 (by omega)) (fun a_ h1_ h2_ => up_row h1_)), (PM.keep hpl (up_row (by decide))), (TMs.keep T (up_ne2 (by decide)) (up_row (by decide))), (RM.keep hR (up_ne2 (by decide)) (up_row (by decide))), (FM.keep hF (up_ne2 (by decide)) (up_row (by decide)) (up_row (by decide)))⟩, (fun a h_ => (up_row (by omega)))⟩
set_option maxRecDepth 100000 in
theorem rm_form {d : Nat} {M : Mem} {k : Nat} {pl : Nat → Pl k} {n : Int} {tx : Int → Int} {rc : Nat} {rw : Int → Int} {fc : Nat} {fa : Nat → Pl k} (H : RFS M k pl n tx rc rw fc fa) (i : Nat) (hi : i < 6) (x : Int) (x1_ : -2147483648 ≤ x) (x2_ : x ≤ 2147483647) (hn : x < 0 ∨ 3 < x) : Ct 198 (d + 8) 249 [(1, 161), (0, (i : Int)), (0, x)] M (fun r_ M' => r_ = (0, -1) ∧ RFS M' k pl n tx rc rw fc fa ∧ (∀ a : Int, (a < 161 ∨ 197 < a) → M' a = M a)) := by
  have hK : cd 249 = k249 := rfl
  obtain ⟨R, C, hpl, T, hR, hF⟩ := H
  have q1_ := qq_I k
  have p1_ := pp_I k
  have m1_ := mm_I k
  have bi_ := (hpl i hi).2
  have di_ := dg_lt9 bi_
  show Wp 198 _ 249 0 [(1, 161), (0, (i : Int)), (0, x), (3, 0)] [] M _
  refine w_al hK rfl rfl ?_
  refine w_ic hK rfl ?_
  refine w_puti (n := 14) (m := 14) hK rfl rfl (by decide) (by decide) rfl rfl rfl rfl ?_
  refine w_il hK rfl rfl ?_
  refine w_call [(0, (i : Int))] hK rfl rfl rfl rfl (Or.inl rfl) (r_place (i : Int) (by omega) (by omega)) ?_
  rintro _ Mq ⟨rfl, e_⟩
  subst Mq
  have pI_395 := ite01 (0 ≤ (i : Int) ∧ (i : Int) < 6)
  refine ⟨by show (0 : Nat) ≠ 9; decide, (?_ : Wp 198 _ 249 5 [(1, 161), (0, (i : Int)), (0, x), (3, 0)] [(0, (if 0 ≤ (i : Int) ∧ (i : Int) < 6 then 1 else 0))] (up M 161 14 0) _)⟩
  refine w_ne hK rfl (by omega) (by omega) (fun h5 => ?_) (fun h5 => ?_)
  · refine w_al hK rfl rfl ?_
    refine w_il hK rfl rfl ?_
    refine w_al hK rfl rfl ?_
    refine w_getr (n := 26) (v := 180) hK rfl rfl (by decide) (by decide) rfl rfl rfl rfl ?_
    refine w_call [(1, 161), (0, (i : Int)), (1, 180)] hK rfl rfl rfl rfl (Or.inr ⟨_, _, _, rfl, by decide, (by decide), rfl⟩) (r_load (RS.cg C (fun j_ h1_ h2_ => up_ne2 (by omega)) (fun a_ h1_ h2_ => up_row h1_)) (PM.keep hpl (up_row (by decide))) i hi (isR_of (p := 180) rfl)) ?_
    rintro _ V396 ⟨P396, rfl, C396, S396, F396, f396_0⟩
    refine ⟨by decide, (?_ : Wp 198 _ 249 13 [(1, 161), (0, (i : Int)), (0, x), (3, 0)] [] V396 _)⟩
    refine w_al hK rfl rfl ?_
    refine w_getr (n := 26) (v := 180) hK rfl rfl (by decide) (by decide) rfl rfl rfl rfl ?_
    have dI_ : -1 ≤ dg (pl i) ∧ dg (pl i) ≤ 47 := C396.dI ⟨(isR_of (p := 180) rfl), f396_0⟩
    refine w_call [(1, 180)] hK rfl rfl rfl rfl (Or.inl rfl) (r_deg C396 ⟨(isR_of (p := 180) rfl), f396_0⟩) ?_
    rintro _ Mq ⟨rfl, e_⟩
    subst Mq
    refine ⟨by show (0 : Nat) ≠ 9; decide, (?_ : Wp 198 _ 249 16 [(1, 161), (0, (i : Int)), (0, x), (3, 0)] [(0, (dg (pl i)))] V396 _)⟩
    refine w_is [(1, 161), (0, (i : Int)), (0, x), (0, (dg (pl i)))] hK rfl rfl rfl ?_
    refine w_il hK rfl rfl ?_
    refine w_tab hK rfl rfl (by omega) (by omega) (fun _ => ?_) (fun h_ h2_ => absurd h_ (by omega))
    show Wp 198 _ 249 49 [(1, 161), (0, (i : Int)), (0, x), (0, (dg (pl i)))] [] V396 _
    refine w_ic hK rfl ?_
    refine w_iret hK rfl rfl ?_
    exact ⟨rfl, ⟨_, C396, (PM.keep hpl ((S396 167 (notR rfl)).trans (up_row (by decide)))), (TMs.keep T ((congrFun (S396 161 (notR rfl)) 11).trans (up_ne2 (by decide))) ((S396 168 (notR rfl)).trans (up_row (by decide)))), (RM.keep hR ((congrFun (S396 161 (notR rfl)) 13).trans (up_ne2 (by decide))) ((S396 169 (notR rfl)).trans (up_row (by decide)))), (FM.keep hF ((congrFun (S396 161 (notR rfl)) 15).trans (up_ne2 (by decide))) ((S396 189 (notR rfl)).trans (up_row (by decide))) ((S396 190 (notR rfl)).trans (up_row (by decide))))⟩, (fun a h_ => ((S396 a (npR h_)).trans (up_row (by omega))))⟩
  · exfalso; omega
set_option maxRecDepth 100000 in
theorem ro_same {d : Nat} {M : Mem} {k : Nat} {pl : Nat → Pl k} {n : Int} {tx : Int → Int} {rc : Nat} {rw : Int → Int} {fc : Nat} {fa : Nat → Pl k} (H : RFS M k pl n tx rc rw fc fa) (i : Nat) (hi : i < 6) (j : Nat) (hj : j < 6)  : Ct 198 (d + 8) 256 [(1, 161), (0, (i : Int)), (0, (j : Int))] M (fun r_ M' => r_ = (0, (bz (pl i = pl j))) ∧ RFS M' k pl n tx 1 (upr rw 0 (bz (mlp (pl i) (pl j) = mlp (pl j) (pl i)))) fc fa ∧ (∀ a : Int, (a < 161 ∨ 197 < a) → M' a = M a)) := by
  have hK : cd 256 = k256 := rfl
  obtain ⟨R, C, hpl, T, hR, hF⟩ := H
  have q1_ := qq_I k
  have p1_ := pp_I k
  have m1_ := mm_I k
  have bi_ := (hpl i hi).2
  have di_ := dg_lt9 bi_
  have bj_ := (hpl j hj).2
  have dj_ := dg_lt9 bj_
  have pr_ := dg_pr16 bi_ bj_
  have pr2_ := dg_pr16 bj_ bi_
  have z1_ := bz_01 (mlp (pl i) (pl j) = mlp (pl j) (pl i))
  have z2_ := bz_01 (pl i = pl j)
  show Wp 198 _ 256 0 [(1, 161), (0, (i : Int)), (0, (j : Int))] [] M _
  refine w_al hK rfl rfl ?_
  refine w_ic hK rfl ?_
  refine w_puti (n := 14) (m := 14) hK rfl rfl (by decide) (by decide) rfl rfl rfl rfl ?_
  refine w_al hK rfl rfl ?_
  refine w_il hK rfl rfl ?_
  refine w_il hK rfl rfl ?_
  refine w_ic hK rfl ?_
  refine w_call [(1, 161), (0, (i : Int)), (0, (j : Int)), (0, 0)] hK rfl rfl rfl rfl (Or.inr ⟨_, _, _, rfl, by decide, (by decide), rfl⟩) (r_loads (RS.cg C (fun j_ h1_ h2_ => up_ne2 (by omega)) (fun a_ h1_ h2_ => up_row h1_)) (PM.keep hpl (up_row (by decide))) i j 0 hi hj (by decide)) ?_
  rintro _ V397 ⟨P397, rfl, C397, S397, F397, f397_0, f397_1⟩
  refine ⟨by show (0 : Nat) ≠ 9; decide, (?_ : Wp 198 _ 256 8 [(1, 161), (0, (i : Int)), (0, (j : Int))] [(0, 1)] V397 _)⟩
  refine w_ne hK rfl (by omega) (by omega) (fun h8 => ?_) (fun h8 => ?_)
  · refine w_al hK rfl rfl ?_
    refine w_al hK rfl rfl ?_
    refine w_getr (n := 26) (v := 180) hK rfl rfl (by decide) (by decide) rfl rfl rfl rfl ?_
    refine w_al hK rfl rfl ?_
    refine w_getr (n := 27) (v := 181) hK rfl rfl (by decide) (by decide) rfl rfl rfl rfl ?_
    refine w_al hK rfl rfl ?_
    refine w_getr (n := 28) (v := 182) hK rfl rfl (by decide) (by decide) rfl rfl rfl rfl ?_
    refine w_call [(1, 161), (1, 180), (1, 181), (1, 182)] hK rfl rfl rfl rfl (Or.inr ⟨_, _, _, rfl, by decide, (by decide), rfl⟩) (r_prod C397 ⟨(isR_of (p := 180) rfl), f397_0⟩ ⟨(isR_of (p := 181) rfl), f397_1⟩ (isR_of (p := 182) rfl) (by omega) (by omega) (by omega) (by omega)) ?_
    rintro _ V398 ⟨P398, rfl, C398, S398, F398, f398_0⟩
    refine ⟨by decide, (?_ : Wp 198 _ 256 19 [(1, 161), (0, (i : Int)), (0, (j : Int))] [] V398 _)⟩
    refine w_al hK rfl rfl ?_
    refine w_al hK rfl rfl ?_
    refine w_getr (n := 27) (v := 181) hK rfl rfl (by decide) (by decide) rfl rfl rfl rfl ?_
    refine w_al hK rfl rfl ?_
    refine w_getr (n := 26) (v := 180) hK rfl rfl (by decide) (by decide) rfl rfl rfl rfl ?_
    refine w_al hK rfl rfl ?_
    refine w_getr (n := 25) (v := 179) hK rfl rfl (by decide) (by decide) rfl rfl rfl rfl ?_
    refine w_call [(1, 161), (1, 181), (1, 180), (1, 179)] hK rfl rfl rfl rfl (Or.inr ⟨_, _, _, rfl, by decide, (by decide), rfl⟩) (r_prod C398 ⟨(isR_of (p := 181) rfl), ((F398 181 (by omega) (by omega)).trans f397_1)⟩ ⟨(isR_of (p := 180) rfl), ((F398 180 (by omega) (by omega)).trans f397_0)⟩ (isR_of (p := 179) rfl) (by omega) (by omega) (by omega) (by omega)) ?_
    rintro _ V399 ⟨P399, rfl, C399, S399, F399, f399_0⟩
    refine ⟨by decide, (?_ : Wp 198 _ 256 27 [(1, 161), (0, (i : Int)), (0, (j : Int))] [] V399 _)⟩
    refine w_al hK rfl rfl ?_
    refine w_ic hK rfl ?_
    refine w_puti (n := 13) (m := 13) hK rfl rfl (by decide) (by decide) rfl rfl rfl rfl ?_
    refine w_al hK rfl rfl ?_
    refine w_al hK rfl rfl ?_
    refine w_getr (n := 28) (v := 182) hK rfl rfl (by decide) (by decide) rfl rfl rfl rfl ?_
    refine w_al hK rfl rfl ?_
    refine w_getr (n := 25) (v := 179) hK rfl rfl (by decide) (by decide) rfl rfl rfl rfl ?_
    refine w_call [(1, 182), (1, 179)] hK rfl rfl rfl rfl (Or.inl rfl) (r_same (RS.cg C399 (fun j_ h1_ h2_ => up_ne2 (by omega)) (fun a_ h1_ h2_ => up_row h1_)) ⟨(isR_of (p := 182) rfl), ((F399 182 (by omega) (by omega)).trans f398_0)⟩ ⟨(isR_of (p := 179) rfl), f399_0⟩) ?_
    rintro _ Mq ⟨rfl, e_⟩
    subst Mq
    have bv_ := bz_01 ((mlp (pl i) (pl j)) = (mlp (pl j) (pl i)))
    refine ⟨by show (0 : Nat) ≠ 9; decide, (?_ : Wp 198 _ 256 36 [(1, 161), (0, (i : Int)), (0, (j : Int))] [(0, (bz ((mlp (pl i) (pl j)) = (mlp (pl j) (pl i))))), (1, 161)] (up V399 161 13 0) _)⟩
    refine w_eq hK rfl (by omega) (by omega) (fun h36 => ?_) (fun h36 => ?_)
    · refine w_lc hK rfl ?_
      refine w_call [(1, 161), (2, 0)] hK rfl rfl rfl rfl (Or.inr ⟨_, _, _, rfl, by decide, (by decide), rfl⟩) (r_tell (RM.zero (M := (up V399 161 13 0)) (rw := rw) up_eq) (by omega) 0) ?_
      rintro _ V400 ⟨rfl, R400, F400, G400⟩
      refine ⟨by decide, (?_ : Wp 198 _ 256 41 [(1, 161), (0, (i : Int)), (0, (j : Int))] [] V400 _)⟩
      refine w_al hK rfl rfl ?_
      refine w_getr (n := 26) (v := 180) hK rfl rfl (by decide) (by decide) rfl rfl rfl rfl ?_
      refine w_al hK rfl rfl ?_
      refine w_getr (n := 27) (v := 181) hK rfl rfl (by decide) (by decide) rfl rfl rfl rfl ?_
      refine w_call [(1, 180), (1, 181)] hK rfl rfl rfl rfl (Or.inl rfl) (r_same (RS.cg (RS.cg C399 (fun j_ h1_ h2_ => up_ne2 (by omega)) (fun a_ h1_ h2_ => up_row h1_)) (fun j_ h1_ h2_ => G400 j_ (by omega)) (fun a_ h1_ h2_ => F400 a_ h1_ (RSc_ne h2_ (by decide) (notR rfl)))) ⟨(isR_of (p := 180) rfl), ((F399 180 (by omega) (by omega)).trans ((F398 180 (by omega) (by omega)).trans f397_0))⟩ ⟨(isR_of (p := 181) rfl), ((F399 181 (by omega) (by omega)).trans ((F398 181 (by omega) (by omega)).trans f397_1))⟩) ?_
      rintro _ Mq ⟨rfl, e_⟩
      subst Mq
      have bv_ := bz_01 ((pl i) = (pl j))
      refine ⟨by show (0 : Nat) ≠ 9; decide, (?_ : Wp 198 _ 256 46 [(1, 161), (0, (i : Int)), (0, (j : Int))] [(0, (bz ((pl i) = (pl j))))] V400 _)⟩
      refine w_eq hK rfl (by omega) (by omega) (fun h46 => ?_) (fun h46 => ?_)
      · refine w_ic hK rfl ?_
        refine w_iret hK rfl rfl ?_
        rw [show bz (pl i = pl j) = 0 by omega, show bz (mlp (pl i) (pl j) = mlp (pl j) (pl i)) = 0 by omega]
        exact ⟨rfl, ⟨_, (RS.cg (RS.cg C399 (fun j_ h1_ h2_ => up_ne2 (by omega)) (fun a_ h1_ h2_ => up_row h1_)) (fun j_ h1_ h2_ => G400 j_ (by omega)) (fun a_ h1_ h2_ => F400 a_ h1_ (RSc_ne h2_ (by decide) (notR rfl)))), (PM.keep hpl ((F400 167 (by decide) (by decide)).trans ((up_row (by decide)).trans ((S399 167 (notR rfl)).trans ((S398 167 (notR rfl)).trans ((S397 167 (notR rfl)).trans (up_row (by decide)))))))), (TMs.keep T ((G400 11 (by decide)).trans ((up_ne2 (by decide)).trans ((congrFun (S399 161 (notR rfl)) 11).trans ((congrFun (S398 161 (notR rfl)) 11).trans ((congrFun (S397 161 (notR rfl)) 11).trans (up_ne2 (by decide))))))) ((F400 168 (by decide) (by decide)).trans ((up_row (by decide)).trans ((S399 168 (notR rfl)).trans ((S398 168 (notR rfl)).trans ((S397 168 (notR rfl)).trans (up_row (by decide)))))))), R400, (FM.keep hF ((G400 15 (by decide)).trans ((up_ne2 (by decide)).trans ((congrFun (S399 161 (notR rfl)) 15).trans ((congrFun (S398 161 (notR rfl)) 15).trans ((congrFun (S397 161 (notR rfl)) 15).trans (up_ne2 (by decide))))))) ((F400 189 (by decide) (by decide)).trans ((up_row (by decide)).trans ((S399 189 (notR rfl)).trans ((S398 189 (notR rfl)).trans ((S397 189 (notR rfl)).trans (up_row (by decide))))))) ((F400 190 (by decide) (by decide)).trans ((up_row (by decide)).trans ((S399 190 (notR rfl)).trans ((S398 190 (notR rfl)).trans ((S397 190 (notR rfl)).trans (up_row (by decide))))))))⟩, (fun a h_ => ((F400 a (by omega) (by omega)).trans ((up_row (by omega)).trans ((S399 a (npR h_)).trans ((S398 a (npR h_)).trans ((S397 a (npR h_)).trans (up_row (by omega))))))))⟩
      · refine w_ic hK rfl ?_
        refine w_goto hK rfl ?_
        refine w_iret hK rfl rfl ?_
        rw [show bz (pl i = pl j) = 1 by omega, show bz (mlp (pl i) (pl j) = mlp (pl j) (pl i)) = 0 by omega]
        exact ⟨rfl, ⟨_, (RS.cg (RS.cg C399 (fun j_ h1_ h2_ => up_ne2 (by omega)) (fun a_ h1_ h2_ => up_row h1_)) (fun j_ h1_ h2_ => G400 j_ (by omega)) (fun a_ h1_ h2_ => F400 a_ h1_ (RSc_ne h2_ (by decide) (notR rfl)))), (PM.keep hpl ((F400 167 (by decide) (by decide)).trans ((up_row (by decide)).trans ((S399 167 (notR rfl)).trans ((S398 167 (notR rfl)).trans ((S397 167 (notR rfl)).trans (up_row (by decide)))))))), (TMs.keep T ((G400 11 (by decide)).trans ((up_ne2 (by decide)).trans ((congrFun (S399 161 (notR rfl)) 11).trans ((congrFun (S398 161 (notR rfl)) 11).trans ((congrFun (S397 161 (notR rfl)) 11).trans (up_ne2 (by decide))))))) ((F400 168 (by decide) (by decide)).trans ((up_row (by decide)).trans ((S399 168 (notR rfl)).trans ((S398 168 (notR rfl)).trans ((S397 168 (notR rfl)).trans (up_row (by decide)))))))), R400, (FM.keep hF ((G400 15 (by decide)).trans ((up_ne2 (by decide)).trans ((congrFun (S399 161 (notR rfl)) 15).trans ((congrFun (S398 161 (notR rfl)) 15).trans ((congrFun (S397 161 (notR rfl)) 15).trans (up_ne2 (by decide))))))) ((F400 189 (by decide) (by decide)).trans ((up_row (by decide)).trans ((S399 189 (notR rfl)).trans ((S398 189 (notR rfl)).trans ((S397 189 (notR rfl)).trans (up_row (by decide))))))) ((F400 190 (by decide) (by decide)).trans ((up_row (by decide)).trans ((S399 190 (notR rfl)).trans ((S398 190 (notR rfl)).trans ((S397 190 (notR rfl)).trans (up_row (by decide))))))))⟩, (fun a h_ => ((F400 a (by omega) (by omega)).trans ((up_row (by omega)).trans ((S399 a (npR h_)).trans ((S398 a (npR h_)).trans ((S397 a (npR h_)).trans (up_row (by omega))))))))⟩
    · refine w_lc hK rfl ?_
      refine w_goto hK rfl ?_
      refine w_call [(1, 161), (2, 1)] hK rfl rfl rfl rfl (Or.inr ⟨_, _, _, rfl, by decide, (by decide), rfl⟩) (r_tell (RM.zero (M := (up V399 161 13 0)) (rw := rw) up_eq) (by omega) 1) ?_
      rintro _ V401 ⟨rfl, R401, F401, G401⟩
      refine ⟨by decide, (?_ : Wp 198 _ 256 41 [(1, 161), (0, (i : Int)), (0, (j : Int))] [] V401 _)⟩
      refine w_al hK rfl rfl ?_
      refine w_getr (n := 26) (v := 180) hK rfl rfl (by decide) (by decide) rfl rfl rfl rfl ?_
      refine w_al hK rfl rfl ?_
      refine w_getr (n := 27) (v := 181) hK rfl rfl (by decide) (by decide) rfl rfl rfl rfl ?_
      refine w_call [(1, 180), (1, 181)] hK rfl rfl rfl rfl (Or.inl rfl) (r_same (RS.cg (RS.cg C399 (fun j_ h1_ h2_ => up_ne2 (by omega)) (fun a_ h1_ h2_ => up_row h1_)) (fun j_ h1_ h2_ => G401 j_ (by omega)) (fun a_ h1_ h2_ => F401 a_ h1_ (RSc_ne h2_ (by decide) (notR rfl)))) ⟨(isR_of (p := 180) rfl), ((F399 180 (by omega) (by omega)).trans ((F398 180 (by omega) (by omega)).trans f397_0))⟩ ⟨(isR_of (p := 181) rfl), ((F399 181 (by omega) (by omega)).trans ((F398 181 (by omega) (by omega)).trans f397_1))⟩) ?_
      rintro _ Mq ⟨rfl, e_⟩
      subst Mq
      have bv_ := bz_01 ((pl i) = (pl j))
      refine ⟨by show (0 : Nat) ≠ 9; decide, (?_ : Wp 198 _ 256 46 [(1, 161), (0, (i : Int)), (0, (j : Int))] [(0, (bz ((pl i) = (pl j))))] V401 _)⟩
      refine w_eq hK rfl (by omega) (by omega) (fun h46 => ?_) (fun h46 => ?_)
      · refine w_ic hK rfl ?_
        refine w_iret hK rfl rfl ?_
        rw [show bz (pl i = pl j) = 0 by omega, show bz (mlp (pl i) (pl j) = mlp (pl j) (pl i)) = 1 by omega]
        exact ⟨rfl, ⟨_, (RS.cg (RS.cg C399 (fun j_ h1_ h2_ => up_ne2 (by omega)) (fun a_ h1_ h2_ => up_row h1_)) (fun j_ h1_ h2_ => G401 j_ (by omega)) (fun a_ h1_ h2_ => F401 a_ h1_ (RSc_ne h2_ (by decide) (notR rfl)))), (PM.keep hpl ((F401 167 (by decide) (by decide)).trans ((up_row (by decide)).trans ((S399 167 (notR rfl)).trans ((S398 167 (notR rfl)).trans ((S397 167 (notR rfl)).trans (up_row (by decide)))))))), (TMs.keep T ((G401 11 (by decide)).trans ((up_ne2 (by decide)).trans ((congrFun (S399 161 (notR rfl)) 11).trans ((congrFun (S398 161 (notR rfl)) 11).trans ((congrFun (S397 161 (notR rfl)) 11).trans (up_ne2 (by decide))))))) ((F401 168 (by decide) (by decide)).trans ((up_row (by decide)).trans ((S399 168 (notR rfl)).trans ((S398 168 (notR rfl)).trans ((S397 168 (notR rfl)).trans (up_row (by decide)))))))), R401, (FM.keep hF ((G401 15 (by decide)).trans ((up_ne2 (by decide)).trans ((congrFun (S399 161 (notR rfl)) 15).trans ((congrFun (S398 161 (notR rfl)) 15).trans ((congrFun (S397 161 (notR rfl)) 15).trans (up_ne2 (by decide))))))) ((F401 189 (by decide) (by decide)).trans ((up_row (by decide)).trans ((S399 189 (notR rfl)).trans ((S398 189 (notR rfl)).trans ((S397 189 (notR rfl)).trans (up_row (by decide))))))) ((F401 190 (by decide) (by decide)).trans ((up_row (by decide)).trans ((S399 190 (notR rfl)).trans ((S398 190 (notR rfl)).trans ((S397 190 (notR rfl)).trans (up_row (by decide))))))))⟩, (fun a h_ => ((F401 a (by omega) (by omega)).trans ((up_row (by omega)).trans ((S399 a (npR h_)).trans ((S398 a (npR h_)).trans ((S397 a (npR h_)).trans (up_row (by omega))))))))⟩
      · refine w_ic hK rfl ?_
        refine w_goto hK rfl ?_
        refine w_iret hK rfl rfl ?_
        rw [show bz (pl i = pl j) = 1 by omega, show bz (mlp (pl i) (pl j) = mlp (pl j) (pl i)) = 1 by omega]
        exact ⟨rfl, ⟨_, (RS.cg (RS.cg C399 (fun j_ h1_ h2_ => up_ne2 (by omega)) (fun a_ h1_ h2_ => up_row h1_)) (fun j_ h1_ h2_ => G401 j_ (by omega)) (fun a_ h1_ h2_ => F401 a_ h1_ (RSc_ne h2_ (by decide) (notR rfl)))), (PM.keep hpl ((F401 167 (by decide) (by decide)).trans ((up_row (by decide)).trans ((S399 167 (notR rfl)).trans ((S398 167 (notR rfl)).trans ((S397 167 (notR rfl)).trans (up_row (by decide)))))))), (TMs.keep T ((G401 11 (by decide)).trans ((up_ne2 (by decide)).trans ((congrFun (S399 161 (notR rfl)) 11).trans ((congrFun (S398 161 (notR rfl)) 11).trans ((congrFun (S397 161 (notR rfl)) 11).trans (up_ne2 (by decide))))))) ((F401 168 (by decide) (by decide)).trans ((up_row (by decide)).trans ((S399 168 (notR rfl)).trans ((S398 168 (notR rfl)).trans ((S397 168 (notR rfl)).trans (up_row (by decide)))))))), R401, (FM.keep hF ((G401 15 (by decide)).trans ((up_ne2 (by decide)).trans ((congrFun (S399 161 (notR rfl)) 15).trans ((congrFun (S398 161 (notR rfl)) 15).trans ((congrFun (S397 161 (notR rfl)) 15).trans (up_ne2 (by decide))))))) ((F401 189 (by decide) (by decide)).trans ((up_row (by decide)).trans ((S399 189 (notR rfl)).trans ((S398 189 (notR rfl)).trans ((S397 189 (notR rfl)).trans (up_row (by decide))))))) ((F401 190 (by decide) (by decide)).trans ((up_row (by decide)).trans ((S399 190 (notR rfl)).trans ((S398 190 (notR rfl)).trans ((S397 190 (notR rfl)).trans (up_row (by decide))))))))⟩, (fun a h_ => ((F401 a (by omega) (by omega)).trans ((up_row (by omega)).trans ((S399 a (npR h_)).trans ((S398 a (npR h_)).trans ((S397 a (npR h_)).trans (up_row (by omega))))))))⟩
  · exfalso; omega
set_option maxRecDepth 100000 in
theorem rn_same {d : Nat} {M : Mem} {k : Nat} {pl : Nat → Pl k} {n : Int} {tx : Int → Int} {rc : Nat} {rw : Int → Int} {fc : Nat} {fa : Nat → Pl k} (H : RFS M k pl n tx rc rw fc fa) (i j : Int) (i1_ : -2147483648 ≤ i) (i2_ : i ≤ 2147483647) (j1_ : -2147483648 ≤ j) (j2_ : j ≤ 2147483647) (hn : ¬ ((0 ≤ i ∧ i < 6) ∧ (0 ≤ j ∧ j < 6))) : Ct 198 (d + 8) 256 [(1, 161), (0, i), (0, j)] M (fun r_ M' => r_ = (0, -1) ∧ RFS M' k pl n tx rc rw fc fa ∧ (∀ a : Int, (a < 161 ∨ 197 < a) → M' a = M a)) := by
  have hK : cd 256 = k256 := rfl
  obtain ⟨R, C, hpl, T, hR, hF⟩ := H
  have q1_ := qq_I k
  have p1_ := pp_I k
  have m1_ := mm_I k
  show Wp 198 _ 256 0 [(1, 161), (0, i), (0, j)] [] M _
  refine w_al hK rfl rfl ?_
  refine w_ic hK rfl ?_
  refine w_puti (n := 14) (m := 14) hK rfl rfl (by decide) (by decide) rfl rfl rfl rfl ?_
  refine w_al hK rfl rfl ?_
  refine w_il hK rfl rfl ?_
  refine w_il hK rfl rfl ?_
  refine w_ic hK rfl ?_
  refine w_call [(1, 161), (0, i), (0, j), (0, 0)] hK rfl rfl rfl rfl (Or.inr ⟨_, _, _, rfl, by decide, (by decide), rfl⟩) (r_loadsN i j 0 (by omega) (by omega) (by omega) (by omega) (by omega) (by omega) (by omega)) ?_
  rintro _ Mq ⟨rfl, e_⟩
  subst Mq
  refine ⟨by show (0 : Nat) ≠ 9; decide, (?_ : Wp 198 _ 256 8 [(1, 161), (0, i), (0, j)] [(0, 0)] (up M 161 14 0) _)⟩
  refine w_ne hK rfl (by omega) (by omega) (fun h8 => ?_) (fun h8 => ?_)
  · exfalso; omega
  · refine w_ic hK rfl ?_
    refine w_iret hK rfl rfl ?_
    exact ⟨rfl, ⟨_, (RS.cg C (fun j_ h1_ h2_ => up_ne2 (by omega)) (fun a_ h1_ h2_ => up_row h1_)), (PM.keep hpl (up_row (by decide))), (TMs.keep T (up_ne2 (by decide)) (up_row (by decide))), (RM.keep hR (up_ne2 (by decide)) (up_row (by decide))), (FM.keep hF (up_ne2 (by decide)) (up_row (by decide)) (up_row (by decide)))⟩, (fun a h_ => (up_row (by omega)))⟩
theorem pw_nx {k : Nat} {f : Pl k} (hf : Bd f 9) {x : Nat} (h : dg f * (x : Int) ≤ 8) : (-1 ≤ dg (mlp (pwp f x) f) ∧ dg (mlp (pwp f x) f) ≤ 16) ∧ (0 ≤ dg f → dg (mlp (pwp f x) f) = dg f * ((x + 1 : Nat) : Int)) := by
  obtain ⟨h1, h2, h3⟩ := pwp_dg hf h x (Nat.le_refl _)
  have p1 := dg_prd (s := 0) (h1.mono (show 17 ≤ 32 by decide)) (hf.mono (show 9 ≤ 32 by decide))
  have p2 : prd 0 (pwp f x) f = mlp (pwp f x) f := rfl
  rw [p2] at p1
  have h9 := dg_lt9 hf
  have e3 : dg f * ((x + 1 : Nat) : Int) = dg f * (x : Int) + dg f := by
    rw [Int.natCast_add, Int.mul_add]; show dg f * (x : Int) + dg f * 1 = _; rw [Int.mul_one]
  refine ⟨⟨dg_ge _, ?_⟩, fun q => ?_⟩
  · by_cases q : dg (pwp f x) < 0 ∨ dg f < 0
    · rw [p1.1 q, dg_pz]; decide
    · rw [p1.2.1 (by omega) (by omega)]; omega
  · have e1 := h3 q
    have e0 : 0 ≤ dg f * (x : Int) := Int.mul_nonneg q (by omega)
    rw [p1.2.1 (by omega) q, e1, e3]
theorem pw_le {k : Nat} {f : Pl k} (hf : Bd f 9) {x : Nat} (h : dg f * (x : Int) ≤ 8) (h2 : dg (mlp (pwp f x) f) ≤ 8) : dg f * ((x + 1 : Nat) : Int) ≤ 8 := by
  by_cases q : 0 ≤ dg f
  · rw [← (pw_nx hf h).2 q]; exact h2
  · have h3 : dg f * ((x + 1 : Nat) : Int) ≤ 0 := Int.mul_nonpos_of_nonpos_of_nonneg (by omega) (by omega)
    omega
theorem pw_mono {k : Nat} {f : Pl k} {x n : Nat} (hx : x ≤ n) (h : dg f * (n : Int) ≤ 8) : dg f * (x : Int) ≤ 8 := by
  by_cases q : 0 ≤ dg f
  · have := Int.mul_le_mul_of_nonneg_left (show (x : Int) ≤ (n : Int) by omega) q
    omega
  · have h3 : dg f * (x : Int) ≤ 0 := Int.mul_nonpos_of_nonpos_of_nonneg (by omega) (by omega)
    omega
set_option maxRecDepth 100000 in
theorem ro_power {d : Nat} {M : Mem} {k : Nat} {pl : Nat → Pl k} {n : Int} {tx : Int → Int} {rc : Nat} {rw : Int → Int} {fc : Nat} {fa : Nat → Pl k} (H : RFS M k pl n tx rc rw fc fa) (i : Nat) (hi : i < 6) (l : Nat) (hl : l < 6) (n0 : Nat) (n8 : n0 ≤ 8) (hm_ : dg (pl i) * (n0 : Int) ≤ 8) : Ct 198 (d + 8) 252 [(1, 161), (0, (i : Int)), (0, (n0 : Int)), (0, (l : Int))] M (fun r_ M' => r_ = (0, (dg (pwp (pl i) n0))) ∧ RFS M' k (fup pl l (pwp (pl i) n0)) n tx rc rw fc fa ∧ (∀ a : Int, (a < 161 ∨ 197 < a) → M' a = M a)) := by
  have hK : cd 252 = k252 := rfl
  obtain ⟨R, C, hpl, T, hR, hF⟩ := H
  have q1_ := qq_I k
  have p1_ := pp_I k
  have m1_ := mm_I k
  have bi_ := (hpl i hi).2
  have di_ := dg_lt9 bi_
  have bl_ := (hpl l hl).2
  have dl_ := dg_lt9 bl_
  show Wp 198 _ 252 0 [(1, 161), (0, (i : Int)), (0, (n0 : Int)), (0, (l : Int)), (3, 0)] [] M _
  refine w_al hK rfl rfl ?_
  refine w_ic hK rfl ?_
  refine w_puti (n := 14) (m := 14) hK rfl rfl (by decide) (by decide) rfl rfl rfl rfl ?_
  refine w_il hK rfl rfl ?_
  refine w_i2l hK rfl (by omega) (by omega) ?_
  refine w_lc hK rfl ?_
  refine w_lcw hK rfl ?_
  refine w_call [(2, (n0 : Int)), (2, 0), (2, 8)] hK rfl rfl rfl rfl (Or.inl rfl) (r_in (n0 : Int) 0 8 (by omega) (by omega) (by omega) (by omega) (by omega) (by omega)) ?_
  rintro _ Mq ⟨rfl, e_⟩
  subst Mq
  have iI_402 := ite01 (0 ≤ (n0 : Int) ∧ (n0 : Int) ≤ 8)
  refine ⟨by show (0 : Nat) ≠ 9; decide, (?_ : Wp 198 _ 252 8 [(1, 161), (0, (i : Int)), (0, (n0 : Int)), (0, (l : Int)), (3, 0)] [(0, (if 0 ≤ (n0 : Int) ∧ (n0 : Int) ≤ 8 then 1 else 0))] (up M 161 14 0) _)⟩
  refine w_eq hK rfl (by omega) (by omega) (fun h8 => ?_) (fun h8 => ?_)
  · exfalso; omega
  · refine w_al hK rfl rfl ?_
    refine w_il hK rfl rfl ?_
    refine w_il hK rfl rfl ?_
    refine w_il hK rfl rfl ?_
    refine w_call [(1, 161), (0, (i : Int)), (0, (i : Int)), (0, (l : Int))] hK rfl rfl rfl rfl (Or.inr ⟨_, _, _, rfl, by decide, (by decide), rfl⟩) (r_loads (RS.cg C (fun j_ h1_ h2_ => up_ne2 (by omega)) (fun a_ h1_ h2_ => up_row h1_)) (PM.keep hpl (up_row (by decide))) i i l hi hi hl) ?_
    rintro _ V403 ⟨P403, rfl, C403, S403, F403, f403_0, f403_1⟩
    refine ⟨by show (0 : Nat) ≠ 9; decide, (?_ : Wp 198 _ 252 14 [(1, 161), (0, (i : Int)), (0, (n0 : Int)), (0, (l : Int)), (3, 0)] [(0, 1)] V403 _)⟩
    refine w_ne hK rfl (by omega) (by omega) (fun h14 => ?_) (fun h14 => ?_)
    · refine w_al hK rfl rfl ?_
      refine w_getr (n := 28) (v := 182) hK rfl rfl (by decide) (by decide) rfl rfl rfl rfl ?_
      refine w_call [(1, 182)] hK rfl rfl rfl rfl (Or.inl rfl) (r_clear C403 (isR_of (p := 182) rfl)) ?_
      rintro _ V404 ⟨P404, rfl, C404, S404, F404, f404_0⟩
      refine ⟨by decide, (?_ : Wp 198 _ 252 20 [(1, 161), (0, (i : Int)), (0, (n0 : Int)), (0, (l : Int)), (3, 0)] [] V404 _)⟩
      refine w_al hK rfl rfl ?_
      refine w_getr (n := 28) (v := 182) hK rfl rfl (by decide) (by decide) rfl rfl rfl rfl ?_
      refine w_ic hK rfl ?_
      refine w_ic hK rfl ?_
      refine w_iat hK rfl rfl (by decide) (by decide) (by omega) (by omega) ?_
      refine w_ic hK rfl ?_
      refine w_is [(1, 161), (0, (i : Int)), (0, (n0 : Int)), (0, (l : Int)), (0, 0)] hK rfl rfl rfl ?_
      have lp27 : ∀ (n_ : Nat) (x : Nat) (R1 : Int → Option (Pl k)) (N27 : Mem), 9 - x = n_ → (x ≤ n0) → (dg (pl i) * (x : Int) ≤ 8) → (RS N27 k R1) → (R1 180 = some (pl i)) → (R1 182 = some (pwp (pl i) x)) → ((∀ p : Int, p ≠ 170 → p ≠ 182 → R1 p = (pu P404 182 (up1 pz 0 e1)) p)) → ((∀ a : Int, (∀ p : Int, isR p → a ≠ p) → N27 a = (up V404 182 0 1) a)) → Wp 198 (d + 8) 252 27 [(1, 161), (0, (i : Int)), (0, (n0 : Int)), (0, (l : Int)), (0, (x : Int))] [] N27 (fun r_ M' => r_ = (0, (dg (pwp (pl i) n0))) ∧ RFS M' k (fup pl l (pwp (pl i) n0)) n tx rc rw fc fa ∧ (∀ a : Int, (a < 161 ∨ 197 < a) → M' a = M a)) := by
        intro n_
        induction n_ using Nat.strongRecOn with
        | _ n_ ih27 =>
        intro x R1 N27 hm27 hx_ hm2_ hCR1 h0_ h2_ hGR1 hSN27
        obtain ⟨hq1, hq2, hq3⟩ := pwp_dg bi_ hm2_ x (Nat.le_refl _)
        have gq_ := dg_ge (pwp (pl i) x)
        obtain ⟨pw1_, pw2_⟩ := pw_nx bi_ hm2_
        refine w_il hK rfl rfl ?_
        refine w_il hK rfl rfl ?_
        refine w_ge2 hK rfl (by omega) (by omega) (by omega) (by omega) (fun h29 => ?_) (fun h29 => ?_)
        · refine w_al hK rfl rfl ?_
          refine w_al hK rfl rfl ?_
          refine w_getr (n := 28) (v := 182) hK rfl rfl (by decide) (by decide) rfl rfl rfl rfl ?_
          refine w_il hK rfl rfl ?_
          refine w_call [(1, 161), (1, 182), (0, (l : Int))] hK rfl rfl rfl rfl (Or.inr ⟨_, _, _, rfl, by decide, (by decide), rfl⟩) (r_store hCR1 (PM.keep hpl ((hSN27 167 (notR rfl)).trans ((up_row (by decide)).trans ((S404 167 (notR rfl)).trans ((S403 167 (notR rfl)).trans (up_row (by decide))))))) ⟨(isR_of (p := 182) rfl), h2_⟩ l hl (Bd9.of hq1 hq2)) ?_
          rintro _ V405 ⟨rfl, C405, Q405, F405⟩
          refine ⟨(by show (0 : Nat) ≠ 9; decide), (?_ : Wp 198 _ 252 52 [(1, 161), (0, (i : Int)), (0, (n0 : Int)), (0, (l : Int)), (0, (x : Int))] [(0, (dg (pwp (pl i) x)))] V405 _)⟩
          refine w_iret hK rfl rfl ?_
          have ex_ : x = n0 := by omega
          subst x
          have Qe_ := Q405
          exact ⟨rfl, ⟨_, C405, Qe_, (TMs.keep T ((congrFun (F405 161 (by decide)) 11).trans ((congrFun (hSN27 161 (notR rfl)) 11).trans ((congrFun (up_row (by decide)) 11).trans ((congrFun (S404 161 (notR rfl)) 11).trans ((congrFun (S403 161 (notR rfl)) 11).trans (up_ne2 (by decide))))))) ((F405 168 (by decide)).trans ((hSN27 168 (notR rfl)).trans ((up_row (by decide)).trans ((S404 168 (notR rfl)).trans ((S403 168 (notR rfl)).trans (up_row (by decide)))))))), (RM.keep hR ((congrFun (F405 161 (by decide)) 13).trans ((congrFun (hSN27 161 (notR rfl)) 13).trans ((congrFun (up_row (by decide)) 13).trans ((congrFun (S404 161 (notR rfl)) 13).trans ((congrFun (S403 161 (notR rfl)) 13).trans (up_ne2 (by decide))))))) ((F405 169 (by decide)).trans ((hSN27 169 (notR rfl)).trans ((up_row (by decide)).trans ((S404 169 (notR rfl)).trans ((S403 169 (notR rfl)).trans (up_row (by decide)))))))), (FM.keep hF ((congrFun (F405 161 (by decide)) 15).trans ((congrFun (hSN27 161 (notR rfl)) 15).trans ((congrFun (up_row (by decide)) 15).trans ((congrFun (S404 161 (notR rfl)) 15).trans ((congrFun (S403 161 (notR rfl)) 15).trans (up_ne2 (by decide))))))) ((F405 189 (by decide)).trans ((hSN27 189 (notR rfl)).trans ((up_row (by decide)).trans ((S404 189 (notR rfl)).trans ((S403 189 (notR rfl)).trans (up_row (by decide))))))) ((F405 190 (by decide)).trans ((hSN27 190 (notR rfl)).trans ((up_row (by decide)).trans ((S404 190 (notR rfl)).trans ((S403 190 (notR rfl)).trans (up_row (by decide))))))))⟩, (fun a h_ => ((F405 a (by omega)).trans ((hSN27 a (npR h_)).trans ((up_row (by omega)).trans ((S404 a (npR h_)).trans ((S403 a (npR h_)).trans (up_row (by omega))))))))⟩
        · refine w_al hK rfl rfl ?_
          refine w_al hK rfl rfl ?_
          refine w_getr (n := 28) (v := 182) hK rfl rfl (by decide) (by decide) rfl rfl rfl rfl ?_
          refine w_al hK rfl rfl ?_
          refine w_getr (n := 26) (v := 180) hK rfl rfl (by decide) (by decide) rfl rfl rfl rfl ?_
          refine w_al hK rfl rfl ?_
          refine w_getr (n := 28) (v := 182) hK rfl rfl (by decide) (by decide) rfl rfl rfl rfl ?_
          refine w_call [(1, 161), (1, 182), (1, 180), (1, 182)] hK rfl rfl rfl rfl (Or.inr ⟨_, _, _, rfl, by decide, (by decide), rfl⟩) (r_prod hCR1 ⟨(isR_of (p := 182) rfl), h2_⟩ ⟨(isR_of (p := 180) rfl), h0_⟩ (isR_of (p := 182) rfl) (by omega) (by omega) (by omega) (by omega)) ?_
          rintro _ V406 ⟨P406, rfl, C406, S406, F406, f406_0⟩
          refine ⟨by decide, (?_ : Wp 198 _ 252 38 [(1, 161), (0, (i : Int)), (0, (n0 : Int)), (0, (l : Int)), (0, (x : Int))] [] V406 _)⟩
          refine w_al hK rfl rfl ?_
          refine w_getr (n := 28) (v := 182) hK rfl rfl (by decide) (by decide) rfl rfl rfl rfl ?_
          have dI_ : -1 ≤ dg (mlp (pwp (pl i) x) (pl i)) ∧ dg (mlp (pwp (pl i) x) (pl i)) ≤ 47 := C406.dI ⟨(isR_of (p := 182) rfl), f406_0⟩
          refine w_call [(1, 182)] hK rfl rfl rfl rfl (Or.inl rfl) (r_deg C406 ⟨(isR_of (p := 182) rfl), f406_0⟩) ?_
          rintro _ Mq ⟨rfl, e_⟩
          subst Mq
          refine ⟨by show (0 : Nat) ≠ 9; decide, (?_ : Wp 198 _ 252 41 [(1, 161), (0, (i : Int)), (0, (n0 : Int)), (0, (l : Int)), (0, (x : Int))] [(0, (dg (mlp (pwp (pl i) x) (pl i))))] V406 _)⟩
          refine w_ic hK rfl ?_
          refine w_le2 hK rfl (by omega) (by omega) (by omega) (by omega) (fun h42 => ?_) (fun h42 => ?_)
          · refine w_inc [(1, 161), (0, (i : Int)), (0, (n0 : Int)), (0, (l : Int)), (0, ((x : Int) + 1))] hK rfl rfl rfl (by omega) (by omega) rfl ?_
            refine w_goto hK rfl ?_
            exact ih27 _ (by omega) (x + 1) _ V406 rfl (by omega) (pw_le bi_ hm2_ (by omega)) C406 (((F406 180 (by omega) (by omega)).trans h0_)) (f406_0) (fun p pn170_ pn182_ => ((F406 p pn170_ pn182_).trans (hGR1 p pn170_ pn182_))) (fun a nr_ => ((S406 a nr_).trans (hSN27 a nr_)))
          · refine w_ic hK rfl ?_
            refine w_iret hK rfl rfl ?_
            exfalso
            have w_ := pw_mono (f := pl i) (show x + 1 ≤ n0 by omega) hm_
            by_cases q_ : 0 ≤ dg (pl i)
            · rw [← pw2_ q_] at w_; omega
            · have e_ : pl i = pz := (dg_neg (bi_.mono (by decide))).mp (by omega)
              rw [e_, mlp_pz, dg_pz] at h42; omega
      exact lp27 _ 0 _ (up V404 182 0 1) rfl (by omega) (by rw [show ((0 : Nat) : Int) = 0 from rfl, Int.mul_zero]; decide) (RS.up C404 ⟨(isR_of (p := 182) rfl), f404_0⟩ (j := 0) (by omega) (by omega) (e := e1) el1.symm) (((pu_ne (P := P404) (f := up1 pz 0 e1) (show 180 ≠ 182 by omega)).trans ((F404 180 (by omega)).trans f403_0))) (pu_eq) (fun p pn170_ pn182_ => rfl) (fun a nr_ => rfl)
    · exfalso; omega
set_option maxRecDepth 100000 in
theorem rz_power {d : Nat} {M : Mem} {k : Nat} {pl : Nat → Pl k} {n : Int} {tx : Int → Int} {rc : Nat} {rw : Int → Int} {fc : Nat} {fa : Nat → Pl k} (H : RFS M k pl n tx rc rw fc fa) (i : Nat) (hi : i < 6) (l : Nat) (hl : l < 6) (n0 : Nat) (n8 : n0 ≤ 8) (hm_ : 8 < dg (pl i) * (n0 : Int)) : Ct 198 (d + 8) 252 [(1, 161), (0, (i : Int)), (0, (n0 : Int)), (0, (l : Int))] M (fun r_ M' => r_ = (0, -3) ∧ RFS M' k pl n tx rc rw fc fa ∧ (∀ a : Int, (a < 161 ∨ 197 < a) → M' a = M a)) := by
  have hK : cd 252 = k252 := rfl
  obtain ⟨R, C, hpl, T, hR, hF⟩ := H
  have q1_ := qq_I k
  have p1_ := pp_I k
  have m1_ := mm_I k
  have bi_ := (hpl i hi).2
  have di_ := dg_lt9 bi_
  have bl_ := (hpl l hl).2
  have dl_ := dg_lt9 bl_
  show Wp 198 _ 252 0 [(1, 161), (0, (i : Int)), (0, (n0 : Int)), (0, (l : Int)), (3, 0)] [] M _
  refine w_al hK rfl rfl ?_
  refine w_ic hK rfl ?_
  refine w_puti (n := 14) (m := 14) hK rfl rfl (by decide) (by decide) rfl rfl rfl rfl ?_
  refine w_il hK rfl rfl ?_
  refine w_i2l hK rfl (by omega) (by omega) ?_
  refine w_lc hK rfl ?_
  refine w_lcw hK rfl ?_
  refine w_call [(2, (n0 : Int)), (2, 0), (2, 8)] hK rfl rfl rfl rfl (Or.inl rfl) (r_in (n0 : Int) 0 8 (by omega) (by omega) (by omega) (by omega) (by omega) (by omega)) ?_
  rintro _ Mq ⟨rfl, e_⟩
  subst Mq
  have iI_407 := ite01 (0 ≤ (n0 : Int) ∧ (n0 : Int) ≤ 8)
  refine ⟨by show (0 : Nat) ≠ 9; decide, (?_ : Wp 198 _ 252 8 [(1, 161), (0, (i : Int)), (0, (n0 : Int)), (0, (l : Int)), (3, 0)] [(0, (if 0 ≤ (n0 : Int) ∧ (n0 : Int) ≤ 8 then 1 else 0))] (up M 161 14 0) _)⟩
  refine w_eq hK rfl (by omega) (by omega) (fun h8 => ?_) (fun h8 => ?_)
  · exfalso; omega
  · refine w_al hK rfl rfl ?_
    refine w_il hK rfl rfl ?_
    refine w_il hK rfl rfl ?_
    refine w_il hK rfl rfl ?_
    refine w_call [(1, 161), (0, (i : Int)), (0, (i : Int)), (0, (l : Int))] hK rfl rfl rfl rfl (Or.inr ⟨_, _, _, rfl, by decide, (by decide), rfl⟩) (r_loads (RS.cg C (fun j_ h1_ h2_ => up_ne2 (by omega)) (fun a_ h1_ h2_ => up_row h1_)) (PM.keep hpl (up_row (by decide))) i i l hi hi hl) ?_
    rintro _ V408 ⟨P408, rfl, C408, S408, F408, f408_0, f408_1⟩
    refine ⟨by show (0 : Nat) ≠ 9; decide, (?_ : Wp 198 _ 252 14 [(1, 161), (0, (i : Int)), (0, (n0 : Int)), (0, (l : Int)), (3, 0)] [(0, 1)] V408 _)⟩
    refine w_ne hK rfl (by omega) (by omega) (fun h14 => ?_) (fun h14 => ?_)
    · refine w_al hK rfl rfl ?_
      refine w_getr (n := 28) (v := 182) hK rfl rfl (by decide) (by decide) rfl rfl rfl rfl ?_
      refine w_call [(1, 182)] hK rfl rfl rfl rfl (Or.inl rfl) (r_clear C408 (isR_of (p := 182) rfl)) ?_
      rintro _ V409 ⟨P409, rfl, C409, S409, F409, f409_0⟩
      refine ⟨by decide, (?_ : Wp 198 _ 252 20 [(1, 161), (0, (i : Int)), (0, (n0 : Int)), (0, (l : Int)), (3, 0)] [] V409 _)⟩
      refine w_al hK rfl rfl ?_
      refine w_getr (n := 28) (v := 182) hK rfl rfl (by decide) (by decide) rfl rfl rfl rfl ?_
      refine w_ic hK rfl ?_
      refine w_ic hK rfl ?_
      refine w_iat hK rfl rfl (by decide) (by decide) (by omega) (by omega) ?_
      refine w_ic hK rfl ?_
      refine w_is [(1, 161), (0, (i : Int)), (0, (n0 : Int)), (0, (l : Int)), (0, 0)] hK rfl rfl rfl ?_
      have lp27 : ∀ (n_ : Nat) (x : Nat) (R1 : Int → Option (Pl k)) (N27 : Mem), 9 - x = n_ → (x ≤ n0) → (dg (pl i) * (x : Int) ≤ 8) → (RS N27 k R1) → (R1 180 = some (pl i)) → (R1 182 = some (pwp (pl i) x)) → ((∀ p : Int, p ≠ 170 → p ≠ 182 → R1 p = (pu P409 182 (up1 pz 0 e1)) p)) → ((∀ a : Int, (∀ p : Int, isR p → a ≠ p) → N27 a = (up V409 182 0 1) a)) → Wp 198 (d + 8) 252 27 [(1, 161), (0, (i : Int)), (0, (n0 : Int)), (0, (l : Int)), (0, (x : Int))] [] N27 (fun r_ M' => r_ = (0, -3) ∧ RFS M' k pl n tx rc rw fc fa ∧ (∀ a : Int, (a < 161 ∨ 197 < a) → M' a = M a)) := by
        intro n_
        induction n_ using Nat.strongRecOn with
        | _ n_ ih27 =>
        intro x R1 N27 hm27 hx_ hm2_ hCR1 h0_ h2_ hGR1 hSN27
        obtain ⟨hq1, hq2, hq3⟩ := pwp_dg bi_ hm2_ x (Nat.le_refl _)
        have gq_ := dg_ge (pwp (pl i) x)
        obtain ⟨pw1_, pw2_⟩ := pw_nx bi_ hm2_
        refine w_il hK rfl rfl ?_
        refine w_il hK rfl rfl ?_
        refine w_ge2 hK rfl (by omega) (by omega) (by omega) (by omega) (fun h29 => ?_) (fun h29 => ?_)
        · refine w_al hK rfl rfl ?_
          refine w_al hK rfl rfl ?_
          refine w_getr (n := 28) (v := 182) hK rfl rfl (by decide) (by decide) rfl rfl rfl rfl ?_
          refine w_il hK rfl rfl ?_
          refine w_call [(1, 161), (1, 182), (0, (l : Int))] hK rfl rfl rfl rfl (Or.inr ⟨_, _, _, rfl, by decide, (by decide), rfl⟩) (r_store hCR1 (PM.keep hpl ((hSN27 167 (notR rfl)).trans ((up_row (by decide)).trans ((S409 167 (notR rfl)).trans ((S408 167 (notR rfl)).trans (up_row (by decide))))))) ⟨(isR_of (p := 182) rfl), h2_⟩ l hl (Bd9.of hq1 hq2)) ?_
          rintro _ V410 ⟨rfl, C410, Q410, F410⟩
          refine ⟨(by show (0 : Nat) ≠ 9; decide), (?_ : Wp 198 _ 252 52 [(1, 161), (0, (i : Int)), (0, (n0 : Int)), (0, (l : Int)), (0, (x : Int))] [(0, (dg (pwp (pl i) x)))] V410 _)⟩
          refine w_iret hK rfl rfl ?_
          exfalso
          rw [show x = n0 by omega] at hm2_
          omega
        · refine w_al hK rfl rfl ?_
          refine w_al hK rfl rfl ?_
          refine w_getr (n := 28) (v := 182) hK rfl rfl (by decide) (by decide) rfl rfl rfl rfl ?_
          refine w_al hK rfl rfl ?_
          refine w_getr (n := 26) (v := 180) hK rfl rfl (by decide) (by decide) rfl rfl rfl rfl ?_
          refine w_al hK rfl rfl ?_
          refine w_getr (n := 28) (v := 182) hK rfl rfl (by decide) (by decide) rfl rfl rfl rfl ?_
          refine w_call [(1, 161), (1, 182), (1, 180), (1, 182)] hK rfl rfl rfl rfl (Or.inr ⟨_, _, _, rfl, by decide, (by decide), rfl⟩) (r_prod hCR1 ⟨(isR_of (p := 182) rfl), h2_⟩ ⟨(isR_of (p := 180) rfl), h0_⟩ (isR_of (p := 182) rfl) (by omega) (by omega) (by omega) (by omega)) ?_
          rintro _ V411 ⟨P411, rfl, C411, S411, F411, f411_0⟩
          refine ⟨by decide, (?_ : Wp 198 _ 252 38 [(1, 161), (0, (i : Int)), (0, (n0 : Int)), (0, (l : Int)), (0, (x : Int))] [] V411 _)⟩
          refine w_al hK rfl rfl ?_
          refine w_getr (n := 28) (v := 182) hK rfl rfl (by decide) (by decide) rfl rfl rfl rfl ?_
          have dI_ : -1 ≤ dg (mlp (pwp (pl i) x) (pl i)) ∧ dg (mlp (pwp (pl i) x) (pl i)) ≤ 47 := C411.dI ⟨(isR_of (p := 182) rfl), f411_0⟩
          refine w_call [(1, 182)] hK rfl rfl rfl rfl (Or.inl rfl) (r_deg C411 ⟨(isR_of (p := 182) rfl), f411_0⟩) ?_
          rintro _ Mq ⟨rfl, e_⟩
          subst Mq
          refine ⟨by show (0 : Nat) ≠ 9; decide, (?_ : Wp 198 _ 252 41 [(1, 161), (0, (i : Int)), (0, (n0 : Int)), (0, (l : Int)), (0, (x : Int))] [(0, (dg (mlp (pwp (pl i) x) (pl i))))] V411 _)⟩
          refine w_ic hK rfl ?_
          refine w_le2 hK rfl (by omega) (by omega) (by omega) (by omega) (fun h42 => ?_) (fun h42 => ?_)
          · refine w_inc [(1, 161), (0, (i : Int)), (0, (n0 : Int)), (0, (l : Int)), (0, ((x : Int) + 1))] hK rfl rfl rfl (by omega) (by omega) rfl ?_
            refine w_goto hK rfl ?_
            exact ih27 _ (by omega) (x + 1) _ V411 rfl (by omega) (pw_le bi_ hm2_ (by omega)) C411 (((F411 180 (by omega) (by omega)).trans h0_)) (f411_0) (fun p pn170_ pn182_ => ((F411 p pn170_ pn182_).trans (hGR1 p pn170_ pn182_))) (fun a nr_ => ((S411 a nr_).trans (hSN27 a nr_)))
          · refine w_ic hK rfl ?_
            refine w_iret hK rfl rfl ?_
            exact ⟨rfl, ⟨_, C411, (PM.keep hpl ((S411 167 (notR rfl)).trans ((hSN27 167 (notR rfl)).trans ((up_row (by decide)).trans ((S409 167 (notR rfl)).trans ((S408 167 (notR rfl)).trans (up_row (by decide)))))))), (TMs.keep T ((congrFun (S411 161 (notR rfl)) 11).trans ((congrFun (hSN27 161 (notR rfl)) 11).trans ((congrFun (up_row (by decide)) 11).trans ((congrFun (S409 161 (notR rfl)) 11).trans ((congrFun (S408 161 (notR rfl)) 11).trans (up_ne2 (by decide))))))) ((S411 168 (notR rfl)).trans ((hSN27 168 (notR rfl)).trans ((up_row (by decide)).trans ((S409 168 (notR rfl)).trans ((S408 168 (notR rfl)).trans (up_row (by decide)))))))), (RM.keep hR ((congrFun (S411 161 (notR rfl)) 13).trans ((congrFun (hSN27 161 (notR rfl)) 13).trans ((congrFun (up_row (by decide)) 13).trans ((congrFun (S409 161 (notR rfl)) 13).trans ((congrFun (S408 161 (notR rfl)) 13).trans (up_ne2 (by decide))))))) ((S411 169 (notR rfl)).trans ((hSN27 169 (notR rfl)).trans ((up_row (by decide)).trans ((S409 169 (notR rfl)).trans ((S408 169 (notR rfl)).trans (up_row (by decide)))))))), (FM.keep hF ((congrFun (S411 161 (notR rfl)) 15).trans ((congrFun (hSN27 161 (notR rfl)) 15).trans ((congrFun (up_row (by decide)) 15).trans ((congrFun (S409 161 (notR rfl)) 15).trans ((congrFun (S408 161 (notR rfl)) 15).trans (up_ne2 (by decide))))))) ((S411 189 (notR rfl)).trans ((hSN27 189 (notR rfl)).trans ((up_row (by decide)).trans ((S409 189 (notR rfl)).trans ((S408 189 (notR rfl)).trans (up_row (by decide))))))) ((S411 190 (notR rfl)).trans ((hSN27 190 (notR rfl)).trans ((up_row (by decide)).trans ((S409 190 (notR rfl)).trans ((S408 190 (notR rfl)).trans (up_row (by decide))))))))⟩, (fun a h_ => ((S411 a (npR h_)).trans ((hSN27 a (npR h_)).trans ((up_row (by omega)).trans ((S409 a (npR h_)).trans ((S408 a (npR h_)).trans (up_row (by omega))))))))⟩
      exact lp27 _ 0 _ (up V409 182 0 1) rfl (by omega) (by rw [show ((0 : Nat) : Int) = 0 from rfl, Int.mul_zero]; decide) (RS.up C409 ⟨(isR_of (p := 182) rfl), f409_0⟩ (j := 0) (by omega) (by omega) (e := e1) el1.symm) (((pu_ne (P := P409) (f := up1 pz 0 e1) (show 180 ≠ 182 by omega)).trans ((F409 180 (by omega)).trans f408_0))) (pu_eq) (fun p pn170_ pn182_ => rfl) (fun a nr_ => rfl)
    · exfalso; omega
set_option maxRecDepth 100000 in
theorem rn_power {d : Nat} {M : Mem} {k : Nat} {pl : Nat → Pl k} {n : Int} {tx : Int → Int} {rc : Nat} {rw : Int → Int} {fc : Nat} {fa : Nat → Pl k} (H : RFS M k pl n tx rc rw fc fa) (i n0 l : Int) (i1_ : -2147483648 ≤ i) (i2_ : i ≤ 2147483647) (n01_ : -2147483648 ≤ n0) (n02_ : n0 ≤ 2147483647) (l1_ : -2147483648 ≤ l) (l2_ : l ≤ 2147483647) (hn : ¬ ((0 ≤ i ∧ i < 6) ∧ (0 ≤ l ∧ l < 6) ∧ 0 ≤ n0 ∧ n0 ≤ 8)) : Ct 198 (d + 8) 252 [(1, 161), (0, i), (0, n0), (0, l)] M (fun r_ M' => r_ = (0, -2) ∧ RFS M' k pl n tx rc rw fc fa ∧ (∀ a : Int, (a < 161 ∨ 197 < a) → M' a = M a)) := by
  have hK : cd 252 = k252 := rfl
  obtain ⟨R, C, hpl, T, hR, hF⟩ := H
  have q1_ := qq_I k
  have p1_ := pp_I k
  have m1_ := mm_I k
  show Wp 198 _ 252 0 [(1, 161), (0, i), (0, n0), (0, l), (3, 0)] [] M _
  refine w_al hK rfl rfl ?_
  refine w_ic hK rfl ?_
  refine w_puti (n := 14) (m := 14) hK rfl rfl (by decide) (by decide) rfl rfl rfl rfl ?_
  refine w_il hK rfl rfl ?_
  refine w_i2l hK rfl (by omega) (by omega) ?_
  refine w_lc hK rfl ?_
  refine w_lcw hK rfl ?_
  refine w_call [(2, n0), (2, 0), (2, 8)] hK rfl rfl rfl rfl (Or.inl rfl) (r_in n0 0 8 (by omega) (by omega) (by omega) (by omega) (by omega) (by omega)) ?_
  rintro _ Mq ⟨rfl, e_⟩
  subst Mq
  have iI_412 := ite01 (0 ≤ n0 ∧ n0 ≤ 8)
  refine ⟨by show (0 : Nat) ≠ 9; decide, (?_ : Wp 198 _ 252 8 [(1, 161), (0, i), (0, n0), (0, l), (3, 0)] [(0, (if 0 ≤ n0 ∧ n0 ≤ 8 then 1 else 0))] (up M 161 14 0) _)⟩
  refine w_eq hK rfl (by omega) (by omega) (fun h8 => ?_) (fun h8 => ?_)
  · refine w_ic hK rfl ?_
    refine w_iret hK rfl rfl ?_
    exact ⟨rfl, ⟨_, (RS.cg C (fun j_ h1_ h2_ => up_ne2 (by omega)) (fun a_ h1_ h2_ => up_row h1_)), (PM.keep hpl (up_row (by decide))), (TMs.keep T (up_ne2 (by decide)) (up_row (by decide))), (RM.keep hR (up_ne2 (by decide)) (up_row (by decide))), (FM.keep hF (up_ne2 (by decide)) (up_row (by decide)) (up_row (by decide)))⟩, (fun a h_ => (up_row (by omega)))⟩
  · refine w_al hK rfl rfl ?_
    refine w_il hK rfl rfl ?_
    refine w_il hK rfl rfl ?_
    refine w_il hK rfl rfl ?_
    refine w_call [(1, 161), (0, i), (0, i), (0, l)] hK rfl rfl rfl rfl (Or.inr ⟨_, _, _, rfl, by decide, (by decide), rfl⟩) (r_loadsN i i l (by omega) (by omega) (by omega) (by omega) (by omega) (by omega) (by omega)) ?_
    rintro _ Mq ⟨rfl, e_⟩
    subst Mq
    refine ⟨by show (0 : Nat) ≠ 9; decide, (?_ : Wp 198 _ 252 14 [(1, 161), (0, i), (0, n0), (0, l), (3, 0)] [(0, 0)] (up M 161 14 0) _)⟩
    refine w_ne hK rfl (by omega) (by omega) (fun h14 => ?_) (fun h14 => ?_)
    · exfalso; omega
    · refine w_ic hK rfl ?_
      refine w_iret hK rfl rfl ?_
      exact ⟨rfl, ⟨_, (RS.cg C (fun j_ h1_ h2_ => up_ne2 (by omega)) (fun a_ h1_ h2_ => up_row h1_)), (PM.keep hpl (up_row (by decide))), (TMs.keep T (up_ne2 (by decide)) (up_row (by decide))), (RM.keep hR (up_ne2 (by decide)) (up_row (by decide))), (FM.keep hF (up_ne2 (by decide)) (up_row (by decide)) (up_row (by decide)))⟩, (fun a h_ => (up_row (by omega)))⟩
set_option maxRecDepth 100000 in
theorem ro_classes {d : Nat} {M : Mem} {k : Nat} {pl : Nat → Pl k} {n : Int} {tx : Int → Int} {rc : Nat} {rw : Int → Int} {fc : Nat} {fa : Nat → Pl k} (H : RFS M k pl n tx rc rw fc fa)  : Ct 198 (d + 8) 214 [(1, 161)] M (fun r_ M' => r_ = (0, ((cln k rw (qq k)).2.1 : Int)) ∧ RFS M' k pl n tx ((cln k rw (qq k)).2.1) ((cln k rw (qq k)).2.2) fc fa ∧ (∀ a : Int, (a < 161 ∨ 197 < a) → M' a = M a)) := by
  have hK : cd 214 = k214 := rfl
  obtain ⟨R, C, hpl, T, hR, hF⟩ := H
  have q1_ := qq_I k
  have p1_ := pp_I k
  have m1_ := mm_I k
  show Wp 198 _ 214 0 [(1, 161), (3, 0), (3, 0)] [] M _
  refine w_al hK rfl rfl ?_
  refine w_ic hK rfl ?_
  refine w_puti (n := 14) (m := 14) hK rfl rfl (by decide) (by decide) rfl rfl rfl rfl ?_
  refine w_ic hK rfl ?_
  refine w_is [(1, 161), (0, 0), (3, 0)] hK rfl rfl rfl ?_
  refine w_al hK rfl rfl ?_
  refine w_ic hK rfl ?_
  refine w_puti (n := 13) (m := 13) hK rfl rfl (by decide) (by decide) rfl rfl rfl rfl ?_
  refine w_ic hK rfl ?_
  refine w_is [(1, 161), (0, 0), (0, 0)] hK rfl rfl rfl ?_
  have lp10 : ∀ (n_ : Nat) (a : Nat) (N10 : Mem), 17 - a = n_ → (a ≤ qq k) → ((∀ a : Int, a ≠ 161 → a ≠ 169 → N10 a = (up (up M 161 14 0) 161 13 0) a)) → ((∀ j : Int, j ≠ 13 → N10 161 j = (up (up M 161 14 0) 161 13 0) 161 j)) → (RM N10 (cln k rw a).2.1 (cln k rw a).2.2) → Wp 198 (d + 8) 214 10 [(1, 161), (0, (cln k rw a).1), (0, (a : Int))] [] N10 (fun r_ M' => r_ = (0, ((cln k rw (qq k)).2.1 : Int)) ∧ RFS M' k pl n tx ((cln k rw (qq k)).2.1) ((cln k rw (qq k)).2.2) fc fa ∧ (∀ a : Int, (a < 161 ∨ 197 < a) → M' a = M a)) := by
    intro n_
    induction n_ using Nat.strongRecOn with
    | _ n_ ih10 =>
    intro a N10 hm10 ha_ hSN10 hHN10 hRN10
    have gI_ := cln_I k rw a
    refine w_il hK rfl rfl ?_
    refine w_al hK rfl rfl ?_
    refine w_geti (n := 1) (m := 1) hK rfl rfl (by decide) (by decide) rfl rfl rfl rfl ?_
    rw [show N10 161 1 = (qq k : Int) from (RS.cg (RS.cg (RS.cg C (fun j_ h1_ h2_ => up_ne2 (by omega)) (fun a_ h1_ h2_ => up_row h1_)) (fun j_ h1_ h2_ => up_ne2 (by omega)) (fun a_ h1_ h2_ => up_row h1_)) (fun j_ h1_ h2_ => hHN10 j_ (by omega)) (fun a_ h1_ h2_ => hSN10 a_ h1_ (RSc_ne h2_ (by decide) (notR rfl)))).F.q]
    refine w_ge2 hK rfl (by omega) (by omega) (by omega) (by omega) (fun h13 => ?_) (fun h13 => ?_)
    · refine w_al hK rfl rfl ?_
      refine w_geti (n := 13) (m := 13) hK rfl rfl (by decide) (by decide) rfl rfl rfl rfl ?_
      refine w_iret hK rfl rfl ?_
      have e_ : a = qq k := by omega
      subst e_
      exact ⟨(congrArg (Prod.mk 0) hRN10.1), ⟨_, (RS.cg (RS.cg (RS.cg C (fun j_ h1_ h2_ => up_ne2 (by omega)) (fun a_ h1_ h2_ => up_row h1_)) (fun j_ h1_ h2_ => up_ne2 (by omega)) (fun a_ h1_ h2_ => up_row h1_)) (fun j_ h1_ h2_ => hHN10 j_ (by omega)) (fun a_ h1_ h2_ => hSN10 a_ h1_ (RSc_ne h2_ (by decide) (notR rfl)))), (PM.keep hpl ((hSN10 167 (by decide) (by decide)).trans ((up_row (by decide)).trans (up_row (by decide))))), (TMs.keep T ((hHN10 11 (by decide)).trans ((up_ne2 (by decide)).trans (up_ne2 (by decide)))) ((hSN10 168 (by decide) (by decide)).trans ((up_row (by decide)).trans (up_row (by decide))))), hRN10, (FM.keep hF ((hHN10 15 (by decide)).trans ((up_ne2 (by decide)).trans (up_ne2 (by decide)))) ((hSN10 189 (by decide) (by decide)).trans ((up_row (by decide)).trans (up_row (by decide)))) ((hSN10 190 (by decide) (by decide)).trans ((up_row (by decide)).trans (up_row (by decide)))))⟩, (fun a h_ => ((hSN10 a (by omega) (by omega)).trans ((up_row (by omega)).trans (up_row (by omega)))))⟩
    · refine w_il hK rfl rfl ?_
      refine w_il hK rfl rfl ?_
      refine w_bin (w := i32 ((cln k rw a).1) >>> (i32 (a : Int) &&& 31)) hK rfl rfl rfl ?_
      refine w_ic hK rfl ?_
      refine w_bin (w := i32 ((i32 ((cln k rw a).1) >>> (i32 (a : Int) &&& 31)).toInt) &&& i32 1) hK rfl rfl rfl ?_
      refine w_ic hK rfl ?_
      have b01_ : (i32 ((i32 ((cln k rw a).1) >>> (i32 (a : Int) &&& 31)).toInt) &&& i32 1).toInt = 0 ∨ (i32 ((i32 ((cln k rw a).1) >>> (i32 (a : Int) &&& 31)).toInt) &&& i32 1).toInt = 1 := and1_I _
      refine w_ne2 hK rfl (by omega) (by omega) (by omega) (by omega) (fun h20 => ?_) (fun h20 => ?_)
      · refine w_il hK rfl rfl ?_
        refine w_al hK rfl rfl ?_
        refine w_il hK rfl rfl ?_
        refine w_call [(1, 161), (0, (a : Int))] hK rfl rfl rfl rfl (Or.inr ⟨_, _, _, rfl, by decide, (by decide), rfl⟩) (Ct.cv (r_cjs (RS.cg (RS.cg (RS.cg C (fun j_ h1_ h2_ => up_ne2 (by omega)) (fun a_ h1_ h2_ => up_row h1_)) (fun j_ h1_ h2_ => up_ne2 (by omega)) (fun a_ h1_ h2_ => up_row h1_)) (fun j_ h1_ h2_ => hHN10 j_ (by omega)) (fun a_ h1_ h2_ => hSN10 a_ h1_ (RSc_ne h2_ (by decide) (notR rfl)))).F (el k a)) (by simp only [(elN (k := k) (n := a) (by omega))]; try rfl)) ?_
        rintro _ Mq ⟨rfl, e_⟩
        subst Mq
        refine ⟨by show (0 : Nat) ≠ 9; decide, (?_ : Wp 198 _ 214 26 [(1, 161), (0, (cln k rw a).1), (0, (a : Int))] [(0, cjs (el k a) (qq k - 1)), (0, (cln k rw a).1)] N10 _)⟩
        refine w_bin (w := i32 ((cln k rw a).1) ||| i32 (cjs (el k a) (qq k - 1))) hK rfl rfl rfl ?_
        refine w_is [(1, 161), (0, (i32 ((cln k rw a).1) ||| i32 (cjs (el k a) (qq k - 1))).toInt), (0, (a : Int))] hK rfl rfl rfl ?_
        refine w_al hK rfl rfl ?_
        refine w_il hK rfl rfl ?_
        refine w_i2l hK rfl (by omega) (by omega) ?_
        refine w_call [(1, 161), (2, (a : Int))] hK rfl rfl rfl rfl (Or.inr ⟨_, _, _, rfl, by decide, (by decide), rfl⟩) (r_tell hRN10 (by omega) (a : Int)) ?_
        rintro _ V413 ⟨rfl, R413, F413, G413⟩
        refine ⟨by decide, (?_ : Wp 198 _ 214 32 [(1, 161), (0, (i32 ((cln k rw a).1) ||| i32 (cjs (el k a) (qq k - 1))).toInt), (0, (a : Int))] [] V413 _)⟩
        refine w_inc [(1, 161), (0, (i32 ((cln k rw a).1) ||| i32 (cjs (el k a) (qq k - 1))).toInt), (0, ((a : Int) + 1))] hK rfl rfl rfl (by omega) (by omega) rfl ?_
        refine w_goto hK rfl ?_
        have eu_ : (cln k rw (a + 1)) = ((i32 ((cln k rw a).1) ||| i32 (cjs (el k a) (qq k - 1))).toInt, ((cln k rw a).2.1 + 1), (upr (cln k rw a).2.2 ((cln k rw a).2.1 : Int) (a : Int))) := if_pos (show (i32 ((i32 ((cln k rw a).1) >>> (i32 (a : Int) &&& 31)).toInt) &&& i32 1).toInt = 0 by omega)
        have e1_ : (cln k rw (a + 1)).1 = (i32 ((cln k rw a).1) ||| i32 (cjs (el k a) (qq k - 1))).toInt := congrArg Prod.fst eu_
        rw [← e1_]
        exact ih10 _ (by omega) (a + 1) V413 rfl (by omega) (fun a n161_ n169_ => ((F413 a n161_ n169_).trans (hSN10 a n161_ n169_))) (fun j n13_ => ((G413 j n13_).trans (hHN10 j n13_))) (by rw [eu_]; exact R413)
      · refine w_goto hK rfl ?_
        refine w_inc [(1, 161), (0, (cln k rw a).1), (0, ((a : Int) + 1))] hK rfl rfl rfl (by omega) (by omega) rfl ?_
        refine w_goto hK rfl ?_
        have eu_ : (cln k rw (a + 1)) = (cln k rw a) := if_neg (show ¬ (i32 ((i32 ((cln k rw a).1) >>> (i32 (a : Int) &&& 31)).toInt) &&& i32 1).toInt = 0 by omega)
        have e1_ : (cln k rw (a + 1)).1 = (cln k rw a).1 := congrArg Prod.fst eu_
        rw [← e1_]
        exact ih10 _ (by omega) (a + 1) N10 rfl (by omega) (fun a n161_ n169_ => (hSN10 a n161_ n169_)) (fun j n13_ => (hHN10 j n13_)) (by rw [eu_]; exact hRN10)
  exact lp10 _ 0 (up (up M 161 14 0) 161 13 0) rfl (by omega) (fun a n161_ n169_ => rfl) (fun j n13_ => rfl) (RM.zero (M := (up (up M 161 14 0) 161 13 0)) (rw := rw) up_eq)
