/-! the class's calls: what is counted -/
/-- the places in use, of the first n -/
def ubs {k : Nat} (pl : Nat → Pl k) : Nat → Int
  | 0 => 0
  | n + 1 => if 0 ≤ dg (pl n) then bset (ubs pl n) n else ubs pl n
theorem lku_no {x : Int} (h1 : x ≠ 1) (h2 : x ≠ 2) : lku x 10 [(1, 2), (2, 6)] = 10 := by
  simp [lku, h1, h2]
theorem ubs_I {k : Nat} (pl : Nat → Pl k) : ∀ n : Nat, -2147483648 ≤ ubs pl n ∧ ubs pl n ≤ 2147483647
  | 0 => ⟨by show (-2147483648 : Int) ≤ 0; decide, by show (0 : Int) ≤ 2147483647; decide⟩
  | n + 1 => by
    have h := ubs_I pl n
    have h2 := bset_I (ubs pl n) n
    unfold ubs
    split
    · exact h2
    · exact h
set_option maxRecDepth 100000 in
theorem o_central {d : Nat} {M : Mem} {k : Nat} {pl : Nat → Pl k} {n : Int} {tx : Int → Int} {rc : Nat} {rw : Int → Int} {fc : Nat} {fa : Nat → Pl k} (H : CLS M k pl n tx rc rw fc fa) (i : Nat) (hi : i < 6)  : Ct 198 (d + 8) 180 [(1, 0), (0, (i : Int))] M (fun r_ M' => r_ = (0, (bz (IsCn (pl i)))) ∧ CLS M' k pl n tx rc rw fc fa ∧ (∀ a : Int, (a < 0 ∨ 160 < a) → M' a = M a)) := by
  have hK : cd 180 = k180 := rfl
  obtain ⟨P, u_, l_, z_, C, E, hpl, T, hR, hF⟩ := H
  have q1_ := qq_I k
  have p1_ := pp_I k
  have m1_ := mm_I k
  have bi_ := (hpl i hi).2
  have di_ := dg_lt9 bi_
  show Wp 198 _ 180 0 [(1, 0), (0, (i : Int)), (3, 0)] [] M _
  refine w_al hK rfl rfl ?_
  refine w_il hK rfl rfl ?_
  refine w_call [(1, 0), (0, (i : Int))] hK rfl rfl rfl rfl (Or.inr ⟨_, _, _, rfl, by decide, (by decide), rfl⟩) (c_pl i hi) ?_
  rintro _ Mq ⟨rfl, e_⟩
  subst Mq
  refine ⟨(by show (1 : Nat) ≠ 9; decide), (?_ : Wp 198 _ 180 3 [(1, 0), (0, (i : Int)), (3, 0)] [(1, (149 + 2 * (i : Int)))] M _)⟩
  refine w_as [(1, 0), (0, (i : Int)), (1, (149 + 2 * (i : Int)))] hK rfl rfl rfl ?_
  refine w_al hK rfl rfl ?_
  refine w_nonnull hK rfl (fun h5 => ?_) (fun h5 => ?_)
  · refine w_al hK rfl rfl ?_
    refine w_getr (n := 7) (v := 136) hK rfl rfl (by decide) (by decide) rfl rfl rfl rfl ?_
    refine w_al hK rfl rfl ?_
    refine w_call [(1, 136), (1, (149 + 2 * (i : Int)))] hK rfl rfl rfl rfl (Or.inr ⟨_, _, _, rfl, by decide, (by decide), rfl⟩) (c_holds C ⟨(isPP hi), (hpl i hi).1⟩) ?_
    rintro _ Mq ⟨rfl, e_⟩
    subst Mq
    have bv_ := bz_01 (IsCn (pl i))
    refine ⟨by show (0 : Nat) ≠ 9; decide, (?_ : Wp 198 _ 180 12 [(1, 0), (0, (i : Int)), (1, (149 + 2 * (i : Int)))] [(0, (bz (IsCn (pl i))))] M _)⟩
    have b1_ := bz_01 (IsCn (pl i))
    refine w_eq hK rfl (by omega) (by omega) (fun h12 => ?_) (fun h12 => ?_)
    · refine w_ic hK rfl ?_
      refine w_iret hK rfl rfl ?_
      exact ⟨(congrArg (Prod.mk 0) (by omega)), ⟨_, u_, l_, z_, C, E, hpl, T, hR, hF⟩, (fun a h_ => rfl)⟩
    · refine w_ic hK rfl ?_
      refine w_goto hK rfl ?_
      refine w_iret hK rfl rfl ?_
      exact ⟨(congrArg (Prod.mk 0) (by omega)), ⟨_, u_, l_, z_, C, E, hpl, T, hR, hF⟩, (fun a h_ => rfl)⟩
  · exfalso; omega
set_option maxRecDepth 100000 in
theorem n_central {d : Nat} {M : Mem} {k : Nat} {pl : Nat → Pl k} {n : Int} {tx : Int → Int} {rc : Nat} {rw : Int → Int} {fc : Nat} {fa : Nat → Pl k} (H : CLS M k pl n tx rc rw fc fa) (i : Int) (i1_ : -2147483648 ≤ i) (i2_ : i ≤ 2147483647) (hn : ¬ (0 ≤ i ∧ i < 6)) : Ct 198 (d + 8) 180 [(1, 0), (0, i)] M (fun r_ M' => r_ = (0, -1) ∧ M' = M) := by
  have hK : cd 180 = k180 := rfl
  obtain ⟨P, u_, l_, z_, C, E, hpl, T, hR, hF⟩ := H
  have q1_ := qq_I k
  have p1_ := pp_I k
  have m1_ := mm_I k
  show Wp 198 _ 180 0 [(1, 0), (0, i), (3, 0)] [] M _
  refine w_al hK rfl rfl ?_
  refine w_il hK rfl rfl ?_
  refine w_call [(1, 0), (0, i)] hK rfl rfl rfl rfl (Or.inr ⟨_, _, _, rfl, by decide, (by decide), rfl⟩) (c_plI i (by omega) (by omega)) ?_
  rintro _ Mq ⟨rfl, e_⟩
  subst Mq
  have pI_ := plr_I i
  refine ⟨(by show (1 : Nat) ≠ 9; decide), (?_ : Wp 198 _ 180 3 [(1, 0), (0, i), (3, 0)] [(1, (plr i))] M _)⟩
  refine w_as [(1, 0), (0, i), (1, (plr i))] hK rfl rfl rfl ?_
  refine w_al hK rfl rfl ?_
  refine w_nonnull hK rfl (fun h5 => ?_) (fun h5 => ?_)
  · exfalso; omega
  · refine w_ic hK rfl ?_
    refine w_iret hK rfl rfl ?_
    exact ⟨rfl, rfl⟩
set_option maxRecDepth 100000 in
theorem o_use {d : Nat} {M : Mem} {k : Nat} {pl : Nat → Pl k} {n : Int} {tx : Int → Int} {rc : Nat} {rw : Int → Int} {fc : Nat} {fa : Nat → Pl k} (H : CLS M k pl n tx rc rw fc fa)  : Ct 198 (d + 7) 185 [(1, 0)] M (fun r_ M' => r_ = (0, (ubs pl 6)) ∧ M' = M) := by
  have hK : cd 185 = k185 := rfl
  obtain ⟨P, u_, l_, z_, C, E, hpl, T, hR, hF⟩ := H
  have q1_ := qq_I k
  have p1_ := pp_I k
  have m1_ := mm_I k
  show Wp 198 _ 185 0 [(1, 0), (3, 0), (3, 0), (3, 0)] [] M _
  refine w_ic hK rfl ?_
  refine w_is [(1, 0), (0, 0), (3, 0), (3, 0)] hK rfl rfl rfl ?_
  refine w_ic hK rfl ?_
  refine w_is [(1, 0), (0, 0), (0, 0), (3, 0)] hK rfl rfl rfl ?_
  have lp4 : ∀ (n_ : Nat) (i : Nat) (w3 : AV), 7 - i = n_ → (i ≤ 6) → Wp 198 (d + 7) 185 4 [(1, 0), (0, ubs pl i), (0, (i : Int)), w3] [] M (fun r_ M' => r_ = (0, (ubs pl 6)) ∧ M' = M) := by
    intro n_
    induction n_ using Nat.strongRecOn with
    | _ n_ ih4 =>
    intro i w3  hm4 hi
    have uI_ := ubs_I pl i
    refine w_il hK rfl rfl ?_
    refine w_al hK rfl rfl ?_
    refine w_getr (n := 8) (v := 139) hK rfl rfl (by decide) (by decide) rfl rfl rfl rfl ?_
    refine w_len hK rfl rfl (by decide) (by decide) rfl ?_
    refine w_ge2 hK rfl (by omega) (by omega) (by omega) (by omega) (fun h8 => ?_) (fun h8 => ?_)
    · refine w_il hK rfl rfl ?_
      refine w_iret hK rfl rfl ?_
      have e : i = 6 := by omega
      subst e
      exact ⟨rfl, rfl⟩
    · refine w_al hK rfl rfl ?_
      refine w_il hK rfl rfl ?_
      refine w_call [(1, 0), (0, (i : Int))] hK rfl rfl rfl rfl (Or.inr ⟨_, _, _, rfl, by decide, (by decide), rfl⟩) (c_pl i (by omega)) ?_
      rintro _ Mq ⟨rfl, e_⟩
      subst Mq
      refine ⟨(by show (1 : Nat) ≠ 9; decide), (?_ : Wp 198 _ 185 12 [(1, 0), (0, ubs pl i), (0, (i : Int)), w3] [(1, (149 + 2 * (i : Int)))] M _)⟩
      refine w_as [(1, 0), (0, ubs pl i), (0, (i : Int)), (1, (149 + 2 * (i : Int)))] hK rfl rfl rfl ?_
      refine w_al hK rfl rfl ?_
      refine w_null hK rfl (fun h14 => ?_) (fun h14 => ?_)
      · exfalso; omega
      · refine w_al hK rfl rfl ?_
        refine w_pt hK rfl (isPP (i := i) (by omega)) ?_
        rw [show M (149 + 2 * (i : Int)) 1 = dg (pl i) from C.t ⟨(isPP (i := i) (by omega)), (hpl i (by omega)).1⟩]
        have tI_ := CS.dI C ⟨(isPP (i := i) (by omega)), (hpl i (by omega)).1⟩
        refine w_lt hK rfl (by omega) (by omega) (fun h17 => ?_) (fun h17 => ?_)
        · refine w_inc [(1, 0), (0, ubs pl i), (0, ((i : Int) + 1)), (1, (149 + 2 * (i : Int)))] hK rfl rfl rfl (by omega) (by omega) rfl ?_
          refine w_goto hK rfl ?_
          have eu_ : ubs pl (i + 1) = ubs pl i := if_neg (by omega)
          rw [← eu_]
          exact ih4 _ (by omega) (i + 1) _  rfl (by omega)
        · refine w_il hK rfl rfl ?_
          refine w_ic hK rfl ?_
          refine w_il hK rfl rfl ?_
          refine w_bin (w := i32 1 <<< (i32 (i : Int) &&& 31)) hK rfl rfl rfl ?_
          refine w_bin (w := i32 (ubs pl i) ||| i32 ((i32 1 <<< (i32 (i : Int) &&& 31)).toInt)) hK rfl rfl rfl ?_
          refine w_is [(1, 0), (0, (i32 (ubs pl i) ||| i32 ((i32 1 <<< (i32 (i : Int) &&& 31)).toInt)).toInt), (0, (i : Int)), (1, (149 + 2 * (i : Int)))] hK rfl rfl rfl ?_
          refine w_inc [(1, 0), (0, (i32 (ubs pl i) ||| i32 ((i32 1 <<< (i32 (i : Int) &&& 31)).toInt)).toInt), (0, ((i : Int) + 1)), (1, (149 + 2 * (i : Int)))] hK rfl rfl rfl (by omega) (by omega) rfl ?_
          refine w_goto hK rfl ?_
          have eu_ : ubs pl (i + 1) = (i32 (ubs pl i) ||| i32 ((i32 1 <<< (i32 (i : Int) &&& 31)).toInt)).toInt := if_pos (by omega)
          rw [← eu_]
          exact ih4 _ (by omega) (i + 1) _  rfl (by omega)
  exact lp4 _ 0 _  rfl (by omega)
set_option maxRecDepth 100000 in
theorem o_primes1 {d : Nat} {M : Mem} {k : Nat} {pl : Nat → Pl k} {n : Int} {tx : Int → Int} {rc : Nat} {rw : Int → Int} {fc : Nat} {fa : Nat → Pl k} (H : CLS M k pl n tx rc rw fc fa)  : Ct 198 (d + 8) 183 [(1, 0), (0, 1)] M (fun r_ M' => r_ = (0, (qq k : Int)) ∧ CLS M' k pl n tx rc rw fc fa ∧ (∀ a : Int, (a < 0 ∨ 160 < a) → M' a = M a)) := by
  have hK : cd 183 = k183 := rfl
  obtain ⟨P, u_, l_, z_, C, E, hpl, T, hR, hF⟩ := H
  have q1_ := qq_I k
  have p1_ := pp_I k
  have m1_ := mm_I k
  show Wp 198 _ 183 0 [(1, 0), (0, 1)] [] M _
  refine w_il hK rfl rfl ?_
  refine w_look hK rfl rfl (by decide) (by decide) ?_
  show Wp 198 _ 183 2 [(1, 0), (0, 1)] [] M _
  refine w_al hK rfl rfl ?_
  refine w_getr (n := 0) (v := 1) hK rfl rfl (by decide) (by decide) rfl rfl rfl rfl ?_
  refine w_geti (n := 1) (m := 1) hK rfl rfl (by decide) (by decide) rfl rfl rfl rfl ?_
  rw [show M 1 1 = (qq k : Int) from C.F.q]
  refine w_iret hK rfl rfl ?_
  exact ⟨rfl, ⟨_, u_, l_, z_, C, E, hpl, T, hR, hF⟩, (fun a h_ => rfl)⟩
set_option maxRecDepth 100000 in
theorem o_primes2 {d : Nat} {M : Mem} {k : Nat} {pl : Nat → Pl k} {n : Int} {tx : Int → Int} {rc : Nat} {rw : Int → Int} {fc : Nat} {fa : Nat → Pl k} (H : CLS M k pl n tx rc rw fc fa)  : Ct 198 (d + 8) 183 [(1, 0), (0, 2)] M (fun r_ M' => r_ = (0, (qwr k (qq k))) ∧ CLS M' k pl n tx rc rw fc fa ∧ (∀ a : Int, (a < 0 ∨ 160 < a) → M' a = M a)) := by
  have hK : cd 183 = k183 := rfl
  obtain ⟨P, u_, l_, z_, C, E, hpl, T, hR, hF⟩ := H
  have q1_ := qq_I k
  have p1_ := pp_I k
  have m1_ := mm_I k
  show Wp 198 _ 183 0 [(1, 0), (0, 2)] [] M _
  refine w_il hK rfl rfl ?_
  refine w_look hK rfl rfl (by decide) (by decide) ?_
  show Wp 198 _ 183 6 [(1, 0), (0, 2)] [] M _
  refine w_al hK rfl rfl ?_
  refine w_getr (n := 3) (v := 45) hK rfl rfl (by decide) (by decide) rfl rfl rfl rfl ?_
  refine w_call [(1, 45)] hK rfl rfl rfl rfl (Or.inr ⟨_, _, _, rfl, by decide, (by decide), rfl⟩) (c_quad C) ?_
  rintro _ Mq ⟨rfl, e_⟩
  subst Mq
  refine ⟨by show (0 : Nat) ≠ 9; decide, (?_ : Wp 198 _ 183 9 [(1, 0), (0, 2)] [(0, (qwr k (qq k)))] M _)⟩
  refine w_iret hK rfl rfl ?_
  exact ⟨rfl, ⟨_, u_, l_, z_, C, E, hpl, T, hR, hF⟩, (fun a h_ => rfl)⟩
set_option maxRecDepth 100000 in
theorem n_primes {d : Nat} {M : Mem} {k : Nat} {pl : Nat → Pl k} {n : Int} {tx : Int → Int} {rc : Nat} {rw : Int → Int} {fc : Nat} {fa : Nat → Pl k} (H : CLS M k pl n tx rc rw fc fa) (x : Int) (x1_ : -2147483648 ≤ x) (x2_ : x ≤ 2147483647) (x10 : x ≠ 1) (x20 : x ≠ 2) : Ct 198 (d + 8) 183 [(1, 0), (0, x)] M (fun r_ M' => r_ = (0, -1) ∧ M' = M) := by
  have hK : cd 183 = k183 := rfl
  obtain ⟨P, u_, l_, z_, C, E, hpl, T, hR, hF⟩ := H
  have q1_ := qq_I k
  have p1_ := pp_I k
  have m1_ := mm_I k
  show Wp 198 _ 183 0 [(1, 0), (0, x)] [] M _
  refine w_il hK rfl rfl ?_
  refine w_look hK rfl rfl (by omega) (by omega) ?_
  rw [show lku x 10 [(1, 2), (2, 6)] = 10 from lku_no x10 x20]
  show Wp 198 _ 183 10 [(1, 0), (0, x)] [] M _
  refine w_ic hK rfl ?_
  refine w_iret hK rfl rfl ?_
  exact ⟨rfl, rfl⟩
set_option maxRecDepth 100000 in
theorem o_count0 {d : Nat} {M : Mem} {k : Nat} {pl : Nat → Pl k} {n : Int} {tx : Int → Int} {rc : Nat} {rw : Int → Int} {fc : Nat} {fa : Nat → Pl k} (H : CLS M k pl n tx rc rw fc fa)  : Ct 198 (d + 8) 184 [(1, 0), (0, 0)] M (fun r_ M' => r_ = (0, (k : Int)) ∧ CLS M' k pl n tx rc rw fc fa ∧ (∀ a : Int, (a < 0 ∨ 160 < a) → M' a = M a)) := by
  have hK : cd 184 = k184 := rfl
  obtain ⟨P, u_, l_, z_, C, E, hpl, T, hR, hF⟩ := H
  have q1_ := qq_I k
  have p1_ := pp_I k
  have m1_ := mm_I k
  have tn_ := T.1.2
  show Wp 198 _ 184 0 [(1, 0), (0, 0)] [] M _
  refine w_il hK rfl rfl ?_
  refine w_tab hK rfl rfl (by decide) (by decide) (fun h_ => absurd h_ (by decide)) (fun _ _ => ?_)
  show Wp 198 _ 184 2 [(1, 0), (0, 0)] [] M _
  refine w_al hK rfl rfl ?_
  refine w_getr (n := 0) (v := 1) hK rfl rfl (by decide) (by decide) rfl rfl rfl rfl ?_
  refine w_geti (n := 0) (m := 0) hK rfl rfl (by decide) (by decide) rfl rfl rfl rfl ?_
  rw [show M 1 0 = (k : Int) from C.F.2.1.1]
  refine w_iret hK rfl rfl ?_
  exact ⟨rfl, ⟨_, u_, l_, z_, C, E, hpl, T, hR, hF⟩, (fun a h_ => rfl)⟩
set_option maxRecDepth 100000 in
theorem o_count1 {d : Nat} {M : Mem} {k : Nat} {pl : Nat → Pl k} {n : Int} {tx : Int → Int} {rc : Nat} {rw : Int → Int} {fc : Nat} {fa : Nat → Pl k} (H : CLS M k pl n tx rc rw fc fa)  : Ct 198 (d + 8) 184 [(1, 0), (0, 1)] M (fun r_ M' => r_ = (0, (qq k : Int)) ∧ CLS M' k pl n tx rc rw fc fa ∧ (∀ a : Int, (a < 0 ∨ 160 < a) → M' a = M a)) := by
  have hK : cd 184 = k184 := rfl
  obtain ⟨P, u_, l_, z_, C, E, hpl, T, hR, hF⟩ := H
  have q1_ := qq_I k
  have p1_ := pp_I k
  have m1_ := mm_I k
  have tn_ := T.1.2
  show Wp 198 _ 184 0 [(1, 0), (0, 1)] [] M _
  refine w_il hK rfl rfl ?_
  refine w_tab hK rfl rfl (by decide) (by decide) (fun h_ => absurd h_ (by decide)) (fun _ _ => ?_)
  show Wp 198 _ 184 6 [(1, 0), (0, 1)] [] M _
  refine w_al hK rfl rfl ?_
  refine w_getr (n := 0) (v := 1) hK rfl rfl (by decide) (by decide) rfl rfl rfl rfl ?_
  refine w_geti (n := 1) (m := 1) hK rfl rfl (by decide) (by decide) rfl rfl rfl rfl ?_
  rw [show M 1 1 = (qq k : Int) from C.F.q]
  refine w_iret hK rfl rfl ?_
  exact ⟨rfl, ⟨_, u_, l_, z_, C, E, hpl, T, hR, hF⟩, (fun a h_ => rfl)⟩
set_option maxRecDepth 100000 in
theorem o_count2 {d : Nat} {M : Mem} {k : Nat} {pl : Nat → Pl k} {n : Int} {tx : Int → Int} {rc : Nat} {rw : Int → Int} {fc : Nat} {fa : Nat → Pl k} (H : CLS M k pl n tx rc rw fc fa)  : Ct 198 (d + 8) 184 [(1, 0), (0, 2)] M (fun r_ M' => r_ = (0, (pp k : Int)) ∧ CLS M' k pl n tx rc rw fc fa ∧ (∀ a : Int, (a < 0 ∨ 160 < a) → M' a = M a)) := by
  have hK : cd 184 = k184 := rfl
  obtain ⟨P, u_, l_, z_, C, E, hpl, T, hR, hF⟩ := H
  have q1_ := qq_I k
  have p1_ := pp_I k
  have m1_ := mm_I k
  have tn_ := T.1.2
  show Wp 198 _ 184 0 [(1, 0), (0, 2)] [] M _
  refine w_il hK rfl rfl ?_
  refine w_tab hK rfl rfl (by decide) (by decide) (fun h_ => absurd h_ (by decide)) (fun _ _ => ?_)
  show Wp 198 _ 184 10 [(1, 0), (0, 2)] [] M _
  refine w_al hK rfl rfl ?_
  refine w_getr (n := 0) (v := 1) hK rfl rfl (by decide) (by decide) rfl rfl rfl rfl ?_
  refine w_geti (n := 2) (m := 2) hK rfl rfl (by decide) (by decide) rfl rfl rfl rfl ?_
  rw [show M 1 2 = (pp k : Int) from C.F.p]
  refine w_iret hK rfl rfl ?_
  exact ⟨rfl, ⟨_, u_, l_, z_, C, E, hpl, T, hR, hF⟩, (fun a h_ => rfl)⟩
set_option maxRecDepth 100000 in
theorem o_count3 {d : Nat} {M : Mem} {k : Nat} {pl : Nat → Pl k} {n : Int} {tx : Int → Int} {rc : Nat} {rw : Int → Int} {fc : Nat} {fa : Nat → Pl k} (H : CLS M k pl n tx rc rw fc fa)  : Ct 198 (d + 8) 184 [(1, 0), (0, 3)] M (fun r_ M' => r_ = (0, (mm k : Int)) ∧ CLS M' k pl n tx rc rw fc fa ∧ (∀ a : Int, (a < 0 ∨ 160 < a) → M' a = M a)) := by
  have hK : cd 184 = k184 := rfl
  obtain ⟨P, u_, l_, z_, C, E, hpl, T, hR, hF⟩ := H
  have q1_ := qq_I k
  have p1_ := pp_I k
  have m1_ := mm_I k
  have tn_ := T.1.2
  show Wp 198 _ 184 0 [(1, 0), (0, 3)] [] M _
  refine w_il hK rfl rfl ?_
  refine w_tab hK rfl rfl (by decide) (by decide) (fun h_ => absurd h_ (by decide)) (fun _ _ => ?_)
  show Wp 198 _ 184 14 [(1, 0), (0, 3)] [] M _
  refine w_al hK rfl rfl ?_
  refine w_getr (n := 0) (v := 1) hK rfl rfl (by decide) (by decide) rfl rfl rfl rfl ?_
  refine w_geti (n := 3) (m := 3) hK rfl rfl (by decide) (by decide) rfl rfl rfl rfl ?_
  rw [show M 1 3 = (mm k : Int) from C.F.m]
  refine w_iret hK rfl rfl ?_
  exact ⟨rfl, ⟨_, u_, l_, z_, C, E, hpl, T, hR, hF⟩, (fun a h_ => rfl)⟩
set_option maxRecDepth 100000 in
theorem o_count4 {d : Nat} {M : Mem} {k : Nat} {pl : Nat → Pl k} {n : Int} {tx : Int → Int} {rc : Nat} {rw : Int → Int} {fc : Nat} {fa : Nat → Pl k} (H : CLS M k pl n tx rc rw fc fa)  : Ct 198 (d + 8) 184 [(1, 0), (0, 4)] M (fun r_ M' => r_ = (0, (ubs pl 6)) ∧ CLS M' k pl n tx rc rw fc fa ∧ (∀ a : Int, (a < 0 ∨ 160 < a) → M' a = M a)) := by
  have hK : cd 184 = k184 := rfl
  obtain ⟨P, u_, l_, z_, C, E, hpl, T, hR, hF⟩ := H
  have q1_ := qq_I k
  have p1_ := pp_I k
  have m1_ := mm_I k
  have tn_ := T.1.2
  show Wp 198 _ 184 0 [(1, 0), (0, 4)] [] M _
  refine w_il hK rfl rfl ?_
  refine w_tab hK rfl rfl (by decide) (by decide) (fun h_ => absurd h_ (by decide)) (fun _ _ => ?_)
  show Wp 198 _ 184 18 [(1, 0), (0, 4)] [] M _
  refine w_al hK rfl rfl ?_
  refine w_call [(1, 0)] hK rfl rfl rfl rfl (Or.inr ⟨_, _, _, rfl, by decide, (by decide), rfl⟩) (o_use ⟨P, u_, l_, z_, C, E, hpl, T, hR, hF⟩) ?_
  rintro _ Mq ⟨rfl, e_⟩
  subst Mq
  refine ⟨(by show (0 : Nat) ≠ 9; decide), (?_ : Wp 198 _ 184 20 [(1, 0), (0, 4)] [(0, (ubs pl 6))] M _)⟩
  refine w_iret hK rfl rfl ?_
  exact ⟨rfl, ⟨_, u_, l_, z_, C, E, hpl, T, hR, hF⟩, (fun a h_ => rfl)⟩
set_option maxRecDepth 100000 in
theorem o_count5 {d : Nat} {M : Mem} {k : Nat} {pl : Nat → Pl k} {n : Int} {tx : Int → Int} {rc : Nat} {rw : Int → Int} {fc : Nat} {fa : Nat → Pl k} (H : CLS M k pl n tx rc rw fc fa)  : Ct 198 (d + 8) 184 [(1, 0), (0, 5)] M (fun r_ M' => r_ = (0, (fc : Int)) ∧ CLS M' k pl n tx rc rw fc fa ∧ (∀ a : Int, (a < 0 ∨ 160 < a) → M' a = M a)) := by
  have hK : cd 184 = k184 := rfl
  obtain ⟨P, u_, l_, z_, C, E, hpl, T, hR, hF⟩ := H
  have q1_ := qq_I k
  have p1_ := pp_I k
  have m1_ := mm_I k
  have tn_ := T.1.2
  show Wp 198 _ 184 0 [(1, 0), (0, 5)] [] M _
  refine w_il hK rfl rfl ?_
  refine w_tab hK rfl rfl (by decide) (by decide) (fun h_ => absurd h_ (by decide)) (fun _ _ => ?_)
  show Wp 198 _ 184 21 [(1, 0), (0, 5)] [] M _
  refine w_al hK rfl rfl ?_
  refine w_getr (n := 4) (v := 52) hK rfl rfl (by decide) (by decide) rfl rfl rfl rfl ?_
  refine w_geti (n := 9) (m := 9) hK rfl rfl (by decide) (by decide) rfl rfl rfl rfl ?_
  rw [show M 52 9 = (fc : Int) from hF.1]
  refine w_iret hK rfl rfl ?_
  exact ⟨rfl, ⟨_, u_, l_, z_, C, E, hpl, T, hR, hF⟩, (fun a h_ => rfl)⟩
set_option maxRecDepth 100000 in
theorem o_count6 {d : Nat} {M : Mem} {k : Nat} {pl : Nat → Pl k} {n : Int} {tx : Int → Int} {rc : Nat} {rw : Int → Int} {fc : Nat} {fa : Nat → Pl k} (H : CLS M k pl n tx rc rw fc fa)  : Ct 198 (d + 8) 184 [(1, 0), (0, 6)] M (fun r_ M' => r_ = (0, (rc : Int)) ∧ CLS M' k pl n tx rc rw fc fa ∧ (∀ a : Int, (a < 0 ∨ 160 < a) → M' a = M a)) := by
  have hK : cd 184 = k184 := rfl
  obtain ⟨P, u_, l_, z_, C, E, hpl, T, hR, hF⟩ := H
  have q1_ := qq_I k
  have p1_ := pp_I k
  have m1_ := mm_I k
  have tn_ := T.1.2
  show Wp 198 _ 184 0 [(1, 0), (0, 6)] [] M _
  refine w_il hK rfl rfl ?_
  refine w_tab hK rfl rfl (by decide) (by decide) (fun h_ => absurd h_ (by decide)) (fun _ _ => ?_)
  show Wp 198 _ 184 25 [(1, 0), (0, 6)] [] M _
  refine w_al hK rfl rfl ?_
  refine w_geti (n := 11) (m := 11) hK rfl rfl (by decide) (by decide) rfl rfl rfl rfl ?_
  rw [show M 0 11 = (rc : Int) from hR.1]
  refine w_iret hK rfl rfl ?_
  exact ⟨rfl, ⟨_, u_, l_, z_, C, E, hpl, T, hR, hF⟩, (fun a h_ => rfl)⟩
set_option maxRecDepth 100000 in
theorem o_count7 {d : Nat} {M : Mem} {k : Nat} {pl : Nat → Pl k} {n : Int} {tx : Int → Int} {rc : Nat} {rw : Int → Int} {fc : Nat} {fa : Nat → Pl k} (H : CLS M k pl n tx rc rw fc fa)  : Ct 198 (d + 8) 184 [(1, 0), (0, 7)] M (fun r_ M' => r_ = (0, n) ∧ CLS M' k pl n tx rc rw fc fa ∧ (∀ a : Int, (a < 0 ∨ 160 < a) → M' a = M a)) := by
  have hK : cd 184 = k184 := rfl
  obtain ⟨P, u_, l_, z_, C, E, hpl, T, hR, hF⟩ := H
  have q1_ := qq_I k
  have p1_ := pp_I k
  have m1_ := mm_I k
  have tn_ := T.1.2
  show Wp 198 _ 184 0 [(1, 0), (0, 7)] [] M _
  refine w_il hK rfl rfl ?_
  refine w_tab hK rfl rfl (by decide) (by decide) (fun h_ => absurd h_ (by decide)) (fun _ _ => ?_)
  show Wp 198 _ 184 28 [(1, 0), (0, 7)] [] M _
  refine w_al hK rfl rfl ?_
  refine w_getr (n := 9) (v := 140) hK rfl rfl (by decide) (by decide) rfl rfl rfl rfl ?_
  refine w_geti (n := 3) (m := 3) hK rfl rfl (by decide) (by decide) rfl rfl rfl rfl ?_
  rw [show M 140 3 = n from T.1.1]
  refine w_iret hK rfl rfl ?_
  exact ⟨rfl, ⟨_, u_, l_, z_, C, E, hpl, T, hR, hF⟩, (fun a h_ => rfl)⟩
set_option maxRecDepth 100000 in
theorem n_count {d : Nat} {M : Mem} {k : Nat} {pl : Nat → Pl k} {n : Int} {tx : Int → Int} {rc : Nat} {rw : Int → Int} {fc : Nat} {fa : Nat → Pl k} (H : CLS M k pl n tx rc rw fc fa) (x : Int) (x1_ : -2147483648 ≤ x) (x2_ : x ≤ 2147483647) (hn : x < 0 ∨ 7 < x) : Ct 198 (d + 8) 184 [(1, 0), (0, x)] M (fun r_ M' => r_ = (0, -1) ∧ M' = M) := by
  have hK : cd 184 = k184 := rfl
  obtain ⟨P, u_, l_, z_, C, E, hpl, T, hR, hF⟩ := H
  have q1_ := qq_I k
  have p1_ := pp_I k
  have m1_ := mm_I k
  show Wp 198 _ 184 0 [(1, 0), (0, x)] [] M _
  refine w_il hK rfl rfl ?_
  refine w_tab hK rfl rfl (by omega) (by omega) (fun _ => ?_) (fun h_ h2_ => absurd h_ (by omega))
  show Wp 198 _ 184 32 [(1, 0), (0, x)] [] M _
  refine w_ic hK rfl ?_
  refine w_iret hK rfl rfl ?_
  exact ⟨rfl, rfl⟩
