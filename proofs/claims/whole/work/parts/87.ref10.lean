/-! the reference's calls: reaches, sets, cofactors */ -/
/-- t ahead -/
def shf {k : Nat} (f : Pl k) : Pl k := mlp (mono e1 1) f
/-- from above: of s above i, of h up to there -/
def mxd {k : Nat} (s h : Pl k) (i : Nat) : Pl k := fun l => if i < l then s l else h l
theorem mxd_up {k : Nat} {s h : Pl k} {i : Nat} {v : El k} (hv : v = s i) : up1 (mxd s h i) i v = mxd s h (i - 1) ∨ i = 0 := by
  by_cases h0 : i = 0
  · exact Or.inr h0
  · refine Or.inl ?_
    funext l
    unfold up1 mxd
    by_cases e : l = i
    · rw [if_pos e, if_pos (by omega), hv, e]
    · rw [if_neg e]
      by_cases e2 : i < l
      · rw [if_pos e2, if_pos (by omega)]
      · rw [if_neg e2, if_neg (by omega)]
theorem mxd_dn {k : Nat} {s h : Pl k} {j : Nat} {v : El k} (hv : v = s (j + 1)) : up1 (mxd s h (j + 1)) (j + 1) v = mxd s h j := by
  rcases mxd_up (s := s) (h := h) (i := j + 1) hv with q | q
  · exact q
  · omega
theorem mxd_lo {k : Nat} {s h : Pl k} {i j : Nat} (hj : j ≤ i) : mxd s h i j = h j := by unfold mxd; rw [if_neg (by omega)]
theorem shf_at {k : Nat} (f : Pl k) (j : Nat) : shf f (j + 1) = sg 1 (f j) := by
  show mlp (mono e1 1) f (j + 1) = _
  rw [tx_at, if_pos (by omega)]
  rfl
theorem mxd_hi {k : Nat} {s h : Pl k} (hs : Bd s 48) (hh : Bd h 48) : mxd s h 47 = h := by
  funext l
  unfold mxd
  by_cases e : 47 < l
  · rw [if_pos e, hs l (by omega), hh l (by omega)]
  · rw [if_neg e]
theorem mxd_0 {k : Nat} {f : Pl k} : up1 (mxd (shf f) f 0) 0 z0 = shf f := by
  funext l
  unfold up1 mxd
  by_cases e : l = 0
  · rw [if_pos e, e]
    show z0 = mlp (mono e1 1) f 0
    rw [tx_at, if_neg (by omega)]
  · rw [if_neg e, if_pos (by omega)]
theorem mxd_j {k : Nat} {f : Pl k} {j j0 : Nat} (e : j = j0 + 1) : up1 (mxd (shf f) f j) j (sg 1 (cf (mxd (shf f) f j) ((j : Int) - 1))) = mxd (shf f) f j0 := by
  subst e
  refine mxd_dn ?_
  rw [shf_at, show ((j0 + 1 : Nat) : Int) - 1 = (j0 : Int) by omega, cf_nat, mxd_lo (by omega)]
theorem mxd_z {k : Nat} {f : Pl k} {j : Nat} (e : j = 0) : up1 (mxd (shf f) f j) 0 z0 = shf f := by
  subst e
  exact mxd_0
theorem shf_bd {k : Nat} {f : Pl k} {n : Nat} (h : Bd f n) : Bd (shf f) (n + 1) := fun j hj => by
  cases j with
  | zero => omega
  | succ j => rw [shf_at, h j (by omega), sg_z]
theorem rchN_no {k : Nat} {y : Pl k} {n : Nat} (h : rchN y n = 0) (c : ¬ stN y (n + 1) = stN y 0) : rchN y (n + 1) = 0 := by
  show (if rchN y n ≠ 0 then rchN y n else bz (stN y (n + 1) = stN y 0) * (n + 1)) = 0
  rw [if_neg (by rw [h]; exact fun q => q rfl), bz_neg c, Int.zero_mul]
theorem rchN_yes {k : Nat} {y : Pl k} {n : Nat} (h : rchN y n = 0) (c : stN y (n + 1) = stN y 0) : rchN y (n + 1) = (n : Int) + 1 := by
  show (if rchN y n ≠ 0 then rchN y n else bz (stN y (n + 1) = stN y 0) * (n + 1)) = (n : Int) + 1
  rw [if_neg (by rw [h]; exact fun q => q rfl), bz_pos c, Int.one_mul]
set_option maxRecDepth 100000 in
theorem ro_reaches {d : Nat} {M : Mem} {k : Nat} {pl : Nat → Pl k} {n : Int} {tx : Int → Int} {rc : Nat} {rw : Int → Int} {fc : Nat} {fa : Nat → Pl k} (H : RFS M k pl n tx rc rw fc fa) (i : Nat) (hi : i < 6) (hi0 : 0 ≤ dg (pl i)) : Ct 198 (d + 8) 275 [(1, 161), (0, (i : Int))] M (fun r_ M' => r_ = (0, (if 0 < rchN (pl i) 300 then rchN (pl i) 300 else -3)) ∧ RFS M' k pl n tx rc rw fc fa ∧ (∀ a : Int, (a < 161 ∨ 197 < a) → M' a = M a)) := by
  have hK : cd 275 = k275 := rfl
  obtain ⟨R, C, hpl, T, hR, hF⟩ := H
  have q1_ := qq_I k
  have p1_ := pp_I k
  have m1_ := mm_I k
  have bi_ := (hpl i hi).2
  have di_ := dg_lt9 bi_
  have isd_ := isdg_dg (bi_.mono (show 9 ≤ 64 by decide)) hi0
  show Wp 198 _ 275 0 [(1, 161), (0, (i : Int)), (3, 0), (3, 0)] [] M _
  refine w_al hK rfl rfl ?_
  refine w_ic hK rfl ?_
  refine w_puti (n := 14) (m := 14) hK rfl rfl (by decide) (by decide) rfl rfl rfl rfl ?_
  refine w_il hK rfl rfl ?_
  refine w_call [(0, (i : Int))] hK rfl rfl rfl rfl (Or.inl rfl) (r_place (i : Int) (by omega) (by omega)) ?_
  rintro _ Mq ⟨rfl, e_⟩
  subst Mq
  have pI_453 := ite01 (0 ≤ (i : Int) ∧ (i : Int) < 6)
  refine ⟨by show (0 : Nat) ≠ 9; decide, (?_ : Wp 198 _ 275 5 [(1, 161), (0, (i : Int)), (3, 0), (3, 0)] [(0, (if 0 ≤ (i : Int) ∧ (i : Int) < 6 then 1 else 0))] (up M 161 14 0) _)⟩
  refine w_ne hK rfl (by omega) (by omega) (fun h5 => ?_) (fun h5 => ?_)
  · refine w_al hK rfl rfl ?_
    refine w_il hK rfl rfl ?_
    refine w_al hK rfl rfl ?_
    refine w_getr (n := 26) (v := 180) hK rfl rfl (by decide) (by decide) rfl rfl rfl rfl ?_
    refine w_call [(1, 161), (0, (i : Int)), (1, 180)] hK rfl rfl rfl rfl (Or.inr ⟨_, _, _, rfl, by decide, (by decide), rfl⟩) (r_load (RS.cg C (fun j_ h1_ h2_ => up_ne2 (by omega)) (fun a_ h1_ h2_ => up_row h1_)) (PM.keep hpl (up_row (by decide))) i hi (isR_of (p := 180) rfl)) ?_
    rintro _ V454 ⟨P454, rfl, C454, S454, F454, f454_0⟩
    refine ⟨by decide, (?_ : Wp 198 _ 275 13 [(1, 161), (0, (i : Int)), (3, 0), (3, 0)] [] V454 _)⟩
    refine w_al hK rfl rfl ?_
    refine w_getr (n := 26) (v := 180) hK rfl rfl (by decide) (by decide) rfl rfl rfl rfl ?_
    have dI_ : -1 ≤ dg (pl i) ∧ dg (pl i) ≤ 47 := C454.dI ⟨(isR_of (p := 180) rfl), f454_0⟩
    refine w_call [(1, 180)] hK rfl rfl rfl rfl (Or.inl rfl) (r_deg C454 ⟨(isR_of (p := 180) rfl), f454_0⟩) ?_
    rintro _ Mq ⟨rfl, e_⟩
    subst Mq
    refine ⟨by show (0 : Nat) ≠ 9; decide, (?_ : Wp 198 _ 275 16 [(1, 161), (0, (i : Int)), (3, 0), (3, 0)] [(0, (dg (pl i)))] V454 _)⟩
    refine w_ic hK rfl ?_
    refine w_ne2 hK rfl (by omega) (by omega) (by omega) (by omega) (fun h17 => ?_) (fun h17 => ?_)
    · refine w_al hK rfl rfl ?_
      refine w_getr (n := 28) (v := 182) hK rfl rfl (by decide) (by decide) rfl rfl rfl rfl ?_
      refine w_call [(1, 182)] hK rfl rfl rfl rfl (Or.inl rfl) (r_clear C454 (isR_of (p := 182) rfl)) ?_
      rintro _ V455 ⟨P455, rfl, C455, S455, F455, f455_0⟩
      refine ⟨by decide, (?_ : Wp 198 _ 275 23 [(1, 161), (0, (i : Int)), (3, 0), (3, 0)] [] V455 _)⟩
      refine w_al hK rfl rfl ?_
      refine w_getr (n := 28) (v := 182) hK rfl rfl (by decide) (by decide) rfl rfl rfl rfl ?_
      refine w_ic hK rfl ?_
      refine w_ic hK rfl ?_
      refine w_iat hK rfl rfl (by decide) (by decide) (by omega) (by omega) ?_
      refine w_al hK rfl rfl ?_
      refine w_al hK rfl rfl ?_
      refine w_getr (n := 28) (v := 182) hK rfl rfl (by decide) (by decide) rfl rfl rfl rfl ?_
      refine w_al hK rfl rfl ?_
      refine w_getr (n := 26) (v := 180) hK rfl rfl (by decide) (by decide) rfl rfl rfl rfl ?_
      refine w_ic hK rfl ?_
      refine w_call [(1, 161), (1, 182), (1, 180), (0, 0)] hK rfl rfl rfl rfl (Or.inr ⟨_, _, _, rfl, by decide, (by decide), rfl⟩) (r_div (RS.up C455 ⟨(isR_of (p := 182) rfl), f455_0⟩ (j := 0) (by omega) (by omega) (e := e1) el1.symm) ⟨(isR_of (p := 182) rfl), pu_eq⟩ ⟨(isR_of (p := 180) rfl), ((pu_ne (P := P455) (f := up1 pz 0 e1) (show 180 ≠ 182 by omega)).trans ((F455 180 (by omega)).trans f454_0))⟩ 0 (by omega) (by omega) (by omega) (by omega) (one_bd.mono (by decide)) (bi_.mono (by decide))) ?_
      rintro _ V456 ⟨P456, rfl, C456, S456, F456, f456_0, f456_1⟩
      refine ⟨by decide, (?_ : Wp 198 _ 275 35 [(1, 161), (0, (i : Int)), (3, 0), (3, 0)] [] V456 _)⟩
      refine w_al hK rfl rfl ?_
      refine w_getr (n := 19) (v := 173) hK rfl rfl (by decide) (by decide) rfl rfl rfl rfl ?_
      refine w_al hK rfl rfl ?_
      refine w_getr (n := 27) (v := 181) hK rfl rfl (by decide) (by decide) rfl rfl rfl rfl ?_
      refine w_call [(1, 173), (1, 181)] hK rfl rfl rfl rfl (Or.inl rfl) (r_copy C456 ⟨(isR_of (p := 173) rfl), f456_0⟩ (isR_of (p := 181) rfl) (by omega)) ?_
      rintro _ V457 ⟨P457, rfl, C457, S457, F457, f457_0⟩
      refine ⟨by decide, (?_ : Wp 198 _ 275 40 [(1, 161), (0, (i : Int)), (3, 0), (3, 0)] [] V457 _)⟩
      refine w_al hK rfl rfl ?_
      refine w_getr (n := 19) (v := 173) hK rfl rfl (by decide) (by decide) rfl rfl rfl rfl ?_
      refine w_al hK rfl rfl ?_
      refine w_getr (n := 28) (v := 182) hK rfl rfl (by decide) (by decide) rfl rfl rfl rfl ?_
      refine w_call [(1, 173), (1, 182)] hK rfl rfl rfl rfl (Or.inl rfl) (r_copy C457 ⟨(isR_of (p := 173) rfl), ((F457 173 (by omega)).trans f456_0)⟩ (isR_of (p := 182) rfl) (by omega)) ?_
      rintro _ V458 ⟨P458, rfl, C458, S458, F458, f458_0⟩
      refine ⟨by decide, (?_ : Wp 198 _ 275 45 [(1, 161), (0, (i : Int)), (3, 0), (3, 0)] [] V458 _)⟩
      refine w_ic hK rfl ?_
      refine w_is [(1, 161), (0, (i : Int)), (0, 1), (3, 0)] hK rfl rfl rfl ?_
      have lp47 : ∀ (n_ : Nat) (n0 : Nat) (w3 : AV) (R1 : Int → Option (Pl k)) (N47 : Mem), 301 - n0 = n_ → (n0 ≤ 300) → (rchN (pl i) n0 = 0) → (RS N47 k R1) → (R1 180 = some (pl i)) → (R1 181 = some (stN (pl i) 0)) → (R1 182 = some (stN (pl i) n0)) → ((∀ p : Int, p ≠ 170 → p ≠ 171 → p ≠ 172 → p ≠ 173 → p ≠ 174 → p ≠ 181 → p ≠ 182 → R1 p = P458 p)) → ((∀ a : Int, (∀ p : Int, isR p → a ≠ p) → N47 a = V458 a)) → Wp 198 (d + 8) 275 47 [(1, 161), (0, (i : Int)), (0, ((n0 + 1 : Nat) : Int)), w3] [] N47 (fun r_ M' => r_ = (0, (if 0 < rchN (pl i) 300 then rchN (pl i) 300 else -3)) ∧ RFS M' k pl n tx rc rw fc fa ∧ (∀ a : Int, (a < 161 ∨ 197 < a) → M' a = M a)) := by
        intro n_
        induction n_ using Nat.strongRecOn with
        | _ n_ ih47 =>
        intro n0 w3 R1 N47 hm47 hn_ hr_ hCR1 h0_ h1_ h2_ hGR1 hSN47
        have bS_ : Bd (stN (pl i) n0) 9 := (stN_bd (y := pl i) isd_ n0).mono (by omega)
        have bS1_ := shf_bd bS_
        refine w_il hK rfl rfl ?_
        refine w_ic hK rfl ?_
        refine w_gt2 hK rfl (by omega) (by omega) (by omega) (by omega) (fun h49 => ?_) (fun h49 => ?_)
        · refine w_ic hK rfl ?_
          refine w_iret hK rfl rfl ?_
          have e_ : n0 = 300 := by omega
          rw [e_] at hr_
          rw [if_neg (by rw [hr_]; decide)]
          exact ⟨rfl, ⟨_, hCR1, (PM.keep hpl ((hSN47 167 (notR rfl)).trans ((S458 167 (notR rfl)).trans ((S457 167 (notR rfl)).trans ((S456 167 (notR rfl)).trans ((up_row (by decide)).trans ((S455 167 (notR rfl)).trans ((S454 167 (notR rfl)).trans (up_row (by decide)))))))))), (TMs.keep T ((congrFun (hSN47 161 (notR rfl)) 11).trans ((congrFun (S458 161 (notR rfl)) 11).trans ((congrFun (S457 161 (notR rfl)) 11).trans ((congrFun (S456 161 (notR rfl)) 11).trans ((congrFun (up_row (by decide)) 11).trans ((congrFun (S455 161 (notR rfl)) 11).trans ((congrFun (S454 161 (notR rfl)) 11).trans (up_ne2 (by decide))))))))) ((hSN47 168 (notR rfl)).trans ((S458 168 (notR rfl)).trans ((S457 168 (notR rfl)).trans ((S456 168 (notR rfl)).trans ((up_row (by decide)).trans ((S455 168 (notR rfl)).trans ((S454 168 (notR rfl)).trans (up_row (by decide)))))))))), (RM.keep hR ((congrFun (hSN47 161 (notR rfl)) 13).trans ((congrFun (S458 161 (notR rfl)) 13).trans ((congrFun (S457 161 (notR rfl)) 13).trans ((congrFun (S456 161 (notR rfl)) 13).trans ((congrFun (up_row (by decide)) 13).trans ((congrFun (S455 161 (notR rfl)) 13).trans ((congrFun (S454 161 (notR rfl)) 13).trans (up_ne2 (by decide))))))))) ((hSN47 169 (notR rfl)).trans ((S458 169 (notR rfl)).trans ((S457 169 (notR rfl)).trans ((S456 169 (notR rfl)).trans ((up_row (by decide)).trans ((S455 169 (notR rfl)).trans ((S454 169 (notR rfl)).trans (up_row (by decide)))))))))), (FM.keep hF ((congrFun (hSN47 161 (notR rfl)) 15).trans ((congrFun (S458 161 (notR rfl)) 15).trans ((congrFun (S457 161 (notR rfl)) 15).trans ((congrFun (S456 161 (notR rfl)) 15).trans ((congrFun (up_row (by decide)) 15).trans ((congrFun (S455 161 (notR rfl)) 15).trans ((congrFun (S454 161 (notR rfl)) 15).trans (up_ne2 (by decide))))))))) ((hSN47 189 (notR rfl)).trans ((S458 189 (notR rfl)).trans ((S457 189 (notR rfl)).trans ((S456 189 (notR rfl)).trans ((up_row (by decide)).trans ((S455 189 (notR rfl)).trans ((S454 189 (notR rfl)).trans (up_row (by decide))))))))) ((hSN47 190 (notR rfl)).trans ((S458 190 (notR rfl)).trans ((S457 190 (notR rfl)).trans ((S456 190 (notR rfl)).trans ((up_row (by decide)).trans ((S455 190 (notR rfl)).trans ((S454 190 (notR rfl)).trans (up_row (by decide))))))))))⟩, (fun a h_ => ((hSN47 a (npR h_)).trans ((S458 a (npR h_)).trans ((S457 a (npR h_)).trans ((S456 a (npR h_)).trans ((up_row (by omega)).trans ((S455 a (npR h_)).trans ((S454 a (npR h_)).trans (up_row (by omega))))))))))⟩
        · have hb182_ : R1 182 = some (mxd (shf (stN (pl i) n0)) (stN (pl i) n0) 47) := (h2_).trans (congrArg some (mxd_hi (bS1_.mono (by decide)) (bS_.mono (by decide))).symm)
          refine w_ic hK rfl ?_
          refine w_is [(1, 161), (0, (i : Int)), (0, ((n0 + 1 : Nat) : Int)), (0, 47)] hK rfl rfl rfl ?_
          have lp52 : ∀ (n_ : Nat) (j : Nat) (R2 : Int → Option (Pl k)) (N52 : Mem), j = n_ → (j ≤ 47) → (RS N52 k R2) → (R2 182 = some (mxd (shf (stN (pl i) n0)) (stN (pl i) n0) j)) → ((∀ p : Int, p ≠ 182 → R2 p = R1 p)) → ((∀ a : Int, (∀ p : Int, isR p → a ≠ p) → N52 a = N47 a)) → Wp 198 (d + 8) 275 52 [(1, 161), (0, (i : Int)), (0, ((n0 + 1 : Nat) : Int)), (0, (j : Int))] [] N52 (fun r_ M' => r_ = (0, (if 0 < rchN (pl i) 300 then rchN (pl i) 300 else -3)) ∧ RFS M' k pl n tx rc rw fc fa ∧ (∀ a : Int, (a < 161 ∨ 197 < a) → M' a = M a)) := by
            intro n_
            induction n_ using Nat.strongRecOn with
            | _ n_ ih52 =>
            intro j R2 N52 hm52 hj_ hCR2 h2_ hGR2 hSN52
            refine w_il hK rfl rfl ?_
            refine w_le hK rfl (by omega) (by omega) (fun h53 => ?_) (fun h53 => ?_)
            · refine w_al hK rfl rfl ?_
              refine w_getr (n := 28) (v := 182) hK rfl rfl (by decide) (by decide) rfl rfl rfl rfl ?_
              refine w_ic hK rfl ?_
              refine w_ic hK rfl ?_
              refine w_iat hK rfl rfl (by decide) (by decide) (by omega) (by omega) ?_
              have ez_ : j = 0 := by omega
              have hz182_ : (pu R2 182 (up1 (mxd (shf (stN (pl i) n0)) (stN (pl i) n0) j) 0 z0)) 182 = some (shf (stN (pl i) n0)) := (pu_eq).trans (congrArg some (mxd_z ez_))
              have bs8_ : Bd (shf (stN (pl i) n0)) 17 := bS1_.mono (by decide)
              refine w_al hK rfl rfl ?_
              refine w_al hK rfl rfl ?_
              refine w_getr (n := 28) (v := 182) hK rfl rfl (by decide) (by decide) rfl rfl rfl rfl ?_
              refine w_al hK rfl rfl ?_
              refine w_getr (n := 26) (v := 180) hK rfl rfl (by decide) (by decide) rfl rfl rfl rfl ?_
              refine w_ic hK rfl ?_
              refine w_call [(1, 161), (1, 182), (1, 180), (0, 0)] hK rfl rfl rfl rfl (Or.inr ⟨_, _, _, rfl, by decide, (by decide), rfl⟩) (r_div (RS.up hCR2 ⟨(isR_of (p := 182) rfl), h2_⟩ (j := 0) (by omega) (by omega) (e := z0) el0.symm) ⟨(isR_of (p := 182) rfl), hz182_⟩ ⟨(isR_of (p := 180) rfl), ((pu_ne (P := R2) (f := up1 (mxd (shf (stN (pl i) n0)) (stN (pl i) n0) j) 0 z0) (show 180 ≠ 182 by omega)).trans ((hGR2 180 (by omega)).trans h0_))⟩ 0 (by omega) (by omega) (by omega) (by omega) bs8_ (bi_.mono (by decide))) ?_
              rintro _ V460 ⟨P460, rfl, C460, S460, F460, f460_0, f460_1⟩
              refine ⟨by decide, (?_ : Wp 198 _ 275 81 [(1, 161), (0, (i : Int)), (0, ((n0 + 1 : Nat) : Int)), (0, (j : Int))] [] V460 _)⟩
              refine w_al hK rfl rfl ?_
              refine w_getr (n := 19) (v := 173) hK rfl rfl (by decide) (by decide) rfl rfl rfl rfl ?_
              refine w_al hK rfl rfl ?_
              refine w_getr (n := 28) (v := 182) hK rfl rfl (by decide) (by decide) rfl rfl rfl rfl ?_
              refine w_call [(1, 173), (1, 182)] hK rfl rfl rfl rfl (Or.inl rfl) (r_copy C460 ⟨(isR_of (p := 173) rfl), f460_0⟩ (isR_of (p := 182) rfl) (by omega)) ?_
              rintro _ V461 ⟨P461, rfl, C461, S461, F461, f461_0⟩
              refine ⟨by decide, (?_ : Wp 198 _ 275 86 [(1, 161), (0, (i : Int)), (0, ((n0 + 1 : Nat) : Int)), (0, (j : Int))] [] V461 _)⟩
              have hs182_ : P461 182 = some (stN (pl i) (n0 + 1)) := f461_0
              refine w_al hK rfl rfl ?_
              refine w_getr (n := 28) (v := 182) hK rfl rfl (by decide) (by decide) rfl rfl rfl rfl ?_
              refine w_al hK rfl rfl ?_
              refine w_getr (n := 27) (v := 181) hK rfl rfl (by decide) (by decide) rfl rfl rfl rfl ?_
              refine w_call [(1, 182), (1, 181)] hK rfl rfl rfl rfl (Or.inl rfl) (r_same C461 ⟨(isR_of (p := 182) rfl), hs182_⟩ ⟨(isR_of (p := 181) rfl), ((F461 181 (by omega)).trans ((F460 181 (by omega) (by omega) (by omega) (by omega) (by omega)).trans ((pu_ne (P := R2) (f := up1 (mxd (shf (stN (pl i) n0)) (stN (pl i) n0) j) 0 z0) (show 181 ≠ 182 by omega)).trans ((hGR2 181 (by omega)).trans h1_))))⟩) ?_
              rintro _ Mq ⟨rfl, e_⟩
              subst Mq
              have bv_ := bz_01 ((stN (pl i) (n0 + 1)) = (stN (pl i) 0))
              refine ⟨by show (0 : Nat) ≠ 9; decide, (?_ : Wp 198 _ 275 91 [(1, 161), (0, (i : Int)), (0, ((n0 + 1 : Nat) : Int)), (0, (j : Int))] [(0, (bz ((stN (pl i) (n0 + 1)) = (stN (pl i) 0))))] V461 _)⟩
              have b01_ := bz_01 (stN (pl i) (n0 + 1) = stN (pl i) 0)
              change bz (stN (pl i) (n0 + 1) = stN (pl i) 0) = 0 ∨ _ at b01_
              refine w_eq hK rfl (by omega) (by omega) (fun h91 => ?_) (fun h91 => ?_)
              · have hns_ : ¬ stN (pl i) (n0 + 1) = stN (pl i) 0 := bz_no h91
                refine w_inc [(1, 161), (0, (i : Int)), (0, (((n0 + 1 : Nat) : Int) + 1)), (0, (j : Int))] hK rfl rfl rfl (by omega) (by omega) rfl ?_
                refine w_goto hK rfl ?_
                exact ih47 _ (by omega) (n0 + 1) (0, (j : Int)) _ V461 rfl (by omega) (rchN_no hr_ hns_) C461 (((F461 180 (by omega)).trans ((F460 180 (by omega) (by omega) (by omega) (by omega) (by omega)).trans ((pu_ne (P := R2) (f := up1 (mxd (shf (stN (pl i) n0)) (stN (pl i) n0) j) 0 z0) (show 180 ≠ 182 by omega)).trans ((hGR2 180 (by omega)).trans h0_))))) (((F461 181 (by omega)).trans ((F460 181 (by omega) (by omega) (by omega) (by omega) (by omega)).trans ((pu_ne (P := R2) (f := up1 (mxd (shf (stN (pl i) n0)) (stN (pl i) n0) j) 0 z0) (show 181 ≠ 182 by omega)).trans ((hGR2 181 (by omega)).trans h1_))))) (hs182_) (fun p pn170_ pn171_ pn172_ pn173_ pn174_ pn181_ pn182_ => ((F461 p pn182_).trans ((F460 p pn170_ pn171_ pn172_ pn173_ pn174_).trans ((pu_ne (P := R2) (f := up1 (mxd (shf (stN (pl i) n0)) (stN (pl i) n0) j) 0 z0) (show p ≠ 182 by omega)).trans ((hGR2 p pn182_).trans (hGR1 p pn170_ pn171_ pn172_ pn173_ pn174_ pn181_ pn182_)))))) (fun a nr_ => ((S461 a nr_).trans ((S460 a nr_).trans ((up_row (nr_ 182 (isR_of (p := 182) rfl))).trans ((hSN52 a nr_).trans (hSN47 a nr_))))))
              · have hys_ : stN (pl i) (n0 + 1) = stN (pl i) 0 := bz_yes h91
                refine w_il hK rfl rfl ?_
                refine w_iret hK rfl rfl ?_
                have hk_ : rchN (pl i) (n0 + 1) = (n0 : Int) + 1 := rchN_yes hr_ hys_
                have hk2_ := rchN_keep (y := pl i) (n := n0 + 1) (by rw [hk_]; omega) (m := 300) (by omega)
                rw [if_pos (by rw [hk2_, hk_]; omega), hk2_, hk_]
                exact ⟨rfl, ⟨_, C461, (PM.keep hpl ((S461 167 (notR rfl)).trans ((S460 167 (notR rfl)).trans ((up_row (by decide)).trans ((hSN52 167 (notR rfl)).trans ((hSN47 167 (notR rfl)).trans ((S458 167 (notR rfl)).trans ((S457 167 (notR rfl)).trans ((S456 167 (notR rfl)).trans ((up_row (by decide)).trans ((S455 167 (notR rfl)).trans ((S454 167 (notR rfl)).trans (up_row (by decide)))))))))))))), (TMs.keep T ((congrFun (S461 161 (notR rfl)) 11).trans ((congrFun (S460 161 (notR rfl)) 11).trans ((congrFun (up_row (by decide)) 11).trans ((congrFun (hSN52 161 (notR rfl)) 11).trans ((congrFun (hSN47 161 (notR rfl)) 11).trans ((congrFun (S458 161 (notR rfl)) 11).trans ((congrFun (S457 161 (notR rfl)) 11).trans ((congrFun (S456 161 (notR rfl)) 11).trans ((congrFun (up_row (by decide)) 11).trans ((congrFun (S455 161 (notR rfl)) 11).trans ((congrFun (S454 161 (notR rfl)) 11).trans (up_ne2 (by decide))))))))))))) ((S461 168 (notR rfl)).trans ((S460 168 (notR rfl)).trans ((up_row (by decide)).trans ((hSN52 168 (notR rfl)).trans ((hSN47 168 (notR rfl)).trans ((S458 168 (notR rfl)).trans ((S457 168 (notR rfl)).trans ((S456 168 (notR rfl)).trans ((up_row (by decide)).trans ((S455 168 (notR rfl)).trans ((S454 168 (notR rfl)).trans (up_row (by decide)))))))))))))), (RM.keep hR ((congrFun (S461 161 (notR rfl)) 13).trans ((congrFun (S460 161 (notR rfl)) 13).trans ((congrFun (up_row (by decide)) 13).trans ((congrFun (hSN52 161 (notR rfl)) 13).trans ((congrFun (hSN47 161 (notR rfl)) 13).trans ((congrFun (S458 161 (notR rfl)) 13).trans ((congrFun (S457 161 (notR rfl)) 13).trans ((congrFun (S456 161 (notR rfl)) 13).trans ((congrFun (up_row (by decide)) 13).trans ((congrFun (S455 161 (notR rfl)) 13).trans ((congrFun (S454 161 (notR rfl)) 13).trans (up_ne2 (by decide))))))))))))) ((S461 169 (notR rfl)).trans ((S460 169 (notR rfl)).trans ((up_row (by decide)).trans ((hSN52 169 (notR rfl)).trans ((hSN47 169 (notR rfl)).trans ((S458 169 (notR rfl)).trans ((S457 169 (notR rfl)).trans ((S456 169 (notR rfl)).trans ((up_row (by decide)).trans ((S455 169 (notR rfl)).trans ((S454 169 (notR rfl)).trans (up_row (by decide)))))))))))))), (FM.keep hF ((congrFun (S461 161 (notR rfl)) 15).trans ((congrFun (S460 161 (notR rfl)) 15).trans ((congrFun (up_row (by decide)) 15).trans ((congrFun (hSN52 161 (notR rfl)) 15).trans ((congrFun (hSN47 161 (notR rfl)) 15).trans ((congrFun (S458 161 (notR rfl)) 15).trans ((congrFun (S457 161 (notR rfl)) 15).trans ((congrFun (S456 161 (notR rfl)) 15).trans ((congrFun (up_row (by decide)) 15).trans ((congrFun (S455 161 (notR rfl)) 15).trans ((congrFun (S454 161 (notR rfl)) 15).trans (up_ne2 (by decide))))))))))))) ((S461 189 (notR rfl)).trans ((S460 189 (notR rfl)).trans ((up_row (by decide)).trans ((hSN52 189 (notR rfl)).trans ((hSN47 189 (notR rfl)).trans ((S458 189 (notR rfl)).trans ((S457 189 (notR rfl)).trans ((S456 189 (notR rfl)).trans ((up_row (by decide)).trans ((S455 189 (notR rfl)).trans ((S454 189 (notR rfl)).trans (up_row (by decide))))))))))))) ((S461 190 (notR rfl)).trans ((S460 190 (notR rfl)).trans ((up_row (by decide)).trans ((hSN52 190 (notR rfl)).trans ((hSN47 190 (notR rfl)).trans ((S458 190 (notR rfl)).trans ((S457 190 (notR rfl)).trans ((S456 190 (notR rfl)).trans ((up_row (by decide)).trans ((S455 190 (notR rfl)).trans ((S454 190 (notR rfl)).trans (up_row (by decide))))))))))))))⟩, (fun a h_ => ((S461 a (npR h_)).trans ((S460 a (npR h_)).trans ((up_row (by omega)).trans ((hSN52 a (npR h_)).trans ((hSN47 a (npR h_)).trans ((S458 a (npR h_)).trans ((S457 a (npR h_)).trans ((S456 a (npR h_)).trans ((up_row (by omega)).trans ((S455 a (npR h_)).trans ((S454 a (npR h_)).trans (up_row (by omega))))))))))))))⟩
            · obtain ⟨j0, ej_⟩ : ∃ j0 : Nat, j = j0 + 1 := ⟨j - 1, by omega⟩
              refine w_al hK rfl rfl ?_
              refine w_getr (n := 28) (v := 182) hK rfl rfl (by decide) (by decide) rfl rfl rfl rfl ?_
              refine w_il hK rfl rfl ?_
              refine w_al hK rfl rfl ?_
              refine w_al hK rfl rfl ?_
              refine w_getr (n := 28) (v := 182) hK rfl rfl (by decide) (by decide) rfl rfl rfl rfl ?_
              refine w_il hK rfl rfl ?_
              refine w_ic hK rfl ?_
              refine w_sub hK rfl (by omega) (by omega) ?_
              refine w_ia hK rfl rfl (by decide) (by decide) (by omega) (by omega) ?_
              rw [show N52 182 ((j : Int) - 1) = ((cf (mxd (shf (stN (pl i) n0)) (stN (pl i) n0) j) ((j : Int) - 1)).val : Int) from hCR2.atI ⟨(isR_of (p := 182) rfl), h2_⟩ (by omega) (by omega)]
              refine w_ic hK rfl ?_
              refine w_call [(1, 161), (0, ((cf (mxd (shf (stN (pl i) n0)) (stN (pl i) n0) j) ((j : Int) - 1)).val : Int)), (0, 1)] hK rfl rfl rfl rfl (Or.inr ⟨_, _, _, rfl, by decide, (by decide), rfl⟩) (r_mapN hCR2.F (cf (mxd (shf (stN (pl i) n0)) (stN (pl i) n0) j) ((j : Int) - 1)) 1 (by omega)) ?_
              rintro _ Mq ⟨rfl, e_⟩
              subst Mq
              have bv_ := el_I (sg 1 (cf (mxd (shf (stN (pl i) n0)) (stN (pl i) n0) j) ((j : Int) - 1)))
              refine ⟨by show (0 : Nat) ≠ 9; decide, (?_ : Wp 198 _ 275 66 [(1, 161), (0, (i : Int)), (0, ((n0 + 1 : Nat) : Int)), (0, (j : Int))] [(0, ((sg 1 (cf (mxd (shf (stN (pl i) n0)) (stN (pl i) n0) j) ((j : Int) - 1))).val : Int)), (0, (j : Int)), (1, 182)] N52 _)⟩
              refine w_iat hK rfl rfl (by decide) (by decide) (by omega) (by omega) ?_
              refine w_inc [(1, 161), (0, (i : Int)), (0, ((n0 + 1 : Nat) : Int)), (0, ((j : Int) + (-1)))] hK rfl rfl rfl (by omega) (by omega) rfl ?_
              refine w_goto hK rfl ?_
              rw [show (j : Int) + (-1) = (j0 : Int) by omega]
              exact ih52 _ (by omega) j0 _ (up N52 182 (j : Int) ((sg 1 (cf (mxd (shf (stN (pl i) n0)) (stN (pl i) n0) j) ((j : Int) - 1))).val : Int)) rfl (by omega) (RS.up hCR2 ⟨(isR_of (p := 182) rfl), h2_⟩ (j := j) (by omega) (by omega) (e := (sg 1 (cf (mxd (shf (stN (pl i) n0)) (stN (pl i) n0) j) ((j : Int) - 1)))) rfl) (pu_eq.trans (congrArg some (mxd_j ej_))) (fun p pn182_ => ((pu_ne (P := R2) (f := up1 (mxd (shf (stN (pl i) n0)) (stN (pl i) n0) j) j (sg 1 (cf (mxd (shf (stN (pl i) n0)) (stN (pl i) n0) j) ((j : Int) - 1)))) (show p ≠ 182 by omega)).trans (hGR2 p pn182_))) (fun a nr_ => ((up_row (nr_ 182 (isR_of (p := 182) rfl))).trans (hSN52 a nr_)))
          exact lp52 _ 47 _ N47 rfl (by omega) hCR1 (hb182_) (fun p pn182_ => rfl) (fun a nr_ => rfl)
      exact lp47 _ 0 (3, 0) _ V458 rfl (by omega) rfl C458 (((F458 180 (by omega)).trans ((F457 180 (by omega)).trans ((F456 180 (by omega) (by omega) (by omega) (by omega) (by omega)).trans ((pu_ne (P := P455) (f := up1 pz 0 e1) (show 180 ≠ 182 by omega)).trans ((F455 180 (by omega)).trans f454_0)))))) (((F458 181 (by omega)).trans f457_0)) (f458_0) (fun p pn170_ pn171_ pn172_ pn173_ pn174_ pn181_ pn182_ => rfl) (fun a nr_ => rfl)
    · exfalso; omega
  · exfalso; omega
set_option maxRecDepth 100000 in
theorem rz_reaches {d : Nat} {M : Mem} {k : Nat} {pl : Nat → Pl k} {n : Int} {tx : Int → Int} {rc : Nat} {rw : Int → Int} {fc : Nat} {fa : Nat → Pl k} (H : RFS M k pl n tx rc rw fc fa) (i : Nat) (hi : i < 6) (hi0 : dg (pl i) < 0) : Ct 198 (d + 8) 275 [(1, 161), (0, (i : Int))] M (fun r_ M' => r_ = (0, -2) ∧ RFS M' k pl n tx rc rw fc fa ∧ (∀ a : Int, (a < 161 ∨ 197 < a) → M' a = M a)) := by
  have hK : cd 275 = k275 := rfl
  obtain ⟨R, C, hpl, T, hR, hF⟩ := H
  have q1_ := qq_I k
  have p1_ := pp_I k
  have m1_ := mm_I k
  have bi_ := (hpl i hi).2
  have di_ := dg_lt9 bi_
  show Wp 198 _ 275 0 [(1, 161), (0, (i : Int)), (3, 0), (3, 0)] [] M _
  refine w_al hK rfl rfl ?_
  refine w_ic hK rfl ?_
  refine w_puti (n := 14) (m := 14) hK rfl rfl (by decide) (by decide) rfl rfl rfl rfl ?_
  refine w_il hK rfl rfl ?_
  refine w_call [(0, (i : Int))] hK rfl rfl rfl rfl (Or.inl rfl) (r_place (i : Int) (by omega) (by omega)) ?_
  rintro _ Mq ⟨rfl, e_⟩
  subst Mq
  have pI_462 := ite01 (0 ≤ (i : Int) ∧ (i : Int) < 6)
  refine ⟨by show (0 : Nat) ≠ 9; decide, (?_ : Wp 198 _ 275 5 [(1, 161), (0, (i : Int)), (3, 0), (3, 0)] [(0, (if 0 ≤ (i : Int) ∧ (i : Int) < 6 then 1 else 0))] (up M 161 14 0) _)⟩
  refine w_ne hK rfl (by omega) (by omega) (fun h5 => ?_) (fun h5 => ?_)
  · refine w_al hK rfl rfl ?_
    refine w_il hK rfl rfl ?_
    refine w_al hK rfl rfl ?_
    refine w_getr (n := 26) (v := 180) hK rfl rfl (by decide) (by decide) rfl rfl rfl rfl ?_
    refine w_call [(1, 161), (0, (i : Int)), (1, 180)] hK rfl rfl rfl rfl (Or.inr ⟨_, _, _, rfl, by decide, (by decide), rfl⟩) (r_load (RS.cg C (fun j_ h1_ h2_ => up_ne2 (by omega)) (fun a_ h1_ h2_ => up_row h1_)) (PM.keep hpl (up_row (by decide))) i hi (isR_of (p := 180) rfl)) ?_
    rintro _ V463 ⟨P463, rfl, C463, S463, F463, f463_0⟩
    refine ⟨by decide, (?_ : Wp 198 _ 275 13 [(1, 161), (0, (i : Int)), (3, 0), (3, 0)] [] V463 _)⟩
    refine w_al hK rfl rfl ?_
    refine w_getr (n := 26) (v := 180) hK rfl rfl (by decide) (by decide) rfl rfl rfl rfl ?_
    have dI_ : -1 ≤ dg (pl i) ∧ dg (pl i) ≤ 47 := C463.dI ⟨(isR_of (p := 180) rfl), f463_0⟩
    refine w_call [(1, 180)] hK rfl rfl rfl rfl (Or.inl rfl) (r_deg C463 ⟨(isR_of (p := 180) rfl), f463_0⟩) ?_
    rintro _ Mq ⟨rfl, e_⟩
    subst Mq
    refine ⟨by show (0 : Nat) ≠ 9; decide, (?_ : Wp 198 _ 275 16 [(1, 161), (0, (i : Int)), (3, 0), (3, 0)] [(0, (dg (pl i)))] V463 _)⟩
    refine w_ic hK rfl ?_
    refine w_ne2 hK rfl (by omega) (by omega) (by omega) (by omega) (fun h17 => ?_) (fun h17 => ?_)
    · exfalso; omega
    · refine w_ic hK rfl ?_
      refine w_iret hK rfl rfl ?_
      exact ⟨rfl, ⟨_, C463, (PM.keep hpl ((S463 167 (notR rfl)).trans (up_row (by decide)))), (TMs.keep T ((congrFun (S463 161 (notR rfl)) 11).trans (up_ne2 (by decide))) ((S463 168 (notR rfl)).trans (up_row (by decide)))), (RM.keep hR ((congrFun (S463 161 (notR rfl)) 13).trans (up_ne2 (by decide))) ((S463 169 (notR rfl)).trans (up_row (by decide)))), (FM.keep hF ((congrFun (S463 161 (notR rfl)) 15).trans (up_ne2 (by decide))) ((S463 189 (notR rfl)).trans (up_row (by decide))) ((S463 190 (notR rfl)).trans (up_row (by decide))))⟩, (fun a h_ => ((S463 a (npR h_)).trans (up_row (by omega))))⟩
  · exfalso; omega
set_option maxRecDepth 100000 in
theorem rn_reaches {d : Nat} {M : Mem} {k : Nat} {pl : Nat → Pl k} {n : Int} {tx : Int → Int} {rc : Nat} {rw : Int → Int} {fc : Nat} {fa : Nat → Pl k} (H : RFS M k pl n tx rc rw fc fa) (i : Int) (i1_ : -2147483648 ≤ i) (i2_ : i ≤ 2147483647) (hn : ¬ (0 ≤ i ∧ i < 6)) : Ct 198 (d + 8) 275 [(1, 161), (0, i)] M (fun r_ M' => r_ = (0, -1) ∧ RFS M' k pl n tx rc rw fc fa ∧ (∀ a : Int, (a < 161 ∨ 197 < a) → M' a = M a)) := by
  have hK : cd 275 = k275 := rfl
  obtain ⟨R, C, hpl, T, hR, hF⟩ := H
  have q1_ := qq_I k
  have p1_ := pp_I k
  have m1_ := mm_I k
  show Wp 198 _ 275 0 [(1, 161), (0, i), (3, 0), (3, 0)] [] M _
  refine w_al hK rfl rfl ?_
  refine w_ic hK rfl ?_
  refine w_puti (n := 14) (m := 14) hK rfl rfl (by decide) (by decide) rfl rfl rfl rfl ?_
  refine w_il hK rfl rfl ?_
  refine w_call [(0, i)] hK rfl rfl rfl rfl (Or.inl rfl) (r_place i (by omega) (by omega)) ?_
  rintro _ Mq ⟨rfl, e_⟩
  subst Mq
  have pI_464 := ite01 (0 ≤ i ∧ i < 6)
  refine ⟨by show (0 : Nat) ≠ 9; decide, (?_ : Wp 198 _ 275 5 [(1, 161), (0, i), (3, 0), (3, 0)] [(0, (if 0 ≤ i ∧ i < 6 then 1 else 0))] (up M 161 14 0) _)⟩
  refine w_ne hK rfl (by omega) (by omega) (fun h5 => ?_) (fun h5 => ?_)
  · exfalso; omega
  · refine w_ic hK rfl ?_
    refine w_iret hK rfl rfl ?_
    exact ⟨rfl, ⟨_, (RS.cg C (fun j_ h1_ h2_ => up_ne2 (by omega)) (fun a_ h1_ h2_ => up_row h1_)), (PM.keep hpl (up_row (by decide))), (TMs.keep T (up_ne2 (by decide)) (up_row (by decide))), (RM.keep hR (up_ne2 (by decide)) (up_row (by decide))), (FM.keep hF (up_ne2 (by decide)) (up_row (by decide)) (up_row (by decide)))⟩, (fun a h_ => (up_row (by omega)))⟩
set_option maxRecDepth 100000 in
theorem ro_basis {d : Nat} {M : Mem} {k : Nat} {pl : Nat → Pl k} {n : Int} {tx : Int → Int} {rc : Nat} {rw : Int → Int} {fc : Nat} {fa : Nat → Pl k} (H : RFS M k pl n tx rc rw fc fa) (x : Int) (x0 : 0 ≤ x) (x1 : x < 2 ^ qq k) : Ct 198 (d + 8) 265 [(1, 161), (0, x)] M (fun r_ M' => r_ = (0, (bcw (basT k x (qq k)))) ∧ RFS M' k pl n tx 1 (upr rw 0 (basT k x (qq k))) fc fa ∧ (∀ a : Int, (a < 161 ∨ 197 < a) → M' a = M a)) := by
  have hK : cd 265 = k265 := rfl
  obtain ⟨R, C, hpl, T, hR, hF⟩ := H
  have q1_ := qq_I k
  have p1_ := pp_I k
  have m1_ := mm_I k
  have sq_ := (shl_q k).2
  show Wp 198 _ 265 0 [(1, 161), (0, x), (3, 0), (3, 0), (3, 0)] [] M _
  refine w_al hK rfl rfl ?_
  refine w_ic hK rfl ?_
  refine w_puti (n := 14) (m := 14) hK rfl rfl (by decide) (by decide) rfl rfl rfl rfl ?_
  refine w_il hK rfl rfl ?_
  refine w_i2l hK rfl (by omega) (by omega) ?_
  refine w_lc hK rfl ?_
  refine w_ic hK rfl ?_
  refine w_al hK rfl rfl ?_
  refine w_geti (n := 1) (m := 1) hK rfl rfl (by decide) (by decide) rfl rfl rfl rfl ?_
  rw [show (up M 161 14 0) 161 1 = (qq k : Int) from (RS.cg C (fun j_ h1_ h2_ => up_ne2 (by omega)) (fun a_ h1_ h2_ => up_row h1_)).F.q]
  refine w_bin (w := i32 1 <<< (i32 (qq k : Int) &&& 31)) hK rfl rfl rfl ?_
  rw [(shl_q k).1]
  refine w_ic hK rfl ?_
  refine w_sub hK rfl (by omega) (by omega) ?_
  refine w_i2l hK rfl (by omega) (by omega) ?_
  refine w_call [(2, x), (2, 0), (2, (((2 : Int) ^ qq k) - 1))] hK rfl rfl rfl rfl (Or.inl rfl) (r_in x 0 (((2 : Int) ^ qq k) - 1) (by omega) (by omega) (by omega) (by omega) (by omega) (by omega)) ?_
  rintro _ Mq ⟨rfl, e_⟩
  subst Mq
  have iI_465 := ite01 (0 ≤ x ∧ x ≤ (((2 : Int) ^ qq k) - 1))
  refine ⟨by show (0 : Nat) ≠ 9; decide, (?_ : Wp 198 _ 265 14 [(1, 161), (0, x), (3, 0), (3, 0), (3, 0)] [(0, (if 0 ≤ x ∧ x ≤ (((2 : Int) ^ qq k) - 1) then 1 else 0))] (up M 161 14 0) _)⟩
  refine w_ne hK rfl (by omega) (by omega) (fun h14 => ?_) (fun h14 => ?_)
  · refine w_al hK rfl rfl ?_
    refine w_getr (n := 26) (v := 180) hK rfl rfl (by decide) (by decide) rfl rfl rfl rfl ?_
    refine w_call [(1, 180)] hK rfl rfl rfl rfl (Or.inl rfl) (r_clear (RS.cg C (fun j_ h1_ h2_ => up_ne2 (by omega)) (fun a_ h1_ h2_ => up_row h1_)) (isR_of (p := 180) rfl)) ?_
    rintro _ V466 ⟨P466, rfl, C466, S466, F466, f466_0⟩
    refine ⟨by decide, (?_ : Wp 198 _ 265 20 [(1, 161), (0, x), (3, 0), (3, 0), (3, 0)] [] V466 _)⟩
    refine w_al hK rfl rfl ?_
    refine w_getr (n := 26) (v := 180) hK rfl rfl (by decide) (by decide) rfl rfl rfl rfl ?_
    refine w_ic hK rfl ?_
    refine w_ic hK rfl ?_
    refine w_iat hK rfl rfl (by decide) (by decide) (by omega) (by omega) ?_
    refine w_ic hK rfl ?_
    refine w_is [(1, 161), (0, x), (0, 0), (3, 0), (3, 0)] hK rfl rfl rfl ?_
    refine w_ic hK rfl ?_
    refine w_is [(1, 161), (0, x), (0, 0), (0, 0), (3, 0)] hK rfl rfl rfl ?_
    have lp29 : ∀ (n_ : Nat) (a : Nat) (w4 : AV) (R1 : Int → Option (Pl k)) (N29 : Mem), 17 - a = n_ → (a ≤ qq k) → (RS N29 k R1) → (R1 180 = some (basF (k := k) x a)) → ((∀ p : Int, p ≠ 170 → p ≠ 180 → p ≠ 181 → R1 p = (pu P466 180 (up1 pz 0 e1)) p)) → ((∀ a : Int, (∀ p : Int, isR p → a ≠ p) → N29 a = (up V466 180 0 1) a)) → Wp 198 (d + 8) 265 29 [(1, 161), (0, x), (0, basT k x a), (0, (a : Int)), w4] [] N29 (fun r_ M' => r_ = (0, (bcw (basT k x (qq k)))) ∧ RFS M' k pl n tx 1 (upr rw 0 (basT k x (qq k))) fc fa ∧ (∀ a : Int, (a < 161 ∨ 197 < a) → M' a = M a)) := by
      intro n_
      induction n_ using Nat.strongRecOn with
      | _ n_ ih29 =>
      intro a w4 R1 N29 hm29 ha_ hCR1 h0_ hGR1 hSN29
      obtain ⟨dB_, hB1_, hB2_⟩ := basF_le (k := k) C.F.1 x a
      have bB_ : Bd (basF (k := k) x a) 9 := (Bd_is hB2_).mono (by omega)
      have dB9_ := dg_lt9 bB_
      have gB_ := el_I (vl (basF (k := k) x a) (el k a))
      refine w_il hK rfl rfl ?_
      refine w_al hK rfl rfl ?_
      refine w_geti (n := 1) (m := 1) hK rfl rfl (by decide) (by decide) rfl rfl rfl rfl ?_
      rw [show N29 161 1 = (qq k : Int) from hCR1.F.q]
      refine w_ge2 hK rfl (by omega) (by omega) (by omega) (by omega) (fun h32 => ?_) (fun h32 => ?_)
      · have e_ : a = qq k := by omega
        subst e_
        have tB_ := (basT_16 k x (qq k) (qq_le k)).I
        refine w_al hK rfl rfl ?_
        refine w_ic hK rfl ?_
        refine w_puti (n := 13) (m := 13) hK rfl rfl (by decide) (by decide) rfl rfl rfl rfl ?_
        refine w_al hK rfl rfl ?_
        refine w_il hK rfl rfl ?_
        refine w_i2l hK rfl (by omega) (by omega) ?_
        refine w_call [(1, 161), (2, (basT k x (qq k)))] hK rfl rfl rfl rfl (Or.inr ⟨_, _, _, rfl, by decide, (by decide), rfl⟩) (r_tell (RM.zero (M := (up N29 161 13 0)) (rw := rw) up_eq) (by omega) (basT k x (qq k))) ?_
        rintro _ V467 ⟨rfl, R467, F467, G467⟩
        refine ⟨by decide, (?_ : Wp 198 _ 265 69 [(1, 161), (0, x), (0, (basT k x (qq k))), (0, (qq k : Int)), w4] [] V467 _)⟩
        refine w_il hK rfl rfl ?_
        have b16_ : b16 (basT k x (qq k)) := basT_16 k x _ (qq_le k)
        have bI_ := b16_.I
        refine w_call [(0, (basT k x (qq k)))] hK rfl rfl rfl rfl (Or.inl rfl) (r_ones b16_) ?_
        rintro _ Mq ⟨rfl, e_⟩
        subst Mq
        have wI_ := bcw_I (basT k x (qq k))
        refine ⟨by show (0 : Nat) ≠ 9; decide, (?_ : Wp 198 _ 265 71 [(1, 161), (0, x), (0, (basT k x (qq k))), (0, (qq k : Int)), w4] [(0, (bcw (basT k x (qq k))))] V467 _)⟩
        refine w_iret hK rfl rfl ?_
        exact ⟨rfl, ⟨_, (RS.cg (RS.cg hCR1 (fun j_ h1_ h2_ => up_ne2 (by omega)) (fun a_ h1_ h2_ => up_row h1_)) (fun j_ h1_ h2_ => G467 j_ (by omega)) (fun a_ h1_ h2_ => F467 a_ h1_ (RSc_ne h2_ (by decide) (notR rfl)))), (PM.keep hpl ((F467 167 (by decide) (by decide)).trans ((up_row (by decide)).trans ((hSN29 167 (notR rfl)).trans ((up_row (by decide)).trans ((S466 167 (notR rfl)).trans (up_row (by decide)))))))), (TMs.keep T ((G467 11 (by decide)).trans ((up_ne2 (by decide)).trans ((congrFun (hSN29 161 (notR rfl)) 11).trans ((congrFun (up_row (by decide)) 11).trans ((congrFun (S466 161 (notR rfl)) 11).trans (up_ne2 (by decide))))))) ((F467 168 (by decide) (by decide)).trans ((up_row (by decide)).trans ((hSN29 168 (notR rfl)).trans ((up_row (by decide)).trans ((S466 168 (notR rfl)).trans (up_row (by decide)))))))), R467, (FM.keep hF ((G467 15 (by decide)).trans ((up_ne2 (by decide)).trans ((congrFun (hSN29 161 (notR rfl)) 15).trans ((congrFun (up_row (by decide)) 15).trans ((congrFun (S466 161 (notR rfl)) 15).trans (up_ne2 (by decide))))))) ((F467 189 (by decide) (by decide)).trans ((up_row (by decide)).trans ((hSN29 189 (notR rfl)).trans ((up_row (by decide)).trans ((S466 189 (notR rfl)).trans (up_row (by decide))))))) ((F467 190 (by decide) (by decide)).trans ((up_row (by decide)).trans ((hSN29 190 (notR rfl)).trans ((up_row (by decide)).trans ((S466 190 (notR rfl)).trans (up_row (by decide))))))))⟩, (fun a h_ => ((F467 a (by omega) (by omega)).trans ((up_row (by omega)).trans ((hSN29 a (npR h_)).trans ((up_row (by omega)).trans ((S466 a (npR h_)).trans (up_row (by omega))))))))⟩
      · refine w_al hK rfl rfl ?_
        refine w_al hK rfl rfl ?_
        refine w_getr (n := 26) (v := 180) hK rfl rfl (by decide) (by decide) rfl rfl rfl rfl ?_
        refine w_il hK rfl rfl ?_
        refine w_call [(1, 161), (1, 180), (0, (a : Int))] hK rfl rfl rfl rfl (Or.inr ⟨_, _, _, rfl, by decide, (by decide), rfl⟩) (Ct.cv (r_val hCR1 ⟨(isR_of (p := 180) rfl), h0_⟩ (bB_.mono (by decide)) (el k a)) (by simp only [(elN (k := k) (n := a) (by omega))]; try rfl)) ?_
        rintro _ Mq ⟨rfl, e_⟩
        subst Mq
        have bv_ := el_I (vl (basF (k := k) x a) (el k a))
        refine ⟨by show (0 : Nat) ≠ 9; decide, (?_ : Wp 198 _ 265 38 [(1, 161), (0, x), (0, basT k x a), (0, (a : Int)), w4] [(0, ((vl (basF (k := k) x a) (el k a)).val : Int))] N29 _)⟩
        refine w_is [(1, 161), (0, x), (0, basT k x a), (0, (a : Int)), (0, ((vl (basF (k := k) x a) (el k a)).val : Int))] hK rfl rfl rfl ?_
        refine w_il hK rfl rfl ?_
        refine w_il hK rfl rfl ?_
        refine w_bin (w := i32 x >>> (i32 (a : Int) &&& 31)) hK rfl rfl rfl ?_
        refine w_ic hK rfl ?_
        refine w_bin (w := i32 ((i32 x >>> (i32 (a : Int) &&& 31)).toInt) &&& i32 1) hK rfl rfl rfl ?_
        have b01_ : (i32 ((i32 x >>> (i32 (a : Int) &&& 31)).toInt) &&& i32 1).toInt = 0 ∨ (i32 ((i32 x >>> (i32 (a : Int) &&& 31)).toInt) &&& i32 1).toInt = 1 := and1_I _
        refine w_eq hK rfl (by omega) (by omega) (fun h44 => ?_) (fun h44 => ?_)
        · refine w_inc [(1, 161), (0, x), (0, basT k x a), (0, ((a : Int) + 1)), (0, ((vl (basF (k := k) x a) (el k a)).val : Int))] hK rfl rfl rfl (by omega) (by omega) rfl ?_
          refine w_goto hK rfl ?_
          have eF_ : basF (k := k) x (a + 1) = basF (k := k) x a := (if_neg (show ¬ (i32 ((i32 x >>> (i32 (a : Int) &&& 31)).toInt) &&& i32 1).toInt = 1 by omega))
          have eT_ : basT k x (a + 1) = basT k x a := (if_neg (fun q_ => absurd q_.1 (show ¬ (i32 ((i32 x >>> (i32 (a : Int) &&& 31)).toInt) &&& i32 1).toInt = 1 by omega)))
          rw [← eT_]
          exact ih29 _ (by omega) (a + 1) (0, ((vl (basF (k := k) x a) (el k a)).val : Int)) _ N29 rfl (by omega) hCR1 (h0_.trans (congrArg some eF_.symm)) (fun p pn170_ pn180_ pn181_ => (hGR1 p pn170_ pn180_ pn181_)) (fun a nr_ => (hSN29 a nr_))
        · refine w_il hK rfl rfl ?_
          refine w_ne hK rfl (by omega) (by omega) (fun h46 => ?_) (fun h46 => ?_)
          · refine w_il hK rfl rfl ?_
            refine w_ic hK rfl ?_
            refine w_il hK rfl rfl ?_
            refine w_bin (w := i32 1 <<< (i32 (a : Int) &&& 31)) hK rfl rfl rfl ?_
            refine w_bin (w := i32 (basT k x a) ||| i32 ((i32 1 <<< (i32 (a : Int) &&& 31)).toInt)) hK rfl rfl rfl ?_
            refine w_is [(1, 161), (0, x), (0, (i32 (basT k x a) ||| i32 ((i32 1 <<< (i32 (a : Int) &&& 31)).toInt)).toInt), (0, (a : Int)), (0, ((vl (basF (k := k) x a) (el k a)).val : Int))] hK rfl rfl rfl ?_
            refine w_al hK rfl rfl ?_
            refine w_al hK rfl rfl ?_
            refine w_getr (n := 26) (v := 180) hK rfl rfl (by decide) (by decide) rfl rfl rfl rfl ?_
            refine w_il hK rfl rfl ?_
            refine w_il hK rfl rfl ?_
            refine w_call [(1, 161), (1, 180), (0, (a : Int)), (0, ((vl (basF (k := k) x a) (el k a)).val : Int))] hK rfl rfl rfl rfl (Or.inr ⟨_, _, _, rfl, by decide, (by decide), rfl⟩) (Ct.cv (r_vtoo hCR1 ⟨(isR_of (p := 180) rfl), h0_⟩ (el k a) (vl (basF (k := k) x a) (el k a)) (by omega) (by omega)) (by simp only [(elN (k := k) (n := a) (by omega))]; try rfl)) ?_
            rintro _ V468 ⟨P468, rfl, C468, S468, F468, f468_0⟩
            refine ⟨by decide, (?_ : Wp 198 _ 265 60 [(1, 161), (0, x), (0, (i32 (basT k x a) ||| i32 ((i32 1 <<< (i32 (a : Int) &&& 31)).toInt)).toInt), (0, (a : Int)), (0, ((vl (basF (k := k) x a) (el k a)).val : Int))] [] V468 _)⟩
            refine w_inc [(1, 161), (0, x), (0, (i32 (basT k x a) ||| i32 ((i32 1 <<< (i32 (a : Int) &&& 31)).toInt)).toInt), (0, ((a : Int) + 1)), (0, ((vl (basF (k := k) x a) (el k a)).val : Int))] hK rfl rfl rfl (by omega) (by omega) rfl ?_
            refine w_goto hK rfl ?_
            have ev_ : vl (basF (k := k) x a) (el k a) ≠ z0 := (fun q => by rw [q, z0_val] at h46; exact h46 rfl)
            have eF_ : basF (k := k) x (a + 1) = mlp (up1 (tpw 1) 0 (ng (cjg (el k a) (vl (basF (k := k) x a) (el k a))))) (basF (k := k) x a) := ((if_pos (show (i32 ((i32 x >>> (i32 (a : Int) &&& 31)).toInt) &&& i32 1).toInt = 1 by omega)).trans (if_neg ev_))
            have eT_ : basT k x (a + 1) = (i32 (basT k x a) ||| i32 ((i32 1 <<< (i32 (a : Int) &&& 31)).toInt)).toInt := (if_pos ⟨show (i32 ((i32 x >>> (i32 (a : Int) &&& 31)).toInt) &&& i32 1).toInt = 1 by omega, ev_⟩)
            rw [← eT_]
            exact ih29 _ (by omega) (a + 1) (0, ((vl (basF (k := k) x a) (el k a)).val : Int)) _ V468 rfl (by omega) C468 (f468_0.trans (congrArg some eF_.symm)) (fun p pn170_ pn180_ pn181_ => ((F468 p pn170_ pn181_ pn180_).trans (hGR1 p pn170_ pn180_ pn181_))) (fun a nr_ => ((S468 a nr_).trans (hSN29 a nr_)))
          · refine w_goto hK rfl ?_
            refine w_inc [(1, 161), (0, x), (0, basT k x a), (0, ((a : Int) + 1)), (0, ((vl (basF (k := k) x a) (el k a)).val : Int))] hK rfl rfl rfl (by omega) (by omega) rfl ?_
            refine w_goto hK rfl ?_
            have ev_ : vl (basF (k := k) x a) (el k a) = z0 := z0_iff.mpr (by omega)
            have eF_ : basF (k := k) x (a + 1) = basF (k := k) x a := ((if_pos (show (i32 ((i32 x >>> (i32 (a : Int) &&& 31)).toInt) &&& i32 1).toInt = 1 by omega)).trans (if_pos ev_))
            have eT_ : basT k x (a + 1) = basT k x a := (if_neg (fun q_ => q_.2 ev_))
            rw [← eT_]
            exact ih29 _ (by omega) (a + 1) (0, ((vl (basF (k := k) x a) (el k a)).val : Int)) _ N29 rfl (by omega) hCR1 (h0_.trans (congrArg some eF_.symm)) (fun p pn170_ pn180_ pn181_ => (hGR1 p pn170_ pn180_ pn181_)) (fun a nr_ => (hSN29 a nr_))
    exact lp29 _ 0 (3, 0) _ (up V466 180 0 1) rfl (by omega) (RS.up C466 ⟨(isR_of (p := 180) rfl), f466_0⟩ (j := 0) (by omega) (by omega) (e := e1) el1.symm) (pu_eq) (fun p pn170_ pn180_ pn181_ => rfl) (fun a nr_ => rfl)
  · exfalso; omega
set_option maxRecDepth 100000 in
theorem rn_basis {d : Nat} {M : Mem} {k : Nat} {pl : Nat → Pl k} {n : Int} {tx : Int → Int} {rc : Nat} {rw : Int → Int} {fc : Nat} {fa : Nat → Pl k} (H : RFS M k pl n tx rc rw fc fa) (x : Int) (x1_ : -2147483648 ≤ x) (x2_ : x ≤ 2147483647) (hn : ¬ (0 ≤ x ∧ x < 2 ^ qq k)) : Ct 198 (d + 8) 265 [(1, 161), (0, x)] M (fun r_ M' => r_ = (0, -1) ∧ RFS M' k pl n tx rc rw fc fa ∧ (∀ a : Int, (a < 161 ∨ 197 < a) → M' a = M a)) := by
  have hK : cd 265 = k265 := rfl
  obtain ⟨R, C, hpl, T, hR, hF⟩ := H
  have q1_ := qq_I k
  have p1_ := pp_I k
  have m1_ := mm_I k
  have sq_ := (shl_q k).2
  show Wp 198 _ 265 0 [(1, 161), (0, x), (3, 0), (3, 0), (3, 0)] [] M _
  refine w_al hK rfl rfl ?_
  refine w_ic hK rfl ?_
  refine w_puti (n := 14) (m := 14) hK rfl rfl (by decide) (by decide) rfl rfl rfl rfl ?_
  refine w_il hK rfl rfl ?_
  refine w_i2l hK rfl (by omega) (by omega) ?_
  refine w_lc hK rfl ?_
  refine w_ic hK rfl ?_
  refine w_al hK rfl rfl ?_
  refine w_geti (n := 1) (m := 1) hK rfl rfl (by decide) (by decide) rfl rfl rfl rfl ?_
  rw [show (up M 161 14 0) 161 1 = (qq k : Int) from (RS.cg C (fun j_ h1_ h2_ => up_ne2 (by omega)) (fun a_ h1_ h2_ => up_row h1_)).F.q]
  refine w_bin (w := i32 1 <<< (i32 (qq k : Int) &&& 31)) hK rfl rfl rfl ?_
  rw [(shl_q k).1]
  refine w_ic hK rfl ?_
  refine w_sub hK rfl (by omega) (by omega) ?_
  refine w_i2l hK rfl (by omega) (by omega) ?_
  refine w_call [(2, x), (2, 0), (2, (((2 : Int) ^ qq k) - 1))] hK rfl rfl rfl rfl (Or.inl rfl) (r_in x 0 (((2 : Int) ^ qq k) - 1) (by omega) (by omega) (by omega) (by omega) (by omega) (by omega)) ?_
  rintro _ Mq ⟨rfl, e_⟩
  subst Mq
  have iI_469 := ite01 (0 ≤ x ∧ x ≤ (((2 : Int) ^ qq k) - 1))
  refine ⟨by show (0 : Nat) ≠ 9; decide, (?_ : Wp 198 _ 265 14 [(1, 161), (0, x), (3, 0), (3, 0), (3, 0)] [(0, (if 0 ≤ x ∧ x ≤ (((2 : Int) ^ qq k) - 1) then 1 else 0))] (up M 161 14 0) _)⟩
  refine w_ne hK rfl (by omega) (by omega) (fun h14 => ?_) (fun h14 => ?_)
  · exfalso; omega
  · refine w_ic hK rfl ?_
    refine w_iret hK rfl rfl ?_
    exact ⟨rfl, ⟨_, (RS.cg C (fun j_ h1_ h2_ => up_ne2 (by omega)) (fun a_ h1_ h2_ => up_row h1_)), (PM.keep hpl (up_row (by decide))), (TMs.keep T (up_ne2 (by decide)) (up_row (by decide))), (RM.keep hR (up_ne2 (by decide)) (up_row (by decide))), (FM.keep hF (up_ne2 (by decide)) (up_row (by decide)) (up_row (by decide)))⟩, (fun a h_ => (up_row (by omega)))⟩
set_option maxRecDepth 100000 in
theorem ro_van {d : Nat} {M : Mem} {k : Nat} {pl : Nat → Pl k} {n : Int} {tx : Int → Int} {rc : Nat} {rw : Int → Int} {fc : Nat} {fa : Nat → Pl k} (H : RFS M k pl n tx rc rw fc fa) (j : Nat) (hj : j < 6) (x : Int) (x0 : 0 ≤ x) (x1 : x < 2 ^ qq k) : Ct 198 (d + 8) 270 [(1, 161), (0, x), (0, (j : Int))] M (fun r_ M' => r_ = (0, (dg (basF (k := k) x (qq k)))) ∧ RFS M' k (fup pl j (basF (k := k) x (qq k))) n tx 1 (upr rw 0 (rts (basF (k := k) x (qq k)) (qq k))) fc fa ∧ (∀ a : Int, (a < 161 ∨ 197 < a) → M' a = M a)) := by
  have hK : cd 270 = k270 := rfl
  obtain ⟨R, C, hpl, T, hR, hF⟩ := H
  have q1_ := qq_I k
  have p1_ := pp_I k
  have m1_ := mm_I k
  have bj_ := (hpl j hj).2
  have dj_ := dg_lt9 bj_
  have sq_ := (shl_q k).2
  show Wp 198 _ 270 0 [(1, 161), (0, x), (0, (j : Int)), (3, 0), (3, 0)] [] M _
  refine w_al hK rfl rfl ?_
  refine w_ic hK rfl ?_
  refine w_puti (n := 14) (m := 14) hK rfl rfl (by decide) (by decide) rfl rfl rfl rfl ?_
  refine w_il hK rfl rfl ?_
  refine w_i2l hK rfl (by omega) (by omega) ?_
  refine w_lc hK rfl ?_
  refine w_ic hK rfl ?_
  refine w_al hK rfl rfl ?_
  refine w_geti (n := 1) (m := 1) hK rfl rfl (by decide) (by decide) rfl rfl rfl rfl ?_
  rw [show (up M 161 14 0) 161 1 = (qq k : Int) from (RS.cg C (fun j_ h1_ h2_ => up_ne2 (by omega)) (fun a_ h1_ h2_ => up_row h1_)).F.q]
  refine w_bin (w := i32 1 <<< (i32 (qq k : Int) &&& 31)) hK rfl rfl rfl ?_
  rw [(shl_q k).1]
  refine w_ic hK rfl ?_
  refine w_sub hK rfl (by omega) (by omega) ?_
  refine w_i2l hK rfl (by omega) (by omega) ?_
  refine w_call [(2, x), (2, 0), (2, (((2 : Int) ^ qq k) - 1))] hK rfl rfl rfl rfl (Or.inl rfl) (r_in x 0 (((2 : Int) ^ qq k) - 1) (by omega) (by omega) (by omega) (by omega) (by omega) (by omega)) ?_
  rintro _ Mq ⟨rfl, e_⟩
  subst Mq
  have iI_470 := ite01 (0 ≤ x ∧ x ≤ (((2 : Int) ^ qq k) - 1))
  refine ⟨by show (0 : Nat) ≠ 9; decide, (?_ : Wp 198 _ 270 14 [(1, 161), (0, x), (0, (j : Int)), (3, 0), (3, 0)] [(0, (if 0 ≤ x ∧ x ≤ (((2 : Int) ^ qq k) - 1) then 1 else 0))] (up M 161 14 0) _)⟩
  refine w_eq hK rfl (by omega) (by omega) (fun h14 => ?_) (fun h14 => ?_)
  · exfalso; omega
  · refine w_il hK rfl rfl ?_
    refine w_call [(0, (j : Int))] hK rfl rfl rfl rfl (Or.inl rfl) (r_place (j : Int) (by omega) (by omega)) ?_
    rintro _ Mq ⟨rfl, e_⟩
    subst Mq
    have pI_471 := ite01 (0 ≤ (j : Int) ∧ (j : Int) < 6)
    refine ⟨by show (0 : Nat) ≠ 9; decide, (?_ : Wp 198 _ 270 17 [(1, 161), (0, x), (0, (j : Int)), (3, 0), (3, 0)] [(0, (if 0 ≤ (j : Int) ∧ (j : Int) < 6 then 1 else 0))] (up M 161 14 0) _)⟩
    refine w_ne hK rfl (by omega) (by omega) (fun h17 => ?_) (fun h17 => ?_)
    · refine w_al hK rfl rfl ?_
      refine w_getr (n := 26) (v := 180) hK rfl rfl (by decide) (by decide) rfl rfl rfl rfl ?_
      refine w_call [(1, 180)] hK rfl rfl rfl rfl (Or.inl rfl) (r_clear (RS.cg C (fun j_ h1_ h2_ => up_ne2 (by omega)) (fun a_ h1_ h2_ => up_row h1_)) (isR_of (p := 180) rfl)) ?_
      rintro _ V472 ⟨P472, rfl, C472, S472, F472, f472_0⟩
      refine ⟨by decide, (?_ : Wp 198 _ 270 23 [(1, 161), (0, x), (0, (j : Int)), (3, 0), (3, 0)] [] V472 _)⟩
      refine w_al hK rfl rfl ?_
      refine w_getr (n := 26) (v := 180) hK rfl rfl (by decide) (by decide) rfl rfl rfl rfl ?_
      refine w_ic hK rfl ?_
      refine w_ic hK rfl ?_
      refine w_iat hK rfl rfl (by decide) (by decide) (by omega) (by omega) ?_
      refine w_ic hK rfl ?_
      refine w_is [(1, 161), (0, x), (0, (j : Int)), (0, 0), (3, 0)] hK rfl rfl rfl ?_
      have lp30 : ∀ (n_ : Nat) (a : Nat) (w4 : AV) (R1 : Int → Option (Pl k)) (N30 : Mem), 17 - a = n_ → (a ≤ qq k) → (RS N30 k R1) → (R1 180 = some (basF (k := k) x a)) → ((∀ p : Int, p ≠ 170 → p ≠ 180 → p ≠ 181 → R1 p = (pu P472 180 (up1 pz 0 e1)) p)) → ((∀ a : Int, (∀ p : Int, isR p → a ≠ p) → N30 a = (up V472 180 0 1) a)) → Wp 198 (d + 8) 270 30 [(1, 161), (0, x), (0, (j : Int)), (0, (a : Int)), w4] [] N30 (fun r_ M' => r_ = (0, (dg (basF (k := k) x (qq k)))) ∧ RFS M' k (fup pl j (basF (k := k) x (qq k))) n tx 1 (upr rw 0 (rts (basF (k := k) x (qq k)) (qq k))) fc fa ∧ (∀ a : Int, (a < 161 ∨ 197 < a) → M' a = M a)) := by
        intro n_
        induction n_ using Nat.strongRecOn with
        | _ n_ ih30 =>
        intro a w4 R1 N30 hm30 ha_ hCR1 h0_ hGR1 hSN30
        obtain ⟨dB_, hB1_, hB2_⟩ := basF_le (k := k) C.F.1 x a
        have bB_ : Bd (basF (k := k) x a) 9 := (Bd_is hB2_).mono (by omega)
        have dB9_ := dg_lt9 bB_
        have gB_ := el_I (vl (basF (k := k) x a) (el k a))
        refine w_il hK rfl rfl ?_
        refine w_al hK rfl rfl ?_
        refine w_geti (n := 1) (m := 1) hK rfl rfl (by decide) (by decide) rfl rfl rfl rfl ?_
        rw [show N30 161 1 = (qq k : Int) from hCR1.F.q]
        refine w_ge2 hK rfl (by omega) (by omega) (by omega) (by omega) (fun h33 => ?_) (fun h33 => ?_)
        · have e_ : a = qq k := by omega
          subst e_
          refine w_al hK rfl rfl ?_
          refine w_ic hK rfl ?_
          refine w_puti (n := 13) (m := 13) hK rfl rfl (by decide) (by decide) rfl rfl rfl rfl ?_
          refine w_al hK rfl rfl ?_
          refine w_al hK rfl rfl ?_
          refine w_al hK rfl rfl ?_
          refine w_getr (n := 26) (v := 180) hK rfl rfl (by decide) (by decide) rfl rfl rfl rfl ?_
          refine w_call [(1, 161), (1, 180)] hK rfl rfl rfl rfl (Or.inr ⟨_, _, _, rfl, by decide, (by decide), rfl⟩) (r_rts (RS.cg hCR1 (fun j_ h1_ h2_ => up_ne2 (by omega)) (fun a_ h1_ h2_ => up_row h1_)) ⟨(isR_of (p := 180) rfl), h0_⟩ (bB_.mono (by decide))) ?_
          rintro _ Mq ⟨rfl, e_⟩
          subst Mq
          refine ⟨by show (0 : Nat) ≠ 9; decide, (?_ : Wp 198 _ 270 95 [(1, 161), (0, x), (0, (j : Int)), (0, (qq k : Int)), w4] [(0, (rts (basF (k := k) x (qq k)) (qq k))), (1, 161)] (up N30 161 13 0) _)⟩
          have rI_ := rts_I (basF (k := k) x (qq k)) (qq k)
          refine w_i2l hK rfl (by omega) (by omega) ?_
          refine w_call [(1, 161), (2, (rts (basF (k := k) x (qq k)) (qq k)))] hK rfl rfl rfl rfl (Or.inr ⟨_, _, _, rfl, by decide, (by decide), rfl⟩) (r_tell (RM.zero (M := (up N30 161 13 0)) (rw := rw) up_eq) (by omega) (rts (basF (k := k) x (qq k)) (qq k))) ?_
          rintro _ V473 ⟨rfl, R473, F473, G473⟩
          refine ⟨by decide, (?_ : Wp 198 _ 270 97 [(1, 161), (0, x), (0, (j : Int)), (0, (qq k : Int)), w4] [] V473 _)⟩
          refine w_al hK rfl rfl ?_
          refine w_al hK rfl rfl ?_
          refine w_getr (n := 26) (v := 180) hK rfl rfl (by decide) (by decide) rfl rfl rfl rfl ?_
          refine w_il hK rfl rfl ?_
          refine w_call [(1, 161), (1, 180), (0, (j : Int))] hK rfl rfl rfl rfl (Or.inr ⟨_, _, _, rfl, by decide, (by decide), rfl⟩) (r_store (RS.cg (RS.cg hCR1 (fun j_ h1_ h2_ => up_ne2 (by omega)) (fun a_ h1_ h2_ => up_row h1_)) (fun j_ h1_ h2_ => G473 j_ (by omega)) (fun a_ h1_ h2_ => F473 a_ h1_ (RSc_ne h2_ (by decide) (notR rfl)))) (PM.keep hpl ((F473 167 (by decide) (by decide)).trans ((up_row (by decide)).trans ((hSN30 167 (notR rfl)).trans ((up_row (by decide)).trans ((S472 167 (notR rfl)).trans (up_row (by decide)))))))) ⟨(isR_of (p := 180) rfl), h0_⟩ j hj bB_) ?_
          rintro _ V474 ⟨rfl, C474, Q474, F474⟩
          refine ⟨(by show (0 : Nat) ≠ 9; decide), (?_ : Wp 198 _ 270 102 [(1, 161), (0, x), (0, (j : Int)), (0, (qq k : Int)), w4] [(0, (dg (basF (k := k) x (qq k))))] V474 _)⟩
          refine w_iret hK rfl rfl ?_
          exact ⟨rfl, ⟨_, C474, Q474, (TMs.keep T ((congrFun (F474 161 (by decide)) 11).trans ((G473 11 (by decide)).trans ((up_ne2 (by decide)).trans ((congrFun (hSN30 161 (notR rfl)) 11).trans ((congrFun (up_row (by decide)) 11).trans ((congrFun (S472 161 (notR rfl)) 11).trans (up_ne2 (by decide)))))))) ((F474 168 (by decide)).trans ((F473 168 (by decide) (by decide)).trans ((up_row (by decide)).trans ((hSN30 168 (notR rfl)).trans ((up_row (by decide)).trans ((S472 168 (notR rfl)).trans (up_row (by decide))))))))), (RM.keep R473 (congrFun (F474 161 (by decide)) 13) (F474 169 (by decide))), (FM.keep hF ((congrFun (F474 161 (by decide)) 15).trans ((G473 15 (by decide)).trans ((up_ne2 (by decide)).trans ((congrFun (hSN30 161 (notR rfl)) 15).trans ((congrFun (up_row (by decide)) 15).trans ((congrFun (S472 161 (notR rfl)) 15).trans (up_ne2 (by decide)))))))) ((F474 189 (by decide)).trans ((F473 189 (by decide) (by decide)).trans ((up_row (by decide)).trans ((hSN30 189 (notR rfl)).trans ((up_row (by decide)).trans ((S472 189 (notR rfl)).trans (up_row (by decide)))))))) ((F474 190 (by decide)).trans ((F473 190 (by decide) (by decide)).trans ((up_row (by decide)).trans ((hSN30 190 (notR rfl)).trans ((up_row (by decide)).trans ((S472 190 (notR rfl)).trans (up_row (by decide)))))))))⟩, (fun a h_ => ((F474 a (by omega)).trans ((F473 a (by omega) (by omega)).trans ((up_row (by omega)).trans ((hSN30 a (npR h_)).trans ((up_row (by omega)).trans ((S472 a (npR h_)).trans (up_row (by omega)))))))))⟩
        · refine w_al hK rfl rfl ?_
          refine w_al hK rfl rfl ?_
          refine w_getr (n := 26) (v := 180) hK rfl rfl (by decide) (by decide) rfl rfl rfl rfl ?_
          refine w_il hK rfl rfl ?_
          refine w_call [(1, 161), (1, 180), (0, (a : Int))] hK rfl rfl rfl rfl (Or.inr ⟨_, _, _, rfl, by decide, (by decide), rfl⟩) (Ct.cv (r_val hCR1 ⟨(isR_of (p := 180) rfl), h0_⟩ (bB_.mono (by decide)) (el k a)) (by simp only [(elN (k := k) (n := a) (by omega))]; try rfl)) ?_
          rintro _ Mq ⟨rfl, e_⟩
          subst Mq
          have bv_ := el_I (vl (basF (k := k) x a) (el k a))
          refine ⟨by show (0 : Nat) ≠ 9; decide, (?_ : Wp 198 _ 270 39 [(1, 161), (0, x), (0, (j : Int)), (0, (a : Int)), w4] [(0, ((vl (basF (k := k) x a) (el k a)).val : Int))] N30 _)⟩
          refine w_is [(1, 161), (0, x), (0, (j : Int)), (0, (a : Int)), (0, ((vl (basF (k := k) x a) (el k a)).val : Int))] hK rfl rfl rfl ?_
          refine w_il hK rfl rfl ?_
          refine w_il hK rfl rfl ?_
          refine w_bin (w := i32 x >>> (i32 (a : Int) &&& 31)) hK rfl rfl rfl ?_
          refine w_ic hK rfl ?_
          refine w_bin (w := i32 ((i32 x >>> (i32 (a : Int) &&& 31)).toInt) &&& i32 1) hK rfl rfl rfl ?_
          have b01_ : (i32 ((i32 x >>> (i32 (a : Int) &&& 31)).toInt) &&& i32 1).toInt = 0 ∨ (i32 ((i32 x >>> (i32 (a : Int) &&& 31)).toInt) &&& i32 1).toInt = 1 := and1_I _
          refine w_eq hK rfl (by omega) (by omega) (fun h45 => ?_) (fun h45 => ?_)
          · refine w_inc [(1, 161), (0, x), (0, (j : Int)), (0, ((a : Int) + 1)), (0, ((vl (basF (k := k) x a) (el k a)).val : Int))] hK rfl rfl rfl (by omega) (by omega) rfl ?_
            refine w_goto hK rfl ?_
            have eF_ : basF (k := k) x (a + 1) = basF (k := k) x a := (if_neg (show ¬ (i32 ((i32 x >>> (i32 (a : Int) &&& 31)).toInt) &&& i32 1).toInt = 1 by omega))
            exact ih30 _ (by omega) (a + 1) (0, ((vl (basF (k := k) x a) (el k a)).val : Int)) _ N30 rfl (by omega) hCR1 (h0_.trans (congrArg some eF_.symm)) (fun p pn170_ pn180_ pn181_ => (hGR1 p pn170_ pn180_ pn181_)) (fun a nr_ => (hSN30 a nr_))
          · refine w_il hK rfl rfl ?_
            refine w_ne hK rfl (by omega) (by omega) (fun h47 => ?_) (fun h47 => ?_)
            · refine w_al hK rfl rfl ?_
              refine w_getr (n := 27) (v := 181) hK rfl rfl (by decide) (by decide) rfl rfl rfl rfl ?_
              refine w_call [(1, 181)] hK rfl rfl rfl rfl (Or.inl rfl) (r_clear hCR1 (isR_of (p := 181) rfl)) ?_
              rintro _ V475 ⟨P475, rfl, C475, S475, F475, f475_0⟩
              refine ⟨by decide, (?_ : Wp 198 _ 270 52 [(1, 161), (0, x), (0, (j : Int)), (0, (a : Int)), (0, ((vl (basF (k := k) x a) (el k a)).val : Int))] [] V475 _)⟩
              refine w_al hK rfl rfl ?_
              refine w_getr (n := 27) (v := 181) hK rfl rfl (by decide) (by decide) rfl rfl rfl rfl ?_
              refine w_ic hK rfl ?_
              refine w_ic hK rfl ?_
              refine w_iat hK rfl rfl (by decide) (by decide) (by omega) (by omega) ?_
              refine w_al hK rfl rfl ?_
              refine w_getr (n := 27) (v := 181) hK rfl rfl (by decide) (by decide) rfl rfl rfl rfl ?_
              refine w_ic hK rfl ?_
              refine w_al hK rfl rfl ?_
              refine w_getr (n := 6) (v := 164) hK rfl rfl (by decide) (by decide) rfl rfl rfl rfl ?_
              refine w_al hK rfl rfl ?_
              refine w_al hK rfl rfl ?_
              refine w_al hK rfl rfl ?_
              refine w_il hK rfl rfl ?_
              refine w_ic hK rfl ?_
              refine w_call [(1, 161), (0, ((vl (basF (k := k) x a) (el k a)).val : Int)), (0, 1)] hK rfl rfl rfl rfl (Or.inr ⟨_, _, _, rfl, by decide, (by decide), rfl⟩) (r_mapN (RS.up C475 ⟨(isR_of (p := 181) rfl), f475_0⟩ (j := 1) (by omega) (by omega) (e := e1) el1.symm).F (vl (basF (k := k) x a) (el k a)) 1 (by omega)) ?_
              rintro _ Mq ⟨rfl, e_⟩
              subst Mq
              have bv_ := el_I (sg 1 (vl (basF (k := k) x a) (el k a)))
              refine ⟨by show (0 : Nat) ≠ 9; decide, (?_ : Wp 198 _ 270 68 [(1, 161), (0, x), (0, (j : Int)), (0, (a : Int)), (0, ((vl (basF (k := k) x a) (el k a)).val : Int))] [(0, ((sg 1 (vl (basF (k := k) x a) (el k a))).val : Int)), (1, 161), (1, 161), (1, 164), (0, 0), (1, 181)] (up V475 181 1 1) _)⟩
              refine w_il hK rfl rfl ?_
              refine w_call [(1, 161), (0, ((sg 1 (vl (basF (k := k) x a) (el k a))).val : Int)), (0, (a : Int))] hK rfl rfl rfl rfl (Or.inr ⟨_, _, _, rfl, by decide, (by decide), rfl⟩) (Ct.cv (r_mul (RS.up C475 ⟨(isR_of (p := 181) rfl), f475_0⟩ (j := 1) (by omega) (by omega) (e := e1) el1.symm).F (sg 1 (vl (basF (k := k) x a) (el k a))) (el k a)) (by simp only [(elN (k := k) (n := a) (by omega))]; try rfl)) ?_
              rintro _ Mq ⟨rfl, e_⟩
              subst Mq
              have bv_ := el_I (ml (sg 1 (vl (basF (k := k) x a) (el k a))) (el k a))
              refine ⟨by show (0 : Nat) ≠ 9; decide, (?_ : Wp 198 _ 270 70 [(1, 161), (0, x), (0, (j : Int)), (0, (a : Int)), (0, ((vl (basF (k := k) x a) (el k a)).val : Int))] [(0, ((ml (sg 1 (vl (basF (k := k) x a) (el k a))) (el k a)).val : Int)), (1, 161), (1, 164), (0, 0), (1, 181)] (up V475 181 1 1) _)⟩
              refine w_al hK rfl rfl ?_
              refine w_getr (n := 7) (v := 165) hK rfl rfl (by decide) (by decide) rfl rfl rfl rfl ?_
              refine w_il hK rfl rfl ?_
              refine w_ia hK rfl rfl (by decide) (by decide) (by omega) (by omega) ?_
              rw [show (up V475 181 1 1) 165 ((vl (basF (k := k) x a) (el k a)).val : Int) = ((iv (vl (basF (k := k) x a) (el k a))).val : Int) from (RS.up C475 ⟨(isR_of (p := 181) rfl), f475_0⟩ (j := 1) (by omega) (by omega) (e := e1) el1.symm).F.v (vl (basF (k := k) x a) (el k a))]
              refine w_call [(1, 161), (0, ((ml (sg 1 (vl (basF (k := k) x a) (el k a))) (el k a)).val : Int)), (0, ((iv (vl (basF (k := k) x a) (el k a))).val : Int))] hK rfl rfl rfl rfl (Or.inr ⟨_, _, _, rfl, by decide, (by decide), rfl⟩) (r_mul (RS.up C475 ⟨(isR_of (p := 181) rfl), f475_0⟩ (j := 1) (by omega) (by omega) (e := e1) el1.symm).F (ml (sg 1 (vl (basF (k := k) x a) (el k a))) (el k a)) (iv (vl (basF (k := k) x a) (el k a)))) ?_
              rintro _ Mq ⟨rfl, e_⟩
              subst Mq
              have bv_ := el_I (ml (ml (sg 1 (vl (basF (k := k) x a) (el k a))) (el k a)) (iv (vl (basF (k := k) x a) (el k a))))
              refine ⟨by show (0 : Nat) ≠ 9; decide, (?_ : Wp 198 _ 270 75 [(1, 161), (0, x), (0, (j : Int)), (0, (a : Int)), (0, ((vl (basF (k := k) x a) (el k a)).val : Int))] [(0, ((ml (ml (sg 1 (vl (basF (k := k) x a) (el k a))) (el k a)) (iv (vl (basF (k := k) x a) (el k a)))).val : Int)), (1, 164), (0, 0), (1, 181)] (up V475 181 1 1) _)⟩
              refine w_ia hK rfl rfl (by decide) (by decide) (by omega) (by omega) ?_
              rw [show (up V475 181 1 1) 164 ((ml (ml (sg 1 (vl (basF (k := k) x a) (el k a))) (el k a)) (iv (vl (basF (k := k) x a) (el k a)))).val : Int) = ((ng (ml (ml (sg 1 (vl (basF (k := k) x a) (el k a))) (el k a)) (iv (vl (basF (k := k) x a) (el k a))))).val : Int) from (RS.up C475 ⟨(isR_of (p := 181) rfl), f475_0⟩ (j := 1) (by omega) (by omega) (e := e1) el1.symm).F.n (ml (ml (sg 1 (vl (basF (k := k) x a) (el k a))) (el k a)) (iv (vl (basF (k := k) x a) (el k a))))]
              refine w_iat hK rfl rfl (by decide) (by decide) (by omega) (by omega) ?_
              have ld_ : dg (up1 (up1 pz 1 e1) 0 (ng (ml (ml (sg 1 (vl (basF (k := k) x a) (el k a))) (el k a)) (iv (vl (basF (k := k) x a) (el k a)))))) = 1 := lin_dg _
              refine w_al hK rfl rfl ?_
              refine w_al hK rfl rfl ?_
              refine w_getr (n := 27) (v := 181) hK rfl rfl (by decide) (by decide) rfl rfl rfl rfl ?_
              refine w_al hK rfl rfl ?_
              refine w_getr (n := 26) (v := 180) hK rfl rfl (by decide) (by decide) rfl rfl rfl rfl ?_
              refine w_al hK rfl rfl ?_
              refine w_getr (n := 26) (v := 180) hK rfl rfl (by decide) (by decide) rfl rfl rfl rfl ?_
              refine w_call [(1, 161), (1, 181), (1, 180), (1, 180)] hK rfl rfl rfl rfl (Or.inr ⟨_, _, _, rfl, by decide, (by decide), rfl⟩) (r_prod (RS.up (RS.up C475 ⟨(isR_of (p := 181) rfl), f475_0⟩ (j := 1) (by omega) (by omega) (e := e1) el1.symm) ⟨(isR_of (p := 181) rfl), pu_eq⟩ (j := 0) (by omega) (by omega) (e := (ng (ml (ml (sg 1 (vl (basF (k := k) x a) (el k a))) (el k a)) (iv (vl (basF (k := k) x a) (el k a)))))) rfl) ⟨(isR_of (p := 181) rfl), pu_eq⟩ ⟨(isR_of (p := 180) rfl), ((pu_ne (P := pu P475 181 (up1 pz 1 e1)) (f := up1 (up1 pz 1 e1) 0 (ng (ml (ml (sg 1 (vl (basF (k := k) x a) (el k a))) (el k a)) (iv (vl (basF (k := k) x a) (el k a)))))) (show 180 ≠ 181 by omega)).trans ((pu_ne (P := P475) (f := up1 pz 1 e1) (show 180 ≠ 181 by omega)).trans ((F475 180 (by omega)).trans h0_)))⟩ (isR_of (p := 180) rfl) (by omega) (by omega) (by omega) (by omega)) ?_
              rintro _ V476 ⟨P476, rfl, C476, S476, F476, f476_0⟩
              refine ⟨by decide, (?_ : Wp 198 _ 270 85 [(1, 161), (0, x), (0, (j : Int)), (0, (a : Int)), (0, ((vl (basF (k := k) x a) (el k a)).val : Int))] [] V476 _)⟩
              refine w_inc [(1, 161), (0, x), (0, (j : Int)), (0, ((a : Int) + 1)), (0, ((vl (basF (k := k) x a) (el k a)).val : Int))] hK rfl rfl rfl (by omega) (by omega) rfl ?_
              refine w_goto hK rfl ?_
              have ev_ : vl (basF (k := k) x a) (el k a) ≠ z0 := (fun q => by rw [q, z0_val] at h47; exact h47 rfl)
              have eF_ : basF (k := k) x (a + 1) = mlp (up1 (up1 pz 1 e1) 0 (ng (ml (ml (sg 1 (vl (basF (k := k) x a) (el k a))) (el k a)) (iv (vl (basF (k := k) x a) (el k a)))))) (basF (k := k) x a) := ((if_pos (show (i32 ((i32 x >>> (i32 (a : Int) &&& 31)).toInt) &&& i32 1).toInt = 1 by omega)).trans (if_neg ev_))
              exact ih30 _ (by omega) (a + 1) (0, ((vl (basF (k := k) x a) (el k a)).val : Int)) _ V476 rfl (by omega) C476 (f476_0.trans (congrArg some eF_.symm)) (fun p pn170_ pn180_ pn181_ => ((F476 p pn170_ pn180_).trans ((pu_ne (P := pu P475 181 (up1 pz 1 e1)) (f := up1 (up1 pz 1 e1) 0 (ng (ml (ml (sg 1 (vl (basF (k := k) x a) (el k a))) (el k a)) (iv (vl (basF (k := k) x a) (el k a)))))) (show p ≠ 181 by omega)).trans ((pu_ne (P := P475) (f := up1 pz 1 e1) (show p ≠ 181 by omega)).trans ((F475 p pn181_).trans (hGR1 p pn170_ pn180_ pn181_)))))) (fun a nr_ => ((S476 a nr_).trans ((up_row (nr_ 181 (isR_of (p := 181) rfl))).trans ((up_row (nr_ 181 (isR_of (p := 181) rfl))).trans ((S475 a nr_).trans (hSN30 a nr_))))))
            · refine w_goto hK rfl ?_
              refine w_inc [(1, 161), (0, x), (0, (j : Int)), (0, ((a : Int) + 1)), (0, ((vl (basF (k := k) x a) (el k a)).val : Int))] hK rfl rfl rfl (by omega) (by omega) rfl ?_
              refine w_goto hK rfl ?_
              have ev_ : vl (basF (k := k) x a) (el k a) = z0 := z0_iff.mpr (by omega)
              have eF_ : basF (k := k) x (a + 1) = basF (k := k) x a := ((if_pos (show (i32 ((i32 x >>> (i32 (a : Int) &&& 31)).toInt) &&& i32 1).toInt = 1 by omega)).trans (if_pos ev_))
              exact ih30 _ (by omega) (a + 1) (0, ((vl (basF (k := k) x a) (el k a)).val : Int)) _ N30 rfl (by omega) hCR1 (h0_.trans (congrArg some eF_.symm)) (fun p pn170_ pn180_ pn181_ => (hGR1 p pn170_ pn180_ pn181_)) (fun a nr_ => (hSN30 a nr_))
      exact lp30 _ 0 (3, 0) _ (up V472 180 0 1) rfl (by omega) (RS.up C472 ⟨(isR_of (p := 180) rfl), f472_0⟩ (j := 0) (by omega) (by omega) (e := e1) el1.symm) (pu_eq) (fun p pn170_ pn180_ pn181_ => rfl) (fun a nr_ => rfl)
    · exfalso; omega
set_option maxRecDepth 100000 in
theorem rn_van {d : Nat} {M : Mem} {k : Nat} {pl : Nat → Pl k} {n : Int} {tx : Int → Int} {rc : Nat} {rw : Int → Int} {fc : Nat} {fa : Nat → Pl k} (H : RFS M k pl n tx rc rw fc fa) (x j : Int) (x1_ : -2147483648 ≤ x) (x2_ : x ≤ 2147483647) (j1_ : -2147483648 ≤ j) (j2_ : j ≤ 2147483647) (hn : ¬ ((0 ≤ j ∧ j < 6) ∧ 0 ≤ x ∧ x < 2 ^ qq k)) : Ct 198 (d + 8) 270 [(1, 161), (0, x), (0, j)] M (fun r_ M' => r_ = (0, -1) ∧ RFS M' k pl n tx rc rw fc fa ∧ (∀ a : Int, (a < 161 ∨ 197 < a) → M' a = M a)) := by
  have hK : cd 270 = k270 := rfl
  obtain ⟨R, C, hpl, T, hR, hF⟩ := H
  have q1_ := qq_I k
  have p1_ := pp_I k
  have m1_ := mm_I k
  have sq_ := (shl_q k).2
  show Wp 198 _ 270 0 [(1, 161), (0, x), (0, j), (3, 0), (3, 0)] [] M _
  refine w_al hK rfl rfl ?_
  refine w_ic hK rfl ?_
  refine w_puti (n := 14) (m := 14) hK rfl rfl (by decide) (by decide) rfl rfl rfl rfl ?_
  refine w_il hK rfl rfl ?_
  refine w_i2l hK rfl (by omega) (by omega) ?_
  refine w_lc hK rfl ?_
  refine w_ic hK rfl ?_
  refine w_al hK rfl rfl ?_
  refine w_geti (n := 1) (m := 1) hK rfl rfl (by decide) (by decide) rfl rfl rfl rfl ?_
  rw [show (up M 161 14 0) 161 1 = (qq k : Int) from (RS.cg C (fun j_ h1_ h2_ => up_ne2 (by omega)) (fun a_ h1_ h2_ => up_row h1_)).F.q]
  refine w_bin (w := i32 1 <<< (i32 (qq k : Int) &&& 31)) hK rfl rfl rfl ?_
  rw [(shl_q k).1]
  refine w_ic hK rfl ?_
  refine w_sub hK rfl (by omega) (by omega) ?_
  refine w_i2l hK rfl (by omega) (by omega) ?_
  refine w_call [(2, x), (2, 0), (2, (((2 : Int) ^ qq k) - 1))] hK rfl rfl rfl rfl (Or.inl rfl) (r_in x 0 (((2 : Int) ^ qq k) - 1) (by omega) (by omega) (by omega) (by omega) (by omega) (by omega)) ?_
  rintro _ Mq ⟨rfl, e_⟩
  subst Mq
  have iI_477 := ite01 (0 ≤ x ∧ x ≤ (((2 : Int) ^ qq k) - 1))
  refine ⟨by show (0 : Nat) ≠ 9; decide, (?_ : Wp 198 _ 270 14 [(1, 161), (0, x), (0, j), (3, 0), (3, 0)] [(0, (if 0 ≤ x ∧ x ≤ (((2 : Int) ^ qq k) - 1) then 1 else 0))] (up M 161 14 0) _)⟩
  refine w_eq hK rfl (by omega) (by omega) (fun h14 => ?_) (fun h14 => ?_)
  · refine w_ic hK rfl ?_
    refine w_iret hK rfl rfl ?_
    exact ⟨rfl, ⟨_, (RS.cg C (fun j_ h1_ h2_ => up_ne2 (by omega)) (fun a_ h1_ h2_ => up_row h1_)), (PM.keep hpl (up_row (by decide))), (TMs.keep T (up_ne2 (by decide)) (up_row (by decide))), (RM.keep hR (up_ne2 (by decide)) (up_row (by decide))), (FM.keep hF (up_ne2 (by decide)) (up_row (by decide)) (up_row (by decide)))⟩, (fun a h_ => (up_row (by omega)))⟩
  · refine w_il hK rfl rfl ?_
    refine w_call [(0, j)] hK rfl rfl rfl rfl (Or.inl rfl) (r_place j (by omega) (by omega)) ?_
    rintro _ Mq ⟨rfl, e_⟩
    subst Mq
    have pI_478 := ite01 (0 ≤ j ∧ j < 6)
    refine ⟨by show (0 : Nat) ≠ 9; decide, (?_ : Wp 198 _ 270 17 [(1, 161), (0, x), (0, j), (3, 0), (3, 0)] [(0, (if 0 ≤ j ∧ j < 6 then 1 else 0))] (up M 161 14 0) _)⟩
    refine w_ne hK rfl (by omega) (by omega) (fun h17 => ?_) (fun h17 => ?_)
    · exfalso; omega
    · refine w_ic hK rfl ?_
      refine w_iret hK rfl rfl ?_
      exact ⟨rfl, ⟨_, (RS.cg C (fun j_ h1_ h2_ => up_ne2 (by omega)) (fun a_ h1_ h2_ => up_row h1_)), (PM.keep hpl (up_row (by decide))), (TMs.keep T (up_ne2 (by decide)) (up_row (by decide))), (RM.keep hR (up_ne2 (by decide)) (up_row (by decide))), (FM.keep hF (up_ne2 (by decide)) (up_row (by decide)) (up_row (by decide)))⟩, (fun a h_ => (up_row (by omega)))⟩
