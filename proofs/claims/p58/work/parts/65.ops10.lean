/-! the class's calls: likes -/
set_option maxRecDepth 100000 in
theorem o_likes1 {d : Nat} {M : Mem} {k : Nat} {pl : Nat → Pl k} {n : Int} {tx : Int → Int} {rc : Nat} {rw : Int → Int} {fc : Nat} {fa : Nat → Pl k} (H : CLS M k pl n tx rc rw fc fa) (i : Nat) (hi : i < 6) (hi0 : dg (pl i) = 1) : Ct 198 (d + 8) 177 [(1, 0), (0, (i : Int))] M (fun r_ M' => r_ = (0, (sI (fun j => bz (MKd (pl i) 1 (qq k) (j : Int))) 256)) ∧ CLS M' k pl n tx rc rw fc fa ∧ (∀ a : Int, (a < 0 ∨ 160 < a) → M' a = M a)) := by
  have hK : cd 177 = k177 := rfl
  obtain ⟨P, u_, l_, z_, C, E, hpl, T, hR, hF⟩ := H
  have q1_ := qq_I k
  have p1_ := pp_I k
  have m1_ := mm_I k
  have bi_ := (hpl i hi).2
  have di_ := dg_lt9 bi_
  show Wp 198 _ 177 0 [(1, 0), (0, (i : Int)), (3, 0)] [] M _
  refine w_al hK rfl rfl ?_
  refine w_il hK rfl rfl ?_
  refine w_call [(1, 0), (0, (i : Int))] hK rfl rfl rfl rfl (Or.inr ⟨_, _, _, rfl, by decide, (by decide), rfl⟩) (c_pl i hi) ?_
  rintro _ Mq ⟨rfl, e_⟩
  subst Mq
  refine ⟨(by show (1 : Nat) ≠ 9; decide), (?_ : Wp 198 _ 177 3 [(1, 0), (0, (i : Int)), (3, 0)] [(1, (149 + 2 * (i : Int)))] M _)⟩
  refine w_as [(1, 0), (0, (i : Int)), (1, (149 + 2 * (i : Int)))] hK rfl rfl rfl ?_
  refine w_al hK rfl rfl ?_
  refine w_nonnull hK rfl (fun h5 => ?_) (fun h5 => ?_)
  · refine w_al hK rfl rfl ?_
    refine w_pt hK rfl (isPP hi) ?_
    rw [show M (149 + 2 * (i : Int)) 1 = dg (pl i) from C.t ⟨(isPP hi), (hpl i hi).1⟩]
    have tI_ := CS.dI C ⟨(isPP hi), (hpl i hi).1⟩
    refine w_ge hK rfl (by omega) (by omega) (fun h10 => ?_) (fun h10 => ?_)
    · refine w_al hK rfl rfl ?_
      refine w_pt hK rfl (isPP hi) ?_
      rw [show M (149 + 2 * (i : Int)) 1 = dg (pl i) from C.t ⟨(isPP hi), (hpl i hi).1⟩]
      have tI_ := CS.dI C ⟨(isPP hi), (hpl i hi).1⟩
      refine w_ic hK rfl ?_
      refine w_lt2 hK rfl (by omega) (by omega) (by omega) (by omega) (fun h16 => ?_) (fun h16 => ?_)
      · exfalso; omega
      · refine w_al hK rfl rfl ?_
        refine w_pt hK rfl (isPP hi) ?_
        rw [show M (149 + 2 * (i : Int)) 1 = dg (pl i) from C.t ⟨(isPP hi), (hpl i hi).1⟩]
        have tI_ := CS.dI C ⟨(isPP hi), (hpl i hi).1⟩
        refine w_ic hK rfl ?_
        refine w_le2 hK rfl (by omega) (by omega) (by omega) (by omega) (fun h20 => ?_) (fun h20 => ?_)
        · refine w_al hK rfl rfl ?_
          refine w_getr (n := 6) (v := 92) hK rfl rfl (by decide) (by decide) rfl rfl rfl rfl ?_
          refine w_al hK rfl rfl ?_
          refine w_call [(1, 92), (1, (149 + 2 * (i : Int)))] hK rfl rfl rfl rfl (Or.inr ⟨_, _, _, rfl, by decide, (by decide), rfl⟩) (c_kin1 C ⟨(isPP hi), (hpl i hi).1⟩ (by omega) (by omega)) ?_
          rintro _ V186 ⟨P186, rfl, C186, F186, S186⟩
          refine ⟨by show (0 : Nat) ≠ 9; decide, (?_ : Wp 198 _ 177 27 [(1, 0), (0, (i : Int)), (1, (149 + 2 * (i : Int)))] [(0, (sI (fun j => bz (MKd (pl i) 1 (qq k) (j : Int))) 256))] V186 _)⟩
          refine w_iret hK rfl rfl ?_
          exact ⟨rfl, ⟨_, u_, l_, z_, C186, (ES.keep E (S186 18 (notP rfl) (by decide))), (PLs.keep hpl (fun q_ hq_ => (F186 (149 + 2 * (q_ : Int)) (by omega)))), (TXs.keep T (S186 140 (notP rfl) (by decide)) (S186 141 (notP rfl) (by decide))), (RWs.keep hR (S186 0 (notP rfl) (by decide)) (S186 144 (notP rfl) (by decide))), (FCs.keep hF (S186 52 (notP rfl) (by decide)) (fun q_ hq_ => (F186 (68 + 6 * (q_ : Int)) (by omega))))⟩, (fun a h_ => (S186 a (npC h_) (by omega)))⟩
        · exfalso; omega
    · exfalso; omega
  · exfalso; omega
set_option maxRecDepth 100000 in
theorem o_likes2 {d : Nat} {M : Mem} {k : Nat} {pl : Nat → Pl k} {n : Int} {tx : Int → Int} {rc : Nat} {rw : Int → Int} {fc : Nat} {fa : Nat → Pl k} (H : CLS M k pl n tx rc rw fc fa) (i : Nat) (hi : i < 6) (hi0 : dg (pl i) = 2) : Ct 198 (d + 8) 177 [(1, 0), (0, (i : Int))] M (fun r_ M' => r_ = (0, (sI (fun j => bz (MKd (pl i) 2 (qq k * qq k) (j : Int))) 256)) ∧ CLS M' k pl n tx rc rw fc fa ∧ (∀ a : Int, (a < 0 ∨ 160 < a) → M' a = M a)) := by
  have hK : cd 177 = k177 := rfl
  obtain ⟨P, u_, l_, z_, C, E, hpl, T, hR, hF⟩ := H
  have q1_ := qq_I k
  have p1_ := pp_I k
  have m1_ := mm_I k
  have bi_ := (hpl i hi).2
  have di_ := dg_lt9 bi_
  show Wp 198 _ 177 0 [(1, 0), (0, (i : Int)), (3, 0)] [] M _
  refine w_al hK rfl rfl ?_
  refine w_il hK rfl rfl ?_
  refine w_call [(1, 0), (0, (i : Int))] hK rfl rfl rfl rfl (Or.inr ⟨_, _, _, rfl, by decide, (by decide), rfl⟩) (c_pl i hi) ?_
  rintro _ Mq ⟨rfl, e_⟩
  subst Mq
  refine ⟨(by show (1 : Nat) ≠ 9; decide), (?_ : Wp 198 _ 177 3 [(1, 0), (0, (i : Int)), (3, 0)] [(1, (149 + 2 * (i : Int)))] M _)⟩
  refine w_as [(1, 0), (0, (i : Int)), (1, (149 + 2 * (i : Int)))] hK rfl rfl rfl ?_
  refine w_al hK rfl rfl ?_
  refine w_nonnull hK rfl (fun h5 => ?_) (fun h5 => ?_)
  · refine w_al hK rfl rfl ?_
    refine w_pt hK rfl (isPP hi) ?_
    rw [show M (149 + 2 * (i : Int)) 1 = dg (pl i) from C.t ⟨(isPP hi), (hpl i hi).1⟩]
    have tI_ := CS.dI C ⟨(isPP hi), (hpl i hi).1⟩
    refine w_ge hK rfl (by omega) (by omega) (fun h10 => ?_) (fun h10 => ?_)
    · refine w_al hK rfl rfl ?_
      refine w_pt hK rfl (isPP hi) ?_
      rw [show M (149 + 2 * (i : Int)) 1 = dg (pl i) from C.t ⟨(isPP hi), (hpl i hi).1⟩]
      have tI_ := CS.dI C ⟨(isPP hi), (hpl i hi).1⟩
      refine w_ic hK rfl ?_
      refine w_lt2 hK rfl (by omega) (by omega) (by omega) (by omega) (fun h16 => ?_) (fun h16 => ?_)
      · exfalso; omega
      · refine w_al hK rfl rfl ?_
        refine w_pt hK rfl (isPP hi) ?_
        rw [show M (149 + 2 * (i : Int)) 1 = dg (pl i) from C.t ⟨(isPP hi), (hpl i hi).1⟩]
        have tI_ := CS.dI C ⟨(isPP hi), (hpl i hi).1⟩
        refine w_ic hK rfl ?_
        refine w_le2 hK rfl (by omega) (by omega) (by omega) (by omega) (fun h20 => ?_) (fun h20 => ?_)
        · refine w_al hK rfl rfl ?_
          refine w_getr (n := 6) (v := 92) hK rfl rfl (by decide) (by decide) rfl rfl rfl rfl ?_
          refine w_al hK rfl rfl ?_
          refine w_call [(1, 92), (1, (149 + 2 * (i : Int)))] hK rfl rfl rfl rfl (Or.inr ⟨_, _, _, rfl, by decide, (by decide), rfl⟩) (c_kin2 C ⟨(isPP hi), (hpl i hi).1⟩ (by omega) (by omega)) ?_
          rintro _ V187 ⟨P187, rfl, C187, F187, S187⟩
          refine ⟨by show (0 : Nat) ≠ 9; decide, (?_ : Wp 198 _ 177 27 [(1, 0), (0, (i : Int)), (1, (149 + 2 * (i : Int)))] [(0, (sI (fun j => bz (MKd (pl i) 2 (qq k * qq k) (j : Int))) 256))] V187 _)⟩
          refine w_iret hK rfl rfl ?_
          exact ⟨rfl, ⟨_, u_, l_, z_, C187, (ES.keep E (S187 18 (notP rfl) (by decide))), (PLs.keep hpl (fun q_ hq_ => (F187 (149 + 2 * (q_ : Int)) (by omega)))), (TXs.keep T (S187 140 (notP rfl) (by decide)) (S187 141 (notP rfl) (by decide))), (RWs.keep hR (S187 0 (notP rfl) (by decide)) (S187 144 (notP rfl) (by decide))), (FCs.keep hF (S187 52 (notP rfl) (by decide)) (fun q_ hq_ => (F187 (68 + 6 * (q_ : Int)) (by omega))))⟩, (fun a h_ => (S187 a (npC h_) (by omega)))⟩
        · exfalso; omega
    · exfalso; omega
  · exfalso; omega
set_option maxRecDepth 100000 in
theorem y_likes {d : Nat} {M : Mem} {k : Nat} {pl : Nat → Pl k} {n : Int} {tx : Int → Int} {rc : Nat} {rw : Int → Int} {fc : Nat} {fa : Nat → Pl k} (H : CLS M k pl n tx rc rw fc fa) (i : Nat) (hi : i < 6) (hi0 : dg (pl i) < 0) : Ct 198 (d + 8) 177 [(1, 0), (0, (i : Int))] M (fun r_ M' => r_ = (0, -2) ∧ M' = M) := by
  have hK : cd 177 = k177 := rfl
  obtain ⟨P, u_, l_, z_, C, E, hpl, T, hR, hF⟩ := H
  have q1_ := qq_I k
  have p1_ := pp_I k
  have m1_ := mm_I k
  have bi_ := (hpl i hi).2
  have di_ := dg_lt9 bi_
  show Wp 198 _ 177 0 [(1, 0), (0, (i : Int)), (3, 0)] [] M _
  refine w_al hK rfl rfl ?_
  refine w_il hK rfl rfl ?_
  refine w_call [(1, 0), (0, (i : Int))] hK rfl rfl rfl rfl (Or.inr ⟨_, _, _, rfl, by decide, (by decide), rfl⟩) (c_pl i hi) ?_
  rintro _ Mq ⟨rfl, e_⟩
  subst Mq
  refine ⟨(by show (1 : Nat) ≠ 9; decide), (?_ : Wp 198 _ 177 3 [(1, 0), (0, (i : Int)), (3, 0)] [(1, (149 + 2 * (i : Int)))] M _)⟩
  refine w_as [(1, 0), (0, (i : Int)), (1, (149 + 2 * (i : Int)))] hK rfl rfl rfl ?_
  refine w_al hK rfl rfl ?_
  refine w_nonnull hK rfl (fun h5 => ?_) (fun h5 => ?_)
  · refine w_al hK rfl rfl ?_
    refine w_pt hK rfl (isPP hi) ?_
    rw [show M (149 + 2 * (i : Int)) 1 = dg (pl i) from C.t ⟨(isPP hi), (hpl i hi).1⟩]
    have tI_ := CS.dI C ⟨(isPP hi), (hpl i hi).1⟩
    refine w_ge hK rfl (by omega) (by omega) (fun h10 => ?_) (fun h10 => ?_)
    · exfalso; omega
    · refine w_ic hK rfl ?_
      refine w_iret hK rfl rfl ?_
      exact ⟨rfl, rfl⟩
  · exfalso; omega
set_option maxRecDepth 100000 in
theorem z_likes {d : Nat} {M : Mem} {k : Nat} {pl : Nat → Pl k} {n : Int} {tx : Int → Int} {rc : Nat} {rw : Int → Int} {fc : Nat} {fa : Nat → Pl k} (H : CLS M k pl n tx rc rw fc fa) (i : Nat) (hi : i < 6) (hi0 : dg (pl i) = 0 ∨ 2 < dg (pl i)) : Ct 198 (d + 8) 177 [(1, 0), (0, (i : Int))] M (fun r_ M' => r_ = (0, -3) ∧ M' = M) := by
  have hK : cd 177 = k177 := rfl
  obtain ⟨P, u_, l_, z_, C, E, hpl, T, hR, hF⟩ := H
  have q1_ := qq_I k
  have p1_ := pp_I k
  have m1_ := mm_I k
  have bi_ := (hpl i hi).2
  have di_ := dg_lt9 bi_
  show Wp 198 _ 177 0 [(1, 0), (0, (i : Int)), (3, 0)] [] M _
  refine w_al hK rfl rfl ?_
  refine w_il hK rfl rfl ?_
  refine w_call [(1, 0), (0, (i : Int))] hK rfl rfl rfl rfl (Or.inr ⟨_, _, _, rfl, by decide, (by decide), rfl⟩) (c_pl i hi) ?_
  rintro _ Mq ⟨rfl, e_⟩
  subst Mq
  refine ⟨(by show (1 : Nat) ≠ 9; decide), (?_ : Wp 198 _ 177 3 [(1, 0), (0, (i : Int)), (3, 0)] [(1, (149 + 2 * (i : Int)))] M _)⟩
  refine w_as [(1, 0), (0, (i : Int)), (1, (149 + 2 * (i : Int)))] hK rfl rfl rfl ?_
  refine w_al hK rfl rfl ?_
  refine w_nonnull hK rfl (fun h5 => ?_) (fun h5 => ?_)
  · refine w_al hK rfl rfl ?_
    refine w_pt hK rfl (isPP hi) ?_
    rw [show M (149 + 2 * (i : Int)) 1 = dg (pl i) from C.t ⟨(isPP hi), (hpl i hi).1⟩]
    have tI_ := CS.dI C ⟨(isPP hi), (hpl i hi).1⟩
    refine w_ge hK rfl (by omega) (by omega) (fun h10 => ?_) (fun h10 => ?_)
    · refine w_al hK rfl rfl ?_
      refine w_pt hK rfl (isPP hi) ?_
      rw [show M (149 + 2 * (i : Int)) 1 = dg (pl i) from C.t ⟨(isPP hi), (hpl i hi).1⟩]
      have tI_ := CS.dI C ⟨(isPP hi), (hpl i hi).1⟩
      refine w_ic hK rfl ?_
      refine w_lt2 hK rfl (by omega) (by omega) (by omega) (by omega) (fun h16 => ?_) (fun h16 => ?_)
      · refine w_ic hK rfl ?_
        refine w_goto hK rfl ?_
        refine w_iret hK rfl rfl ?_
        exact ⟨rfl, rfl⟩
      · refine w_al hK rfl rfl ?_
        refine w_pt hK rfl (isPP hi) ?_
        rw [show M (149 + 2 * (i : Int)) 1 = dg (pl i) from C.t ⟨(isPP hi), (hpl i hi).1⟩]
        have tI_ := CS.dI C ⟨(isPP hi), (hpl i hi).1⟩
        refine w_ic hK rfl ?_
        refine w_le2 hK rfl (by omega) (by omega) (by omega) (by omega) (fun h20 => ?_) (fun h20 => ?_)
        · exfalso; omega
        · refine w_ic hK rfl ?_
          refine w_goto hK rfl ?_
          refine w_iret hK rfl rfl ?_
          exact ⟨rfl, rfl⟩
    · exfalso; omega
  · exfalso; omega
set_option maxRecDepth 100000 in
theorem n_likes {d : Nat} {M : Mem} {k : Nat} {pl : Nat → Pl k} {n : Int} {tx : Int → Int} {rc : Nat} {rw : Int → Int} {fc : Nat} {fa : Nat → Pl k} (H : CLS M k pl n tx rc rw fc fa) (i : Int) (i1_ : -2147483648 ≤ i) (i2_ : i ≤ 2147483647) (hn : ¬ (0 ≤ i ∧ i < 6)) : Ct 198 (d + 8) 177 [(1, 0), (0, i)] M (fun r_ M' => r_ = (0, -1) ∧ M' = M) := by
  have hK : cd 177 = k177 := rfl
  obtain ⟨P, u_, l_, z_, C, E, hpl, T, hR, hF⟩ := H
  have q1_ := qq_I k
  have p1_ := pp_I k
  have m1_ := mm_I k
  show Wp 198 _ 177 0 [(1, 0), (0, i), (3, 0)] [] M _
  refine w_al hK rfl rfl ?_
  refine w_il hK rfl rfl ?_
  refine w_call [(1, 0), (0, i)] hK rfl rfl rfl rfl (Or.inr ⟨_, _, _, rfl, by decide, (by decide), rfl⟩) (c_plI i (by omega) (by omega)) ?_
  rintro _ Mq ⟨rfl, e_⟩
  subst Mq
  have pI_ := plr_I i
  refine ⟨(by show (1 : Nat) ≠ 9; decide), (?_ : Wp 198 _ 177 3 [(1, 0), (0, i), (3, 0)] [(1, (plr i))] M _)⟩
  refine w_as [(1, 0), (0, i), (1, (plr i))] hK rfl rfl rfl ?_
  refine w_al hK rfl rfl ?_
  refine w_nonnull hK rfl (fun h5 => ?_) (fun h5 => ?_)
  · exfalso; omega
  · refine w_ic hK rfl ?_
    refine w_iret hK rfl rfl ?_
    exact ⟨rfl, rfl⟩
