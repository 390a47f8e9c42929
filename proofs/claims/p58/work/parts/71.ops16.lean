/-! the class's calls: more that like refuses -/
set_option maxRecDepth 100000 in
theorem z_like {d : Nat} {M : Mem} {k : Nat} {pl : Nat → Pl k} {n : Int} {tx : Int → Int} {rc : Nat} {rw : Int → Int} {fc : Nat} {fa : Nat → Pl k} (H : CLS M k pl n tx rc rw fc fa) (i : Nat) (hi : i < 6) (j : Nat) (hj : j < 6) (hi0 : 0 ≤ dg (pl i)) (hj0 : 0 ≤ dg (pl j)) (h4_ : 4 < dg (pl i) ∨ 4 < dg (pl j)) : Ct 198 (d + 8) 178 [(1, 0), (0, (i : Int)), (0, (j : Int))] M (fun r_ M' => r_ = (0, -3) ∧ M' = M) := by
  have hK : cd 178 = k178 := rfl
  obtain ⟨P, u_, l_, z_, C, E, hpl, T, hR, hF⟩ := H
  have q1_ := qq_I k
  have p1_ := pp_I k
  have m1_ := mm_I k
  have bi_ := (hpl i hi).2
  have di_ := dg_lt9 bi_
  have bj_ := (hpl j hj).2
  have dj_ := dg_lt9 bj_
  show Wp 198 _ 178 0 [(1, 0), (0, (i : Int)), (0, (j : Int)), (3, 0), (3, 0), (3, 0), (3, 0)] [] M _
  refine w_al hK rfl rfl ?_
  refine w_il hK rfl rfl ?_
  refine w_call [(1, 0), (0, (i : Int))] hK rfl rfl rfl rfl (Or.inr ⟨_, _, _, rfl, by decide, (by decide), rfl⟩) (c_pl i hi) ?_
  rintro _ Mq ⟨rfl, e_⟩
  subst Mq
  refine ⟨(by show (1 : Nat) ≠ 9; decide), (?_ : Wp 198 _ 178 3 [(1, 0), (0, (i : Int)), (0, (j : Int)), (3, 0), (3, 0), (3, 0), (3, 0)] [(1, (149 + 2 * (i : Int)))] M _)⟩
  refine w_as [(1, 0), (0, (i : Int)), (0, (j : Int)), (1, (149 + 2 * (i : Int))), (3, 0), (3, 0), (3, 0)] hK rfl rfl rfl ?_
  refine w_al hK rfl rfl ?_
  refine w_il hK rfl rfl ?_
  refine w_call [(1, 0), (0, (j : Int))] hK rfl rfl rfl rfl (Or.inr ⟨_, _, _, rfl, by decide, (by decide), rfl⟩) (c_pl j hj) ?_
  rintro _ Mq ⟨rfl, e_⟩
  subst Mq
  refine ⟨(by show (1 : Nat) ≠ 9; decide), (?_ : Wp 198 _ 178 7 [(1, 0), (0, (i : Int)), (0, (j : Int)), (1, (149 + 2 * (i : Int))), (3, 0), (3, 0), (3, 0)] [(1, (149 + 2 * (j : Int)))] M _)⟩
  refine w_as [(1, 0), (0, (i : Int)), (0, (j : Int)), (1, (149 + 2 * (i : Int))), (1, (149 + 2 * (j : Int))), (3, 0), (3, 0)] hK rfl rfl rfl ?_
  refine w_al hK rfl rfl ?_
  refine w_null hK rfl (fun h9 => ?_) (fun h9 => ?_)
  · exfalso; omega
  · refine w_al hK rfl rfl ?_
    refine w_nonnull hK rfl (fun h11 => ?_) (fun h11 => ?_)
    · refine w_al hK rfl rfl ?_
      refine w_pt hK rfl (isPP hi) ?_
      rw [show M (149 + 2 * (i : Int)) 1 = dg (pl i) from C.t ⟨(isPP hi), (hpl i hi).1⟩]
      have tI_ := CS.dI C ⟨(isPP hi), (hpl i hi).1⟩
      refine w_lt hK rfl (by omega) (by omega) (fun h16 => ?_) (fun h16 => ?_)
      · exfalso; omega
      · refine w_al hK rfl rfl ?_
        refine w_pt hK rfl (isPP hj) ?_
        rw [show M (149 + 2 * (j : Int)) 1 = dg (pl j) from C.t ⟨(isPP hj), (hpl j hj).1⟩]
        have tI_ := CS.dI C ⟨(isPP hj), (hpl j hj).1⟩
        refine w_ge hK rfl (by omega) (by omega) (fun h19 => ?_) (fun h19 => ?_)
        · refine w_al hK rfl rfl ?_
          refine w_pt hK rfl (isPP hi) ?_
          rw [show M (149 + 2 * (i : Int)) 1 = dg (pl i) from C.t ⟨(isPP hi), (hpl i hi).1⟩]
          have tI_ := CS.dI C ⟨(isPP hi), (hpl i hi).1⟩
          refine w_ic hK rfl ?_
          refine w_gt2 hK rfl (by omega) (by omega) (by omega) (by omega) (fun h25 => ?_) (fun h25 => ?_)
          · refine w_ic hK rfl ?_
            refine w_iret hK rfl rfl ?_
            exact ⟨rfl, rfl⟩
          · refine w_al hK rfl rfl ?_
            refine w_pt hK rfl (isPP hj) ?_
            rw [show M (149 + 2 * (j : Int)) 1 = dg (pl j) from C.t ⟨(isPP hj), (hpl j hj).1⟩]
            have tI_ := CS.dI C ⟨(isPP hj), (hpl j hj).1⟩
            refine w_ic hK rfl ?_
            refine w_le2 hK rfl (by omega) (by omega) (by omega) (by omega) (fun h29 => ?_) (fun h29 => ?_)
            · exfalso; omega
            · refine w_ic hK rfl ?_
              refine w_iret hK rfl rfl ?_
              exact ⟨rfl, rfl⟩
        · exfalso; omega
    · exfalso; omega
set_option maxRecDepth 100000 in
theorem x_like {d : Nat} {M : Mem} {k : Nat} {pl : Nat → Pl k} {n : Int} {tx : Int → Int} {rc : Nat} {rw : Int → Int} {fc : Nat} {fa : Nat → Pl k} (H : CLS M k pl n tx rc rw fc fa) (i : Nat) (hi : i < 6) (j : Nat) (hj : j < 6) (hi0 : 0 ≤ dg (pl i)) (hj0 : 0 ≤ dg (pl j)) (hi4 : dg (pl i) ≤ 4) (hj4 : dg (pl j) ≤ 4) (h4_ : dg (pl i) ≠ dg (pl j) ∨ dg (pl i) = 0) : Ct 198 (d + 8) 178 [(1, 0), (0, (i : Int)), (0, (j : Int))] M (fun r_ M' => r_ = (0, -4) ∧ M' = M) := by
  have hK : cd 178 = k178 := rfl
  obtain ⟨P, u_, l_, z_, C, E, hpl, T, hR, hF⟩ := H
  have q1_ := qq_I k
  have p1_ := pp_I k
  have m1_ := mm_I k
  have bi_ := (hpl i hi).2
  have di_ := dg_lt9 bi_
  have bj_ := (hpl j hj).2
  have dj_ := dg_lt9 bj_
  show Wp 198 _ 178 0 [(1, 0), (0, (i : Int)), (0, (j : Int)), (3, 0), (3, 0), (3, 0), (3, 0)] [] M _
  refine w_al hK rfl rfl ?_
  refine w_il hK rfl rfl ?_
  refine w_call [(1, 0), (0, (i : Int))] hK rfl rfl rfl rfl (Or.inr ⟨_, _, _, rfl, by decide, (by decide), rfl⟩) (c_pl i hi) ?_
  rintro _ Mq ⟨rfl, e_⟩
  subst Mq
  refine ⟨(by show (1 : Nat) ≠ 9; decide), (?_ : Wp 198 _ 178 3 [(1, 0), (0, (i : Int)), (0, (j : Int)), (3, 0), (3, 0), (3, 0), (3, 0)] [(1, (149 + 2 * (i : Int)))] M _)⟩
  refine w_as [(1, 0), (0, (i : Int)), (0, (j : Int)), (1, (149 + 2 * (i : Int))), (3, 0), (3, 0), (3, 0)] hK rfl rfl rfl ?_
  refine w_al hK rfl rfl ?_
  refine w_il hK rfl rfl ?_
  refine w_call [(1, 0), (0, (j : Int))] hK rfl rfl rfl rfl (Or.inr ⟨_, _, _, rfl, by decide, (by decide), rfl⟩) (c_pl j hj) ?_
  rintro _ Mq ⟨rfl, e_⟩
  subst Mq
  refine ⟨(by show (1 : Nat) ≠ 9; decide), (?_ : Wp 198 _ 178 7 [(1, 0), (0, (i : Int)), (0, (j : Int)), (1, (149 + 2 * (i : Int))), (3, 0), (3, 0), (3, 0)] [(1, (149 + 2 * (j : Int)))] M _)⟩
  refine w_as [(1, 0), (0, (i : Int)), (0, (j : Int)), (1, (149 + 2 * (i : Int))), (1, (149 + 2 * (j : Int))), (3, 0), (3, 0)] hK rfl rfl rfl ?_
  refine w_al hK rfl rfl ?_
  refine w_null hK rfl (fun h9 => ?_) (fun h9 => ?_)
  · exfalso; omega
  · refine w_al hK rfl rfl ?_
    refine w_nonnull hK rfl (fun h11 => ?_) (fun h11 => ?_)
    · refine w_al hK rfl rfl ?_
      refine w_pt hK rfl (isPP hi) ?_
      rw [show M (149 + 2 * (i : Int)) 1 = dg (pl i) from C.t ⟨(isPP hi), (hpl i hi).1⟩]
      have tI_ := CS.dI C ⟨(isPP hi), (hpl i hi).1⟩
      refine w_lt hK rfl (by omega) (by omega) (fun h16 => ?_) (fun h16 => ?_)
      · exfalso; omega
      · refine w_al hK rfl rfl ?_
        refine w_pt hK rfl (isPP hj) ?_
        rw [show M (149 + 2 * (j : Int)) 1 = dg (pl j) from C.t ⟨(isPP hj), (hpl j hj).1⟩]
        have tI_ := CS.dI C ⟨(isPP hj), (hpl j hj).1⟩
        refine w_ge hK rfl (by omega) (by omega) (fun h19 => ?_) (fun h19 => ?_)
        · refine w_al hK rfl rfl ?_
          refine w_pt hK rfl (isPP hi) ?_
          rw [show M (149 + 2 * (i : Int)) 1 = dg (pl i) from C.t ⟨(isPP hi), (hpl i hi).1⟩]
          have tI_ := CS.dI C ⟨(isPP hi), (hpl i hi).1⟩
          refine w_ic hK rfl ?_
          refine w_gt2 hK rfl (by omega) (by omega) (by omega) (by omega) (fun h25 => ?_) (fun h25 => ?_)
          · exfalso; omega
          · refine w_al hK rfl rfl ?_
            refine w_pt hK rfl (isPP hj) ?_
            rw [show M (149 + 2 * (j : Int)) 1 = dg (pl j) from C.t ⟨(isPP hj), (hpl j hj).1⟩]
            have tI_ := CS.dI C ⟨(isPP hj), (hpl j hj).1⟩
            refine w_ic hK rfl ?_
            refine w_le2 hK rfl (by omega) (by omega) (by omega) (by omega) (fun h29 => ?_) (fun h29 => ?_)
            · refine w_al hK rfl rfl ?_
              refine w_pt hK rfl (isPP hi) ?_
              rw [show M (149 + 2 * (i : Int)) 1 = dg (pl i) from C.t ⟨(isPP hi), (hpl i hi).1⟩]
              have tI_ := CS.dI C ⟨(isPP hi), (hpl i hi).1⟩
              refine w_al hK rfl rfl ?_
              refine w_pt hK rfl (isPP hj) ?_
              rw [show M (149 + 2 * (j : Int)) 1 = dg (pl j) from C.t ⟨(isPP hj), (hpl j hj).1⟩]
              have tI_ := CS.dI C ⟨(isPP hj), (hpl j hj).1⟩
              refine w_ne2 hK rfl (by omega) (by omega) (by omega) (by omega) (fun h36 => ?_) (fun h36 => ?_)
              · refine w_ic hK rfl ?_
                refine w_iret hK rfl rfl ?_
                exact ⟨rfl, rfl⟩
              · refine w_al hK rfl rfl ?_
                refine w_pt hK rfl (isPP hi) ?_
                rw [show M (149 + 2 * (i : Int)) 1 = dg (pl i) from C.t ⟨(isPP hi), (hpl i hi).1⟩]
                have tI_ := CS.dI C ⟨(isPP hi), (hpl i hi).1⟩
                refine w_ne hK rfl (by omega) (by omega) (fun h39 => ?_) (fun h39 => ?_)
                · exfalso; omega
                · refine w_ic hK rfl ?_
                  refine w_iret hK rfl rfl ?_
                  exact ⟨rfl, rfl⟩
            · exfalso; omega
        · exfalso; omega
    · exfalso; omega
