/-! the class's calls: part -/
theorem cnp_bd {k d c : Nat} : Bd (cnp (k := k) d c) (d * mm k + 1) := fun j hj => by
  show cnI (k := k) d c d j = z0
  unfold cnI
  rw [if_neg (by omega), if_neg (by omega)]
theorem gpD_bd {k : Nat} (x : Pl k) : ∀ d : Nat, d * mm k ≤ 8 → Bd (gpD x d) 9
  | 0, _ => one_bd.mono (by decide)
  | d + 1, h => by
    have h2 : d * mm k ≤ 8 := Nat.le_trans (Nat.mul_le_mul_right _ (by omega)) h
    unfold gpD
    split
    · exact cnp_bd.mono (by omega)
    · exact gpD_bd x d h2
theorem gp_le {n : Int} {m : Nat} (h0 : 0 ≤ n) (h4 : n ≤ 4) : (n / (m : Int)).toNat * m ≤ 8 := by
  have h1 : n / (m : Int) * (m : Int) ≤ n := by
    by_cases q : (m : Int) = 0
    · rw [q]; omega
    · exact Int.ediv_mul_le n q
  have h2 : 0 ≤ n / (m : Int) := Int.ediv_nonneg h0 (by omega)
  have h3 : (((n / (m : Int)).toNat * m : Nat) : Int) = n / (m : Int) * (m : Int) := by
    rw [Int.natCast_mul, Int.toNat_of_nonneg h2]
  omega
set_option maxRecDepth 100000 in
theorem o_part {d : Nat} {M : Mem} {k : Nat} {pl : Nat → Pl k} {n : Int} {tx : Int → Int} {rc : Nat} {rw : Int → Int} {fc : Nat} {fa : Nat → Pl k} (H : CLS M k pl n tx rc rw fc fa) (i : Nat) (hi : i < 6) (j : Nat) (hj : j < 6) (hi0 : 0 ≤ dg (pl i)) (hi4 : dg (pl i) ≤ 4) : Ct 198 (d + 8) 182 [(1, 0), (0, (i : Int)), (0, (j : Int))] M (fun r_ M' => r_ = (0, (dg (gpD (pl i) (dg (pl i) / (mm k : Int)).toNat))) ∧ CLS M' k (fup pl j (gpD (pl i) (dg (pl i) / (mm k : Int)).toNat)) n tx rc rw fc fa ∧ (∀ a : Int, (a < 0 ∨ 160 < a) → M' a = M a)) := by
  have hK : cd 182 = k182 := rfl
  obtain ⟨P, u_, l_, z_, C, E, hpl, T, hR, hF⟩ := H
  have q1_ := qq_I k
  have p1_ := pp_I k
  have m1_ := mm_I k
  have bi_ := (hpl i hi).2
  have di_ := dg_lt9 bi_
  have bj_ := (hpl j hj).2
  have dj_ := dg_lt9 bj_
  show Wp 198 _ 182 0 [(1, 0), (0, (i : Int)), (0, (j : Int)), (3, 0), (3, 0), (3, 0)] [] M _
  refine w_al hK rfl rfl ?_
  refine w_il hK rfl rfl ?_
  refine w_call [(1, 0), (0, (i : Int))] hK rfl rfl rfl rfl (Or.inr ⟨_, _, _, rfl, by decide, (by decide), rfl⟩) (c_pl i hi) ?_
  rintro _ Mq ⟨rfl, e_⟩
  subst Mq
  refine ⟨(by show (1 : Nat) ≠ 9; decide), (?_ : Wp 198 _ 182 3 [(1, 0), (0, (i : Int)), (0, (j : Int)), (3, 0), (3, 0), (3, 0)] [(1, (149 + 2 * (i : Int)))] M _)⟩
  refine w_as [(1, 0), (0, (i : Int)), (0, (j : Int)), (1, (149 + 2 * (i : Int))), (3, 0), (3, 0)] hK rfl rfl rfl ?_
  refine w_al hK rfl rfl ?_
  refine w_il hK rfl rfl ?_
  refine w_call [(1, 0), (0, (j : Int))] hK rfl rfl rfl rfl (Or.inr ⟨_, _, _, rfl, by decide, (by decide), rfl⟩) (c_pl j hj) ?_
  rintro _ Mq ⟨rfl, e_⟩
  subst Mq
  refine ⟨(by show (1 : Nat) ≠ 9; decide), (?_ : Wp 198 _ 182 7 [(1, 0), (0, (i : Int)), (0, (j : Int)), (1, (149 + 2 * (i : Int))), (3, 0), (3, 0)] [(1, (149 + 2 * (j : Int)))] M _)⟩
  refine w_as [(1, 0), (0, (i : Int)), (0, (j : Int)), (1, (149 + 2 * (i : Int))), (1, (149 + 2 * (j : Int))), (3, 0)] hK rfl rfl rfl ?_
  refine w_al hK rfl rfl ?_
  refine w_null hK rfl (fun h9 => ?_) (fun h9 => ?_)
  · exfalso; omega
  · refine w_al hK rfl rfl ?_
    refine w_nonnull hK rfl (fun h11 => ?_) (fun h11 => ?_)
    · refine w_al hK rfl rfl ?_
      refine w_call [(1, (149 + 2 * (i : Int)))] hK rfl rfl rfl rfl (Or.inl rfl) (c_refus C ⟨(isPP hi), (hpl i hi).1⟩) ?_
      rintro _ Mq ⟨rfl, e_⟩
      subst Mq
      refine ⟨by show (0 : Nat) ≠ 9; decide, (?_ : Wp 198 _ 182 16 [(1, 0), (0, (i : Int)), (0, (j : Int)), (1, (149 + 2 * (i : Int))), (1, (149 + 2 * (j : Int))), (3, 0)] [(0, (if dg (pl i) < 0 then -2 else if 4 < dg (pl i) then -3 else 0))] M _)⟩
      have rI_ : (if dg (pl i) < 0 then -2 else if 4 < dg (pl i) then -3 else 0) = (0 : Int) := by rw [if_neg (by omega), if_neg (by omega)]
      refine w_is [(1, 0), (0, (i : Int)), (0, (j : Int)), (1, (149 + 2 * (i : Int))), (1, (149 + 2 * (j : Int))), (0, (if dg (pl i) < 0 then -2 else if 4 < dg (pl i) then -3 else 0))] hK rfl rfl rfl ?_
      refine w_il hK rfl rfl ?_
      refine w_ge hK rfl (by omega) (by omega) (fun h18 => ?_) (fun h18 => ?_)
      · refine w_al hK rfl rfl ?_
        refine w_getr (n := 7) (v := 136) hK rfl rfl (by decide) (by decide) rfl rfl rfl rfl ?_
        refine w_al hK rfl rfl ?_
        refine w_al hK rfl rfl ?_
        refine w_getr (n := 12) (v := 145) hK rfl rfl (by decide) (by decide) rfl rfl rfl rfl ?_
        refine w_call [(1, 136), (1, (149 + 2 * (i : Int))), (1, 145)] hK rfl rfl rfl rfl (Or.inr ⟨_, _, _, rfl, by decide, (by decide), rfl⟩) (c_gpart C ⟨(isPP hi), (hpl i hi).1⟩ (isP_of (p := 145) rfl) (by omega) (by omega) (by omega) (by omega)) ?_
        rintro _ V195 ⟨P195, rfl, C195, S195, F195, f195_0⟩
        refine ⟨by decide, (?_ : Wp 198 _ 182 27 [(1, 0), (0, (i : Int)), (0, (j : Int)), (1, (149 + 2 * (i : Int))), (1, (149 + 2 * (j : Int))), (0, (if dg (pl i) < 0 then -2 else if 4 < dg (pl i) then -3 else 0))] [] V195 _)⟩
        refine w_al hK rfl rfl ?_
        refine w_al hK rfl rfl ?_
        refine w_getr (n := 12) (v := 145) hK rfl rfl (by decide) (by decide) rfl rfl rfl rfl ?_
        refine w_call [(1, (149 + 2 * (j : Int))), (1, 145)] hK rfl rfl rfl rfl (Or.inr ⟨_, _, _, rfl, (isPP hj).nn, (isPP hj).lb, (isPP hj).o⟩) (c_copy C195 (isPP hj) ⟨(isP_of (p := 145) rfl), f195_0⟩) ?_
        rintro _ V196 ⟨rfl, C196, S196⟩
        refine ⟨by decide, (?_ : Wp 198 _ 182 31 [(1, 0), (0, (i : Int)), (0, (j : Int)), (1, (149 + 2 * (i : Int))), (1, (149 + 2 * (j : Int))), (0, (if dg (pl i) < 0 then -2 else if 4 < dg (pl i) then -3 else 0))] [] V196 _)⟩
        refine w_al hK rfl rfl ?_
        refine w_pt hK rfl (isPP hj) ?_
        rw [show V196 (149 + 2 * (j : Int)) 1 = dg (gpD (pl i) (dg (pl i) / (mm k : Int)).toNat) from C196.t ⟨(isPP hj), pu_eq⟩]
        have tI_ := CS.dI C196 ⟨(isPP hj), pu_eq⟩
        refine w_iret hK rfl rfl ?_
        exact ⟨rfl, ⟨_, u_, l_, z_, C196, (ES.keep E ((S196 18 (notP rfl)).trans (S195 18 (notP rfl)))), (PLs.put hpl pu_eq (gpD_bd (pl i) _ (gp_le hi0 hi4)) (fun q_ hq_ hn_ => ((pu_ne (P := P195) (f := gpD (pl i) (dg (pl i) / (mm k : Int)).toNat) (show (149 + 2 * (q_ : Int)) ≠ (149 + 2 * (j : Int)) by omega)).trans (F195 (149 + 2 * (q_ : Int)) (by omega) (by omega) (by omega))))), (TXs.keep T ((S196 140 (notP rfl)).trans (S195 140 (notP rfl))) ((S196 141 (notP rfl)).trans (S195 141 (notP rfl)))), (RWs.keep hR ((S196 0 (notP rfl)).trans (S195 0 (notP rfl))) ((S196 144 (notP rfl)).trans (S195 144 (notP rfl)))), (FCs.keep hF ((S196 52 (notP rfl)).trans (S195 52 (notP rfl))) (fun q_ hq_ => ((pu_ne (P := P195) (f := gpD (pl i) (dg (pl i) / (mm k : Int)).toNat) (show (68 + 6 * (q_ : Int)) ≠ (149 + 2 * (j : Int)) by omega)).trans (F195 (68 + 6 * (q_ : Int)) (by omega) (by omega) (by omega)))))⟩, (fun a h_ => ((S196 a (npC h_)).trans (S195 a (npC h_))))⟩
      · exfalso; omega
    · exfalso; omega
