/-! what is left, always; coprime ones -/
theorem dv_exists {k : Nat} (s : Int) {y : Pl k} {b : Nat} (hy : IsDg y (b : Int)) : ∀ (n : Nat) (x : Pl k), Bd x n → ∃ q r, IsDv s x y q r
  | 0, x, hx => ⟨pz, x, ⟨0, fun _ _ => rfl⟩, by rw [prd_pz, pz_adp], b, hy, fun j _ => hx j (by omega)⟩
  | n + 1, x, hx => by
    by_cases h : n < b
    · exact ⟨pz, x, ⟨0, fun _ _ => rfl⟩, by rw [prd_pz, pz_adp], b, hy, fun j _ => hx j (by omega)⟩
    · obtain ⟨c, hc⟩ : ∃ c : El k, ∀ j : Nat, n ≤ j → prd s (mono c (n - b)) y j = x j := by
        by_cases hs : s = 0
        · refine ⟨ml (x n) (iv (sg (n - b) (y b))), fun j hj => ?_⟩
          unfold prd
          rw [if_pos hs, mono_mlp, if_pos (by omega)]
          by_cases e : j = n
          · rw [e, show n - (n - b) = b by omega, ml_assoc, ml_comm (iv _), ml_iv _ (sg_ne hy.tp), ml_one]
          · rw [hx j (by omega), hy.2.1 (j - (n - b)) (by omega), sg_z, ml_zero]
        · refine ⟨sgI (-(b : Int)) (ml (x n) (iv (y b))), fun j hj => ?_⟩
          unfold prd
          rw [if_neg hs, mlp_mono, if_pos (by omega)]
          by_cases e : j = n
          · rw [e, show n - (n - b) = b by omega, mm_sg, ml_comm, ml_assoc, ml_comm (iv _), ml_iv _ hy.tp, ml_one]
          · rw [hx j (by omega), hy.2.1 (j - (n - b)) (by omega), zero_ml]
      obtain ⟨q, r, ⟨m, hm⟩, h2, h3⟩ := dv_exists s hy n (sbp x (prd s (mono c (n - b)) y)) (fun j hj => by
        show ad (x j) (ng (prd s _ y j)) = z0
        rw [hc j hj, ad_neg])
      refine ⟨adp q (mono c (n - b)), r, ⟨m + (n - b + 1), Bd_adp hm (fun j hj => by rw [mono_at, if_neg (by omega)])⟩, ?_, h3⟩
      rw [prd_adp, adp_assoc, adp_comm _ r, ← adp_assoc, ← h2, adp_comm, adp_sbp]
theorem dv_is {k : Nat} (s : Int) {x y : Pl k} {b n : Nat} (hy : IsDg y (b : Int)) (hx : Bd x n) : IsDv s x y (dq s x y) (dr s x y) := by
  obtain ⟨q, r, h⟩ := dv_exists s hy n x hx
  obtain ⟨e1, e2⟩ := dv_eq h
  rw [e1, e2]
  exact h
theorem dr_bd {k : Nat} (s : Int) {x y : Pl k} {b n : Nat} (hy : IsDg y (b : Int)) (hx : Bd x n) : Bd (dr s x y) b := by
  obtain ⟨_, _, b', hb', h⟩ := dv_is s hy hx
  have e : (b : Int) = (b' : Int) := hy.uniq hb'
  exact h.mono (by omega)
theorem Bd_mlp {k : Nat} {f g : Pl k} {n m : Nat} (hf : Bd f n) (hg : Bd g m) : Bd (mlp f g) (n + m) := fun j hj => sm_z fun i hi => by
  by_cases q : n ≤ i
  · rw [hf i q, zero_ml]
  · rw [hg (j - i) (by omega), sg_z, ml_zero]
/-- all is made of the two -/
def Cop {k : Nat} (f g : Pl k) : Prop := ∃ (u v : Pl k) (n : Nat), Bd u n ∧ Bd v n ∧ adp (mlp u f) (mlp v g) = one
theorem Cop_comm {k : Nat} {f g : Pl k} : Cop f g ↔ Cop g f := ⟨fun ⟨u, v, n, h1, h2, h3⟩ => ⟨v, u, n, h2, h1, by rw [adp_comm]; exact h3⟩, fun ⟨u, v, n, h1, h2, h3⟩ => ⟨v, u, n, h2, h1, by rw [adp_comm]; exact h3⟩⟩
theorem Bd_ngp {k : Nat} {f : Pl k} {n : Nat} (h : Bd f n) : Bd (ngp f) n := fun j hj => by show ng (f j) = z0; rw [h j hj, ng_z]
theorem Cop_step {k : Nat} {f g q r : Pl k} {m : Nat} (hq : Bd q m) (h : f = adp (mlp q g) r) : Cop f g ↔ Cop g r := by
  constructor
  · intro ⟨u, v, n, h1, h2, h3⟩
    refine ⟨adp (mlp u q) v, u, n + m + n, Bd_adp (Bd_mlp h1 hq) h2, h1.mono (by omega), ?_⟩
    rw [← h3, h, mlp_adp, adp_mlp, mlp_assoc, adp_assoc, adp_assoc, adp_comm (mlp v g)]
  · intro ⟨u, v, n, h1, h2, h3⟩
    refine ⟨v, adp u (ngp (mlp v q)), n + (n + m), h2.mono (by omega), Bd_adp h1 (Bd_ngp (Bd_mlp h2 hq)), ?_⟩
    rw [← h3, h, mlp_adp, adp_mlp, ngp_mlp, mlp_assoc, adp_comm (mlp v (mlp q g)), adp_assoc, adp_comm (mlp u g), ← adp_assoc (mlp v (mlp q g)), adp_ngp, pz_adp, adp_comm]
theorem Cop_const {k : Nat} {f g : Pl k} (h : IsDg g ((0 : Nat) : Int)) : Cop f g := by
  refine ⟨pz, mono (iv (g 0)) 0, 1, fun _ _ => rfl, fun j hj => by rw [mono_at, if_neg (by omega)], ?_⟩
  rw [pz_mlp, pz_adp]
  funext n
  rw [mono_mlp, if_pos (by omega), sg_0, Nat.sub_zero]
  show _ = mono e1 0 n
  rw [mono_at]
  by_cases e : n = 0
  · rw [if_pos e, e, ml_comm, ml_iv _ h.tp]
  · rw [if_neg e, h.2.1 n (by omega), ml_zero]
theorem one_dg {k : Nat} : IsDg (one : Pl k) ((0 : Nat) : Int) := ⟨by decide, fun j hj => by show mono e1 0 j = z0; rw [mono_at, if_neg (by omega)], fun _ => e1_ne⟩
theorem one_ne {k : Nat} : (one : Pl k) ≠ pz := fun q => e1_ne (congrFun q 0)
theorem Cop_pz {k : Nat} {f : Pl k} {m : Nat} (hf : Bd f m) : Cop f pz ↔ IsDg f ((0 : Nat) : Int) := by
  constructor
  · intro ⟨u, v, n, h1, h2, h3⟩
    rw [mlp_pz, adp_pz] at h3
    have hu : u ≠ pz := fun q => one_ne (by rw [← h3, q, pz_mlp])
    have hf2 : f ≠ pz := fun q => one_ne (by rw [← h3, q, mlp_pz])
    obtain ⟨a, ha⟩ := isdg_pos h1 hu
    obtain ⟨b, hb⟩ := isdg_pos hf hf2
    have e := (IsDg_mlp ha hb).1
    rw [h3] at e
    have e2 := e.uniq one_dg
    have e3 : b = 0 := by omega
    rw [← e3]
    exact hb
  · intro h
    exact Cop_comm.mp (Cop_const h)
set_option maxRecDepth 100000 in
theorem c_cop {d : Nat} {M : Mem} {k : Nat} {P : Int → Option (Pl k)} (C : CS M k P) {x y : Int} {f_x : Pl k} (hx : isC P x f_x) {f_y : Pl k} (hy : isC P y f_y) (xn : x ≠ 10 ∧ x ≠ 12 ∧ x ≠ 14 ∧ x ≠ 16) (yn : y ≠ 10 ∧ y ≠ 12 ∧ y ≠ 14 ∧ y ≠ 16) : Ct 198 (d + 4) 52 [(1, 7), (1, x), (1, y)] M (fun r_ M' => ∃ P' : Int → Option (Pl k), r_ = (0, bz (Cop f_x f_y)) ∧ CS M' k P' ∧ NPS M M' ∧ ∀ p : Int, p ≠ 10 → p ≠ 12 → p ≠ 14 → p ≠ 16 → P' p = P p) := by
  have hK : cd 52 = k52 := rfl
  have dx := C.dI hx
  have dy := C.dI hy
  show Wp 198 _ 52 0 [(1, 7), (1, x), (1, y), (3, 0), (3, 0), (3, 0), (3, 0), (3, 0)] [] M _
  refine w_al hK rfl rfl ?_
  refine w_getr (n := 3) (v := 12) hK rfl rfl (by decide) (by decide) rfl rfl rfl rfl ?_
  refine w_as [(1, 7), (1, x), (1, y), (1, 12), (3, 0), (3, 0), (3, 0), (3, 0)] hK rfl rfl rfl ?_
  refine w_al hK rfl rfl ?_
  refine w_getr (n := 4) (v := 14) hK rfl rfl (by decide) (by decide) rfl rfl rfl rfl ?_
  refine w_as [(1, 7), (1, x), (1, y), (1, 12), (1, 14), (3, 0), (3, 0), (3, 0)] hK rfl rfl rfl ?_
  refine w_al hK rfl rfl ?_
  refine w_getr (n := 5) (v := 16) hK rfl rfl (by decide) (by decide) rfl rfl rfl rfl ?_
  refine w_as [(1, 7), (1, x), (1, y), (1, 12), (1, 14), (1, 16), (3, 0), (3, 0)] hK rfl rfl rfl ?_
  refine w_al hK rfl rfl ?_
  refine w_al hK rfl rfl ?_
  refine w_call [(1, 12), (1, y)] hK rfl rfl rfl rfl (Or.inr ⟨_, _, _, rfl, (isP_of (p := 12) rfl).nn, (isP_of (p := 12) rfl).lb, (isP_of (p := 12) rfl).o⟩) (c_copy C (isP_of (p := 12) rfl) hy) ?_
  rintro _ V1 ⟨rfl, C1, S1⟩
  refine ⟨by decide, (?_ : Wp 198 _ 52 12 [(1, 7), (1, x), (1, y), (1, 12), (1, 14), (1, 16), (3, 0), (3, 0)] [] V1 _)⟩
  refine w_al hK rfl rfl ?_
  refine w_al hK rfl rfl ?_
  refine w_call [(1, 14), (1, x)] hK rfl rfl rfl rfl (Or.inr ⟨_, _, _, rfl, (isP_of (p := 14) rfl).nn, (isP_of (p := 14) rfl).lb, (isP_of (p := 14) rfl).o⟩) (c_copy C1 (isP_of (p := 14) rfl) ⟨hx.1, ((pu_ne (P := P) (f := f_y) (show x ≠ 12 by omega)).trans hx.2)⟩) ?_
  rintro _ V2 ⟨rfl, C2, S2⟩
  refine ⟨by decide, (?_ : Wp 198 _ 52 15 [(1, 7), (1, x), (1, y), (1, 12), (1, 14), (1, 16), (3, 0), (3, 0)] [] V2 _)⟩
  refine w_ic hK rfl ?_
  refine w_is [(1, 7), (1, x), (1, y), (1, 12), (1, 14), (1, 16), (0, 0), (3, 0)] hK rfl rfl rfl ?_
  have lp17 : ∀ (n_ : Nat) (u l r : Int) (n : Nat) (P1 : Int → Option (Pl k)) (f_u f_l : Pl k) (w7 : AV) (N17 : Mem), 20 - n = n_ → ((u = 12 ∨ u = 14 ∨ u = 16) ∧ (l = 12 ∨ l = 14 ∨ l = 16) ∧ (r = 12 ∨ r = 14 ∨ r = 16)) → (u ≠ l ∧ u ≠ r ∧ l ≠ r) → (isC P1 u f_u) → (isC P1 l f_l) → (isP r) → (u ≠ 10) → (l ≠ 10) → (r ≠ 10) → (n ≤ 18) → (CS N17 k P1) → (NPS M N17) → (∀ p : Int, p ≠ 10 → p ≠ 12 → p ≠ 14 → p ≠ 16 → P1 p = P p) → (Cop f_u f_l ↔ Cop f_x f_y) → (n + dg f_l ≤ 16) → Wp 198 (d + 4) 52 17 [(1, 7), (1, x), (1, y), (1, u), (1, l), (1, r), (0, (n : Int)), w7] [] N17 (fun r_ M' => ∃ P' : Int → Option (Pl k), r_ = (0, bz (Cop f_x f_y)) ∧ CS M' k P' ∧ NPS M M' ∧ ∀ p : Int, p ≠ 10 → p ≠ 12 → p ≠ 14 → p ≠ 16 → P' p = P p) := by
    intro n_
    induction n_ using Nat.strongRecOn with
    | _ n_ ih17 =>
    intro u l r n P1 f_u f_l w7 N17 hm17 t1 t2 hu hl hr_ t3 t4 t5 hn hC hS hF hcop hdl
    have dl := hC.dI hl
    have du := hC.dI hu
    refine w_il hK rfl rfl ?_
    refine w_ic hK rfl ?_
    refine w_ge2 hK rfl (by omega) (by omega) (by omega) (by omega) (fun h19 => ?_) (fun h19 => ?_)
    · refine w_al hK rfl rfl ?_
      refine w_pt hK rfl hl.1 ?_
      rw [show N17 l 1 = dg f_l from hC.t ⟨hl.1, hl.2⟩]
      refine w_eq hK rfl (by omega) (by omega) (fun h43 => ?_) (fun h43 => ?_)
      · refine w_ic hK rfl ?_
        refine w_goto hK rfl ?_
        refine w_zret hK rfl rfl (Or.inr rfl) ?_
        have hc : Cop f_x f_y := hcop.mp (Cop_const (IsDg.nz (hC.bd hl) (by omega)))
        exact ⟨P1, by rw [bz_pos hc], hC, hS, hF⟩
      · refine w_al hK rfl rfl ?_
        refine w_pt hK rfl hu.1 ?_
        rw [show N17 u 1 = dg f_u from hC.t ⟨hu.1, hu.2⟩]
        refine w_ne hK rfl (by omega) (by omega) (fun h46 => ?_) (fun h46 => ?_)
        · refine w_ic hK rfl ?_
          refine w_zret hK rfl rfl (Or.inl rfl) ?_
          have hz : f_l = pz := (dg_neg ((hC.bd hl).mono (by decide))).mp (by omega)
          rw [hz] at hcop
          have hc : ¬ Cop f_x f_y := fun q => by
            have e := dg_eq ((hC.bd hu).mono (by decide)) ((Cop_pz (hC.bd hu)).mp (hcop.mpr q))
            omega
          exact ⟨P1, by rw [bz_neg hc], hC, hS, hF⟩
        · refine w_ic hK rfl ?_
          refine w_goto hK rfl ?_
          refine w_zret hK rfl rfl (Or.inr rfl) ?_
          have hz : f_l = pz := (dg_neg ((hC.bd hl).mono (by decide))).mp (by omega)
          rw [hz] at hcop
          have hc : Cop f_x f_y := hcop.mp ((Cop_pz (hC.bd hu)).mpr (IsDg.nz (hC.bd hu) (by omega)))
          exact ⟨P1, by rw [bz_pos hc], hC, hS, hF⟩
    · refine w_al hK rfl rfl ?_
      refine w_pt hK rfl hl.1 ?_
      rw [show N17 l 1 = dg f_l from hC.t ⟨hl.1, hl.2⟩]
      refine w_le hK rfl (by omega) (by omega) (fun h22 => ?_) (fun h22 => ?_)
      · refine w_al hK rfl rfl ?_
        refine w_pt hK rfl hl.1 ?_
        rw [show N17 l 1 = dg f_l from hC.t ⟨hl.1, hl.2⟩]
        refine w_eq hK rfl (by omega) (by omega) (fun h43 => ?_) (fun h43 => ?_)
        · refine w_ic hK rfl ?_
          refine w_goto hK rfl ?_
          refine w_zret hK rfl rfl (Or.inr rfl) ?_
          have hc : Cop f_x f_y := hcop.mp (Cop_const (IsDg.nz (hC.bd hl) (by omega)))
          exact ⟨P1, by rw [bz_pos hc], hC, hS, hF⟩
        · refine w_al hK rfl rfl ?_
          refine w_pt hK rfl hu.1 ?_
          rw [show N17 u 1 = dg f_u from hC.t ⟨hu.1, hu.2⟩]
          refine w_ne hK rfl (by omega) (by omega) (fun h46 => ?_) (fun h46 => ?_)
          · refine w_ic hK rfl ?_
            refine w_zret hK rfl rfl (Or.inl rfl) ?_
            have hz : f_l = pz := (dg_neg ((hC.bd hl).mono (by decide))).mp (by omega)
            rw [hz] at hcop
            have hc : ¬ Cop f_x f_y := fun q => by
              have e := dg_eq ((hC.bd hu).mono (by decide)) ((Cop_pz (hC.bd hu)).mp (hcop.mpr q))
              omega
            exact ⟨P1, by rw [bz_neg hc], hC, hS, hF⟩
          · refine w_ic hK rfl ?_
            refine w_goto hK rfl ?_
            refine w_zret hK rfl rfl (Or.inr rfl) ?_
            have hz : f_l = pz := (dg_neg ((hC.bd hl).mono (by decide))).mp (by omega)
            rw [hz] at hcop
            have hc : Cop f_x f_y := hcop.mp ((Cop_pz (hC.bd hu)).mpr (IsDg.nz (hC.bd hu) (by omega)))
            exact ⟨P1, by rw [bz_pos hc], hC, hS, hF⟩
      · refine w_al hK rfl rfl ?_
        refine w_al hK rfl rfl ?_
        refine w_al hK rfl rfl ?_
        refine w_ic hK rfl ?_
        refine w_al hK rfl rfl ?_
        refine w_getr (n := 2) (v := 10) hK rfl rfl (by decide) (by decide) rfl rfl rfl rfl ?_
        refine w_al hK rfl rfl ?_
        refine w_call [(1, 7), (1, u), (1, l), (0, 0), (1, 10), (1, r)] hK rfl rfl rfl rfl (Or.inr ⟨_, _, _, rfl, by decide, (by decide), rfl⟩) (c_div hC ⟨hu.1, hu.2⟩ ⟨hl.1, hl.2⟩ 0 (isP_of (p := 10) rfl) hr_ (by omega) (by omega) (by omega) (by omega) (by omega) (by omega)) ?_
        rintro _ V3 ⟨rfl, C3, S3⟩
        refine ⟨by decide, (?_ : Wp 198 _ 52 31 [(1, 7), (1, x), (1, y), (1, u), (1, l), (1, r), (0, (n : Int)), w7] [] V3 _)⟩
        refine w_al hK rfl rfl ?_
        refine w_as [(1, 7), (1, x), (1, y), (1, u), (1, l), (1, r), (0, (n : Int)), (1, u)] hK rfl rfl rfl ?_
        refine w_al hK rfl rfl ?_
        refine w_as [(1, 7), (1, x), (1, y), (1, l), (1, l), (1, r), (0, (n : Int)), (1, u)] hK rfl rfl rfl ?_
        refine w_al hK rfl rfl ?_
        refine w_as [(1, 7), (1, x), (1, y), (1, l), (1, r), (1, r), (0, (n : Int)), (1, u)] hK rfl rfl rfl ?_
        refine w_al hK rfl rfl ?_
        refine w_as [(1, 7), (1, x), (1, y), (1, l), (1, r), (1, u), (0, (n : Int)), (1, u)] hK rfl rfl rfl ?_
        refine w_inc [(1, 7), (1, x), (1, y), (1, l), (1, r), (1, u), (0, ((n : Int) + 1)), (1, u)] hK rfl rfl rfl (by omega) (by omega) rfl ?_
        refine w_goto hK rfl ?_
        obtain ⟨b, hb⟩ : ∃ b : Nat, dg f_l = (b : Int) := ⟨(dg f_l).toNat, by omega⟩
        have hy2 := IsDg.nz (hC.bd hl) hb
        obtain ⟨⟨m4, hm4⟩, hm5, _⟩ := dv_is 0 hy2 (hC.bd hu)
        have hm6 := dr_bd 0 hy2 (hC.bd hu)
        exact ih17 _ (by omega) l r u (n + 1) _ f_l (dr 0 f_u f_l) _ V3 rfl (by omega) (by omega) ⟨hl.1, (pu_ne (by omega)).trans ((pu_ne (by omega)).trans hl.2)⟩ ⟨hr_, pu_eq⟩ hu.1 (by omega) (by omega) (by omega) (by omega) C3 ((hS.tr S3)) (fun p h1 h2 h3 h4 => by rw [pu_ne (by omega), pu_ne (by omega)]; exact hF p h1 h2 h3 h4) ((Cop_step hm4 hm5).symm.trans hcop) (by
          have := dg_lt hm6 (by omega)
          omega)
  exact lp17 _ 12 14 16 0 _ f_y f_x _ V2 rfl (by omega) (by omega) ⟨isP_of rfl, (pu_ne (by omega)).trans pu_eq⟩ ⟨isP_of rfl, pu_eq⟩ (isP_of rfl) (by omega) (by omega) (by omega) (by omega) C2 ((S1.tr S2)) (fun p h1 h2 h3 h4 => by rw [pu_ne h3, pu_ne h2]) Cop_comm (by omega)
theorem stN_bd {k : Nat} {y : Pl k} {b : Nat} (hy : IsDg y (b : Int)) : ∀ n : Nat, Bd (stN y n) b
  | 0 => dr_bd 0 hy (n := 1) (fun j hj => by show mono e1 0 j = z0; rw [mono_at, if_neg (by omega)])
  | n + 1 => dr_bd 0 hy (n := 2 + b) (Bd_mlp (fun j hj => by rw [mono_at, if_neg (by omega)]) (stN_bd hy n))
set_option maxRecDepth 100000 in
theorem c_reach {d : Nat} {M : Mem} {k : Nat} {P : Int → Option (Pl k)} (C : CS M k P) {y : Int} {f_y : Pl k} (hy : isC P y f_y) (most : Nat) (hd : 0 ≤ dg f_y) (yn : y ≠ 12 ∧ y ≠ 14) (hm : most ≤ 1000) : Ct 198 (d + 4) 49 [(1, 7), (1, y), (0, (most : Int))] M (fun r_ M' => ∃ P' : Int → Option (Pl k), r_ = (0, rchN f_y most) ∧ CS M' k P' ∧ NPS M M' ∧ ∀ p : Int, p ≠ 12 → p ≠ 14 → P' p = P p) := by
  have hK : cd 49 = k49 := rfl
  have dy := C.dI hy
  obtain ⟨b, hb⟩ : ∃ b : Nat, dg f_y = (b : Int) := ⟨(dg f_y).toNat, by omega⟩
  have hy2 := IsDg.nz (C.bd hy) hb
  show Wp 198 _ 49 0 [(1, 7), (1, y), (0, (most : Int)), (3, 0)] [] M _
  refine w_al hK rfl rfl ?_
  refine w_al hK rfl rfl ?_
  refine w_getr (n := 3) (v := 12) hK rfl rfl (by decide) (by decide) rfl rfl rfl rfl ?_
  refine w_al hK rfl rfl ?_
  refine w_call [(1, 7), (1, 12), (1, y)] hK rfl rfl rfl rfl (Or.inr ⟨_, _, _, rfl, by decide, (by decide), rfl⟩) (c_start C (isP_of (p := 12) rfl) hy (by omega)) ?_
  rintro _ V4 ⟨rfl, C4, S4⟩
  refine ⟨by decide, (?_ : Wp 198 _ 49 5 [(1, 7), (1, y), (0, (most : Int)), (3, 0)] [] V4 _)⟩
  refine w_al hK rfl rfl ?_
  refine w_al hK rfl rfl ?_
  refine w_getr (n := 4) (v := 14) hK rfl rfl (by decide) (by decide) rfl rfl rfl rfl ?_
  refine w_al hK rfl rfl ?_
  refine w_call [(1, 7), (1, 14), (1, y)] hK rfl rfl rfl rfl (Or.inr ⟨_, _, _, rfl, by decide, (by decide), rfl⟩) (c_start C4 (isP_of (p := 14) rfl) ⟨hy.1, ((pu_ne (P := P) (f := dr 0 one f_y) (show y ≠ 12 by omega)).trans hy.2)⟩ (by omega)) ?_
  rintro _ V5 ⟨rfl, C5, S5⟩
  refine ⟨by decide, (?_ : Wp 198 _ 49 10 [(1, 7), (1, y), (0, (most : Int)), (3, 0)] [] V5 _)⟩
  refine w_ic hK rfl ?_
  refine w_is [(1, 7), (1, y), (0, (most : Int)), (0, 1)] hK rfl rfl rfl ?_
  have lp12 : ∀ (n_ : Nat) (n : Nat) (N12 : Mem), most - n = n_ → (n ≤ most) → (rchN f_y n = 0) → (CS N12 k (pu (pu P 12 (stN f_y n)) 14 (stN f_y 0))) → (NPS M N12) → Wp 198 (d + 4) 49 12 [(1, 7), (1, y), (0, (most : Int)), (0, ((n + 1 : Nat) : Int))] [] N12 (fun r_ M' => ∃ P' : Int → Option (Pl k), r_ = (0, rchN f_y most) ∧ CS M' k P' ∧ NPS M M' ∧ ∀ p : Int, p ≠ 12 → p ≠ 14 → P' p = P p) := by
    intro n_
    induction n_ using Nat.strongRecOn with
    | _ n_ ih12 =>
    intro n N12 hm12 hn hr0 hC hS
    have hlow := stN_bd hy2 n
    have hlt := dg_lt hlow (by omega)
    refine w_il hK rfl rfl ?_
    refine w_il hK rfl rfl ?_
    refine w_gt2 hK rfl (by omega) (by omega) (by omega) (by omega) (fun h14 => ?_) (fun h14 => ?_)
    · refine w_ic hK rfl ?_
      refine w_iret hK rfl rfl ?_
      have e1_ : n = most := by omega
      subst e1_
      exact ⟨_, by rw [hr0], hC, hS, fun p h1 h2 => by rw [pu_ne h2, pu_ne h1]⟩
    · refine w_al hK rfl rfl ?_
      refine w_al hK rfl rfl ?_
      refine w_getr (n := 3) (v := 12) hK rfl rfl (by decide) (by decide) rfl rfl rfl rfl ?_
      refine w_al hK rfl rfl ?_
      refine w_call [(1, 7), (1, 12), (1, y)] hK rfl rfl rfl rfl (Or.inr ⟨_, _, _, rfl, by decide, (by decide), rfl⟩) (c_step hC ⟨(isP_of (p := 12) rfl), ((pu_ne (P := pu P 12 (stN f_y n)) (f := stN f_y 0) (show 12 ≠ 14 by omega)).trans pu_eq)⟩ ⟨hy.1, ((pu_ne (P := pu P 12 (stN f_y n)) (f := stN f_y 0) (show y ≠ 14 by omega)).trans ((pu_ne (P := P) (f := stN f_y n) (show y ≠ 12 by omega)).trans hy.2))⟩ (by omega) (by omega)) ?_
      rintro _ V6 ⟨rfl, C6, S6⟩
      rw [pu_comm (P := pu P 12 (stN f_y n)) (a := 14) (b := 12) (f := stN f_y 0) (g := dr 0 (mlp (mono e1 1) (stN f_y n)) f_y) (by omega), pu_pu (P := P) (p := 12) (f := stN f_y n) (g := dr 0 (mlp (mono e1 1) (stN f_y n)) f_y)] at C6
      refine ⟨by decide, (?_ : Wp 198 _ 49 20 [(1, 7), (1, y), (0, (most : Int)), (0, ((n + 1 : Nat) : Int))] [] V6 _)⟩
      refine w_al hK rfl rfl ?_
      refine w_getr (n := 3) (v := 12) hK rfl rfl (by decide) (by decide) rfl rfl rfl rfl ?_
      refine w_al hK rfl rfl ?_
      refine w_getr (n := 4) (v := 14) hK rfl rfl (by decide) (by decide) rfl rfl rfl rfl ?_
      refine w_call [(1, 12), (1, 14)] hK rfl rfl rfl rfl (Or.inr ⟨_, _, _, rfl, (isP_of (p := 12) rfl).nn, (isP_of (p := 12) rfl).lb, (isP_of (p := 12) rfl).o⟩) (c_like C6 ⟨(isP_of (p := 12) rfl), ((pu_ne (P := pu P 12 (dr 0 (mlp (mono e1 1) (stN f_y n)) f_y)) (f := stN f_y 0) (show 12 ≠ 14 by omega)).trans pu_eq)⟩ ⟨(isP_of (p := 14) rfl), pu_eq⟩) ?_
      rintro _ Mq ⟨rfl, e_⟩
      subst Mq
      have bv_ := bz_01 ((dr 0 (mlp (mono e1 1) (stN f_y n)) f_y) = (stN f_y 0))
      refine ⟨by show (0 : Nat) ≠ 9; decide, (?_ : Wp 198 _ 49 25 [(1, 7), (1, y), (0, (most : Int)), (0, ((n + 1 : Nat) : Int))] [(0, (bz ((dr 0 (mlp (mono e1 1) (stN f_y n)) f_y) = (stN f_y 0))))] V6 _)⟩
      refine w_eq hK rfl (by omega) (by omega) (fun h25 => ?_) (fun h25 => ?_)
      · refine w_inc [(1, 7), (1, y), (0, (most : Int)), (0, (((n + 1 : Nat) : Int) + 1))] hK rfl rfl rfl (by omega) (by omega) rfl ?_
        refine w_goto hK rfl ?_
        exact ih12 _ (by omega) (n + 1) V6 rfl (by omega) (by show (if _ then _ else _) = _; rw [if_neg (by omega), show bz (stN f_y (n + 1) = stN f_y 0) = 0 from bz_neg (bz_no h25), Int.zero_mul]) C6 ((hS.tr S6))
      · refine w_il hK rfl rfl ?_
        refine w_iret hK rfl rfl ?_
        have e1_ : rchN f_y (n + 1) = (n : Int) + 1 := by
          show (if _ then _ else _) = _
          rw [if_neg (by omega), show bz (stN f_y (n + 1) = stN f_y 0) = 1 from bz_pos (bz_yes h25), Int.one_mul]
        have e2_ := rchN_keep (y := f_y) (n := n + 1) (by omega) (m := most) (by omega)
        exact ⟨_, by rw [e2_, e1_]; rfl, C6, (hS.tr S6), fun p h1 h2 => by rw [pu_ne h2, pu_ne h1]⟩
  exact lp12 _ 0 V5 rfl (by omega) rfl C5 ((S4.tr S5))
