/-! the reference's calls: commuting, part */ -/
/-- the next step of a search for the first -/
theorem fsN_s {q : Nat → Prop} {c n : Nat} (h : ∀ i : Nat, i < c → ¬ q i) (hn : c ≤ n) (hq : q c) (hc : c < n) : fsN q n = c := fsN_at h hq hc
theorem gpD_hit {k : Nat} {x : Pl k} {e c : Nat} (h : ∀ i : Nat, i < c → dr 0 x (cnp (e + 1) i) ≠ pz) (hc : dr 0 x (cnp (e + 1) c) = pz) (hn : c < unt k (e + 1)) : gpD x (e + 1) = cnp (e + 1) c := by
  have h1 := fsN_at (q := fun c => dr 0 x (cnp (e + 1) c) = pz) h hc (n := pp k ^ (e + 1)) hn
  show (if _ then _ else _) = _
  rw [h1, if_pos (show c < pp k ^ (e + 1) from hn)]
theorem gpD_no {k : Nat} {x : Pl k} {e : Nat} (h : ∀ i : Nat, i < unt k (e + 1) → dr 0 x (cnp (e + 1) i) ≠ pz) : gpD x (e + 1) = gpD x e := by
  have h1 := fsN_none (q := fun c => dr 0 x (cnp (e + 1) c) = pz) (n := pp k ^ (e + 1)) h
  show (if _ then _ else _) = _
  rw [h1, if_neg (Nat.lt_irrefl _)]
set_option maxRecDepth 100000 in
theorem ro_commuting {d : Nat} {M : Mem} {k : Nat} {pl : Nat → Pl k} {n : Int} {tx : Int → Int} {rc : Nat} {rw : Int → Int} {fc : Nat} {fa : Nat → Pl k} (H : RFS M k pl n tx rc rw fc fa) (i : Nat) (hi : i < 6) (n0 : Nat) (hn0 : dg (pl i) = (n0 : Int)) (n1_ : 1 ≤ n0) (n3_ : n0 ≤ 3) : Ct 198 (d + 8) 294 [(1, 161), (0, (i : Int))] M (fun r_ M' => r_ = (0, (sI (fun c_ : Nat => bz (dr 0 (mlp (pl i) (bnp (k := k) n0 c_)) (pl i) = pz)) (unq k n0))) ∧ RFS M' k pl n tx 1 (upr rw 0 (sI (fun c_ : Nat => bz (wyP (pl i) (pl i) n0 c_)) (unq k n0))) fc fa ∧ (∀ a : Int, (a < 161 ∨ 197 < a) → M' a = M a)) := by
  have hK : cd 294 = k294 := rfl
  obtain ⟨R, C, hpl, T, hR, hF⟩ := H
  have q1_ := qq_I k
  have p1_ := pp_I k
  have m1_ := mm_I k
  have bi_ := (hpl i hi).2
  have di_ := dg_lt9 bi_
  have u4_ := unq_4 (k := k) (s := n0) (by omega)
  show Wp 198 _ 294 0 [(1, 161), (0, (i : Int)), (3, 0), (3, 0), (3, 0), (3, 0)] [] M _
  refine w_al hK rfl rfl ?_
  refine w_ic hK rfl ?_
  refine w_puti (n := 14) (m := 14) hK rfl rfl (by decide) (by decide) rfl rfl rfl rfl ?_
  refine w_al hK rfl rfl ?_
  refine w_il hK rfl rfl ?_
  refine w_call [(1, 161), (0, (i : Int))] hK rfl rfl rfl rfl (Or.inr ⟨_, _, _, rfl, by decide, (by decide), rfl⟩) (r_ask (RS.cg C (fun j_ h1_ h2_ => up_ne2 (by omega)) (fun a_ h1_ h2_ => up_row h1_)) (PM.keep hpl (up_row (by decide))) i hi (n0 : Int) (by omega)) ?_
  rintro _ V656 ⟨P656, rfl, C656, S656, F656, f656_0⟩
  refine ⟨by show (0 : Nat) ≠ 9; decide, (?_ : Wp 198 _ 294 6 [(1, 161), (0, (i : Int)), (3, 0), (3, 0), (3, 0), (3, 0)] [(0, (n0 : Int))] V656 _)⟩
  refine w_is [(1, 161), (0, (i : Int)), (0, (n0 : Int)), (3, 0), (3, 0), (3, 0)] hK rfl rfl rfl ?_
  refine w_il hK rfl rfl ?_
  refine w_ge hK rfl (by omega) (by omega) (fun h8 => ?_) (fun h8 => ?_)
  · refine w_il hK rfl rfl ?_
    refine w_i2l hK rfl (by omega) (by omega) ?_
    refine w_lc hK rfl ?_
    refine w_lcw hK rfl ?_
    refine w_call [(2, (n0 : Int)), (2, 1), (2, 3)] hK rfl rfl rfl rfl (Or.inl rfl) (r_in (n0 : Int) 1 3 (by omega) (by omega) (by omega) (by omega) (by omega) (by omega)) ?_
    rintro _ Mq ⟨rfl, e_⟩
    subst Mq
    have iI_657 := ite01 (1 ≤ (n0 : Int) ∧ (n0 : Int) ≤ 3)
    refine ⟨by show (0 : Nat) ≠ 9; decide, (?_ : Wp 198 _ 294 16 [(1, 161), (0, (i : Int)), (0, (n0 : Int)), (3, 0), (3, 0), (3, 0)] [(0, (if 1 ≤ (n0 : Int) ∧ (n0 : Int) ≤ 3 then 1 else 0))] V656 _)⟩
    refine w_ne hK rfl (by omega) (by omega) (fun h16 => ?_) (fun h16 => ?_)
    · refine w_ic hK rfl ?_
      refine w_is [(1, 161), (0, (i : Int)), (0, (n0 : Int)), (0, 0), (3, 0), (3, 0)] hK rfl rfl rfl ?_
      refine w_ic hK rfl ?_
      refine w_is [(1, 161), (0, (i : Int)), (0, (n0 : Int)), (0, 0), (0, 0), (3, 0)] hK rfl rfl rfl ?_
      refine w_ic hK rfl ?_
      refine w_is [(1, 161), (0, (i : Int)), (0, (n0 : Int)), (0, 0), (0, 0), (0, 0)] hK rfl rfl rfl ?_
      have lp25 : ∀ (n_ : Nat) (c : Nat) (R1 : Int → Option (Pl k)) (N25 : Mem), 65537 - c = n_ → (c ≤ unq k n0) → (RS N25 k R1) → (R1 180 = some (pl i)) → ((∀ p : Int, p ≠ 170 → p ≠ 171 → p ≠ 172 → p ≠ 173 → p ≠ 174 → p ≠ 175 → p ≠ 176 → p ≠ 177 → p ≠ 178 → p ≠ 179 → p ≠ 196 → p ≠ 197 → R1 p = P656 p)) → ((∀ a : Int, (∀ p : Int, isR p → a ≠ p) → N25 a = V656 a)) → Wp 198 (d + 8) 294 25 [(1, 161), (0, (i : Int)), (0, (n0 : Int)), (0, (sI (fun c_ : Nat => bz (dr 0 (mlp (pl i) (bnp (k := k) n0 c_)) (pl i) = pz)) c)), (0, (sI (fun c_ : Nat => bz (wyP (pl i) (pl i) n0 c_)) c)), (0, (c : Int))] [] N25 (fun r_ M' => r_ = (0, (sI (fun c_ : Nat => bz (dr 0 (mlp (pl i) (bnp (k := k) n0 c_)) (pl i) = pz)) (unq k n0))) ∧ RFS M' k pl n tx 1 (upr rw 0 (sI (fun c_ : Nat => bz (wyP (pl i) (pl i) n0 c_)) (unq k n0))) fc fa ∧ (∀ a : Int, (a < 161 ∨ 197 < a) → M' a = M a)) := by
        intro n_
        induction n_ using Nat.strongRecOn with
        | _ n_ ih25 =>
        intro c R1 N25 hm25 hc hCR1 h180_ hGR1 hSN25
        have sb3_ := sI_bz (q := fun c_ : Nat => dr 0 (mlp (pl i) (bnp (k := k) n0 c_)) (pl i) = pz) c
        have sb4_ := sI_bz (q := fun c_ : Nat => wyP (pl i) (pl i) n0 c_) c
        refine w_il hK rfl rfl ?_
        refine w_al hK rfl rfl ?_
        refine w_il hK rfl rfl ?_
        refine w_call [(1, 161), (0, (n0 : Int))] hK rfl rfl rfl rfl (Or.inr ⟨_, _, _, rfl, by decide, (by decide), rfl⟩) (r_count hCR1.F n0 (by omega)) ?_
        rintro _ Mq ⟨rfl, e_⟩
        subst Mq
        refine ⟨by show (0 : Nat) ≠ 9; decide, (?_ : Wp 198 _ 294 29 [(1, 161), (0, (i : Int)), (0, (n0 : Int)), (0, (sI (fun c_ : Nat => bz (dr 0 (mlp (pl i) (bnp (k := k) n0 c_)) (pl i) = pz)) c)), (0, (sI (fun c_ : Nat => bz (wyP (pl i) (pl i) n0 c_)) c)), (0, (c : Int))] [(0, (unq k n0 : Int)), (0, (c : Int))] N25 _)⟩
        refine w_ge2 hK rfl (by omega) (by omega) (by omega) (by omega) (fun h29 => ?_) (fun h29 => ?_)
        · refine w_al hK rfl rfl ?_
          refine w_ic hK rfl ?_
          refine w_puti (n := 13) (m := 13) hK rfl rfl (by decide) (by decide) rfl rfl rfl rfl ?_
          refine w_al hK rfl rfl ?_
          refine w_il hK rfl rfl ?_
          refine w_i2l hK rfl (by omega) (by omega) ?_
          refine w_call [(1, 161), (2, (sI (fun c_ : Nat => bz (wyP (pl i) (pl i) n0 c_)) c))] hK rfl rfl rfl rfl (Or.inr ⟨_, _, _, rfl, by decide, (by decide), rfl⟩) (r_tell (RM.zero (M := (up N25 161 13 0)) (rw := rw) up_eq) (by omega) (sI (fun c_ : Nat => bz (wyP (pl i) (pl i) n0 c_)) c)) ?_
          rintro _ V658 ⟨rfl, R658, F658, G658⟩
          refine ⟨by decide, (?_ : Wp 198 _ 294 80 [(1, 161), (0, (i : Int)), (0, (n0 : Int)), (0, (sI (fun c_ : Nat => bz (dr 0 (mlp (pl i) (bnp (k := k) n0 c_)) (pl i) = pz)) c)), (0, (sI (fun c_ : Nat => bz (wyP (pl i) (pl i) n0 c_)) c)), (0, (c : Int))] [] V658 _)⟩
          refine w_il hK rfl rfl ?_
          refine w_iret hK rfl rfl ?_
          have e_ : c = unq k n0 := by omega
          subst e_
          exact ⟨rfl, ⟨_, (RS.cg (RS.cg hCR1 (fun j_ h1_ h2_ => up_ne2 (by omega)) (fun a_ h1_ h2_ => up_row h1_)) (fun j_ h1_ h2_ => G658 j_ (by omega)) (fun a_ h1_ h2_ => F658 a_ h1_ (RSc_ne h2_ (by decide) (notR rfl)))), (PM.keep hpl ((F658 167 (by decide) (by decide)).trans ((up_row (by decide)).trans ((hSN25 167 (notR rfl)).trans ((S656 167 (notR rfl)).trans (up_row (by decide))))))), (TMs.keep T ((G658 11 (by decide)).trans ((up_ne2 (by decide)).trans ((congrFun (hSN25 161 (notR rfl)) 11).trans ((congrFun (S656 161 (notR rfl)) 11).trans (up_ne2 (by decide)))))) ((F658 168 (by decide) (by decide)).trans ((up_row (by decide)).trans ((hSN25 168 (notR rfl)).trans ((S656 168 (notR rfl)).trans (up_row (by decide))))))), R658, (FM.keep hF ((G658 15 (by decide)).trans ((up_ne2 (by decide)).trans ((congrFun (hSN25 161 (notR rfl)) 15).trans ((congrFun (S656 161 (notR rfl)) 15).trans (up_ne2 (by decide)))))) ((F658 189 (by decide) (by decide)).trans ((up_row (by decide)).trans ((hSN25 189 (notR rfl)).trans ((S656 189 (notR rfl)).trans (up_row (by decide)))))) ((F658 190 (by decide) (by decide)).trans ((up_row (by decide)).trans ((hSN25 190 (notR rfl)).trans ((S656 190 (notR rfl)).trans (up_row (by decide)))))))⟩, (fun a h_ => ((F658 a (by omega) (by omega)).trans ((up_row (by omega)).trans ((hSN25 a (npR h_)).trans ((S656 a (npR h_)).trans (up_row (by omega)))))))⟩
        · refine w_al hK rfl rfl ?_
          refine w_il hK rfl rfl ?_
          refine w_il hK rfl rfl ?_
          refine w_al hK rfl rfl ?_
          refine w_getr (n := 44) (v := 196) hK rfl rfl (by decide) (by decide) rfl rfl rfl rfl ?_
          refine w_call [(1, 161), (0, (n0 : Int)), (0, (c : Int)), (1, 196)] hK rfl rfl rfl rfl (Or.inr ⟨_, _, _, rfl, by decide, (by decide), rfl⟩) (r_bof hCR1 (isR_of (p := 196) rfl) n0 c (by omega) (by omega)) ?_
          rintro _ V659 ⟨P659, rfl, C659, S659, F659, f659_0⟩
          refine ⟨by decide, (?_ : Wp 198 _ 294 36 [(1, 161), (0, (i : Int)), (0, (n0 : Int)), (0, (sI (fun c_ : Nat => bz (dr 0 (mlp (pl i) (bnp (k := k) n0 c_)) (pl i) = pz)) c)), (0, (sI (fun c_ : Nat => bz (wyP (pl i) (pl i) n0 c_)) c)), (0, (c : Int))] [] V659 _)⟩
          refine w_al hK rfl rfl ?_
          refine w_al hK rfl rfl ?_
          refine w_getr (n := 26) (v := 180) hK rfl rfl (by decide) (by decide) rfl rfl rfl rfl ?_
          refine w_al hK rfl rfl ?_
          refine w_getr (n := 44) (v := 196) hK rfl rfl (by decide) (by decide) rfl rfl rfl rfl ?_
          refine w_al hK rfl rfl ?_
          refine w_getr (n := 45) (v := 197) hK rfl rfl (by decide) (by decide) rfl rfl rfl rfl ?_
          have pr_ := pr_17 bi_ (bnp_bd (k := k) (n := n0) (c := c)) (by omega)
          refine w_call [(1, 161), (1, 180), (1, 196), (1, 197)] hK rfl rfl rfl rfl (Or.inr ⟨_, _, _, rfl, by decide, (by decide), rfl⟩) (r_prod C659 ⟨(isR_of (p := 180) rfl), ((F659 180 (by omega)).trans h180_)⟩ ⟨(isR_of (p := 196) rfl), f659_0⟩ (isR_of (p := 197) rfl) (by omega) (by omega) (by omega) (by omega)) ?_
          rintro _ V660 ⟨P660, rfl, C660, S660, F660, f660_0⟩
          refine ⟨by decide, (?_ : Wp 198 _ 294 44 [(1, 161), (0, (i : Int)), (0, (n0 : Int)), (0, (sI (fun c_ : Nat => bz (dr 0 (mlp (pl i) (bnp (k := k) n0 c_)) (pl i) = pz)) c)), (0, (sI (fun c_ : Nat => bz (wyP (pl i) (pl i) n0 c_)) c)), (0, (c : Int))] [] V660 _)⟩
          refine w_al hK rfl rfl ?_
          refine w_al hK rfl rfl ?_
          refine w_getr (n := 45) (v := 197) hK rfl rfl (by decide) (by decide) rfl rfl rfl rfl ?_
          refine w_al hK rfl rfl ?_
          refine w_getr (n := 26) (v := 180) hK rfl rfl (by decide) (by decide) rfl rfl rfl rfl ?_
          refine w_ic hK rfl ?_
          refine w_call [(1, 161), (1, 197), (1, 180), (0, 0)] hK rfl rfl rfl rfl (Or.inr ⟨_, _, _, rfl, by decide, (by decide), rfl⟩) (r_isdv C660 ⟨(isR_of (p := 197) rfl), f660_0⟩ ⟨(isR_of (p := 180) rfl), ((F660 180 (by omega) (by omega)).trans ((F659 180 (by omega)).trans h180_))⟩ 0 (by omega) (by omega) (by omega) (by omega) pr_.2.2 (bi_.mono (by decide))) ?_
          rintro _ V661 ⟨P661, rfl, C661, S661, F661, f661_0, f661_1⟩
          have bv_ := bz_01 (dr 0 (mlp (pl i) (bnp (k := k) n0 c)) (pl i) = pz)
          refine ⟨by show (0 : Nat) ≠ 9; decide, (?_ : Wp 198 _ 294 51 [(1, 161), (0, (i : Int)), (0, (n0 : Int)), (0, (sI (fun c_ : Nat => bz (dr 0 (mlp (pl i) (bnp (k := k) n0 c_)) (pl i) = pz)) c)), (0, (sI (fun c_ : Nat => bz (wyP (pl i) (pl i) n0 c_)) c)), (0, (c : Int))] [(0, (bz (dr 0 (mlp (pl i) (bnp (k := k) n0 c)) (pl i) = pz)))] V661 _)⟩
          refine w_ne hK rfl (by omega) (by omega) (fun h51 => ?_) (fun h51 => ?_)
          · refine w_inc [(1, 161), (0, (i : Int)), (0, (n0 : Int)), (0, ((sI (fun c_ : Nat => bz (dr 0 (mlp (pl i) (bnp (k := k) n0 c_)) (pl i) = pz)) c) + 1)), (0, (sI (fun c_ : Nat => bz (wyP (pl i) (pl i) n0 c_)) c)), (0, (c : Int))] hK rfl rfl rfl (by omega) (by omega) rfl ?_
            refine w_al hK rfl rfl ?_
            refine w_al hK rfl rfl ?_
            refine w_getr (n := 44) (v := 196) hK rfl rfl (by decide) (by decide) rfl rfl rfl rfl ?_
            refine w_al hK rfl rfl ?_
            refine w_getr (n := 26) (v := 180) hK rfl rfl (by decide) (by decide) rfl rfl rfl rfl ?_
            refine w_ic hK rfl ?_
            refine w_call [(1, 161), (1, 196), (1, 180), (0, 0)] hK rfl rfl rfl rfl (Or.inr ⟨_, _, _, rfl, by decide, (by decide), rfl⟩) (r_euc C661 ⟨(isR_of (p := 196) rfl), ((F661 196 (by omega) (by omega) (by omega) (by omega) (by omega)).trans ((F660 196 (by omega) (by omega)).trans f659_0))⟩ ⟨(isR_of (p := 180) rfl), ((F661 180 (by omega) (by omega) (by omega) (by omega) (by omega)).trans ((F660 180 (by omega) (by omega)).trans ((F659 180 (by omega)).trans h180_)))⟩ 0 (by omega) (by omega) (by omega) (bnp_bd.mono (by omega)) bi_) ?_
            rintro _ V662 ⟨P662, rfl, C662, S662, F662, f662_0, f662_1⟩
            refine ⟨by decide, (?_ : Wp 198 _ 294 61 [(1, 161), (0, (i : Int)), (0, (n0 : Int)), (0, ((sI (fun c_ : Nat => bz (dr 0 (mlp (pl i) (bnp (k := k) n0 c_)) (pl i) = pz)) c) + 1)), (0, (sI (fun c_ : Nat => bz (wyP (pl i) (pl i) n0 c_)) c)), (0, (c : Int))] [] V662 _)⟩
            refine w_il hK rfl rfl ?_
            refine w_al hK rfl rfl ?_
            refine w_getr (n := 21) (v := 175) hK rfl rfl (by decide) (by decide) rfl rfl rfl rfl ?_
            have dI_ : -1 ≤ dg ((euL 0 (bnp (k := k) n0 c) (pl i)).1) ∧ dg ((euL 0 (bnp (k := k) n0 c) (pl i)).1) ≤ 47 := C662.dI ⟨(isR_of (p := 175) rfl), f662_0⟩
            refine w_call [(1, 175)] hK rfl rfl rfl rfl (Or.inl rfl) (r_deg C662 ⟨(isR_of (p := 175) rfl), f662_0⟩) ?_
            rintro _ Mq ⟨rfl, e_⟩
            subst Mq
            refine ⟨by show (0 : Nat) ≠ 9; decide, (?_ : Wp 198 _ 294 65 [(1, 161), (0, (i : Int)), (0, (n0 : Int)), (0, ((sI (fun c_ : Nat => bz (dr 0 (mlp (pl i) (bnp (k := k) n0 c_)) (pl i) = pz)) c) + 1)), (0, (sI (fun c_ : Nat => bz (wyP (pl i) (pl i) n0 c_)) c)), (0, (c : Int))] [(0, (dg ((euL 0 (bnp (k := k) n0 c) (pl i)).1))), (0, (sI (fun c_ : Nat => bz (wyP (pl i) (pl i) n0 c_)) c))] V662 _)⟩
            refine w_ne hK rfl (by omega) (by omega) (fun h65 => ?_) (fun h65 => ?_)
            · refine w_ic hK rfl ?_
              refine w_add hK rfl (by omega) (by omega) ?_
              refine w_is [(1, 161), (0, (i : Int)), (0, (n0 : Int)), (0, ((sI (fun c_ : Nat => bz (dr 0 (mlp (pl i) (bnp (k := k) n0 c_)) (pl i) = pz)) c) + 1)), (0, ((sI (fun c_ : Nat => bz (wyP (pl i) (pl i) n0 c_)) c) + 0)), (0, (c : Int))] hK rfl rfl rfl ?_
              refine w_inc [(1, 161), (0, (i : Int)), (0, (n0 : Int)), (0, ((sI (fun c_ : Nat => bz (dr 0 (mlp (pl i) (bnp (k := k) n0 c_)) (pl i) = pz)) c) + 1)), (0, ((sI (fun c_ : Nat => bz (wyP (pl i) (pl i) n0 c_)) c) + 0)), (0, ((c : Int) + 1))] hK rfl rfl rfl (by omega) (by omega) rfl ?_
              refine w_goto hK rfl ?_
              have b3_ : bz (dr 0 (mlp (pl i) (bnp (k := k) n0 c)) (pl i) = pz) = 1 := by omega
              have b4_ : bz (wyP (pl i) (pl i) n0 c) = 0 := bz_neg (fun w_ => h65 w_.2)
              rw [show ((sI (fun c_ : Nat => bz (dr 0 (mlp (pl i) (bnp (k := k) n0 c_)) (pl i) = pz)) c) + 1) = (sI (fun c_ : Nat => bz (dr 0 (mlp (pl i) (bnp (k := k) n0 c_)) (pl i) = pz)) (c + 1)) from (show ((sI (fun c_ : Nat => bz (dr 0 (mlp (pl i) (bnp (k := k) n0 c_)) (pl i) = pz)) c) + 1) = (sI (fun c_ : Nat => bz (dr 0 (mlp (pl i) (bnp (k := k) n0 c_)) (pl i) = pz)) c) + bz (dr 0 (mlp (pl i) (bnp (k := k) n0 c)) (pl i) = pz) by omega).trans rfl]
              rw [show ((sI (fun c_ : Nat => bz (wyP (pl i) (pl i) n0 c_)) c) + 0) = (sI (fun c_ : Nat => bz (wyP (pl i) (pl i) n0 c_)) (c + 1)) from (show ((sI (fun c_ : Nat => bz (wyP (pl i) (pl i) n0 c_)) c) + 0) = (sI (fun c_ : Nat => bz (wyP (pl i) (pl i) n0 c_)) c) + bz (wyP (pl i) (pl i) n0 c) by omega).trans rfl]
              exact ih25 _ (by omega) (c + 1) _ V662 rfl (by omega) C662 (((F662 180 (by omega) (by omega) (by omega) (by omega) (by omega) (by omega) (by omega) (by omega) (by omega) (by omega)).trans ((F661 180 (by omega) (by omega) (by omega) (by omega) (by omega)).trans ((F660 180 (by omega) (by omega)).trans ((F659 180 (by omega)).trans h180_))))) (fun p pn170_ pn171_ pn172_ pn173_ pn174_ pn175_ pn176_ pn177_ pn178_ pn179_ pn196_ pn197_ => ((F662 p pn170_ pn171_ pn172_ pn173_ pn174_ pn175_ pn176_ pn177_ pn178_ pn179_).trans ((F661 p pn170_ pn171_ pn172_ pn173_ pn174_).trans ((F660 p pn170_ pn197_).trans ((F659 p pn196_).trans (hGR1 p pn170_ pn171_ pn172_ pn173_ pn174_ pn175_ pn176_ pn177_ pn178_ pn179_ pn196_ pn197_)))))) (fun a nr_ => ((S662 a nr_).trans ((S661 a nr_).trans ((S660 a nr_).trans ((S659 a nr_).trans (hSN25 a nr_))))))
            · refine w_ic hK rfl ?_
              refine w_goto hK rfl ?_
              refine w_add hK rfl (by omega) (by omega) ?_
              refine w_is [(1, 161), (0, (i : Int)), (0, (n0 : Int)), (0, ((sI (fun c_ : Nat => bz (dr 0 (mlp (pl i) (bnp (k := k) n0 c_)) (pl i) = pz)) c) + 1)), (0, ((sI (fun c_ : Nat => bz (wyP (pl i) (pl i) n0 c_)) c) + 1)), (0, (c : Int))] hK rfl rfl rfl ?_
              refine w_inc [(1, 161), (0, (i : Int)), (0, (n0 : Int)), (0, ((sI (fun c_ : Nat => bz (dr 0 (mlp (pl i) (bnp (k := k) n0 c_)) (pl i) = pz)) c) + 1)), (0, ((sI (fun c_ : Nat => bz (wyP (pl i) (pl i) n0 c_)) c) + 1)), (0, ((c : Int) + 1))] hK rfl rfl rfl (by omega) (by omega) rfl ?_
              refine w_goto hK rfl ?_
              have b3_ : bz (dr 0 (mlp (pl i) (bnp (k := k) n0 c)) (pl i) = pz) = 1 := by omega
              have b4_ : bz (wyP (pl i) (pl i) n0 c) = 1 := bz_pos ⟨bz_yes (by omega), by omega⟩
              rw [show ((sI (fun c_ : Nat => bz (dr 0 (mlp (pl i) (bnp (k := k) n0 c_)) (pl i) = pz)) c) + 1) = (sI (fun c_ : Nat => bz (dr 0 (mlp (pl i) (bnp (k := k) n0 c_)) (pl i) = pz)) (c + 1)) from (show ((sI (fun c_ : Nat => bz (dr 0 (mlp (pl i) (bnp (k := k) n0 c_)) (pl i) = pz)) c) + 1) = (sI (fun c_ : Nat => bz (dr 0 (mlp (pl i) (bnp (k := k) n0 c_)) (pl i) = pz)) c) + bz (dr 0 (mlp (pl i) (bnp (k := k) n0 c)) (pl i) = pz) by omega).trans rfl]
              rw [show ((sI (fun c_ : Nat => bz (wyP (pl i) (pl i) n0 c_)) c) + 1) = (sI (fun c_ : Nat => bz (wyP (pl i) (pl i) n0 c_)) (c + 1)) from (show ((sI (fun c_ : Nat => bz (wyP (pl i) (pl i) n0 c_)) c) + 1) = (sI (fun c_ : Nat => bz (wyP (pl i) (pl i) n0 c_)) c) + bz (wyP (pl i) (pl i) n0 c) by omega).trans rfl]
              exact ih25 _ (by omega) (c + 1) _ V662 rfl (by omega) C662 (((F662 180 (by omega) (by omega) (by omega) (by omega) (by omega) (by omega) (by omega) (by omega) (by omega) (by omega)).trans ((F661 180 (by omega) (by omega) (by omega) (by omega) (by omega)).trans ((F660 180 (by omega) (by omega)).trans ((F659 180 (by omega)).trans h180_))))) (fun p pn170_ pn171_ pn172_ pn173_ pn174_ pn175_ pn176_ pn177_ pn178_ pn179_ pn196_ pn197_ => ((F662 p pn170_ pn171_ pn172_ pn173_ pn174_ pn175_ pn176_ pn177_ pn178_ pn179_).trans ((F661 p pn170_ pn171_ pn172_ pn173_ pn174_).trans ((F660 p pn170_ pn197_).trans ((F659 p pn196_).trans (hGR1 p pn170_ pn171_ pn172_ pn173_ pn174_ pn175_ pn176_ pn177_ pn178_ pn179_ pn196_ pn197_)))))) (fun a nr_ => ((S662 a nr_).trans ((S661 a nr_).trans ((S660 a nr_).trans ((S659 a nr_).trans (hSN25 a nr_))))))
          · refine w_goto hK rfl ?_
            refine w_inc [(1, 161), (0, (i : Int)), (0, (n0 : Int)), (0, (sI (fun c_ : Nat => bz (dr 0 (mlp (pl i) (bnp (k := k) n0 c_)) (pl i) = pz)) c)), (0, (sI (fun c_ : Nat => bz (wyP (pl i) (pl i) n0 c_)) c)), (0, ((c : Int) + 1))] hK rfl rfl rfl (by omega) (by omega) rfl ?_
            refine w_goto hK rfl ?_
            have b3_ : bz (dr 0 (mlp (pl i) (bnp (k := k) n0 c)) (pl i) = pz) = 0 := by omega
            have b4_ : bz (wyP (pl i) (pl i) n0 c) = 0 := bz_neg (fun w_ => bz_no (by omega) w_.1)
            rw [show (sI (fun c_ : Nat => bz (dr 0 (mlp (pl i) (bnp (k := k) n0 c_)) (pl i) = pz)) c) = (sI (fun c_ : Nat => bz (dr 0 (mlp (pl i) (bnp (k := k) n0 c_)) (pl i) = pz)) (c + 1)) from (show (sI (fun c_ : Nat => bz (dr 0 (mlp (pl i) (bnp (k := k) n0 c_)) (pl i) = pz)) c) = (sI (fun c_ : Nat => bz (dr 0 (mlp (pl i) (bnp (k := k) n0 c_)) (pl i) = pz)) c) + bz (dr 0 (mlp (pl i) (bnp (k := k) n0 c)) (pl i) = pz) by omega).trans rfl]
            rw [show (sI (fun c_ : Nat => bz (wyP (pl i) (pl i) n0 c_)) c) = (sI (fun c_ : Nat => bz (wyP (pl i) (pl i) n0 c_)) (c + 1)) from (show (sI (fun c_ : Nat => bz (wyP (pl i) (pl i) n0 c_)) c) = (sI (fun c_ : Nat => bz (wyP (pl i) (pl i) n0 c_)) c) + bz (wyP (pl i) (pl i) n0 c) by omega).trans rfl]
            exact ih25 _ (by omega) (c + 1) _ V661 rfl (by omega) C661 (((F661 180 (by omega) (by omega) (by omega) (by omega) (by omega)).trans ((F660 180 (by omega) (by omega)).trans ((F659 180 (by omega)).trans h180_)))) (fun p pn170_ pn171_ pn172_ pn173_ pn174_ pn175_ pn176_ pn177_ pn178_ pn179_ pn196_ pn197_ => ((F661 p pn170_ pn171_ pn172_ pn173_ pn174_).trans ((F660 p pn170_ pn197_).trans ((F659 p pn196_).trans (hGR1 p pn170_ pn171_ pn172_ pn173_ pn174_ pn175_ pn176_ pn177_ pn178_ pn179_ pn196_ pn197_))))) (fun a nr_ => ((S661 a nr_).trans ((S660 a nr_).trans ((S659 a nr_).trans (hSN25 a nr_)))))
      exact lp25 _ 0 _ V656 rfl (by omega) C656 (f656_0) (fun p pn170_ pn171_ pn172_ pn173_ pn174_ pn175_ pn176_ pn177_ pn178_ pn179_ pn196_ pn197_ => rfl) (fun a nr_ => rfl)
    · exfalso; omega
  · exfalso; omega
set_option maxRecDepth 100000 in
theorem ry_commuting {d : Nat} {M : Mem} {k : Nat} {pl : Nat → Pl k} {n : Int} {tx : Int → Int} {rc : Nat} {rw : Int → Int} {fc : Nat} {fa : Nat → Pl k} (H : RFS M k pl n tx rc rw fc fa) (i : Nat) (hi : i < 6) (hi0 : dg (pl i) < 0) : Ct 198 (d + 8) 294 [(1, 161), (0, (i : Int))] M (fun r_ M' => r_ = (0, (-2)) ∧ RFS M' k pl n tx rc rw fc fa ∧ (∀ a : Int, (a < 161 ∨ 197 < a) → M' a = M a)) := by
  have hK : cd 294 = k294 := rfl
  obtain ⟨R, C, hpl, T, hR, hF⟩ := H
  have q1_ := qq_I k
  have p1_ := pp_I k
  have m1_ := mm_I k
  have bi_ := (hpl i hi).2
  have di_ := dg_lt9 bi_
  show Wp 198 _ 294 0 [(1, 161), (0, (i : Int)), (3, 0), (3, 0), (3, 0), (3, 0)] [] M _
  refine w_al hK rfl rfl ?_
  refine w_ic hK rfl ?_
  refine w_puti (n := 14) (m := 14) hK rfl rfl (by decide) (by decide) rfl rfl rfl rfl ?_
  refine w_al hK rfl rfl ?_
  refine w_il hK rfl rfl ?_
  refine w_call [(1, 161), (0, (i : Int))] hK rfl rfl rfl rfl (Or.inr ⟨_, _, _, rfl, by decide, (by decide), rfl⟩) (r_ask (RS.cg C (fun j_ h1_ h2_ => up_ne2 (by omega)) (fun a_ h1_ h2_ => up_row h1_)) (PM.keep hpl (up_row (by decide))) i hi (-2) (by omega)) ?_
  rintro _ V663 ⟨P663, rfl, C663, S663, F663, f663_0⟩
  refine ⟨by show (0 : Nat) ≠ 9; decide, (?_ : Wp 198 _ 294 6 [(1, 161), (0, (i : Int)), (3, 0), (3, 0), (3, 0), (3, 0)] [(0, (-2))] V663 _)⟩
  refine w_is [(1, 161), (0, (i : Int)), (0, (-2)), (3, 0), (3, 0), (3, 0)] hK rfl rfl rfl ?_
  refine w_il hK rfl rfl ?_
  refine w_ge hK rfl (by omega) (by omega) (fun h8 => ?_) (fun h8 => ?_)
  · exfalso; omega
  · refine w_il hK rfl rfl ?_
    refine w_iret hK rfl rfl ?_
    exact ⟨rfl, ⟨_, C663, (PM.keep hpl ((S663 167 (notR rfl)).trans (up_row (by decide)))), (TMs.keep T ((congrFun (S663 161 (notR rfl)) 11).trans (up_ne2 (by decide))) ((S663 168 (notR rfl)).trans (up_row (by decide)))), (RM.keep hR ((congrFun (S663 161 (notR rfl)) 13).trans (up_ne2 (by decide))) ((S663 169 (notR rfl)).trans (up_row (by decide)))), (FM.keep hF ((congrFun (S663 161 (notR rfl)) 15).trans (up_ne2 (by decide))) ((S663 189 (notR rfl)).trans (up_row (by decide))) ((S663 190 (notR rfl)).trans (up_row (by decide))))⟩, (fun a h_ => ((S663 a (npR h_)).trans (up_row (by omega))))⟩
set_option maxRecDepth 100000 in
theorem rz_commuting {d : Nat} {M : Mem} {k : Nat} {pl : Nat → Pl k} {n : Int} {tx : Int → Int} {rc : Nat} {rw : Int → Int} {fc : Nat} {fa : Nat → Pl k} (H : RFS M k pl n tx rc rw fc fa) (i : Nat) (hi : i < 6) (hi0 : 4 < dg (pl i)) : Ct 198 (d + 8) 294 [(1, 161), (0, (i : Int))] M (fun r_ M' => r_ = (0, (-3)) ∧ RFS M' k pl n tx rc rw fc fa ∧ (∀ a : Int, (a < 161 ∨ 197 < a) → M' a = M a)) := by
  have hK : cd 294 = k294 := rfl
  obtain ⟨R, C, hpl, T, hR, hF⟩ := H
  have q1_ := qq_I k
  have p1_ := pp_I k
  have m1_ := mm_I k
  have bi_ := (hpl i hi).2
  have di_ := dg_lt9 bi_
  show Wp 198 _ 294 0 [(1, 161), (0, (i : Int)), (3, 0), (3, 0), (3, 0), (3, 0)] [] M _
  refine w_al hK rfl rfl ?_
  refine w_ic hK rfl ?_
  refine w_puti (n := 14) (m := 14) hK rfl rfl (by decide) (by decide) rfl rfl rfl rfl ?_
  refine w_al hK rfl rfl ?_
  refine w_il hK rfl rfl ?_
  refine w_call [(1, 161), (0, (i : Int))] hK rfl rfl rfl rfl (Or.inr ⟨_, _, _, rfl, by decide, (by decide), rfl⟩) (r_ask (RS.cg C (fun j_ h1_ h2_ => up_ne2 (by omega)) (fun a_ h1_ h2_ => up_row h1_)) (PM.keep hpl (up_row (by decide))) i hi (-3) (by omega)) ?_
  rintro _ V664 ⟨P664, rfl, C664, S664, F664, f664_0⟩
  refine ⟨by show (0 : Nat) ≠ 9; decide, (?_ : Wp 198 _ 294 6 [(1, 161), (0, (i : Int)), (3, 0), (3, 0), (3, 0), (3, 0)] [(0, (-3))] V664 _)⟩
  refine w_is [(1, 161), (0, (i : Int)), (0, (-3)), (3, 0), (3, 0), (3, 0)] hK rfl rfl rfl ?_
  refine w_il hK rfl rfl ?_
  refine w_ge hK rfl (by omega) (by omega) (fun h8 => ?_) (fun h8 => ?_)
  · exfalso; omega
  · refine w_il hK rfl rfl ?_
    refine w_iret hK rfl rfl ?_
    exact ⟨rfl, ⟨_, C664, (PM.keep hpl ((S664 167 (notR rfl)).trans (up_row (by decide)))), (TMs.keep T ((congrFun (S664 161 (notR rfl)) 11).trans (up_ne2 (by decide))) ((S664 168 (notR rfl)).trans (up_row (by decide)))), (RM.keep hR ((congrFun (S664 161 (notR rfl)) 13).trans (up_ne2 (by decide))) ((S664 169 (notR rfl)).trans (up_row (by decide)))), (FM.keep hF ((congrFun (S664 161 (notR rfl)) 15).trans (up_ne2 (by decide))) ((S664 189 (notR rfl)).trans (up_row (by decide))) ((S664 190 (notR rfl)).trans (up_row (by decide))))⟩, (fun a h_ => ((S664 a (npR h_)).trans (up_row (by omega))))⟩
set_option maxRecDepth 100000 in
theorem rx_commuting {d : Nat} {M : Mem} {k : Nat} {pl : Nat → Pl k} {n : Int} {tx : Int → Int} {rc : Nat} {rw : Int → Int} {fc : Nat} {fa : Nat → Pl k} (H : RFS M k pl n tx rc rw fc fa) (i : Nat) (hi : i < 6) (hi0 : dg (pl i) = 0 ∨ 3 < dg (pl i)) (hi4 : dg (pl i) ≤ 4) : Ct 198 (d + 8) 294 [(1, 161), (0, (i : Int))] M (fun r_ M' => r_ = (0, (-3)) ∧ RFS M' k pl n tx rc rw fc fa ∧ (∀ a : Int, (a < 161 ∨ 197 < a) → M' a = M a)) := by
  have hK : cd 294 = k294 := rfl
  obtain ⟨R, C, hpl, T, hR, hF⟩ := H
  have q1_ := qq_I k
  have p1_ := pp_I k
  have m1_ := mm_I k
  have bi_ := (hpl i hi).2
  have di_ := dg_lt9 bi_
  show Wp 198 _ 294 0 [(1, 161), (0, (i : Int)), (3, 0), (3, 0), (3, 0), (3, 0)] [] M _
  refine w_al hK rfl rfl ?_
  refine w_ic hK rfl ?_
  refine w_puti (n := 14) (m := 14) hK rfl rfl (by decide) (by decide) rfl rfl rfl rfl ?_
  refine w_al hK rfl rfl ?_
  refine w_il hK rfl rfl ?_
  refine w_call [(1, 161), (0, (i : Int))] hK rfl rfl rfl rfl (Or.inr ⟨_, _, _, rfl, by decide, (by decide), rfl⟩) (r_ask (RS.cg C (fun j_ h1_ h2_ => up_ne2 (by omega)) (fun a_ h1_ h2_ => up_row h1_)) (PM.keep hpl (up_row (by decide))) i hi (dg (pl i)) (by omega)) ?_
  rintro _ V665 ⟨P665, rfl, C665, S665, F665, f665_0⟩
  refine ⟨by show (0 : Nat) ≠ 9; decide, (?_ : Wp 198 _ 294 6 [(1, 161), (0, (i : Int)), (3, 0), (3, 0), (3, 0), (3, 0)] [(0, (dg (pl i)))] V665 _)⟩
  refine w_is [(1, 161), (0, (i : Int)), (0, (dg (pl i))), (3, 0), (3, 0), (3, 0)] hK rfl rfl rfl ?_
  refine w_il hK rfl rfl ?_
  refine w_ge hK rfl (by omega) (by omega) (fun h8 => ?_) (fun h8 => ?_)
  · refine w_il hK rfl rfl ?_
    refine w_i2l hK rfl (by omega) (by omega) ?_
    refine w_lc hK rfl ?_
    refine w_lcw hK rfl ?_
    refine w_call [(2, (dg (pl i))), (2, 1), (2, 3)] hK rfl rfl rfl rfl (Or.inl rfl) (r_in (dg (pl i)) 1 3 (by omega) (by omega) (by omega) (by omega) (by omega) (by omega)) ?_
    rintro _ Mq ⟨rfl, e_⟩
    subst Mq
    have iI_666 := ite01 (1 ≤ (dg (pl i)) ∧ (dg (pl i)) ≤ 3)
    refine ⟨by show (0 : Nat) ≠ 9; decide, (?_ : Wp 198 _ 294 16 [(1, 161), (0, (i : Int)), (0, (dg (pl i))), (3, 0), (3, 0), (3, 0)] [(0, (if 1 ≤ (dg (pl i)) ∧ (dg (pl i)) ≤ 3 then 1 else 0))] V665 _)⟩
    refine w_ne hK rfl (by omega) (by omega) (fun h16 => ?_) (fun h16 => ?_)
    · exfalso; omega
    · refine w_ic hK rfl ?_
      refine w_iret hK rfl rfl ?_
      exact ⟨rfl, ⟨_, C665, (PM.keep hpl ((S665 167 (notR rfl)).trans (up_row (by decide)))), (TMs.keep T ((congrFun (S665 161 (notR rfl)) 11).trans (up_ne2 (by decide))) ((S665 168 (notR rfl)).trans (up_row (by decide)))), (RM.keep hR ((congrFun (S665 161 (notR rfl)) 13).trans (up_ne2 (by decide))) ((S665 169 (notR rfl)).trans (up_row (by decide)))), (FM.keep hF ((congrFun (S665 161 (notR rfl)) 15).trans (up_ne2 (by decide))) ((S665 189 (notR rfl)).trans (up_row (by decide))) ((S665 190 (notR rfl)).trans (up_row (by decide))))⟩, (fun a h_ => ((S665 a (npR h_)).trans (up_row (by omega))))⟩
  · exfalso; omega
set_option maxRecDepth 100000 in
theorem rn_commuting {d : Nat} {M : Mem} {k : Nat} {pl : Nat → Pl k} {n : Int} {tx : Int → Int} {rc : Nat} {rw : Int → Int} {fc : Nat} {fa : Nat → Pl k} (H : RFS M k pl n tx rc rw fc fa) (i : Int) (i1_ : -2147483648 ≤ i) (i2_ : i ≤ 2147483647) (hn : ¬ (0 ≤ i ∧ i < 6)) : Ct 198 (d + 8) 294 [(1, 161), (0, i)] M (fun r_ M' => r_ = (0, -1) ∧ RFS M' k pl n tx rc rw fc fa ∧ (∀ a : Int, (a < 161 ∨ 197 < a) → M' a = M a)) := by
  have hK : cd 294 = k294 := rfl
  obtain ⟨R, C, hpl, T, hR, hF⟩ := H
  have q1_ := qq_I k
  have p1_ := pp_I k
  have m1_ := mm_I k
  show Wp 198 _ 294 0 [(1, 161), (0, i), (3, 0), (3, 0), (3, 0), (3, 0)] [] M _
  refine w_al hK rfl rfl ?_
  refine w_ic hK rfl ?_
  refine w_puti (n := 14) (m := 14) hK rfl rfl (by decide) (by decide) rfl rfl rfl rfl ?_
  refine w_al hK rfl rfl ?_
  refine w_il hK rfl rfl ?_
  refine w_call [(1, 161), (0, i)] hK rfl rfl rfl rfl (Or.inr ⟨_, _, _, rfl, by decide, (by decide), rfl⟩) (r_askN i (by omega) (by omega) (by omega)) ?_
  rintro _ Mq ⟨rfl, e_⟩
  subst Mq
  refine ⟨by show (0 : Nat) ≠ 9; decide, (?_ : Wp 198 _ 294 6 [(1, 161), (0, i), (3, 0), (3, 0), (3, 0), (3, 0)] [(0, (-1))] (up M 161 14 0) _)⟩
  refine w_is [(1, 161), (0, i), (0, (-1)), (3, 0), (3, 0), (3, 0)] hK rfl rfl rfl ?_
  refine w_il hK rfl rfl ?_
  refine w_ge hK rfl (by omega) (by omega) (fun h8 => ?_) (fun h8 => ?_)
  · exfalso; omega
  · refine w_il hK rfl rfl ?_
    refine w_iret hK rfl rfl ?_
    exact ⟨rfl, ⟨_, (RS.cg C (fun j_ h1_ h2_ => up_ne2 (by omega)) (fun a_ h1_ h2_ => up_row h1_)), (PM.keep hpl (up_row (by decide))), (TMs.keep T (up_ne2 (by decide)) (up_row (by decide))), (RM.keep hR (up_ne2 (by decide)) (up_row (by decide))), (FM.keep hF (up_ne2 (by decide)) (up_row (by decide)) (up_row (by decide)))⟩, (fun a h_ => (up_row (by omega)))⟩
set_option maxRecDepth 100000 in
theorem ro_part {d : Nat} {M : Mem} {k : Nat} {pl : Nat → Pl k} {n : Int} {tx : Int → Int} {rc : Nat} {rw : Int → Int} {fc : Nat} {fa : Nat → Pl k} (H : RFS M k pl n tx rc rw fc fa) (i : Nat) (hi : i < 6) (j : Nat) (hj : j < 6) (n0 : Nat) (hn0 : dg (pl i) = (n0 : Int)) (n4_ : n0 ≤ 4) : Ct 198 (d + 8) 299 [(1, 161), (0, (i : Int)), (0, (j : Int))] M (fun r_ M' => r_ = (0, (dg (gpD (pl i) (n0 / mm k)))) ∧ RFS M' k (fup pl j (gpD (pl i) (n0 / mm k))) n tx rc rw fc fa ∧ (∀ a : Int, (a < 161 ∨ 197 < a) → M' a = M a)) := by
  have hK : cd 299 = k299 := rfl
  obtain ⟨R, C, hpl, T, hR, hF⟩ := H
  have q1_ := qq_I k
  have p1_ := pp_I k
  have m1_ := mm_I k
  have bi_ := (hpl i hi).2
  have di_ := dg_lt9 bi_
  have bj_ := (hpl j hj).2
  have dj_ := dg_lt9 bj_
  have bo_ : Bd (up1 (pz : Pl k) 0 e1) 9 := fun j_ hj_ => if_neg (show ¬ j_ = 0 by omega)
  have dm2_ : n0 / mm k * mm k ≤ n0 := Nat.div_mul_le_self n0 (mm k)
  have dm3_ : n0 / mm k ≤ 2 := by
    have h_ : n0 / mm k ≤ n0 / 2 := Nat.div_le_div_left (by omega) (by decide)
    omega
  show Wp 198 _ 299 0 [(1, 161), (0, (i : Int)), (0, (j : Int)), (3, 0), (3, 0), (3, 0)] [] M _
  refine w_al hK rfl rfl ?_
  refine w_ic hK rfl ?_
  refine w_puti (n := 14) (m := 14) hK rfl rfl (by decide) (by decide) rfl rfl rfl rfl ?_
  refine w_il hK rfl rfl ?_
  refine w_call [(0, (j : Int))] hK rfl rfl rfl rfl (Or.inl rfl) (r_place (j : Int) (by omega) (by omega)) ?_
  rintro _ Mq ⟨rfl, e_⟩
  subst Mq
  have pI_667 := ite01 (0 ≤ (j : Int) ∧ (j : Int) < 6)
  refine ⟨by show (0 : Nat) ≠ 9; decide, (?_ : Wp 198 _ 299 5 [(1, 161), (0, (i : Int)), (0, (j : Int)), (3, 0), (3, 0), (3, 0)] [(0, (if 0 ≤ (j : Int) ∧ (j : Int) < 6 then 1 else 0))] (up M 161 14 0) _)⟩
  refine w_ne hK rfl (by omega) (by omega) (fun h5 => ?_) (fun h5 => ?_)
  · refine w_al hK rfl rfl ?_
    refine w_il hK rfl rfl ?_
    refine w_call [(1, 161), (0, (i : Int))] hK rfl rfl rfl rfl (Or.inr ⟨_, _, _, rfl, by decide, (by decide), rfl⟩) (r_ask (RS.cg C (fun j_ h1_ h2_ => up_ne2 (by omega)) (fun a_ h1_ h2_ => up_row h1_)) (PM.keep hpl (up_row (by decide))) i hi (n0 : Int) (by omega)) ?_
    rintro _ V668 ⟨P668, rfl, C668, S668, F668, f668_0⟩
    refine ⟨by show (0 : Nat) ≠ 9; decide, (?_ : Wp 198 _ 299 11 [(1, 161), (0, (i : Int)), (0, (j : Int)), (3, 0), (3, 0), (3, 0)] [(0, (n0 : Int))] V668 _)⟩
    refine w_is [(1, 161), (0, (i : Int)), (0, (j : Int)), (0, (n0 : Int)), (3, 0), (3, 0)] hK rfl rfl rfl ?_
    refine w_il hK rfl rfl ?_
    refine w_ge hK rfl (by omega) (by omega) (fun h13 => ?_) (fun h13 => ?_)
    · refine w_il hK rfl rfl ?_
      refine w_al hK rfl rfl ?_
      refine w_geti (n := 3) (m := 3) hK rfl rfl (by decide) (by decide) rfl rfl rfl rfl ?_
      rw [show V668 161 3 = (mm k : Int) from C668.F.m]
      refine w_div hK rfl (by omega) (by omega) (by omega) (by omega) ?_
      rw [divI]
      refine w_is [(1, 161), (0, (i : Int)), (0, (j : Int)), (0, (n0 : Int)), (0, ((n0 / mm k : Nat) : Int)), (3, 0)] hK rfl rfl rfl ?_
      have lp21 : ∀ (n_ : Nat) (e : Nat) (w5 : AV) (R1 : Int → Option (Pl k)) (N21 : Mem), e = n_ → (e ≤ n0 / mm k) → (gpD (pl i) (n0 / mm k) = gpD (pl i) e) → (RS N21 k R1) → (R1 180 = some (pl i)) → ((∀ p : Int, p ≠ 170 → p ≠ 171 → p ≠ 172 → p ≠ 173 → p ≠ 174 → p ≠ 187 → R1 p = P668 p)) → ((∀ a : Int, (∀ p : Int, isR p → a ≠ p) → N21 a = V668 a)) → Wp 198 (d + 8) 299 21 [(1, 161), (0, (i : Int)), (0, (j : Int)), (0, (n0 : Int)), (0, (e : Int)), w5] [] N21 (fun r_ M' => r_ = (0, (dg (gpD (pl i) (n0 / mm k)))) ∧ RFS M' k (fup pl j (gpD (pl i) (n0 / mm k))) n tx rc rw fc fa ∧ (∀ a : Int, (a < 161 ∨ 197 < a) → M' a = M a)) := by
        intro n_
        induction n_ using Nat.strongRecOn with
        | _ n_ ih21 =>
        intro e w5 R1 N21 hm21 he_ hg_ hCR1 h180_ hGR1 hSN21
        have em_ : e * mm k ≤ n0 / mm k * mm k := Nat.mul_le_mul_right _ he_
        refine w_il hK rfl rfl ?_
        refine w_le hK rfl (by omega) (by omega) (fun h22 => ?_) (fun h22 => ?_)
        · refine w_al hK rfl rfl ?_
          refine w_getr (n := 35) (v := 187) hK rfl rfl (by decide) (by decide) rfl rfl rfl rfl ?_
          refine w_call [(1, 187)] hK rfl rfl rfl rfl (Or.inl rfl) (r_clear hCR1 (isR_of (p := 187) rfl)) ?_
          rintro _ V669 ⟨P669, rfl, C669, S669, F669, f669_0⟩
          refine ⟨by decide, (?_ : Wp 198 _ 299 57 [(1, 161), (0, (i : Int)), (0, (j : Int)), (0, (n0 : Int)), (0, (e : Int)), w5] [] V669 _)⟩
          refine w_al hK rfl rfl ?_
          refine w_getr (n := 35) (v := 187) hK rfl rfl (by decide) (by decide) rfl rfl rfl rfl ?_
          refine w_ic hK rfl ?_
          refine w_ic hK rfl ?_
          refine w_iat hK rfl rfl (by decide) (by decide) (by omega) (by omega) ?_
          refine w_al hK rfl rfl ?_
          refine w_al hK rfl rfl ?_
          refine w_getr (n := 35) (v := 187) hK rfl rfl (by decide) (by decide) rfl rfl rfl rfl ?_
          refine w_il hK rfl rfl ?_
          refine w_call [(1, 161), (1, 187), (0, (j : Int))] hK rfl rfl rfl rfl (Or.inr ⟨_, _, _, rfl, by decide, (by decide), rfl⟩) (r_store (RS.up C669 ⟨(isR_of (p := 187) rfl), f669_0⟩ (j := 0) (by omega) (by omega) (e := e1) el1.symm) (PM.keep hpl ((up_row (by decide)).trans ((S669 167 (notR rfl)).trans ((hSN21 167 (notR rfl)).trans ((S668 167 (notR rfl)).trans (up_row (by decide))))))) ⟨(isR_of (p := 187) rfl), pu_eq⟩ j hj bo_) ?_
          rintro _ V670 ⟨rfl, C670, Q670, F670⟩
          refine ⟨(by show (0 : Nat) ≠ 9; decide), (?_ : Wp 198 _ 299 67 [(1, 161), (0, (i : Int)), (0, (j : Int)), (0, (n0 : Int)), (0, (e : Int)), w5] [(0, (dg (up1 pz 0 e1)))] V670 _)⟩
          refine w_iret hK rfl rfl ?_
          have ge_ : gpD (pl i) (n0 / mm k) = one := by rw [hg_, show e = 0 by omega]; rfl
          rw [ge_]
          exact ⟨rfl, ⟨_, C670, Q670, (TMs.keep T ((congrFun (F670 161 (by decide)) 11).trans ((congrFun (up_row (by decide)) 11).trans ((congrFun (S669 161 (notR rfl)) 11).trans ((congrFun (hSN21 161 (notR rfl)) 11).trans ((congrFun (S668 161 (notR rfl)) 11).trans (up_ne2 (by decide))))))) ((F670 168 (by decide)).trans ((up_row (by decide)).trans ((S669 168 (notR rfl)).trans ((hSN21 168 (notR rfl)).trans ((S668 168 (notR rfl)).trans (up_row (by decide)))))))), (RM.keep hR ((congrFun (F670 161 (by decide)) 13).trans ((congrFun (up_row (by decide)) 13).trans ((congrFun (S669 161 (notR rfl)) 13).trans ((congrFun (hSN21 161 (notR rfl)) 13).trans ((congrFun (S668 161 (notR rfl)) 13).trans (up_ne2 (by decide))))))) ((F670 169 (by decide)).trans ((up_row (by decide)).trans ((S669 169 (notR rfl)).trans ((hSN21 169 (notR rfl)).trans ((S668 169 (notR rfl)).trans (up_row (by decide)))))))), (FM.keep hF ((congrFun (F670 161 (by decide)) 15).trans ((congrFun (up_row (by decide)) 15).trans ((congrFun (S669 161 (notR rfl)) 15).trans ((congrFun (hSN21 161 (notR rfl)) 15).trans ((congrFun (S668 161 (notR rfl)) 15).trans (up_ne2 (by decide))))))) ((F670 189 (by decide)).trans ((up_row (by decide)).trans ((S669 189 (notR rfl)).trans ((hSN21 189 (notR rfl)).trans ((S668 189 (notR rfl)).trans (up_row (by decide))))))) ((F670 190 (by decide)).trans ((up_row (by decide)).trans ((S669 190 (notR rfl)).trans ((hSN21 190 (notR rfl)).trans ((S668 190 (notR rfl)).trans (up_row (by decide))))))))⟩, (fun a h_ => ((F670 a (by omega)).trans ((up_row (by omega)).trans ((S669 a (npR h_)).trans ((hSN21 a (npR h_)).trans ((S668 a (npR h_)).trans (up_row (by omega))))))))⟩
        · refine w_ic hK rfl ?_
          refine w_is [(1, 161), (0, (i : Int)), (0, (j : Int)), (0, (n0 : Int)), (0, (e : Int)), (0, 0)] hK rfl rfl rfl ?_
          have lp25 : ∀ (n_ : Nat) (c : Nat) (R2 : Int → Option (Pl k)) (N25 : Mem), 6562 - c = n_ → (c ≤ unt k e) → (∀ i_ : Nat, i_ < c → dr 0 (pl i) (cnp (k := k) e i_) ≠ pz) → (RS N25 k R2) → (R2 180 = some (pl i)) → ((∀ p : Int, p ≠ 170 → p ≠ 171 → p ≠ 172 → p ≠ 173 → p ≠ 174 → p ≠ 187 → R2 p = R1 p)) → ((∀ a : Int, (∀ p : Int, isR p → a ≠ p) → N25 a = N21 a)) → Wp 198 (d + 8) 299 25 [(1, 161), (0, (i : Int)), (0, (j : Int)), (0, (n0 : Int)), (0, (e : Int)), (0, (c : Int))] [] N25 (fun r_ M' => r_ = (0, (dg (gpD (pl i) (n0 / mm k)))) ∧ RFS M' k (fup pl j (gpD (pl i) (n0 / mm k))) n tx rc rw fc fa ∧ (∀ a : Int, (a < 161 ∨ 197 < a) → M' a = M a)) := by
            intro n_
            induction n_ using Nat.strongRecOn with
            | _ n_ ih25 =>
            intro c R2 N25 hm25 hc_ hn2 hCR2 hi180_ hGR2 hSN25
            refine w_il hK rfl rfl ?_
            refine w_al hK rfl rfl ?_
            refine w_il hK rfl rfl ?_
            refine w_call [(1, 161), (0, (e : Int))] hK rfl rfl rfl rfl (Or.inr ⟨_, _, _, rfl, by decide, (by decide), rfl⟩) (r_pow hCR2.F e (by omega)) ?_
            rintro _ Mq ⟨rfl, e_⟩
            subst Mq
            refine ⟨by show (0 : Nat) ≠ 9; decide, (?_ : Wp 198 _ 299 29 [(1, 161), (0, (i : Int)), (0, (j : Int)), (0, (n0 : Int)), (0, (e : Int)), (0, (c : Int))] [(0, (unt k e : Int)), (0, (c : Int))] N25 _)⟩
            have u8_ := unt_8 (k := k) (s := e) (by omega)
            refine w_ge2 hK rfl (by omega) (by omega) (by omega) (by omega) (fun h29 => ?_) (fun h29 => ?_)
            · refine w_inc [(1, 161), (0, (i : Int)), (0, (j : Int)), (0, (n0 : Int)), (0, ((e : Int) + (-1))), (0, (c : Int))] hK rfl rfl rfl (by omega) (by omega) rfl ?_
              refine w_goto hK rfl ?_
              rw [show ((e : Int) + (-1)) = ((e - 1 : Nat) : Int) by omega]
              exact ih21 _ (by omega) (e - 1) (0, (c : Int)) _ N25 rfl (by omega) (by rw [hg_, show e = e - 1 + 1 by omega]; exact gpD_no (fun i_ h_ => by rw [show e - 1 + 1 = e by omega] at h_ ⊢; exact hn2 i_ (by omega))) hCR2 (hi180_) (fun p pn170_ pn171_ pn172_ pn173_ pn174_ pn187_ => ((hGR2 p pn170_ pn171_ pn172_ pn173_ pn174_ pn187_).trans (hGR1 p pn170_ pn171_ pn172_ pn173_ pn174_ pn187_))) (fun a nr_ => ((hSN25 a nr_).trans (hSN21 a nr_)))
            · refine w_al hK rfl rfl ?_
              refine w_il hK rfl rfl ?_
              refine w_il hK rfl rfl ?_
              refine w_al hK rfl rfl ?_
              refine w_getr (n := 35) (v := 187) hK rfl rfl (by decide) (by decide) rfl rfl rfl rfl ?_
              refine w_call [(1, 161), (0, (e : Int)), (0, (c : Int)), (1, 187)] hK rfl rfl rfl rfl (Or.inr ⟨_, _, _, rfl, by decide, (by decide), rfl⟩) (r_cof hCR2 (isR_of (p := 187) rfl) e c (by omega) (by omega)) ?_
              rintro _ V671 ⟨P671, rfl, C671, S671, F671, f671_0⟩
              refine ⟨by decide, (?_ : Wp 198 _ 299 36 [(1, 161), (0, (i : Int)), (0, (j : Int)), (0, (n0 : Int)), (0, (e : Int)), (0, (c : Int))] [] V671 _)⟩
              refine w_al hK rfl rfl ?_
              refine w_al hK rfl rfl ?_
              refine w_getr (n := 26) (v := 180) hK rfl rfl (by decide) (by decide) rfl rfl rfl rfl ?_
              refine w_al hK rfl rfl ?_
              refine w_getr (n := 35) (v := 187) hK rfl rfl (by decide) (by decide) rfl rfl rfl rfl ?_
              refine w_ic hK rfl ?_
              have dm_ : dg (cnp (k := k) e c) = ((e * mm k : Nat) : Int) := dg_eq (cnp_bd.mono (by omega)) cnp_is
              refine w_call [(1, 161), (1, 180), (1, 187), (0, 0)] hK rfl rfl rfl rfl (Or.inr ⟨_, _, _, rfl, by decide, (by decide), rfl⟩) (r_isdv C671 ⟨(isR_of (p := 180) rfl), ((F671 180 (by omega)).trans hi180_)⟩ ⟨(isR_of (p := 187) rfl), f671_0⟩ 0 (by omega) (by omega) (by omega) (by omega) (bi_.mono (by decide)) (cnp_bd.mono (by omega))) ?_
              rintro _ V672 ⟨P672, rfl, C672, S672, F672, f672_0, f672_1⟩
              have bv_ := bz_01 (dr 0 (pl i) (cnp (k := k) e c) = pz)
              refine ⟨by show (0 : Nat) ≠ 9; decide, (?_ : Wp 198 _ 299 43 [(1, 161), (0, (i : Int)), (0, (j : Int)), (0, (n0 : Int)), (0, (e : Int)), (0, (c : Int))] [(0, (bz (dr 0 (pl i) (cnp (k := k) e c) = pz)))] V672 _)⟩
              refine w_eq hK rfl (by omega) (by omega) (fun h43 => ?_) (fun h43 => ?_)
              · refine w_inc [(1, 161), (0, (i : Int)), (0, (j : Int)), (0, (n0 : Int)), (0, (e : Int)), (0, ((c : Int) + 1))] hK rfl rfl rfl (by omega) (by omega) rfl ?_
                refine w_goto hK rfl ?_
                exact ih25 _ (by omega) (c + 1) _ V672 rfl (by omega) (fun i_ h_ => by
                  by_cases q_ : i_ = c
                  · rw [q_]; exact bz_no (by omega)
                  · exact hn2 i_ (by omega)) C672 (((F672 180 (by omega) (by omega) (by omega) (by omega) (by omega)).trans ((F671 180 (by omega)).trans hi180_))) (fun p pn170_ pn171_ pn172_ pn173_ pn174_ pn187_ => ((F672 p pn170_ pn171_ pn172_ pn173_ pn174_).trans ((F671 p pn187_).trans (hGR2 p pn170_ pn171_ pn172_ pn173_ pn174_ pn187_)))) (fun a nr_ => ((S672 a nr_).trans ((S671 a nr_).trans (hSN25 a nr_))))
              · refine w_al hK rfl rfl ?_
                refine w_al hK rfl rfl ?_
                refine w_getr (n := 35) (v := 187) hK rfl rfl (by decide) (by decide) rfl rfl rfl rfl ?_
                refine w_il hK rfl rfl ?_
                refine w_call [(1, 161), (1, 187), (0, (j : Int))] hK rfl rfl rfl rfl (Or.inr ⟨_, _, _, rfl, by decide, (by decide), rfl⟩) (r_store C672 (PM.keep hpl ((S672 167 (notR rfl)).trans ((S671 167 (notR rfl)).trans ((hSN25 167 (notR rfl)).trans ((hSN21 167 (notR rfl)).trans ((S668 167 (notR rfl)).trans (up_row (by decide)))))))) ⟨(isR_of (p := 187) rfl), ((F672 187 (by omega) (by omega) (by omega) (by omega) (by omega)).trans f671_0)⟩ j hj (cnp_bd.mono (by omega))) ?_
                rintro _ V673 ⟨rfl, C673, Q673, F673⟩
                refine ⟨(by show (0 : Nat) ≠ 9; decide), (?_ : Wp 198 _ 299 49 [(1, 161), (0, (i : Int)), (0, (j : Int)), (0, (n0 : Int)), (0, (e : Int)), (0, (c : Int))] [(0, (dg (cnp (k := k) e c)))] V673 _)⟩
                refine w_iret hK rfl rfl ?_
                have ge_ : gpD (pl i) (n0 / mm k) = cnp (k := k) e c := by
                  rw [hg_]
                  have h_ := gpD_hit (x := pl i) (e := e - 1) (c := c)
                  rw [show e - 1 + 1 = e by omega] at h_
                  exact h_ hn2 (bz_yes (by omega)) (by omega)
                rw [ge_]
                exact ⟨rfl, ⟨_, C673, Q673, (TMs.keep T ((congrFun (F673 161 (by decide)) 11).trans ((congrFun (S672 161 (notR rfl)) 11).trans ((congrFun (S671 161 (notR rfl)) 11).trans ((congrFun (hSN25 161 (notR rfl)) 11).trans ((congrFun (hSN21 161 (notR rfl)) 11).trans ((congrFun (S668 161 (notR rfl)) 11).trans (up_ne2 (by decide)))))))) ((F673 168 (by decide)).trans ((S672 168 (notR rfl)).trans ((S671 168 (notR rfl)).trans ((hSN25 168 (notR rfl)).trans ((hSN21 168 (notR rfl)).trans ((S668 168 (notR rfl)).trans (up_row (by decide))))))))), (RM.keep hR ((congrFun (F673 161 (by decide)) 13).trans ((congrFun (S672 161 (notR rfl)) 13).trans ((congrFun (S671 161 (notR rfl)) 13).trans ((congrFun (hSN25 161 (notR rfl)) 13).trans ((congrFun (hSN21 161 (notR rfl)) 13).trans ((congrFun (S668 161 (notR rfl)) 13).trans (up_ne2 (by decide)))))))) ((F673 169 (by decide)).trans ((S672 169 (notR rfl)).trans ((S671 169 (notR rfl)).trans ((hSN25 169 (notR rfl)).trans ((hSN21 169 (notR rfl)).trans ((S668 169 (notR rfl)).trans (up_row (by decide))))))))), (FM.keep hF ((congrFun (F673 161 (by decide)) 15).trans ((congrFun (S672 161 (notR rfl)) 15).trans ((congrFun (S671 161 (notR rfl)) 15).trans ((congrFun (hSN25 161 (notR rfl)) 15).trans ((congrFun (hSN21 161 (notR rfl)) 15).trans ((congrFun (S668 161 (notR rfl)) 15).trans (up_ne2 (by decide)))))))) ((F673 189 (by decide)).trans ((S672 189 (notR rfl)).trans ((S671 189 (notR rfl)).trans ((hSN25 189 (notR rfl)).trans ((hSN21 189 (notR rfl)).trans ((S668 189 (notR rfl)).trans (up_row (by decide)))))))) ((F673 190 (by decide)).trans ((S672 190 (notR rfl)).trans ((S671 190 (notR rfl)).trans ((hSN25 190 (notR rfl)).trans ((hSN21 190 (notR rfl)).trans ((S668 190 (notR rfl)).trans (up_row (by decide)))))))))⟩, (fun a h_ => ((F673 a (by omega)).trans ((S672 a (npR h_)).trans ((S671 a (npR h_)).trans ((hSN25 a (npR h_)).trans ((hSN21 a (npR h_)).trans ((S668 a (npR h_)).trans (up_row (by omega)))))))))⟩
          exact lp25 _ 0 _ N21 rfl (by omega) (fun i_ h_ => by omega) hCR1 (h180_) (fun p pn170_ pn171_ pn172_ pn173_ pn174_ pn187_ => rfl) (fun a nr_ => rfl)
      exact lp21 _ (n0 / mm k) (3, 0) _ V668 rfl (by omega) rfl C668 (f668_0) (fun p pn170_ pn171_ pn172_ pn173_ pn174_ pn187_ => rfl) (fun a nr_ => rfl)
    · exfalso; omega
  · exfalso; omega
set_option maxRecDepth 100000 in
theorem ry_part {d : Nat} {M : Mem} {k : Nat} {pl : Nat → Pl k} {n : Int} {tx : Int → Int} {rc : Nat} {rw : Int → Int} {fc : Nat} {fa : Nat → Pl k} (H : RFS M k pl n tx rc rw fc fa) (i : Nat) (hi : i < 6) (j : Nat) (hj : j < 6) (hi0 : dg (pl i) < 0) : Ct 198 (d + 8) 299 [(1, 161), (0, (i : Int)), (0, (j : Int))] M (fun r_ M' => r_ = (0, (-2)) ∧ RFS M' k pl n tx rc rw fc fa ∧ (∀ a : Int, (a < 161 ∨ 197 < a) → M' a = M a)) := by
  have hK : cd 299 = k299 := rfl
  obtain ⟨R, C, hpl, T, hR, hF⟩ := H
  have q1_ := qq_I k
  have p1_ := pp_I k
  have m1_ := mm_I k
  have bi_ := (hpl i hi).2
  have di_ := dg_lt9 bi_
  have bj_ := (hpl j hj).2
  have dj_ := dg_lt9 bj_
  show Wp 198 _ 299 0 [(1, 161), (0, (i : Int)), (0, (j : Int)), (3, 0), (3, 0), (3, 0)] [] M _
  refine w_al hK rfl rfl ?_
  refine w_ic hK rfl ?_
  refine w_puti (n := 14) (m := 14) hK rfl rfl (by decide) (by decide) rfl rfl rfl rfl ?_
  refine w_il hK rfl rfl ?_
  refine w_call [(0, (j : Int))] hK rfl rfl rfl rfl (Or.inl rfl) (r_place (j : Int) (by omega) (by omega)) ?_
  rintro _ Mq ⟨rfl, e_⟩
  subst Mq
  have pI_674 := ite01 (0 ≤ (j : Int) ∧ (j : Int) < 6)
  refine ⟨by show (0 : Nat) ≠ 9; decide, (?_ : Wp 198 _ 299 5 [(1, 161), (0, (i : Int)), (0, (j : Int)), (3, 0), (3, 0), (3, 0)] [(0, (if 0 ≤ (j : Int) ∧ (j : Int) < 6 then 1 else 0))] (up M 161 14 0) _)⟩
  refine w_ne hK rfl (by omega) (by omega) (fun h5 => ?_) (fun h5 => ?_)
  · refine w_al hK rfl rfl ?_
    refine w_il hK rfl rfl ?_
    refine w_call [(1, 161), (0, (i : Int))] hK rfl rfl rfl rfl (Or.inr ⟨_, _, _, rfl, by decide, (by decide), rfl⟩) (r_ask (RS.cg C (fun j_ h1_ h2_ => up_ne2 (by omega)) (fun a_ h1_ h2_ => up_row h1_)) (PM.keep hpl (up_row (by decide))) i hi (-2) (by omega)) ?_
    rintro _ V675 ⟨P675, rfl, C675, S675, F675, f675_0⟩
    refine ⟨by show (0 : Nat) ≠ 9; decide, (?_ : Wp 198 _ 299 11 [(1, 161), (0, (i : Int)), (0, (j : Int)), (3, 0), (3, 0), (3, 0)] [(0, (-2))] V675 _)⟩
    refine w_is [(1, 161), (0, (i : Int)), (0, (j : Int)), (0, (-2)), (3, 0), (3, 0)] hK rfl rfl rfl ?_
    refine w_il hK rfl rfl ?_
    refine w_ge hK rfl (by omega) (by omega) (fun h13 => ?_) (fun h13 => ?_)
    · exfalso; omega
    · refine w_il hK rfl rfl ?_
      refine w_iret hK rfl rfl ?_
      exact ⟨rfl, ⟨_, C675, (PM.keep hpl ((S675 167 (notR rfl)).trans (up_row (by decide)))), (TMs.keep T ((congrFun (S675 161 (notR rfl)) 11).trans (up_ne2 (by decide))) ((S675 168 (notR rfl)).trans (up_row (by decide)))), (RM.keep hR ((congrFun (S675 161 (notR rfl)) 13).trans (up_ne2 (by decide))) ((S675 169 (notR rfl)).trans (up_row (by decide)))), (FM.keep hF ((congrFun (S675 161 (notR rfl)) 15).trans (up_ne2 (by decide))) ((S675 189 (notR rfl)).trans (up_row (by decide))) ((S675 190 (notR rfl)).trans (up_row (by decide))))⟩, (fun a h_ => ((S675 a (npR h_)).trans (up_row (by omega))))⟩
  · exfalso; omega
set_option maxRecDepth 100000 in
theorem rz_part {d : Nat} {M : Mem} {k : Nat} {pl : Nat → Pl k} {n : Int} {tx : Int → Int} {rc : Nat} {rw : Int → Int} {fc : Nat} {fa : Nat → Pl k} (H : RFS M k pl n tx rc rw fc fa) (i : Nat) (hi : i < 6) (j : Nat) (hj : j < 6) (hi0 : 4 < dg (pl i)) : Ct 198 (d + 8) 299 [(1, 161), (0, (i : Int)), (0, (j : Int))] M (fun r_ M' => r_ = (0, (-3)) ∧ RFS M' k pl n tx rc rw fc fa ∧ (∀ a : Int, (a < 161 ∨ 197 < a) → M' a = M a)) := by
  have hK : cd 299 = k299 := rfl
  obtain ⟨R, C, hpl, T, hR, hF⟩ := H
  have q1_ := qq_I k
  have p1_ := pp_I k
  have m1_ := mm_I k
  have bi_ := (hpl i hi).2
  have di_ := dg_lt9 bi_
  have bj_ := (hpl j hj).2
  have dj_ := dg_lt9 bj_
  show Wp 198 _ 299 0 [(1, 161), (0, (i : Int)), (0, (j : Int)), (3, 0), (3, 0), (3, 0)] [] M _
  refine w_al hK rfl rfl ?_
  refine w_ic hK rfl ?_
  refine w_puti (n := 14) (m := 14) hK rfl rfl (by decide) (by decide) rfl rfl rfl rfl ?_
  refine w_il hK rfl rfl ?_
  refine w_call [(0, (j : Int))] hK rfl rfl rfl rfl (Or.inl rfl) (r_place (j : Int) (by omega) (by omega)) ?_
  rintro _ Mq ⟨rfl, e_⟩
  subst Mq
  have pI_676 := ite01 (0 ≤ (j : Int) ∧ (j : Int) < 6)
  refine ⟨by show (0 : Nat) ≠ 9; decide, (?_ : Wp 198 _ 299 5 [(1, 161), (0, (i : Int)), (0, (j : Int)), (3, 0), (3, 0), (3, 0)] [(0, (if 0 ≤ (j : Int) ∧ (j : Int) < 6 then 1 else 0))] (up M 161 14 0) _)⟩
  refine w_ne hK rfl (by omega) (by omega) (fun h5 => ?_) (fun h5 => ?_)
  · refine w_al hK rfl rfl ?_
    refine w_il hK rfl rfl ?_
    refine w_call [(1, 161), (0, (i : Int))] hK rfl rfl rfl rfl (Or.inr ⟨_, _, _, rfl, by decide, (by decide), rfl⟩) (r_ask (RS.cg C (fun j_ h1_ h2_ => up_ne2 (by omega)) (fun a_ h1_ h2_ => up_row h1_)) (PM.keep hpl (up_row (by decide))) i hi (-3) (by omega)) ?_
    rintro _ V677 ⟨P677, rfl, C677, S677, F677, f677_0⟩
    refine ⟨by show (0 : Nat) ≠ 9; decide, (?_ : Wp 198 _ 299 11 [(1, 161), (0, (i : Int)), (0, (j : Int)), (3, 0), (3, 0), (3, 0)] [(0, (-3))] V677 _)⟩
    refine w_is [(1, 161), (0, (i : Int)), (0, (j : Int)), (0, (-3)), (3, 0), (3, 0)] hK rfl rfl rfl ?_
    refine w_il hK rfl rfl ?_
    refine w_ge hK rfl (by omega) (by omega) (fun h13 => ?_) (fun h13 => ?_)
    · exfalso; omega
    · refine w_il hK rfl rfl ?_
      refine w_iret hK rfl rfl ?_
      exact ⟨rfl, ⟨_, C677, (PM.keep hpl ((S677 167 (notR rfl)).trans (up_row (by decide)))), (TMs.keep T ((congrFun (S677 161 (notR rfl)) 11).trans (up_ne2 (by decide))) ((S677 168 (notR rfl)).trans (up_row (by decide)))), (RM.keep hR ((congrFun (S677 161 (notR rfl)) 13).trans (up_ne2 (by decide))) ((S677 169 (notR rfl)).trans (up_row (by decide)))), (FM.keep hF ((congrFun (S677 161 (notR rfl)) 15).trans (up_ne2 (by decide))) ((S677 189 (notR rfl)).trans (up_row (by decide))) ((S677 190 (notR rfl)).trans (up_row (by decide))))⟩, (fun a h_ => ((S677 a (npR h_)).trans (up_row (by omega))))⟩
  · exfalso; omega
set_option maxRecDepth 100000 in
theorem rn_part {d : Nat} {M : Mem} {k : Nat} {pl : Nat → Pl k} {n : Int} {tx : Int → Int} {rc : Nat} {rw : Int → Int} {fc : Nat} {fa : Nat → Pl k} (H : RFS M k pl n tx rc rw fc fa) (i j : Int) (i1_ : -2147483648 ≤ i) (i2_ : i ≤ 2147483647) (j1_ : -2147483648 ≤ j) (j2_ : j ≤ 2147483647) (hn : ¬ (0 ≤ j ∧ j < 6)) : Ct 198 (d + 8) 299 [(1, 161), (0, i), (0, j)] M (fun r_ M' => r_ = (0, -1) ∧ RFS M' k pl n tx rc rw fc fa ∧ (∀ a : Int, (a < 161 ∨ 197 < a) → M' a = M a)) := by
  have hK : cd 299 = k299 := rfl
  obtain ⟨R, C, hpl, T, hR, hF⟩ := H
  have q1_ := qq_I k
  have p1_ := pp_I k
  have m1_ := mm_I k
  show Wp 198 _ 299 0 [(1, 161), (0, i), (0, j), (3, 0), (3, 0), (3, 0)] [] M _
  refine w_al hK rfl rfl ?_
  refine w_ic hK rfl ?_
  refine w_puti (n := 14) (m := 14) hK rfl rfl (by decide) (by decide) rfl rfl rfl rfl ?_
  refine w_il hK rfl rfl ?_
  refine w_call [(0, j)] hK rfl rfl rfl rfl (Or.inl rfl) (r_place j (by omega) (by omega)) ?_
  rintro _ Mq ⟨rfl, e_⟩
  subst Mq
  have pI_678 := ite01 (0 ≤ j ∧ j < 6)
  refine ⟨by show (0 : Nat) ≠ 9; decide, (?_ : Wp 198 _ 299 5 [(1, 161), (0, i), (0, j), (3, 0), (3, 0), (3, 0)] [(0, (if 0 ≤ j ∧ j < 6 then 1 else 0))] (up M 161 14 0) _)⟩
  refine w_ne hK rfl (by omega) (by omega) (fun h5 => ?_) (fun h5 => ?_)
  · exfalso; omega
  · refine w_ic hK rfl ?_
    refine w_iret hK rfl rfl ?_
    exact ⟨rfl, ⟨_, (RS.cg C (fun j_ h1_ h2_ => up_ne2 (by omega)) (fun a_ h1_ h2_ => up_row h1_)), (PM.keep hpl (up_row (by decide))), (TMs.keep T (up_ne2 (by decide)) (up_row (by decide))), (RM.keep hR (up_ne2 (by decide)) (up_row (by decide))), (FM.keep hF (up_ne2 (by decide)) (up_row (by decide)) (up_row (by decide)))⟩, (fun a h_ => (up_row (by omega)))⟩
set_option maxRecDepth 100000 in
theorem rm_part {d : Nat} {M : Mem} {k : Nat} {pl : Nat → Pl k} {n : Int} {tx : Int → Int} {rc : Nat} {rw : Int → Int} {fc : Nat} {fa : Nat → Pl k} (H : RFS M k pl n tx rc rw fc fa) (i j : Int) (i1_ : -2147483648 ≤ i) (i2_ : i ≤ 2147483647) (j1_ : -2147483648 ≤ j) (j2_ : j ≤ 2147483647) (hn : ¬ (0 ≤ i ∧ i < 6)) (hj : (0 ≤ j ∧ j < 6)) : Ct 198 (d + 8) 299 [(1, 161), (0, i), (0, j)] M (fun r_ M' => r_ = (0, -1) ∧ RFS M' k pl n tx rc rw fc fa ∧ (∀ a : Int, (a < 161 ∨ 197 < a) → M' a = M a)) := by
  have hK : cd 299 = k299 := rfl
  obtain ⟨R, C, hpl, T, hR, hF⟩ := H
  have q1_ := qq_I k
  have p1_ := pp_I k
  have m1_ := mm_I k
  show Wp 198 _ 299 0 [(1, 161), (0, i), (0, j), (3, 0), (3, 0), (3, 0)] [] M _
  refine w_al hK rfl rfl ?_
  refine w_ic hK rfl ?_
  refine w_puti (n := 14) (m := 14) hK rfl rfl (by decide) (by decide) rfl rfl rfl rfl ?_
  refine w_il hK rfl rfl ?_
  refine w_call [(0, j)] hK rfl rfl rfl rfl (Or.inl rfl) (r_place j (by omega) (by omega)) ?_
  rintro _ Mq ⟨rfl, e_⟩
  subst Mq
  have pI_679 := ite01 (0 ≤ j ∧ j < 6)
  refine ⟨by show (0 : Nat) ≠ 9; decide, (?_ : Wp 198 _ 299 5 [(1, 161), (0, i), (0, j), (3, 0), (3, 0), (3, 0)] [(0, (if 0 ≤ j ∧ j < 6 then 1 else 0))] (up M 161 14 0) _)⟩
  refine w_ne hK rfl (by omega) (by omega) (fun h5 => ?_) (fun h5 => ?_)
  · refine w_al hK rfl rfl ?_
    refine w_il hK rfl rfl ?_
    refine w_call [(1, 161), (0, i)] hK rfl rfl rfl rfl (Or.inr ⟨_, _, _, rfl, by decide, (by decide), rfl⟩) (r_askN i (by omega) (by omega) (by omega)) ?_
    rintro _ Mq ⟨rfl, e_⟩
    subst Mq
    refine ⟨by show (0 : Nat) ≠ 9; decide, (?_ : Wp 198 _ 299 11 [(1, 161), (0, i), (0, j), (3, 0), (3, 0), (3, 0)] [(0, (-1))] (up M 161 14 0) _)⟩
    refine w_is [(1, 161), (0, i), (0, j), (0, (-1)), (3, 0), (3, 0)] hK rfl rfl rfl ?_
    refine w_il hK rfl rfl ?_
    refine w_ge hK rfl (by omega) (by omega) (fun h13 => ?_) (fun h13 => ?_)
    · exfalso; omega
    · refine w_il hK rfl rfl ?_
      refine w_iret hK rfl rfl ?_
      exact ⟨rfl, ⟨_, (RS.cg C (fun j_ h1_ h2_ => up_ne2 (by omega)) (fun a_ h1_ h2_ => up_row h1_)), (PM.keep hpl (up_row (by decide))), (TMs.keep T (up_ne2 (by decide)) (up_row (by decide))), (RM.keep hR (up_ne2 (by decide)) (up_row (by decide))), (FM.keep hF (up_ne2 (by decide)) (up_row (by decide)) (up_row (by decide)))⟩, (fun a h_ => (up_row (by omega)))⟩
  · exfalso; omega
