/-! the reference's call factors */ -/
theorem ldP_dv {k n e : Nat} {x g : Pl k} (hx : IsDg x (n : Int)) (hb : Bd x 17) (n1 : 1 ≤ n) (h4 : n ≤ 4) (h : ldP (mon 0 x) e g) : dr 0 x g = pz := by
  have hm := mon_is hb hx
  rcases h.2 with ⟨_, q⟩ | ⟨_, _, c, _, q, q2, _⟩
  · rw [q, mon_mn hm.1 (by omega)]
    exact (mon_dv hx hb hm.1.1).1.mp (dr_self hm.1.1)
  · rw [q]
    exact (mon_dv hx hb mnp_is).1.mp q2
theorem sp_fac {k n : Nat} {x : Pl k} (h : ∀ j : Nat, j < n → ∃ d : Nat, (1 ≤ d ∧ d ≤ 4) ∧ Mn (spF x j) d ∧ lsN (spR x j) = d) {j : Nat} (hj : j < n) : 0 ≤ dg (spF x j) ∧ dg (spF x j) ≤ 4 := by
  obtain ⟨d, h1, h2, _⟩ := h j hj
  rw [h2.dg (by omega)]
  omega
set_option maxRecDepth 100000 in
theorem ro_factors {d : Nat} {M : Mem} {k : Nat} {pl : Nat → Pl k} {n : Int} {tx : Int → Int} {rc : Nat} {rw : Int → Int} {fc : Nat} {fa : Nat → Pl k} (H : RFS M k pl n tx rc rw fc fa) (i : Nat) (hi : i < 6) (n0 : Nat) (hi0 : dg (pl i) = (n0 : Int)) (n4_ : n0 ≤ 4) : Ct 198 (d + 8) 284 [(1, 161), (0, (i : Int))] M (fun r_ M' => r_ = (0, (spC (pl i) : Int)) ∧ RFS M' k pl n tx (spC (pl i) + 1) (stw (facG (pl i) (spC (pl i))) rw (spC (pl i) + 1)) (spC (pl i)) (spF (pl i)) ∧ (∀ a : Int, (a < 161 ∨ 197 < a) → M' a = M a)) := by
  have hK : cd 284 = k284 := rfl
  obtain ⟨R, C, hpl, T, hR, hF⟩ := H
  have q1_ := qq_I k
  have p1_ := pp_I k
  have m1_ := mm_I k
  have bi_ := (hpl i hi).2
  have di_ := dg_lt9 bi_
  have bi17_ : Bd (pl i) 17 := bi_.mono (by decide)
  have ld0_ : ld (pl i) = pl i n0 := ld_at hi0
  have lv_ := el_I (pl i n0)
  show Wp 198 _ 284 0 [(1, 161), (0, (i : Int)), (3, 0), (3, 0), (3, 0)] [] M _
  refine w_al hK rfl rfl ?_
  refine w_ic hK rfl ?_
  refine w_puti (n := 14) (m := 14) hK rfl rfl (by decide) (by decide) rfl rfl rfl rfl ?_
  refine w_al hK rfl rfl ?_
  refine w_il hK rfl rfl ?_
  refine w_call [(1, 161), (0, (i : Int))] hK rfl rfl rfl rfl (Or.inr ⟨_, _, _, rfl, by decide, (by decide), rfl⟩) (r_ask (RS.cg C (fun j_ h1_ h2_ => up_ne2 (by omega)) (fun a_ h1_ h2_ => up_row h1_)) (PM.keep hpl (up_row (by decide))) i hi (n0 : Int) (by omega)) ?_
  rintro _ V747 ⟨P747, rfl, C747, S747, F747, f747_0⟩
  refine ⟨by show (0 : Nat) ≠ 9; decide, (?_ : Wp 198 _ 284 6 [(1, 161), (0, (i : Int)), (3, 0), (3, 0), (3, 0)] [(0, (n0 : Int))] V747 _)⟩
  refine w_is [(1, 161), (0, (i : Int)), (0, (n0 : Int)), (3, 0), (3, 0)] hK rfl rfl rfl ?_
  refine w_il hK rfl rfl ?_
  refine w_ge hK rfl (by omega) (by omega) (fun h8 => ?_) (fun h8 => ?_)
  · refine w_al hK rfl rfl ?_
    refine w_getr (n := 26) (v := 180) hK rfl rfl (by decide) (by decide) rfl rfl rfl rfl ?_
    refine w_il hK rfl rfl ?_
    refine w_ia hK rfl rfl (by decide) (by decide) (by omega) (by omega) ?_
    rw [show V747 180 (n0 : Int) = (((pl i) n0).val : Int) from C747.atz ⟨(isR_of (p := 180) rfl), f747_0⟩ (j := n0) (by omega) (by omega)]
    refine w_is [(1, 161), (0, (i : Int)), (0, (n0 : Int)), (0, (((pl i) n0).val : Int)), (3, 0)] hK rfl rfl rfl ?_
    refine w_al hK rfl rfl ?_
    refine w_al hK rfl rfl ?_
    refine w_getr (n := 26) (v := 180) hK rfl rfl (by decide) (by decide) rfl rfl rfl rfl ?_
    refine w_ic hK rfl ?_
    refine w_call [(1, 161), (1, 180), (0, 0)] hK rfl rfl rfl rfl (Or.inr ⟨_, _, _, rfl, by decide, (by decide), rfl⟩) (r_mon C747 ⟨(isR_of (p := 180) rfl), f747_0⟩ (by omega) (by omega) 0 (by omega)) ?_
    rintro _ V748 ⟨P748, rfl, C748, S748, F748, f748_0⟩
    refine ⟨by decide, (?_ : Wp 198 _ 284 21 [(1, 161), (0, (i : Int)), (0, (n0 : Int)), (0, (((pl i) n0).val : Int)), (3, 0)] [] V748 _)⟩
    refine w_al hK rfl rfl ?_
    refine w_ic hK rfl ?_
    refine w_puti (n := 15) (m := 15) hK rfl rfl (by decide) (by decide) rfl rfl rfl rfl ?_
    have lp24 : ∀ (n_ : Nat) (t : Nat) (w4 : AV) (R1 : Int → Option (Pl k)) (N24 : Mem), 5 - t = n_ → (t ≤ 4) → (∀ j : Nat, j < t → 0 < dg (spR (pl i) j)) → (N24 161 15 = (t : Int)) → (∀ i_ : Nat, i_ < t → N24 190 (i_ : Int) = dg (spF (pl i) i_) ∧ ∀ j_ : Nat, j_ < 5 → N24 189 (5 * (i_ : Int) + (j_ : Int)) = ((spF (pl i) i_ j_).val : Int)) → (RS N24 k R1) → (R1 180 = some (mon 0 (spR (pl i) t))) → ((∀ p : Int, p ≠ 170 → p ≠ 171 → p ≠ 172 → p ≠ 173 → p ≠ 174 → p ≠ 180 → p ≠ 188 → R1 p = P748 p)) → ((∀ a : Int, (∀ p : Int, isR p → a ≠ p) → a ≠ 161 → a ≠ 189 → a ≠ 190 → N24 a = (up V748 161 15 0) a)) → ((∀ j : Int, j ≠ 15 → N24 161 j = (up V748 161 15 0) 161 j)) → Wp 198 (d + 8) 284 24 [(1, 161), (0, (i : Int)), (0, (n0 : Int)), (0, ((pl i n0).val : Int)), w4] [] N24 (fun r_ M' => r_ = (0, (spC (pl i) : Int)) ∧ RFS M' k pl n tx (spC (pl i) + 1) (stw (facG (pl i) (spC (pl i))) rw (spC (pl i) + 1)) (spC (pl i)) (spF (pl i)) ∧ (∀ a : Int, (a < 161 ∨ 197 < a) → M' a = M a)) := by
      intro n_
      induction n_ using Nat.strongRecOn with
      | _ n_ ih24 =>
      intro t w4 R1 N24 hm24 ht_ hz_ hf_ hF_ hCR1 h180_ hGR1 hSN24 hHN24
      obtain ⟨⟨r, hr_, hrt_⟩, hf2_⟩ := sp_all bi17_ (by omega) (by omega) t hz_
      have br_ : Bd (spR (pl i) t) 17 := (Bd_is hr_).mono (by omega)
      have mr_ := (mon_is br_ hr_).1
      have dr_ : dg (mon 0 (spR (pl i) t)) = (r : Int) := mr_.dg (by omega)
      have ds_ : dg (spR (pl i) t) = (r : Int) := dg_eq17 br_ hr_
      refine w_al hK rfl rfl ?_
      refine w_getr (n := 26) (v := 180) hK rfl rfl (by decide) (by decide) rfl rfl rfl rfl ?_
      have dI_ : -1 ≤ dg (mon 0 (spR (pl i) t)) ∧ dg (mon 0 (spR (pl i) t)) ≤ 47 := hCR1.dI ⟨(isR_of (p := 180) rfl), h180_⟩
      refine w_call [(1, 180)] hK rfl rfl rfl rfl (Or.inl rfl) (r_deg hCR1 ⟨(isR_of (p := 180) rfl), h180_⟩) ?_
      rintro _ Mq ⟨rfl, e_⟩
      subst Mq
      refine ⟨by show (0 : Nat) ≠ 9; decide, (?_ : Wp 198 _ 284 27 [(1, 161), (0, (i : Int)), (0, (n0 : Int)), (0, ((pl i n0).val : Int)), w4] [(0, (dg (mon 0 (spR (pl i) t))))] N24 _)⟩
      refine w_le hK rfl (by omega) (by omega) (fun h27 => ?_) (fun h27 => ?_)
      · have es_ : spC (pl i) = t := spC_eq hz_ (by omega)
        refine w_al hK rfl rfl ?_
        refine w_ic hK rfl ?_
        refine w_puti (n := 13) (m := 13) hK rfl rfl (by decide) (by decide) rfl rfl rfl rfl ?_
        refine w_al hK rfl rfl ?_
        refine w_il hK rfl rfl ?_
        refine w_i2l hK rfl (by omega) (by omega) ?_
        refine w_call [(1, 161), (2, ((pl i n0).val : Int))] hK rfl rfl rfl rfl (Or.inr ⟨_, _, _, rfl, by decide, (by decide), rfl⟩) (r_tell (RM.zero (M := (up N24 161 13 0)) (rw := rw) up_eq) (by omega) ((pl i n0).val : Int)) ?_
        rintro _ V749 ⟨rfl, R749, F749, G749⟩
        refine ⟨by decide, (?_ : Wp 198 _ 284 83 [(1, 161), (0, (i : Int)), (0, (n0 : Int)), (0, ((pl i n0).val : Int)), w4] [] V749 _)⟩
        refine w_al hK rfl rfl ?_
        refine w_geti (n := 15) (m := 15) hK rfl rfl (by decide) (by decide) rfl rfl rfl rfl ?_
        rw [show V749 161 15 = (t : Int) from ((G749 15 (by decide)).trans ((up_ne2 (by omega)).trans hf_))]
        refine w_ic hK rfl ?_
        refine w_sub hK rfl (by omega) (by omega) ?_
        refine w_is [(1, 161), (0, (i : Int)), (0, (n0 : Int)), (0, ((pl i n0).val : Int)), (0, ((t : Int) - 1))] hK rfl rfl rfl ?_
        have lp88 : ∀ (n_ : Nat) (u : Nat) (N88 : Mem), u = n_ → (u ≤ t) → ((∀ a : Int, a ≠ 161 → a ≠ 169 → N88 a = V749 a)) → ((∀ j : Int, j ≠ 13 → N88 161 j = V749 161 j)) → (RM N88 (t - u + 1) (stw (facG (pl i) t) rw (t - u + 1))) → Wp 198 (d + 8) 284 88 [(1, 161), (0, (i : Int)), (0, (n0 : Int)), (0, ((pl i n0).val : Int)), (0, ((u : Int) - 1))] [] N88 (fun r_ M' => r_ = (0, (spC (pl i) : Int)) ∧ RFS M' k pl n tx (spC (pl i) + 1) (stw (facG (pl i) (spC (pl i))) rw (spC (pl i) + 1)) (spC (pl i)) (spF (pl i)) ∧ (∀ a : Int, (a < 161 ∨ 197 < a) → M' a = M a)) := by
          intro n_
          induction n_ using Nat.strongRecOn with
          | _ n_ ih88 =>
          intro u N88 hm88 hu_ hSN88 hHN88 hRN88
          refine w_il hK rfl rfl ?_
          refine w_lt hK rfl (by omega) (by omega) (fun h89 => ?_) (fun h89 => ?_)
          · refine w_al hK rfl rfl ?_
            refine w_geti (n := 15) (m := 15) hK rfl rfl (by decide) (by decide) rfl rfl rfl rfl ?_
            rw [show N88 161 15 = (t : Int) from ((hHN88 15 (by decide)).trans ((G749 15 (by decide)).trans ((up_ne2 (by omega)).trans hf_)))]
            refine w_iret hK rfl rfl ?_
            have hr88_ := hRN88
            rw [show t - u + 1 = t + 1 by omega] at hr88_
            rw [es_]
            exact ⟨rfl, ⟨_, (RS.cg (RS.cg (RS.cg hCR1 (fun j_ h1_ h2_ => up_ne2 (by omega)) (fun a_ h1_ h2_ => up_row h1_)) (fun j_ h1_ h2_ => G749 j_ (by omega)) (fun a_ h1_ h2_ => F749 a_ h1_ (RSc_ne h2_ (by decide) (notR rfl)))) (fun j_ h1_ h2_ => hHN88 j_ (by omega)) (fun a_ h1_ h2_ => hSN88 a_ h1_ (RSc_ne h2_ (by decide) (notR rfl)))), (PM.keep hpl ((hSN88 167 (by decide) (by decide)).trans ((F749 167 (by decide) (by decide)).trans ((up_row (by decide)).trans ((hSN24 167 (notR rfl) (by decide) (by decide) (by decide)).trans ((up_row (by decide)).trans ((S748 167 (notR rfl)).trans ((S747 167 (notR rfl)).trans (up_row (by decide)))))))))), (TMs.keep T ((hHN88 11 (by decide)).trans ((G749 11 (by decide)).trans ((up_ne2 (by decide)).trans ((hHN24 11 (by decide)).trans ((up_ne2 (by decide)).trans ((congrFun (S748 161 (notR rfl)) 11).trans ((congrFun (S747 161 (notR rfl)) 11).trans (up_ne2 (by decide))))))))) ((hSN88 168 (by decide) (by decide)).trans ((F749 168 (by decide) (by decide)).trans ((up_row (by decide)).trans ((hSN24 168 (notR rfl) (by decide) (by decide) (by decide)).trans ((up_row (by decide)).trans ((S748 168 (notR rfl)).trans ((S747 168 (notR rfl)).trans (up_row (by decide)))))))))), hr88_, (FM.keep (⟨hf_, by omega, fun i_ hi_ => ⟨(hF_ i_ hi_).1, sp_fac hf2_ hi_, (hF_ i_ hi_).2⟩⟩ : FM N24 t (spF (pl i))) ((hHN88 15 (by decide)).trans ((G749 15 (by decide)).trans (up_ne2 (by decide)))) ((hSN88 189 (by decide) (by decide)).trans ((F749 189 (by decide) (by decide)).trans (up_row (by decide)))) ((hSN88 190 (by decide) (by decide)).trans ((F749 190 (by decide) (by decide)).trans (up_row (by decide)))))⟩, (fun a h_ => ((hSN88 a (by omega) (by omega)).trans ((F749 a (by omega) (by omega)).trans ((up_row (by omega)).trans ((hSN24 a (npR h_) (by omega) (by omega) (by omega)).trans ((up_row (by omega)).trans ((S748 a (npR h_)).trans ((S747 a (npR h_)).trans (up_row (by omega))))))))))⟩
          · refine w_al hK rfl rfl ?_
            refine w_al hK rfl rfl ?_
            refine w_getr (n := 38) (v := 190) hK rfl rfl (by decide) (by decide) rfl rfl rfl rfl ?_
            refine w_il hK rfl rfl ?_
            refine w_ia hK rfl rfl (by decide) (by decide) (by omega) (by omega) ?_
            rw [show N88 190 ((u : Int) - 1) = (N24 190 ((u : Int) - 1)) from ((congrFun (hSN88 190 (by decide) (by decide)) ((u : Int) - 1)).trans ((congrFun (F749 190 (by decide) (by decide)) ((u : Int) - 1)).trans (congrFun (up_row (by decide)) ((u : Int) - 1))))]
            rw [show N24 190 ((u : Int) - 1) = dg (spF (pl i) (u - 1)) from (by rw [show ((u : Int) - 1) = ((u - 1 : Nat) : Int) by omega]; exact (hF_ (u - 1) (by omega)).1)]
            have df_ := sp_fac hf2_ (j := u - 1) (by omega)
            refine w_i2l hK rfl (by omega) (by omega) ?_
            refine w_call [(1, 161), (2, (dg (spF (pl i) (u - 1))))] hK rfl rfl rfl rfl (Or.inr ⟨_, _, _, rfl, by decide, (by decide), rfl⟩) (r_tell hRN88 (by omega) (dg (spF (pl i) (u - 1)))) ?_
            rintro _ V750 ⟨rfl, R750, F750, G750⟩
            refine ⟨by decide, (?_ : Wp 198 _ 284 97 [(1, 161), (0, (i : Int)), (0, (n0 : Int)), (0, ((pl i n0).val : Int)), (0, ((u : Int) - 1))] [] V750 _)⟩
            refine w_inc [(1, 161), (0, (i : Int)), (0, (n0 : Int)), (0, ((pl i n0).val : Int)), (0, (((u : Int) - 1) + (-1)))] hK rfl rfl rfl (by omega) (by omega) rfl ?_
            refine w_goto hK rfl ?_
            rw [show (((u : Int) - 1) + (-1)) = (((u - 1 : Nat) : Int) - 1) by omega]
            exact ih88 _ (by omega) (u - 1) V750 rfl (by omega) (fun a n161_ n169_ => ((F750 a n161_ n169_).trans (hSN88 a n161_ n169_))) (fun j n13_ => ((G750 j n13_).trans (hHN88 j n13_))) (by have h_ := R750; rw [show t - (u - 1) + 1 = t - u + 1 + 1 by omega]; show RM _ _ (upr (stw (facG (pl i) t) rw (t - u + 1)) ((t - u + 1 : Nat) : Int) (facG (pl i) t (t - u + 1))); rw [facG_at (b := u - 1) (by omega) (by omega)]; exact h_)
        exact lp88 _ t V749 rfl (by omega) (fun a n161_ n169_ => rfl) (fun j n13_ => rfl) (by have h_ := R749; rw [show t - t + 1 = 1 by omega]; show RM _ 1 (upr rw ((0 : Nat) : Int) ((ld (pl i)).val : Int)); rw [ld0_]; exact h_)
      · refine w_al hK rfl rfl ?_
        refine w_getr (n := 38) (v := 190) hK rfl rfl (by decide) (by decide) rfl rfl rfl rfl ?_
        refine w_al hK rfl rfl ?_
        refine w_geti (n := 15) (m := 15) hK rfl rfl (by decide) (by decide) rfl rfl rfl rfl ?_
        rw [show N24 161 15 = (t : Int) from hf_]
        refine w_al hK rfl rfl ?_
        refine w_al hK rfl rfl ?_
        refine w_getr (n := 26) (v := 180) hK rfl rfl (by decide) (by decide) rfl rfl rfl rfl ?_
        refine w_call [(1, 161), (1, 180)] hK rfl rfl rfl rfl (Or.inr ⟨_, _, _, rfl, by decide, (by decide), rfl⟩) (r_ld hCR1 ⟨(isR_of (p := 180) rfl), h180_⟩ (n := (dg (mon 0 (spR (pl i) t))).toNat) (by omega) (by omega) (by omega) (by omega) ((Bd_is mr_.1).mono (by omega))) ?_
        rintro _ V751 ⟨e751, g751, P751, L751, rfl, C751, S751, F751, f751_0⟩
        have l751_ : (e751 : Int) ≤ dg (mon 0 (spR (pl i) t)) := L751.2.elim (fun q_ => by omega) (fun q_ => by omega)
        refine ⟨(by show (0 : Nat) ≠ 9; decide), (?_ : Wp 198 _ 284 36 [(1, 161), (0, (i : Int)), (0, (n0 : Int)), (0, ((pl i n0).val : Int)), w4] [(0, (e751 : Int)), (0, (t : Int)), (1, 190)] V751 _)⟩
        have sp_ := ldP_sp hr_ br_ (by omega) (by omega) L751
        have eg_ : g751 = spF (pl i) t := sp_.2.1
        have dgg_ := sp_.2.2.2.dg (by omega)
        refine w_iat hK rfl rfl (by decide) (by decide) (by omega) (by omega) ?_
        refine w_ic hK rfl ?_
        refine w_is [(1, 161), (0, (i : Int)), (0, (n0 : Int)), (0, ((pl i n0).val : Int)), (0, 0)] hK rfl rfl rfl ?_
        have lp39 : ∀ (n_ : Nat) (m : Nat) (N39 : Mem), 6 - m = n_ → (m ≤ 5) → (∀ j_ : Nat, j_ < m → N39 189 (5 * (t : Int) + (j_ : Int)) = ((g751 j_).val : Int)) → (∀ y_ : Int, (y_ < 5 * (t : Int) ∨ 5 * (t : Int) + 5 ≤ y_) → N39 189 y_ = (up V751 190 (t : Int) (e751 : Int)) 189 y_) → ((∀ a : Int, a ≠ 189 → N39 a = (up V751 190 (t : Int) (e751 : Int)) a)) → Wp 198 (d + 8) 284 39 [(1, 161), (0, (i : Int)), (0, (n0 : Int)), (0, ((pl i n0).val : Int)), (0, (m : Int))] [] N39 (fun r_ M' => r_ = (0, (spC (pl i) : Int)) ∧ RFS M' k pl n tx (spC (pl i) + 1) (stw (facG (pl i) (spC (pl i))) rw (spC (pl i) + 1)) (spC (pl i)) (spF (pl i)) ∧ (∀ a : Int, (a < 161 ∨ 197 < a) → M' a = M a)) := by
          intro n_
          induction n_ using Nat.strongRecOn with
          | _ n_ ih39 =>
          intro m N39 hm39 hm_ h1_ h2_ hSN39
          refine w_il hK rfl rfl ?_
          refine w_ic hK rfl ?_
          refine w_gt2 hK rfl (by omega) (by omega) (by omega) (by omega) (fun h41 => ?_) (fun h41 => ?_)
          · refine w_al hK rfl rfl ?_
            refine w_dup hK rfl rfl ?_
            refine w_geti (n := 15) (m := 15) hK rfl rfl (by decide) (by decide) rfl rfl rfl rfl ?_
            rw [show N39 161 15 = (t : Int) from ((congrFun (hSN39 161 (by decide)) 15).trans ((congrFun (up_row (by decide)) 15).trans ((congrFun (S751 161 (notR rfl)) 15).trans hf_)))]
            refine w_ic hK rfl ?_
            refine w_add hK rfl (by omega) (by omega) ?_
            refine w_puti (n := 15) (m := 15) hK rfl rfl (by decide) (by decide) rfl rfl rfl rfl ?_
            refine w_al hK rfl rfl ?_
            refine w_al hK rfl rfl ?_
            refine w_getr (n := 26) (v := 180) hK rfl rfl (by decide) (by decide) rfl rfl rfl rfl ?_
            refine w_al hK rfl rfl ?_
            refine w_getr (n := 36) (v := 188) hK rfl rfl (by decide) (by decide) rfl rfl rfl rfl ?_
            refine w_ic hK rfl ?_
            refine w_call [(1, 161), (1, 180), (1, 188), (0, 0)] hK rfl rfl rfl rfl (Or.inr ⟨_, _, _, rfl, by decide, (by decide), rfl⟩) (r_div (RS.cg (RS.congr (RS.upc C751 (by decide) (notR rfl)) (fun a_ ha_ => hSN39 a_ (RSd_ne ha_ (by decide) (notR rfl)))) (fun j_ h1_ h2_ => up_ne2 (by omega)) (fun a_ h1_ h2_ => up_row h1_)) ⟨(isR_of (p := 180) rfl), ((F751 180 (by omega) (by omega) (by omega) (by omega) (by omega) (by omega)).trans h180_)⟩ ⟨(isR_of (p := 188) rfl), f751_0⟩ 0 (by omega) (by omega) (by omega) (by omega) ((Bd_is mr_.1).mono (by omega)) ((Bd_is sp_.2.2.2.1).mono (by omega))) ?_
            rintro _ V752 ⟨P752, rfl, C752, S752, F752, f752_0, f752_1⟩
            refine ⟨by decide, (?_ : Wp 198 _ 284 70 [(1, 161), (0, (i : Int)), (0, (n0 : Int)), (0, ((pl i n0).val : Int)), (0, (m : Int))] [] V752 _)⟩
            refine w_al hK rfl rfl ?_
            refine w_getr (n := 20) (v := 174) hK rfl rfl (by decide) (by decide) rfl rfl rfl rfl ?_
            refine w_al hK rfl rfl ?_
            refine w_getr (n := 26) (v := 180) hK rfl rfl (by decide) (by decide) rfl rfl rfl rfl ?_
            refine w_call [(1, 174), (1, 180)] hK rfl rfl rfl rfl (Or.inl rfl) (r_copy C752 ⟨(isR_of (p := 174) rfl), f752_1⟩ (isR_of (p := 180) rfl) (by omega)) ?_
            rintro _ V753 ⟨P753, rfl, C753, S753, F753, f753_0⟩
            refine ⟨by decide, (?_ : Wp 198 _ 284 75 [(1, 161), (0, (i : Int)), (0, (n0 : Int)), (0, ((pl i n0).val : Int)), (0, (m : Int))] [] V753 _)⟩
            refine w_goto hK rfl ?_
            have e180_ : dq 0 (mon 0 (spR (pl i) t)) g751 = mon 0 (spR (pl i) (t + 1)) := by
              have h_ := sp_mon hr_ br_ sp_.2.2.2 (ldP_dv hr_ br_ (by omega) (by omega) L751)
              rw [h_, eg_]
              rfl
            have w189_ := ((S753 189 (notR rfl)).trans ((S752 189 (notR rfl)).trans (up_row (by decide))))
            have w190_ := ((S753 190 (notR rfl)).trans ((S752 190 (notR rfl)).trans (up_row (by decide))))
            exact ih24 _ (by omega) (t + 1) (0, (m : Int)) _ V753 rfl (by omega) (fun j_ hj_ => by
              by_cases q_ : j_ = t
              · rw [q_]; omega
              · exact hz_ j_ (by omega)) ((((congrFun (S753 161 (notR rfl)) 15).trans ((congrFun (S752 161 (notR rfl)) 15).trans up_eq))).trans (by omega)) (fun i_ hi_ => by
              have l190_ : N39 190 = (up V751 190 (t : Int) (e751 : Int)) 190 := hSN39 190 (by decide)
              have o189_ : (up V751 190 (t : Int) (e751 : Int)) 189 = N24 189 := ((up_row (by decide)).trans (S751 189 (notR rfl)))
              have o190_ : V751 190 = N24 190 := (S751 190 (notR rfl))
              rw [w189_, w190_, l190_]
              by_cases q_ : i_ = t
              · rw [q_]
                exact ⟨up_eq.trans (by rw [← eg_]; exact dgg_.symm), fun j_ hj_ => (h1_ j_ (by omega)).trans (by rw [eg_])⟩
              · have h_ := hF_ i_ (by omega)
                refine ⟨(up_ne2 (by omega)).trans ((congrFun o190_ _).trans h_.1), fun j_ hj_ => (h2_ _ (by omega)).trans ((congrFun o189_ _).trans (h_.2 j_ hj_))⟩) C753 ((f753_0).trans (congrArg some e180_)) (fun p pn170_ pn171_ pn172_ pn173_ pn174_ pn180_ pn188_ => ((F753 p pn180_).trans ((F752 p pn170_ pn171_ pn172_ pn173_ pn174_).trans ((F751 p pn170_ pn171_ pn172_ pn173_ pn174_ pn188_).trans (hGR1 p pn170_ pn171_ pn172_ pn173_ pn174_ pn180_ pn188_))))) (fun a nr_ n161_ n189_ n190_ => ((S753 a nr_).trans ((S752 a nr_).trans ((up_row n161_).trans ((hSN39 a n189_).trans ((up_row n190_).trans ((S751 a nr_).trans (hSN24 a nr_ n161_ n189_ n190_)))))))) (fun j n15_ => ((congrFun (S753 161 (notR rfl)) j).trans ((congrFun (S752 161 (notR rfl)) j).trans ((up_ne2 n15_).trans ((congrFun (hSN39 161 (by decide)) j).trans ((congrFun (up_row (by decide)) j).trans ((congrFun (S751 161 (notR rfl)) j).trans (hHN24 j n15_))))))))
          · refine w_al hK rfl rfl ?_
            refine w_getr (n := 37) (v := 189) hK rfl rfl (by decide) (by decide) rfl rfl rfl rfl ?_
            refine w_ic hK rfl ?_
            refine w_al hK rfl rfl ?_
            refine w_geti (n := 15) (m := 15) hK rfl rfl (by decide) (by decide) rfl rfl rfl rfl ?_
            rw [show N39 161 15 = (t : Int) from ((congrFun (hSN39 161 (by decide)) 15).trans ((congrFun (up_row (by decide)) 15).trans ((congrFun (S751 161 (notR rfl)) 15).trans hf_)))]
            refine w_mul hK rfl (by omega) (by omega) ?_
            refine w_il hK rfl rfl ?_
            refine w_add hK rfl (by omega) (by omega) ?_
            refine w_al hK rfl rfl ?_
            refine w_getr (n := 36) (v := 188) hK rfl rfl (by decide) (by decide) rfl rfl rfl rfl ?_
            refine w_il hK rfl rfl ?_
            refine w_ia hK rfl rfl (by decide) (by decide) (by omega) (by omega) ?_
            rw [show N39 188 (m : Int) = ((g751 m).val : Int) from (RS.congr (RS.upc C751 (by decide) (notR rfl)) (fun a_ ha_ => hSN39 a_ (RSd_ne ha_ (by decide) (notR rfl)))).atz ⟨(isR_of (p := 188) rfl), f751_0⟩ (j := m) (by omega) (by omega)]
            refine w_iat hK rfl rfl (by decide) (by decide) (by omega) (by omega) ?_
            refine w_inc [(1, 161), (0, (i : Int)), (0, (n0 : Int)), (0, ((pl i n0).val : Int)), (0, ((m : Int) + 1))] hK rfl rfl rfl (by omega) (by omega) rfl ?_
            refine w_goto hK rfl ?_
            exact ih39 _ (by omega) (m + 1) (up N39 189 ((5 * (t : Int)) + (m : Int)) ((g751 m).val : Int)) rfl (by omega) (fun j_ hj_ => by
              by_cases q_ : j_ = m
              · rw [q_]; exact up_eq
              · exact (up_ne2 (by omega)).trans (h1_ j_ (by omega))) (fun y_ hy_ => (up_ne2 (by omega)).trans (h2_ y_ hy_)) (fun a n189_ => ((up_row n189_).trans (hSN39 a n189_)))
        exact lp39 _ 0 (up V751 190 (t : Int) (e751 : Int)) rfl (by omega) (fun j_ hj_ => by omega) (fun y_ hy_ => rfl) (fun a n189_ => rfl)
    exact lp24 _ 0 (3, 0) _ (up V748 161 15 0) rfl (by omega) (fun j_ hj_ => by omega) (up_eq) (fun i_ hi_ => by omega) (RS.cg C748 (fun j_ h1_ h2_ => up_ne2 (by omega)) (fun a_ h1_ h2_ => up_row h1_)) (f748_0) (fun p pn170_ pn171_ pn172_ pn173_ pn174_ pn180_ pn188_ => rfl) (fun a nr_ n161_ n189_ n190_ => rfl) (fun j n15_ => rfl)
  · exfalso; omega
set_option maxRecDepth 100000 in
theorem ry_factors {d : Nat} {M : Mem} {k : Nat} {pl : Nat → Pl k} {n : Int} {tx : Int → Int} {rc : Nat} {rw : Int → Int} {fc : Nat} {fa : Nat → Pl k} (H : RFS M k pl n tx rc rw fc fa) (i : Nat) (hi : i < 6) (hi0 : dg (pl i) < 0) : Ct 198 (d + 8) 284 [(1, 161), (0, (i : Int))] M (fun r_ M' => r_ = (0, (-2)) ∧ RFS M' k pl n tx rc rw fc fa ∧ (∀ a : Int, (a < 161 ∨ 197 < a) → M' a = M a)) := by
  have hK : cd 284 = k284 := rfl
  obtain ⟨R, C, hpl, T, hR, hF⟩ := H
  have q1_ := qq_I k
  have p1_ := pp_I k
  have m1_ := mm_I k
  have bi_ := (hpl i hi).2
  have di_ := dg_lt9 bi_
  show Wp 198 _ 284 0 [(1, 161), (0, (i : Int)), (3, 0), (3, 0), (3, 0)] [] M _
  refine w_al hK rfl rfl ?_
  refine w_ic hK rfl ?_
  refine w_puti (n := 14) (m := 14) hK rfl rfl (by decide) (by decide) rfl rfl rfl rfl ?_
  refine w_al hK rfl rfl ?_
  refine w_il hK rfl rfl ?_
  refine w_call [(1, 161), (0, (i : Int))] hK rfl rfl rfl rfl (Or.inr ⟨_, _, _, rfl, by decide, (by decide), rfl⟩) (r_ask (RS.cg C (fun j_ h1_ h2_ => up_ne2 (by omega)) (fun a_ h1_ h2_ => up_row h1_)) (PM.keep hpl (up_row (by decide))) i hi (-2) (by omega)) ?_
  rintro _ V754 ⟨P754, rfl, C754, S754, F754, f754_0⟩
  refine ⟨by show (0 : Nat) ≠ 9; decide, (?_ : Wp 198 _ 284 6 [(1, 161), (0, (i : Int)), (3, 0), (3, 0), (3, 0)] [(0, (-2))] V754 _)⟩
  refine w_is [(1, 161), (0, (i : Int)), (0, (-2)), (3, 0), (3, 0)] hK rfl rfl rfl ?_
  refine w_il hK rfl rfl ?_
  refine w_ge hK rfl (by omega) (by omega) (fun h8 => ?_) (fun h8 => ?_)
  · exfalso; omega
  · refine w_il hK rfl rfl ?_
    refine w_iret hK rfl rfl ?_
    exact ⟨rfl, ⟨_, C754, (PM.keep hpl ((S754 167 (notR rfl)).trans (up_row (by decide)))), (TMs.keep T ((congrFun (S754 161 (notR rfl)) 11).trans (up_ne2 (by decide))) ((S754 168 (notR rfl)).trans (up_row (by decide)))), (RM.keep hR ((congrFun (S754 161 (notR rfl)) 13).trans (up_ne2 (by decide))) ((S754 169 (notR rfl)).trans (up_row (by decide)))), (FM.keep hF ((congrFun (S754 161 (notR rfl)) 15).trans (up_ne2 (by decide))) ((S754 189 (notR rfl)).trans (up_row (by decide))) ((S754 190 (notR rfl)).trans (up_row (by decide))))⟩, (fun a h_ => ((S754 a (npR h_)).trans (up_row (by omega))))⟩
set_option maxRecDepth 100000 in
theorem rz_factors {d : Nat} {M : Mem} {k : Nat} {pl : Nat → Pl k} {n : Int} {tx : Int → Int} {rc : Nat} {rw : Int → Int} {fc : Nat} {fa : Nat → Pl k} (H : RFS M k pl n tx rc rw fc fa) (i : Nat) (hi : i < 6) (hi0 : 4 < dg (pl i)) : Ct 198 (d + 8) 284 [(1, 161), (0, (i : Int))] M (fun r_ M' => r_ = (0, (-3)) ∧ RFS M' k pl n tx rc rw fc fa ∧ (∀ a : Int, (a < 161 ∨ 197 < a) → M' a = M a)) := by
  have hK : cd 284 = k284 := rfl
  obtain ⟨R, C, hpl, T, hR, hF⟩ := H
  have q1_ := qq_I k
  have p1_ := pp_I k
  have m1_ := mm_I k
  have bi_ := (hpl i hi).2
  have di_ := dg_lt9 bi_
  show Wp 198 _ 284 0 [(1, 161), (0, (i : Int)), (3, 0), (3, 0), (3, 0)] [] M _
  refine w_al hK rfl rfl ?_
  refine w_ic hK rfl ?_
  refine w_puti (n := 14) (m := 14) hK rfl rfl (by decide) (by decide) rfl rfl rfl rfl ?_
  refine w_al hK rfl rfl ?_
  refine w_il hK rfl rfl ?_
  refine w_call [(1, 161), (0, (i : Int))] hK rfl rfl rfl rfl (Or.inr ⟨_, _, _, rfl, by decide, (by decide), rfl⟩) (r_ask (RS.cg C (fun j_ h1_ h2_ => up_ne2 (by omega)) (fun a_ h1_ h2_ => up_row h1_)) (PM.keep hpl (up_row (by decide))) i hi (-3) (by omega)) ?_
  rintro _ V755 ⟨P755, rfl, C755, S755, F755, f755_0⟩
  refine ⟨by show (0 : Nat) ≠ 9; decide, (?_ : Wp 198 _ 284 6 [(1, 161), (0, (i : Int)), (3, 0), (3, 0), (3, 0)] [(0, (-3))] V755 _)⟩
  refine w_is [(1, 161), (0, (i : Int)), (0, (-3)), (3, 0), (3, 0)] hK rfl rfl rfl ?_
  refine w_il hK rfl rfl ?_
  refine w_ge hK rfl (by omega) (by omega) (fun h8 => ?_) (fun h8 => ?_)
  · exfalso; omega
  · refine w_il hK rfl rfl ?_
    refine w_iret hK rfl rfl ?_
    exact ⟨rfl, ⟨_, C755, (PM.keep hpl ((S755 167 (notR rfl)).trans (up_row (by decide)))), (TMs.keep T ((congrFun (S755 161 (notR rfl)) 11).trans (up_ne2 (by decide))) ((S755 168 (notR rfl)).trans (up_row (by decide)))), (RM.keep hR ((congrFun (S755 161 (notR rfl)) 13).trans (up_ne2 (by decide))) ((S755 169 (notR rfl)).trans (up_row (by decide)))), (FM.keep hF ((congrFun (S755 161 (notR rfl)) 15).trans (up_ne2 (by decide))) ((S755 189 (notR rfl)).trans (up_row (by decide))) ((S755 190 (notR rfl)).trans (up_row (by decide))))⟩, (fun a h_ => ((S755 a (npR h_)).trans (up_row (by omega))))⟩
set_option maxRecDepth 100000 in
theorem rn_factors {d : Nat} {M : Mem} {k : Nat} {pl : Nat → Pl k} {n : Int} {tx : Int → Int} {rc : Nat} {rw : Int → Int} {fc : Nat} {fa : Nat → Pl k} (H : RFS M k pl n tx rc rw fc fa) (i : Int) (i1_ : -2147483648 ≤ i) (i2_ : i ≤ 2147483647) (hn : ¬ (0 ≤ i ∧ i < 6)) : Ct 198 (d + 8) 284 [(1, 161), (0, i)] M (fun r_ M' => r_ = (0, -1) ∧ RFS M' k pl n tx rc rw fc fa ∧ (∀ a : Int, (a < 161 ∨ 197 < a) → M' a = M a)) := by
  have hK : cd 284 = k284 := rfl
  obtain ⟨R, C, hpl, T, hR, hF⟩ := H
  have q1_ := qq_I k
  have p1_ := pp_I k
  have m1_ := mm_I k
  show Wp 198 _ 284 0 [(1, 161), (0, i), (3, 0), (3, 0), (3, 0)] [] M _
  refine w_al hK rfl rfl ?_
  refine w_ic hK rfl ?_
  refine w_puti (n := 14) (m := 14) hK rfl rfl (by decide) (by decide) rfl rfl rfl rfl ?_
  refine w_al hK rfl rfl ?_
  refine w_il hK rfl rfl ?_
  refine w_call [(1, 161), (0, i)] hK rfl rfl rfl rfl (Or.inr ⟨_, _, _, rfl, by decide, (by decide), rfl⟩) (r_askN i (by omega) (by omega) (by omega)) ?_
  rintro _ Mq ⟨rfl, e_⟩
  subst Mq
  refine ⟨by show (0 : Nat) ≠ 9; decide, (?_ : Wp 198 _ 284 6 [(1, 161), (0, i), (3, 0), (3, 0), (3, 0)] [(0, (-1))] (up M 161 14 0) _)⟩
  refine w_is [(1, 161), (0, i), (0, (-1)), (3, 0), (3, 0)] hK rfl rfl rfl ?_
  refine w_il hK rfl rfl ?_
  refine w_ge hK rfl (by omega) (by omega) (fun h8 => ?_) (fun h8 => ?_)
  · exfalso; omega
  · refine w_il hK rfl rfl ?_
    refine w_iret hK rfl rfl ?_
    exact ⟨rfl, ⟨_, (RS.cg C (fun j_ h1_ h2_ => up_ne2 (by omega)) (fun a_ h1_ h2_ => up_row h1_)), (PM.keep hpl (up_row (by decide))), (TMs.keep T (up_ne2 (by decide)) (up_row (by decide))), (RM.keep hR (up_ne2 (by decide)) (up_row (by decide))), (FM.keep hF (up_ne2 (by decide)) (up_row (by decide)) (up_row (by decide)))⟩, (fun a h_ => (up_row (by omega)))⟩
