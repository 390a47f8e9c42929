/-! the reference's call field */ -/
theorem PM.fresh {M : Mem} {k : Nat} (h : ∀ j : Nat, j < 54 → M 167 (j : Int) = 0) : PM M (fun _ => (pz : Pl k)) := fun i hi => ⟨fun j hj => by
  have h2 := h (9 * i + j) (by omega)
  rw [show ((9 * i + j : Nat) : Int) = 9 * (i : Int) + (j : Int) by omega] at h2
  rw [h2]
  exact el0.symm, fun _ _ => rfl⟩
set_option maxRecDepth 100000 in
theorem rn_field {d : Nat} {M : Mem} {k : Nat} {pl : Nat → Pl k} {n : Int} {tx : Int → Int} {rc : Nat} {rw : Int → Int} {fc : Nat} {fa : Nat → Pl k} (H : RFS M k pl n tx rc rw fc fa) (x : Int) (x1_ : -2147483648 ≤ x) (x2_ : x ≤ 2147483647) (hn : ¬ (0 ≤ x ∧ x < 4)) : Ct 198 (d + 8) 200 [(1, 161), (0, x)] M (fun r_ M' => r_ = (0, -1) ∧ RFS M' k pl n tx rc rw fc fa ∧ (∀ a : Int, (a < 161 ∨ 197 < a) → M' a = M a)) := by
  have hK : cd 200 = k200 := rfl
  obtain ⟨R, C, hpl, T, hR, hF⟩ := H
  have q1_ := qq_I k
  have p1_ := pp_I k
  have m1_ := mm_I k
  show Wp 198 _ 200 0 [(1, 161), (0, x), (3, 0)] [] M _
  refine w_al hK rfl rfl ?_
  refine w_ic hK rfl ?_
  refine w_puti (n := 14) (m := 14) hK rfl rfl (by decide) (by decide) rfl rfl rfl rfl ?_
  refine w_il hK rfl rfl ?_
  refine w_i2l hK rfl (by omega) (by omega) ?_
  refine w_lc hK rfl ?_
  refine w_lcw hK rfl ?_
  refine w_call [(2, x), (2, 0), (2, 3)] hK rfl rfl rfl rfl (Or.inl rfl) (r_in x 0 3 (by omega) (by omega) (by omega) (by omega) (by omega) (by omega)) ?_
  rintro _ Mq ⟨rfl, e_⟩
  subst Mq
  have iI_698 := ite01 (0 ≤ x ∧ x ≤ 3)
  refine ⟨by show (0 : Nat) ≠ 9; decide, (?_ : Wp 198 _ 200 8 [(1, 161), (0, x), (3, 0)] [(0, (if 0 ≤ x ∧ x ≤ 3 then 1 else 0))] (up M 161 14 0) _)⟩
  refine w_ne hK rfl (by omega) (by omega) (fun h8 => ?_) (fun h8 => ?_)
  · exfalso; omega
  · refine w_ic hK rfl ?_
    refine w_iret hK rfl rfl ?_
    exact ⟨rfl, ⟨_, (RS.cg C (fun j_ h1_ h2_ => up_ne2 (by omega)) (fun a_ h1_ h2_ => up_row h1_)), (PM.keep hpl (up_row (by decide))), (TMs.keep T (up_ne2 (by decide)) (up_row (by decide))), (RM.keep hR (up_ne2 (by decide)) (up_row (by decide))), (FM.keep hF (up_ne2 (by decide)) (up_row (by decide)) (up_row (by decide)))⟩, (fun a h_ => (up_row (by omega)))⟩
set_option maxRecDepth 100000 in
theorem ry_field {d : Nat} {M : Mem} {k : Nat} {pl : Nat → Pl k} {n : Int} {tx : Int → Int} {rc : Nat} {rw : Int → Int} {fc : Nat} {fa : Nat → Pl k} (H : RFS M k pl n tx rc rw fc fa) (x : Int) (hx : x = (k : Int)) (hk_ : k < 4) : Ct 198 (d + 8) 200 [(1, 161), (0, x)] M (fun r_ M' => r_ = (0, -2) ∧ RFS M' k pl n tx rc rw fc fa ∧ (∀ a : Int, (a < 161 ∨ 197 < a) → M' a = M a)) := by
  have hK : cd 200 = k200 := rfl
  obtain ⟨R, C, hpl, T, hR, hF⟩ := H
  have q1_ := qq_I k
  have p1_ := pp_I k
  have m1_ := mm_I k
  show Wp 198 _ 200 0 [(1, 161), (0, x), (3, 0)] [] M _
  refine w_al hK rfl rfl ?_
  refine w_ic hK rfl ?_
  refine w_puti (n := 14) (m := 14) hK rfl rfl (by decide) (by decide) rfl rfl rfl rfl ?_
  refine w_il hK rfl rfl ?_
  refine w_i2l hK rfl (by omega) (by omega) ?_
  refine w_lc hK rfl ?_
  refine w_lcw hK rfl ?_
  refine w_call [(2, x), (2, 0), (2, 3)] hK rfl rfl rfl rfl (Or.inl rfl) (r_in x 0 3 (by omega) (by omega) (by omega) (by omega) (by omega) (by omega)) ?_
  rintro _ Mq ⟨rfl, e_⟩
  subst Mq
  have iI_699 := ite01 (0 ≤ x ∧ x ≤ 3)
  refine ⟨by show (0 : Nat) ≠ 9; decide, (?_ : Wp 198 _ 200 8 [(1, 161), (0, x), (3, 0)] [(0, (if 0 ≤ x ∧ x ≤ 3 then 1 else 0))] (up M 161 14 0) _)⟩
  refine w_ne hK rfl (by omega) (by omega) (fun h8 => ?_) (fun h8 => ?_)
  · refine w_il hK rfl rfl ?_
    refine w_al hK rfl rfl ?_
    refine w_geti (n := 0) (m := 0) hK rfl rfl (by decide) (by decide) rfl rfl rfl rfl ?_
    rw [show (up M 161 14 0) 161 0 = (k : Int) from (RS.cg C (fun j_ h1_ h2_ => up_ne2 (by omega)) (fun a_ h1_ h2_ => up_row h1_)).F.k0]
    refine w_ne2 hK rfl (by omega) (by omega) (by omega) (by omega) (fun h14 => ?_) (fun h14 => ?_)
    · exfalso; omega
    · refine w_ic hK rfl ?_
      refine w_iret hK rfl rfl ?_
      exact ⟨rfl, ⟨_, (RS.cg C (fun j_ h1_ h2_ => up_ne2 (by omega)) (fun a_ h1_ h2_ => up_row h1_)), (PM.keep hpl (up_row (by decide))), (TMs.keep T (up_ne2 (by decide)) (up_row (by decide))), (RM.keep hR (up_ne2 (by decide)) (up_row (by decide))), (FM.keep hF (up_ne2 (by decide)) (up_row (by decide)) (up_row (by decide)))⟩, (fun a h_ => (up_row (by omega)))⟩
  · exfalso; omega
set_option maxRecDepth 100000 in
theorem ro_field {d : Nat} {M : Mem} {k : Nat} {pl : Nat → Pl k} {n : Int} {tx : Int → Int} {rc : Nat} {rw : Int → Int} {fc : Nat} {fa : Nat → Pl k} (H : RFS M k pl n tx rc rw fc fa) (k2 : Nat) (hk2 : k2 < 4) (hne : (k2 : Int) ≠ (k : Int)) : Ct 198 (d + 8) 200 [(1, 161), (0, (k2 : Int))] M (fun r_ M' => r_ = (0, (qq k2 : Int)) ∧ RFS M' k2 (fun _ => (pz : Pl k2)) n tx rc rw 0 (fun _ => (pz : Pl k2)) ∧ (∀ a : Int, (a < 161 ∨ 197 < a) → M' a = M a)) := by
  have hK : cd 200 = k200 := rfl
  obtain ⟨R, C, hpl, T, hR, hF⟩ := H
  have q1_ := qq_I k
  have p1_ := pp_I k
  have m1_ := mm_I k
  have k4_ := C.F.1
  have q2_ := qq_I k2
  have z165_ : M 165 0 = 0 := by
    have h_ := C.F.v (z0 : El k)
    rw [iv_zero0 _ rfl, z0_val] at h_
    exact h_
  show Wp 198 _ 200 0 [(1, 161), (0, (k2 : Int)), (3, 0)] [] M _
  refine w_al hK rfl rfl ?_
  refine w_ic hK rfl ?_
  refine w_puti (n := 14) (m := 14) hK rfl rfl (by decide) (by decide) rfl rfl rfl rfl ?_
  refine w_il hK rfl rfl ?_
  refine w_i2l hK rfl (by omega) (by omega) ?_
  refine w_lc hK rfl ?_
  refine w_lcw hK rfl ?_
  refine w_call [(2, (k2 : Int)), (2, 0), (2, 3)] hK rfl rfl rfl rfl (Or.inl rfl) (r_in (k2 : Int) 0 3 (by omega) (by omega) (by omega) (by omega) (by omega) (by omega)) ?_
  rintro _ Mq ⟨rfl, e_⟩
  subst Mq
  have iI_700 := ite01 (0 ≤ (k2 : Int) ∧ (k2 : Int) ≤ 3)
  refine ⟨by show (0 : Nat) ≠ 9; decide, (?_ : Wp 198 _ 200 8 [(1, 161), (0, (k2 : Int)), (3, 0)] [(0, (if 0 ≤ (k2 : Int) ∧ (k2 : Int) ≤ 3 then 1 else 0))] (up M 161 14 0) _)⟩
  refine w_ne hK rfl (by omega) (by omega) (fun h8 => ?_) (fun h8 => ?_)
  · refine w_il hK rfl rfl ?_
    refine w_al hK rfl rfl ?_
    refine w_geti (n := 0) (m := 0) hK rfl rfl (by decide) (by decide) rfl rfl rfl rfl ?_
    rw [show (up M 161 14 0) 161 0 = (k : Int) from (RS.cg C (fun j_ h1_ h2_ => up_ne2 (by omega)) (fun a_ h1_ h2_ => up_row h1_)).F.k0]
    refine w_ne2 hK rfl (by omega) (by omega) (by omega) (by omega) (fun h14 => ?_) (fun h14 => ?_)
    · refine w_al hK rfl rfl ?_
      refine w_il hK rfl rfl ?_
      refine w_call [(1, 161), (0, (k2 : Int))] hK rfl rfl rfl rfl (Or.inr ⟨_, _, _, rfl, by decide, (by decide), rfl⟩) (r_lays (k := k2) hk2 (((congrFun (up_row (by decide)) 0).trans z165_))) ?_
      rintro _ V701 ⟨rfl, L701, S701, G701⟩
      refine ⟨by decide, (?_ : Wp 198 _ 200 20 [(1, 161), (0, (k2 : Int)), (3, 0)] [] V701 _)⟩
      refine w_ic hK rfl ?_
      refine w_is [(1, 161), (0, (k2 : Int)), (0, 0)] hK rfl rfl rfl ?_
      have lp22 : ∀ (n_ : Nat) (x : Nat) (N22 : Mem), 55 - x = n_ → (x ≤ 54) → (∀ j : Nat, j < x → N22 167 (j : Int) = 0) → (∀ a : Int, a ≠ 167 → N22 a = V701 a) → Wp 198 (d + 8) 200 22 [(1, 161), (0, (k2 : Int)), (0, (x : Int))] [] N22 (fun r_ M' => r_ = (0, (qq k2 : Int)) ∧ RFS M' k2 (fun _ => (pz : Pl k2)) n tx rc rw 0 (fun _ => (pz : Pl k2)) ∧ (∀ a : Int, (a < 161 ∨ 197 < a) → M' a = M a)) := by
        intro n_
        induction n_ using Nat.strongRecOn with
        | _ n_ ih22 =>
        intro x N22 hm22 hx h1_ hS
        refine w_il hK rfl rfl ?_
        refine w_ic hK rfl ?_
        refine w_ge2 hK rfl (by omega) (by omega) (by omega) (by omega) (fun h24 => ?_) (fun h24 => ?_)
        · refine w_al hK rfl rfl ?_
          refine w_ic hK rfl ?_
          refine w_puti (n := 15) (m := 15) hK rfl rfl (by decide) (by decide) rfl rfl rfl rfl ?_
          refine w_al hK rfl rfl ?_
          refine w_geti (n := 1) (m := 1) hK rfl rfl (by decide) (by decide) rfl rfl rfl rfl ?_
          rw [show (up N22 161 15 0) 161 1 = (qq k2 : Int) from ((up_ne2 (by omega)).trans ((congrFun (hS 161 (by decide)) 1).trans L701.q))]
          refine w_iret hK rfl rfl ?_
          have hx54_ : x = 54 := by omega
          subst x
          exact ⟨rfl, ⟨fun _ => none, ⟨(RF.congr L701 (fun j_ h1_ h2_ => (up_ne2 (by omega)).trans (congrFun (hS 161 (by decide)) j_)) (fun x_ h1_ h2_ => (up_row (by omega)).trans (hS x_ (by omega)))), fun _ _ _ h_ => nomatch h_⟩, PM.fresh (fun j_ hj_ => (congrFun (up_row (by decide)) _).trans (h1_ j_ hj_)), (TMs.keep T ((up_ne2 (by decide)).trans ((congrFun (hS 161 (by decide)) 11).trans ((G701 11 (by decide) (by decide) (by decide) (by decide)).trans (up_ne2 (by decide))))) ((up_row (by decide)).trans ((hS 168 (by decide)).trans ((S701 168 (by decide)).trans (up_row (by decide)))))), (RM.keep hR ((up_ne2 (by decide)).trans ((congrFun (hS 161 (by decide)) 13).trans ((G701 13 (by decide) (by decide) (by decide) (by decide)).trans (up_ne2 (by decide))))) ((up_row (by decide)).trans ((hS 169 (by decide)).trans ((S701 169 (by decide)).trans (up_row (by decide)))))), ⟨up_eq, by decide, fun i_ hi_ => by omega⟩⟩, (fun a h_ => ((up_row (by omega)).trans ((hS a (by omega)).trans ((S701 a (by omega)).trans (up_row (by omega))))))⟩
        · refine w_al hK rfl rfl ?_
          refine w_getr (n := 9) (v := 167) hK rfl rfl (by decide) (by decide) rfl rfl rfl rfl ?_
          refine w_il hK rfl rfl ?_
          refine w_ic hK rfl ?_
          refine w_iat hK rfl rfl (by decide) (by decide) (by omega) (by omega) ?_
          refine w_inc [(1, 161), (0, (k2 : Int)), (0, ((x : Int) + 1))] hK rfl rfl rfl (by omega) (by omega) rfl ?_
          refine w_goto hK rfl ?_
          exact ih22 _ (by omega) (x + 1) (up N22 167 (x : Int) 0) rfl (by omega) (fun j hj => by
            by_cases q_ : j = x
            · rw [q_]; exact up_eq
            · exact (up_ne2 (by omega)).trans (h1_ j (by omega))) (fun a ha => (up_row ha).trans (hS a ha))
      exact lp22 _ 0 V701 rfl (by omega) (fun j hj => by omega) (fun a ha => rfl)
    · exfalso; omega
  · exfalso; omega
