/-! the class's state -/
def PLs {k : Nat} (P : Int → Option (Pl k)) (pl : Nat → Pl k) : Prop := ∀ i : Nat, i < 6 → P (149 + 2 * (i : Int)) = some (pl i) ∧ Bd (pl i) 9
def RWs (M : Mem) (rc : Nat) (rw : Int → Int) : Prop := M 0 11 = (rc : Int) ∧ rc ≤ 32 ∧ ∀ j : Nat, j < rc → M 144 (j : Int) = rw (j : Int)
def FCs (M : Mem) {k : Nat} (P : Int → Option (Pl k)) (fc : Nat) (fa : Nat → Pl k) : Prop := M 52 9 = (fc : Int) ∧ fc ≤ 4 ∧ ∀ i : Nat, i < fc → P (68 + 6 * (i : Int)) = some (fa i) ∧ ∃ d : Nat, d ≤ 4 ∧ IsDg (fa i) (d : Int)
/-- the field k, the PLACES, THE TEXT, the ROW, the FACTORS -/
def CLS (M : Mem) (k : Nat) (pl : Nat → Pl k) (n : Int) (tx : Int → Int) (rc : Nat) (rw : Int → Int) (fc : Nat) (fa : Nat → Pl k) : Prop := ∃ (P : Int → Option (Pl k)) (u l z : Int), CS M k P ∧ ES M u l z ∧ PLs P pl ∧ TXs M n tx ∧ RWs M rc rw ∧ FCs M P fc fa
theorem ES.keep {M N : Mem} {u l z : Int} (E : ES M u l z) (h : N 18 = M 18) : ES N u l z := by unfold ES; rw [h]; exact E
theorem TXs.keep {M N : Mem} {n : Int} {tx : Int → Int} (T : TXs M n tx) (h : N 140 = M 140) (h2 : N 141 = M 141) : TXs N n tx := T.mk2 ((congrFun h 3).trans T.1.1) h2
theorem RWs.keep {M N : Mem} {rc : Nat} {rw : Int → Int} (R : RWs M rc rw) (h : N 0 = M 0) (h2 : N 144 = M 144) : RWs N rc rw := ⟨(congrFun h 11).trans R.1, R.2.1, fun j hj => (congrFun h2 _).trans (R.2.2 j hj)⟩
theorem FCs.keep {M N : Mem} {k : Nat} {P P' : Int → Option (Pl k)} {fc : Nat} {fa : Nat → Pl k} (F : FCs M P fc fa) (h : N 52 = M 52) (h2 : ∀ i : Nat, i < 4 → P' (68 + 6 * (i : Int)) = P (68 + 6 * (i : Int))) : FCs N P' fc fa := ⟨(congrFun h 9).trans F.1, F.2.1, fun i hi => ⟨(h2 i (by have := F.2.1; omega)).trans (F.2.2 i hi).1, (F.2.2 i hi).2⟩⟩
theorem PLs.keep {k : Nat} {P P' : Int → Option (Pl k)} {pl : Nat → Pl k} (h : PLs P pl) (h2 : ∀ i : Nat, i < 6 → P' (149 + 2 * (i : Int)) = P (149 + 2 * (i : Int))) : PLs P' pl := fun i hi => ⟨(h2 i hi).trans (h i hi).1, (h i hi).2⟩
theorem PLs.put {k : Nat} {P P' : Int → Option (Pl k)} {pl : Nat → Pl k} {j : Nat} {f : Pl k} (h : PLs P pl) (hf : P' (149 + 2 * (j : Int)) = some f) (hb : Bd f 9) (h2 : ∀ i : Nat, i < 6 → i ≠ j → P' (149 + 2 * (i : Int)) = P (149 + 2 * (i : Int))) : PLs P' (fup pl j f) := fun i hi => by
  by_cases e : i = j
  · rw [e, fup_eq]; exact ⟨hf, hb⟩
  · rw [fup_ne e]; exact ⟨(h2 i hi e).trans (h i hi).1, (h i hi).2⟩
theorem PLs.put2 {k : Nat} {P P' : Int → Option (Pl k)} {pl : Nat → Pl k} {j l : Nat} {f g : Pl k} (h : PLs P pl) (hf : P' (149 + 2 * (j : Int)) = some f) (hb : Bd f 9) (hg : P' (149 + 2 * (l : Int)) = some g) (hc : Bd g 9) (hn : j ≠ l) (h2 : ∀ i : Nat, i < 6 → i ≠ j → i ≠ l → P' (149 + 2 * (i : Int)) = P (149 + 2 * (i : Int))) : PLs P' (fup (fup pl j f) l g) := fun i hi => by
  by_cases e : i = l
  · rw [e, fup_eq]; exact ⟨hg, hc⟩
  · rw [fup_ne e]
    by_cases e2 : i = j
    · rw [e2, fup_eq]; exact ⟨hf, hb⟩
    · rw [fup_ne e2]; exact ⟨(h2 i hi e2 e).trans (h i hi).1, (h i hi).2⟩
theorem isPP {i : Nat} (h : i < 6) : isP (149 + 2 * (i : Int)) := by
  have h2 : ∀ i : Fin 6, isPs (149 + 2 * (i.val : Int)) = true := by decide +kernel
  exact isP_of (h2 ⟨i, h⟩)
theorem pl_ref {i : Nat} (h : i < 6) : (([149, 151, 153, 155, 157, 159] : List Int).getD ((i : Int)).toNat (-1)) = 149 + 2 * (i : Int) := by
  have h2 : ∀ i : Fin 6, ([149, 151, 153, 155, 157, 159] : List Int).getD ((i.val : Int)).toNat (-1) = 149 + 2 * (i.val : Int) := by decide +kernel
  exact h2 ⟨i, h⟩
def plr (i : Int) : Int := if 0 ≤ i ∧ i < 6 then 149 + 2 * i else -1
theorem plr_I (i : Int) : ((0 ≤ i ∧ i < 6) ∧ plr i = 149 + 2 * i) ∨ ((i < 0 ∨ 6 ≤ i) ∧ plr i = -1) := by
  unfold plr
  split
  · rename_i h; exact Or.inl ⟨h, rfl⟩
  · exact Or.inr ⟨by omega, rfl⟩
theorem npC {a : Int} (h : a < 0 ∨ 160 < a) : ∀ p : Int, isP p → a ≠ p ∧ a ≠ p + 1 := fun p hp => by have := hp.1; omega
theorem dg_lt9 {k : Nat} {f : Pl k} (h : Bd f 9) : -1 ≤ dg f ∧ dg f ≤ 8 := ⟨dg_ge f, by have := dg_lt h (by decide); omega⟩
theorem ite01 (p : Prop) [Decidable p] : (p ∧ (if p then (1 : Int) else 0) = 1) ∨ (¬ p ∧ (if p then (1 : Int) else 0) = 0) := by
  by_cases h : p
  · exact Or.inl ⟨h, if_pos h⟩
  · exact Or.inr ⟨h, if_neg h⟩
theorem shl_q (k : Nat) : (i32 1 <<< (i32 (qq k : Int) &&& 31)).toInt = (2 : Int) ^ qq k ∧ (16 : Int) ≤ 2 ^ qq k ∧ (2 : Int) ^ qq k ≤ 65536 := match k with | 0 => by decide +kernel | 1 => by decide +kernel | 2 => by decide +kernel | _ + 3 => (by decide +kernel : (i32 1 <<< (i32 (qq 3 : Int) &&& 31)).toInt = (2 : Int) ^ qq 3 ∧ (16 : Int) ≤ 2 ^ qq 3 ∧ (2 : Int) ^ qq 3 ≤ 65536)
set_option maxRecDepth 100000 in
theorem c_pl {d : Nat} {M : Mem} (i : Nat) (hi : i < 6) : Ct 198 (d) 124 [(1, 0), (0, (i : Int))] M (fun r M' => r = (1, 149 + 2 * (i : Int)) ∧ M' = M) := by
  have hK : cd 124 = k124 := rfl
  show Wp 198 _ 124 0 [(1, 0), (0, (i : Int))] [] M _
  refine w_il hK rfl rfl ?_
  refine w_lt hK rfl (by omega) (by omega) (fun h1 => ?_) (fun h1 => ?_)
  · exfalso; omega
  · refine w_il hK rfl rfl ?_
    refine w_al hK rfl rfl ?_
    refine w_getr (n := 8) (v := 139) hK rfl rfl (by decide) (by decide) rfl rfl rfl rfl ?_
    refine w_len hK rfl rfl (by decide) (by decide) rfl ?_
    refine w_ge2 hK rfl (by omega) (by omega) (by omega) (by omega) (fun h6 => ?_) (fun h6 => ?_)
    · exfalso; omega
    · refine w_al hK rfl rfl ?_
      refine w_getr (n := 8) (v := 139) hK rfl rfl (by decide) (by decide) rfl rfl rfl rfl ?_
      refine w_il hK rfl rfl ?_
      refine w_aa hK rfl rfl (by decide) (by decide) (by omega) (by omega) ?_
      refine w_goto hK rfl ?_
      refine w_aret hK rfl rfl ?_
      exact ⟨congrArg (Prod.mk 1) (pl_ref hi), rfl⟩
set_option maxRecDepth 100000 in
theorem c_plI {d : Nat} {M : Mem} (i : Int) (i1 : -2147483648 ≤ i) (i2 : i ≤ 2147483647) : Ct 198 (d) 124 [(1, 0), (0, i)] M (fun r M' => r = (1, plr i) ∧ M' = M) := by
  have hK : cd 124 = k124 := rfl
  have pI_ := plr_I i
  show Wp 198 _ 124 0 [(1, 0), (0, i)] [] M _
  refine w_il hK rfl rfl ?_
  refine w_lt hK rfl (by omega) (by omega) (fun h1 => ?_) (fun h1 => ?_)
  · refine w_nul hK rfl ?_
    refine w_aret hK rfl rfl ?_
    exact ⟨congrArg (Prod.mk 1) (by omega), rfl⟩
  · refine w_il hK rfl rfl ?_
    refine w_al hK rfl rfl ?_
    refine w_getr (n := 8) (v := 139) hK rfl rfl (by decide) (by decide) rfl rfl rfl rfl ?_
    refine w_len hK rfl rfl (by decide) (by decide) rfl ?_
    refine w_ge2 hK rfl (by omega) (by omega) (by omega) (by omega) (fun h6 => ?_) (fun h6 => ?_)
    · refine w_nul hK rfl ?_
      refine w_aret hK rfl rfl ?_
      exact ⟨congrArg (Prod.mk 1) (by omega), rfl⟩
    · refine w_al hK rfl rfl ?_
      refine w_getr (n := 8) (v := 139) hK rfl rfl (by decide) (by decide) rfl rfl rfl rfl ?_
      refine w_il hK rfl rfl ?_
      refine w_aa hK rfl rfl (by decide) (by decide) (by omega) (by omega) ?_
      refine w_goto hK rfl ?_
      refine w_aret hK rfl rfl ?_
      obtain ⟨j, ej⟩ : ∃ j : Nat, (j : Int) = i := ⟨i.toNat, by omega⟩
      rw [← ej]
      exact ⟨congrArg (Prod.mk 1) ((pl_ref (by omega)).trans (by rw [ej]; omega)), rfl⟩
set_option maxRecDepth 100000 in
theorem c_start0 {d : Nat} {M : Mem} {rc : Nat} {rw : Int → Int} (hR : RWs M rc rw) : Ct 198 (d) 132 [(1, 0)] M (fun r M' => r = (4, 0) ∧ RWs M' 0 rw ∧ (∀ a : Int, a ≠ 0 → M' a = M a)) := by
  have hK : cd 132 = k132 := rfl
  show Wp 198 _ 132 0 [(1, 0)] [] M _
  refine w_al hK rfl rfl ?_
  refine w_ic hK rfl ?_
  refine w_puti (n := 11) (m := 11) hK rfl rfl (by decide) (by decide) rfl rfl rfl rfl ?_
  refine w_ret hK rfl rfl ?_
  exact ⟨rfl, ⟨up_eq, by decide, fun j hj => by omega⟩, (fun a n0_ => (up_row n0_))⟩
set_option maxRecDepth 100000 in
theorem c_tell {d : Nat} {M : Mem} {rc : Nat} {rw : Int → Int} (hR : RWs M rc rw) (h31 : rc < 32) (v : Int) : Ct 198 (d) 133 [(1, 0), (2, v)] M (fun r M' => r = (4, 0) ∧ RWs M' (rc + 1) (upr rw (rc : Int) v) ∧ (∀ a : Int, a ≠ 0 → a ≠ 144 → M' a = M a)) := by
  have hK : cd 133 = k133 := rfl
  show Wp 198 _ 133 0 [(1, 0), (2, v), (3, 0)] [] M _
  refine w_al hK rfl rfl ?_
  refine w_geti (n := 11) (m := 11) hK rfl rfl (by decide) (by decide) rfl rfl rfl rfl ?_
  rw [show M 0 11 = (rc : Int) from hR.1]
  refine w_lt hK rfl (by omega) (by omega) (fun h2 => ?_) (fun h2 => ?_)
  · exfalso; omega
  · refine w_al hK rfl rfl ?_
    refine w_geti (n := 11) (m := 11) hK rfl rfl (by decide) (by decide) rfl rfl rfl rfl ?_
    rw [show M 0 11 = (rc : Int) from hR.1]
    refine w_al hK rfl rfl ?_
    refine w_getr (n := 10) (v := 144) hK rfl rfl (by decide) (by decide) rfl rfl rfl rfl ?_
    refine w_len hK rfl rfl (by decide) (by decide) rfl ?_
    refine w_ge2 hK rfl (by omega) (by omega) (by omega) (by omega) (fun h8 => ?_) (fun h8 => ?_)
    · exfalso; omega
    · refine w_al hK rfl rfl ?_
      refine w_getr (n := 10) (v := 144) hK rfl rfl (by decide) (by decide) rfl rfl rfl rfl ?_
      refine w_al hK rfl rfl ?_
      refine w_geti (n := 11) (m := 11) hK rfl rfl (by decide) (by decide) rfl rfl rfl rfl ?_
      rw [show M 0 11 = (rc : Int) from hR.1]
      refine w_ll hK rfl rfl ?_
      refine w_lat hK rfl rfl (by decide) (by decide) (by omega) (by omega) ?_
      refine w_al hK rfl rfl ?_
      refine w_dup hK rfl rfl ?_
      refine w_geti (n := 11) (m := 11) hK rfl rfl (by decide) (by decide) rfl rfl rfl rfl ?_
      rw [show (up M 144 (rc : Int) v) 0 11 = (rc : Int) from ((congrFun (up_row (by decide)) 11).trans hR.1)]
      refine w_ic hK rfl ?_
      refine w_add hK rfl (by omega) (by omega) ?_
      refine w_puti (n := 11) (m := 11) hK rfl rfl (by decide) (by decide) rfl rfl rfl rfl ?_
      refine w_ret hK rfl rfl ?_
      refine ⟨rfl, ⟨(up_eq).trans (by omega), by omega, fun j hj => ?_⟩, (fun a n0_ n144_ => ((up_row n0_).trans (up_row n144_)))⟩
      rw [show (up (up M 144 (rc : Int) v) 0 11 ((rc : Int) + 1)) 144 = upr (M 144) (rc : Int) v from ((up_row (by decide)).trans (up_upr rfl))]
      by_cases e : j = rc
      · rw [e, upr_eq, upr_eq]
      · rw [upr_ne (by omega), upr_ne (by omega)]; exact hR.2.2 j (by omega)
set_option maxRecDepth 100000 in
theorem c_side {d : Nat} {M : Mem} (s : Int) (s1 : -2147483648 ≤ s) (s2 : s ≤ 2147483647) : Ct 198 (d) 147 [(0, s)] M (fun r M' => r = (0, if s = 0 ∨ s = 1 then 1 else 0) ∧ M' = M) := by
  have hK : cd 147 = k147 := rfl
  show Wp 198 _ 147 0 [(0, s)] [] M _
  refine w_il hK rfl rfl ?_
  refine w_eq hK rfl (by omega) (by omega) (fun h1 => ?_) (fun h1 => ?_)
  · refine w_ic hK rfl ?_
    refine w_goto hK rfl ?_
    refine w_zret hK rfl rfl (Or.inr rfl) ?_
    exact ⟨by rw [if_pos (by omega)], rfl⟩
  · refine w_il hK rfl rfl ?_
    refine w_ic hK rfl ?_
    refine w_ne2 hK rfl (by omega) (by omega) (by omega) (by omega) (fun h4 => ?_) (fun h4 => ?_)
    · refine w_ic hK rfl ?_
      refine w_zret hK rfl rfl (Or.inl rfl) ?_
      exact ⟨by rw [if_neg (by omega)], rfl⟩
    · refine w_ic hK rfl ?_
      refine w_goto hK rfl ?_
      refine w_zret hK rfl rfl (Or.inr rfl) ?_
      exact ⟨by rw [if_pos (by omega)], rfl⟩
set_option maxRecDepth 100000 in
theorem c_turns {d : Nat} {M : Mem} (s : Int) (s1 : -2147483648 ≤ s) (s2 : s ≤ 2147483647) : Ct 198 (d) 129 [(0, s)] M (fun r M' => r = (0, if -8 ≤ s ∧ s ≤ 8 then 1 else 0) ∧ M' = M) := by
  have hK : cd 129 = k129 := rfl
  show Wp 198 _ 129 0 [(0, s)] [] M _
  refine w_il hK rfl rfl ?_
  refine w_ic hK rfl ?_
  refine w_lt2 hK rfl (by omega) (by omega) (by omega) (by omega) (fun h2 => ?_) (fun h2 => ?_)
  · refine w_ic hK rfl ?_
    refine w_zret hK rfl rfl (Or.inl rfl) ?_
    exact ⟨by rw [if_neg (by omega)], rfl⟩
  · refine w_il hK rfl rfl ?_
    refine w_ic hK rfl ?_
    refine w_gt2 hK rfl (by omega) (by omega) (by omega) (by omega) (fun h5 => ?_) (fun h5 => ?_)
    · refine w_ic hK rfl ?_
      refine w_zret hK rfl rfl (Or.inl rfl) ?_
      exact ⟨by rw [if_neg (by omega)], rfl⟩
    · refine w_ic hK rfl ?_
      refine w_goto hK rfl ?_
      refine w_zret hK rfl rfl (Or.inr rfl) ?_
      exact ⟨by rw [if_pos (by omega)], rfl⟩
set_option maxRecDepth 100000 in
theorem c_refus {d : Nat} {M : Mem} {k : Nat} {P : Int → Option (Pl k)} (C : CS M k P) {a : Int} {f_a : Pl k} (ha : isC P a f_a) : Ct 198 (d) 173 [(1, a)] M (fun r M' => r = (0, if dg f_a < 0 then -2 else if 4 < dg f_a then -3 else 0) ∧ M' = M) := by
  have hK : cd 173 = k173 := rfl
  show Wp 198 _ 173 0 [(1, a)] [] M _
  refine w_al hK rfl rfl ?_
  refine w_pt hK rfl ha.1 ?_
  rw [show M a 1 = dg f_a from C.t ha]
  have tI_ := CS.dI C ha
  refine w_ge hK rfl (by omega) (by omega) (fun h2 => ?_) (fun h2 => ?_)
  · refine w_al hK rfl rfl ?_
    refine w_pt hK rfl ha.1 ?_
    rw [show M a 1 = dg f_a from C.t ha]
    have tI_ := CS.dI C ha
    refine w_ic hK rfl ?_
    refine w_le2 hK rfl (by omega) (by omega) (by omega) (by omega) (fun h8 => ?_) (fun h8 => ?_)
    · refine w_ic hK rfl ?_
      refine w_iret hK rfl rfl ?_
      exact ⟨by rw [if_neg (by omega), if_neg (by omega)], rfl⟩
    · refine w_ic hK rfl ?_
      refine w_goto hK rfl ?_
      refine w_iret hK rfl rfl ?_
      exact ⟨by rw [if_neg (by omega), if_pos (by omega)], rfl⟩
  · refine w_ic hK rfl ?_
    refine w_iret hK rfl rfl ?_
    exact ⟨by rw [if_pos (by omega)], rfl⟩
set_option maxRecDepth 100000 in
theorem c_keep {d : Nat} {M : Mem} {k : Nat} {P : Int → Option (Pl k)} (C : CS M k P) {f a : Int} {f_f : Pl k} (hf : isC P f f_f) (ha : isP a) (hfa : f ≠ a) : Ct 198 (d + 2) 144 [(1, f), (1, a)] M (fun r M' => (8 < dg f_f ∧ r = (0, -3) ∧ M' = M) ∨ (dg f_f ≤ 8 ∧ r = (0, dg f_f) ∧ CS M' k (pu P a f_f) ∧ NPS M M')) := by
  have hK : cd 144 = k144 := rfl
  show Wp 198 _ 144 0 [(1, f), (1, a)] [] M _
  refine w_al hK rfl rfl ?_
  refine w_pt hK rfl hf.1 ?_
  rw [show M f 1 = dg f_f from C.t hf]
  have tI_ := CS.dI C hf
  refine w_ic hK rfl ?_
  refine w_le2 hK rfl (by omega) (by omega) (by omega) (by omega) (fun h3 => ?_) (fun h3 => ?_)
  · refine w_al hK rfl rfl ?_
    refine w_al hK rfl rfl ?_
    refine w_call [(1, a), (1, f)] hK rfl rfl rfl rfl (Or.inr ⟨_, _, _, rfl, ha.nn, ha.lb, ha.o⟩) (c_copy C ha hf) ?_
    rintro _ V117 ⟨rfl, C117, S117⟩
    refine ⟨by decide, (?_ : Wp 198 _ 144 9 [(1, f), (1, a)] [] V117 _)⟩
    refine w_al hK rfl rfl ?_
    refine w_pt hK rfl ha ?_
    rw [show V117 a 1 = dg f_f from C117.t ⟨ha, pu_eq⟩]
    have tI_ := CS.dI C117 ⟨ha, pu_eq⟩
    refine w_iret hK rfl rfl ?_
    exact Or.inr ⟨by omega, rfl, C117, (fun a np_ => (S117 a np_))⟩
  · refine w_ic hK rfl ?_
    refine w_iret hK rfl rfl ?_
    exact Or.inl ⟨by omega, rfl, rfl⟩
set_option maxRecDepth 100000 in
theorem c_isset {d : Nat} {M : Mem} {k : Nat} (F : FS M k) (s : Int) (s1 : -2147483648 ≤ s) (s2 : s ≤ 2147483647) : Ct 198 (d) 168 [(1, 0), (0, s)] M (fun r M' => r = (0, if 0 ≤ s ∧ s < 2 ^ qq k then 1 else 0) ∧ M' = M) := by
  have hK : cd 168 = k168 := rfl
  have sh_ := shl_q k
  show Wp 198 _ 168 0 [(1, 0), (0, s)] [] M _
  refine w_il hK rfl rfl ?_
  refine w_lt hK rfl (by omega) (by omega) (fun h1 => ?_) (fun h1 => ?_)
  · refine w_ic hK rfl ?_
    refine w_zret hK rfl rfl (Or.inl rfl) ?_
    exact ⟨by rw [if_neg (by omega)], rfl⟩
  · refine w_il hK rfl rfl ?_
    refine w_ic hK rfl ?_
    refine w_al hK rfl rfl ?_
    refine w_getr (n := 0) (v := 1) hK rfl rfl (by decide) (by decide) rfl rfl rfl rfl ?_
    refine w_geti (n := 1) (m := 1) hK rfl rfl (by decide) (by decide) rfl rfl rfl rfl ?_
    rw [show M 1 1 = (qq k : Int) from F.q]
    refine w_bin (w := i32 1 <<< (i32 (qq k : Int) &&& 31)) hK rfl rfl rfl ?_
    rw [sh_.1]
    refine w_ge2 hK rfl (by omega) (by omega) (by omega) (by omega) (fun h8 => ?_) (fun h8 => ?_)
    · refine w_ic hK rfl ?_
      refine w_zret hK rfl rfl (Or.inl rfl) ?_
      exact ⟨by rw [if_neg (by omega)], rfl⟩
    · refine w_ic hK rfl ?_
      refine w_goto hK rfl ?_
      refine w_zret hK rfl rfl (Or.inr rfl) ?_
      exact ⟨by rw [if_pos (by omega)], rfl⟩
