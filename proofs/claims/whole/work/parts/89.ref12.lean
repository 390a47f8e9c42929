/-! the reference's text */ -/
/-- the text that is read: its length stands in field 30 */ -/
def TL (M : Mem) (n : Int) (tx : Int → Int) : Prop := (M 161 30 = n ∧ 0 ≤ n ∧ n ≤ 40) ∧ (∀ i : Int, 0 ≤ i → i < n → M 168 i = sby (tx i) ∧ 0 ≤ tx i ∧ tx i ≤ 255) ∧ ∀ i : Int, i < 0 ∨ n ≤ i → tx i = -1
theorem TL.keep {M N : Mem} {n : Int} {tx : Int → Int} (T : TL M n tx) (h : N 161 30 = M 161 30) (h2 : N 168 = M 168) : TL N n tx := ⟨⟨h.trans T.1.1, T.1.2⟩, fun i h3 h4 => by rw [h2]; exact T.2.1 i h3 h4, T.2.2⟩
theorem TL.I {M : Mem} {n : Int} {tx : Int → Int} (h : TL M n tx) (i : Int) : -1 ≤ tx i ∧ tx i ≤ 255 ∧ (tx i ≠ -1 → 0 ≤ i ∧ i < n) := by
  by_cases q : 0 ≤ i ∧ i < n
  · have := h.2.1 i q.1 q.2
    omega
  · have := h.2.2 i (by omega)
    omega
theorem TL.TX {M : Mem} {n : Int} {tx : Int → Int} (h : TL M n tx) : TXs (fun a j => if a = 140 then (if j = 3 then n else 0) else tx j) n tx := ⟨⟨rfl, h.1.2⟩, fun i h1 h2 => ⟨rfl, (h.2.1 i h1 h2).2⟩, h.2.2⟩
theorem TL.dig {M : Mem} {n : Int} {tx : Int → Int} (h : TL M n tx) {i : Int} (h1 : 48 ≤ tx i) (h2 : tx i ≤ 57) : M 168 i = tx i ∧ 0 ≤ i ∧ i < n := by
  have h3 := (h.I i).2.2 (by omega)
  have h4 := (h.2.1 i h3.1 h3.2).1
  refine ⟨?_, h3⟩
  rw [h4]
  unfold sby
  rw [if_pos (by omega)]
theorem sby_255 {c : Int} (h0 : 0 ≤ c) (h1 : c ≤ 255) : (i32 (sby c) &&& i32 255).toInt = c := by
  have h : ∀ c : Fin 256, (i32 (sby (c.val : Int)) &&& i32 255).toInt = (c.val : Int) := by decide +kernel
  have h2 := h ⟨c.toNat, by omega⟩
  have e : ((c.toNat : Nat) : Int) = c := by omega
  change (i32 (sby ((c.toNat : Nat) : Int)) &&& i32 255).toInt = ((c.toNat : Nat) : Int) at h2
  rw [e] at h2
  exact h2
def atn (tx : Int → Int) (q a : Int) : Int := if (rdn tx q a).1 < 0 then (rdn tx q a).2.2 else (rdn tx q a).2.1
theorem rdn_1 {tx : Int → Int} {q a : Int} (h : tx a < 48 ∨ 57 < tx a) : rdn tx q a = (-1, a, a) := by
  unfold rdn
  rw [if_pos (by have := isd_I (tx a); omega)]
theorem rdn_2 {tx : Int → Int} {q a : Int} (h : 48 ≤ tx a ∧ tx a ≤ 57) (h2 : tx (a + 1) < 48 ∨ 57 < tx (a + 1)) : rdn tx q a = (if q ≤ tx a - 48 then -1 else tx a - 48, a + 1, a) := by
  unfold rdn
  rw [if_neg (by have := isd_I (tx a); omega), if_pos (by have := isd_I (tx (a + 1)); omega)]
theorem rdn_3 {tx : Int → Int} {q a : Int} (h : 48 ≤ tx a ∧ tx a ≤ 57) (h2 : 48 ≤ tx (a + 1) ∧ tx (a + 1) ≤ 57) (h3 : tx (a + 1 + 1) < 48 ∨ 57 < tx (a + 1 + 1)) : rdn tx q a = (if q ≤ (tx a - 48) * 10 + tx (a + 1) - 48 then -1 else (tx a - 48) * 10 + tx (a + 1) - 48, a + 2, a + 1) := by
  rw [show a + 1 + 1 = a + 2 by omega] at h3
  unfold rdn
  rw [if_neg (by have := isd_I (tx a); omega), if_neg (by have := isd_I (tx (a + 1)); omega), if_pos (by have := isd_I (tx (a + 2)); omega)]
theorem rdn_4 {tx : Int → Int} {q a : Int} (h : 48 ≤ tx a ∧ tx a ≤ 57) (h2 : 48 ≤ tx (a + 1) ∧ tx (a + 1) ≤ 57) (h3 : 48 ≤ tx (a + 1 + 1) ∧ tx (a + 1 + 1) ≤ 57) : rdn tx q a = (-1, a + 2, a + 2) := by
  rw [show a + 1 + 1 = a + 2 by omega] at h3
  unfold rdn
  rw [if_neg (by have := isd_I (tx a); omega), if_neg (by have := isd_I (tx (a + 1)); omega), if_neg (by have := isd_I (tx (a + 2)); omega)]
set_option maxRecDepth 100000 in
theorem r_here {d : Nat} {M : Mem} {n : Int} {tx : Int → Int} (T : TL M n tx) {a : Int} (ha : M 161 29 = a) (a0 : 0 ≤ a) (a1 : a ≤ 41) : Ct 198 (d) 219 [(1, 161)] M (fun r M' => r = (0, tx a) ∧ M' = M) := by
  have hK : cd 219 = k219 := rfl
  have tn_ := T.1.2
  show Wp 198 _ 219 0 [(1, 161)] [] M _
  refine w_al hK rfl rfl ?_
  refine w_geti (n := 29) (m := 29) hK rfl rfl (by decide) (by decide) rfl rfl rfl rfl ?_
  rw [show M 161 29 = a from ha]
  refine w_al hK rfl rfl ?_
  refine w_geti (n := 30) (m := 30) hK rfl rfl (by decide) (by decide) rfl rfl rfl rfl ?_
  rw [show M 161 30 = n from T.1.1]
  refine w_ge2 hK rfl (by omega) (by omega) (by omega) (by omega) (fun h4 => ?_) (fun h4 => ?_)
  · refine w_ic hK rfl ?_
    refine w_iret hK rfl rfl ?_
    exact ⟨congrArg (Prod.mk 0) (T.2.2 a (Or.inr (by omega))).symm, rfl⟩
  · refine w_al hK rfl rfl ?_
    refine w_getr (n := 10) (v := 168) hK rfl rfl (by decide) (by decide) rfl rfl rfl rfl ?_
    refine w_al hK rfl rfl ?_
    refine w_geti (n := 29) (m := 29) hK rfl rfl (by decide) (by decide) rfl rfl rfl rfl ?_
    rw [show M 161 29 = a from ha]
    refine w_ba hK rfl rfl (by decide) (by decide) (by omega) (by omega) ?_
    refine w_ic hK rfl ?_
    refine w_bin (w := i32 (M 168 a) &&& i32 255) hK rfl rfl rfl ?_
    refine w_goto hK rfl ?_
    refine w_iret hK rfl rfl ?_
    have ti_ := T.2.1 a (by omega) (by omega)
    exact ⟨congrArg (Prod.mk 0) (by rw [ti_.1]; exact sby_255 ti_.2.1 ti_.2.2), rfl⟩
set_option maxRecDepth 100000 in
theorem r_rnum {d : Nat} {M : Mem} {k : Nat} {R : Int → Option (Pl k)} (C : RS M k R) {n : Int} {tx : Int → Int} (T : TL M n tx) {a : Int} (ha : M 161 29 = a) (a0 : 0 ≤ a) (a1 : a ≤ n) : Ct 198 (d + 2) 218 [(1, 161)] M (fun r M' => r = (0, (rdn tx (qq k : Int) a).1) ∧ M' 161 29 = atn tx (qq k : Int) a ∧ (∀ a : Int, a ≠ 161 → M' a = M a) ∧ (∀ j : Int, j ≠ 29 → M' 161 j = M 161 j)) := by
  have hK : cd 218 = k218 := rfl
  have q1_ := qq_I k
  have p1_ := pp_I k
  have m1_ := mm_I k
  have tn_ := T.1.2
  show Wp 198 _ 218 0 [(1, 161), (3, 0), (3, 0)] [] M _
  refine w_ic hK rfl ?_
  refine w_is [(1, 161), (0, 0), (3, 0)] hK rfl rfl rfl ?_
  refine w_ic hK rfl ?_
  refine w_is [(1, 161), (0, 0), (0, 0)] hK rfl rfl rfl ?_
  refine w_al hK rfl rfl ?_
  refine w_call [(1, 161)] hK rfl rfl rfl rfl (Or.inr ⟨_, _, _, rfl, by decide, (by decide), rfl⟩) (r_here T ha (by omega) (by omega)) ?_
  rintro _ Mq ⟨rfl, e_⟩
  subst Mq
  have tI_514 := T.I a
  refine ⟨(by show (0 : Nat) ≠ 9; decide), (?_ : Wp 198 _ 218 6 [(1, 161), (0, 0), (0, 0)] [(0, (tx a))] M _)⟩
  refine w_i2l hK rfl (by omega) (by omega) ?_
  refine w_lcw hK rfl ?_
  refine w_lcw hK rfl ?_
  refine w_call [(2, (tx a)), (2, 48), (2, 57)] hK rfl rfl rfl rfl (Or.inl rfl) (r_in (tx a) 48 57 (by omega) (by omega) (by omega) (by omega) (by omega) (by omega)) ?_
  rintro _ Mq ⟨rfl, e_⟩
  subst Mq
  have iI_515 := ite01 (48 ≤ (tx a) ∧ (tx a) ≤ 57)
  refine ⟨by show (0 : Nat) ≠ 9; decide, (?_ : Wp 198 _ 218 10 [(1, 161), (0, 0), (0, 0)] [(0, (if 48 ≤ (tx a) ∧ (tx a) ≤ 57 then 1 else 0))] M _)⟩
  refine w_eq hK rfl (by omega) (by omega) (fun h10 => ?_) (fun h10 => ?_)
  · refine w_il hK rfl rfl ?_
    refine w_le hK rfl (by omega) (by omega) (fun h37 => ?_) (fun h37 => ?_)
    · refine w_il hK rfl rfl ?_
      refine w_eq hK rfl (by omega) (by omega) (fun h49 => ?_) (fun h49 => ?_)
      · refine w_ic hK rfl ?_
        refine w_goto hK rfl ?_
        refine w_iret hK rfl rfl ?_
        have er_ : rdn tx (qq k : Int) a = _ := rdn_1 (by omega)
        unfold atn
        rw [er_]
        refine ⟨congrArg (Prod.mk 0) ?_, ?_, (fun a n161_ => rfl), (fun j n29_ => rfl)⟩
        · rfl
        · dsimp only
          exact (ha).trans (by rw [if_pos (show (-1 : Int) < 0 by decide)]; try omega)
      · exfalso; omega
    · exfalso; omega
  · refine w_il hK rfl rfl ?_
    refine w_ic hK rfl ?_
    refine w_ne2 hK rfl (by omega) (by omega) (by omega) (by omega) (fun h13 => ?_) (fun h13 => ?_)
    · refine w_ic hK rfl ?_
      refine w_il hK rfl rfl ?_
      refine w_mul hK rfl (by omega) (by omega) ?_
      refine w_al hK rfl rfl ?_
      refine w_getr (n := 10) (v := 168) hK rfl rfl (by decide) (by decide) rfl rfl rfl rfl ?_
      refine w_al hK rfl rfl ?_
      refine w_geti (n := 29) (m := 29) hK rfl rfl (by decide) (by decide) rfl rfl rfl rfl ?_
      rw [show M 161 29 = a from ha]
      have td_516 := T.dig (i := a) (by omega) (by omega)
      refine w_ba hK rfl rfl (by decide) (by decide) (by omega) (by omega) ?_
      rw [show M 168 a = tx a from td_516.1]
      refine w_add hK rfl (by omega) (by omega) ?_
      refine w_ic hK rfl ?_
      refine w_sub hK rfl (by omega) (by omega) ?_
      refine w_is [(1, 161), (0, (((10 * 0) + (tx a)) - 48)), (0, 0)] hK rfl rfl rfl ?_
      refine w_inc [(1, 161), (0, (((10 * 0) + (tx a)) - 48)), (0, 1)] hK rfl rfl rfl (by omega) (by omega) rfl ?_
      refine w_al hK rfl rfl ?_
      refine w_dup hK rfl rfl ?_
      refine w_geti (n := 29) (m := 29) hK rfl rfl (by decide) (by decide) rfl rfl rfl rfl ?_
      rw [show M 161 29 = a from ha]
      refine w_ic hK rfl ?_
      refine w_add hK rfl (by omega) (by omega) ?_
      refine w_puti (n := 29) (m := 29) hK rfl rfl (by decide) (by decide) rfl rfl rfl rfl ?_
      refine w_goto hK rfl ?_
      refine w_al hK rfl rfl ?_
      refine w_call [(1, 161)] hK rfl rfl rfl rfl (Or.inr ⟨_, _, _, rfl, by decide, (by decide), rfl⟩) (r_here (TL.keep T (up_ne2 (by decide)) (up_row (by decide))) up_eq (by omega) (by omega)) ?_
      rintro _ Mq ⟨rfl, e_⟩
      subst Mq
      have tI_517 := T.I (a + 1)
      refine ⟨(by show (0 : Nat) ≠ 9; decide), (?_ : Wp 198 _ 218 6 [(1, 161), (0, (((10 * 0) + (tx a)) - 48)), (0, 1)] [(0, (tx (a + 1)))] (up M 161 29 (a + 1)) _)⟩
      refine w_i2l hK rfl (by omega) (by omega) ?_
      refine w_lcw hK rfl ?_
      refine w_lcw hK rfl ?_
      refine w_call [(2, (tx (a + 1))), (2, 48), (2, 57)] hK rfl rfl rfl rfl (Or.inl rfl) (r_in (tx (a + 1)) 48 57 (by omega) (by omega) (by omega) (by omega) (by omega) (by omega)) ?_
      rintro _ Mq ⟨rfl, e_⟩
      subst Mq
      have iI_518 := ite01 (48 ≤ (tx (a + 1)) ∧ (tx (a + 1)) ≤ 57)
      refine ⟨by show (0 : Nat) ≠ 9; decide, (?_ : Wp 198 _ 218 10 [(1, 161), (0, (((10 * 0) + (tx a)) - 48)), (0, 1)] [(0, (if 48 ≤ (tx (a + 1)) ∧ (tx (a + 1)) ≤ 57 then 1 else 0))] (up M 161 29 (a + 1)) _)⟩
      refine w_eq hK rfl (by omega) (by omega) (fun h10 => ?_) (fun h10 => ?_)
      · refine w_il hK rfl rfl ?_
        refine w_le hK rfl (by omega) (by omega) (fun h37 => ?_) (fun h37 => ?_)
        · exfalso; omega
        · refine w_il hK rfl rfl ?_
          refine w_al hK rfl rfl ?_
          refine w_geti (n := 1) (m := 1) hK rfl rfl (by decide) (by decide) rfl rfl rfl rfl ?_
          rw [show (up M 161 29 (a + 1)) 161 1 = (qq k : Int) from (RS.cg C (fun j_ h1_ h2_ => up_ne2 (by omega)) (fun a_ h1_ h2_ => up_row h1_)).F.q]
          refine w_lt2 hK rfl (by omega) (by omega) (by omega) (by omega) (fun h41 => ?_) (fun h41 => ?_)
          · refine w_il hK rfl rfl ?_
            refine w_eq hK rfl (by omega) (by omega) (fun h49 => ?_) (fun h49 => ?_)
            · exfalso; omega
            · refine w_il hK rfl rfl ?_
              refine w_al hK rfl rfl ?_
              refine w_geti (n := 1) (m := 1) hK rfl rfl (by decide) (by decide) rfl rfl rfl rfl ?_
              rw [show (up M 161 29 (a + 1)) 161 1 = (qq k : Int) from (RS.cg C (fun j_ h1_ h2_ => up_ne2 (by omega)) (fun a_ h1_ h2_ => up_row h1_)).F.q]
              refine w_lt2 hK rfl (by omega) (by omega) (by omega) (by omega) (fun h53 => ?_) (fun h53 => ?_)
              · refine w_il hK rfl rfl ?_
                refine w_iret hK rfl rfl ?_
                have er_ : rdn tx (qq k : Int) a = _ := rdn_2 (by omega) (by omega)
                unfold atn
                rw [er_]
                refine ⟨congrArg (Prod.mk 0) ?_, ?_, (fun a n161_ => (up_row n161_)), (fun j n29_ => (up_ne2 n29_))⟩
                · dsimp only
                  rw [if_neg (show ¬ (qq k : Int) ≤ tx a - 48 by omega)]
                  try omega
                · dsimp only
                  exact (up_eq).trans (by rw [if_neg (show ¬ (qq k : Int) ≤ tx a - 48 by omega), if_neg (show ¬ tx a - 48 < 0 by omega)]; try omega)
              · refine w_ic hK rfl ?_
                refine w_goto hK rfl ?_
                refine w_iret hK rfl rfl ?_
                exfalso; omega
          · refine w_al hK rfl rfl ?_
            refine w_dup hK rfl rfl ?_
            refine w_geti (n := 29) (m := 29) hK rfl rfl (by decide) (by decide) rfl rfl rfl rfl ?_
            rw [show (up M 161 29 (a + 1)) 161 29 = (a + 1) from up_eq]
            refine w_ic hK rfl ?_
            refine w_sub hK rfl (by omega) (by omega) ?_
            refine w_puti (n := 29) (m := 29) hK rfl rfl (by decide) (by decide) rfl rfl rfl rfl ?_
            refine w_il hK rfl rfl ?_
            refine w_eq hK rfl (by omega) (by omega) (fun h49 => ?_) (fun h49 => ?_)
            · exfalso; omega
            · refine w_il hK rfl rfl ?_
              refine w_al hK rfl rfl ?_
              refine w_geti (n := 1) (m := 1) hK rfl rfl (by decide) (by decide) rfl rfl rfl rfl ?_
              rw [show (up (up M 161 29 (a + 1)) 161 29 ((a + 1) - 1)) 161 1 = (qq k : Int) from (RS.cg (RS.cg C (fun j_ h1_ h2_ => up_ne2 (by omega)) (fun a_ h1_ h2_ => up_row h1_)) (fun j_ h1_ h2_ => up_ne2 (by omega)) (fun a_ h1_ h2_ => up_row h1_)).F.q]
              refine w_lt2 hK rfl (by omega) (by omega) (by omega) (by omega) (fun h53 => ?_) (fun h53 => ?_)
              · refine w_il hK rfl rfl ?_
                refine w_iret hK rfl rfl ?_
                exfalso; omega
              · refine w_ic hK rfl ?_
                refine w_goto hK rfl ?_
                refine w_iret hK rfl rfl ?_
                have er_ : rdn tx (qq k : Int) a = _ := rdn_2 (by omega) (by omega)
                unfold atn
                rw [er_]
                refine ⟨congrArg (Prod.mk 0) ?_, ?_, (fun a n161_ => ((up_row n161_).trans (up_row n161_))), (fun j n29_ => ((up_ne2 n29_).trans (up_ne2 n29_)))⟩
                · dsimp only
                  rw [if_pos (show (qq k : Int) ≤ tx a - 48 by omega)]
                · dsimp only
                  exact (up_eq).trans (by rw [if_pos (show (qq k : Int) ≤ tx a - 48 by omega), if_pos (show (-1 : Int) < 0 by decide)]; try omega)
      · refine w_il hK rfl rfl ?_
        refine w_ic hK rfl ?_
        refine w_ne2 hK rfl (by omega) (by omega) (by omega) (by omega) (fun h13 => ?_) (fun h13 => ?_)
        · refine w_ic hK rfl ?_
          refine w_il hK rfl rfl ?_
          refine w_mul hK rfl (by omega) (by omega) ?_
          refine w_al hK rfl rfl ?_
          refine w_getr (n := 10) (v := 168) hK rfl rfl (by decide) (by decide) rfl rfl rfl rfl ?_
          refine w_al hK rfl rfl ?_
          refine w_geti (n := 29) (m := 29) hK rfl rfl (by decide) (by decide) rfl rfl rfl rfl ?_
          rw [show (up M 161 29 (a + 1)) 161 29 = (a + 1) from up_eq]
          have td_519 := T.dig (i := (a + 1)) (by omega) (by omega)
          refine w_ba hK rfl rfl (by decide) (by decide) (by omega) (by omega) ?_
          rw [show (up M 161 29 (a + 1)) 168 (a + 1) = tx (a + 1) from ((congrFun (up_row (by decide)) (a + 1)).trans td_519.1)]
          refine w_add hK rfl (by omega) (by omega) ?_
          refine w_ic hK rfl ?_
          refine w_sub hK rfl (by omega) (by omega) ?_
          refine w_is [(1, 161), (0, (((10 * (((10 * 0) + (tx a)) - 48)) + (tx (a + 1))) - 48)), (0, 1)] hK rfl rfl rfl ?_
          refine w_inc [(1, 161), (0, (((10 * (((10 * 0) + (tx a)) - 48)) + (tx (a + 1))) - 48)), (0, 2)] hK rfl rfl rfl (by omega) (by omega) rfl ?_
          refine w_al hK rfl rfl ?_
          refine w_dup hK rfl rfl ?_
          refine w_geti (n := 29) (m := 29) hK rfl rfl (by decide) (by decide) rfl rfl rfl rfl ?_
          rw [show (up M 161 29 (a + 1)) 161 29 = (a + 1) from up_eq]
          refine w_ic hK rfl ?_
          refine w_add hK rfl (by omega) (by omega) ?_
          refine w_puti (n := 29) (m := 29) hK rfl rfl (by decide) (by decide) rfl rfl rfl rfl ?_
          refine w_goto hK rfl ?_
          refine w_al hK rfl rfl ?_
          refine w_call [(1, 161)] hK rfl rfl rfl rfl (Or.inr ⟨_, _, _, rfl, by decide, (by decide), rfl⟩) (r_here (TL.keep T ((up_ne2 (by decide)).trans (up_ne2 (by decide))) ((up_row (by decide)).trans (up_row (by decide)))) up_eq (by omega) (by omega)) ?_
          rintro _ Mq ⟨rfl, e_⟩
          subst Mq
          have tI_520 := T.I ((a + 1) + 1)
          refine ⟨(by show (0 : Nat) ≠ 9; decide), (?_ : Wp 198 _ 218 6 [(1, 161), (0, (((10 * (((10 * 0) + (tx a)) - 48)) + (tx (a + 1))) - 48)), (0, 2)] [(0, (tx ((a + 1) + 1)))] (up (up M 161 29 (a + 1)) 161 29 ((a + 1) + 1)) _)⟩
          refine w_i2l hK rfl (by omega) (by omega) ?_
          refine w_lcw hK rfl ?_
          refine w_lcw hK rfl ?_
          refine w_call [(2, (tx ((a + 1) + 1))), (2, 48), (2, 57)] hK rfl rfl rfl rfl (Or.inl rfl) (r_in (tx ((a + 1) + 1)) 48 57 (by omega) (by omega) (by omega) (by omega) (by omega) (by omega)) ?_
          rintro _ Mq ⟨rfl, e_⟩
          subst Mq
          have iI_521 := ite01 (48 ≤ (tx ((a + 1) + 1)) ∧ (tx ((a + 1) + 1)) ≤ 57)
          refine ⟨by show (0 : Nat) ≠ 9; decide, (?_ : Wp 198 _ 218 10 [(1, 161), (0, (((10 * (((10 * 0) + (tx a)) - 48)) + (tx (a + 1))) - 48)), (0, 2)] [(0, (if 48 ≤ (tx ((a + 1) + 1)) ∧ (tx ((a + 1) + 1)) ≤ 57 then 1 else 0))] (up (up M 161 29 (a + 1)) 161 29 ((a + 1) + 1)) _)⟩
          refine w_eq hK rfl (by omega) (by omega) (fun h10 => ?_) (fun h10 => ?_)
          · refine w_il hK rfl rfl ?_
            refine w_le hK rfl (by omega) (by omega) (fun h37 => ?_) (fun h37 => ?_)
            · exfalso; omega
            · refine w_il hK rfl rfl ?_
              refine w_al hK rfl rfl ?_
              refine w_geti (n := 1) (m := 1) hK rfl rfl (by decide) (by decide) rfl rfl rfl rfl ?_
              rw [show (up (up M 161 29 (a + 1)) 161 29 ((a + 1) + 1)) 161 1 = (qq k : Int) from (RS.cg (RS.cg C (fun j_ h1_ h2_ => up_ne2 (by omega)) (fun a_ h1_ h2_ => up_row h1_)) (fun j_ h1_ h2_ => up_ne2 (by omega)) (fun a_ h1_ h2_ => up_row h1_)).F.q]
              refine w_lt2 hK rfl (by omega) (by omega) (by omega) (by omega) (fun h41 => ?_) (fun h41 => ?_)
              · refine w_il hK rfl rfl ?_
                refine w_eq hK rfl (by omega) (by omega) (fun h49 => ?_) (fun h49 => ?_)
                · exfalso; omega
                · refine w_il hK rfl rfl ?_
                  refine w_al hK rfl rfl ?_
                  refine w_geti (n := 1) (m := 1) hK rfl rfl (by decide) (by decide) rfl rfl rfl rfl ?_
                  rw [show (up (up M 161 29 (a + 1)) 161 29 ((a + 1) + 1)) 161 1 = (qq k : Int) from (RS.cg (RS.cg C (fun j_ h1_ h2_ => up_ne2 (by omega)) (fun a_ h1_ h2_ => up_row h1_)) (fun j_ h1_ h2_ => up_ne2 (by omega)) (fun a_ h1_ h2_ => up_row h1_)).F.q]
                  refine w_lt2 hK rfl (by omega) (by omega) (by omega) (by omega) (fun h53 => ?_) (fun h53 => ?_)
                  · refine w_il hK rfl rfl ?_
                    refine w_iret hK rfl rfl ?_
                    have er_ : rdn tx (qq k : Int) a = _ := rdn_3 (by omega) (by omega) (by omega)
                    unfold atn
                    rw [er_]
                    refine ⟨congrArg (Prod.mk 0) ?_, ?_, (fun a n161_ => ((up_row n161_).trans (up_row n161_))), (fun j n29_ => ((up_ne2 n29_).trans (up_ne2 n29_)))⟩
                    · dsimp only
                      rw [if_neg (show ¬ (qq k : Int) ≤ (tx a - 48) * 10 + tx (a + 1) - 48 by omega)]
                      try omega
                    · dsimp only
                      exact (up_eq).trans (by rw [if_neg (show ¬ (qq k : Int) ≤ (tx a - 48) * 10 + tx (a + 1) - 48 by omega), if_neg (show ¬ (tx a - 48) * 10 + tx (a + 1) - 48 < 0 by omega)]; try omega)
                  · refine w_ic hK rfl ?_
                    refine w_goto hK rfl ?_
                    refine w_iret hK rfl rfl ?_
                    exfalso; omega
              · refine w_al hK rfl rfl ?_
                refine w_dup hK rfl rfl ?_
                refine w_geti (n := 29) (m := 29) hK rfl rfl (by decide) (by decide) rfl rfl rfl rfl ?_
                rw [show (up (up M 161 29 (a + 1)) 161 29 ((a + 1) + 1)) 161 29 = ((a + 1) + 1) from up_eq]
                refine w_ic hK rfl ?_
                refine w_sub hK rfl (by omega) (by omega) ?_
                refine w_puti (n := 29) (m := 29) hK rfl rfl (by decide) (by decide) rfl rfl rfl rfl ?_
                refine w_il hK rfl rfl ?_
                refine w_eq hK rfl (by omega) (by omega) (fun h49 => ?_) (fun h49 => ?_)
                · exfalso; omega
                · refine w_il hK rfl rfl ?_
                  refine w_al hK rfl rfl ?_
                  refine w_geti (n := 1) (m := 1) hK rfl rfl (by decide) (by decide) rfl rfl rfl rfl ?_
                  rw [show (up (up (up M 161 29 (a + 1)) 161 29 ((a + 1) + 1)) 161 29 (((a + 1) + 1) - 1)) 161 1 = (qq k : Int) from (RS.cg (RS.cg (RS.cg C (fun j_ h1_ h2_ => up_ne2 (by omega)) (fun a_ h1_ h2_ => up_row h1_)) (fun j_ h1_ h2_ => up_ne2 (by omega)) (fun a_ h1_ h2_ => up_row h1_)) (fun j_ h1_ h2_ => up_ne2 (by omega)) (fun a_ h1_ h2_ => up_row h1_)).F.q]
                  refine w_lt2 hK rfl (by omega) (by omega) (by omega) (by omega) (fun h53 => ?_) (fun h53 => ?_)
                  · refine w_il hK rfl rfl ?_
                    refine w_iret hK rfl rfl ?_
                    exfalso; omega
                  · refine w_ic hK rfl ?_
                    refine w_goto hK rfl ?_
                    refine w_iret hK rfl rfl ?_
                    have er_ : rdn tx (qq k : Int) a = _ := rdn_3 (by omega) (by omega) (by omega)
                    unfold atn
                    rw [er_]
                    refine ⟨congrArg (Prod.mk 0) ?_, ?_, (fun a n161_ => ((up_row n161_).trans ((up_row n161_).trans (up_row n161_)))), (fun j n29_ => ((up_ne2 n29_).trans ((up_ne2 n29_).trans (up_ne2 n29_))))⟩
                    · dsimp only
                      rw [if_pos (show (qq k : Int) ≤ (tx a - 48) * 10 + tx (a + 1) - 48 by omega)]
                    · dsimp only
                      exact (up_eq).trans (by rw [if_pos (show (qq k : Int) ≤ (tx a - 48) * 10 + tx (a + 1) - 48 by omega), if_pos (show (-1 : Int) < 0 by decide)]; try omega)
          · refine w_il hK rfl rfl ?_
            refine w_ic hK rfl ?_
            refine w_ne2 hK rfl (by omega) (by omega) (by omega) (by omega) (fun h13 => ?_) (fun h13 => ?_)
            · exfalso; omega
            · refine w_ic hK rfl ?_
              refine w_iret hK rfl rfl ?_
              have er_ : rdn tx (qq k : Int) a = _ := rdn_4 (by omega) (by omega) (by omega)
              unfold atn
              rw [er_]
              refine ⟨congrArg (Prod.mk 0) ?_, ?_, (fun a n161_ => ((up_row n161_).trans (up_row n161_))), (fun j n29_ => ((up_ne2 n29_).trans (up_ne2 n29_)))⟩
              · rfl
              · dsimp only
                exact (up_eq).trans (by rw [if_pos (show (-1 : Int) < 0 by decide)]; try omega)
        · exfalso; omega
    · exfalso; omega
