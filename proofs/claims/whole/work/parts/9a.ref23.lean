/-! the reference: lays a field */ -/
def LQ (M : Mem) (k : Nat) : Prop := M 161 0 = (k : Int) ∧ M 161 1 = (qq k : Int) ∧ LPF M k
/-- the tables, up to row a and its first b -/
def TT (M : Mem) (k a b : Nat) : Prop := (∀ x y : El k, (x.val < a ∨ (x.val = a ∧ y.val < b)) → M 162 (16 * (x.val : Int) + (y.val : Int)) = ((ad x y).val : Int) ∧ M 163 (16 * (x.val : Int) + (y.val : Int)) = ((ml x y).val : Int)) ∧ (∀ x : El k, (x.val < a ∨ (x.val = a ∧ (ng x).val < b)) → M 164 (x.val : Int) = ((ng x).val : Int)) ∧ M 165 0 = 0 ∧ ∀ x : El k, x ≠ z0 → (x.val < a ∨ (x.val = a ∧ (iv x).val < b)) → M 165 (x.val : Int) = ((iv x).val : Int)
theorem TT.zero {M : Mem} {k : Nat} (h : M 165 0 = 0) : TT M k 0 0 := ⟨fun x y q => by omega, fun x q => by omega, h, fun x _ q => by omega⟩
theorem TT.row {M : Mem} {k a b : Nat} (h : TT M k a b) (hb : b = qq k) : TT M k (a + 1) 0 := by
  refine ⟨fun x y q => h.1 x y ?_, fun x q => h.2.1 x ?_, h.2.2.1, fun x n q => h.2.2.2 x n ?_⟩
  · have := y.isLt; omega
  · have := (ng x).isLt; omega
  · have := (iv x).isLt; omega
theorem TT.step {M N : Mem} {k a b : Nat} (h : TT M k a b) (ha : a < qq k) (hb : b < qq k) {v2 v3 : Int} (h2 : N 162 = upr (M 162) (16 * (a : Int) + (b : Int)) v2) (e2 : v2 = ((ad (⟨a, ha⟩ : El k) ⟨b, hb⟩).val : Int)) (h3 : N 163 = upr (M 163) (16 * (a : Int) + (b : Int)) v3) (e3 : v3 = ((ml (⟨a, ha⟩ : El k) ⟨b, hb⟩).val : Int)) (h4 : (ad (⟨a, ha⟩ : El k) ⟨b, hb⟩ = z0 ∧ N 164 = upr (M 164) (a : Int) (b : Int)) ∨ (ad (⟨a, ha⟩ : El k) ⟨b, hb⟩ ≠ z0 ∧ N 164 = M 164)) (h5 : (ml (⟨a, ha⟩ : El k) ⟨b, hb⟩ = e1 ∧ N 165 = upr (M 165) (a : Int) (b : Int)) ∨ (ml (⟨a, ha⟩ : El k) ⟨b, hb⟩ ≠ e1 ∧ N 165 = M 165)) : TT N k a (b + 1) := by
  have q16 := qq_le k
  refine ⟨fun x y q => ?_, fun x q => ?_, ?_, fun x n q => ?_⟩
  · have ly := y.isLt
    have lx := x.isLt
    by_cases c : x.val = a ∧ y.val = b
    · have ex : x = ⟨a, ha⟩ := Fin.ext c.1
      have ey : y = ⟨b, hb⟩ := Fin.ext c.2
      rw [h2, h3, ex, ey]
      exact ⟨(if_pos rfl).trans e2, (if_pos rfl).trans e3⟩
    · have g := h.1 x y (by omega)
      rw [h2, h3]
      exact ⟨(if_neg (by omega)).trans g.1, (if_neg (by omega)).trans g.2⟩
  · by_cases c : x.val = a
    · have ex : x = ⟨a, ha⟩ := Fin.ext c
      by_cases c2 : (ng x).val = b
      · rcases h4 with ⟨z, w⟩ | ⟨z, w⟩
        · rw [w, ← c, ← c2]; exact if_pos rfl
        · exact absurd (by
            have e : (⟨b, hb⟩ : El k) = ng ⟨a, ha⟩ := Fin.ext (by rw [← ex]; exact c2.symm)
            rw [e, ad_neg]) z
      · have g := h.2.1 x (by omega)
        rcases h4 with ⟨z, w⟩ | ⟨z, w⟩
        · exact absurd (by rw [ex, ← ng_uniq _ _ z]) c2
        · rw [w]; exact g
    · have g := h.2.1 x (by omega)
      rcases h4 with ⟨z, w⟩ | ⟨z, w⟩
      · rw [w]; exact (if_neg (by omega)).trans g
      · rw [w]; exact g
  · rcases h5 with ⟨z, w⟩ | ⟨z, w⟩
    · rw [w]
      refine (if_neg (fun q => ?_)).trans h.2.2.1
      have ez : (⟨a, ha⟩ : El k) = z0 := z0_iff.mpr (by show a = 0; omega)
      rw [ez, zero_ml] at z
      exact e1_ne z.symm
    · rw [w]; exact h.2.2.1
  · by_cases c : x.val = a
    · have ex : x = ⟨a, ha⟩ := Fin.ext c
      by_cases c2 : (iv x).val = b
      · rcases h5 with ⟨z, w⟩ | ⟨z, w⟩
        · rw [w, ← c, ← c2]; exact if_pos rfl
        · exact absurd (by
            have e : (⟨b, hb⟩ : El k) = iv ⟨a, ha⟩ := Fin.ext (by rw [← ex]; exact c2.symm)
            rw [e, ← ex, ml_iv x n]) z
      · have g := h.2.2.2 x n (by omega)
        rcases h5 with ⟨z, w⟩ | ⟨z, w⟩
        · exact absurd (by rw [ex, ← iv_uniq _ _ z]) c2
        · rw [w]; exact g
    · have g := h.2.2.2 x n (by omega)
      rcases h5 with ⟨z, w⟩ | ⟨z, w⟩
      · rw [w]; exact (if_neg (by omega)).trans g
      · rw [w]; exact g
theorem TT.keep {M N : Mem} {k a b : Nat} (h : TT M k a b) (h2 : N 162 = M 162) (h3 : N 163 = M 163) (h4 : N 164 = M 164) (h5 : N 165 = M 165) : TT N k a b := by
  unfold TT
  rw [h2, h3, h4, h5]
  exact h
theorem TT.RF {M : Mem} {k : Nat} (h : TT M k (qq k) 0) (hL : LQ M k) (hM : ∀ x : El k, M 166 (x.val : Int) = ((sg 1 x).val : Int)) : RF M k := by
  refine ⟨hL.2.2.1, ⟨hL.1, hL.2.1, hL.2.2.2.1, hL.2.2.2.2⟩, fun x y => (h.1 x y (Or.inl x.isLt)).1, fun x y => (h.1 x y (Or.inl x.isLt)).2, fun x => h.2.1 x (Or.inl x.isLt), fun x => ?_, hM⟩
  by_cases c : x = z0
  · rw [c, iv_zero0 _ rfl, z0_val]; exact h.2.2.1
  · exact h.2.2.2 x c (Or.inl x.isLt)
set_option maxRecDepth 100000 in
theorem r_mulT {d : Nat} {M : Mem} {k : Nat} (T3 : ∀ x y : El k, M 163 (16 * (x.val : Int) + (y.val : Int)) = ((ml x y).val : Int)) (x y : El k) : Ct 198 (d) 195 [(1, 161), (0, (x.val : Int)), (0, (y.val : Int))] M (fun r M' => r = (0, ((ml x y).val : Int)) ∧ M' = M) := by
  have hK : cd 195 = k195 := rfl
  have q1_ := qq_I k
  have lx_ := x.isLt
  have ly_ := y.isLt
  show Wp 198 _ 195 0 [(1, 161), (0, (x.val : Int)), (0, (y.val : Int))] [] M _
  refine w_al hK rfl rfl ?_
  refine w_getr (n := 5) (v := 163) hK rfl rfl (by decide) (by decide) rfl rfl rfl rfl ?_
  refine w_ic hK rfl ?_
  refine w_il hK rfl rfl ?_
  refine w_mul hK rfl (by omega) (by omega) ?_
  refine w_il hK rfl rfl ?_
  refine w_add hK rfl (by omega) (by omega) ?_
  refine w_ia hK rfl rfl (by decide) (by decide) (by omega) (by omega) ?_
  refine w_iret hK rfl rfl ?_
  exact ⟨congrArg (Prod.mk 0) (T3 x y), rfl⟩
set_option maxRecDepth 100000 in
theorem r_lays {d : Nat} {M : Mem} {k : Nat} (hk_ : k < 4) (h0 : M 165 0 = 0) : Ct 198 (d + 4) 189 [(1, 161), (0, (k : Int))] M (fun r_ M' => r_ = (4, 0) ∧ RF M' k ∧ (∀ a : Int, (a < 161 ∨ 166 < a) → M' a = M a) ∧ (∀ j : Int, j ≠ 0 → j ≠ 1 → j ≠ 2 → j ≠ 3 → M' 161 j = M 161 j)) := by
  have hK : cd 189 = k189 := rfl
  have q1_ := qq_I k
  have p1_ := pp_I k
  have m1_ := mm_I k
  have kp_ : (k = 2 ∧ pp k = 3) ∨ (k ≠ 2 ∧ pp k = 2) := by rcases (show k = 0 ∨ k = 1 ∨ k = 2 ∨ k = 3 by omega) with e | e | e | e <;> subst e <;> decide
  have km_ : (k = 0 ∧ mm k = 2) ∨ (k = 1 ∧ mm k = 3) ∨ (k = 2 ∧ mm k = 2) ∨ (k = 3 ∧ mm k = 4) := by rcases (show k = 0 ∨ k = 1 ∨ k = 2 ∨ k = 3 by omega) with e | e | e | e <;> subst e <;> decide
  show Wp 198 _ 189 0 [(1, 161), (0, (k : Int)), (3, 0), (3, 0)] [] M _
  have lp26 : ∀ (n_ : Nat) , 0 = n_ → Wp 198 (d + 4) 189 26 [(1, 161), (0, (k : Int)), (3, 0), (3, 0)] [] (up (up (up M 161 0 (k : Int)) 161 2 (pp k : Int)) 161 3 (mm k : Int)) (fun r_ M' => r_ = (4, 0) ∧ RF M' k ∧ (∀ a : Int, (a < 161 ∨ 166 < a) → M' a = M a) ∧ (∀ j : Int, j ≠ 0 → j ≠ 1 → j ≠ 2 → j ≠ 3 → M' 161 j = M 161 j)) := by
    intro n_
    induction n_ using Nat.strongRecOn with
    | _ n_ ih26 =>
    intro   hm26 
    refine w_al hK rfl rfl ?_
    refine w_al hK rfl rfl ?_
    refine w_al hK rfl rfl ?_
    refine w_geti (n := 3) (m := 3) hK rfl rfl (by decide) (by decide) rfl rfl rfl rfl ?_
    rw [show (up (up (up M 161 0 (k : Int)) 161 2 (pp k : Int)) 161 3 (mm k : Int)) 161 3 = (mm k : Int) from up_eq]
    refine w_call [(1, 161), (0, (mm k : Int))] hK rfl rfl rfl rfl (Or.inr ⟨_, _, _, rfl, by decide, (by decide), rfl⟩) (r_powL ⟨hk_, ((up_ne2 (by omega)).trans up_eq), up_eq⟩ (mm k) (by omega)) ?_
    rintro _ Mq ⟨rfl, e_⟩
    subst Mq
    refine ⟨by show (0 : Nat) ≠ 9; decide, (?_ : Wp 198 _ 189 31 [(1, 161), (0, (k : Int)), (3, 0), (3, 0)] [(0, (unt k (mm k) : Int)), (1, 161)] (up (up (up M 161 0 (k : Int)) 161 2 (pp k : Int)) 161 3 (mm k : Int)) _)⟩
    rw [unt_m]
    refine w_puti (n := 1) (m := 1) hK rfl rfl (by decide) (by decide) rfl rfl rfl rfl ?_
    refine w_ic hK rfl ?_
    refine w_is [(1, 161), (0, (k : Int)), (0, 0), (3, 0)] hK rfl rfl rfl ?_
    have lp34 : ∀ (n_ : Nat) (a : Nat) (w3 : AV) (N34 : Mem), 17 - a = n_ → (a ≤ qq k) → (LQ N34 k) → (TT N34 k a 0) → ((∀ a : Int, a ≠ 161 → a ≠ 162 → a ≠ 163 → a ≠ 164 → a ≠ 165 → N34 a = M a)) → ((∀ j : Int, j ≠ 0 → j ≠ 1 → j ≠ 2 → j ≠ 3 → N34 161 j = M 161 j)) → Wp 198 (d + 4) 189 34 [(1, 161), (0, (k : Int)), (0, (a : Int)), w3] [] N34 (fun r_ M' => r_ = (4, 0) ∧ RF M' k ∧ (∀ a : Int, (a < 161 ∨ 166 < a) → M' a = M a) ∧ (∀ j : Int, j ≠ 0 → j ≠ 1 → j ≠ 2 → j ≠ 3 → M' 161 j = M 161 j)) := by
      intro n_
      induction n_ using Nat.strongRecOn with
      | _ n_ ih34 =>
      intro a w3 N34 hm34 ha hL hT hS hH
      refine w_il hK rfl rfl ?_
      refine w_al hK rfl rfl ?_
      refine w_geti (n := 1) (m := 1) hK rfl rfl (by decide) (by decide) rfl rfl rfl rfl ?_
      rw [show N34 161 1 = (qq k : Int) from hL.2.1]
      refine w_ge2 hK rfl (by omega) (by omega) (by omega) (by omega) (fun h37 => ?_) (fun h37 => ?_)
      · refine w_ic hK rfl ?_
        refine w_is [(1, 161), (0, (k : Int)), (0, 0), w3] hK rfl rfl rfl ?_
        have lp103 : ∀ (n_ : Nat) (a : Nat) (w3 : AV) (N103 : Mem), 17 - a = n_ → (a ≤ qq k) → (LQ N103 k) → (TT N103 k (qq k) 0) → (∀ x_ : El k, x_.val < a → N103 166 (x_.val : Int) = ((sg 1 x_).val : Int)) → ((∀ a : Int, a ≠ 161 → a ≠ 162 → a ≠ 163 → a ≠ 164 → a ≠ 165 → a ≠ 166 → N103 a = M a)) → ((∀ j : Int, j ≠ 0 → j ≠ 1 → j ≠ 2 → j ≠ 3 → N103 161 j = M 161 j)) → Wp 198 (d + 4) 189 103 [(1, 161), (0, (k : Int)), (0, (a : Int)), w3] [] N103 (fun r_ M' => r_ = (4, 0) ∧ RF M' k ∧ (∀ a : Int, (a < 161 ∨ 166 < a) → M' a = M a) ∧ (∀ j : Int, j ≠ 0 → j ≠ 1 → j ≠ 2 → j ≠ 3 → M' 161 j = M 161 j)) := by
          intro n_
          induction n_ using Nat.strongRecOn with
          | _ n_ ih103 =>
          intro a w3 N103 hm103 ha hL3 hT3 hM3 hS3 hH3
          refine w_il hK rfl rfl ?_
          refine w_al hK rfl rfl ?_
          refine w_geti (n := 1) (m := 1) hK rfl rfl (by decide) (by decide) rfl rfl rfl rfl ?_
          rw [show N103 161 1 = (qq k : Int) from hL3.2.1]
          refine w_ge2 hK rfl (by omega) (by omega) (by omega) (by omega) (fun h106 => ?_) (fun h106 => ?_)
          · refine w_ret hK rfl rfl ?_
            have ea_ : a = qq k := by omega
            exact ⟨rfl, TT.RF hT3 hL3 (fun x_ => hM3 x_ (by have l_ := x_.isLt; omega)), (fun a h_ => (hS3 a (by omega) (by omega) (by omega) (by omega) (by omega) (by omega))), (fun j n0_ n1_ n2_ n3_ => (hH3 j n0_ n1_ n2_ n3_))⟩
          · refine w_al hK rfl rfl ?_
            refine w_getr (n := 8) (v := 166) hK rfl rfl (by decide) (by decide) rfl rfl rfl rfl ?_
            refine w_il hK rfl rfl ?_
            refine w_il hK rfl rfl ?_
            refine w_iat hK rfl rfl (by decide) (by decide) (by omega) (by omega) ?_
            refine w_ic hK rfl ?_
            refine w_is [(1, 161), (0, (k : Int)), (0, (a : Int)), (0, 1)] hK rfl rfl rfl ?_
            have lp114 : ∀ (n_ : Nat) (i : Nat) (N114 : Mem), 4 - i = n_ → (i + 1 ≤ pp k) → (LQ N114 k) → (TT N114 k (qq k) 0) → (∀ x_ : El k, x_.val < a → N114 166 (x_.val : Int) = ((sg 1 x_).val : Int)) → (N114 166 (a : Int) = ((pwE (⟨a, by omega⟩ : El k) i).val : Int)) → ((∀ a : Int, a ≠ 161 → a ≠ 162 → a ≠ 163 → a ≠ 164 → a ≠ 165 → a ≠ 166 → N114 a = M a)) → ((∀ j : Int, j ≠ 0 → j ≠ 1 → j ≠ 2 → j ≠ 3 → N114 161 j = M 161 j)) → Wp 198 (d + 4) 189 114 [(1, 161), (0, (k : Int)), (0, (a : Int)), (0, (((i + 1) : Nat) : Int))] [] N114 (fun r_ M' => r_ = (4, 0) ∧ RF M' k ∧ (∀ a : Int, (a < 161 ∨ 166 < a) → M' a = M a) ∧ (∀ j : Int, j ≠ 0 → j ≠ 1 → j ≠ 2 → j ≠ 3 → M' 161 j = M 161 j)) := by
              intro n_
              induction n_ using Nat.strongRecOn with
              | _ n_ ih114 =>
              intro i N114 hm114 hi hL4 hT4 hM4 hP4 hS4 hH4
              refine w_il hK rfl rfl ?_
              refine w_al hK rfl rfl ?_
              refine w_geti (n := 2) (m := 2) hK rfl rfl (by decide) (by decide) rfl rfl rfl rfl ?_
              rw [show N114 161 2 = (pp k : Int) from hL4.2.2.2.1]
              refine w_ge2 hK rfl (by omega) (by omega) (by omega) (by omega) (fun h117 => ?_) (fun h117 => ?_)
              · refine w_inc [(1, 161), (0, (k : Int)), (0, ((a : Int) + 1)), (0, (((i + 1) : Nat) : Int))] hK rfl rfl rfl (by omega) (by omega) rfl ?_
                refine w_goto hK rfl ?_
                exact ih103 _ (by omega) (a + 1) (0, (((i + 1) : Nat) : Int)) N114 rfl (by omega) ⟨hL4.1, hL4.2.1, hk_, hL4.2.2.2.1, hL4.2.2.2.2⟩ hT4 (fun x_ h_ => by
                  by_cases q_ : x_.val = a
                  · rw [q_, hP4, show i = pp k - 1 by omega, pwE_sg hk_, show x_ = (⟨a, by omega⟩ : El k) from Fin.ext q_]
                  · exact hM4 x_ (by omega)) (fun a n161_ n162_ n163_ n164_ n165_ n166_ => (hS4 a n161_ n162_ n163_ n164_ n165_ n166_)) (fun j n0_ n1_ n2_ n3_ => (hH4 j n0_ n1_ n2_ n3_))
              · refine w_al hK rfl rfl ?_
                refine w_getr (n := 8) (v := 166) hK rfl rfl (by decide) (by decide) rfl rfl rfl rfl ?_
                refine w_il hK rfl rfl ?_
                refine w_al hK rfl rfl ?_
                refine w_al hK rfl rfl ?_
                refine w_getr (n := 8) (v := 166) hK rfl rfl (by decide) (by decide) rfl rfl rfl rfl ?_
                refine w_il hK rfl rfl ?_
                refine w_ia hK rfl rfl (by decide) (by decide) (by omega) (by omega) ?_
                rw [show N114 166 (a : Int) = ((pwE (⟨a, by omega⟩ : El k) i).val : Int) from hP4]
                refine w_il hK rfl rfl ?_
                refine w_call [(1, 161), (0, ((pwE (⟨a, by omega⟩ : El k) i).val : Int)), (0, (a : Int))] hK rfl rfl rfl rfl (Or.inr ⟨_, _, _, rfl, by decide, (by decide), rfl⟩) (r_mulT (fun x_ y_ => (rfl).trans ((hT4.1 x_ y_ (Or.inl x_.isLt)).2)) (pwE (⟨a, by omega⟩ : El k) i) (⟨a, by omega⟩ : El k)) ?_
                rintro _ Mq ⟨rfl, e_⟩
                subst Mq
                have bv_ := el_I (ml (pwE (⟨a, by omega⟩ : El k) i) (⟨a, by omega⟩ : El k))
                refine ⟨by show (0 : Nat) ≠ 9; decide, (?_ : Wp 198 _ 189 128 [(1, 161), (0, (k : Int)), (0, (a : Int)), (0, (((i + 1) : Nat) : Int))] [(0, ((ml (pwE (⟨a, by omega⟩ : El k) i) (⟨a, by omega⟩ : El k)).val : Int)), (0, (a : Int)), (1, 166)] N114 _)⟩
                refine w_iat hK rfl rfl (by decide) (by decide) (by omega) (by omega) ?_
                refine w_inc [(1, 161), (0, (k : Int)), (0, (a : Int)), (0, ((((i + 1) : Nat) : Int) + 1))] hK rfl rfl rfl (by omega) (by omega) rfl ?_
                refine w_goto hK rfl ?_
                exact ih114 _ (by omega) (i + 1) (up N114 166 (a : Int) ((ml (pwE (⟨a, by omega⟩ : El k) i) (⟨a, by omega⟩ : El k)).val : Int)) rfl (by omega) ⟨((congrFun (up_row (by decide)) 0).trans hL4.1), ((congrFun (up_row (by decide)) 1).trans hL4.2.1), hk_, ((congrFun (up_row (by decide)) 2).trans hL4.2.2.2.1), ((congrFun (up_row (by decide)) 3).trans hL4.2.2.2.2)⟩ (TT.keep hT4 (up_row (by decide)) (up_row (by decide)) (up_row (by decide)) (up_row (by decide))) (fun x_ h_ => (up_ne2 (by omega)).trans (hM4 x_ h_)) up_eq (fun a n161_ n162_ n163_ n164_ n165_ n166_ => ((up_row n166_).trans (hS4 a n161_ n162_ n163_ n164_ n165_ n166_))) (fun j n0_ n1_ n2_ n3_ => ((congrFun (up_row (by decide)) j).trans (hH4 j n0_ n1_ n2_ n3_)))
            exact lp114 _ 0 (up N103 166 (a : Int) (a : Int)) rfl (by omega) ⟨((congrFun (up_row (by decide)) 0).trans hL3.1), ((congrFun (up_row (by decide)) 1).trans hL3.2.1), hk_, ((congrFun (up_row (by decide)) 2).trans hL3.2.2.2.1), ((congrFun (up_row (by decide)) 3).trans hL3.2.2.2.2)⟩ (TT.keep hT3 (up_row (by decide)) (up_row (by decide)) (up_row (by decide)) (up_row (by decide))) (fun x_ h_ => (up_ne2 (by omega)).trans (hM3 x_ h_)) up_eq (fun a n161_ n162_ n163_ n164_ n165_ n166_ => ((up_row n166_).trans (hS3 a n161_ n162_ n163_ n164_ n165_ n166_))) (fun j n0_ n1_ n2_ n3_ => ((congrFun (up_row (by decide)) j).trans (hH3 j n0_ n1_ n2_ n3_)))
        exact lp103 _ 0 w3 N34 rfl (by omega) ⟨hL.1, hL.2.1, hk_, hL.2.2.2.1, hL.2.2.2.2⟩ ((show a = qq k by omega) ▸ hT) (fun x_ h_ => by omega) (fun a n161_ n162_ n163_ n164_ n165_ n166_ => (hS a n161_ n162_ n163_ n164_ n165_)) (fun j n0_ n1_ n2_ n3_ => (hH j n0_ n1_ n2_ n3_))
      · refine w_ic hK rfl ?_
        refine w_is [(1, 161), (0, (k : Int)), (0, (a : Int)), (0, 0)] hK rfl rfl rfl ?_
        have lp40 : ∀ (n_ : Nat) (b : Nat) (N40 : Mem), 17 - b = n_ → (b ≤ qq k) → (LQ N40 k) → (TT N40 k a b) → ((∀ a : Int, a ≠ 161 → a ≠ 162 → a ≠ 163 → a ≠ 164 → a ≠ 165 → N40 a = M a)) → ((∀ j : Int, j ≠ 0 → j ≠ 1 → j ≠ 2 → j ≠ 3 → N40 161 j = M 161 j)) → Wp 198 (d + 4) 189 40 [(1, 161), (0, (k : Int)), (0, (a : Int)), (0, (b : Int))] [] N40 (fun r_ M' => r_ = (4, 0) ∧ RF M' k ∧ (∀ a : Int, (a < 161 ∨ 166 < a) → M' a = M a) ∧ (∀ j : Int, j ≠ 0 → j ≠ 1 → j ≠ 2 → j ≠ 3 → M' 161 j = M 161 j)) := by
          intro n_
          induction n_ using Nat.strongRecOn with
          | _ n_ ih40 =>
          intro b N40 hm40 hb hL2 hT2 hS2 hH2
          refine w_il hK rfl rfl ?_
          refine w_al hK rfl rfl ?_
          refine w_geti (n := 1) (m := 1) hK rfl rfl (by decide) (by decide) rfl rfl rfl rfl ?_
          rw [show N40 161 1 = (qq k : Int) from hL2.2.1]
          refine w_ge2 hK rfl (by omega) (by omega) (by omega) (by omega) (fun h43 => ?_) (fun h43 => ?_)
          · refine w_inc [(1, 161), (0, (k : Int)), (0, ((a : Int) + 1)), (0, (b : Int))] hK rfl rfl rfl (by omega) (by omega) rfl ?_
            refine w_goto hK rfl ?_
            exact ih34 _ (by omega) (a + 1) (0, (b : Int)) N40 rfl (by omega) ⟨hL2.1, hL2.2.1, hk_, hL2.2.2.2.1, hL2.2.2.2.2⟩ (TT.row hT2 (by omega)) (fun a n161_ n162_ n163_ n164_ n165_ => (hS2 a n161_ n162_ n163_ n164_ n165_)) (fun j n0_ n1_ n2_ n3_ => (hH2 j n0_ n1_ n2_ n3_))
          · refine w_al hK rfl rfl ?_
            refine w_getr (n := 4) (v := 162) hK rfl rfl (by decide) (by decide) rfl rfl rfl rfl ?_
            refine w_ic hK rfl ?_
            refine w_il hK rfl rfl ?_
            refine w_mul hK rfl (by omega) (by omega) ?_
            refine w_il hK rfl rfl ?_
            refine w_add hK rfl (by omega) (by omega) ?_
            have sa_ : sumN k a b (mm k) = (ad (⟨a, by omega⟩ : El k) (⟨b, by omega⟩ : El k)).val := sumN_ad hk_ (⟨a, by omega⟩ : El k) (⟨b, by omega⟩ : El k)
            have pm_ : prA k a b (mm k) = (ml (⟨a, by omega⟩ : El k) (⟨b, by omega⟩ : El k)).val := prA_ml hk_ (⟨a, by omega⟩ : El k) (⟨b, by omega⟩ : El k)
            have pl_ := prA_lt (k := k) (x := a) (y := b) (mm k)
            have sl_ := sumN_q k a b
            have mv_ : (ml (⟨a, by omega⟩ : El k) (⟨b, by omega⟩ : El k)).val = prA k a b (mm k) := pm_.symm
            refine w_al hK rfl rfl ?_
            refine w_il hK rfl rfl ?_
            refine w_il hK rfl rfl ?_
            refine w_call [(1, 161), (0, (a : Int)), (0, (b : Int))] hK rfl rfl rfl rfl (Or.inr ⟨_, _, _, rfl, by decide, (by decide), rfl⟩) (r_sum ⟨hk_, hL2.2.2.2.1, hL2.2.2.2.2⟩ a b (by omega) (by omega)) ?_
            rintro _ Mq ⟨rfl, e_⟩
            subst Mq
            refine ⟨by show (0 : Nat) ≠ 9; decide, (?_ : Wp 198 _ 189 55 [(1, 161), (0, (k : Int)), (0, (a : Int)), (0, (b : Int))] [(0, (sumN k a b (mm k) : Int)), (0, ((16 * (a : Int)) + (b : Int))), (1, 162)] N40 _)⟩
            refine w_iat hK rfl rfl (by decide) (by decide) (by omega) (by omega) ?_
            refine w_al hK rfl rfl ?_
            refine w_getr (n := 5) (v := 163) hK rfl rfl (by decide) (by decide) rfl rfl rfl rfl ?_
            refine w_ic hK rfl ?_
            refine w_il hK rfl rfl ?_
            refine w_mul hK rfl (by omega) (by omega) ?_
            refine w_il hK rfl rfl ?_
            refine w_add hK rfl (by omega) (by omega) ?_
            refine w_al hK rfl rfl ?_
            refine w_il hK rfl rfl ?_
            refine w_il hK rfl rfl ?_
            refine w_call [(1, 161), (0, (a : Int)), (0, (b : Int))] hK rfl rfl rfl rfl (Or.inr ⟨_, _, _, rfl, by decide, (by decide), rfl⟩) (r_prdN ⟨hk_, ((congrFun (up_row (by decide)) 2).trans hL2.2.2.2.1), ((congrFun (up_row (by decide)) 3).trans hL2.2.2.2.2)⟩ a b (by omega) (by omega)) ?_
            rintro _ Mq ⟨rfl, e_⟩
            subst Mq
            refine ⟨by show (0 : Nat) ≠ 9; decide, (?_ : Wp 198 _ 189 67 [(1, 161), (0, (k : Int)), (0, (a : Int)), (0, (b : Int))] [(0, (prA k a b (mm k) : Int)), (0, ((16 * (a : Int)) + (b : Int))), (1, 163)] (up N40 162 ((16 * (a : Int)) + (b : Int)) (sumN k a b (mm k) : Int)) _)⟩
            refine w_iat hK rfl rfl (by decide) (by decide) (by omega) (by omega) ?_
            refine w_al hK rfl rfl ?_
            refine w_getr (n := 4) (v := 162) hK rfl rfl (by decide) (by decide) rfl rfl rfl rfl ?_
            refine w_ic hK rfl ?_
            refine w_il hK rfl rfl ?_
            refine w_mul hK rfl (by omega) (by omega) ?_
            refine w_il hK rfl rfl ?_
            refine w_add hK rfl (by omega) (by omega) ?_
            refine w_ia hK rfl rfl (by decide) (by decide) (by omega) (by omega) ?_
            rw [show (up (up N40 162 ((16 * (a : Int)) + (b : Int)) (sumN k a b (mm k) : Int)) 163 ((16 * (a : Int)) + (b : Int)) (prA k a b (mm k) : Int)) 162 ((16 * (a : Int)) + (b : Int)) = (sumN k a b (mm k) : Int) from ((congrFun (up_row (by decide)) ((16 * (a : Int)) + (b : Int))).trans up_eq)]
            refine w_ne hK rfl (by omega) (by omega) (fun h76 => ?_) (fun h76 => ?_)
            · refine w_al hK rfl rfl ?_
              refine w_getr (n := 5) (v := 163) hK rfl rfl (by decide) (by decide) rfl rfl rfl rfl ?_
              refine w_ic hK rfl ?_
              refine w_il hK rfl rfl ?_
              refine w_mul hK rfl (by omega) (by omega) ?_
              refine w_il hK rfl rfl ?_
              refine w_add hK rfl (by omega) (by omega) ?_
              refine w_ia hK rfl rfl (by decide) (by decide) (by omega) (by omega) ?_
              rw [show (up (up N40 162 ((16 * (a : Int)) + (b : Int)) (sumN k a b (mm k) : Int)) 163 ((16 * (a : Int)) + (b : Int)) (prA k a b (mm k) : Int)) 163 ((16 * (a : Int)) + (b : Int)) = (prA k a b (mm k) : Int) from up_eq]
              refine w_ic hK rfl ?_
              refine w_ne2 hK rfl (by omega) (by omega) (by omega) (by omega) (fun h91 => ?_) (fun h91 => ?_)
              · refine w_inc [(1, 161), (0, (k : Int)), (0, (a : Int)), (0, ((b : Int) + 1))] hK rfl rfl rfl (by omega) (by omega) rfl ?_
                refine w_goto hK rfl ?_
                exact ih40 _ (by omega) (b + 1) (up (up N40 162 ((16 * (a : Int)) + (b : Int)) (sumN k a b (mm k) : Int)) 163 ((16 * (a : Int)) + (b : Int)) (prA k a b (mm k) : Int)) rfl (by omega) ⟨((congrFun (up_row (by decide)) 0).trans ((congrFun (up_row (by decide)) 0).trans hL2.1)), ((congrFun (up_row (by decide)) 1).trans ((congrFun (up_row (by decide)) 1).trans hL2.2.1)), hk_, ((congrFun (up_row (by decide)) 2).trans ((congrFun (up_row (by decide)) 2).trans hL2.2.2.2.1)), ((congrFun (up_row (by decide)) 3).trans ((congrFun (up_row (by decide)) 3).trans hL2.2.2.2.2))⟩ (TT.step hT2 (by omega) (by omega) ((up_row (by decide)).trans (up_upr rfl)) (congrArg Int.ofNat sa_) (up_upr (up_row (by decide))) (congrArg Int.ofNat pm_) (Or.inr ⟨fun q_ => by have z_ := z0_iff.mp q_; omega, ((up_row (by decide)).trans (up_row (by decide)))⟩) (Or.inr ⟨fun q_ => by rw [q_, e1_val] at mv_; omega, ((up_row (by decide)).trans (up_row (by decide)))⟩)) (fun a n161_ n162_ n163_ n164_ n165_ => ((up_row n163_).trans ((up_row n162_).trans (hS2 a n161_ n162_ n163_ n164_ n165_)))) (fun j n0_ n1_ n2_ n3_ => ((congrFun (up_row (by decide)) j).trans ((congrFun (up_row (by decide)) j).trans (hH2 j n0_ n1_ n2_ n3_))))
              · refine w_al hK rfl rfl ?_
                refine w_getr (n := 7) (v := 165) hK rfl rfl (by decide) (by decide) rfl rfl rfl rfl ?_
                refine w_il hK rfl rfl ?_
                refine w_il hK rfl rfl ?_
                refine w_iat hK rfl rfl (by decide) (by decide) (by omega) (by omega) ?_
                refine w_inc [(1, 161), (0, (k : Int)), (0, (a : Int)), (0, ((b : Int) + 1))] hK rfl rfl rfl (by omega) (by omega) rfl ?_
                refine w_goto hK rfl ?_
                exact ih40 _ (by omega) (b + 1) (up (up (up N40 162 ((16 * (a : Int)) + (b : Int)) (sumN k a b (mm k) : Int)) 163 ((16 * (a : Int)) + (b : Int)) (prA k a b (mm k) : Int)) 165 (a : Int) (b : Int)) rfl (by omega) ⟨((congrFun (up_row (by decide)) 0).trans ((congrFun (up_row (by decide)) 0).trans ((congrFun (up_row (by decide)) 0).trans hL2.1))), ((congrFun (up_row (by decide)) 1).trans ((congrFun (up_row (by decide)) 1).trans ((congrFun (up_row (by decide)) 1).trans hL2.2.1))), hk_, ((congrFun (up_row (by decide)) 2).trans ((congrFun (up_row (by decide)) 2).trans ((congrFun (up_row (by decide)) 2).trans hL2.2.2.2.1))), ((congrFun (up_row (by decide)) 3).trans ((congrFun (up_row (by decide)) 3).trans ((congrFun (up_row (by decide)) 3).trans hL2.2.2.2.2)))⟩ (TT.step hT2 (by omega) (by omega) ((up_row (by decide)).trans ((up_row (by decide)).trans (up_upr rfl))) (congrArg Int.ofNat sa_) ((up_row (by decide)).trans (up_upr (up_row (by decide)))) (congrArg Int.ofNat pm_) (Or.inr ⟨fun q_ => by have z_ := z0_iff.mp q_; omega, ((up_row (by decide)).trans ((up_row (by decide)).trans (up_row (by decide))))⟩) (Or.inl ⟨Fin.ext (by rw [e1_val]; omega), (up_upr ((up_row (by decide)).trans (up_row (by decide))))⟩)) (fun a n161_ n162_ n163_ n164_ n165_ => ((up_row n165_).trans ((up_row n163_).trans ((up_row n162_).trans (hS2 a n161_ n162_ n163_ n164_ n165_))))) (fun j n0_ n1_ n2_ n3_ => ((congrFun (up_row (by decide)) j).trans ((congrFun (up_row (by decide)) j).trans ((congrFun (up_row (by decide)) j).trans (hH2 j n0_ n1_ n2_ n3_)))))
            · refine w_al hK rfl rfl ?_
              refine w_getr (n := 6) (v := 164) hK rfl rfl (by decide) (by decide) rfl rfl rfl rfl ?_
              refine w_il hK rfl rfl ?_
              refine w_il hK rfl rfl ?_
              refine w_iat hK rfl rfl (by decide) (by decide) (by omega) (by omega) ?_
              refine w_al hK rfl rfl ?_
              refine w_getr (n := 5) (v := 163) hK rfl rfl (by decide) (by decide) rfl rfl rfl rfl ?_
              refine w_ic hK rfl ?_
              refine w_il hK rfl rfl ?_
              refine w_mul hK rfl (by omega) (by omega) ?_
              refine w_il hK rfl rfl ?_
              refine w_add hK rfl (by omega) (by omega) ?_
              refine w_ia hK rfl rfl (by decide) (by decide) (by omega) (by omega) ?_
              rw [show (up (up (up N40 162 ((16 * (a : Int)) + (b : Int)) (sumN k a b (mm k) : Int)) 163 ((16 * (a : Int)) + (b : Int)) (prA k a b (mm k) : Int)) 164 (a : Int) (b : Int)) 163 ((16 * (a : Int)) + (b : Int)) = (prA k a b (mm k) : Int) from ((congrFun (up_row (by decide)) ((16 * (a : Int)) + (b : Int))).trans up_eq)]
              refine w_ic hK rfl ?_
              refine w_ne2 hK rfl (by omega) (by omega) (by omega) (by omega) (fun h91 => ?_) (fun h91 => ?_)
              · refine w_inc [(1, 161), (0, (k : Int)), (0, (a : Int)), (0, ((b : Int) + 1))] hK rfl rfl rfl (by omega) (by omega) rfl ?_
                refine w_goto hK rfl ?_
                exact ih40 _ (by omega) (b + 1) (up (up (up N40 162 ((16 * (a : Int)) + (b : Int)) (sumN k a b (mm k) : Int)) 163 ((16 * (a : Int)) + (b : Int)) (prA k a b (mm k) : Int)) 164 (a : Int) (b : Int)) rfl (by omega) ⟨((congrFun (up_row (by decide)) 0).trans ((congrFun (up_row (by decide)) 0).trans ((congrFun (up_row (by decide)) 0).trans hL2.1))), ((congrFun (up_row (by decide)) 1).trans ((congrFun (up_row (by decide)) 1).trans ((congrFun (up_row (by decide)) 1).trans hL2.2.1))), hk_, ((congrFun (up_row (by decide)) 2).trans ((congrFun (up_row (by decide)) 2).trans ((congrFun (up_row (by decide)) 2).trans hL2.2.2.2.1))), ((congrFun (up_row (by decide)) 3).trans ((congrFun (up_row (by decide)) 3).trans ((congrFun (up_row (by decide)) 3).trans hL2.2.2.2.2)))⟩ (TT.step hT2 (by omega) (by omega) ((up_row (by decide)).trans ((up_row (by decide)).trans (up_upr rfl))) (congrArg Int.ofNat sa_) ((up_row (by decide)).trans (up_upr (up_row (by decide)))) (congrArg Int.ofNat pm_) (Or.inl ⟨z0_iff.mpr (by omega), (up_upr ((up_row (by decide)).trans (up_row (by decide))))⟩) (Or.inr ⟨fun q_ => by rw [q_, e1_val] at mv_; omega, ((up_row (by decide)).trans ((up_row (by decide)).trans (up_row (by decide))))⟩)) (fun a n161_ n162_ n163_ n164_ n165_ => ((up_row n164_).trans ((up_row n163_).trans ((up_row n162_).trans (hS2 a n161_ n162_ n163_ n164_ n165_))))) (fun j n0_ n1_ n2_ n3_ => ((congrFun (up_row (by decide)) j).trans ((congrFun (up_row (by decide)) j).trans ((congrFun (up_row (by decide)) j).trans (hH2 j n0_ n1_ n2_ n3_)))))
              · refine w_al hK rfl rfl ?_
                refine w_getr (n := 7) (v := 165) hK rfl rfl (by decide) (by decide) rfl rfl rfl rfl ?_
                refine w_il hK rfl rfl ?_
                refine w_il hK rfl rfl ?_
                refine w_iat hK rfl rfl (by decide) (by decide) (by omega) (by omega) ?_
                refine w_inc [(1, 161), (0, (k : Int)), (0, (a : Int)), (0, ((b : Int) + 1))] hK rfl rfl rfl (by omega) (by omega) rfl ?_
                refine w_goto hK rfl ?_
                exact ih40 _ (by omega) (b + 1) (up (up (up (up N40 162 ((16 * (a : Int)) + (b : Int)) (sumN k a b (mm k) : Int)) 163 ((16 * (a : Int)) + (b : Int)) (prA k a b (mm k) : Int)) 164 (a : Int) (b : Int)) 165 (a : Int) (b : Int)) rfl (by omega) ⟨((congrFun (up_row (by decide)) 0).trans ((congrFun (up_row (by decide)) 0).trans ((congrFun (up_row (by decide)) 0).trans ((congrFun (up_row (by decide)) 0).trans hL2.1)))), ((congrFun (up_row (by decide)) 1).trans ((congrFun (up_row (by decide)) 1).trans ((congrFun (up_row (by decide)) 1).trans ((congrFun (up_row (by decide)) 1).trans hL2.2.1)))), hk_, ((congrFun (up_row (by decide)) 2).trans ((congrFun (up_row (by decide)) 2).trans ((congrFun (up_row (by decide)) 2).trans ((congrFun (up_row (by decide)) 2).trans hL2.2.2.2.1)))), ((congrFun (up_row (by decide)) 3).trans ((congrFun (up_row (by decide)) 3).trans ((congrFun (up_row (by decide)) 3).trans ((congrFun (up_row (by decide)) 3).trans hL2.2.2.2.2))))⟩ (TT.step hT2 (by omega) (by omega) ((up_row (by decide)).trans ((up_row (by decide)).trans ((up_row (by decide)).trans (up_upr rfl)))) (congrArg Int.ofNat sa_) ((up_row (by decide)).trans ((up_row (by decide)).trans (up_upr (up_row (by decide))))) (congrArg Int.ofNat pm_) (Or.inl ⟨z0_iff.mpr (by omega), ((up_row (by decide)).trans (up_upr ((up_row (by decide)).trans (up_row (by decide)))))⟩) (Or.inl ⟨Fin.ext (by rw [e1_val]; omega), (up_upr ((up_row (by decide)).trans ((up_row (by decide)).trans (up_row (by decide)))))⟩)) (fun a n161_ n162_ n163_ n164_ n165_ => ((up_row n165_).trans ((up_row n164_).trans ((up_row n163_).trans ((up_row n162_).trans (hS2 a n161_ n162_ n163_ n164_ n165_)))))) (fun j n0_ n1_ n2_ n3_ => ((congrFun (up_row (by decide)) j).trans ((congrFun (up_row (by decide)) j).trans ((congrFun (up_row (by decide)) j).trans ((congrFun (up_row (by decide)) j).trans (hH2 j n0_ n1_ n2_ n3_))))))
        exact lp40 _ 0 N34 rfl (by omega) ⟨hL.1, hL.2.1, hk_, hL.2.2.2.1, hL.2.2.2.2⟩ hT (fun a n161_ n162_ n163_ n164_ n165_ => (hS a n161_ n162_ n163_ n164_ n165_)) (fun j n0_ n1_ n2_ n3_ => (hH j n0_ n1_ n2_ n3_))
    exact lp34 _ 0 (3, 0) (up (up (up (up M 161 0 (k : Int)) 161 2 (pp k : Int)) 161 3 (mm k : Int)) 161 1 (qq k : Int)) rfl (by omega) ⟨((up_ne2 (by omega)).trans ((up_ne2 (by omega)).trans ((up_ne2 (by omega)).trans up_eq))), up_eq, hk_, ((up_ne2 (by omega)).trans ((up_ne2 (by omega)).trans up_eq)), ((up_ne2 (by omega)).trans up_eq)⟩ (TT.zero ((((congrFun (up_row (by decide)) 0).trans ((congrFun (up_row (by decide)) 0).trans ((congrFun (up_row (by decide)) 0).trans (congrFun (up_row (by decide)) 0)))).trans h0))) (fun a n161_ n162_ n163_ n164_ n165_ => ((up_row n161_).trans ((up_row n161_).trans ((up_row n161_).trans (up_row n161_))))) (fun j n0_ n1_ n2_ n3_ => ((up_ne2 n1_).trans ((up_ne2 n3_).trans ((up_ne2 n2_).trans (up_ne2 n0_)))))
  refine w_al hK rfl rfl ?_
  refine w_il hK rfl rfl ?_
  refine w_puti (n := 0) (m := 0) hK rfl rfl (by decide) (by decide) rfl rfl rfl rfl ?_
  refine w_al hK rfl rfl ?_
  refine w_il hK rfl rfl ?_
  refine w_ic hK rfl ?_
  refine w_ne2 hK rfl (by omega) (by omega) (by omega) (by omega) (fun h6 => ?_) (fun h6 => ?_)
  · refine w_ic hK rfl ?_
    rw [show ((0, 2) : AV) = (0, (pp k : Int)) from congrArg (Prod.mk 0) (by omega)]
    refine w_puti (n := 2) (m := 2) hK rfl rfl (by decide) (by decide) rfl rfl rfl rfl ?_
    refine w_al hK rfl rfl ?_
    refine w_il hK rfl rfl ?_
    refine w_eq hK rfl (by omega) (by omega) (fun h13 => ?_) (fun h13 => ?_)
    · refine w_ic hK rfl ?_
      refine w_goto hK rfl ?_
      rw [show ((0, 2) : AV) = (0, (mm k : Int)) from congrArg (Prod.mk 0) (by omega)]
      refine w_puti (n := 3) (m := 3) hK rfl rfl (by decide) (by decide) rfl rfl rfl rfl ?_
      exact lp26 _ rfl
    · refine w_il hK rfl rfl ?_
      refine w_ic hK rfl ?_
      refine w_ne2 hK rfl (by omega) (by omega) (by omega) (by omega) (fun h16 => ?_) (fun h16 => ?_)
      · refine w_il hK rfl rfl ?_
        refine w_ic hK rfl ?_
        refine w_ne2 hK rfl (by omega) (by omega) (by omega) (by omega) (fun h21 => ?_) (fun h21 => ?_)
        · refine w_ic hK rfl ?_
          rw [show ((0, 4) : AV) = (0, (mm k : Int)) from congrArg (Prod.mk 0) (by omega)]
          refine w_puti (n := 3) (m := 3) hK rfl rfl (by decide) (by decide) rfl rfl rfl rfl ?_
          exact lp26 _ rfl
        · refine w_ic hK rfl ?_
          refine w_goto hK rfl ?_
          rw [show ((0, 3) : AV) = (0, (mm k : Int)) from congrArg (Prod.mk 0) (by omega)]
          refine w_puti (n := 3) (m := 3) hK rfl rfl (by decide) (by decide) rfl rfl rfl rfl ?_
          exact lp26 _ rfl
      · refine w_ic hK rfl ?_
        refine w_goto hK rfl ?_
        rw [show ((0, 2) : AV) = (0, (mm k : Int)) from congrArg (Prod.mk 0) (by omega)]
        refine w_puti (n := 3) (m := 3) hK rfl rfl (by decide) (by decide) rfl rfl rfl rfl ?_
        exact lp26 _ rfl
  · refine w_ic hK rfl ?_
    refine w_goto hK rfl ?_
    rw [show ((0, 3) : AV) = (0, (pp k : Int)) from congrArg (Prod.mk 0) (by omega)]
    refine w_puti (n := 2) (m := 2) hK rfl rfl (by decide) (by decide) rfl rfl rfl rfl ?_
    refine w_al hK rfl rfl ?_
    refine w_il hK rfl rfl ?_
    refine w_eq hK rfl (by omega) (by omega) (fun h13 => ?_) (fun h13 => ?_)
    · refine w_ic hK rfl ?_
      refine w_goto hK rfl ?_
      rw [show ((0, 2) : AV) = (0, (mm k : Int)) from congrArg (Prod.mk 0) (by omega)]
      refine w_puti (n := 3) (m := 3) hK rfl rfl (by decide) (by decide) rfl rfl rfl rfl ?_
      exact lp26 _ rfl
    · refine w_il hK rfl rfl ?_
      refine w_ic hK rfl ?_
      refine w_ne2 hK rfl (by omega) (by omega) (by omega) (by omega) (fun h16 => ?_) (fun h16 => ?_)
      · refine w_il hK rfl rfl ?_
        refine w_ic hK rfl ?_
        refine w_ne2 hK rfl (by omega) (by omega) (by omega) (by omega) (fun h21 => ?_) (fun h21 => ?_)
        · refine w_ic hK rfl ?_
          rw [show ((0, 4) : AV) = (0, (mm k : Int)) from congrArg (Prod.mk 0) (by omega)]
          refine w_puti (n := 3) (m := 3) hK rfl rfl (by decide) (by decide) rfl rfl rfl rfl ?_
          exact lp26 _ rfl
        · refine w_ic hK rfl ?_
          refine w_goto hK rfl ?_
          rw [show ((0, 3) : AV) = (0, (mm k : Int)) from congrArg (Prod.mk 0) (by omega)]
          refine w_puti (n := 3) (m := 3) hK rfl rfl (by decide) (by decide) rfl rfl rfl rfl ?_
          exact lp26 _ rfl
      · refine w_ic hK rfl ?_
        refine w_goto hK rfl ?_
        rw [show ((0, 2) : AV) = (0, (mm k : Int)) from congrArg (Prod.mk 0) (by omega)]
        refine w_puti (n := 3) (m := 3) hK rfl rfl (by decide) (by decide) rfl rfl rfl rfl ?_
        exact lp26 _ rfl
