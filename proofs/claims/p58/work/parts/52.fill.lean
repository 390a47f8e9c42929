/-! contracts: the filling of the field's tables -/
def Tab {k : Nat} (F : El k → El k → El k) (S : Int → Int) (A B : Nat) : Prop := ∀ a b : El k, (a.val < A ∨ (a.val = A ∧ b.val < B)) → S ((a.val : Int) * 16 + (b.val : Int)) = ((F a b).val : Int)
theorem Tab.step {k : Nat} {F : El k → El k → El k} {S : Int → Int} {A B : Nat} (h : Tab F S A B) (hA : A < qq k) (hB : B < qq k) {v : Int} (hv : v = ((F (el k A) (el k B)).val : Int)) : Tab F (upr S ((A : Int) * 16 + (B : Int)) v) A (B + 1) := fun a b hab => by
  have ba := el_lt a
  have bb := el_lt b
  have hq := qq_le k
  by_cases e : a.val = A ∧ b.val = B
  · rw [e.1, e.2, upr_eq, hv, show el k A = a from by rw [← e.1]; exact el_val a, show el k B = b from by rw [← e.2]; exact el_val b]
  · rw [upr_ne (by omega)]
    exact h a b (by omega)
theorem Tab.row {k : Nat} {F : El k → El k → El k} {S : Int → Int} {A : Nat} (h : Tab F S A (qq k)) : Tab F S (A + 1) 0 := fun a b hab => h a b (by have := b.isLt; omega)
theorem Tab.all {k : Nat} {F : El k → El k → El k} {S : Int → Int} (h : Tab F S (qq k) 0) (a b : El k) : S ((a.val : Int) * 16 + (b.val : Int)) = ((F a b).val : Int) := h a b (Or.inl a.isLt)
theorem sum_rec0 {k : Nat} : ∀ a b : El k, (ad a b).val = (a.val % pp k + b.val % pp k) % pp k + (ad (el k (a.val / pp k)) (el k (b.val / pp k))).val * pp k := match k with | 0 => by decide +kernel | 1 => by decide +kernel | 2 => by decide +kernel | _ + 3 => (by decide +kernel : ∀ a b : El 3, (ad a b).val = (a.val % pp 3 + b.val % pp 3) % pp 3 + (ad (el 3 (a.val / pp 3)) (el 3 (b.val / pp 3))).val * pp 3)
/-- a, so often, ahead of x -/
def addn {k : Nat} (a x : El k) (n : Nat) : El k := if n = 0 then x else if n = 1 then ad x a else ad (ad x a) a
theorem addn_s {k : Nat} {a x : El k} {n : Nat} (h : n < 2) : addn a x (n + 1) = ad (addn a x n) a := by
  rcases (show n = 0 ∨ n = 1 by omega) with e | e <;> (subst e; rfl)
/-- w times x -/
def tw {k : Nat} (x : El k) : El k := ad (el k (x.val % unt k (mm k - 1) * pp k)) (el k (x.val / unt k (mm k - 1) + x.val / unt k (mm k - 1) * pp k))
theorem tw_ok0 {k : Nat} : ∀ x : El k, x.val % unt k (mm k - 1) * pp k < qq k ∧ x.val / unt k (mm k - 1) + x.val / unt k (mm k - 1) * pp k < qq k := match k with | 0 => by decide +kernel | 1 => by decide +kernel | 2 => by decide +kernel | _ + 3 => (by decide +kernel : ∀ x : El 3, x.val % unt 3 (mm 3 - 1) * pp 3 < qq 3 ∧ x.val / unt 3 (mm 3 - 1) + x.val / unt 3 (mm 3 - 1) * pp 3 < qq 3)
theorem ml_rec0 {k : Nat} : ∀ a b : El k, ml a b = addn a (tw (ml a (el k (b.val / pp k)))) (b.val % pp k) := match k with | 0 => by decide +kernel | 1 => by decide +kernel | 2 => by decide +kernel | _ + 3 => (by decide +kernel : ∀ a b : El 3, ml a b = addn a (tw (ml a (el 3 (b.val / pp 3)))) (b.val % pp 3))
def pwr {k : Nat} (x : El k) : Nat → El k
  | 0 => e1
  | n + 1 => ml (pwr x n) x
theorem pwr_sg0 {k : Nat} : ∀ x : El k, pwr x (pp k) = sg 1 x := match k with | 0 => by decide +kernel | 1 => by decide +kernel | 2 => by decide +kernel | _ + 3 => (by decide +kernel : ∀ x : El 3, pwr x (pp 3) = sg 1 x)
theorem ng_z0 {k : Nat} {a b : El k} : ad a b = z0 ↔ b = ng a := ⟨ng_uniq a b, fun h => by rw [h, ad_neg]⟩
theorem iv_e1 {k : Nat} {a b : El k} : ml a b = e1 ↔ a ≠ z0 ∧ b = iv a := ⟨fun h => ⟨fun q => by rw [q, zero_ml] at h; exact e1_ne h.symm, iv_uniq a b h⟩, fun h => by rw [h.2, ml_iv a h.1]⟩
/-- the numbers of a field k -/
def FK (M : Mem) (k : Nat) : Prop := M 1 0 = (k : Int) ∧ M 1 1 = (qq k : Int) ∧ M 1 2 = (pp k : Int) ∧ M 1 3 = (mm k : Int)
theorem FK.congr {M N : Mem} {k : Nat} (h : FK M k) (e : N 1 = M 1) : FK N k := by unfold FK; rw [e]; exact h
set_option maxRecDepth 100000 in
theorem c_fput2 {d : Nat} {M : Mem} (i v : Int) (h0 : 0 ≤ i) (h1 : i < 256) : Ct 198 (d) 4 [(1, 2), (0, i), (0, v)] M (fun r M' => r = (4, 0) ∧ M' = up M 2 i v) := by
  have hK : cd 4 = k4 := rfl
  show Wp 198 _ 4 0 [(1, 2), (0, i), (0, v)] [] M _
  refine w_il hK rfl rfl ?_
  refine w_lt hK rfl (by omega) (by omega) (fun h1 => ?_) (fun h1 => ?_)
  · exfalso; omega
  · refine w_il hK rfl rfl ?_
    refine w_al hK rfl rfl ?_
    refine w_len hK rfl rfl (by decide) (by decide) rfl ?_
    refine w_ge2 hK rfl (by omega) (by omega) (by omega) (by omega) (fun h5 => ?_) (fun h5 => ?_)
    · exfalso; omega
    · refine w_al hK rfl rfl ?_
      refine w_il hK rfl rfl ?_
      refine w_il hK rfl rfl ?_
      refine w_iat hK rfl rfl (by decide) (by decide) (by omega) (by omega) ?_
      refine w_ret hK rfl rfl ?_
      exact ⟨rfl, rfl⟩
set_option maxRecDepth 100000 in
theorem c_fput3 {d : Nat} {M : Mem} (i v : Int) (h0 : 0 ≤ i) (h1 : i < 256) : Ct 198 (d) 4 [(1, 3), (0, i), (0, v)] M (fun r M' => r = (4, 0) ∧ M' = up M 3 i v) := by
  have hK : cd 4 = k4 := rfl
  show Wp 198 _ 4 0 [(1, 3), (0, i), (0, v)] [] M _
  refine w_il hK rfl rfl ?_
  refine w_lt hK rfl (by omega) (by omega) (fun h1 => ?_) (fun h1 => ?_)
  · exfalso; omega
  · refine w_il hK rfl rfl ?_
    refine w_al hK rfl rfl ?_
    refine w_len hK rfl rfl (by decide) (by decide) rfl ?_
    refine w_ge2 hK rfl (by omega) (by omega) (by omega) (by omega) (fun h5 => ?_) (fun h5 => ?_)
    · exfalso; omega
    · refine w_al hK rfl rfl ?_
      refine w_il hK rfl rfl ?_
      refine w_il hK rfl rfl ?_
      refine w_iat hK rfl rfl (by decide) (by decide) (by omega) (by omega) ?_
      refine w_ret hK rfl rfl ?_
      exact ⟨rfl, rfl⟩
set_option maxRecDepth 100000 in
theorem c_fput4 {d : Nat} {M : Mem} (i v : Int) (h0 : 0 ≤ i) (h1 : i < 64) : Ct 198 (d) 4 [(1, 4), (0, i), (0, v)] M (fun r M' => r = (4, 0) ∧ M' = up M 4 i v) := by
  have hK : cd 4 = k4 := rfl
  show Wp 198 _ 4 0 [(1, 4), (0, i), (0, v)] [] M _
  refine w_il hK rfl rfl ?_
  refine w_lt hK rfl (by omega) (by omega) (fun h1 => ?_) (fun h1 => ?_)
  · exfalso; omega
  · refine w_il hK rfl rfl ?_
    refine w_al hK rfl rfl ?_
    refine w_len hK rfl rfl (by decide) (by decide) rfl ?_
    refine w_ge2 hK rfl (by omega) (by omega) (by omega) (by omega) (fun h5 => ?_) (fun h5 => ?_)
    · exfalso; omega
    · refine w_al hK rfl rfl ?_
      refine w_il hK rfl rfl ?_
      refine w_il hK rfl rfl ?_
      refine w_iat hK rfl rfl (by decide) (by decide) (by omega) (by omega) ?_
      refine w_ret hK rfl rfl ?_
      exact ⟨rfl, rfl⟩
set_option maxRecDepth 100000 in
theorem c_fput5 {d : Nat} {M : Mem} (i v : Int) (h0 : 0 ≤ i) (h1 : i < 16) : Ct 198 (d) 4 [(1, 5), (0, i), (0, v)] M (fun r M' => r = (4, 0) ∧ M' = up M 5 i v) := by
  have hK : cd 4 = k4 := rfl
  show Wp 198 _ 4 0 [(1, 5), (0, i), (0, v)] [] M _
  refine w_il hK rfl rfl ?_
  refine w_lt hK rfl (by omega) (by omega) (fun h1 => ?_) (fun h1 => ?_)
  · exfalso; omega
  · refine w_il hK rfl rfl ?_
    refine w_al hK rfl rfl ?_
    refine w_len hK rfl rfl (by decide) (by decide) rfl ?_
    refine w_ge2 hK rfl (by omega) (by omega) (by omega) (by omega) (fun h5 => ?_) (fun h5 => ?_)
    · exfalso; omega
    · refine w_al hK rfl rfl ?_
      refine w_il hK rfl rfl ?_
      refine w_il hK rfl rfl ?_
      refine w_iat hK rfl rfl (by decide) (by decide) (by omega) (by omega) ?_
      refine w_ret hK rfl rfl ?_
      exact ⟨rfl, rfl⟩
set_option maxRecDepth 100000 in
theorem c_fput6 {d : Nat} {M : Mem} (i v : Int) (h0 : 0 ≤ i) (h1 : i < 16) : Ct 198 (d) 4 [(1, 6), (0, i), (0, v)] M (fun r M' => r = (4, 0) ∧ M' = up M 6 i v) := by
  have hK : cd 4 = k4 := rfl
  show Wp 198 _ 4 0 [(1, 6), (0, i), (0, v)] [] M _
  refine w_il hK rfl rfl ?_
  refine w_lt hK rfl (by omega) (by omega) (fun h1 => ?_) (fun h1 => ?_)
  · exfalso; omega
  · refine w_il hK rfl rfl ?_
    refine w_al hK rfl rfl ?_
    refine w_len hK rfl rfl (by decide) (by decide) rfl ?_
    refine w_ge2 hK rfl (by omega) (by omega) (by omega) (by omega) (fun h5 => ?_) (fun h5 => ?_)
    · exfalso; omega
    · refine w_al hK rfl rfl ?_
      refine w_il hK rfl rfl ?_
      refine w_il hK rfl rfl ?_
      refine w_iat hK rfl rfl (by decide) (by decide) (by omega) (by omega) ?_
      refine w_ret hK rfl rfl ?_
      exact ⟨rfl, rfl⟩
set_option maxRecDepth 100000 in
theorem c_sumR {d : Nat} {M : Mem} (x y : Int) (x0 : 0 ≤ x) (x1 : x < 16) (y0 : 0 ≤ y) (y1 : y < 16) : Ct 198 (d) 5 [(1, 1), (0, x), (0, y)] M (fun r M' => r = (0, M 2 (x * 16 + y)) ∧ M' = M) := by
  have hK : cd 5 = k5 := rfl
  show Wp 198 _ 5 0 [(1, 1), (0, x), (0, y), (3, 0)] [] M _
  refine w_il hK rfl rfl ?_
  refine w_ic hK rfl ?_
  refine w_mul hK rfl (by omega) (by omega) ?_
  refine w_il hK rfl rfl ?_
  refine w_add hK rfl (by omega) (by omega) ?_
  refine w_is [(1, 1), (0, x), (0, y), (0, ((x * 16) + y))] hK rfl rfl rfl ?_
  refine w_il hK rfl rfl ?_
  refine w_lt hK rfl (by omega) (by omega) (fun h7 => ?_) (fun h7 => ?_)
  · exfalso; omega
  · refine w_il hK rfl rfl ?_
    refine w_al hK rfl rfl ?_
    refine w_getr (n := 4) (v := 2) hK rfl rfl (by decide) (by decide) rfl rfl rfl rfl ?_
    refine w_len hK rfl rfl (by decide) (by decide) rfl ?_
    refine w_ge2 hK rfl (by omega) (by omega) (by omega) (by omega) (fun h12 => ?_) (fun h12 => ?_)
    · exfalso; omega
    · refine w_al hK rfl rfl ?_
      refine w_getr (n := 4) (v := 2) hK rfl rfl (by decide) (by decide) rfl rfl rfl rfl ?_
      refine w_il hK rfl rfl ?_
      refine w_ia hK rfl rfl (by decide) (by decide) (by omega) (by omega) ?_
      refine w_goto hK rfl ?_
      refine w_iret hK rfl rfl ?_
      exact ⟨rfl, rfl⟩
set_option maxRecDepth 100000 in
theorem c_prodR {d : Nat} {M : Mem} (x y : Int) (x0 : 0 ≤ x) (x1 : x < 16) (y0 : 0 ≤ y) (y1 : y < 16) : Ct 198 (d) 7 [(1, 1), (0, x), (0, y)] M (fun r M' => r = (0, M 3 (x * 16 + y)) ∧ M' = M) := by
  have hK : cd 7 = k7 := rfl
  show Wp 198 _ 7 0 [(1, 1), (0, x), (0, y), (3, 0)] [] M _
  refine w_il hK rfl rfl ?_
  refine w_ic hK rfl ?_
  refine w_mul hK rfl (by omega) (by omega) ?_
  refine w_il hK rfl rfl ?_
  refine w_add hK rfl (by omega) (by omega) ?_
  refine w_is [(1, 1), (0, x), (0, y), (0, ((x * 16) + y))] hK rfl rfl rfl ?_
  refine w_il hK rfl rfl ?_
  refine w_lt hK rfl (by omega) (by omega) (fun h7 => ?_) (fun h7 => ?_)
  · exfalso; omega
  · refine w_il hK rfl rfl ?_
    refine w_al hK rfl rfl ?_
    refine w_getr (n := 5) (v := 3) hK rfl rfl (by decide) (by decide) rfl rfl rfl rfl ?_
    refine w_len hK rfl rfl (by decide) (by decide) rfl ?_
    refine w_ge2 hK rfl (by omega) (by omega) (by omega) (by omega) (fun h12 => ?_) (fun h12 => ?_)
    · exfalso; omega
    · refine w_al hK rfl rfl ?_
      refine w_getr (n := 5) (v := 3) hK rfl rfl (by decide) (by decide) rfl rfl rfl rfl ?_
      refine w_il hK rfl rfl ?_
      refine w_ia hK rfl rfl (by decide) (by decide) (by omega) (by omega) ?_
      refine w_goto hK rfl ?_
      refine w_iret hK rfl rfl ?_
      exact ⟨rfl, rfl⟩
set_option maxRecDepth 100000 in
theorem c_isk {d : Nat} {M : Mem} (f : Int) (f1 : -2147483648 ≤ f) (f2 : f ≤ 2147483647) : Ct 198 (d) 12 [(0, f)] M (fun r M' => r = (0, if 0 ≤ f ∧ f < 4 then 1 else 0) ∧ M' = M) := by
  have hK : cd 12 = k12 := rfl
  show Wp 198 _ 12 0 [(0, f)] [] M _
  refine w_il hK rfl rfl ?_
  refine w_lt hK rfl (by omega) (by omega) (fun h1 => ?_) (fun h1 => ?_)
  · refine w_ic hK rfl ?_
    refine w_zret hK rfl rfl (Or.inl rfl) ?_
    exact ⟨by rw [if_neg (by omega)], rfl⟩
  · refine w_il hK rfl rfl ?_
    refine w_ic hK rfl ?_
    refine w_ge2 hK rfl (by omega) (by omega) (by omega) (by omega) (fun h4 => ?_) (fun h4 => ?_)
    · refine w_ic hK rfl ?_
      refine w_zret hK rfl rfl (Or.inl rfl) ?_
      exact ⟨by rw [if_neg (by omega)], rfl⟩
    · refine w_ic hK rfl ?_
      refine w_goto hK rfl ?_
      refine w_zret hK rfl rfl (Or.inr rfl) ?_
      exact ⟨by rw [if_pos (by omega)], rfl⟩
set_option maxRecDepth 100000 in
theorem c_unitR {d : Nat} {M : Mem} {k : Nat} (K : FK M k) (j : Nat) (hj : j ≤ mm k) : Ct 198 (d) 9 [(1, 1), (0, (j : Int))] M (fun r M' => r = (0, (unt k j : Int)) ∧ M' = M) := by
  have hK : cd 9 = k9 := rfl
  have q1_ := qq_I k
  have p1_ := pp_I k
  have m1_ := mm_I k
  show Wp 198 _ 9 0 [(1, 1), (0, (j : Int)), (3, 0), (3, 0)] [] M _
  refine w_ic hK rfl ?_
  refine w_is [(1, 1), (0, (j : Int)), (0, 1), (3, 0)] hK rfl rfl rfl ?_
  refine w_ic hK rfl ?_
  refine w_is [(1, 1), (0, (j : Int)), (0, 1), (0, 0)] hK rfl rfl rfl ?_
  have lp4 : ∀ (n_ : Nat) (i : Nat), 5 - i = n_ → (i ≤ j) → Wp 198 (d) 9 4 [(1, 1), (0, (j : Int)), (0, (unt k i : Int)), (0, (i : Int))] [] M (fun r M' => r = (0, (unt k j : Int)) ∧ M' = M) := by
    intro n_
    induction n_ using Nat.strongRecOn with
    | _ n_ ih4 =>
    intro i  hm4 hi
    have ul_ := unt_le (k := k) (s := i) (by omega)
    have um_ := unt_mul k i
    have un_ : i < j → (unt k (i + 1) : Int) ≤ 16 := fun h => by have := unt_le (k := k) (s := i + 1) (by omega); omega
    refine w_il hK rfl rfl ?_
    refine w_il hK rfl rfl ?_
    refine w_ge2 hK rfl (by omega) (by omega) (by omega) (by omega) (fun h6 => ?_) (fun h6 => ?_)
    · refine w_il hK rfl rfl ?_
      refine w_iret hK rfl rfl ?_
      have ei_ : i = j := by omega
      subst i
      exact ⟨rfl, rfl⟩
    · have un2_ := un_ (by omega)
      refine w_il hK rfl rfl ?_
      refine w_al hK rfl rfl ?_
      refine w_geti (n := 3) (m := 3) hK rfl rfl (by decide) (by decide) rfl rfl rfl rfl ?_
      rw [show M 1 3 = (mm k : Int) from K.2.2.2]
      refine w_ge2 hK rfl (by omega) (by omega) (by omega) (by omega) (fun h10 => ?_) (fun h10 => ?_)
      · exfalso; omega
      · refine w_il hK rfl rfl ?_
        refine w_al hK rfl rfl ?_
        refine w_geti (n := 2) (m := 2) hK rfl rfl (by decide) (by decide) rfl rfl rfl rfl ?_
        rw [show M 1 2 = (pp k : Int) from K.2.2.1]
        refine w_mul hK rfl (by omega) (by omega) ?_
        refine w_is [(1, 1), (0, (j : Int)), (0, ((unt k i : Int) * (pp k : Int))), (0, (i : Int))] hK rfl rfl rfl ?_
        refine w_inc [(1, 1), (0, (j : Int)), (0, ((unt k i : Int) * (pp k : Int))), (0, ((i : Int) + 1))] hK rfl rfl rfl (by omega) (by omega) rfl ?_
        refine w_goto hK rfl ?_
        have q4 := ih4 _ (by omega) (i + 1)  rfl (by omega)
        rw [← unt_mul k i] at q4
        exact q4
  have q4 := lp4 _ 0  rfl (by omega)
  rw [show (unt k 0 : Int) = 1 from by unfold unt; rw [Nat.pow_zero]; rfl] at q4
  exact q4
set_option maxRecDepth 100000 in
theorem c_fsum {d : Nat} {M : Mem} {k : Nat} (K : FK M k) : Ct 198 (d + 1) 3 [(1, 1)] M (fun r M' => r = (4, 0) ∧ (∀ a b : El k, M' 2 ((a.val : Int) * 16 + (b.val : Int)) = ((ad a b).val : Int)) ∧ (∀ a : Int, a ≠ 2 → M' a = M a)) := by
  have hK : cd 3 = k3 := rfl
  have q1_ := qq_I k
  have p1_ := pp_I k
  have m1_ := mm_I k
  show Wp 198 _ 3 0 [(1, 1), (3, 0), (3, 0), (3, 0), (3, 0)] [] M _
  refine w_al hK rfl rfl ?_
  refine w_getr (n := 4) (v := 2) hK rfl rfl (by decide) (by decide) rfl rfl rfl rfl ?_
  refine w_ic hK rfl ?_
  refine w_ic hK rfl ?_
  refine w_call [(1, 2), (0, 0), (0, 0)] hK rfl rfl rfl rfl (Or.inl rfl) (c_fput2 0 0 (by omega) (by omega)) ?_
  rintro _ V101 ⟨rfl, u101⟩
  refine ⟨by decide, (?_ : Wp 198 _ 3 5 [(1, 1), (3, 0), (3, 0), (3, 0), (3, 0)] [] V101 _)⟩
  refine w_ic hK rfl ?_
  refine w_is [(1, 1), (0, 0), (3, 0), (3, 0), (3, 0)] hK rfl rfl rfl ?_
  have lp7 : ∀ (n_ : Nat) (a : Nat) (S1 : Int → Int) (w2 w3 w4 : AV) (N7 : Mem), 17 - a = n_ → (a ≤ qq k) → (N7 2 = S1) → (Tab (k := k) ad S1 a 0) → ((∀ a : Int, a ≠ 2 → N7 a = M a)) → Wp 198 (d + 1) 3 7 [(1, 1), (0, (a : Int)), w2, w3, w4] [] N7 (fun r M' => r = (4, 0) ∧ (∀ a b : El k, M' 2 ((a.val : Int) * 16 + (b.val : Int)) = ((ad a b).val : Int)) ∧ (∀ a : Int, a ≠ 2 → M' a = M a)) := by
    intro n_
    induction n_ using Nat.strongRecOn with
    | _ n_ ih7 =>
    intro a S1 w2 w3 w4 N7 hm7 ha hS hT hF
    refine w_il hK rfl rfl ?_
    refine w_al hK rfl rfl ?_
    refine w_geti (n := 1) (m := 1) hK rfl rfl (by decide) (by decide) rfl rfl rfl rfl ?_
    rw [show N7 1 1 = (qq k : Int) from ((congrFun (hF 1 (by decide)) 1).trans K.2.1)]
    refine w_ge2 hK rfl (by omega) (by omega) (by omega) (by omega) (fun h10 => ?_) (fun h10 => ?_)
    · refine w_ret hK rfl rfl ?_
      have ea_ : a = qq k := by omega
      rw [ea_] at hT
      exact ⟨rfl, fun a b => by rw [hS]; exact hT.all a b, hF⟩
    · refine w_al hK rfl rfl ?_
      refine w_geti (n := 2) (m := 2) hK rfl rfl (by decide) (by decide) rfl rfl rfl rfl ?_
      rw [show N7 1 2 = (pp k : Int) from ((congrFun (hF 1 (by decide)) 2).trans K.2.2.1)]
      refine w_le hK rfl (by omega) (by omega) (fun h13 => ?_) (fun h13 => ?_)
      · exfalso; omega
      · refine w_ic hK rfl ?_
        refine w_is [(1, 1), (0, (a : Int)), (0, 0), w3, w4] hK rfl rfl rfl ?_
        have lp16 : ∀ (n_ : Nat) (b : Nat) (S1 : Int → Int) (w3 w4 : AV) (N16 : Mem), 17 - b = n_ → (b ≤ qq k) → (N16 2 = S1) → (Tab (k := k) ad S1 a b) → ((∀ a : Int, a ≠ 2 → N16 a = M a)) → Wp 198 (d + 1) 3 16 [(1, 1), (0, (a : Int)), (0, (b : Int)), w3, w4] [] N16 (fun r M' => r = (4, 0) ∧ (∀ a b : El k, M' 2 ((a.val : Int) * 16 + (b.val : Int)) = ((ad a b).val : Int)) ∧ (∀ a : Int, a ≠ 2 → M' a = M a)) := by
          intro n_
          induction n_ using Nat.strongRecOn with
          | _ n_ ih16 =>
          intro b S1 w3 w4 N16 hm16 hb hS hT hF
          have an_ : (0 : Int) ≤ (a : Int) % (pp k : Int) ∧ (a : Int) % (pp k : Int) < (pp k : Int) := ⟨Int.emod_nonneg _ (by omega), Int.emod_lt_of_pos _ (by omega)⟩
          have bn_ : (0 : Int) ≤ (b : Int) % (pp k : Int) ∧ (b : Int) % (pp k : Int) < (pp k : Int) := ⟨Int.emod_nonneg _ (by omega), Int.emod_lt_of_pos _ (by omega)⟩
          have cn_ : (0 : Int) ≤ (((a : Int) % (pp k : Int) + (b : Int) % (pp k : Int)) % (pp k : Int)) ∧ (((a : Int) % (pp k : Int) + (b : Int) % (pp k : Int)) % (pp k : Int)) < (pp k : Int) := ⟨Int.emod_nonneg _ (by omega), Int.emod_lt_of_pos _ (by omega)⟩
          have ap_ := Nat.div_le_self a (pp k)
          have bp_ := Nat.div_le_self b (pp k)
          refine w_il hK rfl rfl ?_
          refine w_al hK rfl rfl ?_
          refine w_geti (n := 1) (m := 1) hK rfl rfl (by decide) (by decide) rfl rfl rfl rfl ?_
          rw [show N16 1 1 = (qq k : Int) from ((congrFun (hF 1 (by decide)) 1).trans K.2.1)]
          refine w_ge2 hK rfl (by omega) (by omega) (by omega) (by omega) (fun h19 => ?_) (fun h19 => ?_)
          · refine w_inc [(1, 1), (0, ((a : Int) + 1)), (0, (b : Int)), w3, w4] hK rfl rfl rfl (by omega) (by omega) rfl ?_
            refine w_goto hK rfl ?_
            have eb_ : b = qq k := by omega
            rw [eb_] at hT
            exact ih7 _ (by omega) (a + 1) _ (0, (b : Int)) w3 w4 N16 rfl (by omega) hS hT.row hF
          · refine w_il hK rfl rfl ?_
            refine w_al hK rfl rfl ?_
            refine w_geti (n := 2) (m := 2) hK rfl rfl (by decide) (by decide) rfl rfl rfl rfl ?_
            rw [show N16 1 2 = (pp k : Int) from ((congrFun (hF 1 (by decide)) 2).trans K.2.2.1)]
            refine w_rem hK rfl (by omega) (by omega) (by omega) (by omega) ?_
            refine w_il hK rfl rfl ?_
            refine w_al hK rfl rfl ?_
            refine w_geti (n := 2) (m := 2) hK rfl rfl (by decide) (by decide) rfl rfl rfl rfl ?_
            rw [show N16 1 2 = (pp k : Int) from ((congrFun (hF 1 (by decide)) 2).trans K.2.2.1)]
            refine w_rem hK rfl (by omega) (by omega) (by omega) (by omega) ?_
            refine w_add hK rfl (by omega) (by omega) ?_
            refine w_al hK rfl rfl ?_
            refine w_geti (n := 2) (m := 2) hK rfl rfl (by decide) (by decide) rfl rfl rfl rfl ?_
            rw [show N16 1 2 = (pp k : Int) from ((congrFun (hF 1 (by decide)) 2).trans K.2.2.1)]
            refine w_rem hK rfl (by omega) (by omega) (by omega) (by omega) ?_
            refine w_is [(1, 1), (0, (a : Int)), (0, (b : Int)), (0, ((((a : Int) % (pp k : Int)) + ((b : Int) % (pp k : Int))) % (pp k : Int))), w4] hK rfl rfl rfl ?_
            refine w_il hK rfl rfl ?_
            refine w_il hK rfl rfl ?_
            refine w_add hK rfl (by omega) (by omega) ?_
            refine w_ne hK rfl (by omega) (by omega) (fun h36 => ?_) (fun h36 => ?_)
            · refine w_al hK rfl rfl ?_
              refine w_il hK rfl rfl ?_
              refine w_al hK rfl rfl ?_
              refine w_geti (n := 2) (m := 2) hK rfl rfl (by decide) (by decide) rfl rfl rfl rfl ?_
              rw [show N16 1 2 = (pp k : Int) from ((congrFun (hF 1 (by decide)) 2).trans K.2.2.1)]
              have adl_ : a ≠ 0 → a / pp k < a := fun h => Nat.div_lt_self (by omega) (pp_ge k)
              have bdl_ : b ≠ 0 → b / pp k < b := fun h => Nat.div_lt_self (by omega) (pp_ge k)
              have ani_ : (0 : Int) ≤ (a : Int) / (pp k : Int) ∧ (a : Int) / (pp k : Int) ≤ (a : Int) := ⟨Int.ediv_nonneg (by omega) (by omega), Int.ediv_le_self _ (by omega)⟩
              have bni_ : (0 : Int) ≤ (b : Int) / (pp k : Int) ∧ (b : Int) / (pp k : Int) ≤ (b : Int) := ⟨Int.ediv_nonneg (by omega) (by omega), Int.ediv_le_self _ (by omega)⟩
              refine w_div hK rfl (by omega) (by omega) (by omega) (by omega) ?_
              refine w_il hK rfl rfl ?_
              refine w_al hK rfl rfl ?_
              refine w_geti (n := 2) (m := 2) hK rfl rfl (by decide) (by decide) rfl rfl rfl rfl ?_
              rw [show N16 1 2 = (pp k : Int) from ((congrFun (hF 1 (by decide)) 2).trans K.2.2.1)]
              refine w_div hK rfl (by omega) (by omega) (by omega) (by omega) ?_
              refine w_call [(1, 1), (0, ((a : Int) / (pp k : Int))), (0, ((b : Int) / (pp k : Int)))] hK rfl rfl rfl rfl (Or.inr ⟨_, _, _, rfl, by decide, (by decide), rfl⟩) (c_sumR ((a : Int) / (pp k : Int)) ((b : Int) / (pp k : Int)) (by omega) (by omega) (by omega) (by omega)) ?_
              rintro _ Mq ⟨rfl, e_⟩
              subst Mq
              rw [divI, divI, show N16 2 (((a / pp k : Nat) : Int) * 16 + ((b / pp k : Nat) : Int)) = ((ad (el k (a / pp k)) (el k (b / pp k))).val : Int) from (congrFun hS _).trans (by
                have h_ := hT (el k (a / pp k)) (el k (b / pp k)) (by rw [show (el k (a / pp k)).val = a / pp k from Nat.mod_eq_of_lt (by omega), show (el k (b / pp k)).val = b / pp k from Nat.mod_eq_of_lt (by omega)]; omega)
                rw [elN (by omega), elN (by omega)] at h_
                exact h_)]
              have oI_ := el_I (ad (el k (a / pp k)) (el k (b / pp k)))
              refine ⟨(by show (0 : Nat) ≠ 9; decide), (?_ : Wp 198 _ 3 49 [(1, 1), (0, (a : Int)), (0, (b : Int)), (0, ((((a : Int) % (pp k : Int)) + ((b : Int) % (pp k : Int))) % (pp k : Int))), w4] [(0, ((ad (el k (a / pp k)) (el k (b / pp k))).val : Int))] N16 _)⟩
              have mb_ := mul_sm2 (el_I (ad (el k (a / pp k)) (el k (b / pp k)))).1 (el_I (ad (el k (a / pp k)) (el k (b / pp k)))).2 (show (0 : Int) ≤ (pp k : Int) by omega) (show (pp k : Int) ≤ 16 by omega)
              have val_ : (((a : Int) % (pp k : Int) + (b : Int) % (pp k : Int)) % (pp k : Int)) + ((ad (el k (a / pp k)) (el k (b / pp k))).val : Int) * (pp k : Int) = ((ad (el k a) (el k b)).val : Int) := by
                rw [sum_rec0 (el k a) (el k b), show (el k a).val = a from Nat.mod_eq_of_lt (by omega), show (el k b).val = b from Nat.mod_eq_of_lt (by omega)]
                simp
              refine w_is [(1, 1), (0, (a : Int)), (0, (b : Int)), (0, ((((a : Int) % (pp k : Int)) + ((b : Int) % (pp k : Int))) % (pp k : Int))), (0, ((ad (el k (a / pp k)) (el k (b / pp k))).val : Int))] hK rfl rfl rfl ?_
              refine w_al hK rfl rfl ?_
              refine w_getr (n := 4) (v := 2) hK rfl rfl (by decide) (by decide) rfl rfl rfl rfl ?_
              refine w_il hK rfl rfl ?_
              refine w_ic hK rfl ?_
              refine w_mul hK rfl (by omega) (by omega) ?_
              refine w_il hK rfl rfl ?_
              refine w_add hK rfl (by omega) (by omega) ?_
              refine w_il hK rfl rfl ?_
              refine w_il hK rfl rfl ?_
              refine w_al hK rfl rfl ?_
              refine w_geti (n := 2) (m := 2) hK rfl rfl (by decide) (by decide) rfl rfl rfl rfl ?_
              rw [show N16 1 2 = (pp k : Int) from ((congrFun (hF 1 (by decide)) 2).trans K.2.2.1)]
              refine w_mul hK rfl (by omega) (by omega) ?_
              refine w_add hK rfl (by omega) (by omega) ?_
              refine w_call [(1, 2), (0, (((a : Int) * 16) + (b : Int))), (0, (((((a : Int) % (pp k : Int)) + ((b : Int) % (pp k : Int))) % (pp k : Int)) + (((ad (el k (a / pp k)) (el k (b / pp k))).val : Int) * (pp k : Int))))] hK rfl rfl rfl rfl (Or.inl rfl) (c_fput2 (((a : Int) * 16) + (b : Int)) (((((a : Int) % (pp k : Int)) + ((b : Int) % (pp k : Int))) % (pp k : Int)) + (((ad (el k (a / pp k)) (el k (b / pp k))).val : Int) * (pp k : Int))) (by omega) (by omega)) ?_
              rintro _ V102 ⟨rfl, u102⟩
              refine ⟨by decide, (?_ : Wp 198 _ 3 64 [(1, 1), (0, (a : Int)), (0, (b : Int)), (0, ((((a : Int) % (pp k : Int)) + ((b : Int) % (pp k : Int))) % (pp k : Int))), (0, ((ad (el k (a / pp k)) (el k (b / pp k))).val : Int))] [] V102 _)⟩
              refine w_inc [(1, 1), (0, (a : Int)), (0, ((b : Int) + 1)), (0, ((((a : Int) % (pp k : Int)) + ((b : Int) % (pp k : Int))) % (pp k : Int))), (0, ((ad (el k (a / pp k)) (el k (b / pp k))).val : Int))] hK rfl rfl rfl (by omega) (by omega) rfl ?_
              refine w_goto hK rfl ?_
              exact ih16 _ (by omega) (b + 1) _ (0, ((((a : Int) % (pp k : Int)) + ((b : Int) % (pp k : Int))) % (pp k : Int))) (0, ((ad (el k (a / pp k)) (el k (b / pp k))).val : Int)) V102 rfl (by omega) ((congrFun u102 2).trans (up_upr hS)) (hT.step (by omega) (by omega) val_) (fun a n2_ => (((fun a (na_ : a ≠ 2) => (congrFun u102 a).trans (up_row na_)) a n2_).trans (hF a n2_)))
            · refine w_ic hK rfl ?_
              refine w_goto hK rfl ?_
              have a0_ : a = 0 := by omega
              have b0_ : b = 0 := by omega
              have val_ : (((a : Int) % (pp k : Int) + (b : Int) % (pp k : Int)) % (pp k : Int)) + 0 * (pp k : Int) = ((ad (el k a) (el k b)).val : Int) := by
                rw [a0_, b0_, show ad (el k 0) (el k 0) = (z0 : El k) from ad_zero _, z0_val]
                simp
              refine w_is [(1, 1), (0, (a : Int)), (0, (b : Int)), (0, ((((a : Int) % (pp k : Int)) + ((b : Int) % (pp k : Int))) % (pp k : Int))), (0, 0)] hK rfl rfl rfl ?_
              refine w_al hK rfl rfl ?_
              refine w_getr (n := 4) (v := 2) hK rfl rfl (by decide) (by decide) rfl rfl rfl rfl ?_
              refine w_il hK rfl rfl ?_
              refine w_ic hK rfl ?_
              refine w_mul hK rfl (by omega) (by omega) ?_
              refine w_il hK rfl rfl ?_
              refine w_add hK rfl (by omega) (by omega) ?_
              refine w_il hK rfl rfl ?_
              refine w_il hK rfl rfl ?_
              refine w_al hK rfl rfl ?_
              refine w_geti (n := 2) (m := 2) hK rfl rfl (by decide) (by decide) rfl rfl rfl rfl ?_
              rw [show N16 1 2 = (pp k : Int) from ((congrFun (hF 1 (by decide)) 2).trans K.2.2.1)]
              refine w_mul hK rfl (by omega) (by omega) ?_
              refine w_add hK rfl (by omega) (by omega) ?_
              refine w_call [(1, 2), (0, (((a : Int) * 16) + (b : Int))), (0, (((((a : Int) % (pp k : Int)) + ((b : Int) % (pp k : Int))) % (pp k : Int)) + (0 * (pp k : Int))))] hK rfl rfl rfl rfl (Or.inl rfl) (c_fput2 (((a : Int) * 16) + (b : Int)) (((((a : Int) % (pp k : Int)) + ((b : Int) % (pp k : Int))) % (pp k : Int)) + (0 * (pp k : Int))) (by omega) (by omega)) ?_
              rintro _ V103 ⟨rfl, u103⟩
              refine ⟨by decide, (?_ : Wp 198 _ 3 64 [(1, 1), (0, (a : Int)), (0, (b : Int)), (0, ((((a : Int) % (pp k : Int)) + ((b : Int) % (pp k : Int))) % (pp k : Int))), (0, 0)] [] V103 _)⟩
              refine w_inc [(1, 1), (0, (a : Int)), (0, ((b : Int) + 1)), (0, ((((a : Int) % (pp k : Int)) + ((b : Int) % (pp k : Int))) % (pp k : Int))), (0, 0)] hK rfl rfl rfl (by omega) (by omega) rfl ?_
              refine w_goto hK rfl ?_
              exact ih16 _ (by omega) (b + 1) _ (0, ((((a : Int) % (pp k : Int)) + ((b : Int) % (pp k : Int))) % (pp k : Int))) (0, 0) V103 rfl (by omega) ((congrFun u103 2).trans (up_upr hS)) (hT.step (by omega) (by omega) val_) (fun a n2_ => (((fun a (na_ : a ≠ 2) => (congrFun u103 a).trans (up_row na_)) a n2_).trans (hF a n2_)))
        exact lp16 _ 0 _ w3 w4 N7 rfl (by omega) hS hT hF
  exact lp7 _ 0 _ (3, 0) (3, 0) (3, 0) V101 rfl (by omega) ((congrFun u101 2).trans (up_upr rfl)) (fun a b h => by omega) (fun a n2_ => ((fun a (na_ : a ≠ 2) => (congrFun u101 a).trans (up_row na_)) a n2_))
set_option maxRecDepth 100000 in
theorem c_tw {d : Nat} {M : Mem} {k : Nat} (K : FK M k) (hsum : ∀ a b : El k, M 2 ((a.val : Int) * 16 + (b.val : Int)) = ((ad a b).val : Int)) (x : El k) : Ct 198 (d + 1) 8 [(1, 1), (0, (x.val : Int))] M (fun r M' => r = (0, ((tw x).val : Int)) ∧ M' = M) := by
  have hK : cd 8 = k8 := rfl
  have q1_ := qq_I k
  have p1_ := pp_I k
  have m1_ := mm_I k
  have K2 := K
  have xI_ := el_I x
  have ok_ := tw_ok0 x
  show Wp 198 _ 8 0 [(1, 1), (0, (x.val : Int)), (3, 0), (3, 0)] [] M _
  refine w_al hK rfl rfl ?_
  refine w_al hK rfl rfl ?_
  refine w_geti (n := 3) (m := 3) hK rfl rfl (by decide) (by decide) rfl rfl rfl rfl ?_
  rw [show M 1 3 = (mm k : Int) from K.2.2.2]
  refine w_ic hK rfl ?_
  refine w_sub hK rfl (by omega) (by omega) ?_
  refine w_call [(1, 1), (0, ((mm k : Int) - 1))] hK rfl rfl rfl rfl (Or.inr ⟨_, _, _, rfl, by decide, (by decide), rfl⟩) (Ct.cv (c_unitR K2 (mm k - 1) (by omega)) (by rw [show ((mm k - 1 : Nat) : Int) = (mm k : Int) - 1 by omega])) ?_
  rintro _ Mq ⟨rfl, e_⟩
  subst Mq
  have ul_ := unt_le (k := k) (s := mm k - 1) (by omega)
  refine ⟨(by show (0 : Nat) ≠ 9; decide), (?_ : Wp 198 _ 8 6 [(1, 1), (0, (x.val : Int)), (3, 0), (3, 0)] [(0, (unt k (mm k - 1) : Int))] M _)⟩
  refine w_is [(1, 1), (0, (x.val : Int)), (0, (unt k (mm k - 1) : Int)), (3, 0)] hK rfl rfl rfl ?_
  refine w_il hK rfl rfl ?_
  refine w_ic hK rfl ?_
  refine w_ge2 hK rfl (by omega) (by omega) (by omega) (by omega) (fun h9 => ?_) (fun h9 => ?_)
  · refine w_il hK rfl rfl ?_
    refine w_il hK rfl rfl ?_
    refine w_div hK rfl (by omega) (by omega) (by omega) (by omega) ?_
    rw [divI]
    have dn_ : (0 : Int) ≤ ((x.val / unt k (mm k - 1) : Nat) : Int) := Int.natCast_nonneg _
    have ds_ := Nat.div_le_self x.val (unt k (mm k - 1))
    refine w_is [(1, 1), (0, (x.val : Int)), (0, (unt k (mm k - 1) : Int)), (0, ((x.val / unt k (mm k - 1) : Nat) : Int))] hK rfl rfl rfl ?_
    refine w_al hK rfl rfl ?_
    refine w_il hK rfl rfl ?_
    refine w_il hK rfl rfl ?_
    refine w_rem hK rfl (by omega) (by omega) (by omega) (by omega) ?_
    rw [modI]
    have mI_ : ((x.val % unt k (mm k - 1) * pp k : Nat) : Int) = ((x.val % unt k (mm k - 1) : Nat) : Int) * (pp k : Int) := Int.natCast_mul ..
    refine w_al hK rfl rfl ?_
    refine w_geti (n := 2) (m := 2) hK rfl rfl (by decide) (by decide) rfl rfl rfl rfl ?_
    rw [show M 1 2 = (pp k : Int) from K.2.2.1]
    refine w_mul hK rfl (by omega) (by omega) ?_
    rw [← mI_]
    have tI_ : ((x.val / unt k (mm k - 1) * pp k : Nat) : Int) = ((x.val / unt k (mm k - 1) : Nat) : Int) * (pp k : Int) := Int.natCast_mul ..
    refine w_il hK rfl rfl ?_
    refine w_il hK rfl rfl ?_
    refine w_al hK rfl rfl ?_
    refine w_geti (n := 2) (m := 2) hK rfl rfl (by decide) (by decide) rfl rfl rfl rfl ?_
    rw [show M 1 2 = (pp k : Int) from K.2.2.1]
    refine w_mul hK rfl (by omega) (by omega) ?_
    refine w_add hK rfl (by omega) (by omega) ?_
    rw [show ((x.val / unt k (mm k - 1) : Nat) : Int) + ((x.val / unt k (mm k - 1) : Nat) : Int) * (pp k : Int) = ((x.val / unt k (mm k - 1) + x.val / unt k (mm k - 1) * pp k : Nat) : Int) by omega]
    have xl_ := el_I (el k (x.val % unt k (mm k - 1) * pp k : Nat))
    have yl_ := el_I (el k (x.val / unt k (mm k - 1) + x.val / unt k (mm k - 1) * pp k : Nat))
    refine w_call [(1, 1), (0, ((x.val % unt k (mm k - 1) * pp k : Nat) : Int)), (0, ((x.val / unt k (mm k - 1) + x.val / unt k (mm k - 1) * pp k : Nat) : Int))] hK rfl rfl rfl rfl (Or.inr ⟨_, _, _, rfl, by decide, (by decide), rfl⟩) (Ct.cv (c_sumR ((el k (x.val % unt k (mm k - 1) * pp k : Nat)).val : Int) ((el k (x.val / unt k (mm k - 1) + x.val / unt k (mm k - 1) * pp k : Nat)).val : Int) (by omega) (by omega) (by omega) (by omega)) (by simp only [(elN (k := k) (n := (x.val % unt k (mm k - 1) * pp k : Nat)) (by omega)), (elN (k := k) (n := (x.val / unt k (mm k - 1) + x.val / unt k (mm k - 1) * pp k : Nat)) (by omega))]; try rfl)) ?_
    rintro _ Mq ⟨rfl, e_⟩
    subst Mq
    rw [show M 2 (((el k (x.val % unt k (mm k - 1) * pp k : Nat)).val : Int) * 16 + ((el k (x.val / unt k (mm k - 1) + x.val / unt k (mm k - 1) * pp k : Nat)).val : Int)) = ((ad (el k (x.val % unt k (mm k - 1) * pp k : Nat)) (el k (x.val / unt k (mm k - 1) + x.val / unt k (mm k - 1) * pp k : Nat))).val : Int) from (congrFun rfl _).trans (hsum (el k (x.val % unt k (mm k - 1) * pp k : Nat)) (el k (x.val / unt k (mm k - 1) + x.val / unt k (mm k - 1) * pp k : Nat)))]
    have sI_ := el_I (ad (el k (x.val % unt k (mm k - 1) * pp k : Nat)) (el k (x.val / unt k (mm k - 1) + x.val / unt k (mm k - 1) * pp k : Nat)))
    refine ⟨(by show (0 : Nat) ≠ 9; decide), (?_ : Wp 198 _ 8 30 [(1, 1), (0, (x.val : Int)), (0, (unt k (mm k - 1) : Int)), (0, ((x.val / unt k (mm k - 1) : Nat) : Int))] [(0, ((ad (el k (x.val % unt k (mm k - 1) * pp k : Nat)) (el k (x.val / unt k (mm k - 1) + x.val / unt k (mm k - 1) * pp k : Nat))).val : Int))] M _)⟩
    refine w_iret hK rfl rfl ?_
    exact ⟨rfl, rfl⟩
  · exfalso; omega
set_option maxRecDepth 100000 in
theorem c_fprod {d : Nat} {M : Mem} {k : Nat} (K : FK M k) (hsum : ∀ a b : El k, M 2 ((a.val : Int) * 16 + (b.val : Int)) = ((ad a b).val : Int)) : Ct 198 (d + 2) 6 [(1, 1)] M (fun r M' => r = (4, 0) ∧ (∀ a b : El k, M' 3 ((a.val : Int) * 16 + (b.val : Int)) = ((ml a b).val : Int)) ∧ (∀ a : Int, a ≠ 3 → M' a = M a)) := by
  have hK : cd 6 = k6 := rfl
  have q1_ := qq_I k
  have p1_ := pp_I k
  have m1_ := mm_I k
  show Wp 198 _ 6 0 [(1, 1), (3, 0), (3, 0), (3, 0), (3, 0), (3, 0)] [] M _
  refine w_ic hK rfl ?_
  refine w_is [(1, 1), (0, 0), (3, 0), (3, 0), (3, 0), (3, 0)] hK rfl rfl rfl ?_
  have lp2 : ∀ (n_ : Nat) (a : Nat) (S1 : Int → Int) (w2 w3 w4 w5 : AV) (N2 : Mem), 17 - a = n_ → (a ≤ qq k) → (N2 3 = S1) → (Tab (k := k) ml S1 a 0) → ((∀ a : Int, a ≠ 3 → N2 a = M a)) → Wp 198 (d + 2) 6 2 [(1, 1), (0, (a : Int)), w2, w3, w4, w5] [] N2 (fun r M' => r = (4, 0) ∧ (∀ a b : El k, M' 3 ((a.val : Int) * 16 + (b.val : Int)) = ((ml a b).val : Int)) ∧ (∀ a : Int, a ≠ 3 → M' a = M a)) := by
    intro n_
    induction n_ using Nat.strongRecOn with
    | _ n_ ih2 =>
    intro a S1 w2 w3 w4 w5 N2 hm2 ha hS hT hF
    refine w_il hK rfl rfl ?_
    refine w_al hK rfl rfl ?_
    refine w_geti (n := 1) (m := 1) hK rfl rfl (by decide) (by decide) rfl rfl rfl rfl ?_
    rw [show N2 1 1 = (qq k : Int) from ((congrFun (hF 1 (by decide)) 1).trans K.2.1)]
    refine w_ge2 hK rfl (by omega) (by omega) (by omega) (by omega) (fun h5 => ?_) (fun h5 => ?_)
    · refine w_ret hK rfl rfl ?_
      have ea_ : a = qq k := by omega
      rw [ea_] at hT
      exact ⟨rfl, fun a b => by rw [hS]; exact hT.all a b, hF⟩
    · refine w_al hK rfl rfl ?_
      refine w_geti (n := 2) (m := 2) hK rfl rfl (by decide) (by decide) rfl rfl rfl rfl ?_
      rw [show N2 1 2 = (pp k : Int) from ((congrFun (hF 1 (by decide)) 2).trans K.2.2.1)]
      refine w_le hK rfl (by omega) (by omega) (fun h8 => ?_) (fun h8 => ?_)
      · exfalso; omega
      · refine w_ic hK rfl ?_
        refine w_is [(1, 1), (0, (a : Int)), (0, 0), w3, w4, w5] hK rfl rfl rfl ?_
        have lp11 : ∀ (n_ : Nat) (b : Nat) (S1 : Int → Int) (w3 w4 w5 : AV) (N11 : Mem), 17 - b = n_ → (b ≤ qq k) → (N11 3 = S1) → (Tab (k := k) ml S1 a b) → ((∀ a : Int, a ≠ 3 → N11 a = M a)) → Wp 198 (d + 2) 6 11 [(1, 1), (0, (a : Int)), (0, (b : Int)), w3, w4, w5] [] N11 (fun r M' => r = (4, 0) ∧ (∀ a b : El k, M' 3 ((a.val : Int) * 16 + (b.val : Int)) = ((ml a b).val : Int)) ∧ (∀ a : Int, a ≠ 3 → M' a = M a)) := by
          intro n_
          induction n_ using Nat.strongRecOn with
          | _ n_ ih11 =>
          intro b S1 w3 w4 w5 N11 hm11 hb hS hT hF
          have bp_ := Nat.div_le_self b (pp k)
          have bm_ := Nat.mod_lt b (show pp k > 0 by omega)
          have bdl_ : b ≠ 0 → b / pp k < b := fun h => Nat.div_lt_self (by omega) (pp_ge k)
          have bni_ : (0 : Int) ≤ (b : Int) / (pp k : Int) ∧ (b : Int) / (pp k : Int) ≤ (b : Int) := ⟨Int.ediv_nonneg (by omega) (by omega), Int.ediv_le_self _ (by omega)⟩
          refine w_il hK rfl rfl ?_
          refine w_al hK rfl rfl ?_
          refine w_geti (n := 1) (m := 1) hK rfl rfl (by decide) (by decide) rfl rfl rfl rfl ?_
          rw [show N11 1 1 = (qq k : Int) from ((congrFun (hF 1 (by decide)) 1).trans K.2.1)]
          refine w_ge2 hK rfl (by omega) (by omega) (by omega) (by omega) (fun h14 => ?_) (fun h14 => ?_)
          · refine w_inc [(1, 1), (0, ((a : Int) + 1)), (0, (b : Int)), w3, w4, w5] hK rfl rfl rfl (by omega) (by omega) rfl ?_
            refine w_goto hK rfl ?_
            have eb_ : b = qq k := by omega
            rw [eb_] at hT
            exact ih2 _ (by omega) (a + 1) _ (0, (b : Int)) w3 w4 w5 N11 rfl (by omega) hS hT.row hF
          · refine w_il hK rfl rfl ?_
            refine w_ne hK rfl (by omega) (by omega) (fun h16 => ?_) (fun h16 => ?_)
            · refine w_al hK rfl rfl ?_
              refine w_il hK rfl rfl ?_
              refine w_il hK rfl rfl ?_
              refine w_al hK rfl rfl ?_
              refine w_geti (n := 2) (m := 2) hK rfl rfl (by decide) (by decide) rfl rfl rfl rfl ?_
              rw [show N11 1 2 = (pp k : Int) from ((congrFun (hF 1 (by decide)) 2).trans K.2.2.1)]
              refine w_div hK rfl (by omega) (by omega) (by omega) (by omega) ?_
              refine w_call [(1, 1), (0, (a : Int)), (0, ((b : Int) / (pp k : Int)))] hK rfl rfl rfl rfl (Or.inr ⟨_, _, _, rfl, by decide, (by decide), rfl⟩) (c_prodR (a : Int) ((b : Int) / (pp k : Int)) (by omega) (by omega) (by omega) (by omega)) ?_
              rintro _ Mq ⟨rfl, e_⟩
              subst Mq
              rw [divI, show N11 3 ((a : Int) * 16 + ((b / pp k : Nat) : Int)) = ((ml (el k a) (el k (b / pp k))).val : Int) from (congrFun hS _).trans (by
                have h_ := hT (el k a) (el k (b / pp k)) (by rw [show (el k a).val = a from Nat.mod_eq_of_lt (by omega), show (el k (b / pp k)).val = b / pp k from Nat.mod_eq_of_lt (by omega)]; omega)
                rw [elN (by omega), elN (by omega)] at h_
                exact h_)]
              refine ⟨(by show (0 : Nat) ≠ 9; decide), (?_ : Wp 198 _ 6 26 [(1, 1), (0, (a : Int)), (0, (b : Int)), w3, w4, w5] [(0, ((ml (el k a) (el k (b / pp k))).val : Int))] N11 _)⟩
              refine w_is [(1, 1), (0, (a : Int)), (0, (b : Int)), (0, ((ml (el k a) (el k (b / pp k))).val : Int)), w4, w5] hK rfl rfl rfl ?_
              refine w_al hK rfl rfl ?_
              refine w_il hK rfl rfl ?_
              refine w_call [(1, 1), (0, ((ml (el k a) (el k (b / pp k))).val : Int))] hK rfl rfl rfl rfl (Or.inr ⟨_, _, _, rfl, by decide, (by decide), rfl⟩) (c_tw (FK.congr K ((hF 1 (by decide)).trans rfl)) (fun a b => (congrFun ((hF 2 (by decide)).trans rfl) _).trans (hsum a b)) (ml (el k a) (el k (b / pp k)))) ?_
              rintro _ Mq ⟨rfl, e_⟩
              subst Mq
              have tI_ := el_I (tw (ml (el k a) (el k (b / pp k))))
              refine ⟨(by show (0 : Nat) ≠ 9; decide), (?_ : Wp 198 _ 6 30 [(1, 1), (0, (a : Int)), (0, (b : Int)), (0, ((ml (el k a) (el k (b / pp k))).val : Int)), w4, w5] [(0, ((tw (ml (el k a) (el k (b / pp k)))).val : Int))] N11 _)⟩
              refine w_is [(1, 1), (0, (a : Int)), (0, (b : Int)), (0, ((ml (el k a) (el k (b / pp k))).val : Int)), (0, ((tw (ml (el k a) (el k (b / pp k)))).val : Int)), w5] hK rfl rfl rfl ?_
              refine w_il hK rfl rfl ?_
              refine w_al hK rfl rfl ?_
              refine w_geti (n := 2) (m := 2) hK rfl rfl (by decide) (by decide) rfl rfl rfl rfl ?_
              rw [show N11 1 2 = (pp k : Int) from ((congrFun (hF 1 (by decide)) 2).trans K.2.2.1)]
              refine w_rem hK rfl (by omega) (by omega) (by omega) (by omega) ?_
              rw [modI]
              refine w_is [(1, 1), (0, (a : Int)), (0, (b : Int)), (0, ((ml (el k a) (el k (b / pp k))).val : Int)), (0, ((tw (ml (el k a) (el k (b / pp k)))).val : Int)), (0, ((b % pp k : Nat) : Int))] hK rfl rfl rfl ?_
              have lp36 : ∀ (n_ : Nat) (n : Nat), n = n_ → (n ≤ b % pp k) → Wp 198 (d + 2) 6 36 [(1, 1), (0, (a : Int)), (0, (b : Int)), (0, ((ml (el k a) (el k (b / pp k))).val : Int)), (0, ((addn (el k a) (tw (ml (el k a) (el k (b / pp k)))) (b % pp k - n)).val : Int)), (0, (n : Int))] [] N11 (fun r M' => r = (4, 0) ∧ (∀ a b : El k, M' 3 ((a.val : Int) * 16 + (b.val : Int)) = ((ml a b).val : Int)) ∧ (∀ a : Int, a ≠ 3 → M' a = M a)) := by
                intro n_
                induction n_ using Nat.strongRecOn with
                | _ n_ ih36 =>
                intro n  hm36 hn
                refine w_il hK rfl rfl ?_
                refine w_le hK rfl (by omega) (by omega) (fun h37 => ?_) (fun h37 => ?_)
                · have n0_ : n = 0 := by omega
                  have val_ : ((addn (el k a) (tw (ml (el k a) (el k (b / pp k)))) (b % pp k - n)).val : Int) = ((ml (el k a) (el k b)).val : Int) := by
                    rw [n0_, ml_rec0 (el k a) (el k b), show (el k b).val = b from Nat.mod_eq_of_lt (by omega)]
                    rfl
                  refine w_al hK rfl rfl ?_
                  refine w_getr (n := 5) (v := 3) hK rfl rfl (by decide) (by decide) rfl rfl rfl rfl ?_
                  refine w_il hK rfl rfl ?_
                  refine w_ic hK rfl ?_
                  refine w_mul hK rfl (by omega) (by omega) ?_
                  refine w_il hK rfl rfl ?_
                  refine w_add hK rfl (by omega) (by omega) ?_
                  refine w_il hK rfl rfl ?_
                  refine w_call [(1, 3), (0, (((a : Int) * 16) + (b : Int))), (0, ((addn (el k a) (tw (ml (el k a) (el k (b / pp k)))) (b % pp k - n)).val : Int))] hK rfl rfl rfl rfl (Or.inl rfl) (c_fput3 (((a : Int) * 16) + (b : Int)) ((addn (el k a) (tw (ml (el k a) (el k (b / pp k)))) (b % pp k - n)).val : Int) (by omega) (by omega)) ?_
                  rintro _ V104 ⟨rfl, u104⟩
                  refine ⟨by decide, (?_ : Wp 198 _ 6 54 [(1, 1), (0, (a : Int)), (0, (b : Int)), (0, ((ml (el k a) (el k (b / pp k))).val : Int)), (0, ((addn (el k a) (tw (ml (el k a) (el k (b / pp k)))) (b % pp k - n)).val : Int)), (0, (n : Int))] [] V104 _)⟩
                  refine w_inc [(1, 1), (0, (a : Int)), (0, ((b : Int) + 1)), (0, ((ml (el k a) (el k (b / pp k))).val : Int)), (0, ((addn (el k a) (tw (ml (el k a) (el k (b / pp k)))) (b % pp k - n)).val : Int)), (0, (n : Int))] hK rfl rfl rfl (by omega) (by omega) rfl ?_
                  refine w_goto hK rfl ?_
                  exact ih11 _ (by omega) (b + 1) _ (0, ((ml (el k a) (el k (b / pp k))).val : Int)) (0, ((addn (el k a) (tw (ml (el k a) (el k (b / pp k)))) (b % pp k - n)).val : Int)) (0, (n : Int)) V104 rfl (by omega) ((congrFun u104 3).trans (up_upr hS)) (hT.step (by omega) (by omega) val_) (fun a n3_ => (((fun a (na_ : a ≠ 3) => (congrFun u104 a).trans (up_row na_)) a n3_).trans (hF a n3_)))
                · refine w_al hK rfl rfl ?_
                  refine w_il hK rfl rfl ?_
                  refine w_il hK rfl rfl ?_
                  have xl_ := el_I (addn (el k a) (tw (ml (el k a) (el k (b / pp k)))) (b % pp k - n))
                  have yl_ : (el k a).val = a := Nat.mod_eq_of_lt (by omega)
                  refine w_call [(1, 1), (0, ((addn (el k a) (tw (ml (el k a) (el k (b / pp k)))) (b % pp k - n)).val : Int)), (0, (a : Int))] hK rfl rfl rfl rfl (Or.inr ⟨_, _, _, rfl, by decide, (by decide), rfl⟩) (Ct.cv (c_sumR ((addn (el k a) (tw (ml (el k a) (el k (b / pp k)))) (b % pp k - n)).val : Int) ((el k a).val : Int) (by omega) (by omega) (by omega) (by omega)) (by rw [yl_])) ?_
                  rintro _ Mq ⟨rfl, e_⟩
                  subst Mq
                  rw [show N11 2 (((addn (el k a) (tw (ml (el k a) (el k (b / pp k)))) (b % pp k - n)).val : Int) * 16 + ((el k a).val : Int)) = ((ad (addn (el k a) (tw (ml (el k a) (el k (b / pp k)))) (b % pp k - n)) (el k a)).val : Int) from (congrFun ((hF 2 (by decide)).trans rfl) _).trans (hsum (addn (el k a) (tw (ml (el k a) (el k (b / pp k)))) (b % pp k - n)) (el k a))]
                  have sI_ := el_I (ad (addn (el k a) (tw (ml (el k a) (el k (b / pp k)))) (b % pp k - n)) (el k a))
                  refine ⟨(by show (0 : Nat) ≠ 9; decide), (?_ : Wp 198 _ 6 42 [(1, 1), (0, (a : Int)), (0, (b : Int)), (0, ((ml (el k a) (el k (b / pp k))).val : Int)), (0, ((addn (el k a) (tw (ml (el k a) (el k (b / pp k)))) (b % pp k - n)).val : Int)), (0, (n : Int))] [(0, ((ad (addn (el k a) (tw (ml (el k a) (el k (b / pp k)))) (b % pp k - n)) (el k a)).val : Int))] N11 _)⟩
                  refine w_is [(1, 1), (0, (a : Int)), (0, (b : Int)), (0, ((ml (el k a) (el k (b / pp k))).val : Int)), (0, ((ad (addn (el k a) (tw (ml (el k a) (el k (b / pp k)))) (b % pp k - n)) (el k a)).val : Int)), (0, (n : Int))] hK rfl rfl rfl ?_
                  refine w_inc [(1, 1), (0, (a : Int)), (0, (b : Int)), (0, ((ml (el k a) (el k (b / pp k))).val : Int)), (0, ((ad (addn (el k a) (tw (ml (el k a) (el k (b / pp k)))) (b % pp k - n)) (el k a)).val : Int)), (0, ((n : Int) + (-1)))] hK rfl rfl rfl (by omega) (by omega) rfl ?_
                  refine w_goto hK rfl ?_
                  have q36 := ih36 _ (by omega) (n - 1)  rfl (by omega)
                  rw [show (addn (el k a) (tw (ml (el k a) (el k (b / pp k)))) (b % pp k - (n - 1))) = ad (addn (el k a) (tw (ml (el k a) (el k (b / pp k)))) (b % pp k - n)) (el k a) from by rw [show b % pp k - (n - 1) = (b % pp k - n) + 1 by omega]; exact addn_s (by omega), show ((n - 1 : Nat) : Int) = (n : Int) + (-1) by omega] at q36
                  exact q36
              have q36 := lp36 _ (b % pp k)  rfl (Nat.le_refl _)
              rw [show b % pp k - b % pp k = 0 from Nat.sub_self _, show (addn (el k a) (tw (ml (el k a) (el k (b / pp k)))) 0) = tw (ml (el k a) (el k (b / pp k))) from rfl] at q36
              exact q36
            · refine w_ic hK rfl ?_
              refine w_goto hK rfl ?_
              rw [show ((0, 0) : AV) = (0, ((ml (el k a) (el k (b / pp k))).val : Int)) from congrArg (Prod.mk 0) (by rw [show b / pp k = 0 by rw [show b = 0 by omega, Nat.zero_div], show ml (el k a) (el k 0) = (z0 : El k) from ml_zero _, z0_val]; rfl)]
              refine w_is [(1, 1), (0, (a : Int)), (0, (b : Int)), (0, ((ml (el k a) (el k (b / pp k))).val : Int)), w4, w5] hK rfl rfl rfl ?_
              refine w_al hK rfl rfl ?_
              refine w_il hK rfl rfl ?_
              refine w_call [(1, 1), (0, ((ml (el k a) (el k (b / pp k))).val : Int))] hK rfl rfl rfl rfl (Or.inr ⟨_, _, _, rfl, by decide, (by decide), rfl⟩) (c_tw (FK.congr K ((hF 1 (by decide)).trans rfl)) (fun a b => (congrFun ((hF 2 (by decide)).trans rfl) _).trans (hsum a b)) (ml (el k a) (el k (b / pp k)))) ?_
              rintro _ Mq ⟨rfl, e_⟩
              subst Mq
              have tI_ := el_I (tw (ml (el k a) (el k (b / pp k))))
              refine ⟨(by show (0 : Nat) ≠ 9; decide), (?_ : Wp 198 _ 6 30 [(1, 1), (0, (a : Int)), (0, (b : Int)), (0, ((ml (el k a) (el k (b / pp k))).val : Int)), w4, w5] [(0, ((tw (ml (el k a) (el k (b / pp k)))).val : Int))] N11 _)⟩
              refine w_is [(1, 1), (0, (a : Int)), (0, (b : Int)), (0, ((ml (el k a) (el k (b / pp k))).val : Int)), (0, ((tw (ml (el k a) (el k (b / pp k)))).val : Int)), w5] hK rfl rfl rfl ?_
              refine w_il hK rfl rfl ?_
              refine w_al hK rfl rfl ?_
              refine w_geti (n := 2) (m := 2) hK rfl rfl (by decide) (by decide) rfl rfl rfl rfl ?_
              rw [show N11 1 2 = (pp k : Int) from ((congrFun (hF 1 (by decide)) 2).trans K.2.2.1)]
              refine w_rem hK rfl (by omega) (by omega) (by omega) (by omega) ?_
              rw [modI]
              refine w_is [(1, 1), (0, (a : Int)), (0, (b : Int)), (0, ((ml (el k a) (el k (b / pp k))).val : Int)), (0, ((tw (ml (el k a) (el k (b / pp k)))).val : Int)), (0, ((b % pp k : Nat) : Int))] hK rfl rfl rfl ?_
              have lp36 : ∀ (n_ : Nat) (n : Nat), n = n_ → (n ≤ b % pp k) → Wp 198 (d + 2) 6 36 [(1, 1), (0, (a : Int)), (0, (b : Int)), (0, ((ml (el k a) (el k (b / pp k))).val : Int)), (0, ((addn (el k a) (tw (ml (el k a) (el k (b / pp k)))) (b % pp k - n)).val : Int)), (0, (n : Int))] [] N11 (fun r M' => r = (4, 0) ∧ (∀ a b : El k, M' 3 ((a.val : Int) * 16 + (b.val : Int)) = ((ml a b).val : Int)) ∧ (∀ a : Int, a ≠ 3 → M' a = M a)) := by
                intro n_
                induction n_ using Nat.strongRecOn with
                | _ n_ ih36 =>
                intro n  hm36 hn
                refine w_il hK rfl rfl ?_
                refine w_le hK rfl (by omega) (by omega) (fun h37 => ?_) (fun h37 => ?_)
                · have n0_ : n = 0 := by omega
                  have val_ : ((addn (el k a) (tw (ml (el k a) (el k (b / pp k)))) (b % pp k - n)).val : Int) = ((ml (el k a) (el k b)).val : Int) := by
                    rw [n0_, ml_rec0 (el k a) (el k b), show (el k b).val = b from Nat.mod_eq_of_lt (by omega)]
                    rfl
                  refine w_al hK rfl rfl ?_
                  refine w_getr (n := 5) (v := 3) hK rfl rfl (by decide) (by decide) rfl rfl rfl rfl ?_
                  refine w_il hK rfl rfl ?_
                  refine w_ic hK rfl ?_
                  refine w_mul hK rfl (by omega) (by omega) ?_
                  refine w_il hK rfl rfl ?_
                  refine w_add hK rfl (by omega) (by omega) ?_
                  refine w_il hK rfl rfl ?_
                  refine w_call [(1, 3), (0, (((a : Int) * 16) + (b : Int))), (0, ((addn (el k a) (tw (ml (el k a) (el k (b / pp k)))) (b % pp k - n)).val : Int))] hK rfl rfl rfl rfl (Or.inl rfl) (c_fput3 (((a : Int) * 16) + (b : Int)) ((addn (el k a) (tw (ml (el k a) (el k (b / pp k)))) (b % pp k - n)).val : Int) (by omega) (by omega)) ?_
                  rintro _ V105 ⟨rfl, u105⟩
                  refine ⟨by decide, (?_ : Wp 198 _ 6 54 [(1, 1), (0, (a : Int)), (0, (b : Int)), (0, ((ml (el k a) (el k (b / pp k))).val : Int)), (0, ((addn (el k a) (tw (ml (el k a) (el k (b / pp k)))) (b % pp k - n)).val : Int)), (0, (n : Int))] [] V105 _)⟩
                  refine w_inc [(1, 1), (0, (a : Int)), (0, ((b : Int) + 1)), (0, ((ml (el k a) (el k (b / pp k))).val : Int)), (0, ((addn (el k a) (tw (ml (el k a) (el k (b / pp k)))) (b % pp k - n)).val : Int)), (0, (n : Int))] hK rfl rfl rfl (by omega) (by omega) rfl ?_
                  refine w_goto hK rfl ?_
                  exact ih11 _ (by omega) (b + 1) _ (0, ((ml (el k a) (el k (b / pp k))).val : Int)) (0, ((addn (el k a) (tw (ml (el k a) (el k (b / pp k)))) (b % pp k - n)).val : Int)) (0, (n : Int)) V105 rfl (by omega) ((congrFun u105 3).trans (up_upr hS)) (hT.step (by omega) (by omega) val_) (fun a n3_ => (((fun a (na_ : a ≠ 3) => (congrFun u105 a).trans (up_row na_)) a n3_).trans (hF a n3_)))
                · refine w_al hK rfl rfl ?_
                  refine w_il hK rfl rfl ?_
                  refine w_il hK rfl rfl ?_
                  have xl_ := el_I (addn (el k a) (tw (ml (el k a) (el k (b / pp k)))) (b % pp k - n))
                  have yl_ : (el k a).val = a := Nat.mod_eq_of_lt (by omega)
                  refine w_call [(1, 1), (0, ((addn (el k a) (tw (ml (el k a) (el k (b / pp k)))) (b % pp k - n)).val : Int)), (0, (a : Int))] hK rfl rfl rfl rfl (Or.inr ⟨_, _, _, rfl, by decide, (by decide), rfl⟩) (Ct.cv (c_sumR ((addn (el k a) (tw (ml (el k a) (el k (b / pp k)))) (b % pp k - n)).val : Int) ((el k a).val : Int) (by omega) (by omega) (by omega) (by omega)) (by rw [yl_])) ?_
                  rintro _ Mq ⟨rfl, e_⟩
                  subst Mq
                  rw [show N11 2 (((addn (el k a) (tw (ml (el k a) (el k (b / pp k)))) (b % pp k - n)).val : Int) * 16 + ((el k a).val : Int)) = ((ad (addn (el k a) (tw (ml (el k a) (el k (b / pp k)))) (b % pp k - n)) (el k a)).val : Int) from (congrFun ((hF 2 (by decide)).trans rfl) _).trans (hsum (addn (el k a) (tw (ml (el k a) (el k (b / pp k)))) (b % pp k - n)) (el k a))]
                  have sI_ := el_I (ad (addn (el k a) (tw (ml (el k a) (el k (b / pp k)))) (b % pp k - n)) (el k a))
                  refine ⟨(by show (0 : Nat) ≠ 9; decide), (?_ : Wp 198 _ 6 42 [(1, 1), (0, (a : Int)), (0, (b : Int)), (0, ((ml (el k a) (el k (b / pp k))).val : Int)), (0, ((addn (el k a) (tw (ml (el k a) (el k (b / pp k)))) (b % pp k - n)).val : Int)), (0, (n : Int))] [(0, ((ad (addn (el k a) (tw (ml (el k a) (el k (b / pp k)))) (b % pp k - n)) (el k a)).val : Int))] N11 _)⟩
                  refine w_is [(1, 1), (0, (a : Int)), (0, (b : Int)), (0, ((ml (el k a) (el k (b / pp k))).val : Int)), (0, ((ad (addn (el k a) (tw (ml (el k a) (el k (b / pp k)))) (b % pp k - n)) (el k a)).val : Int)), (0, (n : Int))] hK rfl rfl rfl ?_
                  refine w_inc [(1, 1), (0, (a : Int)), (0, (b : Int)), (0, ((ml (el k a) (el k (b / pp k))).val : Int)), (0, ((ad (addn (el k a) (tw (ml (el k a) (el k (b / pp k)))) (b % pp k - n)) (el k a)).val : Int)), (0, ((n : Int) + (-1)))] hK rfl rfl rfl (by omega) (by omega) rfl ?_
                  refine w_goto hK rfl ?_
                  have q36 := ih36 _ (by omega) (n - 1)  rfl (by omega)
                  rw [show (addn (el k a) (tw (ml (el k a) (el k (b / pp k)))) (b % pp k - (n - 1))) = ad (addn (el k a) (tw (ml (el k a) (el k (b / pp k)))) (b % pp k - n)) (el k a) from by rw [show b % pp k - (n - 1) = (b % pp k - n) + 1 by omega]; exact addn_s (by omega), show ((n - 1 : Nat) : Int) = (n : Int) + (-1) by omega] at q36
                  exact q36
              have q36 := lp36 _ (b % pp k)  rfl (Nat.le_refl _)
              rw [show b % pp k - b % pp k = 0 from Nat.sub_self _, show (addn (el k a) (tw (ml (el k a) (el k (b / pp k)))) 0) = tw (ml (el k a) (el k (b / pp k))) from rfl] at q36
              exact q36
        exact lp11 _ 0 _ w3 w4 w5 N2 rfl (by omega) hS hT hF
  exact lp2 _ 0 _ (3, 0) (3, 0) (3, 0) (3, 0) M rfl (by omega) rfl (fun a b h => by omega) (fun a _ => rfl)
