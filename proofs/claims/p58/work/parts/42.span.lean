/-! contracts: Span, single rows -/
/-- from a on, n numbers of a row have been written -/
def Wm (R R' : Int → Int) (a : Int) (n : Nat) (g : Nat → Int) : Prop := (∀ l : Nat, l < n → R' (a + l) = g l) ∧ ∀ j : Int, j < a ∨ a + n ≤ j → R' j = R j
theorem Wm.zero {R : Int → Int} {a : Int} {g : Nat → Int} : Wm R R a 0 g := ⟨fun l h => by omega, fun _ _ => rfl⟩
theorem Wm.step {R R' : Int → Int} {a : Int} {n : Nat} {g : Nat → Int} (h : Wm R R' a n g) {v : Int} (hv : v = g n) : Wm R (upr R' (a + n) v) a (n + 1) g := by
  refine ⟨fun l hl => ?_, fun j hj => ?_⟩
  · unfold upr
    by_cases e : l = n
    · rw [if_pos (by omega), hv, e]
    · rw [if_neg (by omega)]
      exact h.1 l (by omega)
  · unfold upr
    rw [if_neg (by omega)]
    exact h.2 j (by omega)
/-- the digit s of a number -/
def dgt {k : Nat} (a : El k) (s : Nat) : Nat := a.val / pp k ^ s % pp k
theorem dgt_lt {k : Nat} (a : El k) (s : Nat) : dgt a s < pp k := Nat.mod_lt _ (by have := pp_ge k; omega)
/-- the digits of a polynomial of degree below n in a row -/
def vec {k : Nat} (n : Nat) (f : Pl k) (j : Nat) : Int := if j < n * mm k then (dgt (f (j / mm k)) (j % mm k) : Int) else 0
theorem vec_I {k : Nat} (n : Nat) (f : Pl k) (j : Nat) : 0 ≤ vec n f j ∧ vec n f j < pp k := by
  have := pp_ge k
  unfold vec
  split
  · have := dgt_lt (f (j / mm k)) (j % mm k)
    omega
  · omega
theorem vec_at {k : Nat} {n : Nat} {f : Pl k} {i s : Nat} (hi : i < n) (hs : s < mm k) : vec n f (i * mm k + s) = (dgt (f i) s : Int) := by
  have h1 : (i + 1) * mm k ≤ n * mm k := Nat.mul_le_mul_right _ hi
  rw [Nat.add_mul, Nat.one_mul] at h1
  have h2 : (i * mm k + s) / mm k = i := by rw [Nat.mul_comm, Nat.mul_add_div (mm_pos k), Nat.div_eq_of_lt hs, Nat.add_zero]
  have h3 : (i * mm k + s) % mm k = s := by rw [Nat.mul_comm, Nat.mul_add_mod, Nat.mod_eq_of_lt hs]
  unfold vec
  rw [if_pos (by omega), h2, h3]
theorem mul_sm {a b : Int} (h1 : 0 ≤ a) (h2 : a ≤ 3) (h3 : 0 ≤ b) (h4 : b ≤ 3) : 0 ≤ a * b ∧ a * b ≤ 9 := ⟨Int.mul_nonneg h1 h3, by
  have := Int.mul_le_mul h2 h4 h3 (show (0 : Int) ≤ 3 by decide)
  omega⟩
set_option maxRecDepth 100000 in
theorem c_set89 {d : Nat} {M : Mem} (i v : Int) (h0 : 0 ≤ i) (h1 : i < 544) : Ct 198 (d) 88 [(1, 89), (0, i), (0, v)] M (fun r M' => r = (4, 0) ∧ M' = up M 89 i v) := by
  have hK : cd 88 = k88 := rfl
  show Wp 198 _ 88 0 [(1, 89), (0, i), (0, v)] [] M _
  refine w_il hK rfl rfl ?_
  refine w_lt hK rfl (by omega) (by omega) (fun h1 => ?_) (fun h1 => ?_)
  · exfalso; omega
  · refine w_il hK rfl rfl ?_
    refine w_al hK rfl rfl ?_
    refine w_len hK rfl rfl (by decide) (by decide) rfl ?_
    refine w_ge2 hK rfl (by omega) (by omega) (by omega) (by omega) (fun h5 => ?_) (fun h5 => ?_)
    · exfalso; omega
    · refine w_al hK rfl rfl ?_
      refine w_il hK rfl rfl ?_
      refine w_il hK rfl rfl ?_
      refine w_iat hK rfl rfl (by decide) (by decide) (by omega) (by omega) ?_
      refine w_ret hK rfl rfl ?_
      exact ⟨rfl, rfl⟩
set_option maxRecDepth 100000 in
theorem c_get89 {d : Nat} {M : Mem} (i : Int) (h0 : 0 ≤ i) (h1 : i < 544) : Ct 198 (d) 89 [(1, 89), (0, i)] M (fun r M' => r = (0, M 89 i) ∧ M' = M) := by
  have hK : cd 89 = k89 := rfl
  show Wp 198 _ 89 0 [(1, 89), (0, i)] [] M _
  refine w_il hK rfl rfl ?_
  refine w_lt hK rfl (by omega) (by omega) (fun h1 => ?_) (fun h1 => ?_)
  · exfalso; omega
  · refine w_il hK rfl rfl ?_
    refine w_al hK rfl rfl ?_
    refine w_len hK rfl rfl (by decide) (by decide) rfl ?_
    refine w_ge2 hK rfl (by omega) (by omega) (by omega) (by omega) (fun h5 => ?_) (fun h5 => ?_)
    · exfalso; omega
    · refine w_al hK rfl rfl ?_
      refine w_il hK rfl rfl ?_
      refine w_ia hK rfl rfl (by decide) (by decide) (by omega) (by omega) ?_
      refine w_goto hK rfl ?_
      refine w_iret hK rfl rfl ?_
      exact ⟨rfl, rfl⟩
set_option maxRecDepth 100000 in
theorem c_set90 {d : Nat} {M : Mem} (i v : Int) (h0 : 0 ≤ i) (h1 : i < 289) : Ct 198 (d) 88 [(1, 90), (0, i), (0, v)] M (fun r M' => r = (4, 0) ∧ M' = up M 90 i v) := by
  have hK : cd 88 = k88 := rfl
  show Wp 198 _ 88 0 [(1, 90), (0, i), (0, v)] [] M _
  refine w_il hK rfl rfl ?_
  refine w_lt hK rfl (by omega) (by omega) (fun h1 => ?_) (fun h1 => ?_)
  · exfalso; omega
  · refine w_il hK rfl rfl ?_
    refine w_al hK rfl rfl ?_
    refine w_len hK rfl rfl (by decide) (by decide) rfl ?_
    refine w_ge2 hK rfl (by omega) (by omega) (by omega) (by omega) (fun h5 => ?_) (fun h5 => ?_)
    · exfalso; omega
    · refine w_al hK rfl rfl ?_
      refine w_il hK rfl rfl ?_
      refine w_il hK rfl rfl ?_
      refine w_iat hK rfl rfl (by decide) (by decide) (by omega) (by omega) ?_
      refine w_ret hK rfl rfl ?_
      exact ⟨rfl, rfl⟩
set_option maxRecDepth 100000 in
theorem c_get90 {d : Nat} {M : Mem} (i : Int) (h0 : 0 ≤ i) (h1 : i < 289) : Ct 198 (d) 89 [(1, 90), (0, i)] M (fun r M' => r = (0, M 90 i) ∧ M' = M) := by
  have hK : cd 89 = k89 := rfl
  show Wp 198 _ 89 0 [(1, 90), (0, i)] [] M _
  refine w_il hK rfl rfl ?_
  refine w_lt hK rfl (by omega) (by omega) (fun h1 => ?_) (fun h1 => ?_)
  · exfalso; omega
  · refine w_il hK rfl rfl ?_
    refine w_al hK rfl rfl ?_
    refine w_len hK rfl rfl (by decide) (by decide) rfl ?_
    refine w_ge2 hK rfl (by omega) (by omega) (by omega) (by omega) (fun h5 => ?_) (fun h5 => ?_)
    · exfalso; omega
    · refine w_al hK rfl rfl ?_
      refine w_il hK rfl rfl ?_
      refine w_ia hK rfl rfl (by decide) (by decide) (by omega) (by omega) ?_
      refine w_goto hK rfl ?_
      refine w_iret hK rfl rfl ?_
      exact ⟨rfl, rfl⟩
set_option maxRecDepth 100000 in
theorem c_set91 {d : Nat} {M : Mem} (i v : Int) (h0 : 0 ≤ i) (h1 : i < 17) : Ct 198 (d) 88 [(1, 91), (0, i), (0, v)] M (fun r M' => r = (4, 0) ∧ M' = up M 91 i v) := by
  have hK : cd 88 = k88 := rfl
  show Wp 198 _ 88 0 [(1, 91), (0, i), (0, v)] [] M _
  refine w_il hK rfl rfl ?_
  refine w_lt hK rfl (by omega) (by omega) (fun h1 => ?_) (fun h1 => ?_)
  · exfalso; omega
  · refine w_il hK rfl rfl ?_
    refine w_al hK rfl rfl ?_
    refine w_len hK rfl rfl (by decide) (by decide) rfl ?_
    refine w_ge2 hK rfl (by omega) (by omega) (by omega) (by omega) (fun h5 => ?_) (fun h5 => ?_)
    · exfalso; omega
    · refine w_al hK rfl rfl ?_
      refine w_il hK rfl rfl ?_
      refine w_il hK rfl rfl ?_
      refine w_iat hK rfl rfl (by decide) (by decide) (by omega) (by omega) ?_
      refine w_ret hK rfl rfl ?_
      exact ⟨rfl, rfl⟩
set_option maxRecDepth 100000 in
theorem c_get91 {d : Nat} {M : Mem} (i : Int) (h0 : 0 ≤ i) (h1 : i < 17) : Ct 198 (d) 89 [(1, 91), (0, i)] M (fun r M' => r = (0, M 91 i) ∧ M' = M) := by
  have hK : cd 89 = k89 := rfl
  show Wp 198 _ 89 0 [(1, 91), (0, i)] [] M _
  refine w_il hK rfl rfl ?_
  refine w_lt hK rfl (by omega) (by omega) (fun h1 => ?_) (fun h1 => ?_)
  · exfalso; omega
  · refine w_il hK rfl rfl ?_
    refine w_al hK rfl rfl ?_
    refine w_len hK rfl rfl (by decide) (by decide) rfl ?_
    refine w_ge2 hK rfl (by omega) (by omega) (by omega) (by omega) (fun h5 => ?_) (fun h5 => ?_)
    · exfalso; omega
    · refine w_al hK rfl rfl ?_
      refine w_il hK rfl rfl ?_
      refine w_ia hK rfl rfl (by decide) (by decide) (by omega) (by omega) ?_
      refine w_goto hK rfl ?_
      refine w_iret hK rfl rfl ?_
      exact ⟨rfl, rfl⟩
set_option maxRecDepth 100000 in
theorem c_spst {d : Nat} {M : Mem} : Ct 198 (d) 85 [(1, 88)] M (fun r M' => r = (4, 0) ∧ M' 88 4 = 0 ∧ M' 88 5 = 0 ∧ (∀ a : Int, a ≠ 88 → M' a = M a)) := by
  have hK : cd 85 = k85 := rfl
  show Wp 198 _ 85 0 [(1, 88)] [] M _
  refine w_al hK rfl rfl ?_
  refine w_ic hK rfl ?_
  refine w_puti (n := 4) (m := 4) hK rfl rfl (by decide) (by decide) rfl rfl rfl rfl ?_
  refine w_al hK rfl rfl ?_
  refine w_ic hK rfl ?_
  refine w_puti (n := 5) (m := 5) hK rfl rfl (by decide) (by decide) rfl rfl rfl rfl ?_
  refine w_ret hK rfl rfl ?_
  exact ⟨rfl, ((up_ne2 (by omega)).trans up_eq), up_eq, (fun a n88_ => ((up_row n88_).trans (up_row n88_)))⟩
set_option maxRecDepth 100000 in
theorem c_wdig {d : Nat} {M : Mem} {k : Nat} {P : Int → Option (Pl k)} (C : CS M k P) {x : Int} {f_x : Pl k} (hx : isC P x f_x) {c n : Nat} (hc : c ≤ 16) (hn : n * mm k ≤ 32) (hn2 : n ≤ 16) (q4_ : M 88 4 = (c : Int)) {R : Int → Int} (h89 : M 89 = R) : Ct 198 (d + 1) 87 [(1, 88), (1, x), (0, (n : Int))] M (fun r M' => r = (4, 0) ∧ (∃ R2 : Int → Int, M' 89 = R2 ∧ (∀ l : Nat, l < 32 → R2 ((c : Int) * 32 + l) = vec n f_x l) ∧ ∀ j : Int, j < (c : Int) * 32 ∨ (c : Int) * 32 + 32 ≤ j → R2 j = R j) ∧ (∀ a : Int, a ≠ 89 → M' a = M a)) := by
  have hK : cd 87 = k87 := rfl
  have m1_ := mm_I k
  have p1_ := pp_I k
  show Wp 198 _ 87 0 [(1, 88), (1, x), (0, (n : Int)), (3, 0), (3, 0), (3, 0), (3, 0)] [] M _
  refine w_ic hK rfl ?_
  refine w_is [(1, 88), (1, x), (0, (n : Int)), (0, 0), (3, 0), (3, 0), (3, 0)] hK rfl rfl rfl ?_
  have lp2 : ∀ (n_ : Nat) (i : Nat) (R' : Int → Int) (w4 w5 w6 : AV) (N2 : Mem), 33 - i = n_ → (i ≤ 32) → (N2 89 = R') → (Wm R R' ((c : Int) * 32) i (fun _ => 0)) → ((∀ a : Int, a ≠ 89 → N2 a = M a)) → Wp 198 (d + 1) 87 2 [(1, 88), (1, x), (0, (n : Int)), (0, (i : Int)), w4, w5, w6] [] N2 (fun r M' => r = (4, 0) ∧ (∃ R2 : Int → Int, M' 89 = R2 ∧ (∀ l : Nat, l < 32 → R2 ((c : Int) * 32 + l) = vec n f_x l) ∧ ∀ j : Int, j < (c : Int) * 32 ∨ (c : Int) * 32 + 32 ≤ j → R2 j = R j) ∧ (∀ a : Int, a ≠ 89 → M' a = M a)) := by
    intro n_
    induction n_ using Nat.strongRecOn with
    | _ n_ ih2 =>
    intro i R' w4 w5 w6 N2 hm2 hi hr hw hF
    refine w_il hK rfl rfl ?_
    refine w_ic hK rfl ?_
    refine w_ge2 hK rfl (by omega) (by omega) (by omega) (by omega) (fun h4 => ?_) (fun h4 => ?_)
    · have ei_ : i = 32 := by omega
      subst ei_
      refine w_al hK rfl rfl ?_
      refine w_geti (n := 4) (m := 4) hK rfl rfl (by decide) (by decide) rfl rfl rfl rfl ?_
      rw [show N2 88 4 = (c : Int) from ((congrFun (hF 88 (by decide)) 4).trans q4_)]
      refine w_ic hK rfl ?_
      refine w_mul hK rfl (by omega) (by omega) ?_
      refine w_is [(1, 88), (1, x), (0, (n : Int)), (0, ((c : Int) * 32)), w4, w5, w6] hK rfl rfl rfl ?_
      refine w_ic hK rfl ?_
      refine w_is [(1, 88), (1, x), (0, (n : Int)), (0, ((c : Int) * 32)), (0, 0), w5, w6] hK rfl rfl rfl ?_
      have lp24 : ∀ (n_ : Nat) (j : Nat) (R2 : Int → Int) (w5 w6 : AV) (N24 : Mem), n - j = n_ → (j ≤ n) → (N24 89 = R2) → (Wm R' R2 ((c : Int) * 32) (j * mm k) (vec n f_x)) → ((∀ a : Int, a ≠ 89 → N24 a = M a)) → Wp 198 (d + 1) 87 24 [(1, 88), (1, x), (0, (n : Int)), (0, ((c : Int) * 32 + ((j * mm k : Nat) : Int))), (0, (j : Int)), w5, w6] [] N24 (fun r M' => r = (4, 0) ∧ (∃ R2 : Int → Int, M' 89 = R2 ∧ (∀ l : Nat, l < 32 → R2 ((c : Int) * 32 + l) = vec n f_x l) ∧ ∀ j : Int, j < (c : Int) * 32 ∨ (c : Int) * 32 + 32 ≤ j → R2 j = R j) ∧ (∀ a : Int, a ≠ 89 → M' a = M a)) := by
        intro n_
        induction n_ using Nat.strongRecOn with
        | _ n_ ih24 =>
        intro j R2 w5 w6 N24 hm24 hj hr2 hw2 hF2
        have jn_ : j * mm k ≤ n * mm k := Nat.mul_le_mul_right _ hj
        refine w_il hK rfl rfl ?_
        refine w_il hK rfl rfl ?_
        refine w_ge2 hK rfl (by omega) (by omega) (by omega) (by omega) (fun h26 => ?_) (fun h26 => ?_)
        · refine w_ret hK rfl rfl ?_
          have ej_ : j = n := by omega
          subst ej_
          refine ⟨rfl, ⟨R2, hr2, fun l hl => ?_, fun t ht => ?_⟩, hF2⟩
          · by_cases q : l < j * mm k
            · exact hw2.1 l q
            · rw [hw2.2 _ (by omega), hw.1 l (by omega)]
              unfold vec
              rw [if_neg q]
          · rw [hw2.2 _ (by omega), hw.2 _ (by omega)]
        · refine w_al hK rfl rfl ?_
          refine w_il hK rfl rfl ?_
          refine w_call [(1, x), (0, (j : Int))] hK rfl rfl rfl rfl (Or.inr ⟨_, _, _, rfl, hx.1.nn, hx.1.lb, hx.1.o⟩) (c_atN (CS.congr C (fun a ha_ => hF2 a (CSc_ne ha_ (by decide) (notP rfl)))) hx j (by omega)) ?_
          rintro _ Mq ⟨rfl, e_⟩
          subst Mq
          have bv_ := el_I (f_x j)
          refine ⟨by show (0 : Nat) ≠ 9; decide, (?_ : Wp 198 _ 87 30 [(1, 88), (1, x), (0, (n : Int)), (0, ((c : Int) * 32 + ((j * mm k : Nat) : Int))), (0, (j : Int)), w5, w6] [(0, ((f_x j).val : Int))] N24 _)⟩
          refine w_is [(1, 88), (1, x), (0, (n : Int)), (0, ((c : Int) * 32 + ((j * mm k : Nat) : Int))), (0, (j : Int)), (0, ((f_x j).val : Int)), w6] hK rfl rfl rfl ?_
          refine w_ic hK rfl ?_
          refine w_is [(1, 88), (1, x), (0, (n : Int)), (0, ((c : Int) * 32 + ((j * mm k : Nat) : Int))), (0, (j : Int)), (0, ((f_x j).val : Int)), (0, 0)] hK rfl rfl rfl ?_
          have lp33 : ∀ (n_ : Nat) (s : Nat) (R3 : Int → Int) (N33 : Mem), 5 - s = n_ → (s ≤ mm k) → (N33 89 = R3) → (Wm R' R3 ((c : Int) * 32) (j * mm k + s) (vec n f_x)) → ((∀ a : Int, a ≠ 89 → N33 a = M a)) → Wp 198 (d + 1) 87 33 [(1, 88), (1, x), (0, (n : Int)), (0, ((c : Int) * 32 + ((j * mm k + s : Nat) : Int))), (0, (j : Int)), (0, (((f_x j).val / pp k ^ s : Nat) : Int)), (0, (s : Int))] [] N33 (fun r M' => r = (4, 0) ∧ (∃ R2 : Int → Int, M' 89 = R2 ∧ (∀ l : Nat, l < 32 → R2 ((c : Int) * 32 + l) = vec n f_x l) ∧ ∀ j : Int, j < (c : Int) * 32 ∨ (c : Int) * 32 + 32 ≤ j → R2 j = R j) ∧ (∀ a : Int, a ≠ 89 → M' a = M a)) := by
            intro n_
            induction n_ using Nat.strongRecOn with
            | _ n_ ih33 =>
            intro s R3 N33 hm33 hs hr3 hw3 hF3
            have jm_ : (j + 1) * mm k ≤ n * mm k := Nat.mul_le_mul_right _ (by omega)
            rw [Nat.add_mul, Nat.one_mul] at jm_
            have rs_ : ((f_x j).val / pp k ^ s : Nat) ≤ (f_x j).val := Nat.div_le_self _ _
            have rn_ : (0 : Int) ≤ (((f_x j).val / pp k ^ s : Nat) : Int) := Int.natCast_nonneg _
            have ev_ := el_lt (f_x j)
            refine w_il hK rfl rfl ?_
            refine w_al hK rfl rfl ?_
            refine w_getr (n := 0) (v := 1) hK rfl rfl (by decide) (by decide) rfl rfl rfl rfl ?_
            refine w_geti (n := 3) (m := 3) hK rfl rfl (by decide) (by decide) rfl rfl rfl rfl ?_
            rw [show N33 1 3 = (mm k : Int) from (CS.congr C (fun a ha_ => hF3 a (CSc_ne ha_ (by decide) (notP rfl)))).F.m]
            refine w_ge2 hK rfl (by omega) (by omega) (by omega) (by omega) (fun h37 => ?_) (fun h37 => ?_)
            · have es_ : s = mm k := by omega
              refine w_inc [(1, 88), (1, x), (0, (n : Int)), (0, ((c : Int) * 32 + ((j * mm k + s : Nat) : Int))), (0, ((j : Int) + 1)), (0, (((f_x j).val / pp k ^ s : Nat) : Int)), (0, (s : Int))] hK rfl rfl rfl (by omega) (by omega) rfl ?_
              refine w_goto hK rfl ?_
              have q24 := ih24 _ (by omega) (j + 1) _ (0, (((f_x j).val / pp k ^ s : Nat) : Int)) (0, (s : Int)) N33 rfl (by omega) hr3 (by rw [show (j + 1) * mm k = j * mm k + s from by rw [Nat.add_mul, Nat.one_mul, es_]]; exact hw3) hF3
              rw [show (c : Int) * 32 + (((j + 1) * mm k : Nat) : Int) = (c : Int) * 32 + ((j * mm k + s : Nat) : Int) by rw [Nat.add_mul, Nat.one_mul, es_]] at q24
              exact q24
            · refine w_al hK rfl rfl ?_
              refine w_getr (n := 0) (v := 1) hK rfl rfl (by decide) (by decide) rfl rfl rfl rfl ?_
              refine w_geti (n := 2) (m := 2) hK rfl rfl (by decide) (by decide) rfl rfl rfl rfl ?_
              rw [show N33 1 2 = (pp k : Int) from (CS.congr C (fun a ha_ => hF3 a (CSc_ne ha_ (by decide) (notP rfl)))).F.p]
              refine w_le hK rfl (by omega) (by omega) (fun h41 => ?_) (fun h41 => ?_)
              · exfalso; omega
              · refine w_al hK rfl rfl ?_
                refine w_getr (n := 1) (v := 89) hK rfl rfl (by decide) (by decide) rfl rfl rfl rfl ?_
                refine w_il hK rfl rfl ?_
                refine w_il hK rfl rfl ?_
                refine w_al hK rfl rfl ?_
                refine w_getr (n := 0) (v := 1) hK rfl rfl (by decide) (by decide) rfl rfl rfl rfl ?_
                refine w_geti (n := 2) (m := 2) hK rfl rfl (by decide) (by decide) rfl rfl rfl rfl ?_
                rw [show N33 1 2 = (pp k : Int) from (CS.congr C (fun a ha_ => hF3 a (CSc_ne ha_ (by decide) (notP rfl)))).F.p]
                refine w_rem hK rfl (by omega) (by omega) (by omega) (by omega) ?_
                refine w_call [(1, 89), (0, ((c : Int) * 32 + ((j * mm k + s : Nat) : Int))), (0, ((((f_x j).val / pp k ^ s : Nat) : Int) % (pp k : Int)))] hK rfl rfl rfl rfl (Or.inl rfl) (c_set89 ((c : Int) * 32 + ((j * mm k + s : Nat) : Int)) ((((f_x j).val / pp k ^ s : Nat) : Int) % (pp k : Int)) (by omega) (by omega)) ?_
                rintro _ V48 ⟨rfl, u48⟩
                refine ⟨by decide, (?_ : Wp 198 _ 87 51 [(1, 88), (1, x), (0, (n : Int)), (0, ((c : Int) * 32 + ((j * mm k + s : Nat) : Int))), (0, (j : Int)), (0, (((f_x j).val / pp k ^ s : Nat) : Int)), (0, (s : Int))] [] V48 _)⟩
                refine w_il hK rfl rfl ?_
                refine w_al hK rfl rfl ?_
                refine w_getr (n := 0) (v := 1) hK rfl rfl (by decide) (by decide) rfl rfl rfl rfl ?_
                refine w_geti (n := 2) (m := 2) hK rfl rfl (by decide) (by decide) rfl rfl rfl rfl ?_
                rw [show V48 1 2 = (pp k : Int) from (CS.congr (CS.congr C (fun a ha_ => hF3 a (CSc_ne ha_ (by decide) (notP rfl)))) (fun a ha_ => (fun a (na_ : a ≠ 89) => (congrFun u48 a).trans (up_row na_)) a (CSc_ne ha_ (by decide) (notP rfl)))).F.p]
                refine w_div hK rfl (by omega) (by omega) (by omega) (by omega) ?_
                refine w_is [(1, 88), (1, x), (0, (n : Int)), (0, ((c : Int) * 32 + ((j * mm k + s : Nat) : Int))), (0, (j : Int)), (0, ((((f_x j).val / pp k ^ s : Nat) : Int) / (pp k : Int))), (0, (s : Int))] hK rfl rfl rfl ?_
                refine w_inc [(1, 88), (1, x), (0, (n : Int)), (0, (((c : Int) * 32 + ((j * mm k + s : Nat) : Int)) + 1)), (0, (j : Int)), (0, ((((f_x j).val / pp k ^ s : Nat) : Int) / (pp k : Int))), (0, (s : Int))] hK rfl rfl rfl (by omega) (by omega) rfl ?_
                refine w_inc [(1, 88), (1, x), (0, (n : Int)), (0, (((c : Int) * 32 + ((j * mm k + s : Nat) : Int)) + 1)), (0, (j : Int)), (0, ((((f_x j).val / pp k ^ s : Nat) : Int) / (pp k : Int))), (0, ((s : Int) + 1))] hK rfl rfl rfl (by omega) (by omega) rfl ?_
                refine w_goto hK rfl ?_
                have q33 := ih33 _ (by omega) (s + 1) _ V48 rfl (by omega) ((congrFun u48 89).trans (up_upr hr3)) (hw3.step (by rw [vec_at (by omega) (by omega)]; rfl)) (fun a n89_ => (((fun a (na_ : a ≠ 89) => (congrFun u48 a).trans (up_row na_)) a n89_).trans (hF3 a n89_)))
                rw [show ((f_x j).val / pp k ^ (s + 1) : Nat) = (f_x j).val / pp k ^ s / pp k by rw [Nat.pow_succ, Nat.div_div_eq_div_mul], show (c : Int) * 32 + ((j * mm k + (s + 1) : Nat) : Int) = (c : Int) * 32 + ((j * mm k + s : Nat) : Int) + 1 by omega, Int.natCast_ediv] at q33
                exact q33
          have q33 := lp33 _ 0 R2 N24 rfl (by omega) hr2 hw2 hF2
          rw [show ((f_x j).val / pp k ^ 0 : Nat) = (f_x j).val by rw [Nat.pow_zero, Nat.div_one], show ((j * mm k + 0 : Nat) : Int) = ((j * mm k : Nat) : Int) from rfl] at q33
          exact q33
      have q24 := lp24 _ 0 R' w5 w6 N2 rfl (by omega) hr (by rw [Nat.zero_mul]; exact Wm.zero) (fun a n89_ => (hF a n89_))
      rw [show (c : Int) * 32 + ((0 * mm k : Nat) : Int) = (c : Int) * 32 by rw [Nat.zero_mul]; omega] at q24
      exact q24
    · refine w_al hK rfl rfl ?_
      refine w_getr (n := 1) (v := 89) hK rfl rfl (by decide) (by decide) rfl rfl rfl rfl ?_
      refine w_al hK rfl rfl ?_
      refine w_geti (n := 4) (m := 4) hK rfl rfl (by decide) (by decide) rfl rfl rfl rfl ?_
      rw [show N2 88 4 = (c : Int) from ((congrFun (hF 88 (by decide)) 4).trans q4_)]
      refine w_ic hK rfl ?_
      refine w_mul hK rfl (by omega) (by omega) ?_
      refine w_il hK rfl rfl ?_
      refine w_add hK rfl (by omega) (by omega) ?_
      refine w_ic hK rfl ?_
      refine w_call [(1, 89), (0, (((c : Int) * 32) + (i : Int))), (0, 0)] hK rfl rfl rfl rfl (Or.inl rfl) (c_set89 (((c : Int) * 32) + (i : Int)) 0 (by omega) (by omega)) ?_
      rintro _ V49 ⟨rfl, u49⟩
      refine ⟨by decide, (?_ : Wp 198 _ 87 15 [(1, 88), (1, x), (0, (n : Int)), (0, (i : Int)), w4, w5, w6] [] V49 _)⟩
      refine w_inc [(1, 88), (1, x), (0, (n : Int)), (0, ((i : Int) + 1)), w4, w5, w6] hK rfl rfl rfl (by omega) (by omega) rfl ?_
      refine w_goto hK rfl ?_
      exact ih2 _ (by omega) (i + 1) _ w4 w5 w6 V49 rfl (by omega) ((congrFun u49 89).trans (up_upr hr)) (hw.step rfl) (fun a n89_ => (((fun a (na_ : a ≠ 89) => (congrFun u49 a).trans (up_row na_)) a n89_).trans (hF a n89_)))
  exact lp2 _ 0 R (3, 0) (3, 0) (3, 0) M rfl (by omega) h89 Wm.zero (fun a _ => rfl)
set_option maxRecDepth 100000 in
theorem c_take89 {d : Nat} {M : Mem} {k : Nat} {P : Int → Option (Pl k)} (C : CS M k P) {c r : Nat} {f : Int} (hc : c ≤ 16) (hrc : r < c) (hf : 1 ≤ f ∧ f < (pp k : Int)) (q4_ : M 88 4 = (c : Int)) {R : Int → Int} (hR_ : M 89 = R) (b1_ : ∀ l : Nat, l < 32 → 0 ≤ R ((c : Int) * 32 + l) ∧ R ((c : Int) * 32 + l) < (pp k : Int)) (b2_ : ∀ l : Nat, l < 32 → 0 ≤ R ((r : Int) * 32 + l) ∧ R ((r : Int) * 32 + l) < (pp k : Int)) : Ct 198 (d + 1) 90 [(1, 88), (1, 89), (0, 32), (0, (r : Int)), (0, f)] M (fun r_ M' => r_ = (4, 0) ∧ (∃ R' : Int → Int, M' 89 = R' ∧ Wm R R' ((c : Int) * 32) 32 (fun l => (R ((c : Int) * 32 + (l : Int)) + ((pp k : Int) - f) * R ((r : Int) * 32 + (l : Int))) % (pp k : Int))) ∧ (∀ a : Int, a ≠ 89 → M' a = M a)) := by
  have hK : cd 90 = k90 := rfl
  have m1_ := mm_I k
  have p1_ := pp_I k
  show Wp 198 _ 90 0 [(1, 88), (1, 89), (0, 32), (0, (r : Int)), (0, f), (3, 0), (3, 0), (3, 0)] [] M _
  refine w_al hK rfl rfl ?_
  refine w_geti (n := 4) (m := 4) hK rfl rfl (by decide) (by decide) rfl rfl rfl rfl ?_
  rw [show M 88 4 = (c : Int) from q4_]
  refine w_il hK rfl rfl ?_
  refine w_mul hK rfl (by omega) (by omega) ?_
  refine w_is [(1, 88), (1, 89), (0, 32), (0, (r : Int)), (0, f), (0, ((c : Int) * 32)), (3, 0), (3, 0)] hK rfl rfl rfl ?_
  refine w_ic hK rfl ?_
  refine w_is [(1, 88), (1, 89), (0, 32), (0, (r : Int)), (0, f), (0, ((c : Int) * 32)), (0, 0), (3, 0)] hK rfl rfl rfl ?_
  have lp7 : ∀ (n_ : Nat) (i : Nat) (R' : Int → Int) (w7 : AV) (N7 : Mem), 33 - i = n_ → (i ≤ 32) → (N7 89 = R') → (Wm R R' ((c : Int) * 32) i (fun l => (R ((c : Int) * 32 + (l : Int)) + ((pp k : Int) - f) * R ((r : Int) * 32 + (l : Int))) % (pp k : Int))) → ((∀ a : Int, a ≠ 89 → N7 a = M a)) → Wp 198 (d + 1) 90 7 [(1, 88), (1, 89), (0, 32), (0, (r : Int)), (0, f), (0, ((c : Int) * 32)), (0, (i : Int)), w7] [] N7 (fun r_ M' => r_ = (4, 0) ∧ (∃ R' : Int → Int, M' 89 = R' ∧ Wm R R' ((c : Int) * 32) 32 (fun l => (R ((c : Int) * 32 + (l : Int)) + ((pp k : Int) - f) * R ((r : Int) * 32 + (l : Int))) % (pp k : Int))) ∧ (∀ a : Int, a ≠ 89 → M' a = M a)) := by
    intro n_
    induction n_ using Nat.strongRecOn with
    | _ n_ ih7 =>
    intro i R' w7 N7 hm7 hi hr hw hF
    refine w_il hK rfl rfl ?_
    refine w_il hK rfl rfl ?_
    refine w_ge2 hK rfl (by omega) (by omega) (by omega) (by omega) (fun h9 => ?_) (fun h9 => ?_)
    · refine w_ret hK rfl rfl ?_
      have ei_ : i = 32 := by omega
      subst ei_
      exact ⟨rfl, ⟨R', hr, hw⟩, hF⟩
    · refine w_al hK rfl rfl ?_
      refine w_getr (n := 0) (v := 1) hK rfl rfl (by decide) (by decide) rfl rfl rfl rfl ?_
      refine w_geti (n := 2) (m := 2) hK rfl rfl (by decide) (by decide) rfl rfl rfl rfl ?_
      rw [show N7 1 2 = (pp k : Int) from (CS.congr C (fun a ha_ => hF a (CSc_ne ha_ (by decide) (notP rfl)))).F.p]
      refine w_le hK rfl (by omega) (by omega) (fun h13 => ?_) (fun h13 => ?_)
      · exfalso; omega
      · have c1_ := b1_ i (by omega)
        have c2_ := b2_ i (by omega)
        have er_ : R' ((r : Int) * 32 + (i : Int)) = R ((r : Int) * 32 + (i : Int)) := hw.2 _ (by omega)
        have ec_ : R' ((c : Int) * 32 + (i : Int)) = R ((c : Int) * 32 + (i : Int)) := hw.2 _ (by omega)
        have mu_ := mul_sm (a := (pp k : Int) - f) (b := R' ((r : Int) * 32 + (i : Int))) (by omega) (by omega) (by omega) (by omega)
        refine w_al hK rfl rfl ?_
        refine w_getr (n := 0) (v := 1) hK rfl rfl (by decide) (by decide) rfl rfl rfl rfl ?_
        refine w_geti (n := 2) (m := 2) hK rfl rfl (by decide) (by decide) rfl rfl rfl rfl ?_
        rw [show N7 1 2 = (pp k : Int) from (CS.congr C (fun a ha_ => hF a (CSc_ne ha_ (by decide) (notP rfl)))).F.p]
        refine w_il hK rfl rfl ?_
        refine w_sub hK rfl (by omega) (by omega) ?_
        refine w_al hK rfl rfl ?_
        refine w_il hK rfl rfl ?_
        refine w_il hK rfl rfl ?_
        refine w_mul hK rfl (by omega) (by omega) ?_
        refine w_il hK rfl rfl ?_
        refine w_add hK rfl (by omega) (by omega) ?_
        refine w_call [(1, 89), (0, (((r : Int) * 32) + (i : Int)))] hK rfl rfl rfl rfl (Or.inl rfl) (c_get89 (((r : Int) * 32) + (i : Int)) (by omega) (by omega)) ?_
        rintro _ Mq ⟨rfl, e_⟩
        subst Mq
        rw [show N7 89 (((r : Int) * 32) + (i : Int)) = (R' (((r : Int) * 32) + (i : Int))) from (congrFun hr (((r : Int) * 32) + (i : Int)))]
        refine ⟨(by show (0 : Nat) ≠ 9; decide), (?_ : Wp 198 _ 90 26 [(1, 88), (1, 89), (0, 32), (0, (r : Int)), (0, f), (0, ((c : Int) * 32)), (0, (i : Int)), w7] [(0, (R' (((r : Int) * 32) + (i : Int)))), (0, ((pp k : Int) - f))] N7 _)⟩
        refine w_mul hK rfl (by omega) (by omega) ?_
        refine w_is [(1, 88), (1, 89), (0, 32), (0, (r : Int)), (0, f), (0, ((c : Int) * 32)), (0, (i : Int)), (0, (((pp k : Int) - f) * (R' (((r : Int) * 32) + (i : Int)))))] hK rfl rfl rfl ?_
        refine w_al hK rfl rfl ?_
        refine w_il hK rfl rfl ?_
        refine w_il hK rfl rfl ?_
        refine w_add hK rfl (by omega) (by omega) ?_
        refine w_al hK rfl rfl ?_
        refine w_il hK rfl rfl ?_
        refine w_il hK rfl rfl ?_
        refine w_add hK rfl (by omega) (by omega) ?_
        refine w_call [(1, 89), (0, (((c : Int) * 32) + (i : Int)))] hK rfl rfl rfl rfl (Or.inl rfl) (c_get89 (((c : Int) * 32) + (i : Int)) (by omega) (by omega)) ?_
        rintro _ Mq ⟨rfl, e_⟩
        subst Mq
        rw [show N7 89 (((c : Int) * 32) + (i : Int)) = (R' (((c : Int) * 32) + (i : Int))) from (congrFun hr (((c : Int) * 32) + (i : Int)))]
        refine ⟨(by show (0 : Nat) ≠ 9; decide), (?_ : Wp 198 _ 90 37 [(1, 88), (1, 89), (0, 32), (0, (r : Int)), (0, f), (0, ((c : Int) * 32)), (0, (i : Int)), (0, (((pp k : Int) - f) * (R' (((r : Int) * 32) + (i : Int)))))] [(0, (R' (((c : Int) * 32) + (i : Int)))), (0, (((c : Int) * 32) + (i : Int))), (1, 89)] N7 _)⟩
        refine w_il hK rfl rfl ?_
        refine w_add hK rfl (by omega) (by omega) ?_
        refine w_al hK rfl rfl ?_
        refine w_getr (n := 0) (v := 1) hK rfl rfl (by decide) (by decide) rfl rfl rfl rfl ?_
        refine w_geti (n := 2) (m := 2) hK rfl rfl (by decide) (by decide) rfl rfl rfl rfl ?_
        rw [show N7 1 2 = (pp k : Int) from (CS.congr C (fun a ha_ => hF a (CSc_ne ha_ (by decide) (notP rfl)))).F.p]
        refine w_rem hK rfl (by omega) (by omega) (by omega) (by omega) ?_
        refine w_call [(1, 89), (0, (((c : Int) * 32) + (i : Int))), (0, (((R' (((c : Int) * 32) + (i : Int))) + (((pp k : Int) - f) * (R' (((r : Int) * 32) + (i : Int))))) % (pp k : Int)))] hK rfl rfl rfl rfl (Or.inl rfl) (c_set89 (((c : Int) * 32) + (i : Int)) (((R' (((c : Int) * 32) + (i : Int))) + (((pp k : Int) - f) * (R' (((r : Int) * 32) + (i : Int))))) % (pp k : Int)) (by omega) (by omega)) ?_
        rintro _ V50 ⟨rfl, u50⟩
        refine ⟨by decide, (?_ : Wp 198 _ 90 44 [(1, 88), (1, 89), (0, 32), (0, (r : Int)), (0, f), (0, ((c : Int) * 32)), (0, (i : Int)), (0, (((pp k : Int) - f) * (R' (((r : Int) * 32) + (i : Int)))))] [] V50 _)⟩
        refine w_inc [(1, 88), (1, 89), (0, 32), (0, (r : Int)), (0, f), (0, ((c : Int) * 32)), (0, ((i : Int) + 1)), (0, (((pp k : Int) - f) * (R' (((r : Int) * 32) + (i : Int)))))] hK rfl rfl rfl (by omega) (by omega) rfl ?_
        refine w_goto hK rfl ?_
        exact ih7 _ (by omega) (i + 1) _ (0, (((pp k : Int) - f) * (R' (((r : Int) * 32) + (i : Int))))) V50 rfl (by omega) ((congrFun u50 89).trans (up_upr hr)) (hw.step (by rw [ec_, er_])) (fun a n89_ => (((fun a (na_ : a ≠ 89) => (congrFun u50 a).trans (up_row na_)) a n89_).trans (hF a n89_)))
  exact lp7 _ 0 R (3, 0) M rfl (by omega) hR_ Wm.zero (fun a _ => rfl)
set_option maxRecDepth 100000 in
theorem c_mult89 {d : Nat} {M : Mem} {k : Nat} {P : Int → Option (Pl k)} (C : CS M k P) {c : Nat} {f : Int} (hc : c ≤ 16) (hf : 1 ≤ f ∧ f < (pp k : Int)) (q4_ : M 88 4 = (c : Int)) {R : Int → Int} (hR_ : M 89 = R) (b1_ : ∀ l : Nat, l < 32 → 0 ≤ R ((c : Int) * 32 + l) ∧ R ((c : Int) * 32 + l) < (pp k : Int)) : Ct 198 (d + 1) 92 [(1, 88), (1, 89), (0, 32), (0, f)] M (fun r_ M' => r_ = (4, 0) ∧ (∃ R' : Int → Int, M' 89 = R' ∧ Wm R R' ((c : Int) * 32) 32 (fun l => R ((c : Int) * 32 + (l : Int)) * f % (pp k : Int))) ∧ (∀ a : Int, a ≠ 89 → M' a = M a)) := by
  have hK : cd 92 = k92 := rfl
  have m1_ := mm_I k
  have p1_ := pp_I k
  show Wp 198 _ 92 0 [(1, 88), (1, 89), (0, 32), (0, f), (3, 0), (3, 0)] [] M _
  refine w_al hK rfl rfl ?_
  refine w_geti (n := 4) (m := 4) hK rfl rfl (by decide) (by decide) rfl rfl rfl rfl ?_
  rw [show M 88 4 = (c : Int) from q4_]
  refine w_il hK rfl rfl ?_
  refine w_mul hK rfl (by omega) (by omega) ?_
  refine w_is [(1, 88), (1, 89), (0, 32), (0, f), (0, ((c : Int) * 32)), (3, 0)] hK rfl rfl rfl ?_
  refine w_ic hK rfl ?_
  refine w_is [(1, 88), (1, 89), (0, 32), (0, f), (0, ((c : Int) * 32)), (0, 0)] hK rfl rfl rfl ?_
  have lp7 : ∀ (n_ : Nat) (i : Nat) (R' : Int → Int) (N7 : Mem), 33 - i = n_ → (i ≤ 32) → (N7 89 = R') → (Wm R R' ((c : Int) * 32) i (fun l => R ((c : Int) * 32 + (l : Int)) * f % (pp k : Int))) → ((∀ a : Int, a ≠ 89 → N7 a = M a)) → Wp 198 (d + 1) 92 7 [(1, 88), (1, 89), (0, 32), (0, f), (0, ((c : Int) * 32)), (0, (i : Int))] [] N7 (fun r_ M' => r_ = (4, 0) ∧ (∃ R' : Int → Int, M' 89 = R' ∧ Wm R R' ((c : Int) * 32) 32 (fun l => R ((c : Int) * 32 + (l : Int)) * f % (pp k : Int))) ∧ (∀ a : Int, a ≠ 89 → M' a = M a)) := by
    intro n_
    induction n_ using Nat.strongRecOn with
    | _ n_ ih7 =>
    intro i R' N7 hm7 hi hr hw hF
    refine w_il hK rfl rfl ?_
    refine w_il hK rfl rfl ?_
    refine w_ge2 hK rfl (by omega) (by omega) (by omega) (by omega) (fun h9 => ?_) (fun h9 => ?_)
    · refine w_ret hK rfl rfl ?_
      have ei_ : i = 32 := by omega
      subst ei_
      exact ⟨rfl, ⟨R', hr, hw⟩, hF⟩
    · refine w_al hK rfl rfl ?_
      refine w_getr (n := 0) (v := 1) hK rfl rfl (by decide) (by decide) rfl rfl rfl rfl ?_
      refine w_geti (n := 2) (m := 2) hK rfl rfl (by decide) (by decide) rfl rfl rfl rfl ?_
      rw [show N7 1 2 = (pp k : Int) from (CS.congr C (fun a ha_ => hF a (CSc_ne ha_ (by decide) (notP rfl)))).F.p]
      refine w_le hK rfl (by omega) (by omega) (fun h13 => ?_) (fun h13 => ?_)
      · exfalso; omega
      · have c1_ := b1_ i (by omega)
        have ec_ : R' ((c : Int) * 32 + (i : Int)) = R ((c : Int) * 32 + (i : Int)) := hw.2 _ (by omega)
        have mu_ := mul_sm (a := R' ((c : Int) * 32 + (i : Int))) (b := f) (by omega) (by omega) (by omega) (by omega)
        refine w_al hK rfl rfl ?_
        refine w_il hK rfl rfl ?_
        refine w_il hK rfl rfl ?_
        refine w_add hK rfl (by omega) (by omega) ?_
        refine w_al hK rfl rfl ?_
        refine w_il hK rfl rfl ?_
        refine w_il hK rfl rfl ?_
        refine w_add hK rfl (by omega) (by omega) ?_
        refine w_call [(1, 89), (0, (((c : Int) * 32) + (i : Int)))] hK rfl rfl rfl rfl (Or.inl rfl) (c_get89 (((c : Int) * 32) + (i : Int)) (by omega) (by omega)) ?_
        rintro _ Mq ⟨rfl, e_⟩
        subst Mq
        rw [show N7 89 (((c : Int) * 32) + (i : Int)) = (R' (((c : Int) * 32) + (i : Int))) from (congrFun hr (((c : Int) * 32) + (i : Int)))]
        refine ⟨(by show (0 : Nat) ≠ 9; decide), (?_ : Wp 198 _ 92 23 [(1, 88), (1, 89), (0, 32), (0, f), (0, ((c : Int) * 32)), (0, (i : Int))] [(0, (R' (((c : Int) * 32) + (i : Int)))), (0, (((c : Int) * 32) + (i : Int))), (1, 89)] N7 _)⟩
        refine w_il hK rfl rfl ?_
        refine w_mul hK rfl (by omega) (by omega) ?_
        refine w_al hK rfl rfl ?_
        refine w_getr (n := 0) (v := 1) hK rfl rfl (by decide) (by decide) rfl rfl rfl rfl ?_
        refine w_geti (n := 2) (m := 2) hK rfl rfl (by decide) (by decide) rfl rfl rfl rfl ?_
        rw [show N7 1 2 = (pp k : Int) from (CS.congr C (fun a ha_ => hF a (CSc_ne ha_ (by decide) (notP rfl)))).F.p]
        refine w_rem hK rfl (by omega) (by omega) (by omega) (by omega) ?_
        refine w_call [(1, 89), (0, (((c : Int) * 32) + (i : Int))), (0, (((R' (((c : Int) * 32) + (i : Int))) * f) % (pp k : Int)))] hK rfl rfl rfl rfl (Or.inl rfl) (c_set89 (((c : Int) * 32) + (i : Int)) (((R' (((c : Int) * 32) + (i : Int))) * f) % (pp k : Int)) (by omega) (by omega)) ?_
        rintro _ V51 ⟨rfl, u51⟩
        refine ⟨by decide, (?_ : Wp 198 _ 92 30 [(1, 88), (1, 89), (0, 32), (0, f), (0, ((c : Int) * 32)), (0, (i : Int))] [] V51 _)⟩
        refine w_inc [(1, 88), (1, 89), (0, 32), (0, f), (0, ((c : Int) * 32)), (0, ((i : Int) + 1))] hK rfl rfl rfl (by omega) (by omega) rfl ?_
        refine w_goto hK rfl ?_
        exact ih7 _ (by omega) (i + 1) _ V51 rfl (by omega) ((congrFun u51 89).trans (up_upr hr)) (hw.step (by rw [ec_])) (fun a n89_ => (((fun a (na_ : a ≠ 89) => (congrFun u51 a).trans (up_row na_)) a n89_).trans (hF a n89_)))
  exact lp7 _ 0 R M rfl (by omega) hR_ Wm.zero (fun a _ => rfl)
set_option maxRecDepth 100000 in
theorem c_take90 {d : Nat} {M : Mem} {k : Nat} {P : Int → Option (Pl k)} (C : CS M k P) {c r : Nat} {f : Int} (hc : c ≤ 16) (hrc : r < c) (hf : 1 ≤ f ∧ f < (pp k : Int)) (q4_ : M 88 4 = (c : Int)) {R : Int → Int} (hR_ : M 90 = R) (b1_ : ∀ l : Nat, l < 17 → 0 ≤ R ((c : Int) * 17 + l) ∧ R ((c : Int) * 17 + l) < (pp k : Int)) (b2_ : ∀ l : Nat, l < 17 → 0 ≤ R ((r : Int) * 17 + l) ∧ R ((r : Int) * 17 + l) < (pp k : Int)) : Ct 198 (d + 1) 90 [(1, 88), (1, 90), (0, 17), (0, (r : Int)), (0, f)] M (fun r_ M' => r_ = (4, 0) ∧ (∃ R' : Int → Int, M' 90 = R' ∧ Wm R R' ((c : Int) * 17) 17 (fun l => (R ((c : Int) * 17 + (l : Int)) + ((pp k : Int) - f) * R ((r : Int) * 17 + (l : Int))) % (pp k : Int))) ∧ (∀ a : Int, a ≠ 90 → M' a = M a)) := by
  have hK : cd 90 = k90 := rfl
  have m1_ := mm_I k
  have p1_ := pp_I k
  show Wp 198 _ 90 0 [(1, 88), (1, 90), (0, 17), (0, (r : Int)), (0, f), (3, 0), (3, 0), (3, 0)] [] M _
  refine w_al hK rfl rfl ?_
  refine w_geti (n := 4) (m := 4) hK rfl rfl (by decide) (by decide) rfl rfl rfl rfl ?_
  rw [show M 88 4 = (c : Int) from q4_]
  refine w_il hK rfl rfl ?_
  refine w_mul hK rfl (by omega) (by omega) ?_
  refine w_is [(1, 88), (1, 90), (0, 17), (0, (r : Int)), (0, f), (0, ((c : Int) * 17)), (3, 0), (3, 0)] hK rfl rfl rfl ?_
  refine w_ic hK rfl ?_
  refine w_is [(1, 88), (1, 90), (0, 17), (0, (r : Int)), (0, f), (0, ((c : Int) * 17)), (0, 0), (3, 0)] hK rfl rfl rfl ?_
  have lp7 : ∀ (n_ : Nat) (i : Nat) (R' : Int → Int) (w7 : AV) (N7 : Mem), 18 - i = n_ → (i ≤ 17) → (N7 90 = R') → (Wm R R' ((c : Int) * 17) i (fun l => (R ((c : Int) * 17 + (l : Int)) + ((pp k : Int) - f) * R ((r : Int) * 17 + (l : Int))) % (pp k : Int))) → ((∀ a : Int, a ≠ 90 → N7 a = M a)) → Wp 198 (d + 1) 90 7 [(1, 88), (1, 90), (0, 17), (0, (r : Int)), (0, f), (0, ((c : Int) * 17)), (0, (i : Int)), w7] [] N7 (fun r_ M' => r_ = (4, 0) ∧ (∃ R' : Int → Int, M' 90 = R' ∧ Wm R R' ((c : Int) * 17) 17 (fun l => (R ((c : Int) * 17 + (l : Int)) + ((pp k : Int) - f) * R ((r : Int) * 17 + (l : Int))) % (pp k : Int))) ∧ (∀ a : Int, a ≠ 90 → M' a = M a)) := by
    intro n_
    induction n_ using Nat.strongRecOn with
    | _ n_ ih7 =>
    intro i R' w7 N7 hm7 hi hr hw hF
    refine w_il hK rfl rfl ?_
    refine w_il hK rfl rfl ?_
    refine w_ge2 hK rfl (by omega) (by omega) (by omega) (by omega) (fun h9 => ?_) (fun h9 => ?_)
    · refine w_ret hK rfl rfl ?_
      have ei_ : i = 17 := by omega
      subst ei_
      exact ⟨rfl, ⟨R', hr, hw⟩, hF⟩
    · refine w_al hK rfl rfl ?_
      refine w_getr (n := 0) (v := 1) hK rfl rfl (by decide) (by decide) rfl rfl rfl rfl ?_
      refine w_geti (n := 2) (m := 2) hK rfl rfl (by decide) (by decide) rfl rfl rfl rfl ?_
      rw [show N7 1 2 = (pp k : Int) from (CS.congr C (fun a ha_ => hF a (CSc_ne ha_ (by decide) (notP rfl)))).F.p]
      refine w_le hK rfl (by omega) (by omega) (fun h13 => ?_) (fun h13 => ?_)
      · exfalso; omega
      · have c1_ := b1_ i (by omega)
        have c2_ := b2_ i (by omega)
        have er_ : R' ((r : Int) * 17 + (i : Int)) = R ((r : Int) * 17 + (i : Int)) := hw.2 _ (by omega)
        have ec_ : R' ((c : Int) * 17 + (i : Int)) = R ((c : Int) * 17 + (i : Int)) := hw.2 _ (by omega)
        have mu_ := mul_sm (a := (pp k : Int) - f) (b := R' ((r : Int) * 17 + (i : Int))) (by omega) (by omega) (by omega) (by omega)
        refine w_al hK rfl rfl ?_
        refine w_getr (n := 0) (v := 1) hK rfl rfl (by decide) (by decide) rfl rfl rfl rfl ?_
        refine w_geti (n := 2) (m := 2) hK rfl rfl (by decide) (by decide) rfl rfl rfl rfl ?_
        rw [show N7 1 2 = (pp k : Int) from (CS.congr C (fun a ha_ => hF a (CSc_ne ha_ (by decide) (notP rfl)))).F.p]
        refine w_il hK rfl rfl ?_
        refine w_sub hK rfl (by omega) (by omega) ?_
        refine w_al hK rfl rfl ?_
        refine w_il hK rfl rfl ?_
        refine w_il hK rfl rfl ?_
        refine w_mul hK rfl (by omega) (by omega) ?_
        refine w_il hK rfl rfl ?_
        refine w_add hK rfl (by omega) (by omega) ?_
        refine w_call [(1, 90), (0, (((r : Int) * 17) + (i : Int)))] hK rfl rfl rfl rfl (Or.inl rfl) (c_get90 (((r : Int) * 17) + (i : Int)) (by omega) (by omega)) ?_
        rintro _ Mq ⟨rfl, e_⟩
        subst Mq
        rw [show N7 90 (((r : Int) * 17) + (i : Int)) = (R' (((r : Int) * 17) + (i : Int))) from (congrFun hr (((r : Int) * 17) + (i : Int)))]
        refine ⟨(by show (0 : Nat) ≠ 9; decide), (?_ : Wp 198 _ 90 26 [(1, 88), (1, 90), (0, 17), (0, (r : Int)), (0, f), (0, ((c : Int) * 17)), (0, (i : Int)), w7] [(0, (R' (((r : Int) * 17) + (i : Int)))), (0, ((pp k : Int) - f))] N7 _)⟩
        refine w_mul hK rfl (by omega) (by omega) ?_
        refine w_is [(1, 88), (1, 90), (0, 17), (0, (r : Int)), (0, f), (0, ((c : Int) * 17)), (0, (i : Int)), (0, (((pp k : Int) - f) * (R' (((r : Int) * 17) + (i : Int)))))] hK rfl rfl rfl ?_
        refine w_al hK rfl rfl ?_
        refine w_il hK rfl rfl ?_
        refine w_il hK rfl rfl ?_
        refine w_add hK rfl (by omega) (by omega) ?_
        refine w_al hK rfl rfl ?_
        refine w_il hK rfl rfl ?_
        refine w_il hK rfl rfl ?_
        refine w_add hK rfl (by omega) (by omega) ?_
        refine w_call [(1, 90), (0, (((c : Int) * 17) + (i : Int)))] hK rfl rfl rfl rfl (Or.inl rfl) (c_get90 (((c : Int) * 17) + (i : Int)) (by omega) (by omega)) ?_
        rintro _ Mq ⟨rfl, e_⟩
        subst Mq
        rw [show N7 90 (((c : Int) * 17) + (i : Int)) = (R' (((c : Int) * 17) + (i : Int))) from (congrFun hr (((c : Int) * 17) + (i : Int)))]
        refine ⟨(by show (0 : Nat) ≠ 9; decide), (?_ : Wp 198 _ 90 37 [(1, 88), (1, 90), (0, 17), (0, (r : Int)), (0, f), (0, ((c : Int) * 17)), (0, (i : Int)), (0, (((pp k : Int) - f) * (R' (((r : Int) * 17) + (i : Int)))))] [(0, (R' (((c : Int) * 17) + (i : Int)))), (0, (((c : Int) * 17) + (i : Int))), (1, 90)] N7 _)⟩
        refine w_il hK rfl rfl ?_
        refine w_add hK rfl (by omega) (by omega) ?_
        refine w_al hK rfl rfl ?_
        refine w_getr (n := 0) (v := 1) hK rfl rfl (by decide) (by decide) rfl rfl rfl rfl ?_
        refine w_geti (n := 2) (m := 2) hK rfl rfl (by decide) (by decide) rfl rfl rfl rfl ?_
        rw [show N7 1 2 = (pp k : Int) from (CS.congr C (fun a ha_ => hF a (CSc_ne ha_ (by decide) (notP rfl)))).F.p]
        refine w_rem hK rfl (by omega) (by omega) (by omega) (by omega) ?_
        refine w_call [(1, 90), (0, (((c : Int) * 17) + (i : Int))), (0, (((R' (((c : Int) * 17) + (i : Int))) + (((pp k : Int) - f) * (R' (((r : Int) * 17) + (i : Int))))) % (pp k : Int)))] hK rfl rfl rfl rfl (Or.inl rfl) (c_set90 (((c : Int) * 17) + (i : Int)) (((R' (((c : Int) * 17) + (i : Int))) + (((pp k : Int) - f) * (R' (((r : Int) * 17) + (i : Int))))) % (pp k : Int)) (by omega) (by omega)) ?_
        rintro _ V52 ⟨rfl, u52⟩
        refine ⟨by decide, (?_ : Wp 198 _ 90 44 [(1, 88), (1, 90), (0, 17), (0, (r : Int)), (0, f), (0, ((c : Int) * 17)), (0, (i : Int)), (0, (((pp k : Int) - f) * (R' (((r : Int) * 17) + (i : Int)))))] [] V52 _)⟩
        refine w_inc [(1, 88), (1, 90), (0, 17), (0, (r : Int)), (0, f), (0, ((c : Int) * 17)), (0, ((i : Int) + 1)), (0, (((pp k : Int) - f) * (R' (((r : Int) * 17) + (i : Int)))))] hK rfl rfl rfl (by omega) (by omega) rfl ?_
        refine w_goto hK rfl ?_
        exact ih7 _ (by omega) (i + 1) _ (0, (((pp k : Int) - f) * (R' (((r : Int) * 17) + (i : Int))))) V52 rfl (by omega) ((congrFun u52 90).trans (up_upr hr)) (hw.step (by rw [ec_, er_])) (fun a n90_ => (((fun a (na_ : a ≠ 90) => (congrFun u52 a).trans (up_row na_)) a n90_).trans (hF a n90_)))
  exact lp7 _ 0 R (3, 0) M rfl (by omega) hR_ Wm.zero (fun a _ => rfl)
set_option maxRecDepth 100000 in
theorem c_mult90 {d : Nat} {M : Mem} {k : Nat} {P : Int → Option (Pl k)} (C : CS M k P) {c : Nat} {f : Int} (hc : c ≤ 16) (hf : 1 ≤ f ∧ f < (pp k : Int)) (q4_ : M 88 4 = (c : Int)) {R : Int → Int} (hR_ : M 90 = R) (b1_ : ∀ l : Nat, l < 17 → 0 ≤ R ((c : Int) * 17 + l) ∧ R ((c : Int) * 17 + l) < (pp k : Int)) : Ct 198 (d + 1) 92 [(1, 88), (1, 90), (0, 17), (0, f)] M (fun r_ M' => r_ = (4, 0) ∧ (∃ R' : Int → Int, M' 90 = R' ∧ Wm R R' ((c : Int) * 17) 17 (fun l => R ((c : Int) * 17 + (l : Int)) * f % (pp k : Int))) ∧ (∀ a : Int, a ≠ 90 → M' a = M a)) := by
  have hK : cd 92 = k92 := rfl
  have m1_ := mm_I k
  have p1_ := pp_I k
  show Wp 198 _ 92 0 [(1, 88), (1, 90), (0, 17), (0, f), (3, 0), (3, 0)] [] M _
  refine w_al hK rfl rfl ?_
  refine w_geti (n := 4) (m := 4) hK rfl rfl (by decide) (by decide) rfl rfl rfl rfl ?_
  rw [show M 88 4 = (c : Int) from q4_]
  refine w_il hK rfl rfl ?_
  refine w_mul hK rfl (by omega) (by omega) ?_
  refine w_is [(1, 88), (1, 90), (0, 17), (0, f), (0, ((c : Int) * 17)), (3, 0)] hK rfl rfl rfl ?_
  refine w_ic hK rfl ?_
  refine w_is [(1, 88), (1, 90), (0, 17), (0, f), (0, ((c : Int) * 17)), (0, 0)] hK rfl rfl rfl ?_
  have lp7 : ∀ (n_ : Nat) (i : Nat) (R' : Int → Int) (N7 : Mem), 18 - i = n_ → (i ≤ 17) → (N7 90 = R') → (Wm R R' ((c : Int) * 17) i (fun l => R ((c : Int) * 17 + (l : Int)) * f % (pp k : Int))) → ((∀ a : Int, a ≠ 90 → N7 a = M a)) → Wp 198 (d + 1) 92 7 [(1, 88), (1, 90), (0, 17), (0, f), (0, ((c : Int) * 17)), (0, (i : Int))] [] N7 (fun r_ M' => r_ = (4, 0) ∧ (∃ R' : Int → Int, M' 90 = R' ∧ Wm R R' ((c : Int) * 17) 17 (fun l => R ((c : Int) * 17 + (l : Int)) * f % (pp k : Int))) ∧ (∀ a : Int, a ≠ 90 → M' a = M a)) := by
    intro n_
    induction n_ using Nat.strongRecOn with
    | _ n_ ih7 =>
    intro i R' N7 hm7 hi hr hw hF
    refine w_il hK rfl rfl ?_
    refine w_il hK rfl rfl ?_
    refine w_ge2 hK rfl (by omega) (by omega) (by omega) (by omega) (fun h9 => ?_) (fun h9 => ?_)
    · refine w_ret hK rfl rfl ?_
      have ei_ : i = 17 := by omega
      subst ei_
      exact ⟨rfl, ⟨R', hr, hw⟩, hF⟩
    · refine w_al hK rfl rfl ?_
      refine w_getr (n := 0) (v := 1) hK rfl rfl (by decide) (by decide) rfl rfl rfl rfl ?_
      refine w_geti (n := 2) (m := 2) hK rfl rfl (by decide) (by decide) rfl rfl rfl rfl ?_
      rw [show N7 1 2 = (pp k : Int) from (CS.congr C (fun a ha_ => hF a (CSc_ne ha_ (by decide) (notP rfl)))).F.p]
      refine w_le hK rfl (by omega) (by omega) (fun h13 => ?_) (fun h13 => ?_)
      · exfalso; omega
      · have c1_ := b1_ i (by omega)
        have ec_ : R' ((c : Int) * 17 + (i : Int)) = R ((c : Int) * 17 + (i : Int)) := hw.2 _ (by omega)
        have mu_ := mul_sm (a := R' ((c : Int) * 17 + (i : Int))) (b := f) (by omega) (by omega) (by omega) (by omega)
        refine w_al hK rfl rfl ?_
        refine w_il hK rfl rfl ?_
        refine w_il hK rfl rfl ?_
        refine w_add hK rfl (by omega) (by omega) ?_
        refine w_al hK rfl rfl ?_
        refine w_il hK rfl rfl ?_
        refine w_il hK rfl rfl ?_
        refine w_add hK rfl (by omega) (by omega) ?_
        refine w_call [(1, 90), (0, (((c : Int) * 17) + (i : Int)))] hK rfl rfl rfl rfl (Or.inl rfl) (c_get90 (((c : Int) * 17) + (i : Int)) (by omega) (by omega)) ?_
        rintro _ Mq ⟨rfl, e_⟩
        subst Mq
        rw [show N7 90 (((c : Int) * 17) + (i : Int)) = (R' (((c : Int) * 17) + (i : Int))) from (congrFun hr (((c : Int) * 17) + (i : Int)))]
        refine ⟨(by show (0 : Nat) ≠ 9; decide), (?_ : Wp 198 _ 92 23 [(1, 88), (1, 90), (0, 17), (0, f), (0, ((c : Int) * 17)), (0, (i : Int))] [(0, (R' (((c : Int) * 17) + (i : Int)))), (0, (((c : Int) * 17) + (i : Int))), (1, 90)] N7 _)⟩
        refine w_il hK rfl rfl ?_
        refine w_mul hK rfl (by omega) (by omega) ?_
        refine w_al hK rfl rfl ?_
        refine w_getr (n := 0) (v := 1) hK rfl rfl (by decide) (by decide) rfl rfl rfl rfl ?_
        refine w_geti (n := 2) (m := 2) hK rfl rfl (by decide) (by decide) rfl rfl rfl rfl ?_
        rw [show N7 1 2 = (pp k : Int) from (CS.congr C (fun a ha_ => hF a (CSc_ne ha_ (by decide) (notP rfl)))).F.p]
        refine w_rem hK rfl (by omega) (by omega) (by omega) (by omega) ?_
        refine w_call [(1, 90), (0, (((c : Int) * 17) + (i : Int))), (0, (((R' (((c : Int) * 17) + (i : Int))) * f) % (pp k : Int)))] hK rfl rfl rfl rfl (Or.inl rfl) (c_set90 (((c : Int) * 17) + (i : Int)) (((R' (((c : Int) * 17) + (i : Int))) * f) % (pp k : Int)) (by omega) (by omega)) ?_
        rintro _ V53 ⟨rfl, u53⟩
        refine ⟨by decide, (?_ : Wp 198 _ 92 30 [(1, 88), (1, 90), (0, 17), (0, f), (0, ((c : Int) * 17)), (0, (i : Int))] [] V53 _)⟩
        refine w_inc [(1, 88), (1, 90), (0, 17), (0, f), (0, ((c : Int) * 17)), (0, ((i : Int) + 1))] hK rfl rfl rfl (by omega) (by omega) rfl ?_
        refine w_goto hK rfl ?_
        exact ih7 _ (by omega) (i + 1) _ V53 rfl (by omega) ((congrFun u53 90).trans (up_upr hr)) (hw.step (by rw [ec_])) (fun a n90_ => (((fun a (na_ : a ≠ 90) => (congrFun u53 a).trans (up_row na_)) a n90_).trans (hF a n90_)))
  exact lp7 _ 0 R M rfl (by omega) hR_ Wm.zero (fun a _ => rfl)
