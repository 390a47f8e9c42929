/-! the reference: its cells, its numbers -/
def isR (p : Int) : Prop := (170 ≤ p ∧ p ≤ 197) ∧ S0[p.toNat]? = some (1, 48, [])
def isRs (p : Int) : Bool := decide (170 ≤ p ∧ p ≤ 197) && decide (S0[p.toNat]? = some (1, 48, []))
theorem isR_of {p : Int} (h : isRs p = true) : isR p := by
  simp only [isRs, Bool.and_eq_true, decide_eq_true_eq] at h
  exact h
theorem isR.nn {p : Int} (h : isR p) : 0 ≤ p := by have := h.1; omega
theorem isR.lb {p : Int} (h : isR p) : p.toNat < 198 := by have := h.1; omega
theorem notR {a : Int} (h : (match S0[a.toNat]? with | some (1, 48, []) => false | some _ => true | none => false) = true) : ∀ p : Int, isR p → a ≠ p := by
  intro p hp e
  subst e
  rw [hp.2] at h
  cases h
theorem npR {a : Int} (h : a < 161 ∨ 197 < a) : ∀ p : Int, isR p → a ≠ p := fun p hp => by have := hp.1; omega
section RW
variable {d t i pc len c' : Nat} {a b' : Int} {L st : List AV} {M : Mem} {Φ : AV → Mem → Prop} {K : List Rw} {p j v : Int}
theorem w_ria (hK : cd t = K) (hc : K[i]? = some (pc, len, 43, a, b', c')) (hp : isR p) (h0 : 0 ≤ j) (h1 : j < 48) (h : Wp 198 d t (i + 1) L ((0, M p j) :: st) M Φ) : Wp 198 d t i L ((0, j) :: (1, p) :: st) M Φ := w_ia hK hc hp.2 hp.nn hp.lb h0 (by omega) h
theorem w_riat (hK : cd t = K) (hc : K[i]? = some (pc, len, 44, a, b', c')) (hp : isR p) (h0 : 0 ≤ j) (h1 : j < 48) (h : Wp 198 d t (i + 1) L st (up M p j v) Φ) : Wp 198 d t i L ((0, v) :: (0, j) :: (1, p) :: st) M Φ := w_iat hK hc hp.2 hp.nn hp.lb h0 (by omega) h
end RW
/-- the reference's field -/
def RF (M : Mem) (k : Nat) : Prop := k < 4 ∧ (M 161 0 = (k : Int) ∧ M 161 1 = (qq k : Int) ∧ M 161 2 = (pp k : Int) ∧ M 161 3 = (mm k : Int)) ∧ (∀ a b : El k, M 162 (16 * (a.val : Int) + (b.val : Int)) = ((ad a b).val : Int)) ∧ (∀ a b : El k, M 163 (16 * (a.val : Int) + (b.val : Int)) = ((ml a b).val : Int)) ∧ (∀ a : El k, M 164 (a.val : Int) = ((ng a).val : Int)) ∧ (∀ a : El k, M 165 (a.val : Int) = ((iv a).val : Int)) ∧ ∀ a : El k, M 166 (a.val : Int) = ((sg 1 a).val : Int)
theorem RF.k0 {M : Mem} {k : Nat} (F : RF M k) : M 161 0 = (k : Int) := F.2.1.1
theorem RF.q {M : Mem} {k : Nat} (F : RF M k) : M 161 1 = (qq k : Int) := F.2.1.2.1
theorem RF.p {M : Mem} {k : Nat} (F : RF M k) : M 161 2 = (pp k : Int) := F.2.1.2.2.1
theorem RF.m {M : Mem} {k : Nat} (F : RF M k) : M 161 3 = (mm k : Int) := F.2.1.2.2.2
theorem RF.n {M : Mem} {k : Nat} (F : RF M k) (a : El k) : M 164 (a.val : Int) = ((ng a).val : Int) := F.2.2.2.2.1 a
theorem RF.v {M : Mem} {k : Nat} (F : RF M k) (a : El k) : M 165 (a.val : Int) = ((iv a).val : Int) := F.2.2.2.2.2.1 a
theorem RF.s {M : Mem} {k : Nat} (F : RF M k) (a : El k) : M 166 (a.val : Int) = ((sg 1 a).val : Int) := F.2.2.2.2.2.2 a
theorem RF.congr {M N : Mem} {k : Nat} (F : RF M k) (h : ∀ j : Int, 0 ≤ j → j ≤ 3 → N 161 j = M 161 j) (h2 : ∀ x : Int, 162 ≤ x → x ≤ 166 → N x = M x) : RF N k := by
  obtain ⟨h1, ⟨g0, g1, g2, g3⟩, t2, t3, t4, t5, t6⟩ := F
  refine ⟨h1, ⟨(h 0 (by decide) (by decide)).trans g0, (h 1 (by decide) (by decide)).trans g1, (h 2 (by decide) (by decide)).trans g2, (h 3 (by decide) (by decide)).trans g3⟩, ?_, ?_, ?_, ?_, ?_⟩
  · rw [h2 162 (by decide) (by decide)]; exact t2
  · rw [h2 163 (by decide) (by decide)]; exact t3
  · rw [h2 164 (by decide) (by decide)]; exact t4
  · rw [h2 165 (by decide) (by decide)]; exact t5
  · rw [h2 166 (by decide) (by decide)]; exact t6
def IsRw (M : Mem) {k : Nat} (p : Int) (f : Pl k) : Prop := (∀ j : Nat, j < 48 → M p (j : Int) = ((f j).val : Int)) ∧ Bd f 48
/-- the field, and the rows that are clean -/
def RS (M : Mem) (k : Nat) (R : Int → Option (Pl k)) : Prop := RF M k ∧ ∀ p : Int, isR p → ∀ f : Pl k, R p = some f → IsRw M p f
def isK {k : Nat} (R : Int → Option (Pl k)) (p : Int) (f : Pl k) : Prop := isR p ∧ R p = some f
theorem RS.F {M : Mem} {k : Nat} {R : Int → Option (Pl k)} (C : RS M k R) : RF M k := C.1
theorem RS.rw {M : Mem} {k : Nat} {R : Int → Option (Pl k)} (C : RS M k R) {p : Int} {f : Pl k} (hp : isK R p f) : IsRw M p f := C.2 p hp.1 f hp.2
theorem RS.at {M : Mem} {k : Nat} {R : Int → Option (Pl k)} (C : RS M k R) {p : Int} {f : Pl k} (hp : isK R p f) {j : Nat} (hj : j < 48) : M p (j : Int) = ((f j).val : Int) := (C.rw hp).1 j hj
theorem RS.bd {M : Mem} {k : Nat} {R : Int → Option (Pl k)} (C : RS M k R) {p : Int} {f : Pl k} (hp : isK R p f) : Bd f 48 := (C.rw hp).2
theorem RS.atI {M : Mem} {k : Nat} {R : Int → Option (Pl k)} (C : RS M k R) {p : Int} {f : Pl k} (hp : isK R p f) {j : Int} (h0 : 0 ≤ j) (h1 : j < 48) : M p j = ((cf f j).val : Int) := by
  have h := C.at hp (j := j.toNat) (by omega)
  rw [Int.toNat_of_nonneg h0] at h
  rw [h, cf_toNat h0]
theorem RS.dI {M : Mem} {k : Nat} {R : Int → Option (Pl k)} (C : RS M k R) {p : Int} {f : Pl k} (hp : isK R p f) : -1 ≤ dg f ∧ dg f ≤ 47 := ⟨dg_ge f, by have := dg_lt (C.bd hp) (by decide); omega⟩
theorem RS.cg {M N : Mem} {k : Nat} {R : Int → Option (Pl k)} (C : RS M k R) (h : ∀ j : Int, 0 ≤ j → j ≤ 3 → N 161 j = M 161 j) (h2 : ∀ a : Int, a ≠ 161 → ((162 ≤ a ∧ a ≤ 166) ∨ isR a) → N a = M a) : RS N k R :=
  ⟨C.1.congr h (fun x h3 h4 => h2 x (by omega) (Or.inl ⟨h3, h4⟩)), fun p hp f hf => by
    have h3 := C.2 p hp f hf
    unfold IsRw at h3 ⊢
    rw [h2 p (by have := hp.1; omega) (Or.inr hp)]
    exact h3⟩
theorem RS.congr {M N : Mem} {k : Nat} {R : Int → Option (Pl k)} (C : RS M k R) (h : ∀ a : Int, ((161 ≤ a ∧ a ≤ 166) ∨ isR a) → N a = M a) : RS N k R := C.cg (fun j _ _ => congrFun (h 161 (Or.inl (by decide))) j) (fun a _ h2 => h a (by rcases h2 with q | q; exact Or.inl (by omega); exact Or.inr q))
theorem RSc_ne {a c : Int} (h : (162 ≤ a ∧ a ≤ 166) ∨ isR a) (h1 : c < 162 ∨ 166 < c) (h2 : ∀ p : Int, isR p → c ≠ p) : a ≠ c := by
  rcases h with h | h
  · omega
  · exact fun e => h2 a h e.symm
theorem RSd_ne {a c : Int} (h : (161 ≤ a ∧ a ≤ 166) ∨ isR a) (h1 : c < 161 ∨ 166 < c) (h2 : ∀ p : Int, isR p → c ≠ p) : a ≠ c := by
  rcases h with h | h
  · omega
  · exact fun e => h2 a h e.symm
theorem RS.upc {M : Mem} {k : Nat} {R : Int → Option (Pl k)} (C : RS M k R) {c i v : Int} (h1 : c < 161 ∨ 166 < c) (h2 : ∀ p : Int, isR p → c ≠ p) : RS (up M c i v) k R := C.congr fun _ ha => up_row (RSd_ne ha h1 h2)
/-- a row is written, whatever stood there -/
theorem RS.wr {M N : Mem} {k : Nat} {R : Int → Option (Pl k)} (C : RS M k R) {p : Int} (hp : isR p) {g : Pl k} (h1 : ∀ j : Nat, j < 48 → N p (j : Int) = ((g j).val : Int)) (h2 : Bd g 48) (h3 : ∀ a : Int, a ≠ p → N a = M a) : RS N k (pu R p g) :=
  ⟨C.1.congr (fun j _ _ => congrFun (h3 161 (by have := hp.1; omega)) j) (fun x h4 h5 => h3 x (by have := hp.1; omega)), fun q hq f hf => by
    by_cases e : q = p
    · subst e
      rw [pu_eq] at hf
      cases hf
      exact ⟨h1, h2⟩
    · rw [pu_ne e] at hf
      have h6 := C.2 q hq f hf
      unfold IsRw at h6 ⊢
      rw [h3 q e]
      exact h6⟩
theorem RS.atz {M : Mem} {k : Nat} {R : Int → Option (Pl k)} (C : RS M k R) {p : Int} {f : Pl k} (hp : isK R p f) {j : Nat} {z : Int} (hz : z = (j : Int)) (hj : j < 48) : M p z = ((f j).val : Int) := hz ▸ C.at hp hj
theorem RS.up {M : Mem} {k : Nat} {R : Int → Option (Pl k)} (C : RS M k R) {p : Int} {f : Pl k} (hp : isK R p f) {j : Nat} {z : Int} (hz : z = (j : Int)) (hj : j < 48) {v : Int} {e : El k} (hv : v = (e.val : Int)) : RS (up M p z v) k (pu R p (up1 f j e)) := by
  subst hz
  exact C.wr hp.1 (fun i hi => by
    by_cases q : i = j
    · rw [q, up_eq, hv]; unfold up1; rw [if_pos rfl]
    · rw [up_ne2 (by omega), C.at hp hi]; unfold up1; rw [if_neg q]) (up1_bd' (C.bd hp) hj e) (fun a ha => up_row ha)
theorem lcmp_I {x y : Int} (x1 : -2147483648 ≤ x) (x2 : x ≤ 2147483647) (y1 : -2147483648 ≤ y) (y2 : y ≤ 2147483647) : (x < y ∧ (lg_cmp (i64 x) (i64 y)).toInt = -1) ∨ (x = y ∧ (lg_cmp (i64 x) (i64 y)).toInt = 0) ∨ (y < x ∧ (lg_cmp (i64 x) (i64 y)).toInt = 1) := by
  have ex : (i64 x).toInt = x := by unfold i64; exact Int64.toInt_ofInt_of_le (by omega) (by omega)
  have ey : (i64 y).toInt = y := by unfold i64; exact Int64.toInt_ofInt_of_le (by omega) (by omega)
  have h1 : (i64 x > i64 y) ↔ y < x := by
    show i64 y < i64 x ↔ _
    rw [Int64.lt_iff_toInt_lt, ex, ey]
  have h2 : (i64 x = i64 y) ↔ x = y := by rw [← Int64.toInt_inj, ex, ey]
  unfold lg_cmp
  by_cases c1 : y < x
  · rw [if_pos (h1.mpr c1)]; exact Or.inr (Or.inr ⟨c1, by decide⟩)
  · rw [if_neg (fun q => c1 (h1.mp q))]
    by_cases c2 : x = y
    · rw [if_pos (h2.mpr c2)]; exact Or.inr (Or.inl ⟨c2, by decide⟩)
    · rw [if_neg (fun q => c2 (h2.mp q))]; exact Or.inl ⟨by omega, by decide⟩
theorem unt_8 {k s : Nat} (h : s ≤ 8) : unt k s ≤ 6561 ∧ 1 ≤ unt k s := by
  have h1 : pp k ^ s ≤ pp k ^ 8 := Nat.pow_le_pow_right (by have := pp_ge k; omega) h
  have h2 : pp k ^ 8 ≤ 3 ^ 8 := Nat.pow_le_pow_left (pp_le k) 8
  have h3 : pp k ^ 0 ≤ pp k ^ s := Nat.pow_le_pow_right (by have := pp_ge k; omega) (Nat.zero_le s)
  rw [Nat.pow_zero] at h3
  exact ⟨by unfold unt; omega, by unfold unt; exact h3⟩
set_option maxRecDepth 100000 in
theorem r_in {d : Nat} {M : Mem} (x l h : Int) (x1_ : -2147483648 ≤ x) (x2_ : x ≤ 2147483647) (l1_ : -2147483648 ≤ l) (l2_ : l ≤ 2147483647) (h1_ : -2147483648 ≤ h) (h2_ : h ≤ 2147483647) : Ct 198 (d) 199 [(2, x), (2, l), (2, h)] M (fun r M' => r = (0, if l ≤ x ∧ x ≤ h then 1 else 0) ∧ M' = M) := by
  have hK : cd 199 = k199 := rfl
  show Wp 198 _ 199 0 [(2, x), (3, 0), (2, l), (3, 0), (2, h), (3, 0)] [] M _
  refine w_ll hK rfl rfl ?_
  refine w_ll hK rfl rfl ?_
  refine w_lcmp hK rfl ?_
  have lc_ := lcmp_I (x := x) (y := l) (by omega) (by omega) (by omega) (by omega)
  refine w_lt hK rfl (by omega) (by omega) (fun h3 => ?_) (fun h3 => ?_)
  · refine w_ic hK rfl ?_
    refine w_zret hK rfl rfl (Or.inl rfl) ?_
    exact ⟨by rw [if_neg (by omega)], rfl⟩
  · refine w_ll hK rfl rfl ?_
    refine w_ll hK rfl rfl ?_
    refine w_lcmp hK rfl ?_
    have lc2_ := lcmp_I (x := x) (y := h) (by omega) (by omega) (by omega) (by omega)
    refine w_gt hK rfl (by omega) (by omega) (fun h7 => ?_) (fun h7 => ?_)
    · refine w_ic hK rfl ?_
      refine w_zret hK rfl rfl (Or.inl rfl) ?_
      exact ⟨by rw [if_neg (by omega)], rfl⟩
    · refine w_ic hK rfl ?_
      refine w_goto hK rfl ?_
      refine w_zret hK rfl rfl (Or.inr rfl) ?_
      exact ⟨by rw [if_pos (by omega)], rfl⟩
set_option maxRecDepth 100000 in
theorem r_add {d : Nat} {M : Mem} {k : Nat} (F : RF M k) (x y : El k) : Ct 198 (d) 203 [(1, 161), (0, (x.val : Int)), (0, (y.val : Int))] M (fun r M' => r = (0, ((ad x y).val : Int)) ∧ M' = M) := by
  have hK : cd 203 = k203 := rfl
  have bx_ := el_I x
  have b2_ := el_I y
  show Wp 198 _ 203 0 [(1, 161), (0, (x.val : Int)), (0, (y.val : Int))] [] M _
  refine w_al hK rfl rfl ?_
  refine w_getr (n := 4) (v := 162) hK rfl rfl (by decide) (by decide) rfl rfl rfl rfl ?_
  refine w_ic hK rfl ?_
  refine w_il hK rfl rfl ?_
  refine w_mul hK rfl (by omega) (by omega) ?_
  refine w_il hK rfl rfl ?_
  refine w_add hK rfl (by omega) (by omega) ?_
  refine w_ia hK rfl rfl (by decide) (by decide) (by omega) (by omega) ?_
  refine w_iret hK rfl rfl ?_
  exact ⟨congrArg (Prod.mk 0) (F.2.2.1 x y), rfl⟩
set_option maxRecDepth 100000 in
theorem r_mul {d : Nat} {M : Mem} {k : Nat} (F : RF M k) (x y : El k) : Ct 198 (d) 195 [(1, 161), (0, (x.val : Int)), (0, (y.val : Int))] M (fun r M' => r = (0, ((ml x y).val : Int)) ∧ M' = M) := by
  have hK : cd 195 = k195 := rfl
  have bx_ := el_I x
  have b2_ := el_I y
  show Wp 198 _ 195 0 [(1, 161), (0, (x.val : Int)), (0, (y.val : Int))] [] M _
  refine w_al hK rfl rfl ?_
  refine w_getr (n := 5) (v := 163) hK rfl rfl (by decide) (by decide) rfl rfl rfl rfl ?_
  refine w_ic hK rfl ?_
  refine w_il hK rfl rfl ?_
  refine w_mul hK rfl (by omega) (by omega) ?_
  refine w_il hK rfl rfl ?_
  refine w_add hK rfl (by omega) (by omega) ?_
  refine w_ia hK rfl rfl (by decide) (by decide) (by omega) (by omega) ?_
  refine w_iret hK rfl rfl ?_
  exact ⟨congrArg (Prod.mk 0) (F.2.2.2.1 x y), rfl⟩
set_option maxRecDepth 100000 in
theorem r_mapd {d : Nat} {M : Mem} {k : Nat} (F : RF M k) (x : El k) (j : Int) (j1 : -128 ≤ j) (j2 : j ≤ 128) : Ct 198 (d) 207 [(1, 161), (0, (x.val : Int)), (0, j)] M (fun r M' => r = (0, ((sgI j x).val : Int)) ∧ M' = M) := by
  have hK : cd 207 = k207 := rfl
  have q1_ := qq_I k
  have p1_ := pp_I k
  have m1_ := mm_I k
  have fm_ := fm_ok (x := j) (y := (mm k : Int)) j1 j2 (by omega) (by omega)
  have hy0 : ¬ i32 (mm k : Int) = 0 := i32_ne0 (by omega) (by omega)
  have bd_ := tm_bd (x := j) (y := (mm k : Int)) (by omega) (by omega)
  have em_ := tm_em (x := j) (y := (mm k : Int)) (by omega)
  have w3_ := fm_.2.2
  have e0_ : 0 ≤ j % (mm k : Int) := Int.emod_nonneg _ (by omega)
  have e2_ : j % (mm k : Int) < (mm k : Int) := Int.emod_lt_of_pos _ (by omega)
  show Wp 198 _ 207 0 [(1, 161), (0, (x.val : Int)), (0, j), (3, 0), (3, 0), (3, 0)] [] M _
  refine w_il hK rfl rfl ?_
  refine w_is [(1, 161), (0, (x.val : Int)), (0, j), (0, (x.val : Int)), (3, 0), (3, 0)] hK rfl rfl rfl ?_
  refine w_il hK rfl rfl ?_
  refine w_al hK rfl rfl ?_
  refine w_geti (n := 3) (m := 3) hK rfl rfl (by decide) (by decide) rfl rfl rfl rfl ?_
  rw [show M 161 3 = (mm k : Int) from F.m]
  refine w_bin (w := i32 j - i32 j / i32 (mm k : Int) * i32 (mm k : Int)) hK rfl rfl (by simp [bin, hy0]) ?_
  rw [fm_.1]
  refine w_ge hK rfl (by omega) (by omega) (fun h6 => ?_) (fun h6 => ?_)
  · refine w_il hK rfl rfl ?_
    refine w_al hK rfl rfl ?_
    refine w_geti (n := 3) (m := 3) hK rfl rfl (by decide) (by decide) rfl rfl rfl rfl ?_
    rw [show M 161 3 = (mm k : Int) from F.m]
    refine w_bin (w := i32 j - i32 j / i32 (mm k : Int) * i32 (mm k : Int)) hK rfl rfl (by simp [bin, hy0]) ?_
    rw [fm_.1]
    refine w_is [(1, 161), (0, (x.val : Int)), (0, j), (0, (x.val : Int)), (0, (j.tmod (mm k : Int))), (3, 0)] hK rfl rfl rfl ?_
    refine w_ic hK rfl ?_
    refine w_is [(1, 161), (0, (x.val : Int)), (0, j), (0, (x.val : Int)), (0, (j.tmod (mm k : Int))), (0, 0)] hK rfl rfl rfl ?_
    have et_ : (j.tmod (mm k : Int)) = j % (mm k : Int) := by rw [em_]; split <;> omega
    rw [et_]
    have lp22 : ∀ (n_ : Nat) (i : Nat), 8 - i = n_ → ((i : Int) ≤ j % (mm k : Int)) → Wp 198 (d) 207 22 [(1, 161), (0, (x.val : Int)), (0, j), (0, ((sg i x).val : Int)), (0, (j % (mm k : Int))), (0, (i : Int))] [] M (fun r M' => r = (0, ((sgI j x).val : Int)) ∧ M' = M) := by
      intro n_
      induction n_ using Nat.strongRecOn with
      | _ n_ ih22 =>
      intro i  hm22 hi
      refine w_il hK rfl rfl ?_
      refine w_il hK rfl rfl ?_
      refine w_ge2 hK rfl (by omega) (by omega) (by omega) (by omega) (fun h24 => ?_) (fun h24 => ?_)
      · refine w_il hK rfl rfl ?_
        refine w_iret hK rfl rfl ?_
        refine ⟨?_, rfl⟩
        unfold sgI
        rw [show (j % (mm k : Int)).toNat = i by omega]
      · refine w_al hK rfl rfl ?_
        refine w_getr (n := 8) (v := 166) hK rfl rfl (by decide) (by decide) rfl rfl rfl rfl ?_
        have bs_ := el_I (sg i x)
        refine w_il hK rfl rfl ?_
        refine w_ia hK rfl rfl (by decide) (by decide) (by omega) (by omega) ?_
        rw [show M 166 ((sg i x).val : Int) = ((sg 1 (sg i x)).val : Int) from F.s (sg i x)]
        refine w_is [(1, 161), (0, (x.val : Int)), (0, j), (0, ((sg 1 (sg i x)).val : Int)), (0, (j % (mm k : Int))), (0, (i : Int))] hK rfl rfl rfl ?_
        refine w_inc [(1, 161), (0, (x.val : Int)), (0, j), (0, ((sg 1 (sg i x)).val : Int)), (0, (j % (mm k : Int))), (0, ((i : Int) + 1))] hK rfl rfl rfl (by omega) (by omega) rfl ?_
        refine w_goto hK rfl ?_
        have es_ : sg 1 (sg i x) = sg (i + 1) x := by rw [Nat.add_comm i 1, sg_sg]
        rw [es_]
        exact ih22 _ (by omega) (i + 1)  rfl (by omega)
    have q22 := lp22 _ 0  rfl (by omega)
    rw [sg_0] at q22
    exact q22
  · refine w_il hK rfl rfl ?_
    refine w_al hK rfl rfl ?_
    refine w_geti (n := 3) (m := 3) hK rfl rfl (by decide) (by decide) rfl rfl rfl rfl ?_
    rw [show M 161 3 = (mm k : Int) from F.m]
    refine w_bin (w := i32 j - i32 j / i32 (mm k : Int) * i32 (mm k : Int)) hK rfl rfl (by simp [bin, hy0]) ?_
    rw [fm_.1]
    refine w_al hK rfl rfl ?_
    refine w_geti (n := 3) (m := 3) hK rfl rfl (by decide) (by decide) rfl rfl rfl rfl ?_
    rw [show M 161 3 = (mm k : Int) from F.m]
    refine w_add hK rfl (by omega) (by omega) ?_
    refine w_goto hK rfl ?_
    refine w_is [(1, 161), (0, (x.val : Int)), (0, j), (0, (x.val : Int)), (0, ((j.tmod (mm k : Int)) + (mm k : Int))), (3, 0)] hK rfl rfl rfl ?_
    refine w_ic hK rfl ?_
    refine w_is [(1, 161), (0, (x.val : Int)), (0, j), (0, (x.val : Int)), (0, ((j.tmod (mm k : Int)) + (mm k : Int))), (0, 0)] hK rfl rfl rfl ?_
    have et_ : ((j.tmod (mm k : Int)) + (mm k : Int)) = j % (mm k : Int) := by rw [em_]; split <;> omega
    rw [et_]
    have lp22 : ∀ (n_ : Nat) (i : Nat), 8 - i = n_ → ((i : Int) ≤ j % (mm k : Int)) → Wp 198 (d) 207 22 [(1, 161), (0, (x.val : Int)), (0, j), (0, ((sg i x).val : Int)), (0, (j % (mm k : Int))), (0, (i : Int))] [] M (fun r M' => r = (0, ((sgI j x).val : Int)) ∧ M' = M) := by
      intro n_
      induction n_ using Nat.strongRecOn with
      | _ n_ ih22 =>
      intro i  hm22 hi
      refine w_il hK rfl rfl ?_
      refine w_il hK rfl rfl ?_
      refine w_ge2 hK rfl (by omega) (by omega) (by omega) (by omega) (fun h24 => ?_) (fun h24 => ?_)
      · refine w_il hK rfl rfl ?_
        refine w_iret hK rfl rfl ?_
        refine ⟨?_, rfl⟩
        unfold sgI
        rw [show (j % (mm k : Int)).toNat = i by omega]
      · refine w_al hK rfl rfl ?_
        refine w_getr (n := 8) (v := 166) hK rfl rfl (by decide) (by decide) rfl rfl rfl rfl ?_
        have bs_ := el_I (sg i x)
        refine w_il hK rfl rfl ?_
        refine w_ia hK rfl rfl (by decide) (by decide) (by omega) (by omega) ?_
        rw [show M 166 ((sg i x).val : Int) = ((sg 1 (sg i x)).val : Int) from F.s (sg i x)]
        refine w_is [(1, 161), (0, (x.val : Int)), (0, j), (0, ((sg 1 (sg i x)).val : Int)), (0, (j % (mm k : Int))), (0, (i : Int))] hK rfl rfl rfl ?_
        refine w_inc [(1, 161), (0, (x.val : Int)), (0, j), (0, ((sg 1 (sg i x)).val : Int)), (0, (j % (mm k : Int))), (0, ((i : Int) + 1))] hK rfl rfl rfl (by omega) (by omega) rfl ?_
        refine w_goto hK rfl ?_
        have es_ : sg 1 (sg i x) = sg (i + 1) x := by rw [Nat.add_comm i 1, sg_sg]
        rw [es_]
        exact ih22 _ (by omega) (i + 1)  rfl (by omega)
    have q22 := lp22 _ 0  rfl (by omega)
    rw [sg_0] at q22
    exact q22
theorem r_mapN {d : Nat} {M : Mem} {k : Nat} (F : RF M k) (x : El k) (j : Nat) (j2 : j ≤ 128) : Ct 198 d 207 [(1, 161), (0, (x.val : Int)), (0, (j : Int))] M (fun r M' => r = (0, ((sg j x).val : Int)) ∧ M' = M) := by
  rw [← sgI_nat j x]
  exact r_mapd F x (j : Int) (by omega) (by omega)
set_option maxRecDepth 100000 in
theorem r_isnum {d : Nat} {M : Mem} {k : Nat} (F : RF M k) (x : Int) (x1_ : -2147483648 ≤ x) (x2_ : x ≤ 2147483647) : Ct 198 (d + 1) 202 [(1, 161), (0, x)] M (fun r M' => r = (0, if 0 ≤ x ∧ x < (qq k : Int) then 1 else 0) ∧ M' = M) := by
  have hK : cd 202 = k202 := rfl
  have q1_ := qq_I k
  have p1_ := pp_I k
  have m1_ := mm_I k
  show Wp 198 _ 202 0 [(1, 161), (0, x)] [] M _
  refine w_il hK rfl rfl ?_
  refine w_i2l hK rfl (by omega) (by omega) ?_
  refine w_lc hK rfl ?_
  refine w_al hK rfl rfl ?_
  refine w_geti (n := 1) (m := 1) hK rfl rfl (by decide) (by decide) rfl rfl rfl rfl ?_
  rw [show M 161 1 = (qq k : Int) from F.q]
  refine w_ic hK rfl ?_
  refine w_sub hK rfl (by omega) (by omega) ?_
  refine w_i2l hK rfl (by omega) (by omega) ?_
  refine w_call [(2, x), (2, 0), (2, ((qq k : Int) - 1))] hK rfl rfl rfl rfl (Or.inl rfl) (r_in x 0 ((qq k : Int) - 1) (by omega) (by omega) (by omega) (by omega) (by omega) (by omega)) ?_
  rintro _ Mq ⟨rfl, e_⟩
  subst Mq
  refine ⟨by show (0 : Nat) ≠ 9; decide, (?_ : Wp 198 _ 202 9 [(1, 161), (0, x)] [(0, (if 0 ≤ x ∧ x ≤ ((qq k : Int) - 1) then 1 else 0))] M _)⟩
  have tI_ := ite01 (0 ≤ x ∧ x ≤ ((qq k : Int) - 1))
  refine w_zret hK rfl rfl ?z ?_
  · omega
  · exact ⟨by split <;> (first | (rw [if_pos (by omega)]) | (rw [if_neg (by omega)])), rfl⟩
set_option maxRecDepth 100000 in
theorem r_norm {d : Nat} {M : Mem} {k : Nat} (F : RF M k) (x : El k) (j : Nat) (j2 : j ≤ 64) : Ct 198 (d + 1) 209 [(1, 161), (0, (x.val : Int)), (0, (j : Int))] M (fun r M' => r = (0, ((chn x j).val : Int)) ∧ M' = M) := by
  have hK : cd 209 = k209 := rfl
  show Wp 198 _ 209 0 [(1, 161), (0, (x.val : Int)), (0, (j : Int)), (3, 0), (3, 0)] [] M _
  refine w_ic hK rfl ?_
  refine w_is [(1, 161), (0, (x.val : Int)), (0, (j : Int)), (0, 1), (3, 0)] hK rfl rfl rfl ?_
  refine w_ic hK rfl ?_
  refine w_is [(1, 161), (0, (x.val : Int)), (0, (j : Int)), (0, 1), (0, 0)] hK rfl rfl rfl ?_
  have lp4 : ∀ (n_ : Nat) (i : Nat), 65 - i = n_ → (i ≤ j) → Wp 198 (d + 1) 209 4 [(1, 161), (0, (x.val : Int)), (0, (j : Int)), (0, ((chn x i).val : Int)), (0, (i : Int))] [] M (fun r M' => r = (0, ((chn x j).val : Int)) ∧ M' = M) := by
    intro n_
    induction n_ using Nat.strongRecOn with
    | _ n_ ih4 =>
    intro i  hm4 hi
    refine w_il hK rfl rfl ?_
    refine w_il hK rfl rfl ?_
    refine w_ge2 hK rfl (by omega) (by omega) (by omega) (by omega) (fun h6 => ?_) (fun h6 => ?_)
    · refine w_il hK rfl rfl ?_
      refine w_iret hK rfl rfl ?_
      have e : i = j := by omega
      subst e
      exact ⟨rfl, rfl⟩
    · refine w_al hK rfl rfl ?_
      refine w_il hK rfl rfl ?_
      refine w_al hK rfl rfl ?_
      refine w_il hK rfl rfl ?_
      refine w_il hK rfl rfl ?_
      refine w_call [(1, 161), (0, (x.val : Int)), (0, (i : Int))] hK rfl rfl rfl rfl (Or.inr ⟨_, _, _, rfl, by decide, (by decide), rfl⟩) (r_mapN F x i (by omega)) ?_
      rintro _ Mq ⟨rfl, e_⟩
      subst Mq
      have bv_ := el_I (sg i x)
      refine ⟨by show (0 : Nat) ≠ 9; decide, (?_ : Wp 198 _ 209 13 [(1, 161), (0, (x.val : Int)), (0, (j : Int)), (0, ((chn x i).val : Int)), (0, (i : Int))] [(0, ((sg i x).val : Int)), (0, ((chn x i).val : Int)), (1, 161)] M _)⟩
      refine w_call [(1, 161), (0, ((chn x i).val : Int)), (0, ((sg i x).val : Int))] hK rfl rfl rfl rfl (Or.inr ⟨_, _, _, rfl, by decide, (by decide), rfl⟩) (r_mul F (chn x i) (sg i x)) ?_
      rintro _ Mq ⟨rfl, e_⟩
      subst Mq
      have bv_ := el_I (ml (chn x i) (sg i x))
      refine ⟨by show (0 : Nat) ≠ 9; decide, (?_ : Wp 198 _ 209 14 [(1, 161), (0, (x.val : Int)), (0, (j : Int)), (0, ((chn x i).val : Int)), (0, (i : Int))] [(0, ((ml (chn x i) (sg i x)).val : Int))] M _)⟩
      refine w_is [(1, 161), (0, (x.val : Int)), (0, (j : Int)), (0, ((ml (chn x i) (sg i x)).val : Int)), (0, (i : Int))] hK rfl rfl rfl ?_
      refine w_inc [(1, 161), (0, (x.val : Int)), (0, (j : Int)), (0, ((ml (chn x i) (sg i x)).val : Int)), (0, ((i : Int) + 1))] hK rfl rfl rfl (by omega) (by omega) rfl ?_
      refine w_goto hK rfl ?_
      exact ih4 _ (by omega) (i + 1)  rfl (by omega)
  have q4 := lp4 _ 0  rfl (by omega)
  rw [show ((chn x 0).val : Int) = 1 by simp [chn, e1_val]] at q4
  exact q4
set_option maxRecDepth 100000 in
theorem r_cjs {d : Nat} {M : Mem} {k : Nat} (F : RF M k) (x : El k) : Ct 198 (d + 1) 211 [(1, 161), (0, (x.val : Int))] M (fun r M' => r = (0, cjs x (qq k - 1)) ∧ M' = M) := by
  have hK : cd 211 = k211 := rfl
  have q1_ := qq_I k
  have p1_ := pp_I k
  have m1_ := mm_I k
  show Wp 198 _ 211 0 [(1, 161), (0, (x.val : Int)), (3, 0), (3, 0)] [] M _
  refine w_ic hK rfl ?_
  refine w_is [(1, 161), (0, (x.val : Int)), (0, 0), (3, 0)] hK rfl rfl rfl ?_
  refine w_ic hK rfl ?_
  refine w_is [(1, 161), (0, (x.val : Int)), (0, 0), (0, 1)] hK rfl rfl rfl ?_
  have lp4 : ∀ (n_ : Nat) (i : Nat), qq k - i = n_ → (i ≤ qq k - 1) → Wp 198 (d + 1) 211 4 [(1, 161), (0, (x.val : Int)), (0, cjs x i), (0, (((i + 1) : Nat) : Int))] [] M (fun r M' => r = (0, cjs x (qq k - 1)) ∧ M' = M) := by
    intro n_
    induction n_ using Nat.strongRecOn with
    | _ n_ ih4 =>
    intro i  hm4 hi
    refine w_il hK rfl rfl ?_
    refine w_al hK rfl rfl ?_
    refine w_geti (n := 1) (m := 1) hK rfl rfl (by decide) (by decide) rfl rfl rfl rfl ?_
    rw [show M 161 1 = (qq k : Int) from F.q]
    refine w_ge2 hK rfl (by omega) (by omega) (by omega) (by omega) (fun h7 => ?_) (fun h7 => ?_)
    · refine w_il hK rfl rfl ?_
      refine w_iret hK rfl rfl ?_
      have e : i = qq k - 1 := by omega
      subst e
      exact ⟨rfl, rfl⟩
    · refine w_il hK rfl rfl ?_
      refine w_ic hK rfl ?_
      refine w_al hK rfl rfl ?_
      refine w_al hK rfl rfl ?_
      refine w_al hK rfl rfl ?_
      refine w_il hK rfl rfl ?_
      refine w_ic hK rfl ?_
      refine w_call [(1, 161), (0, (((i + 1) : Nat) : Int)), (0, 1)] hK rfl rfl rfl rfl (Or.inr ⟨_, _, _, rfl, by decide, (by decide), rfl⟩) (Ct.cv (r_mapN F (el k (i + 1)) 1 (by omega)) (by simp only [(elN (k := k) (n := (i + 1)) (by omega))]; try rfl)) ?_
      rintro _ Mq ⟨rfl, e_⟩
      subst Mq
      have bv_ := el_I (sg 1 (el k (i + 1)))
      refine ⟨by show (0 : Nat) ≠ 9; decide, (?_ : Wp 198 _ 211 16 [(1, 161), (0, (x.val : Int)), (0, cjs x i), (0, (((i + 1) : Nat) : Int))] [(0, ((sg 1 (el k (i + 1))).val : Int)), (1, 161), (1, 161), (0, 1), (0, cjs x i)] M _)⟩
      refine w_il hK rfl rfl ?_
      refine w_call [(1, 161), (0, ((sg 1 (el k (i + 1))).val : Int)), (0, (x.val : Int))] hK rfl rfl rfl rfl (Or.inr ⟨_, _, _, rfl, by decide, (by decide), rfl⟩) (r_mul F (sg 1 (el k (i + 1))) x) ?_
      rintro _ Mq ⟨rfl, e_⟩
      subst Mq
      have bv_ := el_I (ml (sg 1 (el k (i + 1))) x)
      refine ⟨by show (0 : Nat) ≠ 9; decide, (?_ : Wp 198 _ 211 18 [(1, 161), (0, (x.val : Int)), (0, cjs x i), (0, (((i + 1) : Nat) : Int))] [(0, ((ml (sg 1 (el k (i + 1))) x).val : Int)), (1, 161), (0, 1), (0, cjs x i)] M _)⟩
      refine w_al hK rfl rfl ?_
      refine w_getr (n := 7) (v := 165) hK rfl rfl (by decide) (by decide) rfl rfl rfl rfl ?_
      refine w_il hK rfl rfl ?_
      have bs_ := el_I (el k (i + 1))
      refine w_ia hK rfl rfl (by decide) (by decide) (by omega) (by omega) ?_
      rw [show M 165 (((i + 1) : Nat) : Int) = ((iv (el k (i + 1))).val : Int) from (congrArg (M 165) (elN (k := k) (n := (i + 1)) (by omega)).symm).trans (F.v (el k (i + 1)))]
      refine w_call [(1, 161), (0, ((ml (sg 1 (el k (i + 1))) x).val : Int)), (0, ((iv (el k (i + 1))).val : Int))] hK rfl rfl rfl rfl (Or.inr ⟨_, _, _, rfl, by decide, (by decide), rfl⟩) (r_mul F (ml (sg 1 (el k (i + 1))) x) (iv (el k (i + 1)))) ?_
      rintro _ Mq ⟨rfl, e_⟩
      subst Mq
      have bv_ := el_I (ml (ml (sg 1 (el k (i + 1))) x) (iv (el k (i + 1))))
      refine ⟨by show (0 : Nat) ≠ 9; decide, (?_ : Wp 198 _ 211 23 [(1, 161), (0, (x.val : Int)), (0, cjs x i), (0, (((i + 1) : Nat) : Int))] [(0, ((ml (ml (sg 1 (el k (i + 1))) x) (iv (el k (i + 1)))).val : Int)), (0, 1), (0, cjs x i)] M _)⟩
      refine w_bin (w := i32 1 <<< (i32 ((ml (ml (sg 1 (el k (i + 1))) x) (iv (el k (i + 1)))).val : Int) &&& 31)) hK rfl rfl rfl ?_
      refine w_bin (w := i32 (cjs x i) ||| i32 ((i32 1 <<< (i32 ((ml (ml (sg 1 (el k (i + 1))) x) (iv (el k (i + 1)))).val : Int) &&& 31)).toInt)) hK rfl rfl rfl ?_
      refine w_is [(1, 161), (0, (x.val : Int)), (0, (i32 (cjs x i) ||| i32 ((i32 1 <<< (i32 ((ml (ml (sg 1 (el k (i + 1))) x) (iv (el k (i + 1)))).val : Int) &&& 31)).toInt)).toInt), (0, (((i + 1) : Nat) : Int))] hK rfl rfl rfl ?_
      refine w_inc [(1, 161), (0, (x.val : Int)), (0, (i32 (cjs x i) ||| i32 ((i32 1 <<< (i32 ((ml (ml (sg 1 (el k (i + 1))) x) (iv (el k (i + 1)))).val : Int) &&& 31)).toInt)).toInt), (0, ((((i + 1) : Nat) : Int) + 1))] hK rfl rfl rfl (by omega) (by omega) rfl ?_
      refine w_goto hK rfl ?_
      exact ih4 _ (by omega) (i + 1)  rfl (by omega)
  exact lp4 _ 0  rfl (by omega)
set_option maxRecDepth 100000 in
theorem r_place {d : Nat} {M : Mem} (x : Int) (x1_ : -2147483648 ≤ x) (x2_ : x ≤ 2147483647) : Ct 198 (d + 1) 220 [(0, x)] M (fun r M' => r = (0, if 0 ≤ x ∧ x < 6 then 1 else 0) ∧ M' = M) := by
  have hK : cd 220 = k220 := rfl
  show Wp 198 _ 220 0 [(0, x)] [] M _
  refine w_il hK rfl rfl ?_
  refine w_i2l hK rfl (by omega) (by omega) ?_
  refine w_lc hK rfl ?_
  refine w_lcw hK rfl ?_
  refine w_call [(2, x), (2, 0), (2, 5)] hK rfl rfl rfl rfl (Or.inl rfl) (r_in x 0 5 (by omega) (by omega) (by omega) (by omega) (by omega) (by omega)) ?_
  rintro _ Mq ⟨rfl, e_⟩
  subst Mq
  refine ⟨by show (0 : Nat) ≠ 9; decide, (?_ : Wp 198 _ 220 5 [(0, x)] [(0, (if 0 ≤ x ∧ x ≤ 5 then 1 else 0))] M _)⟩
  have tI_ := ite01 (0 ≤ x ∧ x ≤ 5)
  refine w_zret hK rfl rfl ?z ?_
  · omega
  · exact ⟨by split <;> (first | (rw [if_pos (by omega)]) | (rw [if_neg (by omega)])), rfl⟩
set_option maxRecDepth 100000 in
theorem r_side {d : Nat} {M : Mem} (x : Int) (x1_ : -2147483648 ≤ x) (x2_ : x ≤ 2147483647) : Ct 198 (d) 237 [(0, x)] M (fun r M' => r = (0, if x = 0 ∨ x = 1 then 1 else 0) ∧ M' = M) := by
  have hK : cd 237 = k237 := rfl
  show Wp 198 _ 237 0 [(0, x)] [] M _
  refine w_il hK rfl rfl ?_
  refine w_eq hK rfl (by omega) (by omega) (fun h1 => ?_) (fun h1 => ?_)
  · refine w_ic hK rfl ?_
    refine w_goto hK rfl ?_
    refine w_zret hK rfl rfl (Or.inr rfl) ?_
    exact ⟨by rw [if_pos (by omega)], rfl⟩
  · refine w_il hK rfl rfl ?_
    refine w_ic hK rfl ?_
    refine w_ne2 hK rfl (by omega) (by omega) (by omega) (by omega) (fun h4 => ?_) (fun h4 => ?_)
    · refine w_ic hK rfl ?_
      refine w_zret hK rfl rfl (Or.inl rfl) ?_
      exact ⟨by rw [if_neg (by omega)], rfl⟩
    · refine w_ic hK rfl ?_
      refine w_goto hK rfl ?_
      refine w_zret hK rfl rfl (Or.inr rfl) ?_
      exact ⟨by rw [if_pos (by omega)], rfl⟩
set_option maxRecDepth 100000 in
theorem r_pow {d : Nat} {M : Mem} {k : Nat} (F : RF M k) (j : Nat) (j2 : j ≤ 8) : Ct 198 (d) 190 [(1, 161), (0, (j : Int))] M (fun r M' => r = (0, (unt k j : Int)) ∧ M' = M) := by
  have hK : cd 190 = k190 := rfl
  have q1_ := qq_I k
  have p1_ := pp_I k
  have m1_ := mm_I k
  show Wp 198 _ 190 0 [(1, 161), (0, (j : Int)), (3, 0), (3, 0)] [] M _
  refine w_ic hK rfl ?_
  refine w_is [(1, 161), (0, (j : Int)), (0, 1), (3, 0)] hK rfl rfl rfl ?_
  refine w_ic hK rfl ?_
  refine w_is [(1, 161), (0, (j : Int)), (0, 1), (0, 0)] hK rfl rfl rfl ?_
  have lp4 : ∀ (n_ : Nat) (i : Nat), 9 - i = n_ → (i ≤ j) → Wp 198 (d) 190 4 [(1, 161), (0, (j : Int)), (0, (unt k i : Int)), (0, (i : Int))] [] M (fun r M' => r = (0, (unt k j : Int)) ∧ M' = M) := by
    intro n_
    induction n_ using Nat.strongRecOn with
    | _ n_ ih4 =>
    intro i  hm4 hi
    have u1_ := unt_8 (k := k) (s := i) (by omega)
    have u2_ := unt_mul k i
    have u3_ : i < j → unt k (i + 1) ≤ 6561 := fun q => (unt_8 (by omega)).1
    refine w_il hK rfl rfl ?_
    refine w_il hK rfl rfl ?_
    refine w_ge2 hK rfl (by omega) (by omega) (by omega) (by omega) (fun h6 => ?_) (fun h6 => ?_)
    · refine w_il hK rfl rfl ?_
      refine w_iret hK rfl rfl ?_
      have e : i = j := by omega
      subst e
      exact ⟨rfl, rfl⟩
    · refine w_il hK rfl rfl ?_
      refine w_al hK rfl rfl ?_
      refine w_geti (n := 2) (m := 2) hK rfl rfl (by decide) (by decide) rfl rfl rfl rfl ?_
      rw [show M 161 2 = (pp k : Int) from F.p]
      have u4_ := u3_ (by omega)
      refine w_mul hK rfl (by omega) (by omega) ?_
      refine w_is [(1, 161), (0, (j : Int)), (0, ((unt k i : Int) * (pp k : Int))), (0, (i : Int))] hK rfl rfl rfl ?_
      refine w_inc [(1, 161), (0, (j : Int)), (0, ((unt k i : Int) * (pp k : Int))), (0, ((i : Int) + 1))] hK rfl rfl rfl (by omega) (by omega) rfl ?_
      refine w_goto hK rfl ?_
      have q4 := ih4 _ (by omega) (i + 1)  rfl (by omega)
      rw [← unt_mul k i] at q4
      exact q4
  have q4 := lp4 _ 0  rfl (by omega)
  rw [show ((unt k 0 : Nat) : Int) = 1 from by unfold unt; rw [Nat.pow_zero]; rfl] at q4
  exact q4
