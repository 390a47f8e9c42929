/-! contracts: THE TEXT -/
/-- the text: n signs; -1 stands outside -/
def TXs (M : Mem) (n : Int) (tx : Int → Int) : Prop := (M 140 3 = n ∧ 0 ≤ n ∧ n ≤ 40) ∧ (∀ i : Int, 0 ≤ i → i < n → M 141 i = tx i ∧ 0 ≤ tx i ∧ tx i ≤ 255) ∧ ∀ i : Int, i < 0 ∨ n ≤ i → tx i = -1
theorem TXs.I {M : Mem} {n : Int} {tx : Int → Int} (h : TXs M n tx) (i : Int) : -1 ≤ tx i ∧ tx i ≤ 255 := by
  by_cases q : 0 ≤ i ∧ i < n
  · have := h.2.1 i q.1 q.2
    omega
  · have := h.2.2 i (by omega)
    omega
set_option maxRecDepth 100000 in
theorem c_sgn {d : Nat} {M : Mem} {n : Int} {tx : Int → Int} (T : TXs M n tx) (i : Int) (h1 : -2147483648 ≤ i) (h2 : i ≤ 2147483647) : Ct 198 (d) 115 [(1, 140), (0, i)] M (fun r M' => r = (0, tx i) ∧ M' = M) := by
  have hK : cd 115 = k115 := rfl
  have t1_ := T.1.2
  show Wp 198 _ 115 0 [(1, 140), (0, i)] [] M _
  refine w_il hK rfl rfl ?_
  refine w_lt hK rfl (by omega) (by omega) (fun h1 => ?_) (fun h1 => ?_)
  · refine w_ic hK rfl ?_
    refine w_iret hK rfl rfl ?_
    exact ⟨by rw [T.2.2 i (by omega)], rfl⟩
  · refine w_il hK rfl rfl ?_
    refine w_al hK rfl rfl ?_
    refine w_geti (n := 3) (m := 3) hK rfl rfl (by decide) (by decide) rfl rfl rfl rfl ?_
    rw [show M 140 3 = n from T.1.1]
    refine w_ge2 hK rfl (by omega) (by omega) (by omega) (by omega) (fun h5 => ?_) (fun h5 => ?_)
    · refine w_ic hK rfl ?_
      refine w_iret hK rfl rfl ?_
      exact ⟨by rw [T.2.2 i (by omega)], rfl⟩
    · refine w_il hK rfl rfl ?_
      refine w_al hK rfl rfl ?_
      refine w_getr (n := 0) (v := 141) hK rfl rfl (by decide) (by decide) rfl rfl rfl rfl ?_
      refine w_len hK rfl rfl (by decide) (by decide) rfl ?_
      refine w_ge2 hK rfl (by omega) (by omega) (by omega) (by omega) (fun h10 => ?_) (fun h10 => ?_)
      · exfalso; omega
      · refine w_al hK rfl rfl ?_
        refine w_getr (n := 0) (v := 141) hK rfl rfl (by decide) (by decide) rfl rfl rfl rfl ?_
        refine w_il hK rfl rfl ?_
        refine w_ia hK rfl rfl (by decide) (by decide) (by omega) (by omega) ?_
        refine w_goto hK rfl ?_
        refine w_iret hK rfl rfl ?_
        exact ⟨by rw [(T.2.1 i (by omega) (by omega)).1], rfl⟩
/-- a digit stands there -/
def isd (c : Int) : Int := if 48 ≤ c ∧ c ≤ 57 then 1 else 0
theorem isd_I (c : Int) : (isd c = 1 ∧ 48 ≤ c ∧ c ≤ 57) ∨ (isd c = 0 ∧ (c < 48 ∨ 57 < c)) := by
  unfold isd
  split <;> omega
set_option maxRecDepth 100000 in
theorem c_isd {d : Nat} {M : Mem} {n : Int} {tx : Int → Int} (T : TXs M n tx) (i : Int) (h1 : -2147483648 ≤ i) (h2 : i ≤ 2147483647) : Ct 198 (d + 1) 114 [(1, 140), (0, i)] M (fun r M' => r = (0, isd (tx i)) ∧ M' = M) := by
  have hK : cd 114 = k114 := rfl
  have t1_ := T.1.2
  have t2_ := T.I i
  have t3_ := isd_I (tx i)
  show Wp 198 _ 114 0 [(1, 140), (0, i)] [] M _
  refine w_al hK rfl rfl ?_
  refine w_il hK rfl rfl ?_
  refine w_call [(1, 140), (0, i)] hK rfl rfl rfl rfl (Or.inr ⟨_, _, _, rfl, by decide, (by decide), rfl⟩) (c_sgn T i (by omega) (by omega)) ?_
  rintro _ Mq ⟨rfl, e_⟩
  subst Mq
  refine ⟨by show (0 : Nat) ≠ 9; decide, (?_ : Wp 198 _ 114 3 [(1, 140), (0, i)] [(0, (tx i))] M _)⟩
  refine w_ic hK rfl ?_
  refine w_lt2 hK rfl (by omega) (by omega) (by omega) (by omega) (fun h4 => ?_) (fun h4 => ?_)
  · refine w_ic hK rfl ?_
    refine w_zret hK rfl rfl (Or.inl rfl) ?_
    exact ⟨congrArg (Prod.mk 0) (by omega), rfl⟩
  · refine w_al hK rfl rfl ?_
    refine w_il hK rfl rfl ?_
    refine w_call [(1, 140), (0, i)] hK rfl rfl rfl rfl (Or.inr ⟨_, _, _, rfl, by decide, (by decide), rfl⟩) (c_sgn T i (by omega) (by omega)) ?_
    rintro _ Mq ⟨rfl, e_⟩
    subst Mq
    refine ⟨by show (0 : Nat) ≠ 9; decide, (?_ : Wp 198 _ 114 8 [(1, 140), (0, i)] [(0, (tx i))] M _)⟩
    refine w_ic hK rfl ?_
    refine w_gt2 hK rfl (by omega) (by omega) (by omega) (by omega) (fun h9 => ?_) (fun h9 => ?_)
    · refine w_ic hK rfl ?_
      refine w_zret hK rfl rfl (Or.inl rfl) ?_
      exact ⟨congrArg (Prod.mk 0) (by omega), rfl⟩
    · refine w_ic hK rfl ?_
      refine w_goto hK rfl ?_
      refine w_zret hK rfl rfl (Or.inr rfl) ?_
      exact ⟨congrArg (Prod.mk 0) (by omega), rfl⟩
