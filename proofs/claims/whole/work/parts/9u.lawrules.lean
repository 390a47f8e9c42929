/-! the law itself: rules with counters */ -/
/-- from here the law answers true -/
def WL (d i : Nat) (L st : List AV) (M : Mem) (cc ss : Nat) : Prop :=
  ∀ (S : List Cel) (g : Bool), LAY 199 S → ∃ (n : Nat) (h' : Hp), run n d 307 (i, L, st, (S, M, g, cc, ss)) = some ((0, 1), h')
section WLS
variable {d i pc len c' cc ss : Nat} {a b' : Int} {L L' st : List AV} {M : Mem} {K : List Rw} {x y p j v : Int}
theorem wl_stp {op i' : Nat} {st' : List AV} {M' : Mem} (hK : cd 307 = K) (hc : K[i]? = some (pc, len, op, a, b', c')) (ho : isEnd op = false ∧ op ≠ 54 ∧ op ≠ 61)
    (hs : ∀ S g, LAY 199 S → stp d 307 op a b' c' i L st (S, M, g, cc, ss) = some (i', L', st', (S, M', g, cc, ss))) (h : WL d i' L' st' M' cc ss) : WL d i L st M cc ss := by
  intro S g hS
  obtain ⟨n, h', h1⟩ := h S g hS
  refine ⟨n + 1, h', ?_⟩
  unfold run
  rw [hK, hc]
  dsimp only
  rw [if_neg (by rw [ho.1]; decide), if_neg ho.2.1, if_neg ho.2.2, hs S g hS]
  exact h1
theorem wl_il (hK : cd 307 = K) (hc : K[i]? = some (pc, len, 0, a, b', c')) (hv : L[a.toNat]? = some (0, x)) (h : WL d (i + 1) L ((0, x) :: st) M cc ss) : WL d i L st M cc ss :=
  wl_stp hK hc ⟨rfl, by decide, by decide⟩ (fun S g _ => by simp [stp, oLd, hv]) h
theorem wl_al (hK : cd 307 = K) (hc : K[i]? = some (pc, len, 1, a, b', c')) (hv : L[a.toNat]? = some (1, x)) (h : WL d (i + 1) L ((1, x) :: st) M cc ss) : WL d i L st M cc ss :=
  wl_stp hK hc ⟨rfl, by decide, by decide⟩ (fun S g _ => by simp [stp, oLd, hv]) h
theorem wl_ll (hK : cd 307 = K) (hc : K[i]? = some (pc, len, 2, a, b', c')) (hv : L[a.toNat]? = some (2, x)) (h : WL d (i + 1) L ((2, x) :: st) M cc ss) : WL d i L st M cc ss :=
  wl_stp hK hc ⟨rfl, by decide, by decide⟩ (fun S g _ => by simp [stp, oLd, hv]) h
theorem wl_is (L' : List AV) (hK : cd 307 = K) (hc : K[i]? = some (pc, len, 3, a, b', c')) (hv : (decide (a.toNat < L.length) && (decide (a.toNat = 0) || decide ((L.getD (a.toNat - 1) (3, 0)).1 ≠ 2))) = true) (hL : L.set a.toNat (0, x) = L') (h : WL d (i + 1) L' st M cc ss) : WL d i L ((0, x) :: st) M cc ss := by
  simp only [Bool.and_eq_true, Bool.or_eq_true, decide_eq_true_eq] at hv
  exact wl_stp hK hc ⟨rfl, by decide, by decide⟩ (fun S g _ => by
    show oSt (_ - 3) a.toNat i L ((_, x) :: st) (S, M, g, cc, ss) = _
    unfold oSt
    dsimp only
    rw [if_pos ⟨rfl, hv⟩, hL]) h
theorem wl_as (L' : List AV) (hK : cd 307 = K) (hc : K[i]? = some (pc, len, 4, a, b', c')) (hv : (decide (a.toNat < L.length) && (decide (a.toNat = 0) || decide ((L.getD (a.toNat - 1) (3, 0)).1 ≠ 2))) = true) (hL : L.set a.toNat (1, x) = L') (h : WL d (i + 1) L' st M cc ss) : WL d i L ((1, x) :: st) M cc ss := by
  simp only [Bool.and_eq_true, Bool.or_eq_true, decide_eq_true_eq] at hv
  exact wl_stp hK hc ⟨rfl, by decide, by decide⟩ (fun S g _ => by
    show oSt (_ - 3) a.toNat i L ((_, x) :: st) (S, M, g, cc, ss) = _
    unfold oSt
    dsimp only
    rw [if_pos ⟨rfl, hv⟩, hL]) h
theorem wl_inc (L' : List AV) (hK : cd 307 = K) (hc : K[i]? = some (pc, len, 6, a, b', c')) (hv : L[a.toNat]? = some (0, x)) (hp : (decide (a.toNat = 0) || decide ((L.getD (a.toNat - 1) (3, 0)).1 ≠ 2)) = true) (h1 : -2147483648 ≤ x + b') (h2 : x + b' ≤ 2147483647) (hL : L.set a.toNat (0, x + b') = L') (h : WL d (i + 1) L' st M cc ss) : WL d i L st M cc ss := by
  simp only [Bool.or_eq_true, decide_eq_true_eq] at hp
  exact wl_stp hK hc ⟨rfl, by decide, by decide⟩ (fun S g _ => by
    show oInc a.toNat b' i L st (S, M, g, cc, ss) = _
    unfold oInc
    rw [hv]
    show (if a.toNat = 0 ∨ (L.getD (a.toNat - 1) (3, 0)).1 ≠ 2 then some (i + 1, L.set a.toNat (0, (i32 x + i32 b').toInt), st, S, M, g, cc, ss) else none) = _
    rw [if_pos hp, i32_add h1 h2, hL]) h
theorem wl_ic (hK : cd 307 = K) (hc : K[i]? = some (pc, len, 7, a, b', c')) (h : WL d (i + 1) L ((0, a) :: st) M cc ss) : WL d i L st M cc ss :=
  wl_stp hK hc ⟨rfl, by decide, by decide⟩ (fun S g _ => by simp [stp]) h
theorem wl_lc (hK : cd 307 = K) (hc : K[i]? = some (pc, len, 8, a, b', c')) (h : WL d (i + 1) L ((2, a) :: st) M cc ss) : WL d i L st M cc ss :=
  wl_stp hK hc ⟨rfl, by decide, by decide⟩ (fun S g _ => by simp [stp]) h
theorem wl_add (hK : cd 307 = K) (hc : K[i]? = some (pc, len, 10, a, b', c')) (h1 : -2147483648 ≤ x + y) (h2 : x + y ≤ 2147483647) (h : WL d (i + 1) L ((0, x + y) :: st) M cc ss) : WL d i L ((0, y) :: (0, x) :: st) M cc ss :=
  wl_stp hK hc ⟨rfl, by decide, by decide⟩ (fun S g _ => by simp [stp, oBin, bin, i32_add h1 h2]) h
theorem wl_sub (hK : cd 307 = K) (hc : K[i]? = some (pc, len, 11, a, b', c')) (h1 : -2147483648 ≤ x - y) (h2 : x - y ≤ 2147483647) (h : WL d (i + 1) L ((0, x - y) :: st) M cc ss) : WL d i L ((0, y) :: (0, x) :: st) M cc ss :=
  wl_stp hK hc ⟨rfl, by decide, by decide⟩ (fun S g _ => by simp [stp, oBin, bin, i32_sub h1 h2]) h
theorem wl_bin {op : Nat} {w : Int32} (hK : cd 307 = K) (hc : K[i]? = some (pc, len, op, a, b', c')) (ho : (decide (10 ≤ op) && decide (op ≤ 21) && decide (op ≠ 15)) = true) (hw : bin op (i32 x) (i32 y) = some w) (h : WL d (i + 1) L ((0, w.toInt) :: st) M cc ss) : WL d i L ((0, y) :: (0, x) :: st) M cc ss := by
  simp only [Bool.and_eq_true, decide_eq_true_eq] at ho
  refine wl_stp hK hc ⟨by simp [isEnd]; omega, by omega, by omega⟩ (fun S g _ => ?_) h
  simp only [stp, oBin, hw]
  rw [if_neg (by omega), if_neg (by omega), if_neg (by omega), if_neg (by omega), if_neg (by omega), if_neg (by omega), if_neg (by omega), if_neg (by omega), if_pos (by omega)]
theorem wl_i2l (hK : cd 307 = K) (hc : K[i]? = some (pc, len, 22, a, b', c')) (h1 : -2147483648 ≤ x) (h2 : x ≤ 2147483647) (h : WL d (i + 1) L ((2, x) :: st) M cc ss) : WL d i L ((0, x) :: st) M cc ss := by
  refine wl_stp hK hc ⟨rfl, by decide, by decide⟩ (fun S g _ => by simp [stp, oUn, i32_in h1 h2]) h
theorem wl_lcmp (hK : cd 307 = K) (hc : K[i]? = some (pc, len, 24, a, b', c')) (h : WL d (i + 1) L ((0, (lg_cmp (i64 x) (i64 y)).toInt) :: st) M cc ss) : WL d i L ((2, y) :: (2, x) :: st) M cc ss :=
  wl_stp hK hc ⟨rfl, by decide, by decide⟩ (fun S g _ => by simp [stp, oLcmp]) h
theorem wl_if2 (hK : cd 307 = K) (hc : K[i]? = some (pc, len, 31, a, b', c')) (hx1 : -2147483648 ≤ x) (hx2 : x ≤ 2147483647) (hy1 : -2147483648 ≤ y) (hy2 : y ≤ 2147483647) (h1 : cI a x y → WL d c' L st M cc ss) (h2 : ¬ cI a x y → WL d (i + 1) L st M cc ss) : WL d i L ((0, y) :: (0, x) :: st) M cc ss := by
  by_cases h : cI a x y
  · exact wl_stp hK hc ⟨rfl, by decide, by decide⟩ (fun S g _ => by simp [stp, oIf2, (cnd_I hx1 hx2 hy1 hy2).mpr h]) (h1 h)
  · exact wl_stp hK hc ⟨rfl, by decide, by decide⟩ (fun S g _ => by
      have : ¬ cnd a (i32 x) (i32 y) = true := fun q => h ((cnd_I hx1 hx2 hy1 hy2).mp q)
      simp [stp, oIf2, this]) (h2 h)
theorem wl_if (hK : cd 307 = K) (hc : K[i]? = some (pc, len, 30, a, b', c')) (hx1 : -2147483648 ≤ x) (hx2 : x ≤ 2147483647) (h1 : cI a x 0 → WL d c' L st M cc ss) (h2 : ¬ cI a x 0 → WL d (i + 1) L st M cc ss) : WL d i L ((0, x) :: st) M cc ss := by
  have e0 : i32 0 = 0 := rfl
  by_cases h : cI a x 0
  · exact wl_stp hK hc ⟨rfl, by decide, by decide⟩ (fun S g _ => by
      have := (cnd_I (a := a) hx1 hx2 (by decide) (by decide)).mpr h
      rw [e0] at this
      simp [stp, oIf, this]) (h1 h)
  · exact wl_stp hK hc ⟨rfl, by decide, by decide⟩ (fun S g _ => by
      have : ¬ cnd a (i32 x) 0 = true := fun q => h ((cnd_I (a := a) hx1 hx2 (by decide) (by decide)).mp (by rw [e0]; exact q))
      simp [stp, oIf, this]) (h2 h)
theorem wl_eq2 (hK : cd 307 = K) (hc : K[i]? = some (pc, len, 31, 0, b', c')) (hx1 : -2147483648 ≤ x) (hx2 : x ≤ 2147483647) (hy1 : -2147483648 ≤ y) (hy2 : y ≤ 2147483647) (h1 : x = y → WL d c' L st M cc ss) (h2 : x ≠ y → WL d (i + 1) L st M cc ss) : WL d i L ((0, y) :: (0, x) :: st) M cc ss := wl_if2 hK hc hx1 hx2 hy1 hy2 (fun q => h1 q) (fun q => h2 q)
theorem wl_ne2 (hK : cd 307 = K) (hc : K[i]? = some (pc, len, 31, 1, b', c')) (hx1 : -2147483648 ≤ x) (hx2 : x ≤ 2147483647) (hy1 : -2147483648 ≤ y) (hy2 : y ≤ 2147483647) (h1 : x ≠ y → WL d c' L st M cc ss) (h2 : x = y → WL d (i + 1) L st M cc ss) : WL d i L ((0, y) :: (0, x) :: st) M cc ss := wl_if2 hK hc hx1 hx2 hy1 hy2 (fun q => h1 q) (fun q => h2 (Classical.not_not.mp q))
theorem wl_lt2 (hK : cd 307 = K) (hc : K[i]? = some (pc, len, 31, 2, b', c')) (hx1 : -2147483648 ≤ x) (hx2 : x ≤ 2147483647) (hy1 : -2147483648 ≤ y) (hy2 : y ≤ 2147483647) (h1 : x < y → WL d c' L st M cc ss) (h2 : y ≤ x → WL d (i + 1) L st M cc ss) : WL d i L ((0, y) :: (0, x) :: st) M cc ss := wl_if2 hK hc hx1 hx2 hy1 hy2 (fun q => h1 q) (fun q => h2 (Int.not_lt.mp q))
theorem wl_ge2 (hK : cd 307 = K) (hc : K[i]? = some (pc, len, 31, 3, b', c')) (hx1 : -2147483648 ≤ x) (hx2 : x ≤ 2147483647) (hy1 : -2147483648 ≤ y) (hy2 : y ≤ 2147483647) (h1 : y ≤ x → WL d c' L st M cc ss) (h2 : x < y → WL d (i + 1) L st M cc ss) : WL d i L ((0, y) :: (0, x) :: st) M cc ss := wl_if2 hK hc hx1 hx2 hy1 hy2 (fun q => h1 q) (fun q => h2 (Int.not_le.mp q))
theorem wl_gt2 (hK : cd 307 = K) (hc : K[i]? = some (pc, len, 31, 4, b', c')) (hx1 : -2147483648 ≤ x) (hx2 : x ≤ 2147483647) (hy1 : -2147483648 ≤ y) (hy2 : y ≤ 2147483647) (h1 : y < x → WL d c' L st M cc ss) (h2 : x ≤ y → WL d (i + 1) L st M cc ss) : WL d i L ((0, y) :: (0, x) :: st) M cc ss := wl_if2 hK hc hx1 hx2 hy1 hy2 (fun q => h1 q) (fun q => h2 (Int.not_lt.mp q))
theorem wl_le2 (hK : cd 307 = K) (hc : K[i]? = some (pc, len, 31, 5, b', c')) (hx1 : -2147483648 ≤ x) (hx2 : x ≤ 2147483647) (hy1 : -2147483648 ≤ y) (hy2 : y ≤ 2147483647) (h1 : x ≤ y → WL d c' L st M cc ss) (h2 : y < x → WL d (i + 1) L st M cc ss) : WL d i L ((0, y) :: (0, x) :: st) M cc ss := wl_if2 hK hc hx1 hx2 hy1 hy2 (fun q => h1 q) (fun q => h2 (Int.not_le.mp q))
theorem wl_eq (hK : cd 307 = K) (hc : K[i]? = some (pc, len, 30, 0, b', c')) (hx1 : -2147483648 ≤ x) (hx2 : x ≤ 2147483647) (h1 : x = 0 → WL d c' L st M cc ss) (h2 : x ≠ 0 → WL d (i + 1) L st M cc ss) : WL d i L ((0, x) :: st) M cc ss := wl_if hK hc hx1 hx2 (fun q => h1 q) (fun q => h2 q)
theorem wl_ne (hK : cd 307 = K) (hc : K[i]? = some (pc, len, 30, 1, b', c')) (hx1 : -2147483648 ≤ x) (hx2 : x ≤ 2147483647) (h1 : x ≠ 0 → WL d c' L st M cc ss) (h2 : x = 0 → WL d (i + 1) L st M cc ss) : WL d i L ((0, x) :: st) M cc ss := wl_if hK hc hx1 hx2 (fun q => h1 q) (fun q => h2 (Classical.not_not.mp q))
theorem wl_lt (hK : cd 307 = K) (hc : K[i]? = some (pc, len, 30, 2, b', c')) (hx1 : -2147483648 ≤ x) (hx2 : x ≤ 2147483647) (h1 : x < 0 → WL d c' L st M cc ss) (h2 : 0 ≤ x → WL d (i + 1) L st M cc ss) : WL d i L ((0, x) :: st) M cc ss := wl_if hK hc hx1 hx2 (fun q => h1 q) (fun q => h2 (Int.not_lt.mp q))
theorem wl_ge (hK : cd 307 = K) (hc : K[i]? = some (pc, len, 30, 3, b', c')) (hx1 : -2147483648 ≤ x) (hx2 : x ≤ 2147483647) (h1 : 0 ≤ x → WL d c' L st M cc ss) (h2 : x < 0 → WL d (i + 1) L st M cc ss) : WL d i L ((0, x) :: st) M cc ss := wl_if hK hc hx1 hx2 (fun q => h1 q) (fun q => h2 (Int.not_le.mp q))
theorem wl_gt (hK : cd 307 = K) (hc : K[i]? = some (pc, len, 30, 4, b', c')) (hx1 : -2147483648 ≤ x) (hx2 : x ≤ 2147483647) (h1 : 0 < x → WL d c' L st M cc ss) (h2 : x ≤ 0 → WL d (i + 1) L st M cc ss) : WL d i L ((0, x) :: st) M cc ss := wl_if hK hc hx1 hx2 (fun q => h1 q) (fun q => h2 (Int.not_lt.mp q))
theorem wl_le (hK : cd 307 = K) (hc : K[i]? = some (pc, len, 30, 5, b', c')) (hx1 : -2147483648 ≤ x) (hx2 : x ≤ 2147483647) (h1 : x ≤ 0 → WL d c' L st M cc ss) (h2 : 0 < x → WL d (i + 1) L st M cc ss) : WL d i L ((0, x) :: st) M cc ss := wl_if hK hc hx1 hx2 (fun q => h1 q) (fun q => h2 (Int.not_le.mp q))
theorem wl_goto (hK : cd 307 = K) (hc : K[i]? = some (pc, len, 34, a, b', c')) (h : WL d c' L st M cc ss) : WL d i L st M cc ss :=
  wl_stp hK hc ⟨rfl, by decide, by decide⟩ (fun S g _ => by simp [stp]) h
theorem wl_tab {dd lo hi : Int} {os : List Int} {k : Nat} {ks : List Nat} (hK : cd 307 = K) (hc : K[i]? = some (pc, len, 35, a, b', c')) (hw : SWt[c']? = some (dd, lo, hi, os, k, ks)) (hx1 : -2147483648 ≤ x) (hx2 : x ≤ 2147483647) (h1 : (x < lo ∨ hi < x) → WL d k L st M cc ss) (h2 : lo ≤ x → x ≤ hi → WL d (ks.getD (x - lo).toNat 0) L st M cc ss) : WL d i L ((0, x) :: st) M cc ss := by
  by_cases h : x < lo ∨ hi < x
  · exact wl_stp hK hc ⟨rfl, by decide, by decide⟩ (fun S g _ => by simp [stp, oTab, hw, i32_in hx1 hx2, h]) (h1 h)
  · exact wl_stp hK hc ⟨rfl, by decide, by decide⟩ (fun S g _ => by simp [stp, oTab, hw, i32_in hx1 hx2, h]) (h2 (by omega) (by omega))
theorem wl_la {n : Nat} {rs : List Int} (hK : cd 307 = K) (hc : K[i]? = some (pc, len, 45, a, b', c')) (hS : S0[p.toNat]? = some (2, n, rs)) (hp : 0 ≤ p) (hb : p.toNat < 199) (h0 : 0 ≤ j) (h1 : j < n) (h : WL d (i + 1) L ((2, M p j) :: st) M cc ss) : WL d i L ((0, j) :: (1, p) :: st) M cc ss :=
  wl_stp hK hc ⟨rfl, by decide, by decide⟩ (fun S g hS' => by
    have := hS' _ _ hb hS
    simp only [stp, oAld, this]
    simp [show ¬ p = -2 by omega, show ¬ p < 0 by omega, h0, h1]) h
/-- the script's length, and what stands in it -/
theorem wl_slen (hK : cd 307 = K) (hc : K[i]? = some (pc, len, 42, a, b', c')) (h : WL d (i + 1) L ((0, M (-2) (-1)) :: st) M cc ss) : WL d i L ((1, -2) :: st) M cc ss :=
  wl_stp hK hc ⟨rfl, by decide, by decide⟩ (fun S g _ => by simp [stp, oAlen]) h
theorem wl_sat (hK : cd 307 = K) (hc : K[i]? = some (pc, len, 43, a, b', c')) (h0 : 0 ≤ j) (h1 : j < M (-2) (-1)) (h : WL d (i + 1) L ((0, M (-2) j) :: st) M cc ss) : WL d i L ((0, j) :: (1, -2) :: st) M cc ss :=
  wl_stp hK hc ⟨rfl, by decide, by decide⟩ (fun S g _ => by simp [stp, oAld, h0, h1]) h
theorem wl_end (hK : cd 307 = K) (hc : K[i]? = some (pc, len, 55, a, b', c')) (hcs : cc ≤ (cOf 307).1 ∧ ss ≤ (cOf 307).2) : WL d i L [(0, 1)] M cc ss := by
  intro S g hS
  refine ⟨1, (S, M, g, cc, ss), ?_⟩
  have e : spent 307 (S, M, g, cc, ss) = true := by
    unfold spent
    exact decide_eq_true (Or.inr ⟨rfl, hcs⟩)
  have z : zOf 307 = 2 := rfl
  unfold run
  rw [hK, hc]
  dsimp only
  rw [if_pos (show isEnd 55 = true from rfl)]
  unfold fin
  rw [if_neg (by decide), if_neg (by decide)]
  dsimp only
  rw [e, if_neg (by decide), if_pos rfl, if_pos ⟨rfl, Or.inr ⟨z, Or.inr rfl⟩⟩]
theorem room_0 {u : Nat} {S : List Cel} {g : Bool} (hu : cOf u = (0, 0)) (hcs : cc ≤ (cOf 307).1 ∧ ss ≤ (cOf 307).2) : room 307 (cOf u).1 (cOf u).2 (S, M, g, cc, ss) = true := by
  unfold room
  rw [hu]
  exact decide_eq_true hcs
theorem calls_ok {u : Nat} {st' : List AV} (as : List AV) (hn : (decide (as.length = nArg u) && decide (catS st' ≤ 8) && decide ((spread as).length ≤ lOf u) && decide (cOf u = (0, 0))) = true)
    (hr : sOf u = 1 ∨ ∃ p as' rs, as = (1, p) :: as' ∧ 0 ≤ p ∧ p.toNat < 199 ∧ S0[p.toNat]? = some (0, kOf u, rs)) (hcs : cc ≤ (cOf 307).1 ∧ ss ≤ (cOf 307).2) {S : List Cel} {g : Bool} (hS : LAY 199 S) : calls (d + 1) 307 u (as.reverse ++ st') (S, M, g, cc, ss) = true ∧ (as.reverse ++ st').take (nArg u) = as.reverse ∧ (as.reverse ++ st').drop (nArg u) = st' := by
  simp only [Bool.and_eq_true, decide_eq_true_eq] at hn
  obtain ⟨⟨⟨n1, n2⟩, n3⟩, n4⟩ := hn
  have e1 : ((as.reverse ++ st').take (nArg u)) = as.reverse := by
    rw [← n1, ← List.length_reverse]
    exact List.take_left ..
  have e2 : ((as.reverse ++ st').drop (nArg u)) = st' := by
    rw [← n1, ← List.length_reverse]
    exact List.drop_left ..
  refine ⟨?_, e1, e2⟩
  unfold calls
  rw [e1, e2, List.reverse_reverse, room_0 n4 hcs]
  simp only [Bool.and_eq_true, decide_eq_true_eq, Bool.or_eq_true]
  refine ⟨⟨⟨⟨by omega, by simp; omega, n2, n3⟩, ?_⟩, trivial⟩, Or.inl (by rw [n4])⟩
  unfold recvOk
  rcases hr with hr | ⟨p, as', rs, rfl, hp, hpb, hq⟩
  · rw [if_pos hr]
  · split
    · rfl
    · show (decide (0 ≤ p) && clsAt S p (kOf u)) = true
      rw [Bool.and_eq_true]
      refine ⟨decide_eq_true hp, ?_⟩
      unfold clsAt
      rw [hS _ _ hpb hq]
      exact decide_eq_true rfl
theorem wl_call {u : Nat} {st' : List AV} {Ψ : AV → Mem → Prop} (as : List AV) (hK : cd 307 = K) (hc : K[i]? = some (pc, len, 54, a, b', c')) (hu : a.toNat = u)
    (hst : st = as.reverse ++ st') (hn : (decide (as.length = nArg u) && decide (catS st' ≤ 8) && decide ((spread as).length ≤ lOf u) && decide (cOf u = (0, 0))) = true)
    (hr : sOf u = 1 ∨ ∃ p as' rs, as = (1, p) :: as' ∧ 0 ≤ p ∧ p.toNat < 199 ∧ S0[p.toNat]? = some (0, kOf u, rs)) (hcs : cc ≤ (cOf 307).1 ∧ ss ≤ (cOf 307).2)
    (hC : Ct 199 d u as M Ψ) (h : ∀ r M', Ψ r M' → r.1 ≠ 9 ∧ WL (d + 1) (i + 1) L (pushR r st') M' cc ss) : WL (d + 1) i L st M cc ss := by
  subst hst; subst hu
  intro S g hS
  obtain ⟨k, r, M1, h1, h2⟩ := hC S g hS
  obtain ⟨h3, h4⟩ := h r M1 h2
  obtain ⟨k2, h', h5⟩ := h4 S g hS
  obtain ⟨e0, e1, e2⟩ := calls_ok (M := M) (d := d) as hn hr hcs (g := g) hS
  simp only [Bool.and_eq_true, decide_eq_true_eq] at hn
  refine ⟨k + k2 + 1, h', ?_⟩
  unfold run
  rw [hK, hc]
  dsimp only
  rw [if_neg (by decide), if_pos rfl, if_pos e0, e1, e2, List.reverse_reverse]
  have h1' := run_mono (m := k + k2) h1 (by omega)
  rw [show d + 1 - 1 = d by omega, h1']
  dsimp only
  rw [if_neg h3]
  have e3 : joinH a.toNat (S, M, g, cc, ss) (S, M1, g, 0, 0) = (S, M1, g, cc, ss) := by
    unfold joinH
    rw [hn.2]
    simp
  rw [e3]
  exact run_mono h5 (by omega)
/-- factor() and row(): what they answer goes to the out row, or 1 is answered -/
theorem wl_prim {u w : Nat} {st' : List AV} {Ψ : AV → Mem → Prop} (as : List AV) (hK : cd 307 = K) (hc : K[i]? = some (pc, len, 61, a, b', c')) (hu : a.toNat = u) (hw : primF u = w)
    (hst : st = (1, 198) :: (as.reverse ++ st')) (hn : (decide (as.length = nArg w) && decide (catS st' ≤ 8) && decide ((spread as).length ≤ lOf w) && decide (cOf w = (0, 0))) = true) (hn2 : (decide (nArg u = nArg w + 1) && decide (st'.length ≤ 4) && decide (((1, 198) :: as.reverse : List AV).map (fun v => v.1) = if u = 308 then [1, 0, 0, 1] else [1, 0, 1])) = true)
    (hr : sOf w = 1 ∨ ∃ p as' rs, as = (1, p) :: as' ∧ 0 ≤ p ∧ p.toNat < 199 ∧ S0[p.toNat]? = some (0, kOf w, rs)) (hcs : cc + 1 ≤ (cOf 307).1 ∧ ss + 8 ≤ (cOf 307).2)
    (hC : Ct 199 d w as M Ψ) (h : ∀ r M', Ψ r M' → (r.1 = 9 ∧ WL (d + 2) (i + 1) L ((0, 1) :: st') M' (cc + 1) (ss + 8)) ∨ ((r.1 = 0 ∨ r.1 = 2) ∧ WL (d + 2) (i + 1) L ((0, 0) :: st') (up M' 198 0 (if r.1 = 0 then (i32 r.2).toInt64.toInt else r.2)) (cc + 1) (ss + 8))) : WL (d + 2) i L st M cc ss := by
  subst hst; subst hu; subst hw
  intro S g hS
  obtain ⟨k, r, M1, h1, h2⟩ := hC S g hS
  obtain ⟨e0, e1, e2⟩ := calls_ok (M := M) (d := d) (cc := cc) (ss := ss) as hn hr ⟨by omega, by omega⟩ (g := g) hS
  simp only [Bool.and_eq_true, decide_eq_true_eq] at hn hn2
  have hlen : as.reverse.length = nArg (primF a.toNat) := by rw [List.length_reverse]; exact hn.1.1.1
  have t1 : ((1, 198) :: (as.reverse ++ st') : List AV).take (nArg a.toNat) = (1, 198) :: as.reverse := by
    rw [hn2.1.1, List.take_succ_cons, ← hlen, List.take_left]
  have t2 : ((1, 198) :: (as.reverse ++ st') : List AV).drop (nArg a.toNat) = st' := by
    rw [hn2.1.1, List.drop_succ_cons, ← hlen, List.drop_left]
  have e3 : calls (d + 1) 307 (primF a.toNat) as.reverse (S, M, g, cc, ss) = true := by
    have q := (calls_ok (M := M) (d := d) (st' := []) as (by simp only [Bool.and_eq_true, decide_eq_true_eq]; exact ⟨⟨⟨hn.1.1.1, by decide⟩, hn.1.2⟩, hn.2⟩) hr (cc := cc) (ss := ss) ⟨by omega, by omega⟩ (g := g) hS).1
    rw [List.append_nil] at q
    exact q
  have e4 : primE (d + 2) 307 a.toNat ((1, 198) :: (as.reverse ++ st')) (S, M, g, cc, ss) = true := by
    unfold primE room xC xS
    rw [t1]
    simp only [Bool.and_eq_true, decide_eq_true_eq]
    refine ⟨⟨⟨⟨by omega, ?_, ?_⟩, hcs⟩, hn2.2⟩, (by decide : (0 : Int) ≤ 198)⟩
    · rw [hn2.1.1, List.length_cons, List.length_append, hlen]; omega
    · rw [hn2.1.1, List.length_cons, List.length_append, hlen]; omega
  have s198 : S[(198 : Int).toNat]? = some (2, 1, []) := hS 198 _ (by decide) rfl
  have hrun : ∀ k2 : Nat, run (k + k2 + 1) (d + 2) 307 (i, L, (1, 198) :: (as.reverse ++ st'), (S, M, g, cc, ss)) = match prim r (1, 198) (S, M, g, cc, ss) (S, M1, g, 0, 0) st' with
      | none => none
      | some (st'', h'') => run (k + k2) (d + 2) 307 (i + 1, L, st'', h'') := fun k2 => by
    have h1' := run_mono (m := k + k2) h1 (by omega)
    conv => lhs; unfold run
    rw [hK, hc]
    dsimp only
    rw [if_neg (by decide), if_neg (by decide), if_pos rfl, if_pos e4, t1, t2]
    dsimp only
    rw [show d + 2 - 1 = d + 1 by omega, if_pos e3, List.reverse_reverse, show d + 2 - 2 = d by omega, h1']
    rfl
  rcases h r M1 h2 with ⟨h3, h4⟩ | ⟨h3, h4⟩
  · obtain ⟨k2, h', h5⟩ := h4 S false hS
    refine ⟨k + k2 + 1, h', ?_⟩
    rw [hrun k2]
    have e5 : prim r (1, 198) (S, M, g, cc, ss) (S, M1, g, 0, 0) st' = some ((0, 1) :: st', (S, M1, false, cc + 1, ss + 8)) := by
      unfold prim
      rw [if_neg (fun q => q.elim (fun w => w rfl) (fun w => w rfl)), if_pos h3]
      rfl
    rw [e5]
    exact run_mono h5 (by omega)
  · obtain ⟨k2, h', h5⟩ := h4 S false hS
    refine ⟨k + k2 + 1, h', ?_⟩
    rw [hrun k2]
    have e5 : prim r (1, 198) (S, M, g, cc, ss) (S, M1, g, 0, 0) st' = some ((0, 0) :: st', (S, up M1 198 0 (if r.1 = 0 then (i32 r.2).toInt64.toInt else r.2), false, cc + 1, ss + 8)) := by
      unfold prim
      rw [if_neg (fun q => q.elim (fun w => w rfl) (fun w => w rfl)), if_neg (by omega)]
      have s2 : S[198]? = some (2, 1, []) := s198
      simp [s2, h3, xC, xS]
    rw [e5]
    exact run_mono h5 (by omega)
end WLS
