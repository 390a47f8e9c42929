/-! the law itself: rules with counters */ -/
/-- from here the law answers true -/
def WL (d i : Nat) (L st : List AV) (M : Mem) (cc ss : Nat) : Prop :=
  ∀ (S : List Cel) (g : Bool), LAY 198 S → ∃ (n : Nat) (h' : Hp), run n d 307 (i, L, st, (S, M, g, cc, ss)) = some ((0, 1), h')
section WLS
variable {d i pc len c' cc ss : Nat} {a b' : Int} {L L' st : List AV} {M : Mem} {K : List Rw} {x y p j v : Int}
theorem wl_stp {op i' : Nat} {st' : List AV} {M' : Mem} (hK : cd 307 = K) (hc : K[i]? = some (pc, len, op, a, b', c')) (ho : isEnd op = false ∧ op ≠ 54 ∧ op ≠ 61)
    (hs : ∀ S g, LAY 198 S → stp d 307 op a b' c' i L st (S, M, g, cc, ss) = some (i', L', st', (S, M', g, cc, ss))) (h : WL d i' L' st' M' cc ss) : WL d i L st M cc ss := by
  intro S g hS
  obtain ⟨n, h', h1⟩ := h S g hS
  refine ⟨n + 1, h', ?_⟩
  unfold run
  rw [hK, hc]
  dsimp only
  rw [if_neg (by rw [ho.1]; decide), if_neg ho.2.1, if_neg ho.2.2, hs S g hS]
  exact h1
theorem wl_il (hK : cd 307 = K) (hc : K[i]? = some (pc, len, 0, a, b', c')) (hv : L[a.toNat]? = some (0, x)) (h : WL d (i + 1) L ((0, x) :: st) M cc ss) : WL d i L st M cc ss :=
  wl_stp hK hc ⟨rfl, by decide, by decide⟩ (fun S g _ => by simp [stp, oLd, hv]) h
theorem wl_al (hK : cd 307 = K) (hc : K[i]? = some (pc, len, 1, a, b', c')) (hv : L[a.toNat]? = some (1, x)) (h : WL d (i + 1) L ((1, x) :: st) M cc ss) : WL d i L st M cc ss :=
  wl_stp hK hc ⟨rfl, by decide, by decide⟩ (fun S g _ => by simp [stp, oLd, hv]) h
theorem wl_ll (hK : cd 307 = K) (hc : K[i]? = some (pc, len, 2, a, b', c')) (hv : L[a.toNat]? = some (2, x)) (h : WL d (i + 1) L ((2, x) :: st) M cc ss) : WL d i L st M cc ss :=
  wl_stp hK hc ⟨rfl, by decide, by decide⟩ (fun S g _ => by simp [stp, oLd, hv]) h
theorem wl_is (L' : List AV) (hK : cd 307 = K) (hc : K[i]? = some (pc, len, 3, a, b', c')) (hv : (decide (a.toNat < L.length) && (decide (a.toNat = 0) || decide ((L.getD (a.toNat - 1) (3, 0)).1 ≠ 2))) = true) (hL : L.set a.toNat (0, x) = L') (h : WL d (i + 1) L' st M cc ss) : WL d i L ((0, x) :: st) M cc ss := by
  simp only [Bool.and_eq_true, Bool.or_eq_true, decide_eq_true_eq] at hv
  exact wl_stp hK hc ⟨rfl, by decide, by decide⟩ (fun S g _ => by
    show oSt (_ - 3) a.toNat i L ((_, x) :: st) (S, M, g, cc, ss) = _
    unfold oSt
    dsimp only
    rw [if_pos ⟨rfl, hv⟩, hL]) h
theorem wl_as (L' : List AV) (hK : cd 307 = K) (hc : K[i]? = some (pc, len, 4, a, b', c')) (hv : (decide (a.toNat < L.length) && (decide (a.toNat = 0) || decide ((L.getD (a.toNat - 1) (3, 0)).1 ≠ 2))) = true) (hL : L.set a.toNat (1, x) = L') (h : WL d (i + 1) L' st M cc ss) : WL d i L ((1, x) :: st) M cc ss := by
  simp only [Bool.and_eq_true, Bool.or_eq_true, decide_eq_true_eq] at hv
  exact wl_stp hK hc ⟨rfl, by decide, by decide⟩ (fun S g _ => by
    show oSt (_ - 3) a.toNat i L ((_, x) :: st) (S, M, g, cc, ss) = _
    unfold oSt
    dsimp only
    rw [if_pos ⟨rfl, hv⟩, hL]) h
theorem wl_inc (L' : List AV) (hK : cd 307 = K) (hc : K[i]? = some (pc, len, 6, a, b', c')) (hv : L[a.toNat]? = some (0, x)) (hp : (decide (a.toNat = 0) || decide ((L.getD (a.toNat - 1) (3, 0)).1 ≠ 2)) = true) (h1 : -2147483648 ≤ x + b') (h2 : x + b' ≤ 2147483647) (hL : L.set a.toNat (0, x + b') = L') (h : WL d (i + 1) L' st M cc ss) : WL d i L st M cc ss := by
  simp only [Bool.or_eq_true, decide_eq_true_eq] at hp
  exact wl_stp hK hc ⟨rfl, by decide, by decide⟩ (fun S g _ => by
    show oInc a.toNat b' i L st (S, M, g, cc, ss) = _
    unfold oInc
    rw [hv]
    show (if a.toNat = 0 ∨ (L.getD (a.toNat - 1) (3, 0)).1 ≠ 2 then some (i + 1, L.set a.toNat (0, (i32 x + i32 b').toInt), st, S, M, g, cc, ss) else none) = _
    rw [if_pos hp, i32_add h1 h2, hL]) h
theorem wl_ic (hK : cd 307 = K) (hc : K[i]? = some (pc, len, 7, a, b', c')) (h : WL d (i + 1) L ((0, a) :: st) M cc ss) : WL d i L st M cc ss :=
  wl_stp hK hc ⟨rfl, by decide, by decide⟩ (fun S g _ => by simp [stp]) h
theorem wl_lc (hK : cd 307 = K) (hc : K[i]? = some (pc, len, 8, a, b', c')) (h : WL d (i + 1) L ((2, a) :: st) M cc ss) : WL d i L st M cc ss :=
  wl_stp hK hc ⟨rfl, by decide, by decide⟩ (fun S g _ => by simp [stp]) h
theorem wl_add (hK : cd 307 = K) (hc : K[i]? = some (pc, len, 10, a, b', c')) (h1 : -2147483648 ≤ x + y) (h2 : x + y ≤ 2147483647) (h : WL d (i + 1) L ((0, x + y) :: st) M cc ss) : WL d i L ((0, y) :: (0, x) :: st) M cc ss :=
  wl_stp hK hc ⟨rfl, by decide, by decide⟩ (fun S g _ => by simp [stp, oBin, bin, i32_add h1 h2]) h
theorem wl_sub (hK : cd 307 = K) (hc : K[i]? = some (pc, len, 11, a, b', c')) (h1 : -2147483648 ≤ x - y) (h2 : x - y ≤ 2147483647) (h : WL d (i + 1) L ((0, x - y) :: st) M cc ss) : WL d i L ((0, y) :: (0, x) :: st) M cc ss :=
  wl_stp hK hc ⟨rfl, by decide, by decide⟩ (fun S g _ => by simp [stp, oBin, bin, i32_sub h1 h2]) h
theorem wl_bin {op : Nat} {w : Int32} (hK : cd 307 = K) (hc : K[i]? = some (pc, len, op, a, b', c')) (ho : (decide (10 ≤ op) && decide (op ≤ 21) && decide (op ≠ 15)) = true) (hw : bin op (i32 x) (i32 y) = some w) (h : WL d (i + 1) L ((0, w.toInt) :: st) M cc ss) : WL d i L ((0, y) :: (0, x) :: st) M cc ss := by
  simp only [Bool.and_eq_true, decide_eq_true_eq] at ho
  refine wl_stp hK hc ⟨by simp [isEnd]; omega, by omega, by omega⟩ (fun S g _ => ?_) h
  simp only [stp, oBin, hw]
  rw [if_neg (by omega), if_neg (by omega), if_neg (by omega), if_neg (by omega), if_neg (by omega), if_neg (by omega), if_neg (by omega), if_neg (by omega), if_pos (by omega)]
theorem wl_i2l (hK : cd 307 = K) (hc : K[i]? = some (pc, len, 22, a, b', c')) (h1 : -2147483648 ≤ x) (h2 : x ≤ 2147483647) (h : WL d (i + 1) L ((2, x) :: st) M cc ss) : WL d i L ((0, x) :: st) M cc ss := by
  refine wl_stp hK hc ⟨rfl, by decide, by decide⟩ (fun S g _ => by simp [stp, oUn, i32_in h1 h2]) h
theorem wl_lcmp (hK : cd 307 = K) (hc : K[i]? = some (pc, len, 24, a, b', c')) (h : WL d (i + 1) L ((0, (lg_cmp (i64 x) (i64 y)).toInt) :: st) M cc ss) : WL d i L ((2, y) :: (2, x) :: st) M cc ss :=
  wl_stp hK hc ⟨rfl, by decide, by decide⟩ (fun S g _ => by simp [stp, oLcmp]) h
theorem wl_if2 (hK : cd 307 = K) (hc : K[i]? = some (pc, len, 31, a, b', c')) (hx1 : -2147483648 ≤ x) (hx2 : x ≤ 2147483647) (hy1 : -2147483648 ≤ y) (hy2 : y ≤ 2147483647) (h1 : cI a x y → WL d c' L st M cc ss) (h2 : ¬ cI a x y → WL d (i + 1) L st M cc ss) : WL d i L ((0, y) :: (0, x) :: st) M cc ss := by
  by_cases h : cI a x y
  · exact wl_stp hK hc ⟨rfl, by decide, by decide⟩ (fun S g _ => by simp [stp, oIf2, (cnd_I hx1 hx2 hy1 hy2).mpr h]) (h1 h)
  · exact wl_stp hK hc ⟨rfl, by decide, by decide⟩ (fun S g _ => by
      have : ¬ cnd a (i32 x) (i32 y) = true := fun q => h ((cnd_I hx1 hx2 hy1 hy2).mp q)
      simp [stp, oIf2, this]) (h2 h)
theorem wl_if (hK : cd 307 = K) (hc : K[i]? = some (pc, len, 30, a, b', c')) (hx1 : -2147483648 ≤ x) (hx2 : x ≤ 2147483647) (h1 : cI a x 0 → WL d c' L st M cc ss) (h2 : ¬ cI a x 0 → WL d (i + 1) L st M cc ss) : WL d i L ((0, x) :: st) M cc ss := by
  have e0 : i32 0 = 0 := rfl
  by_cases h : cI a x 0
  · exact wl_stp hK hc ⟨rfl, by decide, by decide⟩ (fun S g _ => by
      have := (cnd_I (a := a) hx1 hx2 (by decide) (by decide)).mpr h
      rw [e0] at this
      simp [stp, oIf, this]) (h1 h)
  · exact wl_stp hK hc ⟨rfl, by decide, by decide⟩ (fun S g _ => by
      have : ¬ cnd a (i32 x) 0 = true := fun q => h ((cnd_I (a := a) hx1 hx2 (by decide) (by decide)).mp (by rw [e0]; exact q))
      simp [stp, oIf, this]) (h2 h)
theorem wl_eq2 (hK : cd 307 = K) (hc : K[i]? = some (pc, len, 31, 0, b', c')) (hx1 : -2147483648 ≤ x) (hx2 : x ≤ 2147483647) (hy1 : -2147483648 ≤ y) (hy2 : y ≤ 2147483647) (h1 : x = y → WL d c' L st M cc ss) (h2 : x ≠ y → WL d (i + 1) L st M cc ss) : WL d i L ((0, y) :: (0, x) :: st) M cc ss := wl_if2 hK hc hx1 hx2 hy1 hy2 (fun q => h1 q) (fun q => h2 q)
theorem wl_ne2 (hK : cd 307 = K) (hc : K[i]? = some (pc, len, 31, 1, b', c')) (hx1 : -2147483648 ≤ x) (hx2 : x ≤ 2147483647) (hy1 : -2147483648 ≤ y) (hy2 : y ≤ 2147483647) (h1 : x ≠ y → WL d c' L st M cc ss) (h2 : x = y → WL d (i + 1) L st M cc ss) : WL d i L ((0, y) :: (0, x) :: st) M cc ss := wl_if2 hK hc hx1 hx2 hy1 hy2 (fun q => h1 q) (fun q => h2 (Classical.not_not.mp q))
theorem wl_lt2 (hK : cd 307 = K) (hc : K[i]? = some (pc, len, 31, 2, b', c')) (hx1 : -2147483648 ≤ x) (hx2 : x ≤ 2147483647) (hy1 : -2147483648 ≤ y) (hy2 : y ≤ 2147483647) (h1 : x < y → WL d c' L st M cc ss) (h2 : y ≤ x → WL d (i + 1) L st M cc ss) : WL d i L ((0, y) :: (0, x) :: st) M cc ss := wl_if2 hK hc hx1 hx2 hy1 hy2 (fun q => h1 q) (fun q => h2 (Int.not_lt.mp q))
theorem wl_ge2 (hK : cd 307 = K) (hc : K[i]? = some (pc, len, 31, 3, b', c')) (hx1 : -2147483648 ≤ x) (hx2 : x ≤ 2147483647) (hy1 : -2147483648 ≤ y) (hy2 : y ≤ 2147483647) (h1 : y ≤ x → WL d c' L st M cc ss) (h2 : x < y → WL d (i + 1) L st M cc ss) : WL d i L ((0, y) :: (0, x) :: st) M cc ss := wl_if2 hK hc hx1 hx2 hy1 hy2 (fun q => h1 q) (fun q => h2 (Int.not_le.mp q))
theorem wl_gt2 (hK : cd 307 = K) (hc : K[i]? = some (pc, len, 31, 4, b', c')) (hx1 : -2147483648 ≤ x) (hx2 : x ≤ 2147483647) (hy1 : -2147483648 ≤ y) (hy2 : y ≤ 2147483647) (h1 : y < x → WL d c' L st M cc ss) (h2 : x ≤ y → WL d (i + 1) L st M cc ss) : WL d i L ((0, y) :: (0, x) :: st) M cc ss := wl_if2 hK hc hx1 hx2 hy1 hy2 (fun q => h1 q) (fun q => h2 (Int.not_lt.mp q))
theorem wl_le2 (hK : cd 307 = K) (hc : K[i]? = some (pc, len, 31, 5, b', c')) (hx1 : -2147483648 ≤ x) (hx2 : x ≤ 2147483647) (hy1 : -2147483648 ≤ y) (hy2 : y ≤ 2147483647) (h1 : x ≤ y → WL d c' L st M cc ss) (h2 : y < x → WL d (i + 1) L st M cc ss) : WL d i L ((0, y) :: (0, x) :: st) M cc ss := wl_if2 hK hc hx1 hx2 hy1 hy2 (fun q => h1 q) (fun q => h2 (Int.not_le.mp q))
theorem wl_eq (hK : cd 307 = K) (hc : K[i]? = some (pc, len, 30, 0, b', c')) (hx1 : -2147483648 ≤ x) (hx2 : x ≤ 2147483647) (h1 : x = 0 → WL d c' L st M cc ss) (h2 : x ≠ 0 → WL d (i + 1) L st M cc ss) : WL d i L ((0, x) :: st) M cc ss := wl_if hK hc hx1 hx2 (fun q => h1 q) (fun q => h2 q)
theorem wl_ne (hK : cd 307 = K) (hc : K[i]? = some (pc, len, 30, 1, b', c')) (hx1 : -2147483648 ≤ x) (hx2 : x ≤ 2147483647) (h1 : x ≠ 0 → WL d c' L st M cc ss) (h2 : x = 0 → WL d (i + 1) L st M cc ss) : WL d i L ((0, x) :: st) M cc ss := wl_if hK hc hx1 hx2 (fun q => h1 q) (fun q => h2 (Classical.not_not.mp q))
theorem wl_lt (hK : cd 307 = K) (hc : K[i]? = some (pc, len, 30, 2, b', c')) (hx1 : -2147483648 ≤ x) (hx2 : x ≤ 2147483647) (h1 : x < 0 → WL d c' L st M cc ss) (h2 : 0 ≤ x → WL d (i + 1) L st M cc ss) : WL d i L ((0, x) :: st) M cc ss := wl_if hK hc hx1 hx2 (fun q => h1 q) (fun q => h2 (Int.not_lt.mp q))
theorem wl_ge (hK : cd 307 = K) (hc : K[i]? = some (pc, len, 30, 3, b', c')) (hx1 : -2147483648 ≤ x) (hx2 : x ≤ 2147483647) (h1 : 0 ≤ x → WL d c' L st M cc ss) (h2 : x < 0 → WL d (i + 1) L st M cc ss) : WL d i L ((0, x) :: st) M cc ss := wl_if hK hc hx1 hx2 (fun q => h1 q) (fun q => h2 (Int.not_le.mp q))
theorem wl_gt (hK : cd 307 = K) (hc : K[i]? = some (pc, len, 30, 4, b', c')) (hx1 : -2147483648 ≤ x) (hx2 : x ≤ 2147483647) (h1 : 0 < x → WL d c' L st M cc ss) (h2 : x ≤ 0 → WL d (i + 1) L st M cc ss) : WL d i L ((0, x) :: st) M cc ss := wl_if hK hc hx1 hx2 (fun q => h1 q) (fun q => h2 (Int.not_lt.mp q))
theorem wl_le (hK : cd 307 = K) (hc : K[i]? = some (pc, len, 30, 5, b', c')) (hx1 : -2147483648 ≤ x) (hx2 : x ≤ 2147483647) (h1 : x ≤ 0 → WL d c' L st M cc ss) (h2 : 0 < x → WL d (i + 1) L st M cc ss) : WL d i L ((0, x) :: st) M cc ss := wl_if hK hc hx1 hx2 (fun q => h1 q) (fun q => h2 (Int.not_le.mp q))
theorem wl_goto (hK : cd 307 = K) (hc : K[i]? = some (pc, len, 34, a, b', c')) (h : WL d c' L st M cc ss) : WL d i L st M cc ss :=
  wl_stp hK hc ⟨rfl, by decide, by decide⟩ (fun S g _ => by simp [stp]) h
theorem wl_tab {dd lo hi : Int} {os : List Int} {k : Nat} {ks : List Nat} (hK : cd 307 = K) (hc : K[i]? = some (pc, len, 35, a, b', c')) (hw : SWt[c']? = some (dd, lo, hi, os, k, ks)) (hx1 : -2147483648 ≤ x) (hx2 : x ≤ 2147483647) (h1 : (x < lo ∨ hi < x) → WL d k L st M cc ss) (h2 : lo ≤ x → x ≤ hi → WL d (ks.getD (x - lo).toNat 0) L st M cc ss) : WL d i L ((0, x) :: st) M cc ss := by
  by_cases h : x < lo ∨ hi < x
  · exact wl_stp hK hc ⟨rfl, by decide, by decide⟩ (fun S g _ => by simp [stp, oTab, hw, i32_in hx1 hx2, h]) (h1 h)
  · exact wl_stp hK hc ⟨rfl, by decide, by decide⟩ (fun S g _ => by simp [stp, oTab, hw, i32_in hx1 hx2, h]) (h2 (by omega) (by omega))
theorem wl_la {n : Nat} {rs : List Int} (hK : cd 307 = K) (hc : K[i]? = some (pc, len, 45, a, b', c')) (hS : S0[p.toNat]? = some (2, n, rs)) (hp : 0 ≤ p) (hb : p.toNat < 198) (h0 : 0 ≤ j) (h1 : j < n) (h : WL d (i + 1) L ((2, M p j) :: st) M cc ss) : WL d i L ((0, j) :: (1, p) :: st) M cc ss :=
  wl_stp hK hc ⟨rfl, by decide, by decide⟩ (fun S g hS' => by
    have := hS' _ _ hb hS
    simp only [stp, oAld, this]
    simp [show ¬ p = -2 by omega, show ¬ p < 0 by omega, h0, h1]) h
/-- the script's length, and what stands in it -/
theorem wl_slen (hK : cd 307 = K) (hc : K[i]? = some (pc, len, 42, a, b', c')) (h : WL d (i + 1) L ((0, M (-2) (-1)) :: st) M cc ss) : WL d i L ((1, -2) :: st) M cc ss :=
  wl_stp hK hc ⟨rfl, by decide, by decide⟩ (fun S g _ => by simp [stp, oAlen]) h
theorem wl_sat (hK : cd 307 = K) (hc : K[i]? = some (pc, len, 43, a, b', c')) (h0 : 0 ≤ j) (h1 : j < M (-2) (-1)) (h : WL d (i + 1) L ((0, M (-2) j) :: st) M cc ss) : WL d i L ((0, j) :: (1, -2) :: st) M cc ss :=
  wl_stp hK hc ⟨rfl, by decide, by decide⟩ (fun S g _ => by simp [stp, oAld, h0, h1]) h
theorem wl_end (hK : cd 307 = K) (hc : K[i]? = some (pc, len, 55, a, b', c')) (hcs : cc ≤ (cOf 307).1 ∧ ss ≤ (cOf 307).2) : WL d i L [(0, 1)] M cc ss := by
  intro S g hS
  refine ⟨1, (S, M, g, cc, ss), ?_⟩
  have e : spent 307 (S, M, g, cc, ss) = true := by
    unfold spent
    exact decide_eq_true (Or.inr ⟨rfl, hcs⟩)
  have z : zOf 307 = 2 := rfl
  unfold run
  rw [hK, hc]
  dsimp only
  rw [if_pos (show isEnd 55 = true from rfl)]
  unfold fin
  rw [if_neg (by decide), if_neg (by decide)]
  dsimp only
  rw [e, if_neg (by decide), if_pos rfl, if_pos ⟨rfl, Or.inr ⟨z, Or.inr rfl⟩⟩]
theorem room_0 {u : Nat} {S : List Cel} {g : Bool} (hu : cOf u = (0, 0)) (hcs : cc ≤ (cOf 307).1 ∧ ss ≤ (cOf 307).2) : room 307 (cOf u).1 (cOf u).2 (S, M, g, cc, ss) = true := by
  unfold room
  rw [hu]
  exact decide_eq_true hcs
theorem calls_ok {u : Nat} {st' : List AV} (as : List AV) (hn : (decide (as.length = nArg u) && decide (catS st' ≤ 8) && decide ((spread as).length ≤ lOf u) && decide (cOf u = (0, 0))) = true)
    (hr : sOf u = 1 ∨ ∃ p as' rs, as = (1, p) :: as' ∧ 0 ≤ p ∧ p.toNat < 198 ∧ S0[p.toNat]? = some (0, kOf u, rs)) (hcs : cc ≤ (cOf 307).1 ∧ ss ≤ (cOf 307).2) {S : List Cel} {g : Bool} (hS : LAY 198 S) : calls (d + 1) 307 u (as.reverse ++ st') (S, M, g, cc, ss) = true ∧ (as.reverse ++ st').take (nArg u) = as.reverse ∧ (as.reverse ++ st').drop (nArg u) = st' := by
  simp only [Bool.and_eq_true, decide_eq_true_eq] at hn
  obtain ⟨⟨⟨n1, n2⟩, n3⟩, n4⟩ := hn
  have e1 : ((as.reverse ++ st').take (nArg u)) = as.reverse := by
    rw [← n1, ← List.length_reverse]
    exact List.take_left ..
  have e2 : ((as.reverse ++ st').drop (nArg u)) = st' := by
    rw [← n1, ← List.length_reverse]
    exact List.drop_left ..
  refine ⟨?_, e1, e2⟩
  unfold calls
  rw [e1, e2, List.reverse_reverse, room_0 n4 hcs]
  simp only [Bool.and_eq_true, decide_eq_true_eq, Bool.or_eq_true]
  refine ⟨⟨⟨⟨by omega, by simp; omega, n2, n3⟩, ?_⟩, trivial⟩, Or.inl (by rw [n4])⟩
  unfold recvOk
  rcases hr with hr | ⟨p, as', rs, rfl, hp, hpb, hq⟩
  · rw [if_pos hr]
  · split
    · rfl
    · show (decide (0 ≤ p) && clsAt S p (kOf u)) = true
      rw [Bool.and_eq_true]
      refine ⟨decide_eq_true hp, ?_⟩
      unfold clsAt
      rw [hS _ _ hpb hq]
      exact decide_eq_true rfl
theorem wl_call {u : Nat} {st' : List AV} {Ψ : AV → Mem → Prop} (as : List AV) (hK : cd 307 = K) (hc : K[i]? = some (pc, len, 54, a, b', c')) (hu : a.toNat = u)
    (hst : st = as.reverse ++ st') (hn : (decide (as.length = nArg u) && decide (catS st' ≤ 8) && decide ((spread as).length ≤ lOf u) && decide (cOf u = (0, 0))) = true)
    (hr : sOf u = 1 ∨ ∃ p as' rs, as = (1, p) :: as' ∧ 0 ≤ p ∧ p.toNat < 198 ∧ S0[p.toNat]? = some (0, kOf u, rs)) (hcs : cc ≤ (cOf 307).1 ∧ ss ≤ (cOf 307).2)
    (hC : Ct 198 d u as M Ψ) (h : ∀ r M', Ψ r M' → r.1 ≠ 9 ∧ WL (d + 1) (i + 1) L (pushR r st') M' cc ss) : WL (d + 1) i L st M cc ss := by
  subst hst; subst hu
  intro S g hS
  obtain ⟨k, r, M1, h1, h2⟩ := hC S g hS
  obtain ⟨h3, h4⟩ := h r M1 h2
  obtain ⟨k2, h', h5⟩ := h4 S g hS
  obtain ⟨e0, e1, e2⟩ := calls_ok (M := M) (d := d) as hn hr hcs (g := g) hS
  simp only [Bool.and_eq_true, decide_eq_true_eq] at hn
  refine ⟨k + k2 + 1, h', ?_⟩
  unfold run
  rw [hK, hc]
  dsimp only
  rw [if_neg (by decide), if_pos rfl, if_pos e0, e1, e2, List.reverse_reverse]
  have h1' := run_mono (m := k + k2) h1 (by omega)
  rw [show d + 1 - 1 = d by omega, h1']
  dsimp only
  rw [if_neg h3]
  have e3 : joinH a.toNat (S, M, g, cc, ss) (S, M1, g, 0, 0) = (S, M1, g, cc, ss) := by
    unfold joinH
    rw [hn.2]
    simp
  rw [e3]
  exact run_mono h5 (by omega)
theorem wl_ls (L' : List AV) (hK : cd 307 = K) (hc : K[i]? = some (pc, len, 5, a, b', c')) (hv : (decide (a.toNat + 1 < L.length) && (decide (a.toNat = 0) || decide ((L.getD (a.toNat - 1) (3, 0)).1 ≠ 2))) = true) (hL : (L.set a.toNat (2, x)).set (a.toNat + 1) (3, 0) = L') (h : WL d (i + 1) L' st M cc ss) : WL d i L ((2, x) :: st) M cc ss := by
  simp only [Bool.and_eq_true, Bool.or_eq_true, decide_eq_true_eq] at hv
  exact wl_stp hK hc ⟨rfl, by decide, by decide⟩ (fun S g _ => by
    show oSl a.toNat i L ((2, x) :: st) (S, M, g, cc, ss) = _
    unfold oSl
    dsimp only
    rw [if_pos ⟨rfl, hv⟩, hL]) h
theorem wl_pop {u : AV} (hK : cd 307 = K) (hc : K[i]? = some (pc, len, 26, a, b', c')) (hu : decide (u.1 ≠ 2) = true) (h : WL d (i + 1) L st M cc ss) : WL d i L (u :: st) M cc ss :=
  wl_stp hK hc ⟨rfl, by decide, by decide⟩ (fun S g _ => by simp [stp, oDup, of_decide_eq_true hu]) h
theorem wl_rem (hK : cd 307 = K) (hc : K[i]? = some (pc, len, 14, a, b', c')) (hx0 : 0 ≤ x) (hx1 : x ≤ 2147483647) (hy0 : 0 < y) (hy1 : y ≤ 2147483647) (h : WL d (i + 1) L ((0, x % y) :: st) M cc ss) : WL d i L ((0, y) :: (0, x) :: st) M cc ss := by
  have e : (i32 x - i32 x / i32 y * i32 y).toInt = x % y := by
    rw [i32_small hx0 hx1, i32_small (by omega) hy1, pk_rem (by omega) (by omega) (by omega), nI_int (by
      have := Nat.mod_le x.toNat y.toNat
      omega)]
    have : ((x.toNat % y.toNat : Nat) : Int) = (x.toNat : Int) % (y.toNat : Int) := by simp
    rw [this, Int.toNat_of_nonneg hx0, Int.toNat_of_nonneg (by omega)]
  have hy : ¬ i32 y = 0 := fun q => by
    have h2 := i32_in (x := y) (by omega) hy1
    rw [q] at h2
    rw [show (0 : Int32).toInt = 0 from rfl] at h2
    omega
  refine wl_stp hK hc ⟨rfl, by decide, by decide⟩ (fun S g _ => ?_) h
  simp only [stp, oBin]
  simp [bin, hy, e]
/-- some number -/
theorem wl_any {op : Nat} {w : Int32} (hK : cd 307 = K) (hc : K[i]? = some (pc, len, op, a, b', c')) (ho : (decide (10 ≤ op) && decide (op ≤ 21) && decide (op ≠ 15)) = true) (hw : bin op (i32 x) (i32 y) = some w) (h : ∀ v : Int, v = w.toInt → -2147483648 ≤ v → v ≤ 2147483647 → WL d (i + 1) L ((0, v) :: st) M cc ss) : WL d i L ((0, y) :: (0, x) :: st) M cc ss :=
  wl_bin hK hc ho hw (h _ rfl (Int32.le_toInt w) (Int32.toInt_le w))
theorem i32_msk {x y : Int} (h0 : 0 ≤ y) (h1 : y ≤ 2147483647) : 0 ≤ (i32 x &&& i32 y).toInt ∧ (i32 x &&& i32 y).toInt ≤ y := by
  have hy : (i32 y).toBitVec.toNat = y.toNat := by
    have := i32_small h0 h1
    rw [this]
    have h2 := nI_int (n := y.toNat) (by omega)
    have h3 : ((nI y.toNat).toBitVec.toNat : Int) = (y.toNat : Int) := by
      rw [← h2]
      show _ = (nI y.toNat).toBitVec.toInt
      rw [BitVec.toInt_eq_toNat_of_lt]
      have h4 : (nI y.toNat).toBitVec.toInt = (y.toNat : Int) := h2
      rw [BitVec.toInt_eq_toNat_cond] at h4
      split at h4 <;> omega
    omega
  have h : (i32 x &&& i32 y).toBitVec = (i32 x).toBitVec &&& (i32 y).toBitVec := rfl
  have h2 : ((i32 x).toBitVec &&& (i32 y).toBitVec).toNat ≤ y.toNat := by
    rw [BitVec.toNat_and, ← hy]
    exact Nat.and_le_right
  show 0 ≤ (i32 x &&& i32 y).toBitVec.toInt ∧ (i32 x &&& i32 y).toBitVec.toInt ≤ y
  rw [h, BitVec.toInt_eq_toNat_of_lt (by omega)]
  omega
theorem wl_msk (hK : cd 307 = K) (hc : K[i]? = some (pc, len, 16, a, b', c')) (h0 : 0 ≤ y) (h1 : y ≤ 2147483647) (h : ∀ v : Int, v = (i32 x &&& i32 y).toInt → 0 ≤ v → v ≤ y → WL d (i + 1) L ((0, v) :: st) M cc ss) : WL d i L ((0, y) :: (0, x) :: st) M cc ss :=
  wl_bin hK hc rfl rfl (h _ rfl (i32_msk h0 h1).1 (i32_msk h0 h1).2)
theorem wl_lb {op : Nat} (hK : cd 307 = K) (hc : K[i]? = some (pc, len, op, a, b', c')) (ho : (decide (37 ≤ op) && decide (op ≤ 39)) = true) (h : WL d (i + 1) L ((2, (if op = 37 then i64 x + i64 y else if op = 38 then i64 x * i64 y else i64 x &&& i64 y).toInt) :: st) M cc ss) : WL d i L ((2, y) :: (2, x) :: st) M cc ss := by
  simp only [Bool.and_eq_true, decide_eq_true_eq] at ho
  refine wl_stp hK hc ⟨by simp [isEnd]; omega, by omega, by omega⟩ (fun S g _ => ?_) h
  unfold stp
  rw [if_neg (by omega), if_neg (by omega), if_neg (by omega), if_neg (by omega), if_neg (by omega), if_neg (by omega), if_neg (by omega), if_neg (by omega), if_neg (by omega), if_neg (by omega), if_neg (by omega), if_neg (by omega), if_neg (by omega), if_neg (by omega), if_neg (by omega), if_neg (by omega), if_neg (by omega), if_pos (by omega)]
  rfl
theorem wl_cv {u tg : Nat} {st' : List AV} {V : Int} {Q : Mem → Prop} (as : List AV) (hK : cd 307 = K) (hc : K[i]? = some (pc, len, 54, a, b', c')) (hu : a.toNat = u)
    (hst : st = as.reverse ++ st') (hn : (decide (as.length = nArg u) && decide (catS st' ≤ 8) && decide ((spread as).length ≤ lOf u) && decide (cOf u = (0, 0))) = true)
    (hr : sOf u = 1 ∨ ∃ p as' rs, as = (1, p) :: as' ∧ 0 ≤ p ∧ p.toNat < 198 ∧ S0[p.toNat]? = some (0, kOf u, rs)) (ht : tg = 0 ∨ tg = 2) (hcs : cc ≤ (cOf 307).1 ∧ ss ≤ (cOf 307).2)
    (hC : Ct 198 d u as M (fun r M' => r = (tg, V) ∧ Q M')) (h : ∀ (v : Int) (M' : Mem), v = V → Q M' → WL (d + 1) (i + 1) L ((tg, v) :: st') M' cc ss) : WL (d + 1) i L st M cc ss :=
  wl_call as hK hc hu hst hn hr hcs hC (fun r M' hr => ⟨by rw [hr.1]; dsimp only; omega, by
    have e : pushR r st' = (tg, V) :: st' := by
      rw [hr.1]
      rcases ht with rfl | rfl <;> rfl
    rw [e]
    exact h V M' rfl hr.2⟩)
/-- what numbers(c, q) and say(o, text) do, by the class's calls -/
def SY (M : Mem) (ws : List (Nat × Int)) (Ψ : Mem → Prop) : Prop := ∀ S, LAY 198 S → ∃ (n : Nat) (M1 : Mem), sayL (fun d t cf => run n d t cf) 22 (1, 0) ws (S, M) = some (S, M1) ∧ Ψ M1
theorem SY.nil {M : Mem} {Ψ : Mem → Prop} (h : Ψ M) : SY M [] Ψ := fun S _ => ⟨0, M, rfl, h⟩
theorem SY.cons {M : Mem} {w : Nat × Int} {ws : List (Nat × Int)} {Ψ : Mem → Prop} {Φ : AV → Mem → Prop} (hC : Ct 198 22 w.1 [(1, 0), (0, w.2)] M Φ) (h : ∀ r M', Φ r M' → r.1 ≠ 9 ∧ SY M' ws Ψ) : SY M (w :: ws) Ψ := by
  intro S hS
  obtain ⟨k, r, M1, h1, h2⟩ := hC S false hS
  obtain ⟨h3, h4⟩ := h r M1 h2
  obtain ⟨k2, M2, h5, h6⟩ := h4 S hS
  refine ⟨k + k2, M2, ?_, h6⟩
  unfold sayL
  have e := run_mono (m := k + k2) h1 (by omega)
  have hcl : clsAt S 0 11 = true := by
    unfold clsAt
    rw [show S[Int.toNat 0]? = _ from hS 0 _ (by decide) rfl]
    rfl
  rw [e]
  dsimp only
  rw [if_neg (by rw [hcl]; simp [h3])]
  exact sayL_mono (f := fun d t cf => run k2 d t cf) (fun q => run_mono q (by omega)) h5
theorem wl_say {Ψ : Mem → Prop} (hK : cd 307 = K) (hc : K[i]? = some (pc, len, 61, a, b', c')) (hy : 1 ≤ y ∧ y ≤ 16) (hcs : cc + 14 ≤ (cOf 307).1 ∧ ss + 80 ≤ (cOf 307).2) (hS : SY M (says (txt x y)) Ψ) (h : ∀ M', Ψ M' → WL 24 (i + 2) L [] M' (cc + 14) (ss + 80)) : WL 24 i L [(0, y), (0, x), (1, 0)] M cc ss := by
  intro S g hL
  obtain ⟨k, M1, h1, h2⟩ := hS S hL
  obtain ⟨k2, h', h3⟩ := h M1 h2 S false hL
  refine ⟨k + k2 + 1, h', ?_⟩
  have e4 : primE 24 307 [(0, y), (0, x), (1, 0)] (S, M, g, cc, ss) = true := by
    unfold primE room xC xS
    simp only [Bool.and_eq_true, decide_eq_true_eq]
    exact ⟨⟨⟨⟨⟨by decide, Nat.le_refl 3⟩, hcs⟩, rfl⟩, Int.le_refl 0⟩, hy⟩
  have h1' := sayL_mono (f := fun d t cf => run k d t cf) (g := fun d t cf => run (k + k2) d t cf) (fun q => run_mono q (by omega)) h1
  unfold run
  rw [hK, hc]
  dsimp only
  rw [if_neg (by decide), if_neg (by decide), if_pos rfl, if_pos e4]
  show (match sayL (fun d t cf => run (k + k2) d t cf) 22 (1, 0) (says (txt x y)) (S, M) with
    | none => none
    | some m => run (k + k2) 24 307 (i + 2, L, [], (m.1, m.2, false, cc + xC, ss + xS))) = _
  rw [h1']
  exact run_mono h3 (by omega)
end WLS
