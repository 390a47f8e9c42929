/-! the single steps, instruction kind by kind -/
theorem pcAt_ok {k : List Rw} {i : Nat} {pc : Int} (h : pcAt k i pc = true) : ∃ r, k[i]? = some r ∧ (r.1 : Int) = pc := by
  unfold pcAt at h
  cases hr : k[i]? with
  | none => rw [hr] at h; cases h
  | some r => rw [hr] at h; exact ⟨r, rfl, of_decide_eq_true h⟩
noncomputable def pcOf (t i : Nat) : Nat := match (cd t)[i]? with
  | some r => r.1
  | none => 0
theorem pcOf_at {t i : Nat} {r : Rw} (h : (cd t)[i]? = some r) : pcOf t i = r.1 := by simp [pcOf, h]
theorem pcOf_pcAt {t i : Nat} {pc : Int} (h : pcAt (cd t) i pc = true) : (pcOf t i : Int) = pc := by
  obtain ⟨r, h1, h2⟩ := pcAt_ok h
  rw [pcOf_at h1]; exact h2
section SND
variable {p : Program} {l : Launch} {e : Env} {R : Room} {s : State} {m : MethodId} {args : Array Value} {below : List Frame} {meth : Method} {c : Code} {Q : State → Prop}
variable {D : va_G} {cI cJ cB cP : ClassId} {z b : Nat} {Ls : Nat × Nat × Nat} {xs : Nat → Int32} {t d : Nat}
/-- what stands all through a method's run -/
def Cx (p : Program) (s : State) (m : MethodId) (args : Array Value) (meth : Method) (c : Code) (R : Room) (D : va_G) (cI cJ cB cP : ClassId) (z b : Nat) (Ls : Nat × Nat × Nat) (xs : Nat → Int32) (t d : Nat) : Prop :=
  p.tables.exec = Jvm.exec ∧ c.code = bOf t ∧ c.maxLocals = lOf t ∧ s.vm.findClass (cN (kOf t)) = some m.cls ∧ (∀ w ∈ gw_tbl, w.before args s = true) ∧ EnvOK D cI cJ cB cP s ∧ va_X b Ls.1 xs s s.heap ∧ b < z ∧ z ≤ s.heap.size ∧ (t < 307 → meth.name = (yOf t).name) ∧
    R.cells = (cOf t).1 ∧ R.slots = (cOf t).2 ∧ d ≤ R.frames ∧ 40 * d ≤ R.locals ∧ (Ls.1 ≤ 2560 ∧ Ls.2.1 < s.heap.size ∧ Ls.2.2 < s.heap.size) ∧ ((t < 307 ∧ vOf t = true) ∨ t = 307)
/-- the heap of a configuration -/
def Rl (s : State) (D : va_G) (cI cJ cB cP : ClassId) (z b : Nat) (Ls : Nat × Nat × Nat) (xs : Nat → Int32) (h : Hp) (H : Heap) (locs : List Loc) : Prop :=
  va_P D vwCl (wOf cI cJ cB cP z b h.1 h.2.1) H ∧ LOK z Ls h.1 ∧ SR Ls.1 xs h.2.1 ∧ va_S (Fz z Ls) s.heap H locs ∧ (h.2.2.1 = true → s.heap.size + h.2.2.2.1 = z + h.1.length)
def WG (p : Program) (l : Launch) (e : Env) (R : Room) (s : State) (m : MethodId) (args : Array Value) (below : List Frame) (meth : Method) (c : Code) (D : va_G) (cI cJ cB cP : ClassId) (z b : Nat) (Ls : Nat × Nat × Nat) (xs : Nat → Int32) (t : Nat) (Q : State → Prop) (cf : Cf) : Prop :=
  ∀ (H : Heap) (locs : List Loc) (ls : Array Slot), Rl s D cI cJ cB cP z b Ls xs cf.2.2.2 H locs → LocRep z b (lOf t) cf.2.1 ls →
    W p l e R s m args below meth c H locs cf.2.2.2.2.2.2.1 cf.2.2.2.2.2.2.2 Q (F0 m (pcOf t cf.1) ls (cf.2.2.1.map (cv z b)))
/-- a row of the code, with what stands of it -/
def Row (t i pc len op : Nat) (a b' : Int) (c' : Nat) : Prop := (cd t)[i]? = some (pc, len, op, a, b', c') ∧ okR t (cd t) i (pc, len, op, a, b', c') = true ∧ ((op < 60 ∨ (61 ≤ op ∧ op ≤ 63)) → decode (bOf t) pc = .ok (toI (pc, len, op, a, b', c'), len))
theorem Row.next {i pc len op : Nat} {a b' : Int} {c' : Nat} (h : Row t i pc len op a b' c') (ho : ¬ (op = 34 ∨ op = 35 ∨ op = 36 ∨ (55 ≤ op ∧ op ≤ 58) ∨ op = 60 ∨ 90 ≤ op)) : pcOf t (i + 1) = pc + len := by
  have h1 := h.2.1
  unfold okR at h1
  simp only [Bool.and_eq_true] at h1
  have h2 := h1.1.1.1
  rw [if_neg ho] at h2
  have := pcOf_pcAt h2
  omega
theorem Row.jump {i pc len op : Nat} {a b' : Int} {c' : Nat} (h : Row t i pc len op a b' c') (ho : 30 ≤ op ∧ op ≤ 34) : (pc : Int) + b' = (pcOf t c' : Int) := by
  have h1 := h.2.1
  unfold okR at h1
  simp only [Bool.and_eq_true] at h1
  have h2 := h1.1.1.2
  rw [if_pos ho] at h2
  exact (pcOf_pcAt h2).symm
theorem Row.here {i pc len op : Nat} {a b' : Int} {c' : Nat} (h : Row t i pc len op a b' c') : pcOf t i = pc := pcOf_at h.1
theorem Row.last {i pc len op : Nat} {a b' : Int} {c' : Nat} (h : Row t i pc len op a b' c') : (if op ≤ 6 then decide (0 ≤ a) && (if len = 1 then decide (a < 4) else true) && decide (len = if op = 6 then 3 else if len = 1 then 1 else 2) else true) = true := by
  have h1 := h.2.1
  unfold okR at h1
  simp only [Bool.and_eq_true] at h1
  have h2 := h1.2
  by_cases q : op ≤ 6
  · rw [if_pos q] at h2 ⊢; exact h2
  · rw [if_neg q]
theorem Row.len1 {i pc len op : Nat} {a b' : Int} {c' : Nat} (h : Row t i pc len op a b' c') (ho : op < 60 ∧ ¬ op ≤ 9 ∧ op ≠ 29 ∧ ¬ (30 ≤ op ∧ op ≤ 36) ∧ op ≠ 40 ∧ op ≠ 41 ∧ ¬ (51 ≤ op ∧ op ≤ 54) ∧ op ≠ 59) : len = 1 := by
  have h1 := h.2.1
  unfold okR at h1
  simp only [Bool.and_eq_true] at h1
  have h2 := h1.2
  simp only [show ¬ op ≤ 6 by omega, show op ≠ 7 by omega, show op ≠ 8 by omega, show op ≠ 29 by omega, show op ≠ 63 by omega, show op ≠ 35 by omega, show op ≠ 36 by omega, show op ≠ 40 by omega, show op ≠ 41 by omega, show op ≠ 51 by omega,
    show op ≠ 52 by omega, show op ≠ 53 by omega, show op ≠ 54 by omega, show ¬ (op = 61 ∨ op = 62) by omega, show op ≠ 59 by omega, show ¬ (30 ≤ op ∧ op ≤ 34) by omega, show op < 60 by omega, if_false, if_true, or_self, decide_eq_true_eq] at h2
  exact h2
theorem Row.len3 {i pc len op : Nat} {a b' : Int} {c' : Nat} (h : Row t i pc len op a b' c') (ho : 30 ≤ op ∧ op ≤ 34) : len = 3 := by
  have h1 := h.2.1
  unfold okR at h1
  simp only [Bool.and_eq_true] at h1
  have h2 := h1.2
  simp only [show ¬ op ≤ 6 by omega, show op ≠ 7 by omega, show op ≠ 8 by omega, show op ≠ 29 by omega, show op ≠ 63 by omega, show op ≠ 35 by omega, show op ≠ 36 by omega, show op ≠ 40 by omega, show op ≠ 41 by omega, show op ≠ 51 by omega,
    show op ≠ 52 by omega, show op ≠ 53 by omega, show op ≠ 54 by omega, show ¬ (op = 61 ∨ op = 62) by omega, show op ≠ 59 by omega, ho, and_self, if_false, if_true, or_self, decide_eq_true_eq] at h2
  exact h2
/-- the loads -/
theorem sn_ld {i pc len op : Nat} {a b' : Int} {c' : Nat} {L st : List AV} {h : Hp} {cf' : Cf} (C : Cx p s m args meth c R D cI cJ cB cP z b Ls xs t d) (hr : Row t i pc len op a b' c') (ho : op ≤ 2) (hs : oLd op a.toNat i L st h = some cf')
    (hG : WG p l e R s m args below meth c D cI cJ cB cP z b Ls xs t Q cf') : WG p l e R s m args below meth c D cI cJ cB cP z b Ls xs t Q (i, L, st, h) := by
  obtain ⟨hx, hb, -⟩ := C
  unfold oLd at hs
  cases hv : L[a.toNat]? with
  | none => rw [hv] at hs; cases hs
  | some v =>
    rw [hv] at hs
    dsimp only at hs
    split at hs
    · rename_i hg
      cases hs
      intro H locs ls hR hL
      have K := hG H locs ls hR hL
      have hl : ls[a.toNat]? = some (.val (cv z b v)) := hL.2.2.2 _ _ hv (by omega)
      have hd := hr.2.2 (by omega)
      have hn := hr.next (by omega)
      have hq := hr.last
      rw [if_pos (by omega)] at hq
      simp only [Bool.and_eq_true, decide_eq_true_eq] at hq
      dsimp only at K ⊢
      rw [hn, List.map_cons] at K
      rw [hr.here]
      obtain ⟨g, x⟩ := v
      dsimp only at hg
      have hg := hg.symm
      subst hg
      have h3 : op = 0 ∨ op = 1 ∨ op = 2 := by omega
      rcases h3 with rfl | rfl | rfl
      · by_cases h1 : len = 1
        · subst h1
          have ha : a < 4 := by simpa using hq.1.2
          exact lv_iload_n hx hb (k := ⟨a.toNat % 4, Nat.mod_lt _ (by decide)⟩) hd (by show a.toNat % 4 = a.toNat; omega) hl K
        · have h2 : len = 2 := by have := hq.2; rw [if_neg (by decide), if_neg h1] at this; exact this
          subst h2
          exact lv_iload hx hb (i := a.toNat) hd hl K
      · by_cases hnl : x = -1
        · subst hnl
          have e1 : cv z b (1, -1) = .null := rfv_null z b
          rw [e1] at hl K
          by_cases h1 : len = 1
          · subst h1
            have ha : a < 4 := by simpa using hq.1.2
            exact lv_aload_nN hx hb (k := ⟨a.toNat % 4, Nat.mod_lt _ (by decide)⟩) hd (by show a.toNat % 4 = a.toNat; omega) hl K
          · have h2 : len = 2 := by have := hq.2; rw [if_neg (by decide), if_neg h1] at this; exact this
            subst h2
            exact lv_aloadN hx hb (i := a.toNat) hd hl K
        · obtain ⟨q, e1⟩ := rfv_ref z b hnl
          have e1 : cv z b (1, x) = .ref q := e1
          rw [e1] at hl K
          by_cases h1 : len = 1
          · subst h1
            have ha : a < 4 := by simpa using hq.1.2
            exact lv_aload_n hx hb (k := ⟨a.toNat % 4, Nat.mod_lt _ (by decide)⟩) hd (by show a.toNat % 4 = a.toNat; omega) hl K
          · have h2 : len = 2 := by have := hq.2; rw [if_neg (by decide), if_neg h1] at this; exact this
            subst h2
            exact lv_aload hx hb (i := a.toNat) hd hl K
      · by_cases h1 : len = 1
        · subst h1
          have ha : a < 4 := by simpa using hq.1.2
          exact lv_lload_n hx hb (k := ⟨a.toNat % 4, Nat.mod_lt _ (by decide)⟩) hd (by show a.toNat % 4 = a.toNat; omega) hl K
        · have h2 : len = 2 := by have := hq.2; rw [if_neg (by decide), if_neg h1] at this; exact this
          subst h2
          exact lv_lload hx hb (i := a.toNat) hd hl K
    · cases hs
/-- the stores -/
theorem sn_st {i pc len op : Nat} {a b' : Int} {c' : Nat} {L st : List AV} {h : Hp} {cf' : Cf} (C : Cx p s m args meth c R D cI cJ cB cP z b Ls xs t d) (hr : Row t i pc len op a b' c') (ho : op = 3 ∨ op = 4) (hs : oSt (op - 3) a.toNat i L st h = some cf')
    (hG : WG p l e R s m args below meth c D cI cJ cB cP z b Ls xs t Q cf') : WG p l e R s m args below meth c D cI cJ cB cP z b Ls xs t Q (i, L, st, h) := by
  obtain ⟨hx, hb, -⟩ := C
  unfold oSt at hs
  cases st with
  | nil => cases hs
  | cons v r =>
    dsimp only at hs
    split at hs
    · rename_i hg
      obtain ⟨hg, hk, hp⟩ := hg
      cases hs
      intro H locs ls hR hL
      have hd := hr.2.2 (by omega)
      have hn := hr.next (by omega)
      have hq := hr.last
      rw [if_pos (by omega)] at hq
      simp only [Bool.and_eq_true, decide_eq_true_eq] at hq
      have hkn : a.toNat < lOf t := by rw [← hL.1]; exact hk
      dsimp only
      rw [hr.here, List.map_cons]
      obtain ⟨g, x⟩ := v
      dsimp only at hg
      subst hg
      have K : ∀ ls', lv_has ls' (lOf t) ((a.toNat, cv z b (op - 3, x)) :: (lvl z b L).filter (fun q => !(q.1 == a.toNat) && !(q.1 + 1 == a.toNat && q.2.category == 2))) →
          W p l e R s m args below meth c H locs h.2.2.2.1 h.2.2.2.2 Q (F0 m (pc + len) ls' (r.map (cv z b))) := by
        intro ls' h'
        have K := hG H locs ls' hR (hL.st1 hk hp h')
        dsimp only at K
        rw [hn] at K
        exact K
      rcases ho with rfl | rfl
      · by_cases h1 : len = 1
        · subst h1
          have ha : a < 4 := by simpa using hq.1.2
          exact lv_istore_n hx hb (k := ⟨a.toNat % 4, Nat.mod_lt _ (by decide)⟩) hd (by show a.toNat % 4 = a.toNat; omega) hL.has hkn rfl K
        · have h2 : len = 2 := by have := hq.2; rw [if_neg (by decide), if_neg h1] at this; exact this
          subst h2
          exact lv_istore hx hb (i := a.toNat) hd hL.has hkn rfl K
      · by_cases hnl : x = -1
        · subst hnl
          have e1 : cv z b (4 - 3, -1) = .null := rfv_null z b
          rw [e1] at K ⊢
          by_cases h1 : len = 1
          · subst h1
            have ha : a < 4 := by simpa using hq.1.2
            exact lv_astore_nN hx hb (k := ⟨a.toNat % 4, Nat.mod_lt _ (by decide)⟩) hd (by show a.toNat % 4 = a.toNat; omega) hL.has hkn rfl K
          · have h2 : len = 2 := by have := hq.2; rw [if_neg (by decide), if_neg h1] at this; exact this
            subst h2
            exact lv_astoreN hx hb (i := a.toNat) hd hL.has hkn rfl K
        · obtain ⟨q, e1⟩ := rfv_ref z b hnl
          have e1 : cv z b (4 - 3, x) = .ref q := e1
          rw [e1] at K ⊢
          by_cases h1 : len = 1
          · subst h1
            have ha : a < 4 := by simpa using hq.1.2
            exact lv_astore_n hx hb (k := ⟨a.toNat % 4, Nat.mod_lt _ (by decide)⟩) hd (by show a.toNat % 4 = a.toNat; omega) hL.has hkn rfl K
          · have h2 : len = 2 := by have := hq.2; rw [if_neg (by decide), if_neg h1] at this; exact this
            subst h2
            exact lv_astore hx hb (i := a.toNat) hd hL.has hkn rfl K
    · cases hs
theorem sn_sl {i pc len : Nat} {a b' : Int} {c' : Nat} {L st : List AV} {h : Hp} {cf' : Cf} (C : Cx p s m args meth c R D cI cJ cB cP z b Ls xs t d) (hr : Row t i pc len 5 a b' c') (hs : oSl a.toNat i L st h = some cf')
    (hG : WG p l e R s m args below meth c D cI cJ cB cP z b Ls xs t Q cf') : WG p l e R s m args below meth c D cI cJ cB cP z b Ls xs t Q (i, L, st, h) := by
  obtain ⟨hx, hb, -⟩ := C
  unfold oSl at hs
  cases st with
  | nil => cases hs
  | cons v r =>
    dsimp only at hs
    split at hs
    · rename_i hg
      obtain ⟨hg, hk, hp⟩ := hg
      cases hs
      intro H locs ls hR hL
      have hd := hr.2.2 (by omega)
      have hn := hr.next (by omega)
      have hq := hr.last
      rw [if_pos (by omega)] at hq
      simp only [Bool.and_eq_true, decide_eq_true_eq] at hq
      have hkn : a.toNat + 1 < lOf t := by rw [← hL.1]; exact hk
      dsimp only
      rw [hr.here, List.map_cons]
      obtain ⟨g, x⟩ := v
      dsimp only at hg
      subst hg
      have K : ∀ ls', lv_has ls' (lOf t) ((a.toNat, cv z b (2, x)) :: (lvl z b L).filter (fun q => !(q.1 == a.toNat) && (!(q.1 == a.toNat + 1) && !(q.1 + 1 == a.toNat && q.2.category == 2)))) →
          W p l e R s m args below meth c H locs h.2.2.2.1 h.2.2.2.2 Q (F0 m (pc + len) ls' (r.map (cv z b))) := by
        intro ls' h'
        have K := hG H locs ls' hR (hL.st2 hk hp h')
        dsimp only at K
        rw [hn] at K
        exact K
      by_cases h1 : len = 1
      · subst h1
        have ha : a < 4 := by simpa using hq.1.2
        exact lv_lstore_n hx hb (k := ⟨a.toNat % 4, Nat.mod_lt _ (by decide)⟩) hd (by show a.toNat % 4 = a.toNat; omega) hL.has hkn rfl K
      · have h2 : len = 2 := by have := hq.2; rw [if_neg (by decide), if_neg h1] at this; exact this
        subst h2
        exact lv_lstore hx hb (i := a.toNat) hd hL.has hkn rfl K
    · cases hs
theorem sn_inc {i pc len : Nat} {a b' : Int} {c' : Nat} {L st : List AV} {h : Hp} {cf' : Cf} (C : Cx p s m args meth c R D cI cJ cB cP z b Ls xs t d) (hr : Row t i pc len 6 a b' c') (hs : oInc a.toNat b' i L st h = some cf')
    (hG : WG p l e R s m args below meth c D cI cJ cB cP z b Ls xs t Q cf') : WG p l e R s m args below meth c D cI cJ cB cP z b Ls xs t Q (i, L, st, h) := by
  obtain ⟨hx, hb, -⟩ := C
  unfold oInc at hs
  cases hv : L[a.toNat]? with
  | none => rw [hv] at hs; cases hs
  | some v =>
    obtain ⟨g, x⟩ := v
    rw [hv] at hs
    match g with
    | g + 1 => cases hs
    | 0 =>
      by_cases hp : a.toNat = 0 ∨ (L.getD (a.toNat - 1) (3, 0)).1 ≠ 2
      · have hs : some (i + 1, L.set a.toNat (0, (i32 x + i32 b').toInt), st, h) = some cf' := by rw [← hs]; exact (if_pos hp).symm
        cases hs
        intro H locs ls hR hL
        have hd := hr.2.2 (by omega)
        have hn := hr.next (by omega)
        have hq := hr.last
        rw [if_pos (by omega)] at hq
        simp only [Bool.and_eq_true, decide_eq_true_eq] at hq
        have hk : a.toNat < L.length := (List.getElem?_eq_some_iff.mp hv).1
        have hkn : a.toNat < lOf t := by rw [← hL.1]; exact hk
        have hlen : len = 3 := by simpa using hq.2
        subst hlen
        dsimp only
        rw [hr.here]
        obtain ⟨j, hj⟩ := List.getElem?_of_mem (lvl_mem (z := z) (b := b) (L := L) (q := (a.toNat, cv z b (0, x))) |>.mpr ⟨_, hv, Nat.zero_le 2, rfl⟩)
        refine lv_iinc hx hb (k := j) hd hL.has hj rfl hkn rfl fun ls' h' => ?_
        have e2 : Value.int (i32 x + Int32.ofInt b') = cv z b (0, (i32 x + i32 b').toInt) := by
          show _ = Value.int (i32 _)
          rw [i32_toInt]; rfl
        rw [e2] at h'
        have K := hG H locs ls' hR (hL.st1 hk hp h')
        dsimp only at K
        rw [hn] at K
        exact K
      · have hs : (none : Option Cf) = some cf' := by rw [← hs]; exact (if_neg hp).symm
        cases hs
end SND
