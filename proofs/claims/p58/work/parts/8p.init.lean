/-! the constructors: the abstract machine over closed data, its memory a list of writes -/
/-- a write: (0, a, k, v) one element, (1, a, ci, _) a new cell -/
abbrev Wr := Nat × Int × Int × Int
def ap1 (w : Wr) (M : Mem) : Mem := if w.1 = 0 then up M w.2.1 w.2.2.1 w.2.2.2 else zr M w.2.1 w.2.2.1.toNat
def app : List Wr → Mem → Mem
  | [], M => M
  | w :: r, M => ap1 w (app r M)
abbrev SHp := List Cel × List Wr × Bool × Nat × Nat
abbrev SCf := Nat × List AV × List AV × SHp
def mem0 : Mem := fun _ _ => 0
def hp0 : Hp := ([], mem0, true, 0, 0)
def purB (op : Nat) : Bool := op = 0 || op = 1 || op = 3 || op = 4 || op = 6 || op = 7 || op = 25 || op = 30 || op = 31 || op = 34 || op = 63
theorem pur_ok {d t op : Nat} {a b : Int} {c i : Nat} {L st : List AV} (hp : purB op = true) {i' : Nat} {L' st' : List AV} {h1 : Hp} (h : stp d t op a b c i L st hp0 = some (i', L', st', h1)) (H : Hp) : stp d t op a b c i L st H = some (i', L', st', H) := by
  simp only [purB, Bool.or_eq_true, decide_eq_true_eq] at hp
  have ld : ∀ g k, oLd g k i L st hp0 = some (i', L', st', h1) → oLd g k i L st H = some (i', L', st', H) := fun g k q => by
    unfold oLd at q ⊢
    split at q
    · split at q
      · rename_i e
        rw [if_pos e]
        cases q; rfl
      · cases q
    · cases q
  have sto : ∀ g k, oSt g k i L st hp0 = some (i', L', st', h1) → oSt g k i L st H = some (i', L', st', H) := fun g k q => by
    unfold oSt at q ⊢
    split at q
    · split at q
      · rename_i e
        (try dsimp only)
        rw [if_pos e]
        cases q; rfl
      · cases q
    · cases q
  rcases hp with (((((((((rfl | rfl) | rfl) | rfl) | rfl) | rfl) | rfl) | rfl) | rfl) | rfl) | rfl
  · exact ld _ _ h
  · exact ld _ _ h
  · exact sto _ _ h
  · exact sto _ _ h
  · have q : oInc a.toNat b i L st hp0 = some (i', L', st', h1) := h
    show oInc a.toNat b i L st H = _
    unfold oInc at q ⊢
    split at q
    · rename_i x e
      split at q
      · rename_i e2
        (try rw [e])
        (try dsimp only)
        rw [if_pos e2]
        cases q; rfl
      · cases q
    · cases q
  · have q : some (i + 1, L, (0, a) :: st, hp0) = some (i', L', st', h1) := h
    show some (i + 1, L, (0, a) :: st, H) = _
    cases q; rfl
  · have q : oDup 25 i L st hp0 = some (i', L', st', h1) := h
    show oDup 25 i L st H = _
    unfold oDup at q ⊢
    split at q
    · split at q
      · cases q
      · rename_i e
        (try dsimp only)
        rw [if_neg e]
        rw [if_pos rfl] at q ⊢
        cases q; rfl
    · cases q
  · have q : oIf a c i L st hp0 = some (i', L', st', h1) := h
    show oIf a c i L st H = _
    unfold oIf at q ⊢
    split at q
    · (try dsimp only)
      cases q; rfl
    · cases q
  · have q : oIf2 a c i L st hp0 = some (i', L', st', h1) := h
    show oIf2 a c i L st H = _
    unfold oIf2 at q ⊢
    split at q
    · (try dsimp only)
      cases q; rfl
    · cases q
  · have q : some (c, L, st, hp0) = some (i', L', st', h1) := h
    show some (c, L, st, H) = _
    cases q; rfl
  · have q : some (i + 1, L, (0, a) :: st, hp0) = some (i', L', st', h1) := h
    show some (i + 1, L, (0, a) :: st, H) = _
    cases q; rfl
def sGet (ci f i : Nat) (L st : List AV) (h : SHp) : Option SCf := match st with
  | (1, p) :: r => if p < 0 then none else match h.1[p.toNat]? with
    | some (0, cj, rs) => if cj = ci ∧ ftag ci f = 1 then some (i + 1, L, (1, rs.getD f (-1)) :: r, h) else none
    | _ => none
  | _ => none
theorem sGet_ok {ci f i : Nat} {L st : List AV} {S : List Cel} {W : List Wr} {g : Bool} {cc ss : Nat} {i' : Nat} {L' st' : List AV} {S' : List Cel} {W' : List Wr} {g' : Bool} {c' s' : Nat} (h : sGet ci f i L st (S, W, g, cc, ss) = some (i', L', st', (S', W', g', c', s'))) (M : Mem) : oGet ci f i L st (S, app W M, g, cc, ss) = some (i', L', st', (S', app W' M, g', c', s')) := by
  unfold sGet at h
  dsimp only at h
  split at h
  · rename_i p r
    split at h
    · cases h
    · rename_i hp
      split at h
      · rename_i cj rs e
        split at h
        · rename_i e2
          cases h
          simp [oGet, hp, e, e2.1, fv, e2.2]
        · cases h
      · cases h
  · cases h
def sPut (t ci f i : Nat) (L st : List AV) (h : SHp) : Option SCf := match st with
  | v :: (1, p) :: r => if p < 0 then none else match h.1[p.toNat]? with
    | some (0, cj, rs) => if cj = ci then
        (if ftag ci f = 1 then (if v.1 = 1 ∧ (cOf t).1 ≠ 0 ∧ t < 307 ∧ kOf t = ci ∧ f < rs.length then some (i + 1, L, r, (h.1.set p.toNat (0, ci, rs.set f v.2), h.2)) else none)
         else if v.1 = (if ftag ci f = 0 then 0 else 1) then some (i + 1, L, r, (h.1, (0, p, (f : Int), v.2) :: h.2.1, h.2.2)) else none) else none
    | _ => none
  | _ => none
theorem sPut_ok {t ci f i : Nat} {L st : List AV} {S : List Cel} {W : List Wr} {g : Bool} {cc ss : Nat} {i' : Nat} {L' st' : List AV} {S' : List Cel} {W' : List Wr} {g' : Bool} {c' s' : Nat} (h : sPut t ci f i L st (S, W, g, cc, ss) = some (i', L', st', (S', W', g', c', s'))) (M : Mem) : oPut t ci f i L st (S, app W M, g, cc, ss) = some (i', L', st', (S', app W' M, g', c', s')) := by
  unfold sPut at h
  dsimp only at h
  split at h
  · rename_i v p r
    split at h
    · cases h
    · rename_i hp
      split at h
      · rename_i cj rs e
        split at h
        · rename_i e2
          split at h
          · rename_i e3
            split at h
            · rename_i e4
              cases h
              obtain ⟨w1, w2, w3, w4, w5⟩ := e4
              simp [oPut, hp, e, e2, e3, w1, w2, w3, w4, w5]
            · cases h
          · rename_i e3
            by_cases e4 : v.1 = (if ftag ci f = 0 then 0 else 1)
            · rw [if_pos e4] at h
              cases h
              simp only [oPut, if_neg hp, e, if_pos e2, if_neg e3, if_pos e4]
              rfl
            · rw [if_neg e4] at h
              cases h
        · cases h
      · cases h
  · cases h
def sLen (i : Nat) (L st : List AV) (h : SHp) : Option SCf := match st with
  | (1, p) :: r => if p < 0 then none else match h.1[p.toNat]? with
    | some (k, n, _) => if k = 0 ∨ 4 < k then none else some (i + 1, L, (0, (n : Int)) :: r, h)
    | _ => none
  | _ => none
theorem sLen_ok {i : Nat} {L st : List AV} {S : List Cel} {W : List Wr} {g : Bool} {cc ss : Nat} {i' : Nat} {L' st' : List AV} {S' : List Cel} {W' : List Wr} {g' : Bool} {c' s' : Nat} (h : sLen i L st (S, W, g, cc, ss) = some (i', L', st', (S', W', g', c', s'))) (M : Mem) : oAlen i L st (S, app W M, g, cc, ss) = some (i', L', st', (S', app W' M, g', c', s')) := by
  unfold sLen at h
  dsimp only at h
  split at h
  · rename_i p r
    split at h
    · cases h
    · rename_i hp
      split at h
      · rename_i k n rs e
        split at h
        · cases h
        · rename_i e2
          cases h
          have q : ¬ p = -2 := by omega
          simp only [oAlen, if_neg q, if_neg hp, e, if_neg e2]
      · cases h
  · cases h
def sAst (i : Nat) (L st : List AV) (h : SHp) : Option SCf := match st with
  | v :: (0, j) :: (1, p) :: r => if p < 0 then none else match h.1[p.toNat]? with
    | some (k, n, rs) => if k = 4 ∧ 0 ≤ j ∧ j < n then
        (if v.1 = 1 ∧ 0 ≤ v.2 ∧ isPolyC h.1 v.2 = true ∧ j.toNat < rs.length then some (i + 1, L, r, (h.1.set p.toNat (4, n, rs.set j.toNat v.2), h.2)) else none) else none
    | _ => none
  | _ => none
theorem sAst_ok {i : Nat} {L st : List AV} {S : List Cel} {W : List Wr} {g : Bool} {cc ss : Nat} {i' : Nat} {L' st' : List AV} {S' : List Cel} {W' : List Wr} {g' : Bool} {c' s' : Nat} (h : sAst i L st (S, W, g, cc, ss) = some (i', L', st', (S', W', g', c', s'))) (M : Mem) : oAst 4 i L st (S, app W M, g, cc, ss) = some (i', L', st', (S', app W' M, g', c', s')) := by
  unfold sAst at h
  dsimp only at h
  split at h
  · rename_i v j p r
    split at h
    · cases h
    · rename_i hp
      split at h
      · rename_i k n rs e
        split at h
        · rename_i e2
          split at h
          · rename_i e3
            cases h
            simp only [oAst, if_neg hp, e, if_pos e2, if_pos e3, if_true]
          · cases h
        · cases h
      · cases h
  · cases h
def roomS (t c s cc ss : Nat) : Bool := decide (cc + c ≤ (cOf t).1 ∧ ss + s ≤ (cOf t).2)
def sNew (t ci i : Nat) (L st : List AV) (h : SHp) : Option SCf := match h with
  | (S, W, g, c, s) => if g = true ∧ roomS t 1 (cZ ci) c s = true then some (i + 1, L, (1, (S.length : Int)) :: st, (S ++ [(0, ci, List.replicate (cZ ci) (-1))], (1, (S.length : Int), (ci : Int), 0) :: W, g, c + 1, s + cZ ci)) else none
theorem sNew_ok {t ci i : Nat} {L st : List AV} {S : List Cel} {W : List Wr} {g : Bool} {cc ss : Nat} {i' : Nat} {L' st' : List AV} {S' : List Cel} {W' : List Wr} {g' : Bool} {c' s' : Nat} (h : sNew t ci i L st (S, W, g, cc, ss) = some (i', L', st', (S', W', g', c', s'))) (M : Mem) : oNew t ci i L st (S, app W M, g, cc, ss) = some (i', L', st', (S', app W' M, g', c', s')) := by
  unfold sNew at h
  unfold oNew
  (try dsimp only at h ⊢)
  split at h
  · rename_i e
    have e' : g = true ∧ room t 1 (cZ ci) (S, app W M, g, cc, ss) = true := e
    rw [if_pos e']
    cases h; rfl
  · cases h
def sNewa (t k i : Nat) (L st : List AV) (h : SHp) : Option SCf := match st, h with
  | (0, n) :: r, (S, W, g, c, s) => if g = true ∧ 0 ≤ n ∧ n ≤ 65536 ∧ roomS t 1 n.toNat c s = true then
      some (i + 1, L, (1, (S.length : Int)) :: r, (S ++ [(k, n.toNat, if k = 4 then List.replicate n.toNat (-1) else [])], (1, (S.length : Int), 99, 0) :: W, g, c + 1, s + n.toNat)) else none
  | _, _ => none
theorem sNewa_ok {t k i : Nat} {L st : List AV} {S : List Cel} {W : List Wr} {g : Bool} {cc ss : Nat} {i' : Nat} {L' st' : List AV} {S' : List Cel} {W' : List Wr} {g' : Bool} {c' s' : Nat} (h : sNewa t k i L st (S, W, g, cc, ss) = some (i', L', st', (S', W', g', c', s'))) (M : Mem) : oNewa t k i L st (S, app W M, g, cc, ss) = some (i', L', st', (S', app W' M, g', c', s')) := by
  unfold sNewa at h
  split at h
  · rename_i n r S1 W1 g1 c1 s1 e
    cases e
    split at h
    · rename_i e2
      have e' : g = true ∧ 0 ≤ n ∧ n ≤ 65536 ∧ room t 1 n.toNat (S, app W M, g, cc, ss) = true := e2
      cases h
      simp only [oNewa, if_pos e']
      rfl
    · cases h
  · cases h
def sObj (d i : Nat) (L st : List AV) (h : SHp) : Option SCf := match st with
  | (1, p) :: r => if 0 ≤ p ∧ 1 ≤ d ∧ r.length ≤ 4 then some (i + 1, L, r, h) else none
  | _ => none
theorem sObj_ok {d i : Nat} {L st : List AV} {S : List Cel} {W : List Wr} {g : Bool} {cc ss : Nat} {i' : Nat} {L' st' : List AV} {S' : List Cel} {W' : List Wr} {g' : Bool} {c' s' : Nat} (h : sObj d i L st (S, W, g, cc, ss) = some (i', L', st', (S', W', g', c', s'))) (M : Mem) : oObj d i L st (S, app W M, g, cc, ss) = some (i', L', st', (S', app W' M, g', c', s')) := by
  unfold sObj at h
  split at h
  · split at h
    · rename_i e
      cases h
      simp only [oObj, if_pos e]
    · cases h
  · cases h
def sPur (d t op : Nat) (a b : Int) (c i : Nat) (L st : List AV) (h : SHp) : Option SCf := match stp d t op a b c i L st hp0 with
  | some (i', L', st', _) => some (i', L', st', h)
  | none => none
def sstp (d t : Nat) (op : Nat) (a b : Int) (c : Nat) (i : Nat) (L st : List AV) (h : SHp) : Option SCf :=
  if purB op = true then sPur d t op a b c i L st h else
  if op = 40 then sGet a.toNat b.toNat i L st h else
  if op = 41 then sPut t a.toNat b.toNat i L st h else
  if op = 42 then sLen i L st h else
  if op = 50 then sAst i L st h else
  if op = 51 then sNew t a.toNat i L st h else
  if op = 52 then sNewa t (if a = 10 then 1 else if a = 11 then 2 else 3) i L st h else
  if op = 53 then sNewa t 4 i L st h else
  if op = 59 then sObj d i L st h else none
theorem sstp_ok {d t op : Nat} {a b : Int} {c i : Nat} {L st : List AV} {S : List Cel} {W : List Wr} {g : Bool} {cc ss : Nat} {i' : Nat} {L' st' : List AV} {S' : List Cel} {W' : List Wr} {g' : Bool} {c' s' : Nat} (h : sstp d t op a b c i L st (S, W, g, cc, ss) = some (i', L', st', (S', W', g', c', s'))) (M : Mem) : stp d t op a b c i L st (S, app W M, g, cc, ss) = some (i', L', st', (S', app W' M, g', c', s')) ∧ isEnd op = false ∧ op ≠ 54 ∧ op ≠ 61 := by
  unfold sstp at h
  split at h
  · rename_i hp
    unfold sPur at h
    split at h
    · rename_i i1 L1 st1 h1 e
      refine ⟨?_, ?_⟩
      · have := pur_ok hp e (S, app W M, g, cc, ss)
        cases h; exact this
      · simp only [purB, Bool.or_eq_true, decide_eq_true_eq] at hp
        refine ⟨decide_eq_false (by omega), by omega, by omega⟩
    · cases h
  split at h
  · rename_i e; subst e
    exact ⟨sGet_ok h M, rfl, by decide, by decide⟩
  split at h
  · rename_i e; subst e
    exact ⟨sPut_ok h M, rfl, by decide, by decide⟩
  split at h
  · rename_i e; subst e
    exact ⟨sLen_ok h M, rfl, by decide, by decide⟩
  split at h
  · rename_i e; subst e
    exact ⟨sAst_ok h M, rfl, by decide, by decide⟩
  split at h
  · rename_i e; subst e
    exact ⟨sNew_ok h M, rfl, by decide, by decide⟩
  split at h
  · rename_i e; subst e
    exact ⟨sNewa_ok h M, rfl, by decide, by decide⟩
  split at h
  · rename_i e; subst e
    exact ⟨sNewa_ok h M, rfl, by decide, by decide⟩
  split at h
  · rename_i e; subst e
    exact ⟨sObj_ok h M, rfl, by decide, by decide⟩
  · cases h
/-- runs until row z (false), or to the method's end (true) -/
noncomputable def srun : Nat → Nat → Nat → Option Nat → SCf → Option (Bool × SCf)
  | 0, _, _, _, _ => none
  | n + 1, d, t, z, (i, L, st, (S, W, g, cc, ss)) =>
    if z = some i then some (false, (i, L, st, (S, W, g, cc, ss))) else
    match (cd t)[i]? with
    | none => none
    | some (_, _, op, a, b, c) =>
      if op = 54 then
        (if calls d t a.toNat st (S, mem0, g, cc, ss) = true then
          match srun n (d - 1) a.toNat none (0, entL a.toNat ((st.take (nArg a.toNat)).reverse), [], (S, W, g, 0, 0)) with
          | some (true, (_, _, _, (S', W', g', _, _))) => srun n d t z (i + 1, L, st.drop (nArg a.toNat), (S', W', g && g', cc + (cOf a.toNat).1, ss + (cOf a.toNat).2))
          | _ => none
        else none) else
      if op = 56 then (if st = [] ∧ zOf t = 0 ∧ spent t (S, mem0, g, cc, ss) = true then some (true, (i, L, st, (S, W, g, cc, ss))) else none) else
      match sstp d t op a b c i L st (S, W, g, cc, ss) with
      | none => none
      | some cf => srun n d t z cf
theorem srun_ok : ∀ (n d t : Nat) (z : Option Nat) (i : Nat) (L st : List AV) (S : List Cel) (W : List Wr) (g : Bool) (cc ss : Nat) (e : Bool) (i2 : Nat) (L2 st2 : List AV) (S2 : List Cel) (W2 : List Wr) (g2 : Bool) (c2 s2 : Nat), srun n d t z (i, L, st, (S, W, g, cc, ss)) = some (e, (i2, L2, st2, (S2, W2, g2, c2, s2))) →
    ∀ M : Mem, (e = true → ∃ m, run m d t (i, L, st, (S, app W M, g, cc, ss)) = some ((4, 0), (S2, app W2 M, g2, c2, s2))) ∧ (e = false → ∀ m r, run m d t (i2, L2, st2, (S2, app W2 M, g2, c2, s2)) = some r → ∃ m', run m' d t (i, L, st, (S, app W M, g, cc, ss)) = some r) := by
  intro n
  induction n with
  | zero => intro d t z i L st S W g cc ss e i2 L2 st2 S2 W2 g2 c2 s2 h; cases h
  | succ n IH =>
  intro d t z i L st S W g cc ss e i2 L2 st2 S2 W2 g2 c2 s2 h M
  unfold srun at h
  split at h
  · cases h
    exact ⟨fun q => (by cases q), fun _ m r q => ⟨m, q⟩⟩
  split at h
  · cases h
  rename_i pc len op a b c hc
  split at h
  · rename_i ho
    subst ho
    split at h
    · rename_i hcal
      have hcal' : calls d t a.toNat st (S, app W M, g, cc, ss) = true := hcal
      split at h
      · rename_i i1 L1 st1 S' W' g' c1 s1 hcl
        obtain ⟨m1, q1⟩ := (IH _ _ _ _ _ _ _ _ _ _ _ _ _ _ _ _ _ _ _ _ hcl M).1 rfl
        have q2 := IH _ _ _ _ _ _ _ _ _ _ _ _ _ _ _ _ _ _ _ _ h M
        have back : ∀ (m2 : Nat) (r : AV × Hp), run m2 d t (i + 1, L, st.drop (nArg a.toNat), (S', app W' M, (g && g'), cc + (cOf a.toNat).1, ss + (cOf a.toNat).2)) = some r → ∃ m', run m' d t (i, L, st, (S, app W M, g, cc, ss)) = some r := fun m2 r q => by
          refine ⟨m1 + m2 + 1, ?_⟩
          have q1' := run_mono (m := m1 + m2) q1 (by omega)
          have q' := run_mono (m := m1 + m2) q (by omega)
          unfold run
          rw [hc]
          dsimp only
          rw [if_neg (by decide), if_pos rfl, if_pos hcal', q1']
          dsimp only
          rw [if_neg (by decide)]
          exact q'
        refine ⟨fun he => ?_, fun he m r q => ?_⟩
        · obtain ⟨m2, q3⟩ := q2.1 he
          exact back m2 _ q3
        · obtain ⟨m2, q3⟩ := q2.2 he m r q
          exact back m2 _ q3
      · cases h
    · cases h
  rename_i ho
  split at h
  · rename_i h56
    subst h56
    split at h
    · rename_i hg
      obtain ⟨g1, g2_, g3⟩ := hg
      cases h
      refine ⟨fun _ => ⟨1, ?_⟩, fun q => (by cases q)⟩
      unfold run
      rw [hc]
      dsimp only
      rw [if_pos (show isEnd 56 = true from rfl)]
      unfold fin
      have g3' : spent t (S, app W M, g, cc, ss) = true := g3
      rw [if_pos rfl, if_pos ⟨g1, g2_, g3'⟩]
    · cases h
  split at h
  · cases h
  · rename_i cf hs
    obtain ⟨i1, L1, st1, S1, W1, g1, c1, s1⟩ := cf
    obtain ⟨k1, k2, k3, k4⟩ := sstp_ok hs M
    have q2 := IH _ _ _ _ _ _ _ _ _ _ _ _ _ _ _ _ _ _ _ _ h M
    have back : ∀ (m2 : Nat) (r : AV × Hp), run m2 d t (i1, L1, st1, (S1, app W1 M, g1, c1, s1)) = some r → ∃ m', run m' d t (i, L, st, (S, app W M, g, cc, ss)) = some r := fun m2 r q => by
      refine ⟨m2 + 1, ?_⟩
      unfold run
      rw [hc]
      dsimp only
      rw [if_neg (by rw [k2]; decide), if_neg k3, if_neg k4, k1]
      exact q
    refine ⟨fun he => ?_, fun he m r q => ?_⟩
    · obtain ⟨m2, q3⟩ := q2.1 he
      exact back m2 _ q3
    · obtain ⟨m2, q3⟩ := q2.2 he m r q
      exact back m2 _ q3
/-- what stands in a memory of writes -/
def lk1 : List Wr → Int → Int → Option Int
  | [], _, _ => none
  | (0, a', k', v) :: r, a, k => if a = a' ∧ k = k' then some v else lk1 r a k
  | (_ + 1, a', ci, _) :: r, a, k => if a = a' then some (if ftag ci.toNat k.toNat = 2 then -1 else 0) else lk1 r a k
theorem lk1_ok : ∀ (W : List Wr) (a k v : Int), lk1 W a k = some v → ∀ M, app W M a k = v
  | [], _, _, _, h, _ => by cases h
  | (0, a', k', v') :: r, a, k, v, h, M => by
    unfold lk1 at h
    show up (app r M) a' k' v' a k = v
    unfold up
    split at h
    · rename_i e; rw [if_pos e]; cases h; rfl
    · rename_i e; rw [if_neg e]; exact lk1_ok r a k v h M
  | (n + 1, a', ci, w) :: r, a, k, v, h, M => by
    unfold lk1 at h
    show zr (app r M) a' ci.toNat a k = v
    unfold zr
    split at h
    · rename_i e; rw [if_pos e]; cases h; rfl
    · rename_i e; rw [if_neg e]; exact lk1_ok r a k v h M
/-- a row of nothing but zeros -/
def zrow : List Wr → Int → Bool
  | [], _ => false
  | (0, a', _, _) :: r, a => decide (a ≠ a') && zrow r a
  | (_ + 1, a', ci, _) :: r, a => if a = a' then decide (ci = 99) else zrow r a
theorem zrow_ok : ∀ (W : List Wr) (a : Int), zrow W a = true → ∀ M k, app W M a k = 0
  | [], _, h, _, _ => by cases h
  | (0, a', k', v') :: r, a, h, M, k => by
    unfold zrow at h
    rw [Bool.and_eq_true] at h
    have h1 := of_decide_eq_true h.1
    show up (app r M) a' k' v' a k = 0
    unfold up
    rw [if_neg (fun q => h1 q.1)]
    exact zrow_ok r a h.2 M k
  | (n + 1, a', ci, w) :: r, a, h, M, k => by
    unfold zrow at h
    show zr (app r M) a' ci.toNat a k = 0
    unfold zr
    split at h
    · rename_i e
      rw [if_pos e, of_decide_eq_true h]
      show (if ftag 99 k.toNat = 2 then (-1 : Int) else 0) = 0
      have : ftag 99 k.toNat = 0 := rfl
      rw [this, if_neg (by decide)]
    · rename_i e; rw [if_neg e]; exact zrow_ok r a h M k
/-- a row that is not written -/
def frow (W : List Wr) (a : Int) : Bool := W.all fun w => decide (a ≠ w.2.1)
theorem frow_ok : ∀ (W : List Wr) (a : Int), frow W a = true → ∀ M, app W M a = M a
  | [], _, _, _ => rfl
  | w :: r, a, h, M => by
    unfold frow at h
    rw [List.all_cons, Bool.and_eq_true] at h
    have h1 := of_decide_eq_true h.1
    show ap1 w (app r M) a = M a
    rw [← frow_ok r a h.2 M]
    unfold ap1
    funext k
    split
    · unfold up; rw [if_neg (fun q => h1 q.1)]
    · unfold zr; rw [if_neg h1]
theorem frow_lt {W : List Wr} {b : Int} (h : (W.all fun w => decide (b ≤ w.2.1)) = true) {a : Int} (ha : a < b) (M : Mem) : app W M a = M a := by
  refine frow_ok W a ?_ M
  unfold frow
  rw [List.all_eq_true] at h ⊢
  intro w hw
  have := of_decide_eq_true (h w hw)
  exact decide_eq_true (by omega)
theorem LAY_of {b : Nat} {S : List Cel} (h : ((List.range b).all fun j => decide (S0[j]? = S[j]?)) = true) : LAY b S := fun j c hj hc => by
  have := of_decide_eq_true (List.all_eq_true.mp h j (List.mem_range.mpr hj))
  rw [← this]; exact hc
theorem LAY_app {b : Nat} {S T : List Cel} (h : LAY b S) (hT : ∀ (j : Nat) (c : Cel), S[j]? = some c → T[j]? = some c) : LAY b T := fun j c hj hc => hT j c (h j c hj hc)
/-- a call, step by step -/
theorem rn_call {m m2 d t i pc len c : Nat} {a b : Int} {L st : List AV} {S : List Cel} {M : Mem} {g : Bool} {cc ss : Nat} {S' : List Cel} {M' : Mem} {g' : Bool} {x y : Nat} {v : AV} {r : AV × Hp} {cl : Nat × Nat} (hc : (cd t)[i]? = some (pc, len, 54, a, b, c)) (hcal : calls d t a.toNat st (S, mem0, g, cc, ss) = true)
    (hR : run m (d - 1) a.toNat (0, entL a.toNat ((st.take (nArg a.toNat)).reverse), [], (S, M, g, 0, 0)) = some (v, (S', M', g', x, y))) (hv : v.1 ≠ 9) (hcl : cOf a.toNat = cl)
    (hG : run m2 d t (i + 1, L, pushR v (st.drop (nArg a.toNat)), (S', M', (g && g'), cc + cl.1, ss + cl.2)) = some r) : ∃ m', run m' d t (i, L, st, (S, M, g, cc, ss)) = some r := by
  subst hcl
  have hcal' : calls d t a.toNat st (S, M, g, cc, ss) = true := hcal
  refine ⟨m + m2 + 1, ?_⟩
  have q1' := run_mono (m := m + m2) hR (by omega)
  have q' := run_mono (m := m + m2) hG (by omega)
  unfold run
  rw [hc]
  dsimp only
  rw [if_neg (by decide), if_pos rfl, if_pos hcal', q1']
  dsimp only
  rw [if_neg hv]
  exact q'
