/-! the law's own say(o, text) -/
theorem run_ret : ∀ (n : Nat) (d t : Nat) (cf : Cf) (r : AV) (h' : Hp), run n d t cf = some (r, h') → r.1 = 9 ∨ zOf t = 0 ∨ zOf t = 4 ∨ (r.1 = 0 ∧ (zOf t = 1 ∨ zOf t = 2)) ∨ (r.1 = 2 ∧ zOf t = 3) := by
  intro n
  induction n with
  | zero => intro d t cf r h' h; cases h
  | succ n ih =>
    intro d t cf r h' hrun
    obtain ⟨i, L, st, h⟩ := cf
    unfold run at hrun
    split at hrun
    · cases hrun
    rename_i pc len op a b c hrow
    split at hrun
    · unfold fin at hrun
      split at hrun
      · split at hrun
        · rename_i q; exact Or.inr (Or.inl q.2.1)
        · cases hrun
      split at hrun
      · split at hrun
        · cases hrun; exact Or.inl rfl
        · cases hrun
      split at hrun
      · split at hrun
        · cases hrun
        split at hrun
        · split at hrun
          · rename_i q
            cases hrun
            refine Or.inr (Or.inr (Or.inr (Or.inl ⟨q.1, ?_⟩)))
            rcases q.2 with q | q
            · exact Or.inl q
            · exact Or.inr q.1
          · cases hrun
        split at hrun
        · split at hrun
          · rename_i q; exact Or.inr (Or.inr (Or.inl q.2))
          · cases hrun
        split at hrun
        · split at hrun
          · rename_i q; cases hrun; exact Or.inr (Or.inr (Or.inr (Or.inr q)))
          · cases hrun
        · cases hrun
      · cases hrun
    split at hrun
    · split at hrun
      · split at hrun
        · cases hrun
        · split at hrun
          · cases hrun
          · exact ih _ _ _ _ _ hrun
      · cases hrun
    split at hrun
    · split at hrun
      · split at hrun
        · cases hrun
        · exact ih _ _ _ _ _ hrun
      · cases hrun
    split at hrun
    · cases hrun
    · exact ih _ _ _ _ _ hrun
theorem s_or {a b : Nat} (ha : a < 2 ^ 23) (hb : b < 256) : nI a <<< ((8 : Int32) &&& 31) ||| nI b = nI (a * 256 + b) := by
  rw [show ((8 : Int32) &&& 31) = 8 by decide]
  apply Int32.toBitVec_inj.mp
  rw [Int32.toBitVec_or, Int32.toBitVec_shiftLeft]
  show (BitVec.ofNat 32 a <<< ((8 : Int32).toBitVec.smod 32) ||| BitVec.ofNat 32 b) = BitVec.ofNat 32 (a * 256 + b)
  rw [show ((8 : Int32).toBitVec.smod 32) = 8#32 by decide]
  apply BitVec.eq_of_toNat_eq
  show (BitVec.ofNat 32 a <<< (8#32).toNat ||| BitVec.ofNat 32 b).toNat = _
  rw [show (8#32).toNat = 8 from rfl, BitVec.toNat_or, BitVec.toNat_shiftLeft, BitVec.toNat_ofNat, BitVec.toNat_ofNat, BitVec.toNat_ofNat, Nat.mod_eq_of_lt (show a < 2 ^ 32 by omega), Nat.mod_eq_of_lt (show b < 2 ^ 32 by omega), Nat.mod_eq_of_lt (show a * 256 + b < 2 ^ 32 by omega), Nat.shiftLeft_eq, Nat.mod_eq_of_lt (show a * 2 ^ 8 < 2 ^ 32 by omega), ← Nat.shiftLeft_eq, ← Nat.shiftLeft_add_eq_or_of_lt (show b < 2 ^ 8 by omega), Nat.shiftLeft_eq]
section KK
variable {p : Program} {l : Launch} {e : Env} {R : Room} {s : State} {m : MethodId} {args : Array Value} {below : List Frame} {meth : Method} {c : Code} {Q : State → Prop} {cc : ByteArray} {nL : Nat} {I : Heap → List Loc → Prop}
/-- as JG, whatever is known of the heap -/
def KG (p : Program) (l : Launch) (e : Env) (R : Room) (s : State) (m : MethodId) (args : Array Value) (below : List Frame) (meth : Method) (c : Code) (Q : State → Prop) (nL : Nat) (I : Heap → List Loc → Prop) (cells slots pc : Nat) (lv : List (Nat × Value)) (st : List Value) : Prop :=
  ∀ (H : Heap) (locs : List Loc) (ls : Array Slot), I H locs → lv_has ls nL lv → W p l e R s m args below meth c H locs cells slots Q (F0 m pc ls st)
theorem k_iln (hx : p.tables.exec = Jvm.exec) (hb : c.code = cc) {cells slots pc : Nat} {lv : List (Nat × Value)} {st : List Value} {k : Fin 4} {i : Nat} {x : Int32} (idx : Nat) (hd : decode cc pc = .ok (.iload_n k, 1)) (hi : (k : Nat) = i) (hv : lv[idx]? = some (i, .int x)) (h : KG p l e R s m args below meth c Q nL I cells slots (pc + 1) lv (.int x :: st)) : KG p l e R s m args below meth c Q nL I cells slots (pc) lv st := fun H locs ls hI hL => by
  exact lv_iload_n hx hb hd hi (lv_at hL idx hv) (h H locs ls hI hL)
theorem k_il (hx : p.tables.exec = Jvm.exec) (hb : c.code = cc) {cells slots pc : Nat} {lv : List (Nat × Value)} {st : List Value} {i : Nat} {x : Int32} (idx : Nat) (hd : decode cc pc = .ok (.iload i, 2)) (hv : lv[idx]? = some (i, .int x)) (h : KG p l e R s m args below meth c Q nL I cells slots (pc + 2) lv (.int x :: st)) : KG p l e R s m args below meth c Q nL I cells slots (pc) lv st := fun H locs ls hI hL => by
  exact lv_iload hx hb hd (lv_at hL idx hv) (h H locs ls hI hL)
theorem k_aln (hx : p.tables.exec = Jvm.exec) (hb : c.code = cc) {cells slots pc : Nat} {lv : List (Nat × Value)} {st : List Value} {k : Fin 4} {i : Nat} {x : Nat} (idx : Nat) (hd : decode cc pc = .ok (.aload_n k, 1)) (hi : (k : Nat) = i) (hv : lv[idx]? = some (i, .ref x)) (h : KG p l e R s m args below meth c Q nL I cells slots (pc + 1) lv (.ref x :: st)) : KG p l e R s m args below meth c Q nL I cells slots (pc) lv st := fun H locs ls hI hL => by
  exact lv_aload_n hx hb hd hi (lv_at hL idx hv) (h H locs ls hI hL)
theorem k_al (hx : p.tables.exec = Jvm.exec) (hb : c.code = cc) {cells slots pc : Nat} {lv : List (Nat × Value)} {st : List Value} {i : Nat} {x : Nat} (idx : Nat) (hd : decode cc pc = .ok (.aload i, 2)) (hv : lv[idx]? = some (i, .ref x)) (h : KG p l e R s m args below meth c Q nL I cells slots (pc + 2) lv (.ref x :: st)) : KG p l e R s m args below meth c Q nL I cells slots (pc) lv st := fun H locs ls hI hL => by
  exact lv_aload hx hb hd (lv_at hL idx hv) (h H locs ls hI hL)
theorem k_isn (hx : p.tables.exec = Jvm.exec) (hb : c.code = cc) {cells slots pc : Nat} {lv : List (Nat × Value)} {st : List Value} {k : Fin 4} {i : Nat} {x : Int32} {lv' : List (Nat × Value)} (hd : decode cc pc = .ok (.istore_n k, 1)) (hi : (k : Nat) = i) (hn : i < nL) (hl : (i, Value.int x) :: lv.filter (fun q => !(q.1 == i) && !(q.1 + 1 == i && q.2.category == 2)) = lv') (h : KG p l e R s m args below meth c Q nL I cells slots (pc + 1) lv' st) : KG p l e R s m args below meth c Q nL I cells slots (pc) lv (.int x :: st) := fun H locs ls hI hL => by
  exact lv_istore_n hx hb hd hi hL hn hl fun ls2 hL2 => h H locs ls2 hI hL2
theorem k_is (hx : p.tables.exec = Jvm.exec) (hb : c.code = cc) {cells slots pc : Nat} {lv : List (Nat × Value)} {st : List Value} {i : Nat} {x : Int32} {lv' : List (Nat × Value)} (hd : decode cc pc = .ok (.istore i, 2)) (hn : i < nL) (hl : (i, Value.int x) :: lv.filter (fun q => !(q.1 == i) && !(q.1 + 1 == i && q.2.category == 2)) = lv') (h : KG p l e R s m args below meth c Q nL I cells slots (pc + 2) lv' st) : KG p l e R s m args below meth c Q nL I cells slots (pc) lv (.int x :: st) := fun H locs ls hI hL => by
  exact lv_istore hx hb hd hL hn hl fun ls2 hL2 => h H locs ls2 hI hL2
theorem k_inc (hx : p.tables.exec = Jvm.exec) (hb : c.code = cc) {cells slots pc : Nat} {lv : List (Nat × Value)} {st : List Value} {i k : Nat} {n : Int} {x v : Int32} {lv' : List (Nat × Value)} (hd : decode cc pc = .ok (.iinc i n, 3)) (hk : lv[k]? = some (i, .int x)) (hv : x + Int32.ofInt n = v) (hn : i < nL) (hl : (i, Value.int v) :: lv.filter (fun q => !(q.1 == i) && !(q.1 + 1 == i && q.2.category == 2)) = lv') (h : KG p l e R s m args below meth c Q nL I cells slots (pc + 3) lv' st) : KG p l e R s m args below meth c Q nL I cells slots (pc) lv st := fun H locs ls hI hL => by
  exact lv_iinc hx hb hd hL hk hv hn hl fun ls2 hL2 => h H locs ls2 hI hL2
theorem k_ic (hx : p.tables.exec = Jvm.exec) (hb : c.code = cc) {cells slots pc : Nat} {lv : List (Nat × Value)} {st : List Value} {n : Int} {v : Int32} (hd : decode cc pc = .ok (.iconst n, 1)) (hv : Int32.ofInt n = v) (h : KG p l e R s m args below meth c Q nL I cells slots (pc + 1) lv (.int v :: st)) : KG p l e R s m args below meth c Q nL I cells slots (pc) lv st := fun H locs ls hI hL => by
  exact lv_iconst hx hb hd hv (h H locs ls hI hL)
theorem k_bi (hx : p.tables.exec = Jvm.exec) (hb : c.code = cc) {cells slots pc : Nat} {lv : List (Nat × Value)} {st : List Value} {n : Int} {v : Int32} (hd : decode cc pc = .ok (.bipush n, 2)) (hv : (Int8.ofInt n).toInt32 = v) (h : KG p l e R s m args below meth c Q nL I cells slots (pc + 2) lv (.int v :: st)) : KG p l e R s m args below meth c Q nL I cells slots (pc) lv st := fun H locs ls hI hL => by
  exact lv_bipush hx hb hd hv (h H locs ls hI hL)
theorem k_iadd (hx : p.tables.exec = Jvm.exec) (hb : c.code = cc) {cells slots pc : Nat} {lv : List (Nat × Value)} {st : List Value} {x y v : Int32} (hd : decode cc pc = .ok (.iadd, 1)) (hv : x + y = v) (h : KG p l e R s m args below meth c Q nL I cells slots (pc + 1) lv (.int v :: st)) : KG p l e R s m args below meth c Q nL I cells slots (pc) lv (.int y :: .int x :: st) := fun H locs ls hI hL => by
  subst hv; exact lv_iadd hx hb hd (h H locs ls hI hL)
theorem k_ior (hx : p.tables.exec = Jvm.exec) (hb : c.code = cc) {cells slots pc : Nat} {lv : List (Nat × Value)} {st : List Value} {x y v : Int32} (hd : decode cc pc = .ok (.ior, 1)) (hv : x ||| y = v) (h : KG p l e R s m args below meth c Q nL I cells slots (pc + 1) lv (.int v :: st)) : KG p l e R s m args below meth c Q nL I cells slots (pc) lv (.int y :: .int x :: st) := fun H locs ls hI hL => by
  subst hv; exact lv_ior hx hb hd (h H locs ls hI hL)
theorem k_ishl (hx : p.tables.exec = Jvm.exec) (hb : c.code = cc) {cells slots pc : Nat} {lv : List (Nat × Value)} {st : List Value} {x y v : Int32} (hd : decode cc pc = .ok (.ishl, 1)) (hv : x <<< (y &&& 31) = v) (h : KG p l e R s m args below meth c Q nL I cells slots (pc + 1) lv (.int v :: st)) : KG p l e R s m args below meth c Q nL I cells slots (pc) lv (.int y :: .int x :: st) := fun H locs ls hI hL => by
  subst hv; exact lv_ishl hx hb hd (h H locs ls hI hL)
theorem k_pop (hx : p.tables.exec = Jvm.exec) (hb : c.code = cc) {cells slots pc : Nat} {lv : List (Nat × Value)} {st : List Value} {v : Value} (hd : decode cc pc = .ok (.pop, 1)) (hc : v.category = 1) (h : KG p l e R s m args below meth c Q nL I cells slots (pc + 1) lv st) : KG p l e R s m args below meth c Q nL I cells slots (pc) lv (v :: st) := fun H locs ls hI hL => by
  exact lv_pop hx hb hd hc (h H locs ls hI hL)
theorem k_goto (hx : p.tables.exec = Jvm.exec) (hb : c.code = cc) {cells slots pc : Nat} {lv : List (Nat × Value)} {st : List Value} {off : Int} (tgt : Nat) (hd : decode cc pc = .ok (.goto off, 3)) (ht : (pc : Int) + off = (tgt : Int)) (h : KG p l e R s m args below meth c Q nL I cells slots (tgt) lv st) : KG p l e R s m args below meth c Q nL I cells slots (pc) lv st := fun H locs ls hI hL => by
  exact lv_goto hx hb hd ht (h H locs ls hI hL)
theorem k_ge2 (hx : p.tables.exec = Jvm.exec) (hb : c.code = cc) {cells slots pc : Nat} {lv : List (Nat × Value)} {st : List Value} {x y : Int32} {off : Int} (tgt : Nat) (hd : decode cc pc = .ok (.if_icmp .ge off, 3)) (ht : (pc : Int) + off = (tgt : Int)) (h1 : y ≤ x → KG p l e R s m args below meth c Q nL I cells slots (tgt) lv st) (h2 : ¬ y ≤ x → KG p l e R s m args below meth c Q nL I cells slots (pc + 3) lv st) : KG p l e R s m args below meth c Q nL I cells slots (pc) lv (.int y :: .int x :: st) := fun H locs ls hI hL => by
  exact lv_icmp_ge hx hb hd ht (fun q => h1 q H locs ls hI hL) (fun q => h2 q H locs ls hI hL)
theorem k_lv {cells slots pc : Nat} {lv : List (Nat × Value)} {st : List Value} {lv' : List (Nat × Value)} (ks : List Nat) (hl : lv_pick lv ks = lv') (h : KG p l e R s m args below meth c Q nL I cells slots (pc) lv' st) : KG p l e R s m args below meth c Q nL I cells slots (pc) lv st := fun H locs ls hI hL => h H locs ls hI (lv_sub hL ks hl)
end KK
theorem wOf_addr {cI cJ cB cP : ClassId} {z b : Nat} {S : List Cel} {M : Mem} {k : Nat} {q : Nat × va_E} (h : (wOf cI cJ cB cP z b S M)[k]? = some q) : q.1 = z + k ∧ k < S.length := by
  have hi : k < S.length := by
    have := (List.getElem?_eq_some_iff.mp h).1
    rwa [wOf_len] at this
  simp [wOf, List.getElem?_map, List.getElem?_range hi] at h
  exact ⟨by rw [← h], hi⟩
section SS
variable {p : Program} {l : Launch} {e : Env} {R : Room} {s : State} {m : MethodId} {args : Array Value} {below : List Frame} {meth : Method} {c : Code} {Q : State → Prop}
variable {D D2 : va_G} {cI cJ cB cP cB2 : ClassId} {z b L zz a aa dd : Nat} {xs : Nat → Int32} {S : List Cel} {px : Int} {tx : List Nat}
abbrev SWj (cB2 : ClassId) (a aa : Nat) (tx : List Nat) : va_W := [jST a aa, jBY cB2 aa tx.length (lf tx)]
def SX (p : Program) (s : State) (m : MethodId) (args : Array Value) (c : Code) (R : Room) (D D2 : va_G) (cI cJ cB cP cB2 : ClassId) (z b L zz a aa dd : Nat) (xs : Nat → Int32) (S : List Cel) (px : Int) (tx : List Nat) : Prop :=
  p.tables.exec = Jvm.exec ∧ c.code = method_3_code ∧ c.maxLocals = 5 ∧ s.vm.findClass "SkewRingsLaw" = some m.cls ∧ (∀ w ∈ jw, w.before args s = true) ∧ EnvOK D cI cJ cB cP s ∧ JVK D2 cB2 s ∧ JS z s ∧ va_X b L xs s s.heap ∧ (b < z ∧ z ≤ s.heap.size ∧ L ≤ 2560) ∧ (LOR S ∧ z + S.length ≤ zz ∧ zz ≤ s.heap.size) ∧ va_D (Az zz) (SWj cB2 a aa tx) ∧ (a < s.heap.size ∧ aa < s.heap.size) ∧
    (dd + 1 ≤ R.frames ∧ 4 ≤ R.frames ∧ 40 * (dd + 1) ≤ R.locals ∧ 160 ≤ R.locals) ∧ (0 ≤ px ∧ clsAt S px 11 = true) ∧ ((∀ x ∈ tx, x < 128) ∧ tx.length < 60000)
/-- what stands of the heap -/
def SI (s : State) (D D2 : va_G) (cI cJ cB cP cB2 : ClassId) (z b L a aa : Nat) (xs : Nat → Int32) (S : List Cel) (M : Mem) (tx : List Nat) (H : Heap) (locs : List Loc) : Prop :=
  va_P D vwCl (wOf cI cJ cB cP z b S M) H ∧ SR L xs M ∧ va_P D2 jcl (SWj cB2 a aa tx) H ∧ va_S (Fz z (L, 0, 0)) s.heap H locs
theorem s_goJ (C : SX p s m args c R D D2 cI cJ cB cP cB2 z b L zz a aa dd xs S px tx) {M : Mem} {H : Heap} {locs : List Loc} {cells slots pc : Nat} {ls : Array Slot} {st0 rest : List Value} {rv : Nat × Nat → Option Value} {a9 : Array Value} {lv : List (Nat × Value)}
    (hr : va_Run p l e R s m args below meth c H locs cells slots 0 0 (F0 m pc ls st0) rest (JQc D2 zz rv (fun _ => SWj cB2 a aa tx) a9) (Az zz)) (hI : SI s D D2 cI cJ cB cP cB2 z b L a aa xs S M tx H locs) (hL : lv_has ls 5 lv)
    (kk : ∀ u : Nat × Nat, KG p l e R s m args below meth c Q 5 (SI s D D2 cI cJ cB cP cB2 z b L a aa xs S M tx) (cells + 0) (slots + 0) (pc + 3) lv ((rv u).toList ++ rest)) : W p l e R s m args below meth c H locs cells slots Q (F0 m pc ls st0) := by
  obtain ⟨hx, hb, hml, hown, hts, hE, hK2, hJ, hX, ⟨hbz, hz, hL1⟩, ⟨hS1, hS2, hS3⟩, hD, ⟨ha, haa⟩, hR, hp, htx⟩ := C
  obtain ⟨hP, hSR, hP2, hSS⟩ := hI
  intro T hT X
  obtain ⟨v, st₀, t, T', L9, h0, X', hL2, e1, e2, ⟨⟨u, hv, hw, hd⟩, hz9, hk⟩, st⟩ := hr T hT X
  have hv : v = rv u := Outcome.returned.inj hv
  subst hv
  rw [h0] at hz9 hk
  have hlow := low hP (Nat.le_trans hz hSS.1)
  obtain ⟨t2, a1, b1⟩ := kk u T'.heap (locs ++ L9) ls ⟨hP.kept fun k q hq => by
      obtain ⟨q1, q2⟩ := wOf_addr hq
      rw [e1]
      exact hk q.1 (by omega) (fun h_ => by have : zz ≤ q.1 := h_; omega), hSR, by rw [e1]; exact hw,
    ⟨Nat.le_trans hSS.1 (by rw [e1]; exact hz9), fun q h1 h2 => by
      have hq : q < z := by
        rcases Nat.lt_or_ge q z with h | h
        · exact h
        · exact absurd ⟨h, (by show q ≠ 0; omega), (by show q ≠ 0; omega)⟩ h2
      rw [e1, hk q (Nat.lt_of_lt_of_le h1 hSS.1) (fun h_ => by have : zz ≤ q := h_; omega)]
      exact hSS.2.1 q h1 h2, fun q hq => by
      rcases List.mem_append.mp hq with h | h
      · exact hSS.2.2 q h
      · have h5 : zz ≤ q.base := hL2 q h
        have h6 : q.base ≠ 0 := Nat.ne_of_gt (Nat.lt_of_lt_of_le (show 0 < zz by omega) h5)
        exact ⟨Nat.le_trans (Nat.le_trans (Nat.le_add_right z S.length) hS2) h5, h6, h6⟩⟩⟩ hL T' rfl X'
  exact ⟨t2, st t2 a1, b1⟩
theorem SX.pre (C : SX p s m args c R D D2 cI cJ cB cP cB2 z b L zz a aa dd xs S px tx) {M : Mem} {H : Heap} {locs : List Loc} {as : List Value} (hI : SI s D D2 cI cJ cB cP cB2 z b L a aa xs S M tx H locs) {U : State} (hU : U.heap = H) (hW : s.WarmedH U.vm) : JPc D2 cB2 zz as (SWj cB2 a aa tx) as.toArray U := by
  obtain ⟨hx, hb, hml, hown, hts, hE, hK2, hJ, hX, ⟨hbz, hz, hL1⟩, ⟨hS1, hS2, hS3⟩, hD, ⟨ha, haa⟩, hR, hp, htx⟩ := C
  obtain ⟨hP, hSR, hP2, hSS⟩ := hI
  have hS5 : va_S (Az z) s.heap H locs := ⟨hSS.1, fun q h1 h2 => hSS.2.1 q h1 (fun h_ => h2 h_.1), fun q hq => (hSS.2.2 q hq).1⟩
  exact ⟨rfl, by rw [hU]; exact hP2, hD, va_K.moved hW.alike hK2, JS.narrow (JS.warm hW.alike hU hS5 hJ) (Nat.le_trans (Nat.le_add_right z S.length) hS2), by rw [hU]; exact Nat.le_trans hS3 hSS.1⟩
theorem s_len (C : SX p s m args c R D D2 cI cJ cB cP cB2 z b L zz a aa dd xs S px tx) {M : Mem} {cells slots pc : Nat} {lv : List (Nat × Value)} {rest : List Value}  (hc : cells ≤ R.cells ∧ slots ≤ R.slots) (hcat : (rest.map fun v => v.category).sum ≤ 8) (hd : decode method_3_code pc = .ok (.invokevirtual 7, 3)) (h : KG p l e R s m args below meth c Q 5 (SI s D D2 cI cJ cB cP cB2 z b L a aa xs S M tx) cells slots (pc + 3) lv (.int (nI tx.length) :: rest)) : KG p l e R s m args below meth c Q 5 (SI s D D2 cI cJ cB cP cB2 z b L a aa xs S M tx) cells slots (pc) lv (.ref a :: rest) := by
  have C' := C
  obtain ⟨hx, hb, hml, hown, hts, hE, hK2, hJ, hX, ⟨hbz, hz, hL1⟩, ⟨hS1, hS2, hS3⟩, hD, ⟨ha, haa⟩, ⟨hR1, hR2, hR3, hR4⟩, hp, htx⟩ := C
  intro H locs ls hI hL
  have hrecv := va_recv hK2 hI.2.2.1 (q := ("java/lang/String", jTS, 4)) (ci := 1) rfl (q0 := 0) rfl
  have hM := jc_len (l := l) (D := D2) (cB := cB2) (zz := zz) (ws := SWj cB2 a aa tx) 0 rfl 1 rfl
  exact s_goJ C' (va_runV (Ts := jw) (rest := rest) (As := []) (b := a) ⟨hx, hb, hml, hown, hts⟩ hM ⟨callB_of 0 hts (jGood (jwsIn (jm (tb 1114 (by decide +kernel)) rfl))) rfl rfl rfl (hts _ (jm (tb 50 (by decide +kernel)) rfl)) (hts _ (jm (tb 1111 (by decide +kernel)) rfl)) (by decide +kernel) ⟨by show 1 + 1 ≤ _; omega, by show 8 + (1 + 11) + 40 * 1 ≤ _; omega⟩, hts _ (jm (tb 1112 (by decide +kernel)) rfl), hts _ (jm (tb 1113 (by decide +kernel)) rfl)⟩ ⟨JPc.blind, hrecv, fun U hU hW => C'.pre hI hU hW⟩ rfl rfl hL.1 rfl (by show 2 * 0 + _ ≤ 8; omega) hd ⟨by omega, by omega⟩) hI hL (fun _ => h)
theorem s_chr (C : SX p s m args c R D D2 cI cJ cB cP cB2 z b L zz a aa dd xs S px tx) {M : Mem} {cells slots pc : Nat} {lv : List (Nat × Value)} {rest : List Value} {i : Nat} (hi : i < tx.length) (hc : cells ≤ R.cells ∧ slots ≤ R.slots) (hcat : (rest.map fun v => v.category).sum ≤ 8) (hd : decode method_3_code pc = .ok (.invokevirtual 13, 3)) (h : KG p l e R s m args below meth c Q 5 (SI s D D2 cI cJ cB cP cB2 z b L a aa xs S M tx) cells slots (pc + 3) lv (.int (nI (tx.getD i 0)) :: rest)) : KG p l e R s m args below meth c Q 5 (SI s D D2 cI cJ cB cP cB2 z b L a aa xs S M tx) cells slots (pc) lv (.int (nI i) :: .ref a :: rest) := by
  have C' := C
  obtain ⟨hx, hb, hml, hown, hts, hE, hK2, hJ, hX, ⟨hbz, hz, hL1⟩, ⟨hS1, hS2, hS3⟩, hD, ⟨ha, haa⟩, ⟨hR1, hR2, hR3, hR4⟩, hp, htx⟩ := C
  intro H locs ls hI hL
  have hrecv := va_recv hK2 hI.2.2.1 (q := ("java/lang/String", jTS, 4)) (ci := 1) rfl (q0 := 0) rfl
  have hM := jc_ca (l := l) (D := D2) (cB := cB2) (zz := zz) (ws := SWj cB2 a aa tx) (i := i) (ch := tx.getD i 0) 0 rfl 1 rfl hi (by omega) (by rw [List.getD_eq_getElem?_getD, List.getElem?_eq_getElem hi]; exact htx.1 _ (List.getElem_mem hi)) rfl
  exact s_goJ C' (va_runV (Ts := jw) (rest := rest) (As := [.int (nI i)]) (b := a) ⟨hx, hb, hml, hown, hts⟩ hM ⟨callB_of 1 hts (jGood (jwsIn (jm (tb 1124 (by decide +kernel)) rfl))) rfl rfl rfl (hts _ (jm (tb 50 (by decide +kernel)) rfl)) (hts _ (jm (tb 1121 (by decide +kernel)) rfl)) (by decide +kernel) ⟨by show 3 + 1 ≤ _; omega, by show 8 + (2 + 11) + 40 * 3 ≤ _; omega⟩, hts _ (jm (tb 1122 (by decide +kernel)) rfl), hts _ (jm (tb 1123 (by decide +kernel)) rfl)⟩ ⟨JPc.blind, hrecv, fun U hU hW => C'.pre hI hU hW⟩ rfl rfl hL.1 rfl (by show 2 * 0 + _ ≤ 8; omega) hd ⟨by omega, by omega⟩) hI hL (fun _ => h)
theorem s_sign (C : SX p s m args c R D D2 cI cJ cB cP cB2 z b L zz a aa dd xs S px tx) {M M1 : Mem} {cells slots pc n : Nat} {lv : List (Nat × Value)} {v : AV} {x : Int} {g1 : Bool} {c1 c2 : Nat} (hc : cells ≤ R.cells ∧ slots ≤ R.slots) (hrun : run n dd 135 (0, entL 135 [(1, px), (0, x)], [], (S, M, false, 0, 0)) = some (v, (S, M1, g1, c1, c2))) (h9 : v.1 ≠ 9) (hd : decode method_3_code pc = .ok (.invokevirtual 17, 3)) (h : ∀ w : Value, w.category = 1 → KG p l e R s m args below meth c Q 5 (SI s D D2 cI cJ cB cP cB2 z b L a aa xs S M1 tx) cells slots (pc + 3) lv ([w])) : KG p l e R s m args below meth c Q 5 (SI s D D2 cI cJ cB cP cB2 z b L a aa xs S M tx) cells slots (pc) lv ([.int (i32 x), .ref (z + px.toNat)]) := by
  have C' := C
  obtain ⟨hx, hb, hml, hown, hts, hE, hK2, hJ, hX, ⟨hbz, hz, hL1⟩, ⟨hS1, hS2, hS3⟩, hD, ⟨ha, haa⟩, ⟨hR1, hR2, hR3, hR4⟩, ⟨hp0, hp1⟩, htx⟩ := C
  intro H locs ls hI hL
  obtain ⟨hP, hSR, hP2, hSS⟩ := hI
  have hM := sound l D cI cJ cB cP z b (L, a, aa) xs n dd 135 [(1, px), (0, x)] S M false v S M1 g1 c1 c2 hrun h9 ⟨by decide, by decide +kernel⟩ (Nat.le_of_ble_eq_true rfl)
  have ht := run_ret _ _ _ _ _ _ hrun
  have hz9 : zOf 135 = 1 := by decide +kernel
  rw [hz9] at ht
  have hv0 : v.1 = 0 := by omega
  obtain ⟨rs0, hcell⟩ : ∃ rs, S[px.toNat]? = some (0, 11, rs) := by
    unfold clsAt at hp1
    split at hp1
    · rename_i ci rs q
      have := of_decide_eq_true hp1
      subst this
      exact ⟨rs, q⟩
    · cases hp1
  have he := wOf_at (cI := cI) (cJ := cJ) (cB := cB) (cP := cP) (z := z) (b := b) (M := M) hcell
  rw [ent_obj] at he
  have hrecv := va_recv hE.1 hP (vwCl_at 11 (by decide)) he
  obtain ⟨m1, m2, -, m4, m5, m6, m7⟩ := MT_ok 135 (by decide) (by decide +kernel)
  have ea : ([(1, px), (0, x)] : List AV).map (cv z b) = Value.ref (z + px.toNat) :: [.int (i32 x)] := by
    show [cv z b (1, px), cv z b (0, x)] = _
    rw [show cv z b (1, px) = .ref (z + px.toNat) from rfv_cell z b hp0]
    rfl
  have hag : a ≥ zz ∧ aa ≥ zz := ⟨hD.2 0 _ rfl, hD.2 1 _ rfl⟩
  have cu : cOf 135 = (0, 0) := by decide +kernel
  have hr := va_runV (Ts := gw_tbl) (l := l) (e := e) (R := R) (H := H) (locs := locs) (cells := cells) (slots := slots) (meth := meth) (below := below) (g := F0 m pc ls [.int (i32 x), .ref (z + px.toNat)]) (rest := []) (As := [.int (i32 x)]) (b := z + px.toNat) ⟨hx, hb, hml, hown, fun w hw => hts w (List.mem_append_right _ hw)⟩ hM ⟨callB_of (aOf 135) (fun w hw => hts w (List.mem_append_right _ hw)) (wsU_In (u := 135) ⟨by decide, by decide +kernel⟩) rfl rfl rfl (hts _ (List.mem_append_right _ (gw m2 rfl))) (hts _ (jm (tb 1159 (by decide +kernel)) rfl)) ⟨m4, m5, m6⟩ ⟨by show dd + 1 ≤ _; omega, by show 8 + (lOf 135 + 11) + 40 * dd ≤ _; have := lim_ok (t := 135) (by decide); omega⟩, hts _ (jm (tb 1160 (by decide +kernel)) rfl), hts _ (jm (tb 1161 (by decide +kernel)) rfl)⟩
    ⟨SWd.blind, hrecv, fun U hU hWm => ⟨congrArg List.toArray ea.symm, ⟨hE.warm hWm, by rw [hU]; exact hP, ⟨hS1, ⟨Or.inr (by show z + S.length ≤ a; omega), Or.inr (by show z + S.length ≤ aa; omega)⟩⟩, hSR, by rw [hU]; exact (hX.moved hWm.alike).kept (hSS.2.1 b (by omega) (fun h_ => Nat.not_le.mpr hbz h_.1)), hbz, by rw [hU]; exact Nat.le_trans hz hSS.1, hL1, by rw [hU]; exact Nat.lt_of_lt_of_le ha hSS.1, by rw [hU]; exact Nat.lt_of_lt_of_le haa hSS.1⟩, fun h_ => by cases h_⟩⟩ rfl rfl hL.1 rfl (Nat.le_of_ble_eq_true rfl) hd ⟨by rw [cu]; omega, by rw [cu]; omega⟩
  intro T hT X
  obtain ⟨v9, st₀, t, T', L9, h0, X', hL2, e1, e2, ⟨hv, hw, ⟨hz1, hk⟩, -⟩, st⟩ := hr T hT X
  have hv : v9 = retv z b v := Outcome.returned.inj hv
  subst hv
  rw [h0] at hz1 hk
  obtain ⟨w1, w2, w3, w4, w5, -⟩ := hw
  obtain ⟨v1, v2⟩ := v
  dsimp only at hv0
  subst hv0
  rw [cu] at X'
  obtain ⟨t2, a1, b1⟩ := h (.int (i32 v2)) rfl T'.heap (locs ++ L9) ls ⟨by rw [e1]; exact w2, w4, hP2.kept fun k q hq => by
      rw [e1]
      match k, hq with
      | 0, hq => cases hq; exact hk a (Nat.lt_of_lt_of_le ha hSS.1) (fun h_ => h_.2.1 rfl)
      | 1, hq => cases hq; exact hk aa (Nat.lt_of_lt_of_le haa hSS.1) (fun h_ => h_.2.2 rfl)
      | k + 2, hq => simp at hq,
    ⟨Nat.le_trans hSS.1 (by rw [e1]; exact hz1), fun q h1 h2 => by
      have hq : q < z := by
        rcases Nat.lt_or_ge q z with h | h
        · exact h
        · exact absurd ⟨h, (by show q ≠ 0; omega), (by show q ≠ 0; omega)⟩ h2
      rw [e1, hk q (Nat.lt_of_lt_of_le h1 hSS.1) (fun h_ => Nat.not_le.mpr hq h_.1)]
      exact hSS.2.1 q h1 h2, fun q hq => by
      rcases List.mem_append.mp hq with h | h
      · exact hSS.2.2 q h
      · have h5 := (hL2 q h).1
        have h6 : q.base ≠ 0 := Nat.ne_of_gt (Nat.lt_of_lt_of_le (show 0 < z by omega) h5)
        exact ⟨h5, h6, h6⟩⟩⟩ hL T' rfl X'
  exact ⟨t2, st t2 a1, b1⟩
theorem s_end (C : SX p s m args c R D D2 cI cJ cB cP cB2 z b L zz a aa dd xs S px tx) {M M1 : Mem} {cells slots pc n : Nat} {lv : List (Nat × Value)} {v : AV} {x : Int} {g1 : Bool} {c1 c2 : Nat} (hc : cells ≤ R.cells ∧ slots ≤ R.slots) (hrun : run n dd 136 (0, entL 136 [(1, px), (0, x)], [], (S, M, false, 0, 0)) = some (v, (S, M1, g1, c1, c2))) (h9 : v.1 ≠ 9) (hd : decode method_3_code pc = .ok (.invokevirtual 23, 3)) (h : ∀ w : Value, w.category = 1 → KG p l e R s m args below meth c Q 5 (SI s D D2 cI cJ cB cP cB2 z b L a aa xs S M1 tx) cells slots (pc + 3) lv ([w])) : KG p l e R s m args below meth c Q 5 (SI s D D2 cI cJ cB cP cB2 z b L a aa xs S M tx) cells slots (pc) lv ([.int (i32 x), .ref (z + px.toNat)]) := by
  have C' := C
  obtain ⟨hx, hb, hml, hown, hts, hE, hK2, hJ, hX, ⟨hbz, hz, hL1⟩, ⟨hS1, hS2, hS3⟩, hD, ⟨ha, haa⟩, ⟨hR1, hR2, hR3, hR4⟩, ⟨hp0, hp1⟩, htx⟩ := C
  intro H locs ls hI hL
  obtain ⟨hP, hSR, hP2, hSS⟩ := hI
  have hM := sound l D cI cJ cB cP z b (L, a, aa) xs n dd 136 [(1, px), (0, x)] S M false v S M1 g1 c1 c2 hrun h9 ⟨by decide, by decide +kernel⟩ (Nat.le_of_ble_eq_true rfl)
  have ht := run_ret _ _ _ _ _ _ hrun
  have hz9 : zOf 136 = 2 := by decide +kernel
  rw [hz9] at ht
  have hv0 : v.1 = 0 := by omega
  obtain ⟨rs0, hcell⟩ : ∃ rs, S[px.toNat]? = some (0, 11, rs) := by
    unfold clsAt at hp1
    split at hp1
    · rename_i ci rs q
      have := of_decide_eq_true hp1
      subst this
      exact ⟨rs, q⟩
    · cases hp1
  have he := wOf_at (cI := cI) (cJ := cJ) (cB := cB) (cP := cP) (z := z) (b := b) (M := M) hcell
  rw [ent_obj] at he
  have hrecv := va_recv hE.1 hP (vwCl_at 11 (by decide)) he
  obtain ⟨m1, m2, -, m4, m5, m6, m7⟩ := MT_ok 136 (by decide) (by decide +kernel)
  have ea : ([(1, px), (0, x)] : List AV).map (cv z b) = Value.ref (z + px.toNat) :: [.int (i32 x)] := by
    show [cv z b (1, px), cv z b (0, x)] = _
    rw [show cv z b (1, px) = .ref (z + px.toNat) from rfv_cell z b hp0]
    rfl
  have hag : a ≥ zz ∧ aa ≥ zz := ⟨hD.2 0 _ rfl, hD.2 1 _ rfl⟩
  have cu : cOf 136 = (0, 0) := by decide +kernel
  have hr := va_runV (Ts := gw_tbl) (l := l) (e := e) (R := R) (H := H) (locs := locs) (cells := cells) (slots := slots) (meth := meth) (below := below) (g := F0 m pc ls [.int (i32 x), .ref (z + px.toNat)]) (rest := []) (As := [.int (i32 x)]) (b := z + px.toNat) ⟨hx, hb, hml, hown, fun w hw => hts w (List.mem_append_right _ hw)⟩ hM ⟨callB_of (aOf 136) (fun w hw => hts w (List.mem_append_right _ hw)) (wsU_In (u := 136) ⟨by decide, by decide +kernel⟩) rfl rfl rfl (hts _ (List.mem_append_right _ (gw m2 rfl))) (hts _ (jm (tb 1167 (by decide +kernel)) rfl)) ⟨m4, m5, m6⟩ ⟨by show dd + 1 ≤ _; omega, by show 8 + (lOf 136 + 11) + 40 * dd ≤ _; have := lim_ok (t := 136) (by decide); omega⟩, hts _ (jm (tb 1168 (by decide +kernel)) rfl), hts _ (jm (tb 1169 (by decide +kernel)) rfl)⟩
    ⟨SWd.blind, hrecv, fun U hU hWm => ⟨congrArg List.toArray ea.symm, ⟨hE.warm hWm, by rw [hU]; exact hP, ⟨hS1, ⟨Or.inr (by show z + S.length ≤ a; omega), Or.inr (by show z + S.length ≤ aa; omega)⟩⟩, hSR, by rw [hU]; exact (hX.moved hWm.alike).kept (hSS.2.1 b (by omega) (fun h_ => Nat.not_le.mpr hbz h_.1)), hbz, by rw [hU]; exact Nat.le_trans hz hSS.1, hL1, by rw [hU]; exact Nat.lt_of_lt_of_le ha hSS.1, by rw [hU]; exact Nat.lt_of_lt_of_le haa hSS.1⟩, fun h_ => by cases h_⟩⟩ rfl rfl hL.1 rfl (Nat.le_of_ble_eq_true rfl) hd ⟨by rw [cu]; omega, by rw [cu]; omega⟩
  intro T hT X
  obtain ⟨v9, st₀, t, T', L9, h0, X', hL2, e1, e2, ⟨hv, hw, ⟨hz1, hk⟩, -⟩, st⟩ := hr T hT X
  have hv : v9 = retv z b v := Outcome.returned.inj hv
  subst hv
  rw [h0] at hz1 hk
  obtain ⟨w1, w2, w3, w4, w5, -⟩ := hw
  obtain ⟨v1, v2⟩ := v
  dsimp only at hv0
  subst hv0
  rw [cu] at X'
  obtain ⟨t2, a1, b1⟩ := h (.int (i32 v2)) rfl T'.heap (locs ++ L9) ls ⟨by rw [e1]; exact w2, w4, hP2.kept fun k q hq => by
      rw [e1]
      match k, hq with
      | 0, hq => cases hq; exact hk a (Nat.lt_of_lt_of_le ha hSS.1) (fun h_ => h_.2.1 rfl)
      | 1, hq => cases hq; exact hk aa (Nat.lt_of_lt_of_le haa hSS.1) (fun h_ => h_.2.2 rfl)
      | k + 2, hq => simp at hq,
    ⟨Nat.le_trans hSS.1 (by rw [e1]; exact hz1), fun q h1 h2 => by
      have hq : q < z := by
        rcases Nat.lt_or_ge q z with h | h
        · exact h
        · exact absurd ⟨h, (by show q ≠ 0; omega), (by show q ≠ 0; omega)⟩ h2
      rw [e1, hk q (Nat.lt_of_lt_of_le h1 hSS.1) (fun h_ => Nat.not_le.mpr hq h_.1)]
      exact hSS.2.1 q h1 h2, fun q hq => by
      rcases List.mem_append.mp hq with h | h
      · exact hSS.2.2 q h
      · have h5 := (hL2 q h).1
        have h6 : q.base ≠ 0 := Nat.ne_of_gt (Nat.lt_of_lt_of_le (show 0 < z by omega) h5)
        exact ⟨h5, h6, h6⟩⟩⟩ hL T' rfl X'
  exact ⟨t2, st t2 a1, b1⟩
end SS
