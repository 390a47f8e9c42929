/-! THE CLAIM OUT OF ONE WALK OF THE LAW'S BODY. Your part is whole_start (and what it stands on); all else here is the same for every law, but numbers. -/
def R_law : String := "SkewRingsLaw"
def lw_P (b : Addr) (xs : List Int32) (args : Array Value) (s : State) : Prop := args = #[.ref b] ∧ s.IntsAt b xs ∧ xs.length ≤ 260 ∧ (Jvm.Cond.and given_1 narrow_1).before args s = true
def lw_Q (_ : Array Value) (s : State) (o : Outcome) (t : State) : Prop := o = .returned (some (.int 1)) ∧ Framed s o t [] 760737 6819414
def lw_Z (below : List Frame) (a : Array Value) (s : State) : State → Prop := fun t => ∃ o, t.status = .running ∧ Ended t below o ∧ lw_Q a s o t
/-- the law's own end, with 1 on the stack, nothing written that was there before, its room as the claim has it -/
theorem lw_ret {p : Program} {l : Launch} {e : Env} {s : State} {m : MethodId} {below : List Frame} {meth : Method} {c : Code} {b : Nat} (hx : p.tables.exec = Jvm.exec) (hb : c.code = code) (hr : meth.sig.returnType = ret) (hlocks : meth.locks = false) {pc : Nat} {H : Heap} {ls : Array Slot} (hdg : decode code pc = .ok (.ireturn, 1)) : W p l e room_1 s m #[Value.ref b] below meth c H [] 760737 6819414 (lw_Z below #[Value.ref b] s) (F0 m pc ls [.int 1]) := by
  intro T hT X
  obtain ⟨fs, hret, hrun, hended, hW, hframe⟩ := X.leave (v := some (.int 1)) (hlocks := hlocks) (fun h => by rw [hr] at h; cases h)
  have hmeth' : T.vm.method? m = some meth := X.method'
  refine ⟨T.setFrames fs, ?_, .returned (some (.int 1)), hrun, hended, rfl, ⟨_, rfl⟩, hW, hframe⟩
  jvm_step X.here [X.here.top, hx, hb, hdg, hmeth', hr, ret, narrow_b1]
  (try refine ⟨rfl, ?_⟩); (try refine ⟨rfl, ?_⟩)
  first | (intro acts; rw [hret _ acts rfl rfl rfl]) | rw [hret _ _ rfl rfl rfl]
  exact Steps.refl _
/-- what holds at the law's entry: the machine, the code, the tables' words (any of lw_tbl by 'hts w (by decide +kernel)'), the script of L ints xs at the cell b, what the Statement gives of the start (any of its parts by flat_of_before) -/
def lw_At (p : Program) (s : State) (m : MethodId) (meth : Method) (c : Code) (b L : Nat) (xs : Nat → Int32) : Prop :=
  p.tables.exec = Jvm.exec ∧ c.code = code ∧ meth.sig.returnType = ret ∧ c.maxLocals = 14 ∧ s.vm.findClass R_law = some m.cls ∧ (∀ w ∈ lw_tbl, w.before #[Value.ref b] s = true) ∧ va_X b L xs s s.heap ∧ b < s.heap.size ∧ meth.locks = false ∧ (Jvm.Cond.and given_1 narrow_1).before #[Value.ref b] s = true
/-- YOUR PART: from the entry, for every script of at most 260 ints, the law comes to its end with true ('hflags': the launch's flags, for a law that throws: no stack traces) -/
theorem cOf307 : cOf 307 = (760737, 6819414) := by decide +kernel
theorem inst_in : ∀ ci, ci < 13 → Cond.instantiable (cN ci) (cZ ci) ∈ lw_tbl := fun ci h => match ci, h with
  | 0, _ => tb 352 (by decide +kernel)
  | 1, _ => tb 240 (by decide +kernel)
  | 2, _ => tb 165 (by decide +kernel)
  | 3, _ => tb 72 (by decide +kernel)
  | 4, _ => tb 306 (by decide +kernel)
  | 5, _ => tb 171 (by decide +kernel)
  | 6, _ => tb 126 (by decide +kernel)
  | 7, _ => tb 120 (by decide +kernel)
  | 8, _ => tb 281 (by decide +kernel)
  | 9, _ => tb 374 (by decide +kernel)
  | 10, _ => tb 216 (by decide +kernel)
  | 11, _ => tb 64 (by decide +kernel)
  | 12, _ => tb 64 (by decide +kernel)
theorem arr_ok {args : Array Value} {s : State} {ty : FieldType} (h : (Cond.arrayClass ty).before args s = true) : ∃ cA : ClassId, ArrOfT s cA ty ∧ s.vm.findClass ("[" ++ ty.toString) = some cA := by
  obtain ⟨cA, kA, comp, h1, h2, h3⟩ := Cond.arrayClass_spec h
  exact ⟨cA, fun n z => ⟨fun k h => (by cases h), kA, h2, comp, h3⟩, h1⟩
/-- the machine's tables, as the statement gives them -/
theorem env_ok {args : Array Value} {s : State} (hts : ∀ w ∈ lw_tbl, w.before args s = true) : ∃ (D : va_G) (cI cJ cB cP : ClassId), EnvOK D cI cJ cB cP s := by
  have hk : ∀ ci, ci < 13 → ∃ (cC : ClassId) (iS : Nat → Nat), u_Kn s (cN ci) (cT ci) (cZ ci) cC iS := fun ci h => u_known hts (cls_in ci h) (hts _ (inst_in ci h))
  have hk2 : ∀ ci : Nat, ∃ q : ClassId × (Nat → Nat), ci < 13 → u_Kn s (cN ci) (cT ci) (cZ ci) q.1 q.2 := fun ci => by
    by_cases h : ci < 13
    · obtain ⟨cC, iS, q⟩ := hk ci h
      exact ⟨(cC, iS), fun _ => q⟩
    · obtain ⟨cC, iS, -⟩ := hk 0 (by decide)
      exact ⟨(cC, iS), fun q => absurd q h⟩
  obtain ⟨f, hf⟩ := Classical.axiomOfChoice hk2
  obtain ⟨cI, i1, i2⟩ := arr_ok (hts _ tb_ai.1)
  obtain ⟨cJ, j1, j2⟩ := arr_ok (hts _ tb_ai.2.1)
  obtain ⟨cB, b1, b2⟩ := arr_ok (hts _ tb_ai.2.2.1)
  obtain ⟨comp, cP, kP, o1, -, o3, o4, o5⟩ := Cond.arrayOver_spec (hts _ tb_ai.2.2.2)
  refine ⟨(fun ci => (f ci).1, fun ci => (f ci).2), cI, cJ, cB, cP, ⟨fun ci q hq => ?_, fun k q hq => ?_⟩, fun w hw hn => va_Nw.of (by cases w <;> first | rfl | (cases hn)) (hts w hw), va_AO.of (hts _ tb_ai.2.2.2)⟩
  · have hl : ci < 13 := (List.getElem?_eq_some_iff.mp hq).1
    rw [vwCl_at ci hl] at hq
    cases hq
    exact hf ci hl
  · match k, hq with
    | 0, hq => cases hq; exact ⟨i1, i2⟩
    | 1, hq => cases hq; exact ⟨j1, j2⟩
    | 2, hq => cases hq; exact ⟨b1, b2⟩
    | 3, hq => cases hq; exact ⟨fun n z => ⟨fun k h => (by cases h), kP, o3, comp, o4⟩, kP, comp, o3, o4, o1, o5⟩
    | k + 4, hq => cases hq
theorem dgO_in : ∀ j : Fin 100, (flatC (Jvm.Cond.and given_1 narrow_1))[14 + j.val]? = some (Cond.eq (.elem (.static "java/lang/Integer" "DigitOnes" "[B") (.int (Int32.ofNat j.val))) (.int (nI (48 + j.val % 10)))) := by decide +kernel
theorem dgT_in : ∀ j : Fin 100, (flatC (Jvm.Cond.and given_1 narrow_1))[117 + j.val]? = some (Cond.eq (.elem (.static "java/lang/Integer" "DigitTens" "[B") (.int (Int32.ofNat j.val))) (.int (nI (48 + j.val / 10)))) := by decide +kernel
theorem js_ok {b : Nat} {s : State} (hts : ∀ w ∈ lw_tbl, w.before #[Value.ref b] s = true) (hgv : (Jvm.Cond.and given_1 narrow_1).before #[Value.ref b] s = true) : JS s.heap.size s := by
  have hs := flat_of_before _ hgv
  have hA : ∀ a : Nat, a < s.heap.size → ¬ Az s.heap.size a := fun a h q => Nat.not_lt.mpr q h
  have iS := hts _ (tb (w := Cond.initialized "java/lang/String") 50 (by decide +kernel))
  have iI := hts _ (tb (w := Cond.initialized "java/lang/Integer") 58 (by decide +kernel))
  have iP := hts _ (tb (w := Cond.initialized "jdk/internal/util/Preconditions") 56 (by decide +kernel))
  refine ⟨va_Zof (hts _ (tb 1120 (by decide +kernel))) iS (va_eqi (hs _ (by decide +kernel))) hA, ?_, ?_, va_Zqof (hts _ (tb 1136 (by decide +kernel))) iP (hs _ (by decide +kernel)) hA⟩
  · obtain ⟨t, ht, hT⟩ := va_Tof (tm := .static "java/lang/Integer" "DigitOnes" "[B") (ty := .byte) (N := 100) (f := fun j => .int (nI (48 + j % 10))) (A := Az s.heap.size) (by decide) (hs _ (by decide +kernel)) (va_eqt (z := 100) (hs _ (by decide +kernel))) (fun j hj => va_eqt (hs _ (List.mem_of_getElem? (dgO_in ⟨j, hj⟩)))) hA
    exact ⟨t, va_Zof (hts _ (tb 1293 (by decide +kernel))) iI ht hA, hT⟩
  · obtain ⟨t, ht, hT⟩ := va_Tof (tm := .static "java/lang/Integer" "DigitTens" "[B") (ty := .byte) (N := 100) (f := fun j => .int (nI (48 + j / 10))) (A := Az s.heap.size) (by decide) (hs _ (by decide +kernel)) (va_eqt (z := 100) (hs _ (by decide +kernel))) (fun j hj => va_eqt (hs _ (List.mem_of_getElem? (dgT_in ⟨j, hj⟩)))) hA
    exact ⟨t, va_Zof (hts _ (tb 1295 (by decide +kernel))) iI ht hA, hT⟩
theorem xn_ok {b : Nat} {s : State} (hts : ∀ w ∈ lw_tbl, w.before #[Value.ref b] s = true) (hgv : (Jvm.Cond.and given_1 narrow_1).before #[Value.ref b] s = true) : ∃ (D2 : va_G) (cB2 : ClassId), XN s #[Value.ref b] D2 cB2 s.heap.size := by
  have hg : ∀ w ∈ gw_tbl, w.before #[Value.ref b] s = true := fun w hw => hts w (List.mem_filter.mp hw).1
  obtain ⟨c0, i0, q0⟩ := u_known hg jinB (hts _ (tb (w := Cond.instantiable "java/lang/StringBuilder" 4) 1179 (by decide +kernel)))
  obtain ⟨c1, i1, q1⟩ := u_known hg jinS (hts _ (tb (w := Cond.instantiable "java/lang/String" 4) 1297 (by decide +kernel)))
  obtain ⟨cB, b1, b2⟩ := arr_ok (hts _ tb_ai.2.2.1)
  refine ⟨(fun c => if c = 0 then c0 else c1, fun c => if c = 0 then i0 else i1), cB, jw_ok hts, ⟨fun c q hq => ?_, fun k q hq => ?_⟩, js_ok hts hgv⟩
  · match c, hq with
    | 0, hq => cases hq; exact q0
    | 1, hq => cases hq; exact q1
    | c + 2, hq => cases hq
  · match k, hq with
    | 0, hq => cases hq; exact ⟨b1, b2⟩
    | k + 1, hq => cases hq
/-- the script, as the abstract machine reads it -/
def scX (L : Nat) (xs : Nat → Int32) : Int → Int := fun j => if j = -1 then (L : Int) else if 0 ≤ j ∧ j < (L : Int) then (xs j.toNat).toInt else 0
theorem scX_I {L : Nat} (hL : L ≤ 2560) (xs : Nat → Int32) (j : Int) : -2147483648 ≤ scX L xs j ∧ scX L xs j ≤ 2147483647 := by
  unfold scX
  have h1 := Int32.le_toInt (xs j.toNat)
  have h2 := Int32.toInt_lt (xs j.toNat)
  split
  · omega
  · split <;> omega
def scM (L : Nat) (xs : Nat → Int32) : Mem := fun x y => if x = -2 then scX L xs y else 0
theorem scM_SR (L : Nat) (xs : Nat → Int32) : SR L xs (scM L xs) := by
  refine ⟨rfl, fun j hj => ?_⟩
  show scX L xs (j : Int) = _
  unfold scX
  rw [if_neg (by omega), if_pos (by omega)]
  rfl
theorem whole_start {p : Program} {e : Env} {s : State} {m : MethodId} {below : List Frame} {meth : Method} {c : Code} (l : Launch) (hflags : l.flags = flags0) {b L : Nat} {xs : Nat → Int32} (hL : L ≤ 260) (C0 : lw_At p s m meth c b L xs) : W p l e room_1 s m #[Value.ref b] below meth c s.heap [] 0 0 (lw_Z below #[Value.ref b] s) (entryFrame m ([Value.ref b] : List Value).toArray 14) := by
  obtain ⟨hx, hb, hr, hml, hown, hts, hX, hbl, hlocks, hgv⟩ := id C0
  obtain ⟨D, cI, cJ, cB, cP, hE⟩ := env_ok hts
  obtain ⟨D2, cB2, hxn⟩ := xn_ok hts hgv
  have c307 := cOf307
  have C : Cx p s m #[Value.ref b] meth c room_1 D cI cJ cB cP s.heap.size b (L, 0, 0) xs 307 24 :=
    ⟨hx, hb, hml, hown, fun w hw => hts w (List.mem_filter.mp hw).1, hE, hX, hbl, Nat.le_refl _, fun h => absurd h (by decide), (congrArg Prod.fst c307).symm, (congrArg Prod.snd c307).symm, Nat.le_of_ble_eq_true rfl, Nat.le_of_ble_eq_true rfl, ⟨by show L ≤ 2560; omega, by show 0 < s.heap.size; omega, by show 0 < s.heap.size; omega⟩, Or.inr rfl⟩
  obtain ⟨n, h', hrun⟩ := law_run (X := scX L xs) (scX_I (by omega) xs) (scM L xs) (funext fun j => if_pos rfl)
  have K := run_go (l := l) (e := e) (below := below) (Q := lw_Z below #[Value.ref b] s) n (fun n' d' u' as' S1 M1 g1 r' S2 M2 g2 x2 y2 _ => sound l D cI cJ cB cP s.heap.size b (L, 0, 0) xs n' d' u' as' S1 M1 g1 r' S2 M2 g2 x2 y2) C
    (fun i pc len a b' c' L' st h n' m9 _ hr hp hsay hG => prim61 C hxn i pc len a b' c' L' st h n' m9 hr hp hsay hG) (0, 1) h' (fun i pc len op a b' c' L' st h hrw he hf => ?_) n (Nat.le_refl _) _ hrun
  · have K := K s.heap [] _ ⟨fun k q hq => by simp [wOf] at hq, ⟨fun x c hc => by simp at hc, Or.inl (by show 0 < s.heap.size; omega), Or.inl (by show 0 < s.heap.size; omega)⟩, scM_SR L xs, va_S.rf, fun _ => rfl⟩ (entL_rep (u := 307) (as := [(1, -2)]) (Nat.le_of_ble_eq_true rfl))
    dsimp only at K
    rw [pc0 (by decide)] at K
    have ev : ([(1, -2)] : List AV).map (cv s.heap.size b) = [.ref b] := by
      show [rfv s.heap.size b (-2)] = _
      rw [rfv_script]
    rw [ev] at K
    rw [lg_entry_eq]
    exact K
  · have he' := of_decide_eq_true he
    have z7 : zOf 307 = 2 := rfl
    have ho : op = 55 ∧ st = [(0, 1)] ∧ h.2.2.2.1 ≤ 760737 ∧ h.2.2.2.2 ≤ 6819414 := by
      unfold fin at hf
      split at hf
      · split at hf
        · cases hf
        · cases hf
      split at hf
      · split at hf
        · cases hf
        · cases hf
      split at hf
      · split at hf
        · cases hf
        rename_i hsp
        have hsp : spent 307 h = true := by simpa using hsp
        have hsp := of_decide_eq_true hsp
        rw [c307] at hsp
        split at hf
        · rename_i q
          split at hf
          · cases hf; exact ⟨q, rfl, by omega, by omega⟩
          · cases hf
        split at hf
        · split at hf
          · rename_i q; cases hf; exact absurd q.1 (by decide)
          · cases hf
        split at hf
        · split at hf
          · rename_i q; cases hf; exact absurd q.1 (by decide)
          · cases hf
        · cases hf
      · cases hf
    obtain ⟨rfl, rfl, g1, g2⟩ := ho
    have hd := hrw.2.2 (by omega)
    have hlen := hrw.len1 (by omega)
    subst hlen
    intro H locs ls hR hLr
    dsimp only at hR ⊢
    rw [hrw.here]
    have e1 : ([(0, 1)] : List AV).map (cv s.heap.size b) = [.int 1] := by
      show [Value.int (i32 1)] = [.int 1]
      rw [show i32 1 = 1 from by decide]
    rw [e1]
    refine va_forget (fun l hl => (hR.2.2.2.1.2.2 l hl).1) ?_
    refine W.widen (k := 760737) (n := 6819414) g1 g2 ?_
    exact lw_ret hx hb hr hlocks hd
set_option maxHeartbeats 4000000 in
theorem lw_walk (l : Launch) (hflags : l.flags = flags0) (b : Addr) (xs : List Int32) : MetFree l x (headSpec (Jvm.Cond.code x code maxLocals ret :: tables_1) room_1) (lw_P b xs) (fun _ _ _ _ _ => True) lw_Q := by
  refine MetFree.of_bodyS (code := code) (maxLocals := maxLocals) (ret := ret) (by decide) ?_ ?_
  · intro args s m h hn
    obtain ⟨meth, c, h1, h2, h3, h4, h5, h6, -, -⟩ := Cond.code_spec hn (atoms_spec (ws := Jvm.Cond.code x code maxLocals ret :: tables_1) h _ List.mem_cons_self)
    exact ⟨meth, c, h1, h2, h3, h4, h5, h6⟩
  · intro p e s m args below meth c s₁ B hml0 hP _
    obtain ⟨rfl, hx, hbd, hgv⟩ := hP
    obtain ⟨scr, harrAt, hlist, hof, hsmall⟩ := hx
    obtain ⟨hcb, hkn, -, -⟩ := State.arrayAt?_spec harrAt
    have hown : s.vm.findClass R_law = some m.cls := findClass_of_methodNamed B.named
    have hts0 : ∀ c ∈ (Jvm.Cond.code x code maxLocals ret :: tables_1), c.before #[Value.ref b] s = true := atoms_spec (ws := Jvm.Cond.code x code maxLocals ret :: tables_1) B.pre
    have hts : ∀ w ∈ lw_tbl, w.before #[Value.ref b] s = true := k2_hts_sels lw_privs (fun w hw => hts0 w (List.mem_cons_of_mem _ hw)) lw_privs_ok
    have hml : c.maxLocals = 14 := B.maxLocals_eq (hts0 _ List.mem_cons_self)
    have X₀ : Stand p l e room_1 s m #[Value.ref b] below meth c s₁ [] 0 0 := Stand.of_body B
    have hh0 : s₁.heap = s.heap := by rw [B.state]; rfl
    have hsz : scr.slots.size = xs.length := by rw [← Array.length_toList, hlist, List.length_map]
    have hval : ∀ j : Nat, j < xs.length → scr.slots[j]? = some (.int (xs.getD j 0)) := fun j hj => by
      rw [← Array.getElem?_toList, hlist]
      simp [hj]
    have hbl : b < s.heap.size := (Array.getElem?_eq_some_iff.mp hcb).1
    have hX : va_X b xs.length (fun j => xs.getD j 0) s s.heap := ⟨scr, hcb, hof, hkn, hsz, hval⟩
    have K : W p l e room_1 s m #[Value.ref b] below meth c s₁.heap [] 0 0 (lw_Z below #[Value.ref b] s) (entryFrame m ([Value.ref b] : List Value).toArray 14) := by
      rw [hh0]
      exact whole_start l hflags hbd ⟨B.exec, B.bytes, B.returns, hml, hown, hts, hX, hbl, B.notSynchronized, hgv⟩
    obtain ⟨t, a1, o, b1, b2, b3⟩ := K s₁ rfl X₀
    exact ⟨t, o, a1, b1, b2, b3⟩
theorem lw_pre_spec {args : Array Value} {s : State} (h : (Jvm.Cond.and given_1 narrow_1).before args s = true) (hr : rest_1_c.before args s = true) : ∃ (b : Addr) (xs : List Int32), lw_P b xs args s := by
  have hs := flat_of_before _ h
  have hq := flat_of_before _ hr
  have hc : (Cond.count 1).before args s = true := hs _ (by decide +kernel)
  have harr : (Cond.arrayOf (.arg 0) .int).before args s = true := hs _ (by decide +kernel)
  have hle : (Cond.le (.length (.arg 0)) (.int 260)).before args s = true := hs _ (by decide +kernel)
  have hlen : (Cond.isInt (.length (.arg 0))).before args s = true := hq _ (by decide +kernel)
  have hall : (Cond.all (.arg 0) (.isInt (.elem (.arg 0) (.index 0)))).before args s = true := hq _ (by decide +kernel)
  obtain ⟨b, xs, hb, hx⟩ := State.ints_of_pre rfl harr hlen hall
  have hsm : xs.length < 2 ^ 31 := hx.choose_spec.2.2.2
  have hev : (Term.length (.arg 0)).eval args s none [] s = some (.int xs.length.toInt32) := hx.length_eval hb
  have hv := Cond.le_ints hev (show (Term.int 260).eval args s none [] s = some (.int 260) from rfl)
  have hd : xs.length.toInt32 ≤ 260 := by
    simpa [Cond.before, Cond.holds, hv] using hle
  have hN : xs.length ≤ 260 := (Int32.ofNat_le_ofNat hsm (by decide)).mp (show Int32.ofNat xs.length ≤ Int32.ofNat 260 from hd)
  exact ⟨b, xs, Cond.one_arg hc (show args[0]? = some (.ref b) from hb), hx, hN, h⟩
theorem lw_comes (l : Launch) (hflags : l.flags = flags0) : Comes l x (Jvm.Cond.code x code maxLocals ret :: tables_1) room_1 (fun tb e args s => Calls_1 tb e args s ∧ rest_1 tb e args s ∧ Pre_1 tb e args s)
    (fun _ _ args s o t => lw_Q args s o t) := by
  intro p e ha hc hk s m args below hf hfit hheap happ hpre
  obtain ⟨b, xs, hP⟩ := lw_pre_spec hpre.2.2 hpre.2.1
  obtain ⟨k, o, h1, h2, h3, hQ⟩ := lw_walk l hflags b xs p e ha hc hk s m args below hf ((Spec.applies_iff_loose hf).mp happ).1 hP trivial
  exact ⟨k, o, h1, h2, h3, hQ⟩
theorem lw_frame {s t : State} {o : Outcome} {args : Array Value} (h : Framed s o t [] 760737 6819414) :
    Framed s o t (fieldLocs frame_1_writes args s ++ arrayLocs frame_1_arrays args s ++ staticLocs frame_1_statics s) 760737 6819414 := h
theorem lw_limb (L : Cond) (hL : ∀ (args : Array Value) (s t : State), L.after args s (.returned (some (.int 1))) t = true) :
    ArmFor flags0 classFile x code maxLocals ret World_1 tables_1 room_1 Calls_1 rest_1 Pre_1
      (fun tb e a s o t => postC L tb e a s o t ∧ Framed s o t (fieldLocs frame_1_writes a s ++ arrayLocs frame_1_arrays a s ++ staticLocs frame_1_statics s) 760737 6819414) := by
  intro l hflags _ _ p e ha hc hk s m args below hf hfit hheap happ hpre
  obtain ⟨k, o, h1, h2, h3, rfl, hF⟩ := lw_comes l hflags p e ha hc hk s m args below hf hfit hheap happ hpre
  exact ⟨k, _, h1, h2, h3, hL args s _, lw_frame hF⟩
theorem i_vc : Claimed_1_1 ∧ Claimed_1_2 := ⟨lw_limb limb_1_1 (fun args s t => by simp [limb_1_1, Cond.after, Cond.holds, Cond.value]), lw_limb limb_1_2 (fun args s t => Cond.after_iff.mpr (by
  first | (rw [show limb_1_2 = Cond.eq .result (.int 1) from rfl, Cond.eq_ints (x := 1) (y := 1) rfl rfl]; simp; done) | (simp [limb_1_2, Cond.value, Term.eval]; done)))⟩
