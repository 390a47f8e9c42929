/-! the strings: the two classes, the words, the statics -/
def jTB : u_T := fun k => match k with
  | 0 => ("java/lang/AbstractStringBuilder", "value", "[B", false)
  | 1 => ("java/lang/AbstractStringBuilder", "coder", "B", false)
  | 2 => ("java/lang/AbstractStringBuilder", "maybeLatin1", "Z", false)
  | _ => ("java/lang/AbstractStringBuilder", "count", "I", false)
def jYB : Nat → FieldType := fun k => match k with
  | 0 => .array .byte
  | 1 => .byte
  | 2 => .boolean
  | _ => .int
def jTS : u_T := fun k => match k with
  | 0 => ("java/lang/String", "value", "[B", true)
  | 1 => ("java/lang/String", "coder", "B", true)
  | 2 => ("java/lang/String", "hash", "I", false)
  | _ => ("java/lang/String", "hashIsZero", "Z", false)
def jYS : Nat → FieldType := fun k => match k with
  | 0 => .array .byte
  | 1 => .byte
  | 2 => .int
  | _ => .boolean
theorem jnmB : ∀ a, a < 4 → ∀ b, b < 4 → a ≠ b → (jTB a).2.1 ≠ (jTB b).2.1 := by decide +kernel
theorem jtyB : ∀ k, k < 4 → parseFieldDescriptor (jTB k).2.2.1 = some (jYB k) := by decide +kernel
theorem jnmS : ∀ a, a < 4 → ∀ b, b < 4 → a ≠ b → (jTS a).2.1 ≠ (jTS b).2.1 := by decide +kernel
theorem jtyS : ∀ k, k < 4 → parseFieldDescriptor (jTS k).2.2.1 = some (jYS k) := by decide +kernel
abbrev jcl : List vw_C := [("java/lang/StringBuilder", jTB, 4), ("java/lang/String", jTS, 4)]
theorem jinB : ∀ w ∈ u_ws "java/lang/StringBuilder" jTB 4, w ∈ gw_tbl := by
  intro w hw
  obtain ⟨k, hk, rfl⟩ := List.mem_map.mp hw
  have hk := List.mem_range.mp hk
  match k, hk with
  | 0, _ => exact gw (tb 1199 (by decide +kernel)) rfl
  | 1, _ => exact gw (tb 1201 (by decide +kernel)) rfl
  | 2, _ => exact gw (tb 1203 (by decide +kernel)) rfl
  | 3, _ => exact gw (tb 1205 (by decide +kernel)) rfl
  | k + 4, hk => omega
theorem jinS : ∀ w ∈ u_ws "java/lang/String" jTS 4, w ∈ gw_tbl := by
  intro w hw
  obtain ⟨k, hk, rfl⟩ := List.mem_map.mp hw
  have hk := List.mem_range.mp hk
  match k, hk with
  | 0, _ => exact gw (tb 1304 (by decide +kernel)) rfl
  | 1, _ => exact gw (tb 1306 (by decide +kernel)) rfl
  | 2, _ => exact gw (tb 1308 (by decide +kernel)) rfl
  | 3, _ => exact gw (tb 1310 (by decide +kernel)) rfl
  | k + 4, hk => omega
def jp0 : MethodName := ⟨"java/lang/AbstractStringBuilder", "ensureCapacityInternal", "(I)V"⟩
theorem jp0_w : Cond.privateMethod jp0 ∈ lw_tbl ∧ Cond.instanceMethod jp0 ∈ lw_tbl := ⟨tb 1217 (by decide +kernel), tb 1218 (by decide +kernel)⟩
def jp1 : MethodName := ⟨"java/lang/AbstractStringBuilder", "putStringAt", "(ILjava/lang/String;)V"⟩
theorem jp1_w : Cond.privateMethod jp1 ∈ lw_tbl ∧ Cond.instanceMethod jp1 ∈ lw_tbl := ⟨tb 1343 (by decide +kernel), tb 1344 (by decide +kernel)⟩
def jp2 : MethodName := ⟨"java/lang/AbstractStringBuilder", "inflateIfNeededFor", "(Ljava/lang/String;)V"⟩
theorem jp2_w : Cond.privateMethod jp2 ∈ lw_tbl ∧ Cond.instanceMethod jp2 ∈ lw_tbl := ⟨tb 1347 (by decide +kernel), tb 1348 (by decide +kernel)⟩
theorem jp0_s : Cond.sameMethod jp0.cls jp0.cls jp0.name jp0.desc ∈ lw_tbl := tb 1408 (by decide +kernel)
theorem jp1_s : Cond.sameMethod jp1.cls jp1.cls jp1.name jp1.desc ∈ lw_tbl := tb 1413 (by decide +kernel)
theorem jp2_s : Cond.sameMethod jp2.cls jp2.cls jp2.name jp2.desc ∈ lw_tbl := tb 1414 (by decide +kernel)
theorem j_plain {y : MethodName} {s : State} {args : Array Value} (h : (Cond.sameMethod y.cls y.cls y.name y.desc).before args s = true) : ∀ mk, s.methodNamed? y = some mk → ∃ kP, s.vm.classes[mk.cls]? = some kP ∧ kP.isInterface = false := by
  intro mk hmk
  obtain ⟨c, k, h1, h2, h3⟩ := Cond.sameMethod_class h
  cases h1.symm.trans (findClass_of_methodNamed hmk)
  exact ⟨k, h2, h3⟩
/-- the words of the strings' methods -/
def jw : List Cond := [Cond.selects "java/lang/StringBuilder" jp0 jp0, Cond.selects "java/lang/StringBuilder" jp1 jp1, Cond.selects "java/lang/StringBuilder" jp2 jp2] ++ gw_tbl
theorem jm {w : Cond} (h : w ∈ lw_tbl) (hg : goodWord w = true) : w ∈ jw := List.mem_append_right _ (gw h hg)
theorem jw_good : ∀ w ∈ jw, (w.onTables && w.keeps) = true ∨ ∃ ty, w = .arrayClass ty := by
  intro w hw
  rcases List.mem_append.mp hw with h | h
  · rcases List.mem_cons.mp h with rfl | h
    · exact good_of_word rfl
    rcases List.mem_cons.mp h with rfl | h
    · exact good_of_word rfl
    rcases List.mem_cons.mp h with rfl | h
    · exact good_of_word rfl
    · cases h
  · exact good_of_word (List.mem_filter.mp h).2
theorem jGood {ws : List Cond} (h : ∀ w ∈ ws, w ∈ jw) : GoodIn jw ws := fun w hw => ⟨h w hw, jw_good w (h w hw)⟩
theorem jwsIn {c : Cond} (h : c ∈ jw) : ∀ w ∈ c :: jw, w ∈ jw := fun w hw => (List.mem_cons.mp hw).elim (fun e => by rw [e]; exact h) id
/-- a private method is chosen whatever the receiver -/
theorem j_selects {y : MethodName} {C : String} {s : State} {args : Array Value} {n : Nat} (hy : y.cls ≠ "java/lang/invoke/MethodHandle" ∧ y.cls ≠ "java/lang/invoke/VarHandle") (hins : (Cond.instantiable C n).before args s = true) (hpriv : (Cond.privateMethod y).before args s = true) (hinst : (Cond.instanceMethod y).before args s = true) (hP : ∀ mk, s.methodNamed? y = some mk → ∃ kP, s.vm.classes[mk.cls]? = some kP ∧ kP.isInterface = false) :
    (Cond.selects C y y).before args s = true := by
  obtain ⟨c, k, hc, hk, -, hniab, -, -⟩ := Cond.instantiable_spec hins
  have hni : k.isInterface = false := (Bool.or_eq_false_iff.mp hniab).1
  obtain ⟨mk, methM, hnamed, hmethM, -, -⟩ := Cond.instanceMethod_spec hinst
  have hfound : s.methodFound? y.cls y.name y.desc = some mk := State.methodFound?_of_named hnamed hy
  have hsel : selectMethod {} s.vm c mk = .method mk := selectMethod_private hmethM (Cond.privateMethod_at hpriv mk methM hnamed hmethM)
  have hkP : ∃ kP, s.vm.classes[mk.cls]? = some kP ∧ kP.isInterface = false := hP mk hnamed
  obtain ⟨kP, hk2, hk3⟩ := hkP
  simp only [Cond.before, Cond.holds, Cond.value, hc, hfound, hnamed, hsel, hk2]
  simp; exact hk3
theorem jw_ok {args : Array Value} {s : State} (h : ∀ w ∈ lw_tbl, w.before args s = true) : ∀ w ∈ jw, w.before args s = true := by
  have hi : (Cond.instantiable "java/lang/StringBuilder" 4).before args s = true := h _ (tb 1179 (by decide +kernel))
  intro w hw
  rcases List.mem_append.mp hw with q | q
  · rcases List.mem_cons.mp q with rfl | q
    · exact j_selects (by decide +kernel) hi (h _ jp0_w.1) (h _ jp0_w.2) (j_plain (h _ jp0_s))
    rcases List.mem_cons.mp q with rfl | q
    · exact j_selects (by decide +kernel) hi (h _ jp1_w.1) (h _ jp1_w.2) (j_plain (h _ jp1_s))
    rcases List.mem_cons.mp q with rfl | q
    · exact j_selects (by decide +kernel) hi (h _ jp2_w.1) (h _ jp2_w.2) (j_plain (h _ jp2_s))
    · cases q
  · exact h w (List.mem_filter.mp q).1
/-- what the strings' methods may write -/
def Az (zz q : Nat) : Prop := zz ≤ q
/-- the statics that they read -/
def JS (zz : Nat) (U : State) : Prop := va_Z "java/lang/String" "COMPACT_STRINGS" "Z" (.int 1) (Az zz) U U.heap ∧ (∃ d1, va_Z "java/lang/Integer" "DigitOnes" "[B" (.ref d1) (Az zz) U U.heap ∧ va_T .byte d1 100 (fun j => .int (nI (48 + j % 10))) (Az zz) U U.heap) ∧
  (∃ d2, va_Z "java/lang/Integer" "DigitTens" "[B" (.ref d2) (Az zz) U U.heap ∧ va_T .byte d2 100 (fun j => .int (nI (48 + j / 10))) (Az zz) U U.heap) ∧ va_Zq "jdk/internal/util/Preconditions" "SIOOBE_FORMATTER" "Ljava/util/function/BiFunction;" (Az zz) U U.heap
theorem JS.warm {zz : Nat} {s U : State} {H : Heap} {locs : List Loc} (hW : s.vm.Alike U.vm) (hH : U.heap = H) (hS : va_S (Az zz) s.heap H locs) (h : JS zz s) : JS zz U := by
  subst hH
  obtain ⟨h1, ⟨d1, h2, h3⟩, ⟨d2, h4, h5⟩, h6⟩ := h
  exact ⟨(h1.kept hS.2.1).moved hW, ⟨d1, (h2.kept hS.2.1).moved hW, (h3.kept hS.2.1).moved hW⟩, ⟨d2, (h4.kept hS.2.1).moved hW, (h5.kept hS.2.1).moved hW⟩, va_Zq.moved hW (h6.kept hS.2.1)⟩
theorem JS.narrow {z zz : Nat} {s : State} (h : JS z s) (hz : z ≤ zz) : JS zz s := by
  have hA : ∀ q, Az zz q → Az z q := fun q h => Nat.le_trans hz h
  obtain ⟨h1, ⟨d1, h2, h3⟩, ⟨d2, h4, h5⟩, h6⟩ := h
  exact ⟨h1.narrow hA, ⟨d1, h2.narrow hA, h3.narrow hA⟩, ⟨d2, h4.narrow hA, h5.narrow hA⟩, h6.narrow hA⟩
abbrev JVK (D : va_G) (cB : ClassId) (s : State) : Prop := va_K D jcl [(cB, .byte)] s
def JPc (D : va_G) (cB : ClassId) (zz : Nat) (as : List Value) (ws : va_W) : Array Value → State → Prop := va_Pc as fun U => va_P D jcl ws U.heap ∧ va_D (Az zz) ws ∧ JVK D cB U ∧ JS zz U ∧ zz ≤ U.heap.size
def JQc (D : va_G) (zz : Nat) (rv : Nat × Nat → Option Value) (ws' : Nat × Nat → va_W) : Array Value → State → Outcome → State → Prop := fun _ st o t =>
  (∃ u : Nat × Nat, o = .returned (rv u) ∧ va_P D jcl (ws' u) t.heap ∧ va_D (Az zz) (ws' u)) ∧ va_F (Az zz) st t
theorem JPc.blind {D : va_G} {cB : ClassId} {zz : Nat} {as : List Value} {ws : va_W} : FrameBlind (JPc D cB zz as ws) := by
  intro a U gg mk h
  obtain ⟨h1, h2, h3, h4, h5, h6⟩ := h
  exact ⟨h1, h2, h3, va_K.moved (u := U) (U := U.calling gg mk a) (Vm.Alike.refl U.vm) h4, JS.warm (s := U) (U := U.calling gg mk a) (H := U.heap) (locs := []) (Vm.Alike.refl U.vm) rfl va_S.rf h5, h6⟩
/-- a method's contract: what it is given, what it leaves -/
def JM (l : Launch) (D : va_G) (cB : ClassId) (zz : Nat) (y : MethodName) (cc : ByteArray) (maxL : Nat) (ret : Option FieldType) (d mc ms : Nat) (as : List Value) (ws : va_W) (rv : Nat × Nat → Option Value) (ws' : Nat × Nat → va_W) : Prop :=
  Met l y (Cond.code y cc maxL ret :: jw) { frames := d, cells := mc, slots := ms, locals := 40 * d } (JPc D cB zz as ws) (JQc D zz rv ws') mc ms (Az zz)
section JJ
variable {p : Program} {l : Launch} {e : Env} {R : Room} {s : State} {m : MethodId} {args : Array Value} {below : List Frame} {meth : Method} {c : Code} {Q : State → Prop}
variable {D : va_G} {cB : ClassId} {zz rc rs d : Nat} {cc : ByteArray} {nL : Nat} {own : String}
/-- what stands all through a method -/
def JX (p : Program) (s : State) (m : MethodId) (args : Array Value) (c : Code) (R : Room) (D : va_G) (cB : ClassId) (zz d rc rs : Nat) (cc : ByteArray) (nL : Nat) (own : String) : Prop :=
  p.tables.exec = Jvm.exec ∧ c.code = cc ∧ c.maxLocals = nL ∧ s.vm.findClass own = some m.cls ∧ (∀ w ∈ jw, w.before args s = true) ∧ JVK D cB s ∧ JS zz s ∧ zz ≤ s.heap.size ∧ d ≤ R.frames ∧ 40 * d ≤ R.locals ∧ R.cells = rc ∧ R.slots = rs
/-- from here the method comes to what Q wants -/
def JG (p : Program) (l : Launch) (e : Env) (R : Room) (s : State) (m : MethodId) (args : Array Value) (below : List Frame) (meth : Method) (c : Code) (Q : State → Prop) (D : va_G) (zz nL : Nat) (ws : va_W) (cells slots pc : Nat) (lv : List (Nat × Value)) (st : List Value) : Prop :=
  ∀ (H : Heap) (locs : List Loc) (ls : Array Slot), va_P D jcl ws H → va_D (Az zz) ws → va_S (Az zz) s.heap H locs → lv_has ls nL lv → W p l e R s m args below meth c H locs cells slots Q (F0 m pc ls st)
theorem j_iln (C : JX p s m args c R D cB zz d rc rs cc nL own) {ws : va_W} {cells slots pc : Nat} {lv : List (Nat × Value)} {st : List Value} {k : Fin 4} {i : Nat} {x : Int32} (idx : Nat) (hd : decode cc pc = .ok (.iload_n k, 1)) (hi : (k : Nat) = i) (hv : lv[idx]? = some (i, .int x)) (h : JG p l e R s m args below meth c Q D zz nL ws cells slots (pc + 1) lv (.int x :: st)) : JG p l e R s m args below meth c Q D zz nL ws cells slots pc lv st := by
  obtain ⟨hx, hb, hml, hown, hts, hK, hJ, hzs, hfr, hlo, hrc, hrs⟩ := C
  intro H locs ls hP hD hS hL
  exact lv_iload_n hx hb hd hi (lv_at hL idx hv) (h H locs ls hP hD hS hL)
theorem j_il (C : JX p s m args c R D cB zz d rc rs cc nL own) {ws : va_W} {cells slots pc : Nat} {lv : List (Nat × Value)} {st : List Value} {i : Nat} {x : Int32} (idx : Nat) (hd : decode cc pc = .ok (.iload i, 2)) (hv : lv[idx]? = some (i, .int x)) (h : JG p l e R s m args below meth c Q D zz nL ws cells slots (pc + 2) lv (.int x :: st)) : JG p l e R s m args below meth c Q D zz nL ws cells slots pc lv st := by
  obtain ⟨hx, hb, hml, hown, hts, hK, hJ, hzs, hfr, hlo, hrc, hrs⟩ := C
  intro H locs ls hP hD hS hL
  exact lv_iload hx hb hd (lv_at hL idx hv) (h H locs ls hP hD hS hL)
theorem j_aln (C : JX p s m args c R D cB zz d rc rs cc nL own) {ws : va_W} {cells slots pc : Nat} {lv : List (Nat × Value)} {st : List Value} {k : Fin 4} {i : Nat} {x : Nat} (idx : Nat) (hd : decode cc pc = .ok (.aload_n k, 1)) (hi : (k : Nat) = i) (hv : lv[idx]? = some (i, .ref x)) (h : JG p l e R s m args below meth c Q D zz nL ws cells slots (pc + 1) lv (.ref x :: st)) : JG p l e R s m args below meth c Q D zz nL ws cells slots pc lv st := by
  obtain ⟨hx, hb, hml, hown, hts, hK, hJ, hzs, hfr, hlo, hrc, hrs⟩ := C
  intro H locs ls hP hD hS hL
  exact lv_aload_n hx hb hd hi (lv_at hL idx hv) (h H locs ls hP hD hS hL)
theorem j_al (C : JX p s m args c R D cB zz d rc rs cc nL own) {ws : va_W} {cells slots pc : Nat} {lv : List (Nat × Value)} {st : List Value} {i : Nat} {x : Nat} (idx : Nat) (hd : decode cc pc = .ok (.aload i, 2)) (hv : lv[idx]? = some (i, .ref x)) (h : JG p l e R s m args below meth c Q D zz nL ws cells slots (pc + 2) lv (.ref x :: st)) : JG p l e R s m args below meth c Q D zz nL ws cells slots pc lv st := by
  obtain ⟨hx, hb, hml, hown, hts, hK, hJ, hzs, hfr, hlo, hrc, hrs⟩ := C
  intro H locs ls hP hD hS hL
  exact lv_aload hx hb hd (lv_at hL idx hv) (h H locs ls hP hD hS hL)
theorem j_isn (C : JX p s m args c R D cB zz d rc rs cc nL own) {ws : va_W} {cells slots pc : Nat} {lv : List (Nat × Value)} {st : List Value} {k : Fin 4} {i : Nat} {x : Int32} {lv' : List (Nat × Value)} (hd : decode cc pc = .ok (.istore_n k, 1)) (hi : (k : Nat) = i) (hn : i < nL) (hl : (i, Value.int x) :: lv.filter (fun q => !(q.1 == i) && !(q.1 + 1 == i && q.2.category == 2)) = lv') (h : JG p l e R s m args below meth c Q D zz nL ws cells slots (pc + 1) lv' st) : JG p l e R s m args below meth c Q D zz nL ws cells slots pc lv (.int x :: st) := by
  obtain ⟨hx, hb, hml, hown, hts, hK, hJ, hzs, hfr, hlo, hrc, hrs⟩ := C
  intro H locs ls hP hD hS hL
  exact lv_istore_n hx hb hd hi hL hn hl fun ls2 hL2 => h H locs ls2 hP hD hS hL2
theorem j_is (C : JX p s m args c R D cB zz d rc rs cc nL own) {ws : va_W} {cells slots pc : Nat} {lv : List (Nat × Value)} {st : List Value} {i : Nat} {x : Int32} {lv' : List (Nat × Value)} (hd : decode cc pc = .ok (.istore i, 2)) (hn : i < nL) (hl : (i, Value.int x) :: lv.filter (fun q => !(q.1 == i) && !(q.1 + 1 == i && q.2.category == 2)) = lv') (h : JG p l e R s m args below meth c Q D zz nL ws cells slots (pc + 2) lv' st) : JG p l e R s m args below meth c Q D zz nL ws cells slots pc lv (.int x :: st) := by
  obtain ⟨hx, hb, hml, hown, hts, hK, hJ, hzs, hfr, hlo, hrc, hrs⟩ := C
  intro H locs ls hP hD hS hL
  exact lv_istore hx hb hd hL hn hl fun ls2 hL2 => h H locs ls2 hP hD hS hL2
theorem j_asn (C : JX p s m args c R D cB zz d rc rs cc nL own) {ws : va_W} {cells slots pc : Nat} {lv : List (Nat × Value)} {st : List Value} {k : Fin 4} {i : Nat} {x : Nat} {lv' : List (Nat × Value)} (hd : decode cc pc = .ok (.astore_n k, 1)) (hi : (k : Nat) = i) (hn : i < nL) (hl : (i, Value.ref x) :: lv.filter (fun q => !(q.1 == i) && !(q.1 + 1 == i && q.2.category == 2)) = lv') (h : JG p l e R s m args below meth c Q D zz nL ws cells slots (pc + 1) lv' st) : JG p l e R s m args below meth c Q D zz nL ws cells slots pc lv (.ref x :: st) := by
  obtain ⟨hx, hb, hml, hown, hts, hK, hJ, hzs, hfr, hlo, hrc, hrs⟩ := C
  intro H locs ls hP hD hS hL
  exact lv_astore_n hx hb hd hi hL hn hl fun ls2 hL2 => h H locs ls2 hP hD hS hL2
theorem j_as (C : JX p s m args c R D cB zz d rc rs cc nL own) {ws : va_W} {cells slots pc : Nat} {lv : List (Nat × Value)} {st : List Value} {i : Nat} {x : Nat} {lv' : List (Nat × Value)} (hd : decode cc pc = .ok (.astore i, 2)) (hn : i < nL) (hl : (i, Value.ref x) :: lv.filter (fun q => !(q.1 == i) && !(q.1 + 1 == i && q.2.category == 2)) = lv') (h : JG p l e R s m args below meth c Q D zz nL ws cells slots (pc + 2) lv' st) : JG p l e R s m args below meth c Q D zz nL ws cells slots pc lv (.ref x :: st) := by
  obtain ⟨hx, hb, hml, hown, hts, hK, hJ, hzs, hfr, hlo, hrc, hrs⟩ := C
  intro H locs ls hP hD hS hL
  exact lv_astore hx hb hd hL hn hl fun ls2 hL2 => h H locs ls2 hP hD hS hL2
theorem j_inc (C : JX p s m args c R D cB zz d rc rs cc nL own) {ws : va_W} {cells slots pc : Nat} {lv : List (Nat × Value)} {st : List Value} {i k : Nat} {n : Int} {x v : Int32} {lv' : List (Nat × Value)} (hd : decode cc pc = .ok (.iinc i n, 3)) (hk : lv[k]? = some (i, .int x)) (hv : x + Int32.ofInt n = v) (hn : i < nL) (hl : (i, Value.int v) :: lv.filter (fun q => !(q.1 == i) && !(q.1 + 1 == i && q.2.category == 2)) = lv') (h : JG p l e R s m args below meth c Q D zz nL ws cells slots (pc + 3) lv' st) : JG p l e R s m args below meth c Q D zz nL ws cells slots pc lv st := by
  obtain ⟨hx, hb, hml, hown, hts, hK, hJ, hzs, hfr, hlo, hrc, hrs⟩ := C
  intro H locs ls hP hD hS hL
  exact lv_iinc hx hb hd hL hk hv hn hl fun ls2 hL2 => h H locs ls2 hP hD hS hL2
theorem j_ic (C : JX p s m args c R D cB zz d rc rs cc nL own) {ws : va_W} {cells slots pc : Nat} {lv : List (Nat × Value)} {st : List Value} {n : Int} {v : Int32} (hd : decode cc pc = .ok (.iconst n, 1)) (hv : Int32.ofInt n = v) (h : JG p l e R s m args below meth c Q D zz nL ws cells slots (pc + 1) lv (.int v :: st)) : JG p l e R s m args below meth c Q D zz nL ws cells slots pc lv st := by
  obtain ⟨hx, hb, hml, hown, hts, hK, hJ, hzs, hfr, hlo, hrc, hrs⟩ := C
  intro H locs ls hP hD hS hL
  exact lv_iconst hx hb hd hv (h H locs ls hP hD hS hL)
theorem j_bi (C : JX p s m args c R D cB zz d rc rs cc nL own) {ws : va_W} {cells slots pc : Nat} {lv : List (Nat × Value)} {st : List Value} {n : Int} {v : Int32} (hd : decode cc pc = .ok (.bipush n, 2)) (hv : (Int8.ofInt n).toInt32 = v) (h : JG p l e R s m args below meth c Q D zz nL ws cells slots (pc + 2) lv (.int v :: st)) : JG p l e R s m args below meth c Q D zz nL ws cells slots pc lv st := by
  obtain ⟨hx, hb, hml, hown, hts, hK, hJ, hzs, hfr, hlo, hrc, hrs⟩ := C
  intro H locs ls hP hD hS hL
  exact lv_bipush hx hb hd hv (h H locs ls hP hD hS hL)
theorem j_si (C : JX p s m args c R D cB zz d rc rs cc nL own) {ws : va_W} {cells slots pc : Nat} {lv : List (Nat × Value)} {st : List Value} {n : Int} {v : Int32} (hd : decode cc pc = .ok (.sipush n, 3)) (hv : (Int16.ofInt n).toInt32 = v) (h : JG p l e R s m args below meth c Q D zz nL ws cells slots (pc + 3) lv (.int v :: st)) : JG p l e R s m args below meth c Q D zz nL ws cells slots pc lv st := by
  obtain ⟨hx, hb, hml, hown, hts, hK, hJ, hzs, hfr, hlo, hrc, hrs⟩ := C
  intro H locs ls hP hD hS hL
  exact lv_sipush hx hb hd hv (h H locs ls hP hD hS hL)
theorem j_iadd (C : JX p s m args c R D cB zz d rc rs cc nL own) {ws : va_W} {cells slots pc : Nat} {lv : List (Nat × Value)} {st : List Value} {x y v : Int32} (hd : decode cc pc = .ok (.iadd, 1)) (hv : x + y = v) (h : JG p l e R s m args below meth c Q D zz nL ws cells slots (pc + 1) lv (.int v :: st)) : JG p l e R s m args below meth c Q D zz nL ws cells slots pc lv (.int y :: .int x :: st) := by
  obtain ⟨hx, hb, hml, hown, hts, hK, hJ, hzs, hfr, hlo, hrc, hrs⟩ := C
  intro H locs ls hP hD hS hL
  subst hv; exact lv_iadd hx hb hd (h H locs ls hP hD hS hL)
theorem j_isub (C : JX p s m args c R D cB zz d rc rs cc nL own) {ws : va_W} {cells slots pc : Nat} {lv : List (Nat × Value)} {st : List Value} {x y v : Int32} (hd : decode cc pc = .ok (.isub, 1)) (hv : x - y = v) (h : JG p l e R s m args below meth c Q D zz nL ws cells slots (pc + 1) lv (.int v :: st)) : JG p l e R s m args below meth c Q D zz nL ws cells slots pc lv (.int y :: .int x :: st) := by
  obtain ⟨hx, hb, hml, hown, hts, hK, hJ, hzs, hfr, hlo, hrc, hrs⟩ := C
  intro H locs ls hP hD hS hL
  subst hv; exact lv_isub hx hb hd (h H locs ls hP hD hS hL)
theorem j_imul (C : JX p s m args c R D cB zz d rc rs cc nL own) {ws : va_W} {cells slots pc : Nat} {lv : List (Nat × Value)} {st : List Value} {x y v : Int32} (hd : decode cc pc = .ok (.imul, 1)) (hv : x * y = v) (h : JG p l e R s m args below meth c Q D zz nL ws cells slots (pc + 1) lv (.int v :: st)) : JG p l e R s m args below meth c Q D zz nL ws cells slots pc lv (.int y :: .int x :: st) := by
  obtain ⟨hx, hb, hml, hown, hts, hK, hJ, hzs, hfr, hlo, hrc, hrs⟩ := C
  intro H locs ls hP hD hS hL
  subst hv; exact lv_imul hx hb hd (h H locs ls hP hD hS hL)
theorem j_iand (C : JX p s m args c R D cB zz d rc rs cc nL own) {ws : va_W} {cells slots pc : Nat} {lv : List (Nat × Value)} {st : List Value} {x y v : Int32} (hd : decode cc pc = .ok (.iand, 1)) (hv : x &&& y = v) (h : JG p l e R s m args below meth c Q D zz nL ws cells slots (pc + 1) lv (.int v :: st)) : JG p l e R s m args below meth c Q D zz nL ws cells slots pc lv (.int y :: .int x :: st) := by
  obtain ⟨hx, hb, hml, hown, hts, hK, hJ, hzs, hfr, hlo, hrc, hrs⟩ := C
  intro H locs ls hP hD hS hL
  subst hv; exact lv_iand hx hb hd (h H locs ls hP hD hS hL)
theorem j_ior (C : JX p s m args c R D cB zz d rc rs cc nL own) {ws : va_W} {cells slots pc : Nat} {lv : List (Nat × Value)} {st : List Value} {x y v : Int32} (hd : decode cc pc = .ok (.ior, 1)) (hv : x ||| y = v) (h : JG p l e R s m args below meth c Q D zz nL ws cells slots (pc + 1) lv (.int v :: st)) : JG p l e R s m args below meth c Q D zz nL ws cells slots pc lv (.int y :: .int x :: st) := by
  obtain ⟨hx, hb, hml, hown, hts, hK, hJ, hzs, hfr, hlo, hrc, hrs⟩ := C
  intro H locs ls hP hD hS hL
  subst hv; exact lv_ior hx hb hd (h H locs ls hP hD hS hL)
theorem j_ishl (C : JX p s m args c R D cB zz d rc rs cc nL own) {ws : va_W} {cells slots pc : Nat} {lv : List (Nat × Value)} {st : List Value} {x y v : Int32} (hd : decode cc pc = .ok (.ishl, 1)) (hv : x <<< (y &&& 31) = v) (h : JG p l e R s m args below meth c Q D zz nL ws cells slots (pc + 1) lv (.int v :: st)) : JG p l e R s m args below meth c Q D zz nL ws cells slots pc lv (.int y :: .int x :: st) := by
  obtain ⟨hx, hb, hml, hown, hts, hK, hJ, hzs, hfr, hlo, hrc, hrs⟩ := C
  intro H locs ls hP hD hS hL
  subst hv; exact lv_ishl hx hb hd (h H locs ls hP hD hS hL)
theorem j_ishr (C : JX p s m args c R D cB zz d rc rs cc nL own) {ws : va_W} {cells slots pc : Nat} {lv : List (Nat × Value)} {st : List Value} {x y v : Int32} (hd : decode cc pc = .ok (.ishr, 1)) (hv : x >>> (y &&& 31) = v) (h : JG p l e R s m args below meth c Q D zz nL ws cells slots (pc + 1) lv (.int v :: st)) : JG p l e R s m args below meth c Q D zz nL ws cells slots pc lv (.int y :: .int x :: st) := by
  obtain ⟨hx, hb, hml, hown, hts, hK, hJ, hzs, hfr, hlo, hrc, hrs⟩ := C
  intro H locs ls hP hD hS hL
  subst hv; exact lv_ishr hx hb hd (h H locs ls hP hD hS hL)
theorem j_irem (C : JX p s m args c R D cB zz d rc rs cc nL own) {ws : va_W} {cells slots pc : Nat} {lv : List (Nat × Value)} {st : List Value} {x y v : Int32} (hd : decode cc pc = .ok (.irem, 1)) (hne : ¬ y = 0) (hv : x - x / y * y = v) (h : JG p l e R s m args below meth c Q D zz nL ws cells slots (pc + 1) lv (.int v :: st)) : JG p l e R s m args below meth c Q D zz nL ws cells slots pc lv (.int y :: .int x :: st) := by
  obtain ⟨hx, hb, hml, hown, hts, hK, hJ, hzs, hfr, hlo, hrc, hrs⟩ := C
  intro H locs ls hP hD hS hL
  subst hv; exact lv_irem hx hb hd hne (h H locs ls hP hD hS hL)
theorem j_iushr (C : JX p s m args c R D cB zz d rc rs cc nL own) {ws : va_W} {cells slots pc : Nat} {lv : List (Nat × Value)} {st : List Value} {x y v : Int32} (hd : decode cc pc = .ok (.iushr, 1)) (hv : (x.toUInt32 >>> (y.toUInt32 &&& Int32.toUInt32 31)).toInt32 = v) (h : JG p l e R s m args below meth c Q D zz nL ws cells slots (pc + 1) lv (.int v :: st)) : JG p l e R s m args below meth c Q D zz nL ws cells slots pc lv (.int y :: .int x :: st) := by
  obtain ⟨hx, hb, hml, hown, hts, hK, hJ, hzs, hfr, hlo, hrc, hrs⟩ := C
  intro H locs ls hP hD hS hL
  exact lv_iushr hx hb hd hv (h H locs ls hP hD hS hL)
theorem j_ineg (C : JX p s m args c R D cB zz d rc rs cc nL own) {ws : va_W} {cells slots pc : Nat} {lv : List (Nat × Value)} {st : List Value} {x v : Int32} (hd : decode cc pc = .ok (.ineg, 1)) (hv : -x = v) (h : JG p l e R s m args below meth c Q D zz nL ws cells slots (pc + 1) lv (.int v :: st)) : JG p l e R s m args below meth c Q D zz nL ws cells slots pc lv (.int x :: st) := by
  obtain ⟨hx, hb, hml, hown, hts, hK, hJ, hzs, hfr, hlo, hrc, hrs⟩ := C
  intro H locs ls hP hD hS hL
  subst hv; exact lv_ineg hx hb hd (h H locs ls hP hD hS hL)
theorem j_i2b (C : JX p s m args c R D cB zz d rc rs cc nL own) {ws : va_W} {cells slots pc : Nat} {lv : List (Nat × Value)} {st : List Value} {x v : Int32} (hd : decode cc pc = .ok (.i2b, 1)) (hv : x.toInt8.toInt32 = v) (h : JG p l e R s m args below meth c Q D zz nL ws cells slots (pc + 1) lv (.int v :: st)) : JG p l e R s m args below meth c Q D zz nL ws cells slots pc lv (.int x :: st) := by
  obtain ⟨hx, hb, hml, hown, hts, hK, hJ, hzs, hfr, hlo, hrc, hrs⟩ := C
  intro H locs ls hP hD hS hL
  exact lv_i2b hx hb hd hv (h H locs ls hP hD hS hL)
theorem j_i2c (C : JX p s m args c R D cB zz d rc rs cc nL own) {ws : va_W} {cells slots pc : Nat} {lv : List (Nat × Value)} {st : List Value} {x v : Int32} (hd : decode cc pc = .ok (.i2c, 1)) (hv : (x.toUInt32 % 65536).toInt32 = v) (h : JG p l e R s m args below meth c Q D zz nL ws cells slots (pc + 1) lv (.int v :: st)) : JG p l e R s m args below meth c Q D zz nL ws cells slots pc lv (.int x :: st) := by
  obtain ⟨hx, hb, hml, hown, hts, hK, hJ, hzs, hfr, hlo, hrc, hrs⟩ := C
  intro H locs ls hP hD hS hL
  exact lv_i2c hx hb hd hv (h H locs ls hP hD hS hL)
theorem j_null (C : JX p s m args c R D cB zz d rc rs cc nL own) {ws : va_W} {cells slots pc : Nat} {lv : List (Nat × Value)} {st : List Value} (hd : decode cc pc = .ok (.aconst_null, 1)) (h : JG p l e R s m args below meth c Q D zz nL ws cells slots (pc + 1) lv (.null :: st)) : JG p l e R s m args below meth c Q D zz nL ws cells slots pc lv st := by
  obtain ⟨hx, hb, hml, hown, hts, hK, hJ, hzs, hfr, hlo, hrc, hrs⟩ := C
  intro H locs ls hP hD hS hL
  exact lv_null hx hb hd (h H locs ls hP hD hS hL)
theorem j_dup (C : JX p s m args c R D cB zz d rc rs cc nL own) {ws : va_W} {cells slots pc : Nat} {lv : List (Nat × Value)} {st : List Value} {v : Value} (hd : decode cc pc = .ok (.dup, 1)) (hc : v.category = 1) (h : JG p l e R s m args below meth c Q D zz nL ws cells slots (pc + 1) lv (v :: v :: st)) : JG p l e R s m args below meth c Q D zz nL ws cells slots pc lv (v :: st) := by
  obtain ⟨hx, hb, hml, hown, hts, hK, hJ, hzs, hfr, hlo, hrc, hrs⟩ := C
  intro H locs ls hP hD hS hL
  exact lv_dup hx hb hd hc (h H locs ls hP hD hS hL)
theorem j_dup_x1 (C : JX p s m args c R D cB zz d rc rs cc nL own) {ws : va_W} {cells slots pc : Nat} {lv : List (Nat × Value)} {st : List Value} {v w : Value} (hd : decode cc pc = .ok (.dup_x1, 1)) (hc : v.category = 1) (hc2 : w.category = 1) (h : JG p l e R s m args below meth c Q D zz nL ws cells slots (pc + 1) lv (v :: w :: v :: st)) : JG p l e R s m args below meth c Q D zz nL ws cells slots pc lv (v :: w :: st) := by
  obtain ⟨hx, hb, hml, hown, hts, hK, hJ, hzs, hfr, hlo, hrc, hrs⟩ := C
  intro H locs ls hP hD hS hL
  exact lv_dup_x1 hx hb hd hc hc2 (h H locs ls hP hD hS hL)
theorem j_pop (C : JX p s m args c R D cB zz d rc rs cc nL own) {ws : va_W} {cells slots pc : Nat} {lv : List (Nat × Value)} {st : List Value} {v : Value} (hd : decode cc pc = .ok (.pop, 1)) (hc : v.category = 1) (h : JG p l e R s m args below meth c Q D zz nL ws cells slots (pc + 1) lv st) : JG p l e R s m args below meth c Q D zz nL ws cells slots pc lv (v :: st) := by
  obtain ⟨hx, hb, hml, hown, hts, hK, hJ, hzs, hfr, hlo, hrc, hrs⟩ := C
  intro H locs ls hP hD hS hL
  exact lv_pop hx hb hd hc (h H locs ls hP hD hS hL)
theorem j_goto (C : JX p s m args c R D cB zz d rc rs cc nL own) {ws : va_W} {cells slots pc : Nat} {lv : List (Nat × Value)} {st : List Value} {off : Int} (tgt : Nat) (hd : decode cc pc = .ok (.goto off, 3)) (ht : (pc : Int) + off = (tgt : Int)) (h : JG p l e R s m args below meth c Q D zz nL ws cells slots tgt lv st) : JG p l e R s m args below meth c Q D zz nL ws cells slots pc lv st := by
  obtain ⟨hx, hb, hml, hown, hts, hK, hJ, hzs, hfr, hlo, hrc, hrs⟩ := C
  intro H locs ls hP hD hS hL
  exact lv_goto hx hb hd ht (h H locs ls hP hD hS hL)
theorem j_nonnull (C : JX p s m args c R D cB zz d rc rs cc nL own) {ws : va_W} {cells slots pc : Nat} {lv : List (Nat × Value)} {st : List Value} {x : Nat} {off : Int} (tgt : Nat) (hd : decode cc pc = .ok (.ifnonnull off, 3)) (ht : (pc : Int) + off = (tgt : Int)) (h : JG p l e R s m args below meth c Q D zz nL ws cells slots tgt lv st) : JG p l e R s m args below meth c Q D zz nL ws cells slots pc lv (.ref x :: st) := by
  obtain ⟨hx, hb, hml, hown, hts, hK, hJ, hzs, hfr, hlo, hrc, hrs⟩ := C
  intro H locs ls hP hD hS hL
  exact lv_ifnonnull hx hb hd ht (h H locs ls hP hD hS hL)
theorem j_eq (C : JX p s m args c R D cB zz d rc rs cc nL own) {ws : va_W} {cells slots pc : Nat} {lv : List (Nat × Value)} {st : List Value} {x : Int32} {off : Int} (tgt : Nat) (hd : decode cc pc = .ok (.ifCond .eq off, 3)) (ht : (pc : Int) + off = (tgt : Int)) (h1 : x = 0 → JG p l e R s m args below meth c Q D zz nL ws cells slots tgt lv st) (h2 : ¬ x = 0 → JG p l e R s m args below meth c Q D zz nL ws cells slots (pc + 3) lv st) : JG p l e R s m args below meth c Q D zz nL ws cells slots pc lv (.int x :: st) := by
  obtain ⟨hx, hb, hml, hown, hts, hK, hJ, hzs, hfr, hlo, hrc, hrs⟩ := C
  intro H locs ls hP hD hS hL
  exact lv_if_eq hx hb hd ht (fun q => h1 q H locs ls hP hD hS hL) (fun q => h2 q H locs ls hP hD hS hL)
theorem j_eq2 (C : JX p s m args c R D cB zz d rc rs cc nL own) {ws : va_W} {cells slots pc : Nat} {lv : List (Nat × Value)} {st : List Value} {x y : Int32} {off : Int} (tgt : Nat) (hd : decode cc pc = .ok (.if_icmp .eq off, 3)) (ht : (pc : Int) + off = (tgt : Int)) (h1 : x = y → JG p l e R s m args below meth c Q D zz nL ws cells slots tgt lv st) (h2 : ¬ x = y → JG p l e R s m args below meth c Q D zz nL ws cells slots (pc + 3) lv st) : JG p l e R s m args below meth c Q D zz nL ws cells slots pc lv (.int y :: .int x :: st) := by
  obtain ⟨hx, hb, hml, hown, hts, hK, hJ, hzs, hfr, hlo, hrc, hrs⟩ := C
  intro H locs ls hP hD hS hL
  exact lv_icmp_eq hx hb hd ht (fun q => h1 q H locs ls hP hD hS hL) (fun q => h2 q H locs ls hP hD hS hL)
theorem j_ne (C : JX p s m args c R D cB zz d rc rs cc nL own) {ws : va_W} {cells slots pc : Nat} {lv : List (Nat × Value)} {st : List Value} {x : Int32} {off : Int} (tgt : Nat) (hd : decode cc pc = .ok (.ifCond .ne off, 3)) (ht : (pc : Int) + off = (tgt : Int)) (h1 : ¬ x = 0 → JG p l e R s m args below meth c Q D zz nL ws cells slots tgt lv st) (h2 : x = 0 → JG p l e R s m args below meth c Q D zz nL ws cells slots (pc + 3) lv st) : JG p l e R s m args below meth c Q D zz nL ws cells slots pc lv (.int x :: st) := by
  obtain ⟨hx, hb, hml, hown, hts, hK, hJ, hzs, hfr, hlo, hrc, hrs⟩ := C
  intro H locs ls hP hD hS hL
  exact lv_if_ne hx hb hd ht (fun q => h1 q H locs ls hP hD hS hL) (fun q => h2 q H locs ls hP hD hS hL)
theorem j_ne2 (C : JX p s m args c R D cB zz d rc rs cc nL own) {ws : va_W} {cells slots pc : Nat} {lv : List (Nat × Value)} {st : List Value} {x y : Int32} {off : Int} (tgt : Nat) (hd : decode cc pc = .ok (.if_icmp .ne off, 3)) (ht : (pc : Int) + off = (tgt : Int)) (h1 : ¬ x = y → JG p l e R s m args below meth c Q D zz nL ws cells slots tgt lv st) (h2 : x = y → JG p l e R s m args below meth c Q D zz nL ws cells slots (pc + 3) lv st) : JG p l e R s m args below meth c Q D zz nL ws cells slots pc lv (.int y :: .int x :: st) := by
  obtain ⟨hx, hb, hml, hown, hts, hK, hJ, hzs, hfr, hlo, hrc, hrs⟩ := C
  intro H locs ls hP hD hS hL
  exact lv_icmp_ne hx hb hd ht (fun q => h1 q H locs ls hP hD hS hL) (fun q => h2 q H locs ls hP hD hS hL)
theorem j_lt (C : JX p s m args c R D cB zz d rc rs cc nL own) {ws : va_W} {cells slots pc : Nat} {lv : List (Nat × Value)} {st : List Value} {x : Int32} {off : Int} (tgt : Nat) (hd : decode cc pc = .ok (.ifCond .lt off, 3)) (ht : (pc : Int) + off = (tgt : Int)) (h1 : x < 0 → JG p l e R s m args below meth c Q D zz nL ws cells slots tgt lv st) (h2 : ¬ x < 0 → JG p l e R s m args below meth c Q D zz nL ws cells slots (pc + 3) lv st) : JG p l e R s m args below meth c Q D zz nL ws cells slots pc lv (.int x :: st) := by
  obtain ⟨hx, hb, hml, hown, hts, hK, hJ, hzs, hfr, hlo, hrc, hrs⟩ := C
  intro H locs ls hP hD hS hL
  exact lv_if_lt hx hb hd ht (fun q => h1 q H locs ls hP hD hS hL) (fun q => h2 q H locs ls hP hD hS hL)
theorem j_lt2 (C : JX p s m args c R D cB zz d rc rs cc nL own) {ws : va_W} {cells slots pc : Nat} {lv : List (Nat × Value)} {st : List Value} {x y : Int32} {off : Int} (tgt : Nat) (hd : decode cc pc = .ok (.if_icmp .lt off, 3)) (ht : (pc : Int) + off = (tgt : Int)) (h1 : x < y → JG p l e R s m args below meth c Q D zz nL ws cells slots tgt lv st) (h2 : ¬ x < y → JG p l e R s m args below meth c Q D zz nL ws cells slots (pc + 3) lv st) : JG p l e R s m args below meth c Q D zz nL ws cells slots pc lv (.int y :: .int x :: st) := by
  obtain ⟨hx, hb, hml, hown, hts, hK, hJ, hzs, hfr, hlo, hrc, hrs⟩ := C
  intro H locs ls hP hD hS hL
  exact lv_icmp_lt hx hb hd ht (fun q => h1 q H locs ls hP hD hS hL) (fun q => h2 q H locs ls hP hD hS hL)
theorem j_ge (C : JX p s m args c R D cB zz d rc rs cc nL own) {ws : va_W} {cells slots pc : Nat} {lv : List (Nat × Value)} {st : List Value} {x : Int32} {off : Int} (tgt : Nat) (hd : decode cc pc = .ok (.ifCond .ge off, 3)) (ht : (pc : Int) + off = (tgt : Int)) (h1 : 0 ≤ x → JG p l e R s m args below meth c Q D zz nL ws cells slots tgt lv st) (h2 : ¬ 0 ≤ x → JG p l e R s m args below meth c Q D zz nL ws cells slots (pc + 3) lv st) : JG p l e R s m args below meth c Q D zz nL ws cells slots pc lv (.int x :: st) := by
  obtain ⟨hx, hb, hml, hown, hts, hK, hJ, hzs, hfr, hlo, hrc, hrs⟩ := C
  intro H locs ls hP hD hS hL
  exact lv_if_ge hx hb hd ht (fun q => h1 q H locs ls hP hD hS hL) (fun q => h2 q H locs ls hP hD hS hL)
theorem j_ge2 (C : JX p s m args c R D cB zz d rc rs cc nL own) {ws : va_W} {cells slots pc : Nat} {lv : List (Nat × Value)} {st : List Value} {x y : Int32} {off : Int} (tgt : Nat) (hd : decode cc pc = .ok (.if_icmp .ge off, 3)) (ht : (pc : Int) + off = (tgt : Int)) (h1 : y ≤ x → JG p l e R s m args below meth c Q D zz nL ws cells slots tgt lv st) (h2 : ¬ y ≤ x → JG p l e R s m args below meth c Q D zz nL ws cells slots (pc + 3) lv st) : JG p l e R s m args below meth c Q D zz nL ws cells slots pc lv (.int y :: .int x :: st) := by
  obtain ⟨hx, hb, hml, hown, hts, hK, hJ, hzs, hfr, hlo, hrc, hrs⟩ := C
  intro H locs ls hP hD hS hL
  exact lv_icmp_ge hx hb hd ht (fun q => h1 q H locs ls hP hD hS hL) (fun q => h2 q H locs ls hP hD hS hL)
theorem j_gt (C : JX p s m args c R D cB zz d rc rs cc nL own) {ws : va_W} {cells slots pc : Nat} {lv : List (Nat × Value)} {st : List Value} {x : Int32} {off : Int} (tgt : Nat) (hd : decode cc pc = .ok (.ifCond .gt off, 3)) (ht : (pc : Int) + off = (tgt : Int)) (h1 : 0 < x → JG p l e R s m args below meth c Q D zz nL ws cells slots tgt lv st) (h2 : ¬ 0 < x → JG p l e R s m args below meth c Q D zz nL ws cells slots (pc + 3) lv st) : JG p l e R s m args below meth c Q D zz nL ws cells slots pc lv (.int x :: st) := by
  obtain ⟨hx, hb, hml, hown, hts, hK, hJ, hzs, hfr, hlo, hrc, hrs⟩ := C
  intro H locs ls hP hD hS hL
  exact lv_if_gt hx hb hd ht (fun q => h1 q H locs ls hP hD hS hL) (fun q => h2 q H locs ls hP hD hS hL)
theorem j_gt2 (C : JX p s m args c R D cB zz d rc rs cc nL own) {ws : va_W} {cells slots pc : Nat} {lv : List (Nat × Value)} {st : List Value} {x y : Int32} {off : Int} (tgt : Nat) (hd : decode cc pc = .ok (.if_icmp .gt off, 3)) (ht : (pc : Int) + off = (tgt : Int)) (h1 : y < x → JG p l e R s m args below meth c Q D zz nL ws cells slots tgt lv st) (h2 : ¬ y < x → JG p l e R s m args below meth c Q D zz nL ws cells slots (pc + 3) lv st) : JG p l e R s m args below meth c Q D zz nL ws cells slots pc lv (.int y :: .int x :: st) := by
  obtain ⟨hx, hb, hml, hown, hts, hK, hJ, hzs, hfr, hlo, hrc, hrs⟩ := C
  intro H locs ls hP hD hS hL
  exact lv_icmp_gt hx hb hd ht (fun q => h1 q H locs ls hP hD hS hL) (fun q => h2 q H locs ls hP hD hS hL)
theorem j_le (C : JX p s m args c R D cB zz d rc rs cc nL own) {ws : va_W} {cells slots pc : Nat} {lv : List (Nat × Value)} {st : List Value} {x : Int32} {off : Int} (tgt : Nat) (hd : decode cc pc = .ok (.ifCond .le off, 3)) (ht : (pc : Int) + off = (tgt : Int)) (h1 : x ≤ 0 → JG p l e R s m args below meth c Q D zz nL ws cells slots tgt lv st) (h2 : ¬ x ≤ 0 → JG p l e R s m args below meth c Q D zz nL ws cells slots (pc + 3) lv st) : JG p l e R s m args below meth c Q D zz nL ws cells slots pc lv (.int x :: st) := by
  obtain ⟨hx, hb, hml, hown, hts, hK, hJ, hzs, hfr, hlo, hrc, hrs⟩ := C
  intro H locs ls hP hD hS hL
  exact lv_if_le hx hb hd ht (fun q => h1 q H locs ls hP hD hS hL) (fun q => h2 q H locs ls hP hD hS hL)
theorem j_le2 (C : JX p s m args c R D cB zz d rc rs cc nL own) {ws : va_W} {cells slots pc : Nat} {lv : List (Nat × Value)} {st : List Value} {x y : Int32} {off : Int} (tgt : Nat) (hd : decode cc pc = .ok (.if_icmp .le off, 3)) (ht : (pc : Int) + off = (tgt : Int)) (h1 : x ≤ y → JG p l e R s m args below meth c Q D zz nL ws cells slots tgt lv st) (h2 : ¬ x ≤ y → JG p l e R s m args below meth c Q D zz nL ws cells slots (pc + 3) lv st) : JG p l e R s m args below meth c Q D zz nL ws cells slots pc lv (.int y :: .int x :: st) := by
  obtain ⟨hx, hb, hml, hown, hts, hK, hJ, hzs, hfr, hlo, hrc, hrs⟩ := C
  intro H locs ls hP hD hS hL
  exact lv_icmp_le hx hb hd ht (fun q => h1 q H locs ls hP hD hS hL) (fun q => h2 q H locs ls hP hD hS hL)
theorem j_alen (C : JX p s m args c R D cB zz d rc rs cc nL own) {ws : va_W} {cells slots pc : Nat} {lv : List (Nat × Value)} {st : List Value} {a n : Nat} {f : Nat → Int32} (q0 : Nat) (he : ws[q0]? = some (a, .inl (cB, n, .inl f))) (hd : decode cc pc = .ok (.arraylength, 1)) (h : JG p l e R s m args below meth c Q D zz nL ws cells slots (pc + 1) lv (.int (nI n) :: st)) : JG p l e R s m args below meth c Q D zz nL ws cells slots pc lv (.ref a :: st) := by
  obtain ⟨hx, hb, hml, hown, hts, hK, hJ, hzs, hfr, hlo, hrc, hrs⟩ := C
  intro H locs ls hP hD hS hL
  exact va_alen hx hb hK hP q0 0 (x := (n, .inl f)) he rfl (v := nI n) rfl hd (h H locs ls hP hD hS hL)
theorem j_bald (C : JX p s m args c R D cB zz d rc rs cc nL own) {ws : va_W} {cells slots pc : Nat} {lv : List (Nat × Value)} {st : List Value} {a n : Nat} {i v : Int32} {f : Nat → Int32} (q0 : Nat) (he : ws[q0]? = some (a, .inl (cB, n, .inl f))) (hin : vp_in i n) (hd : decode cc pc = .ok (.baload, 1)) (hv : f i.toNatClampNeg = v) (h : JG p l e R s m args below meth c Q D zz nL ws cells slots (pc + 1) lv (.int v :: st)) : JG p l e R s m args below meth c Q D zz nL ws cells slots pc lv (.int i :: .ref a :: st) := by
  obtain ⟨hx, hb, hml, hown, hts, hK, hJ, hzs, hfr, hlo, hrc, hrs⟩ := C
  intro H locs ls hP hD hS hL
  subst hv; exact va_bald hx hb hK hP q0 0 he rfl hin hd (h H locs ls hP hD hS hL)
theorem j_bast (C : JX p s m args c R D cB zz d rc rs cc nL own) {ws : va_W} {cells slots pc : Nat} {lv : List (Nat × Value)} {st : List Value} {a n : Nat} {i x : Int32} {f : Nat → Int32} {ws' : va_W} (q0 : Nat) (he : ws[q0]? = some (a, .inl (cB, n, .inl f))) (hin : vp_in i n) (hd : decode cc pc = .ok (.bastore, 1)) (hw : ws.set q0 (a, .inl (cB, n, .inl (upd f i.toNatClampNeg (vp_nar .byte x)))) = ws') (h : JG p l e R s m args below meth c Q D zz nL ws' cells slots (pc + 1) lv st) : JG p l e R s m args below meth c Q D zz nL ws cells slots pc lv (.int x :: .int i :: .ref a :: st) := by
  obtain ⟨hx, hb, hml, hown, hts, hK, hJ, hzs, hfr, hlo, hrc, hrs⟩ := C
  intro H locs ls hP hD hS hL
  subst hw; exact va_bast hx hb hK hP hD hS q0 0 he rfl hin hd fun H1 locs1 p1 d1 s1 => h H1 locs1 ls p1 d1 s1 hL
theorem j_getB (C : JX p s m args c R D cB zz d rc rs cc nL own) {ws : va_W} {cells slots pc : Nat} {lv : List (Nat × Value)} {st : List Value} {a idx : Nat} {fs : List Value} {v : Value} (q0 k : Nat) (he : ws[q0]? = some (a, .inr (0, fs))) (hk : k < 4) (hl : Cond.fieldLink own idx "java/lang/AbstractStringBuilder" (jTB k).2.1 (jTB k).2.2.1 ∈ jw) (hv : fs[k]? = some v) (hd : decode cc pc = .ok (.getfield idx, 3)) (h : JG p l e R s m args below meth c Q D zz nL ws cells slots (pc + 3) lv (v :: st)) : JG p l e R s m args below meth c Q D zz nL ws cells slots pc lv (.ref a :: st) := by
  obtain ⟨hx, hb, hml, hown, hts, hK, hJ, hzs, hfr, hlo, hrc, hrs⟩ := C
  intro H locs ls hP hD hS hL
  exact va_get hx hb (C := "java/lang/StringBuilder") (T := jTB) (N := 4) (ref := "java/lang/AbstractStringBuilder") hts (fun w hw => List.mem_append_right _ (jinB w hw)) hown hK hP q0 he rfl k hk (hts _ hl) (fun q hq => by match k, hk, hq with | 0, _, hq => exact hq | 1, _, hq => exact hq | 2, _, hq => exact hq | 3, _, hq => exact hq | k + 4, hk, _ => omega) hv hd (h H locs ls hP hD hS hL)
theorem j_getS (C : JX p s m args c R D cB zz d rc rs cc nL own) {ws : va_W} {cells slots pc : Nat} {lv : List (Nat × Value)} {st : List Value} {a idx : Nat} {fs : List Value} {v : Value} (q0 k : Nat) (he : ws[q0]? = some (a, .inr (1, fs))) (hk : k < 4) (hl : Cond.fieldLink own idx "java/lang/String" (jTS k).2.1 (jTS k).2.2.1 ∈ jw) (hv : fs[k]? = some v) (hd : decode cc pc = .ok (.getfield idx, 3)) (h : JG p l e R s m args below meth c Q D zz nL ws cells slots (pc + 3) lv (v :: st)) : JG p l e R s m args below meth c Q D zz nL ws cells slots pc lv (.ref a :: st) := by
  obtain ⟨hx, hb, hml, hown, hts, hK, hJ, hzs, hfr, hlo, hrc, hrs⟩ := C
  intro H locs ls hP hD hS hL
  exact va_get hx hb (C := "java/lang/String") (T := jTS) (N := 4) (ref := "java/lang/String") hts (fun w hw => List.mem_append_right _ (jinS w hw)) hown hK hP q0 he rfl k hk (hts _ hl) (fun q hq => by match k, hk, hq with | 0, _, hq => exact hq | 1, _, hq => exact hq | 2, _, hq => exact hq | 3, _, hq => exact hq | k + 4, hk, _ => omega) hv hd (h H locs ls hP hD hS hL)
theorem j_putB (C : JX p s m args c R D cB zz d rc rs cc nL own) {ws : va_W} {cells slots pc : Nat} {lv : List (Nat × Value)} {st : List Value} {a idx : Nat} {fs : List Value} {v : Value} {ws' : va_W} (q0 k : Nat) (he : ws[q0]? = some (a, .inr (0, fs))) (hk : k < 4) (hl : Cond.fieldLink own idx "java/lang/AbstractStringBuilder" (jTB k).2.1 (jTB k).2.2.1 ∈ jw) (hn : narrow (jYB k) v = v) (hf : fits (jYB k) v = true) (hlen : k < fs.length) (hd : decode cc pc = .ok (.putfield idx, 3)) (hw : ws.set q0 (a, .inr (0, fs.set k v)) = ws') (h : JG p l e R s m args below meth c Q D zz nL ws' cells slots (pc + 3) lv st) : JG p l e R s m args below meth c Q D zz nL ws cells slots pc lv (v :: .ref a :: st) := by
  obtain ⟨hx, hb, hml, hown, hts, hK, hJ, hzs, hfr, hlo, hrc, hrs⟩ := C
  intro H locs ls hP hD hS hL
  subst hw
  exact va_put hx hb (C := "java/lang/StringBuilder") (T := jTB) (N := 4) (ref := "java/lang/AbstractStringBuilder") hts (fun w hw => List.mem_append_right _ (jinB w hw)) jYB jtyB jnmB hown hK hP hD hS q0 he rfl k hk (hts _ hl) (fun q hq => by match k, hk, hq with | 0, _, hq => exact hq | 1, _, hq => exact hq | 2, _, hq => exact hq | 3, _, hq => exact hq | k + 4, hk, _ => omega) (by match k, hk with | 0, _ => rfl | 1, _ => rfl | 2, _ => rfl | 3, _ => rfl | k + 4, hk => omega) (jtyB k hk) hn hf hlen hd fun H1 locs1 p1 d1 s1 => h H1 locs1 ls p1 d1 s1 hL
theorem j_putS (C : JX p s m args c R D cB zz d rc rs cc nL own) {ws : va_W} {cells slots pc : Nat} {lv : List (Nat × Value)} {st : List Value} (hin2 : meth.name = "<init>") (ho2 : own = "java/lang/String") {a idx : Nat} {fs : List Value} {v : Value} {ws' : va_W} (q0 k : Nat) (he : ws[q0]? = some (a, .inr (1, fs))) (hk : k < 2) (hl : Cond.fieldLink own idx "java/lang/String" (jTS k).2.1 (jTS k).2.2.1 ∈ jw) (hn : narrow (jYS k) v = v) (hf : fits (jYS k) v = true) (hlen : k < fs.length) (hd : decode cc pc = .ok (.putfield idx, 3)) (hw : ws.set q0 (a, .inr (1, fs.set k v)) = ws') (h : JG p l e R s m args below meth c Q D zz nL ws' cells slots (pc + 3) lv st) : JG p l e R s m args below meth c Q D zz nL ws cells slots pc lv (v :: .ref a :: st) := by
  obtain ⟨hx, hb, hml, hown, hts, hK, hJ, hzs, hfr, hlo, hrc, hrs⟩ := C
  intro H locs ls hP hD hS hL
  subst hw
  exact va_putF hx hb (C := "java/lang/String") (T := jTS) (N := 4) (ref := "java/lang/String") hts (fun w hw => List.mem_append_right _ (jinS w hw)) jYS jtyS jnmS hown hK hP hD hS q0 he rfl k (by omega) (hts _ hl) (fun q hq => by match k, hk, hq with | 0, _, hq => exact hq | 1, _, hq => exact hq | k + 2, hk, _ => omega) (by match k, hk with | 0, _ => rfl | 1, _ => rfl | k + 2, hk => omega) hin2 (by rw [ho2]; match k, hk with | 0, _ => rfl | 1, _ => rfl | k + 2, hk => omega) (jtyS k (by omega)) hn hf hlen hd fun H1 locs1 p1 d1 s1 => h H1 locs1 ls p1 d1 s1 hL
theorem j_cs (C : JX p s m args c R D cB zz d rc rs cc nL own) {ws : va_W} {cells slots pc : Nat} {lv : List (Nat × Value)} {st : List Value} {idx : Nat} (hl : Cond.fieldLink own idx "java/lang/String" "COMPACT_STRINGS" "Z" ∈ jw) (hd : decode cc pc = .ok (.getstatic idx, 3)) (h : JG p l e R s m args below meth c Q D zz nL ws cells slots (pc + 3) lv (.int 1 :: st)) : JG p l e R s m args below meth c Q D zz nL ws cells slots pc lv st := by
  obtain ⟨hx, hb, hml, hown, hts, hK, hJ, hzs, hfr, hlo, hrc, hrs⟩ := C
  intro H locs ls hP hD hS hL
  exact va_gets hx hb hJ.1 hS hown (hts _ hl) (fun _ q => q) hd (h H locs ls hP hD hS hL)
theorem j_si2 (C : JX p s m args c R D cB zz d rc rs cc nL own) {ws : va_W} {cells slots pc : Nat} {lv : List (Nat × Value)} {st : List Value} {idx : Nat} (hl : Cond.fieldLink own idx "jdk/internal/util/Preconditions" "SIOOBE_FORMATTER" "Ljava/util/function/BiFunction;" ∈ jw) (hd : decode cc pc = .ok (.getstatic idx, 3)) (h : ∀ v : Value, (v = .null ∨ ∃ a, v = .ref a) → JG p l e R s m args below meth c Q D zz nL ws cells slots (pc + 3) lv (v :: st)) : JG p l e R s m args below meth c Q D zz nL ws cells slots pc lv st := by
  obtain ⟨hx, hb, hml, hown, hts, hK, hJ, hzs, hfr, hlo, hrc, hrs⟩ := C
  intro H locs ls hP hD hS hL
  rcases hJ.2.2.2 with hz | ⟨t, hz⟩
  · exact va_gets hx hb hz hS hown (hts _ hl) (fun _ q => q) hd (h .null (Or.inl rfl) H locs ls hP hD hS hL)
  · exact va_gets hx hb hz hS hown (hts _ hl) (fun _ q => q) hd (h (.ref t) (Or.inr ⟨t, rfl⟩) H locs ls hP hD hS hL)
theorem j_dig1 (C : JX p s m args c R D cB zz d rc rs cc nL own) {ws : va_W} {cells slots pc : Nat} {lv : List (Nat × Value)} {st : List Value} {idx : Nat} (hl : Cond.fieldLink own idx "java/lang/Integer" "DigitOnes" "[B" ∈ jw) (hd : decode cc pc = .ok (.getstatic idx, 3)) (h : ∀ dg : Nat, (∀ {pc2 i : Nat} {lv2 : List (Nat × Value)} {st2 : List Value} {ws2 : va_W} {cells2 slots2 : Nat}, i < 100 → decode cc pc2 = .ok (.baload, 1) → JG p l e R s m args below meth c Q D zz nL ws2 cells2 slots2 (pc2 + 1) lv2 (.int (nI (48 + i % 10)) :: st2) → JG p l e R s m args below meth c Q D zz nL ws2 cells2 slots2 pc2 lv2 (.int (nI i) :: .ref dg :: st2)) → JG p l e R s m args below meth c Q D zz nL ws cells slots (pc + 3) lv (.ref dg :: st)) : JG p l e R s m args below meth c Q D zz nL ws cells slots pc lv st := by
  obtain ⟨hx, hb, hml, hown, hts, hK, hJ, hzs, hfr, hlo, hrc, hrs⟩ := C
  intro H locs ls hP hD hS hL
  obtain ⟨t, hz, hT⟩ := hJ.2.1
  refine va_gets hx hb hz hS hown (hts _ hl) (fun _ q => q) hd (h t ?_ H locs ls hP hD hS hL)
  intro pc2 i lv2 st2 ws2 cells2 slots2 hi hd2 h2 H2 locs2 ls2 hP2 hD2 hS2 hL2
  exact va_tb hx hb hT hS2 (vp_in_nI hi (by decide)) (by rw [nI_clamp (by omega)]) hd2 (h2 H2 locs2 ls2 hP2 hD2 hS2 hL2)
theorem j_dig2 (C : JX p s m args c R D cB zz d rc rs cc nL own) {ws : va_W} {cells slots pc : Nat} {lv : List (Nat × Value)} {st : List Value} {idx : Nat} (hl : Cond.fieldLink own idx "java/lang/Integer" "DigitTens" "[B" ∈ jw) (hd : decode cc pc = .ok (.getstatic idx, 3)) (h : ∀ dg : Nat, (∀ {pc2 i : Nat} {lv2 : List (Nat × Value)} {st2 : List Value} {ws2 : va_W} {cells2 slots2 : Nat}, i < 100 → decode cc pc2 = .ok (.baload, 1) → JG p l e R s m args below meth c Q D zz nL ws2 cells2 slots2 (pc2 + 1) lv2 (.int (nI (48 + i / 10)) :: st2) → JG p l e R s m args below meth c Q D zz nL ws2 cells2 slots2 pc2 lv2 (.int (nI i) :: .ref dg :: st2)) → JG p l e R s m args below meth c Q D zz nL ws cells slots (pc + 3) lv (.ref dg :: st)) : JG p l e R s m args below meth c Q D zz nL ws cells slots pc lv st := by
  obtain ⟨hx, hb, hml, hown, hts, hK, hJ, hzs, hfr, hlo, hrc, hrs⟩ := C
  intro H locs ls hP hD hS hL
  obtain ⟨t, hz, hT⟩ := hJ.2.2.1
  refine va_gets hx hb hz hS hown (hts _ hl) (fun _ q => q) hd (h t ?_ H locs ls hP hD hS hL)
  intro pc2 i lv2 st2 ws2 cells2 slots2 hi hd2 h2 H2 locs2 ls2 hP2 hD2 hS2 hL2
  exact va_tb hx hb hT hS2 (vp_in_nI hi (by decide)) (by rw [nI_clamp (by omega)]) hd2 (h2 H2 locs2 ls2 hP2 hD2 hS2 hL2)
theorem j_widen {ws : va_W} {cells slots pc : Nat} {lv : List (Nat × Value)} {st : List Value} {k n : Nat} (h1 : cells ≤ k) (h2 : slots ≤ n) (h : JG p l e R s m args below meth c Q D zz nL ws k n pc lv st) : JG p l e R s m args below meth c Q D zz nL ws cells slots pc lv st :=
  fun H locs ls hP hD hS hL => W.widen h1 h2 (h H locs ls hP hD hS hL)
theorem j_newB (C : JX p s m args c R D cB zz d rc rs cc nL own) {ws : va_W} {cells slots pc : Nat} {lv : List (Nat × Value)} {st : List Value} {idx : Nat} (hl : Cond.classLink own idx "java/lang/StringBuilder" ∈ jw) (hc : cells + 1 ≤ rc) (hsl : slots + 4 ≤ rs) (hd : decode cc pc = .ok (.new idx, 3)) (h : ∀ q : Nat, JG p l e R s m args below meth c Q D zz nL (ws ++ [(q, .inr (0, [.null, .int 0, .int 0, .int 0]))]) (cells + 1) (slots + 4) (pc + 3) lv (.ref q :: st)) : JG p l e R s m args below meth c Q D zz nL ws cells slots pc lv st := by
  obtain ⟨hx, hb, hml, hown, hts, hK, hJ, hzs, hfr, hlo, hrc, hrs⟩ := C
  intro H locs ls hP hD hS hL
  exact va_new (C := "java/lang/StringBuilder") (T := jTB) (N := 4) hx hb hts (fun w hw => List.mem_append_right _ (jinB w hw)) jYB jtyB hown (hts _ hl) (hts _ (jm (tb 1179 (by decide +kernel)) rfl)) (hts _ (jm (tb 49 (by decide +kernel)) rfl)) hK hP hD hS (fun q hq => Nat.le_trans hzs hq) (ci := 0) rfl (fs := [.null, .int 0, .int 0, .int 0]) (fun j hj => by match j, hj with | 0, _ => rfl | 1, _ => rfl | 2, _ => rfl | 3, _ => rfl | k + 4, hj => omega) (by rw [hrc]; exact hc) (by rw [hrs]; exact hsl) hd fun q H1 p1 d1 s1 => h q H1 locs ls p1 d1 s1 hL
theorem j_newS (C : JX p s m args c R D cB zz d rc rs cc nL own) {ws : va_W} {cells slots pc : Nat} {lv : List (Nat × Value)} {st : List Value} {idx : Nat} (hl : Cond.classLink own idx "java/lang/String" ∈ jw) (hc : cells + 1 ≤ rc) (hsl : slots + 4 ≤ rs) (hd : decode cc pc = .ok (.new idx, 3)) (h : ∀ q : Nat, JG p l e R s m args below meth c Q D zz nL (ws ++ [(q, .inr (1, [.null, .int 0, .int 0, .int 0]))]) (cells + 1) (slots + 4) (pc + 3) lv (.ref q :: st)) : JG p l e R s m args below meth c Q D zz nL ws cells slots pc lv st := by
  obtain ⟨hx, hb, hml, hown, hts, hK, hJ, hzs, hfr, hlo, hrc, hrs⟩ := C
  intro H locs ls hP hD hS hL
  exact va_new (C := "java/lang/String") (T := jTS) (N := 4) hx hb hts (fun w hw => List.mem_append_right _ (jinS w hw)) jYS jtyS hown (hts _ hl) (hts _ (jm (tb 1297 (by decide +kernel)) rfl)) (hts _ (jm (tb 50 (by decide +kernel)) rfl)) hK hP hD hS (fun q hq => Nat.le_trans hzs hq) (ci := 1) rfl (fs := [.null, .int 0, .int 0, .int 0]) (fun j hj => by match j, hj with | 0, _ => rfl | 1, _ => rfl | 2, _ => rfl | 3, _ => rfl | k + 4, hj => omega) (by rw [hrc]; exact hc) (by rw [hrs]; exact hsl) hd fun q H1 p1 d1 s1 => h q H1 locs ls p1 d1 s1 hL
theorem j_newa (C : JX p s m args c R D cB zz d rc rs cc nL own) {ws : va_W} {cells slots pc : Nat} {lv : List (Nat × Value)} {st : List Value} {n : Int32} {N : Nat} (hn : n = nI N) (hN : N ≤ 65536) (hc : cells + 1 ≤ rc) (hsl : slots + N ≤ rs) (hd : decode cc pc = .ok (.newarray .byte, 2)) (h : ∀ q : Nat, JG p l e R s m args below meth c Q D zz nL (ws ++ [(q, .inl (cB, N, .inl (fun _ => 0)))]) (cells + 1) (slots + N) (pc + 2) lv (.ref q :: st)) : JG p l e R s m args below meth c Q D zz nL ws cells slots pc lv (.int n :: st) := by
  obtain ⟨hx, hb, hml, hown, hts, hK, hJ, hzs, hfr, hlo, hrc, hrs⟩ := C
  intro H locs ls hP hD hS hL
  subst hn
  refine va_newaK (atype := .byte) (N := N) hx hb (hts _ (jm tb_ai.2.2.1 rfl)) rfl hd rfl (nI_pos (by omega)) (nI_clamp (by omega)) (Nat.le_trans (Nat.mul_le_mul hN (show componentBytes (newarray.typeOf .byte) ≤ 8 by decide)) (by decide)) (by rw [hrc]; exact hc) (by rw [hrs]; exact hsl) rfl fun H' cA e1 z1 o1 hAr hNm => ?_
  have hcp : s.vm.findClass ("[" ++ (newarray.typeOf .byte).toString) = some cB := (hK.2 0 (cB, .byte) rfl).2
  cases hcp.symm.trans hNm
  have ko : ∀ (k : Nat) (x : Nat × va_E), ws[k]? = some x → H'[x.1]? = H[x.1]? := fun k x hx => o1 x.1 ((hP k x hx).lt)
  refine h H.size H' locs ls ((hP.kept ko).app fun k x hx => ?_) (va_D.app hD ⟨fun i j p q h1 h2 _ => ?_, fun k q hq => ?_⟩ fun i j x y hx hy e => ?_) ⟨Nat.le_trans hS.1 (by omega), fun q q1 q2 => (o1 q (Nat.lt_of_lt_of_le q1 hS.1)).trans (hS.2.1 q q1 q2), hS.2.2⟩ hL
  · have hz0 : k < 1 := (List.getElem?_eq_some_iff.mp hx).1
    rw [show k = 0 by omega] at hx
    cases hx
    show H'[H.size]? = some (vp_cell _ _)
    rw [e1, vp_cell_i]
    rfl
  · have a1 : i < 1 := (List.getElem?_eq_some_iff.mp h1).1
    have a2 : j < 1 := (List.getElem?_eq_some_iff.mp h2).1
    omega
  · have hz0 : k < 1 := (List.getElem?_eq_some_iff.mp hq).1
    rw [show k = 0 by omega] at hq
    cases hq
    exact Nat.le_trans hzs hS.1
  · have hz0 : j < 1 := (List.getElem?_eq_some_iff.mp hy).1
    rw [show j = 0 by omega] at hy
    cases hy
    have := (hP i x hx).lt
    have e2 : x.1 = H.size := e
    omega
theorem j_objI (C : JX p s m args c R D cB zz d rc rs cc nL own) {ws : va_W} {cells slots pc : Nat} {lv : List (Nat × Value)} {st : List Value} {idx a : Nat} (hl : Cond.methodLink own idx Lib.objectInit ∈ jw) (hdd : 1 ≤ d) (hst : ((st.map fun v => v.category).sum + 12 ≤ 40)) (hd : decode cc pc = .ok (.invokespecial idx, 3)) (h : JG p l e R s m args below meth c Q D zz nL ws cells slots (pc + 3) lv st) : JG p l e R s m args below meth c Q D zz nL ws cells slots pc lv (.ref a :: st) := by
  obtain ⟨hx, hb, hml, hown, hts, hK, hJ, hzs, hfr, hlo, hrc, hrs⟩ := C
  intro H locs ls hP hD hS hL
  exact W.objInit hx hb hown (hts _ hl) (hts _ (jm tb_oi.1 rfl)) (hts _ (jm tb_oi.2 rfl)) rfl (by dsimp only; rw [hL.1, hml]) rfl hd (by omega) (by show 2 * 0 + _ + 12 ≤ _; omega) (h H locs ls hP hD hS hL)
theorem j_min (C : JX p s m args c R D cB zz d rc rs cc nL own) {ws : va_W} {cells slots pc : Nat} {lv : List (Nat × Value)} {st : List Value} {idx : Nat} {x y v : Int32} (hl : Cond.methodLink own idx Lib.Math.min.name ∈ jw) (hdd : 1 ≤ d) (hst : ((st.map fun v => v.category).sum + 13 ≤ 40)) (hc : cells ≤ rc) (hsl : slots ≤ rs) (hd : decode cc pc = .ok (.invokestatic idx, 3)) (hv : (if y < x then y else x) = v) (h : JG p l e R s m args below meth c Q D zz nL ws cells slots (pc + 3) lv (.int v :: st)) : JG p l e R s m args below meth c Q D zz nL ws cells slots pc lv (.int y :: .int x :: st) := by
  obtain ⟨hx, hb, hml, hown, hts, hK, hJ, hzs, hfr, hlo, hrc, hrs⟩ := C
  intro H locs ls hP hD hS hL
  subst hv
  exact va_mmin hx hb (by rw [hml, hL.1]) hown (hts _ hl) (hts _ (jm (tb 1244 (by decide +kernel)) rfl)) (hts _ (jm (tb 47 (by decide +kernel)) rfl)) (hts _ (jm (tb 1245 (by decide +kernel)) rfl)) (by omega) (by omega) (by rw [hrc]; exact hc) (by rw [hrs]; exact hsl) hd (h H locs ls hP hD hS hL)
theorem j_copy (C : JX p s m args c R D cB zz d rc rs cc nL own) {ws : va_W} {cells slots pc : Nat} {lv : List (Nat × Value)} {st : List Value} {idx a a0 n0 n1 : Nat} {sp dp n : Int32} {f g : Nat → Int32} {ws' : va_W} (q0 q1 : Nat) (hl : Cond.methodLink own idx arraycopyName ∈ jw) (ha0 : ws[q0]? = some (a0, .inl (cB, n0, .inl f))) (ha1 : ws[q1]? = some (a, .inl (cB, n1, .inl g))) (h1 : ¬ sp < 0) (h2 : ¬ dp < 0) (h3 : ¬ n < 0) (h4 : sp.toNatClampNeg + n.toNatClampNeg ≤ n0) (h5 : dp.toNatClampNeg + n.toNatClampNeg ≤ n1) (hfit : ∀ i, i < n.toNatClampNeg → fits .byte (.int (f (sp.toNatClampNeg + i))) = true) (hdd : 1 ≤ d) (hst : (st.map fun v => v.category).sum + (nativeFrameWords "java/lang/System" "arraycopy" 5 + 11) ≤ 40) (hd : decode cc pc = .ok (.invokestatic idx, 3)) (hw : ws.set q1 (a, .inl (cB, n1, .inl (va_cpy f g sp.toNatClampNeg dp.toNatClampNeg n.toNatClampNeg))) = ws') (h : JG p l e R s m args below meth c Q D zz nL ws' cells slots (pc + 3) lv st) : JG p l e R s m args below meth c Q D zz nL ws cells slots pc lv (.int n :: .int dp :: .ref a :: .int sp :: .ref a0 :: st) := by
  obtain ⟨hx, hb, hml, hown, hts, hK, hJ, hzs, hfr, hlo, hrc, hrs⟩ := C
  intro H locs ls hP hD hS hL
  subst hw
  exact va_copyi hx hb (by rw [hml, hL.1]) hown (hts _ hl) (hts _ (jm (tb 1248 (by decide +kernel)) rfl)) (hts _ (jm (tb 1247 (by decide +kernel)) rfl)) (hts _ (jm (tb 54 (by decide +kernel)) rfl)) hK hP hD hS q0 q1 0 0 ha0 ha1 rfl rfl rfl h1 h2 h3 h4 h5 hfit (by omega) (by omega) hd fun H1 locs1 p1 d1 s1 => h H1 locs1 ls p1 d1 s1 hL
theorem j_iret (C : JX p s m args c R D cB zz d rc rs cc nL own) {ws : va_W} {cells slots pc mc ms : Nat} {lv : List (Nat × Value)} {v : Int32} {rv : Nat × Nat → Option Value} {ws' : Nat × Nat → va_W} (hr : meth.sig.returnType = some .int) (hlk : meth.locks = false) (u : Nat × Nat) (hv : rv u = some (.int v)) (hw : ws' u = ws) (h1 : cells ≤ mc) (h2 : slots ≤ ms) (hd : decode cc pc = .ok (.ireturn, 1)) : JG p l e R s m args below meth c (MQ below (JQc D zz rv ws') args s mc ms (Az zz)) D zz nL ws cells slots pc lv [.int v] := by
  obtain ⟨hx, hb, hml, hown, hts, hK, hJ, hzs, hfr, hlo, hrc, hrs⟩ := C
  intro H locs ls hP hD hS hL
  refine W.widen h1 h2 ?_
  exact W.iret hx hb hr (fun t' q1 q2 => ⟨⟨u, by rw [hv], by rw [hw, q1]; exact hP, by rw [hw]; exact hD⟩, hS.F q1⟩) hS.2.2 hd hlk
theorem j_zret (C : JX p s m args c R D cB zz d rc rs cc nL own) {ws : va_W} {cells slots pc mc ms : Nat} {lv : List (Nat × Value)} {v : Int32} {ty : FieldType} (hnr : narrow ty (.int v) = .int v) {rv : Nat × Nat → Option Value} {ws' : Nat × Nat → va_W} (hr : meth.sig.returnType = some ty) (hlk : meth.locks = false) (u : Nat × Nat) (hv : rv u = some (.int v)) (hw : ws' u = ws) (h1 : cells ≤ mc) (h2 : slots ≤ ms) (hd : decode cc pc = .ok (.ireturn, 1)) : JG p l e R s m args below meth c (MQ below (JQc D zz rv ws') args s mc ms (Az zz)) D zz nL ws cells slots pc lv [.int v] := by
  obtain ⟨hx, hb, hml, hown, hts, hK, hJ, hzs, hfr, hlo, hrc, hrs⟩ := C
  intro H locs ls hP hD hS hL
  refine W.widen h1 h2 ?_
  exact W.zret hx hb hr hnr (fun t' q1 q2 => ⟨⟨u, by rw [hv], by rw [hw, q1]; exact hP, by rw [hw]; exact hD⟩, hS.F q1⟩) hS.2.2 hd hlk
theorem j_aret (C : JX p s m args c R D cB zz d rc rs cc nL own) {ws : va_W} {cells slots pc mc ms : Nat} {lv : List (Nat × Value)} {v : Nat} {ty : FieldType} (hrt : (∃ n, ty = .object n) ∨ ∃ t, ty = .array t) {rv : Nat × Nat → Option Value} {ws' : Nat × Nat → va_W} (hr : meth.sig.returnType = some ty) (hlk : meth.locks = false) (u : Nat × Nat) (hv : rv u = some (.ref v)) (hw : ws' u = ws) (h1 : cells ≤ mc) (h2 : slots ≤ ms) (hd : decode cc pc = .ok (.areturn, 1)) : JG p l e R s m args below meth c (MQ below (JQc D zz rv ws') args s mc ms (Az zz)) D zz nL ws cells slots pc lv [.ref v] := by
  obtain ⟨hx, hb, hml, hown, hts, hK, hJ, hzs, hfr, hlo, hrc, hrs⟩ := C
  intro H locs ls hP hD hS hL
  refine W.widen h1 h2 ?_
  exact W.aret hx hb hr hrt (Or.inr ⟨v, rfl⟩) (fun t' q1 q2 => ⟨⟨u, by rw [hv], by rw [hw, q1]; exact hP, by rw [hw]; exact hD⟩, hS.F q1⟩) hS.2.2 hd hlk
theorem j_vret (C : JX p s m args c R D cB zz d rc rs cc nL own) {ws : va_W} {cells slots pc mc ms : Nat} {lv : List (Nat × Value)} {rv : Nat × Nat → Option Value} {ws' : Nat × Nat → va_W} (hr : meth.sig.returnType = none) (hlk : meth.locks = false) (u : Nat × Nat) (hv : rv u = none) (hw : ws' u = ws) (h1 : cells ≤ mc) (h2 : slots ≤ ms) (hd : decode cc pc = .ok (.return_, 1)) : JG p l e R s m args below meth c (MQ below (JQc D zz rv ws') args s mc ms (Az zz)) D zz nL ws cells slots pc lv [] := by
  obtain ⟨hx, hb, hml, hown, hts, hK, hJ, hzs, hfr, hlo, hrc, hrs⟩ := C
  intro H locs ls hP hD hS hL
  refine W.widen h1 h2 ?_
  exact W.vret hx hb hr (fun t' q1 q2 => ⟨⟨u, by rw [hv], by rw [hw, q1]; exact hP, by rw [hw]; exact hD⟩, hS.F q1⟩) hS.2.2 hd hlk
/-- behind a call -/
theorem j_go {H : Heap} {locs : List Loc} {cells slots mc ms pc : Nat} {ls : Array Slot} {st0 rest : List Value} {rv : Nat × Nat → Option Value} {ws' : Nat × Nat → va_W} {a : Array Value} {lv : List (Nat × Value)}
    (hr : va_Run p l e R s m args below meth c H locs cells slots mc ms (F0 m pc ls st0) rest (JQc D zz rv ws' a) (Az zz)) (hS : va_S (Az zz) s.heap H locs) (hL : lv_has ls nL lv)
    (kk : ∀ u : Nat × Nat, JG p l e R s m args below meth c Q D zz nL (ws' u) (cells + mc) (slots + ms) (pc + 3) lv ((rv u).toList ++ rest)) :
    W p l e R s m args below meth c H locs cells slots Q (F0 m pc ls st0) := by
  intro T hT X
  obtain ⟨v, st₀, t, T', L, h0, X', hL2, e1, e2, ⟨⟨u, hv, hw, hd⟩, hz, hk⟩, st⟩ := hr T hT X
  have hv : v = rv u := Outcome.returned.inj hv
  subst hv
  rw [h0] at hz hk
  obtain ⟨t2, a1, b1⟩ := kk u T'.heap (locs ++ L) ls (by rw [e1]; exact hw) hd
    ⟨Nat.le_trans hS.1 (by rw [e1]; exact hz), fun q h1 h2 => by rw [e1, hk q (Nat.lt_of_lt_of_le h1 hS.1) h2]; exact hS.2.1 q h1 h2, fun q hq => by
      rcases List.mem_append.mp hq with h | h
      · exact hS.2.2 q h
      · exact hL2 q h⟩ hL T' rfl X'
  exact ⟨t2, st t2 a1, b1⟩
theorem JX.pre (C : JX p s m args c R D cB zz d rc rs cc nL own) {ws : va_W} {H : Heap} {locs : List Loc} {as : List Value} (hP : va_P D jcl ws H) (hD : va_D (Az zz) ws) (hS : va_S (Az zz) s.heap H locs) {U : State} (hU : U.heap = H) (hW : s.WarmedH U.vm) : JPc D cB zz as ws as.toArray U := by
  obtain ⟨hx, hb, hml, hown, hts, hK, hJ, hzs, hfr, hlo, hrc, hrs⟩ := C
  exact ⟨rfl, by rw [hU]; exact hP, hD, va_K.moved hW.alike hK, JS.warm hW.alike hU hS hJ, by rw [hU]; exact Nat.le_trans hzs hS.1⟩
theorem j_callS (C : JX p s m args c R D cB zz d rc rs cc nL own) {ws : va_W} {cells slots pc mc ms d2 idx n : Nat} {lv : List (Nat × Value)} {rest : List Value} {y : MethodName} {bytes : ByteArray} {maxL : Nat} {ret : Option FieldType} {as : List Value} {rv : Nat × Nat → Option Value} {ws' : Nat × Nat → va_W} (hM : JM l D cB zz y bytes maxL ret d2 mc ms as ws rv ws') (hcode : Cond.code y bytes maxL ret ∈ jw) (hini : Cond.initialized y.cls ∈ jw) (hlk : Cond.methodLink own idx y ∈ jw) (hst : Cond.static y ∈ jw) (hdd : y.cls ≠ "java/lang/invoke/MethodHandle" ∧ y.cls ≠ "java/lang/invoke/VarHandle" ∧ (parseMethodDescriptor y.desc).map (fun d => d.parameters.length) = some n) (hn : as.length = n) (hfr : d2 + 1 ≤ d ∧ maxL ≤ 20) (hcs : cells + mc ≤ rc ∧ slots + ms ≤ rs) (hcat : (rest.map fun v => v.category).sum ≤ 8) (hd : decode cc pc = .ok (.invokestatic idx, 3)) (kk : ∀ u : Nat × Nat, JG p l e R s m args below meth c Q D zz nL (ws' u) (cells + mc) (slots + ms) (pc + 3) lv ((rv u).toList ++ rest)) : JG p l e R s m args below meth c Q D zz nL ws cells slots pc lv (as.reverse ++ rest) := by
  have C' := C
  obtain ⟨hx, hb, hml, hown, hts, hK, hJ, hzs, hfr1, hlo, hrc, hrs⟩ := C
  intro H locs ls hP hD hS hL
  have hRoom : d2 + 1 ≤ R.frames ∧ 8 + (maxL + 11) + 40 * d2 ≤ R.locals := by omega
  exact j_go (va_runS (Ts := jw) ⟨hx, hb, hml, hown, hts⟩ hM ⟨callB_of n hts (jGood (jwsIn hcode)) rfl rfl rfl (hts _ hini) (hts _ hlk) hdd hRoom, hts _ hst⟩ ⟨JPc.blind, fun U hU hW => C'.pre hP hD hS hU hW⟩ rfl hn hL.1 rfl (by show 2 * 0 + _ ≤ 8; omega) hd (by rw [hrc, hrs]; exact hcs)) hS hL kk
theorem j_callV (C : JX p s m args c R D cB zz d rc rs cc nL own) {ws : va_W} {cells slots pc mc ms d2 idx n : Nat} {lv : List (Nat × Value)} {rest : List Value} {y : MethodName} {bytes : ByteArray} {maxL : Nat} {ret : Option FieldType} {as : List Value} {rv : Nat × Nat → Option Value} {ws' : Nat × Nat → va_W} {b ci : Nat} {fs : List Value} {q : vw_C} (q0 : Nat) (he : ws[q0]? = some (b, .inr (ci, fs))) (hc : jcl[ci]? = some q) (hqc : q.1 = y.cls) (hM : JM l D cB zz y bytes maxL ret d2 mc ms (.ref b :: as) ws rv ws') (hcode : Cond.code y bytes maxL ret ∈ jw) (hini : Cond.initialized y.cls ∈ jw) (hlk : Cond.methodLink own idx y ∈ jw) (hin : Cond.instanceMethod y ∈ jw) (hse : Cond.selects y.cls y y ∈ jw) (hdd : y.cls ≠ "java/lang/invoke/MethodHandle" ∧ y.cls ≠ "java/lang/invoke/VarHandle" ∧ (parseMethodDescriptor y.desc).map (fun d => d.parameters.length) = some n) (hn : as.length = n) (hfr : d2 + 1 ≤ d ∧ maxL ≤ 20) (hcs : cells + mc ≤ rc ∧ slots + ms ≤ rs) (hcat : (rest.map fun v => v.category).sum ≤ 8) (hd : decode cc pc = .ok (.invokevirtual idx, 3)) (kk : ∀ u : Nat × Nat, JG p l e R s m args below meth c Q D zz nL (ws' u) (cells + mc) (slots + ms) (pc + 3) lv ((rv u).toList ++ rest)) : JG p l e R s m args below meth c Q D zz nL ws cells slots pc lv (as.reverse ++ .ref b :: rest) := by
  have C' := C
  obtain ⟨hx, hb, hml, hown, hts, hK, hJ, hzs, hfr1, hlo, hrc, hrs⟩ := C
  intro H locs ls hP hD hS hL
  have hRoom : d2 + 1 ≤ R.frames ∧ 8 + (maxL + 11) + 40 * d2 ≤ R.locals := by omega
  have hrecv := va_recv hK hP hc he
  rw [hqc] at hrecv
  exact j_go (va_runV (Ts := jw) ⟨hx, hb, hml, hown, hts⟩ hM ⟨callB_of n hts (jGood (jwsIn hcode)) rfl rfl rfl (hts _ hini) (hts _ hlk) hdd hRoom, hts _ hin, hts _ hse⟩ ⟨JPc.blind, hrecv, fun U hU hW => C'.pre hP hD hS hU hW⟩ rfl hn hL.1 rfl (by show 2 * 0 + _ ≤ 8; omega) hd (by rw [hrc, hrs]; exact hcs)) hS hL kk
theorem j_callI (C : JX p s m args c R D cB zz d rc rs cc nL own) {ws : va_W} {cells slots pc mc ms d2 idx n : Nat} {lv : List (Nat × Value)} {rest : List Value} {y : MethodName} {bytes : ByteArray} {maxL : Nat} {as : List Value} {rv : Nat × Nat → Option Value} {ws' : Nat × Nat → va_W} {b : Nat} (hM : JM l D cB zz y bytes maxL none d2 mc ms (.ref b :: as) ws rv ws') (hcode : Cond.code y bytes maxL none ∈ jw) (hini : Cond.initialized y.cls ∈ jw) (hlk : Cond.methodLink own idx y ∈ jw) (hyn : y.name = "<init>") (hin : Cond.instanceMethod y ∈ jw) (hdd : y.cls ≠ "java/lang/invoke/MethodHandle" ∧ y.cls ≠ "java/lang/invoke/VarHandle" ∧ (parseMethodDescriptor y.desc).map (fun d => d.parameters.length) = some n) (hn : as.length = n) (hfr : d2 + 1 ≤ d ∧ maxL ≤ 20) (hcs : cells + mc ≤ rc ∧ slots + ms ≤ rs) (hcat : (rest.map fun v => v.category).sum ≤ 8) (hd : decode cc pc = .ok (.invokespecial idx, 3)) (kk : ∀ u : Nat × Nat, JG p l e R s m args below meth c Q D zz nL (ws' u) (cells + mc) (slots + ms) (pc + 3) lv ((rv u).toList ++ rest)) : JG p l e R s m args below meth c Q D zz nL ws cells slots pc lv (as.reverse ++ .ref b :: rest) := by
  have C' := C
  obtain ⟨hx, hb, hml, hown, hts, hK, hJ, hzs, hfr1, hlo, hrc, hrs⟩ := C
  intro H locs ls hP hD hS hL
  have hRoom : d2 + 1 ≤ R.frames ∧ 8 + (maxL + 11) + 40 * d2 ≤ R.locals := by omega
  exact j_go (va_runI (Ts := jw) ⟨hx, hb, hml, hown, hts⟩ hM ⟨callB_of n hts (jGood (jwsIn hcode)) rfl rfl rfl (hts _ hini) (hts _ hlk) hdd hRoom, hyn, hts _ hin⟩ ⟨JPc.blind, fun U hU hW => C'.pre hP hD hS hU hW⟩ rfl hn hL.1 rfl (by show 2 * 0 + _ ≤ 8; omega) hd (by rw [hrc, hrs]; exact hcs)) hS hL kk
theorem j_callU (C : JX p s m args c R D cB zz d rc rs cc nL own) {ws : va_W} {cells slots pc mc ms d2 idx n : Nat} {lv : List (Nat × Value)} {rest : List Value} {y : MethodName} {bytes : ByteArray} {maxL : Nat} {ret : Option FieldType} {as : List Value} {rv : Nat × Nat → Option Value} {ws' : Nat × Nat → va_W} {b : Nat} {fs : List Value} (q0 : Nat) (he : ws[q0]? = some (b, .inr (0, fs))) (hM : JM l D cB zz y bytes maxL ret d2 mc ms (.ref b :: as) ws rv ws') (hcode : Cond.code y bytes maxL ret ∈ jw) (hini : Cond.initialized y.cls ∈ jw) (x : MethodName) (hxy : y = ⟨x.cls, x.name, x.desc⟩) (hlk : Cond.methodLink own idx x ∈ jw) (hsm : Cond.sameMethod x.cls x.cls x.name x.desc ∈ jw) (hse : Cond.selects "java/lang/StringBuilder" x y ∈ jw) (hin : Cond.instanceMethod y ∈ jw) (hdd : x.cls ≠ "java/lang/invoke/MethodHandle" ∧ x.cls ≠ "java/lang/invoke/VarHandle" ∧ (parseMethodDescriptor x.desc).map (fun d => d.parameters.length) = some n) (hn : as.length = n) (hfr : d2 + 1 ≤ d ∧ maxL ≤ 20) (hcs : cells + mc ≤ rc ∧ slots + ms ≤ rs) (hcat : (rest.map fun v => v.category).sum ≤ 8) (hd : decode cc pc = .ok (.invokevirtual idx, 3)) (kk : ∀ u : Nat × Nat, JG p l e R s m args below meth c Q D zz nL (ws' u) (cells + mc) (slots + ms) (pc + 3) lv ((rv u).toList ++ rest)) : JG p l e R s m args below meth c Q D zz nL ws cells slots pc lv (as.reverse ++ .ref b :: rest) := by
  have C' := C
  obtain ⟨hx, hb, hml, hown, hts, hK, hJ, hzs, hfr1, hlo, hrc, hrs⟩ := C
  intro H locs ls hP hD hS hL
  have hRoom : d2 + 1 ≤ R.frames ∧ 8 + (maxL + 11) + 40 * d2 ≤ R.locals := by omega
  have hrecv := va_recv hK hP (q := ("java/lang/StringBuilder", jTB, 4)) rfl he
  have hin5 : ∀ w ∈ va_wsU own idx "java/lang/StringBuilder" x.cls x y (Cond.code y bytes maxL ret :: jw), w ∈ jw := by
    intro w hw
    rcases List.mem_append.mp hw with h | h
    · rcases List.mem_cons.mp h with rfl | h
      · exact hlk
      rcases List.mem_cons.mp h with rfl | h
      · exact hsm
      rcases List.mem_cons.mp h with rfl | h
      · exact hse
      rcases List.mem_cons.mp h with rfl | h
      · exact hin
      rcases List.mem_cons.mp h with rfl | h
      · exact hini
      · cases h
    · exact jwsIn hcode w h
  exact j_go (va_runU (Ts := jw) ⟨hx, hb, hml, hown, hts⟩ hM (va_cwU n hts (jGood hin5) rfl rfl rfl hxy hdd hRoom) ⟨JPc.blind, hrecv, fun U hU hW => C'.pre hP hD hS hU hW⟩ rfl hn hL.1 rfl (by show 2 * 0 + _ ≤ 8; omega) hd (by rw [hrc, hrs]; exact hcs)) hS hL kk
theorem j_callO (C : JX p s m args c R D cB zz d rc rs cc nL own) {ws : va_W} {cells slots pc mc ms d2 idx n : Nat} {lv : List (Nat × Value)} {rest : List Value} {y : MethodName} {bytes : ByteArray} {maxL : Nat} {ret : Option FieldType} {as : List Value} {rv : Nat × Nat → Option Value} {ws' : Nat × Nat → va_W} {b : Nat} {fs : List Value} (q0 : Nat) (he : ws[q0]? = some (b, .inr (0, fs))) (hM : JM l D cB zz y bytes maxL ret d2 mc ms (.ref b :: as) ws rv ws') (hcode : Cond.code y bytes maxL ret ∈ jw) (hini : Cond.initialized y.cls ∈ jw) (x : MethodName) {b0 : ByteArray} {m0 : Nat} {r0 : Option FieldType} (hx0 : Cond.code ⟨x.cls, x.name, x.desc⟩ b0 m0 r0 ∈ jw) (hxi : Cond.instanceMethod ⟨x.cls, x.name, x.desc⟩ ∈ jw) (hlk : Cond.methodLink own idx x ∈ jw) (hsm : Cond.sameMethod x.cls x.cls x.name x.desc ∈ jw) (hse : Cond.selects "java/lang/StringBuilder" x y ∈ jw) (hin : Cond.instanceMethod y ∈ jw) (hdd : x.cls ≠ "java/lang/invoke/MethodHandle" ∧ x.cls ≠ "java/lang/invoke/VarHandle" ∧ (parseMethodDescriptor x.desc).map (fun d => d.parameters.length) = some n) (hn : as.length = n) (hfr : d2 + 1 ≤ d ∧ maxL ≤ 20) (hcs : cells + mc ≤ rc ∧ slots + ms ≤ rs) (hcat : (rest.map fun v => v.category).sum ≤ 8) (hd : decode cc pc = .ok (.invokevirtual idx, 3)) (kk : ∀ u : Nat × Nat, JG p l e R s m args below meth c Q D zz nL (ws' u) (cells + mc) (slots + ms) (pc + 3) lv ((rv u).toList ++ rest)) : JG p l e R s m args below meth c Q D zz nL ws cells slots pc lv (as.reverse ++ .ref b :: rest) := by
  have C' := C
  obtain ⟨hx, hb, hml, hown, hts, hK, hJ, hzs, hfr1, hlo, hrc, hrs⟩ := C
  intro H locs ls hP hD hS hL
  have hRoom : d2 + 1 ≤ R.frames ∧ 8 + (maxL + 11) + 40 * d2 ≤ R.locals := by omega
  have hrecv := va_recv hK hP (q := ("java/lang/StringBuilder", jTB, 4)) rfl he
  have hin5 : ∀ w ∈ va_wsO own idx "java/lang/StringBuilder" x.cls x y (Cond.code y bytes maxL ret :: jw), w ∈ jw := by
    intro w hw
    rcases List.mem_append.mp hw with h | h
    · rcases List.mem_cons.mp h with rfl | h
      · exact hlk
      rcases List.mem_cons.mp h with rfl | h
      · exact hsm
      rcases List.mem_cons.mp h with rfl | h
      · exact hxi
      rcases List.mem_cons.mp h with rfl | h
      · exact hse
      rcases List.mem_cons.mp h with rfl | h
      · exact hin
      rcases List.mem_cons.mp h with rfl | h
      · exact hini
      · cases h
    · exact jwsIn hcode w h
  exact j_go (va_runU (Ts := jw) ⟨hx, hb, hml, hown, hts⟩ hM (va_cwO n hts (jGood hin5) rfl rfl rfl hx0 hdd hRoom) ⟨JPc.blind, hrecv, fun U hU hW => C'.pre hP hD hS hU hW⟩ rfl hn hL.1 rfl (by show 2 * 0 + _ ≤ 8; omega) hd (by rw [hrc, hrs]; exact hcs)) hS hL kk
theorem j_callSU (C : JX p s m args c R D cB zz d rc rs cc nL own) {ws : va_W} {cells slots pc mc ms d2 idx n : Nat} {lv : List (Nat × Value)} {rest : List Value} {y : MethodName} {bytes : ByteArray} {maxL : Nat} {ret : Option FieldType} {as : List Value} {rv : Nat × Nat → Option Value} {ws' : Nat × Nat → va_W} {b : Nat} {fs : List Value} (q0 : Nat) (he : ws[q0]? = some (b, .inr (0, fs))) (hM : JM l D cB zz y bytes maxL ret d2 mc ms (.ref b :: as) ws rv ws') (hcode : Cond.code y bytes maxL ret ∈ jw) (hini : Cond.initialized y.cls ∈ jw) (hlk : Cond.methodLink own idx y ∈ jw) (hsm : Cond.sameMethod y.cls y.cls y.name y.desc ∈ jw) (hsu : Cond.superclass own y.cls ∈ jw) (hin : Cond.instanceMethod y ∈ jw) (hdd : y.name ≠ "<init>" ∧ (parseMethodDescriptor y.desc).map (fun d => d.parameters.length) = some n) (hn : as.length = n) (hfr : d2 + 1 ≤ d ∧ maxL ≤ 20) (hcs : cells + mc ≤ rc ∧ slots + ms ≤ rs) (hcat : (rest.map fun v => v.category).sum ≤ 8) (hd : decode cc pc = .ok (.invokespecial idx, 3)) (kk : ∀ u : Nat × Nat, JG p l e R s m args below meth c Q D zz nL (ws' u) (cells + mc) (slots + ms) (pc + 3) lv ((rv u).toList ++ rest)) : JG p l e R s m args below meth c Q D zz nL ws cells slots pc lv (as.reverse ++ .ref b :: rest) := by
  have C' := C
  obtain ⟨hx, hb, hml, hown, hts, hK, hJ, hzs, hfr1, hlo, hrc, hrs⟩ := C
  intro H locs ls hP hD hS hL
  have hRoom : d2 + 1 ≤ R.frames ∧ 8 + (maxL + 11) + 40 * d2 ≤ R.locals := by omega
  have hrecv := va_recv hK hP (q := ("java/lang/StringBuilder", jTB, 4)) rfl he
  obtain ⟨hu1, hu2, kC, hu3, hu4⟩ := hK.1 0 ("java/lang/StringBuilder", jTB, 4) rfl
  have hin5 : ∀ w ∈ va_wsSU own idx y (Cond.code y bytes maxL ret :: jw), w ∈ jw := by
    intro w hw
    rcases List.mem_append.mp hw with h | h
    · rcases List.mem_cons.mp h with rfl | h
      · exact hlk
      rcases List.mem_cons.mp h with rfl | h
      · exact hsm
      rcases List.mem_cons.mp h with rfl | h
      · exact hsu
      rcases List.mem_cons.mp h with rfl | h
      · exact hin
      rcases List.mem_cons.mp h with rfl | h
      · exact hini
      · cases h
    · exact jwsIn hcode w h
  exact j_go (va_runSU (Ts := jw) ⟨hu2, kC, hu3, hu4⟩ ⟨hx, hb, hml, hown, hts⟩ hM (va_cwSU n hts (jGood hin5) rfl rfl rfl hdd hRoom) ⟨JPc.blind, hrecv, fun U hU hW => C'.pre hP hD hS hU hW⟩ rfl hn hL.1 rfl (by show 2 * 0 + _ ≤ 8; omega) hd (by rw [hrc, hrs]; exact hcs)) hS hL kk
end JJ
/-- a contract out of a walk -/
theorem j_of {l : Launch} {D : va_G} {cB : ClassId} {zz : Nat} {y : MethodName} {cc : ByteArray} {maxL : Nat} {ret : Option FieldType} {d mc ms : Nat} {as : List Value} {ws : va_W} {rv : Nat × Nat → Option Value} {ws' : Nat × Nat → va_W} {own : String} (hy : plainFor y = true) (ho : y.cls = own) (hsl : (lg_sl as).length ≤ maxL)
    (body : ∀ (p : Program) (e : Env) (s : State) (m : MethodId) (below : List Frame) (meth : Method) (c : Code) (R : Room), JX p s m as.toArray c R D cB zz d mc ms cc maxL own → meth.sig.returnType = ret → meth.locks = false → meth.name = y.name →
      JG p l e R s m as.toArray below meth c (MQ below (JQc D zz rv ws') as.toArray s mc ms (Az zz)) D zz maxL ws 0 0 0 (lv_args 0 as) []) : JM l D cB zz y cc maxL ret d mc ms as ws rv ws' := by
  refine MetofW' (cc := cc) (maxL := maxL) (ret := ret) hy rfl ?_
  intro p e s m args below meth c s₁ B hml hv
  obtain ⟨rfl, hP, hD, hK, hJ, hz⟩ := hv
  have hts := atoms_spec (ws := Cond.code y cc maxL ret :: jw) B.pre
  have hown : s.vm.findClass own = some m.cls := by
    rw [← ho]
    exact findClass_of_methodNamed B.named
  have K := body p e s m below meth c { frames := d, cells := mc, slots := ms, locals := 40 * d } ⟨B.exec, B.bytes, hml, hown, fun w hw => hts w (List.mem_cons_of_mem _ hw), hK, hJ, hz, Nat.le_refl _, Nat.le_refl _, rfl, rfl⟩ B.returns B.notSynchronized (name_of_methodNamed B.named B.method).1
  rw [lg_entry_eq]
  exact K s.heap [] _ hP hD va_S.rf (lv_entry as hsl)
