-- ===== PART A: goes FIRST, ahead of the names: the tables' words, and 'selects' of the private methods out of them =====
/-- a private method of a class that the tables say can be made, by its rows of tables_1 -/
def lw_okq (q : MethodName × Nat) : Prop := (q.1.cls ≠ "java/lang/invoke/MethodHandle" ∧ q.1.cls ≠ "java/lang/invoke/VarHandle") ∧ Cond.instantiable q.1.cls q.2 ∈ tables_1 ∧ Cond.privateMethod q.1 ∈ tables_1 ∧ Cond.instanceMethod q.1 ∈ tables_1
theorem lw_p0 : lw_okq (⟨"SkewRings$Field", "fillTables", "()V"⟩, 9) := ⟨⟨by decide +kernel, by decide +kernel⟩, List.mem_of_getElem? (i := 38) (by decide +kernel), List.mem_of_getElem? (i := 373) (by decide +kernel), List.mem_of_getElem? (i := 374) (by decide +kernel)⟩
theorem lw_p1 : lw_okq (⟨"SkewRings$Field", "fillSums", "()V"⟩, 9) := ⟨⟨by decide +kernel, by decide +kernel⟩, List.mem_of_getElem? (i := 38) (by decide +kernel), List.mem_of_getElem? (i := 377) (by decide +kernel), List.mem_of_getElem? (i := 378) (by decide +kernel)⟩
theorem lw_p2 : lw_okq (⟨"SkewRings$Field", "fillProducts", "()V"⟩, 9) := ⟨⟨by decide +kernel, by decide +kernel⟩, List.mem_of_getElem? (i := 38) (by decide +kernel), List.mem_of_getElem? (i := 388) (by decide +kernel), List.mem_of_getElem? (i := 389) (by decide +kernel)⟩
theorem lw_p3 : lw_okq (⟨"SkewRings$Field", "timesW", "(I)I"⟩, 9) := ⟨⟨by decide +kernel, by decide +kernel⟩, List.mem_of_getElem? (i := 38) (by decide +kernel), List.mem_of_getElem? (i := 396) (by decide +kernel), List.mem_of_getElem? (i := 397) (by decide +kernel)⟩
theorem lw_p4 : lw_okq (⟨"SkewRings$Field", "powered", "(I)I"⟩, 9) := ⟨⟨by decide +kernel, by decide +kernel⟩, List.mem_of_getElem? (i := 38) (by decide +kernel), List.mem_of_getElem? (i := 411) (by decide +kernel), List.mem_of_getElem? (i := 412) (by decide +kernel)⟩
theorem lw_p5 : lw_okq (⟨"SkewRings", "placeAt", "(I)LSkewRings$Poly;"⟩, 14) := ⟨⟨by decide +kernel, by decide +kernel⟩, List.mem_of_getElem? (i := 30) (by decide +kernel), List.mem_of_getElem? (i := 470) (by decide +kernel), List.mem_of_getElem? (i := 471) (by decide +kernel)⟩
theorem lw_p6 : lw_okq (⟨"SkewRings$Text", "readNumber", "(I)I"⟩, 7) := ⟨⟨by decide +kernel, by decide +kernel⟩, List.mem_of_getElem? (i := 340) (by decide +kernel), List.mem_of_getElem? (i := 501) (by decide +kernel), List.mem_of_getElem? (i := 502) (by decide +kernel)⟩
theorem lw_p7 : lw_okq (⟨"SkewRings$Text", "isDigit", "(I)Z"⟩, 7) := ⟨⟨by decide +kernel, by decide +kernel⟩, List.mem_of_getElem? (i := 340) (by decide +kernel), List.mem_of_getElem? (i := 505) (by decide +kernel), List.mem_of_getElem? (i := 506) (by decide +kernel)⟩
theorem lw_p8 : lw_okq (⟨"SkewRings$Text", "signAt", "(I)I"⟩, 7) := ⟨⟨by decide +kernel, by decide +kernel⟩, List.mem_of_getElem? (i := 340) (by decide +kernel), List.mem_of_getElem? (i := 509) (by decide +kernel), List.mem_of_getElem? (i := 510) (by decide +kernel)⟩
theorem lw_p9 : lw_okq (⟨"SkewRings", "divided", "(IIIIZ)I"⟩, 14) := ⟨⟨by decide +kernel, by decide +kernel⟩, List.mem_of_getElem? (i := 30) (by decide +kernel), List.mem_of_getElem? (i := 578) (by decide +kernel), List.mem_of_getElem? (i := 579) (by decide +kernel)⟩
theorem lw_p10 : lw_okq (⟨"SkewRings$Ring", "takeAhead", "(LSkewRings$Poly;IILSkewRings$Poly;)V"⟩, 6) := ⟨⟨by decide +kernel, by decide +kernel⟩, List.mem_of_getElem? (i := 86) (by decide +kernel), List.mem_of_getElem? (i := 601) (by decide +kernel), List.mem_of_getElem? (i := 602) (by decide +kernel)⟩
theorem lw_p11 : lw_okq (⟨"SkewRings$Ring", "takeBehind", "(LSkewRings$Poly;IILSkewRings$Poly;)V"⟩, 6) := ⟨⟨by decide +kernel, by decide +kernel⟩, List.mem_of_getElem? (i := 86) (by decide +kernel), List.mem_of_getElem? (i := 613) (by decide +kernel), List.mem_of_getElem? (i := 614) (by decide +kernel)⟩
theorem lw_p12 : lw_okq (⟨"SkewRings$Euclid", "lessProduct", "(LSkewRings$Poly;LSkewRings$Poly;ILSkewRings$Poly;)V"⟩, 7) := ⟨⟨by decide +kernel, by decide +kernel⟩, List.mem_of_getElem? (i := 131) (by decide +kernel), List.mem_of_getElem? (i := 641) (by decide +kernel), List.mem_of_getElem? (i := 642) (by decide +kernel)⟩
theorem lw_p13 : lw_okq (⟨"SkewRings$Euclid", "turnLines", "()V"⟩, 7) := ⟨⟨by decide +kernel, by decide +kernel⟩, List.mem_of_getElem? (i := 131) (by decide +kernel), List.mem_of_getElem? (i := 654) (by decide +kernel), List.mem_of_getElem? (i := 655) (by decide +kernel)⟩
theorem lw_p14 : lw_okq (⟨"SkewRings", "startRow", "()V"⟩, 14) := ⟨⟨by decide +kernel, by decide +kernel⟩, List.mem_of_getElem? (i := 30) (by decide +kernel), List.mem_of_getElem? (i := 702) (by decide +kernel), List.mem_of_getElem? (i := 703) (by decide +kernel)⟩
theorem lw_p15 : lw_okq (⟨"SkewRings", "tell", "(J)V"⟩, 14) := ⟨⟨by decide +kernel, by decide +kernel⟩, List.mem_of_getElem? (i := 30) (by decide +kernel), List.mem_of_getElem? (i := 714) (by decide +kernel), List.mem_of_getElem? (i := 715) (by decide +kernel)⟩
def lw_privs_1 : List (MethodName × Nat) := [(⟨"SkewRings$Field", "fillTables", "()V"⟩, 9), (⟨"SkewRings$Field", "fillSums", "()V"⟩, 9), (⟨"SkewRings$Field", "fillProducts", "()V"⟩, 9), (⟨"SkewRings$Field", "timesW", "(I)I"⟩, 9), (⟨"SkewRings$Field", "powered", "(I)I"⟩, 9), (⟨"SkewRings", "placeAt", "(I)LSkewRings$Poly;"⟩, 14), (⟨"SkewRings$Text", "readNumber", "(I)I"⟩, 7), (⟨"SkewRings$Text", "isDigit", "(I)Z"⟩, 7), (⟨"SkewRings$Text", "signAt", "(I)I"⟩, 7), (⟨"SkewRings", "divided", "(IIIIZ)I"⟩, 14), (⟨"SkewRings$Ring", "takeAhead", "(LSkewRings$Poly;IILSkewRings$Poly;)V"⟩, 6), (⟨"SkewRings$Ring", "takeBehind", "(LSkewRings$Poly;IILSkewRings$Poly;)V"⟩, 6), (⟨"SkewRings$Euclid", "lessProduct", "(LSkewRings$Poly;LSkewRings$Poly;ILSkewRings$Poly;)V"⟩, 7), (⟨"SkewRings$Euclid", "turnLines", "()V"⟩, 7), (⟨"SkewRings", "startRow", "()V"⟩, 14), (⟨"SkewRings", "tell", "(J)V"⟩, 14)]
theorem lw_r1 : ∀ q ∈ lw_privs_1, lw_okq q := List.forall_mem_cons.mpr ⟨lw_p0, List.forall_mem_cons.mpr ⟨lw_p1, List.forall_mem_cons.mpr ⟨lw_p2, List.forall_mem_cons.mpr ⟨lw_p3, List.forall_mem_cons.mpr ⟨lw_p4, List.forall_mem_cons.mpr ⟨lw_p5, List.forall_mem_cons.mpr ⟨lw_p6, List.forall_mem_cons.mpr ⟨lw_p7, List.forall_mem_cons.mpr ⟨lw_p8, List.forall_mem_cons.mpr ⟨lw_p9, List.forall_mem_cons.mpr ⟨lw_p10, List.forall_mem_cons.mpr ⟨lw_p11, List.forall_mem_cons.mpr ⟨lw_p12, List.forall_mem_cons.mpr ⟨lw_p13, List.forall_mem_cons.mpr ⟨lw_p14, List.forall_mem_cons.mpr ⟨lw_p15, fun _ h => absurd h List.not_mem_nil⟩⟩⟩⟩⟩⟩⟩⟩⟩⟩⟩⟩⟩⟩⟩⟩
theorem lw_p16 : lw_okq (⟨"SkewRings", "isSet", "(I)Z"⟩, 14) := ⟨⟨by decide +kernel, by decide +kernel⟩, List.mem_of_getElem? (i := 30) (by decide +kernel), List.mem_of_getElem? (i := 770) (by decide +kernel), List.mem_of_getElem? (i := 771) (by decide +kernel)⟩
theorem lw_p17 : lw_okq (⟨"SkewRings$Values", "vanishAlso", "(LSkewRings$Poly;I)Z"⟩, 5) := ⟨⟨by decide +kernel, by decide +kernel⟩, List.mem_of_getElem? (i := 182) (by decide +kernel), List.mem_of_getElem? (i := 779) (by decide +kernel), List.mem_of_getElem? (i := 780) (by decide +kernel)⟩
theorem lw_p18 : lw_okq (⟨"SkewRings$Divisors", "tries", "(II)I"⟩, 10) := ⟨⟨by decide +kernel, by decide +kernel⟩, List.mem_of_getElem? (i := 206) (by decide +kernel), List.mem_of_getElem? (i := 806) (by decide +kernel), List.mem_of_getElem? (i := 807) (by decide +kernel)⟩
theorem lw_p19 : lw_okq (⟨"SkewRings$Divisors", "hits", "(LSkewRings$Poly;IILSkewRings$Poly;LSkewRings$Poly;)Z"⟩, 10) := ⟨⟨by decide +kernel, by decide +kernel⟩, List.mem_of_getElem? (i := 206) (by decide +kernel), List.mem_of_getElem? (i := 810) (by decide +kernel), List.mem_of_getElem? (i := 811) (by decide +kernel)⟩
theorem lw_p20 : lw_okq (⟨"SkewRings$Divisors", "waysFrom", "(LSkewRings$Poly;I)I"⟩, 10) := ⟨⟨by decide +kernel, by decide +kernel⟩, List.mem_of_getElem? (i := 206) (by decide +kernel), List.mem_of_getElem? (i := 851) (by decide +kernel), List.mem_of_getElem? (i := 852) (by decide +kernel)⟩
theorem lw_p21 : lw_okq (⟨"SkewRings$Likeness", "linearKin", "(LSkewRings$Poly;)I"⟩, 12) := ⟨⟨by decide +kernel, by decide +kernel⟩, List.mem_of_getElem? (i := 272) (by decide +kernel), List.mem_of_getElem? (i := 867) (by decide +kernel), List.mem_of_getElem? (i := 868) (by decide +kernel)⟩
theorem lw_p22 : lw_okq (⟨"SkewRings$Likeness", "quadraticKin", "(LSkewRings$Poly;)I"⟩, 12) := ⟨⟨by decide +kernel, by decide +kernel⟩, List.mem_of_getElem? (i := 272) (by decide +kernel), List.mem_of_getElem? (i := 878) (by decide +kernel), List.mem_of_getElem? (i := 879) (by decide +kernel)⟩
theorem lw_p23 : lw_okq (⟨"SkewRings$Likeness", "cross", "(IIII)I"⟩, 12) := ⟨⟨by decide +kernel, by decide +kernel⟩, List.mem_of_getElem? (i := 272) (by decide +kernel), List.mem_of_getElem? (i := 882) (by decide +kernel), List.mem_of_getElem? (i := 883) (by decide +kernel)⟩
theorem lw_p24 : lw_okq (⟨"SkewRings$Likeness", "gather", "(LSkewRings$Poly;LSkewRings$Poly;)V"⟩, 12) := ⟨⟨by decide +kernel, by decide +kernel⟩, List.mem_of_getElem? (i := 272) (by decide +kernel), List.mem_of_getElem? (i := 896) (by decide +kernel), List.mem_of_getElem? (i := 897) (by decide +kernel)⟩
theorem lw_p25 : lw_okq (⟨"SkewRings$Span", "writeDigits", "(LSkewRings$Poly;I)V"⟩, 6) := ⟨⟨by decide +kernel, by decide +kernel⟩, List.mem_of_getElem? (i := 247) (by decide +kernel), List.mem_of_getElem? (i := 913) (by decide +kernel), List.mem_of_getElem? (i := 914) (by decide +kernel)⟩
theorem lw_p26 : lw_okq (⟨"SkewRings$Span", "take", "([IIII)V"⟩, 6) := ⟨⟨by decide +kernel, by decide +kernel⟩, List.mem_of_getElem? (i := 247) (by decide +kernel), List.mem_of_getElem? (i := 924) (by decide +kernel), List.mem_of_getElem? (i := 925) (by decide +kernel)⟩
theorem lw_p27 : lw_okq (⟨"SkewRings$Span", "settles", "()Z"⟩, 6) := ⟨⟨by decide +kernel, by decide +kernel⟩, List.mem_of_getElem? (i := 247) (by decide +kernel), List.mem_of_getElem? (i := 928) (by decide +kernel), List.mem_of_getElem? (i := 929) (by decide +kernel)⟩
theorem lw_p28 : lw_okq (⟨"SkewRings$Span", "multiply", "([III)V"⟩, 6) := ⟨⟨by decide +kernel, by decide +kernel⟩, List.mem_of_getElem? (i := 247) (by decide +kernel), List.mem_of_getElem? (i := 932) (by decide +kernel), List.mem_of_getElem? (i := 933) (by decide +kernel)⟩
theorem lw_p29 : lw_okq (⟨"SkewRings$Likeness", "addToBase", "(I)V"⟩, 12) := ⟨⟨by decide +kernel, by decide +kernel⟩, List.mem_of_getElem? (i := 272) (by decide +kernel), List.mem_of_getElem? (i := 936) (by decide +kernel), List.mem_of_getElem? (i := 937) (by decide +kernel)⟩
theorem lw_p30 : lw_okq (⟨"SkewRings$Likeness", "advance", "()V"⟩, 12) := ⟨⟨by decide +kernel, by decide +kernel⟩, List.mem_of_getElem? (i := 272) (by decide +kernel), List.mem_of_getElem? (i := 944) (by decide +kernel), List.mem_of_getElem? (i := 945) (by decide +kernel)⟩
theorem lw_p31 : lw_okq (⟨"SkewRings$Centre", "becomeCentral", "(LSkewRings$Poly;II)V"⟩, 4) := ⟨⟨by decide +kernel, by decide +kernel⟩, List.mem_of_getElem? (i := 318) (by decide +kernel), List.mem_of_getElem? (i := 988) (by decide +kernel), List.mem_of_getElem? (i := 989) (by decide +kernel)⟩
def lw_privs_2 : List (MethodName × Nat) := [(⟨"SkewRings", "isSet", "(I)Z"⟩, 14), (⟨"SkewRings$Values", "vanishAlso", "(LSkewRings$Poly;I)Z"⟩, 5), (⟨"SkewRings$Divisors", "tries", "(II)I"⟩, 10), (⟨"SkewRings$Divisors", "hits", "(LSkewRings$Poly;IILSkewRings$Poly;LSkewRings$Poly;)Z"⟩, 10), (⟨"SkewRings$Divisors", "waysFrom", "(LSkewRings$Poly;I)I"⟩, 10), (⟨"SkewRings$Likeness", "linearKin", "(LSkewRings$Poly;)I"⟩, 12), (⟨"SkewRings$Likeness", "quadraticKin", "(LSkewRings$Poly;)I"⟩, 12), (⟨"SkewRings$Likeness", "cross", "(IIII)I"⟩, 12), (⟨"SkewRings$Likeness", "gather", "(LSkewRings$Poly;LSkewRings$Poly;)V"⟩, 12), (⟨"SkewRings$Span", "writeDigits", "(LSkewRings$Poly;I)V"⟩, 6), (⟨"SkewRings$Span", "take", "([IIII)V"⟩, 6), (⟨"SkewRings$Span", "settles", "()Z"⟩, 6), (⟨"SkewRings$Span", "multiply", "([III)V"⟩, 6), (⟨"SkewRings$Likeness", "addToBase", "(I)V"⟩, 12), (⟨"SkewRings$Likeness", "advance", "()V"⟩, 12), (⟨"SkewRings$Centre", "becomeCentral", "(LSkewRings$Poly;II)V"⟩, 4)]
theorem lw_r2 : ∀ q ∈ lw_privs_2, lw_okq q := List.forall_mem_cons.mpr ⟨lw_p16, List.forall_mem_cons.mpr ⟨lw_p17, List.forall_mem_cons.mpr ⟨lw_p18, List.forall_mem_cons.mpr ⟨lw_p19, List.forall_mem_cons.mpr ⟨lw_p20, List.forall_mem_cons.mpr ⟨lw_p21, List.forall_mem_cons.mpr ⟨lw_p22, List.forall_mem_cons.mpr ⟨lw_p23, List.forall_mem_cons.mpr ⟨lw_p24, List.forall_mem_cons.mpr ⟨lw_p25, List.forall_mem_cons.mpr ⟨lw_p26, List.forall_mem_cons.mpr ⟨lw_p27, List.forall_mem_cons.mpr ⟨lw_p28, List.forall_mem_cons.mpr ⟨lw_p29, List.forall_mem_cons.mpr ⟨lw_p30, List.forall_mem_cons.mpr ⟨lw_p31, fun _ h => absurd h List.not_mem_nil⟩⟩⟩⟩⟩⟩⟩⟩⟩⟩⟩⟩⟩⟩⟩⟩
theorem lw_p32 : lw_okq (⟨"SkewRings", "placesInUse", "()I"⟩, 14) := ⟨⟨by decide +kernel, by decide +kernel⟩, List.mem_of_getElem? (i := 30) (by decide +kernel), List.mem_of_getElem? (i := 1003) (by decide +kernel), List.mem_of_getElem? (i := 1004) (by decide +kernel)⟩
theorem lw_p33 : lw_okq (⟨"java/lang/Throwable", "fillInStackTrace", "(I)Ljava/lang/Throwable;"⟩, 6) := ⟨⟨by decide +kernel, by decide +kernel⟩, List.mem_of_getElem? (i := 1047) (by decide +kernel), List.mem_of_getElem? (i := 1045) (by decide +kernel), List.mem_of_getElem? (i := 1046) (by decide +kernel)⟩
def lw_privs_3 : List (MethodName × Nat) := [(⟨"SkewRings", "placesInUse", "()I"⟩, 14), (⟨"java/lang/Throwable", "fillInStackTrace", "(I)Ljava/lang/Throwable;"⟩, 6)]
theorem lw_r3 : ∀ q ∈ lw_privs_3, lw_okq q := List.forall_mem_cons.mpr ⟨lw_p32, List.forall_mem_cons.mpr ⟨lw_p33, fun _ h => absurd h List.not_mem_nil⟩⟩
def lw_privs : List (MethodName × Nat) := lw_privs_1 ++ (lw_privs_2 ++ (lw_privs_3))
def lw_tbl : List Cond := k2_sels lw_privs ++ tables_1
theorem lw_privs_ok : ∀ q ∈ lw_privs, lw_okq q := by
  show ∀ q ∈ lw_privs_1 ++ (lw_privs_2 ++ (lw_privs_3)), lw_okq q
  exact List.forall_mem_append.mpr ⟨lw_r1, List.forall_mem_append.mpr ⟨lw_r2, lw_r3⟩⟩
-- ===== end of PART A; then your names; then what follows =====
theorem tb {w : Cond} (i : Nat) (h : lw_tbl[i]? = some w) : w ∈ lw_tbl := List.mem_of_getElem? h
-- classes: names, fields in the order of the slots, types
def TX0 : u_T := fun k => match k with
  | 0 => ("SkewRings$Centre", "field", "LSkewRings$Field;", true)
  | 1 => ("SkewRings$Centre", "ring", "LSkewRings$Ring;", true)
  | 2 => ("SkewRings$Centre", "span", "LSkewRings$Span;", true)
  | _ => ("SkewRings$Centre", "power", "LSkewRings$Poly;", true)
def tyX0 : Nat → FieldType := fun k => match k with
  | 0 => .object "SkewRings$Field"
  | 1 => .object "SkewRings$Ring"
  | 2 => .object "SkewRings$Span"
  | _ => .object "SkewRings$Poly"
theorem nmX0 : ∀ a, a < 4 → ∀ b, b < 4 → a ≠ b → (TX0 a).2.1 ≠ (TX0 b).2.1 := by decide +kernel
theorem tyX0_ok : ∀ k, k < 4 → parseFieldDescriptor (TX0 k).2.2.1 = some (tyX0 k) := by decide +kernel
theorem dcX0 : ∀ k, k < 4 → (TX0 k).1 = "SkewRings$Centre" := by decide +kernel
theorem inX0 : ∀ w ∈ u_ws "SkewRings$Centre" TX0 4, w ∈ lw_tbl := by
  intro w hw
  obtain ⟨k, hk, rfl⟩ := List.mem_map.mp hw
  have hk := List.mem_range.mp hk
  match k, hk with
  | 0, _ => exact tb 363 (by decide +kernel)
  | 1, _ => exact tb 365 (by decide +kernel)
  | 2, _ => exact tb 367 (by decide +kernel)
  | 3, _ => exact tb 369 (by decide +kernel)
  | k + 4, hk => omega
def TX1 : u_T := fun k => match k with
  | 0 => ("SkewRings$Divisors", "field", "LSkewRings$Field;", true)
  | 1 => ("SkewRings$Divisors", "ring", "LSkewRings$Ring;", true)
  | 2 => ("SkewRings$Divisors", "rest", "LSkewRings$Poly;", true)
  | 3 => ("SkewRings$Divisors", "found", "LSkewRings$Poly;", true)
  | 4 => ("SkewRings$Divisors", "left", "LSkewRings$Poly;", true)
  | 5 => ("SkewRings$Divisors", "remaining", "LSkewRings$Poly;", true)
  | 6 => ("SkewRings$Divisors", "divisorAt", "[LSkewRings$Poly;", true)
  | 7 => ("SkewRings$Divisors", "leftAt", "[LSkewRings$Poly;", true)
  | 8 => ("SkewRings$Divisors", "factors", "[LSkewRings$Poly;", true)
  | _ => ("SkewRings$Divisors", "factorCount", "I", false)
def tyX1 : Nat → FieldType := fun k => match k with
  | 0 => .object "SkewRings$Field"
  | 1 => .object "SkewRings$Ring"
  | 2 => .object "SkewRings$Poly"
  | 3 => .object "SkewRings$Poly"
  | 4 => .object "SkewRings$Poly"
  | 5 => .object "SkewRings$Poly"
  | 6 => .array (.object "SkewRings$Poly")
  | 7 => .array (.object "SkewRings$Poly")
  | 8 => .array (.object "SkewRings$Poly")
  | _ => .int
theorem nmX1 : ∀ a, a < 10 → ∀ b, b < 10 → a ≠ b → (TX1 a).2.1 ≠ (TX1 b).2.1 := by decide +kernel
theorem tyX1_ok : ∀ k, k < 10 → parseFieldDescriptor (TX1 k).2.2.1 = some (tyX1 k) := by decide +kernel
theorem dcX1 : ∀ k, k < 10 → (TX1 k).1 = "SkewRings$Divisors" := by decide +kernel
theorem inX1 : ∀ w ∈ u_ws "SkewRings$Divisors" TX1 10, w ∈ lw_tbl := by
  intro w hw
  obtain ⟨k, hk, rfl⟩ := List.mem_map.mp hw
  have hk := List.mem_range.mp hk
  match k, hk with
  | 0, _ => exact tb 259 (by decide +kernel)
  | 1, _ => exact tb 261 (by decide +kernel)
  | 2, _ => exact tb 263 (by decide +kernel)
  | 3, _ => exact tb 265 (by decide +kernel)
  | 4, _ => exact tb 267 (by decide +kernel)
  | 5, _ => exact tb 269 (by decide +kernel)
  | 6, _ => exact tb 271 (by decide +kernel)
  | 7, _ => exact tb 273 (by decide +kernel)
  | 8, _ => exact tb 275 (by decide +kernel)
  | 9, _ => exact tb 277 (by decide +kernel)
  | k + 10, hk => omega
def TX2 : u_T := fun k => match k with
  | 0 => ("SkewRings$Euclid", "ring", "LSkewRings$Ring;", true)
  | 1 => ("SkewRings$Euclid", "upper", "LSkewRings$Line;", false)
  | 2 => ("SkewRings$Euclid", "lower", "LSkewRings$Line;", false)
  | 3 => ("SkewRings$Euclid", "next", "LSkewRings$Line;", false)
  | 4 => ("SkewRings$Euclid", "quotient", "LSkewRings$Poly;", true)
  | 5 => ("SkewRings$Euclid", "part", "LSkewRings$Poly;", true)
  | _ => ("SkewRings$Euclid", "restDegrees", "[I", true)
def tyX2 : Nat → FieldType := fun k => match k with
  | 0 => .object "SkewRings$Ring"
  | 1 => .object "SkewRings$Line"
  | 2 => .object "SkewRings$Line"
  | 3 => .object "SkewRings$Line"
  | 4 => .object "SkewRings$Poly"
  | 5 => .object "SkewRings$Poly"
  | _ => .array .int
theorem nmX2 : ∀ a, a < 7 → ∀ b, b < 7 → a ≠ b → (TX2 a).2.1 ≠ (TX2 b).2.1 := by decide +kernel
theorem tyX2_ok : ∀ k, k < 7 → parseFieldDescriptor (TX2 k).2.2.1 = some (tyX2 k) := by decide +kernel
theorem dcX2 : ∀ k, k < 7 → (TX2 k).1 = "SkewRings$Euclid" := by decide +kernel
theorem inX2 : ∀ w ∈ u_ws "SkewRings$Euclid" TX2 7, w ∈ lw_tbl := by
  intro w hw
  obtain ⟨k, hk, rfl⟩ := List.mem_map.mp hw
  have hk := List.mem_range.mp hk
  match k, hk with
  | 0, _ => exact tb 200 (by decide +kernel)
  | 1, _ => exact tb 202 (by decide +kernel)
  | 2, _ => exact tb 204 (by decide +kernel)
  | 3, _ => exact tb 206 (by decide +kernel)
  | 4, _ => exact tb 208 (by decide +kernel)
  | 5, _ => exact tb 210 (by decide +kernel)
  | 6, _ => exact tb 212 (by decide +kernel)
  | k + 7, hk => omega
def TX3 : u_T := fun k => match k with
  | 0 => ("SkewRings$Field", "kind", "I", false)
  | 1 => ("SkewRings$Field", "q", "I", false)
  | 2 => ("SkewRings$Field", "p", "I", false)
  | 3 => ("SkewRings$Field", "m", "I", false)
  | 4 => ("SkewRings$Field", "sums", "[I", true)
  | 5 => ("SkewRings$Field", "products", "[I", true)
  | 6 => ("SkewRings$Field", "images", "[I", true)
  | 7 => ("SkewRings$Field", "inverses", "[I", true)
  | _ => ("SkewRings$Field", "opposites", "[I", true)
def tyX3 : Nat → FieldType := fun k => match k with
  | 0 => .int
  | 1 => .int
  | 2 => .int
  | 3 => .int
  | 4 => .array .int
  | 5 => .array .int
  | 6 => .array .int
  | 7 => .array .int
  | _ => .array .int
theorem nmX3 : ∀ a, a < 9 → ∀ b, b < 9 → a ≠ b → (TX3 a).2.1 ≠ (TX3 b).2.1 := by decide +kernel
theorem tyX3_ok : ∀ k, k < 9 → parseFieldDescriptor (TX3 k).2.2.1 = some (tyX3 k) := by decide +kernel
theorem dcX3 : ∀ k, k < 9 → (TX3 k).1 = "SkewRings$Field" := by decide +kernel
theorem inX3 : ∀ w ∈ u_ws "SkewRings$Field" TX3 9, w ∈ lw_tbl := by
  intro w hw
  obtain ⟨k, hk, rfl⟩ := List.mem_map.mp hw
  have hk := List.mem_range.mp hk
  match k, hk with
  | 0, _ => exact tb 99 (by decide +kernel)
  | 1, _ => exact tb 101 (by decide +kernel)
  | 2, _ => exact tb 103 (by decide +kernel)
  | 3, _ => exact tb 105 (by decide +kernel)
  | 4, _ => exact tb 107 (by decide +kernel)
  | 5, _ => exact tb 109 (by decide +kernel)
  | 6, _ => exact tb 111 (by decide +kernel)
  | 7, _ => exact tb 113 (by decide +kernel)
  | 8, _ => exact tb 115 (by decide +kernel)
  | k + 9, hk => omega
def TX4 : u_T := fun k => match k with
  | 0 => ("SkewRings$Likeness", "field", "LSkewRings$Field;", true)
  | 1 => ("SkewRings$Likeness", "ring", "LSkewRings$Ring;", true)
  | 2 => ("SkewRings$Likeness", "span", "LSkewRings$Span;", true)
  | 3 => ("SkewRings$Likeness", "quotient", "LSkewRings$Poly;", true)
  | 4 => ("SkewRings$Likeness", "part", "LSkewRings$Poly;", true)
  | 5 => ("SkewRings$Likeness", "rest", "LSkewRings$Poly;", true)
  | 6 => ("SkewRings$Likeness", "base", "[LSkewRings$Poly;", true)
  | 7 => ("SkewRings$Likeness", "digits", "[I", true)
  | 8 => ("SkewRings$Likeness", "marks", "[I", true)
  | 9 => ("SkewRings$Likeness", "way", "LSkewRings$Poly;", true)
  | 10 => ("SkewRings$Likeness", "rank", "I", false)
  | _ => ("SkewRings$Likeness", "many", "I", false)
def tyX4 : Nat → FieldType := fun k => match k with
  | 0 => .object "SkewRings$Field"
  | 1 => .object "SkewRings$Ring"
  | 2 => .object "SkewRings$Span"
  | 3 => .object "SkewRings$Poly"
  | 4 => .object "SkewRings$Poly"
  | 5 => .object "SkewRings$Poly"
  | 6 => .array (.object "SkewRings$Poly")
  | 7 => .array .int
  | 8 => .array .int
  | 9 => .object "SkewRings$Poly"
  | 10 => .int
  | _ => .int
theorem nmX4 : ∀ a, a < 12 → ∀ b, b < 12 → a ≠ b → (TX4 a).2.1 ≠ (TX4 b).2.1 := by decide +kernel
theorem tyX4_ok : ∀ k, k < 12 → parseFieldDescriptor (TX4 k).2.2.1 = some (tyX4 k) := by decide +kernel
theorem dcX4 : ∀ k, k < 12 → (TX4 k).1 = "SkewRings$Likeness" := by decide +kernel
theorem inX4 : ∀ w ∈ u_ws "SkewRings$Likeness" TX4 12, w ∈ lw_tbl := by
  intro w hw
  obtain ⟨k, hk, rfl⟩ := List.mem_map.mp hw
  have hk := List.mem_range.mp hk
  match k, hk with
  | 0, _ => exact tb 326 (by decide +kernel)
  | 1, _ => exact tb 328 (by decide +kernel)
  | 2, _ => exact tb 330 (by decide +kernel)
  | 3, _ => exact tb 332 (by decide +kernel)
  | 4, _ => exact tb 334 (by decide +kernel)
  | 5, _ => exact tb 336 (by decide +kernel)
  | 6, _ => exact tb 338 (by decide +kernel)
  | 7, _ => exact tb 340 (by decide +kernel)
  | 8, _ => exact tb 342 (by decide +kernel)
  | 9, _ => exact tb 344 (by decide +kernel)
  | 10, _ => exact tb 346 (by decide +kernel)
  | 11, _ => exact tb 348 (by decide +kernel)
  | k + 12, hk => omega
def TX5 : u_T := fun k => match k with
  | 0 => ("SkewRings$Line", "value", "LSkewRings$Poly;", true)
  | 1 => ("SkewRings$Line", "ofFirst", "LSkewRings$Poly;", true)
  | _ => ("SkewRings$Line", "ofSecond", "LSkewRings$Poly;", true)
def tyX5 : Nat → FieldType := fun k => match k with
  | 0 => .object "SkewRings$Poly"
  | 1 => .object "SkewRings$Poly"
  | _ => .object "SkewRings$Poly"
theorem nmX5 : ∀ a, a < 3 → ∀ b, b < 3 → a ≠ b → (TX5 a).2.1 ≠ (TX5 b).2.1 := by decide +kernel
theorem tyX5_ok : ∀ k, k < 3 → parseFieldDescriptor (TX5 k).2.2.1 = some (tyX5 k) := by decide +kernel
theorem dcX5 : ∀ k, k < 3 → (TX5 k).1 = "SkewRings$Line" := by decide +kernel
theorem inX5 : ∀ w ∈ u_ws "SkewRings$Line" TX5 3, w ∈ lw_tbl := by
  intro w hw
  obtain ⟨k, hk, rfl⟩ := List.mem_map.mp hw
  have hk := List.mem_range.mp hk
  match k, hk with
  | 0, _ => exact tb 184 (by decide +kernel)
  | 1, _ => exact tb 186 (by decide +kernel)
  | 2, _ => exact tb 188 (by decide +kernel)
  | k + 3, hk => omega
def TX6 : u_T := fun k => match k with
  | 0 => ("SkewRings$Poly", "a", "[I", true)
  | _ => ("SkewRings$Poly", "top", "I", false)
def tyX6 : Nat → FieldType := fun k => match k with
  | 0 => .array .int
  | _ => .int
theorem nmX6 : ∀ a, a < 2 → ∀ b, b < 2 → a ≠ b → (TX6 a).2.1 ≠ (TX6 b).2.1 := by decide +kernel
theorem tyX6_ok : ∀ k, k < 2 → parseFieldDescriptor (TX6 k).2.2.1 = some (tyX6 k) := by decide +kernel
theorem dcX6 : ∀ k, k < 2 → (TX6 k).1 = "SkewRings$Poly" := by decide +kernel
theorem inX6 : ∀ w ∈ u_ws "SkewRings$Poly" TX6 2, w ∈ lw_tbl := by
  intro w hw
  obtain ⟨k, hk, rfl⟩ := List.mem_map.mp hw
  have hk := List.mem_range.mp hk
  match k, hk with
  | 0, _ => exact tb 140 (by decide +kernel)
  | 1, _ => exact tb 142 (by decide +kernel)
  | k + 2, hk => omega
def TX7 : u_T := fun k => match k with
  | 0 => ("SkewRings$Ring", "field", "LSkewRings$Field;", true)
  | 1 => ("SkewRings$Ring", "product", "LSkewRings$Poly;", true)
  | 2 => ("SkewRings$Ring", "quotient", "LSkewRings$Poly;", true)
  | 3 => ("SkewRings$Ring", "first", "LSkewRings$Poly;", true)
  | 4 => ("SkewRings$Ring", "second", "LSkewRings$Poly;", true)
  | _ => ("SkewRings$Ring", "third", "LSkewRings$Poly;", true)
def tyX7 : Nat → FieldType := fun k => match k with
  | 0 => .object "SkewRings$Field"
  | 1 => .object "SkewRings$Poly"
  | 2 => .object "SkewRings$Poly"
  | 3 => .object "SkewRings$Poly"
  | 4 => .object "SkewRings$Poly"
  | _ => .object "SkewRings$Poly"
theorem nmX7 : ∀ a, a < 6 → ∀ b, b < 6 → a ≠ b → (TX7 a).2.1 ≠ (TX7 b).2.1 := by decide +kernel
theorem tyX7_ok : ∀ k, k < 6 → parseFieldDescriptor (TX7 k).2.2.1 = some (tyX7 k) := by decide +kernel
theorem dcX7 : ∀ k, k < 6 → (TX7 k).1 = "SkewRings$Ring" := by decide +kernel
theorem inX7 : ∀ w ∈ u_ws "SkewRings$Ring" TX7 6, w ∈ lw_tbl := by
  intro w hw
  obtain ⟨k, hk, rfl⟩ := List.mem_map.mp hw
  have hk := List.mem_range.mp hk
  match k, hk with
  | 0, _ => exact tb 151 (by decide +kernel)
  | 1, _ => exact tb 153 (by decide +kernel)
  | 2, _ => exact tb 155 (by decide +kernel)
  | 3, _ => exact tb 157 (by decide +kernel)
  | 4, _ => exact tb 159 (by decide +kernel)
  | 5, _ => exact tb 161 (by decide +kernel)
  | k + 6, hk => omega
def TX8 : u_T := fun k => match k with
  | 0 => ("SkewRings$Span", "field", "LSkewRings$Field;", true)
  | 1 => ("SkewRings$Span", "rows", "[I", true)
  | 2 => ("SkewRings$Span", "origins", "[I", true)
  | 3 => ("SkewRings$Span", "pivots", "[I", true)
  | 4 => ("SkewRings$Span", "count", "I", false)
  | _ => ("SkewRings$Span", "offered", "I", false)
def tyX8 : Nat → FieldType := fun k => match k with
  | 0 => .object "SkewRings$Field"
  | 1 => .array .int
  | 2 => .array .int
  | 3 => .array .int
  | 4 => .int
  | _ => .int
theorem nmX8 : ∀ a, a < 6 → ∀ b, b < 6 → a ≠ b → (TX8 a).2.1 ≠ (TX8 b).2.1 := by decide +kernel
theorem tyX8_ok : ∀ k, k < 6 → parseFieldDescriptor (TX8 k).2.2.1 = some (tyX8 k) := by decide +kernel
theorem dcX8 : ∀ k, k < 6 → (TX8 k).1 = "SkewRings$Span" := by decide +kernel
theorem inX8 : ∀ w ∈ u_ws "SkewRings$Span" TX8 6, w ∈ lw_tbl := by
  intro w hw
  obtain ⟨k, hk, rfl⟩ := List.mem_map.mp hw
  have hk := List.mem_range.mp hk
  match k, hk with
  | 0, _ => exact tb 292 (by decide +kernel)
  | 1, _ => exact tb 294 (by decide +kernel)
  | 2, _ => exact tb 296 (by decide +kernel)
  | 3, _ => exact tb 298 (by decide +kernel)
  | 4, _ => exact tb 300 (by decide +kernel)
  | 5, _ => exact tb 302 (by decide +kernel)
  | k + 6, hk => omega
def TX9 : u_T := fun k => match k with
  | 0 => ("SkewRings$Text", "signs", "[I", true)
  | 1 => ("SkewRings$Text", "points", "[I", true)
  | 2 => ("SkewRings$Text", "wanted", "[I", true)
  | 3 => ("SkewRings$Text", "length", "I", false)
  | 4 => ("SkewRings$Text", "couples", "I", false)
  | 5 => ("SkewRings$Text", "at", "I", false)
  | _ => ("SkewRings$Text", "fault", "I", false)
def tyX9 : Nat → FieldType := fun k => match k with
  | 0 => .array .int
  | 1 => .array .int
  | 2 => .array .int
  | 3 => .int
  | 4 => .int
  | 5 => .int
  | _ => .int
theorem nmX9 : ∀ a, a < 7 → ∀ b, b < 7 → a ≠ b → (TX9 a).2.1 ≠ (TX9 b).2.1 := by decide +kernel
theorem tyX9_ok : ∀ k, k < 7 → parseFieldDescriptor (TX9 k).2.2.1 = some (tyX9 k) := by decide +kernel
theorem dcX9 : ∀ k, k < 7 → (TX9 k).1 = "SkewRings$Text" := by decide +kernel
theorem inX9 : ∀ w ∈ u_ws "SkewRings$Text" TX9 7, w ∈ lw_tbl := by
  intro w hw
  obtain ⟨k, hk, rfl⟩ := List.mem_map.mp hw
  have hk := List.mem_range.mp hk
  match k, hk with
  | 0, _ => exact tb 386 (by decide +kernel)
  | 1, _ => exact tb 388 (by decide +kernel)
  | 2, _ => exact tb 390 (by decide +kernel)
  | 3, _ => exact tb 392 (by decide +kernel)
  | 4, _ => exact tb 394 (by decide +kernel)
  | 5, _ => exact tb 396 (by decide +kernel)
  | 6, _ => exact tb 398 (by decide +kernel)
  | k + 7, hk => omega
def TX10 : u_T := fun k => match k with
  | 0 => ("SkewRings$Values", "field", "LSkewRings$Field;", true)
  | 1 => ("SkewRings$Values", "ring", "LSkewRings$Ring;", true)
  | 2 => ("SkewRings$Values", "linear", "LSkewRings$Poly;", true)
  | 3 => ("SkewRings$Values", "vanishing", "LSkewRings$Poly;", true)
  | _ => ("SkewRings$Values", "part", "LSkewRings$Poly;", true)
def tyX10 : Nat → FieldType := fun k => match k with
  | 0 => .object "SkewRings$Field"
  | 1 => .object "SkewRings$Ring"
  | 2 => .object "SkewRings$Poly"
  | 3 => .object "SkewRings$Poly"
  | _ => .object "SkewRings$Poly"
theorem nmX10 : ∀ a, a < 5 → ∀ b, b < 5 → a ≠ b → (TX10 a).2.1 ≠ (TX10 b).2.1 := by decide +kernel
theorem tyX10_ok : ∀ k, k < 5 → parseFieldDescriptor (TX10 k).2.2.1 = some (tyX10 k) := by decide +kernel
theorem dcX10 : ∀ k, k < 5 → (TX10 k).1 = "SkewRings$Values" := by decide +kernel
theorem inX10 : ∀ w ∈ u_ws "SkewRings$Values" TX10 5, w ∈ lw_tbl := by
  intro w hw
  obtain ⟨k, hk, rfl⟩ := List.mem_map.mp hw
  have hk := List.mem_range.mp hk
  match k, hk with
  | 0, _ => exact tb 228 (by decide +kernel)
  | 1, _ => exact tb 230 (by decide +kernel)
  | 2, _ => exact tb 232 (by decide +kernel)
  | 3, _ => exact tb 234 (by decide +kernel)
  | 4, _ => exact tb 236 (by decide +kernel)
  | k + 5, hk => omega
def TX11 : u_T := fun k => match k with
  | 0 => ("SkewRings", "field", "LSkewRings$Field;", true)
  | 1 => ("SkewRings", "ring", "LSkewRings$Ring;", true)
  | 2 => ("SkewRings", "euclid", "LSkewRings$Euclid;", true)
  | 3 => ("SkewRings", "values", "LSkewRings$Values;", true)
  | 4 => ("SkewRings", "divisors", "LSkewRings$Divisors;", true)
  | 5 => ("SkewRings", "span", "LSkewRings$Span;", true)
  | 6 => ("SkewRings", "likeness", "LSkewRings$Likeness;", true)
  | 7 => ("SkewRings", "centre", "LSkewRings$Centre;", true)
  | 8 => ("SkewRings", "places", "[LSkewRings$Poly;", true)
  | 9 => ("SkewRings", "text", "LSkewRings$Text;", true)
  | 10 => ("SkewRings", "told", "[J", true)
  | 11 => ("SkewRings", "toldCount", "I", false)
  | 12 => ("SkewRings", "answer", "LSkewRings$Poly;", true)
  | _ => ("SkewRings", "spare", "LSkewRings$Poly;", true)
def tyX11 : Nat → FieldType := fun k => match k with
  | 0 => .object "SkewRings$Field"
  | 1 => .object "SkewRings$Ring"
  | 2 => .object "SkewRings$Euclid"
  | 3 => .object "SkewRings$Values"
  | 4 => .object "SkewRings$Divisors"
  | 5 => .object "SkewRings$Span"
  | 6 => .object "SkewRings$Likeness"
  | 7 => .object "SkewRings$Centre"
  | 8 => .array (.object "SkewRings$Poly")
  | 9 => .object "SkewRings$Text"
  | 10 => .array .long
  | 11 => .int
  | 12 => .object "SkewRings$Poly"
  | _ => .object "SkewRings$Poly"
theorem nmX11 : ∀ a, a < 14 → ∀ b, b < 14 → a ≠ b → (TX11 a).2.1 ≠ (TX11 b).2.1 := by decide +kernel
theorem tyX11_ok : ∀ k, k < 14 → parseFieldDescriptor (TX11 k).2.2.1 = some (tyX11 k) := by decide +kernel
theorem dcX11 : ∀ k, k < 14 → (TX11 k).1 = "SkewRings" := by decide +kernel
theorem inX11 : ∀ w ∈ u_ws "SkewRings" TX11 14, w ∈ lw_tbl := by
  intro w hw
  obtain ⟨k, hk, rfl⟩ := List.mem_map.mp hw
  have hk := List.mem_range.mp hk
  match k, hk with
  | 0, _ => exact tb 462 (by decide +kernel)
  | 1, _ => exact tb 464 (by decide +kernel)
  | 2, _ => exact tb 466 (by decide +kernel)
  | 3, _ => exact tb 468 (by decide +kernel)
  | 4, _ => exact tb 470 (by decide +kernel)
  | 5, _ => exact tb 472 (by decide +kernel)
  | 6, _ => exact tb 474 (by decide +kernel)
  | 7, _ => exact tb 476 (by decide +kernel)
  | 8, _ => exact tb 478 (by decide +kernel)
  | 9, _ => exact tb 480 (by decide +kernel)
  | 10, _ => exact tb 482 (by decide +kernel)
  | 11, _ => exact tb 484 (by decide +kernel)
  | 12, _ => exact tb 486 (by decide +kernel)
  | 13, _ => exact tb 488 (by decide +kernel)
  | k + 14, hk => omega
abbrev TX12 : u_T := TX11
abbrev tyX12 : Nat → FieldType := tyX11
theorem nmX12 : ∀ a, a < 14 → ∀ b, b < 14 → a ≠ b → (TX12 a).2.1 ≠ (TX12 b).2.1 := nmX11
theorem tyX12_ok : ∀ k, k < 14 → parseFieldDescriptor (TX12 k).2.2.1 = some (tyX12 k) := tyX11_ok
theorem dcX12 : ∀ k, k < 14 → (TX12 k).1 = "SkewRings" := dcX11
theorem inX12 : ∀ w ∈ u_ws "SkewRings" TX12 14, w ∈ lw_tbl := inX11
def cN : Nat → String := fun k => match k with
  | 0 => "SkewRings$Centre"
  | 1 => "SkewRings$Divisors"
  | 2 => "SkewRings$Euclid"
  | 3 => "SkewRings$Field"
  | 4 => "SkewRings$Likeness"
  | 5 => "SkewRings$Line"
  | 6 => "SkewRings$Poly"
  | 7 => "SkewRings$Ring"
  | 8 => "SkewRings$Span"
  | 9 => "SkewRings$Text"
  | 10 => "SkewRings$Values"
  | 11 => "SkewRings"
  | 12 => "SkewRings"
  | 13 => "SkewRingsLaw"
  | 14 => "java/lang/Math"
  | _ => "java/lang/Integer"
def cT : Nat → u_T := fun k => match k with
  | 0 => TX0
  | 1 => TX1
  | 2 => TX2
  | 3 => TX3
  | 4 => TX4
  | 5 => TX5
  | 6 => TX6
  | 7 => TX7
  | 8 => TX8
  | 9 => TX9
  | 10 => TX10
  | 11 => TX11
  | _ => TX12
def cY : Nat → Nat → FieldType := fun k => match k with
  | 0 => tyX0
  | 1 => tyX1
  | 2 => tyX2
  | 3 => tyX3
  | 4 => tyX4
  | 5 => tyX5
  | 6 => tyX6
  | 7 => tyX7
  | 8 => tyX8
  | 9 => tyX9
  | 10 => tyX10
  | 11 => tyX11
  | _ => tyX12
def cZ : Nat → Nat := fun k => match k with
  | 0 => 4
  | 1 => 10
  | 2 => 7
  | 3 => 9
  | 4 => 12
  | 5 => 3
  | 6 => 2
  | 7 => 6
  | 8 => 6
  | 9 => 7
  | 10 => 5
  | 11 => 14
  | _ => 14
/-- 0: a whole number; 1: a reference that is final; 2: a reference that may change -/
def FTs : List (List Nat) := [[1, 1, 1, 1], [1, 1, 1, 1, 1, 1, 1, 1, 1, 0], [1, 2, 2, 2, 1, 1, 1], [0, 0, 0, 0, 1, 1, 1, 1, 1], [1, 1, 1, 1, 1, 1, 1, 1, 1, 1, 0, 0], [1, 1, 1], [1, 0], [1, 1, 1, 1, 1, 1], [1, 1, 1, 1, 0, 0], [1, 1, 1, 0, 0, 0, 0], [1, 1, 1, 1, 1], [1, 1, 1, 1, 1, 1, 1, 1, 1, 1, 1, 0, 1, 1], [1, 1, 1, 1, 1, 1, 1, 1, 1, 1, 1, 0, 1, 1]]
abbrev vwCl : List vw_C := [(cN 0, cT 0, cZ 0), (cN 1, cT 1, cZ 1), (cN 2, cT 2, cZ 2), (cN 3, cT 3, cZ 3), (cN 4, cT 4, cZ 4), (cN 5, cT 5, cZ 5), (cN 6, cT 6, cZ 6), (cN 7, cT 7, cZ 7), (cN 8, cT 8, cZ 8), (cN 9, cT 9, cZ 9), (cN 10, cT 10, cZ 10), (cN 11, cT 11, cZ 11), (cN 12, cT 12, cZ 12)]
theorem cls_in : ∀ ci, ci < 13 → ∀ w ∈ u_ws (cN ci) (cT ci) (cZ ci), w ∈ lw_tbl := fun ci h => match ci, h with
  | 0, _ => inX0
  | 1, _ => inX1
  | 2, _ => inX2
  | 3, _ => inX3
  | 4, _ => inX4
  | 5, _ => inX5
  | 6, _ => inX6
  | 7, _ => inX7
  | 8, _ => inX8
  | 9, _ => inX9
  | 10, _ => inX10
  | 11, _ => inX11
  | 12, _ => inX12
theorem cls_ty : ∀ ci, ci < 13 → ∀ k, k < cZ ci → parseFieldDescriptor (cT ci k).2.2.1 = some (cY ci k) := fun ci h => match ci, h with
  | 0, _ => tyX0_ok
  | 1, _ => tyX1_ok
  | 2, _ => tyX2_ok
  | 3, _ => tyX3_ok
  | 4, _ => tyX4_ok
  | 5, _ => tyX5_ok
  | 6, _ => tyX6_ok
  | 7, _ => tyX7_ok
  | 8, _ => tyX8_ok
  | 9, _ => tyX9_ok
  | 10, _ => tyX10_ok
  | 11, _ => tyX11_ok
  | 12, _ => tyX12_ok
theorem cls_nm : ∀ ci, ci < 13 → ∀ a, a < cZ ci → ∀ b, b < cZ ci → a ≠ b → (cT ci a).2.1 ≠ (cT ci b).2.1 := fun ci h => match ci, h with
  | 0, _ => nmX0
  | 1, _ => nmX1
  | 2, _ => nmX2
  | 3, _ => nmX3
  | 4, _ => nmX4
  | 5, _ => nmX5
  | 6, _ => nmX6
  | 7, _ => nmX7
  | 8, _ => nmX8
  | 9, _ => nmX9
  | 10, _ => nmX10
  | 11, _ => nmX11
  | 12, _ => nmX12
theorem cls_dc : ∀ ci, ci < 13 → ∀ k, k < cZ ci → (cT ci k).1 = cN ci := fun ci h => match ci, h with
  | 0, _ => dcX0
  | 1, _ => dcX1
  | 2, _ => dcX2
  | 3, _ => dcX3
  | 4, _ => dcX4
  | 5, _ => dcX5
  | 6, _ => dcX6
  | 7, _ => dcX7
  | 8, _ => dcX8
  | 9, _ => dcX9
  | 10, _ => dcX10
  | 11, _ => dcX11
  | 12, _ => dcX12
-- methods
def mY : List MethodName := [⟨"SkewRings$Field", "<init>", "()V"⟩, ⟨"SkewRings$Field", "become", "(I)V"⟩, ⟨"SkewRings$Field", "fillTables", "()V"⟩, ⟨"SkewRings$Field", "fillSums", "()V"⟩, ⟨"SkewRings$Field", "put", "([III)V"⟩, ⟨"SkewRings$Field", "sum", "(II)I"⟩, ⟨"SkewRings$Field", "fillProducts", "()V"⟩, ⟨"SkewRings$Field", "product", "(II)I"⟩, ⟨"SkewRings$Field", "timesW", "(I)I"⟩, ⟨"SkewRings$Field", "unit", "(I)I"⟩, ⟨"SkewRings$Field", "image", "(II)I"⟩, ⟨"SkewRings$Field", "powered", "(I)I"⟩, ⟨"SkewRings$Field", "isKind", "(I)Z"⟩, ⟨"SkewRings$Field", "has", "(I)Z"⟩, ⟨"SkewRings$Field", "inverted", "(I)I"⟩, ⟨"SkewRings$Field", "chain", "(II)I"⟩, ⟨"SkewRings$Field", "conjugatesOf", "(I)I"⟩, ⟨"SkewRings$Field", "conjugate", "(II)I"⟩, ⟨"SkewRings$Field", "ratio", "(II)I"⟩, ⟨"SkewRings$Field", "difference", "(II)I"⟩, ⟨"SkewRings$Field", "opposite", "(I)I"⟩, ⟨"SkewRings$Poly", "<init>", "()V"⟩, ⟨"SkewRings$Poly", "clear", "()V"⟩, ⟨"SkewRings$Poly", "put", "(II)V"⟩, ⟨"SkewRings$Poly", "copy", "(LSkewRings$Poly;)V"⟩, ⟨"SkewRings$Poly", "at", "(I)I"⟩, ⟨"SkewRings$Poly", "leading", "()I"⟩, ⟨"SkewRings$Poly", "become", "(I)V"⟩, ⟨"SkewRings$Poly", "weight", "()I"⟩, ⟨"SkewRings$Poly", "lowest", "()I"⟩, ⟨"SkewRings$Poly", "isOne", "()Z"⟩, ⟨"SkewRings$Poly", "isLike", "(LSkewRings$Poly;)Z"⟩, ⟨"SkewRings$Poly", "compared", "(LSkewRings$Poly;)I"⟩, ⟨"SkewRings$Poly", "becomeStep", "(I)V"⟩, ⟨"SkewRings$Line", "<init>", "()V"⟩, ⟨"SkewRings$Line", "start", "(LSkewRings$Poly;II)V"⟩, ⟨"SkewRings$Ring", "<init>", "(LSkewRings$Field;)V"⟩, ⟨"SkewRings$Ring", "sum", "(LSkewRings$Poly;LSkewRings$Poly;LSkewRings$Poly;)V"⟩, ⟨"SkewRings$Ring", "highest", "(LSkewRings$Poly;LSkewRings$Poly;LSkewRings$Poly;)I"⟩, ⟨"SkewRings$Ring", "difference", "(LSkewRings$Poly;LSkewRings$Poly;LSkewRings$Poly;)V"⟩, ⟨"SkewRings$Ring", "scaled", "(ILSkewRings$Poly;LSkewRings$Poly;)V"⟩, ⟨"SkewRings$Ring", "product", "(LSkewRings$Poly;LSkewRings$Poly;LSkewRings$Poly;)V"⟩, ⟨"SkewRings$Ring", "divide", "(LSkewRings$Poly;LSkewRings$Poly;ILSkewRings$Poly;LSkewRings$Poly;)V"⟩, ⟨"SkewRings$Ring", "takeAhead", "(LSkewRings$Poly;IILSkewRings$Poly;)V"⟩, ⟨"SkewRings$Ring", "takeBehind", "(LSkewRings$Poly;IILSkewRings$Poly;)V"⟩, ⟨"SkewRings$Ring", "productAt", "(ILSkewRings$Poly;LSkewRings$Poly;LSkewRings$Poly;)V"⟩, ⟨"SkewRings$Ring", "makeMonic", "(LSkewRings$Poly;I)V"⟩, ⟨"SkewRings$Ring", "scaledBehind", "(LSkewRings$Poly;ILSkewRings$Poly;)V"⟩, ⟨"SkewRings$Ring", "mapped", "(LSkewRings$Poly;ILSkewRings$Poly;)V"⟩, ⟨"SkewRings$Ring", "reach", "(LSkewRings$Poly;I)I"⟩, ⟨"SkewRings$Ring", "startSteps", "(LSkewRings$Poly;LSkewRings$Poly;)V"⟩, ⟨"SkewRings$Ring", "step", "(LSkewRings$Poly;LSkewRings$Poly;)V"⟩, ⟨"SkewRings$Ring", "areCoprime", "(LSkewRings$Poly;LSkewRings$Poly;)Z"⟩, ⟨"SkewRings$Ring", "divides", "(LSkewRings$Poly;LSkewRings$Poly;)Z"⟩, ⟨"SkewRings$Euclid", "<init>", "(LSkewRings$Ring;)V"⟩, ⟨"SkewRings$Euclid", "run", "(LSkewRings$Poly;LSkewRings$Poly;I)V"⟩, ⟨"SkewRings$Euclid", "lessProduct", "(LSkewRings$Poly;LSkewRings$Poly;ILSkewRings$Poly;)V"⟩, ⟨"SkewRings$Euclid", "turnLines", "()V"⟩, ⟨"SkewRings$Euclid", "divisorTo", "(ILSkewRings$Poly;)V"⟩, ⟨"SkewRings$Euclid", "multipleTo", "(LSkewRings$Poly;ILSkewRings$Poly;)V"⟩, ⟨"SkewRings$Euclid", "divisions", "(LSkewRings$Poly;LSkewRings$Poly;I)I"⟩, ⟨"SkewRings$Euclid", "restDegree", "(I)I"⟩, ⟨"SkewRings$Euclid", "cofactorsTo", "(LSkewRings$Poly;LSkewRings$Poly;)I"⟩, ⟨"SkewRings$Values", "<init>", "(LSkewRings$Field;LSkewRings$Ring;)V"⟩, ⟨"SkewRings$Values", "fit", "(LSkewRings$Text;LSkewRings$Poly;)Z"⟩, ⟨"SkewRings$Values", "valueAt", "(LSkewRings$Poly;I)I"⟩, ⟨"SkewRings$Values", "vanishAlso", "(LSkewRings$Poly;I)Z"⟩, ⟨"SkewRings$Values", "rootsOf", "(LSkewRings$Poly;)I"⟩, ⟨"SkewRings$Values", "done", "(LSkewRings$Poly;I)I"⟩, ⟨"SkewRings$Values", "doneTo", "(LSkewRings$Poly;I)I"⟩, ⟨"SkewRings$Values", "images", "(LSkewRings$Poly;)I"⟩, ⟨"SkewRings$Values", "basisOf", "(ILSkewRings$Poly;)I"⟩, ⟨"SkewRings$Values", "leastStretched", "(LSkewRings$Poly;I)I"⟩, ⟨"SkewRings$Values", "quadraticsWithoutRoots", "()I"⟩, ⟨"SkewRings$Divisors", "<init>", "(LSkewRings$Field;LSkewRings$Ring;)V"⟩, ⟨"SkewRings$Divisors", "forget", "()V"⟩, ⟨"SkewRings$Divisors", "survey", "(LSkewRings$Poly;ILSkewRings$Poly;)I"⟩, ⟨"SkewRings$Divisors", "tries", "(II)I"⟩, ⟨"SkewRings$Divisors", "hits", "(LSkewRings$Poly;IILSkewRings$Poly;LSkewRings$Poly;)Z"⟩, ⟨"SkewRings$Divisors", "isPrime", "(LSkewRings$Poly;)Z"⟩, ⟨"SkewRings$Divisors", "split", "(LSkewRings$Poly;)I"⟩, ⟨"SkewRings$Divisors", "polyAt", "([LSkewRings$Poly;I)LSkewRings$Poly;"⟩, ⟨"SkewRings$Divisors", "factorAt", "(I)LSkewRings$Poly;"⟩, ⟨"SkewRings$Divisors", "waysFrom", "(LSkewRings$Poly;I)I"⟩, ⟨"SkewRings$Span", "<init>", "(LSkewRings$Field;)V"⟩, ⟨"SkewRings$Span", "start", "()V"⟩, ⟨"SkewRings$Span", "depends", "(LSkewRings$Poly;I)Z"⟩, ⟨"SkewRings$Span", "writeDigits", "(LSkewRings$Poly;I)V"⟩, ⟨"SkewRings$Span", "set", "([III)V"⟩, ⟨"SkewRings$Span", "get", "([II)I"⟩, ⟨"SkewRings$Span", "take", "([IIII)V"⟩, ⟨"SkewRings$Span", "settles", "()Z"⟩, ⟨"SkewRings$Span", "multiply", "([III)V"⟩, ⟨"SkewRings$Span", "relationAt", "(I)I"⟩, ⟨"SkewRings$Likeness", "<init>", "(LSkewRings$Field;LSkewRings$Ring;LSkewRings$Span;)V"⟩, ⟨"SkewRings$Likeness", "kin", "(LSkewRings$Poly;)I"⟩, ⟨"SkewRings$Likeness", "linearKin", "(LSkewRings$Poly;)I"⟩, ⟨"SkewRings$Likeness", "quadraticKin", "(LSkewRings$Poly;)I"⟩, ⟨"SkewRings$Likeness", "cross", "(IIII)I"⟩, ⟨"SkewRings$Likeness", "findWay", "(LSkewRings$Poly;LSkewRings$Poly;)Z"⟩, ⟨"SkewRings$Likeness", "gather", "(LSkewRings$Poly;LSkewRings$Poly;)V"⟩, ⟨"SkewRings$Likeness", "addToBase", "(I)V"⟩, ⟨"SkewRings$Likeness", "advance", "()V"⟩, ⟨"SkewRings$Likeness", "countWays", "(LSkewRings$Poly;LSkewRings$Poly;)I"⟩, ⟨"SkewRings$Centre", "<init>", "(LSkewRings$Field;LSkewRings$Ring;LSkewRings$Span;)V"⟩, ⟨"SkewRings$Centre", "holds", "(LSkewRings$Poly;)Z"⟩, ⟨"SkewRings$Centre", "boundOf", "(LSkewRings$Poly;)I"⟩, ⟨"SkewRings$Centre", "greatestPart", "(LSkewRings$Poly;LSkewRings$Poly;)V"⟩, ⟨"SkewRings$Centre", "becomeCentral", "(LSkewRings$Poly;II)V"⟩, ⟨"SkewRings$Text", "<init>", "()V"⟩, ⟨"SkewRings$Text", "append", "(I)Z"⟩, ⟨"SkewRings$Text", "cut", "(I)Z"⟩, ⟨"SkewRings$Text", "readNumbers", "(ILSkewRings$Poly;)I"⟩, ⟨"SkewRings$Text", "readNumber", "(I)I"⟩, ⟨"SkewRings$Text", "isDigit", "(I)Z"⟩, ⟨"SkewRings$Text", "signAt", "(I)I"⟩, ⟨"SkewRings$Text", "clear", "()V"⟩, ⟨"SkewRings$Text", "readCouples", "(I)I"⟩, ⟨"SkewRings$Text", "readCouple", "(I)Z"⟩, ⟨"SkewRings$Text", "isPoint", "(I)Z"⟩, ⟨"SkewRings$Text", "pointAt", "(I)I"⟩, ⟨"SkewRings$Text", "valueAt", "(I)I"⟩, ⟨"SkewRings", "<init>", "()V"⟩, ⟨"SkewRings", "field", "(I)I"⟩, ⟨"SkewRings", "placeAt", "(I)LSkewRings$Poly;"⟩, ⟨"SkewRings", "plus", "(II)I"⟩, ⟨"SkewRings", "times", "(II)I"⟩, ⟨"SkewRings", "inverse", "(I)I"⟩, ⟨"SkewRings", "map", "(II)I"⟩, ⟨"SkewRings", "isTurns", "(I)Z"⟩, ⟨"SkewRings", "norm", "(II)I"⟩, ⟨"SkewRings", "conjugates", "(I)I"⟩, ⟨"SkewRings", "startRow", "()V"⟩, ⟨"SkewRings", "tell", "(J)V"⟩, ⟨"SkewRings", "classes", "()I"⟩, ⟨"SkewRings", "sign", "(I)I"⟩, ⟨"SkewRings", "end", "(I)Z"⟩, ⟨"SkewRings", "tells", "(I)I"⟩, ⟨"SkewRings", "degree", "(I)I"⟩, ⟨"SkewRings", "number", "(II)I"⟩, ⟨"SkewRings", "adds", "(III)I"⟩, ⟨"SkewRings", "takes", "(III)I"⟩, ⟨"SkewRings", "scales", "(III)I"⟩, ⟨"SkewRings", "multiplies", "(III)I"⟩, ⟨"SkewRings", "keep", "(LSkewRings$Poly;LSkewRings$Poly;)I"⟩, ⟨"SkewRings", "quotient", "(IIII)I"⟩, ⟨"SkewRings", "divided", "(IIIIZ)I"⟩, ⟨"SkewRings", "isSide", "(I)Z"⟩, ⟨"SkewRings", "remainder", "(IIII)I"⟩, ⟨"SkewRings", "divisor", "(IIII)I"⟩, ⟨"SkewRings", "multiple", "(IIII)I"⟩, ⟨"SkewRings", "steps", "(III)I"⟩, ⟨"SkewRings", "crosses", "(III)I"⟩, ⟨"SkewRings", "maps", "(III)I"⟩, ⟨"SkewRings", "monic", "(I)I"⟩, ⟨"SkewRings", "form", "(II)I"⟩, ⟨"SkewRings", "same", "(II)I"⟩, ⟨"SkewRings", "power", "(III)I"⟩, ⟨"SkewRings", "turned", "(III)I"⟩, ⟨"SkewRings", "cofactors", "(IIII)I"⟩, ⟨"SkewRings", "fits", "(I)I"⟩, ⟨"SkewRings", "value", "(II)I"⟩, ⟨"SkewRings", "roots", "(I)I"⟩, ⟨"SkewRings", "does", "(II)I"⟩, ⟨"SkewRings", "kernel", "(I)I"⟩, ⟨"SkewRings", "solves", "(II)I"⟩, ⟨"SkewRings", "reaches", "(I)I"⟩, ⟨"SkewRings", "basis", "(I)I"⟩, ⟨"SkewRings", "isSet", "(I)Z"⟩, ⟨"SkewRings", "shares", "(II)I"⟩, ⟨"SkewRings", "eigen", "(I)I"⟩, ⟨"SkewRings", "vanishes", "(II)I"⟩, ⟨"SkewRings", "divisors", "(II)I"⟩, ⟨"SkewRings", "refusalOf", "(LSkewRings$Poly;)I"⟩, ⟨"SkewRings", "prime", "(I)I"⟩, ⟨"SkewRings", "factors", "(I)I"⟩, ⟨"SkewRings", "ways", "(I)I"⟩, ⟨"SkewRings", "likes", "(I)I"⟩, ⟨"SkewRings", "like", "(II)I"⟩, ⟨"SkewRings", "commuting", "(I)I"⟩, ⟨"SkewRings", "central", "(I)I"⟩, ⟨"SkewRings", "bound", "(I)I"⟩, ⟨"SkewRings", "part", "(II)I"⟩, ⟨"SkewRings", "primes", "(I)I"⟩, ⟨"SkewRings", "count", "(I)I"⟩, ⟨"SkewRings", "placesInUse", "()I"⟩, ⟨"SkewRings", "factor", "(II)I"⟩, ⟨"SkewRings", "row", "(I)J"⟩, ⟨"SkewRingsLaw", "cell", "([II)I"⟩, ⟨"SkewRingsLaw", "ones", "(I)I"⟩, ⟨"java/lang/Math", "min", "(II)I"⟩, ⟨"", "", ""⟩, ⟨"", "", ""⟩, ⟨"", "", ""⟩, ⟨"", "", ""⟩, ⟨"", "", ""⟩, ⟨"", "", ""⟩, ⟨"", "", ""⟩, ⟨"", "", ""⟩, ⟨"", "", ""⟩, ⟨"", "", ""⟩, ⟨"", "", ""⟩, ⟨"", "", ""⟩, ⟨"", "", ""⟩, ⟨"", "", ""⟩, ⟨"", "", ""⟩, ⟨"", "", ""⟩, ⟨"", "", ""⟩, ⟨"", "", ""⟩, ⟨"", "", ""⟩, ⟨"", "", ""⟩, ⟨"", "", ""⟩, ⟨"", "", ""⟩, ⟨"", "", ""⟩, ⟨"", "", ""⟩, ⟨"", "", ""⟩, ⟨"", "", ""⟩, ⟨"", "", ""⟩, ⟨"", "", ""⟩, ⟨"", "", ""⟩, ⟨"", "", ""⟩, ⟨"", "", ""⟩, ⟨"", "", ""⟩, ⟨"", "", ""⟩, ⟨"", "", ""⟩, ⟨"", "", ""⟩, ⟨"", "", ""⟩, ⟨"", "", ""⟩, ⟨"", "", ""⟩, ⟨"", "", ""⟩, ⟨"", "", ""⟩, ⟨"", "", ""⟩, ⟨"", "", ""⟩, ⟨"", "", ""⟩, ⟨"", "", ""⟩, ⟨"", "", ""⟩, ⟨"", "", ""⟩, ⟨"", "", ""⟩, ⟨"", "", ""⟩, ⟨"", "", ""⟩, ⟨"", "", ""⟩, ⟨"", "", ""⟩, ⟨"", "", ""⟩, ⟨"", "", ""⟩, ⟨"", "", ""⟩, ⟨"", "", ""⟩, ⟨"", "", ""⟩, ⟨"", "", ""⟩, ⟨"", "", ""⟩, ⟨"", "", ""⟩, ⟨"", "", ""⟩, ⟨"", "", ""⟩, ⟨"", "", ""⟩, ⟨"", "", ""⟩, ⟨"", "", ""⟩, ⟨"", "", ""⟩, ⟨"", "", ""⟩, ⟨"", "", ""⟩, ⟨"", "", ""⟩, ⟨"", "", ""⟩, ⟨"", "", ""⟩, ⟨"", "", ""⟩, ⟨"", "", ""⟩, ⟨"", "", ""⟩, ⟨"", "", ""⟩, ⟨"", "", ""⟩, ⟨"", "", ""⟩, ⟨"", "", ""⟩, ⟨"", "", ""⟩, ⟨"", "", ""⟩, ⟨"", "", ""⟩, ⟨"", "", ""⟩, ⟨"", "", ""⟩, ⟨"", "", ""⟩, ⟨"", "", ""⟩, ⟨"", "", ""⟩, ⟨"", "", ""⟩, ⟨"", "", ""⟩, ⟨"", "", ""⟩, ⟨"", "", ""⟩, ⟨"", "", ""⟩, ⟨"", "", ""⟩, ⟨"", "", ""⟩, ⟨"", "", ""⟩, ⟨"", "", ""⟩, ⟨"", "", ""⟩, ⟨"", "", ""⟩, ⟨"", "", ""⟩, ⟨"", "", ""⟩, ⟨"", "", ""⟩, ⟨"", "", ""⟩, ⟨"", "", ""⟩, ⟨"", "", ""⟩, ⟨"", "", ""⟩, ⟨"", "", ""⟩, ⟨"", "", ""⟩, ⟨"", "", ""⟩, ⟨"", "", ""⟩, ⟨"", "", ""⟩, ⟨"", "", ""⟩, ⟨"", "", ""⟩, ⟨"", "", ""⟩, ⟨"", "", ""⟩, ⟨"", "", ""⟩, ⟨"java/lang/Math", "floorMod", "(II)I"⟩, ⟨"java/lang/Math", "max", "(II)I"⟩, ⟨"java/lang/Integer", "bitCount", "(I)I"⟩, ⟨"SkewRingsLaw", "law", "([I)Z"⟩]
def mB : List ByteArray := [prog_5_method_1_code, prog_5_method_3_code, prog_5_method_16_code, prog_5_method_18_code, prog_5_method_17_code, prog_5_method_5_code, prog_5_method_19_code, prog_5_method_6_code, prog_5_method_20_code, prog_5_method_15_code, prog_5_method_11_code, prog_5_method_21_code, prog_5_method_2_code, prog_5_method_4_code, prog_5_method_9_code, ⟨#[]⟩, ⟨#[]⟩, prog_5_method_13_code, prog_5_method_10_code, prog_5_method_8_code, prog_5_method_7_code, prog_8_method_1_code, prog_8_method_4_code, prog_8_method_3_code, prog_8_method_7_code, prog_8_method_2_code, prog_8_method_8_code, prog_8_method_5_code, prog_8_method_9_code, prog_8_method_10_code, prog_8_method_11_code, prog_8_method_12_code, prog_8_method_13_code, prog_8_method_6_code, prog_7_method_1_code, prog_7_method_2_code, prog_9_method_1_code, prog_9_method_2_code, prog_9_method_4_code, prog_9_method_3_code, prog_9_method_5_code, prog_9_method_8_code, prog_9_method_10_code, prog_9_method_11_code, prog_9_method_12_code, prog_9_method_9_code, prog_9_method_14_code, prog_9_method_6_code, ⟨#[]⟩, ⟨#[]⟩, prog_9_method_17_code, prog_9_method_16_code, prog_9_method_15_code, prog_9_method_13_code, prog_4_method_1_code, prog_4_method_2_code, prog_4_method_3_code, prog_4_method_4_code, prog_4_method_5_code, prog_4_method_6_code, ⟨#[]⟩, ⟨#[]⟩, ⟨#[]⟩, prog_12_method_1_code, ⟨#[]⟩, prog_12_method_2_code, prog_12_method_9_code, prog_12_method_3_code, prog_12_method_4_code, prog_12_method_5_code, prog_12_method_6_code, prog_12_method_8_code, ⟨#[]⟩, ⟨#[]⟩, prog_3_method_1_code, prog_3_method_2_code, prog_3_method_7_code, prog_3_method_5_code, prog_3_method_6_code, prog_3_method_8_code, prog_3_method_9_code, prog_3_method_4_code, prog_3_method_3_code, prog_3_method_10_code, prog_10_method_1_code, prog_10_method_2_code, prog_10_method_3_code, prog_10_method_4_code, prog_10_method_8_code, prog_10_method_7_code, prog_10_method_9_code, prog_10_method_5_code, prog_10_method_10_code, prog_10_method_6_code, prog_6_method_1_code, prog_6_method_7_code, prog_6_method_8_code, prog_6_method_9_code, prog_6_method_10_code, prog_6_method_2_code, prog_6_method_4_code, prog_6_method_5_code, prog_6_method_6_code, ⟨#[]⟩, prog_2_method_1_code, prog_2_method_2_code, prog_2_method_3_code, prog_2_method_4_code, prog_2_method_5_code, prog_11_method_1_code, prog_11_method_2_code, prog_11_method_3_code, prog_11_method_10_code, prog_11_method_9_code, prog_11_method_8_code, prog_11_method_7_code, prog_11_method_4_code, ⟨#[]⟩, ⟨#[]⟩, ⟨#[]⟩, ⟨#[]⟩, ⟨#[]⟩, prog_1_method_1_code, prog_1_method_2_code, prog_1_method_57_code, prog_1_method_3_code, prog_1_method_4_code, ⟨#[]⟩, ⟨#[]⟩, ⟨#[]⟩, ⟨#[]⟩, ⟨#[]⟩, prog_1_method_59_code, prog_1_method_60_code, ⟨#[]⟩, prog_1_method_10_code, prog_1_method_11_code, prog_1_method_12_code, prog_1_method_13_code, ⟨#[]⟩, prog_1_method_15_code, ⟨#[]⟩, prog_1_method_17_code, prog_1_method_18_code, prog_1_method_65_code, prog_1_method_19_code, prog_1_method_66_code, prog_1_method_62_code, prog_1_method_20_code, prog_1_method_21_code, prog_1_method_22_code, ⟨#[]⟩, ⟨#[]⟩, ⟨#[]⟩, ⟨#[]⟩, prog_1_method_27_code, prog_1_method_28_code, ⟨#[]⟩, ⟨#[]⟩, ⟨#[]⟩, ⟨#[]⟩, prog_1_method_33_code, prog_1_method_34_code, prog_1_method_35_code, prog_1_method_36_code, ⟨#[]⟩, ⟨#[]⟩, ⟨#[]⟩, prog_1_method_61_code, ⟨#[]⟩, ⟨#[]⟩, prog_1_method_42_code, prog_1_method_43_code, prog_1_method_64_code, prog_1_method_44_code, prog_1_method_45_code, prog_1_method_47_code, prog_1_method_48_code, prog_1_method_49_code, ⟨#[]⟩, prog_1_method_51_code, prog_1_method_52_code, prog_1_method_53_code, ⟨#[]⟩, prog_1_method_55_code, prog_1_method_58_code, ⟨#[]⟩, prog_1_method_56_code, method_2_code, method_6_code, prog_23_method_69_code, ⟨#[]⟩, ⟨#[]⟩, ⟨#[]⟩, ⟨#[]⟩, ⟨#[]⟩, ⟨#[]⟩, ⟨#[]⟩, ⟨#[]⟩, ⟨#[]⟩, ⟨#[]⟩, ⟨#[]⟩, ⟨#[]⟩, ⟨#[]⟩, ⟨#[]⟩, ⟨#[]⟩, ⟨#[]⟩, ⟨#[]⟩, ⟨#[]⟩, ⟨#[]⟩, ⟨#[]⟩, ⟨#[]⟩, ⟨#[]⟩, ⟨#[]⟩, ⟨#[]⟩, ⟨#[]⟩, ⟨#[]⟩, ⟨#[]⟩, ⟨#[]⟩, ⟨#[]⟩, ⟨#[]⟩, ⟨#[]⟩, ⟨#[]⟩, ⟨#[]⟩, ⟨#[]⟩, ⟨#[]⟩, ⟨#[]⟩, ⟨#[]⟩, ⟨#[]⟩, ⟨#[]⟩, ⟨#[]⟩, ⟨#[]⟩, ⟨#[]⟩, ⟨#[]⟩, ⟨#[]⟩, ⟨#[]⟩, ⟨#[]⟩, ⟨#[]⟩, ⟨#[]⟩, ⟨#[]⟩, ⟨#[]⟩, ⟨#[]⟩, ⟨#[]⟩, ⟨#[]⟩, ⟨#[]⟩, ⟨#[]⟩, ⟨#[]⟩, ⟨#[]⟩, ⟨#[]⟩, ⟨#[]⟩, ⟨#[]⟩, ⟨#[]⟩, ⟨#[]⟩, ⟨#[]⟩, ⟨#[]⟩, ⟨#[]⟩, ⟨#[]⟩, ⟨#[]⟩, ⟨#[]⟩, ⟨#[]⟩, ⟨#[]⟩, ⟨#[]⟩, ⟨#[]⟩, ⟨#[]⟩, ⟨#[]⟩, ⟨#[]⟩, ⟨#[]⟩, ⟨#[]⟩, ⟨#[]⟩, ⟨#[]⟩, ⟨#[]⟩, ⟨#[]⟩, ⟨#[]⟩, ⟨#[]⟩, ⟨#[]⟩, ⟨#[]⟩, ⟨#[]⟩, ⟨#[]⟩, ⟨#[]⟩, ⟨#[]⟩, ⟨#[]⟩, ⟨#[]⟩, ⟨#[]⟩, ⟨#[]⟩, ⟨#[]⟩, ⟨#[]⟩, ⟨#[]⟩, ⟨#[]⟩, ⟨#[]⟩, ⟨#[]⟩, ⟨#[]⟩, ⟨#[]⟩, ⟨#[]⟩, ⟨#[]⟩, ⟨#[]⟩, ⟨#[]⟩, ⟨#[]⟩, ⟨#[]⟩, ⟨#[]⟩, ⟨#[]⟩, ⟨#[]⟩, ⟨#[]⟩, ⟨#[]⟩, ⟨#[]⟩, prog_23_method_50_code, prog_23_method_65_code, prog_22_method_49_code, code]
def mL : List Nat := [1, 3, 3, 5, 3, 4, 6, 4, 4, 4, 4, 4, 1, 2, 2, 5, 4, 3, 3, 3, 2, 1, 2, 3, 4, 2, 1, 2, 3, 2, 1, 2, 3, 2, 1, 4, 2, 5, 3, 5, 5, 7, 9, 7, 7, 5, 4, 5, 5, 4, 3, 4, 8, 3, 2, 5, 5, 2, 3, 4, 5, 2, 4, 3, 7, 6, 4, 4, 5, 5, 4, 5, 4, 6, 4, 1, 6, 3, 6, 4, 5, 2, 2, 8, 2, 1, 5, 7, 3, 2, 8, 3, 6, 2, 5, 6, 3, 9, 5, 4, 5, 6, 3, 5, 4, 4, 4, 6, 6, 1, 3, 2, 5, 3, 2, 2, 1, 3, 4, 3, 2, 2, 2, 4, 2, 3, 3, 2, 3, 1, 3, 3, 1, 3, 4, 2, 2, 4, 3, 4, 7, 7, 6, 7, 2, 5, 9, 1, 5, 8, 8, 8, 7, 6, 4, 4, 5, 7, 6, 9, 4, 4, 4, 4, 4, 5, 4, 3, 2, 7, 6, 4, 7, 1, 4, 7, 4, 3, 7, 4, 3, 5, 6, 2, 2, 4, 4, 2, 2, 3, 2, 0, 0, 0, 0, 0, 0, 0, 0, 0, 0, 0, 0, 0, 0, 0, 0, 0, 0, 0, 0, 0, 0, 0, 0, 0, 0, 0, 0, 0, 0, 0, 0, 0, 0, 0, 0, 0, 0, 0, 0, 0, 0, 0, 0, 0, 0, 0, 0, 0, 0, 0, 0, 0, 0, 0, 0, 0, 0, 0, 0, 0, 0, 0, 0, 0, 0, 0, 0, 0, 0, 0, 0, 0, 0, 0, 0, 0, 0, 0, 0, 0, 0, 0, 0, 0, 0, 0, 0, 0, 0, 0, 0, 0, 0, 0, 0, 0, 0, 0, 0, 0, 0, 0, 0, 0, 0, 0, 0, 0, 0, 0, 0, 0, 3, 2, 1, 14]
def mR : List (Option FieldType) := [none, none, none, none, none, some (.int), none, some (.int), some (.int), some (.int), some (.int), some (.int), some (.boolean), some (.boolean), some (.int), some (.int), some (.int), some (.int), some (.int), some (.int), some (.int), none, none, none, none, some (.int), some (.int), none, some (.int), some (.int), some (.boolean), some (.boolean), some (.int), none, none, none, none, none, some (.int), none, none, none, none, none, none, none, none, none, none, some (.int), none, none, some (.boolean), some (.boolean), none, none, none, none, none, none, some (.int), some (.int), some (.int), none, some (.boolean), some (.int), some (.boolean), some (.int), some (.int), some (.int), some (.int), some (.int), some (.int), some (.int), none, none, some (.int), some (.int), some (.boolean), some (.boolean), some (.int), some (.object "SkewRings$Poly"), some (.object "SkewRings$Poly"), some (.int), none, none, some (.boolean), none, none, some (.int), none, some (.boolean), none, some (.int), none, some (.int), some (.int), some (.int), some (.int), some (.boolean), none, none, none, some (.int), none, some (.boolean), some (.int), none, none, none, some (.boolean), some (.boolean), some (.int), some (.int), some (.boolean), some (.int), none, some (.int), some (.boolean), some (.boolean), some (.int), some (.int), none, some (.int), some (.object "SkewRings$Poly"), some (.int), some (.int), some (.int), some (.int), some (.boolean), some (.int), some (.int), none, none, some (.int), some (.int), some (.boolean), some (.int), some (.int), some (.int), some (.int), some (.int), some (.int), some (.int), some (.int), some (.int), some (.int), some (.boolean), some (.int), some (.int), some (.int), some (.int), some (.int), some (.int), some (.int), some (.int), some (.int), some (.int), some (.int), some (.int), some (.int), some (.int), some (.int), some (.int), some (.int), some (.int), some (.int), some (.int), some (.boolean), some (.int), some (.int), some (.int), some (.int), some (.int), some (.int), some (.int), some (.int), some (.int), some (.int), some (.int), some (.int), some (.int), some (.int), some (.int), some (.int), some (.int), some (.int), some (.long), some (.int), some (.int), some (.int), none, none, none, none, none, none, none, none, none, none, none, none, none, none, none, none, none, none, none, none, none, none, none, none, none, none, none, none, none, none, none, none, none, none, none, none, none, none, none, none, none, none, none, none, none, none, none, none, none, none, none, none, none, none, none, none, none, none, none, none, none, none, none, none, none, none, none, none, none, none, none, none, none, none, none, none, none, none, none, none, none, none, none, none, none, none, none, none, none, none, none, none, none, none, none, none, none, none, none, none, none, none, none, none, none, none, none, none, none, none, none, none, none, some (.int), some (.int), some (.int), some (.boolean)]
/-- how many parameters, the receiver apart -/
def mA : List Nat := [0, 1, 0, 0, 3, 2, 0, 2, 1, 1, 2, 1, 1, 1, 1, 2, 1, 2, 2, 2, 1, 0, 0, 2, 1, 1, 0, 1, 0, 0, 0, 1, 1, 1, 0, 3, 1, 3, 3, 3, 3, 3, 5, 4, 4, 4, 2, 3, 3, 2, 2, 2, 2, 2, 1, 3, 4, 0, 2, 3, 3, 1, 2, 2, 2, 2, 2, 1, 2, 2, 1, 2, 2, 0, 2, 0, 3, 2, 5, 1, 1, 2, 1, 2, 1, 0, 2, 2, 3, 2, 4, 0, 3, 1, 3, 1, 1, 1, 4, 2, 2, 1, 0, 2, 3, 1, 1, 2, 3, 0, 1, 1, 2, 1, 1, 1, 0, 1, 1, 1, 1, 1, 0, 1, 1, 2, 2, 1, 2, 1, 2, 1, 0, 1, 0, 1, 1, 1, 1, 2, 3, 3, 3, 3, 2, 4, 5, 1, 4, 4, 4, 3, 3, 3, 1, 2, 2, 3, 3, 4, 1, 2, 1, 2, 1, 2, 1, 1, 1, 2, 1, 2, 2, 1, 1, 1, 1, 1, 2, 1, 1, 1, 2, 1, 1, 0, 2, 1, 2, 1, 2, 0, 0, 0, 0, 0, 0, 0, 0, 0, 0, 0, 0, 0, 0, 0, 0, 0, 0, 0, 0, 0, 0, 0, 0, 0, 0, 0, 0, 0, 0, 0, 0, 0, 0, 0, 0, 0, 0, 0, 0, 0, 0, 0, 0, 0, 0, 0, 0, 0, 0, 0, 0, 0, 0, 0, 0, 0, 0, 0, 0, 0, 0, 0, 0, 0, 0, 0, 0, 0, 0, 0, 0, 0, 0, 0, 0, 0, 0, 0, 0, 0, 0, 0, 0, 0, 0, 0, 0, 0, 0, 0, 0, 0, 0, 0, 0, 0, 0, 0, 0, 0, 0, 0, 0, 0, 0, 0, 0, 0, 0, 0, 0, 0, 2, 2, 1, 1]
/-- 1: static -/
def mS : List Nat := [0, 0, 0, 0, 1, 0, 0, 0, 0, 0, 0, 0, 1, 0, 0, 0, 0, 0, 0, 0, 0, 0, 0, 0, 0, 0, 0, 0, 0, 0, 0, 0, 0, 0, 0, 0, 0, 0, 1, 0, 0, 0, 0, 0, 0, 0, 0, 0, 0, 0, 0, 0, 0, 0, 0, 0, 0, 0, 0, 0, 0, 0, 0, 0, 0, 0, 0, 0, 0, 0, 0, 0, 0, 0, 0, 0, 0, 0, 0, 0, 0, 1, 0, 0, 0, 0, 0, 0, 1, 1, 0, 0, 0, 0, 0, 0, 0, 0, 0, 0, 0, 0, 0, 0, 0, 0, 0, 0, 0, 0, 0, 0, 0, 0, 0, 0, 0, 0, 0, 0, 0, 0, 0, 0, 0, 0, 0, 0, 0, 1, 0, 0, 0, 0, 0, 0, 0, 0, 0, 0, 0, 0, 0, 0, 1, 0, 0, 1, 0, 0, 0, 0, 0, 0, 0, 0, 0, 0, 0, 0, 0, 0, 0, 0, 0, 0, 0, 0, 0, 0, 0, 0, 0, 1, 0, 0, 0, 0, 0, 0, 0, 0, 0, 0, 0, 0, 0, 0, 1, 1, 1, 0, 0, 0, 0, 0, 0, 0, 0, 0, 0, 0, 0, 0, 0, 0, 0, 0, 0, 0, 0, 0, 0, 0, 0, 0, 0, 0, 0, 0, 0, 0, 0, 0, 0, 0, 0, 0, 0, 0, 0, 0, 0, 0, 0, 0, 0, 0, 0, 0, 0, 0, 0, 0, 0, 0, 0, 0, 0, 0, 0, 0, 0, 0, 0, 0, 0, 0, 0, 0, 0, 0, 0, 0, 0, 0, 0, 0, 0, 0, 0, 0, 0, 0, 0, 0, 0, 0, 0, 0, 0, 0, 0, 0, 0, 0, 0, 0, 0, 0, 0, 0, 0, 0, 0, 0, 0, 0, 0, 0, 0, 0, 0, 0, 1, 1, 1, 1]
def mK : List Nat := [3, 3, 3, 3, 3, 3, 3, 3, 3, 3, 3, 3, 3, 3, 3, 3, 3, 3, 3, 3, 3, 6, 6, 6, 6, 6, 6, 6, 6, 6, 6, 6, 6, 6, 5, 5, 7, 7, 7, 7, 7, 7, 7, 7, 7, 7, 7, 7, 7, 7, 7, 7, 7, 7, 2, 2, 2, 2, 2, 2, 2, 2, 2, 10, 10, 10, 10, 10, 10, 10, 10, 10, 10, 10, 1, 1, 1, 1, 1, 1, 1, 1, 1, 1, 8, 8, 8, 8, 8, 8, 8, 8, 8, 8, 4, 4, 4, 4, 4, 4, 4, 4, 4, 4, 0, 0, 0, 0, 0, 9, 9, 9, 9, 9, 9, 9, 9, 9, 9, 9, 9, 9, 11, 11, 11, 11, 11, 11, 11, 11, 11, 11, 11, 11, 11, 11, 11, 11, 11, 11, 11, 11, 11, 11, 11, 11, 11, 11, 11, 11, 11, 11, 11, 11, 11, 11, 11, 11, 11, 11, 11, 11, 11, 11, 11, 11, 11, 11, 11, 11, 11, 11, 11, 11, 11, 11, 11, 11, 11, 11, 11, 11, 11, 11, 11, 11, 11, 11, 13, 13, 14, 0, 0, 0, 0, 0, 0, 0, 0, 0, 0, 0, 0, 0, 0, 0, 0, 0, 0, 0, 0, 0, 0, 0, 0, 0, 0, 0, 0, 0, 0, 0, 0, 0, 0, 0, 0, 0, 0, 0, 0, 0, 0, 0, 0, 0, 0, 0, 0, 0, 0, 0, 0, 0, 0, 0, 0, 0, 0, 0, 0, 0, 0, 0, 0, 0, 0, 0, 0, 0, 0, 0, 0, 0, 0, 0, 0, 0, 0, 0, 0, 0, 0, 0, 0, 0, 0, 0, 0, 0, 0, 0, 0, 0, 0, 0, 0, 0, 0, 0, 0, 0, 0, 0, 0, 0, 0, 0, 0, 0, 0, 0, 0, 0, 14, 14, 15, 13]
def mC : List (Nat × Nat) := [(5, 608), (0, 0), (0, 0), (0, 0), (0, 0), (0, 0), (0, 0), (0, 0), (0, 0), (0, 0), (0, 0), (0, 0), (0, 0), (0, 0), (0, 0), (0, 0), (0, 0), (0, 0), (0, 0), (0, 0), (0, 0), (1, 17), (0, 0), (0, 0), (0, 0), (0, 0), (0, 0), (0, 0), (0, 0), (0, 0), (0, 0), (0, 0), (0, 0), (0, 0), (6, 57), (0, 0), (10, 95), (0, 0), (0, 0), (0, 0), (0, 0), (0, 0), (0, 0), (0, 0), (0, 0), (0, 0), (0, 0), (0, 0), (0, 0), (0, 0), (0, 0), (0, 0), (0, 0), (0, 0), (26, 238), (0, 0), (0, 0), (0, 0), (0, 0), (0, 0), (0, 0), (0, 0), (0, 0), (6, 57), (0, 0), (0, 0), (0, 0), (0, 0), (0, 0), (0, 0), (0, 0), (0, 0), (0, 0), (0, 0), (35, 316), (0, 0), (0, 0), (0, 0), (0, 0), (0, 0), (0, 0), (0, 0), (0, 0), (0, 0), (3, 850), (0, 0), (0, 0), (0, 0), (0, 0), (0, 0), (0, 0), (0, 0), (0, 0), (0, 0), (43, 668), (0, 0), (0, 0), (0, 0), (0, 0), (0, 0), (0, 0), (0, 0), (0, 0), (0, 0), (2, 19), (0, 0), (0, 0), (0, 0), (0, 0), (3, 52), (0, 0), (0, 0), (0, 0), (0, 0), (0, 0), (0, 0), (0, 0), (0, 0), (0, 0), (0, 0), (0, 0), (0, 0), (160, 3167), (0, 0), (0, 0), (0, 0), (0, 0), (0, 0), (0, 0), (0, 0), (0, 0), (0, 0), (0, 0), (0, 0), (0, 0), (0, 0), (0, 0), (0, 0), (0, 0), (0, 0), (0, 0), (0, 0), (0, 0), (0, 0), (0, 0), (0, 0), (0, 0), (0, 0), (0, 0), (0, 0), (0, 0), (0, 0), (0, 0), (0, 0), (0, 0), (0, 0), (0, 0), (0, 0), (0, 0), (0, 0), (0, 0), (0, 0), (0, 0), (0, 0), (0, 0), (0, 0), (0, 0), (0, 0), (0, 0), (0, 0), (0, 0), (0, 0), (0, 0), (0, 0), (0, 0), (0, 0), (0, 0), (0, 0), (0, 0), (0, 0), (0, 0), (0, 0), (0, 0), (0, 0), (0, 0), (0, 0), (0, 0), (0, 0), (0, 0), (0, 0), (0, 0), (0, 0), (0, 0), (0, 0), (0, 0), (0, 0), (0, 0), (0, 0), (0, 0), (0, 0), (0, 0), (0, 0), (0, 0), (0, 0), (0, 0), (0, 0), (0, 0), (0, 0), (0, 0), (0, 0), (0, 0), (0, 0), (0, 0), (0, 0), (0, 0), (0, 0), (0, 0), (0, 0), (0, 0), (0, 0), (0, 0), (0, 0), (0, 0), (0, 0), (0, 0), (0, 0), (0, 0), (0, 0), (0, 0), (0, 0), (0, 0), (0, 0), (0, 0), (0, 0), (0, 0), (0, 0), (0, 0), (0, 0), (0, 0), (0, 0), (0, 0), (0, 0), (0, 0), (0, 0), (0, 0), (0, 0), (0, 0), (0, 0), (0, 0), (0, 0), (0, 0), (0, 0), (0, 0), (0, 0), (0, 0), (0, 0), (0, 0), (0, 0), (0, 0), (0, 0), (0, 0), (0, 0), (0, 0), (0, 0), (0, 0), (0, 0), (0, 0), (0, 0), (0, 0), (0, 0), (0, 0), (0, 0), (0, 0), (0, 0), (0, 0), (0, 0), (0, 0), (0, 0), (0, 0), (0, 0), (0, 0), (0, 0), (0, 0), (0, 0), (0, 0), (0, 0), (0, 0), (0, 0), (0, 0), (0, 0), (0, 0), (0, 0), (0, 0), (0, 0), (0, 0), (0, 0), (0, 0), (0, 0), (0, 0), (0, 0), (0, 0), (0, 0), (0, 0), (0, 0), (0, 0), (0, 0), (0, 0), (760737, 6819414)]
/-- the methods that are reached -/
def mV : List Bool := [true, true, true, true, true, true, true, true, true, true, true, true, true, true, true, false, false, true, true, true, true, true, true, true, true, true, true, true, true, true, true, true, true, true, true, true, true, true, true, true, true, true, true, true, true, true, true, true, false, false, true, true, true, true, true, true, true, true, true, true, false, false, false, true, false, true, true, true, true, true, true, true, false, false, true, true, true, true, true, true, true, true, true, true, true, true, true, true, true, true, true, true, true, true, true, true, true, true, true, true, true, true, true, false, true, true, true, true, true, true, true, true, true, true, true, true, true, false, false, false, false, false, true, true, true, true, true, false, false, false, false, false, true, true, false, true, true, true, true, false, true, false, true, true, true, true, true, true, true, true, true, false, false, false, false, true, true, false, false, false, false, true, true, true, true, false, false, false, true, false, false, true, true, true, true, true, true, true, true, false, true, true, true, false, true, true, false, true, true, true, true, false, false, false, false, false, false, false, false, false, false, false, false, false, false, false, false, false, false, false, false, false, false, false, false, false, false, false, false, false, false, false, false, false, false, false, false, false, false, false, false, false, false, false, false, false, false, false, false, false, false, false, false, false, false, false, false, false, false, false, false, false, false, false, false, false, false, false, false, false, false, false, false, false, false, false, false, false, false, false, false, false, false, false, false, false, false, false, false, false, false, false, false, false, false, false, false, false, false, false, false, false, false, false, false, false, false, false, false, false, false, false, false, false, true, true, true, false]
def vOf (t : Nat) : Bool := mV.getD t false
def yOf (t : Nat) : MethodName := mY.getD t ⟨"", "", ""⟩
def bOf (t : Nat) : ByteArray := mB.getD t ⟨#[]⟩
def lOf (t : Nat) : Nat := mL.getD t 0
def rOf (t : Nat) : Option FieldType := mR.getD t none
def aOf (t : Nat) : Nat := mA.getD t 0
def sOf (t : Nat) : Nat := mS.getD t 0
def kOf (t : Nat) : Nat := mK.getD t 0
def cOf (t : Nat) : Nat × Nat := mC.getD t (0, 0)
-- links: own class, index, what
def FL : List (Nat × Nat × Nat × Nat × Nat) := [(11, 106, 3, 0, 1), (3, 25, 3, 0, 0), (11, 120, 3, 1, 1), (10, 50, 3, 1, 1), (3, 35, 3, 1, 0), (1, 53, 3, 1, 1), (4, 122, 3, 1, 1), (0, 43, 3, 2, 1), (3, 29, 3, 2, 0), (8, 61, 3, 2, 1), (4, 116, 3, 2, 1), (11, 349, 3, 2, 1), (0, 34, 3, 3, 1), (3, 32, 3, 3, 0), (4, 83, 3, 3, 1), (8, 56, 3, 3, 1), (11, 352, 3, 3, 1), (3, 9, 3, 4, 0), (3, 13, 3, 5, 0), (3, 16, 3, 6, 0), (3, 19, 3, 7, 0), (3, 22, 3, 8, 0), (6, 11, 6, 0, 0), (6, 15, 6, 1, 0), (0, 30, 6, 1, 1), (10, 30, 6, 1, 1), (2, 49, 6, 1, 1), (7, 53, 6, 1, 1), (4, 80, 6, 1, 1), (1, 58, 6, 1, 1), (11, 179, 6, 1, 1), (7, 28, 7, 0, 0), (11, 106, 3, 0, 1), (7, 10, 7, 1, 0), (7, 16, 7, 2, 0), (7, 19, 7, 3, 0), (7, 22, 7, 4, 0), (7, 25, 7, 5, 0), (5, 10, 5, 0, 0), (2, 46, 5, 0, 1), (5, 16, 5, 1, 0), (2, 59, 5, 1, 1), (5, 19, 5, 2, 0), (2, 66, 5, 2, 1), (2, 38, 2, 0, 0), (2, 12, 2, 1, 0), (2, 18, 2, 2, 0), (2, 21, 2, 3, 0), (2, 27, 2, 4, 0), (2, 31, 2, 5, 0), (2, 34, 2, 6, 0), (10, 22, 10, 0, 0), (10, 26, 10, 1, 0), (10, 10, 10, 2, 0), (10, 16, 10, 3, 0), (10, 19, 10, 4, 0), (1, 37, 1, 0, 0), (1, 41, 1, 1, 0), (1, 12, 1, 2, 0), (1, 18, 1, 3, 0), (1, 21, 1, 4, 0), (1, 24, 1, 5, 0), (1, 27, 1, 6, 0), (1, 31, 1, 7, 0), (1, 34, 1, 8, 0), (1, 45, 1, 9, 0), (11, 358, 1, 9, 1), (8, 19, 8, 0, 0), (8, 9, 8, 1, 0), (8, 13, 8, 2, 0), (8, 16, 8, 3, 0), (8, 23, 8, 4, 0), (8, 27, 8, 5, 0), (4, 40, 4, 0, 0), (4, 44, 4, 1, 0), (4, 48, 4, 2, 0), (4, 12, 4, 3, 0), (4, 18, 4, 4, 0), (4, 21, 4, 5, 0), (4, 24, 4, 6, 0), (4, 28, 4, 7, 0), (4, 34, 4, 8, 0), (4, 37, 4, 9, 0), (11, 324, 4, 9, 1), (4, 69, 4, 10, 0), (4, 56, 4, 11, 0), (11, 106, 3, 0, 1), (0, 18, 0, 0, 0), (0, 22, 0, 1, 0), (0, 26, 0, 2, 0), (0, 12, 0, 3, 0), (9, 11, 9, 0, 0), (9, 15, 9, 1, 0), (9, 18, 9, 2, 0), (9, 21, 9, 3, 0), (11, 164, 9, 3, 1), (11, 106, 3, 0, 1), (11, 106, 3, 0, 1), (9, 29, 9, 5, 0), (9, 32, 9, 6, 0), (11, 10, 11, 0, 0), (11, 21, 11, 1, 0), (11, 30, 11, 2, 0), (11, 39, 11, 3, 0), (11, 46, 11, 4, 0), (11, 53, 11, 5, 0), (11, 62, 11, 6, 0), (11, 69, 11, 7, 0), (11, 75, 11, 8, 0), (11, 82, 11, 9, 0), (11, 86, 11, 10, 0), (11, 361, 11, 11, 0), (11, 91, 11, 12, 0), (11, 95, 11, 13, 0), (11, 106, 3, 0, 1), (11, 106, 3, 0, 1), (11, 106, 3, 0, 1), (11, 106, 3, 0, 1), (11, 106, 3, 0, 1), (11, 106, 3, 0, 1), (11, 106, 3, 0, 1), (11, 106, 3, 0, 1), (11, 106, 3, 0, 1), (11, 106, 3, 0, 1), (11, 106, 3, 0, 1), (11, 106, 3, 0, 1), (11, 106, 3, 0, 1), (11, 106, 3, 0, 1), (11, 106, 3, 0, 1), (11, 106, 3, 0, 1), (11, 106, 3, 0, 1), (11, 106, 3, 0, 1), (11, 106, 3, 0, 1), (11, 106, 3, 0, 1), (11, 106, 3, 0, 1), (11, 106, 3, 0, 1), (11, 106, 3, 0, 1), (11, 106, 3, 0, 1), (11, 106, 3, 0, 1), (11, 106, 3, 0, 1), (11, 106, 3, 0, 1), (11, 106, 3, 0, 1), (11, 106, 3, 0, 1), (11, 106, 3, 0, 1), (11, 106, 3, 0, 1), (11, 106, 3, 0, 1), (11, 106, 3, 0, 1), (11, 106, 3, 0, 1), (11, 106, 3, 0, 1), (11, 106, 3, 0, 1), (11, 106, 3, 0, 1), (11, 106, 3, 0, 1), (11, 106, 3, 0, 1), (11, 106, 3, 0, 1), (11, 106, 3, 0, 1), (11, 106, 3, 0, 1), (11, 106, 3, 0, 1), (11, 106, 3, 0, 1), (11, 106, 3, 0, 1), (11, 106, 3, 0, 1)]
def MK : List (Nat × Nat × Nat × Nat) := [(11, 9, 0, 5), (11, 9, 0, 5), (11, 18, 36, 2), (7, 9, 21, 5), (11, 27, 54, 2), (2, 11, 34, 5), (5, 9, 21, 5), (2, 26, 21, 5), (11, 36, 63, 2), (10, 9, 21, 5), (11, 45, 74, 2), (1, 11, 21, 5), (11, 52, 84, 2), (11, 59, 94, 2), (4, 11, 21, 5), (11, 68, 104, 2), (0, 11, 21, 5), (11, 81, 109, 5), (11, 90, 21, 5), (11, 98, 1, 0), (3, 38, 2, 0), (3, 69, 3, 0), (3, 75, 4, 1), (3, 45, 5, 0), (3, 72, 6, 0), (3, 52, 7, 0), (3, 82, 8, 0), (3, 85, 9, 0), (3, 60, 10, 0), (3, 55, 304, 1), (3, 79, 11, 0), (11, 9, 0, 5), (11, 102, 12, 1), (11, 110, 75, 0), (11, 113, 124, 0), (11, 117, 22, 0), (11, 9, 0, 5), (11, 123, 13, 0), (11, 126, 5, 0), (11, 9, 0, 5), (11, 130, 7, 0), (11, 9, 0, 5), (11, 9, 0, 5), (11, 9, 0, 5), (11, 9, 0, 5), (11, 9, 0, 5), (11, 9, 0, 5), (11, 9, 0, 5), (11, 9, 0, 5), (11, 9, 0, 5), (11, 9, 0, 5), (3, 63, 18, 0), (3, 49, 14, 0), (11, 149, 132, 0), (11, 152, 306, 1), (11, 157, 133, 0), (11, 9, 0, 5), (11, 9, 0, 5), (11, 161, 110, 0), (11, 9, 0, 5), (11, 167, 111, 0), (11, 9, 0, 5), (11, 170, 112, 0), (9, 39, 22, 0), (9, 44, 113, 0), (9, 35, 114, 0), (9, 25, 115, 0), (9, 47, 23, 0), (11, 174, 116, 0), (11, 175, 24, 0), (6, 26, 305, 1), (6, 32, 25, 0), (11, 9, 0, 5), (11, 9, 0, 5), (11, 182, 25, 0), (11, 9, 0, 5), (11, 185, 37, 0), (7, 32, 38, 1), (7, 57, 305, 1), (7, 36, 25, 0), (7, 40, 5, 0), (7, 46, 23, 0), (11, 9, 0, 5), (11, 9, 0, 5), (7, 50, 19, 0), (3, 41, 20, 0), (11, 9, 0, 5), (11, 191, 40, 0), (7, 62, 7, 0), (11, 9, 0, 5), (11, 195, 41, 0), (7, 67, 22, 0), (7, 64, 10, 0), (7, 70, 24, 0), (11, 197, 144, 1), (11, 9, 0, 5), (11, 201, 146, 0), (11, 205, 147, 1), (11, 364, 42, 0), (7, 77, 26, 0), (7, 81, 18, 0), (7, 84, 43, 0), (7, 88, 44, 0), (11, 9, 0, 5), (11, 9, 0, 5), (11, 208, 55, 0), (2, 42, 35, 0), (5, 22, 24, 0), (5, 26, 27, 0), (6, 19, 22, 0), (6, 22, 23, 0), (2, 53, 42, 0), (2, 62, 56, 0), (2, 72, 45, 0), (7, 74, 41, 0), (2, 76, 39, 0), (2, 69, 57, 0), (11, 212, 58, 0), (2, 80, 24, 0), (2, 84, 46, 0), (7, 95, 14, 0), (7, 98, 40, 0), (7, 102, 47, 0), (11, 9, 0, 5), (11, 216, 59, 0), (11, 9, 0, 5), (11, 9, 0, 5), (11, 9, 0, 5), (11, 9, 0, 5), (11, 9, 0, 5), (11, 9, 0, 5), (11, 9, 0, 5), (11, 230, 26, 0), (11, 9, 0, 5), (11, 9, 0, 5), (11, 238, 28, 0), (11, 241, 29, 0), (11, 244, 30, 0), (11, 9, 0, 5), (11, 248, 31, 0), (6, 36, 32, 0), (11, 9, 0, 5), (11, 9, 0, 5), (11, 9, 0, 5), (11, 9, 0, 5), (11, 9, 0, 5), (11, 9, 0, 5), (11, 9, 0, 5), (11, 9, 0, 5), (11, 9, 0, 5), (11, 9, 0, 5), (11, 9, 0, 5), (11, 9, 0, 5), (11, 9, 0, 5), (11, 9, 0, 5), (11, 9, 0, 5), (11, 9, 0, 5), (10, 60, 27, 0), (11, 9, 0, 5), (11, 9, 0, 5), (10, 53, 65, 0), (10, 34, 25, 0), (10, 38, 7, 0), (10, 44, 5, 0), (10, 47, 10, 0), (11, 9, 0, 5), (11, 9, 0, 5), (11, 9, 0, 5), (11, 9, 0, 5), (10, 64, 66, 0), (10, 68, 33, 0), (10, 71, 17, 0), (10, 74, 20, 0), (10, 77, 23, 0), (10, 81, 41, 0), (11, 9, 0, 5), (11, 266, 65, 0), (11, 9, 0, 5), (11, 270, 67, 0), (11, 9, 0, 5), (11, 274, 68, 0), (11, 9, 0, 5), (11, 277, 69, 0), (10, 57, 68, 0), (11, 280, 70, 0), (11, 9, 0, 5), (11, 9, 0, 5), (11, 9, 0, 5), (11, 9, 0, 5), (7, 106, 27, 0), (11, 9, 0, 5), (11, 9, 0, 5), (11, 9, 0, 5), (11, 286, 168, 0), (11, 289, 71, 0), (11, 9, 0, 5), (11, 9, 0, 5), (11, 9, 0, 5), (11, 9, 0, 5), (11, 9, 0, 5), (11, 295, 173, 1), (11, 298, 76, 0), (1, 90, 77, 0), (1, 94, 78, 0), (1, 61, 24, 0), (1, 65, 46, 0), (1, 71, 26, 0), (1, 75, 27, 0), (1, 79, 33, 0), (1, 82, 23, 0), (1, 86, 42, 0), (1, 98, 32, 0), (11, 9, 0, 5), (11, 302, 79, 0), (11, 9, 0, 5), (11, 305, 80, 0), (1, 49, 81, 1), (1, 102, 76, 0), (11, 308, 82, 0), (11, 9, 0, 5), (11, 314, 83, 3), (1, 106, 79, 0), (1, 110, 83, 0), (11, 9, 0, 5), (11, 317, 95, 0), (4, 125, 27, 0), (4, 94, 23, 0), (4, 128, 96, 0), (4, 135, 25, 0), (4, 138, 51, 0), (4, 141, 18, 0), (4, 145, 20, 0), (4, 132, 97, 0), (4, 148, 98, 0), (4, 152, 7, 0), (4, 154, 19, 0), (11, 9, 0, 5), (11, 320, 99, 0), (4, 52, 100, 0), (4, 72, 22, 0), (4, 75, 85, 0), (4, 86, 33, 0), (4, 90, 9, 0), (4, 98, 41, 0), (4, 102, 42, 0), (4, 106, 86, 0), (8, 30, 87, 0), (8, 34, 88, 1), (8, 50, 25, 0), (8, 38, 89, 1), (8, 42, 90, 0), (8, 46, 91, 0), (8, 64, 92, 0), (4, 110, 101, 0), (4, 113, 93, 0), (4, 60, 102, 0), (4, 119, 37, 0), (4, 63, 52, 0), (7, 91, 42, 0), (11, 9, 0, 5), (11, 9, 0, 5), (11, 9, 0, 5), (11, 333, 105, 0), (0, 39, 25, 0), (11, 9, 0, 5), (11, 336, 106, 0), (0, 46, 85, 0), (0, 51, 50, 0), (0, 57, 86, 0), (0, 61, 51, 0), (11, 339, 93, 0), (11, 9, 0, 5), (11, 342, 107, 0), (0, 64, 108, 0), (0, 76, 33, 0), (0, 79, 23, 0), (0, 68, 53, 0), (0, 72, 27, 0), (11, 9, 0, 5), (11, 9, 0, 5), (11, 9, 0, 5), (11, 9, 0, 5), (11, 9, 0, 5), (11, 355, 185, 0), (11, 9, 0, 5), (11, 9, 0, 5), (11, 9, 0, 5), (11, 9, 0, 5), (11, 9, 0, 5), (11, 9, 0, 5), (11, 9, 0, 5), (11, 9, 0, 5), (11, 9, 0, 5), (11, 9, 0, 5), (11, 9, 0, 5), (11, 9, 0, 5), (11, 9, 0, 5), (11, 9, 0, 5), (11, 9, 0, 5), (11, 9, 0, 5), (11, 9, 0, 5), (11, 9, 0, 5), (11, 9, 0, 5), (11, 9, 0, 5), (11, 9, 0, 5), (11, 9, 0, 5), (11, 9, 0, 5), (11, 9, 0, 5), (11, 9, 0, 5), (11, 9, 0, 5), (11, 9, 0, 5), (11, 9, 0, 5), (11, 9, 0, 5), (11, 9, 0, 5), (11, 9, 0, 5), (11, 9, 0, 5), (11, 9, 0, 5), (11, 9, 0, 5), (11, 9, 0, 5), (11, 9, 0, 5), (11, 9, 0, 5), (11, 9, 0, 5), (11, 9, 0, 5), (11, 9, 0, 5), (11, 9, 0, 5), (11, 9, 0, 5), (11, 9, 0, 5), (11, 9, 0, 5), (11, 9, 0, 5), (11, 9, 0, 5), (11, 9, 0, 5), (11, 9, 0, 5), (11, 9, 0, 5), (11, 9, 0, 5), (11, 9, 0, 5), (11, 9, 0, 5), (11, 9, 0, 5), (11, 9, 0, 5), (11, 9, 0, 5), (11, 9, 0, 5), (11, 9, 0, 5), (11, 9, 0, 5), (11, 9, 0, 5), (11, 9, 0, 5), (11, 9, 0, 5), (11, 9, 0, 5), (11, 9, 0, 5), (11, 9, 0, 5), (11, 9, 0, 5), (11, 9, 0, 5), (11, 9, 0, 5), (11, 9, 0, 5), (11, 9, 0, 5), (11, 9, 0, 5), (11, 9, 0, 5), (11, 9, 0, 5), (11, 9, 0, 5), (11, 9, 0, 5), (11, 9, 0, 5), (11, 9, 0, 5), (11, 9, 0, 5), (11, 9, 0, 5), (11, 9, 0, 5), (11, 9, 0, 5), (11, 9, 0, 5), (11, 9, 0, 5), (11, 9, 0, 5), (11, 9, 0, 5), (11, 9, 0, 5), (11, 9, 0, 5), (11, 9, 0, 5), (11, 9, 0, 5), (11, 9, 0, 5), (11, 9, 0, 5), (11, 9, 0, 5), (11, 9, 0, 5), (11, 9, 0, 5), (11, 9, 0, 5), (11, 9, 0, 5), (11, 9, 0, 5), (11, 9, 0, 5), (11, 9, 0, 5), (11, 9, 0, 5), (11, 9, 0, 5), (11, 9, 0, 5), (11, 9, 0, 5), (11, 9, 0, 5), (11, 9, 0, 5), (11, 9, 0, 5), (11, 9, 0, 5), (11, 9, 0, 5), (11, 9, 0, 5), (11, 9, 0, 5), (11, 9, 0, 5), (11, 9, 0, 5), (11, 9, 0, 5), (11, 9, 0, 5), (11, 9, 0, 5), (11, 9, 0, 5), (11, 9, 0, 5), (11, 9, 0, 5), (11, 9, 0, 5), (13, 46, 122, 2), (13, 53, 123, 0), (13, 114, 125, 0), (13, 108, 126, 0), (13, 67, 137, 0), (13, 70, 138, 0), (13, 84, 140, 0), (13, 102, 142, 0), (13, 80, 143, 0), (13, 73, 145, 0), (13, 77, 148, 0), (13, 91, 149, 0), (13, 94, 150, 0), (13, 130, 155, 0), (13, 87, 156, 0), (13, 105, 161, 0), (13, 154, 162, 0), (13, 111, 163, 0), (13, 157, 164, 0), (13, 151, 171, 0), (13, 160, 172, 0), (13, 120, 174, 0), (13, 117, 175, 0), (13, 123, 176, 0), (13, 145, 177, 0), (13, 142, 178, 0), (13, 139, 180, 0), (13, 133, 181, 0), (13, 136, 182, 0), (13, 56, 184, 0), (13, 126, 187, 0), (13, 47, 188, 1), (13, 17, 135, 0), (13, 23, 136, 0), (13, 163, 189, 1), (13, 97, 305, 1), (13, 148, 190, 1)]
def NK : List (Nat × Nat × Nat) := [(11, 7, 3), (11, 7, 3), (11, 16, 7), (7, 7, 6), (11, 25, 2), (2, 9, 5), (5, 7, 6), (2, 24, 6), (11, 34, 10), (10, 7, 6), (11, 43, 1), (1, 9, 6), (11, 50, 8), (11, 57, 4), (4, 9, 6), (11, 66, 0), (0, 9, 6), (11, 73, 6), (11, 79, 9), (11, 7, 3), (13, 18, 11)]
def OK : List (Nat × Nat) := [(11, 1), (3, 1), (7, 1), (6, 3), (2, 3), (5, 1), (10, 1), (1, 3), (8, 1), (4, 3), (0, 3), (9, 3), (11, 1)]
def KK : List (Nat × Nat × Int) := []
def KI : List (Nat × Nat × Int) := [(15, 265, 1431655765), (15, 266, 858993459), (15, 267, 252645135)]
def allP {α : Type} (P : α → Prop) : List α → Prop
  | [] => True
  | a :: l => P a ∧ allP P l
theorem allP_at {α : Type} {P : α → Prop} : ∀ {l : List α} (_ : allP P l) (i : Nat) (a : α), l[i]? = some a → P a
  | [], _, _, _, h => by simp at h
  | _ :: _, hl, 0, _, h => by simp at h; subst h; exact hl.1
  | _ :: l, hl, i + 1, a, h => allP_at (l := l) hl.2 i a (by simpa using h)
def flP (q : Nat × Nat × Nat × Nat × Nat) : Prop := match q with
  | (own, idx, ci, k, nest) => if nest = 1 then Cond.fieldLinkNest (cN own) idx (cN ci) (cT ci k).2.1 (cT ci k).2.2.1 "SkewRings" ∈ lw_tbl else Cond.fieldLink (cN own) idx (cN ci) (cT ci k).2.1 (cT ci k).2.2.1 ∈ lw_tbl
/-- 0 a method of an object, 1 a static one, 2 a constructor; from 3 on: private, of a nest mate -/
def mkP (q : Nat × Nat × Nat × Nat) : Prop := match q with
  | (own, idx, t, kd) => (if kd < 3 then Cond.methodLink (cN own) idx (yOf t) ∈ lw_tbl else Cond.methodLinkNest (cN own) idx (yOf t) "SkewRings" ∈ lw_tbl) ∧
    (if kd % 3 = 0 then Cond.instanceMethod (yOf t) ∈ lw_tbl ∧ Cond.selects (yOf t).cls (yOf t) (yOf t) ∈ lw_tbl else if kd % 3 = 1 then Cond.static (yOf t) ∈ lw_tbl else (yOf t).name = "<init>" ∧ Cond.instanceMethod (yOf t) ∈ lw_tbl)
def nkP (q : Nat × Nat × Nat) : Prop := match q with
  | (own, idx, ci) => Cond.classLink (cN own) idx (cN ci) ∈ lw_tbl ∧ Cond.instantiable (cN ci) (cZ ci) ∈ lw_tbl ∧ Cond.initialized (cN ci) ∈ lw_tbl
def okP (q : Nat × Nat) : Prop := match q with
  | (own, idx) => Cond.methodLink (cN own) idx Lib.objectInit ∈ lw_tbl
def kkP (q : Nat × Nat × Int) : Prop := match q with
  | (own, idx, v) => Cond.constantLong (cN own) idx (Int64.ofInt v) ∈ lw_tbl
def kiP (q : Nat × Nat × Int) : Prop := match q with
  | (own, idx, v) => Cond.constant (cN own) idx (Int32.ofInt v) ∈ lw_tbl
def mtP (t : Nat) : Prop := Cond.code (yOf t) (bOf t) (lOf t) (rOf t) ∈ lw_tbl ∧ Cond.initialized (yOf t).cls ∈ lw_tbl ∧ plainFor (yOf t) = true ∧ (yOf t).cls ≠ "java/lang/invoke/MethodHandle" ∧ (yOf t).cls ≠ "java/lang/invoke/VarHandle" ∧ (parseMethodDescriptor (yOf t).desc).map (fun d => d.parameters.length) = some (aOf t) ∧ (yOf t).cls = cN (kOf t)
theorem fl0 : flP (11, 106, 3, 0, 1) := tb 77 (by decide +kernel)
theorem fl1 : flP (3, 25, 3, 0, 0) := tb 78 (by decide +kernel)
theorem fl2 : flP (11, 120, 3, 1, 1) := tb 79 (by decide +kernel)
theorem fl3 : flP (10, 50, 3, 1, 1) := tb 80 (by decide +kernel)
theorem fl4 : flP (3, 35, 3, 1, 0) := tb 81 (by decide +kernel)
theorem fl5 : flP (1, 53, 3, 1, 1) := tb 82 (by decide +kernel)
theorem fl6 : flP (4, 122, 3, 1, 1) := tb 83 (by decide +kernel)
theorem fl7 : flP (0, 43, 3, 2, 1) := tb 84 (by decide +kernel)
theorem fl8 : flP (3, 29, 3, 2, 0) := tb 85 (by decide +kernel)
theorem fl9 : flP (8, 61, 3, 2, 1) := tb 86 (by decide +kernel)
theorem fl10 : flP (4, 116, 3, 2, 1) := tb 87 (by decide +kernel)
theorem fl11 : flP (11, 349, 3, 2, 1) := tb 88 (by decide +kernel)
theorem fl12 : flP (0, 34, 3, 3, 1) := tb 89 (by decide +kernel)
theorem fl13 : flP (3, 32, 3, 3, 0) := tb 90 (by decide +kernel)
theorem fl14 : flP (4, 83, 3, 3, 1) := tb 91 (by decide +kernel)
theorem fl15 : flP (8, 56, 3, 3, 1) := tb 92 (by decide +kernel)
theorem fl16 : flP (11, 352, 3, 3, 1) := tb 93 (by decide +kernel)
theorem fl17 : flP (3, 9, 3, 4, 0) := tb 94 (by decide +kernel)
theorem fl18 : flP (3, 13, 3, 5, 0) := tb 95 (by decide +kernel)
theorem fl19 : flP (3, 16, 3, 6, 0) := tb 96 (by decide +kernel)
theorem fl20 : flP (3, 19, 3, 7, 0) := tb 97 (by decide +kernel)
theorem fl21 : flP (3, 22, 3, 8, 0) := tb 98 (by decide +kernel)
theorem fl22 : flP (6, 11, 6, 0, 0) := tb 131 (by decide +kernel)
theorem fl23 : flP (6, 15, 6, 1, 0) := tb 132 (by decide +kernel)
theorem fl24 : flP (0, 30, 6, 1, 1) := tb 133 (by decide +kernel)
theorem fl25 : flP (10, 30, 6, 1, 1) := tb 134 (by decide +kernel)
theorem fl26 : flP (2, 49, 6, 1, 1) := tb 135 (by decide +kernel)
theorem fl27 : flP (7, 53, 6, 1, 1) := tb 136 (by decide +kernel)
theorem fl28 : flP (4, 80, 6, 1, 1) := tb 137 (by decide +kernel)
theorem fl29 : flP (1, 58, 6, 1, 1) := tb 138 (by decide +kernel)
theorem fl30 : flP (11, 179, 6, 1, 1) := tb 139 (by decide +kernel)
theorem fl31 : flP (7, 28, 7, 0, 0) := tb 145 (by decide +kernel)
theorem fl32 : flP (11, 106, 3, 0, 1) := tb 77 (by decide +kernel)
theorem fl33 : flP (7, 10, 7, 1, 0) := tb 146 (by decide +kernel)
theorem fl34 : flP (7, 16, 7, 2, 0) := tb 147 (by decide +kernel)
theorem fl35 : flP (7, 19, 7, 3, 0) := tb 148 (by decide +kernel)
theorem fl36 : flP (7, 22, 7, 4, 0) := tb 149 (by decide +kernel)
theorem fl37 : flP (7, 25, 7, 5, 0) := tb 150 (by decide +kernel)
theorem fl38 : flP (5, 10, 5, 0, 0) := tb 178 (by decide +kernel)
theorem fl39 : flP (2, 46, 5, 0, 1) := tb 179 (by decide +kernel)
theorem fl40 : flP (5, 16, 5, 1, 0) := tb 180 (by decide +kernel)
theorem fl41 : flP (2, 59, 5, 1, 1) := tb 181 (by decide +kernel)
theorem fl42 : flP (5, 19, 5, 2, 0) := tb 182 (by decide +kernel)
theorem fl43 : flP (2, 66, 5, 2, 1) := tb 183 (by decide +kernel)
theorem fl44 : flP (2, 38, 2, 0, 0) := tb 193 (by decide +kernel)
theorem fl45 : flP (2, 12, 2, 1, 0) := tb 194 (by decide +kernel)
theorem fl46 : flP (2, 18, 2, 2, 0) := tb 195 (by decide +kernel)
theorem fl47 : flP (2, 21, 2, 3, 0) := tb 196 (by decide +kernel)
theorem fl48 : flP (2, 27, 2, 4, 0) := tb 197 (by decide +kernel)
theorem fl49 : flP (2, 31, 2, 5, 0) := tb 198 (by decide +kernel)
theorem fl50 : flP (2, 34, 2, 6, 0) := tb 199 (by decide +kernel)
theorem fl51 : flP (10, 22, 10, 0, 0) := tb 223 (by decide +kernel)
theorem fl52 : flP (10, 26, 10, 1, 0) := tb 224 (by decide +kernel)
theorem fl53 : flP (10, 10, 10, 2, 0) := tb 225 (by decide +kernel)
theorem fl54 : flP (10, 16, 10, 3, 0) := tb 226 (by decide +kernel)
theorem fl55 : flP (10, 19, 10, 4, 0) := tb 227 (by decide +kernel)
theorem fl56 : flP (1, 37, 1, 0, 0) := tb 248 (by decide +kernel)
theorem fl57 : flP (1, 41, 1, 1, 0) := tb 249 (by decide +kernel)
theorem fl58 : flP (1, 12, 1, 2, 0) := tb 250 (by decide +kernel)
theorem fl59 : flP (1, 18, 1, 3, 0) := tb 251 (by decide +kernel)
theorem fl60 : flP (1, 21, 1, 4, 0) := tb 252 (by decide +kernel)
theorem fl61 : flP (1, 24, 1, 5, 0) := tb 253 (by decide +kernel)
theorem fl62 : flP (1, 27, 1, 6, 0) := tb 254 (by decide +kernel)
theorem fl63 : flP (1, 31, 1, 7, 0) := tb 255 (by decide +kernel)
theorem fl64 : flP (1, 34, 1, 8, 0) := tb 256 (by decide +kernel)
theorem fl65 : flP (1, 45, 1, 9, 0) := tb 257 (by decide +kernel)
theorem fl66 : flP (11, 358, 1, 9, 1) := tb 258 (by decide +kernel)
theorem fl67 : flP (8, 19, 8, 0, 0) := tb 286 (by decide +kernel)
theorem fl68 : flP (8, 9, 8, 1, 0) := tb 287 (by decide +kernel)
theorem fl69 : flP (8, 13, 8, 2, 0) := tb 288 (by decide +kernel)
theorem fl70 : flP (8, 16, 8, 3, 0) := tb 289 (by decide +kernel)
theorem fl71 : flP (8, 23, 8, 4, 0) := tb 290 (by decide +kernel)
theorem fl72 : flP (8, 27, 8, 5, 0) := tb 291 (by decide +kernel)
theorem fl73 : flP (4, 40, 4, 0, 0) := tb 313 (by decide +kernel)
theorem fl74 : flP (4, 44, 4, 1, 0) := tb 314 (by decide +kernel)
theorem fl75 : flP (4, 48, 4, 2, 0) := tb 315 (by decide +kernel)
theorem fl76 : flP (4, 12, 4, 3, 0) := tb 316 (by decide +kernel)
theorem fl77 : flP (4, 18, 4, 4, 0) := tb 317 (by decide +kernel)
theorem fl78 : flP (4, 21, 4, 5, 0) := tb 318 (by decide +kernel)
theorem fl79 : flP (4, 24, 4, 6, 0) := tb 319 (by decide +kernel)
theorem fl80 : flP (4, 28, 4, 7, 0) := tb 320 (by decide +kernel)
theorem fl81 : flP (4, 34, 4, 8, 0) := tb 321 (by decide +kernel)
theorem fl82 : flP (4, 37, 4, 9, 0) := tb 322 (by decide +kernel)
theorem fl83 : flP (11, 324, 4, 9, 1) := tb 323 (by decide +kernel)
theorem fl84 : flP (4, 69, 4, 10, 0) := tb 324 (by decide +kernel)
theorem fl85 : flP (4, 56, 4, 11, 0) := tb 325 (by decide +kernel)
theorem fl86 : flP (11, 106, 3, 0, 1) := tb 77 (by decide +kernel)
theorem fl87 : flP (0, 18, 0, 0, 0) := tb 359 (by decide +kernel)
theorem fl88 : flP (0, 22, 0, 1, 0) := tb 360 (by decide +kernel)
theorem fl89 : flP (0, 26, 0, 2, 0) := tb 361 (by decide +kernel)
theorem fl90 : flP (0, 12, 0, 3, 0) := tb 362 (by decide +kernel)
theorem fl91 : flP (9, 11, 9, 0, 0) := tb 379 (by decide +kernel)
theorem fl92 : flP (9, 15, 9, 1, 0) := tb 380 (by decide +kernel)
theorem fl93 : flP (9, 18, 9, 2, 0) := tb 381 (by decide +kernel)
theorem fl94 : flP (9, 21, 9, 3, 0) := tb 382 (by decide +kernel)
theorem fl95 : flP (11, 164, 9, 3, 1) := tb 383 (by decide +kernel)
theorem fl96 : flP (11, 106, 3, 0, 1) := tb 77 (by decide +kernel)
theorem fl97 : flP (11, 106, 3, 0, 1) := tb 77 (by decide +kernel)
theorem fl98 : flP (9, 29, 9, 5, 0) := tb 384 (by decide +kernel)
theorem fl99 : flP (9, 32, 9, 6, 0) := tb 385 (by decide +kernel)
theorem fl100 : flP (11, 10, 11, 0, 0) := tb 448 (by decide +kernel)
theorem fl101 : flP (11, 21, 11, 1, 0) := tb 449 (by decide +kernel)
theorem fl102 : flP (11, 30, 11, 2, 0) := tb 450 (by decide +kernel)
theorem fl103 : flP (11, 39, 11, 3, 0) := tb 451 (by decide +kernel)
theorem fl104 : flP (11, 46, 11, 4, 0) := tb 452 (by decide +kernel)
theorem fl105 : flP (11, 53, 11, 5, 0) := tb 453 (by decide +kernel)
theorem fl106 : flP (11, 62, 11, 6, 0) := tb 454 (by decide +kernel)
theorem fl107 : flP (11, 69, 11, 7, 0) := tb 455 (by decide +kernel)
theorem fl108 : flP (11, 75, 11, 8, 0) := tb 456 (by decide +kernel)
theorem fl109 : flP (11, 82, 11, 9, 0) := tb 457 (by decide +kernel)
theorem fl110 : flP (11, 86, 11, 10, 0) := tb 458 (by decide +kernel)
theorem fl111 : flP (11, 361, 11, 11, 0) := tb 459 (by decide +kernel)
theorem fl112 : flP (11, 91, 11, 12, 0) := tb 460 (by decide +kernel)
theorem fl113 : flP (11, 95, 11, 13, 0) := tb 461 (by decide +kernel)
theorem fl114 : flP (11, 106, 3, 0, 1) := tb 77 (by decide +kernel)
theorem fl115 : flP (11, 106, 3, 0, 1) := tb 77 (by decide +kernel)
theorem fl116 : flP (11, 106, 3, 0, 1) := tb 77 (by decide +kernel)
theorem fl117 : flP (11, 106, 3, 0, 1) := tb 77 (by decide +kernel)
theorem fl118 : flP (11, 106, 3, 0, 1) := tb 77 (by decide +kernel)
theorem fl119 : flP (11, 106, 3, 0, 1) := tb 77 (by decide +kernel)
theorem fl120 : flP (11, 106, 3, 0, 1) := tb 77 (by decide +kernel)
theorem fl121 : flP (11, 106, 3, 0, 1) := tb 77 (by decide +kernel)
theorem fl122 : flP (11, 106, 3, 0, 1) := tb 77 (by decide +kernel)
theorem fl123 : flP (11, 106, 3, 0, 1) := tb 77 (by decide +kernel)
theorem fl124 : flP (11, 106, 3, 0, 1) := tb 77 (by decide +kernel)
theorem fl125 : flP (11, 106, 3, 0, 1) := tb 77 (by decide +kernel)
theorem fl126 : flP (11, 106, 3, 0, 1) := tb 77 (by decide +kernel)
theorem fl127 : flP (11, 106, 3, 0, 1) := tb 77 (by decide +kernel)
theorem fl128 : flP (11, 106, 3, 0, 1) := tb 77 (by decide +kernel)
theorem fl129 : flP (11, 106, 3, 0, 1) := tb 77 (by decide +kernel)
theorem fl130 : flP (11, 106, 3, 0, 1) := tb 77 (by decide +kernel)
theorem fl131 : flP (11, 106, 3, 0, 1) := tb 77 (by decide +kernel)
theorem fl132 : flP (11, 106, 3, 0, 1) := tb 77 (by decide +kernel)
theorem fl133 : flP (11, 106, 3, 0, 1) := tb 77 (by decide +kernel)
theorem fl134 : flP (11, 106, 3, 0, 1) := tb 77 (by decide +kernel)
theorem fl135 : flP (11, 106, 3, 0, 1) := tb 77 (by decide +kernel)
theorem fl136 : flP (11, 106, 3, 0, 1) := tb 77 (by decide +kernel)
theorem fl137 : flP (11, 106, 3, 0, 1) := tb 77 (by decide +kernel)
theorem fl138 : flP (11, 106, 3, 0, 1) := tb 77 (by decide +kernel)
theorem fl139 : flP (11, 106, 3, 0, 1) := tb 77 (by decide +kernel)
theorem fl140 : flP (11, 106, 3, 0, 1) := tb 77 (by decide +kernel)
theorem fl141 : flP (11, 106, 3, 0, 1) := tb 77 (by decide +kernel)
theorem fl142 : flP (11, 106, 3, 0, 1) := tb 77 (by decide +kernel)
theorem fl143 : flP (11, 106, 3, 0, 1) := tb 77 (by decide +kernel)
theorem fl144 : flP (11, 106, 3, 0, 1) := tb 77 (by decide +kernel)
theorem fl145 : flP (11, 106, 3, 0, 1) := tb 77 (by decide +kernel)
theorem fl146 : flP (11, 106, 3, 0, 1) := tb 77 (by decide +kernel)
theorem fl147 : flP (11, 106, 3, 0, 1) := tb 77 (by decide +kernel)
theorem fl148 : flP (11, 106, 3, 0, 1) := tb 77 (by decide +kernel)
theorem fl149 : flP (11, 106, 3, 0, 1) := tb 77 (by decide +kernel)
theorem fl150 : flP (11, 106, 3, 0, 1) := tb 77 (by decide +kernel)
theorem fl151 : flP (11, 106, 3, 0, 1) := tb 77 (by decide +kernel)
theorem fl152 : flP (11, 106, 3, 0, 1) := tb 77 (by decide +kernel)
theorem fl153 : flP (11, 106, 3, 0, 1) := tb 77 (by decide +kernel)
theorem fl154 : flP (11, 106, 3, 0, 1) := tb 77 (by decide +kernel)
theorem fl155 : flP (11, 106, 3, 0, 1) := tb 77 (by decide +kernel)
theorem fl156 : flP (11, 106, 3, 0, 1) := tb 77 (by decide +kernel)
theorem fl157 : flP (11, 106, 3, 0, 1) := tb 77 (by decide +kernel)
theorem fl158 : flP (11, 106, 3, 0, 1) := tb 77 (by decide +kernel)
theorem fl159 : flP (11, 106, 3, 0, 1) := tb 77 (by decide +kernel)
set_option maxRecDepth 100000 in
theorem FL_ok : allP flP FL := ⟨fl0, fl1, fl2, fl3, fl4, fl5, fl6, fl7, fl8, fl9, fl10, fl11, fl12, fl13, fl14, fl15, fl16, fl17, fl18, fl19, fl20, fl21, fl22, fl23, fl24, fl25, fl26, fl27, fl28, fl29, fl30, fl31, fl32, fl33, fl34, fl35, fl36, fl37, fl38, fl39, fl40, fl41, fl42, fl43, fl44, fl45, fl46, fl47, fl48, fl49, fl50, fl51, fl52, fl53, fl54, fl55, fl56, fl57, fl58, fl59, fl60, fl61, fl62, fl63, fl64, fl65, fl66, fl67, fl68, fl69, fl70, fl71, fl72, fl73, fl74, fl75, fl76, fl77, fl78, fl79, fl80, fl81, fl82, fl83, fl84, fl85, fl86, fl87, fl88, fl89, fl90, fl91, fl92, fl93, fl94, fl95, fl96, fl97, fl98, fl99, fl100, fl101, fl102, fl103, fl104, fl105, fl106, fl107, fl108, fl109, fl110, fl111, fl112, fl113, fl114, fl115, fl116, fl117, fl118, fl119, fl120, fl121, fl122, fl123, fl124, fl125, fl126, fl127, fl128, fl129, fl130, fl131, fl132, fl133, fl134, fl135, fl136, fl137, fl138, fl139, fl140, fl141, fl142, fl143, fl144, fl145, fl146, fl147, fl148, fl149, fl150, fl151, fl152, fl153, fl154, fl155, fl156, fl157, fl158, fl159, trivial⟩
theorem mk0 : mkP (11, 9, 0, 5) := ⟨tb 73 (by decide +kernel), rfl, tb 74 (by decide +kernel)⟩
theorem mk1 : mkP (11, 9, 0, 5) := ⟨tb 73 (by decide +kernel), rfl, tb 74 (by decide +kernel)⟩
theorem mk2 : mkP (11, 18, 36, 2) := ⟨tb 121 (by decide +kernel), rfl, tb 122 (by decide +kernel)⟩
theorem mk3 : mkP (7, 9, 21, 5) := ⟨tb 127 (by decide +kernel), rfl, tb 128 (by decide +kernel)⟩
theorem mk4 : mkP (11, 27, 54, 2) := ⟨tb 166 (by decide +kernel), rfl, tb 167 (by decide +kernel)⟩
theorem mk5 : mkP (2, 11, 34, 5) := ⟨tb 172 (by decide +kernel), rfl, tb 173 (by decide +kernel)⟩
theorem mk6 : mkP (5, 9, 21, 5) := ⟨tb 177 (by decide +kernel), rfl, tb 128 (by decide +kernel)⟩
theorem mk7 : mkP (2, 26, 21, 5) := ⟨tb 192 (by decide +kernel), rfl, tb 128 (by decide +kernel)⟩
theorem mk8 : mkP (11, 36, 63, 2) := ⟨tb 217 (by decide +kernel), rfl, tb 218 (by decide +kernel)⟩
theorem mk9 : mkP (10, 9, 21, 5) := ⟨tb 222 (by decide +kernel), rfl, tb 128 (by decide +kernel)⟩
theorem mk10 : mkP (11, 45, 74, 2) := ⟨tb 241 (by decide +kernel), rfl, tb 242 (by decide +kernel)⟩
theorem mk11 : mkP (1, 11, 21, 5) := ⟨tb 246 (by decide +kernel), rfl, tb 128 (by decide +kernel)⟩
theorem mk12 : mkP (11, 52, 84, 2) := ⟨tb 282 (by decide +kernel), rfl, tb 283 (by decide +kernel)⟩
theorem mk13 : mkP (11, 59, 94, 2) := ⟨tb 307 (by decide +kernel), rfl, tb 308 (by decide +kernel)⟩
theorem mk14 : mkP (4, 11, 21, 5) := ⟨tb 312 (by decide +kernel), rfl, tb 128 (by decide +kernel)⟩
theorem mk15 : mkP (11, 68, 104, 2) := ⟨tb 353 (by decide +kernel), rfl, tb 354 (by decide +kernel)⟩
theorem mk16 : mkP (0, 11, 21, 5) := ⟨tb 358 (by decide +kernel), rfl, tb 128 (by decide +kernel)⟩
theorem mk17 : mkP (11, 81, 109, 5) := ⟨tb 375 (by decide +kernel), rfl, tb 376 (by decide +kernel)⟩
theorem mk18 : mkP (11, 90, 21, 5) := ⟨tb 401 (by decide +kernel), rfl, tb 128 (by decide +kernel)⟩
theorem mk19 : mkP (11, 98, 1, 0) := ⟨tb 402 (by decide +kernel), tb 403 (by decide +kernel), tb 404 (by decide +kernel)⟩
theorem mk20 : mkP (3, 38, 2, 0) := ⟨tb 406 (by decide +kernel), tb 408 (by decide +kernel), tb 0 (by decide +kernel)⟩
theorem mk21 : mkP (3, 69, 3, 0) := ⟨tb 410 (by decide +kernel), tb 412 (by decide +kernel), tb 1 (by decide +kernel)⟩
theorem mk22 : mkP (3, 75, 4, 1) := ⟨tb 414 (by decide +kernel), tb 415 (by decide +kernel)⟩
theorem mk23 : mkP (3, 45, 5, 0) := ⟨tb 417 (by decide +kernel), tb 418 (by decide +kernel), tb 419 (by decide +kernel)⟩
theorem mk24 : mkP (3, 72, 6, 0) := ⟨tb 421 (by decide +kernel), tb 423 (by decide +kernel), tb 2 (by decide +kernel)⟩
theorem mk25 : mkP (3, 52, 7, 0) := ⟨tb 425 (by decide +kernel), tb 426 (by decide +kernel), tb 427 (by decide +kernel)⟩
theorem mk26 : mkP (3, 82, 8, 0) := ⟨tb 429 (by decide +kernel), tb 431 (by decide +kernel), tb 3 (by decide +kernel)⟩
theorem mk27 : mkP (3, 85, 9, 0) := ⟨tb 433 (by decide +kernel), tb 434 (by decide +kernel), tb 435 (by decide +kernel)⟩
theorem mk28 : mkP (3, 60, 10, 0) := ⟨tb 437 (by decide +kernel), tb 438 (by decide +kernel), tb 439 (by decide +kernel)⟩
theorem mk29 : mkP (3, 55, 304, 1) := ⟨tb 441 (by decide +kernel), tb 442 (by decide +kernel)⟩
theorem mk30 : mkP (3, 79, 11, 0) := ⟨tb 444 (by decide +kernel), tb 446 (by decide +kernel), tb 4 (by decide +kernel)⟩
theorem mk31 : mkP (11, 9, 0, 5) := ⟨tb 73 (by decide +kernel), rfl, tb 74 (by decide +kernel)⟩
theorem mk32 : mkP (11, 102, 12, 1) := ⟨tb 496 (by decide +kernel), tb 497 (by decide +kernel)⟩
theorem mk33 : mkP (11, 110, 75, 0) := ⟨tb 499 (by decide +kernel), tb 500 (by decide +kernel), tb 501 (by decide +kernel)⟩
theorem mk34 : mkP (11, 113, 124, 0) := ⟨tb 503 (by decide +kernel), tb 505 (by decide +kernel), tb 5 (by decide +kernel)⟩
theorem mk35 : mkP (11, 117, 22, 0) := ⟨tb 507 (by decide +kernel), tb 508 (by decide +kernel), tb 509 (by decide +kernel)⟩
theorem mk36 : mkP (11, 9, 0, 5) := ⟨tb 73 (by decide +kernel), rfl, tb 74 (by decide +kernel)⟩
theorem mk37 : mkP (11, 123, 13, 0) := ⟨tb 515 (by decide +kernel), tb 516 (by decide +kernel), tb 517 (by decide +kernel)⟩
theorem mk38 : mkP (11, 126, 5, 0) := ⟨tb 519 (by decide +kernel), tb 418 (by decide +kernel), tb 419 (by decide +kernel)⟩
theorem mk39 : mkP (11, 9, 0, 5) := ⟨tb 73 (by decide +kernel), rfl, tb 74 (by decide +kernel)⟩
theorem mk40 : mkP (11, 130, 7, 0) := ⟨tb 524 (by decide +kernel), tb 426 (by decide +kernel), tb 427 (by decide +kernel)⟩
theorem mk41 : mkP (11, 9, 0, 5) := ⟨tb 73 (by decide +kernel), rfl, tb 74 (by decide +kernel)⟩
theorem mk42 : mkP (11, 9, 0, 5) := ⟨tb 73 (by decide +kernel), rfl, tb 74 (by decide +kernel)⟩
theorem mk43 : mkP (11, 9, 0, 5) := ⟨tb 73 (by decide +kernel), rfl, tb 74 (by decide +kernel)⟩
theorem mk44 : mkP (11, 9, 0, 5) := ⟨tb 73 (by decide +kernel), rfl, tb 74 (by decide +kernel)⟩
theorem mk45 : mkP (11, 9, 0, 5) := ⟨tb 73 (by decide +kernel), rfl, tb 74 (by decide +kernel)⟩
theorem mk46 : mkP (11, 9, 0, 5) := ⟨tb 73 (by decide +kernel), rfl, tb 74 (by decide +kernel)⟩
theorem mk47 : mkP (11, 9, 0, 5) := ⟨tb 73 (by decide +kernel), rfl, tb 74 (by decide +kernel)⟩
theorem mk48 : mkP (11, 9, 0, 5) := ⟨tb 73 (by decide +kernel), rfl, tb 74 (by decide +kernel)⟩
theorem mk49 : mkP (11, 9, 0, 5) := ⟨tb 73 (by decide +kernel), rfl, tb 74 (by decide +kernel)⟩
theorem mk50 : mkP (11, 9, 0, 5) := ⟨tb 73 (by decide +kernel), rfl, tb 74 (by decide +kernel)⟩
theorem mk51 : mkP (3, 63, 18, 0) := ⟨tb 824 (by decide +kernel), tb 627 (by decide +kernel), tb 628 (by decide +kernel)⟩
theorem mk52 : mkP (3, 49, 14, 0) := ⟨tb 630 (by decide +kernel), tb 631 (by decide +kernel), tb 632 (by decide +kernel)⟩
theorem mk53 : mkP (11, 149, 132, 0) := ⟨tb 735 (by decide +kernel), tb 737 (by decide +kernel), tb 14 (by decide +kernel)⟩
theorem mk54 : mkP (11, 152, 306, 1) := ⟨tb 772 (by decide +kernel), tb 773 (by decide +kernel)⟩
theorem mk55 : mkP (11, 157, 133, 0) := ⟨tb 747 (by decide +kernel), tb 749 (by decide +kernel), tb 15 (by decide +kernel)⟩
theorem mk56 : mkP (11, 9, 0, 5) := ⟨tb 73 (by decide +kernel), rfl, tb 74 (by decide +kernel)⟩
theorem mk57 : mkP (11, 9, 0, 5) := ⟨tb 73 (by decide +kernel), rfl, tb 74 (by decide +kernel)⟩
theorem mk58 : mkP (11, 161, 110, 0) := ⟨tb 1163 (by decide +kernel), tb 1164 (by decide +kernel), tb 1165 (by decide +kernel)⟩
theorem mk59 : mkP (11, 9, 0, 5) := ⟨tb 73 (by decide +kernel), rfl, tb 74 (by decide +kernel)⟩
theorem mk60 : mkP (11, 167, 111, 0) := ⟨tb 1171 (by decide +kernel), tb 1172 (by decide +kernel), tb 1173 (by decide +kernel)⟩
theorem mk61 : mkP (11, 9, 0, 5) := ⟨tb 73 (by decide +kernel), rfl, tb 74 (by decide +kernel)⟩
theorem mk62 : mkP (11, 170, 112, 0) := ⟨tb 529 (by decide +kernel), tb 530 (by decide +kernel), tb 531 (by decide +kernel)⟩
theorem mk63 : mkP (9, 39, 22, 0) := ⟨tb 533 (by decide +kernel), tb 508 (by decide +kernel), tb 509 (by decide +kernel)⟩
theorem mk64 : mkP (9, 44, 113, 0) := ⟨tb 534 (by decide +kernel), tb 536 (by decide +kernel), tb 6 (by decide +kernel)⟩
theorem mk65 : mkP (9, 35, 114, 0) := ⟨tb 538 (by decide +kernel), tb 540 (by decide +kernel), tb 7 (by decide +kernel)⟩
theorem mk66 : mkP (9, 25, 115, 0) := ⟨tb 542 (by decide +kernel), tb 544 (by decide +kernel), tb 8 (by decide +kernel)⟩
theorem mk67 : mkP (9, 47, 23, 0) := ⟨tb 546 (by decide +kernel), tb 547 (by decide +kernel), tb 548 (by decide +kernel)⟩
theorem mk68 : mkP (11, 174, 116, 0) := ⟨tb 550 (by decide +kernel), tb 551 (by decide +kernel), tb 552 (by decide +kernel)⟩
theorem mk69 : mkP (11, 175, 24, 0) := ⟨tb 554 (by decide +kernel), tb 555 (by decide +kernel), tb 556 (by decide +kernel)⟩
theorem mk70 : mkP (6, 26, 305, 1) := ⟨tb 558 (by decide +kernel), tb 559 (by decide +kernel)⟩
theorem mk71 : mkP (6, 32, 25, 0) := ⟨tb 561 (by decide +kernel), tb 562 (by decide +kernel), tb 563 (by decide +kernel)⟩
theorem mk72 : mkP (11, 9, 0, 5) := ⟨tb 73 (by decide +kernel), rfl, tb 74 (by decide +kernel)⟩
theorem mk73 : mkP (11, 9, 0, 5) := ⟨tb 73 (by decide +kernel), rfl, tb 74 (by decide +kernel)⟩
theorem mk74 : mkP (11, 182, 25, 0) := ⟨tb 855 (by decide +kernel), tb 562 (by decide +kernel), tb 563 (by decide +kernel)⟩
theorem mk75 : mkP (11, 9, 0, 5) := ⟨tb 73 (by decide +kernel), rfl, tb 74 (by decide +kernel)⟩
theorem mk76 : mkP (11, 185, 37, 0) := ⟨tb 573 (by decide +kernel), tb 574 (by decide +kernel), tb 575 (by decide +kernel)⟩
theorem mk77 : mkP (7, 32, 38, 1) := ⟨tb 577 (by decide +kernel), tb 578 (by decide +kernel)⟩
theorem mk78 : mkP (7, 57, 305, 1) := ⟨tb 580 (by decide +kernel), tb 559 (by decide +kernel)⟩
theorem mk79 : mkP (7, 36, 25, 0) := ⟨tb 581 (by decide +kernel), tb 562 (by decide +kernel), tb 563 (by decide +kernel)⟩
theorem mk80 : mkP (7, 40, 5, 0) := ⟨tb 582 (by decide +kernel), tb 418 (by decide +kernel), tb 419 (by decide +kernel)⟩
theorem mk81 : mkP (7, 46, 23, 0) := ⟨tb 583 (by decide +kernel), tb 547 (by decide +kernel), tb 548 (by decide +kernel)⟩
theorem mk82 : mkP (11, 9, 0, 5) := ⟨tb 73 (by decide +kernel), rfl, tb 74 (by decide +kernel)⟩
theorem mk83 : mkP (11, 9, 0, 5) := ⟨tb 73 (by decide +kernel), rfl, tb 74 (by decide +kernel)⟩
theorem mk84 : mkP (7, 50, 19, 0) := ⟨tb 638 (by decide +kernel), tb 639 (by decide +kernel), tb 640 (by decide +kernel)⟩
theorem mk85 : mkP (3, 41, 20, 0) := ⟨tb 642 (by decide +kernel), tb 643 (by decide +kernel), tb 644 (by decide +kernel)⟩
theorem mk86 : mkP (11, 9, 0, 5) := ⟨tb 73 (by decide +kernel), rfl, tb 74 (by decide +kernel)⟩
theorem mk87 : mkP (11, 191, 40, 0) := ⟨tb 588 (by decide +kernel), tb 589 (by decide +kernel), tb 590 (by decide +kernel)⟩
theorem mk88 : mkP (7, 62, 7, 0) := ⟨tb 592 (by decide +kernel), tb 426 (by decide +kernel), tb 427 (by decide +kernel)⟩
theorem mk89 : mkP (11, 9, 0, 5) := ⟨tb 73 (by decide +kernel), rfl, tb 74 (by decide +kernel)⟩
theorem mk90 : mkP (11, 195, 41, 0) := ⟨tb 597 (by decide +kernel), tb 598 (by decide +kernel), tb 599 (by decide +kernel)⟩
theorem mk91 : mkP (7, 67, 22, 0) := ⟨tb 601 (by decide +kernel), tb 508 (by decide +kernel), tb 509 (by decide +kernel)⟩
theorem mk92 : mkP (7, 64, 10, 0) := ⟨tb 602 (by decide +kernel), tb 438 (by decide +kernel), tb 439 (by decide +kernel)⟩
theorem mk93 : mkP (7, 70, 24, 0) := ⟨tb 603 (by decide +kernel), tb 555 (by decide +kernel), tb 556 (by decide +kernel)⟩
theorem mk94 : mkP (11, 197, 144, 1) := ⟨tb 604 (by decide +kernel), tb 605 (by decide +kernel)⟩
theorem mk95 : mkP (11, 9, 0, 5) := ⟨tb 73 (by decide +kernel), rfl, tb 74 (by decide +kernel)⟩
theorem mk96 : mkP (11, 201, 146, 0) := ⟨tb 611 (by decide +kernel), tb 613 (by decide +kernel), tb 9 (by decide +kernel)⟩
theorem mk97 : mkP (11, 205, 147, 1) := ⟨tb 615 (by decide +kernel), tb 616 (by decide +kernel)⟩
theorem mk98 : mkP (11, 364, 42, 0) := ⟨tb 618 (by decide +kernel), tb 619 (by decide +kernel), tb 620 (by decide +kernel)⟩
theorem mk99 : mkP (7, 77, 26, 0) := ⟨tb 622 (by decide +kernel), tb 623 (by decide +kernel), tb 624 (by decide +kernel)⟩
theorem mk100 : mkP (7, 81, 18, 0) := ⟨tb 626 (by decide +kernel), tb 627 (by decide +kernel), tb 628 (by decide +kernel)⟩
theorem mk101 : mkP (7, 84, 43, 0) := ⟨tb 634 (by decide +kernel), tb 636 (by decide +kernel), tb 10 (by decide +kernel)⟩
theorem mk102 : mkP (7, 88, 44, 0) := ⟨tb 646 (by decide +kernel), tb 648 (by decide +kernel), tb 11 (by decide +kernel)⟩
theorem mk103 : mkP (11, 9, 0, 5) := ⟨tb 73 (by decide +kernel), rfl, tb 74 (by decide +kernel)⟩
theorem mk104 : mkP (11, 9, 0, 5) := ⟨tb 73 (by decide +kernel), rfl, tb 74 (by decide +kernel)⟩
theorem mk105 : mkP (11, 208, 55, 0) := ⟨tb 658 (by decide +kernel), tb 659 (by decide +kernel), tb 660 (by decide +kernel)⟩
theorem mk106 : mkP (2, 42, 35, 0) := ⟨tb 662 (by decide +kernel), tb 663 (by decide +kernel), tb 664 (by decide +kernel)⟩
theorem mk107 : mkP (5, 22, 24, 0) := ⟨tb 666 (by decide +kernel), tb 555 (by decide +kernel), tb 556 (by decide +kernel)⟩
theorem mk108 : mkP (5, 26, 27, 0) := ⟨tb 667 (by decide +kernel), tb 668 (by decide +kernel), tb 669 (by decide +kernel)⟩
theorem mk109 : mkP (6, 19, 22, 0) := ⟨tb 671 (by decide +kernel), tb 508 (by decide +kernel), tb 509 (by decide +kernel)⟩
theorem mk110 : mkP (6, 22, 23, 0) := ⟨tb 672 (by decide +kernel), tb 547 (by decide +kernel), tb 548 (by decide +kernel)⟩
theorem mk111 : mkP (2, 53, 42, 0) := ⟨tb 673 (by decide +kernel), tb 619 (by decide +kernel), tb 620 (by decide +kernel)⟩
theorem mk112 : mkP (2, 62, 56, 0) := ⟨tb 674 (by decide +kernel), tb 676 (by decide +kernel), tb 12 (by decide +kernel)⟩
theorem mk113 : mkP (2, 72, 45, 0) := ⟨tb 678 (by decide +kernel), tb 679 (by decide +kernel), tb 680 (by decide +kernel)⟩
theorem mk114 : mkP (7, 74, 41, 0) := ⟨tb 682 (by decide +kernel), tb 598 (by decide +kernel), tb 599 (by decide +kernel)⟩
theorem mk115 : mkP (2, 76, 39, 0) := ⟨tb 683 (by decide +kernel), tb 684 (by decide +kernel), tb 685 (by decide +kernel)⟩
theorem mk116 : mkP (2, 69, 57, 0) := ⟨tb 687 (by decide +kernel), tb 689 (by decide +kernel), tb 13 (by decide +kernel)⟩
theorem mk117 : mkP (11, 212, 58, 0) := ⟨tb 691 (by decide +kernel), tb 692 (by decide +kernel), tb 693 (by decide +kernel)⟩
theorem mk118 : mkP (2, 80, 24, 0) := ⟨tb 695 (by decide +kernel), tb 555 (by decide +kernel), tb 556 (by decide +kernel)⟩
theorem mk119 : mkP (2, 84, 46, 0) := ⟨tb 696 (by decide +kernel), tb 697 (by decide +kernel), tb 698 (by decide +kernel)⟩
theorem mk120 : mkP (7, 95, 14, 0) := ⟨tb 700 (by decide +kernel), tb 631 (by decide +kernel), tb 632 (by decide +kernel)⟩
theorem mk121 : mkP (7, 98, 40, 0) := ⟨tb 701 (by decide +kernel), tb 589 (by decide +kernel), tb 590 (by decide +kernel)⟩
theorem mk122 : mkP (7, 102, 47, 0) := ⟨tb 702 (by decide +kernel), tb 703 (by decide +kernel), tb 704 (by decide +kernel)⟩
theorem mk123 : mkP (11, 9, 0, 5) := ⟨tb 73 (by decide +kernel), rfl, tb 74 (by decide +kernel)⟩
theorem mk124 : mkP (11, 216, 59, 0) := ⟨tb 710 (by decide +kernel), tb 711 (by decide +kernel), tb 712 (by decide +kernel)⟩
theorem mk125 : mkP (11, 9, 0, 5) := ⟨tb 73 (by decide +kernel), rfl, tb 74 (by decide +kernel)⟩
theorem mk126 : mkP (11, 9, 0, 5) := ⟨tb 73 (by decide +kernel), rfl, tb 74 (by decide +kernel)⟩
theorem mk127 : mkP (11, 9, 0, 5) := ⟨tb 73 (by decide +kernel), rfl, tb 74 (by decide +kernel)⟩
theorem mk128 : mkP (11, 9, 0, 5) := ⟨tb 73 (by decide +kernel), rfl, tb 74 (by decide +kernel)⟩
theorem mk129 : mkP (11, 9, 0, 5) := ⟨tb 73 (by decide +kernel), rfl, tb 74 (by decide +kernel)⟩
theorem mk130 : mkP (11, 9, 0, 5) := ⟨tb 73 (by decide +kernel), rfl, tb 74 (by decide +kernel)⟩
theorem mk131 : mkP (11, 9, 0, 5) := ⟨tb 73 (by decide +kernel), rfl, tb 74 (by decide +kernel)⟩
theorem mk132 : mkP (11, 230, 26, 0) := ⟨tb 718 (by decide +kernel), tb 623 (by decide +kernel), tb 624 (by decide +kernel)⟩
theorem mk133 : mkP (11, 9, 0, 5) := ⟨tb 73 (by decide +kernel), rfl, tb 74 (by decide +kernel)⟩
theorem mk134 : mkP (11, 9, 0, 5) := ⟨tb 73 (by decide +kernel), rfl, tb 74 (by decide +kernel)⟩
theorem mk135 : mkP (11, 238, 28, 0) := ⟨tb 719 (by decide +kernel), tb 720 (by decide +kernel), tb 721 (by decide +kernel)⟩
theorem mk136 : mkP (11, 241, 29, 0) := ⟨tb 723 (by decide +kernel), tb 724 (by decide +kernel), tb 725 (by decide +kernel)⟩
theorem mk137 : mkP (11, 244, 30, 0) := ⟨tb 727 (by decide +kernel), tb 728 (by decide +kernel), tb 729 (by decide +kernel)⟩
theorem mk138 : mkP (11, 9, 0, 5) := ⟨tb 73 (by decide +kernel), rfl, tb 74 (by decide +kernel)⟩
theorem mk139 : mkP (11, 248, 31, 0) := ⟨tb 739 (by decide +kernel), tb 740 (by decide +kernel), tb 741 (by decide +kernel)⟩
theorem mk140 : mkP (6, 36, 32, 0) := ⟨tb 743 (by decide +kernel), tb 744 (by decide +kernel), tb 745 (by decide +kernel)⟩
theorem mk141 : mkP (11, 9, 0, 5) := ⟨tb 73 (by decide +kernel), rfl, tb 74 (by decide +kernel)⟩
theorem mk142 : mkP (11, 9, 0, 5) := ⟨tb 73 (by decide +kernel), rfl, tb 74 (by decide +kernel)⟩
theorem mk143 : mkP (11, 9, 0, 5) := ⟨tb 73 (by decide +kernel), rfl, tb 74 (by decide +kernel)⟩
theorem mk144 : mkP (11, 9, 0, 5) := ⟨tb 73 (by decide +kernel), rfl, tb 74 (by decide +kernel)⟩
theorem mk145 : mkP (11, 9, 0, 5) := ⟨tb 73 (by decide +kernel), rfl, tb 74 (by decide +kernel)⟩
theorem mk146 : mkP (11, 9, 0, 5) := ⟨tb 73 (by decide +kernel), rfl, tb 74 (by decide +kernel)⟩
theorem mk147 : mkP (11, 9, 0, 5) := ⟨tb 73 (by decide +kernel), rfl, tb 74 (by decide +kernel)⟩
theorem mk148 : mkP (11, 9, 0, 5) := ⟨tb 73 (by decide +kernel), rfl, tb 74 (by decide +kernel)⟩
theorem mk149 : mkP (11, 9, 0, 5) := ⟨tb 73 (by decide +kernel), rfl, tb 74 (by decide +kernel)⟩
theorem mk150 : mkP (11, 9, 0, 5) := ⟨tb 73 (by decide +kernel), rfl, tb 74 (by decide +kernel)⟩
theorem mk151 : mkP (11, 9, 0, 5) := ⟨tb 73 (by decide +kernel), rfl, tb 74 (by decide +kernel)⟩
theorem mk152 : mkP (11, 9, 0, 5) := ⟨tb 73 (by decide +kernel), rfl, tb 74 (by decide +kernel)⟩
theorem mk153 : mkP (11, 9, 0, 5) := ⟨tb 73 (by decide +kernel), rfl, tb 74 (by decide +kernel)⟩
theorem mk154 : mkP (11, 9, 0, 5) := ⟨tb 73 (by decide +kernel), rfl, tb 74 (by decide +kernel)⟩
theorem mk155 : mkP (11, 9, 0, 5) := ⟨tb 73 (by decide +kernel), rfl, tb 74 (by decide +kernel)⟩
theorem mk156 : mkP (11, 9, 0, 5) := ⟨tb 73 (by decide +kernel), rfl, tb 74 (by decide +kernel)⟩
theorem mk157 : mkP (10, 60, 27, 0) := ⟨tb 811 (by decide +kernel), tb 668 (by decide +kernel), tb 669 (by decide +kernel)⟩
theorem mk158 : mkP (11, 9, 0, 5) := ⟨tb 73 (by decide +kernel), rfl, tb 74 (by decide +kernel)⟩
theorem mk159 : mkP (11, 9, 0, 5) := ⟨tb 73 (by decide +kernel), rfl, tb 74 (by decide +kernel)⟩
theorem mk160 : mkP (10, 53, 65, 0) := ⟨tb 771 (by decide +kernel), tb 756 (by decide +kernel), tb 757 (by decide +kernel)⟩
theorem mk161 : mkP (10, 34, 25, 0) := ⟨tb 759 (by decide +kernel), tb 562 (by decide +kernel), tb 563 (by decide +kernel)⟩
theorem mk162 : mkP (10, 38, 7, 0) := ⟨tb 760 (by decide +kernel), tb 426 (by decide +kernel), tb 427 (by decide +kernel)⟩
theorem mk163 : mkP (10, 44, 5, 0) := ⟨tb 761 (by decide +kernel), tb 418 (by decide +kernel), tb 419 (by decide +kernel)⟩
theorem mk164 : mkP (10, 47, 10, 0) := ⟨tb 762 (by decide +kernel), tb 438 (by decide +kernel), tb 439 (by decide +kernel)⟩
theorem mk165 : mkP (11, 9, 0, 5) := ⟨tb 73 (by decide +kernel), rfl, tb 74 (by decide +kernel)⟩
theorem mk166 : mkP (11, 9, 0, 5) := ⟨tb 73 (by decide +kernel), rfl, tb 74 (by decide +kernel)⟩
theorem mk167 : mkP (11, 9, 0, 5) := ⟨tb 73 (by decide +kernel), rfl, tb 74 (by decide +kernel)⟩
theorem mk168 : mkP (11, 9, 0, 5) := ⟨tb 73 (by decide +kernel), rfl, tb 74 (by decide +kernel)⟩
theorem mk169 : mkP (10, 64, 66, 0) := ⟨tb 812 (by decide +kernel), tb 814 (by decide +kernel), tb 17 (by decide +kernel)⟩
theorem mk170 : mkP (10, 68, 33, 0) := ⟨tb 816 (by decide +kernel), tb 817 (by decide +kernel), tb 818 (by decide +kernel)⟩
theorem mk171 : mkP (10, 71, 17, 0) := ⟨tb 820 (by decide +kernel), tb 821 (by decide +kernel), tb 822 (by decide +kernel)⟩
theorem mk172 : mkP (10, 74, 20, 0) := ⟨tb 825 (by decide +kernel), tb 643 (by decide +kernel), tb 644 (by decide +kernel)⟩
theorem mk173 : mkP (10, 77, 23, 0) := ⟨tb 826 (by decide +kernel), tb 547 (by decide +kernel), tb 548 (by decide +kernel)⟩
theorem mk174 : mkP (10, 81, 41, 0) := ⟨tb 827 (by decide +kernel), tb 598 (by decide +kernel), tb 599 (by decide +kernel)⟩
theorem mk175 : mkP (11, 9, 0, 5) := ⟨tb 73 (by decide +kernel), rfl, tb 74 (by decide +kernel)⟩
theorem mk176 : mkP (11, 266, 65, 0) := ⟨tb 755 (by decide +kernel), tb 756 (by decide +kernel), tb 757 (by decide +kernel)⟩
theorem mk177 : mkP (11, 9, 0, 5) := ⟨tb 73 (by decide +kernel), rfl, tb 74 (by decide +kernel)⟩
theorem mk178 : mkP (11, 270, 67, 0) := ⟨tb 767 (by decide +kernel), tb 768 (by decide +kernel), tb 769 (by decide +kernel)⟩
theorem mk179 : mkP (11, 9, 0, 5) := ⟨tb 73 (by decide +kernel), rfl, tb 74 (by decide +kernel)⟩
theorem mk180 : mkP (11, 274, 68, 0) := ⟨tb 782 (by decide +kernel), tb 783 (by decide +kernel), tb 784 (by decide +kernel)⟩
theorem mk181 : mkP (11, 9, 0, 5) := ⟨tb 73 (by decide +kernel), rfl, tb 74 (by decide +kernel)⟩
theorem mk182 : mkP (11, 277, 69, 0) := ⟨tb 790 (by decide +kernel), tb 791 (by decide +kernel), tb 792 (by decide +kernel)⟩
theorem mk183 : mkP (10, 57, 68, 0) := ⟨tb 794 (by decide +kernel), tb 783 (by decide +kernel), tb 784 (by decide +kernel)⟩
theorem mk184 : mkP (11, 280, 70, 0) := ⟨tb 795 (by decide +kernel), tb 796 (by decide +kernel), tb 797 (by decide +kernel)⟩
theorem mk185 : mkP (11, 9, 0, 5) := ⟨tb 73 (by decide +kernel), rfl, tb 74 (by decide +kernel)⟩
theorem mk186 : mkP (11, 9, 0, 5) := ⟨tb 73 (by decide +kernel), rfl, tb 74 (by decide +kernel)⟩
theorem mk187 : mkP (11, 9, 0, 5) := ⟨tb 73 (by decide +kernel), rfl, tb 74 (by decide +kernel)⟩
theorem mk188 : mkP (11, 9, 0, 5) := ⟨tb 73 (by decide +kernel), rfl, tb 74 (by decide +kernel)⟩
theorem mk189 : mkP (7, 106, 27, 0) := ⟨tb 1009 (by decide +kernel), tb 668 (by decide +kernel), tb 669 (by decide +kernel)⟩
theorem mk190 : mkP (11, 9, 0, 5) := ⟨tb 73 (by decide +kernel), rfl, tb 74 (by decide +kernel)⟩
theorem mk191 : mkP (11, 9, 0, 5) := ⟨tb 73 (by decide +kernel), rfl, tb 74 (by decide +kernel)⟩
theorem mk192 : mkP (11, 9, 0, 5) := ⟨tb 73 (by decide +kernel), rfl, tb 74 (by decide +kernel)⟩
theorem mk193 : mkP (11, 286, 168, 0) := ⟨tb 803 (by decide +kernel), tb 805 (by decide +kernel), tb 16 (by decide +kernel)⟩
theorem mk194 : mkP (11, 289, 71, 0) := ⟨tb 807 (by decide +kernel), tb 808 (by decide +kernel), tb 809 (by decide +kernel)⟩
theorem mk195 : mkP (11, 9, 0, 5) := ⟨tb 73 (by decide +kernel), rfl, tb 74 (by decide +kernel)⟩
theorem mk196 : mkP (11, 9, 0, 5) := ⟨tb 73 (by decide +kernel), rfl, tb 74 (by decide +kernel)⟩
theorem mk197 : mkP (11, 9, 0, 5) := ⟨tb 73 (by decide +kernel), rfl, tb 74 (by decide +kernel)⟩
theorem mk198 : mkP (11, 9, 0, 5) := ⟨tb 73 (by decide +kernel), rfl, tb 74 (by decide +kernel)⟩
theorem mk199 : mkP (11, 9, 0, 5) := ⟨tb 73 (by decide +kernel), rfl, tb 74 (by decide +kernel)⟩
theorem mk200 : mkP (11, 295, 173, 1) := ⟨tb 832 (by decide +kernel), tb 833 (by decide +kernel)⟩
theorem mk201 : mkP (11, 298, 76, 0) := ⟨tb 835 (by decide +kernel), tb 836 (by decide +kernel), tb 837 (by decide +kernel)⟩
theorem mk202 : mkP (1, 90, 77, 0) := ⟨tb 839 (by decide +kernel), tb 841 (by decide +kernel), tb 18 (by decide +kernel)⟩
theorem mk203 : mkP (1, 94, 78, 0) := ⟨tb 843 (by decide +kernel), tb 845 (by decide +kernel), tb 19 (by decide +kernel)⟩
theorem mk204 : mkP (1, 61, 24, 0) := ⟨tb 847 (by decide +kernel), tb 555 (by decide +kernel), tb 556 (by decide +kernel)⟩
theorem mk205 : mkP (1, 65, 46, 0) := ⟨tb 848 (by decide +kernel), tb 697 (by decide +kernel), tb 698 (by decide +kernel)⟩
theorem mk206 : mkP (1, 71, 26, 0) := ⟨tb 849 (by decide +kernel), tb 623 (by decide +kernel), tb 624 (by decide +kernel)⟩
theorem mk207 : mkP (1, 75, 27, 0) := ⟨tb 850 (by decide +kernel), tb 668 (by decide +kernel), tb 669 (by decide +kernel)⟩
theorem mk208 : mkP (1, 79, 33, 0) := ⟨tb 851 (by decide +kernel), tb 817 (by decide +kernel), tb 818 (by decide +kernel)⟩
theorem mk209 : mkP (1, 82, 23, 0) := ⟨tb 852 (by decide +kernel), tb 547 (by decide +kernel), tb 548 (by decide +kernel)⟩
theorem mk210 : mkP (1, 86, 42, 0) := ⟨tb 853 (by decide +kernel), tb 619 (by decide +kernel), tb 620 (by decide +kernel)⟩
theorem mk211 : mkP (1, 98, 32, 0) := ⟨tb 854 (by decide +kernel), tb 744 (by decide +kernel), tb 745 (by decide +kernel)⟩
theorem mk212 : mkP (11, 9, 0, 5) := ⟨tb 73 (by decide +kernel), rfl, tb 74 (by decide +kernel)⟩
theorem mk213 : mkP (11, 302, 79, 0) := ⟨tb 860 (by decide +kernel), tb 861 (by decide +kernel), tb 862 (by decide +kernel)⟩
theorem mk214 : mkP (11, 9, 0, 5) := ⟨tb 73 (by decide +kernel), rfl, tb 74 (by decide +kernel)⟩
theorem mk215 : mkP (11, 305, 80, 0) := ⟨tb 868 (by decide +kernel), tb 869 (by decide +kernel), tb 870 (by decide +kernel)⟩
theorem mk216 : mkP (1, 49, 81, 1) := ⟨tb 872 (by decide +kernel), tb 873 (by decide +kernel)⟩
theorem mk217 : mkP (1, 102, 76, 0) := ⟨tb 875 (by decide +kernel), tb 836 (by decide +kernel), tb 837 (by decide +kernel)⟩
theorem mk218 : mkP (11, 308, 82, 0) := ⟨tb 876 (by decide +kernel), tb 877 (by decide +kernel), tb 878 (by decide +kernel)⟩
theorem mk219 : mkP (11, 9, 0, 5) := ⟨tb 73 (by decide +kernel), rfl, tb 74 (by decide +kernel)⟩
theorem mk220 : mkP (11, 314, 83, 3) := ⟨tb 884 (by decide +kernel), tb 886 (by decide +kernel), tb 20 (by decide +kernel)⟩
theorem mk221 : mkP (1, 106, 79, 0) := ⟨tb 888 (by decide +kernel), tb 861 (by decide +kernel), tb 862 (by decide +kernel)⟩
theorem mk222 : mkP (1, 110, 83, 0) := ⟨tb 889 (by decide +kernel), tb 886 (by decide +kernel), tb 20 (by decide +kernel)⟩
theorem mk223 : mkP (11, 9, 0, 5) := ⟨tb 73 (by decide +kernel), rfl, tb 74 (by decide +kernel)⟩
theorem mk224 : mkP (11, 317, 95, 0) := ⟨tb 894 (by decide +kernel), tb 895 (by decide +kernel), tb 896 (by decide +kernel)⟩
theorem mk225 : mkP (4, 125, 27, 0) := ⟨tb 898 (by decide +kernel), tb 668 (by decide +kernel), tb 669 (by decide +kernel)⟩
theorem mk226 : mkP (4, 94, 23, 0) := ⟨tb 899 (by decide +kernel), tb 547 (by decide +kernel), tb 548 (by decide +kernel)⟩
theorem mk227 : mkP (4, 128, 96, 0) := ⟨tb 900 (by decide +kernel), tb 902 (by decide +kernel), tb 21 (by decide +kernel)⟩
theorem mk228 : mkP (4, 135, 25, 0) := ⟨tb 904 (by decide +kernel), tb 562 (by decide +kernel), tb 563 (by decide +kernel)⟩
theorem mk229 : mkP (4, 138, 51, 0) := ⟨tb 905 (by decide +kernel), tb 906 (by decide +kernel), tb 907 (by decide +kernel)⟩
theorem mk230 : mkP (4, 141, 18, 0) := ⟨tb 909 (by decide +kernel), tb 627 (by decide +kernel), tb 628 (by decide +kernel)⟩
theorem mk231 : mkP (4, 145, 20, 0) := ⟨tb 910 (by decide +kernel), tb 643 (by decide +kernel), tb 644 (by decide +kernel)⟩
theorem mk232 : mkP (4, 132, 97, 0) := ⟨tb 911 (by decide +kernel), tb 913 (by decide +kernel), tb 22 (by decide +kernel)⟩
theorem mk233 : mkP (4, 148, 98, 0) := ⟨tb 915 (by decide +kernel), tb 917 (by decide +kernel), tb 23 (by decide +kernel)⟩
theorem mk234 : mkP (4, 152, 7, 0) := ⟨tb 919 (by decide +kernel), tb 426 (by decide +kernel), tb 427 (by decide +kernel)⟩
theorem mk235 : mkP (4, 154, 19, 0) := ⟨tb 920 (by decide +kernel), tb 639 (by decide +kernel), tb 640 (by decide +kernel)⟩
theorem mk236 : mkP (11, 9, 0, 5) := ⟨tb 73 (by decide +kernel), rfl, tb 74 (by decide +kernel)⟩
theorem mk237 : mkP (11, 320, 99, 0) := ⟨tb 925 (by decide +kernel), tb 926 (by decide +kernel), tb 927 (by decide +kernel)⟩
theorem mk238 : mkP (4, 52, 100, 0) := ⟨tb 929 (by decide +kernel), tb 931 (by decide +kernel), tb 24 (by decide +kernel)⟩
theorem mk239 : mkP (4, 72, 22, 0) := ⟨tb 933 (by decide +kernel), tb 508 (by decide +kernel), tb 509 (by decide +kernel)⟩
theorem mk240 : mkP (4, 75, 85, 0) := ⟨tb 934 (by decide +kernel), tb 935 (by decide +kernel), tb 936 (by decide +kernel)⟩
theorem mk241 : mkP (4, 86, 33, 0) := ⟨tb 938 (by decide +kernel), tb 817 (by decide +kernel), tb 818 (by decide +kernel)⟩
theorem mk242 : mkP (4, 90, 9, 0) := ⟨tb 939 (by decide +kernel), tb 434 (by decide +kernel), tb 435 (by decide +kernel)⟩
theorem mk243 : mkP (4, 98, 41, 0) := ⟨tb 940 (by decide +kernel), tb 598 (by decide +kernel), tb 599 (by decide +kernel)⟩
theorem mk244 : mkP (4, 102, 42, 0) := ⟨tb 941 (by decide +kernel), tb 619 (by decide +kernel), tb 620 (by decide +kernel)⟩
theorem mk245 : mkP (4, 106, 86, 0) := ⟨tb 942 (by decide +kernel), tb 943 (by decide +kernel), tb 944 (by decide +kernel)⟩
theorem mk246 : mkP (8, 30, 87, 0) := ⟨tb 946 (by decide +kernel), tb 948 (by decide +kernel), tb 25 (by decide +kernel)⟩
theorem mk247 : mkP (8, 34, 88, 1) := ⟨tb 950 (by decide +kernel), tb 951 (by decide +kernel)⟩
theorem mk248 : mkP (8, 50, 25, 0) := ⟨tb 953 (by decide +kernel), tb 562 (by decide +kernel), tb 563 (by decide +kernel)⟩
theorem mk249 : mkP (8, 38, 89, 1) := ⟨tb 954 (by decide +kernel), tb 955 (by decide +kernel)⟩
theorem mk250 : mkP (8, 42, 90, 0) := ⟨tb 957 (by decide +kernel), tb 959 (by decide +kernel), tb 26 (by decide +kernel)⟩
theorem mk251 : mkP (8, 46, 91, 0) := ⟨tb 961 (by decide +kernel), tb 963 (by decide +kernel), tb 27 (by decide +kernel)⟩
theorem mk252 : mkP (8, 64, 92, 0) := ⟨tb 965 (by decide +kernel), tb 967 (by decide +kernel), tb 28 (by decide +kernel)⟩
theorem mk253 : mkP (4, 110, 101, 0) := ⟨tb 969 (by decide +kernel), tb 971 (by decide +kernel), tb 29 (by decide +kernel)⟩
theorem mk254 : mkP (4, 113, 93, 0) := ⟨tb 973 (by decide +kernel), tb 974 (by decide +kernel), tb 975 (by decide +kernel)⟩
theorem mk255 : mkP (4, 60, 102, 0) := ⟨tb 977 (by decide +kernel), tb 979 (by decide +kernel), tb 30 (by decide +kernel)⟩
theorem mk256 : mkP (4, 119, 37, 0) := ⟨tb 981 (by decide +kernel), tb 574 (by decide +kernel), tb 575 (by decide +kernel)⟩
theorem mk257 : mkP (4, 63, 52, 0) := ⟨tb 982 (by decide +kernel), tb 983 (by decide +kernel), tb 984 (by decide +kernel)⟩
theorem mk258 : mkP (7, 91, 42, 0) := ⟨tb 986 (by decide +kernel), tb 619 (by decide +kernel), tb 620 (by decide +kernel)⟩
theorem mk259 : mkP (11, 9, 0, 5) := ⟨tb 73 (by decide +kernel), rfl, tb 74 (by decide +kernel)⟩
theorem mk260 : mkP (11, 9, 0, 5) := ⟨tb 73 (by decide +kernel), rfl, tb 74 (by decide +kernel)⟩
theorem mk261 : mkP (11, 9, 0, 5) := ⟨tb 73 (by decide +kernel), rfl, tb 74 (by decide +kernel)⟩
theorem mk262 : mkP (11, 333, 105, 0) := ⟨tb 991 (by decide +kernel), tb 992 (by decide +kernel), tb 993 (by decide +kernel)⟩
theorem mk263 : mkP (0, 39, 25, 0) := ⟨tb 995 (by decide +kernel), tb 562 (by decide +kernel), tb 563 (by decide +kernel)⟩
theorem mk264 : mkP (11, 9, 0, 5) := ⟨tb 73 (by decide +kernel), rfl, tb 74 (by decide +kernel)⟩
theorem mk265 : mkP (11, 336, 106, 0) := ⟨tb 1000 (by decide +kernel), tb 1001 (by decide +kernel), tb 1002 (by decide +kernel)⟩
theorem mk266 : mkP (0, 46, 85, 0) := ⟨tb 1004 (by decide +kernel), tb 935 (by decide +kernel), tb 936 (by decide +kernel)⟩
theorem mk267 : mkP (0, 51, 50, 0) := ⟨tb 1005 (by decide +kernel), tb 1006 (by decide +kernel), tb 1007 (by decide +kernel)⟩
theorem mk268 : mkP (0, 57, 86, 0) := ⟨tb 1010 (by decide +kernel), tb 943 (by decide +kernel), tb 944 (by decide +kernel)⟩
theorem mk269 : mkP (0, 61, 51, 0) := ⟨tb 1011 (by decide +kernel), tb 906 (by decide +kernel), tb 907 (by decide +kernel)⟩
theorem mk270 : mkP (11, 339, 93, 0) := ⟨tb 1012 (by decide +kernel), tb 974 (by decide +kernel), tb 975 (by decide +kernel)⟩
theorem mk271 : mkP (11, 9, 0, 5) := ⟨tb 73 (by decide +kernel), rfl, tb 74 (by decide +kernel)⟩
theorem mk272 : mkP (11, 342, 107, 0) := ⟨tb 1017 (by decide +kernel), tb 1018 (by decide +kernel), tb 1019 (by decide +kernel)⟩
theorem mk273 : mkP (0, 64, 108, 0) := ⟨tb 1021 (by decide +kernel), tb 1023 (by decide +kernel), tb 31 (by decide +kernel)⟩
theorem mk274 : mkP (0, 76, 33, 0) := ⟨tb 1025 (by decide +kernel), tb 817 (by decide +kernel), tb 818 (by decide +kernel)⟩
theorem mk275 : mkP (0, 79, 23, 0) := ⟨tb 1026 (by decide +kernel), tb 547 (by decide +kernel), tb 548 (by decide +kernel)⟩
theorem mk276 : mkP (0, 68, 53, 0) := ⟨tb 1027 (by decide +kernel), tb 1028 (by decide +kernel), tb 1029 (by decide +kernel)⟩
theorem mk277 : mkP (0, 72, 27, 0) := ⟨tb 1031 (by decide +kernel), tb 668 (by decide +kernel), tb 669 (by decide +kernel)⟩
theorem mk278 : mkP (11, 9, 0, 5) := ⟨tb 73 (by decide +kernel), rfl, tb 74 (by decide +kernel)⟩
theorem mk279 : mkP (11, 9, 0, 5) := ⟨tb 73 (by decide +kernel), rfl, tb 74 (by decide +kernel)⟩
theorem mk280 : mkP (11, 9, 0, 5) := ⟨tb 73 (by decide +kernel), rfl, tb 74 (by decide +kernel)⟩
theorem mk281 : mkP (11, 9, 0, 5) := ⟨tb 73 (by decide +kernel), rfl, tb 74 (by decide +kernel)⟩
theorem mk282 : mkP (11, 9, 0, 5) := ⟨tb 73 (by decide +kernel), rfl, tb 74 (by decide +kernel)⟩
theorem mk283 : mkP (11, 355, 185, 0) := ⟨tb 1036 (by decide +kernel), tb 1038 (by decide +kernel), tb 32 (by decide +kernel)⟩
theorem mk284 : mkP (11, 9, 0, 5) := ⟨tb 73 (by decide +kernel), rfl, tb 74 (by decide +kernel)⟩
theorem mk285 : mkP (11, 9, 0, 5) := ⟨tb 73 (by decide +kernel), rfl, tb 74 (by decide +kernel)⟩
theorem mk286 : mkP (11, 9, 0, 5) := ⟨tb 73 (by decide +kernel), rfl, tb 74 (by decide +kernel)⟩
theorem mk287 : mkP (11, 9, 0, 5) := ⟨tb 73 (by decide +kernel), rfl, tb 74 (by decide +kernel)⟩
theorem mk288 : mkP (11, 9, 0, 5) := ⟨tb 73 (by decide +kernel), rfl, tb 74 (by decide +kernel)⟩
theorem mk289 : mkP (11, 9, 0, 5) := ⟨tb 73 (by decide +kernel), rfl, tb 74 (by decide +kernel)⟩
theorem mk290 : mkP (11, 9, 0, 5) := ⟨tb 73 (by decide +kernel), rfl, tb 74 (by decide +kernel)⟩
theorem mk291 : mkP (11, 9, 0, 5) := ⟨tb 73 (by decide +kernel), rfl, tb 74 (by decide +kernel)⟩
theorem mk292 : mkP (11, 9, 0, 5) := ⟨tb 73 (by decide +kernel), rfl, tb 74 (by decide +kernel)⟩
theorem mk293 : mkP (11, 9, 0, 5) := ⟨tb 73 (by decide +kernel), rfl, tb 74 (by decide +kernel)⟩
theorem mk294 : mkP (11, 9, 0, 5) := ⟨tb 73 (by decide +kernel), rfl, tb 74 (by decide +kernel)⟩
theorem mk295 : mkP (11, 9, 0, 5) := ⟨tb 73 (by decide +kernel), rfl, tb 74 (by decide +kernel)⟩
theorem mk296 : mkP (11, 9, 0, 5) := ⟨tb 73 (by decide +kernel), rfl, tb 74 (by decide +kernel)⟩
theorem mk297 : mkP (11, 9, 0, 5) := ⟨tb 73 (by decide +kernel), rfl, tb 74 (by decide +kernel)⟩
theorem mk298 : mkP (11, 9, 0, 5) := ⟨tb 73 (by decide +kernel), rfl, tb 74 (by decide +kernel)⟩
theorem mk299 : mkP (11, 9, 0, 5) := ⟨tb 73 (by decide +kernel), rfl, tb 74 (by decide +kernel)⟩
theorem mk300 : mkP (11, 9, 0, 5) := ⟨tb 73 (by decide +kernel), rfl, tb 74 (by decide +kernel)⟩
theorem mk301 : mkP (11, 9, 0, 5) := ⟨tb 73 (by decide +kernel), rfl, tb 74 (by decide +kernel)⟩
theorem mk302 : mkP (11, 9, 0, 5) := ⟨tb 73 (by decide +kernel), rfl, tb 74 (by decide +kernel)⟩
theorem mk303 : mkP (11, 9, 0, 5) := ⟨tb 73 (by decide +kernel), rfl, tb 74 (by decide +kernel)⟩
theorem mk304 : mkP (11, 9, 0, 5) := ⟨tb 73 (by decide +kernel), rfl, tb 74 (by decide +kernel)⟩
theorem mk305 : mkP (11, 9, 0, 5) := ⟨tb 73 (by decide +kernel), rfl, tb 74 (by decide +kernel)⟩
theorem mk306 : mkP (11, 9, 0, 5) := ⟨tb 73 (by decide +kernel), rfl, tb 74 (by decide +kernel)⟩
theorem mk307 : mkP (11, 9, 0, 5) := ⟨tb 73 (by decide +kernel), rfl, tb 74 (by decide +kernel)⟩
theorem mk308 : mkP (11, 9, 0, 5) := ⟨tb 73 (by decide +kernel), rfl, tb 74 (by decide +kernel)⟩
theorem mk309 : mkP (11, 9, 0, 5) := ⟨tb 73 (by decide +kernel), rfl, tb 74 (by decide +kernel)⟩
theorem mk310 : mkP (11, 9, 0, 5) := ⟨tb 73 (by decide +kernel), rfl, tb 74 (by decide +kernel)⟩
theorem mk311 : mkP (11, 9, 0, 5) := ⟨tb 73 (by decide +kernel), rfl, tb 74 (by decide +kernel)⟩
theorem mk312 : mkP (11, 9, 0, 5) := ⟨tb 73 (by decide +kernel), rfl, tb 74 (by decide +kernel)⟩
theorem mk313 : mkP (11, 9, 0, 5) := ⟨tb 73 (by decide +kernel), rfl, tb 74 (by decide +kernel)⟩
theorem mk314 : mkP (11, 9, 0, 5) := ⟨tb 73 (by decide +kernel), rfl, tb 74 (by decide +kernel)⟩
theorem mk315 : mkP (11, 9, 0, 5) := ⟨tb 73 (by decide +kernel), rfl, tb 74 (by decide +kernel)⟩
theorem mk316 : mkP (11, 9, 0, 5) := ⟨tb 73 (by decide +kernel), rfl, tb 74 (by decide +kernel)⟩
theorem mk317 : mkP (11, 9, 0, 5) := ⟨tb 73 (by decide +kernel), rfl, tb 74 (by decide +kernel)⟩
theorem mk318 : mkP (11, 9, 0, 5) := ⟨tb 73 (by decide +kernel), rfl, tb 74 (by decide +kernel)⟩
theorem mk319 : mkP (11, 9, 0, 5) := ⟨tb 73 (by decide +kernel), rfl, tb 74 (by decide +kernel)⟩
theorem mk320 : mkP (11, 9, 0, 5) := ⟨tb 73 (by decide +kernel), rfl, tb 74 (by decide +kernel)⟩
theorem mk321 : mkP (11, 9, 0, 5) := ⟨tb 73 (by decide +kernel), rfl, tb 74 (by decide +kernel)⟩
theorem mk322 : mkP (11, 9, 0, 5) := ⟨tb 73 (by decide +kernel), rfl, tb 74 (by decide +kernel)⟩
theorem mk323 : mkP (11, 9, 0, 5) := ⟨tb 73 (by decide +kernel), rfl, tb 74 (by decide +kernel)⟩
theorem mk324 : mkP (11, 9, 0, 5) := ⟨tb 73 (by decide +kernel), rfl, tb 74 (by decide +kernel)⟩
theorem mk325 : mkP (11, 9, 0, 5) := ⟨tb 73 (by decide +kernel), rfl, tb 74 (by decide +kernel)⟩
theorem mk326 : mkP (11, 9, 0, 5) := ⟨tb 73 (by decide +kernel), rfl, tb 74 (by decide +kernel)⟩
theorem mk327 : mkP (11, 9, 0, 5) := ⟨tb 73 (by decide +kernel), rfl, tb 74 (by decide +kernel)⟩
theorem mk328 : mkP (11, 9, 0, 5) := ⟨tb 73 (by decide +kernel), rfl, tb 74 (by decide +kernel)⟩
theorem mk329 : mkP (11, 9, 0, 5) := ⟨tb 73 (by decide +kernel), rfl, tb 74 (by decide +kernel)⟩
theorem mk330 : mkP (11, 9, 0, 5) := ⟨tb 73 (by decide +kernel), rfl, tb 74 (by decide +kernel)⟩
theorem mk331 : mkP (11, 9, 0, 5) := ⟨tb 73 (by decide +kernel), rfl, tb 74 (by decide +kernel)⟩
theorem mk332 : mkP (11, 9, 0, 5) := ⟨tb 73 (by decide +kernel), rfl, tb 74 (by decide +kernel)⟩
theorem mk333 : mkP (11, 9, 0, 5) := ⟨tb 73 (by decide +kernel), rfl, tb 74 (by decide +kernel)⟩
theorem mk334 : mkP (11, 9, 0, 5) := ⟨tb 73 (by decide +kernel), rfl, tb 74 (by decide +kernel)⟩
theorem mk335 : mkP (11, 9, 0, 5) := ⟨tb 73 (by decide +kernel), rfl, tb 74 (by decide +kernel)⟩
theorem mk336 : mkP (11, 9, 0, 5) := ⟨tb 73 (by decide +kernel), rfl, tb 74 (by decide +kernel)⟩
theorem mk337 : mkP (11, 9, 0, 5) := ⟨tb 73 (by decide +kernel), rfl, tb 74 (by decide +kernel)⟩
theorem mk338 : mkP (11, 9, 0, 5) := ⟨tb 73 (by decide +kernel), rfl, tb 74 (by decide +kernel)⟩
theorem mk339 : mkP (11, 9, 0, 5) := ⟨tb 73 (by decide +kernel), rfl, tb 74 (by decide +kernel)⟩
theorem mk340 : mkP (11, 9, 0, 5) := ⟨tb 73 (by decide +kernel), rfl, tb 74 (by decide +kernel)⟩
theorem mk341 : mkP (11, 9, 0, 5) := ⟨tb 73 (by decide +kernel), rfl, tb 74 (by decide +kernel)⟩
theorem mk342 : mkP (11, 9, 0, 5) := ⟨tb 73 (by decide +kernel), rfl, tb 74 (by decide +kernel)⟩
theorem mk343 : mkP (11, 9, 0, 5) := ⟨tb 73 (by decide +kernel), rfl, tb 74 (by decide +kernel)⟩
theorem mk344 : mkP (11, 9, 0, 5) := ⟨tb 73 (by decide +kernel), rfl, tb 74 (by decide +kernel)⟩
theorem mk345 : mkP (11, 9, 0, 5) := ⟨tb 73 (by decide +kernel), rfl, tb 74 (by decide +kernel)⟩
theorem mk346 : mkP (11, 9, 0, 5) := ⟨tb 73 (by decide +kernel), rfl, tb 74 (by decide +kernel)⟩
theorem mk347 : mkP (11, 9, 0, 5) := ⟨tb 73 (by decide +kernel), rfl, tb 74 (by decide +kernel)⟩
theorem mk348 : mkP (11, 9, 0, 5) := ⟨tb 73 (by decide +kernel), rfl, tb 74 (by decide +kernel)⟩
theorem mk349 : mkP (11, 9, 0, 5) := ⟨tb 73 (by decide +kernel), rfl, tb 74 (by decide +kernel)⟩
theorem mk350 : mkP (11, 9, 0, 5) := ⟨tb 73 (by decide +kernel), rfl, tb 74 (by decide +kernel)⟩
theorem mk351 : mkP (11, 9, 0, 5) := ⟨tb 73 (by decide +kernel), rfl, tb 74 (by decide +kernel)⟩
theorem mk352 : mkP (11, 9, 0, 5) := ⟨tb 73 (by decide +kernel), rfl, tb 74 (by decide +kernel)⟩
theorem mk353 : mkP (11, 9, 0, 5) := ⟨tb 73 (by decide +kernel), rfl, tb 74 (by decide +kernel)⟩
theorem mk354 : mkP (11, 9, 0, 5) := ⟨tb 73 (by decide +kernel), rfl, tb 74 (by decide +kernel)⟩
theorem mk355 : mkP (11, 9, 0, 5) := ⟨tb 73 (by decide +kernel), rfl, tb 74 (by decide +kernel)⟩
theorem mk356 : mkP (11, 9, 0, 5) := ⟨tb 73 (by decide +kernel), rfl, tb 74 (by decide +kernel)⟩
theorem mk357 : mkP (11, 9, 0, 5) := ⟨tb 73 (by decide +kernel), rfl, tb 74 (by decide +kernel)⟩
theorem mk358 : mkP (11, 9, 0, 5) := ⟨tb 73 (by decide +kernel), rfl, tb 74 (by decide +kernel)⟩
theorem mk359 : mkP (11, 9, 0, 5) := ⟨tb 73 (by decide +kernel), rfl, tb 74 (by decide +kernel)⟩
theorem mk360 : mkP (11, 9, 0, 5) := ⟨tb 73 (by decide +kernel), rfl, tb 74 (by decide +kernel)⟩
theorem mk361 : mkP (11, 9, 0, 5) := ⟨tb 73 (by decide +kernel), rfl, tb 74 (by decide +kernel)⟩
theorem mk362 : mkP (11, 9, 0, 5) := ⟨tb 73 (by decide +kernel), rfl, tb 74 (by decide +kernel)⟩
theorem mk363 : mkP (11, 9, 0, 5) := ⟨tb 73 (by decide +kernel), rfl, tb 74 (by decide +kernel)⟩
theorem mk364 : mkP (11, 9, 0, 5) := ⟨tb 73 (by decide +kernel), rfl, tb 74 (by decide +kernel)⟩
theorem mk365 : mkP (11, 9, 0, 5) := ⟨tb 73 (by decide +kernel), rfl, tb 74 (by decide +kernel)⟩
theorem mk366 : mkP (11, 9, 0, 5) := ⟨tb 73 (by decide +kernel), rfl, tb 74 (by decide +kernel)⟩
theorem mk367 : mkP (11, 9, 0, 5) := ⟨tb 73 (by decide +kernel), rfl, tb 74 (by decide +kernel)⟩
theorem mk368 : mkP (11, 9, 0, 5) := ⟨tb 73 (by decide +kernel), rfl, tb 74 (by decide +kernel)⟩
theorem mk369 : mkP (11, 9, 0, 5) := ⟨tb 73 (by decide +kernel), rfl, tb 74 (by decide +kernel)⟩
theorem mk370 : mkP (11, 9, 0, 5) := ⟨tb 73 (by decide +kernel), rfl, tb 74 (by decide +kernel)⟩
theorem mk371 : mkP (11, 9, 0, 5) := ⟨tb 73 (by decide +kernel), rfl, tb 74 (by decide +kernel)⟩
theorem mk372 : mkP (11, 9, 0, 5) := ⟨tb 73 (by decide +kernel), rfl, tb 74 (by decide +kernel)⟩
theorem mk373 : mkP (11, 9, 0, 5) := ⟨tb 73 (by decide +kernel), rfl, tb 74 (by decide +kernel)⟩
theorem mk374 : mkP (11, 9, 0, 5) := ⟨tb 73 (by decide +kernel), rfl, tb 74 (by decide +kernel)⟩
theorem mk375 : mkP (11, 9, 0, 5) := ⟨tb 73 (by decide +kernel), rfl, tb 74 (by decide +kernel)⟩
theorem mk376 : mkP (11, 9, 0, 5) := ⟨tb 73 (by decide +kernel), rfl, tb 74 (by decide +kernel)⟩
theorem mk377 : mkP (11, 9, 0, 5) := ⟨tb 73 (by decide +kernel), rfl, tb 74 (by decide +kernel)⟩
theorem mk378 : mkP (11, 9, 0, 5) := ⟨tb 73 (by decide +kernel), rfl, tb 74 (by decide +kernel)⟩
theorem mk379 : mkP (11, 9, 0, 5) := ⟨tb 73 (by decide +kernel), rfl, tb 74 (by decide +kernel)⟩
theorem mk380 : mkP (11, 9, 0, 5) := ⟨tb 73 (by decide +kernel), rfl, tb 74 (by decide +kernel)⟩
theorem mk381 : mkP (11, 9, 0, 5) := ⟨tb 73 (by decide +kernel), rfl, tb 74 (by decide +kernel)⟩
theorem mk382 : mkP (11, 9, 0, 5) := ⟨tb 73 (by decide +kernel), rfl, tb 74 (by decide +kernel)⟩
theorem mk383 : mkP (11, 9, 0, 5) := ⟨tb 73 (by decide +kernel), rfl, tb 74 (by decide +kernel)⟩
theorem mk384 : mkP (11, 9, 0, 5) := ⟨tb 73 (by decide +kernel), rfl, tb 74 (by decide +kernel)⟩
theorem mk385 : mkP (11, 9, 0, 5) := ⟨tb 73 (by decide +kernel), rfl, tb 74 (by decide +kernel)⟩
theorem mk386 : mkP (11, 9, 0, 5) := ⟨tb 73 (by decide +kernel), rfl, tb 74 (by decide +kernel)⟩
theorem mk387 : mkP (11, 9, 0, 5) := ⟨tb 73 (by decide +kernel), rfl, tb 74 (by decide +kernel)⟩
theorem mk388 : mkP (11, 9, 0, 5) := ⟨tb 73 (by decide +kernel), rfl, tb 74 (by decide +kernel)⟩
theorem mk389 : mkP (11, 9, 0, 5) := ⟨tb 73 (by decide +kernel), rfl, tb 74 (by decide +kernel)⟩
theorem mk390 : mkP (11, 9, 0, 5) := ⟨tb 73 (by decide +kernel), rfl, tb 74 (by decide +kernel)⟩
theorem mk391 : mkP (11, 9, 0, 5) := ⟨tb 73 (by decide +kernel), rfl, tb 74 (by decide +kernel)⟩
theorem mk392 : mkP (11, 9, 0, 5) := ⟨tb 73 (by decide +kernel), rfl, tb 74 (by decide +kernel)⟩
theorem mk393 : mkP (11, 9, 0, 5) := ⟨tb 73 (by decide +kernel), rfl, tb 74 (by decide +kernel)⟩
theorem mk394 : mkP (11, 9, 0, 5) := ⟨tb 73 (by decide +kernel), rfl, tb 74 (by decide +kernel)⟩
theorem mk395 : mkP (11, 9, 0, 5) := ⟨tb 73 (by decide +kernel), rfl, tb 74 (by decide +kernel)⟩
theorem mk396 : mkP (11, 9, 0, 5) := ⟨tb 73 (by decide +kernel), rfl, tb 74 (by decide +kernel)⟩
theorem mk397 : mkP (11, 9, 0, 5) := ⟨tb 73 (by decide +kernel), rfl, tb 74 (by decide +kernel)⟩
theorem mk398 : mkP (11, 9, 0, 5) := ⟨tb 73 (by decide +kernel), rfl, tb 74 (by decide +kernel)⟩
theorem mk399 : mkP (11, 9, 0, 5) := ⟨tb 73 (by decide +kernel), rfl, tb 74 (by decide +kernel)⟩
theorem mk400 : mkP (11, 9, 0, 5) := ⟨tb 73 (by decide +kernel), rfl, tb 74 (by decide +kernel)⟩
theorem mk401 : mkP (11, 9, 0, 5) := ⟨tb 73 (by decide +kernel), rfl, tb 74 (by decide +kernel)⟩
theorem mk402 : mkP (13, 46, 122, 2) := ⟨tb 65 (by decide +kernel), rfl, tb 66 (by decide +kernel)⟩
theorem mk403 : mkP (13, 53, 123, 0) := ⟨tb 492 (by decide +kernel), tb 493 (by decide +kernel), tb 494 (by decide +kernel)⟩
theorem mk404 : mkP (13, 114, 125, 0) := ⟨tb 511 (by decide +kernel), tb 512 (by decide +kernel), tb 513 (by decide +kernel)⟩
theorem mk405 : mkP (13, 108, 126, 0) := ⟨tb 520 (by decide +kernel), tb 521 (by decide +kernel), tb 522 (by decide +kernel)⟩
theorem mk406 : mkP (13, 67, 137, 0) := ⟨tb 525 (by decide +kernel), tb 526 (by decide +kernel), tb 527 (by decide +kernel)⟩
theorem mk407 : mkP (13, 70, 138, 0) := ⟨tb 565 (by decide +kernel), tb 566 (by decide +kernel), tb 567 (by decide +kernel)⟩
theorem mk408 : mkP (13, 84, 140, 0) := ⟨tb 569 (by decide +kernel), tb 570 (by decide +kernel), tb 571 (by decide +kernel)⟩
theorem mk409 : mkP (13, 102, 142, 0) := ⟨tb 584 (by decide +kernel), tb 585 (by decide +kernel), tb 586 (by decide +kernel)⟩
theorem mk410 : mkP (13, 80, 143, 0) := ⟨tb 593 (by decide +kernel), tb 594 (by decide +kernel), tb 595 (by decide +kernel)⟩
theorem mk411 : mkP (13, 73, 145, 0) := ⟨tb 607 (by decide +kernel), tb 608 (by decide +kernel), tb 609 (by decide +kernel)⟩
theorem mk412 : mkP (13, 77, 148, 0) := ⟨tb 650 (by decide +kernel), tb 651 (by decide +kernel), tb 652 (by decide +kernel)⟩
theorem mk413 : mkP (13, 91, 149, 0) := ⟨tb 654 (by decide +kernel), tb 655 (by decide +kernel), tb 656 (by decide +kernel)⟩
theorem mk414 : mkP (13, 94, 150, 0) := ⟨tb 706 (by decide +kernel), tb 707 (by decide +kernel), tb 708 (by decide +kernel)⟩
theorem mk415 : mkP (13, 130, 155, 0) := ⟨tb 714 (by decide +kernel), tb 715 (by decide +kernel), tb 716 (by decide +kernel)⟩
theorem mk416 : mkP (13, 87, 156, 0) := ⟨tb 731 (by decide +kernel), tb 732 (by decide +kernel), tb 733 (by decide +kernel)⟩
theorem mk417 : mkP (13, 105, 161, 0) := ⟨tb 751 (by decide +kernel), tb 752 (by decide +kernel), tb 753 (by decide +kernel)⟩
theorem mk418 : mkP (13, 154, 162, 0) := ⟨tb 763 (by decide +kernel), tb 764 (by decide +kernel), tb 765 (by decide +kernel)⟩
theorem mk419 : mkP (13, 111, 163, 0) := ⟨tb 778 (by decide +kernel), tb 779 (by decide +kernel), tb 780 (by decide +kernel)⟩
theorem mk420 : mkP (13, 157, 164, 0) := ⟨tb 786 (by decide +kernel), tb 787 (by decide +kernel), tb 788 (by decide +kernel)⟩
theorem mk421 : mkP (13, 151, 171, 0) := ⟨tb 799 (by decide +kernel), tb 800 (by decide +kernel), tb 801 (by decide +kernel)⟩
theorem mk422 : mkP (13, 160, 172, 0) := ⟨tb 828 (by decide +kernel), tb 829 (by decide +kernel), tb 830 (by decide +kernel)⟩
theorem mk423 : mkP (13, 120, 174, 0) := ⟨tb 856 (by decide +kernel), tb 857 (by decide +kernel), tb 858 (by decide +kernel)⟩
theorem mk424 : mkP (13, 117, 175, 0) := ⟨tb 864 (by decide +kernel), tb 865 (by decide +kernel), tb 866 (by decide +kernel)⟩
theorem mk425 : mkP (13, 123, 176, 0) := ⟨tb 880 (by decide +kernel), tb 881 (by decide +kernel), tb 882 (by decide +kernel)⟩
theorem mk426 : mkP (13, 145, 177, 0) := ⟨tb 890 (by decide +kernel), tb 891 (by decide +kernel), tb 892 (by decide +kernel)⟩
theorem mk427 : mkP (13, 142, 178, 0) := ⟨tb 921 (by decide +kernel), tb 922 (by decide +kernel), tb 923 (by decide +kernel)⟩
theorem mk428 : mkP (13, 139, 180, 0) := ⟨tb 987 (by decide +kernel), tb 988 (by decide +kernel), tb 989 (by decide +kernel)⟩
theorem mk429 : mkP (13, 133, 181, 0) := ⟨tb 996 (by decide +kernel), tb 997 (by decide +kernel), tb 998 (by decide +kernel)⟩
theorem mk430 : mkP (13, 136, 182, 0) := ⟨tb 1013 (by decide +kernel), tb 1014 (by decide +kernel), tb 1015 (by decide +kernel)⟩
theorem mk431 : mkP (13, 56, 184, 0) := ⟨tb 1032 (by decide +kernel), tb 1033 (by decide +kernel), tb 1034 (by decide +kernel)⟩
theorem mk432 : mkP (13, 126, 187, 0) := ⟨tb 1040 (by decide +kernel), tb 1041 (by decide +kernel), tb 1042 (by decide +kernel)⟩
theorem mk433 : mkP (13, 47, 188, 1) := ⟨tb 1105 (by decide +kernel), tb 1106 (by decide +kernel)⟩
theorem mk434 : mkP (13, 17, 135, 0) := ⟨tb 1159 (by decide +kernel), tb 1160 (by decide +kernel), tb 1161 (by decide +kernel)⟩
theorem mk435 : mkP (13, 23, 136, 0) := ⟨tb 1167 (by decide +kernel), tb 1168 (by decide +kernel), tb 1169 (by decide +kernel)⟩
theorem mk436 : mkP (13, 163, 189, 1) := ⟨tb 1401 (by decide +kernel), tb 1402 (by decide +kernel)⟩
theorem mk437 : mkP (13, 97, 305, 1) := ⟨tb 1404 (by decide +kernel), tb 559 (by decide +kernel)⟩
theorem mk438 : mkP (13, 148, 190, 1) := ⟨tb 1405 (by decide +kernel), tb 1244 (by decide +kernel)⟩
set_option maxRecDepth 100000 in
theorem MK_ok : allP mkP MK := ⟨mk0, mk1, mk2, mk3, mk4, mk5, mk6, mk7, mk8, mk9, mk10, mk11, mk12, mk13, mk14, mk15, mk16, mk17, mk18, mk19, mk20, mk21, mk22, mk23, mk24, mk25, mk26, mk27, mk28, mk29, mk30, mk31, mk32, mk33, mk34, mk35, mk36, mk37, mk38, mk39, mk40, mk41, mk42, mk43, mk44, mk45, mk46, mk47, mk48, mk49, mk50, mk51, mk52, mk53, mk54, mk55, mk56, mk57, mk58, mk59, mk60, mk61, mk62, mk63, mk64, mk65, mk66, mk67, mk68, mk69, mk70, mk71, mk72, mk73, mk74, mk75, mk76, mk77, mk78, mk79, mk80, mk81, mk82, mk83, mk84, mk85, mk86, mk87, mk88, mk89, mk90, mk91, mk92, mk93, mk94, mk95, mk96, mk97, mk98, mk99, mk100, mk101, mk102, mk103, mk104, mk105, mk106, mk107, mk108, mk109, mk110, mk111, mk112, mk113, mk114, mk115, mk116, mk117, mk118, mk119, mk120, mk121, mk122, mk123, mk124, mk125, mk126, mk127, mk128, mk129, mk130, mk131, mk132, mk133, mk134, mk135, mk136, mk137, mk138, mk139, mk140, mk141, mk142, mk143, mk144, mk145, mk146, mk147, mk148, mk149, mk150, mk151, mk152, mk153, mk154, mk155, mk156, mk157, mk158, mk159, mk160, mk161, mk162, mk163, mk164, mk165, mk166, mk167, mk168, mk169, mk170, mk171, mk172, mk173, mk174, mk175, mk176, mk177, mk178, mk179, mk180, mk181, mk182, mk183, mk184, mk185, mk186, mk187, mk188, mk189, mk190, mk191, mk192, mk193, mk194, mk195, mk196, mk197, mk198, mk199, mk200, mk201, mk202, mk203, mk204, mk205, mk206, mk207, mk208, mk209, mk210, mk211, mk212, mk213, mk214, mk215, mk216, mk217, mk218, mk219, mk220, mk221, mk222, mk223, mk224, mk225, mk226, mk227, mk228, mk229, mk230, mk231, mk232, mk233, mk234, mk235, mk236, mk237, mk238, mk239, mk240, mk241, mk242, mk243, mk244, mk245, mk246, mk247, mk248, mk249, mk250, mk251, mk252, mk253, mk254, mk255, mk256, mk257, mk258, mk259, mk260, mk261, mk262, mk263, mk264, mk265, mk266, mk267, mk268, mk269, mk270, mk271, mk272, mk273, mk274, mk275, mk276, mk277, mk278, mk279, mk280, mk281, mk282, mk283, mk284, mk285, mk286, mk287, mk288, mk289, mk290, mk291, mk292, mk293, mk294, mk295, mk296, mk297, mk298, mk299, mk300, mk301, mk302, mk303, mk304, mk305, mk306, mk307, mk308, mk309, mk310, mk311, mk312, mk313, mk314, mk315, mk316, mk317, mk318, mk319, mk320, mk321, mk322, mk323, mk324, mk325, mk326, mk327, mk328, mk329, mk330, mk331, mk332, mk333, mk334, mk335, mk336, mk337, mk338, mk339, mk340, mk341, mk342, mk343, mk344, mk345, mk346, mk347, mk348, mk349, mk350, mk351, mk352, mk353, mk354, mk355, mk356, mk357, mk358, mk359, mk360, mk361, mk362, mk363, mk364, mk365, mk366, mk367, mk368, mk369, mk370, mk371, mk372, mk373, mk374, mk375, mk376, mk377, mk378, mk379, mk380, mk381, mk382, mk383, mk384, mk385, mk386, mk387, mk388, mk389, mk390, mk391, mk392, mk393, mk394, mk395, mk396, mk397, mk398, mk399, mk400, mk401, mk402, mk403, mk404, mk405, mk406, mk407, mk408, mk409, mk410, mk411, mk412, mk413, mk414, mk415, mk416, mk417, mk418, mk419, mk420, mk421, mk422, mk423, mk424, mk425, mk426, mk427, mk428, mk429, mk430, mk431, mk432, mk433, mk434, mk435, mk436, mk437, mk438, trivial⟩
theorem nk0 : nkP (11, 7, 3) := ⟨tb 71 (by decide +kernel), tb 72 (by decide +kernel), tb 36 (by decide +kernel)⟩
theorem nk1 : nkP (11, 7, 3) := ⟨tb 71 (by decide +kernel), tb 72 (by decide +kernel), tb 36 (by decide +kernel)⟩
theorem nk2 : nkP (11, 16, 7) := ⟨tb 119 (by decide +kernel), tb 120 (by decide +kernel), tb 37 (by decide +kernel)⟩
theorem nk3 : nkP (7, 7, 6) := ⟨tb 125 (by decide +kernel), tb 126 (by decide +kernel), tb 38 (by decide +kernel)⟩
theorem nk4 : nkP (11, 25, 2) := ⟨tb 164 (by decide +kernel), tb 165 (by decide +kernel), tb 39 (by decide +kernel)⟩
theorem nk5 : nkP (2, 9, 5) := ⟨tb 170 (by decide +kernel), tb 171 (by decide +kernel), tb 40 (by decide +kernel)⟩
theorem nk6 : nkP (5, 7, 6) := ⟨tb 176 (by decide +kernel), tb 126 (by decide +kernel), tb 38 (by decide +kernel)⟩
theorem nk7 : nkP (2, 24, 6) := ⟨tb 191 (by decide +kernel), tb 126 (by decide +kernel), tb 38 (by decide +kernel)⟩
theorem nk8 : nkP (11, 34, 10) := ⟨tb 215 (by decide +kernel), tb 216 (by decide +kernel), tb 41 (by decide +kernel)⟩
theorem nk9 : nkP (10, 7, 6) := ⟨tb 221 (by decide +kernel), tb 126 (by decide +kernel), tb 38 (by decide +kernel)⟩
theorem nk10 : nkP (11, 43, 1) := ⟨tb 239 (by decide +kernel), tb 240 (by decide +kernel), tb 42 (by decide +kernel)⟩
theorem nk11 : nkP (1, 9, 6) := ⟨tb 245 (by decide +kernel), tb 126 (by decide +kernel), tb 38 (by decide +kernel)⟩
theorem nk12 : nkP (11, 50, 8) := ⟨tb 280 (by decide +kernel), tb 281 (by decide +kernel), tb 43 (by decide +kernel)⟩
theorem nk13 : nkP (11, 57, 4) := ⟨tb 305 (by decide +kernel), tb 306 (by decide +kernel), tb 44 (by decide +kernel)⟩
theorem nk14 : nkP (4, 9, 6) := ⟨tb 311 (by decide +kernel), tb 126 (by decide +kernel), tb 38 (by decide +kernel)⟩
theorem nk15 : nkP (11, 66, 0) := ⟨tb 351 (by decide +kernel), tb 352 (by decide +kernel), tb 45 (by decide +kernel)⟩
theorem nk16 : nkP (0, 9, 6) := ⟨tb 357 (by decide +kernel), tb 126 (by decide +kernel), tb 38 (by decide +kernel)⟩
theorem nk17 : nkP (11, 73, 6) := ⟨tb 372 (by decide +kernel), tb 126 (by decide +kernel), tb 38 (by decide +kernel)⟩
theorem nk18 : nkP (11, 79, 9) := ⟨tb 373 (by decide +kernel), tb 374 (by decide +kernel), tb 46 (by decide +kernel)⟩
theorem nk19 : nkP (11, 7, 3) := ⟨tb 71 (by decide +kernel), tb 72 (by decide +kernel), tb 36 (by decide +kernel)⟩
theorem nk20 : nkP (13, 18, 11) := ⟨tb 63 (by decide +kernel), tb 64 (by decide +kernel), tb 35 (by decide +kernel)⟩
set_option maxRecDepth 100000 in
theorem NK_ok : allP nkP NK := ⟨nk0, nk1, nk2, nk3, nk4, nk5, nk6, nk7, nk8, nk9, nk10, nk11, nk12, nk13, nk14, nk15, nk16, nk17, nk18, nk19, nk20, trivial⟩
set_option maxRecDepth 100000 in
theorem OK_ok : allP okP OK := ⟨tb 68 (by decide +kernel), tb 76 (by decide +kernel), tb 124 (by decide +kernel), tb 130 (by decide +kernel), tb 169 (by decide +kernel), tb 175 (by decide +kernel), tb 220 (by decide +kernel), tb 244 (by decide +kernel), tb 285 (by decide +kernel), tb 310 (by decide +kernel), tb 356 (by decide +kernel), tb 378 (by decide +kernel), tb 68 (by decide +kernel), trivial⟩
set_option maxRecDepth 100000 in
theorem KK_ok : allP kkP KK := trivial
set_option maxRecDepth 100000 in
theorem KI_ok : allP kiP KI := ⟨tb 775 (by decide +kernel), tb 776 (by decide +kernel), tb 777 (by decide +kernel), trivial⟩
theorem mt0 : vOf 0 = true → mtP 0 := fun _ => ⟨tb 75 (by decide +kernel), tb 36 (by decide +kernel), by decide +kernel, by decide +kernel, by decide +kernel, by decide +kernel, rfl⟩
theorem mt1 : vOf 1 = true → mtP 1 := fun _ => ⟨tb 405 (by decide +kernel), tb 36 (by decide +kernel), by decide +kernel, by decide +kernel, by decide +kernel, by decide +kernel, rfl⟩
theorem mt2 : vOf 2 = true → mtP 2 := fun _ => ⟨tb 409 (by decide +kernel), tb 36 (by decide +kernel), by decide +kernel, by decide +kernel, by decide +kernel, by decide +kernel, rfl⟩
theorem mt3 : vOf 3 = true → mtP 3 := fun _ => ⟨tb 413 (by decide +kernel), tb 36 (by decide +kernel), by decide +kernel, by decide +kernel, by decide +kernel, by decide +kernel, rfl⟩
theorem mt4 : vOf 4 = true → mtP 4 := fun _ => ⟨tb 416 (by decide +kernel), tb 36 (by decide +kernel), by decide +kernel, by decide +kernel, by decide +kernel, by decide +kernel, rfl⟩
theorem mt5 : vOf 5 = true → mtP 5 := fun _ => ⟨tb 420 (by decide +kernel), tb 36 (by decide +kernel), by decide +kernel, by decide +kernel, by decide +kernel, by decide +kernel, rfl⟩
theorem mt6 : vOf 6 = true → mtP 6 := fun _ => ⟨tb 424 (by decide +kernel), tb 36 (by decide +kernel), by decide +kernel, by decide +kernel, by decide +kernel, by decide +kernel, rfl⟩
theorem mt7 : vOf 7 = true → mtP 7 := fun _ => ⟨tb 428 (by decide +kernel), tb 36 (by decide +kernel), by decide +kernel, by decide +kernel, by decide +kernel, by decide +kernel, rfl⟩
theorem mt8 : vOf 8 = true → mtP 8 := fun _ => ⟨tb 432 (by decide +kernel), tb 36 (by decide +kernel), by decide +kernel, by decide +kernel, by decide +kernel, by decide +kernel, rfl⟩
theorem mt9 : vOf 9 = true → mtP 9 := fun _ => ⟨tb 436 (by decide +kernel), tb 36 (by decide +kernel), by decide +kernel, by decide +kernel, by decide +kernel, by decide +kernel, rfl⟩
theorem mt10 : vOf 10 = true → mtP 10 := fun _ => ⟨tb 440 (by decide +kernel), tb 36 (by decide +kernel), by decide +kernel, by decide +kernel, by decide +kernel, by decide +kernel, rfl⟩
theorem mt11 : vOf 11 = true → mtP 11 := fun _ => ⟨tb 447 (by decide +kernel), tb 36 (by decide +kernel), by decide +kernel, by decide +kernel, by decide +kernel, by decide +kernel, rfl⟩
theorem mt12 : vOf 12 = true → mtP 12 := fun _ => ⟨tb 498 (by decide +kernel), tb 36 (by decide +kernel), by decide +kernel, by decide +kernel, by decide +kernel, by decide +kernel, rfl⟩
theorem mt13 : vOf 13 = true → mtP 13 := fun _ => ⟨tb 518 (by decide +kernel), tb 36 (by decide +kernel), by decide +kernel, by decide +kernel, by decide +kernel, by decide +kernel, rfl⟩
theorem mt14 : vOf 14 = true → mtP 14 := fun _ => ⟨tb 633 (by decide +kernel), tb 36 (by decide +kernel), by decide +kernel, by decide +kernel, by decide +kernel, by decide +kernel, rfl⟩
theorem mt17 : vOf 17 = true → mtP 17 := fun _ => ⟨tb 823 (by decide +kernel), tb 36 (by decide +kernel), by decide +kernel, by decide +kernel, by decide +kernel, by decide +kernel, rfl⟩
theorem mt18 : vOf 18 = true → mtP 18 := fun _ => ⟨tb 629 (by decide +kernel), tb 36 (by decide +kernel), by decide +kernel, by decide +kernel, by decide +kernel, by decide +kernel, rfl⟩
theorem mt19 : vOf 19 = true → mtP 19 := fun _ => ⟨tb 641 (by decide +kernel), tb 36 (by decide +kernel), by decide +kernel, by decide +kernel, by decide +kernel, by decide +kernel, rfl⟩
theorem mt20 : vOf 20 = true → mtP 20 := fun _ => ⟨tb 645 (by decide +kernel), tb 36 (by decide +kernel), by decide +kernel, by decide +kernel, by decide +kernel, by decide +kernel, rfl⟩
theorem mt21 : vOf 21 = true → mtP 21 := fun _ => ⟨tb 129 (by decide +kernel), tb 38 (by decide +kernel), by decide +kernel, by decide +kernel, by decide +kernel, by decide +kernel, rfl⟩
theorem mt22 : vOf 22 = true → mtP 22 := fun _ => ⟨tb 510 (by decide +kernel), tb 38 (by decide +kernel), by decide +kernel, by decide +kernel, by decide +kernel, by decide +kernel, rfl⟩
theorem mt23 : vOf 23 = true → mtP 23 := fun _ => ⟨tb 549 (by decide +kernel), tb 38 (by decide +kernel), by decide +kernel, by decide +kernel, by decide +kernel, by decide +kernel, rfl⟩
theorem mt24 : vOf 24 = true → mtP 24 := fun _ => ⟨tb 557 (by decide +kernel), tb 38 (by decide +kernel), by decide +kernel, by decide +kernel, by decide +kernel, by decide +kernel, rfl⟩
theorem mt25 : vOf 25 = true → mtP 25 := fun _ => ⟨tb 564 (by decide +kernel), tb 38 (by decide +kernel), by decide +kernel, by decide +kernel, by decide +kernel, by decide +kernel, rfl⟩
theorem mt26 : vOf 26 = true → mtP 26 := fun _ => ⟨tb 625 (by decide +kernel), tb 38 (by decide +kernel), by decide +kernel, by decide +kernel, by decide +kernel, by decide +kernel, rfl⟩
theorem mt27 : vOf 27 = true → mtP 27 := fun _ => ⟨tb 670 (by decide +kernel), tb 38 (by decide +kernel), by decide +kernel, by decide +kernel, by decide +kernel, by decide +kernel, rfl⟩
theorem mt28 : vOf 28 = true → mtP 28 := fun _ => ⟨tb 722 (by decide +kernel), tb 38 (by decide +kernel), by decide +kernel, by decide +kernel, by decide +kernel, by decide +kernel, rfl⟩
theorem mt29 : vOf 29 = true → mtP 29 := fun _ => ⟨tb 726 (by decide +kernel), tb 38 (by decide +kernel), by decide +kernel, by decide +kernel, by decide +kernel, by decide +kernel, rfl⟩
theorem mt30 : vOf 30 = true → mtP 30 := fun _ => ⟨tb 730 (by decide +kernel), tb 38 (by decide +kernel), by decide +kernel, by decide +kernel, by decide +kernel, by decide +kernel, rfl⟩
theorem mt31 : vOf 31 = true → mtP 31 := fun _ => ⟨tb 742 (by decide +kernel), tb 38 (by decide +kernel), by decide +kernel, by decide +kernel, by decide +kernel, by decide +kernel, rfl⟩
theorem mt32 : vOf 32 = true → mtP 32 := fun _ => ⟨tb 746 (by decide +kernel), tb 38 (by decide +kernel), by decide +kernel, by decide +kernel, by decide +kernel, by decide +kernel, rfl⟩
theorem mt33 : vOf 33 = true → mtP 33 := fun _ => ⟨tb 819 (by decide +kernel), tb 38 (by decide +kernel), by decide +kernel, by decide +kernel, by decide +kernel, by decide +kernel, rfl⟩
theorem mt34 : vOf 34 = true → mtP 34 := fun _ => ⟨tb 174 (by decide +kernel), tb 40 (by decide +kernel), by decide +kernel, by decide +kernel, by decide +kernel, by decide +kernel, rfl⟩
theorem mt35 : vOf 35 = true → mtP 35 := fun _ => ⟨tb 665 (by decide +kernel), tb 40 (by decide +kernel), by decide +kernel, by decide +kernel, by decide +kernel, by decide +kernel, rfl⟩
theorem mt36 : vOf 36 = true → mtP 36 := fun _ => ⟨tb 123 (by decide +kernel), tb 37 (by decide +kernel), by decide +kernel, by decide +kernel, by decide +kernel, by decide +kernel, rfl⟩
theorem mt37 : vOf 37 = true → mtP 37 := fun _ => ⟨tb 576 (by decide +kernel), tb 37 (by decide +kernel), by decide +kernel, by decide +kernel, by decide +kernel, by decide +kernel, rfl⟩
theorem mt38 : vOf 38 = true → mtP 38 := fun _ => ⟨tb 579 (by decide +kernel), tb 37 (by decide +kernel), by decide +kernel, by decide +kernel, by decide +kernel, by decide +kernel, rfl⟩
theorem mt39 : vOf 39 = true → mtP 39 := fun _ => ⟨tb 686 (by decide +kernel), tb 37 (by decide +kernel), by decide +kernel, by decide +kernel, by decide +kernel, by decide +kernel, rfl⟩
theorem mt40 : vOf 40 = true → mtP 40 := fun _ => ⟨tb 591 (by decide +kernel), tb 37 (by decide +kernel), by decide +kernel, by decide +kernel, by decide +kernel, by decide +kernel, rfl⟩
theorem mt41 : vOf 41 = true → mtP 41 := fun _ => ⟨tb 600 (by decide +kernel), tb 37 (by decide +kernel), by decide +kernel, by decide +kernel, by decide +kernel, by decide +kernel, rfl⟩
theorem mt42 : vOf 42 = true → mtP 42 := fun _ => ⟨tb 621 (by decide +kernel), tb 37 (by decide +kernel), by decide +kernel, by decide +kernel, by decide +kernel, by decide +kernel, rfl⟩
theorem mt43 : vOf 43 = true → mtP 43 := fun _ => ⟨tb 637 (by decide +kernel), tb 37 (by decide +kernel), by decide +kernel, by decide +kernel, by decide +kernel, by decide +kernel, rfl⟩
theorem mt44 : vOf 44 = true → mtP 44 := fun _ => ⟨tb 649 (by decide +kernel), tb 37 (by decide +kernel), by decide +kernel, by decide +kernel, by decide +kernel, by decide +kernel, rfl⟩
theorem mt45 : vOf 45 = true → mtP 45 := fun _ => ⟨tb 681 (by decide +kernel), tb 37 (by decide +kernel), by decide +kernel, by decide +kernel, by decide +kernel, by decide +kernel, rfl⟩
theorem mt46 : vOf 46 = true → mtP 46 := fun _ => ⟨tb 699 (by decide +kernel), tb 37 (by decide +kernel), by decide +kernel, by decide +kernel, by decide +kernel, by decide +kernel, rfl⟩
theorem mt47 : vOf 47 = true → mtP 47 := fun _ => ⟨tb 705 (by decide +kernel), tb 37 (by decide +kernel), by decide +kernel, by decide +kernel, by decide +kernel, by decide +kernel, rfl⟩
theorem mt50 : vOf 50 = true → mtP 50 := fun _ => ⟨tb 1008 (by decide +kernel), tb 37 (by decide +kernel), by decide +kernel, by decide +kernel, by decide +kernel, by decide +kernel, rfl⟩
theorem mt51 : vOf 51 = true → mtP 51 := fun _ => ⟨tb 908 (by decide +kernel), tb 37 (by decide +kernel), by decide +kernel, by decide +kernel, by decide +kernel, by decide +kernel, rfl⟩
theorem mt52 : vOf 52 = true → mtP 52 := fun _ => ⟨tb 985 (by decide +kernel), tb 37 (by decide +kernel), by decide +kernel, by decide +kernel, by decide +kernel, by decide +kernel, rfl⟩
theorem mt53 : vOf 53 = true → mtP 53 := fun _ => ⟨tb 1030 (by decide +kernel), tb 37 (by decide +kernel), by decide +kernel, by decide +kernel, by decide +kernel, by decide +kernel, rfl⟩
theorem mt54 : vOf 54 = true → mtP 54 := fun _ => ⟨tb 168 (by decide +kernel), tb 39 (by decide +kernel), by decide +kernel, by decide +kernel, by decide +kernel, by decide +kernel, rfl⟩
theorem mt55 : vOf 55 = true → mtP 55 := fun _ => ⟨tb 661 (by decide +kernel), tb 39 (by decide +kernel), by decide +kernel, by decide +kernel, by decide +kernel, by decide +kernel, rfl⟩
theorem mt56 : vOf 56 = true → mtP 56 := fun _ => ⟨tb 677 (by decide +kernel), tb 39 (by decide +kernel), by decide +kernel, by decide +kernel, by decide +kernel, by decide +kernel, rfl⟩
theorem mt57 : vOf 57 = true → mtP 57 := fun _ => ⟨tb 690 (by decide +kernel), tb 39 (by decide +kernel), by decide +kernel, by decide +kernel, by decide +kernel, by decide +kernel, rfl⟩
theorem mt58 : vOf 58 = true → mtP 58 := fun _ => ⟨tb 694 (by decide +kernel), tb 39 (by decide +kernel), by decide +kernel, by decide +kernel, by decide +kernel, by decide +kernel, rfl⟩
theorem mt59 : vOf 59 = true → mtP 59 := fun _ => ⟨tb 713 (by decide +kernel), tb 39 (by decide +kernel), by decide +kernel, by decide +kernel, by decide +kernel, by decide +kernel, rfl⟩
theorem mt63 : vOf 63 = true → mtP 63 := fun _ => ⟨tb 219 (by decide +kernel), tb 41 (by decide +kernel), by decide +kernel, by decide +kernel, by decide +kernel, by decide +kernel, rfl⟩
theorem mt65 : vOf 65 = true → mtP 65 := fun _ => ⟨tb 758 (by decide +kernel), tb 41 (by decide +kernel), by decide +kernel, by decide +kernel, by decide +kernel, by decide +kernel, rfl⟩
theorem mt66 : vOf 66 = true → mtP 66 := fun _ => ⟨tb 815 (by decide +kernel), tb 41 (by decide +kernel), by decide +kernel, by decide +kernel, by decide +kernel, by decide +kernel, rfl⟩
theorem mt67 : vOf 67 = true → mtP 67 := fun _ => ⟨tb 770 (by decide +kernel), tb 41 (by decide +kernel), by decide +kernel, by decide +kernel, by decide +kernel, by decide +kernel, rfl⟩
theorem mt68 : vOf 68 = true → mtP 68 := fun _ => ⟨tb 785 (by decide +kernel), tb 41 (by decide +kernel), by decide +kernel, by decide +kernel, by decide +kernel, by decide +kernel, rfl⟩
theorem mt69 : vOf 69 = true → mtP 69 := fun _ => ⟨tb 793 (by decide +kernel), tb 41 (by decide +kernel), by decide +kernel, by decide +kernel, by decide +kernel, by decide +kernel, rfl⟩
theorem mt70 : vOf 70 = true → mtP 70 := fun _ => ⟨tb 798 (by decide +kernel), tb 41 (by decide +kernel), by decide +kernel, by decide +kernel, by decide +kernel, by decide +kernel, rfl⟩
theorem mt71 : vOf 71 = true → mtP 71 := fun _ => ⟨tb 810 (by decide +kernel), tb 41 (by decide +kernel), by decide +kernel, by decide +kernel, by decide +kernel, by decide +kernel, rfl⟩
theorem mt74 : vOf 74 = true → mtP 74 := fun _ => ⟨tb 243 (by decide +kernel), tb 42 (by decide +kernel), by decide +kernel, by decide +kernel, by decide +kernel, by decide +kernel, rfl⟩
theorem mt75 : vOf 75 = true → mtP 75 := fun _ => ⟨tb 502 (by decide +kernel), tb 42 (by decide +kernel), by decide +kernel, by decide +kernel, by decide +kernel, by decide +kernel, rfl⟩
theorem mt76 : vOf 76 = true → mtP 76 := fun _ => ⟨tb 838 (by decide +kernel), tb 42 (by decide +kernel), by decide +kernel, by decide +kernel, by decide +kernel, by decide +kernel, rfl⟩
theorem mt77 : vOf 77 = true → mtP 77 := fun _ => ⟨tb 842 (by decide +kernel), tb 42 (by decide +kernel), by decide +kernel, by decide +kernel, by decide +kernel, by decide +kernel, rfl⟩
theorem mt78 : vOf 78 = true → mtP 78 := fun _ => ⟨tb 846 (by decide +kernel), tb 42 (by decide +kernel), by decide +kernel, by decide +kernel, by decide +kernel, by decide +kernel, rfl⟩
theorem mt79 : vOf 79 = true → mtP 79 := fun _ => ⟨tb 863 (by decide +kernel), tb 42 (by decide +kernel), by decide +kernel, by decide +kernel, by decide +kernel, by decide +kernel, rfl⟩
theorem mt80 : vOf 80 = true → mtP 80 := fun _ => ⟨tb 871 (by decide +kernel), tb 42 (by decide +kernel), by decide +kernel, by decide +kernel, by decide +kernel, by decide +kernel, rfl⟩
theorem mt81 : vOf 81 = true → mtP 81 := fun _ => ⟨tb 874 (by decide +kernel), tb 42 (by decide +kernel), by decide +kernel, by decide +kernel, by decide +kernel, by decide +kernel, rfl⟩
theorem mt82 : vOf 82 = true → mtP 82 := fun _ => ⟨tb 879 (by decide +kernel), tb 42 (by decide +kernel), by decide +kernel, by decide +kernel, by decide +kernel, by decide +kernel, rfl⟩
theorem mt83 : vOf 83 = true → mtP 83 := fun _ => ⟨tb 887 (by decide +kernel), tb 42 (by decide +kernel), by decide +kernel, by decide +kernel, by decide +kernel, by decide +kernel, rfl⟩
theorem mt84 : vOf 84 = true → mtP 84 := fun _ => ⟨tb 284 (by decide +kernel), tb 43 (by decide +kernel), by decide +kernel, by decide +kernel, by decide +kernel, by decide +kernel, rfl⟩
theorem mt85 : vOf 85 = true → mtP 85 := fun _ => ⟨tb 937 (by decide +kernel), tb 43 (by decide +kernel), by decide +kernel, by decide +kernel, by decide +kernel, by decide +kernel, rfl⟩
theorem mt86 : vOf 86 = true → mtP 86 := fun _ => ⟨tb 945 (by decide +kernel), tb 43 (by decide +kernel), by decide +kernel, by decide +kernel, by decide +kernel, by decide +kernel, rfl⟩
theorem mt87 : vOf 87 = true → mtP 87 := fun _ => ⟨tb 949 (by decide +kernel), tb 43 (by decide +kernel), by decide +kernel, by decide +kernel, by decide +kernel, by decide +kernel, rfl⟩
theorem mt88 : vOf 88 = true → mtP 88 := fun _ => ⟨tb 952 (by decide +kernel), tb 43 (by decide +kernel), by decide +kernel, by decide +kernel, by decide +kernel, by decide +kernel, rfl⟩
theorem mt89 : vOf 89 = true → mtP 89 := fun _ => ⟨tb 956 (by decide +kernel), tb 43 (by decide +kernel), by decide +kernel, by decide +kernel, by decide +kernel, by decide +kernel, rfl⟩
theorem mt90 : vOf 90 = true → mtP 90 := fun _ => ⟨tb 960 (by decide +kernel), tb 43 (by decide +kernel), by decide +kernel, by decide +kernel, by decide +kernel, by decide +kernel, rfl⟩
theorem mt91 : vOf 91 = true → mtP 91 := fun _ => ⟨tb 964 (by decide +kernel), tb 43 (by decide +kernel), by decide +kernel, by decide +kernel, by decide +kernel, by decide +kernel, rfl⟩
theorem mt92 : vOf 92 = true → mtP 92 := fun _ => ⟨tb 968 (by decide +kernel), tb 43 (by decide +kernel), by decide +kernel, by decide +kernel, by decide +kernel, by decide +kernel, rfl⟩
theorem mt93 : vOf 93 = true → mtP 93 := fun _ => ⟨tb 976 (by decide +kernel), tb 43 (by decide +kernel), by decide +kernel, by decide +kernel, by decide +kernel, by decide +kernel, rfl⟩
theorem mt94 : vOf 94 = true → mtP 94 := fun _ => ⟨tb 309 (by decide +kernel), tb 44 (by decide +kernel), by decide +kernel, by decide +kernel, by decide +kernel, by decide +kernel, rfl⟩
theorem mt95 : vOf 95 = true → mtP 95 := fun _ => ⟨tb 897 (by decide +kernel), tb 44 (by decide +kernel), by decide +kernel, by decide +kernel, by decide +kernel, by decide +kernel, rfl⟩
theorem mt96 : vOf 96 = true → mtP 96 := fun _ => ⟨tb 903 (by decide +kernel), tb 44 (by decide +kernel), by decide +kernel, by decide +kernel, by decide +kernel, by decide +kernel, rfl⟩
theorem mt97 : vOf 97 = true → mtP 97 := fun _ => ⟨tb 914 (by decide +kernel), tb 44 (by decide +kernel), by decide +kernel, by decide +kernel, by decide +kernel, by decide +kernel, rfl⟩
theorem mt98 : vOf 98 = true → mtP 98 := fun _ => ⟨tb 918 (by decide +kernel), tb 44 (by decide +kernel), by decide +kernel, by decide +kernel, by decide +kernel, by decide +kernel, rfl⟩
theorem mt99 : vOf 99 = true → mtP 99 := fun _ => ⟨tb 928 (by decide +kernel), tb 44 (by decide +kernel), by decide +kernel, by decide +kernel, by decide +kernel, by decide +kernel, rfl⟩
theorem mt100 : vOf 100 = true → mtP 100 := fun _ => ⟨tb 932 (by decide +kernel), tb 44 (by decide +kernel), by decide +kernel, by decide +kernel, by decide +kernel, by decide +kernel, rfl⟩
theorem mt101 : vOf 101 = true → mtP 101 := fun _ => ⟨tb 972 (by decide +kernel), tb 44 (by decide +kernel), by decide +kernel, by decide +kernel, by decide +kernel, by decide +kernel, rfl⟩
theorem mt102 : vOf 102 = true → mtP 102 := fun _ => ⟨tb 980 (by decide +kernel), tb 44 (by decide +kernel), by decide +kernel, by decide +kernel, by decide +kernel, by decide +kernel, rfl⟩
theorem mt104 : vOf 104 = true → mtP 104 := fun _ => ⟨tb 355 (by decide +kernel), tb 45 (by decide +kernel), by decide +kernel, by decide +kernel, by decide +kernel, by decide +kernel, rfl⟩
theorem mt105 : vOf 105 = true → mtP 105 := fun _ => ⟨tb 994 (by decide +kernel), tb 45 (by decide +kernel), by decide +kernel, by decide +kernel, by decide +kernel, by decide +kernel, rfl⟩
theorem mt106 : vOf 106 = true → mtP 106 := fun _ => ⟨tb 1003 (by decide +kernel), tb 45 (by decide +kernel), by decide +kernel, by decide +kernel, by decide +kernel, by decide +kernel, rfl⟩
theorem mt107 : vOf 107 = true → mtP 107 := fun _ => ⟨tb 1020 (by decide +kernel), tb 45 (by decide +kernel), by decide +kernel, by decide +kernel, by decide +kernel, by decide +kernel, rfl⟩
theorem mt108 : vOf 108 = true → mtP 108 := fun _ => ⟨tb 1024 (by decide +kernel), tb 45 (by decide +kernel), by decide +kernel, by decide +kernel, by decide +kernel, by decide +kernel, rfl⟩
theorem mt109 : vOf 109 = true → mtP 109 := fun _ => ⟨tb 377 (by decide +kernel), tb 46 (by decide +kernel), by decide +kernel, by decide +kernel, by decide +kernel, by decide +kernel, rfl⟩
theorem mt110 : vOf 110 = true → mtP 110 := fun _ => ⟨tb 1166 (by decide +kernel), tb 46 (by decide +kernel), by decide +kernel, by decide +kernel, by decide +kernel, by decide +kernel, rfl⟩
theorem mt111 : vOf 111 = true → mtP 111 := fun _ => ⟨tb 1174 (by decide +kernel), tb 46 (by decide +kernel), by decide +kernel, by decide +kernel, by decide +kernel, by decide +kernel, rfl⟩
theorem mt112 : vOf 112 = true → mtP 112 := fun _ => ⟨tb 532 (by decide +kernel), tb 46 (by decide +kernel), by decide +kernel, by decide +kernel, by decide +kernel, by decide +kernel, rfl⟩
theorem mt113 : vOf 113 = true → mtP 113 := fun _ => ⟨tb 537 (by decide +kernel), tb 46 (by decide +kernel), by decide +kernel, by decide +kernel, by decide +kernel, by decide +kernel, rfl⟩
theorem mt114 : vOf 114 = true → mtP 114 := fun _ => ⟨tb 541 (by decide +kernel), tb 46 (by decide +kernel), by decide +kernel, by decide +kernel, by decide +kernel, by decide +kernel, rfl⟩
theorem mt115 : vOf 115 = true → mtP 115 := fun _ => ⟨tb 545 (by decide +kernel), tb 46 (by decide +kernel), by decide +kernel, by decide +kernel, by decide +kernel, by decide +kernel, rfl⟩
theorem mt116 : vOf 116 = true → mtP 116 := fun _ => ⟨tb 553 (by decide +kernel), tb 46 (by decide +kernel), by decide +kernel, by decide +kernel, by decide +kernel, by decide +kernel, rfl⟩
theorem mt122 : vOf 122 = true → mtP 122 := fun _ => ⟨tb 67 (by decide +kernel), tb 35 (by decide +kernel), by decide +kernel, by decide +kernel, by decide +kernel, by decide +kernel, rfl⟩
theorem mt123 : vOf 123 = true → mtP 123 := fun _ => ⟨tb 495 (by decide +kernel), tb 35 (by decide +kernel), by decide +kernel, by decide +kernel, by decide +kernel, by decide +kernel, rfl⟩
theorem mt124 : vOf 124 = true → mtP 124 := fun _ => ⟨tb 506 (by decide +kernel), tb 35 (by decide +kernel), by decide +kernel, by decide +kernel, by decide +kernel, by decide +kernel, rfl⟩
theorem mt125 : vOf 125 = true → mtP 125 := fun _ => ⟨tb 514 (by decide +kernel), tb 35 (by decide +kernel), by decide +kernel, by decide +kernel, by decide +kernel, by decide +kernel, rfl⟩
theorem mt126 : vOf 126 = true → mtP 126 := fun _ => ⟨tb 523 (by decide +kernel), tb 35 (by decide +kernel), by decide +kernel, by decide +kernel, by decide +kernel, by decide +kernel, rfl⟩
theorem mt132 : vOf 132 = true → mtP 132 := fun _ => ⟨tb 738 (by decide +kernel), tb 35 (by decide +kernel), by decide +kernel, by decide +kernel, by decide +kernel, by decide +kernel, rfl⟩
theorem mt133 : vOf 133 = true → mtP 133 := fun _ => ⟨tb 750 (by decide +kernel), tb 35 (by decide +kernel), by decide +kernel, by decide +kernel, by decide +kernel, by decide +kernel, rfl⟩
theorem mt135 : vOf 135 = true → mtP 135 := fun _ => ⟨tb 1162 (by decide +kernel), tb 35 (by decide +kernel), by decide +kernel, by decide +kernel, by decide +kernel, by decide +kernel, rfl⟩
theorem mt136 : vOf 136 = true → mtP 136 := fun _ => ⟨tb 1170 (by decide +kernel), tb 35 (by decide +kernel), by decide +kernel, by decide +kernel, by decide +kernel, by decide +kernel, rfl⟩
theorem mt137 : vOf 137 = true → mtP 137 := fun _ => ⟨tb 528 (by decide +kernel), tb 35 (by decide +kernel), by decide +kernel, by decide +kernel, by decide +kernel, by decide +kernel, rfl⟩
theorem mt138 : vOf 138 = true → mtP 138 := fun _ => ⟨tb 568 (by decide +kernel), tb 35 (by decide +kernel), by decide +kernel, by decide +kernel, by decide +kernel, by decide +kernel, rfl⟩
theorem mt140 : vOf 140 = true → mtP 140 := fun _ => ⟨tb 572 (by decide +kernel), tb 35 (by decide +kernel), by decide +kernel, by decide +kernel, by decide +kernel, by decide +kernel, rfl⟩
theorem mt142 : vOf 142 = true → mtP 142 := fun _ => ⟨tb 587 (by decide +kernel), tb 35 (by decide +kernel), by decide +kernel, by decide +kernel, by decide +kernel, by decide +kernel, rfl⟩
theorem mt143 : vOf 143 = true → mtP 143 := fun _ => ⟨tb 596 (by decide +kernel), tb 35 (by decide +kernel), by decide +kernel, by decide +kernel, by decide +kernel, by decide +kernel, rfl⟩
theorem mt144 : vOf 144 = true → mtP 144 := fun _ => ⟨tb 606 (by decide +kernel), tb 35 (by decide +kernel), by decide +kernel, by decide +kernel, by decide +kernel, by decide +kernel, rfl⟩
theorem mt145 : vOf 145 = true → mtP 145 := fun _ => ⟨tb 610 (by decide +kernel), tb 35 (by decide +kernel), by decide +kernel, by decide +kernel, by decide +kernel, by decide +kernel, rfl⟩
theorem mt146 : vOf 146 = true → mtP 146 := fun _ => ⟨tb 614 (by decide +kernel), tb 35 (by decide +kernel), by decide +kernel, by decide +kernel, by decide +kernel, by decide +kernel, rfl⟩
theorem mt147 : vOf 147 = true → mtP 147 := fun _ => ⟨tb 617 (by decide +kernel), tb 35 (by decide +kernel), by decide +kernel, by decide +kernel, by decide +kernel, by decide +kernel, rfl⟩
theorem mt148 : vOf 148 = true → mtP 148 := fun _ => ⟨tb 653 (by decide +kernel), tb 35 (by decide +kernel), by decide +kernel, by decide +kernel, by decide +kernel, by decide +kernel, rfl⟩
theorem mt149 : vOf 149 = true → mtP 149 := fun _ => ⟨tb 657 (by decide +kernel), tb 35 (by decide +kernel), by decide +kernel, by decide +kernel, by decide +kernel, by decide +kernel, rfl⟩
theorem mt150 : vOf 150 = true → mtP 150 := fun _ => ⟨tb 709 (by decide +kernel), tb 35 (by decide +kernel), by decide +kernel, by decide +kernel, by decide +kernel, by decide +kernel, rfl⟩
theorem mt155 : vOf 155 = true → mtP 155 := fun _ => ⟨tb 717 (by decide +kernel), tb 35 (by decide +kernel), by decide +kernel, by decide +kernel, by decide +kernel, by decide +kernel, rfl⟩
theorem mt156 : vOf 156 = true → mtP 156 := fun _ => ⟨tb 734 (by decide +kernel), tb 35 (by decide +kernel), by decide +kernel, by decide +kernel, by decide +kernel, by decide +kernel, rfl⟩
theorem mt161 : vOf 161 = true → mtP 161 := fun _ => ⟨tb 754 (by decide +kernel), tb 35 (by decide +kernel), by decide +kernel, by decide +kernel, by decide +kernel, by decide +kernel, rfl⟩
theorem mt162 : vOf 162 = true → mtP 162 := fun _ => ⟨tb 766 (by decide +kernel), tb 35 (by decide +kernel), by decide +kernel, by decide +kernel, by decide +kernel, by decide +kernel, rfl⟩
theorem mt163 : vOf 163 = true → mtP 163 := fun _ => ⟨tb 781 (by decide +kernel), tb 35 (by decide +kernel), by decide +kernel, by decide +kernel, by decide +kernel, by decide +kernel, rfl⟩
theorem mt164 : vOf 164 = true → mtP 164 := fun _ => ⟨tb 789 (by decide +kernel), tb 35 (by decide +kernel), by decide +kernel, by decide +kernel, by decide +kernel, by decide +kernel, rfl⟩
theorem mt168 : vOf 168 = true → mtP 168 := fun _ => ⟨tb 806 (by decide +kernel), tb 35 (by decide +kernel), by decide +kernel, by decide +kernel, by decide +kernel, by decide +kernel, rfl⟩
theorem mt171 : vOf 171 = true → mtP 171 := fun _ => ⟨tb 802 (by decide +kernel), tb 35 (by decide +kernel), by decide +kernel, by decide +kernel, by decide +kernel, by decide +kernel, rfl⟩
theorem mt172 : vOf 172 = true → mtP 172 := fun _ => ⟨tb 831 (by decide +kernel), tb 35 (by decide +kernel), by decide +kernel, by decide +kernel, by decide +kernel, by decide +kernel, rfl⟩
theorem mt173 : vOf 173 = true → mtP 173 := fun _ => ⟨tb 834 (by decide +kernel), tb 35 (by decide +kernel), by decide +kernel, by decide +kernel, by decide +kernel, by decide +kernel, rfl⟩
theorem mt174 : vOf 174 = true → mtP 174 := fun _ => ⟨tb 859 (by decide +kernel), tb 35 (by decide +kernel), by decide +kernel, by decide +kernel, by decide +kernel, by decide +kernel, rfl⟩
theorem mt175 : vOf 175 = true → mtP 175 := fun _ => ⟨tb 867 (by decide +kernel), tb 35 (by decide +kernel), by decide +kernel, by decide +kernel, by decide +kernel, by decide +kernel, rfl⟩
theorem mt176 : vOf 176 = true → mtP 176 := fun _ => ⟨tb 883 (by decide +kernel), tb 35 (by decide +kernel), by decide +kernel, by decide +kernel, by decide +kernel, by decide +kernel, rfl⟩
theorem mt177 : vOf 177 = true → mtP 177 := fun _ => ⟨tb 893 (by decide +kernel), tb 35 (by decide +kernel), by decide +kernel, by decide +kernel, by decide +kernel, by decide +kernel, rfl⟩
theorem mt178 : vOf 178 = true → mtP 178 := fun _ => ⟨tb 924 (by decide +kernel), tb 35 (by decide +kernel), by decide +kernel, by decide +kernel, by decide +kernel, by decide +kernel, rfl⟩
theorem mt180 : vOf 180 = true → mtP 180 := fun _ => ⟨tb 990 (by decide +kernel), tb 35 (by decide +kernel), by decide +kernel, by decide +kernel, by decide +kernel, by decide +kernel, rfl⟩
theorem mt181 : vOf 181 = true → mtP 181 := fun _ => ⟨tb 999 (by decide +kernel), tb 35 (by decide +kernel), by decide +kernel, by decide +kernel, by decide +kernel, by decide +kernel, rfl⟩
theorem mt182 : vOf 182 = true → mtP 182 := fun _ => ⟨tb 1016 (by decide +kernel), tb 35 (by decide +kernel), by decide +kernel, by decide +kernel, by decide +kernel, by decide +kernel, rfl⟩
theorem mt184 : vOf 184 = true → mtP 184 := fun _ => ⟨tb 1035 (by decide +kernel), tb 35 (by decide +kernel), by decide +kernel, by decide +kernel, by decide +kernel, by decide +kernel, rfl⟩
theorem mt185 : vOf 185 = true → mtP 185 := fun _ => ⟨tb 1039 (by decide +kernel), tb 35 (by decide +kernel), by decide +kernel, by decide +kernel, by decide +kernel, by decide +kernel, rfl⟩
theorem mt187 : vOf 187 = true → mtP 187 := fun _ => ⟨tb 1043 (by decide +kernel), tb 35 (by decide +kernel), by decide +kernel, by decide +kernel, by decide +kernel, by decide +kernel, rfl⟩
theorem mt188 : vOf 188 = true → mtP 188 := fun _ => ⟨tb 1107 (by decide +kernel), tb 34 (by decide +kernel), by decide +kernel, by decide +kernel, by decide +kernel, by decide +kernel, rfl⟩
theorem mt189 : vOf 189 = true → mtP 189 := fun _ => ⟨tb 1403 (by decide +kernel), tb 34 (by decide +kernel), by decide +kernel, by decide +kernel, by decide +kernel, by decide +kernel, rfl⟩
theorem mt190 : vOf 190 = true → mtP 190 := fun _ => ⟨tb 1245 (by decide +kernel), tb 47 (by decide +kernel), by decide +kernel, by decide +kernel, by decide +kernel, by decide +kernel, rfl⟩
theorem mt304 : vOf 304 = true → mtP 304 := fun _ => ⟨tb 443 (by decide +kernel), tb 47 (by decide +kernel), by decide +kernel, by decide +kernel, by decide +kernel, by decide +kernel, rfl⟩
theorem mt305 : vOf 305 = true → mtP 305 := fun _ => ⟨tb 560 (by decide +kernel), tb 47 (by decide +kernel), by decide +kernel, by decide +kernel, by decide +kernel, by decide +kernel, rfl⟩
theorem mt306 : vOf 306 = true → mtP 306 := fun _ => ⟨tb 774 (by decide +kernel), tb 58 (by decide +kernel), by decide +kernel, by decide +kernel, by decide +kernel, by decide +kernel, rfl⟩
theorem mt_no {t : Nat} (h : vOf t = false) : vOf t = true → mtP t := fun q => by rw [h] at q; cases q
set_option maxRecDepth 100000 in
theorem MT_ok : ∀ t, t < 307 → vOf t = true → mtP t := fun t h => by
  have e : allP (fun t => vOf t = true → mtP t) (List.range 307) := ⟨mt0, mt1, mt2, mt3, mt4, mt5, mt6, mt7, mt8, mt9, mt10, mt11, mt12, mt13, mt14, mt_no rfl, mt_no rfl, mt17, mt18, mt19, mt20, mt21, mt22, mt23, mt24, mt25, mt26, mt27, mt28, mt29, mt30, mt31, mt32, mt33, mt34, mt35, mt36, mt37, mt38, mt39, mt40, mt41, mt42, mt43, mt44, mt45, mt46, mt47, mt_no rfl, mt_no rfl, mt50, mt51, mt52, mt53, mt54, mt55, mt56, mt57, mt58, mt59, mt_no rfl, mt_no rfl, mt_no rfl, mt63, mt_no rfl, mt65, mt66, mt67, mt68, mt69, mt70, mt71, mt_no rfl, mt_no rfl, mt74, mt75, mt76, mt77, mt78, mt79, mt80, mt81, mt82, mt83, mt84, mt85, mt86, mt87, mt88, mt89, mt90, mt91, mt92, mt93, mt94, mt95, mt96, mt97, mt98, mt99, mt100, mt101, mt102, mt_no rfl, mt104, mt105, mt106, mt107, mt108, mt109, mt110, mt111, mt112, mt113, mt114, mt115, mt116, mt_no rfl, mt_no rfl, mt_no rfl, mt_no rfl, mt_no rfl, mt122, mt123, mt124, mt125, mt126, mt_no rfl, mt_no rfl, mt_no rfl, mt_no rfl, mt_no rfl, mt132, mt133, mt_no rfl, mt135, mt136, mt137, mt138, mt_no rfl, mt140, mt_no rfl, mt142, mt143, mt144, mt145, mt146, mt147, mt148, mt149, mt150, mt_no rfl, mt_no rfl, mt_no rfl, mt_no rfl, mt155, mt156, mt_no rfl, mt_no rfl, mt_no rfl, mt_no rfl, mt161, mt162, mt163, mt164, mt_no rfl, mt_no rfl, mt_no rfl, mt168, mt_no rfl, mt_no rfl, mt171, mt172, mt173, mt174, mt175, mt176, mt177, mt178, mt_no rfl, mt180, mt181, mt182, mt_no rfl, mt184, mt185, mt_no rfl, mt187, mt188, mt189, mt190, mt_no rfl, mt_no rfl, mt_no rfl, mt_no rfl, mt_no rfl, mt_no rfl, mt_no rfl, mt_no rfl, mt_no rfl, mt_no rfl, mt_no rfl, mt_no rfl, mt_no rfl, mt_no rfl, mt_no rfl, mt_no rfl, mt_no rfl, mt_no rfl, mt_no rfl, mt_no rfl, mt_no rfl, mt_no rfl, mt_no rfl, mt_no rfl, mt_no rfl, mt_no rfl, mt_no rfl, mt_no rfl, mt_no rfl, mt_no rfl, mt_no rfl, mt_no rfl, mt_no rfl, mt_no rfl, mt_no rfl, mt_no rfl, mt_no rfl, mt_no rfl, mt_no rfl, mt_no rfl, mt_no rfl, mt_no rfl, mt_no rfl, mt_no rfl, mt_no rfl, mt_no rfl, mt_no rfl, mt_no rfl, mt_no rfl, mt_no rfl, mt_no rfl, mt_no rfl, mt_no rfl, mt_no rfl, mt_no rfl, mt_no rfl, mt_no rfl, mt_no rfl, mt_no rfl, mt_no rfl, mt_no rfl, mt_no rfl, mt_no rfl, mt_no rfl, mt_no rfl, mt_no rfl, mt_no rfl, mt_no rfl, mt_no rfl, mt_no rfl, mt_no rfl, mt_no rfl, mt_no rfl, mt_no rfl, mt_no rfl, mt_no rfl, mt_no rfl, mt_no rfl, mt_no rfl, mt_no rfl, mt_no rfl, mt_no rfl, mt_no rfl, mt_no rfl, mt_no rfl, mt_no rfl, mt_no rfl, mt_no rfl, mt_no rfl, mt_no rfl, mt_no rfl, mt_no rfl, mt_no rfl, mt_no rfl, mt_no rfl, mt_no rfl, mt_no rfl, mt_no rfl, mt_no rfl, mt_no rfl, mt_no rfl, mt_no rfl, mt_no rfl, mt_no rfl, mt_no rfl, mt_no rfl, mt_no rfl, mt_no rfl, mt_no rfl, mt_no rfl, mt_no rfl, mt_no rfl, mt_no rfl, mt304, mt305, mt306, trivial⟩
  exact allP_at e t t (by rw [List.getElem?_range h])
/-- the words that stay, whatever is linked -/
def gw_tbl : List Cond := lw_tbl.filter goodWord
theorem gw_In : GoodIn gw_tbl gw_tbl := fun w h => ⟨h, good_of_word (List.mem_filter.mp h).2⟩
theorem gw {w : Cond} (h : w ∈ lw_tbl) (hg : goodWord w = true) : w ∈ gw_tbl := List.mem_filter.mpr ⟨h, hg⟩
theorem cls_gw : ∀ ci, ci < 13 → ∀ w ∈ u_ws (cN ci) (cT ci) (cZ ci), w ∈ gw_tbl := by
  intro ci h w hw
  refine gw (cls_in ci h w hw) ?_
  obtain ⟨k, -, rfl⟩ := List.mem_map.mp hw
  unfold u_lay
  split <;> rfl
theorem tb_oi : Cond.instanceMethod Lib.objectInit ∈ lw_tbl ∧ Cond.code Lib.objectInit ⟨#[0xb1]⟩ 1 none ∈ lw_tbl := ⟨tb 69 (by decide +kernel), tb 70 (by decide +kernel)⟩
theorem tb_ai : Cond.arrayClass .int ∈ lw_tbl ∧ Cond.arrayClass .long ∈ lw_tbl ∧ Cond.arrayClass .byte ∈ lw_tbl ∧ Cond.arrayOver (.object "SkewRings$Poly") ∈ lw_tbl := ⟨tb 118 (by decide +kernel), tb 491 (by decide +kernel), tb 1208 (by decide +kernel), tb 247 (by decide +kernel)⟩
