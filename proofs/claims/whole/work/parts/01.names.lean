-- ===== PART A: goes FIRST, ahead of the names: the tables' words, and 'selects' of the private methods out of them =====
/-- a private method of a class that the tables say can be made, by its rows of tables_1 -/
def lw_okq (q : MethodName × Nat) : Prop := (q.1.cls ≠ "java/lang/invoke/MethodHandle" ∧ q.1.cls ≠ "java/lang/invoke/VarHandle") ∧ Cond.instantiable q.1.cls q.2 ∈ tables_1 ∧ Cond.privateMethod q.1 ∈ tables_1 ∧ Cond.instanceMethod q.1 ∈ tables_1
theorem lw_p0 : lw_okq (⟨"SkewRings$Field", "fillTables", "()V"⟩, 9) := ⟨⟨by decide +kernel, by decide +kernel⟩, List.mem_of_getElem? (i := 29) (by decide +kernel), List.mem_of_getElem? (i := 368) (by decide +kernel), List.mem_of_getElem? (i := 369) (by decide +kernel)⟩
theorem lw_p1 : lw_okq (⟨"SkewRings$Field", "fillSums", "()V"⟩, 9) := ⟨⟨by decide +kernel, by decide +kernel⟩, List.mem_of_getElem? (i := 29) (by decide +kernel), List.mem_of_getElem? (i := 372) (by decide +kernel), List.mem_of_getElem? (i := 373) (by decide +kernel)⟩
theorem lw_p2 : lw_okq (⟨"SkewRings$Field", "fillProducts", "()V"⟩, 9) := ⟨⟨by decide +kernel, by decide +kernel⟩, List.mem_of_getElem? (i := 29) (by decide +kernel), List.mem_of_getElem? (i := 383) (by decide +kernel), List.mem_of_getElem? (i := 384) (by decide +kernel)⟩
theorem lw_p3 : lw_okq (⟨"SkewRings$Field", "timesW", "(I)I"⟩, 9) := ⟨⟨by decide +kernel, by decide +kernel⟩, List.mem_of_getElem? (i := 29) (by decide +kernel), List.mem_of_getElem? (i := 391) (by decide +kernel), List.mem_of_getElem? (i := 392) (by decide +kernel)⟩
theorem lw_p4 : lw_okq (⟨"SkewRings$Field", "powered", "(I)I"⟩, 9) := ⟨⟨by decide +kernel, by decide +kernel⟩, List.mem_of_getElem? (i := 29) (by decide +kernel), List.mem_of_getElem? (i := 406) (by decide +kernel), List.mem_of_getElem? (i := 407) (by decide +kernel)⟩
theorem lw_p5 : lw_okq (⟨"SkewRings", "placeAt", "(I)LSkewRings$Poly;"⟩, 14) := ⟨⟨by decide +kernel, by decide +kernel⟩, List.mem_of_getElem? (i := 21) (by decide +kernel), List.mem_of_getElem? (i := 465) (by decide +kernel), List.mem_of_getElem? (i := 466) (by decide +kernel)⟩
theorem lw_p6 : lw_okq (⟨"SkewRings", "startRow", "()V"⟩, 14) := ⟨⟨by decide +kernel, by decide +kernel⟩, List.mem_of_getElem? (i := 21) (by decide +kernel), List.mem_of_getElem? (i := 528) (by decide +kernel), List.mem_of_getElem? (i := 529) (by decide +kernel)⟩
theorem lw_p7 : lw_okq (⟨"SkewRings", "tell", "(J)V"⟩, 14) := ⟨⟨by decide +kernel, by decide +kernel⟩, List.mem_of_getElem? (i := 21) (by decide +kernel), List.mem_of_getElem? (i := 538) (by decide +kernel), List.mem_of_getElem? (i := 539) (by decide +kernel)⟩
theorem lw_p8 : lw_okq (⟨"SkewRings$Text", "readNumber", "(I)I"⟩, 7) := ⟨⟨by decide +kernel, by decide +kernel⟩, List.mem_of_getElem? (i := 333) (by decide +kernel), List.mem_of_getElem? (i := 571) (by decide +kernel), List.mem_of_getElem? (i := 572) (by decide +kernel)⟩
theorem lw_p9 : lw_okq (⟨"SkewRings$Text", "isDigit", "(I)Z"⟩, 7) := ⟨⟨by decide +kernel, by decide +kernel⟩, List.mem_of_getElem? (i := 333) (by decide +kernel), List.mem_of_getElem? (i := 575) (by decide +kernel), List.mem_of_getElem? (i := 576) (by decide +kernel)⟩
theorem lw_p10 : lw_okq (⟨"SkewRings$Text", "signAt", "(I)I"⟩, 7) := ⟨⟨by decide +kernel, by decide +kernel⟩, List.mem_of_getElem? (i := 333) (by decide +kernel), List.mem_of_getElem? (i := 579) (by decide +kernel), List.mem_of_getElem? (i := 580) (by decide +kernel)⟩
theorem lw_p11 : lw_okq (⟨"SkewRings", "divided", "(IIIIZ)I"⟩, 14) := ⟨⟨by decide +kernel, by decide +kernel⟩, List.mem_of_getElem? (i := 21) (by decide +kernel), List.mem_of_getElem? (i := 669) (by decide +kernel), List.mem_of_getElem? (i := 670) (by decide +kernel)⟩
theorem lw_p12 : lw_okq (⟨"SkewRings$Ring", "takeAhead", "(LSkewRings$Poly;IILSkewRings$Poly;)V"⟩, 6) := ⟨⟨by decide +kernel, by decide +kernel⟩, List.mem_of_getElem? (i := 77) (by decide +kernel), List.mem_of_getElem? (i := 685) (by decide +kernel), List.mem_of_getElem? (i := 686) (by decide +kernel)⟩
theorem lw_p13 : lw_okq (⟨"SkewRings$Ring", "takeBehind", "(LSkewRings$Poly;IILSkewRings$Poly;)V"⟩, 6) := ⟨⟨by decide +kernel, by decide +kernel⟩, List.mem_of_getElem? (i := 77) (by decide +kernel), List.mem_of_getElem? (i := 689) (by decide +kernel), List.mem_of_getElem? (i := 690) (by decide +kernel)⟩
theorem lw_p14 : lw_okq (⟨"SkewRings$Euclid", "lessProduct", "(LSkewRings$Poly;LSkewRings$Poly;ILSkewRings$Poly;)V"⟩, 7) := ⟨⟨by decide +kernel, by decide +kernel⟩, List.mem_of_getElem? (i := 123) (by decide +kernel), List.mem_of_getElem? (i := 717) (by decide +kernel), List.mem_of_getElem? (i := 718) (by decide +kernel)⟩
theorem lw_p15 : lw_okq (⟨"SkewRings$Euclid", "turnLines", "()V"⟩, 7) := ⟨⟨by decide +kernel, by decide +kernel⟩, List.mem_of_getElem? (i := 123) (by decide +kernel), List.mem_of_getElem? (i := 727) (by decide +kernel), List.mem_of_getElem? (i := 728) (by decide +kernel)⟩
def lw_privs_1 : List (MethodName × Nat) := [(⟨"SkewRings$Field", "fillTables", "()V"⟩, 9), (⟨"SkewRings$Field", "fillSums", "()V"⟩, 9), (⟨"SkewRings$Field", "fillProducts", "()V"⟩, 9), (⟨"SkewRings$Field", "timesW", "(I)I"⟩, 9), (⟨"SkewRings$Field", "powered", "(I)I"⟩, 9), (⟨"SkewRings", "placeAt", "(I)LSkewRings$Poly;"⟩, 14), (⟨"SkewRings", "startRow", "()V"⟩, 14), (⟨"SkewRings", "tell", "(J)V"⟩, 14), (⟨"SkewRings$Text", "readNumber", "(I)I"⟩, 7), (⟨"SkewRings$Text", "isDigit", "(I)Z"⟩, 7), (⟨"SkewRings$Text", "signAt", "(I)I"⟩, 7), (⟨"SkewRings", "divided", "(IIIIZ)I"⟩, 14), (⟨"SkewRings$Ring", "takeAhead", "(LSkewRings$Poly;IILSkewRings$Poly;)V"⟩, 6), (⟨"SkewRings$Ring", "takeBehind", "(LSkewRings$Poly;IILSkewRings$Poly;)V"⟩, 6), (⟨"SkewRings$Euclid", "lessProduct", "(LSkewRings$Poly;LSkewRings$Poly;ILSkewRings$Poly;)V"⟩, 7), (⟨"SkewRings$Euclid", "turnLines", "()V"⟩, 7)]
theorem lw_r1 : ∀ q ∈ lw_privs_1, lw_okq q := List.forall_mem_cons.mpr ⟨lw_p0, List.forall_mem_cons.mpr ⟨lw_p1, List.forall_mem_cons.mpr ⟨lw_p2, List.forall_mem_cons.mpr ⟨lw_p3, List.forall_mem_cons.mpr ⟨lw_p4, List.forall_mem_cons.mpr ⟨lw_p5, List.forall_mem_cons.mpr ⟨lw_p6, List.forall_mem_cons.mpr ⟨lw_p7, List.forall_mem_cons.mpr ⟨lw_p8, List.forall_mem_cons.mpr ⟨lw_p9, List.forall_mem_cons.mpr ⟨lw_p10, List.forall_mem_cons.mpr ⟨lw_p11, List.forall_mem_cons.mpr ⟨lw_p12, List.forall_mem_cons.mpr ⟨lw_p13, List.forall_mem_cons.mpr ⟨lw_p14, List.forall_mem_cons.mpr ⟨lw_p15, fun _ h => absurd h List.not_mem_nil⟩⟩⟩⟩⟩⟩⟩⟩⟩⟩⟩⟩⟩⟩⟩⟩
theorem lw_p16 : lw_okq (⟨"SkewRings$Text", "readCouple", "(I)Z"⟩, 7) := ⟨⟨by decide +kernel, by decide +kernel⟩, List.mem_of_getElem? (i := 333) (by decide +kernel), List.mem_of_getElem? (i := 841) (by decide +kernel), List.mem_of_getElem? (i := 842) (by decide +kernel)⟩
theorem lw_p17 : lw_okq (⟨"SkewRings$Text", "isPoint", "(I)Z"⟩, 7) := ⟨⟨by decide +kernel, by decide +kernel⟩, List.mem_of_getElem? (i := 333) (by decide +kernel), List.mem_of_getElem? (i := 845) (by decide +kernel), List.mem_of_getElem? (i := 846) (by decide +kernel)⟩
theorem lw_p18 : lw_okq (⟨"SkewRings$Values", "vanishAlso", "(LSkewRings$Poly;I)Z"⟩, 5) := ⟨⟨by decide +kernel, by decide +kernel⟩, List.mem_of_getElem? (i := 174) (by decide +kernel), List.mem_of_getElem? (i := 876) (by decide +kernel), List.mem_of_getElem? (i := 877) (by decide +kernel)⟩
theorem lw_p19 : lw_okq (⟨"SkewRings", "isSet", "(I)Z"⟩, 14) := ⟨⟨by decide +kernel, by decide +kernel⟩, List.mem_of_getElem? (i := 21) (by decide +kernel), List.mem_of_getElem? (i := 948) (by decide +kernel), List.mem_of_getElem? (i := 949) (by decide +kernel)⟩
theorem lw_p20 : lw_okq (⟨"SkewRings$Divisors", "tries", "(II)I"⟩, 10) := ⟨⟨by decide +kernel, by decide +kernel⟩, List.mem_of_getElem? (i := 198) (by decide +kernel), List.mem_of_getElem? (i := 983) (by decide +kernel), List.mem_of_getElem? (i := 984) (by decide +kernel)⟩
theorem lw_p21 : lw_okq (⟨"SkewRings$Divisors", "hits", "(LSkewRings$Poly;IILSkewRings$Poly;LSkewRings$Poly;)Z"⟩, 10) := ⟨⟨by decide +kernel, by decide +kernel⟩, List.mem_of_getElem? (i := 198) (by decide +kernel), List.mem_of_getElem? (i := 987) (by decide +kernel), List.mem_of_getElem? (i := 988) (by decide +kernel)⟩
theorem lw_p22 : lw_okq (⟨"SkewRings$Divisors", "waysFrom", "(LSkewRings$Poly;I)I"⟩, 10) := ⟨⟨by decide +kernel, by decide +kernel⟩, List.mem_of_getElem? (i := 198) (by decide +kernel), List.mem_of_getElem? (i := 1027) (by decide +kernel), List.mem_of_getElem? (i := 1028) (by decide +kernel)⟩
theorem lw_p23 : lw_okq (⟨"SkewRings$Likeness", "linearKin", "(LSkewRings$Poly;)I"⟩, 12) := ⟨⟨by decide +kernel, by decide +kernel⟩, List.mem_of_getElem? (i := 264) (by decide +kernel), List.mem_of_getElem? (i := 1043) (by decide +kernel), List.mem_of_getElem? (i := 1044) (by decide +kernel)⟩
theorem lw_p24 : lw_okq (⟨"SkewRings$Likeness", "quadraticKin", "(LSkewRings$Poly;)I"⟩, 12) := ⟨⟨by decide +kernel, by decide +kernel⟩, List.mem_of_getElem? (i := 264) (by decide +kernel), List.mem_of_getElem? (i := 1051) (by decide +kernel), List.mem_of_getElem? (i := 1052) (by decide +kernel)⟩
theorem lw_p25 : lw_okq (⟨"SkewRings$Likeness", "cross", "(IIII)I"⟩, 12) := ⟨⟨by decide +kernel, by decide +kernel⟩, List.mem_of_getElem? (i := 264) (by decide +kernel), List.mem_of_getElem? (i := 1055) (by decide +kernel), List.mem_of_getElem? (i := 1056) (by decide +kernel)⟩
theorem lw_p26 : lw_okq (⟨"SkewRings$Likeness", "gather", "(LSkewRings$Poly;LSkewRings$Poly;)V"⟩, 12) := ⟨⟨by decide +kernel, by decide +kernel⟩, List.mem_of_getElem? (i := 264) (by decide +kernel), List.mem_of_getElem? (i := 1069) (by decide +kernel), List.mem_of_getElem? (i := 1070) (by decide +kernel)⟩
theorem lw_p27 : lw_okq (⟨"SkewRings$Span", "writeDigits", "(LSkewRings$Poly;I)V"⟩, 6) := ⟨⟨by decide +kernel, by decide +kernel⟩, List.mem_of_getElem? (i := 239) (by decide +kernel), List.mem_of_getElem? (i := 1086) (by decide +kernel), List.mem_of_getElem? (i := 1087) (by decide +kernel)⟩
theorem lw_p28 : lw_okq (⟨"SkewRings$Span", "take", "([IIII)V"⟩, 6) := ⟨⟨by decide +kernel, by decide +kernel⟩, List.mem_of_getElem? (i := 239) (by decide +kernel), List.mem_of_getElem? (i := 1097) (by decide +kernel), List.mem_of_getElem? (i := 1098) (by decide +kernel)⟩
theorem lw_p29 : lw_okq (⟨"SkewRings$Span", "settles", "()Z"⟩, 6) := ⟨⟨by decide +kernel, by decide +kernel⟩, List.mem_of_getElem? (i := 239) (by decide +kernel), List.mem_of_getElem? (i := 1101) (by decide +kernel), List.mem_of_getElem? (i := 1102) (by decide +kernel)⟩
theorem lw_p30 : lw_okq (⟨"SkewRings$Span", "multiply", "([III)V"⟩, 6) := ⟨⟨by decide +kernel, by decide +kernel⟩, List.mem_of_getElem? (i := 239) (by decide +kernel), List.mem_of_getElem? (i := 1105) (by decide +kernel), List.mem_of_getElem? (i := 1106) (by decide +kernel)⟩
theorem lw_p31 : lw_okq (⟨"SkewRings$Likeness", "addToBase", "(I)V"⟩, 12) := ⟨⟨by decide +kernel, by decide +kernel⟩, List.mem_of_getElem? (i := 264) (by decide +kernel), List.mem_of_getElem? (i := 1109) (by decide +kernel), List.mem_of_getElem? (i := 1110) (by decide +kernel)⟩
def lw_privs_2 : List (MethodName × Nat) := [(⟨"SkewRings$Text", "readCouple", "(I)Z"⟩, 7), (⟨"SkewRings$Text", "isPoint", "(I)Z"⟩, 7), (⟨"SkewRings$Values", "vanishAlso", "(LSkewRings$Poly;I)Z"⟩, 5), (⟨"SkewRings", "isSet", "(I)Z"⟩, 14), (⟨"SkewRings$Divisors", "tries", "(II)I"⟩, 10), (⟨"SkewRings$Divisors", "hits", "(LSkewRings$Poly;IILSkewRings$Poly;LSkewRings$Poly;)Z"⟩, 10), (⟨"SkewRings$Divisors", "waysFrom", "(LSkewRings$Poly;I)I"⟩, 10), (⟨"SkewRings$Likeness", "linearKin", "(LSkewRings$Poly;)I"⟩, 12), (⟨"SkewRings$Likeness", "quadraticKin", "(LSkewRings$Poly;)I"⟩, 12), (⟨"SkewRings$Likeness", "cross", "(IIII)I"⟩, 12), (⟨"SkewRings$Likeness", "gather", "(LSkewRings$Poly;LSkewRings$Poly;)V"⟩, 12), (⟨"SkewRings$Span", "writeDigits", "(LSkewRings$Poly;I)V"⟩, 6), (⟨"SkewRings$Span", "take", "([IIII)V"⟩, 6), (⟨"SkewRings$Span", "settles", "()Z"⟩, 6), (⟨"SkewRings$Span", "multiply", "([III)V"⟩, 6), (⟨"SkewRings$Likeness", "addToBase", "(I)V"⟩, 12)]
theorem lw_r2 : ∀ q ∈ lw_privs_2, lw_okq q := List.forall_mem_cons.mpr ⟨lw_p16, List.forall_mem_cons.mpr ⟨lw_p17, List.forall_mem_cons.mpr ⟨lw_p18, List.forall_mem_cons.mpr ⟨lw_p19, List.forall_mem_cons.mpr ⟨lw_p20, List.forall_mem_cons.mpr ⟨lw_p21, List.forall_mem_cons.mpr ⟨lw_p22, List.forall_mem_cons.mpr ⟨lw_p23, List.forall_mem_cons.mpr ⟨lw_p24, List.forall_mem_cons.mpr ⟨lw_p25, List.forall_mem_cons.mpr ⟨lw_p26, List.forall_mem_cons.mpr ⟨lw_p27, List.forall_mem_cons.mpr ⟨lw_p28, List.forall_mem_cons.mpr ⟨lw_p29, List.forall_mem_cons.mpr ⟨lw_p30, List.forall_mem_cons.mpr ⟨lw_p31, fun _ h => absurd h List.not_mem_nil⟩⟩⟩⟩⟩⟩⟩⟩⟩⟩⟩⟩⟩⟩⟩⟩
theorem lw_p32 : lw_okq (⟨"SkewRings$Likeness", "advance", "()V"⟩, 12) := ⟨⟨by decide +kernel, by decide +kernel⟩, List.mem_of_getElem? (i := 264) (by decide +kernel), List.mem_of_getElem? (i := 1117) (by decide +kernel), List.mem_of_getElem? (i := 1118) (by decide +kernel)⟩
theorem lw_p33 : lw_okq (⟨"SkewRings$Centre", "becomeCentral", "(LSkewRings$Poly;II)V"⟩, 4) := ⟨⟨by decide +kernel, by decide +kernel⟩, List.mem_of_getElem? (i := 311) (by decide +kernel), List.mem_of_getElem? (i := 1165) (by decide +kernel), List.mem_of_getElem? (i := 1166) (by decide +kernel)⟩
theorem lw_p34 : lw_okq (⟨"SkewRings", "placesInUse", "()I"⟩, 14) := ⟨⟨by decide +kernel, by decide +kernel⟩, List.mem_of_getElem? (i := 21) (by decide +kernel), List.mem_of_getElem? (i := 1190) (by decide +kernel), List.mem_of_getElem? (i := 1191) (by decide +kernel)⟩
theorem lw_p35 : lw_okq (⟨"java/lang/Throwable", "fillInStackTrace", "(I)Ljava/lang/Throwable;"⟩, 6) := ⟨⟨by decide +kernel, by decide +kernel⟩, List.mem_of_getElem? (i := 1238) (by decide +kernel), List.mem_of_getElem? (i := 1236) (by decide +kernel), List.mem_of_getElem? (i := 1237) (by decide +kernel)⟩
theorem lw_p36 : lw_okq (⟨"SkewRingsModel", "laysField", "(I)V"⟩, 46) := ⟨⟨by decide +kernel, by decide +kernel⟩, List.mem_of_getElem? (i := 1270) (by decide +kernel), List.mem_of_getElem? (i := 1276) (by decide +kernel), List.mem_of_getElem? (i := 1277) (by decide +kernel)⟩
theorem lw_p37 : lw_okq (⟨"SkewRingsModel", "powerOfP", "(I)I"⟩, 46) := ⟨⟨by decide +kernel, by decide +kernel⟩, List.mem_of_getElem? (i := 1270) (by decide +kernel), List.mem_of_getElem? (i := 1280) (by decide +kernel), List.mem_of_getElem? (i := 1281) (by decide +kernel)⟩
theorem lw_p38 : lw_okq (⟨"SkewRingsModel", "sumOf", "(II)I"⟩, 46) := ⟨⟨by decide +kernel, by decide +kernel⟩, List.mem_of_getElem? (i := 1270) (by decide +kernel), List.mem_of_getElem? (i := 1284) (by decide +kernel), List.mem_of_getElem? (i := 1285) (by decide +kernel)⟩
theorem lw_p39 : lw_okq (⟨"SkewRingsModel", "digit", "(II)I"⟩, 46) := ⟨⟨by decide +kernel, by decide +kernel⟩, List.mem_of_getElem? (i := 1270) (by decide +kernel), List.mem_of_getElem? (i := 1288) (by decide +kernel), List.mem_of_getElem? (i := 1289) (by decide +kernel)⟩
theorem lw_p40 : lw_okq (⟨"SkewRingsModel", "productOf", "(II)I"⟩, 46) := ⟨⟨by decide +kernel, by decide +kernel⟩, List.mem_of_getElem? (i := 1270) (by decide +kernel), List.mem_of_getElem? (i := 1292) (by decide +kernel), List.mem_of_getElem? (i := 1293) (by decide +kernel)⟩
theorem lw_p41 : lw_okq (⟨"SkewRingsModel", "shifted", "(I)I"⟩, 46) := ⟨⟨by decide +kernel, by decide +kernel⟩, List.mem_of_getElem? (i := 1270) (by decide +kernel), List.mem_of_getElem? (i := 1296) (by decide +kernel), List.mem_of_getElem? (i := 1297) (by decide +kernel)⟩
theorem lw_p42 : lw_okq (⟨"SkewRingsModel", "mul", "(II)I"⟩, 46) := ⟨⟨by decide +kernel, by decide +kernel⟩, List.mem_of_getElem? (i := 1270) (by decide +kernel), List.mem_of_getElem? (i := 1300) (by decide +kernel), List.mem_of_getElem? (i := 1301) (by decide +kernel)⟩
theorem lw_p43 : lw_okq (⟨"SkewRingsModel", "isNumber", "(I)Z"⟩, 46) := ⟨⟨by decide +kernel, by decide +kernel⟩, List.mem_of_getElem? (i := 1270) (by decide +kernel), List.mem_of_getElem? (i := 1468) (by decide +kernel), List.mem_of_getElem? (i := 1469) (by decide +kernel)⟩
theorem lw_p44 : lw_okq (⟨"SkewRingsModel", "add", "(II)I"⟩, 46) := ⟨⟨by decide +kernel, by decide +kernel⟩, List.mem_of_getElem? (i := 1270) (by decide +kernel), List.mem_of_getElem? (i := 1472) (by decide +kernel), List.mem_of_getElem? (i := 1473) (by decide +kernel)⟩
theorem lw_p45 : lw_okq (⟨"SkewRingsModel", "mapped", "(II)I"⟩, 46) := ⟨⟨by decide +kernel, by decide +kernel⟩, List.mem_of_getElem? (i := 1270) (by decide +kernel), List.mem_of_getElem? (i := 1490) (by decide +kernel), List.mem_of_getElem? (i := 1491) (by decide +kernel)⟩
theorem lw_p46 : lw_okq (⟨"SkewRingsModel", "normOf", "(II)I"⟩, 46) := ⟨⟨by decide +kernel, by decide +kernel⟩, List.mem_of_getElem? (i := 1270) (by decide +kernel), List.mem_of_getElem? (i := 1498) (by decide +kernel), List.mem_of_getElem? (i := 1499) (by decide +kernel)⟩
theorem lw_p47 : lw_okq (⟨"SkewRingsModel", "conjugatesOf", "(I)I"⟩, 46) := ⟨⟨by decide +kernel, by decide +kernel⟩, List.mem_of_getElem? (i := 1270) (by decide +kernel), List.mem_of_getElem? (i := 1506) (by decide +kernel), List.mem_of_getElem? (i := 1507) (by decide +kernel)⟩
def lw_privs_3 : List (MethodName × Nat) := [(⟨"SkewRings$Likeness", "advance", "()V"⟩, 12), (⟨"SkewRings$Centre", "becomeCentral", "(LSkewRings$Poly;II)V"⟩, 4), (⟨"SkewRings", "placesInUse", "()I"⟩, 14), (⟨"java/lang/Throwable", "fillInStackTrace", "(I)Ljava/lang/Throwable;"⟩, 6), (⟨"SkewRingsModel", "laysField", "(I)V"⟩, 46), (⟨"SkewRingsModel", "powerOfP", "(I)I"⟩, 46), (⟨"SkewRingsModel", "sumOf", "(II)I"⟩, 46), (⟨"SkewRingsModel", "digit", "(II)I"⟩, 46), (⟨"SkewRingsModel", "productOf", "(II)I"⟩, 46), (⟨"SkewRingsModel", "shifted", "(I)I"⟩, 46), (⟨"SkewRingsModel", "mul", "(II)I"⟩, 46), (⟨"SkewRingsModel", "isNumber", "(I)Z"⟩, 46), (⟨"SkewRingsModel", "add", "(II)I"⟩, 46), (⟨"SkewRingsModel", "mapped", "(II)I"⟩, 46), (⟨"SkewRingsModel", "normOf", "(II)I"⟩, 46), (⟨"SkewRingsModel", "conjugatesOf", "(I)I"⟩, 46)]
theorem lw_r3 : ∀ q ∈ lw_privs_3, lw_okq q := List.forall_mem_cons.mpr ⟨lw_p32, List.forall_mem_cons.mpr ⟨lw_p33, List.forall_mem_cons.mpr ⟨lw_p34, List.forall_mem_cons.mpr ⟨lw_p35, List.forall_mem_cons.mpr ⟨lw_p36, List.forall_mem_cons.mpr ⟨lw_p37, List.forall_mem_cons.mpr ⟨lw_p38, List.forall_mem_cons.mpr ⟨lw_p39, List.forall_mem_cons.mpr ⟨lw_p40, List.forall_mem_cons.mpr ⟨lw_p41, List.forall_mem_cons.mpr ⟨lw_p42, List.forall_mem_cons.mpr ⟨lw_p43, List.forall_mem_cons.mpr ⟨lw_p44, List.forall_mem_cons.mpr ⟨lw_p45, List.forall_mem_cons.mpr ⟨lw_p46, List.forall_mem_cons.mpr ⟨lw_p47, fun _ h => absurd h List.not_mem_nil⟩⟩⟩⟩⟩⟩⟩⟩⟩⟩⟩⟩⟩⟩⟩⟩
theorem lw_p48 : lw_okq (⟨"SkewRingsModel", "tell", "(J)V"⟩, 46) := ⟨⟨by decide +kernel, by decide +kernel⟩, List.mem_of_getElem? (i := 1270) (by decide +kernel), List.mem_of_getElem? (i := 1513) (by decide +kernel), List.mem_of_getElem? (i := 1514) (by decide +kernel)⟩
theorem lw_p49 : lw_okq (⟨"SkewRingsModel", "readNumbers", "([I)I"⟩, 46) := ⟨⟨by decide +kernel, by decide +kernel⟩, List.mem_of_getElem? (i := 1270) (by decide +kernel), List.mem_of_getElem? (i := 1525) (by decide +kernel), List.mem_of_getElem? (i := 1526) (by decide +kernel)⟩
theorem lw_p50 : lw_okq (⟨"SkewRingsModel", "readNumber", "()I"⟩, 46) := ⟨⟨by decide +kernel, by decide +kernel⟩, List.mem_of_getElem? (i := 1270) (by decide +kernel), List.mem_of_getElem? (i := 1532) (by decide +kernel), List.mem_of_getElem? (i := 1533) (by decide +kernel)⟩
theorem lw_p51 : lw_okq (⟨"SkewRingsModel", "here", "()I"⟩, 46) := ⟨⟨by decide +kernel, by decide +kernel⟩, List.mem_of_getElem? (i := 1270) (by decide +kernel), List.mem_of_getElem? (i := 1536) (by decide +kernel), List.mem_of_getElem? (i := 1537) (by decide +kernel)⟩
theorem lw_p52 : lw_okq (⟨"SkewRingsModel", "store", "([II)I"⟩, 46) := ⟨⟨by decide +kernel, by decide +kernel⟩, List.mem_of_getElem? (i := 1270) (by decide +kernel), List.mem_of_getElem? (i := 1546) (by decide +kernel), List.mem_of_getElem? (i := 1547) (by decide +kernel)⟩
theorem lw_p53 : lw_okq (⟨"SkewRingsModel", "load", "(I[I)V"⟩, 46) := ⟨⟨by decide +kernel, by decide +kernel⟩, List.mem_of_getElem? (i := 1270) (by decide +kernel), List.mem_of_getElem? (i := 1557) (by decide +kernel), List.mem_of_getElem? (i := 1558) (by decide +kernel)⟩
theorem lw_p54 : lw_okq (⟨"SkewRingsModel", "loads", "(III)Z"⟩, 46) := ⟨⟨by decide +kernel, by decide +kernel⟩, List.mem_of_getElem? (i := 1270) (by decide +kernel), List.mem_of_getElem? (i := 1569) (by decide +kernel), List.mem_of_getElem? (i := 1570) (by decide +kernel)⟩
theorem lw_p55 : lw_okq (⟨"SkewRingsModel", "addsRow", "([I[I)V"⟩, 46) := ⟨⟨by decide +kernel, by decide +kernel⟩, List.mem_of_getElem? (i := 1270) (by decide +kernel), List.mem_of_getElem? (i := 1573) (by decide +kernel), List.mem_of_getElem? (i := 1574) (by decide +kernel)⟩
theorem lw_p56 : lw_okq (⟨"SkewRingsModel", "lessens", "([I[I)V"⟩, 46) := ⟨⟨by decide +kernel, by decide +kernel⟩, List.mem_of_getElem? (i := 1270) (by decide +kernel), List.mem_of_getElem? (i := 1581) (by decide +kernel), List.mem_of_getElem? (i := 1582) (by decide +kernel)⟩
theorem lw_p57 : lw_okq (⟨"SkewRingsModel", "scalesRow", "(I[I)V"⟩, 46) := ⟨⟨by decide +kernel, by decide +kernel⟩, List.mem_of_getElem? (i := 1270) (by decide +kernel), List.mem_of_getElem? (i := 1589) (by decide +kernel), List.mem_of_getElem? (i := 1590) (by decide +kernel)⟩
theorem lw_p58 : lw_okq (⟨"SkewRingsModel", "product", "([I[I[I)V"⟩, 46) := ⟨⟨by decide +kernel, by decide +kernel⟩, List.mem_of_getElem? (i := 1270) (by decide +kernel), List.mem_of_getElem? (i := 1597) (by decide +kernel), List.mem_of_getElem? (i := 1598) (by decide +kernel)⟩
theorem lw_p59 : lw_okq (⟨"SkewRingsModel", "divides", "([I[II)V"⟩, 46) := ⟨⟨by decide +kernel, by decide +kernel⟩, List.mem_of_getElem? (i := 1270) (by decide +kernel), List.mem_of_getElem? (i := 1611) (by decide +kernel), List.mem_of_getElem? (i := 1612) (by decide +kernel)⟩
theorem lw_p60 : lw_okq (⟨"SkewRingsModel", "euclid", "([I[II)V"⟩, 46) := ⟨⟨by decide +kernel, by decide +kernel⟩, List.mem_of_getElem? (i := 1270) (by decide +kernel), List.mem_of_getElem? (i := 1623) (by decide +kernel), List.mem_of_getElem? (i := 1624) (by decide +kernel)⟩
theorem lw_p61 : lw_okq (⟨"SkewRingsModel", "makesMonic", "([II)V"⟩, 46) := ⟨⟨by decide +kernel, by decide +kernel⟩, List.mem_of_getElem? (i := 1270) (by decide +kernel), List.mem_of_getElem? (i := 1627) (by decide +kernel), List.mem_of_getElem? (i := 1628) (by decide +kernel)⟩
theorem lw_p62 : lw_okq (⟨"SkewRingsModel", "scalesBehind", "([II)V"⟩, 46) := ⟨⟨by decide +kernel, by decide +kernel⟩, List.mem_of_getElem? (i := 1270) (by decide +kernel), List.mem_of_getElem? (i := 1631) (by decide +kernel), List.mem_of_getElem? (i := 1632) (by decide +kernel)⟩
theorem lw_p63 : lw_okq (⟨"SkewRingsModel", "turnsRows", "([I[I)V"⟩, 46) := ⟨⟨by decide +kernel, by decide +kernel⟩, List.mem_of_getElem? (i := 1270) (by decide +kernel), List.mem_of_getElem? (i := 1677) (by decide +kernel), List.mem_of_getElem? (i := 1678) (by decide +kernel)⟩
def lw_privs_4 : List (MethodName × Nat) := [(⟨"SkewRingsModel", "tell", "(J)V"⟩, 46), (⟨"SkewRingsModel", "readNumbers", "([I)I"⟩, 46), (⟨"SkewRingsModel", "readNumber", "()I"⟩, 46), (⟨"SkewRingsModel", "here", "()I"⟩, 46), (⟨"SkewRingsModel", "store", "([II)I"⟩, 46), (⟨"SkewRingsModel", "load", "(I[I)V"⟩, 46), (⟨"SkewRingsModel", "loads", "(III)Z"⟩, 46), (⟨"SkewRingsModel", "addsRow", "([I[I)V"⟩, 46), (⟨"SkewRingsModel", "lessens", "([I[I)V"⟩, 46), (⟨"SkewRingsModel", "scalesRow", "(I[I)V"⟩, 46), (⟨"SkewRingsModel", "product", "([I[I[I)V"⟩, 46), (⟨"SkewRingsModel", "divides", "([I[II)V"⟩, 46), (⟨"SkewRingsModel", "euclid", "([I[II)V"⟩, 46), (⟨"SkewRingsModel", "makesMonic", "([II)V"⟩, 46), (⟨"SkewRingsModel", "scalesBehind", "([II)V"⟩, 46), (⟨"SkewRingsModel", "turnsRows", "([I[I)V"⟩, 46)]
theorem lw_r4 : ∀ q ∈ lw_privs_4, lw_okq q := List.forall_mem_cons.mpr ⟨lw_p48, List.forall_mem_cons.mpr ⟨lw_p49, List.forall_mem_cons.mpr ⟨lw_p50, List.forall_mem_cons.mpr ⟨lw_p51, List.forall_mem_cons.mpr ⟨lw_p52, List.forall_mem_cons.mpr ⟨lw_p53, List.forall_mem_cons.mpr ⟨lw_p54, List.forall_mem_cons.mpr ⟨lw_p55, List.forall_mem_cons.mpr ⟨lw_p56, List.forall_mem_cons.mpr ⟨lw_p57, List.forall_mem_cons.mpr ⟨lw_p58, List.forall_mem_cons.mpr ⟨lw_p59, List.forall_mem_cons.mpr ⟨lw_p60, List.forall_mem_cons.mpr ⟨lw_p61, List.forall_mem_cons.mpr ⟨lw_p62, List.forall_mem_cons.mpr ⟨lw_p63, fun _ h => absurd h List.not_mem_nil⟩⟩⟩⟩⟩⟩⟩⟩⟩⟩⟩⟩⟩⟩⟩⟩
theorem lw_p64 : lw_okq (⟨"SkewRingsModel", "valueOf", "([II)I"⟩, 46) := ⟨⟨by decide +kernel, by decide +kernel⟩, List.mem_of_getElem? (i := 1270) (by decide +kernel), List.mem_of_getElem? (i := 1692) (by decide +kernel), List.mem_of_getElem? (i := 1693) (by decide +kernel)⟩
theorem lw_p65 : lw_okq (⟨"SkewRingsModel", "rootsOf", "([I)I"⟩, 46) := ⟨⟨by decide +kernel, by decide +kernel⟩, List.mem_of_getElem? (i := 1270) (by decide +kernel), List.mem_of_getElem? (i := 1700) (by decide +kernel), List.mem_of_getElem? (i := 1701) (by decide +kernel)⟩
theorem lw_p66 : lw_okq (⟨"SkewRingsModel", "done", "([II)I"⟩, 46) := ⟨⟨by decide +kernel, by decide +kernel⟩, List.mem_of_getElem? (i := 1270) (by decide +kernel), List.mem_of_getElem? (i := 1708) (by decide +kernel), List.mem_of_getElem? (i := 1709) (by decide +kernel)⟩
theorem lw_p67 : lw_okq (⟨"SkewRingsModel", "vanishesToo", "([III)V"⟩, 46) := ⟨⟨by decide +kernel, by decide +kernel⟩, List.mem_of_getElem? (i := 1270) (by decide +kernel), List.mem_of_getElem? (i := 1720) (by decide +kernel), List.mem_of_getElem? (i := 1721) (by decide +kernel)⟩
theorem lw_p68 : lw_okq (⟨"SkewRingsModel", "leastDone", "([II)I"⟩, 46) := ⟨⟨by decide +kernel, by decide +kernel⟩, List.mem_of_getElem? (i := 1270) (by decide +kernel), List.mem_of_getElem? (i := 1732) (by decide +kernel), List.mem_of_getElem? (i := 1733) (by decide +kernel)⟩
theorem lw_p69 : lw_okq (⟨"SkewRingsModel", "readCouples", "()I"⟩, 46) := ⟨⟨by decide +kernel, by decide +kernel⟩, List.mem_of_getElem? (i := 1270) (by decide +kernel), List.mem_of_getElem? (i := 1744) (by decide +kernel), List.mem_of_getElem? (i := 1745) (by decide +kernel)⟩
theorem lw_p70 : lw_okq (⟨"SkewRingsModel", "isTold", "(II)Z"⟩, 46) := ⟨⟨by decide +kernel, by decide +kernel⟩, List.mem_of_getElem? (i := 1270) (by decide +kernel), List.mem_of_getElem? (i := 1748) (by decide +kernel), List.mem_of_getElem? (i := 1749) (by decide +kernel)⟩
theorem lw_p71 : lw_okq (⟨"SkewRingsModel", "asks", "(I)I"⟩, 46) := ⟨⟨by decide +kernel, by decide +kernel⟩, List.mem_of_getElem? (i := 1270) (by decide +kernel), List.mem_of_getElem? (i := 1764) (by decide +kernel), List.mem_of_getElem? (i := 1765) (by decide +kernel)⟩
theorem lw_p72 : lw_okq (⟨"SkewRingsModel", "countOf", "(I)I"⟩, 46) := ⟨⟨by decide +kernel, by decide +kernel⟩, List.mem_of_getElem? (i := 1270) (by decide +kernel), List.mem_of_getElem? (i := 1768) (by decide +kernel), List.mem_of_getElem? (i := 1769) (by decide +kernel)⟩
theorem lw_p73 : lw_okq (⟨"SkewRingsModel", "monicOf", "(II[I)V"⟩, 46) := ⟨⟨by decide +kernel, by decide +kernel⟩, List.mem_of_getElem? (i := 1270) (by decide +kernel), List.mem_of_getElem? (i := 1772) (by decide +kernel), List.mem_of_getElem? (i := 1773) (by decide +kernel)⟩
theorem lw_p74 : lw_okq (⟨"SkewRingsModel", "isDivided", "([I[II)Z"⟩, 46) := ⟨⟨by decide +kernel, by decide +kernel⟩, List.mem_of_getElem? (i := 1270) (by decide +kernel), List.mem_of_getElem? (i := 1776) (by decide +kernel), List.mem_of_getElem? (i := 1777) (by decide +kernel)⟩
theorem lw_p75 : lw_okq (⟨"SkewRingsModel", "isPrime", "([I)Z"⟩, 46) := ⟨⟨by decide +kernel, by decide +kernel⟩, List.mem_of_getElem? (i := 1270) (by decide +kernel), List.mem_of_getElem? (i := 1784) (by decide +kernel), List.mem_of_getElem? (i := 1785) (by decide +kernel)⟩
theorem lw_p76 : lw_okq (⟨"SkewRingsModel", "leastDivisor", "([I)I"⟩, 46) := ⟨⟨by decide +kernel, by decide +kernel⟩, List.mem_of_getElem? (i := 1270) (by decide +kernel), List.mem_of_getElem? (i := 1788) (by decide +kernel), List.mem_of_getElem? (i := 1789) (by decide +kernel)⟩
theorem lw_p77 : lw_okq (⟨"SkewRingsModel", "lost", "()I"⟩, 46) := ⟨⟨by decide +kernel, by decide +kernel⟩, List.mem_of_getElem? (i := 1270) (by decide +kernel), List.mem_of_getElem? (i := 1800) (by decide +kernel), List.mem_of_getElem? (i := 1801) (by decide +kernel)⟩
theorem lw_p78 : lw_okq (⟨"SkewRingsModel", "waysOf", "([II)I"⟩, 46) := ⟨⟨by decide +kernel, by decide +kernel⟩, List.mem_of_getElem? (i := 1270) (by decide +kernel), List.mem_of_getElem? (i := 1808) (by decide +kernel), List.mem_of_getElem? (i := 1809) (by decide +kernel)⟩
theorem lw_p79 : lw_okq (⟨"SkewRingsModel", "leftOf", "(I)[I"⟩, 46) := ⟨⟨by decide +kernel, by decide +kernel⟩, List.mem_of_getElem? (i := 1270) (by decide +kernel), List.mem_of_getElem? (i := 1812) (by decide +kernel), List.mem_of_getElem? (i := 1813) (by decide +kernel)⟩
def lw_privs_5 : List (MethodName × Nat) := [(⟨"SkewRingsModel", "valueOf", "([II)I"⟩, 46), (⟨"SkewRingsModel", "rootsOf", "([I)I"⟩, 46), (⟨"SkewRingsModel", "done", "([II)I"⟩, 46), (⟨"SkewRingsModel", "vanishesToo", "([III)V"⟩, 46), (⟨"SkewRingsModel", "leastDone", "([II)I"⟩, 46), (⟨"SkewRingsModel", "readCouples", "()I"⟩, 46), (⟨"SkewRingsModel", "isTold", "(II)Z"⟩, 46), (⟨"SkewRingsModel", "asks", "(I)I"⟩, 46), (⟨"SkewRingsModel", "countOf", "(I)I"⟩, 46), (⟨"SkewRingsModel", "monicOf", "(II[I)V"⟩, 46), (⟨"SkewRingsModel", "isDivided", "([I[II)Z"⟩, 46), (⟨"SkewRingsModel", "isPrime", "([I)Z"⟩, 46), (⟨"SkewRingsModel", "leastDivisor", "([I)I"⟩, 46), (⟨"SkewRingsModel", "lost", "()I"⟩, 46), (⟨"SkewRingsModel", "waysOf", "([II)I"⟩, 46), (⟨"SkewRingsModel", "leftOf", "(I)[I"⟩, 46)]
theorem lw_r5 : ∀ q ∈ lw_privs_5, lw_okq q := List.forall_mem_cons.mpr ⟨lw_p64, List.forall_mem_cons.mpr ⟨lw_p65, List.forall_mem_cons.mpr ⟨lw_p66, List.forall_mem_cons.mpr ⟨lw_p67, List.forall_mem_cons.mpr ⟨lw_p68, List.forall_mem_cons.mpr ⟨lw_p69, List.forall_mem_cons.mpr ⟨lw_p70, List.forall_mem_cons.mpr ⟨lw_p71, List.forall_mem_cons.mpr ⟨lw_p72, List.forall_mem_cons.mpr ⟨lw_p73, List.forall_mem_cons.mpr ⟨lw_p74, List.forall_mem_cons.mpr ⟨lw_p75, List.forall_mem_cons.mpr ⟨lw_p76, List.forall_mem_cons.mpr ⟨lw_p77, List.forall_mem_cons.mpr ⟨lw_p78, List.forall_mem_cons.mpr ⟨lw_p79, fun _ h => absurd h List.not_mem_nil⟩⟩⟩⟩⟩⟩⟩⟩⟩⟩⟩⟩⟩⟩⟩⟩
theorem lw_p80 : lw_okq (⟨"SkewRingsModel", "firstWay", "([I[I)I"⟩, 46) := ⟨⟨by decide +kernel, by decide +kernel⟩, List.mem_of_getElem? (i := 1270) (by decide +kernel), List.mem_of_getElem? (i := 1821) (by decide +kernel), List.mem_of_getElem? (i := 1822) (by decide +kernel)⟩
theorem lw_p81 : lw_okq (⟨"SkewRingsModel", "belowOf", "(II[I)V"⟩, 46) := ⟨⟨by decide +kernel, by decide +kernel⟩, List.mem_of_getElem? (i := 1270) (by decide +kernel), List.mem_of_getElem? (i := 1825) (by decide +kernel), List.mem_of_getElem? (i := 1826) (by decide +kernel)⟩
theorem lw_p82 : lw_okq (⟨"SkewRingsModel", "isCentral", "([I)Z"⟩, 46) := ⟨⟨by decide +kernel, by decide +kernel⟩, List.mem_of_getElem? (i := 1270) (by decide +kernel), List.mem_of_getElem? (i := 1841) (by decide +kernel), List.mem_of_getElem? (i := 1842) (by decide +kernel)⟩
theorem lw_p83 : lw_okq (⟨"SkewRingsModel", "centralOf", "(II[I)V"⟩, 46) := ⟨⟨by decide +kernel, by decide +kernel⟩, List.mem_of_getElem? (i := 1270) (by decide +kernel), List.mem_of_getElem? (i := 1849) (by decide +kernel), List.mem_of_getElem? (i := 1850) (by decide +kernel)⟩
theorem lw_p84 : lw_okq (⟨"SkewRingsModel", "fullPlaces", "()I"⟩, 46) := ⟨⟨by decide +kernel, by decide +kernel⟩, List.mem_of_getElem? (i := 1270) (by decide +kernel), List.mem_of_getElem? (i := 1865) (by decide +kernel), List.mem_of_getElem? (i := 1866) (by decide +kernel)⟩
def lw_privs_6 : List (MethodName × Nat) := [(⟨"SkewRingsModel", "firstWay", "([I[I)I"⟩, 46), (⟨"SkewRingsModel", "belowOf", "(II[I)V"⟩, 46), (⟨"SkewRingsModel", "isCentral", "([I)Z"⟩, 46), (⟨"SkewRingsModel", "centralOf", "(II[I)V"⟩, 46), (⟨"SkewRingsModel", "fullPlaces", "()I"⟩, 46)]
theorem lw_r6 : ∀ q ∈ lw_privs_6, lw_okq q := List.forall_mem_cons.mpr ⟨lw_p80, List.forall_mem_cons.mpr ⟨lw_p81, List.forall_mem_cons.mpr ⟨lw_p82, List.forall_mem_cons.mpr ⟨lw_p83, List.forall_mem_cons.mpr ⟨lw_p84, fun _ h => absurd h List.not_mem_nil⟩⟩⟩⟩⟩
def lw_privs : List (MethodName × Nat) := lw_privs_1 ++ (lw_privs_2 ++ (lw_privs_3 ++ (lw_privs_4 ++ (lw_privs_5 ++ (lw_privs_6)))))
def lw_tbl : List Cond := k2_sels lw_privs ++ tables_1
theorem lw_privs_ok : ∀ q ∈ lw_privs, lw_okq q := by
  show ∀ q ∈ lw_privs_1 ++ (lw_privs_2 ++ (lw_privs_3 ++ (lw_privs_4 ++ (lw_privs_5 ++ (lw_privs_6))))), lw_okq q
  exact List.forall_mem_append.mpr ⟨lw_r1, List.forall_mem_append.mpr ⟨lw_r2, List.forall_mem_append.mpr ⟨lw_r3, List.forall_mem_append.mpr ⟨lw_r4, List.forall_mem_append.mpr ⟨lw_r5, lw_r6⟩⟩⟩⟩⟩
-- ===== end of PART A; then your names; then what follows =====
theorem tb {w : Cond} (i : Nat) (h : lw_tbl[i]? = some w) : w ∈ lw_tbl := List.mem_of_getElem? h
-- classes: names, fields in the order of the slots, types
def TX0 : u_T := fun k => match k with
  | 0 => ("SkewRings$Centre", "field", "LSkewRings$Field;", true)
  | 1 => ("SkewRings$Centre", "ring", "LSkewRings$Ring;", true)
  | 2 => ("SkewRings$Centre", "span", "LSkewRings$Span;", true)
  | _ => ("SkewRings$Centre", "power", "LSkewRings$Poly;", true)
def tyX0 : Nat → FieldType := fun k => match k with
  | 0 => .object "SkewRings$Field"
  | 1 => .object "SkewRings$Ring"
  | 2 => .object "SkewRings$Span"
  | _ => .object "SkewRings$Poly"
theorem nmX0 : ∀ a, a < 4 → ∀ b, b < 4 → a ≠ b → (TX0 a).2.1 ≠ (TX0 b).2.1 := by decide +kernel
theorem tyX0_ok : ∀ k, k < 4 → parseFieldDescriptor (TX0 k).2.2.1 = some (tyX0 k) := by decide +kernel
theorem dcX0 : ∀ k, k < 4 → (TX0 k).1 = "SkewRings$Centre" := by decide +kernel
theorem inX0 : ∀ w ∈ u_ws "SkewRings$Centre" TX0 4, w ∈ lw_tbl := by
  intro w hw
  obtain ⟨k, hk, rfl⟩ := List.mem_map.mp hw
  have hk := List.mem_range.mp hk
  match k, hk with
  | 0, _ => exact tb 407 (by decide +kernel)
  | 1, _ => exact tb 409 (by decide +kernel)
  | 2, _ => exact tb 411 (by decide +kernel)
  | 3, _ => exact tb 413 (by decide +kernel)
  | k + 4, hk => omega
def TX1 : u_T := fun k => match k with
  | 0 => ("SkewRings$Divisors", "field", "LSkewRings$Field;", true)
  | 1 => ("SkewRings$Divisors", "ring", "LSkewRings$Ring;", true)
  | 2 => ("SkewRings$Divisors", "rest", "LSkewRings$Poly;", true)
  | 3 => ("SkewRings$Divisors", "found", "LSkewRings$Poly;", true)
  | 4 => ("SkewRings$Divisors", "left", "LSkewRings$Poly;", true)
  | 5 => ("SkewRings$Divisors", "remaining", "LSkewRings$Poly;", true)
  | 6 => ("SkewRings$Divisors", "divisorAt", "[LSkewRings$Poly;", true)
  | 7 => ("SkewRings$Divisors", "leftAt", "[LSkewRings$Poly;", true)
  | 8 => ("SkewRings$Divisors", "factors", "[LSkewRings$Poly;", true)
  | _ => ("SkewRings$Divisors", "factorCount", "I", false)
def tyX1 : Nat → FieldType := fun k => match k with
  | 0 => .object "SkewRings$Field"
  | 1 => .object "SkewRings$Ring"
  | 2 => .object "SkewRings$Poly"
  | 3 => .object "SkewRings$Poly"
  | 4 => .object "SkewRings$Poly"
  | 5 => .object "SkewRings$Poly"
  | 6 => .array (.object "SkewRings$Poly")
  | 7 => .array (.object "SkewRings$Poly")
  | 8 => .array (.object "SkewRings$Poly")
  | _ => .int
theorem nmX1 : ∀ a, a < 10 → ∀ b, b < 10 → a ≠ b → (TX1 a).2.1 ≠ (TX1 b).2.1 := by decide +kernel
theorem tyX1_ok : ∀ k, k < 10 → parseFieldDescriptor (TX1 k).2.2.1 = some (tyX1 k) := by decide +kernel
theorem dcX1 : ∀ k, k < 10 → (TX1 k).1 = "SkewRings$Divisors" := by decide +kernel
theorem inX1 : ∀ w ∈ u_ws "SkewRings$Divisors" TX1 10, w ∈ lw_tbl := by
  intro w hw
  obtain ⟨k, hk, rfl⟩ := List.mem_map.mp hw
  have hk := List.mem_range.mp hk
  match k, hk with
  | 0, _ => exact tb 302 (by decide +kernel)
  | 1, _ => exact tb 304 (by decide +kernel)
  | 2, _ => exact tb 306 (by decide +kernel)
  | 3, _ => exact tb 308 (by decide +kernel)
  | 4, _ => exact tb 310 (by decide +kernel)
  | 5, _ => exact tb 312 (by decide +kernel)
  | 6, _ => exact tb 314 (by decide +kernel)
  | 7, _ => exact tb 316 (by decide +kernel)
  | 8, _ => exact tb 318 (by decide +kernel)
  | 9, _ => exact tb 320 (by decide +kernel)
  | k + 10, hk => omega
def TX2 : u_T := fun k => match k with
  | 0 => ("SkewRings$Euclid", "ring", "LSkewRings$Ring;", true)
  | 1 => ("SkewRings$Euclid", "upper", "LSkewRings$Line;", false)
  | 2 => ("SkewRings$Euclid", "lower", "LSkewRings$Line;", false)
  | 3 => ("SkewRings$Euclid", "next", "LSkewRings$Line;", false)
  | 4 => ("SkewRings$Euclid", "quotient", "LSkewRings$Poly;", true)
  | 5 => ("SkewRings$Euclid", "part", "LSkewRings$Poly;", true)
  | _ => ("SkewRings$Euclid", "restDegrees", "[I", true)
def tyX2 : Nat → FieldType := fun k => match k with
  | 0 => .object "SkewRings$Ring"
  | 1 => .object "SkewRings$Line"
  | 2 => .object "SkewRings$Line"
  | 3 => .object "SkewRings$Line"
  | 4 => .object "SkewRings$Poly"
  | 5 => .object "SkewRings$Poly"
  | _ => .array .int
theorem nmX2 : ∀ a, a < 7 → ∀ b, b < 7 → a ≠ b → (TX2 a).2.1 ≠ (TX2 b).2.1 := by decide +kernel
theorem tyX2_ok : ∀ k, k < 7 → parseFieldDescriptor (TX2 k).2.2.1 = some (tyX2 k) := by decide +kernel
theorem dcX2 : ∀ k, k < 7 → (TX2 k).1 = "SkewRings$Euclid" := by decide +kernel
theorem inX2 : ∀ w ∈ u_ws "SkewRings$Euclid" TX2 7, w ∈ lw_tbl := by
  intro w hw
  obtain ⟨k, hk, rfl⟩ := List.mem_map.mp hw
  have hk := List.mem_range.mp hk
  match k, hk with
  | 0, _ => exact tb 243 (by decide +kernel)
  | 1, _ => exact tb 245 (by decide +kernel)
  | 2, _ => exact tb 247 (by decide +kernel)
  | 3, _ => exact tb 249 (by decide +kernel)
  | 4, _ => exact tb 251 (by decide +kernel)
  | 5, _ => exact tb 253 (by decide +kernel)
  | 6, _ => exact tb 255 (by decide +kernel)
  | k + 7, hk => omega
def TX3 : u_T := fun k => match k with
  | 0 => ("SkewRings$Field", "kind", "I", false)
  | 1 => ("SkewRings$Field", "q", "I", false)
  | 2 => ("SkewRings$Field", "p", "I", false)
  | 3 => ("SkewRings$Field", "m", "I", false)
  | 4 => ("SkewRings$Field", "sums", "[I", true)
  | 5 => ("SkewRings$Field", "products", "[I", true)
  | 6 => ("SkewRings$Field", "images", "[I", true)
  | 7 => ("SkewRings$Field", "inverses", "[I", true)
  | _ => ("SkewRings$Field", "opposites", "[I", true)
def tyX3 : Nat → FieldType := fun k => match k with
  | 0 => .int
  | 1 => .int
  | 2 => .int
  | 3 => .int
  | 4 => .array .int
  | 5 => .array .int
  | 6 => .array .int
  | 7 => .array .int
  | _ => .array .int
theorem nmX3 : ∀ a, a < 9 → ∀ b, b < 9 → a ≠ b → (TX3 a).2.1 ≠ (TX3 b).2.1 := by decide +kernel
theorem tyX3_ok : ∀ k, k < 9 → parseFieldDescriptor (TX3 k).2.2.1 = some (tyX3 k) := by decide +kernel
theorem dcX3 : ∀ k, k < 9 → (TX3 k).1 = "SkewRings$Field" := by decide +kernel
theorem inX3 : ∀ w ∈ u_ws "SkewRings$Field" TX3 9, w ∈ lw_tbl := by
  intro w hw
  obtain ⟨k, hk, rfl⟩ := List.mem_map.mp hw
  have hk := List.mem_range.mp hk
  match k, hk with
  | 0, _ => exact tb 141 (by decide +kernel)
  | 1, _ => exact tb 143 (by decide +kernel)
  | 2, _ => exact tb 145 (by decide +kernel)
  | 3, _ => exact tb 147 (by decide +kernel)
  | 4, _ => exact tb 149 (by decide +kernel)
  | 5, _ => exact tb 151 (by decide +kernel)
  | 6, _ => exact tb 153 (by decide +kernel)
  | 7, _ => exact tb 155 (by decide +kernel)
  | 8, _ => exact tb 157 (by decide +kernel)
  | k + 9, hk => omega
def TX4 : u_T := fun k => match k with
  | 0 => ("SkewRings$Likeness", "field", "LSkewRings$Field;", true)
  | 1 => ("SkewRings$Likeness", "ring", "LSkewRings$Ring;", true)
  | 2 => ("SkewRings$Likeness", "span", "LSkewRings$Span;", true)
  | 3 => ("SkewRings$Likeness", "quotient", "LSkewRings$Poly;", true)
  | 4 => ("SkewRings$Likeness", "part", "LSkewRings$Poly;", true)
  | 5 => ("SkewRings$Likeness", "rest", "LSkewRings$Poly;", true)
  | 6 => ("SkewRings$Likeness", "base", "[LSkewRings$Poly;", true)
  | 7 => ("SkewRings$Likeness", "digits", "[I", true)
  | 8 => ("SkewRings$Likeness", "marks", "[I", true)
  | 9 => ("SkewRings$Likeness", "way", "LSkewRings$Poly;", true)
  | 10 => ("SkewRings$Likeness", "rank", "I", false)
  | _ => ("SkewRings$Likeness", "many", "I", false)
def tyX4 : Nat → FieldType := fun k => match k with
  | 0 => .object "SkewRings$Field"
  | 1 => .object "SkewRings$Ring"
  | 2 => .object "SkewRings$Span"
  | 3 => .object "SkewRings$Poly"
  | 4 => .object "SkewRings$Poly"
  | 5 => .object "SkewRings$Poly"
  | 6 => .array (.object "SkewRings$Poly")
  | 7 => .array .int
  | 8 => .array .int
  | 9 => .object "SkewRings$Poly"
  | 10 => .int
  | _ => .int
theorem nmX4 : ∀ a, a < 12 → ∀ b, b < 12 → a ≠ b → (TX4 a).2.1 ≠ (TX4 b).2.1 := by decide +kernel
theorem tyX4_ok : ∀ k, k < 12 → parseFieldDescriptor (TX4 k).2.2.1 = some (tyX4 k) := by decide +kernel
theorem dcX4 : ∀ k, k < 12 → (TX4 k).1 = "SkewRings$Likeness" := by decide +kernel
theorem inX4 : ∀ w ∈ u_ws "SkewRings$Likeness" TX4 12, w ∈ lw_tbl := by
  intro w hw
  obtain ⟨k, hk, rfl⟩ := List.mem_map.mp hw
  have hk := List.mem_range.mp hk
  match k, hk with
  | 0, _ => exact tb 370 (by decide +kernel)
  | 1, _ => exact tb 372 (by decide +kernel)
  | 2, _ => exact tb 374 (by decide +kernel)
  | 3, _ => exact tb 376 (by decide +kernel)
  | 4, _ => exact tb 378 (by decide +kernel)
  | 5, _ => exact tb 380 (by decide +kernel)
  | 6, _ => exact tb 382 (by decide +kernel)
  | 7, _ => exact tb 384 (by decide +kernel)
  | 8, _ => exact tb 386 (by decide +kernel)
  | 9, _ => exact tb 388 (by decide +kernel)
  | 10, _ => exact tb 390 (by decide +kernel)
  | 11, _ => exact tb 392 (by decide +kernel)
  | k + 12, hk => omega
def TX5 : u_T := fun k => match k with
  | 0 => ("SkewRings$Line", "value", "LSkewRings$Poly;", true)
  | 1 => ("SkewRings$Line", "ofFirst", "LSkewRings$Poly;", true)
  | _ => ("SkewRings$Line", "ofSecond", "LSkewRings$Poly;", true)
def tyX5 : Nat → FieldType := fun k => match k with
  | 0 => .object "SkewRings$Poly"
  | 1 => .object "SkewRings$Poly"
  | _ => .object "SkewRings$Poly"
theorem nmX5 : ∀ a, a < 3 → ∀ b, b < 3 → a ≠ b → (TX5 a).2.1 ≠ (TX5 b).2.1 := by decide +kernel
theorem tyX5_ok : ∀ k, k < 3 → parseFieldDescriptor (TX5 k).2.2.1 = some (tyX5 k) := by decide +kernel
theorem dcX5 : ∀ k, k < 3 → (TX5 k).1 = "SkewRings$Line" := by decide +kernel
theorem inX5 : ∀ w ∈ u_ws "SkewRings$Line" TX5 3, w ∈ lw_tbl := by
  intro w hw
  obtain ⟨k, hk, rfl⟩ := List.mem_map.mp hw
  have hk := List.mem_range.mp hk
  match k, hk with
  | 0, _ => exact tb 227 (by decide +kernel)
  | 1, _ => exact tb 229 (by decide +kernel)
  | 2, _ => exact tb 231 (by decide +kernel)
  | k + 3, hk => omega
def TX6 : u_T := fun k => match k with
  | 0 => ("SkewRings$Poly", "a", "[I", true)
  | _ => ("SkewRings$Poly", "top", "I", false)
def tyX6 : Nat → FieldType := fun k => match k with
  | 0 => .array .int
  | _ => .int
theorem nmX6 : ∀ a, a < 2 → ∀ b, b < 2 → a ≠ b → (TX6 a).2.1 ≠ (TX6 b).2.1 := by decide +kernel
theorem tyX6_ok : ∀ k, k < 2 → parseFieldDescriptor (TX6 k).2.2.1 = some (tyX6 k) := by decide +kernel
theorem dcX6 : ∀ k, k < 2 → (TX6 k).1 = "SkewRings$Poly" := by decide +kernel
theorem inX6 : ∀ w ∈ u_ws "SkewRings$Poly" TX6 2, w ∈ lw_tbl := by
  intro w hw
  obtain ⟨k, hk, rfl⟩ := List.mem_map.mp hw
  have hk := List.mem_range.mp hk
  match k, hk with
  | 0, _ => exact tb 182 (by decide +kernel)
  | 1, _ => exact tb 184 (by decide +kernel)
  | k + 2, hk => omega
def TX7 : u_T := fun k => match k with
  | 0 => ("SkewRings$Ring", "field", "LSkewRings$Field;", true)
  | 1 => ("SkewRings$Ring", "product", "LSkewRings$Poly;", true)
  | 2 => ("SkewRings$Ring", "quotient", "LSkewRings$Poly;", true)
  | 3 => ("SkewRings$Ring", "first", "LSkewRings$Poly;", true)
  | 4 => ("SkewRings$Ring", "second", "LSkewRings$Poly;", true)
  | _ => ("SkewRings$Ring", "third", "LSkewRings$Poly;", true)
def tyX7 : Nat → FieldType := fun k => match k with
  | 0 => .object "SkewRings$Field"
  | 1 => .object "SkewRings$Poly"
  | 2 => .object "SkewRings$Poly"
  | 3 => .object "SkewRings$Poly"
  | 4 => .object "SkewRings$Poly"
  | _ => .object "SkewRings$Poly"
theorem nmX7 : ∀ a, a < 6 → ∀ b, b < 6 → a ≠ b → (TX7 a).2.1 ≠ (TX7 b).2.1 := by decide +kernel
theorem tyX7_ok : ∀ k, k < 6 → parseFieldDescriptor (TX7 k).2.2.1 = some (tyX7 k) := by decide +kernel
theorem dcX7 : ∀ k, k < 6 → (TX7 k).1 = "SkewRings$Ring" := by decide +kernel
theorem inX7 : ∀ w ∈ u_ws "SkewRings$Ring" TX7 6, w ∈ lw_tbl := by
  intro w hw
  obtain ⟨k, hk, rfl⟩ := List.mem_map.mp hw
  have hk := List.mem_range.mp hk
  match k, hk with
  | 0, _ => exact tb 194 (by decide +kernel)
  | 1, _ => exact tb 196 (by decide +kernel)
  | 2, _ => exact tb 198 (by decide +kernel)
  | 3, _ => exact tb 200 (by decide +kernel)
  | 4, _ => exact tb 202 (by decide +kernel)
  | 5, _ => exact tb 204 (by decide +kernel)
  | k + 6, hk => omega
def TX8 : u_T := fun k => match k with
  | 0 => ("SkewRings$Span", "field", "LSkewRings$Field;", true)
  | 1 => ("SkewRings$Span", "rows", "[I", true)
  | 2 => ("SkewRings$Span", "origins", "[I", true)
  | 3 => ("SkewRings$Span", "pivots", "[I", true)
  | 4 => ("SkewRings$Span", "count", "I", false)
  | _ => ("SkewRings$Span", "offered", "I", false)
def tyX8 : Nat → FieldType := fun k => match k with
  | 0 => .object "SkewRings$Field"
  | 1 => .array .int
  | 2 => .array .int
  | 3 => .array .int
  | 4 => .int
  | _ => .int
theorem nmX8 : ∀ a, a < 6 → ∀ b, b < 6 → a ≠ b → (TX8 a).2.1 ≠ (TX8 b).2.1 := by decide +kernel
theorem tyX8_ok : ∀ k, k < 6 → parseFieldDescriptor (TX8 k).2.2.1 = some (tyX8 k) := by decide +kernel
theorem dcX8 : ∀ k, k < 6 → (TX8 k).1 = "SkewRings$Span" := by decide +kernel
theorem inX8 : ∀ w ∈ u_ws "SkewRings$Span" TX8 6, w ∈ lw_tbl := by
  intro w hw
  obtain ⟨k, hk, rfl⟩ := List.mem_map.mp hw
  have hk := List.mem_range.mp hk
  match k, hk with
  | 0, _ => exact tb 335 (by decide +kernel)
  | 1, _ => exact tb 337 (by decide +kernel)
  | 2, _ => exact tb 339 (by decide +kernel)
  | 3, _ => exact tb 341 (by decide +kernel)
  | 4, _ => exact tb 343 (by decide +kernel)
  | 5, _ => exact tb 345 (by decide +kernel)
  | k + 6, hk => omega
def TX9 : u_T := fun k => match k with
  | 0 => ("SkewRings$Text", "signs", "[I", true)
  | 1 => ("SkewRings$Text", "points", "[I", true)
  | 2 => ("SkewRings$Text", "wanted", "[I", true)
  | 3 => ("SkewRings$Text", "length", "I", false)
  | 4 => ("SkewRings$Text", "couples", "I", false)
  | 5 => ("SkewRings$Text", "at", "I", false)
  | _ => ("SkewRings$Text", "fault", "I", false)
def tyX9 : Nat → FieldType := fun k => match k with
  | 0 => .array .int
  | 1 => .array .int
  | 2 => .array .int
  | 3 => .int
  | 4 => .int
  | 5 => .int
  | _ => .int
theorem nmX9 : ∀ a, a < 7 → ∀ b, b < 7 → a ≠ b → (TX9 a).2.1 ≠ (TX9 b).2.1 := by decide +kernel
theorem tyX9_ok : ∀ k, k < 7 → parseFieldDescriptor (TX9 k).2.2.1 = some (tyX9 k) := by decide +kernel
theorem dcX9 : ∀ k, k < 7 → (TX9 k).1 = "SkewRings$Text" := by decide +kernel
theorem inX9 : ∀ w ∈ u_ws "SkewRings$Text" TX9 7, w ∈ lw_tbl := by
  intro w hw
  obtain ⟨k, hk, rfl⟩ := List.mem_map.mp hw
  have hk := List.mem_range.mp hk
  match k, hk with
  | 0, _ => exact tb 432 (by decide +kernel)
  | 1, _ => exact tb 434 (by decide +kernel)
  | 2, _ => exact tb 436 (by decide +kernel)
  | 3, _ => exact tb 438 (by decide +kernel)
  | 4, _ => exact tb 440 (by decide +kernel)
  | 5, _ => exact tb 442 (by decide +kernel)
  | 6, _ => exact tb 444 (by decide +kernel)
  | k + 7, hk => omega
def TX10 : u_T := fun k => match k with
  | 0 => ("SkewRings$Values", "field", "LSkewRings$Field;", true)
  | 1 => ("SkewRings$Values", "ring", "LSkewRings$Ring;", true)
  | 2 => ("SkewRings$Values", "linear", "LSkewRings$Poly;", true)
  | 3 => ("SkewRings$Values", "vanishing", "LSkewRings$Poly;", true)
  | _ => ("SkewRings$Values", "part", "LSkewRings$Poly;", true)
def tyX10 : Nat → FieldType := fun k => match k with
  | 0 => .object "SkewRings$Field"
  | 1 => .object "SkewRings$Ring"
  | 2 => .object "SkewRings$Poly"
  | 3 => .object "SkewRings$Poly"
  | _ => .object "SkewRings$Poly"
theorem nmX10 : ∀ a, a < 5 → ∀ b, b < 5 → a ≠ b → (TX10 a).2.1 ≠ (TX10 b).2.1 := by decide +kernel
theorem tyX10_ok : ∀ k, k < 5 → parseFieldDescriptor (TX10 k).2.2.1 = some (tyX10 k) := by decide +kernel
theorem dcX10 : ∀ k, k < 5 → (TX10 k).1 = "SkewRings$Values" := by decide +kernel
theorem inX10 : ∀ w ∈ u_ws "SkewRings$Values" TX10 5, w ∈ lw_tbl := by
  intro w hw
  obtain ⟨k, hk, rfl⟩ := List.mem_map.mp hw
  have hk := List.mem_range.mp hk
  match k, hk with
  | 0, _ => exact tb 271 (by decide +kernel)
  | 1, _ => exact tb 273 (by decide +kernel)
  | 2, _ => exact tb 275 (by decide +kernel)
  | 3, _ => exact tb 277 (by decide +kernel)
  | 4, _ => exact tb 279 (by decide +kernel)
  | k + 5, hk => omega
def TX11 : u_T := fun k => match k with
  | 0 => ("SkewRings", "field", "LSkewRings$Field;", true)
  | 1 => ("SkewRings", "ring", "LSkewRings$Ring;", true)
  | 2 => ("SkewRings", "euclid", "LSkewRings$Euclid;", true)
  | 3 => ("SkewRings", "values", "LSkewRings$Values;", true)
  | 4 => ("SkewRings", "divisors", "LSkewRings$Divisors;", true)
  | 5 => ("SkewRings", "span", "LSkewRings$Span;", true)
  | 6 => ("SkewRings", "likeness", "LSkewRings$Likeness;", true)
  | 7 => ("SkewRings", "centre", "LSkewRings$Centre;", true)
  | 8 => ("SkewRings", "places", "[LSkewRings$Poly;", true)
  | 9 => ("SkewRings", "text", "LSkewRings$Text;", true)
  | 10 => ("SkewRings", "told", "[J", true)
  | 11 => ("SkewRings", "toldCount", "I", false)
  | 12 => ("SkewRings", "answer", "LSkewRings$Poly;", true)
  | _ => ("SkewRings", "spare", "LSkewRings$Poly;", true)
def tyX11 : Nat → FieldType := fun k => match k with
  | 0 => .object "SkewRings$Field"
  | 1 => .object "SkewRings$Ring"
  | 2 => .object "SkewRings$Euclid"
  | 3 => .object "SkewRings$Values"
  | 4 => .object "SkewRings$Divisors"
  | 5 => .object "SkewRings$Span"
  | 6 => .object "SkewRings$Likeness"
  | 7 => .object "SkewRings$Centre"
  | 8 => .array (.object "SkewRings$Poly")
  | 9 => .object "SkewRings$Text"
  | 10 => .array .long
  | 11 => .int
  | 12 => .object "SkewRings$Poly"
  | _ => .object "SkewRings$Poly"
theorem nmX11 : ∀ a, a < 14 → ∀ b, b < 14 → a ≠ b → (TX11 a).2.1 ≠ (TX11 b).2.1 := by decide +kernel
theorem tyX11_ok : ∀ k, k < 14 → parseFieldDescriptor (TX11 k).2.2.1 = some (tyX11 k) := by decide +kernel
theorem dcX11 : ∀ k, k < 14 → (TX11 k).1 = "SkewRings" := by decide +kernel
theorem inX11 : ∀ w ∈ u_ws "SkewRings" TX11 14, w ∈ lw_tbl := by
  intro w hw
  obtain ⟨k, hk, rfl⟩ := List.mem_map.mp hw
  have hk := List.mem_range.mp hk
  match k, hk with
  | 0, _ => exact tb 508 (by decide +kernel)
  | 1, _ => exact tb 510 (by decide +kernel)
  | 2, _ => exact tb 512 (by decide +kernel)
  | 3, _ => exact tb 514 (by decide +kernel)
  | 4, _ => exact tb 516 (by decide +kernel)
  | 5, _ => exact tb 518 (by decide +kernel)
  | 6, _ => exact tb 520 (by decide +kernel)
  | 7, _ => exact tb 522 (by decide +kernel)
  | 8, _ => exact tb 524 (by decide +kernel)
  | 9, _ => exact tb 526 (by decide +kernel)
  | 10, _ => exact tb 528 (by decide +kernel)
  | 11, _ => exact tb 530 (by decide +kernel)
  | 12, _ => exact tb 532 (by decide +kernel)
  | 13, _ => exact tb 534 (by decide +kernel)
  | k + 14, hk => omega
def TX12 : u_T := fun k => match k with
  | 0 => ("SkewRingsModel", "field", "I", false)
  | 1 => ("SkewRingsModel", "q", "I", false)
  | 2 => ("SkewRingsModel", "p", "I", false)
  | 3 => ("SkewRingsModel", "m", "I", false)
  | 4 => ("SkewRingsModel", "sums", "[I", true)
  | 5 => ("SkewRingsModel", "products", "[I", true)
  | 6 => ("SkewRingsModel", "lessOf", "[I", true)
  | 7 => ("SkewRingsModel", "inverses", "[I", true)
  | 8 => ("SkewRingsModel", "maps", "[I", true)
  | 9 => ("SkewRingsModel", "placed", "[I", true)
  | 10 => ("SkewRingsModel", "text", "[B", true)
  | 11 => ("SkewRingsModel", "typed", "I", false)
  | 12 => ("SkewRingsModel", "row", "[J", true)
  | 13 => ("SkewRingsModel", "rowMany", "I", false)
  | 14 => ("SkewRingsModel", "thrown", "I", false)
  | 15 => ("SkewRingsModel", "factorMany", "I", false)
  | 16 => ("SkewRingsModel", "made", "[I", true)
  | 17 => ("SkewRingsModel", "step", "[I", true)
  | 18 => ("SkewRingsModel", "stepped", "[I", true)
  | 19 => ("SkewRingsModel", "rest", "[I", true)
  | 20 => ("SkewRingsModel", "quot", "[I", true)
  | 21 => ("SkewRingsModel", "r0", "[I", true)
  | 22 => ("SkewRingsModel", "r1", "[I", true)
  | 23 => ("SkewRingsModel", "u0", "[I", true)
  | 24 => ("SkewRingsModel", "u1", "[I", true)
  | 25 => ("SkewRingsModel", "held", "[I", true)
  | 26 => ("SkewRingsModel", "one", "[I", true)
  | 27 => ("SkewRingsModel", "other", "[I", true)
  | 28 => ("SkewRingsModel", "then", "[I", true)
  | 29 => ("SkewRingsModel", "at", "I", false)
  | 30 => ("SkewRingsModel", "length", "I", false)
  | 31 => ("SkewRingsModel", "v0", "[I", true)
  | 32 => ("SkewRingsModel", "v1", "[I", true)
  | 33 => ("SkewRingsModel", "told", "[I", true)
  | 34 => ("SkewRingsModel", "toldValue", "[I", true)
  | 35 => ("SkewRingsModel", "tried", "[I", true)
  | 36 => ("SkewRingsModel", "candidate", "[I", true)
  | 37 => ("SkewRingsModel", "factorRows", "[I", true)
  | 38 => ("SkewRingsModel", "factorDegrees", "[I", true)
  | 39 => ("SkewRingsModel", "left1", "[I", true)
  | 40 => ("SkewRingsModel", "left2", "[I", true)
  | 41 => ("SkewRingsModel", "left3", "[I", true)
  | 42 => ("SkewRingsModel", "left4", "[I", true)
  | 43 => ("SkewRingsModel", "last", "[I", true)
  | 44 => ("SkewRingsModel", "way", "[I", true)
  | _ => ("SkewRingsModel", "both", "[I", true)
def tyX12 : Nat → FieldType := fun k => match k with
  | 0 => .int
  | 1 => .int
  | 2 => .int
  | 3 => .int
  | 4 => .array .int
  | 5 => .array .int
  | 6 => .array .int
  | 7 => .array .int
  | 8 => .array .int
  | 9 => .array .int
  | 10 => .array .byte
  | 11 => .int
  | 12 => .array .long
  | 13 => .int
  | 14 => .int
  | 15 => .int
  | 16 => .array .int
  | 17 => .array .int
  | 18 => .array .int
  | 19 => .array .int
  | 20 => .array .int
  | 21 => .array .int
  | 22 => .array .int
  | 23 => .array .int
  | 24 => .array .int
  | 25 => .array .int
  | 26 => .array .int
  | 27 => .array .int
  | 28 => .array .int
  | 29 => .int
  | 30 => .int
  | 31 => .array .int
  | 32 => .array .int
  | 33 => .array .int
  | 34 => .array .int
  | 35 => .array .int
  | 36 => .array .int
  | 37 => .array .int
  | 38 => .array .int
  | 39 => .array .int
  | 40 => .array .int
  | 41 => .array .int
  | 42 => .array .int
  | 43 => .array .int
  | 44 => .array .int
  | _ => .array .int
theorem nmX12 : ∀ a, a < 46 → ∀ b, b < 46 → a ≠ b → (TX12 a).2.1 ≠ (TX12 b).2.1 := by decide +kernel
theorem tyX12_ok : ∀ k, k < 46 → parseFieldDescriptor (TX12 k).2.2.1 = some (tyX12 k) := by decide +kernel
theorem dcX12 : ∀ k, k < 46 → (TX12 k).1 = "SkewRingsModel" := by decide +kernel
theorem inX12 : ∀ w ∈ u_ws "SkewRingsModel" TX12 46, w ∈ lw_tbl := by
  intro w hw
  obtain ⟨k, hk, rfl⟩ := List.mem_map.mp hw
  have hk := List.mem_range.mp hk
  match k, hk with
  | 0, _ => exact tb 1434 (by decide +kernel)
  | 1, _ => exact tb 1436 (by decide +kernel)
  | 2, _ => exact tb 1438 (by decide +kernel)
  | 3, _ => exact tb 1440 (by decide +kernel)
  | 4, _ => exact tb 1442 (by decide +kernel)
  | 5, _ => exact tb 1444 (by decide +kernel)
  | 6, _ => exact tb 1446 (by decide +kernel)
  | 7, _ => exact tb 1448 (by decide +kernel)
  | 8, _ => exact tb 1450 (by decide +kernel)
  | 9, _ => exact tb 1452 (by decide +kernel)
  | 10, _ => exact tb 1454 (by decide +kernel)
  | 11, _ => exact tb 1456 (by decide +kernel)
  | 12, _ => exact tb 1458 (by decide +kernel)
  | 13, _ => exact tb 1460 (by decide +kernel)
  | 14, _ => exact tb 1462 (by decide +kernel)
  | 15, _ => exact tb 1464 (by decide +kernel)
  | 16, _ => exact tb 1466 (by decide +kernel)
  | 17, _ => exact tb 1468 (by decide +kernel)
  | 18, _ => exact tb 1470 (by decide +kernel)
  | 19, _ => exact tb 1472 (by decide +kernel)
  | 20, _ => exact tb 1474 (by decide +kernel)
  | 21, _ => exact tb 1476 (by decide +kernel)
  | 22, _ => exact tb 1478 (by decide +kernel)
  | 23, _ => exact tb 1480 (by decide +kernel)
  | 24, _ => exact tb 1482 (by decide +kernel)
  | 25, _ => exact tb 1484 (by decide +kernel)
  | 26, _ => exact tb 1486 (by decide +kernel)
  | 27, _ => exact tb 1488 (by decide +kernel)
  | 28, _ => exact tb 1490 (by decide +kernel)
  | 29, _ => exact tb 1492 (by decide +kernel)
  | 30, _ => exact tb 1494 (by decide +kernel)
  | 31, _ => exact tb 1496 (by decide +kernel)
  | 32, _ => exact tb 1498 (by decide +kernel)
  | 33, _ => exact tb 1500 (by decide +kernel)
  | 34, _ => exact tb 1502 (by decide +kernel)
  | 35, _ => exact tb 1504 (by decide +kernel)
  | 36, _ => exact tb 1506 (by decide +kernel)
  | 37, _ => exact tb 1508 (by decide +kernel)
  | 38, _ => exact tb 1510 (by decide +kernel)
  | 39, _ => exact tb 1512 (by decide +kernel)
  | 40, _ => exact tb 1514 (by decide +kernel)
  | 41, _ => exact tb 1516 (by decide +kernel)
  | 42, _ => exact tb 1518 (by decide +kernel)
  | 43, _ => exact tb 1520 (by decide +kernel)
  | 44, _ => exact tb 1522 (by decide +kernel)
  | 45, _ => exact tb 1524 (by decide +kernel)
  | k + 46, hk => omega
def cN : Nat → String := fun k => match k with
  | 0 => "SkewRings$Centre"
  | 1 => "SkewRings$Divisors"
  | 2 => "SkewRings$Euclid"
  | 3 => "SkewRings$Field"
  | 4 => "SkewRings$Likeness"
  | 5 => "SkewRings$Line"
  | 6 => "SkewRings$Poly"
  | 7 => "SkewRings$Ring"
  | 8 => "SkewRings$Span"
  | 9 => "SkewRings$Text"
  | 10 => "SkewRings$Values"
  | 11 => "SkewRings"
  | 12 => "SkewRingsModel"
  | 13 => "SkewRingsLaw"
  | 14 => "java/lang/Math"
  | _ => "java/lang/Integer"
def cT : Nat → u_T := fun k => match k with
  | 0 => TX0
  | 1 => TX1
  | 2 => TX2
  | 3 => TX3
  | 4 => TX4
  | 5 => TX5
  | 6 => TX6
  | 7 => TX7
  | 8 => TX8
  | 9 => TX9
  | 10 => TX10
  | 11 => TX11
  | _ => TX12
def cY : Nat → Nat → FieldType := fun k => match k with
  | 0 => tyX0
  | 1 => tyX1
  | 2 => tyX2
  | 3 => tyX3
  | 4 => tyX4
  | 5 => tyX5
  | 6 => tyX6
  | 7 => tyX7
  | 8 => tyX8
  | 9 => tyX9
  | 10 => tyX10
  | 11 => tyX11
  | _ => tyX12
def cZ : Nat → Nat := fun k => match k with
  | 0 => 4
  | 1 => 10
  | 2 => 7
  | 3 => 9
  | 4 => 12
  | 5 => 3
  | 6 => 2
  | 7 => 6
  | 8 => 6
  | 9 => 7
  | 10 => 5
  | 11 => 14
  | _ => 46
/-- 0: a whole number; 1: a reference that is final; 2: a reference that may change -/
def FTs : List (List Nat) := [[1, 1, 1, 1], [1, 1, 1, 1, 1, 1, 1, 1, 1, 0], [1, 2, 2, 2, 1, 1, 1], [0, 0, 0, 0, 1, 1, 1, 1, 1], [1, 1, 1, 1, 1, 1, 1, 1, 1, 1, 0, 0], [1, 1, 1], [1, 0], [1, 1, 1, 1, 1, 1], [1, 1, 1, 1, 0, 0], [1, 1, 1, 0, 0, 0, 0], [1, 1, 1, 1, 1], [1, 1, 1, 1, 1, 1, 1, 1, 1, 1, 1, 0, 1, 1], [0, 0, 0, 0, 1, 1, 1, 1, 1, 1, 1, 0, 1, 0, 0, 0, 1, 1, 1, 1, 1, 1, 1, 1, 1, 1, 1, 1, 1, 0, 0, 1, 1, 1, 1, 1, 1, 1, 1, 1, 1, 1, 1, 1, 1, 1]]
abbrev vwCl : List vw_C := [(cN 0, cT 0, cZ 0), (cN 1, cT 1, cZ 1), (cN 2, cT 2, cZ 2), (cN 3, cT 3, cZ 3), (cN 4, cT 4, cZ 4), (cN 5, cT 5, cZ 5), (cN 6, cT 6, cZ 6), (cN 7, cT 7, cZ 7), (cN 8, cT 8, cZ 8), (cN 9, cT 9, cZ 9), (cN 10, cT 10, cZ 10), (cN 11, cT 11, cZ 11), (cN 12, cT 12, cZ 12)]
theorem cls_in : ∀ ci, ci < 13 → ∀ w ∈ u_ws (cN ci) (cT ci) (cZ ci), w ∈ lw_tbl := fun ci h => match ci, h with
  | 0, _ => inX0
  | 1, _ => inX1
  | 2, _ => inX2
  | 3, _ => inX3
  | 4, _ => inX4
  | 5, _ => inX5
  | 6, _ => inX6
  | 7, _ => inX7
  | 8, _ => inX8
  | 9, _ => inX9
  | 10, _ => inX10
  | 11, _ => inX11
  | 12, _ => inX12
theorem cls_ty : ∀ ci, ci < 13 → ∀ k, k < cZ ci → parseFieldDescriptor (cT ci k).2.2.1 = some (cY ci k) := fun ci h => match ci, h with
  | 0, _ => tyX0_ok
  | 1, _ => tyX1_ok
  | 2, _ => tyX2_ok
  | 3, _ => tyX3_ok
  | 4, _ => tyX4_ok
  | 5, _ => tyX5_ok
  | 6, _ => tyX6_ok
  | 7, _ => tyX7_ok
  | 8, _ => tyX8_ok
  | 9, _ => tyX9_ok
  | 10, _ => tyX10_ok
  | 11, _ => tyX11_ok
  | 12, _ => tyX12_ok
theorem cls_nm : ∀ ci, ci < 13 → ∀ a, a < cZ ci → ∀ b, b < cZ ci → a ≠ b → (cT ci a).2.1 ≠ (cT ci b).2.1 := fun ci h => match ci, h with
  | 0, _ => nmX0
  | 1, _ => nmX1
  | 2, _ => nmX2
  | 3, _ => nmX3
  | 4, _ => nmX4
  | 5, _ => nmX5
  | 6, _ => nmX6
  | 7, _ => nmX7
  | 8, _ => nmX8
  | 9, _ => nmX9
  | 10, _ => nmX10
  | 11, _ => nmX11
  | 12, _ => nmX12
theorem cls_dc : ∀ ci, ci < 13 → ∀ k, k < cZ ci → (cT ci k).1 = cN ci := fun ci h => match ci, h with
  | 0, _ => dcX0
  | 1, _ => dcX1
  | 2, _ => dcX2
  | 3, _ => dcX3
  | 4, _ => dcX4
  | 5, _ => dcX5
  | 6, _ => dcX6
  | 7, _ => dcX7
  | 8, _ => dcX8
  | 9, _ => dcX9
  | 10, _ => dcX10
  | 11, _ => dcX11
  | 12, _ => dcX12
-- methods
def mY : List MethodName := [⟨"SkewRings$Field", "<init>", "()V"⟩, ⟨"SkewRings$Field", "become", "(I)V"⟩, ⟨"SkewRings$Field", "fillTables", "()V"⟩, ⟨"SkewRings$Field", "fillSums", "()V"⟩, ⟨"SkewRings$Field", "put", "([III)V"⟩, ⟨"SkewRings$Field", "sum", "(II)I"⟩, ⟨"SkewRings$Field", "fillProducts", "()V"⟩, ⟨"SkewRings$Field", "product", "(II)I"⟩, ⟨"SkewRings$Field", "timesW", "(I)I"⟩, ⟨"SkewRings$Field", "unit", "(I)I"⟩, ⟨"SkewRings$Field", "image", "(II)I"⟩, ⟨"SkewRings$Field", "powered", "(I)I"⟩, ⟨"SkewRings$Field", "isKind", "(I)Z"⟩, ⟨"SkewRings$Field", "has", "(I)Z"⟩, ⟨"SkewRings$Field", "inverted", "(I)I"⟩, ⟨"SkewRings$Field", "chain", "(II)I"⟩, ⟨"SkewRings$Field", "conjugatesOf", "(I)I"⟩, ⟨"SkewRings$Field", "conjugate", "(II)I"⟩, ⟨"SkewRings$Field", "ratio", "(II)I"⟩, ⟨"SkewRings$Field", "difference", "(II)I"⟩, ⟨"SkewRings$Field", "opposite", "(I)I"⟩, ⟨"SkewRings$Poly", "<init>", "()V"⟩, ⟨"SkewRings$Poly", "clear", "()V"⟩, ⟨"SkewRings$Poly", "put", "(II)V"⟩, ⟨"SkewRings$Poly", "copy", "(LSkewRings$Poly;)V"⟩, ⟨"SkewRings$Poly", "at", "(I)I"⟩, ⟨"SkewRings$Poly", "leading", "()I"⟩, ⟨"SkewRings$Poly", "become", "(I)V"⟩, ⟨"SkewRings$Poly", "weight", "()I"⟩, ⟨"SkewRings$Poly", "lowest", "()I"⟩, ⟨"SkewRings$Poly", "isOne", "()Z"⟩, ⟨"SkewRings$Poly", "isLike", "(LSkewRings$Poly;)Z"⟩, ⟨"SkewRings$Poly", "compared", "(LSkewRings$Poly;)I"⟩, ⟨"SkewRings$Poly", "becomeStep", "(I)V"⟩, ⟨"SkewRings$Line", "<init>", "()V"⟩, ⟨"SkewRings$Line", "start", "(LSkewRings$Poly;II)V"⟩, ⟨"SkewRings$Ring", "<init>", "(LSkewRings$Field;)V"⟩, ⟨"SkewRings$Ring", "sum", "(LSkewRings$Poly;LSkewRings$Poly;LSkewRings$Poly;)V"⟩, ⟨"SkewRings$Ring", "highest", "(LSkewRings$Poly;LSkewRings$Poly;LSkewRings$Poly;)I"⟩, ⟨"SkewRings$Ring", "difference", "(LSkewRings$Poly;LSkewRings$Poly;LSkewRings$Poly;)V"⟩, ⟨"SkewRings$Ring", "scaled", "(ILSkewRings$Poly;LSkewRings$Poly;)V"⟩, ⟨"SkewRings$Ring", "product", "(LSkewRings$Poly;LSkewRings$Poly;LSkewRings$Poly;)V"⟩, ⟨"SkewRings$Ring", "divide", "(LSkewRings$Poly;LSkewRings$Poly;ILSkewRings$Poly;LSkewRings$Poly;)V"⟩, ⟨"SkewRings$Ring", "takeAhead", "(LSkewRings$Poly;IILSkewRings$Poly;)V"⟩, ⟨"SkewRings$Ring", "takeBehind", "(LSkewRings$Poly;IILSkewRings$Poly;)V"⟩, ⟨"SkewRings$Ring", "productAt", "(ILSkewRings$Poly;LSkewRings$Poly;LSkewRings$Poly;)V"⟩, ⟨"SkewRings$Ring", "makeMonic", "(LSkewRings$Poly;I)V"⟩, ⟨"SkewRings$Ring", "scaledBehind", "(LSkewRings$Poly;ILSkewRings$Poly;)V"⟩, ⟨"SkewRings$Ring", "mapped", "(LSkewRings$Poly;ILSkewRings$Poly;)V"⟩, ⟨"SkewRings$Ring", "reach", "(LSkewRings$Poly;I)I"⟩, ⟨"SkewRings$Ring", "startSteps", "(LSkewRings$Poly;LSkewRings$Poly;)V"⟩, ⟨"SkewRings$Ring", "step", "(LSkewRings$Poly;LSkewRings$Poly;)V"⟩, ⟨"SkewRings$Ring", "areCoprime", "(LSkewRings$Poly;LSkewRings$Poly;)Z"⟩, ⟨"SkewRings$Ring", "divides", "(LSkewRings$Poly;LSkewRings$Poly;)Z"⟩, ⟨"SkewRings$Euclid", "<init>", "(LSkewRings$Ring;)V"⟩, ⟨"SkewRings$Euclid", "run", "(LSkewRings$Poly;LSkewRings$Poly;I)V"⟩, ⟨"SkewRings$Euclid", "lessProduct", "(LSkewRings$Poly;LSkewRings$Poly;ILSkewRings$Poly;)V"⟩, ⟨"SkewRings$Euclid", "turnLines", "()V"⟩, ⟨"SkewRings$Euclid", "divisorTo", "(ILSkewRings$Poly;)V"⟩, ⟨"SkewRings$Euclid", "multipleTo", "(LSkewRings$Poly;ILSkewRings$Poly;)V"⟩, ⟨"SkewRings$Euclid", "divisions", "(LSkewRings$Poly;LSkewRings$Poly;I)I"⟩, ⟨"SkewRings$Euclid", "restDegree", "(I)I"⟩, ⟨"SkewRings$Euclid", "cofactorsTo", "(LSkewRings$Poly;LSkewRings$Poly;)I"⟩, ⟨"SkewRings$Values", "<init>", "(LSkewRings$Field;LSkewRings$Ring;)V"⟩, ⟨"SkewRings$Values", "fit", "(LSkewRings$Text;LSkewRings$Poly;)Z"⟩, ⟨"SkewRings$Values", "valueAt", "(LSkewRings$Poly;I)I"⟩, ⟨"SkewRings$Values", "vanishAlso", "(LSkewRings$Poly;I)Z"⟩, ⟨"SkewRings$Values", "rootsOf", "(LSkewRings$Poly;)I"⟩, ⟨"SkewRings$Values", "done", "(LSkewRings$Poly;I)I"⟩, ⟨"SkewRings$Values", "doneTo", "(LSkewRings$Poly;I)I"⟩, ⟨"SkewRings$Values", "images", "(LSkewRings$Poly;)I"⟩, ⟨"SkewRings$Values", "basisOf", "(ILSkewRings$Poly;)I"⟩, ⟨"SkewRings$Values", "leastStretched", "(LSkewRings$Poly;I)I"⟩, ⟨"SkewRings$Values", "quadraticsWithoutRoots", "()I"⟩, ⟨"SkewRings$Divisors", "<init>", "(LSkewRings$Field;LSkewRings$Ring;)V"⟩, ⟨"SkewRings$Divisors", "forget", "()V"⟩, ⟨"SkewRings$Divisors", "survey", "(LSkewRings$Poly;ILSkewRings$Poly;)I"⟩, ⟨"SkewRings$Divisors", "tries", "(II)I"⟩, ⟨"SkewRings$Divisors", "hits", "(LSkewRings$Poly;IILSkewRings$Poly;LSkewRings$Poly;)Z"⟩, ⟨"SkewRings$Divisors", "isPrime", "(LSkewRings$Poly;)Z"⟩, ⟨"SkewRings$Divisors", "split", "(LSkewRings$Poly;)I"⟩, ⟨"SkewRings$Divisors", "polyAt", "([LSkewRings$Poly;I)LSkewRings$Poly;"⟩, ⟨"SkewRings$Divisors", "factorAt", "(I)LSkewRings$Poly;"⟩, ⟨"SkewRings$Divisors", "waysFrom", "(LSkewRings$Poly;I)I"⟩, ⟨"SkewRings$Span", "<init>", "(LSkewRings$Field;)V"⟩, ⟨"SkewRings$Span", "start", "()V"⟩, ⟨"SkewRings$Span", "depends", "(LSkewRings$Poly;I)Z"⟩, ⟨"SkewRings$Span", "writeDigits", "(LSkewRings$Poly;I)V"⟩, ⟨"SkewRings$Span", "set", "([III)V"⟩, ⟨"SkewRings$Span", "get", "([II)I"⟩, ⟨"SkewRings$Span", "take", "([IIII)V"⟩, ⟨"SkewRings$Span", "settles", "()Z"⟩, ⟨"SkewRings$Span", "multiply", "([III)V"⟩, ⟨"SkewRings$Span", "relationAt", "(I)I"⟩, ⟨"SkewRings$Likeness", "<init>", "(LSkewRings$Field;LSkewRings$Ring;LSkewRings$Span;)V"⟩, ⟨"SkewRings$Likeness", "kin", "(LSkewRings$Poly;)I"⟩, ⟨"SkewRings$Likeness", "linearKin", "(LSkewRings$Poly;)I"⟩, ⟨"SkewRings$Likeness", "quadraticKin", "(LSkewRings$Poly;)I"⟩, ⟨"SkewRings$Likeness", "cross", "(IIII)I"⟩, ⟨"SkewRings$Likeness", "findWay", "(LSkewRings$Poly;LSkewRings$Poly;)Z"⟩, ⟨"SkewRings$Likeness", "gather", "(LSkewRings$Poly;LSkewRings$Poly;)V"⟩, ⟨"SkewRings$Likeness", "addToBase", "(I)V"⟩, ⟨"SkewRings$Likeness", "advance", "()V"⟩, ⟨"SkewRings$Likeness", "countWays", "(LSkewRings$Poly;LSkewRings$Poly;)I"⟩, ⟨"SkewRings$Centre", "<init>", "(LSkewRings$Field;LSkewRings$Ring;LSkewRings$Span;)V"⟩, ⟨"SkewRings$Centre", "holds", "(LSkewRings$Poly;)Z"⟩, ⟨"SkewRings$Centre", "boundOf", "(LSkewRings$Poly;)I"⟩, ⟨"SkewRings$Centre", "greatestPart", "(LSkewRings$Poly;LSkewRings$Poly;)V"⟩, ⟨"SkewRings$Centre", "becomeCentral", "(LSkewRings$Poly;II)V"⟩, ⟨"SkewRings$Text", "<init>", "()V"⟩, ⟨"SkewRings$Text", "append", "(I)Z"⟩, ⟨"SkewRings$Text", "cut", "(I)Z"⟩, ⟨"SkewRings$Text", "readNumbers", "(ILSkewRings$Poly;)I"⟩, ⟨"SkewRings$Text", "readNumber", "(I)I"⟩, ⟨"SkewRings$Text", "isDigit", "(I)Z"⟩, ⟨"SkewRings$Text", "signAt", "(I)I"⟩, ⟨"SkewRings$Text", "clear", "()V"⟩, ⟨"SkewRings$Text", "readCouples", "(I)I"⟩, ⟨"SkewRings$Text", "readCouple", "(I)Z"⟩, ⟨"SkewRings$Text", "isPoint", "(I)Z"⟩, ⟨"SkewRings$Text", "pointAt", "(I)I"⟩, ⟨"SkewRings$Text", "valueAt", "(I)I"⟩, ⟨"SkewRings", "<init>", "()V"⟩, ⟨"SkewRings", "field", "(I)I"⟩, ⟨"SkewRings", "placeAt", "(I)LSkewRings$Poly;"⟩, ⟨"SkewRings", "plus", "(II)I"⟩, ⟨"SkewRings", "times", "(II)I"⟩, ⟨"SkewRings", "inverse", "(I)I"⟩, ⟨"SkewRings", "map", "(II)I"⟩, ⟨"SkewRings", "isTurns", "(I)Z"⟩, ⟨"SkewRings", "norm", "(II)I"⟩, ⟨"SkewRings", "conjugates", "(I)I"⟩, ⟨"SkewRings", "startRow", "()V"⟩, ⟨"SkewRings", "tell", "(J)V"⟩, ⟨"SkewRings", "classes", "()I"⟩, ⟨"SkewRings", "sign", "(I)I"⟩, ⟨"SkewRings", "end", "(I)Z"⟩, ⟨"SkewRings", "tells", "(I)I"⟩, ⟨"SkewRings", "degree", "(I)I"⟩, ⟨"SkewRings", "number", "(II)I"⟩, ⟨"SkewRings", "adds", "(III)I"⟩, ⟨"SkewRings", "takes", "(III)I"⟩, ⟨"SkewRings", "scales", "(III)I"⟩, ⟨"SkewRings", "multiplies", "(III)I"⟩, ⟨"SkewRings", "keep", "(LSkewRings$Poly;LSkewRings$Poly;)I"⟩, ⟨"SkewRings", "quotient", "(IIII)I"⟩, ⟨"SkewRings", "divided", "(IIIIZ)I"⟩, ⟨"SkewRings", "isSide", "(I)Z"⟩, ⟨"SkewRings", "remainder", "(IIII)I"⟩, ⟨"SkewRings", "divisor", "(IIII)I"⟩, ⟨"SkewRings", "multiple", "(IIII)I"⟩, ⟨"SkewRings", "steps", "(III)I"⟩, ⟨"SkewRings", "crosses", "(III)I"⟩, ⟨"SkewRings", "maps", "(III)I"⟩, ⟨"SkewRings", "monic", "(I)I"⟩, ⟨"SkewRings", "form", "(II)I"⟩, ⟨"SkewRings", "same", "(II)I"⟩, ⟨"SkewRings", "power", "(III)I"⟩, ⟨"SkewRings", "turned", "(III)I"⟩, ⟨"SkewRings", "cofactors", "(IIII)I"⟩, ⟨"SkewRings", "fits", "(I)I"⟩, ⟨"SkewRings", "value", "(II)I"⟩, ⟨"SkewRings", "roots", "(I)I"⟩, ⟨"SkewRings", "does", "(II)I"⟩, ⟨"SkewRings", "kernel", "(I)I"⟩, ⟨"SkewRings", "solves", "(II)I"⟩, ⟨"SkewRings", "reaches", "(I)I"⟩, ⟨"SkewRings", "basis", "(I)I"⟩, ⟨"SkewRings", "isSet", "(I)Z"⟩, ⟨"SkewRings", "shares", "(II)I"⟩, ⟨"SkewRings", "eigen", "(I)I"⟩, ⟨"SkewRings", "vanishes", "(II)I"⟩, ⟨"SkewRings", "divisors", "(II)I"⟩, ⟨"SkewRings", "refusalOf", "(LSkewRings$Poly;)I"⟩, ⟨"SkewRings", "prime", "(I)I"⟩, ⟨"SkewRings", "factors", "(I)I"⟩, ⟨"SkewRings", "ways", "(I)I"⟩, ⟨"SkewRings", "likes", "(I)I"⟩, ⟨"SkewRings", "like", "(II)I"⟩, ⟨"SkewRings", "commuting", "(I)I"⟩, ⟨"SkewRings", "central", "(I)I"⟩, ⟨"SkewRings", "bound", "(I)I"⟩, ⟨"SkewRings", "part", "(II)I"⟩, ⟨"SkewRings", "primes", "(I)I"⟩, ⟨"SkewRings", "count", "(I)I"⟩, ⟨"SkewRings", "placesInUse", "()I"⟩, ⟨"SkewRings", "factor", "(II)I"⟩, ⟨"SkewRings", "row", "(I)J"⟩, ⟨"SkewRingsModel", "<init>", "()V"⟩, ⟨"SkewRingsModel", "laysField", "(I)V"⟩, ⟨"SkewRingsModel", "powerOfP", "(I)I"⟩, ⟨"SkewRingsModel", "sumOf", "(II)I"⟩, ⟨"SkewRingsModel", "digit", "(II)I"⟩, ⟨"SkewRingsModel", "productOf", "(II)I"⟩, ⟨"SkewRingsModel", "shifted", "(I)I"⟩, ⟨"SkewRingsModel", "mul", "(II)I"⟩, ⟨"SkewRingsModel", "thrown", "()I"⟩, ⟨"SkewRingsModel", "sign", "(I)I"⟩, ⟨"SkewRingsModel", "end", "(I)Z"⟩, ⟨"SkewRingsModel", "in", "(JJJ)Z"⟩, ⟨"SkewRingsModel", "field", "(I)I"⟩, ⟨"SkewRingsModel", "plus", "(II)I"⟩, ⟨"SkewRingsModel", "isNumber", "(I)Z"⟩, ⟨"SkewRingsModel", "add", "(II)I"⟩, ⟨"SkewRingsModel", "times", "(II)I"⟩, ⟨"SkewRingsModel", "inverse", "(I)I"⟩, ⟨"SkewRingsModel", "map", "(II)I"⟩, ⟨"SkewRingsModel", "mapped", "(II)I"⟩, ⟨"SkewRingsModel", "norm", "(II)I"⟩, ⟨"SkewRingsModel", "normOf", "(II)I"⟩, ⟨"SkewRingsModel", "conjugates", "(I)I"⟩, ⟨"SkewRingsModel", "conjugatesOf", "(I)I"⟩, ⟨"SkewRingsModel", "ones", "(I)I"⟩, ⟨"SkewRingsModel", "tell", "(J)V"⟩, ⟨"SkewRingsModel", "classes", "()I"⟩, ⟨"SkewRingsModel", "tells", "(I)I"⟩, ⟨"SkewRingsModel", "readNumbers", "([I)I"⟩, ⟨"SkewRingsModel", "clear", "([I)V"⟩, ⟨"SkewRingsModel", "readNumber", "()I"⟩, ⟨"SkewRingsModel", "here", "()I"⟩, ⟨"SkewRingsModel", "isPlace", "(I)Z"⟩, ⟨"SkewRingsModel", "store", "([II)I"⟩, ⟨"SkewRingsModel", "degreeOf", "([I)I"⟩, ⟨"SkewRingsModel", "degree", "(I)I"⟩, ⟨"SkewRingsModel", "load", "(I[I)V"⟩, ⟨"SkewRingsModel", "number", "(II)I"⟩, ⟨"SkewRingsModel", "adds", "(III)I"⟩, ⟨"SkewRingsModel", "loads", "(III)Z"⟩, ⟨"SkewRingsModel", "addsRow", "([I[I)V"⟩, ⟨"SkewRingsModel", "takes", "(III)I"⟩, ⟨"SkewRingsModel", "lessens", "([I[I)V"⟩, ⟨"SkewRingsModel", "scales", "(III)I"⟩, ⟨"SkewRingsModel", "scalesRow", "(I[I)V"⟩, ⟨"SkewRingsModel", "multiplies", "(III)I"⟩, ⟨"SkewRingsModel", "product", "([I[I[I)V"⟩, ⟨"SkewRingsModel", "copy", "([I[I)V"⟩, ⟨"SkewRingsModel", "quotient", "(IIII)I"⟩, ⟨"SkewRingsModel", "isSide", "(I)Z"⟩, ⟨"SkewRingsModel", "divides", "([I[II)V"⟩, ⟨"SkewRingsModel", "remainder", "(IIII)I"⟩, ⟨"SkewRingsModel", "divisor", "(IIII)I"⟩, ⟨"SkewRingsModel", "euclid", "([I[II)V"⟩, ⟨"SkewRingsModel", "makesMonic", "([II)V"⟩, ⟨"SkewRingsModel", "scalesBehind", "([II)V"⟩, ⟨"SkewRingsModel", "multiple", "(IIII)I"⟩, ⟨"SkewRingsModel", "monic", "(I)I"⟩, ⟨"SkewRingsModel", "steps", "(III)I"⟩, ⟨"SkewRingsModel", "crosses", "(III)I"⟩, ⟨"SkewRingsModel", "maps", "(III)I"⟩, ⟨"SkewRingsModel", "form", "(II)I"⟩, ⟨"SkewRingsModel", "numbersOf", "([I)I"⟩, ⟨"SkewRingsModel", "lowest", "([I)I"⟩, ⟨"SkewRingsModel", "power", "(III)I"⟩, ⟨"SkewRingsModel", "turned", "(III)I"⟩, ⟨"SkewRingsModel", "cofactors", "(IIII)I"⟩, ⟨"SkewRingsModel", "turnsRows", "([I[I)V"⟩, ⟨"SkewRingsModel", "same", "(II)I"⟩, ⟨"SkewRingsModel", "areSame", "([I[I)Z"⟩, ⟨"SkewRingsModel", "value", "(II)I"⟩, ⟨"SkewRingsModel", "valueOf", "([II)I"⟩, ⟨"SkewRingsModel", "roots", "(I)I"⟩, ⟨"SkewRingsModel", "rootsOf", "([I)I"⟩, ⟨"SkewRingsModel", "does", "(II)I"⟩, ⟨"SkewRingsModel", "done", "([II)I"⟩, ⟨"SkewRingsModel", "kernel", "(I)I"⟩, ⟨"SkewRingsModel", "basis", "(I)I"⟩, ⟨"SkewRingsModel", "vanishesToo", "([III)V"⟩, ⟨"SkewRingsModel", "shares", "(II)I"⟩, ⟨"SkewRingsModel", "eigen", "(I)I"⟩, ⟨"SkewRingsModel", "leastDone", "([II)I"⟩, ⟨"SkewRingsModel", "vanishes", "(II)I"⟩, ⟨"SkewRingsModel", "fits", "(I)I"⟩, ⟨"SkewRingsModel", "readCouples", "()I"⟩, ⟨"SkewRingsModel", "isTold", "(II)Z"⟩, ⟨"SkewRingsModel", "solves", "(II)I"⟩, ⟨"SkewRingsModel", "reaches", "(I)I"⟩, ⟨"SkewRingsModel", "divisors", "(II)I"⟩, ⟨"SkewRingsModel", "asks", "(I)I"⟩, ⟨"SkewRingsModel", "countOf", "(I)I"⟩, ⟨"SkewRingsModel", "monicOf", "(II[I)V"⟩, ⟨"SkewRingsModel", "isDivided", "([I[II)Z"⟩, ⟨"SkewRingsModel", "prime", "(I)I"⟩, ⟨"SkewRingsModel", "isPrime", "([I)Z"⟩, ⟨"SkewRingsModel", "leastDivisor", "([I)I"⟩, ⟨"SkewRingsModel", "factors", "(I)I"⟩, ⟨"SkewRingsModel", "factor", "(II)I"⟩, ⟨"SkewRingsModel", "lost", "()I"⟩, ⟨"SkewRingsModel", "ways", "(I)I"⟩, ⟨"SkewRingsModel", "waysOf", "([II)I"⟩, ⟨"SkewRingsModel", "leftOf", "(I)[I"⟩, ⟨"SkewRingsModel", "likes", "(I)I"⟩, ⟨"SkewRingsModel", "firstWay", "([I[I)I"⟩, ⟨"SkewRingsModel", "belowOf", "(II[I)V"⟩, ⟨"SkewRingsModel", "like", "(II)I"⟩, ⟨"SkewRingsModel", "commuting", "(I)I"⟩, ⟨"SkewRingsModel", "central", "(I)I"⟩, ⟨"SkewRingsModel", "isCentral", "([I)Z"⟩, ⟨"SkewRingsModel", "bound", "(I)I"⟩, ⟨"SkewRingsModel", "centralOf", "(II[I)V"⟩, ⟨"SkewRingsModel", "part", "(II)I"⟩, ⟨"SkewRingsModel", "primes", "(I)I"⟩, ⟨"SkewRingsModel", "count", "(I)I"⟩, ⟨"SkewRingsModel", "fullPlaces", "()I"⟩, ⟨"SkewRingsModel", "row", "(I)J"⟩, ⟨"java/lang/Math", "floorMod", "(II)I"⟩, ⟨"java/lang/Math", "max", "(II)I"⟩, ⟨"java/lang/Integer", "bitCount", "(I)I"⟩, ⟨"SkewRingsLaw", "law", "([I)Z"⟩, ⟨"SkewRingsLaw", "factor", "(LSkewRings;II[J)I"⟩, ⟨"SkewRingsLaw", "row", "(LSkewRings;I[J)I"⟩]
def mB : List ByteArray := [prog_5_method_1_code, prog_5_method_3_code, prog_5_method_16_code, prog_5_method_18_code, prog_5_method_17_code, prog_5_method_5_code, prog_5_method_19_code, prog_5_method_6_code, prog_5_method_20_code, prog_5_method_15_code, prog_5_method_11_code, prog_5_method_21_code, prog_5_method_2_code, prog_5_method_4_code, prog_5_method_9_code, prog_5_method_12_code, prog_5_method_14_code, prog_5_method_13_code, prog_5_method_10_code, prog_5_method_8_code, prog_5_method_7_code, prog_8_method_1_code, prog_8_method_4_code, prog_8_method_3_code, prog_8_method_7_code, prog_8_method_2_code, prog_8_method_8_code, prog_8_method_5_code, prog_8_method_9_code, prog_8_method_10_code, prog_8_method_11_code, prog_8_method_12_code, prog_8_method_13_code, prog_8_method_6_code, prog_7_method_1_code, prog_7_method_2_code, prog_9_method_1_code, prog_9_method_2_code, prog_9_method_4_code, prog_9_method_3_code, prog_9_method_5_code, prog_9_method_8_code, prog_9_method_10_code, prog_9_method_11_code, prog_9_method_12_code, prog_9_method_9_code, prog_9_method_14_code, prog_9_method_6_code, prog_9_method_7_code, prog_9_method_18_code, prog_9_method_17_code, prog_9_method_16_code, prog_9_method_15_code, prog_9_method_13_code, prog_4_method_1_code, prog_4_method_2_code, prog_4_method_3_code, prog_4_method_4_code, prog_4_method_5_code, prog_4_method_6_code, prog_4_method_8_code, prog_4_method_9_code, prog_4_method_7_code, prog_12_method_1_code, prog_12_method_10_code, prog_12_method_2_code, prog_12_method_9_code, prog_12_method_3_code, prog_12_method_4_code, prog_12_method_5_code, prog_12_method_6_code, prog_12_method_8_code, prog_12_method_7_code, prog_12_method_11_code, prog_3_method_1_code, prog_3_method_2_code, prog_3_method_7_code, prog_3_method_5_code, prog_3_method_6_code, prog_3_method_8_code, prog_3_method_9_code, prog_3_method_4_code, prog_3_method_3_code, prog_3_method_10_code, prog_10_method_1_code, prog_10_method_2_code, prog_10_method_3_code, prog_10_method_4_code, prog_10_method_8_code, prog_10_method_7_code, prog_10_method_9_code, prog_10_method_5_code, prog_10_method_10_code, prog_10_method_6_code, prog_6_method_1_code, prog_6_method_7_code, prog_6_method_8_code, prog_6_method_9_code, prog_6_method_10_code, prog_6_method_2_code, prog_6_method_4_code, prog_6_method_5_code, prog_6_method_6_code, prog_6_method_3_code, prog_2_method_1_code, prog_2_method_2_code, prog_2_method_3_code, prog_2_method_4_code, prog_2_method_5_code, prog_11_method_1_code, prog_11_method_2_code, prog_11_method_3_code, prog_11_method_10_code, prog_11_method_9_code, prog_11_method_8_code, prog_11_method_7_code, prog_11_method_4_code, prog_11_method_11_code, prog_11_method_12_code, prog_11_method_13_code, prog_11_method_5_code, prog_11_method_6_code, prog_1_method_1_code, prog_1_method_2_code, prog_1_method_57_code, prog_1_method_3_code, prog_1_method_4_code, prog_1_method_5_code, prog_1_method_6_code, prog_1_method_63_code, prog_1_method_7_code, prog_1_method_8_code, prog_1_method_59_code, prog_1_method_60_code, prog_1_method_9_code, prog_1_method_10_code, prog_1_method_11_code, prog_1_method_12_code, prog_1_method_13_code, prog_1_method_14_code, prog_1_method_15_code, prog_1_method_16_code, prog_1_method_17_code, prog_1_method_18_code, prog_1_method_65_code, prog_1_method_19_code, prog_1_method_66_code, prog_1_method_62_code, prog_1_method_20_code, prog_1_method_21_code, prog_1_method_22_code, prog_1_method_23_code, prog_1_method_24_code, prog_1_method_25_code, prog_1_method_26_code, prog_1_method_27_code, prog_1_method_28_code, prog_1_method_29_code, prog_1_method_30_code, prog_1_method_31_code, prog_1_method_32_code, prog_1_method_33_code, prog_1_method_34_code, prog_1_method_35_code, prog_1_method_36_code, prog_1_method_37_code, prog_1_method_38_code, prog_1_method_39_code, prog_1_method_61_code, prog_1_method_40_code, prog_1_method_41_code, prog_1_method_42_code, prog_1_method_43_code, prog_1_method_64_code, prog_1_method_44_code, prog_1_method_45_code, prog_1_method_47_code, prog_1_method_48_code, prog_1_method_49_code, prog_1_method_50_code, prog_1_method_51_code, prog_1_method_52_code, prog_1_method_53_code, prog_1_method_54_code, prog_1_method_55_code, prog_1_method_58_code, prog_1_method_46_code, prog_1_method_56_code, prog_14_method_1_code, prog_14_method_13_code, prog_14_method_9_code, prog_14_method_10_code, prog_14_method_8_code, prog_14_method_12_code, prog_14_method_11_code, prog_14_method_15_code, prog_14_method_2_code, prog_14_method_6_code, prog_14_method_7_code, prog_14_method_3_code, prog_14_method_18_code, prog_14_method_19_code, prog_14_method_17_code, prog_14_method_14_code, prog_14_method_20_code, prog_14_method_21_code, prog_14_method_22_code, prog_14_method_16_code, prog_14_method_24_code, prog_14_method_23_code, prog_14_method_27_code, prog_14_method_26_code, prog_14_method_25_code, prog_14_method_5_code, prog_14_method_28_code, prog_14_method_47_code, prog_14_method_46_code, prog_14_method_30_code, prog_14_method_85_code, prog_14_method_45_code, prog_14_method_43_code, prog_14_method_33_code, prog_14_method_29_code, prog_14_method_48_code, prog_14_method_32_code, prog_14_method_49_code, prog_14_method_51_code, prog_14_method_50_code, prog_14_method_34_code, prog_14_method_52_code, prog_14_method_35_code, prog_14_method_53_code, prog_14_method_36_code, prog_14_method_54_code, prog_14_method_38_code, prog_14_method_31_code, prog_14_method_55_code, prog_14_method_44_code, prog_14_method_39_code, prog_14_method_56_code, prog_14_method_57_code, prog_14_method_42_code, prog_14_method_41_code, prog_14_method_37_code, prog_14_method_58_code, prog_14_method_59_code, prog_14_method_61_code, prog_14_method_62_code, prog_14_method_63_code, prog_14_method_66_code, prog_14_method_64_code, prog_14_method_65_code, prog_14_method_67_code, prog_14_method_68_code, prog_14_method_70_code, prog_14_method_69_code, prog_14_method_71_code, prog_14_method_60_code, prog_14_method_73_code, prog_14_method_72_code, prog_14_method_75_code, prog_14_method_74_code, prog_14_method_77_code, prog_14_method_76_code, prog_14_method_78_code, prog_14_method_80_code, prog_14_method_79_code, prog_14_method_81_code, prog_14_method_83_code, prog_14_method_82_code, prog_14_method_84_code, prog_14_method_88_code, prog_14_method_87_code, prog_14_method_86_code, prog_14_method_89_code, prog_14_method_90_code, prog_14_method_94_code, prog_14_method_93_code, prog_14_method_92_code, prog_14_method_91_code, prog_14_method_40_code, prog_14_method_97_code, prog_14_method_96_code, prog_14_method_95_code, prog_14_method_98_code, prog_14_method_99_code, prog_14_method_4_code, prog_14_method_102_code, prog_14_method_101_code, prog_14_method_100_code, prog_14_method_105_code, prog_14_method_104_code, prog_14_method_103_code, prog_14_method_106_code, prog_14_method_107_code, prog_14_method_109_code, prog_14_method_108_code, prog_14_method_111_code, prog_14_method_110_code, prog_14_method_112_code, prog_14_method_113_code, prog_14_method_115_code, prog_14_method_114_code, prog_14_method_116_code, prog_18_method_50_code, prog_18_method_65_code, prog_17_method_49_code, code, method_3_code, method_4_code]
def mL : List Nat := [1, 3, 3, 5, 3, 4, 6, 4, 4, 4, 4, 4, 1, 2, 2, 5, 4, 3, 3, 3, 2, 1, 2, 3, 4, 2, 1, 2, 3, 2, 1, 2, 3, 2, 1, 4, 2, 5, 3, 5, 5, 7, 9, 7, 7, 5, 4, 5, 5, 4, 3, 4, 8, 3, 2, 5, 5, 2, 3, 4, 5, 2, 4, 3, 7, 6, 4, 4, 5, 5, 4, 5, 4, 6, 4, 1, 6, 3, 6, 4, 5, 2, 2, 8, 2, 1, 5, 7, 3, 2, 8, 3, 6, 2, 5, 6, 3, 9, 5, 4, 5, 6, 3, 5, 4, 4, 4, 6, 6, 1, 3, 2, 5, 3, 2, 2, 1, 3, 4, 3, 2, 2, 2, 4, 2, 3, 3, 2, 3, 1, 3, 3, 1, 3, 4, 2, 2, 4, 3, 4, 7, 7, 6, 7, 2, 5, 9, 1, 5, 8, 8, 8, 7, 6, 4, 4, 5, 7, 6, 9, 4, 4, 4, 4, 4, 5, 4, 3, 2, 7, 6, 4, 7, 1, 4, 7, 4, 3, 7, 4, 3, 5, 6, 2, 2, 4, 4, 2, 1, 4, 4, 5, 5, 7, 5, 3, 1, 3, 2, 6, 3, 3, 2, 3, 3, 2, 3, 6, 3, 5, 3, 4, 3, 3, 3, 2, 4, 2, 3, 1, 1, 4, 2, 2, 4, 3, 4, 4, 4, 4, 4, 4, 4, 4, 8, 3, 5, 1, 7, 5, 5, 4, 5, 4, 5, 4, 5, 4, 5, 4, 3, 2, 5, 4, 6, 3, 3, 3, 3, 5, 3, 4, 3, 5, 6, 5, 4, 5, 5, 4, 5, 6, 4, 4, 5, 4, 7, 3, 4, 6, 4, 3, 2, 5, 5, 4, 1, 3, 7, 2, 5, 5, 6, 7, 6, 2, 3, 5, 6, 6, 4, 2, 3, 2, 3, 2, 1, 8, 5, 4]
def mR : List (Option FieldType) := [none, none, none, none, none, some (.int), none, some (.int), some (.int), some (.int), some (.int), some (.int), some (.boolean), some (.boolean), some (.int), some (.int), some (.int), some (.int), some (.int), some (.int), some (.int), none, none, none, none, some (.int), some (.int), none, some (.int), some (.int), some (.boolean), some (.boolean), some (.int), none, none, none, none, none, some (.int), none, none, none, none, none, none, none, none, none, none, some (.int), none, none, some (.boolean), some (.boolean), none, none, none, none, none, none, some (.int), some (.int), some (.int), none, some (.boolean), some (.int), some (.boolean), some (.int), some (.int), some (.int), some (.int), some (.int), some (.int), some (.int), none, none, some (.int), some (.int), some (.boolean), some (.boolean), some (.int), some (.object "SkewRings$Poly"), some (.object "SkewRings$Poly"), some (.int), none, none, some (.boolean), none, none, some (.int), none, some (.boolean), none, some (.int), none, some (.int), some (.int), some (.int), some (.int), some (.boolean), none, none, none, some (.int), none, some (.boolean), some (.int), none, none, none, some (.boolean), some (.boolean), some (.int), some (.int), some (.boolean), some (.int), none, some (.int), some (.boolean), some (.boolean), some (.int), some (.int), none, some (.int), some (.object "SkewRings$Poly"), some (.int), some (.int), some (.int), some (.int), some (.boolean), some (.int), some (.int), none, none, some (.int), some (.int), some (.boolean), some (.int), some (.int), some (.int), some (.int), some (.int), some (.int), some (.int), some (.int), some (.int), some (.int), some (.boolean), some (.int), some (.int), some (.int), some (.int), some (.int), some (.int), some (.int), some (.int), some (.int), some (.int), some (.int), some (.int), some (.int), some (.int), some (.int), some (.int), some (.int), some (.int), some (.int), some (.int), some (.boolean), some (.int), some (.int), some (.int), some (.int), some (.int), some (.int), some (.int), some (.int), some (.int), some (.int), some (.int), some (.int), some (.int), some (.int), some (.int), some (.int), some (.int), some (.int), some (.long), none, none, some (.int), some (.int), some (.int), some (.int), some (.int), some (.int), some (.int), some (.int), some (.boolean), some (.boolean), some (.int), some (.int), some (.boolean), some (.int), some (.int), some (.int), some (.int), some (.int), some (.int), some (.int), some (.int), some (.int), some (.int), none, some (.int), some (.int), some (.int), none, some (.int), some (.int), some (.boolean), some (.int), some (.int), some (.int), none, some (.int), some (.int), some (.boolean), none, some (.int), none, some (.int), none, some (.int), none, none, some (.int), some (.boolean), none, some (.int), some (.int), none, none, none, some (.int), some (.int), some (.int), some (.int), some (.int), some (.int), some (.int), some (.int), some (.int), some (.int), some (.int), none, some (.int), some (.boolean), some (.int), some (.int), some (.int), some (.int), some (.int), some (.int), some (.int), some (.int), none, some (.int), some (.int), some (.int), some (.int), some (.int), some (.int), some (.boolean), some (.int), some (.int), some (.int), some (.int), some (.int), none, some (.boolean), some (.int), some (.boolean), some (.int), some (.int), some (.int), some (.int), some (.int), some (.int), some (.array .int), some (.int), some (.int), none, some (.int), some (.int), some (.int), some (.boolean), some (.int), none, some (.int), some (.int), some (.int), some (.int), some (.long), some (.int), some (.int), some (.int), some (.boolean), some (.int), some (.int)]
/-- how many parameters, the receiver apart -/
def mA : List Nat := [0, 1, 0, 0, 3, 2, 0, 2, 1, 1, 2, 1, 1, 1, 1, 2, 1, 2, 2, 2, 1, 0, 0, 2, 1, 1, 0, 1, 0, 0, 0, 1, 1, 1, 0, 3, 1, 3, 3, 3, 3, 3, 5, 4, 4, 4, 2, 3, 3, 2, 2, 2, 2, 2, 1, 3, 4, 0, 2, 3, 3, 1, 2, 2, 2, 2, 2, 1, 2, 2, 1, 2, 2, 0, 2, 0, 3, 2, 5, 1, 1, 2, 1, 2, 1, 0, 2, 2, 3, 2, 4, 0, 3, 1, 3, 1, 1, 1, 4, 2, 2, 1, 0, 2, 3, 1, 1, 2, 3, 0, 1, 1, 2, 1, 1, 1, 0, 1, 1, 1, 1, 1, 0, 1, 1, 2, 2, 1, 2, 1, 2, 1, 0, 1, 0, 1, 1, 1, 1, 2, 3, 3, 3, 3, 2, 4, 5, 1, 4, 4, 4, 3, 3, 3, 1, 2, 2, 3, 3, 4, 1, 2, 1, 2, 1, 2, 1, 1, 1, 2, 1, 2, 2, 1, 1, 1, 1, 1, 2, 1, 1, 1, 2, 1, 1, 0, 2, 1, 0, 1, 1, 2, 2, 2, 1, 2, 0, 1, 1, 3, 1, 2, 1, 2, 2, 1, 2, 2, 2, 2, 1, 1, 1, 1, 0, 1, 1, 1, 0, 0, 1, 2, 1, 1, 2, 2, 3, 3, 2, 3, 2, 3, 2, 3, 3, 2, 4, 1, 3, 4, 4, 3, 2, 2, 4, 1, 3, 3, 3, 2, 1, 1, 3, 3, 4, 2, 2, 2, 2, 2, 1, 1, 2, 2, 1, 1, 3, 2, 1, 2, 2, 1, 0, 2, 2, 1, 2, 1, 1, 3, 3, 1, 1, 1, 1, 2, 0, 1, 2, 1, 1, 2, 3, 2, 1, 1, 1, 1, 3, 2, 1, 1, 0, 1, 2, 2, 1, 1, 4, 3]
/-- 1: static -/
def mS : List Nat := [0, 0, 0, 0, 1, 0, 0, 0, 0, 0, 0, 0, 1, 0, 0, 0, 0, 0, 0, 0, 0, 0, 0, 0, 0, 0, 0, 0, 0, 0, 0, 0, 0, 0, 0, 0, 0, 0, 1, 0, 0, 0, 0, 0, 0, 0, 0, 0, 0, 0, 0, 0, 0, 0, 0, 0, 0, 0, 0, 0, 0, 0, 0, 0, 0, 0, 0, 0, 0, 0, 0, 0, 0, 0, 0, 0, 0, 0, 0, 0, 0, 1, 0, 0, 0, 0, 0, 0, 1, 1, 0, 0, 0, 0, 0, 0, 0, 0, 0, 0, 0, 0, 0, 0, 0, 0, 0, 0, 0, 0, 0, 0, 0, 0, 0, 0, 0, 0, 0, 0, 0, 0, 0, 0, 0, 0, 0, 0, 0, 1, 0, 0, 0, 0, 0, 0, 0, 0, 0, 0, 0, 0, 0, 0, 1, 0, 0, 1, 0, 0, 0, 0, 0, 0, 0, 0, 0, 0, 0, 0, 0, 0, 0, 0, 0, 0, 0, 0, 0, 0, 0, 0, 0, 1, 0, 0, 0, 0, 0, 0, 0, 0, 0, 0, 0, 0, 0, 0, 0, 0, 0, 0, 0, 0, 0, 0, 0, 0, 0, 1, 0, 0, 0, 0, 0, 0, 0, 0, 0, 0, 0, 0, 1, 0, 0, 0, 0, 1, 0, 0, 1, 0, 1, 0, 0, 0, 0, 0, 0, 0, 0, 0, 0, 0, 0, 1, 0, 1, 0, 0, 0, 0, 0, 0, 0, 0, 0, 0, 0, 0, 1, 1, 0, 0, 0, 0, 0, 1, 0, 0, 0, 0, 0, 0, 0, 0, 0, 0, 0, 0, 0, 0, 0, 0, 0, 0, 0, 0, 0, 0, 0, 0, 0, 0, 0, 0, 0, 0, 0, 0, 0, 0, 0, 0, 0, 0, 0, 0, 0, 0, 0, 0, 0, 0, 1, 1, 1, 1, 1, 1]
def mK : List Nat := [3, 3, 3, 3, 3, 3, 3, 3, 3, 3, 3, 3, 3, 3, 3, 3, 3, 3, 3, 3, 3, 6, 6, 6, 6, 6, 6, 6, 6, 6, 6, 6, 6, 6, 5, 5, 7, 7, 7, 7, 7, 7, 7, 7, 7, 7, 7, 7, 7, 7, 7, 7, 7, 7, 2, 2, 2, 2, 2, 2, 2, 2, 2, 10, 10, 10, 10, 10, 10, 10, 10, 10, 10, 10, 1, 1, 1, 1, 1, 1, 1, 1, 1, 1, 8, 8, 8, 8, 8, 8, 8, 8, 8, 8, 4, 4, 4, 4, 4, 4, 4, 4, 4, 4, 0, 0, 0, 0, 0, 9, 9, 9, 9, 9, 9, 9, 9, 9, 9, 9, 9, 9, 11, 11, 11, 11, 11, 11, 11, 11, 11, 11, 11, 11, 11, 11, 11, 11, 11, 11, 11, 11, 11, 11, 11, 11, 11, 11, 11, 11, 11, 11, 11, 11, 11, 11, 11, 11, 11, 11, 11, 11, 11, 11, 11, 11, 11, 11, 11, 11, 11, 11, 11, 11, 11, 11, 11, 11, 11, 11, 11, 11, 11, 11, 11, 11, 11, 11, 12, 12, 12, 12, 12, 12, 12, 12, 12, 12, 12, 12, 12, 12, 12, 12, 12, 12, 12, 12, 12, 12, 12, 12, 12, 12, 12, 12, 12, 12, 12, 12, 12, 12, 12, 12, 12, 12, 12, 12, 12, 12, 12, 12, 12, 12, 12, 12, 12, 12, 12, 12, 12, 12, 12, 12, 12, 12, 12, 12, 12, 12, 12, 12, 12, 12, 12, 12, 12, 12, 12, 12, 12, 12, 12, 12, 12, 12, 12, 12, 12, 12, 12, 12, 12, 12, 12, 12, 12, 12, 12, 12, 12, 12, 12, 12, 12, 12, 12, 12, 12, 12, 12, 12, 12, 12, 12, 12, 12, 12, 12, 12, 12, 12, 12, 12, 14, 14, 15, 13, 13, 13]
def mC : List (Nat × Nat) := [(5, 608), (0, 0), (0, 0), (0, 0), (0, 0), (0, 0), (0, 0), (0, 0), (0, 0), (0, 0), (0, 0), (0, 0), (0, 0), (0, 0), (0, 0), (0, 0), (0, 0), (0, 0), (0, 0), (0, 0), (0, 0), (1, 17), (0, 0), (0, 0), (0, 0), (0, 0), (0, 0), (0, 0), (0, 0), (0, 0), (0, 0), (0, 0), (0, 0), (0, 0), (6, 57), (0, 0), (10, 95), (0, 0), (0, 0), (0, 0), (0, 0), (0, 0), (0, 0), (0, 0), (0, 0), (0, 0), (0, 0), (0, 0), (0, 0), (0, 0), (0, 0), (0, 0), (0, 0), (0, 0), (26, 238), (0, 0), (0, 0), (0, 0), (0, 0), (0, 0), (0, 0), (0, 0), (0, 0), (6, 57), (0, 0), (0, 0), (0, 0), (0, 0), (0, 0), (0, 0), (0, 0), (0, 0), (0, 0), (0, 0), (35, 316), (0, 0), (0, 0), (0, 0), (0, 0), (0, 0), (0, 0), (0, 0), (0, 0), (0, 0), (3, 850), (0, 0), (0, 0), (0, 0), (0, 0), (0, 0), (0, 0), (0, 0), (0, 0), (0, 0), (43, 668), (0, 0), (0, 0), (0, 0), (0, 0), (0, 0), (0, 0), (0, 0), (0, 0), (0, 0), (2, 19), (0, 0), (0, 0), (0, 0), (0, 0), (3, 52), (0, 0), (0, 0), (0, 0), (0, 0), (0, 0), (0, 0), (0, 0), (0, 0), (0, 0), (0, 0), (0, 0), (0, 0), (160, 3167), (0, 0), (0, 0), (0, 0), (0, 0), (0, 0), (0, 0), (0, 0), (0, 0), (0, 0), (0, 0), (0, 0), (0, 0), (0, 0), (0, 0), (0, 0), (0, 0), (0, 0), (0, 0), (0, 0), (0, 0), (0, 0), (0, 0), (0, 0), (0, 0), (0, 0), (0, 0), (0, 0), (0, 0), (0, 0), (0, 0), (0, 0), (0, 0), (0, 0), (0, 0), (0, 0), (0, 0), (0, 0), (0, 0), (0, 0), (0, 0), (0, 0), (0, 0), (0, 0), (0, 0), (0, 0), (0, 0), (0, 0), (0, 0), (0, 0), (0, 0), (0, 0), (0, 0), (0, 0), (0, 0), (0, 0), (0, 0), (0, 0), (0, 0), (0, 0), (0, 0), (0, 0), (0, 0), (0, 0), (0, 0), (0, 0), (36, 1880), (0, 0), (0, 0), (0, 0), (0, 0), (0, 0), (0, 0), (0, 0), (0, 0), (0, 0), (0, 0), (0, 0), (0, 0), (0, 0), (0, 0), (0, 0), (0, 0), (0, 0), (0, 0), (0, 0), (0, 0), (0, 0), (0, 0), (0, 0), (0, 0), (0, 0), (0, 0), (0, 0), (0, 0), (0, 0), (0, 0), (0, 0), (0, 0), (0, 0), (0, 0), (0, 0), (0, 0), (0, 0), (0, 0), (0, 0), (0, 0), (0, 0), (0, 0), (0, 0), (0, 0), (0, 0), (0, 0), (0, 0), (0, 0), (0, 0), (0, 0), (0, 0), (0, 0), (0, 0), (0, 0), (0, 0), (0, 0), (0, 0), (0, 0), (0, 0), (0, 0), (0, 0), (0, 0), (0, 0), (0, 0), (0, 0), (0, 0), (0, 0), (0, 0), (0, 0), (0, 0), (0, 0), (0, 0), (0, 0), (0, 0), (0, 0), (0, 0), (0, 0), (0, 0), (0, 0), (0, 0), (0, 0), (0, 0), (0, 0), (0, 0), (0, 0), (0, 0), (0, 0), (0, 0), (0, 0), (0, 0), (0, 0), (0, 0), (0, 0), (0, 0), (0, 0), (0, 0), (0, 0), (0, 0), (0, 0), (0, 0), (0, 0), (0, 0), (0, 0), (0, 0), (0, 0), (0, 0), (0, 0), (0, 0), (0, 0), (0, 0), (0, 0), (0, 0), (0, 0), (0, 0), (0, 0), (0, 0), (0, 0), (0, 0), (601024, 7293034), (0, 0), (0, 0)]
def yOf (t : Nat) : MethodName := mY.getD t ⟨"", "", ""⟩
def bOf (t : Nat) : ByteArray := mB.getD t ⟨#[]⟩
def lOf (t : Nat) : Nat := mL.getD t 0
def rOf (t : Nat) : Option FieldType := mR.getD t none
def aOf (t : Nat) : Nat := mA.getD t 0
def sOf (t : Nat) : Nat := mS.getD t 0
def kOf (t : Nat) : Nat := mK.getD t 0
def cOf (t : Nat) : Nat × Nat := mC.getD t (0, 0)
-- links: own class, index, what
def FL : List (Nat × Nat × Nat × Nat × Nat) := [(11, 106, 3, 0, 1), (3, 25, 3, 0, 0), (11, 120, 3, 1, 1), (10, 50, 3, 1, 1), (3, 35, 3, 1, 0), (1, 53, 3, 1, 1), (4, 122, 3, 1, 1), (0, 43, 3, 2, 1), (3, 29, 3, 2, 0), (8, 61, 3, 2, 1), (4, 116, 3, 2, 1), (11, 349, 3, 2, 1), (0, 34, 3, 3, 1), (3, 32, 3, 3, 0), (4, 83, 3, 3, 1), (8, 56, 3, 3, 1), (11, 352, 3, 3, 1), (3, 9, 3, 4, 0), (3, 13, 3, 5, 0), (3, 16, 3, 6, 0), (3, 19, 3, 7, 0), (3, 22, 3, 8, 0), (6, 11, 6, 0, 0), (6, 15, 6, 1, 0), (0, 30, 6, 1, 1), (10, 30, 6, 1, 1), (2, 49, 6, 1, 1), (7, 53, 6, 1, 1), (4, 80, 6, 1, 1), (1, 58, 6, 1, 1), (11, 179, 6, 1, 1), (7, 28, 7, 0, 0), (2, 88, 7, 0, 1), (7, 10, 7, 1, 0), (7, 16, 7, 2, 0), (7, 19, 7, 3, 0), (7, 22, 7, 4, 0), (7, 25, 7, 5, 0), (5, 10, 5, 0, 0), (2, 46, 5, 0, 1), (5, 16, 5, 1, 0), (2, 59, 5, 1, 1), (5, 19, 5, 2, 0), (2, 66, 5, 2, 1), (2, 38, 2, 0, 0), (2, 12, 2, 1, 0), (2, 18, 2, 2, 0), (2, 21, 2, 3, 0), (2, 27, 2, 4, 0), (2, 31, 2, 5, 0), (2, 34, 2, 6, 0), (10, 22, 10, 0, 0), (10, 26, 10, 1, 0), (10, 10, 10, 2, 0), (10, 16, 10, 3, 0), (10, 19, 10, 4, 0), (1, 37, 1, 0, 0), (1, 41, 1, 1, 0), (1, 12, 1, 2, 0), (1, 18, 1, 3, 0), (1, 21, 1, 4, 0), (1, 24, 1, 5, 0), (1, 27, 1, 6, 0), (1, 31, 1, 7, 0), (1, 34, 1, 8, 0), (1, 45, 1, 9, 0), (11, 358, 1, 9, 1), (8, 19, 8, 0, 0), (8, 9, 8, 1, 0), (8, 13, 8, 2, 0), (8, 16, 8, 3, 0), (8, 23, 8, 4, 0), (8, 27, 8, 5, 0), (4, 40, 4, 0, 0), (4, 44, 4, 1, 0), (4, 48, 4, 2, 0), (4, 12, 4, 3, 0), (4, 18, 4, 4, 0), (4, 21, 4, 5, 0), (4, 24, 4, 6, 0), (4, 28, 4, 7, 0), (4, 34, 4, 8, 0), (4, 37, 4, 9, 0), (11, 324, 4, 9, 1), (4, 69, 4, 10, 0), (4, 56, 4, 11, 0), (11, 330, 4, 11, 1), (0, 18, 0, 0, 0), (0, 22, 0, 1, 0), (0, 26, 0, 2, 0), (0, 12, 0, 3, 0), (9, 11, 9, 0, 0), (9, 15, 9, 1, 0), (9, 18, 9, 2, 0), (9, 21, 9, 3, 0), (11, 164, 9, 3, 1), (10, 89, 9, 4, 1), (9, 51, 9, 4, 0), (9, 29, 9, 5, 0), (9, 32, 9, 6, 0), (11, 10, 11, 0, 0), (11, 21, 11, 1, 0), (11, 30, 11, 2, 0), (11, 39, 11, 3, 0), (11, 46, 11, 4, 0), (11, 53, 11, 5, 0), (11, 62, 11, 6, 0), (11, 69, 11, 7, 0), (11, 75, 11, 8, 0), (11, 82, 11, 9, 0), (11, 86, 11, 10, 0), (11, 361, 11, 11, 0), (11, 91, 11, 12, 0), (11, 95, 11, 13, 0), (12, 158, 12, 0, 0), (12, 161, 12, 1, 0), (12, 138, 12, 2, 0), (12, 141, 12, 3, 0), (12, 7, 12, 4, 0), (12, 13, 12, 5, 0), (12, 16, 12, 6, 0), (12, 19, 12, 7, 0), (12, 22, 12, 8, 0), (12, 25, 12, 9, 0), (12, 28, 12, 10, 0), (12, 131, 12, 11, 0), (12, 32, 12, 12, 0), (12, 128, 12, 13, 0), (12, 124, 12, 14, 0), (12, 172, 12, 15, 0), (12, 36, 12, 16, 0), (12, 39, 12, 17, 0), (12, 42, 12, 18, 0), (12, 45, 12, 19, 0), (12, 48, 12, 20, 0), (12, 51, 12, 21, 0), (12, 54, 12, 22, 0), (12, 57, 12, 23, 0), (12, 60, 12, 24, 0), (12, 63, 12, 25, 0), (12, 66, 12, 26, 0), (12, 69, 12, 27, 0), (12, 72, 12, 28, 0), (12, 235, 12, 29, 0), (12, 238, 12, 30, 0), (12, 75, 12, 31, 0), (12, 78, 12, 32, 0), (12, 81, 12, 33, 0), (12, 84, 12, 34, 0), (12, 87, 12, 35, 0), (12, 90, 12, 36, 0), (12, 93, 12, 37, 0), (12, 96, 12, 38, 0), (12, 99, 12, 39, 0), (12, 102, 12, 40, 0), (12, 105, 12, 41, 0), (12, 108, 12, 42, 0), (12, 111, 12, 43, 0), (12, 114, 12, 44, 0), (12, 117, 12, 45, 0)]
def MK : List (Nat × Nat × Nat × Nat) := [(13, 19, 122, 2), (11, 9, 0, 5), (11, 18, 36, 2), (7, 9, 21, 5), (11, 27, 54, 2), (2, 11, 34, 5), (5, 9, 21, 5), (2, 26, 21, 5), (11, 36, 63, 2), (10, 9, 21, 5), (11, 45, 74, 2), (1, 11, 21, 5), (11, 52, 84, 2), (11, 59, 94, 2), (4, 11, 21, 5), (11, 68, 104, 2), (0, 11, 21, 5), (11, 81, 109, 5), (11, 90, 21, 5), (11, 98, 1, 0), (3, 38, 2, 0), (3, 69, 3, 0), (3, 75, 4, 1), (3, 45, 5, 0), (3, 72, 6, 0), (3, 52, 7, 0), (3, 82, 8, 0), (3, 85, 9, 0), (3, 60, 10, 0), (3, 55, 304, 1), (3, 79, 11, 0), (13, 23, 123, 0), (11, 102, 12, 1), (11, 110, 75, 0), (11, 113, 124, 0), (11, 117, 22, 0), (13, 28, 125, 0), (11, 123, 13, 0), (11, 126, 5, 0), (13, 32, 126, 0), (11, 130, 7, 0), (13, 36, 127, 0), (11, 133, 14, 0), (13, 40, 128, 0), (11, 137, 129, 1), (11, 140, 10, 0), (13, 44, 130, 0), (11, 143, 15, 0), (13, 48, 131, 0), (11, 146, 16, 0), (3, 66, 17, 0), (3, 63, 18, 0), (3, 49, 14, 0), (11, 149, 132, 0), (11, 152, 306, 1), (11, 157, 133, 0), (13, 52, 134, 0), (13, 57, 135, 0), (11, 161, 110, 0), (13, 61, 136, 0), (11, 167, 111, 0), (13, 66, 137, 0), (11, 170, 112, 0), (9, 39, 22, 0), (9, 44, 113, 0), (9, 35, 114, 0), (9, 25, 115, 0), (9, 47, 23, 0), (11, 174, 116, 0), (11, 175, 24, 0), (6, 26, 305, 1), (6, 32, 25, 0), (13, 70, 138, 0), (13, 74, 139, 0), (11, 182, 25, 0), (13, 78, 140, 0), (11, 185, 37, 0), (7, 32, 38, 1), (7, 57, 305, 1), (7, 36, 25, 0), (7, 40, 5, 0), (7, 46, 23, 0), (13, 83, 141, 0), (11, 188, 39, 0), (7, 50, 19, 0), (3, 41, 20, 0), (13, 87, 142, 0), (11, 191, 40, 0), (7, 62, 7, 0), (13, 91, 143, 0), (11, 195, 41, 0), (7, 67, 22, 0), (7, 64, 10, 0), (7, 70, 24, 0), (11, 197, 144, 1), (13, 95, 145, 0), (11, 201, 146, 0), (11, 205, 147, 1), (11, 364, 42, 0), (7, 77, 26, 0), (7, 81, 18, 0), (7, 84, 43, 0), (7, 88, 44, 0), (13, 100, 148, 0), (13, 104, 149, 0), (11, 208, 55, 0), (2, 42, 35, 0), (5, 22, 24, 0), (5, 26, 27, 0), (6, 19, 22, 0), (6, 22, 23, 0), (2, 53, 42, 0), (2, 62, 56, 0), (2, 72, 45, 0), (7, 74, 41, 0), (2, 76, 39, 0), (2, 69, 57, 0), (11, 212, 58, 0), (2, 80, 24, 0), (2, 84, 46, 0), (7, 95, 14, 0), (7, 98, 40, 0), (7, 102, 47, 0), (13, 108, 150, 0), (11, 216, 59, 0), (13, 112, 151, 0), (11, 220, 60, 0), (11, 224, 61, 0), (13, 116, 152, 0), (13, 120, 153, 0), (11, 227, 48, 0), (13, 124, 154, 0), (11, 230, 26, 0), (11, 234, 46, 0), (13, 128, 155, 0), (11, 238, 28, 0), (11, 241, 29, 0), (11, 244, 30, 0), (13, 132, 156, 0), (11, 248, 31, 0), (6, 36, 32, 0), (13, 136, 157, 0), (11, 252, 27, 0), (13, 140, 158, 0), (11, 253, 47, 0), (13, 144, 159, 0), (11, 256, 62, 0), (2, 92, 26, 0), (2, 96, 14, 0), (2, 102, 40, 0), (13, 148, 160, 0), (11, 259, 117, 0), (9, 54, 118, 0), (9, 57, 119, 0), (9, 60, 120, 0), (11, 262, 64, 0), (10, 86, 22, 0), (10, 60, 27, 0), (10, 94, 120, 0), (10, 97, 121, 0), (10, 53, 65, 0), (10, 34, 25, 0), (10, 38, 7, 0), (10, 44, 5, 0), (10, 47, 10, 0), (10, 99, 19, 0), (10, 102, 18, 0), (10, 105, 40, 0), (10, 109, 37, 0), (10, 64, 66, 0), (10, 68, 33, 0), (10, 71, 17, 0), (10, 74, 20, 0), (10, 77, 23, 0), (10, 81, 41, 0), (13, 152, 161, 0), (11, 266, 65, 0), (13, 156, 162, 0), (11, 270, 67, 0), (13, 160, 163, 0), (11, 274, 68, 0), (13, 164, 164, 0), (11, 277, 69, 0), (10, 57, 68, 0), (11, 280, 70, 0), (13, 168, 165, 0), (13, 172, 166, 0), (11, 283, 49, 0), (7, 110, 50, 0), (7, 106, 27, 0), (7, 114, 51, 0), (7, 117, 31, 0), (13, 176, 167, 0), (11, 286, 168, 0), (11, 289, 71, 0), (13, 180, 169, 0), (13, 184, 170, 0), (11, 292, 72, 0), (13, 188, 171, 0), (13, 192, 172, 0), (11, 295, 173, 1), (11, 298, 76, 0), (1, 90, 77, 0), (1, 94, 78, 0), (1, 61, 24, 0), (1, 65, 46, 0), (1, 71, 26, 0), (1, 75, 27, 0), (1, 79, 33, 0), (1, 82, 23, 0), (1, 86, 42, 0), (1, 98, 32, 0), (13, 196, 174, 0), (11, 302, 79, 0), (13, 200, 175, 0), (11, 305, 80, 0), (1, 49, 81, 1), (1, 102, 76, 0), (11, 308, 82, 0), (13, 213, 176, 0), (11, 314, 83, 3), (1, 106, 79, 0), (1, 110, 83, 0), (13, 217, 177, 0), (11, 317, 95, 0), (4, 125, 27, 0), (4, 94, 23, 0), (4, 128, 96, 0), (4, 135, 25, 0), (4, 138, 51, 0), (4, 141, 18, 0), (4, 145, 20, 0), (4, 132, 97, 0), (4, 148, 98, 0), (4, 152, 7, 0), (4, 154, 19, 0), (13, 221, 178, 0), (11, 320, 99, 0), (4, 52, 100, 0), (4, 72, 22, 0), (4, 75, 85, 0), (4, 86, 33, 0), (4, 90, 9, 0), (4, 98, 41, 0), (4, 102, 42, 0), (4, 106, 86, 0), (8, 30, 87, 0), (8, 34, 88, 1), (8, 50, 25, 0), (8, 38, 89, 1), (8, 42, 90, 0), (8, 46, 91, 0), (8, 64, 92, 0), (4, 110, 101, 0), (4, 113, 93, 0), (4, 60, 102, 0), (4, 119, 37, 0), (4, 63, 52, 0), (7, 91, 42, 0), (13, 225, 179, 0), (11, 327, 103, 0), (13, 229, 180, 0), (11, 333, 105, 0), (0, 39, 25, 0), (13, 233, 181, 0), (11, 336, 106, 0), (0, 46, 85, 0), (0, 51, 50, 0), (0, 57, 86, 0), (0, 61, 51, 0), (11, 339, 93, 0), (13, 237, 182, 0), (11, 342, 107, 0), (0, 64, 108, 0), (0, 76, 33, 0), (0, 79, 23, 0), (0, 68, 53, 0), (0, 72, 27, 0), (13, 241, 183, 0), (11, 346, 73, 0), (10, 111, 15, 0), (10, 114, 306, 1), (13, 245, 184, 0), (11, 355, 185, 0), (13, 7, 186, 0), (13, 15, 187, 0), (13, 22, 188, 2), (12, 120, 189, 0), (12, 148, 190, 0), (12, 152, 191, 0), (12, 144, 192, 0), (12, 164, 193, 0), (12, 155, 194, 0), (12, 167, 195, 0), (13, 210, 196, 0), (13, 60, 197, 0), (13, 65, 198, 0), (12, 134, 199, 1), (13, 27, 200, 0), (13, 31, 201, 0), (12, 175, 202, 0), (12, 179, 203, 0), (13, 35, 204, 0), (13, 39, 205, 0), (13, 43, 206, 0), (12, 186, 207, 0), (13, 47, 208, 0), (12, 189, 209, 0), (13, 51, 210, 0), (12, 192, 211, 0), (12, 195, 212, 1), (12, 198, 213, 0), (13, 56, 214, 0), (13, 69, 215, 0), (12, 248, 216, 0), (12, 202, 217, 1), (12, 241, 218, 0), (12, 245, 219, 0), (12, 251, 220, 1), (12, 254, 221, 0), (12, 206, 222, 1), (13, 73, 223, 0), (12, 258, 224, 0), (13, 77, 225, 0), (13, 82, 226, 0), (12, 261, 227, 0), (12, 265, 228, 0), (13, 86, 229, 0), (12, 218, 230, 0), (13, 90, 231, 0), (12, 225, 232, 0), (13, 94, 233, 0), (12, 214, 234, 0), (12, 210, 235, 1), (13, 99, 236, 0), (12, 268, 237, 1), (12, 221, 238, 0), (13, 103, 239, 0), (13, 107, 240, 0), (12, 271, 241, 0), (12, 274, 242, 0), (12, 229, 243, 0), (13, 111, 244, 0), (13, 127, 245, 0), (13, 115, 246, 0), (13, 119, 247, 0), (13, 123, 248, 0), (13, 131, 249, 0), (12, 277, 250, 1), (12, 280, 251, 1), (13, 139, 252, 0), (13, 143, 253, 0), (13, 147, 254, 0), (12, 283, 255, 0), (13, 135, 256, 0), (12, 286, 257, 1), (13, 155, 258, 0), (12, 290, 259, 0), (13, 159, 260, 0), (12, 293, 261, 0), (13, 163, 262, 0), (12, 296, 263, 0), (13, 167, 264, 0), (13, 179, 265, 0), (12, 299, 266, 0), (13, 183, 267, 0), (13, 187, 268, 0), (12, 303, 269, 0), (13, 191, 270, 0), (13, 151, 271, 0), (12, 314, 272, 0), (12, 310, 273, 0), (13, 171, 274, 0), (13, 175, 275, 0), (13, 195, 276, 0), (12, 317, 277, 0), (12, 320, 278, 0), (12, 323, 279, 0), (12, 327, 280, 0), (13, 199, 281, 0), (12, 334, 282, 0), (12, 331, 283, 0), (13, 203, 284, 0), (13, 209, 285, 0), (12, 338, 286, 0), (13, 216, 287, 0), (12, 345, 288, 0), (12, 341, 289, 0), (13, 220, 290, 0), (12, 353, 291, 0), (12, 348, 292, 0), (13, 224, 293, 0), (13, 228, 294, 0), (13, 232, 295, 0), (12, 357, 296, 0), (13, 236, 297, 0), (12, 360, 298, 0), (13, 240, 299, 0), (13, 244, 300, 0), (13, 248, 301, 0), (12, 363, 302, 0), (13, 252, 303, 0)]
def NK : List (Nat × Nat × Nat) := [(13, 8, 11), (11, 7, 3), (11, 16, 7), (7, 7, 6), (11, 25, 2), (2, 9, 5), (5, 7, 6), (2, 24, 6), (11, 34, 10), (10, 7, 6), (11, 43, 1), (1, 9, 6), (11, 50, 8), (11, 57, 4), (4, 9, 6), (11, 66, 0), (0, 9, 6), (11, 73, 6), (11, 79, 9), (13, 20, 12)]
def OK : List (Nat × Nat) := [(11, 1), (3, 1), (7, 1), (6, 3), (2, 3), (5, 1), (10, 1), (1, 3), (8, 1), (4, 3), (0, 3), (9, 3), (12, 1)]
def KK : List (Nat × Nat × Int) := [(12, 170, 3), (12, 182, -8), (12, 184, 8), (12, 306, 48), (12, 308, 57), (12, 233, 5), (12, 351, 2)]
def KI : List (Nat × Nat × Int) := [(15, 265, 1431655765), (15, 266, 858993459), (15, 267, 252645135)]
def allP {α : Type} (P : α → Prop) : List α → Prop
  | [] => True
  | a :: l => P a ∧ allP P l
theorem allP_at {α : Type} {P : α → Prop} : ∀ {l : List α} (_ : allP P l) (i : Nat) (a : α), l[i]? = some a → P a
  | [], _, _, _, h => by simp at h
  | _ :: _, hl, 0, _, h => by simp at h; subst h; exact hl.1
  | _ :: l, hl, i + 1, a, h => allP_at (l := l) hl.2 i a (by simpa using h)
def flP (q : Nat × Nat × Nat × Nat × Nat) : Prop := match q with
  | (own, idx, ci, k, nest) => if nest = 1 then Cond.fieldLinkNest (cN own) idx (cN ci) (cT ci k).2.1 (cT ci k).2.2.1 "SkewRings" ∈ lw_tbl else Cond.fieldLink (cN own) idx (cN ci) (cT ci k).2.1 (cT ci k).2.2.1 ∈ lw_tbl
/-- 0 a method of an object, 1 a static one, 2 a constructor; from 3 on: private, of a nest mate -/
def mkP (q : Nat × Nat × Nat × Nat) : Prop := match q with
  | (own, idx, t, kd) => (if kd < 3 then Cond.methodLink (cN own) idx (yOf t) ∈ lw_tbl else Cond.methodLinkNest (cN own) idx (yOf t) "SkewRings" ∈ lw_tbl) ∧
    (if kd % 3 = 0 then Cond.instanceMethod (yOf t) ∈ lw_tbl ∧ Cond.selects (yOf t).cls (yOf t) (yOf t) ∈ lw_tbl else if kd % 3 = 1 then Cond.static (yOf t) ∈ lw_tbl else (yOf t).name = "<init>" ∧ Cond.instanceMethod (yOf t) ∈ lw_tbl)
def nkP (q : Nat × Nat × Nat) : Prop := match q with
  | (own, idx, ci) => Cond.classLink (cN own) idx (cN ci) ∈ lw_tbl ∧ Cond.instantiable (cN ci) (cZ ci) ∈ lw_tbl ∧ Cond.initialized (cN ci) ∈ lw_tbl
def okP (q : Nat × Nat) : Prop := match q with
  | (own, idx) => Cond.methodLink (cN own) idx Lib.objectInit ∈ lw_tbl
def kkP (q : Nat × Nat × Int) : Prop := match q with
  | (own, idx, v) => Cond.constantLong (cN own) idx (Int64.ofInt v) ∈ lw_tbl
def kiP (q : Nat × Nat × Int) : Prop := match q with
  | (own, idx, v) => Cond.constant (cN own) idx (Int32.ofInt v) ∈ lw_tbl
def mtP (t : Nat) : Prop := Cond.code (yOf t) (bOf t) (lOf t) (rOf t) ∈ lw_tbl ∧ Cond.initialized (yOf t).cls ∈ lw_tbl ∧ plainFor (yOf t) = true ∧ (yOf t).cls ≠ "java/lang/invoke/MethodHandle" ∧ (yOf t).cls ≠ "java/lang/invoke/VarHandle" ∧ (parseMethodDescriptor (yOf t).desc).map (fun d => d.parameters.length) = some (aOf t) ∧ (yOf t).cls = cN (kOf t)
theorem fl0 : flP (11, 106, 3, 0, 1) := tb 119 (by decide +kernel)
theorem fl1 : flP (3, 25, 3, 0, 0) := tb 120 (by decide +kernel)
theorem fl2 : flP (11, 120, 3, 1, 1) := tb 121 (by decide +kernel)
theorem fl3 : flP (10, 50, 3, 1, 1) := tb 122 (by decide +kernel)
theorem fl4 : flP (3, 35, 3, 1, 0) := tb 123 (by decide +kernel)
theorem fl5 : flP (1, 53, 3, 1, 1) := tb 124 (by decide +kernel)
theorem fl6 : flP (4, 122, 3, 1, 1) := tb 125 (by decide +kernel)
theorem fl7 : flP (0, 43, 3, 2, 1) := tb 126 (by decide +kernel)
theorem fl8 : flP (3, 29, 3, 2, 0) := tb 127 (by decide +kernel)
theorem fl9 : flP (8, 61, 3, 2, 1) := tb 128 (by decide +kernel)
theorem fl10 : flP (4, 116, 3, 2, 1) := tb 129 (by decide +kernel)
theorem fl11 : flP (11, 349, 3, 2, 1) := tb 130 (by decide +kernel)
theorem fl12 : flP (0, 34, 3, 3, 1) := tb 131 (by decide +kernel)
theorem fl13 : flP (3, 32, 3, 3, 0) := tb 132 (by decide +kernel)
theorem fl14 : flP (4, 83, 3, 3, 1) := tb 133 (by decide +kernel)
theorem fl15 : flP (8, 56, 3, 3, 1) := tb 134 (by decide +kernel)
theorem fl16 : flP (11, 352, 3, 3, 1) := tb 135 (by decide +kernel)
theorem fl17 : flP (3, 9, 3, 4, 0) := tb 136 (by decide +kernel)
theorem fl18 : flP (3, 13, 3, 5, 0) := tb 137 (by decide +kernel)
theorem fl19 : flP (3, 16, 3, 6, 0) := tb 138 (by decide +kernel)
theorem fl20 : flP (3, 19, 3, 7, 0) := tb 139 (by decide +kernel)
theorem fl21 : flP (3, 22, 3, 8, 0) := tb 140 (by decide +kernel)
theorem fl22 : flP (6, 11, 6, 0, 0) := tb 173 (by decide +kernel)
theorem fl23 : flP (6, 15, 6, 1, 0) := tb 174 (by decide +kernel)
theorem fl24 : flP (0, 30, 6, 1, 1) := tb 175 (by decide +kernel)
theorem fl25 : flP (10, 30, 6, 1, 1) := tb 176 (by decide +kernel)
theorem fl26 : flP (2, 49, 6, 1, 1) := tb 177 (by decide +kernel)
theorem fl27 : flP (7, 53, 6, 1, 1) := tb 178 (by decide +kernel)
theorem fl28 : flP (4, 80, 6, 1, 1) := tb 179 (by decide +kernel)
theorem fl29 : flP (1, 58, 6, 1, 1) := tb 180 (by decide +kernel)
theorem fl30 : flP (11, 179, 6, 1, 1) := tb 181 (by decide +kernel)
theorem fl31 : flP (7, 28, 7, 0, 0) := tb 187 (by decide +kernel)
theorem fl32 : flP (2, 88, 7, 0, 1) := tb 188 (by decide +kernel)
theorem fl33 : flP (7, 10, 7, 1, 0) := tb 189 (by decide +kernel)
theorem fl34 : flP (7, 16, 7, 2, 0) := tb 190 (by decide +kernel)
theorem fl35 : flP (7, 19, 7, 3, 0) := tb 191 (by decide +kernel)
theorem fl36 : flP (7, 22, 7, 4, 0) := tb 192 (by decide +kernel)
theorem fl37 : flP (7, 25, 7, 5, 0) := tb 193 (by decide +kernel)
theorem fl38 : flP (5, 10, 5, 0, 0) := tb 221 (by decide +kernel)
theorem fl39 : flP (2, 46, 5, 0, 1) := tb 222 (by decide +kernel)
theorem fl40 : flP (5, 16, 5, 1, 0) := tb 223 (by decide +kernel)
theorem fl41 : flP (2, 59, 5, 1, 1) := tb 224 (by decide +kernel)
theorem fl42 : flP (5, 19, 5, 2, 0) := tb 225 (by decide +kernel)
theorem fl43 : flP (2, 66, 5, 2, 1) := tb 226 (by decide +kernel)
theorem fl44 : flP (2, 38, 2, 0, 0) := tb 236 (by decide +kernel)
theorem fl45 : flP (2, 12, 2, 1, 0) := tb 237 (by decide +kernel)
theorem fl46 : flP (2, 18, 2, 2, 0) := tb 238 (by decide +kernel)
theorem fl47 : flP (2, 21, 2, 3, 0) := tb 239 (by decide +kernel)
theorem fl48 : flP (2, 27, 2, 4, 0) := tb 240 (by decide +kernel)
theorem fl49 : flP (2, 31, 2, 5, 0) := tb 241 (by decide +kernel)
theorem fl50 : flP (2, 34, 2, 6, 0) := tb 242 (by decide +kernel)
theorem fl51 : flP (10, 22, 10, 0, 0) := tb 266 (by decide +kernel)
theorem fl52 : flP (10, 26, 10, 1, 0) := tb 267 (by decide +kernel)
theorem fl53 : flP (10, 10, 10, 2, 0) := tb 268 (by decide +kernel)
theorem fl54 : flP (10, 16, 10, 3, 0) := tb 269 (by decide +kernel)
theorem fl55 : flP (10, 19, 10, 4, 0) := tb 270 (by decide +kernel)
theorem fl56 : flP (1, 37, 1, 0, 0) := tb 291 (by decide +kernel)
theorem fl57 : flP (1, 41, 1, 1, 0) := tb 292 (by decide +kernel)
theorem fl58 : flP (1, 12, 1, 2, 0) := tb 293 (by decide +kernel)
theorem fl59 : flP (1, 18, 1, 3, 0) := tb 294 (by decide +kernel)
theorem fl60 : flP (1, 21, 1, 4, 0) := tb 295 (by decide +kernel)
theorem fl61 : flP (1, 24, 1, 5, 0) := tb 296 (by decide +kernel)
theorem fl62 : flP (1, 27, 1, 6, 0) := tb 297 (by decide +kernel)
theorem fl63 : flP (1, 31, 1, 7, 0) := tb 298 (by decide +kernel)
theorem fl64 : flP (1, 34, 1, 8, 0) := tb 299 (by decide +kernel)
theorem fl65 : flP (1, 45, 1, 9, 0) := tb 300 (by decide +kernel)
theorem fl66 : flP (11, 358, 1, 9, 1) := tb 301 (by decide +kernel)
theorem fl67 : flP (8, 19, 8, 0, 0) := tb 329 (by decide +kernel)
theorem fl68 : flP (8, 9, 8, 1, 0) := tb 330 (by decide +kernel)
theorem fl69 : flP (8, 13, 8, 2, 0) := tb 331 (by decide +kernel)
theorem fl70 : flP (8, 16, 8, 3, 0) := tb 332 (by decide +kernel)
theorem fl71 : flP (8, 23, 8, 4, 0) := tb 333 (by decide +kernel)
theorem fl72 : flP (8, 27, 8, 5, 0) := tb 334 (by decide +kernel)
theorem fl73 : flP (4, 40, 4, 0, 0) := tb 356 (by decide +kernel)
theorem fl74 : flP (4, 44, 4, 1, 0) := tb 357 (by decide +kernel)
theorem fl75 : flP (4, 48, 4, 2, 0) := tb 358 (by decide +kernel)
theorem fl76 : flP (4, 12, 4, 3, 0) := tb 359 (by decide +kernel)
theorem fl77 : flP (4, 18, 4, 4, 0) := tb 360 (by decide +kernel)
theorem fl78 : flP (4, 21, 4, 5, 0) := tb 361 (by decide +kernel)
theorem fl79 : flP (4, 24, 4, 6, 0) := tb 362 (by decide +kernel)
theorem fl80 : flP (4, 28, 4, 7, 0) := tb 363 (by decide +kernel)
theorem fl81 : flP (4, 34, 4, 8, 0) := tb 364 (by decide +kernel)
theorem fl82 : flP (4, 37, 4, 9, 0) := tb 365 (by decide +kernel)
theorem fl83 : flP (11, 324, 4, 9, 1) := tb 366 (by decide +kernel)
theorem fl84 : flP (4, 69, 4, 10, 0) := tb 367 (by decide +kernel)
theorem fl85 : flP (4, 56, 4, 11, 0) := tb 368 (by decide +kernel)
theorem fl86 : flP (11, 330, 4, 11, 1) := tb 369 (by decide +kernel)
theorem fl87 : flP (0, 18, 0, 0, 0) := tb 403 (by decide +kernel)
theorem fl88 : flP (0, 22, 0, 1, 0) := tb 404 (by decide +kernel)
theorem fl89 : flP (0, 26, 0, 2, 0) := tb 405 (by decide +kernel)
theorem fl90 : flP (0, 12, 0, 3, 0) := tb 406 (by decide +kernel)
theorem fl91 : flP (9, 11, 9, 0, 0) := tb 423 (by decide +kernel)
theorem fl92 : flP (9, 15, 9, 1, 0) := tb 424 (by decide +kernel)
theorem fl93 : flP (9, 18, 9, 2, 0) := tb 425 (by decide +kernel)
theorem fl94 : flP (9, 21, 9, 3, 0) := tb 426 (by decide +kernel)
theorem fl95 : flP (11, 164, 9, 3, 1) := tb 427 (by decide +kernel)
theorem fl96 : flP (10, 89, 9, 4, 1) := tb 428 (by decide +kernel)
theorem fl97 : flP (9, 51, 9, 4, 0) := tb 429 (by decide +kernel)
theorem fl98 : flP (9, 29, 9, 5, 0) := tb 430 (by decide +kernel)
theorem fl99 : flP (9, 32, 9, 6, 0) := tb 431 (by decide +kernel)
theorem fl100 : flP (11, 10, 11, 0, 0) := tb 494 (by decide +kernel)
theorem fl101 : flP (11, 21, 11, 1, 0) := tb 495 (by decide +kernel)
theorem fl102 : flP (11, 30, 11, 2, 0) := tb 496 (by decide +kernel)
theorem fl103 : flP (11, 39, 11, 3, 0) := tb 497 (by decide +kernel)
theorem fl104 : flP (11, 46, 11, 4, 0) := tb 498 (by decide +kernel)
theorem fl105 : flP (11, 53, 11, 5, 0) := tb 499 (by decide +kernel)
theorem fl106 : flP (11, 62, 11, 6, 0) := tb 500 (by decide +kernel)
theorem fl107 : flP (11, 69, 11, 7, 0) := tb 501 (by decide +kernel)
theorem fl108 : flP (11, 75, 11, 8, 0) := tb 502 (by decide +kernel)
theorem fl109 : flP (11, 82, 11, 9, 0) := tb 503 (by decide +kernel)
theorem fl110 : flP (11, 86, 11, 10, 0) := tb 504 (by decide +kernel)
theorem fl111 : flP (11, 361, 11, 11, 0) := tb 505 (by decide +kernel)
theorem fl112 : flP (11, 91, 11, 12, 0) := tb 506 (by decide +kernel)
theorem fl113 : flP (11, 95, 11, 13, 0) := tb 507 (by decide +kernel)
theorem fl114 : flP (12, 158, 12, 0, 0) := tb 1388 (by decide +kernel)
theorem fl115 : flP (12, 161, 12, 1, 0) := tb 1389 (by decide +kernel)
theorem fl116 : flP (12, 138, 12, 2, 0) := tb 1390 (by decide +kernel)
theorem fl117 : flP (12, 141, 12, 3, 0) := tb 1391 (by decide +kernel)
theorem fl118 : flP (12, 7, 12, 4, 0) := tb 1392 (by decide +kernel)
theorem fl119 : flP (12, 13, 12, 5, 0) := tb 1393 (by decide +kernel)
theorem fl120 : flP (12, 16, 12, 6, 0) := tb 1394 (by decide +kernel)
theorem fl121 : flP (12, 19, 12, 7, 0) := tb 1395 (by decide +kernel)
theorem fl122 : flP (12, 22, 12, 8, 0) := tb 1396 (by decide +kernel)
theorem fl123 : flP (12, 25, 12, 9, 0) := tb 1397 (by decide +kernel)
theorem fl124 : flP (12, 28, 12, 10, 0) := tb 1398 (by decide +kernel)
theorem fl125 : flP (12, 131, 12, 11, 0) := tb 1399 (by decide +kernel)
theorem fl126 : flP (12, 32, 12, 12, 0) := tb 1400 (by decide +kernel)
theorem fl127 : flP (12, 128, 12, 13, 0) := tb 1401 (by decide +kernel)
theorem fl128 : flP (12, 124, 12, 14, 0) := tb 1402 (by decide +kernel)
theorem fl129 : flP (12, 172, 12, 15, 0) := tb 1403 (by decide +kernel)
theorem fl130 : flP (12, 36, 12, 16, 0) := tb 1404 (by decide +kernel)
theorem fl131 : flP (12, 39, 12, 17, 0) := tb 1405 (by decide +kernel)
theorem fl132 : flP (12, 42, 12, 18, 0) := tb 1406 (by decide +kernel)
theorem fl133 : flP (12, 45, 12, 19, 0) := tb 1407 (by decide +kernel)
theorem fl134 : flP (12, 48, 12, 20, 0) := tb 1408 (by decide +kernel)
theorem fl135 : flP (12, 51, 12, 21, 0) := tb 1409 (by decide +kernel)
theorem fl136 : flP (12, 54, 12, 22, 0) := tb 1410 (by decide +kernel)
theorem fl137 : flP (12, 57, 12, 23, 0) := tb 1411 (by decide +kernel)
theorem fl138 : flP (12, 60, 12, 24, 0) := tb 1412 (by decide +kernel)
theorem fl139 : flP (12, 63, 12, 25, 0) := tb 1413 (by decide +kernel)
theorem fl140 : flP (12, 66, 12, 26, 0) := tb 1414 (by decide +kernel)
theorem fl141 : flP (12, 69, 12, 27, 0) := tb 1415 (by decide +kernel)
theorem fl142 : flP (12, 72, 12, 28, 0) := tb 1416 (by decide +kernel)
theorem fl143 : flP (12, 235, 12, 29, 0) := tb 1417 (by decide +kernel)
theorem fl144 : flP (12, 238, 12, 30, 0) := tb 1418 (by decide +kernel)
theorem fl145 : flP (12, 75, 12, 31, 0) := tb 1419 (by decide +kernel)
theorem fl146 : flP (12, 78, 12, 32, 0) := tb 1420 (by decide +kernel)
theorem fl147 : flP (12, 81, 12, 33, 0) := tb 1421 (by decide +kernel)
theorem fl148 : flP (12, 84, 12, 34, 0) := tb 1422 (by decide +kernel)
theorem fl149 : flP (12, 87, 12, 35, 0) := tb 1423 (by decide +kernel)
theorem fl150 : flP (12, 90, 12, 36, 0) := tb 1424 (by decide +kernel)
theorem fl151 : flP (12, 93, 12, 37, 0) := tb 1425 (by decide +kernel)
theorem fl152 : flP (12, 96, 12, 38, 0) := tb 1426 (by decide +kernel)
theorem fl153 : flP (12, 99, 12, 39, 0) := tb 1427 (by decide +kernel)
theorem fl154 : flP (12, 102, 12, 40, 0) := tb 1428 (by decide +kernel)
theorem fl155 : flP (12, 105, 12, 41, 0) := tb 1429 (by decide +kernel)
theorem fl156 : flP (12, 108, 12, 42, 0) := tb 1430 (by decide +kernel)
theorem fl157 : flP (12, 111, 12, 43, 0) := tb 1431 (by decide +kernel)
theorem fl158 : flP (12, 114, 12, 44, 0) := tb 1432 (by decide +kernel)
theorem fl159 : flP (12, 117, 12, 45, 0) := tb 1433 (by decide +kernel)
set_option maxRecDepth 100000 in
theorem FL_ok : allP flP FL := ⟨fl0, fl1, fl2, fl3, fl4, fl5, fl6, fl7, fl8, fl9, fl10, fl11, fl12, fl13, fl14, fl15, fl16, fl17, fl18, fl19, fl20, fl21, fl22, fl23, fl24, fl25, fl26, fl27, fl28, fl29, fl30, fl31, fl32, fl33, fl34, fl35, fl36, fl37, fl38, fl39, fl40, fl41, fl42, fl43, fl44, fl45, fl46, fl47, fl48, fl49, fl50, fl51, fl52, fl53, fl54, fl55, fl56, fl57, fl58, fl59, fl60, fl61, fl62, fl63, fl64, fl65, fl66, fl67, fl68, fl69, fl70, fl71, fl72, fl73, fl74, fl75, fl76, fl77, fl78, fl79, fl80, fl81, fl82, fl83, fl84, fl85, fl86, fl87, fl88, fl89, fl90, fl91, fl92, fl93, fl94, fl95, fl96, fl97, fl98, fl99, fl100, fl101, fl102, fl103, fl104, fl105, fl106, fl107, fl108, fl109, fl110, fl111, fl112, fl113, fl114, fl115, fl116, fl117, fl118, fl119, fl120, fl121, fl122, fl123, fl124, fl125, fl126, fl127, fl128, fl129, fl130, fl131, fl132, fl133, fl134, fl135, fl136, fl137, fl138, fl139, fl140, fl141, fl142, fl143, fl144, fl145, fl146, fl147, fl148, fl149, fl150, fl151, fl152, fl153, fl154, fl155, fl156, fl157, fl158, fl159, trivial⟩
theorem mk0 : mkP (13, 19, 122, 2) := ⟨tb 107 (by decide +kernel), rfl, tb 108 (by decide +kernel)⟩
theorem mk1 : mkP (11, 9, 0, 5) := ⟨tb 115 (by decide +kernel), rfl, tb 116 (by decide +kernel)⟩
theorem mk2 : mkP (11, 18, 36, 2) := ⟨tb 163 (by decide +kernel), rfl, tb 164 (by decide +kernel)⟩
theorem mk3 : mkP (7, 9, 21, 5) := ⟨tb 169 (by decide +kernel), rfl, tb 170 (by decide +kernel)⟩
theorem mk4 : mkP (11, 27, 54, 2) := ⟨tb 209 (by decide +kernel), rfl, tb 210 (by decide +kernel)⟩
theorem mk5 : mkP (2, 11, 34, 5) := ⟨tb 215 (by decide +kernel), rfl, tb 216 (by decide +kernel)⟩
theorem mk6 : mkP (5, 9, 21, 5) := ⟨tb 220 (by decide +kernel), rfl, tb 170 (by decide +kernel)⟩
theorem mk7 : mkP (2, 26, 21, 5) := ⟨tb 235 (by decide +kernel), rfl, tb 170 (by decide +kernel)⟩
theorem mk8 : mkP (11, 36, 63, 2) := ⟨tb 260 (by decide +kernel), rfl, tb 261 (by decide +kernel)⟩
theorem mk9 : mkP (10, 9, 21, 5) := ⟨tb 265 (by decide +kernel), rfl, tb 170 (by decide +kernel)⟩
theorem mk10 : mkP (11, 45, 74, 2) := ⟨tb 284 (by decide +kernel), rfl, tb 285 (by decide +kernel)⟩
theorem mk11 : mkP (1, 11, 21, 5) := ⟨tb 289 (by decide +kernel), rfl, tb 170 (by decide +kernel)⟩
theorem mk12 : mkP (11, 52, 84, 2) := ⟨tb 325 (by decide +kernel), rfl, tb 326 (by decide +kernel)⟩
theorem mk13 : mkP (11, 59, 94, 2) := ⟨tb 350 (by decide +kernel), rfl, tb 351 (by decide +kernel)⟩
theorem mk14 : mkP (4, 11, 21, 5) := ⟨tb 355 (by decide +kernel), rfl, tb 170 (by decide +kernel)⟩
theorem mk15 : mkP (11, 68, 104, 2) := ⟨tb 397 (by decide +kernel), rfl, tb 398 (by decide +kernel)⟩
theorem mk16 : mkP (0, 11, 21, 5) := ⟨tb 402 (by decide +kernel), rfl, tb 170 (by decide +kernel)⟩
theorem mk17 : mkP (11, 81, 109, 5) := ⟨tb 419 (by decide +kernel), rfl, tb 420 (by decide +kernel)⟩
theorem mk18 : mkP (11, 90, 21, 5) := ⟨tb 447 (by decide +kernel), rfl, tb 170 (by decide +kernel)⟩
theorem mk19 : mkP (11, 98, 1, 0) := ⟨tb 448 (by decide +kernel), tb 449 (by decide +kernel), tb 450 (by decide +kernel)⟩
theorem mk20 : mkP (3, 38, 2, 0) := ⟨tb 452 (by decide +kernel), tb 454 (by decide +kernel), tb 0 (by decide +kernel)⟩
theorem mk21 : mkP (3, 69, 3, 0) := ⟨tb 456 (by decide +kernel), tb 458 (by decide +kernel), tb 1 (by decide +kernel)⟩
theorem mk22 : mkP (3, 75, 4, 1) := ⟨tb 460 (by decide +kernel), tb 461 (by decide +kernel)⟩
theorem mk23 : mkP (3, 45, 5, 0) := ⟨tb 463 (by decide +kernel), tb 464 (by decide +kernel), tb 465 (by decide +kernel)⟩
theorem mk24 : mkP (3, 72, 6, 0) := ⟨tb 467 (by decide +kernel), tb 469 (by decide +kernel), tb 2 (by decide +kernel)⟩
theorem mk25 : mkP (3, 52, 7, 0) := ⟨tb 471 (by decide +kernel), tb 472 (by decide +kernel), tb 473 (by decide +kernel)⟩
theorem mk26 : mkP (3, 82, 8, 0) := ⟨tb 475 (by decide +kernel), tb 477 (by decide +kernel), tb 3 (by decide +kernel)⟩
theorem mk27 : mkP (3, 85, 9, 0) := ⟨tb 479 (by decide +kernel), tb 480 (by decide +kernel), tb 481 (by decide +kernel)⟩
theorem mk28 : mkP (3, 60, 10, 0) := ⟨tb 483 (by decide +kernel), tb 484 (by decide +kernel), tb 485 (by decide +kernel)⟩
theorem mk29 : mkP (3, 55, 304, 1) := ⟨tb 487 (by decide +kernel), tb 488 (by decide +kernel)⟩
theorem mk30 : mkP (3, 79, 11, 0) := ⟨tb 490 (by decide +kernel), tb 492 (by decide +kernel), tb 4 (by decide +kernel)⟩
theorem mk31 : mkP (13, 23, 123, 0) := ⟨tb 538 (by decide +kernel), tb 539 (by decide +kernel), tb 540 (by decide +kernel)⟩
theorem mk32 : mkP (11, 102, 12, 1) := ⟨tb 542 (by decide +kernel), tb 543 (by decide +kernel)⟩
theorem mk33 : mkP (11, 110, 75, 0) := ⟨tb 545 (by decide +kernel), tb 546 (by decide +kernel), tb 547 (by decide +kernel)⟩
theorem mk34 : mkP (11, 113, 124, 0) := ⟨tb 549 (by decide +kernel), tb 551 (by decide +kernel), tb 5 (by decide +kernel)⟩
theorem mk35 : mkP (11, 117, 22, 0) := ⟨tb 553 (by decide +kernel), tb 554 (by decide +kernel), tb 555 (by decide +kernel)⟩
theorem mk36 : mkP (13, 28, 125, 0) := ⟨tb 557 (by decide +kernel), tb 558 (by decide +kernel), tb 559 (by decide +kernel)⟩
theorem mk37 : mkP (11, 123, 13, 0) := ⟨tb 561 (by decide +kernel), tb 562 (by decide +kernel), tb 563 (by decide +kernel)⟩
theorem mk38 : mkP (11, 126, 5, 0) := ⟨tb 565 (by decide +kernel), tb 464 (by decide +kernel), tb 465 (by decide +kernel)⟩
theorem mk39 : mkP (13, 32, 126, 0) := ⟨tb 566 (by decide +kernel), tb 567 (by decide +kernel), tb 568 (by decide +kernel)⟩
theorem mk40 : mkP (11, 130, 7, 0) := ⟨tb 570 (by decide +kernel), tb 472 (by decide +kernel), tb 473 (by decide +kernel)⟩
theorem mk41 : mkP (13, 36, 127, 0) := ⟨tb 571 (by decide +kernel), tb 572 (by decide +kernel), tb 573 (by decide +kernel)⟩
theorem mk42 : mkP (11, 133, 14, 0) := ⟨tb 575 (by decide +kernel), tb 576 (by decide +kernel), tb 577 (by decide +kernel)⟩
theorem mk43 : mkP (13, 40, 128, 0) := ⟨tb 579 (by decide +kernel), tb 580 (by decide +kernel), tb 581 (by decide +kernel)⟩
theorem mk44 : mkP (11, 137, 129, 1) := ⟨tb 583 (by decide +kernel), tb 584 (by decide +kernel)⟩
theorem mk45 : mkP (11, 140, 10, 0) := ⟨tb 586 (by decide +kernel), tb 484 (by decide +kernel), tb 485 (by decide +kernel)⟩
theorem mk46 : mkP (13, 44, 130, 0) := ⟨tb 587 (by decide +kernel), tb 588 (by decide +kernel), tb 589 (by decide +kernel)⟩
theorem mk47 : mkP (11, 143, 15, 0) := ⟨tb 591 (by decide +kernel), tb 592 (by decide +kernel), tb 593 (by decide +kernel)⟩
theorem mk48 : mkP (13, 48, 131, 0) := ⟨tb 595 (by decide +kernel), tb 596 (by decide +kernel), tb 597 (by decide +kernel)⟩
theorem mk49 : mkP (11, 146, 16, 0) := ⟨tb 599 (by decide +kernel), tb 600 (by decide +kernel), tb 601 (by decide +kernel)⟩
theorem mk50 : mkP (3, 66, 17, 0) := ⟨tb 603 (by decide +kernel), tb 604 (by decide +kernel), tb 605 (by decide +kernel)⟩
theorem mk51 : mkP (3, 63, 18, 0) := ⟨tb 607 (by decide +kernel), tb 608 (by decide +kernel), tb 609 (by decide +kernel)⟩
theorem mk52 : mkP (3, 49, 14, 0) := ⟨tb 611 (by decide +kernel), tb 576 (by decide +kernel), tb 577 (by decide +kernel)⟩
theorem mk53 : mkP (11, 149, 132, 0) := ⟨tb 612 (by decide +kernel), tb 614 (by decide +kernel), tb 6 (by decide +kernel)⟩
theorem mk54 : mkP (11, 152, 306, 1) := ⟨tb 616 (by decide +kernel), tb 617 (by decide +kernel)⟩
theorem mk55 : mkP (11, 157, 133, 0) := ⟨tb 622 (by decide +kernel), tb 624 (by decide +kernel), tb 7 (by decide +kernel)⟩
theorem mk56 : mkP (13, 52, 134, 0) := ⟨tb 626 (by decide +kernel), tb 627 (by decide +kernel), tb 628 (by decide +kernel)⟩
theorem mk57 : mkP (13, 57, 135, 0) := ⟨tb 630 (by decide +kernel), tb 631 (by decide +kernel), tb 632 (by decide +kernel)⟩
theorem mk58 : mkP (11, 161, 110, 0) := ⟨tb 634 (by decide +kernel), tb 635 (by decide +kernel), tb 636 (by decide +kernel)⟩
theorem mk59 : mkP (13, 61, 136, 0) := ⟨tb 638 (by decide +kernel), tb 639 (by decide +kernel), tb 640 (by decide +kernel)⟩
theorem mk60 : mkP (11, 167, 111, 0) := ⟨tb 642 (by decide +kernel), tb 643 (by decide +kernel), tb 644 (by decide +kernel)⟩
theorem mk61 : mkP (13, 66, 137, 0) := ⟨tb 646 (by decide +kernel), tb 647 (by decide +kernel), tb 648 (by decide +kernel)⟩
theorem mk62 : mkP (11, 170, 112, 0) := ⟨tb 650 (by decide +kernel), tb 651 (by decide +kernel), tb 652 (by decide +kernel)⟩
theorem mk63 : mkP (9, 39, 22, 0) := ⟨tb 654 (by decide +kernel), tb 554 (by decide +kernel), tb 555 (by decide +kernel)⟩
theorem mk64 : mkP (9, 44, 113, 0) := ⟨tb 655 (by decide +kernel), tb 657 (by decide +kernel), tb 8 (by decide +kernel)⟩
theorem mk65 : mkP (9, 35, 114, 0) := ⟨tb 659 (by decide +kernel), tb 661 (by decide +kernel), tb 9 (by decide +kernel)⟩
theorem mk66 : mkP (9, 25, 115, 0) := ⟨tb 663 (by decide +kernel), tb 665 (by decide +kernel), tb 10 (by decide +kernel)⟩
theorem mk67 : mkP (9, 47, 23, 0) := ⟨tb 667 (by decide +kernel), tb 668 (by decide +kernel), tb 669 (by decide +kernel)⟩
theorem mk68 : mkP (11, 174, 116, 0) := ⟨tb 671 (by decide +kernel), tb 672 (by decide +kernel), tb 673 (by decide +kernel)⟩
theorem mk69 : mkP (11, 175, 24, 0) := ⟨tb 675 (by decide +kernel), tb 676 (by decide +kernel), tb 677 (by decide +kernel)⟩
theorem mk70 : mkP (6, 26, 305, 1) := ⟨tb 679 (by decide +kernel), tb 680 (by decide +kernel)⟩
theorem mk71 : mkP (6, 32, 25, 0) := ⟨tb 682 (by decide +kernel), tb 683 (by decide +kernel), tb 684 (by decide +kernel)⟩
theorem mk72 : mkP (13, 70, 138, 0) := ⟨tb 686 (by decide +kernel), tb 687 (by decide +kernel), tb 688 (by decide +kernel)⟩
theorem mk73 : mkP (13, 74, 139, 0) := ⟨tb 690 (by decide +kernel), tb 691 (by decide +kernel), tb 692 (by decide +kernel)⟩
theorem mk74 : mkP (11, 182, 25, 0) := ⟨tb 694 (by decide +kernel), tb 683 (by decide +kernel), tb 684 (by decide +kernel)⟩
theorem mk75 : mkP (13, 78, 140, 0) := ⟨tb 695 (by decide +kernel), tb 696 (by decide +kernel), tb 697 (by decide +kernel)⟩
theorem mk76 : mkP (11, 185, 37, 0) := ⟨tb 699 (by decide +kernel), tb 700 (by decide +kernel), tb 701 (by decide +kernel)⟩
theorem mk77 : mkP (7, 32, 38, 1) := ⟨tb 703 (by decide +kernel), tb 704 (by decide +kernel)⟩
theorem mk78 : mkP (7, 57, 305, 1) := ⟨tb 706 (by decide +kernel), tb 680 (by decide +kernel)⟩
theorem mk79 : mkP (7, 36, 25, 0) := ⟨tb 707 (by decide +kernel), tb 683 (by decide +kernel), tb 684 (by decide +kernel)⟩
theorem mk80 : mkP (7, 40, 5, 0) := ⟨tb 708 (by decide +kernel), tb 464 (by decide +kernel), tb 465 (by decide +kernel)⟩
theorem mk81 : mkP (7, 46, 23, 0) := ⟨tb 709 (by decide +kernel), tb 668 (by decide +kernel), tb 669 (by decide +kernel)⟩
theorem mk82 : mkP (13, 83, 141, 0) := ⟨tb 710 (by decide +kernel), tb 711 (by decide +kernel), tb 712 (by decide +kernel)⟩
theorem mk83 : mkP (11, 188, 39, 0) := ⟨tb 714 (by decide +kernel), tb 715 (by decide +kernel), tb 716 (by decide +kernel)⟩
theorem mk84 : mkP (7, 50, 19, 0) := ⟨tb 718 (by decide +kernel), tb 719 (by decide +kernel), tb 720 (by decide +kernel)⟩
theorem mk85 : mkP (3, 41, 20, 0) := ⟨tb 722 (by decide +kernel), tb 723 (by decide +kernel), tb 724 (by decide +kernel)⟩
theorem mk86 : mkP (13, 87, 142, 0) := ⟨tb 726 (by decide +kernel), tb 727 (by decide +kernel), tb 728 (by decide +kernel)⟩
theorem mk87 : mkP (11, 191, 40, 0) := ⟨tb 730 (by decide +kernel), tb 731 (by decide +kernel), tb 732 (by decide +kernel)⟩
theorem mk88 : mkP (7, 62, 7, 0) := ⟨tb 734 (by decide +kernel), tb 472 (by decide +kernel), tb 473 (by decide +kernel)⟩
theorem mk89 : mkP (13, 91, 143, 0) := ⟨tb 735 (by decide +kernel), tb 736 (by decide +kernel), tb 737 (by decide +kernel)⟩
theorem mk90 : mkP (11, 195, 41, 0) := ⟨tb 739 (by decide +kernel), tb 740 (by decide +kernel), tb 741 (by decide +kernel)⟩
theorem mk91 : mkP (7, 67, 22, 0) := ⟨tb 743 (by decide +kernel), tb 554 (by decide +kernel), tb 555 (by decide +kernel)⟩
theorem mk92 : mkP (7, 64, 10, 0) := ⟨tb 744 (by decide +kernel), tb 484 (by decide +kernel), tb 485 (by decide +kernel)⟩
theorem mk93 : mkP (7, 70, 24, 0) := ⟨tb 745 (by decide +kernel), tb 676 (by decide +kernel), tb 677 (by decide +kernel)⟩
theorem mk94 : mkP (11, 197, 144, 1) := ⟨tb 746 (by decide +kernel), tb 747 (by decide +kernel)⟩
theorem mk95 : mkP (13, 95, 145, 0) := ⟨tb 749 (by decide +kernel), tb 750 (by decide +kernel), tb 751 (by decide +kernel)⟩
theorem mk96 : mkP (11, 201, 146, 0) := ⟨tb 753 (by decide +kernel), tb 755 (by decide +kernel), tb 11 (by decide +kernel)⟩
theorem mk97 : mkP (11, 205, 147, 1) := ⟨tb 757 (by decide +kernel), tb 758 (by decide +kernel)⟩
theorem mk98 : mkP (11, 364, 42, 0) := ⟨tb 760 (by decide +kernel), tb 761 (by decide +kernel), tb 762 (by decide +kernel)⟩
theorem mk99 : mkP (7, 77, 26, 0) := ⟨tb 764 (by decide +kernel), tb 765 (by decide +kernel), tb 766 (by decide +kernel)⟩
theorem mk100 : mkP (7, 81, 18, 0) := ⟨tb 768 (by decide +kernel), tb 608 (by decide +kernel), tb 609 (by decide +kernel)⟩
theorem mk101 : mkP (7, 84, 43, 0) := ⟨tb 769 (by decide +kernel), tb 771 (by decide +kernel), tb 12 (by decide +kernel)⟩
theorem mk102 : mkP (7, 88, 44, 0) := ⟨tb 773 (by decide +kernel), tb 775 (by decide +kernel), tb 13 (by decide +kernel)⟩
theorem mk103 : mkP (13, 100, 148, 0) := ⟨tb 777 (by decide +kernel), tb 778 (by decide +kernel), tb 779 (by decide +kernel)⟩
theorem mk104 : mkP (13, 104, 149, 0) := ⟨tb 781 (by decide +kernel), tb 782 (by decide +kernel), tb 783 (by decide +kernel)⟩
theorem mk105 : mkP (11, 208, 55, 0) := ⟨tb 785 (by decide +kernel), tb 786 (by decide +kernel), tb 787 (by decide +kernel)⟩
theorem mk106 : mkP (2, 42, 35, 0) := ⟨tb 789 (by decide +kernel), tb 790 (by decide +kernel), tb 791 (by decide +kernel)⟩
theorem mk107 : mkP (5, 22, 24, 0) := ⟨tb 793 (by decide +kernel), tb 676 (by decide +kernel), tb 677 (by decide +kernel)⟩
theorem mk108 : mkP (5, 26, 27, 0) := ⟨tb 794 (by decide +kernel), tb 795 (by decide +kernel), tb 796 (by decide +kernel)⟩
theorem mk109 : mkP (6, 19, 22, 0) := ⟨tb 798 (by decide +kernel), tb 554 (by decide +kernel), tb 555 (by decide +kernel)⟩
theorem mk110 : mkP (6, 22, 23, 0) := ⟨tb 799 (by decide +kernel), tb 668 (by decide +kernel), tb 669 (by decide +kernel)⟩
theorem mk111 : mkP (2, 53, 42, 0) := ⟨tb 800 (by decide +kernel), tb 761 (by decide +kernel), tb 762 (by decide +kernel)⟩
theorem mk112 : mkP (2, 62, 56, 0) := ⟨tb 801 (by decide +kernel), tb 803 (by decide +kernel), tb 14 (by decide +kernel)⟩
theorem mk113 : mkP (2, 72, 45, 0) := ⟨tb 805 (by decide +kernel), tb 806 (by decide +kernel), tb 807 (by decide +kernel)⟩
theorem mk114 : mkP (7, 74, 41, 0) := ⟨tb 809 (by decide +kernel), tb 740 (by decide +kernel), tb 741 (by decide +kernel)⟩
theorem mk115 : mkP (2, 76, 39, 0) := ⟨tb 810 (by decide +kernel), tb 715 (by decide +kernel), tb 716 (by decide +kernel)⟩
theorem mk116 : mkP (2, 69, 57, 0) := ⟨tb 811 (by decide +kernel), tb 813 (by decide +kernel), tb 15 (by decide +kernel)⟩
theorem mk117 : mkP (11, 212, 58, 0) := ⟨tb 815 (by decide +kernel), tb 816 (by decide +kernel), tb 817 (by decide +kernel)⟩
theorem mk118 : mkP (2, 80, 24, 0) := ⟨tb 819 (by decide +kernel), tb 676 (by decide +kernel), tb 677 (by decide +kernel)⟩
theorem mk119 : mkP (2, 84, 46, 0) := ⟨tb 820 (by decide +kernel), tb 821 (by decide +kernel), tb 822 (by decide +kernel)⟩
theorem mk120 : mkP (7, 95, 14, 0) := ⟨tb 824 (by decide +kernel), tb 576 (by decide +kernel), tb 577 (by decide +kernel)⟩
theorem mk121 : mkP (7, 98, 40, 0) := ⟨tb 825 (by decide +kernel), tb 731 (by decide +kernel), tb 732 (by decide +kernel)⟩
theorem mk122 : mkP (7, 102, 47, 0) := ⟨tb 826 (by decide +kernel), tb 827 (by decide +kernel), tb 828 (by decide +kernel)⟩
theorem mk123 : mkP (13, 108, 150, 0) := ⟨tb 830 (by decide +kernel), tb 831 (by decide +kernel), tb 832 (by decide +kernel)⟩
theorem mk124 : mkP (11, 216, 59, 0) := ⟨tb 834 (by decide +kernel), tb 835 (by decide +kernel), tb 836 (by decide +kernel)⟩
theorem mk125 : mkP (13, 112, 151, 0) := ⟨tb 838 (by decide +kernel), tb 839 (by decide +kernel), tb 840 (by decide +kernel)⟩
theorem mk126 : mkP (11, 220, 60, 0) := ⟨tb 842 (by decide +kernel), tb 843 (by decide +kernel), tb 844 (by decide +kernel)⟩
theorem mk127 : mkP (11, 224, 61, 0) := ⟨tb 846 (by decide +kernel), tb 847 (by decide +kernel), tb 848 (by decide +kernel)⟩
theorem mk128 : mkP (13, 116, 152, 0) := ⟨tb 850 (by decide +kernel), tb 851 (by decide +kernel), tb 852 (by decide +kernel)⟩
theorem mk129 : mkP (13, 120, 153, 0) := ⟨tb 854 (by decide +kernel), tb 855 (by decide +kernel), tb 856 (by decide +kernel)⟩
theorem mk130 : mkP (11, 227, 48, 0) := ⟨tb 858 (by decide +kernel), tb 859 (by decide +kernel), tb 860 (by decide +kernel)⟩
theorem mk131 : mkP (13, 124, 154, 0) := ⟨tb 862 (by decide +kernel), tb 863 (by decide +kernel), tb 864 (by decide +kernel)⟩
theorem mk132 : mkP (11, 230, 26, 0) := ⟨tb 866 (by decide +kernel), tb 765 (by decide +kernel), tb 766 (by decide +kernel)⟩
theorem mk133 : mkP (11, 234, 46, 0) := ⟨tb 867 (by decide +kernel), tb 821 (by decide +kernel), tb 822 (by decide +kernel)⟩
theorem mk134 : mkP (13, 128, 155, 0) := ⟨tb 868 (by decide +kernel), tb 869 (by decide +kernel), tb 870 (by decide +kernel)⟩
theorem mk135 : mkP (11, 238, 28, 0) := ⟨tb 872 (by decide +kernel), tb 873 (by decide +kernel), tb 874 (by decide +kernel)⟩
theorem mk136 : mkP (11, 241, 29, 0) := ⟨tb 876 (by decide +kernel), tb 877 (by decide +kernel), tb 878 (by decide +kernel)⟩
theorem mk137 : mkP (11, 244, 30, 0) := ⟨tb 880 (by decide +kernel), tb 881 (by decide +kernel), tb 882 (by decide +kernel)⟩
theorem mk138 : mkP (13, 132, 156, 0) := ⟨tb 884 (by decide +kernel), tb 885 (by decide +kernel), tb 886 (by decide +kernel)⟩
theorem mk139 : mkP (11, 248, 31, 0) := ⟨tb 888 (by decide +kernel), tb 889 (by decide +kernel), tb 890 (by decide +kernel)⟩
theorem mk140 : mkP (6, 36, 32, 0) := ⟨tb 892 (by decide +kernel), tb 893 (by decide +kernel), tb 894 (by decide +kernel)⟩
theorem mk141 : mkP (13, 136, 157, 0) := ⟨tb 896 (by decide +kernel), tb 897 (by decide +kernel), tb 898 (by decide +kernel)⟩
theorem mk142 : mkP (11, 252, 27, 0) := ⟨tb 900 (by decide +kernel), tb 795 (by decide +kernel), tb 796 (by decide +kernel)⟩
theorem mk143 : mkP (13, 140, 158, 0) := ⟨tb 901 (by decide +kernel), tb 902 (by decide +kernel), tb 903 (by decide +kernel)⟩
theorem mk144 : mkP (11, 253, 47, 0) := ⟨tb 905 (by decide +kernel), tb 827 (by decide +kernel), tb 828 (by decide +kernel)⟩
theorem mk145 : mkP (13, 144, 159, 0) := ⟨tb 906 (by decide +kernel), tb 907 (by decide +kernel), tb 908 (by decide +kernel)⟩
theorem mk146 : mkP (11, 256, 62, 0) := ⟨tb 910 (by decide +kernel), tb 911 (by decide +kernel), tb 912 (by decide +kernel)⟩
theorem mk147 : mkP (2, 92, 26, 0) := ⟨tb 914 (by decide +kernel), tb 765 (by decide +kernel), tb 766 (by decide +kernel)⟩
theorem mk148 : mkP (2, 96, 14, 0) := ⟨tb 915 (by decide +kernel), tb 576 (by decide +kernel), tb 577 (by decide +kernel)⟩
theorem mk149 : mkP (2, 102, 40, 0) := ⟨tb 916 (by decide +kernel), tb 731 (by decide +kernel), tb 732 (by decide +kernel)⟩
theorem mk150 : mkP (13, 148, 160, 0) := ⟨tb 917 (by decide +kernel), tb 918 (by decide +kernel), tb 919 (by decide +kernel)⟩
theorem mk151 : mkP (11, 259, 117, 0) := ⟨tb 921 (by decide +kernel), tb 922 (by decide +kernel), tb 923 (by decide +kernel)⟩
theorem mk152 : mkP (9, 54, 118, 0) := ⟨tb 925 (by decide +kernel), tb 927 (by decide +kernel), tb 16 (by decide +kernel)⟩
theorem mk153 : mkP (9, 57, 119, 0) := ⟨tb 929 (by decide +kernel), tb 931 (by decide +kernel), tb 17 (by decide +kernel)⟩
theorem mk154 : mkP (9, 60, 120, 0) := ⟨tb 933 (by decide +kernel), tb 934 (by decide +kernel), tb 935 (by decide +kernel)⟩
theorem mk155 : mkP (11, 262, 64, 0) := ⟨tb 937 (by decide +kernel), tb 938 (by decide +kernel), tb 939 (by decide +kernel)⟩
theorem mk156 : mkP (10, 86, 22, 0) := ⟨tb 941 (by decide +kernel), tb 554 (by decide +kernel), tb 555 (by decide +kernel)⟩
theorem mk157 : mkP (10, 60, 27, 0) := ⟨tb 942 (by decide +kernel), tb 795 (by decide +kernel), tb 796 (by decide +kernel)⟩
theorem mk158 : mkP (10, 94, 120, 0) := ⟨tb 943 (by decide +kernel), tb 934 (by decide +kernel), tb 935 (by decide +kernel)⟩
theorem mk159 : mkP (10, 97, 121, 0) := ⟨tb 944 (by decide +kernel), tb 945 (by decide +kernel), tb 946 (by decide +kernel)⟩
theorem mk160 : mkP (10, 53, 65, 0) := ⟨tb 948 (by decide +kernel), tb 949 (by decide +kernel), tb 950 (by decide +kernel)⟩
theorem mk161 : mkP (10, 34, 25, 0) := ⟨tb 952 (by decide +kernel), tb 683 (by decide +kernel), tb 684 (by decide +kernel)⟩
theorem mk162 : mkP (10, 38, 7, 0) := ⟨tb 953 (by decide +kernel), tb 472 (by decide +kernel), tb 473 (by decide +kernel)⟩
theorem mk163 : mkP (10, 44, 5, 0) := ⟨tb 954 (by decide +kernel), tb 464 (by decide +kernel), tb 465 (by decide +kernel)⟩
theorem mk164 : mkP (10, 47, 10, 0) := ⟨tb 955 (by decide +kernel), tb 484 (by decide +kernel), tb 485 (by decide +kernel)⟩
theorem mk165 : mkP (10, 99, 19, 0) := ⟨tb 956 (by decide +kernel), tb 719 (by decide +kernel), tb 720 (by decide +kernel)⟩
theorem mk166 : mkP (10, 102, 18, 0) := ⟨tb 957 (by decide +kernel), tb 608 (by decide +kernel), tb 609 (by decide +kernel)⟩
theorem mk167 : mkP (10, 105, 40, 0) := ⟨tb 958 (by decide +kernel), tb 731 (by decide +kernel), tb 732 (by decide +kernel)⟩
theorem mk168 : mkP (10, 109, 37, 0) := ⟨tb 959 (by decide +kernel), tb 700 (by decide +kernel), tb 701 (by decide +kernel)⟩
theorem mk169 : mkP (10, 64, 66, 0) := ⟨tb 960 (by decide +kernel), tb 962 (by decide +kernel), tb 18 (by decide +kernel)⟩
theorem mk170 : mkP (10, 68, 33, 0) := ⟨tb 964 (by decide +kernel), tb 965 (by decide +kernel), tb 966 (by decide +kernel)⟩
theorem mk171 : mkP (10, 71, 17, 0) := ⟨tb 968 (by decide +kernel), tb 604 (by decide +kernel), tb 605 (by decide +kernel)⟩
theorem mk172 : mkP (10, 74, 20, 0) := ⟨tb 969 (by decide +kernel), tb 723 (by decide +kernel), tb 724 (by decide +kernel)⟩
theorem mk173 : mkP (10, 77, 23, 0) := ⟨tb 970 (by decide +kernel), tb 668 (by decide +kernel), tb 669 (by decide +kernel)⟩
theorem mk174 : mkP (10, 81, 41, 0) := ⟨tb 971 (by decide +kernel), tb 740 (by decide +kernel), tb 741 (by decide +kernel)⟩
theorem mk175 : mkP (13, 152, 161, 0) := ⟨tb 972 (by decide +kernel), tb 973 (by decide +kernel), tb 974 (by decide +kernel)⟩
theorem mk176 : mkP (11, 266, 65, 0) := ⟨tb 976 (by decide +kernel), tb 949 (by decide +kernel), tb 950 (by decide +kernel)⟩
theorem mk177 : mkP (13, 156, 162, 0) := ⟨tb 977 (by decide +kernel), tb 978 (by decide +kernel), tb 979 (by decide +kernel)⟩
theorem mk178 : mkP (11, 270, 67, 0) := ⟨tb 981 (by decide +kernel), tb 982 (by decide +kernel), tb 983 (by decide +kernel)⟩
theorem mk179 : mkP (13, 160, 163, 0) := ⟨tb 985 (by decide +kernel), tb 986 (by decide +kernel), tb 987 (by decide +kernel)⟩
theorem mk180 : mkP (11, 274, 68, 0) := ⟨tb 989 (by decide +kernel), tb 990 (by decide +kernel), tb 991 (by decide +kernel)⟩
theorem mk181 : mkP (13, 164, 164, 0) := ⟨tb 993 (by decide +kernel), tb 994 (by decide +kernel), tb 995 (by decide +kernel)⟩
theorem mk182 : mkP (11, 277, 69, 0) := ⟨tb 997 (by decide +kernel), tb 998 (by decide +kernel), tb 999 (by decide +kernel)⟩
theorem mk183 : mkP (10, 57, 68, 0) := ⟨tb 1001 (by decide +kernel), tb 990 (by decide +kernel), tb 991 (by decide +kernel)⟩
theorem mk184 : mkP (11, 280, 70, 0) := ⟨tb 1002 (by decide +kernel), tb 1003 (by decide +kernel), tb 1004 (by decide +kernel)⟩
theorem mk185 : mkP (13, 168, 165, 0) := ⟨tb 1006 (by decide +kernel), tb 1007 (by decide +kernel), tb 1008 (by decide +kernel)⟩
theorem mk186 : mkP (13, 172, 166, 0) := ⟨tb 1010 (by decide +kernel), tb 1011 (by decide +kernel), tb 1012 (by decide +kernel)⟩
theorem mk187 : mkP (11, 283, 49, 0) := ⟨tb 1014 (by decide +kernel), tb 1015 (by decide +kernel), tb 1016 (by decide +kernel)⟩
theorem mk188 : mkP (7, 110, 50, 0) := ⟨tb 1018 (by decide +kernel), tb 1019 (by decide +kernel), tb 1020 (by decide +kernel)⟩
theorem mk189 : mkP (7, 106, 27, 0) := ⟨tb 1022 (by decide +kernel), tb 795 (by decide +kernel), tb 796 (by decide +kernel)⟩
theorem mk190 : mkP (7, 114, 51, 0) := ⟨tb 1023 (by decide +kernel), tb 1024 (by decide +kernel), tb 1025 (by decide +kernel)⟩
theorem mk191 : mkP (7, 117, 31, 0) := ⟨tb 1027 (by decide +kernel), tb 889 (by decide +kernel), tb 890 (by decide +kernel)⟩
theorem mk192 : mkP (13, 176, 167, 0) := ⟨tb 1028 (by decide +kernel), tb 1029 (by decide +kernel), tb 1030 (by decide +kernel)⟩
theorem mk193 : mkP (11, 286, 168, 0) := ⟨tb 1032 (by decide +kernel), tb 1034 (by decide +kernel), tb 19 (by decide +kernel)⟩
theorem mk194 : mkP (11, 289, 71, 0) := ⟨tb 1036 (by decide +kernel), tb 1037 (by decide +kernel), tb 1038 (by decide +kernel)⟩
theorem mk195 : mkP (13, 180, 169, 0) := ⟨tb 1040 (by decide +kernel), tb 1041 (by decide +kernel), tb 1042 (by decide +kernel)⟩
theorem mk196 : mkP (13, 184, 170, 0) := ⟨tb 1044 (by decide +kernel), tb 1045 (by decide +kernel), tb 1046 (by decide +kernel)⟩
theorem mk197 : mkP (11, 292, 72, 0) := ⟨tb 1048 (by decide +kernel), tb 1049 (by decide +kernel), tb 1050 (by decide +kernel)⟩
theorem mk198 : mkP (13, 188, 171, 0) := ⟨tb 1052 (by decide +kernel), tb 1053 (by decide +kernel), tb 1054 (by decide +kernel)⟩
theorem mk199 : mkP (13, 192, 172, 0) := ⟨tb 1056 (by decide +kernel), tb 1057 (by decide +kernel), tb 1058 (by decide +kernel)⟩
theorem mk200 : mkP (11, 295, 173, 1) := ⟨tb 1060 (by decide +kernel), tb 1061 (by decide +kernel)⟩
theorem mk201 : mkP (11, 298, 76, 0) := ⟨tb 1063 (by decide +kernel), tb 1064 (by decide +kernel), tb 1065 (by decide +kernel)⟩
theorem mk202 : mkP (1, 90, 77, 0) := ⟨tb 1067 (by decide +kernel), tb 1069 (by decide +kernel), tb 20 (by decide +kernel)⟩
theorem mk203 : mkP (1, 94, 78, 0) := ⟨tb 1071 (by decide +kernel), tb 1073 (by decide +kernel), tb 21 (by decide +kernel)⟩
theorem mk204 : mkP (1, 61, 24, 0) := ⟨tb 1075 (by decide +kernel), tb 676 (by decide +kernel), tb 677 (by decide +kernel)⟩
theorem mk205 : mkP (1, 65, 46, 0) := ⟨tb 1076 (by decide +kernel), tb 821 (by decide +kernel), tb 822 (by decide +kernel)⟩
theorem mk206 : mkP (1, 71, 26, 0) := ⟨tb 1077 (by decide +kernel), tb 765 (by decide +kernel), tb 766 (by decide +kernel)⟩
theorem mk207 : mkP (1, 75, 27, 0) := ⟨tb 1078 (by decide +kernel), tb 795 (by decide +kernel), tb 796 (by decide +kernel)⟩
theorem mk208 : mkP (1, 79, 33, 0) := ⟨tb 1079 (by decide +kernel), tb 965 (by decide +kernel), tb 966 (by decide +kernel)⟩
theorem mk209 : mkP (1, 82, 23, 0) := ⟨tb 1080 (by decide +kernel), tb 668 (by decide +kernel), tb 669 (by decide +kernel)⟩
theorem mk210 : mkP (1, 86, 42, 0) := ⟨tb 1081 (by decide +kernel), tb 761 (by decide +kernel), tb 762 (by decide +kernel)⟩
theorem mk211 : mkP (1, 98, 32, 0) := ⟨tb 1082 (by decide +kernel), tb 893 (by decide +kernel), tb 894 (by decide +kernel)⟩
theorem mk212 : mkP (13, 196, 174, 0) := ⟨tb 1083 (by decide +kernel), tb 1084 (by decide +kernel), tb 1085 (by decide +kernel)⟩
theorem mk213 : mkP (11, 302, 79, 0) := ⟨tb 1087 (by decide +kernel), tb 1088 (by decide +kernel), tb 1089 (by decide +kernel)⟩
theorem mk214 : mkP (13, 200, 175, 0) := ⟨tb 1091 (by decide +kernel), tb 1092 (by decide +kernel), tb 1093 (by decide +kernel)⟩
theorem mk215 : mkP (11, 305, 80, 0) := ⟨tb 1095 (by decide +kernel), tb 1096 (by decide +kernel), tb 1097 (by decide +kernel)⟩
theorem mk216 : mkP (1, 49, 81, 1) := ⟨tb 1099 (by decide +kernel), tb 1100 (by decide +kernel)⟩
theorem mk217 : mkP (1, 102, 76, 0) := ⟨tb 1102 (by decide +kernel), tb 1064 (by decide +kernel), tb 1065 (by decide +kernel)⟩
theorem mk218 : mkP (11, 308, 82, 0) := ⟨tb 1103 (by decide +kernel), tb 1104 (by decide +kernel), tb 1105 (by decide +kernel)⟩
theorem mk219 : mkP (13, 213, 176, 0) := ⟨tb 1107 (by decide +kernel), tb 1108 (by decide +kernel), tb 1109 (by decide +kernel)⟩
theorem mk220 : mkP (11, 314, 83, 3) := ⟨tb 1111 (by decide +kernel), tb 1113 (by decide +kernel), tb 22 (by decide +kernel)⟩
theorem mk221 : mkP (1, 106, 79, 0) := ⟨tb 1115 (by decide +kernel), tb 1088 (by decide +kernel), tb 1089 (by decide +kernel)⟩
theorem mk222 : mkP (1, 110, 83, 0) := ⟨tb 1116 (by decide +kernel), tb 1113 (by decide +kernel), tb 22 (by decide +kernel)⟩
theorem mk223 : mkP (13, 217, 177, 0) := ⟨tb 1117 (by decide +kernel), tb 1118 (by decide +kernel), tb 1119 (by decide +kernel)⟩
theorem mk224 : mkP (11, 317, 95, 0) := ⟨tb 1121 (by decide +kernel), tb 1122 (by decide +kernel), tb 1123 (by decide +kernel)⟩
theorem mk225 : mkP (4, 125, 27, 0) := ⟨tb 1125 (by decide +kernel), tb 795 (by decide +kernel), tb 796 (by decide +kernel)⟩
theorem mk226 : mkP (4, 94, 23, 0) := ⟨tb 1126 (by decide +kernel), tb 668 (by decide +kernel), tb 669 (by decide +kernel)⟩
theorem mk227 : mkP (4, 128, 96, 0) := ⟨tb 1127 (by decide +kernel), tb 1129 (by decide +kernel), tb 23 (by decide +kernel)⟩
theorem mk228 : mkP (4, 135, 25, 0) := ⟨tb 1131 (by decide +kernel), tb 683 (by decide +kernel), tb 684 (by decide +kernel)⟩
theorem mk229 : mkP (4, 138, 51, 0) := ⟨tb 1132 (by decide +kernel), tb 1024 (by decide +kernel), tb 1025 (by decide +kernel)⟩
theorem mk230 : mkP (4, 141, 18, 0) := ⟨tb 1133 (by decide +kernel), tb 608 (by decide +kernel), tb 609 (by decide +kernel)⟩
theorem mk231 : mkP (4, 145, 20, 0) := ⟨tb 1134 (by decide +kernel), tb 723 (by decide +kernel), tb 724 (by decide +kernel)⟩
theorem mk232 : mkP (4, 132, 97, 0) := ⟨tb 1135 (by decide +kernel), tb 1137 (by decide +kernel), tb 24 (by decide +kernel)⟩
theorem mk233 : mkP (4, 148, 98, 0) := ⟨tb 1139 (by decide +kernel), tb 1141 (by decide +kernel), tb 25 (by decide +kernel)⟩
theorem mk234 : mkP (4, 152, 7, 0) := ⟨tb 1143 (by decide +kernel), tb 472 (by decide +kernel), tb 473 (by decide +kernel)⟩
theorem mk235 : mkP (4, 154, 19, 0) := ⟨tb 1144 (by decide +kernel), tb 719 (by decide +kernel), tb 720 (by decide +kernel)⟩
theorem mk236 : mkP (13, 221, 178, 0) := ⟨tb 1145 (by decide +kernel), tb 1146 (by decide +kernel), tb 1147 (by decide +kernel)⟩
theorem mk237 : mkP (11, 320, 99, 0) := ⟨tb 1149 (by decide +kernel), tb 1150 (by decide +kernel), tb 1151 (by decide +kernel)⟩
theorem mk238 : mkP (4, 52, 100, 0) := ⟨tb 1153 (by decide +kernel), tb 1155 (by decide +kernel), tb 26 (by decide +kernel)⟩
theorem mk239 : mkP (4, 72, 22, 0) := ⟨tb 1157 (by decide +kernel), tb 554 (by decide +kernel), tb 555 (by decide +kernel)⟩
theorem mk240 : mkP (4, 75, 85, 0) := ⟨tb 1158 (by decide +kernel), tb 1159 (by decide +kernel), tb 1160 (by decide +kernel)⟩
theorem mk241 : mkP (4, 86, 33, 0) := ⟨tb 1162 (by decide +kernel), tb 965 (by decide +kernel), tb 966 (by decide +kernel)⟩
theorem mk242 : mkP (4, 90, 9, 0) := ⟨tb 1163 (by decide +kernel), tb 480 (by decide +kernel), tb 481 (by decide +kernel)⟩
theorem mk243 : mkP (4, 98, 41, 0) := ⟨tb 1164 (by decide +kernel), tb 740 (by decide +kernel), tb 741 (by decide +kernel)⟩
theorem mk244 : mkP (4, 102, 42, 0) := ⟨tb 1165 (by decide +kernel), tb 761 (by decide +kernel), tb 762 (by decide +kernel)⟩
theorem mk245 : mkP (4, 106, 86, 0) := ⟨tb 1166 (by decide +kernel), tb 1167 (by decide +kernel), tb 1168 (by decide +kernel)⟩
theorem mk246 : mkP (8, 30, 87, 0) := ⟨tb 1170 (by decide +kernel), tb 1172 (by decide +kernel), tb 27 (by decide +kernel)⟩
theorem mk247 : mkP (8, 34, 88, 1) := ⟨tb 1174 (by decide +kernel), tb 1175 (by decide +kernel)⟩
theorem mk248 : mkP (8, 50, 25, 0) := ⟨tb 1177 (by decide +kernel), tb 683 (by decide +kernel), tb 684 (by decide +kernel)⟩
theorem mk249 : mkP (8, 38, 89, 1) := ⟨tb 1178 (by decide +kernel), tb 1179 (by decide +kernel)⟩
theorem mk250 : mkP (8, 42, 90, 0) := ⟨tb 1181 (by decide +kernel), tb 1183 (by decide +kernel), tb 28 (by decide +kernel)⟩
theorem mk251 : mkP (8, 46, 91, 0) := ⟨tb 1185 (by decide +kernel), tb 1187 (by decide +kernel), tb 29 (by decide +kernel)⟩
theorem mk252 : mkP (8, 64, 92, 0) := ⟨tb 1189 (by decide +kernel), tb 1191 (by decide +kernel), tb 30 (by decide +kernel)⟩
theorem mk253 : mkP (4, 110, 101, 0) := ⟨tb 1193 (by decide +kernel), tb 1195 (by decide +kernel), tb 31 (by decide +kernel)⟩
theorem mk254 : mkP (4, 113, 93, 0) := ⟨tb 1197 (by decide +kernel), tb 1198 (by decide +kernel), tb 1199 (by decide +kernel)⟩
theorem mk255 : mkP (4, 60, 102, 0) := ⟨tb 1201 (by decide +kernel), tb 1203 (by decide +kernel), tb 32 (by decide +kernel)⟩
theorem mk256 : mkP (4, 119, 37, 0) := ⟨tb 1205 (by decide +kernel), tb 700 (by decide +kernel), tb 701 (by decide +kernel)⟩
theorem mk257 : mkP (4, 63, 52, 0) := ⟨tb 1206 (by decide +kernel), tb 1207 (by decide +kernel), tb 1208 (by decide +kernel)⟩
theorem mk258 : mkP (7, 91, 42, 0) := ⟨tb 1210 (by decide +kernel), tb 761 (by decide +kernel), tb 762 (by decide +kernel)⟩
theorem mk259 : mkP (13, 225, 179, 0) := ⟨tb 1211 (by decide +kernel), tb 1212 (by decide +kernel), tb 1213 (by decide +kernel)⟩
theorem mk260 : mkP (11, 327, 103, 0) := ⟨tb 1215 (by decide +kernel), tb 1216 (by decide +kernel), tb 1217 (by decide +kernel)⟩
theorem mk261 : mkP (13, 229, 180, 0) := ⟨tb 1219 (by decide +kernel), tb 1220 (by decide +kernel), tb 1221 (by decide +kernel)⟩
theorem mk262 : mkP (11, 333, 105, 0) := ⟨tb 1223 (by decide +kernel), tb 1224 (by decide +kernel), tb 1225 (by decide +kernel)⟩
theorem mk263 : mkP (0, 39, 25, 0) := ⟨tb 1227 (by decide +kernel), tb 683 (by decide +kernel), tb 684 (by decide +kernel)⟩
theorem mk264 : mkP (13, 233, 181, 0) := ⟨tb 1228 (by decide +kernel), tb 1229 (by decide +kernel), tb 1230 (by decide +kernel)⟩
theorem mk265 : mkP (11, 336, 106, 0) := ⟨tb 1232 (by decide +kernel), tb 1233 (by decide +kernel), tb 1234 (by decide +kernel)⟩
theorem mk266 : mkP (0, 46, 85, 0) := ⟨tb 1236 (by decide +kernel), tb 1159 (by decide +kernel), tb 1160 (by decide +kernel)⟩
theorem mk267 : mkP (0, 51, 50, 0) := ⟨tb 1237 (by decide +kernel), tb 1019 (by decide +kernel), tb 1020 (by decide +kernel)⟩
theorem mk268 : mkP (0, 57, 86, 0) := ⟨tb 1238 (by decide +kernel), tb 1167 (by decide +kernel), tb 1168 (by decide +kernel)⟩
theorem mk269 : mkP (0, 61, 51, 0) := ⟨tb 1239 (by decide +kernel), tb 1024 (by decide +kernel), tb 1025 (by decide +kernel)⟩
theorem mk270 : mkP (11, 339, 93, 0) := ⟨tb 1240 (by decide +kernel), tb 1198 (by decide +kernel), tb 1199 (by decide +kernel)⟩
theorem mk271 : mkP (13, 237, 182, 0) := ⟨tb 1241 (by decide +kernel), tb 1242 (by decide +kernel), tb 1243 (by decide +kernel)⟩
theorem mk272 : mkP (11, 342, 107, 0) := ⟨tb 1245 (by decide +kernel), tb 1246 (by decide +kernel), tb 1247 (by decide +kernel)⟩
theorem mk273 : mkP (0, 64, 108, 0) := ⟨tb 1249 (by decide +kernel), tb 1251 (by decide +kernel), tb 33 (by decide +kernel)⟩
theorem mk274 : mkP (0, 76, 33, 0) := ⟨tb 1253 (by decide +kernel), tb 965 (by decide +kernel), tb 966 (by decide +kernel)⟩
theorem mk275 : mkP (0, 79, 23, 0) := ⟨tb 1254 (by decide +kernel), tb 668 (by decide +kernel), tb 669 (by decide +kernel)⟩
theorem mk276 : mkP (0, 68, 53, 0) := ⟨tb 1255 (by decide +kernel), tb 1256 (by decide +kernel), tb 1257 (by decide +kernel)⟩
theorem mk277 : mkP (0, 72, 27, 0) := ⟨tb 1259 (by decide +kernel), tb 795 (by decide +kernel), tb 796 (by decide +kernel)⟩
theorem mk278 : mkP (13, 241, 183, 0) := ⟨tb 1260 (by decide +kernel), tb 1261 (by decide +kernel), tb 1262 (by decide +kernel)⟩
theorem mk279 : mkP (11, 346, 73, 0) := ⟨tb 1264 (by decide +kernel), tb 1265 (by decide +kernel), tb 1266 (by decide +kernel)⟩
theorem mk280 : mkP (10, 111, 15, 0) := ⟨tb 1268 (by decide +kernel), tb 592 (by decide +kernel), tb 593 (by decide +kernel)⟩
theorem mk281 : mkP (10, 114, 306, 1) := ⟨tb 1269 (by decide +kernel), tb 617 (by decide +kernel)⟩
theorem mk282 : mkP (13, 245, 184, 0) := ⟨tb 1270 (by decide +kernel), tb 1271 (by decide +kernel), tb 1272 (by decide +kernel)⟩
theorem mk283 : mkP (11, 355, 185, 0) := ⟨tb 1274 (by decide +kernel), tb 1276 (by decide +kernel), tb 34 (by decide +kernel)⟩
theorem mk284 : mkP (13, 7, 186, 0) := ⟨tb 1282 (by decide +kernel), tb 1283 (by decide +kernel), tb 1284 (by decide +kernel)⟩
theorem mk285 : mkP (13, 15, 187, 0) := ⟨tb 1350 (by decide +kernel), tb 1351 (by decide +kernel), tb 1352 (by decide +kernel)⟩
theorem mk286 : mkP (13, 22, 188, 2) := ⟨tb 1356 (by decide +kernel), rfl, tb 1357 (by decide +kernel)⟩
theorem mk287 : mkP (12, 120, 189, 0) := ⟨tb 1360 (by decide +kernel), tb 1362 (by decide +kernel), tb 36 (by decide +kernel)⟩
theorem mk288 : mkP (12, 148, 190, 0) := ⟨tb 1364 (by decide +kernel), tb 1366 (by decide +kernel), tb 37 (by decide +kernel)⟩
theorem mk289 : mkP (12, 152, 191, 0) := ⟨tb 1368 (by decide +kernel), tb 1370 (by decide +kernel), tb 38 (by decide +kernel)⟩
theorem mk290 : mkP (12, 144, 192, 0) := ⟨tb 1372 (by decide +kernel), tb 1374 (by decide +kernel), tb 39 (by decide +kernel)⟩
theorem mk291 : mkP (12, 164, 193, 0) := ⟨tb 1376 (by decide +kernel), tb 1378 (by decide +kernel), tb 40 (by decide +kernel)⟩
theorem mk292 : mkP (12, 155, 194, 0) := ⟨tb 1380 (by decide +kernel), tb 1382 (by decide +kernel), tb 41 (by decide +kernel)⟩
theorem mk293 : mkP (12, 167, 195, 0) := ⟨tb 1384 (by decide +kernel), tb 1386 (by decide +kernel), tb 42 (by decide +kernel)⟩
theorem mk294 : mkP (13, 210, 196, 0) := ⟨tb 1528 (by decide +kernel), tb 1529 (by decide +kernel), tb 1530 (by decide +kernel)⟩
theorem mk295 : mkP (13, 60, 197, 0) := ⟨tb 1532 (by decide +kernel), tb 1533 (by decide +kernel), tb 1534 (by decide +kernel)⟩
theorem mk296 : mkP (13, 65, 198, 0) := ⟨tb 1536 (by decide +kernel), tb 1537 (by decide +kernel), tb 1538 (by decide +kernel)⟩
theorem mk297 : mkP (12, 134, 199, 1) := ⟨tb 1540 (by decide +kernel), tb 1541 (by decide +kernel)⟩
theorem mk298 : mkP (13, 27, 200, 0) := ⟨tb 1543 (by decide +kernel), tb 1544 (by decide +kernel), tb 1545 (by decide +kernel)⟩
theorem mk299 : mkP (13, 31, 201, 0) := ⟨tb 1548 (by decide +kernel), tb 1549 (by decide +kernel), tb 1550 (by decide +kernel)⟩
theorem mk300 : mkP (12, 175, 202, 0) := ⟨tb 1552 (by decide +kernel), tb 1554 (by decide +kernel), tb 43 (by decide +kernel)⟩
theorem mk301 : mkP (12, 179, 203, 0) := ⟨tb 1556 (by decide +kernel), tb 1558 (by decide +kernel), tb 44 (by decide +kernel)⟩
theorem mk302 : mkP (13, 35, 204, 0) := ⟨tb 1560 (by decide +kernel), tb 1561 (by decide +kernel), tb 1562 (by decide +kernel)⟩
theorem mk303 : mkP (13, 39, 205, 0) := ⟨tb 1564 (by decide +kernel), tb 1565 (by decide +kernel), tb 1566 (by decide +kernel)⟩
theorem mk304 : mkP (13, 43, 206, 0) := ⟨tb 1568 (by decide +kernel), tb 1569 (by decide +kernel), tb 1570 (by decide +kernel)⟩
theorem mk305 : mkP (12, 186, 207, 0) := ⟨tb 1574 (by decide +kernel), tb 1576 (by decide +kernel), tb 45 (by decide +kernel)⟩
theorem mk306 : mkP (13, 47, 208, 0) := ⟨tb 1578 (by decide +kernel), tb 1579 (by decide +kernel), tb 1580 (by decide +kernel)⟩
theorem mk307 : mkP (12, 189, 209, 0) := ⟨tb 1582 (by decide +kernel), tb 1584 (by decide +kernel), tb 46 (by decide +kernel)⟩
theorem mk308 : mkP (13, 51, 210, 0) := ⟨tb 1586 (by decide +kernel), tb 1587 (by decide +kernel), tb 1588 (by decide +kernel)⟩
theorem mk309 : mkP (12, 192, 211, 0) := ⟨tb 1590 (by decide +kernel), tb 1592 (by decide +kernel), tb 47 (by decide +kernel)⟩
theorem mk310 : mkP (12, 195, 212, 1) := ⟨tb 1594 (by decide +kernel), tb 1595 (by decide +kernel)⟩
theorem mk311 : mkP (12, 198, 213, 0) := ⟨tb 1597 (by decide +kernel), tb 1599 (by decide +kernel), tb 48 (by decide +kernel)⟩
theorem mk312 : mkP (13, 56, 214, 0) := ⟨tb 1601 (by decide +kernel), tb 1602 (by decide +kernel), tb 1603 (by decide +kernel)⟩
theorem mk313 : mkP (13, 69, 215, 0) := ⟨tb 1605 (by decide +kernel), tb 1606 (by decide +kernel), tb 1607 (by decide +kernel)⟩
theorem mk314 : mkP (12, 248, 216, 0) := ⟨tb 1609 (by decide +kernel), tb 1611 (by decide +kernel), tb 49 (by decide +kernel)⟩
theorem mk315 : mkP (12, 202, 217, 1) := ⟨tb 1613 (by decide +kernel), tb 1614 (by decide +kernel)⟩
theorem mk316 : mkP (12, 241, 218, 0) := ⟨tb 1616 (by decide +kernel), tb 1618 (by decide +kernel), tb 50 (by decide +kernel)⟩
theorem mk317 : mkP (12, 245, 219, 0) := ⟨tb 1620 (by decide +kernel), tb 1622 (by decide +kernel), tb 51 (by decide +kernel)⟩
theorem mk318 : mkP (12, 251, 220, 1) := ⟨tb 1626 (by decide +kernel), tb 1627 (by decide +kernel)⟩
theorem mk319 : mkP (12, 254, 221, 0) := ⟨tb 1630 (by decide +kernel), tb 1632 (by decide +kernel), tb 52 (by decide +kernel)⟩
theorem mk320 : mkP (12, 206, 222, 1) := ⟨tb 1634 (by decide +kernel), tb 1635 (by decide +kernel)⟩
theorem mk321 : mkP (13, 73, 223, 0) := ⟨tb 1637 (by decide +kernel), tb 1638 (by decide +kernel), tb 1639 (by decide +kernel)⟩
theorem mk322 : mkP (12, 258, 224, 0) := ⟨tb 1641 (by decide +kernel), tb 1643 (by decide +kernel), tb 53 (by decide +kernel)⟩
theorem mk323 : mkP (13, 77, 225, 0) := ⟨tb 1645 (by decide +kernel), tb 1646 (by decide +kernel), tb 1647 (by decide +kernel)⟩
theorem mk324 : mkP (13, 82, 226, 0) := ⟨tb 1649 (by decide +kernel), tb 1650 (by decide +kernel), tb 1651 (by decide +kernel)⟩
theorem mk325 : mkP (12, 261, 227, 0) := ⟨tb 1653 (by decide +kernel), tb 1655 (by decide +kernel), tb 54 (by decide +kernel)⟩
theorem mk326 : mkP (12, 265, 228, 0) := ⟨tb 1657 (by decide +kernel), tb 1659 (by decide +kernel), tb 55 (by decide +kernel)⟩
theorem mk327 : mkP (13, 86, 229, 0) := ⟨tb 1661 (by decide +kernel), tb 1662 (by decide +kernel), tb 1663 (by decide +kernel)⟩
theorem mk328 : mkP (12, 218, 230, 0) := ⟨tb 1665 (by decide +kernel), tb 1667 (by decide +kernel), tb 56 (by decide +kernel)⟩
theorem mk329 : mkP (13, 90, 231, 0) := ⟨tb 1669 (by decide +kernel), tb 1670 (by decide +kernel), tb 1671 (by decide +kernel)⟩
theorem mk330 : mkP (12, 225, 232, 0) := ⟨tb 1673 (by decide +kernel), tb 1675 (by decide +kernel), tb 57 (by decide +kernel)⟩
theorem mk331 : mkP (13, 94, 233, 0) := ⟨tb 1677 (by decide +kernel), tb 1678 (by decide +kernel), tb 1679 (by decide +kernel)⟩
theorem mk332 : mkP (12, 214, 234, 0) := ⟨tb 1681 (by decide +kernel), tb 1683 (by decide +kernel), tb 58 (by decide +kernel)⟩
theorem mk333 : mkP (12, 210, 235, 1) := ⟨tb 1685 (by decide +kernel), tb 1686 (by decide +kernel)⟩
theorem mk334 : mkP (13, 99, 236, 0) := ⟨tb 1688 (by decide +kernel), tb 1689 (by decide +kernel), tb 1690 (by decide +kernel)⟩
theorem mk335 : mkP (12, 268, 237, 1) := ⟨tb 1692 (by decide +kernel), tb 1693 (by decide +kernel)⟩
theorem mk336 : mkP (12, 221, 238, 0) := ⟨tb 1695 (by decide +kernel), tb 1697 (by decide +kernel), tb 59 (by decide +kernel)⟩
theorem mk337 : mkP (13, 103, 239, 0) := ⟨tb 1699 (by decide +kernel), tb 1700 (by decide +kernel), tb 1701 (by decide +kernel)⟩
theorem mk338 : mkP (13, 107, 240, 0) := ⟨tb 1703 (by decide +kernel), tb 1704 (by decide +kernel), tb 1705 (by decide +kernel)⟩
theorem mk339 : mkP (12, 271, 241, 0) := ⟨tb 1707 (by decide +kernel), tb 1709 (by decide +kernel), tb 60 (by decide +kernel)⟩
theorem mk340 : mkP (12, 274, 242, 0) := ⟨tb 1711 (by decide +kernel), tb 1713 (by decide +kernel), tb 61 (by decide +kernel)⟩
theorem mk341 : mkP (12, 229, 243, 0) := ⟨tb 1715 (by decide +kernel), tb 1717 (by decide +kernel), tb 62 (by decide +kernel)⟩
theorem mk342 : mkP (13, 111, 244, 0) := ⟨tb 1719 (by decide +kernel), tb 1720 (by decide +kernel), tb 1721 (by decide +kernel)⟩
theorem mk343 : mkP (13, 127, 245, 0) := ⟨tb 1723 (by decide +kernel), tb 1724 (by decide +kernel), tb 1725 (by decide +kernel)⟩
theorem mk344 : mkP (13, 115, 246, 0) := ⟨tb 1727 (by decide +kernel), tb 1728 (by decide +kernel), tb 1729 (by decide +kernel)⟩
theorem mk345 : mkP (13, 119, 247, 0) := ⟨tb 1731 (by decide +kernel), tb 1732 (by decide +kernel), tb 1733 (by decide +kernel)⟩
theorem mk346 : mkP (13, 123, 248, 0) := ⟨tb 1735 (by decide +kernel), tb 1736 (by decide +kernel), tb 1737 (by decide +kernel)⟩
theorem mk347 : mkP (13, 131, 249, 0) := ⟨tb 1739 (by decide +kernel), tb 1740 (by decide +kernel), tb 1741 (by decide +kernel)⟩
theorem mk348 : mkP (12, 277, 250, 1) := ⟨tb 1743 (by decide +kernel), tb 1744 (by decide +kernel)⟩
theorem mk349 : mkP (12, 280, 251, 1) := ⟨tb 1746 (by decide +kernel), tb 1747 (by decide +kernel)⟩
theorem mk350 : mkP (13, 139, 252, 0) := ⟨tb 1749 (by decide +kernel), tb 1750 (by decide +kernel), tb 1751 (by decide +kernel)⟩
theorem mk351 : mkP (13, 143, 253, 0) := ⟨tb 1753 (by decide +kernel), tb 1754 (by decide +kernel), tb 1755 (by decide +kernel)⟩
theorem mk352 : mkP (13, 147, 254, 0) := ⟨tb 1757 (by decide +kernel), tb 1758 (by decide +kernel), tb 1759 (by decide +kernel)⟩
theorem mk353 : mkP (12, 283, 255, 0) := ⟨tb 1761 (by decide +kernel), tb 1763 (by decide +kernel), tb 63 (by decide +kernel)⟩
theorem mk354 : mkP (13, 135, 256, 0) := ⟨tb 1765 (by decide +kernel), tb 1766 (by decide +kernel), tb 1767 (by decide +kernel)⟩
theorem mk355 : mkP (12, 286, 257, 1) := ⟨tb 1769 (by decide +kernel), tb 1770 (by decide +kernel)⟩
theorem mk356 : mkP (13, 155, 258, 0) := ⟨tb 1772 (by decide +kernel), tb 1773 (by decide +kernel), tb 1774 (by decide +kernel)⟩
theorem mk357 : mkP (12, 290, 259, 0) := ⟨tb 1776 (by decide +kernel), tb 1778 (by decide +kernel), tb 64 (by decide +kernel)⟩
theorem mk358 : mkP (13, 159, 260, 0) := ⟨tb 1780 (by decide +kernel), tb 1781 (by decide +kernel), tb 1782 (by decide +kernel)⟩
theorem mk359 : mkP (12, 293, 261, 0) := ⟨tb 1784 (by decide +kernel), tb 1786 (by decide +kernel), tb 65 (by decide +kernel)⟩
theorem mk360 : mkP (13, 163, 262, 0) := ⟨tb 1788 (by decide +kernel), tb 1789 (by decide +kernel), tb 1790 (by decide +kernel)⟩
theorem mk361 : mkP (12, 296, 263, 0) := ⟨tb 1792 (by decide +kernel), tb 1794 (by decide +kernel), tb 66 (by decide +kernel)⟩
theorem mk362 : mkP (13, 167, 264, 0) := ⟨tb 1796 (by decide +kernel), tb 1797 (by decide +kernel), tb 1798 (by decide +kernel)⟩
theorem mk363 : mkP (13, 179, 265, 0) := ⟨tb 1800 (by decide +kernel), tb 1801 (by decide +kernel), tb 1802 (by decide +kernel)⟩
theorem mk364 : mkP (12, 299, 266, 0) := ⟨tb 1804 (by decide +kernel), tb 1806 (by decide +kernel), tb 67 (by decide +kernel)⟩
theorem mk365 : mkP (13, 183, 267, 0) := ⟨tb 1808 (by decide +kernel), tb 1809 (by decide +kernel), tb 1810 (by decide +kernel)⟩
theorem mk366 : mkP (13, 187, 268, 0) := ⟨tb 1812 (by decide +kernel), tb 1813 (by decide +kernel), tb 1814 (by decide +kernel)⟩
theorem mk367 : mkP (12, 303, 269, 0) := ⟨tb 1816 (by decide +kernel), tb 1818 (by decide +kernel), tb 68 (by decide +kernel)⟩
theorem mk368 : mkP (13, 191, 270, 0) := ⟨tb 1820 (by decide +kernel), tb 1821 (by decide +kernel), tb 1822 (by decide +kernel)⟩
theorem mk369 : mkP (13, 151, 271, 0) := ⟨tb 1824 (by decide +kernel), tb 1825 (by decide +kernel), tb 1826 (by decide +kernel)⟩
theorem mk370 : mkP (12, 314, 272, 0) := ⟨tb 1828 (by decide +kernel), tb 1830 (by decide +kernel), tb 69 (by decide +kernel)⟩
theorem mk371 : mkP (12, 310, 273, 0) := ⟨tb 1832 (by decide +kernel), tb 1834 (by decide +kernel), tb 70 (by decide +kernel)⟩
theorem mk372 : mkP (13, 171, 274, 0) := ⟨tb 1836 (by decide +kernel), tb 1837 (by decide +kernel), tb 1838 (by decide +kernel)⟩
theorem mk373 : mkP (13, 175, 275, 0) := ⟨tb 1840 (by decide +kernel), tb 1841 (by decide +kernel), tb 1842 (by decide +kernel)⟩
theorem mk374 : mkP (13, 195, 276, 0) := ⟨tb 1844 (by decide +kernel), tb 1845 (by decide +kernel), tb 1846 (by decide +kernel)⟩
theorem mk375 : mkP (12, 317, 277, 0) := ⟨tb 1848 (by decide +kernel), tb 1850 (by decide +kernel), tb 71 (by decide +kernel)⟩
theorem mk376 : mkP (12, 320, 278, 0) := ⟨tb 1852 (by decide +kernel), tb 1854 (by decide +kernel), tb 72 (by decide +kernel)⟩
theorem mk377 : mkP (12, 323, 279, 0) := ⟨tb 1856 (by decide +kernel), tb 1858 (by decide +kernel), tb 73 (by decide +kernel)⟩
theorem mk378 : mkP (12, 327, 280, 0) := ⟨tb 1860 (by decide +kernel), tb 1862 (by decide +kernel), tb 74 (by decide +kernel)⟩
theorem mk379 : mkP (13, 199, 281, 0) := ⟨tb 1864 (by decide +kernel), tb 1865 (by decide +kernel), tb 1866 (by decide +kernel)⟩
theorem mk380 : mkP (12, 334, 282, 0) := ⟨tb 1868 (by decide +kernel), tb 1870 (by decide +kernel), tb 75 (by decide +kernel)⟩
theorem mk381 : mkP (12, 331, 283, 0) := ⟨tb 1872 (by decide +kernel), tb 1874 (by decide +kernel), tb 76 (by decide +kernel)⟩
theorem mk382 : mkP (13, 203, 284, 0) := ⟨tb 1876 (by decide +kernel), tb 1877 (by decide +kernel), tb 1878 (by decide +kernel)⟩
theorem mk383 : mkP (13, 209, 285, 0) := ⟨tb 1880 (by decide +kernel), tb 1881 (by decide +kernel), tb 1882 (by decide +kernel)⟩
theorem mk384 : mkP (12, 338, 286, 0) := ⟨tb 1884 (by decide +kernel), tb 1886 (by decide +kernel), tb 77 (by decide +kernel)⟩
theorem mk385 : mkP (13, 216, 287, 0) := ⟨tb 1888 (by decide +kernel), tb 1889 (by decide +kernel), tb 1890 (by decide +kernel)⟩
theorem mk386 : mkP (12, 345, 288, 0) := ⟨tb 1892 (by decide +kernel), tb 1894 (by decide +kernel), tb 78 (by decide +kernel)⟩
theorem mk387 : mkP (12, 341, 289, 0) := ⟨tb 1896 (by decide +kernel), tb 1898 (by decide +kernel), tb 79 (by decide +kernel)⟩
theorem mk388 : mkP (13, 220, 290, 0) := ⟨tb 1900 (by decide +kernel), tb 1901 (by decide +kernel), tb 1902 (by decide +kernel)⟩
theorem mk389 : mkP (12, 353, 291, 0) := ⟨tb 1905 (by decide +kernel), tb 1907 (by decide +kernel), tb 80 (by decide +kernel)⟩
theorem mk390 : mkP (12, 348, 292, 0) := ⟨tb 1909 (by decide +kernel), tb 1911 (by decide +kernel), tb 81 (by decide +kernel)⟩
theorem mk391 : mkP (13, 224, 293, 0) := ⟨tb 1913 (by decide +kernel), tb 1914 (by decide +kernel), tb 1915 (by decide +kernel)⟩
theorem mk392 : mkP (13, 228, 294, 0) := ⟨tb 1917 (by decide +kernel), tb 1918 (by decide +kernel), tb 1919 (by decide +kernel)⟩
theorem mk393 : mkP (13, 232, 295, 0) := ⟨tb 1921 (by decide +kernel), tb 1922 (by decide +kernel), tb 1923 (by decide +kernel)⟩
theorem mk394 : mkP (12, 357, 296, 0) := ⟨tb 1925 (by decide +kernel), tb 1927 (by decide +kernel), tb 82 (by decide +kernel)⟩
theorem mk395 : mkP (13, 236, 297, 0) := ⟨tb 1929 (by decide +kernel), tb 1930 (by decide +kernel), tb 1931 (by decide +kernel)⟩
theorem mk396 : mkP (12, 360, 298, 0) := ⟨tb 1933 (by decide +kernel), tb 1935 (by decide +kernel), tb 83 (by decide +kernel)⟩
theorem mk397 : mkP (13, 240, 299, 0) := ⟨tb 1937 (by decide +kernel), tb 1938 (by decide +kernel), tb 1939 (by decide +kernel)⟩
theorem mk398 : mkP (13, 244, 300, 0) := ⟨tb 1941 (by decide +kernel), tb 1942 (by decide +kernel), tb 1943 (by decide +kernel)⟩
theorem mk399 : mkP (13, 248, 301, 0) := ⟨tb 1945 (by decide +kernel), tb 1946 (by decide +kernel), tb 1947 (by decide +kernel)⟩
theorem mk400 : mkP (12, 363, 302, 0) := ⟨tb 1949 (by decide +kernel), tb 1951 (by decide +kernel), tb 84 (by decide +kernel)⟩
theorem mk401 : mkP (13, 252, 303, 0) := ⟨tb 1953 (by decide +kernel), tb 1954 (by decide +kernel), tb 1955 (by decide +kernel)⟩
set_option maxRecDepth 100000 in
theorem MK_ok : allP mkP MK := ⟨mk0, mk1, mk2, mk3, mk4, mk5, mk6, mk7, mk8, mk9, mk10, mk11, mk12, mk13, mk14, mk15, mk16, mk17, mk18, mk19, mk20, mk21, mk22, mk23, mk24, mk25, mk26, mk27, mk28, mk29, mk30, mk31, mk32, mk33, mk34, mk35, mk36, mk37, mk38, mk39, mk40, mk41, mk42, mk43, mk44, mk45, mk46, mk47, mk48, mk49, mk50, mk51, mk52, mk53, mk54, mk55, mk56, mk57, mk58, mk59, mk60, mk61, mk62, mk63, mk64, mk65, mk66, mk67, mk68, mk69, mk70, mk71, mk72, mk73, mk74, mk75, mk76, mk77, mk78, mk79, mk80, mk81, mk82, mk83, mk84, mk85, mk86, mk87, mk88, mk89, mk90, mk91, mk92, mk93, mk94, mk95, mk96, mk97, mk98, mk99, mk100, mk101, mk102, mk103, mk104, mk105, mk106, mk107, mk108, mk109, mk110, mk111, mk112, mk113, mk114, mk115, mk116, mk117, mk118, mk119, mk120, mk121, mk122, mk123, mk124, mk125, mk126, mk127, mk128, mk129, mk130, mk131, mk132, mk133, mk134, mk135, mk136, mk137, mk138, mk139, mk140, mk141, mk142, mk143, mk144, mk145, mk146, mk147, mk148, mk149, mk150, mk151, mk152, mk153, mk154, mk155, mk156, mk157, mk158, mk159, mk160, mk161, mk162, mk163, mk164, mk165, mk166, mk167, mk168, mk169, mk170, mk171, mk172, mk173, mk174, mk175, mk176, mk177, mk178, mk179, mk180, mk181, mk182, mk183, mk184, mk185, mk186, mk187, mk188, mk189, mk190, mk191, mk192, mk193, mk194, mk195, mk196, mk197, mk198, mk199, mk200, mk201, mk202, mk203, mk204, mk205, mk206, mk207, mk208, mk209, mk210, mk211, mk212, mk213, mk214, mk215, mk216, mk217, mk218, mk219, mk220, mk221, mk222, mk223, mk224, mk225, mk226, mk227, mk228, mk229, mk230, mk231, mk232, mk233, mk234, mk235, mk236, mk237, mk238, mk239, mk240, mk241, mk242, mk243, mk244, mk245, mk246, mk247, mk248, mk249, mk250, mk251, mk252, mk253, mk254, mk255, mk256, mk257, mk258, mk259, mk260, mk261, mk262, mk263, mk264, mk265, mk266, mk267, mk268, mk269, mk270, mk271, mk272, mk273, mk274, mk275, mk276, mk277, mk278, mk279, mk280, mk281, mk282, mk283, mk284, mk285, mk286, mk287, mk288, mk289, mk290, mk291, mk292, mk293, mk294, mk295, mk296, mk297, mk298, mk299, mk300, mk301, mk302, mk303, mk304, mk305, mk306, mk307, mk308, mk309, mk310, mk311, mk312, mk313, mk314, mk315, mk316, mk317, mk318, mk319, mk320, mk321, mk322, mk323, mk324, mk325, mk326, mk327, mk328, mk329, mk330, mk331, mk332, mk333, mk334, mk335, mk336, mk337, mk338, mk339, mk340, mk341, mk342, mk343, mk344, mk345, mk346, mk347, mk348, mk349, mk350, mk351, mk352, mk353, mk354, mk355, mk356, mk357, mk358, mk359, mk360, mk361, mk362, mk363, mk364, mk365, mk366, mk367, mk368, mk369, mk370, mk371, mk372, mk373, mk374, mk375, mk376, mk377, mk378, mk379, mk380, mk381, mk382, mk383, mk384, mk385, mk386, mk387, mk388, mk389, mk390, mk391, mk392, mk393, mk394, mk395, mk396, mk397, mk398, mk399, mk400, mk401, trivial⟩
theorem nk0 : nkP (13, 8, 11) := ⟨tb 105 (by decide +kernel), tb 106 (by decide +kernel), tb 86 (by decide +kernel)⟩
theorem nk1 : nkP (11, 7, 3) := ⟨tb 113 (by decide +kernel), tb 114 (by decide +kernel), tb 87 (by decide +kernel)⟩
theorem nk2 : nkP (11, 16, 7) := ⟨tb 161 (by decide +kernel), tb 162 (by decide +kernel), tb 88 (by decide +kernel)⟩
theorem nk3 : nkP (7, 7, 6) := ⟨tb 167 (by decide +kernel), tb 168 (by decide +kernel), tb 89 (by decide +kernel)⟩
theorem nk4 : nkP (11, 25, 2) := ⟨tb 207 (by decide +kernel), tb 208 (by decide +kernel), tb 90 (by decide +kernel)⟩
theorem nk5 : nkP (2, 9, 5) := ⟨tb 213 (by decide +kernel), tb 214 (by decide +kernel), tb 91 (by decide +kernel)⟩
theorem nk6 : nkP (5, 7, 6) := ⟨tb 219 (by decide +kernel), tb 168 (by decide +kernel), tb 89 (by decide +kernel)⟩
theorem nk7 : nkP (2, 24, 6) := ⟨tb 234 (by decide +kernel), tb 168 (by decide +kernel), tb 89 (by decide +kernel)⟩
theorem nk8 : nkP (11, 34, 10) := ⟨tb 258 (by decide +kernel), tb 259 (by decide +kernel), tb 92 (by decide +kernel)⟩
theorem nk9 : nkP (10, 7, 6) := ⟨tb 264 (by decide +kernel), tb 168 (by decide +kernel), tb 89 (by decide +kernel)⟩
theorem nk10 : nkP (11, 43, 1) := ⟨tb 282 (by decide +kernel), tb 283 (by decide +kernel), tb 93 (by decide +kernel)⟩
theorem nk11 : nkP (1, 9, 6) := ⟨tb 288 (by decide +kernel), tb 168 (by decide +kernel), tb 89 (by decide +kernel)⟩
theorem nk12 : nkP (11, 50, 8) := ⟨tb 323 (by decide +kernel), tb 324 (by decide +kernel), tb 94 (by decide +kernel)⟩
theorem nk13 : nkP (11, 57, 4) := ⟨tb 348 (by decide +kernel), tb 349 (by decide +kernel), tb 95 (by decide +kernel)⟩
theorem nk14 : nkP (4, 9, 6) := ⟨tb 354 (by decide +kernel), tb 168 (by decide +kernel), tb 89 (by decide +kernel)⟩
theorem nk15 : nkP (11, 66, 0) := ⟨tb 395 (by decide +kernel), tb 396 (by decide +kernel), tb 96 (by decide +kernel)⟩
theorem nk16 : nkP (0, 9, 6) := ⟨tb 401 (by decide +kernel), tb 168 (by decide +kernel), tb 89 (by decide +kernel)⟩
theorem nk17 : nkP (11, 73, 6) := ⟨tb 416 (by decide +kernel), tb 168 (by decide +kernel), tb 89 (by decide +kernel)⟩
theorem nk18 : nkP (11, 79, 9) := ⟨tb 417 (by decide +kernel), tb 418 (by decide +kernel), tb 97 (by decide +kernel)⟩
theorem nk19 : nkP (13, 20, 12) := ⟨tb 1354 (by decide +kernel), tb 1355 (by decide +kernel), tb 99 (by decide +kernel)⟩
set_option maxRecDepth 100000 in
theorem NK_ok : allP nkP NK := ⟨nk0, nk1, nk2, nk3, nk4, nk5, nk6, nk7, nk8, nk9, nk10, nk11, nk12, nk13, nk14, nk15, nk16, nk17, nk18, nk19, trivial⟩
set_option maxRecDepth 100000 in
theorem OK_ok : allP okP OK := ⟨tb 110 (by decide +kernel), tb 118 (by decide +kernel), tb 166 (by decide +kernel), tb 172 (by decide +kernel), tb 212 (by decide +kernel), tb 218 (by decide +kernel), tb 263 (by decide +kernel), tb 287 (by decide +kernel), tb 328 (by decide +kernel), tb 353 (by decide +kernel), tb 400 (by decide +kernel), tb 422 (by decide +kernel), tb 1359 (by decide +kernel), trivial⟩
set_option maxRecDepth 100000 in
theorem KK_ok : allP kkP KK := ⟨tb 1547 (by decide +kernel), tb 1572 (by decide +kernel), tb 1573 (by decide +kernel), tb 1624 (by decide +kernel), tb 1625 (by decide +kernel), tb 1629 (by decide +kernel), tb 1904 (by decide +kernel), trivial⟩
set_option maxRecDepth 100000 in
theorem KI_ok : allP kiP KI := ⟨tb 619 (by decide +kernel), tb 620 (by decide +kernel), tb 621 (by decide +kernel), trivial⟩
theorem mt0 : mtP 0 := ⟨tb 117 (by decide +kernel), tb 87 (by decide +kernel), by decide +kernel, by decide +kernel, by decide +kernel, by decide +kernel, rfl⟩
theorem mt1 : mtP 1 := ⟨tb 451 (by decide +kernel), tb 87 (by decide +kernel), by decide +kernel, by decide +kernel, by decide +kernel, by decide +kernel, rfl⟩
theorem mt2 : mtP 2 := ⟨tb 455 (by decide +kernel), tb 87 (by decide +kernel), by decide +kernel, by decide +kernel, by decide +kernel, by decide +kernel, rfl⟩
theorem mt3 : mtP 3 := ⟨tb 459 (by decide +kernel), tb 87 (by decide +kernel), by decide +kernel, by decide +kernel, by decide +kernel, by decide +kernel, rfl⟩
theorem mt4 : mtP 4 := ⟨tb 462 (by decide +kernel), tb 87 (by decide +kernel), by decide +kernel, by decide +kernel, by decide +kernel, by decide +kernel, rfl⟩
theorem mt5 : mtP 5 := ⟨tb 466 (by decide +kernel), tb 87 (by decide +kernel), by decide +kernel, by decide +kernel, by decide +kernel, by decide +kernel, rfl⟩
theorem mt6 : mtP 6 := ⟨tb 470 (by decide +kernel), tb 87 (by decide +kernel), by decide +kernel, by decide +kernel, by decide +kernel, by decide +kernel, rfl⟩
theorem mt7 : mtP 7 := ⟨tb 474 (by decide +kernel), tb 87 (by decide +kernel), by decide +kernel, by decide +kernel, by decide +kernel, by decide +kernel, rfl⟩
theorem mt8 : mtP 8 := ⟨tb 478 (by decide +kernel), tb 87 (by decide +kernel), by decide +kernel, by decide +kernel, by decide +kernel, by decide +kernel, rfl⟩
theorem mt9 : mtP 9 := ⟨tb 482 (by decide +kernel), tb 87 (by decide +kernel), by decide +kernel, by decide +kernel, by decide +kernel, by decide +kernel, rfl⟩
theorem mt10 : mtP 10 := ⟨tb 486 (by decide +kernel), tb 87 (by decide +kernel), by decide +kernel, by decide +kernel, by decide +kernel, by decide +kernel, rfl⟩
theorem mt11 : mtP 11 := ⟨tb 493 (by decide +kernel), tb 87 (by decide +kernel), by decide +kernel, by decide +kernel, by decide +kernel, by decide +kernel, rfl⟩
theorem mt12 : mtP 12 := ⟨tb 544 (by decide +kernel), tb 87 (by decide +kernel), by decide +kernel, by decide +kernel, by decide +kernel, by decide +kernel, rfl⟩
theorem mt13 : mtP 13 := ⟨tb 564 (by decide +kernel), tb 87 (by decide +kernel), by decide +kernel, by decide +kernel, by decide +kernel, by decide +kernel, rfl⟩
theorem mt14 : mtP 14 := ⟨tb 578 (by decide +kernel), tb 87 (by decide +kernel), by decide +kernel, by decide +kernel, by decide +kernel, by decide +kernel, rfl⟩
theorem mt15 : mtP 15 := ⟨tb 594 (by decide +kernel), tb 87 (by decide +kernel), by decide +kernel, by decide +kernel, by decide +kernel, by decide +kernel, rfl⟩
theorem mt16 : mtP 16 := ⟨tb 602 (by decide +kernel), tb 87 (by decide +kernel), by decide +kernel, by decide +kernel, by decide +kernel, by decide +kernel, rfl⟩
theorem mt17 : mtP 17 := ⟨tb 606 (by decide +kernel), tb 87 (by decide +kernel), by decide +kernel, by decide +kernel, by decide +kernel, by decide +kernel, rfl⟩
theorem mt18 : mtP 18 := ⟨tb 610 (by decide +kernel), tb 87 (by decide +kernel), by decide +kernel, by decide +kernel, by decide +kernel, by decide +kernel, rfl⟩
theorem mt19 : mtP 19 := ⟨tb 721 (by decide +kernel), tb 87 (by decide +kernel), by decide +kernel, by decide +kernel, by decide +kernel, by decide +kernel, rfl⟩
theorem mt20 : mtP 20 := ⟨tb 725 (by decide +kernel), tb 87 (by decide +kernel), by decide +kernel, by decide +kernel, by decide +kernel, by decide +kernel, rfl⟩
theorem mt21 : mtP 21 := ⟨tb 171 (by decide +kernel), tb 89 (by decide +kernel), by decide +kernel, by decide +kernel, by decide +kernel, by decide +kernel, rfl⟩
theorem mt22 : mtP 22 := ⟨tb 556 (by decide +kernel), tb 89 (by decide +kernel), by decide +kernel, by decide +kernel, by decide +kernel, by decide +kernel, rfl⟩
theorem mt23 : mtP 23 := ⟨tb 670 (by decide +kernel), tb 89 (by decide +kernel), by decide +kernel, by decide +kernel, by decide +kernel, by decide +kernel, rfl⟩
theorem mt24 : mtP 24 := ⟨tb 678 (by decide +kernel), tb 89 (by decide +kernel), by decide +kernel, by decide +kernel, by decide +kernel, by decide +kernel, rfl⟩
theorem mt25 : mtP 25 := ⟨tb 685 (by decide +kernel), tb 89 (by decide +kernel), by decide +kernel, by decide +kernel, by decide +kernel, by decide +kernel, rfl⟩
theorem mt26 : mtP 26 := ⟨tb 767 (by decide +kernel), tb 89 (by decide +kernel), by decide +kernel, by decide +kernel, by decide +kernel, by decide +kernel, rfl⟩
theorem mt27 : mtP 27 := ⟨tb 797 (by decide +kernel), tb 89 (by decide +kernel), by decide +kernel, by decide +kernel, by decide +kernel, by decide +kernel, rfl⟩
theorem mt28 : mtP 28 := ⟨tb 875 (by decide +kernel), tb 89 (by decide +kernel), by decide +kernel, by decide +kernel, by decide +kernel, by decide +kernel, rfl⟩
theorem mt29 : mtP 29 := ⟨tb 879 (by decide +kernel), tb 89 (by decide +kernel), by decide +kernel, by decide +kernel, by decide +kernel, by decide +kernel, rfl⟩
theorem mt30 : mtP 30 := ⟨tb 883 (by decide +kernel), tb 89 (by decide +kernel), by decide +kernel, by decide +kernel, by decide +kernel, by decide +kernel, rfl⟩
theorem mt31 : mtP 31 := ⟨tb 891 (by decide +kernel), tb 89 (by decide +kernel), by decide +kernel, by decide +kernel, by decide +kernel, by decide +kernel, rfl⟩
theorem mt32 : mtP 32 := ⟨tb 895 (by decide +kernel), tb 89 (by decide +kernel), by decide +kernel, by decide +kernel, by decide +kernel, by decide +kernel, rfl⟩
theorem mt33 : mtP 33 := ⟨tb 967 (by decide +kernel), tb 89 (by decide +kernel), by decide +kernel, by decide +kernel, by decide +kernel, by decide +kernel, rfl⟩
theorem mt34 : mtP 34 := ⟨tb 217 (by decide +kernel), tb 91 (by decide +kernel), by decide +kernel, by decide +kernel, by decide +kernel, by decide +kernel, rfl⟩
theorem mt35 : mtP 35 := ⟨tb 792 (by decide +kernel), tb 91 (by decide +kernel), by decide +kernel, by decide +kernel, by decide +kernel, by decide +kernel, rfl⟩
theorem mt36 : mtP 36 := ⟨tb 165 (by decide +kernel), tb 88 (by decide +kernel), by decide +kernel, by decide +kernel, by decide +kernel, by decide +kernel, rfl⟩
theorem mt37 : mtP 37 := ⟨tb 702 (by decide +kernel), tb 88 (by decide +kernel), by decide +kernel, by decide +kernel, by decide +kernel, by decide +kernel, rfl⟩
theorem mt38 : mtP 38 := ⟨tb 705 (by decide +kernel), tb 88 (by decide +kernel), by decide +kernel, by decide +kernel, by decide +kernel, by decide +kernel, rfl⟩
theorem mt39 : mtP 39 := ⟨tb 717 (by decide +kernel), tb 88 (by decide +kernel), by decide +kernel, by decide +kernel, by decide +kernel, by decide +kernel, rfl⟩
theorem mt40 : mtP 40 := ⟨tb 733 (by decide +kernel), tb 88 (by decide +kernel), by decide +kernel, by decide +kernel, by decide +kernel, by decide +kernel, rfl⟩
theorem mt41 : mtP 41 := ⟨tb 742 (by decide +kernel), tb 88 (by decide +kernel), by decide +kernel, by decide +kernel, by decide +kernel, by decide +kernel, rfl⟩
theorem mt42 : mtP 42 := ⟨tb 763 (by decide +kernel), tb 88 (by decide +kernel), by decide +kernel, by decide +kernel, by decide +kernel, by decide +kernel, rfl⟩
theorem mt43 : mtP 43 := ⟨tb 772 (by decide +kernel), tb 88 (by decide +kernel), by decide +kernel, by decide +kernel, by decide +kernel, by decide +kernel, rfl⟩
theorem mt44 : mtP 44 := ⟨tb 776 (by decide +kernel), tb 88 (by decide +kernel), by decide +kernel, by decide +kernel, by decide +kernel, by decide +kernel, rfl⟩
theorem mt45 : mtP 45 := ⟨tb 808 (by decide +kernel), tb 88 (by decide +kernel), by decide +kernel, by decide +kernel, by decide +kernel, by decide +kernel, rfl⟩
theorem mt46 : mtP 46 := ⟨tb 823 (by decide +kernel), tb 88 (by decide +kernel), by decide +kernel, by decide +kernel, by decide +kernel, by decide +kernel, rfl⟩
theorem mt47 : mtP 47 := ⟨tb 829 (by decide +kernel), tb 88 (by decide +kernel), by decide +kernel, by decide +kernel, by decide +kernel, by decide +kernel, rfl⟩
theorem mt48 : mtP 48 := ⟨tb 861 (by decide +kernel), tb 88 (by decide +kernel), by decide +kernel, by decide +kernel, by decide +kernel, by decide +kernel, rfl⟩
theorem mt49 : mtP 49 := ⟨tb 1017 (by decide +kernel), tb 88 (by decide +kernel), by decide +kernel, by decide +kernel, by decide +kernel, by decide +kernel, rfl⟩
theorem mt50 : mtP 50 := ⟨tb 1021 (by decide +kernel), tb 88 (by decide +kernel), by decide +kernel, by decide +kernel, by decide +kernel, by decide +kernel, rfl⟩
theorem mt51 : mtP 51 := ⟨tb 1026 (by decide +kernel), tb 88 (by decide +kernel), by decide +kernel, by decide +kernel, by decide +kernel, by decide +kernel, rfl⟩
theorem mt52 : mtP 52 := ⟨tb 1209 (by decide +kernel), tb 88 (by decide +kernel), by decide +kernel, by decide +kernel, by decide +kernel, by decide +kernel, rfl⟩
theorem mt53 : mtP 53 := ⟨tb 1258 (by decide +kernel), tb 88 (by decide +kernel), by decide +kernel, by decide +kernel, by decide +kernel, by decide +kernel, rfl⟩
theorem mt54 : mtP 54 := ⟨tb 211 (by decide +kernel), tb 90 (by decide +kernel), by decide +kernel, by decide +kernel, by decide +kernel, by decide +kernel, rfl⟩
theorem mt55 : mtP 55 := ⟨tb 788 (by decide +kernel), tb 90 (by decide +kernel), by decide +kernel, by decide +kernel, by decide +kernel, by decide +kernel, rfl⟩
theorem mt56 : mtP 56 := ⟨tb 804 (by decide +kernel), tb 90 (by decide +kernel), by decide +kernel, by decide +kernel, by decide +kernel, by decide +kernel, rfl⟩
theorem mt57 : mtP 57 := ⟨tb 814 (by decide +kernel), tb 90 (by decide +kernel), by decide +kernel, by decide +kernel, by decide +kernel, by decide +kernel, rfl⟩
theorem mt58 : mtP 58 := ⟨tb 818 (by decide +kernel), tb 90 (by decide +kernel), by decide +kernel, by decide +kernel, by decide +kernel, by decide +kernel, rfl⟩
theorem mt59 : mtP 59 := ⟨tb 837 (by decide +kernel), tb 90 (by decide +kernel), by decide +kernel, by decide +kernel, by decide +kernel, by decide +kernel, rfl⟩
theorem mt60 : mtP 60 := ⟨tb 845 (by decide +kernel), tb 90 (by decide +kernel), by decide +kernel, by decide +kernel, by decide +kernel, by decide +kernel, rfl⟩
theorem mt61 : mtP 61 := ⟨tb 849 (by decide +kernel), tb 90 (by decide +kernel), by decide +kernel, by decide +kernel, by decide +kernel, by decide +kernel, rfl⟩
theorem mt62 : mtP 62 := ⟨tb 913 (by decide +kernel), tb 90 (by decide +kernel), by decide +kernel, by decide +kernel, by decide +kernel, by decide +kernel, rfl⟩
theorem mt63 : mtP 63 := ⟨tb 262 (by decide +kernel), tb 92 (by decide +kernel), by decide +kernel, by decide +kernel, by decide +kernel, by decide +kernel, rfl⟩
theorem mt64 : mtP 64 := ⟨tb 940 (by decide +kernel), tb 92 (by decide +kernel), by decide +kernel, by decide +kernel, by decide +kernel, by decide +kernel, rfl⟩
theorem mt65 : mtP 65 := ⟨tb 951 (by decide +kernel), tb 92 (by decide +kernel), by decide +kernel, by decide +kernel, by decide +kernel, by decide +kernel, rfl⟩
theorem mt66 : mtP 66 := ⟨tb 963 (by decide +kernel), tb 92 (by decide +kernel), by decide +kernel, by decide +kernel, by decide +kernel, by decide +kernel, rfl⟩
theorem mt67 : mtP 67 := ⟨tb 984 (by decide +kernel), tb 92 (by decide +kernel), by decide +kernel, by decide +kernel, by decide +kernel, by decide +kernel, rfl⟩
theorem mt68 : mtP 68 := ⟨tb 992 (by decide +kernel), tb 92 (by decide +kernel), by decide +kernel, by decide +kernel, by decide +kernel, by decide +kernel, rfl⟩
theorem mt69 : mtP 69 := ⟨tb 1000 (by decide +kernel), tb 92 (by decide +kernel), by decide +kernel, by decide +kernel, by decide +kernel, by decide +kernel, rfl⟩
theorem mt70 : mtP 70 := ⟨tb 1005 (by decide +kernel), tb 92 (by decide +kernel), by decide +kernel, by decide +kernel, by decide +kernel, by decide +kernel, rfl⟩
theorem mt71 : mtP 71 := ⟨tb 1039 (by decide +kernel), tb 92 (by decide +kernel), by decide +kernel, by decide +kernel, by decide +kernel, by decide +kernel, rfl⟩
theorem mt72 : mtP 72 := ⟨tb 1051 (by decide +kernel), tb 92 (by decide +kernel), by decide +kernel, by decide +kernel, by decide +kernel, by decide +kernel, rfl⟩
theorem mt73 : mtP 73 := ⟨tb 1267 (by decide +kernel), tb 92 (by decide +kernel), by decide +kernel, by decide +kernel, by decide +kernel, by decide +kernel, rfl⟩
theorem mt74 : mtP 74 := ⟨tb 286 (by decide +kernel), tb 93 (by decide +kernel), by decide +kernel, by decide +kernel, by decide +kernel, by decide +kernel, rfl⟩
theorem mt75 : mtP 75 := ⟨tb 548 (by decide +kernel), tb 93 (by decide +kernel), by decide +kernel, by decide +kernel, by decide +kernel, by decide +kernel, rfl⟩
theorem mt76 : mtP 76 := ⟨tb 1066 (by decide +kernel), tb 93 (by decide +kernel), by decide +kernel, by decide +kernel, by decide +kernel, by decide +kernel, rfl⟩
theorem mt77 : mtP 77 := ⟨tb 1070 (by decide +kernel), tb 93 (by decide +kernel), by decide +kernel, by decide +kernel, by decide +kernel, by decide +kernel, rfl⟩
theorem mt78 : mtP 78 := ⟨tb 1074 (by decide +kernel), tb 93 (by decide +kernel), by decide +kernel, by decide +kernel, by decide +kernel, by decide +kernel, rfl⟩
theorem mt79 : mtP 79 := ⟨tb 1090 (by decide +kernel), tb 93 (by decide +kernel), by decide +kernel, by decide +kernel, by decide +kernel, by decide +kernel, rfl⟩
theorem mt80 : mtP 80 := ⟨tb 1098 (by decide +kernel), tb 93 (by decide +kernel), by decide +kernel, by decide +kernel, by decide +kernel, by decide +kernel, rfl⟩
theorem mt81 : mtP 81 := ⟨tb 1101 (by decide +kernel), tb 93 (by decide +kernel), by decide +kernel, by decide +kernel, by decide +kernel, by decide +kernel, rfl⟩
theorem mt82 : mtP 82 := ⟨tb 1106 (by decide +kernel), tb 93 (by decide +kernel), by decide +kernel, by decide +kernel, by decide +kernel, by decide +kernel, rfl⟩
theorem mt83 : mtP 83 := ⟨tb 1114 (by decide +kernel), tb 93 (by decide +kernel), by decide +kernel, by decide +kernel, by decide +kernel, by decide +kernel, rfl⟩
theorem mt84 : mtP 84 := ⟨tb 327 (by decide +kernel), tb 94 (by decide +kernel), by decide +kernel, by decide +kernel, by decide +kernel, by decide +kernel, rfl⟩
theorem mt85 : mtP 85 := ⟨tb 1161 (by decide +kernel), tb 94 (by decide +kernel), by decide +kernel, by decide +kernel, by decide +kernel, by decide +kernel, rfl⟩
theorem mt86 : mtP 86 := ⟨tb 1169 (by decide +kernel), tb 94 (by decide +kernel), by decide +kernel, by decide +kernel, by decide +kernel, by decide +kernel, rfl⟩
theorem mt87 : mtP 87 := ⟨tb 1173 (by decide +kernel), tb 94 (by decide +kernel), by decide +kernel, by decide +kernel, by decide +kernel, by decide +kernel, rfl⟩
theorem mt88 : mtP 88 := ⟨tb 1176 (by decide +kernel), tb 94 (by decide +kernel), by decide +kernel, by decide +kernel, by decide +kernel, by decide +kernel, rfl⟩
theorem mt89 : mtP 89 := ⟨tb 1180 (by decide +kernel), tb 94 (by decide +kernel), by decide +kernel, by decide +kernel, by decide +kernel, by decide +kernel, rfl⟩
theorem mt90 : mtP 90 := ⟨tb 1184 (by decide +kernel), tb 94 (by decide +kernel), by decide +kernel, by decide +kernel, by decide +kernel, by decide +kernel, rfl⟩
theorem mt91 : mtP 91 := ⟨tb 1188 (by decide +kernel), tb 94 (by decide +kernel), by decide +kernel, by decide +kernel, by decide +kernel, by decide +kernel, rfl⟩
theorem mt92 : mtP 92 := ⟨tb 1192 (by decide +kernel), tb 94 (by decide +kernel), by decide +kernel, by decide +kernel, by decide +kernel, by decide +kernel, rfl⟩
theorem mt93 : mtP 93 := ⟨tb 1200 (by decide +kernel), tb 94 (by decide +kernel), by decide +kernel, by decide +kernel, by decide +kernel, by decide +kernel, rfl⟩
theorem mt94 : mtP 94 := ⟨tb 352 (by decide +kernel), tb 95 (by decide +kernel), by decide +kernel, by decide +kernel, by decide +kernel, by decide +kernel, rfl⟩
theorem mt95 : mtP 95 := ⟨tb 1124 (by decide +kernel), tb 95 (by decide +kernel), by decide +kernel, by decide +kernel, by decide +kernel, by decide +kernel, rfl⟩
theorem mt96 : mtP 96 := ⟨tb 1130 (by decide +kernel), tb 95 (by decide +kernel), by decide +kernel, by decide +kernel, by decide +kernel, by decide +kernel, rfl⟩
theorem mt97 : mtP 97 := ⟨tb 1138 (by decide +kernel), tb 95 (by decide +kernel), by decide +kernel, by decide +kernel, by decide +kernel, by decide +kernel, rfl⟩
theorem mt98 : mtP 98 := ⟨tb 1142 (by decide +kernel), tb 95 (by decide +kernel), by decide +kernel, by decide +kernel, by decide +kernel, by decide +kernel, rfl⟩
theorem mt99 : mtP 99 := ⟨tb 1152 (by decide +kernel), tb 95 (by decide +kernel), by decide +kernel, by decide +kernel, by decide +kernel, by decide +kernel, rfl⟩
theorem mt100 : mtP 100 := ⟨tb 1156 (by decide +kernel), tb 95 (by decide +kernel), by decide +kernel, by decide +kernel, by decide +kernel, by decide +kernel, rfl⟩
theorem mt101 : mtP 101 := ⟨tb 1196 (by decide +kernel), tb 95 (by decide +kernel), by decide +kernel, by decide +kernel, by decide +kernel, by decide +kernel, rfl⟩
theorem mt102 : mtP 102 := ⟨tb 1204 (by decide +kernel), tb 95 (by decide +kernel), by decide +kernel, by decide +kernel, by decide +kernel, by decide +kernel, rfl⟩
theorem mt103 : mtP 103 := ⟨tb 1218 (by decide +kernel), tb 95 (by decide +kernel), by decide +kernel, by decide +kernel, by decide +kernel, by decide +kernel, rfl⟩
theorem mt104 : mtP 104 := ⟨tb 399 (by decide +kernel), tb 96 (by decide +kernel), by decide +kernel, by decide +kernel, by decide +kernel, by decide +kernel, rfl⟩
theorem mt105 : mtP 105 := ⟨tb 1226 (by decide +kernel), tb 96 (by decide +kernel), by decide +kernel, by decide +kernel, by decide +kernel, by decide +kernel, rfl⟩
theorem mt106 : mtP 106 := ⟨tb 1235 (by decide +kernel), tb 96 (by decide +kernel), by decide +kernel, by decide +kernel, by decide +kernel, by decide +kernel, rfl⟩
theorem mt107 : mtP 107 := ⟨tb 1248 (by decide +kernel), tb 96 (by decide +kernel), by decide +kernel, by decide +kernel, by decide +kernel, by decide +kernel, rfl⟩
theorem mt108 : mtP 108 := ⟨tb 1252 (by decide +kernel), tb 96 (by decide +kernel), by decide +kernel, by decide +kernel, by decide +kernel, by decide +kernel, rfl⟩
theorem mt109 : mtP 109 := ⟨tb 421 (by decide +kernel), tb 97 (by decide +kernel), by decide +kernel, by decide +kernel, by decide +kernel, by decide +kernel, rfl⟩
theorem mt110 : mtP 110 := ⟨tb 637 (by decide +kernel), tb 97 (by decide +kernel), by decide +kernel, by decide +kernel, by decide +kernel, by decide +kernel, rfl⟩
theorem mt111 : mtP 111 := ⟨tb 645 (by decide +kernel), tb 97 (by decide +kernel), by decide +kernel, by decide +kernel, by decide +kernel, by decide +kernel, rfl⟩
theorem mt112 : mtP 112 := ⟨tb 653 (by decide +kernel), tb 97 (by decide +kernel), by decide +kernel, by decide +kernel, by decide +kernel, by decide +kernel, rfl⟩
theorem mt113 : mtP 113 := ⟨tb 658 (by decide +kernel), tb 97 (by decide +kernel), by decide +kernel, by decide +kernel, by decide +kernel, by decide +kernel, rfl⟩
theorem mt114 : mtP 114 := ⟨tb 662 (by decide +kernel), tb 97 (by decide +kernel), by decide +kernel, by decide +kernel, by decide +kernel, by decide +kernel, rfl⟩
theorem mt115 : mtP 115 := ⟨tb 666 (by decide +kernel), tb 97 (by decide +kernel), by decide +kernel, by decide +kernel, by decide +kernel, by decide +kernel, rfl⟩
theorem mt116 : mtP 116 := ⟨tb 674 (by decide +kernel), tb 97 (by decide +kernel), by decide +kernel, by decide +kernel, by decide +kernel, by decide +kernel, rfl⟩
theorem mt117 : mtP 117 := ⟨tb 924 (by decide +kernel), tb 97 (by decide +kernel), by decide +kernel, by decide +kernel, by decide +kernel, by decide +kernel, rfl⟩
theorem mt118 : mtP 118 := ⟨tb 928 (by decide +kernel), tb 97 (by decide +kernel), by decide +kernel, by decide +kernel, by decide +kernel, by decide +kernel, rfl⟩
theorem mt119 : mtP 119 := ⟨tb 932 (by decide +kernel), tb 97 (by decide +kernel), by decide +kernel, by decide +kernel, by decide +kernel, by decide +kernel, rfl⟩
theorem mt120 : mtP 120 := ⟨tb 936 (by decide +kernel), tb 97 (by decide +kernel), by decide +kernel, by decide +kernel, by decide +kernel, by decide +kernel, rfl⟩
theorem mt121 : mtP 121 := ⟨tb 947 (by decide +kernel), tb 97 (by decide +kernel), by decide +kernel, by decide +kernel, by decide +kernel, by decide +kernel, rfl⟩
theorem mt122 : mtP 122 := ⟨tb 109 (by decide +kernel), tb 86 (by decide +kernel), by decide +kernel, by decide +kernel, by decide +kernel, by decide +kernel, rfl⟩
theorem mt123 : mtP 123 := ⟨tb 541 (by decide +kernel), tb 86 (by decide +kernel), by decide +kernel, by decide +kernel, by decide +kernel, by decide +kernel, rfl⟩
theorem mt124 : mtP 124 := ⟨tb 552 (by decide +kernel), tb 86 (by decide +kernel), by decide +kernel, by decide +kernel, by decide +kernel, by decide +kernel, rfl⟩
theorem mt125 : mtP 125 := ⟨tb 560 (by decide +kernel), tb 86 (by decide +kernel), by decide +kernel, by decide +kernel, by decide +kernel, by decide +kernel, rfl⟩
theorem mt126 : mtP 126 := ⟨tb 569 (by decide +kernel), tb 86 (by decide +kernel), by decide +kernel, by decide +kernel, by decide +kernel, by decide +kernel, rfl⟩
theorem mt127 : mtP 127 := ⟨tb 574 (by decide +kernel), tb 86 (by decide +kernel), by decide +kernel, by decide +kernel, by decide +kernel, by decide +kernel, rfl⟩
theorem mt128 : mtP 128 := ⟨tb 582 (by decide +kernel), tb 86 (by decide +kernel), by decide +kernel, by decide +kernel, by decide +kernel, by decide +kernel, rfl⟩
theorem mt129 : mtP 129 := ⟨tb 585 (by decide +kernel), tb 86 (by decide +kernel), by decide +kernel, by decide +kernel, by decide +kernel, by decide +kernel, rfl⟩
theorem mt130 : mtP 130 := ⟨tb 590 (by decide +kernel), tb 86 (by decide +kernel), by decide +kernel, by decide +kernel, by decide +kernel, by decide +kernel, rfl⟩
theorem mt131 : mtP 131 := ⟨tb 598 (by decide +kernel), tb 86 (by decide +kernel), by decide +kernel, by decide +kernel, by decide +kernel, by decide +kernel, rfl⟩
theorem mt132 : mtP 132 := ⟨tb 615 (by decide +kernel), tb 86 (by decide +kernel), by decide +kernel, by decide +kernel, by decide +kernel, by decide +kernel, rfl⟩
theorem mt133 : mtP 133 := ⟨tb 625 (by decide +kernel), tb 86 (by decide +kernel), by decide +kernel, by decide +kernel, by decide +kernel, by decide +kernel, rfl⟩
theorem mt134 : mtP 134 := ⟨tb 629 (by decide +kernel), tb 86 (by decide +kernel), by decide +kernel, by decide +kernel, by decide +kernel, by decide +kernel, rfl⟩
theorem mt135 : mtP 135 := ⟨tb 633 (by decide +kernel), tb 86 (by decide +kernel), by decide +kernel, by decide +kernel, by decide +kernel, by decide +kernel, rfl⟩
theorem mt136 : mtP 136 := ⟨tb 641 (by decide +kernel), tb 86 (by decide +kernel), by decide +kernel, by decide +kernel, by decide +kernel, by decide +kernel, rfl⟩
theorem mt137 : mtP 137 := ⟨tb 649 (by decide +kernel), tb 86 (by decide +kernel), by decide +kernel, by decide +kernel, by decide +kernel, by decide +kernel, rfl⟩
theorem mt138 : mtP 138 := ⟨tb 689 (by decide +kernel), tb 86 (by decide +kernel), by decide +kernel, by decide +kernel, by decide +kernel, by decide +kernel, rfl⟩
theorem mt139 : mtP 139 := ⟨tb 693 (by decide +kernel), tb 86 (by decide +kernel), by decide +kernel, by decide +kernel, by decide +kernel, by decide +kernel, rfl⟩
theorem mt140 : mtP 140 := ⟨tb 698 (by decide +kernel), tb 86 (by decide +kernel), by decide +kernel, by decide +kernel, by decide +kernel, by decide +kernel, rfl⟩
theorem mt141 : mtP 141 := ⟨tb 713 (by decide +kernel), tb 86 (by decide +kernel), by decide +kernel, by decide +kernel, by decide +kernel, by decide +kernel, rfl⟩
theorem mt142 : mtP 142 := ⟨tb 729 (by decide +kernel), tb 86 (by decide +kernel), by decide +kernel, by decide +kernel, by decide +kernel, by decide +kernel, rfl⟩
theorem mt143 : mtP 143 := ⟨tb 738 (by decide +kernel), tb 86 (by decide +kernel), by decide +kernel, by decide +kernel, by decide +kernel, by decide +kernel, rfl⟩
theorem mt144 : mtP 144 := ⟨tb 748 (by decide +kernel), tb 86 (by decide +kernel), by decide +kernel, by decide +kernel, by decide +kernel, by decide +kernel, rfl⟩
theorem mt145 : mtP 145 := ⟨tb 752 (by decide +kernel), tb 86 (by decide +kernel), by decide +kernel, by decide +kernel, by decide +kernel, by decide +kernel, rfl⟩
theorem mt146 : mtP 146 := ⟨tb 756 (by decide +kernel), tb 86 (by decide +kernel), by decide +kernel, by decide +kernel, by decide +kernel, by decide +kernel, rfl⟩
theorem mt147 : mtP 147 := ⟨tb 759 (by decide +kernel), tb 86 (by decide +kernel), by decide +kernel, by decide +kernel, by decide +kernel, by decide +kernel, rfl⟩
theorem mt148 : mtP 148 := ⟨tb 780 (by decide +kernel), tb 86 (by decide +kernel), by decide +kernel, by decide +kernel, by decide +kernel, by decide +kernel, rfl⟩
theorem mt149 : mtP 149 := ⟨tb 784 (by decide +kernel), tb 86 (by decide +kernel), by decide +kernel, by decide +kernel, by decide +kernel, by decide +kernel, rfl⟩
theorem mt150 : mtP 150 := ⟨tb 833 (by decide +kernel), tb 86 (by decide +kernel), by decide +kernel, by decide +kernel, by decide +kernel, by decide +kernel, rfl⟩
theorem mt151 : mtP 151 := ⟨tb 841 (by decide +kernel), tb 86 (by decide +kernel), by decide +kernel, by decide +kernel, by decide +kernel, by decide +kernel, rfl⟩
theorem mt152 : mtP 152 := ⟨tb 853 (by decide +kernel), tb 86 (by decide +kernel), by decide +kernel, by decide +kernel, by decide +kernel, by decide +kernel, rfl⟩
theorem mt153 : mtP 153 := ⟨tb 857 (by decide +kernel), tb 86 (by decide +kernel), by decide +kernel, by decide +kernel, by decide +kernel, by decide +kernel, rfl⟩
theorem mt154 : mtP 154 := ⟨tb 865 (by decide +kernel), tb 86 (by decide +kernel), by decide +kernel, by decide +kernel, by decide +kernel, by decide +kernel, rfl⟩
theorem mt155 : mtP 155 := ⟨tb 871 (by decide +kernel), tb 86 (by decide +kernel), by decide +kernel, by decide +kernel, by decide +kernel, by decide +kernel, rfl⟩
theorem mt156 : mtP 156 := ⟨tb 887 (by decide +kernel), tb 86 (by decide +kernel), by decide +kernel, by decide +kernel, by decide +kernel, by decide +kernel, rfl⟩
theorem mt157 : mtP 157 := ⟨tb 899 (by decide +kernel), tb 86 (by decide +kernel), by decide +kernel, by decide +kernel, by decide +kernel, by decide +kernel, rfl⟩
theorem mt158 : mtP 158 := ⟨tb 904 (by decide +kernel), tb 86 (by decide +kernel), by decide +kernel, by decide +kernel, by decide +kernel, by decide +kernel, rfl⟩
theorem mt159 : mtP 159 := ⟨tb 909 (by decide +kernel), tb 86 (by decide +kernel), by decide +kernel, by decide +kernel, by decide +kernel, by decide +kernel, rfl⟩
theorem mt160 : mtP 160 := ⟨tb 920 (by decide +kernel), tb 86 (by decide +kernel), by decide +kernel, by decide +kernel, by decide +kernel, by decide +kernel, rfl⟩
theorem mt161 : mtP 161 := ⟨tb 975 (by decide +kernel), tb 86 (by decide +kernel), by decide +kernel, by decide +kernel, by decide +kernel, by decide +kernel, rfl⟩
theorem mt162 : mtP 162 := ⟨tb 980 (by decide +kernel), tb 86 (by decide +kernel), by decide +kernel, by decide +kernel, by decide +kernel, by decide +kernel, rfl⟩
theorem mt163 : mtP 163 := ⟨tb 988 (by decide +kernel), tb 86 (by decide +kernel), by decide +kernel, by decide +kernel, by decide +kernel, by decide +kernel, rfl⟩
theorem mt164 : mtP 164 := ⟨tb 996 (by decide +kernel), tb 86 (by decide +kernel), by decide +kernel, by decide +kernel, by decide +kernel, by decide +kernel, rfl⟩
theorem mt165 : mtP 165 := ⟨tb 1009 (by decide +kernel), tb 86 (by decide +kernel), by decide +kernel, by decide +kernel, by decide +kernel, by decide +kernel, rfl⟩
theorem mt166 : mtP 166 := ⟨tb 1013 (by decide +kernel), tb 86 (by decide +kernel), by decide +kernel, by decide +kernel, by decide +kernel, by decide +kernel, rfl⟩
theorem mt167 : mtP 167 := ⟨tb 1031 (by decide +kernel), tb 86 (by decide +kernel), by decide +kernel, by decide +kernel, by decide +kernel, by decide +kernel, rfl⟩
theorem mt168 : mtP 168 := ⟨tb 1035 (by decide +kernel), tb 86 (by decide +kernel), by decide +kernel, by decide +kernel, by decide +kernel, by decide +kernel, rfl⟩
theorem mt169 : mtP 169 := ⟨tb 1043 (by decide +kernel), tb 86 (by decide +kernel), by decide +kernel, by decide +kernel, by decide +kernel, by decide +kernel, rfl⟩
theorem mt170 : mtP 170 := ⟨tb 1047 (by decide +kernel), tb 86 (by decide +kernel), by decide +kernel, by decide +kernel, by decide +kernel, by decide +kernel, rfl⟩
theorem mt171 : mtP 171 := ⟨tb 1055 (by decide +kernel), tb 86 (by decide +kernel), by decide +kernel, by decide +kernel, by decide +kernel, by decide +kernel, rfl⟩
theorem mt172 : mtP 172 := ⟨tb 1059 (by decide +kernel), tb 86 (by decide +kernel), by decide +kernel, by decide +kernel, by decide +kernel, by decide +kernel, rfl⟩
theorem mt173 : mtP 173 := ⟨tb 1062 (by decide +kernel), tb 86 (by decide +kernel), by decide +kernel, by decide +kernel, by decide +kernel, by decide +kernel, rfl⟩
theorem mt174 : mtP 174 := ⟨tb 1086 (by decide +kernel), tb 86 (by decide +kernel), by decide +kernel, by decide +kernel, by decide +kernel, by decide +kernel, rfl⟩
theorem mt175 : mtP 175 := ⟨tb 1094 (by decide +kernel), tb 86 (by decide +kernel), by decide +kernel, by decide +kernel, by decide +kernel, by decide +kernel, rfl⟩
theorem mt176 : mtP 176 := ⟨tb 1110 (by decide +kernel), tb 86 (by decide +kernel), by decide +kernel, by decide +kernel, by decide +kernel, by decide +kernel, rfl⟩
theorem mt177 : mtP 177 := ⟨tb 1120 (by decide +kernel), tb 86 (by decide +kernel), by decide +kernel, by decide +kernel, by decide +kernel, by decide +kernel, rfl⟩
theorem mt178 : mtP 178 := ⟨tb 1148 (by decide +kernel), tb 86 (by decide +kernel), by decide +kernel, by decide +kernel, by decide +kernel, by decide +kernel, rfl⟩
theorem mt179 : mtP 179 := ⟨tb 1214 (by decide +kernel), tb 86 (by decide +kernel), by decide +kernel, by decide +kernel, by decide +kernel, by decide +kernel, rfl⟩
theorem mt180 : mtP 180 := ⟨tb 1222 (by decide +kernel), tb 86 (by decide +kernel), by decide +kernel, by decide +kernel, by decide +kernel, by decide +kernel, rfl⟩
theorem mt181 : mtP 181 := ⟨tb 1231 (by decide +kernel), tb 86 (by decide +kernel), by decide +kernel, by decide +kernel, by decide +kernel, by decide +kernel, rfl⟩
theorem mt182 : mtP 182 := ⟨tb 1244 (by decide +kernel), tb 86 (by decide +kernel), by decide +kernel, by decide +kernel, by decide +kernel, by decide +kernel, rfl⟩
theorem mt183 : mtP 183 := ⟨tb 1263 (by decide +kernel), tb 86 (by decide +kernel), by decide +kernel, by decide +kernel, by decide +kernel, by decide +kernel, rfl⟩
theorem mt184 : mtP 184 := ⟨tb 1273 (by decide +kernel), tb 86 (by decide +kernel), by decide +kernel, by decide +kernel, by decide +kernel, by decide +kernel, rfl⟩
theorem mt185 : mtP 185 := ⟨tb 1277 (by decide +kernel), tb 86 (by decide +kernel), by decide +kernel, by decide +kernel, by decide +kernel, by decide +kernel, rfl⟩
theorem mt186 : mtP 186 := ⟨tb 1285 (by decide +kernel), tb 86 (by decide +kernel), by decide +kernel, by decide +kernel, by decide +kernel, by decide +kernel, rfl⟩
theorem mt187 : mtP 187 := ⟨tb 1353 (by decide +kernel), tb 86 (by decide +kernel), by decide +kernel, by decide +kernel, by decide +kernel, by decide +kernel, rfl⟩
theorem mt188 : mtP 188 := ⟨tb 1358 (by decide +kernel), tb 99 (by decide +kernel), by decide +kernel, by decide +kernel, by decide +kernel, by decide +kernel, rfl⟩
theorem mt189 : mtP 189 := ⟨tb 1363 (by decide +kernel), tb 99 (by decide +kernel), by decide +kernel, by decide +kernel, by decide +kernel, by decide +kernel, rfl⟩
theorem mt190 : mtP 190 := ⟨tb 1367 (by decide +kernel), tb 99 (by decide +kernel), by decide +kernel, by decide +kernel, by decide +kernel, by decide +kernel, rfl⟩
theorem mt191 : mtP 191 := ⟨tb 1371 (by decide +kernel), tb 99 (by decide +kernel), by decide +kernel, by decide +kernel, by decide +kernel, by decide +kernel, rfl⟩
theorem mt192 : mtP 192 := ⟨tb 1375 (by decide +kernel), tb 99 (by decide +kernel), by decide +kernel, by decide +kernel, by decide +kernel, by decide +kernel, rfl⟩
theorem mt193 : mtP 193 := ⟨tb 1379 (by decide +kernel), tb 99 (by decide +kernel), by decide +kernel, by decide +kernel, by decide +kernel, by decide +kernel, rfl⟩
theorem mt194 : mtP 194 := ⟨tb 1383 (by decide +kernel), tb 99 (by decide +kernel), by decide +kernel, by decide +kernel, by decide +kernel, by decide +kernel, rfl⟩
theorem mt195 : mtP 195 := ⟨tb 1387 (by decide +kernel), tb 99 (by decide +kernel), by decide +kernel, by decide +kernel, by decide +kernel, by decide +kernel, rfl⟩
theorem mt196 : mtP 196 := ⟨tb 1531 (by decide +kernel), tb 99 (by decide +kernel), by decide +kernel, by decide +kernel, by decide +kernel, by decide +kernel, rfl⟩
theorem mt197 : mtP 197 := ⟨tb 1535 (by decide +kernel), tb 99 (by decide +kernel), by decide +kernel, by decide +kernel, by decide +kernel, by decide +kernel, rfl⟩
theorem mt198 : mtP 198 := ⟨tb 1539 (by decide +kernel), tb 99 (by decide +kernel), by decide +kernel, by decide +kernel, by decide +kernel, by decide +kernel, rfl⟩
theorem mt199 : mtP 199 := ⟨tb 1542 (by decide +kernel), tb 99 (by decide +kernel), by decide +kernel, by decide +kernel, by decide +kernel, by decide +kernel, rfl⟩
theorem mt200 : mtP 200 := ⟨tb 1546 (by decide +kernel), tb 99 (by decide +kernel), by decide +kernel, by decide +kernel, by decide +kernel, by decide +kernel, rfl⟩
theorem mt201 : mtP 201 := ⟨tb 1551 (by decide +kernel), tb 99 (by decide +kernel), by decide +kernel, by decide +kernel, by decide +kernel, by decide +kernel, rfl⟩
theorem mt202 : mtP 202 := ⟨tb 1555 (by decide +kernel), tb 99 (by decide +kernel), by decide +kernel, by decide +kernel, by decide +kernel, by decide +kernel, rfl⟩
theorem mt203 : mtP 203 := ⟨tb 1559 (by decide +kernel), tb 99 (by decide +kernel), by decide +kernel, by decide +kernel, by decide +kernel, by decide +kernel, rfl⟩
theorem mt204 : mtP 204 := ⟨tb 1563 (by decide +kernel), tb 99 (by decide +kernel), by decide +kernel, by decide +kernel, by decide +kernel, by decide +kernel, rfl⟩
theorem mt205 : mtP 205 := ⟨tb 1567 (by decide +kernel), tb 99 (by decide +kernel), by decide +kernel, by decide +kernel, by decide +kernel, by decide +kernel, rfl⟩
theorem mt206 : mtP 206 := ⟨tb 1571 (by decide +kernel), tb 99 (by decide +kernel), by decide +kernel, by decide +kernel, by decide +kernel, by decide +kernel, rfl⟩
theorem mt207 : mtP 207 := ⟨tb 1577 (by decide +kernel), tb 99 (by decide +kernel), by decide +kernel, by decide +kernel, by decide +kernel, by decide +kernel, rfl⟩
theorem mt208 : mtP 208 := ⟨tb 1581 (by decide +kernel), tb 99 (by decide +kernel), by decide +kernel, by decide +kernel, by decide +kernel, by decide +kernel, rfl⟩
theorem mt209 : mtP 209 := ⟨tb 1585 (by decide +kernel), tb 99 (by decide +kernel), by decide +kernel, by decide +kernel, by decide +kernel, by decide +kernel, rfl⟩
theorem mt210 : mtP 210 := ⟨tb 1589 (by decide +kernel), tb 99 (by decide +kernel), by decide +kernel, by decide +kernel, by decide +kernel, by decide +kernel, rfl⟩
theorem mt211 : mtP 211 := ⟨tb 1593 (by decide +kernel), tb 99 (by decide +kernel), by decide +kernel, by decide +kernel, by decide +kernel, by decide +kernel, rfl⟩
theorem mt212 : mtP 212 := ⟨tb 1596 (by decide +kernel), tb 99 (by decide +kernel), by decide +kernel, by decide +kernel, by decide +kernel, by decide +kernel, rfl⟩
theorem mt213 : mtP 213 := ⟨tb 1600 (by decide +kernel), tb 99 (by decide +kernel), by decide +kernel, by decide +kernel, by decide +kernel, by decide +kernel, rfl⟩
theorem mt214 : mtP 214 := ⟨tb 1604 (by decide +kernel), tb 99 (by decide +kernel), by decide +kernel, by decide +kernel, by decide +kernel, by decide +kernel, rfl⟩
theorem mt215 : mtP 215 := ⟨tb 1608 (by decide +kernel), tb 99 (by decide +kernel), by decide +kernel, by decide +kernel, by decide +kernel, by decide +kernel, rfl⟩
theorem mt216 : mtP 216 := ⟨tb 1612 (by decide +kernel), tb 99 (by decide +kernel), by decide +kernel, by decide +kernel, by decide +kernel, by decide +kernel, rfl⟩
theorem mt217 : mtP 217 := ⟨tb 1615 (by decide +kernel), tb 99 (by decide +kernel), by decide +kernel, by decide +kernel, by decide +kernel, by decide +kernel, rfl⟩
theorem mt218 : mtP 218 := ⟨tb 1619 (by decide +kernel), tb 99 (by decide +kernel), by decide +kernel, by decide +kernel, by decide +kernel, by decide +kernel, rfl⟩
theorem mt219 : mtP 219 := ⟨tb 1623 (by decide +kernel), tb 99 (by decide +kernel), by decide +kernel, by decide +kernel, by decide +kernel, by decide +kernel, rfl⟩
theorem mt220 : mtP 220 := ⟨tb 1628 (by decide +kernel), tb 99 (by decide +kernel), by decide +kernel, by decide +kernel, by decide +kernel, by decide +kernel, rfl⟩
theorem mt221 : mtP 221 := ⟨tb 1633 (by decide +kernel), tb 99 (by decide +kernel), by decide +kernel, by decide +kernel, by decide +kernel, by decide +kernel, rfl⟩
theorem mt222 : mtP 222 := ⟨tb 1636 (by decide +kernel), tb 99 (by decide +kernel), by decide +kernel, by decide +kernel, by decide +kernel, by decide +kernel, rfl⟩
theorem mt223 : mtP 223 := ⟨tb 1640 (by decide +kernel), tb 99 (by decide +kernel), by decide +kernel, by decide +kernel, by decide +kernel, by decide +kernel, rfl⟩
theorem mt224 : mtP 224 := ⟨tb 1644 (by decide +kernel), tb 99 (by decide +kernel), by decide +kernel, by decide +kernel, by decide +kernel, by decide +kernel, rfl⟩
theorem mt225 : mtP 225 := ⟨tb 1648 (by decide +kernel), tb 99 (by decide +kernel), by decide +kernel, by decide +kernel, by decide +kernel, by decide +kernel, rfl⟩
theorem mt226 : mtP 226 := ⟨tb 1652 (by decide +kernel), tb 99 (by decide +kernel), by decide +kernel, by decide +kernel, by decide +kernel, by decide +kernel, rfl⟩
theorem mt227 : mtP 227 := ⟨tb 1656 (by decide +kernel), tb 99 (by decide +kernel), by decide +kernel, by decide +kernel, by decide +kernel, by decide +kernel, rfl⟩
theorem mt228 : mtP 228 := ⟨tb 1660 (by decide +kernel), tb 99 (by decide +kernel), by decide +kernel, by decide +kernel, by decide +kernel, by decide +kernel, rfl⟩
theorem mt229 : mtP 229 := ⟨tb 1664 (by decide +kernel), tb 99 (by decide +kernel), by decide +kernel, by decide +kernel, by decide +kernel, by decide +kernel, rfl⟩
theorem mt230 : mtP 230 := ⟨tb 1668 (by decide +kernel), tb 99 (by decide +kernel), by decide +kernel, by decide +kernel, by decide +kernel, by decide +kernel, rfl⟩
theorem mt231 : mtP 231 := ⟨tb 1672 (by decide +kernel), tb 99 (by decide +kernel), by decide +kernel, by decide +kernel, by decide +kernel, by decide +kernel, rfl⟩
theorem mt232 : mtP 232 := ⟨tb 1676 (by decide +kernel), tb 99 (by decide +kernel), by decide +kernel, by decide +kernel, by decide +kernel, by decide +kernel, rfl⟩
theorem mt233 : mtP 233 := ⟨tb 1680 (by decide +kernel), tb 99 (by decide +kernel), by decide +kernel, by decide +kernel, by decide +kernel, by decide +kernel, rfl⟩
theorem mt234 : mtP 234 := ⟨tb 1684 (by decide +kernel), tb 99 (by decide +kernel), by decide +kernel, by decide +kernel, by decide +kernel, by decide +kernel, rfl⟩
theorem mt235 : mtP 235 := ⟨tb 1687 (by decide +kernel), tb 99 (by decide +kernel), by decide +kernel, by decide +kernel, by decide +kernel, by decide +kernel, rfl⟩
theorem mt236 : mtP 236 := ⟨tb 1691 (by decide +kernel), tb 99 (by decide +kernel), by decide +kernel, by decide +kernel, by decide +kernel, by decide +kernel, rfl⟩
theorem mt237 : mtP 237 := ⟨tb 1694 (by decide +kernel), tb 99 (by decide +kernel), by decide +kernel, by decide +kernel, by decide +kernel, by decide +kernel, rfl⟩
theorem mt238 : mtP 238 := ⟨tb 1698 (by decide +kernel), tb 99 (by decide +kernel), by decide +kernel, by decide +kernel, by decide +kernel, by decide +kernel, rfl⟩
theorem mt239 : mtP 239 := ⟨tb 1702 (by decide +kernel), tb 99 (by decide +kernel), by decide +kernel, by decide +kernel, by decide +kernel, by decide +kernel, rfl⟩
theorem mt240 : mtP 240 := ⟨tb 1706 (by decide +kernel), tb 99 (by decide +kernel), by decide +kernel, by decide +kernel, by decide +kernel, by decide +kernel, rfl⟩
theorem mt241 : mtP 241 := ⟨tb 1710 (by decide +kernel), tb 99 (by decide +kernel), by decide +kernel, by decide +kernel, by decide +kernel, by decide +kernel, rfl⟩
theorem mt242 : mtP 242 := ⟨tb 1714 (by decide +kernel), tb 99 (by decide +kernel), by decide +kernel, by decide +kernel, by decide +kernel, by decide +kernel, rfl⟩
theorem mt243 : mtP 243 := ⟨tb 1718 (by decide +kernel), tb 99 (by decide +kernel), by decide +kernel, by decide +kernel, by decide +kernel, by decide +kernel, rfl⟩
theorem mt244 : mtP 244 := ⟨tb 1722 (by decide +kernel), tb 99 (by decide +kernel), by decide +kernel, by decide +kernel, by decide +kernel, by decide +kernel, rfl⟩
theorem mt245 : mtP 245 := ⟨tb 1726 (by decide +kernel), tb 99 (by decide +kernel), by decide +kernel, by decide +kernel, by decide +kernel, by decide +kernel, rfl⟩
theorem mt246 : mtP 246 := ⟨tb 1730 (by decide +kernel), tb 99 (by decide +kernel), by decide +kernel, by decide +kernel, by decide +kernel, by decide +kernel, rfl⟩
theorem mt247 : mtP 247 := ⟨tb 1734 (by decide +kernel), tb 99 (by decide +kernel), by decide +kernel, by decide +kernel, by decide +kernel, by decide +kernel, rfl⟩
theorem mt248 : mtP 248 := ⟨tb 1738 (by decide +kernel), tb 99 (by decide +kernel), by decide +kernel, by decide +kernel, by decide +kernel, by decide +kernel, rfl⟩
theorem mt249 : mtP 249 := ⟨tb 1742 (by decide +kernel), tb 99 (by decide +kernel), by decide +kernel, by decide +kernel, by decide +kernel, by decide +kernel, rfl⟩
theorem mt250 : mtP 250 := ⟨tb 1745 (by decide +kernel), tb 99 (by decide +kernel), by decide +kernel, by decide +kernel, by decide +kernel, by decide +kernel, rfl⟩
theorem mt251 : mtP 251 := ⟨tb 1748 (by decide +kernel), tb 99 (by decide +kernel), by decide +kernel, by decide +kernel, by decide +kernel, by decide +kernel, rfl⟩
theorem mt252 : mtP 252 := ⟨tb 1752 (by decide +kernel), tb 99 (by decide +kernel), by decide +kernel, by decide +kernel, by decide +kernel, by decide +kernel, rfl⟩
theorem mt253 : mtP 253 := ⟨tb 1756 (by decide +kernel), tb 99 (by decide +kernel), by decide +kernel, by decide +kernel, by decide +kernel, by decide +kernel, rfl⟩
theorem mt254 : mtP 254 := ⟨tb 1760 (by decide +kernel), tb 99 (by decide +kernel), by decide +kernel, by decide +kernel, by decide +kernel, by decide +kernel, rfl⟩
theorem mt255 : mtP 255 := ⟨tb 1764 (by decide +kernel), tb 99 (by decide +kernel), by decide +kernel, by decide +kernel, by decide +kernel, by decide +kernel, rfl⟩
theorem mt256 : mtP 256 := ⟨tb 1768 (by decide +kernel), tb 99 (by decide +kernel), by decide +kernel, by decide +kernel, by decide +kernel, by decide +kernel, rfl⟩
theorem mt257 : mtP 257 := ⟨tb 1771 (by decide +kernel), tb 99 (by decide +kernel), by decide +kernel, by decide +kernel, by decide +kernel, by decide +kernel, rfl⟩
theorem mt258 : mtP 258 := ⟨tb 1775 (by decide +kernel), tb 99 (by decide +kernel), by decide +kernel, by decide +kernel, by decide +kernel, by decide +kernel, rfl⟩
theorem mt259 : mtP 259 := ⟨tb 1779 (by decide +kernel), tb 99 (by decide +kernel), by decide +kernel, by decide +kernel, by decide +kernel, by decide +kernel, rfl⟩
theorem mt260 : mtP 260 := ⟨tb 1783 (by decide +kernel), tb 99 (by decide +kernel), by decide +kernel, by decide +kernel, by decide +kernel, by decide +kernel, rfl⟩
theorem mt261 : mtP 261 := ⟨tb 1787 (by decide +kernel), tb 99 (by decide +kernel), by decide +kernel, by decide +kernel, by decide +kernel, by decide +kernel, rfl⟩
theorem mt262 : mtP 262 := ⟨tb 1791 (by decide +kernel), tb 99 (by decide +kernel), by decide +kernel, by decide +kernel, by decide +kernel, by decide +kernel, rfl⟩
theorem mt263 : mtP 263 := ⟨tb 1795 (by decide +kernel), tb 99 (by decide +kernel), by decide +kernel, by decide +kernel, by decide +kernel, by decide +kernel, rfl⟩
theorem mt264 : mtP 264 := ⟨tb 1799 (by decide +kernel), tb 99 (by decide +kernel), by decide +kernel, by decide +kernel, by decide +kernel, by decide +kernel, rfl⟩
theorem mt265 : mtP 265 := ⟨tb 1803 (by decide +kernel), tb 99 (by decide +kernel), by decide +kernel, by decide +kernel, by decide +kernel, by decide +kernel, rfl⟩
theorem mt266 : mtP 266 := ⟨tb 1807 (by decide +kernel), tb 99 (by decide +kernel), by decide +kernel, by decide +kernel, by decide +kernel, by decide +kernel, rfl⟩
theorem mt267 : mtP 267 := ⟨tb 1811 (by decide +kernel), tb 99 (by decide +kernel), by decide +kernel, by decide +kernel, by decide +kernel, by decide +kernel, rfl⟩
theorem mt268 : mtP 268 := ⟨tb 1815 (by decide +kernel), tb 99 (by decide +kernel), by decide +kernel, by decide +kernel, by decide +kernel, by decide +kernel, rfl⟩
theorem mt269 : mtP 269 := ⟨tb 1819 (by decide +kernel), tb 99 (by decide +kernel), by decide +kernel, by decide +kernel, by decide +kernel, by decide +kernel, rfl⟩
theorem mt270 : mtP 270 := ⟨tb 1823 (by decide +kernel), tb 99 (by decide +kernel), by decide +kernel, by decide +kernel, by decide +kernel, by decide +kernel, rfl⟩
theorem mt271 : mtP 271 := ⟨tb 1827 (by decide +kernel), tb 99 (by decide +kernel), by decide +kernel, by decide +kernel, by decide +kernel, by decide +kernel, rfl⟩
theorem mt272 : mtP 272 := ⟨tb 1831 (by decide +kernel), tb 99 (by decide +kernel), by decide +kernel, by decide +kernel, by decide +kernel, by decide +kernel, rfl⟩
theorem mt273 : mtP 273 := ⟨tb 1835 (by decide +kernel), tb 99 (by decide +kernel), by decide +kernel, by decide +kernel, by decide +kernel, by decide +kernel, rfl⟩
theorem mt274 : mtP 274 := ⟨tb 1839 (by decide +kernel), tb 99 (by decide +kernel), by decide +kernel, by decide +kernel, by decide +kernel, by decide +kernel, rfl⟩
theorem mt275 : mtP 275 := ⟨tb 1843 (by decide +kernel), tb 99 (by decide +kernel), by decide +kernel, by decide +kernel, by decide +kernel, by decide +kernel, rfl⟩
theorem mt276 : mtP 276 := ⟨tb 1847 (by decide +kernel), tb 99 (by decide +kernel), by decide +kernel, by decide +kernel, by decide +kernel, by decide +kernel, rfl⟩
theorem mt277 : mtP 277 := ⟨tb 1851 (by decide +kernel), tb 99 (by decide +kernel), by decide +kernel, by decide +kernel, by decide +kernel, by decide +kernel, rfl⟩
theorem mt278 : mtP 278 := ⟨tb 1855 (by decide +kernel), tb 99 (by decide +kernel), by decide +kernel, by decide +kernel, by decide +kernel, by decide +kernel, rfl⟩
theorem mt279 : mtP 279 := ⟨tb 1859 (by decide +kernel), tb 99 (by decide +kernel), by decide +kernel, by decide +kernel, by decide +kernel, by decide +kernel, rfl⟩
theorem mt280 : mtP 280 := ⟨tb 1863 (by decide +kernel), tb 99 (by decide +kernel), by decide +kernel, by decide +kernel, by decide +kernel, by decide +kernel, rfl⟩
theorem mt281 : mtP 281 := ⟨tb 1867 (by decide +kernel), tb 99 (by decide +kernel), by decide +kernel, by decide +kernel, by decide +kernel, by decide +kernel, rfl⟩
theorem mt282 : mtP 282 := ⟨tb 1871 (by decide +kernel), tb 99 (by decide +kernel), by decide +kernel, by decide +kernel, by decide +kernel, by decide +kernel, rfl⟩
theorem mt283 : mtP 283 := ⟨tb 1875 (by decide +kernel), tb 99 (by decide +kernel), by decide +kernel, by decide +kernel, by decide +kernel, by decide +kernel, rfl⟩
theorem mt284 : mtP 284 := ⟨tb 1879 (by decide +kernel), tb 99 (by decide +kernel), by decide +kernel, by decide +kernel, by decide +kernel, by decide +kernel, rfl⟩
theorem mt285 : mtP 285 := ⟨tb 1883 (by decide +kernel), tb 99 (by decide +kernel), by decide +kernel, by decide +kernel, by decide +kernel, by decide +kernel, rfl⟩
theorem mt286 : mtP 286 := ⟨tb 1887 (by decide +kernel), tb 99 (by decide +kernel), by decide +kernel, by decide +kernel, by decide +kernel, by decide +kernel, rfl⟩
theorem mt287 : mtP 287 := ⟨tb 1891 (by decide +kernel), tb 99 (by decide +kernel), by decide +kernel, by decide +kernel, by decide +kernel, by decide +kernel, rfl⟩
theorem mt288 : mtP 288 := ⟨tb 1895 (by decide +kernel), tb 99 (by decide +kernel), by decide +kernel, by decide +kernel, by decide +kernel, by decide +kernel, rfl⟩
theorem mt289 : mtP 289 := ⟨tb 1899 (by decide +kernel), tb 99 (by decide +kernel), by decide +kernel, by decide +kernel, by decide +kernel, by decide +kernel, rfl⟩
theorem mt290 : mtP 290 := ⟨tb 1903 (by decide +kernel), tb 99 (by decide +kernel), by decide +kernel, by decide +kernel, by decide +kernel, by decide +kernel, rfl⟩
theorem mt291 : mtP 291 := ⟨tb 1908 (by decide +kernel), tb 99 (by decide +kernel), by decide +kernel, by decide +kernel, by decide +kernel, by decide +kernel, rfl⟩
theorem mt292 : mtP 292 := ⟨tb 1912 (by decide +kernel), tb 99 (by decide +kernel), by decide +kernel, by decide +kernel, by decide +kernel, by decide +kernel, rfl⟩
theorem mt293 : mtP 293 := ⟨tb 1916 (by decide +kernel), tb 99 (by decide +kernel), by decide +kernel, by decide +kernel, by decide +kernel, by decide +kernel, rfl⟩
theorem mt294 : mtP 294 := ⟨tb 1920 (by decide +kernel), tb 99 (by decide +kernel), by decide +kernel, by decide +kernel, by decide +kernel, by decide +kernel, rfl⟩
theorem mt295 : mtP 295 := ⟨tb 1924 (by decide +kernel), tb 99 (by decide +kernel), by decide +kernel, by decide +kernel, by decide +kernel, by decide +kernel, rfl⟩
theorem mt296 : mtP 296 := ⟨tb 1928 (by decide +kernel), tb 99 (by decide +kernel), by decide +kernel, by decide +kernel, by decide +kernel, by decide +kernel, rfl⟩
theorem mt297 : mtP 297 := ⟨tb 1932 (by decide +kernel), tb 99 (by decide +kernel), by decide +kernel, by decide +kernel, by decide +kernel, by decide +kernel, rfl⟩
theorem mt298 : mtP 298 := ⟨tb 1936 (by decide +kernel), tb 99 (by decide +kernel), by decide +kernel, by decide +kernel, by decide +kernel, by decide +kernel, rfl⟩
theorem mt299 : mtP 299 := ⟨tb 1940 (by decide +kernel), tb 99 (by decide +kernel), by decide +kernel, by decide +kernel, by decide +kernel, by decide +kernel, rfl⟩
theorem mt300 : mtP 300 := ⟨tb 1944 (by decide +kernel), tb 99 (by decide +kernel), by decide +kernel, by decide +kernel, by decide +kernel, by decide +kernel, rfl⟩
theorem mt301 : mtP 301 := ⟨tb 1948 (by decide +kernel), tb 99 (by decide +kernel), by decide +kernel, by decide +kernel, by decide +kernel, by decide +kernel, rfl⟩
theorem mt302 : mtP 302 := ⟨tb 1952 (by decide +kernel), tb 99 (by decide +kernel), by decide +kernel, by decide +kernel, by decide +kernel, by decide +kernel, rfl⟩
theorem mt303 : mtP 303 := ⟨tb 1956 (by decide +kernel), tb 99 (by decide +kernel), by decide +kernel, by decide +kernel, by decide +kernel, by decide +kernel, rfl⟩
theorem mt304 : mtP 304 := ⟨tb 489 (by decide +kernel), tb 98 (by decide +kernel), by decide +kernel, by decide +kernel, by decide +kernel, by decide +kernel, rfl⟩
theorem mt305 : mtP 305 := ⟨tb 681 (by decide +kernel), tb 98 (by decide +kernel), by decide +kernel, by decide +kernel, by decide +kernel, by decide +kernel, rfl⟩
theorem mt306 : mtP 306 := ⟨tb 618 (by decide +kernel), tb 100 (by decide +kernel), by decide +kernel, by decide +kernel, by decide +kernel, by decide +kernel, rfl⟩
set_option maxRecDepth 100000 in
theorem MT_ok : ∀ t, t < 307 → mtP t := fun t h => by
  have e : allP mtP (List.range 307) := ⟨mt0, mt1, mt2, mt3, mt4, mt5, mt6, mt7, mt8, mt9, mt10, mt11, mt12, mt13, mt14, mt15, mt16, mt17, mt18, mt19, mt20, mt21, mt22, mt23, mt24, mt25, mt26, mt27, mt28, mt29, mt30, mt31, mt32, mt33, mt34, mt35, mt36, mt37, mt38, mt39, mt40, mt41, mt42, mt43, mt44, mt45, mt46, mt47, mt48, mt49, mt50, mt51, mt52, mt53, mt54, mt55, mt56, mt57, mt58, mt59, mt60, mt61, mt62, mt63, mt64, mt65, mt66, mt67, mt68, mt69, mt70, mt71, mt72, mt73, mt74, mt75, mt76, mt77, mt78, mt79, mt80, mt81, mt82, mt83, mt84, mt85, mt86, mt87, mt88, mt89, mt90, mt91, mt92, mt93, mt94, mt95, mt96, mt97, mt98, mt99, mt100, mt101, mt102, mt103, mt104, mt105, mt106, mt107, mt108, mt109, mt110, mt111, mt112, mt113, mt114, mt115, mt116, mt117, mt118, mt119, mt120, mt121, mt122, mt123, mt124, mt125, mt126, mt127, mt128, mt129, mt130, mt131, mt132, mt133, mt134, mt135, mt136, mt137, mt138, mt139, mt140, mt141, mt142, mt143, mt144, mt145, mt146, mt147, mt148, mt149, mt150, mt151, mt152, mt153, mt154, mt155, mt156, mt157, mt158, mt159, mt160, mt161, mt162, mt163, mt164, mt165, mt166, mt167, mt168, mt169, mt170, mt171, mt172, mt173, mt174, mt175, mt176, mt177, mt178, mt179, mt180, mt181, mt182, mt183, mt184, mt185, mt186, mt187, mt188, mt189, mt190, mt191, mt192, mt193, mt194, mt195, mt196, mt197, mt198, mt199, mt200, mt201, mt202, mt203, mt204, mt205, mt206, mt207, mt208, mt209, mt210, mt211, mt212, mt213, mt214, mt215, mt216, mt217, mt218, mt219, mt220, mt221, mt222, mt223, mt224, mt225, mt226, mt227, mt228, mt229, mt230, mt231, mt232, mt233, mt234, mt235, mt236, mt237, mt238, mt239, mt240, mt241, mt242, mt243, mt244, mt245, mt246, mt247, mt248, mt249, mt250, mt251, mt252, mt253, mt254, mt255, mt256, mt257, mt258, mt259, mt260, mt261, mt262, mt263, mt264, mt265, mt266, mt267, mt268, mt269, mt270, mt271, mt272, mt273, mt274, mt275, mt276, mt277, mt278, mt279, mt280, mt281, mt282, mt283, mt284, mt285, mt286, mt287, mt288, mt289, mt290, mt291, mt292, mt293, mt294, mt295, mt296, mt297, mt298, mt299, mt300, mt301, mt302, mt303, mt304, mt305, mt306, trivial⟩
  exact allP_at e t t (by rw [List.getElem?_range h])
/-- the words that stay, whatever is linked -/
def gw_tbl : List Cond := lw_tbl.filter goodWord
theorem gw_In : GoodIn gw_tbl gw_tbl := fun w h => ⟨h, good_of_word (List.mem_filter.mp h).2⟩
theorem gw {w : Cond} (h : w ∈ lw_tbl) (hg : goodWord w = true) : w ∈ gw_tbl := List.mem_filter.mpr ⟨h, hg⟩
theorem cls_gw : ∀ ci, ci < 13 → ∀ w ∈ u_ws (cN ci) (cT ci) (cZ ci), w ∈ gw_tbl := by
  intro ci h w hw
  refine gw (cls_in ci h w hw) ?_
  obtain ⟨k, -, rfl⟩ := List.mem_map.mp hw
  unfold u_lay
  split <;> rfl
theorem tb_oi : Cond.instanceMethod Lib.objectInit ∈ lw_tbl ∧ Cond.code Lib.objectInit ⟨#[0xb1]⟩ 1 none ∈ lw_tbl := ⟨tb 111 (by decide +kernel), tb 112 (by decide +kernel)⟩
theorem tb_ai : Cond.arrayClass .int ∈ lw_tbl ∧ Cond.arrayClass .long ∈ lw_tbl ∧ Cond.arrayClass .byte ∈ lw_tbl ∧ Cond.arrayOver (.object "SkewRings$Poly") ∈ lw_tbl := ⟨tb 160 (by decide +kernel), tb 537 (by decide +kernel), tb 1527 (by decide +kernel), tb 290 (by decide +kernel)⟩
