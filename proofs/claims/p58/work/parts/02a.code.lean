/-- a row of code: pc, length, operation, operands -/
abbrev Rw := Nat × Nat × Nat × Int × Int × Nat
/-- switches: default, least, greatest, offsets; index of the default, and of each -/
def SWt : List (Int × Int × Int × List Int × Nat × List Nat) := [(71, 0, 3, [31, 36, 41, 58], 31, [10, 13, 16, 24]), (0, 0, 0, [], 0, []), (105, 0, 7, [47, 55, 63, 71, 79, 84, 92, 97], 32, [2, 6, 10, 14, 18, 21, 25, 28]), (84, 0, 3, [32, 48, 56, 64], 49, [19, 29, 33, 37]), (86, 0, 7, [46, 51, 56, 61, 66, 71, 76, 81], 29, [5, 8, 11, 14, 17, 20, 23, 26]), (2245, 0, 54, [233, 258, 295, 332, 357, 394, 431, 456, 469, 494, 519, 544, 569, 606, 655, 704, 753, 802, 863, 924, 985, 1046, 1095, 1144, 1193, 1218, 1255, 1292, 1341, 1390, 1451, 1476, 1513, 1538, 1575, 1600, 1637, 1662, 1687, 1724, 1749, 1786, 1823, 1848, 1873, 1941, 1966, 1991, 2028, 2053, 2078, 2103, 2140, 2165, 2190], 1475, [25, 42, 69, 96, 113, 140, 167, 184, 191, 208, 225, 242, 259, 286, 323, 360, 397, 434, 481, 528, 575, 622, 659, 696, 733, 750, 777, 804, 841, 878, 925, 942, 969, 986, 1013, 1030, 1057, 1074, 1091, 1118, 1135, 1162, 1189, 1206, 1223, 1268, 1285, 1302, 1329, 1346, 1363, 1380, 1407, 1424, 1441]), (826, 0, 6, [44, 154, 305, 427, 563, 669, 727], 530, [98, 164, 246, 317, 388, 441, 472])]
def SWl : List (Int × List (Int × Int) × Nat × List (Int × Nat)) := [(0, [], 0, []), (43, [(1, 27), (2, 35)], 10, [(1, 2), (2, 6)]), (0, [], 0, []), (0, [], 0, []), (0, [], 0, []), (0, [], 0, [])]
def cdI (a : Int) : ClassFile.Cond := if a = 0 then .eq else if a = 1 then .ne else if a = 2 then .lt else if a = 3 then .ge else if a = 4 then .gt else .le
def aTy (a : Int) : ArrayType := if a = 10 then .int else if a = 11 then .long else .byte
def toI (r : Rw) : Instr := match r with
  | (_, len, op, a, b, c) => match op with
    | 0 => if len = 1 then .iload_n ⟨a.toNat % 4, Nat.mod_lt _ (by decide)⟩ else .iload a.toNat
    | 1 => if len = 1 then .aload_n ⟨a.toNat % 4, Nat.mod_lt _ (by decide)⟩ else .aload a.toNat
    | 2 => if len = 1 then .lload_n ⟨a.toNat % 4, Nat.mod_lt _ (by decide)⟩ else .lload a.toNat
    | 3 => if len = 1 then .istore_n ⟨a.toNat % 4, Nat.mod_lt _ (by decide)⟩ else .istore a.toNat
    | 4 => if len = 1 then .astore_n ⟨a.toNat % 4, Nat.mod_lt _ (by decide)⟩ else .astore a.toNat
    | 5 => if len = 1 then .lstore_n ⟨a.toNat % 4, Nat.mod_lt _ (by decide)⟩ else .lstore a.toNat
    | 6 => .iinc a.toNat b
    | 7 => if len = 1 then .iconst a else if len = 2 then .bipush a else .sipush a
    | 8 => .lconst ⟨a.toNat % 2, Nat.mod_lt _ (by decide)⟩
    | 9 => .aconst_null | 10 => .iadd | 11 => .isub | 12 => .imul | 13 => .idiv | 14 => .irem | 15 => .ineg | 16 => .iand | 17 => .ior | 18 => .ixor
    | 19 => .ishl | 20 => .ishr | 21 => .iushr | 22 => .i2l | 23 => .i2b | 24 => .lcmp | 25 => .dup | 26 => .pop | 27 => .dup_x1 | 28 => .dup2
    | 29 => .ldc2_w b.toNat
    | 30 => .ifCond (cdI a) b
    | 31 => .if_icmp (cdI a) b
    | 32 => .ifnull b
    | 33 => .ifnonnull b
    | 34 => .goto b
    | 35 => match SWt.getD c (0, 0, 0, [], 0, []) with | (d, lo, hi, os, _, _) => .tableswitch d lo hi os.toArray
    | 36 => match SWl.getD c (0, [], 0, []) with | (d, ps, _, _) => .lookupswitch d ps.toArray
    | 40 => .getfield (FL.getD c (0, 0, 0, 0, 0)).2.1
    | 41 => .putfield (FL.getD c (0, 0, 0, 0, 0)).2.1
    | 37 => .ladd | 38 => .lmul | 39 => .land | 42 => .arraylength | 43 => .iaload | 44 => .iastore | 45 => .laload | 46 => .lastore | 47 => .baload | 48 => .bastore | 49 => .aaload | 50 => .aastore
    | 51 => .new b.toNat
    | 52 => .newarray (aTy a)
    | 53 => .anewarray b.toNat
    | 54 => match MK.getD c (0, 0, 0, 0) with | (_, idx, _, kd) => if kd % 3 = 0 then .invokevirtual idx else if kd % 3 = 1 then .invokestatic idx else .invokespecial idx
    | 55 => .ireturn | 56 => .return_ | 57 => .areturn | 58 => .lreturn
    | 59 => .invokespecial b.toNat
    | 61 => .invokestatic b.toNat | 62 => .invokestatic b.toNat
    | 63 => .ldc_w b.toNat
    | _ => .nop
def pcAt (k : List Rw) (i : Nat) (pc : Int) : Bool := match k[i]? with | some r => decide ((r.1 : Int) = pc) | none => false
/-- the row stands rightly among the others: what follows, where it jumps, whose link it is -/
def okR (t : Nat) (k : List Rw) (i : Nat) (r : Rw) : Bool := match r with
  | (pc, len, op, a, b, c) =>
    (if op = 34 ∨ op = 35 ∨ op = 36 ∨ (55 ≤ op ∧ op ≤ 58) ∨ op = 60 ∨ 90 ≤ op then true else pcAt k (i + 1) (pc + len)) &&
    (if 30 ≤ op ∧ op ≤ 34 then pcAt k c (pc + b) else true) &&
    (if op = 30 ∨ op = 31 then decide (0 ≤ a ∧ a ≤ 5) else true) &&
    (if op ≤ 6 then decide (0 ≤ a) && (if len = 1 then decide (a < 4) else true) && decide (len = if op = 6 then 3 else if len = 1 then 1 else 2) else
     if op = 7 then (if len = 1 then decide (-1 ≤ a ∧ a ≤ 5) else if len = 2 then decide (-128 ≤ a ∧ a < 128) else decide (len = 3 ∧ -32768 ≤ a ∧ a < 32768)) else
     if op = 8 then decide (0 ≤ a ∧ a < 2) && decide (len = 1) else
     if op = 29 then decide (KK[c]? = some (kOf t, b.toNat, a)) && decide (len = 3) else
     if op = 63 then decide (KI[c]? = some (kOf t, b.toNat, a)) && decide (len = 3) else
     if op = 35 then (match SWt[c]? with | some (d, lo, hi, os, j, js) => pcAt k j (pc + d) && decide (os.length = js.length) && decide ((os.length : Int) = hi - lo + 1) && (List.range js.length).all (fun x => pcAt k (js.getD x 0) (pc + os.getD x 0)) | none => false) else
     if op = 36 then (match SWl[c]? with | some (d, ps, j, js) => pcAt k j (pc + d) && decide (ps.map (fun q => q.1) = js.map (fun q => q.1)) && (List.range js.length).all (fun x => pcAt k (js.getD x (0, 0)).2 (pc + (ps.getD x (0, 0)).2)) && (ps.zip (ps.drop 1)).all (fun (q, n) => decide (q.1 < n.1)) | none => false) else
     if op = 40 ∨ op = 41 then (match FL[c]? with | some (own, _, ci, f, _) => decide (own = kOf t ∧ (ci : Int) = a ∧ (f : Int) = b ∧ ci < 13 ∧ f < cZ ci) | none => false) && decide (len = 3) else
     if op = 51 then decide (NK[c]? = some (kOf t, b.toNat, a.toNat)) && decide (len = 3 ∧ 0 ≤ a ∧ a < 13) else
     if op = 52 then decide (len = 2) && decide (a = 10 ∨ a = 11 ∨ a = 8) else
     if op = 53 then decide (NK[c]? = some (kOf t, b.toNat, 6)) && decide (len = 3) else
     if op = 54 then (match MK[c]? with | some (own, _, u, _) => decide (own = kOf t ∧ (u : Int) = a ∧ u < 307 ∧ vOf u = true) | none => false) && decide (len = 3) else
     if op = 61 ∨ op = 62 then decide (len = 3 ∧ a = 308) else
     if op = 59 then decide (OK[c]? = some (kOf t, b.toNat)) && decide (len = 3) else
     if 30 ≤ op ∧ op ≤ 34 then decide (len = 3) else
     if op < 60 then decide (len = 1) else decide (op = 60 ∨ 90 ≤ op))
def okK (t : Nat) (k : List Rw) : Bool := (List.range k.length).all fun i => okR t k i (k.getD i (0, 0, 0, 0, 0, 0))
/-- the rows whose instruction is compared -/
def told (k : List Rw) : List Rw := k.filter fun r => decide (r.2.2.1 < 60 ∨ (61 ≤ r.2.2.1 ∧ r.2.2.1 ≤ 63))
noncomputable def rowAt (k : List Rw) (i : Nat) : Rw := k.getD i (0, 0, 0, 0, 0, 0)
-- 0: SkewRings$Field.<init>()V
noncomputable def k0 : List Rw := [(0, 1, 1, 0, 0, 0), (1, 3, 59, 0, 1, 1), (4, 1, 1, 0, 0, 0), (5, 3, 7, 256, 0, 0), (8, 2, 52, 10, 0, 0), (10, 3, 41, 3, 4, 17), (13, 1, 1, 0, 0, 0), (14, 3, 7, 256, 0, 0), (17, 2, 52, 10, 0, 0), (19, 3, 41, 3, 5, 18), (22, 1, 1, 0, 0, 0), (23, 2, 7, 64, 0, 0), (25, 2, 52, 10, 0, 0), (27, 3, 41, 3, 6, 19), (30, 1, 1, 0, 0, 0), (31, 2, 7, 16, 0, 0), (33, 2, 52, 10, 0, 0), (35, 3, 41, 3, 7, 20), (38, 1, 1, 0, 0, 0), (39, 2, 7, 16, 0, 0), (41, 2, 52, 10, 0, 0), (43, 3, 41, 3, 8, 21), (46, 1, 56, 0, 0, 0)]
set_option maxRecDepth 100000 in
theorem dk0 : (told k0).map (fun r => decode prog_5_method_1_code r.1) = (told k0).map (fun r => .ok (toI r, r.2.1)) := by decide +kernel
theorem ok0 : okK 0 k0 = true := by decide +kernel
-- 1: SkewRings$Field.become(I)V
noncomputable def k1 : List Rw := [(0, 1, 1, 0, 0, 0), (1, 1, 0, 1, 0, 0), (2, 3, 41, 3, 0, 1), (5, 1, 1, 0, 0, 0), (6, 1, 0, 1, 0, 0), (7, 1, 7, 2, 0, 0), (8, 3, 31, 1, 7, 9), (11, 1, 7, 3, 0, 0), (12, 3, 34, 0, 4, 10), (15, 1, 7, 2, 0, 0), (16, 3, 41, 3, 2, 8), (19, 1, 1, 0, 0, 0), (20, 1, 0, 1, 0, 0), (21, 1, 7, 3, 0, 0), (22, 3, 31, 1, 7, 17), (25, 1, 7, 4, 0, 0), (26, 3, 34, 0, 13, 23), (29, 1, 0, 1, 0, 0), (30, 1, 7, 1, 0, 0), (31, 3, 31, 1, 7, 22), (34, 1, 7, 3, 0, 0), (35, 3, 34, 0, 4, 23), (38, 1, 7, 2, 0, 0), (39, 3, 41, 3, 3, 13), (42, 1, 1, 0, 0, 0), (43, 1, 7, 1, 0, 0), (44, 3, 41, 3, 1, 4), (47, 1, 7, 0, 0, 0), (48, 1, 3, 2, 0, 0), (49, 1, 0, 2, 0, 0), (50, 1, 1, 0, 0, 0), (51, 3, 40, 3, 3, 13), (54, 3, 31, 3, 22, 42), (57, 1, 1, 0, 0, 0), (58, 1, 25, 0, 0, 0), (59, 3, 40, 3, 1, 4), (62, 1, 1, 0, 0, 0), (63, 3, 40, 3, 2, 8), (66, 1, 12, 0, 0, 0), (67, 3, 41, 3, 1, 4), (70, 3, 6, 2, 1, 0), (73, 3, 34, 0, -24, 29), (76, 1, 1, 0, 0, 0), (77, 3, 54, 2, 38, 20), (80, 1, 56, 0, 0, 0)]
set_option maxRecDepth 100000 in
theorem dk1 : (told k1).map (fun r => decode prog_5_method_3_code r.1) = (told k1).map (fun r => .ok (toI r, r.2.1)) := by decide +kernel
theorem ok1 : okK 1 k1 = true := by decide +kernel
-- 2: SkewRings$Field.fillTables()V
noncomputable def k2 : List Rw := [(0, 1, 1, 0, 0, 0), (1, 3, 40, 3, 2, 8), (4, 1, 7, 2, 0, 0), (5, 3, 31, 3, 4, 5), (8, 1, 56, 0, 0, 0), (9, 1, 1, 0, 0, 0), (10, 3, 54, 3, 69, 21), (13, 1, 1, 0, 0, 0), (14, 3, 54, 6, 72, 24), (17, 1, 7, 0, 0, 0), (18, 1, 3, 1, 0, 0), (19, 1, 0, 1, 0, 0), (20, 1, 1, 0, 0, 0), (21, 3, 40, 3, 1, 4), (24, 3, 31, 3, 71, 51), (27, 1, 1, 0, 0, 0), (28, 3, 40, 3, 6, 19), (31, 1, 0, 1, 0, 0), (32, 1, 0, 1, 0, 0), (33, 3, 54, 4, 75, 22), (36, 1, 7, 0, 0, 0), (37, 1, 3, 2, 0, 0), (38, 1, 0, 2, 0, 0), (39, 1, 1, 0, 0, 0), (40, 3, 40, 3, 1, 4), (43, 3, 31, 3, 46, 49), (46, 1, 1, 0, 0, 0), (47, 1, 0, 1, 0, 0), (48, 1, 0, 2, 0, 0), (49, 3, 54, 5, 45, 23), (52, 3, 30, 1, 12, 36), (55, 1, 1, 0, 0, 0), (56, 3, 40, 3, 8, 21), (59, 1, 0, 1, 0, 0), (60, 1, 0, 2, 0, 0), (61, 3, 54, 4, 75, 22), (64, 1, 1, 0, 0, 0), (65, 1, 0, 1, 0, 0), (66, 1, 0, 2, 0, 0), (67, 3, 54, 7, 52, 25), (70, 1, 7, 1, 0, 0), (71, 3, 31, 1, 12, 47), (74, 1, 1, 0, 0, 0), (75, 3, 40, 3, 7, 20), (78, 1, 0, 1, 0, 0), (79, 1, 0, 2, 0, 0), (80, 3, 54, 4, 75, 22), (83, 3, 6, 2, 1, 0), (86, 3, 34, 0, -48, 22), (89, 3, 6, 1, 1, 0), (92, 3, 34, 0, -73, 11), (95, 1, 7, 1, 0, 0), (96, 1, 3, 1, 0, 0), (97, 1, 0, 1, 0, 0), (98, 1, 1, 0, 0, 0), (99, 3, 40, 3, 3, 13), (102, 3, 31, 3, 50, 83), (105, 1, 7, 0, 0, 0), (106, 1, 3, 2, 0, 0), (107, 1, 0, 2, 0, 0), (108, 1, 1, 0, 0, 0), (109, 3, 40, 3, 1, 4), (112, 3, 31, 3, 34, 81), (115, 1, 1, 0, 0, 0), (116, 3, 40, 3, 6, 19), (119, 1, 0, 1, 0, 0), (120, 2, 7, 16, 0, 0), (122, 1, 12, 0, 0, 0), (123, 1, 0, 2, 0, 0), (124, 1, 10, 0, 0, 0), (125, 1, 1, 0, 0, 0), (126, 1, 1, 0, 0, 0), (127, 1, 0, 2, 0, 0), (128, 1, 0, 1, 0, 0), (129, 1, 7, 1, 0, 0), (130, 1, 11, 0, 0, 0), (131, 3, 54, 10, 60, 28), (134, 3, 54, 11, 79, 30), (137, 3, 54, 4, 75, 22), (140, 3, 6, 2, 1, 0), (143, 3, 34, 0, -36, 59), (146, 3, 6, 1, 1, 0), (149, 3, 34, 0, -52, 53), (152, 1, 56, 0, 0, 0)]
set_option maxRecDepth 100000 in
theorem dk2 : (told k2).map (fun r => decode prog_5_method_16_code r.1) = (told k2).map (fun r => .ok (toI r, r.2.1)) := by decide +kernel
theorem ok2 : okK 2 k2 = true := by decide +kernel
-- 3: SkewRings$Field.fillSums()V
noncomputable def k3 : List Rw := [(0, 1, 1, 0, 0, 0), (1, 3, 40, 3, 4, 17), (4, 1, 7, 0, 0, 0), (5, 1, 7, 0, 0, 0), (6, 3, 54, 4, 75, 22), (9, 1, 7, 0, 0, 0), (10, 1, 3, 1, 0, 0), (11, 1, 0, 1, 0, 0), (12, 1, 1, 0, 0, 0), (13, 3, 40, 3, 1, 4), (16, 3, 31, 3, 101, 68), (19, 1, 1, 0, 0, 0), (20, 3, 40, 3, 2, 8), (23, 3, 30, 5, 94, 68), (26, 1, 7, 0, 0, 0), (27, 1, 3, 2, 0, 0), (28, 1, 0, 2, 0, 0), (29, 1, 1, 0, 0, 0), (30, 3, 40, 3, 1, 4), (33, 3, 31, 3, 78, 66), (36, 1, 0, 1, 0, 0), (37, 1, 1, 0, 0, 0), (38, 3, 40, 3, 2, 8), (41, 1, 14, 0, 0, 0), (42, 1, 0, 2, 0, 0), (43, 1, 1, 0, 0, 0), (44, 3, 40, 3, 2, 8), (47, 1, 14, 0, 0, 0), (48, 1, 10, 0, 0, 0), (49, 1, 1, 0, 0, 0), (50, 3, 40, 3, 2, 8), (53, 1, 14, 0, 0, 0), (54, 1, 3, 3, 0, 0), (55, 1, 0, 1, 0, 0), (56, 1, 0, 2, 0, 0), (57, 1, 10, 0, 0, 0), (58, 3, 30, 1, 7, 39), (61, 1, 7, 0, 0, 0), (62, 3, 34, 0, 19, 49), (65, 1, 1, 0, 0, 0), (66, 1, 0, 1, 0, 0), (67, 1, 1, 0, 0, 0), (68, 3, 40, 3, 2, 8), (71, 1, 13, 0, 0, 0), (72, 1, 0, 2, 0, 0), (73, 1, 1, 0, 0, 0), (74, 3, 40, 3, 2, 8), (77, 1, 13, 0, 0, 0), (78, 3, 54, 5, 45, 23), (81, 2, 3, 4, 0, 0), (83, 1, 1, 0, 0, 0), (84, 3, 40, 3, 4, 17), (87, 1, 0, 1, 0, 0), (88, 2, 7, 16, 0, 0), (90, 1, 12, 0, 0, 0), (91, 1, 0, 2, 0, 0), (92, 1, 10, 0, 0, 0), (93, 1, 0, 3, 0, 0), (94, 2, 0, 4, 0, 0), (96, 1, 1, 0, 0, 0), (97, 3, 40, 3, 2, 8), (100, 1, 12, 0, 0, 0), (101, 1, 10, 0, 0, 0), (102, 3, 54, 4, 75, 22), (105, 3, 6, 2, 1, 0), (108, 3, 34, 0, -80, 16), (111, 3, 6, 1, 1, 0), (114, 3, 34, 0, -103, 7), (117, 1, 56, 0, 0, 0)]
set_option maxRecDepth 100000 in
theorem dk3 : (told k3).map (fun r => decode prog_5_method_18_code r.1) = (told k3).map (fun r => .ok (toI r, r.2.1)) := by decide +kernel
theorem ok3 : okK 3 k3 = true := by decide +kernel
-- 4: SkewRings$Field.put([III)V
noncomputable def k4 : List Rw := [(0, 1, 0, 1, 0, 0), (1, 3, 30, 2, 13, 10), (4, 1, 0, 1, 0, 0), (5, 1, 1, 0, 0, 0), (6, 1, 42, 0, 0, 0), (7, 3, 31, 3, 7, 10), (10, 1, 1, 0, 0, 0), (11, 1, 0, 1, 0, 0), (12, 1, 0, 2, 0, 0), (13, 1, 44, 0, 0, 0), (14, 1, 56, 0, 0, 0)]
set_option maxRecDepth 100000 in
theorem dk4 : (told k4).map (fun r => decode prog_5_method_17_code r.1) = (told k4).map (fun r => .ok (toI r, r.2.1)) := by decide +kernel
theorem ok4 : okK 4 k4 = true := by decide +kernel
-- 5: SkewRings$Field.sum(II)I
noncomputable def k5 : List Rw := [(0, 1, 0, 1, 0, 0), (1, 2, 7, 16, 0, 0), (3, 1, 12, 0, 0, 0), (4, 1, 0, 2, 0, 0), (5, 1, 10, 0, 0, 0), (6, 1, 3, 3, 0, 0), (7, 1, 0, 3, 0, 0), (8, 3, 30, 2, 21, 18), (11, 1, 0, 3, 0, 0), (12, 1, 1, 0, 0, 0), (13, 3, 40, 3, 4, 17), (16, 1, 42, 0, 0, 0), (17, 3, 31, 3, 12, 18), (20, 1, 1, 0, 0, 0), (21, 3, 40, 3, 4, 17), (24, 1, 0, 3, 0, 0), (25, 1, 43, 0, 0, 0), (26, 3, 34, 0, 4, 19), (29, 1, 7, 0, 0, 0), (30, 1, 55, 0, 0, 0)]
set_option maxRecDepth 100000 in
theorem dk5 : (told k5).map (fun r => decode prog_5_method_5_code r.1) = (told k5).map (fun r => .ok (toI r, r.2.1)) := by decide +kernel
theorem ok5 : okK 5 k5 = true := by decide +kernel
-- 6: SkewRings$Field.fillProducts()V
noncomputable def k6 : List Rw := [(0, 1, 7, 0, 0, 0), (1, 1, 3, 1, 0, 0), (2, 1, 0, 1, 0, 0), (3, 1, 1, 0, 0, 0), (4, 3, 40, 3, 1, 4), (7, 3, 31, 3, 102, 58), (10, 1, 1, 0, 0, 0), (11, 3, 40, 3, 2, 8), (14, 3, 30, 5, 95, 58), (17, 1, 7, 0, 0, 0), (18, 1, 3, 2, 0, 0), (19, 1, 0, 2, 0, 0), (20, 1, 1, 0, 0, 0), (21, 3, 40, 3, 1, 4), (24, 3, 31, 3, 79, 56), (27, 1, 0, 2, 0, 0), (28, 3, 30, 1, 7, 19), (31, 1, 7, 0, 0, 0), (32, 3, 34, 0, 14, 26), (35, 1, 1, 0, 0, 0), (36, 1, 0, 1, 0, 0), (37, 1, 0, 2, 0, 0), (38, 1, 1, 0, 0, 0), (39, 3, 40, 3, 2, 8), (42, 1, 13, 0, 0, 0), (43, 3, 54, 7, 52, 25), (46, 1, 3, 3, 0, 0), (47, 1, 1, 0, 0, 0), (48, 1, 0, 3, 0, 0), (49, 3, 54, 8, 82, 26), (52, 2, 3, 4, 0, 0), (54, 1, 0, 2, 0, 0), (55, 1, 1, 0, 0, 0), (56, 3, 40, 3, 2, 8), (59, 1, 14, 0, 0, 0), (60, 2, 3, 5, 0, 0), (62, 2, 0, 5, 0, 0), (64, 3, 30, 5, 18, 45), (67, 1, 1, 0, 0, 0), (68, 2, 0, 4, 0, 0), (70, 1, 0, 1, 0, 0), (71, 3, 54, 5, 45, 23), (74, 2, 3, 4, 0, 0), (76, 3, 6, 5, -1, 0), (79, 3, 34, 0, -17, 36), (82, 1, 1, 0, 0, 0), (83, 3, 40, 3, 5, 18), (86, 1, 0, 1, 0, 0), (87, 2, 7, 16, 0, 0), (89, 1, 12, 0, 0, 0), (90, 1, 0, 2, 0, 0), (91, 1, 10, 0, 0, 0), (92, 2, 0, 4, 0, 0), (94, 3, 54, 4, 75, 22), (97, 3, 6, 2, 1, 0), (100, 3, 34, 0, -81, 11), (103, 3, 6, 1, 1, 0), (106, 3, 34, 0, -104, 2), (109, 1, 56, 0, 0, 0)]
set_option maxRecDepth 100000 in
theorem dk6 : (told k6).map (fun r => decode prog_5_method_19_code r.1) = (told k6).map (fun r => .ok (toI r, r.2.1)) := by decide +kernel
theorem ok6 : okK 6 k6 = true := by decide +kernel
-- 7: SkewRings$Field.product(II)I
noncomputable def k7 : List Rw := [(0, 1, 0, 1, 0, 0), (1, 2, 7, 16, 0, 0), (3, 1, 12, 0, 0, 0), (4, 1, 0, 2, 0, 0), (5, 1, 10, 0, 0, 0), (6, 1, 3, 3, 0, 0), (7, 1, 0, 3, 0, 0), (8, 3, 30, 2, 21, 18), (11, 1, 0, 3, 0, 0), (12, 1, 1, 0, 0, 0), (13, 3, 40, 3, 5, 18), (16, 1, 42, 0, 0, 0), (17, 3, 31, 3, 12, 18), (20, 1, 1, 0, 0, 0), (21, 3, 40, 3, 5, 18), (24, 1, 0, 3, 0, 0), (25, 1, 43, 0, 0, 0), (26, 3, 34, 0, 4, 19), (29, 1, 7, 0, 0, 0), (30, 1, 55, 0, 0, 0)]
set_option maxRecDepth 100000 in
theorem dk7 : (told k7).map (fun r => decode prog_5_method_6_code r.1) = (told k7).map (fun r => .ok (toI r, r.2.1)) := by decide +kernel
theorem ok7 : okK 7 k7 = true := by decide +kernel
-- 8: SkewRings$Field.timesW(I)I
noncomputable def k8 : List Rw := [(0, 1, 1, 0, 0, 0), (1, 1, 1, 0, 0, 0), (2, 3, 40, 3, 3, 13), (5, 1, 7, 1, 0, 0), (6, 1, 11, 0, 0, 0), (7, 3, 54, 9, 85, 27), (10, 1, 3, 2, 0, 0), (11, 1, 0, 2, 0, 0), (12, 1, 7, 1, 0, 0), (13, 3, 31, 3, 5, 12), (16, 1, 7, 0, 0, 0), (17, 1, 55, 0, 0, 0), (18, 1, 0, 1, 0, 0), (19, 1, 0, 2, 0, 0), (20, 1, 13, 0, 0, 0), (21, 1, 3, 3, 0, 0), (22, 1, 1, 0, 0, 0), (23, 1, 0, 1, 0, 0), (24, 1, 0, 2, 0, 0), (25, 1, 14, 0, 0, 0), (26, 1, 1, 0, 0, 0), (27, 3, 40, 3, 2, 8), (30, 1, 12, 0, 0, 0), (31, 1, 0, 3, 0, 0), (32, 1, 0, 3, 0, 0), (33, 1, 1, 0, 0, 0), (34, 3, 40, 3, 2, 8), (37, 1, 12, 0, 0, 0), (38, 1, 10, 0, 0, 0), (39, 3, 54, 5, 45, 23), (42, 1, 55, 0, 0, 0)]
set_option maxRecDepth 100000 in
theorem dk8 : (told k8).map (fun r => decode prog_5_method_20_code r.1) = (told k8).map (fun r => .ok (toI r, r.2.1)) := by decide +kernel
theorem ok8 : okK 8 k8 = true := by decide +kernel
-- 9: SkewRings$Field.unit(I)I
noncomputable def k9 : List Rw := [(0, 1, 7, 1, 0, 0), (1, 1, 3, 2, 0, 0), (2, 1, 7, 0, 0, 0), (3, 1, 3, 3, 0, 0), (4, 1, 0, 3, 0, 0), (5, 1, 0, 1, 0, 0), (6, 3, 31, 3, 24, 18), (9, 1, 0, 3, 0, 0), (10, 1, 1, 0, 0, 0), (11, 3, 40, 3, 3, 13), (14, 3, 31, 3, 16, 18), (17, 1, 0, 2, 0, 0), (18, 1, 1, 0, 0, 0), (19, 3, 40, 3, 2, 8), (22, 1, 12, 0, 0, 0), (23, 1, 3, 2, 0, 0), (24, 3, 6, 3, 1, 0), (27, 3, 34, 0, -23, 4), (30, 1, 0, 2, 0, 0), (31, 1, 55, 0, 0, 0)]
set_option maxRecDepth 100000 in
theorem dk9 : (told k9).map (fun r => decode prog_5_method_15_code r.1) = (told k9).map (fun r => .ok (toI r, r.2.1)) := by decide +kernel
theorem ok9 : okK 9 k9 = true := by decide +kernel
-- 10: SkewRings$Field.image(II)I
noncomputable def k10 : List Rw := [(0, 1, 1, 0, 0, 0), (1, 3, 40, 3, 3, 13), (4, 1, 7, 1, 0, 0), (5, 3, 31, 3, 5, 6), (8, 1, 0, 1, 0, 0), (9, 1, 55, 0, 0, 0), (10, 1, 0, 2, 0, 0), (11, 1, 1, 0, 0, 0), (12, 3, 40, 3, 3, 13), (15, 3, 54, 304, 55, 29), (18, 2, 7, 16, 0, 0), (20, 1, 12, 0, 0, 0), (21, 1, 0, 1, 0, 0), (22, 1, 10, 0, 0, 0), (23, 1, 3, 3, 0, 0), (24, 1, 0, 3, 0, 0), (25, 3, 30, 2, 21, 27), (28, 1, 0, 3, 0, 0), (29, 1, 1, 0, 0, 0), (30, 3, 40, 3, 6, 19), (33, 1, 42, 0, 0, 0), (34, 3, 31, 3, 12, 27), (37, 1, 1, 0, 0, 0), (38, 3, 40, 3, 6, 19), (41, 1, 0, 3, 0, 0), (42, 1, 43, 0, 0, 0), (43, 3, 34, 0, 4, 28), (46, 1, 7, 0, 0, 0), (47, 1, 55, 0, 0, 0)]
set_option maxRecDepth 100000 in
theorem dk10 : (told k10).map (fun r => decode prog_5_method_11_code r.1) = (told k10).map (fun r => .ok (toI r, r.2.1)) := by decide +kernel
theorem ok10 : okK 10 k10 = true := by decide +kernel
-- 11: SkewRings$Field.powered(I)I
noncomputable def k11 : List Rw := [(0, 1, 7, 1, 0, 0), (1, 1, 3, 2, 0, 0), (2, 1, 7, 0, 0, 0), (3, 1, 3, 3, 0, 0), (4, 1, 0, 3, 0, 0), (5, 1, 1, 0, 0, 0), (6, 3, 40, 3, 2, 8), (9, 3, 31, 3, 16, 15), (12, 1, 1, 0, 0, 0), (13, 1, 0, 2, 0, 0), (14, 1, 0, 1, 0, 0), (15, 3, 54, 7, 52, 25), (18, 1, 3, 2, 0, 0), (19, 3, 6, 3, 1, 0), (22, 3, 34, 0, -18, 4), (25, 1, 0, 2, 0, 0), (26, 1, 55, 0, 0, 0)]
set_option maxRecDepth 100000 in
theorem dk11 : (told k11).map (fun r => decode prog_5_method_21_code r.1) = (told k11).map (fun r => .ok (toI r, r.2.1)) := by decide +kernel
theorem ok11 : okK 11 k11 = true := by decide +kernel
-- 12: SkewRings$Field.isKind(I)Z
noncomputable def k12 : List Rw := [(0, 1, 0, 0, 0, 0), (1, 3, 30, 2, 12, 7), (4, 1, 0, 0, 0, 0), (5, 1, 7, 4, 0, 0), (6, 3, 31, 3, 7, 7), (9, 1, 7, 1, 0, 0), (10, 3, 34, 0, 4, 8), (13, 1, 7, 0, 0, 0), (14, 1, 55, 0, 0, 0)]
set_option maxRecDepth 100000 in
theorem dk12 : (told k12).map (fun r => decode prog_5_method_2_code r.1) = (told k12).map (fun r => .ok (toI r, r.2.1)) := by decide +kernel
theorem ok12 : okK 12 k12 = true := by decide +kernel
-- 13: SkewRings$Field.has(I)Z
noncomputable def k13 : List Rw := [(0, 1, 0, 1, 0, 0), (1, 3, 30, 2, 15, 8), (4, 1, 0, 1, 0, 0), (5, 1, 1, 0, 0, 0), (6, 3, 40, 3, 1, 4), (9, 3, 31, 3, 7, 8), (12, 1, 7, 1, 0, 0), (13, 3, 34, 0, 4, 9), (16, 1, 7, 0, 0, 0), (17, 1, 55, 0, 0, 0)]
set_option maxRecDepth 100000 in
theorem dk13 : (told k13).map (fun r => decode prog_5_method_4_code r.1) = (told k13).map (fun r => .ok (toI r, r.2.1)) := by decide +kernel
theorem ok13 : okK 13 k13 = true := by decide +kernel
-- 14: SkewRings$Field.inverted(I)I
noncomputable def k14 : List Rw := [(0, 1, 0, 1, 0, 0), (1, 3, 30, 2, 21, 12), (4, 1, 0, 1, 0, 0), (5, 1, 1, 0, 0, 0), (6, 3, 40, 3, 7, 20), (9, 1, 42, 0, 0, 0), (10, 3, 31, 3, 12, 12), (13, 1, 1, 0, 0, 0), (14, 3, 40, 3, 7, 20), (17, 1, 0, 1, 0, 0), (18, 1, 43, 0, 0, 0), (19, 3, 34, 0, 4, 13), (22, 1, 7, 0, 0, 0), (23, 1, 55, 0, 0, 0)]
set_option maxRecDepth 100000 in
theorem dk14 : (told k14).map (fun r => decode prog_5_method_9_code r.1) = (told k14).map (fun r => .ok (toI r, r.2.1)) := by decide +kernel
theorem ok14 : okK 14 k14 = true := by decide +kernel
-- 15: SkewRings$Field.chain(II)I
noncomputable def k15 : List Rw := [(0, 1, 7, 1, 0, 0), (1, 1, 3, 3, 0, 0), (2, 1, 7, 0, 0, 0), (3, 2, 3, 4, 0, 0), (5, 2, 0, 4, 0, 0), (7, 1, 0, 2, 0, 0), (8, 3, 31, 3, 22, 17), (11, 1, 1, 0, 0, 0), (12, 1, 0, 3, 0, 0), (13, 1, 1, 0, 0, 0), (14, 1, 0, 1, 0, 0), (15, 2, 0, 4, 0, 0), (17, 3, 54, 10, 60, 28), (20, 3, 54, 7, 52, 25), (23, 1, 3, 3, 0, 0), (24, 3, 6, 4, 1, 0), (27, 3, 34, 0, -22, 4), (30, 1, 0, 3, 0, 0), (31, 1, 55, 0, 0, 0)]
-- 16: SkewRings$Field.conjugatesOf(I)I
noncomputable def k16 : List Rw := [(0, 1, 7, 0, 0, 0), (1, 1, 3, 2, 0, 0), (2, 1, 7, 1, 0, 0), (3, 1, 3, 3, 0, 0), (4, 1, 0, 3, 0, 0), (5, 1, 1, 0, 0, 0), (6, 3, 40, 3, 1, 4), (9, 3, 31, 3, 20, 19), (12, 1, 0, 2, 0, 0), (13, 1, 7, 1, 0, 0), (14, 1, 1, 0, 0, 0), (15, 1, 0, 1, 0, 0), (16, 1, 0, 3, 0, 0), (17, 3, 54, 17, 66, 50), (20, 1, 19, 0, 0, 0), (21, 1, 17, 0, 0, 0), (22, 1, 3, 2, 0, 0), (23, 3, 6, 3, 1, 0), (26, 3, 34, 0, -22, 4), (29, 1, 0, 2, 0, 0), (30, 1, 55, 0, 0, 0)]
-- 17: SkewRings$Field.conjugate(II)I
noncomputable def k17 : List Rw := [(0, 1, 1, 0, 0, 0), (1, 1, 1, 0, 0, 0), (2, 1, 1, 0, 0, 0), (3, 1, 0, 2, 0, 0), (4, 1, 7, 1, 0, 0), (5, 3, 54, 10, 60, 28), (8, 1, 0, 1, 0, 0), (9, 3, 54, 7, 52, 25), (12, 1, 0, 2, 0, 0), (13, 3, 54, 18, 63, 51), (16, 1, 55, 0, 0, 0)]
set_option maxRecDepth 100000 in
theorem dk17 : (told k17).map (fun r => decode prog_5_method_13_code r.1) = (told k17).map (fun r => .ok (toI r, r.2.1)) := by decide +kernel
theorem ok17 : okK 17 k17 = true := by decide +kernel
-- 18: SkewRings$Field.ratio(II)I
noncomputable def k18 : List Rw := [(0, 1, 1, 0, 0, 0), (1, 1, 0, 1, 0, 0), (2, 1, 1, 0, 0, 0), (3, 1, 0, 2, 0, 0), (4, 3, 54, 14, 49, 52), (7, 3, 54, 7, 52, 25), (10, 1, 55, 0, 0, 0)]
set_option maxRecDepth 100000 in
theorem dk18 : (told k18).map (fun r => decode prog_5_method_10_code r.1) = (told k18).map (fun r => .ok (toI r, r.2.1)) := by decide +kernel
theorem ok18 : okK 18 k18 = true := by decide +kernel
-- 19: SkewRings$Field.difference(II)I
noncomputable def k19 : List Rw := [(0, 1, 1, 0, 0, 0), (1, 1, 0, 1, 0, 0), (2, 1, 1, 0, 0, 0), (3, 1, 0, 2, 0, 0), (4, 3, 54, 20, 41, 85), (7, 3, 54, 5, 45, 23), (10, 1, 55, 0, 0, 0)]
set_option maxRecDepth 100000 in
theorem dk19 : (told k19).map (fun r => decode prog_5_method_8_code r.1) = (told k19).map (fun r => .ok (toI r, r.2.1)) := by decide +kernel
theorem ok19 : okK 19 k19 = true := by decide +kernel
-- 20: SkewRings$Field.opposite(I)I
noncomputable def k20 : List Rw := [(0, 1, 0, 1, 0, 0), (1, 3, 30, 2, 21, 12), (4, 1, 0, 1, 0, 0), (5, 1, 1, 0, 0, 0), (6, 3, 40, 3, 8, 21), (9, 1, 42, 0, 0, 0), (10, 3, 31, 3, 12, 12), (13, 1, 1, 0, 0, 0), (14, 3, 40, 3, 8, 21), (17, 1, 0, 1, 0, 0), (18, 1, 43, 0, 0, 0), (19, 3, 34, 0, 4, 13), (22, 1, 7, 0, 0, 0), (23, 1, 55, 0, 0, 0)]
set_option maxRecDepth 100000 in
theorem dk20 : (told k20).map (fun r => decode prog_5_method_7_code r.1) = (told k20).map (fun r => .ok (toI r, r.2.1)) := by decide +kernel
theorem ok20 : okK 20 k20 = true := by decide +kernel
-- 21: SkewRings$Poly.<init>()V
noncomputable def k21 : List Rw := [(0, 1, 1, 0, 0, 0), (1, 3, 59, 0, 3, 3), (4, 1, 1, 0, 0, 0), (5, 2, 7, 17, 0, 0), (7, 2, 52, 10, 0, 0), (9, 3, 41, 6, 0, 22), (12, 1, 1, 0, 0, 0), (13, 1, 7, -1, 0, 0), (14, 3, 41, 6, 1, 23), (17, 1, 56, 0, 0, 0)]
set_option maxRecDepth 100000 in
theorem dk21 : (told k21).map (fun r => decode prog_8_method_1_code r.1) = (told k21).map (fun r => .ok (toI r, r.2.1)) := by decide +kernel
theorem ok21 : okK 21 k21 = true := by decide +kernel
-- 22: SkewRings$Poly.clear()V
noncomputable def k22 : List Rw := [(0, 1, 7, 0, 0, 0), (1, 1, 3, 1, 0, 0), (2, 1, 0, 1, 0, 0), (3, 1, 1, 0, 0, 0), (4, 3, 40, 6, 1, 23), (7, 3, 31, 4, 25, 18), (10, 1, 0, 1, 0, 0), (11, 1, 1, 0, 0, 0), (12, 3, 40, 6, 0, 22), (15, 1, 42, 0, 0, 0), (16, 3, 31, 3, 16, 18), (19, 1, 1, 0, 0, 0), (20, 3, 40, 6, 0, 22), (23, 1, 0, 1, 0, 0), (24, 1, 7, 0, 0, 0), (25, 1, 44, 0, 0, 0), (26, 3, 6, 1, 1, 0), (29, 3, 34, 0, -27, 2), (32, 1, 1, 0, 0, 0), (33, 1, 7, -1, 0, 0), (34, 3, 41, 6, 1, 23), (37, 1, 56, 0, 0, 0)]
set_option maxRecDepth 100000 in
theorem dk22 : (told k22).map (fun r => decode prog_8_method_4_code r.1) = (told k22).map (fun r => .ok (toI r, r.2.1)) := by decide +kernel
theorem ok22 : okK 22 k22 = true := by decide +kernel
-- 23: SkewRings$Poly.put(II)V
noncomputable def k23 : List Rw := [(0, 1, 0, 1, 0, 0), (1, 3, 30, 2, 12, 7), (4, 1, 0, 1, 0, 0), (5, 1, 1, 0, 0, 0), (6, 3, 40, 6, 0, 22), (9, 1, 42, 0, 0, 0), (10, 3, 31, 2, 4, 8), (13, 1, 56, 0, 0, 0), (14, 1, 1, 0, 0, 0), (15, 3, 40, 6, 0, 22), (18, 1, 0, 1, 0, 0), (19, 1, 0, 2, 0, 0), (20, 1, 44, 0, 0, 0), (21, 1, 0, 2, 0, 0), (22, 3, 30, 0, 16, 22), (25, 1, 0, 1, 0, 0), (26, 1, 1, 0, 0, 0), (27, 3, 40, 6, 1, 23), (30, 3, 31, 5, 8, 22), (33, 1, 1, 0, 0, 0), (34, 1, 0, 1, 0, 0), (35, 3, 41, 6, 1, 23), (38, 1, 1, 0, 0, 0), (39, 3, 40, 6, 1, 23), (42, 3, 30, 2, 40, 44), (45, 1, 1, 0, 0, 0), (46, 3, 40, 6, 1, 23), (49, 1, 1, 0, 0, 0), (50, 3, 40, 6, 0, 22), (53, 1, 42, 0, 0, 0), (54, 3, 31, 3, 28, 44), (57, 1, 1, 0, 0, 0), (58, 3, 40, 6, 0, 22), (61, 1, 1, 0, 0, 0), (62, 3, 40, 6, 1, 23), (65, 1, 43, 0, 0, 0), (66, 3, 30, 1, 16, 44), (69, 1, 1, 0, 0, 0), (70, 1, 25, 0, 0, 0), (71, 3, 40, 6, 1, 23), (74, 1, 7, 1, 0, 0), (75, 1, 11, 0, 0, 0), (76, 3, 41, 6, 1, 23), (79, 3, 34, 0, -41, 22), (82, 1, 56, 0, 0, 0)]
set_option maxRecDepth 100000 in
theorem dk23 : (told k23).map (fun r => decode prog_8_method_3_code r.1) = (told k23).map (fun r => .ok (toI r, r.2.1)) := by decide +kernel
theorem ok23 : okK 23 k23 = true := by decide +kernel
-- 24: SkewRings$Poly.copy(LSkewRings$Poly;)V
noncomputable def k24 : List Rw := [(0, 1, 1, 0, 0, 0), (1, 3, 40, 6, 1, 23), (4, 1, 1, 1, 0, 0), (5, 3, 40, 6, 1, 23), (8, 3, 54, 305, 26, 70), (11, 1, 3, 2, 0, 0), (12, 1, 7, 0, 0, 0), (13, 1, 3, 3, 0, 0), (14, 1, 0, 3, 0, 0), (15, 1, 0, 2, 0, 0), (16, 3, 31, 4, 29, 25), (19, 1, 0, 3, 0, 0), (20, 1, 1, 0, 0, 0), (21, 3, 40, 6, 0, 22), (24, 1, 42, 0, 0, 0), (25, 3, 31, 3, 20, 25), (28, 1, 1, 0, 0, 0), (29, 3, 40, 6, 0, 22), (32, 1, 0, 3, 0, 0), (33, 1, 1, 1, 0, 0), (34, 1, 0, 3, 0, 0), (35, 3, 54, 25, 32, 71), (38, 1, 44, 0, 0, 0), (39, 3, 6, 3, 1, 0), (42, 3, 34, 0, -28, 8), (45, 1, 1, 0, 0, 0), (46, 1, 1, 1, 0, 0), (47, 3, 40, 6, 1, 23), (50, 3, 41, 6, 1, 23), (53, 1, 56, 0, 0, 0)]
set_option maxRecDepth 100000 in
theorem dk24 : (told k24).map (fun r => decode prog_8_method_7_code r.1) = (told k24).map (fun r => .ok (toI r, r.2.1)) := by decide +kernel
theorem ok24 : okK 24 k24 = true := by decide +kernel
-- 25: SkewRings$Poly.at(I)I
noncomputable def k25 : List Rw := [(0, 1, 0, 1, 0, 0), (1, 3, 30, 2, 21, 12), (4, 1, 0, 1, 0, 0), (5, 1, 1, 0, 0, 0), (6, 3, 40, 6, 0, 22), (9, 1, 42, 0, 0, 0), (10, 3, 31, 3, 12, 12), (13, 1, 1, 0, 0, 0), (14, 3, 40, 6, 0, 22), (17, 1, 0, 1, 0, 0), (18, 1, 43, 0, 0, 0), (19, 3, 34, 0, 4, 13), (22, 1, 7, 0, 0, 0), (23, 1, 55, 0, 0, 0)]
set_option maxRecDepth 100000 in
theorem dk25 : (told k25).map (fun r => decode prog_8_method_2_code r.1) = (told k25).map (fun r => .ok (toI r, r.2.1)) := by decide +kernel
theorem ok25 : okK 25 k25 = true := by decide +kernel
-- 26: SkewRings$Poly.leading()I
noncomputable def k26 : List Rw := [(0, 1, 1, 0, 0, 0), (1, 1, 1, 0, 0, 0), (2, 3, 40, 6, 1, 23), (5, 3, 54, 25, 32, 71), (8, 1, 55, 0, 0, 0)]
set_option maxRecDepth 100000 in
theorem dk26 : (told k26).map (fun r => decode prog_8_method_8_code r.1) = (told k26).map (fun r => .ok (toI r, r.2.1)) := by decide +kernel
theorem ok26 : okK 26 k26 = true := by decide +kernel
-- 27: SkewRings$Poly.become(I)V
noncomputable def k27 : List Rw := [(0, 1, 1, 0, 0, 0), (1, 3, 54, 22, 19, 109), (4, 1, 1, 0, 0, 0), (5, 1, 7, 0, 0, 0), (6, 1, 0, 1, 0, 0), (7, 3, 54, 23, 22, 110), (10, 1, 56, 0, 0, 0)]
set_option maxRecDepth 100000 in
theorem dk27 : (told k27).map (fun r => decode prog_8_method_5_code r.1) = (told k27).map (fun r => .ok (toI r, r.2.1)) := by decide +kernel
theorem ok27 : okK 27 k27 = true := by decide +kernel
-- 28: SkewRings$Poly.weight()I
noncomputable def k28 : List Rw := [(0, 1, 7, 0, 0, 0), (1, 1, 3, 1, 0, 0), (2, 1, 7, 0, 0, 0), (3, 1, 3, 2, 0, 0), (4, 1, 0, 2, 0, 0), (5, 1, 1, 0, 0, 0), (6, 3, 40, 6, 1, 23), (9, 3, 31, 4, 20, 15), (12, 1, 1, 0, 0, 0), (13, 1, 0, 2, 0, 0), (14, 3, 54, 25, 32, 71), (17, 3, 30, 0, 6, 13), (20, 3, 6, 1, 1, 0), (23, 3, 6, 2, 1, 0), (26, 3, 34, 0, -22, 4), (29, 1, 0, 1, 0, 0), (30, 1, 55, 0, 0, 0)]
set_option maxRecDepth 100000 in
theorem dk28 : (told k28).map (fun r => decode prog_8_method_9_code r.1) = (told k28).map (fun r => .ok (toI r, r.2.1)) := by decide +kernel
theorem ok28 : okK 28 k28 = true := by decide +kernel
-- 29: SkewRings$Poly.lowest()I
noncomputable def k29 : List Rw := [(0, 1, 7, 0, 0, 0), (1, 1, 3, 1, 0, 0), (2, 1, 0, 1, 0, 0), (3, 1, 1, 0, 0, 0), (4, 3, 40, 6, 1, 23), (7, 3, 31, 4, 19, 14), (10, 1, 1, 0, 0, 0), (11, 1, 0, 1, 0, 0), (12, 3, 54, 25, 32, 71), (15, 3, 30, 0, 5, 12), (18, 1, 0, 1, 0, 0), (19, 1, 55, 0, 0, 0), (20, 3, 6, 1, 1, 0), (23, 3, 34, 0, -21, 2), (26, 1, 7, -1, 0, 0), (27, 1, 55, 0, 0, 0)]
set_option maxRecDepth 100000 in
theorem dk29 : (told k29).map (fun r => decode prog_8_method_10_code r.1) = (told k29).map (fun r => .ok (toI r, r.2.1)) := by decide +kernel
theorem ok29 : okK 29 k29 = true := by decide +kernel
-- 30: SkewRings$Poly.isOne()Z
noncomputable def k30 : List Rw := [(0, 1, 1, 0, 0, 0), (1, 3, 40, 6, 1, 23), (4, 3, 30, 1, 16, 10), (7, 1, 1, 0, 0, 0), (8, 1, 7, 0, 0, 0), (9, 3, 54, 25, 32, 71), (12, 1, 7, 1, 0, 0), (13, 3, 31, 1, 7, 10), (16, 1, 7, 1, 0, 0), (17, 3, 34, 0, 4, 11), (20, 1, 7, 0, 0, 0), (21, 1, 55, 0, 0, 0)]
set_option maxRecDepth 100000 in
theorem dk30 : (told k30).map (fun r => decode prog_8_method_11_code r.1) = (told k30).map (fun r => .ok (toI r, r.2.1)) := by decide +kernel
theorem ok30 : okK 30 k30 = true := by decide +kernel
-- 31: SkewRings$Poly.isLike(LSkewRings$Poly;)Z
noncomputable def k31 : List Rw := [(0, 1, 1, 0, 0, 0), (1, 1, 1, 1, 0, 0), (2, 3, 54, 32, 36, 140), (5, 3, 30, 1, 7, 6), (8, 1, 7, 1, 0, 0), (9, 3, 34, 0, 4, 7), (12, 1, 7, 0, 0, 0), (13, 1, 55, 0, 0, 0)]
set_option maxRecDepth 100000 in
theorem dk31 : (told k31).map (fun r => decode prog_8_method_12_code r.1) = (told k31).map (fun r => .ok (toI r, r.2.1)) := by decide +kernel
theorem ok31 : okK 31 k31 = true := by decide +kernel
-- 32: SkewRings$Poly.compared(LSkewRings$Poly;)I
noncomputable def k32 : List Rw := [(0, 1, 1, 0, 0, 0), (1, 3, 40, 6, 1, 23), (4, 1, 1, 1, 0, 0), (5, 3, 40, 6, 1, 23), (8, 3, 31, 0, 13, 11), (11, 1, 1, 0, 0, 0), (12, 3, 40, 6, 1, 23), (15, 1, 1, 1, 0, 0), (16, 3, 40, 6, 1, 23), (19, 1, 11, 0, 0, 0), (20, 1, 55, 0, 0, 0), (21, 1, 1, 0, 0, 0), (22, 3, 40, 6, 1, 23), (25, 1, 3, 2, 0, 0), (26, 1, 0, 2, 0, 0), (27, 3, 30, 2, 34, 33), (30, 1, 1, 0, 0, 0), (31, 1, 0, 2, 0, 0), (32, 3, 54, 25, 32, 71), (35, 1, 1, 1, 0, 0), (36, 1, 0, 2, 0, 0), (37, 3, 54, 25, 32, 71), (40, 3, 31, 0, 15, 31), (43, 1, 1, 0, 0, 0), (44, 1, 0, 2, 0, 0), (45, 3, 54, 25, 32, 71), (48, 1, 1, 1, 0, 0), (49, 1, 0, 2, 0, 0), (50, 3, 54, 25, 32, 71), (53, 1, 11, 0, 0, 0), (54, 1, 55, 0, 0, 0), (55, 3, 6, 2, -1, 0), (58, 3, 34, 0, -32, 14), (61, 1, 7, 0, 0, 0), (62, 1, 55, 0, 0, 0)]
set_option maxRecDepth 100000 in
theorem dk32 : (told k32).map (fun r => decode prog_8_method_13_code r.1) = (told k32).map (fun r => .ok (toI r, r.2.1)) := by decide +kernel
theorem ok32 : okK 32 k32 = true := by decide +kernel
-- 33: SkewRings$Poly.becomeStep(I)V
noncomputable def k33 : List Rw := [(0, 1, 1, 0, 0, 0), (1, 3, 54, 22, 19, 109), (4, 1, 1, 0, 0, 0), (5, 1, 0, 1, 0, 0), (6, 1, 7, 1, 0, 0), (7, 3, 54, 23, 22, 110), (10, 1, 56, 0, 0, 0)]
set_option maxRecDepth 100000 in
theorem dk33 : (told k33).map (fun r => decode prog_8_method_6_code r.1) = (told k33).map (fun r => .ok (toI r, r.2.1)) := by decide +kernel
theorem ok33 : okK 33 k33 = true := by decide +kernel
-- 34: SkewRings$Line.<init>()V
noncomputable def k34 : List Rw := [(0, 1, 1, 0, 0, 0), (1, 3, 59, 0, 1, 5), (4, 1, 1, 0, 0, 0), (5, 3, 51, 6, 7, 6), (8, 1, 25, 0, 0, 0), (9, 3, 54, 21, 9, 6), (12, 3, 41, 5, 0, 38), (15, 1, 1, 0, 0, 0), (16, 3, 51, 6, 7, 6), (19, 1, 25, 0, 0, 0), (20, 3, 54, 21, 9, 6), (23, 3, 41, 5, 1, 40), (26, 1, 1, 0, 0, 0), (27, 3, 51, 6, 7, 6), (30, 1, 25, 0, 0, 0), (31, 3, 54, 21, 9, 6), (34, 3, 41, 5, 2, 42), (37, 1, 56, 0, 0, 0)]
set_option maxRecDepth 100000 in
theorem dk34 : (told k34).map (fun r => decode prog_7_method_1_code r.1) = (told k34).map (fun r => .ok (toI r, r.2.1)) := by decide +kernel
theorem ok34 : okK 34 k34 = true := by decide +kernel
-- 35: SkewRings$Line.start(LSkewRings$Poly;II)V
noncomputable def k35 : List Rw := [(0, 1, 1, 0, 0, 0), (1, 3, 40, 5, 0, 38), (4, 1, 1, 1, 0, 0), (5, 3, 54, 24, 22, 107), (8, 1, 1, 0, 0, 0), (9, 3, 40, 5, 1, 40), (12, 1, 0, 2, 0, 0), (13, 3, 54, 27, 26, 108), (16, 1, 1, 0, 0, 0), (17, 3, 40, 5, 2, 42), (20, 1, 0, 3, 0, 0), (21, 3, 54, 27, 26, 108), (24, 1, 56, 0, 0, 0)]
set_option maxRecDepth 100000 in
theorem dk35 : (told k35).map (fun r => decode prog_7_method_2_code r.1) = (told k35).map (fun r => .ok (toI r, r.2.1)) := by decide +kernel
theorem ok35 : okK 35 k35 = true := by decide +kernel
-- 36: SkewRings$Ring.<init>(LSkewRings$Field;)V
noncomputable def k36 : List Rw := [(0, 1, 1, 0, 0, 0), (1, 3, 59, 0, 1, 2), (4, 1, 1, 0, 0, 0), (5, 3, 51, 6, 7, 3), (8, 1, 25, 0, 0, 0), (9, 3, 54, 21, 9, 3), (12, 3, 41, 7, 1, 33), (15, 1, 1, 0, 0, 0), (16, 3, 51, 6, 7, 3), (19, 1, 25, 0, 0, 0), (20, 3, 54, 21, 9, 3), (23, 3, 41, 7, 2, 34), (26, 1, 1, 0, 0, 0), (27, 3, 51, 6, 7, 3), (30, 1, 25, 0, 0, 0), (31, 3, 54, 21, 9, 3), (34, 3, 41, 7, 3, 35), (37, 1, 1, 0, 0, 0), (38, 3, 51, 6, 7, 3), (41, 1, 25, 0, 0, 0), (42, 3, 54, 21, 9, 3), (45, 3, 41, 7, 4, 36), (48, 1, 1, 0, 0, 0), (49, 3, 51, 6, 7, 3), (52, 1, 25, 0, 0, 0), (53, 3, 54, 21, 9, 3), (56, 3, 41, 7, 5, 37), (59, 1, 1, 0, 0, 0), (60, 1, 1, 1, 0, 0), (61, 3, 41, 7, 0, 31), (64, 1, 56, 0, 0, 0)]
set_option maxRecDepth 100000 in
theorem dk36 : (told k36).map (fun r => decode prog_9_method_1_code r.1) = (told k36).map (fun r => .ok (toI r, r.2.1)) := by decide +kernel
theorem ok36 : okK 36 k36 = true := by decide +kernel
-- 37: SkewRings$Ring.sum(LSkewRings$Poly;LSkewRings$Poly;LSkewRings$Poly;)V
noncomputable def k37 : List Rw := [(0, 1, 1, 1, 0, 0), (1, 1, 1, 2, 0, 0), (2, 1, 1, 3, 0, 0), (3, 3, 54, 38, 32, 77), (6, 2, 3, 4, 0, 0), (8, 2, 0, 4, 0, 0), (10, 3, 30, 2, 34, 21), (13, 1, 1, 3, 0, 0), (14, 2, 0, 4, 0, 0), (16, 1, 1, 0, 0, 0), (17, 3, 40, 7, 0, 31), (20, 1, 1, 1, 0, 0), (21, 2, 0, 4, 0, 0), (23, 3, 54, 25, 36, 79), (26, 1, 1, 2, 0, 0), (27, 2, 0, 4, 0, 0), (29, 3, 54, 25, 36, 79), (32, 3, 54, 5, 40, 80), (35, 3, 54, 23, 46, 81), (38, 3, 6, 4, -1, 0), (41, 3, 34, 0, -33, 5), (44, 1, 56, 0, 0, 0)]
set_option maxRecDepth 100000 in
theorem dk37 : (told k37).map (fun r => decode prog_9_method_2_code r.1) = (told k37).map (fun r => .ok (toI r, r.2.1)) := by decide +kernel
theorem ok37 : okK 37 k37 = true := by decide +kernel
-- 38: SkewRings$Ring.highest(LSkewRings$Poly;LSkewRings$Poly;LSkewRings$Poly;)I
noncomputable def k38 : List Rw := [(0, 1, 1, 2, 0, 0), (1, 3, 40, 6, 1, 27), (4, 1, 1, 0, 0, 0), (5, 3, 40, 6, 1, 27), (8, 1, 1, 1, 0, 0), (9, 3, 40, 6, 1, 27), (12, 3, 54, 305, 57, 78), (15, 3, 54, 305, 57, 78), (18, 1, 55, 0, 0, 0)]
set_option maxRecDepth 100000 in
theorem dk38 : (told k38).map (fun r => decode prog_9_method_4_code r.1) = (told k38).map (fun r => .ok (toI r, r.2.1)) := by decide +kernel
theorem ok38 : okK 38 k38 = true := by decide +kernel
-- 39: SkewRings$Ring.difference(LSkewRings$Poly;LSkewRings$Poly;LSkewRings$Poly;)V
noncomputable def k39 : List Rw := [(0, 1, 1, 1, 0, 0), (1, 1, 1, 2, 0, 0), (2, 1, 1, 3, 0, 0), (3, 3, 54, 38, 32, 77), (6, 2, 3, 4, 0, 0), (8, 2, 0, 4, 0, 0), (10, 3, 30, 2, 34, 21), (13, 1, 1, 3, 0, 0), (14, 2, 0, 4, 0, 0), (16, 1, 1, 0, 0, 0), (17, 3, 40, 7, 0, 31), (20, 1, 1, 1, 0, 0), (21, 2, 0, 4, 0, 0), (23, 3, 54, 25, 36, 79), (26, 1, 1, 2, 0, 0), (27, 2, 0, 4, 0, 0), (29, 3, 54, 25, 36, 79), (32, 3, 54, 19, 50, 84), (35, 3, 54, 23, 46, 81), (38, 3, 6, 4, -1, 0), (41, 3, 34, 0, -33, 5), (44, 1, 56, 0, 0, 0)]
set_option maxRecDepth 100000 in
theorem dk39 : (told k39).map (fun r => decode prog_9_method_3_code r.1) = (told k39).map (fun r => .ok (toI r, r.2.1)) := by decide +kernel
theorem ok39 : okK 39 k39 = true := by decide +kernel
-- 40: SkewRings$Ring.scaled(ILSkewRings$Poly;LSkewRings$Poly;)V
noncomputable def k40 : List Rw := [(0, 1, 1, 2, 0, 0), (1, 3, 40, 6, 1, 27), (4, 1, 1, 3, 0, 0), (5, 3, 40, 6, 1, 27), (8, 3, 54, 305, 57, 78), (11, 2, 3, 4, 0, 0), (13, 2, 0, 4, 0, 0), (15, 3, 30, 2, 29, 20), (18, 1, 1, 3, 0, 0), (19, 2, 0, 4, 0, 0), (21, 1, 1, 0, 0, 0), (22, 3, 40, 7, 0, 31), (25, 1, 0, 1, 0, 0), (26, 1, 1, 2, 0, 0), (27, 2, 0, 4, 0, 0), (29, 3, 54, 25, 36, 79), (32, 3, 54, 7, 62, 88), (35, 3, 54, 23, 46, 81), (38, 3, 6, 4, -1, 0), (41, 3, 34, 0, -28, 6), (44, 1, 56, 0, 0, 0)]
set_option maxRecDepth 100000 in
theorem dk40 : (told k40).map (fun r => decode prog_9_method_5_code r.1) = (told k40).map (fun r => .ok (toI r, r.2.1)) := by decide +kernel
theorem ok40 : okK 40 k40 = true := by decide +kernel
-- 41: SkewRings$Ring.product(LSkewRings$Poly;LSkewRings$Poly;LSkewRings$Poly;)V
noncomputable def k41 : List Rw := [(0, 1, 1, 0, 0, 0), (1, 3, 40, 7, 1, 33), (4, 3, 54, 22, 67, 91), (7, 1, 7, 0, 0, 0), (8, 2, 3, 4, 0, 0), (10, 2, 0, 4, 0, 0), (12, 1, 1, 1, 0, 0), (13, 3, 40, 6, 1, 27), (16, 3, 31, 4, 90, 49), (19, 1, 7, 0, 0, 0), (20, 2, 3, 5, 0, 0), (22, 2, 0, 5, 0, 0), (24, 1, 1, 2, 0, 0), (25, 3, 40, 6, 1, 27), (28, 3, 31, 4, 72, 47), (31, 1, 1, 0, 0, 0), (32, 3, 40, 7, 0, 31), (35, 1, 1, 1, 0, 0), (36, 2, 0, 4, 0, 0), (38, 3, 54, 25, 36, 79), (41, 1, 1, 0, 0, 0), (42, 3, 40, 7, 0, 31), (45, 1, 1, 2, 0, 0), (46, 2, 0, 5, 0, 0), (48, 3, 54, 25, 36, 79), (51, 2, 0, 4, 0, 0), (53, 3, 54, 10, 64, 92), (56, 3, 54, 7, 62, 88), (59, 2, 3, 6, 0, 0), (61, 1, 1, 0, 0, 0), (62, 3, 40, 7, 1, 33), (65, 2, 0, 4, 0, 0), (67, 2, 0, 5, 0, 0), (69, 1, 10, 0, 0, 0), (70, 1, 1, 0, 0, 0), (71, 3, 40, 7, 0, 31), (74, 1, 1, 0, 0, 0), (75, 3, 40, 7, 1, 33), (78, 2, 0, 4, 0, 0), (80, 2, 0, 5, 0, 0), (82, 1, 10, 0, 0, 0), (83, 3, 54, 25, 36, 79), (86, 2, 0, 6, 0, 0), (88, 3, 54, 5, 40, 80), (91, 3, 54, 23, 46, 81), (94, 3, 6, 5, 1, 0), (97, 3, 34, 0, -75, 11), (100, 3, 6, 4, 1, 0), (103, 3, 34, 0, -93, 5), (106, 1, 1, 3, 0, 0), (107, 1, 1, 0, 0, 0), (108, 3, 40, 7, 1, 33), (111, 3, 54, 24, 70, 93), (114, 1, 56, 0, 0, 0)]
set_option maxRecDepth 100000 in
theorem dk41 : (told k41).map (fun r => decode prog_9_method_8_code r.1) = (told k41).map (fun r => .ok (toI r, r.2.1)) := by decide +kernel
theorem ok41 : okK 41 k41 = true := by decide +kernel
-- 42: SkewRings$Ring.divide(LSkewRings$Poly;LSkewRings$Poly;ILSkewRings$Poly;LSkewRings$Poly;)V
noncomputable def k42 : List Rw := [(0, 2, 1, 4, 0, 0), (2, 3, 54, 22, 67, 91), (5, 2, 1, 5, 0, 0), (7, 1, 1, 1, 0, 0), (8, 3, 54, 24, 70, 93), (11, 1, 1, 2, 0, 0), (12, 3, 40, 6, 1, 27), (15, 3, 30, 3, 4, 9), (18, 1, 56, 0, 0, 0), (19, 1, 1, 1, 0, 0), (20, 3, 40, 6, 1, 27), (23, 1, 1, 2, 0, 0), (24, 3, 40, 6, 1, 27), (27, 1, 11, 0, 0, 0), (28, 2, 3, 6, 0, 0), (30, 2, 0, 6, 0, 0), (32, 3, 30, 2, 131, 77), (35, 2, 1, 5, 0, 0), (37, 2, 0, 6, 0, 0), (39, 1, 1, 2, 0, 0), (40, 3, 40, 6, 1, 27), (43, 1, 10, 0, 0, 0), (44, 3, 54, 25, 36, 79), (47, 2, 3, 7, 0, 0), (49, 2, 0, 7, 0, 0), (51, 3, 30, 0, 54, 50), (54, 1, 0, 3, 0, 0), (55, 3, 30, 1, 50, 50), (58, 1, 1, 0, 0, 0), (59, 3, 40, 7, 0, 31), (62, 2, 0, 7, 0, 0), (64, 1, 1, 0, 0, 0), (65, 3, 40, 7, 0, 31), (68, 1, 1, 2, 0, 0), (69, 3, 54, 26, 77, 99), (72, 2, 0, 6, 0, 0), (74, 3, 54, 10, 64, 92), (77, 3, 54, 18, 81, 100), (80, 2, 3, 8, 0, 0), (82, 2, 1, 4, 0, 0), (84, 2, 0, 6, 0, 0), (86, 2, 0, 8, 0, 0), (88, 3, 54, 23, 46, 81), (91, 1, 1, 0, 0, 0), (92, 2, 1, 5, 0, 0), (94, 2, 0, 8, 0, 0), (96, 2, 0, 6, 0, 0), (98, 1, 1, 2, 0, 0), (99, 3, 54, 43, 84, 101), (102, 3, 34, 0, 55, 75), (105, 2, 0, 7, 0, 0), (107, 3, 30, 0, 50, 75), (110, 1, 1, 0, 0, 0), (111, 3, 40, 7, 0, 31), (114, 1, 1, 0, 0, 0), (115, 3, 40, 7, 0, 31), (118, 2, 0, 7, 0, 0), (120, 1, 1, 2, 0, 0), (121, 3, 54, 26, 77, 99), (124, 3, 54, 18, 81, 100), (127, 1, 1, 2, 0, 0), (128, 3, 40, 6, 1, 27), (131, 1, 15, 0, 0, 0), (132, 3, 54, 10, 64, 92), (135, 2, 3, 8, 0, 0), (137, 2, 1, 4, 0, 0), (139, 2, 0, 6, 0, 0), (141, 2, 0, 8, 0, 0), (143, 3, 54, 23, 46, 81), (146, 1, 1, 0, 0, 0), (147, 2, 1, 5, 0, 0), (149, 2, 0, 8, 0, 0), (151, 2, 0, 6, 0, 0), (153, 1, 1, 2, 0, 0), (154, 3, 54, 44, 88, 102), (157, 3, 6, 6, -1, 0), (160, 3, 34, 0, -130, 15), (163, 1, 56, 0, 0, 0)]
set_option maxRecDepth 100000 in
theorem dk42 : (told k42).map (fun r => decode prog_9_method_10_code r.1) = (told k42).map (fun r => .ok (toI r, r.2.1)) := by decide +kernel
theorem ok42 : okK 42 k42 = true := by decide +kernel
-- 43: SkewRings$Ring.takeAhead(LSkewRings$Poly;IILSkewRings$Poly;)V
noncomputable def k43 : List Rw := [(0, 2, 1, 4, 0, 0), (2, 3, 40, 6, 1, 27), (5, 2, 3, 5, 0, 0), (7, 2, 0, 5, 0, 0), (9, 3, 30, 2, 59, 33), (12, 1, 1, 0, 0, 0), (13, 3, 40, 7, 0, 31), (16, 1, 0, 2, 0, 0), (17, 1, 1, 0, 0, 0), (18, 3, 40, 7, 0, 31), (21, 2, 1, 4, 0, 0), (23, 2, 0, 5, 0, 0), (25, 3, 54, 25, 36, 79), (28, 1, 0, 3, 0, 0), (29, 3, 54, 10, 64, 92), (32, 3, 54, 7, 62, 88), (35, 2, 3, 6, 0, 0), (37, 1, 1, 1, 0, 0), (38, 1, 0, 3, 0, 0), (39, 2, 0, 5, 0, 0), (41, 1, 10, 0, 0, 0), (42, 1, 1, 0, 0, 0), (43, 3, 40, 7, 0, 31), (46, 1, 1, 1, 0, 0), (47, 1, 0, 3, 0, 0), (48, 2, 0, 5, 0, 0), (50, 1, 10, 0, 0, 0), (51, 3, 54, 25, 36, 79), (54, 2, 0, 6, 0, 0), (56, 3, 54, 19, 50, 84), (59, 3, 54, 23, 46, 81), (62, 3, 6, 5, -1, 0), (65, 3, 34, 0, -58, 3), (68, 1, 56, 0, 0, 0)]
set_option maxRecDepth 100000 in
theorem dk43 : (told k43).map (fun r => decode prog_9_method_11_code r.1) = (told k43).map (fun r => .ok (toI r, r.2.1)) := by decide +kernel
theorem ok43 : okK 43 k43 = true := by decide +kernel
-- 44: SkewRings$Ring.takeBehind(LSkewRings$Poly;IILSkewRings$Poly;)V
noncomputable def k44 : List Rw := [(0, 2, 1, 4, 0, 0), (2, 3, 40, 6, 1, 27), (5, 2, 3, 5, 0, 0), (7, 2, 0, 5, 0, 0), (9, 3, 30, 2, 60, 33), (12, 1, 1, 0, 0, 0), (13, 3, 40, 7, 0, 31), (16, 2, 1, 4, 0, 0), (18, 2, 0, 5, 0, 0), (20, 3, 54, 25, 36, 79), (23, 1, 1, 0, 0, 0), (24, 3, 40, 7, 0, 31), (27, 1, 0, 2, 0, 0), (28, 2, 0, 5, 0, 0), (30, 3, 54, 10, 64, 92), (33, 3, 54, 7, 62, 88), (36, 2, 3, 6, 0, 0), (38, 1, 1, 1, 0, 0), (39, 1, 0, 3, 0, 0), (40, 2, 0, 5, 0, 0), (42, 1, 10, 0, 0, 0), (43, 1, 1, 0, 0, 0), (44, 3, 40, 7, 0, 31), (47, 1, 1, 1, 0, 0), (48, 1, 0, 3, 0, 0), (49, 2, 0, 5, 0, 0), (51, 1, 10, 0, 0, 0), (52, 3, 54, 25, 36, 79), (55, 2, 0, 6, 0, 0), (57, 3, 54, 19, 50, 84), (60, 3, 54, 23, 46, 81), (63, 3, 6, 5, -1, 0), (66, 3, 34, 0, -59, 3), (69, 1, 56, 0, 0, 0)]
set_option maxRecDepth 100000 in
theorem dk44 : (told k44).map (fun r => decode prog_9_method_12_code r.1) = (told k44).map (fun r => .ok (toI r, r.2.1)) := by decide +kernel
theorem ok44 : okK 44 k44 = true := by decide +kernel
-- 45: SkewRings$Ring.productAt(ILSkewRings$Poly;LSkewRings$Poly;LSkewRings$Poly;)V
noncomputable def k45 : List Rw := [(0, 1, 0, 1, 0, 0), (1, 3, 30, 1, 14, 8), (4, 1, 1, 0, 0, 0), (5, 1, 1, 2, 0, 0), (6, 1, 1, 3, 0, 0), (7, 2, 1, 4, 0, 0), (9, 3, 54, 41, 74, 114), (12, 3, 34, 0, 11, 13), (15, 1, 1, 0, 0, 0), (16, 1, 1, 3, 0, 0), (17, 1, 1, 2, 0, 0), (18, 2, 1, 4, 0, 0), (20, 3, 54, 41, 74, 114), (23, 1, 56, 0, 0, 0)]
set_option maxRecDepth 100000 in
theorem dk45 : (told k45).map (fun r => decode prog_9_method_9_code r.1) = (told k45).map (fun r => .ok (toI r, r.2.1)) := by decide +kernel
theorem ok45 : okK 45 k45 = true := by decide +kernel
-- 46: SkewRings$Ring.makeMonic(LSkewRings$Poly;I)V
noncomputable def k46 : List Rw := [(0, 1, 1, 0, 0, 0), (1, 3, 40, 7, 0, 31), (4, 1, 1, 1, 0, 0), (5, 3, 54, 26, 77, 99), (8, 3, 54, 14, 95, 120), (11, 1, 3, 3, 0, 0), (12, 1, 0, 2, 0, 0), (13, 3, 30, 1, 13, 14), (16, 1, 1, 0, 0, 0), (17, 1, 0, 3, 0, 0), (18, 1, 1, 1, 0, 0), (19, 1, 1, 1, 0, 0), (20, 3, 54, 40, 98, 121), (23, 3, 34, 0, 22, 25), (26, 1, 1, 0, 0, 0), (27, 1, 1, 1, 0, 0), (28, 1, 1, 0, 0, 0), (29, 3, 40, 7, 0, 31), (32, 1, 0, 3, 0, 0), (33, 1, 1, 1, 0, 0), (34, 3, 40, 6, 1, 27), (37, 1, 15, 0, 0, 0), (38, 3, 54, 10, 64, 92), (41, 1, 1, 1, 0, 0), (42, 3, 54, 47, 102, 122), (45, 1, 56, 0, 0, 0)]
set_option maxRecDepth 100000 in
theorem dk46 : (told k46).map (fun r => decode prog_9_method_14_code r.1) = (told k46).map (fun r => .ok (toI r, r.2.1)) := by decide +kernel
theorem ok46 : okK 46 k46 = true := by decide +kernel
-- 47: SkewRings$Ring.scaledBehind(LSkewRings$Poly;ILSkewRings$Poly;)V
noncomputable def k47 : List Rw := [(0, 1, 1, 1, 0, 0), (1, 3, 40, 6, 1, 27), (4, 1, 1, 3, 0, 0), (5, 3, 40, 6, 1, 27), (8, 3, 54, 305, 57, 78), (11, 2, 3, 4, 0, 0), (13, 2, 0, 4, 0, 0), (15, 3, 30, 2, 38, 24), (18, 1, 1, 3, 0, 0), (19, 2, 0, 4, 0, 0), (21, 1, 1, 0, 0, 0), (22, 3, 40, 7, 0, 31), (25, 1, 1, 1, 0, 0), (26, 2, 0, 4, 0, 0), (28, 3, 54, 25, 36, 79), (31, 1, 1, 0, 0, 0), (32, 3, 40, 7, 0, 31), (35, 1, 0, 2, 0, 0), (36, 2, 0, 4, 0, 0), (38, 3, 54, 10, 64, 92), (41, 3, 54, 7, 62, 88), (44, 3, 54, 23, 46, 81), (47, 3, 6, 4, -1, 0), (50, 3, 34, 0, -37, 6), (53, 1, 56, 0, 0, 0)]
set_option maxRecDepth 100000 in
theorem dk47 : (told k47).map (fun r => decode prog_9_method_6_code r.1) = (told k47).map (fun r => .ok (toI r, r.2.1)) := by decide +kernel
theorem ok47 : okK 47 k47 = true := by decide +kernel
-- 48: SkewRings$Ring.mapped(LSkewRings$Poly;ILSkewRings$Poly;)V
noncomputable def k48 : List Rw := [(0, 1, 1, 1, 0, 0), (1, 3, 40, 6, 1, 27), (4, 1, 1, 3, 0, 0), (5, 3, 40, 6, 1, 27), (8, 3, 54, 305, 57, 78), (11, 2, 3, 4, 0, 0), (13, 2, 0, 4, 0, 0), (15, 3, 30, 2, 29, 20), (18, 1, 1, 3, 0, 0), (19, 2, 0, 4, 0, 0), (21, 1, 1, 0, 0, 0), (22, 3, 40, 7, 0, 31), (25, 1, 1, 1, 0, 0), (26, 2, 0, 4, 0, 0), (28, 3, 54, 25, 36, 79), (31, 1, 0, 2, 0, 0), (32, 3, 54, 10, 64, 92), (35, 3, 54, 23, 46, 81), (38, 3, 6, 4, -1, 0), (41, 3, 34, 0, -28, 6), (44, 1, 56, 0, 0, 0)]
-- 49: SkewRings$Ring.reach(LSkewRings$Poly;I)I
noncomputable def k49 : List Rw := [(0, 1, 1, 0, 0, 0), (1, 1, 1, 0, 0, 0), (2, 3, 40, 7, 3, 35), (5, 1, 1, 1, 0, 0), (6, 3, 54, 50, 110, 188), (9, 1, 1, 0, 0, 0), (10, 1, 1, 0, 0, 0), (11, 3, 40, 7, 4, 36), (14, 1, 1, 1, 0, 0), (15, 3, 54, 50, 110, 188), (18, 1, 7, 1, 0, 0), (19, 1, 3, 3, 0, 0), (20, 1, 0, 3, 0, 0), (21, 1, 0, 2, 0, 0), (22, 3, 31, 4, 34, 30), (25, 1, 1, 0, 0, 0), (26, 1, 1, 0, 0, 0), (27, 3, 40, 7, 3, 35), (30, 1, 1, 1, 0, 0), (31, 3, 54, 51, 114, 190), (34, 1, 1, 0, 0, 0), (35, 3, 40, 7, 3, 35), (38, 1, 1, 0, 0, 0), (39, 3, 40, 7, 4, 36), (42, 3, 54, 31, 117, 191), (45, 3, 30, 0, 5, 28), (48, 1, 0, 3, 0, 0), (49, 1, 55, 0, 0, 0), (50, 3, 6, 3, 1, 0), (53, 3, 34, 0, -33, 12), (56, 1, 7, 0, 0, 0), (57, 1, 55, 0, 0, 0)]
-- 50: SkewRings$Ring.startSteps(LSkewRings$Poly;LSkewRings$Poly;)V
noncomputable def k50 : List Rw := [(0, 1, 1, 1, 0, 0), (1, 1, 1, 2, 0, 0), (2, 3, 40, 6, 1, 27), (5, 3, 30, 5, 7, 6), (8, 1, 7, 1, 0, 0), (9, 3, 34, 0, 4, 7), (12, 1, 7, 0, 0, 0), (13, 3, 54, 27, 106, 189), (16, 1, 56, 0, 0, 0)]
set_option maxRecDepth 100000 in
theorem dk50 : (told k50).map (fun r => decode prog_9_method_17_code r.1) = (told k50).map (fun r => .ok (toI r, r.2.1)) := by decide +kernel
theorem ok50 : okK 50 k50 = true := by decide +kernel
-- 51: SkewRings$Ring.step(LSkewRings$Poly;LSkewRings$Poly;)V
noncomputable def k51 : List Rw := [(0, 1, 1, 1, 0, 0), (1, 3, 40, 6, 1, 27), (4, 1, 3, 3, 0, 0), (5, 1, 0, 3, 0, 0), (6, 3, 30, 2, 29, 19), (9, 1, 1, 1, 0, 0), (10, 1, 0, 3, 0, 0), (11, 1, 7, 1, 0, 0), (12, 1, 10, 0, 0, 0), (13, 1, 1, 0, 0, 0), (14, 3, 40, 7, 0, 31), (17, 1, 1, 1, 0, 0), (18, 1, 0, 3, 0, 0), (19, 3, 54, 25, 36, 79), (22, 1, 7, 1, 0, 0), (23, 3, 54, 10, 64, 92), (26, 3, 54, 23, 46, 81), (29, 3, 6, 3, -1, 0), (32, 3, 34, 0, -27, 3), (35, 1, 1, 1, 0, 0), (36, 1, 7, 0, 0, 0), (37, 1, 7, 0, 0, 0), (38, 3, 54, 23, 46, 81), (41, 1, 1, 1, 0, 0), (42, 3, 40, 6, 1, 27), (45, 3, 30, 2, 36, 43), (48, 1, 1, 1, 0, 0), (49, 3, 40, 6, 1, 27), (52, 1, 1, 2, 0, 0), (53, 3, 40, 6, 1, 27), (56, 3, 31, 1, 25, 43), (59, 1, 1, 0, 0, 0), (60, 1, 1, 1, 0, 0), (61, 1, 1, 0, 0, 0), (62, 3, 40, 7, 0, 31), (65, 1, 1, 1, 0, 0), (66, 3, 54, 26, 77, 99), (69, 1, 1, 2, 0, 0), (70, 3, 54, 26, 77, 99), (73, 3, 54, 18, 81, 100), (76, 1, 7, 0, 0, 0), (77, 1, 1, 2, 0, 0), (78, 3, 54, 43, 84, 101), (81, 1, 56, 0, 0, 0)]
set_option maxRecDepth 100000 in
theorem dk51 : (told k51).map (fun r => decode prog_9_method_16_code r.1) = (told k51).map (fun r => .ok (toI r, r.2.1)) := by decide +kernel
theorem ok51 : okK 51 k51 = true := by decide +kernel
-- 52: SkewRings$Ring.areCoprime(LSkewRings$Poly;LSkewRings$Poly;)Z
noncomputable def k52 : List Rw := [(0, 1, 1, 0, 0, 0), (1, 3, 40, 7, 3, 35), (4, 1, 4, 3, 0, 0), (5, 1, 1, 0, 0, 0), (6, 3, 40, 7, 4, 36), (9, 2, 4, 4, 0, 0), (11, 1, 1, 0, 0, 0), (12, 3, 40, 7, 5, 37), (15, 2, 4, 5, 0, 0), (17, 1, 1, 3, 0, 0), (18, 1, 1, 2, 0, 0), (19, 3, 54, 24, 70, 93), (22, 2, 1, 4, 0, 0), (24, 1, 1, 1, 0, 0), (25, 3, 54, 24, 70, 93), (28, 1, 7, 0, 0, 0), (29, 2, 3, 6, 0, 0), (31, 2, 0, 6, 0, 0), (33, 2, 7, 20, 0, 0), (35, 3, 31, 3, 45, 41), (38, 2, 1, 4, 0, 0), (40, 3, 40, 6, 1, 27), (43, 3, 30, 5, 37, 41), (46, 1, 1, 0, 0, 0), (47, 1, 1, 3, 0, 0), (48, 2, 1, 4, 0, 0), (50, 1, 7, 0, 0, 0), (51, 1, 1, 0, 0, 0), (52, 3, 40, 7, 2, 34), (55, 2, 1, 5, 0, 0), (57, 3, 54, 42, 91, 258), (60, 1, 1, 3, 0, 0), (61, 2, 4, 7, 0, 0), (63, 2, 1, 4, 0, 0), (65, 1, 4, 3, 0, 0), (66, 2, 1, 5, 0, 0), (68, 2, 4, 4, 0, 0), (70, 2, 1, 7, 0, 0), (72, 2, 4, 5, 0, 0), (74, 3, 6, 6, 1, 0), (77, 3, 34, 0, -46, 17), (80, 2, 1, 4, 0, 0), (82, 3, 40, 6, 1, 27), (85, 3, 30, 0, 10, 47), (88, 1, 1, 3, 0, 0), (89, 3, 40, 6, 1, 27), (92, 3, 30, 1, 7, 49), (95, 1, 7, 1, 0, 0), (96, 3, 34, 0, 4, 50), (99, 1, 7, 0, 0, 0), (100, 1, 55, 0, 0, 0)]
set_option maxRecDepth 100000 in
theorem dk52 : (told k52).map (fun r => decode prog_9_method_15_code r.1) = (told k52).map (fun r => .ok (toI r, r.2.1)) := by decide +kernel
theorem ok52 : okK 52 k52 = true := by decide +kernel
-- 53: SkewRings$Ring.divides(LSkewRings$Poly;LSkewRings$Poly;)Z
noncomputable def k53 : List Rw := [(0, 1, 1, 0, 0, 0), (1, 1, 1, 2, 0, 0), (2, 1, 1, 1, 0, 0), (3, 1, 7, 0, 0, 0), (4, 1, 1, 0, 0, 0), (5, 3, 40, 7, 2, 34), (8, 1, 1, 0, 0, 0), (9, 3, 40, 7, 3, 35), (12, 3, 54, 42, 91, 258), (15, 1, 1, 0, 0, 0), (16, 3, 40, 7, 3, 35), (19, 3, 40, 6, 1, 27), (22, 3, 30, 3, 7, 15), (25, 1, 7, 1, 0, 0), (26, 3, 34, 0, 4, 16), (29, 1, 7, 0, 0, 0), (30, 1, 55, 0, 0, 0)]
set_option maxRecDepth 100000 in
theorem dk53 : (told k53).map (fun r => decode prog_9_method_13_code r.1) = (told k53).map (fun r => .ok (toI r, r.2.1)) := by decide +kernel
theorem ok53 : okK 53 k53 = true := by decide +kernel
-- 54: SkewRings$Euclid.<init>(LSkewRings$Ring;)V
noncomputable def k54 : List Rw := [(0, 1, 1, 0, 0, 0), (1, 3, 59, 0, 3, 4), (4, 1, 1, 0, 0, 0), (5, 3, 51, 5, 9, 5), (8, 1, 25, 0, 0, 0), (9, 3, 54, 34, 11, 5), (12, 3, 41, 2, 1, 45), (15, 1, 1, 0, 0, 0), (16, 3, 51, 5, 9, 5), (19, 1, 25, 0, 0, 0), (20, 3, 54, 34, 11, 5), (23, 3, 41, 2, 2, 46), (26, 1, 1, 0, 0, 0), (27, 3, 51, 5, 9, 5), (30, 1, 25, 0, 0, 0), (31, 3, 54, 34, 11, 5), (34, 3, 41, 2, 3, 47), (37, 1, 1, 0, 0, 0), (38, 3, 51, 6, 24, 7), (41, 1, 25, 0, 0, 0), (42, 3, 54, 21, 26, 7), (45, 3, 41, 2, 4, 48), (48, 1, 1, 0, 0, 0), (49, 3, 51, 6, 24, 7), (52, 1, 25, 0, 0, 0), (53, 3, 54, 21, 26, 7), (56, 3, 41, 2, 5, 49), (59, 1, 1, 0, 0, 0), (60, 2, 7, 20, 0, 0), (62, 2, 52, 10, 0, 0), (64, 3, 41, 2, 6, 50), (67, 1, 1, 0, 0, 0), (68, 1, 1, 1, 0, 0), (69, 3, 41, 2, 0, 44), (72, 1, 56, 0, 0, 0)]
set_option maxRecDepth 100000 in
theorem dk54 : (told k54).map (fun r => decode prog_4_method_1_code r.1) = (told k54).map (fun r => .ok (toI r, r.2.1)) := by decide +kernel
theorem ok54 : okK 54 k54 = true := by decide +kernel
-- 55: SkewRings$Euclid.run(LSkewRings$Poly;LSkewRings$Poly;I)V
noncomputable def k55 : List Rw := [(0, 1, 1, 0, 0, 0), (1, 3, 40, 2, 1, 45), (4, 1, 1, 1, 0, 0), (5, 1, 7, 1, 0, 0), (6, 1, 7, 0, 0, 0), (7, 3, 54, 35, 42, 106), (10, 1, 1, 0, 0, 0), (11, 3, 40, 2, 2, 46), (14, 1, 1, 2, 0, 0), (15, 1, 7, 0, 0, 0), (16, 1, 7, 1, 0, 0), (17, 3, 54, 35, 42, 106), (20, 1, 7, 0, 0, 0), (21, 2, 3, 4, 0, 0), (23, 2, 0, 4, 0, 0), (25, 2, 7, 20, 0, 0), (27, 3, 31, 3, 111, 65), (30, 1, 1, 0, 0, 0), (31, 3, 40, 2, 2, 46), (34, 3, 40, 5, 0, 39), (37, 3, 40, 6, 1, 26), (40, 3, 30, 2, 98, 65), (43, 1, 1, 0, 0, 0), (44, 3, 40, 2, 0, 44), (47, 1, 1, 0, 0, 0), (48, 3, 40, 2, 1, 45), (51, 3, 40, 5, 0, 39), (54, 1, 1, 0, 0, 0), (55, 3, 40, 2, 2, 46), (58, 3, 40, 5, 0, 39), (61, 1, 0, 3, 0, 0), (62, 1, 1, 0, 0, 0), (63, 3, 40, 2, 4, 48), (66, 1, 1, 0, 0, 0), (67, 3, 40, 2, 3, 47), (70, 3, 40, 5, 0, 39), (73, 3, 54, 42, 53, 111), (76, 1, 1, 0, 0, 0), (77, 1, 1, 0, 0, 0), (78, 3, 40, 2, 1, 45), (81, 3, 40, 5, 1, 41), (84, 1, 1, 0, 0, 0), (85, 3, 40, 2, 2, 46), (88, 3, 40, 5, 1, 41), (91, 1, 0, 3, 0, 0), (92, 1, 1, 0, 0, 0), (93, 3, 40, 2, 3, 47), (96, 3, 40, 5, 1, 41), (99, 3, 54, 56, 62, 112), (102, 1, 1, 0, 0, 0), (103, 1, 1, 0, 0, 0), (104, 3, 40, 2, 1, 45), (107, 3, 40, 5, 2, 43), (110, 1, 1, 0, 0, 0), (111, 3, 40, 2, 2, 46), (114, 3, 40, 5, 2, 43), (117, 1, 0, 3, 0, 0), (118, 1, 1, 0, 0, 0), (119, 3, 40, 2, 3, 47), (122, 3, 40, 5, 2, 43), (125, 3, 54, 56, 62, 112), (128, 1, 1, 0, 0, 0), (129, 3, 54, 57, 69, 116), (132, 3, 6, 4, 1, 0), (135, 3, 34, 0, -112, 14), (138, 1, 56, 0, 0, 0)]
set_option maxRecDepth 100000 in
theorem dk55 : (told k55).map (fun r => decode prog_4_method_2_code r.1) = (told k55).map (fun r => .ok (toI r, r.2.1)) := by decide +kernel
theorem ok55 : okK 55 k55 = true := by decide +kernel
-- 56: SkewRings$Euclid.lessProduct(LSkewRings$Poly;LSkewRings$Poly;ILSkewRings$Poly;)V
noncomputable def k56 : List Rw := [(0, 1, 1, 0, 0, 0), (1, 3, 40, 2, 0, 44), (4, 1, 0, 3, 0, 0), (5, 1, 1, 0, 0, 0), (6, 3, 40, 2, 4, 48), (9, 1, 1, 2, 0, 0), (10, 1, 1, 0, 0, 0), (11, 3, 40, 2, 5, 49), (14, 3, 54, 45, 72, 113), (17, 1, 1, 0, 0, 0), (18, 3, 40, 2, 0, 44), (21, 1, 1, 1, 0, 0), (22, 1, 1, 0, 0, 0), (23, 3, 40, 2, 5, 49), (26, 2, 1, 4, 0, 0), (28, 3, 54, 39, 76, 115), (31, 1, 56, 0, 0, 0)]
set_option maxRecDepth 100000 in
theorem dk56 : (told k56).map (fun r => decode prog_4_method_3_code r.1) = (told k56).map (fun r => .ok (toI r, r.2.1)) := by decide +kernel
theorem ok56 : okK 56 k56 = true := by decide +kernel
-- 57: SkewRings$Euclid.turnLines()V
noncomputable def k57 : List Rw := [(0, 1, 1, 0, 0, 0), (1, 3, 40, 2, 1, 45), (4, 1, 4, 1, 0, 0), (5, 1, 1, 0, 0, 0), (6, 1, 1, 0, 0, 0), (7, 3, 40, 2, 2, 46), (10, 3, 41, 2, 1, 45), (13, 1, 1, 0, 0, 0), (14, 1, 1, 0, 0, 0), (15, 3, 40, 2, 3, 47), (18, 3, 41, 2, 2, 46), (21, 1, 1, 0, 0, 0), (22, 1, 1, 1, 0, 0), (23, 3, 41, 2, 3, 47), (26, 1, 56, 0, 0, 0)]
set_option maxRecDepth 100000 in
theorem dk57 : (told k57).map (fun r => decode prog_4_method_4_code r.1) = (told k57).map (fun r => .ok (toI r, r.2.1)) := by decide +kernel
theorem ok57 : okK 57 k57 = true := by decide +kernel
-- 58: SkewRings$Euclid.divisorTo(ILSkewRings$Poly;)V
noncomputable def k58 : List Rw := [(0, 1, 1, 2, 0, 0), (1, 1, 1, 0, 0, 0), (2, 3, 40, 2, 1, 45), (5, 3, 40, 5, 0, 39), (8, 3, 54, 24, 80, 118), (11, 1, 1, 0, 0, 0), (12, 3, 40, 2, 0, 44), (15, 1, 1, 2, 0, 0), (16, 1, 0, 1, 0, 0), (17, 3, 54, 46, 84, 119), (20, 1, 56, 0, 0, 0)]
set_option maxRecDepth 100000 in
theorem dk58 : (told k58).map (fun r => decode prog_4_method_5_code r.1) = (told k58).map (fun r => .ok (toI r, r.2.1)) := by decide +kernel
theorem ok58 : okK 58 k58 = true := by decide +kernel
-- 59: SkewRings$Euclid.multipleTo(LSkewRings$Poly;ILSkewRings$Poly;)V
noncomputable def k59 : List Rw := [(0, 1, 1, 0, 0, 0), (1, 3, 40, 2, 0, 44), (4, 1, 0, 2, 0, 0), (5, 1, 1, 0, 0, 0), (6, 3, 40, 2, 2, 46), (9, 3, 40, 5, 1, 41), (12, 1, 1, 1, 0, 0), (13, 1, 1, 3, 0, 0), (14, 3, 54, 45, 72, 113), (17, 1, 1, 0, 0, 0), (18, 3, 40, 2, 0, 44), (21, 1, 1, 3, 0, 0), (22, 1, 0, 2, 0, 0), (23, 3, 54, 46, 84, 119), (26, 1, 56, 0, 0, 0)]
set_option maxRecDepth 100000 in
theorem dk59 : (told k59).map (fun r => decode prog_4_method_6_code r.1) = (told k59).map (fun r => .ok (toI r, r.2.1)) := by decide +kernel
theorem ok59 : okK 59 k59 = true := by decide +kernel
-- 60: SkewRings$Euclid.divisions(LSkewRings$Poly;LSkewRings$Poly;I)I
noncomputable def k60 : List Rw := [(0, 1, 1, 0, 0, 0), (1, 3, 40, 2, 1, 45), (4, 3, 40, 5, 0, 39), (7, 1, 1, 1, 0, 0), (8, 3, 54, 24, 80, 118), (11, 1, 1, 0, 0, 0), (12, 3, 40, 2, 2, 46), (15, 3, 40, 5, 0, 39), (18, 1, 1, 2, 0, 0), (19, 3, 54, 24, 80, 118), (22, 1, 7, 0, 0, 0), (23, 2, 3, 4, 0, 0), (25, 2, 0, 4, 0, 0), (27, 1, 1, 0, 0, 0), (28, 3, 40, 2, 6, 50), (31, 1, 42, 0, 0, 0), (32, 3, 31, 3, 76, 49), (35, 1, 1, 0, 0, 0), (36, 3, 40, 2, 2, 46), (39, 3, 40, 5, 0, 39), (42, 3, 40, 6, 1, 26), (45, 3, 30, 2, 63, 49), (48, 1, 1, 0, 0, 0), (49, 3, 40, 2, 0, 44), (52, 1, 1, 0, 0, 0), (53, 3, 40, 2, 1, 45), (56, 3, 40, 5, 0, 39), (59, 1, 1, 0, 0, 0), (60, 3, 40, 2, 2, 46), (63, 3, 40, 5, 0, 39), (66, 1, 0, 3, 0, 0), (67, 1, 1, 0, 0, 0), (68, 3, 40, 2, 4, 48), (71, 1, 1, 0, 0, 0), (72, 3, 40, 2, 3, 47), (75, 3, 40, 5, 0, 39), (78, 3, 54, 42, 53, 111), (81, 1, 1, 0, 0, 0), (82, 3, 40, 2, 6, 50), (85, 2, 0, 4, 0, 0), (87, 1, 1, 0, 0, 0), (88, 3, 40, 2, 3, 47), (91, 3, 40, 5, 0, 39), (94, 3, 40, 6, 1, 26), (97, 1, 44, 0, 0, 0), (98, 1, 1, 0, 0, 0), (99, 3, 54, 57, 69, 116), (102, 3, 6, 4, 1, 0), (105, 3, 34, 0, -80, 12), (108, 2, 0, 4, 0, 0), (110, 1, 55, 0, 0, 0)]
-- 61: SkewRings$Euclid.restDegree(I)I
noncomputable def k61 : List Rw := [(0, 1, 0, 1, 0, 0), (1, 3, 30, 2, 21, 12), (4, 1, 0, 1, 0, 0), (5, 1, 1, 0, 0, 0), (6, 3, 40, 2, 6, 50), (9, 1, 42, 0, 0, 0), (10, 3, 31, 3, 12, 12), (13, 1, 1, 0, 0, 0), (14, 3, 40, 2, 6, 50), (17, 1, 0, 1, 0, 0), (18, 1, 43, 0, 0, 0), (19, 3, 34, 0, 4, 13), (22, 1, 7, -1, 0, 0), (23, 1, 55, 0, 0, 0)]
-- 62: SkewRings$Euclid.cofactorsTo(LSkewRings$Poly;LSkewRings$Poly;)I
noncomputable def k62 : List Rw := [(0, 1, 1, 0, 0, 0), (1, 3, 40, 2, 0, 44), (4, 3, 40, 7, 0, 32), (7, 1, 1, 0, 0, 0), (8, 3, 40, 2, 1, 45), (11, 3, 40, 5, 0, 39), (14, 3, 54, 26, 92, 147), (17, 3, 54, 14, 96, 148), (20, 1, 3, 3, 0, 0), (21, 1, 1, 0, 0, 0), (22, 3, 40, 2, 0, 44), (25, 1, 0, 3, 0, 0), (26, 1, 1, 0, 0, 0), (27, 3, 40, 2, 1, 45), (30, 3, 40, 5, 1, 41), (33, 1, 1, 1, 0, 0), (34, 3, 54, 40, 102, 149), (37, 1, 1, 0, 0, 0), (38, 3, 40, 2, 0, 44), (41, 1, 0, 3, 0, 0), (42, 1, 1, 0, 0, 0), (43, 3, 40, 2, 1, 45), (46, 3, 40, 5, 2, 43), (49, 1, 1, 2, 0, 0), (50, 3, 54, 40, 102, 149), (53, 1, 1, 0, 0, 0), (54, 3, 40, 2, 1, 45), (57, 3, 40, 5, 0, 39), (60, 3, 40, 6, 1, 26), (63, 1, 55, 0, 0, 0)]
-- 63: SkewRings$Values.<init>(LSkewRings$Field;LSkewRings$Ring;)V
noncomputable def k63 : List Rw := [(0, 1, 1, 0, 0, 0), (1, 3, 59, 0, 1, 6), (4, 1, 1, 0, 0, 0), (5, 3, 51, 6, 7, 9), (8, 1, 25, 0, 0, 0), (9, 3, 54, 21, 9, 9), (12, 3, 41, 10, 2, 53), (15, 1, 1, 0, 0, 0), (16, 3, 51, 6, 7, 9), (19, 1, 25, 0, 0, 0), (20, 3, 54, 21, 9, 9), (23, 3, 41, 10, 3, 54), (26, 1, 1, 0, 0, 0), (27, 3, 51, 6, 7, 9), (30, 1, 25, 0, 0, 0), (31, 3, 54, 21, 9, 9), (34, 3, 41, 10, 4, 55), (37, 1, 1, 0, 0, 0), (38, 1, 1, 1, 0, 0), (39, 3, 41, 10, 0, 51), (42, 1, 1, 0, 0, 0), (43, 1, 1, 2, 0, 0), (44, 3, 41, 10, 1, 52), (47, 1, 56, 0, 0, 0)]
set_option maxRecDepth 100000 in
theorem dk63 : (told k63).map (fun r => decode prog_12_method_1_code r.1) = (told k63).map (fun r => .ok (toI r, r.2.1)) := by decide +kernel
theorem ok63 : okK 63 k63 = true := by decide +kernel
-- 64: SkewRings$Values.fit(LSkewRings$Text;LSkewRings$Poly;)Z
noncomputable def k64 : List Rw := [(0, 1, 1, 2, 0, 0), (1, 3, 54, 22, 86, 156), (4, 1, 1, 0, 0, 0), (5, 3, 40, 10, 3, 54), (8, 1, 7, 1, 0, 0), (9, 3, 54, 27, 60, 157), (12, 1, 7, 0, 0, 0), (13, 1, 3, 3, 0, 0), (14, 1, 0, 3, 0, 0), (15, 1, 1, 1, 0, 0), (16, 3, 40, 9, 4, 96), (19, 3, 31, 3, 111, 66), (22, 1, 1, 1, 0, 0), (23, 1, 0, 3, 0, 0), (24, 3, 54, 120, 94, 158), (27, 2, 3, 4, 0, 0), (29, 1, 1, 0, 0, 0), (30, 3, 40, 10, 0, 51), (33, 1, 1, 1, 0, 0), (34, 1, 0, 3, 0, 0), (35, 3, 54, 121, 97, 159), (38, 1, 1, 0, 0, 0), (39, 1, 1, 2, 0, 0), (40, 2, 0, 4, 0, 0), (42, 3, 54, 65, 53, 160), (45, 3, 54, 19, 99, 165), (48, 2, 3, 5, 0, 0), (50, 1, 1, 0, 0, 0), (51, 1, 1, 0, 0, 0), (52, 3, 40, 10, 3, 54), (55, 2, 0, 4, 0, 0), (57, 3, 54, 65, 53, 160), (60, 2, 3, 6, 0, 0), (62, 2, 0, 6, 0, 0), (64, 3, 30, 1, 10, 39), (67, 2, 0, 5, 0, 0), (69, 3, 30, 0, 5, 39), (72, 1, 7, 0, 0, 0), (73, 1, 55, 0, 0, 0), (74, 1, 1, 0, 0, 0), (75, 3, 40, 10, 1, 52), (78, 1, 1, 0, 0, 0), (79, 3, 40, 10, 0, 51), (82, 2, 0, 5, 0, 0), (84, 2, 0, 6, 0, 0), (86, 3, 54, 18, 102, 166), (89, 1, 1, 0, 0, 0), (90, 3, 40, 10, 3, 54), (93, 1, 1, 0, 0, 0), (94, 3, 40, 10, 4, 55), (97, 3, 54, 40, 105, 167), (100, 1, 1, 0, 0, 0), (101, 3, 40, 10, 1, 52), (104, 1, 1, 2, 0, 0), (105, 1, 1, 0, 0, 0), (106, 3, 40, 10, 4, 55), (109, 1, 1, 2, 0, 0), (110, 3, 54, 37, 109, 168), (113, 1, 1, 0, 0, 0), (114, 1, 1, 0, 0, 0), (115, 3, 40, 10, 3, 54), (118, 2, 0, 4, 0, 0), (120, 3, 54, 66, 64, 169), (123, 1, 26, 0, 0, 0), (124, 3, 6, 3, 1, 0), (127, 3, 34, 0, -113, 8), (130, 1, 7, 1, 0, 0), (131, 1, 55, 0, 0, 0)]
-- 65: SkewRings$Values.valueAt(LSkewRings$Poly;I)I
noncomputable def k65 : List Rw := [(0, 1, 7, 0, 0, 0), (1, 1, 3, 3, 0, 0), (2, 1, 7, 1, 0, 0), (3, 2, 3, 4, 0, 0), (5, 1, 7, 0, 0, 0), (6, 2, 3, 5, 0, 0), (8, 2, 0, 5, 0, 0), (10, 1, 1, 1, 0, 0), (11, 3, 40, 6, 1, 25), (14, 3, 31, 4, 54, 34), (17, 1, 1, 0, 0, 0), (18, 3, 40, 10, 0, 51), (21, 1, 0, 3, 0, 0), (22, 1, 1, 0, 0, 0), (23, 3, 40, 10, 0, 51), (26, 1, 1, 1, 0, 0), (27, 2, 0, 5, 0, 0), (29, 3, 54, 25, 34, 161), (32, 2, 0, 4, 0, 0), (34, 3, 54, 7, 38, 162), (37, 3, 54, 5, 44, 163), (40, 1, 3, 3, 0, 0), (41, 1, 1, 0, 0, 0), (42, 3, 40, 10, 0, 51), (45, 2, 0, 4, 0, 0), (47, 1, 1, 0, 0, 0), (48, 3, 40, 10, 0, 51), (51, 1, 0, 2, 0, 0), (52, 2, 0, 5, 0, 0), (54, 3, 54, 10, 47, 164), (57, 3, 54, 7, 38, 162), (60, 2, 3, 4, 0, 0), (62, 3, 6, 5, 1, 0), (65, 3, 34, 0, -57, 6), (68, 1, 0, 3, 0, 0), (69, 1, 55, 0, 0, 0)]
set_option maxRecDepth 100000 in
theorem dk65 : (told k65).map (fun r => decode prog_12_method_2_code r.1) = (told k65).map (fun r => .ok (toI r, r.2.1)) := by decide +kernel
theorem ok65 : okK 65 k65 = true := by decide +kernel
-- 66: SkewRings$Values.vanishAlso(LSkewRings$Poly;I)Z
noncomputable def k66 : List Rw := [(0, 1, 1, 0, 0, 0), (1, 1, 1, 1, 0, 0), (2, 1, 0, 2, 0, 0), (3, 3, 54, 65, 53, 160), (6, 1, 3, 3, 0, 0), (7, 1, 0, 3, 0, 0), (8, 3, 30, 1, 5, 9), (11, 1, 7, 0, 0, 0), (12, 1, 55, 0, 0, 0), (13, 1, 1, 0, 0, 0), (14, 3, 40, 10, 2, 53), (17, 1, 7, 1, 0, 0), (18, 3, 54, 33, 68, 170), (21, 1, 1, 0, 0, 0), (22, 3, 40, 10, 2, 53), (25, 1, 7, 0, 0, 0), (26, 1, 1, 0, 0, 0), (27, 3, 40, 10, 0, 51), (30, 1, 1, 0, 0, 0), (31, 3, 40, 10, 0, 51), (34, 1, 0, 2, 0, 0), (35, 1, 0, 3, 0, 0), (36, 3, 54, 17, 71, 171), (39, 3, 54, 20, 74, 172), (42, 3, 54, 23, 77, 173), (45, 1, 1, 0, 0, 0), (46, 3, 40, 10, 1, 52), (49, 1, 1, 0, 0, 0), (50, 3, 40, 10, 2, 53), (53, 1, 1, 1, 0, 0), (54, 1, 1, 1, 0, 0), (55, 3, 54, 41, 81, 174), (58, 1, 7, 1, 0, 0), (59, 1, 55, 0, 0, 0)]
set_option maxRecDepth 100000 in
theorem dk66 : (told k66).map (fun r => decode prog_12_method_9_code r.1) = (told k66).map (fun r => .ok (toI r, r.2.1)) := by decide +kernel
theorem ok66 : okK 66 k66 = true := by decide +kernel
-- 67: SkewRings$Values.rootsOf(LSkewRings$Poly;)I
noncomputable def k67 : List Rw := [(0, 1, 7, 0, 0, 0), (1, 1, 3, 2, 0, 0), (2, 1, 7, 0, 0, 0), (3, 1, 3, 3, 0, 0), (4, 1, 0, 3, 0, 0), (5, 1, 1, 0, 0, 0), (6, 3, 40, 10, 0, 51), (9, 3, 40, 3, 1, 3), (12, 3, 31, 3, 24, 22), (15, 1, 1, 0, 0, 0), (16, 1, 1, 1, 0, 0), (17, 1, 0, 3, 0, 0), (18, 3, 54, 65, 53, 160), (21, 3, 30, 1, 9, 20), (24, 1, 0, 2, 0, 0), (25, 1, 7, 1, 0, 0), (26, 1, 0, 3, 0, 0), (27, 1, 19, 0, 0, 0), (28, 1, 17, 0, 0, 0), (29, 1, 3, 2, 0, 0), (30, 3, 6, 3, 1, 0), (33, 3, 34, 0, -29, 4), (36, 1, 0, 2, 0, 0), (37, 1, 55, 0, 0, 0)]
set_option maxRecDepth 100000 in
theorem dk67 : (told k67).map (fun r => decode prog_12_method_3_code r.1) = (told k67).map (fun r => .ok (toI r, r.2.1)) := by decide +kernel
theorem ok67 : okK 67 k67 = true := by decide +kernel
-- 68: SkewRings$Values.done(LSkewRings$Poly;I)I
noncomputable def k68 : List Rw := [(0, 1, 7, 0, 0, 0), (1, 1, 3, 3, 0, 0), (2, 1, 7, 0, 0, 0), (3, 2, 3, 4, 0, 0), (5, 2, 0, 4, 0, 0), (7, 1, 1, 1, 0, 0), (8, 3, 40, 6, 1, 25), (11, 3, 31, 4, 41, 26), (14, 1, 1, 0, 0, 0), (15, 3, 40, 10, 0, 51), (18, 1, 0, 3, 0, 0), (19, 1, 1, 0, 0, 0), (20, 3, 40, 10, 0, 51), (23, 1, 1, 1, 0, 0), (24, 2, 0, 4, 0, 0), (26, 3, 54, 25, 34, 161), (29, 1, 1, 0, 0, 0), (30, 3, 40, 10, 0, 51), (33, 1, 0, 2, 0, 0), (34, 2, 0, 4, 0, 0), (36, 3, 54, 10, 47, 164), (39, 3, 54, 7, 38, 162), (42, 3, 54, 5, 44, 163), (45, 1, 3, 3, 0, 0), (46, 3, 6, 4, 1, 0), (49, 3, 34, 0, -44, 4), (52, 1, 0, 3, 0, 0), (53, 1, 55, 0, 0, 0)]
set_option maxRecDepth 100000 in
theorem dk68 : (told k68).map (fun r => decode prog_12_method_4_code r.1) = (told k68).map (fun r => .ok (toI r, r.2.1)) := by decide +kernel
theorem ok68 : okK 68 k68 = true := by decide +kernel
-- 69: SkewRings$Values.doneTo(LSkewRings$Poly;I)I
noncomputable def k69 : List Rw := [(0, 1, 7, 0, 0, 0), (1, 1, 3, 3, 0, 0), (2, 1, 7, 0, 0, 0), (3, 2, 3, 4, 0, 0), (5, 2, 0, 4, 0, 0), (7, 1, 1, 0, 0, 0), (8, 3, 40, 10, 0, 51), (11, 3, 40, 3, 1, 3), (14, 3, 31, 3, 27, 23), (17, 1, 1, 0, 0, 0), (18, 1, 1, 1, 0, 0), (19, 2, 0, 4, 0, 0), (21, 3, 54, 68, 57, 183), (24, 1, 0, 2, 0, 0), (25, 3, 31, 1, 10, 21), (28, 1, 0, 3, 0, 0), (29, 1, 7, 1, 0, 0), (30, 2, 0, 4, 0, 0), (32, 1, 19, 0, 0, 0), (33, 1, 17, 0, 0, 0), (34, 1, 3, 3, 0, 0), (35, 3, 6, 4, 1, 0), (38, 3, 34, 0, -33, 4), (41, 1, 0, 3, 0, 0), (42, 1, 55, 0, 0, 0)]
set_option maxRecDepth 100000 in
theorem dk69 : (told k69).map (fun r => decode prog_12_method_5_code r.1) = (told k69).map (fun r => .ok (toI r, r.2.1)) := by decide +kernel
theorem ok69 : okK 69 k69 = true := by decide +kernel
-- 70: SkewRings$Values.images(LSkewRings$Poly;)I
noncomputable def k70 : List Rw := [(0, 1, 7, 0, 0, 0), (1, 1, 3, 2, 0, 0), (2, 1, 7, 0, 0, 0), (3, 1, 3, 3, 0, 0), (4, 1, 0, 3, 0, 0), (5, 1, 1, 0, 0, 0), (6, 3, 40, 10, 0, 51), (9, 3, 40, 3, 1, 3), (12, 3, 31, 3, 20, 20), (15, 1, 0, 2, 0, 0), (16, 1, 7, 1, 0, 0), (17, 1, 1, 0, 0, 0), (18, 1, 1, 1, 0, 0), (19, 1, 0, 3, 0, 0), (20, 3, 54, 68, 57, 183), (23, 1, 19, 0, 0, 0), (24, 1, 17, 0, 0, 0), (25, 1, 3, 2, 0, 0), (26, 3, 6, 3, 1, 0), (29, 3, 34, 0, -25, 4), (32, 1, 0, 2, 0, 0), (33, 1, 55, 0, 0, 0)]
set_option maxRecDepth 100000 in
theorem dk70 : (told k70).map (fun r => decode prog_12_method_6_code r.1) = (told k70).map (fun r => .ok (toI r, r.2.1)) := by decide +kernel
theorem ok70 : okK 70 k70 = true := by decide +kernel
-- 71: SkewRings$Values.basisOf(ILSkewRings$Poly;)I
noncomputable def k71 : List Rw := [(0, 1, 7, 0, 0, 0), (1, 1, 3, 3, 0, 0), (2, 1, 1, 2, 0, 0), (3, 1, 7, 1, 0, 0), (4, 3, 54, 27, 60, 157), (7, 1, 7, 0, 0, 0), (8, 2, 3, 4, 0, 0), (10, 2, 0, 4, 0, 0), (12, 1, 1, 0, 0, 0), (13, 3, 40, 10, 0, 51), (16, 3, 40, 3, 1, 3), (19, 3, 31, 3, 36, 32), (22, 1, 0, 1, 0, 0), (23, 2, 0, 4, 0, 0), (25, 1, 20, 0, 0, 0), (26, 1, 7, 1, 0, 0), (27, 1, 16, 0, 0, 0), (28, 1, 7, 1, 0, 0), (29, 3, 31, 1, 20, 30), (32, 1, 1, 0, 0, 0), (33, 1, 1, 2, 0, 0), (34, 2, 0, 4, 0, 0), (36, 3, 54, 66, 64, 169), (39, 3, 30, 0, 10, 30), (42, 1, 0, 3, 0, 0), (43, 1, 7, 1, 0, 0), (44, 2, 0, 4, 0, 0), (46, 1, 19, 0, 0, 0), (47, 1, 17, 0, 0, 0), (48, 1, 3, 3, 0, 0), (49, 3, 6, 4, 1, 0), (52, 3, 34, 0, -42, 7), (55, 1, 0, 3, 0, 0), (56, 1, 55, 0, 0, 0)]
set_option maxRecDepth 100000 in
theorem dk71 : (told k71).map (fun r => decode prog_12_method_8_code r.1) = (told k71).map (fun r => .ok (toI r, r.2.1)) := by decide +kernel
theorem ok71 : okK 71 k71 = true := by decide +kernel
-- 72: SkewRings$Values.leastStretched(LSkewRings$Poly;I)I
noncomputable def k72 : List Rw := [(0, 1, 7, 1, 0, 0), (1, 1, 3, 3, 0, 0), (2, 1, 0, 3, 0, 0), (3, 1, 1, 0, 0, 0), (4, 3, 40, 10, 0, 51), (7, 3, 40, 3, 1, 3), (10, 3, 31, 3, 29, 21), (13, 1, 1, 0, 0, 0), (14, 1, 1, 1, 0, 0), (15, 1, 0, 3, 0, 0), (16, 3, 54, 68, 57, 183), (19, 1, 1, 0, 0, 0), (20, 3, 40, 10, 0, 51), (23, 1, 0, 2, 0, 0), (24, 1, 0, 3, 0, 0), (25, 3, 54, 7, 38, 162), (28, 3, 31, 1, 5, 19), (31, 1, 0, 3, 0, 0), (32, 1, 55, 0, 0, 0), (33, 3, 6, 3, 1, 0), (36, 3, 34, 0, -34, 2), (39, 1, 7, 0, 0, 0), (40, 1, 55, 0, 0, 0)]
-- 73: SkewRings$Values.quadraticsWithoutRoots()I
noncomputable def k73 : List Rw := [(0, 1, 7, 0, 0, 0), (1, 1, 3, 1, 0, 0), (2, 1, 7, 0, 0, 0), (3, 1, 3, 2, 0, 0), (4, 1, 0, 2, 0, 0), (5, 1, 1, 0, 0, 0), (6, 3, 40, 10, 0, 51), (9, 3, 40, 3, 1, 3), (12, 3, 31, 3, 83, 51), (15, 1, 7, 0, 0, 0), (16, 1, 3, 3, 0, 0), (17, 1, 7, 0, 0, 0), (18, 2, 3, 4, 0, 0), (20, 2, 0, 4, 0, 0), (22, 1, 1, 0, 0, 0), (23, 3, 40, 10, 0, 51), (26, 3, 40, 3, 1, 3), (29, 3, 31, 3, 45, 40), (32, 1, 1, 0, 0, 0), (33, 3, 40, 10, 0, 51), (36, 1, 1, 0, 0, 0), (37, 3, 40, 10, 0, 51), (40, 2, 0, 4, 0, 0), (42, 1, 7, 2, 0, 0), (43, 3, 54, 15, 111, 280), (46, 1, 1, 0, 0, 0), (47, 3, 40, 10, 0, 51), (50, 1, 0, 2, 0, 0), (51, 2, 0, 4, 0, 0), (53, 3, 54, 7, 38, 162), (56, 3, 54, 5, 44, 163), (59, 2, 3, 5, 0, 0), (61, 1, 0, 3, 0, 0), (62, 1, 7, 1, 0, 0), (63, 2, 0, 5, 0, 0), (65, 1, 19, 0, 0, 0), (66, 1, 17, 0, 0, 0), (67, 1, 3, 3, 0, 0), (68, 3, 6, 4, 1, 0), (71, 3, 34, 0, -51, 13), (74, 1, 0, 1, 0, 0), (75, 1, 1, 0, 0, 0), (76, 3, 40, 10, 0, 51), (79, 3, 40, 3, 1, 3), (82, 1, 0, 3, 0, 0), (83, 3, 54, 306, 114, 281), (86, 1, 11, 0, 0, 0), (87, 1, 10, 0, 0, 0), (88, 1, 3, 1, 0, 0), (89, 3, 6, 2, 1, 0), (92, 3, 34, 0, -88, 4), (95, 1, 0, 1, 0, 0), (96, 1, 55, 0, 0, 0)]
-- 74: SkewRings$Divisors.<init>(LSkewRings$Field;LSkewRings$Ring;)V
noncomputable def k74 : List Rw := [(0, 1, 1, 0, 0, 0), (1, 3, 59, 0, 3, 7), (4, 1, 1, 0, 0, 0), (5, 3, 51, 6, 9, 11), (8, 1, 25, 0, 0, 0), (9, 3, 54, 21, 11, 11), (12, 3, 41, 1, 2, 58), (15, 1, 1, 0, 0, 0), (16, 3, 51, 6, 9, 11), (19, 1, 25, 0, 0, 0), (20, 3, 54, 21, 11, 11), (23, 3, 41, 1, 3, 59), (26, 1, 1, 0, 0, 0), (27, 3, 51, 6, 9, 11), (30, 1, 25, 0, 0, 0), (31, 3, 54, 21, 11, 11), (34, 3, 41, 1, 4, 60), (37, 1, 1, 0, 0, 0), (38, 3, 51, 6, 9, 11), (41, 1, 25, 0, 0, 0), (42, 3, 54, 21, 11, 11), (45, 3, 41, 1, 5, 61), (48, 1, 1, 0, 0, 0), (49, 1, 7, 4, 0, 0), (50, 3, 53, 0, 9, 11), (53, 3, 41, 1, 6, 62), (56, 1, 1, 0, 0, 0), (57, 1, 7, 4, 0, 0), (58, 3, 53, 0, 9, 11), (61, 3, 41, 1, 7, 63), (64, 1, 1, 0, 0, 0), (65, 1, 7, 4, 0, 0), (66, 3, 53, 0, 9, 11), (69, 3, 41, 1, 8, 64), (72, 1, 1, 0, 0, 0), (73, 1, 1, 1, 0, 0), (74, 3, 41, 1, 0, 56), (77, 1, 1, 0, 0, 0), (78, 1, 1, 2, 0, 0), (79, 3, 41, 1, 1, 57), (82, 1, 7, 0, 0, 0), (83, 1, 3, 3, 0, 0), (84, 1, 0, 3, 0, 0), (85, 1, 7, 4, 0, 0), (86, 3, 31, 3, 48, 68), (89, 1, 1, 0, 0, 0), (90, 3, 40, 1, 6, 62), (93, 1, 0, 3, 0, 0), (94, 3, 51, 6, 9, 11), (97, 1, 25, 0, 0, 0), (98, 3, 54, 21, 11, 11), (101, 1, 50, 0, 0, 0), (102, 1, 1, 0, 0, 0), (103, 3, 40, 1, 7, 63), (106, 1, 0, 3, 0, 0), (107, 3, 51, 6, 9, 11), (110, 1, 25, 0, 0, 0), (111, 3, 54, 21, 11, 11), (114, 1, 50, 0, 0, 0), (115, 1, 1, 0, 0, 0), (116, 3, 40, 1, 8, 64), (119, 1, 0, 3, 0, 0), (120, 3, 51, 6, 9, 11), (123, 1, 25, 0, 0, 0), (124, 3, 54, 21, 11, 11), (127, 1, 50, 0, 0, 0), (128, 3, 6, 3, 1, 0), (131, 3, 34, 0, -47, 42), (134, 1, 56, 0, 0, 0)]
set_option maxRecDepth 100000 in
theorem dk74 : (told k74).map (fun r => decode prog_3_method_1_code r.1) = (told k74).map (fun r => .ok (toI r, r.2.1)) := by decide +kernel
theorem ok74 : okK 74 k74 = true := by decide +kernel
-- 75: SkewRings$Divisors.forget()V
noncomputable def k75 : List Rw := [(0, 1, 1, 0, 0, 0), (1, 1, 7, 0, 0, 0), (2, 3, 41, 1, 9, 65), (5, 1, 56, 0, 0, 0)]
set_option maxRecDepth 100000 in
theorem dk75 : (told k75).map (fun r => decode prog_3_method_2_code r.1) = (told k75).map (fun r => .ok (toI r, r.2.1)) := by decide +kernel
theorem ok75 : okK 75 k75 = true := by decide +kernel
-- 76: SkewRings$Divisors.survey(LSkewRings$Poly;ILSkewRings$Poly;)I
noncomputable def k76 : List Rw := [(0, 1, 7, 0, 0, 0), (1, 2, 3, 4, 0, 0), (3, 1, 7, 0, 0, 0), (4, 2, 3, 5, 0, 0), (6, 2, 0, 5, 0, 0), (8, 1, 1, 0, 0, 0), (9, 1, 1, 1, 0, 0), (10, 3, 40, 6, 1, 29), (13, 1, 0, 2, 0, 0), (14, 3, 54, 77, 90, 202), (17, 3, 31, 3, 55, 35), (20, 1, 1, 0, 0, 0), (21, 1, 1, 1, 0, 0), (22, 1, 0, 2, 0, 0), (23, 2, 0, 5, 0, 0), (25, 1, 1, 0, 0, 0), (26, 3, 40, 1, 3, 59), (29, 1, 1, 0, 0, 0), (30, 3, 40, 1, 4, 60), (33, 3, 54, 78, 94, 203), (36, 3, 30, 0, 30, 33), (39, 2, 0, 4, 0, 0), (41, 3, 30, 0, 14, 28), (44, 1, 1, 0, 0, 0), (45, 3, 40, 1, 3, 59), (48, 1, 1, 3, 0, 0), (49, 3, 54, 32, 98, 211), (52, 3, 30, 3, 11, 32), (55, 1, 1, 3, 0, 0), (56, 1, 1, 0, 0, 0), (57, 3, 40, 1, 3, 59), (60, 3, 54, 24, 61, 204), (63, 3, 6, 4, 1, 0), (66, 3, 6, 5, 1, 0), (69, 3, 34, 0, -63, 4), (72, 2, 0, 4, 0, 0), (74, 1, 55, 0, 0, 0)]
set_option maxRecDepth 100000 in
theorem dk76 : (told k76).map (fun r => decode prog_3_method_7_code r.1) = (told k76).map (fun r => .ok (toI r, r.2.1)) := by decide +kernel
theorem ok76 : okK 76 k76 = true := by decide +kernel
-- 77: SkewRings$Divisors.tries(II)I
noncomputable def k77 : List Rw := [(0, 1, 0, 2, 0, 0), (1, 1, 7, 1, 0, 0), (2, 3, 31, 2, 8, 6), (5, 1, 0, 2, 0, 0), (6, 1, 0, 1, 0, 0), (7, 3, 31, 5, 5, 8), (10, 1, 7, 0, 0, 0), (11, 1, 55, 0, 0, 0), (12, 1, 0, 2, 0, 0), (13, 1, 0, 1, 0, 0), (14, 3, 31, 1, 5, 13), (17, 1, 7, 1, 0, 0), (18, 1, 55, 0, 0, 0), (19, 1, 0, 2, 0, 0), (20, 1, 7, 1, 0, 0), (21, 3, 31, 0, 10, 21), (24, 1, 0, 2, 0, 0), (25, 1, 0, 1, 0, 0), (26, 1, 7, 1, 0, 0), (27, 1, 11, 0, 0, 0), (28, 3, 31, 1, 13, 25), (31, 1, 1, 0, 0, 0), (32, 3, 40, 1, 0, 56), (35, 3, 40, 3, 1, 5), (38, 3, 34, 0, 18, 32), (41, 1, 1, 0, 0, 0), (42, 3, 40, 1, 0, 56), (45, 3, 40, 3, 1, 5), (48, 1, 1, 0, 0, 0), (49, 3, 40, 1, 0, 56), (52, 3, 40, 3, 1, 5), (55, 1, 12, 0, 0, 0), (56, 1, 55, 0, 0, 0)]
set_option maxRecDepth 100000 in
theorem dk77 : (told k77).map (fun r => decode prog_3_method_5_code r.1) = (told k77).map (fun r => .ok (toI r, r.2.1)) := by decide +kernel
theorem ok77 : okK 77 k77 = true := by decide +kernel
-- 78: SkewRings$Divisors.hits(LSkewRings$Poly;IILSkewRings$Poly;LSkewRings$Poly;)Z
noncomputable def k78 : List Rw := [(0, 1, 0, 2, 0, 0), (1, 1, 1, 1, 0, 0), (2, 3, 40, 6, 1, 29), (5, 3, 31, 1, 30, 18), (8, 2, 1, 4, 0, 0), (10, 1, 1, 1, 0, 0), (11, 3, 54, 24, 61, 204), (14, 1, 1, 0, 0, 0), (15, 3, 40, 1, 1, 57), (18, 2, 1, 4, 0, 0), (20, 1, 7, 0, 0, 0), (21, 3, 54, 46, 65, 205), (24, 2, 1, 5, 0, 0), (26, 1, 1, 1, 0, 0), (27, 3, 54, 26, 71, 206), (30, 3, 54, 27, 75, 207), (33, 1, 7, 1, 0, 0), (34, 1, 55, 0, 0, 0), (35, 1, 0, 2, 0, 0), (36, 1, 7, 1, 0, 0), (37, 3, 31, 5, 69, 56), (40, 1, 0, 2, 0, 0), (41, 1, 1, 1, 0, 0), (42, 3, 40, 6, 1, 29), (45, 1, 7, 1, 0, 0), (46, 1, 11, 0, 0, 0), (47, 3, 31, 1, 59, 56), (50, 2, 1, 5, 0, 0), (52, 1, 7, 1, 0, 0), (53, 3, 54, 33, 79, 208), (56, 2, 1, 5, 0, 0), (58, 1, 7, 1, 0, 0), (59, 1, 1, 1, 0, 0), (60, 3, 54, 26, 71, 206), (63, 3, 54, 23, 82, 209), (66, 2, 1, 5, 0, 0), (68, 1, 7, 0, 0, 0), (69, 1, 0, 3, 0, 0), (70, 3, 54, 23, 82, 209), (73, 1, 1, 0, 0, 0), (74, 3, 40, 1, 1, 57), (77, 1, 1, 1, 0, 0), (78, 2, 1, 5, 0, 0), (80, 1, 7, 1, 0, 0), (81, 2, 1, 4, 0, 0), (83, 1, 1, 0, 0, 0), (84, 3, 40, 1, 2, 58), (87, 3, 54, 42, 86, 210), (90, 1, 1, 0, 0, 0), (91, 3, 40, 1, 2, 58), (94, 3, 40, 6, 1, 29), (97, 3, 30, 3, 7, 54), (100, 1, 7, 1, 0, 0), (101, 3, 34, 0, 4, 55), (104, 1, 7, 0, 0, 0), (105, 1, 55, 0, 0, 0), (106, 2, 1, 4, 0, 0), (108, 1, 0, 2, 0, 0), (109, 3, 54, 33, 79, 208), (112, 2, 1, 4, 0, 0), (114, 1, 7, 0, 0, 0), (115, 1, 1, 0, 0, 0), (116, 3, 40, 1, 0, 56), (119, 3, 40, 3, 1, 5), (122, 3, 30, 5, 15, 71), (125, 1, 0, 3, 0, 0), (126, 1, 1, 0, 0, 0), (127, 3, 40, 1, 0, 56), (130, 3, 40, 3, 1, 5), (133, 1, 14, 0, 0, 0), (134, 3, 34, 0, 4, 72), (137, 1, 7, 0, 0, 0), (138, 3, 54, 23, 82, 209), (141, 1, 0, 2, 0, 0), (142, 1, 7, 1, 0, 0), (143, 3, 31, 5, 32, 90), (146, 2, 1, 4, 0, 0), (148, 1, 7, 1, 0, 0), (149, 1, 1, 0, 0, 0), (150, 3, 40, 1, 0, 56), (153, 3, 40, 3, 1, 5), (156, 3, 30, 5, 15, 88), (159, 1, 0, 3, 0, 0), (160, 1, 1, 0, 0, 0), (161, 3, 40, 1, 0, 56), (164, 3, 40, 3, 1, 5), (167, 1, 13, 0, 0, 0), (168, 3, 34, 0, 4, 89), (171, 1, 7, 0, 0, 0), (172, 3, 54, 23, 82, 209), (175, 1, 1, 0, 0, 0), (176, 3, 40, 1, 1, 57), (179, 1, 1, 1, 0, 0), (180, 2, 1, 4, 0, 0), (182, 1, 7, 0, 0, 0), (183, 2, 1, 5, 0, 0), (185, 1, 1, 0, 0, 0), (186, 3, 40, 1, 2, 58), (189, 3, 54, 42, 86, 210), (192, 1, 1, 0, 0, 0), (193, 3, 40, 1, 2, 58), (196, 3, 40, 6, 1, 29), (199, 3, 30, 3, 7, 105), (202, 1, 7, 1, 0, 0), (203, 3, 34, 0, 4, 106), (206, 1, 7, 0, 0, 0), (207, 1, 55, 0, 0, 0)]
set_option maxRecDepth 100000 in
theorem dk78 : (told k78).map (fun r => decode prog_3_method_6_code r.1) = (told k78).map (fun r => .ok (toI r, r.2.1)) := by decide +kernel
theorem ok78 : okK 78 k78 = true := by decide +kernel
-- 79: SkewRings$Divisors.isPrime(LSkewRings$Poly;)Z
noncomputable def k79 : List Rw := [(0, 1, 7, 1, 0, 0), (1, 1, 3, 2, 0, 0), (2, 1, 0, 2, 0, 0), (3, 1, 1, 1, 0, 0), (4, 3, 40, 6, 1, 29), (7, 3, 31, 3, 50, 31), (10, 1, 7, 0, 0, 0), (11, 1, 3, 3, 0, 0), (12, 1, 0, 3, 0, 0), (13, 1, 1, 0, 0, 0), (14, 1, 1, 1, 0, 0), (15, 3, 40, 6, 1, 29), (18, 1, 0, 2, 0, 0), (19, 3, 54, 77, 90, 202), (22, 3, 31, 3, 29, 29), (25, 1, 1, 0, 0, 0), (26, 1, 1, 1, 0, 0), (27, 1, 0, 2, 0, 0), (28, 1, 0, 3, 0, 0), (29, 1, 1, 0, 0, 0), (30, 3, 40, 1, 3, 59), (33, 1, 1, 0, 0, 0), (34, 3, 40, 1, 4, 60), (37, 3, 54, 78, 94, 203), (40, 3, 30, 0, 5, 27), (43, 1, 7, 0, 0, 0), (44, 1, 55, 0, 0, 0), (45, 3, 6, 3, 1, 0), (48, 3, 34, 0, -36, 8), (51, 3, 6, 2, 1, 0), (54, 3, 34, 0, -52, 2), (57, 1, 1, 1, 0, 0), (58, 3, 40, 6, 1, 29), (61, 3, 30, 5, 7, 36), (64, 1, 7, 1, 0, 0), (65, 3, 34, 0, 4, 37), (68, 1, 7, 0, 0, 0), (69, 1, 55, 0, 0, 0)]
set_option maxRecDepth 100000 in
theorem dk79 : (told k79).map (fun r => decode prog_3_method_8_code r.1) = (told k79).map (fun r => .ok (toI r, r.2.1)) := by decide +kernel
theorem ok79 : okK 79 k79 = true := by decide +kernel
-- 80: SkewRings$Divisors.split(LSkewRings$Poly;)I
noncomputable def k80 : List Rw := [(0, 1, 1, 0, 0, 0), (1, 1, 7, 0, 0, 0), (2, 3, 41, 1, 9, 65), (5, 1, 1, 0, 0, 0), (6, 3, 40, 1, 5, 61), (9, 1, 1, 1, 0, 0), (10, 3, 54, 24, 61, 204), (13, 1, 7, 0, 0, 0), (14, 1, 3, 2, 0, 0), (15, 1, 0, 2, 0, 0), (16, 1, 7, 4, 0, 0), (17, 3, 31, 3, 108, 64), (20, 1, 1, 0, 0, 0), (21, 3, 40, 1, 5, 61), (24, 3, 40, 6, 1, 29), (27, 3, 30, 5, 98, 64), (30, 1, 1, 0, 0, 0), (31, 3, 40, 1, 8, 64), (34, 1, 0, 2, 0, 0), (35, 3, 54, 81, 49, 216), (38, 1, 4, 3, 0, 0), (39, 1, 1, 3, 0, 0), (40, 3, 33, 0, 8, 26), (43, 1, 1, 0, 0, 0), (44, 3, 40, 1, 9, 65), (47, 1, 55, 0, 0, 0), (48, 1, 7, 1, 0, 0), (49, 2, 3, 4, 0, 0), (51, 2, 0, 4, 0, 0), (53, 1, 7, 4, 0, 0), (54, 3, 31, 4, 23, 40), (57, 1, 1, 0, 0, 0), (58, 1, 1, 0, 0, 0), (59, 3, 40, 1, 5, 61), (62, 2, 0, 4, 0, 0), (64, 1, 1, 3, 0, 0), (65, 3, 54, 76, 102, 217), (68, 3, 30, 1, 9, 40), (71, 3, 6, 4, 1, 0), (74, 3, 34, 0, -23, 28), (77, 1, 1, 0, 0, 0), (78, 3, 40, 1, 1, 57), (81, 1, 1, 0, 0, 0), (82, 3, 40, 1, 5, 61), (85, 1, 1, 3, 0, 0), (86, 1, 7, 0, 0, 0), (87, 1, 1, 0, 0, 0), (88, 3, 40, 1, 4, 60), (91, 1, 1, 0, 0, 0), (92, 3, 40, 1, 2, 58), (95, 3, 54, 42, 86, 210), (98, 1, 1, 0, 0, 0), (99, 3, 40, 1, 5, 61), (102, 1, 1, 0, 0, 0), (103, 3, 40, 1, 4, 60), (106, 3, 54, 24, 61, 204), (109, 1, 1, 0, 0, 0), (110, 1, 25, 0, 0, 0), (111, 3, 40, 1, 9, 65), (114, 1, 7, 1, 0, 0), (115, 1, 10, 0, 0, 0), (116, 3, 41, 1, 9, 65), (119, 3, 6, 2, 1, 0), (122, 3, 34, 0, -107, 9), (125, 1, 1, 0, 0, 0), (126, 3, 40, 1, 9, 65), (129, 1, 55, 0, 0, 0)]
set_option maxRecDepth 100000 in
theorem dk80 : (told k80).map (fun r => decode prog_3_method_9_code r.1) = (told k80).map (fun r => .ok (toI r, r.2.1)) := by decide +kernel
theorem ok80 : okK 80 k80 = true := by decide +kernel
-- 81: SkewRings$Divisors.polyAt([LSkewRings$Poly;I)LSkewRings$Poly;
noncomputable def k81 : List Rw := [(0, 1, 0, 1, 0, 0), (1, 3, 30, 2, 15, 10), (4, 1, 0, 1, 0, 0), (5, 1, 1, 0, 0, 0), (6, 1, 42, 0, 0, 0), (7, 3, 31, 3, 9, 10), (10, 1, 1, 0, 0, 0), (11, 1, 0, 1, 0, 0), (12, 1, 49, 0, 0, 0), (13, 3, 34, 0, 4, 11), (16, 1, 9, 0, 0, 0), (17, 1, 57, 0, 0, 0)]
set_option maxRecDepth 100000 in
theorem dk81 : (told k81).map (fun r => decode prog_3_method_4_code r.1) = (told k81).map (fun r => .ok (toI r, r.2.1)) := by decide +kernel
theorem ok81 : okK 81 k81 = true := by decide +kernel
-- 82: SkewRings$Divisors.factorAt(I)LSkewRings$Poly;
noncomputable def k82 : List Rw := [(0, 1, 0, 1, 0, 0), (1, 1, 7, 1, 0, 0), (2, 3, 31, 2, 27, 15), (5, 1, 0, 1, 0, 0), (6, 1, 1, 0, 0, 0), (7, 3, 40, 1, 9, 65), (10, 3, 31, 4, 19, 15), (13, 1, 1, 0, 0, 0), (14, 3, 40, 1, 8, 64), (17, 1, 1, 0, 0, 0), (18, 3, 40, 1, 9, 65), (21, 1, 0, 1, 0, 0), (22, 1, 11, 0, 0, 0), (23, 3, 54, 81, 49, 216), (26, 3, 34, 0, 4, 16), (29, 1, 9, 0, 0, 0), (30, 1, 57, 0, 0, 0)]
set_option maxRecDepth 100000 in
theorem dk82 : (told k82).map (fun r => decode prog_3_method_3_code r.1) = (told k82).map (fun r => .ok (toI r, r.2.1)) := by decide +kernel
theorem ok82 : okK 82 k82 = true := by decide +kernel
-- 83: SkewRings$Divisors.waysFrom(LSkewRings$Poly;I)I
noncomputable def k83 : List Rw := [(0, 1, 1, 1, 0, 0), (1, 3, 40, 6, 1, 29), (4, 1, 7, 2, 0, 0), (5, 3, 31, 2, 8, 7), (8, 1, 0, 2, 0, 0), (9, 1, 7, 4, 0, 0), (10, 3, 31, 2, 5, 9), (13, 1, 7, 1, 0, 0), (14, 1, 55, 0, 0, 0), (15, 1, 1, 0, 0, 0), (16, 3, 40, 1, 6, 62), (19, 1, 0, 2, 0, 0), (20, 3, 54, 81, 49, 216), (23, 1, 4, 3, 0, 0), (24, 1, 1, 0, 0, 0), (25, 3, 40, 1, 7, 63), (28, 1, 0, 2, 0, 0), (29, 3, 54, 81, 49, 216), (32, 2, 4, 4, 0, 0), (34, 1, 1, 3, 0, 0), (35, 3, 32, 0, 8, 23), (38, 2, 1, 4, 0, 0), (40, 3, 33, 0, 5, 25), (43, 1, 7, 0, 0, 0), (44, 1, 55, 0, 0, 0), (45, 1, 7, 0, 0, 0), (46, 2, 3, 5, 0, 0), (48, 1, 7, 1, 0, 0), (49, 2, 3, 6, 0, 0), (51, 2, 0, 6, 0, 0), (53, 1, 1, 1, 0, 0), (54, 3, 40, 6, 1, 29), (57, 3, 31, 4, 70, 67), (60, 1, 7, 0, 0, 0), (61, 2, 3, 7, 0, 0), (63, 2, 0, 7, 0, 0), (65, 1, 1, 0, 0, 0), (66, 1, 1, 1, 0, 0), (67, 3, 40, 6, 1, 29), (70, 2, 0, 6, 0, 0), (72, 3, 54, 77, 90, 202), (75, 3, 31, 3, 46, 65), (78, 1, 1, 0, 0, 0), (79, 1, 1, 1, 0, 0), (80, 2, 0, 6, 0, 0), (82, 2, 0, 7, 0, 0), (84, 1, 1, 3, 0, 0), (85, 2, 1, 4, 0, 0), (87, 3, 54, 78, 94, 203), (90, 3, 30, 0, 25, 63), (93, 1, 1, 0, 0, 0), (94, 1, 1, 3, 0, 0), (95, 3, 54, 79, 106, 221), (98, 3, 30, 0, 17, 63), (101, 2, 0, 5, 0, 0), (103, 1, 1, 0, 0, 0), (104, 2, 1, 4, 0, 0), (106, 1, 0, 2, 0, 0), (107, 1, 7, 1, 0, 0), (108, 1, 10, 0, 0, 0), (109, 3, 54, 83, 110, 222), (112, 1, 10, 0, 0, 0), (113, 2, 3, 5, 0, 0), (115, 3, 6, 7, 1, 0), (118, 3, 34, 0, -55, 35), (121, 3, 6, 6, 1, 0), (124, 3, 34, 0, -73, 29), (127, 2, 0, 5, 0, 0), (129, 1, 55, 0, 0, 0)]
set_option maxRecDepth 100000 in
theorem dk83 : (told k83).map (fun r => decode prog_3_method_10_code r.1) = (told k83).map (fun r => .ok (toI r, r.2.1)) := by decide +kernel
theorem ok83 : okK 83 k83 = true := by decide +kernel
-- 84: SkewRings$Span.<init>(LSkewRings$Field;)V
noncomputable def k84 : List Rw := [(0, 1, 1, 0, 0, 0), (1, 3, 59, 0, 1, 8), (4, 1, 1, 0, 0, 0), (5, 3, 7, 544, 0, 0), (8, 2, 52, 10, 0, 0), (10, 3, 41, 8, 1, 68), (13, 1, 1, 0, 0, 0), (14, 3, 7, 289, 0, 0), (17, 2, 52, 10, 0, 0), (19, 3, 41, 8, 2, 69), (22, 1, 1, 0, 0, 0), (23, 2, 7, 17, 0, 0), (25, 2, 52, 10, 0, 0), (27, 3, 41, 8, 3, 70), (30, 1, 1, 0, 0, 0), (31, 1, 1, 1, 0, 0), (32, 3, 41, 8, 0, 67), (35, 1, 56, 0, 0, 0)]
set_option maxRecDepth 100000 in
theorem dk84 : (told k84).map (fun r => decode prog_10_method_1_code r.1) = (told k84).map (fun r => .ok (toI r, r.2.1)) := by decide +kernel
theorem ok84 : okK 84 k84 = true := by decide +kernel
-- 85: SkewRings$Span.start()V
noncomputable def k85 : List Rw := [(0, 1, 1, 0, 0, 0), (1, 1, 7, 0, 0, 0), (2, 3, 41, 8, 4, 71), (5, 1, 1, 0, 0, 0), (6, 1, 7, 0, 0, 0), (7, 3, 41, 8, 5, 72), (10, 1, 56, 0, 0, 0)]
set_option maxRecDepth 100000 in
theorem dk85 : (told k85).map (fun r => decode prog_10_method_2_code r.1) = (told k85).map (fun r => .ok (toI r, r.2.1)) := by decide +kernel
theorem ok85 : okK 85 k85 = true := by decide +kernel
-- 86: SkewRings$Span.depends(LSkewRings$Poly;I)Z
noncomputable def k86 : List Rw := [(0, 1, 1, 0, 0, 0), (1, 3, 40, 8, 4, 71), (4, 2, 7, 17, 0, 0), (6, 3, 31, 3, 12, 8), (9, 1, 1, 0, 0, 0), (10, 3, 40, 8, 5, 72), (13, 2, 7, 17, 0, 0), (15, 3, 31, 2, 5, 10), (18, 1, 7, 1, 0, 0), (19, 1, 55, 0, 0, 0), (20, 1, 1, 0, 0, 0), (21, 1, 1, 1, 0, 0), (22, 1, 0, 2, 0, 0), (23, 3, 54, 87, 30, 246), (26, 1, 7, 0, 0, 0), (27, 1, 3, 3, 0, 0), (28, 1, 0, 3, 0, 0), (29, 2, 7, 17, 0, 0), (31, 3, 31, 3, 38, 37), (34, 1, 1, 0, 0, 0), (35, 3, 40, 8, 2, 69), (38, 1, 1, 0, 0, 0), (39, 3, 40, 8, 4, 71), (42, 2, 7, 17, 0, 0), (44, 1, 12, 0, 0, 0), (45, 1, 0, 3, 0, 0), (46, 1, 10, 0, 0, 0), (47, 1, 0, 3, 0, 0), (48, 1, 1, 0, 0, 0), (49, 3, 40, 8, 5, 72), (52, 3, 31, 1, 7, 33), (55, 1, 7, 1, 0, 0), (56, 3, 34, 0, 4, 34), (59, 1, 7, 0, 0, 0), (60, 3, 54, 88, 34, 247), (63, 3, 6, 3, 1, 0), (66, 3, 34, 0, -38, 16), (69, 1, 1, 0, 0, 0), (70, 1, 25, 0, 0, 0), (71, 3, 40, 8, 5, 72), (74, 1, 7, 1, 0, 0), (75, 1, 10, 0, 0, 0), (76, 3, 41, 8, 5, 72), (79, 1, 7, 0, 0, 0), (80, 1, 3, 3, 0, 0), (81, 1, 0, 3, 0, 0), (82, 1, 1, 0, 0, 0), (83, 3, 40, 8, 4, 71), (86, 3, 31, 3, 65, 80), (89, 1, 1, 0, 0, 0), (90, 3, 40, 8, 1, 68), (93, 1, 1, 0, 0, 0), (94, 3, 40, 8, 4, 71), (97, 2, 7, 32, 0, 0), (99, 1, 12, 0, 0, 0), (100, 1, 1, 0, 0, 0), (101, 3, 40, 8, 3, 70), (104, 1, 0, 3, 0, 0), (105, 3, 54, 89, 38, 249), (108, 1, 10, 0, 0, 0), (109, 3, 54, 89, 38, 249), (112, 2, 3, 4, 0, 0), (114, 2, 0, 4, 0, 0), (116, 3, 30, 0, 29, 78), (119, 1, 1, 0, 0, 0), (120, 1, 1, 0, 0, 0), (121, 3, 40, 8, 1, 68), (124, 2, 7, 32, 0, 0), (126, 1, 0, 3, 0, 0), (127, 2, 0, 4, 0, 0), (129, 3, 54, 90, 42, 250), (132, 1, 1, 0, 0, 0), (133, 1, 1, 0, 0, 0), (134, 3, 40, 8, 2, 69), (137, 2, 7, 17, 0, 0), (139, 1, 0, 3, 0, 0), (140, 2, 0, 4, 0, 0), (142, 3, 54, 90, 42, 250), (145, 3, 6, 3, 1, 0), (148, 3, 34, 0, -67, 45), (151, 1, 1, 0, 0, 0), (152, 3, 54, 91, 46, 251), (155, 3, 30, 1, 7, 85), (158, 1, 7, 1, 0, 0), (159, 3, 34, 0, 4, 86), (162, 1, 7, 0, 0, 0), (163, 1, 55, 0, 0, 0)]
set_option maxRecDepth 100000 in
theorem dk86 : (told k86).map (fun r => decode prog_10_method_3_code r.1) = (told k86).map (fun r => .ok (toI r, r.2.1)) := by decide +kernel
theorem ok86 : okK 86 k86 = true := by decide +kernel
-- 87: SkewRings$Span.writeDigits(LSkewRings$Poly;I)V
noncomputable def k87 : List Rw := [(0, 1, 7, 0, 0, 0), (1, 1, 3, 3, 0, 0), (2, 1, 0, 3, 0, 0), (3, 2, 7, 32, 0, 0), (5, 3, 31, 3, 26, 17), (8, 1, 1, 0, 0, 0), (9, 3, 40, 8, 1, 68), (12, 1, 1, 0, 0, 0), (13, 3, 40, 8, 4, 71), (16, 2, 7, 32, 0, 0), (18, 1, 12, 0, 0, 0), (19, 1, 0, 3, 0, 0), (20, 1, 10, 0, 0, 0), (21, 1, 7, 0, 0, 0), (22, 3, 54, 88, 34, 247), (25, 3, 6, 3, 1, 0), (28, 3, 34, 0, -26, 2), (31, 1, 1, 0, 0, 0), (32, 3, 40, 8, 4, 71), (35, 2, 7, 32, 0, 0), (37, 1, 12, 0, 0, 0), (38, 1, 3, 3, 0, 0), (39, 1, 7, 0, 0, 0), (40, 2, 3, 4, 0, 0), (42, 2, 0, 4, 0, 0), (44, 1, 0, 2, 0, 0), (45, 3, 31, 3, 81, 62), (48, 1, 1, 1, 0, 0), (49, 2, 0, 4, 0, 0), (51, 3, 54, 25, 50, 248), (54, 2, 3, 5, 0, 0), (56, 1, 7, 0, 0, 0), (57, 2, 3, 6, 0, 0), (59, 2, 0, 6, 0, 0), (61, 1, 1, 0, 0, 0), (62, 3, 40, 8, 0, 67), (65, 3, 40, 3, 3, 15), (68, 3, 31, 3, 52, 60), (71, 1, 1, 0, 0, 0), (72, 3, 40, 8, 0, 67), (75, 3, 40, 3, 2, 9), (78, 3, 30, 5, 42, 60), (81, 1, 1, 0, 0, 0), (82, 3, 40, 8, 1, 68), (85, 1, 0, 3, 0, 0), (86, 2, 0, 5, 0, 0), (88, 1, 1, 0, 0, 0), (89, 3, 40, 8, 0, 67), (92, 3, 40, 3, 2, 9), (95, 1, 14, 0, 0, 0), (96, 3, 54, 88, 34, 247), (99, 2, 0, 5, 0, 0), (101, 1, 1, 0, 0, 0), (102, 3, 40, 8, 0, 67), (105, 3, 40, 3, 2, 9), (108, 1, 13, 0, 0, 0), (109, 2, 3, 5, 0, 0), (111, 3, 6, 3, 1, 0), (114, 3, 6, 6, 1, 0), (117, 3, 34, 0, -58, 33), (120, 3, 6, 4, 1, 0), (123, 3, 34, 0, -81, 24), (126, 1, 56, 0, 0, 0)]
set_option maxRecDepth 100000 in
theorem dk87 : (told k87).map (fun r => decode prog_10_method_4_code r.1) = (told k87).map (fun r => .ok (toI r, r.2.1)) := by decide +kernel
theorem ok87 : okK 87 k87 = true := by decide +kernel
-- 88: SkewRings$Span.set([III)V
noncomputable def k88 : List Rw := [(0, 1, 0, 1, 0, 0), (1, 3, 30, 2, 13, 10), (4, 1, 0, 1, 0, 0), (5, 1, 1, 0, 0, 0), (6, 1, 42, 0, 0, 0), (7, 3, 31, 3, 7, 10), (10, 1, 1, 0, 0, 0), (11, 1, 0, 1, 0, 0), (12, 1, 0, 2, 0, 0), (13, 1, 44, 0, 0, 0), (14, 1, 56, 0, 0, 0)]
set_option maxRecDepth 100000 in
theorem dk88 : (told k88).map (fun r => decode prog_10_method_8_code r.1) = (told k88).map (fun r => .ok (toI r, r.2.1)) := by decide +kernel
theorem ok88 : okK 88 k88 = true := by decide +kernel
-- 89: SkewRings$Span.get([II)I
noncomputable def k89 : List Rw := [(0, 1, 0, 1, 0, 0), (1, 3, 30, 2, 15, 10), (4, 1, 0, 1, 0, 0), (5, 1, 1, 0, 0, 0), (6, 1, 42, 0, 0, 0), (7, 3, 31, 3, 9, 10), (10, 1, 1, 0, 0, 0), (11, 1, 0, 1, 0, 0), (12, 1, 43, 0, 0, 0), (13, 3, 34, 0, 4, 11), (16, 1, 7, 0, 0, 0), (17, 1, 55, 0, 0, 0)]
set_option maxRecDepth 100000 in
theorem dk89 : (told k89).map (fun r => decode prog_10_method_7_code r.1) = (told k89).map (fun r => .ok (toI r, r.2.1)) := by decide +kernel
theorem ok89 : okK 89 k89 = true := by decide +kernel
-- 90: SkewRings$Span.take([IIII)V
noncomputable def k90 : List Rw := [(0, 1, 1, 0, 0, 0), (1, 3, 40, 8, 4, 71), (4, 1, 0, 2, 0, 0), (5, 1, 12, 0, 0, 0), (6, 2, 3, 5, 0, 0), (8, 1, 7, 0, 0, 0), (9, 2, 3, 6, 0, 0), (11, 2, 0, 6, 0, 0), (13, 1, 0, 2, 0, 0), (14, 3, 31, 3, 71, 46), (17, 1, 1, 0, 0, 0), (18, 3, 40, 8, 0, 67), (21, 3, 40, 3, 2, 9), (24, 3, 30, 5, 61, 46), (27, 1, 1, 0, 0, 0), (28, 3, 40, 8, 0, 67), (31, 3, 40, 3, 2, 9), (34, 2, 0, 4, 0, 0), (36, 1, 11, 0, 0, 0), (37, 1, 1, 1, 0, 0), (38, 1, 0, 3, 0, 0), (39, 1, 0, 2, 0, 0), (40, 1, 12, 0, 0, 0), (41, 2, 0, 6, 0, 0), (43, 1, 10, 0, 0, 0), (44, 3, 54, 89, 38, 249), (47, 1, 12, 0, 0, 0), (48, 2, 3, 7, 0, 0), (50, 1, 1, 1, 0, 0), (51, 2, 0, 5, 0, 0), (53, 2, 0, 6, 0, 0), (55, 1, 10, 0, 0, 0), (56, 1, 1, 1, 0, 0), (57, 2, 0, 5, 0, 0), (59, 2, 0, 6, 0, 0), (61, 1, 10, 0, 0, 0), (62, 3, 54, 89, 38, 249), (65, 2, 0, 7, 0, 0), (67, 1, 10, 0, 0, 0), (68, 1, 1, 0, 0, 0), (69, 3, 40, 8, 0, 67), (72, 3, 40, 3, 2, 9), (75, 1, 14, 0, 0, 0), (76, 3, 54, 88, 34, 247), (79, 3, 6, 6, 1, 0), (82, 3, 34, 0, -71, 7), (85, 1, 56, 0, 0, 0)]
set_option maxRecDepth 100000 in
theorem dk90 : (told k90).map (fun r => decode prog_10_method_9_code r.1) = (told k90).map (fun r => .ok (toI r, r.2.1)) := by decide +kernel
theorem ok90 : okK 90 k90 = true := by decide +kernel
-- 91: SkewRings$Span.settles()Z
noncomputable def k91 : List Rw := [(0, 1, 7, 0, 0, 0), (1, 1, 3, 1, 0, 0), (2, 1, 0, 1, 0, 0), (3, 2, 7, 32, 0, 0), (5, 3, 31, 3, 28, 17), (8, 1, 1, 0, 0, 0), (9, 3, 40, 8, 1, 68), (12, 1, 1, 0, 0, 0), (13, 3, 40, 8, 4, 71), (16, 2, 7, 32, 0, 0), (18, 1, 12, 0, 0, 0), (19, 1, 0, 1, 0, 0), (20, 1, 10, 0, 0, 0), (21, 3, 54, 89, 38, 249), (24, 3, 30, 1, 9, 17), (27, 3, 6, 1, 1, 0), (30, 3, 34, 0, -28, 2), (33, 1, 0, 1, 0, 0), (34, 2, 7, 32, 0, 0), (36, 3, 31, 1, 5, 22), (39, 1, 7, 0, 0, 0), (40, 1, 55, 0, 0, 0), (41, 1, 1, 0, 0, 0), (42, 3, 40, 8, 1, 68), (45, 1, 1, 0, 0, 0), (46, 3, 40, 8, 4, 71), (49, 2, 7, 32, 0, 0), (51, 1, 12, 0, 0, 0), (52, 1, 0, 1, 0, 0), (53, 1, 10, 0, 0, 0), (54, 3, 54, 89, 38, 249), (57, 1, 3, 2, 0, 0), (58, 1, 1, 0, 0, 0), (59, 1, 1, 0, 0, 0), (60, 3, 40, 8, 1, 68), (63, 2, 7, 32, 0, 0), (65, 1, 0, 2, 0, 0), (66, 3, 54, 92, 64, 252), (69, 1, 1, 0, 0, 0), (70, 1, 1, 0, 0, 0), (71, 3, 40, 8, 2, 69), (74, 2, 7, 17, 0, 0), (76, 1, 0, 2, 0, 0), (77, 3, 54, 92, 64, 252), (80, 1, 1, 0, 0, 0), (81, 3, 40, 8, 3, 70), (84, 1, 1, 0, 0, 0), (85, 3, 40, 8, 4, 71), (88, 1, 0, 1, 0, 0), (89, 3, 54, 88, 34, 247), (92, 1, 1, 0, 0, 0), (93, 1, 25, 0, 0, 0), (94, 3, 40, 8, 4, 71), (97, 1, 7, 1, 0, 0), (98, 1, 10, 0, 0, 0), (99, 3, 41, 8, 4, 71), (102, 1, 7, 1, 0, 0), (103, 1, 55, 0, 0, 0)]
set_option maxRecDepth 100000 in
theorem dk91 : (told k91).map (fun r => decode prog_10_method_5_code r.1) = (told k91).map (fun r => .ok (toI r, r.2.1)) := by decide +kernel
theorem ok91 : okK 91 k91 = true := by decide +kernel
-- 92: SkewRings$Span.multiply([III)V
noncomputable def k92 : List Rw := [(0, 1, 1, 0, 0, 0), (1, 3, 40, 8, 4, 71), (4, 1, 0, 2, 0, 0), (5, 1, 12, 0, 0, 0), (6, 2, 3, 4, 0, 0), (8, 1, 7, 0, 0, 0), (9, 2, 3, 5, 0, 0), (11, 2, 0, 5, 0, 0), (13, 1, 0, 2, 0, 0), (14, 3, 31, 3, 47, 32), (17, 1, 1, 0, 0, 0), (18, 3, 40, 8, 0, 67), (21, 3, 40, 3, 2, 9), (24, 3, 30, 5, 37, 32), (27, 1, 1, 1, 0, 0), (28, 2, 0, 4, 0, 0), (30, 2, 0, 5, 0, 0), (32, 1, 10, 0, 0, 0), (33, 1, 1, 1, 0, 0), (34, 2, 0, 4, 0, 0), (36, 2, 0, 5, 0, 0), (38, 1, 10, 0, 0, 0), (39, 3, 54, 89, 38, 249), (42, 1, 0, 3, 0, 0), (43, 1, 12, 0, 0, 0), (44, 1, 1, 0, 0, 0), (45, 3, 40, 8, 0, 67), (48, 3, 40, 3, 2, 9), (51, 1, 14, 0, 0, 0), (52, 3, 54, 88, 34, 247), (55, 3, 6, 5, 1, 0), (58, 3, 34, 0, -47, 7), (61, 1, 56, 0, 0, 0)]
set_option maxRecDepth 100000 in
theorem dk92 : (told k92).map (fun r => decode prog_10_method_10_code r.1) = (told k92).map (fun r => .ok (toI r, r.2.1)) := by decide +kernel
theorem ok92 : okK 92 k92 = true := by decide +kernel
-- 93: SkewRings$Span.relationAt(I)I
noncomputable def k93 : List Rw := [(0, 1, 0, 1, 0, 0), (1, 3, 30, 2, 28, 15), (4, 1, 0, 1, 0, 0), (5, 2, 7, 17, 0, 0), (7, 3, 31, 3, 22, 15), (10, 1, 1, 0, 0, 0), (11, 3, 40, 8, 2, 69), (14, 1, 1, 0, 0, 0), (15, 3, 40, 8, 4, 71), (18, 2, 7, 17, 0, 0), (20, 1, 12, 0, 0, 0), (21, 1, 0, 1, 0, 0), (22, 1, 10, 0, 0, 0), (23, 3, 54, 89, 38, 249), (26, 3, 34, 0, 4, 16), (29, 1, 7, 0, 0, 0), (30, 1, 55, 0, 0, 0)]
set_option maxRecDepth 100000 in
theorem dk93 : (told k93).map (fun r => decode prog_10_method_6_code r.1) = (told k93).map (fun r => .ok (toI r, r.2.1)) := by decide +kernel
theorem ok93 : okK 93 k93 = true := by decide +kernel
-- 94: SkewRings$Likeness.<init>(LSkewRings$Field;LSkewRings$Ring;LSkewRings$Span;)V
noncomputable def k94 : List Rw := [(0, 1, 1, 0, 0, 0), (1, 3, 59, 0, 3, 9), (4, 1, 1, 0, 0, 0), (5, 3, 51, 6, 9, 14), (8, 1, 25, 0, 0, 0), (9, 3, 54, 21, 11, 14), (12, 3, 41, 4, 3, 76), (15, 1, 1, 0, 0, 0), (16, 3, 51, 6, 9, 14), (19, 1, 25, 0, 0, 0), (20, 3, 54, 21, 11, 14), (23, 3, 41, 4, 4, 77), (26, 1, 1, 0, 0, 0), (27, 3, 51, 6, 9, 14), (30, 1, 25, 0, 0, 0), (31, 3, 54, 21, 11, 14), (34, 3, 41, 4, 5, 78), (37, 1, 1, 0, 0, 0), (38, 2, 7, 16, 0, 0), (40, 3, 53, 0, 9, 14), (43, 3, 41, 4, 6, 79), (46, 1, 1, 0, 0, 0), (47, 2, 7, 16, 0, 0), (49, 2, 52, 10, 0, 0), (51, 3, 41, 4, 7, 80), (54, 1, 1, 0, 0, 0), (55, 3, 7, 256, 0, 0), (58, 2, 52, 10, 0, 0), (60, 3, 41, 4, 8, 81), (63, 1, 1, 0, 0, 0), (64, 3, 51, 6, 9, 14), (67, 1, 25, 0, 0, 0), (68, 3, 54, 21, 11, 14), (71, 3, 41, 4, 9, 82), (74, 1, 1, 0, 0, 0), (75, 1, 1, 1, 0, 0), (76, 3, 41, 4, 0, 73), (79, 1, 1, 0, 0, 0), (80, 1, 1, 2, 0, 0), (81, 3, 41, 4, 1, 74), (84, 1, 1, 0, 0, 0), (85, 1, 1, 3, 0, 0), (86, 3, 41, 4, 2, 75), (89, 1, 7, 0, 0, 0), (90, 2, 3, 4, 0, 0), (92, 2, 0, 4, 0, 0), (94, 1, 1, 0, 0, 0), (95, 3, 40, 4, 6, 79), (98, 1, 42, 0, 0, 0), (99, 3, 31, 3, 23, 59), (102, 1, 1, 0, 0, 0), (103, 3, 40, 4, 6, 79), (106, 2, 0, 4, 0, 0), (108, 3, 51, 6, 9, 14), (111, 1, 25, 0, 0, 0), (112, 3, 54, 21, 11, 14), (115, 1, 50, 0, 0, 0), (116, 3, 6, 4, 1, 0), (119, 3, 34, 0, -27, 45), (122, 1, 56, 0, 0, 0)]
set_option maxRecDepth 100000 in
theorem dk94 : (told k94).map (fun r => decode prog_6_method_1_code r.1) = (told k94).map (fun r => .ok (toI r, r.2.1)) := by decide +kernel
theorem ok94 : okK 94 k94 = true := by decide +kernel
-- 95: SkewRings$Likeness.kin(LSkewRings$Poly;)I
noncomputable def k95 : List Rw := [(0, 1, 7, 0, 0, 0), (1, 1, 3, 2, 0, 0), (2, 1, 0, 2, 0, 0), (3, 1, 1, 0, 0, 0), (4, 3, 40, 4, 8, 81), (7, 1, 42, 0, 0, 0), (8, 3, 31, 3, 16, 14), (11, 1, 1, 0, 0, 0), (12, 3, 40, 4, 8, 81), (15, 1, 0, 2, 0, 0), (16, 1, 7, 0, 0, 0), (17, 1, 44, 0, 0, 0), (18, 3, 6, 2, 1, 0), (21, 3, 34, 0, -19, 2), (24, 1, 7, 0, 0, 0), (25, 1, 3, 2, 0, 0), (26, 1, 1, 1, 0, 0), (27, 3, 40, 6, 1, 28), (30, 1, 7, 1, 0, 0), (31, 3, 31, 1, 13, 24), (34, 1, 1, 0, 0, 0), (35, 3, 40, 4, 0, 73), (38, 3, 40, 3, 1, 6), (41, 3, 34, 0, 18, 31), (44, 1, 1, 0, 0, 0), (45, 3, 40, 4, 0, 73), (48, 3, 40, 3, 1, 6), (51, 1, 1, 0, 0, 0), (52, 3, 40, 4, 0, 73), (55, 3, 40, 3, 1, 6), (58, 1, 12, 0, 0, 0), (59, 1, 3, 3, 0, 0), (60, 1, 7, 1, 0, 0), (61, 2, 3, 4, 0, 0), (63, 2, 0, 4, 0, 0), (65, 1, 0, 3, 0, 0), (66, 3, 31, 3, 113, 90), (69, 1, 1, 0, 0, 0), (70, 3, 40, 4, 0, 73), (73, 3, 40, 3, 1, 6), (76, 3, 30, 5, 103, 90), (79, 1, 1, 0, 0, 0), (80, 3, 40, 4, 9, 82), (83, 2, 0, 4, 0, 0), (85, 1, 1, 0, 0, 0), (86, 3, 40, 4, 0, 73), (89, 3, 40, 3, 1, 6), (92, 1, 14, 0, 0, 0), (93, 3, 54, 27, 125, 225), (96, 1, 1, 0, 0, 0), (97, 3, 40, 4, 9, 82), (100, 1, 7, 1, 0, 0), (101, 2, 0, 4, 0, 0), (103, 1, 1, 0, 0, 0), (104, 3, 40, 4, 0, 73), (107, 3, 40, 3, 1, 6), (110, 1, 13, 0, 0, 0), (111, 3, 54, 23, 94, 226), (114, 1, 1, 1, 0, 0), (115, 3, 40, 6, 1, 28), (118, 1, 7, 1, 0, 0), (119, 3, 31, 1, 11, 66), (122, 1, 1, 0, 0, 0), (123, 1, 1, 1, 0, 0), (124, 3, 54, 96, 128, 227), (127, 3, 34, 0, 8, 69), (130, 1, 1, 0, 0, 0), (131, 1, 1, 1, 0, 0), (132, 3, 54, 97, 132, 232), (135, 2, 3, 5, 0, 0), (137, 2, 0, 5, 0, 0), (139, 3, 30, 2, 34, 88), (142, 2, 0, 5, 0, 0), (144, 1, 1, 0, 0, 0), (145, 3, 40, 4, 8, 81), (148, 1, 42, 0, 0, 0), (149, 3, 31, 3, 24, 88), (152, 1, 1, 0, 0, 0), (153, 3, 40, 4, 8, 81), (156, 2, 0, 5, 0, 0), (158, 1, 43, 0, 0, 0), (159, 3, 30, 1, 14, 88), (162, 1, 1, 0, 0, 0), (163, 3, 40, 4, 8, 81), (166, 2, 0, 5, 0, 0), (168, 1, 7, 1, 0, 0), (169, 1, 44, 0, 0, 0), (170, 3, 6, 2, 1, 0), (173, 3, 6, 4, 1, 0), (176, 3, 34, 0, -113, 34), (179, 1, 0, 2, 0, 0), (180, 1, 55, 0, 0, 0)]
set_option maxRecDepth 100000 in
theorem dk95 : (told k95).map (fun r => decode prog_6_method_7_code r.1) = (told k95).map (fun r => .ok (toI r, r.2.1)) := by decide +kernel
theorem ok95 : okK 95 k95 = true := by decide +kernel
-- 96: SkewRings$Likeness.linearKin(LSkewRings$Poly;)I
noncomputable def k96 : List Rw := [(0, 1, 1, 0, 0, 0), (1, 3, 40, 4, 9, 82), (4, 1, 7, 0, 0, 0), (5, 3, 54, 25, 135, 228), (8, 1, 3, 2, 0, 0), (9, 1, 1, 0, 0, 0), (10, 3, 40, 4, 1, 74), (13, 1, 1, 0, 0, 0), (14, 3, 40, 4, 9, 82), (17, 1, 1, 1, 0, 0), (18, 3, 54, 51, 138, 229), (21, 1, 1, 0, 0, 0), (22, 3, 40, 4, 0, 73), (25, 1, 1, 0, 0, 0), (26, 3, 40, 4, 0, 73), (29, 1, 1, 0, 0, 0), (30, 3, 40, 4, 9, 82), (33, 1, 7, 0, 0, 0), (34, 3, 54, 25, 135, 228), (37, 1, 0, 2, 0, 0), (38, 3, 54, 18, 141, 230), (41, 3, 54, 20, 145, 231), (44, 1, 55, 0, 0, 0)]
set_option maxRecDepth 100000 in
theorem dk96 : (told k96).map (fun r => decode prog_6_method_8_code r.1) = (told k96).map (fun r => .ok (toI r, r.2.1)) := by decide +kernel
theorem ok96 : okK 96 k96 = true := by decide +kernel
-- 97: SkewRings$Likeness.quadraticKin(LSkewRings$Poly;)I
noncomputable def k97 : List Rw := [(0, 1, 1, 0, 0, 0), (1, 3, 40, 4, 9, 82), (4, 1, 7, 0, 0, 0), (5, 3, 54, 25, 135, 228), (8, 1, 3, 2, 0, 0), (9, 1, 1, 0, 0, 0), (10, 3, 40, 4, 9, 82), (13, 1, 7, 1, 0, 0), (14, 3, 54, 25, 135, 228), (17, 1, 3, 3, 0, 0), (18, 1, 1, 0, 0, 0), (19, 3, 40, 4, 1, 74), (22, 1, 1, 0, 0, 0), (23, 3, 40, 4, 9, 82), (26, 1, 1, 1, 0, 0), (27, 3, 54, 51, 138, 229), (30, 1, 1, 0, 0, 0), (31, 3, 40, 4, 9, 82), (34, 1, 7, 0, 0, 0), (35, 3, 54, 25, 135, 228), (38, 2, 3, 4, 0, 0), (40, 1, 1, 0, 0, 0), (41, 3, 40, 4, 9, 82), (44, 1, 7, 1, 0, 0), (45, 3, 54, 25, 135, 228), (48, 2, 3, 5, 0, 0), (50, 1, 1, 0, 0, 0), (51, 3, 40, 4, 1, 74), (54, 1, 1, 0, 0, 0), (55, 3, 40, 4, 9, 82), (58, 1, 1, 1, 0, 0), (59, 3, 54, 51, 138, 229), (62, 1, 1, 0, 0, 0), (63, 1, 0, 2, 0, 0), (64, 1, 0, 3, 0, 0), (65, 2, 0, 4, 0, 0), (67, 2, 0, 5, 0, 0), (69, 3, 54, 98, 148, 233), (72, 2, 3, 6, 0, 0), (74, 2, 0, 6, 0, 0), (76, 3, 30, 1, 5, 43), (79, 1, 7, -1, 0, 0), (80, 1, 55, 0, 0, 0), (81, 1, 1, 0, 0, 0), (82, 3, 40, 4, 0, 73), (85, 1, 1, 0, 0, 0), (86, 2, 0, 4, 0, 0), (88, 2, 0, 5, 0, 0), (90, 1, 1, 0, 0, 0), (91, 3, 40, 4, 9, 82), (94, 1, 7, 0, 0, 0), (95, 3, 54, 25, 135, 228), (98, 1, 1, 0, 0, 0), (99, 3, 40, 4, 9, 82), (102, 1, 7, 1, 0, 0), (103, 3, 54, 25, 135, 228), (106, 3, 54, 98, 148, 233), (109, 2, 0, 6, 0, 0), (111, 3, 54, 18, 141, 230), (114, 2, 3, 7, 0, 0), (116, 1, 1, 0, 0, 0), (117, 3, 40, 4, 0, 73), (120, 1, 1, 0, 0, 0), (121, 1, 1, 0, 0, 0), (122, 3, 40, 4, 9, 82), (125, 1, 7, 0, 0, 0), (126, 3, 54, 25, 135, 228), (129, 1, 1, 0, 0, 0), (130, 3, 40, 4, 9, 82), (133, 1, 7, 1, 0, 0), (134, 3, 54, 25, 135, 228), (137, 1, 0, 2, 0, 0), (138, 1, 0, 3, 0, 0), (139, 3, 54, 98, 148, 233), (142, 2, 0, 6, 0, 0), (144, 3, 54, 18, 141, 230), (147, 2, 3, 8, 0, 0), (149, 2, 0, 8, 0, 0), (151, 1, 1, 0, 0, 0), (152, 3, 40, 4, 0, 73), (155, 3, 40, 3, 1, 6), (158, 1, 12, 0, 0, 0), (159, 2, 0, 7, 0, 0), (161, 1, 10, 0, 0, 0), (162, 1, 55, 0, 0, 0)]
set_option maxRecDepth 100000 in
theorem dk97 : (told k97).map (fun r => decode prog_6_method_9_code r.1) = (told k97).map (fun r => .ok (toI r, r.2.1)) := by decide +kernel
theorem ok97 : okK 97 k97 = true := by decide +kernel
-- 98: SkewRings$Likeness.cross(IIII)I
noncomputable def k98 : List Rw := [(0, 1, 1, 0, 0, 0), (1, 3, 40, 4, 0, 73), (4, 1, 1, 0, 0, 0), (5, 3, 40, 4, 0, 73), (8, 1, 0, 1, 0, 0), (9, 2, 0, 4, 0, 0), (11, 3, 54, 7, 152, 234), (14, 1, 1, 0, 0, 0), (15, 3, 40, 4, 0, 73), (18, 1, 0, 2, 0, 0), (19, 1, 0, 3, 0, 0), (20, 3, 54, 7, 152, 234), (23, 3, 54, 19, 154, 235), (26, 1, 55, 0, 0, 0)]
set_option maxRecDepth 100000 in
theorem dk98 : (told k98).map (fun r => decode prog_6_method_10_code r.1) = (told k98).map (fun r => .ok (toI r, r.2.1)) := by decide +kernel
theorem ok98 : okK 98 k98 = true := by decide +kernel
-- 99: SkewRings$Likeness.findWay(LSkewRings$Poly;LSkewRings$Poly;)Z
noncomputable def k99 : List Rw := [(0, 1, 1, 0, 0, 0), (1, 1, 1, 1, 0, 0), (2, 1, 1, 2, 0, 0), (3, 3, 54, 100, 52, 238), (6, 1, 7, 1, 0, 0), (7, 1, 3, 3, 0, 0), (8, 1, 0, 3, 0, 0), (9, 1, 1, 0, 0, 0), (10, 3, 40, 4, 11, 85), (13, 3, 31, 3, 30, 23), (16, 1, 1, 0, 0, 0), (17, 3, 54, 102, 60, 255), (20, 1, 1, 0, 0, 0), (21, 3, 40, 4, 1, 74), (24, 1, 1, 0, 0, 0), (25, 3, 40, 4, 9, 82), (28, 1, 1, 2, 0, 0), (29, 3, 54, 52, 63, 257), (32, 3, 30, 0, 5, 21), (35, 1, 7, 1, 0, 0), (36, 1, 55, 0, 0, 0), (37, 3, 6, 3, 1, 0), (40, 3, 34, 0, -32, 6), (43, 1, 7, 0, 0, 0), (44, 1, 55, 0, 0, 0)]
set_option maxRecDepth 100000 in
theorem dk99 : (told k99).map (fun r => decode prog_6_method_2_code r.1) = (told k99).map (fun r => .ok (toI r, r.2.1)) := by decide +kernel
theorem ok99 : okK 99 k99 = true := by decide +kernel
-- 100: SkewRings$Likeness.gather(LSkewRings$Poly;LSkewRings$Poly;)V
noncomputable def k100 : List Rw := [(0, 1, 1, 0, 0, 0), (1, 1, 7, 0, 0, 0), (2, 3, 41, 4, 10, 84), (5, 1, 1, 0, 0, 0), (6, 1, 7, 1, 0, 0), (7, 3, 41, 4, 11, 85), (10, 1, 1, 0, 0, 0), (11, 3, 40, 4, 9, 82), (14, 3, 54, 22, 72, 239), (17, 1, 1, 0, 0, 0), (18, 3, 40, 4, 2, 75), (21, 3, 54, 85, 75, 240), (24, 1, 7, 0, 0, 0), (25, 1, 3, 3, 0, 0), (26, 1, 0, 3, 0, 0), (27, 1, 1, 2, 0, 0), (28, 3, 40, 6, 1, 28), (31, 3, 31, 3, 118, 72), (34, 1, 7, 0, 0, 0), (35, 2, 3, 4, 0, 0), (37, 2, 0, 4, 0, 0), (39, 1, 1, 0, 0, 0), (40, 3, 40, 4, 0, 73), (43, 3, 40, 3, 3, 14), (46, 3, 31, 3, 97, 70), (49, 1, 1, 0, 0, 0), (50, 3, 40, 4, 4, 77), (53, 1, 0, 3, 0, 0), (54, 3, 54, 33, 86, 241), (57, 1, 1, 0, 0, 0), (58, 3, 40, 4, 4, 77), (61, 1, 0, 3, 0, 0), (62, 1, 1, 0, 0, 0), (63, 3, 40, 4, 0, 73), (66, 2, 0, 4, 0, 0), (68, 3, 54, 9, 90, 242), (71, 3, 54, 23, 94, 226), (74, 1, 1, 0, 0, 0), (75, 3, 40, 4, 1, 74), (78, 1, 1, 1, 0, 0), (79, 1, 1, 0, 0, 0), (80, 3, 40, 4, 4, 77), (83, 1, 1, 0, 0, 0), (84, 3, 40, 4, 4, 77), (87, 3, 54, 41, 98, 243), (90, 1, 1, 0, 0, 0), (91, 3, 40, 4, 1, 74), (94, 1, 1, 0, 0, 0), (95, 3, 40, 4, 4, 77), (98, 1, 1, 2, 0, 0), (99, 1, 7, 0, 0, 0), (100, 1, 1, 0, 0, 0), (101, 3, 40, 4, 3, 76), (104, 1, 1, 0, 0, 0), (105, 3, 40, 4, 5, 78), (108, 3, 54, 42, 102, 244), (111, 1, 1, 0, 0, 0), (112, 3, 40, 4, 2, 75), (115, 1, 1, 0, 0, 0), (116, 3, 40, 4, 5, 78), (119, 1, 1, 2, 0, 0), (120, 3, 40, 6, 1, 28), (123, 3, 54, 86, 106, 245), (126, 3, 30, 0, 11, 68), (129, 1, 1, 0, 0, 0), (130, 1, 1, 2, 0, 0), (131, 3, 40, 6, 1, 28), (134, 3, 54, 101, 110, 253), (137, 3, 6, 4, 1, 0), (140, 3, 34, 0, -103, 20), (143, 3, 6, 3, 1, 0), (146, 3, 34, 0, -120, 14), (149, 1, 56, 0, 0, 0)]
set_option maxRecDepth 100000 in
theorem dk100 : (told k100).map (fun r => decode prog_6_method_4_code r.1) = (told k100).map (fun r => .ok (toI r, r.2.1)) := by decide +kernel
theorem ok100 : okK 100 k100 = true := by decide +kernel
-- 101: SkewRings$Likeness.addToBase(I)V
noncomputable def k101 : List Rw := [(0, 1, 1, 0, 0, 0), (1, 3, 40, 4, 10, 84), (4, 3, 30, 2, 27, 15), (7, 1, 1, 0, 0, 0), (8, 3, 40, 4, 10, 84), (11, 1, 1, 0, 0, 0), (12, 3, 40, 4, 6, 79), (15, 1, 42, 0, 0, 0), (16, 3, 31, 3, 15, 15), (19, 1, 1, 0, 0, 0), (20, 3, 40, 4, 6, 79), (23, 1, 1, 0, 0, 0), (24, 3, 40, 4, 10, 84), (27, 1, 49, 0, 0, 0), (28, 3, 34, 0, 4, 16), (31, 1, 9, 0, 0, 0), (32, 1, 4, 2, 0, 0), (33, 1, 1, 2, 0, 0), (34, 3, 33, 0, 4, 20), (37, 1, 56, 0, 0, 0), (38, 1, 1, 2, 0, 0), (39, 3, 54, 22, 72, 239), (42, 1, 7, 0, 0, 0), (43, 1, 3, 3, 0, 0), (44, 1, 0, 3, 0, 0), (45, 1, 0, 1, 0, 0), (46, 3, 31, 3, 74, 62), (49, 1, 7, 0, 0, 0), (50, 2, 3, 4, 0, 0), (52, 1, 7, 0, 0, 0), (53, 2, 3, 5, 0, 0), (55, 2, 0, 5, 0, 0), (57, 1, 1, 0, 0, 0), (58, 3, 40, 4, 0, 73), (61, 3, 40, 3, 3, 14), (64, 3, 31, 3, 43, 56), (67, 2, 0, 4, 0, 0), (69, 1, 1, 0, 0, 0), (70, 3, 40, 4, 2, 75), (73, 1, 0, 3, 0, 0), (74, 1, 1, 0, 0, 0), (75, 3, 40, 4, 0, 73), (78, 3, 40, 3, 3, 14), (81, 1, 12, 0, 0, 0), (82, 2, 0, 5, 0, 0), (84, 1, 10, 0, 0, 0), (85, 3, 54, 93, 113, 254), (88, 1, 1, 0, 0, 0), (89, 3, 40, 4, 0, 73), (92, 2, 0, 5, 0, 0), (94, 3, 54, 9, 90, 242), (97, 1, 12, 0, 0, 0), (98, 1, 10, 0, 0, 0), (99, 2, 3, 4, 0, 0), (101, 3, 6, 5, 1, 0), (104, 3, 34, 0, -49, 31), (107, 1, 1, 2, 0, 0), (108, 1, 0, 3, 0, 0), (109, 2, 0, 4, 0, 0), (111, 3, 54, 23, 94, 226), (114, 3, 6, 3, 1, 0), (117, 3, 34, 0, -73, 24), (120, 1, 1, 0, 0, 0), (121, 3, 40, 4, 7, 80), (124, 1, 1, 0, 0, 0), (125, 3, 40, 4, 10, 84), (128, 1, 7, 0, 0, 0), (129, 1, 44, 0, 0, 0), (130, 1, 1, 0, 0, 0), (131, 1, 25, 0, 0, 0), (132, 3, 40, 4, 10, 84), (135, 1, 7, 1, 0, 0), (136, 1, 10, 0, 0, 0), (137, 3, 41, 4, 10, 84), (140, 1, 1, 0, 0, 0), (141, 1, 25, 0, 0, 0), (142, 3, 40, 4, 11, 85), (145, 1, 1, 0, 0, 0), (146, 3, 40, 4, 0, 73), (149, 3, 40, 3, 2, 10), (152, 1, 12, 0, 0, 0), (153, 3, 41, 4, 11, 85), (156, 1, 56, 0, 0, 0)]
set_option maxRecDepth 100000 in
theorem dk101 : (told k101).map (fun r => decode prog_6_method_5_code r.1) = (told k101).map (fun r => .ok (toI r, r.2.1)) := by decide +kernel
theorem ok101 : okK 101 k101 = true := by decide +kernel
-- 102: SkewRings$Likeness.advance()V
noncomputable def k102 : List Rw := [(0, 1, 7, 0, 0, 0), (1, 1, 3, 1, 0, 0), (2, 1, 0, 1, 0, 0), (3, 1, 1, 0, 0, 0), (4, 3, 40, 4, 10, 84), (7, 3, 31, 3, 79, 50), (10, 1, 0, 1, 0, 0), (11, 1, 1, 0, 0, 0), (12, 3, 40, 4, 7, 80), (15, 1, 42, 0, 0, 0), (16, 3, 31, 3, 70, 50), (19, 1, 1, 0, 0, 0), (20, 3, 40, 4, 6, 79), (23, 1, 0, 1, 0, 0), (24, 1, 49, 0, 0, 0), (25, 1, 4, 2, 0, 0), (26, 1, 1, 2, 0, 0), (27, 3, 32, 0, 19, 26), (30, 1, 1, 0, 0, 0), (31, 3, 40, 4, 1, 74), (34, 1, 1, 0, 0, 0), (35, 3, 40, 4, 9, 82), (38, 1, 1, 2, 0, 0), (39, 1, 1, 0, 0, 0), (40, 3, 40, 4, 9, 82), (43, 3, 54, 37, 119, 256), (46, 1, 1, 0, 0, 0), (47, 3, 40, 4, 7, 80), (50, 1, 0, 1, 0, 0), (51, 1, 28, 0, 0, 0), (52, 1, 43, 0, 0, 0), (53, 1, 7, 1, 0, 0), (54, 1, 10, 0, 0, 0), (55, 1, 44, 0, 0, 0), (56, 1, 1, 0, 0, 0), (57, 3, 40, 4, 7, 80), (60, 1, 0, 1, 0, 0), (61, 1, 43, 0, 0, 0), (62, 1, 1, 0, 0, 0), (63, 3, 40, 4, 0, 73), (66, 3, 40, 3, 2, 10), (69, 3, 31, 3, 4, 43), (72, 1, 56, 0, 0, 0), (73, 1, 1, 0, 0, 0), (74, 3, 40, 4, 7, 80), (77, 1, 0, 1, 0, 0), (78, 1, 7, 0, 0, 0), (79, 1, 44, 0, 0, 0), (80, 3, 6, 1, 1, 0), (83, 3, 34, 0, -81, 2), (86, 1, 56, 0, 0, 0)]
set_option maxRecDepth 100000 in
theorem dk102 : (told k102).map (fun r => decode prog_6_method_6_code r.1) = (told k102).map (fun r => .ok (toI r, r.2.1)) := by decide +kernel
theorem ok102 : okK 102 k102 = true := by decide +kernel
-- 103: SkewRings$Likeness.countWays(LSkewRings$Poly;LSkewRings$Poly;)I
noncomputable def k103 : List Rw := [(0, 1, 1, 0, 0, 0), (1, 1, 1, 1, 0, 0), (2, 1, 1, 2, 0, 0), (3, 3, 54, 100, 52, 238), (6, 1, 7, 0, 0, 0), (7, 1, 3, 3, 0, 0), (8, 1, 7, 1, 0, 0), (9, 2, 3, 4, 0, 0), (11, 2, 0, 4, 0, 0), (13, 1, 1, 0, 0, 0), (14, 3, 40, 4, 11, 85), (17, 3, 31, 3, 31, 24), (20, 1, 1, 0, 0, 0), (21, 3, 54, 102, 60, 255), (24, 1, 1, 0, 0, 0), (25, 3, 40, 4, 1, 74), (28, 1, 1, 0, 0, 0), (29, 3, 40, 4, 9, 82), (32, 1, 1, 2, 0, 0), (33, 3, 54, 52, 63, 257), (36, 3, 30, 0, 6, 22), (39, 3, 6, 3, 1, 0), (42, 3, 6, 4, 1, 0), (45, 3, 34, 0, -34, 8), (48, 1, 0, 3, 0, 0), (49, 1, 55, 0, 0, 0)]
-- 104: SkewRings$Centre.<init>(LSkewRings$Field;LSkewRings$Ring;LSkewRings$Span;)V
noncomputable def k104 : List Rw := [(0, 1, 1, 0, 0, 0), (1, 3, 59, 0, 3, 10), (4, 1, 1, 0, 0, 0), (5, 3, 51, 6, 9, 16), (8, 1, 25, 0, 0, 0), (9, 3, 54, 21, 11, 16), (12, 3, 41, 0, 3, 90), (15, 1, 1, 0, 0, 0), (16, 1, 1, 1, 0, 0), (17, 3, 41, 0, 0, 87), (20, 1, 1, 0, 0, 0), (21, 1, 1, 2, 0, 0), (22, 3, 41, 0, 1, 88), (25, 1, 1, 0, 0, 0), (26, 1, 1, 3, 0, 0), (27, 3, 41, 0, 2, 89), (30, 1, 56, 0, 0, 0)]
set_option maxRecDepth 100000 in
theorem dk104 : (told k104).map (fun r => decode prog_2_method_1_code r.1) = (told k104).map (fun r => .ok (toI r, r.2.1)) := by decide +kernel
theorem ok104 : okK 104 k104 = true := by decide +kernel
-- 105: SkewRings$Centre.holds(LSkewRings$Poly;)Z
noncomputable def k105 : List Rw := [(0, 1, 7, 0, 0, 0), (1, 1, 3, 2, 0, 0), (2, 1, 0, 2, 0, 0), (3, 1, 1, 1, 0, 0), (4, 3, 40, 6, 1, 24), (7, 3, 31, 4, 54, 31), (10, 1, 1, 0, 0, 0), (11, 3, 40, 0, 0, 87), (14, 3, 40, 3, 3, 12), (17, 3, 30, 5, 44, 31), (20, 1, 1, 1, 0, 0), (21, 1, 0, 2, 0, 0), (22, 3, 54, 25, 39, 263), (25, 1, 3, 3, 0, 0), (26, 1, 0, 3, 0, 0), (27, 1, 1, 0, 0, 0), (28, 3, 40, 0, 0, 87), (31, 3, 40, 3, 2, 7), (34, 3, 31, 3, 19, 27), (37, 1, 0, 3, 0, 0), (38, 3, 30, 0, 17, 29), (41, 1, 0, 2, 0, 0), (42, 1, 1, 0, 0, 0), (43, 3, 40, 0, 0, 87), (46, 3, 40, 3, 3, 12), (49, 1, 14, 0, 0, 0), (50, 3, 30, 0, 5, 29), (53, 1, 7, 0, 0, 0), (54, 1, 55, 0, 0, 0), (55, 3, 6, 2, 1, 0), (58, 3, 34, 0, -56, 2), (61, 1, 7, 1, 0, 0), (62, 1, 55, 0, 0, 0)]
set_option maxRecDepth 100000 in
theorem dk105 : (told k105).map (fun r => decode prog_2_method_2_code r.1) = (told k105).map (fun r => .ok (toI r, r.2.1)) := by decide +kernel
theorem ok105 : okK 105 k105 = true := by decide +kernel
-- 106: SkewRings$Centre.boundOf(LSkewRings$Poly;)I
noncomputable def k106 : List Rw := [(0, 1, 1, 0, 0, 0), (1, 3, 40, 0, 2, 89), (4, 3, 54, 85, 46, 266), (7, 1, 1, 0, 0, 0), (8, 3, 40, 0, 1, 88), (11, 1, 1, 0, 0, 0), (12, 3, 40, 0, 3, 90), (15, 1, 1, 1, 0, 0), (16, 3, 54, 50, 51, 267), (19, 1, 7, 0, 0, 0), (20, 1, 3, 2, 0, 0), (21, 1, 0, 2, 0, 0), (22, 2, 7, 8, 0, 0), (24, 3, 31, 4, 60, 41), (27, 1, 1, 0, 0, 0), (28, 3, 40, 0, 2, 89), (31, 1, 1, 0, 0, 0), (32, 3, 40, 0, 3, 90), (35, 1, 1, 1, 0, 0), (36, 3, 40, 6, 1, 24), (39, 3, 54, 86, 57, 268), (42, 3, 30, 0, 5, 24), (45, 1, 0, 2, 0, 0), (46, 1, 55, 0, 0, 0), (47, 1, 7, 0, 0, 0), (48, 1, 3, 3, 0, 0), (49, 1, 0, 3, 0, 0), (50, 1, 1, 0, 0, 0), (51, 3, 40, 0, 0, 87), (54, 3, 40, 3, 3, 12), (57, 3, 31, 3, 21, 39), (60, 1, 1, 0, 0, 0), (61, 3, 40, 0, 1, 88), (64, 1, 1, 0, 0, 0), (65, 3, 40, 0, 3, 90), (68, 1, 1, 1, 0, 0), (69, 3, 54, 51, 61, 269), (72, 3, 6, 3, 1, 0), (75, 3, 34, 0, -26, 26), (78, 3, 6, 2, 1, 0), (81, 3, 34, 0, -60, 11), (84, 2, 7, 8, 0, 0), (86, 1, 55, 0, 0, 0)]
set_option maxRecDepth 100000 in
theorem dk106 : (told k106).map (fun r => decode prog_2_method_3_code r.1) = (told k106).map (fun r => .ok (toI r, r.2.1)) := by decide +kernel
theorem ok106 : okK 106 k106 = true := by decide +kernel
-- 107: SkewRings$Centre.greatestPart(LSkewRings$Poly;LSkewRings$Poly;)V
noncomputable def k107 : List Rw := [(0, 1, 1, 0, 0, 0), (1, 3, 40, 0, 0, 87), (4, 3, 40, 3, 3, 12), (7, 3, 30, 5, 18, 11), (10, 1, 1, 1, 0, 0), (11, 3, 40, 6, 1, 24), (14, 1, 1, 0, 0, 0), (15, 3, 40, 0, 0, 87), (18, 3, 40, 3, 3, 12), (21, 1, 13, 0, 0, 0), (22, 3, 34, 0, 4, 12), (25, 1, 7, 0, 0, 0), (26, 1, 3, 3, 0, 0), (27, 1, 0, 3, 0, 0), (28, 3, 30, 5, 76, 51), (31, 1, 7, 1, 0, 0), (32, 2, 3, 4, 0, 0), (34, 1, 7, 0, 0, 0), (35, 2, 3, 5, 0, 0), (37, 2, 0, 5, 0, 0), (39, 1, 0, 3, 0, 0), (40, 3, 31, 3, 21, 30), (43, 2, 0, 4, 0, 0), (45, 1, 1, 0, 0, 0), (46, 3, 40, 0, 0, 87), (49, 3, 40, 3, 2, 7), (52, 1, 12, 0, 0, 0), (53, 2, 3, 4, 0, 0), (55, 3, 6, 5, 1, 0), (58, 3, 34, 0, -21, 19), (61, 1, 7, 0, 0, 0), (62, 2, 3, 5, 0, 0), (64, 2, 0, 5, 0, 0), (66, 2, 0, 4, 0, 0), (68, 3, 31, 3, 30, 49), (71, 1, 1, 0, 0, 0), (72, 1, 1, 2, 0, 0), (73, 1, 0, 3, 0, 0), (74, 2, 0, 5, 0, 0), (76, 3, 54, 108, 64, 273), (79, 1, 1, 0, 0, 0), (80, 3, 40, 0, 1, 88), (83, 1, 1, 2, 0, 0), (84, 1, 1, 1, 0, 0), (85, 3, 54, 53, 68, 276), (88, 3, 30, 0, 4, 47), (91, 1, 56, 0, 0, 0), (92, 3, 6, 5, 1, 0), (95, 3, 34, 0, -31, 32), (98, 3, 6, 3, -1, 0), (101, 3, 34, 0, -74, 13), (104, 1, 1, 2, 0, 0), (105, 1, 7, 1, 0, 0), (106, 3, 54, 27, 72, 277), (109, 1, 56, 0, 0, 0)]
set_option maxRecDepth 100000 in
theorem dk107 : (told k107).map (fun r => decode prog_2_method_4_code r.1) = (told k107).map (fun r => .ok (toI r, r.2.1)) := by decide +kernel
theorem ok107 : okK 107 k107 = true := by decide +kernel
-- 108: SkewRings$Centre.becomeCentral(LSkewRings$Poly;II)V
noncomputable def k108 : List Rw := [(0, 1, 1, 1, 0, 0), (1, 1, 0, 2, 0, 0), (2, 1, 1, 0, 0, 0), (3, 3, 40, 0, 0, 87), (6, 3, 40, 3, 3, 12), (9, 1, 12, 0, 0, 0), (10, 3, 54, 33, 76, 274), (13, 1, 0, 3, 0, 0), (14, 2, 3, 4, 0, 0), (16, 1, 7, 0, 0, 0), (17, 2, 3, 5, 0, 0), (19, 2, 0, 5, 0, 0), (21, 1, 0, 2, 0, 0), (22, 3, 31, 3, 55, 38), (25, 1, 1, 0, 0, 0), (26, 3, 40, 0, 0, 87), (29, 3, 40, 3, 2, 7), (32, 3, 30, 5, 45, 38), (35, 1, 1, 1, 0, 0), (36, 2, 0, 5, 0, 0), (38, 1, 1, 0, 0, 0), (39, 3, 40, 0, 0, 87), (42, 3, 40, 3, 3, 12), (45, 1, 12, 0, 0, 0), (46, 2, 0, 4, 0, 0), (48, 1, 1, 0, 0, 0), (49, 3, 40, 0, 0, 87), (52, 3, 40, 3, 2, 7), (55, 1, 14, 0, 0, 0), (56, 3, 54, 23, 79, 275), (59, 2, 0, 4, 0, 0), (61, 1, 1, 0, 0, 0), (62, 3, 40, 0, 0, 87), (65, 3, 40, 3, 2, 7), (68, 1, 13, 0, 0, 0), (69, 2, 3, 4, 0, 0), (71, 3, 6, 5, 1, 0), (74, 3, 34, 0, -55, 11), (77, 1, 56, 0, 0, 0)]
set_option maxRecDepth 100000 in
theorem dk108 : (told k108).map (fun r => decode prog_2_method_5_code r.1) = (told k108).map (fun r => .ok (toI r, r.2.1)) := by decide +kernel
theorem ok108 : okK 108 k108 = true := by decide +kernel
-- 109: SkewRings$Text.<init>()V
noncomputable def k109 : List Rw := [(0, 1, 1, 0, 0, 0), (1, 3, 59, 0, 3, 11), (4, 1, 1, 0, 0, 0), (5, 2, 7, 40, 0, 0), (7, 2, 52, 10, 0, 0), (9, 3, 41, 9, 0, 91), (12, 1, 1, 0, 0, 0), (13, 2, 7, 6, 0, 0), (15, 2, 52, 10, 0, 0), (17, 3, 41, 9, 1, 92), (20, 1, 1, 0, 0, 0), (21, 2, 7, 6, 0, 0), (23, 2, 52, 10, 0, 0), (25, 3, 41, 9, 2, 93), (28, 1, 56, 0, 0, 0)]
set_option maxRecDepth 100000 in
theorem dk109 : (told k109).map (fun r => decode prog_11_method_1_code r.1) = (told k109).map (fun r => .ok (toI r, r.2.1)) := by decide +kernel
theorem ok109 : okK 109 k109 = true := by decide +kernel
-- 110: SkewRings$Text.append(I)Z
noncomputable def k110 : List Rw := [(0, 1, 1, 0, 0, 0), (1, 3, 40, 9, 3, 94), (4, 1, 7, 4, 0, 0), (5, 1, 10, 0, 0, 0), (6, 1, 1, 0, 0, 0), (7, 3, 40, 9, 0, 91), (10, 1, 42, 0, 0, 0), (11, 3, 31, 5, 5, 10), (14, 1, 7, 0, 0, 0), (15, 1, 55, 0, 0, 0), (16, 2, 7, 24, 0, 0), (18, 1, 3, 2, 0, 0), (19, 1, 0, 2, 0, 0), (20, 3, 30, 2, 47, 38), (23, 1, 1, 0, 0, 0), (24, 3, 40, 9, 3, 94), (27, 1, 1, 0, 0, 0), (28, 3, 40, 9, 0, 91), (31, 1, 42, 0, 0, 0), (32, 3, 31, 3, 35, 38), (35, 1, 1, 0, 0, 0), (36, 3, 40, 9, 0, 91), (39, 1, 1, 0, 0, 0), (40, 3, 40, 9, 3, 94), (43, 1, 0, 1, 0, 0), (44, 1, 0, 2, 0, 0), (45, 1, 21, 0, 0, 0), (46, 3, 7, 255, 0, 0), (49, 1, 16, 0, 0, 0), (50, 1, 44, 0, 0, 0), (51, 1, 1, 0, 0, 0), (52, 1, 25, 0, 0, 0), (53, 3, 40, 9, 3, 94), (56, 1, 7, 1, 0, 0), (57, 1, 10, 0, 0, 0), (58, 3, 41, 9, 3, 94), (61, 3, 6, 2, -8, 0), (64, 3, 34, 0, -45, 12), (67, 1, 7, 1, 0, 0), (68, 1, 55, 0, 0, 0)]
set_option maxRecDepth 100000 in
theorem dk110 : (told k110).map (fun r => decode prog_11_method_2_code r.1) = (told k110).map (fun r => .ok (toI r, r.2.1)) := by decide +kernel
theorem ok110 : okK 110 k110 = true := by decide +kernel
-- 111: SkewRings$Text.cut(I)Z
noncomputable def k111 : List Rw := [(0, 1, 0, 1, 0, 0), (1, 3, 30, 2, 11, 6), (4, 1, 0, 1, 0, 0), (5, 1, 1, 0, 0, 0), (6, 3, 40, 9, 3, 94), (9, 3, 31, 5, 5, 8), (12, 1, 7, 0, 0, 0), (13, 1, 55, 0, 0, 0), (14, 1, 1, 0, 0, 0), (15, 1, 0, 1, 0, 0), (16, 3, 41, 9, 3, 94), (19, 1, 7, 1, 0, 0), (20, 1, 55, 0, 0, 0)]
set_option maxRecDepth 100000 in
theorem dk111 : (told k111).map (fun r => decode prog_11_method_3_code r.1) = (told k111).map (fun r => .ok (toI r, r.2.1)) := by decide +kernel
theorem ok111 : okK 111 k111 = true := by decide +kernel
-- 112: SkewRings$Text.readNumbers(ILSkewRings$Poly;)I
noncomputable def k112 : List Rw := [(0, 1, 1, 0, 0, 0), (1, 1, 7, 0, 0, 0), (2, 3, 41, 9, 5, 98), (5, 1, 1, 2, 0, 0), (6, 3, 54, 22, 39, 63), (9, 1, 7, 0, 0, 0), (10, 1, 3, 3, 0, 0), (11, 1, 0, 3, 0, 0), (12, 2, 7, 9, 0, 0), (14, 3, 31, 3, 82, 52), (17, 1, 1, 0, 0, 0), (18, 1, 0, 1, 0, 0), (19, 3, 54, 113, 44, 64), (22, 2, 3, 4, 0, 0), (24, 2, 0, 4, 0, 0), (26, 3, 30, 3, 8, 19), (29, 1, 1, 0, 0, 0), (30, 3, 40, 9, 6, 99), (33, 1, 55, 0, 0, 0), (34, 1, 1, 2, 0, 0), (35, 1, 0, 3, 0, 0), (36, 2, 0, 4, 0, 0), (38, 3, 54, 23, 47, 67), (41, 1, 1, 0, 0, 0), (42, 3, 40, 9, 5, 98), (45, 1, 1, 0, 0, 0), (46, 3, 40, 9, 3, 94), (49, 3, 31, 1, 5, 30), (52, 1, 7, -1, 0, 0), (53, 1, 55, 0, 0, 0), (54, 1, 1, 0, 0, 0), (55, 1, 1, 0, 0, 0), (56, 3, 40, 9, 5, 98), (59, 3, 54, 115, 25, 66), (62, 2, 7, 44, 0, 0), (64, 3, 31, 1, 11, 41), (67, 1, 0, 3, 0, 0), (68, 1, 7, 1, 0, 0), (69, 1, 10, 0, 0, 0), (70, 2, 7, 9, 0, 0), (72, 3, 31, 1, 8, 44), (75, 1, 1, 0, 0, 0), (76, 3, 40, 9, 5, 98), (79, 1, 55, 0, 0, 0), (80, 1, 1, 0, 0, 0), (81, 1, 25, 0, 0, 0), (82, 3, 40, 9, 5, 98), (85, 1, 7, 1, 0, 0), (86, 1, 10, 0, 0, 0), (87, 3, 41, 9, 5, 98), (90, 3, 6, 3, 1, 0), (93, 3, 34, 0, -82, 7), (96, 1, 1, 0, 0, 0), (97, 3, 40, 9, 5, 98), (100, 1, 55, 0, 0, 0)]
set_option maxRecDepth 100000 in
theorem dk112 : (told k112).map (fun r => decode prog_11_method_10_code r.1) = (told k112).map (fun r => .ok (toI r, r.2.1)) := by decide +kernel
theorem ok112 : okK 112 k112 = true := by decide +kernel
-- 113: SkewRings$Text.readNumber(I)I
noncomputable def k113 : List Rw := [(0, 1, 1, 0, 0, 0), (1, 1, 1, 0, 0, 0), (2, 3, 40, 9, 5, 98), (5, 3, 41, 9, 6, 99), (8, 1, 1, 0, 0, 0), (9, 1, 1, 0, 0, 0), (10, 3, 40, 9, 5, 98), (13, 3, 54, 114, 35, 65), (16, 3, 30, 1, 5, 11), (19, 1, 7, -1, 0, 0), (20, 1, 55, 0, 0, 0), (21, 1, 1, 0, 0, 0), (22, 1, 1, 0, 0, 0), (23, 3, 40, 9, 5, 98), (26, 3, 54, 115, 25, 66), (29, 2, 7, 48, 0, 0), (31, 1, 11, 0, 0, 0), (32, 1, 3, 2, 0, 0), (33, 1, 1, 0, 0, 0), (34, 1, 25, 0, 0, 0), (35, 3, 40, 9, 5, 98), (38, 1, 7, 1, 0, 0), (39, 1, 10, 0, 0, 0), (40, 3, 41, 9, 5, 98), (43, 1, 1, 0, 0, 0), (44, 1, 1, 0, 0, 0), (45, 3, 40, 9, 5, 98), (48, 3, 54, 114, 35, 65), (51, 3, 30, 0, 30, 46), (54, 1, 0, 2, 0, 0), (55, 2, 7, 10, 0, 0), (57, 1, 12, 0, 0, 0), (58, 1, 1, 0, 0, 0), (59, 1, 1, 0, 0, 0), (60, 3, 40, 9, 5, 98), (63, 3, 54, 115, 25, 66), (66, 1, 10, 0, 0, 0), (67, 2, 7, 48, 0, 0), (69, 1, 11, 0, 0, 0), (70, 1, 3, 2, 0, 0), (71, 1, 1, 0, 0, 0), (72, 1, 25, 0, 0, 0), (73, 3, 40, 9, 5, 98), (76, 1, 7, 1, 0, 0), (77, 1, 10, 0, 0, 0), (78, 3, 41, 9, 5, 98), (81, 1, 1, 0, 0, 0), (82, 1, 1, 0, 0, 0), (83, 1, 1, 0, 0, 0), (84, 3, 40, 9, 5, 98), (87, 3, 54, 114, 35, 65), (90, 3, 30, 0, 10, 55), (93, 1, 1, 0, 0, 0), (94, 3, 40, 9, 5, 98), (97, 3, 34, 0, 9, 59), (100, 1, 1, 0, 0, 0), (101, 3, 40, 9, 5, 98), (104, 1, 7, 1, 0, 0), (105, 1, 11, 0, 0, 0), (106, 3, 41, 9, 6, 99), (109, 1, 1, 0, 0, 0), (110, 1, 1, 0, 0, 0), (111, 3, 40, 9, 5, 98), (114, 3, 54, 114, 35, 65), (117, 3, 30, 1, 8, 68), (120, 1, 0, 2, 0, 0), (121, 1, 0, 1, 0, 0), (122, 3, 31, 2, 7, 70), (125, 1, 7, -1, 0, 0), (126, 3, 34, 0, 4, 71), (129, 1, 0, 2, 0, 0), (130, 1, 55, 0, 0, 0)]
set_option maxRecDepth 100000 in
theorem dk113 : (told k113).map (fun r => decode prog_11_method_9_code r.1) = (told k113).map (fun r => .ok (toI r, r.2.1)) := by decide +kernel
theorem ok113 : okK 113 k113 = true := by decide +kernel
-- 114: SkewRings$Text.isDigit(I)Z
noncomputable def k114 : List Rw := [(0, 1, 1, 0, 0, 0), (1, 1, 0, 1, 0, 0), (2, 3, 54, 115, 25, 66), (5, 2, 7, 48, 0, 0), (7, 3, 31, 2, 17, 12), (10, 1, 1, 0, 0, 0), (11, 1, 0, 1, 0, 0), (12, 3, 54, 115, 25, 66), (15, 2, 7, 57, 0, 0), (17, 3, 31, 4, 7, 12), (20, 1, 7, 1, 0, 0), (21, 3, 34, 0, 4, 13), (24, 1, 7, 0, 0, 0), (25, 1, 55, 0, 0, 0)]
set_option maxRecDepth 100000 in
theorem dk114 : (told k114).map (fun r => decode prog_11_method_8_code r.1) = (told k114).map (fun r => .ok (toI r, r.2.1)) := by decide +kernel
theorem ok114 : okK 114 k114 = true := by decide +kernel
-- 115: SkewRings$Text.signAt(I)I
noncomputable def k115 : List Rw := [(0, 1, 0, 1, 0, 0), (1, 3, 30, 2, 29, 16), (4, 1, 0, 1, 0, 0), (5, 1, 1, 0, 0, 0), (6, 3, 40, 9, 3, 94), (9, 3, 31, 3, 21, 16), (12, 1, 0, 1, 0, 0), (13, 1, 1, 0, 0, 0), (14, 3, 40, 9, 0, 91), (17, 1, 42, 0, 0, 0), (18, 3, 31, 3, 12, 16), (21, 1, 1, 0, 0, 0), (22, 3, 40, 9, 0, 91), (25, 1, 0, 1, 0, 0), (26, 1, 43, 0, 0, 0), (27, 3, 34, 0, 4, 17), (30, 1, 7, -1, 0, 0), (31, 1, 55, 0, 0, 0)]
set_option maxRecDepth 100000 in
theorem dk115 : (told k115).map (fun r => decode prog_11_method_7_code r.1) = (told k115).map (fun r => .ok (toI r, r.2.1)) := by decide +kernel
theorem ok115 : okK 115 k115 = true := by decide +kernel
-- 116: SkewRings$Text.clear()V
noncomputable def k116 : List Rw := [(0, 1, 1, 0, 0, 0), (1, 1, 7, 0, 0, 0), (2, 3, 41, 9, 3, 94), (5, 1, 56, 0, 0, 0)]
set_option maxRecDepth 100000 in
theorem dk116 : (told k116).map (fun r => decode prog_11_method_4_code r.1) = (told k116).map (fun r => .ok (toI r, r.2.1)) := by decide +kernel
theorem ok116 : okK 116 k116 = true := by decide +kernel
-- 117: SkewRings$Text.readCouples(I)I
noncomputable def k117 : List Rw := [(0, 1, 1, 0, 0, 0), (1, 1, 7, 0, 0, 0), (2, 3, 41, 9, 5, 98), (5, 1, 1, 0, 0, 0), (6, 1, 7, 0, 0, 0), (7, 3, 41, 9, 4, 97), (10, 1, 7, 0, 0, 0), (11, 1, 3, 2, 0, 0), (12, 1, 0, 2, 0, 0), (13, 2, 7, 6, 0, 0), (15, 3, 31, 3, 71, 47), (18, 1, 1, 0, 0, 0), (19, 1, 0, 1, 0, 0), (20, 3, 54, 118, 54, 152), (23, 3, 30, 1, 8, 18), (26, 1, 1, 0, 0, 0), (27, 3, 40, 9, 6, 99), (30, 1, 55, 0, 0, 0), (31, 1, 1, 0, 0, 0), (32, 3, 40, 9, 5, 98), (35, 1, 1, 0, 0, 0), (36, 3, 40, 9, 3, 94), (39, 3, 31, 1, 5, 25), (42, 1, 7, -1, 0, 0), (43, 1, 55, 0, 0, 0), (44, 1, 1, 0, 0, 0), (45, 1, 1, 0, 0, 0), (46, 3, 40, 9, 5, 98), (49, 3, 54, 115, 25, 66), (52, 2, 7, 44, 0, 0), (54, 3, 31, 1, 11, 36), (57, 1, 0, 2, 0, 0), (58, 1, 7, 1, 0, 0), (59, 1, 10, 0, 0, 0), (60, 2, 7, 6, 0, 0), (62, 3, 31, 1, 8, 39), (65, 1, 1, 0, 0, 0), (66, 3, 40, 9, 5, 98), (69, 1, 55, 0, 0, 0), (70, 1, 1, 0, 0, 0), (71, 1, 25, 0, 0, 0), (72, 3, 40, 9, 5, 98), (75, 1, 7, 1, 0, 0), (76, 1, 10, 0, 0, 0), (77, 3, 41, 9, 5, 98), (80, 3, 6, 2, 1, 0), (83, 3, 34, 0, -71, 8), (86, 1, 1, 0, 0, 0), (87, 3, 40, 9, 5, 98), (90, 1, 55, 0, 0, 0)]
-- 118: SkewRings$Text.readCouple(I)Z
noncomputable def k118 : List Rw := [(0, 1, 1, 0, 0, 0), (1, 1, 0, 1, 0, 0), (2, 3, 54, 113, 44, 64), (5, 1, 3, 2, 0, 0), (6, 1, 0, 2, 0, 0), (7, 3, 30, 2, 11, 10), (10, 1, 1, 0, 0, 0), (11, 1, 0, 2, 0, 0), (12, 3, 54, 119, 57, 153), (15, 3, 30, 0, 5, 12), (18, 1, 7, 0, 0, 0), (19, 1, 55, 0, 0, 0), (20, 1, 1, 0, 0, 0), (21, 1, 1, 0, 0, 0), (22, 3, 40, 9, 5, 98), (25, 3, 41, 9, 6, 99), (28, 1, 1, 0, 0, 0), (29, 1, 1, 0, 0, 0), (30, 3, 40, 9, 5, 98), (33, 3, 54, 115, 25, 66), (36, 2, 7, 58, 0, 0), (38, 3, 31, 0, 5, 24), (41, 1, 7, 0, 0, 0), (42, 1, 55, 0, 0, 0), (43, 1, 1, 0, 0, 0), (44, 1, 25, 0, 0, 0), (45, 3, 40, 9, 5, 98), (48, 1, 7, 1, 0, 0), (49, 1, 10, 0, 0, 0), (50, 3, 41, 9, 5, 98), (53, 1, 1, 0, 0, 0), (54, 1, 0, 1, 0, 0), (55, 3, 54, 113, 44, 64), (58, 1, 3, 3, 0, 0), (59, 1, 0, 3, 0, 0), (60, 3, 30, 2, 19, 43), (63, 1, 1, 0, 0, 0), (64, 3, 40, 9, 4, 97), (67, 3, 30, 2, 12, 43), (70, 1, 1, 0, 0, 0), (71, 3, 40, 9, 4, 97), (74, 2, 7, 6, 0, 0), (76, 3, 31, 2, 5, 45), (79, 1, 7, 0, 0, 0), (80, 1, 55, 0, 0, 0), (81, 1, 1, 0, 0, 0), (82, 3, 40, 9, 1, 92), (85, 1, 1, 0, 0, 0), (86, 3, 40, 9, 4, 97), (89, 1, 0, 2, 0, 0), (90, 1, 44, 0, 0, 0), (91, 1, 1, 0, 0, 0), (92, 3, 40, 9, 2, 93), (95, 1, 1, 0, 0, 0), (96, 3, 40, 9, 4, 97), (99, 1, 0, 3, 0, 0), (100, 1, 44, 0, 0, 0), (101, 1, 1, 0, 0, 0), (102, 1, 25, 0, 0, 0), (103, 3, 40, 9, 4, 97), (106, 1, 7, 1, 0, 0), (107, 1, 10, 0, 0, 0), (108, 3, 41, 9, 4, 97), (111, 1, 7, 1, 0, 0), (112, 1, 55, 0, 0, 0)]
-- 119: SkewRings$Text.isPoint(I)Z
noncomputable def k119 : List Rw := [(0, 1, 7, 0, 0, 0), (1, 1, 3, 2, 0, 0), (2, 1, 0, 2, 0, 0), (3, 1, 1, 0, 0, 0), (4, 3, 40, 9, 4, 97), (7, 3, 31, 3, 20, 15), (10, 1, 1, 0, 0, 0), (11, 1, 0, 2, 0, 0), (12, 3, 54, 120, 60, 154), (15, 1, 0, 1, 0, 0), (16, 3, 31, 1, 5, 13), (19, 1, 7, 1, 0, 0), (20, 1, 55, 0, 0, 0), (21, 3, 6, 2, 1, 0), (24, 3, 34, 0, -22, 2), (27, 1, 7, 0, 0, 0), (28, 1, 55, 0, 0, 0)]
-- 120: SkewRings$Text.pointAt(I)I
noncomputable def k120 : List Rw := [(0, 1, 0, 1, 0, 0), (1, 3, 30, 2, 21, 12), (4, 1, 0, 1, 0, 0), (5, 1, 1, 0, 0, 0), (6, 3, 40, 9, 1, 92), (9, 1, 42, 0, 0, 0), (10, 3, 31, 3, 12, 12), (13, 1, 1, 0, 0, 0), (14, 3, 40, 9, 1, 92), (17, 1, 0, 1, 0, 0), (18, 1, 43, 0, 0, 0), (19, 3, 34, 0, 4, 13), (22, 1, 7, 0, 0, 0), (23, 1, 55, 0, 0, 0)]
-- 121: SkewRings$Text.valueAt(I)I
noncomputable def k121 : List Rw := [(0, 1, 0, 1, 0, 0), (1, 3, 30, 2, 21, 12), (4, 1, 0, 1, 0, 0), (5, 1, 1, 0, 0, 0), (6, 3, 40, 9, 2, 93), (9, 1, 42, 0, 0, 0), (10, 3, 31, 3, 12, 12), (13, 1, 1, 0, 0, 0), (14, 3, 40, 9, 2, 93), (17, 1, 0, 1, 0, 0), (18, 1, 43, 0, 0, 0), (19, 3, 34, 0, 4, 13), (22, 1, 7, 0, 0, 0), (23, 1, 55, 0, 0, 0)]
-- 122: SkewRings.<init>()V
noncomputable def k122 : List Rw := [(0, 1, 1, 0, 0, 0), (1, 3, 59, 0, 1, 0), (4, 1, 1, 0, 0, 0), (5, 3, 51, 3, 7, 1), (8, 1, 25, 0, 0, 0), (9, 3, 54, 0, 9, 1), (12, 3, 41, 11, 0, 100), (15, 1, 1, 0, 0, 0), (16, 3, 51, 7, 16, 2), (19, 1, 25, 0, 0, 0), (20, 1, 1, 0, 0, 0), (21, 3, 40, 11, 0, 100), (24, 3, 54, 36, 18, 2), (27, 3, 41, 11, 1, 101), (30, 1, 1, 0, 0, 0), (31, 3, 51, 2, 25, 4), (34, 1, 25, 0, 0, 0), (35, 1, 1, 0, 0, 0), (36, 3, 40, 11, 1, 101), (39, 3, 54, 54, 27, 4), (42, 3, 41, 11, 2, 102), (45, 1, 1, 0, 0, 0), (46, 3, 51, 10, 34, 8), (49, 1, 25, 0, 0, 0), (50, 1, 1, 0, 0, 0), (51, 3, 40, 11, 0, 100), (54, 1, 1, 0, 0, 0), (55, 3, 40, 11, 1, 101), (58, 3, 54, 63, 36, 8), (61, 3, 41, 11, 3, 103), (64, 1, 1, 0, 0, 0), (65, 3, 51, 1, 43, 10), (68, 1, 25, 0, 0, 0), (69, 1, 1, 0, 0, 0), (70, 3, 40, 11, 0, 100), (73, 1, 1, 0, 0, 0), (74, 3, 40, 11, 1, 101), (77, 3, 54, 74, 45, 10), (80, 3, 41, 11, 4, 104), (83, 1, 1, 0, 0, 0), (84, 3, 51, 8, 50, 12), (87, 1, 25, 0, 0, 0), (88, 1, 1, 0, 0, 0), (89, 3, 40, 11, 0, 100), (92, 3, 54, 84, 52, 12), (95, 3, 41, 11, 5, 105), (98, 1, 1, 0, 0, 0), (99, 3, 51, 4, 57, 13), (102, 1, 25, 0, 0, 0), (103, 1, 1, 0, 0, 0), (104, 3, 40, 11, 0, 100), (107, 1, 1, 0, 0, 0), (108, 3, 40, 11, 1, 101), (111, 1, 1, 0, 0, 0), (112, 3, 40, 11, 5, 105), (115, 3, 54, 94, 59, 13), (118, 3, 41, 11, 6, 106), (121, 1, 1, 0, 0, 0), (122, 3, 51, 0, 66, 15), (125, 1, 25, 0, 0, 0), (126, 1, 1, 0, 0, 0), (127, 3, 40, 11, 0, 100), (130, 1, 1, 0, 0, 0), (131, 3, 40, 11, 1, 101), (134, 1, 1, 0, 0, 0), (135, 3, 40, 11, 5, 105), (138, 3, 54, 104, 68, 15), (141, 3, 41, 11, 7, 107), (144, 1, 1, 0, 0, 0), (145, 2, 7, 6, 0, 0), (147, 3, 53, 0, 73, 17), (150, 3, 41, 11, 8, 108), (153, 1, 1, 0, 0, 0), (154, 3, 51, 9, 79, 18), (157, 1, 25, 0, 0, 0), (158, 3, 54, 109, 81, 17), (161, 3, 41, 11, 9, 109), (164, 1, 1, 0, 0, 0), (165, 2, 7, 40, 0, 0), (167, 2, 52, 11, 0, 0), (169, 3, 41, 11, 10, 110), (172, 1, 1, 0, 0, 0), (173, 3, 51, 6, 73, 17), (176, 1, 25, 0, 0, 0), (177, 3, 54, 21, 90, 18), (180, 3, 41, 11, 12, 112), (183, 1, 1, 0, 0, 0), (184, 3, 51, 6, 73, 17), (187, 1, 25, 0, 0, 0), (188, 3, 54, 21, 90, 18), (191, 3, 41, 11, 13, 113), (194, 1, 1, 0, 0, 0), (195, 3, 40, 11, 0, 100), (198, 1, 7, 0, 0, 0), (199, 3, 54, 1, 98, 19), (202, 1, 7, 0, 0, 0), (203, 1, 3, 1, 0, 0), (204, 1, 0, 1, 0, 0), (205, 1, 1, 0, 0, 0), (206, 3, 40, 11, 8, 108), (209, 1, 42, 0, 0, 0), (210, 3, 31, 3, 22, 111), (213, 1, 1, 0, 0, 0), (214, 3, 40, 11, 8, 108), (217, 1, 0, 1, 0, 0), (218, 3, 51, 6, 73, 17), (221, 1, 25, 0, 0, 0), (222, 3, 54, 21, 90, 18), (225, 1, 50, 0, 0, 0), (226, 3, 6, 1, 1, 0), (229, 3, 34, 0, -25, 97), (232, 1, 56, 0, 0, 0)]
set_option maxRecDepth 100000 in
theorem dk122 : (told k122).map (fun r => decode prog_1_method_1_code r.1) = (told k122).map (fun r => .ok (toI r, r.2.1)) := by decide +kernel
theorem ok122 : okK 122 k122 = true := by decide +kernel
-- 123: SkewRings.field(I)I
noncomputable def k123 : List Rw := [(0, 1, 0, 1, 0, 0), (1, 3, 54, 12, 102, 32), (4, 3, 30, 1, 5, 5), (7, 1, 7, -1, 0, 0), (8, 1, 55, 0, 0, 0), (9, 1, 0, 1, 0, 0), (10, 1, 1, 0, 0, 0), (11, 3, 40, 11, 0, 100), (14, 3, 40, 3, 0, 0), (17, 3, 31, 1, 6, 12), (20, 2, 7, -2, 0, 0), (22, 1, 55, 0, 0, 0), (23, 1, 1, 0, 0, 0), (24, 3, 40, 11, 0, 100), (27, 1, 0, 1, 0, 0), (28, 3, 54, 1, 98, 19), (31, 1, 1, 0, 0, 0), (32, 3, 40, 11, 4, 104), (35, 3, 54, 75, 110, 33), (38, 1, 7, 0, 0, 0), (39, 1, 3, 2, 0, 0), (40, 1, 0, 2, 0, 0), (41, 1, 1, 0, 0, 0), (42, 3, 40, 11, 8, 108), (45, 1, 42, 0, 0, 0), (46, 3, 31, 3, 23, 36), (49, 1, 1, 0, 0, 0), (50, 1, 0, 2, 0, 0), (51, 3, 54, 124, 113, 34), (54, 1, 4, 3, 0, 0), (55, 1, 1, 3, 0, 0), (56, 3, 32, 0, 7, 34), (59, 1, 1, 3, 0, 0), (60, 3, 54, 22, 117, 35), (63, 3, 6, 2, 1, 0), (66, 3, 34, 0, -26, 21), (69, 1, 1, 0, 0, 0), (70, 3, 40, 11, 0, 100), (73, 3, 40, 3, 1, 2), (76, 1, 55, 0, 0, 0)]
set_option maxRecDepth 100000 in
theorem dk123 : (told k123).map (fun r => decode prog_1_method_2_code r.1) = (told k123).map (fun r => .ok (toI r, r.2.1)) := by decide +kernel
theorem ok123 : okK 123 k123 = true := by decide +kernel
-- 124: SkewRings.placeAt(I)LSkewRings$Poly;
noncomputable def k124 : List Rw := [(0, 1, 0, 1, 0, 0), (1, 3, 30, 2, 21, 12), (4, 1, 0, 1, 0, 0), (5, 1, 1, 0, 0, 0), (6, 3, 40, 11, 8, 108), (9, 1, 42, 0, 0, 0), (10, 3, 31, 3, 12, 12), (13, 1, 1, 0, 0, 0), (14, 3, 40, 11, 8, 108), (17, 1, 0, 1, 0, 0), (18, 1, 49, 0, 0, 0), (19, 3, 34, 0, 4, 13), (22, 1, 9, 0, 0, 0), (23, 1, 57, 0, 0, 0)]
set_option maxRecDepth 100000 in
theorem dk124 : (told k124).map (fun r => decode prog_1_method_57_code r.1) = (told k124).map (fun r => .ok (toI r, r.2.1)) := by decide +kernel
theorem ok124 : okK 124 k124 = true := by decide +kernel
-- 125: SkewRings.plus(II)I
noncomputable def k125 : List Rw := [(0, 1, 1, 0, 0, 0), (1, 3, 40, 11, 0, 100), (4, 1, 0, 1, 0, 0), (5, 3, 54, 13, 123, 37), (8, 3, 30, 0, 26, 16), (11, 1, 1, 0, 0, 0), (12, 3, 40, 11, 0, 100), (15, 1, 0, 2, 0, 0), (16, 3, 54, 13, 123, 37), (19, 3, 30, 0, 15, 16), (22, 1, 1, 0, 0, 0), (23, 3, 40, 11, 0, 100), (26, 1, 0, 1, 0, 0), (27, 1, 0, 2, 0, 0), (28, 3, 54, 5, 126, 38), (31, 3, 34, 0, 4, 17), (34, 1, 7, -1, 0, 0), (35, 1, 55, 0, 0, 0)]
set_option maxRecDepth 100000 in
theorem dk125 : (told k125).map (fun r => decode prog_1_method_3_code r.1) = (told k125).map (fun r => .ok (toI r, r.2.1)) := by decide +kernel
theorem ok125 : okK 125 k125 = true := by decide +kernel
-- 126: SkewRings.times(II)I
noncomputable def k126 : List Rw := [(0, 1, 1, 0, 0, 0), (1, 3, 40, 11, 0, 100), (4, 1, 0, 1, 0, 0), (5, 3, 54, 13, 123, 37), (8, 3, 30, 0, 26, 16), (11, 1, 1, 0, 0, 0), (12, 3, 40, 11, 0, 100), (15, 1, 0, 2, 0, 0), (16, 3, 54, 13, 123, 37), (19, 3, 30, 0, 15, 16), (22, 1, 1, 0, 0, 0), (23, 3, 40, 11, 0, 100), (26, 1, 0, 1, 0, 0), (27, 1, 0, 2, 0, 0), (28, 3, 54, 7, 130, 40), (31, 3, 34, 0, 4, 17), (34, 1, 7, -1, 0, 0), (35, 1, 55, 0, 0, 0)]
set_option maxRecDepth 100000 in
theorem dk126 : (told k126).map (fun r => decode prog_1_method_4_code r.1) = (told k126).map (fun r => .ok (toI r, r.2.1)) := by decide +kernel
theorem ok126 : okK 126 k126 = true := by decide +kernel
-- 127: SkewRings.inverse(I)I
noncomputable def k127 : List Rw := [(0, 1, 1, 0, 0, 0), (1, 3, 40, 11, 0, 100), (4, 1, 0, 1, 0, 0), (5, 3, 54, 13, 123, 37), (8, 3, 30, 1, 5, 7), (11, 1, 7, -1, 0, 0), (12, 1, 55, 0, 0, 0), (13, 1, 0, 1, 0, 0), (14, 3, 30, 1, 8, 11), (17, 2, 7, -2, 0, 0), (19, 3, 34, 0, 11, 15), (22, 1, 1, 0, 0, 0), (23, 3, 40, 11, 0, 100), (26, 1, 0, 1, 0, 0), (27, 3, 54, 14, 133, 42), (30, 1, 55, 0, 0, 0)]
-- 128: SkewRings.map(II)I
noncomputable def k128 : List Rw := [(0, 1, 1, 0, 0, 0), (1, 3, 40, 11, 0, 100), (4, 1, 0, 1, 0, 0), (5, 3, 54, 13, 123, 37), (8, 3, 30, 0, 22, 14), (11, 1, 0, 2, 0, 0), (12, 3, 54, 129, 137, 44), (15, 3, 30, 0, 15, 14), (18, 1, 1, 0, 0, 0), (19, 3, 40, 11, 0, 100), (22, 1, 0, 1, 0, 0), (23, 1, 0, 2, 0, 0), (24, 3, 54, 10, 140, 45), (27, 3, 34, 0, 4, 15), (30, 1, 7, -1, 0, 0), (31, 1, 55, 0, 0, 0)]
-- 129: SkewRings.isTurns(I)Z
noncomputable def k129 : List Rw := [(0, 1, 0, 0, 0, 0), (1, 2, 7, -8, 0, 0), (3, 3, 31, 2, 13, 8), (6, 1, 0, 0, 0, 0), (7, 2, 7, 8, 0, 0), (9, 3, 31, 4, 7, 8), (12, 1, 7, 1, 0, 0), (13, 3, 34, 0, 4, 9), (16, 1, 7, 0, 0, 0), (17, 1, 55, 0, 0, 0)]
-- 130: SkewRings.norm(II)I
noncomputable def k130 : List Rw := [(0, 1, 1, 0, 0, 0), (1, 3, 40, 11, 0, 100), (4, 1, 0, 1, 0, 0), (5, 3, 54, 13, 123, 37), (8, 3, 30, 0, 25, 16), (11, 1, 0, 2, 0, 0), (12, 3, 30, 2, 21, 16), (15, 1, 0, 2, 0, 0), (16, 2, 7, 8, 0, 0), (18, 3, 31, 4, 15, 16), (21, 1, 1, 0, 0, 0), (22, 3, 40, 11, 0, 100), (25, 1, 0, 1, 0, 0), (26, 1, 0, 2, 0, 0), (27, 3, 54, 15, 143, 47), (30, 3, 34, 0, 4, 17), (33, 1, 7, -1, 0, 0), (34, 1, 55, 0, 0, 0)]
-- 131: SkewRings.conjugates(I)I
noncomputable def k131 : List Rw := [(0, 1, 1, 0, 0, 0), (1, 3, 40, 11, 0, 100), (4, 1, 0, 1, 0, 0), (5, 3, 54, 13, 123, 37), (8, 3, 30, 1, 5, 7), (11, 1, 7, -1, 0, 0), (12, 1, 55, 0, 0, 0), (13, 1, 1, 0, 0, 0), (14, 3, 40, 11, 0, 100), (17, 1, 0, 1, 0, 0), (18, 3, 54, 16, 146, 49), (21, 1, 3, 2, 0, 0), (22, 1, 1, 0, 0, 0), (23, 3, 54, 132, 149, 53), (26, 1, 1, 0, 0, 0), (27, 1, 0, 2, 0, 0), (28, 3, 54, 306, 152, 54), (31, 1, 22, 0, 0, 0), (32, 3, 54, 133, 157, 55), (35, 1, 0, 2, 0, 0), (36, 1, 55, 0, 0, 0)]
-- 132: SkewRings.startRow()V
noncomputable def k132 : List Rw := [(0, 1, 1, 0, 0, 0), (1, 1, 7, 0, 0, 0), (2, 3, 41, 11, 11, 111), (5, 1, 56, 0, 0, 0)]
set_option maxRecDepth 100000 in
theorem dk132 : (told k132).map (fun r => decode prog_1_method_59_code r.1) = (told k132).map (fun r => .ok (toI r, r.2.1)) := by decide +kernel
theorem ok132 : okK 132 k132 = true := by decide +kernel
-- 133: SkewRings.tell(J)V
noncomputable def k133 : List Rw := [(0, 1, 1, 0, 0, 0), (1, 3, 40, 11, 11, 111), (4, 3, 30, 2, 35, 21), (7, 1, 1, 0, 0, 0), (8, 3, 40, 11, 11, 111), (11, 1, 1, 0, 0, 0), (12, 3, 40, 11, 10, 110), (15, 1, 42, 0, 0, 0), (16, 3, 31, 3, 23, 21), (19, 1, 1, 0, 0, 0), (20, 3, 40, 11, 10, 110), (23, 1, 1, 0, 0, 0), (24, 3, 40, 11, 11, 111), (27, 1, 2, 1, 0, 0), (28, 1, 46, 0, 0, 0), (29, 1, 1, 0, 0, 0), (30, 1, 25, 0, 0, 0), (31, 3, 40, 11, 11, 111), (34, 1, 7, 1, 0, 0), (35, 1, 10, 0, 0, 0), (36, 3, 41, 11, 11, 111), (39, 1, 56, 0, 0, 0)]
set_option maxRecDepth 100000 in
theorem dk133 : (told k133).map (fun r => decode prog_1_method_60_code r.1) = (told k133).map (fun r => .ok (toI r, r.2.1)) := by decide +kernel
theorem ok133 : okK 133 k133 = true := by decide +kernel
-- 134: SkewRings.classes()I
noncomputable def k134 : List Rw := [(0, 1, 7, 0, 0, 0), (1, 1, 3, 1, 0, 0), (2, 1, 7, 0, 0, 0), (3, 1, 3, 2, 0, 0), (4, 1, 1, 0, 0, 0), (5, 3, 54, 132, 149, 53), (8, 1, 7, 0, 0, 0), (9, 1, 3, 3, 0, 0), (10, 1, 0, 3, 0, 0), (11, 1, 1, 0, 0, 0), (12, 3, 40, 11, 0, 100), (15, 3, 40, 3, 1, 2), (18, 3, 31, 3, 37, 33), (21, 1, 0, 1, 0, 0), (22, 1, 0, 3, 0, 0), (23, 1, 20, 0, 0, 0), (24, 1, 7, 1, 0, 0), (25, 1, 16, 0, 0, 0), (26, 3, 30, 1, 23, 31), (29, 1, 0, 1, 0, 0), (30, 1, 1, 0, 0, 0), (31, 3, 40, 11, 0, 100), (34, 1, 0, 3, 0, 0), (35, 3, 54, 16, 146, 49), (38, 1, 17, 0, 0, 0), (39, 1, 3, 1, 0, 0), (40, 1, 1, 0, 0, 0), (41, 1, 0, 3, 0, 0), (42, 1, 22, 0, 0, 0), (43, 3, 54, 133, 157, 55), (46, 3, 6, 2, 1, 0), (49, 3, 6, 3, 1, 0), (52, 3, 34, 0, -42, 8), (55, 1, 0, 2, 0, 0), (56, 1, 55, 0, 0, 0)]
-- 135: SkewRings.sign(I)I
noncomputable def k135 : List Rw := [(0, 1, 1, 0, 0, 0), (1, 3, 40, 11, 9, 109), (4, 1, 0, 1, 0, 0), (5, 3, 54, 110, 161, 58), (8, 3, 30, 0, 13, 9), (11, 1, 1, 0, 0, 0), (12, 3, 40, 11, 9, 109), (15, 3, 40, 9, 3, 95), (18, 3, 34, 0, 4, 10), (21, 1, 7, -1, 0, 0), (22, 1, 55, 0, 0, 0)]
set_option maxRecDepth 100000 in
theorem dk135 : (told k135).map (fun r => decode prog_1_method_10_code r.1) = (told k135).map (fun r => .ok (toI r, r.2.1)) := by decide +kernel
theorem ok135 : okK 135 k135 = true := by decide +kernel
-- 136: SkewRings.end(I)Z
noncomputable def k136 : List Rw := [(0, 1, 1, 0, 0, 0), (1, 3, 40, 11, 9, 109), (4, 1, 0, 1, 0, 0), (5, 3, 54, 111, 167, 60), (8, 1, 55, 0, 0, 0)]
set_option maxRecDepth 100000 in
theorem dk136 : (told k136).map (fun r => decode prog_1_method_11_code r.1) = (told k136).map (fun r => .ok (toI r, r.2.1)) := by decide +kernel
theorem ok136 : okK 136 k136 = true := by decide +kernel
-- 137: SkewRings.tells(I)I
noncomputable def k137 : List Rw := [(0, 1, 1, 0, 0, 0), (1, 3, 40, 11, 9, 109), (4, 1, 1, 0, 0, 0), (5, 3, 40, 11, 0, 100), (8, 3, 40, 3, 1, 2), (11, 1, 1, 0, 0, 0), (12, 3, 40, 11, 12, 112), (15, 3, 54, 112, 170, 62), (18, 1, 3, 2, 0, 0), (19, 1, 1, 0, 0, 0), (20, 3, 40, 11, 9, 109), (23, 3, 54, 116, 174, 68), (26, 1, 0, 2, 0, 0), (27, 3, 30, 2, 8, 18), (30, 2, 7, -21, 0, 0), (32, 1, 0, 2, 0, 0), (33, 1, 11, 0, 0, 0), (34, 1, 55, 0, 0, 0), (35, 1, 1, 0, 0, 0), (36, 1, 0, 1, 0, 0), (37, 3, 54, 124, 113, 34), (40, 1, 4, 3, 0, 0), (41, 1, 1, 3, 0, 0), (42, 3, 33, 0, 6, 26), (45, 2, 7, -100, 0, 0), (47, 1, 55, 0, 0, 0), (48, 1, 1, 3, 0, 0), (49, 1, 1, 0, 0, 0), (50, 3, 40, 11, 12, 112), (53, 3, 54, 24, 175, 69), (56, 1, 1, 3, 0, 0), (57, 3, 40, 6, 1, 30), (60, 1, 55, 0, 0, 0)]
set_option maxRecDepth 100000 in
theorem dk137 : (told k137).map (fun r => decode prog_1_method_12_code r.1) = (told k137).map (fun r => .ok (toI r, r.2.1)) := by decide +kernel
theorem ok137 : okK 137 k137 = true := by decide +kernel
-- 138: SkewRings.degree(I)I
noncomputable def k138 : List Rw := [(0, 1, 1, 0, 0, 0), (1, 1, 0, 1, 0, 0), (2, 3, 54, 124, 113, 34), (5, 1, 4, 2, 0, 0), (6, 1, 1, 2, 0, 0), (7, 3, 33, 0, 8, 8), (10, 2, 7, -2, 0, 0), (12, 3, 34, 0, 7, 10), (15, 1, 1, 2, 0, 0), (16, 3, 40, 6, 1, 30), (19, 1, 55, 0, 0, 0)]
set_option maxRecDepth 100000 in
theorem dk138 : (told k138).map (fun r => decode prog_1_method_13_code r.1) = (told k138).map (fun r => .ok (toI r, r.2.1)) := by decide +kernel
theorem ok138 : okK 138 k138 = true := by decide +kernel
-- 139: SkewRings.number(II)I
noncomputable def k139 : List Rw := [(0, 1, 1, 0, 0, 0), (1, 1, 0, 1, 0, 0), (2, 3, 54, 124, 113, 34), (5, 1, 4, 3, 0, 0), (6, 1, 1, 3, 0, 0), (7, 3, 32, 0, 13, 11), (10, 1, 0, 2, 0, 0), (11, 3, 30, 2, 9, 11), (14, 1, 0, 2, 0, 0), (15, 2, 7, 8, 0, 0), (17, 3, 31, 5, 7, 13), (20, 1, 7, -1, 0, 0), (21, 3, 34, 0, 8, 16), (24, 1, 1, 3, 0, 0), (25, 1, 0, 2, 0, 0), (26, 3, 54, 25, 182, 74), (29, 1, 55, 0, 0, 0)]
-- 140: SkewRings.adds(III)I
noncomputable def k140 : List Rw := [(0, 1, 1, 0, 0, 0), (1, 1, 0, 1, 0, 0), (2, 3, 54, 124, 113, 34), (5, 2, 4, 4, 0, 0), (7, 1, 1, 0, 0, 0), (8, 1, 0, 2, 0, 0), (9, 3, 54, 124, 113, 34), (12, 2, 4, 5, 0, 0), (14, 1, 1, 0, 0, 0), (15, 1, 0, 3, 0, 0), (16, 3, 54, 124, 113, 34), (19, 2, 4, 6, 0, 0), (21, 2, 1, 4, 0, 0), (23, 3, 32, 0, 13, 18), (26, 2, 1, 5, 0, 0), (28, 3, 32, 0, 8, 18), (31, 2, 1, 6, 0, 0), (33, 3, 33, 0, 6, 20), (36, 2, 7, -2, 0, 0), (38, 1, 55, 0, 0, 0), (39, 1, 1, 0, 0, 0), (40, 3, 40, 11, 1, 101), (43, 2, 1, 4, 0, 0), (45, 2, 1, 5, 0, 0), (47, 2, 1, 6, 0, 0), (49, 3, 54, 37, 185, 76), (52, 2, 1, 6, 0, 0), (54, 3, 40, 6, 1, 30), (57, 1, 55, 0, 0, 0)]
set_option maxRecDepth 100000 in
theorem dk140 : (told k140).map (fun r => decode prog_1_method_15_code r.1) = (told k140).map (fun r => .ok (toI r, r.2.1)) := by decide +kernel
theorem ok140 : okK 140 k140 = true := by decide +kernel
-- 141: SkewRings.takes(III)I
noncomputable def k141 : List Rw := [(0, 1, 1, 0, 0, 0), (1, 1, 0, 1, 0, 0), (2, 3, 54, 124, 113, 34), (5, 2, 4, 4, 0, 0), (7, 1, 1, 0, 0, 0), (8, 1, 0, 2, 0, 0), (9, 3, 54, 124, 113, 34), (12, 2, 4, 5, 0, 0), (14, 1, 1, 0, 0, 0), (15, 1, 0, 3, 0, 0), (16, 3, 54, 124, 113, 34), (19, 2, 4, 6, 0, 0), (21, 2, 1, 4, 0, 0), (23, 3, 32, 0, 13, 18), (26, 2, 1, 5, 0, 0), (28, 3, 32, 0, 8, 18), (31, 2, 1, 6, 0, 0), (33, 3, 33, 0, 6, 20), (36, 2, 7, -2, 0, 0), (38, 1, 55, 0, 0, 0), (39, 1, 1, 0, 0, 0), (40, 3, 40, 11, 1, 101), (43, 2, 1, 4, 0, 0), (45, 2, 1, 5, 0, 0), (47, 2, 1, 6, 0, 0), (49, 3, 54, 39, 188, 83), (52, 2, 1, 6, 0, 0), (54, 3, 40, 6, 1, 30), (57, 1, 55, 0, 0, 0)]
-- 142: SkewRings.scales(III)I
noncomputable def k142 : List Rw := [(0, 1, 1, 0, 0, 0), (1, 1, 0, 2, 0, 0), (2, 3, 54, 124, 113, 34), (5, 2, 4, 4, 0, 0), (7, 1, 1, 0, 0, 0), (8, 1, 0, 3, 0, 0), (9, 3, 54, 124, 113, 34), (12, 2, 4, 5, 0, 0), (14, 2, 1, 4, 0, 0), (16, 3, 32, 0, 19, 17), (19, 2, 1, 5, 0, 0), (21, 3, 32, 0, 14, 17), (24, 1, 1, 0, 0, 0), (25, 3, 40, 11, 0, 100), (28, 1, 0, 1, 0, 0), (29, 3, 54, 13, 123, 37), (32, 3, 30, 1, 6, 19), (35, 2, 7, -2, 0, 0), (37, 1, 55, 0, 0, 0), (38, 1, 1, 0, 0, 0), (39, 3, 40, 11, 1, 101), (42, 1, 0, 1, 0, 0), (43, 2, 1, 4, 0, 0), (45, 2, 1, 5, 0, 0), (47, 3, 54, 40, 191, 87), (50, 2, 1, 5, 0, 0), (52, 3, 40, 6, 1, 30), (55, 1, 55, 0, 0, 0)]
set_option maxRecDepth 100000 in
theorem dk142 : (told k142).map (fun r => decode prog_1_method_17_code r.1) = (told k142).map (fun r => .ok (toI r, r.2.1)) := by decide +kernel
theorem ok142 : okK 142 k142 = true := by decide +kernel
-- 143: SkewRings.multiplies(III)I
noncomputable def k143 : List Rw := [(0, 1, 1, 0, 0, 0), (1, 1, 0, 1, 0, 0), (2, 3, 54, 124, 113, 34), (5, 2, 4, 4, 0, 0), (7, 1, 1, 0, 0, 0), (8, 1, 0, 2, 0, 0), (9, 3, 54, 124, 113, 34), (12, 2, 4, 5, 0, 0), (14, 1, 1, 0, 0, 0), (15, 1, 0, 3, 0, 0), (16, 3, 54, 124, 113, 34), (19, 2, 4, 6, 0, 0), (21, 2, 1, 4, 0, 0), (23, 3, 32, 0, 13, 18), (26, 2, 1, 5, 0, 0), (28, 3, 32, 0, 8, 18), (31, 2, 1, 6, 0, 0), (33, 3, 33, 0, 6, 20), (36, 2, 7, -2, 0, 0), (38, 1, 55, 0, 0, 0), (39, 1, 1, 0, 0, 0), (40, 3, 40, 11, 1, 101), (43, 2, 1, 4, 0, 0), (45, 2, 1, 5, 0, 0), (47, 1, 1, 0, 0, 0), (48, 3, 40, 11, 12, 112), (51, 3, 54, 41, 195, 90), (54, 1, 1, 0, 0, 0), (55, 3, 40, 11, 12, 112), (58, 2, 1, 6, 0, 0), (60, 3, 54, 144, 197, 94), (63, 1, 55, 0, 0, 0)]
set_option maxRecDepth 100000 in
theorem dk143 : (told k143).map (fun r => decode prog_1_method_18_code r.1) = (told k143).map (fun r => .ok (toI r, r.2.1)) := by decide +kernel
theorem ok143 : okK 143 k143 = true := by decide +kernel
-- 144: SkewRings.keep(LSkewRings$Poly;LSkewRings$Poly;)I
noncomputable def k144 : List Rw := [(0, 1, 1, 0, 0, 0), (1, 3, 40, 6, 1, 30), (4, 2, 7, 8, 0, 0), (6, 3, 31, 5, 6, 6), (9, 2, 7, -3, 0, 0), (11, 1, 55, 0, 0, 0), (12, 1, 1, 1, 0, 0), (13, 1, 1, 0, 0, 0), (14, 3, 54, 24, 175, 69), (17, 1, 1, 1, 0, 0), (18, 3, 40, 6, 1, 30), (21, 1, 55, 0, 0, 0)]
set_option maxRecDepth 100000 in
theorem dk144 : (told k144).map (fun r => decode prog_1_method_65_code r.1) = (told k144).map (fun r => .ok (toI r, r.2.1)) := by decide +kernel
theorem ok144 : okK 144 k144 = true := by decide +kernel
-- 145: SkewRings.quotient(IIII)I
noncomputable def k145 : List Rw := [(0, 1, 1, 0, 0, 0), (1, 1, 0, 1, 0, 0), (2, 1, 0, 2, 0, 0), (3, 1, 0, 3, 0, 0), (4, 2, 0, 4, 0, 0), (6, 1, 7, 1, 0, 0), (7, 3, 54, 146, 201, 96), (10, 1, 55, 0, 0, 0)]
set_option maxRecDepth 100000 in
theorem dk145 : (told k145).map (fun r => decode prog_1_method_19_code r.1) = (told k145).map (fun r => .ok (toI r, r.2.1)) := by decide +kernel
theorem ok145 : okK 145 k145 = true := by decide +kernel
-- 146: SkewRings.divided(IIIIZ)I
noncomputable def k146 : List Rw := [(0, 1, 1, 0, 0, 0), (1, 1, 0, 1, 0, 0), (2, 3, 54, 124, 113, 34), (5, 2, 4, 6, 0, 0), (7, 1, 1, 0, 0, 0), (8, 1, 0, 2, 0, 0), (9, 3, 54, 124, 113, 34), (12, 2, 4, 7, 0, 0), (14, 1, 1, 0, 0, 0), (15, 2, 0, 4, 0, 0), (17, 3, 54, 124, 113, 34), (20, 2, 4, 8, 0, 0), (22, 2, 1, 6, 0, 0), (24, 3, 32, 0, 20, 21), (27, 2, 1, 7, 0, 0), (29, 3, 32, 0, 15, 21), (32, 2, 1, 8, 0, 0), (34, 3, 32, 0, 10, 21), (37, 1, 0, 3, 0, 0), (38, 3, 54, 147, 205, 97), (41, 3, 30, 1, 6, 23), (44, 2, 7, -2, 0, 0), (46, 1, 55, 0, 0, 0), (47, 2, 1, 7, 0, 0), (49, 3, 40, 6, 1, 30), (52, 3, 30, 3, 6, 28), (55, 2, 7, -3, 0, 0), (57, 1, 55, 0, 0, 0), (58, 1, 1, 0, 0, 0), (59, 3, 40, 11, 1, 101), (62, 2, 1, 6, 0, 0), (64, 2, 1, 7, 0, 0), (66, 1, 0, 3, 0, 0), (67, 1, 1, 0, 0, 0), (68, 3, 40, 11, 12, 112), (71, 1, 1, 0, 0, 0), (72, 3, 40, 11, 13, 113), (75, 3, 54, 42, 364, 98), (78, 2, 1, 8, 0, 0), (80, 2, 0, 5, 0, 0), (82, 3, 30, 0, 10, 44), (85, 1, 1, 0, 0, 0), (86, 3, 40, 11, 12, 112), (89, 3, 34, 0, 7, 46), (92, 1, 1, 0, 0, 0), (93, 3, 40, 11, 13, 113), (96, 3, 54, 24, 175, 69), (99, 2, 1, 8, 0, 0), (101, 3, 40, 6, 1, 30), (104, 1, 55, 0, 0, 0)]
set_option maxRecDepth 100000 in
theorem dk146 : (told k146).map (fun r => decode prog_1_method_66_code r.1) = (told k146).map (fun r => .ok (toI r, r.2.1)) := by decide +kernel
theorem ok146 : okK 146 k146 = true := by decide +kernel
-- 147: SkewRings.isSide(I)Z
noncomputable def k147 : List Rw := [(0, 1, 0, 0, 0, 0), (1, 3, 30, 0, 8, 5), (4, 1, 0, 0, 0, 0), (5, 1, 7, 1, 0, 0), (6, 3, 31, 1, 7, 7), (9, 1, 7, 1, 0, 0), (10, 3, 34, 0, 4, 8), (13, 1, 7, 0, 0, 0), (14, 1, 55, 0, 0, 0)]
set_option maxRecDepth 100000 in
theorem dk147 : (told k147).map (fun r => decode prog_1_method_62_code r.1) = (told k147).map (fun r => .ok (toI r, r.2.1)) := by decide +kernel
theorem ok147 : okK 147 k147 = true := by decide +kernel
-- 148: SkewRings.remainder(IIII)I
noncomputable def k148 : List Rw := [(0, 1, 1, 0, 0, 0), (1, 1, 0, 1, 0, 0), (2, 1, 0, 2, 0, 0), (3, 1, 0, 3, 0, 0), (4, 2, 0, 4, 0, 0), (6, 1, 7, 0, 0, 0), (7, 3, 54, 146, 201, 96), (10, 1, 55, 0, 0, 0)]
set_option maxRecDepth 100000 in
theorem dk148 : (told k148).map (fun r => decode prog_1_method_20_code r.1) = (told k148).map (fun r => .ok (toI r, r.2.1)) := by decide +kernel
theorem ok148 : okK 148 k148 = true := by decide +kernel
-- 149: SkewRings.divisor(IIII)I
noncomputable def k149 : List Rw := [(0, 1, 1, 0, 0, 0), (1, 1, 0, 1, 0, 0), (2, 3, 54, 124, 113, 34), (5, 2, 4, 5, 0, 0), (7, 1, 1, 0, 0, 0), (8, 1, 0, 2, 0, 0), (9, 3, 54, 124, 113, 34), (12, 2, 4, 6, 0, 0), (14, 1, 1, 0, 0, 0), (15, 2, 0, 4, 0, 0), (17, 3, 54, 124, 113, 34), (20, 2, 4, 7, 0, 0), (22, 2, 1, 5, 0, 0), (24, 3, 32, 0, 20, 21), (27, 2, 1, 6, 0, 0), (29, 3, 32, 0, 15, 21), (32, 2, 1, 7, 0, 0), (34, 3, 32, 0, 10, 21), (37, 1, 0, 3, 0, 0), (38, 3, 54, 147, 205, 97), (41, 3, 30, 1, 5, 23), (44, 1, 7, -1, 0, 0), (45, 1, 55, 0, 0, 0), (46, 2, 1, 5, 0, 0), (48, 3, 40, 6, 1, 30), (51, 3, 30, 3, 14, 31), (54, 2, 1, 6, 0, 0), (56, 3, 40, 6, 1, 30), (59, 3, 30, 3, 6, 31), (62, 2, 7, -2, 0, 0), (64, 1, 55, 0, 0, 0), (65, 1, 1, 0, 0, 0), (66, 3, 40, 11, 2, 102), (69, 2, 1, 5, 0, 0), (71, 2, 1, 6, 0, 0), (73, 1, 0, 3, 0, 0), (74, 3, 54, 55, 208, 105), (77, 1, 1, 0, 0, 0), (78, 3, 40, 11, 2, 102), (81, 1, 0, 3, 0, 0), (82, 2, 1, 7, 0, 0), (84, 3, 54, 58, 212, 117), (87, 2, 1, 7, 0, 0), (89, 3, 40, 6, 1, 30), (92, 1, 55, 0, 0, 0)]
set_option maxRecDepth 100000 in
theorem dk149 : (told k149).map (fun r => decode prog_1_method_21_code r.1) = (told k149).map (fun r => .ok (toI r, r.2.1)) := by decide +kernel
theorem ok149 : okK 149 k149 = true := by decide +kernel
-- 150: SkewRings.multiple(IIII)I
noncomputable def k150 : List Rw := [(0, 1, 1, 0, 0, 0), (1, 1, 0, 1, 0, 0), (2, 3, 54, 124, 113, 34), (5, 2, 4, 5, 0, 0), (7, 1, 1, 0, 0, 0), (8, 1, 0, 2, 0, 0), (9, 3, 54, 124, 113, 34), (12, 2, 4, 6, 0, 0), (14, 1, 1, 0, 0, 0), (15, 2, 0, 4, 0, 0), (17, 3, 54, 124, 113, 34), (20, 2, 4, 7, 0, 0), (22, 2, 1, 5, 0, 0), (24, 3, 32, 0, 20, 21), (27, 2, 1, 6, 0, 0), (29, 3, 32, 0, 15, 21), (32, 2, 1, 7, 0, 0), (34, 3, 32, 0, 10, 21), (37, 1, 0, 3, 0, 0), (38, 3, 54, 147, 205, 97), (41, 3, 30, 1, 5, 23), (44, 1, 7, -1, 0, 0), (45, 1, 55, 0, 0, 0), (46, 2, 1, 5, 0, 0), (48, 3, 40, 6, 1, 30), (51, 3, 30, 2, 11, 29), (54, 2, 1, 6, 0, 0), (56, 3, 40, 6, 1, 30), (59, 3, 30, 3, 6, 31), (62, 2, 7, -2, 0, 0), (64, 1, 55, 0, 0, 0), (65, 1, 1, 0, 0, 0), (66, 3, 40, 11, 2, 102), (69, 2, 1, 5, 0, 0), (71, 2, 1, 6, 0, 0), (73, 1, 0, 3, 0, 0), (74, 3, 54, 55, 208, 105), (77, 1, 1, 0, 0, 0), (78, 3, 40, 11, 2, 102), (81, 2, 1, 5, 0, 0), (83, 1, 0, 3, 0, 0), (84, 1, 1, 0, 0, 0), (85, 3, 40, 11, 12, 112), (88, 3, 54, 59, 216, 124), (91, 1, 1, 0, 0, 0), (92, 3, 40, 11, 12, 112), (95, 2, 1, 7, 0, 0), (97, 3, 54, 144, 197, 94), (100, 1, 55, 0, 0, 0)]
set_option maxRecDepth 100000 in
theorem dk150 : (told k150).map (fun r => decode prog_1_method_22_code r.1) = (told k150).map (fun r => .ok (toI r, r.2.1)) := by decide +kernel
theorem ok150 : okK 150 k150 = true := by decide +kernel
-- 151: SkewRings.steps(III)I
noncomputable def k151 : List Rw := [(0, 1, 1, 0, 0, 0), (1, 1, 0, 1, 0, 0), (2, 3, 54, 124, 113, 34), (5, 2, 4, 4, 0, 0), (7, 1, 1, 0, 0, 0), (8, 1, 0, 2, 0, 0), (9, 3, 54, 124, 113, 34), (12, 2, 4, 5, 0, 0), (14, 2, 1, 4, 0, 0), (16, 3, 32, 0, 15, 15), (19, 2, 1, 5, 0, 0), (21, 3, 32, 0, 10, 15), (24, 1, 0, 3, 0, 0), (25, 3, 54, 147, 205, 97), (28, 3, 30, 1, 5, 17), (31, 1, 7, -1, 0, 0), (32, 1, 55, 0, 0, 0), (33, 1, 1, 0, 0, 0), (34, 3, 40, 11, 2, 102), (37, 2, 1, 4, 0, 0), (39, 2, 1, 5, 0, 0), (41, 1, 0, 3, 0, 0), (42, 3, 54, 60, 220, 126), (45, 2, 3, 6, 0, 0), (47, 1, 1, 0, 0, 0), (48, 3, 54, 132, 149, 53), (51, 1, 7, 0, 0, 0), (52, 2, 3, 7, 0, 0), (54, 2, 0, 7, 0, 0), (56, 2, 0, 6, 0, 0), (58, 3, 31, 3, 23, 40), (61, 1, 1, 0, 0, 0), (62, 1, 1, 0, 0, 0), (63, 3, 40, 11, 2, 102), (66, 2, 0, 7, 0, 0), (68, 3, 54, 61, 224, 127), (71, 1, 22, 0, 0, 0), (72, 3, 54, 133, 157, 55), (75, 3, 6, 7, 1, 0), (78, 3, 34, 0, -24, 28), (81, 2, 0, 6, 0, 0), (83, 1, 55, 0, 0, 0)]
-- 152: SkewRings.crosses(III)I
noncomputable def k152 : List Rw := [(0, 1, 1, 0, 0, 0), (1, 1, 0, 1, 0, 0), (2, 3, 54, 124, 113, 34), (5, 2, 4, 4, 0, 0), (7, 1, 1, 0, 0, 0), (8, 1, 0, 2, 0, 0), (9, 3, 54, 124, 113, 34), (12, 2, 4, 5, 0, 0), (14, 1, 1, 0, 0, 0), (15, 1, 0, 3, 0, 0), (16, 3, 54, 124, 113, 34), (19, 2, 4, 6, 0, 0), (21, 2, 1, 4, 0, 0), (23, 3, 32, 0, 13, 18), (26, 2, 1, 5, 0, 0), (28, 3, 32, 0, 8, 18), (31, 2, 1, 6, 0, 0), (33, 3, 33, 0, 6, 20), (36, 2, 7, -2, 0, 0), (38, 1, 55, 0, 0, 0), (39, 1, 1, 0, 0, 0), (40, 3, 40, 11, 1, 101), (43, 2, 1, 4, 0, 0), (45, 2, 1, 5, 0, 0), (47, 1, 1, 0, 0, 0), (48, 3, 40, 11, 12, 112), (51, 3, 54, 41, 195, 90), (54, 1, 1, 0, 0, 0), (55, 3, 40, 11, 1, 101), (58, 2, 1, 5, 0, 0), (60, 2, 1, 4, 0, 0), (62, 1, 1, 0, 0, 0), (63, 3, 40, 11, 13, 113), (66, 3, 54, 41, 195, 90), (69, 1, 1, 0, 0, 0), (70, 3, 40, 11, 1, 101), (73, 1, 1, 0, 0, 0), (74, 3, 40, 11, 12, 112), (77, 1, 1, 0, 0, 0), (78, 3, 40, 11, 13, 113), (81, 1, 1, 0, 0, 0), (82, 3, 40, 11, 12, 112), (85, 3, 54, 39, 188, 83), (88, 1, 1, 0, 0, 0), (89, 3, 40, 11, 12, 112), (92, 2, 1, 6, 0, 0), (94, 3, 54, 144, 197, 94), (97, 1, 55, 0, 0, 0)]
-- 153: SkewRings.maps(III)I
noncomputable def k153 : List Rw := [(0, 1, 1, 0, 0, 0), (1, 1, 0, 1, 0, 0), (2, 3, 54, 124, 113, 34), (5, 2, 4, 4, 0, 0), (7, 1, 1, 0, 0, 0), (8, 1, 0, 3, 0, 0), (9, 3, 54, 124, 113, 34), (12, 2, 4, 5, 0, 0), (14, 2, 1, 4, 0, 0), (16, 3, 32, 0, 15, 15), (19, 2, 1, 5, 0, 0), (21, 3, 32, 0, 10, 15), (24, 1, 0, 2, 0, 0), (25, 3, 54, 129, 137, 44), (28, 3, 30, 1, 6, 17), (31, 2, 7, -2, 0, 0), (33, 1, 55, 0, 0, 0), (34, 1, 1, 0, 0, 0), (35, 3, 40, 11, 1, 101), (38, 2, 1, 4, 0, 0), (40, 1, 0, 2, 0, 0), (41, 2, 1, 5, 0, 0), (43, 3, 54, 48, 227, 130), (46, 2, 1, 5, 0, 0), (48, 3, 40, 6, 1, 30), (51, 1, 55, 0, 0, 0)]
-- 154: SkewRings.monic(I)I
noncomputable def k154 : List Rw := [(0, 1, 1, 0, 0, 0), (1, 1, 0, 1, 0, 0), (2, 3, 54, 124, 113, 34), (5, 1, 4, 2, 0, 0), (6, 1, 1, 2, 0, 0), (7, 3, 33, 0, 5, 8), (10, 1, 7, -1, 0, 0), (11, 1, 55, 0, 0, 0), (12, 1, 1, 2, 0, 0), (13, 3, 54, 26, 230, 132), (16, 1, 3, 3, 0, 0), (17, 1, 0, 3, 0, 0), (18, 3, 30, 1, 6, 15), (21, 2, 7, -2, 0, 0), (23, 1, 55, 0, 0, 0), (24, 1, 1, 0, 0, 0), (25, 3, 40, 11, 1, 101), (28, 1, 1, 2, 0, 0), (29, 1, 7, 0, 0, 0), (30, 3, 54, 46, 234, 133), (33, 1, 0, 3, 0, 0), (34, 1, 55, 0, 0, 0)]
-- 155: SkewRings.form(II)I
noncomputable def k155 : List Rw := [(0, 1, 1, 0, 0, 0), (1, 1, 0, 1, 0, 0), (2, 3, 54, 124, 113, 34), (5, 1, 4, 3, 0, 0), (6, 1, 1, 3, 0, 0), (7, 3, 33, 0, 5, 8), (10, 1, 7, -1, 0, 0), (11, 1, 55, 0, 0, 0), (12, 1, 0, 2, 0, 0), (13, 31, 35, 0, 0, 0), (44, 1, 1, 3, 0, 0), (45, 3, 54, 26, 230, 132), (48, 1, 55, 0, 0, 0), (49, 1, 1, 3, 0, 0), (50, 3, 54, 28, 238, 135), (53, 1, 55, 0, 0, 0), (54, 1, 1, 3, 0, 0), (55, 3, 40, 6, 1, 30), (58, 3, 30, 3, 8, 21), (61, 2, 7, -2, 0, 0), (63, 3, 34, 0, 7, 23), (66, 1, 1, 3, 0, 0), (67, 3, 54, 29, 241, 136), (70, 1, 55, 0, 0, 0), (71, 1, 1, 3, 0, 0), (72, 3, 54, 30, 244, 137), (75, 3, 30, 0, 7, 29), (78, 1, 7, 1, 0, 0), (79, 3, 34, 0, 4, 30), (82, 1, 7, 0, 0, 0), (83, 1, 55, 0, 0, 0), (84, 1, 7, -1, 0, 0), (85, 1, 55, 0, 0, 0)]
set_option maxRecDepth 100000 in
theorem dk155 : (told k155).map (fun r => decode prog_1_method_27_code r.1) = (told k155).map (fun r => .ok (toI r, r.2.1)) := by decide +kernel
theorem ok155 : okK 155 k155 = true := by decide +kernel
-- 156: SkewRings.same(II)I
noncomputable def k156 : List Rw := [(0, 1, 1, 0, 0, 0), (1, 1, 0, 1, 0, 0), (2, 3, 54, 124, 113, 34), (5, 1, 4, 3, 0, 0), (6, 1, 1, 0, 0, 0), (7, 1, 0, 2, 0, 0), (8, 3, 54, 124, 113, 34), (11, 2, 4, 4, 0, 0), (13, 1, 1, 3, 0, 0), (14, 3, 32, 0, 8, 12), (17, 2, 1, 4, 0, 0), (19, 3, 33, 0, 5, 14), (22, 1, 7, -1, 0, 0), (23, 1, 55, 0, 0, 0), (24, 1, 1, 0, 0, 0), (25, 3, 40, 11, 1, 101), (28, 1, 1, 3, 0, 0), (29, 2, 1, 4, 0, 0), (31, 1, 1, 0, 0, 0), (32, 3, 40, 11, 12, 112), (35, 3, 54, 41, 195, 90), (38, 1, 1, 0, 0, 0), (39, 3, 40, 11, 1, 101), (42, 2, 1, 4, 0, 0), (44, 1, 1, 3, 0, 0), (45, 1, 1, 0, 0, 0), (46, 3, 40, 11, 13, 113), (49, 3, 54, 41, 195, 90), (52, 1, 1, 0, 0, 0), (53, 3, 54, 132, 149, 53), (56, 1, 1, 0, 0, 0), (57, 1, 1, 0, 0, 0), (58, 3, 40, 11, 12, 112), (61, 1, 1, 0, 0, 0), (62, 3, 40, 11, 13, 113), (65, 3, 54, 31, 248, 139), (68, 3, 30, 0, 7, 39), (71, 1, 8, 1, 0, 0), (72, 3, 34, 0, 4, 40), (75, 1, 8, 0, 0, 0), (76, 3, 54, 133, 157, 55), (79, 1, 1, 3, 0, 0), (80, 2, 1, 4, 0, 0), (82, 3, 54, 31, 248, 139), (85, 3, 30, 0, 7, 47), (88, 1, 7, 1, 0, 0), (89, 3, 34, 0, 4, 48), (92, 1, 7, 0, 0, 0), (93, 1, 55, 0, 0, 0)]
set_option maxRecDepth 100000 in
theorem dk156 : (told k156).map (fun r => decode prog_1_method_28_code r.1) = (told k156).map (fun r => .ok (toI r, r.2.1)) := by decide +kernel
theorem ok156 : okK 156 k156 = true := by decide +kernel
-- 157: SkewRings.power(III)I
noncomputable def k157 : List Rw := [(0, 1, 1, 0, 0, 0), (1, 1, 0, 1, 0, 0), (2, 3, 54, 124, 113, 34), (5, 2, 4, 4, 0, 0), (7, 1, 1, 0, 0, 0), (8, 1, 0, 3, 0, 0), (9, 3, 54, 124, 113, 34), (12, 2, 4, 5, 0, 0), (14, 2, 1, 4, 0, 0), (16, 3, 32, 0, 18, 17), (19, 2, 1, 5, 0, 0), (21, 3, 32, 0, 13, 17), (24, 1, 0, 2, 0, 0), (25, 3, 30, 2, 9, 17), (28, 1, 0, 2, 0, 0), (29, 2, 7, 8, 0, 0), (31, 3, 31, 5, 6, 19), (34, 2, 7, -2, 0, 0), (36, 1, 55, 0, 0, 0), (37, 2, 1, 4, 0, 0), (39, 3, 40, 6, 1, 30), (42, 1, 0, 2, 0, 0), (43, 1, 12, 0, 0, 0), (44, 2, 7, 8, 0, 0), (46, 3, 31, 5, 6, 27), (49, 2, 7, -3, 0, 0), (51, 1, 55, 0, 0, 0), (52, 1, 1, 0, 0, 0), (53, 3, 40, 11, 12, 112), (56, 1, 7, 1, 0, 0), (57, 3, 54, 27, 252, 142), (60, 1, 7, 0, 0, 0), (61, 2, 3, 6, 0, 0), (63, 2, 0, 6, 0, 0), (65, 1, 0, 2, 0, 0), (66, 3, 31, 3, 26, 46), (69, 1, 1, 0, 0, 0), (70, 3, 40, 11, 1, 101), (73, 1, 1, 0, 0, 0), (74, 3, 40, 11, 12, 112), (77, 2, 1, 4, 0, 0), (79, 1, 1, 0, 0, 0), (80, 3, 40, 11, 12, 112), (83, 3, 54, 41, 195, 90), (86, 3, 6, 6, 1, 0), (89, 3, 34, 0, -26, 33), (92, 1, 1, 0, 0, 0), (93, 3, 40, 11, 12, 112), (96, 2, 1, 5, 0, 0), (98, 3, 54, 144, 197, 94), (101, 1, 55, 0, 0, 0)]
-- 158: SkewRings.turned(III)I
noncomputable def k158 : List Rw := [(0, 1, 1, 0, 0, 0), (1, 1, 0, 2, 0, 0), (2, 3, 54, 124, 113, 34), (5, 2, 4, 4, 0, 0), (7, 1, 1, 0, 0, 0), (8, 1, 0, 3, 0, 0), (9, 3, 54, 124, 113, 34), (12, 2, 4, 5, 0, 0), (14, 2, 1, 4, 0, 0), (16, 3, 32, 0, 19, 17), (19, 2, 1, 5, 0, 0), (21, 3, 32, 0, 14, 17), (24, 1, 1, 0, 0, 0), (25, 3, 40, 11, 0, 100), (28, 1, 0, 1, 0, 0), (29, 3, 54, 13, 123, 37), (32, 3, 30, 1, 6, 19), (35, 2, 7, -2, 0, 0), (37, 1, 55, 0, 0, 0), (38, 1, 0, 1, 0, 0), (39, 3, 30, 1, 6, 23), (42, 2, 7, -3, 0, 0), (44, 1, 55, 0, 0, 0), (45, 1, 1, 0, 0, 0), (46, 3, 40, 11, 1, 101), (49, 1, 1, 0, 0, 0), (50, 3, 40, 11, 0, 100), (53, 1, 0, 1, 0, 0), (54, 3, 54, 14, 133, 42), (57, 2, 1, 4, 0, 0), (59, 1, 1, 0, 0, 0), (60, 3, 40, 11, 12, 112), (63, 3, 54, 40, 191, 87), (66, 1, 1, 0, 0, 0), (67, 3, 40, 11, 1, 101), (70, 1, 1, 0, 0, 0), (71, 3, 40, 11, 12, 112), (74, 1, 0, 1, 0, 0), (75, 2, 1, 5, 0, 0), (77, 3, 54, 47, 253, 144), (80, 2, 1, 5, 0, 0), (82, 3, 40, 6, 1, 30), (85, 1, 55, 0, 0, 0)]
-- 159: SkewRings.cofactors(IIII)I
noncomputable def k159 : List Rw := [(0, 1, 1, 0, 0, 0), (1, 1, 0, 1, 0, 0), (2, 3, 54, 124, 113, 34), (5, 2, 4, 5, 0, 0), (7, 1, 1, 0, 0, 0), (8, 1, 0, 2, 0, 0), (9, 3, 54, 124, 113, 34), (12, 2, 4, 6, 0, 0), (14, 1, 1, 0, 0, 0), (15, 1, 0, 3, 0, 0), (16, 3, 54, 124, 113, 34), (19, 2, 4, 7, 0, 0), (21, 1, 1, 0, 0, 0), (22, 2, 0, 4, 0, 0), (24, 3, 54, 124, 113, 34), (27, 2, 4, 8, 0, 0), (29, 2, 1, 5, 0, 0), (31, 3, 32, 0, 18, 24), (34, 2, 1, 6, 0, 0), (36, 3, 32, 0, 13, 24), (39, 2, 1, 7, 0, 0), (41, 3, 32, 0, 8, 24), (44, 2, 1, 8, 0, 0), (46, 3, 33, 0, 5, 26), (49, 1, 7, -1, 0, 0), (50, 1, 55, 0, 0, 0), (51, 2, 1, 5, 0, 0), (53, 3, 40, 6, 1, 30), (56, 3, 30, 3, 14, 34), (59, 2, 1, 6, 0, 0), (61, 3, 40, 6, 1, 30), (64, 3, 30, 3, 6, 34), (67, 2, 7, -2, 0, 0), (69, 1, 55, 0, 0, 0), (70, 1, 0, 3, 0, 0), (71, 2, 0, 4, 0, 0), (73, 3, 31, 1, 6, 39), (76, 2, 7, -3, 0, 0), (78, 1, 55, 0, 0, 0), (79, 1, 1, 0, 0, 0), (80, 3, 40, 11, 2, 102), (83, 2, 1, 5, 0, 0), (85, 2, 1, 6, 0, 0), (87, 1, 7, 0, 0, 0), (88, 3, 54, 55, 208, 105), (91, 1, 1, 0, 0, 0), (92, 3, 40, 11, 2, 102), (95, 2, 1, 7, 0, 0), (97, 2, 1, 8, 0, 0), (99, 3, 54, 62, 256, 146), (102, 1, 55, 0, 0, 0)]
-- 160: SkewRings.fits(I)I
noncomputable def k160 : List Rw := [(0, 1, 1, 0, 0, 0), (1, 3, 40, 11, 9, 109), (4, 1, 1, 0, 0, 0), (5, 3, 40, 11, 0, 100), (8, 3, 40, 3, 1, 2), (11, 3, 54, 117, 259, 151), (14, 1, 3, 2, 0, 0), (15, 1, 1, 0, 0, 0), (16, 3, 40, 11, 9, 109), (19, 3, 54, 116, 174, 68), (22, 1, 0, 2, 0, 0), (23, 3, 30, 2, 8, 16), (26, 2, 7, -21, 0, 0), (28, 1, 0, 2, 0, 0), (29, 1, 11, 0, 0, 0), (30, 1, 55, 0, 0, 0), (31, 1, 1, 0, 0, 0), (32, 1, 0, 1, 0, 0), (33, 3, 54, 124, 113, 34), (36, 1, 4, 3, 0, 0), (37, 1, 1, 3, 0, 0), (38, 3, 33, 0, 6, 24), (41, 2, 7, -100, 0, 0), (43, 1, 55, 0, 0, 0), (44, 1, 1, 0, 0, 0), (45, 3, 40, 11, 3, 103), (48, 1, 1, 0, 0, 0), (49, 3, 40, 11, 9, 109), (52, 1, 1, 0, 0, 0), (53, 3, 40, 11, 12, 112), (56, 3, 54, 64, 262, 155), (59, 3, 30, 1, 6, 34), (62, 2, 7, -3, 0, 0), (64, 1, 55, 0, 0, 0), (65, 1, 1, 3, 0, 0), (66, 1, 1, 0, 0, 0), (67, 3, 40, 11, 12, 112), (70, 3, 54, 24, 175, 69), (73, 1, 1, 3, 0, 0), (74, 3, 40, 6, 1, 30), (77, 1, 55, 0, 0, 0)]
-- 161: SkewRings.value(II)I
noncomputable def k161 : List Rw := [(0, 1, 1, 0, 0, 0), (1, 1, 0, 1, 0, 0), (2, 3, 54, 124, 113, 34), (5, 1, 4, 3, 0, 0), (6, 1, 1, 3, 0, 0), (7, 3, 32, 0, 14, 11), (10, 1, 1, 0, 0, 0), (11, 3, 40, 11, 0, 100), (14, 1, 0, 2, 0, 0), (15, 3, 54, 13, 123, 37), (18, 3, 30, 1, 7, 13), (21, 1, 7, -1, 0, 0), (22, 3, 34, 0, 12, 18), (25, 1, 1, 0, 0, 0), (26, 3, 40, 11, 3, 103), (29, 1, 1, 3, 0, 0), (30, 1, 0, 2, 0, 0), (31, 3, 54, 65, 266, 176), (34, 1, 55, 0, 0, 0)]
set_option maxRecDepth 100000 in
theorem dk161 : (told k161).map (fun r => decode prog_1_method_33_code r.1) = (told k161).map (fun r => .ok (toI r, r.2.1)) := by decide +kernel
theorem ok161 : okK 161 k161 = true := by decide +kernel
-- 162: SkewRings.roots(I)I
noncomputable def k162 : List Rw := [(0, 1, 1, 0, 0, 0), (1, 1, 0, 1, 0, 0), (2, 3, 54, 124, 113, 34), (5, 1, 4, 2, 0, 0), (6, 1, 1, 2, 0, 0), (7, 3, 33, 0, 5, 8), (10, 1, 7, -1, 0, 0), (11, 1, 55, 0, 0, 0), (12, 1, 1, 0, 0, 0), (13, 3, 40, 11, 3, 103), (16, 1, 1, 2, 0, 0), (17, 3, 54, 67, 270, 178), (20, 1, 3, 3, 0, 0), (21, 1, 1, 0, 0, 0), (22, 3, 54, 132, 149, 53), (25, 1, 1, 0, 0, 0), (26, 1, 0, 3, 0, 0), (27, 3, 54, 306, 152, 54), (30, 1, 22, 0, 0, 0), (31, 3, 54, 133, 157, 55), (34, 1, 0, 3, 0, 0), (35, 1, 55, 0, 0, 0)]
set_option maxRecDepth 100000 in
theorem dk162 : (told k162).map (fun r => decode prog_1_method_34_code r.1) = (told k162).map (fun r => .ok (toI r, r.2.1)) := by decide +kernel
theorem ok162 : okK 162 k162 = true := by decide +kernel
-- 163: SkewRings.does(II)I
noncomputable def k163 : List Rw := [(0, 1, 1, 0, 0, 0), (1, 1, 0, 1, 0, 0), (2, 3, 54, 124, 113, 34), (5, 1, 4, 3, 0, 0), (6, 1, 1, 3, 0, 0), (7, 3, 32, 0, 14, 11), (10, 1, 1, 0, 0, 0), (11, 3, 40, 11, 0, 100), (14, 1, 0, 2, 0, 0), (15, 3, 54, 13, 123, 37), (18, 3, 30, 1, 7, 13), (21, 1, 7, -1, 0, 0), (22, 3, 34, 0, 12, 18), (25, 1, 1, 0, 0, 0), (26, 3, 40, 11, 3, 103), (29, 1, 1, 3, 0, 0), (30, 1, 0, 2, 0, 0), (31, 3, 54, 68, 274, 180), (34, 1, 55, 0, 0, 0)]
set_option maxRecDepth 100000 in
theorem dk163 : (told k163).map (fun r => decode prog_1_method_35_code r.1) = (told k163).map (fun r => .ok (toI r, r.2.1)) := by decide +kernel
theorem ok163 : okK 163 k163 = true := by decide +kernel
-- 164: SkewRings.kernel(I)I
noncomputable def k164 : List Rw := [(0, 1, 1, 0, 0, 0), (1, 1, 0, 1, 0, 0), (2, 3, 54, 124, 113, 34), (5, 1, 4, 2, 0, 0), (6, 1, 1, 2, 0, 0), (7, 3, 33, 0, 5, 8), (10, 1, 7, -1, 0, 0), (11, 1, 55, 0, 0, 0), (12, 1, 1, 0, 0, 0), (13, 3, 40, 11, 3, 103), (16, 1, 1, 2, 0, 0), (17, 1, 7, 0, 0, 0), (18, 3, 54, 69, 277, 182), (21, 1, 3, 3, 0, 0), (22, 1, 1, 0, 0, 0), (23, 3, 54, 132, 149, 53), (26, 1, 1, 0, 0, 0), (27, 1, 0, 3, 0, 0), (28, 3, 54, 306, 152, 54), (31, 1, 22, 0, 0, 0), (32, 3, 54, 133, 157, 55), (35, 1, 1, 0, 0, 0), (36, 1, 1, 0, 0, 0), (37, 3, 40, 11, 3, 103), (40, 1, 1, 2, 0, 0), (41, 3, 54, 70, 280, 184), (44, 3, 54, 306, 152, 54), (47, 1, 22, 0, 0, 0), (48, 3, 54, 133, 157, 55), (51, 1, 0, 3, 0, 0), (52, 1, 55, 0, 0, 0)]
set_option maxRecDepth 100000 in
theorem dk164 : (told k164).map (fun r => decode prog_1_method_36_code r.1) = (told k164).map (fun r => .ok (toI r, r.2.1)) := by decide +kernel
theorem ok164 : okK 164 k164 = true := by decide +kernel
-- 165: SkewRings.solves(II)I
noncomputable def k165 : List Rw := [(0, 1, 1, 0, 0, 0), (1, 1, 0, 1, 0, 0), (2, 3, 54, 124, 113, 34), (5, 1, 4, 3, 0, 0), (6, 1, 1, 3, 0, 0), (7, 3, 32, 0, 14, 11), (10, 1, 1, 0, 0, 0), (11, 3, 40, 11, 0, 100), (14, 1, 0, 2, 0, 0), (15, 3, 54, 13, 123, 37), (18, 3, 30, 1, 5, 13), (21, 1, 7, -1, 0, 0), (22, 1, 55, 0, 0, 0), (23, 1, 1, 0, 0, 0), (24, 3, 40, 11, 3, 103), (27, 1, 1, 3, 0, 0), (28, 1, 0, 2, 0, 0), (29, 3, 54, 69, 277, 182), (32, 2, 3, 4, 0, 0), (34, 1, 1, 0, 0, 0), (35, 3, 54, 132, 149, 53), (38, 1, 1, 0, 0, 0), (39, 2, 0, 4, 0, 0), (41, 3, 54, 306, 152, 54), (44, 1, 22, 0, 0, 0), (45, 3, 54, 133, 157, 55), (48, 2, 0, 4, 0, 0), (50, 1, 55, 0, 0, 0)]
-- 166: SkewRings.reaches(I)I
noncomputable def k166 : List Rw := [(0, 1, 1, 0, 0, 0), (1, 1, 0, 1, 0, 0), (2, 3, 54, 124, 113, 34), (5, 1, 4, 2, 0, 0), (6, 1, 1, 2, 0, 0), (7, 3, 33, 0, 5, 8), (10, 1, 7, -1, 0, 0), (11, 1, 55, 0, 0, 0), (12, 1, 1, 2, 0, 0), (13, 3, 40, 6, 1, 30), (16, 3, 30, 3, 6, 13), (19, 2, 7, -2, 0, 0), (21, 1, 55, 0, 0, 0), (22, 1, 1, 0, 0, 0), (23, 3, 40, 11, 1, 101), (26, 1, 1, 2, 0, 0), (27, 3, 7, 300, 0, 0), (30, 3, 54, 49, 283, 187), (33, 1, 3, 3, 0, 0), (34, 1, 0, 3, 0, 0), (35, 3, 30, 5, 7, 23), (38, 1, 0, 3, 0, 0), (39, 3, 34, 0, 5, 24), (42, 2, 7, -3, 0, 0), (44, 1, 55, 0, 0, 0)]
-- 167: SkewRings.basis(I)I
noncomputable def k167 : List Rw := [(0, 1, 1, 0, 0, 0), (1, 1, 0, 1, 0, 0), (2, 3, 54, 168, 286, 193), (5, 3, 30, 1, 5, 6), (8, 1, 7, -1, 0, 0), (9, 1, 55, 0, 0, 0), (10, 1, 1, 0, 0, 0), (11, 3, 40, 11, 3, 103), (14, 1, 0, 1, 0, 0), (15, 1, 1, 0, 0, 0), (16, 3, 40, 11, 12, 112), (19, 3, 54, 71, 289, 194), (22, 1, 3, 2, 0, 0), (23, 1, 1, 0, 0, 0), (24, 3, 54, 132, 149, 53), (27, 1, 1, 0, 0, 0), (28, 1, 0, 2, 0, 0), (29, 1, 22, 0, 0, 0), (30, 3, 54, 133, 157, 55), (33, 1, 0, 2, 0, 0), (34, 3, 54, 306, 152, 54), (37, 1, 55, 0, 0, 0)]
-- 168: SkewRings.isSet(I)Z
noncomputable def k168 : List Rw := [(0, 1, 0, 1, 0, 0), (1, 3, 30, 2, 20, 11), (4, 1, 0, 1, 0, 0), (5, 1, 7, 1, 0, 0), (6, 1, 1, 0, 0, 0), (7, 3, 40, 11, 0, 100), (10, 3, 40, 3, 1, 2), (13, 1, 19, 0, 0, 0), (14, 3, 31, 3, 7, 11), (17, 1, 7, 1, 0, 0), (18, 3, 34, 0, 4, 12), (21, 1, 7, 0, 0, 0), (22, 1, 55, 0, 0, 0)]
set_option maxRecDepth 100000 in
theorem dk168 : (told k168).map (fun r => decode prog_1_method_61_code r.1) = (told k168).map (fun r => .ok (toI r, r.2.1)) := by decide +kernel
theorem ok168 : okK 168 k168 = true := by decide +kernel
-- 169: SkewRings.shares(II)I
noncomputable def k169 : List Rw := [(0, 1, 1, 0, 0, 0), (1, 1, 0, 1, 0, 0), (2, 3, 54, 124, 113, 34), (5, 1, 4, 3, 0, 0), (6, 1, 1, 0, 0, 0), (7, 1, 0, 2, 0, 0), (8, 3, 54, 124, 113, 34), (11, 2, 4, 4, 0, 0), (13, 1, 1, 3, 0, 0), (14, 3, 32, 0, 8, 12), (17, 2, 1, 4, 0, 0), (19, 3, 33, 0, 5, 14), (22, 1, 7, -1, 0, 0), (23, 1, 55, 0, 0, 0), (24, 1, 1, 0, 0, 0), (25, 3, 40, 11, 3, 103), (28, 1, 1, 3, 0, 0), (29, 3, 54, 67, 270, 178), (32, 2, 3, 5, 0, 0), (34, 1, 1, 0, 0, 0), (35, 3, 40, 11, 3, 103), (38, 2, 1, 4, 0, 0), (40, 3, 54, 67, 270, 178), (43, 2, 3, 6, 0, 0), (45, 1, 1, 0, 0, 0), (46, 3, 54, 132, 149, 53), (49, 1, 1, 0, 0, 0), (50, 2, 0, 5, 0, 0), (52, 2, 0, 6, 0, 0), (54, 1, 7, -1, 0, 0), (55, 1, 18, 0, 0, 0), (56, 1, 16, 0, 0, 0), (57, 1, 22, 0, 0, 0), (58, 3, 54, 133, 157, 55), (61, 1, 1, 0, 0, 0), (62, 2, 0, 6, 0, 0), (64, 2, 0, 5, 0, 0), (66, 1, 7, -1, 0, 0), (67, 1, 18, 0, 0, 0), (68, 1, 16, 0, 0, 0), (69, 1, 22, 0, 0, 0), (70, 3, 54, 133, 157, 55), (73, 2, 0, 5, 0, 0), (75, 2, 0, 6, 0, 0), (77, 1, 16, 0, 0, 0), (78, 1, 55, 0, 0, 0)]
-- 170: SkewRings.eigen(I)I
noncomputable def k170 : List Rw := [(0, 1, 1, 0, 0, 0), (1, 1, 0, 1, 0, 0), (2, 3, 54, 124, 113, 34), (5, 1, 4, 2, 0, 0), (6, 1, 1, 2, 0, 0), (7, 3, 33, 0, 5, 8), (10, 1, 7, -1, 0, 0), (11, 1, 55, 0, 0, 0), (12, 1, 7, 0, 0, 0), (13, 1, 3, 3, 0, 0), (14, 1, 1, 0, 0, 0), (15, 3, 54, 132, 149, 53), (18, 1, 7, 0, 0, 0), (19, 2, 3, 4, 0, 0), (21, 2, 0, 4, 0, 0), (23, 1, 1, 0, 0, 0), (24, 3, 40, 11, 0, 100), (27, 3, 40, 3, 1, 2), (30, 3, 31, 3, 40, 39), (33, 1, 1, 0, 0, 0), (34, 3, 40, 11, 3, 103), (37, 1, 1, 2, 0, 0), (38, 2, 0, 4, 0, 0), (40, 3, 54, 72, 292, 197), (43, 2, 3, 5, 0, 0), (45, 2, 0, 5, 0, 0), (47, 3, 30, 5, 17, 37), (50, 1, 0, 3, 0, 0), (51, 1, 7, 1, 0, 0), (52, 2, 0, 4, 0, 0), (54, 1, 19, 0, 0, 0), (55, 1, 17, 0, 0, 0), (56, 1, 3, 3, 0, 0), (57, 1, 1, 0, 0, 0), (58, 2, 0, 5, 0, 0), (60, 1, 22, 0, 0, 0), (61, 3, 54, 133, 157, 55), (64, 3, 6, 4, 1, 0), (67, 3, 34, 0, -46, 14), (70, 1, 0, 3, 0, 0), (71, 1, 55, 0, 0, 0)]
-- 171: SkewRings.vanishes(II)I
noncomputable def k171 : List Rw := [(0, 1, 1, 0, 0, 0), (1, 1, 0, 2, 0, 0), (2, 3, 54, 124, 113, 34), (5, 1, 4, 3, 0, 0), (6, 1, 1, 3, 0, 0), (7, 3, 32, 0, 11, 10), (10, 1, 1, 0, 0, 0), (11, 1, 0, 1, 0, 0), (12, 3, 54, 168, 286, 193), (15, 3, 30, 1, 5, 12), (18, 1, 7, -1, 0, 0), (19, 1, 55, 0, 0, 0), (20, 1, 1, 0, 0, 0), (21, 3, 40, 11, 3, 103), (24, 1, 0, 1, 0, 0), (25, 1, 1, 0, 0, 0), (26, 3, 40, 11, 12, 112), (29, 3, 54, 71, 289, 194), (32, 1, 26, 0, 0, 0), (33, 1, 1, 3, 0, 0), (34, 1, 1, 0, 0, 0), (35, 3, 40, 11, 12, 112), (38, 3, 54, 24, 175, 69), (41, 1, 1, 0, 0, 0), (42, 3, 54, 132, 149, 53), (45, 1, 1, 0, 0, 0), (46, 1, 1, 0, 0, 0), (47, 3, 40, 11, 3, 103), (50, 1, 1, 3, 0, 0), (51, 3, 54, 67, 270, 178), (54, 1, 22, 0, 0, 0), (55, 3, 54, 133, 157, 55), (58, 1, 1, 3, 0, 0), (59, 3, 40, 6, 1, 30), (62, 1, 55, 0, 0, 0)]
set_option maxRecDepth 100000 in
theorem dk171 : (told k171).map (fun r => decode prog_1_method_42_code r.1) = (told k171).map (fun r => .ok (toI r, r.2.1)) := by decide +kernel
theorem ok171 : okK 171 k171 = true := by decide +kernel
-- 172: SkewRings.divisors(II)I
noncomputable def k172 : List Rw := [(0, 1, 1, 0, 0, 0), (1, 1, 0, 1, 0, 0), (2, 3, 54, 124, 113, 34), (5, 1, 4, 3, 0, 0), (6, 1, 1, 3, 0, 0), (7, 3, 32, 0, 13, 12), (10, 1, 0, 2, 0, 0), (11, 1, 7, 1, 0, 0), (12, 3, 31, 2, 8, 12), (15, 1, 0, 2, 0, 0), (16, 1, 7, 3, 0, 0), (17, 3, 31, 5, 5, 14), (20, 1, 7, -1, 0, 0), (21, 1, 55, 0, 0, 0), (22, 1, 1, 3, 0, 0), (23, 3, 54, 173, 295, 200), (26, 2, 3, 4, 0, 0), (28, 2, 0, 4, 0, 0), (30, 3, 30, 3, 6, 21), (33, 2, 0, 4, 0, 0), (35, 1, 55, 0, 0, 0), (36, 1, 1, 0, 0, 0), (37, 3, 40, 11, 4, 104), (40, 1, 1, 3, 0, 0), (41, 1, 0, 2, 0, 0), (42, 1, 1, 0, 0, 0), (43, 3, 40, 11, 12, 112), (46, 3, 54, 76, 298, 201), (49, 2, 3, 5, 0, 0), (51, 1, 1, 0, 0, 0), (52, 3, 54, 132, 149, 53), (55, 1, 7, 0, 0, 0), (56, 2, 3, 6, 0, 0), (58, 2, 0, 6, 0, 0), (60, 1, 0, 2, 0, 0), (61, 3, 31, 4, 28, 47), (64, 2, 0, 5, 0, 0), (66, 3, 30, 5, 23, 47), (69, 1, 1, 0, 0, 0), (70, 1, 1, 0, 0, 0), (71, 3, 40, 11, 12, 112), (74, 2, 0, 6, 0, 0), (76, 3, 54, 25, 182, 74), (79, 1, 22, 0, 0, 0), (80, 3, 54, 133, 157, 55), (83, 3, 6, 6, 1, 0), (86, 3, 34, 0, -28, 33), (89, 2, 0, 5, 0, 0), (91, 1, 55, 0, 0, 0)]
set_option maxRecDepth 100000 in
theorem dk172 : (told k172).map (fun r => decode prog_1_method_43_code r.1) = (told k172).map (fun r => .ok (toI r, r.2.1)) := by decide +kernel
theorem ok172 : okK 172 k172 = true := by decide +kernel
-- 173: SkewRings.refusalOf(LSkewRings$Poly;)I
noncomputable def k173 : List Rw := [(0, 1, 1, 0, 0, 0), (1, 3, 40, 6, 1, 30), (4, 3, 30, 3, 6, 5), (7, 2, 7, -2, 0, 0), (9, 1, 55, 0, 0, 0), (10, 1, 1, 0, 0, 0), (11, 3, 40, 6, 1, 30), (14, 1, 7, 4, 0, 0), (15, 3, 31, 5, 8, 11), (18, 2, 7, -3, 0, 0), (20, 3, 34, 0, 4, 12), (23, 1, 7, 0, 0, 0), (24, 1, 55, 0, 0, 0)]
set_option maxRecDepth 100000 in
theorem dk173 : (told k173).map (fun r => decode prog_1_method_64_code r.1) = (told k173).map (fun r => .ok (toI r, r.2.1)) := by decide +kernel
theorem ok173 : okK 173 k173 = true := by decide +kernel
-- 174: SkewRings.prime(I)I
noncomputable def k174 : List Rw := [(0, 1, 1, 0, 0, 0), (1, 1, 0, 1, 0, 0), (2, 3, 54, 124, 113, 34), (5, 1, 4, 2, 0, 0), (6, 1, 1, 2, 0, 0), (7, 3, 33, 0, 5, 8), (10, 1, 7, -1, 0, 0), (11, 1, 55, 0, 0, 0), (12, 1, 1, 2, 0, 0), (13, 3, 54, 173, 295, 200), (16, 1, 3, 3, 0, 0), (17, 1, 0, 3, 0, 0), (18, 3, 30, 3, 5, 15), (21, 1, 0, 3, 0, 0), (22, 1, 55, 0, 0, 0), (23, 1, 1, 0, 0, 0), (24, 3, 40, 11, 4, 104), (27, 1, 1, 2, 0, 0), (28, 3, 54, 79, 302, 213), (31, 3, 30, 0, 7, 22), (34, 1, 7, 1, 0, 0), (35, 3, 34, 0, 4, 23), (38, 1, 7, 0, 0, 0), (39, 1, 55, 0, 0, 0)]
set_option maxRecDepth 100000 in
theorem dk174 : (told k174).map (fun r => decode prog_1_method_44_code r.1) = (told k174).map (fun r => .ok (toI r, r.2.1)) := by decide +kernel
theorem ok174 : okK 174 k174 = true := by decide +kernel
-- 175: SkewRings.factors(I)I
noncomputable def k175 : List Rw := [(0, 1, 1, 0, 0, 0), (1, 1, 0, 1, 0, 0), (2, 3, 54, 124, 113, 34), (5, 1, 4, 2, 0, 0), (6, 1, 1, 2, 0, 0), (7, 3, 33, 0, 5, 8), (10, 1, 7, -1, 0, 0), (11, 1, 55, 0, 0, 0), (12, 1, 1, 2, 0, 0), (13, 3, 54, 173, 295, 200), (16, 1, 3, 3, 0, 0), (17, 1, 0, 3, 0, 0), (18, 3, 30, 3, 5, 15), (21, 1, 0, 3, 0, 0), (22, 1, 55, 0, 0, 0), (23, 1, 1, 0, 0, 0), (24, 3, 54, 132, 149, 53), (27, 1, 1, 0, 0, 0), (28, 1, 1, 2, 0, 0), (29, 3, 54, 26, 230, 132), (32, 1, 22, 0, 0, 0), (33, 3, 54, 133, 157, 55), (36, 1, 1, 0, 0, 0), (37, 3, 40, 11, 4, 104), (40, 1, 1, 2, 0, 0), (41, 3, 54, 80, 305, 215), (44, 2, 3, 4, 0, 0), (46, 1, 7, 1, 0, 0), (47, 2, 3, 5, 0, 0), (49, 2, 0, 5, 0, 0), (51, 2, 0, 4, 0, 0), (53, 3, 31, 4, 39, 48), (56, 1, 1, 0, 0, 0), (57, 3, 40, 11, 4, 104), (60, 2, 0, 5, 0, 0), (62, 3, 54, 82, 308, 218), (65, 2, 4, 6, 0, 0), (67, 1, 1, 0, 0, 0), (68, 2, 1, 6, 0, 0), (70, 3, 33, 0, 7, 42), (73, 1, 8, 0, 0, 0), (74, 3, 34, 0, 9, 45), (77, 2, 1, 6, 0, 0), (79, 3, 40, 6, 1, 30), (82, 1, 22, 0, 0, 0), (83, 3, 54, 133, 157, 55), (86, 3, 6, 5, 1, 0), (89, 3, 34, 0, -40, 29), (92, 2, 0, 4, 0, 0), (94, 1, 55, 0, 0, 0)]
set_option maxRecDepth 100000 in
theorem dk175 : (told k175).map (fun r => decode prog_1_method_45_code r.1) = (told k175).map (fun r => .ok (toI r, r.2.1)) := by decide +kernel
theorem ok175 : okK 175 k175 = true := by decide +kernel
-- 176: SkewRings.ways(I)I
noncomputable def k176 : List Rw := [(0, 1, 1, 0, 0, 0), (1, 1, 0, 1, 0, 0), (2, 3, 54, 124, 113, 34), (5, 1, 4, 2, 0, 0), (6, 1, 1, 2, 0, 0), (7, 3, 33, 0, 5, 8), (10, 1, 7, -1, 0, 0), (11, 1, 55, 0, 0, 0), (12, 1, 1, 2, 0, 0), (13, 3, 54, 173, 295, 200), (16, 1, 3, 3, 0, 0), (17, 1, 0, 3, 0, 0), (18, 3, 30, 3, 7, 15), (21, 1, 0, 3, 0, 0), (22, 3, 34, 0, 12, 20), (25, 1, 1, 0, 0, 0), (26, 3, 40, 11, 4, 104), (29, 1, 1, 2, 0, 0), (30, 1, 7, 0, 0, 0), (31, 3, 54, 83, 314, 220), (34, 1, 55, 0, 0, 0)]
set_option maxRecDepth 100000 in
theorem dk176 : (told k176).map (fun r => decode prog_1_method_47_code r.1) = (told k176).map (fun r => .ok (toI r, r.2.1)) := by decide +kernel
theorem ok176 : okK 176 k176 = true := by decide +kernel
-- 177: SkewRings.likes(I)I
noncomputable def k177 : List Rw := [(0, 1, 1, 0, 0, 0), (1, 1, 0, 1, 0, 0), (2, 3, 54, 124, 113, 34), (5, 1, 4, 2, 0, 0), (6, 1, 1, 2, 0, 0), (7, 3, 33, 0, 5, 8), (10, 1, 7, -1, 0, 0), (11, 1, 55, 0, 0, 0), (12, 1, 1, 2, 0, 0), (13, 3, 40, 6, 1, 30), (16, 3, 30, 3, 6, 13), (19, 2, 7, -2, 0, 0), (21, 1, 55, 0, 0, 0), (22, 1, 1, 2, 0, 0), (23, 3, 40, 6, 1, 30), (26, 1, 7, 1, 0, 0), (27, 3, 31, 2, 11, 21), (30, 1, 1, 2, 0, 0), (31, 3, 40, 6, 1, 30), (34, 1, 7, 2, 0, 0), (35, 3, 31, 5, 8, 23), (38, 2, 7, -3, 0, 0), (40, 3, 34, 0, 11, 27), (43, 1, 1, 0, 0, 0), (44, 3, 40, 11, 6, 106), (47, 1, 1, 2, 0, 0), (48, 3, 54, 95, 317, 224), (51, 1, 55, 0, 0, 0)]
set_option maxRecDepth 100000 in
theorem dk177 : (told k177).map (fun r => decode prog_1_method_48_code r.1) = (told k177).map (fun r => .ok (toI r, r.2.1)) := by decide +kernel
theorem ok177 : okK 177 k177 = true := by decide +kernel
-- 178: SkewRings.like(II)I
noncomputable def k178 : List Rw := [(0, 1, 1, 0, 0, 0), (1, 1, 0, 1, 0, 0), (2, 3, 54, 124, 113, 34), (5, 1, 4, 3, 0, 0), (6, 1, 1, 0, 0, 0), (7, 1, 0, 2, 0, 0), (8, 3, 54, 124, 113, 34), (11, 2, 4, 4, 0, 0), (13, 1, 1, 3, 0, 0), (14, 3, 32, 0, 8, 12), (17, 2, 1, 4, 0, 0), (19, 3, 33, 0, 5, 14), (22, 1, 7, -1, 0, 0), (23, 1, 55, 0, 0, 0), (24, 1, 1, 3, 0, 0), (25, 3, 40, 6, 1, 30), (28, 3, 30, 2, 11, 20), (31, 2, 1, 4, 0, 0), (33, 3, 40, 6, 1, 30), (36, 3, 30, 3, 6, 22), (39, 2, 7, -2, 0, 0), (41, 1, 55, 0, 0, 0), (42, 1, 1, 3, 0, 0), (43, 3, 40, 6, 1, 30), (46, 1, 7, 4, 0, 0), (47, 3, 31, 4, 12, 30), (50, 2, 1, 4, 0, 0), (52, 3, 40, 6, 1, 30), (55, 1, 7, 4, 0, 0), (56, 3, 31, 5, 6, 32), (59, 2, 7, -3, 0, 0), (61, 1, 55, 0, 0, 0), (62, 1, 1, 3, 0, 0), (63, 3, 40, 6, 1, 30), (66, 2, 1, 4, 0, 0), (68, 3, 40, 6, 1, 30), (71, 3, 31, 1, 10, 40), (74, 1, 1, 3, 0, 0), (75, 3, 40, 6, 1, 30), (78, 3, 30, 1, 6, 42), (81, 2, 7, -4, 0, 0), (83, 1, 55, 0, 0, 0), (84, 1, 1, 0, 0, 0), (85, 3, 40, 11, 6, 106), (88, 1, 1, 3, 0, 0), (89, 2, 1, 4, 0, 0), (91, 3, 54, 99, 320, 237), (94, 2, 3, 5, 0, 0), (96, 1, 1, 0, 0, 0), (97, 3, 54, 132, 149, 53), (100, 1, 7, 0, 0, 0), (101, 2, 3, 6, 0, 0), (103, 2, 0, 6, 0, 0), (105, 1, 1, 3, 0, 0), (106, 3, 40, 6, 1, 30), (109, 3, 31, 3, 31, 68), (112, 2, 0, 5, 0, 0), (114, 3, 30, 0, 26, 68), (117, 1, 1, 0, 0, 0), (118, 1, 1, 0, 0, 0), (119, 3, 40, 11, 6, 106), (122, 3, 40, 4, 9, 83), (125, 2, 0, 6, 0, 0), (127, 3, 54, 25, 182, 74), (130, 1, 22, 0, 0, 0), (131, 3, 54, 133, 157, 55), (134, 3, 6, 6, 1, 0), (137, 3, 34, 0, -34, 52), (140, 2, 0, 5, 0, 0), (142, 3, 30, 0, 7, 72), (145, 1, 7, 1, 0, 0), (146, 3, 34, 0, 4, 73), (149, 1, 7, 0, 0, 0), (150, 1, 55, 0, 0, 0)]
set_option maxRecDepth 100000 in
theorem dk178 : (told k178).map (fun r => decode prog_1_method_49_code r.1) = (told k178).map (fun r => .ok (toI r, r.2.1)) := by decide +kernel
theorem ok178 : okK 178 k178 = true := by decide +kernel
-- 179: SkewRings.commuting(I)I
noncomputable def k179 : List Rw := [(0, 1, 1, 0, 0, 0), (1, 1, 0, 1, 0, 0), (2, 3, 54, 124, 113, 34), (5, 1, 4, 2, 0, 0), (6, 1, 1, 2, 0, 0), (7, 3, 33, 0, 5, 8), (10, 1, 7, -1, 0, 0), (11, 1, 55, 0, 0, 0), (12, 1, 1, 2, 0, 0), (13, 3, 40, 6, 1, 30), (16, 3, 30, 3, 6, 13), (19, 2, 7, -2, 0, 0), (21, 1, 55, 0, 0, 0), (22, 1, 1, 2, 0, 0), (23, 3, 40, 6, 1, 30), (26, 1, 7, 1, 0, 0), (27, 3, 31, 2, 11, 21), (30, 1, 1, 2, 0, 0), (31, 3, 40, 6, 1, 30), (34, 1, 7, 3, 0, 0), (35, 3, 31, 5, 6, 23), (38, 2, 7, -3, 0, 0), (40, 1, 55, 0, 0, 0), (41, 1, 1, 0, 0, 0), (42, 3, 40, 11, 6, 106), (45, 1, 1, 2, 0, 0), (46, 1, 1, 2, 0, 0), (47, 3, 54, 103, 327, 260), (50, 1, 3, 3, 0, 0), (51, 1, 1, 0, 0, 0), (52, 3, 54, 132, 149, 53), (55, 1, 1, 0, 0, 0), (56, 1, 0, 3, 0, 0), (57, 1, 22, 0, 0, 0), (58, 3, 54, 133, 157, 55), (61, 1, 1, 0, 0, 0), (62, 3, 40, 11, 6, 106), (65, 3, 40, 4, 11, 86), (68, 1, 55, 0, 0, 0)]
-- 180: SkewRings.central(I)I
noncomputable def k180 : List Rw := [(0, 1, 1, 0, 0, 0), (1, 1, 0, 1, 0, 0), (2, 3, 54, 124, 113, 34), (5, 1, 4, 2, 0, 0), (6, 1, 1, 2, 0, 0), (7, 3, 33, 0, 5, 8), (10, 1, 7, -1, 0, 0), (11, 1, 55, 0, 0, 0), (12, 1, 1, 0, 0, 0), (13, 3, 40, 11, 7, 107), (16, 1, 1, 2, 0, 0), (17, 3, 54, 105, 333, 262), (20, 3, 30, 0, 7, 15), (23, 1, 7, 1, 0, 0), (24, 3, 34, 0, 4, 16), (27, 1, 7, 0, 0, 0), (28, 1, 55, 0, 0, 0)]
set_option maxRecDepth 100000 in
theorem dk180 : (told k180).map (fun r => decode prog_1_method_51_code r.1) = (told k180).map (fun r => .ok (toI r, r.2.1)) := by decide +kernel
theorem ok180 : okK 180 k180 = true := by decide +kernel
-- 181: SkewRings.bound(I)I
noncomputable def k181 : List Rw := [(0, 1, 1, 0, 0, 0), (1, 1, 0, 1, 0, 0), (2, 3, 54, 124, 113, 34), (5, 1, 4, 2, 0, 0), (6, 1, 1, 2, 0, 0), (7, 3, 33, 0, 5, 8), (10, 1, 7, -1, 0, 0), (11, 1, 55, 0, 0, 0), (12, 1, 1, 2, 0, 0), (13, 3, 40, 6, 1, 30), (16, 3, 30, 3, 6, 13), (19, 2, 7, -2, 0, 0), (21, 1, 55, 0, 0, 0), (22, 1, 1, 0, 0, 0), (23, 3, 40, 11, 7, 107), (26, 1, 1, 2, 0, 0), (27, 3, 54, 106, 336, 265), (30, 1, 3, 3, 0, 0), (31, 1, 1, 0, 0, 0), (32, 3, 54, 132, 149, 53), (35, 1, 7, 0, 0, 0), (36, 2, 3, 4, 0, 0), (38, 2, 0, 4, 0, 0), (40, 1, 0, 3, 0, 0), (41, 3, 31, 4, 23, 34), (44, 1, 1, 0, 0, 0), (45, 1, 1, 0, 0, 0), (46, 3, 40, 11, 5, 105), (49, 2, 0, 4, 0, 0), (51, 3, 54, 93, 339, 270), (54, 1, 22, 0, 0, 0), (55, 3, 54, 133, 157, 55), (58, 3, 6, 4, 1, 0), (61, 3, 34, 0, -23, 22), (64, 1, 0, 3, 0, 0), (65, 1, 55, 0, 0, 0)]
set_option maxRecDepth 100000 in
theorem dk181 : (told k181).map (fun r => decode prog_1_method_52_code r.1) = (told k181).map (fun r => .ok (toI r, r.2.1)) := by decide +kernel
theorem ok181 : okK 181 k181 = true := by decide +kernel
-- 182: SkewRings.part(II)I
noncomputable def k182 : List Rw := [(0, 1, 1, 0, 0, 0), (1, 1, 0, 1, 0, 0), (2, 3, 54, 124, 113, 34), (5, 1, 4, 3, 0, 0), (6, 1, 1, 0, 0, 0), (7, 1, 0, 2, 0, 0), (8, 3, 54, 124, 113, 34), (11, 2, 4, 4, 0, 0), (13, 1, 1, 3, 0, 0), (14, 3, 32, 0, 8, 12), (17, 2, 1, 4, 0, 0), (19, 3, 33, 0, 5, 14), (22, 1, 7, -1, 0, 0), (23, 1, 55, 0, 0, 0), (24, 1, 1, 3, 0, 0), (25, 3, 54, 173, 295, 200), (28, 2, 3, 5, 0, 0), (30, 2, 0, 5, 0, 0), (32, 3, 30, 3, 6, 21), (35, 2, 0, 5, 0, 0), (37, 1, 55, 0, 0, 0), (38, 1, 1, 0, 0, 0), (39, 3, 40, 11, 7, 107), (42, 1, 1, 3, 0, 0), (43, 1, 1, 0, 0, 0), (44, 3, 40, 11, 12, 112), (47, 3, 54, 107, 342, 272), (50, 2, 1, 4, 0, 0), (52, 1, 1, 0, 0, 0), (53, 3, 40, 11, 12, 112), (56, 3, 54, 24, 175, 69), (59, 2, 1, 4, 0, 0), (61, 3, 40, 6, 1, 30), (64, 1, 55, 0, 0, 0)]
set_option maxRecDepth 100000 in
theorem dk182 : (told k182).map (fun r => decode prog_1_method_53_code r.1) = (told k182).map (fun r => .ok (toI r, r.2.1)) := by decide +kernel
theorem ok182 : okK 182 k182 = true := by decide +kernel
-- 183: SkewRings.primes(I)I
noncomputable def k183 : List Rw := [(0, 1, 0, 1, 0, 0), (1, 27, 36, 0, 0, 1), (28, 1, 1, 0, 0, 0), (29, 3, 40, 11, 0, 100), (32, 3, 40, 3, 1, 2), (35, 1, 55, 0, 0, 0), (36, 1, 1, 0, 0, 0), (37, 3, 40, 11, 3, 103), (40, 3, 54, 73, 346, 279), (43, 1, 55, 0, 0, 0), (44, 1, 7, -1, 0, 0), (45, 1, 55, 0, 0, 0)]
-- 184: SkewRings.count(I)I
noncomputable def k184 : List Rw := [(0, 1, 0, 1, 0, 0), (1, 47, 35, 0, 0, 2), (48, 1, 1, 0, 0, 0), (49, 3, 40, 11, 0, 100), (52, 3, 40, 3, 0, 0), (55, 1, 55, 0, 0, 0), (56, 1, 1, 0, 0, 0), (57, 3, 40, 11, 0, 100), (60, 3, 40, 3, 1, 2), (63, 1, 55, 0, 0, 0), (64, 1, 1, 0, 0, 0), (65, 3, 40, 11, 0, 100), (68, 3, 40, 3, 2, 11), (71, 1, 55, 0, 0, 0), (72, 1, 1, 0, 0, 0), (73, 3, 40, 11, 0, 100), (76, 3, 40, 3, 3, 16), (79, 1, 55, 0, 0, 0), (80, 1, 1, 0, 0, 0), (81, 3, 54, 185, 355, 283), (84, 1, 55, 0, 0, 0), (85, 1, 1, 0, 0, 0), (86, 3, 40, 11, 4, 104), (89, 3, 40, 1, 9, 66), (92, 1, 55, 0, 0, 0), (93, 1, 1, 0, 0, 0), (94, 3, 40, 11, 11, 111), (97, 1, 55, 0, 0, 0), (98, 1, 1, 0, 0, 0), (99, 3, 40, 11, 9, 109), (102, 3, 40, 9, 3, 95), (105, 1, 55, 0, 0, 0), (106, 1, 7, -1, 0, 0), (107, 1, 55, 0, 0, 0)]
set_option maxRecDepth 100000 in
theorem dk184 : (told k184).map (fun r => decode prog_1_method_55_code r.1) = (told k184).map (fun r => .ok (toI r, r.2.1)) := by decide +kernel
theorem ok184 : okK 184 k184 = true := by decide +kernel
-- 185: SkewRings.placesInUse()I
noncomputable def k185 : List Rw := [(0, 1, 7, 0, 0, 0), (1, 1, 3, 1, 0, 0), (2, 1, 7, 0, 0, 0), (3, 1, 3, 2, 0, 0), (4, 1, 0, 2, 0, 0), (5, 1, 1, 0, 0, 0), (6, 3, 40, 11, 8, 108), (9, 1, 42, 0, 0, 0), (10, 3, 31, 3, 32, 26), (13, 1, 1, 0, 0, 0), (14, 1, 0, 2, 0, 0), (15, 3, 54, 124, 113, 34), (18, 1, 4, 3, 0, 0), (19, 1, 1, 3, 0, 0), (20, 3, 32, 0, 16, 24), (23, 1, 1, 3, 0, 0), (24, 3, 40, 6, 1, 30), (27, 3, 30, 2, 9, 24), (30, 1, 0, 1, 0, 0), (31, 1, 7, 1, 0, 0), (32, 1, 0, 2, 0, 0), (33, 1, 19, 0, 0, 0), (34, 1, 17, 0, 0, 0), (35, 1, 3, 1, 0, 0), (36, 3, 6, 2, 1, 0), (39, 3, 34, 0, -35, 4), (42, 1, 0, 1, 0, 0), (43, 1, 55, 0, 0, 0)]
set_option maxRecDepth 100000 in
theorem dk185 : (told k185).map (fun r => decode prog_1_method_58_code r.1) = (told k185).map (fun r => .ok (toI r, r.2.1)) := by decide +kernel
theorem ok185 : okK 185 k185 = true := by decide +kernel
-- 186: SkewRings.factor(II)I
noncomputable def k186 : List Rw := [(0, 1, 1, 0, 0, 0), (1, 3, 40, 11, 4, 104), (4, 1, 0, 1, 0, 0), (5, 3, 54, 82, 308, 218), (8, 1, 4, 3, 0, 0), (9, 1, 1, 3, 0, 0), (10, 3, 32, 0, 15, 13), (13, 1, 0, 2, 0, 0), (14, 3, 30, 2, 11, 13), (17, 1, 0, 2, 0, 0), (18, 1, 1, 3, 0, 0), (19, 3, 40, 6, 1, 30), (22, 3, 31, 5, 11, 17), (25, 3, 60, 0, 0, 0), (28, 1, 99, 0, 0, 0), (29, 3, 99, 0, 0, 0), (32, 1, 99, 0, 0, 0), (33, 1, 1, 3, 0, 0), (34, 1, 0, 2, 0, 0), (35, 3, 54, 25, 182, 74), (38, 1, 55, 0, 0, 0)]
-- 187: SkewRings.row(I)J
noncomputable def k187 : List Rw := [(0, 1, 0, 1, 0, 0), (1, 3, 30, 2, 20, 11), (4, 1, 0, 1, 0, 0), (5, 1, 1, 0, 0, 0), (6, 3, 40, 11, 11, 111), (9, 3, 31, 3, 12, 11), (12, 1, 0, 1, 0, 0), (13, 1, 1, 0, 0, 0), (14, 3, 40, 11, 10, 110), (17, 1, 42, 0, 0, 0), (18, 3, 31, 2, 11, 15), (21, 3, 60, 0, 0, 0), (24, 1, 99, 0, 0, 0), (25, 3, 99, 0, 0, 0), (28, 1, 99, 0, 0, 0), (29, 1, 1, 0, 0, 0), (30, 3, 40, 11, 10, 110), (33, 1, 0, 1, 0, 0), (34, 1, 45, 0, 0, 0), (35, 1, 58, 0, 0, 0)]
set_option maxRecDepth 100000 in
theorem dk187 : (told k187).map (fun r => decode prog_1_method_56_code r.1) = (told k187).map (fun r => .ok (toI r, r.2.1)) := by decide +kernel
theorem ok187 : okK 187 k187 = true := by decide +kernel
-- 188: SkewRingsLaw.cell([II)I
noncomputable def k188 : List Rw := [(0, 1, 0, 1, 0, 0), (1, 1, 1, 0, 0, 0), (2, 1, 42, 0, 0, 0), (3, 3, 31, 3, 9, 8), (6, 1, 1, 0, 0, 0), (7, 1, 0, 1, 0, 0), (8, 1, 43, 0, 0, 0), (9, 3, 34, 0, 4, 9), (12, 1, 7, 0, 0, 0), (13, 1, 55, 0, 0, 0)]
set_option maxRecDepth 100000 in
theorem dk188 : (told k188).map (fun r => decode method_2_code r.1) = (told k188).map (fun r => .ok (toI r, r.2.1)) := by decide +kernel
theorem ok188 : okK 188 k188 = true := by decide +kernel
-- 189: SkewRingsLaw.ones(I)I
noncomputable def k189 : List Rw := [(0, 1, 7, 0, 0, 0), (1, 1, 3, 1, 0, 0), (2, 1, 7, 0, 0, 0), (3, 1, 3, 2, 0, 0), (4, 1, 0, 2, 0, 0), (5, 2, 7, 16, 0, 0), (7, 3, 31, 3, 21, 17), (10, 1, 0, 0, 0, 0), (11, 1, 0, 2, 0, 0), (12, 1, 20, 0, 0, 0), (13, 1, 7, 1, 0, 0), (14, 1, 16, 0, 0, 0), (15, 1, 7, 1, 0, 0), (16, 3, 31, 1, 6, 15), (19, 3, 6, 1, 1, 0), (22, 3, 6, 2, 1, 0), (25, 3, 34, 0, -21, 4), (28, 1, 0, 1, 0, 0), (29, 1, 55, 0, 0, 0)]
set_option maxRecDepth 100000 in
theorem dk189 : (told k189).map (fun r => decode method_6_code r.1) = (told k189).map (fun r => .ok (toI r, r.2.1)) := by decide +kernel
theorem ok189 : okK 189 k189 = true := by decide +kernel
-- 190: java/lang/Math.min(II)I
noncomputable def k190 : List Rw := [(0, 1, 0, 0, 0, 0), (1, 1, 0, 1, 0, 0), (2, 3, 31, 4, 7, 5), (5, 1, 0, 0, 0, 0), (6, 3, 34, 0, 4, 6), (9, 1, 0, 1, 0, 0), (10, 1, 55, 0, 0, 0)]
set_option maxRecDepth 100000 in
theorem dk190 : (told k190).map (fun r => decode prog_23_method_69_code r.1) = (told k190).map (fun r => .ok (toI r, r.2.1)) := by decide +kernel
theorem ok190 : okK 190 k190 = true := by decide +kernel
-- 191
noncomputable def k191 : List Rw := []
-- 192
noncomputable def k192 : List Rw := []
-- 193
noncomputable def k193 : List Rw := []
-- 194
noncomputable def k194 : List Rw := []
-- 195
noncomputable def k195 : List Rw := []
-- 196
noncomputable def k196 : List Rw := []
-- 197
noncomputable def k197 : List Rw := []
-- 198
noncomputable def k198 : List Rw := []
-- 199
noncomputable def k199 : List Rw := []
-- 200
noncomputable def k200 : List Rw := []
-- 201
noncomputable def k201 : List Rw := []
-- 202
noncomputable def k202 : List Rw := []
-- 203
noncomputable def k203 : List Rw := []
-- 204
noncomputable def k204 : List Rw := []
-- 205
noncomputable def k205 : List Rw := []
-- 206
noncomputable def k206 : List Rw := []
-- 207
noncomputable def k207 : List Rw := []
-- 208
noncomputable def k208 : List Rw := []
-- 209
noncomputable def k209 : List Rw := []
-- 210
noncomputable def k210 : List Rw := []
-- 211
noncomputable def k211 : List Rw := []
-- 212
noncomputable def k212 : List Rw := []
-- 213
noncomputable def k213 : List Rw := []
-- 214
noncomputable def k214 : List Rw := []
-- 215
noncomputable def k215 : List Rw := []
-- 216
noncomputable def k216 : List Rw := []
-- 217
noncomputable def k217 : List Rw := []
-- 218
noncomputable def k218 : List Rw := []
-- 219
noncomputable def k219 : List Rw := []
-- 220
noncomputable def k220 : List Rw := []
-- 221
noncomputable def k221 : List Rw := []
-- 222
noncomputable def k222 : List Rw := []
-- 223
noncomputable def k223 : List Rw := []
-- 224
noncomputable def k224 : List Rw := []
-- 225
noncomputable def k225 : List Rw := []
-- 226
noncomputable def k226 : List Rw := []
-- 227
noncomputable def k227 : List Rw := []
-- 228
noncomputable def k228 : List Rw := []
-- 229
noncomputable def k229 : List Rw := []
-- 230
noncomputable def k230 : List Rw := []
-- 231
noncomputable def k231 : List Rw := []
-- 232
noncomputable def k232 : List Rw := []
-- 233
noncomputable def k233 : List Rw := []
-- 234
noncomputable def k234 : List Rw := []
-- 235
noncomputable def k235 : List Rw := []
-- 236
noncomputable def k236 : List Rw := []
-- 237
noncomputable def k237 : List Rw := []
-- 238
noncomputable def k238 : List Rw := []
-- 239
noncomputable def k239 : List Rw := []
-- 240
noncomputable def k240 : List Rw := []
-- 241
noncomputable def k241 : List Rw := []
-- 242
noncomputable def k242 : List Rw := []
-- 243
noncomputable def k243 : List Rw := []
-- 244
noncomputable def k244 : List Rw := []
-- 245
noncomputable def k245 : List Rw := []
-- 246
noncomputable def k246 : List Rw := []
-- 247
noncomputable def k247 : List Rw := []
-- 248
noncomputable def k248 : List Rw := []
-- 249
noncomputable def k249 : List Rw := []
-- 250
noncomputable def k250 : List Rw := []
-- 251
noncomputable def k251 : List Rw := []
-- 252
noncomputable def k252 : List Rw := []
-- 253
noncomputable def k253 : List Rw := []
-- 254
noncomputable def k254 : List Rw := []
-- 255
noncomputable def k255 : List Rw := []
-- 256
noncomputable def k256 : List Rw := []
-- 257
noncomputable def k257 : List Rw := []
-- 258
noncomputable def k258 : List Rw := []
-- 259
noncomputable def k259 : List Rw := []
-- 260
noncomputable def k260 : List Rw := []
-- 261
noncomputable def k261 : List Rw := []
-- 262
noncomputable def k262 : List Rw := []
-- 263
noncomputable def k263 : List Rw := []
-- 264
noncomputable def k264 : List Rw := []
-- 265
noncomputable def k265 : List Rw := []
-- 266
noncomputable def k266 : List Rw := []
-- 267
noncomputable def k267 : List Rw := []
-- 268
noncomputable def k268 : List Rw := []
-- 269
noncomputable def k269 : List Rw := []
-- 270
noncomputable def k270 : List Rw := []
-- 271
noncomputable def k271 : List Rw := []
-- 272
noncomputable def k272 : List Rw := []
-- 273
noncomputable def k273 : List Rw := []
-- 274
noncomputable def k274 : List Rw := []
-- 275
noncomputable def k275 : List Rw := []
-- 276
noncomputable def k276 : List Rw := []
-- 277
noncomputable def k277 : List Rw := []
-- 278
noncomputable def k278 : List Rw := []
-- 279
noncomputable def k279 : List Rw := []
-- 280
noncomputable def k280 : List Rw := []
-- 281
noncomputable def k281 : List Rw := []
-- 282
noncomputable def k282 : List Rw := []
-- 283
noncomputable def k283 : List Rw := []
-- 284
noncomputable def k284 : List Rw := []
-- 285
noncomputable def k285 : List Rw := []
-- 286
noncomputable def k286 : List Rw := []
-- 287
noncomputable def k287 : List Rw := []
-- 288
noncomputable def k288 : List Rw := []
-- 289
noncomputable def k289 : List Rw := []
-- 290
noncomputable def k290 : List Rw := []
-- 291
noncomputable def k291 : List Rw := []
-- 292
noncomputable def k292 : List Rw := []
-- 293
noncomputable def k293 : List Rw := []
-- 294
noncomputable def k294 : List Rw := []
-- 295
noncomputable def k295 : List Rw := []
-- 296
noncomputable def k296 : List Rw := []
-- 297
noncomputable def k297 : List Rw := []
-- 298
noncomputable def k298 : List Rw := []
-- 299
noncomputable def k299 : List Rw := []
-- 300
noncomputable def k300 : List Rw := []
-- 301
noncomputable def k301 : List Rw := []
-- 302
noncomputable def k302 : List Rw := []
-- 303
noncomputable def k303 : List Rw := []
-- 304: java/lang/Math.floorMod(II)I
noncomputable def k304 : List Rw := [(0, 1, 0, 0, 0, 0), (1, 1, 0, 1, 0, 0), (2, 1, 14, 0, 0, 0), (3, 1, 3, 2, 0, 0), (4, 1, 0, 0, 0, 0), (5, 1, 0, 1, 0, 0), (6, 1, 18, 0, 0, 0), (7, 3, 30, 3, 11, 14), (10, 1, 0, 2, 0, 0), (11, 3, 30, 0, 7, 14), (14, 1, 0, 2, 0, 0), (15, 1, 0, 1, 0, 0), (16, 1, 10, 0, 0, 0), (17, 1, 55, 0, 0, 0), (18, 1, 0, 2, 0, 0), (19, 1, 55, 0, 0, 0)]
set_option maxRecDepth 100000 in
theorem dk304 : (told k304).map (fun r => decode prog_23_method_50_code r.1) = (told k304).map (fun r => .ok (toI r, r.2.1)) := by decide +kernel
theorem ok304 : okK 304 k304 = true := by decide +kernel
-- 305: java/lang/Math.max(II)I
noncomputable def k305 : List Rw := [(0, 1, 0, 0, 0, 0), (1, 1, 0, 1, 0, 0), (2, 3, 31, 2, 7, 5), (5, 1, 0, 0, 0, 0), (6, 3, 34, 0, 4, 6), (9, 1, 0, 1, 0, 0), (10, 1, 55, 0, 0, 0)]
set_option maxRecDepth 100000 in
theorem dk305 : (told k305).map (fun r => decode prog_23_method_65_code r.1) = (told k305).map (fun r => .ok (toI r, r.2.1)) := by decide +kernel
theorem ok305 : okK 305 k305 = true := by decide +kernel
-- 306: java/lang/Integer.bitCount(I)I
noncomputable def k306 : List Rw := [(0, 1, 0, 0, 0, 0), (1, 1, 0, 0, 0, 0), (2, 1, 7, 1, 0, 0), (3, 1, 21, 0, 0, 0), (4, 3, 63, 1431655765, 265, 0), (7, 1, 16, 0, 0, 0), (8, 1, 11, 0, 0, 0), (9, 1, 3, 0, 0, 0), (10, 1, 0, 0, 0, 0), (11, 3, 63, 858993459, 266, 1), (14, 1, 16, 0, 0, 0), (15, 1, 0, 0, 0, 0), (16, 1, 7, 2, 0, 0), (17, 1, 21, 0, 0, 0), (18, 3, 63, 858993459, 266, 1), (21, 1, 16, 0, 0, 0), (22, 1, 10, 0, 0, 0), (23, 1, 3, 0, 0, 0), (24, 1, 0, 0, 0, 0), (25, 1, 0, 0, 0, 0), (26, 1, 7, 4, 0, 0), (27, 1, 21, 0, 0, 0), (28, 1, 10, 0, 0, 0), (29, 3, 63, 252645135, 267, 2), (32, 1, 16, 0, 0, 0), (33, 1, 3, 0, 0, 0), (34, 1, 0, 0, 0, 0), (35, 1, 0, 0, 0, 0), (36, 2, 7, 8, 0, 0), (38, 1, 21, 0, 0, 0), (39, 1, 10, 0, 0, 0), (40, 1, 3, 0, 0, 0), (41, 1, 0, 0, 0, 0), (42, 1, 0, 0, 0, 0), (43, 2, 7, 16, 0, 0), (45, 1, 21, 0, 0, 0), (46, 1, 10, 0, 0, 0), (47, 1, 3, 0, 0, 0), (48, 1, 0, 0, 0, 0), (49, 2, 7, 63, 0, 0), (51, 1, 16, 0, 0, 0), (52, 1, 55, 0, 0, 0)]
set_option maxRecDepth 100000 in
theorem dk306 : (told k306).map (fun r => decode prog_22_method_49_code r.1) = (told k306).map (fun r => .ok (toI r, r.2.1)) := by decide +kernel
theorem ok306 : okK 306 k306 = true := by decide +kernel
