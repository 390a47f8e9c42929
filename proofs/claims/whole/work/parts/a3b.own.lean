/-! the law's own factor() and row() -/
def yF : MethodName := ⟨"SkewRingsLaw", "factor", "(LSkewRings;II[J)I"⟩
def yR : MethodName := ⟨"SkewRingsLaw", "row", "(LSkewRings;I[J)I"⟩
def wsF : List Cond := Cond.codeWith yF method_3_code 5 (some .int) [(0, 10, 13, 13)] :: gw_tbl
def wsR : List Cond := Cond.codeWith yR method_4_code 4 (some .int) [(0, 8, 11, 13)] :: gw_tbl
def rmF : Room := { frames := 12, cells := 1, slots := 8, locals := 480 }
theorem wsF_In : GoodIn gw_tbl wsF := by
  intro w hw
  rcases List.mem_cons.mp hw with rfl | hw
  · have h1 : Cond.codeWith yF method_3_code 5 (some .int) [(0, 10, 13, 13)] ∈ gw_tbl := gw (tb 1280 (by decide +kernel)) rfl
    exact ⟨h1, (gw_In _ h1).2⟩
  · exact gw_In w hw
theorem wsR_In : GoodIn gw_tbl wsR := by
  intro w hw
  rcases List.mem_cons.mp hw with rfl | hw
  · have h1 : Cond.codeWith yR method_4_code 4 (some .int) [(0, 8, 11, 13)] ∈ gw_tbl := gw (tb 1349 (by decide +kernel)) rfl
    exact ⟨h1, (gw_In _ h1).2⟩
  · exact gw_In w hw
/-- a body with a table, that returns -/
theorem MetofWH {l : Launch} {y : MethodName} {ws ws' : List Cond} {rm : Room} {Pc : Array Value → State → Prop} {Qc : Array Value → State → Outcome → State → Prop} {mc ms : Nat} {free : Addr → Prop} {cc : ByteArray} {maxL : Nat} {ret : Option FieldType} {hh : List (Nat × Nat × Nat × Nat)}
    (hy : plainName y.cls = true) (hw : ws = Cond.codeWith y cc maxL ret hh :: ws')
    (body : ∀ p e s m args below meth c s₁, BodyLoose p l y (headSpec ws rm) cc maxL ret e s m args below meth c s₁ → c.maxLocals = maxL → c.exceptionTable.toList = tableOf hh → Pc args s →
      W p l e (headSpec ws rm).room s m args below meth c s.heap [] 0 0 (MQ below Qc args s mc ms free) (entryFrame m args maxL)) : Met l y ws rm Pc Qc mc ms free := by
  refine MetFree.of_bodyS (code := cc) (maxLocals := maxL) (ret := ret) hy ?_ ?_
  · intro args s m h hn
    obtain ⟨m9, meth, c, hn9, h1, h2, h3, h4, -, h5, h6, -⟩ := Cond.codeWith_spec (atoms_spec (ws := ws) h _ (by rw [hw]; exact List.mem_cons_self))
    cases hn.symm.trans hn9
    exact ⟨meth, c, h1, h2, h3, h4, h5, h6⟩
  · intro p e s m args below meth c s₁ B hml hP _
    have hh0 : s₁.heap = s.heap := by rw [B.state]; rfl
    have ht := vx_table (x := y) B (atoms_spec (ws := ws) B.pre _ (by rw [hw]; exact List.mem_cons_self))
    obtain ⟨t, a1, o, b1, b2, b3⟩ := body p e s m args below meth c s₁ B hml ht hP s₁ hh0 (Stand.of_body B)
    exact ⟨t, o, a1, b1, b2, ⟨b3.1, b3.2⟩⟩
theorem dfac_ao : decode method_3_code 0 = .ok (.aload_n 3, 1) := by decide +kernel
theorem dfac_c0 : decode method_3_code 1 = .ok (.iconst 0, 1) := by decide +kernel
theorem dfac_ax : decode method_3_code 2 = .ok (.aload_n 0, 1) := by decide +kernel
theorem dfac_i1 : decode method_3_code 3 = .ok (.iload_n 1, 1) := by decide +kernel
theorem dfac_i2 : decode method_3_code 4 = .ok (.iload_n 2, 1) := by decide +kernel
theorem dfac_call : decode method_3_code 5 = .ok (.invokevirtual 7, 3) := by decide +kernel
theorem dfac_i2l : decode method_3_code 8 = .ok (.i2l, 1) := by decide +kernel
theorem dfac_st : decode method_3_code 9 = .ok (.lastore, 1) := by decide +kernel
theorem dfac_go : decode method_3_code 10 = .ok (.goto 7, 3) := by decide +kernel
theorem dfac_as : decode method_3_code 13 = .ok (.astore 4, 2) := by decide +kernel
theorem dfac_c1 : decode method_3_code 15 = .ok (.iconst 1, 1) := by decide +kernel
theorem dfac_r1 : decode method_3_code 16 = .ok (.ireturn, 1) := by decide +kernel
theorem dfac_c2 : decode method_3_code 17 = .ok (.iconst 0, 1) := by decide +kernel
theorem dfac_r2 : decode method_3_code 18 = .ok (.ireturn, 1) := by decide +kernel
set_option maxRecDepth 100000 in
theorem c_fac {l : Launch} (hl : l.stackTraces = false) (D : va_G) (cI cJ cB cP : ClassId) (z b Ls : Nat) (xs : Nat → Int32) {n : Nat} {px a1 a2 po : Int} {S : List Cel} {M : Mem} {g : Bool} {v : AV} {S1 : List Cel} {M1 : Mem} {g1 : Bool}
    (hrun : run n 11 186 (0, entL 186 [(1, px), (0, a1), (0, a2)], [], (S, M, g, 0, 0)) = some (v, (S1, M1, g1, 0, 0))) (hpx : 0 ≤ px) (hcls : clsAt S px 11 = true) (hpo : 0 ≤ po)
    (h9 : v.1 ≠ 9 → v.1 = 0 ∧ ∃ (m9 : Nat) (rs : List Int), S1[po.toNat]? = some (2, m9, rs) ∧ 0 < m9) :
    Met l yF wsF rmF (PcX D cI cJ cB cP z b Ls xs S M g [(1, px), (0, a1), (0, a2), (1, po)]) (QcU D cI cJ cB cP z b Ls xs 307 S1 (if v.1 = 9 then M1 else up M1 po 0 ((i32 v.2).toInt64.toInt)) false (0, if v.1 = 9 then 1 else 0)) 1 8 (fun q : Nat => z ≤ q) := by
  have ea : ([(1, px), (0, a1), (0, a2), (1, po)] : List AV).map (cv z b) = [Value.ref (z + px.toNat), .int (i32 a1), .int (i32 a2), .ref (z + po.toNat)] := by
    show [cv z b (1, px), cv z b (0, a1), cv z b (0, a2), cv z b (1, po)] = _
    rw [show cv z b (1, px) = .ref (z + px.toNat) from rfv_cell z b hpx, show cv z b (1, po) = .ref (z + po.toNat) from rfv_cell z b hpo]
    rfl
  have eb : ([(1, px), (0, a1), (0, a2)] : List AV).map (cv z b) = Value.ref (z + px.toNat) :: [.int (i32 a1), .int (i32 a2)] := by
    show [cv z b (1, px), cv z b (0, a1), cv z b (0, a2)] = _
    rw [show cv z b (1, px) = .ref (z + px.toNat) from rfv_cell z b hpx]
    rfl
  refine MetofWH (cc := method_3_code) (maxL := 5) (ret := some .int) (hh := [(0, 10, 13, 13)]) (by decide +kernel) rfl ?_
  intro p e s m args below meth c s₁ B hml htab hv
  obtain ⟨harg, hw, hg, hx⟩ := hv
  rw [ea] at harg
  subst harg
  have hts := atoms_spec (ws := wsF) B.pre
  have htg : ∀ w ∈ gw_tbl, w.before ([Value.ref (z + px.toNat), .int (i32 a1), .int (i32 a2), .ref (z + po.toNat)] : List Value).toArray s = true := fun w hw => hts w (List.mem_cons_of_mem _ hw)
  have hown : s.vm.findClass "SkewRingsLaw" = some m.cls := findClass_of_methodNamed B.named
  have hxx := B.exec
  have hbb := B.bytes
  have hrr := B.returns
  have hlk := B.notSynchronized
  have hw' := hw
  obtain ⟨hE, hP, hLOK, hSR, hX, hbz, hz, hLs⟩ := hw
  have hl1 := lv_entry ([Value.ref (z + px.toNat), .int (i32 a1), .int (i32 a2), .ref (z + po.toNat)]) (n := 5) (Nat.le_of_ble_eq_true rfl)
  rw [lg_entry_eq]
  generalize (lg_sl ([Value.ref (z + px.toNat), .int (i32 a1), .int (i32 a2), .ref (z + po.toNat)]) ++ List.replicate (5 - (lg_sl ([Value.ref (z + px.toNat), .int (i32 a1), .int (i32 a2), .ref (z + po.toNat)])).length) Slot.unset).toArray = ls at hl1 ⊢
  have hl1 : lv_has ls 5 [(0, Value.ref (z + px.toNat)), (1, .int (i32 a1)), (2, .int (i32 a2)), (3, .ref (z + po.toNat))] := hl1
  refine lv_aload_n hxx hbb dfac_ao rfl (lv_at hl1 3 rfl) ?_
  refine lv_iconst hxx hbb dfac_c0 (v := i32 0) rfl ?_
  refine lv_aload_n hxx hbb dfac_ax rfl (lv_at hl1 0 rfl) ?_
  refine lv_iload_n hxx hbb dfac_i1 rfl (lv_at hl1 1 rfl) ?_
  refine lv_iload_n hxx hbb dfac_i2 rfl (lv_at hl1 2 rfl) ?_
  have fixd : CallFix p m c method_3_code 5 s ([Value.ref (z + px.toNat), .int (i32 a1), .int (i32 a2), .ref (z + po.toNat)] : List Value).toArray gw_tbl "SkewRingsLaw" := ⟨hxx, hbb, hml, hown, htg⟩
  obtain ⟨rs0, hcell⟩ : ∃ rs, S[px.toNat]? = some (0, 11, rs) := by
    unfold clsAt at hcls
    split at hcls
    · rename_i ci rs q
      have := of_decide_eq_true hcls
      subst this
      exact ⟨rs, q⟩
    · cases hcls
  have he := wOf_at (cI := cI) (cJ := cJ) (cB := cB) (cP := cP) (z := z) (b := b) (M := M) hcell
  rw [ent_obj] at he
  have hrecv := va_recv hE.1 hP (vwCl_at 11 (by decide)) he
  obtain ⟨m1, m2, -, m4, m5, m6, m7⟩ := MT_ok 186 (by decide)
  have hini : (Cond.initialized (yOf 186).cls).before ([Value.ref (z + px.toNat), .int (i32 a1), .int (i32 a2), .ref (z + po.toNat)] : List Value).toArray s = true := htg _ (gw m2 rfl)
  have hli : (Cond.methodLink "SkewRingsLaw" 7 (yOf 186)).before ([Value.ref (z + px.toNat), .int (i32 a1), .int (i32 a2), .ref (z + po.toNat)] : List Value).toArray s = true := htg _ (gw (tb 1282 (by decide +kernel)) rfl)
  have hin : (Cond.instanceMethod (yOf 186)).before ([Value.ref (z + px.toNat), .int (i32 a1), .int (i32 a2), .ref (z + po.toNat)] : List Value).toArray s = true := htg _ (gw (tb 1283 (by decide +kernel)) rfl)
  have hse : (Cond.selects (cN 11) (yOf 186) (yOf 186)).before ([Value.ref (z + px.toNat), .int (i32 a1), .int (i32 a2), .ref (z + po.toNat)] : List Value).toArray s = true := htg _ (gw (tb 1284 (by decide +kernel)) rfl)
  have cu : cOf 186 = (0, 0) := by decide +kernel
  have hsp : (spread [(1, px), (0, a1), (0, a2)]).length ≤ lOf 186 := Nat.le_of_ble_eq_true rfl
  have hst' : (F0 m 5 ls ([.int (i32 a2), .int (i32 a1), .ref (z + px.toNat), .int (i32 0), .ref (z + po.toNat)] : List Value)).stack = ([.int (i32 a1), .int (i32 a2)] : List Value).reverse ++ .ref (z + px.toNat) :: [.int (i32 0), .ref (z + po.toNat)] := rfl
  by_cases hv9 : v.1 = 9
  · rw [if_pos hv9, if_pos hv9]
    have hM := soundX hl D cI cJ cB cP z b Ls xs (d := 11) (Or.inl rfl : 186 = 186 ∨ 186 = 187) (by decide) hrun hv9 hsp
    have hR := vx_runV (e := e) (meth := meth) (H := s.heap) (locs := []) (cells := 0) (slots := 0) (below := below) (R := rmF) (g := F0 m 5 ls ([.int (i32 a2), .int (i32 a1), .ref (z + px.toNat), .int (i32 0), .ref (z + po.toNat)] : List Value)) (rest := [.int (i32 0), .ref (z + po.toNat)]) (As := [.int (i32 a1), .int (i32 a2)]) (b := z + px.toNat) fixd hM ⟨callB_of (aOf 186) htg (wsU_In (u := 186) (by decide)) rfl rfl rfl hini hli ⟨m4, m5, m6⟩ ⟨Nat.le_of_ble_eq_true rfl, Nat.le_of_ble_eq_true rfl⟩, hin, hse⟩
      ⟨PcX.blind, hrecv, fun U hU hWm => ⟨congrArg List.toArray eb.symm, (SWd.grow hE hX hbz hz hLs hP hLOK hSR va_S.rf hWm (by rw [hU]; exact Nat.le_refl _) (fun q _ => by rw [hU])).1, fun hg' => by rw [hU]; exact hg hg', XE.warm hWm hU va_S.rf hx⟩⟩ rfl rfl hl1.1 hst' (Nat.le_of_ble_eq_true rfl) dfac_call ⟨Nat.le_of_ble_eq_true rfl, Nat.le_of_ble_eq_true rfl⟩
    intro T hT X
    rcases hR T hT X with ⟨v1, st0, t, T', L, -, -, -, -, -, hF, -⟩ | ⟨q, st0, t, T', L, E, ce, h0, X', hL, e1, e2, hXC, hce, hcv, hcl, st⟩
    · exact False.elim hF
    · obtain ⟨rfl, hS2, hF2⟩ := hXC
      obtain ⟨k1, k2, k3⟩ := vx_keep (A0 := fun q : Nat => z ≤ q) (A1 := fun q : Nat => z ≤ q) (free := fun q : Nat => z ≤ q) h0 e1 va_S.rf (fun _ _ h => h) (fun _ h => h) hL hF2
      have hcast : (Cond.castable "java/util/NoSuchElementException" "java/util/NoSuchElementException").before ([Value.ref (z + px.toNat), .int (i32 a1), .int (i32 a2), .ref (z + po.toNat)] : List Value).toArray s = true := va_Nw.use rfl (hx.1 _ (by decide +kernel))
      suffices kw : W p l e rmF s m ([Value.ref (z + px.toNat), .int (i32 a1), .int (i32 a2), .ref (z + po.toNat)] : List Value).toArray below meth c T'.heap ([] ++ L) (0 + 1) (0 + 6) (MQ below (QcU D cI cJ cB cP z b Ls xs 307 S1 M1 false (0, 1)) ([Value.ref (z + px.toNat), .int (i32 a1), .int (i32 a2), .ref (z + po.toNat)] : List Value).toArray s 1 8 (fun q : Nat => z ≤ q)) (F0 m 13 ls [.ref q]) by
        obtain ⟨t2, a1, b1⟩ := vx_catch (pc := 5) (ls := ls) (rest := [.int (i32 0), .ref (z + po.toNat)]) (H := T'.heap) hown [] ⟨0, 10, 13, 13⟩ [] htab (fun _ h => nomatch h) (by decide) (by decide) (htg _ (gw (tb 1281 (by decide +kernel)) rfl)) hcast (by rw [e1]; exact hce) hcv hcl kw T' rfl X'
        exact ⟨t2, st.trans a1, b1⟩
      refine lv_astore hxx hbb dfac_as hl1 (by decide) rfl fun ls2 hl2 => ?_
      refine lv_iconst hxx hbb dfac_c1 (v := i32 1) rfl ?_
      refine W.widen (k := 1) (n := 8) (Nat.le_of_ble_eq_true rfl) (Nat.le_of_ble_eq_true rfl) ?_
      exact W.iret hxx hbb hrr (fun t' q1 q2 => ⟨rfl, (SWd.grow hE hX hbz hz hLs (by rw [e1]; exact hS2.2.1) hS2.2.2.1 hS2.2.2.2.1 k3 q2 (by rw [q1]; exact Nat.le_refl _) (fun q _ => by rw [q1])).1, va_S.F k3 q1, fun h => nomatch h⟩) k3.2.2 dfac_r1 hlk
  · obtain ⟨h0, m9, rs, hS1, hm9⟩ := h9 hv9
    rw [if_neg hv9, if_neg hv9]
    have hM := sound l D cI cJ cB cP z b Ls xs n 11 186 [(1, px), (0, a1), (0, a2)] S M g v S1 M1 g1 0 0 hrun hv9 (by decide) hsp
    obtain ⟨v1, v2⟩ := v
    dsimp only at h0 ⊢
    subst h0
    refine go_call (S' := S1) (M' := M1) (g' := g1) (r := (0, v2)) (va_runV (H := s.heap) (locs := []) (cells := 0) (slots := 0) (below := below) (R := rmF) (g := F0 m 5 ls ([.int (i32 a2), .int (i32 a1), .ref (z + px.toNat), .int (i32 0), .ref (z + po.toNat)] : List Value)) (rest := [.int (i32 0), .ref (z + po.toNat)]) (As := [.int (i32 a1), .int (i32 a2)]) (b := z + px.toNat) fixd hM ⟨callB_of (aOf 186) htg (wsU_In (u := 186) (by decide)) rfl rfl rfl hini hli ⟨m4, m5, m6⟩ ⟨Nat.le_of_ble_eq_true rfl, Nat.le_of_ble_eq_true rfl⟩, hin, hse⟩
      ⟨SWd.blind, hrecv, fun U hU hWm => ⟨congrArg List.toArray eb.symm, (SWd.grow hE hX hbz hz hLs hP hLOK hSR va_S.rf hWm (by rw [hU]; exact Nat.le_refl _) (fun q _ => by rw [hU])).1, fun hg' => by rw [hU]; exact hg hg'⟩⟩ rfl rfl hl1.1 hst' (Nat.le_of_ble_eq_true rfl) dfac_call ⟨by rw [cu]; exact Nat.le_of_ble_eq_true rfl, by rw [cu]; exact Nat.le_of_ble_eq_true rfl⟩) va_S.rf (fun H1 locs1 p1 p2 p3 p4 _ => ?_)
    rw [cu]
    show W p l e rmF s m _ below meth c H1 locs1 0 0 _ (F0 m 8 ls (.int (i32 v2) :: [.int (i32 0), .ref (z + po.toNat)]))
    refine lv_i2l hxx hbb dfac_i2l (v := i64 (i32 v2).toInt64.toInt) (i64_toInt _).symm ?_
    have he2 := wOf_at (cI := cI) (cJ := cJ) (cB := cB) (cP := cP) (z := z) (b := b) (M := M1) hS1
    have hxl : po.toNat < S1.length := (List.getElem?_eq_some_iff.mp hS1).1
    have hpp : ((po.toNat : Nat) : Int) = po := Int.toNat_of_nonneg hpo
    rw [ent_long, hpp] at he2
    have hm65 : m9 ≤ 65536 := by
      rcases p2 _ _ hS1 with q | q
      · exact absurd (show (2 : Nat) = 0 from q.1) (by decide)
      · exact q.2.2
    obtain ⟨i1, i2⟩ := ix_nat (j := 0) (n := m9) (by decide) (by omega) hm65
    refine va_last hxx hbb hE.1 p1 wOf_D p4 po.toNat 1 (x := i64 ((i32 v2).toInt64.toInt)) he2 rfl i1 dfac_st fun H2 locs2 q1 _ q3 => ?_
    have e3 := wOf_set (cI := cI) (cJ := cJ) (cB := cB) (cP := cP) (z := z) (b := b) (S := S1) (S' := S1) (M := M1) (M' := up M1 po 0 ((i32 v2).toInt64.toInt)) (x := po.toNat) (c' := (2, m9, rs)) rfl hxl hS1 (fun _ _ => rfl) (fun y c2 hy _ => ent_congr (up_row (by omega)))
    rw [hpp, ent_long] at e3
    have ef : (fun k : Nat => i64 (up M1 po 0 ((i32 v2).toInt64.toInt) po k)) = vp_updL (fun k : Nat => i64 (M1 po k)) (i32 0).toNatClampNeg (i64 ((i32 v2).toInt64.toInt)) := by
      funext k
      unfold vp_updL
      rw [i2]
      by_cases hk : k = (0 : Int).toNat
      · subst hk
        rw [if_pos rfl]
        exact congrArg i64 up_eq
      · rw [if_neg hk]
        have hk0 : k ≠ 0 := hk
        rw [up_ne2 (by omega)]
    rw [ef] at e3
    rw [e3] at q1
    have p3' := SR_up p3 (a := po) (k := 0) (v := (i32 v2).toInt64.toInt) hpo
    refine lv_goto hxx hbb dfac_go (tgt := 17) rfl ?_
    refine lv_iconst hxx hbb dfac_c2 (v := i32 0) rfl ?_
    refine W.widen (k := 1) (n := 8) (Nat.le_of_ble_eq_true rfl) (Nat.le_of_ble_eq_true rfl) ?_
    exact W.iret hxx hbb hrr (fun t' r1 r2 => ⟨rfl, (SWd.grow hE hX hbz hz hLs q1 p2 p3' q3 r2 (by rw [r1]; exact Nat.le_refl _) (fun q _ => by rw [r1])).1, va_S.F q3 r1, fun h => nomatch h⟩) q3.2.2 dfac_r2 hlk
theorem drow_ao : decode method_4_code 0 = .ok (.aload_n 2, 1) := by decide +kernel
theorem drow_c0 : decode method_4_code 1 = .ok (.iconst 0, 1) := by decide +kernel
theorem drow_ax : decode method_4_code 2 = .ok (.aload_n 0, 1) := by decide +kernel
theorem drow_i1 : decode method_4_code 3 = .ok (.iload_n 1, 1) := by decide +kernel
theorem drow_call : decode method_4_code 4 = .ok (.invokevirtual 15, 3) := by decide +kernel
theorem drow_st : decode method_4_code 7 = .ok (.lastore, 1) := by decide +kernel
theorem drow_go : decode method_4_code 8 = .ok (.goto 6, 3) := by decide +kernel
theorem drow_as : decode method_4_code 11 = .ok (.astore_n 3, 1) := by decide +kernel
theorem drow_c1 : decode method_4_code 12 = .ok (.iconst 1, 1) := by decide +kernel
theorem drow_r1 : decode method_4_code 13 = .ok (.ireturn, 1) := by decide +kernel
theorem drow_c2 : decode method_4_code 14 = .ok (.iconst 0, 1) := by decide +kernel
theorem drow_r2 : decode method_4_code 15 = .ok (.ireturn, 1) := by decide +kernel
set_option maxRecDepth 100000 in
theorem c_row {l : Launch} (hl : l.stackTraces = false) (D : va_G) (cI cJ cB cP : ClassId) (z b Ls : Nat) (xs : Nat → Int32) {n : Nat} {px a1 po : Int} {S : List Cel} {M : Mem} {g : Bool} {v : AV} {S1 : List Cel} {M1 : Mem} {g1 : Bool}
    (hrun : run n 11 187 (0, entL 187 [(1, px), (0, a1)], [], (S, M, g, 0, 0)) = some (v, (S1, M1, g1, 0, 0))) (hpx : 0 ≤ px) (hcls : clsAt S px 11 = true) (hpo : 0 ≤ po)
    (h9 : v.1 ≠ 9 → v.1 = 2 ∧ ∃ (m9 : Nat) (rs : List Int), S1[po.toNat]? = some (2, m9, rs) ∧ 0 < m9) :
    Met l yR wsR rmF (PcX D cI cJ cB cP z b Ls xs S M g [(1, px), (0, a1), (1, po)]) (QcU D cI cJ cB cP z b Ls xs 307 S1 (if v.1 = 9 then M1 else up M1 po 0 v.2) false (0, if v.1 = 9 then 1 else 0)) 1 8 (fun q : Nat => z ≤ q) := by
  have ea : ([(1, px), (0, a1), (1, po)] : List AV).map (cv z b) = [Value.ref (z + px.toNat), .int (i32 a1), .ref (z + po.toNat)] := by
    show [cv z b (1, px), cv z b (0, a1), cv z b (1, po)] = _
    rw [show cv z b (1, px) = .ref (z + px.toNat) from rfv_cell z b hpx, show cv z b (1, po) = .ref (z + po.toNat) from rfv_cell z b hpo]
    rfl
  have eb : ([(1, px), (0, a1)] : List AV).map (cv z b) = Value.ref (z + px.toNat) :: [.int (i32 a1)] := by
    show [cv z b (1, px), cv z b (0, a1)] = _
    rw [show cv z b (1, px) = .ref (z + px.toNat) from rfv_cell z b hpx]
    rfl
  refine MetofWH (cc := method_4_code) (maxL := 4) (ret := some .int) (hh := [(0, 8, 11, 13)]) (by decide +kernel) rfl ?_
  intro p e s m args below meth c s₁ B hml htab hv
  obtain ⟨harg, hw, hg, hx⟩ := hv
  rw [ea] at harg
  subst harg
  have hts := atoms_spec (ws := wsR) B.pre
  have htg : ∀ w ∈ gw_tbl, w.before ([Value.ref (z + px.toNat), .int (i32 a1), .ref (z + po.toNat)] : List Value).toArray s = true := fun w hw => hts w (List.mem_cons_of_mem _ hw)
  have hown : s.vm.findClass "SkewRingsLaw" = some m.cls := findClass_of_methodNamed B.named
  have hxx := B.exec
  have hbb := B.bytes
  have hrr := B.returns
  have hlk := B.notSynchronized
  have hw' := hw
  obtain ⟨hE, hP, hLOK, hSR, hX, hbz, hz, hLs⟩ := hw
  have hl1 := lv_entry ([Value.ref (z + px.toNat), .int (i32 a1), .ref (z + po.toNat)]) (n := 4) (Nat.le_of_ble_eq_true rfl)
  rw [lg_entry_eq]
  generalize (lg_sl ([Value.ref (z + px.toNat), .int (i32 a1), .ref (z + po.toNat)]) ++ List.replicate (4 - (lg_sl ([Value.ref (z + px.toNat), .int (i32 a1), .ref (z + po.toNat)])).length) Slot.unset).toArray = ls at hl1 ⊢
  have hl1 : lv_has ls 4 [(0, Value.ref (z + px.toNat)), (1, .int (i32 a1)), (2, .ref (z + po.toNat))] := hl1
  refine lv_aload_n hxx hbb drow_ao rfl (lv_at hl1 2 rfl) ?_
  refine lv_iconst hxx hbb drow_c0 (v := i32 0) rfl ?_
  refine lv_aload_n hxx hbb drow_ax rfl (lv_at hl1 0 rfl) ?_
  refine lv_iload_n hxx hbb drow_i1 rfl (lv_at hl1 1 rfl) ?_
  have fixd : CallFix p m c method_4_code 4 s ([Value.ref (z + px.toNat), .int (i32 a1), .ref (z + po.toNat)] : List Value).toArray gw_tbl "SkewRingsLaw" := ⟨hxx, hbb, hml, hown, htg⟩
  obtain ⟨rs0, hcell⟩ : ∃ rs, S[px.toNat]? = some (0, 11, rs) := by
    unfold clsAt at hcls
    split at hcls
    · rename_i ci rs q
      have := of_decide_eq_true hcls
      subst this
      exact ⟨rs, q⟩
    · cases hcls
  have he := wOf_at (cI := cI) (cJ := cJ) (cB := cB) (cP := cP) (z := z) (b := b) (M := M) hcell
  rw [ent_obj] at he
  have hrecv := va_recv hE.1 hP (vwCl_at 11 (by decide)) he
  obtain ⟨m1, m2, -, m4, m5, m6, m7⟩ := MT_ok 187 (by decide)
  have hini : (Cond.initialized (yOf 187).cls).before ([Value.ref (z + px.toNat), .int (i32 a1), .ref (z + po.toNat)] : List Value).toArray s = true := htg _ (gw m2 rfl)
  have hli : (Cond.methodLink "SkewRingsLaw" 15 (yOf 187)).before ([Value.ref (z + px.toNat), .int (i32 a1), .ref (z + po.toNat)] : List Value).toArray s = true := htg _ (gw (tb 1350 (by decide +kernel)) rfl)
  have hin : (Cond.instanceMethod (yOf 187)).before ([Value.ref (z + px.toNat), .int (i32 a1), .ref (z + po.toNat)] : List Value).toArray s = true := htg _ (gw (tb 1351 (by decide +kernel)) rfl)
  have hse : (Cond.selects (cN 11) (yOf 187) (yOf 187)).before ([Value.ref (z + px.toNat), .int (i32 a1), .ref (z + po.toNat)] : List Value).toArray s = true := htg _ (gw (tb 1352 (by decide +kernel)) rfl)
  have cu : cOf 187 = (0, 0) := by decide +kernel
  have hsp : (spread [(1, px), (0, a1)]).length ≤ lOf 187 := Nat.le_of_ble_eq_true rfl
  have hst' : (F0 m 4 ls ([.int (i32 a1), .ref (z + px.toNat), .int (i32 0), .ref (z + po.toNat)] : List Value)).stack = ([.int (i32 a1)] : List Value).reverse ++ .ref (z + px.toNat) :: [.int (i32 0), .ref (z + po.toNat)] := rfl
  by_cases hv9 : v.1 = 9
  · rw [if_pos hv9, if_pos hv9]
    have hM := soundX hl D cI cJ cB cP z b Ls xs (d := 11) (Or.inr rfl : 187 = 186 ∨ 187 = 187) (by decide) hrun hv9 hsp
    have hR := vx_runV (e := e) (meth := meth) (H := s.heap) (locs := []) (cells := 0) (slots := 0) (below := below) (R := rmF) (g := F0 m 4 ls ([.int (i32 a1), .ref (z + px.toNat), .int (i32 0), .ref (z + po.toNat)] : List Value)) (rest := [.int (i32 0), .ref (z + po.toNat)]) (As := [.int (i32 a1)]) (b := z + px.toNat) fixd hM ⟨callB_of (aOf 187) htg (wsU_In (u := 187) (by decide)) rfl rfl rfl hini hli ⟨m4, m5, m6⟩ ⟨Nat.le_of_ble_eq_true rfl, Nat.le_of_ble_eq_true rfl⟩, hin, hse⟩
      ⟨PcX.blind, hrecv, fun U hU hWm => ⟨congrArg List.toArray eb.symm, (SWd.grow hE hX hbz hz hLs hP hLOK hSR va_S.rf hWm (by rw [hU]; exact Nat.le_refl _) (fun q _ => by rw [hU])).1, fun hg' => by rw [hU]; exact hg hg', XE.warm hWm hU va_S.rf hx⟩⟩ rfl rfl hl1.1 hst' (Nat.le_of_ble_eq_true rfl) drow_call ⟨Nat.le_of_ble_eq_true rfl, Nat.le_of_ble_eq_true rfl⟩
    intro T hT X
    rcases hR T hT X with ⟨v1, st0, t, T', L, -, -, -, -, -, hF, -⟩ | ⟨q, st0, t, T', L, E, ce, h0, X', hL, e1, e2, hXC, hce, hcv, hcl, st⟩
    · exact False.elim hF
    · obtain ⟨rfl, hS2, hF2⟩ := hXC
      obtain ⟨k1, k2, k3⟩ := vx_keep (A0 := fun q : Nat => z ≤ q) (A1 := fun q : Nat => z ≤ q) (free := fun q : Nat => z ≤ q) h0 e1 va_S.rf (fun _ _ h => h) (fun _ h => h) hL hF2
      have hcast : (Cond.castable "java/util/NoSuchElementException" "java/util/NoSuchElementException").before ([Value.ref (z + px.toNat), .int (i32 a1), .ref (z + po.toNat)] : List Value).toArray s = true := va_Nw.use rfl (hx.1 _ (by decide +kernel))
      suffices kw : W p l e rmF s m ([Value.ref (z + px.toNat), .int (i32 a1), .ref (z + po.toNat)] : List Value).toArray below meth c T'.heap ([] ++ L) (0 + 1) (0 + 6) (MQ below (QcU D cI cJ cB cP z b Ls xs 307 S1 M1 false (0, 1)) ([Value.ref (z + px.toNat), .int (i32 a1), .ref (z + po.toNat)] : List Value).toArray s 1 8 (fun q : Nat => z ≤ q)) (F0 m 11 ls [.ref q]) by
        obtain ⟨t2, a1, b1⟩ := vx_catch (pc := 4) (ls := ls) (rest := [.int (i32 0), .ref (z + po.toNat)]) (H := T'.heap) hown [] ⟨0, 8, 11, 13⟩ [] htab (fun _ h => nomatch h) (by decide) (by decide) (htg _ (gw (tb 1281 (by decide +kernel)) rfl)) hcast (by rw [e1]; exact hce) hcv hcl kw T' rfl X'
        exact ⟨t2, st.trans a1, b1⟩
      refine lv_astore_n hxx hbb drow_as rfl hl1 (by decide) rfl fun ls2 hl2 => ?_
      refine lv_iconst hxx hbb drow_c1 (v := i32 1) rfl ?_
      refine W.widen (k := 1) (n := 8) (Nat.le_of_ble_eq_true rfl) (Nat.le_of_ble_eq_true rfl) ?_
      exact W.iret hxx hbb hrr (fun t' q1 q2 => ⟨rfl, (SWd.grow hE hX hbz hz hLs (by rw [e1]; exact hS2.2.1) hS2.2.2.1 hS2.2.2.2.1 k3 q2 (by rw [q1]; exact Nat.le_refl _) (fun q _ => by rw [q1])).1, va_S.F k3 q1, fun h => nomatch h⟩) k3.2.2 drow_r1 hlk
  · obtain ⟨h0, m9, rs, hS1, hm9⟩ := h9 hv9
    rw [if_neg hv9, if_neg hv9]
    have hM := sound l D cI cJ cB cP z b Ls xs n 11 187 [(1, px), (0, a1)] S M g v S1 M1 g1 0 0 hrun hv9 (by decide) hsp
    obtain ⟨v1, v2⟩ := v
    dsimp only at h0 ⊢
    subst h0
    refine go_call (S' := S1) (M' := M1) (g' := g1) (r := (2, v2)) (va_runV (H := s.heap) (locs := []) (cells := 0) (slots := 0) (below := below) (R := rmF) (g := F0 m 4 ls ([.int (i32 a1), .ref (z + px.toNat), .int (i32 0), .ref (z + po.toNat)] : List Value)) (rest := [.int (i32 0), .ref (z + po.toNat)]) (As := [.int (i32 a1)]) (b := z + px.toNat) fixd hM ⟨callB_of (aOf 187) htg (wsU_In (u := 187) (by decide)) rfl rfl rfl hini hli ⟨m4, m5, m6⟩ ⟨Nat.le_of_ble_eq_true rfl, Nat.le_of_ble_eq_true rfl⟩, hin, hse⟩
      ⟨SWd.blind, hrecv, fun U hU hWm => ⟨congrArg List.toArray eb.symm, (SWd.grow hE hX hbz hz hLs hP hLOK hSR va_S.rf hWm (by rw [hU]; exact Nat.le_refl _) (fun q _ => by rw [hU])).1, fun hg' => by rw [hU]; exact hg hg'⟩⟩ rfl rfl hl1.1 hst' (Nat.le_of_ble_eq_true rfl) drow_call ⟨by rw [cu]; exact Nat.le_of_ble_eq_true rfl, by rw [cu]; exact Nat.le_of_ble_eq_true rfl⟩) va_S.rf (fun H1 locs1 p1 p2 p3 p4 _ => ?_)
    rw [cu]
    show W p l e rmF s m _ below meth c H1 locs1 0 0 _ (F0 m 7 ls (.long (i64 v2) :: [.int (i32 0), .ref (z + po.toNat)]))
    have he2 := wOf_at (cI := cI) (cJ := cJ) (cB := cB) (cP := cP) (z := z) (b := b) (M := M1) hS1
    have hxl : po.toNat < S1.length := (List.getElem?_eq_some_iff.mp hS1).1
    have hpp : ((po.toNat : Nat) : Int) = po := Int.toNat_of_nonneg hpo
    rw [ent_long, hpp] at he2
    have hm65 : m9 ≤ 65536 := by
      rcases p2 _ _ hS1 with q | q
      · exact absurd (show (2 : Nat) = 0 from q.1) (by decide)
      · exact q.2.2
    obtain ⟨i1, i2⟩ := ix_nat (j := 0) (n := m9) (by decide) (by omega) hm65
    refine va_last hxx hbb hE.1 p1 wOf_D p4 po.toNat 1 (x := i64 (v2)) he2 rfl i1 drow_st fun H2 locs2 q1 _ q3 => ?_
    have e3 := wOf_set (cI := cI) (cJ := cJ) (cB := cB) (cP := cP) (z := z) (b := b) (S := S1) (S' := S1) (M := M1) (M' := up M1 po 0 (v2)) (x := po.toNat) (c' := (2, m9, rs)) rfl hxl hS1 (fun _ _ => rfl) (fun y c2 hy _ => ent_congr (up_row (by omega)))
    rw [hpp, ent_long] at e3
    have ef : (fun k : Nat => i64 (up M1 po 0 (v2) po k)) = vp_updL (fun k : Nat => i64 (M1 po k)) (i32 0).toNatClampNeg (i64 (v2)) := by
      funext k
      unfold vp_updL
      rw [i2]
      by_cases hk : k = (0 : Int).toNat
      · subst hk
        rw [if_pos rfl]
        exact congrArg i64 up_eq
      · rw [if_neg hk]
        have hk0 : k ≠ 0 := hk
        rw [up_ne2 (by omega)]
    rw [ef] at e3
    rw [e3] at q1
    have p3' := SR_up p3 (a := po) (k := 0) (v := v2) hpo
    refine lv_goto hxx hbb drow_go (tgt := 14) rfl ?_
    refine lv_iconst hxx hbb drow_c2 (v := i32 0) rfl ?_
    refine W.widen (k := 1) (n := 8) (Nat.le_of_ble_eq_true rfl) (Nat.le_of_ble_eq_true rfl) ?_
    exact W.iret hxx hbb hrr (fun t' r1 r2 => ⟨rfl, (SWd.grow hE hX hbz hz hLs q1 p2 p3' q3 r2 (by rw [r1]; exact Nat.le_refl _) (fun q _ => by rw [r1])).1, va_S.F q3 r1, fun h => nomatch h⟩) q3.2.2 drow_r2 hlk
