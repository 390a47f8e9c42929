/-! the law's own numbers(c, q) -/
def lf (l : List Nat) : Nat → Int32 := fun j => nI (l.getD j 0)
theorem lf_nil : lf [] = fun _ => 0 := by
  funext j
  unfold lf
  rw [List.getD_nil]
  rfl
theorem lf_snoc (l : List Nat) (c : Nat) : upd (lf l) l.length (nI c) = lf (l ++ [c]) := by
  funext j
  unfold lf
  by_cases h : j = l.length
  · subst h
    rw [pk_us]
    simp
  · rw [pk_un h]
    congr 1
    simp only [List.getD_eq_getElem?_getD]
    by_cases h2 : j < l.length
    · rw [List.getElem?_append_left h2]
    · rw [List.getElem?_eq_none (by omega), List.getElem?_eq_none (by simp; omega)]
theorem lf_app (l m : List Nat) {g : Nat → Int32} (hg : ∀ j, j < m.length → g j = nI (m.getD j 0)) : va_cpy g (lf l) 0 l.length m.length = lf (l ++ m) := by
  funext j
  by_cases h : l.length ≤ j ∧ j < l.length + m.length
  · rw [pk_cpy_in h.1 h.2, Nat.zero_add, hg _ (by omega)]
    unfold lf
    congr 1
    simp only [List.getD_eq_getElem?_getD]
    rw [List.getElem?_append_right h.1]
  · rw [pk_cpy_out (by omega)]
    unfold lf
    congr 1
    simp only [List.getD_eq_getElem?_getD]
    by_cases h2 : j < l.length
    · rw [List.getElem?_append_left h2]
    · rw [List.getElem?_eq_none (by omega), List.getElem?_eq_none (by simp; omega)]
theorem lf_cpy (l : List Nat) : va_cpy (lf l) (fun _ => 0) 0 0 l.length = lf l := by
  funext j
  by_cases h : j < l.length
  · rw [pk_cpy_in (Nat.zero_le j) (by omega)]
    congr 1
    omega
  · rw [pk_cpy_out (by omega)]
    unfold lf
    simp only [List.getD_eq_getElem?_getD]
    rw [List.getElem?_eq_none (by omega)]
    rfl
theorem vI_ok {c q : Int} (hq : 1 ≤ q ∧ q ≤ 16) (k : Nat) : vI c q k = nI (vN c q k) ∧ vN c q k < q.toNat := by
  have key : ∃ j : Nat, j < q.toNat ∧ vI c q k = nI j := by
    unfold vI
    obtain ⟨j, hj, e⟩ := pk_andE (m := 15) (((i32 c).toUInt32 >>> ((nI (4 + 4 * k)).toUInt32 &&& Int32.toUInt32 31)).toInt32) 4 (by decide)
    have eq : i32 q = nI q.toNat := by
      have := i32_nat q.toNat
      rw [Int.toNat_of_nonneg (by omega)] at this
      exact this
    refine ⟨j % q.toNat, Nat.mod_lt _ (by omega), ?_⟩
    show (fun x : Int32 => x - x / i32 q * i32 q) _ = _
    rw [e, eq]
    exact pk_rem (by omega) (by omega) (by omega)
  obtain ⟨j, h1, h2⟩ := key
  have e : vN c q k = j := by
    unfold vN
    rw [h2, nI_toInt (by omega)]
    rfl
  rw [e]
  exact ⟨h2, h1⟩
theorem tnum_ok (c : Int) : 1 + (i32 c &&& 3) = nI (tnum c) ∧ 1 ≤ tnum c ∧ tnum c ≤ 4 := by
  obtain ⟨j, hj, e⟩ := pk_andE (m := 3) (i32 c) 2 (by decide)
  have e1 : 1 + (i32 c &&& 3) = nI (1 + j) := by rw [e]; exact nI_add 1 j
  have e2 : tnum c = 1 + j := by
    unfold tnum
    rw [e1, nI_toInt (by omega)]
    rfl
  rw [e2]
  exact ⟨e1, by omega, by omega⟩
theorem dgs_len {v : Nat} : 1 ≤ (dgs v).length ∧ (dgs v).length ≤ 2 := by
  unfold dgs
  split <;> simp
theorem dgs_lt {v : Nat} (hv : v < 100) : ∀ x ∈ dgs v, x < 128 := by
  intro x hx
  unfold dgs at hx
  split at hx <;> simp at hx <;> omega
theorem tl_len {c q : Int} : ∀ k : Nat, (tl c q k).length ≤ 3 * k
  | 0 => Nat.le_refl 0
  | k + 1 => by
    have h1 := tl_len (c := c) (q := q) k
    have h2 := (dgs_len (v := vN c q k)).2
    unfold tl
    rw [List.length_append, List.length_append]
    split <;> simp <;> omega
theorem tl_lt {c q : Int} (hq : 1 ≤ q ∧ q ≤ 16) : ∀ (k : Nat), ∀ x ∈ tl c q k, x < 128
  | 0, x, hx => by cases hx
  | k + 1, x, hx => by
    unfold tl at hx
    rcases List.mem_append.mp hx with hx | hx
    · rcases List.mem_append.mp hx with hx | hx
      · exact tl_lt hq k x hx
      · split at hx
        · simp at hx; omega
        · cases hx
    · have := (vI_ok (c := c) hq k).2
      exact dgs_lt (by omega) x hx
theorem lf_fit {l : List Nat} (h : ∀ x ∈ l, x < 128) (i : Nat) : fits .byte (.int (lf l i)) = true := by
  unfold lf
  refine j_bfit _ ?_
  simp only [List.getD_eq_getElem?_getD]
  by_cases h2 : i < l.length
  · rw [List.getElem?_eq_getElem h2]
    exact h _ (List.getElem_mem h2)
  · rw [List.getElem?_eq_none (by omega)]
    decide
theorem g1_ok {v : Nat} (hv : v < 10) : ∀ j, j < (dgs v).length → upd (fun _ => 0) 0 (nI (48 + v % 10)) j = nI ((dgs v).getD j 0) := by
  intro j hj
  have e : dgs v = [48 + v] := by unfold dgs; rw [if_pos hv]
  rw [e] at hj ⊢
  have : j = 0 := by simp at hj; omega
  subst this
  rw [pk_us, Nat.mod_eq_of_lt hv]
  rfl
theorem g2_ok {v : Nat} (hv : 10 ≤ v) : ∀ j, j < (dgs v).length → upd (upd (fun _ => 0) 1 (nI (48 + v % 10))) 0 (nI (48 + v / 10)) j = nI ((dgs v).getD j 0) := by
  intro j hj
  have e : dgs v = [48 + v / 10, 48 + v % 10] := by unfold dgs; rw [if_neg (by omega)]
  rw [e] at hj ⊢
  have : j = 0 ∨ j = 1 := by simp at hj; omega
  rcases this with rfl | rfl
  · rw [pk_us]; rfl
  · rw [pk_un (by decide), pk_us]; rfl
theorem j_to {p : Program} {l : Launch} {e : Env} {R : Room} {s : State} {m : MethodId} {args : Array Value} {below : List Frame} {meth : Method} {c : Code} {Q : State → Prop} {D : va_G} {zz nL : Nat} {ws ws3 : va_W} {cells slots pc : Nat} {lv : List (Nat × Value)} {st : List Value} (is : List Nat) (ws2 : va_W) (hn : va_nd is = true) (he : is.filterMap (fun i => ws[i]?) = ws2) (hs : is.map (fun i => ws[i]?) = ws2.map some) (hw : ws2 = ws3) (h : JG p l e R s m args below meth c Q D zz nL ws3 cells slots pc lv st) : JG p l e R s m args below meth c Q D zz nL ws cells slots pc lv st :=
  fun H locs ls hP hD hS hL => h H locs ls (by rw [← hw]; exact hP.sub is he) (by rw [← hw]; exact hD.sub is hn hs) hS hL
theorem dj_method_4_code_17 : decode method_4_code 17 = .ok (.iload 4, 2) := by decide +kernel
theorem dj_method_4_code_19 : decode method_4_code 19 = .ok (.iload_n 3, 1) := by decide +kernel
theorem dj_method_4_code_20 : decode method_4_code 20 = .ok (.if_icmp .ge (42), 3) := by decide +kernel
theorem dj_method_4_code_62 : decode method_4_code 62 = .ok (.aload_n 2, 1) := by decide +kernel
theorem dj_method_4_code_63 : decode method_4_code 63 = .ok (.invokevirtual 43, 3) := by decide +kernel
theorem dj_method_4_code_66 : decode method_4_code 66 = .ok (.areturn, 1) := by decide +kernel
theorem dj_method_4_code_35 : decode method_4_code 35 = .ok (.aload_n 2, 1) := by decide +kernel
theorem dj_method_4_code_36 : decode method_4_code 36 = .ok (.iload_n 0, 1) := by decide +kernel
theorem dj_method_4_code_37 : decode method_4_code 37 = .ok (.iconst (4), 1) := by decide +kernel
theorem dj_method_4_code_38 : decode method_4_code 38 = .ok (.iconst (4), 1) := by decide +kernel
theorem dj_method_4_code_39 : decode method_4_code 39 = .ok (.iload 4, 2) := by decide +kernel
theorem dj_method_4_code_41 : decode method_4_code 41 = .ok (.imul, 1) := by decide +kernel
theorem dj_method_4_code_42 : decode method_4_code 42 = .ok (.iadd, 1) := by decide +kernel
theorem dj_method_4_code_43 : decode method_4_code 43 = .ok (.iushr, 1) := by decide +kernel
theorem dj_method_4_code_44 : decode method_4_code 44 = .ok (.bipush (15), 2) := by decide +kernel
theorem dj_method_4_code_46 : decode method_4_code 46 = .ok (.iand, 1) := by decide +kernel
theorem dj_method_4_code_47 : decode method_4_code 47 = .ok (.iload_n 1, 1) := by decide +kernel
theorem dj_method_4_code_48 : decode method_4_code 48 = .ok (.irem, 1) := by decide +kernel
theorem dj_method_4_code_49 : decode method_4_code 49 = .ok (.invokestatic 34, 3) := by decide +kernel
theorem dj_method_4_code_52 : decode method_4_code 52 = .ok (.invokevirtual 40, 3) := by decide +kernel
theorem dj_method_4_code_55 : decode method_4_code 55 = .ok (.pop, 1) := by decide +kernel
theorem dj_method_4_code_56 : decode method_4_code 56 = .ok (.iinc 4 (1), 3) := by decide +kernel
theorem dj_method_4_code_59 : decode method_4_code 59 = .ok (.goto (-42), 3) := by decide +kernel
theorem dj_method_4_code_23 : decode method_4_code 23 = .ok (.iload 4, 2) := by decide +kernel
theorem dj_method_4_code_25 : decode method_4_code 25 = .ok (.ifCond .le (10), 3) := by decide +kernel
theorem dj_method_4_code_28 : decode method_4_code 28 = .ok (.aload_n 2, 1) := by decide +kernel
theorem dj_method_4_code_29 : decode method_4_code 29 = .ok (.bipush (44), 2) := by decide +kernel
theorem dj_method_4_code_31 : decode method_4_code 31 = .ok (.invokevirtual 30, 3) := by decide +kernel
theorem dj_method_4_code_34 : decode method_4_code 34 = .ok (.pop, 1) := by decide +kernel
theorem dj_method_4_code_0 : decode method_4_code 0 = .ok (.new 27, 3) := by decide +kernel
theorem dj_method_4_code_3 : decode method_4_code 3 = .ok (.dup, 1) := by decide +kernel
theorem dj_method_4_code_4 : decode method_4_code 4 = .ok (.invokespecial 29, 3) := by decide +kernel
theorem dj_method_4_code_7 : decode method_4_code 7 = .ok (.astore_n 2, 1) := by decide +kernel
theorem dj_method_4_code_8 : decode method_4_code 8 = .ok (.iconst (1), 1) := by decide +kernel
theorem dj_method_4_code_9 : decode method_4_code 9 = .ok (.iload_n 0, 1) := by decide +kernel
theorem dj_method_4_code_10 : decode method_4_code 10 = .ok (.iconst (3), 1) := by decide +kernel
theorem dj_method_4_code_11 : decode method_4_code 11 = .ok (.iand, 1) := by decide +kernel
theorem dj_method_4_code_12 : decode method_4_code 12 = .ok (.iadd, 1) := by decide +kernel
theorem dj_method_4_code_13 : decode method_4_code 13 = .ok (.istore_n 3, 1) := by decide +kernel
theorem dj_method_4_code_14 : decode method_4_code 14 = .ok (.iconst (0), 1) := by decide +kernel
theorem dj_method_4_code_15 : decode method_4_code 15 = .ok (.istore 4, 2) := by decide +kernel
set_option maxRecDepth 100000 in
theorem num_loop {p : Program} {l : Launch} {e : Env} {R : Room} {s : State} {m : MethodId} {args : Array Value} {below : List Frame} {meth : Method} {c : Code} {D : va_G} {cB : ClassId} {zz : Nat} (C : JX p s m args c R D cB zz 8 14 80 method_4_code 5 "SkewRingsLaw") (hr : meth.sig.returnType = (some (.object "java/lang/String"))) (hlk : meth.locks = false) {c9 q : Int} (hq : 1 ≤ q ∧ q ≤ 16) (b da : Nat) : ∀ (r k : Nat), k + r = tnum c9 →
    JG p l e R s m args below meth c (MQ below (JQc D zz (fun u => some (.ref u.1)) (fun u => [jST u.1 u.2, jBY cB u.2 (txt c9 q).length (lf (txt c9 q))])) args s 14 80 (Az zz)) D zz 5 [jSB b da (tl c9 q k).length, jBY cB da 16 (lf (tl c9 q k))] (2 + 2 * k) (20 + 6 * k) 17 [(4, .int (nI k)), (3, .int (nI (tnum c9))), (2, .ref b), (0, .int (i32 c9)), (1, .int (i32 q))] [] := by
  intro r
  induction r with
  | zero =>
    intro k hk
    have hl := tl_len (c := c9) (q := q) k
    have h4 := (tnum_ok c9).2.2
    refine j_il C 0 dj_method_4_code_17 rfl ?_
    refine j_iln C 1 dj_method_4_code_19 rfl rfl ?_
    refine j_ge2 C 62 dj_method_4_code_20 (by decide) (fun _ => ?_) (fun h_ => absurd h_ (not_not_intro (nI_le (show tnum c9 ≤ k by omega) (by omega))))
    refine j_aln C 2 dj_method_4_code_62 rfl rfl ?_
    refine j_callV C (n := 0) (rest := []) 0 rfl (ci := 0) rfl rfl (jc_tos (show (tl c9 q k).length < 16 by omega) (by decide) (fun i _ => lf_fit (tl_lt hq k) i)) (jm (tb 1360 (by decide +kernel)) rfl) (jm (tb 49 (by decide +kernel)) rfl) (jm (tb 1357 (by decide +kernel)) rfl) (jm (tb 1358 (by decide +kernel)) rfl) (jm (tb 1359 (by decide +kernel)) rfl) (by decide +kernel) rfl (by decide) (by omega) (Nat.le_of_ble_eq_true rfl) dj_method_4_code_63 fun u63 => ?_
    refine j_to [2, 3] [jST u63.1 u63.2, jBY cB u63.2 (tl c9 q k).length (va_cpy (lf (tl c9 q k)) (fun _ => 0) 0 0 (tl c9 q k).length)] (by decide) rfl rfl (by rw [lf_cpy]) ?_
    have ek : txt c9 q = tl c9 q k := by unfold txt; rw [show tnum c9 = k by omega]
    exact j_aret C (Or.inl ⟨_, rfl⟩) hr hlk (u63.1, u63.2) rfl (by rw [ek]) (by omega) (by omega) dj_method_4_code_66
  | succ r ih =>
    intro k hk
    have hl := tl_len (c := c9) (q := q) k
    have h4 := (tnum_ok c9).2.2
    obtain ⟨hv, hvq⟩ := vI_ok (c := c9) hq k
    have hq0 : ¬ i32 q = 0 := by
      have eq : i32 q = nI q.toNat := by
        have := i32_nat q.toNat
        rw [Int.toNat_of_nonneg (by omega)] at this
        exact this
      rw [eq]
      exact nI_ne0 (by omega) (by omega)
    -- behind the comma
    have key : ∀ L : List Nat, L = tl c9 q k ++ (if 0 < k then [44] else []) → L.length ≤ 3 * k + 1 →
        JG p l e R s m args below meth c (MQ below (JQc D zz (fun u => some (.ref u.1)) (fun u => [jST u.1 u.2, jBY cB u.2 (txt c9 q).length (lf (txt c9 q))])) args s 14 80 (Az zz)) D zz 5 [jSB b da L.length, jBY cB da 16 (lf L)] (2 + 2 * k) (20 + 6 * k) 35 [(4, .int (nI k)), (3, .int (nI (tnum c9))), (2, .ref b), (0, .int (i32 c9)), (1, .int (i32 q))] [] := by
      intro L hL hL2
      have e5 : tl c9 q (k + 1) = L ++ dgs (vN c9 q k) := by rw [hL]; rfl
      refine j_aln C 2 dj_method_4_code_35 rfl rfl ?_
      refine j_iln C 3 dj_method_4_code_36 rfl rfl ?_
      refine j_ic C (v := 4) dj_method_4_code_37 (by decide) ?_
      refine j_ic C (v := 4) dj_method_4_code_38 (by decide) ?_
      refine j_il C 0 dj_method_4_code_39 rfl ?_
      refine j_imul C dj_method_4_code_41 (pk_mul 4 k) ?_
      refine j_iadd C dj_method_4_code_42 (nI_add 4 (4 * k)) ?_
      refine j_iushr C dj_method_4_code_43 rfl ?_
      refine j_bi C (v := 15) dj_method_4_code_44 (by decide) ?_
      refine j_iand C dj_method_4_code_46 rfl ?_
      refine j_iln C 4 dj_method_4_code_47 rfl rfl ?_
      refine j_irem C dj_method_4_code_48 hq0 (show _ = nI (vN c9 q k) from hv) ?_
      by_cases h10 : vN c9 q k < 10
      · have ed : dgs (vN c9 q k) = [48 + vN c9 q k] := by unfold dgs; rw [if_pos h10]
        have hgd := g1_ok h10
        have hfit : ∀ i, i < 1 → fits .byte (.int (upd (fun _ => 0) 0 (nI (48 + vN c9 q k % 10)) i)) = true := fun i hi => by
          rw [hgd i (by rw [ed]; exact hi)]
          exact lf_fit (dgs_lt (show vN c9 q k < 100 by omega)) i
        refine j_callS C (n := 1) (rest := [_]) (jc_ts1 h10) (jm (tb 1284 (by decide +kernel)) rfl) (jm (tb 58 (by decide +kernel)) rfl) (jm (tb 1282 (by decide +kernel)) rfl) (jm (tb 1283 (by decide +kernel)) rfl) (by decide +kernel) rfl (by decide) (by omega) (Nat.le_of_ble_eq_true rfl) dj_method_4_code_49 fun u49 => ?_
        refine j_callV C (n := 1) (rest := []) 0 rfl (ci := 0) rfl rfl (jc_apSS (n := L.length) (w := 1) (N := 16) (by omega) (by decide) hfit) (jm (tb 1321 (by decide +kernel)) rfl) (jm (tb 49 (by decide +kernel)) rfl) (jm (tb 1318 (by decide +kernel)) rfl) (jm (tb 1319 (by decide +kernel)) rfl) (jm (tb 1320 (by decide +kernel)) rfl) (by decide +kernel) rfl (by decide) (by omega) (Nat.le_of_ble_eq_true rfl) dj_method_4_code_52 fun u52 => ?_
        refine j_pop C dj_method_4_code_55 rfl ?_
        refine j_inc C (k := 0) dj_method_4_code_56 rfl (nI_1 k) (by decide) rfl ?_
        refine j_goto C 17 dj_method_4_code_59 (by decide) ?_
        refine j_to [0, 1] [jSB b da (L.length + 1), jBY cB da 16 (va_cpy (upd (fun _ => 0) 0 (nI (48 + vN c9 q k % 10))) (lf L) 0 L.length 1)] (ws3 := [jSB b da (tl c9 q (k + 1)).length, jBY cB da 16 (lf (tl c9 q (k + 1)))]) (by decide) rfl rfl (by rw [e5, ← lf_app L _ hgd, List.length_append, ed]; rfl) ?_
        exact j_widen (k := 2 + 2 * (k + 1)) (n := 20 + 6 * (k + 1)) (by omega) (by omega) (ih (k + 1) (by omega))
      · have ed : dgs (vN c9 q k) = [48 + vN c9 q k / 10, 48 + vN c9 q k % 10] := by unfold dgs; rw [if_neg h10]
        have hgd := g2_ok (v := vN c9 q k) (by omega)
        have hfit : ∀ i, i < 2 → fits .byte (.int ((upd (upd (fun _ => 0) 1 (nI (48 + vN c9 q k % 10))) 0 (nI (48 + vN c9 q k / 10))) i)) = true := fun i hi => by
          rw [hgd i (by rw [ed]; exact hi)]
          exact lf_fit (dgs_lt (show vN c9 q k < 100 by omega)) i
        refine j_callS C (n := 1) (rest := [_]) (jc_ts2 (show vN c9 q k < 100 by omega) (by omega)) (jm (tb 1284 (by decide +kernel)) rfl) (jm (tb 58 (by decide +kernel)) rfl) (jm (tb 1282 (by decide +kernel)) rfl) (jm (tb 1283 (by decide +kernel)) rfl) (by decide +kernel) rfl (by decide) (by omega) (Nat.le_of_ble_eq_true rfl) dj_method_4_code_49 fun u49 => ?_
        refine j_callV C (n := 1) (rest := []) 0 rfl (ci := 0) rfl rfl (jc_apSS (n := L.length) (w := 2) (N := 16) (by omega) (by decide) hfit) (jm (tb 1321 (by decide +kernel)) rfl) (jm (tb 49 (by decide +kernel)) rfl) (jm (tb 1318 (by decide +kernel)) rfl) (jm (tb 1319 (by decide +kernel)) rfl) (jm (tb 1320 (by decide +kernel)) rfl) (by decide +kernel) rfl (by decide) (by omega) (Nat.le_of_ble_eq_true rfl) dj_method_4_code_52 fun u52 => ?_
        refine j_pop C dj_method_4_code_55 rfl ?_
        refine j_inc C (k := 0) dj_method_4_code_56 rfl (nI_1 k) (by decide) rfl ?_
        refine j_goto C 17 dj_method_4_code_59 (by decide) ?_
        refine j_to [0, 1] [jSB b da (L.length + 2), jBY cB da 16 (va_cpy (upd (upd (fun _ => 0) 1 (nI (48 + vN c9 q k % 10))) 0 (nI (48 + vN c9 q k / 10))) (lf L) 0 L.length 2)] (ws3 := [jSB b da (tl c9 q (k + 1)).length, jBY cB da 16 (lf (tl c9 q (k + 1)))]) (by decide) rfl rfl (by rw [e5, ← lf_app L _ hgd, List.length_append, ed]; rfl) ?_
        exact j_widen (k := 2 + 2 * (k + 1)) (n := 20 + 6 * (k + 1)) (by omega) (by omega) (ih (k + 1) (by omega))
    refine j_il C 0 dj_method_4_code_17 rfl ?_
    refine j_iln C 1 dj_method_4_code_19 rfl rfl ?_
    refine j_ge2 C 62 dj_method_4_code_20 (by decide) (fun h_ => absurd h_ (nI_ge (show k < tnum c9 by omega) (by omega))) (fun _ => ?_)
    refine j_il C 0 dj_method_4_code_23 rfl ?_
    refine j_le C 35 dj_method_4_code_25 (by decide) (fun h_ => ?_) (fun h_ => ?_)
    · have hk0 : k = 0 := by
        rcases Nat.eq_zero_or_pos k with h | h
        · exact h
        · exact absurd h_ (nI_nle h (by omega))
      exact key _ (by rw [hk0]; rfl) (by omega)
    · have hk0 : 0 < k := by
        rcases Nat.eq_zero_or_pos k with h | h
        · subst h; exact absurd (show nI 0 ≤ 0 by decide) h_
        · exact h
      refine j_aln C 2 dj_method_4_code_28 rfl rfl ?_
      refine j_bi C (v := 44) dj_method_4_code_29 (by decide) ?_
      refine j_callV C (n := 1) (rest := []) 0 rfl (ci := 0) rfl rfl (jc_apCS (n := (tl c9 q k).length) (N := 16) (ch := 44) (by omega) (by decide) (by decide)) (jm (tb 1212 (by decide +kernel)) rfl) (jm (tb 49 (by decide +kernel)) rfl) (jm (tb 1209 (by decide +kernel)) rfl) (jm (tb 1210 (by decide +kernel)) rfl) (jm (tb 1211 (by decide +kernel)) rfl) (by decide +kernel) rfl (by decide) (by omega) (Nat.le_of_ble_eq_true rfl) dj_method_4_code_31 fun u31 => ?_
      refine j_pop C dj_method_4_code_34 rfl ?_
      have hlen : (tl c9 q k ++ [44]).length = (tl c9 q k).length + 1 := by rw [List.length_append]; rfl
      have kk := key (tl c9 q k ++ [44]) (by rw [if_pos hk0]) (by omega)
      rw [hlen, ← lf_snoc] at kk
      exact kk
set_option maxRecDepth 100000 in
theorem jc_num {l : Launch} {D : va_G} {cB : ClassId} {zz : Nat} {c9 q : Int} (hq : 1 ≤ q ∧ q ≤ 16) : JM l D cB zz ⟨"SkewRingsLaw", "numbers", "(II)Ljava/lang/String;"⟩ method_4_code 5 (some (.object "java/lang/String")) 8 14 80 [.int (i32 c9), .int (i32 q)] [] (fun u => some (.ref u.1)) (fun u => [jST u.1 u.2, jBY cB u.2 (txt c9 q).length (lf (txt c9 q))]) := by
  refine j_of (own := "SkewRingsLaw") (by decide +kernel) rfl (Nat.le_of_ble_eq_true rfl) fun p e s m below meth c R C hr hlk hnm => ?_
  refine j_newB C (jm (tb 1178 (by decide +kernel)) rfl) (by decide) (by decide) dj_method_4_code_0 fun q0 => ?_
  refine j_dup C dj_method_4_code_3 rfl ?_
  refine j_callI C (n := 0) (rest := [_]) (jc_sbI ) (jm (tb 1182 (by decide +kernel)) rfl) (jm (tb 49 (by decide +kernel)) rfl) (jm (tb 1180 (by decide +kernel)) rfl) rfl (jm (tb 1181 (by decide +kernel)) rfl) (by decide +kernel) rfl (by decide) (by decide) (Nat.le_of_ble_eq_true rfl) dj_method_4_code_4 fun u4 => ?_
  refine j_asn C dj_method_4_code_7 rfl (by decide) rfl ?_
  refine j_ic C (v := 1) dj_method_4_code_8 (by decide) ?_
  refine j_iln C 1 dj_method_4_code_9 rfl rfl ?_
  refine j_ic C (v := 3) dj_method_4_code_10 (by decide) ?_
  refine j_iand C dj_method_4_code_11 rfl ?_
  refine j_iadd C dj_method_4_code_12 (tnum_ok c9).1 ?_
  refine j_isn C dj_method_4_code_13 rfl (by decide) rfl ?_
  refine j_ic C (v := 0) dj_method_4_code_14 (by decide) ?_
  refine j_is C dj_method_4_code_15 (by decide) rfl ?_
  have K := num_loop (l := l) (e := e) (below := below) C hr hlk hq q0 u4.1 (tnum c9) 0 (Nat.zero_add _)
  rw [show tl c9 q 0 = [] from rfl, lf_nil] at K
  exact K
