/-! say(o, text): its walk -/
theorem dj_method_3_code_48 : decode method_3_code 48 = .ok (.ior, 1) := by decide +kernel
theorem dj_method_3_code_49 : decode method_3_code 49 = .ok (.istore_n 3, 1) := by decide +kernel
theorem dj_method_3_code_50 : decode method_3_code 50 = .ok (.iinc 4 (1), 3) := by decide +kernel
theorem dj_method_3_code_53 : decode method_3_code 53 = .ok (.goto (-38), 3) := by decide +kernel
theorem dj_method_3_code_15 : decode method_3_code 15 = .ok (.iload 4, 2) := by decide +kernel
theorem dj_method_3_code_17 : decode method_3_code 17 = .ok (.iconst (4), 1) := by decide +kernel
theorem dj_method_3_code_18 : decode method_3_code 18 = .ok (.if_icmp .ge (38), 3) := by decide +kernel
theorem dj_method_3_code_21 : decode method_3_code 21 = .ok (.iload_n 3, 1) := by decide +kernel
theorem dj_method_3_code_22 : decode method_3_code 22 = .ok (.bipush (8), 2) := by decide +kernel
theorem dj_method_3_code_24 : decode method_3_code 24 = .ok (.ishl, 1) := by decide +kernel
theorem dj_method_3_code_25 : decode method_3_code 25 = .ok (.iload_n 2, 1) := by decide +kernel
theorem dj_method_3_code_26 : decode method_3_code 26 = .ok (.iload 4, 2) := by decide +kernel
theorem dj_method_3_code_28 : decode method_3_code 28 = .ok (.iadd, 1) := by decide +kernel
theorem dj_method_3_code_29 : decode method_3_code 29 = .ok (.aload_n 1, 1) := by decide +kernel
theorem dj_method_3_code_30 : decode method_3_code 30 = .ok (.invokevirtual 7, 3) := by decide +kernel
theorem dj_method_3_code_33 : decode method_3_code 33 = .ok (.if_icmp .ge (14), 3) := by decide +kernel
theorem dj_method_3_code_47 : decode method_3_code 47 = .ok (.iconst (0), 1) := by decide +kernel
theorem dj_method_3_code_36 : decode method_3_code 36 = .ok (.aload_n 1, 1) := by decide +kernel
theorem dj_method_3_code_37 : decode method_3_code 37 = .ok (.iload_n 2, 1) := by decide +kernel
theorem dj_method_3_code_38 : decode method_3_code 38 = .ok (.iload 4, 2) := by decide +kernel
theorem dj_method_3_code_40 : decode method_3_code 40 = .ok (.iadd, 1) := by decide +kernel
theorem dj_method_3_code_41 : decode method_3_code 41 = .ok (.invokevirtual 13, 3) := by decide +kernel
theorem dj_method_3_code_44 : decode method_3_code 44 = .ok (.goto (4), 3) := by decide +kernel
theorem dj_method_3_code_2 : decode method_3_code 2 = .ok (.iload_n 2, 1) := by decide +kernel
theorem dj_method_3_code_3 : decode method_3_code 3 = .ok (.aload_n 1, 1) := by decide +kernel
theorem dj_method_3_code_4 : decode method_3_code 4 = .ok (.invokevirtual 7, 3) := by decide +kernel
theorem dj_method_3_code_7 : decode method_3_code 7 = .ok (.if_icmp .ge (61), 3) := by decide +kernel
theorem dj_method_3_code_68 : decode method_3_code 68 = .ok (.aload_n 0, 1) := by decide +kernel
theorem dj_method_3_code_69 : decode method_3_code 69 = .ok (.aload_n 1, 1) := by decide +kernel
theorem dj_method_3_code_70 : decode method_3_code 70 = .ok (.invokevirtual 7, 3) := by decide +kernel
theorem dj_method_3_code_73 : decode method_3_code 73 = .ok (.invokevirtual 23, 3) := by decide +kernel
theorem dj_method_3_code_76 : decode method_3_code 76 = .ok (.pop, 1) := by decide +kernel
theorem dj_method_3_code_77 : decode method_3_code 77 = .ok (.return_, 1) := by decide +kernel
theorem dj_method_3_code_10 : decode method_3_code 10 = .ok (.iconst (0), 1) := by decide +kernel
theorem dj_method_3_code_11 : decode method_3_code 11 = .ok (.istore_n 3, 1) := by decide +kernel
theorem dj_method_3_code_12 : decode method_3_code 12 = .ok (.iconst (0), 1) := by decide +kernel
theorem dj_method_3_code_13 : decode method_3_code 13 = .ok (.istore 4, 2) := by decide +kernel
theorem dj_method_3_code_56 : decode method_3_code 56 = .ok (.aload_n 0, 1) := by decide +kernel
theorem dj_method_3_code_57 : decode method_3_code 57 = .ok (.iload_n 3, 1) := by decide +kernel
theorem dj_method_3_code_58 : decode method_3_code 58 = .ok (.invokevirtual 17, 3) := by decide +kernel
theorem dj_method_3_code_61 : decode method_3_code 61 = .ok (.pop, 1) := by decide +kernel
theorem dj_method_3_code_62 : decode method_3_code 62 = .ok (.iinc 2 (4), 3) := by decide +kernel
theorem dj_method_3_code_65 : decode method_3_code 65 = .ok (.goto (-63), 3) := by decide +kernel
theorem dj_method_3_code_0 : decode method_3_code 0 = .ok (.iconst (0), 1) := by decide +kernel
theorem dj_method_3_code_1 : decode method_3_code 1 = .ok (.istore_n 2, 1) := by decide +kernel
section SAY
variable {p : Program} {l : Launch} {e : Env} {R : Room} {s : State} {m : MethodId} {args : Array Value} {below : List Frame} {meth : Method} {c : Code} {Q : State → Prop}
variable {D D2 : va_G} {cI cJ cB cP cB2 : ClassId} {z b L zz a aa dd : Nat} {xs : Nat → Int32} {S : List Cel} {px : Int} {tx : List Nat}
set_option maxRecDepth 100000 in
theorem say_in (C : SX p s m args c R D D2 cI cJ cB cP cB2 z b L zz a aa dd xs S px tx) {M : Mem} {cells slots j k v : Nat} (hc : cells ≤ R.cells ∧ slots ≤ R.slots) (hk : k < 4) (hv : v < 2 ^ 23) (hj : 4 * j < tx.length) (h : KG p l e R s m args below meth c Q 5 (SI s D D2 cI cJ cB cP cB2 z b L a aa xs S M tx) cells slots 15 [(4, .int (nI (k + 1))), (3, .int (nI (v * 256 + tx.getD (4 * j + k) 0))), (2, .int (nI (4 * j))), (0, .ref (z + px.toNat)), (1, .ref a)] []) : KG p l e R s m args below meth c Q 5 (SI s D D2 cI cJ cB cP cB2 z b L a aa xs S M tx) cells slots 15 [(4, .int (nI k)), (3, .int (nI v)), (2, .int (nI (4 * j))), (0, .ref (z + px.toNat)), (1, .ref a)] [] := by
  have hx := C.1
  have hb := C.2.1
  have htx : (∀ x ∈ tx, x < 128) ∧ tx.length < 60000 := C.2.2.2.2.2.2.2.2.2.2.2.2.2.2.2
  have hg : tx.getD (4 * j + k) 0 < 128 := by
    rw [List.getD_eq_getElem?_getD]
    by_cases h2 : 4 * j + k < tx.length
    · rw [List.getElem?_eq_getElem h2]; exact htx.1 _ (List.getElem_mem h2)
    · rw [List.getElem?_eq_none (by omega)]; decide
  have tail : KG p l e R s m args below meth c Q 5 (SI s D D2 cI cJ cB cP cB2 z b L a aa xs S M tx) cells slots 48 [(4, .int (nI k)), (3, .int (nI v)), (2, .int (nI (4 * j))), (0, .ref (z + px.toNat)), (1, .ref a)] [.int (nI (tx.getD (4 * j + k) 0)), .int (nI v <<< ((8 : Int32) &&& 31))] := by
    refine k_ior hx hb dj_method_3_code_48 (s_or hv (show tx.getD (4 * j + k) 0 < 256 by omega)) ?_
    refine k_isn hx hb dj_method_3_code_49 rfl (by decide) rfl ?_
    refine k_inc hx hb (k := 1) dj_method_3_code_50 rfl (nI_1 k) (by decide) rfl ?_
    refine k_goto hx hb 15 dj_method_3_code_53 (by decide) ?_
    exact h
  refine k_il hx hb 0 dj_method_3_code_15 rfl ?_
  refine k_ic hx hb (v := 4) dj_method_3_code_17 (by decide) ?_
  refine k_ge2 hx hb 56 dj_method_3_code_18 (by decide) (fun h_ => absurd h_ (nI_ge hk (by decide))) (fun _ => ?_)
  refine k_iln hx hb 1 dj_method_3_code_21 rfl rfl ?_
  refine k_bi hx hb (v := 8) dj_method_3_code_22 (by decide) ?_
  refine k_ishl hx hb dj_method_3_code_24 rfl ?_
  refine k_iln hx hb 2 dj_method_3_code_25 rfl rfl ?_
  refine k_il hx hb 0 dj_method_3_code_26 rfl ?_
  refine k_iadd hx hb dj_method_3_code_28 (nI_add (4 * j) k) ?_
  refine k_aln hx hb 4 dj_method_3_code_29 rfl rfl ?_
  refine s_len C (rest := [_, _]) hc (Nat.le_of_ble_eq_true rfl) dj_method_3_code_30 ?_
  refine k_ge2 hx hb 47 dj_method_3_code_33 (by decide) (fun h_ => ?_) (fun h_ => ?_)
  · have hn : ¬ 4 * j + k < tx.length := fun q => nI_ge q (by omega) h_
    have e0 : nI (tx.getD (4 * j + k) 0) = 0 := by rw [List.getD_eq_getElem?_getD, List.getElem?_eq_none (by omega)]; rfl
    rw [e0] at tail
    refine k_ic hx hb (v := 0) dj_method_3_code_47 (by decide) ?_
    exact tail
  · have hn : 4 * j + k < tx.length := by
      rcases Nat.lt_or_ge (4 * j + k) tx.length with q | q
      · exact q
      · exact absurd (nI_le q (by omega)) h_
    refine k_aln hx hb 4 dj_method_3_code_36 rfl rfl ?_
    refine k_iln hx hb 2 dj_method_3_code_37 rfl rfl ?_
    refine k_il hx hb 0 dj_method_3_code_38 rfl ?_
    refine k_iadd hx hb dj_method_3_code_40 (nI_add (4 * j) k) ?_
    refine s_chr C (rest := [_]) hn hc (Nat.le_of_ble_eq_true rfl) dj_method_3_code_41 ?_
    refine k_goto hx hb 48 dj_method_3_code_44 (by decide) ?_
    exact tail
/-- what say leaves -/
def SQ (D : va_G) (cI cJ cB cP : ClassId) (z b L : Nat) (xs : Nat → Int32) (S : List Cel) (M9 : Mem) : Array Value → State → Outcome → State → Prop := fun _ st o t => o = .returned none ∧ SWd D cI cJ cB cP z b (L, 0, 0) xs S M9 t ∧ va_F (Fz z (L, 0, 0)) st t
set_option maxRecDepth 100000 in
theorem say_loop (C : SX p s m args c R D D2 cI cJ cB cP cB2 z b L zz a aa dd xs S px tx) (hc0 : R.cells = 0 ∧ R.slots = 0) (hr : meth.sig.returnType = none) (hlk : meth.locks = false) {n : Nat} {M9 : Mem} {S9 : List Cel} : ∀ (r j : Nat) (M : Mem), j + r = (tx.length + 3) / 4 → sayL (fun d t cf => run n d t cf) dd (1, px) (saysF tx ((tx.length + 3) / 4) r) (S, M) = some (S9, M9) →
    KG p l e R s m args below meth c (MQ below (SQ D cI cJ cB cP z b L xs S M9) args s 0 0 (Fz z (L, 0, 0))) 5 (SI s D D2 cI cJ cB cP cB2 z b L a aa xs S M tx) 0 0 2 [(2, .int (nI (4 * j))), (0, .ref (z + px.toNat)), (1, .ref a)] [] := by
  have hx := C.1
  have hb := C.2.1
  have htx : (∀ x ∈ tx, x < 128) ∧ tx.length < 60000 := C.2.2.2.2.2.2.2.2.2.2.2.2.2.2.2
  have hc : (0 ≤ R.cells ∧ 0 ≤ R.slots) := ⟨Nat.zero_le _, Nat.zero_le _⟩
  intro r
  induction r with
  | zero =>
    intro j M hj hs
    unfold saysF sayL at hs
    dsimp only at hs
    cases hrun : run n dd 136 (0, entL 136 [(1, px), (0, (tx.length : Int))], [], (S, M, false, 0, 0)) with
    | none => rw [hrun] at hs; cases hs
    | some q =>
    obtain ⟨v, S1, M1, g1, c1, c2⟩ := q
    rw [hrun] at hs
    dsimp only at hs
    split at hs
    · cases hs
    rename_i hbad
    have h9 : v.1 ≠ 9 := fun q => hbad (Or.inl q)
    have eS : S1 = S := Classical.not_not.mp fun q => hbad (Or.inr (Or.inr q))
    subst eS
    unfold sayL at hs
    cases hs
    refine k_iln hx hb 0 dj_method_3_code_2 rfl rfl ?_
    refine k_aln hx hb 2 dj_method_3_code_3 rfl rfl ?_
    refine s_len C (rest := [_]) hc (Nat.le_of_ble_eq_true rfl) dj_method_3_code_4 ?_
    refine k_ge2 hx hb 68 dj_method_3_code_7 (by decide) (fun _ => ?_) (fun h_ => absurd (nI_le (show tx.length ≤ 4 * j by omega) (by omega)) h_)
    refine k_aln hx hb 1 dj_method_3_code_68 rfl rfl ?_
    refine k_aln hx hb 2 dj_method_3_code_69 rfl rfl ?_
    refine s_len C (rest := [_]) hc (Nat.le_of_ble_eq_true rfl) dj_method_3_code_70 ?_
    rw [show nI tx.length = i32 (tx.length : Int) from (i32_nat _).symm]
    refine s_end C hc hrun h9 dj_method_3_code_73 fun w hw => ?_
    refine k_pop hx hb dj_method_3_code_76 hw ?_
    obtain ⟨-, -, hml, hown, hts, hE, hK2, hJ, hX, ⟨hbz, hz, hL1⟩, ⟨hS1, hS2, hS3⟩, hD, ⟨ha, haa⟩, hR, hp, -⟩ := C
    intro H locs ls hI hL
    obtain ⟨hP, hSR, hP2, hSS⟩ := hI
    refine W.vret hx hb hr (fun t' q1 q2 => ⟨rfl, ⟨hE.warm q2, by rw [q1]; exact hP, ⟨hS1, ⟨Or.inl (by show 0 < z; omega), Or.inl (by show 0 < z; omega)⟩⟩, hSR, by rw [q1]; exact (hX.moved q2.alike).kept (hSS.2.1 b (by omega) (fun h_ => Nat.not_le.mpr hbz h_.1)), hbz, by rw [q1]; exact Nat.le_trans hz hSS.1, hL1, ?_, ?_⟩, hSS.F q1⟩) hSS.2.2 dj_method_3_code_77 hlk
    · rw [q1]; have := hSS.1; show 0 < H.size; omega
    · rw [q1]; have := hSS.1; show 0 < H.size; omega
  | succ r ih =>
    intro j M hj hs
    unfold saysF sayL at hs
    dsimp only at hs
    rw [show (tx.length + 3) / 4 - (r + 1) = j by omega] at hs
    cases hrun : run n dd 135 (0, entL 135 [(1, px), (0, wd tx j)], [], (S, M, false, 0, 0)) with
    | none => rw [hrun] at hs; cases hs
    | some q =>
    obtain ⟨v, S1, M1, g1, c1, c2⟩ := q
    rw [hrun] at hs
    dsimp only at hs
    split at hs
    · cases hs
    rename_i hbad
    have h9 : v.1 ≠ 9 := fun q => hbad (Or.inl q)
    have eS : S1 = S := Classical.not_not.mp fun q => hbad (Or.inr (Or.inr q))
    subst eS
    have hjl : 4 * j < tx.length := by omega
    have gt : ∀ i : Nat, tx.getD i 0 < 128 := fun i => by
      rw [List.getD_eq_getElem?_getD]
      by_cases h2 : i < tx.length
      · rw [List.getElem?_eq_getElem h2]; exact htx.1 _ (List.getElem_mem h2)
      · rw [List.getElem?_eq_none (by omega)]; decide
    have g0 := gt (4 * j + 0)
    have g1' := gt (4 * j + 1)
    have g2 := gt (4 * j + 2)
    have g3 := gt (4 * j + 3)
    refine k_iln hx hb 0 dj_method_3_code_2 rfl rfl ?_
    refine k_aln hx hb 2 dj_method_3_code_3 rfl rfl ?_
    refine s_len C (rest := [_]) hc (Nat.le_of_ble_eq_true rfl) dj_method_3_code_4 ?_
    refine k_ge2 hx hb 68 dj_method_3_code_7 (by decide) (fun h_ => absurd h_ (nI_ge hjl (by omega))) (fun _ => ?_)
    refine k_ic hx hb (v := 0) dj_method_3_code_10 (by decide) ?_
    refine k_isn hx hb dj_method_3_code_11 rfl (by decide) rfl ?_
    refine k_ic hx hb (v := 0) dj_method_3_code_12 (by decide) ?_
    refine k_is hx hb dj_method_3_code_13 (by decide) rfl ?_
    refine say_in C (j := j) (k := 0) (v := 0) hc (by decide) (by decide) hjl ?_
    refine say_in C (k := 1) hc (by decide) (by omega) hjl ?_
    refine say_in C (k := 2) hc (by decide) (by omega) hjl ?_
    refine say_in C (k := 3) hc (by decide) (by omega) hjl ?_
    refine k_il hx hb 0 dj_method_3_code_15 rfl ?_
    refine k_ic hx hb (v := 4) dj_method_3_code_17 (by decide) ?_
    refine k_ge2 hx hb 56 dj_method_3_code_18 (by decide) (fun _ => ?_) (fun h_ => absurd (show (4 : Int32) ≤ nI (3 + 1) by decide) h_)
    refine k_aln hx hb 3 dj_method_3_code_56 rfl rfl ?_
    refine k_iln hx hb 1 dj_method_3_code_57 rfl rfl ?_
    have ew : nI ((((0 * 256 + tx.getD (4 * j + 0) 0) * 256 + tx.getD (4 * j + 1) 0) * 256 + tx.getD (4 * j + 2) 0) * 256 + tx.getD (4 * j + 3) 0) = i32 (wd tx j) := by
      unfold wd
      rw [i32_nat]
      show nI _ = nI _
      congr 1
      rw [show 4 * j + 0 = 4 * j from rfl]
      omega
    rw [ew]
    refine s_sign C hc hrun h9 dj_method_3_code_58 fun w hw => ?_
    refine k_pop hx hb dj_method_3_code_61 hw ?_
    refine k_inc hx hb (k := 2) dj_method_3_code_62 rfl (show nI (4 * j) + Int32.ofInt 4 = nI (4 * (j + 1)) from nI_add (4 * j) 4) (by decide) rfl ?_
    refine k_goto hx hb 2 dj_method_3_code_65 (by decide) ?_
    refine k_lv [0, 3, 4] rfl ?_
    exact ih (j + 1) M1 (by omega) hs
end SAY
def SPc (D D2 : va_G) (cI cJ cB cP cB2 : ClassId) (z b L zz a aa : Nat) (xs : Nat → Int32) (S : List Cel) (M : Mem) (px : Int) (tx : List Nat) : Array Value → State → Prop := va_Pc [.ref (z + px.toNat), .ref a] fun U => SWd D cI cJ cB cP z b (L, 0, 0) xs S M U ∧ va_P D2 jcl (SWj cB2 a aa tx) U.heap ∧ va_D (Az zz) (SWj cB2 a aa tx) ∧ JVK D2 cB2 U ∧ JS z U ∧ z + S.length ≤ zz ∧ zz ≤ U.heap.size
theorem SPc.blind {D D2 : va_G} {cI cJ cB cP cB2 : ClassId} {z b L zz a aa : Nat} {xs : Nat → Int32} {S : List Cel} {M : Mem} {px : Int} {tx : List Nat} : FrameBlind (SPc D D2 cI cJ cB cP cB2 z b L zz a aa xs S M px tx) := by
  intro a9 U gg mk h
  obtain ⟨h1, h2, h3, h4, h5, h6, h7⟩ := h
  exact ⟨h1, SWd.same (u := U) (U := U.calling gg mk a9) rfl rfl h2, h3, h4, va_K.moved (u := U) (U := U.calling gg mk a9) (Vm.Alike.refl U.vm) h5, JS.warm (s := U) (U := U.calling gg mk a9) (H := U.heap) (locs := []) (Vm.Alike.refl U.vm) rfl va_S.rf h6, h7⟩
def rmSay (d : Nat) : Room := { frames := d, cells := 0, slots := 0, locals := 40 * d }
theorem jc_say {l : Launch} {D D2 : va_G} {cI cJ cB cP cB2 : ClassId} {z b L zz a aa dd n : Nat} {xs : Nat → Int32} {S S9 : List Cel} {M M9 : Mem} {px : Int} {tx : List Nat} (hdd : 4 ≤ dd) (hp : 0 ≤ px ∧ clsAt S px 11 = true) (htx : (∀ x ∈ tx, x < 128) ∧ tx.length < 60000) (hs : sayL (fun d t cf => run n d t cf) dd (1, px) (says tx) (S, M) = some (S9, M9)) :
    Met l ⟨"SkewRingsLaw", "say", "(LSkewRings;Ljava/lang/String;)V"⟩ (Cond.code ⟨"SkewRingsLaw", "say", "(LSkewRings;Ljava/lang/String;)V"⟩ method_3_code 5 none :: jw) (rmSay (dd + 1)) (SPc D D2 cI cJ cB cP cB2 z b L zz a aa xs S M px tx) (SQ D cI cJ cB cP z b L xs S M9) 0 0 (Fz z (L, 0, 0)) := by
  refine MetofW' (cc := method_3_code) (maxL := 5) (ret := none) (by decide +kernel) rfl ?_
  intro p e s m args below meth c s₁ B hml hv
  obtain ⟨rfl, hw, hP2, hD, hK2, hJ, hS2, hS3⟩ := hv
  obtain ⟨w1, w2, w3, w4, w5, w6, w7, w8, w9, w10⟩ := hw
  have hts := atoms_spec (ws := Cond.code ⟨"SkewRingsLaw", "say", "(LSkewRings;Ljava/lang/String;)V"⟩ method_3_code 5 none :: jw) B.pre
  have hown : s.vm.findClass "SkewRingsLaw" = some m.cls := findClass_of_methodNamed B.named
  have ha : a < s.heap.size := (hP2 0 _ rfl).lt
  have haa : aa < s.heap.size := (hP2 1 _ rfl).lt
  have K := say_loop (l := l) (e := e) (below := below) (meth := meth) (R := rmSay (dd + 1)) (dd := dd) (px := px) (tx := tx) (D := D) (D2 := D2) (cB2 := cB2) (cI := cI) (cJ := cJ) (cB := cB) (cP := cP) (z := z) (b := b) (L := L) (zz := zz) (a := a) (aa := aa) (xs := xs) (S := S) (args := ([.ref (z + px.toNat), .ref a] : List Value).toArray) (m := m) (p := p) (s := s) (c := c)
    ⟨B.exec, B.bytes, hml, hown, fun w hw => hts w (List.mem_cons_of_mem _ hw), w1, hK2, hJ, w5, ⟨w6, w7, w8⟩, ⟨w3.1, hS2, hS3⟩, hD, ⟨ha, haa⟩, ⟨Nat.le_refl _, by show 4 ≤ dd + 1; omega, Nat.le_refl _, by show 160 ≤ 40 * (dd + 1); omega⟩, hp, htx⟩ ⟨rfl, rfl⟩ B.returns B.notSynchronized ((tx.length + 3) / 4) 0 M (Nat.zero_add _) hs
  have hx := B.exec
  have hb := B.bytes
  have E : KG p l e (rmSay (dd + 1)) s m ([.ref (z + px.toNat), .ref a] : List Value).toArray below meth c (MQ below (SQ D cI cJ cB cP z b L xs S M9) ([.ref (z + px.toNat), .ref a] : List Value).toArray s 0 0 (Fz z (L, 0, 0))) 5 (SI s D D2 cI cJ cB cP cB2 z b L a aa xs S M tx) 0 0 0 (lv_args 0 [.ref (z + px.toNat), .ref a]) [] := by
    refine k_ic hx hb (v := 0) dj_method_3_code_0 (by decide) ?_
    refine k_isn hx hb dj_method_3_code_1 rfl (by decide) rfl ?_
    exact K
  rw [lg_entry_eq]
  exact E s.heap [] _ ⟨w2, w4, hP2, va_S.rf⟩ (lv_entry _ (Nat.le_of_ble_eq_true rfl))
theorem r61_all : (List.range 606).all (fun i => decide ((rowAt k307 i).2.2.1 ≠ 61) || decide (i = 43)) = true := by decide +kernel
theorem r61_at : rowAt k307 43 = (74, 3, 61, 308, 59, 0) ∧ rowAt k307 44 = (77, 3, 62, 308, 63, 0) := by decide +kernel
theorem d61 : decode code 74 = .ok (.invokestatic 59, 3) := by decide +kernel
theorem d62 : decode code 77 = .ok (.invokestatic 63, 3) := by decide +kernel
theorem pc63 : pcOf 307 (43 + 2) = 80 := by decide +kernel
theorem rowAt_of {i : Nat} {r : Rw} (h : (cd 307)[i]? = some r) : rowAt k307 i = r ∧ i < 606 := by
  have h : k307[i]? = some r := h
  have hi : i < k307.length := (List.getElem?_eq_some_iff.mp h).1
  rw [k307_len] at hi
  exact ⟨by simp [rowAt, List.getD, h], hi⟩
/-- what the law has of the strings -/
def XN (s : State) (args : Array Value) (D2 : va_G) (cB2 : ClassId) (z : Nat) : Prop := (∀ w ∈ jw, w.before args s = true) ∧ JVK D2 cB2 s ∧ JS z s
section PRIM
variable {p : Program} {l : Launch} {e : Env} {R : Room} {s : State} {m : MethodId} {args : Array Value} {below : List Frame} {meth : Method} {c : Code} {Q : State → Prop}
variable {D D2 : va_G} {cI cJ cB cP cB2 : ClassId} {z b L : Nat} {xs : Nat → Int32}
theorem jgw {args : Array Value} {s : State} (hj : ∀ w ∈ jw, w.before args s = true) : ∀ w ∈ gw_tbl, w.before args s = true := fun w hw => hj w (List.mem_append_right _ hw)
set_option maxRecDepth 100000 in
theorem prim61 (C : Cx p s m args meth c R D cI cJ cB cP z b (L, 0, 0) xs 307 24) (hxn : XN s args D2 cB2 z) (i pc len : Nat) (a b' : Int) (c' : Nat) (L9 st : List AV) (h : Hp) (n : Nat) (m9 : List Cel × Mem) (hr : Row 307 i pc len 61 a b' c') (hp : primE 24 307 st h = true)
    (hsay : sayL (fun d t cf => run n d t cf) (24 - 2) (st.getD 2 (3, 0)) (says (txt (st.getD 1 (3, 0)).2 (st.getD 0 (3, 0)).2)) (h.1, h.2.1) = some m9)
    (hG : WG p l e R s m args below meth c D cI cJ cB cP z b (L, 0, 0) xs 307 Q (i + 2, L9, st.drop 3, (m9.1, m9.2, false, h.2.2.2.1 + xC, h.2.2.2.2 + xS))) : WG p l e R s m args below meth c D cI cJ cB cP z b (L, 0, 0) xs 307 Q (i, L9, st, h) := by
  obtain ⟨er, hi⟩ := rowAt_of hr.1
  have hi0 := List.all_eq_true.mp r61_all i (List.mem_range.mpr hi)
  rw [er] at hi0
  have hi0 : i = 43 := by simpa using hi0
  subst hi0
  have e61 := r61_at.1
  rw [er] at e61
  cases e61
  unfold primE room at hp
  simp only [Bool.and_eq_true, decide_eq_true_eq] at hp
  obtain ⟨⟨⟨⟨⟨-, hl7⟩, hroom⟩, htag⟩, hpo⟩, hq⟩ := hp
  have hroom : h.2.2.2.1 + xC ≤ (cOf 307).1 ∧ h.2.2.2.2 + xS ≤ (cOf 307).2 := by simpa using hroom
  match st, hl7, htag, hpo, hq, hsay, hG with
  | [], _, htag, _, _, _, _ => simp at htag
  | [_], _, htag, _, _, _, _ => simp at htag
  | [_, _], _, htag, _, _, _, _ => simp at htag
  | _ :: _ :: _ :: _ :: _, hl7, _, _, _, _, _ => simp at hl7
  | [(t0, q), (t1, c9), (t2, px)], hl7, htag, hpo, hq, hsay, hG =>
  simp only [List.take_succ_cons, List.take_zero, List.map_cons, List.map_nil, List.cons.injEq, and_true] at htag
  obtain ⟨rfl, rfl, rfl⟩ := htag
  have hpo : 0 ≤ px := hpo
  have hq : 1 ≤ q ∧ q ≤ 16 := hq
  have hsay : sayL (fun d t cf => run n d t cf) 22 (1, px) (says (txt c9 q)) (h.1, h.2.1) = some m9 := hsay
  obtain ⟨S9, M9⟩ := m9
  obtain ⟨hx, hb, hml, hown, hts, hE, hX, hbz, hz, -, hRc, hRs, hfr, hlo, hLs, ht⟩ := C
  obtain ⟨hjw, hK2, hJ⟩ := hxn
  have hlen9 : (txt c9 q).length < 60000 := by
    have h1 := tl_len (c := c9) (q := q) (tnum c9)
    have h2 := (tnum_ok c9).2.2
    unfold txt
    omega
  have htx : (∀ x ∈ txt c9 q, x < 128) ∧ (txt c9 q).length < 60000 := ⟨tl_lt hq _, hlen9⟩
  -- the object
  have hcl : clsAt h.1 px 11 = true ∧ S9 = h.1 := by
    have hne : ∀ (w : Nat × Int) (ws : List (Nat × Int)) (mm : List Cel × Mem), sayL (fun d t cf => run n d t cf) 22 (1, px) (w :: ws) mm = some (S9, M9) → clsAt mm.1 px 11 = true := by
      intro w ws mm hq
      unfold sayL at hq
      split at hq
      · cases hq
      · split at hq
        · cases hq
        · rename_i hbad
          cases hcc : clsAt mm.1 px 11 with
          | true => rfl
          | false => exact absurd (Or.inr (Or.inl hcc)) hbad
    have hsm : ∀ (ws : List (Nat × Int)) (mm : List Cel × Mem), sayL (fun d t cf => run n d t cf) 22 (1, px) ws mm = some (S9, M9) → S9 = mm.1 := by
      intro ws
      induction ws with
      | nil => intro mm hq; unfold sayL at hq; cases hq; rfl
      | cons w ws ih =>
        intro mm hq
        unfold sayL at hq
        split at hq
        · cases hq
        · split at hq
          · cases hq
          · rename_i hbad
            have e9 := ih _ hq
            rw [e9]
            exact Classical.not_not.mp fun q => hbad (Or.inr (Or.inr q))
    refine ⟨?_, hsm _ _ hsay⟩
    unfold says at hsay
    cases hn : ((txt c9 q).length + 3) / 4 with
    | zero => rw [hn] at hsay; exact hne _ _ _ hsay
    | succ r => rw [hn] at hsay; exact hne _ _ _ hsay
  obtain ⟨hcl, eS⟩ := hcl
  subst eS
  intro H locs ls hR hL T hT X
  dsimp only at hR hG ⊢
  obtain ⟨r1, r2, r3, r4, r5⟩ := hR
  dsimp only at r1 r2 r3 r5
  have hlow := low r1 (Nat.le_trans hz r4.1)
  rw [hr.here]
  have em : ([(0, q), (0, c9), (1, px)] : List AV).map (cv z b) = [.int (i32 q), .int (i32 c9), .ref (z + px.toNat)] := by
    show [cv z b (0, q), cv z b (0, c9), cv z b (1, px)] = _
    rw [show cv z b (1, px) = .ref (z + px.toNat) from rfv_cell z b hpo]
    rfl
  rw [em]
  -- numbers
  have hM1 := jc_num (l := l) (D := D2) (cB := cB2) (zz := H.size) (c9 := c9) hq
  have c307 : cOf 307 = (760737, 6819414) := by decide +kernel
  rw [c307] at hroom
  have hr14 : h.2.2.2.1 + 14 ≤ 760737 ∧ h.2.2.2.2 + 80 ≤ 6819414 := hroom
  have hS5 : va_S (Az z) s.heap H locs := ⟨r4.1, fun q h1 h2 => r4.2.1 q h1 (fun h_ => h2 h_.1), fun q hq => (r4.2.2 q hq).1⟩
  have hzH : z ≤ H.size := Nat.le_trans hz r4.1
  have hr1 := va_runS (Ts := jw) (l := l) (e := e) (R := R) (H := H) (locs := locs) (cells := h.2.2.2.1) (slots := h.2.2.2.2) (meth := meth) (below := below) (g := F0 m 74 ls [.int (i32 q), .int (i32 c9), .ref (z + px.toNat)]) (rest := [.ref (z + px.toNat)]) (As := [.int (i32 c9), .int (i32 q)]) ⟨hx, hb, hml, hown, hjw⟩ hM1 ⟨callB_of 2 hjw (jGood (jwsIn (jm (tb 1177 (by decide +kernel)) rfl))) rfl rfl rfl (hjw _ (jm (tb 34 (by decide +kernel)) rfl)) (hjw _ (jm (tb 1175 (by decide +kernel)) rfl)) (by decide +kernel) ⟨by show 8 + 1 ≤ _; omega, by show 8 + (5 + 11) + 40 * 8 ≤ _; omega⟩, hjw _ (jm (tb 1176 (by decide +kernel)) rfl)⟩
    ⟨JPc.blind, fun U hU hW => ⟨rfl, fun k q hq => by simp at hq, ⟨fun i j p q h1 _ _ => by simp at h1, fun k q hq => by simp at hq⟩, va_K.moved hW.alike hK2, JS.narrow (JS.warm hW.alike hU hS5 hJ) hzH, by rw [hU]; exact Nat.le_refl _⟩⟩ rfl rfl (by rw [← hL.2.1]) rfl (Nat.le_of_ble_eq_true rfl) d61 ⟨by rw [hRc, c307]; exact hr14.1, by rw [hRs, c307]; exact hr14.2⟩
  obtain ⟨v, st₀, t1, T1, L1, h0, X1, hLo1, e1, e2, ⟨⟨u, hv, hw1, hd1⟩, hz1, hk1⟩, st1⟩ := hr1 T hT X
  have hv : v = some (.ref u.1) := Outcome.returned.inj hv
  subst hv
  rw [h0] at hz1 hk1
  have hM2 := jc_say (l := l) (D := D) (D2 := D2) (cI := cI) (cJ := cJ) (cB := cB) (cP := cP) (cB2 := cB2) (z := z) (b := b) (L := L) (zz := H.size) (a := u.1) (aa := u.2) (dd := 22) (n := n) (xs := xs) (S := h.1) (M := h.2.1) (px := px) (tx := txt c9 q) (by decide) ⟨hpo, hcl⟩ htx hsay
  have hP1 : va_P D vwCl (wOf cI cJ cB cP z b h.1 h.2.1) T1.heap := r1.kept fun k q9 hq9 => by
    obtain ⟨q1, q2⟩ := wOf_addr hq9
    rw [e1]
    exact hk1 q9.1 (by omega) (fun h_ => by have : H.size ≤ q9.1 := h_; omega)
  have hS1 : va_S (Fz z (L, 0, 0)) s.heap T1.heap (locs ++ L1) := by
    refine ⟨Nat.le_trans r4.1 (by rw [e1]; exact hz1), fun q h1 h2 => ?_, fun q hq => ?_⟩
    · have hq : q < z := by
        rcases Nat.lt_or_ge q z with h | h
        · exact h
        · exact absurd ⟨h, (by show q ≠ 0; omega), (by show q ≠ 0; omega)⟩ h2
      rw [e1, hk1 q (Nat.lt_of_lt_of_le h1 r4.1) (fun h_ => by have : H.size ≤ q := h_; omega)]
      exact r4.2.1 q h1 h2
    · rcases List.mem_append.mp hq with h | h
      · exact r4.2.2 q h
      · have h5 : H.size ≤ q.base := hLo1 q h
        have h6 : q.base ≠ 0 := Nat.ne_of_gt (Nat.lt_of_lt_of_le (show 0 < H.size by omega) h5)
        exact ⟨Nat.le_trans hzH h5, h6, h6⟩
  have hS6 : va_S (Az z) s.heap T1.heap (locs ++ L1) := ⟨hS1.1, fun q h1 h2 => hS1.2.1 q h1 (fun h_ => h2 h_.1), fun q hq => (hS1.2.2 q hq).1⟩
  have hr2 := va_runS (Ts := jw) (l := l) (e := e) (R := R) (H := T1.heap) (locs := locs ++ L1) (cells := h.2.2.2.1 + 14) (slots := h.2.2.2.2 + 80) (meth := meth) (below := below) (g := F0 m 77 ls [.ref u.1, .ref (z + px.toNat)]) (rest := []) (As := [.ref (z + px.toNat), .ref u.1]) ⟨hx, hb, hml, hown, hjw⟩ hM2 ⟨callB_of 2 hjw (jGood (jwsIn (jm (tb 1110 (by decide +kernel)) rfl))) rfl rfl rfl (hjw _ (jm (tb 34 (by decide +kernel)) rfl)) (hjw _ (jm (tb 1108 (by decide +kernel)) rfl)) (by decide +kernel) ⟨by show 23 + 1 ≤ _; omega, by show 8 + (5 + 11) + 40 * 23 ≤ _; omega⟩, hjw _ (jm (tb 1109 (by decide +kernel)) rfl)⟩
    ⟨SPc.blind, fun U hU hW => ⟨rfl, ⟨hE.warm hW, by rw [hU]; exact hP1, r2, r3, by rw [hU]; exact (hX.moved hW.alike).kept (hS1.2.1 b (by omega) (fun h_ => Nat.not_le.mpr hbz h_.1)), hbz, by rw [hU]; exact Nat.le_trans hz hS1.1, hLs.1, by rw [hU]; exact Nat.lt_of_lt_of_le hLs.2.1 hS1.1, by rw [hU]; exact Nat.lt_of_lt_of_le hLs.2.2 hS1.1⟩, by rw [hU, e1]; exact hw1, hd1, va_K.moved hW.alike hK2, JS.warm hW.alike hU hS6 hJ, hlow, by rw [hU, e1]; exact hz1⟩⟩ rfl rfl (by rw [← hL.2.1]) rfl (Nat.le_of_ble_eq_true rfl) d62 ⟨by rw [hRc, c307]; exact hr14.1, by rw [hRs, c307]; exact hr14.2⟩
  obtain ⟨v2, st₂, t2, T2, L2, h02, X2, hLo2, e12, e22, ⟨hv2, hw2, hz2, hk2⟩, st2⟩ := hr2 T1 rfl X1
  have hv2 : v2 = none := Outcome.returned.inj hv2
  subst hv2
  rw [h02] at hz2 hk2
  obtain ⟨w1, w2, w3, w4, w5, -⟩ := hw2
  have K := hG T2.heap ((locs ++ L1) ++ L2) ls ⟨by rw [e12]; exact w2, w3, w4, ⟨Nat.le_trans hS1.1 (by rw [e12]; exact hz2), fun q h1 h2 => by rw [e12, hk2 q (Nat.lt_of_lt_of_le h1 hS1.1) h2]; exact hS1.2.1 q h1 h2, fun q hq => by
      rcases List.mem_append.mp hq with h | h
      · exact hS1.2.2 q h
      · exact hLo2 q h⟩, fun h_ => by cases h_⟩ hL
  rw [pc63] at K
  obtain ⟨t3, a1, b1⟩ := K T2 rfl X2
  exact ⟨t3, st1 t3 (st2 t3 a1), b1⟩
end PRIM
