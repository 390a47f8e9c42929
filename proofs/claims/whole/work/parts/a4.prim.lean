/-! the law's own factor() and row(), where the law calls them -/
theorem run_ret : ∀ (n : Nat) (d t : Nat) (cf : Cf) (r : AV) (h' : Hp), run n d t cf = some (r, h') → r.1 = 9 ∨ zOf t = 0 ∨ zOf t = 4 ∨ (r.1 = 0 ∧ (zOf t = 1 ∨ zOf t = 2)) ∨ (r.1 = 2 ∧ zOf t = 3) := by
  intro n
  induction n with
  | zero => intro d t cf r h' h; cases h
  | succ n ih =>
    intro d t cf r h' hrun
    obtain ⟨i, L, st, h⟩ := cf
    unfold run at hrun
    split at hrun
    · cases hrun
    rename_i pc len op a b c hrow
    split at hrun
    · unfold fin at hrun
      split at hrun
      · split at hrun
        · rename_i q; exact Or.inr (Or.inl q.2.1)
        · cases hrun
      split at hrun
      · split at hrun
        · cases hrun; exact Or.inl rfl
        · cases hrun
      split at hrun
      · split at hrun
        · cases hrun
        split at hrun
        · split at hrun
          · rename_i q
            cases hrun
            refine Or.inr (Or.inr (Or.inr (Or.inl ⟨q.1, ?_⟩)))
            rcases q.2 with q | q
            · exact Or.inl q
            · exact Or.inr q.1
          · cases hrun
        split at hrun
        · split at hrun
          · rename_i q; exact Or.inr (Or.inr (Or.inl q.2))
          · cases hrun
        split at hrun
        · split at hrun
          · rename_i q; cases hrun; exact Or.inr (Or.inr (Or.inr (Or.inr q)))
          · cases hrun
        · cases hrun
      · cases hrun
    split at hrun
    · split at hrun
      · split at hrun
        · cases hrun
        · split at hrun
          · cases hrun
          · exact ih _ _ _ _ _ hrun
      · cases hrun
    split at hrun
    · split at hrun
      · split at hrun
        · split at hrun
          · split at hrun
            · cases hrun
            · split at hrun
              · cases hrun
              · exact ih _ _ _ _ _ hrun
          · cases hrun
        · cases hrun
      · cases hrun
    split at hrun
    · cases hrun
    · exact ih _ _ _ _ _ hrun
theorem prim_rows : (cd 307).all (fun r => decide (r.2.2.1 ≠ 61 ∨ (r.2.2.2.1 = 308 ∧ r.2.2.2.2.1 = 204) ∨ (r.2.2.2.1 = 309 ∧ r.2.2.2.2.1 = 249))) = true := by decide +kernel
theorem z186 : zOf 186 = 1 := by decide +kernel
theorem z187 : zOf 187 = 3 := by decide +kernel
/-- what prim says -/
theorem prim_ok {r : AV} {po : Int} {h h' h'' : Hp} {st' st'' : List AV} (hp : prim r (1, po) h h' st' = some (st'', h'')) (h0 : 0 ≤ po) : (h'.2.2.2.1 = 0 ∧ h'.2.2.2.2 = 0) ∧ ((r.1 = 9 ∧ st'' = (0, 1) :: st' ∧ h'' = (h'.1, h'.2.1, false, h.2.2.2.1 + 1, h.2.2.2.2 + 8)) ∨
    (r.1 ≠ 9 ∧ (r.1 = 0 ∨ r.1 = 2) ∧ (∃ (m9 : Nat) (rs : List Int), h'.1[po.toNat]? = some (2, m9, rs) ∧ 0 < m9) ∧ st'' = (0, 0) :: st' ∧ h'' = (h'.1, up h'.2.1 po 0 (if r.1 = 0 then (i32 r.2).toInt64.toInt else r.2), false, h.2.2.2.1 + 1, h.2.2.2.2 + 8))) := by
  unfold prim at hp
  split at hp
  · cases hp
  rename_i hz
  refine ⟨⟨by omega, by omega⟩, ?_⟩
  split at hp
  · rename_i h9
    cases hp
    exact Or.inl ⟨h9, rfl, rfl⟩
  rename_i h9
  split at hp
  · rename_i p9 heq
    cases heq
    rw [if_neg (by omega)] at hp
    split at hp
    · rename_i m9 rs hc
      split at hp
      · rename_i hg
        cases hp
        exact Or.inr ⟨h9, hg.2, ⟨m9, rs, hc, hg.1⟩, rfl, rfl⟩
      · cases hp
    · cases hp
  · cases hp
section PRIM
variable {p : Program} {l : Launch} {e : Env} {R : Room} {s : State} {m : MethodId} {args : Array Value} {below : List Frame} {meth : Method} {c : Code} {Q : State → Prop}
variable {D : va_G} {cI cJ cB cP : ClassId} {z b Ls : Nat} {xs : Nat → Int32}
/-- the law's call of its own method, on the machine -/
theorem prim_go {y : MethodName} {ws : List Cond} {cc : ByteArray} {maxL nA idx : Nat} {hh : List (Nat × Nat × Nat × Nat)} {i pc : Nat} {L st : List AV} {As : List AV} {h : Hp} {rest : List AV} {S1 : List Cel} {M1 : Mem} {w : Int} (C : Cx p s m args meth c R D cI cJ cB cP z b Ls xs 307 13) (hx : XE z s)
    (hw : ∀ w ∈ ws, ∀ (a' : Array Value) (U : State), s.WarmedH U.vm → w.before a' U = true) (hcw : Cond.codeWith y cc maxL (some .int) hh ∈ ws) (hcode : (Cond.codeWith y cc maxL (some .int) hh).before args s = true) (hini : (Cond.initialized y.cls).before args s = true) (hy : y.cls ≠ "java/lang/invoke/MethodHandle" ∧ y.cls ≠ "java/lang/invoke/VarHandle")
    (hn : (parseMethodDescriptor y.desc).map (fun d => d.parameters.length) = some nA) (hln : As.length = nA) (hlk : (Cond.methodLink "SkewRingsLaw" idx y).before args s = true) (hst : (Cond.static y).before args s = true) (hml : maxL ≤ 5)
    (hpc : pcOf 307 i = pc) (hpn : pcOf 307 (i + 1) = pc + 3) (hd : decode (bOf 307) pc = .ok (.invokestatic idx, 3)) (hstk : st = As.reverse ++ rest) (hcat : catS rest ≤ 8) (hroom : h.2.2.2.1 + 1 ≤ (cOf 307).1 ∧ h.2.2.2.2 + 8 ≤ (cOf 307).2)
    (hM : Met l y ws rmF (PcX D cI cJ cB cP z b Ls xs h.1 h.2.1 h.2.2.1 As) (QcU D cI cJ cB cP z b Ls xs 307 S1 M1 false (0, w)) 1 8 (fun q : Nat => z ≤ q))
    (hG : WG p l e R s m args below meth c D cI cJ cB cP z b Ls xs 307 Q (i + 1, L, (0, w) :: rest, (S1, M1, false, h.2.2.2.1 + 1, h.2.2.2.2 + 8))) : WG p l e R s m args below meth c D cI cJ cB cP z b Ls xs 307 Q (i, L, st, h) := by
  obtain ⟨hxx, hb, hmx, hown, hts, hE, hX, hbz, hz, -, hRc, hRs, hfr, hlo, hLs, ht⟩ := C
  intro H locs ls hR hL T hT X
  have hszg : h.2.2.1 = true → H.size = z + h.1.length := fun hg => hp_size hz hR hg hT X
  have hR' := hR
  obtain ⟨p1, p2, p3, p4, p5⟩ := hR
  dsimp only at p1 p2 p3 p4 p5 hL ⊢
  rw [hpc]
  have hmap : st.map (cv z b) = (As.map (cv z b)).reverse ++ rest.map (cv z b) := by
    rw [hstk, List.map_append, List.map_reverse]
  have fixd : CallFix p m c (bOf 307) (lOf 307) s args gw_tbl "SkewRingsLaw" := ⟨hxx, hb, hmx, hown, hts⟩
  have cw : vx_CSW R s args "SkewRingsLaw" idx y cc maxL (some .int) hh ws rmF 1 8 nA := by
    refine ⟨⟨rfl, rfl, ?_, ?_, hw, hcw⟩, hcode, hini, hy, fun sig hs => ?_, hlk, hst⟩
    · show 12 + 1 ≤ R.frames; omega
    · show 8 + (maxL + 11) + 480 ≤ R.locals; omega
    · rw [hs] at hn
      exact (Option.some.inj hn).symm
  have hrest : 2 * (F0 m pc ls (st.map (cv z b))).monitorRoom + ((rest.map (cv z b)).map fun v => v.category).sum ≤ 8 := by
    have := catS_eq z b rest
    show 2 * 0 + _ ≤ 8
    omega
  have hrun := vx_runSW (e := e) (meth := meth) (locs := locs) (cells := h.2.2.2.1) (slots := h.2.2.2.2) (below := below) (R := R) (g := F0 m pc ls (st.map (cv z b))) (H := H) (As := As.map (cv z b)) (rest := rest.map (cv z b)) fixd hM cw ⟨PcX.blind, fun U hU hWm => ⟨rfl, (SWd.grow hE hX hbz hz hLs p1 p2 p3 p4 hWm (by rw [hU]; exact Nat.le_refl _) (fun q _ => by rw [hU])).1, fun hg => by rw [hU]; exact hszg hg, XE.warm hWm hU p4 hx⟩⟩ rfl (by rw [List.length_map]; exact hln) hL.2.1 hmap hrest hd ⟨by rw [hRc]; exact hroom.1, by rw [hRs]; exact hroom.2⟩
  refine go_call (r := (0, w)) (S' := S1) (M' := M1) (g' := false) hrun p4 (fun H1 locs1 q1 q2 q3 q4 _ => ?_) T hT X
  have K := hG H1 locs1 ls ⟨q1, q2, q3, q4, fun hg => by cases hg⟩ hL
  dsimp only at K
  rw [hpn] at K
  exact K
theorem tags4 {o : AV} {ra : List AV} (h : (o :: ra).map (fun v => v.1) = [1, 0, 0, 1]) : ∃ po a2 a1 px : Int, o = (1, po) ∧ ra = [(0, a2), (0, a1), (1, px)] := by
  obtain ⟨o1, po⟩ := o
  match ra, h with
  | [], h => simp at h
  | [_], h => simp at h
  | [_, _], h => simp at h
  | _ :: _ :: _ :: _ :: _, h => simp at h
  | [(g1, a2), (g2, a1), (g3, px)], h =>
    simp only [List.map_cons, List.map_nil, List.cons.injEq, and_true] at h
    obtain ⟨rfl, rfl, rfl, rfl⟩ := h
    exact ⟨po, a2, a1, px, rfl, rfl⟩
theorem tags3 {o : AV} {ra : List AV} (h : (o :: ra).map (fun v => v.1) = [1, 0, 1]) : ∃ po a1 px : Int, o = (1, po) ∧ ra = [(0, a1), (1, px)] := by
  obtain ⟨o1, po⟩ := o
  match ra, h with
  | [], h => simp at h
  | [_], h => simp at h
  | _ :: _ :: _ :: _, h => simp at h
  | [(g2, a1), (g3, px)], h =>
    simp only [List.map_cons, List.map_nil, List.cons.injEq, and_true] at h
    obtain ⟨rfl, rfl, rfl⟩ := h
    exact ⟨po, a1, px, rfl, rfl⟩
theorem recv_at {u : Nat} {px : Int} {as : List AV} {S : List Cel} (hu : sOf u ≠ 1) (h : recvOk u ((1, px) :: as) S = true) : 0 ≤ px ∧ clsAt S px (kOf u) = true := by
  unfold recvOk at h
  rw [if_neg hu] at h
  have h : (decide (0 ≤ px) && clsAt S px (kOf u)) = true := h
  rw [Bool.and_eq_true, decide_eq_true_eq] at h
  exact h
theorem pay_tbl {args : Array Value} {s : State} {ws : List Cond} (hts : ∀ w ∈ gw_tbl, w.before args s = true) (h : GoodIn gw_tbl ws) : ∀ w ∈ ws, ∀ (a' : Array Value) (U : State), s.WarmedH U.vm → w.before a' U = true := pay_in hts h
set_option maxRecDepth 100000 in
theorem prim61 (hl : l.stackTraces = false) (C : Cx p s m args meth c R D cI cJ cB cP z b Ls xs 307 13) (hx : XE z s) (i pc len : Nat) (a b' : Int) (c' : Nat) (L st st' : List AV) (h h' h'' : Hp) (n : Nat) (o v : AV) (ra : List AV) (hr : Row 307 i pc len 61 a b' c') (hp : primE 13 307 a.toNat st h = true) (htk : st.take (nArg a.toNat) = o :: ra) (hc : calls (13 - 1) 307 (primF a.toNat) ra h = true)
    (hcall : run n (13 - 2) (primF a.toNat) (0, entL (primF a.toNat) ra.reverse, [], (h.1, h.2.1, h.2.2.1, 0, 0)) = some (v, h')) (hpr : prim v o h h' (st.drop (nArg a.toNat)) = some (st', h''))
    (hG : WG p l e R s m args below meth c D cI cJ cB cP z b Ls xs 307 Q (i + 1, L, st', h'')) : WG p l e R s m args below meth c D cI cJ cB cP z b Ls xs 307 Q (i, L, st, h) := by
  have hd := hr.2.2 (by omega)
  have hnx := hr.next (by omega)
  have h1 := hr.2.1
  unfold okR at h1
  simp only [Bool.and_eq_true] at h1
  have h2 := h1.2
  simp only [show ¬ (61 : Nat) ≤ 6 by decide, show ¬ (61 : Nat) = 7 by decide, show ¬ (61 : Nat) = 8 by decide, show ¬ (61 : Nat) = 29 by decide, show ¬ (61 : Nat) = 63 by decide, show ¬ (61 : Nat) = 35 by decide, show ¬ (61 : Nat) = 36 by decide, show ¬ (61 : Nat) = 40 by decide, show ¬ (61 : Nat) = 41 by decide, show ¬ (61 : Nat) = 51 by decide,
    show ¬ (61 : Nat) = 52 by decide, show ¬ (61 : Nat) = 53 by decide, show ¬ (61 : Nat) = 54 by decide, or_self, if_false, if_true, decide_eq_true_eq] at h2
  obtain ⟨rfl, -⟩ := h2
  have hrow := of_decide_eq_true (List.all_eq_true.mp prim_rows _ (List.mem_of_getElem? hr.1))
  dsimp only at hrow
  have hts := C.2.2.2.2.1
  unfold primE room at hp
  simp only [Bool.and_eq_true, decide_eq_true_eq] at hp
  obtain ⟨⟨⟨⟨-, hq2, hq3⟩, hroom⟩, htag⟩, hhead⟩ := hp
  have hoh : st.headD (3, 0) = o := by
    cases st with
    | nil => simp at htk
    | cons x r =>
      cases hk : nArg a.toNat with
      | zero => rw [hk] at htk; simp at htk
      | succ k => rw [hk, List.take_succ_cons] at htk; cases htk; rfl
  rw [hoh] at hhead
  rw [htk] at htag
  have hsd : st = (o :: ra) ++ st.drop (nArg a.toNat) := by rw [← htk, List.take_append_drop]
  have hdl : (st.drop (nArg a.toNat)).length ≤ 4 := by rw [List.length_drop]; omega
  have hcs : catS (st.drop (nArg a.toNat)) ≤ 8 := by
    generalize st.drop (nArg a.toNat) = q at hdl
    unfold catS
    match q, hdl with
    | [], _ => exact Nat.zero_le _
    | [_], _ => simp only [List.map_cons, List.map_nil, List.sum_cons, List.sum_nil]; split <;> omega
    | [_, _], _ => simp only [List.map_cons, List.map_nil, List.sum_cons, List.sum_nil]; split <;> split <;> omega
    | [_, _, _], _ => simp only [List.map_cons, List.map_nil, List.sum_cons, List.sum_nil]; split <;> split <;> split <;> omega
    | [_, _, _, _], _ => simp only [List.map_cons, List.map_nil, List.sum_cons, List.sum_nil]; split <;> split <;> split <;> split <;> omega
    | _ :: _ :: _ :: _ :: _ :: _, h => simp at h
  unfold calls at hc
  simp only [Bool.and_eq_true, decide_eq_true_eq] at hc
  have hrv := hc.1.1.2
  rcases hrow with hrow | ⟨rfl, rfl⟩ | ⟨rfl, rfl⟩
  · exact absurd rfl hrow

  · obtain ⟨po, a2, a1, px, rfl, rfl⟩ := tags4 htag
    dsimp only at hhead
    have hrv : recvOk 186 [(1, px), (0, a1), (0, a2)] h.1 = true := hrv
    obtain ⟨hpx, hcl⟩ := recv_at (by decide +kernel) hrv
    have hcl : clsAt h.1 px 11 = true := hcl
    obtain ⟨⟨e1, e2⟩, hres⟩ := prim_ok hpr hhead
    obtain ⟨S1, M1, g1, x1, y1⟩ := h'
    dsimp only at e1 e2 hres
    subst e1
    subst e2
    have hcall : run n 11 186 (0, entL 186 [(1, px), (0, a1), (0, a2)], [], (h.1, h.2.1, h.2.2.1, 0, 0)) = some (v, (S1, M1, g1, 0, 0)) := hcall
    have hret := run_ret _ _ _ _ _ _ hcall
    rw [z186] at hret
    have hM := c_fac hl D cI cJ cB cP z b Ls xs (po := po) hcall hpx hcl hhead (fun q9 => by
      rcases hres with q | q
      · exact absurd q.1 q9
      · exact ⟨by omega, q.2.2.1⟩)
    have hst9 : st = ([(1, px), (0, a1), (0, a2), (1, po)] : List AV).reverse ++ st.drop (nArg (308 : Int).toNat) := hsd
    have hid : decode (bOf 307) pc = .ok (.invokestatic 204, 3) := hd
    rcases hres with ⟨q9, rfl, rfl⟩ | ⟨q9, q0, -, rfl, rfl⟩
    · rw [if_pos q9, if_pos q9] at hM
      exact prim_go (nA := 4) (As := [(1, px), (0, a1), (0, a2), (1, po)]) (rest := st.drop (nArg (308 : Int).toNat)) C hx (pay_tbl hts wsF_In) List.mem_cons_self (hts _ (gw (tb 1280 (by decide +kernel)) rfl)) (hts _ (gw (tb 85 (by decide +kernel)) rfl)) ⟨by decide +kernel, by decide +kernel⟩ (by decide +kernel) rfl (hts _ (gw (tb 1278 (by decide +kernel)) rfl)) (hts _ (gw (tb 1279 (by decide +kernel)) rfl)) (by decide) hr.here hnx hid hst9 hcs hroom hM hG
    · rw [if_neg q9, if_neg q9] at hM
      have h0 : v.1 = 0 := by omega
      rw [if_pos h0] at hG
      exact prim_go (nA := 4) (As := [(1, px), (0, a1), (0, a2), (1, po)]) (rest := st.drop (nArg (308 : Int).toNat)) C hx (pay_tbl hts wsF_In) List.mem_cons_self (hts _ (gw (tb 1280 (by decide +kernel)) rfl)) (hts _ (gw (tb 85 (by decide +kernel)) rfl)) ⟨by decide +kernel, by decide +kernel⟩ (by decide +kernel) rfl (hts _ (gw (tb 1278 (by decide +kernel)) rfl)) (hts _ (gw (tb 1279 (by decide +kernel)) rfl)) (by decide) hr.here hnx hid hst9 hcs hroom hM hG
  · obtain ⟨po, a1, px, rfl, rfl⟩ := tags3 htag
    dsimp only at hhead
    have hrv : recvOk 187 [(1, px), (0, a1)] h.1 = true := hrv
    obtain ⟨hpx, hcl⟩ := recv_at (by decide +kernel) hrv
    have hcl : clsAt h.1 px 11 = true := hcl
    obtain ⟨⟨e1, e2⟩, hres⟩ := prim_ok hpr hhead
    obtain ⟨S1, M1, g1, x1, y1⟩ := h'
    dsimp only at e1 e2 hres
    subst e1
    subst e2
    have hcall : run n 11 187 (0, entL 187 [(1, px), (0, a1)], [], (h.1, h.2.1, h.2.2.1, 0, 0)) = some (v, (S1, M1, g1, 0, 0)) := hcall
    have hret := run_ret _ _ _ _ _ _ hcall
    rw [z187] at hret
    have hM := c_row hl D cI cJ cB cP z b Ls xs (po := po) hcall hpx hcl hhead (fun q9 => by
      rcases hres with q | q
      · exact absurd q.1 q9
      · exact ⟨by omega, q.2.2.1⟩)
    have hst9 : st = ([(1, px), (0, a1), (1, po)] : List AV).reverse ++ st.drop (nArg (309 : Int).toNat) := hsd
    have hid : decode (bOf 307) pc = .ok (.invokestatic 249, 3) := hd
    rcases hres with ⟨q9, rfl, rfl⟩ | ⟨q9, q0, -, rfl, rfl⟩
    · rw [if_pos q9, if_pos q9] at hM
      exact prim_go (nA := 3) (As := [(1, px), (0, a1), (1, po)]) (rest := st.drop (nArg (309 : Int).toNat)) C hx (pay_tbl hts wsR_In) List.mem_cons_self (hts _ (gw (tb 1349 (by decide +kernel)) rfl)) (hts _ (gw (tb 85 (by decide +kernel)) rfl)) ⟨by decide +kernel, by decide +kernel⟩ (by decide +kernel) rfl (hts _ (gw (tb 1347 (by decide +kernel)) rfl)) (hts _ (gw (tb 1348 (by decide +kernel)) rfl)) (by decide) hr.here hnx hid hst9 hcs hroom hM hG
    · rw [if_neg q9, if_neg q9] at hM
      have h0 : v.1 = 2 := by omega
      rw [if_neg (show ¬ v.1 = 0 by omega)] at hG
      exact prim_go (nA := 3) (As := [(1, px), (0, a1), (1, po)]) (rest := st.drop (nArg (309 : Int).toNat)) C hx (pay_tbl hts wsR_In) List.mem_cons_self (hts _ (gw (tb 1349 (by decide +kernel)) rfl)) (hts _ (gw (tb 85 (by decide +kernel)) rfl)) ⟨by decide +kernel, by decide +kernel⟩ (by decide +kernel) rfl (hts _ (gw (tb 1347 (by decide +kernel)) rfl)) (hts _ (gw (tb 1348 (by decide +kernel)) rfl)) (by decide) hr.here hnx hid hst9 hcs hroom hM hG
end PRIM
