/-! calls, ends, and the soundness of the abstract machine -/
def rmOf (d u : Nat) : Room := { frames := d, cells := (cOf u).1, slots := (cOf u).2, locals := 40 * d }
theorem catS_eq (z b : Nat) (st : List AV) : ((st.map (cv z b)).map fun v => v.category).sum = catS st := by
  unfold catS
  rw [List.map_map]
  congr 1
  exact List.map_congr_left fun v _ => cv_cat z b v
def wsU (u : Nat) : List Cond := Cond.code (yOf u) (bOf u) (lOf u) (rOf u) :: gw_tbl
def retv (z b : Nat) (r : AV) : Option Value := if r.1 = 4 then none else some (cv z b r)
def PcU (D : va_G) (cI cJ cB cP : ClassId) (z b : Nat) (Ls : Nat × Nat × Nat) (xs : Nat → Int32) (S : List Cel) (M : Mem) (g : Bool) (as : List AV) : Array Value → State → Prop :=
  va_Pc (as.map (cv z b)) fun U => SWd D cI cJ cB cP z b Ls xs S M U ∧ (g = true → U.heap.size = z + S.length)
def QcU (D : va_G) (cI cJ cB cP : ClassId) (z b : Nat) (Ls : Nat × Nat × Nat) (xs : Nat → Int32) (u : Nat) (S : List Cel) (M : Mem) (g : Bool) (r : AV) : Array Value → State → Outcome → State → Prop := fun _ st o t =>
  o = .returned (retv z b r) ∧ SWd D cI cJ cB cP z b Ls xs S M t ∧ va_F (Fz z Ls) st t ∧ (g = true → z + S.length = st.heap.size + (cOf u).1)
def SoundC (l : Launch) (D : va_G) (cI cJ cB cP : ClassId) (z b : Nat) (Ls : Nat × Nat × Nat) (xs : Nat → Int32) (d u : Nat) (as : List AV) (S : List Cel) (M : Mem) (g : Bool) (r : AV) (S' : List Cel) (M' : Mem) (g' : Bool) : Prop :=
  Met l (yOf u) (wsU u) (rmOf d u) (PcU D cI cJ cB cP z b Ls xs S M g as) (QcU D cI cJ cB cP z b Ls xs u S' M' g' r) (cOf u).1 (cOf u).2 (Fz z Ls)
theorem wsU_In {u : Nat} (h : u < 307 ∧ vOf u = true) : GoodIn gw_tbl (wsU u) := by
  intro w hw
  rcases List.mem_cons.mp hw with rfl | hw
  · have h1 := gw (MT_ok u h.1 h.2).1 rfl
    exact ⟨h1, (gw_In _ h1).2⟩
  · exact gw_In w hw
theorem SWd.blind {D : va_G} {cI cJ cB cP : ClassId} {z b : Nat} {Ls : Nat × Nat × Nat} {xs : Nat → Int32} {S : List Cel} {M : Mem} {g : Bool} {as : List AV} : FrameBlind (PcU D cI cJ cB cP z b Ls xs S M g as) := by
  intro a U gg mk h
  obtain ⟨h1, h2, h3⟩ := h
  exact ⟨h1, SWd.same (u := U) (U := U.calling gg mk a) rfl rfl h2, h3⟩
theorem mk_init_all : MK.all (fun q => decide (q.2.2.2 < 6) && (if q.2.2.2 % 3 = 2 then decide (zOf q.2.2.1 = 0) else true) && decide ((sOf q.2.2.1 = 1) ↔ (q.2.2.2 % 3 = 1))) = true := by decide +kernel
theorem rk_none {t : Nat} (h : t < 308) (h0 : zOf t = 0) : rOf t = none := by
  have := rk_ok t h
  rw [h0] at this
  cases hr : rOf t with
  | none => rfl
  | some ty => rw [hr] at this; simp [rkP] at this
section SND6
variable {p : Program} {l : Launch} {e : Env} {R : Room} {s : State} {m : MethodId} {args : Array Value} {below : List Frame} {meth : Method} {c : Code} {Q : State → Prop}
variable {D : va_G} {cI cJ cB cP : ClassId} {z b : Nat} {Ls : Nat × Nat × Nat} {xs : Nat → Int32} {t d : Nat}
/-- behind a call -/
theorem go_call {H : Heap} {locs : List Loc} {cells slots mc ms pc : Nat} {ls : Array Slot} {st0 rest : List Value} {u : Nat} {S' : List Cel} {M' : Mem} {g' : Bool} {r : AV} {a : Array Value}
    (hr : va_Run p l e R s m args below meth c H locs cells slots mc ms (F0 m pc ls st0) rest (QcU D cI cJ cB cP z b Ls xs u S' M' g' r a) (Fz z Ls)) (hS : va_S (Fz z Ls) s.heap H locs)
    (kk : ∀ (H1 : Heap) (locs1 : List Loc), va_P D vwCl (wOf cI cJ cB cP z b S' M') H1 → LOK z Ls S' → SR Ls.1 xs M' → va_S (Fz z Ls) s.heap H1 locs1 → (g' = true → z + S'.length = H.size + (cOf u).1) → W p l e R s m args below meth c H1 locs1 (cells + mc) (slots + ms) Q (F0 m (pc + 3) ls ((retv z b r).toList ++ rest))) :
    W p l e R s m args below meth c H locs cells slots Q (F0 m pc ls st0) := by
  intro T hT X
  obtain ⟨v, st₀, t', T', L, h0, X', hL, e1, e2, ⟨hv, hw, hF, hg⟩, st⟩ := hr T hT X
  cases hv
  obtain ⟨-, w2, w3, w4, -⟩ := hw
  obtain ⟨hz, hk⟩ := hF
  rw [h0] at hz hk
  obtain ⟨t2, a1, b1⟩ := kk T'.heap (locs ++ L) (by rw [e1]; exact w2) w3 w4
    ⟨Nat.le_trans hS.1 (by rw [e1]; exact hz), fun q h1 h2 => by rw [e1, hk q (Nat.lt_of_lt_of_le h1 hS.1) h2]; exact hS.2.1 q h1 h2, fun q hq => by
      rcases List.mem_append.mp hq with h | h
      · exact hS.2.2 q h
      · exact hL q h⟩ (fun h => by rw [hg h, h0]) T' rfl X'
  exact ⟨t2, st t2 a1, b1⟩
theorem sn_call {i pc len u : Nat} {a b' : Int} {c' : Nat} {L st : List AV} {h : Hp} {r : AV} {S' : List Cel} {M' : Mem} {g' : Bool} {x y : Nat} (C : Cx p s m args meth c R D cI cJ cB cP z b Ls xs t d) (hr : Row t i pc len 54 a b' c') (hu : a.toNat = u) (hc : calls d t u st h = true)
    (hM : SoundC l D cI cJ cB cP z b Ls xs (d - 1) u ((st.take (nArg u)).reverse) h.1 h.2.1 h.2.2.1 r S' M' g')
    (hG : WG p l e R s m args below meth c D cI cJ cB cP z b Ls xs t Q (i + 1, L, pushR r (st.drop (nArg u)), joinH u h (S', M', g', x, y))) : WG p l e R s m args below meth c D cI cJ cB cP z b Ls xs t Q (i, L, st, h) := by
  obtain ⟨hx, hb, hml, hown, hts, hE, hX, hbz, hz, -, hRc, hRs, hfr, hlo, hLs, ht⟩ := C
  have hd := hr.2.2 (by omega)
  have hn := hr.next (by omega)
  have h1 := hr.2.1
  unfold okR at h1
  simp only [Bool.and_eq_true] at h1
  have h2 := h1.2
  simp only [show ¬ (54 : Nat) ≤ 6 by decide, show ¬ (54 : Nat) = 7 by decide, show ¬ (54 : Nat) = 8 by decide, show ¬ (54 : Nat) = 29 by decide, show ¬ (54 : Nat) = 63 by decide, show ¬ (54 : Nat) = 35 by decide, show ¬ (54 : Nat) = 36 by decide, show ¬ (54 : Nat) = 40 by decide, show ¬ (54 : Nat) = 41 by decide, show ¬ (54 : Nat) = 51 by decide,
    show ¬ (54 : Nat) = 52 by decide, show ¬ (54 : Nat) = 53 by decide, or_self, if_false, if_true, Bool.and_eq_true, decide_eq_true_eq] at h2
  obtain ⟨h3, rfl⟩ := h2
  cases hmk : MK[c']? with
  | none => rw [hmk] at h3; cases h3
  | some q =>
  obtain ⟨own, idx, u', kd⟩ := q
  rw [hmk] at h3
  dsimp only at h3
  obtain ⟨rfl, ha, hu7⟩ := of_decide_eq_true h3
  have huu : u' = u := by omega
  subst huu
  have hk := allP_at MK_ok _ _ hmk
  obtain ⟨k1, k2⟩ := hk
  have hk3 := List.all_eq_true.mp mk_init_all _ (List.mem_of_getElem? hmk)
  simp only [Bool.and_eq_true, decide_eq_true_eq] at hk3
  obtain ⟨⟨hk6, hki⟩, hks⟩ := hk3
  obtain ⟨m1, m2, -, m4, m5, m6, m7⟩ := MT_ok u' hu7.1 hu7.2
  unfold calls at hc
  simp only [Bool.and_eq_true, decide_eq_true_eq, Bool.or_eq_true] at hc
  obtain ⟨⟨⟨⟨c1, c2, c3, c4⟩, c5⟩, c6⟩, c7⟩ := hc
  have c6 := of_decide_eq_true c6
  intro H locs ls hR hL T hT X
  have hlow := low hR.1 (Nat.le_trans hz hR.2.2.2.1.1)
  have hszg : h.2.2.1 = true → H.size = z + h.1.length := fun hg => hp_size hz hR hg hT X
  dsimp only at hR ⊢
  rw [hr.here]
  have hd' : decode (bOf t) pc = .ok (if kd % 3 = 0 then .invokevirtual idx else if kd % 3 = 1 then .invokestatic idx else .invokespecial idx, 3) := by
    rw [hd]
    show Except.ok ((match MK.getD c' (0, 0, 0, 0) with | (_, idx, _, kd) => if kd % 3 = 0 then Instr.invokevirtual idx else if kd % 3 = 1 then Instr.invokestatic idx else Instr.invokespecial idx), 3) = _
    simp [List.getD, hmk]
  have hst : st.map (cv z b) = (((st.take (nArg u')).reverse).map (cv z b)).reverse ++ (st.drop (nArg u')).map (cv z b) := by
    rw [← List.map_reverse, List.reverse_reverse, ← List.map_append, List.take_append_drop]
  have hrest : 2 * (F0 m pc ls (st.map (cv z b))).monitorRoom + (((st.drop (nArg u')).map (cv z b)).map fun v => v.category).sum ≤ 8 := by
    have := catS_eq z b (st.drop (nArg u'))
    show 2 * 0 + _ ≤ 8
    omega
  have hW : W p l e R s m args below meth c H locs h.2.2.2.1 h.2.2.2.2 Q (F0 m pc ls (st.map (cv z b))) := by
    have fixd : CallFix p m c (bOf t) (lOf t) s args gw_tbl (cN (kOf t)) := ⟨hx, hb, hml, hown, hts⟩
    have hRoom : (rmOf (d - 1) u').frames + 1 ≤ R.frames ∧ 8 + (lOf u' + 11) + (rmOf (d - 1) u').locals ≤ R.locals := by
      have := lim_ok (t := u') (by omega)
      show (d - 1) + 1 ≤ R.frames ∧ 8 + (lOf u' + 11) + 40 * (d - 1) ≤ R.locals
      omega
    have hini : (Cond.initialized (yOf u').cls).before args s = true := hts _ (gw m2 rfl)
    have hpc : ∀ U : State, U.heap = H → s.WarmedH U.vm → PcU D cI cJ cB cP z b Ls xs h.1 h.2.1 h.2.2.1 ((st.take (nArg u')).reverse) (((st.take (nArg u')).reverse).map (cv z b)).toArray U := by
      intro U hU hWm
      refine ⟨rfl, ⟨hE.warm hWm, by rw [hU]; exact hR.1, hR.2.1, hR.2.2.1, ?_, hbz, by rw [hU]; omega, hLs.1, by rw [hU]; exact Nat.lt_of_lt_of_le hLs.2.1 hR.2.2.2.1.1, by rw [hU]; exact Nat.lt_of_lt_of_le hLs.2.2 hR.2.2.2.1.1⟩, fun hg => by rw [hU]; exact hszg hg⟩
      rw [hU]
      exact (hX.moved hWm.alike).kept (hR.2.2.2.1.2.1 b (by omega) (fun h_ => Nat.not_le.mpr hbz h_.1))
    have hlen : ((st.take (nArg u')).reverse).length = nArg u' := by simp; omega
    have hcells : h.2.2.2.1 + (cOf u').1 ≤ R.cells ∧ h.2.2.2.2 + (cOf u').2 ≤ R.slots := by rw [hRc, hRs]; exact c6
    have kk : ∀ (H1 : Heap) (locs1 : List Loc), va_P D vwCl (wOf cI cJ cB cP z b S' M') H1 → LOK z Ls S' → SR Ls.1 xs M' → va_S (Fz z Ls) s.heap H1 locs1 → (g' = true → z + S'.length = H.size + (cOf u').1) → W p l e R s m args below meth c H1 locs1 (h.2.2.2.1 + (cOf u').1) (h.2.2.2.2 + (cOf u').2) Q (F0 m (pc + 3) ls ((retv z b r).toList ++ (st.drop (nArg u')).map (cv z b))) := by
      intro H1 locs1 p1 p2 p3 p4 p5
      have K := hG H1 locs1 ls ⟨p1, p2, p3, p4, fun hg => by
        have hg : (h.2.2.1 && g') = true := hg
        rw [Bool.and_eq_true] at hg
        have q1 := p5 hg.2
        have q2 := hszg hg.1
        have q3 := hR.2.2.2.2 hg.1
        show s.heap.size + (h.2.2.2.1 + (cOf u').1) = z + S'.length
        omega⟩ hL
      dsimp only [joinH] at K
      rw [hn] at K
      have e2 : (pushR r (st.drop (nArg u'))).map (cv z b) = (retv z b r).toList ++ (st.drop (nArg u')).map (cv z b) := by
        unfold pushR retv
        split <;> rfl
      rw [e2] at K
      exact K
    have kd6 : kd % 3 = 0 ∨ kd % 3 = 1 ∨ kd % 3 = 2 := by omega
    have nA : nArg u' = aOf u' + if sOf u' = 1 then 0 else 1 := rfl
    rcases kd6 with q | q | q
    · -- of an object
      have hs0 : ¬ sOf u' = 1 := fun e => by have := hks.mp e; omega
      rw [if_pos q] at hd' k2
      rw [if_neg hs0] at nA
      unfold recvOk at c5
      rw [if_neg hs0] at c5
      cases hA : (st.take (nArg u')).reverse with
      | nil => rw [hA] at hlen; simp at hlen; omega
      | cons v0 As =>
        rw [hA] at c5 hpc hst hM hlen
        obtain ⟨g0, p0⟩ := v0
        match g0 with
        | 0 => cases c5
        | g0 + 2 => cases c5
        | 1 =>
          have c5 : (decide (0 ≤ p0) && clsAt h.1 p0 (kOf u')) = true := c5
          rw [Bool.and_eq_true, decide_eq_true_eq] at c5
          obtain ⟨hp0, c5⟩ := c5
          have hrf : cv z b (1, p0) = .ref (z + p0.toNat) := rfv_cell z b hp0
          unfold clsAt at c5
          split at c5
          · rename_i ci rs hcell
            have hci := of_decide_eq_true c5
            subst hci
            have he := wOf_at (cI := cI) (cJ := cJ) (cB := cB) (cP := cP) (z := z) (b := b) (M := h.2.1) hcell
            rw [ent_obj] at he
            have hk13 : kOf u' < 13 := by
              rcases hR.2.1.1 _ _ hcell with w | w
              · exact w.2
              · dsimp only at w; omega
            have hrecv := va_recv hE.1 hR.1 (vwCl_at (kOf u') hk13) he
            rw [show (cN (kOf u'), cT (kOf u'), cZ (kOf u')).1 = (yOf u').cls from m7.symm] at hrecv
            rw [List.map_cons, hrf] at hpc hst
            have hst' : (F0 m pc ls (st.map (cv z b))).stack = (As.map (cv z b)).reverse ++ .ref (z + p0.toNat) :: (st.drop (nArg u')).map (cv z b) := by
              show st.map (cv z b) = _
              rw [hst, List.reverse_cons, List.append_assoc]
              rfl
            have hn0 : (As.map (cv z b)).length = aOf u' := by simp at hlen ⊢; omega
            by_cases hk3 : kd < 3
            · rw [if_pos hk3] at k1
              exact go_call (va_runV fixd hM ⟨callB_of (aOf u') hts (wsU_In hu7) rfl rfl rfl hini (hts _ (gw k1 rfl)) ⟨m4, m5, m6⟩ hRoom, hts _ (gw k2.1 rfl), hts _ (gw k2.2 rfl)⟩ ⟨SWd.blind, hrecv, hpc⟩ rfl hn0 (by rw [← hL.2.1]) hst' hrest hd' hcells) hR.2.2.2.1 kk
            · rw [if_neg hk3] at k1
              exact go_call (va_runVN fixd hM ⟨va_cnB (aOf u') hts (wsU_In hu7) rfl rfl rfl (hE.2.1 _ k1 rfl) hini ⟨m4, m5, m6⟩ hRoom, hts _ (gw k2.1 rfl), hts _ (gw k2.2 rfl)⟩ ⟨SWd.blind, hrecv, hpc⟩ rfl hn0 (by rw [← hL.2.1]) hst' hrest hd' hcells) hR.2.2.2.1 kk
          · cases c5
    · -- static
      have hs1 : sOf u' = 1 := hks.mpr q
      rw [if_neg (by omega), if_pos q] at hd' k2
      rw [if_pos hs1] at nA
      have hn0 : (((st.take (nArg u')).reverse).map (cv z b)).length = aOf u' := by simp at hlen ⊢; omega
      by_cases hk3 : kd < 3
      · rw [if_pos hk3] at k1
        exact go_call (va_runS fixd hM ⟨callB_of (aOf u') hts (wsU_In hu7) rfl rfl rfl hini (hts _ (gw k1 rfl)) ⟨m4, m5, m6⟩ hRoom, hts _ (gw k2 rfl)⟩ ⟨SWd.blind, hpc⟩ rfl hn0 (by rw [← hL.2.1]) hst hrest hd' hcells) hR.2.2.2.1 kk
      · rw [if_neg hk3] at k1
        exact go_call (va_runSN fixd hM ⟨va_cnB (aOf u') hts (wsU_In hu7) rfl rfl rfl (hE.2.1 _ k1 rfl) hini ⟨m4, m5, m6⟩ hRoom, hts _ (gw k2 rfl), trivial⟩ ⟨SWd.blind, hpc⟩ rfl hn0 (by rw [← hL.2.1]) hst hrest hd' hcells) hR.2.2.2.1 kk
    · -- a constructor
      have hs0 : ¬ sOf u' = 1 := fun e => by have := hks.mp e; omega
      rw [if_neg (by omega), if_neg (by omega)] at hd' k2
      rw [if_neg hs0] at nA
      rw [if_pos q] at hki
      have hrn : rOf u' = none := rk_none (by omega) (of_decide_eq_true hki)
      have hM' := hM
      unfold SoundC wsU at hM
      rw [hrn] at hM
      have hin : GoodIn gw_tbl (Cond.code (yOf u') (bOf u') (lOf u') none :: gw_tbl) := by
        have := wsU_In hu7
        unfold wsU at this
        rw [hrn] at this
        exact this
      unfold recvOk at c5
      rw [if_neg hs0] at c5
      cases hA : (st.take (nArg u')).reverse with
      | nil => rw [hA] at hlen; simp at hlen; omega
      | cons v0 As =>
        rw [hA] at c5 hpc hst hM hlen
        obtain ⟨g0, p0⟩ := v0
        match g0 with
        | 0 => cases c5
        | g0 + 2 => cases c5
        | 1 =>
          have c5 : (decide (0 ≤ p0) && clsAt h.1 p0 (kOf u')) = true := c5
          rw [Bool.and_eq_true, decide_eq_true_eq] at c5
          obtain ⟨hp0, c5⟩ := c5
          have hrf : cv z b (1, p0) = .ref (z + p0.toNat) := rfv_cell z b hp0
          rw [List.map_cons, hrf] at hpc hst
          have hst' : (F0 m pc ls (st.map (cv z b))).stack = (As.map (cv z b)).reverse ++ .ref (z + p0.toNat) :: (st.drop (nArg u')).map (cv z b) := by
            show st.map (cv z b) = _
            rw [hst, List.reverse_cons, List.append_assoc]
            rfl
          have hn0 : (As.map (cv z b)).length = aOf u' := by simp at hlen ⊢; omega
          by_cases hk3 : kd < 3
          · rw [if_pos hk3] at k1
            exact go_call (va_runI fixd hM ⟨callB_of (aOf u') hts hin rfl rfl rfl hini (hts _ (gw k1 rfl)) ⟨m4, m5, m6⟩ hRoom, k2.1, hts _ (gw k2.2 rfl)⟩ ⟨SWd.blind, hpc⟩ rfl hn0 (by rw [← hL.2.1]) hst' hrest hd' hcells) hR.2.2.2.1 kk
          · rw [if_neg hk3] at k1
            exact go_call (va_runIN fixd hM ⟨va_cnB (aOf u') hts hin rfl rfl rfl (hE.2.1 _ k1 rfl) hini ⟨m4, m5, m6⟩ hRoom, k2.1, hts _ (gw k2.2 rfl)⟩ ⟨SWd.blind, hpc⟩ rfl hn0 (by rw [← hL.2.1]) hst' hrest hd' hcells) hR.2.2.2.1 kk
  exact hW T hT X
theorem sn_lb {i pc len op : Nat} {a b' : Int} {c' : Nat} {L st : List AV} {h : Hp} {cf' : Cf} (C : Cx p s m args meth c R D cI cJ cB cP z b Ls xs t d) (hr : Row t i pc len op a b' c') (ho : op = 37 ∨ op = 38 ∨ op = 39) (hs : oLb op i L st h = some cf')
    (hG : WG p l e R s m args below meth c D cI cJ cB cP z b Ls xs t Q cf') : WG p l e R s m args below meth c D cI cJ cB cP z b Ls xs t Q (i, L, st, h) := by
  obtain ⟨hx, hb, -⟩ := C
  have hd := hr.2.2 (by omega)
  have hn := hr.next (by omega)
  have hlen := hr.len1 (by omega)
  subst hlen
  unfold oLb at hs
  split at hs
  · rename_i y x r
    cases hs
    intro H locs ls hR hL
    have K := hG H locs ls hR hL
    dsimp only at K ⊢
    rw [hn] at K
    rw [hr.here, List.map_cons, List.map_cons]
    rcases ho with rfl | rfl | rfl
    · rw [List.map_cons, show cv z b (2, (if (37 : Nat) = 37 then i64 x + i64 y else if (37 : Nat) = 38 then i64 x * i64 y else i64 x &&& i64 y).toInt) = .long (i64 x + i64 y) from congrArg Value.long (by rw [i64_toInt, if_pos rfl])] at K
      exact lv_ladd hx hb hd K
    · rw [List.map_cons, show cv z b (2, (if (38 : Nat) = 37 then i64 x + i64 y else if (38 : Nat) = 38 then i64 x * i64 y else i64 x &&& i64 y).toInt) = .long (i64 x * i64 y) from congrArg Value.long (by rw [i64_toInt, if_neg (by decide), if_pos rfl])] at K
      exact lv_lmul hx hb hd K
    · rw [List.map_cons, show cv z b (2, (if (39 : Nat) = 37 then i64 x + i64 y else if (39 : Nat) = 38 then i64 x * i64 y else i64 x &&& i64 y).toInt) = .long (i64 x &&& i64 y) from congrArg Value.long (by rw [i64_toInt, if_neg (by decide), if_neg (by decide)])] at K
      exact lv_land hx hb hd K
  · cases hs
/-- one step -/
theorem sn_step {i pc len op : Nat} {a b' : Int} {c' : Nat} {L st : List AV} {h : Hp} {cf' : Cf} (C : Cx p s m args meth c R D cI cJ cB cP z b Ls xs t d) (hr : Row t i pc len op a b' c') (hs : stp d t op a b' c' i L st h = some cf')
    (hG : WG p l e R s m args below meth c D cI cJ cB cP z b Ls xs t Q cf') : WG p l e R s m args below meth c D cI cJ cB cP z b Ls xs t Q (i, L, st, h) := by
  unfold stp at hs
  by_cases ho : op ≤ 2
  · rw [if_pos ho] at hs; exact sn_ld C hr (by omega) hs hG
  rw [if_neg ho] at hs
  have n0 := ho
  clear ho
  by_cases ho : op ≤ 4
  · rw [if_pos ho] at hs; exact sn_st C hr (by omega) hs hG
  rw [if_neg ho] at hs
  have n1 := ho
  clear ho
  by_cases ho : op = 5
  · rw [if_pos ho] at hs; subst ho; exact sn_sl C hr hs hG
  rw [if_neg ho] at hs
  have n2 := ho
  clear ho
  by_cases ho : op = 6
  · rw [if_pos ho] at hs; subst ho; exact sn_inc C hr hs hG
  rw [if_neg ho] at hs
  have n3 := ho
  clear ho
  by_cases ho : op = 7 ∨ op = 63
  · rw [if_pos ho] at hs; cases hs; exact sn_const C hr ho hG
  rw [if_neg ho] at hs
  have n4 := ho
  clear ho
  by_cases ho : op = 8 ∨ op = 29
  · rw [if_pos ho] at hs; cases hs; exact sn_lconst C hr ho hG
  rw [if_neg ho] at hs
  have n5 := ho
  clear ho
  by_cases ho : op = 9
  · rw [if_pos ho] at hs; subst ho; cases hs; exact sn_null C hr hG
  rw [if_neg ho] at hs
  have n6 := ho
  clear ho
  by_cases ho : op = 15 ∨ op = 22 ∨ op = 23
  · rw [if_pos ho] at hs; exact sn_un C hr ho hs hG
  rw [if_neg ho] at hs
  have n7 := ho
  clear ho
  by_cases ho : op ≤ 21
  · rw [if_pos ho] at hs; exact sn_bin C hr (by omega) hs hG
  rw [if_neg ho] at hs
  have n8 := ho
  clear ho
  by_cases ho : op = 24
  · rw [if_pos ho] at hs; subst ho; exact sn_lcmp C hr hs hG
  rw [if_neg ho] at hs
  have n9 := ho
  clear ho
  by_cases ho : op ≤ 28
  · rw [if_pos ho] at hs; exact sn_dup C hr (by omega) hs hG
  rw [if_neg ho] at hs
  have n10 := ho
  clear ho
  by_cases ho : op = 30
  · rw [if_pos ho] at hs; subst ho; exact sn_if C hr hs hG
  rw [if_neg ho] at hs
  have n11 := ho
  clear ho
  by_cases ho : op = 31
  · rw [if_pos ho] at hs; subst ho; exact sn_if2 C hr hs hG
  rw [if_neg ho] at hs
  have n12 := ho
  clear ho
  by_cases ho : op ≤ 33
  · rw [if_pos ho] at hs; exact sn_ifn C hr (by omega) hs hG
  rw [if_neg ho] at hs
  have n13 := ho
  clear ho
  by_cases ho : op = 34
  · rw [if_pos ho] at hs; subst ho; cases hs; exact sn_goto C hr hG
  rw [if_neg ho] at hs
  have n14 := ho
  clear ho
  by_cases ho : op = 35
  · rw [if_pos ho] at hs; subst ho; exact sn_tab C hr hs hG
  rw [if_neg ho] at hs
  have n15 := ho
  clear ho
  by_cases ho : op = 36
  · rw [if_pos ho] at hs; subst ho; exact sn_look C hr hs hG
  rw [if_neg ho] at hs
  have n16 := ho
  clear ho
  by_cases ho : op = 37 ∨ op = 38 ∨ op = 39
  · rw [if_pos ho] at hs; exact sn_lb C hr ho hs hG
  rw [if_neg ho] at hs
  have n16b := ho
  clear ho
  by_cases ho : op = 40
  · rw [if_pos ho] at hs; subst ho; exact sn_get C hr hs hG
  rw [if_neg ho] at hs
  have n17 := ho
  clear ho
  by_cases ho : op = 41
  · rw [if_pos ho] at hs; subst ho; exact sn_put C hr hs hG
  rw [if_neg ho] at hs
  have n18 := ho
  clear ho
  by_cases ho : op = 42
  · rw [if_pos ho] at hs; subst ho; exact sn_alen C hr hs hG
  rw [if_neg ho] at hs
  have n19 := ho
  clear ho
  by_cases ho : op = 43
  · rw [if_pos ho] at hs; subst ho; exact sn_ald C hr (by omega) hs hG
  rw [if_neg ho] at hs
  have n20 := ho
  clear ho
  by_cases ho : op = 44
  · rw [if_pos ho] at hs; subst ho; exact sn_ast C hr (by omega) hs hG
  rw [if_neg ho] at hs
  have n21 := ho
  clear ho
  by_cases ho : op = 45
  · rw [if_pos ho] at hs; subst ho; exact sn_ald C hr (by omega) hs hG
  rw [if_neg ho] at hs
  have n22 := ho
  clear ho
  by_cases ho : op = 46
  · rw [if_pos ho] at hs; subst ho; exact sn_ast C hr (by omega) hs hG
  rw [if_neg ho] at hs
  have n23 := ho
  clear ho
  by_cases ho : op = 47
  · rw [if_pos ho] at hs; subst ho; exact sn_ald C hr (by omega) hs hG
  rw [if_neg ho] at hs
  have n24 := ho
  clear ho
  by_cases ho : op = 48
  · rw [if_pos ho] at hs; subst ho; exact sn_ast C hr (by omega) hs hG
  rw [if_neg ho] at hs
  have n25 := ho
  clear ho
  by_cases ho : op = 49
  · rw [if_pos ho] at hs; subst ho; exact sn_ald C hr (by omega) hs hG
  rw [if_neg ho] at hs
  have n26 := ho
  clear ho
  by_cases ho : op = 50
  · rw [if_pos ho] at hs; subst ho; exact sn_ast C hr (by omega) hs hG
  rw [if_neg ho] at hs
  have n27 := ho
  clear ho
  by_cases ho : op = 51
  · rw [if_pos ho] at hs; subst ho; exact sn_new C hr hs hG
  rw [if_neg ho] at hs
  have n28 := ho
  clear ho
  by_cases ho : op = 52
  · rw [if_pos ho] at hs; subst ho; exact sn_newa C hr (Or.inl ⟨rfl, rfl⟩) hs hG
  rw [if_neg ho] at hs
  have n29 := ho
  clear ho
  by_cases ho : op = 53
  · rw [if_pos ho] at hs; subst ho; exact sn_newa C hr (Or.inr ⟨rfl, rfl⟩) hs hG
  rw [if_neg ho] at hs
  have n30 := ho
  clear ho
  by_cases ho : op = 59
  · rw [if_pos ho] at hs; subst ho; exact sn_obj C hr hs hG
  rw [if_neg ho] at hs
  have n31 := ho
  clear ho
  cases hs
/-- a run, whatever its end has to give -/
theorem run_go (N : Nat) (sound : ∀ (n d u : Nat) (as : List AV) (S : List Cel) (M : Mem) (g : Bool) (r : AV) (S' : List Cel) (M' : Mem) (g' : Bool) (x y : Nat), n < N → run n d u (0, entL u as, [], (S, M, g, 0, 0)) = some (r, (S', M', g', x, y)) → r.1 ≠ 9 → (u < 307 ∧ vOf u = true) → (spread as).length ≤ lOf u → SoundC l D cI cJ cB cP z b Ls xs d u as S M g r S' M' g')
    (C : Cx p s m args meth c R D cI cJ cB cP z b Ls xs t d)
    (prim61 : ∀ (i pc len : Nat) (a b' : Int) (c' : Nat) (L st : List AV) (h : Hp) (n : Nat) (m9 : List Cel × Mem), n < N → Row t i pc len 61 a b' c' → primE d t st h = true →
      sayL (fun d t cf => run n d t cf) (d - 2) (st.getD 2 (3, 0)) (says (txt (st.getD 1 (3, 0)).2 (st.getD 0 (3, 0)).2)) (h.1, h.2.1) = some m9 →
      WG p l e R s m args below meth c D cI cJ cB cP z b Ls xs t Q (i + 2, L, st.drop 3, (m9.1, m9.2, false, h.2.2.2.1 + xC, h.2.2.2.2 + xS)) → WG p l e R s m args below meth c D cI cJ cB cP z b Ls xs t Q (i, L, st, h))
    (r : AV) (h' : Hp) (hEnd : ∀ (i pc len op : Nat) (a b' : Int) (c' : Nat) (L st : List AV) (h : Hp), Row t i pc len op a b' c' → isEnd op = true → fin t op st h = some (r, h') → WG p l e R s m args below meth c D cI cJ cB cP z b Ls xs t Q (i, L, st, h)) :
    ∀ (n : Nat), n ≤ N → ∀ (cf : Cf), run n d t cf = some (r, h') → WG p l e R s m args below meth c D cI cJ cB cP z b Ls xs t Q cf := by
  have ht : (t < 307 ∧ vOf t = true) ∨ t = 307 := C.2.2.2.2.2.2.2.2.2.2.2.2.2.2.2
  intro n
  induction n with
  | zero => intro _ cf hrun; cases hrun
  | succ n ih =>
    intro hnN cf hrun
    have ih := ih (by omega)
    obtain ⟨i, L, st, h⟩ := cf
    unfold run at hrun
    cases hrow : (cd t)[i]? with
    | none => rw [hrow] at hrun; cases hrun
    | some q =>
      obtain ⟨pc, len, op, a, b', c'⟩ := q
      rw [hrow] at hrun
      dsimp only at hrun
      have hr : Row t i pc len op a b' c' := ⟨hrow, (rows_ok t ht i _ hrow).1, (rows_ok t ht i _ hrow).2⟩
      split at hrun
      · rename_i he
        exact hEnd i pc len op a b' c' L st h hr he hrun
      split at hrun
      · rename_i ho
        subst ho
        split at hrun
        · rename_i hc
          split at hrun
          · cases hrun
          · rename_i v hv hcall
            split at hrun
            · cases hrun
            · rename_i h9
              obtain ⟨S', M', g', x, y⟩ := hv
              have hu7 : a.toNat < 307 ∧ vOf a.toNat = true := by
                have h1 := hr.2.1
                unfold okR at h1
                simp only [Bool.and_eq_true] at h1
                have h2 := h1.2
                simp only [show ¬ (54 : Nat) ≤ 6 by decide, show ¬ (54 : Nat) = 7 by decide, show ¬ (54 : Nat) = 8 by decide, show ¬ (54 : Nat) = 29 by decide, show ¬ (54 : Nat) = 63 by decide, show ¬ (54 : Nat) = 35 by decide, show ¬ (54 : Nat) = 36 by decide, show ¬ (54 : Nat) = 40 by decide, show ¬ (54 : Nat) = 41 by decide, show ¬ (54 : Nat) = 51 by decide,
                  show ¬ (54 : Nat) = 52 by decide, show ¬ (54 : Nat) = 53 by decide, or_self, if_false, if_true, Bool.and_eq_true, decide_eq_true_eq] at h2
                cases hmk : MK[c']? with
                | none => rw [hmk] at h2; cases h2.1
                | some q =>
                  obtain ⟨q1, q2, q3, q4⟩ := q
                  rw [hmk] at h2
                  have h3 : q1 = kOf t ∧ (q3 : Int) = a ∧ q3 < 307 ∧ vOf q3 = true := of_decide_eq_true h2.1
                  have e3 : q3 = a.toNat := by have := h3.2.1; omega
                  rw [← e3]
                  exact h3.2.2
              have hsp : (spread ((st.take (nArg a.toNat)).reverse)).length ≤ lOf a.toNat := by
                unfold calls at hc
                simp only [Bool.and_eq_true, decide_eq_true_eq] at hc
                exact hc.1.1.1.2.2.2
              exact sn_call C hr rfl hc (sound n (d - 1) a.toNat _ _ _ _ v S' M' g' x y (by omega) hcall h9 hu7 hsp) (ih _ hrun)
        · cases hrun
      split at hrun
      · rename_i ho
        subst ho
        split at hrun
        · rename_i hp
          split at hrun
          · cases hrun
          · rename_i m9 hsay
            exact prim61 i pc len a b' c' L st h n m9 (by omega) hr hp hsay (ih _ hrun)
        · cases hrun
      split at hrun
      · cases hrun
      · rename_i cf' hs
        exact sn_step C hr hs (ih cf' hrun)
end SND6
