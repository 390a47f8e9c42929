/-! calls that throw; the law's own factor() and row() -/
def xw : List Cond := [.declares ⟨"java/lang/RuntimeException", "<init>", "()V"⟩, .declares ⟨"java/lang/Exception", "<init>", "()V"⟩, .declares ⟨"java/lang/Throwable", "<init>", "()V"⟩, .castable "java/util/NoSuchElementException" "java/util/NoSuchElementException"]
def xat : List Cond := vx_at0 "SkewRings" 313 "java/util/NoSuchElementException" ["java/lang/RuntimeException", "java/lang/Exception"]
theorem xat_in : ∀ w ∈ xat.filter goodWord, w ∈ lw_tbl := by decide +kernel
theorem xat_bad : ∀ w ∈ xat.filter (fun w => !goodWord w), w ∈ xw := by decide +kernel
theorem xat_ot : ∀ w ∈ Cond.classLink "SkewRings" 311 "java/util/NoSuchElementException" :: Cond.initialized "java/util/NoSuchElementException" :: xat, vx_ot w = true := by decide +kernel
theorem xw_in : ∀ w ∈ xw, w ∈ lw_tbl := by decide +kernel
theorem xw_ot : ∀ w ∈ xw, w.onTables = true := by decide +kernel
/-- what a throw needs of the start, beside the good words -/
def XE (z : Nat) (U : State) : Prop := (∀ w ∈ xw, va_Nw w U) ∧ vx_Zq Bundle.tN "UNASSIGNED_STACK" Bundle.steD (fun q : Nat => z ≤ q) U U.heap ∧ vx_Zq Bundle.tN "SUPPRESSED_SENTINEL" Bundle.listD (fun q : Nat => z ≤ q) U U.heap
theorem XE.warm {z : Nat} {s U : State} {H : Heap} {locs : List Loc} (hW : s.WarmedH U.vm) (hH : U.heap = H) (hS : va_S (fun q : Nat => z ≤ q) s.heap H locs) (h : XE z s) : XE z U := by
  subst hH
  refine ⟨fun w hw => ?_, vx_Zq.moved hW.alike (h.2.1.kept hS.2.1), vx_Zq.moved hW.alike (h.2.2.kept hS.2.1)⟩
  have h1 := h.1 w hw
  rcases List.mem_cons.mp hw with rfl | hw
  · exact va_Nw.warmD hW h1
  rcases List.mem_cons.mp hw with rfl | hw
  · exact va_Nw.warmD hW h1
  rcases List.mem_cons.mp hw with rfl | hw
  · exact va_Nw.warmD hW h1
  rcases List.mem_cons.mp hw with rfl | hw
  · exact va_Nw.warmC hW h1
  · cases hw
theorem XE.same {z : Nat} {u U : State} (hv : u.vm = U.vm) (hh : u.heap = U.heap) (h : XE z u) : XE z U := by
  have ha : u.vm.Alike U.vm := by rw [hv]; exact Vm.Alike.refl _
  refine ⟨fun w hw => va_Nw.same (xw_ot w hw) hv (h.1 w hw), ?_, ?_⟩
  · rw [← hh]; exact vx_Zq.moved ha h.2.1
  · rw [← hh]; exact vx_Zq.moved ha h.2.2
def PcX (D : va_G) (cI cJ cB cP : ClassId) (z b Ls : Nat) (xs : Nat → Int32) (S : List Cel) (M : Mem) (g : Bool) (as : List AV) : Array Value → State → Prop :=
  va_Pc (as.map (cv z b)) fun U => SWd D cI cJ cB cP z b Ls xs S M U ∧ (g = true → U.heap.size = z + S.length) ∧ XE z U
theorem PcX.blind {D : va_G} {cI cJ cB cP : ClassId} {z b Ls : Nat} {xs : Nat → Int32} {S : List Cel} {M : Mem} {g : Bool} {as : List AV} : FrameBlind (PcX D cI cJ cB cP z b Ls xs S M g as) := by
  intro a U gg mk h
  obtain ⟨h1, h2, h3, h4⟩ := h
  exact ⟨h1, SWd.same (u := U) (U := U.calling gg mk a) rfl rfl h2, h3, XE.same (u := U) (U := U.calling gg mk a) rfl rfl h4⟩
/-- the world behind a throw -/
def XCd (D : va_G) (cI cJ cB cP : ClassId) (z b Ls : Nat) (xs : Nat → Int32) (S : List Cel) (M : Mem) : String → State → State → Prop := fun E st t => E = "java/util/NoSuchElementException" ∧ SWd D cI cJ cB cP z b Ls xs S M t ∧ va_F (fun q : Nat => z ≤ q) st t
def rmX (d : Nat) : Room := { frames := d, cells := 1, slots := 6, locals := 40 * d }
theorem thr_186 : (cd 186).all (fun r => decide (r.2.2.1 ≠ 60 ∨ r.1 = 25)) = true := by decide +kernel
theorem thr_187 : (cd 187).all (fun r => decide (r.2.2.1 ≠ 60 ∨ r.1 = 21)) = true := by decide +kernel
theorem thr_d6 : decode (bOf 186) 25 = .ok (.new 311, 3) ∧ decode (bOf 186) 28 = .ok (.dup, 1) ∧ decode (bOf 186) 29 = .ok (.invokespecial 313, 3) ∧ decode (bOf 186) 32 = .ok (.athrow, 1) := by decide +kernel
theorem thr_d7 : decode (bOf 187) 21 = .ok (.new 311, 3) ∧ decode (bOf 187) 24 = .ok (.dup, 1) ∧ decode (bOf 187) 25 = .ok (.invokespecial 313, 3) ∧ decode (bOf 187) 28 = .ok (.athrow, 1) := by decide +kernel
theorem thr_at {u i pc len : Nat} {a b' : Int} {c' : Nat} (hu : u = 186 ∨ u = 187) (hr : Row u i pc len 60 a b' c') : decode (bOf u) pc = .ok (.new 311, 3) ∧ decode (bOf u) (pc + 3) = .ok (.dup, 1) ∧ decode (bOf u) (pc + 4) = .ok (.invokespecial 313, 3) ∧ decode (bOf u) (pc + 7) = .ok (.athrow, 1) := by
  rcases hu with rfl | rfl
  · have h := of_decide_eq_true (List.all_eq_true.mp thr_186 _ (List.mem_of_getElem? hr.1))
    have e : pc = 25 := h.resolve_left (fun q => q rfl)
    subst e
    exact thr_d6
  · have h := of_decide_eq_true (List.all_eq_true.mp thr_187 _ (List.mem_of_getElem? hr.1))
    have e : pc = 21 := h.resolve_left (fun q => q rfl)
    subst e
    exact thr_d7
/-- the world goes on, whatever is made behind it -/
theorem SWd.grow {D : va_G} {cI cJ cB cP : ClassId} {z b Ls : Nat} {xs : Nat → Int32} {S : List Cel} {M : Mem} {s t : State} {H : Heap} {locs : List Loc} (hE : EnvOK D cI cJ cB cP s) (hX : va_X b Ls xs s s.heap) (hbz : b < z) (hz : z ≤ s.heap.size) (hLs : Ls ≤ 2560) (hP : va_P D vwCl (wOf cI cJ cB cP z b S M) H) (hL : LOK S) (hR : SR Ls xs M) (hS : va_S (fun q : Nat => z ≤ q) s.heap H locs)
    (hW : s.WarmedH t.vm) (h1 : H.size ≤ t.heap.size) (h2 : ∀ q : Nat, q < H.size → t.heap[q]? = H[q]?) : SWd D cI cJ cB cP z b Ls xs S M t ∧ va_F (fun q : Nat => z ≤ q) s t := by
  have f : va_F (fun q : Nat => z ≤ q) s t := ⟨Nat.le_trans hS.1 h1, fun q q1 q2 => by rw [h2 q (Nat.lt_of_lt_of_le q1 hS.1)]; exact hS.2.1 q q1 q2⟩
  exact ⟨⟨hE.warm hW, hP.kept (fun k q hk => h2 q.1 (vx_lt hP hk)), hL, hR, (hX.moved hW.alike).kept (f.2 b (by omega) (Nat.not_le.mpr hbz)), hbz, Nat.le_trans hz f.1, hLs⟩, f⟩
theorem plain_u {u : Nat} (hu : u = 186 ∨ u = 187) : plainName (yOf u).cls = true ∧ kOf u = 11 ∧ cOf u = (0, 0) := by
  rcases hu with rfl | rfl <;> decide +kernel
/-- what the abstract machine throws, the method throws -/
theorem soundX {l : Launch} (hl : l.stackTraces = false) (D : va_G) (cI cJ cB cP : ClassId) (z b Ls : Nat) (xs : Nat → Int32) {n d u : Nat} {as : List AV} {S : List Cel} {M : Mem} {g : Bool} {r : AV} {S' : List Cel} {M' : Mem} {g' : Bool} (hu : u = 186 ∨ u = 187) (hd : 7 ≤ d)
    (hrun : run n d u (0, entL u as, [], (S, M, g, 0, 0)) = some (r, (S', M', g', 0, 0))) (h9 : r.1 = 9) (hsp : (spread as).length ≤ lOf u) :
    vx_Met l (yOf u) (wsU u) (rmX d) (PcX D cI cJ cB cP z b Ls xs S M g as) (fun _ _ _ _ => False) (XCd D cI cJ cB cP z b Ls xs S' M') 1 6 (fun q : Nat => z ≤ q) := by
  have hu7 : u < 307 := by omega
  obtain ⟨pu, ku, cu⟩ := plain_u hu
  refine vx_ofW (cc := bOf u) (maxL := lOf u) (ret := rOf u) pu rfl ?_
  intro p e s m args below meth c s₁ B hml htb hv
  obtain ⟨rfl, hw, hg, hx⟩ := hv
  have hts := atoms_spec (ws := wsU u) B.pre
  have hown : s.vm.findClass (cN (kOf u)) = some m.cls := by
    rw [← (MT_ok u hu7).2.2.2.2.2.2]
    exact findClass_of_methodNamed B.named
  have C : Cx p s m (as.map (cv z b)).toArray meth c (rmOf d u) D cI cJ cB cP z b Ls xs u d :=
    ⟨B.exec, B.bytes, hml, hown, fun w hw => hts w (List.mem_cons_of_mem _ hw), hw.1, hw.2.2.2.2.1, hw.2.2.2.2.2.1, hw.2.2.2.2.2.2.1, fun _ => (name_of_methodNamed B.named B.method).1, rfl, rfl, Nat.le_refl _, Nat.le_refl _, hw.2.2.2.2.2.2.2, by omega⟩
  have htg : ∀ w ∈ gw_tbl, w.before (as.map (cv z b)).toArray s = true := fun w hw => hts w (List.mem_cons_of_mem _ hw)
  have X0 : Stand p l e (rmX d) s m (as.map (cv z b)).toArray below meth c s₁ [] 0 0 := Stand.of_body B
  have r0 : s.hasRoom e.platform (rmOf d u) = true := by
    have h := X0.room
    simp only [State.hasRoom, rmX, rmOf, cu, Bool.and_eq_true, decide_eq_true_eq] at h ⊢
    obtain ⟨⟨⟨⟨h1, h2⟩, h3⟩, h4⟩, h5⟩ := h
    have h3 := of_decide_eq_true h3
    have h4 := of_decide_eq_true h4
    exact ⟨⟨⟨⟨of_decide_eq_true h1, of_decide_eq_true h2⟩, by omega⟩, by omega⟩, h5⟩
  rw [lg_entry_eq]
  have K := run_go (l := l) (e := e) (below := below) (Q := vx_MQ below (fun _ _ _ _ => False) (XCd D cI cJ cB cP z b Ls xs S' M') (as.map (cv z b)).toArray s 1 6 (fun q : Nat => z ≤ q)) n (fun n' d' u' as' S1 M1 g1 r' S2 M2 g2 x2 y2 _ => sound l D cI cJ cB cP z b Ls xs n' d' u' as' S1 M1 g1 r' S2 M2 g2 x2 y2) C
    (fun i pc len a b' c' L st st' h h' h'' n o v ra _ hr => absurd hr (no61 hu7)) r (S', M', g', 0, 0) (fun i pc len op a b' c' L st h hr he hf => ?_) n (Nat.le_refl _) _ hrun
  · have K := K s.heap [] _ ⟨hw.2.1, hw.2.2.1, hw.2.2.2.1, va_S.rf, fun q => by show s.heap.size + 0 = _; exact hg q⟩ (entL_rep hsp)
    dsimp only at K
    rw [pc0 (by omega)] at K
    intro T hT X
    exact K T hT { X with room := r0 }
  · have he' := of_decide_eq_true he
    have ho : op = 60 ∧ h = (S', M', g', 0, 0) ∧ st = [] := by
      unfold fin at hf
      split at hf
      · split at hf
        · cases hf; cases h9
        · cases hf
      split at hf
      · rename_i q
        split at hf
        · rename_i q2; cases hf; exact ⟨q, rfl, q2⟩
        · cases hf
      split at hf
      · split at hf
        · cases hf
        split at hf
        · split at hf
          · rename_i q; cases hf; omega
          · cases hf
        split at hf
        · split at hf
          · rename_i q; cases hf; omega
          · cases hf
        split at hf
        · split at hf
          · rename_i q; cases hf; omega
          · cases hf
        · cases hf
      · cases hf
    obtain ⟨rfl, rfl, rfl⟩ := ho
    obtain ⟨d0, d3, d4, d7⟩ := thr_at hu hr
    intro H locs ls hR hL
    obtain ⟨p1, p2, p3, p4, -⟩ := hR
    dsimp only at p1 p2 p3 p4 ⊢
    rw [hr.here]
    intro T hT X
    have hown' : s.vm.findClass "SkewRings" = some m.cls := by
      have q := hown
      rw [ku] at q
      exact q
    refine vx_throw0 (p := p) (l := l) (R := rmX d) (own := "SkewRings") (cls := "java/util/NoSuchElementException") (names := ["java/lang/RuntimeException", "java/lang/Exception"]) (ik := 311) (ic := 313) (A := fun q : Nat => z ≤ q) (H := H) (locs := locs) (cells := 0) (slots := 0) B.exec B.bytes hl hown' (by decide +kernel) (by decide +kernel)
      (htg _ (gw (tb 1286 (by decide +kernel)) rfl)) (htg _ (gw (tb 104 (by decide +kernel)) rfl)) (vx_hat (B := xw) (fun w hw => htg w (gw (xat_in w hw) (List.mem_filter.mp hw).2)) xat_bad (fun w hw => va_Nw.use (xw_ot w hw) (hx.1 w hw))) xat_ot hx.2.1 hx.2.2 p4 (by rw [hml]; exact hL.2.1) d0 d3 d4 d7 (fun x hx => (htb x hx).elim)
      (by show 2 + 3 < d; omega) ?_ (Nat.le_refl _) (Nat.le_refl _) B.notSynchronized (fun t hWt h1 h2 => ⟨rfl, SWd.grow hw.1 hw.2.2.2.2.1 hw.2.2.2.2.2.1 hw.2.2.2.2.2.2.1 hw.2.2.2.2.2.2.2 p1 p2 p3 p4 hWt h1 h2⟩) p4.2.2 (Nat.le_refl _) (Nat.le_refl _) T hT { X with room := X0.room }
    show 0 + (13 * (2 + 1) + 42) ≤ 40 * d
    omega
