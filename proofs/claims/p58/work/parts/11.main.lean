/-! ends of methods; the soundness of the abstract machine, whole -/
theorem MetofW' {l : Launch} {y : MethodName} {ws ws' : List Cond} {rm : Room} {Pc : Array Value → State → Prop} {Qc : Array Value → State → Outcome → State → Prop} {mc ms : Nat} {free : Addr → Prop} {cc : ByteArray} {maxL : Nat} {ret : Option FieldType}
    (hy : plainFor y = true) (hw : ws = Cond.code y cc maxL ret :: ws')
    (body : ∀ p e s m args below meth c s₁, BodyLoose p l y (headSpec ws rm) cc maxL ret e s m args below meth c s₁ → c.maxLocals = maxL → Pc args s →
      W p l e (headSpec ws rm).room s m args below meth c s.heap [] 0 0 (MQ below Qc args s mc ms free) (entryFrame m args maxL)) : Met l y ws rm Pc Qc mc ms free := by
  refine MetFree.of_bodySF (code := cc) (maxLocals := maxL) (ret := ret) hy ?_ ?_
  · intro args s m h hn
    obtain ⟨meth, c, h1, h2, h3, h4, h5, h6, -, -⟩ := Cond.code_spec hn (atoms_spec (ws := ws) h _ (by rw [hw]; exact List.mem_cons_self))
    exact ⟨meth, c, h1, h2, h3, h4, h5, h6⟩
  · intro p e s m args below meth c s₁ B hml hP _
    have hh0 : s₁.heap = s.heap := by rw [B.state]; rfl
    obtain ⟨t, a1, o, b1, b2, b3⟩ := body p e s m args below meth c s₁ B hml hP s₁ hh0 (Stand.of_body B)
    exact ⟨t, o, a1, b1, b2, ⟨b3.1, b3.2⟩⟩
theorem rk_int {t : Nat} (h : t < 308) (h0 : zOf t = 1) : rOf t = some .int := by
  have := rk_ok t h
  rw [h0] at this
  cases hr : rOf t with
  | none => rw [hr] at this; cases this
  | some ty => rw [hr] at this; cases ty <;> first | rfl | (cases this; done)
theorem rk_bool {t : Nat} (h : t < 308) (h0 : zOf t = 2) : rOf t = some .boolean := by
  have := rk_ok t h
  rw [h0] at this
  cases hr : rOf t with
  | none => rw [hr] at this; cases this
  | some ty => rw [hr] at this; cases ty <;> first | rfl | (cases this; done)
theorem rk_long {t : Nat} (h : t < 308) (h0 : zOf t = 3) : rOf t = some .long := by
  have := rk_ok t h
  rw [h0] at this
  cases hr : rOf t with
  | none => rw [hr] at this; cases this
  | some ty => rw [hr] at this; cases ty <;> first | rfl | (cases this; done)
theorem rk_ref {t : Nat} (h : t < 308) (h0 : zOf t = 4) : ∃ ty, rOf t = some ty ∧ ((∃ n, ty = .object n) ∨ ∃ w, ty = .array w) := by
  have := rk_ok t h
  rw [h0] at this
  cases hr : rOf t with
  | none => rw [hr] at this; cases this
  | some ty => rw [hr] at this; cases ty <;> first | exact ⟨_, rfl, Or.inl ⟨_, rfl⟩⟩ | exact ⟨_, rfl, Or.inr ⟨_, rfl⟩⟩ | (cases this; done)
theorem pc0_all : (List.range 308).all (fun t => decide (pcOf t 0 = 0)) = true := by decide +kernel
theorem pc0 {t : Nat} (h : t < 308) : pcOf t 0 = 0 := of_decide_eq_true (List.all_eq_true.mp pc0_all t (List.mem_range.mpr h))
theorem spread_cons (v : AV) (vs : List AV) : spread (v :: vs) = (if v.1 = 2 then [v, (3, 0)] else [v]) ++ spread vs := rfl
theorem lgsl_cons (v : Value) (vs : List Value) : lg_sl (v :: vs) = (if v.category = 2 then [.val v, .second] else [.val v]) ++ lg_sl vs := rfl
theorem spread_len (z b : Nat) : ∀ as : List AV, (lg_sl (as.map (cv z b))).length = (spread as).length
  | [] => rfl
  | v :: as => by
    rw [List.map_cons, lgsl_cons, spread_cons, List.length_append, List.length_append, spread_len z b as, cv_cat]
    by_cases h : v.1 = 2 <;> simp [h]
theorem spread_at (z b : Nat) : ∀ (as : List AV) (k : Nat) (v : AV), (spread as)[k]? = some v → v.1 ≤ 2 → (lg_sl (as.map (cv z b)))[k]? = some (.val (cv z b v))
  | [], k, v, h, _ => by simp [spread] at h
  | w :: as, k, v, h, hv => by
    rw [List.map_cons, lgsl_cons]
    rw [spread_cons] at h
    rw [cv_cat]
    by_cases h2 : w.1 = 2
    · rw [if_pos h2] at h
      rw [if_pos h2, if_pos rfl]
      match k with
      | 0 => simp at h; subst h; rfl
      | 1 => simp at h; subst h; simp at hv
      | k + 2 => exact spread_at z b as k v (by simpa using h) hv
    · rw [if_neg h2] at h
      rw [if_neg h2, if_neg (by decide)]
      match k with
      | 0 => simp at h; subst h; rfl
      | k + 1 => exact spread_at z b as k v (by simpa using h) hv
theorem entL_rep {z b u : Nat} {as : List AV} (h : (spread as).length ≤ lOf u) : LocRep z b (lOf u) (entL u as) ((lg_sl (as.map (cv z b)) ++ List.replicate (lOf u - (lg_sl (as.map (cv z b))).length) Slot.unset).toArray) := by
  have hl := lv_entry (as.map (cv z b)) (n := lOf u) (by rw [spread_len]; exact h)
  refine ⟨by unfold entL; simp; omega, hl.1, hl.2.1, fun k v hk hv => ?_⟩
  unfold entL at hk
  by_cases hlt : k < (spread as).length
  · rw [List.getElem?_append_left hlt] at hk
    have := spread_at z b as k v hk hv
    rw [List.getElem?_toArray, List.getElem?_append_left (by rw [spread_len]; exact hlt)]
    exact this
  · rw [List.getElem?_append_right (by omega)] at hk
    rw [List.getElem?_replicate] at hk
    split at hk
    · cases hk; simp at hv
    · cases hk
section SND7
variable {p : Program} {l : Launch} {e : Env} {R : Room} {s : State} {m : MethodId} {args : Array Value} {below : List Frame} {meth : Method} {c : Code} {Q : State → Prop}
variable {D : va_G} {cI cJ cB cP : ClassId} {z b : Nat} {Ls : Nat × Nat × Nat} {xs : Nat → Int32} {t d : Nat}
theorem q_end {h : Hp} {H : Heap} {locs : List Loc} {r : AV} (C : Cx p s m args meth c R D cI cJ cB cP z b Ls xs t d) (hR : Rl s D cI cJ cB cP z b Ls xs h H locs) (hc : h.2.2.2.1 = (cOf t).1) (t' : State) (ht : t'.heap = H) (hW : s.WarmedH t'.vm) :
    QcU D cI cJ cB cP z b Ls xs t h.1 h.2.1 h.2.2.1 r args s (.returned (retv z b r)) t' := by
  obtain ⟨-, -, -, -, -, hE, hX, hbz, hz, -, -, -, -, -, hLs, -⟩ := C
  obtain ⟨r1, r2, r3, r4, r5⟩ := hR
  refine ⟨rfl, ⟨hE.warm hW, by rw [ht]; exact r1, r2, r3, ?_, hbz, by rw [ht]; exact Nat.le_trans hz r4.1, hLs.1, by rw [ht]; exact Nat.lt_of_lt_of_le hLs.2.1 r4.1, by rw [ht]; exact Nat.lt_of_lt_of_le hLs.2.2 r4.1⟩, ⟨by rw [ht]; exact r4.1, fun q q1 q2 => by rw [ht]; exact r4.2.1 q q1 q2⟩, fun hg => by rw [← hc]; exact (r5 hg).symm⟩
  rw [ht]
  exact (hX.moved hW.alike).kept (r4.2.1 b (by omega) (fun h_ => Nat.not_le.mpr hbz h_.1))
theorem sn_end {i pc len op : Nat} {a b' : Int} {c' : Nat} {L st : List AV} {h h' : Hp} {r : AV} (C : Cx p s m args meth c R D cI cJ cB cP z b Ls xs t d) (hrt : meth.sig.returnType = rOf t) (hlk : meth.locks = false) (ht7 : t < 307) (h9 : r.1 ≠ 9) (hr : Row t i pc len op a b' c') (he : isEnd op = true) (hf : fin t op st h = some (r, h')) :
    WG p l e R s m args below meth c D cI cJ cB cP z b Ls xs t (MQ below (QcU D cI cJ cB cP z b Ls xs t h'.1 h'.2.1 h'.2.2.1 r) args s (cOf t).1 (cOf t).2 (Fz z Ls)) (i, L, st, h) := by
  have C' := C
  obtain ⟨hx, hb, -⟩ := C
  have he := of_decide_eq_true he
  unfold fin at hf
  intro H locs ls hR hL
  dsimp only
  rw [hr.here]
  have hloc : ∀ q ∈ locs, Fz z Ls q.base := hR.2.2.2.1.2.2
  split at hf
  · rename_i ho
    subst ho
    split at hf
    · rename_i hg
      obtain ⟨rfl, hz0, hsp⟩ := hg
      cases hf
      have hsp := of_decide_eq_true hsp
      have hsp : h.2.2.2.1 = (cOf t).1 ∧ h.2.2.2.2 = (cOf t).2 := by omega
      have hd := hr.2.2 (by omega)
      have hlen := hr.len1 (by omega)
      subst hlen
      rw [hsp.1, hsp.2]
      exact W.vret hx hb (by rw [hrt]; exact rk_none (by omega) hz0) (fun t' q1 q2 => q_end (r := (4, 0)) C' hR hsp.1 t' q1 q2) hloc hd hlk
    · cases hf
  split at hf
  · split at hf
    · cases hf; exact absurd rfl h9
    · cases hf
  split at hf
  · rename_i v
    split at hf
    · cases hf
    · rename_i hsp
      have hsp : spent t h = true := by simpa using hsp
      have hsp := of_decide_eq_true hsp
      have hsp : h.2.2.2.1 = (cOf t).1 ∧ h.2.2.2.2 = (cOf t).2 := by omega
      rw [hsp.1, hsp.2]
      split at hf
      · rename_i ho
        subst ho
        split at hf
        · rename_i hg
          cases hf
          obtain ⟨g, x⟩ := r
          obtain ⟨g1, g2⟩ := hg
          dsimp only at g1
          subst g1
          have hd := hr.2.2 (by omega)
          have hlen := hr.len1 (by omega)
          subst hlen
          rcases g2 with g2 | ⟨g2, g3⟩
          · exact W.iret (v := i32 x) hx hb (by rw [hrt]; exact rk_int (by omega) g2) (fun t' q1 q2 => q_end (r := (0, x)) C' hR hsp.1 t' q1 q2) hloc hd hlk
          · refine W.zret (v := i32 x) (ty := .boolean) hx hb (by rw [hrt]; exact rk_bool (by omega) g2) ?_ (fun t' q1 q2 => q_end (r := (0, x)) C' hR hsp.1 t' q1 q2) hloc hd hlk
            dsimp only at g3
            rcases g3 with rfl | rfl <;> rfl
        · cases hf
      split at hf
      · rename_i ho
        subst ho
        split at hf
        · rename_i hg
          cases hf
          obtain ⟨g, x⟩ := r
          obtain ⟨g1, g2⟩ := hg
          dsimp only at g1
          subst g1
          have hd := hr.2.2 (by omega)
          have hlen := hr.len1 (by omega)
          subst hlen
          obtain ⟨ty, e1, e2⟩ := rk_ref (t := t) (by omega) g2
          refine W.aret (v := rfv z b x) hx hb (by rw [hrt]; exact e1) e2 ?_ (fun t' q1 q2 => q_end (r := (1, x)) C' hR hsp.1 t' q1 q2) hloc hd hlk
          by_cases hn : x = -1
          · exact Or.inl (by rw [hn]; exact rfv_null z b)
          · exact Or.inr (rfv_ref z b hn)
        · cases hf
      split at hf
      · rename_i ho
        subst ho
        split at hf
        · rename_i hg
          cases hf
          obtain ⟨g, x⟩ := r
          obtain ⟨g1, g2⟩ := hg
          dsimp only at g1
          subst g1
          have hd := hr.2.2 (by omega)
          have hlen := hr.len1 (by omega)
          subst hlen
          exact W.lret (v := i64 x) hx hb (by rw [hrt]; exact rk_long (by omega) g2) (fun t' q1 q2 => q_end (r := (2, x)) C' hR hsp.1 t' q1 q2) hloc hd hlk
        · cases hf
      · cases hf
  · cases hf
theorem no61_all : (List.range 307).all (fun t => (cd t).all fun r => decide (r.2.2.1 ≠ 61)) = true := by decide +kernel
theorem no61 {i pc len : Nat} {a b' : Int} {c' : Nat} (h : t < 307) (hr : Row t i pc len 61 a b' c') : False := by
  have h1 := List.all_eq_true.mp (List.all_eq_true.mp no61_all t (List.mem_range.mpr h)) _ (List.mem_of_getElem? hr.1)
  exact (of_decide_eq_true h1) rfl
end SND7
/-- THE SOUNDNESS: what the abstract machine answers, the method does -/
theorem sound (l : Launch) (D : va_G) (cI cJ cB cP : ClassId) (z b : Nat) (Ls : Nat × Nat × Nat) (xs : Nat → Int32) : ∀ (n d u : Nat) (as : List AV) (S : List Cel) (M : Mem) (g : Bool) (r : AV) (S' : List Cel) (M' : Mem) (g' : Bool) (x y : Nat), run n d u (0, entL u as, [], (S, M, g, 0, 0)) = some (r, (S', M', g', x, y)) → r.1 ≠ 9 → (u < 307 ∧ vOf u = true) → (spread as).length ≤ lOf u →
    SoundC l D cI cJ cB cP z b Ls xs d u as S M g r S' M' g' := by
  intro n
  induction n using Nat.strongRecOn with
  | _ n IH =>
  intro d u as S M g r S' M' g' x y hrun h9 hu7 hsp
  refine MetofW' (cc := bOf u) (maxL := lOf u) (ret := rOf u) (MT_ok u hu7.1 hu7.2).2.2.1 rfl ?_
  intro p e s m args below meth c s₁ B hml hv
  obtain ⟨rfl, hw, hg⟩ := hv
  have hts := atoms_spec (ws := wsU u) B.pre
  have hown : s.vm.findClass (cN (kOf u)) = some m.cls := by
    rw [← (MT_ok u hu7.1 hu7.2).2.2.2.2.2.2]
    exact findClass_of_methodNamed B.named
  have C : Cx p s m (as.map (cv z b)).toArray meth c (rmOf d u) D cI cJ cB cP z b Ls xs u d :=
    ⟨B.exec, B.bytes, hml, hown, fun w hw => hts w (List.mem_cons_of_mem _ hw), hw.1, hw.2.2.2.2.1, hw.2.2.2.2.2.1, hw.2.2.2.2.2.2.1, fun _ => (name_of_methodNamed B.named B.method).1, rfl, rfl, Nat.le_refl _, Nat.le_refl _, hw.2.2.2.2.2.2.2, Or.inl hu7⟩
  rw [lg_entry_eq]
  have K := run_go (l := l) (e := e) (below := below) (Q := MQ below (QcU D cI cJ cB cP z b Ls xs u S' M' g' r) (as.map (cv z b)).toArray s (cOf u).1 (cOf u).2 (Fz z Ls)) n (fun n' d' u' as' S1 M1 g1 r' S2 M2 g2 x2 y2 hlt => IH n' hlt d' u' as' S1 M1 g1 r' S2 M2 g2 x2 y2) C
    (fun i pc len a b' c' L st h n m9 _ hr => absurd hr (no61 hu7.1)) r (S', M', g', x, y) (fun i pc len op a b' c' L st h hr he hf => sn_end C B.returns B.notSynchronized hu7.1 h9 hr he hf) n (Nat.le_refl _) _ hrun
  have K := K s.heap [] _ ⟨hw.2.1, hw.2.2.1, hw.2.2.2.1, va_S.rf, fun q => by show s.heap.size + 0 = _; exact hg q⟩ (entL_rep hsp)
  dsimp only at K
  rw [pc0 (by omega)] at K
  exact K
