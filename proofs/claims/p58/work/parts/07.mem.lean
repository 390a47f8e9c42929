/-! the single steps: fields, rows, what is made -/
theorem vwCl_at : ∀ ci, ci < 13 → vwCl[ci]? = some (cN ci, cT ci, cZ ci) := fun ci h => match ci, h with
  | 0, _ => rfl | 1, _ => rfl | 2, _ => rfl | 3, _ => rfl | 4, _ => rfl | 5, _ => rfl | 6, _ => rfl | 7, _ => rfl | 8, _ => rfl | 9, _ => rfl | 10, _ => rfl | 11, _ => rfl | 12, _ => rfl
def isRefT : FieldType → Bool
  | .object _ => true
  | .array _ => true
  | _ => false
theorem tag_all : (List.range 13).all (fun ci => (List.range (cZ ci)).all fun f => (if ftag ci f = 0 then decide (cY ci f = .int) else isRefT (cY ci f)) && decide ((cT ci f).2.2.2 = decide (ftag ci f = 1))) = true := by decide +kernel
theorem tag_ok {ci f : Nat} (h : ci < 13) (hf : f < cZ ci) : (if ftag ci f = 0 then decide (cY ci f = .int) else isRefT (cY ci f)) = true ∧ (cT ci f).2.2.2 = decide (ftag ci f = 1) := by
  have h1 := List.all_eq_true.mp (List.all_eq_true.mp tag_all ci (List.mem_range.mpr h)) f (List.mem_range.mpr hf)
  simp only [Bool.and_eq_true, decide_eq_true_eq] at h1
  exact h1
theorem ref_nar {ty : FieldType} (h : isRefT ty = true) (z b : Nat) (x : Int) : narrow ty (rfv z b x) = rfv z b x ∧ fits ty (rfv z b x) = true := by
  by_cases hn : x = -1
  · subst hn
    rw [rfv_null]
    cases ty <;> first | (cases h; done) | exact ⟨rfl, rfl⟩
  · obtain ⟨q, hq⟩ := rfv_ref z b hn
    rw [hq]
    cases ty <;> first | (cases h; done) | exact ⟨rfl, rfl⟩
theorem fvals_at {z b ci f : Nat} {rs : List Int} {M : Mem} {p : Int} (hf : f < cZ ci) : (fvals z b ci rs M p)[f]? = some (cv z b (fv ci f rs M p)) := by
  simp [fvals, List.getElem?_map, List.getElem?_range hf]
theorem fvals_len {z b ci : Nat} {rs : List Int} {M : Mem} {p : Int} : (fvals z b ci rs M p).length = cZ ci := by simp [fvals]
theorem fvals_set {z b ci f : Nat} {rs rs' : List Int} {M M' : Mem} {p : Int} {v : Value} (hf : f < cZ ci) (h1 : cv z b (fv ci f rs' M' p) = v) (h2 : ∀ k, k ≠ f → fv ci k rs' M' p = fv ci k rs M p) : (fvals z b ci rs M p).set f v = fvals z b ci rs' M' p := by
  apply List.ext_getElem?
  intro k
  by_cases hk : k = f
  · subst hk
    rw [List.getElem?_set_self (by rw [fvals_len]; exact hf), fvals_at hf, h1]
  · rw [List.getElem?_set_ne (Ne.symm hk)]
    by_cases hl : k < cZ ci
    · rw [fvals_at hl, fvals_at hl, h2 k hk]
    · rw [List.getElem?_eq_none (by rw [fvals_len]; omega), List.getElem?_eq_none (by rw [fvals_len]; omega)]
theorem ent_obj {cI cJ cB cP : ClassId} {z b : Nat} {x : Int} {ci : Nat} {rs : List Int} {M : Mem} : ent cI cJ cB cP z b x (0, ci, rs) M = .inr (ci, fvals z b ci rs M x) := by simp [ent]
theorem ent_int {cI cJ cB cP : ClassId} {z b : Nat} {x : Int} {n : Nat} {rs : List Int} {M : Mem} : ent cI cJ cB cP z b x (1, n, rs) M = .inl (cI, n, .inl fun j => i32 (M x j)) := by simp [ent]
theorem ent_long {cI cJ cB cP : ClassId} {z b : Nat} {x : Int} {n : Nat} {rs : List Int} {M : Mem} : ent cI cJ cB cP z b x (2, n, rs) M = .inl (cJ, n, .inr (.inl fun j => i64 (M x j))) := by simp [ent]
theorem ent_byte {cI cJ cB cP : ClassId} {z b : Nat} {x : Int} {n : Nat} {rs : List Int} {M : Mem} : ent cI cJ cB cP z b x (3, n, rs) M = .inl (cB, n, .inl fun j => i32 (M x j)) := by simp [ent]
theorem ent_ref {cI cJ cB cP : ClassId} {z b : Nat} {x : Int} {n : Nat} {rs : List Int} {M : Mem} : ent cI cJ cB cP z b x (4, n, rs) M = .inl (cP, n, .inr (.inr (.inr (.inr fun j => rfo z b (rs.getD j (-1)))))) := by simp [ent]
theorem low {D : va_G} {cI cJ cB cP : ClassId} {z b : Nat} {S : List Cel} {M : Mem} {H : Heap} (hP : va_P D vwCl (wOf cI cJ cB cP z b S M) H) (hz : z ≤ H.size) : z + S.length ≤ H.size := by
  by_cases h : S.length = 0
  · omega
  · have h1 : S[S.length - 1]? = some (S[S.length - 1]'(by omega)) := List.getElem?_eq_getElem (by omega)
    have h2 := (hP _ _ (wOf_at (cI := cI) (cJ := cJ) (cB := cB) (cP := cP) (z := z) (b := b) (M := M) h1)).lt
    dsimp only at h2
    omega
theorem LOR_set {S : List Cel} {x : Nat} {c c' : Cel} (h : LOR S) (hc : S[x]? = some c) (h1 : c'.1 = c.1) (h2 : c'.2.1 = c.2.1) : LOR (S.set x c') := by
  intro y d hd
  have hx : x < S.length := (List.getElem?_eq_some_iff.mp hc).1
  by_cases e : y = x
  · subst e
    rw [List.getElem?_set_self hx] at hd
    cases hd
    rw [h1, h2]
    exact h y c hc
  · rw [List.getElem?_set_ne (Ne.symm e)] at hd
    exact h y d hd
theorem LOK_set {z : Nat} {Ls : Nat × Nat × Nat} {S : List Cel} {x : Nat} {c c' : Cel} (h : LOK z Ls S) (hc : S[x]? = some c) (h1 : c'.1 = c.1) (h2 : c'.2.1 = c.2.1) : LOK z Ls (S.set x c') :=
  ⟨LOR_set h.1 hc h1 h2, by have := h.2; unfold HOk at this ⊢; rw [List.length_set]; exact this⟩
theorem LOR_push {S : List Cel} {c : Cel} (h : LOR S) (hc : (c.1 = 0 ∧ c.2.1 < 13) ∨ (1 ≤ c.1 ∧ c.1 ≤ 4 ∧ c.2.1 ≤ 65536)) : LOR (S ++ [c]) := by
  intro y d hd
  by_cases e : y < S.length
  · rw [List.getElem?_append_left e] at hd
    exact h y d hd
  · rw [List.getElem?_append_right (by omega)] at hd
    have : y - S.length = 0 := by
      have := (List.getElem?_eq_some_iff.mp hd).1
      simp at this
      omega
    rw [this] at hd
    cases hd
    exact hc
theorem LOK_push {z : Nat} {Ls : Nat × Nat × Nat} {S : List Cel} {c : Cel} (h : LOK z Ls S) (h0 : Ls.2.1 < z + S.length ∧ Ls.2.2 < z + S.length) (hc : (c.1 = 0 ∧ c.2.1 < 13) ∨ (1 ≤ c.1 ∧ c.1 ≤ 4 ∧ c.2.1 ≤ 65536)) : LOK z Ls (S ++ [c]) :=
  ⟨LOR_push h.1 hc, by have := h.2; unfold HOk at this ⊢; omega⟩
theorem ix_nat {j : Int} {n : Nat} (h0 : 0 ≤ j) (h1 : j < n) (hn : n ≤ 65536) : vp_in (i32 j) n ∧ (i32 j).toNatClampNeg = j.toNat := by
  obtain ⟨k, rfl⟩ := Int.eq_ofNat_of_zero_le h0
  have hk : k < n := by omega
  have e : i32 (k : Int) = nI k := i32_nat k
  rw [e]
  exact ⟨vp_in_nI hk (by omega), nI_clamp (by omega)⟩
section SND3
variable {p : Program} {l : Launch} {e : Env} {R : Room} {s : State} {m : MethodId} {args : Array Value} {below : List Frame} {meth : Method} {c : Code} {Q : State → Prop}
variable {D : va_G} {cI cJ cB cP : ClassId} {z b : Nat} {Ls : Nat × Nat × Nat} {xs : Nat → Int32} {t d : Nat}
theorem fl_row {i pc len op : Nat} {a b' : Int} {c' : Nat} (hr : Row t i pc len op a b' c') (ho : op = 40 ∨ op = 41) : ∃ idx ci f ns, FL[c']? = some (kOf t, idx, ci, f, ns) ∧ (ci : Int) = a ∧ (f : Int) = b' ∧ ci < 13 ∧ f < cZ ci ∧ len = 3 := by
  have h1 := hr.2.1
  unfold okR at h1
  simp only [Bool.and_eq_true] at h1
  have h2 := h1.2
  simp only [show ¬ op ≤ 6 by omega, show op ≠ 7 by omega, show op ≠ 8 by omega, show op ≠ 29 by omega, show op ≠ 63 by omega, show op ≠ 35 by omega, show op ≠ 36 by omega, ho, if_false, if_true] at h2
  simp only [Bool.and_eq_true, decide_eq_true_eq] at h2
  cases hf : FL[c']? with
  | none => rw [hf] at h2; cases h2.1
  | some q =>
    obtain ⟨own, idx, ci, f, ns⟩ := q
    rw [hf] at h2
    have h3 := h2.1
    dsimp only at h3
    have h4 := of_decide_eq_true h3
    obtain ⟨rfl, h5, h6, h7, h8⟩ := h4
    exact ⟨idx, ci, f, ns, rfl, h5, h6, h7, h8, h2.2⟩
theorem sn_get {i pc len : Nat} {a b' : Int} {c' : Nat} {L st : List AV} {h : Hp} {cf' : Cf} (C : Cx p s m args meth c R D cI cJ cB cP z b Ls xs t d) (hr : Row t i pc len 40 a b' c') (hs : oGet a.toNat b'.toNat i L st h = some cf')
    (hG : WG p l e R s m args below meth c D cI cJ cB cP z b Ls xs t Q cf') : WG p l e R s m args below meth c D cI cJ cB cP z b Ls xs t Q (i, L, st, h) := by
  obtain ⟨hx, hb, -, hown, hts, hE, -⟩ := C
  obtain ⟨idx, ci, f, ns, hF, rfl, rfl, hci, hf, rfl⟩ := fl_row hr (Or.inl rfl)
  have hd := hr.2.2 (by omega)
  have hn := hr.next (by omega)
  have hd' : decode (bOf t) pc = .ok (.getfield idx, 3) := by
    rw [hd]
    show Except.ok (Instr.getfield (FL.getD c' (0, 0, 0, 0, 0)).2.1, 3) = _
    simp [List.getD, hF]
  unfold oGet at hs
  split at hs
  · rename_i x r
    split at hs
    · cases hs
    · rename_i hp
      split at hs
      · rename_i cj rs hcell
        split at hs
        · rename_i hcj
          cases hs
          rw [Int.toNat_natCast] at hcj
          subst hcj
          intro H locs ls hR hL
          have K := hG H locs ls hR hL
          dsimp only at K hR ⊢
          rw [hn, List.map_cons] at K
          rw [hr.here, List.map_cons, show cv z b (1, x) = .ref (z + x.toNat) from rfv_cell z b (by omega)]
          have he := wOf_at (cI := cI) (cJ := cJ) (cB := cB) (cP := cP) (z := z) (b := b) (M := h.2.1) hcell
          rw [ent_obj, Int.toNat_of_nonneg (by omega : 0 ≤ x)] at he
          have hv := fvals_at (z := z) (b := b) (ci := cj) (f := f) (rs := rs) (M := h.2.1) (p := x) hf
          rw [Int.toNat_natCast] at K
          have hsame : ∀ w, s.fieldFound? (cT cj f).1 (cT cj f).2.1 (cT cj f).2.2.1 = some w → s.fieldFound? (cN cj) (cT cj f).2.1 (cT cj f).2.2.1 = some w := fun w hw => by rw [cls_dc cj hci f hf] at hw; exact hw
          have hl := allP_at FL_ok _ _ hF
          unfold flP at hl
          dsimp only at hl
          by_cases h1 : ns = 1
          · rw [if_pos h1] at hl
            exact va_getN hx hb hts (cls_gw cj hci) hown hE.1 hR.1 x.toNat he (vwCl_at cj hci) f hf (va_Nw.use rfl (hE.2.1 _ hl rfl)) hsame hv hd' K
          · rw [if_neg h1] at hl
            exact va_get hx hb hts (cls_gw cj hci) hown hE.1 hR.1 x.toNat he (vwCl_at cj hci) f hf (hts _ (gw hl rfl)) hsame hv hd' K
        · cases hs
      · cases hs
  · cases hs
theorem fl_own_all : FL.all (fun q => decide (q.1 = q.2.2.1 → q.2.2.2.2 ≠ 1)) = true := by decide +kernel
theorem fl_own {i own idx ci f ns : Nat} (h : FL[i]? = some (own, idx, ci, f, ns)) (h1 : own = ci) : ns ≠ 1 := (of_decide_eq_true (List.all_eq_true.mp fl_own_all _ (List.mem_of_getElem? h))) h1
theorem fv_up_ne {ci k f : Nat} {rs : List Int} {M : Mem} {x v : Int} (hk : k ≠ f) : fv ci k rs (up M x (f : Int) v) x = fv ci k rs M x := by
  unfold fv
  rw [up_ne2 (by omega)]
theorem sn_put {i pc len : Nat} {a b' : Int} {c' : Nat} {L st : List AV} {h : Hp} {cf' : Cf} (C : Cx p s m args meth c R D cI cJ cB cP z b Ls xs t d) (hr : Row t i pc len 41 a b' c') (hs : oPut t a.toNat b'.toNat i L st h = some cf')
    (hG : WG p l e R s m args below meth c D cI cJ cB cP z b Ls xs t Q cf') : WG p l e R s m args below meth c D cI cJ cB cP z b Ls xs t Q (i, L, st, h) := by
  obtain ⟨hx, hb, -, hown, hts, hE, -, -, -, hnm, -⟩ := C
  obtain ⟨idx, ci, f, ns, hF, rfl, rfl, hci, hf, rfl⟩ := fl_row hr (Or.inr rfl)
  have hd := hr.2.2 (by omega)
  have hn := hr.next (by omega)
  have hd' : decode (bOf t) pc = .ok (.putfield idx, 3) := by
    rw [hd]
    show Except.ok (Instr.putfield (FL.getD c' (0, 0, 0, 0, 0)).2.1, 3) = _
    simp [List.getD, hF]
  have hl := allP_at FL_ok _ _ hF
  unfold flP at hl
  dsimp only at hl
  have htag := tag_ok hci hf
  unfold oPut at hs
  split at hs
  · rename_i v x r
    split at hs
    · cases hs
    · rename_i hp
      split at hs
      · rename_i cj rs hcell
        split at hs
        · rename_i hcj
          rw [Int.toNat_natCast] at hcj
          subst hcj
          rw [Int.toNat_natCast, Int.toNat_natCast] at hs
          have hsame : ∀ w, s.fieldFound? (cT cj f).1 (cT cj f).2.1 (cT cj f).2.2.1 = some w → s.fieldFound? (cN cj) (cT cj f).2.1 (cT cj f).2.2.1 = some w := fun w hw => by rw [cls_dc cj hci f hf] at hw; exact hw
          have hxl : x.toNat < h.1.length := (List.getElem?_eq_some_iff.mp hcell).1
          have hxx : ((x.toNat : Nat) : Int) = x := Int.toNat_of_nonneg (by omega)
          split at hs
          · rename_i h1
            split at hs
            · rename_i h2
              obtain ⟨g1, g2, g3, g4, g5⟩ := h2
              cases hs
              intro H locs ls hR hL
              dsimp only at hR ⊢
              have he := wOf_at (cI := cI) (cJ := cJ) (cB := cB) (cP := cP) (z := z) (b := b) (M := h.2.1) hcell
              rw [ent_obj, hxx] at he
              obtain ⟨g, w⟩ := v
              dsimp only at g1
              subst g1
              rw [hr.here, List.map_cons, List.map_cons, show cv z b (1, x) = .ref (z + x.toNat) from rfv_cell z b (by omega)]
              show W p l e R s m args below meth c H locs _ _ Q (F0 m pc ls (rfv z b w :: _))
              have hty := htag.1
              rw [if_neg (by omega)] at hty
              obtain ⟨n1, n2⟩ := ref_nar hty z b w
              by_cases hns : ns = 1
              · exfalso
                exact fl_own hF g4 hns
              rw [if_neg hns] at hl
              refine va_putF hx hb hts (cls_gw cj hci) (cY cj) (cls_ty cj hci) (cls_nm cj hci) hown hE.1 hR.1 (wOf_D hR.2.1.2) hR.2.2.2.1 x.toNat he (vwCl_at cj hci) f hf (hts _ (gw hl rfl)) hsame (by rw [htag.2]; simp [h1]) (by rw [hnm g3]; exact init_ok t g3 g2) (by rw [cls_dc cj hci f hf, g4]) (cls_ty cj hci f hf) n1 n2 (by rw [fvals_len]; exact hf) hd' fun H1 locs1 p1 d1 s1 => ?_
              have e1 : (fvals z b cj rs h.2.1 x).set f (rfv z b w) = fvals z b cj (rs.set f w) h.2.1 x := by
                refine fvals_set hf ?_ fun k hk => ?_
                · unfold fv
                  rw [if_neg (by omega), if_pos h1]
                  show rfv z b _ = _
                  simp [List.getD, List.getElem?_set_self g5]
                · unfold fv
                  rw [show (rs.set f w).getD k (-1) = rs.getD k (-1) by simp [List.getD, List.getElem?_set_ne (Ne.symm hk)]]
              have e2 : (wOf cI cJ cB cP z b h.1 h.2.1).set x.toNat (z + x.toNat, .inr (cj, (fvals z b cj rs h.2.1 x).set f (rfv z b w))) = wOf cI cJ cB cP z b (h.1.set x.toNat (0, cj, rs.set f w)) h.2.1 := by
                have e3 := wOf_set (cI := cI) (cJ := cJ) (cB := cB) (cP := cP) (z := z) (b := b) (S := h.1) (S' := h.1.set x.toNat (0, cj, rs.set f w)) (M := h.2.1) (M' := h.2.1) (x := x.toNat) (c' := (0, cj, rs.set f w)) (by simp) hxl (List.getElem?_set_self hxl) (fun y hy => List.getElem?_set_ne (Ne.symm hy)) (fun _ _ _ _ => rfl)
                rw [ent_obj, hxx] at e3
                rw [e1]
                exact e3
              rw [e2] at p1
              have K := hG H1 locs1 ls ⟨p1, LOK_set hR.2.1 hcell rfl rfl, hR.2.2.1, s1, fun q => by have := hR.2.2.2.2 q; simpa using this⟩ hL
              dsimp only at K
              rw [hn] at K
              exact K
            · cases hs
          · rename_i h1
            by_cases g1 : v.1 = (if ftag cj f = 0 then 0 else 1)
            · rw [if_pos g1] at hs
              cases hs
              intro H locs ls hR hL
              dsimp only at hR ⊢
              have he := wOf_at (cI := cI) (cJ := cJ) (cB := cB) (cP := cP) (z := z) (b := b) (M := h.2.1) hcell
              rw [ent_obj, hxx] at he
              rw [hr.here, List.map_cons, List.map_cons, show cv z b (1, x) = .ref (z + x.toNat) from rfv_cell z b (by omega)]
              have hnf : narrow (cY cj f) (cv z b v) = cv z b v ∧ fits (cY cj f) (cv z b v) = true := by
                obtain ⟨g, w⟩ := v
                dsimp only at g1
                by_cases h0 : ftag cj f = 0
                · rw [if_pos h0] at g1
                  subst g1
                  have hty := htag.1
                  rw [if_pos h0] at hty
                  have hty := of_decide_eq_true hty
                  rw [hty]
                  exact ⟨rfl, rfl⟩
                · rw [if_neg h0] at g1
                  subst g1
                  have hty := htag.1
                  rw [if_neg h0] at hty
                  exact ref_nar hty z b w
              have e1 : (fvals z b cj rs h.2.1 x).set f (cv z b v) = fvals z b cj rs (up h.2.1 x (f : Int) v.2) x := by
                refine fvals_set hf ?_ fun k hk => fv_up_ne hk
                unfold fv
                rw [up_eq]
                obtain ⟨g, w⟩ := v
                dsimp only at g1 ⊢
                by_cases h0 : ftag cj f = 0
                · rw [if_pos h0] at g1 ⊢
                  rw [g1]
                · rw [if_neg h0] at g1 ⊢
                  rw [if_neg h1, g1]
              have e2 : (wOf cI cJ cB cP z b h.1 h.2.1).set x.toNat (z + x.toNat, .inr (cj, (fvals z b cj rs h.2.1 x).set f (cv z b v))) = wOf cI cJ cB cP z b h.1 (up h.2.1 x (f : Int) v.2) := by
                have e3 := wOf_set (cI := cI) (cJ := cJ) (cB := cB) (cP := cP) (z := z) (b := b) (S := h.1) (S' := h.1) (M := h.2.1) (M' := up h.2.1 x (f : Int) v.2) (x := x.toNat) (c' := (0, cj, rs)) rfl hxl hcell (fun _ _ => rfl) (fun y c2 hy _ => ent_congr (up_row (by omega)))
                rw [ent_obj, hxx] at e3
                rw [e1]
                exact e3
              have kk : ∀ (H1 : Heap) (locs1 : List Loc), va_P D vwCl ((wOf cI cJ cB cP z b h.1 h.2.1).set x.toNat (z + x.toNat, .inr (cj, (fvals z b cj rs h.2.1 x).set f (cv z b v)))) H1 → va_D (Fz z Ls) ((wOf cI cJ cB cP z b h.1 h.2.1).set x.toNat (z + x.toNat, .inr (cj, (fvals z b cj rs h.2.1 x).set f (cv z b v)))) → va_S (Fz z Ls) s.heap H1 locs1 →
                  W p l e R s m args below meth c H1 locs1 h.2.2.2.1 h.2.2.2.2 Q (F0 m (pc + 3) ls (r.map (cv z b))) := by
                intro H1 locs1 p1 d1 s1
                rw [e2] at p1
                have K := hG H1 locs1 ls ⟨p1, hR.2.1, SR_up hR.2.2.1 (by omega), s1, hR.2.2.2.2⟩ hL
                dsimp only at K
                rw [hn] at K
                exact K
              have hfin : (cT cj f).2.2.2 = false := by rw [htag.2]; simp [h1]
              by_cases hns : ns = 1
              · rw [if_pos hns] at hl
                exact va_putN hx hb hts (cls_gw cj hci) (cY cj) (cls_ty cj hci) (cls_nm cj hci) hown hE.1 hR.1 (wOf_D hR.2.1.2) hR.2.2.2.1 x.toNat he (vwCl_at cj hci) f hf (va_Nw.use rfl (hE.2.1 _ hl rfl)) hsame hfin (cls_ty cj hci f hf) hnf.1 hnf.2 (by rw [fvals_len]; exact hf) hd' kk
              · rw [if_neg hns] at hl
                exact va_put hx hb hts (cls_gw cj hci) (cY cj) (cls_ty cj hci) (cls_nm cj hci) hown hE.1 hR.1 (wOf_D hR.2.1.2) hR.2.2.2.1 x.toNat he (vwCl_at cj hci) f hf (hts _ (gw hl rfl)) hsame hfin (cls_ty cj hci f hf) hnf.1 hnf.2 (by rw [fvals_len]; exact hf) hd' kk
            · rw [if_neg g1] at hs
              cases hs
        · cases hs
      · cases hs
  · cases hs
end SND3
