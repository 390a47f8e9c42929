/-! the single steps: what is made; calls; ends -/
theorem tag_le_all : (List.range 13).all (fun ci => (List.range (cZ ci)).all fun f => decide (ftag ci f ≤ 2)) = true := by decide +kernel
theorem tag_le {ci f : Nat} (h : ci < 13) (hf : f < cZ ci) : ftag ci f ≤ 2 := of_decide_eq_true (List.all_eq_true.mp (List.all_eq_true.mp tag_le_all ci (List.mem_range.mpr h)) f (List.mem_range.mpr hf))
theorem ref_dflt {ty : FieldType} (h : isRefT ty = true) : defaultValue ty = .null := by cases ty <;> first | (cases h; done) | rfl
theorem def_ok {z b ci f : Nat} {M : Mem} {a : Int} (h : ci < 13) (hf : f < cZ ci) : defaultValue (cY ci f) = cv z b (fv ci f (List.replicate (cZ ci) (-1)) (zr M a ci) a) := by
  have ht := (tag_ok h hf).1
  have hz : zr M a ci a (f : Int) = if ftag ci f = 2 then -1 else 0 := by simp [zr]
  unfold fv
  by_cases h0 : ftag ci f = 0
  · rw [if_pos h0] at ht ⊢
    rw [of_decide_eq_true ht, hz, if_neg (by omega)]
    rfl
  · rw [if_neg h0] at ht ⊢
    rw [ref_dflt ht]
    by_cases h1 : ftag ci f = 1
    · rw [if_pos h1]
      have : (List.replicate (cZ ci) (-1 : Int)).getD f (-1) = -1 := by simp [List.getD, List.getElem?_replicate, hf]
      rw [this]
      exact (rfv_null z b).symm
    · rw [if_neg h1, hz, if_pos (by have := tag_le h hf; omega)]
      exact (rfv_null z b).symm
theorem zr_99 {M : Mem} {a : Int} (y : Int) : zr M a 99 a y = 0 := by
  have : ftag 99 y.toNat = 0 := by simp [ftag, FTs]
  simp [zr, this]
theorem cat_sum {z b : Nat} : ∀ (st : List AV) (n : Nat), st.length ≤ n → ((st.map (cv z b)).map fun v => v.category).sum ≤ 2 * n
  | [], n, _ => by simp
  | v :: st, n, h => by
    have h1 := cat_sum (z := z) (b := b) st (n - 1) (by simp at h; omega)
    have h2 : (cv z b v).category ≤ 2 := by rw [cv_cat]; split <;> omega
    simp only [List.map_cons, List.sum_cons]
    simp at h
    omega
theorem lim_all : (List.range 308).all (fun t => decide (lOf t ≤ 21)) = true := by decide +kernel
theorem lim_ok {t : Nat} (h : t < 308) : lOf t ≤ 21 := of_decide_eq_true (List.all_eq_true.mp lim_all t (List.mem_range.mpr h))
section SND5
variable {p : Program} {l : Launch} {e : Env} {R : Room} {s : State} {m : MethodId} {args : Array Value} {below : List Frame} {meth : Method} {c : Code} {Q : State → Prop}
variable {D : va_G} {cI cJ cB cP : ClassId} {z b : Nat} {Ls : Nat × Nat × Nat} {xs : Nat → Int32} {t d : Nat}
theorem hp_size {h : Hp} {H : Heap} {locs : List Loc} {T : State} (hz : z ≤ s.heap.size) (hR : Rl s D cI cJ cB cP z b Ls xs h H locs) (hg : h.2.2.1 = true) (hT : T.heap = H) (X : Stand p l e R s m args below meth c T locs h.2.2.2.1 h.2.2.2.2) : H.size = z + h.1.length := by
  have h1 := X.heapSize
  rw [hT] at h1
  have h2 := low hR.1 (Nat.le_trans hz hR.2.2.2.1.1)
  have h3 := hR.2.2.2.2 hg
  omega
theorem sn_new {i pc len : Nat} {a b' : Int} {c' : Nat} {L st : List AV} {h : Hp} {cf' : Cf} (C : Cx p s m args meth c R D cI cJ cB cP z b Ls xs t d) (hr : Row t i pc len 51 a b' c') (hs : oNew t a.toNat i L st h = some cf')
    (hG : WG p l e R s m args below meth c D cI cJ cB cP z b Ls xs t Q cf') : WG p l e R s m args below meth c D cI cJ cB cP z b Ls xs t Q (i, L, st, h) := by
  obtain ⟨hx, hb, -, hown, hts, hE, -, -, hz, -, hRc, hRs, -, -, hLs, -⟩ := C
  have hd := hr.2.2 (by omega)
  have hn := hr.next (by omega)
  have h1 := hr.2.1
  unfold okR at h1
  simp only [Bool.and_eq_true] at h1
  have h2 := h1.2
  simp only [show ¬ (51 : Nat) ≤ 6 by decide, show ¬ (51 : Nat) = 7 by decide, show ¬ (51 : Nat) = 8 by decide, show ¬ (51 : Nat) = 29 by decide, show ¬ (51 : Nat) = 63 by decide, show ¬ (51 : Nat) = 35 by decide, show ¬ (51 : Nat) = 36 by decide, show ¬ (51 : Nat) = 40 by decide, show ¬ (51 : Nat) = 41 by decide, or_self, if_false, if_true, Bool.and_eq_true, decide_eq_true_eq] at h2
  obtain ⟨hk, rfl, ha0, ha⟩ := h2
  obtain ⟨k1, k2, k3⟩ := allP_at NK_ok _ _ hk
  have hci : a.toNat < 13 := by omega
  obtain ⟨S, M, g, cc, ss⟩ := h
  unfold oNew at hs
  dsimp only at hs
  split at hs
  · rename_i hg
    obtain ⟨rfl, hroom⟩ := hg
    have hroom := of_decide_eq_true hroom
    dsimp only at hroom
    cases hs
    intro H locs ls hR hL T hT X
    have hsz := hp_size hz hR rfl hT X
    have hK := hE.1.1 a.toNat _ (vwCl_at a.toNat hci)
    refine W.newcK (n := cZ a.toNat) hx hb hown (hts _ (gw k1 rfl)) (hts _ (gw k2 rfl)) (hts _ (gw k3 rfl)) rfl (by dsimp only; rw [hr.here]; exact hd) (by rw [hRc]; exact hroom.1) (by rw [hRs]; exact hroom.2) hK.2.1 hsz (fun H' kC hkC e1 z1 o1 => ?_) T hT X
    have hP := hR.1
    have hl := low hR.1 (Nat.le_trans hz hR.2.2.2.1.1)
    have ko : ∀ (k : Nat) (x : Nat × va_E), (wOf cI cJ cB cP z b S M)[k]? = some x → H'[x.1]? = H[x.1]? := fun k x hx => o1 x.1 (by have := (hP k x hx).lt; rw [hsz] at this; exact this)
    have e2 : wOf cI cJ cB cP z b (S ++ [(0, a.toNat, List.replicate (cZ a.toNat) (-1))]) (zr M S.length a.toNat) = wOf cI cJ cB cP z b S M ++ [(z + S.length, .inr (a.toNat, fvals z b a.toNat (List.replicate (cZ a.toNat) (-1)) (zr M S.length a.toNat) S.length))] := by
      rw [wOf_push (fun y hy => zr_ne (by omega)), ent_obj]
    have K := hG H' locs ls ⟨by
        rw [e2]
        refine (hP.kept ko).app fun k x hx => ?_
        have hz0 : k < 1 := (List.getElem?_eq_some_iff.mp hx).1
        rw [show k = 0 by omega] at hx
        cases hx
        exact ⟨_, vwCl_at a.toNat hci, (u_born (cY a.toNat) hts (cls_gw a.toNat hci) hK hkC e1 (cls_ty a.toNat hci)).to fun j hj => by
          have hj : j < cZ a.toNat := hj
          rw [vp_V, List.getD_eq_getElem?_getD, fvals_at hj]
          exact def_ok hci hj⟩,
      LOK_push hR.2.1 (by have q1 := hLs.2; have q2 := hR.2.2.2.1.1; have q3 : H.size = z + S.length := hsz; omega) (Or.inl ⟨rfl, hci⟩), SR_zr hR.2.2.1 (by omega),
      ⟨Nat.le_trans hR.2.2.2.1.1 (by have z1' : H'.size = z + S.length + 1 := z1; have hz' : H.size = z + S.length := hsz; omega), fun q q1 q2 => (o1 q (by have hz1 := hR.2.2.2.1.1; have hz' : H.size = z + S.length := hsz; show q < z + S.length; omega)).trans (hR.2.2.2.1.2.1 q q1 q2), hR.2.2.2.1.2.2⟩, fun _ => by have := hR.2.2.2.2 rfl; dsimp only at this ⊢; simp; omega⟩ hL
    dsimp only at K ⊢
    rw [hn, List.map_cons, show cv z b (1, (S.length : Int)) = .ref (z + S.length) by rw [show cv z b (1, (S.length : Int)) = rfv z b S.length from rfl, rfv_cell z b (by omega)]; simp] at K
    rw [hr.here]
    exact K
  · cases hs
theorem sn_newa {i pc len op k : Nat} {a b' : Int} {c' : Nat} {L st : List AV} {h : Hp} {cf' : Cf} (C : Cx p s m args meth c R D cI cJ cB cP z b Ls xs t d) (hr : Row t i pc len op a b' c') (ho : (op = 52 ∧ k = if a = 10 then 1 else if a = 11 then 2 else 3) ∨ (op = 53 ∧ k = 4)) (hs : oNewa t k i L st h = some cf')
    (hG : WG p l e R s m args below meth c D cI cJ cB cP z b Ls xs t Q cf') : WG p l e R s m args below meth c D cI cJ cB cP z b Ls xs t Q (i, L, st, h) := by
  obtain ⟨hx, hb, -, hown, hts, hE, -, -, hz, -, hRc, hRs, -, -, hLs, -⟩ := C
  have hd := hr.2.2 (by omega)
  have hn := hr.next (by omega)
  have h1 := hr.2.1
  unfold okR at h1
  simp only [Bool.and_eq_true] at h1
  have h2 := h1.2
  obtain ⟨S, M, g, cc, ss⟩ := h
  unfold oNewa at hs
  split at hs
  · rename_i n r S' M' g' cc' ss' heq
    cases heq
    split at hs
    · rename_i hg
      obtain ⟨rfl, hn0, hn1, hroom⟩ := hg
      have hroom := of_decide_eq_true hroom
      dsimp only at hroom
      cases hs
      intro H locs ls hR hL T hT X
      have hsz := hp_size hz hR rfl hT X
      have hP := hR.1
      have en : i32 n = nI n.toNat := by
        have := i32_nat n.toNat
        rw [Int.toNat_of_nonneg hn0] at this
        exact this
      have i1 : ¬ i32 n < 0 := by rw [en]; exact nI_pos (by omega)
      have i2 : (i32 n).toNatClampNeg = n.toNat := by rw [en]; exact nI_clamp (by omega)
      have fin : ∀ (E : va_E) (lst : List Int) (H' : Heap), ent cI cJ cB cP z b (S.length : Int) (k, n.toNat, lst) (zr M S.length 99) = E → (if k = 4 then List.replicate n.toNat (-1) else []) = lst → 1 ≤ k → k ≤ 4 → va_at D vwCl (z + S.length, E) H' → H'.size = z + S.length + 1 → (∀ q, q < z + S.length → H'[q]? = H[q]?) →
          W p l e R s m args below meth c H' locs (cc + 1) (ss + n.toNat) Q (F0 m (pc + len) ls (.ref (z + S.length) :: r.map (cv z b))) := by
        intro E lst H' hE2 hls hk1 hk2 hat z1 o1
        have ko : ∀ (k : Nat) (x : Nat × va_E), (wOf cI cJ cB cP z b S M)[k]? = some x → H'[x.1]? = H[x.1]? := fun k x hx => o1 x.1 (by have := (hP k x hx).lt; rw [hsz] at this; exact this)
        have e2 : wOf cI cJ cB cP z b (S ++ [(k, n.toNat, lst)]) (zr M S.length 99) = wOf cI cJ cB cP z b S M ++ [(z + S.length, E)] := by
          rw [wOf_push (fun y hy => zr_ne (by omega)), hE2]
        rw [hls] at hG
        have K := hG H' locs ls ⟨by
            dsimp only
            rw [e2]
            refine (hP.kept ko).app fun k x hx => ?_
            have hz0 : k < 1 := (List.getElem?_eq_some_iff.mp hx).1
            rw [show k = 0 by omega] at hx
            cases hx
            exact hat,
          LOK_push hR.2.1 (by have q1 := hLs.2; have q2 := hR.2.2.2.1.1; have q3 : H.size = z + S.length := hsz; omega) (Or.inr ⟨hk1, hk2, by dsimp only; omega⟩), SR_zr hR.2.2.1 (by omega),
          ⟨Nat.le_trans hR.2.2.2.1.1 (by have z1' : H'.size = z + S.length + 1 := z1; have hz' : H.size = z + S.length := hsz; omega), fun q q1 q2 => (o1 q (by have hz1 := hR.2.2.2.1.1; have hz' : H.size = z + S.length := hsz; show q < z + S.length; omega)).trans (hR.2.2.2.1.2.1 q q1 q2), hR.2.2.2.1.2.2⟩, fun _ => by have := hR.2.2.2.2 rfl; dsimp only at this ⊢; simp; omega⟩ hL
        dsimp only at K
        rw [hn, List.map_cons, show cv z b (1, (S.length : Int)) = .ref (z + S.length) by rw [show cv z b (1, (S.length : Int)) = rfv z b S.length from rfl, rfv_cell z b (by omega)]; simp] at K
        exact K
      have prim : ∀ (aty : ArrayType) (cA0 : ClassId) (E : va_E), (Cond.arrayClass (newarray.typeOf aty)).before args s = true → componentBytes (newarray.typeOf aty) ≤ 8 → s.vm.findClass ("[" ++ (newarray.typeOf aty).toString) = some cA0 → decode (bOf t) pc = .ok (.newarray aty, 2) → len = 2 → k ≠ 4 → 1 ≤ k → k ≤ 4 →
          ent cI cJ cB cP z b (S.length : Int) (k, n.toNat, []) (zr M S.length 99) = E → (∀ H' : Heap, H'[z + S.length]? = some (arrV cA0 n.toNat (fun _ => defaultValue (newarray.typeOf aty))) → va_at D vwCl (z + S.length, E) H') →
          W p l e R s m args below meth c H locs cc ss Q (F0 m pc ls (.int (i32 n) :: r.map (cv z b))) := by
        intro aty cA0 E hw hcb hfc hdd hlen hk4 hk1 hk2 hE2 hat
        subst hlen
        refine va_newaK (N := n.toNat) hx hb hw rfl hdd rfl i1 i2 (Nat.le_trans (Nat.mul_le_mul (show n.toNat ≤ 65536 by omega) hcb) (by decide)) (by rw [hRc]; exact hroom.1) (by rw [hRs]; exact hroom.2) hsz fun H' cA e1 z1 o1 hAr hNm => ?_
        cases hfc.symm.trans hNm
        exact fin E [] H' hE2 (if_neg hk4) hk1 hk2 (hat H' e1) z1 o1
      dsimp only
      rw [hr.here, List.map_cons]
      refine (?_ : W p l e R s m args below meth c H locs cc ss Q (F0 m pc ls (.int (i32 n) :: r.map (cv z b)))) T hT X
      rcases ho with ⟨rfl, rfl⟩ | ⟨rfl, rfl⟩
      · simp only [show ¬ (52 : Nat) ≤ 6 by decide, show ¬ (52 : Nat) = 7 by decide, show ¬ (52 : Nat) = 8 by decide, show ¬ (52 : Nat) = 29 by decide, show ¬ (52 : Nat) = 63 by decide, show ¬ (52 : Nat) = 35 by decide, show ¬ (52 : Nat) = 36 by decide, show ¬ (52 : Nat) = 40 by decide, show ¬ (52 : Nat) = 41 by decide, show ¬ (52 : Nat) = 51 by decide, or_self, if_false, if_true, Bool.and_eq_true, decide_eq_true_eq] at h2
        obtain ⟨h3, h4⟩ := h2
        subst h3
        rcases h4 with rfl | rfl | rfl
        · refine prim .int cI _ (hts _ (gw tb_ai.1 rfl)) (by decide) (hE.1.2 0 (cI, .int) rfl).2 hd rfl (by decide) (by decide) (by decide) ent_int fun H' e1 => ?_
          show H'[z + S.length]? = some (vp_cell _ _)
          rw [e1, vp_cell_i]
          congr 2
          funext j
          rw [zr_99]; rfl
        · refine prim .long cJ _ (hts _ (gw tb_ai.2.1 rfl)) (by decide) (hE.1.2 1 (cJ, .long) rfl).2 hd rfl (by decide) (by decide) (by decide) ent_long fun H' e1 => ?_
          show H'[z + S.length]? = some (vp_cell _ _)
          rw [e1, vp_cell_l]
          congr 2
          funext j
          rw [zr_99]; rfl
        · refine prim .byte cB _ (hts _ (gw tb_ai.2.2.1 rfl)) (by decide) (hE.1.2 2 (cB, .byte) rfl).2 hd rfl (by decide) (by decide) (by decide) ent_byte fun H' e1 => ?_
          show H'[z + S.length]? = some (vp_cell _ _)
          rw [e1, vp_cell_i]
          congr 2
          funext j
          rw [zr_99]; rfl
      · simp only [show ¬ (53 : Nat) ≤ 6 by decide, show ¬ (53 : Nat) = 7 by decide, show ¬ (53 : Nat) = 8 by decide, show ¬ (53 : Nat) = 29 by decide, show ¬ (53 : Nat) = 63 by decide, show ¬ (53 : Nat) = 35 by decide, show ¬ (53 : Nat) = 36 by decide, show ¬ (53 : Nat) = 40 by decide, show ¬ (53 : Nat) = 41 by decide, show ¬ (53 : Nat) = 51 by decide, show ¬ (53 : Nat) = 52 by decide, or_self, if_false, if_true, Bool.and_eq_true, decide_eq_true_eq] at h2
        obtain ⟨h3, h4⟩ := h2
        subst h4
        obtain ⟨k1, -, -⟩ := allP_at NK_ok _ _ h3
        refine W.anew (C := "SkewRings$Poly") hx hb hown (hts _ (gw k1 rfl)) (va_AO.use hE.2.2) rfl hd rfl i1 (by rw [i2]; omega) (by rw [hRc]; exact hroom.1) (by rw [hRs, i2]; exact hroom.2) fun cA kA comp f1 f2 f3 f4 => ?_
        have hcp : s.vm.findClass ("[" ++ (FieldType.object "SkewRings$Poly").toString) = some cP := by
          obtain ⟨_, _, _, _, _, q⟩ := (hE.1.2 3 (cP, .object "SkewRings$Poly") rfl).2
          exact q
        cases hcp.symm.trans f1
        rw [i2]
        show W p l e R s m args below meth c _ locs (cc + 1) (ss + n.toNat) Q (F0 m (pc + 3) ls (.ref H.size :: _))
        rw [hsz]
        refine fin _ _ _ ent_ref (if_pos rfl) (by decide) (by decide) ?_ (by rw [Array.size_push, hsz]) fun q hq => by rw [Array.getElem?_push, if_neg (by rw [hsz]; dsimp only; omega)]
        show (Array.push H _)[z + S.length]? = some (vp_cell _ _)
        rw [show z + S.length = H.size from hsz.symm, Array.getElem?_push_size, arrV_new, vp_cell_q]
        congr 2
        funext j
        have : (List.replicate n.toNat (-1 : Int)).getD j (-1) = -1 := by
          rw [List.getD_eq_getElem?_getD, List.getElem?_replicate]
          split <;> rfl
        rw [this]
        simp [rfo, va_rf]
    · cases hs
  · cases hs
theorem sn_obj {i pc len : Nat} {a b' : Int} {c' : Nat} {L st : List AV} {h : Hp} {cf' : Cf} (C : Cx p s m args meth c R D cI cJ cB cP z b Ls xs t d) (hr : Row t i pc len 59 a b' c') (hs : oObj d i L st h = some cf')
    (hG : WG p l e R s m args below meth c D cI cJ cB cP z b Ls xs t Q cf') : WG p l e R s m args below meth c D cI cJ cB cP z b Ls xs t Q (i, L, st, h) := by
  obtain ⟨hx, hb, hml, hown, hts, hE, -, -, hz, -, -, -, hfr, hlo, -⟩ := C
  have hd := hr.2.2 (by omega)
  have hn := hr.next (by omega)
  have h1 := hr.2.1
  unfold okR at h1
  simp only [Bool.and_eq_true] at h1
  have h2 := h1.2
  simp only [show ¬ (59 : Nat) ≤ 6 by decide, show ¬ (59 : Nat) = 7 by decide, show ¬ (59 : Nat) = 8 by decide, show ¬ (59 : Nat) = 29 by decide, show ¬ (59 : Nat) = 63 by decide, show ¬ (59 : Nat) = 35 by decide, show ¬ (59 : Nat) = 36 by decide, show ¬ (59 : Nat) = 40 by decide, show ¬ (59 : Nat) = 41 by decide, show ¬ (59 : Nat) = 51 by decide,
    show ¬ (59 : Nat) = 52 by decide, show ¬ (59 : Nat) = 53 by decide, show ¬ (59 : Nat) = 54 by decide, show ¬ (59 : Nat) = 61 by decide, show ¬ (59 : Nat) = 62 by decide, or_self, if_false, if_true, Bool.and_eq_true, decide_eq_true_eq] at h2
  obtain ⟨hk, rfl⟩ := h2
  have k1 := allP_at OK_ok _ _ hk
  unfold oObj at hs
  split at hs
  · rename_i x r
    split at hs
    · rename_i hp
      obtain ⟨hp1, hp2, hp3⟩ := hp
      cases hs
      intro H locs ls hR hL
      have K := hG H locs ls hR hL
      dsimp only at K ⊢
      rw [hn] at K
      rw [hr.here, List.map_cons, show cv z b (1, x) = .ref (z + x.toNat) from rfv_cell z b hp1]
      refine W.objInit hx hb hown (hts _ (gw k1 rfl)) (hts _ (gw tb_oi.1 rfl)) (hts _ (gw tb_oi.2 rfl)) rfl (by dsimp only; rw [hL.2.1, hml]) rfl hd (by omega) ?_ K
      have := cat_sum (z := z) (b := b) r 4 hp3
      show 2 * 0 + _ + 12 ≤ _
      omega
    · cases hs
  · cases hs
end SND5
