/-! the single steps: rows, what is made -/
theorem wOf_push {cI cJ cB cP : ClassId} {z b : Nat} {S : List Cel} {M M' : Mem} {c : Cel} (hM : ∀ y : Nat, y < S.length → M' (y : Int) = M (y : Int)) : wOf cI cJ cB cP z b (S ++ [c]) M' = wOf cI cJ cB cP z b S M ++ [(z + S.length, ent cI cJ cB cP z b (S.length : Int) c M')] := by
  apply List.ext_getElem?
  intro y
  by_cases hy : y < S.length
  · have h1 : S[y]? = some S[y] := List.getElem?_eq_getElem hy
    have h2 : (S ++ [c])[y]? = some S[y] := by rw [List.getElem?_append_left hy]; exact h1
    rw [wOf_at h2, List.getElem?_append_left (by rw [wOf_len]; exact hy), wOf_at h1, ent_congr (hM y hy)]
  · by_cases he : y = S.length
    · subst he
      have h2 : (S ++ [c])[S.length]? = some c := by simp
      rw [wOf_at h2, List.getElem?_append_right (by rw [wOf_len]; omega), wOf_len]
      simp
    · rw [List.getElem?_eq_none (by rw [wOf_len]; simp; omega), List.getElem?_eq_none (by simp [wOf_len]; omega)]
theorem zr_ne {M : Mem} {a : Int} {ci : Nat} {x : Int} (h : x ≠ a) : zr M a ci x = M x := by funext y; simp [zr, h]
theorem SR_zr {Ls : Nat} {xs : Nat → Int32} {M : Mem} (h : SR Ls xs M) {a : Int} {ci : Nat} (ha : 0 ≤ a) : SR Ls xs (zr M a ci) := by
  have e : zr M a ci (-2) = M (-2) := zr_ne (by omega)
  exact ⟨by rw [e]; exact h.1, fun j hj => by rw [e]; exact h.2 j hj⟩
section SND4
variable {p : Program} {l : Launch} {e : Env} {R : Room} {s : State} {m : MethodId} {args : Array Value} {below : List Frame} {meth : Method} {c : Code} {Q : State → Prop}
variable {D : va_G} {cI cJ cB cP : ClassId} {z b : Nat} {Ls : Nat × Nat × Nat} {xs : Nat → Int32} {t d : Nat}
theorem sn_alen {i pc len : Nat} {a b' : Int} {c' : Nat} {L st : List AV} {h : Hp} {cf' : Cf} (C : Cx p s m args meth c R D cI cJ cB cP z b Ls xs t d) (hr : Row t i pc len 42 a b' c') (hs : oAlen i L st h = some cf')
    (hG : WG p l e R s m args below meth c D cI cJ cB cP z b Ls xs t Q cf') : WG p l e R s m args below meth c D cI cJ cB cP z b Ls xs t Q (i, L, st, h) := by
  obtain ⟨hx, hb, -, hown, hts, hE, hX, hbz, hz, -⟩ := C
  have hd := hr.2.2 (by omega)
  have hn := hr.next (by omega)
  have hlen := hr.len1 (by omega)
  subst hlen
  unfold oAlen at hs
  split at hs
  · rename_i x r
    split at hs
    · rename_i hp
      cases hs
      intro H locs ls hR hL
      have K := hG H locs ls hR hL
      dsimp only at K hR ⊢
      rw [hn, List.map_cons, hR.2.2.1.1, show cv z b (0, (Ls.1 : Int)) = .int (Int32.ofNat Ls.1) from congrArg Value.int (i32_nat Ls.1)] at K
      subst hp
      rw [hr.here, List.map_cons, show cv z b (1, -2) = .ref b from rfv_script z b]
      exact va_slen hx hb hX (by omega) (fun h_ => Nat.not_le.mpr hbz h_.1) hR.2.2.2.1 hd K
    · rename_i hp
      split at hs
      · cases hs
      · rename_i hp2
        split at hs
        · rename_i k n rs hcell
          split at hs
          · cases hs
          · rename_i hk
            cases hs
            intro H locs ls hR hL
            have K := hG H locs ls hR hL
            dsimp only at K hR ⊢
            rw [hn, List.map_cons, show cv z b (0, (n : Int)) = .int (Int32.ofNat n) from congrArg Value.int (i32_nat n)] at K
            rw [hr.here, List.map_cons, show cv z b (1, x) = .ref (z + x.toNat) from rfv_cell z b (by omega)]
            have he := wOf_at (cI := cI) (cJ := cJ) (cB := cB) (cP := cP) (z := z) (b := b) (M := h.2.1) hcell
            have h3 : k = 1 ∨ k = 2 ∨ k = 3 ∨ k = 4 := by omega
            rcases h3 with rfl | rfl | rfl | rfl
            · rw [ent_int] at he
              exact va_alen hx hb hE.1 hR.1 x.toNat 0 he rfl rfl hd K
            · rw [ent_long] at he
              exact va_alen hx hb hE.1 hR.1 x.toNat 1 he rfl rfl hd K
            · rw [ent_byte] at he
              exact va_alen hx hb hE.1 hR.1 x.toNat 2 he rfl rfl hd K
            · rw [ent_ref] at he
              exact va_alen hx hb hE.1 hR.1 x.toNat 3 he rfl rfl hd K
        · cases hs
  · cases hs
theorem sn_ald {i pc len op g : Nat} {a b' : Int} {c' : Nat} {L st : List AV} {h : Hp} {cf' : Cf} (C : Cx p s m args meth c R D cI cJ cB cP z b Ls xs t d) (hr : Row t i pc len op a b' c') (ho : (op = 43 ∧ g = 1) ∨ (op = 45 ∧ g = 2) ∨ (op = 47 ∧ g = 3) ∨ (op = 49 ∧ g = 4)) (hs : oAld g i L st h = some cf')
    (hG : WG p l e R s m args below meth c D cI cJ cB cP z b Ls xs t Q cf') : WG p l e R s m args below meth c D cI cJ cB cP z b Ls xs t Q (i, L, st, h) := by
  obtain ⟨hx, hb, -, hown, hts, hE, hX, hbz, hz, -, -, -, -, -, ⟨hLs, -⟩, -⟩ := C
  have hd := hr.2.2 (by omega)
  have hn := hr.next (by omega)
  have hlen := hr.len1 (by omega)
  subst hlen
  unfold oAld at hs
  split at hs
  · rename_i j x r
    split at hs
    · rename_i hp
      split at hs
      · rename_i hg
        obtain ⟨g1, g2, g3⟩ := hg
        cases hs
        intro H locs ls hR hL
        have K := hG H locs ls hR hL
        dsimp only at K hR ⊢
        rw [hR.2.2.1.1] at g3
        obtain ⟨i1, i2⟩ := ix_nat g2 g3 (by omega)
        have hv := hR.2.2.1.2 j.toNat (by omega)
        rw [Int.toNat_of_nonneg g2] at hv
        have i2' : (i32 j).toNatClampNeg = j.toNat := i2
        rw [hn, List.map_cons, show cv z b (0, h.2.1 (-2) j) = .int (xs (i32 j).toNatClampNeg) by show Value.int (i32 _) = _; rw [hv, i32_toInt, i2']] at K
        subst hp
        rw [hr.here, List.map_cons, List.map_cons, show cv z b (1, -2) = .ref b from rfv_script z b]
        have hop : op = 43 := by omega
        subst hop
        exact va_sld hx hb hX (by omega) (fun h_ => Nat.not_le.mpr hbz h_.1) hR.2.2.2.1 i1 hd K
      · cases hs
    · rename_i hp
      split at hs
      · cases hs
      · rename_i hp2
        split at hs
        · rename_i k n rs hcell
          split at hs
          · rename_i hg
            obtain ⟨g1, g2, g3⟩ := hg
            subst g1
            have he := fun M => wOf_at (cI := cI) (cJ := cJ) (cB := cB) (cP := cP) (z := z) (b := b) (M := M) hcell
            have hxx : ((x.toNat : Nat) : Int) = x := Int.toNat_of_nonneg (by omega)
            have e1 : cv z b (1, x) = .ref (z + x.toNat) := rfv_cell z b (by omega)
            split at hs
            · rename_i h4
              subst h4
              cases hs
              intro H locs ls hR hL
              have K := hG H locs ls hR hL
              dsimp only at K hR ⊢
              have hn2 : n ≤ 65536 := by
                rcases hR.2.1.1 _ _ hcell with q | q
                · dsimp only at q; omega
                · exact q.2.2
              obtain ⟨i1, i2⟩ := ix_nat g2 g3 hn2
              have hop : op = 49 := by omega
              subst hop
              have he := he h.2.1
              rw [ent_ref] at he
              rw [hn, List.map_cons, show cv z b (1, rs.getD j.toNat (-1)) = va_rf ((fun j => rfo z b (rs.getD j (-1))) (i32 j).toNatClampNeg) by show rfv z b _ = _; rw [i2]; rfl] at K
              rw [hr.here, List.map_cons, List.map_cons, e1]
              exact va_aldq (C := "SkewRings$Poly") hx hb hE.1 hR.1 x.toNat 3 he rfl i1 hd K
            · rename_i h4
              cases hs
              intro H locs ls hR hL
              have K := hG H locs ls hR hL
              dsimp only at K hR ⊢
              have hn2 : n ≤ 65536 := by
                rcases hR.2.1.1 _ _ hcell with q | q
                · dsimp only at q; omega
                · exact q.2.2
              obtain ⟨i1, i2⟩ := ix_nat g2 g3 hn2
              have he := he h.2.1
              rw [hr.here, List.map_cons, List.map_cons, e1]
              rw [hn, List.map_cons] at K
              have ej : ((j.toNat : Nat) : Int) = j := Int.toNat_of_nonneg g2
              rcases ho with ⟨rfl, rfl⟩ | ⟨rfl, rfl⟩ | ⟨rfl, rfl⟩ | ⟨rfl, rfl⟩
              · rw [ent_int, hxx] at he
                rw [show cv z b (if (1 : Nat) = 2 then 2 else 0, h.2.1 x j) = .int ((fun j : Nat => i32 (h.2.1 x j)) (i32 j).toNatClampNeg) by dsimp only; rw [i2, ej]; rfl] at K
                exact va_iald hx hb hE.1 hR.1 x.toNat 0 he rfl i1 hd K
              · rw [ent_long, hxx] at he
                rw [show cv z b (if (2 : Nat) = 2 then 2 else 0, h.2.1 x j) = .long ((fun j : Nat => i64 (h.2.1 x j)) (i32 j).toNatClampNeg) by dsimp only; rw [i2, ej]; rfl] at K
                exact va_lald hx hb hE.1 hR.1 x.toNat 1 he rfl i1 hd K
              · rw [ent_byte, hxx] at he
                rw [show cv z b (if (3 : Nat) = 2 then 2 else 0, h.2.1 x j) = .int ((fun j : Nat => i32 (h.2.1 x j)) (i32 j).toNatClampNeg) by dsimp only; rw [i2, ej]; rfl] at K
                exact va_bald hx hb hE.1 hR.1 x.toNat 2 he rfl i1 hd K
              · exact absurd rfl h4
          · cases hs
        · cases hs
  · cases hs
theorem sn_ast {i pc len op g : Nat} {a b' : Int} {c' : Nat} {L st : List AV} {h : Hp} {cf' : Cf} (C : Cx p s m args meth c R D cI cJ cB cP z b Ls xs t d) (hr : Row t i pc len op a b' c') (ho : (op = 44 ∧ g = 1) ∨ (op = 46 ∧ g = 2) ∨ (op = 48 ∧ g = 3) ∨ (op = 50 ∧ g = 4)) (hs : oAst g i L st h = some cf')
    (hG : WG p l e R s m args below meth c D cI cJ cB cP z b Ls xs t Q cf') : WG p l e R s m args below meth c D cI cJ cB cP z b Ls xs t Q (i, L, st, h) := by
  obtain ⟨hx, hb, -, hown, hts, hE, hX, hbz, hz, -⟩ := C
  have hd := hr.2.2 (by omega)
  have hn := hr.next (by omega)
  have hlen := hr.len1 (by omega)
  subst hlen
  unfold oAst at hs
  split at hs
  · rename_i v j x r
    split at hs
    · cases hs
    · rename_i hp
      split at hs
      · rename_i k n rs hcell
        split at hs
        · rename_i hg
          obtain ⟨g1, g2, g3⟩ := hg
          subst g1
          have he := fun M => wOf_at (cI := cI) (cJ := cJ) (cB := cB) (cP := cP) (z := z) (b := b) (M := M) hcell
          have hxl : x.toNat < h.1.length := (List.getElem?_eq_some_iff.mp hcell).1
          have hxx : ((x.toNat : Nat) : Int) = x := Int.toNat_of_nonneg (by omega)
          have e1 : cv z b (1, x) = .ref (z + x.toNat) := rfv_cell z b (by omega)
          have ej : ((j.toNat : Nat) : Int) = j := Int.toNat_of_nonneg g2
          split at hs
          · rename_i h4
            subst h4
            split at hs
            · rename_i hv
              obtain ⟨v1, v2, v3, v4⟩ := hv
              cases hs
              intro H locs ls hR hL
              dsimp only at hR ⊢
              have hn2 : n ≤ 65536 := by
                rcases hR.2.1.1 _ _ hcell with q | q
                · dsimp only at q; omega
                · exact q.2.2
              obtain ⟨i1, i2⟩ := ix_nat g2 g3 hn2
              have hop : op = 50 := by omega
              subst hop
              have he := he h.2.1
              rw [ent_ref] at he
              obtain ⟨g, w⟩ := v
              dsimp only at v1 v2 v3
              subst v1
              have hvc : ∃ rs2, h.1[w.toNat]? = some (0, 6, rs2) := by
                unfold isPolyC at v3
                split at v3
                · rename_i rs2 hq; exact ⟨rs2, hq⟩
                · cases v3
              obtain ⟨rs2, hvc⟩ := hvc
              have hev := wOf_at (cI := cI) (cJ := cJ) (cB := cB) (cP := cP) (z := z) (b := b) (M := h.2.1) hvc
              rw [ent_obj] at hev
              rw [hr.here, List.map_cons, List.map_cons, List.map_cons, e1, show cv z b (1, w) = .ref (z + w.toNat) from rfv_cell z b v2]
              refine va_astq hx hb hE.1 hR.1 (wOf_D hR.2.1.2) hR.2.2.2.1 x.toNat 3 w.toNat 6 (r := (cN 6, cT 6, cZ 6)) he rfl hev rfl i1 hd fun H1 locs1 p1 d1 s1 => ?_
              have e2 : (wOf cI cJ cB cP z b h.1 h.2.1).set x.toNat (z + x.toNat, .inl (cP, n, .inr (.inr (.inr (.inr (va_up (fun j => rfo z b (rs.getD j (-1))) (i32 j).toNatClampNeg (some (z + w.toNat)))))))) = wOf cI cJ cB cP z b (h.1.set x.toNat (4, n, rs.set j.toNat w)) h.2.1 := by
                have e3 := wOf_set (cI := cI) (cJ := cJ) (cB := cB) (cP := cP) (z := z) (b := b) (S := h.1) (S' := h.1.set x.toNat (4, n, rs.set j.toNat w)) (M := h.2.1) (M' := h.2.1) (x := x.toNat) (c' := (4, n, rs.set j.toNat w)) (by simp) hxl (List.getElem?_set_self hxl) (fun y hy => List.getElem?_set_ne (Ne.symm hy)) (fun _ _ _ _ => rfl)
                have ef : va_up (fun j => rfo z b (rs.getD j (-1))) (i32 j).toNatClampNeg (some (z + w.toNat)) = fun k => rfo z b ((rs.set j.toNat w).getD k (-1)) := by
                  funext k
                  unfold va_up
                  rw [i2]
                  by_cases hk : k = j.toNat
                  · subst hk
                    rw [if_pos rfl]
                    have : (rs.set j.toNat w).getD j.toNat (-1) = w := by simp [List.getD, List.getElem?_set_self v4]
                    rw [this]
                    unfold rfo
                    rw [if_neg (by omega), if_neg (by omega)]
                  · rw [if_neg hk]
                    have : (rs.set j.toNat w).getD k (-1) = rs.getD k (-1) := by simp [List.getD, List.getElem?_set_ne (Ne.symm hk)]
                    rw [this]
                rw [← e3, ent_ref, ef]
              rw [e2] at p1
              have K := hG H1 locs1 ls ⟨p1, LOK_set hR.2.1 hcell rfl rfl, hR.2.2.1, s1, fun q => by have := hR.2.2.2.2 q; simpa using this⟩ hL
              dsimp only at K
              rw [hn] at K
              exact K
            · cases hs
          · rename_i h4
            by_cases hv : v.1 = (if k = 2 then 2 else 0)
            · rw [if_pos hv] at hs
              cases hs
              intro H locs ls hR hL
              dsimp only at hR ⊢
              have hn2 : n ≤ 65536 := by
                rcases hR.2.1.1 _ _ hcell with q | q
                · dsimp only at q; omega
                · exact q.2.2
              obtain ⟨i1, i2⟩ := ix_nat g2 g3 hn2
              have he := he h.2.1
              obtain ⟨g', w⟩ := v
              dsimp only at hv hG ⊢
              subst hv
              rw [hr.here, List.map_cons, List.map_cons, List.map_cons, e1]
              have fin : ∀ (E : va_E) (w' : Int), ent cI cJ cB cP z b x (k, n, rs) (up h.2.1 x j w') = E → (∀ H1 locs1, WG p l e R s m args below meth c D cI cJ cB cP z b Ls xs t Q (i + 1, L, r, (h.1, up h.2.1 x j w', h.2.2)) → va_P D vwCl ((wOf cI cJ cB cP z b h.1 h.2.1).set x.toNat (z + x.toNat, E)) H1 → va_S (Fz z Ls) s.heap H1 locs1 →
                  W p l e R s m args below meth c H1 locs1 h.2.2.2.1 h.2.2.2.2 Q (F0 m (pc + 1) ls (r.map (cv z b)))) := by
                intro E w' hE2 H1 locs1 hG p1 s1
                have e3 := wOf_set (cI := cI) (cJ := cJ) (cB := cB) (cP := cP) (z := z) (b := b) (S := h.1) (S' := h.1) (M := h.2.1) (M' := up h.2.1 x j w') (x := x.toNat) (c' := (k, n, rs)) rfl hxl hcell (fun _ _ => rfl) (fun y c2 hy _ => ent_congr (up_row (by omega)))
                rw [hxx, hE2] at e3
                rw [e3] at p1
                have K := hG H1 locs1 ls ⟨p1, hR.2.1, SR_up hR.2.2.1 (by omega), s1, hR.2.2.2.2⟩ hL
                dsimp only at K
                rw [hn] at K
                exact K
              have rowU : ∀ (f : Int → Int32) (w' : Int), (fun k : Nat => f (up h.2.1 x j w' x k)) = upd (fun k : Nat => f (h.2.1 x k)) (i32 j).toNatClampNeg (f w') := by
                intro f w'
                funext k
                unfold upd
                rw [i2]
                by_cases hk : k = j.toNat
                · subst hk
                  rw [if_pos rfl, ej, up_eq]
                · rw [if_neg hk, up_ne2 (by omega)]
              rcases ho with ⟨rfl, rfl⟩ | ⟨rfl, rfl⟩ | ⟨rfl, rfl⟩ | ⟨rfl, rfl⟩
              · rw [ent_int, hxx] at he
                refine va_iast hx hb hE.1 hR.1 (wOf_D hR.2.1.2) hR.2.2.2.1 x.toNat 0 (x := i32 w) he rfl i1 hd fun H1 locs1 p1 d1 s1 => fin _ w ?_ H1 locs1 hG p1 s1
                rw [ent_int, rowU i32 w]
              · rw [ent_long, hxx] at he
                refine va_last hx hb hE.1 hR.1 (wOf_D hR.2.1.2) hR.2.2.2.1 x.toNat 1 (x := i64 w) he rfl i1 hd fun H1 locs1 p1 d1 s1 => fin _ w ?_ H1 locs1 hG p1 s1
                have ef : (fun k : Nat => i64 (up h.2.1 x j w x k)) = vp_updL (fun k : Nat => i64 (h.2.1 x k)) (i32 j).toNatClampNeg (i64 w) := by
                  funext k
                  unfold vp_updL
                  rw [i2]
                  by_cases hk : k = j.toNat
                  · subst hk
                    rw [if_pos rfl, ej, up_eq]
                  · rw [if_neg hk, up_ne2 (by omega)]
                rw [ent_long, ef]
              · rw [ent_byte, hxx] at he
                refine va_bast hx hb hE.1 hR.1 (wOf_D hR.2.1.2) hR.2.2.2.1 x.toNat 2 (x := i32 w) he rfl i1 hd fun H1 locs1 p1 d1 s1 => fin _ (i32 w).toInt8.toInt32.toInt ?_ H1 locs1 hG p1 s1
                rw [ent_byte, rowU i32 (i32 w).toInt8.toInt32.toInt, i32_toInt, vp_nar_byte]
              · exact absurd rfl h4
            · rw [if_neg hv] at hs
              cases hs
        · cases hs
      · cases hs
  · cases hs
end SND4
