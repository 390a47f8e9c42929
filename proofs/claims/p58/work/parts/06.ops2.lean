/-! the single steps: constants, arithmetic, stack, branches -/
theorem i32_8 {a : Int} (h1 : -128 ≤ a) (h2 : a < 128) : (Int8.ofInt a).toInt32 = i32 a := by
  apply Int32.toInt_inj.mp
  rw [Int8.toInt_toInt32, Int8.toInt_ofInt_of_le (by omega) (by omega)]
  unfold i32
  rw [Int32.toInt_ofInt_of_le (by omega) (by omega)]
theorem i32_16 {a : Int} (h1 : -32768 ≤ a) (h2 : a < 32768) : (Int16.ofInt a).toInt32 = i32 a := by
  apply Int32.toInt_inj.mp
  rw [Int16.toInt_toInt32, Int16.toInt_ofInt_of_le (by omega) (by omega)]
  unfold i32
  rw [Int32.toInt_ofInt_of_le (by omega) (by omega)]
section SND2
variable {p : Program} {l : Launch} {e : Env} {R : Room} {s : State} {m : MethodId} {args : Array Value} {below : List Frame} {meth : Method} {c : Code} {Q : State → Prop}
variable {D : va_G} {cI cJ cB cP : ClassId} {z b : Nat} {Ls : Nat × Nat × Nat} {xs : Nat → Int32} {t d : Nat}
theorem sn_const {i pc len op : Nat} {a b' : Int} {c' : Nat} {L st : List AV} {h : Hp} (C : Cx p s m args meth c R D cI cJ cB cP z b Ls xs t d) (hr : Row t i pc len op a b' c') (ho : op = 7 ∨ op = 63)
    (hG : WG p l e R s m args below meth c D cI cJ cB cP z b Ls xs t Q (i + 1, L, (0, a) :: st, h)) : WG p l e R s m args below meth c D cI cJ cB cP z b Ls xs t Q (i, L, st, h) := by
  obtain ⟨hx, hb, -, hown, hts, -⟩ := C
  intro H locs ls hR hL
  have K := hG H locs ls hR hL
  have hd := hr.2.2 (by omega)
  have hn := hr.next (by omega)
  have h1 := hr.2.1
  unfold okR at h1
  simp only [Bool.and_eq_true] at h1
  have h2 := h1.2
  dsimp only at K ⊢
  rw [hn, List.map_cons] at K
  rw [hr.here]
  rcases ho with rfl | rfl
  · simp only [show ¬ (7 : Nat) ≤ 6 by decide, if_false, if_true] at h2
    by_cases e1 : len = 1
    · subst e1
      exact lv_iconst hx hb hd rfl K
    · rw [if_neg e1] at h2
      by_cases e2 : len = 2
      · subst e2
        rw [if_pos rfl] at h2
        have h3 := of_decide_eq_true h2
        exact lv_bipush hx hb hd (i32_8 h3.1 h3.2) K
      · rw [if_neg e2] at h2
        have h3 := of_decide_eq_true h2
        have e3 := h3.1
        subst e3
        exact lv_sipush hx hb hd (i32_16 h3.2.1 h3.2.2) K
  · simp only [show ¬ (63 : Nat) ≤ 6 by decide, show ¬ (63 : Nat) = 7 by decide, show ¬ (63 : Nat) = 8 by decide, show ¬ (63 : Nat) = 29 by decide, if_false, if_true, Bool.and_eq_true, decide_eq_true_eq] at h2
    obtain ⟨h3, h4⟩ := h2
    subst h4
    have hk := allP_at KI_ok _ _ h3
    exact lv_ldcw hx hb hown (hts _ (gw hk rfl)) hd K
theorem sn_lconst {i pc len op : Nat} {a b' : Int} {c' : Nat} {L st : List AV} {h : Hp} (C : Cx p s m args meth c R D cI cJ cB cP z b Ls xs t d) (hr : Row t i pc len op a b' c') (ho : op = 8 ∨ op = 29)
    (hG : WG p l e R s m args below meth c D cI cJ cB cP z b Ls xs t Q (i + 1, L, (2, a) :: st, h)) : WG p l e R s m args below meth c D cI cJ cB cP z b Ls xs t Q (i, L, st, h) := by
  obtain ⟨hx, hb, -, hown, hts, -⟩ := C
  intro H locs ls hR hL
  have K := hG H locs ls hR hL
  have hd := hr.2.2 (by omega)
  have hn := hr.next (by omega)
  have h1 := hr.2.1
  unfold okR at h1
  simp only [Bool.and_eq_true] at h1
  have h2 := h1.2
  dsimp only at K ⊢
  rw [hn, List.map_cons] at K
  rw [hr.here]
  rcases ho with rfl | rfl
  · simp only [show ¬ (8 : Nat) ≤ 6 by decide, show ¬ (8 : Nat) = 7 by decide, if_false, if_true, Bool.and_eq_true, decide_eq_true_eq] at h2
    obtain ⟨⟨h3, h4⟩, h5⟩ := h2
    subst h5
    have e1 : a = 0 ∨ a = 1 := by omega
    rcases e1 with rfl | rfl
    · exact lv_lconst hx hb hd rfl K
    · exact lv_lconst hx hb hd rfl K
  · simp only [show ¬ (29 : Nat) ≤ 6 by decide, show ¬ (29 : Nat) = 7 by decide, show ¬ (29 : Nat) = 8 by decide, if_false, if_true, Bool.and_eq_true, decide_eq_true_eq] at h2
    obtain ⟨h3, h4⟩ := h2
    subst h4
    have hk := allP_at KK_ok _ _ h3
    exact lv_ldc2 hx hb hown (hts _ (gw hk rfl)) hd K
theorem sn_null {i pc len : Nat} {a b' : Int} {c' : Nat} {L st : List AV} {h : Hp} (C : Cx p s m args meth c R D cI cJ cB cP z b Ls xs t d) (hr : Row t i pc len 9 a b' c')
    (hG : WG p l e R s m args below meth c D cI cJ cB cP z b Ls xs t Q (i + 1, L, (1, -1) :: st, h)) : WG p l e R s m args below meth c D cI cJ cB cP z b Ls xs t Q (i, L, st, h) := by
  obtain ⟨hx, hb, -⟩ := C
  intro H locs ls hR hL
  have K := hG H locs ls hR hL
  have hd := hr.2.2 (by omega)
  have hn := hr.next (by omega)
  have h1 := hr.2.1
  unfold okR at h1
  simp only [Bool.and_eq_true] at h1
  have h2 := h1.2
  have hlen : len = 1 := by simpa using h2
  subst hlen
  dsimp only at K ⊢
  rw [hn, List.map_cons, show cv z b (1, -1) = .null from rfv_null z b] at K
  rw [hr.here]
  exact lv_null hx hb hd K
theorem sn_bin {i pc len op : Nat} {a b' : Int} {c' : Nat} {L st : List AV} {h : Hp} {cf' : Cf} (C : Cx p s m args meth c R D cI cJ cB cP z b Ls xs t d) (hr : Row t i pc len op a b' c') (ho : 10 ≤ op ∧ op ≤ 21) (hs : oBin op i L st h = some cf')
    (hG : WG p l e R s m args below meth c D cI cJ cB cP z b Ls xs t Q cf') : WG p l e R s m args below meth c D cI cJ cB cP z b Ls xs t Q (i, L, st, h) := by
  obtain ⟨hx, hb, -⟩ := C
  unfold oBin at hs
  split at hs
  · rename_i y x r
    split at hs
    · rename_i w hw
      cases hs
      intro H locs ls hR hL
      have K := hG H locs ls hR hL
      have hd := hr.2.2 (by omega)
      have hn := hr.next (by omega)
      have hlen := hr.len1 (by omega)
      subst hlen
      dsimp only at K ⊢
      rw [hn, List.map_cons, show cv z b (0, w.toInt) = .int w by show Value.int (i32 _) = _; rw [i32_toInt]] at K
      rw [hr.here]
      show W p l e R s m args below meth c H locs _ _ Q (F0 m pc ls (.int (i32 y) :: .int (i32 x) :: r.map (cv z b)))
      unfold bin at hw
      have h3 : op = 10 ∨ op = 11 ∨ op = 12 ∨ op = 13 ∨ op = 14 ∨ op = 15 ∨ op = 16 ∨ op = 17 ∨ op = 18 ∨ op = 19 ∨ op = 20 ∨ op = 21 := by omega
      rcases h3 with rfl | rfl | rfl | rfl | rfl | rfl | rfl | rfl | rfl | rfl | rfl | rfl
      · cases hw; exact lv_iadd hx hb hd K
      · cases hw; exact lv_isub hx hb hd K
      · cases hw; exact lv_imul hx hb hd K
      · by_cases e0 : i32 y = 0
        · simp [e0] at hw
        · simp [e0] at hw
          subst hw
          exact lv_idiv hx hb hd e0 K
      · by_cases e0 : i32 y = 0
        · simp [e0] at hw
        · simp [e0] at hw
          subst hw
          exact lv_irem hx hb hd e0 K
      · cases hw
      · cases hw; exact lv_iand hx hb hd K
      · cases hw; exact lv_ior hx hb hd K
      · cases hw; exact lv_ixor hx hb hd K
      · cases hw; exact lv_ishl hx hb hd K
      · cases hw; exact lv_ishr hx hb hd K
      · cases hw; exact lv_iushr hx hb hd rfl K
    · cases hs
  · cases hs
theorem sn_un {i pc len op : Nat} {a b' : Int} {c' : Nat} {L st : List AV} {h : Hp} {cf' : Cf} (C : Cx p s m args meth c R D cI cJ cB cP z b Ls xs t d) (hr : Row t i pc len op a b' c') (ho : op = 15 ∨ op = 22 ∨ op = 23) (hs : oUn op i L st h = some cf')
    (hG : WG p l e R s m args below meth c D cI cJ cB cP z b Ls xs t Q cf') : WG p l e R s m args below meth c D cI cJ cB cP z b Ls xs t Q (i, L, st, h) := by
  obtain ⟨hx, hb, -⟩ := C
  unfold oUn at hs
  split at hs
  · rename_i x r
    have hd := hr.2.2 (by omega)
    have hn := hr.next (by omega)
    have hlen := hr.len1 (by omega)
    subst hlen
    rcases ho with rfl | rfl | rfl
    · cases hs
      intro H locs ls hR hL
      have K := hG H locs ls hR hL
      dsimp only at K ⊢
      rw [hn, List.map_cons, show cv z b (0, (-(i32 x)).toInt) = .int (-(i32 x)) by show Value.int (i32 _) = _; rw [i32_toInt]] at K
      rw [hr.here]
      exact lv_ineg hx hb hd K
    · cases hs
      intro H locs ls hR hL
      have K := hG H locs ls hR hL
      dsimp only at K ⊢
      rw [hn, List.map_cons, show cv z b (2, (i32 x).toInt64.toInt) = .long (i32 x).toInt64 by show Value.long (i64 _) = _; rw [i64_toInt]] at K
      rw [hr.here]
      exact lv_i2l hx hb hd rfl K
    · cases hs
      intro H locs ls hR hL
      have K := hG H locs ls hR hL
      dsimp only at K ⊢
      rw [hn, List.map_cons, show cv z b (0, (i32 x).toInt8.toInt32.toInt) = .int (i32 x).toInt8.toInt32 by show Value.int (i32 _) = _; rw [i32_toInt]] at K
      rw [hr.here]
      exact lv_i2b hx hb hd rfl K
  · cases hs
theorem sn_lcmp {i pc len : Nat} {a b' : Int} {c' : Nat} {L st : List AV} {h : Hp} {cf' : Cf} (C : Cx p s m args meth c R D cI cJ cB cP z b Ls xs t d) (hr : Row t i pc len 24 a b' c') (hs : oLcmp i L st h = some cf')
    (hG : WG p l e R s m args below meth c D cI cJ cB cP z b Ls xs t Q cf') : WG p l e R s m args below meth c D cI cJ cB cP z b Ls xs t Q (i, L, st, h) := by
  obtain ⟨hx, hb, -⟩ := C
  unfold oLcmp at hs
  split at hs
  · rename_i y x r
    have hd := hr.2.2 (by omega)
    have hn := hr.next (by omega)
    have hlen := hr.len1 (by omega)
    subst hlen
    cases hs
    intro H locs ls hR hL
    have K := hG H locs ls hR hL
    dsimp only at K ⊢
    rw [hn, List.map_cons, show cv z b (0, (lg_cmp (i64 x) (i64 y)).toInt) = .int (lg_cmp (i64 x) (i64 y)) by show Value.int (i32 _) = _; rw [i32_toInt]] at K
    rw [hr.here]
    exact W.lcmp hx hb hd K
  · cases hs
theorem sn_dup {i pc len op : Nat} {a b' : Int} {c' : Nat} {L st : List AV} {h : Hp} {cf' : Cf} (C : Cx p s m args meth c R D cI cJ cB cP z b Ls xs t d) (hr : Row t i pc len op a b' c') (ho : 25 ≤ op ∧ op ≤ 28) (hs : oDup op i L st h = some cf')
    (hG : WG p l e R s m args below meth c D cI cJ cB cP z b Ls xs t Q cf') : WG p l e R s m args below meth c D cI cJ cB cP z b Ls xs t Q (i, L, st, h) := by
  obtain ⟨hx, hb, -⟩ := C
  have hd := hr.2.2 (by omega)
  have hn := hr.next (by omega)
  have hlen := hr.len1 (by omega)
  subst hlen
  unfold oDup at hs
  cases st with
  | nil => cases hs
  | cons v r =>
    dsimp only at hs
    split at hs
    · cases hs
    · rename_i hv
      have cv1 := cv_cat1 (z := z) (b := b) hv
      have h3 : op = 25 ∨ op = 26 ∨ op = 27 ∨ op = 28 := by omega
      rcases h3 with rfl | rfl | rfl | rfl
      · cases hs
        intro H locs ls hR hL
        have K := hG H locs ls hR hL
        dsimp only at K ⊢
        rw [hn, List.map_cons, List.map_cons] at K
        rw [hr.here, List.map_cons]
        exact lv_dup hx hb hd cv1 K
      · cases hs
        intro H locs ls hR hL
        have K := hG H locs ls hR hL
        dsimp only at K ⊢
        rw [hn] at K
        rw [hr.here, List.map_cons]
        exact lv_pop hx hb hd cv1 K
      · cases r with
        | nil => cases hs
        | cons w r =>
          simp only [show ¬ (27 : Nat) = 25 by decide, show ¬ (27 : Nat) = 26 by decide, if_false, if_true] at hs
          split at hs
          · cases hs
          · rename_i hw
            cases hs
            intro H locs ls hR hL
            have K := hG H locs ls hR hL
            dsimp only at K ⊢
            rw [hn, List.map_cons, List.map_cons, List.map_cons] at K
            rw [hr.here, List.map_cons, List.map_cons]
            exact lv_dup_x1 hx hb hd cv1 (cv_cat1 hw) K
      · cases r with
        | nil => cases hs
        | cons w r =>
          simp only [show ¬ (28 : Nat) = 25 by decide, show ¬ (28 : Nat) = 26 by decide, show ¬ (28 : Nat) = 27 by decide, if_false, if_true] at hs
          split at hs
          · cases hs
          · rename_i hw
            cases hs
            intro H locs ls hR hL
            have K := hG H locs ls hR hL
            dsimp only at K ⊢
            rw [hn, List.map_cons, List.map_cons, List.map_cons, List.map_cons] at K
            rw [hr.here, List.map_cons, List.map_cons]
            exact lv_dup2_11 hx hb hd cv1 (cv_cat1 hw) K
theorem okR_a {t i pc len op : Nat} {a b' : Int} {c' : Nat} (hr : Row t i pc len op a b' c') (ho : op = 30 ∨ op = 31) : 0 ≤ a ∧ a ≤ 5 := by
  have h1 := hr.2.1
  unfold okR at h1
  simp only [Bool.and_eq_true] at h1
  have h2 := h1.1.2
  rw [if_pos ho] at h2
  exact of_decide_eq_true h2
theorem sn_if {i pc len : Nat} {a b' : Int} {c' : Nat} {L st : List AV} {h : Hp} {cf' : Cf} (C : Cx p s m args meth c R D cI cJ cB cP z b Ls xs t d) (hr : Row t i pc len 30 a b' c') (hs : oIf a c' i L st h = some cf')
    (hG : WG p l e R s m args below meth c D cI cJ cB cP z b Ls xs t Q cf') : WG p l e R s m args below meth c D cI cJ cB cP z b Ls xs t Q (i, L, st, h) := by
  obtain ⟨hx, hb, -⟩ := C
  have hd := hr.2.2 (by omega)
  have hn := hr.next (by omega)
  have hlen := hr.len3 (by omega)
  have hj := hr.jump (by omega)
  have ha := okR_a hr (by omega)
  subst hlen
  unfold oIf at hs
  split at hs
  · rename_i x r
    cases hs
    intro H locs ls hR hL
    have K := hG H locs ls hR hL
    dsimp only at K ⊢
    rw [hr.here]
    have kt : cnd a (i32 x) 0 = true → W p l e R s m args below meth c H locs h.2.2.2.1 h.2.2.2.2 Q (F0 m (pcOf t c') ls (r.map (cv z b))) := fun q => by rw [if_pos q] at K; exact K
    have kf : ¬ cnd a (i32 x) 0 = true → W p l e R s m args below meth c H locs h.2.2.2.1 h.2.2.2.2 Q (F0 m (pc + 3) ls (r.map (cv z b))) := fun q => by rw [if_neg q, hn] at K; exact K
    show W p l e R s m args below meth c H locs _ _ Q (F0 m pc ls (.int (i32 x) :: r.map (cv z b)))
    have h3 : a = 0 ∨ a = 1 ∨ a = 2 ∨ a = 3 ∨ a = 4 ∨ a = 5 := by omega
    rcases h3 with rfl | rfl | rfl | rfl | rfl | rfl
    · exact lv_if_eq hx hb hd hj (fun q => kt (decide_eq_true q)) (fun q => kf (fun q2 => q (of_decide_eq_true q2)))
    · exact lv_if_ne hx hb hd hj (fun q => kt (decide_eq_true q)) (fun q => kf (fun q2 => of_decide_eq_true q2 q))
    · exact lv_if_lt hx hb hd hj (fun q => kt (decide_eq_true q)) (fun q => kf (fun q2 => q (of_decide_eq_true q2)))
    · exact lv_if_ge hx hb hd hj (fun q => kt (decide_eq_true q)) (fun q => kf (fun q2 => q (of_decide_eq_true q2)))
    · exact lv_if_gt hx hb hd hj (fun q => kt (decide_eq_true q)) (fun q => kf (fun q2 => q (of_decide_eq_true q2)))
    · exact lv_if_le hx hb hd hj (fun q => kt (decide_eq_true q)) (fun q => kf (fun q2 => q (of_decide_eq_true q2)))
  · cases hs
theorem sn_if2 {i pc len : Nat} {a b' : Int} {c' : Nat} {L st : List AV} {h : Hp} {cf' : Cf} (C : Cx p s m args meth c R D cI cJ cB cP z b Ls xs t d) (hr : Row t i pc len 31 a b' c') (hs : oIf2 a c' i L st h = some cf')
    (hG : WG p l e R s m args below meth c D cI cJ cB cP z b Ls xs t Q cf') : WG p l e R s m args below meth c D cI cJ cB cP z b Ls xs t Q (i, L, st, h) := by
  obtain ⟨hx, hb, -⟩ := C
  have hd := hr.2.2 (by omega)
  have hn := hr.next (by omega)
  have hlen := hr.len3 (by omega)
  have hj := hr.jump (by omega)
  have ha := okR_a hr (by omega)
  subst hlen
  unfold oIf2 at hs
  split at hs
  · rename_i y x r
    cases hs
    intro H locs ls hR hL
    have K := hG H locs ls hR hL
    dsimp only at K ⊢
    rw [hr.here]
    have kt : cnd a (i32 x) (i32 y) = true → W p l e R s m args below meth c H locs h.2.2.2.1 h.2.2.2.2 Q (F0 m (pcOf t c') ls (r.map (cv z b))) := fun q => by rw [if_pos q] at K; exact K
    have kf : ¬ cnd a (i32 x) (i32 y) = true → W p l e R s m args below meth c H locs h.2.2.2.1 h.2.2.2.2 Q (F0 m (pc + 3) ls (r.map (cv z b))) := fun q => by rw [if_neg q, hn] at K; exact K
    show W p l e R s m args below meth c H locs _ _ Q (F0 m pc ls (.int (i32 y) :: .int (i32 x) :: r.map (cv z b)))
    have h3 : a = 0 ∨ a = 1 ∨ a = 2 ∨ a = 3 ∨ a = 4 ∨ a = 5 := by omega
    rcases h3 with rfl | rfl | rfl | rfl | rfl | rfl
    · exact lv_icmp_eq hx hb hd hj (fun q => kt (decide_eq_true q)) (fun q => kf (fun q2 => q (of_decide_eq_true q2)))
    · exact lv_icmp_ne hx hb hd hj (fun q => kt (decide_eq_true q)) (fun q => kf (fun q2 => of_decide_eq_true q2 q))
    · exact lv_icmp_lt hx hb hd hj (fun q => kt (decide_eq_true q)) (fun q => kf (fun q2 => q (of_decide_eq_true q2)))
    · exact lv_icmp_ge hx hb hd hj (fun q => kt (decide_eq_true q)) (fun q => kf (fun q2 => q (of_decide_eq_true q2)))
    · exact lv_icmp_gt hx hb hd hj (fun q => kt (decide_eq_true q)) (fun q => kf (fun q2 => q (of_decide_eq_true q2)))
    · exact lv_icmp_le hx hb hd hj (fun q => kt (decide_eq_true q)) (fun q => kf (fun q2 => q (of_decide_eq_true q2)))
  · cases hs
theorem sn_ifn {i pc len op : Nat} {a b' : Int} {c' : Nat} {L st : List AV} {h : Hp} {cf' : Cf} (C : Cx p s m args meth c R D cI cJ cB cP z b Ls xs t d) (hr : Row t i pc len op a b' c') (ho : op = 32 ∨ op = 33) (hs : oNull op c' i L st h = some cf')
    (hG : WG p l e R s m args below meth c D cI cJ cB cP z b Ls xs t Q cf') : WG p l e R s m args below meth c D cI cJ cB cP z b Ls xs t Q (i, L, st, h) := by
  obtain ⟨hx, hb, -⟩ := C
  have hd := hr.2.2 (by omega)
  have hn := hr.next (by omega)
  have hlen := hr.len3 (by omega)
  have hj := hr.jump (by omega)
  subst hlen
  unfold oNull at hs
  split at hs
  · rename_i x r
    cases hs
    intro H locs ls hR hL
    have K := hG H locs ls hR hL
    dsimp only at K ⊢
    rw [hr.here, List.map_cons]
    by_cases hnl : x = -1
    · subst hnl
      rw [show cv z b (1, -1) = .null from rfv_null z b]
      rcases ho with rfl | rfl
      · rw [if_pos (by decide)] at K
        exact lv_ifnullN hx hb hd hj K
      · rw [if_neg (by decide), hn] at K
        exact lv_ifnonnullN hx hb hd K
    · obtain ⟨q, e1⟩ := rfv_ref z b hnl
      rw [show cv z b (1, x) = .ref q from e1]
      rcases ho with rfl | rfl
      · rw [if_neg (by simp [hnl]), hn] at K
        exact lv_ifnull hx hb hd K
      · rw [if_pos (by simp [hnl])] at K
        exact lv_ifnonnull hx hb hd hj K
  · cases hs
theorem sn_goto {i pc len : Nat} {a b' : Int} {c' : Nat} {L st : List AV} {h : Hp} (C : Cx p s m args meth c R D cI cJ cB cP z b Ls xs t d) (hr : Row t i pc len 34 a b' c')
    (hG : WG p l e R s m args below meth c D cI cJ cB cP z b Ls xs t Q (c', L, st, h)) : WG p l e R s m args below meth c D cI cJ cB cP z b Ls xs t Q (i, L, st, h) := by
  obtain ⟨hx, hb, -⟩ := C
  have hd := hr.2.2 (by omega)
  have hlen := hr.len3 (by omega)
  have hj := hr.jump (by omega)
  subst hlen
  intro H locs ls hR hL
  have K := hG H locs ls hR hL
  dsimp only at K ⊢
  rw [hr.here]
  exact lv_goto hx hb hd hj K
theorem sn_tab {i pc len : Nat} {a b' : Int} {c' : Nat} {L st : List AV} {h : Hp} {cf' : Cf} (C : Cx p s m args meth c R D cI cJ cB cP z b Ls xs t d) (hr : Row t i pc len 35 a b' c') (hs : oTab c' L st h = some cf')
    (hG : WG p l e R s m args below meth c D cI cJ cB cP z b Ls xs t Q cf') : WG p l e R s m args below meth c D cI cJ cB cP z b Ls xs t Q (i, L, st, h) := by
  obtain ⟨hx, hb, -⟩ := C
  have hd := hr.2.2 (by omega)
  have h1 := hr.2.1
  unfold okR at h1
  simp only [Bool.and_eq_true] at h1
  have h2 := h1.2
  simp only [show ¬ (35 : Nat) ≤ 6 by decide, show ¬ (35 : Nat) = 7 by decide, show ¬ (35 : Nat) = 8 by decide, show ¬ (35 : Nat) = 29 by decide, show ¬ (35 : Nat) = 63 by decide, if_false, if_true] at h2
  unfold oTab at hs
  split at hs
  · rename_i x r
    cases hsw : SWt[c']? with
    | none => rw [hsw] at hs; cases hs
    | some q =>
      obtain ⟨dd, lo, hi, os, j, js⟩ := q
      rw [hsw] at hs h2
      dsimp only at hs h2
      simp only [Bool.and_eq_true, decide_eq_true_eq] at h2
      obtain ⟨⟨⟨g1, g2⟩, g3⟩, g4⟩ := h2
      cases hs
      intro H locs ls hR hL
      have K := hG H locs ls hR hL
      dsimp only at K ⊢
      rw [hr.here]
      have hd' : decode (bOf t) pc = .ok (.tableswitch dd lo hi os.toArray, len) := by
        have e : SWt.getD c' (0, 0, 0, [], 0, []) = (dd, lo, hi, os, j, js) := by simp [List.getD, hsw]
        rw [hd]
        show Except.ok ((match SWt.getD c' (0, 0, 0, [], 0, []) with | (d, lo, hi, os, _, _) => Instr.tableswitch d lo hi os.toArray), len) = _
        rw [e]
      show W p l e R s m args below meth c H locs _ _ Q (F0 m pc ls (.int (i32 x) :: r.map (cv z b)))
      by_cases ho : (i32 x).toInt < lo ∨ hi < (i32 x).toInt
      · rw [if_pos ho] at K
        exact lv_tableOut hx hb hd' ho (by have := pcOf_pcAt g1; omega) K
      · rw [if_neg ho] at K
        have o1 : ¬ (i32 x).toInt < lo := fun q => ho (Or.inl q)
        have o2 : ¬ hi < (i32 x).toInt := fun q => ho (Or.inr q)
        have hk : ((i32 x).toInt - lo).toNat < js.length := by omega
        have g5 := List.all_eq_true.mp g4 _ (List.mem_range.mpr hk)
        refine lv_tableIn (off := os.getD ((i32 x).toInt - lo).toNat 0) hx hb hd' o1 o2 ?_ (by have := pcOf_pcAt g5; omega) K
        have hk2 : ((i32 x).toInt - lo).toNat < os.length := by omega
        simp [List.getD, List.getElem?_eq_getElem hk2]
  · cases hs
theorem lku_off (pc : Int) (t : Nat) (x : Int) (dd : Int) (j : Nat) (hd : pcAt (cd t) j (pc + dd) = true) : ∀ (ps : List (Int × Int)) (js : List (Int × Nat)), ps.map (fun q => q.1) = js.map (fun q => q.1) →
    (∀ k, k < js.length → pcAt (cd t) (js.getD k (0, 0)).2 (pc + (ps.getD k (0, 0)).2) = true) → pc + Op.lookupswitch.offset ps dd x = (pcOf t (lku x j js) : Int)
  | [], [], _, _ => by
    have := pcOf_pcAt hd
    show pc + dd = _
    exact this.symm
  | [], _ :: _, h, _ => by simp at h
  | _ :: _, [], h, _ => by simp at h
  | (q, o) :: ps, (q2, k2) :: js, h, hk => by
    have e1 : q = q2 := by simp at h; exact h.1
    have e2 : ps.map (fun q => q.1) = js.map (fun q => q.1) := by simpa using (List.cons.inj h).2
    subst e1
    by_cases hx : x = q
    · have e3 : lku x j ((q, k2) :: js) = k2 := by simp [lku, hx]
      rw [e3]
      have h0 := hk 0 (by simp)
      have := pcOf_pcAt h0
      have e4 : Op.lookupswitch.offset ((q, o) :: ps) dd x = o := by subst hx; simp [Op.lookupswitch.offset]
      rw [e4]
      simpa using this.symm
    · have e3 : lku x j ((q, k2) :: js) = lku x j js := by simp [lku, hx]
      rw [e3]
      have e4 : Op.lookupswitch.offset ((q, o) :: ps) dd x = Op.lookupswitch.offset ps dd x := by
        show (if q = x then o else Op.lookupswitch.offset ps dd x) = _
        rw [if_neg (Ne.symm hx)]
      rw [e4]
      exact lku_off pc t x dd j hd ps js e2 fun k hk' => by
        have := hk (k + 1) (by simp; omega)
        simpa using this
theorem sn_look {i pc len : Nat} {a b' : Int} {c' : Nat} {L st : List AV} {h : Hp} {cf' : Cf} (C : Cx p s m args meth c R D cI cJ cB cP z b Ls xs t d) (hr : Row t i pc len 36 a b' c') (hs : oLook c' L st h = some cf')
    (hG : WG p l e R s m args below meth c D cI cJ cB cP z b Ls xs t Q cf') : WG p l e R s m args below meth c D cI cJ cB cP z b Ls xs t Q (i, L, st, h) := by
  obtain ⟨hx, hb, -⟩ := C
  have hd := hr.2.2 (by omega)
  have h1 := hr.2.1
  unfold okR at h1
  simp only [Bool.and_eq_true] at h1
  have h2 := h1.2
  simp only [show ¬ (36 : Nat) ≤ 6 by decide, show ¬ (36 : Nat) = 7 by decide, show ¬ (36 : Nat) = 8 by decide, show ¬ (36 : Nat) = 29 by decide, show ¬ (36 : Nat) = 63 by decide, show ¬ (36 : Nat) = 35 by decide, if_false, if_true] at h2
  unfold oLook at hs
  split at hs
  · rename_i x r
    cases hsw : SWl[c']? with
    | none => rw [hsw] at hs; cases hs
    | some q =>
      obtain ⟨dd, ps, j, js⟩ := q
      rw [hsw] at hs h2
      dsimp only at hs h2
      simp only [Bool.and_eq_true, decide_eq_true_eq] at h2
      obtain ⟨⟨⟨g1, g2⟩, g3⟩, g4⟩ := h2
      cases hs
      intro H locs ls hR hL
      have K := hG H locs ls hR hL
      dsimp only at K ⊢
      rw [hr.here]
      have hd' : decode (bOf t) pc = .ok (.lookupswitch dd ps.toArray, len) := by
        have e : SWl.getD c' (0, [], 0, []) = (dd, ps, j, js) := by simp [List.getD, hsw]
        rw [hd]
        show Except.ok ((match SWl.getD c' (0, [], 0, []) with | (d, ps, _, _) => Instr.lookupswitch d ps.toArray), len) = _
        rw [e]
      show W p l e R s m args below meth c H locs _ _ Q (F0 m pc ls (.int (i32 x) :: r.map (cv z b)))
      refine lv_lookup hx hb hd' ?_ rfl (lku_off pc t (i32 x).toInt dd j g1 ps js g2 fun k hk => List.all_eq_true.mp g3 _ (List.mem_range.mpr hk)) K
      exact g4
  · cases hs
end SND2
