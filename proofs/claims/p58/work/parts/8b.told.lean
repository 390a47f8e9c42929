/-! what is told to the class, and how it is read -/
theorem gd_l {l m : List Nat} {i : Nat} (h : i < l.length) : (l ++ m).getD i 0 = l.getD i 0 := by
  rw [List.getD_eq_getElem?_getD, List.getD_eq_getElem?_getD, List.getElem?_append_left h]
theorem gd_r {l m : List Nat} {i : Nat} (h : l.length ≤ i) : (l ++ m).getD i 0 = m.getD (i - l.length) 0 := by
  rw [List.getD_eq_getElem?_getD, List.getD_eq_getElem?_getD, List.getElem?_append_right h]
def LZ (X : Int → Int) (M : Mem) (k : Nat) (pl : Nat → Pl k) (rc : Nat) (rw : Int → Int) : Prop := (∃ (tx : Int → Int) (fc : Nat) (fa : Nat → Pl k), CLS M k pl 0 tx rc rw fc fa) ∧ M (-2) = X
theorem u32_nat {v : Nat} (hv : v < 2147483648) : (i32 (v : Int)).toUInt32.toNat = v := by
  have h2 := nI_int (n := v) (by omega)
  rw [i32_nat v]
  have h3 : (nI v).toBitVec.toInt = (v : Int) := h2
  rw [BitVec.toInt_eq_toNat_cond] at h3
  show (nI v).toBitVec.toNat = v
  split at h3 <;> omega
theorem byt_nat {v s : Nat} (hv : v < 2147483648) (hs : s < 32) : byt (v : Int) (s : Int) = ((v >>> s % 256 : Nat) : Int) := by
  unfold byt
  have e0 : ∀ z : Int32, i32 z.toInt = z := fun z => by unfold i32; exact Int32.ofInt_toInt z
  rw [e0]
  have h1 : ∀ w : UInt32, (w.toInt32 &&& i32 255).toInt = ((w.toNat % 256 : Nat) : Int) := fun w => by
    have h : (w.toInt32 &&& i32 255).toBitVec = w.toBitVec &&& 255#32 := rfl
    have h2 : (w.toBitVec &&& 255#32).toNat = w.toNat % 256 := by
      rw [BitVec.toNat_and]
      exact Nat.and_two_pow_sub_one_eq_mod _ 8
    show (w.toInt32 &&& i32 255).toBitVec.toInt = _
    rw [h, BitVec.toInt_eq_toNat_of_lt (by rw [h2]; omega), h2]
  rw [h1]
  have h3 : ((i32 (v : Int)).toUInt32 >>> ((i32 (s : Int)).toUInt32 &&& Int32.toUInt32 31)).toNat = v >>> s := by
    rw [UInt32.toNat_shiftRight, u32_nat hv]
    have h4 : ((i32 (s : Int)).toUInt32 &&& Int32.toUInt32 31).toNat = s := by
      rw [UInt32.toNat_and, u32_nat (by omega)]
      show s &&& 31 = s
      rw [Nat.and_two_pow_sub_one_eq_mod _ 5]
      omega
    rw [h4, Nat.mod_eq_of_lt hs]
  rw [h3]
theorem wd_byt {l : List Nat} (hl : ∀ x ∈ l, x < 128) (j : Nat) : byt (wd l j) 24 = (l.getD (4 * j) 0 : Int) ∧ byt (wd l j) 16 = (l.getD (4 * j + 1) 0 : Int) ∧ byt (wd l j) 8 = (l.getD (4 * j + 2) 0 : Int) ∧ byt (wd l j) 0 = (l.getD (4 * j + 3) 0 : Int) := by
  have hg : ∀ i : Nat, l.getD i 0 < 128 := fun i => by
    by_cases h : i < l.length
    · rw [List.getD_eq_getElem?_getD, List.getElem?_eq_getElem h]
      exact hl _ (List.getElem_mem h)
    · rw [List.getD_eq_getElem?_getD, List.getElem?_eq_none (by omega)]
      show 0 < 128
      omega
  have a1 := hg (4 * j)
  have a2 := hg (4 * j + 1)
  have a3 := hg (4 * j + 2)
  have a4 := hg (4 * j + 3)
  unfold wd
  generalize l.getD (4 * j) 0 = a at *
  generalize l.getD (4 * j + 1) 0 = b at *
  generalize l.getD (4 * j + 2) 0 = c at *
  generalize l.getD (4 * j + 3) 0 = e at *
  have hv : a * 16777216 + b * 65536 + c * 256 + e < 2147483648 := by omega
  refine ⟨(byt_nat (s := 24) hv (by decide)).trans ?_, (byt_nat (s := 16) hv (by decide)).trans ?_, (byt_nat (s := 8) hv (by decide)).trans ?_, (byt_nat (s := 0) hv (by decide)).trans ?_⟩
  · rw [Nat.shiftRight_eq_div_pow]; norm_cast; omega
  · rw [Nat.shiftRight_eq_div_pow]; norm_cast; omega
  · rw [Nat.shiftRight_eq_div_pow]; norm_cast; omega
  · rw [Nat.shiftRight_eq_div_pow]; norm_cast; omega
theorem saysF_ok {X : Int → Int} {k : Nat} {pl : Nat → Pl k} {rc : Nat} {rw_ : Int → Int} {fc : Nat} {fa : Nat → Pl k} {l : List Nat} {w : Nat} (hl : ∀ x ∈ l, x < 128) (hw : l.length ≤ 4 * w) (h40 : 4 * w ≤ 40) : ∀ (r : Nat), r ≤ w → ∀ {M : Mem} {tx : Int → Int}, CLS M k pl (4 * ((w - r : Nat) : Int)) tx rc rw_ fc fa → M (-2) = X → (∀ j : Nat, j < 4 * (w - r) → tx (j : Int) = (l.getD j 0 : Int)) → SY M (saysF l w r) (fun M' => ∃ tx' : Int → Int, CLS M' k pl (l.length : Int) tx' rc rw_ fc fa ∧ M' (-2) = X ∧ ∀ j : Nat, j < l.length → tx' (j : Int) = (l.getD j 0 : Int))
  | 0, _, M, tx, H, hX, ht => by
    refine SY.cons (o_end (d := 14) H (l.length : Int) (by omega) (by omega)) (fun r M' h => ⟨by rw [h.1]; show (0 : Nat) ≠ 9; decide, SY.nil ⟨_, h.2.1, (h.2.2 (-2) (Or.inl (by decide))).trans hX, fun j hj => ?_⟩⟩)
    unfold txC
    rw [if_pos (by omega)]
    exact ht j (by omega)
  | r + 1, hr, M, tx, H, hX, ht => by
    refine SY.cons (o_sign (d := 14) H (wd l (w - (r + 1))) (by omega)) (fun r_ M' h => ⟨by rw [h.1]; show (0 : Nat) ≠ 9; decide, ?_⟩)
    obtain ⟨j0, hj0⟩ : ∃ j0 : Nat, j0 = w - (r + 1) := ⟨_, rfl⟩
    have e1 : w - r = j0 + 1 := by omega
    rw [← hj0] at h ht
    have h2 := h.2.1
    rw [show 4 * ((j0 : Nat) : Int) + 4 = 4 * ((w - r : Nat) : Int) by omega] at h2
    refine saysF_ok hl hw h40 r (by omega) h2 ((h.2.2 (-2) (Or.inl (by decide))).trans hX) (fun j hj => ?_)
    obtain ⟨b1, b2, b3, b4⟩ := wd_byt hl j0
    unfold txA
    by_cases c3 : j = 4 * j0 + 3
    · rw [show ((j : Nat) : Int) = 4 * ((j0 : Nat) : Int) + 1 + 1 + 1 by omega, upr_eq, b4, c3]
    rw [upr_ne (by omega)]
    by_cases c2 : j = 4 * j0 + 2
    · rw [show ((j : Nat) : Int) = 4 * ((j0 : Nat) : Int) + 1 + 1 by omega, upr_eq, b3, c2]
    rw [upr_ne (by omega)]
    by_cases c1 : j = 4 * j0 + 1
    · rw [show ((j : Nat) : Int) = 4 * ((j0 : Nat) : Int) + 1 by omega, upr_eq, b2, c1]
    rw [upr_ne (by omega)]
    by_cases c0 : j = 4 * j0
    · rw [show ((j : Nat) : Int) = 4 * ((j0 : Nat) : Int) by omega, upr_eq, b1, c0]
    rw [upr_ne (by omega)]
    exact ht j (by omega)
theorem tx_out {M : Mem} {k : Nat} {pl : Nat → Pl k} {n : Int} {tx : Int → Int} {rc : Nat} {rw_ : Int → Int} {fc : Nat} {fa : Nat → Pl k} (H : CLS M k pl n tx rc rw_ fc fa) {i : Int} (h : i < 0 ∨ n ≤ i) : tx i = -1 := by
  obtain ⟨P, u, l, z, _, _, _, T, _⟩ := H
  exact T.2.2 i h
theorem bd_of {M : Mem} {k : Nat} {pl : Nat → Pl k} {n : Int} {tx : Int → Int} {rc : Nat} {rw_ : Int → Int} {fc : Nat} {fa : Nat → Pl k} (H : CLS M k pl n tx rc rw_ fc fa) (i : Nat) (hi : i < 6) : Bd (pl i) 9 := by
  obtain ⟨P, u, l, z, _, _, L, _⟩ := H
  exact (L i hi).2
theorem tl_pre {c q : Int} {m : Nat} : ∀ (j : Nat), m ≤ j → ∀ i : Nat, i < (tl c q m).length → (tl c q j).getD i 0 = (tl c q m).getD i 0 ∧ (tl c q m).length ≤ (tl c q j).length
  | 0, h, i, hi => by
    have e : m = 0 := by omega
    subst e
    exact ⟨rfl, Nat.le_refl _⟩
  | j + 1, h, i, hi => by
    by_cases e : m = j + 1
    · subst e
      exact ⟨rfl, Nat.le_refl _⟩
    · have h1 := tl_pre j (by omega) i hi
      refine ⟨?_, ?_⟩
      · rw [← h1.1]
        show ((tl c q j ++ (if 0 < j then [44] else [])) ++ dgs (vN c q j)).getD i 0 = _
        rw [List.append_assoc, gd_l (by omega)]
      · show _ ≤ ((tl c q j ++ (if 0 < j then [44] else [])) ++ dgs (vN c q j)).length
        rw [List.append_assoc, List.length_append]
        omega
theorem rdn_1 {tx : Int → Int} {q a : Int} (h : tx a < 48 ∨ 57 < tx a) : rdn tx q a = (-1, a, a) := by
  unfold rdn
  rw [if_pos (by have := isd_I (tx a); omega)]
theorem rdn_2 {tx : Int → Int} {q a : Int} (h : 48 ≤ tx a ∧ tx a ≤ 57) (h2 : tx (a + 1) < 48 ∨ 57 < tx (a + 1)) : rdn tx q a = (if q ≤ tx a - 48 then -1 else tx a - 48, a + 1, a) := by
  unfold rdn
  rw [if_neg (by have := isd_I (tx a); omega), if_pos (by have := isd_I (tx (a + 1)); omega)]
theorem rdn_3 {tx : Int → Int} {q a : Int} (h : 48 ≤ tx a ∧ tx a ≤ 57) (h2 : 48 ≤ tx (a + 1) ∧ tx (a + 1) ≤ 57) (h3 : tx (a + 1 + 1) < 48 ∨ 57 < tx (a + 1 + 1)) : rdn tx q a = (if q ≤ (tx a - 48) * 10 + tx (a + 1) - 48 then -1 else (tx a - 48) * 10 + tx (a + 1) - 48, a + 2, a + 1) := by
  rw [show a + 1 + 1 = a + 2 by omega] at h3
  unfold rdn
  rw [if_neg (by have := isd_I (tx a); omega), if_neg (by have := isd_I (tx (a + 1)); omega), if_pos (by have := isd_I (tx (a + 2)); omega)]
def stt (c q : Int) (j : Nat) : Nat := (tl c q j).length + (if 0 < j then 1 else 0)
theorem tl_at {c q : Int} (j i : Nat) (h : i < (dgs (vN c q j)).length) : (tl c q (j + 1)).getD (stt c q j + i) 0 = (dgs (vN c q j)).getD i 0 ∧ (tl c q (j + 1)).length = stt c q j + (dgs (vN c q j)).length := by
  have e : (tl c q j ++ (if 0 < j then [44] else [])).length = stt c q j := by
    unfold stt
    rw [List.length_append]
    split <;> rfl
  refine ⟨?_, ?_⟩
  · show ((tl c q j ++ (if 0 < j then [44] else [])) ++ dgs (vN c q j)).getD _ 0 = _
    rw [gd_r (by rw [e]; omega), e, Nat.add_sub_cancel_left]
  · show ((tl c q j ++ (if 0 < j then [44] else [])) ++ dgs (vN c q j)).length = _
    rw [List.length_append, e]
theorem tl_sep {c q : Int} (j : Nat) (h : 0 < j) : (tl c q (j + 1)).getD (tl c q j).length 0 = 44 := by
  show ((tl c q j ++ (if 0 < j then [44] else [])) ++ dgs (vN c q j)).getD _ 0 = _
  rw [if_pos h, List.append_assoc, gd_r (Nat.le_refl _), Nat.sub_self]
  rfl
theorem parse_ok {k : Nat} {c q : Int} (hq : 1 ≤ q ∧ q ≤ 16) {tx : Int → Int} (ht : ∀ j : Nat, j < (txt c q).length → tx (j : Int) = ((txt c q).getD j 0 : Int)) (hn : ∀ i : Int, ((txt c q).length : Int) ≤ i → tx i = -1) : ∀ (m j : Nat), j + m + 1 = tnum c → ∀ f : Pl k, Bd f j → ∃ f' : Pl k, rds (k := k) tx q ((txt c q).length : Int) (9 - j) (stt c q j : Int) f = (-1, f') ∧ Bd f' (tnum c)
  | m, j, hj, f, hf => by
    have t4 := (tnum_ok c).2.2
    have v1 := (vI_ok (c := c) hq j).2
    have hl : ∀ i : Nat, i < (dgs (vN c q j)).length → tx ((stt c q j : Int) + (i : Int)) = ((dgs (vN c q j)).getD i 0 : Int) := fun i hi => by
      have h1 := tl_at (c := c) (q := q) j i hi
      have h2 := tl_pre (c := c) (q := q) (m := j + 1) (tnum c) (by omega) (stt c q j + i) (by omega)
      have h3 := ht (stt c q j + i) (by unfold txt; omega)
      rw [show (txt c q).getD (stt c q j + i) 0 = (dgs (vN c q j)).getD i 0 from h2.1.trans h1.1] at h3
      rw [← h3]
      exact congrArg tx (by omega)
    obtain ⟨len, hlen⟩ : ∃ n : Nat, n = (dgs (vN c q j)).length := ⟨_, rfl⟩
    have hpos : 0 < len := by
      rw [hlen]
      unfold dgs
      split <;> simp
    have hend : tx ((stt c q j : Int) + (len : Int)) = (if m = 0 then -1 else 44) ∧ (m = 0 → (stt c q j : Int) + (len : Int) = ((txt c q).length : Int)) ∧ (m ≠ 0 → (stt c q j : Int) + (len : Int) ≠ ((txt c q).length : Int) ∧ (stt c q j : Int) + (len : Int) + 1 = (stt c q (j + 1) : Int)) := by
      have h1 := (tl_at (c := c) (q := q) j 0 (by omega)).2
      by_cases hm : m = 0
      · have e : (txt c q).length = stt c q j + len := by
          unfold txt
          rw [show tnum c = j + 1 by omega, h1, hlen]
        refine ⟨?_, fun _ => by omega, fun h => absurd hm h⟩
        rw [if_pos hm]
        exact hn _ (by omega)
      · have h5 := tl_sep (c := c) (q := q) (j + 1) (by omega)
        have h6 := tl_at (c := c) (q := q) (j + 1) 0 (by unfold dgs; split <;> simp)
        have h7 : (tl c q (j + 1)).length < (tl c q (j + 1 + 1)).length := by
          rw [h6.2]
          unfold stt
          rw [if_pos (by omega)]
          omega
        have h8 := tl_pre (c := c) (q := q) (m := j + 1 + 1) (tnum c) (by omega) (tl c q (j + 1)).length h7
        have h9 := ht (tl c q (j + 1)).length (by unfold txt; omega)
        refine ⟨?_, fun h => absurd h hm, fun _ => ⟨by unfold txt; omega, ?_⟩⟩
        · rw [if_neg hm, show (stt c q j : Int) + (len : Int) = (((tl c q (j + 1)).length : Nat) : Int) by omega, h9]
          rw [show (txt c q).getD (tl c q (j + 1)).length 0 = 44 from h8.1.trans h5]
          rfl
        · show _ = (((tl c q (j + 1)).length + (if 0 < j + 1 then 1 else 0) : Nat) : Int)
          rw [if_pos (by omega)]
          omega
    have hr : rdn tx q (stt c q j : Int) = ((vN c q j : Int), (stt c q j : Int) + (len : Int), (stt c q j : Int) + (len : Int) - 1) := by
      have e0 := hl 0 (by omega)
      have z0_ : (stt c q j : Int) + ((0 : Nat) : Int) = (stt c q j : Int) := by omega
      rw [z0_] at e0
      have he := hend.1
      by_cases h10 : vN c q j < 10
      · have ed : dgs (vN c q j) = [48 + vN c q j] := by unfold dgs; rw [if_pos h10]
        have e1 : len = 1 := by rw [hlen, ed]; rfl
        rw [ed] at e0
        have e2 : tx (stt c q j : Int) = ((48 + vN c q j : Nat) : Int) := e0
        rw [e1] at he ⊢
        rw [rdn_2 (by omega) (by
          rw [show (stt c q j : Int) + 1 = (stt c q j : Int) + ((1 : Nat) : Int) by omega, he]
          split <;> omega), if_neg (by omega), e2]
        refine Prod.ext ?_ (Prod.ext ?_ ?_)
        · show ((48 + vN c q j : Nat) : Int) - 48 = _
          omega
        · show (stt c q j : Int) + 1 = (stt c q j : Int) + ((1 : Nat) : Int)
          omega
        · show (stt c q j : Int) = (stt c q j : Int) + ((1 : Nat) : Int) - 1
          omega
      · have ed : dgs (vN c q j) = [48 + vN c q j / 10, 48 + vN c q j % 10] := by unfold dgs; rw [if_neg h10]
        have e1 : len = 2 := by rw [hlen, ed]; rfl
        have f1 := hl 1 (by rw [ed]; simp)
        rw [ed] at e0 f1
        have e2 : tx (stt c q j : Int) = ((48 + vN c q j / 10 : Nat) : Int) := e0
        have e3 : tx ((stt c q j : Int) + 1) = ((48 + vN c q j % 10 : Nat) : Int) := f1
        rw [e1] at he ⊢
        rw [rdn_3 (by omega) (by omega) (by
          rw [show (stt c q j : Int) + 1 + 1 = (stt c q j : Int) + ((2 : Nat) : Int) by omega, he]
          split <;> omega), if_neg (by omega), e2, e3]
        refine Prod.ext ?_ (Prod.ext ?_ ?_)
        · show (((48 + vN c q j / 10 : Nat) : Int) - 48) * 10 + ((48 + vN c q j % 10 : Nat) : Int) - 48 = _
          omega
        · show (stt c q j : Int) + 2 = (stt c q j : Int) + ((2 : Nat) : Int)
          omega
        · show (stt c q j : Int) + 1 = (stt c q j : Int) + ((2 : Nat) : Int) - 1
          omega
    have hb : Bd (up1 f j (el k (vN c q j : Int).toNat)) (j + 1) := fun i hi => by
      unfold up1
      rw [if_neg (by omega)]
      exact hf i (by omega)
    rw [rds_at (by omega), hr, if_neg (by show ¬ ((vN c q j : Nat) : Int) < 0; omega)]
    show ∃ f' : Pl k, (if (stt c q j : Int) + (len : Int) = ((txt c q).length : Int) then (-1, up1 f j (el k (vN c q j : Int).toNat)) else if tx ((stt c q j : Int) + (len : Int)) ≠ 44 ∨ j = 8 then ((stt c q j : Int) + (len : Int), up1 f j (el k (vN c q j : Int).toNat)) else rds tx q ((txt c q).length : Int) (9 - (j + 1)) ((stt c q j : Int) + (len : Int) + 1) (up1 f j (el k (vN c q j : Int).toNat))) = (-1, f') ∧ Bd f' (tnum c)
    by_cases hm : m = 0
    · rw [if_pos (hend.2.1 hm)]
      exact ⟨_, rfl, fun i hi => hb i (by omega)⟩
    · have h1 := hend.2.2 hm
      rw [if_neg h1.1, if_neg (by rw [hend.1, if_neg hm]; omega), h1.2]
      match m, hm, hj with
      | m' + 1, _, hj => exact parse_ok hq ht hn m' (j + 1) (by omega) _ hb
/-- a text of the law's is told, and read -/
theorem e_say {X : Int → Int} {M : Mem} {k : Nat} {pl : Nat → Pl k} {rc : Nat} {rw_ : Int → Int} (H : LZ X M k pl rc rw_) (c : Int) : SY M (says (txt c (qq k : Int))) (fun M' => M' (-2) = X ∧ ∃ (n : Int) (tx : Int → Int) (fc : Nat) (fa : Nat → Pl k), CLS M' k pl n tx rc rw_ fc fa ∧ (rds (k := k) tx (qq k : Int) n 9 0 pz).1 < 0 ∧ Bd (rds (k := k) tx (qq k : Int) n 9 0 pz).2 4) := by
  obtain ⟨⟨tx, fc, fa, H⟩, hX⟩ := H
  have hq : 1 ≤ (qq k : Int) ∧ (qq k : Int) ≤ 16 := by
    have := qq_pos k
    have := qq_le k
    omega
  have hlt := tl_lt (c := c) hq (tnum c)
  have hlen := tl_len (c := c) (q := (qq k : Int)) (tnum c)
  have t4 := (tnum_ok c).2
  have hlen' : (txt c (qq k : Int)).length ≤ 12 := by unfold txt; omega
  have h0 := saysF_ok (X := X) (w := ((txt c (qq k : Int)).length + 3) / 4) (l := txt c (qq k : Int)) hlt (by omega) (by omega) (((txt c (qq k : Int)).length + 3) / 4) (Nat.le_refl _) (M := M) (tx := tx) (k := k) (pl := pl) (rc := rc) (rw_ := rw_) (fc := fc) (fa := fa) (by rw [Nat.sub_self]; exact H) hX (fun j hj => by omega)
  intro S hS
  obtain ⟨n, M1, h1, tx', h2, h3, h4⟩ := h0 S hS
  refine ⟨n, M1, h1, h3, _, tx', fc, fa, h2, ?_⟩
  obtain ⟨f', e1, e2⟩ := parse_ok (k := k) hq h4 (fun i hi => tx_out h2 (Or.inr hi)) (tnum c - 1) 0 (by omega) pz (fun _ _ => rfl)
  have e3 : rds (k := k) tx' (qq k : Int) ((txt c (qq k : Int)).length : Int) 9 0 pz = (-1, f') := e1
  rw [e3]
  exact ⟨by show (-1 : Int) < 0; decide, fun i hi => e2 i (by omega)⟩
