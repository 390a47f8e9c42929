/-! the four fields, by tables -/
def qq : Nat → Nat := fun k => match k with | 0 => 4 | 1 => 8 | 2 => 9 | _ => 16
def pp : Nat → Nat := fun k => match k with | 0 => 2 | 1 => 2 | 2 => 3 | _ => 2
def mm : Nat → Nat := fun k => match k with | 0 => 2 | 1 => 3 | 2 => 2 | _ => 4
def TA : Nat → Nat := fun k => match k with | 0 => 0x123000000000000103200000000000023010000000000003210 | 1 => 0x12345670000000010325476000000002301674500000000321076540000000045670123000000005476103200000000674523010000000076543210 | 2 => 0x43510276800000003540216870000000543210876000000010276843500000000216873540000000210876543000000076843510200000006873540210000000876543210 | _ => 0x123456789abcdef1032547698badcfe23016745ab89efcd32107654ba98fedc45670123cdef89ab54761032dcfe98ba67452301efcdab8976543210fedcba9889abcdef0123456798badcfe10325476ab89efcd23016745ba98fedc32107654cdef89ab45670123dcfe98ba54761032efcdab8967452301fedcba9876543210
def TM : Nat → Nat := fun k => match k with | 0 => 0x2130000000000000132000000000000032100000000000000000 | 1 => 0x346125700000000042351760000000006372415000000000152673400000000021475630000000005713642000000000765432100000000000000000 | 2 => 0x23761548000000003814625700000000714258360000000064283175000000001653278400000000528174630000000045378612000000008765432100000000000000000 | _ => 0xa5783ce1b4692df05ba48679c23d1fe07ae36bf258c149d0843fd16a2e957bc0386d92c74f1ae5b0c6b1285f394ed7a0e7f6c5d4a3b28190192a7f4cd5e6b380bc5243ad618f9e70428ef93517dbac6063c914be8d27fa509d15ae26fb73c8402147ed8b9afc5630df9b5713eca86420fedcba98765432100000000000000000
def TN : Nat → Nat := fun k => match k with | 0 => 0x3210 | 1 => 0x76543210 | 2 => 0x453786120 | _ => 0xfedcba9876543210
def TV : Nat → Nat := fun k => match k with | 0 => 0x2310 | 1 => 0x43276510 | 2 => 0x467385210 | _ => 0x834a5c2f67bde910
def TS : Nat → Nat := fun k => match k with | 0 => 0x23100000000000003210 | 1 => 0x5432761000000000327654100000000076543210 | 2 => 0x4356872100000000876543210 | _ => 0xcd98efba6732451089badcef76452310abef98dc67235410fedcba9876543210
def tb4 (T i : Nat) : Nat := (T >>> (4 * i)) % 16
theorem qq_pos (k : Nat) : 0 < qq k := match k with | 0 => by decide | 1 => by decide | 2 => by decide | _ + 3 => by show 0 < 16; decide
theorem mm_pos (k : Nat) : 0 < mm k := match k with | 0 => by decide | 1 => by decide | 2 => by decide | _ + 3 => by show 0 < 4; decide
theorem qq_le (k : Nat) : qq k ≤ 16 := match k with | 0 => by decide | 1 => by decide | 2 => by decide | _ + 3 => by show 16 ≤ 16; decide
theorem qq_ge (k : Nat) : 4 ≤ qq k := match k with | 0 => by decide | 1 => by decide | 2 => by decide | _ + 3 => by show 4 ≤ 16; decide
theorem mm_le (k : Nat) : mm k ≤ 4 := match k with | 0 => by decide | 1 => by decide | 2 => by decide | _ + 3 => by show 4 ≤ 4; decide
theorem mm_ge (k : Nat) : 2 ≤ mm k := match k with | 0 => by decide | 1 => by decide | 2 => by decide | _ + 3 => by show 2 ≤ 4; decide
theorem pp_ge (k : Nat) : 2 ≤ pp k := match k with | 0 => by decide | 1 => by decide | 2 => by decide | _ + 3 => by show 2 ≤ 2; decide
theorem pp_le (k : Nat) : pp k ≤ 3 := match k with | 0 => by decide | 1 => by decide | 2 => by decide | _ + 3 => by show 2 ≤ 3; decide
theorem qq_pm (k : Nat) : qq k = pp k ^ mm k := match k with | 0 => by decide | 1 => by decide | 2 => by decide | _ + 3 => by show 16 = 2 ^ 4; decide
/-- a NUMBER of the field k -/
abbrev El (k : Nat) : Type := Fin (qq k)
def el (k n : Nat) : El k := ⟨n % qq k, Nat.mod_lt _ (qq_pos k)⟩
def z0 {k : Nat} : El k := el k 0
def e1 {k : Nat} : El k := el k 1
def ad {k : Nat} (a b : El k) : El k := el k (tb4 (TA k) (16 * a.val + b.val))
def ml {k : Nat} (a b : El k) : El k := el k (tb4 (TM k) (16 * a.val + b.val))
def ng {k : Nat} (a : El k) : El k := el k (tb4 (TN k) a.val)
def iv {k : Nat} (a : El k) : El k := el k (tb4 (TV k) a.val)
/-- MAP j times -/
def sg {k : Nat} (j : Nat) (a : El k) : El k := el k (tb4 (TS k) (16 * (j % mm k) + a.val))
theorem ad_comm {k : Nat} : ∀ (a b : El k), ad a b = ad b a := match k with | 0 => by decide +kernel | 1 => by decide +kernel | 2 => by decide +kernel | _ + 3 => (by decide +kernel : ∀ (a b : El 3), ad a b = ad b a)
theorem ad_assoc {k : Nat} : ∀ (a b c : El k), ad (ad a b) c = ad a (ad b c) := match k with | 0 => by decide +kernel | 1 => by decide +kernel | 2 => by decide +kernel | _ + 3 => (by decide +kernel : ∀ (a b c : El 3), ad (ad a b) c = ad a (ad b c))
theorem ad_zero {k : Nat} : ∀ (a : El k), ad a z0 = a := match k with | 0 => by decide +kernel | 1 => by decide +kernel | 2 => by decide +kernel | _ + 3 => (by decide +kernel : ∀ (a : El 3), ad a z0 = a)
theorem ad_neg {k : Nat} : ∀ (a : El k), ad a (ng a) = z0 := match k with | 0 => by decide +kernel | 1 => by decide +kernel | 2 => by decide +kernel | _ + 3 => (by decide +kernel : ∀ (a : El 3), ad a (ng a) = z0)
theorem ml_comm {k : Nat} : ∀ (a b : El k), ml a b = ml b a := match k with | 0 => by decide +kernel | 1 => by decide +kernel | 2 => by decide +kernel | _ + 3 => (by decide +kernel : ∀ (a b : El 3), ml a b = ml b a)
theorem ml_assoc {k : Nat} : ∀ (a b c : El k), ml (ml a b) c = ml a (ml b c) := match k with | 0 => by decide +kernel | 1 => by decide +kernel | 2 => by decide +kernel | _ + 3 => (by decide +kernel : ∀ (a b c : El 3), ml (ml a b) c = ml a (ml b c))
theorem ml_one {k : Nat} : ∀ (a : El k), ml a e1 = a := match k with | 0 => by decide +kernel | 1 => by decide +kernel | 2 => by decide +kernel | _ + 3 => (by decide +kernel : ∀ (a : El 3), ml a e1 = a)
theorem ml_zero {k : Nat} : ∀ (a : El k), ml a z0 = z0 := match k with | 0 => by decide +kernel | 1 => by decide +kernel | 2 => by decide +kernel | _ + 3 => (by decide +kernel : ∀ (a : El 3), ml a z0 = z0)
theorem ml_ad {k : Nat} : ∀ (a b c : El k), ml a (ad b c) = ad (ml a b) (ml a c) := match k with | 0 => by decide +kernel | 1 => by decide +kernel | 2 => by decide +kernel | _ + 3 => (by decide +kernel : ∀ (a b c : El 3), ml a (ad b c) = ad (ml a b) (ml a c))
theorem ml_iv {k : Nat} : ∀ (a : El k), a ≠ z0 → ml a (iv a) = e1 := match k with | 0 => by decide +kernel | 1 => by decide +kernel | 2 => by decide +kernel | _ + 3 => (by decide +kernel : ∀ (a : El 3), a ≠ z0 → ml a (iv a) = e1)
theorem iv_zero0 {k : Nat} : ∀ (a : El k), a = z0 → iv a = z0 := match k with | 0 => by decide +kernel | 1 => by decide +kernel | 2 => by decide +kernel | _ + 3 => (by decide +kernel : ∀ (a : El 3), a = z0 → iv a = z0)
theorem ng_uniq {k : Nat} : ∀ (a b : El k), ad a b = z0 → b = ng a := match k with | 0 => by decide +kernel | 1 => by decide +kernel | 2 => by decide +kernel | _ + 3 => (by decide +kernel : ∀ (a b : El 3), ad a b = z0 → b = ng a)
theorem iv_uniq {k : Nat} : ∀ (a b : El k), ml a b = e1 → b = iv a := match k with | 0 => by decide +kernel | 1 => by decide +kernel | 2 => by decide +kernel | _ + 3 => (by decide +kernel : ∀ (a b : El 3), ml a b = e1 → b = iv a)
theorem e1_ne {k : Nat} : (e1 : El k) ≠ z0 := match k with | 0 => by decide +kernel | 1 => by decide +kernel | 2 => by decide +kernel | _ + 3 => (by decide +kernel : (e1 : El 3) ≠ z0)
theorem sg_ad0 {k : Nat} : ∀ j : Fin (mm k), ∀ (a b : El k), sg j.val (ad a b) = ad (sg j.val a) (sg j.val b) := match k with | 0 => by decide +kernel | 1 => by decide +kernel | 2 => by decide +kernel | _ + 3 => (by decide +kernel : ∀ j : Fin (mm 3), ∀ (a b : El 3), sg j.val (ad a b) = ad (sg j.val a) (sg j.val b))
theorem sg_ml0 {k : Nat} : ∀ j : Fin (mm k), ∀ (a b : El k), sg j.val (ml a b) = ml (sg j.val a) (sg j.val b) := match k with | 0 => by decide +kernel | 1 => by decide +kernel | 2 => by decide +kernel | _ + 3 => (by decide +kernel : ∀ j : Fin (mm 3), ∀ (a b : El 3), sg j.val (ml a b) = ml (sg j.val a) (sg j.val b))
theorem sg_inj0 {k : Nat} : ∀ j : Fin (mm k), ∀ (a b : El k), sg j.val a = sg j.val b → a = b := match k with | 0 => by decide +kernel | 1 => by decide +kernel | 2 => by decide +kernel | _ + 3 => (by decide +kernel : ∀ j : Fin (mm 3), ∀ (a b : El 3), sg j.val a = sg j.val b → a = b)
theorem sg_sg0 {k : Nat} : ∀ i j : Fin (mm k), ∀ a : El k, sg (i.val + j.val) a = sg i.val (sg j.val a) := match k with | 0 => by decide +kernel | 1 => by decide +kernel | 2 => by decide +kernel | _ + 3 => (by decide +kernel : ∀ i j : Fin (mm 3), ∀ a : El 3, sg (i.val + j.val) a = sg i.val (sg j.val a))
theorem sg_0 {k : Nat} : ∀ (a : El k), sg 0 a = a := match k with | 0 => by decide +kernel | 1 => by decide +kernel | 2 => by decide +kernel | _ + 3 => (by decide +kernel : ∀ (a : El 3), sg 0 a = a)
theorem sg_mod {k : Nat} (j : Nat) (a : El k) : sg (j % mm k) a = sg j a := by unfold sg; rw [Nat.mod_mod]
theorem sg_ad {k : Nat} (j : Nat) (a b : El k) : sg j (ad a b) = ad (sg j a) (sg j b) := by
  rw [← sg_mod j, ← sg_mod j a, ← sg_mod j b]
  exact sg_ad0 ⟨j % mm k, Nat.mod_lt _ (mm_pos k)⟩ a b
theorem sg_ml {k : Nat} (j : Nat) (a b : El k) : sg j (ml a b) = ml (sg j a) (sg j b) := by
  rw [← sg_mod j, ← sg_mod j a, ← sg_mod j b]
  exact sg_ml0 ⟨j % mm k, Nat.mod_lt _ (mm_pos k)⟩ a b
theorem sg_inj {k : Nat} {j : Nat} {a b : El k} (h : sg j a = sg j b) : a = b := by
  rw [← sg_mod j a, ← sg_mod j b] at h
  exact sg_inj0 ⟨j % mm k, Nat.mod_lt _ (mm_pos k)⟩ a b h
theorem sg_sg {k : Nat} (i j : Nat) (a : El k) : sg (i + j) a = sg i (sg j a) := by
  rw [← sg_mod i, ← sg_mod j, ← sg_mod (i + j), Nat.add_mod, sg_mod]
  exact sg_sg0 ⟨i % mm k, Nat.mod_lt _ (mm_pos k)⟩ ⟨j % mm k, Nat.mod_lt _ (mm_pos k)⟩ a
theorem zero_ad {k : Nat} (a : El k) : ad z0 a = a := by rw [ad_comm, ad_zero]
theorem zero_ml {k : Nat} (a : El k) : ml z0 a = z0 := by rw [ml_comm, ml_zero]
theorem one_ml {k : Nat} (a : El k) : ml e1 a = a := by rw [ml_comm, ml_one]
theorem ad_ml {k : Nat} (a b c : El k) : ml (ad a b) c = ad (ml a c) (ml b c) := by rw [ml_comm, ml_ad, ml_comm c a, ml_comm c b]
theorem ad_cancel {k : Nat} {a b c : El k} (h : ad a b = ad a c) : b = c := by
  have h1 : ad (ng a) (ad a b) = ad (ng a) (ad a c) := by rw [h]
  rwa [← ad_assoc, ← ad_assoc, ad_comm (ng a) a, ad_neg, zero_ad, zero_ad] at h1
theorem sg_z {k : Nat} (j : Nat) : sg j (z0 : El k) = z0 := by
  have h := sg_ad j (z0 : El k) z0
  rw [ad_zero] at h
  have h2 : ad (sg j (z0 : El k)) z0 = ad (sg j z0) (sg j z0) := by rw [ad_zero]; exact h
  exact (ad_cancel h2).symm
theorem sg_e {k : Nat} (j : Nat) : sg j (e1 : El k) = e1 := by
  have h := sg_ml j (e1 : El k) e1
  rw [ml_one] at h
  have hn : sg j (e1 : El k) ≠ z0 := fun q => e1_ne (sg_inj (q.trans (sg_z j).symm))
  have h2 : ml (iv (sg j (e1 : El k))) (sg j e1) = ml (iv (sg j (e1 : El k))) (ml (sg j e1) (sg j e1)) := by rw [← h]
  rw [← ml_assoc, ml_comm (iv _), ml_iv _ hn, one_ml] at h2
  exact h2.symm
theorem ng_ng {k : Nat} (a : El k) : ng (ng a) = a := (ng_uniq _ _ (by rw [ad_comm, ad_neg])).symm
theorem ng_z {k : Nat} : ng (z0 : El k) = z0 := (ng_uniq _ _ (by rw [ad_zero])).symm
theorem ng_ad {k : Nat} (a b : El k) : ng (ad a b) = ad (ng a) (ng b) := by
  symm
  apply ng_uniq
  rw [ad_comm (ng a), ad_assoc, ← ad_assoc b, ad_neg, zero_ad, ad_neg]
theorem ng_ml {k : Nat} (a b : El k) : ml (ng a) b = ng (ml a b) := by
  apply ng_uniq
  rw [← ad_ml, ad_neg, zero_ml]
theorem ml_ng {k : Nat} (a b : El k) : ml a (ng b) = ng (ml a b) := by rw [ml_comm, ng_ml, ml_comm]
theorem sg_ng {k : Nat} (j : Nat) (a : El k) : sg j (ng a) = ng (sg j a) := by
  apply ng_uniq
  rw [← sg_ad, ad_neg, sg_z]
theorem ml_eq_zero {k : Nat} {a b : El k} (h : ml a b = z0) : a = z0 ∨ b = z0 := by
  by_cases ha : a = z0
  · exact Or.inl ha
  · refine Or.inr ?_
    have h1 : ml (iv a) (ml a b) = ml (iv a) z0 := by rw [h]
    rwa [← ml_assoc, ml_comm (iv a), ml_iv a ha, one_ml, ml_zero] at h1
theorem iv_ne {k : Nat} {a : El k} (h : a ≠ z0) : iv a ≠ z0 := fun q => e1_ne (by rw [← ml_iv a h, q, ml_zero])
theorem sg_ne {k : Nat} {j : Nat} {a : El k} (h : a ≠ z0) : sg j a ≠ z0 := fun q => h (sg_inj (q.trans (sg_z j).symm))
theorem sg_iv {k : Nat} (j : Nat) {a : El k} (h : a ≠ z0) : sg j (iv a) = iv (sg j a) := by
  apply iv_uniq
  rw [← sg_ml, ml_iv a h, sg_e]
theorem el_lt {k : Nat} (a : El k) : a.val < 16 := Nat.lt_of_lt_of_le a.isLt (qq_le k)
theorem el_val {k : Nat} (a : El k) : el k a.val = a := Fin.ext (Nat.mod_eq_of_lt a.isLt)
theorem z0_val {k : Nat} : (z0 : El k).val = 0 := Nat.zero_mod _
theorem e1_val {k : Nat} : (e1 : El k).val = 1 := Nat.mod_eq_of_lt (by have := qq_ge k; omega)
theorem z0_iff {k : Nat} {a : El k} : a = z0 ↔ a.val = 0 := ⟨fun h => by rw [h, z0_val], fun h => Fin.ext (by rw [h, z0_val])⟩
