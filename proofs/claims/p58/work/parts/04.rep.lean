/-! what the abstract machine's words mean in the machine's -/
theorem i32_toInt (x : Int32) : i32 x.toInt = x := by unfold i32; exact Int32.ofInt_toInt x
theorem i64_toInt (x : Int64) : i64 x.toInt = x := by unfold i64; exact Int64.ofInt_toInt x
theorem i32_nat (n : Nat) : i32 (n : Int) = Int32.ofNat n := by unfold i32; rfl
/-- a reference -/
def rfo (z b : Nat) (x : Int) : Option Nat := if x = -1 then none else if x = -2 then some b else some (z + x.toNat)
def rfv (z b : Nat) (x : Int) : Value := va_rf (rfo z b x)
def cv (z b : Nat) : AV → Value
  | (0, x) => .int (i32 x)
  | (1, x) => rfv z b x
  | (2, x) => .long (i64 x)
  | _ => .null
theorem rfv_null (z b : Nat) : rfv z b (-1) = .null := by simp [rfv, rfo, va_rf]
theorem rfv_script (z b : Nat) : rfv z b (-2) = .ref b := by simp [rfv, rfo, va_rf]
theorem rfv_ref (z b : Nat) {x : Int} (h : x ≠ -1) : ∃ q, rfv z b x = .ref q := by
  unfold rfv rfo
  rw [if_neg h]
  split <;> exact ⟨_, rfl⟩
theorem rfv_cell (z b : Nat) {x : Int} (h : 0 ≤ x) : rfv z b x = .ref (z + x.toNat) := by
  unfold rfv rfo
  rw [if_neg (by omega), if_neg (by omega)]
  rfl
theorem rfv_cat (z b : Nat) (x : Int) : (rfv z b x).category = 1 := by
  by_cases h : x = -1
  · subst h; rw [rfv_null]; rfl
  · obtain ⟨q, hq⟩ := rfv_ref z b h; rw [hq]; rfl
theorem cv_cat (z b : Nat) (v : AV) : (cv z b v).category = if v.1 = 2 then 2 else 1 := by
  obtain ⟨g, x⟩ := v
  match g with
  | 0 => rfl
  | 1 => exact rfv_cat z b x
  | 2 => rfl
  | k + 3 => simp [cv]; rfl
theorem cv_cat1 {z b : Nat} {v : AV} (h : v.1 ≠ 2) : (cv z b v).category = 1 := by rw [cv_cat, if_neg h]
/-- the numbers of an object -/
def fvals (z b ci : Nat) (rs : List Int) (M : Mem) (p : Int) : List Value := (List.range (cZ ci)).map fun f => cv z b (fv ci f rs M p)
def ent (cI cJ cB cP : ClassId) (z b : Nat) (x : Int) (c : Cel) (M : Mem) : va_E :=
  if c.1 = 0 then .inr (c.2.1, fvals z b c.2.1 c.2.2 M x) else if c.1 = 1 then .inl (cI, c.2.1, .inl fun j => i32 (M x j)) else if c.1 = 2 then .inl (cJ, c.2.1, .inr (.inl fun j => i64 (M x j))) else
  if c.1 = 3 then .inl (cB, c.2.1, .inl fun j => i32 (M x j)) else .inl (cP, c.2.1, .inr (.inr (.inr (.inr fun j => rfo z b (c.2.2.getD j (-1))))))
def wOf (cI cJ cB cP : ClassId) (z b : Nat) (S : List Cel) (M : Mem) : va_W := (List.range S.length).map fun (x : Nat) => (z + x, ent cI cJ cB cP z b (x : Int) (S.getD x (9, 0, [])) M)
/-- what may be written: from z on, but for two cells -/
def Fz (z : Nat) (Ls : Nat × Nat × Nat) (q : Nat) : Prop := z ≤ q ∧ q ≠ Ls.2.1 ∧ q ≠ Ls.2.2
def HOk (z : Nat) (S : List Cel) (Ls : Nat × Nat × Nat) : Prop := (Ls.2.1 < z ∨ z + S.length ≤ Ls.2.1) ∧ (Ls.2.2 < z ∨ z + S.length ≤ Ls.2.2)
def LOR (S : List Cel) : Prop := ∀ (x : Nat) (c : Cel), S[x]? = some c → (c.1 = 0 ∧ c.2.1 < 13) ∨ (1 ≤ c.1 ∧ c.1 ≤ 4 ∧ c.2.1 ≤ 65536)
def LOK (z : Nat) (Ls : Nat × Nat × Nat) (S : List Cel) : Prop := LOR S ∧ HOk z S Ls
/-- the script stands at -2 -/
def SR (Ls : Nat) (xs : Nat → Int32) (M : Mem) : Prop := M (-2) (-1) = (Ls : Int) ∧ ∀ j : Nat, j < Ls → M (-2) (j : Int) = (xs j).toInt
def tyl (cI cJ cB cP : ClassId) : List (ClassId × FieldType) := [(cI, .int), (cJ, .long), (cB, .byte), (cP, .object "SkewRings$Poly")]
def nest : Cond → Bool
  | .fieldLinkNest .. => true
  | .methodLinkNest .. => true
  | _ => false
def NW (U : State) : Prop := ∀ w ∈ lw_tbl, nest w = true → va_Nw w U
theorem NW.warm {s U : State} (hW : s.WarmedH U.vm) (h : NW s) : NW U := by
  intro w hw hn
  have h1 := h w hw hn
  cases w <;> first | (simp [nest] at hn; done) | exact va_Nw.warmF hW h1 | exact va_Nw.warmM hW h1
theorem NW.same {u U : State} (hv : u.vm = U.vm) (h : NW u) : NW U := by
  intro w hw hn
  have h1 := h w hw hn
  cases w <;> first | (simp [nest] at hn; done) | exact va_Nw.same rfl hv h1
def EnvOK (D : va_G) (cI cJ cB cP : ClassId) (U : State) : Prop := va_K D vwCl (tyl cI cJ cB cP) U ∧ NW U ∧ va_AO "SkewRings$Poly" U
theorem EnvOK.warm {D : va_G} {cI cJ cB cP : ClassId} {s U : State} (hW : s.WarmedH U.vm) (h : EnvOK D cI cJ cB cP s) : EnvOK D cI cJ cB cP U := ⟨va_K.moved hW.alike h.1, h.2.1.warm hW, va_AO.moved hW.alike h.2.2⟩
theorem EnvOK.same {D : va_G} {cI cJ cB cP : ClassId} {u U : State} (hv : u.vm = U.vm) (h : EnvOK D cI cJ cB cP u) : EnvOK D cI cJ cB cP U :=
  ⟨va_K.moved (by rw [hv]; exact Vm.Alike.refl _) h.1, h.2.1.same hv, va_AO.moved (by rw [hv]; exact Vm.Alike.refl _) h.2.2⟩
/-- a state's world -/
def SWd (D : va_G) (cI cJ cB cP : ClassId) (z b : Nat) (Ls : Nat × Nat × Nat) (xs : Nat → Int32) (S : List Cel) (M : Mem) (U : State) : Prop :=
  EnvOK D cI cJ cB cP U ∧ va_P D vwCl (wOf cI cJ cB cP z b S M) U.heap ∧ LOK z Ls S ∧ SR Ls.1 xs M ∧ va_X b Ls.1 xs U U.heap ∧ b < z ∧ z ≤ U.heap.size ∧ (Ls.1 ≤ 2560 ∧ Ls.2.1 < U.heap.size ∧ Ls.2.2 < U.heap.size)
theorem SWd.same {D : va_G} {cI cJ cB cP : ClassId} {z b : Nat} {Ls : Nat × Nat × Nat} {xs : Nat → Int32} {S : List Cel} {M : Mem} {u U : State} (hv : u.vm = U.vm) (hh : u.heap = U.heap) (h : SWd D cI cJ cB cP z b Ls xs S M u) : SWd D cI cJ cB cP z b Ls xs S M U := by
  obtain ⟨h1, h2, h3, h4, h5, h6, h7, h8⟩ := h
  exact ⟨h1.same hv, by rw [← hh]; exact h2, h3, h4, by rw [← hh]; exact h5.moved (by rw [hv]; exact Vm.Alike.refl _), h6, by rw [← hh]; exact h7, h8.1, by rw [← hh]; exact h8.2⟩
theorem wOf_at {cI cJ cB cP : ClassId} {z b : Nat} {S : List Cel} {M : Mem} {x : Nat} {c : Cel} (h : S[x]? = some c) : (wOf cI cJ cB cP z b S M)[x]? = some (z + x, ent cI cJ cB cP z b (x : Int) c M) := by
  have hx : x < S.length := (List.getElem?_eq_some_iff.mp h).1
  simp [wOf, List.getElem?_map, List.getElem?_range hx, h]
theorem wOf_len {cI cJ cB cP : ClassId} {z b : Nat} {S : List Cel} {M : Mem} : (wOf cI cJ cB cP z b S M).length = S.length := by simp [wOf]
theorem wOf_D {cI cJ cB cP : ClassId} {z b : Nat} {Ls : Nat × Nat × Nat} {S : List Cel} {M : Mem} (hO : HOk z S Ls) : va_D (Fz z Ls) (wOf cI cJ cB cP z b S M) := by
  have key : ∀ (i : Nat) (p : Nat × va_E), (wOf cI cJ cB cP z b S M)[i]? = some p → p.1 = z + i := by
    intro i p h
    have hi : i < S.length := by
      have := (List.getElem?_eq_some_iff.mp h).1
      rwa [wOf_len] at this
    simp [wOf, List.getElem?_map, List.getElem?_range hi] at h
    rw [← h]
  refine ⟨fun i j p q hi hj he => ?_, fun k q h => ?_⟩
  · have h1 := key i p hi
    have h2 := key j q hj
    omega
  · have h1 := key k q h
    have hk : k < S.length := by
      have := (List.getElem?_eq_some_iff.mp h).1
      rwa [wOf_len] at this
    unfold HOk at hO
    refine ⟨by omega, by omega, by omega⟩
/-- one cell is written -/
theorem wOf_set {cI cJ cB cP : ClassId} {z b : Nat} {S S' : List Cel} {M M' : Mem} {x : Nat} {c' : Cel} (hl : S'.length = S.length) (hx : x < S.length) (hc : S'[x]? = some c') (ho : ∀ y, y ≠ x → S'[y]? = S[y]?)
    (hM : ∀ (y : Nat) (c : Cel), y ≠ x → S[y]? = some c → ent cI cJ cB cP z b (y : Int) c M' = ent cI cJ cB cP z b (y : Int) c M) :
    (wOf cI cJ cB cP z b S M).set x (z + x, ent cI cJ cB cP z b (x : Int) c' M') = wOf cI cJ cB cP z b S' M' := by
  apply List.ext_getElem?
  intro y
  by_cases hy : y = x
  · subst hy
    rw [List.getElem?_set_self (by rw [wOf_len]; exact hx), wOf_at hc]
  · rw [List.getElem?_set_ne (Ne.symm hy)]
    by_cases hlt : y < S.length
    · have h1 : S[y]? = some S[y] := List.getElem?_eq_getElem hlt
      rw [wOf_at h1, wOf_at ((ho y hy).trans h1), hM y _ hy h1]
    · rw [List.getElem?_eq_none (by rw [wOf_len]; omega), List.getElem?_eq_none (by rw [wOf_len]; omega)]
theorem up_ne {M : Mem} {a k v x y : Int} (h : x ≠ a) : up M a k v x y = M x y := by simp [up, h]
theorem up_eq {M : Mem} {a k v : Int} : up M a k v a k = v := by simp [up]
theorem up_ne2 {M : Mem} {a k v y : Int} (h : y ≠ k) : up M a k v a y = M a y := by simp [up, h]
theorem ent_congr {cI cJ cB cP : ClassId} {z b : Nat} {x : Int} {c : Cel} {M M' : Mem} (h : M' x = M x) : ent cI cJ cB cP z b x c M' = ent cI cJ cB cP z b x c M := by
  unfold ent fvals fv
  simp only [h]
theorem up_row {M : Mem} {a k v x : Int} (h : x ≠ a) : up M a k v x = M x := by funext y; exact up_ne h
theorem SR_up {Ls : Nat} {xs : Nat → Int32} {M : Mem} (h : SR Ls xs M) {a k v : Int} (ha : 0 ≤ a) : SR Ls xs (up M a k v) := by
  have e : up M a k v (-2) = M (-2) := up_row (by omega)
  exact ⟨by rw [e]; exact h.1, fun j hj => by rw [e]; exact h.2 j hj⟩
/-- locals -/
def LocRep (z b n : Nat) (L : List AV) (ls : Array Slot) : Prop := L.length = n ∧ ls.size = n ∧ lv_wf ls ∧ ∀ (k : Nat) (v : AV), L[k]? = some v → v.1 ≤ 2 → ls[k]? = some (.val (cv z b v))
def lvl (z b : Nat) (L : List AV) : List (Nat × Value) := (List.range L.length).filterMap fun k => if (L.getD k (3, 0)).1 ≤ 2 then some (k, cv z b (L.getD k (3, 0))) else none
theorem lvl_mem {z b : Nat} {L : List AV} {q : Nat × Value} : q ∈ lvl z b L ↔ ∃ v, L[q.1]? = some v ∧ v.1 ≤ 2 ∧ q.2 = cv z b v := by
  unfold lvl
  rw [List.mem_filterMap]
  constructor
  · rintro ⟨k, hk, h⟩
    have hk' := List.mem_range.mp hk
    have e : L[k]? = some (L.getD k (3, 0)) := by simp [List.getD, List.getElem?_eq_getElem hk']
    split at h
    · rename_i hc
      cases h
      exact ⟨_, e, hc, rfl⟩
    · cases h
  · rintro ⟨v, h1, h2, h3⟩
    have hk := (List.getElem?_eq_some_iff.mp h1).1
    refine ⟨q.1, List.mem_range.mpr hk, ?_⟩
    have e : L.getD q.1 (3, 0) = v := by simp [List.getD, h1]
    rw [e, if_pos h2, ← h3]
theorem LocRep.has {z b n : Nat} {L : List AV} {ls : Array Slot} (h : LocRep z b n L ls) : lv_has ls n (lvl z b L) := by
  refine ⟨h.2.1, h.2.2.1, fun q hq => ?_⟩
  obtain ⟨v, h1, h2, h3⟩ := lvl_mem.mp hq
  rw [h3]
  exact h.2.2.2 _ _ h1 h2
theorem LocRep.st1 {z b n k : Nat} {L : List AV} {ls ls' : Array Slot} {v : AV} (h : LocRep z b n L ls) (hk : k < L.length) (hp : k = 0 ∨ (L.getD (k - 1) (3, 0)).1 ≠ 2)
    (h' : lv_has ls' n ((k, cv z b v) :: (lvl z b L).filter (fun q => !(q.1 == k) && !(q.1 + 1 == k && q.2.category == 2)))) : LocRep z b n (L.set k v) ls' := by
  refine ⟨by rw [List.length_set]; exact h.1, h'.1, h'.2.1, fun j w hj hw => ?_⟩
  by_cases e : j = k
  · subst e
    rw [List.getElem?_set_self hk] at hj
    cases hj
    exact h'.2.2 _ List.mem_cons_self
  · rw [List.getElem?_set_ne (Ne.symm e)] at hj
    refine h'.2.2 (j, cv z b w) (List.mem_cons_of_mem _ (List.mem_filter.mpr ⟨lvl_mem.mpr ⟨w, hj, hw, rfl⟩, ?_⟩))
    have e2 : ¬ (j + 1 = k ∧ (cv z b w).category = 2) := by
      rintro ⟨a1, a2⟩
      rw [cv_cat] at a2
      have a3 : w.1 = 2 := by
        by_cases q : w.1 = 2
        · exact q
        · rw [if_neg q] at a2; cases a2
      rcases hp with hp | hp
      · omega
      · apply hp
        have : k - 1 = j := by omega
        rw [this]
        simp [List.getD, hj, a3]
    simp only [Bool.and_eq_true, Bool.not_eq_true', beq_eq_false_iff_ne, ne_eq, Bool.and_eq_false_iff]
    refine ⟨e, ?_⟩
    by_cases a1 : j + 1 = k
    · exact Or.inr fun a2 => e2 ⟨a1, a2⟩
    · exact Or.inl a1
theorem LocRep.st2 {z b n k : Nat} {L : List AV} {ls ls' : Array Slot} {v : AV} (h : LocRep z b n L ls) (hk : k + 1 < L.length) (hp : k = 0 ∨ (L.getD (k - 1) (3, 0)).1 ≠ 2)
    (h' : lv_has ls' n ((k, cv z b v) :: (lvl z b L).filter (fun q => !(q.1 == k) && (!(q.1 == k + 1) && !(q.1 + 1 == k && q.2.category == 2))))) : LocRep z b n ((L.set k v).set (k + 1) (3, 0)) ls' := by
  refine ⟨by rw [List.length_set, List.length_set]; exact h.1, h'.1, h'.2.1, fun j w hj hw => ?_⟩
  by_cases e1 : j = k + 1
  · subst e1
    rw [List.getElem?_set_self (by rw [List.length_set]; exact hk)] at hj
    cases hj
    simp at hw
  rw [List.getElem?_set_ne (Ne.symm e1)] at hj
  by_cases e : j = k
  · subst e
    rw [List.getElem?_set_self (by omega)] at hj
    cases hj
    exact h'.2.2 _ List.mem_cons_self
  · rw [List.getElem?_set_ne (Ne.symm e)] at hj
    refine h'.2.2 (j, cv z b w) (List.mem_cons_of_mem _ (List.mem_filter.mpr ⟨lvl_mem.mpr ⟨w, hj, hw, rfl⟩, ?_⟩))
    have e2 : ¬ (j + 1 = k ∧ (cv z b w).category = 2) := by
      rintro ⟨a1, a2⟩
      rw [cv_cat] at a2
      have a3 : w.1 = 2 := by
        by_cases q : w.1 = 2
        · exact q
        · rw [if_neg q] at a2; cases a2
      rcases hp with hp | hp
      · omega
      · apply hp
        have : k - 1 = j := by omega
        rw [this]
        simp [List.getD, hj, a3]
    simp only [Bool.and_eq_true, Bool.not_eq_true', beq_eq_false_iff_ne, ne_eq, Bool.and_eq_false_iff]
    refine ⟨e, e1, ?_⟩
    by_cases a1 : j + 1 = k
    · exact Or.inr fun a2 => e2 ⟨a1, a2⟩
    · exact Or.inl a1
