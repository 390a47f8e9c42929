/-! what is known of polynomials, more of it -/
theorem mono_bd {k : Nat} (c : El k) (j : Nat) : Bd (mono c j) (j + 1) := fun i hi => by show (if i = j then c else z0) = z0; rw [if_neg (by omega)]
theorem dg_lt17 {k : Nat} {f : Pl k} (h : Bd f 17) : -1 ≤ dg f ∧ dg f ≤ 16 := ⟨dg_ge f, by have := dg_lt h (by decide); omega⟩
def bc1 (x : Nat) : Nat := x - ((x >>> 1) &&& 1431655765)
def bc2 (x : Nat) : Nat := (bc1 x &&& 858993459) + ((bc1 x >>> 2) &&& 858993459)
def bc3 (x : Nat) : Nat := (bc2 x + (bc2 x >>> 4)) &&& 252645135
def bc4 (x : Nat) : Nat := bc3 x + (bc3 x >>> 8)
def bc5 (x : Nat) : Nat := (bc4 x + (bc4 x >>> 16)) &&& 63
theorem nx_andI (a b : Nat) : nI a &&& nI b = nI (a &&& b) := by
  apply Int32.toBitVec_inj.1
  show BitVec.ofNat 32 a &&& BitVec.ofNat 32 b = BitVec.ofNat 32 (a &&& b)
  apply BitVec.eq_of_getLsbD_eq
  intro i hi
  simp [hi]
theorem i32_n16 {n : Nat} (h : n < 65536) : i32 (n : Int) = nI n := by
  rw [i32_small (by omega) (by omega), Int.toNat_natCast]
theorem iw_and {a : Nat} (ha : a < 65536) {z : Int} {c : Nat} (hz : i32 z = nI c) : i32 (a : Int) &&& i32 z = i32 ((a &&& c : Nat) : Int) := by
  rw [i32_n16 ha, hz, nx_andI, ← i32_n16]
  have := Nat.and_le_left (n := a) (m := c)
  omega
theorem iw_ush {a s : Nat} (ha : a < 65536) (hs : s < 32) {z : Int} (hz : i32 z = nI s) : ((i32 (a : Int)).toUInt32 >>> ((i32 z).toUInt32 &&& Int32.toUInt32 31)).toInt32 = i32 ((a >>> s : Nat) : Int) := by
  have hle : a >>> s ≤ a := by rw [Nat.shiftRight_eq_div_pow]; exact Nat.div_le_self _ _
  have hc : ∀ j : Fin 32, (UInt32.ofNat j.val &&& Int32.toUInt32 31).toNat % 32 = j.val := by decide +kernel
  have e2 : UInt32.ofNat a >>> (UInt32.ofNat s &&& Int32.toUInt32 31) = UInt32.ofNat (a >>> s) := by
    apply UInt32.toNat_inj.1
    have h1 : (UInt32.ofNat a).toNat = a := Nat.mod_eq_of_lt (by omega)
    have h2 : (UInt32.ofNat (a >>> s)).toNat = a >>> s := Nat.mod_eq_of_lt (by omega)
    rw [UInt32.toNat_shiftRight, hc ⟨s, hs⟩, h1, h2]
  rw [i32_n16 ha, hz, i32_n16 (by omega)]
  show (UInt32.ofNat a >>> (UInt32.ofNat s &&& Int32.toUInt32 31)).toInt32 = _
  rw [e2]
  rfl
theorem shr_le (a s : Nat) : a >>> s ≤ a := by rw [Nat.shiftRight_eq_div_pow]; exact Nat.div_le_self _ _
theorem m33 {n : Nat} (h : n < 65536) : n &&& 858993459 ≤ 13107 := by
  have e : n &&& 858993459 = n &&& 13107 := by
    apply Nat.eq_of_testBit_eq
    intro i
    rw [Nat.testBit_and, Nat.testBit_and]
    by_cases c : i < 16
    · have h3 : ∀ i : Fin 16, Nat.testBit 858993459 i.val = Nat.testBit 13107 i.val := by decide
      rw [h3 ⟨i, c⟩]
    · rw [Nat.testBit_lt_two_pow (Nat.lt_of_lt_of_le h (Nat.pow_le_pow_right (by decide) (show 16 ≤ i by omega) : 2 ^ 16 ≤ 2 ^ i)), Bool.false_and, Bool.false_and]
  rw [e]; exact Nat.and_le_right
theorem m0f {n : Nat} (h : n < 65536) : n &&& 252645135 ≤ 3855 := by
  have e : n &&& 252645135 = n &&& 3855 := by
    apply Nat.eq_of_testBit_eq
    intro i
    rw [Nat.testBit_and, Nat.testBit_and]
    by_cases c : i < 16
    · have h3 : ∀ i : Fin 16, Nat.testBit 252645135 i.val = Nat.testBit 3855 i.val := by decide
      rw [h3 ⟨i, c⟩]
    · rw [Nat.testBit_lt_two_pow (Nat.lt_of_lt_of_le h (Nat.pow_le_pow_right (by decide) (show 16 ≤ i by omega) : 2 ^ 16 ≤ 2 ^ i)), Bool.false_and, Bool.false_and]
  rw [e]; exact Nat.and_le_right
theorem iw_add (a b : Nat) : i32 (a : Int) + i32 (b : Int) = i32 ((a + b : Nat) : Int) := by
  unfold i32
  rw [← Int32.ofInt_add]
  rfl
theorem iw_sub {a b : Nat} (h : b ≤ a) : i32 (a : Int) - i32 (b : Int) = i32 ((a - b : Nat) : Int) := by
  unfold i32
  rw [← Int32.ofInt_sub]
  congr 1
  omega
theorem bcw_pc {n : Nat} (h : n < 65536) : bcw (n : Int) = (bc5 n : Int) := by
  have s1 : n >>> 1 &&& 1431655765 ≤ n := Nat.le_trans Nat.and_le_left (shr_le _ _)
  have l1 : bc1 n < 65536 := by unfold bc1; omega
  have d1 := shr_le n 1
  have d2 := shr_le (bc1 n) 2
  have s2 := m33 l1
  have s3 := m33 (show bc1 n >>> 2 < 65536 by omega)
  have m2 : bc2 n ≤ 26214 := by unfold bc2; omega
  have d3 := shr_le (bc2 n) 4
  have s4 : bc3 n ≤ 3855 := m0f (n := bc2 n + bc2 n >>> 4) (by omega)
  have d5 := shr_le (bc3 n) 8
  have m4 : bc4 n ≤ 7710 := by unfold bc4; omega
  have d6 := shr_le (bc4 n) 16
  unfold bcw
  simp only [i32_i]
  rw [iw_ush h (s := 1) (by decide) (by decide), iw_and (c := 1431655765) (show n >>> 1 < 65536 by omega) (by decide), iw_sub s1, show n - (n >>> 1 &&& 1431655765) = bc1 n from rfl,
    iw_and (c := 858993459) l1 (by decide), iw_ush l1 (s := 2) (by decide) (by decide), iw_and (c := 858993459) (show bc1 n >>> 2 < 65536 by omega) (by decide), iw_add, show (bc1 n &&& 858993459) + (bc1 n >>> 2 &&& 858993459) = bc2 n from rfl,
    iw_ush (show bc2 n < 65536 by omega) (s := 4) (by decide) (by decide), iw_add, iw_and (c := 252645135) (show bc2 n + bc2 n >>> 4 < 65536 by omega) (by decide), show bc2 n + bc2 n >>> 4 &&& 252645135 = bc3 n from rfl,
    iw_ush (show bc3 n < 65536 by omega) (s := 8) (by decide) (by decide), iw_add, show bc3 n + bc3 n >>> 8 = bc4 n from rfl,
    iw_ush (show bc4 n < 65536 by omega) (s := 16) (by decide) (by decide), iw_add, iw_and (c := 63) (show bc4 n + bc4 n >>> 16 < 65536 by omega) (by decide)]
  show (i32 ((bc5 n : Nat) : Int)).toInt = ((bc5 n : Nat) : Int)
  exact i32_in (by omega) (by
    have : bc5 n ≤ bc4 n + bc4 n >>> 16 := Nat.and_le_left
    omega)
/-- sets of numbers */ -/
def b16 (x : Int) : Prop := 0 ≤ x ∧ x < 65536
theorem b16.N {x : Int} (h : b16 x) : ∃ n : Nat, n < 65536 ∧ x = (n : Int) := ⟨x.toNat, by have := h.1; have := h.2; omega, by have := h.1; omega⟩
theorem nx_orI (a b : Nat) : nI a ||| nI b = nI (a ||| b) := by
  apply Int32.toBitVec_inj.1
  show BitVec.ofNat 32 a ||| BitVec.ofNat 32 b = BitVec.ofNat 32 (a ||| b)
  apply BitVec.eq_of_getLsbD_eq
  intro i hi
  simp [hi]
theorem sh1_N : ∀ v : Fin 16, i32 (i32 1 <<< (i32 (v.val : Int) &&& 31)).toInt = nI (2 ^ v.val) := by decide +kernel
theorem b16.set {x v : Int} (hx : b16 x) (h0 : 0 ≤ v) (h1 : v ≤ 15) : b16 (bset x v) := by
  obtain ⟨n, hn, e⟩ := hx.N
  have h2 : i32 (i32 1 <<< (i32 v &&& 31)).toInt = nI (2 ^ v.toNat) := by
    have h2 := sh1_N ⟨v.toNat, by omega⟩
    rw [show ((⟨v.toNat, by omega⟩ : Fin 16).val : Int) = v by show ((v.toNat : Nat) : Int) = v; omega] at h2
    exact h2
  have h3 : 2 ^ v.toNat < 65536 := Nat.pow_lt_pow_right (by decide) (show v.toNat < 16 by omega)
  have h : n ||| 2 ^ v.toNat < 65536 := Nat.or_lt_two_pow (n := 16) hn h3
  unfold bset
  rw [h2, e, i32_n16 hn, nx_orI, nI_int (by omega)]
  exact ⟨by omega, by omega⟩
theorem b16.z : b16 0 := ⟨by decide, by decide⟩
theorem rts_16 {k : Nat} (f : Pl k) : ∀ n : Nat, n ≤ 16 → b16 (rts f n)
  | 0, _ => b16.z
  | n + 1, h => by
    unfold rts
    split
    · exact (rts_16 f n (by omega)).set (by omega) (by omega)
    · exact rts_16 f n (by omega)
theorem dnT_16 {k : Nat} (f : Pl k) (v : El k) : ∀ n : Nat, n ≤ 16 → b16 (dnT f v n)
  | 0, _ => b16.z
  | n + 1, h => by
    unfold dnT
    split
    · exact (dnT_16 f v n (by omega)).set (by omega) (by omega)
    · exact dnT_16 f v n (by omega)
theorem img_16 {k : Nat} (f : Pl k) : ∀ n : Nat, b16 (img f n)
  | 0 => b16.z
  | n + 1 => (img_16 f n).set (el_I _).1 (el_I _).2
def unq (k s : Nat) : Nat := qq k ^ s
/-- below degree n, of number c -/
def bnp {k : Nat} (n c : Nat) : Pl k := fun j => if j < n then el k (dgn (qq k) c j) else z0
/-- the monic one of degree n, of number c -/
def mnp {k : Nat} (n c : Nat) : Pl k := up1 (bnp n c) n e1
theorem bnp_bd {k n c : Nat} : Bd (bnp (k := k) n c) n := fun j hj => if_neg (by omega)
theorem mnp_bd {k n c : Nat} : Bd (mnp (k := k) n c) (n + 1) := fun j hj => by
  unfold mnp up1
  rw [if_neg (by omega)]
  exact bnp_bd j (by omega)
theorem mnp_is {k n c : Nat} : IsDg (mnp (k := k) n c) (n : Int) := ⟨by omega, fun j hj => mnp_bd j (by omega), fun _ => by
  show (if ((n : Int)).toNat = n then e1 else _) ≠ z0
  rw [if_pos (by omega)]
  exact e1_ne⟩
theorem mnp_dg {k n c : Nat} (h : n ≤ 60) : dg (mnp (k := k) n c) = (n : Int) := dg_eq (mnp_bd.mono (by omega)) mnp_is
theorem dgq_lt (k n r : Nat) : dgn (qq k) n r < qq k := Nat.mod_lt _ (by have := qq_ge k; omega)
/-- no monic right divisor of less degree, but 1 -/
def prM {k : Nat} (f : Pl k) : Prop := 0 < dg f ∧ ∀ a c : Nat, 1 ≤ a → (a : Int) < dg f → c < unq k a → dr 0 f (mnp a c) ≠ pz
/-- U of number c: B divides A U, and only units divide U and B -/
def wyP {k : Nat} (A B : Pl k) (n c : Nat) : Prop := dr 0 (mlp A (bnp n c)) B = pz ∧ dg (euL 0 (bnp n c) B).1 = 0
noncomputable def fwN {k : Nat} (A B : Pl k) (n : Nat) : Nat := fsN (fun c => wyP A B n (c + 1)) (unq k n - 1)
noncomputable def fwI {k : Nat} (A B : Pl k) (n : Nat) : Int := if fwN A B n < unq k n - 1 then (fwN A B n : Int) + 1 else -1
theorem fwI_at {k : Nat} {A B : Pl k} {n c : Nat} (h1 : 1 ≤ c) (h2 : c < unq k n) (h : ∀ a : Nat, 1 ≤ a → a < c → ¬ wyP A B n a) (hc : wyP A B n c) : fwI A B n = (c : Int) := by
  have e := fsN_at (q := fun c => wyP A B n (c + 1)) (j := c - 1) (fun i hi => h (i + 1) (by omega) (by omega)) (by show wyP A B n (c - 1 + 1); rw [show c - 1 + 1 = c by omega]; exact hc) (n := unq k n - 1) (by omega)
  have e2 : fwN A B n = c - 1 := e
  unfold fwI
  rw [e2, if_pos (by omega)]
  omega
theorem fwI_none {k : Nat} {A B : Pl k} {n : Nat} (h : ∀ a : Nat, 1 ≤ a → a < unq k n → ¬ wyP A B n a) : fwI A B n = -1 := by
  have e := fsN_none (q := fun c => wyP A B n (c + 1)) (n := unq k n - 1) (fun i hi => h (i + 1) (by omega) (by omega))
  have e2 : fwN A B n = unq k n - 1 := e
  unfold fwI
  rw [e2, if_neg (by omega)]
/-- the number of the first d of g -/
def cdp {k : Nat} (g : Pl k) : Nat → Nat
  | 0 => 0
  | d + 1 => cdp g d + (g d).val * unq k d
theorem unq_s (k n : Nat) : unq k (n + 1) = unq k n * qq k := by unfold unq; rw [Nat.pow_succ]
theorem unq_pos (k n : Nat) : 0 < unq k n := Nat.pow_pos (qq_pos k)
theorem cdp_lt {k : Nat} (g : Pl k) : ∀ d : Nat, cdp g d < unq k d
  | 0 => unq_pos k 0
  | d + 1 => by
    have h := cdp_lt g d
    have h2 := (g d).isLt
    have h3 : ((g d).val + 1) * unq k d ≤ qq k * unq k d := Nat.mul_le_mul_right _ h2
    rw [Nat.add_mul, Nat.one_mul] at h3
    rw [unq_s, Nat.mul_comm]
    show cdp g d + _ < _
    omega
theorem cdp_dig {k : Nat} (g : Pl k) : ∀ d j : Nat, j < d → dgn (qq k) (cdp g d) j = (g j).val
  | 0, j, h => by omega
  | d + 1, j, h => by
    have hq := qq_pos k
    by_cases e : j = d
    · subst e
      have h1 := cdp_lt g j
      show (cdp g j + (g j).val * unq k j) / unq k j % qq k = _
      rw [Nat.add_mul_div_right _ _ (unq_pos k j), Nat.div_eq_of_lt h1, Nat.zero_add]
      exact Nat.mod_eq_of_lt (g j).isLt
    · have ih := cdp_dig g d j (by omega)
      rw [← ih]
      have e2 : (g d).val * unq k d = ((g d).val * unq k (d - j - 1) * qq k) * unq k j := by
        unfold unq
        rw [Nat.mul_assoc, Nat.mul_assoc, ← Nat.pow_succ', ← Nat.pow_add, show d - j - 1 + (j + 1) = d by omega]
      show (cdp g d + (g d).val * unq k d) / unq k j % qq k = cdp g d / unq k j % qq k
      rw [e2, Nat.add_mul_div_right _ _ (unq_pos k j), Nat.add_mul_mod_self_right]
theorem cdp_congr {k : Nat} {f g : Pl k} : ∀ {d : Nat}, (∀ j : Nat, j < d → f j = g j) → cdp f d = cdp g d
  | 0, _ => rfl
  | d + 1, h => by
    show cdp f d + (f d).val * _ = cdp g d + (g d).val * _
    rw [cdp_congr (fun j hj => h j (by omega)), h d (by omega)]
theorem cdp_mod {k : Nat} (n c : Nat) : ∀ d : Nat, d ≤ n → cdp (bnp (k := k) n c) d = c % unq k d
  | 0, _ => by show 0 = c % qq k ^ 0; rw [Nat.pow_zero, Nat.mod_one]
  | d + 1, h => by
    have e : (bnp (k := k) n c d).val = dgn (qq k) c d := by
      show (if d < n then el k (dgn (qq k) c d) else z0).val = _
      rw [if_pos (by omega)]
      exact Nat.mod_eq_of_lt (dgq_lt k c d)
    show cdp (bnp (k := k) n c) d + (bnp (k := k) n c d).val * unq k d = c % qq k ^ (d + 1)
    rw [cdp_mod n c d (by omega), e, Nat.mod_pow_succ, Nat.mul_comm]
    rfl
theorem cdp_bnp {k d c : Nat} (h : c < unq k d) : cdp (bnp (k := k) d c) d = c := by rw [cdp_mod d c d (Nat.le_refl _), Nat.mod_eq_of_lt h]
theorem cdp_mnp {k d c : Nat} (h : c < unq k d) : cdp (mnp (k := k) d c) d = c := by
  refine (cdp_congr (fun j hj => ?_)).trans (cdp_bnp h)
  show (if j = d then e1 else bnp d c j) = _
  rw [if_neg (by omega)]
theorem bnp_cdp {k d : Nat} {g : Pl k} (h : Bd g d) : g = bnp d (cdp g d) := by
  funext j
  show g j = if j < d then el k (dgn (qq k) (cdp g d) j) else z0
  by_cases e : j < d
  · rw [if_pos e, cdp_dig g d j e, el_val]
  · rw [if_neg e, h j (by omega)]
theorem mnp_cdp {k d : Nat} {g : Pl k} (h : Mn g d) : g = mnp d (cdp g d) := by
  funext j
  show g j = if j = d then e1 else if j < d then el k (dgn (qq k) (cdp g d) j) else z0
  by_cases e : j = d
  · rw [if_pos e, e, h.2]
  · rw [if_neg e]
    by_cases e2 : j < d
    · rw [if_pos e2, cdp_dig g d j e2, el_val]
    · rw [if_neg e2]; exact h.1.2.1 j (by omega)
theorem mnp_mn {k d c : Nat} : Mn (mnp (k := k) d c) d := ⟨mnp_is, if_pos rfl⟩
theorem mnp_inj {k d a b : Nat} (ha : a < unq k d) (hb : b < unq k d) (h : mnp (k := k) d a = mnp d b) : a = b := by rw [← cdp_mnp (k := k) ha, ← cdp_mnp (k := k) hb, h]
theorem sI_zero {f : Nat → Int} : ∀ {n : Nat}, (∀ i : Nat, i < n → f i = 0) → sI f n = 0
  | 0, _ => rfl
  | n + 1, h => by
    show sI f n + f n = 0
    rw [sI_zero (fun i hi => h i (by omega)), h n (by omega)]
    rfl
theorem sI_out {F : Nat → Int} {c0 : Nat} : ∀ {b : Nat}, c0 < b → sI F b = sI (fun c => if c = c0 then 0 else F c) b + F c0
  | 0, h => by omega
  | b + 1, h => by
    show sI F b + F b = sI (fun c => if c = c0 then 0 else F c) b + (if b = c0 then 0 else F b) + F c0
    by_cases e : b = c0
    · rw [if_pos e, ← e]
      have e2 : sI (fun c => if c = b then 0 else F c) b = sI F b := sI_congr (fun i hi => if_neg (by omega))
      rw [e2]
      omega
    · rw [if_neg e, sI_out (F := F) (show c0 < b by omega)]
      omega
/-- sums over what stands for one another -/
theorem sI_bij {f : Nat → Nat} {b : Nat} : ∀ {a : Nat} {P Q : Nat → Prop} {F G : Nat → Int}, (∀ i : Nat, i < a → ¬ P i → F i = 0) → (∀ c : Nat, c < b → ¬ Q c → G c = 0) → (∀ i : Nat, i < a → P i → f i < b ∧ Q (f i) ∧ G (f i) = F i) → (∀ i j : Nat, i < a → j < a → P i → P j → f i = f j → i = j) → (∀ c : Nat, c < b → Q c → ∃ i : Nat, i < a ∧ P i ∧ f i = c) → sI F a = sI G b
  | 0, P, Q, F, G, _, h2, _, _, h5 => by
    refine (sI_zero (f := G) (n := b) (fun c hc => h2 c hc (fun q => ?_))).symm
    obtain ⟨i, hi, _⟩ := h5 c hc q
    omega
  | a + 1, P, Q, F, G, h1, h2, h3, h4, h5 => by
    show sI F a + F a = _
    by_cases p : P a
    · obtain ⟨g1, g2, g3⟩ := h3 a (by omega) p
      rw [sI_out (F := G) g1, g3]
      have ih := sI_bij (f := f) (b := b) (a := a) (P := P) (Q := fun c => Q c ∧ c ≠ f a) (F := F) (G := fun c => if c = f a then 0 else G c) (fun i hi => h1 i (by omega)) (fun c hc q => by
        show (if c = f a then 0 else G c) = 0
        by_cases e : c = f a
        · rw [if_pos e]
        · rw [if_neg e]; exact h2 c hc (fun q2 => q ⟨q2, e⟩)) (fun i hi pi => by
        obtain ⟨k1, k2, k3⟩ := h3 i (by omega) pi
        have e : f i ≠ f a := fun q => by have := h4 i a (by omega) (by omega) pi p q; omega
        refine ⟨k1, ⟨k2, e⟩, ?_⟩
        show (if f i = f a then 0 else G (f i)) = _
        rw [if_neg e]
        exact k3) (fun i j hi hj => h4 i j (by omega) (by omega)) (fun c hc q => by
        obtain ⟨i, hi, pi, e⟩ := h5 c hc q.1
        refine ⟨i, ?_, pi, e⟩
        by_cases e2 : i = a
        · subst e2; exact absurd e.symm q.2
        · omega)
      rw [ih]
    · rw [h1 a (by omega) p]
      have ih := sI_bij (f := f) (b := b) (a := a) (P := P) (Q := Q) (F := F) (G := G) (fun i hi => h1 i (by omega)) h2 (fun i hi => h3 i (by omega)) (fun i j hi hj => h4 i j (by omega) (by omega)) (fun c hc q => by
        obtain ⟨i, hi, pi, e⟩ := h5 c hc q
        refine ⟨i, ?_, pi, e⟩
        by_cases e2 : i = a
        · subst e2; exact absurd pi p
        · omega)
      rw [ih]
      omega
theorem mc_mnp {k d i : Nat} (h1 : 1 ≤ d) (h2 : d ≤ 2) : mc (k := k) d i = mnp d i := by
  have z : ∀ n : Nat, el k (n % qq k) = el k n := fun n => Fin.ext (Nat.mod_mod _ _)
  funext j
  rcases (show d = 1 ∨ d = 2 by omega) with e | e
  · subst e
    show (if j = 0 then el k (i % qq k) else if j = 1 then e1 else z0) = (if j = 1 then e1 else if j < 1 then el k (i / qq k ^ j % qq k) else z0)
    by_cases c : j = 0
    · rw [if_pos c, if_neg (by omega), if_pos (by omega), c, Nat.pow_zero, Nat.div_one]
    · rw [if_neg c]
      by_cases c1 : j = 1
      · rw [if_pos c1, if_pos c1]
      · rw [if_neg c1, if_neg c1, if_neg (by omega)]
  · subst e
    show (if j = 1 then el k (i / qq k) else if j = 0 then el k (i % qq k) else if j = 2 then e1 else z0) = (if j = 2 then e1 else if j < 2 then el k (i / qq k ^ j % qq k) else z0)
    by_cases c1 : j = 1
    · rw [if_pos c1, if_neg (by omega), if_pos (by omega), c1, Nat.pow_one, z]
    · rw [if_neg c1]
      by_cases c : j = 0
      · rw [if_pos c, if_neg (by omega), if_pos (by omega), c, Nat.pow_zero, Nat.div_one]
      · rw [if_neg c]
        by_cases c2 : j = 2
        · rw [if_pos c2, if_pos c2]
        · rw [if_neg c2, if_neg c2, if_neg (by omega)]
theorem trI_top {k : Nat} {n : Nat} (h : 1 ≤ n) : trI k (n : Int) (n : Int) = 1 := by
  unfold trI
  rw [if_neg (by omega), if_pos rfl]
theorem trI_low {k n d : Nat} (h1 : 1 ≤ d) (h : d = 1 ∨ d + 1 = n) (h2 : d < n) : trI k (n : Int) (d : Int) = (qq k : Int) := by
  unfold trI
  rw [if_neg (by omega), if_neg (by omega), if_pos (by omega)]
theorem trI_mid {k n d : Nat} (h1 : 1 < d) (h : d + 1 < n) : trI k (n : Int) (d : Int) = ((qq k * qq k : Nat) : Int) := by
  unfold trI
  rw [if_neg (by omega), if_neg (by omega), if_neg (by omega), Int.natCast_mul]
/-- a monic right divisor: what it leaves -/
theorem mdq {k n d : Nat} {x g : Pl k} (hx : IsDg x (n : Int)) (hb : Bd x 17) (hg : Mn g d) (h : dr 0 x g = pz) : x = mlp (dq 0 x g) g ∧ d ≤ n ∧ IsDg (dq 0 x g) ((n - d : Nat) : Int) ∧ dq 0 x g (n - d) = x n := by
  obtain ⟨⟨m, hm⟩, e, _⟩ := dv_is 0 hg.1 hb
  rw [h, adp_pz] at e
  have e' : x = mlp (dq 0 x g) g := e
  obtain ⟨h1, h2, h3⟩ := dg_quot hx hg.1 hm e'
  refine ⟨e', h1, h2, ?_⟩
  rw [h3, hg.2, sg_e, ml_one]
theorem mdv {k n d m : Nat} {x q g : Pl k} (hg : IsDg g (d : Int)) (hq : Bd q m) (e : x = mlp q g) : dq 0 x g = q ∧ dr 0 x g = pz := dv_eq (s := 0) (r := pz) ⟨⟨m, hq⟩, by rw [adp_pz]; exact e, d, hg, fun _ _ => rfl⟩
theorem divs_hit {k n d i : Nat} {x : Pl k} (hx : IsDg x (n : Int)) (hb : Bd x 17) (h4 : n ≤ 4) (hi : (i : Int) < trI k (n : Int) (d : Int)) (h : htR x d i) : Mn (htB x d i) d ∧ dr 0 x (htB x d i) = pz ∧ dq 0 x (htB x d i) = htQ x d i := by
  obtain ⟨_, _, _, h1, h2⟩ := trI_ok hi
  have hs := hit_spec hx hb h1 (by omega) h4 h
  have hm := mdv (n := n) hs.1.1 (Bd_is hs.2.1) hs.2.2
  exact ⟨hs.1, hm.2, hm.1⟩
theorem divs_all {k n d : Nat} {x g : Pl k} (hx : IsDg x (n : Int)) (hb : Bd x 17) (h1 : 1 ≤ d) (h4 : n ≤ 4) (hg : Mn g d) (h : dr 0 x g = pz) : ∃ i : Nat, (i : Int) < trI k (n : Int) (d : Int) ∧ htR x d i ∧ htB x d i = g := by
  obtain ⟨e, hd, hq, ht⟩ := mdq hx hb hg h
  have en : dg x = (n : Int) := dg_eq17 hb hx
  have elx := ld_eq hb hx
  have ln : x n ≠ z0 := hx.tp
  by_cases c1 : d = n
  · subst c1
    refine ⟨0, by rw [trI_top h1]; decide, ?_, ?_⟩
    · unfold htR
      rw [if_pos en.symm]
      trivial
    · unfold htB
      rw [if_pos en.symm]
      have e2 : dq 0 x g = cst (x d) := by
        funext j
        show _ = if j = 0 then x d else z0
        by_cases c : j = 0
        · rw [if_pos c, c, ← ht, Nat.sub_self]
        · rw [if_neg c]; exact hq.2.1 j (by omega)
      rw [e2, cst_mlp] at e
      unfold mon
      rw [if_pos rfl, elx]
      have e3 : scl (iv (x d)) x = scl (iv (x d)) (scl (x d) g) := congrArg _ e
      rw [e3, scl_scl, ml_comm, ml_iv _ ln, scl_e1]
  · by_cases c2 : 1 < d ∧ d + 1 = n
    · refine ⟨(dq 0 x g 0).val, ?_, ?_⟩
      · rw [trI_low h1 (Or.inr c2.2) (by omega)]
        have := (dq 0 x g 0).isLt
        omega
      · have e2 : dq 0 x g = lin2 (ld x) (el k (dq 0 x g 0).val) := by
          have e3 := lin2_of (q := dq 0 x g) (fun j hj => hq.2.1 j (by omega))
          rw [show n - d = 1 by omega] at ht
          rw [ht, ← elx] at e3
          rw [el_val]
          exact e3
        have l := lin2_is (b := el k (dq 0 x g 0).val) (show ld x ≠ z0 by rw [elx]; exact ln)
        have e4 : x = mlp (lin2 (ld x) (el k (dq 0 x g 0).val)) g := by rw [← e2]; exact e
        have dv := dv_eq (s := 1) (x := x) (y := lin2 (ld x) (el k (dq 0 x g 0).val)) (q := g) (r := pz) ⟨⟨_, Bd_is hg.1⟩, by rw [adp_pz]; exact e4, 1, l.1, fun _ _ => rfl⟩
        unfold htR htB
        rw [en, if_neg (show ¬ (d : Int) = (n : Int) by omega), if_neg (show ¬ (d : Int) = (n : Int) by omega), if_pos (show 1 < d ∧ (d : Int) = (n : Int) - 1 by omega), if_pos (show 1 < d ∧ (d : Int) = (n : Int) - 1 by omega)]
        exact ⟨dv.2, dv.1⟩
    · have e2 : mc d (cdp g d) = g := by rw [mc_mnp h1 (by omega)]; exact (mnp_cdp hg).symm
      refine ⟨cdp g d, ?_, ?_⟩
      · have l := cdp_lt g d
        unfold unq at l
        rcases (show d = 1 ∨ d = 2 by omega) with q | q
        · rw [q, Nat.pow_one] at l
          rw [trI_low h1 (Or.inl q) (by omega), q]
          omega
        · rw [trI_mid (by omega) (by omega)]
          rw [q, Nat.pow_succ, Nat.pow_one] at l
          rw [q]
          omega
      · unfold htR htB
        rw [en, if_neg (show ¬ (d : Int) = (n : Int) by omega), if_neg (show ¬ (d : Int) = (n : Int) by omega), if_neg (show ¬ (1 < d ∧ (d : Int) = (n : Int) - 1) by omega), if_neg (show ¬ (1 < d ∧ (d : Int) = (n : Int) - 1) by omega), e2]
        exact ⟨h, rfl⟩
theorem divs_inj {k n d i j : Nat} {x : Pl k} (hx : IsDg x (n : Int)) (hb : Bd x 17) (h4 : n ≤ 4) (hi : (i : Int) < trI k (n : Int) (d : Int)) (hj : (j : Int) < trI k (n : Int) (d : Int)) (h : htR x d i) (h' : htR x d j) (e : htB x d i = htB x d j) : i = j := by
  obtain ⟨_, _, _, h1, h2⟩ := trI_ok hi
  have en : dg x = (n : Int) := dg_eq17 hb hx
  have a := divs_hit hx hb h4 hi h
  have b := divs_hit hx hb h4 hj h'
  by_cases c1 : d = n
  · subst c1
    rw [trI_top h1] at hi hj
    omega
  · by_cases c2 : 1 < d ∧ d + 1 = n
    · have e2 : htQ x d i = htQ x d j := by rw [← a.2.2, ← b.2.2, e]
      unfold htQ at e2
      rw [en, if_neg (show ¬ (d : Int) = (n : Int) by omega), if_neg (show ¬ (d : Int) = (n : Int) by omega), if_pos (show 1 < d ∧ (d : Int) = (n : Int) - 1 by omega), if_pos (show 1 < d ∧ (d : Int) = (n : Int) - 1 by omega)] at e2
      rw [trI_low h1 (Or.inr c2.2) (by omega)] at hi hj
      have e3 : el k i = el k j := congrFun e2 0
      have e4 : i % qq k = j % qq k := congrArg Fin.val e3
      rw [Nat.mod_eq_of_lt (by omega), Nat.mod_eq_of_lt (by omega)] at e4
      exact e4
    · unfold htB at e
      rw [en, if_neg (show ¬ (d : Int) = (n : Int) by omega), if_neg (show ¬ (d : Int) = (n : Int) by omega), if_neg (show ¬ (1 < d ∧ (d : Int) = (n : Int) - 1) by omega), if_neg (show ¬ (1 < d ∧ (d : Int) = (n : Int) - 1) by omega), mc_mnp h1 (by omega), mc_mnp h1 (by omega)] at e
      have hu : trI k (n : Int) (d : Int) = (unq k d : Int) := by
        unfold unq
        rcases (show d = 1 ∨ d = 2 by omega) with q | q
        · rw [trI_low h1 (Or.inl q) (by omega), q, Nat.pow_one]
        · rw [trI_mid (by omega) (by omega), q, Nat.pow_succ, Nat.pow_one]
      rw [hu] at hi hj
      exact mnp_inj (by omega) (by omega) e
theorem trN_eq (k : Nat) (n d : Int) : (trN k n d : Int) = trI k n d := by
  have := trI_I k n d
  unfold trN
  omega
/-- a sum over the tries is one over the numbers -/
theorem divs_sum {k n d : Nat} {x : Pl k} (hx : IsDg x (n : Int)) (hb : Bd x 17) (h1 : 1 ≤ d) (h4 : n ≤ 4) {F G : Nat → Int} (hF : ∀ i : Nat, ¬ htR x d i → F i = 0) (hG : ∀ c : Nat, ¬ dr 0 x (mnp d c) = pz → G c = 0) (hFG : ∀ i c : Nat, (i : Int) < trI k (n : Int) (d : Int) → c < unq k d → htR x d i → htB x d i = mnp d c → G c = F i) : sI F (trN k (n : Int) (d : Int)) = sI G (unq k d) := by
  have ht := trN_eq k (n : Int) (d : Int)
  have key : ∀ i : Nat, i < trN k (n : Int) (d : Int) → htR x d i → htB x d i = mnp d (cdp (htB x d i) d) := fun i hi p => mnp_cdp (divs_hit hx hb h4 (by omega) p).1
  refine sI_bij (f := fun i => cdp (htB x d i) d) (P := fun i => htR x d i) (Q := fun c => dr 0 x (mnp d c) = pz) (fun i _ p => hF i p) (fun c _ p => hG c p) (fun i hi p => ?_) (fun i j hi hj p p' e => ?_) (fun c hc q => ?_)
  · have l := cdp_lt (htB x d i) d
    refine ⟨l, ?_, hFG i _ (by omega) l p (key i hi p)⟩
    show dr 0 x (mnp d (cdp (htB x d i) d)) = pz
    rw [← key i hi p]
    exact (divs_hit hx hb h4 (by omega) p).2.1
  · have e2 : cdp (htB x d i) d = cdp (htB x d j) d := e
    exact divs_inj hx hb h4 (by omega) (by omega) p p' (by rw [key i hi p, key j hj p', e2])
  · obtain ⟨i, hi, p, e⟩ := divs_all hx hb h1 h4 mnp_mn q
    refine ⟨i, by omega, p, ?_⟩
    show cdp (htB x d i) d = c
    rw [e, cdp_mnp hc]
theorem svN_sI {k d : Nat} {x : Pl k} : ∀ m : Nat, svN x d m = sI (fun i => bz (htR x d i)) m
  | 0 => rfl
  | m + 1 => by
    show (if bz (htR x d m) = 0 then svN x d m else svN x d m + 1) = sI (fun i => bz (htR x d i)) m + bz (htR x d m)
    rw [svN_sI m]
    rcases bz_01 (htR x d m) with q | q
    · rw [if_pos q, q]; omega
    · rw [if_neg (by omega), q]
theorem svN_num {k n d : Nat} {x : Pl k} (hx : IsDg x (n : Int)) (hb : Bd x 17) (h1 : 1 ≤ d) (h4 : n ≤ 4) : svN x d (trN k (dg x) (d : Int)) = sI (fun c => bz (dr 0 x (mnp d c) = pz)) (unq k d) := by
  rw [dg_eq17 hb hx, svN_sI]
  refine divs_sum hx hb h1 h4 (fun i p => bz_neg p) (fun c p => bz_neg p) (fun i c hi hc p e => ?_)
  rw [bz_pos p, ← e]
  exact bz_pos (divs_hit hx hb h4 hi p).2.1
theorem prC_M {k n : Nat} {x : Pl k} (hx : IsDg x (n : Int)) (hb : Bd x 17) (h4 : n ≤ 4) : prC x ↔ prM x := by
  have en := dg_eq17 hb hx
  constructor
  · rintro ⟨h1, h2⟩
    refine ⟨h1, fun a c a1 a2 hc q => ?_⟩
    obtain ⟨i, hi, p, e⟩ := divs_all hx hb a1 h4 (mnp_mn (c := c)) q
    exact h2 a i a2 (by rw [en]; exact hi) p
  · rintro ⟨h1, h2⟩
    refine ⟨h1, fun d i d1 hi p => ?_⟩
    rw [en] at hi
    obtain ⟨_, _, _, h5, h6⟩ := trI_ok hi
    have hs := divs_hit hx hb h4 hi p
    refine h2 d (cdp (htB x d i) d) h5 d1 (cdp_lt _ d) ?_
    rw [← mnp_cdp hs.1]
    exact hs.2.1
theorem scl_adp3 {k : Nat} (c : El k) (f g : Pl k) : scl c (adp f g) = adp (scl c f) (scl c g) := by
  funext j
  exact ml_ad _ _ _
theorem scl_z {k : Nat} (c : El k) : scl c (pz : Pl k) = pz := by
  funext j
  exact ml_zero _
theorem scl_pz_iff {k : Nat} {c : El k} (hc : c ≠ z0) {f : Pl k} : scl c f = pz ↔ f = pz := by
  constructor
  · intro h
    have h2 : scl (iv c) (scl c f) = scl (iv c) pz := congrArg _ h
    rw [scl_scl, ml_comm, ml_iv _ hc, scl_e1, scl_z] at h2
    exact h2
  · intro h
    rw [h, scl_z]
theorem scl_dv {k d : Nat} {c : El k} {x g : Pl k} (hb : Bd x 17) (hg : IsDg g (d : Int)) : dq 0 (scl c x) g = scl c (dq 0 x g) ∧ dr 0 (scl c x) g = scl c (dr 0 x g) := by
  obtain ⟨⟨m, hm⟩, e, b, hb2, hr⟩ := dv_is 0 hg hb
  have e' : x = adp (mlp (dq 0 x g) g) (dr 0 x g) := e
  have e2 : scl c x = adp (mlp (scl c (dq 0 x g)) g) (scl c (dr 0 x g)) := by
    rw [scl_mlp, ← scl_adp3, ← e']
  exact dv_eq (s := 0) ⟨⟨m, Bd_scl c hm⟩, e2, b, hb2, Bd_scl c hr⟩
theorem mon0 {k : Nat} (x : Pl k) : mon 0 x = scl (iv (ld x)) x := if_pos rfl
/-- made monic, it is divided by the same ones -/
theorem mon_dv {k n d : Nat} {x g : Pl k} (hx : IsDg x (n : Int)) (hb : Bd x 17) (hg : IsDg g (d : Int)) : (dr 0 (mon 0 x) g = pz ↔ dr 0 x g = pz) ∧ dq 0 (mon 0 x) g = scl (iv (ld x)) (dq 0 x g) := by
  have hl : ld x ≠ z0 := by rw [ld_eq hb hx]; exact hx.tp
  have h := scl_dv (c := iv (ld x)) hb hg
  rw [mon0, h.1, h.2]
  exact ⟨scl_pz_iff (iv_ne hl), rfl⟩
theorem svN_none {k n d : Nat} {x : Pl k} (hx : IsDg x (n : Int)) (hb : Bd x 17) (h1 : 1 ≤ d) (h4 : n ≤ 4) (h : ∀ c : Nat, c < unq k d → dr 0 x (mnp d c) ≠ pz) : svN x d (trN k (dg x) (d : Int)) = 0 := by
  rw [svN_num hx hb h1 h4]
  exact sI_zero (fun c hc => bz_neg (h c hc))
/-- and what it leaves, made monic, is the class's rest, made monic -/
theorem sp_mon {k n d : Nat} {x g : Pl k} (hx : IsDg x (n : Int)) (hb : Bd x 17) (hg : Mn g d) (h : dr 0 x g = pz) : dq 0 (mon 0 x) g = mon 0 (dq 0 x g) := by
  obtain ⟨_, _, h3, h4⟩ := mdq hx hb hg h
  rw [(mon_dv hx hb hg.1).2, mon0 (dq 0 x g), ld_eq hb hx]
  have hq : Bd (dq 0 x g) 17 := (Bd_is h3).mono (by
    have h5 := (dg_lt17 hb).2
    have h6 := dg_eq17 hb hx
    omega)
  rw [ld_eq hq h3, h4]
theorem svN_high {k n e : Nat} {x : Pl k} (hx : dg x = (n : Int)) (h : n < e) : svN x e (trN k (dg x) (e : Int)) = 0 := by
  have t : trN k (dg x) (e : Int) = 0 := by
    unfold trN trI
    rw [hx, if_pos (by omega)]
    rfl
  rw [t]
  rfl
/-- a linear one is prime -/
theorem prM_1 {k : Nat} {x : Pl k} (h : dg x = 1) : prM x := ⟨by omega, fun a c a1 a2 => by omega⟩
theorem sI_ones : ∀ n : Nat, sI (fun _ => 1) n = (n : Int)
  | 0 => rfl
  | n + 1 => by
    show sI (fun _ => 1) n + 1 = _
    rw [sI_ones n]
    omega
theorem primes_1 {k : Nat} : sI (fun c => bz (prM (mnp (k := k) 1 c))) (unq k 1) = (qq k : Int) := by
  have h : sI (fun c => bz (prM (mnp (k := k) 1 c))) (unq k 1) = sI (fun _ => 1) (unq k 1) := sI_congr (fun c _ => bz_pos (prM_1 (mnp_dg (by omega))))
  rw [h, sI_ones]
  unfold unq
  rw [Nat.pow_one]
theorem inj_le {g : Nat → Nat} {a b : Nat} (h1 : ∀ i : Nat, i < a → g i < b) (h2 : ∀ i j : Nat, i < a → j < a → g i = g j → i = j) : a ≤ b := by
  have h := sI_bij (f := g) (b := b) (a := a) (P := fun _ => True) (Q := fun c => ∃ i : Nat, i < a ∧ g i = c) (F := fun _ => 1) (G := fun c => bz (∃ i : Nat, i < a ∧ g i = c)) (fun i _ q => absurd trivial q) (fun c _ q => bz_neg q) (fun i hi _ => ⟨h1 i hi, ⟨i, hi, rfl⟩, bz_pos ⟨i, hi, rfl⟩⟩) (fun i j hi hj _ _ e => h2 i j hi hj e) (fun c _ q => by
    obtain ⟨i, hi, e⟩ := q
    exact ⟨i, hi, trivial, e⟩)
  rw [sI_ones] at h
  have h3 := sI_bz (q := fun c => ∃ i : Nat, i < a ∧ g i = c) b
  omega
theorem inj_surj {f : Nat → Nat} {N : Nat} (h1 : ∀ i : Nat, i < N → f i < N) (h2 : ∀ i j : Nat, i < N → j < N → f i = f j → i = j) {c : Nat} (hc : c < N) : ∃ i : Nat, i < N ∧ f i = c := by
  apply Classical.byContradiction
  intro h
  have hn : ∀ i : Nat, i < N → f i ≠ c := fun i hi e => h ⟨i, hi, e⟩
  have := inj_le (g := fun i => if f i < c then f i else f i - 1) (a := N) (b := N - 1) (fun i hi => by
    have a1 := h1 i hi
    have a2 := hn i hi
    show (if f i < c then f i else f i - 1) < _
    split <;> omega) (fun i j hi hj e => by
    have a2 := hn i hi
    have b2 := hn j hj
    have e2 : (if f i < c then f i else f i - 1) = (if f j < c then f j else f j - 1) := e
    refine h2 i j hi hj ?_
    split at e2 <;> split at e2 <;> omega)
  omega
theorem surj_inj {f : Nat → Nat} {N : Nat} (h1 : ∀ c : Nat, c < N → ∃ i : Nat, i < N ∧ f i = c) {i j : Nat} (hi : i < N) (hj : j < N) (h0 : f i < N) (e : f i = f j) : i = j := by
  have hg : ∀ c : Nat, ∃ i : Nat, c < N → i < N ∧ f i = c := fun c => by
    by_cases q : c < N
    · obtain ⟨i, hi⟩ := h1 c q
      exact ⟨i, fun _ => hi⟩
    · exact ⟨0, fun q2 => absurd q2 q⟩
  have hs := fun c => Classical.choose_spec (hg c)
  have s : ∀ i : Nat, i < N → ∃ c : Nat, c < N ∧ Classical.choose (hg c) = i := fun i hi => inj_surj (f := fun c => Classical.choose (hg c)) (fun c hc => (hs c hc).1) (fun c c' hc hc' e => by
    have a := (hs c hc).2
    have b := (hs c' hc').2
    have e2 : Classical.choose (hg c) = Classical.choose (hg c') := e
    rw [e2] at a
    exact a.symm.trans b) hi
  obtain ⟨c, hc, ec⟩ := s i hi
  obtain ⟨c', hc', ec'⟩ := s j hj
  have a := (hs c hc).2
  have b := (hs c' hc').2
  rw [ec] at a
  rw [ec'] at b
  have e3 : c = c' := by rw [← a, ← b, e]
  rw [← ec, ← ec', e3]
theorem cop_eu {k : Nat} {x y : Pl k} (hx : Bd x 9) (hy : Bd y 9) : ∀ n : Nat, (∀ m : Nat, m < n → (eu 0 x y m).2.1 ≠ pz) → (Cop x y ↔ Cop (eu 0 x y n).1 (eu 0 x y n).2.1)
  | 0, _ => Iff.rfl
  | n + 1, h => by
    have ih := cop_eu hx hy n (fun m hm => h m (by omega))
    have hB := eu_B hx hy n (fun m hm => h m (by omega))
    have d := eu_dec hB (h n (by omega))
    obtain ⟨⟨m, hm⟩, e, _⟩ := dv_is 0 (isdg_dg (hB.1.2.mono (show 9 ≤ 64 by decide)) d.2) hB.1.1
    rw [ih]
    exact Cop_step hm e
theorem cop_euL {k : Nat} {x y : Pl k} (hx : Bd x 9) (hy : Bd y 9) : Cop x y ↔ dg (euL 0 x y).1 = 0 := by
  obtain ⟨n, hn⟩ := euE_ex 0 hx hy
  have hB := eu_B hx hy n hn.1
  rw [cop_eu hx hy n hn.1, hn.2, euL_eq hn, Cop_pz hB.1.1]
  constructor
  · intro h
    exact dg_eq (hB.1.1.mono (by decide)) h
  · intro h
    have := dg_is (hB.1.1.mono (show 9 ≤ 64 by decide))
    rw [h] at this
    exact this
theorem wyP_cop {k : Nat} {A B : Pl k} {n c : Nat} (hB : Bd B 9) (hn : n ≤ 9) : wyP A B n c ↔ dr 0 (mlp A (bnp n c)) B = pz ∧ Cop (bnp n c) B := by
  unfold wyP
  rw [cop_euL (bnp_bd.mono hn) hB]
/-- so many of each, number by number -/
def cmb (p : Nat) (us : Nat → Nat → Nat) (a : Nat → Nat) : Nat → Nat → Nat
  | 0, _ => 0
  | R + 1, l => (cmb p us a R l + a R * us R l) % p
theorem cmb_lt {p : Nat} (hp : 2 ≤ p) (us : Nat → Nat → Nat) (a : Nat → Nat) (R l : Nat) : cmb p us a R l < p := by
  cases R with
  | zero => show 0 < p; omega
  | succ R => exact Nat.mod_lt _ (by omega)
theorem lcb_cmb {k : Nat} {us : Nat → Nat → Nat} {a : Nat → Nat} {X : Nat → Pl k} {o : Nat} (ha : ∀ r, a r < pp k) : ∀ {R : Nat}, (∀ r, r < R → ∀ j, us r j < pp k) → lcb (cmb (pp k) us a R) X o = lcb a (fun r => lcb (us r) X o) R
  | 0, _ => lcb_zero o
  | R + 1, h => by
    have e := lcb_lin (u := cmb (pp k) us a R) (w := us R) (X := X) (ha R) (cmb_lt (pp_ge k) us a R) (h R (by omega)) o
    refine e.trans ?_
    rw [lcb_cmb ha (fun r hr => h r (by omega))]
    rfl
theorem lcb_top {k : Nat} {w : Nat → Nat} {X : Nat → Pl k} {o : Nat} (h : ∀ j, o ≤ j → w j = 0) : ∀ {N : Nat}, o ≤ N → lcb w X N = lcb w X o
  | 0, hN => by rw [show o = 0 by omega]
  | N + 1, hN => by
    by_cases e : o = N + 1
    · rw [e]
    · rw [lcb_more (h N (by omega)), lcb_top h (show o ≤ N by omega)]
theorem lcb_z {k : Nat} {w : Nat → Nat} {X : Nat → Pl k} : ∀ {R : Nat}, (∀ r, r < R → X r = pz) → lcb w X R = pz
  | 0, _ => rfl
  | R + 1, h => by
    show adp (lcb w X R) (scl _ (X R)) = pz
    rw [lcb_z (fun r hr => h r (by omega)), h R (by omega), scl_pz, pz_adp]
/-- what it is at l, where but one of the rows is not 0 -/
theorem cmb_at {p : Nat} {us : Nat → Nat → Nat} {a : Nat → Nat} {l s : Nat} (hs : us s l = 1) : ∀ {R : Nat}, (∀ r, r < R → r ≠ s → us r l = 0) → cmb p us a R l = if s < R then a s % p else 0
  | 0, _ => by rw [if_neg (by omega)]; rfl
  | R + 1, h => by
    show (cmb p us a R l + a R * us R l) % p = _
    rw [cmb_at hs (fun r hr => h r (by omega))]
    by_cases e : s = R
    · rw [if_neg (by omega), if_pos (by omega), ← e, hs, Nat.zero_add, Nat.mul_one]
    · rw [h R (by omega) (fun q => e q.symm), Nat.mul_zero, Nat.add_zero]
      by_cases q : s < R
      · rw [if_pos q, if_pos (by omega), Nat.mod_mod]
      · rw [if_neg q, if_neg (by omega), Nat.zero_mod]
theorem cmb_z {p : Nat} {us : Nat → Nat → Nat} {a : Nat → Nat} {l : Nat} : ∀ {R : Nat}, (∀ r, r < R → a r * us r l = 0) → cmb p us a R l = 0
  | 0, _ => rfl
  | R + 1, h => by
    show (cmb p us a R l + a R * us R l) % p = 0
    rw [cmb_z (fun r hr => h r (by omega)), h R (by omega), Nat.zero_mod]
theorem cmb_congr {p : Nat} {us : Nat → Nat → Nat} {a b : Nat → Nat} {l : Nat} : ∀ {R : Nat}, (∀ r, r < R → a r * us r l = b r * us r l) → cmb p us a R l = cmb p us b R l
  | 0, _ => rfl
  | R + 1, h => by
    show (cmb p us a R l + a R * us R l) % p = (cmb p us b R l + b R * us R l) % p
    rw [cmb_congr (fun r hr => h r (by omega)), h R (by omega)]
/-- the rows' sums are 0 only by none of each -/
theorem ech_zero {k n c o : Nat} {X ρ : Nat → Pl k} {w : Nat → Nat → Nat} {pv ow : Nat → Nat} (h : SPp n X o c ρ w pv ow) {b : Nat → Nat} (hb : ∀ r, b r < pp k) (h0 : lcb b ρ c = pz) : ∀ s : Nat, s < c → b s = 0 := by
  have hp := pp_ge k
  have key : ∀ s : Nat, s < c → (∀ r : Nat, r < s → b r = 0) → ∀ R : Nat, R ≤ c → vec n (lcb b ρ R) (pv s) = if s < R then (b s : Int) else 0 := by
    intro s hs hz R
    induction R with
    | zero =>
      intro _
      rw [if_neg (by omega)]
      have z := vec_scl (n := n) (pz : Pl k) (a := 0) (by omega) (pv s)
      rw [show scl (el k 0) (pz : Pl k) = pz from scl_pz _, Int.mul_comm] at z
      rw [show ((0 : Nat) : Int) = 0 from rfl, Int.zero_mul, Int.zero_emod] at z
      exact z
    | succ R ih =>
      intro hR
      have e := vec_lin (n := n) (lcb b ρ R) (ρ R) (hb R) (pv s)
      show vec n (adp (lcb b ρ R) (scl (el k (b R)) (ρ R))) (pv s) = _
      rw [e, ih (by omega)]
      have hr := h.1 R (by omega)
      by_cases q : s < R
      · rw [if_pos q, if_pos (by omega), hr.2.2.2.2 s q, Int.mul_zero, Int.add_zero]
        have := hb s
        exact Int.emod_eq_of_lt (by omega) (by omega)
      · rw [if_neg q]
        by_cases e2 : s = R
        · rw [if_pos (by omega), e2, hr.2.2.2.1, Int.mul_one, Int.zero_add]
          have := hb R
          exact Int.emod_eq_of_lt (by omega) (by omega)
        · rw [if_neg (by omega), hz R (by omega)]
          rw [show ((0 : Nat) : Int) = 0 from rfl, Int.zero_mul, Int.zero_add, Int.zero_emod]
  intro s
  induction s using Nat.strongRecOn with
  | _ s ih =>
    intro hs
    have e := key s hs (fun r hr => ih r hr (by omega)) c (Nat.le_refl _)
    rw [h0, if_pos hs] at e
    have z := vec_scl (n := n) (pz : Pl k) (a := 0) (by omega) (pv s)
    rw [show scl (el k 0) (pz : Pl k) = pz from scl_pz _] at z
    rw [show ((0 : Nat) : Int) = 0 from rfl, Int.mul_zero, Int.zero_emod] at z
    omega
/-- what stands at the rows' own places only is a sum of the rows -/
theorem ech_sum {k n c o : Nat} {X ρ : Nat → Pl k} {w : Nat → Nat → Nat} {pv ow : Nat → Nat} (h : SPp n X o c ρ w pv ow) : ∀ c' : Nat, c' ≤ c → ∀ v : Nat → Nat, (∀ j, v j < pp k) → (∀ j, v j ≠ 0 → ∃ s : Nat, s < c' ∧ j = ow s) → ∃ b : Nat → Nat, (∀ r, b r < pp k) ∧ ∀ j, v j = cmb (pp k) w b c' j
  | 0, _, v, hv, hs => ⟨fun _ => 0, fun _ => by have := pp_ge k; show 0 < pp k; omega, fun j => by
    show v j = 0
    apply Classical.byContradiction
    intro q
    obtain ⟨s, h1, _⟩ := hs j q
    omega⟩
  | c' + 1, hc, v, hv, hs => by
    have hp := pp_ge k
    have hw := h.2 c' (by omega)
    have hwl := hw.2.2.2.2.2
    -- how many of the last row
    have sq := sq_mod0 (k := k) ⟨w c' (ow c'), hwl _⟩ hw.2.2.1
    dsimp only at sq
    have hx : v (ow c') * w c' (ow c') % pp k * w c' (ow c') % pp k = v (ow c') := by
      rw [Nat.mod_mul_mod, Nat.mul_assoc, Nat.mul_mod, sq, Nat.mul_one, Nat.mod_mod, Nat.mod_eq_of_lt (hv _)]
    have hxl : v (ow c') * w c' (ow c') % pp k < pp k := Nat.mod_lt _ (by omega)
    generalize v (ow c') * w c' (ow c') % pp k = x at hx hxl
    -- what the others are to make
    obtain ⟨b, hb, he⟩ := ech_sum h c' (by omega) (fun j => (v j + (pp k - 1) * (x * w c' j)) % pp k) (fun j => Nat.mod_lt _ (by omega)) (fun j hj => by
      have hj' : (v j + (pp k - 1) * (x * w c' j)) % pp k ≠ 0 := hj
      by_cases e : j = ow c'
      · exfalso
        apply hj'
        rw [e]
        have e2 : (v (ow c') + (pp k - 1) * (x * w c' (ow c'))) % pp k = (v (ow c') + (pp k - 1) * v (ow c')) % pp k := by
          rw [Nat.add_mod, Nat.mul_mod, hx, ← Nat.mod_eq_of_lt (hv (ow c')), Nat.mod_mod, ← Nat.mul_mod, ← Nat.add_mod]
          rw [Nat.mod_eq_of_lt (hv (ow c'))]
        rw [e2, show v (ow c') + (pp k - 1) * v (ow c') = pp k * v (ow c') by
          have e3 : pp k * v (ow c') = (1 + (pp k - 1)) * v (ow c') := by rw [show 1 + (pp k - 1) = pp k by omega]
          rw [e3, Nat.add_mul, Nat.one_mul]]
        exact Nat.mul_mod_right _ _
      · by_cases z : v j = 0
        · have wz : w c' j ≠ 0 := fun q => hj' (by rw [z, q, Nat.mul_zero, Nat.mul_zero, Nat.zero_mod])
          obtain ⟨s, s1, s2⟩ := hw.2.2.2.2.1 j wz
          refine ⟨s, ?_, s2⟩
          by_cases q : s = c'
          · exact absurd (by rw [s2, q]) e
          · omega
        · obtain ⟨s, s1, s2⟩ := hs j z
          refine ⟨s, ?_, s2⟩
          by_cases q : s = c'
          · exact absurd (by rw [s2, q]) e
          · omega)
    refine ⟨fun r => if r = c' then x else b r, fun r => ?_, fun j => ?_⟩
    · show (if r = c' then x else b r) < _
      split
      · exact hxl
      · exact hb r
    · show v j = (cmb (pp k) w (fun r => if r = c' then x else b r) c' j + (if c' = c' then x else b c') * w c' j) % pp k
      have e1_ : cmb (pp k) w (fun r => if r = c' then x else b r) c' j = cmb (pp k) w b c' j := cmb_congr (fun r hr => by
        show (if r = c' then x else b r) * _ = _
        rw [if_neg (by omega)])
      rw [e1_, ← he j, if_pos rfl]
      show v j = ((v j + (pp k - 1) * (x * w c' j)) % pp k + x * w c' j) % pp k
      rw [Nat.mod_add_mod, Nat.add_assoc, show (pp k - 1) * (x * w c' j) + x * w c' j = pp k * (x * w c' j) by
        have e3 : pp k * (x * w c' j) = ((pp k - 1) + 1) * (x * w c' j) := by rw [show pp k - 1 + 1 = pp k by omega]
        rw [e3, Nat.add_mul, Nat.one_mul], Nat.add_mul_mod_self_left, Nat.mod_eq_of_lt (hv j)]
/-- so it is 0 if its sum of what was offered is -/
theorem ech_ind {k n c o : Nat} {X ρ : Nat → Pl k} {w : Nat → Nat → Nat} {pv ow : Nat → Nat} (h : SPp n X o c ρ w pv ow) {v : Nat → Nat} (hv : ∀ j, v j < pp k) (hs : ∀ j, v j ≠ 0 → ∃ s : Nat, s < c ∧ j = ow s) (h0 : lcb v X o = pz) : ∀ j, v j = 0 := by
  obtain ⟨b, hb, he⟩ := ech_sum h c (Nat.le_refl _) v hv hs
  have e : lcb v X o = lcb b ρ c := by
    rw [lcb_congr (w := cmb (pp k) w b c) (fun j _ => he j), lcb_cmb hb (fun r hr => (h.2 r hr).2.2.2.2.2)]
    have key : ∀ R : Nat, R ≤ c → lcb b (fun r => lcb (w r) X o) R = lcb b ρ R := fun R => by
      induction R with
      | zero => intro _; rfl
      | succ R ih =>
        intro hR
        show adp (lcb b (fun r => lcb (w r) X o) R) (scl _ (lcb (w R) X o)) = adp (lcb b ρ R) (scl _ (ρ R))
        rw [ih (by omega), (h.1 R (by omega)).2.1]
    exact key c (Nat.le_refl _)
  have hz := ech_zero h hb (by rw [← e]; exact h0)
  intro j
  rw [he j]
  exact cmb_z (fun r hr => by rw [hz r hr, Nat.zero_mul])
theorem el_dig0 {k : Nat} : ∀ (s : Fin (mm k)) (x : Fin (qq k)) (u : Fin (pp k)), x.val < pp k ^ s.val → el k (x.val + u.val * pp k ^ s.val) = ad (el k x.val) (ml (el k u.val) (el k (unt k s.val))) := match k with | 0 => by decide +kernel | 1 => by decide +kernel | 2 => by decide +kernel | _ + 3 => (by decide +kernel : ∀ (s : Fin (mm 3)) (x : Fin (qq 3)) (u : Fin (pp 3)), x.val < pp 3 ^ s.val → el 3 (x.val + u.val * pp 3 ^ s.val) = ad (el 3 x.val) (ml (el 3 u.val) (el 3 (unt 3 s.val))))
theorem sg_pp0 {k : Nat} : ∀ (j : Fin (mm k)) (c : Fin (pp k)), sg j.val (el k c.val) = el k c.val := match k with | 0 => by decide +kernel | 1 => by decide +kernel | 2 => by decide +kernel | _ + 3 => (by decide +kernel : ∀ (j : Fin (mm 3)) (c : Fin (pp 3)), sg j.val (el 3 c.val) = el 3 c.val)
theorem dgt_sum0 {k : Nat} : ∀ (x : El k), nbS (pp k) (fun s => dgt x s) 0 (mm k) = x.val := match k with | 0 => by decide +kernel | 1 => by decide +kernel | 2 => by decide +kernel | _ + 3 => (by decide +kernel : ∀ (x : El 3), nbS (pp 3) (fun s => dgt x s) 0 (mm 3) = x.val)
theorem sg_pp {k : Nat} (j : Nat) {c : Nat} (hc : c < pp k) : sg j (el k c) = el k c := by
  rw [← sg_mod]
  exact sg_pp0 ⟨j % mm k, Nat.mod_lt _ (mm_pos k)⟩ ⟨c, hc⟩
theorem mlp_sclp {k c : Nat} (hc : c < pp k) (f g : Pl k) : mlp f (scl (el k c) g) = scl (el k c) (mlp f g) := by
  have e : scb f (el k c) = scl (el k c) f := by
    funext n
    show ml (f n) (sg n (el k c)) = ml (el k c) (f n)
    rw [sg_pp n hc, ml_comm]
  rw [← cst_mlp, ← mlp_assoc, mlp_cst, e, scl_mlp]
theorem dr_lin {k c n m m' : Nat} {x y B : Pl k} (hB : IsDg B (n : Int)) (hx : Bd x m) (hy : Bd y m') : dr 0 (adp x (scl (el k c) y)) B = adp (dr 0 x B) (scl (el k c) (dr 0 y B)) := by
  obtain ⟨⟨a, ha⟩, e1_, b, hb, r1⟩ := dv_is 0 hB hx
  obtain ⟨⟨a', ha'⟩, e2_, b', hb', r2⟩ := dv_is 0 hB hy
  have eb : (b : Int) = (b' : Int) := hb.uniq hb'
  have f1 : x = adp (mlp (dq 0 x B) B) (dr 0 x B) := e1_
  have f2 : y = adp (mlp (dq 0 y B) B) (dr 0 y B) := e2_
  refine (dv_eq (s := 0) (q := adp (dq 0 x B) (scl (el k c) (dq 0 y B))) ⟨⟨a + a', ?_⟩, ?_, b, hb, ?_⟩).2
  · exact Bd_adp (ha.mono (by omega)) (fun j hj => by show ml _ (dq 0 y B j) = z0; rw [ha' j (by omega), ml_zero])
  · show adp x (scl (el k c) y) = adp (mlp (adp (dq 0 x B) (scl (el k c) (dq 0 y B))) B) (adp (dr 0 x B) (scl (el k c) (dr 0 y B)))
    have e3 : mlp (adp (dq 0 x B) (scl (el k c) (dq 0 y B))) B = adp (mlp (dq 0 x B) B) (scl (el k c) (mlp (dq 0 y B) B)) := by rw [adp_mlp, scl_mlp]
    rw [e3, adp4, ← scl_adp, ← f1, ← f2]
  · intro j hj
    show ad (dr 0 x B j) (ml _ (dr 0 y B j)) = z0
    rw [r1 j hj, r2 j (by omega), ml_zero, ad_zero]
theorem Uni_bd {k l : Nat} : Bd (Uni (k := k) l) (l / mm k + 1) := mono_bd _ _
theorem lcb_bd2 {k : Nat} {u : Nat → Nat} : ∀ o : Nat, ∃ m : Nat, Bd (lcb u (Uni (k := k)) o) m
  | 0 => ⟨0, fun _ _ => rfl⟩
  | o + 1 => by
    obtain ⟨m, hm⟩ := lcb_bd2 (k := k) (u := u) o
    have hU := Uni_bd (k := k) (l := o)
    generalize o / mm k = e at hU
    refine ⟨m + (e + 1), fun j hj => ?_⟩
    show ad (lcb u Uni o j) (ml _ (Uni o j)) = z0
    rw [hm j (by omega), hU j (by omega), ml_zero, ad_zero]
theorem dr_pz {k n : Nat} {B : Pl k} (hB : IsDg B (n : Int)) : dr 0 (pz : Pl k) B = pz := (mdv (n := 0) (q := pz) (m := 0) hB (fun _ _ => rfl) (pz_mlp _).symm).2
/-- a sum of the ways' products is the product of their sum -/
theorem lcb_XL {k n m : Nat} {A B : Pl k} (hA : Bd A m) (hB : IsDg B (n : Int)) {u : Nat → Nat} (hu : ∀ j, u j < pp k) : ∀ o : Nat, lcb u (XL A B) o = dr 0 (mlp A (lcb u Uni o)) B
  | 0 => by
    show pz = dr 0 (mlp A pz) B
    rw [mlp_pz, dr_pz hB]
  | o + 1 => by
    obtain ⟨m', hm'⟩ := lcb_bd2 (k := k) (u := u) o
    show adp (lcb u (XL A B) o) (scl _ (XL A B o)) = dr 0 (mlp A (adp (lcb u Uni o) (scl (el k (u o)) (Uni o)))) B
    rw [mlp_adp, mlp_sclp (hu o), dr_lin hB (Bd_mlp hA hm') (Bd_mlp hA Uni_bd), lcb_XL hA hB hu o]
    rfl
theorem nbS_congr {p : Nat} {u v : Nat → Nat} {b c : Nat} : ∀ {s : Nat}, (∀ j, j < s → u (b + j) = v (c + j)) → nbS p u b s = nbS p v c s
  | 0, _ => rfl
  | s + 1, h => by
    show nbS p u b s + u (b + s) * p ^ s = nbS p v c s + v (c + s) * p ^ s
    rw [nbS_congr (fun j hj => h j (by omega)), h s (by omega)]
theorem nbS_add {p : Nat} {u : Nat → Nat} {b s : Nat} : ∀ t : Nat, nbS p u b (s + t) = nbS p u b s + nbS p u (b + s) t * p ^ s
  | 0 => by show nbS p u b s = nbS p u b s + 0 * _; rw [Nat.zero_mul, Nat.add_zero]
  | t + 1 => by
    show nbS p u b (s + t) + u (b + (s + t)) * p ^ (s + t) = nbS p u b s + (nbS p u (b + s) t + u (b + s + t) * p ^ t) * p ^ s
    rw [nbS_add t, Nat.add_mul, Nat.mul_assoc, ← Nat.pow_add, Nat.add_comm t s, ← Nat.add_assoc b s t, Nat.add_assoc]
theorem pw_qq {k s : Nat} (h : s + 1 ≤ mm k) : pp k ^ s ≤ qq k := by
  rw [qq_pm]
  exact Nat.pow_le_pow_right (by have := pp_ge k; omega) (by omega)
theorem lcb_uni {k : Nat} {u : Nat → Nat} (hu : ∀ j, u j < pp k) : ∀ n s : Nat, s ≤ mm k → lcb u (Uni (k := k)) (n * mm k + s) = up1 (bsU n u) n (el k (nbS (pp k) u (n * mm k) s)) := by
  have h0 : ∀ n : Nat, up1 (bsU (k := k) n u) n (el k 0) = bsU n u := fun n => by
    funext j
    unfold up1
    by_cases e : j = n
    · rw [if_pos e, e]
      exact (if_neg (by omega)).symm
    · rw [if_neg e]
  intro n
  induction n with
  | zero =>
    intro s
    induction s with
    | zero =>
      intro _
      rw [show 0 * mm k + 0 = 0 by omega]
      show pz = up1 (bsU 0 u) 0 (el k 0)
      rw [h0, bsU_0]
    | succ s ih =>
      intro hs
      have hl := nbS_lt (b := 0 * mm k) hu s
      have hq : pp k ^ s ≤ qq k := pw_qq hs
      show adp (lcb u Uni (0 * mm k + s)) (scl (el k (u (0 * mm k + s))) (Uni (0 * mm k + s))) = _
      rw [ih (by omega), Uni_at (by omega)]
      have e := el_dig0 (k := k) ⟨s, by omega⟩ ⟨nbS (pp k) u (0 * mm k) s, by omega⟩ ⟨u (0 * mm k + s), hu _⟩ hl
      dsimp only at e
      funext j
      show ad (up1 (bsU 0 u) 0 _ j) (ml _ (up1 (tpw 0) 0 _ j)) = up1 (bsU 0 u) 0 (el k (nbS (pp k) u (0 * mm k) s + u (0 * mm k + s) * pp k ^ s)) j
      unfold up1
      by_cases q : j = 0
      · rw [if_pos q, if_pos q, if_pos q, e]
      · rw [if_neg q, if_neg q, if_neg q]
        show ad _ (ml _ (if j = 0 then e1 else z0)) = _
        rw [if_neg q, ml_zero, ad_zero]
  | succ n ihn =>
    intro s
    induction s with
    | zero =>
      intro _
      have e := ihn (mm k) (Nat.le_refl _)
      rw [bsU_up] at e
      show lcb u Uni ((n + 1) * mm k + 0) = up1 (bsU (n + 1) u) (n + 1) (el k 0)
      rw [h0, show (n + 1) * mm k + 0 = n * mm k + mm k by rw [Nat.add_mul, Nat.one_mul]; rfl]
      exact e
    | succ s ih =>
      intro hs
      have hl := nbS_lt (b := (n + 1) * mm k) hu s
      have hq : pp k ^ s ≤ qq k := pw_qq hs
      show adp (lcb u Uni ((n + 1) * mm k + s)) (scl (el k (u ((n + 1) * mm k + s))) (Uni ((n + 1) * mm k + s))) = _
      rw [ih (by omega), Uni_at (by omega)]
      have e := el_dig0 (k := k) ⟨s, by omega⟩ ⟨nbS (pp k) u ((n + 1) * mm k) s, by omega⟩ ⟨u ((n + 1) * mm k + s), hu _⟩ hl
      dsimp only at e
      funext j
      show ad (up1 (bsU (n + 1) u) (n + 1) _ j) (ml _ (up1 (tpw (n + 1)) (n + 1) _ j)) = up1 (bsU (n + 1) u) (n + 1) (el k (nbS (pp k) u ((n + 1) * mm k) s + u ((n + 1) * mm k + s) * pp k ^ s)) j
      unfold up1
      by_cases q : j = n + 1
      · rw [if_pos q, if_pos q, if_pos q, e]
      · rw [if_neg q, if_neg q, if_neg q]
        show ad _ (ml _ (if j = n + 1 then e1 else z0)) = _
        rw [if_neg q, ml_zero, ad_zero]
theorem bsU_lcb {k n : Nat} {u : Nat → Nat} (hu : ∀ j, u j < pp k) : lcb u (Uni (k := k)) (n * mm k) = bsU n u := by
  have e := lcb_uni hu n 0 (by omega)
  rw [Nat.add_zero] at e
  rw [e]
  funext j
  unfold up1
  by_cases q : j = n
  · rw [if_pos q, q]
    exact (if_neg (by omega)).symm
  · rw [if_neg q]
theorem bsU_congr {k n : Nat} {u v : Nat → Nat} (h : ∀ l, l < n * mm k → u l = v l) : bsU (k := k) n u = bsU n v := by
  funext j
  show (if j < n then _ else _) = (if j < n then _ else _)
  by_cases q : j < n
  · rw [if_pos q, if_pos q]
    have h2 : (j + 1) * mm k ≤ n * mm k := Nat.mul_le_mul_right _ q
    rw [Nat.add_mul, Nat.one_mul] at h2
    rw [nbS_congr (v := v) (c := j * mm k) (fun s hs => h _ (by omega))]
  · rw [if_neg q, if_neg q]
/-- the digits of a polynomial -/
def dgsU {k : Nat} (U : Pl k) (l : Nat) : Nat := dgt (U (l / mm k)) (l % mm k)
theorem dgsU_lt {k : Nat} (U : Pl k) (l : Nat) : dgsU U l < pp k := Nat.mod_lt _ (by have := pp_ge k; omega)
theorem bsU_dgs {k n : Nat} {U : Pl k} (h : Bd U n) : bsU n (dgsU U) = U := by
  funext j
  show (if j < n then _ else _) = _
  by_cases q : j < n
  · rw [if_pos q]
    have e : nbS (pp k) (dgsU U) (j * mm k) (mm k) = nbS (pp k) (fun s => dgt (U j) s) 0 (mm k) := nbS_congr (fun s hs => by
      show dgt (U ((j * mm k + s) / mm k)) ((j * mm k + s) % mm k) = dgt (U j) (0 + s)
      rw [Nat.mul_comm, Nat.mul_add_div (mm_pos k), Nat.div_eq_of_lt hs, Nat.add_zero, Nat.mul_add_mod, Nat.mod_eq_of_lt hs, Nat.zero_add])
    rw [e, dgt_sum0, el_val]
  · rw [if_neg q, h j (by omega)]
/-- its number is that of its digits -/
theorem cdp_bsU {k : Nat} {u : Nat → Nat} (hu : ∀ j, u j < pp k) : ∀ n : Nat, cdp (bsU (k := k) n u) n = nbS (pp k) u 0 (n * mm k)
  | 0 => by rw [Nat.zero_mul]; rfl
  | n + 1 => by
    have e1_ : cdp (bsU (k := k) (n + 1) u) n = cdp (bsU (k := k) n u) n := cdp_congr (fun j hj => by
      show (if j < n + 1 then _ else _) = (if j < n then _ else _)
      rw [if_pos (by omega), if_pos hj])
    have e2_ : (bsU (k := k) (n + 1) u n).val = nbS (pp k) u (n * mm k) (mm k) := by
      show (if n < n + 1 then el k _ else z0).val = _
      rw [if_pos (by omega)]
      refine Nat.mod_eq_of_lt ?_
      have := nbS_lt (b := n * mm k) hu (mm k)
      rw [← qq_pm] at this
      exact this
    show cdp (bsU (k := k) (n + 1) u) n + (bsU (k := k) (n + 1) u n).val * unq k n = _
    rw [e1_, e2_, cdp_bsU hu n, Nat.add_mul, Nat.one_mul, nbS_add, Nat.zero_add]
    unfold unq
    rw [qq_pm, ← Nat.pow_mul, Nat.mul_comm (mm k) n]
theorem nbS_less {p N s : Nat} {u v : Nat → Nat} (hu : ∀ j, u j < p) (hs : s < N) (h : u s < v s) (he : ∀ l, s < l → l < N → u l = v l) : nbS p u 0 N < nbS p v 0 N := by
  have a := nbS_add (p := p) (u := u) (b := 0) (s := s + 1) (N - (s + 1))
  have b := nbS_add (p := p) (u := v) (b := 0) (s := s + 1) (N - (s + 1))
  rw [show s + 1 + (N - (s + 1)) = N by omega] at a b
  have c : nbS p u (0 + (s + 1)) (N - (s + 1)) = nbS p v (0 + (s + 1)) (N - (s + 1)) := nbS_congr (fun j hj => he _ (by omega) (by omega))
  rw [a, b, c]
  have h1 := nbS_lt (b := 0) hu s
  have h2 : (u s + 1) * p ^ s ≤ v s * p ^ s := Nat.mul_le_mul_right _ h
  rw [Nat.add_mul, Nat.one_mul] at h2
  show nbS p u 0 s + u (0 + s) * p ^ s + _ < nbS p v 0 s + v (0 + s) * p ^ s + _
  rw [Nat.zero_add]
  omega
theorem top_diff {a b : Nat → Nat} : ∀ R : Nat, (∃ r : Nat, r < R ∧ a r ≠ b r) → ∃ r : Nat, r < R ∧ a r ≠ b r ∧ ∀ s : Nat, r < s → s < R → a s = b s
  | 0, h => by obtain ⟨r, hr, _⟩ := h; omega
  | R + 1, h => by
    by_cases e : a R = b R
    · obtain ⟨r, hr, hn⟩ := h
      have hr2 : r < R := by
        by_cases q : r = R
        · rw [q] at hn; exact absurd e hn
        · omega
      obtain ⟨r', h1, h2, h3⟩ := top_diff R ⟨r, hr2, hn⟩
      refine ⟨r', by omega, h2, fun s hs hs2 => ?_⟩
      by_cases q : s = R
      · rw [q]; exact e
      · exact h3 s hs (by omega)
    · exact ⟨R, by omega, e, fun s hs hs2 => by omega⟩
theorem nbS_dgn {p t : Nat} : ∀ R : Nat, nbS p (dgn p t) 0 R = t % p ^ R
  | 0 => by show 0 = t % p ^ 0; rw [Nat.pow_zero, Nat.mod_one]
  | R + 1 => by
    show nbS p (dgn p t) 0 R + dgn p t (0 + R) * p ^ R = _
    rw [nbS_dgn R, Nat.zero_add, Nat.mod_pow_succ, Nat.mul_comm]
    rfl
theorem dgn_nbS {p : Nat} (hp : 2 ≤ p) {u : Nat → Nat} (hu : ∀ j, u j < p) : ∀ R r : Nat, r < R → dgn p (nbS p u 0 R) r = u r
  | 0, r, h => by omega
  | R + 1, r, h => by
    have h0 : ∀ n, 0 < p ^ n := fun n => Nat.pow_pos (by omega)
    show (nbS p u 0 R + u (0 + R) * p ^ R) / p ^ r % p = _
    rw [Nat.zero_add]
    by_cases e : r = R
    · have h1 := nbS_lt (b := 0) hu R
      rw [e, Nat.add_mul_div_right _ _ (h0 R), Nat.div_eq_of_lt h1, Nat.zero_add]
      exact Nat.mod_eq_of_lt (hu R)
    · have ih := dgn_nbS hp hu R r (by omega)
      have e2 : u R * p ^ R = (u R * p ^ (R - r - 1) * p) * p ^ r := by
        rw [Nat.mul_assoc, Nat.mul_assoc, ← Nat.pow_succ', ← Nat.pow_add, show R - r - 1 + (r + 1) = R by omega]
      rw [e2, Nat.add_mul_div_right _ _ (h0 r), Nat.add_mul_mod_self_right]
      exact ih
theorem lcb_X {k : Nat} {w : Nat → Nat} {X Y : Nat → Pl k} : ∀ {R : Nat}, (∀ r, r < R → X r = Y r) → lcb w X R = lcb w Y R
  | 0, _ => rfl
  | R + 1, h => by
    show adp (lcb w X R) (scl _ (X R)) = adp (lcb w Y R) (scl _ (Y R))
    rw [lcb_X (fun r hr => h r (by omega)), h R (by omega)]
theorem cdp_pz {k : Nat} : ∀ n : Nat, cdp (pz : Pl k) n = 0
  | 0 => rfl
  | n + 1 => by
    show cdp (pz : Pl k) n + (z0 : El k).val * unq k n = 0
    rw [cdp_pz n, z0_val, Nat.zero_mul]
theorem wyU_00 {k n R : Nat} {us : Nat → Nat → Nat} : wyU (k := k) n us R 0 = pz := by
  unfold wyU
  rw [lcb_congr (w := fun _ => 0) (fun r _ => dgn_0), lcb_zero]
theorem gp_main {k n c R m : Nat} {A B : Pl k} {dp ow : Nat → Nat} {us : Nat → Nat → Nat} (hA : Bd A m) (hB : IsDg B (n : Int)) (h : GP (XL A B) n (n * mm k) dp us ow c R) : (∀ t : Nat, dr 0 (mlp A (wyU n us R t)) B = pz) ∧ (∀ t t' : Nat, t < t' → t' < pp k ^ R → cdp (wyU (k := k) n us R t) n < cdp (wyU (k := k) n us R t') n) ∧ ∀ U : Pl k, Bd U n → dr 0 (mlp A U) B = pz → ∃ t : Nat, t < pp k ^ R ∧ U = wyU n us R t := by
  obtain ⟨⟨ρ, w, pv, hS⟩, hc, hr⟩ := h
  have hp := pp_ge k
  have hp3 := pp_le k
  have hus : ∀ r, r < R → ∀ j, us r j < pp k := fun r hr' => (hr r hr').2.1.2.2.2.2
  have hdl : ∀ t r, dgn (pp k) t r < pp k := fun t r => dgn_lt hp t r
  have hV : ∀ t l, cmb (pp k) us (dgn (pp k) t) R l < pp k := fun t l => cmb_lt hp us _ R l
  have eV : ∀ t, wyU (k := k) n us R t = bsU n (cmb (pp k) us (dgn (pp k) t) R) := fun t => by
    rw [← bsU_lcb (hV t), lcb_cmb (hdl t) hus]
    exact lcb_X (fun r hr' => (bsU_lcb (hus r hr')).symm)
  have sep : ∀ r r', r < R → r' < R → r' ≠ r → us r' (dp r) = 0 := fun r r' h1 h2 h3 => by
    apply Classical.byContradiction
    intro q
    rcases (hr r' h2).2.1.2.2.2.1 (dp r) q with e | ⟨s, hs, e⟩
    · rcases Nat.lt_or_ge r r' with q2 | q2
      · have := (hr r' h2).2.2.2 r q2; omega
      · have := (hr r h1).2.2.2 r' (by omega); omega
    · exact (hr r h1).2.2.1 s hs e.symm
  have hVd : ∀ t r, r < R → cmb (pp k) us (dgn (pp k) t) R (dp r) = dgn (pp k) t r := fun t r h1 => by
    rw [cmb_at (s := r) (hr r h1).2.1.2.1 (fun r' h2 h3 => sep r r' h1 h2 h3), if_pos h1, Nat.mod_eq_of_lt (hdl t r)]
  have hker : ∀ t, lcb (cmb (pp k) us (dgn (pp k) t) R) (XL A B) (n * mm k) = pz := fun t => by
    rw [lcb_cmb (hdl t) hus]
    refine lcb_z (fun r h1 => ?_)
    have q := (hr r h1).2.1
    rw [lcb_top (o := dp r + 1) (fun j hj => q.2.2.1 j (by omega)) (by have := (hr r h1).1; omega)]
    exact q.1
  refine ⟨fun t => ?_, fun t t' h1 h2 => ?_, fun U hU h0 => ?_⟩
  · rw [eV t, ← bsU_lcb (hV t), ← lcb_XL hA hB (hV t)]
    exact hker t
  · rw [eV t, eV t', cdp_bsU (hV t), cdp_bsU (hV t')]
    have e1_ := nbS_dgn (p := pp k) (t := t) R
    have e2_ := nbS_dgn (p := pp k) (t := t') R
    rw [Nat.mod_eq_of_lt (by omega)] at e1_
    rw [Nat.mod_eq_of_lt h2] at e2_
    have hd : ∃ r : Nat, r < R ∧ dgn (pp k) t r ≠ dgn (pp k) t' r := by
      apply Classical.byContradiction
      intro q
      have e3 : nbS (pp k) (dgn (pp k) t) 0 R = nbS (pp k) (dgn (pp k) t') 0 R := nbS_congr (fun j hj => by
        apply Classical.byContradiction
        intro q2
        exact q ⟨0 + j, by omega, q2⟩)
      omega
    obtain ⟨r, r1, r2, r3⟩ := top_diff R hd
    rcases Nat.lt_or_ge (dgn (pp k) t r) (dgn (pp k) t' r) with q | q
    · refine nbS_less (s := dp r) (hV t) (hr r r1).1 (by rw [hVd t r r1, hVd t' r r1]; exact q) (fun l l1 l2 => cmb_congr (fun r' h3 => ?_))
      rcases Nat.lt_or_ge r r' with q2 | q2
      · rw [r3 r' q2 h3]
      · have z : us r' l = 0 := (hr r' h3).2.1.2.2.1 l (by
          by_cases e : r' = r
          · rw [e]; exact l1
          · have := (hr r r1).2.2.2 r' (by omega)
            omega)
        rw [z, Nat.mul_zero, Nat.mul_zero]
    · exfalso
      have := nbS_less (p := pp k) (N := R) (s := r) (u := dgn (pp k) t') (v := dgn (pp k) t) (hdl t') r1 (by omega) (fun l l1 l2 => (r3 l l1 l2).symm)
      omega
  · have hud : ∀ l, dgsU U l < pp k := dgsU_lt U
    have hk0 : lcb (dgsU U) (XL A B) (n * mm k) = pz := by
      rw [lcb_XL hA hB hud, bsU_lcb hud, bsU_dgs hU]
      exact h0
    have hdd : ∀ r, dgsU U (dp r) < pp k := fun r => hud _
    refine ⟨nbS (pp k) (fun r => dgsU U (dp r)) 0 R, nbS_lt (b := 0) hdd R, ?_⟩
    generalize ht : nbS (pp k) (fun r => dgsU U (dp r)) 0 R = t
    have hdt : ∀ r, r < R → dgn (pp k) t r = dgsU U (dp r) := fun r h1 => by
      rw [← ht]
      exact dgn_nbS hp hdd R r h1
    have cov : ∀ l, l < n * mm k → (∃ s, s < c ∧ l = ow s) ∨ ∃ r, r < R ∧ l = dp r := fun l hl => by
      have mono : ∀ s s', s < s' → s' < c → ow s < ow s' := fun s s' h1 h2 => (hS.2 s' h2).2.1 s h1
      obtain ⟨i, hi, e⟩ := inj_surj (f := fun i => if i < c then ow i else dp (i - c)) (N := n * mm k) (fun i hi => by
        show (if i < c then ow i else dp (i - c)) < _
        split
        · rename_i q; exact (hS.2 i q).1
        · exact (hr (i - c) (by omega)).1) (fun i j hi hj e => by
        have e2 : (if i < c then ow i else dp (i - c)) = (if j < c then ow j else dp (j - c)) := e
        by_cases a1 : i < c
        · rw [if_pos a1] at e2
          by_cases a2 : j < c
          · rw [if_pos a2] at e2
            rcases Nat.lt_trichotomy i j with q | q | q
            · have := mono i j q a2; omega
            · exact q
            · have := mono j i q a1; omega
          · rw [if_neg a2] at e2
            exact absurd e2 ((hr (j - c) (by omega)).2.2.1 i a1)
        · rw [if_neg a1] at e2
          by_cases a2 : j < c
          · rw [if_pos a2] at e2
            exact absurd e2.symm ((hr (i - c) (by omega)).2.2.1 j a2)
          · rw [if_neg a2] at e2
            rcases Nat.lt_trichotomy i j with q | q | q
            · have := (hr (j - c) (by omega)).2.2.2 (i - c) (by omega); omega
            · exact q
            · have := (hr (i - c) (by omega)).2.2.2 (j - c) (by omega); omega) hl
      have e2 : (if i < c then ow i else dp (i - c)) = l := e
      by_cases a1 : i < c
      · rw [if_pos a1] at e2
        exact Or.inl ⟨i, a1, e2.symm⟩
      · rw [if_neg a1] at e2
        exact Or.inr ⟨i - c, by omega, e2.symm⟩
    have hv := ech_ind hS (v := fun l => if l < n * mm k then (dgsU U l + (pp k - 1) * cmb (pp k) us (dgn (pp k) t) R l) % pp k else 0) (fun l => by
      show (if l < n * mm k then (dgsU U l + (pp k - 1) * cmb (pp k) us (dgn (pp k) t) R l) % pp k else 0) < _
      split
      · exact Nat.mod_lt _ (by omega)
      · omega) (fun l hl => by
      have hl' : (if l < n * mm k then (dgsU U l + (pp k - 1) * cmb (pp k) us (dgn (pp k) t) R l) % pp k else 0) ≠ 0 := hl
      by_cases q : l < n * mm k
      · rw [if_pos q] at hl'
        rcases cov l q with e | ⟨r, r1, e⟩
        · exact e
        · exfalso
          apply hl'
          rw [e, hVd t r r1, hdt r r1, show dgsU U (dp r) + (pp k - 1) * dgsU U (dp r) = pp k * dgsU U (dp r) by
            have e3 : pp k * dgsU U (dp r) = (1 + (pp k - 1)) * dgsU U (dp r) := by rw [show 1 + (pp k - 1) = pp k by omega]
            rw [e3, Nat.add_mul, Nat.one_mul]]
          exact Nat.mul_mod_right _ _
      · rw [if_neg q] at hl'
        exact absurd rfl hl') (by
      have e := lcb_lin (u := dgsU U) (w := cmb (pp k) us (dgn (pp k) t) R) (X := XL A B) (c := pp k - 1) (by omega) hud (hV t) (n * mm k)
      rw [hk0, hker t, scl_pz, pz_adp] at e
      rw [← e]
      exact lcb_congr (fun j hj => if_pos hj))
    rw [eV t]
    refine (bsU_dgs hU).symm.trans (bsU_congr (fun l hl => ?_))
    have z : (if l < n * mm k then (dgsU U l + (pp k - 1) * cmb (pp k) us (dgn (pp k) t) R l) % pp k else 0) = 0 := hv l
    rw [if_pos hl] at z
    have a1 := hud l
    have a2 := hV t l
    generalize cmb (pp k) us (dgn (pp k) t) R l = y at z a2
    generalize dgsU U l = x at z a1
    rcases (show pp k = 2 ∨ pp k = 3 by omega) with e | e
    · rw [e] at z a1 a2; omega
    · rw [e] at z a1 a2; omega
/-- what the search finds is in the list -/
theorem gp_find {k n c R m : Nat} {A B : Pl k} {dp ow : Nat → Nat} {us : Nat → Nat → Nat} (hA : Bd A m) (hB : IsDg B (n : Int)) (hB9 : Bd B 9) (hn : n ≤ 9) (h : GP (XL A B) n (n * mm k) dp us ow c R) {a : Nat} (a1 : 1 ≤ a) (a2 : a < unq k n) (hw : wyP A B n a) : ∃ t : Nat, 1 ≤ t ∧ t < pp k ^ R ∧ bnp n a = wyU (k := k) n us R t ∧ Cop (wyU (k := k) n us R t) B := by
  obtain ⟨g1, g2, g3⟩ := gp_main hA hB h
  have w := (wyP_cop hB9 hn).mp hw
  obtain ⟨t, h1, h2⟩ := g3 _ bnp_bd w.1
  refine ⟨t, ?_, h1, h2, by rw [← h2]; exact w.2⟩
  by_cases q : t = 0
  · exfalso
    rw [q, wyU_00] at h2
    have e := cdp_bnp (k := k) a2
    rw [h2, cdp_pz] at e
    omega
  · omega
theorem like_some {k n c R m t : Nat} {A B : Pl k} {dp ow : Nat → Nat} {us : Nat → Nat → Nat} (hA : Bd A m) (hB : IsDg B (n : Int)) (hB9 : Bd B 9) (hn : n ≤ 9) (h : GP (XL A B) n (n * mm k) dp us ow c R) (t1 : 1 ≤ t) (t2 : t < pp k ^ R) (t3 : Cop (wyU (k := k) n us R t) B) (t4 : ∀ s : Nat, 1 ≤ s → s < t → ¬ Cop (wyU (k := k) n us R s) B) : ∃ a : Nat, 1 ≤ a ∧ a < unq k n ∧ fwI A B n = (a : Int) ∧ bnp n a = wyU (k := k) n us R t := by
  obtain ⟨g1, g2, g3⟩ := gp_main hA hB h
  have e : wyU (k := k) n us R t = bnp n (cdp (wyU (k := k) n us R t) n) := bnp_cdp wyU_bd
  have l0 := g2 0 t (by omega) t2
  have l1 := cdp_lt (wyU (k := k) n us R t) n
  refine ⟨cdp (wyU (k := k) n us R t) n, by omega, l1, fwI_at (by omega) l1 (fun a a1 a2 hw => ?_) ((wyP_cop hB9 hn).mpr ⟨by rw [← e]; exact g1 t, by rw [← e]; exact t3⟩), e.symm⟩
  obtain ⟨s, s1, s2, s3, s4⟩ := gp_find hA hB hB9 hn h a1 (by omega) hw
  refine t4 s s1 ?_ s4
  have ea : cdp (wyU (k := k) n us R s) n = a := by rw [← s3, cdp_bnp (by omega)]
  rcases Nat.lt_trichotomy s t with q | q | q
  · exact q
  · rw [q] at ea; omega
  · have := g2 t s q s2; omega
theorem like_none {k n c R m : Nat} {A B : Pl k} {dp ow : Nat → Nat} {us : Nat → Nat → Nat} (hA : Bd A m) (hB : IsDg B (n : Int)) (hB9 : Bd B 9) (hn : n ≤ 9) (h : GP (XL A B) n (n * mm k) dp us ow c R) (t4 : ∀ s : Nat, 1 ≤ s → s < pp k ^ R → ¬ Cop (wyU (k := k) n us R s) B) : fwI A B n = -1 := by
  refine fwI_none (fun a a1 a2 hw => ?_)
  obtain ⟨s, s1, s2, s3, s4⟩ := gp_find hA hB hB9 hn h a1 a2 hw
  exact t4 s s1 s2 s4
/-- a left multiple of B -/
def InL {k : Nat} (x B : Pl k) : Prop := ∃ (q : Pl k) (m : Nat), Bd q m ∧ x = mlp q B
theorem InL.lf {k n : Nat} {x B : Pl k} (hB : IsDg B (n : Int)) (h : InL x B) : dr 0 x B = pz := by
  obtain ⟨q, m, hq, e⟩ := h
  exact (mdv (n := 0) hB hq e).2
theorem InL.of {k n m : Nat} {x B : Pl k} (hB : IsDg B (n : Int)) (hx : Bd x m) (h : dr 0 x B = pz) : InL x B := by
  obtain ⟨⟨a, ha⟩, e, _⟩ := dv_is 0 hB hx
  rw [h, adp_pz] at e
  exact ⟨_, a, ha, e⟩
theorem InL.mul {k m : Nat} {x B : Pl k} (g : Pl k) (hg : Bd g m) (h : InL x B) : InL (mlp g x) B := by
  obtain ⟨q, a, hq, e⟩ := h
  exact ⟨mlp g q, m + a, Bd_mlp hg hq, by rw [e, mlp_assoc]⟩
theorem InL.sub {k : Nat} {x y B : Pl k} (h : InL x B) (h' : InL y B) : InL (sbp x y) B := by
  obtain ⟨q, m, hq, e⟩ := h
  obtain ⟨q', m', hq', e'⟩ := h'
  exact ⟨sbp q q', m + m', Bd_sbp hq hq', by rw [sbp_mlp, e, e']⟩
theorem InL.add {k : Nat} {x y B : Pl k} (h : InL x B) (h' : InL y B) : InL (adp x y) B := by
  obtain ⟨q, m, hq, e⟩ := h
  obtain ⟨q', m', hq', e'⟩ := h'
  exact ⟨adp q q', m + m', Bd_adp hq hq', by rw [adp_mlp, e, e']⟩
/-- what is left by B of x and of x less a multiple is the same -/
theorem dr_of {k n m : Nat} {x r B : Pl k} (hB : IsDg B (n : Int)) (hr : Bd r n) (h : InL (sbp x r) B) : dr 0 x B = r := by
  obtain ⟨q, a, hq, e⟩ := h
  refine (dv_eq (s := 0) (q := q) ⟨⟨a, hq⟩, ?_, n, hB, hr⟩).2
  show x = adp (mlp q B) r
  rw [← e, adp_comm, adp_sbp]
theorem dr_sub {k n m : Nat} {x B : Pl k} (hB : IsDg B (n : Int)) (hx : Bd x m) : InL (sbp x (dr 0 x B)) B := by
  obtain ⟨⟨a, ha⟩, e, _⟩ := dv_is 0 hB hx
  refine ⟨dq 0 x B, a, ha, ?_⟩
  have e' : x = adp (mlp (dq 0 x B) B) (dr 0 x B) := e
  exact (congrArg (fun t => sbp t (dr 0 x B)) (e'.trans (adp_comm _ _))).trans (sbp_adp _ _)
/-- x U in R B only if x in R A -/
theorem like_inj {k n a : Nat} {A B U x : Pl k} (hA : IsDg A (n : Int)) (hB : IsDg B (n : Int)) (hU : Bd U n) (hAU : InL (mlp A U) B) (hc : Cop U B) (hx : Bd x a) (h : InL (mlp x U) B) : InL x A := by
  obtain ⟨X, Y, m, hX, hY, e1_⟩ := hc
  have hs := dr_bd 0 hA hx
  -- what is left of x is taken to 0 too
  have h1 : InL (mlp (dr 0 x A) U) B := by
    obtain ⟨q, b, hq, e⟩ := dr_sub hA hx
    have e2 : mlp (dr 0 x A) U = sbp (mlp x U) (mlp q (mlp A U)) := by
      rw [← mlp_assoc, ← e, ← sbp_mlp]
      congr 1
      funext j
      show dr 0 x A j = ad (x j) (ng (ad (x j) (ng (dr 0 x A j))))
      rw [ng_ad, ng_ng, ← ad_assoc, ad_neg, zero_ad]
    rw [e2]
    exact h.sub (hAU.mul q hq)
  have surj : ∀ c : Nat, c < unq k n → ∃ i : Nat, i < unq k n ∧ cdp (dr 0 (mlp (bnp (k := k) n i) U) B) n = c := fun c hc => by
    have hrX : Bd (mlp (bnp (k := k) n c) X) (n + m) := Bd_mlp bnp_bd hX
    have hsb : Bd (dr 0 (mlp (bnp (k := k) n c) X) A) n := dr_bd 0 hA hrX
    refine ⟨cdp (dr 0 (mlp (bnp (k := k) n c) X) A) n, cdp_lt _ n, ?_⟩
    rw [← bnp_cdp hsb]
    have e : dr 0 (mlp (dr 0 (mlp (bnp (k := k) n c) X) A) U) B = bnp n c := by
      refine dr_of (m := 0) hB bnp_bd ?_
      obtain ⟨q, b, hq, eq⟩ := dr_sub hA hrX
      have k1 : InL (mlp (sbp (mlp (bnp (k := k) n c) X) (dr 0 (mlp (bnp (k := k) n c) X) A)) U) B := by
        rw [eq, mlp_assoc]
        exact hAU.mul q hq
      have k2 : InL (sbp (bnp (k := k) n c) (mlp (mlp (bnp (k := k) n c) X) U)) B := by
        refine ⟨mlp (bnp n c) Y, n + m, Bd_mlp bnp_bd hY, ?_⟩
        have e3 : bnp (k := k) n c = adp (mlp (mlp (bnp n c) X) U) (mlp (mlp (bnp n c) Y) B) := by
          rw [mlp_assoc, mlp_assoc, ← mlp_adp, e1_, mlp_one]
        have e4 := congrArg (fun t => sbp t (mlp (mlp (bnp (k := k) n c) X) U)) e3
        exact e4.trans (sbp_adp _ _)
      have e5 : sbp (mlp (dr 0 (mlp (bnp (k := k) n c) X) A) U) (bnp n c) = sbp (sbp pz (mlp (sbp (mlp (bnp (k := k) n c) X) (dr 0 (mlp (bnp (k := k) n c) X) A)) U)) (sbp (bnp (k := k) n c) (mlp (mlp (bnp (k := k) n c) X) U)) := by
        rw [sbp_mlp]
        generalize mlp (dr 0 (mlp (bnp (k := k) n c) X) A) U = f
        generalize mlp (mlp (bnp (k := k) n c) X) U = g
        funext j
        show ad (f j) (ng (bnp n c j)) = ad (ad z0 (ng (ad (g j) (ng (f j))))) (ng (ad (bnp n c j) (ng (g j))))
        rw [zero_ad, ng_ad, ng_ng, ng_ad, ng_ng, ad_comm (ng (g j)), ad_assoc, ad_comm (ng (bnp n c j)), ← ad_assoc (ng (g j)), ad_comm (ng (g j)), ad_neg, zero_ad]
      rw [e5]
      exact (InL.sub ⟨pz, 0, fun _ _ => rfl, (pz_mlp B).symm⟩ k1).sub k2
    rw [e, cdp_bnp hc]
  have hz : cdp (dr 0 x A) n = cdp (pz : Pl k) n := by
    refine surj_inj (f := fun i => cdp (dr 0 (mlp (bnp (k := k) n i) U) B) n) surj (cdp_lt _ n) (cdp_lt _ n) (cdp_lt _ n) ?_
    show cdp (dr 0 (mlp (bnp (k := k) n (cdp (dr 0 x A) n)) U) B) n = cdp (dr 0 (mlp (bnp (k := k) n (cdp (pz : Pl k) n)) U) B) n
    rw [← bnp_cdp hs, ← bnp_cdp (show Bd (pz : Pl k) n from fun _ _ => rfl), h1.lf hB, pz_mlp, dr_pz hB]
  refine InL.of hA hx ?_
  rw [bnp_cdp hs, hz, ← bnp_cdp (show Bd (pz : Pl k) n from fun _ _ => rfl)]
theorem like_sym {k n : Nat} {A B U : Pl k} (hA : IsDg A (n : Int)) (hB : IsDg B (n : Int)) (hU : Bd U n) (hAU : InL (mlp A U) B) (hc : Cop U B) : ∃ V : Pl k, Bd V n ∧ InL (mlp B V) A ∧ Cop V A := by
  have hc' := hc
  obtain ⟨X, Y, m, hX, hY, e1_⟩ := hc'
  have hBb : Bd B (n + 1) := Bd_is hB
  have hAb : Bd A (n + 1) := Bd_is hA
  -- B X is a multiple of A
  have h1 : InL (mlp B X) A := by
    refine like_inj hA hB hU hAU hc (Bd_mlp hBb hX) ?_
    refine ⟨sbp one (mlp B Y), 1 + (n + 1 + m), Bd_sbp (fun j hj => if_neg (by omega)) (Bd_mlp hBb hY), ?_⟩
    have e3 : B = adp (mlp (mlp B X) U) (mlp (mlp B Y) B) := by rw [mlp_assoc, mlp_assoc, ← mlp_adp, e1_, mlp_one]
    have e4 := congrArg (fun t => sbp t (mlp (mlp B Y) B)) (e3.trans (adp_comm _ _))
    rw [sbp_mlp, one_mlp]
    exact (e4.trans (sbp_adp _ _)).symm
  -- U X - 1 too
  have h2 : InL (sbp (mlp U X) one) A := by
    refine like_inj hA hB hU hAU hc (a := n + m + 1) (Bd_sbp (Bd_mlp hU hX) (fun j hj => if_neg (by omega))) ?_
    refine ⟨sbp pz (mlp U Y), 0 + (n + m), Bd_sbp (fun _ _ => rfl) (Bd_mlp hU hY), ?_⟩
    have e3 : U = adp (mlp (mlp U X) U) (mlp (mlp U Y) B) := by rw [mlp_assoc, mlp_assoc, ← mlp_adp, e1_, mlp_one]
    rw [sbp_mlp, sbp_mlp, one_mlp, pz_mlp]
    generalize mlp (mlp U X) U = f at e3 ⊢
    generalize mlp (mlp U Y) B = g at e3 ⊢
    funext j
    have e4 : U j = ad (f j) (g j) := congrFun e3 j
    show ad (f j) (ng (U j)) = ad z0 (ng (g j))
    rw [e4, ng_ad, ← ad_assoc, ad_neg, zero_ad]
  have hV := dr_bd 0 hA hX
  obtain ⟨q, b, hq, e⟩ := dr_sub hA hX
  refine ⟨dr 0 X A, hV, ?_, ?_⟩
  · have e5 : mlp B (dr 0 X A) = sbp (mlp B X) (mlp (mlp B q) A) := by
      rw [mlp_assoc, ← e]
      have e6 : X = adp (sbp X (dr 0 X A)) (dr 0 X A) := by rw [adp_comm, adp_sbp]
      have e7 : mlp B X = adp (mlp B (sbp X (dr 0 X A))) (mlp B (dr 0 X A)) := by rw [← mlp_adp, ← e6]
      rw [e7, sbp_adp]
    rw [e5]
    exact h1.sub ⟨mlp B q, n + 1 + b, Bd_mlp hBb hq, rfl⟩
  · obtain ⟨w, c, hw, ew⟩ := h2
    -- U V + (U q - w) A = 1
    refine ⟨U, sbp (mlp U q) w, n + b + c + n, hU.mono (by omega), (Bd_sbp (Bd_mlp hU hq) hw).mono (by omega), ?_⟩
    rw [sbp_mlp, mlp_assoc, ← e, ← ew]
    have e6 : X = adp (sbp X (dr 0 X A)) (dr 0 X A) := by rw [adp_comm, adp_sbp]
    have e7 : mlp U X = adp (mlp U (sbp X (dr 0 X A))) (mlp U (dr 0 X A)) := by rw [← mlp_adp, ← e6]
    generalize mlp U (dr 0 X A) = f at e7 ⊢
    generalize mlp U (sbp X (dr 0 X A)) = g at e7 ⊢
    rw [e7]
    funext j
    show ad (f j) (ad (g j) (ng (ad (ad (g j) (f j)) (ng (one j))))) = one j
    rw [ng_ad, ng_ng, ← ad_assoc, ← ad_assoc, ad_comm (f j), ad_neg, zero_ad]
theorem fw_ne {k n : Nat} {A B : Pl k} : fwI A B n ≠ -1 ↔ ∃ a : Nat, 1 ≤ a ∧ a < unq k n ∧ wyP A B n a := by
  constructor
  · intro h
    apply Classical.byContradiction
    intro q
    exact h (fwI_none (fun a a1 a2 w => q ⟨a, a1, a2, w⟩))
  · rintro ⟨a, a1, a2, w⟩
    rcases fsN_spec (q := fun c => wyP A B n (c + 1)) (n := unq k n - 1) with ⟨h1, _⟩ | ⟨_, h2⟩
    · have h1' : fwN A B n < unq k n - 1 := h1
      unfold fwI
      rw [if_pos h1']
      omega
    · exact absurd (show wyP A B n (a - 1 + 1) by rw [show a - 1 + 1 = a by omega]; exact w) (h2 (a - 1) (by omega))
theorem cop_ne {k n : Nat} {V A : Pl k} (hA : IsDg A (n : Int)) (n1 : 1 ≤ n) (h : Cop V A) : V ≠ pz := fun q => by
  rw [q] at h
  have w := (Cop_pz (Bd_is hA)).mp (Cop_comm.mp h)
  have := hA.uniq w
  omega
/-- like it: a V takes B into R A -/
def LK {k : Nat} (A B : Pl k) (n : Nat) : Prop := ∃ V : Pl k, Bd V n ∧ InL (mlp B V) A ∧ Cop V A
theorem fw_LK {k n : Nat} {A B : Pl k} (hA : IsDg A (n : Int)) (hB : IsDg B (n : Int)) (n1 : 1 ≤ n) (n4 : n ≤ 4) : fwI A B n ≠ -1 ↔ LK A B n := by
  have hB9 : Bd B 9 := (Bd_is hB).mono (by omega)
  rw [fw_ne]
  constructor
  · rintro ⟨a, a1, a2, w⟩
    have w2 := (wyP_cop hB9 (by omega)).mp w
    exact like_sym hA hB bnp_bd (InL.of hB (Bd_mlp (Bd_is hA) bnp_bd) w2.1) w2.2
  · rintro ⟨V, v1, v2, v3⟩
    obtain ⟨U, u1, u2, u3⟩ := like_sym hB hA v1 v2 v3
    have e := bnp_cdp u1
    have l := cdp_lt U n
    refine ⟨cdp U n, ?_, l, (wyP_cop hB9 (by omega)).mpr ⟨by rw [← e]; exact u2.lf hB, by rw [← e]; exact u3⟩⟩
    by_cases q : cdp U n = 0
    · exfalso
      refine cop_ne hB n1 u3 ?_
      rw [e, q]
      have e2 : (pz : Pl k) = bnp n (cdp (pz : Pl k) n) := bnp_cdp (fun _ _ => rfl)
      rw [cdp_pz] at e2
      exact e2.symm
    · omega
theorem scl_b {k n : Nat} {c : El k} {f : Pl k} (h : Bd f n) : Bd (scl c f) n := fun j hj => by show ml c (f j) = z0; rw [h j hj, ml_zero]
theorem mono_scl {k : Nat} (b : El k) (j : Nat) : mono b j = scl b (mono e1 j) := by
  funext i
  show (if i = j then b else z0) = ml b (if i = j then e1 else z0)
  split
  · rw [ml_one]
  · rw [ml_zero]
theorem mono_tt {k : Nat} (f : Pl k) : mlp (mono e1 2) f = mlp (mono e1 1) (mlp (mono e1 1) f) := by
  rw [← mlp_assoc]
  congr 1
  funext j
  rw [mono_mlp]
  show (if j = 2 then e1 else z0) = if 1 ≤ j then ml e1 (sg 1 (if j - 1 = 1 then e1 else z0)) else z0
  by_cases h : j = 2
  · rw [if_pos h, if_pos (by omega), if_pos (by omega), sg_e, one_ml]
  · rw [if_neg h]
    by_cases h2 : 1 ≤ j
    · rw [if_pos h2, if_neg (by omega), sg_z, ml_zero]
    · rw [if_neg h2]
theorem InL.scl {k : Nat} {x B : Pl k} (c : El k) (h : InL x B) : InL (scl c x) B := by
  rw [← cst_mlp]
  exact h.mul (m := 1) (cst c) (fun j hj => if_neg (by omega))
theorem sub_adp {k : Nat} (a b c d : Pl k) : sbp (adp a b) (adp c d) = adp (sbp a c) (sbp b d) := by
  funext j
  show ad (ad (a j) (b j)) (ng (ad (c j) (d j))) = ad (ad (a j) (ng (c j))) (ad (b j) (ng (d j)))
  rw [ng_ad, ad4]
theorem scl_sbp {k : Nat} (c : El k) (f g : Pl k) : scl c (sbp f g) = sbp (scl c f) (scl c g) := by
  funext j
  show ml c (ad (f j) (ng (g j))) = ad (ml c (f j)) (ng (ml c (g j)))
  rw [ml_ad, ml_ng]
theorem Bd_t {k n : Nat} {V : Pl k} (h : Bd V n) : Bd (mlp (mono e1 1) V) (2 + n) := Bd_mlp (mono_bd _ _) h
/-- what A leaves of (b1 t + b0) V -/
theorem lin_V {k n : Nat} {A V : Pl k} (hA : IsDg A (n : Int)) (hV : Bd V n) (b1 b0 : El k) : InL (sbp (mlp (adp (mono b1 1) (cst b0)) V) (adp (scl b1 (sT A V)) (scl b0 V))) A := by
  have e : mlp (adp (mono b1 1) (cst b0)) V = adp (scl b1 (mlp (mono e1 1) V)) (scl b0 V) := by rw [adp_mlp, mono_scl, scl_mlp, cst_mlp]
  rw [e, sub_adp, sbp_self, adp_pz, ← scl_sbp]
  exact (dr_sub hA (Bd_t hV)).scl b1
theorem quad_V {k n : Nat} {A V : Pl k} (hA : IsDg A (n : Int)) (hV : Bd V n) (b1 b0 : El k) : InL (sbp (mlp (adp (mono e1 2) (adp (mono b1 1) (cst b0))) V) (adp (sT A (sT A V)) (adp (scl b1 (sT A V)) (scl b0 V)))) A := by
  have hs : Bd (sT A V) n := dr_bd 0 hA (Bd_t hV)
  rw [adp_mlp, sub_adp]
  refine InL.add ?_ (lin_V hA hV b1 b0)
  have e : sbp (mlp (mono e1 2) V) (sT A (sT A V)) = adp (mlp (mono e1 1) (sbp (mlp (mono e1 1) V) (sT A V))) (sbp (mlp (mono e1 1) (sT A V)) (sT A (sT A V))) := by
    rw [mono_tt, mlp_sbp]
    generalize mlp (mono e1 1) (mlp (mono e1 1) V) = f
    generalize mlp (mono e1 1) (sT A V) = g
    funext j
    show ad (f j) (ng (sT A (sT A V) j)) = ad (ad (f j) (ng (g j))) (ad (g j) (ng (sT A (sT A V) j)))
    rw [ad_assoc, ← ad_assoc (ng (g j)), ad_comm (ng (g j)), ad_neg, zero_ad]
  rw [e]
  exact ((dr_sub hA (Bd_t hV)).mul _ (mono_bd e1 1)).add (dr_sub hA (Bd_t hs))
theorem in_iff {k n m : Nat} {A x r : Pl k} (hA : IsDg A (n : Int)) (hx : Bd x m) (hr : Bd r n) (h : InL (sbp x r) A) : InL x A ↔ r = pz := by
  have e := dr_of (m := m) hA hr h
  constructor
  · intro q
    rw [← e, q.lf hA]
  · intro q
    exact InL.of hA hx (by rw [e, q])
theorem mnp_1 {k c : Nat} : mnp (k := k) 1 c = adp (mono e1 1) (cst (el k (dgn (qq k) c 0))) := by
  funext j
  show (if j = 1 then e1 else if j < 1 then el k (dgn (qq k) c j) else z0) = ad (if j = 1 then e1 else z0) (if j = 0 then el k (dgn (qq k) c 0) else z0)
  by_cases h : j = 1
  · rw [if_pos h, if_pos h, if_neg (by omega), ad_zero]
  · rw [if_neg h, if_neg h, zero_ad]
    by_cases h2 : j = 0
    · rw [if_pos (by omega), if_pos h2, h2]
    · rw [if_neg (by omega), if_neg h2]
theorem mnp_2 {k c : Nat} : mnp (k := k) 2 c = adp (mono e1 2) (adp (mono (el k (dgn (qq k) c 1)) 1) (cst (el k (dgn (qq k) c 0)))) := by
  funext j
  show (if j = 2 then e1 else if j < 2 then el k (dgn (qq k) c j) else z0) = ad (if j = 2 then e1 else z0) (ad (if j = 1 then el k (dgn (qq k) c 1) else z0) (if j = 0 then el k (dgn (qq k) c 0) else z0))
  by_cases h : j = 2
  · rw [if_pos h, if_pos h, if_neg (by omega), if_neg (by omega), ad_zero, ad_zero]
  · rw [if_neg h, if_neg h, zero_ad]
    by_cases h1 : j = 1
    · rw [if_pos (by omega), if_pos h1, if_neg (by omega), ad_zero, h1]
    · rw [if_neg h1, zero_ad]
      by_cases h2 : j = 0
      · rw [if_pos (by omega), if_pos h2, h2]
      · rw [if_neg (by omega), if_neg h2]
theorem crs_add {k : Nat} (a b a' b' c d : El k) : crs (ad a a') (ad b b') c d = ad (crs a b c d) (crs a' b' c d) := by
  unfold crs
  rw [ad_ml, ad_ml, ng_ad, ad4]
theorem crs_mul {k : Nat} (r a b c d : El k) : crs (ml r a) (ml r b) c d = ml r (crs a b c d) := by
  unfold crs
  rw [ml_assoc, ml_assoc, ml_ad, ml_ng]
theorem crs_self {k : Nat} (a b : El k) : crs a b a b = z0 := by
  unfold crs
  rw [ml_comm b a, ad_neg]
theorem crs_neg {k : Nat} (a b c d : El k) : crs c d a b = ng (crs a b c d) := by
  unfold crs
  rw [ng_ad, ng_ng, ad_comm, ml_comm d a, ml_comm c b]
theorem ng_eq0 {k : Nat} {a b : El k} (h : ad a (ng b) = z0) : a = b := by
  have e := ng_uniq _ _ h
  have e2 := congrArg ng e
  rw [ng_ng, ng_ng] at e2
  exact e2.symm
/-- the two crossings of what solves it -/
theorem crs_solve {k : Nat} {s0 s1 t0 t1 v0 v1 b1 b0 : El k} (h0 : ad t0 (ad (ml b1 s0) (ml b0 v0)) = z0) (h1 : ad t1 (ad (ml b1 s1) (ml b0 v1)) = z0) : crs t0 t1 v0 v1 = ml b1 (crs v0 v1 s0 s1) ∧ crs s0 s1 t0 t1 = ml b0 (crs v0 v1 s0 s1) := by
  have z : ∀ c d : El k, crs (ad t0 (ad (ml b1 s0) (ml b0 v0))) (ad t1 (ad (ml b1 s1) (ml b0 v1))) c d = z0 := fun c d => by
    rw [h0, h1]
    unfold crs
    rw [zero_ml, zero_ml, ng_z, ad_zero]
  have e : ∀ c d : El k, ad (crs t0 t1 c d) (ad (ml b1 (crs s0 s1 c d)) (ml b0 (crs v0 v1 c d))) = z0 := fun c d => by
    have w := z c d
    rw [crs_add, crs_add, crs_mul, crs_mul] at w
    exact w
  constructor
  · have w := e v0 v1
    rw [crs_self, ml_zero, ad_zero, crs_neg v0 v1 s0 s1, ml_ng] at w
    exact ng_eq0 w
  · have w := e s0 s1
    rw [crs_self, ml_zero, zero_ad] at w
    have e2 := ng_uniq _ _ w
    rw [crs_neg t0 t1 s0 s1, ← e2]
/-- and what crosses the two to nothing is nothing -/
theorem crs_zero {k : Nat} {s0 s1 v0 v1 x0 x1 : El k} (hD : crs v0 v1 s0 s1 ≠ z0) (hv : crs x0 x1 v0 v1 = z0) (hs : crs x0 x1 s0 s1 = z0) : x0 = z0 ∧ x1 = z0 := by
  have a := ng_eq0 hv
  have b := ng_eq0 hs
  have key : ∀ x y z w u : El k, ml x y = ml z w → ml (ml x u) y = ml z (ml w u) := fun x y z w u h => by
    rw [ml_assoc, ml_comm u y, ← ml_assoc, h, ml_assoc]
  constructor
  · have e : ml x0 (crs v0 v1 s0 s1) = z0 := by
      unfold crs
      rw [ml_ad, ml_ng, ← ml_assoc, ← ml_assoc, a]
      have e1_ : ml (ml x0 v0) s1 = ml (ml x1 v0) s0 := by
        rw [ml_assoc, ml_comm v0 s1, ← ml_assoc, b, ml_assoc, ml_comm s0 v0, ← ml_assoc]
      rw [e1_, ad_neg]
    rcases ml_eq_zero e with q | q
    · exact q
    · exact absurd q hD
  · have e : ml x1 (crs v0 v1 s0 s1) = z0 := by
      unfold crs
      rw [ml_ad, ml_ng, ← ml_assoc, ← ml_assoc]
      have e1_ : ml (ml x1 v0) s1 = ml (ml x1 v1) s0 := by
        have f1 : ml (ml x1 v1) s0 = ml (ml x0 s1) v1 := by rw [ml_assoc, ml_comm v1 s0, ← ml_assoc, ← b]
        have f2 : ml (ml x0 v1) s1 = ml (ml x0 s1) v1 := by rw [ml_assoc, ml_comm v1 s1, ← ml_assoc]
        rw [← a]
        exact f2.trans f1.symm
      rw [e1_, ad_neg]
    rcases ml_eq_zero e with q | q
    · exact q
    · exact absurd q hD
theorem vc_bnp {k c : Nat} (h : c < qq k * qq k) : vc (k := k) c = bnp 2 c := by
  funext j
  show (if j = 1 then el k (c / qq k) else if j = 0 then el k (c % qq k) else z0) = if j < 2 then el k (c / qq k ^ j % qq k) else z0
  by_cases h1 : j = 1
  · rw [if_pos h1, if_pos (by omega), h1, Nat.pow_one]
    exact Fin.ext (by show c / qq k % qq k = c / qq k % qq k % qq k; rw [Nat.mod_mod])
  · rw [if_neg h1]
    by_cases h0 : j = 0
    · rw [if_pos h0, if_pos (by omega), h0, Nat.pow_zero, Nat.div_one]
    · rw [if_neg h0, if_neg (by omega)]
theorem vc_bnp1 {k c : Nat} (h : c < qq k) : vc (k := k) c = bnp 1 c := by
  funext j
  show (if j = 1 then el k (c / qq k) else if j = 0 then el k (c % qq k) else z0) = if j < 1 then el k (c / qq k ^ j % qq k) else z0
  by_cases h1 : j = 1
  · rw [if_pos h1, if_neg (by omega), Nat.div_eq_of_lt h]
    rfl
  · rw [if_neg h1]
    by_cases h0 : j = 0
    · rw [if_pos h0, if_pos (by omega), h0, Nat.pow_zero, Nat.div_one]
    · rw [if_neg h0, if_neg (by omega)]
theorem bnp_pz {k n a : Nat} (ha : a < unq k n) : bnp (k := k) n a = pz ↔ a = 0 := by
  constructor
  · intro e
    have w := cdp_bnp (k := k) ha
    rw [e, cdp_pz] at w
    exact w.symm
  · intro e
    have e2 : (pz : Pl k) = bnp n (cdp (pz : Pl k) n) := bnp_cdp (fun _ _ => rfl)
    rw [cdp_pz] at e2
    rw [e]
    exact e2.symm
theorem pz_at {k n : Nat} {f : Pl k} (hf : Bd f n) : f = pz ↔ ∀ j : Nat, j < n → f j = z0 := by
  constructor
  · intro e j _
    rw [e]
    rfl
  · intro h
    funext j
    by_cases q : j < n
    · exact h j q
    · exact hf j (by omega)
theorem dgn_val {k c r : Nat} : (el k (dgn (qq k) c r)).val = dgn (qq k) c r := Nat.mod_eq_of_lt (dgq_lt k c r)
/-- one number: its B -/
theorem LK_1 {k c : Nat} {A : Pl k} (hA : IsDg A ((1 : Nat) : Int)) (hc : c < unq k 1) : LK A (mnp 1 c) 1 ↔ MKd A 1 (qq k) (c : Int) := by
  have hq : unq k 1 = qq k := by unfold unq; rw [Nat.pow_one]
  rw [hq] at hc
  have hd : dgn (qq k) c 0 = c := by show c / qq k ^ 0 % qq k = c; rw [Nat.pow_zero, Nat.div_one, Nat.mod_eq_of_lt hc]
  have hin : ∀ V : Pl k, Bd V 1 → (InL (mlp (mnp 1 c) V) A ↔ ad (sT A V 0) (ml (el k c) (V 0)) = z0) := fun V hV => by
    have hs : Bd (sT A V) 1 := dr_bd 0 hA (Bd_t hV)
    have l := lin_V hA hV e1 (el k (dgn (qq k) c 0))
    rw [show adp (mono e1 1) (cst (el k (dgn (qq k) c 0))) = mnp 1 c from mnp_1.symm] at l
    have hb : Bd (adp (scl e1 (sT A V)) (scl (el k (dgn (qq k) c 0)) V)) 1 := Bd_adp' (scl_b hs) (scl_b hV)
    rw [in_iff (m := 2 + 1) hA (Bd_mlp mnp_bd hV) hb l, pz_at hb, hd]
    constructor
    · intro h
      have w := h 0 (by decide)
      have w2 : ad (ml e1 (sT A V 0)) (ml (el k c) (V 0)) = z0 := w
      rw [one_ml] at w2
      exact w2
    · intro h j hj
      rw [show j = 0 by omega]
      show ad (ml e1 (sT A V 0)) (ml (el k c) (V 0)) = z0
      rw [one_ml]
      exact h
  have hv : ∀ V : Pl k, V 0 ≠ z0 → (kcL A V = (c : Int) ↔ ad (sT A V 0) (ml (el k c) (V 0)) = z0) := fun V h0 => by
    unfold kcL
    have hcv : ∀ x : El k, ((x.val : Int) = (c : Int)) ↔ x = el k c := fun x => ⟨fun q => Fin.ext (by show x.val = c % qq k; rw [Nat.mod_eq_of_lt hc]; omega), fun q => by rw [q]; show ((c % qq k : Nat) : Int) = _; rw [Nat.mod_eq_of_lt hc]⟩
    rw [hcv]
    constructor
    · intro e
      rw [← e, ng_ml, ml_assoc, ml_comm (iv (V 0)), ml_iv _ h0, ml_one, ad_neg]
    · intro e
      have e2 := ng_uniq _ _ e
      have e3 : ml (ml (el k c) (V 0)) (iv (V 0)) = ml (ng (sT A V 0)) (iv (V 0)) := by rw [e2]
      rw [ml_assoc, ml_iv _ h0, ml_one, ng_ml] at e3
      exact e3.symm
  constructor
  · rintro ⟨V, v1, v2, v3⟩
    have e := bnp_cdp v1
    have l := cdp_lt V 1
    rw [hq] at l
    have hne := cop_ne hA (by decide) v3
    have h0 : V 0 ≠ z0 := fun q => hne ((pz_at v1).mpr (fun j hj => by rw [show j = 0 by omega]; exact q))
    refine ⟨cdp V 1, ?_, l, ?_⟩
    · by_cases q : cdp V 1 = 0
      · rw [q, (bnp_pz (n := 1) (a := 0) (unq_pos k 1)).mpr rfl] at e
        exact absurd e hne
      · omega
    · unfold kc
      rw [if_pos rfl, vc_bnp1 l, ← e]
      exact (hv V h0).mpr ((hin V v1).mp v2)
  · rintro ⟨i, i1, i2, i3⟩
    unfold kc at i3
    rw [if_pos rfl, vc_bnp1 i2] at i3
    have hne : bnp (k := k) 1 i ≠ pz := fun q => by
      have := (bnp_pz (by rw [hq]; exact i2)).mp q
      omega
    have h0 : bnp (k := k) 1 i 0 ≠ z0 := fun q => hne ((pz_at bnp_bd).mpr (fun j hj => by rw [show j = 0 by omega]; exact q))
    refine ⟨bnp 1 i, bnp_bd, (hin _ bnp_bd).mpr ((hv _ h0).mp i3), Cop_comm.mp (Cop_const ⟨by decide, fun j hj => bnp_bd j (by omega), fun _ => h0⟩)⟩
theorem LK_2 {k c : Nat} {A : Pl k} (hA : IsDg A ((2 : Nat) : Int)) (hc : c < unq k 2) : LK A (mnp 2 c) 2 ↔ MKd A 2 (qq k * qq k) (c : Int) := by
  have hq : unq k 2 = qq k * qq k := by unfold unq; rw [Nat.pow_succ, Nat.pow_one]
  rw [hq] at hc
  have hd0 : dgn (qq k) c 0 = c % qq k := by show c / qq k ^ 0 % qq k = _; rw [Nat.pow_zero, Nat.div_one]
  have hd1 : dgn (qq k) c 1 = c / qq k := by
    show c / qq k ^ 1 % qq k = _
    rw [Nat.pow_one, Nat.mod_eq_of_lt (Nat.div_lt_of_lt_mul hc)]
  have hdm := Nat.div_add_mod c (qq k)
  generalize hb1 : el k (dgn (qq k) c 1) = b1
  generalize hb0 : el k (dgn (qq k) c 0) = b0
  have hv1 : b1.val = c / qq k := by rw [← hb1, dgn_val, hd1]
  have hv0 : b0.val = c % qq k := by rw [← hb0, dgn_val, hd0]
  have hB : mnp (k := k) 2 c = adp (mono e1 2) (adp (mono b1 1) (cst b0)) := by rw [mnp_2, hb1, hb0]
  have hin : ∀ V : Pl k, Bd V 2 → (InL (mlp (mnp 2 c) V) A ↔ ad (sT A (sT A V) 0) (ad (ml b1 (sT A V 0)) (ml b0 (V 0))) = z0 ∧ ad (sT A (sT A V) 1) (ad (ml b1 (sT A V 1)) (ml b0 (V 1))) = z0) := fun V hV => by
    have hs : Bd (sT A V) 2 := dr_bd 0 hA (Bd_t hV)
    have hss : Bd (sT A (sT A V)) 2 := dr_bd 0 hA (Bd_t hs)
    have l := quad_V hA hV b1 b0
    rw [← hB] at l
    have hb : Bd (adp (sT A (sT A V)) (adp (scl b1 (sT A V)) (scl b0 V))) 2 := Bd_adp' hss (Bd_adp' (scl_b hs) (scl_b hV))
    rw [in_iff (m := 3 + 2) hA (Bd_mlp mnp_bd hV) hb l, pz_at hb]
    constructor
    · intro h
      exact ⟨h 0 (by decide), h 1 (by decide)⟩
    · rintro ⟨h0, h1⟩ j hj
      rcases (show j = 0 ∨ j = 1 by omega) with q | q
      · rw [q]; exact h0
      · rw [q]; exact h1
  have hk : ∀ V : Pl k, crs (V 0) (V 1) (sT A V 0) (sT A V 1) ≠ z0 → (kcQ A V = (c : Int) ↔ crs (sT A (sT A V) 0) (sT A (sT A V) 1) (V 0) (V 1) = ml b1 (crs (V 0) (V 1) (sT A V 0) (sT A V 1)) ∧ crs (sT A V 0) (sT A V 1) (sT A (sT A V) 0) (sT A (sT A V) 1) = ml b0 (crs (V 0) (V 1) (sT A V 0) (sT A V 1))) := fun V hD => by
    unfold kcQ
    rw [if_neg hD]
    generalize crs (V 0) (V 1) (sT A V 0) (sT A V 1) = D at hD ⊢
    generalize crs (sT A (sT A V) 0) (sT A (sT A V) 1) (V 0) (V 1) = x
    generalize crs (sT A V 0) (sT A V 1) (sT A (sT A V) 0) (sT A (sT A V) 1) = y
    have e : ∀ x b : El k, ml x (iv D) = b ↔ x = ml b D := fun x b => ⟨fun q => by rw [← q, ml_assoc, ml_comm (iv D), ml_iv _ hD, ml_one], fun q => by rw [q, ml_assoc, ml_iv _ hD, ml_one]⟩
    rw [← e, ← e]
    have l0 := (ml y (iv D)).isLt
    have m0 := b0.isLt
    constructor
    · intro h
      have h2 : (ml x (iv D)).val * qq k + (ml y (iv D)).val = c := by
        have h3 : (((ml x (iv D)).val * qq k + (ml y (iv D)).val : Nat) : Int) = (c : Int) := by rw [Int.natCast_add, Int.natCast_mul]; exact h
        omega
      have h4 : c / qq k = (ml x (iv D)).val := by rw [← h2, Nat.mul_comm, Nat.mul_add_div (qq_pos k), Nat.div_eq_of_lt l0, Nat.add_zero]
      have h5 : c % qq k = (ml y (iv D)).val := by rw [← h2, Nat.mul_comm, Nat.mul_add_mod, Nat.mod_eq_of_lt l0]
      exact ⟨Fin.ext (by rw [hv1, h4]), Fin.ext (by rw [hv0, h5])⟩
    · rintro ⟨h1, h2⟩
      rw [h1, h2, hv1, hv0]
      have h3 : (((c / qq k) * qq k + c % qq k : Nat) : Int) = (c : Int) := by rw [Nat.mul_comm, hdm]
      rw [← h3, Int.natCast_add, Int.natCast_mul]
  constructor
  · rintro ⟨V, v1, v2, v3⟩
    have e := bnp_cdp v1
    have l := cdp_lt V 2
    rw [hq] at l
    have hne := cop_ne hA (by decide) v3
    have hs : Bd (sT A V) 2 := dr_bd 0 hA (Bd_t v1)
    -- no short one takes V to 0
    have short : ∀ c1 c0 : El k, ad (ml c1 (sT A V 0)) (ml c0 (V 0)) = z0 → ad (ml c1 (sT A V 1)) (ml c0 (V 1)) = z0 → c1 = z0 ∧ c0 = z0 := fun c1 c0 q0 q1 => by
      have hbx : Bd (adp (mono c1 1) (cst c0)) 2 := Bd_adp' (mono_bd c1 1) (fun j hj => if_neg (by omega))
      have hb : Bd (adp (scl c1 (sT A V)) (scl c0 V)) 2 := Bd_adp' (scl_b hs) (scl_b v1)
      have z : adp (scl c1 (sT A V)) (scl c0 V) = pz := (pz_at hb).mpr (fun j hj => by
        rcases (show j = 0 ∨ j = 1 by omega) with q | q
        · rw [q]; exact q0
        · rw [q]; exact q1)
      have li := lin_V hA v1 c1 c0
      have i1 : InL (mlp (adp (mono c1 1) (cst c0)) V) A := (in_iff hA (Bd_mlp hbx v1) hb li).mpr z
      have i2 := like_inj mnp_is hA v1 v2 v3 hbx i1
      have z2 : adp (mono c1 1) (cst c0) = pz := by
        have r := dr_low (s := 0) (x := adp (mono c1 1) (cst c0)) (mnp_is (k := k) (n := 2) (c := c)) hbx
        rw [← r.1]
        exact i2.lf mnp_is
      constructor
      · have w := congrFun z2 1
        have w2 : ad c1 z0 = z0 := w
        rw [ad_zero] at w2
        exact w2
      · have w := congrFun z2 0
        have w2 : ad z0 c0 = z0 := w
        rw [zero_ad] at w2
        exact w2
    have hD : crs (V 0) (V 1) (sT A V 0) (sT A V 1) ≠ z0 := fun q => by
      have q' := ng_eq0 q
      have a := short (V 0) (ng (sT A V 0)) (by rw [ng_ml, ml_comm (V 0), ad_neg]) (by rw [ng_ml, q', ml_comm (V 1), ad_neg])
      have b := short (V 1) (ng (sT A V 1)) (by rw [ng_ml, ← q', ml_comm (V 0), ad_neg]) (by rw [ng_ml, ml_comm (V 1), ad_neg])
      exact hne ((pz_at v1).mpr (fun j hj => by
        rcases (show j = 0 ∨ j = 1 by omega) with r | r
        · rw [r]; exact a.1
        · rw [r]; exact b.1))
    refine ⟨cdp V 2, ?_, l, ?_⟩
    · by_cases q : cdp V 2 = 0
      · rw [q, (bnp_pz (n := 2) (a := 0) (unq_pos k 2)).mpr rfl] at e
        exact absurd e hne
      · omega
    · unfold kc
      rw [if_neg (by decide), vc_bnp l, ← e]
      have w := (hin V v1).mp v2
      exact (hk V hD).mpr (crs_solve w.1 w.2)
  · rintro ⟨i, i1, i2, i3⟩
    unfold kc at i3
    rw [if_neg (by decide), vc_bnp i2] at i3
    generalize hV : bnp (k := k) 2 i = V at i3
    have v1 : Bd V 2 := by rw [← hV]; exact bnp_bd
    have hs : Bd (sT A V) 2 := dr_bd 0 hA (Bd_t v1)
    have hD : crs (V 0) (V 1) (sT A V 0) (sT A V 1) ≠ z0 := fun q => by
      unfold kcQ at i3
      rw [if_pos q] at i3
      omega
    have w := (hk V hD).mp i3
    refine ⟨V, v1, (hin V v1).mpr ?_, ?_⟩
    · refine crs_zero (x0 := ad (sT A (sT A V) 0) (ad (ml b1 (sT A V 0)) (ml b0 (V 0)))) (x1 := ad (sT A (sT A V) 1) (ad (ml b1 (sT A V 1)) (ml b0 (V 1)))) hD ?_ ?_
      · rw [crs_add, crs_add, crs_mul, crs_mul, crs_self, ml_zero, ad_zero, w.1, crs_neg (V 0) (V 1) (sT A V 0) (sT A V 1), ml_ng, ad_neg]
      · rw [crs_add, crs_add, crs_mul, crs_mul, crs_self, ml_zero, zero_ad, crs_neg (sT A V 0) (sT A V 1) (sT A (sT A V) 0) (sT A (sT A V) 1), w.2, ad_comm, ad_neg]
    · -- (c1 t + c0) V is 1
      generalize hE : crs (V 0) (V 1) (sT A V 0) (sT A V 1) = D at hD
      have li := lin_V hA v1 (ml (ng (V 1)) (iv D)) (ml (sT A V 1) (iv D))
      have one_ : adp (scl (ml (ng (V 1)) (iv D)) (sT A V)) (scl (ml (sT A V 1) (iv D)) V) = one := by
        have hb : Bd (adp (scl (ml (ng (V 1)) (iv D)) (sT A V)) (scl (ml (sT A V 1) (iv D)) V)) 2 := Bd_adp' (scl_b hs) (scl_b v1)
        funext j
        by_cases r0 : j = 0
        · rw [r0]
          show ad (ml (ml (ng (V 1)) (iv D)) (sT A V 0)) (ml (ml (sT A V 1) (iv D)) (V 0)) = e1
          have f1 : ml (ml (ng (V 1)) (iv D)) (sT A V 0) = ml (ng (ml (V 1) (sT A V 0))) (iv D) := by rw [ml_assoc, ml_comm (iv D), ← ml_assoc, ng_ml]
          have f2 : ml (ml (sT A V 1) (iv D)) (V 0) = ml (ml (V 0) (sT A V 1)) (iv D) := by rw [ml_comm, ← ml_assoc]
          rw [f1, f2, ← ad_ml, ad_comm, show ad (ml (V 0) (sT A V 1)) (ng (ml (V 1) (sT A V 0))) = D from hE, ml_iv _ hD]
        · by_cases r1 : j = 1
          · rw [r1]
            show ad (ml (ml (ng (V 1)) (iv D)) (sT A V 1)) (ml (ml (sT A V 1) (iv D)) (V 1)) = z0
            have f1 : ml (ml (ng (V 1)) (iv D)) (sT A V 1) = ng (ml (ml (sT A V 1) (iv D)) (V 1)) := by
              rw [ng_ml, ng_ml, ml_comm, ← ml_assoc, ml_assoc, ml_assoc, ml_comm (iv D)]
            rw [f1, ad_comm, ad_neg]
          · rw [hb j (by omega)]
            exact (if_neg r0).symm
      rw [one_] at li
      obtain ⟨q, m, hq', eq⟩ := li
      refine ⟨adp (mono (ml (ng (V 1)) (iv D)) 1) (cst (ml (sT A V 1) (iv D))), sbp pz q, 2 + m, (Bd_adp' (mono_bd _ 1) (fun j hj => if_neg (by omega)) : Bd _ 2).mono (by omega), (Bd_sbp (n := 0) (fun _ _ => rfl) hq').mono (by omega), ?_⟩
      rw [sbp_mlp, pz_mlp, ← eq]
      generalize mlp (adp (mono (ml (ng (V 1)) (iv D)) 1) (cst (ml (sT A V 1) (iv D)))) V = f
      funext j
      show ad (f j) (ad z0 (ng (ad (f j) (ng (one j))))) = one j
      rw [zero_ad, ng_ad, ng_ng, ← ad_assoc, ad_neg, zero_ad]
theorem kc_lt {k n i : Nat} {A : Pl k} (hn : n = 1 ∨ n = 2) : kc A n i < (unq k n : Int) := by
  unfold kc unq
  rcases hn with e | e
  · rw [if_pos e, e, Nat.pow_one]
    have := (ng (ml (sT A (vc i) 0) (iv (vc (k := k) i 0)))).isLt
    show ((ng (ml (sT A (vc i) 0) (iv (vc (k := k) i 0)))).val : Int) < _
    omega
  · rw [if_neg (by omega), e, Nat.pow_succ, Nat.pow_one]
    unfold kcQ
    have hq := qq_pos k
    have h0 : 0 < qq k * qq k := Nat.mul_pos hq hq
    split
    · omega
    · generalize ml (crs (sT A (sT A (vc i)) 0) (sT A (sT A (vc i)) 1) (vc i 0) (vc i 1)) (iv (crs (vc i 0) (vc i 1) (sT A (vc i) 0) (sT A (vc (k := k) i) 1))) = x
      generalize ml (crs (sT A (vc i) 0) (sT A (vc i) 1) (sT A (sT A (vc i)) 0) (sT A (sT A (vc i)) 1)) (iv (crs (vc i 0) (vc i 1) (sT A (vc i) 0) (sT A (vc (k := k) i) 1))) = y
      have a := x.isLt
      have b := y.isLt
      have c : (x.val + 1) * qq k ≤ qq k * qq k := Nat.mul_le_mul_right _ a
      rw [Nat.add_mul, Nat.one_mul] at c
      have d : ((x.val * qq k + y.val : Nat) : Int) = (x.val : Int) * (qq k : Int) + (y.val : Int) := by rw [Int.natCast_add, Int.natCast_mul]
      rw [← d]
      omega
theorem sI_pad {f : Nat → Int} {a : Nat} : ∀ {b : Nat}, a ≤ b → (∀ i : Nat, a ≤ i → f i = 0) → sI f b = sI f a
  | 0, h, _ => by rw [show a = 0 by omega]
  | b + 1, h, hz => by
    by_cases e : a = b + 1
    · rw [e]
    · show sI f b + f b = _
      rw [hz b (by omega), sI_pad (show a ≤ b by omega) hz]
      omega
theorem likes_eq {k n Q : Nat} {A : Pl k} (hA : IsDg A (n : Int)) (hn : (n = 1 ∧ Q = qq k) ∨ (n = 2 ∧ Q = qq k * qq k)) : sI (fun c => bz (fwI A (mnp (k := k) n c) n ≠ -1)) (unq k n) = sI (fun j => bz (MKd A n Q (j : Int))) 256 := by
  have hu : unq k n ≤ 256 := by
    have := qq_le k
    unfold unq
    rcases hn with ⟨e, _⟩ | ⟨e, _⟩
    · rw [e, Nat.pow_one]; omega
    · rw [e, Nat.pow_succ, Nat.pow_one]
      exact Nat.le_trans (Nat.mul_le_mul this this) (by decide)
  rw [sI_pad hu (fun j hj => bz_neg (fun q => by
    obtain ⟨i, _, _, e⟩ := q
    have := kc_lt (k := k) (n := n) (i := i) (A := A) (by omega)
    omega))]
  refine sI_congr (fun c hc => bz_congr ?_)
  rw [fw_LK hA mnp_is (by omega) (by omega)]
  rcases hn with ⟨e, e2⟩ | ⟨e, e2⟩
  · subst e; rw [e2]; exact LK_1 hA hc
  · subst e; rw [e2]; exact LK_2 hA hc
theorem tp_mul {k : Nat} (i j : Nat) : mlp (mono (e1 : El k) i) (mono e1 j) = mono e1 (i + j) := by
  funext n
  rw [mono_mlp]
  show (if i ≤ n then ml e1 (sg i (if n - i = j then e1 else z0)) else z0) = if n = i + j then e1 else z0
  by_cases h : i ≤ n
  · rw [if_pos h]
    by_cases h2 : n - i = j
    · rw [if_pos h2, sg_e, one_ml, if_pos (by omega)]
    · rw [if_neg h2, sg_z, ml_zero, if_neg (by omega)]
  · rw [if_neg h, if_neg (by omega)]
theorem tp_0 {k : Nat} (f : Pl k) : mlp (mono e1 0) f = f := one_mlp f
/-- on the places of so many times MAP's order only -/
def Csp {k : Nat} (f : Pl k) : Prop := ∀ l : Nat, l % mm k ≠ 0 → f l = z0
theorem sg_mul {k : Nat} (j : Nat) (a : El k) : sg (j * mm k) a = a := by rw [← sg_mod, Nat.mul_mod_left, sg_0]
theorem sg_m0 {k l : Nat} (h : l % mm k = 0) (a : El k) : sg l a = a := by rw [← sg_mod, h, sg_0]
theorem sm_rev {k : Nat} {h g : Nat → El k} : ∀ {n : Nat}, (∀ i : Nat, i ≤ n → h i = g (n - i)) → sm h (n + 1) = sm g (n + 1) := by
  intro n e
  have key : ∀ t : Nat, t ≤ n + 1 → ad (sm g (n + 1 - t)) (sm h t) = sm g (n + 1) := fun t => by
    induction t with
    | zero => intro _; show ad (sm g (n + 1)) z0 = _; rw [ad_zero]
    | succ t ih =>
      intro ht
      have i1 := ih (by omega)
      rw [show n + 1 - t = (n - t) + 1 by omega] at i1
      rw [show n + 1 - (t + 1) = n - t by omega]
      have i2 : ad (ad (sm g (n - t)) (g (n - t))) (sm h t) = sm g (n + 1) := i1
      show ad (sm g (n - t)) (ad (sm h t) (h t)) = _
      rw [e t (by omega), ad_comm (sm h t), ← ad_assoc]
      exact i2
  have w := key (n + 1) (Nat.le_refl _)
  rw [Nat.sub_self] at w
  have w2 : ad z0 (sm h (n + 1)) = sm g (n + 1) := w
  rw [zero_ad] at w2
  exact w2
theorem csp_comm {k : Nat} {f g : Pl k} (hf : Csp f) (hg : Csp g) : mlp f g = mlp g f := by
  funext n
  refine sm_rev (h := fun i => ml (f i) (sg i (g (n - i)))) (g := fun i => ml (g i) (sg i (f (n - i)))) (fun i hi => ?_)
  show ml (f i) (sg i (g (n - i))) = ml (g (n - i)) (sg (n - i) (f (n - (n - i))))
  rw [show n - (n - i) = i by omega]
  by_cases a : i % mm k = 0
  · by_cases b : (n - i) % mm k = 0
    · rw [sg_m0 a, sg_m0 b, ml_comm]
    · rw [hg _ b, sg_z, ml_zero, zero_ml]
  · rw [hf _ a, zero_ml, sg_z, ml_zero]
theorem csp_mlp {k : Nat} {f g : Pl k} (hf : Csp f) (hg : Csp g) : Csp (mlp f g) := fun n hn => sm_z fun i hi => by
  by_cases a : i % mm k = 0
  · have b : (n - i) % mm k ≠ 0 := fun q => hn (by
      have := Nat.add_mod i (n - i) (mm k)
      rw [a, q, show i + (n - i) = n by omega] at this
      rw [this]
      exact Nat.zero_mod _)
    rw [hg _ b, sg_z, ml_zero]
  · rw [hf _ a, zero_ml]
/-- of its class i only, as one of class 0 -/
def cpt {k : Nat} (f : Pl k) (i : Nat) : Pl k := fun l => if l % mm k = 0 then f (l + i) else z0
theorem cpt_csp {k : Nat} (f : Pl k) (i : Nat) : Csp (cpt f i) := fun l h => if_neg h
theorem cpt_bd {k b : Nat} {f : Pl k} (h : Bd f b) (i : Nat) : Bd (cpt f i) b := fun l hl => by
  show (if _ then _ else _) = _
  split
  · exact h _ (by omega)
  · rfl
theorem cpt_t {k : Nat} (f : Pl k) {i : Nat} (hi : i < mm k) (l : Nat) : mlp (cpt f i) (mono e1 i) l = if l % mm k = i then f l else z0 := by
  rw [mlp_mono, sg_e]
  by_cases h : i ≤ l
  · rw [if_pos h, ml_one]
    show (if (l - i) % mm k = 0 then f (l - i + i) else z0) = _
    have e : (l - i) % mm k = 0 ↔ l % mm k = i := by
      have h1 := Nat.div_add_mod (l - i) (mm k)
      have h2 := Nat.div_add_mod l (mm k)
      constructor
      · intro q
        rw [q] at h1
        rw [show l = i + mm k * ((l - i) / mm k) by omega, Nat.add_mul_mod_self_left, Nat.mod_eq_of_lt hi]
      · intro q
        rw [q] at h2
        rw [show l - i = mm k * (l / mm k) by omega, Nat.mul_mod_right]
    by_cases q : l % mm k = i
    · rw [if_pos (e.mpr q), if_pos q, show l - i + i = l by omega]
    · rw [if_neg (fun z => q (e.mp z)), if_neg q]
  · rw [if_neg h, if_neg (fun q => by have := Nat.mod_le l (mm k); omega)]
/-- an element of R A whose last class is i, with its own degree d, and 1 there -/
def Ecl {k : Nat} (A : Pl k) (i d : Nat) : Prop := ∃ (P : Pl k) (b : Nat), Bd P b ∧ InL P A ∧ P (d * mm k + i) = e1 ∧ ∀ l : Nat, P l ≠ z0 → l % mm k < i ∨ (l % mm k = i ∧ l ≤ d * mm k + i)
theorem ecl_of {k b : Nat} {A P : Pl k} (hb : Bd P b) (hP : InL P A) (hne : P ≠ pz) : ∃ i d : Nat, i < mm k ∧ P (d * mm k + i) ≠ z0 ∧ Ecl A i d := by
  have hm := mm_pos k
  -- the last class in use, and in it the last place
  have h1 : ∃ r : Nat, ∃ l : Nat, P l ≠ z0 ∧ mm k - 1 - l % mm k = r := by
    apply Classical.byContradiction
    intro q
    apply hne
    funext l
    apply Classical.byContradiction
    intro q2
    exact q ⟨_, l, q2, rfl⟩
  obtain ⟨r, ⟨l0, p0, e0⟩, hr⟩ := nat_first h1
  have h2 : ∃ s : Nat, ∃ l : Nat, P l ≠ z0 ∧ l % mm k = l0 % mm k ∧ b - l = s := ⟨_, l0, p0, rfl, rfl⟩
  obtain ⟨s, ⟨l1, p1, c1, e1_⟩, hs⟩ := nat_first h2
  have lb : ∀ l, P l ≠ z0 → l < b := fun l q => by
    rcases Nat.lt_or_ge l b with z | z
    · exact z
    · exact absurd (hb l z) q
  have ml0 := Nat.mod_lt l0 hm
  have dm := Nat.div_add_mod l1 (mm k)
  have em : l1 / mm k * mm k + l1 % mm k = l1 := by rw [Nat.mul_comm]; exact dm
  have b1 := lb l1 p1
  refine ⟨l1 % mm k, l1 / mm k, Nat.mod_lt _ hm, by rw [em]; exact p1, scl (iv (P l1)) P, b, scl_b hb, hP.scl _, ?_, fun l hl => ?_⟩
  · show ml (iv (P l1)) (P _) = e1
    rw [em, ml_comm, ml_iv _ p1]
  · have pl : P l ≠ z0 := fun q => hl (by show ml _ (P l) = z0; rw [q, ml_zero])
    have bl := lb l pl
    have mlt := Nat.mod_lt l hm
    rw [em, c1]
    have a1 : ¬ mm k - 1 - l % mm k < r := fun q => hr _ q ⟨l, pl, rfl⟩
    by_cases q : l % mm k = l0 % mm k
    · have a2 : ¬ b - l < s := fun z => hs _ z ⟨l, pl, q, rfl⟩
      exact Or.inr ⟨q, by omega⟩
    · exact Or.inl (by omega)
/-- more numbers than are left make one of R A -/
theorem ecl_ex {k n i : Nat} {A : Pl k} (hA : IsDg A (n : Int)) (hi : i < mm k) : ∃ d : Nat, Ecl A i d := by
  apply Classical.byContradiction
  intro hno
  have hm := mm_pos k
  -- the one of number c on the class i
  have hP : ∀ c : Nat, ∃ P : Pl k, P = fun l => if l % mm k = i ∧ l / mm k < n + 1 then el k (dgn (qq k) c (l / mm k)) else z0 := fun c => ⟨_, rfl⟩
  have hbd : ∀ c : Nat, Bd (fun l => if l % mm k = i ∧ l / mm k < n + 1 then el k (dgn (qq k) c (l / mm k)) else z0) ((n + 1) * mm k) := fun c l hl => if_neg (fun q => by
    have h1 : n + 1 ≤ l / mm k := by rw [Nat.le_div_iff_mul_le hm]; exact hl
    omega)
  have := inj_le (g := fun c => cdp (dr 0 (fun l => if l % mm k = i ∧ l / mm k < n + 1 then el k (dgn (qq k) c (l / mm k)) else z0) A) n) (a := unq k (n + 1)) (b := unq k n) (fun c _ => cdp_lt _ n) (fun c c' hc hc' e => by
    have e2 : dr 0 (fun l => if l % mm k = i ∧ l / mm k < n + 1 then el k (dgn (qq k) c (l / mm k)) else z0) A = dr 0 (fun l => if l % mm k = i ∧ l / mm k < n + 1 then el k (dgn (qq k) c' (l / mm k)) else z0) A := by
      rw [bnp_cdp (dr_bd 0 hA (hbd c)), bnp_cdp (dr_bd 0 hA (hbd c'))]
      exact congrArg _ e
    have d1 := dr_sub hA (hbd c)
    have d2 := dr_sub hA (hbd c')
    rw [← e2] at d2
    generalize dr 0 (fun l => if l % mm k = i ∧ l / mm k < n + 1 then el k (dgn (qq k) c (l / mm k)) else z0) A = R at d1 d2
    have hI := d1.sub d2
    have hz : sbp (fun l => if l % mm k = i ∧ l / mm k < n + 1 then el k (dgn (qq k) c (l / mm k)) else z0) (fun l => if l % mm k = i ∧ l / mm k < n + 1 then el k (dgn (qq k) c' (l / mm k)) else z0) = pz := by
      apply Classical.byContradiction
      intro hne
      have hI2 : InL (sbp (fun l => if l % mm k = i ∧ l / mm k < n + 1 then el k (dgn (qq k) c (l / mm k)) else z0) (fun l => if l % mm k = i ∧ l / mm k < n + 1 then el k (dgn (qq k) c' (l / mm k)) else z0)) A := by
        have e3 : ∀ f g : Pl k, sbp (sbp f R) (sbp g R) = sbp f g := fun f g => by
          funext j
          show ad (ad (f j) (ng (R j))) (ng (ad (g j) (ng (R j)))) = ad (f j) (ng (g j))
          rw [ng_ad, ng_ng, ad4, ad_comm (ng (R j)), ad_neg, ad_zero]
        rw [e3] at hI
        exact hI
      obtain ⟨i', d, h1, h2, h3⟩ := ecl_of (Bd_sbp' (hbd c) (hbd c')) hI2 hne
      have h4 : (d * mm k + i') % mm k = i' := by rw [Nat.mul_comm, Nat.mul_add_mod, Nat.mod_eq_of_lt h1]
      have h5 : i' = i := by
        apply Classical.byContradiction
        intro q
        apply h2
        show ad (if (d * mm k + i') % mm k = i ∧ _ then _ else z0) (ng (if (d * mm k + i') % mm k = i ∧ _ then _ else z0)) = z0
        rw [if_neg (fun z => q (by rw [← h4]; exact z.1)), if_neg (fun z => q (by rw [← h4]; exact z.1)), ng_z, ad_zero]
      rw [h5] at h3
      exact hno ⟨d, h3⟩
    have key : ∀ j : Nat, j < n + 1 → dgn (qq k) c j = dgn (qq k) c' j := fun j hj => by
      have w := congrFun hz (j * mm k + i)
      have h4 : (j * mm k + i) % mm k = i := by rw [Nat.mul_comm, Nat.mul_add_mod, Nat.mod_eq_of_lt hi]
      have h5 : (j * mm k + i) / mm k = j := by rw [Nat.mul_comm, Nat.mul_add_div hm, Nat.div_eq_of_lt hi, Nat.add_zero]
      have w2 : ad (if (j * mm k + i) % mm k = i ∧ (j * mm k + i) / mm k < n + 1 then el k (dgn (qq k) c ((j * mm k + i) / mm k)) else z0) (ng (if (j * mm k + i) % mm k = i ∧ (j * mm k + i) / mm k < n + 1 then el k (dgn (qq k) c' ((j * mm k + i) / mm k)) else z0)) = z0 := w
      rw [h4, h5, if_pos ⟨rfl, hj⟩, if_pos ⟨rfl, hj⟩] at w2
      have w3 := congrArg Fin.val (ng_eq0 w2)
      rw [dgn_val, dgn_val] at w3
      exact w3
    have e3 : bnp (k := k) (n + 1) c = bnp (n + 1) c' := by
      funext j
      show (if j < n + 1 then el k (dgn (qq k) c j) else z0) = if j < n + 1 then el k (dgn (qq k) c' j) else z0
      by_cases q : j < n + 1
      · rw [if_pos q, if_pos q, key j q]
      · rw [if_neg q, if_neg q]
    rw [← cdp_bnp (k := k) hc, ← cdp_bnp (k := k) hc', e3])
  rw [unq_s] at this
  have h1 := unq_pos k n
  have h2 := qq_ge k
  have h3 : unq k n * 2 ≤ unq k n * qq k := Nat.mul_le_mul_left _ (by omega)
  omega
def sN (D : Nat → Nat) : Nat → Nat
  | 0 => 0
  | i + 1 => sN D i + D i
theorem sN_le {D : Nat → Nat} {i : Nat} : ∀ {m : Nat}, i < m → sN D i + D i ≤ sN D m
  | 0, h => by omega
  | m + 1, h => by
    show _ ≤ sN D m + D m
    by_cases e : i = m
    · rw [e]; exact Nat.le_refl _
    · have := sN_le (D := D) (show i < m by omega)
      omega
theorem sN_at {D : Nat → Nat} {s : Nat} : ∀ {m : Nat}, s < sN D m → ∃ i a : Nat, i < m ∧ a < D i ∧ s = sN D i + a
  | 0, h => absurd h (Nat.not_lt_zero _)
  | m + 1, h => by
    have h' : s < sN D m + D m := h
    by_cases q : s < sN D m
    · obtain ⟨i, a, h1, h2, h3⟩ := sN_at q
      exact ⟨i, a, by omega, h2, h3⟩
    · exact ⟨m, s - sN D m, by omega, by omega, by omega⟩
theorem ecl_sum {k n : Nat} {A : Pl k} (hA : IsDg A (n : Int)) {D : Nat → Nat} (hD : ∀ i : Nat, i < mm k → ∀ d : Nat, d < D i → ¬ Ecl A i d) : sN D (mm k) ≤ n := by
  have hm := mm_pos k
  have hml : ∀ l : Nat, l % mm k < mm k := fun l => Nat.mod_lt l hm
  have hbd : ∀ c : Nat, Bd (fun l => if l / mm k < D (l % mm k) then el k (dgn (qq k) c (sN D (l % mm k) + l / mm k)) else z0) (sN D (mm k) * mm k) := fun c l hl => if_neg (fun q => by
    have h1 : sN D (mm k) ≤ l / mm k := by rw [Nat.le_div_iff_mul_le hm]; exact hl
    have h2 := sN_le (D := D) (hml l)
    omega)
  have h := inj_le (g := fun c => cdp (dr 0 (fun l => if l / mm k < D (l % mm k) then el k (dgn (qq k) c (sN D (l % mm k) + l / mm k)) else z0) A) n) (a := unq k (sN D (mm k))) (b := unq k n) (fun c _ => cdp_lt _ n) (fun c c' hc hc' e => by
    have e2 : dr 0 (fun l => if l / mm k < D (l % mm k) then el k (dgn (qq k) c (sN D (l % mm k) + l / mm k)) else z0) A = dr 0 (fun l => if l / mm k < D (l % mm k) then el k (dgn (qq k) c' (sN D (l % mm k) + l / mm k)) else z0) A := by
      rw [bnp_cdp (dr_bd 0 hA (hbd c)), bnp_cdp (dr_bd 0 hA (hbd c'))]
      exact congrArg _ e
    have d1 := dr_sub hA (hbd c)
    have d2 := dr_sub hA (hbd c')
    rw [← e2] at d2
    generalize dr 0 (fun l => if l / mm k < D (l % mm k) then el k (dgn (qq k) c (sN D (l % mm k) + l / mm k)) else z0) A = R at d1 d2
    have hI := d1.sub d2
    have e3 : ∀ f g : Pl k, sbp (sbp f R) (sbp g R) = sbp f g := fun f g => by
      funext j
      show ad (ad (f j) (ng (R j))) (ng (ad (g j) (ng (R j)))) = ad (f j) (ng (g j))
      rw [ng_ad, ng_ng, ad4, ad_comm (ng (R j)), ad_neg, ad_zero]
    rw [e3] at hI
    have hz : sbp (fun l => if l / mm k < D (l % mm k) then el k (dgn (qq k) c (sN D (l % mm k) + l / mm k)) else z0) (fun l => if l / mm k < D (l % mm k) then el k (dgn (qq k) c' (sN D (l % mm k) + l / mm k)) else z0) = pz := by
      apply Classical.byContradiction
      intro hne
      obtain ⟨i', d, h1, h2, h3⟩ := ecl_of (Bd_sbp' (hbd c) (hbd c')) hI hne
      have h4 : (d * mm k + i') % mm k = i' := by rw [Nat.mul_comm, Nat.mul_add_mod, Nat.mod_eq_of_lt h1]
      have h5 : (d * mm k + i') / mm k = d := by rw [Nat.mul_comm, Nat.mul_add_div hm, Nat.div_eq_of_lt h1, Nat.add_zero]
      have h6 : d < D i' := by
        apply Classical.byContradiction
        intro q
        apply h2
        show ad (if (d * mm k + i') / mm k < D ((d * mm k + i') % mm k) then _ else z0) (ng (if (d * mm k + i') / mm k < D ((d * mm k + i') % mm k) then _ else z0)) = z0
        rw [h4, h5, if_neg q, if_neg q, ng_z, ad_zero]
      exact hD i' h1 d h6 h3
    have key : ∀ s : Nat, s < sN D (mm k) → dgn (qq k) c s = dgn (qq k) c' s := fun s hs => by
      obtain ⟨i, a, h1, h2, h3⟩ := sN_at hs
      have w := congrFun hz (a * mm k + i)
      have h4 : (a * mm k + i) % mm k = i := by rw [Nat.mul_comm, Nat.mul_add_mod, Nat.mod_eq_of_lt h1]
      have h5 : (a * mm k + i) / mm k = a := by rw [Nat.mul_comm, Nat.mul_add_div hm, Nat.div_eq_of_lt h1, Nat.add_zero]
      have w2 : ad (if (a * mm k + i) / mm k < D ((a * mm k + i) % mm k) then el k (dgn (qq k) c (sN D ((a * mm k + i) % mm k) + (a * mm k + i) / mm k)) else z0) (ng (if (a * mm k + i) / mm k < D ((a * mm k + i) % mm k) then el k (dgn (qq k) c' (sN D ((a * mm k + i) % mm k) + (a * mm k + i) / mm k)) else z0)) = z0 := w
      rw [h4, h5, if_pos h2, if_pos h2, ← h3] at w2
      have w3 := congrArg Fin.val (ng_eq0 w2)
      rw [dgn_val, dgn_val] at w3
      exact w3
    have e4 : bnp (k := k) (sN D (mm k)) c = bnp (sN D (mm k)) c' := by
      funext j
      show (if j < sN D (mm k) then el k (dgn (qq k) c j) else z0) = if j < sN D (mm k) then el k (dgn (qq k) c' j) else z0
      by_cases q : j < sN D (mm k)
      · rw [if_pos q, if_pos q, key j q]
      · rw [if_neg q, if_neg q]
    rw [← cdp_bnp (k := k) hc, ← cdp_bnp (k := k) hc', e4])
  rcases Nat.lt_or_ge n (sN D (mm k)) with q | q
  · exfalso
    have h2 : qq k ^ n < qq k ^ sN D (mm k) := Nat.pow_lt_pow_right (by have := qq_ge k; omega) q
    unfold unq at h
    omega
  · exact q
theorem sbp_sbp {k : Nat} (f g : Pl k) : sbp f (sbp f g) = g := by
  funext l
  show ad (f l) (ng (ad (f l) (ng (g l)))) = g l
  rw [ng_ad, ng_ng, ← ad_assoc, ad_neg, zero_ad]
/-- takes all of the first i classes into R A -/
theorem ann_i {k : Nat} {A : Pl k} {D : Nat → Nat} (hD : ∀ i : Nat, i < mm k → Ecl A i (D i)) : ∀ i : Nat, i ≤ mm k → ∃ H : Pl k, Csp H ∧ Mn H (sN D i * mm k) ∧ ∀ (W : Pl k) (b : Nat), Bd W b → (∀ l : Nat, W l ≠ z0 → l % mm k < i) → InL (mlp H W) A
  | 0, _ => by
    refine ⟨one, fun l hl => if_neg (fun q => hl (by rw [q]; exact Nat.zero_mod _)), ?_, fun W b _ hW => ?_⟩
    · show Mn one (0 * mm k)
      rw [Nat.zero_mul]
      exact ⟨⟨by decide, fun j hj => if_neg (by omega), fun _ => e1_ne⟩, rfl⟩
    · have e : W = pz := by
        funext l
        apply Classical.byContradiction
        intro q
        have := hW l q
        omega
      rw [e, mlp_pz]
      exact ⟨pz, 0, fun _ _ => rfl, (pz_mlp A).symm⟩
  | i + 1, hi => by
    obtain ⟨H, h1, h2, h3⟩ := ann_i hD i (by omega)
    obtain ⟨P, b, p1, p2, p3, p4⟩ := hD i (by omega)
    have hi' : i < mm k := by omega
    have hHb := Bd_is h2.1
    have hT : Bd (mono (e1 : El k) i) (i + 1) := mono_bd _ _
    -- the rest of f, its class i taken off
    have rest : ∀ f : Pl k, (∀ l : Nat, f l ≠ z0 → l % mm k < i + 1) → ∀ l : Nat, sbp f (mlp (cpt f i) (mono e1 i)) l ≠ z0 → l % mm k < i := fun f hf l q => by
      by_cases z : l % mm k = i
      · exfalso
        apply q
        show ad (f l) (ng (mlp (cpt f i) (mono e1 i) l)) = z0
        rw [cpt_t f hi', if_pos z, ad_neg]
      · have q2 : f l ≠ z0 := fun y => q (by
          show ad (f l) (ng (mlp (cpt f i) (mono e1 i) l)) = z0
          rw [cpt_t f hi', if_neg z, y, ng_z, ad_zero])
        have := hf l q2
        omega
    have gt : Mn (cpt P i) (D i * mm k) := by
      have m0 : D i * mm k % mm k = 0 := Nat.mul_mod_left _ _
      have top : cpt P i (D i * mm k) = e1 := by
        show (if D i * mm k % mm k = 0 then P (D i * mm k + i) else z0) = e1
        rw [if_pos m0, p3]
      refine ⟨⟨by omega, fun l hl => ?_, fun _ => ?_⟩, top⟩
      · show (if l % mm k = 0 then P (l + i) else z0) = z0
        by_cases z : l % mm k = 0
        · rw [if_pos z]
          apply Classical.byContradiction
          intro q
          have e : (l + i) % mm k = i := by rw [Nat.add_mod, z, Nat.zero_add, Nat.mod_mod, Nat.mod_eq_of_lt hi']
          rcases p4 _ q with y | y <;> omega
        · rw [if_neg z]
      · rw [show (((D i * mm k : Nat) : Int)).toNat = D i * mm k by omega, top]
        exact e1_ne
    have hg := cpt_csp P i
    have hgb := cpt_bd p1 i
    have pr := IsDg_mlp h2.1 gt.1
    refine ⟨mlp H (cpt P i), csp_mlp h1 hg, ?_, fun W b' hW hc => ?_⟩
    · show Mn _ ((sN D i + D i) * mm k)
      rw [Nat.add_mul]
      exact ⟨pr.1, by rw [pr.2, h2.2, gt.2, sg_e, ml_one]⟩
    · have hh := cpt_csp W i
      have hhb := cpt_bd hW i
      have e : W = adp (mlp (cpt W i) (mono e1 i)) (sbp W (mlp (cpt W i) (mono e1 i))) := (adp_sbp _ _).symm
      rw [e, mlp_adp]
      refine InL.add ?_ ?_
      · have f1 : mlp (mlp H (cpt P i)) (mlp (cpt W i) (mono e1 i)) = mlp (cpt W i) (mlp H (mlp (cpt P i) (mono e1 i))) := by
          rw [← mlp_assoc, csp_comm (csp_mlp h1 hg) hh, mlp_assoc, mlp_assoc]
        rw [f1]
        refine InL.mul _ hhb ?_
        have f2 : mlp H (mlp (cpt P i) (mono e1 i)) = sbp (mlp H P) (mlp H (sbp P (mlp (cpt P i) (mono e1 i)))) := by
          rw [← mlp_sbp, sbp_sbp]
        rw [f2]
        refine (p2.mul H hHb).sub (h3 _ (b + (b + (i + 1))) (Bd_sbp p1 (Bd_mlp hgb hT)) (rest P (fun l q => ?_)))
        rcases p4 l q with y | y <;> omega
      · rw [csp_comm h1 hg, mlp_assoc]
        exact (h3 _ (b' + (b' + (i + 1))) (Bd_sbp hW (Bd_mlp hhb hT)) (rest W hc)).mul _ hgb
/-- all of R into R A -/
def Ann {k : Nat} (A g : Pl k) : Prop := ∀ (W : Pl k) (b : Nat), Bd W b → InL (mlp g W) A
theorem ann_ex {k n : Nat} {A : Pl k} (hA : IsDg A (n : Int)) : ∃ (e : Nat) (g : Pl k), e ≤ n ∧ Csp g ∧ Mn g (e * mm k) ∧ Ann A g := by
  have hex : ∀ i : Nat, ∃ d : Nat, i < mm k → Ecl A i d ∧ ∀ d' : Nat, d' < d → ¬ Ecl A i d' := fun i => by
    by_cases q : i < mm k
    · obtain ⟨d, h1, h2⟩ := nat_first (ecl_ex hA q)
      exact ⟨d, fun _ => ⟨h1, h2⟩⟩
    · exact ⟨0, fun q2 => absurd q2 q⟩
  have hs := fun i => Classical.choose_spec (hex i)
  obtain ⟨H, h1, h2, h3⟩ := ann_i (A := A) (D := fun i => Classical.choose (hex i)) (fun i hi => (hs i hi).1) (mm k) (Nat.le_refl _)
  exact ⟨sN (fun i => Classical.choose (hex i)) (mm k), H, ecl_sum hA (fun i hi => (hs i hi).2), h1, h2, fun W b hW => h3 W b hW (fun l _ => Nat.mod_lt _ (mm_pos k))⟩
theorem sg_fix0 {k : Nat} : ∀ (a : El k), sg 1 a = a → a.val < pp k := match k with | 0 => by decide +kernel | 1 => by decide +kernel | 2 => by decide +kernel | _ + 3 => (by decide +kernel : ∀ (a : El 3), sg 1 a = a → a.val < pp 3)
theorem t_cancel {k : Nat} {A x : Pl k} (hA0 : A 0 ≠ z0) (h : InL (mlp (mono e1 1) x) A) : InL x A := by
  obtain ⟨q, m, hq, e⟩ := h
  have hm := mm_pos k
  have tx : ∀ (f : Pl k) (l : Nat), mlp (mono e1 1) f (l + 1) = sg 1 (f l) := fun f l => by
    rw [mono_mlp, if_pos (by omega), one_ml, show l + 1 - 1 = l by omega]
  have t0 : ∀ f : Pl k, mlp (mono e1 1) f 0 = z0 := fun f => by rw [mono_mlp, if_neg (by omega)]
  have q0 : q 0 = z0 := by
    have w := congrFun e 0
    rw [t0] at w
    have w2 : z0 = ad z0 (ml (q 0) (sg 0 (A 0))) := w
    rw [zero_ad, sg_0] at w2
    rcases ml_eq_zero w2.symm with y | y
    · exact y
    · exact absurd y hA0
  refine ⟨fun l => sg (mm k - 1) (q (l + 1)), m, fun l hl => by show sg _ (q (l + 1)) = z0; rw [hq _ (by omega), sg_z], ?_⟩
  have eq : mlp (mono e1 1) (fun l => sg (mm k - 1) (q (l + 1))) = q := by
    funext l
    cases l with
    | zero => rw [t0, q0]
    | succ l =>
      rw [tx]
      show sg 1 (sg (mm k - 1) (q (l + 1))) = _
      rw [← sg_sg, show 1 + (mm k - 1) = 1 * mm k by omega, sg_mul]
  have e2 : mlp (mono e1 1) x = mlp (mono e1 1) (mlp (fun l => sg (mm k - 1) (q (l + 1))) A) := by rw [← mlp_assoc, eq, e]
  funext l
  have w := congrFun e2 (l + 1)
  rw [tx, tx] at w
  exact sg_inj w
theorem tp_cancel {k : Nat} {A : Pl k} (hA0 : A 0 ≠ z0) : ∀ (j : Nat) {x : Pl k}, InL (mlp (mono e1 j) x) A → InL x A
  | 0, x, h => by rw [tp_0] at h; exact h
  | j + 1, x, h => by
    rw [show j + 1 = 1 + j by omega, ← tp_mul, mlp_assoc] at h
    exact tp_cancel hA0 j (t_cancel hA0 h)
theorem csp_t {k : Nat} (j : Nat) : Csp (mono (e1 : El k) (j * mm k)) := fun l hl => if_neg (fun q => hl (by rw [q]; exact Nat.mul_mod_left _ _))
/-- where t can be taken off: a central one in R A -/
theorem cen_0 {k n : Nat} {A : Pl k} (hA : IsDg A (n : Int)) (hA0 : A 0 ≠ z0) : ∃ (e : Nat) (g : Pl k), e ≤ n ∧ Csp g ∧ Mn g (e * mm k) ∧ (∀ l : Nat, (g l).val < pp k) ∧ InL g A := by
  have hm := mm_pos k
  obtain ⟨e0, g0, a1, a2, a3, a4⟩ := ann_ex hA
  obtain ⟨e, ⟨g, h1, h2, h3⟩, hmin⟩ := nat_first (q := fun e => ∃ g : Pl k, Csp g ∧ Mn g (e * mm k) ∧ Ann A g) ⟨e0, g0, a2, a3, a4⟩
  have he : e ≤ n := by
    rcases Nat.lt_or_ge e0 e with q | q
    · exact absurd ⟨g0, a2, a3, a4⟩ (hmin e0 q)
    · omega
  have hgb := Bd_is h2.1
  -- MAP of it does so too
  have hsC : Csp (fun l => sg 1 (g l)) := fun l hl => by show sg 1 (g l) = z0; rw [h1 l hl, sg_z]
  have tg : mlp (mono e1 1) g = mlp (fun l => sg 1 (g l)) (mono e1 1) := by
    funext l
    rw [mono_mlp, mlp_mono]
    by_cases q : 1 ≤ l
    · rw [if_pos q, if_pos q, one_ml, sg_e, ml_one]
    · rw [if_neg q, if_neg q]
  have hsA : Ann A (fun l => sg 1 (g l)) := fun W b hW => by
    refine tp_cancel hA0 (1 * mm k) ?_
    have e1_ : mlp (mono e1 (1 * mm k)) (mlp (fun l => sg 1 (g l)) W) = mlp (mono e1 1) (mlp g (mlp (mono e1 (mm k - 1)) W)) := by
      rw [← mlp_assoc, csp_comm (csp_t 1) hsC, show 1 * mm k = 1 + (mm k - 1) by omega, ← tp_mul, ← mlp_assoc, ← tg, mlp_assoc, mlp_assoc]
    rw [e1_]
    exact (h3 _ (mm k - 1 + 1 + b) (Bd_mlp (mono_bd _ _) hW)).mul _ (mono_bd e1 1)
  have hfix : ∀ l : Nat, sg 1 (g l) = g l := by
    apply Classical.byContradiction
    intro hne
    have hd : sbp g (fun l => sg 1 (g l)) ≠ pz := fun q => hne (fun l => (ng_eq0 (congrFun q l)).symm)
    have hsb : Bd (fun l => sg 1 (g l)) (e * mm k + 1) := fun l hl => by show sg 1 (g l) = z0; rw [hgb l hl, sg_z]
    obtain ⟨a, ha⟩ := isdg_pos (Bd_sbp' hgb hsb) hd
    have hdC : Csp (sbp g (fun l => sg 1 (g l))) := fun l hl => by
      show ad (g l) (ng (sg 1 (g l))) = z0
      rw [h1 l hl, sg_z, ng_z, ad_zero]
    have am : a % mm k = 0 := by
      apply Classical.byContradiction
      intro q
      exact ha.tp (hdC a q)
    have al : a < e * mm k := by
      rcases Nat.lt_trichotomy a (e * mm k) with q | q | q
      · exact q
      · exfalso
        apply ha.tp
        show ad (g a) (ng (sg 1 (g a))) = z0
        rw [q, h2.2, sg_e, ad_neg]
      · exfalso
        apply ha.tp
        show ad (g a) (ng (sg 1 (g a))) = z0
        rw [hgb a (by omega), sg_z, ng_z, ad_zero]
    have ea : a / mm k * mm k = a := by
      have := Nat.div_add_mod a (mm k)
      rw [am, Nat.add_zero, Nat.mul_comm] at this
      exact this
    have ae : a / mm k < e := by
      rcases Nat.lt_or_ge (a / mm k) e with q | q
      · exact q
      · have := Nat.mul_le_mul_right (mm k) q
        omega
    refine hmin (a / mm k) ae ⟨scl (iv (sbp g (fun l => sg 1 (g l)) a)) (sbp g (fun l => sg 1 (g l))), fun l hl => by show ml _ (sbp g _ l) = z0; rw [hdC l hl, ml_zero], ?_, fun W b hW => ?_⟩
    · rw [ea]
      refine ⟨scl_is (iv_ne ha.tp) ha, ?_⟩
      show ml (iv _) (sbp g _ a) = e1
      rw [ml_comm, ml_iv _ ha.tp]
    · rw [scl_mlp, sbp_mlp]
      exact ((h3 W b hW).sub (hsA W b hW)).scl _
  refine ⟨e, g, he, h1, h2, fun l => sg_fix0 _ (hfix l), ?_⟩
  have w := h3 one 1 (fun j hj => if_neg (by omega))
  rw [mlp_one] at w
  exact w
/-- for all -/
theorem cen_all {k n : Nat} {A : Pl k} (hA : IsDg A (n : Int)) : ∃ (e : Nat) (z : Pl k), e ≤ n ∧ Csp z ∧ Mn z (e * mm k) ∧ (∀ l : Nat, (z l).val < pp k) ∧ InL z A := by
  have hm := mm_pos k
  obtain ⟨κ, h0, h1⟩ := nat_first (q := fun l => A l ≠ z0) ⟨n, hA.tp⟩
  have hκ : κ ≤ n := by
    rcases Nat.lt_or_ge n κ with q | q
    · exact absurd hA.tp (h1 n q)
    · exact q
  have hA2 : IsDg (fun l => A (l + κ)) ((n - κ : Nat) : Int) := ⟨by omega, fun l hl => hA.2.1 _ (by omega), fun _ => by
    show A ((((n - κ : Nat) : Int)).toNat + κ) ≠ z0
    rw [show (((n - κ : Nat) : Int)).toNat + κ = n by omega]
    exact hA.tp⟩
  have eA : mlp (fun l => A (l + κ)) (mono e1 κ) = A := by
    funext l
    rw [mlp_mono]
    by_cases q : κ ≤ l
    · rw [if_pos q, sg_e, ml_one, show l - κ + κ = l by omega]
    · rw [if_neg q]
      apply Classical.byContradiction
      intro y
      exact h1 l (by omega) (fun z => y z.symm)
  obtain ⟨e, g, g1, g2, g3, g4, g5⟩ := cen_0 hA2 (show A (0 + κ) ≠ z0 by rw [Nat.zero_add]; exact h0)
  have hkm : κ ≤ κ * mm k := Nat.le_mul_of_pos_right κ hm
  have fx : ∀ (j l : Nat), sg j (g l) = g l := fun j l => by
    have w := sg_pp (k := k) j (g4 l)
    rw [el_val] at w
    exact w
  have ez : ∀ l : Nat, mlp (mono e1 (κ * mm k - κ)) (mlp g (mono e1 κ)) l = if κ * mm k ≤ l then g (l - κ * mm k) else z0 := fun l => by
    rw [mono_mlp]
    by_cases q : κ * mm k ≤ l
    · rw [if_pos (by omega), if_pos q, one_ml, mlp_mono, if_pos (by omega), sg_e, ml_one, fx, show l - (κ * mm k - κ) - κ = l - κ * mm k by omega]
    · rw [if_neg q]
      by_cases q2 : κ * mm k - κ ≤ l
      · rw [if_pos q2, one_ml, mlp_mono, if_neg (by omega), sg_z]
      · rw [if_neg q2]
  have gz := g3.1.2.1
  refine ⟨e + κ, mlp (mono e1 (κ * mm k - κ)) (mlp g (mono e1 κ)), by omega, fun l hl => ?_, ?_, fun l => ?_, ?_⟩
  · rw [ez]
    by_cases q : κ * mm k ≤ l
    · rw [if_pos q]
      refine g2 _ (fun y => hl ?_)
      rw [show l = (l - κ * mm k) + κ * mm k by omega, Nat.add_mul_mod_self_right]
      exact y
    · rw [if_neg q]
  · have top : mlp (mono e1 (κ * mm k - κ)) (mlp g (mono e1 κ)) ((e + κ) * mm k) = e1 := by
      rw [ez, Nat.add_mul, if_pos (by omega), show e * mm k + κ * mm k - κ * mm k = e * mm k by omega, g3.2]
    refine ⟨⟨by omega, fun l hl => ?_, fun _ => ?_⟩, top⟩
    · rw [ez]
      by_cases q : κ * mm k ≤ l
      · rw [if_pos q]
        refine gz _ ?_
        have e4 : (e + κ) * mm k = e * mm k + κ * mm k := Nat.add_mul _ _ _
        omega
      · rw [if_neg q]
    · rw [show ((((e + κ) * mm k : Nat) : Int)).toNat = (e + κ) * mm k by omega, top]
      exact e1_ne
  · rw [ez]
    split
    · exact g4 _
    · rw [z0_val]
      have := pp_ge k
      omega
  · obtain ⟨q, m, hq, eg⟩ := g5
    refine InL.mul _ (mono_bd e1 _) ⟨q, m, hq, ?_⟩
    rw [eg, mlp_assoc, eA]
theorem stN_dr {k n : Nat} {A : Pl k} (hA : IsDg A (n : Int)) : ∀ l : Nat, stN A l = dr 0 (mono e1 l) A
  | 0 => rfl
  | l + 1 => by
    have ih := stN_dr hA l
    have hb : Bd (mlp (mono e1 1) (stN A l)) (2 + n) := Bd_mlp (mono_bd _ _) (stN_bd hA l)
    have hr : Bd (stN A (l + 1)) n := stN_bd hA (l + 1)
    refine (dr_of (m := 0) hA hr ?_).symm
    have d1 : InL (sbp (mlp (mono e1 1) (stN A l)) (stN A (l + 1))) A := dr_sub hA hb
    have d2 : InL (mlp (mono e1 1) (sbp (mono e1 l) (stN A l))) A := by
      rw [ih]
      exact (dr_sub hA (mono_bd e1 l)).mul _ (mono_bd e1 1)
    have e : sbp (mono e1 (l + 1)) (stN A (l + 1)) = adp (mlp (mono e1 1) (sbp (mono e1 l) (stN A l))) (sbp (mlp (mono e1 1) (stN A l)) (stN A (l + 1))) := by
      rw [mlp_sbp, tp_mul, show 1 + l = l + 1 by omega]
      generalize mlp (mono e1 1) (stN A l) = f
      funext j
      show ad (mono e1 (l + 1) j) (ng (stN A (l + 1) j)) = ad (ad (mono e1 (l + 1) j) (ng (f j))) (ad (f j) (ng (stN A (l + 1) j)))
      rw [ad_assoc, ← ad_assoc (ng (f j)), ad_comm (ng (f j)), ad_neg, zero_ad]
    rw [e]
    exact d2.add d1
theorem lcb_tp {k : Nat} {w : Nat → Nat} : ∀ (o l : Nat), lcb w (fun j => mono (e1 : El k) (j * mm k)) o l = if l % mm k = 0 ∧ l / mm k < o then el k (w (l / mm k)) else z0
  | 0, l => (if_neg (fun q => Nat.not_lt_zero _ q.2)).symm
  | o + 1, l => by
    have hm := mm_pos k
    show ad (lcb w _ o l) (ml (el k (w o)) (if l = o * mm k then e1 else z0)) = _
    rw [lcb_tp o l]
    have dm := Nat.div_add_mod l (mm k)
    by_cases q : l = o * mm k
    · have q1 : l % mm k = 0 := by rw [q, Nat.mul_mod_left]
      have q2 : l / mm k = o := by rw [q, Nat.mul_div_cancel _ hm]
      rw [if_pos q, if_neg (by omega), if_pos ⟨q1, by omega⟩, ml_one, zero_ad, q2]
    · rw [if_neg q, ml_zero, ad_zero]
      have q3 : ¬ (l % mm k = 0 ∧ l / mm k = o) := fun y => q (by
        rw [y.1, y.2, Nat.add_zero, Nat.mul_comm] at dm
        exact dm.symm)
      by_cases y : l % mm k = 0 ∧ l / mm k < o
      · rw [if_pos y, if_pos ⟨y.1, by omega⟩]
      · rw [if_neg y, if_neg (fun z => y ⟨z.1, by
          have : l / mm k ≠ o := fun z2 => q3 ⟨z.1, z2⟩
          omega⟩)]
theorem lcb_dr {k n : Nat} {A : Pl k} (hA : IsDg A (n : Int)) {u : Nat → Nat} (hu : ∀ j, u j < pp k) {Y : Nat → Pl k} (hY : ∀ j, ∃ m, Bd (Y j) m) : ∀ o : Nat, (∃ m, Bd (lcb u Y o) m) ∧ lcb u (fun j => dr 0 (Y j) A) o = dr 0 (lcb u Y o) A
  | 0 => ⟨⟨0, fun _ _ => rfl⟩, (dr_pz hA).symm⟩
  | o + 1 => by
    obtain ⟨⟨m, hm⟩, ih⟩ := lcb_dr hA hu hY o
    obtain ⟨m', hm'⟩ := hY o
    refine ⟨⟨m + m', Bd_adp hm (scl_b hm')⟩, ?_⟩
    show adp (lcb u _ o) (scl _ (dr 0 (Y o) A)) = dr 0 (adp (lcb u Y o) (scl (el k (u o)) (Y o))) A
    rw [ih, dr_lin hA hm hm']
theorem lcb_st {k n : Nat} {A : Pl k} (hA : IsDg A (n : Int)) {u : Nat → Nat} (hu : ∀ j, u j < pp k) (o : Nat) : lcb u (fun t_ : Nat => stN A (t_ * mm k)) o = dr 0 (lcb u (fun j => mono (e1 : El k) (j * mm k)) o) A := by
  rw [← (lcb_dr hA hu (Y := fun j => mono e1 (j * mm k)) (fun j => ⟨_, mono_bd _ _⟩) o).2]
  exact lcb_X (fun j _ => stN_dr hA (j * mm k))
/-- nine of them are never independent -/
theorem hex_all {k n : Nat} {A : Pl k} (hA : IsDg A (n : Int)) (n8 : n ≤ 8) (ρ : Nat → Pl k) (w : Nat → Nat → Nat) (pv : Nat → Nat) : ¬ SPp n (fun t_ : Nat => stN A (t_ * mm k)) 9 9 ρ w pv (fun r => r) := fun hS => by
  have hm := mm_pos k
  have hp := pp_ge k
  obtain ⟨e, z, h1, h2, h3, h4, h5⟩ := cen_all hA
  have h3d : IsDg z ((e * mm k : Nat) : Int) := h3.1
  have hv : ∀ j : Nat, (if j < 9 then (z (j * mm k)).val else 0) < pp k := fun j => by
    split
    · exact h4 _
    · omega
  have hz : lcb (fun j => if j < 9 then (z (j * mm k)).val else 0) (fun j => mono (e1 : El k) (j * mm k)) 9 = z := by
    funext l
    rw [lcb_tp]
    have dm := Nat.div_add_mod l (mm k)
    by_cases q : l % mm k = 0 ∧ l / mm k < 9
    · rw [if_pos q]
      rw [q.1, Nat.add_zero, Nat.mul_comm] at dm
      rw [if_pos q.2, dm, el_val]
    · rw [if_neg q]
      by_cases q2 : l % mm k = 0
      · have q3 : 9 ≤ l / mm k := by omega
        have q4 : 9 * mm k ≤ l / mm k * mm k := Nat.mul_le_mul_right _ q3
        have q5 : e * mm k ≤ 8 * mm k := Nat.mul_le_mul_right _ (by omega)
        rw [q2, Nat.add_zero, Nat.mul_comm] at dm
        exact (h3d.2.1 l (by omega)).symm
      · exact (h2 l q2).symm
  have h0 := lcb_st hA hv 9
  rw [hz, h5.lf hA] at h0
  have w0 := ech_ind hS hv (fun j hj => ⟨j, by
    rcases Nat.lt_or_ge j 9 with q | q
    · exact q
    · exact absurd (if_neg (by omega)) hj, rfl⟩) h0 e
  rw [if_pos (by omega), h3.2, e1_val] at w0
  omega
/-- the number of what the class finds -/
theorem cnp_lcb {k : Nat} (e c : Nat) : cnp (k := k) e c = lcb (fun j => if j < e then dgn (pp k) c j else if j = e then 1 else 0) (fun j => mono (e1 : El k) (j * mm k)) (e + 1) := by
  have hm := mm_pos k
  funext l
  rw [lcb_tp]
  show (if l = e * mm k then e1 else if l % mm k = 0 ∧ l < e * mm k then el k (dgn (pp k) c (l / mm k)) else z0) = _
  have dm := Nat.div_add_mod l (mm k)
  by_cases q : l = e * mm k
  · have q1 : l % mm k = 0 := by rw [q, Nat.mul_mod_left]
    have q2 : l / mm k = e := by rw [q, Nat.mul_div_cancel _ hm]
    rw [if_pos q, if_pos ⟨q1, by omega⟩, q2, if_neg (by omega), if_pos rfl]
    rfl
  · rw [if_neg q]
    by_cases q0 : l % mm k = 0
    · rw [q0, Nat.add_zero, Nat.mul_comm] at dm
      by_cases q1 : l < e * mm k
      · have q2 : l / mm k < e := by
          rcases Nat.lt_or_ge (l / mm k) e with y | y
          · exact y
          · have := Nat.mul_le_mul_right (mm k) y
            omega
        rw [if_pos ⟨q0, q1⟩, if_pos ⟨q0, by omega⟩, if_pos q2]
      · have q2 : e < l / mm k := by
          rcases Nat.lt_or_ge e (l / mm k) with y | y
          · exact y
          · have := Nat.mul_le_mul_right (mm k) y
            omega
        rw [if_neg (fun y => q1 y.2), if_neg (by omega)]
    · rw [if_neg (fun y => q0 y.1), if_neg (fun y => q0 y.1)]
theorem cnp_dr {k n e c : Nat} {A : Pl k} (hA : IsDg A (n : Int)) : dr 0 (cnp e c) A = lcb (fun j => if j < e then dgn (pp k) c j else if j = e then 1 else 0) (fun t_ : Nat => stN A (t_ * mm k)) (e + 1) := by
  rw [cnp_lcb, lcb_st hA (fun j => by
    have hp := pp_ge k
    split
    · exact dgn_lt hp _ _
    · split <;> omega)]
theorem bound_eq {k n e0 : Nat} {A : Pl k} {u0 : Nat → Nat} (hA : IsDg A (n : Int)) (hr : SPr (fun t_ : Nat => stN A (t_ * mm k)) e0 e0 (fun r => r) u0) (hs : ∃ (ρ : Nat → Pl k) (w : Nat → Nat → Nat) (pv : Nat → Nat), SPp n (fun t_ : Nat => stN A (t_ * mm k)) e0 e0 ρ w pv (fun r => r)) : ∃ c0 : Nat, c0 < unt k e0 ∧ dr 0 (cnp (k := k) e0 c0) A = pz ∧ (∀ e c : Nat, (e < e0 ∧ c < unt k e) ∨ (e = e0 ∧ c < c0) → dr 0 (cnp (k := k) e c) A ≠ pz) ∧ ∀ m : Nat, m < e0 + 1 → ((cnp (k := k) e0 c0 (mm k * m)).val : Int) = (u0 m : Int) := by
  have hp := pp_ge k
  have hp3 := pp_le k
  obtain ⟨ρ, w, pv, hS⟩ := hs
  obtain ⟨r1, r2, r3, r4, r5⟩ := hr
  have hd : ∀ j, j < e0 → dgn (pp k) (nbS (pp k) u0 0 e0) j = u0 j := fun j hj => dgn_nbS hp r5 e0 j hj
  have hl : nbS (pp k) u0 0 e0 < unt k e0 := nbS_lt (b := 0) r5 e0
  refine ⟨nbS (pp k) u0 0 e0, hl, ?_, fun e c hc hz => ?_, fun m hm' => ?_⟩
  · rw [cnp_dr hA, ← r1]
    refine lcb_congr (fun j hj => ?_)
    by_cases q : j < e0
    · rw [if_pos q, hd j q]
    · rw [if_neg q, if_pos (by omega), show j = e0 by omega, r2]
  · rw [cnp_dr hA] at hz
    rcases hc with ⟨h1, h2⟩ | ⟨h1, h2⟩
    · have hv : ∀ j : Nat, (if j < e then dgn (pp k) c j else if j = e then 1 else 0) < pp k := fun j => by
        split
        · exact dgn_lt hp _ _
        · split <;> omega
      have h0 : lcb (fun j => if j < e then dgn (pp k) c j else if j = e then 1 else 0) (fun t_ : Nat => stN A (t_ * mm k)) e0 = pz := by
        rw [lcb_top (o := e + 1) (fun j hj => by rw [if_neg (by omega), if_neg (by omega)]) (by omega)]
        exact hz
      have z := ech_ind hS hv (fun j hj => ⟨j, by
        have hj' : (if j < e then dgn (pp k) c j else if j = e then 1 else 0) ≠ 0 := hj
        rcases Nat.lt_or_ge j e0 with q | q
        · exact q
        · exact absurd (by rw [if_neg (by omega), if_neg (by omega)]) hj', rfl⟩) h0 e
      rw [if_neg (by omega), if_pos rfl] at z
      omega
    · subst h1
      have hv : ∀ j : Nat, (if j < e then dgn (pp k) c j else if j = e then 1 else 0) < pp k := fun j => by
        split
        · exact dgn_lt hp _ _
        · split <;> omega
      have l := lcb_lin (u := u0) (w := fun j => if j < e then dgn (pp k) c j else if j = e then 1 else 0) (X := fun t_ : Nat => stN A (t_ * mm k)) (c := pp k - 1) (by omega) r5 hv (e + 1)
      rw [r1, hz, scl_pz, pz_adp] at l
      have top : (u0 e + (pp k - 1) * (if e < e then dgn (pp k) c e else if e = e then 1 else 0)) % pp k = 0 := by
        rw [if_neg (by omega), if_pos rfl, r2, Nat.mul_one, show 1 + (pp k - 1) = pp k by omega, Nat.mod_self]
      have l2 := lcb_more (X := fun t_ : Nat => stN A (t_ * mm k)) (w := fun j => (u0 j + (pp k - 1) * (if j < e then dgn (pp k) c j else if j = e then 1 else 0)) % pp k) (o := e) top
      rw [l2] at l
      have above : ∀ j, e < j → (u0 j + (pp k - 1) * (if j < e then dgn (pp k) c j else if j = e then 1 else 0)) % pp k = 0 := fun j hj => by
        rw [r3 j hj, if_neg (by omega), if_neg (by omega), Nat.mul_zero, Nat.zero_mod]
      have z := ech_ind hS (v := fun j => (u0 j + (pp k - 1) * (if j < e then dgn (pp k) c j else if j = e then 1 else 0)) % pp k) (fun j => Nat.mod_lt _ (by omega)) (fun j hj => ⟨j, by
        rcases Nat.lt_trichotomy j e with q | q | q
        · exact q
        · exfalso
          apply hj
          show (u0 j + (pp k - 1) * (if j < e then dgn (pp k) c j else if j = e then 1 else 0)) % pp k = 0
          rw [q]
          exact top
        · exact absurd (above j q) hj, rfl⟩) l
      have ed : ∀ j, j < e → dgn (pp k) c j = u0 j := fun j hj => by
        have y : (u0 j + (pp k - 1) * (if j < e then dgn (pp k) c j else if j = e then 1 else 0)) % pp k = 0 := z j
        rw [if_pos hj] at y
        have a1 := r5 j
        have a2 := dgn_lt hp c j
        generalize dgn (pp k) c j = b at y a2 ⊢
        generalize u0 j = a at y a1 ⊢
        rcases (show pp k = 2 ∨ pp k = 3 by omega) with q | q
        · rw [q] at y a1 a2; omega
        · rw [q] at y a1 a2; omega
      have e5 := nbS_dgn (p := pp k) (t := c) e
      rw [nbS_congr (v := u0) (c := 0) (fun j hj => by rw [Nat.zero_add]; exact ed j hj)] at e5
      have hl' : nbS (pp k) u0 0 e < pp k ^ e := hl
      rw [Nat.mod_eq_of_lt (by omega)] at e5
      omega
  · show (((if mm k * m = e0 * mm k then e1 else if mm k * m % mm k = 0 ∧ mm k * m < e0 * mm k then el k (dgn (pp k) (nbS (pp k) u0 0 e0) (mm k * m / mm k)) else z0 : El k)).val : Int) = _
    have hmp := mm_pos k
    by_cases q : m = e0
    · rw [if_pos (by rw [q, Nat.mul_comm]), q, r2, e1_val]
    · have q1 : mm k * m < e0 * mm k := by
        rw [Nat.mul_comm]
        exact Nat.mul_lt_mul_of_pos_right (by omega) hmp
      rw [if_neg (by omega), if_pos ⟨Nat.mul_mod_right _ _, q1⟩, Nat.mul_div_cancel_left _ hmp, hd m (by omega)]
      have a := r5 m
      show ((u0 m % qq k : Nat) : Int) = _
      rw [Nat.mod_eq_of_lt (el_small a)]
theorem lcmp_self (x : Int) : (lg_cmp (i64 x) (i64 x)).toInt = 0 := by
  unfold lg_cmp
  rw [if_neg (show ¬ i64 x > i64 x from Int64.lt_irrefl), if_pos rfl]
  rfl
theorem i3264 {x : Int} (h1 : -2147483648 ≤ x) (h2 : x ≤ 2147483647) : (i32 x).toInt64.toInt = x := by
  rw [Int32.toInt_toInt64]
  exact i32_in h1 h2
