/-! the reference: its state; simple calls */ -/
/-- a sign as a byte -/
def sby (c : Int) : Int := if c < 128 then c else c - 256
def TMs (M : Mem) (n : Int) (tx : Int → Int) : Prop := (M 161 11 = n ∧ 0 ≤ n ∧ n ≤ 40) ∧ (∀ i : Int, 0 ≤ i → i < n → M 168 i = sby (tx i) ∧ 0 ≤ tx i ∧ tx i ≤ 255) ∧ ∀ i : Int, i < 0 ∨ n ≤ i → tx i = -1
def RM (M : Mem) (rc : Nat) (rw : Int → Int) : Prop := M 161 13 = (rc : Int) ∧ rc ≤ 32 ∧ ∀ j : Nat, j < rc → M 169 (j : Int) = rw (j : Int)
def FM (M : Mem) {k : Nat} (fc : Nat) (fa : Nat → Pl k) : Prop := M 161 15 = (fc : Int) ∧ fc ≤ 4 ∧ ∀ i : Nat, i < fc → M 190 (i : Int) = dg (fa i) ∧ (0 ≤ dg (fa i) ∧ dg (fa i) ≤ 4) ∧ ∀ j : Nat, j < 5 → M 189 (5 * (i : Int) + (j : Int)) = ((fa i j).val : Int)
/-- the reference's field k, PLACES, TEXT, ROW, FACTORS -/
def RFS (M : Mem) (k : Nat) (pl : Nat → Pl k) (n : Int) (tx : Int → Int) (rc : Nat) (rw : Int → Int) (fc : Nat) (fa : Nat → Pl k) : Prop := ∃ R : Int → Option (Pl k), RS M k R ∧ PM M pl ∧ TMs M n tx ∧ RM M rc rw ∧ FM M fc fa
theorem TMs.keep {M N : Mem} {n : Int} {tx : Int → Int} (T : TMs M n tx) (h : N 161 11 = M 161 11) (h2 : N 168 = M 168) : TMs N n tx := ⟨⟨h.trans T.1.1, T.1.2⟩, fun i h3 h4 => by rw [h2]; exact T.2.1 i h3 h4, T.2.2⟩
theorem RM.keep {M N : Mem} {rc : Nat} {rw : Int → Int} (T : RM M rc rw) (h : N 161 13 = M 161 13) (h2 : N 169 = M 169) : RM N rc rw := ⟨h.trans T.1, T.2.1, fun j hj => by rw [h2]; exact T.2.2 j hj⟩
theorem RM.zero {M : Mem} {rw : Int → Int} (h : M 161 13 = 0) : RM M 0 rw := ⟨h, by decide, fun j hj => by omega⟩
theorem FM.keep {M N : Mem} {k : Nat} {fc : Nat} {fa : Nat → Pl k} (T : FM M fc fa) (h : N 161 15 = M 161 15) (h2 : N 189 = M 189) (h3 : N 190 = M 190) : FM N fc fa := ⟨h.trans T.1, T.2.1, fun i hi => by rw [h2, h3]; exact T.2.2 i hi⟩
theorem RM.tell {M N : Mem} {rc : Nat} {rw : Int → Int} (T : RM M rc rw) (hc : rc < 32) {v : Int} (h : N 161 13 = ((rc + 1 : Nat) : Int)) (h2 : N 169 = upr (M 169) (rc : Int) v) : RM N (rc + 1) (upr rw (rc : Int) v) := ⟨h, by omega, fun j hj => by
  rw [h2]
  by_cases e : j = rc
  · rw [e, upr_eq, upr_eq]
  · rw [upr_ne (by omega), upr_ne (by omega)]; exact T.2.2 j (by omega)⟩
/-- sets of numbers */ -/
def b16 (x : Int) : Prop := 0 ≤ x ∧ x < 65536
theorem b16.N {x : Int} (h : b16 x) : ∃ n : Nat, n < 65536 ∧ x = (n : Int) := ⟨x.toNat, by have := h.1; have := h.2; omega, by have := h.1; omega⟩
theorem b16.I {x : Int} (h : b16 x) : 0 ≤ x ∧ x < 65536 := h
theorem nx_orI (a b : Nat) : nI a ||| nI b = nI (a ||| b) := by
  apply Int32.toBitVec_inj.1
  show BitVec.ofNat 32 a ||| BitVec.ofNat 32 b = BitVec.ofNat 32 (a ||| b)
  apply BitVec.eq_of_getLsbD_eq
  intro i hi
  simp [hi]
theorem sh1_N : ∀ v : Fin 16, i32 (i32 1 <<< (i32 (v.val : Int) &&& 31)).toInt = nI (2 ^ v.val) := by decide +kernel
theorem b16.or {x y : Int} (hx : b16 x) (hy : b16 y) : b16 (i32 x ||| i32 y).toInt := by
  obtain ⟨n, hn, e⟩ := hx.N
  obtain ⟨m, hm, e2⟩ := hy.N
  have h : n ||| m < 65536 := Nat.or_lt_two_pow (n := 16) hn hm
  rw [e, e2, i32_n16 hn, i32_n16 hm, nx_orI, nI_int (by omega)]
  exact ⟨by omega, by omega⟩
theorem b16.set {x v : Int} (hx : b16 x) (h0 : 0 ≤ v) (h1 : v ≤ 15) : b16 (bset x v) := by
  obtain ⟨n, hn, e⟩ := hx.N
  have h2 : i32 (i32 1 <<< (i32 v &&& 31)).toInt = nI (2 ^ v.toNat) := by
    have h2 := sh1_N ⟨v.toNat, by omega⟩
    rw [show ((⟨v.toNat, by omega⟩ : Fin 16).val : Int) = v by show ((v.toNat : Nat) : Int) = v; omega] at h2
    exact h2
  have h3 : 2 ^ v.toNat < 65536 := Nat.pow_lt_pow_right (by decide) (show v.toNat < 16 by omega)
  have h : n ||| 2 ^ v.toNat < 65536 := Nat.or_lt_two_pow (n := 16) hn h3
  unfold bset
  rw [h2, e, i32_n16 hn, nx_orI, nI_int (by omega)]
  exact ⟨by omega, by omega⟩
theorem b16.z : b16 0 := ⟨by decide, by decide⟩
theorem cjs_16 {k : Nat} (a : El k) : ∀ n : Nat, b16 (cjs a n)
  | 0 => b16.z
  | n + 1 => (cjs_16 a n).set (el_I _).1 (el_I _).2
theorem rts_16 {k : Nat} (f : Pl k) : ∀ n : Nat, n ≤ 16 → b16 (rts f n)
  | 0, _ => b16.z
  | n + 1, h => by
    unfold rts
    split
    · exact (rts_16 f n (by omega)).set (by omega) (by omega)
    · exact rts_16 f n (by omega)
theorem dnT_16 {k : Nat} (f : Pl k) (v : El k) : ∀ n : Nat, n ≤ 16 → b16 (dnT f v n)
  | 0, _ => b16.z
  | n + 1, h => by
    unfold dnT
    split
    · exact (dnT_16 f v n (by omega)).set (by omega) (by omega)
    · exact dnT_16 f v n (by omega)
theorem img_16 {k : Nat} (f : Pl k) : ∀ n : Nat, b16 (img f n)
  | 0 => b16.z
  | n + 1 => (img_16 f n).set (el_I _).1 (el_I _).2
theorem basT_16 (k : Nat) (s : Int) : ∀ n : Nat, n ≤ 16 → b16 (basT k s n)
  | 0, _ => b16.z
  | n + 1, h => by
    unfold basT
    split
    · exact (basT_16 k s n (by omega)).set (by omega) (by omega)
    · exact basT_16 k s n (by omega)
theorem pc_0 : bc5 0 = 0 := by decide
theorem pc_le (n : Nat) : bc5 n ≤ 63 := Nat.and_le_right
set_option maxRecDepth 100000 in
theorem r_tell {d : Nat} {M : Mem} {rc : Nat} {rw : Int → Int} (T : RM M rc rw) (hc : rc < 32) (v : Int) : Ct 198 (d) 213 [(1, 161), (2, v)] M (fun r M' => r = (4, 0) ∧ RM M' (rc + 1) (upr rw (rc : Int) v) ∧ (∀ a : Int, a ≠ 161 → a ≠ 169 → M' a = M a) ∧ (∀ j : Int, j ≠ 13 → M' 161 j = M 161 j)) := by
  have hK : cd 213 = k213 := rfl
  show Wp 198 _ 213 0 [(1, 161), (2, v), (3, 0)] [] M _
  refine w_al hK rfl rfl ?_
  refine w_getr (n := 12) (v := 169) hK rfl rfl (by decide) (by decide) rfl rfl rfl rfl ?_
  refine w_al hK rfl rfl ?_
  refine w_geti (n := 13) (m := 13) hK rfl rfl (by decide) (by decide) rfl rfl rfl rfl ?_
  rw [show M 161 13 = (rc : Int) from T.1]
  refine w_ll hK rfl rfl ?_
  refine w_lat hK rfl rfl (by decide) (by decide) (by omega) (by omega) ?_
  refine w_al hK rfl rfl ?_
  refine w_dup hK rfl rfl ?_
  refine w_geti (n := 13) (m := 13) hK rfl rfl (by decide) (by decide) rfl rfl rfl rfl ?_
  rw [show (up M 169 (rc : Int) v) 161 13 = (rc : Int) from ((congrFun (up_row (by decide)) 13).trans T.1)]
  refine w_ic hK rfl ?_
  refine w_add hK rfl (by omega) (by omega) ?_
  refine w_puti (n := 13) (m := 13) hK rfl rfl (by decide) (by decide) rfl rfl rfl rfl ?_
  refine w_ret hK rfl rfl ?_
  exact ⟨rfl, T.tell hc ((up_eq).trans (by simp)) ((up_row (by decide)).trans (up_upr rfl)), (fun a n161_ n169_ => ((up_row n161_).trans (up_row n169_))), (fun j n13_ => ((up_ne2 n13_).trans (congrFun (up_row (by decide)) j)))⟩
set_option maxRecDepth 100000 in
theorem r_onesN {d : Nat} {M : Mem} {n : Nat} (hn : n < 65536) : Ct 198 (d) 212 [(0, (n : Int))] M (fun r M' => r = (0, bcw (n : Int)) ∧ M' = M) := by
  have hK : cd 212 = k212 := rfl
  show Wp 198 _ 212 0 [(0, (n : Int)), (3, 0), (3, 0)] [] M _
  refine w_ic hK rfl ?_
  refine w_is [(0, (n : Int)), (0, 0), (3, 0)] hK rfl rfl rfl ?_
  refine w_il hK rfl rfl ?_
  refine w_is [(0, (n : Int)), (0, 0), (0, (n : Int))] hK rfl rfl rfl ?_
  have lp4 : ∀ (n_ : Nat) (m c : Nat), m = n_ → (m < 65536) → (c + bc5 m = bc5 n) → Wp 198 (d) 212 4 [(0, (n : Int)), (0, (c : Int)), (0, (m : Int))] [] M (fun r M' => r = (0, bcw (n : Int)) ∧ M' = M) := by
    intro n_
    induction n_ using Nat.strongRecOn with
    | _ n_ ih4 =>
    intro m c  hm4 hm hc
    have pl_ := pc_le n
    refine w_il hK rfl rfl ?_
    refine w_eq hK rfl (by omega) (by omega) (fun h5 => ?_) (fun h5 => ?_)
    · refine w_il hK rfl rfl ?_
      refine w_iret hK rfl rfl ?_
      have e_ : m = 0 := by omega
      subst e_
      rw [pc_0] at hc
      rw [bcw_pc hn]
      exact ⟨by rw [← hc]; rfl, rfl⟩
    · have pa_ := pc_and0 hm (by omega)
      have ml_ : m &&& (m - 1) ≤ m - 1 := Nat.and_le_right
      have ia_ : (i32 (m : Int) &&& i32 ((m : Int) - 1)).toInt = ((m &&& (m - 1) : Nat) : Int) := by
        rw [show (m : Int) - 1 = ((m - 1 : Nat) : Int) by omega, iw_and hm (i32_n16 (by omega))]
        exact i32_in (by omega) (by omega)
      refine w_inc [(0, (n : Int)), (0, ((c : Int) + 1)), (0, (m : Int))] hK rfl rfl rfl (by omega) (by omega) rfl ?_
      refine w_il hK rfl rfl ?_
      refine w_il hK rfl rfl ?_
      refine w_ic hK rfl ?_
      refine w_sub hK rfl (by omega) (by omega) ?_
      refine w_bin (w := i32 (m : Int) &&& i32 ((m : Int) - 1)) hK rfl rfl rfl ?_
      refine w_is [(0, (n : Int)), (0, ((c : Int) + 1)), (0, (i32 (m : Int) &&& i32 ((m : Int) - 1)).toInt)] hK rfl rfl rfl ?_
      refine w_goto hK rfl ?_
      rw [ia_]
      exact ih4 _ (by omega) (m &&& (m - 1)) (c + 1)  rfl (by omega) (by omega)
  exact lp4 _ n 0  rfl hn (by omega)
theorem r_ones {d : Nat} {M : Mem} {x : Int} (h : b16 x) : Ct 198 (d) 212 [(0, x)] M (fun r M' => r = (0, bcw x) ∧ M' = M) := by
  obtain ⟨n, hn, e⟩ := h.N
  subst e
  exact r_onesN hn
