/-! both sides answer alike, call by call */ -/
def BO {k : Nat} (pl : Nat → Pl k) (n : Int) (tx : Int → Int) (rc : Nat) (rw : Int → Int) (fc : Nat) (fa : Nat → Pl k) (t1 t2 : Nat) (as : List AV) : Prop := ∃ (v : Int) (k' : Nat) (pl' : Nat → Pl k') (n' : Int) (tx' : Int → Int) (rc' : Nat) (rw' : Int → Int) (fc' : Nat) (fa' : Nat → Pl k'), (∀ (d : Nat) (M : Mem), CLS M k pl n tx rc rw fc fa → Ct 198 (d + 12) t1 ((1, 0) :: as) M (fun r_ M' => r_ = (0, v) ∧ CLS M' k' pl' n' tx' rc' rw' fc' fa' ∧ (∀ a : Int, (a < 0 ∨ 160 < a) → M' a = M a))) ∧ ∀ (d : Nat) (M : Mem), RFS M k pl n tx rc rw fc fa → Ct 198 (d + 12) t2 ((1, 161) :: as) M (fun r_ M' => r_ = (0, v) ∧ RFS M' k' pl' n' tx' rc' rw' fc' fa' ∧ (∀ a : Int, (a < 161 ∨ 197 < a) → M' a = M a))
theorem cl_same {d t : Nat} {as : List AV} {M : Mem} {v : AV} {k : Nat} {pl : Nat → Pl k} {n : Int} {tx : Int → Int} {rc : Nat} {rw : Int → Int} {fc : Nat} {fa : Nat → Pl k} (H : CLS M k pl n tx rc rw fc fa) (h : Ct 198 d t as M (fun r_ M' => r_ = v ∧ M' = M)) : Ct 198 d t as M (fun r_ M' => r_ = v ∧ CLS M' k pl n tx rc rw fc fa ∧ (∀ a : Int, (a < 0 ∨ 160 < a) → M' a = M a)) := h.imp (fun r M' e => ⟨e.1, by rw [e.2]; exact H, fun a _ => by rw [e.2]⟩)
theorem ct_val {b d t : Nat} {as : List AV} {M : Mem} {x y : Int} {Q : Mem → Prop} (h : Ct b d t as M (fun r_ M' => r_ = (0, x) ∧ Q M')) (e : x = y) : Ct b d t as M (fun r_ M' => r_ = (0, y) ∧ Q M') := by rw [← e]; exact h
theorem hbI {k : Nat} {f : Pl k} (h : Bd f 9) {n : Nat} (e : dg f = (n : Int)) : IsDg f (n : Int) := e ▸ dg_is (h.mono (by decide))
theorem b_plus {k : Nat} {pl : Nat → Pl k} {n : Int} {tx : Int → Int} {rc : Nat} {rw : Int → Int} {fc : Nat} {fa : Nat → Pl k} (hk_ : k < 4) (hb_ : ∀ i : Nat, i < 6 → Bd (pl i) 9) (p1 p2 : Int) (u0_ : -2147483648 ≤ p1) (w0_ : p1 ≤ 2147483647) (u1_ : -2147483648 ≤ p2) (w1_ : p2 ≤ 2147483647) : BO pl n tx rc rw fc fa 125 201 [(0, p1), (0, p2)] := by
  have q1_ := qq_I k
  have p1_ := pp_I k
  have m1_ := mm_I k
  by_cases h1_ : ((0 ≤ p1 ∧ p1 < (qq k : Int)) ∧ (0 ≤ p2 ∧ p2 < (qq k : Int)))
  · obtain ⟨p1, rfl⟩ : ∃ a_ : El k, p1 = (a_.val : Int) := ⟨⟨p1.toNat, by omega⟩, by show p1 = ((p1.toNat : Nat) : Int); omega⟩
    obtain ⟨p2, rfl⟩ : ∃ a_ : El k, p2 = (a_.val : Int) := ⟨⟨p2.toNat, by omega⟩, by show p2 = ((p2.toNat : Nat) : Int); omega⟩
    exact ⟨_, _, _, _, _, _, _, _, _, fun d M H => o_plus (d := d + 4) H p1 p2, fun d M H => ro_plus (d := d + 4) H p1 p2⟩
  · exact ⟨_, _, _, _, _, _, _, _, _, fun d M H => cl_same H (n_plus (d := d + 4) H p1 p2 (by first | assumption | omega) (by first | assumption | omega) (by first | assumption | omega) (by first | assumption | omega) (by first | assumption | omega)), fun d M H => rn_plus (d := d + 4) H p1 p2 (by first | assumption | omega) (by first | assumption | omega) (by first | assumption | omega) (by first | assumption | omega) (by first | assumption | omega)⟩
theorem b_times {k : Nat} {pl : Nat → Pl k} {n : Int} {tx : Int → Int} {rc : Nat} {rw : Int → Int} {fc : Nat} {fa : Nat → Pl k} (hk_ : k < 4) (hb_ : ∀ i : Nat, i < 6 → Bd (pl i) 9) (p1 p2 : Int) (u0_ : -2147483648 ≤ p1) (w0_ : p1 ≤ 2147483647) (u1_ : -2147483648 ≤ p2) (w1_ : p2 ≤ 2147483647) : BO pl n tx rc rw fc fa 126 204 [(0, p1), (0, p2)] := by
  have q1_ := qq_I k
  have p1_ := pp_I k
  have m1_ := mm_I k
  by_cases h1_ : ((0 ≤ p1 ∧ p1 < (qq k : Int)) ∧ (0 ≤ p2 ∧ p2 < (qq k : Int)))
  · obtain ⟨p1, rfl⟩ : ∃ a_ : El k, p1 = (a_.val : Int) := ⟨⟨p1.toNat, by omega⟩, by show p1 = ((p1.toNat : Nat) : Int); omega⟩
    obtain ⟨p2, rfl⟩ : ∃ a_ : El k, p2 = (a_.val : Int) := ⟨⟨p2.toNat, by omega⟩, by show p2 = ((p2.toNat : Nat) : Int); omega⟩
    exact ⟨_, _, _, _, _, _, _, _, _, fun d M H => o_times (d := d + 4) H p1 p2, fun d M H => ro_times (d := d + 4) H p1 p2⟩
  · exact ⟨_, _, _, _, _, _, _, _, _, fun d M H => cl_same H (n_times (d := d + 4) H p1 p2 (by first | assumption | omega) (by first | assumption | omega) (by first | assumption | omega) (by first | assumption | omega) (by first | assumption | omega)), fun d M H => rn_times (d := d + 4) H p1 p2 (by first | assumption | omega) (by first | assumption | omega) (by first | assumption | omega) (by first | assumption | omega) (by first | assumption | omega)⟩
theorem b_inverse {k : Nat} {pl : Nat → Pl k} {n : Int} {tx : Int → Int} {rc : Nat} {rw : Int → Int} {fc : Nat} {fa : Nat → Pl k} (hk_ : k < 4) (hb_ : ∀ i : Nat, i < 6 → Bd (pl i) 9) (p1 : Int) (u0_ : -2147483648 ≤ p1) (w0_ : p1 ≤ 2147483647) : BO pl n tx rc rw fc fa 127 205 [(0, p1)] := by
  have q1_ := qq_I k
  have p1_ := pp_I k
  have m1_ := mm_I k
  by_cases h1_ : (0 ≤ p1 ∧ p1 < (qq k : Int))
  · obtain ⟨p1, rfl⟩ : ∃ a_ : El k, p1 = (a_.val : Int) := ⟨⟨p1.toNat, by omega⟩, by show p1 = ((p1.toNat : Nat) : Int); omega⟩
    exact ⟨_, _, _, _, _, _, _, _, _, fun d M H => o_inverse (d := d + 4) H p1, fun d M H => ro_inverse (d := d + 4) H p1⟩
  · exact ⟨_, _, _, _, _, _, _, _, _, fun d M H => cl_same H (n_inverse (d := d + 4) H p1 (by first | assumption | omega) (by first | assumption | omega) (by first | assumption | omega)), fun d M H => rn_inverse (d := d + 4) H p1 (by first | assumption | omega) (by first | assumption | omega) (by first | assumption | omega)⟩
theorem b_map {k : Nat} {pl : Nat → Pl k} {n : Int} {tx : Int → Int} {rc : Nat} {rw : Int → Int} {fc : Nat} {fa : Nat → Pl k} (hk_ : k < 4) (hb_ : ∀ i : Nat, i < 6 → Bd (pl i) 9) (p1 p2 : Int) (u0_ : -2147483648 ≤ p1) (w0_ : p1 ≤ 2147483647) (u1_ : -2147483648 ≤ p2) (w1_ : p2 ≤ 2147483647) : BO pl n tx rc rw fc fa 128 206 [(0, p1), (0, p2)] := by
  have q1_ := qq_I k
  have p1_ := pp_I k
  have m1_ := mm_I k
  by_cases h1_ : ((0 ≤ p1 ∧ p1 < (qq k : Int)) ∧ -8 ≤ p2 ∧ p2 ≤ 8)
  · obtain ⟨p1, rfl⟩ : ∃ a_ : El k, p1 = (a_.val : Int) := ⟨⟨p1.toNat, by omega⟩, by show p1 = ((p1.toNat : Nat) : Int); omega⟩
    exact ⟨_, _, _, _, _, _, _, _, _, fun d M H => o_map (d := d + 4) H p1 p2 (by first | assumption | omega) (by first | assumption | omega), fun d M H => ro_map (d := d + 4) H p1 p2 (by first | assumption | omega) (by first | assumption | omega)⟩
  · exact ⟨_, _, _, _, _, _, _, _, _, fun d M H => cl_same H (n_map (d := d + 4) H p1 p2 (by first | assumption | omega) (by first | assumption | omega) (by first | assumption | omega) (by first | assumption | omega) (by first | assumption | omega)), fun d M H => rn_map (d := d + 4) H p1 p2 (by first | assumption | omega) (by first | assumption | omega) (by first | assumption | omega) (by first | assumption | omega) (by first | assumption | omega)⟩
theorem b_norm {k : Nat} {pl : Nat → Pl k} {n : Int} {tx : Int → Int} {rc : Nat} {rw : Int → Int} {fc : Nat} {fa : Nat → Pl k} (hk_ : k < 4) (hb_ : ∀ i : Nat, i < 6 → Bd (pl i) 9) (p1 p2 : Int) (u0_ : -2147483648 ≤ p1) (w0_ : p1 ≤ 2147483647) (u1_ : -2147483648 ≤ p2) (w1_ : p2 ≤ 2147483647) : BO pl n tx rc rw fc fa 130 208 [(0, p1), (0, p2)] := by
  have q1_ := qq_I k
  have p1_ := pp_I k
  have m1_ := mm_I k
  by_cases h1_ : ((0 ≤ p1 ∧ p1 < (qq k : Int)) ∧ 0 ≤ p2 ∧ p2 ≤ 8)
  · obtain ⟨p1, rfl⟩ : ∃ a_ : El k, p1 = (a_.val : Int) := ⟨⟨p1.toNat, by omega⟩, by show p1 = ((p1.toNat : Nat) : Int); omega⟩
    obtain ⟨p2, rfl⟩ : ∃ a_ : Nat, p2 = (a_ : Int) := ⟨p2.toNat, by omega⟩
    exact ⟨_, _, _, _, _, _, _, _, _, fun d M H => o_norm (d := d + 4) H p1 p2 (by first | assumption | omega), fun d M H => ro_norm (d := d + 4) H p1 p2 (by first | assumption | omega)⟩
  · exact ⟨_, _, _, _, _, _, _, _, _, fun d M H => cl_same H (n_norm (d := d + 4) H p1 p2 (by first | assumption | omega) (by first | assumption | omega) (by first | assumption | omega) (by first | assumption | omega) (by first | assumption | omega)), fun d M H => rn_norm (d := d + 4) H p1 p2 (by first | assumption | omega) (by first | assumption | omega) (by first | assumption | omega) (by first | assumption | omega) (by first | assumption | omega)⟩
theorem b_conj {k : Nat} {pl : Nat → Pl k} {n : Int} {tx : Int → Int} {rc : Nat} {rw : Int → Int} {fc : Nat} {fa : Nat → Pl k} (hk_ : k < 4) (hb_ : ∀ i : Nat, i < 6 → Bd (pl i) 9) (p1 : Int) (u0_ : -2147483648 ≤ p1) (w0_ : p1 ≤ 2147483647) : BO pl n tx rc rw fc fa 131 210 [(0, p1)] := by
  have q1_ := qq_I k
  have p1_ := pp_I k
  have m1_ := mm_I k
  by_cases h1_ : (0 ≤ p1 ∧ p1 < (qq k : Int))
  · obtain ⟨p1, rfl⟩ : ∃ a_ : El k, p1 = (a_.val : Int) := ⟨⟨p1.toNat, by omega⟩, by show p1 = ((p1.toNat : Nat) : Int); omega⟩
    exact ⟨_, _, _, _, _, _, _, _, _, fun d M H => o_conj (d := d + 4) H p1, fun d M H => ro_conj (d := d + 4) H p1⟩
  · exact ⟨_, _, _, _, _, _, _, _, _, fun d M H => cl_same H (n_conj (d := d + 4) H p1 (by first | assumption | omega) (by first | assumption | omega) (by first | assumption | omega)), fun d M H => rn_conj (d := d + 4) H p1 (by first | assumption | omega) (by first | assumption | omega) (by first | assumption | omega)⟩
theorem b_classes {k : Nat} {pl : Nat → Pl k} {n : Int} {tx : Int → Int} {rc : Nat} {rw : Int → Int} {fc : Nat} {fa : Nat → Pl k} (hk_ : k < 4) (hb_ : ∀ i : Nat, i < 6 → Bd (pl i) 9) : BO pl n tx rc rw fc fa 134 214 [] := by
  have q1_ := qq_I k
  have p1_ := pp_I k
  have m1_ := mm_I k
  exact ⟨_, _, _, _, _, _, _, _, _, fun d M H => o_classes (d := d + 4) H, fun d M H => ro_classes (d := d + 4) H⟩
theorem b_sign {k : Nat} {pl : Nat → Pl k} {n : Int} {tx : Int → Int} {rc : Nat} {rw : Int → Int} {fc : Nat} {fa : Nat → Pl k} (hk_ : k < 4) (hb_ : ∀ i : Nat, i < 6 → Bd (pl i) 9) (p1 : Int) (u0_ : -2147483648 ≤ p1) (w0_ : p1 ≤ 2147483647) : BO pl n tx rc rw fc fa 135 197 [(0, p1)] := by
  have q1_ := qq_I k
  have p1_ := pp_I k
  have m1_ := mm_I k
  by_cases h1_ : n + 4 ≤ 40
  · exact ⟨_, _, _, _, _, _, _, _, _, fun d M H => o_sign (d := d + 4) H p1 (by first | assumption | omega), fun d M H => ro_sign (d := d + 4) H p1 (by first | assumption | omega) (by first | assumption | omega) (by first | assumption | omega)⟩
  · exact ⟨_, _, _, _, _, _, _, _, _, fun d M H => cl_same H (n_sign (d := d + 4) H p1 (by first | assumption | omega)), fun d M H => rn_sign (d := d + 4) H p1 (by first | assumption | omega)⟩
theorem b_end {k : Nat} {pl : Nat → Pl k} {n : Int} {tx : Int → Int} {rc : Nat} {rw : Int → Int} {fc : Nat} {fa : Nat → Pl k} (hk_ : k < 4) (hb_ : ∀ i : Nat, i < 6 → Bd (pl i) 9) (p1 : Int) (u0_ : -2147483648 ≤ p1) (w0_ : p1 ≤ 2147483647) : BO pl n tx rc rw fc fa 136 198 [(0, p1)] := by
  have q1_ := qq_I k
  have p1_ := pp_I k
  have m1_ := mm_I k
  by_cases h1_ : (0 ≤ p1 ∧ p1 ≤ n)
  · exact ⟨_, _, _, _, _, _, _, _, _, fun d M H => o_end (d := d + 4) H p1 (by first | assumption | omega) (by first | assumption | omega), fun d M H => ro_end (d := d + 4) H p1 (by first | assumption | omega) (by first | assumption | omega)⟩
  · exact ⟨_, _, _, _, _, _, _, _, _, fun d M H => cl_same H (n_end (d := d + 4) H p1 (by first | assumption | omega) (by first | assumption | omega) (by first | assumption | omega)), fun d M H => rn_end (d := d + 4) H p1 (by first | assumption | omega) (by first | assumption | omega) (by first | assumption | omega)⟩
theorem b_tells {k : Nat} {pl : Nat → Pl k} {n : Int} {tx : Int → Int} {rc : Nat} {rw : Int → Int} {fc : Nat} {fa : Nat → Pl k} (hk_ : k < 4) (hb_ : ∀ i : Nat, i < 6 → Bd (pl i) 9) (p1 : Int) (u0_ : -2147483648 ≤ p1) (w0_ : p1 ≤ 2147483647) : BO pl n tx rc rw fc fa 137 215 [(0, p1)] := by
  have q1_ := qq_I k
  have p1_ := pp_I k
  have m1_ := mm_I k
  by_cases h1_ : (rds (k := k) tx (qq k : Int) n 9 0 pz).1 < 0
  · by_cases h2_ : (0 ≤ p1 ∧ p1 < 6)
    · obtain ⟨p1, rfl⟩ : ∃ a_ : Nat, p1 = (a_ : Int) := ⟨p1.toNat, by omega⟩
      exact ⟨_, _, _, _, _, _, _, _, _, fun d M H => o_tells (d := d + 4) H p1 (by first | assumption | omega) (by first | assumption | omega), fun d M H => ro_tells (d := d + 4) H p1 (by first | assumption | omega) (by first | assumption | omega)⟩
    · exact ⟨_, _, _, _, _, _, _, _, _, fun d M H => n_tells (d := d + 4) H p1 (by first | assumption | omega) (by first | assumption | omega) (by first | assumption | omega) (by first | assumption | omega), fun d M H => rn_tells (d := d + 4) H p1 (by first | assumption | omega) (by first | assumption | omega) (by first | assumption | omega) (by first | assumption | omega)⟩
  · exact ⟨_, _, _, _, _, _, _, _, _, fun d M H => z_tells (d := d + 4) H p1 (by first | assumption | omega) (by first | assumption | omega) (by first | assumption | omega), fun d M H => rz_tells (d := d + 4) H p1 (by first | assumption | omega) (by first | assumption | omega) (by first | assumption | omega)⟩
theorem b_degree {k : Nat} {pl : Nat → Pl k} {n : Int} {tx : Int → Int} {rc : Nat} {rw : Int → Int} {fc : Nat} {fa : Nat → Pl k} (hk_ : k < 4) (hb_ : ∀ i : Nat, i < 6 → Bd (pl i) 9) (p1 : Int) (u0_ : -2147483648 ≤ p1) (w0_ : p1 ≤ 2147483647) : BO pl n tx rc rw fc fa 138 223 [(0, p1)] := by
  have q1_ := qq_I k
  have p1_ := pp_I k
  have m1_ := mm_I k
  by_cases h1_ : (0 ≤ p1 ∧ p1 < 6)
  · obtain ⟨p1, rfl⟩ : ∃ a_ : Nat, p1 = (a_ : Int) := ⟨p1.toNat, by omega⟩
    exact ⟨_, _, _, _, _, _, _, _, _, fun d M H => o_degree (d := d + 4) H p1 (by first | assumption | omega), fun d M H => ro_degree (d := d + 4) H p1 (by first | assumption | omega)⟩
  · exact ⟨_, _, _, _, _, _, _, _, _, fun d M H => cl_same H (n_degree (d := d + 4) H p1 (by first | assumption | omega) (by first | assumption | omega) (by first | assumption | omega)), fun d M H => rn_degree (d := d + 4) H p1 (by first | assumption | omega) (by first | assumption | omega) (by first | assumption | omega)⟩
theorem b_number {k : Nat} {pl : Nat → Pl k} {n : Int} {tx : Int → Int} {rc : Nat} {rw : Int → Int} {fc : Nat} {fa : Nat → Pl k} (hk_ : k < 4) (hb_ : ∀ i : Nat, i < 6 → Bd (pl i) 9) (p1 p2 : Int) (u0_ : -2147483648 ≤ p1) (w0_ : p1 ≤ 2147483647) (u1_ : -2147483648 ≤ p2) (w1_ : p2 ≤ 2147483647) : BO pl n tx rc rw fc fa 139 225 [(0, p1), (0, p2)] := by
  have q1_ := qq_I k
  have p1_ := pp_I k
  have m1_ := mm_I k
  by_cases h1_ : ((0 ≤ p1 ∧ p1 < 6) ∧ 0 ≤ p2 ∧ p2 ≤ 8)
  · obtain ⟨p1, rfl⟩ : ∃ a_ : Nat, p1 = (a_ : Int) := ⟨p1.toNat, by omega⟩
    obtain ⟨p2, rfl⟩ : ∃ a_ : Nat, p2 = (a_ : Int) := ⟨p2.toNat, by omega⟩
    exact ⟨_, _, _, _, _, _, _, _, _, fun d M H => o_number (d := d + 4) H p1 (by first | assumption | omega) p2 (by first | assumption | omega), fun d M H => ro_number (d := d + 4) H p1 (by first | assumption | omega) p2 (by first | assumption | omega)⟩
  · exact ⟨_, _, _, _, _, _, _, _, _, fun d M H => cl_same H (n_number (d := d + 4) H p1 p2 (by first | assumption | omega) (by first | assumption | omega) (by first | assumption | omega) (by first | assumption | omega) (by first | assumption | omega)), fun d M H => rn_number (d := d + 4) H p1 p2 (by first | assumption | omega) (by first | assumption | omega) (by first | assumption | omega) (by first | assumption | omega) (by first | assumption | omega)⟩
theorem b_adds {k : Nat} {pl : Nat → Pl k} {n : Int} {tx : Int → Int} {rc : Nat} {rw : Int → Int} {fc : Nat} {fa : Nat → Pl k} (hk_ : k < 4) (hb_ : ∀ i : Nat, i < 6 → Bd (pl i) 9) (p1 p2 p3 : Int) (u0_ : -2147483648 ≤ p1) (w0_ : p1 ≤ 2147483647) (u1_ : -2147483648 ≤ p2) (w1_ : p2 ≤ 2147483647) (u2_ : -2147483648 ≤ p3) (w2_ : p3 ≤ 2147483647) : BO pl n tx rc rw fc fa 140 226 [(0, p1), (0, p2), (0, p3)] := by
  have q1_ := qq_I k
  have p1_ := pp_I k
  have m1_ := mm_I k
  by_cases h1_ : ((0 ≤ p1 ∧ p1 < 6) ∧ (0 ≤ p2 ∧ p2 < 6) ∧ (0 ≤ p3 ∧ p3 < 6))
  · obtain ⟨p1, rfl⟩ : ∃ a_ : Nat, p1 = (a_ : Int) := ⟨p1.toNat, by omega⟩
    obtain ⟨p2, rfl⟩ : ∃ a_ : Nat, p2 = (a_ : Int) := ⟨p2.toNat, by omega⟩
    obtain ⟨p3, rfl⟩ : ∃ a_ : Nat, p3 = (a_ : Int) := ⟨p3.toNat, by omega⟩
    exact ⟨_, _, _, _, _, _, _, _, _, fun d M H => o_adds (d := d + 4) H p1 (by first | assumption | omega) p2 (by first | assumption | omega) p3 (by first | assumption | omega), fun d M H => ro_adds (d := d + 4) H p1 (by first | assumption | omega) p2 (by first | assumption | omega) p3 (by first | assumption | omega)⟩
  · exact ⟨_, _, _, _, _, _, _, _, _, fun d M H => cl_same H (n_adds (d := d + 4) H p1 p2 p3 (by first | assumption | omega) (by first | assumption | omega) (by first | assumption | omega) (by first | assumption | omega) (by first | assumption | omega) (by first | assumption | omega) (by first | assumption | omega)), fun d M H => rn_adds (d := d + 4) H p1 p2 p3 (by first | assumption | omega) (by first | assumption | omega) (by first | assumption | omega) (by first | assumption | omega) (by first | assumption | omega) (by first | assumption | omega) (by first | assumption | omega)⟩
theorem b_takes {k : Nat} {pl : Nat → Pl k} {n : Int} {tx : Int → Int} {rc : Nat} {rw : Int → Int} {fc : Nat} {fa : Nat → Pl k} (hk_ : k < 4) (hb_ : ∀ i : Nat, i < 6 → Bd (pl i) 9) (p1 p2 p3 : Int) (u0_ : -2147483648 ≤ p1) (w0_ : p1 ≤ 2147483647) (u1_ : -2147483648 ≤ p2) (w1_ : p2 ≤ 2147483647) (u2_ : -2147483648 ≤ p3) (w2_ : p3 ≤ 2147483647) : BO pl n tx rc rw fc fa 141 229 [(0, p1), (0, p2), (0, p3)] := by
  have q1_ := qq_I k
  have p1_ := pp_I k
  have m1_ := mm_I k
  by_cases h1_ : ((0 ≤ p1 ∧ p1 < 6) ∧ (0 ≤ p2 ∧ p2 < 6) ∧ (0 ≤ p3 ∧ p3 < 6))
  · obtain ⟨p1, rfl⟩ : ∃ a_ : Nat, p1 = (a_ : Int) := ⟨p1.toNat, by omega⟩
    obtain ⟨p2, rfl⟩ : ∃ a_ : Nat, p2 = (a_ : Int) := ⟨p2.toNat, by omega⟩
    obtain ⟨p3, rfl⟩ : ∃ a_ : Nat, p3 = (a_ : Int) := ⟨p3.toNat, by omega⟩
    exact ⟨_, _, _, _, _, _, _, _, _, fun d M H => o_takes (d := d + 4) H p1 (by first | assumption | omega) p2 (by first | assumption | omega) p3 (by first | assumption | omega), fun d M H => ro_takes (d := d + 4) H p1 (by first | assumption | omega) p2 (by first | assumption | omega) p3 (by first | assumption | omega)⟩
  · exact ⟨_, _, _, _, _, _, _, _, _, fun d M H => cl_same H (n_takes (d := d + 4) H p1 p2 p3 (by first | assumption | omega) (by first | assumption | omega) (by first | assumption | omega) (by first | assumption | omega) (by first | assumption | omega) (by first | assumption | omega) (by first | assumption | omega)), fun d M H => rn_takes (d := d + 4) H p1 p2 p3 (by first | assumption | omega) (by first | assumption | omega) (by first | assumption | omega) (by first | assumption | omega) (by first | assumption | omega) (by first | assumption | omega) (by first | assumption | omega)⟩
theorem b_mult {k : Nat} {pl : Nat → Pl k} {n : Int} {tx : Int → Int} {rc : Nat} {rw : Int → Int} {fc : Nat} {fa : Nat → Pl k} (hk_ : k < 4) (hb_ : ∀ i : Nat, i < 6 → Bd (pl i) 9) (p1 p2 p3 : Int) (u0_ : -2147483648 ≤ p1) (w0_ : p1 ≤ 2147483647) (u1_ : -2147483648 ≤ p2) (w1_ : p2 ≤ 2147483647) (u2_ : -2147483648 ≤ p3) (w2_ : p3 ≤ 2147483647) : BO pl n tx rc rw fc fa 143 233 [(0, p1), (0, p2), (0, p3)] := by
  have q1_ := qq_I k
  have p1_ := pp_I k
  have m1_ := mm_I k
  by_cases h1_ : ((0 ≤ p1 ∧ p1 < 6) ∧ (0 ≤ p2 ∧ p2 < 6) ∧ (0 ≤ p3 ∧ p3 < 6))
  · obtain ⟨p1, rfl⟩ : ∃ a_ : Nat, p1 = (a_ : Int) := ⟨p1.toNat, by omega⟩
    obtain ⟨p2, rfl⟩ : ∃ a_ : Nat, p2 = (a_ : Int) := ⟨p2.toNat, by omega⟩
    obtain ⟨p3, rfl⟩ : ∃ a_ : Nat, p3 = (a_ : Int) := ⟨p3.toNat, by omega⟩
    exact ⟨_, _, _, _, _, _, _, _, _, fun d M H => o_mult (d := d + 4) H p1 (by first | assumption | omega) p2 (by first | assumption | omega) p3 (by first | assumption | omega), fun d M H => ro_mult (d := d + 4) H p1 (by first | assumption | omega) p2 (by first | assumption | omega) p3 (by first | assumption | omega)⟩
  · exact ⟨_, _, _, _, _, _, _, _, _, fun d M H => cl_same H (n_mult (d := d + 4) H p1 p2 p3 (by first | assumption | omega) (by first | assumption | omega) (by first | assumption | omega) (by first | assumption | omega) (by first | assumption | omega) (by first | assumption | omega) (by first | assumption | omega)), fun d M H => rn_mult (d := d + 4) H p1 p2 p3 (by first | assumption | omega) (by first | assumption | omega) (by first | assumption | omega) (by first | assumption | omega) (by first | assumption | omega) (by first | assumption | omega) (by first | assumption | omega)⟩
theorem b_cross {k : Nat} {pl : Nat → Pl k} {n : Int} {tx : Int → Int} {rc : Nat} {rw : Int → Int} {fc : Nat} {fa : Nat → Pl k} (hk_ : k < 4) (hb_ : ∀ i : Nat, i < 6 → Bd (pl i) 9) (p1 p2 p3 : Int) (u0_ : -2147483648 ≤ p1) (w0_ : p1 ≤ 2147483647) (u1_ : -2147483648 ≤ p2) (w1_ : p2 ≤ 2147483647) (u2_ : -2147483648 ≤ p3) (w2_ : p3 ≤ 2147483647) : BO pl n tx rc rw fc fa 152 247 [(0, p1), (0, p2), (0, p3)] := by
  have q1_ := qq_I k
  have p1_ := pp_I k
  have m1_ := mm_I k
  by_cases h1_ : ((0 ≤ p1 ∧ p1 < 6) ∧ (0 ≤ p2 ∧ p2 < 6) ∧ (0 ≤ p3 ∧ p3 < 6))
  · obtain ⟨p1, rfl⟩ : ∃ a_ : Nat, p1 = (a_ : Int) := ⟨p1.toNat, by omega⟩
    obtain ⟨p2, rfl⟩ : ∃ a_ : Nat, p2 = (a_ : Int) := ⟨p2.toNat, by omega⟩
    obtain ⟨p3, rfl⟩ : ∃ a_ : Nat, p3 = (a_ : Int) := ⟨p3.toNat, by omega⟩
    exact ⟨_, _, _, _, _, _, _, _, _, fun d M H => o_cross (d := d + 4) H p1 (by first | assumption | omega) p2 (by first | assumption | omega) p3 (by first | assumption | omega), fun d M H => ro_cross (d := d + 4) H p1 (by first | assumption | omega) p2 (by first | assumption | omega) p3 (by first | assumption | omega)⟩
  · exact ⟨_, _, _, _, _, _, _, _, _, fun d M H => cl_same H (n_cross (d := d + 4) H p1 p2 p3 (by first | assumption | omega) (by first | assumption | omega) (by first | assumption | omega) (by first | assumption | omega) (by first | assumption | omega) (by first | assumption | omega) (by first | assumption | omega)), fun d M H => rn_cross (d := d + 4) H p1 p2 p3 (by first | assumption | omega) (by first | assumption | omega) (by first | assumption | omega) (by first | assumption | omega) (by first | assumption | omega) (by first | assumption | omega) (by first | assumption | omega)⟩
theorem b_scales {k : Nat} {pl : Nat → Pl k} {n : Int} {tx : Int → Int} {rc : Nat} {rw : Int → Int} {fc : Nat} {fa : Nat → Pl k} (hk_ : k < 4) (hb_ : ∀ i : Nat, i < 6 → Bd (pl i) 9) (p1 p2 p3 : Int) (u0_ : -2147483648 ≤ p1) (w0_ : p1 ≤ 2147483647) (u1_ : -2147483648 ≤ p2) (w1_ : p2 ≤ 2147483647) (u2_ : -2147483648 ≤ p3) (w2_ : p3 ≤ 2147483647) : BO pl n tx rc rw fc fa 142 231 [(0, p1), (0, p2), (0, p3)] := by
  have q1_ := qq_I k
  have p1_ := pp_I k
  have m1_ := mm_I k
  by_cases h1_ : ((0 ≤ p2 ∧ p2 < 6) ∧ (0 ≤ p3 ∧ p3 < 6) ∧ (0 ≤ p1 ∧ p1 < (qq k : Int)))
  · obtain ⟨p1, rfl⟩ : ∃ a_ : El k, p1 = (a_.val : Int) := ⟨⟨p1.toNat, by omega⟩, by show p1 = ((p1.toNat : Nat) : Int); omega⟩
    obtain ⟨p2, rfl⟩ : ∃ a_ : Nat, p2 = (a_ : Int) := ⟨p2.toNat, by omega⟩
    obtain ⟨p3, rfl⟩ : ∃ a_ : Nat, p3 = (a_ : Int) := ⟨p3.toNat, by omega⟩
    exact ⟨_, _, _, _, _, _, _, _, _, fun d M H => o_scales (d := d + 4) H p2 (by first | assumption | omega) p3 (by first | assumption | omega) p1, fun d M H => ro_scales (d := d + 4) H p2 (by first | assumption | omega) p3 (by first | assumption | omega) p1⟩
  · exact ⟨_, _, _, _, _, _, _, _, _, fun d M H => cl_same H (n_scales (d := d + 4) H p1 p2 p3 (by first | assumption | omega) (by first | assumption | omega) (by first | assumption | omega) (by first | assumption | omega) (by first | assumption | omega) (by first | assumption | omega) (by first | assumption | omega)), fun d M H => rn_scales (d := d + 4) H p1 p2 p3 (by first | assumption | omega) (by first | assumption | omega) (by first | assumption | omega) (by first | assumption | omega) (by first | assumption | omega) (by first | assumption | omega) (by first | assumption | omega)⟩
theorem b_quot {k : Nat} {pl : Nat → Pl k} {n : Int} {tx : Int → Int} {rc : Nat} {rw : Int → Int} {fc : Nat} {fa : Nat → Pl k} (hk_ : k < 4) (hb_ : ∀ i : Nat, i < 6 → Bd (pl i) 9) (p1 p2 p3 p4 : Int) (u0_ : -2147483648 ≤ p1) (w0_ : p1 ≤ 2147483647) (u1_ : -2147483648 ≤ p2) (w1_ : p2 ≤ 2147483647) (u2_ : -2147483648 ≤ p3) (w2_ : p3 ≤ 2147483647) (u3_ : -2147483648 ≤ p4) (w3_ : p4 ≤ 2147483647) : BO pl n tx rc rw fc fa 145 236 [(0, p1), (0, p2), (0, p3), (0, p4)] := by
  have q1_ := qq_I k
  have p1_ := pp_I k
  have m1_ := mm_I k
  by_cases h1_ : ((0 ≤ p1 ∧ p1 < 6) ∧ (0 ≤ p2 ∧ p2 < 6) ∧ (0 ≤ p4 ∧ p4 < 6) ∧ (p3 = 0 ∨ p3 = 1))
  · obtain ⟨p1, rfl⟩ : ∃ a_ : Nat, p1 = (a_ : Int) := ⟨p1.toNat, by omega⟩
    obtain ⟨p2, rfl⟩ : ∃ a_ : Nat, p2 = (a_ : Int) := ⟨p2.toNat, by omega⟩
    obtain ⟨p4, rfl⟩ : ∃ a_ : Nat, p4 = (a_ : Int) := ⟨p4.toNat, by omega⟩
    by_cases h2_ : 0 ≤ dg (pl p2)
    · exact ⟨_, _, _, _, _, _, _, _, _, fun d M H => o_quot (d := d + 4) H p1 (by first | assumption | omega) p2 (by first | assumption | omega) p4 (by first | assumption | omega) p3 (by first | assumption | omega) (by first | assumption | omega), fun d M H => ro_quot (d := d + 4) H p1 (by first | assumption | omega) p2 (by first | assumption | omega) p4 (by first | assumption | omega) p3 (by first | assumption | omega) (by first | assumption | omega)⟩
    · exact ⟨_, _, _, _, _, _, _, _, _, fun d M H => cl_same H (z_quot (d := d + 4) H p1 (by first | assumption | omega) p2 (by first | assumption | omega) p4 (by first | assumption | omega) p3 (by first | assumption | omega) (by first | assumption | omega)), fun d M H => rz_quot (d := d + 4) H p1 (by first | assumption | omega) p2 (by first | assumption | omega) p4 (by first | assumption | omega) p3 (by first | assumption | omega) (by first | assumption | omega)⟩
  · exact ⟨_, _, _, _, _, _, _, _, _, fun d M H => cl_same H (n_quot (d := d + 4) H p1 p2 p3 p4 (by first | assumption | omega) (by first | assumption | omega) (by first | assumption | omega) (by first | assumption | omega) (by first | assumption | omega) (by first | assumption | omega) (by first | assumption | omega) (by first | assumption | omega) (by first | assumption | omega)), fun d M H => rn_quot (d := d + 4) H p1 p2 p3 p4 (by first | assumption | omega) (by first | assumption | omega) (by first | assumption | omega) (by first | assumption | omega) (by first | assumption | omega) (by first | assumption | omega) (by first | assumption | omega) (by first | assumption | omega) (by first | assumption | omega)⟩
theorem b_rem {k : Nat} {pl : Nat → Pl k} {n : Int} {tx : Int → Int} {rc : Nat} {rw : Int → Int} {fc : Nat} {fa : Nat → Pl k} (hk_ : k < 4) (hb_ : ∀ i : Nat, i < 6 → Bd (pl i) 9) (p1 p2 p3 p4 : Int) (u0_ : -2147483648 ≤ p1) (w0_ : p1 ≤ 2147483647) (u1_ : -2147483648 ≤ p2) (w1_ : p2 ≤ 2147483647) (u2_ : -2147483648 ≤ p3) (w2_ : p3 ≤ 2147483647) (u3_ : -2147483648 ≤ p4) (w3_ : p4 ≤ 2147483647) : BO pl n tx rc rw fc fa 148 239 [(0, p1), (0, p2), (0, p3), (0, p4)] := by
  have q1_ := qq_I k
  have p1_ := pp_I k
  have m1_ := mm_I k
  by_cases h1_ : ((0 ≤ p1 ∧ p1 < 6) ∧ (0 ≤ p2 ∧ p2 < 6) ∧ (0 ≤ p4 ∧ p4 < 6) ∧ (p3 = 0 ∨ p3 = 1))
  · obtain ⟨p1, rfl⟩ : ∃ a_ : Nat, p1 = (a_ : Int) := ⟨p1.toNat, by omega⟩
    obtain ⟨p2, rfl⟩ : ∃ a_ : Nat, p2 = (a_ : Int) := ⟨p2.toNat, by omega⟩
    obtain ⟨p4, rfl⟩ : ∃ a_ : Nat, p4 = (a_ : Int) := ⟨p4.toNat, by omega⟩
    by_cases h2_ : 0 ≤ dg (pl p2)
    · exact ⟨_, _, _, _, _, _, _, _, _, fun d M H => o_rem (d := d + 4) H p1 (by first | assumption | omega) p2 (by first | assumption | omega) p4 (by first | assumption | omega) p3 (by first | assumption | omega) (by first | assumption | omega), fun d M H => ro_rem (d := d + 4) H p1 (by first | assumption | omega) p2 (by first | assumption | omega) p4 (by first | assumption | omega) p3 (by first | assumption | omega) (by first | assumption | omega)⟩
    · exact ⟨_, _, _, _, _, _, _, _, _, fun d M H => cl_same H (z_rem (d := d + 4) H p1 (by first | assumption | omega) p2 (by first | assumption | omega) p4 (by first | assumption | omega) p3 (by first | assumption | omega) (by first | assumption | omega)), fun d M H => rz_rem (d := d + 4) H p1 (by first | assumption | omega) p2 (by first | assumption | omega) p4 (by first | assumption | omega) p3 (by first | assumption | omega) (by first | assumption | omega)⟩
  · exact ⟨_, _, _, _, _, _, _, _, _, fun d M H => cl_same H (n_rem (d := d + 4) H p1 p2 p3 p4 (by first | assumption | omega) (by first | assumption | omega) (by first | assumption | omega) (by first | assumption | omega) (by first | assumption | omega) (by first | assumption | omega) (by first | assumption | omega) (by first | assumption | omega) (by first | assumption | omega)), fun d M H => rn_rem (d := d + 4) H p1 p2 p3 p4 (by first | assumption | omega) (by first | assumption | omega) (by first | assumption | omega) (by first | assumption | omega) (by first | assumption | omega) (by first | assumption | omega) (by first | assumption | omega) (by first | assumption | omega) (by first | assumption | omega)⟩
theorem b_divisor {k : Nat} {pl : Nat → Pl k} {n : Int} {tx : Int → Int} {rc : Nat} {rw : Int → Int} {fc : Nat} {fa : Nat → Pl k} (hk_ : k < 4) (hb_ : ∀ i : Nat, i < 6 → Bd (pl i) 9) (p1 p2 p3 p4 : Int) (u0_ : -2147483648 ≤ p1) (w0_ : p1 ≤ 2147483647) (u1_ : -2147483648 ≤ p2) (w1_ : p2 ≤ 2147483647) (u2_ : -2147483648 ≤ p3) (w2_ : p3 ≤ 2147483647) (u3_ : -2147483648 ≤ p4) (w3_ : p4 ≤ 2147483647) : BO pl n tx rc rw fc fa 149 240 [(0, p1), (0, p2), (0, p3), (0, p4)] := by
  have q1_ := qq_I k
  have p1_ := pp_I k
  have m1_ := mm_I k
  by_cases h1_ : ((0 ≤ p1 ∧ p1 < 6) ∧ (0 ≤ p2 ∧ p2 < 6) ∧ (0 ≤ p4 ∧ p4 < 6) ∧ (p3 = 0 ∨ p3 = 1))
  · obtain ⟨p1, rfl⟩ : ∃ a_ : Nat, p1 = (a_ : Int) := ⟨p1.toNat, by omega⟩
    obtain ⟨p2, rfl⟩ : ∃ a_ : Nat, p2 = (a_ : Int) := ⟨p2.toNat, by omega⟩
    obtain ⟨p4, rfl⟩ : ∃ a_ : Nat, p4 = (a_ : Int) := ⟨p4.toNat, by omega⟩
    by_cases h2_ : 0 ≤ dg (pl p1) ∨ 0 ≤ dg (pl p2)
    · exact ⟨_, _, _, _, _, _, _, _, _, fun d M H => o_divisor (d := d + 4) H p1 (by first | assumption | omega) p2 (by first | assumption | omega) p4 (by first | assumption | omega) p3 (by first | assumption | omega) (by first | assumption | omega), fun d M H => ro_divisor (d := d + 4) H p1 (by first | assumption | omega) p2 (by first | assumption | omega) p4 (by first | assumption | omega) p3 (by first | assumption | omega) (by first | assumption | omega)⟩
    · exact ⟨_, _, _, _, _, _, _, _, _, fun d M H => cl_same H (z_divisor (d := d + 4) H p1 (by first | assumption | omega) p2 (by first | assumption | omega) p4 (by first | assumption | omega) p3 (by first | assumption | omega) (by first | assumption | omega)), fun d M H => rz_divisor (d := d + 4) H p1 (by first | assumption | omega) p2 (by first | assumption | omega) p4 (by first | assumption | omega) p3 (by first | assumption | omega) (by first | assumption | omega)⟩
  · exact ⟨_, _, _, _, _, _, _, _, _, fun d M H => cl_same H (n_divisor (d := d + 4) H p1 p2 p3 p4 (by first | assumption | omega) (by first | assumption | omega) (by first | assumption | omega) (by first | assumption | omega) (by first | assumption | omega) (by first | assumption | omega) (by first | assumption | omega) (by first | assumption | omega) (by first | assumption | omega)), fun d M H => rn_divisor (d := d + 4) H p1 p2 p3 p4 (by first | assumption | omega) (by first | assumption | omega) (by first | assumption | omega) (by first | assumption | omega) (by first | assumption | omega) (by first | assumption | omega) (by first | assumption | omega) (by first | assumption | omega) (by first | assumption | omega)⟩
theorem b_multiple {k : Nat} {pl : Nat → Pl k} {n : Int} {tx : Int → Int} {rc : Nat} {rw : Int → Int} {fc : Nat} {fa : Nat → Pl k} (hk_ : k < 4) (hb_ : ∀ i : Nat, i < 6 → Bd (pl i) 9) (p1 p2 p3 p4 : Int) (u0_ : -2147483648 ≤ p1) (w0_ : p1 ≤ 2147483647) (u1_ : -2147483648 ≤ p2) (w1_ : p2 ≤ 2147483647) (u2_ : -2147483648 ≤ p3) (w2_ : p3 ≤ 2147483647) (u3_ : -2147483648 ≤ p4) (w3_ : p4 ≤ 2147483647) : BO pl n tx rc rw fc fa 150 244 [(0, p1), (0, p2), (0, p3), (0, p4)] := by
  have q1_ := qq_I k
  have p1_ := pp_I k
  have m1_ := mm_I k
  by_cases h1_ : ((0 ≤ p1 ∧ p1 < 6) ∧ (0 ≤ p2 ∧ p2 < 6) ∧ (0 ≤ p4 ∧ p4 < 6) ∧ (p3 = 0 ∨ p3 = 1))
  · obtain ⟨p1, rfl⟩ : ∃ a_ : Nat, p1 = (a_ : Int) := ⟨p1.toNat, by omega⟩
    obtain ⟨p2, rfl⟩ : ∃ a_ : Nat, p2 = (a_ : Int) := ⟨p2.toNat, by omega⟩
    obtain ⟨p4, rfl⟩ : ∃ a_ : Nat, p4 = (a_ : Int) := ⟨p4.toNat, by omega⟩
    by_cases h2_ : 0 ≤ dg (pl p1) ∧ 0 ≤ dg (pl p2)
    · exact ⟨_, _, _, _, _, _, _, _, _, fun d M H => o_multiple (d := d + 4) H p1 (by first | assumption | omega) p2 (by first | assumption | omega) p4 (by first | assumption | omega) p3 (by first | assumption | omega) (by first | assumption | omega) (by first | assumption | omega), fun d M H => ro_multiple (d := d + 4) H p1 (by first | assumption | omega) p2 (by first | assumption | omega) p4 (by first | assumption | omega) p3 (by first | assumption | omega) (by first | assumption | omega) (by first | assumption | omega)⟩
    · exact ⟨_, _, _, _, _, _, _, _, _, fun d M H => cl_same H (z_multiple (d := d + 4) H p1 (by first | assumption | omega) p2 (by first | assumption | omega) p4 (by first | assumption | omega) p3 (by first | assumption | omega) (by first | assumption | omega)), fun d M H => rz_multiple (d := d + 4) H p1 (by first | assumption | omega) p2 (by first | assumption | omega) p4 (by first | assumption | omega) p3 (by first | assumption | omega) (by first | assumption | omega)⟩
  · exact ⟨_, _, _, _, _, _, _, _, _, fun d M H => cl_same H (n_multiple (d := d + 4) H p1 p2 p3 p4 (by first | assumption | omega) (by first | assumption | omega) (by first | assumption | omega) (by first | assumption | omega) (by first | assumption | omega) (by first | assumption | omega) (by first | assumption | omega) (by first | assumption | omega) (by first | assumption | omega)), fun d M H => rn_multiple (d := d + 4) H p1 p2 p3 p4 (by first | assumption | omega) (by first | assumption | omega) (by first | assumption | omega) (by first | assumption | omega) (by first | assumption | omega) (by first | assumption | omega) (by first | assumption | omega) (by first | assumption | omega) (by first | assumption | omega)⟩
theorem b_steps {k : Nat} {pl : Nat → Pl k} {n : Int} {tx : Int → Int} {rc : Nat} {rw : Int → Int} {fc : Nat} {fa : Nat → Pl k} (hk_ : k < 4) (hb_ : ∀ i : Nat, i < 6 → Bd (pl i) 9) (p1 p2 p3 : Int) (u0_ : -2147483648 ≤ p1) (w0_ : p1 ≤ 2147483647) (u1_ : -2147483648 ≤ p2) (w1_ : p2 ≤ 2147483647) (u2_ : -2147483648 ≤ p3) (w2_ : p3 ≤ 2147483647) : BO pl n tx rc rw fc fa 151 246 [(0, p1), (0, p2), (0, p3)] := by
  have q1_ := qq_I k
  have p1_ := pp_I k
  have m1_ := mm_I k
  by_cases h1_ : ((0 ≤ p1 ∧ p1 < 6) ∧ (0 ≤ p2 ∧ p2 < 6) ∧ (p3 = 0 ∨ p3 = 1))
  · obtain ⟨p1, rfl⟩ : ∃ a_ : Nat, p1 = (a_ : Int) := ⟨p1.toNat, by omega⟩
    obtain ⟨p2, rfl⟩ : ∃ a_ : Nat, p2 = (a_ : Int) := ⟨p2.toNat, by omega⟩
    exact ⟨_, _, _, _, _, _, _, _, _, fun d M H => o_steps (d := d + 4) H p1 (by first | assumption | omega) p2 (by first | assumption | omega) p3 (by first | assumption | omega), fun d M H => ro_steps (d := d + 4) H p1 (by first | assumption | omega) p2 (by first | assumption | omega) p3 (by first | assumption | omega)⟩
  · exact ⟨_, _, _, _, _, _, _, _, _, fun d M H => cl_same H (n_steps (d := d + 4) H p1 p2 p3 (by first | assumption | omega) (by first | assumption | omega) (by first | assumption | omega) (by first | assumption | omega) (by first | assumption | omega) (by first | assumption | omega) (by first | assumption | omega)), fun d M H => rn_steps (d := d + 4) H p1 p2 p3 (by first | assumption | omega) (by first | assumption | omega) (by first | assumption | omega) (by first | assumption | omega) (by first | assumption | omega) (by first | assumption | omega) (by first | assumption | omega)⟩
theorem b_maps {k : Nat} {pl : Nat → Pl k} {n : Int} {tx : Int → Int} {rc : Nat} {rw : Int → Int} {fc : Nat} {fa : Nat → Pl k} (hk_ : k < 4) (hb_ : ∀ i : Nat, i < 6 → Bd (pl i) 9) (p1 p2 p3 : Int) (u0_ : -2147483648 ≤ p1) (w0_ : p1 ≤ 2147483647) (u1_ : -2147483648 ≤ p2) (w1_ : p2 ≤ 2147483647) (u2_ : -2147483648 ≤ p3) (w2_ : p3 ≤ 2147483647) : BO pl n tx rc rw fc fa 153 248 [(0, p1), (0, p2), (0, p3)] := by
  have q1_ := qq_I k
  have p1_ := pp_I k
  have m1_ := mm_I k
  by_cases h1_ : ((0 ≤ p1 ∧ p1 < 6) ∧ (0 ≤ p3 ∧ p3 < 6) ∧ -8 ≤ p2 ∧ p2 ≤ 8)
  · obtain ⟨p1, rfl⟩ : ∃ a_ : Nat, p1 = (a_ : Int) := ⟨p1.toNat, by omega⟩
    obtain ⟨p3, rfl⟩ : ∃ a_ : Nat, p3 = (a_ : Int) := ⟨p3.toNat, by omega⟩
    exact ⟨_, _, _, _, _, _, _, _, _, fun d M H => o_maps (d := d + 4) H p1 (by first | assumption | omega) p3 (by first | assumption | omega) p2 (by first | assumption | omega) (by first | assumption | omega), fun d M H => ro_maps (d := d + 4) H p1 (by first | assumption | omega) p3 (by first | assumption | omega) p2 (by first | assumption | omega) (by first | assumption | omega)⟩
  · exact ⟨_, _, _, _, _, _, _, _, _, fun d M H => cl_same H (n_maps (d := d + 4) H p1 p2 p3 (by first | assumption | omega) (by first | assumption | omega) (by first | assumption | omega) (by first | assumption | omega) (by first | assumption | omega) (by first | assumption | omega) (by first | assumption | omega)), fun d M H => rn_maps (d := d + 4) H p1 p2 p3 (by first | assumption | omega) (by first | assumption | omega) (by first | assumption | omega) (by first | assumption | omega) (by first | assumption | omega) (by first | assumption | omega) (by first | assumption | omega)⟩
theorem b_monic {k : Nat} {pl : Nat → Pl k} {n : Int} {tx : Int → Int} {rc : Nat} {rw : Int → Int} {fc : Nat} {fa : Nat → Pl k} (hk_ : k < 4) (hb_ : ∀ i : Nat, i < 6 → Bd (pl i) 9) (p1 : Int) (u0_ : -2147483648 ≤ p1) (w0_ : p1 ≤ 2147483647) : BO pl n tx rc rw fc fa 154 245 [(0, p1)] := by
  have q1_ := qq_I k
  have p1_ := pp_I k
  have m1_ := mm_I k
  by_cases h1_ : (0 ≤ p1 ∧ p1 < 6)
  · obtain ⟨p1, rfl⟩ : ∃ a_ : Nat, p1 = (a_ : Int) := ⟨p1.toNat, by omega⟩
    by_cases h2_ : 0 ≤ dg (pl p1)
    · exact ⟨_, _, _, _, _, _, _, _, _, fun d M H => o_monic (d := d + 4) H p1 (by first | assumption | omega) (by first | assumption | omega), fun d M H => ro_monic (d := d + 4) H p1 (by first | assumption | omega) (by first | assumption | omega)⟩
    · exact ⟨_, _, _, _, _, _, _, _, _, fun d M H => cl_same H (z_monic (d := d + 4) H p1 (by first | assumption | omega) (by first | assumption | omega)), fun d M H => rz_monic (d := d + 4) H p1 (by first | assumption | omega) (by first | assumption | omega)⟩
  · exact ⟨_, _, _, _, _, _, _, _, _, fun d M H => cl_same H (n_monic (d := d + 4) H p1 (by first | assumption | omega) (by first | assumption | omega) (by first | assumption | omega)), fun d M H => rn_monic (d := d + 4) H p1 (by first | assumption | omega) (by first | assumption | omega) (by first | assumption | omega)⟩
theorem b_form {k : Nat} {pl : Nat → Pl k} {n : Int} {tx : Int → Int} {rc : Nat} {rw : Int → Int} {fc : Nat} {fa : Nat → Pl k} (hk_ : k < 4) (hb_ : ∀ i : Nat, i < 6 → Bd (pl i) 9) (p1 p2 : Int) (u0_ : -2147483648 ≤ p1) (w0_ : p1 ≤ 2147483647) (u1_ : -2147483648 ≤ p2) (w1_ : p2 ≤ 2147483647) : BO pl n tx rc rw fc fa 155 249 [(0, p1), (0, p2)] := by
  have q1_ := qq_I k
  have p1_ := pp_I k
  have m1_ := mm_I k
  by_cases h1_ : (0 ≤ p1 ∧ p1 < 6)
  · obtain ⟨p1, rfl⟩ : ∃ a_ : Nat, p1 = (a_ : Int) := ⟨p1.toNat, by omega⟩
    by_cases h2_ : p2 = 0
    · subst h2_
      exact ⟨_, _, _, _, _, _, _, _, _, fun d M H => o_form0 (d := d + 4) H p1 (by first | assumption | omega), fun d M H => ro_form0 (d := d + 4) H p1 (by first | assumption | omega)⟩
    · by_cases h3_ : p2 = 1
      · subst h3_
        exact ⟨_, _, _, _, _, _, _, _, _, fun d M H => o_form1 (d := d + 4) H p1 (by first | assumption | omega), fun d M H => ro_form1 (d := d + 4) H p1 (by first | assumption | omega)⟩
      · by_cases h4_ : p2 = 2
        · subst h4_
          by_cases h5_ : 0 ≤ dg (pl p1)
          · exact ⟨_, _, _, _, _, _, _, _, _, fun d M H => o_form2 (d := d + 4) H p1 (by first | assumption | omega) (by first | assumption | omega), fun d M H => ro_form2 (d := d + 4) H p1 (by first | assumption | omega) (by first | assumption | omega)⟩
          · exact ⟨_, _, _, _, _, _, _, _, _, fun d M H => cl_same H (z_form2 (d := d + 4) H p1 (by first | assumption | omega) (by first | assumption | omega)), fun d M H => rz_form2 (d := d + 4) H p1 (by first | assumption | omega) (by first | assumption | omega)⟩
        · by_cases h5_ : p2 = 3
          · subst h5_
            exact ⟨_, _, _, _, _, _, _, _, _, fun d M H => o_form3 (d := d + 4) H p1 (by first | assumption | omega), fun d M H => ro_form3 (d := d + 4) H p1 (by first | assumption | omega)⟩
          · exact ⟨_, _, _, _, _, _, _, _, _, fun d M H => cl_same H (m_form (d := d + 4) H p1 (by first | assumption | omega) p2 (by first | assumption | omega) (by first | assumption | omega) (by first | assumption | omega)), fun d M H => rm_form (d := d + 4) H p1 (by first | assumption | omega) p2 (by first | assumption | omega) (by first | assumption | omega) (by first | assumption | omega)⟩
  · exact ⟨_, _, _, _, _, _, _, _, _, fun d M H => cl_same H (n_form (d := d + 4) H p1 p2 (by first | assumption | omega) (by first | assumption | omega) (by first | assumption | omega) (by first | assumption | omega) (by first | assumption | omega)), fun d M H => rn_form (d := d + 4) H p1 p2 (by first | assumption | omega) (by first | assumption | omega) (by first | assumption | omega) (by first | assumption | omega) (by first | assumption | omega)⟩
theorem b_same {k : Nat} {pl : Nat → Pl k} {n : Int} {tx : Int → Int} {rc : Nat} {rw : Int → Int} {fc : Nat} {fa : Nat → Pl k} (hk_ : k < 4) (hb_ : ∀ i : Nat, i < 6 → Bd (pl i) 9) (p1 p2 : Int) (u0_ : -2147483648 ≤ p1) (w0_ : p1 ≤ 2147483647) (u1_ : -2147483648 ≤ p2) (w1_ : p2 ≤ 2147483647) : BO pl n tx rc rw fc fa 156 256 [(0, p1), (0, p2)] := by
  have q1_ := qq_I k
  have p1_ := pp_I k
  have m1_ := mm_I k
  by_cases h1_ : ((0 ≤ p1 ∧ p1 < 6) ∧ (0 ≤ p2 ∧ p2 < 6))
  · obtain ⟨p1, rfl⟩ : ∃ a_ : Nat, p1 = (a_ : Int) := ⟨p1.toNat, by omega⟩
    obtain ⟨p2, rfl⟩ : ∃ a_ : Nat, p2 = (a_ : Int) := ⟨p2.toNat, by omega⟩
    exact ⟨_, _, _, _, _, _, _, _, _, fun d M H => o_same (d := d + 4) H p1 (by first | assumption | omega) p2 (by first | assumption | omega), fun d M H => ro_same (d := d + 4) H p1 (by first | assumption | omega) p2 (by first | assumption | omega)⟩
  · exact ⟨_, _, _, _, _, _, _, _, _, fun d M H => cl_same H (n_same (d := d + 4) H p1 p2 (by first | assumption | omega) (by first | assumption | omega) (by first | assumption | omega) (by first | assumption | omega) (by first | assumption | omega)), fun d M H => rn_same (d := d + 4) H p1 p2 (by first | assumption | omega) (by first | assumption | omega) (by first | assumption | omega) (by first | assumption | omega) (by first | assumption | omega)⟩
theorem b_power {k : Nat} {pl : Nat → Pl k} {n : Int} {tx : Int → Int} {rc : Nat} {rw : Int → Int} {fc : Nat} {fa : Nat → Pl k} (hk_ : k < 4) (hb_ : ∀ i : Nat, i < 6 → Bd (pl i) 9) (p1 p2 p3 : Int) (u0_ : -2147483648 ≤ p1) (w0_ : p1 ≤ 2147483647) (u1_ : -2147483648 ≤ p2) (w1_ : p2 ≤ 2147483647) (u2_ : -2147483648 ≤ p3) (w2_ : p3 ≤ 2147483647) : BO pl n tx rc rw fc fa 157 252 [(0, p1), (0, p2), (0, p3)] := by
  have q1_ := qq_I k
  have p1_ := pp_I k
  have m1_ := mm_I k
  by_cases h1_ : ((0 ≤ p1 ∧ p1 < 6) ∧ (0 ≤ p3 ∧ p3 < 6) ∧ 0 ≤ p2 ∧ p2 ≤ 8)
  · obtain ⟨p1, rfl⟩ : ∃ a_ : Nat, p1 = (a_ : Int) := ⟨p1.toNat, by omega⟩
    obtain ⟨p2, rfl⟩ : ∃ a_ : Nat, p2 = (a_ : Int) := ⟨p2.toNat, by omega⟩
    obtain ⟨p3, rfl⟩ : ∃ a_ : Nat, p3 = (a_ : Int) := ⟨p3.toNat, by omega⟩
    by_cases h2_ : dg (pl p1) * (p2 : Int) ≤ 8
    · exact ⟨_, _, _, _, _, _, _, _, _, fun d M H => o_power (d := d + 4) H p1 (by first | assumption | omega) p3 (by first | assumption | omega) p2 (by first | assumption | omega) (by first | assumption | omega), fun d M H => ro_power (d := d + 4) H p1 (by first | assumption | omega) p3 (by first | assumption | omega) p2 (by first | assumption | omega) (by first | assumption | omega)⟩
    · exact ⟨_, _, _, _, _, _, _, _, _, fun d M H => cl_same H (z_power (d := d + 4) H p1 (by first | assumption | omega) p3 (by first | assumption | omega) p2 (by first | assumption | omega) (by first | assumption | omega)), fun d M H => rz_power (d := d + 4) H p1 (by first | assumption | omega) p3 (by first | assumption | omega) p2 (by first | assumption | omega) (by first | assumption | omega)⟩
  · exact ⟨_, _, _, _, _, _, _, _, _, fun d M H => cl_same H (n_power (d := d + 4) H p1 p2 p3 (by first | assumption | omega) (by first | assumption | omega) (by first | assumption | omega) (by first | assumption | omega) (by first | assumption | omega) (by first | assumption | omega) (by first | assumption | omega)), fun d M H => rn_power (d := d + 4) H p1 p2 p3 (by first | assumption | omega) (by first | assumption | omega) (by first | assumption | omega) (by first | assumption | omega) (by first | assumption | omega) (by first | assumption | omega) (by first | assumption | omega)⟩
theorem b_turned {k : Nat} {pl : Nat → Pl k} {n : Int} {tx : Int → Int} {rc : Nat} {rw : Int → Int} {fc : Nat} {fa : Nat → Pl k} (hk_ : k < 4) (hb_ : ∀ i : Nat, i < 6 → Bd (pl i) 9) (p1 p2 p3 : Int) (u0_ : -2147483648 ≤ p1) (w0_ : p1 ≤ 2147483647) (u1_ : -2147483648 ≤ p2) (w1_ : p2 ≤ 2147483647) (u2_ : -2147483648 ≤ p3) (w2_ : p3 ≤ 2147483647) : BO pl n tx rc rw fc fa 158 253 [(0, p1), (0, p2), (0, p3)] := by
  have q1_ := qq_I k
  have p1_ := pp_I k
  have m1_ := mm_I k
  by_cases h1_ : ((0 ≤ p2 ∧ p2 < 6) ∧ (0 ≤ p3 ∧ p3 < 6) ∧ (0 ≤ p1 ∧ p1 < (qq k : Int)))
  · obtain ⟨p1, rfl⟩ : ∃ a_ : El k, p1 = (a_.val : Int) := ⟨⟨p1.toNat, by omega⟩, by show p1 = ((p1.toNat : Nat) : Int); omega⟩
    obtain ⟨p2, rfl⟩ : ∃ a_ : Nat, p2 = (a_ : Int) := ⟨p2.toNat, by omega⟩
    obtain ⟨p3, rfl⟩ : ∃ a_ : Nat, p3 = (a_ : Int) := ⟨p3.toNat, by omega⟩
    by_cases h2_ : (p1.val : Int) ≠ 0
    · exact ⟨_, _, _, _, _, _, _, _, _, fun d M H => o_turned (d := d + 4) H p2 (by first | assumption | omega) p3 (by first | assumption | omega) p1 (by first | assumption | omega), fun d M H => ro_turned (d := d + 4) H p2 (by first | assumption | omega) p3 (by first | assumption | omega) p1 (by first | assumption | omega)⟩
    · exact ⟨_, _, _, _, _, _, _, _, _, fun d M H => cl_same H (z_turned (d := d + 4) H p2 (by first | assumption | omega) p3 (by first | assumption | omega) p1 (by first | assumption | omega)), fun d M H => rz_turned (d := d + 4) H p2 (by first | assumption | omega) p3 (by first | assumption | omega) p1 (by first | assumption | omega)⟩
  · exact ⟨_, _, _, _, _, _, _, _, _, fun d M H => cl_same H (n_turned (d := d + 4) H p1 p2 p3 (by first | assumption | omega) (by first | assumption | omega) (by first | assumption | omega) (by first | assumption | omega) (by first | assumption | omega) (by first | assumption | omega) (by first | assumption | omega)), fun d M H => rn_turned (d := d + 4) H p1 p2 p3 (by first | assumption | omega) (by first | assumption | omega) (by first | assumption | omega) (by first | assumption | omega) (by first | assumption | omega) (by first | assumption | omega) (by first | assumption | omega)⟩
theorem b_cofs {k : Nat} {pl : Nat → Pl k} {n : Int} {tx : Int → Int} {rc : Nat} {rw : Int → Int} {fc : Nat} {fa : Nat → Pl k} (hk_ : k < 4) (hb_ : ∀ i : Nat, i < 6 → Bd (pl i) 9) (p1 p2 p3 p4 : Int) (u0_ : -2147483648 ≤ p1) (w0_ : p1 ≤ 2147483647) (u1_ : -2147483648 ≤ p2) (w1_ : p2 ≤ 2147483647) (u2_ : -2147483648 ≤ p3) (w2_ : p3 ≤ 2147483647) (u3_ : -2147483648 ≤ p4) (w3_ : p4 ≤ 2147483647) : BO pl n tx rc rw fc fa 159 254 [(0, p1), (0, p2), (0, p3), (0, p4)] := by
  have q1_ := qq_I k
  have p1_ := pp_I k
  have m1_ := mm_I k
  by_cases h1_ : ((0 ≤ p1 ∧ p1 < 6) ∧ (0 ≤ p2 ∧ p2 < 6) ∧ (0 ≤ p3 ∧ p3 < 6) ∧ (0 ≤ p4 ∧ p4 < 6))
  · obtain ⟨p1, rfl⟩ : ∃ a_ : Nat, p1 = (a_ : Int) := ⟨p1.toNat, by omega⟩
    obtain ⟨p2, rfl⟩ : ∃ a_ : Nat, p2 = (a_ : Int) := ⟨p2.toNat, by omega⟩
    obtain ⟨p3, rfl⟩ : ∃ a_ : Nat, p3 = (a_ : Int) := ⟨p3.toNat, by omega⟩
    obtain ⟨p4, rfl⟩ : ∃ a_ : Nat, p4 = (a_ : Int) := ⟨p4.toNat, by omega⟩
    by_cases h2_ : 0 ≤ dg (pl p1) ∨ 0 ≤ dg (pl p2)
    · by_cases h3_ : p3 = p4
      · subst h3_
        exact ⟨_, _, _, _, _, _, _, _, _, fun d M H => cl_same H (z_cofs (d := d + 4) H p1 (by first | assumption | omega) p2 (by first | assumption | omega) p3 (by first | assumption | omega) (by first | assumption | omega)), fun d M H => rz_cofs (d := d + 4) H p1 (by first | assumption | omega) p2 (by first | assumption | omega) p3 (by first | assumption | omega) (by first | assumption | omega)⟩
      · exact ⟨_, _, _, _, _, _, _, _, _, fun d M H => o_cofs (d := d + 4) H p1 (by first | assumption | omega) p2 (by first | assumption | omega) p3 (by first | assumption | omega) p4 (by first | assumption | omega) (by first | assumption | omega) (by first | assumption | omega), fun d M H => ro_cofs (d := d + 4) H p1 (by first | assumption | omega) p2 (by first | assumption | omega) p3 (by first | assumption | omega) p4 (by first | assumption | omega) (by first | assumption | omega) (by first | assumption | omega)⟩
    · exact ⟨_, _, _, _, _, _, _, _, _, fun d M H => cl_same H (y_cofs (d := d + 4) H p1 (by first | assumption | omega) p2 (by first | assumption | omega) p3 (by first | assumption | omega) p4 (by first | assumption | omega) (by first | assumption | omega)), fun d M H => ry_cofs (d := d + 4) H p1 (by first | assumption | omega) p2 (by first | assumption | omega) p3 (by first | assumption | omega) p4 (by first | assumption | omega) (by first | assumption | omega)⟩
  · exact ⟨_, _, _, _, _, _, _, _, _, fun d M H => cl_same H (n_cofs (d := d + 4) H p1 p2 p3 p4 (by first | assumption | omega) (by first | assumption | omega) (by first | assumption | omega) (by first | assumption | omega) (by first | assumption | omega) (by first | assumption | omega) (by first | assumption | omega) (by first | assumption | omega) (by first | assumption | omega)), fun d M H => rn_cofs (d := d + 4) H p1 p2 p3 p4 (by first | assumption | omega) (by first | assumption | omega) (by first | assumption | omega) (by first | assumption | omega) (by first | assumption | omega) (by first | assumption | omega) (by first | assumption | omega) (by first | assumption | omega) (by first | assumption | omega)⟩
theorem b_fits {k : Nat} {pl : Nat → Pl k} {n : Int} {tx : Int → Int} {rc : Nat} {rw : Int → Int} {fc : Nat} {fa : Nat → Pl k} (hk_ : k < 4) (hb_ : ∀ i : Nat, i < 6 → Bd (pl i) 9) (p1 : Int) (u0_ : -2147483648 ≤ p1) (w0_ : p1 ≤ 2147483647) : BO pl n tx rc rw fc fa 160 271 [(0, p1)] := by
  have q1_ := qq_I k
  have p1_ := pp_I k
  have m1_ := mm_I k
  by_cases h1_ : (rcz k tx n).1 < 0
  · by_cases h2_ : (0 ≤ p1 ∧ p1 < 6)
    · obtain ⟨p1, rfl⟩ : ∃ a_ : Nat, p1 = (a_ : Int) := ⟨p1.toNat, by omega⟩
      by_cases h3_ : ∀ i : Nat, i < (rcz k tx n).2.2.2 → fitOk k (rcz k tx n).2.1 (rcz k tx n).2.2.1 i
      · exact ⟨_, _, _, _, _, _, _, _, _, fun d M H => o_fits (d := d + 4) H p1 (by first | assumption | omega) (by first | assumption | omega) (by first | assumption | omega), fun d M H => ro_fits (d := d + 4) H p1 (by first | assumption | omega) (by first | assumption | omega) (by first | assumption | omega)⟩
      · exact ⟨_, _, _, _, _, _, _, _, _, fun d M H => x_fits (d := d + 4) H p1 (by first | assumption | omega) (by first | assumption | omega) (by first | assumption | omega), fun d M H => rx_fits (d := d + 4) H p1 (by first | assumption | omega) (by first | assumption | omega) (by first | assumption | omega)⟩
    · exact ⟨_, _, _, _, _, _, _, _, _, fun d M H => n_fits (d := d + 4) H p1 (by first | assumption | omega) (by first | assumption | omega) (by first | assumption | omega) (by first | assumption | omega), fun d M H => rn_fits (d := d + 4) H p1 (by first | assumption | omega) (by first | assumption | omega) (by first | assumption | omega) (by first | assumption | omega)⟩
  · exact ⟨_, _, _, _, _, _, _, _, _, fun d M H => z_fits (d := d + 4) H p1 (by first | assumption | omega) (by first | assumption | omega) (by first | assumption | omega), fun d M H => rz_fits (d := d + 4) H p1 (by first | assumption | omega) (by first | assumption | omega) (by first | assumption | omega)⟩
theorem b_value {k : Nat} {pl : Nat → Pl k} {n : Int} {tx : Int → Int} {rc : Nat} {rw : Int → Int} {fc : Nat} {fa : Nat → Pl k} (hk_ : k < 4) (hb_ : ∀ i : Nat, i < 6 → Bd (pl i) 9) (p1 p2 : Int) (u0_ : -2147483648 ≤ p1) (w0_ : p1 ≤ 2147483647) (u1_ : -2147483648 ≤ p2) (w1_ : p2 ≤ 2147483647) : BO pl n tx rc rw fc fa 161 258 [(0, p1), (0, p2)] := by
  have q1_ := qq_I k
  have p1_ := pp_I k
  have m1_ := mm_I k
  by_cases h1_ : ((0 ≤ p1 ∧ p1 < 6) ∧ (0 ≤ p2 ∧ p2 < (qq k : Int)))
  · obtain ⟨p1, rfl⟩ : ∃ a_ : Nat, p1 = (a_ : Int) := ⟨p1.toNat, by omega⟩
    obtain ⟨p2, rfl⟩ : ∃ a_ : El k, p2 = (a_.val : Int) := ⟨⟨p2.toNat, by omega⟩, by show p2 = ((p2.toNat : Nat) : Int); omega⟩
    exact ⟨_, _, _, _, _, _, _, _, _, fun d M H => o_value (d := d + 4) H p1 (by first | assumption | omega) p2, fun d M H => ro_value (d := d + 4) H p1 (by first | assumption | omega) p2⟩
  · exact ⟨_, _, _, _, _, _, _, _, _, fun d M H => cl_same H (n_value (d := d + 4) H p1 p2 (by first | assumption | omega) (by first | assumption | omega) (by first | assumption | omega) (by first | assumption | omega) (by first | assumption | omega)), fun d M H => rn_value (d := d + 4) H p1 p2 (by first | assumption | omega) (by first | assumption | omega) (by first | assumption | omega) (by first | assumption | omega) (by first | assumption | omega)⟩
theorem b_does {k : Nat} {pl : Nat → Pl k} {n : Int} {tx : Int → Int} {rc : Nat} {rw : Int → Int} {fc : Nat} {fa : Nat → Pl k} (hk_ : k < 4) (hb_ : ∀ i : Nat, i < 6 → Bd (pl i) 9) (p1 p2 : Int) (u0_ : -2147483648 ≤ p1) (w0_ : p1 ≤ 2147483647) (u1_ : -2147483648 ≤ p2) (w1_ : p2 ≤ 2147483647) : BO pl n tx rc rw fc fa 163 262 [(0, p1), (0, p2)] := by
  have q1_ := qq_I k
  have p1_ := pp_I k
  have m1_ := mm_I k
  by_cases h1_ : ((0 ≤ p1 ∧ p1 < 6) ∧ (0 ≤ p2 ∧ p2 < (qq k : Int)))
  · obtain ⟨p1, rfl⟩ : ∃ a_ : Nat, p1 = (a_ : Int) := ⟨p1.toNat, by omega⟩
    obtain ⟨p2, rfl⟩ : ∃ a_ : El k, p2 = (a_.val : Int) := ⟨⟨p2.toNat, by omega⟩, by show p2 = ((p2.toNat : Nat) : Int); omega⟩
    exact ⟨_, _, _, _, _, _, _, _, _, fun d M H => o_does (d := d + 4) H p1 (by first | assumption | omega) p2, fun d M H => ro_does (d := d + 4) H p1 (by first | assumption | omega) p2⟩
  · exact ⟨_, _, _, _, _, _, _, _, _, fun d M H => cl_same H (n_does (d := d + 4) H p1 p2 (by first | assumption | omega) (by first | assumption | omega) (by first | assumption | omega) (by first | assumption | omega) (by first | assumption | omega)), fun d M H => rn_does (d := d + 4) H p1 p2 (by first | assumption | omega) (by first | assumption | omega) (by first | assumption | omega) (by first | assumption | omega) (by first | assumption | omega)⟩
theorem b_solves {k : Nat} {pl : Nat → Pl k} {n : Int} {tx : Int → Int} {rc : Nat} {rw : Int → Int} {fc : Nat} {fa : Nat → Pl k} (hk_ : k < 4) (hb_ : ∀ i : Nat, i < 6 → Bd (pl i) 9) (p1 p2 : Int) (u0_ : -2147483648 ≤ p1) (w0_ : p1 ≤ 2147483647) (u1_ : -2147483648 ≤ p2) (w1_ : p2 ≤ 2147483647) : BO pl n tx rc rw fc fa 165 274 [(0, p1), (0, p2)] := by
  have q1_ := qq_I k
  have p1_ := pp_I k
  have m1_ := mm_I k
  by_cases h1_ : ((0 ≤ p1 ∧ p1 < 6) ∧ (0 ≤ p2 ∧ p2 < (qq k : Int)))
  · obtain ⟨p1, rfl⟩ : ∃ a_ : Nat, p1 = (a_ : Int) := ⟨p1.toNat, by omega⟩
    obtain ⟨p2, rfl⟩ : ∃ a_ : El k, p2 = (a_.val : Int) := ⟨⟨p2.toNat, by omega⟩, by show p2 = ((p2.toNat : Nat) : Int); omega⟩
    exact ⟨_, _, _, _, _, _, _, _, _, fun d M H => o_solves (d := d + 4) H p1 (by first | assumption | omega) p2, fun d M H => ro_solves (d := d + 4) H p1 (by first | assumption | omega) p2⟩
  · exact ⟨_, _, _, _, _, _, _, _, _, fun d M H => cl_same H (n_solves (d := d + 4) H p1 p2 (by first | assumption | omega) (by first | assumption | omega) (by first | assumption | omega) (by first | assumption | omega) (by first | assumption | omega)), fun d M H => rn_solves (d := d + 4) H p1 p2 (by first | assumption | omega) (by first | assumption | omega) (by first | assumption | omega) (by first | assumption | omega) (by first | assumption | omega)⟩
theorem b_roots {k : Nat} {pl : Nat → Pl k} {n : Int} {tx : Int → Int} {rc : Nat} {rw : Int → Int} {fc : Nat} {fa : Nat → Pl k} (hk_ : k < 4) (hb_ : ∀ i : Nat, i < 6 → Bd (pl i) 9) (p1 : Int) (u0_ : -2147483648 ≤ p1) (w0_ : p1 ≤ 2147483647) : BO pl n tx rc rw fc fa 162 260 [(0, p1)] := by
  have q1_ := qq_I k
  have p1_ := pp_I k
  have m1_ := mm_I k
  by_cases h1_ : (0 ≤ p1 ∧ p1 < 6)
  · obtain ⟨p1, rfl⟩ : ∃ a_ : Nat, p1 = (a_ : Int) := ⟨p1.toNat, by omega⟩
    exact ⟨_, _, _, _, _, _, _, _, _, fun d M H => o_roots (d := d + 4) H p1 (by first | assumption | omega), fun d M H => ro_roots (d := d + 4) H p1 (by first | assumption | omega)⟩
  · exact ⟨_, _, _, _, _, _, _, _, _, fun d M H => cl_same H (n_roots (d := d + 4) H p1 (by first | assumption | omega) (by first | assumption | omega) (by first | assumption | omega)), fun d M H => rn_roots (d := d + 4) H p1 (by first | assumption | omega) (by first | assumption | omega) (by first | assumption | omega)⟩
theorem b_kernel {k : Nat} {pl : Nat → Pl k} {n : Int} {tx : Int → Int} {rc : Nat} {rw : Int → Int} {fc : Nat} {fa : Nat → Pl k} (hk_ : k < 4) (hb_ : ∀ i : Nat, i < 6 → Bd (pl i) 9) (p1 : Int) (u0_ : -2147483648 ≤ p1) (w0_ : p1 ≤ 2147483647) : BO pl n tx rc rw fc fa 164 264 [(0, p1)] := by
  have q1_ := qq_I k
  have p1_ := pp_I k
  have m1_ := mm_I k
  by_cases h1_ : (0 ≤ p1 ∧ p1 < 6)
  · obtain ⟨p1, rfl⟩ : ∃ a_ : Nat, p1 = (a_ : Int) := ⟨p1.toNat, by omega⟩
    exact ⟨_, _, _, _, _, _, _, _, _, fun d M H => o_kernel (d := d + 4) H p1 (by first | assumption | omega), fun d M H => ro_kernel (d := d + 4) H p1 (by first | assumption | omega)⟩
  · exact ⟨_, _, _, _, _, _, _, _, _, fun d M H => cl_same H (n_kernel (d := d + 4) H p1 (by first | assumption | omega) (by first | assumption | omega) (by first | assumption | omega)), fun d M H => rn_kernel (d := d + 4) H p1 (by first | assumption | omega) (by first | assumption | omega) (by first | assumption | omega)⟩
theorem b_eigen {k : Nat} {pl : Nat → Pl k} {n : Int} {tx : Int → Int} {rc : Nat} {rw : Int → Int} {fc : Nat} {fa : Nat → Pl k} (hk_ : k < 4) (hb_ : ∀ i : Nat, i < 6 → Bd (pl i) 9) (p1 : Int) (u0_ : -2147483648 ≤ p1) (w0_ : p1 ≤ 2147483647) : BO pl n tx rc rw fc fa 170 268 [(0, p1)] := by
  have q1_ := qq_I k
  have p1_ := pp_I k
  have m1_ := mm_I k
  by_cases h1_ : (0 ≤ p1 ∧ p1 < 6)
  · obtain ⟨p1, rfl⟩ : ∃ a_ : Nat, p1 = (a_ : Int) := ⟨p1.toNat, by omega⟩
    exact ⟨_, _, _, _, _, _, _, _, _, fun d M H => o_eigen (d := d + 4) H p1 (by first | assumption | omega), fun d M H => ro_eigen (d := d + 4) H p1 (by first | assumption | omega)⟩
  · exact ⟨_, _, _, _, _, _, _, _, _, fun d M H => cl_same H (n_eigen (d := d + 4) H p1 (by first | assumption | omega) (by first | assumption | omega) (by first | assumption | omega)), fun d M H => rn_eigen (d := d + 4) H p1 (by first | assumption | omega) (by first | assumption | omega) (by first | assumption | omega)⟩
theorem b_central {k : Nat} {pl : Nat → Pl k} {n : Int} {tx : Int → Int} {rc : Nat} {rw : Int → Int} {fc : Nat} {fa : Nat → Pl k} (hk_ : k < 4) (hb_ : ∀ i : Nat, i < 6 → Bd (pl i) 9) (p1 : Int) (u0_ : -2147483648 ≤ p1) (w0_ : p1 ≤ 2147483647) : BO pl n tx rc rw fc fa 180 295 [(0, p1)] := by
  have q1_ := qq_I k
  have p1_ := pp_I k
  have m1_ := mm_I k
  by_cases h1_ : (0 ≤ p1 ∧ p1 < 6)
  · obtain ⟨p1, rfl⟩ : ∃ a_ : Nat, p1 = (a_ : Int) := ⟨p1.toNat, by omega⟩
    exact ⟨_, _, _, _, _, _, _, _, _, fun d M H => o_central (d := d + 4) H p1 (by first | assumption | omega), fun d M H => ro_central (d := d + 4) H p1 (by first | assumption | omega)⟩
  · exact ⟨_, _, _, _, _, _, _, _, _, fun d M H => cl_same H (n_central (d := d + 4) H p1 (by first | assumption | omega) (by first | assumption | omega) (by first | assumption | omega)), fun d M H => rn_central (d := d + 4) H p1 (by first | assumption | omega) (by first | assumption | omega) (by first | assumption | omega)⟩
theorem b_reaches {k : Nat} {pl : Nat → Pl k} {n : Int} {tx : Int → Int} {rc : Nat} {rw : Int → Int} {fc : Nat} {fa : Nat → Pl k} (hk_ : k < 4) (hb_ : ∀ i : Nat, i < 6 → Bd (pl i) 9) (p1 : Int) (u0_ : -2147483648 ≤ p1) (w0_ : p1 ≤ 2147483647) : BO pl n tx rc rw fc fa 166 275 [(0, p1)] := by
  have q1_ := qq_I k
  have p1_ := pp_I k
  have m1_ := mm_I k
  by_cases h1_ : (0 ≤ p1 ∧ p1 < 6)
  · obtain ⟨p1, rfl⟩ : ∃ a_ : Nat, p1 = (a_ : Int) := ⟨p1.toNat, by omega⟩
    by_cases h2_ : 0 ≤ dg (pl p1)
    · exact ⟨_, _, _, _, _, _, _, _, _, fun d M H => o_reaches (d := d + 4) H p1 (by first | assumption | omega) (by first | assumption | omega), fun d M H => ro_reaches (d := d + 4) H p1 (by first | assumption | omega) (by first | assumption | omega)⟩
    · exact ⟨_, _, _, _, _, _, _, _, _, fun d M H => cl_same H (z_reaches (d := d + 4) H p1 (by first | assumption | omega) (by first | assumption | omega)), fun d M H => rz_reaches (d := d + 4) H p1 (by first | assumption | omega) (by first | assumption | omega)⟩
  · exact ⟨_, _, _, _, _, _, _, _, _, fun d M H => cl_same H (n_reaches (d := d + 4) H p1 (by first | assumption | omega) (by first | assumption | omega) (by first | assumption | omega)), fun d M H => rn_reaches (d := d + 4) H p1 (by first | assumption | omega) (by first | assumption | omega) (by first | assumption | omega)⟩
theorem b_basis {k : Nat} {pl : Nat → Pl k} {n : Int} {tx : Int → Int} {rc : Nat} {rw : Int → Int} {fc : Nat} {fa : Nat → Pl k} (hk_ : k < 4) (hb_ : ∀ i : Nat, i < 6 → Bd (pl i) 9) (p1 : Int) (u0_ : -2147483648 ≤ p1) (w0_ : p1 ≤ 2147483647) : BO pl n tx rc rw fc fa 167 265 [(0, p1)] := by
  have q1_ := qq_I k
  have p1_ := pp_I k
  have m1_ := mm_I k
  by_cases h1_ : 0 ≤ p1 ∧ p1 < 2 ^ qq k
  · obtain ⟨g1_, g2_⟩ := h1_
    exact ⟨_, _, _, _, _, _, _, _, _, fun d M H => o_basis (d := d + 4) H p1 (by first | assumption | omega) (by first | assumption | omega), fun d M H => ro_basis (d := d + 4) H p1 (by first | assumption | omega) (by first | assumption | omega)⟩
  · exact ⟨_, _, _, _, _, _, _, _, _, fun d M H => cl_same H (n_basis (d := d + 4) H p1 (by first | assumption | omega) (by first | assumption | omega) (by first | assumption | omega)), fun d M H => rn_basis (d := d + 4) H p1 (by first | assumption | omega) (by first | assumption | omega) (by first | assumption | omega)⟩
theorem b_shares {k : Nat} {pl : Nat → Pl k} {n : Int} {tx : Int → Int} {rc : Nat} {rw : Int → Int} {fc : Nat} {fa : Nat → Pl k} (hk_ : k < 4) (hb_ : ∀ i : Nat, i < 6 → Bd (pl i) 9) (p1 p2 : Int) (u0_ : -2147483648 ≤ p1) (w0_ : p1 ≤ 2147483647) (u1_ : -2147483648 ≤ p2) (w1_ : p2 ≤ 2147483647) : BO pl n tx rc rw fc fa 169 267 [(0, p1), (0, p2)] := by
  have q1_ := qq_I k
  have p1_ := pp_I k
  have m1_ := mm_I k
  by_cases h1_ : ((0 ≤ p1 ∧ p1 < 6) ∧ (0 ≤ p2 ∧ p2 < 6))
  · obtain ⟨p1, rfl⟩ : ∃ a_ : Nat, p1 = (a_ : Int) := ⟨p1.toNat, by omega⟩
    obtain ⟨p2, rfl⟩ : ∃ a_ : Nat, p2 = (a_ : Int) := ⟨p2.toNat, by omega⟩
    exact ⟨_, _, _, _, _, _, _, _, _, fun d M H => o_shares (d := d + 4) H p1 (by first | assumption | omega) p2 (by first | assumption | omega), fun d M H => ro_shares (d := d + 4) H p1 (by first | assumption | omega) p2 (by first | assumption | omega)⟩
  · exact ⟨_, _, _, _, _, _, _, _, _, fun d M H => cl_same H (n_shares (d := d + 4) H p1 p2 (by first | assumption | omega) (by first | assumption | omega) (by first | assumption | omega) (by first | assumption | omega) (by first | assumption | omega)), fun d M H => rn_shares (d := d + 4) H p1 p2 (by first | assumption | omega) (by first | assumption | omega) (by first | assumption | omega) (by first | assumption | omega) (by first | assumption | omega)⟩
theorem b_van {k : Nat} {pl : Nat → Pl k} {n : Int} {tx : Int → Int} {rc : Nat} {rw : Int → Int} {fc : Nat} {fa : Nat → Pl k} (hk_ : k < 4) (hb_ : ∀ i : Nat, i < 6 → Bd (pl i) 9) (p1 p2 : Int) (u0_ : -2147483648 ≤ p1) (w0_ : p1 ≤ 2147483647) (u1_ : -2147483648 ≤ p2) (w1_ : p2 ≤ 2147483647) : BO pl n tx rc rw fc fa 171 270 [(0, p1), (0, p2)] := by
  have q1_ := qq_I k
  have p1_ := pp_I k
  have m1_ := mm_I k
  by_cases h1_ : (0 ≤ p2 ∧ p2 < 6) ∧ 0 ≤ p1 ∧ p1 < 2 ^ qq k
  · obtain ⟨p2, rfl⟩ : ∃ a_ : Nat, p2 = (a_ : Int) := ⟨p2.toNat, by omega⟩
    obtain ⟨g0_, g1_, g2_⟩ := h1_
    exact ⟨_, _, _, _, _, _, _, _, _, fun d M H => o_van (d := d + 4) H p2 (by first | assumption | omega) p1 (by first | assumption | omega) (by first | assumption | omega), fun d M H => ro_van (d := d + 4) H p2 (by first | assumption | omega) p1 (by first | assumption | omega) (by first | assumption | omega)⟩
  · exact ⟨_, _, _, _, _, _, _, _, _, fun d M H => cl_same H (n_van (d := d + 4) H p1 p2 (by first | assumption | omega) (by first | assumption | omega) (by first | assumption | omega) (by first | assumption | omega) (by first | assumption | omega)), fun d M H => rn_van (d := d + 4) H p1 p2 (by first | assumption | omega) (by first | assumption | omega) (by first | assumption | omega) (by first | assumption | omega) (by first | assumption | omega)⟩
theorem b_divs {k : Nat} {pl : Nat → Pl k} {n : Int} {tx : Int → Int} {rc : Nat} {rw : Int → Int} {fc : Nat} {fa : Nat → Pl k} (hk_ : k < 4) (hb_ : ∀ i : Nat, i < 6 → Bd (pl i) 9) (p1 p2 : Int) (u0_ : -2147483648 ≤ p1) (w0_ : p1 ≤ 2147483647) (u1_ : -2147483648 ≤ p2) (w1_ : p2 ≤ 2147483647) : BO pl n tx rc rw fc fa 172 276 [(0, p1), (0, p2)] := by
  have q1_ := qq_I k
  have p1_ := pp_I k
  have m1_ := mm_I k
  by_cases h1_ : ((0 ≤ p1 ∧ p1 < 6) ∧ 1 ≤ p2 ∧ p2 ≤ 3)
  · obtain ⟨p1, rfl⟩ : ∃ a_ : Nat, p1 = (a_ : Int) := ⟨p1.toNat, by omega⟩
    obtain ⟨p2, rfl⟩ : ∃ a_ : Nat, p2 = (a_ : Int) := ⟨p2.toNat, by omega⟩
    by_cases h2_ : dg (pl p1) < 0
    · exact ⟨_, _, _, _, _, _, _, _, _, fun d M H => cl_same H (y_divs (d := d + 4) H p1 (by first | assumption | omega) p2 (by first | assumption | omega) (by first | assumption | omega) (by first | assumption | omega)), fun d M H => ry_divs (d := d + 4) H p1 (by first | assumption | omega) p2 (by first | assumption | omega) (by first | assumption | omega) (by first | assumption | omega)⟩
    · by_cases h3_ : 4 < dg (pl p1)
      · exact ⟨_, _, _, _, _, _, _, _, _, fun d M H => cl_same H (z_divs (d := d + 4) H p1 (by first | assumption | omega) p2 (by first | assumption | omega) (by first | assumption | omega) (by first | assumption | omega)), fun d M H => rz_divs (d := d + 4) H p1 (by first | assumption | omega) p2 (by first | assumption | omega) (by first | assumption | omega) (by first | assumption | omega)⟩
      · have n0_ : dg (pl p1) = ((dg (pl p1)).toNat : Int) := by omega
        have ig_ := hbI (hb_ p1 (by omega)) n0_
        have b17_ : Bd (pl p1) 17 := (hb_ p1 (by omega)).mono (by decide)
        by_cases h4_ : svN (pl p1) p2 (trN k (dg (pl p1)) (p2 : Int)) = 0
        · by_cases h5_ : (p2 : Int) ≤ dg (pl p1)
          · have e_ := (divs_eq (rw_ := rw) ig_ b17_ (show 1 ≤ p2 by omega) (show p2 ≤ (dg (pl p1)).toNat by omega) (by omega)).1 (by assumption)
            exact ⟨_, _, _, _, _, _, _, _, _, fun d M H => o_divs0 (d := d + 4) H p1 (by first | assumption | omega) p2 (by first | assumption | omega) (by first | assumption | omega) (by first | assumption | omega) (by first | assumption | omega) (by first | assumption | omega), fun d M H => (by have w_ := ro_divs (d := d + 4) H p1 (by first | assumption | omega) p2 (by first | assumption | omega) (by first | assumption | omega) (by first | assumption | omega) (by first | assumption | omega); rw [e_] at w_; exact w_)⟩
          · exact ⟨_, _, _, _, _, _, _, _, _, fun d M H => o_divs0 (d := d + 4) H p1 (by first | assumption | omega) p2 (by first | assumption | omega) (by first | assumption | omega) (by first | assumption | omega) (by first | assumption | omega) (by first | assumption | omega), fun d M H => rm_divs (d := d + 4) H p1 (by first | assumption | omega) p2 (by first | assumption | omega) (by first | assumption | omega) (by first | assumption | omega) (by first | assumption | omega) (by first | assumption | omega)⟩
        · by_cases h5_ : (p2 : Int) ≤ dg (pl p1)
          · have s_ : 0 < svN (pl p1) p2 (trN k (dg (pl p1)) (p2 : Int)) := by have := svN_I (pl p1) p2 (trN k (dg (pl p1)) (p2 : Int)); omega
            have e_ := (divs_eq (rw_ := rw) ig_ b17_ (show 1 ≤ p2 by omega) (show p2 ≤ (dg (pl p1)).toNat by omega) (by omega)).2 s_
            exact ⟨_, _, _, _, _, _, _, _, _, fun d M H => o_divs1 (d := d + 4) H p1 (by first | assumption | omega) p2 (by first | assumption | omega) (by first | assumption | omega) (by first | assumption | omega) (by first | assumption | omega) (by first | assumption | omega), fun d M H => (by have w_ := ro_divs (d := d + 4) H p1 (by first | assumption | omega) p2 (by first | assumption | omega) (by first | assumption | omega) (by first | assumption | omega) (by first | assumption | omega); rw [e_] at w_; exact w_)⟩
          · exact absurd (svN_high n0_ (show (dg (pl p1)).toNat < p2 by omega)) (by assumption)
  · by_cases h2_ : (1 ≤ p2 ∧ p2 ≤ 3)
    · exact ⟨_, _, _, _, _, _, _, _, _, fun d M H => cl_same H (n_divs (d := d + 4) H p1 p2 (by first | assumption | omega) (by first | assumption | omega) (by first | assumption | omega) (by first | assumption | omega) (by first | assumption | omega)), fun d M H => rm2_divs (d := d + 4) H p1 p2 (by first | assumption | omega) (by first | assumption | omega) (by first | assumption | omega) (by first | assumption | omega) (by first | assumption | omega) (by first | assumption | omega)⟩
    · exact ⟨_, _, _, _, _, _, _, _, _, fun d M H => cl_same H (n_divs (d := d + 4) H p1 p2 (by first | assumption | omega) (by first | assumption | omega) (by first | assumption | omega) (by first | assumption | omega) (by first | assumption | omega)), fun d M H => rn_divs (d := d + 4) H p1 p2 (by first | assumption | omega) (by first | assumption | omega) (by first | assumption | omega) (by first | assumption | omega) (by first | assumption | omega)⟩
theorem b_prime {k : Nat} {pl : Nat → Pl k} {n : Int} {tx : Int → Int} {rc : Nat} {rw : Int → Int} {fc : Nat} {fa : Nat → Pl k} (hk_ : k < 4) (hb_ : ∀ i : Nat, i < 6 → Bd (pl i) 9) (p1 : Int) (u0_ : -2147483648 ≤ p1) (w0_ : p1 ≤ 2147483647) : BO pl n tx rc rw fc fa 174 281 [(0, p1)] := by
  have q1_ := qq_I k
  have p1_ := pp_I k
  have m1_ := mm_I k
  by_cases h1_ : (0 ≤ p1 ∧ p1 < 6)
  · obtain ⟨p1, rfl⟩ : ∃ a_ : Nat, p1 = (a_ : Int) := ⟨p1.toNat, by omega⟩
    by_cases h2_ : dg (pl p1) < 0
    · exact ⟨_, _, _, _, _, _, _, _, _, fun d M H => cl_same H (y_prime (d := d + 4) H p1 (by first | assumption | omega) (by first | assumption | omega)), fun d M H => ry_prime (d := d + 4) H p1 (by first | assumption | omega) (by first | assumption | omega)⟩
    · by_cases h3_ : 4 < dg (pl p1)
      · exact ⟨_, _, _, _, _, _, _, _, _, fun d M H => cl_same H (z_prime (d := d + 4) H p1 (by first | assumption | omega) (by first | assumption | omega)), fun d M H => rz_prime (d := d + 4) H p1 (by first | assumption | omega) (by first | assumption | omega)⟩
      · have n0_ : dg (pl p1) = ((dg (pl p1)).toNat : Int) := by omega
        have ig_ := hbI (hb_ p1 (by omega)) n0_
        have b17_ : Bd (pl p1) 17 := (hb_ p1 (by omega)).mono (by decide)
        exact ⟨_, _, _, _, _, _, _, _, _, fun d M H => o_prime (d := d + 4) H p1 (by first | assumption | omega) (by first | assumption | omega) (by first | assumption | omega), fun d M H => ct_val (ro_prime (d := d + 4) H p1 (by first | assumption | omega) (by first | assumption | omega) (by first | assumption | omega)) (bz_congr (prC_M ig_ b17_ (by omega)).symm)⟩
  · exact ⟨_, _, _, _, _, _, _, _, _, fun d M H => cl_same H (n_prime (d := d + 4) H p1 (by first | assumption | omega) (by first | assumption | omega) (by first | assumption | omega)), fun d M H => rn_prime (d := d + 4) H p1 (by first | assumption | omega) (by first | assumption | omega) (by first | assumption | omega)⟩
theorem b_factors {k : Nat} {pl : Nat → Pl k} {n : Int} {tx : Int → Int} {rc : Nat} {rw : Int → Int} {fc : Nat} {fa : Nat → Pl k} (hk_ : k < 4) (hb_ : ∀ i : Nat, i < 6 → Bd (pl i) 9) (p1 : Int) (u0_ : -2147483648 ≤ p1) (w0_ : p1 ≤ 2147483647) : BO pl n tx rc rw fc fa 175 284 [(0, p1)] := by
  have q1_ := qq_I k
  have p1_ := pp_I k
  have m1_ := mm_I k
  by_cases h1_ : (0 ≤ p1 ∧ p1 < 6)
  · obtain ⟨p1, rfl⟩ : ∃ a_ : Nat, p1 = (a_ : Int) := ⟨p1.toNat, by omega⟩
    by_cases h2_ : dg (pl p1) < 0
    · exact ⟨_, _, _, _, _, _, _, _, _, fun d M H => cl_same H (y_facs (d := d + 4) H p1 (by first | assumption | omega) (by first | assumption | omega)), fun d M H => ry_factors (d := d + 4) H p1 (by first | assumption | omega) (by first | assumption | omega)⟩
    · by_cases h3_ : 4 < dg (pl p1)
      · exact ⟨_, _, _, _, _, _, _, _, _, fun d M H => cl_same H (z_facs (d := d + 4) H p1 (by first | assumption | omega) (by first | assumption | omega)), fun d M H => rz_factors (d := d + 4) H p1 (by first | assumption | omega) (by first | assumption | omega)⟩
      · have n0_ : dg (pl p1) = ((dg (pl p1)).toNat : Int) := by omega
        have ig_ := hbI (hb_ p1 (by omega)) n0_
        have b17_ : Bd (pl p1) 17 := (hb_ p1 (by omega)).mono (by decide)
        exact ⟨_, _, _, _, _, _, _, _, _, fun d M H => o_facs (d := d + 4) H p1 (by first | assumption | omega) (by first | assumption | omega) (by first | assumption | omega), fun d M H => ro_factors (d := d + 4) H p1 (by first | assumption | omega) (dg (pl p1)).toNat (by first | assumption | omega) (by first | assumption | omega)⟩
  · exact ⟨_, _, _, _, _, _, _, _, _, fun d M H => cl_same H (n_facs (d := d + 4) H p1 (by first | assumption | omega) (by first | assumption | omega) (by first | assumption | omega)), fun d M H => rn_factors (d := d + 4) H p1 (by first | assumption | omega) (by first | assumption | omega) (by first | assumption | omega)⟩
theorem b_ways {k : Nat} {pl : Nat → Pl k} {n : Int} {tx : Int → Int} {rc : Nat} {rw : Int → Int} {fc : Nat} {fa : Nat → Pl k} (hk_ : k < 4) (hb_ : ∀ i : Nat, i < 6 → Bd (pl i) 9) (p1 : Int) (u0_ : -2147483648 ≤ p1) (w0_ : p1 ≤ 2147483647) : BO pl n tx rc rw fc fa 176 287 [(0, p1)] := by
  have q1_ := qq_I k
  have p1_ := pp_I k
  have m1_ := mm_I k
  by_cases h1_ : (0 ≤ p1 ∧ p1 < 6)
  · obtain ⟨p1, rfl⟩ : ∃ a_ : Nat, p1 = (a_ : Int) := ⟨p1.toNat, by omega⟩
    by_cases h2_ : dg (pl p1) < 0
    · exact ⟨_, _, _, _, _, _, _, _, _, fun d M H => cl_same H (y_ways (d := d + 0) H p1 (by first | assumption | omega) (by first | assumption | omega)), fun d M H => ry_ways (d := d + 0) H p1 (by first | assumption | omega) (by first | assumption | omega)⟩
    · by_cases h3_ : 4 < dg (pl p1)
      · exact ⟨_, _, _, _, _, _, _, _, _, fun d M H => cl_same H (z_ways (d := d + 0) H p1 (by first | assumption | omega) (by first | assumption | omega)), fun d M H => rz_ways (d := d + 0) H p1 (by first | assumption | omega) (by first | assumption | omega)⟩
      · have n0_ : dg (pl p1) = ((dg (pl p1)).toNat : Int) := by omega
        have ig_ := hbI (hb_ p1 (by omega)) n0_
        have b17_ : Bd (pl p1) 17 := (hb_ p1 (by omega)).mono (by decide)
        exact ⟨_, _, _, _, _, _, _, _, _, fun d M H => o_ways (d := d + 0) H p1 (by first | assumption | omega) (by first | assumption | omega) (by first | assumption | omega), fun d M H => ro_ways (d := d + 0) H p1 (by first | assumption | omega) (dg (pl p1)).toNat (by first | assumption | omega) (by first | assumption | omega)⟩
  · exact ⟨_, _, _, _, _, _, _, _, _, fun d M H => cl_same H (n_ways (d := d + 0) H p1 (by first | assumption | omega) (by first | assumption | omega) (by first | assumption | omega)), fun d M H => rn_ways (d := d + 0) H p1 (by first | assumption | omega) (by first | assumption | omega) (by first | assumption | omega)⟩
theorem b_likes {k : Nat} {pl : Nat → Pl k} {n : Int} {tx : Int → Int} {rc : Nat} {rw : Int → Int} {fc : Nat} {fa : Nat → Pl k} (hk_ : k < 4) (hb_ : ∀ i : Nat, i < 6 → Bd (pl i) 9) (p1 : Int) (u0_ : -2147483648 ≤ p1) (w0_ : p1 ≤ 2147483647) : BO pl n tx rc rw fc fa 177 290 [(0, p1)] := by
  have q1_ := qq_I k
  have p1_ := pp_I k
  have m1_ := mm_I k
  by_cases h1_ : (0 ≤ p1 ∧ p1 < 6)
  · obtain ⟨p1, rfl⟩ : ∃ a_ : Nat, p1 = (a_ : Int) := ⟨p1.toNat, by omega⟩
    by_cases h2_ : dg (pl p1) < 0
    · exact ⟨_, _, _, _, _, _, _, _, _, fun d M H => cl_same H (y_likes (d := d + 4) H p1 (by first | assumption | omega) (by first | assumption | omega)), fun d M H => ry_likes (d := d + 4) H p1 (by first | assumption | omega) (by first | assumption | omega)⟩
    · by_cases h3_ : 4 < dg (pl p1)
      · exact ⟨_, _, _, _, _, _, _, _, _, fun d M H => cl_same H (z_likes (d := d + 4) H p1 (by first | assumption | omega) (by first | assumption | omega)), fun d M H => rz_likes (d := d + 4) H p1 (by first | assumption | omega) (by first | assumption | omega)⟩
      · by_cases h4_ : dg (pl p1) = 0 ∨ 2 < dg (pl p1)
        · exact ⟨_, _, _, _, _, _, _, _, _, fun d M H => cl_same H (z_likes (d := d + 4) H p1 (by first | assumption | omega) (by first | assumption | omega)), fun d M H => rx_likes (d := d + 4) H p1 (by first | assumption | omega) (by first | assumption | omega) (by first | assumption | omega)⟩
        · by_cases h5_ : dg (pl p1) = 1
          · have ig_ := hbI (n := 1) (hb_ p1 (by omega)) (by omega)
            exact ⟨_, _, _, _, _, _, _, _, _, fun d M H => o_likes1 (d := d + 4) H p1 (by first | assumption | omega) (by first | assumption | omega), fun d M H => ct_val (ro_likes (d := d + 4) H p1 (by first | assumption | omega) 1 (by first | assumption | omega) (by first | assumption | omega) (by first | assumption | omega)) (likes_eq ig_ (Or.inl ⟨rfl, rfl⟩))⟩
          · have ig_ := hbI (n := 2) (hb_ p1 (by omega)) (by omega)
            exact ⟨_, _, _, _, _, _, _, _, _, fun d M H => o_likes2 (d := d + 4) H p1 (by first | assumption | omega) (by first | assumption | omega), fun d M H => ct_val (ro_likes (d := d + 4) H p1 (by first | assumption | omega) 2 (by first | assumption | omega) (by first | assumption | omega) (by first | assumption | omega)) (likes_eq ig_ (Or.inr ⟨rfl, rfl⟩))⟩
  · exact ⟨_, _, _, _, _, _, _, _, _, fun d M H => cl_same H (n_likes (d := d + 4) H p1 (by first | assumption | omega) (by first | assumption | omega) (by first | assumption | omega)), fun d M H => rn_likes (d := d + 4) H p1 (by first | assumption | omega) (by first | assumption | omega) (by first | assumption | omega)⟩
theorem b_like {k : Nat} {pl : Nat → Pl k} {n : Int} {tx : Int → Int} {rc : Nat} {rw : Int → Int} {fc : Nat} {fa : Nat → Pl k} (hk_ : k < 4) (hb_ : ∀ i : Nat, i < 6 → Bd (pl i) 9) (p1 p2 : Int) (u0_ : -2147483648 ≤ p1) (w0_ : p1 ≤ 2147483647) (u1_ : -2147483648 ≤ p2) (w1_ : p2 ≤ 2147483647) : BO pl n tx rc rw fc fa 178 293 [(0, p1), (0, p2)] := by
  have q1_ := qq_I k
  have p1_ := pp_I k
  have m1_ := mm_I k
  by_cases h1_ : ((0 ≤ p1 ∧ p1 < 6) ∧ (0 ≤ p2 ∧ p2 < 6))
  · obtain ⟨p1, rfl⟩ : ∃ a_ : Nat, p1 = (a_ : Int) := ⟨p1.toNat, by omega⟩
    obtain ⟨p2, rfl⟩ : ∃ a_ : Nat, p2 = (a_ : Int) := ⟨p2.toNat, by omega⟩
    by_cases h2_ : dg (pl p1) < 0 ∨ dg (pl p2) < 0
    · exact ⟨_, _, _, _, _, _, _, _, _, fun d M H => cl_same H (y_like (d := d + 4) H p1 (by first | assumption | omega) p2 (by first | assumption | omega) (by first | assumption | omega)), fun d M H => ry_like (d := d + 4) H p1 (by first | assumption | omega) p2 (by first | assumption | omega) (by first | assumption | omega)⟩
    · by_cases h3_ : 4 < dg (pl p1) ∨ 4 < dg (pl p2)
      · exact ⟨_, _, _, _, _, _, _, _, _, fun d M H => cl_same H (z_like (d := d + 4) H p1 (by first | assumption | omega) p2 (by first | assumption | omega) (by first | assumption | omega) (by first | assumption | omega) (by first | assumption | omega)), fun d M H => rz_like (d := d + 4) H p1 (by first | assumption | omega) p2 (by first | assumption | omega) (by first | assumption | omega) (by first | assumption | omega) (by first | assumption | omega)⟩
      · by_cases h4_ : dg (pl p1) ≠ dg (pl p2) ∨ dg (pl p1) = 0
        · exact ⟨_, _, _, _, _, _, _, _, _, fun d M H => cl_same H (x_like (d := d + 4) H p1 (by first | assumption | omega) p2 (by first | assumption | omega) (by first | assumption | omega) (by first | assumption | omega) (by first | assumption | omega) (by first | assumption | omega) (by first | assumption | omega)), fun d M H => rx_like (d := d + 4) H p1 (by first | assumption | omega) p2 (by first | assumption | omega) (by first | assumption | omega) (by first | assumption | omega) (by first | assumption | omega) (by first | assumption | omega) (by first | assumption | omega)⟩
        · have n0_ : dg (pl p1) = ((dg (pl p1)).toNat : Int) := by omega
          have m0_ : dg (pl p2) = ((dg (pl p1)).toNat : Int) := by omega
          generalize (dg (pl p1)).toNat = n0 at n0_ m0_
          have jg_ := hbI (hb_ p2 (by omega)) m0_
          have hB9_ := hb_ p2 (by omega)
          have hA9_ := hb_ p1 (by omega)
          by_cases f_ : fwI (pl p1) (pl p2) n0 = -1
          · refine ⟨_, _, _, _, _, _, _, _, _, fun d M H => ?_, fun d M H => rw_like (d := d + 4) H p1 (by first | assumption | omega) p2 (by first | assumption | omega) n0 (by first | assumption | omega) (by first | assumption | omega) (by first | assumption | omega) (by first | assumption | omega) (by first | assumption | omega)⟩
            refine (o_like (d := d + 4) H p1 (by first | assumption | omega) p2 (by first | assumption | omega) n0 (by first | assumption | omega) (by first | assumption | omega) (by first | assumption | omega) (by first | assumption | omega)).imp (fun r M' h_ => ?_)
            obtain ⟨c, R, dp, ow, us, hG, h_⟩ := h_
            rcases h_ with ⟨t, ⟨⟨t1, t2, t3⟩, t4⟩, h_⟩ | ⟨t4, h_⟩
            · obtain ⟨a, a1, a2, a3, a4⟩ := like_some hA9_ jg_ hB9_ (by omega) hG t1 t2 t3 t4
              exfalso; omega
            · exact h_
          · have f2_ := fwI_I (pl p1) (pl p2) (n := n0) (by omega)
            have hex_ : ∃ a : Nat, 1 ≤ a ∧ a < unq k n0 ∧ fwI (pl p1) (pl p2) n0 = (a : Int) := by
              rcases fsN_spec (q := fun c => wyP (pl p1) (pl p2) n0 (c + 1)) (n := unq k n0 - 1) with ⟨g1, _⟩ | ⟨_, g2⟩
              · have g1' : fwN (pl p1) (pl p2) n0 < unq k n0 - 1 := g1
                exact ⟨fwN (pl p1) (pl p2) n0 + 1, by omega, by omega, by unfold fwI; rw [if_pos g1']; omega⟩
              · exact absurd (fwI_none (fun a a1 a2 w => g2 (a - 1) (by omega) (by show wyP _ _ _ (a - 1 + 1); rw [show a - 1 + 1 = a by omega]; exact w))) f_
            obtain ⟨c0, c1_, c2_, hc0⟩ := hex_
            refine ⟨_, _, _, _, _, _, _, _, _, fun d M H => ?_, fun d M H => ro_like (d := d + 4) H p1 (by first | assumption | omega) p2 (by first | assumption | omega) n0 (by first | assumption | omega) (by first | assumption | omega) (by first | assumption | omega) (by first | assumption | omega) c0 (by first | assumption | omega) (by first | assumption | omega) (by first | assumption | omega)⟩
            refine (o_like (d := d + 4) H p1 (by first | assumption | omega) p2 (by first | assumption | omega) n0 (by first | assumption | omega) (by first | assumption | omega) (by first | assumption | omega) (by first | assumption | omega)).imp (fun r M' h_ => ?_)
            obtain ⟨c, R, dp, ow, us, hG, h_⟩ := h_
            rcases h_ with ⟨t, ⟨⟨t1, t2, t3⟩, t4⟩, h_⟩ | ⟨t4, h_⟩
            · obtain ⟨a, a1, a2, a3, a4⟩ := like_some hA9_ jg_ hB9_ (by omega) hG t1 t2 t3 t4
              have ea_ : a = c0 := by omega
              rw [← a4, ea_] at h_
              exact h_
            · exact absurd (like_none hA9_ jg_ hB9_ (by omega) hG t4) f_
  · exact ⟨_, _, _, _, _, _, _, _, _, fun d M H => cl_same H (n_like (d := d + 4) H p1 p2 (by first | assumption | omega) (by first | assumption | omega) (by first | assumption | omega) (by first | assumption | omega) (by first | assumption | omega)), fun d M H => rn_like (d := d + 4) H p1 p2 (by first | assumption | omega) (by first | assumption | omega) (by first | assumption | omega) (by first | assumption | omega) (by first | assumption | omega)⟩
theorem b_commuting {k : Nat} {pl : Nat → Pl k} {n : Int} {tx : Int → Int} {rc : Nat} {rw : Int → Int} {fc : Nat} {fa : Nat → Pl k} (hk_ : k < 4) (hb_ : ∀ i : Nat, i < 6 → Bd (pl i) 9) (p1 : Int) (u0_ : -2147483648 ≤ p1) (w0_ : p1 ≤ 2147483647) : BO pl n tx rc rw fc fa 179 294 [(0, p1)] := by
  have q1_ := qq_I k
  have p1_ := pp_I k
  have m1_ := mm_I k
  by_cases h1_ : (0 ≤ p1 ∧ p1 < 6)
  · obtain ⟨p1, rfl⟩ : ∃ a_ : Nat, p1 = (a_ : Int) := ⟨p1.toNat, by omega⟩
    by_cases h2_ : dg (pl p1) < 0
    · exact ⟨_, _, _, _, _, _, _, _, _, fun d M H => cl_same H (y_commuting (d := d + 4) H p1 (by first | assumption | omega) (by first | assumption | omega)), fun d M H => ry_commuting (d := d + 4) H p1 (by first | assumption | omega) (by first | assumption | omega)⟩
    · by_cases h3_ : 4 < dg (pl p1)
      · exact ⟨_, _, _, _, _, _, _, _, _, fun d M H => cl_same H (z_commuting (d := d + 4) H p1 (by first | assumption | omega) (by first | assumption | omega)), fun d M H => rz_commuting (d := d + 4) H p1 (by first | assumption | omega) (by first | assumption | omega)⟩
      · by_cases h4_ : dg (pl p1) = 0 ∨ 3 < dg (pl p1)
        · exact ⟨_, _, _, _, _, _, _, _, _, fun d M H => cl_same H (z_commuting (d := d + 4) H p1 (by first | assumption | omega) (by first | assumption | omega)), fun d M H => rx_commuting (d := d + 4) H p1 (by first | assumption | omega) (by first | assumption | omega) (by first | assumption | omega)⟩
        · have n0_ : dg (pl p1) = ((dg (pl p1)).toNat : Int) := by omega
          generalize (dg (pl p1)).toNat = n0 at n0_
          have ig_ := hbI (hb_ p1 (by omega)) n0_
          have hA9_ := hb_ p1 (by omega)
          refine ⟨_, _, _, _, _, _, _, _, _, fun d M H => ?_, fun d M H => ro_commuting (d := d + 4) H p1 (by first | assumption | omega) n0 (by first | assumption | omega) (by first | assumption | omega) (by first | assumption | omega)⟩
          refine (o_commuting (d := d + 4) H p1 (by first | assumption | omega) n0 (by first | assumption | omega) (by first | assumption | omega) (by first | assumption | omega)).imp (fun r M' h_ => ?_)
          obtain ⟨c, R, dp, ow, us, hG, h_⟩ := h_
          rw [comm_cnt hA9_ ig_ hG, comm_uni hA9_ ig_ hA9_ (by omega) (by omega) hG]
          exact h_
  · exact ⟨_, _, _, _, _, _, _, _, _, fun d M H => cl_same H (n_commuting (d := d + 4) H p1 (by first | assumption | omega) (by first | assumption | omega) (by first | assumption | omega)), fun d M H => rn_commuting (d := d + 4) H p1 (by first | assumption | omega) (by first | assumption | omega) (by first | assumption | omega)⟩
