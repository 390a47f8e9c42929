/-! both sides answer alike: the rest */ -/
theorem stw_congr {g g' : Nat → Int} {rw_ : Int → Int} : ∀ {n : Nat}, (∀ m : Nat, m < n → g m = g' m) → stw g rw_ n = stw g' rw_ n
  | 0, _ => rfl
  | n + 1, h => by
    show upr (stw g rw_ n) _ (g n) = upr (stw g' rw_ n) _ (g' n)
    rw [stw_congr (fun m hm => h m (by omega)), h n (by omega)]
/-- the search for a central one ends -/
theorem cen_hit {k n : Nat} {A : Pl k} (hA : IsDg A (n : Int)) (n8 : n ≤ 8) : ∃ e : Nat, e ≤ 8 ∧ ∃ c : Nat, c < unt k e ∧ dr 0 (cnp (k := k) e c) A = pz := by
  have hm := mm_pos k
  obtain ⟨e, z, h1, h2, h3, h4, h5⟩ := cen_all hA
  have hu : ∀ j : Nat, (z (j * mm k)).val < pp k := fun j => h4 _
  refine ⟨e, by omega, nbS (pp k) (fun j => (z (j * mm k)).val) 0 e, nbS_lt (b := 0) hu e, ?_⟩
  have ez : cnp (k := k) e (nbS (pp k) (fun j => (z (j * mm k)).val) 0 e) = z := by
    funext l
    show (if l = e * mm k then e1 else if l % mm k = 0 ∧ l < e * mm k then el k (dgn (pp k) (nbS (pp k) (fun j => (z (j * mm k)).val) 0 e) (l / mm k)) else z0) = z l
    have dm := Nat.div_add_mod l (mm k)
    by_cases q : l = e * mm k
    · rw [if_pos q, q, h3.2]
    · rw [if_neg q]
      by_cases q0 : l % mm k = 0
      · rw [q0, Nat.add_zero, Nat.mul_comm] at dm
        by_cases q1 : l < e * mm k
        · have q2 : l / mm k < e := by
            rcases Nat.lt_or_ge (l / mm k) e with y | y
            · exact y
            · have := Nat.mul_le_mul_right (mm k) y
              omega
          rw [if_pos ⟨q0, q1⟩, dgn_nbS (pp_ge k) hu e _ q2]
          show el k (z (l / mm k * mm k)).val = z l
          rw [dm, el_val]
        · rw [if_neg (fun y => q1 y.2)]
          exact (h3.1.2.1 l (by omega)).symm
      · rw [if_neg (fun y => q0 y.1)]
        exact (h2 l q0).symm
  rw [ez]
  exact h5.lf hA
theorem b_bound {k : Nat} {pl : Nat → Pl k} {n : Int} {tx : Int → Int} {rc : Nat} {rw : Int → Int} {fc : Nat} {fa : Nat → Pl k} (hk_ : k < 4) (hb_ : ∀ i : Nat, i < 6 → Bd (pl i) 9) (p1 : Int) (u0_ : -2147483648 ≤ p1) (w0_ : p1 ≤ 2147483647) : BO pl n tx rc rw fc fa 181 297 [(0, p1)] := by
  have q1_ := qq_I k
  have p1_ := pp_I k
  have m1_ := mm_I k
  by_cases h1_ : (0 ≤ p1 ∧ p1 < 6)
  · obtain ⟨p1, rfl⟩ : ∃ a_ : Nat, p1 = (a_ : Int) := ⟨p1.toNat, by omega⟩
    by_cases h2_ : dg (pl p1) < 0
    · exact ⟨_, _, _, _, _, _, _, _, _, fun d M H => cl_same H (y_bound (d := d + 4) H p1 (by first | assumption | omega) (by first | assumption | omega)), fun d M H => ry_bound (d := d + 4) H p1 (by first | assumption | omega) (by first | assumption | omega)⟩
    · have n0_ : dg (pl p1) = ((dg (pl p1)).toNat : Int) := by omega
      generalize (dg (pl p1)).toNat = n0 at n0_
      have ig_ := hbI (hb_ p1 (by omega)) n0_
      have l9_ := dg_lt9 (hb_ p1 (by omega))
      have hx_ : ∃ (e0 c0 : Nat), e0 ≤ 8 ∧ c0 < unt k e0 ∧ dr 0 (cnp (k := k) e0 c0) (pl p1) = pz ∧ (∀ e c : Nat, (e < e0 ∧ c < unt k e) ∨ (e = e0 ∧ c < c0) → dr 0 (cnp (k := k) e c) (pl p1) ≠ pz) := by
        obtain ⟨e, z, z1, z2, z3, z4, z5⟩ := cen_all ig_
        have hit : ∃ e : Nat, e ≤ 8 ∧ ∃ c : Nat, c < unt k e ∧ dr 0 (cnp (k := k) e c) (pl p1) = pz := cen_hit ig_ (by omega)
        obtain ⟨e0, ⟨e8, c, c1, c2⟩, e0m⟩ := nat_first hit
        obtain ⟨c0, ⟨d1, d2⟩, c0m⟩ := nat_first (q := fun c => c < unt k e0 ∧ dr 0 (cnp (k := k) e0 c) (pl p1) = pz) ⟨c, c1, c2⟩
        refine ⟨e0, c0, e8, d1, d2, fun e c h_ q_ => ?_⟩
        rcases h_ with ⟨h1, h2⟩ | ⟨h1, h2⟩
        · exact e0m e h1 ⟨by omega, c, h2, q_⟩
        · subst h1; exact c0m c h2 ⟨by omega, q_⟩
      obtain ⟨e0, c0, x1_, x2_, x3_, x4_⟩ := hx_
      refine ⟨_, _, _, _, _, _, _, _, _, fun d M H => ?_, fun d M H => ro_bound (d := d + 4) H p1 (by first | assumption | omega) (by first | assumption | omega) e0 c0 (by first | assumption | omega) (by first | assumption | omega) (by first | assumption | omega) (by first | assumption | omega)⟩
      refine (o_bound (d := d + 4) H p1 (by first | assumption | omega) n0 (by first | assumption | omega) (by first | assumption | omega) (hex_all ig_ (by omega))).imp (fun r M' h_ => ?_)
      obtain ⟨e1, u0, ⟨f1, f2, f3⟩, h_⟩ := h_
      obtain ⟨c1, g1, g2, g3, g4⟩ := bound_eq ig_ f2 f3
      have ee_ : e1 = e0 ∧ c1 = c0 := by
        rcases Nat.lt_trichotomy e1 e0 with q | q | q
        · exact absurd g2 (x4_ e1 c1 (Or.inl ⟨q, g1⟩))
        · subst q
          rcases Nat.lt_trichotomy c1 c0 with q2 | q2 | q2
          · exact absurd g2 (x4_ e1 c1 (Or.inr ⟨rfl, q2⟩))
          · exact ⟨rfl, q2⟩
          · exact absurd x3_ (g3 e1 c0 (Or.inr ⟨rfl, q2⟩))
        · exact absurd x3_ (g3 e0 c0 (Or.inl ⟨q, x2_⟩))
      obtain ⟨y1_, y2_⟩ := ee_
      rw [y1_, y2_] at g4
      rw [y1_] at h_
      rw [stw_congr (g := fun m_ : Nat => ((cnp (k := k) e0 c0 (mm k * m_)).val : Int)) (g' := fun m_ : Nat => (u0 m_ : Int)) (fun m_ hm_ => g4 m_ hm_)]
      exact h_
  · exact ⟨_, _, _, _, _, _, _, _, _, fun d M H => cl_same H (n_bound (d := d + 4) H p1 (by first | assumption | omega) (by first | assumption | omega) (by first | assumption | omega)), fun d M H => rn_bound (d := d + 4) H p1 (by first | assumption | omega) (by first | assumption | omega) (by first | assumption | omega)⟩
theorem b_part {k : Nat} {pl : Nat → Pl k} {n : Int} {tx : Int → Int} {rc : Nat} {rw : Int → Int} {fc : Nat} {fa : Nat → Pl k} (hk_ : k < 4) (hb_ : ∀ i : Nat, i < 6 → Bd (pl i) 9) (p1 p2 : Int) (u0_ : -2147483648 ≤ p1) (w0_ : p1 ≤ 2147483647) (u1_ : -2147483648 ≤ p2) (w1_ : p2 ≤ 2147483647) : BO pl n tx rc rw fc fa 182 299 [(0, p1), (0, p2)] := by
  have q1_ := qq_I k
  have p1_ := pp_I k
  have m1_ := mm_I k
  by_cases h1_ : ((0 ≤ p1 ∧ p1 < 6) ∧ (0 ≤ p2 ∧ p2 < 6))
  · obtain ⟨p1, rfl⟩ : ∃ a_ : Nat, p1 = (a_ : Int) := ⟨p1.toNat, by omega⟩
    obtain ⟨p2, rfl⟩ : ∃ a_ : Nat, p2 = (a_ : Int) := ⟨p2.toNat, by omega⟩
    by_cases h2_ : dg (pl p1) < 0
    · exact ⟨_, _, _, _, _, _, _, _, _, fun d M H => cl_same H (y_part (d := d + 4) H p1 (by first | assumption | omega) p2 (by first | assumption | omega) (by first | assumption | omega)), fun d M H => ry_part (d := d + 4) H p1 (by first | assumption | omega) p2 (by first | assumption | omega) (by first | assumption | omega)⟩
    · by_cases h3_ : 4 < dg (pl p1)
      · exact ⟨_, _, _, _, _, _, _, _, _, fun d M H => cl_same H (z_part (d := d + 4) H p1 (by first | assumption | omega) p2 (by first | assumption | omega) (by first | assumption | omega)), fun d M H => rz_part (d := d + 4) H p1 (by first | assumption | omega) p2 (by first | assumption | omega) (by first | assumption | omega)⟩
      · have n0_ : dg (pl p1) = ((dg (pl p1)).toNat : Int) := by omega
        generalize hn0_ : (dg (pl p1)).toNat = n0 at n0_
        have ed_ : (dg (pl p1) / (mm k : Int)).toNat = n0 / mm k := by rw [n0_]; show (((n0 : Int) / (mm k : Int))).toNat = _; rw [← Int.natCast_ediv]; rfl
        refine ⟨_, _, _, _, _, _, _, _, _, fun d M H => ?_, fun d M H => ro_part (d := d + 4) H p1 (by first | assumption | omega) p2 (by first | assumption | omega) n0 (by first | assumption | omega) (by first | assumption | omega)⟩
        have w_ := o_part (d := d + 4) H p1 (by first | assumption | omega) p2 (by first | assumption | omega) (by first | assumption | omega) (by first | assumption | omega)
        rw [ed_] at w_
        exact w_
  · by_cases h2_ : (0 ≤ p2 ∧ p2 < 6)
    · exact ⟨_, _, _, _, _, _, _, _, _, fun d M H => cl_same H (n_part (d := d + 4) H p1 p2 (by first | assumption | omega) (by first | assumption | omega) (by first | assumption | omega) (by first | assumption | omega) (by first | assumption | omega)), fun d M H => rm_part (d := d + 4) H p1 p2 (by first | assumption | omega) (by first | assumption | omega) (by first | assumption | omega) (by first | assumption | omega) (by first | assumption | omega) (by first | assumption | omega)⟩
    · exact ⟨_, _, _, _, _, _, _, _, _, fun d M H => cl_same H (n_part (d := d + 4) H p1 p2 (by first | assumption | omega) (by first | assumption | omega) (by first | assumption | omega) (by first | assumption | omega) (by first | assumption | omega)), fun d M H => rn_part (d := d + 4) H p1 p2 (by first | assumption | omega) (by first | assumption | omega) (by first | assumption | omega) (by first | assumption | omega) (by first | assumption | omega)⟩
theorem b_primes {k : Nat} {pl : Nat → Pl k} {n : Int} {tx : Int → Int} {rc : Nat} {rw : Int → Int} {fc : Nat} {fa : Nat → Pl k} (hk_ : k < 4) (hb_ : ∀ i : Nat, i < 6 → Bd (pl i) 9) (p1 : Int) (u0_ : -2147483648 ≤ p1) (w0_ : p1 ≤ 2147483647) : BO pl n tx rc rw fc fa 183 300 [(0, p1)] := by
  have q1_ := qq_I k
  have p1_ := pp_I k
  have m1_ := mm_I k
  by_cases h1_ : p1 = 1
  · subst h1_
    exact ⟨_, _, _, _, _, _, _, _, _, fun d M H => o_primes1 (d := d + 4) H, fun d M H => ct_val (ro_primes (d := d + 4) H 1 (by decide) (by decide)) primes_1⟩
  · by_cases h2_ : p1 = 2
    · subst h2_
      exact ⟨_, _, _, _, _, _, _, _, _, fun d M H => o_primes2 (d := d + 4) H, fun d M H => ct_val (ro_primes (d := d + 4) H 2 (by decide) (by decide)) (primes_2 hk_)⟩
    · exact ⟨_, _, _, _, _, _, _, _, _, fun d M H => cl_same H (n_primes (d := d + 4) H p1 (by first | assumption | omega) (by first | assumption | omega) (by first | assumption | omega) (by first | assumption | omega)), fun d M H => rn_primes (d := d + 4) H p1 (by first | assumption | omega) (by first | assumption | omega) (by first | assumption | omega)⟩
theorem b_count {k : Nat} {pl : Nat → Pl k} {n : Int} {tx : Int → Int} {rc : Nat} {rw : Int → Int} {fc : Nat} {fa : Nat → Pl k} (hk_ : k < 4) (hb_ : ∀ i : Nat, i < 6 → Bd (pl i) 9) (p1 : Int) (u0_ : -2147483648 ≤ p1) (w0_ : p1 ≤ 2147483647) : BO pl n tx rc rw fc fa 184 301 [(0, p1)] := by
  have q1_ := qq_I k
  have p1_ := pp_I k
  have m1_ := mm_I k
  by_cases h1_ : p1 = 0
  · subst h1_
    exact ⟨_, _, _, _, _, _, _, _, _, fun d M H => o_count0 (d := d + 4) H, fun d M H => ro_count0 (d := d + 4) H⟩
  · by_cases h2_ : p1 = 1
    · subst h2_
      exact ⟨_, _, _, _, _, _, _, _, _, fun d M H => o_count1 (d := d + 4) H, fun d M H => ro_count1 (d := d + 4) H⟩
    · by_cases h3_ : p1 = 2
      · subst h3_
        exact ⟨_, _, _, _, _, _, _, _, _, fun d M H => o_count2 (d := d + 4) H, fun d M H => ro_count2 (d := d + 4) H⟩
      · by_cases h4_ : p1 = 3
        · subst h4_
          exact ⟨_, _, _, _, _, _, _, _, _, fun d M H => o_count3 (d := d + 4) H, fun d M H => ro_count3 (d := d + 4) H⟩
        · by_cases h5_ : p1 = 4
          · subst h5_
            exact ⟨_, _, _, _, _, _, _, _, _, fun d M H => o_count4 (d := d + 4) H, fun d M H => ro_count4 (d := d + 4) H⟩
          · by_cases h6_ : p1 = 5
            · subst h6_
              exact ⟨_, _, _, _, _, _, _, _, _, fun d M H => o_count5 (d := d + 4) H, fun d M H => ro_count5 (d := d + 4) H⟩
            · by_cases h7_ : p1 = 6
              · subst h7_
                exact ⟨_, _, _, _, _, _, _, _, _, fun d M H => o_count6 (d := d + 4) H, fun d M H => ro_count6 (d := d + 4) H⟩
              · by_cases h8_ : p1 = 7
                · subst h8_
                  exact ⟨_, _, _, _, _, _, _, _, _, fun d M H => o_count7 (d := d + 4) H, fun d M H => ro_count7 (d := d + 4) H⟩
                · exact ⟨_, _, _, _, _, _, _, _, _, fun d M H => cl_same H (n_count (d := d + 4) H p1 (by first | assumption | omega) (by first | assumption | omega) (by first | assumption | omega)), fun d M H => rn_count (d := d + 4) H p1 (by first | assumption | omega) (by first | assumption | omega) (by first | assumption | omega)⟩
theorem b_field {k : Nat} {pl : Nat → Pl k} {n : Int} {tx : Int → Int} {rc : Nat} {rw : Int → Int} {fc : Nat} {fa : Nat → Pl k} (hk_ : k < 4) (hb_ : ∀ i : Nat, i < 6 → Bd (pl i) 9) (p1 : Int) (u0_ : -2147483648 ≤ p1) (w0_ : p1 ≤ 2147483647) : BO pl n tx rc rw fc fa 123 200 [(0, p1)] := by
  have q1_ := qq_I k
  have p1_ := pp_I k
  have m1_ := mm_I k
  by_cases h1_ : 0 ≤ p1 ∧ p1 < 4
  · obtain ⟨p1, rfl⟩ : ∃ a_ : Nat, p1 = (a_ : Int) := ⟨p1.toNat, by omega⟩
    by_cases h2_ : p1 = (k : Int)
    · exact ⟨_, _, _, _, _, _, _, _, _, fun d M H => cl_same H (y_field (d := d + 4) H (p1 : Int) (by assumption) hk_), fun d M H => ry_field (d := d + 4) H (p1 : Int) (by assumption) hk_⟩
    · exact ⟨_, _, _, _, _, _, _, _, _, fun d M H => o_field (d := d + 4) H p1 (by omega) (by assumption), fun d M H => ro_field (d := d + 4) H p1 (by omega) (by assumption)⟩
  · exact ⟨_, _, _, _, _, _, _, _, _, fun d M H => cl_same H (n_field (d := d + 4) H p1 (by first | assumption | omega) (by first | assumption | omega) (by first | assumption | omega)), fun d M H => rn_field (d := d + 4) H p1 (by first | assumption | omega) (by first | assumption | omega) (by first | assumption | omega)⟩
