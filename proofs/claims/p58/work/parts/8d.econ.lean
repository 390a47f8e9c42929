/-! the contracts, over the state with the script -/
theorem LZ.bd {X : Int → Int} {M : Mem} {k : Nat} {pl : Nat → Pl k} {rc : Nat} {rw : Int → Int} (H : LZ X M k pl rc rw) (i : Nat) (hi : i < 6) : Bd (pl i) 9 := by
  obtain ⟨⟨tx, fc, fa, H⟩, _⟩ := H
  exact bd_of H i hi
theorem LZ.dI {X : Int → Int} {M : Mem} {k : Nat} {pl : Nat → Pl k} {rc : Nat} {rw : Int → Int} (H : LZ X M k pl rc rw) (i : Nat) (hi : i < 6) : -1 ≤ dg (pl i) ∧ dg (pl i) ≤ 8 := dg_lt9 (H.bd i hi)
theorem eo_quot {X : Int → Int} {M : Mem} {k : Nat} {pl : Nat → Pl k} {rc : Nat} {rw : Int → Int} (H : LZ X M k pl rc rw) (i : Nat) (hi : i < 6) (p_i : Pl k) (hp_i : pl i = p_i) (j : Nat) (hj : j < 6) (p_j : Pl k) (hp_j : pl j = p_j) (l : Nat) (hl : l < 6) (s : Int) (hs_ : s = 0 ∨ s = 1) (hj0 : 0 ≤ dg (p_j)) : Ct 198 23 145 [(1, 0), (0, (i : Int)), (0, (j : Int)), (0, s), (0, (l : Int))] M (fun r_ M' => r_ = (0, (dg (dq s (p_i) (p_j)))) ∧ LZ X M' k (fup pl l (dq s (p_i) (p_j))) rc rw) := by
  subst hp_i
  subst hp_j
  obtain ⟨⟨tx, fc, fa, H⟩, hX⟩ := H
  exact (o_quot (d := 15) H i hi j hj l hl s hs_ hj0).imp (fun r_ M' h => ⟨h.1, ⟨⟨_, _, _, h.2.1⟩, (h.2.2 (-2) (Or.inl (by decide))).trans hX⟩⟩)
theorem ez_quot {X : Int → Int} {M : Mem} {k : Nat} {pl : Nat → Pl k} {rc : Nat} {rw : Int → Int} (H : LZ X M k pl rc rw) (i : Nat) (hi : i < 6) (j : Nat) (hj : j < 6) (p_j : Pl k) (hp_j : pl j = p_j) (l : Nat) (hl : l < 6) (s : Int) (hs_ : s = 0 ∨ s = 1) (hj0 : dg (p_j) < 0) : Ct 198 23 145 [(1, 0), (0, (i : Int)), (0, (j : Int)), (0, s), (0, (l : Int))] M (fun r_ M' => r_ = (0, -3) ∧ LZ X M' k pl rc rw) := by
  subst hp_j
  obtain ⟨⟨tx, fc, fa, H⟩, hX⟩ := H
  exact (z_quot (d := 15) H i hi j hj l hl s hs_ hj0).imp (fun r_ M' h => ⟨h.1, by rw [h.2]; exact ⟨⟨_, _, _, H⟩, hX⟩⟩)
theorem eo_rem {X : Int → Int} {M : Mem} {k : Nat} {pl : Nat → Pl k} {rc : Nat} {rw : Int → Int} (H : LZ X M k pl rc rw) (i : Nat) (hi : i < 6) (p_i : Pl k) (hp_i : pl i = p_i) (j : Nat) (hj : j < 6) (p_j : Pl k) (hp_j : pl j = p_j) (l : Nat) (hl : l < 6) (s : Int) (hs_ : s = 0 ∨ s = 1) (hj0 : 0 ≤ dg (p_j)) : Ct 198 23 148 [(1, 0), (0, (i : Int)), (0, (j : Int)), (0, s), (0, (l : Int))] M (fun r_ M' => r_ = (0, (dg (dr s (p_i) (p_j)))) ∧ LZ X M' k (fup pl l (dr s (p_i) (p_j))) rc rw) := by
  subst hp_i
  subst hp_j
  obtain ⟨⟨tx, fc, fa, H⟩, hX⟩ := H
  exact (o_rem (d := 15) H i hi j hj l hl s hs_ hj0).imp (fun r_ M' h => ⟨h.1, ⟨⟨_, _, _, h.2.1⟩, (h.2.2 (-2) (Or.inl (by decide))).trans hX⟩⟩)
theorem ez_rem {X : Int → Int} {M : Mem} {k : Nat} {pl : Nat → Pl k} {rc : Nat} {rw : Int → Int} (H : LZ X M k pl rc rw) (i : Nat) (hi : i < 6) (j : Nat) (hj : j < 6) (p_j : Pl k) (hp_j : pl j = p_j) (l : Nat) (hl : l < 6) (s : Int) (hs_ : s = 0 ∨ s = 1) (hj0 : dg (p_j) < 0) : Ct 198 23 148 [(1, 0), (0, (i : Int)), (0, (j : Int)), (0, s), (0, (l : Int))] M (fun r_ M' => r_ = (0, -3) ∧ LZ X M' k pl rc rw) := by
  subst hp_j
  obtain ⟨⟨tx, fc, fa, H⟩, hX⟩ := H
  exact (z_rem (d := 15) H i hi j hj l hl s hs_ hj0).imp (fun r_ M' h => ⟨h.1, by rw [h.2]; exact ⟨⟨_, _, _, H⟩, hX⟩⟩)
theorem eo_mult {X : Int → Int} {M : Mem} {k : Nat} {pl : Nat → Pl k} {rc : Nat} {rw : Int → Int} (H : LZ X M k pl rc rw) (i : Nat) (hi : i < 6) (p_i : Pl k) (hp_i : pl i = p_i) (j : Nat) (hj : j < 6) (p_j : Pl k) (hp_j : pl j = p_j) (l : Nat) (hl : l < 6)  : Ct 198 23 143 [(1, 0), (0, (i : Int)), (0, (j : Int)), (0, (l : Int))] M (fun r_ M' => r_ = (0, (if 8 < dg (mlp (p_i) (p_j)) then -3 else dg (mlp (p_i) (p_j)))) ∧ LZ X M' k (if 8 < dg (mlp (p_i) (p_j)) then pl else fup pl l (mlp (p_i) (p_j))) rc rw) := by
  subst hp_i
  subst hp_j
  obtain ⟨⟨tx, fc, fa, H⟩, hX⟩ := H
  exact (o_mult (d := 15) H i hi j hj l hl).imp (fun r_ M' h => ⟨h.1, ⟨⟨_, _, _, h.2.1⟩, (h.2.2 (-2) (Or.inl (by decide))).trans hX⟩⟩)
theorem eo_adds {X : Int → Int} {M : Mem} {k : Nat} {pl : Nat → Pl k} {rc : Nat} {rw : Int → Int} (H : LZ X M k pl rc rw) (i : Nat) (hi : i < 6) (p_i : Pl k) (hp_i : pl i = p_i) (j : Nat) (hj : j < 6) (p_j : Pl k) (hp_j : pl j = p_j) (l : Nat) (hl : l < 6)  : Ct 198 23 140 [(1, 0), (0, (i : Int)), (0, (j : Int)), (0, (l : Int))] M (fun r_ M' => r_ = (0, (dg (adp (p_i) (p_j)))) ∧ LZ X M' k (fup pl l (adp (p_i) (p_j))) rc rw) := by
  subst hp_i
  subst hp_j
  obtain ⟨⟨tx, fc, fa, H⟩, hX⟩ := H
  exact (o_adds (d := 15) H i hi j hj l hl).imp (fun r_ M' h => ⟨h.1, ⟨⟨_, _, _, h.2.1⟩, (h.2.2 (-2) (Or.inl (by decide))).trans hX⟩⟩)
theorem eo_same {X : Int → Int} {M : Mem} {k : Nat} {pl : Nat → Pl k} {rc : Nat} {rw : Int → Int} (H : LZ X M k pl rc rw) (i : Nat) (hi : i < 6) (p_i : Pl k) (hp_i : pl i = p_i) (j : Nat) (hj : j < 6) (p_j : Pl k) (hp_j : pl j = p_j)  : Ct 198 23 156 [(1, 0), (0, (i : Int)), (0, (j : Int))] M (fun r_ M' => r_ = (0, (bz (p_i = p_j))) ∧ LZ X M' k pl 1 (upr rw 0 (bz (mlp (p_i) (p_j) = mlp (p_j) (p_i))))) := by
  subst hp_i
  subst hp_j
  obtain ⟨⟨tx, fc, fa, H⟩, hX⟩ := H
  exact (o_same (d := 15) H i hi j hj).imp (fun r_ M' h => ⟨h.1, ⟨⟨_, _, _, h.2.1⟩, (h.2.2 (-2) (Or.inl (by decide))).trans hX⟩⟩)
theorem eo_divisor {X : Int → Int} {M : Mem} {k : Nat} {pl : Nat → Pl k} {rc : Nat} {rw : Int → Int} (H : LZ X M k pl rc rw) (i : Nat) (hi : i < 6) (p_i : Pl k) (hp_i : pl i = p_i) (j : Nat) (hj : j < 6) (p_j : Pl k) (hp_j : pl j = p_j) (l : Nat) (hl : l < 6) (s : Int) (hs_ : s = 0 ∨ s = 1) (h0_ : 0 ≤ dg (p_i) ∨ 0 ≤ dg (p_j)) : Ct 198 23 149 [(1, 0), (0, (i : Int)), (0, (j : Int)), (0, s), (0, (l : Int))] M (fun r_ M' => r_ = (0, (dg (mon s (euL s (p_i) (p_j)).1))) ∧ LZ X M' k (fup pl l (mon s (euL s (p_i) (p_j)).1)) rc rw) := by
  subst hp_i
  subst hp_j
  obtain ⟨⟨tx, fc, fa, H⟩, hX⟩ := H
  exact (o_divisor (d := 15) H i hi j hj l hl s hs_ h0_).imp (fun r_ M' h => ⟨h.1, ⟨⟨_, _, _, h.2.1⟩, (h.2.2 (-2) (Or.inl (by decide))).trans hX⟩⟩)
theorem ez_divisor {X : Int → Int} {M : Mem} {k : Nat} {pl : Nat → Pl k} {rc : Nat} {rw : Int → Int} (H : LZ X M k pl rc rw) (i : Nat) (hi : i < 6) (p_i : Pl k) (hp_i : pl i = p_i) (j : Nat) (hj : j < 6) (p_j : Pl k) (hp_j : pl j = p_j) (l : Nat) (hl : l < 6) (s : Int) (hs_ : s = 0 ∨ s = 1) (h0_ : dg (p_i) < 0 ∧ dg (p_j) < 0) : Ct 198 23 149 [(1, 0), (0, (i : Int)), (0, (j : Int)), (0, s), (0, (l : Int))] M (fun r_ M' => r_ = (0, -2) ∧ LZ X M' k pl rc rw) := by
  subst hp_i
  subst hp_j
  obtain ⟨⟨tx, fc, fa, H⟩, hX⟩ := H
  exact (z_divisor (d := 15) H i hi j hj l hl s hs_ h0_).imp (fun r_ M' h => ⟨h.1, by rw [h.2]; exact ⟨⟨_, _, _, H⟩, hX⟩⟩)
theorem eo_multiple {X : Int → Int} {M : Mem} {k : Nat} {pl : Nat → Pl k} {rc : Nat} {rw : Int → Int} (H : LZ X M k pl rc rw) (i : Nat) (hi : i < 6) (p_i : Pl k) (hp_i : pl i = p_i) (j : Nat) (hj : j < 6) (p_j : Pl k) (hp_j : pl j = p_j) (l : Nat) (hl : l < 6) (s : Int) (hs_ : s = 0 ∨ s = 1) (hi0 : 0 ≤ dg (p_i)) (hj0 : 0 ≤ dg (p_j)) : Ct 198 23 150 [(1, 0), (0, (i : Int)), (0, (j : Int)), (0, s), (0, (l : Int))] M (fun r_ M' => r_ = (0, (if 8 < dg (mon s (prd s (euL s (p_i) (p_j)).2.2.2.1 (p_i))) then -3 else dg (mon s (prd s (euL s (p_i) (p_j)).2.2.2.1 (p_i))))) ∧ LZ X M' k (if 8 < dg (mon s (prd s (euL s (p_i) (p_j)).2.2.2.1 (p_i))) then pl else fup pl l (mon s (prd s (euL s (p_i) (p_j)).2.2.2.1 (p_i)))) rc rw) := by
  subst hp_i
  subst hp_j
  obtain ⟨⟨tx, fc, fa, H⟩, hX⟩ := H
  exact (o_multiple (d := 15) H i hi j hj l hl s hs_ hi0 hj0).imp (fun r_ M' h => ⟨h.1, ⟨⟨_, _, _, h.2.1⟩, (h.2.2 (-2) (Or.inl (by decide))).trans hX⟩⟩)
theorem ez_multiple {X : Int → Int} {M : Mem} {k : Nat} {pl : Nat → Pl k} {rc : Nat} {rw : Int → Int} (H : LZ X M k pl rc rw) (i : Nat) (hi : i < 6) (p_i : Pl k) (hp_i : pl i = p_i) (j : Nat) (hj : j < 6) (p_j : Pl k) (hp_j : pl j = p_j) (l : Nat) (hl : l < 6) (s : Int) (hs_ : s = 0 ∨ s = 1) (h0_ : dg (p_i) < 0 ∨ dg (p_j) < 0) : Ct 198 23 150 [(1, 0), (0, (i : Int)), (0, (j : Int)), (0, s), (0, (l : Int))] M (fun r_ M' => r_ = (0, -2) ∧ LZ X M' k pl rc rw) := by
  subst hp_i
  subst hp_j
  obtain ⟨⟨tx, fc, fa, H⟩, hX⟩ := H
  exact (z_multiple (d := 15) H i hi j hj l hl s hs_ h0_).imp (fun r_ M' h => ⟨h.1, by rw [h.2]; exact ⟨⟨_, _, _, H⟩, hX⟩⟩)
theorem eo_scales {X : Int → Int} {M : Mem} {k : Nat} {pl : Nat → Pl k} {rc : Nat} {rw : Int → Int} (H : LZ X M k pl rc rw) (i : Nat) (hi : i < 6) (p_i : Pl k) (hp_i : pl i = p_i) (l : Nat) (hl : l < 6) (x : El k) : Ct 198 23 142 [(1, 0), (0, (x.val : Int)), (0, (i : Int)), (0, (l : Int))] M (fun r_ M' => r_ = (0, (dg (scl x (p_i)))) ∧ LZ X M' k (fup pl l (scl x (p_i))) rc rw) := by
  subst hp_i
  obtain ⟨⟨tx, fc, fa, H⟩, hX⟩ := H
  exact (o_scales (d := 15) H i hi l hl x).imp (fun r_ M' h => ⟨h.1, ⟨⟨_, _, _, h.2.1⟩, (h.2.2 (-2) (Or.inl (by decide))).trans hX⟩⟩)
theorem eo_value {X : Int → Int} {M : Mem} {k : Nat} {pl : Nat → Pl k} {rc : Nat} {rw : Int → Int} (H : LZ X M k pl rc rw) (i : Nat) (hi : i < 6) (p_i : Pl k) (hp_i : pl i = p_i) (x : El k) : Ct 198 23 161 [(1, 0), (0, (i : Int)), (0, (x.val : Int))] M (fun r_ M' => r_ = (0, ((vl (p_i) x).val : Int)) ∧ LZ X M' k pl rc rw) := by
  subst hp_i
  obtain ⟨⟨tx, fc, fa, H⟩, hX⟩ := H
  exact (o_value (d := 15) H i hi x).imp (fun r_ M' h => ⟨h.1, ⟨⟨_, _, _, h.2.1⟩, (h.2.2 (-2) (Or.inl (by decide))).trans hX⟩⟩)
theorem eo_does {X : Int → Int} {M : Mem} {k : Nat} {pl : Nat → Pl k} {rc : Nat} {rw : Int → Int} (H : LZ X M k pl rc rw) (i : Nat) (hi : i < 6) (p_i : Pl k) (hp_i : pl i = p_i) (x : El k) : Ct 198 23 163 [(1, 0), (0, (i : Int)), (0, (x.val : Int))] M (fun r_ M' => r_ = (0, ((dn (p_i) x).val : Int)) ∧ LZ X M' k pl rc rw) := by
  subst hp_i
  obtain ⟨⟨tx, fc, fa, H⟩, hX⟩ := H
  exact (o_does (d := 15) H i hi x).imp (fun r_ M' h => ⟨h.1, ⟨⟨_, _, _, h.2.1⟩, (h.2.2 (-2) (Or.inl (by decide))).trans hX⟩⟩)
theorem eo_times {X : Int → Int} {M : Mem} {k : Nat} {pl : Nat → Pl k} {rc : Nat} {rw : Int → Int} (H : LZ X M k pl rc rw) (x y : El k) : Ct 198 23 126 [(1, 0), (0, (x.val : Int)), (0, (y.val : Int))] M (fun r_ M' => r_ = (0, ((ml x y).val : Int)) ∧ LZ X M' k pl rc rw) := by
  obtain ⟨⟨tx, fc, fa, H⟩, hX⟩ := H
  exact (o_times (d := 15) H x y).imp (fun r_ M' h => ⟨h.1, ⟨⟨_, _, _, h.2.1⟩, (h.2.2 (-2) (Or.inl (by decide))).trans hX⟩⟩)
theorem eo_plus {X : Int → Int} {M : Mem} {k : Nat} {pl : Nat → Pl k} {rc : Nat} {rw : Int → Int} (H : LZ X M k pl rc rw) (x y : El k) : Ct 198 23 125 [(1, 0), (0, (x.val : Int)), (0, (y.val : Int))] M (fun r_ M' => r_ = (0, ((ad x y).val : Int)) ∧ LZ X M' k pl rc rw) := by
  obtain ⟨⟨tx, fc, fa, H⟩, hX⟩ := H
  exact (o_plus (d := 15) H x y).imp (fun r_ M' h => ⟨h.1, ⟨⟨_, _, _, h.2.1⟩, (h.2.2 (-2) (Or.inl (by decide))).trans hX⟩⟩)
theorem ey_facs {X : Int → Int} {M : Mem} {k : Nat} {pl : Nat → Pl k} {rc : Nat} {rw : Int → Int} (H : LZ X M k pl rc rw) (i : Nat) (hi : i < 6) (p_i : Pl k) (hp_i : pl i = p_i) (hi0 : dg (p_i) < 0) : Ct 198 23 175 [(1, 0), (0, (i : Int))] M (fun r_ M' => r_ = (0, -2) ∧ LZ X M' k pl rc rw) := by
  subst hp_i
  obtain ⟨⟨tx, fc, fa, H⟩, hX⟩ := H
  exact (y_facs (d := 15) H i hi hi0).imp (fun r_ M' h => ⟨h.1, by rw [h.2]; exact ⟨⟨_, _, _, H⟩, hX⟩⟩)
theorem eo_facs {X : Int → Int} {M : Mem} {k : Nat} {pl : Nat → Pl k} {rc : Nat} {rw : Int → Int} (H : LZ X M k pl rc rw) (i : Nat) (hi : i < 6) (p_i : Pl k) (hp_i : pl i = p_i) (hi0 : 0 ≤ dg (p_i)) (hi4 : dg (p_i) ≤ 4) : Ct 198 23 175 [(1, 0), (0, (i : Int))] M (fun r_ M' => r_ = (0, (spC (p_i) : Int)) ∧ LZ X M' k pl (spC (p_i) + 1) (stw (facG (p_i) (spC (p_i))) rw (spC (p_i) + 1))) := by
  subst hp_i
  obtain ⟨⟨tx, fc, fa, H⟩, hX⟩ := H
  exact (o_facs (d := 15) H i hi hi0 hi4).imp (fun r_ M' h => ⟨h.1, ⟨⟨_, _, _, h.2.1⟩, (h.2.2 (-2) (Or.inl (by decide))).trans hX⟩⟩)
theorem eo_prime {X : Int → Int} {M : Mem} {k : Nat} {pl : Nat → Pl k} {rc : Nat} {rw : Int → Int} (H : LZ X M k pl rc rw) (i : Nat) (hi : i < 6) (p_i : Pl k) (hp_i : pl i = p_i) (hi0 : 0 ≤ dg (p_i)) (hi4 : dg (p_i) ≤ 4) : Ct 198 23 174 [(1, 0), (0, (i : Int))] M (fun r_ M' => r_ = (0, (bz (prC (p_i)))) ∧ LZ X M' k pl rc rw) := by
  subst hp_i
  obtain ⟨⟨tx, fc, fa, H⟩, hX⟩ := H
  exact (o_prime (d := 15) H i hi hi0 hi4).imp (fun r_ M' h => ⟨h.1, ⟨⟨_, _, _, h.2.1⟩, (h.2.2 (-2) (Or.inl (by decide))).trans hX⟩⟩)
theorem eo_ways {X : Int → Int} {M : Mem} {k : Nat} {pl : Nat → Pl k} {rc : Nat} {rw : Int → Int} (H : LZ X M k pl rc rw) (i : Nat) (hi : i < 6) (p_i : Pl k) (hp_i : pl i = p_i) (hi0 : 0 ≤ dg (p_i)) (hi4 : dg (p_i) ≤ 4) : Ct 198 23 176 [(1, 0), (0, (i : Int))] M (fun r_ M' => r_ = (0, (wyC 4 (p_i))) ∧ LZ X M' k pl rc rw) := by
  subst hp_i
  obtain ⟨⟨tx, fc, fa, H⟩, hX⟩ := H
  exact (o_ways (d := 11) H i hi hi0 hi4).imp (fun r_ M' h => ⟨h.1, ⟨⟨_, _, _, h.2.1⟩, (h.2.2 (-2) (Or.inl (by decide))).trans hX⟩⟩)
theorem eo_row {X : Int → Int} {M : Mem} {k : Nat} {pl : Nat → Pl k} {rc : Nat} {rw : Int → Int} (H : LZ X M k pl rc rw) (j : Nat) (hj : j < rc) : Ct 198 23 187 [(1, 0), (0, (j : Int))] M (fun r_ M' => r_ = (2, rw (j : Int)) ∧ LZ X M' k pl rc rw) := by
  obtain ⟨⟨tx, fc, fa, H⟩, hX⟩ := H
  exact (o_row (d := 15) H j hj).imp (fun r_ M' h => ⟨h.1, by rw [h.2]; exact ⟨⟨_, _, _, H⟩, hX⟩⟩)
theorem eo_form0 {X : Int → Int} {M : Mem} {k : Nat} {pl : Nat → Pl k} {rc : Nat} {rw : Int → Int} (H : LZ X M k pl rc rw) (i : Nat) (hi : i < 6) (p_i : Pl k) (hp_i : pl i = p_i)  : Ct 198 23 155 [(1, 0), (0, (i : Int)), (0, 0)] M (fun r_ M' => r_ = (0, ((ld (p_i)).val : Int)) ∧ LZ X M' k pl rc rw) := by
  subst hp_i
  obtain ⟨⟨tx, fc, fa, H⟩, hX⟩ := H
  exact (o_form0 (d := 15) H i hi).imp (fun r_ M' h => ⟨h.1, ⟨⟨_, _, _, h.2.1⟩, (h.2.2 (-2) (Or.inl (by decide))).trans hX⟩⟩)
theorem ey_bound {X : Int → Int} {M : Mem} {k : Nat} {pl : Nat → Pl k} {rc : Nat} {rw : Int → Int} (H : LZ X M k pl rc rw) (i : Nat) (hi : i < 6) (p_i : Pl k) (hp_i : pl i = p_i) (hi0 : dg (p_i) < 0) : Ct 198 23 181 [(1, 0), (0, (i : Int))] M (fun r_ M' => r_ = (0, -2) ∧ LZ X M' k pl rc rw) := by
  subst hp_i
  obtain ⟨⟨tx, fc, fa, H⟩, hX⟩ := H
  exact (y_bound (d := 15) H i hi hi0).imp (fun r_ M' h => ⟨h.1, by rw [h.2]; exact ⟨⟨_, _, _, H⟩, hX⟩⟩)
theorem eo_part {X : Int → Int} {M : Mem} {k : Nat} {pl : Nat → Pl k} {rc : Nat} {rw : Int → Int} (H : LZ X M k pl rc rw) (i : Nat) (hi : i < 6) (p_i : Pl k) (hp_i : pl i = p_i) (j : Nat) (hj : j < 6) (hi0 : 0 ≤ dg (p_i)) (hi4 : dg (p_i) ≤ 4) : Ct 198 23 182 [(1, 0), (0, (i : Int)), (0, (j : Int))] M (fun r_ M' => r_ = (0, (dg (gpD (p_i) (dg (p_i) / (mm k : Int)).toNat))) ∧ LZ X M' k (fup pl j (gpD (p_i) (dg (p_i) / (mm k : Int)).toNat)) rc rw) := by
  subst hp_i
  obtain ⟨⟨tx, fc, fa, H⟩, hX⟩ := H
  exact (o_part (d := 15) H i hi j hj hi0 hi4).imp (fun r_ M' h => ⟨h.1, ⟨⟨_, _, _, h.2.1⟩, (h.2.2 (-2) (Or.inl (by decide))).trans hX⟩⟩)
theorem ey_part {X : Int → Int} {M : Mem} {k : Nat} {pl : Nat → Pl k} {rc : Nat} {rw : Int → Int} (H : LZ X M k pl rc rw) (i : Nat) (hi : i < 6) (p_i : Pl k) (hp_i : pl i = p_i) (j : Nat) (hj : j < 6) (hi0 : dg (p_i) < 0) : Ct 198 23 182 [(1, 0), (0, (i : Int)), (0, (j : Int))] M (fun r_ M' => r_ = (0, -2) ∧ LZ X M' k pl rc rw) := by
  subst hp_i
  obtain ⟨⟨tx, fc, fa, H⟩, hX⟩ := H
  exact (y_part (d := 15) H i hi j hj hi0).imp (fun r_ M' h => ⟨h.1, by rw [h.2]; exact ⟨⟨_, _, _, H⟩, hX⟩⟩)
theorem eo_central {X : Int → Int} {M : Mem} {k : Nat} {pl : Nat → Pl k} {rc : Nat} {rw : Int → Int} (H : LZ X M k pl rc rw) (i : Nat) (hi : i < 6) (p_i : Pl k) (hp_i : pl i = p_i)  : Ct 198 23 180 [(1, 0), (0, (i : Int))] M (fun r_ M' => r_ = (0, (bz (IsCn (p_i)))) ∧ LZ X M' k pl rc rw) := by
  subst hp_i
  obtain ⟨⟨tx, fc, fa, H⟩, hX⟩ := H
  exact (o_central (d := 15) H i hi).imp (fun r_ M' h => ⟨h.1, ⟨⟨_, _, _, h.2.1⟩, (h.2.2 (-2) (Or.inl (by decide))).trans hX⟩⟩)
theorem ex_like {X : Int → Int} {M : Mem} {k : Nat} {pl : Nat → Pl k} {rc : Nat} {rw : Int → Int} (H : LZ X M k pl rc rw) (i : Nat) (hi : i < 6) (p_i : Pl k) (hp_i : pl i = p_i) (j : Nat) (hj : j < 6) (p_j : Pl k) (hp_j : pl j = p_j) (hi0 : 0 ≤ dg (p_i)) (hj0 : 0 ≤ dg (p_j)) (hi4 : dg (p_i) ≤ 4) (hj4 : dg (p_j) ≤ 4) (h4_ : dg (p_i) ≠ dg (p_j) ∨ dg (p_i) = 0) : Ct 198 23 178 [(1, 0), (0, (i : Int)), (0, (j : Int))] M (fun r_ M' => r_ = (0, -4) ∧ LZ X M' k pl rc rw) := by
  subst hp_i
  subst hp_j
  obtain ⟨⟨tx, fc, fa, H⟩, hX⟩ := H
  exact (x_like (d := 15) H i hi j hj hi0 hj0 hi4 hj4 h4_).imp (fun r_ M' h => ⟨h.1, by rw [h.2]; exact ⟨⟨_, _, _, H⟩, hX⟩⟩)
theorem ey_like {X : Int → Int} {M : Mem} {k : Nat} {pl : Nat → Pl k} {rc : Nat} {rw : Int → Int} (H : LZ X M k pl rc rw) (i : Nat) (hi : i < 6) (p_i : Pl k) (hp_i : pl i = p_i) (j : Nat) (hj : j < 6) (p_j : Pl k) (hp_j : pl j = p_j) (hi0 : dg (p_i) < 0 ∨ dg (p_j) < 0) : Ct 198 23 178 [(1, 0), (0, (i : Int)), (0, (j : Int))] M (fun r_ M' => r_ = (0, -2) ∧ LZ X M' k pl rc rw) := by
  subst hp_i
  subst hp_j
  obtain ⟨⟨tx, fc, fa, H⟩, hX⟩ := H
  exact (y_like (d := 15) H i hi j hj hi0).imp (fun r_ M' h => ⟨h.1, by rw [h.2]; exact ⟨⟨_, _, _, H⟩, hX⟩⟩)
theorem eo_likes1 {X : Int → Int} {M : Mem} {k : Nat} {pl : Nat → Pl k} {rc : Nat} {rw : Int → Int} (H : LZ X M k pl rc rw) (i : Nat) (hi : i < 6) (p_i : Pl k) (hp_i : pl i = p_i) (hi0 : dg (p_i) = 1) : Ct 198 23 177 [(1, 0), (0, (i : Int))] M (fun r_ M' => r_ = (0, (sI (fun j => bz (MKd (p_i) 1 (qq k) (j : Int))) 256)) ∧ LZ X M' k pl rc rw) := by
  subst hp_i
  obtain ⟨⟨tx, fc, fa, H⟩, hX⟩ := H
  exact (o_likes1 (d := 15) H i hi hi0).imp (fun r_ M' h => ⟨h.1, ⟨⟨_, _, _, h.2.1⟩, (h.2.2 (-2) (Or.inl (by decide))).trans hX⟩⟩)
theorem eo_van {X : Int → Int} {M : Mem} {k : Nat} {pl : Nat → Pl k} {rc : Nat} {rw : Int → Int} (H : LZ X M k pl rc rw) (j : Nat) (hj : j < 6) (x : Int) (x0 : 0 ≤ x) (x1 : x < 2 ^ qq k) : Ct 198 23 171 [(1, 0), (0, x), (0, (j : Int))] M (fun r_ M' => r_ = (0, (dg (basF (k := k) x (qq k)))) ∧ LZ X M' k (fup pl j (basF (k := k) x (qq k))) 1 (upr rw 0 (rts (basF (k := k) x (qq k)) (qq k)))) := by
  obtain ⟨⟨tx, fc, fa, H⟩, hX⟩ := H
  exact (o_van (d := 15) H j hj x x0 x1).imp (fun r_ M' h => ⟨h.1, ⟨⟨_, _, _, h.2.1⟩, (h.2.2 (-2) (Or.inl (by decide))).trans hX⟩⟩)
theorem eo_roots {X : Int → Int} {M : Mem} {k : Nat} {pl : Nat → Pl k} {rc : Nat} {rw : Int → Int} (H : LZ X M k pl rc rw) (i : Nat) (hi : i < 6) (p_i : Pl k) (hp_i : pl i = p_i)  : Ct 198 23 162 [(1, 0), (0, (i : Int))] M (fun r_ M' => r_ = (0, (rts (p_i) (qq k))) ∧ LZ X M' k pl 1 (upr rw 0 (bcw (rts (p_i) (qq k))))) := by
  subst hp_i
  obtain ⟨⟨tx, fc, fa, H⟩, hX⟩ := H
  exact (o_roots (d := 15) H i hi).imp (fun r_ M' h => ⟨h.1, ⟨⟨_, _, _, h.2.1⟩, (h.2.2 (-2) (Or.inl (by decide))).trans hX⟩⟩)
theorem eo_kernel {X : Int → Int} {M : Mem} {k : Nat} {pl : Nat → Pl k} {rc : Nat} {rw : Int → Int} (H : LZ X M k pl rc rw) (i : Nat) (hi : i < 6) (p_i : Pl k) (hp_i : pl i = p_i)  : Ct 198 23 164 [(1, 0), (0, (i : Int))] M (fun r_ M' => r_ = (0, (dnT (p_i) z0 (qq k))) ∧ LZ X M' k pl 2 (upr (upr rw 0 (bcw (dnT (p_i) z0 (qq k)))) 1 (bcw (img (p_i) (qq k))))) := by
  subst hp_i
  obtain ⟨⟨tx, fc, fa, H⟩, hX⟩ := H
  exact (o_kernel (d := 15) H i hi).imp (fun r_ M' h => ⟨h.1, ⟨⟨_, _, _, h.2.1⟩, (h.2.2 (-2) (Or.inl (by decide))).trans hX⟩⟩)
theorem eo_divs1 {X : Int → Int} {M : Mem} {k : Nat} {pl : Nat → Pl k} {rc : Nat} {rw : Int → Int} (H : LZ X M k pl rc rw) (i : Nat) (hi : i < 6) (p_i : Pl k) (hp_i : pl i = p_i) (e : Nat) (e1_ : 1 ≤ e) (e3_ : e ≤ 3) (hi0 : 0 ≤ dg (p_i)) (hi4 : dg (p_i) ≤ 4) (sv_ : 0 < svN (p_i) e (trN k (dg (p_i)) e)) : Ct 198 23 172 [(1, 0), (0, (i : Int)), (0, (e : Int))] M (fun r_ M' => r_ = (0, (svN (p_i) e (trN k (dg (p_i)) e))) ∧ LZ X M' k pl (e + 1) (stw (fun m_ : Nat => ((svB (p_i) e (trN k (dg (p_i)) e) m_).val : Int)) rw (e + 1))) := by
  subst hp_i
  obtain ⟨⟨tx, fc, fa, H⟩, hX⟩ := H
  exact (o_divs1 (d := 15) H i hi e e1_ e3_ hi0 hi4 sv_).imp (fun r_ M' h => ⟨h.1, ⟨⟨_, _, _, h.2.1⟩, (h.2.2 (-2) (Or.inl (by decide))).trans hX⟩⟩)
theorem eo_divs0 {X : Int → Int} {M : Mem} {k : Nat} {pl : Nat → Pl k} {rc : Nat} {rw : Int → Int} (H : LZ X M k pl rc rw) (i : Nat) (hi : i < 6) (p_i : Pl k) (hp_i : pl i = p_i) (e : Nat) (e1_ : 1 ≤ e) (e3_ : e ≤ 3) (hi0 : 0 ≤ dg (p_i)) (hi4 : dg (p_i) ≤ 4) (sv_ : svN (p_i) e (trN k (dg (p_i)) e) = 0) : Ct 198 23 172 [(1, 0), (0, (i : Int)), (0, (e : Int))] M (fun r_ M' => r_ = (0, 0) ∧ LZ X M' k pl 0 rw) := by
  subst hp_i
  obtain ⟨⟨tx, fc, fa, H⟩, hX⟩ := H
  exact (o_divs0 (d := 15) H i hi e e1_ e3_ hi0 hi4 sv_).imp (fun r_ M' h => ⟨h.1, ⟨⟨_, _, _, h.2.1⟩, (h.2.2 (-2) (Or.inl (by decide))).trans hX⟩⟩)
theorem ey_divs {X : Int → Int} {M : Mem} {k : Nat} {pl : Nat → Pl k} {rc : Nat} {rw : Int → Int} (H : LZ X M k pl rc rw) (i : Nat) (hi : i < 6) (p_i : Pl k) (hp_i : pl i = p_i) (e : Nat) (e1_ : 1 ≤ e) (e3_ : e ≤ 3) (hi0 : dg (p_i) < 0) : Ct 198 23 172 [(1, 0), (0, (i : Int)), (0, (e : Int))] M (fun r_ M' => r_ = (0, -2) ∧ LZ X M' k pl rc rw) := by
  subst hp_i
  obtain ⟨⟨tx, fc, fa, H⟩, hX⟩ := H
  exact (y_divs (d := 15) H i hi e e1_ e3_ hi0).imp (fun r_ M' h => ⟨h.1, by rw [h.2]; exact ⟨⟨_, _, _, H⟩, hX⟩⟩)
theorem eo_degree {X : Int → Int} {M : Mem} {k : Nat} {pl : Nat → Pl k} {rc : Nat} {rw : Int → Int} (H : LZ X M k pl rc rw) (i : Nat) (hi : i < 6) (p_i : Pl k) (hp_i : pl i = p_i)  : Ct 198 23 138 [(1, 0), (0, (i : Int))] M (fun r_ M' => r_ = (0, (dg (p_i))) ∧ LZ X M' k pl rc rw) := by
  subst hp_i
  obtain ⟨⟨tx, fc, fa, H⟩, hX⟩ := H
  exact (o_degree (d := 15) H i hi).imp (fun r_ M' h => ⟨h.1, ⟨⟨_, _, _, h.2.1⟩, (h.2.2 (-2) (Or.inl (by decide))).trans hX⟩⟩)
theorem eo_count1 {X : Int → Int} {M : Mem} {k : Nat} {pl : Nat → Pl k} {rc : Nat} {rw : Int → Int} (H : LZ X M k pl rc rw)  : Ct 198 23 184 [(1, 0), (0, 1)] M (fun r_ M' => r_ = (0, (qq k : Int)) ∧ LZ X M' k pl rc rw) := by
  obtain ⟨⟨tx, fc, fa, H⟩, hX⟩ := H
  exact (o_count1 (d := 15) H).imp (fun r_ M' h => ⟨h.1, ⟨⟨_, _, _, h.2.1⟩, (h.2.2 (-2) (Or.inl (by decide))).trans hX⟩⟩)
theorem eo_count4 {X : Int → Int} {M : Mem} {k : Nat} {pl : Nat → Pl k} {rc : Nat} {rw : Int → Int} (H : LZ X M k pl rc rw)  : Ct 198 23 184 [(1, 0), (0, 4)] M (fun r_ M' => r_ = (0, (ubs pl 6)) ∧ LZ X M' k pl rc rw) := by
  obtain ⟨⟨tx, fc, fa, H⟩, hX⟩ := H
  exact (o_count4 (d := 15) H).imp (fun r_ M' h => ⟨h.1, ⟨⟨_, _, _, h.2.1⟩, (h.2.2 (-2) (Or.inl (by decide))).trans hX⟩⟩)
theorem em_mult {X : Int → Int} {M : Mem} {k : Nat} {pl : Nat → Pl k} {rc : Nat} {rw : Int → Int} (H : LZ X M k pl rc rw) (i : Nat) (hi : i < 6) (p_i : Pl k) (hp_i : pl i = p_i) (j : Nat) (hj : j < 6) (p_j : Pl k) (hp_j : pl j = p_j) (l : Nat) (hl : l < 6) (h8 : dg (mlp p_i p_j) ≤ 8) : Ct 198 23 143 [(1, 0), (0, (i : Int)), (0, (j : Int)), (0, (l : Int))] M (fun r_ M' => r_ = (0, dg (mlp p_i p_j)) ∧ LZ X M' k (fup pl l (mlp p_i p_j)) rc rw) :=
  (eo_mult H i hi p_i hp_i j hj p_j hp_j l hl).imp (fun r_ M' h => by
    rw [if_neg (show ¬ 8 < dg (mlp p_i p_j) by omega), if_neg (show ¬ 8 < dg (mlp p_i p_j) by omega)] at h
    exact h)
theorem em_multiple {X : Int → Int} {M : Mem} {k : Nat} {pl : Nat → Pl k} {rc : Nat} {rw : Int → Int} (H : LZ X M k pl rc rw) (i : Nat) (hi : i < 6) (p_i : Pl k) (hp_i : pl i = p_i) (j : Nat) (hj : j < 6) (p_j : Pl k) (hp_j : pl j = p_j) (l : Nat) (hl : l < 6) (s : Int) (hs_ : s = 0 ∨ s = 1) (hi0 : 0 ≤ dg p_i) (hj0 : 0 ≤ dg p_j) (h8 : dg (mon s (prd s (euL s p_i p_j).2.2.2.1 p_i)) ≤ 8) : Ct 198 23 150 [(1, 0), (0, (i : Int)), (0, (j : Int)), (0, s), (0, (l : Int))] M (fun r_ M' => r_ = (0, dg (mon s (prd s (euL s p_i p_j).2.2.2.1 p_i))) ∧ LZ X M' k (fup pl l (mon s (prd s (euL s p_i p_j).2.2.2.1 p_i))) rc rw) :=
  (eo_multiple H i hi p_i hp_i j hj p_j hp_j l hl s hs_ hi0 hj0).imp (fun r_ M' h => by
    rw [if_neg (show ¬ 8 < dg (mon s (prd s (euL s p_i p_j).2.2.2.1 p_i)) by omega), if_neg (show ¬ 8 < dg (mon s (prd s (euL s p_i p_j).2.2.2.1 p_i)) by omega)] at h
    exact h)
set_option maxRecDepth 100000 in
theorem c_min {d : Nat} {M : Mem} (x y : Int) (x1 : -2147483648 ≤ x) (x2 : x ≤ 2147483647) (y1 : -2147483648 ≤ y) (y2 : y ≤ 2147483647) : Ct 198 d 190 [(0, x), (0, y)] M (fun r M' => r = (0, min x y) ∧ M' = M) := by
  have hK : cd 190 = k190 := rfl
  show Wp 198 _ 190 0 [(0, x), (0, y)] [] M _
  refine w_il hK rfl rfl ?_
  refine w_il hK rfl rfl ?_
  refine w_gt2 hK rfl (by omega) (by omega) (by omega) (by omega) (fun h => ?_) (fun h => ?_)
  · refine w_il hK rfl rfl ?_
    refine w_iret hK rfl rfl ?_
    exact ⟨congrArg (Prod.mk 0) (by omega), rfl⟩
  · refine w_il hK rfl rfl ?_
    refine w_goto hK rfl ?_
    refine w_iret hK rfl rfl ?_
    exact ⟨congrArg (Prod.mk 0) (by omega), rfl⟩
set_option maxRecDepth 100000 in
theorem c_cell {d : Nat} {M : Mem} {X : Int → Int} (hM : M (-2) = X) (hX : ∀ j : Int, -2147483648 ≤ X j ∧ X j ≤ 2147483647) (j : Int) (j0 : 0 ≤ j) (j1 : j ≤ 2147483647) : Ct 198 d 188 [(1, -2), (0, j)] M (fun r M' => r = (0, if j < X (-1) then X j else 0) ∧ M' = M) := by
  have hK : cd 188 = k188 := rfl
  have l1_ := hX (-1)
  show Wp 198 _ 188 0 [(1, -2), (0, j)] [] M _
  refine w_il hK rfl rfl ?_
  refine w_al hK rfl rfl ?_
  refine w_stp (op := 42) (i' := 3) (L' := [(1, -2), (0, j)]) (st' := [(0, M (-2) (-1)), (0, j)]) (M' := M) hK rfl ⟨rfl, by decide, by decide⟩ (fun S g _ => by simp [stp, oAlen]) ?_
  rw [show M (-2) (-1) = X (-1) from congrFun hM (-1)]
  refine w_ge2 hK rfl (by omega) (by omega) (by omega) (by omega) (fun h => ?_) (fun h => ?_)
  · refine w_ic hK rfl ?_
    refine w_iret hK rfl rfl ?_
    exact ⟨by rw [if_neg (by omega)], rfl⟩
  · refine w_al hK rfl rfl ?_
    refine w_il hK rfl rfl ?_
    refine w_stp (op := 43) (i' := 7) (L' := [(1, -2), (0, j)]) (st' := [(0, M (-2) j)]) (M' := M) hK rfl ⟨rfl, by decide, by decide⟩ (fun S g _ => by
      have h1 : j < M (-2) (-1) := by rw [show M (-2) (-1) = X (-1) from congrFun hM (-1)]; exact h
      simp [stp, oAld, j0, h1]) ?_
    refine w_goto hK rfl ?_
    refine w_iret hK rfl rfl ?_
    exact ⟨by rw [if_pos h, congrFun hM j], rfl⟩
