/-! the state of both sides -/
theorem CLS.congr {M N : Mem} {k : Nat} {pl : Nat → Pl k} {n : Int} {tx : Int → Int} {rc : Nat} {rw : Int → Int} {fc : Nat} {fa : Nat → Pl k} (H : CLS M k pl n tx rc rw fc fa) (h : ∀ a : Int, 0 ≤ a → a ≤ 160 → N a = M a) : CLS N k pl n tx rc rw fc fa := by
  obtain ⟨P, u, l, z, C, E, hp, T, R, F⟩ := H
  refine ⟨P, u, l, z, C.congr (fun a ha => h a ?_ ?_), E.keep (h 18 (by decide) (by decide)), hp, T.keep (h 140 (by decide) (by decide)) (h 141 (by decide) (by decide)), R.keep (h 0 (by decide) (by decide)) (h 144 (by decide) (by decide)), F.keep (h 52 (by decide) (by decide)) (fun i _ => rfl)⟩
  · rcases ha with q | ⟨p, hp, q⟩
    · omega
    · have := hp.1; omega
  · rcases ha with q | ⟨p, hp, q⟩
    · omega
    · have := hp.1; omega
theorem RFS.congr {M N : Mem} {k : Nat} {pl : Nat → Pl k} {n : Int} {tx : Int → Int} {rc : Nat} {rw : Int → Int} {fc : Nat} {fa : Nat → Pl k} (H : RFS M k pl n tx rc rw fc fa) (h : ∀ a : Int, 161 ≤ a → a ≤ 197 → N a = M a) : RFS N k pl n tx rc rw fc fa := by
  obtain ⟨R, C, hp, T, hR, F⟩ := H
  have h161 := h 161 (by decide) (by decide)
  refine ⟨R, C.congr (fun a ha => h a ?_ ?_), hp.keep (h 167 (by decide) (by decide)), T.keep (congrFun h161 11) (h 168 (by decide) (by decide)), hR.keep (congrFun h161 13) (h 169 (by decide) (by decide)), F.keep (congrFun h161 15) (h 189 (by decide) (by decide)) (h 190 (by decide) (by decide))⟩
  · rcases ha with q | q
    · omega
    · have := q.1; omega
  · rcases ha with q | q
    · omega
    · have := q.1; omega
/-- both sides, in the same state -/
def STT (M : Mem) : Prop := ∃ (k : Nat) (pl : Nat → Pl k) (n : Int) (tx : Int → Int) (rc : Nat) (rw : Int → Int) (fc : Nat) (fa : Nat → Pl k), CLS M k pl n tx rc rw fc fa ∧ RFS M k pl n tx rc rw fc fa
theorem STT.congr {M N : Mem} (H : STT M) (h : ∀ a : Int, 0 ≤ a → a ≤ 197 → N a = M a) : STT N := by
  obtain ⟨k, pl, n, tx, rc, rw_, fc, fa, h1, h2⟩ := H
  exact ⟨k, pl, n, tx, rc, rw_, fc, fa, h1.congr (fun a _ _ => h a (by omega) (by omega)), h2.congr (fun a _ _ => h a (by omega) (by omega))⟩
/-- the two calls, one behind the other: the same answer, and the same state -/
theorem BO.two {k : Nat} {pl : Nat → Pl k} {n : Int} {tx : Int → Int} {rc : Nat} {rw : Int → Int} {fc : Nat} {fa : Nat → Pl k} {t1 t2 : Nat} {as : List AV} (B : BO pl n tx rc rw fc fa t1 t2 as) {d : Nat} {M : Mem} (h1 : CLS M k pl n tx rc rw fc fa) (h2 : RFS M k pl n tx rc rw fc fa) : ∃ v : Int, Ct 198 (d + 12) t1 ((1, 0) :: as) M (fun r_ M' => r_ = (0, v) ∧ (∀ a : Int, (a < 0 ∨ 197 < a) → M' a = M a) ∧ Ct 198 (d + 12) t2 ((1, 161) :: as) M' (fun r2_ M'' => r2_ = (0, v) ∧ STT M'' ∧ (∀ a : Int, (a < 0 ∨ 197 < a) → M'' a = M a))) := by
  obtain ⟨v, k', pl', n', tx', rc', rw', fc', fa', hc, hr⟩ := B
  refine ⟨v, (hc d M h1).imp (fun r M' e => ⟨e.1, fun a ha => e.2.2 a (by omega), ?_⟩)⟩
  have h2' : RFS M' k pl n tx rc rw fc fa := h2.congr (fun a q1 q2 => e.2.2 a (by omega))
  refine (hr d M' h2').imp (fun r2 M'' e2 => ⟨e2.1, ⟨k', pl', n', tx', rc', rw', fc', fa', e.2.1.congr (fun a q1 q2 => e2.2.2 a (by omega)), e2.2.1⟩, fun a ha => (e2.2.2 a (by omega)).trans (e.2.2 a (by omega))⟩)
theorem STT.facts {k : Nat} {M : Mem} {pl : Nat → Pl k} {n : Int} {tx : Int → Int} {rc : Nat} {rw : Int → Int} {fc : Nat} {fa : Nat → Pl k} (h : RFS M k pl n tx rc rw fc fa) : k < 4 ∧ (∀ i : Nat, i < 6 → Bd (pl i) 9) ∧ (0 ≤ n ∧ n ≤ 40) ∧ rc ≤ 32 ∧ fc ≤ 4 := by
  obtain ⟨R, C, hp, T, hR, F⟩ := h
  exact ⟨C.F.1, fun i hi => (hp i hi).2, T.1.2, hR.2.1, F.2.1⟩
