/-! the constructors -/
set_option maxRecDepth 100000 in
theorem in_poly (M : Mem) (S : List Cel) (h : S = [(0, 6, [-1, -1])]) : ∃ h' : Hp, run 50 8 21 (0, entL 21 [(1, 0)], [], (S, M, true, 0, 0)) = some ((4, 0), h') ∧ h'.1 = [(0, 6, [1, -1]), (1, 17, [])] ∧ h'.2.2 = (true, 1, 17) := by
  subst h
  exact ⟨_, rfl, rfl, rfl⟩
set_option maxRecDepth 100000 in
theorem in_field (M : Mem) : ∃ h' : Hp, run 60 8 0 (0, entL 0 [(1, 1)], [], ([(0, 11, List.replicate 14 (-1)), (0, 3, List.replicate 9 (-1))], M, true, 0, 0)) = some ((4, 0), h') ∧ h'.1 = [(0, 11, List.replicate 14 (-1)), (0, 3, [-1, -1, -1, -1, 2, 3, 4, 5, 6]), (1, 256, []), (1, 256, []), (1, 64, []), (1, 16, []), (1, 16, [])] ∧ h'.2.2 = (true, 5, 608) := ⟨_, rfl, rfl, rfl⟩
