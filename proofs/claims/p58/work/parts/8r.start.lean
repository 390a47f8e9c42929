/-! the law: its start -/
def eqCf (a b : SCf) : Bool := decide (a.1 = b.1) && decide (a.2.1 = b.2.1) && decide (a.2.2.1 = b.2.2.1) && decide (a.2.2.2.1 = b.2.2.2.1) && decide (a.2.2.2.2.1 = b.2.2.2.2.1) && decide (a.2.2.2.2.2 = b.2.2.2.2.2)
theorem eqCf_ok {a b : SCf} (h : eqCf a b = true) : a = b := by
  simp only [eqCf, Bool.and_eq_true, decide_eq_true_eq] at h
  obtain ⟨⟨⟨⟨⟨h1, h2⟩, h3⟩, h4⟩, h5⟩, h6⟩ := h
  obtain ⟨a1, a2, a3, a4, a5, a6⟩ := a
  obtain ⟨b1, b2, b3, b4, b5, b6⟩ := b
  dsimp only at h1 h2 h3 h4 h5 h6
  rw [h1, h2, h3, h4, h5, h6]
def chkS (o : Option (Bool × SCf)) (e : Bool) (b : SCf) : Bool := match o with
  | some (e', a) => (e' == e) && eqCf a b
  | none => false
theorem chkS_ok {o : Option (Bool × SCf)} {e : Bool} {b : SCf} (h : chkS o e b = true) : o = some (e, b) := by
  unfold chkS at h
  split at h
  · rw [Bool.and_eq_true] at h
    rw [eq_of_beq h.1, eqCf_ok h.2]
  · cases h
def scA : List Cel := [(0, 11, [-1, -1, -1, -1, -1, -1, -1, -1, -1, -1, -1, -1, -1, -1])]
def wcA : List Wr := [(1, 0, 11, 0)]
def scB : List Cel := [(0, 11, [1, 7, 18, 45, 52, 88, 92, 136, 139, 140, 144, -1, 145, 147]), (0, 3, [-1, -1, -1, -1, 2, 3, 4, 5, 6]), (1, 256, []), (1, 256, []), (1, 64, []), (1, 16, []), (1, 16, []), (0, 7, [1, 8, 10, 12, 14, 16]), (0, 6, [9, -1]), (1, 17, []), (0, 6, [11, -1]), (1, 17, []), (0, 6, [13, -1]), (1, 17, []), (0, 6, [15, -1]), (1, 17, []), (0, 6, [17, -1]), (1, 17, []), (0, 2, [7, -1, -1, -1, 40, 42, 44]), (0, 5, [20, 22, 24]), (0, 6, [21, -1]), (1, 17, []), (0, 6, [23, -1]), (1, 17, []), (0, 6, [25, -1]), (1, 17, []), (0, 5, [27, 29, 31]), (0, 6, [28, -1]), (1, 17, []), (0, 6, [30, -1]), (1, 17, []), (0, 6, [32, -1]), (1, 17, []), (0, 5, [34, 36, 38]), (0, 6, [35, -1]), (1, 17, []), (0, 6, [37, -1]), (1, 17, []), (0, 6, [39, -1]), (1, 17, []), (0, 6, [41, -1]), (1, 17, []), (0, 6, [43, -1]), (1, 17, []), (1, 20, []), (0, 10, [1, 7, 46, 48, 50]), (0, 6, [47, -1]), (1, 17, []), (0, 6, [49, -1]), (1, 17, []), (0, 6, [51, -1]), (1, 17, []), (0, 1, [1, 7, 53, 55, 57, 59, 61, 62, 63, -1]), (0, 6, [54, -1]), (1, 17, []), (0, 6, [56, -1]), (1, 17, []), (0, 6, [58, -1]), (1, 17, []), (0, 6, [60, -1]), (1, 17, []), (4, 4, [64, 70, 76, 82]), (4, 4, [66, 72, 78, 84]), (4, 4, [68, 74, 80, 86]), (0, 6, [65, -1]), (1, 17, []), (0, 6, [67, -1]), (1, 17, []), (0, 6, [69, -1]), (1, 17, []), (0, 6, [71, -1]), (1, 17, []), (0, 6, [73, -1]), (1, 17, []), (0, 6, [75, -1]), (1, 17, []), (0, 6, [77, -1]), (1, 17, []), (0, 6, [79, -1]), (1, 17, []), (0, 6, [81, -1]), (1, 17, []), (0, 6, [83, -1]), (1, 17, []), (0, 6, [85, -1]), (1, 17, []), (0, 6, [87, -1]), (1, 17, []), (0, 8, [1, 89, 90, 91, -1, -1]), (1, 544, []), (1, 289, []), (1, 17, []), (0, 4, [1, 7, 88, 93, 95, 97, 99, 100, 101, 102, -1, -1]), (0, 6, [94, -1]), (1, 17, []), (0, 6, [96, -1]), (1, 17, []), (0, 6, [98, -1]), (1, 17, []), (4, 16, [104, 106, 108, 110, 112, 114, 116, 118, 120, 122, 124, 126, 128, 130, 132, 134]), (1, 16, []), (1, 256, []), (0, 6, [103, -1]), (1, 17, []), (0, 6, [105, -1]), (1, 17, []), (0, 6, [107, -1]), (1, 17, []), (0, 6, [109, -1]), (1, 17, []), (0, 6, [111, -1]), (1, 17, []), (0, 6, [113, -1]), (1, 17, []), (0, 6, [115, -1]), (1, 17, []), (0, 6, [117, -1]), (1, 17, []), (0, 6, [119, -1]), (1, 17, []), (0, 6, [121, -1]), (1, 17, []), (0, 6, [123, -1]), (1, 17, []), (0, 6, [125, -1]), (1, 17, []), (0, 6, [127, -1]), (1, 17, []), (0, 6, [129, -1]), (1, 17, []), (0, 6, [131, -1]), (1, 17, []), (0, 6, [133, -1]), (1, 17, []), (0, 6, [135, -1]), (1, 17, []), (0, 0, [1, 7, 88, 137]), (0, 6, [138, -1]), (1, 17, []), (4, 6, [-1, -1, -1, -1, -1, -1]), (0, 9, [141, 142, 143, -1, -1, -1, -1]), (1, 40, []), (1, 6, []), (1, 6, []), (2, 40, []), (0, 6, [146, -1]), (1, 17, []), (0, 6, [148, -1]), (1, 17, [])]
def wcB : List Wr := [(0, 147, 1, -1), (1, 148, 99, 0), (1, 147, 6, 0), (0, 145, 1, -1), (1, 146, 99, 0), (1, 145, 6, 0), (1, 144, 99, 0), (1, 143, 99, 0), (1, 142, 99, 0), (1, 141, 99, 0), (1, 140, 9, 0), (1, 139, 99, 0), (0, 137, 1, -1), (1, 138, 99, 0), (1, 137, 6, 0), (1, 136, 0, 0), (0, 134, 1, -1), (1, 135, 99, 0), (1, 134, 6, 0), (0, 132, 1, -1), (1, 133, 99, 0), (1, 132, 6, 0), (0, 130, 1, -1), (1, 131, 99, 0), (1, 130, 6, 0), (0, 128, 1, -1), (1, 129, 99, 0), (1, 128, 6, 0), (0, 126, 1, -1), (1, 127, 99, 0), (1, 126, 6, 0), (0, 124, 1, -1), (1, 125, 99, 0), (1, 124, 6, 0), (0, 122, 1, -1), (1, 123, 99, 0), (1, 122, 6, 0), (0, 120, 1, -1), (1, 121, 99, 0), (1, 120, 6, 0), (0, 118, 1, -1), (1, 119, 99, 0), (1, 118, 6, 0), (0, 116, 1, -1), (1, 117, 99, 0), (1, 116, 6, 0), (0, 114, 1, -1), (1, 115, 99, 0), (1, 114, 6, 0), (0, 112, 1, -1), (1, 113, 99, 0), (1, 112, 6, 0), (0, 110, 1, -1), (1, 111, 99, 0), (1, 110, 6, 0), (0, 108, 1, -1), (1, 109, 99, 0), (1, 108, 6, 0), (0, 106, 1, -1), (1, 107, 99, 0), (1, 106, 6, 0), (0, 104, 1, -1), (1, 105, 99, 0), (1, 104, 6, 0), (0, 102, 1, -1), (1, 103, 99, 0), (1, 102, 6, 0), (1, 101, 99, 0), (1, 100, 99, 0), (1, 99, 99, 0), (0, 97, 1, -1), (1, 98, 99, 0), (1, 97, 6, 0), (0, 95, 1, -1), (1, 96, 99, 0), (1, 95, 6, 0), (0, 93, 1, -1), (1, 94, 99, 0), (1, 93, 6, 0), (1, 92, 4, 0), (1, 91, 99, 0), (1, 90, 99, 0), (1, 89, 99, 0), (1, 88, 8, 0), (0, 86, 1, -1), (1, 87, 99, 0), (1, 86, 6, 0), (0, 84, 1, -1), (1, 85, 99, 0), (1, 84, 6, 0), (0, 82, 1, -1), (1, 83, 99, 0), (1, 82, 6, 0), (0, 80, 1, -1), (1, 81, 99, 0), (1, 80, 6, 0), (0, 78, 1, -1), (1, 79, 99, 0), (1, 78, 6, 0), (0, 76, 1, -1), (1, 77, 99, 0), (1, 76, 6, 0), (0, 74, 1, -1), (1, 75, 99, 0), (1, 74, 6, 0), (0, 72, 1, -1), (1, 73, 99, 0), (1, 72, 6, 0), (0, 70, 1, -1), (1, 71, 99, 0), (1, 70, 6, 0), (0, 68, 1, -1), (1, 69, 99, 0), (1, 68, 6, 0), (0, 66, 1, -1), (1, 67, 99, 0), (1, 66, 6, 0), (0, 64, 1, -1), (1, 65, 99, 0), (1, 64, 6, 0), (1, 63, 99, 0), (1, 62, 99, 0), (1, 61, 99, 0), (0, 59, 1, -1), (1, 60, 99, 0), (1, 59, 6, 0), (0, 57, 1, -1), (1, 58, 99, 0), (1, 57, 6, 0), (0, 55, 1, -1), (1, 56, 99, 0), (1, 55, 6, 0), (0, 53, 1, -1), (1, 54, 99, 0), (1, 53, 6, 0), (1, 52, 1, 0), (0, 50, 1, -1), (1, 51, 99, 0), (1, 50, 6, 0), (0, 48, 1, -1), (1, 49, 99, 0), (1, 48, 6, 0), (0, 46, 1, -1), (1, 47, 99, 0), (1, 46, 6, 0), (1, 45, 10, 0), (1, 44, 99, 0), (0, 42, 1, -1), (1, 43, 99, 0), (1, 42, 6, 0), (0, 40, 1, -1), (1, 41, 99, 0), (1, 40, 6, 0), (0, 18, 3, 33), (0, 38, 1, -1), (1, 39, 99, 0), (1, 38, 6, 0), (0, 36, 1, -1), (1, 37, 99, 0), (1, 36, 6, 0), (0, 34, 1, -1), (1, 35, 99, 0), (1, 34, 6, 0), (1, 33, 5, 0), (0, 18, 2, 26), (0, 31, 1, -1), (1, 32, 99, 0), (1, 31, 6, 0), (0, 29, 1, -1), (1, 30, 99, 0), (1, 29, 6, 0), (0, 27, 1, -1), (1, 28, 99, 0), (1, 27, 6, 0), (1, 26, 5, 0), (0, 18, 1, 19), (0, 24, 1, -1), (1, 25, 99, 0), (1, 24, 6, 0), (0, 22, 1, -1), (1, 23, 99, 0), (1, 22, 6, 0), (0, 20, 1, -1), (1, 21, 99, 0), (1, 20, 6, 0), (1, 19, 5, 0), (1, 18, 2, 0), (0, 16, 1, -1), (1, 17, 99, 0), (1, 16, 6, 0), (0, 14, 1, -1), (1, 15, 99, 0), (1, 14, 6, 0), (0, 12, 1, -1), (1, 13, 99, 0), (1, 12, 6, 0), (0, 10, 1, -1), (1, 11, 99, 0), (1, 10, 6, 0), (0, 8, 1, -1), (1, 9, 99, 0), (1, 8, 6, 0), (1, 7, 7, 0), (1, 6, 99, 0), (1, 5, 99, 0), (1, 4, 99, 0), (1, 3, 99, 0), (1, 2, 99, 0), (1, 1, 3, 0), (1, 0, 11, 0)]
def scC : List Cel := [(0, 11, [1, 7, 18, 45, 52, 88, 92, 136, 139, 140, 144, -1, 145, 147]), (0, 3, [-1, -1, -1, -1, 2, 3, 4, 5, 6]), (1, 256, []), (1, 256, []), (1, 64, []), (1, 16, []), (1, 16, []), (0, 7, [1, 8, 10, 12, 14, 16]), (0, 6, [9, -1]), (1, 17, []), (0, 6, [11, -1]), (1, 17, []), (0, 6, [13, -1]), (1, 17, []), (0, 6, [15, -1]), (1, 17, []), (0, 6, [17, -1]), (1, 17, []), (0, 2, [7, -1, -1, -1, 40, 42, 44]), (0, 5, [20, 22, 24]), (0, 6, [21, -1]), (1, 17, []), (0, 6, [23, -1]), (1, 17, []), (0, 6, [25, -1]), (1, 17, []), (0, 5, [27, 29, 31]), (0, 6, [28, -1]), (1, 17, []), (0, 6, [30, -1]), (1, 17, []), (0, 6, [32, -1]), (1, 17, []), (0, 5, [34, 36, 38]), (0, 6, [35, -1]), (1, 17, []), (0, 6, [37, -1]), (1, 17, []), (0, 6, [39, -1]), (1, 17, []), (0, 6, [41, -1]), (1, 17, []), (0, 6, [43, -1]), (1, 17, []), (1, 20, []), (0, 10, [1, 7, 46, 48, 50]), (0, 6, [47, -1]), (1, 17, []), (0, 6, [49, -1]), (1, 17, []), (0, 6, [51, -1]), (1, 17, []), (0, 1, [1, 7, 53, 55, 57, 59, 61, 62, 63, -1]), (0, 6, [54, -1]), (1, 17, []), (0, 6, [56, -1]), (1, 17, []), (0, 6, [58, -1]), (1, 17, []), (0, 6, [60, -1]), (1, 17, []), (4, 4, [64, 70, 76, 82]), (4, 4, [66, 72, 78, 84]), (4, 4, [68, 74, 80, 86]), (0, 6, [65, -1]), (1, 17, []), (0, 6, [67, -1]), (1, 17, []), (0, 6, [69, -1]), (1, 17, []), (0, 6, [71, -1]), (1, 17, []), (0, 6, [73, -1]), (1, 17, []), (0, 6, [75, -1]), (1, 17, []), (0, 6, [77, -1]), (1, 17, []), (0, 6, [79, -1]), (1, 17, []), (0, 6, [81, -1]), (1, 17, []), (0, 6, [83, -1]), (1, 17, []), (0, 6, [85, -1]), (1, 17, []), (0, 6, [87, -1]), (1, 17, []), (0, 8, [1, 89, 90, 91, -1, -1]), (1, 544, []), (1, 289, []), (1, 17, []), (0, 4, [1, 7, 88, 93, 95, 97, 99, 100, 101, 102, -1, -1]), (0, 6, [94, -1]), (1, 17, []), (0, 6, [96, -1]), (1, 17, []), (0, 6, [98, -1]), (1, 17, []), (4, 16, [104, 106, 108, 110, 112, 114, 116, 118, 120, 122, 124, 126, 128, 130, 132, 134]), (1, 16, []), (1, 256, []), (0, 6, [103, -1]), (1, 17, []), (0, 6, [105, -1]), (1, 17, []), (0, 6, [107, -1]), (1, 17, []), (0, 6, [109, -1]), (1, 17, []), (0, 6, [111, -1]), (1, 17, []), (0, 6, [113, -1]), (1, 17, []), (0, 6, [115, -1]), (1, 17, []), (0, 6, [117, -1]), (1, 17, []), (0, 6, [119, -1]), (1, 17, []), (0, 6, [121, -1]), (1, 17, []), (0, 6, [123, -1]), (1, 17, []), (0, 6, [125, -1]), (1, 17, []), (0, 6, [127, -1]), (1, 17, []), (0, 6, [129, -1]), (1, 17, []), (0, 6, [131, -1]), (1, 17, []), (0, 6, [133, -1]), (1, 17, []), (0, 6, [135, -1]), (1, 17, []), (0, 0, [1, 7, 88, 137]), (0, 6, [138, -1]), (1, 17, []), (4, 6, [149, 151, 153, 155, 157, 159]), (0, 9, [141, 142, 143, -1, -1, -1, -1]), (1, 40, []), (1, 6, []), (1, 6, []), (2, 40, []), (0, 6, [146, -1]), (1, 17, []), (0, 6, [148, -1]), (1, 17, []), (0, 6, [150, -1]), (1, 17, []), (0, 6, [152, -1]), (1, 17, []), (0, 6, [154, -1]), (1, 17, []), (0, 6, [156, -1]), (1, 17, []), (0, 6, [158, -1]), (1, 17, []), (0, 6, [160, -1]), (1, 17, [])]
def wcC : List Wr := [(0, 159, 1, -1), (1, 160, 99, 0), (1, 159, 6, 0), (0, 157, 1, -1), (1, 158, 99, 0), (1, 157, 6, 0), (0, 155, 1, -1), (1, 156, 99, 0), (1, 155, 6, 0), (0, 153, 1, -1), (1, 154, 99, 0), (1, 153, 6, 0), (0, 151, 1, -1), (1, 152, 99, 0), (1, 151, 6, 0), (0, 149, 1, -1), (1, 150, 99, 0), (1, 149, 6, 0)]
theorem srA : srun 100 24 307 (some 2) (0, [(1, -2), (3, 0), (3, 0), (3, 0), (3, 0), (3, 0), (3, 0), (3, 0), (3, 0), (3, 0), (3, 0), (3, 0), (3, 0), (3, 0)], [], ([], [], true, 0, 0)) = some (false, (2, [(1, -2), (3, 0), (3, 0), (3, 0), (3, 0), (3, 0), (3, 0), (3, 0), (3, 0), (3, 0), (3, 0), (3, 0), (3, 0), (3, 0)], [(1, 0), (1, 0)], (scA, wcA, true, 1, 14))) := chkS_ok (by decide +kernel)
theorem srB : srun 900 23 122 (some 94) (0, [(1, 0), (3, 0)], [], (scA, wcA, true, 0, 0)) = some (false, (94, [(1, 0), (3, 0)], [(0, 0), (1, 1)], (scB, wcB, true, 148, 3053))) := chkS_ok (by decide +kernel)
theorem srC : srun 300 23 122 none (95, [(1, 0), (3, 0)], [], (scB, [], true, 148, 3053)) = some (true, (111, [(1, 0), (0, 6)], [], (scC, wcC, true, 160, 3167))) := chkS_ok (by decide +kernel)
theorem layB : LAY 7 scB := LAY_of (by decide +kernel)
theorem layC : LAY 198 scC := LAY_of (by decide +kernel)
theorem bdz {k : Nat} (n : Nat) : Bd (pz : Pl k) n := fun _ _ => rfl
def chP (p : Int) : Bool := if p < 149 then decide (lk1 wcB p 1 = some (-1)) && zrow wcB (p + 1) && decide (p + 1 < 149) else decide (lk1 wcC p 1 = some (-1)) && zrow wcC (p + 1)
theorem chP_all : ((List.range 160).all fun n => !isPs (n : Int) || chP (n : Int)) = true := by decide +kernel
theorem chP_ok {p : Int} (h : isP p) : chP p = true := by
  have h2 : isPs p = true := by
    simp only [isPs, Bool.and_eq_true, decide_eq_true_eq]
    exact ⟨⟨h.1, h.2.1⟩, h.2.2⟩
  have h1 := h.1
  obtain ⟨n, rfl⟩ : ∃ n : Nat, p = (n : Int) := ⟨p.toNat, by omega⟩
  have := List.all_eq_true.mp chP_all n (List.mem_range.mpr (by omega))
  rw [h2] at this
  simpa using this
theorem cls_start {M1 M2 : Mem} (hF : FS M2 0) (hk : ∀ a : Int, a ≠ 1 → a ≠ 2 → a ≠ 3 → a ≠ 4 → a ≠ 5 → a ≠ 6 → M2 a = app wcB M1 a) : CLS (app wcC M2) 0 (fun _ => pz) 0 (fun _ => -1) 0 (fun _ => 0) 0 (fun _ => (pz : Pl 0)) := by
  have hC : ∀ a : Int, a < 149 → app wcC M2 a = M2 a := fun a ha => frow_lt (b := 149) (by decide +kernel) ha M2
  have e0 : ((pz : Pl 0) 0).val = 0 := rfl
  have hv : ∀ a y v : Int, a < 149 → a ≠ 1 → a ≠ 2 → a ≠ 3 → a ≠ 4 → a ≠ 5 → a ≠ 6 → lk1 wcB a y = some v → app wcC M2 a y = v := fun a y v q0 q1 q2 q3 q4 q5 q6 q => by
    rw [hC a q0, hk a q1 q2 q3 q4 q5 q6]
    exact lk1_ok _ _ _ _ q M1
  have hP : ∀ p : Int, isP p → IsPl (app wcC M2) (k := 0) p pz := fun p hp => by
    have h := chP_ok hp
    have h1 := hp.1
    unfold chP at h
    split at h
    · rename_i q
      simp only [Bool.and_eq_true, decide_eq_true_eq] at h
      obtain ⟨⟨r1, r2⟩, r3⟩ := h
      refine ⟨fun j hj => ?_, bdz 17, ?_⟩
      · rw [hC _ r3, hk _ (by omega) (by omega) (by omega) (by omega) (by omega) (by omega)]
        exact (zrow_ok _ _ r2 M1 _).trans el0.symm
      · rw [dg_pz]
        exact hv p 1 (-1) q (by omega) (by omega) (by omega) (by omega) (by omega) (by omega) r1
    · simp only [Bool.and_eq_true, decide_eq_true_eq] at h
      obtain ⟨r1, r2⟩ := h
      refine ⟨fun j hj => (zrow_ok _ _ r2 M2 _).trans el0.symm, bdz 17, ?_⟩
      rw [dg_pz]
      exact lk1_ok _ _ _ _ r1 M2
  refine ⟨fun _ => some pz, 19, 26, 33, ⟨hF.congr (fun x h1 h2 => hC x (by omega)), fun p hp => ⟨(hP p hp).jk, fun f hf => by cases hf; exact hP p hp⟩⟩, ?_, fun i hi => ⟨rfl, bdz 9⟩, ?_, ?_, ?_⟩
  · exact ⟨⟨hv 18 1 19 (by decide) (by decide) (by decide) (by decide) (by decide) (by decide) (by decide) (by decide +kernel), hv 18 2 26 (by decide) (by decide) (by decide) (by decide) (by decide) (by decide) (by decide) (by decide +kernel), hv 18 3 33 (by decide) (by decide) (by decide) (by decide) (by decide) (by decide) (by decide) (by decide +kernel)⟩, ⟨⟨Or.inl rfl, rfl⟩, ⟨Or.inr (Or.inl rfl), rfl⟩, ⟨Or.inr (Or.inr rfl), rfl⟩⟩, by decide, by decide, by decide⟩
  · exact ⟨⟨hv 140 3 0 (by decide) (by decide) (by decide) (by decide) (by decide) (by decide) (by decide) (by decide +kernel), by decide, by decide⟩, fun i h1 h2 => absurd h2 (by omega), fun _ _ => rfl⟩
  · exact ⟨hv 0 11 0 (by decide) (by decide) (by decide) (by decide) (by decide) (by decide) (by decide) (by decide +kernel), by decide, fun j hj => absurd hj (by omega)⟩
  · exact ⟨hv 52 9 0 (by decide) (by decide) (by decide) (by decide) (by decide) (by decide) (by decide) (by decide +kernel), by decide, fun j hj => absurd hj (by omega)⟩
theorem e_fld0 {X : Int → Int} {M : Mem} {tx : Int → Int} {rc : Nat} {rw_ : Int → Int} {fc : Nat} {fa : Nat → Pl 0} (H : CLS M 0 (fun _ => pz) 0 tx rc rw_ fc fa) (hX : M (-2) = X) (x : Int) (hx : x = 0) : Ct 198 23 123 [(1, 0), (0, x)] M (fun r M' => r = (0, -2) ∧ LZ X M' 0 (fun _ => pz) rc rw_) :=
  (y_field (d := 15) H x (hx.trans rfl) (by decide)).imp (fun r M' h => ⟨h.1, by rw [h.2]; exact ⟨⟨_, _, _, H⟩, hX⟩⟩)
theorem e_fld1 {X : Int → Int} {M : Mem} {tx : Int → Int} {rc : Nat} {rw_ : Int → Int} {fc : Nat} {fa : Nat → Pl 0} (H : CLS M 0 (fun _ => pz) 0 tx rc rw_ fc fa) (hX : M (-2) = X) (k2 : Nat) (h1 : 1 ≤ k2) (h2 : k2 < 4) : Ct 198 23 123 [(1, 0), (0, (k2 : Int))] M (fun r M' => r = (0, (qq k2 : Int)) ∧ LZ X M' k2 (fun _ => pz) rc rw_) :=
  (o_field (d := 15) H k2 h2 (by omega)).imp (fun r M' h => ⟨h.1, ⟨_, _, _, h.2.1⟩, (h.2.2 (-2) (Or.inl (by decide))).trans hX⟩)
set_option maxRecDepth 100000 in
theorem lw_head {X : Int → Int} (hX : ∀ j : Int, -2147483648 ≤ X j ∧ X j ≤ 2147483647) {M : Mem} {tx : Int → Int} {rc : Nat} {rw_ : Int → Int} {fc : Nat} {fa : Nat → Pl 0} (H : CLS M 0 (fun _ => pz) 0 tx rc rw_ fc fa) (hM : M (-2) = X) {cc ss : Nat} (hcs : cc + 140 ≤ (cOf 307).1 ∧ ss + 800 ≤ (cOf 307).2) : WL 24 4 [(1, -2), (1, 0), (3, 0), (3, 0), (3, 0), (3, 0), (3, 0), (3, 0), (3, 0), (3, 0), (3, 0), (3, 0), (3, 0), (3, 0)] [] M cc ss := by
  have hK : cd 307 = k307 := rfl
  have hc : cc ≤ (cOf 307).1 ∧ ss ≤ (cOf 307).2 := ⟨by omega, by omega⟩
  refine wl_al hK rfl rfl ?_
  refine wl_ic hK rfl ?_
  refine wl_cv [(1, -2), (0, 0)] hK rfl rfl rfl rfl (Or.inl rfl) (Or.inl rfl) hc (c_cell hM hX 0 (by omega) (by omega)) (fun v1 M1 e1 H1 => (?_ : WL 24 7 [(1, -2), (1, 0), (3, 0), (3, 0), (3, 0), (3, 0), (3, 0), (3, 0), (3, 0), (3, 0), (3, 0), (3, 0), (3, 0), (3, 0)] [(0, v1)] M1 cc ss))
  subst M1
  refine wl_ic hK rfl ?_
  refine wl_msk hK rfl (by omega) (by omega) (fun v2 e2 a2 b2 => (?_ : WL 24 9 [(1, -2), (1, 0), (3, 0), (3, 0), (3, 0), (3, 0), (3, 0), (3, 0), (3, 0), (3, 0), (3, 0), (3, 0), (3, 0), (3, 0)] [(0, v2)] M cc ss))
  refine wl_is [(1, -2), (1, 0), (0, v2), (3, 0), (3, 0), (3, 0), (3, 0), (3, 0), (3, 0), (3, 0), (3, 0), (3, 0), (3, 0), (3, 0)] hK rfl rfl rfl ?_
  rcases (show v2 = 0 ∨ 1 ≤ v2 by omega) with qf | qf
  · refine wl_al hK rfl rfl ?_
    refine wl_il hK rfl rfl ?_
    refine wl_cv [(1, 0), (0, v2)] hK rfl rfl rfl rfl (Or.inr ⟨_, _, _, rfl, by decide, by decide, rfl⟩) (Or.inl rfl) hc (e_fld0 H hM v2 qf) (fun v3 M3 e3 H3 => (?_ : WL 24 13 [(1, -2), (1, 0), (0, v2), (3, 0), (3, 0), (3, 0), (3, 0), (3, 0), (3, 0), (3, 0), (3, 0), (3, 0), (3, 0), (3, 0)] [(0, v3)] M3 cc ss))
    refine wl_il hK rfl rfl ?_
    refine wl_ne hK rfl (by omega) (by omega) (fun h4 => ?_) (fun h4 => ?_)
    · exfalso
      omega
    · refine wl_ic hK rfl ?_
      refine wl_goto hK rfl ?_
      refine wl_eq2 hK rfl (by omega) (by omega) (by omega) (by omega) (fun h5 => ?_) (fun h5 => ?_)
      · refine wl_al hK rfl rfl ?_
        refine wl_ic hK rfl ?_
        refine wl_cv [(1, 0), (0, 1)] hK rfl rfl rfl rfl (Or.inr ⟨_, _, _, rfl, by decide, by decide, rfl⟩) (Or.inl rfl) hc (eo_count1 H3) (fun v6 M6 e6 H6 => (?_ : WL 24 26 [(1, -2), (1, 0), (0, v2), (3, 0), (3, 0), (3, 0), (3, 0), (3, 0), (3, 0), (3, 0), (3, 0), (3, 0), (3, 0), (3, 0)] [(0, v6)] M6 cc ss))
        subst e6
        refine wl_is [(1, -2), (1, 0), (0, v2), (0, (qq 0 : Int)), (3, 0), (3, 0), (3, 0), (3, 0), (3, 0), (3, 0), (3, 0), (3, 0), (3, 0), (3, 0)] hK rfl rfl rfl ?_
        refine wl_ic hK rfl ?_
        refine wl_is [(1, -2), (1, 0), (0, v2), (0, (qq 0 : Int)), (0, 1), (3, 0), (3, 0), (3, 0), (3, 0), (3, 0), (3, 0), (3, 0), (3, 0), (3, 0)] hK rfl rfl rfl ?_
        exact law_loop hX (by decide) 10 H6 (by show -1 ≤ dg (pz : Pl 0) ∧ dg (pz : Pl 0) ≤ 3; rw [dg_pz]; decide) (by show -1 ≤ dg (pz : Pl 0) ∧ dg (pz : Pl 0) ≤ 3; rw [dg_pz]; decide) (by decide) (by decide) ⟨by omega, by omega⟩
      · exfalso
        omega
  · obtain ⟨k2, ek⟩ : ∃ k2 : Nat, (k2 : Int) = v2 := ⟨v2.toNat, by omega⟩
    rw [← ek]
    have q1 := qq_I k2
    refine wl_al hK rfl rfl ?_
    refine wl_il hK rfl rfl ?_
    refine wl_cv [(1, 0), (0, (k2 : Int))] hK rfl rfl rfl rfl (Or.inr ⟨_, _, _, rfl, by decide, by decide, rfl⟩) (Or.inl rfl) hc (e_fld1 H hM k2 (by omega) (by omega)) (fun v3 M3 e3 H3 => (?_ : WL 24 13 [(1, -2), (1, 0), (0, (k2 : Int)), (3, 0), (3, 0), (3, 0), (3, 0), (3, 0), (3, 0), (3, 0), (3, 0), (3, 0), (3, 0), (3, 0)] [(0, v3)] M3 cc ss))
    refine wl_il hK rfl rfl ?_
    refine wl_ne hK rfl (by omega) (by omega) (fun h4 => ?_) (fun h4 => ?_)
    · refine wl_al hK rfl rfl ?_
      refine wl_ic hK rfl ?_
      refine wl_cv [(1, 0), (0, 1)] hK rfl rfl rfl rfl (Or.inr ⟨_, _, _, rfl, by decide, by decide, rfl⟩) (Or.inl rfl) hc (eo_count1 H3) (fun v5 M5 e5 H5 => (?_ : WL 24 20 [(1, -2), (1, 0), (0, (k2 : Int)), (3, 0), (3, 0), (3, 0), (3, 0), (3, 0), (3, 0), (3, 0), (3, 0), (3, 0), (3, 0), (3, 0)] [(0, v5), (0, v3)] M5 cc ss))
      refine wl_eq2 hK rfl (by omega) (by omega) (by omega) (by omega) (fun h6 => ?_) (fun h6 => ?_)
      · refine wl_al hK rfl rfl ?_
        refine wl_ic hK rfl ?_
        refine wl_cv [(1, 0), (0, 1)] hK rfl rfl rfl rfl (Or.inr ⟨_, _, _, rfl, by decide, by decide, rfl⟩) (Or.inl rfl) hc (eo_count1 H5) (fun v7 M7 e7 H7 => (?_ : WL 24 26 [(1, -2), (1, 0), (0, (k2 : Int)), (3, 0), (3, 0), (3, 0), (3, 0), (3, 0), (3, 0), (3, 0), (3, 0), (3, 0), (3, 0), (3, 0)] [(0, v7)] M7 cc ss))
        subst e7
        refine wl_is [(1, -2), (1, 0), (0, (k2 : Int)), (0, (qq k2 : Int)), (3, 0), (3, 0), (3, 0), (3, 0), (3, 0), (3, 0), (3, 0), (3, 0), (3, 0), (3, 0)] hK rfl rfl rfl ?_
        refine wl_ic hK rfl ?_
        refine wl_is [(1, -2), (1, 0), (0, (k2 : Int)), (0, (qq k2 : Int)), (0, 1), (3, 0), (3, 0), (3, 0), (3, 0), (3, 0), (3, 0), (3, 0), (3, 0), (3, 0)] hK rfl rfl rfl ?_
        exact law_loop hX (by omega) 10 H7 (by show -1 ≤ dg (pz : Pl k2) ∧ dg (pz : Pl k2) ≤ 3; rw [dg_pz]; decide) (by show -1 ≤ dg (pz : Pl k2) ∧ dg (pz : Pl k2) ≤ 3; rw [dg_pz]; decide) (by decide) (by decide) ⟨by omega, by omega⟩
      · exfalso
        omega
    · exfalso
      omega
/-- THE LAW: on every script it answers true -/
theorem law_run {X : Int → Int} (hX : ∀ j : Int, -2147483648 ≤ X j ∧ X j ≤ 2147483647) (M : Mem) (hM : M (-2) = X) : ∃ (n : Nat) (h' : Hp), run n 24 307 (0, entL 307 [(1, -2)], [], ([], M, true, 0, 0)) = some ((0, 1), h') := by
  obtain ⟨n1, r1, M2, e1, rfl, hFS, hk⟩ := c_bec0_7 (d := 18) (M := app wcB M) (lk1_ok _ _ _ _ (by decide +kernel) M) scB true layB
  have hB0 : app wcB M (-2) = M (-2) := frow_lt (b := 0) (by decide +kernel) (by decide) M
  have hC0 : app wcC M2 (-2) = M2 (-2) := frow_lt (b := 0) (by decide +kernel) (by decide) M2
  have c1 := cls_start hFS hk
  have hX6 : app wcC M2 (-2) = X := by rw [hC0, hk _ (by decide) (by decide) (by decide) (by decide) (by decide) (by decide), hB0, hM]
  have hK : cd 307 = k307 := rfl
  have w3 : WL 24 3 [(1, -2), (3, 0), (3, 0), (3, 0), (3, 0), (3, 0), (3, 0), (3, 0), (3, 0), (3, 0), (3, 0), (3, 0), (3, 0), (3, 0)] [(1, 0)] (app wcC M2) 161 3181 := by
    refine wl_as [(1, -2), (1, 0), (3, 0), (3, 0), (3, 0), (3, 0), (3, 0), (3, 0), (3, 0), (3, 0), (3, 0), (3, 0), (3, 0), (3, 0)] hK rfl rfl rfl ?_
    exact lw_head hX c1 hX6 (by decide)
  obtain ⟨n9, h3, e9⟩ := w3 scC true layC
  obtain ⟨na, ea⟩ := (srun_ok _ _ _ _ _ _ _ _ _ _ _ _ _ _ _ _ _ _ _ _ _ srC M2).1 rfl
  obtain ⟨nb, eb⟩ := rn_call (d := 23) (cl := (0, 0)) (L := [(1, 0), (3, 0)]) (st := [(0, 0), (1, 1)]) (S := scB) (M := app wcB M) (g := true) (cc := 148) (ss := 3053) (v := (4, 0)) (show (cd 122)[94]? = some (199, 3, 54, 1, 98, 19) from rfl) (by decide +kernel) e1 (by decide) (by decide +kernel) ea
  obtain ⟨nc, ec⟩ := (srun_ok _ _ _ _ _ _ _ _ _ _ _ _ _ _ _ _ _ _ _ _ _ srB M).2 rfl _ _ eb
  obtain ⟨nd, ed⟩ := rn_call (d := 24) (cl := (160, 3167)) (L := [(1, -2), (3, 0), (3, 0), (3, 0), (3, 0), (3, 0), (3, 0), (3, 0), (3, 0), (3, 0), (3, 0), (3, 0), (3, 0), (3, 0)]) (st := [(1, 0), (1, 0)]) (S := scA) (M := app wcA M) (g := true) (cc := 1) (ss := 14) (v := (4, 0)) (show (cd 307)[2]? = some (4, 3, 54, 122, 46, 402) from rfl) (by decide +kernel) ec (by decide) (by decide +kernel) e9
  obtain ⟨ne, ee⟩ := (srun_ok _ _ _ _ _ _ _ _ _ _ _ _ _ _ _ _ _ _ _ _ _ srA M).2 rfl _ _ ed
  exact ⟨ne, h3, ee⟩
