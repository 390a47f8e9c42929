/-! contracts: the field becomes another one -/
set_option maxRecDepth 100000 in
theorem c_bec0 {d : Nat} {M : Mem} (h50 : M 5 0 = 0) : Ct 198 (d + 4) 1 [(1, 1), (0, 0)] M (fun r M' => r = (4, 0) ∧ FS M' 0 ∧ (∀ a : Int, a ≠ 1 → a ≠ 2 → a ≠ 3 → a ≠ 4 → a ≠ 5 → a ≠ 6 → M' a = M a)) := by
  have hK : cd 1 = k1 := rfl
  show Wp 198 _ 1 0 [(1, 1), (0, 0), (3, 0)] [] M _
  refine w_al hK rfl rfl ?_
  refine w_il hK rfl rfl ?_
  refine w_puti (n := 0) (m := 0) hK rfl rfl (by decide) (by decide) rfl rfl rfl rfl ?_
  refine w_al hK rfl rfl ?_
  refine w_il hK rfl rfl ?_
  refine w_ic hK rfl ?_
  refine w_ne2 hK rfl (by decide) (by decide) (by decide) (by decide) (fun h6 => ?_) (fun h6 => ?_)
  · refine w_ic hK rfl ?_
    refine w_puti (n := 2) (m := 2) hK rfl rfl (by decide) (by decide) rfl rfl rfl rfl ?_
    refine w_al hK rfl rfl ?_
    refine w_il hK rfl rfl ?_
    refine w_ic hK rfl ?_
    refine w_ne2 hK rfl (by decide) (by decide) (by decide) (by decide) (fun h14 => ?_) (fun h14 => ?_)
    · refine w_il hK rfl rfl ?_
      refine w_ic hK rfl ?_
      refine w_ne2 hK rfl (by decide) (by decide) (by decide) (by decide) (fun h19 => ?_) (fun h19 => ?_)
      · refine w_ic hK rfl ?_
        refine w_puti (n := 3) (m := 3) hK rfl rfl (by decide) (by decide) rfl rfl rfl rfl ?_
        refine w_al hK rfl rfl ?_
        refine w_ic hK rfl ?_
        refine w_puti (n := 1) (m := 1) hK rfl rfl (by decide) (by decide) rfl rfl rfl rfl ?_
        refine w_ic hK rfl ?_
        refine w_is [(1, 1), (0, 0), (0, 0)] hK rfl rfl rfl ?_
        refine w_il hK rfl rfl ?_
        refine w_al hK rfl rfl ?_
        refine w_geti (n := 3) (m := 3) hK rfl rfl (by decide) (by decide) rfl rfl rfl rfl ?_
        rw [show (up (up (up (up M 1 0 0) 1 2 2) 1 3 2) 1 1 1) 1 3 = 2 from ((up_ne2 (by omega)).trans up_eq)]
        refine w_ge2 hK rfl (by decide) (by decide) (by decide) (by decide) (fun h32 => ?_) (fun h32 => ?_)
        · exfalso; omega
        · refine w_al hK rfl rfl ?_
          refine w_dup hK rfl rfl ?_
          refine w_geti (n := 1) (m := 1) hK rfl rfl (by decide) (by decide) rfl rfl rfl rfl ?_
          rw [show (up (up (up (up M 1 0 0) 1 2 2) 1 3 2) 1 1 1) 1 1 = 1 from up_eq]
          refine w_al hK rfl rfl ?_
          refine w_geti (n := 2) (m := 2) hK rfl rfl (by decide) (by decide) rfl rfl rfl rfl ?_
          rw [show (up (up (up (up M 1 0 0) 1 2 2) 1 3 2) 1 1 1) 1 2 = 2 from ((up_ne2 (by omega)).trans ((up_ne2 (by omega)).trans up_eq))]
          refine w_mul hK rfl (by decide) (by decide) ?_
          refine w_puti (n := 1) (m := 1) hK rfl rfl (by decide) (by decide) rfl rfl rfl rfl ?_
          refine w_inc [(1, 1), (0, 0), (0, 1)] hK rfl rfl rfl (by decide) (by decide) rfl ?_
          refine w_goto hK rfl ?_
          refine w_il hK rfl rfl ?_
          refine w_al hK rfl rfl ?_
          refine w_geti (n := 3) (m := 3) hK rfl rfl (by decide) (by decide) rfl rfl rfl rfl ?_
          rw [show (up (up (up (up (up M 1 0 0) 1 2 2) 1 3 2) 1 1 1) 1 1 (1 * 2)) 1 3 = 2 from ((up_ne2 (by omega)).trans ((up_ne2 (by omega)).trans up_eq))]
          refine w_ge2 hK rfl (by decide) (by decide) (by decide) (by decide) (fun h32 => ?_) (fun h32 => ?_)
          · exfalso; omega
          · refine w_al hK rfl rfl ?_
            refine w_dup hK rfl rfl ?_
            refine w_geti (n := 1) (m := 1) hK rfl rfl (by decide) (by decide) rfl rfl rfl rfl ?_
            rw [show (up (up (up (up (up M 1 0 0) 1 2 2) 1 3 2) 1 1 1) 1 1 (1 * 2)) 1 1 = (1 * 2) from up_eq]
            refine w_al hK rfl rfl ?_
            refine w_geti (n := 2) (m := 2) hK rfl rfl (by decide) (by decide) rfl rfl rfl rfl ?_
            rw [show (up (up (up (up (up M 1 0 0) 1 2 2) 1 3 2) 1 1 1) 1 1 (1 * 2)) 1 2 = 2 from ((up_ne2 (by omega)).trans ((up_ne2 (by omega)).trans ((up_ne2 (by omega)).trans up_eq)))]
            refine w_mul hK rfl (by decide) (by decide) ?_
            refine w_puti (n := 1) (m := 1) hK rfl rfl (by decide) (by decide) rfl rfl rfl rfl ?_
            refine w_inc [(1, 1), (0, 0), (0, 2)] hK rfl rfl rfl (by decide) (by decide) rfl ?_
            refine w_goto hK rfl ?_
            refine w_il hK rfl rfl ?_
            refine w_al hK rfl rfl ?_
            refine w_geti (n := 3) (m := 3) hK rfl rfl (by decide) (by decide) rfl rfl rfl rfl ?_
            rw [show (up (up (up (up (up (up M 1 0 0) 1 2 2) 1 3 2) 1 1 1) 1 1 (1 * 2)) 1 1 ((1 * 2) * 2)) 1 3 = 2 from ((up_ne2 (by omega)).trans ((up_ne2 (by omega)).trans ((up_ne2 (by omega)).trans up_eq)))]
            refine w_ge2 hK rfl (by decide) (by decide) (by decide) (by decide) (fun h32 => ?_) (fun h32 => ?_)
            · refine w_al hK rfl rfl ?_
              have K_ : FK (up (up (up (up (up (up M 1 0 0) 1 2 2) 1 3 2) 1 1 1) 1 1 (1 * 2)) 1 1 ((1 * 2) * 2)) 0 := ⟨((up_ne2 (by omega)).trans ((up_ne2 (by omega)).trans ((up_ne2 (by omega)).trans ((up_ne2 (by omega)).trans ((up_ne2 (by omega)).trans up_eq))))), (up_eq).trans rfl, (((up_ne2 (by omega)).trans ((up_ne2 (by omega)).trans ((up_ne2 (by omega)).trans ((up_ne2 (by omega)).trans up_eq))))).trans rfl, (((up_ne2 (by omega)).trans ((up_ne2 (by omega)).trans ((up_ne2 (by omega)).trans up_eq)))).trans rfl⟩
              refine w_call [(1, 1)] hK rfl rfl rfl rfl (Or.inr ⟨_, _, _, rfl, by decide, (by decide), rfl⟩) (c_ftab K_ ((congrFun ((up_row (by decide)).trans ((up_row (by decide)).trans ((up_row (by decide)).trans ((up_row (by decide)).trans ((up_row (by decide)).trans ((up_row (by decide)).trans rfl)))))) 0).trans h50)) ?_
              rintro _ V113 ⟨rfl, t2_, t3_, t4_, t5_, t6_, F113⟩
              refine ⟨by decide, (?_ : Wp 198 _ 1 44 [(1, 1), (0, 0), (0, 2)] [] V113 _)⟩
              refine w_ret hK rfl rfl ?_
              exact ⟨rfl, ⟨by decide, ⟨((congrFun (F113 1 (by decide) (by decide) (by decide) (by decide) (by decide)) 0).trans ((up_ne2 (by omega)).trans ((up_ne2 (by omega)).trans ((up_ne2 (by omega)).trans ((up_ne2 (by omega)).trans ((up_ne2 (by omega)).trans up_eq)))))), (((congrFun (F113 1 (by decide) (by decide) (by decide) (by decide) (by decide)) 1).trans up_eq)).trans rfl, (((congrFun (F113 1 (by decide) (by decide) (by decide) (by decide) (by decide)) 2).trans ((up_ne2 (by omega)).trans ((up_ne2 (by omega)).trans ((up_ne2 (by omega)).trans ((up_ne2 (by omega)).trans up_eq)))))).trans rfl, (((congrFun (F113 1 (by decide) (by decide) (by decide) (by decide) (by decide)) 3).trans ((up_ne2 (by omega)).trans ((up_ne2 (by omega)).trans ((up_ne2 (by omega)).trans up_eq))))).trans rfl⟩, t2_, t3_, t4_, t5_, t6_⟩, (fun a n1_ n2_ n3_ n4_ n5_ n6_ => ((F113 a n2_ n3_ n4_ n5_ n6_).trans ((up_row n1_).trans ((up_row n1_).trans ((up_row n1_).trans ((up_row n1_).trans ((up_row n1_).trans (up_row n1_))))))))⟩
            · exfalso; omega
      · exfalso; omega
    · exfalso; omega
  · exfalso; omega
set_option maxRecDepth 100000 in
theorem c_bec1 {d : Nat} {M : Mem} (h50 : M 5 0 = 0) : Ct 198 (d + 4) 1 [(1, 1), (0, 1)] M (fun r M' => r = (4, 0) ∧ FS M' 1 ∧ (∀ a : Int, a ≠ 1 → a ≠ 2 → a ≠ 3 → a ≠ 4 → a ≠ 5 → a ≠ 6 → M' a = M a)) := by
  have hK : cd 1 = k1 := rfl
  show Wp 198 _ 1 0 [(1, 1), (0, 1), (3, 0)] [] M _
  refine w_al hK rfl rfl ?_
  refine w_il hK rfl rfl ?_
  refine w_puti (n := 0) (m := 0) hK rfl rfl (by decide) (by decide) rfl rfl rfl rfl ?_
  refine w_al hK rfl rfl ?_
  refine w_il hK rfl rfl ?_
  refine w_ic hK rfl ?_
  refine w_ne2 hK rfl (by decide) (by decide) (by decide) (by decide) (fun h6 => ?_) (fun h6 => ?_)
  · refine w_ic hK rfl ?_
    refine w_puti (n := 2) (m := 2) hK rfl rfl (by decide) (by decide) rfl rfl rfl rfl ?_
    refine w_al hK rfl rfl ?_
    refine w_il hK rfl rfl ?_
    refine w_ic hK rfl ?_
    refine w_ne2 hK rfl (by decide) (by decide) (by decide) (by decide) (fun h14 => ?_) (fun h14 => ?_)
    · refine w_il hK rfl rfl ?_
      refine w_ic hK rfl ?_
      refine w_ne2 hK rfl (by decide) (by decide) (by decide) (by decide) (fun h19 => ?_) (fun h19 => ?_)
      · exfalso; omega
      · refine w_ic hK rfl ?_
        refine w_goto hK rfl ?_
        refine w_puti (n := 3) (m := 3) hK rfl rfl (by decide) (by decide) rfl rfl rfl rfl ?_
        refine w_al hK rfl rfl ?_
        refine w_ic hK rfl ?_
        refine w_puti (n := 1) (m := 1) hK rfl rfl (by decide) (by decide) rfl rfl rfl rfl ?_
        refine w_ic hK rfl ?_
        refine w_is [(1, 1), (0, 1), (0, 0)] hK rfl rfl rfl ?_
        refine w_il hK rfl rfl ?_
        refine w_al hK rfl rfl ?_
        refine w_geti (n := 3) (m := 3) hK rfl rfl (by decide) (by decide) rfl rfl rfl rfl ?_
        rw [show (up (up (up (up M 1 0 1) 1 2 2) 1 3 3) 1 1 1) 1 3 = 3 from ((up_ne2 (by omega)).trans up_eq)]
        refine w_ge2 hK rfl (by decide) (by decide) (by decide) (by decide) (fun h32 => ?_) (fun h32 => ?_)
        · exfalso; omega
        · refine w_al hK rfl rfl ?_
          refine w_dup hK rfl rfl ?_
          refine w_geti (n := 1) (m := 1) hK rfl rfl (by decide) (by decide) rfl rfl rfl rfl ?_
          rw [show (up (up (up (up M 1 0 1) 1 2 2) 1 3 3) 1 1 1) 1 1 = 1 from up_eq]
          refine w_al hK rfl rfl ?_
          refine w_geti (n := 2) (m := 2) hK rfl rfl (by decide) (by decide) rfl rfl rfl rfl ?_
          rw [show (up (up (up (up M 1 0 1) 1 2 2) 1 3 3) 1 1 1) 1 2 = 2 from ((up_ne2 (by omega)).trans ((up_ne2 (by omega)).trans up_eq))]
          refine w_mul hK rfl (by decide) (by decide) ?_
          refine w_puti (n := 1) (m := 1) hK rfl rfl (by decide) (by decide) rfl rfl rfl rfl ?_
          refine w_inc [(1, 1), (0, 1), (0, 1)] hK rfl rfl rfl (by decide) (by decide) rfl ?_
          refine w_goto hK rfl ?_
          refine w_il hK rfl rfl ?_
          refine w_al hK rfl rfl ?_
          refine w_geti (n := 3) (m := 3) hK rfl rfl (by decide) (by decide) rfl rfl rfl rfl ?_
          rw [show (up (up (up (up (up M 1 0 1) 1 2 2) 1 3 3) 1 1 1) 1 1 (1 * 2)) 1 3 = 3 from ((up_ne2 (by omega)).trans ((up_ne2 (by omega)).trans up_eq))]
          refine w_ge2 hK rfl (by decide) (by decide) (by decide) (by decide) (fun h32 => ?_) (fun h32 => ?_)
          · exfalso; omega
          · refine w_al hK rfl rfl ?_
            refine w_dup hK rfl rfl ?_
            refine w_geti (n := 1) (m := 1) hK rfl rfl (by decide) (by decide) rfl rfl rfl rfl ?_
            rw [show (up (up (up (up (up M 1 0 1) 1 2 2) 1 3 3) 1 1 1) 1 1 (1 * 2)) 1 1 = (1 * 2) from up_eq]
            refine w_al hK rfl rfl ?_
            refine w_geti (n := 2) (m := 2) hK rfl rfl (by decide) (by decide) rfl rfl rfl rfl ?_
            rw [show (up (up (up (up (up M 1 0 1) 1 2 2) 1 3 3) 1 1 1) 1 1 (1 * 2)) 1 2 = 2 from ((up_ne2 (by omega)).trans ((up_ne2 (by omega)).trans ((up_ne2 (by omega)).trans up_eq)))]
            refine w_mul hK rfl (by decide) (by decide) ?_
            refine w_puti (n := 1) (m := 1) hK rfl rfl (by decide) (by decide) rfl rfl rfl rfl ?_
            refine w_inc [(1, 1), (0, 1), (0, 2)] hK rfl rfl rfl (by decide) (by decide) rfl ?_
            refine w_goto hK rfl ?_
            refine w_il hK rfl rfl ?_
            refine w_al hK rfl rfl ?_
            refine w_geti (n := 3) (m := 3) hK rfl rfl (by decide) (by decide) rfl rfl rfl rfl ?_
            rw [show (up (up (up (up (up (up M 1 0 1) 1 2 2) 1 3 3) 1 1 1) 1 1 (1 * 2)) 1 1 ((1 * 2) * 2)) 1 3 = 3 from ((up_ne2 (by omega)).trans ((up_ne2 (by omega)).trans ((up_ne2 (by omega)).trans up_eq)))]
            refine w_ge2 hK rfl (by decide) (by decide) (by decide) (by decide) (fun h32 => ?_) (fun h32 => ?_)
            · exfalso; omega
            · refine w_al hK rfl rfl ?_
              refine w_dup hK rfl rfl ?_
              refine w_geti (n := 1) (m := 1) hK rfl rfl (by decide) (by decide) rfl rfl rfl rfl ?_
              rw [show (up (up (up (up (up (up M 1 0 1) 1 2 2) 1 3 3) 1 1 1) 1 1 (1 * 2)) 1 1 ((1 * 2) * 2)) 1 1 = ((1 * 2) * 2) from up_eq]
              refine w_al hK rfl rfl ?_
              refine w_geti (n := 2) (m := 2) hK rfl rfl (by decide) (by decide) rfl rfl rfl rfl ?_
              rw [show (up (up (up (up (up (up M 1 0 1) 1 2 2) 1 3 3) 1 1 1) 1 1 (1 * 2)) 1 1 ((1 * 2) * 2)) 1 2 = 2 from ((up_ne2 (by omega)).trans ((up_ne2 (by omega)).trans ((up_ne2 (by omega)).trans ((up_ne2 (by omega)).trans up_eq))))]
              refine w_mul hK rfl (by decide) (by decide) ?_
              refine w_puti (n := 1) (m := 1) hK rfl rfl (by decide) (by decide) rfl rfl rfl rfl ?_
              refine w_inc [(1, 1), (0, 1), (0, 3)] hK rfl rfl rfl (by decide) (by decide) rfl ?_
              refine w_goto hK rfl ?_
              refine w_il hK rfl rfl ?_
              refine w_al hK rfl rfl ?_
              refine w_geti (n := 3) (m := 3) hK rfl rfl (by decide) (by decide) rfl rfl rfl rfl ?_
              rw [show (up (up (up (up (up (up (up M 1 0 1) 1 2 2) 1 3 3) 1 1 1) 1 1 (1 * 2)) 1 1 ((1 * 2) * 2)) 1 1 (((1 * 2) * 2) * 2)) 1 3 = 3 from ((up_ne2 (by omega)).trans ((up_ne2 (by omega)).trans ((up_ne2 (by omega)).trans ((up_ne2 (by omega)).trans up_eq))))]
              refine w_ge2 hK rfl (by decide) (by decide) (by decide) (by decide) (fun h32 => ?_) (fun h32 => ?_)
              · refine w_al hK rfl rfl ?_
                have K_ : FK (up (up (up (up (up (up (up M 1 0 1) 1 2 2) 1 3 3) 1 1 1) 1 1 (1 * 2)) 1 1 ((1 * 2) * 2)) 1 1 (((1 * 2) * 2) * 2)) 1 := ⟨((up_ne2 (by omega)).trans ((up_ne2 (by omega)).trans ((up_ne2 (by omega)).trans ((up_ne2 (by omega)).trans ((up_ne2 (by omega)).trans ((up_ne2 (by omega)).trans up_eq)))))), (up_eq).trans rfl, (((up_ne2 (by omega)).trans ((up_ne2 (by omega)).trans ((up_ne2 (by omega)).trans ((up_ne2 (by omega)).trans ((up_ne2 (by omega)).trans up_eq)))))).trans rfl, (((up_ne2 (by omega)).trans ((up_ne2 (by omega)).trans ((up_ne2 (by omega)).trans ((up_ne2 (by omega)).trans up_eq))))).trans rfl⟩
                refine w_call [(1, 1)] hK rfl rfl rfl rfl (Or.inr ⟨_, _, _, rfl, by decide, (by decide), rfl⟩) (c_ftab K_ ((congrFun ((up_row (by decide)).trans ((up_row (by decide)).trans ((up_row (by decide)).trans ((up_row (by decide)).trans ((up_row (by decide)).trans ((up_row (by decide)).trans ((up_row (by decide)).trans rfl))))))) 0).trans h50)) ?_
                rintro _ V114 ⟨rfl, t2_, t3_, t4_, t5_, t6_, F114⟩
                refine ⟨by decide, (?_ : Wp 198 _ 1 44 [(1, 1), (0, 1), (0, 3)] [] V114 _)⟩
                refine w_ret hK rfl rfl ?_
                exact ⟨rfl, ⟨by decide, ⟨((congrFun (F114 1 (by decide) (by decide) (by decide) (by decide) (by decide)) 0).trans ((up_ne2 (by omega)).trans ((up_ne2 (by omega)).trans ((up_ne2 (by omega)).trans ((up_ne2 (by omega)).trans ((up_ne2 (by omega)).trans ((up_ne2 (by omega)).trans up_eq))))))), (((congrFun (F114 1 (by decide) (by decide) (by decide) (by decide) (by decide)) 1).trans up_eq)).trans rfl, (((congrFun (F114 1 (by decide) (by decide) (by decide) (by decide) (by decide)) 2).trans ((up_ne2 (by omega)).trans ((up_ne2 (by omega)).trans ((up_ne2 (by omega)).trans ((up_ne2 (by omega)).trans ((up_ne2 (by omega)).trans up_eq))))))).trans rfl, (((congrFun (F114 1 (by decide) (by decide) (by decide) (by decide) (by decide)) 3).trans ((up_ne2 (by omega)).trans ((up_ne2 (by omega)).trans ((up_ne2 (by omega)).trans ((up_ne2 (by omega)).trans up_eq)))))).trans rfl⟩, t2_, t3_, t4_, t5_, t6_⟩, (fun a n1_ n2_ n3_ n4_ n5_ n6_ => ((F114 a n2_ n3_ n4_ n5_ n6_).trans ((up_row n1_).trans ((up_row n1_).trans ((up_row n1_).trans ((up_row n1_).trans ((up_row n1_).trans ((up_row n1_).trans (up_row n1_)))))))))⟩
              · exfalso; omega
    · exfalso; omega
  · exfalso; omega
set_option maxRecDepth 100000 in
theorem c_bec2 {d : Nat} {M : Mem} (h50 : M 5 0 = 0) : Ct 198 (d + 4) 1 [(1, 1), (0, 2)] M (fun r M' => r = (4, 0) ∧ FS M' 2 ∧ (∀ a : Int, a ≠ 1 → a ≠ 2 → a ≠ 3 → a ≠ 4 → a ≠ 5 → a ≠ 6 → M' a = M a)) := by
  have hK : cd 1 = k1 := rfl
  show Wp 198 _ 1 0 [(1, 1), (0, 2), (3, 0)] [] M _
  refine w_al hK rfl rfl ?_
  refine w_il hK rfl rfl ?_
  refine w_puti (n := 0) (m := 0) hK rfl rfl (by decide) (by decide) rfl rfl rfl rfl ?_
  refine w_al hK rfl rfl ?_
  refine w_il hK rfl rfl ?_
  refine w_ic hK rfl ?_
  refine w_ne2 hK rfl (by decide) (by decide) (by decide) (by decide) (fun h6 => ?_) (fun h6 => ?_)
  · exfalso; omega
  · refine w_ic hK rfl ?_
    refine w_goto hK rfl ?_
    refine w_puti (n := 2) (m := 2) hK rfl rfl (by decide) (by decide) rfl rfl rfl rfl ?_
    refine w_al hK rfl rfl ?_
    refine w_il hK rfl rfl ?_
    refine w_ic hK rfl ?_
    refine w_ne2 hK rfl (by decide) (by decide) (by decide) (by decide) (fun h14 => ?_) (fun h14 => ?_)
    · refine w_il hK rfl rfl ?_
      refine w_ic hK rfl ?_
      refine w_ne2 hK rfl (by decide) (by decide) (by decide) (by decide) (fun h19 => ?_) (fun h19 => ?_)
      · refine w_ic hK rfl ?_
        refine w_puti (n := 3) (m := 3) hK rfl rfl (by decide) (by decide) rfl rfl rfl rfl ?_
        refine w_al hK rfl rfl ?_
        refine w_ic hK rfl ?_
        refine w_puti (n := 1) (m := 1) hK rfl rfl (by decide) (by decide) rfl rfl rfl rfl ?_
        refine w_ic hK rfl ?_
        refine w_is [(1, 1), (0, 2), (0, 0)] hK rfl rfl rfl ?_
        refine w_il hK rfl rfl ?_
        refine w_al hK rfl rfl ?_
        refine w_geti (n := 3) (m := 3) hK rfl rfl (by decide) (by decide) rfl rfl rfl rfl ?_
        rw [show (up (up (up (up M 1 0 2) 1 2 3) 1 3 2) 1 1 1) 1 3 = 2 from ((up_ne2 (by omega)).trans up_eq)]
        refine w_ge2 hK rfl (by decide) (by decide) (by decide) (by decide) (fun h32 => ?_) (fun h32 => ?_)
        · exfalso; omega
        · refine w_al hK rfl rfl ?_
          refine w_dup hK rfl rfl ?_
          refine w_geti (n := 1) (m := 1) hK rfl rfl (by decide) (by decide) rfl rfl rfl rfl ?_
          rw [show (up (up (up (up M 1 0 2) 1 2 3) 1 3 2) 1 1 1) 1 1 = 1 from up_eq]
          refine w_al hK rfl rfl ?_
          refine w_geti (n := 2) (m := 2) hK rfl rfl (by decide) (by decide) rfl rfl rfl rfl ?_
          rw [show (up (up (up (up M 1 0 2) 1 2 3) 1 3 2) 1 1 1) 1 2 = 3 from ((up_ne2 (by omega)).trans ((up_ne2 (by omega)).trans up_eq))]
          refine w_mul hK rfl (by decide) (by decide) ?_
          refine w_puti (n := 1) (m := 1) hK rfl rfl (by decide) (by decide) rfl rfl rfl rfl ?_
          refine w_inc [(1, 1), (0, 2), (0, 1)] hK rfl rfl rfl (by decide) (by decide) rfl ?_
          refine w_goto hK rfl ?_
          refine w_il hK rfl rfl ?_
          refine w_al hK rfl rfl ?_
          refine w_geti (n := 3) (m := 3) hK rfl rfl (by decide) (by decide) rfl rfl rfl rfl ?_
          rw [show (up (up (up (up (up M 1 0 2) 1 2 3) 1 3 2) 1 1 1) 1 1 (1 * 3)) 1 3 = 2 from ((up_ne2 (by omega)).trans ((up_ne2 (by omega)).trans up_eq))]
          refine w_ge2 hK rfl (by decide) (by decide) (by decide) (by decide) (fun h32 => ?_) (fun h32 => ?_)
          · exfalso; omega
          · refine w_al hK rfl rfl ?_
            refine w_dup hK rfl rfl ?_
            refine w_geti (n := 1) (m := 1) hK rfl rfl (by decide) (by decide) rfl rfl rfl rfl ?_
            rw [show (up (up (up (up (up M 1 0 2) 1 2 3) 1 3 2) 1 1 1) 1 1 (1 * 3)) 1 1 = (1 * 3) from up_eq]
            refine w_al hK rfl rfl ?_
            refine w_geti (n := 2) (m := 2) hK rfl rfl (by decide) (by decide) rfl rfl rfl rfl ?_
            rw [show (up (up (up (up (up M 1 0 2) 1 2 3) 1 3 2) 1 1 1) 1 1 (1 * 3)) 1 2 = 3 from ((up_ne2 (by omega)).trans ((up_ne2 (by omega)).trans ((up_ne2 (by omega)).trans up_eq)))]
            refine w_mul hK rfl (by decide) (by decide) ?_
            refine w_puti (n := 1) (m := 1) hK rfl rfl (by decide) (by decide) rfl rfl rfl rfl ?_
            refine w_inc [(1, 1), (0, 2), (0, 2)] hK rfl rfl rfl (by decide) (by decide) rfl ?_
            refine w_goto hK rfl ?_
            refine w_il hK rfl rfl ?_
            refine w_al hK rfl rfl ?_
            refine w_geti (n := 3) (m := 3) hK rfl rfl (by decide) (by decide) rfl rfl rfl rfl ?_
            rw [show (up (up (up (up (up (up M 1 0 2) 1 2 3) 1 3 2) 1 1 1) 1 1 (1 * 3)) 1 1 ((1 * 3) * 3)) 1 3 = 2 from ((up_ne2 (by omega)).trans ((up_ne2 (by omega)).trans ((up_ne2 (by omega)).trans up_eq)))]
            refine w_ge2 hK rfl (by decide) (by decide) (by decide) (by decide) (fun h32 => ?_) (fun h32 => ?_)
            · refine w_al hK rfl rfl ?_
              have K_ : FK (up (up (up (up (up (up M 1 0 2) 1 2 3) 1 3 2) 1 1 1) 1 1 (1 * 3)) 1 1 ((1 * 3) * 3)) 2 := ⟨((up_ne2 (by omega)).trans ((up_ne2 (by omega)).trans ((up_ne2 (by omega)).trans ((up_ne2 (by omega)).trans ((up_ne2 (by omega)).trans up_eq))))), (up_eq).trans rfl, (((up_ne2 (by omega)).trans ((up_ne2 (by omega)).trans ((up_ne2 (by omega)).trans ((up_ne2 (by omega)).trans up_eq))))).trans rfl, (((up_ne2 (by omega)).trans ((up_ne2 (by omega)).trans ((up_ne2 (by omega)).trans up_eq)))).trans rfl⟩
              refine w_call [(1, 1)] hK rfl rfl rfl rfl (Or.inr ⟨_, _, _, rfl, by decide, (by decide), rfl⟩) (c_ftab K_ ((congrFun ((up_row (by decide)).trans ((up_row (by decide)).trans ((up_row (by decide)).trans ((up_row (by decide)).trans ((up_row (by decide)).trans ((up_row (by decide)).trans rfl)))))) 0).trans h50)) ?_
              rintro _ V115 ⟨rfl, t2_, t3_, t4_, t5_, t6_, F115⟩
              refine ⟨by decide, (?_ : Wp 198 _ 1 44 [(1, 1), (0, 2), (0, 2)] [] V115 _)⟩
              refine w_ret hK rfl rfl ?_
              exact ⟨rfl, ⟨by decide, ⟨((congrFun (F115 1 (by decide) (by decide) (by decide) (by decide) (by decide)) 0).trans ((up_ne2 (by omega)).trans ((up_ne2 (by omega)).trans ((up_ne2 (by omega)).trans ((up_ne2 (by omega)).trans ((up_ne2 (by omega)).trans up_eq)))))), (((congrFun (F115 1 (by decide) (by decide) (by decide) (by decide) (by decide)) 1).trans up_eq)).trans rfl, (((congrFun (F115 1 (by decide) (by decide) (by decide) (by decide) (by decide)) 2).trans ((up_ne2 (by omega)).trans ((up_ne2 (by omega)).trans ((up_ne2 (by omega)).trans ((up_ne2 (by omega)).trans up_eq)))))).trans rfl, (((congrFun (F115 1 (by decide) (by decide) (by decide) (by decide) (by decide)) 3).trans ((up_ne2 (by omega)).trans ((up_ne2 (by omega)).trans ((up_ne2 (by omega)).trans up_eq))))).trans rfl⟩, t2_, t3_, t4_, t5_, t6_⟩, (fun a n1_ n2_ n3_ n4_ n5_ n6_ => ((F115 a n2_ n3_ n4_ n5_ n6_).trans ((up_row n1_).trans ((up_row n1_).trans ((up_row n1_).trans ((up_row n1_).trans ((up_row n1_).trans (up_row n1_))))))))⟩
            · exfalso; omega
      · exfalso; omega
    · exfalso; omega
set_option maxRecDepth 100000 in
theorem c_bec3 {d : Nat} {M : Mem} (h50 : M 5 0 = 0) : Ct 198 (d + 4) 1 [(1, 1), (0, 3)] M (fun r M' => r = (4, 0) ∧ FS M' 3 ∧ (∀ a : Int, a ≠ 1 → a ≠ 2 → a ≠ 3 → a ≠ 4 → a ≠ 5 → a ≠ 6 → M' a = M a)) := by
  have hK : cd 1 = k1 := rfl
  show Wp 198 _ 1 0 [(1, 1), (0, 3), (3, 0)] [] M _
  refine w_al hK rfl rfl ?_
  refine w_il hK rfl rfl ?_
  refine w_puti (n := 0) (m := 0) hK rfl rfl (by decide) (by decide) rfl rfl rfl rfl ?_
  refine w_al hK rfl rfl ?_
  refine w_il hK rfl rfl ?_
  refine w_ic hK rfl ?_
  refine w_ne2 hK rfl (by decide) (by decide) (by decide) (by decide) (fun h6 => ?_) (fun h6 => ?_)
  · refine w_ic hK rfl ?_
    refine w_puti (n := 2) (m := 2) hK rfl rfl (by decide) (by decide) rfl rfl rfl rfl ?_
    refine w_al hK rfl rfl ?_
    refine w_il hK rfl rfl ?_
    refine w_ic hK rfl ?_
    refine w_ne2 hK rfl (by decide) (by decide) (by decide) (by decide) (fun h14 => ?_) (fun h14 => ?_)
    · exfalso; omega
    · refine w_ic hK rfl ?_
      refine w_goto hK rfl ?_
      refine w_puti (n := 3) (m := 3) hK rfl rfl (by decide) (by decide) rfl rfl rfl rfl ?_
      refine w_al hK rfl rfl ?_
      refine w_ic hK rfl ?_
      refine w_puti (n := 1) (m := 1) hK rfl rfl (by decide) (by decide) rfl rfl rfl rfl ?_
      refine w_ic hK rfl ?_
      refine w_is [(1, 1), (0, 3), (0, 0)] hK rfl rfl rfl ?_
      refine w_il hK rfl rfl ?_
      refine w_al hK rfl rfl ?_
      refine w_geti (n := 3) (m := 3) hK rfl rfl (by decide) (by decide) rfl rfl rfl rfl ?_
      rw [show (up (up (up (up M 1 0 3) 1 2 2) 1 3 4) 1 1 1) 1 3 = 4 from ((up_ne2 (by omega)).trans up_eq)]
      refine w_ge2 hK rfl (by decide) (by decide) (by decide) (by decide) (fun h32 => ?_) (fun h32 => ?_)
      · exfalso; omega
      · refine w_al hK rfl rfl ?_
        refine w_dup hK rfl rfl ?_
        refine w_geti (n := 1) (m := 1) hK rfl rfl (by decide) (by decide) rfl rfl rfl rfl ?_
        rw [show (up (up (up (up M 1 0 3) 1 2 2) 1 3 4) 1 1 1) 1 1 = 1 from up_eq]
        refine w_al hK rfl rfl ?_
        refine w_geti (n := 2) (m := 2) hK rfl rfl (by decide) (by decide) rfl rfl rfl rfl ?_
        rw [show (up (up (up (up M 1 0 3) 1 2 2) 1 3 4) 1 1 1) 1 2 = 2 from ((up_ne2 (by omega)).trans ((up_ne2 (by omega)).trans up_eq))]
        refine w_mul hK rfl (by decide) (by decide) ?_
        refine w_puti (n := 1) (m := 1) hK rfl rfl (by decide) (by decide) rfl rfl rfl rfl ?_
        refine w_inc [(1, 1), (0, 3), (0, 1)] hK rfl rfl rfl (by decide) (by decide) rfl ?_
        refine w_goto hK rfl ?_
        refine w_il hK rfl rfl ?_
        refine w_al hK rfl rfl ?_
        refine w_geti (n := 3) (m := 3) hK rfl rfl (by decide) (by decide) rfl rfl rfl rfl ?_
        rw [show (up (up (up (up (up M 1 0 3) 1 2 2) 1 3 4) 1 1 1) 1 1 (1 * 2)) 1 3 = 4 from ((up_ne2 (by omega)).trans ((up_ne2 (by omega)).trans up_eq))]
        refine w_ge2 hK rfl (by decide) (by decide) (by decide) (by decide) (fun h32 => ?_) (fun h32 => ?_)
        · exfalso; omega
        · refine w_al hK rfl rfl ?_
          refine w_dup hK rfl rfl ?_
          refine w_geti (n := 1) (m := 1) hK rfl rfl (by decide) (by decide) rfl rfl rfl rfl ?_
          rw [show (up (up (up (up (up M 1 0 3) 1 2 2) 1 3 4) 1 1 1) 1 1 (1 * 2)) 1 1 = (1 * 2) from up_eq]
          refine w_al hK rfl rfl ?_
          refine w_geti (n := 2) (m := 2) hK rfl rfl (by decide) (by decide) rfl rfl rfl rfl ?_
          rw [show (up (up (up (up (up M 1 0 3) 1 2 2) 1 3 4) 1 1 1) 1 1 (1 * 2)) 1 2 = 2 from ((up_ne2 (by omega)).trans ((up_ne2 (by omega)).trans ((up_ne2 (by omega)).trans up_eq)))]
          refine w_mul hK rfl (by decide) (by decide) ?_
          refine w_puti (n := 1) (m := 1) hK rfl rfl (by decide) (by decide) rfl rfl rfl rfl ?_
          refine w_inc [(1, 1), (0, 3), (0, 2)] hK rfl rfl rfl (by decide) (by decide) rfl ?_
          refine w_goto hK rfl ?_
          refine w_il hK rfl rfl ?_
          refine w_al hK rfl rfl ?_
          refine w_geti (n := 3) (m := 3) hK rfl rfl (by decide) (by decide) rfl rfl rfl rfl ?_
          rw [show (up (up (up (up (up (up M 1 0 3) 1 2 2) 1 3 4) 1 1 1) 1 1 (1 * 2)) 1 1 ((1 * 2) * 2)) 1 3 = 4 from ((up_ne2 (by omega)).trans ((up_ne2 (by omega)).trans ((up_ne2 (by omega)).trans up_eq)))]
          refine w_ge2 hK rfl (by decide) (by decide) (by decide) (by decide) (fun h32 => ?_) (fun h32 => ?_)
          · exfalso; omega
          · refine w_al hK rfl rfl ?_
            refine w_dup hK rfl rfl ?_
            refine w_geti (n := 1) (m := 1) hK rfl rfl (by decide) (by decide) rfl rfl rfl rfl ?_
            rw [show (up (up (up (up (up (up M 1 0 3) 1 2 2) 1 3 4) 1 1 1) 1 1 (1 * 2)) 1 1 ((1 * 2) * 2)) 1 1 = ((1 * 2) * 2) from up_eq]
            refine w_al hK rfl rfl ?_
            refine w_geti (n := 2) (m := 2) hK rfl rfl (by decide) (by decide) rfl rfl rfl rfl ?_
            rw [show (up (up (up (up (up (up M 1 0 3) 1 2 2) 1 3 4) 1 1 1) 1 1 (1 * 2)) 1 1 ((1 * 2) * 2)) 1 2 = 2 from ((up_ne2 (by omega)).trans ((up_ne2 (by omega)).trans ((up_ne2 (by omega)).trans ((up_ne2 (by omega)).trans up_eq))))]
            refine w_mul hK rfl (by decide) (by decide) ?_
            refine w_puti (n := 1) (m := 1) hK rfl rfl (by decide) (by decide) rfl rfl rfl rfl ?_
            refine w_inc [(1, 1), (0, 3), (0, 3)] hK rfl rfl rfl (by decide) (by decide) rfl ?_
            refine w_goto hK rfl ?_
            refine w_il hK rfl rfl ?_
            refine w_al hK rfl rfl ?_
            refine w_geti (n := 3) (m := 3) hK rfl rfl (by decide) (by decide) rfl rfl rfl rfl ?_
            rw [show (up (up (up (up (up (up (up M 1 0 3) 1 2 2) 1 3 4) 1 1 1) 1 1 (1 * 2)) 1 1 ((1 * 2) * 2)) 1 1 (((1 * 2) * 2) * 2)) 1 3 = 4 from ((up_ne2 (by omega)).trans ((up_ne2 (by omega)).trans ((up_ne2 (by omega)).trans ((up_ne2 (by omega)).trans up_eq))))]
            refine w_ge2 hK rfl (by decide) (by decide) (by decide) (by decide) (fun h32 => ?_) (fun h32 => ?_)
            · exfalso; omega
            · refine w_al hK rfl rfl ?_
              refine w_dup hK rfl rfl ?_
              refine w_geti (n := 1) (m := 1) hK rfl rfl (by decide) (by decide) rfl rfl rfl rfl ?_
              rw [show (up (up (up (up (up (up (up M 1 0 3) 1 2 2) 1 3 4) 1 1 1) 1 1 (1 * 2)) 1 1 ((1 * 2) * 2)) 1 1 (((1 * 2) * 2) * 2)) 1 1 = (((1 * 2) * 2) * 2) from up_eq]
              refine w_al hK rfl rfl ?_
              refine w_geti (n := 2) (m := 2) hK rfl rfl (by decide) (by decide) rfl rfl rfl rfl ?_
              rw [show (up (up (up (up (up (up (up M 1 0 3) 1 2 2) 1 3 4) 1 1 1) 1 1 (1 * 2)) 1 1 ((1 * 2) * 2)) 1 1 (((1 * 2) * 2) * 2)) 1 2 = 2 from ((up_ne2 (by omega)).trans ((up_ne2 (by omega)).trans ((up_ne2 (by omega)).trans ((up_ne2 (by omega)).trans ((up_ne2 (by omega)).trans up_eq)))))]
              refine w_mul hK rfl (by decide) (by decide) ?_
              refine w_puti (n := 1) (m := 1) hK rfl rfl (by decide) (by decide) rfl rfl rfl rfl ?_
              refine w_inc [(1, 1), (0, 3), (0, 4)] hK rfl rfl rfl (by decide) (by decide) rfl ?_
              refine w_goto hK rfl ?_
              refine w_il hK rfl rfl ?_
              refine w_al hK rfl rfl ?_
              refine w_geti (n := 3) (m := 3) hK rfl rfl (by decide) (by decide) rfl rfl rfl rfl ?_
              rw [show (up (up (up (up (up (up (up (up M 1 0 3) 1 2 2) 1 3 4) 1 1 1) 1 1 (1 * 2)) 1 1 ((1 * 2) * 2)) 1 1 (((1 * 2) * 2) * 2)) 1 1 ((((1 * 2) * 2) * 2) * 2)) 1 3 = 4 from ((up_ne2 (by omega)).trans ((up_ne2 (by omega)).trans ((up_ne2 (by omega)).trans ((up_ne2 (by omega)).trans ((up_ne2 (by omega)).trans up_eq)))))]
              refine w_ge2 hK rfl (by decide) (by decide) (by decide) (by decide) (fun h32 => ?_) (fun h32 => ?_)
              · refine w_al hK rfl rfl ?_
                have K_ : FK (up (up (up (up (up (up (up (up M 1 0 3) 1 2 2) 1 3 4) 1 1 1) 1 1 (1 * 2)) 1 1 ((1 * 2) * 2)) 1 1 (((1 * 2) * 2) * 2)) 1 1 ((((1 * 2) * 2) * 2) * 2)) 3 := ⟨((up_ne2 (by omega)).trans ((up_ne2 (by omega)).trans ((up_ne2 (by omega)).trans ((up_ne2 (by omega)).trans ((up_ne2 (by omega)).trans ((up_ne2 (by omega)).trans ((up_ne2 (by omega)).trans up_eq))))))), (up_eq).trans rfl, (((up_ne2 (by omega)).trans ((up_ne2 (by omega)).trans ((up_ne2 (by omega)).trans ((up_ne2 (by omega)).trans ((up_ne2 (by omega)).trans ((up_ne2 (by omega)).trans up_eq))))))).trans rfl, (((up_ne2 (by omega)).trans ((up_ne2 (by omega)).trans ((up_ne2 (by omega)).trans ((up_ne2 (by omega)).trans ((up_ne2 (by omega)).trans up_eq)))))).trans rfl⟩
                refine w_call [(1, 1)] hK rfl rfl rfl rfl (Or.inr ⟨_, _, _, rfl, by decide, (by decide), rfl⟩) (c_ftab K_ ((congrFun ((up_row (by decide)).trans ((up_row (by decide)).trans ((up_row (by decide)).trans ((up_row (by decide)).trans ((up_row (by decide)).trans ((up_row (by decide)).trans ((up_row (by decide)).trans ((up_row (by decide)).trans rfl)))))))) 0).trans h50)) ?_
                rintro _ V116 ⟨rfl, t2_, t3_, t4_, t5_, t6_, F116⟩
                refine ⟨by decide, (?_ : Wp 198 _ 1 44 [(1, 1), (0, 3), (0, 4)] [] V116 _)⟩
                refine w_ret hK rfl rfl ?_
                exact ⟨rfl, ⟨by decide, ⟨((congrFun (F116 1 (by decide) (by decide) (by decide) (by decide) (by decide)) 0).trans ((up_ne2 (by omega)).trans ((up_ne2 (by omega)).trans ((up_ne2 (by omega)).trans ((up_ne2 (by omega)).trans ((up_ne2 (by omega)).trans ((up_ne2 (by omega)).trans ((up_ne2 (by omega)).trans up_eq)))))))), (((congrFun (F116 1 (by decide) (by decide) (by decide) (by decide) (by decide)) 1).trans up_eq)).trans rfl, (((congrFun (F116 1 (by decide) (by decide) (by decide) (by decide) (by decide)) 2).trans ((up_ne2 (by omega)).trans ((up_ne2 (by omega)).trans ((up_ne2 (by omega)).trans ((up_ne2 (by omega)).trans ((up_ne2 (by omega)).trans ((up_ne2 (by omega)).trans up_eq)))))))).trans rfl, (((congrFun (F116 1 (by decide) (by decide) (by decide) (by decide) (by decide)) 3).trans ((up_ne2 (by omega)).trans ((up_ne2 (by omega)).trans ((up_ne2 (by omega)).trans ((up_ne2 (by omega)).trans ((up_ne2 (by omega)).trans up_eq))))))).trans rfl⟩, t2_, t3_, t4_, t5_, t6_⟩, (fun a n1_ n2_ n3_ n4_ n5_ n6_ => ((F116 a n2_ n3_ n4_ n5_ n6_).trans ((up_row n1_).trans ((up_row n1_).trans ((up_row n1_).trans ((up_row n1_).trans ((up_row n1_).trans ((up_row n1_).trans ((up_row n1_).trans (up_row n1_))))))))))⟩
              · exfalso; omega
  · exfalso; omega
theorem c_bec_ {d : Nat} {M : Mem} {k : Nat} (hk : k < 4) (h50 : M 5 0 = 0) : Ct 198 (d + 4) 1 [(1, 1), (0, (k : Int))] M (fun r M' => r = (4, 0) ∧ FS M' k ∧ (∀ a : Int, a ≠ 1 → a ≠ 2 → a ≠ 3 → a ≠ 4 → a ≠ 5 → a ≠ 6 → M' a = M a)) := by
  rcases (show k = 0 ∨ k = 1 ∨ k = 2 ∨ k = 3 by omega) with e | e | e | e
  · subst e; exact c_bec0 h50
  · subst e; exact c_bec1 h50
  · subst e; exact c_bec2 h50
  · subst e; exact c_bec3 h50
