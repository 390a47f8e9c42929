/-! contracts: Divisors, tries and hits -/
def trI (k : Nat) (n d : Int) : Int := if d < 1 ∨ n < d then 0 else if d = n then 1 else if d = 1 ∨ d = n - 1 then (qq k : Int) else (qq k : Int) * (qq k : Int)
theorem qq_sq (k : Nat) : (0 : Int) ≤ (qq k : Int) * (qq k : Int) ∧ (qq k : Int) * (qq k : Int) ≤ 256 := match k with | 0 => by decide | 1 => by decide | 2 => by decide | _ + 3 => (by decide : (0 : Int) ≤ (qq 3 : Int) * (qq 3 : Int) ∧ (qq 3 : Int) * (qq 3 : Int) ≤ 256)
theorem trI_I (k : Nat) (n d : Int) : 0 ≤ trI k n d ∧ trI k n d ≤ 256 := by
  have h1 := qq_I k
  have h2 := qq_sq k
  unfold trI
  repeat' split
  all_goals omega
/-- a t + b -/
def lin2 {k : Nat} (a b : El k) : Pl k := up1 (up1 (tpw 1) 1 a) 0 b
/-- the monic one of degree d, 1 or 2, of number i -/
def mc {k : Nat} (d i : Nat) : Pl k := if d ≤ 1 then up1 (tpw d) 0 (el k (i % qq k)) else up1 (up1 (tpw d) 0 (el k (i % qq k))) 1 (el k (i / qq k))
noncomputable def htB {k : Nat} (x : Pl k) (d i : Nat) : Pl k := if (d : Int) = dg x then mon 0 x else if 1 < d ∧ (d : Int) = dg x - 1 then dq 1 x (lin2 (ld x) (el k i)) else mc d i
noncomputable def htQ {k : Nat} (x : Pl k) (d i : Nat) : Pl k := if (d : Int) = dg x then cst (ld x) else if 1 < d ∧ (d : Int) = dg x - 1 then lin2 (ld x) (el k i) else dq 0 x (mc d i)
/-- whether try i finds a divisor of degree d -/
def htR {k : Nat} (x : Pl k) (d i : Nat) : Prop := if (d : Int) = dg x then True else if 1 < d ∧ (d : Int) = dg x - 1 then dr 1 x (lin2 (ld x) (el k i)) = pz else dr 0 x (mc d i) = pz
theorem modI (i q : Nat) : (i : Int) % (q : Int) = ((i % q : Nat) : Int) := by simp
theorem divI (i q : Nat) : (i : Int) / (q : Int) = ((i / q : Nat) : Int) := by simp
set_option maxRecDepth 100000 in
theorem c_tries {d : Nat} {M : Mem} {k : Nat} (F : FS M k) (n e : Int) (n1 : -1 ≤ n) (n2 : n ≤ 16) (e1_ : 0 ≤ e) (e2_ : e ≤ 16) : Ct 198 (d) 77 [(1, 52), (0, n), (0, e)] M (fun r M' => r = (0, trI k n e) ∧ M' = M) := by
  have hK : cd 77 = k77 := rfl
  have q1_ := qq_I k
  have q2_ := qq_sq k
  show Wp 198 _ 77 0 [(1, 52), (0, n), (0, e)] [] M _
  refine w_il hK rfl rfl ?_
  refine w_ic hK rfl ?_
  refine w_lt2 hK rfl (by omega) (by omega) (by omega) (by omega) (fun h2 => ?_) (fun h2 => ?_)
  · refine w_ic hK rfl ?_
    refine w_iret hK rfl rfl ?_
    refine ⟨congrArg (Prod.mk 0) ?_, rfl⟩
    unfold trI
    repeat' split
    all_goals first | rfl | (exfalso; omega)
  · refine w_il hK rfl rfl ?_
    refine w_il hK rfl rfl ?_
    refine w_le2 hK rfl (by omega) (by omega) (by omega) (by omega) (fun h5 => ?_) (fun h5 => ?_)
    · refine w_il hK rfl rfl ?_
      refine w_il hK rfl rfl ?_
      refine w_ne2 hK rfl (by omega) (by omega) (by omega) (by omega) (fun h10 => ?_) (fun h10 => ?_)
      · refine w_il hK rfl rfl ?_
        refine w_ic hK rfl ?_
        refine w_eq2 hK rfl (by omega) (by omega) (by omega) (by omega) (fun h15 => ?_) (fun h15 => ?_)
        · refine w_al hK rfl rfl ?_
          refine w_getr (n := 0) (v := 1) hK rfl rfl (by decide) (by decide) rfl rfl rfl rfl ?_
          refine w_geti (n := 1) (m := 1) hK rfl rfl (by decide) (by decide) rfl rfl rfl rfl ?_
          rw [show M 1 1 = (qq k : Int) from F.q]
          refine w_goto hK rfl ?_
          refine w_iret hK rfl rfl ?_
          refine ⟨congrArg (Prod.mk 0) ?_, rfl⟩
          unfold trI
          repeat' split
          all_goals first | rfl | (exfalso; omega)
        · refine w_il hK rfl rfl ?_
          refine w_il hK rfl rfl ?_
          refine w_ic hK rfl ?_
          refine w_sub hK rfl (by omega) (by omega) ?_
          refine w_ne2 hK rfl (by omega) (by omega) (by omega) (by omega) (fun h20 => ?_) (fun h20 => ?_)
          · refine w_al hK rfl rfl ?_
            refine w_getr (n := 0) (v := 1) hK rfl rfl (by decide) (by decide) rfl rfl rfl rfl ?_
            refine w_geti (n := 1) (m := 1) hK rfl rfl (by decide) (by decide) rfl rfl rfl rfl ?_
            rw [show M 1 1 = (qq k : Int) from F.q]
            refine w_al hK rfl rfl ?_
            refine w_getr (n := 0) (v := 1) hK rfl rfl (by decide) (by decide) rfl rfl rfl rfl ?_
            refine w_geti (n := 1) (m := 1) hK rfl rfl (by decide) (by decide) rfl rfl rfl rfl ?_
            rw [show M 1 1 = (qq k : Int) from F.q]
            refine w_mul hK rfl (by omega) (by omega) ?_
            refine w_iret hK rfl rfl ?_
            refine ⟨congrArg (Prod.mk 0) ?_, rfl⟩
            unfold trI
            repeat' split
            all_goals first | rfl | (exfalso; omega)
          · refine w_al hK rfl rfl ?_
            refine w_getr (n := 0) (v := 1) hK rfl rfl (by decide) (by decide) rfl rfl rfl rfl ?_
            refine w_geti (n := 1) (m := 1) hK rfl rfl (by decide) (by decide) rfl rfl rfl rfl ?_
            rw [show M 1 1 = (qq k : Int) from F.q]
            refine w_goto hK rfl ?_
            refine w_iret hK rfl rfl ?_
            refine ⟨congrArg (Prod.mk 0) ?_, rfl⟩
            unfold trI
            repeat' split
            all_goals first | rfl | (exfalso; omega)
      · refine w_ic hK rfl ?_
        refine w_iret hK rfl rfl ?_
        refine ⟨congrArg (Prod.mk 0) ?_, rfl⟩
        unfold trI
        repeat' split
        all_goals first | rfl | (exfalso; omega)
    · refine w_ic hK rfl ?_
      refine w_iret hK rfl rfl ?_
      refine ⟨congrArg (Prod.mk 0) ?_, rfl⟩
      unfold trI
      repeat' split
      all_goals first | rfl | (exfalso; omega)
set_option maxRecDepth 100000 in
theorem c_hits {d : Nat} {M : Mem} {k : Nat} {P : Int → Option (Pl k)} (C : CS M k P) {x b q : Int} {f_x : Pl k} (hx : isC P x f_x) (hb : isP b) (hq : isP q) (nb : x ≠ b ∧ x ≠ q ∧ x ≠ 53 ∧ b ≠ q ∧ b ≠ 53 ∧ q ≠ 53) (e i : Nat) (e1_ : 1 ≤ e) (e2_ : e ≤ 4) (i1 : i < 256) (i2 : i < qq k * qq k) (i3 : e ≤ 1 ∨ (e : Int) = dg f_x - 1 → i < qq k) : Ct 198 (d + 4) 78 [(1, 52), (1, x), (0, (e : Int)), (0, (i : Int)), (1, b), (1, q)] M (fun r_ M' => ∃ P' : Int → Option (Pl k), r_ = (0, bz (htR f_x e i)) ∧ CS M' k P' ∧ (∀ a : Int, (∀ p : Int, isP p → a ≠ p ∧ a ≠ p + 1) → M' a = M a) ∧ (∀ p : Int, p ≠ b → p ≠ q → p ≠ 53 → P' p = P p) ∧ (htR f_x e i → P' b = some (htB f_x e i) ∧ P' q = some (htQ f_x e i))) := by
  have hK : cd 78 = k78 := rfl
  have q1_ := qq_I k
  have dx_ := C.dI hx
  show Wp 198 _ 78 0 [(1, 52), (1, x), (0, (e : Int)), (0, (i : Int)), (1, b), (1, q)] [] M _
  refine w_il hK rfl rfl ?_
  refine w_al hK rfl rfl ?_
  refine w_pt hK rfl hx.1 ?_
  rw [show M x 1 = dg f_x from C.t hx]
  have tI_ := CS.dI C hx
  refine w_ne2 hK rfl (by omega) (by omega) (by omega) (by omega) (fun h3 => ?_) (fun h3 => ?_)
  · refine w_il hK rfl rfl ?_
    refine w_ic hK rfl ?_
    refine w_le2 hK rfl (by omega) (by omega) (by omega) (by omega) (fun h20 => ?_) (fun h20 => ?_)
    · refine w_al hK rfl rfl ?_
      refine w_il hK rfl rfl ?_
      refine w_call [(1, b), (0, (e : Int))] hK rfl rfl rfl rfl (Or.inr ⟨_, _, _, rfl, hb.nn, hb.lb, hb.o⟩) (c_becT C hb e (by omega)) ?_
      rintro _ V20 ⟨rfl, C20, S20⟩
      refine ⟨by decide, (?_ : Wp 198 _ 78 59 [(1, 52), (1, x), (0, (e : Int)), (0, (i : Int)), (1, b), (1, q)] [] V20 _)⟩
      refine w_al hK rfl rfl ?_
      refine w_ic hK rfl ?_
      refine w_al hK rfl rfl ?_
      refine w_getr (n := 0) (v := 1) hK rfl rfl (by decide) (by decide) rfl rfl rfl rfl ?_
      refine w_geti (n := 1) (m := 1) hK rfl rfl (by decide) (by decide) rfl rfl rfl rfl ?_
      rw [show V20 1 1 = (qq k : Int) from C20.F.q]
      refine w_le hK rfl (by omega) (by omega) (fun h64 => ?_) (fun h64 => ?_)
      · exfalso; omega
      · refine w_il hK rfl rfl ?_
        refine w_al hK rfl rfl ?_
        refine w_getr (n := 0) (v := 1) hK rfl rfl (by decide) (by decide) rfl rfl rfl rfl ?_
        refine w_geti (n := 1) (m := 1) hK rfl rfl (by decide) (by decide) rfl rfl rfl rfl ?_
        rw [show V20 1 1 = (qq k : Int) from C20.F.q]
        refine w_rem hK rfl (by omega) (by omega) (by omega) (by omega) ?_
        rw [modI]
        have mi_ := Nat.mod_lt i (qq_pos k)
        refine w_goto hK rfl ?_
        refine w_call [(1, b), (0, 0), (0, ((i % qq k : Nat) : Int))] hK rfl rfl rfl rfl (Or.inr ⟨_, _, _, rfl, hb.nn, hb.lb, hb.o⟩) (Ct.cv (c_putN C20 ⟨hb, pu_eq⟩ 0 (el k (i % qq k : Nat)) (by omega)) (by simp only [(elN (k := k) (n := (i % qq k : Nat)) (by omega))]; try rfl)) ?_
        rintro _ V21 ⟨rfl, C21, S21⟩
        rw [pu_pu (P := P) (p := b) (f := tpw e) (g := up1 (tpw e) 0 (el k (i % qq k : Nat)))] at C21
        refine ⟨by decide, (?_ : Wp 198 _ 78 73 [(1, 52), (1, x), (0, (e : Int)), (0, (i : Int)), (1, b), (1, q)] [] V21 _)⟩
        refine w_il hK rfl rfl ?_
        refine w_ic hK rfl ?_
        refine w_le2 hK rfl (by omega) (by omega) (by omega) (by omega) (fun h75 => ?_) (fun h75 => ?_)
        · refine w_al hK rfl rfl ?_
          refine w_getr (n := 1) (v := 7) hK rfl rfl (by decide) (by decide) rfl rfl rfl rfl ?_
          refine w_al hK rfl rfl ?_
          refine w_al hK rfl rfl ?_
          refine w_ic hK rfl ?_
          refine w_al hK rfl rfl ?_
          refine w_al hK rfl rfl ?_
          refine w_getr (n := 2) (v := 53) hK rfl rfl (by decide) (by decide) rfl rfl rfl rfl ?_
          refine w_call [(1, 7), (1, x), (1, b), (0, 0), (1, q), (1, 53)] hK rfl rfl rfl rfl (Or.inr ⟨_, _, _, rfl, by decide, (by decide), rfl⟩) (c_div C21 ⟨hx.1, ((pu_ne (P := P) (f := up1 (tpw e) 0 (el k (i % qq k : Nat))) (show x ≠ b by omega)).trans hx.2)⟩ ⟨hb, pu_eq⟩ 0 hq (isP_of (p := 53) rfl) (by omega) (by omega) (by omega) (by omega) (by omega) (by omega)) ?_
          rintro _ V22 ⟨rfl, C22, S22⟩
          refine ⟨by decide, (?_ : Wp 198 _ 78 99 [(1, 52), (1, x), (0, (e : Int)), (0, (i : Int)), (1, b), (1, q)] [] V22 _)⟩
          refine w_al hK rfl rfl ?_
          refine w_getr (n := 2) (v := 53) hK rfl rfl (by decide) (by decide) rfl rfl rfl rfl ?_
          refine w_pt hK rfl (isP_of (p := 53) rfl) ?_
          rw [show V22 53 1 = dg (dr 0 f_x (up1 (tpw e) 0 (el k (i % qq k : Nat)))) from C22.t ⟨(isP_of (p := 53) rfl), pu_eq⟩]
          have tI_ := CS.dI C22 ⟨(isP_of (p := 53) rfl), pu_eq⟩
          refine w_ge hK rfl (by omega) (by omega) (fun h102 => ?_) (fun h102 => ?_)
          · refine w_ic hK rfl ?_
            refine w_zret hK rfl rfl (Or.inl rfl) ?_
            have hb_ := CS.bd C22 ⟨isP_of (p := 53) rfl, pu_eq⟩
            have hz_ := dg_neg (hb_.mono (show 17 ≤ 64 by decide))
            have hR_ : htR f_x e i ↔ dr 0 f_x (up1 (tpw e) 0 (el k (i % qq k : Nat))) = pz := by unfold htR; rw [if_neg (by omega), if_neg (by omega)]; unfold mc; rw [if_pos (by omega)]
            have no_ : ¬ htR f_x e i := fun q => by have := hz_.mpr (hR_.mp q); omega
            exact ⟨_, by rw [bz_neg no_], C22, (fun a np_ => ((S22 a np_).trans ((S21 a np_).trans (S20 a np_)))), (fun p pnb_ pnq_ pn53_ => ((pu_ne (P := pu (pu P b (up1 (tpw e) 0 (el k (i % qq k : Nat)))) q (dq 0 f_x (up1 (tpw e) 0 (el k (i % qq k : Nat))))) (f := dr 0 f_x (up1 (tpw e) 0 (el k (i % qq k : Nat)))) (show p ≠ 53 by omega)).trans ((pu_ne (P := pu P b (up1 (tpw e) 0 (el k (i % qq k : Nat)))) (f := dq 0 f_x (up1 (tpw e) 0 (el k (i % qq k : Nat)))) (show p ≠ q by omega)).trans (pu_ne (P := P) (f := up1 (tpw e) 0 (el k (i % qq k : Nat))) (show p ≠ b by omega))))), fun q => absurd q no_⟩
          · refine w_ic hK rfl ?_
            refine w_goto hK rfl ?_
            refine w_zret hK rfl rfl (Or.inr rfl) ?_
            have hb_ := CS.bd C22 ⟨isP_of (p := 53) rfl, pu_eq⟩
            have hz_ := dg_neg (hb_.mono (show 17 ≤ 64 by decide))
            have hR_ : htR f_x e i ↔ dr 0 f_x (up1 (tpw e) 0 (el k (i % qq k : Nat))) = pz := by unfold htR; rw [if_neg (by omega), if_neg (by omega)]; unfold mc; rw [if_pos (by omega)]
            exact ⟨_, by rw [bz_pos (hR_.mpr (hz_.mp (by omega)))], C22, (fun a np_ => ((S22 a np_).trans ((S21 a np_).trans (S20 a np_)))), (fun p pnb_ pnq_ pn53_ => ((pu_ne (P := pu (pu P b (up1 (tpw e) 0 (el k (i % qq k : Nat)))) q (dq 0 f_x (up1 (tpw e) 0 (el k (i % qq k : Nat))))) (f := dr 0 f_x (up1 (tpw e) 0 (el k (i % qq k : Nat)))) (show p ≠ 53 by omega)).trans ((pu_ne (P := pu P b (up1 (tpw e) 0 (el k (i % qq k : Nat)))) (f := dq 0 f_x (up1 (tpw e) 0 (el k (i % qq k : Nat)))) (show p ≠ q by omega)).trans (pu_ne (P := P) (f := up1 (tpw e) 0 (el k (i % qq k : Nat))) (show p ≠ b by omega))))), fun _ => ⟨(((pu_ne (P := pu (pu P b (up1 (tpw e) 0 (el k (i % qq k : Nat)))) q (dq 0 f_x (up1 (tpw e) 0 (el k (i % qq k : Nat))))) (f := dr 0 f_x (up1 (tpw e) 0 (el k (i % qq k : Nat)))) (show b ≠ 53 by omega)).trans ((pu_ne (P := pu P b (up1 (tpw e) 0 (el k (i % qq k : Nat)))) (f := dq 0 f_x (up1 (tpw e) 0 (el k (i % qq k : Nat)))) (show b ≠ q by omega)).trans pu_eq)).trans (congrArg some (by unfold htB; rw [if_neg (by omega), if_neg (by omega)]; unfold mc; rw [if_pos (by omega)]))), (((pu_ne (P := pu (pu P b (up1 (tpw e) 0 (el k (i % qq k : Nat)))) q (dq 0 f_x (up1 (tpw e) 0 (el k (i % qq k : Nat))))) (f := dr 0 f_x (up1 (tpw e) 0 (el k (i % qq k : Nat)))) (show q ≠ 53 by omega)).trans pu_eq).trans (congrArg some (by unfold htQ; rw [if_neg (by omega), if_neg (by omega)]; unfold mc; rw [if_pos (by omega)])))⟩⟩
        · refine w_al hK rfl rfl ?_
          refine w_ic hK rfl ?_
          refine w_al hK rfl rfl ?_
          refine w_getr (n := 0) (v := 1) hK rfl rfl (by decide) (by decide) rfl rfl rfl rfl ?_
          refine w_geti (n := 1) (m := 1) hK rfl rfl (by decide) (by decide) rfl rfl rfl rfl ?_
          rw [show V21 1 1 = (qq k : Int) from C21.F.q]
          refine w_le hK rfl (by omega) (by omega) (fun h81 => ?_) (fun h81 => ?_)
          · exfalso; omega
          · refine w_il hK rfl rfl ?_
            refine w_al hK rfl rfl ?_
            refine w_getr (n := 0) (v := 1) hK rfl rfl (by decide) (by decide) rfl rfl rfl rfl ?_
            refine w_geti (n := 1) (m := 1) hK rfl rfl (by decide) (by decide) rfl rfl rfl rfl ?_
            rw [show V21 1 1 = (qq k : Int) from C21.F.q]
            refine w_div hK rfl (by omega) (by omega) (by omega) (by omega) ?_
            rw [divI]
            have di_ := (Nat.div_lt_iff_lt_mul (qq_pos k)).mpr i2
            refine w_goto hK rfl ?_
            refine w_call [(1, b), (0, 1), (0, ((i / qq k : Nat) : Int))] hK rfl rfl rfl rfl (Or.inr ⟨_, _, _, rfl, hb.nn, hb.lb, hb.o⟩) (Ct.cv (c_putN C21 ⟨hb, pu_eq⟩ 1 (el k (i / qq k : Nat)) (by omega)) (by simp only [(elN (k := k) (n := (i / qq k : Nat)) (by omega))]; try rfl)) ?_
            rintro _ V23 ⟨rfl, C23, S23⟩
            rw [pu_pu (P := P) (p := b) (f := up1 (tpw e) 0 (el k (i % qq k : Nat))) (g := up1 (up1 (tpw e) 0 (el k (i % qq k : Nat))) 1 (el k (i / qq k : Nat)))] at C23
            refine ⟨by decide, (?_ : Wp 198 _ 78 90 [(1, 52), (1, x), (0, (e : Int)), (0, (i : Int)), (1, b), (1, q)] [] V23 _)⟩
            refine w_al hK rfl rfl ?_
            refine w_getr (n := 1) (v := 7) hK rfl rfl (by decide) (by decide) rfl rfl rfl rfl ?_
            refine w_al hK rfl rfl ?_
            refine w_al hK rfl rfl ?_
            refine w_ic hK rfl ?_
            refine w_al hK rfl rfl ?_
            refine w_al hK rfl rfl ?_
            refine w_getr (n := 2) (v := 53) hK rfl rfl (by decide) (by decide) rfl rfl rfl rfl ?_
            refine w_call [(1, 7), (1, x), (1, b), (0, 0), (1, q), (1, 53)] hK rfl rfl rfl rfl (Or.inr ⟨_, _, _, rfl, by decide, (by decide), rfl⟩) (c_div C23 ⟨hx.1, ((pu_ne (P := P) (f := up1 (up1 (tpw e) 0 (el k (i % qq k : Nat))) 1 (el k (i / qq k : Nat))) (show x ≠ b by omega)).trans hx.2)⟩ ⟨hb, pu_eq⟩ 0 hq (isP_of (p := 53) rfl) (by omega) (by omega) (by omega) (by omega) (by omega) (by omega)) ?_
            rintro _ V24 ⟨rfl, C24, S24⟩
            refine ⟨by decide, (?_ : Wp 198 _ 78 99 [(1, 52), (1, x), (0, (e : Int)), (0, (i : Int)), (1, b), (1, q)] [] V24 _)⟩
            refine w_al hK rfl rfl ?_
            refine w_getr (n := 2) (v := 53) hK rfl rfl (by decide) (by decide) rfl rfl rfl rfl ?_
            refine w_pt hK rfl (isP_of (p := 53) rfl) ?_
            rw [show V24 53 1 = dg (dr 0 f_x (up1 (up1 (tpw e) 0 (el k (i % qq k : Nat))) 1 (el k (i / qq k : Nat)))) from C24.t ⟨(isP_of (p := 53) rfl), pu_eq⟩]
            have tI_ := CS.dI C24 ⟨(isP_of (p := 53) rfl), pu_eq⟩
            refine w_ge hK rfl (by omega) (by omega) (fun h102 => ?_) (fun h102 => ?_)
            · refine w_ic hK rfl ?_
              refine w_zret hK rfl rfl (Or.inl rfl) ?_
              have hb_ := CS.bd C24 ⟨isP_of (p := 53) rfl, pu_eq⟩
              have hz_ := dg_neg (hb_.mono (show 17 ≤ 64 by decide))
              have hR_ : htR f_x e i ↔ dr 0 f_x (up1 (up1 (tpw e) 0 (el k (i % qq k : Nat))) 1 (el k (i / qq k : Nat))) = pz := by unfold htR; rw [if_neg (by omega), if_neg (by omega)]; unfold mc; rw [if_neg (by omega)]
              have no_ : ¬ htR f_x e i := fun q => by have := hz_.mpr (hR_.mp q); omega
              exact ⟨_, by rw [bz_neg no_], C24, (fun a np_ => ((S24 a np_).trans ((S23 a np_).trans ((S21 a np_).trans (S20 a np_))))), (fun p pnb_ pnq_ pn53_ => ((pu_ne (P := pu (pu P b (up1 (up1 (tpw e) 0 (el k (i % qq k : Nat))) 1 (el k (i / qq k : Nat)))) q (dq 0 f_x (up1 (up1 (tpw e) 0 (el k (i % qq k : Nat))) 1 (el k (i / qq k : Nat))))) (f := dr 0 f_x (up1 (up1 (tpw e) 0 (el k (i % qq k : Nat))) 1 (el k (i / qq k : Nat)))) (show p ≠ 53 by omega)).trans ((pu_ne (P := pu P b (up1 (up1 (tpw e) 0 (el k (i % qq k : Nat))) 1 (el k (i / qq k : Nat)))) (f := dq 0 f_x (up1 (up1 (tpw e) 0 (el k (i % qq k : Nat))) 1 (el k (i / qq k : Nat)))) (show p ≠ q by omega)).trans (pu_ne (P := P) (f := up1 (up1 (tpw e) 0 (el k (i % qq k : Nat))) 1 (el k (i / qq k : Nat))) (show p ≠ b by omega))))), fun q => absurd q no_⟩
            · refine w_ic hK rfl ?_
              refine w_goto hK rfl ?_
              refine w_zret hK rfl rfl (Or.inr rfl) ?_
              have hb_ := CS.bd C24 ⟨isP_of (p := 53) rfl, pu_eq⟩
              have hz_ := dg_neg (hb_.mono (show 17 ≤ 64 by decide))
              have hR_ : htR f_x e i ↔ dr 0 f_x (up1 (up1 (tpw e) 0 (el k (i % qq k : Nat))) 1 (el k (i / qq k : Nat))) = pz := by unfold htR; rw [if_neg (by omega), if_neg (by omega)]; unfold mc; rw [if_neg (by omega)]
              exact ⟨_, by rw [bz_pos (hR_.mpr (hz_.mp (by omega)))], C24, (fun a np_ => ((S24 a np_).trans ((S23 a np_).trans ((S21 a np_).trans (S20 a np_))))), (fun p pnb_ pnq_ pn53_ => ((pu_ne (P := pu (pu P b (up1 (up1 (tpw e) 0 (el k (i % qq k : Nat))) 1 (el k (i / qq k : Nat)))) q (dq 0 f_x (up1 (up1 (tpw e) 0 (el k (i % qq k : Nat))) 1 (el k (i / qq k : Nat))))) (f := dr 0 f_x (up1 (up1 (tpw e) 0 (el k (i % qq k : Nat))) 1 (el k (i / qq k : Nat)))) (show p ≠ 53 by omega)).trans ((pu_ne (P := pu P b (up1 (up1 (tpw e) 0 (el k (i % qq k : Nat))) 1 (el k (i / qq k : Nat)))) (f := dq 0 f_x (up1 (up1 (tpw e) 0 (el k (i % qq k : Nat))) 1 (el k (i / qq k : Nat)))) (show p ≠ q by omega)).trans (pu_ne (P := P) (f := up1 (up1 (tpw e) 0 (el k (i % qq k : Nat))) 1 (el k (i / qq k : Nat))) (show p ≠ b by omega))))), fun _ => ⟨(((pu_ne (P := pu (pu P b (up1 (up1 (tpw e) 0 (el k (i % qq k : Nat))) 1 (el k (i / qq k : Nat)))) q (dq 0 f_x (up1 (up1 (tpw e) 0 (el k (i % qq k : Nat))) 1 (el k (i / qq k : Nat))))) (f := dr 0 f_x (up1 (up1 (tpw e) 0 (el k (i % qq k : Nat))) 1 (el k (i / qq k : Nat)))) (show b ≠ 53 by omega)).trans ((pu_ne (P := pu P b (up1 (up1 (tpw e) 0 (el k (i % qq k : Nat))) 1 (el k (i / qq k : Nat)))) (f := dq 0 f_x (up1 (up1 (tpw e) 0 (el k (i % qq k : Nat))) 1 (el k (i / qq k : Nat)))) (show b ≠ q by omega)).trans pu_eq)).trans (congrArg some (by unfold htB; rw [if_neg (by omega), if_neg (by omega)]; unfold mc; rw [if_neg (by omega)]))), (((pu_ne (P := pu (pu P b (up1 (up1 (tpw e) 0 (el k (i % qq k : Nat))) 1 (el k (i / qq k : Nat)))) q (dq 0 f_x (up1 (up1 (tpw e) 0 (el k (i % qq k : Nat))) 1 (el k (i / qq k : Nat))))) (f := dr 0 f_x (up1 (up1 (tpw e) 0 (el k (i % qq k : Nat))) 1 (el k (i / qq k : Nat)))) (show q ≠ 53 by omega)).trans pu_eq).trans (congrArg some (by unfold htQ; rw [if_neg (by omega), if_neg (by omega)]; unfold mc; rw [if_neg (by omega)])))⟩⟩
    · refine w_il hK rfl rfl ?_
      refine w_al hK rfl rfl ?_
      refine w_pt hK rfl hx.1 ?_
      rw [show M x 1 = dg f_x from C.t hx]
      have tI_ := CS.dI C hx
      refine w_ic hK rfl ?_
      refine w_sub hK rfl (by omega) (by omega) ?_
      refine w_ne2 hK rfl (by omega) (by omega) (by omega) (by omega) (fun h26 => ?_) (fun h26 => ?_)
      · refine w_al hK rfl rfl ?_
        refine w_il hK rfl rfl ?_
        refine w_call [(1, b), (0, (e : Int))] hK rfl rfl rfl rfl (Or.inr ⟨_, _, _, rfl, hb.nn, hb.lb, hb.o⟩) (c_becT C hb e (by omega)) ?_
        rintro _ V25 ⟨rfl, C25, S25⟩
        refine ⟨by decide, (?_ : Wp 198 _ 78 59 [(1, 52), (1, x), (0, (e : Int)), (0, (i : Int)), (1, b), (1, q)] [] V25 _)⟩
        refine w_al hK rfl rfl ?_
        refine w_ic hK rfl ?_
        refine w_al hK rfl rfl ?_
        refine w_getr (n := 0) (v := 1) hK rfl rfl (by decide) (by decide) rfl rfl rfl rfl ?_
        refine w_geti (n := 1) (m := 1) hK rfl rfl (by decide) (by decide) rfl rfl rfl rfl ?_
        rw [show V25 1 1 = (qq k : Int) from C25.F.q]
        refine w_le hK rfl (by omega) (by omega) (fun h64 => ?_) (fun h64 => ?_)
        · exfalso; omega
        · refine w_il hK rfl rfl ?_
          refine w_al hK rfl rfl ?_
          refine w_getr (n := 0) (v := 1) hK rfl rfl (by decide) (by decide) rfl rfl rfl rfl ?_
          refine w_geti (n := 1) (m := 1) hK rfl rfl (by decide) (by decide) rfl rfl rfl rfl ?_
          rw [show V25 1 1 = (qq k : Int) from C25.F.q]
          refine w_rem hK rfl (by omega) (by omega) (by omega) (by omega) ?_
          rw [modI]
          have mi_ := Nat.mod_lt i (qq_pos k)
          refine w_goto hK rfl ?_
          refine w_call [(1, b), (0, 0), (0, ((i % qq k : Nat) : Int))] hK rfl rfl rfl rfl (Or.inr ⟨_, _, _, rfl, hb.nn, hb.lb, hb.o⟩) (Ct.cv (c_putN C25 ⟨hb, pu_eq⟩ 0 (el k (i % qq k : Nat)) (by omega)) (by simp only [(elN (k := k) (n := (i % qq k : Nat)) (by omega))]; try rfl)) ?_
          rintro _ V26 ⟨rfl, C26, S26⟩
          rw [pu_pu (P := P) (p := b) (f := tpw e) (g := up1 (tpw e) 0 (el k (i % qq k : Nat)))] at C26
          refine ⟨by decide, (?_ : Wp 198 _ 78 73 [(1, 52), (1, x), (0, (e : Int)), (0, (i : Int)), (1, b), (1, q)] [] V26 _)⟩
          refine w_il hK rfl rfl ?_
          refine w_ic hK rfl ?_
          refine w_le2 hK rfl (by omega) (by omega) (by omega) (by omega) (fun h75 => ?_) (fun h75 => ?_)
          · refine w_al hK rfl rfl ?_
            refine w_getr (n := 1) (v := 7) hK rfl rfl (by decide) (by decide) rfl rfl rfl rfl ?_
            refine w_al hK rfl rfl ?_
            refine w_al hK rfl rfl ?_
            refine w_ic hK rfl ?_
            refine w_al hK rfl rfl ?_
            refine w_al hK rfl rfl ?_
            refine w_getr (n := 2) (v := 53) hK rfl rfl (by decide) (by decide) rfl rfl rfl rfl ?_
            refine w_call [(1, 7), (1, x), (1, b), (0, 0), (1, q), (1, 53)] hK rfl rfl rfl rfl (Or.inr ⟨_, _, _, rfl, by decide, (by decide), rfl⟩) (c_div C26 ⟨hx.1, ((pu_ne (P := P) (f := up1 (tpw e) 0 (el k (i % qq k : Nat))) (show x ≠ b by omega)).trans hx.2)⟩ ⟨hb, pu_eq⟩ 0 hq (isP_of (p := 53) rfl) (by omega) (by omega) (by omega) (by omega) (by omega) (by omega)) ?_
            rintro _ V27 ⟨rfl, C27, S27⟩
            refine ⟨by decide, (?_ : Wp 198 _ 78 99 [(1, 52), (1, x), (0, (e : Int)), (0, (i : Int)), (1, b), (1, q)] [] V27 _)⟩
            refine w_al hK rfl rfl ?_
            refine w_getr (n := 2) (v := 53) hK rfl rfl (by decide) (by decide) rfl rfl rfl rfl ?_
            refine w_pt hK rfl (isP_of (p := 53) rfl) ?_
            rw [show V27 53 1 = dg (dr 0 f_x (up1 (tpw e) 0 (el k (i % qq k : Nat)))) from C27.t ⟨(isP_of (p := 53) rfl), pu_eq⟩]
            have tI_ := CS.dI C27 ⟨(isP_of (p := 53) rfl), pu_eq⟩
            refine w_ge hK rfl (by omega) (by omega) (fun h102 => ?_) (fun h102 => ?_)
            · refine w_ic hK rfl ?_
              refine w_zret hK rfl rfl (Or.inl rfl) ?_
              have hb_ := CS.bd C27 ⟨isP_of (p := 53) rfl, pu_eq⟩
              have hz_ := dg_neg (hb_.mono (show 17 ≤ 64 by decide))
              have hR_ : htR f_x e i ↔ dr 0 f_x (up1 (tpw e) 0 (el k (i % qq k : Nat))) = pz := by unfold htR; rw [if_neg (by omega), if_neg (by omega)]; unfold mc; rw [if_pos (by omega)]
              have no_ : ¬ htR f_x e i := fun q => by have := hz_.mpr (hR_.mp q); omega
              exact ⟨_, by rw [bz_neg no_], C27, (fun a np_ => ((S27 a np_).trans ((S26 a np_).trans (S25 a np_)))), (fun p pnb_ pnq_ pn53_ => ((pu_ne (P := pu (pu P b (up1 (tpw e) 0 (el k (i % qq k : Nat)))) q (dq 0 f_x (up1 (tpw e) 0 (el k (i % qq k : Nat))))) (f := dr 0 f_x (up1 (tpw e) 0 (el k (i % qq k : Nat)))) (show p ≠ 53 by omega)).trans ((pu_ne (P := pu P b (up1 (tpw e) 0 (el k (i % qq k : Nat)))) (f := dq 0 f_x (up1 (tpw e) 0 (el k (i % qq k : Nat)))) (show p ≠ q by omega)).trans (pu_ne (P := P) (f := up1 (tpw e) 0 (el k (i % qq k : Nat))) (show p ≠ b by omega))))), fun q => absurd q no_⟩
            · refine w_ic hK rfl ?_
              refine w_goto hK rfl ?_
              refine w_zret hK rfl rfl (Or.inr rfl) ?_
              have hb_ := CS.bd C27 ⟨isP_of (p := 53) rfl, pu_eq⟩
              have hz_ := dg_neg (hb_.mono (show 17 ≤ 64 by decide))
              have hR_ : htR f_x e i ↔ dr 0 f_x (up1 (tpw e) 0 (el k (i % qq k : Nat))) = pz := by unfold htR; rw [if_neg (by omega), if_neg (by omega)]; unfold mc; rw [if_pos (by omega)]
              exact ⟨_, by rw [bz_pos (hR_.mpr (hz_.mp (by omega)))], C27, (fun a np_ => ((S27 a np_).trans ((S26 a np_).trans (S25 a np_)))), (fun p pnb_ pnq_ pn53_ => ((pu_ne (P := pu (pu P b (up1 (tpw e) 0 (el k (i % qq k : Nat)))) q (dq 0 f_x (up1 (tpw e) 0 (el k (i % qq k : Nat))))) (f := dr 0 f_x (up1 (tpw e) 0 (el k (i % qq k : Nat)))) (show p ≠ 53 by omega)).trans ((pu_ne (P := pu P b (up1 (tpw e) 0 (el k (i % qq k : Nat)))) (f := dq 0 f_x (up1 (tpw e) 0 (el k (i % qq k : Nat)))) (show p ≠ q by omega)).trans (pu_ne (P := P) (f := up1 (tpw e) 0 (el k (i % qq k : Nat))) (show p ≠ b by omega))))), fun _ => ⟨(((pu_ne (P := pu (pu P b (up1 (tpw e) 0 (el k (i % qq k : Nat)))) q (dq 0 f_x (up1 (tpw e) 0 (el k (i % qq k : Nat))))) (f := dr 0 f_x (up1 (tpw e) 0 (el k (i % qq k : Nat)))) (show b ≠ 53 by omega)).trans ((pu_ne (P := pu P b (up1 (tpw e) 0 (el k (i % qq k : Nat)))) (f := dq 0 f_x (up1 (tpw e) 0 (el k (i % qq k : Nat)))) (show b ≠ q by omega)).trans pu_eq)).trans (congrArg some (by unfold htB; rw [if_neg (by omega), if_neg (by omega)]; unfold mc; rw [if_pos (by omega)]))), (((pu_ne (P := pu (pu P b (up1 (tpw e) 0 (el k (i % qq k : Nat)))) q (dq 0 f_x (up1 (tpw e) 0 (el k (i % qq k : Nat))))) (f := dr 0 f_x (up1 (tpw e) 0 (el k (i % qq k : Nat)))) (show q ≠ 53 by omega)).trans pu_eq).trans (congrArg some (by unfold htQ; rw [if_neg (by omega), if_neg (by omega)]; unfold mc; rw [if_pos (by omega)])))⟩⟩
          · refine w_al hK rfl rfl ?_
            refine w_ic hK rfl ?_
            refine w_al hK rfl rfl ?_
            refine w_getr (n := 0) (v := 1) hK rfl rfl (by decide) (by decide) rfl rfl rfl rfl ?_
            refine w_geti (n := 1) (m := 1) hK rfl rfl (by decide) (by decide) rfl rfl rfl rfl ?_
            rw [show V26 1 1 = (qq k : Int) from C26.F.q]
            refine w_le hK rfl (by omega) (by omega) (fun h81 => ?_) (fun h81 => ?_)
            · exfalso; omega
            · refine w_il hK rfl rfl ?_
              refine w_al hK rfl rfl ?_
              refine w_getr (n := 0) (v := 1) hK rfl rfl (by decide) (by decide) rfl rfl rfl rfl ?_
              refine w_geti (n := 1) (m := 1) hK rfl rfl (by decide) (by decide) rfl rfl rfl rfl ?_
              rw [show V26 1 1 = (qq k : Int) from C26.F.q]
              refine w_div hK rfl (by omega) (by omega) (by omega) (by omega) ?_
              rw [divI]
              have di_ := (Nat.div_lt_iff_lt_mul (qq_pos k)).mpr i2
              refine w_goto hK rfl ?_
              refine w_call [(1, b), (0, 1), (0, ((i / qq k : Nat) : Int))] hK rfl rfl rfl rfl (Or.inr ⟨_, _, _, rfl, hb.nn, hb.lb, hb.o⟩) (Ct.cv (c_putN C26 ⟨hb, pu_eq⟩ 1 (el k (i / qq k : Nat)) (by omega)) (by simp only [(elN (k := k) (n := (i / qq k : Nat)) (by omega))]; try rfl)) ?_
              rintro _ V28 ⟨rfl, C28, S28⟩
              rw [pu_pu (P := P) (p := b) (f := up1 (tpw e) 0 (el k (i % qq k : Nat))) (g := up1 (up1 (tpw e) 0 (el k (i % qq k : Nat))) 1 (el k (i / qq k : Nat)))] at C28
              refine ⟨by decide, (?_ : Wp 198 _ 78 90 [(1, 52), (1, x), (0, (e : Int)), (0, (i : Int)), (1, b), (1, q)] [] V28 _)⟩
              refine w_al hK rfl rfl ?_
              refine w_getr (n := 1) (v := 7) hK rfl rfl (by decide) (by decide) rfl rfl rfl rfl ?_
              refine w_al hK rfl rfl ?_
              refine w_al hK rfl rfl ?_
              refine w_ic hK rfl ?_
              refine w_al hK rfl rfl ?_
              refine w_al hK rfl rfl ?_
              refine w_getr (n := 2) (v := 53) hK rfl rfl (by decide) (by decide) rfl rfl rfl rfl ?_
              refine w_call [(1, 7), (1, x), (1, b), (0, 0), (1, q), (1, 53)] hK rfl rfl rfl rfl (Or.inr ⟨_, _, _, rfl, by decide, (by decide), rfl⟩) (c_div C28 ⟨hx.1, ((pu_ne (P := P) (f := up1 (up1 (tpw e) 0 (el k (i % qq k : Nat))) 1 (el k (i / qq k : Nat))) (show x ≠ b by omega)).trans hx.2)⟩ ⟨hb, pu_eq⟩ 0 hq (isP_of (p := 53) rfl) (by omega) (by omega) (by omega) (by omega) (by omega) (by omega)) ?_
              rintro _ V29 ⟨rfl, C29, S29⟩
              refine ⟨by decide, (?_ : Wp 198 _ 78 99 [(1, 52), (1, x), (0, (e : Int)), (0, (i : Int)), (1, b), (1, q)] [] V29 _)⟩
              refine w_al hK rfl rfl ?_
              refine w_getr (n := 2) (v := 53) hK rfl rfl (by decide) (by decide) rfl rfl rfl rfl ?_
              refine w_pt hK rfl (isP_of (p := 53) rfl) ?_
              rw [show V29 53 1 = dg (dr 0 f_x (up1 (up1 (tpw e) 0 (el k (i % qq k : Nat))) 1 (el k (i / qq k : Nat)))) from C29.t ⟨(isP_of (p := 53) rfl), pu_eq⟩]
              have tI_ := CS.dI C29 ⟨(isP_of (p := 53) rfl), pu_eq⟩
              refine w_ge hK rfl (by omega) (by omega) (fun h102 => ?_) (fun h102 => ?_)
              · refine w_ic hK rfl ?_
                refine w_zret hK rfl rfl (Or.inl rfl) ?_
                have hb_ := CS.bd C29 ⟨isP_of (p := 53) rfl, pu_eq⟩
                have hz_ := dg_neg (hb_.mono (show 17 ≤ 64 by decide))
                have hR_ : htR f_x e i ↔ dr 0 f_x (up1 (up1 (tpw e) 0 (el k (i % qq k : Nat))) 1 (el k (i / qq k : Nat))) = pz := by unfold htR; rw [if_neg (by omega), if_neg (by omega)]; unfold mc; rw [if_neg (by omega)]
                have no_ : ¬ htR f_x e i := fun q => by have := hz_.mpr (hR_.mp q); omega
                exact ⟨_, by rw [bz_neg no_], C29, (fun a np_ => ((S29 a np_).trans ((S28 a np_).trans ((S26 a np_).trans (S25 a np_))))), (fun p pnb_ pnq_ pn53_ => ((pu_ne (P := pu (pu P b (up1 (up1 (tpw e) 0 (el k (i % qq k : Nat))) 1 (el k (i / qq k : Nat)))) q (dq 0 f_x (up1 (up1 (tpw e) 0 (el k (i % qq k : Nat))) 1 (el k (i / qq k : Nat))))) (f := dr 0 f_x (up1 (up1 (tpw e) 0 (el k (i % qq k : Nat))) 1 (el k (i / qq k : Nat)))) (show p ≠ 53 by omega)).trans ((pu_ne (P := pu P b (up1 (up1 (tpw e) 0 (el k (i % qq k : Nat))) 1 (el k (i / qq k : Nat)))) (f := dq 0 f_x (up1 (up1 (tpw e) 0 (el k (i % qq k : Nat))) 1 (el k (i / qq k : Nat)))) (show p ≠ q by omega)).trans (pu_ne (P := P) (f := up1 (up1 (tpw e) 0 (el k (i % qq k : Nat))) 1 (el k (i / qq k : Nat))) (show p ≠ b by omega))))), fun q => absurd q no_⟩
              · refine w_ic hK rfl ?_
                refine w_goto hK rfl ?_
                refine w_zret hK rfl rfl (Or.inr rfl) ?_
                have hb_ := CS.bd C29 ⟨isP_of (p := 53) rfl, pu_eq⟩
                have hz_ := dg_neg (hb_.mono (show 17 ≤ 64 by decide))
                have hR_ : htR f_x e i ↔ dr 0 f_x (up1 (up1 (tpw e) 0 (el k (i % qq k : Nat))) 1 (el k (i / qq k : Nat))) = pz := by unfold htR; rw [if_neg (by omega), if_neg (by omega)]; unfold mc; rw [if_neg (by omega)]
                exact ⟨_, by rw [bz_pos (hR_.mpr (hz_.mp (by omega)))], C29, (fun a np_ => ((S29 a np_).trans ((S28 a np_).trans ((S26 a np_).trans (S25 a np_))))), (fun p pnb_ pnq_ pn53_ => ((pu_ne (P := pu (pu P b (up1 (up1 (tpw e) 0 (el k (i % qq k : Nat))) 1 (el k (i / qq k : Nat)))) q (dq 0 f_x (up1 (up1 (tpw e) 0 (el k (i % qq k : Nat))) 1 (el k (i / qq k : Nat))))) (f := dr 0 f_x (up1 (up1 (tpw e) 0 (el k (i % qq k : Nat))) 1 (el k (i / qq k : Nat)))) (show p ≠ 53 by omega)).trans ((pu_ne (P := pu P b (up1 (up1 (tpw e) 0 (el k (i % qq k : Nat))) 1 (el k (i / qq k : Nat)))) (f := dq 0 f_x (up1 (up1 (tpw e) 0 (el k (i % qq k : Nat))) 1 (el k (i / qq k : Nat)))) (show p ≠ q by omega)).trans (pu_ne (P := P) (f := up1 (up1 (tpw e) 0 (el k (i % qq k : Nat))) 1 (el k (i / qq k : Nat))) (show p ≠ b by omega))))), fun _ => ⟨(((pu_ne (P := pu (pu P b (up1 (up1 (tpw e) 0 (el k (i % qq k : Nat))) 1 (el k (i / qq k : Nat)))) q (dq 0 f_x (up1 (up1 (tpw e) 0 (el k (i % qq k : Nat))) 1 (el k (i / qq k : Nat))))) (f := dr 0 f_x (up1 (up1 (tpw e) 0 (el k (i % qq k : Nat))) 1 (el k (i / qq k : Nat)))) (show b ≠ 53 by omega)).trans ((pu_ne (P := pu P b (up1 (up1 (tpw e) 0 (el k (i % qq k : Nat))) 1 (el k (i / qq k : Nat)))) (f := dq 0 f_x (up1 (up1 (tpw e) 0 (el k (i % qq k : Nat))) 1 (el k (i / qq k : Nat)))) (show b ≠ q by omega)).trans pu_eq)).trans (congrArg some (by unfold htB; rw [if_neg (by omega), if_neg (by omega)]; unfold mc; rw [if_neg (by omega)]))), (((pu_ne (P := pu (pu P b (up1 (up1 (tpw e) 0 (el k (i % qq k : Nat))) 1 (el k (i / qq k : Nat)))) q (dq 0 f_x (up1 (up1 (tpw e) 0 (el k (i % qq k : Nat))) 1 (el k (i / qq k : Nat))))) (f := dr 0 f_x (up1 (up1 (tpw e) 0 (el k (i % qq k : Nat))) 1 (el k (i / qq k : Nat)))) (show q ≠ 53 by omega)).trans pu_eq).trans (congrArg some (by unfold htQ; rw [if_neg (by omega), if_neg (by omega)]; unfold mc; rw [if_neg (by omega)])))⟩⟩
      · refine w_al hK rfl rfl ?_
        refine w_ic hK rfl ?_
        refine w_call [(1, q), (0, 1)] hK rfl rfl rfl rfl (Or.inr ⟨_, _, _, rfl, hq.nn, hq.lb, hq.o⟩) (c_becT C hq 1 (by omega)) ?_
        rintro _ V30 ⟨rfl, C30, S30⟩
        refine ⟨by decide, (?_ : Wp 198 _ 78 30 [(1, 52), (1, x), (0, (e : Int)), (0, (i : Int)), (1, b), (1, q)] [] V30 _)⟩
        refine w_al hK rfl rfl ?_
        refine w_ic hK rfl ?_
        refine w_al hK rfl rfl ?_
        refine w_call [(1, x)] hK rfl rfl rfl rfl (Or.inr ⟨_, _, _, rfl, hx.1.nn, hx.1.lb, hx.1.o⟩) (c_ld C30 ⟨hx.1, ((pu_ne (P := P) (f := tpw 1) (show x ≠ q by omega)).trans hx.2)⟩) ?_
        rintro _ Mq ⟨rfl, e_⟩
        subst Mq
        have bv_ := el_I (ld f_x)
        refine ⟨by show (0 : Nat) ≠ 9; decide, (?_ : Wp 198 _ 78 34 [(1, 52), (1, x), (0, (e : Int)), (0, (i : Int)), (1, b), (1, q)] [(0, ((ld f_x).val : Int)), (0, 1), (1, q)] V30 _)⟩
        refine w_call [(1, q), (0, 1), (0, ((ld f_x).val : Int))] hK rfl rfl rfl rfl (Or.inr ⟨_, _, _, rfl, hq.nn, hq.lb, hq.o⟩) (c_putN C30 ⟨hq, pu_eq⟩ 1 (ld f_x) (by omega)) ?_
        rintro _ V31 ⟨rfl, C31, S31⟩
        rw [pu_pu (P := P) (p := q) (f := tpw 1) (g := up1 (tpw 1) 1 (ld f_x))] at C31
        refine ⟨by decide, (?_ : Wp 198 _ 78 35 [(1, 52), (1, x), (0, (e : Int)), (0, (i : Int)), (1, b), (1, q)] [] V31 _)⟩
        refine w_al hK rfl rfl ?_
        refine w_ic hK rfl ?_
        refine w_il hK rfl rfl ?_
        refine w_call [(1, q), (0, 0), (0, (i : Int))] hK rfl rfl rfl rfl (Or.inr ⟨_, _, _, rfl, hq.nn, hq.lb, hq.o⟩) (Ct.cv (c_putN C31 ⟨hq, pu_eq⟩ 0 (el k i) (by omega)) (by simp only [(elN (k := k) (n := i) (by omega))]; try rfl)) ?_
        rintro _ V32 ⟨rfl, C32, S32⟩
        rw [pu_pu (P := P) (p := q) (f := up1 (tpw 1) 1 (ld f_x)) (g := up1 (up1 (tpw 1) 1 (ld f_x)) 0 (el k i))] at C32
        refine ⟨by decide, (?_ : Wp 198 _ 78 39 [(1, 52), (1, x), (0, (e : Int)), (0, (i : Int)), (1, b), (1, q)] [] V32 _)⟩
        refine w_al hK rfl rfl ?_
        refine w_getr (n := 1) (v := 7) hK rfl rfl (by decide) (by decide) rfl rfl rfl rfl ?_
        refine w_al hK rfl rfl ?_
        refine w_al hK rfl rfl ?_
        refine w_ic hK rfl ?_
        refine w_al hK rfl rfl ?_
        refine w_al hK rfl rfl ?_
        refine w_getr (n := 2) (v := 53) hK rfl rfl (by decide) (by decide) rfl rfl rfl rfl ?_
        refine w_call [(1, 7), (1, x), (1, q), (0, 1), (1, b), (1, 53)] hK rfl rfl rfl rfl (Or.inr ⟨_, _, _, rfl, by decide, (by decide), rfl⟩) (c_div C32 ⟨hx.1, ((pu_ne (P := P) (f := up1 (up1 (tpw 1) 1 (ld f_x)) 0 (el k i)) (show x ≠ q by omega)).trans hx.2)⟩ ⟨hq, pu_eq⟩ 1 hb (isP_of (p := 53) rfl) (by omega) (by omega) (by omega) (by omega) (by omega) (by omega)) ?_
        rintro _ V33 ⟨rfl, C33, S33⟩
        refine ⟨by decide, (?_ : Wp 198 _ 78 48 [(1, 52), (1, x), (0, (e : Int)), (0, (i : Int)), (1, b), (1, q)] [] V33 _)⟩
        refine w_al hK rfl rfl ?_
        refine w_getr (n := 2) (v := 53) hK rfl rfl (by decide) (by decide) rfl rfl rfl rfl ?_
        refine w_pt hK rfl (isP_of (p := 53) rfl) ?_
        rw [show V33 53 1 = dg (dr 1 f_x (up1 (up1 (tpw 1) 1 (ld f_x)) 0 (el k i))) from C33.t ⟨(isP_of (p := 53) rfl), pu_eq⟩]
        have tI_ := CS.dI C33 ⟨(isP_of (p := 53) rfl), pu_eq⟩
        refine w_ge hK rfl (by omega) (by omega) (fun h51 => ?_) (fun h51 => ?_)
        · refine w_ic hK rfl ?_
          refine w_zret hK rfl rfl (Or.inl rfl) ?_
          have hb_ := CS.bd C33 ⟨isP_of (p := 53) rfl, pu_eq⟩
          have hz_ := dg_neg (hb_.mono (show 17 ≤ 64 by decide))
          have hR_ : htR f_x e i ↔ dr 1 f_x (up1 (up1 (tpw 1) 1 (ld f_x)) 0 (el k i)) = pz := by unfold htR; rw [if_neg (by omega), if_pos (by omega)]; exact Iff.rfl
          have no_ : ¬ htR f_x e i := fun q => by have := hz_.mpr (hR_.mp q); omega
          exact ⟨_, by rw [bz_neg no_], C33, (fun a np_ => ((S33 a np_).trans ((S32 a np_).trans ((S31 a np_).trans (S30 a np_))))), (fun p pnb_ pnq_ pn53_ => ((pu_ne (P := pu (pu P q (up1 (up1 (tpw 1) 1 (ld f_x)) 0 (el k i))) b (dq 1 f_x (up1 (up1 (tpw 1) 1 (ld f_x)) 0 (el k i)))) (f := dr 1 f_x (up1 (up1 (tpw 1) 1 (ld f_x)) 0 (el k i))) (show p ≠ 53 by omega)).trans ((pu_ne (P := pu P q (up1 (up1 (tpw 1) 1 (ld f_x)) 0 (el k i))) (f := dq 1 f_x (up1 (up1 (tpw 1) 1 (ld f_x)) 0 (el k i))) (show p ≠ b by omega)).trans (pu_ne (P := P) (f := up1 (up1 (tpw 1) 1 (ld f_x)) 0 (el k i)) (show p ≠ q by omega))))), fun q => absurd q no_⟩
        · refine w_ic hK rfl ?_
          refine w_goto hK rfl ?_
          refine w_zret hK rfl rfl (Or.inr rfl) ?_
          have hb_ := CS.bd C33 ⟨isP_of (p := 53) rfl, pu_eq⟩
          have hz_ := dg_neg (hb_.mono (show 17 ≤ 64 by decide))
          have hR_ : htR f_x e i ↔ dr 1 f_x (up1 (up1 (tpw 1) 1 (ld f_x)) 0 (el k i)) = pz := by unfold htR; rw [if_neg (by omega), if_pos (by omega)]; exact Iff.rfl
          exact ⟨_, by rw [bz_pos (hR_.mpr (hz_.mp (by omega)))], C33, (fun a np_ => ((S33 a np_).trans ((S32 a np_).trans ((S31 a np_).trans (S30 a np_))))), (fun p pnb_ pnq_ pn53_ => ((pu_ne (P := pu (pu P q (up1 (up1 (tpw 1) 1 (ld f_x)) 0 (el k i))) b (dq 1 f_x (up1 (up1 (tpw 1) 1 (ld f_x)) 0 (el k i)))) (f := dr 1 f_x (up1 (up1 (tpw 1) 1 (ld f_x)) 0 (el k i))) (show p ≠ 53 by omega)).trans ((pu_ne (P := pu P q (up1 (up1 (tpw 1) 1 (ld f_x)) 0 (el k i))) (f := dq 1 f_x (up1 (up1 (tpw 1) 1 (ld f_x)) 0 (el k i))) (show p ≠ b by omega)).trans (pu_ne (P := P) (f := up1 (up1 (tpw 1) 1 (ld f_x)) 0 (el k i)) (show p ≠ q by omega))))), fun _ => ⟨(((pu_ne (P := pu (pu P q (up1 (up1 (tpw 1) 1 (ld f_x)) 0 (el k i))) b (dq 1 f_x (up1 (up1 (tpw 1) 1 (ld f_x)) 0 (el k i)))) (f := dr 1 f_x (up1 (up1 (tpw 1) 1 (ld f_x)) 0 (el k i))) (show b ≠ 53 by omega)).trans pu_eq).trans (congrArg some (by unfold htB; rw [if_neg (by omega), if_pos (by omega)]; rfl))), (((pu_ne (P := pu (pu P q (up1 (up1 (tpw 1) 1 (ld f_x)) 0 (el k i))) b (dq 1 f_x (up1 (up1 (tpw 1) 1 (ld f_x)) 0 (el k i)))) (f := dr 1 f_x (up1 (up1 (tpw 1) 1 (ld f_x)) 0 (el k i))) (show q ≠ 53 by omega)).trans ((pu_ne (P := pu P q (up1 (up1 (tpw 1) 1 (ld f_x)) 0 (el k i))) (f := dq 1 f_x (up1 (up1 (tpw 1) 1 (ld f_x)) 0 (el k i))) (show q ≠ b by omega)).trans pu_eq)).trans (congrArg some (by unfold htQ; rw [if_neg (by omega), if_pos (by omega)]; rfl)))⟩⟩
  · refine w_al hK rfl rfl ?_
    refine w_al hK rfl rfl ?_
    refine w_call [(1, b), (1, x)] hK rfl rfl rfl rfl (Or.inr ⟨_, _, _, rfl, hb.nn, hb.lb, hb.o⟩) (c_copy C hb hx) ?_
    rintro _ V34 ⟨rfl, C34, S34⟩
    refine ⟨by decide, (?_ : Wp 198 _ 78 7 [(1, 52), (1, x), (0, (e : Int)), (0, (i : Int)), (1, b), (1, q)] [] V34 _)⟩
    refine w_al hK rfl rfl ?_
    refine w_getr (n := 1) (v := 7) hK rfl rfl (by decide) (by decide) rfl rfl rfl rfl ?_
    refine w_al hK rfl rfl ?_
    refine w_ic hK rfl ?_
    refine w_call [(1, 7), (1, b), (0, 0)] hK rfl rfl rfl rfl (Or.inr ⟨_, _, _, rfl, by decide, (by decide), rfl⟩) (c_mon C34 ⟨hb, pu_eq⟩ 0 (by omega)) ?_
    rintro _ V35 ⟨rfl, C35, S35⟩
    rw [pu_pu (P := P) (p := b) (f := f_x) (g := mon 0 f_x)] at C35
    refine ⟨by decide, (?_ : Wp 198 _ 78 12 [(1, 52), (1, x), (0, (e : Int)), (0, (i : Int)), (1, b), (1, q)] [] V35 _)⟩
    refine w_al hK rfl rfl ?_
    refine w_al hK rfl rfl ?_
    refine w_call [(1, x)] hK rfl rfl rfl rfl (Or.inr ⟨_, _, _, rfl, hx.1.nn, hx.1.lb, hx.1.o⟩) (c_ld C35 ⟨hx.1, ((pu_ne (P := P) (f := mon 0 f_x) (show x ≠ b by omega)).trans hx.2)⟩) ?_
    rintro _ Mq ⟨rfl, e_⟩
    subst Mq
    have bv_ := el_I (ld f_x)
    refine ⟨by show (0 : Nat) ≠ 9; decide, (?_ : Wp 198 _ 78 15 [(1, 52), (1, x), (0, (e : Int)), (0, (i : Int)), (1, b), (1, q)] [(0, ((ld f_x).val : Int)), (1, q)] V35 _)⟩
    refine w_call [(1, q), (0, ((ld f_x).val : Int))] hK rfl rfl rfl rfl (Or.inr ⟨_, _, _, rfl, hq.nn, hq.lb, hq.o⟩) (c_bec C35 hq (ld f_x)) ?_
    rintro _ V36 ⟨rfl, C36, S36⟩
    refine ⟨by decide, (?_ : Wp 198 _ 78 16 [(1, 52), (1, x), (0, (e : Int)), (0, (i : Int)), (1, b), (1, q)] [] V36 _)⟩
    refine w_ic hK rfl ?_
    refine w_zret hK rfl rfl (Or.inr rfl) ?_
    have hR_ : htR f_x e i := by unfold htR; rw [if_pos (by omega)]; trivial
    exact ⟨_, by rw [bz_pos hR_], C36, (fun a np_ => ((S36 a np_).trans ((S35 a np_).trans (S34 a np_)))), (fun p pnb_ pnq_ pn53_ => ((pu_ne (P := pu P b (mon 0 f_x)) (f := cst (ld f_x)) (show p ≠ q by omega)).trans (pu_ne (P := P) (f := mon 0 f_x) (show p ≠ b by omega)))), fun _ => ⟨((pu_ne (P := pu P b (mon 0 f_x)) (f := cst (ld f_x)) (show b ≠ q by omega)).trans pu_eq).trans (congrArg some (by unfold htB; rw [if_pos (by omega)])), pu_eq.trans (congrArg some (by unfold htQ; rw [if_pos (by omega)]))⟩⟩
