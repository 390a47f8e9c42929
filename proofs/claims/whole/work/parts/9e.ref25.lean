/-! the reference's call ways */ -/
theorem wyG_I {k n m d : Nat} {x : Pl k} (hx : IsDg x (n : Int)) (hb : Bd x 17) (h1 : 1 ≤ d) (h4 : n ≤ 4) (c : Nat) : 0 ≤ wyG m x d c ∧ wyG m x d c ≤ 1536 := by
  unfold wyG
  split
  · omega
  · rename_i q
    obtain ⟨_, q2, q3, _⟩ := mdq hx hb mnp_mn (bz_yes q)
    have hq : Bd (dq 0 x (mnp d c)) 17 := (Bd_is q3).mono (by omega)
    have := wyC_le m _ hq
    have := dg_eq17 hq q3
    split <;> omega
/-- what the degrees below add -/
noncomputable def wyS {k : Nat} (m : Nat) (x : Pl k) (t : Nat) : Int := sI (fun d => sI (wyF m x (d + 1)) (trN k (dg x) ((d + 1 : Nat) : Int))) t
theorem wyS_I {k n m t : Nat} {x : Pl k} (hx : IsDg x (n : Int)) (hb : Bd x 17) (h4 : n ≤ 4) (ht : t ≤ n) : 0 ≤ wyS m x t ∧ wyS m x t ≤ 402653184 := by
  have h := sI_le (f := fun d => sI (wyF m x (d + 1)) (trN k (dg x) ((d + 1 : Nat) : Int))) (B := 100663296) (n := t) (fun d hd => by
    have e := wy_sum (m := m) (d := d + 1) hx hb (by omega) h4
    show 0 ≤ sI (wyF m x (d + 1)) (trN k (dg x) ((d + 1 : Nat) : Int)) ∧ sI (wyF m x (d + 1)) (trN k (dg x) ((d + 1 : Nat) : Int)) ≤ _
    rw [e]
    have h2 := sI_le (f := wyG m x (d + 1)) (B := 1536) (n := unq k (d + 1)) (fun c _ => wyG_I hx hb (by omega) h4 c)
    have h3 := unq_4 (k := k) (s := d + 1) (by omega)
    omega)
  unfold wyS
  omega
theorem wyS_s {k m t : Nat} {x : Pl k} : wyS m x (t + 1) = wyS m x t + sI (wyF m x (t + 1)) (trN k (dg x) ((t + 1 : Nat) : Int)) := rfl
theorem wyG_0 {k m d c : Nat} {x : Pl k} (h : bz (dr 0 x (mnp d c) = pz) = 0) : wyG m x d c = 0 := if_pos h
theorem wyG_1 {k m d c : Nat} {x : Pl k} (h : ¬ bz (dr 0 x (mnp d c) = pz) = 0) (h2 : bz (prM (mnp (k := k) d c)) = 0) : wyG m x d c = 0 := (if_neg h).trans (if_pos h2)
theorem wyG_2 {k m d c : Nat} {x : Pl k} (h : ¬ bz (dr 0 x (mnp d c) = pz) = 0) (h2 : ¬ bz (prM (mnp (k := k) d c)) = 0) : wyG m x d c = wyC m (dq 0 x (mnp d c)) := (if_neg h).trans (if_neg h2)
theorem wyG_bd {k n m d c : Nat} {x : Pl k} (hx : IsDg x (n : Int)) (hb : Bd x 17) (h1 : 1 ≤ d) (h4 : n ≤ 4) (hd : d ≤ 4) (hc : c ≤ unq k d) : 0 ≤ sI (wyG m x d) c ∧ sI (wyG m x d) c ≤ 100663296 := by
  have h2 := sI_le (f := wyG m x d) (B := 1536) (n := c) (fun c _ => wyG_I hx hb h1 h4 c)
  have h3 := unq_4 (k := k) (s := d) hd
  omega
theorem dr_self {k n : Nat} {x : Pl k} (h : IsDg x (n : Int)) : dr 0 x x = pz := (mdv (n := 0) (q := one) (m := 1) h (fun j hj => if_neg (by omega)) (one_mlp _).symm).2
set_option maxRecDepth 100000 in
theorem r_left4 {d : Nat} {M : Mem} : Ct 198 (d) 289 [(1, 161), (0, 4)] M (fun r_ M' => r_ = (1, 194) ∧ M' = M) := by
  have hK : cd 289 = k289 := rfl
  show Wp 198 _ 289 0 [(1, 161), (0, 4)] [] M _
  refine w_il hK rfl rfl ?_
  refine w_ic hK rfl ?_
  refine w_ne2 hK rfl (by omega) (by omega) (by omega) (by omega) (fun h2 => ?_) (fun h2 => ?_)
  · refine w_il hK rfl rfl ?_
    refine w_ic hK rfl ?_
    refine w_ne2 hK rfl (by omega) (by omega) (by omega) (by omega) (fun h8 => ?_) (fun h8 => ?_)
    · refine w_il hK rfl rfl ?_
      refine w_ic hK rfl ?_
      refine w_ne2 hK rfl (by omega) (by omega) (by omega) (by omega) (fun h14 => ?_) (fun h14 => ?_)
      · refine w_al hK rfl rfl ?_
        refine w_getr (n := 42) (v := 194) hK rfl rfl (by decide) (by decide) rfl rfl rfl rfl ?_
        refine w_aret hK rfl rfl ?_
        exact ⟨rfl, rfl⟩
      · exfalso; omega
    · exfalso; omega
  · exfalso; omega
set_option maxRecDepth 100000 in
theorem r_left3 {d : Nat} {M : Mem} : Ct 198 (d) 289 [(1, 161), (0, 3)] M (fun r_ M' => r_ = (1, 193) ∧ M' = M) := by
  have hK : cd 289 = k289 := rfl
  show Wp 198 _ 289 0 [(1, 161), (0, 3)] [] M _
  refine w_il hK rfl rfl ?_
  refine w_ic hK rfl ?_
  refine w_ne2 hK rfl (by omega) (by omega) (by omega) (by omega) (fun h2 => ?_) (fun h2 => ?_)
  · refine w_il hK rfl rfl ?_
    refine w_ic hK rfl ?_
    refine w_ne2 hK rfl (by omega) (by omega) (by omega) (by omega) (fun h8 => ?_) (fun h8 => ?_)
    · refine w_il hK rfl rfl ?_
      refine w_ic hK rfl ?_
      refine w_ne2 hK rfl (by omega) (by omega) (by omega) (by omega) (fun h14 => ?_) (fun h14 => ?_)
      · exfalso; omega
      · refine w_al hK rfl rfl ?_
        refine w_getr (n := 41) (v := 193) hK rfl rfl (by decide) (by decide) rfl rfl rfl rfl ?_
        refine w_goto hK rfl ?_
        refine w_aret hK rfl rfl ?_
        exact ⟨rfl, rfl⟩
    · exfalso; omega
  · exfalso; omega
set_option maxRecDepth 100000 in
theorem r_left2 {d : Nat} {M : Mem} : Ct 198 (d) 289 [(1, 161), (0, 2)] M (fun r_ M' => r_ = (1, 192) ∧ M' = M) := by
  have hK : cd 289 = k289 := rfl
  show Wp 198 _ 289 0 [(1, 161), (0, 2)] [] M _
  refine w_il hK rfl rfl ?_
  refine w_ic hK rfl ?_
  refine w_ne2 hK rfl (by omega) (by omega) (by omega) (by omega) (fun h2 => ?_) (fun h2 => ?_)
  · refine w_il hK rfl rfl ?_
    refine w_ic hK rfl ?_
    refine w_ne2 hK rfl (by omega) (by omega) (by omega) (by omega) (fun h8 => ?_) (fun h8 => ?_)
    · exfalso; omega
    · refine w_al hK rfl rfl ?_
      refine w_getr (n := 40) (v := 192) hK rfl rfl (by decide) (by decide) rfl rfl rfl rfl ?_
      refine w_goto hK rfl ?_
      refine w_aret hK rfl rfl ?_
      exact ⟨rfl, rfl⟩
  · exfalso; omega
set_option maxRecDepth 100000 in
theorem r_left1 {d : Nat} {M : Mem} : Ct 198 (d) 289 [(1, 161), (0, 1)] M (fun r_ M' => r_ = (1, 191) ∧ M' = M) := by
  have hK : cd 289 = k289 := rfl
  show Wp 198 _ 289 0 [(1, 161), (0, 1)] [] M _
  refine w_il hK rfl rfl ?_
  refine w_ic hK rfl ?_
  refine w_ne2 hK rfl (by omega) (by omega) (by omega) (by omega) (fun h2 => ?_) (fun h2 => ?_)
  · exfalso; omega
  · refine w_al hK rfl rfl ?_
    refine w_getr (n := 39) (v := 191) hK rfl rfl (by decide) (by decide) rfl rfl rfl rfl ?_
    refine w_goto hK rfl ?_
    refine w_aret hK rfl rfl ?_
    exact ⟨rfl, rfl⟩
set_option maxRecDepth 100000 in
theorem r_wy5 {d : Nat} {M : Mem} {k : Nat} {R : Int → Option (Pl k)} (C : RS M k R) {f_x : Pl k} (hx : R 194 = some f_x) {n : Nat} (hm : Mn f_x n) (hn : n ≤ 0) : Ct 198 (d + 6) 288 [(1, 161), (1, 194), (0, 5)] M (fun r_ M' => ∃ R' : Int → Option (Pl k), r_ = (0, wyC 0 f_x) ∧ RS M' k R' ∧ (∀ a : Int, (∀ p : Int, isR p → a ≠ p) → M' a = M a) ∧ (∀ p : Int, p ≠ 170 → p ≠ 171 → p ≠ 172 → p ≠ 173 → p ≠ 174 → p ≠ 188 → p ≠ 195 → R' p = R p)) := by
  have hK : cd 288 = k288 := rfl
  have dn_ : dg f_x = (n : Int) := hm.dg (by omega)
  have bx17 : Bd f_x 17 := (Bd_is hm.1).mono (by omega)
  have bx9 : Bd f_x 9 := (Bd_is hm.1).mono (by omega)
  show Wp 198 _ 288 0 [(1, 161), (1, 194), (0, 5), (3, 0), (3, 0), (3, 0), (3, 0)] [] M _
  refine w_al hK rfl rfl ?_
  have dI_ : -1 ≤ dg f_x ∧ dg f_x ≤ 47 := C.dI (show isK R 194 f_x from ⟨isR_of (p := 194) rfl, hx⟩)
  refine w_call [(1, 194)] hK rfl rfl rfl rfl (Or.inl rfl) (r_deg C (show isK R 194 f_x from ⟨isR_of (p := 194) rfl, hx⟩)) ?_
  rintro _ Mq ⟨rfl, e_⟩
  subst Mq
  refine ⟨by show (0 : Nat) ≠ 9; decide, (?_ : Wp 198 _ 288 2 [(1, 161), (1, 194), (0, 5), (3, 0), (3, 0), (3, 0), (3, 0)] [(0, (dg f_x))] M _)⟩
  rw [dn_]
  refine w_is [(1, 161), (1, 194), (0, 5), (0, (n : Int)), (3, 0), (3, 0), (3, 0)] hK rfl rfl rfl ?_
  refine w_il hK rfl rfl ?_
  refine w_ne hK rfl (by omega) (by omega) (fun h4 => ?_) (fun h4 => ?_)
  · exfalso; omega
  · refine w_ic hK rfl ?_
    refine w_iret hK rfl rfl ?_
    exact ⟨_, congrArg (Prod.mk 0) (wy_0 (by omega)).symm, C, (fun a nr_ => rfl), (fun p pn170_ pn171_ pn172_ pn173_ pn174_ pn188_ pn195_ => rfl)⟩
set_option maxRecDepth 100000 in
theorem r_wy4 {d : Nat} {M : Mem} {k : Nat} {R : Int → Option (Pl k)} (C : RS M k R) {f_x : Pl k} (hx : R 193 = some f_x) {n : Nat} (hm : Mn f_x n) (hn : n ≤ 1) : Ct 198 (d + 7) 288 [(1, 161), (1, 193), (0, 4)] M (fun r_ M' => ∃ R' : Int → Option (Pl k), r_ = (0, wyC 1 f_x) ∧ RS M' k R' ∧ (∀ a : Int, (∀ p : Int, isR p → a ≠ p) → M' a = M a) ∧ (∀ p : Int, p ≠ 170 → p ≠ 171 → p ≠ 172 → p ≠ 173 → p ≠ 174 → p ≠ 188 → p ≠ 195 → p ≠ 194 → R' p = R p)) := by
  have hK : cd 288 = k288 := rfl
  have dn_ : dg f_x = (n : Int) := hm.dg (by omega)
  have bx17 : Bd f_x 17 := (Bd_is hm.1).mono (by omega)
  have bx9 : Bd f_x 9 := (Bd_is hm.1).mono (by omega)
  show Wp 198 _ 288 0 [(1, 161), (1, 193), (0, 4), (3, 0), (3, 0), (3, 0), (3, 0)] [] M _
  refine w_al hK rfl rfl ?_
  have dI_ : -1 ≤ dg f_x ∧ dg f_x ≤ 47 := C.dI (show isK R 193 f_x from ⟨isR_of (p := 193) rfl, hx⟩)
  refine w_call [(1, 193)] hK rfl rfl rfl rfl (Or.inl rfl) (r_deg C (show isK R 193 f_x from ⟨isR_of (p := 193) rfl, hx⟩)) ?_
  rintro _ Mq ⟨rfl, e_⟩
  subst Mq
  refine ⟨by show (0 : Nat) ≠ 9; decide, (?_ : Wp 198 _ 288 2 [(1, 161), (1, 193), (0, 4), (3, 0), (3, 0), (3, 0), (3, 0)] [(0, (dg f_x))] M _)⟩
  rw [dn_]
  refine w_is [(1, 161), (1, 193), (0, 4), (0, (n : Int)), (3, 0), (3, 0), (3, 0)] hK rfl rfl rfl ?_
  refine w_il hK rfl rfl ?_
  refine w_ne hK rfl (by omega) (by omega) (fun h4 => ?_) (fun h4 => ?_)
  · have n1_ : 1 ≤ n := by omega
    refine w_ic hK rfl ?_
    refine w_is [(1, 161), (1, 193), (0, 4), (0, (n : Int)), (0, 0), (3, 0), (3, 0)] hK rfl rfl rfl ?_
    refine w_ic hK rfl ?_
    refine w_is [(1, 161), (1, 193), (0, 4), (0, (n : Int)), (0, 0), (0, 1), (3, 0)] hK rfl rfl rfl ?_
    have lp11 : ∀ (n_ : Nat) (t : Nat) (R1 : Int → Option (Pl k)) (w6 : AV) (N11 : Mem), 5 - t = n_ → (t ≤ n) → (RS N11 k R1) → ((∀ p : Int, p ≠ 170 → p ≠ 171 → p ≠ 172 → p ≠ 173 → p ≠ 174 → p ≠ 188 → p ≠ 195 → p ≠ 194 → R1 p = R p)) → ((∀ a : Int, (∀ p : Int, isR p → a ≠ p) → N11 a = M a)) → Wp 198 (d + 7) 288 11 [(1, 161), (1, 193), (0, 4), (0, (n : Int)), (0, (wyS 0 f_x t)), (0, (((t + 1) : Nat) : Int)), w6] [] N11 (fun r_ M' => ∃ R' : Int → Option (Pl k), r_ = (0, wyC 1 f_x) ∧ RS M' k R' ∧ (∀ a : Int, (∀ p : Int, isR p → a ≠ p) → M' a = M a) ∧ (∀ p : Int, p ≠ 170 → p ≠ 171 → p ≠ 172 → p ≠ 173 → p ≠ 174 → p ≠ 188 → p ≠ 195 → p ≠ 194 → R' p = R p)) := by
      intro n_
      induction n_ using Nat.strongRecOn with
      | _ n_ ih11 =>
      intro t R1 w6 N11 hm11 ht hC hG hS
      have sb_ := wyS_I (m := 0) hm.1 bx17 (by omega) ht
      have u4_ : t < 4 → 4 ≤ unq k (t + 1) ∧ unq k (t + 1) ≤ 65536 := fun _ => ⟨by rw [unq_s]; have := unq_pos k t; have := qq_ge k; have := Nat.mul_le_mul_right (qq k) (show 1 ≤ unq k t by omega); omega, (unq_4 (by omega)).1⟩
      refine w_il hK rfl rfl ?_
      refine w_il hK rfl rfl ?_
      refine w_gt2 hK rfl (by omega) (by omega) (by omega) (by omega) (fun h13 => ?_) (fun h13 => ?_)
      · refine w_il hK rfl rfl ?_
        refine w_iret hK rfl rfl ?_
        exact ⟨_, congrArg (Prod.mk 0) (by rw [show t = n by omega]; exact (wy_all hm.1 bx17 n1_ (by omega) hm).symm), hC, (fun a nr_ => (hS a nr_)), (fun p pn170_ pn171_ pn172_ pn173_ pn174_ pn188_ pn195_ pn194_ => (hG p pn170_ pn171_ pn172_ pn173_ pn174_ pn188_ pn195_ pn194_))⟩
      · refine w_ic hK rfl ?_
        refine w_is [(1, 161), (1, 193), (0, 4), (0, (n : Int)), (0, (wyS 0 f_x t)), (0, (((t + 1) : Nat) : Int)), (0, 0)] hK rfl rfl rfl ?_
        by_cases hen_ : t + 1 = n
        · refine w_il hK rfl rfl ?_
          refine w_al hK rfl rfl ?_
          refine w_il hK rfl rfl ?_
          refine w_call [(1, 161), (0, (((t + 1) : Nat) : Int))] hK rfl rfl rfl rfl (Or.inr ⟨_, _, _, rfl, by decide, (by decide), rfl⟩) (r_count hC.F ((t + 1)) (by omega)) ?_
          rintro _ Mq ⟨rfl, e_⟩
          subst Mq
          refine ⟨by show (0 : Nat) ≠ 9; decide, (?_ : Wp 198 _ 288 20 [(1, 161), (1, 193), (0, 4), (0, (n : Int)), (0, (wyS 0 f_x t)), (0, (((t + 1) : Nat) : Int)), (0, 0)] [(0, (unq k ((t + 1)) : Int)), (0, 0)] N11 _)⟩
          refine w_ge2 hK rfl (by omega) (by omega) (by omega) (by omega) (fun h20 => ?_) (fun h20 => ?_)
          · exfalso; omega
          · refine w_il hK rfl rfl ?_
            refine w_il hK rfl rfl ?_
            refine w_ne2 hK rfl (by omega) (by omega) (by omega) (by omega) (fun h23 => ?_) (fun h23 => ?_)
            · exfalso; omega
            · refine w_il hK rfl rfl ?_
              refine w_le hK rfl (by omega) (by omega) (fun h25 => ?_) (fun h25 => ?_)
              · refine w_il hK rfl rfl ?_
                refine w_il hK rfl rfl ?_
                refine w_ne2 hK rfl (by omega) (by omega) (by omega) (by omega) (fun h29 => ?_) (fun h29 => ?_)
                · exfalso; omega
                · refine w_al hK rfl rfl ?_
                  refine w_al hK rfl rfl ?_
                  refine w_getr (n := 43) (v := 195) hK rfl rfl (by decide) (by decide) rfl rfl rfl rfl ?_
                  refine w_call [(1, 193), (1, 195)] hK rfl rfl rfl rfl (Or.inl rfl) (r_copy hC ⟨(isR_of (p := 193) rfl), ((hG 193 (by omega) (by omega) (by omega) (by omega) (by omega) (by omega) (by omega) (by omega)).trans (show isK R 193 f_x from ⟨isR_of (p := 193) rfl, hx⟩).2)⟩ (isR_of (p := 195) rfl) (by omega)) ?_
                  rintro _ V702 ⟨P702, rfl, C702, S702, F702, f702_0⟩
                  refine ⟨by decide, (?_ : Wp 198 _ 288 34 [(1, 161), (1, 193), (0, 4), (0, (n : Int)), (0, (wyS 0 f_x t)), (0, (((t + 1) : Nat) : Int)), (0, 0)] [] V702 _)⟩
                  refine w_goto hK rfl ?_
                  refine w_al hK rfl rfl ?_
                  refine w_al hK rfl rfl ?_
                  refine w_al hK rfl rfl ?_
                  refine w_getr (n := 43) (v := 195) hK rfl rfl (by decide) (by decide) rfl rfl rfl rfl ?_
                  refine w_ic hK rfl ?_
                  refine w_call [(1, 161), (1, 193), (1, 195), (0, 0)] hK rfl rfl rfl rfl (Or.inr ⟨_, _, _, rfl, by decide, (by decide), rfl⟩) (r_isdv C702 ⟨(isR_of (p := 193) rfl), ((F702 193 (by omega)).trans ((hG 193 (by omega) (by omega) (by omega) (by omega) (by omega) (by omega) (by omega) (by omega)).trans (show isK R 193 f_x from ⟨isR_of (p := 193) rfl, hx⟩).2))⟩ ⟨(isR_of (p := 195) rfl), f702_0⟩ 0 (by omega) (by omega) (by omega) (by omega) bx17 bx17) ?_
                  rintro _ V703 ⟨P703, rfl, C703, S703, F703, f703_0, f703_1⟩
                  have bv_ := bz_01 (dr 0 f_x f_x = pz)
                  refine ⟨by show (0 : Nat) ≠ 9; decide, (?_ : Wp 198 _ 288 47 [(1, 161), (1, 193), (0, 4), (0, (n : Int)), (0, (wyS 0 f_x t)), (0, (((t + 1) : Nat) : Int)), (0, 0)] [(0, (bz (dr 0 f_x f_x = pz)))] V703 _)⟩
                  have md_ : bz (dr 0 f_x f_x = pz) ≠ 0 → Mn (dq 0 f_x f_x) (n - (t + 1)) ∧ Bd (dq 0 f_x f_x) 17 := fun q_ => by
                    have md_ := mdq hm.1 bx17 (d := t + 1) (g := f_x) (by rw [hen_]; exact hm) (bz_yes q_)
                    exact ⟨⟨md_.2.2.1, md_.2.2.2.trans hm.2⟩, (Bd_is md_.2.2.1).mono (by omega)⟩
                  refine w_ne hK rfl (by omega) (by omega) (fun h47 => ?_) (fun h47 => ?_)
                  · obtain ⟨mq_, bq_⟩ := md_ (by omega)
                    have dq_ := mq_.dg (by omega)
                    refine w_al hK rfl rfl ?_
                    refine w_getr (n := 20) (v := 174) hK rfl rfl (by decide) (by decide) rfl rfl rfl rfl ?_
                    refine w_al hK rfl rfl ?_
                    refine w_il hK rfl rfl ?_
                    refine w_call [(1, 161), (0, 4)] hK rfl rfl rfl rfl (Or.inr ⟨_, _, _, rfl, by decide, (by decide), rfl⟩) (r_left4) ?_
                    rintro _ Mq ⟨rfl, e_⟩
                    subst Mq
                    refine ⟨by show (1 : Nat) ≠ 9; decide, (?_ : Wp 198 _ 288 54 [(1, 161), (1, 193), (0, 4), (0, (n : Int)), (0, (wyS 0 f_x t)), (0, (((t + 1) : Nat) : Int)), (0, 0)] [(1, 194), (1, 174)] V703 _)⟩
                    refine w_call [(1, 174), (1, 194)] hK rfl rfl rfl rfl (Or.inl rfl) (r_copy C703 ⟨(isR_of (p := 174) rfl), f703_1⟩ (isR_of (p := 194) rfl) (by omega)) ?_
                    rintro _ V704 ⟨P704, rfl, C704, S704, F704, f704_0⟩
                    refine ⟨by decide, (?_ : Wp 198 _ 288 55 [(1, 161), (1, 193), (0, 4), (0, (n : Int)), (0, (wyS 0 f_x t)), (0, (((t + 1) : Nat) : Int)), (0, 0)] [] V704 _)⟩
                    refine w_al hK rfl rfl ?_
                    refine w_al hK rfl rfl ?_
                    refine w_getr (n := 43) (v := 195) hK rfl rfl (by decide) (by decide) rfl rfl rfl rfl ?_
                    refine w_call [(1, 161), (1, 195)] hK rfl rfl rfl rfl (Or.inr ⟨_, _, _, rfl, by decide, (by decide), rfl⟩) (r_isP C704 ⟨(isR_of (p := 195) rfl), ((F704 195 (by omega)).trans ((F703 195 (by omega) (by omega) (by omega) (by omega) (by omega)).trans f702_0))⟩ (by omega) (by omega) bx9) ?_
                    rintro _ V705 ⟨P705, rfl, C705, S705, F705⟩
                    have bv_ := bz_01 (prM f_x)
                    refine ⟨by show (0 : Nat) ≠ 9; decide, (?_ : Wp 198 _ 288 59 [(1, 161), (1, 193), (0, 4), (0, (n : Int)), (0, (wyS 0 f_x t)), (0, (((t + 1) : Nat) : Int)), (0, 0)] [(0, (bz (prM f_x)))] V705 _)⟩
                    refine w_eq hK rfl (by omega) (by omega) (fun h59 => ?_) (fun h59 => ?_)
                    · refine w_inc [(1, 161), (1, 193), (0, 4), (0, (n : Int)), (0, (wyS 0 f_x t)), (0, (((t + 1) : Nat) : Int)), (0, 1)] hK rfl rfl rfl (by omega) (by omega) rfl ?_
                      refine w_goto hK rfl ?_
                      refine w_il hK rfl rfl ?_
                      refine w_al hK rfl rfl ?_
                      refine w_il hK rfl rfl ?_
                      refine w_call [(1, 161), (0, (((t + 1) : Nat) : Int))] hK rfl rfl rfl rfl (Or.inr ⟨_, _, _, rfl, by decide, (by decide), rfl⟩) (r_count C705.F ((t + 1)) (by omega)) ?_
                      rintro _ Mq ⟨rfl, e_⟩
                      subst Mq
                      refine ⟨by show (0 : Nat) ≠ 9; decide, (?_ : Wp 198 _ 288 20 [(1, 161), (1, 193), (0, 4), (0, (n : Int)), (0, (wyS 0 f_x t)), (0, (((t + 1) : Nat) : Int)), (0, 1)] [(0, (unq k ((t + 1)) : Int)), (0, 1)] V705 _)⟩
                      refine w_ge2 hK rfl (by omega) (by omega) (by omega) (by omega) (fun h20 => ?_) (fun h20 => ?_)
                      · exfalso; omega
                      · refine w_il hK rfl rfl ?_
                        refine w_il hK rfl rfl ?_
                        refine w_ne2 hK rfl (by omega) (by omega) (by omega) (by omega) (fun h23 => ?_) (fun h23 => ?_)
                        · exfalso; omega
                        · refine w_il hK rfl rfl ?_
                          refine w_le hK rfl (by omega) (by omega) (fun h25 => ?_) (fun h25 => ?_)
                          · exfalso; omega
                          · refine w_goto hK rfl ?_
                            refine w_inc [(1, 161), (1, 193), (0, 4), (0, (n : Int)), (0, (wyS 0 f_x t)), (0, ((((t + 1) : Nat) : Int) + 1)), (0, 1)] hK rfl rfl rfl (by omega) (by omega) rfl ?_
                            refine w_goto hK rfl ?_
                            have et_ : sI (wyF 0 f_x (t + 1)) (trN k (dg f_x) ((t + 1 : Nat) : Int)) = bz (prM f_x) := by rw [hen_]; exact wy_top hm.1 bx17 n1_ (by omega) hm
                            have es_ := wyS_s (m := 0) (x := f_x) (t := t)
                            rw [show (wyS 0 f_x t) = (wyS 0 f_x (t + 1)) by omega]
                            exact ih11 _ (by omega) (t + 1) _ (0, 1) V705 rfl (by omega) C705 (fun p pn170_ pn171_ pn172_ pn173_ pn174_ pn188_ pn195_ pn194_ => ((F705 p pn170_ pn171_ pn172_ pn173_ pn174_ pn188_).trans ((F704 p pn194_).trans ((F703 p pn170_ pn171_ pn172_ pn173_ pn174_).trans ((F702 p pn195_).trans (hG p pn170_ pn171_ pn172_ pn173_ pn174_ pn188_ pn195_ pn194_)))))) (fun a nr_ => ((S705 a nr_).trans ((S704 a nr_).trans ((S703 a nr_).trans ((S702 a nr_).trans (hS a nr_))))))
                    · refine w_il hK rfl rfl ?_
                      refine w_al hK rfl rfl ?_
                      refine w_al hK rfl rfl ?_
                      refine w_il hK rfl rfl ?_
                      refine w_call [(1, 161), (0, 4)] hK rfl rfl rfl rfl (Or.inr ⟨_, _, _, rfl, by decide, (by decide), rfl⟩) (r_left4) ?_
                      rintro _ Mq ⟨rfl, e_⟩
                      subst Mq
                      refine ⟨by show (1 : Nat) ≠ 9; decide, (?_ : Wp 198 _ 288 65 [(1, 161), (1, 193), (0, 4), (0, (n : Int)), (0, (wyS 0 f_x t)), (0, (((t + 1) : Nat) : Int)), (0, 0)] [(1, 194), (1, 161), (0, (wyS 0 f_x t))] V705 _)⟩
                      refine w_il hK rfl rfl ?_
                      refine w_ic hK rfl ?_
                      refine w_add hK rfl (by omega) (by omega) ?_
                      have wb_ := wyC_le 0 (dq 0 f_x f_x) bq_
                      refine w_call [(1, 161), (1, 194), (0, (4 + 1))] hK rfl rfl rfl rfl (Or.inr ⟨_, _, _, rfl, by decide, (by decide), rfl⟩) (r_wy5 C705 ((F705 194 (by omega) (by omega) (by omega) (by omega) (by omega) (by omega)).trans f704_0) mq_ (by omega)) ?_
                      rintro _ V706 ⟨P706, rfl, C706, S706, F706⟩
                      refine ⟨by show (0 : Nat) ≠ 9; decide, (?_ : Wp 198 _ 288 69 [(1, 161), (1, 193), (0, 4), (0, (n : Int)), (0, (wyS 0 f_x t)), (0, (((t + 1) : Nat) : Int)), (0, 0)] [(0, (wyC 0 (dq 0 f_x f_x))), (0, (wyS 0 f_x t))] V706 _)⟩
                      refine w_add hK rfl (by omega) (by omega) ?_
                      refine w_is [(1, 161), (1, 193), (0, 4), (0, (n : Int)), (0, ((wyS 0 f_x t) + (wyC 0 (dq 0 f_x f_x)))), (0, (((t + 1) : Nat) : Int)), (0, 0)] hK rfl rfl rfl ?_
                      refine w_inc [(1, 161), (1, 193), (0, 4), (0, (n : Int)), (0, ((wyS 0 f_x t) + (wyC 0 (dq 0 f_x f_x)))), (0, (((t + 1) : Nat) : Int)), (0, 1)] hK rfl rfl rfl (by omega) (by omega) rfl ?_
                      refine w_goto hK rfl ?_
                      refine w_il hK rfl rfl ?_
                      refine w_al hK rfl rfl ?_
                      refine w_il hK rfl rfl ?_
                      refine w_call [(1, 161), (0, (((t + 1) : Nat) : Int))] hK rfl rfl rfl rfl (Or.inr ⟨_, _, _, rfl, by decide, (by decide), rfl⟩) (r_count C706.F ((t + 1)) (by omega)) ?_
                      rintro _ Mq ⟨rfl, e_⟩
                      subst Mq
                      refine ⟨by show (0 : Nat) ≠ 9; decide, (?_ : Wp 198 _ 288 20 [(1, 161), (1, 193), (0, 4), (0, (n : Int)), (0, ((wyS 0 f_x t) + (wyC 0 (dq 0 f_x f_x)))), (0, (((t + 1) : Nat) : Int)), (0, 1)] [(0, (unq k ((t + 1)) : Int)), (0, 1)] V706 _)⟩
                      refine w_ge2 hK rfl (by omega) (by omega) (by omega) (by omega) (fun h20 => ?_) (fun h20 => ?_)
                      · exfalso; omega
                      · refine w_il hK rfl rfl ?_
                        refine w_il hK rfl rfl ?_
                        refine w_ne2 hK rfl (by omega) (by omega) (by omega) (by omega) (fun h23 => ?_) (fun h23 => ?_)
                        · exfalso; omega
                        · refine w_il hK rfl rfl ?_
                          refine w_le hK rfl (by omega) (by omega) (fun h25 => ?_) (fun h25 => ?_)
                          · exfalso; omega
                          · refine w_goto hK rfl ?_
                            refine w_inc [(1, 161), (1, 193), (0, 4), (0, (n : Int)), (0, ((wyS 0 f_x t) + (wyC 0 (dq 0 f_x f_x)))), (0, ((((t + 1) : Nat) : Int) + 1)), (0, 1)] hK rfl rfl rfl (by omega) (by omega) rfl ?_
                            refine w_goto hK rfl ?_
                            have et_ : sI (wyF 0 f_x (t + 1)) (trN k (dg f_x) ((t + 1 : Nat) : Int)) = bz (prM f_x) := by rw [hen_]; exact wy_top hm.1 bx17 n1_ (by omega) hm
                            have w0_ := wy_0 (m := 0) (x := dq 0 f_x f_x) (by omega)
                            have es_ := wyS_s (m := 0) (x := f_x) (t := t)
                            rw [show ((wyS 0 f_x t) + (wyC 0 (dq 0 f_x f_x))) = (wyS 0 f_x (t + 1)) by omega]
                            exact ih11 _ (by omega) (t + 1) _ (0, 1) V706 rfl (by omega) C706 (fun p pn170_ pn171_ pn172_ pn173_ pn174_ pn188_ pn195_ pn194_ => ((F706 p pn170_ pn171_ pn172_ pn173_ pn174_ pn188_ pn195_).trans ((F705 p pn170_ pn171_ pn172_ pn173_ pn174_ pn188_).trans ((F704 p pn194_).trans ((F703 p pn170_ pn171_ pn172_ pn173_ pn174_).trans ((F702 p pn195_).trans (hG p pn170_ pn171_ pn172_ pn173_ pn174_ pn188_ pn195_ pn194_))))))) (fun a nr_ => ((S706 a nr_).trans ((S705 a nr_).trans ((S704 a nr_).trans ((S703 a nr_).trans ((S702 a nr_).trans (hS a nr_)))))))
                  · refine w_goto hK rfl ?_
                    refine w_inc [(1, 161), (1, 193), (0, 4), (0, (n : Int)), (0, (wyS 0 f_x t)), (0, (((t + 1) : Nat) : Int)), (0, 1)] hK rfl rfl rfl (by omega) (by omega) rfl ?_
                    refine w_goto hK rfl ?_
                    refine w_il hK rfl rfl ?_
                    refine w_al hK rfl rfl ?_
                    refine w_il hK rfl rfl ?_
                    refine w_call [(1, 161), (0, (((t + 1) : Nat) : Int))] hK rfl rfl rfl rfl (Or.inr ⟨_, _, _, rfl, by decide, (by decide), rfl⟩) (r_count C703.F ((t + 1)) (by omega)) ?_
                    rintro _ Mq ⟨rfl, e_⟩
                    subst Mq
                    refine ⟨by show (0 : Nat) ≠ 9; decide, (?_ : Wp 198 _ 288 20 [(1, 161), (1, 193), (0, 4), (0, (n : Int)), (0, (wyS 0 f_x t)), (0, (((t + 1) : Nat) : Int)), (0, 1)] [(0, (unq k ((t + 1)) : Int)), (0, 1)] V703 _)⟩
                    refine w_ge2 hK rfl (by omega) (by omega) (by omega) (by omega) (fun h20 => ?_) (fun h20 => ?_)
                    · exfalso; omega
                    · refine w_il hK rfl rfl ?_
                      refine w_il hK rfl rfl ?_
                      refine w_ne2 hK rfl (by omega) (by omega) (by omega) (by omega) (fun h23 => ?_) (fun h23 => ?_)
                      · exfalso; omega
                      · refine w_il hK rfl rfl ?_
                        refine w_le hK rfl (by omega) (by omega) (fun h25 => ?_) (fun h25 => ?_)
                        · exfalso; omega
                        · refine w_goto hK rfl ?_
                          refine w_inc [(1, 161), (1, 193), (0, 4), (0, (n : Int)), (0, (wyS 0 f_x t)), (0, ((((t + 1) : Nat) : Int) + 1)), (0, 1)] hK rfl rfl rfl (by omega) (by omega) rfl ?_
                          refine w_goto hK rfl ?_
                          exact absurd (dr_self hm.1) (bz_no (by omega))
              · exfalso; omega
        · have lp16 : ∀ (n_ : Nat) (c : Nat) (R2 : Int → Option (Pl k)) (N16 : Mem), 65537 - c = n_ → (c ≤ unq k (t + 1)) → (RS N16 k R2) → ((∀ p : Int, p ≠ 170 → p ≠ 171 → p ≠ 172 → p ≠ 173 → p ≠ 174 → p ≠ 188 → p ≠ 195 → p ≠ 194 → R2 p = R p)) → ((∀ a : Int, (∀ p : Int, isR p → a ≠ p) → N16 a = M a)) → Wp 198 (d + 7) 288 16 [(1, 161), (1, 193), (0, 4), (0, (n : Int)), (0, ((wyS 0 f_x t) + sI (wyG 0 f_x (t + 1)) c)), (0, (((t + 1) : Nat) : Int)), (0, (c : Int))] [] N16 (fun r_ M' => ∃ R' : Int → Option (Pl k), r_ = (0, wyC 1 f_x) ∧ RS M' k R' ∧ (∀ a : Int, (∀ p : Int, isR p → a ≠ p) → M' a = M a) ∧ (∀ p : Int, p ≠ 170 → p ≠ 171 → p ≠ 172 → p ≠ 173 → p ≠ 174 → p ≠ 188 → p ≠ 195 → p ≠ 194 → R' p = R p)) := by
            intro n_
            induction n_ using Nat.strongRecOn with
            | _ n_ ih16 =>
            intro c R2 N16 hm16 hc hC2 hG2 hS2
            have gb_ := wyG_bd (m := 0) hm.1 bx17 (d := t + 1) (c := c) (by omega) (by omega) (by omega) hc
            refine w_il hK rfl rfl ?_
            refine w_al hK rfl rfl ?_
            refine w_il hK rfl rfl ?_
            refine w_call [(1, 161), (0, (((t + 1) : Nat) : Int))] hK rfl rfl rfl rfl (Or.inr ⟨_, _, _, rfl, by decide, (by decide), rfl⟩) (r_count hC2.F ((t + 1)) (by omega)) ?_
            rintro _ Mq ⟨rfl, e_⟩
            subst Mq
            refine ⟨by show (0 : Nat) ≠ 9; decide, (?_ : Wp 198 _ 288 20 [(1, 161), (1, 193), (0, 4), (0, (n : Int)), (0, ((wyS 0 f_x t) + sI (wyG 0 f_x (t + 1)) c)), (0, (((t + 1) : Nat) : Int)), (0, (c : Int))] [(0, (unq k ((t + 1)) : Int)), (0, (c : Int))] N16 _)⟩
            refine w_ge2 hK rfl (by omega) (by omega) (by omega) (by omega) (fun h20 => ?_) (fun h20 => ?_)
            · refine w_inc [(1, 161), (1, 193), (0, 4), (0, (n : Int)), (0, ((wyS 0 f_x t) + sI (wyG 0 f_x (t + 1)) c)), (0, ((((t + 1) : Nat) : Int) + 1)), (0, (c : Int))] hK rfl rfl rfl (by omega) (by omega) rfl ?_
              refine w_goto hK rfl ?_
              have et_ := wy_sum (m := 0) (d := t + 1) hm.1 bx17 (by omega) (by omega)
              rw [show unq k (t + 1) = c by omega] at et_
              have es_ := wyS_s (m := 0) (x := f_x) (t := t)
              rw [show ((wyS 0 f_x t) + sI (wyG 0 f_x (t + 1)) c) = (wyS 0 f_x (t + 1)) by omega]
              exact ih11 _ (by omega) (t + 1) _ (0, (c : Int)) N16 rfl (by omega) hC2 (fun p pn170_ pn171_ pn172_ pn173_ pn174_ pn188_ pn195_ pn194_ => (hG2 p pn170_ pn171_ pn172_ pn173_ pn174_ pn188_ pn195_ pn194_)) (fun a nr_ => (hS2 a nr_))
            · refine w_il hK rfl rfl ?_
              refine w_il hK rfl rfl ?_
              refine w_ne2 hK rfl (by omega) (by omega) (by omega) (by omega) (fun h23 => ?_) (fun h23 => ?_)
              · refine w_il hK rfl rfl ?_
                refine w_il hK rfl rfl ?_
                refine w_ne2 hK rfl (by omega) (by omega) (by omega) (by omega) (fun h29 => ?_) (fun h29 => ?_)
                · refine w_al hK rfl rfl ?_
                  refine w_il hK rfl rfl ?_
                  refine w_il hK rfl rfl ?_
                  refine w_al hK rfl rfl ?_
                  refine w_getr (n := 43) (v := 195) hK rfl rfl (by decide) (by decide) rfl rfl rfl rfl ?_
                  refine w_call [(1, 161), (0, (((t + 1) : Nat) : Int)), (0, (c : Int)), (1, 195)] hK rfl rfl rfl rfl (Or.inr ⟨_, _, _, rfl, by decide, (by decide), rfl⟩) (r_mof hC2 (isR_of (p := 195) rfl) ((t + 1)) c (by omega) (by omega)) ?_
                  rintro _ V707 ⟨P707, rfl, C707, S707, F707, f707_0⟩
                  refine ⟨by decide, (?_ : Wp 198 _ 288 41 [(1, 161), (1, 193), (0, 4), (0, (n : Int)), (0, ((wyS 0 f_x t) + sI (wyG 0 f_x (t + 1)) c)), (0, (((t + 1) : Nat) : Int)), (0, (c : Int))] [] V707 _)⟩
                  have dm_ := mnp_dg (k := k) (n := t + 1) (c := c) (by omega)
                  refine w_al hK rfl rfl ?_
                  refine w_al hK rfl rfl ?_
                  refine w_al hK rfl rfl ?_
                  refine w_getr (n := 43) (v := 195) hK rfl rfl (by decide) (by decide) rfl rfl rfl rfl ?_
                  refine w_ic hK rfl ?_
                  refine w_call [(1, 161), (1, 193), (1, 195), (0, 0)] hK rfl rfl rfl rfl (Or.inr ⟨_, _, _, rfl, by decide, (by decide), rfl⟩) (r_isdv C707 ⟨(isR_of (p := 193) rfl), ((F707 193 (by omega)).trans ((hG2 193 (by omega) (by omega) (by omega) (by omega) (by omega) (by omega) (by omega) (by omega)).trans (show isK R 193 f_x from ⟨isR_of (p := 193) rfl, hx⟩).2))⟩ ⟨(isR_of (p := 195) rfl), f707_0⟩ 0 (by omega) (by omega) (by omega) (by omega) bx17 (mnp_bd.mono (by omega))) ?_
                  rintro _ V708 ⟨P708, rfl, C708, S708, F708, f708_0, f708_1⟩
                  have bv_ := bz_01 (dr 0 f_x (mnp (k := k) ((t + 1)) c) = pz)
                  refine ⟨by show (0 : Nat) ≠ 9; decide, (?_ : Wp 198 _ 288 47 [(1, 161), (1, 193), (0, 4), (0, (n : Int)), (0, ((wyS 0 f_x t) + sI (wyG 0 f_x (t + 1)) c)), (0, (((t + 1) : Nat) : Int)), (0, (c : Int))] [(0, (bz (dr 0 f_x (mnp (k := k) ((t + 1)) c) = pz)))] V708 _)⟩
                  have md_ : bz (dr 0 f_x (mnp (k := k) (t + 1) c) = pz) ≠ 0 → Mn (dq 0 f_x (mnp (k := k) (t + 1) c)) (n - (t + 1)) ∧ Bd (dq 0 f_x (mnp (k := k) (t + 1) c)) 17 := fun q_ => by
                    have md_ := mdq hm.1 bx17 (d := t + 1) (g := (mnp (k := k) (t + 1) c)) mnp_mn (bz_yes q_)
                    exact ⟨⟨md_.2.2.1, md_.2.2.2.trans hm.2⟩, (Bd_is md_.2.2.1).mono (by omega)⟩
                  refine w_ne hK rfl (by omega) (by omega) (fun h47 => ?_) (fun h47 => ?_)
                  · obtain ⟨mq_, bq_⟩ := md_ (by omega)
                    have dq_ := mq_.dg (by omega)
                    refine w_al hK rfl rfl ?_
                    refine w_getr (n := 20) (v := 174) hK rfl rfl (by decide) (by decide) rfl rfl rfl rfl ?_
                    refine w_al hK rfl rfl ?_
                    refine w_il hK rfl rfl ?_
                    refine w_call [(1, 161), (0, 4)] hK rfl rfl rfl rfl (Or.inr ⟨_, _, _, rfl, by decide, (by decide), rfl⟩) (r_left4) ?_
                    rintro _ Mq ⟨rfl, e_⟩
                    subst Mq
                    refine ⟨by show (1 : Nat) ≠ 9; decide, (?_ : Wp 198 _ 288 54 [(1, 161), (1, 193), (0, 4), (0, (n : Int)), (0, ((wyS 0 f_x t) + sI (wyG 0 f_x (t + 1)) c)), (0, (((t + 1) : Nat) : Int)), (0, (c : Int))] [(1, 194), (1, 174)] V708 _)⟩
                    refine w_call [(1, 174), (1, 194)] hK rfl rfl rfl rfl (Or.inl rfl) (r_copy C708 ⟨(isR_of (p := 174) rfl), f708_1⟩ (isR_of (p := 194) rfl) (by omega)) ?_
                    rintro _ V709 ⟨P709, rfl, C709, S709, F709, f709_0⟩
                    refine ⟨by decide, (?_ : Wp 198 _ 288 55 [(1, 161), (1, 193), (0, 4), (0, (n : Int)), (0, ((wyS 0 f_x t) + sI (wyG 0 f_x (t + 1)) c)), (0, (((t + 1) : Nat) : Int)), (0, (c : Int))] [] V709 _)⟩
                    refine w_al hK rfl rfl ?_
                    refine w_al hK rfl rfl ?_
                    refine w_getr (n := 43) (v := 195) hK rfl rfl (by decide) (by decide) rfl rfl rfl rfl ?_
                    refine w_call [(1, 161), (1, 195)] hK rfl rfl rfl rfl (Or.inr ⟨_, _, _, rfl, by decide, (by decide), rfl⟩) (r_isP C709 ⟨(isR_of (p := 195) rfl), ((F709 195 (by omega)).trans ((F708 195 (by omega) (by omega) (by omega) (by omega) (by omega)).trans f707_0))⟩ (by omega) (by omega) (mnp_bd.mono (by omega))) ?_
                    rintro _ V710 ⟨P710, rfl, C710, S710, F710⟩
                    have bv_ := bz_01 (prM (mnp (k := k) ((t + 1)) c))
                    refine ⟨by show (0 : Nat) ≠ 9; decide, (?_ : Wp 198 _ 288 59 [(1, 161), (1, 193), (0, 4), (0, (n : Int)), (0, ((wyS 0 f_x t) + sI (wyG 0 f_x (t + 1)) c)), (0, (((t + 1) : Nat) : Int)), (0, (c : Int))] [(0, (bz (prM (mnp (k := k) ((t + 1)) c))))] V710 _)⟩
                    refine w_eq hK rfl (by omega) (by omega) (fun h59 => ?_) (fun h59 => ?_)
                    · refine w_inc [(1, 161), (1, 193), (0, 4), (0, (n : Int)), (0, ((wyS 0 f_x t) + sI (wyG 0 f_x (t + 1)) c)), (0, (((t + 1) : Nat) : Int)), (0, ((c : Int) + 1))] hK rfl rfl rfl (by omega) (by omega) rfl ?_
                      refine w_goto hK rfl ?_
                      have eg_ : wyG 0 f_x (t + 1) c = 0 := wyG_1 (by omega) (by omega)
                      rw [show ((wyS 0 f_x t) + sI (wyG 0 f_x (t + 1)) c) = ((wyS 0 f_x t) + sI (wyG 0 f_x (t + 1)) (c + 1)) from by show _ = (wyS 0 f_x t) + (sI (wyG 0 f_x (t + 1)) c + wyG 0 f_x (t + 1) c); omega]
                      exact ih16 _ (by omega) (c + 1) _ V710 rfl (by omega) C710 (fun p pn170_ pn171_ pn172_ pn173_ pn174_ pn188_ pn195_ pn194_ => ((F710 p pn170_ pn171_ pn172_ pn173_ pn174_ pn188_).trans ((F709 p pn194_).trans ((F708 p pn170_ pn171_ pn172_ pn173_ pn174_).trans ((F707 p pn195_).trans (hG2 p pn170_ pn171_ pn172_ pn173_ pn174_ pn188_ pn195_ pn194_)))))) (fun a nr_ => ((S710 a nr_).trans ((S709 a nr_).trans ((S708 a nr_).trans ((S707 a nr_).trans (hS2 a nr_))))))
                    · refine w_il hK rfl rfl ?_
                      refine w_al hK rfl rfl ?_
                      refine w_al hK rfl rfl ?_
                      refine w_il hK rfl rfl ?_
                      refine w_call [(1, 161), (0, 4)] hK rfl rfl rfl rfl (Or.inr ⟨_, _, _, rfl, by decide, (by decide), rfl⟩) (r_left4) ?_
                      rintro _ Mq ⟨rfl, e_⟩
                      subst Mq
                      refine ⟨by show (1 : Nat) ≠ 9; decide, (?_ : Wp 198 _ 288 65 [(1, 161), (1, 193), (0, 4), (0, (n : Int)), (0, ((wyS 0 f_x t) + sI (wyG 0 f_x (t + 1)) c)), (0, (((t + 1) : Nat) : Int)), (0, (c : Int))] [(1, 194), (1, 161), (0, ((wyS 0 f_x t) + sI (wyG 0 f_x (t + 1)) c))] V710 _)⟩
                      refine w_il hK rfl rfl ?_
                      refine w_ic hK rfl ?_
                      refine w_add hK rfl (by omega) (by omega) ?_
                      have wb_ := wyC_le 0 (dq 0 f_x (mnp (k := k) ((t + 1)) c)) bq_
                      refine w_call [(1, 161), (1, 194), (0, (4 + 1))] hK rfl rfl rfl rfl (Or.inr ⟨_, _, _, rfl, by decide, (by decide), rfl⟩) (r_wy5 C710 ((F710 194 (by omega) (by omega) (by omega) (by omega) (by omega) (by omega)).trans f709_0) mq_ (by omega)) ?_
                      rintro _ V711 ⟨P711, rfl, C711, S711, F711⟩
                      refine ⟨by show (0 : Nat) ≠ 9; decide, (?_ : Wp 198 _ 288 69 [(1, 161), (1, 193), (0, 4), (0, (n : Int)), (0, ((wyS 0 f_x t) + sI (wyG 0 f_x (t + 1)) c)), (0, (((t + 1) : Nat) : Int)), (0, (c : Int))] [(0, (wyC 0 (dq 0 f_x (mnp (k := k) ((t + 1)) c)))), (0, ((wyS 0 f_x t) + sI (wyG 0 f_x (t + 1)) c))] V711 _)⟩
                      refine w_add hK rfl (by omega) (by omega) ?_
                      refine w_is [(1, 161), (1, 193), (0, 4), (0, (n : Int)), (0, (((wyS 0 f_x t) + sI (wyG 0 f_x (t + 1)) c) + (wyC 0 (dq 0 f_x (mnp (k := k) ((t + 1)) c))))), (0, (((t + 1) : Nat) : Int)), (0, (c : Int))] hK rfl rfl rfl ?_
                      refine w_inc [(1, 161), (1, 193), (0, 4), (0, (n : Int)), (0, (((wyS 0 f_x t) + sI (wyG 0 f_x (t + 1)) c) + (wyC 0 (dq 0 f_x (mnp (k := k) ((t + 1)) c))))), (0, (((t + 1) : Nat) : Int)), (0, ((c : Int) + 1))] hK rfl rfl rfl (by omega) (by omega) rfl ?_
                      refine w_goto hK rfl ?_
                      have eg_ : wyG 0 f_x (t + 1) c = wyC 0 (dq 0 f_x (mnp (k := k) (t + 1) c)) := wyG_2 (by omega) (by omega)
                      rw [show (((wyS 0 f_x t) + sI (wyG 0 f_x (t + 1)) c) + (wyC 0 (dq 0 f_x (mnp (k := k) ((t + 1)) c)))) = ((wyS 0 f_x t) + sI (wyG 0 f_x (t + 1)) (c + 1)) from by show _ = (wyS 0 f_x t) + (sI (wyG 0 f_x (t + 1)) c + wyG 0 f_x (t + 1) c); omega]
                      exact ih16 _ (by omega) (c + 1) _ V711 rfl (by omega) C711 (fun p pn170_ pn171_ pn172_ pn173_ pn174_ pn188_ pn195_ pn194_ => ((F711 p pn170_ pn171_ pn172_ pn173_ pn174_ pn188_ pn195_).trans ((F710 p pn170_ pn171_ pn172_ pn173_ pn174_ pn188_).trans ((F709 p pn194_).trans ((F708 p pn170_ pn171_ pn172_ pn173_ pn174_).trans ((F707 p pn195_).trans (hG2 p pn170_ pn171_ pn172_ pn173_ pn174_ pn188_ pn195_ pn194_))))))) (fun a nr_ => ((S711 a nr_).trans ((S710 a nr_).trans ((S709 a nr_).trans ((S708 a nr_).trans ((S707 a nr_).trans (hS2 a nr_)))))))
                  · refine w_goto hK rfl ?_
                    refine w_inc [(1, 161), (1, 193), (0, 4), (0, (n : Int)), (0, ((wyS 0 f_x t) + sI (wyG 0 f_x (t + 1)) c)), (0, (((t + 1) : Nat) : Int)), (0, ((c : Int) + 1))] hK rfl rfl rfl (by omega) (by omega) rfl ?_
                    refine w_goto hK rfl ?_
                    have eg_ : wyG 0 f_x (t + 1) c = 0 := wyG_0 (by omega)
                    rw [show ((wyS 0 f_x t) + sI (wyG 0 f_x (t + 1)) c) = ((wyS 0 f_x t) + sI (wyG 0 f_x (t + 1)) (c + 1)) from by show _ = (wyS 0 f_x t) + (sI (wyG 0 f_x (t + 1)) c + wyG 0 f_x (t + 1) c); omega]
                    exact ih16 _ (by omega) (c + 1) _ V708 rfl (by omega) C708 (fun p pn170_ pn171_ pn172_ pn173_ pn174_ pn188_ pn195_ pn194_ => ((F708 p pn170_ pn171_ pn172_ pn173_ pn174_).trans ((F707 p pn195_).trans (hG2 p pn170_ pn171_ pn172_ pn173_ pn174_ pn188_ pn195_ pn194_)))) (fun a nr_ => ((S708 a nr_).trans ((S707 a nr_).trans (hS2 a nr_))))
                · exfalso; omega
              · exfalso; omega
          rw [show (wyS 0 f_x t) = ((wyS 0 f_x t) + sI (wyG 0 f_x (t + 1)) 0) from (Int.add_zero _).symm]
          exact lp16 _ 0 _ N11 rfl (by omega) hC (fun p pn170_ pn171_ pn172_ pn173_ pn174_ pn188_ pn195_ pn194_ => (hG p pn170_ pn171_ pn172_ pn173_ pn174_ pn188_ pn195_ pn194_)) (fun a nr_ => (hS a nr_))
    exact lp11 _ 0 _ (3, 0) M rfl (by omega) C (fun p pn170_ pn171_ pn172_ pn173_ pn174_ pn188_ pn195_ pn194_ => rfl) (fun a nr_ => rfl)
  · refine w_ic hK rfl ?_
    refine w_iret hK rfl rfl ?_
    exact ⟨_, congrArg (Prod.mk 0) (wy_0 (by omega)).symm, C, (fun a nr_ => rfl), (fun p pn170_ pn171_ pn172_ pn173_ pn174_ pn188_ pn195_ pn194_ => rfl)⟩
set_option maxRecDepth 100000 in
theorem r_wy3 {d : Nat} {M : Mem} {k : Nat} {R : Int → Option (Pl k)} (C : RS M k R) {f_x : Pl k} (hx : R 192 = some f_x) {n : Nat} (hm : Mn f_x n) (hn : n ≤ 2) : Ct 198 (d + 8) 288 [(1, 161), (1, 192), (0, 3)] M (fun r_ M' => ∃ R' : Int → Option (Pl k), r_ = (0, wyC 2 f_x) ∧ RS M' k R' ∧ (∀ a : Int, (∀ p : Int, isR p → a ≠ p) → M' a = M a) ∧ (∀ p : Int, p ≠ 170 → p ≠ 171 → p ≠ 172 → p ≠ 173 → p ≠ 174 → p ≠ 188 → p ≠ 195 → p ≠ 193 → p ≠ 194 → R' p = R p)) := by
  have hK : cd 288 = k288 := rfl
  have dn_ : dg f_x = (n : Int) := hm.dg (by omega)
  have bx17 : Bd f_x 17 := (Bd_is hm.1).mono (by omega)
  have bx9 : Bd f_x 9 := (Bd_is hm.1).mono (by omega)
  show Wp 198 _ 288 0 [(1, 161), (1, 192), (0, 3), (3, 0), (3, 0), (3, 0), (3, 0)] [] M _
  refine w_al hK rfl rfl ?_
  have dI_ : -1 ≤ dg f_x ∧ dg f_x ≤ 47 := C.dI (show isK R 192 f_x from ⟨isR_of (p := 192) rfl, hx⟩)
  refine w_call [(1, 192)] hK rfl rfl rfl rfl (Or.inl rfl) (r_deg C (show isK R 192 f_x from ⟨isR_of (p := 192) rfl, hx⟩)) ?_
  rintro _ Mq ⟨rfl, e_⟩
  subst Mq
  refine ⟨by show (0 : Nat) ≠ 9; decide, (?_ : Wp 198 _ 288 2 [(1, 161), (1, 192), (0, 3), (3, 0), (3, 0), (3, 0), (3, 0)] [(0, (dg f_x))] M _)⟩
  rw [dn_]
  refine w_is [(1, 161), (1, 192), (0, 3), (0, (n : Int)), (3, 0), (3, 0), (3, 0)] hK rfl rfl rfl ?_
  refine w_il hK rfl rfl ?_
  refine w_ne hK rfl (by omega) (by omega) (fun h4 => ?_) (fun h4 => ?_)
  · have n1_ : 1 ≤ n := by omega
    refine w_ic hK rfl ?_
    refine w_is [(1, 161), (1, 192), (0, 3), (0, (n : Int)), (0, 0), (3, 0), (3, 0)] hK rfl rfl rfl ?_
    refine w_ic hK rfl ?_
    refine w_is [(1, 161), (1, 192), (0, 3), (0, (n : Int)), (0, 0), (0, 1), (3, 0)] hK rfl rfl rfl ?_
    have lp11 : ∀ (n_ : Nat) (t : Nat) (R1 : Int → Option (Pl k)) (w6 : AV) (N11 : Mem), 5 - t = n_ → (t ≤ n) → (RS N11 k R1) → ((∀ p : Int, p ≠ 170 → p ≠ 171 → p ≠ 172 → p ≠ 173 → p ≠ 174 → p ≠ 188 → p ≠ 195 → p ≠ 193 → p ≠ 194 → R1 p = R p)) → ((∀ a : Int, (∀ p : Int, isR p → a ≠ p) → N11 a = M a)) → Wp 198 (d + 8) 288 11 [(1, 161), (1, 192), (0, 3), (0, (n : Int)), (0, (wyS 1 f_x t)), (0, (((t + 1) : Nat) : Int)), w6] [] N11 (fun r_ M' => ∃ R' : Int → Option (Pl k), r_ = (0, wyC 2 f_x) ∧ RS M' k R' ∧ (∀ a : Int, (∀ p : Int, isR p → a ≠ p) → M' a = M a) ∧ (∀ p : Int, p ≠ 170 → p ≠ 171 → p ≠ 172 → p ≠ 173 → p ≠ 174 → p ≠ 188 → p ≠ 195 → p ≠ 193 → p ≠ 194 → R' p = R p)) := by
      intro n_
      induction n_ using Nat.strongRecOn with
      | _ n_ ih11 =>
      intro t R1 w6 N11 hm11 ht hC hG hS
      have sb_ := wyS_I (m := 1) hm.1 bx17 (by omega) ht
      have u4_ : t < 4 → 4 ≤ unq k (t + 1) ∧ unq k (t + 1) ≤ 65536 := fun _ => ⟨by rw [unq_s]; have := unq_pos k t; have := qq_ge k; have := Nat.mul_le_mul_right (qq k) (show 1 ≤ unq k t by omega); omega, (unq_4 (by omega)).1⟩
      refine w_il hK rfl rfl ?_
      refine w_il hK rfl rfl ?_
      refine w_gt2 hK rfl (by omega) (by omega) (by omega) (by omega) (fun h13 => ?_) (fun h13 => ?_)
      · refine w_il hK rfl rfl ?_
        refine w_iret hK rfl rfl ?_
        exact ⟨_, congrArg (Prod.mk 0) (by rw [show t = n by omega]; exact (wy_all hm.1 bx17 n1_ (by omega) hm).symm), hC, (fun a nr_ => (hS a nr_)), (fun p pn170_ pn171_ pn172_ pn173_ pn174_ pn188_ pn195_ pn193_ pn194_ => (hG p pn170_ pn171_ pn172_ pn173_ pn174_ pn188_ pn195_ pn193_ pn194_))⟩
      · refine w_ic hK rfl ?_
        refine w_is [(1, 161), (1, 192), (0, 3), (0, (n : Int)), (0, (wyS 1 f_x t)), (0, (((t + 1) : Nat) : Int)), (0, 0)] hK rfl rfl rfl ?_
        by_cases hen_ : t + 1 = n
        · refine w_il hK rfl rfl ?_
          refine w_al hK rfl rfl ?_
          refine w_il hK rfl rfl ?_
          refine w_call [(1, 161), (0, (((t + 1) : Nat) : Int))] hK rfl rfl rfl rfl (Or.inr ⟨_, _, _, rfl, by decide, (by decide), rfl⟩) (r_count hC.F ((t + 1)) (by omega)) ?_
          rintro _ Mq ⟨rfl, e_⟩
          subst Mq
          refine ⟨by show (0 : Nat) ≠ 9; decide, (?_ : Wp 198 _ 288 20 [(1, 161), (1, 192), (0, 3), (0, (n : Int)), (0, (wyS 1 f_x t)), (0, (((t + 1) : Nat) : Int)), (0, 0)] [(0, (unq k ((t + 1)) : Int)), (0, 0)] N11 _)⟩
          refine w_ge2 hK rfl (by omega) (by omega) (by omega) (by omega) (fun h20 => ?_) (fun h20 => ?_)
          · exfalso; omega
          · refine w_il hK rfl rfl ?_
            refine w_il hK rfl rfl ?_
            refine w_ne2 hK rfl (by omega) (by omega) (by omega) (by omega) (fun h23 => ?_) (fun h23 => ?_)
            · exfalso; omega
            · refine w_il hK rfl rfl ?_
              refine w_le hK rfl (by omega) (by omega) (fun h25 => ?_) (fun h25 => ?_)
              · refine w_il hK rfl rfl ?_
                refine w_il hK rfl rfl ?_
                refine w_ne2 hK rfl (by omega) (by omega) (by omega) (by omega) (fun h29 => ?_) (fun h29 => ?_)
                · exfalso; omega
                · refine w_al hK rfl rfl ?_
                  refine w_al hK rfl rfl ?_
                  refine w_getr (n := 43) (v := 195) hK rfl rfl (by decide) (by decide) rfl rfl rfl rfl ?_
                  refine w_call [(1, 192), (1, 195)] hK rfl rfl rfl rfl (Or.inl rfl) (r_copy hC ⟨(isR_of (p := 192) rfl), ((hG 192 (by omega) (by omega) (by omega) (by omega) (by omega) (by omega) (by omega) (by omega) (by omega)).trans (show isK R 192 f_x from ⟨isR_of (p := 192) rfl, hx⟩).2)⟩ (isR_of (p := 195) rfl) (by omega)) ?_
                  rintro _ V712 ⟨P712, rfl, C712, S712, F712, f712_0⟩
                  refine ⟨by decide, (?_ : Wp 198 _ 288 34 [(1, 161), (1, 192), (0, 3), (0, (n : Int)), (0, (wyS 1 f_x t)), (0, (((t + 1) : Nat) : Int)), (0, 0)] [] V712 _)⟩
                  refine w_goto hK rfl ?_
                  refine w_al hK rfl rfl ?_
                  refine w_al hK rfl rfl ?_
                  refine w_al hK rfl rfl ?_
                  refine w_getr (n := 43) (v := 195) hK rfl rfl (by decide) (by decide) rfl rfl rfl rfl ?_
                  refine w_ic hK rfl ?_
                  refine w_call [(1, 161), (1, 192), (1, 195), (0, 0)] hK rfl rfl rfl rfl (Or.inr ⟨_, _, _, rfl, by decide, (by decide), rfl⟩) (r_isdv C712 ⟨(isR_of (p := 192) rfl), ((F712 192 (by omega)).trans ((hG 192 (by omega) (by omega) (by omega) (by omega) (by omega) (by omega) (by omega) (by omega) (by omega)).trans (show isK R 192 f_x from ⟨isR_of (p := 192) rfl, hx⟩).2))⟩ ⟨(isR_of (p := 195) rfl), f712_0⟩ 0 (by omega) (by omega) (by omega) (by omega) bx17 bx17) ?_
                  rintro _ V713 ⟨P713, rfl, C713, S713, F713, f713_0, f713_1⟩
                  have bv_ := bz_01 (dr 0 f_x f_x = pz)
                  refine ⟨by show (0 : Nat) ≠ 9; decide, (?_ : Wp 198 _ 288 47 [(1, 161), (1, 192), (0, 3), (0, (n : Int)), (0, (wyS 1 f_x t)), (0, (((t + 1) : Nat) : Int)), (0, 0)] [(0, (bz (dr 0 f_x f_x = pz)))] V713 _)⟩
                  have md_ : bz (dr 0 f_x f_x = pz) ≠ 0 → Mn (dq 0 f_x f_x) (n - (t + 1)) ∧ Bd (dq 0 f_x f_x) 17 := fun q_ => by
                    have md_ := mdq hm.1 bx17 (d := t + 1) (g := f_x) (by rw [hen_]; exact hm) (bz_yes q_)
                    exact ⟨⟨md_.2.2.1, md_.2.2.2.trans hm.2⟩, (Bd_is md_.2.2.1).mono (by omega)⟩
                  refine w_ne hK rfl (by omega) (by omega) (fun h47 => ?_) (fun h47 => ?_)
                  · obtain ⟨mq_, bq_⟩ := md_ (by omega)
                    have dq_ := mq_.dg (by omega)
                    refine w_al hK rfl rfl ?_
                    refine w_getr (n := 20) (v := 174) hK rfl rfl (by decide) (by decide) rfl rfl rfl rfl ?_
                    refine w_al hK rfl rfl ?_
                    refine w_il hK rfl rfl ?_
                    refine w_call [(1, 161), (0, 3)] hK rfl rfl rfl rfl (Or.inr ⟨_, _, _, rfl, by decide, (by decide), rfl⟩) (r_left3) ?_
                    rintro _ Mq ⟨rfl, e_⟩
                    subst Mq
                    refine ⟨by show (1 : Nat) ≠ 9; decide, (?_ : Wp 198 _ 288 54 [(1, 161), (1, 192), (0, 3), (0, (n : Int)), (0, (wyS 1 f_x t)), (0, (((t + 1) : Nat) : Int)), (0, 0)] [(1, 193), (1, 174)] V713 _)⟩
                    refine w_call [(1, 174), (1, 193)] hK rfl rfl rfl rfl (Or.inl rfl) (r_copy C713 ⟨(isR_of (p := 174) rfl), f713_1⟩ (isR_of (p := 193) rfl) (by omega)) ?_
                    rintro _ V714 ⟨P714, rfl, C714, S714, F714, f714_0⟩
                    refine ⟨by decide, (?_ : Wp 198 _ 288 55 [(1, 161), (1, 192), (0, 3), (0, (n : Int)), (0, (wyS 1 f_x t)), (0, (((t + 1) : Nat) : Int)), (0, 0)] [] V714 _)⟩
                    refine w_al hK rfl rfl ?_
                    refine w_al hK rfl rfl ?_
                    refine w_getr (n := 43) (v := 195) hK rfl rfl (by decide) (by decide) rfl rfl rfl rfl ?_
                    refine w_call [(1, 161), (1, 195)] hK rfl rfl rfl rfl (Or.inr ⟨_, _, _, rfl, by decide, (by decide), rfl⟩) (r_isP C714 ⟨(isR_of (p := 195) rfl), ((F714 195 (by omega)).trans ((F713 195 (by omega) (by omega) (by omega) (by omega) (by omega)).trans f712_0))⟩ (by omega) (by omega) bx9) ?_
                    rintro _ V715 ⟨P715, rfl, C715, S715, F715⟩
                    have bv_ := bz_01 (prM f_x)
                    refine ⟨by show (0 : Nat) ≠ 9; decide, (?_ : Wp 198 _ 288 59 [(1, 161), (1, 192), (0, 3), (0, (n : Int)), (0, (wyS 1 f_x t)), (0, (((t + 1) : Nat) : Int)), (0, 0)] [(0, (bz (prM f_x)))] V715 _)⟩
                    refine w_eq hK rfl (by omega) (by omega) (fun h59 => ?_) (fun h59 => ?_)
                    · refine w_inc [(1, 161), (1, 192), (0, 3), (0, (n : Int)), (0, (wyS 1 f_x t)), (0, (((t + 1) : Nat) : Int)), (0, 1)] hK rfl rfl rfl (by omega) (by omega) rfl ?_
                      refine w_goto hK rfl ?_
                      refine w_il hK rfl rfl ?_
                      refine w_al hK rfl rfl ?_
                      refine w_il hK rfl rfl ?_
                      refine w_call [(1, 161), (0, (((t + 1) : Nat) : Int))] hK rfl rfl rfl rfl (Or.inr ⟨_, _, _, rfl, by decide, (by decide), rfl⟩) (r_count C715.F ((t + 1)) (by omega)) ?_
                      rintro _ Mq ⟨rfl, e_⟩
                      subst Mq
                      refine ⟨by show (0 : Nat) ≠ 9; decide, (?_ : Wp 198 _ 288 20 [(1, 161), (1, 192), (0, 3), (0, (n : Int)), (0, (wyS 1 f_x t)), (0, (((t + 1) : Nat) : Int)), (0, 1)] [(0, (unq k ((t + 1)) : Int)), (0, 1)] V715 _)⟩
                      refine w_ge2 hK rfl (by omega) (by omega) (by omega) (by omega) (fun h20 => ?_) (fun h20 => ?_)
                      · exfalso; omega
                      · refine w_il hK rfl rfl ?_
                        refine w_il hK rfl rfl ?_
                        refine w_ne2 hK rfl (by omega) (by omega) (by omega) (by omega) (fun h23 => ?_) (fun h23 => ?_)
                        · exfalso; omega
                        · refine w_il hK rfl rfl ?_
                          refine w_le hK rfl (by omega) (by omega) (fun h25 => ?_) (fun h25 => ?_)
                          · exfalso; omega
                          · refine w_goto hK rfl ?_
                            refine w_inc [(1, 161), (1, 192), (0, 3), (0, (n : Int)), (0, (wyS 1 f_x t)), (0, ((((t + 1) : Nat) : Int) + 1)), (0, 1)] hK rfl rfl rfl (by omega) (by omega) rfl ?_
                            refine w_goto hK rfl ?_
                            have et_ : sI (wyF 1 f_x (t + 1)) (trN k (dg f_x) ((t + 1 : Nat) : Int)) = bz (prM f_x) := by rw [hen_]; exact wy_top hm.1 bx17 n1_ (by omega) hm
                            have es_ := wyS_s (m := 1) (x := f_x) (t := t)
                            rw [show (wyS 1 f_x t) = (wyS 1 f_x (t + 1)) by omega]
                            exact ih11 _ (by omega) (t + 1) _ (0, 1) V715 rfl (by omega) C715 (fun p pn170_ pn171_ pn172_ pn173_ pn174_ pn188_ pn195_ pn193_ pn194_ => ((F715 p pn170_ pn171_ pn172_ pn173_ pn174_ pn188_).trans ((F714 p pn193_).trans ((F713 p pn170_ pn171_ pn172_ pn173_ pn174_).trans ((F712 p pn195_).trans (hG p pn170_ pn171_ pn172_ pn173_ pn174_ pn188_ pn195_ pn193_ pn194_)))))) (fun a nr_ => ((S715 a nr_).trans ((S714 a nr_).trans ((S713 a nr_).trans ((S712 a nr_).trans (hS a nr_))))))
                    · refine w_il hK rfl rfl ?_
                      refine w_al hK rfl rfl ?_
                      refine w_al hK rfl rfl ?_
                      refine w_il hK rfl rfl ?_
                      refine w_call [(1, 161), (0, 3)] hK rfl rfl rfl rfl (Or.inr ⟨_, _, _, rfl, by decide, (by decide), rfl⟩) (r_left3) ?_
                      rintro _ Mq ⟨rfl, e_⟩
                      subst Mq
                      refine ⟨by show (1 : Nat) ≠ 9; decide, (?_ : Wp 198 _ 288 65 [(1, 161), (1, 192), (0, 3), (0, (n : Int)), (0, (wyS 1 f_x t)), (0, (((t + 1) : Nat) : Int)), (0, 0)] [(1, 193), (1, 161), (0, (wyS 1 f_x t))] V715 _)⟩
                      refine w_il hK rfl rfl ?_
                      refine w_ic hK rfl ?_
                      refine w_add hK rfl (by omega) (by omega) ?_
                      have wb_ := wyC_le 1 (dq 0 f_x f_x) bq_
                      refine w_call [(1, 161), (1, 193), (0, (3 + 1))] hK rfl rfl rfl rfl (Or.inr ⟨_, _, _, rfl, by decide, (by decide), rfl⟩) (r_wy4 C715 ((F715 193 (by omega) (by omega) (by omega) (by omega) (by omega) (by omega)).trans f714_0) mq_ (by omega)) ?_
                      rintro _ V716 ⟨P716, rfl, C716, S716, F716⟩
                      refine ⟨by show (0 : Nat) ≠ 9; decide, (?_ : Wp 198 _ 288 69 [(1, 161), (1, 192), (0, 3), (0, (n : Int)), (0, (wyS 1 f_x t)), (0, (((t + 1) : Nat) : Int)), (0, 0)] [(0, (wyC 1 (dq 0 f_x f_x))), (0, (wyS 1 f_x t))] V716 _)⟩
                      refine w_add hK rfl (by omega) (by omega) ?_
                      refine w_is [(1, 161), (1, 192), (0, 3), (0, (n : Int)), (0, ((wyS 1 f_x t) + (wyC 1 (dq 0 f_x f_x)))), (0, (((t + 1) : Nat) : Int)), (0, 0)] hK rfl rfl rfl ?_
                      refine w_inc [(1, 161), (1, 192), (0, 3), (0, (n : Int)), (0, ((wyS 1 f_x t) + (wyC 1 (dq 0 f_x f_x)))), (0, (((t + 1) : Nat) : Int)), (0, 1)] hK rfl rfl rfl (by omega) (by omega) rfl ?_
                      refine w_goto hK rfl ?_
                      refine w_il hK rfl rfl ?_
                      refine w_al hK rfl rfl ?_
                      refine w_il hK rfl rfl ?_
                      refine w_call [(1, 161), (0, (((t + 1) : Nat) : Int))] hK rfl rfl rfl rfl (Or.inr ⟨_, _, _, rfl, by decide, (by decide), rfl⟩) (r_count C716.F ((t + 1)) (by omega)) ?_
                      rintro _ Mq ⟨rfl, e_⟩
                      subst Mq
                      refine ⟨by show (0 : Nat) ≠ 9; decide, (?_ : Wp 198 _ 288 20 [(1, 161), (1, 192), (0, 3), (0, (n : Int)), (0, ((wyS 1 f_x t) + (wyC 1 (dq 0 f_x f_x)))), (0, (((t + 1) : Nat) : Int)), (0, 1)] [(0, (unq k ((t + 1)) : Int)), (0, 1)] V716 _)⟩
                      refine w_ge2 hK rfl (by omega) (by omega) (by omega) (by omega) (fun h20 => ?_) (fun h20 => ?_)
                      · exfalso; omega
                      · refine w_il hK rfl rfl ?_
                        refine w_il hK rfl rfl ?_
                        refine w_ne2 hK rfl (by omega) (by omega) (by omega) (by omega) (fun h23 => ?_) (fun h23 => ?_)
                        · exfalso; omega
                        · refine w_il hK rfl rfl ?_
                          refine w_le hK rfl (by omega) (by omega) (fun h25 => ?_) (fun h25 => ?_)
                          · exfalso; omega
                          · refine w_goto hK rfl ?_
                            refine w_inc [(1, 161), (1, 192), (0, 3), (0, (n : Int)), (0, ((wyS 1 f_x t) + (wyC 1 (dq 0 f_x f_x)))), (0, ((((t + 1) : Nat) : Int) + 1)), (0, 1)] hK rfl rfl rfl (by omega) (by omega) rfl ?_
                            refine w_goto hK rfl ?_
                            have et_ : sI (wyF 1 f_x (t + 1)) (trN k (dg f_x) ((t + 1 : Nat) : Int)) = bz (prM f_x) := by rw [hen_]; exact wy_top hm.1 bx17 n1_ (by omega) hm
                            have w0_ := wy_0 (m := 1) (x := dq 0 f_x f_x) (by omega)
                            have es_ := wyS_s (m := 1) (x := f_x) (t := t)
                            rw [show ((wyS 1 f_x t) + (wyC 1 (dq 0 f_x f_x))) = (wyS 1 f_x (t + 1)) by omega]
                            exact ih11 _ (by omega) (t + 1) _ (0, 1) V716 rfl (by omega) C716 (fun p pn170_ pn171_ pn172_ pn173_ pn174_ pn188_ pn195_ pn193_ pn194_ => ((F716 p pn170_ pn171_ pn172_ pn173_ pn174_ pn188_ pn195_ pn194_).trans ((F715 p pn170_ pn171_ pn172_ pn173_ pn174_ pn188_).trans ((F714 p pn193_).trans ((F713 p pn170_ pn171_ pn172_ pn173_ pn174_).trans ((F712 p pn195_).trans (hG p pn170_ pn171_ pn172_ pn173_ pn174_ pn188_ pn195_ pn193_ pn194_))))))) (fun a nr_ => ((S716 a nr_).trans ((S715 a nr_).trans ((S714 a nr_).trans ((S713 a nr_).trans ((S712 a nr_).trans (hS a nr_)))))))
                  · refine w_goto hK rfl ?_
                    refine w_inc [(1, 161), (1, 192), (0, 3), (0, (n : Int)), (0, (wyS 1 f_x t)), (0, (((t + 1) : Nat) : Int)), (0, 1)] hK rfl rfl rfl (by omega) (by omega) rfl ?_
                    refine w_goto hK rfl ?_
                    refine w_il hK rfl rfl ?_
                    refine w_al hK rfl rfl ?_
                    refine w_il hK rfl rfl ?_
                    refine w_call [(1, 161), (0, (((t + 1) : Nat) : Int))] hK rfl rfl rfl rfl (Or.inr ⟨_, _, _, rfl, by decide, (by decide), rfl⟩) (r_count C713.F ((t + 1)) (by omega)) ?_
                    rintro _ Mq ⟨rfl, e_⟩
                    subst Mq
                    refine ⟨by show (0 : Nat) ≠ 9; decide, (?_ : Wp 198 _ 288 20 [(1, 161), (1, 192), (0, 3), (0, (n : Int)), (0, (wyS 1 f_x t)), (0, (((t + 1) : Nat) : Int)), (0, 1)] [(0, (unq k ((t + 1)) : Int)), (0, 1)] V713 _)⟩
                    refine w_ge2 hK rfl (by omega) (by omega) (by omega) (by omega) (fun h20 => ?_) (fun h20 => ?_)
                    · exfalso; omega
                    · refine w_il hK rfl rfl ?_
                      refine w_il hK rfl rfl ?_
                      refine w_ne2 hK rfl (by omega) (by omega) (by omega) (by omega) (fun h23 => ?_) (fun h23 => ?_)
                      · exfalso; omega
                      · refine w_il hK rfl rfl ?_
                        refine w_le hK rfl (by omega) (by omega) (fun h25 => ?_) (fun h25 => ?_)
                        · exfalso; omega
                        · refine w_goto hK rfl ?_
                          refine w_inc [(1, 161), (1, 192), (0, 3), (0, (n : Int)), (0, (wyS 1 f_x t)), (0, ((((t + 1) : Nat) : Int) + 1)), (0, 1)] hK rfl rfl rfl (by omega) (by omega) rfl ?_
                          refine w_goto hK rfl ?_
                          exact absurd (dr_self hm.1) (bz_no (by omega))
              · exfalso; omega
        · have lp16 : ∀ (n_ : Nat) (c : Nat) (R2 : Int → Option (Pl k)) (N16 : Mem), 65537 - c = n_ → (c ≤ unq k (t + 1)) → (RS N16 k R2) → ((∀ p : Int, p ≠ 170 → p ≠ 171 → p ≠ 172 → p ≠ 173 → p ≠ 174 → p ≠ 188 → p ≠ 195 → p ≠ 193 → p ≠ 194 → R2 p = R p)) → ((∀ a : Int, (∀ p : Int, isR p → a ≠ p) → N16 a = M a)) → Wp 198 (d + 8) 288 16 [(1, 161), (1, 192), (0, 3), (0, (n : Int)), (0, ((wyS 1 f_x t) + sI (wyG 1 f_x (t + 1)) c)), (0, (((t + 1) : Nat) : Int)), (0, (c : Int))] [] N16 (fun r_ M' => ∃ R' : Int → Option (Pl k), r_ = (0, wyC 2 f_x) ∧ RS M' k R' ∧ (∀ a : Int, (∀ p : Int, isR p → a ≠ p) → M' a = M a) ∧ (∀ p : Int, p ≠ 170 → p ≠ 171 → p ≠ 172 → p ≠ 173 → p ≠ 174 → p ≠ 188 → p ≠ 195 → p ≠ 193 → p ≠ 194 → R' p = R p)) := by
            intro n_
            induction n_ using Nat.strongRecOn with
            | _ n_ ih16 =>
            intro c R2 N16 hm16 hc hC2 hG2 hS2
            have gb_ := wyG_bd (m := 1) hm.1 bx17 (d := t + 1) (c := c) (by omega) (by omega) (by omega) hc
            refine w_il hK rfl rfl ?_
            refine w_al hK rfl rfl ?_
            refine w_il hK rfl rfl ?_
            refine w_call [(1, 161), (0, (((t + 1) : Nat) : Int))] hK rfl rfl rfl rfl (Or.inr ⟨_, _, _, rfl, by decide, (by decide), rfl⟩) (r_count hC2.F ((t + 1)) (by omega)) ?_
            rintro _ Mq ⟨rfl, e_⟩
            subst Mq
            refine ⟨by show (0 : Nat) ≠ 9; decide, (?_ : Wp 198 _ 288 20 [(1, 161), (1, 192), (0, 3), (0, (n : Int)), (0, ((wyS 1 f_x t) + sI (wyG 1 f_x (t + 1)) c)), (0, (((t + 1) : Nat) : Int)), (0, (c : Int))] [(0, (unq k ((t + 1)) : Int)), (0, (c : Int))] N16 _)⟩
            refine w_ge2 hK rfl (by omega) (by omega) (by omega) (by omega) (fun h20 => ?_) (fun h20 => ?_)
            · refine w_inc [(1, 161), (1, 192), (0, 3), (0, (n : Int)), (0, ((wyS 1 f_x t) + sI (wyG 1 f_x (t + 1)) c)), (0, ((((t + 1) : Nat) : Int) + 1)), (0, (c : Int))] hK rfl rfl rfl (by omega) (by omega) rfl ?_
              refine w_goto hK rfl ?_
              have et_ := wy_sum (m := 1) (d := t + 1) hm.1 bx17 (by omega) (by omega)
              rw [show unq k (t + 1) = c by omega] at et_
              have es_ := wyS_s (m := 1) (x := f_x) (t := t)
              rw [show ((wyS 1 f_x t) + sI (wyG 1 f_x (t + 1)) c) = (wyS 1 f_x (t + 1)) by omega]
              exact ih11 _ (by omega) (t + 1) _ (0, (c : Int)) N16 rfl (by omega) hC2 (fun p pn170_ pn171_ pn172_ pn173_ pn174_ pn188_ pn195_ pn193_ pn194_ => (hG2 p pn170_ pn171_ pn172_ pn173_ pn174_ pn188_ pn195_ pn193_ pn194_)) (fun a nr_ => (hS2 a nr_))
            · refine w_il hK rfl rfl ?_
              refine w_il hK rfl rfl ?_
              refine w_ne2 hK rfl (by omega) (by omega) (by omega) (by omega) (fun h23 => ?_) (fun h23 => ?_)
              · refine w_il hK rfl rfl ?_
                refine w_il hK rfl rfl ?_
                refine w_ne2 hK rfl (by omega) (by omega) (by omega) (by omega) (fun h29 => ?_) (fun h29 => ?_)
                · refine w_al hK rfl rfl ?_
                  refine w_il hK rfl rfl ?_
                  refine w_il hK rfl rfl ?_
                  refine w_al hK rfl rfl ?_
                  refine w_getr (n := 43) (v := 195) hK rfl rfl (by decide) (by decide) rfl rfl rfl rfl ?_
                  refine w_call [(1, 161), (0, (((t + 1) : Nat) : Int)), (0, (c : Int)), (1, 195)] hK rfl rfl rfl rfl (Or.inr ⟨_, _, _, rfl, by decide, (by decide), rfl⟩) (r_mof hC2 (isR_of (p := 195) rfl) ((t + 1)) c (by omega) (by omega)) ?_
                  rintro _ V717 ⟨P717, rfl, C717, S717, F717, f717_0⟩
                  refine ⟨by decide, (?_ : Wp 198 _ 288 41 [(1, 161), (1, 192), (0, 3), (0, (n : Int)), (0, ((wyS 1 f_x t) + sI (wyG 1 f_x (t + 1)) c)), (0, (((t + 1) : Nat) : Int)), (0, (c : Int))] [] V717 _)⟩
                  have dm_ := mnp_dg (k := k) (n := t + 1) (c := c) (by omega)
                  refine w_al hK rfl rfl ?_
                  refine w_al hK rfl rfl ?_
                  refine w_al hK rfl rfl ?_
                  refine w_getr (n := 43) (v := 195) hK rfl rfl (by decide) (by decide) rfl rfl rfl rfl ?_
                  refine w_ic hK rfl ?_
                  refine w_call [(1, 161), (1, 192), (1, 195), (0, 0)] hK rfl rfl rfl rfl (Or.inr ⟨_, _, _, rfl, by decide, (by decide), rfl⟩) (r_isdv C717 ⟨(isR_of (p := 192) rfl), ((F717 192 (by omega)).trans ((hG2 192 (by omega) (by omega) (by omega) (by omega) (by omega) (by omega) (by omega) (by omega) (by omega)).trans (show isK R 192 f_x from ⟨isR_of (p := 192) rfl, hx⟩).2))⟩ ⟨(isR_of (p := 195) rfl), f717_0⟩ 0 (by omega) (by omega) (by omega) (by omega) bx17 (mnp_bd.mono (by omega))) ?_
                  rintro _ V718 ⟨P718, rfl, C718, S718, F718, f718_0, f718_1⟩
                  have bv_ := bz_01 (dr 0 f_x (mnp (k := k) ((t + 1)) c) = pz)
                  refine ⟨by show (0 : Nat) ≠ 9; decide, (?_ : Wp 198 _ 288 47 [(1, 161), (1, 192), (0, 3), (0, (n : Int)), (0, ((wyS 1 f_x t) + sI (wyG 1 f_x (t + 1)) c)), (0, (((t + 1) : Nat) : Int)), (0, (c : Int))] [(0, (bz (dr 0 f_x (mnp (k := k) ((t + 1)) c) = pz)))] V718 _)⟩
                  have md_ : bz (dr 0 f_x (mnp (k := k) (t + 1) c) = pz) ≠ 0 → Mn (dq 0 f_x (mnp (k := k) (t + 1) c)) (n - (t + 1)) ∧ Bd (dq 0 f_x (mnp (k := k) (t + 1) c)) 17 := fun q_ => by
                    have md_ := mdq hm.1 bx17 (d := t + 1) (g := (mnp (k := k) (t + 1) c)) mnp_mn (bz_yes q_)
                    exact ⟨⟨md_.2.2.1, md_.2.2.2.trans hm.2⟩, (Bd_is md_.2.2.1).mono (by omega)⟩
                  refine w_ne hK rfl (by omega) (by omega) (fun h47 => ?_) (fun h47 => ?_)
                  · obtain ⟨mq_, bq_⟩ := md_ (by omega)
                    have dq_ := mq_.dg (by omega)
                    refine w_al hK rfl rfl ?_
                    refine w_getr (n := 20) (v := 174) hK rfl rfl (by decide) (by decide) rfl rfl rfl rfl ?_
                    refine w_al hK rfl rfl ?_
                    refine w_il hK rfl rfl ?_
                    refine w_call [(1, 161), (0, 3)] hK rfl rfl rfl rfl (Or.inr ⟨_, _, _, rfl, by decide, (by decide), rfl⟩) (r_left3) ?_
                    rintro _ Mq ⟨rfl, e_⟩
                    subst Mq
                    refine ⟨by show (1 : Nat) ≠ 9; decide, (?_ : Wp 198 _ 288 54 [(1, 161), (1, 192), (0, 3), (0, (n : Int)), (0, ((wyS 1 f_x t) + sI (wyG 1 f_x (t + 1)) c)), (0, (((t + 1) : Nat) : Int)), (0, (c : Int))] [(1, 193), (1, 174)] V718 _)⟩
                    refine w_call [(1, 174), (1, 193)] hK rfl rfl rfl rfl (Or.inl rfl) (r_copy C718 ⟨(isR_of (p := 174) rfl), f718_1⟩ (isR_of (p := 193) rfl) (by omega)) ?_
                    rintro _ V719 ⟨P719, rfl, C719, S719, F719, f719_0⟩
                    refine ⟨by decide, (?_ : Wp 198 _ 288 55 [(1, 161), (1, 192), (0, 3), (0, (n : Int)), (0, ((wyS 1 f_x t) + sI (wyG 1 f_x (t + 1)) c)), (0, (((t + 1) : Nat) : Int)), (0, (c : Int))] [] V719 _)⟩
                    refine w_al hK rfl rfl ?_
                    refine w_al hK rfl rfl ?_
                    refine w_getr (n := 43) (v := 195) hK rfl rfl (by decide) (by decide) rfl rfl rfl rfl ?_
                    refine w_call [(1, 161), (1, 195)] hK rfl rfl rfl rfl (Or.inr ⟨_, _, _, rfl, by decide, (by decide), rfl⟩) (r_isP C719 ⟨(isR_of (p := 195) rfl), ((F719 195 (by omega)).trans ((F718 195 (by omega) (by omega) (by omega) (by omega) (by omega)).trans f717_0))⟩ (by omega) (by omega) (mnp_bd.mono (by omega))) ?_
                    rintro _ V720 ⟨P720, rfl, C720, S720, F720⟩
                    have bv_ := bz_01 (prM (mnp (k := k) ((t + 1)) c))
                    refine ⟨by show (0 : Nat) ≠ 9; decide, (?_ : Wp 198 _ 288 59 [(1, 161), (1, 192), (0, 3), (0, (n : Int)), (0, ((wyS 1 f_x t) + sI (wyG 1 f_x (t + 1)) c)), (0, (((t + 1) : Nat) : Int)), (0, (c : Int))] [(0, (bz (prM (mnp (k := k) ((t + 1)) c))))] V720 _)⟩
                    refine w_eq hK rfl (by omega) (by omega) (fun h59 => ?_) (fun h59 => ?_)
                    · refine w_inc [(1, 161), (1, 192), (0, 3), (0, (n : Int)), (0, ((wyS 1 f_x t) + sI (wyG 1 f_x (t + 1)) c)), (0, (((t + 1) : Nat) : Int)), (0, ((c : Int) + 1))] hK rfl rfl rfl (by omega) (by omega) rfl ?_
                      refine w_goto hK rfl ?_
                      have eg_ : wyG 1 f_x (t + 1) c = 0 := wyG_1 (by omega) (by omega)
                      rw [show ((wyS 1 f_x t) + sI (wyG 1 f_x (t + 1)) c) = ((wyS 1 f_x t) + sI (wyG 1 f_x (t + 1)) (c + 1)) from by show _ = (wyS 1 f_x t) + (sI (wyG 1 f_x (t + 1)) c + wyG 1 f_x (t + 1) c); omega]
                      exact ih16 _ (by omega) (c + 1) _ V720 rfl (by omega) C720 (fun p pn170_ pn171_ pn172_ pn173_ pn174_ pn188_ pn195_ pn193_ pn194_ => ((F720 p pn170_ pn171_ pn172_ pn173_ pn174_ pn188_).trans ((F719 p pn193_).trans ((F718 p pn170_ pn171_ pn172_ pn173_ pn174_).trans ((F717 p pn195_).trans (hG2 p pn170_ pn171_ pn172_ pn173_ pn174_ pn188_ pn195_ pn193_ pn194_)))))) (fun a nr_ => ((S720 a nr_).trans ((S719 a nr_).trans ((S718 a nr_).trans ((S717 a nr_).trans (hS2 a nr_))))))
                    · refine w_il hK rfl rfl ?_
                      refine w_al hK rfl rfl ?_
                      refine w_al hK rfl rfl ?_
                      refine w_il hK rfl rfl ?_
                      refine w_call [(1, 161), (0, 3)] hK rfl rfl rfl rfl (Or.inr ⟨_, _, _, rfl, by decide, (by decide), rfl⟩) (r_left3) ?_
                      rintro _ Mq ⟨rfl, e_⟩
                      subst Mq
                      refine ⟨by show (1 : Nat) ≠ 9; decide, (?_ : Wp 198 _ 288 65 [(1, 161), (1, 192), (0, 3), (0, (n : Int)), (0, ((wyS 1 f_x t) + sI (wyG 1 f_x (t + 1)) c)), (0, (((t + 1) : Nat) : Int)), (0, (c : Int))] [(1, 193), (1, 161), (0, ((wyS 1 f_x t) + sI (wyG 1 f_x (t + 1)) c))] V720 _)⟩
                      refine w_il hK rfl rfl ?_
                      refine w_ic hK rfl ?_
                      refine w_add hK rfl (by omega) (by omega) ?_
                      have wb_ := wyC_le 1 (dq 0 f_x (mnp (k := k) ((t + 1)) c)) bq_
                      refine w_call [(1, 161), (1, 193), (0, (3 + 1))] hK rfl rfl rfl rfl (Or.inr ⟨_, _, _, rfl, by decide, (by decide), rfl⟩) (r_wy4 C720 ((F720 193 (by omega) (by omega) (by omega) (by omega) (by omega) (by omega)).trans f719_0) mq_ (by omega)) ?_
                      rintro _ V721 ⟨P721, rfl, C721, S721, F721⟩
                      refine ⟨by show (0 : Nat) ≠ 9; decide, (?_ : Wp 198 _ 288 69 [(1, 161), (1, 192), (0, 3), (0, (n : Int)), (0, ((wyS 1 f_x t) + sI (wyG 1 f_x (t + 1)) c)), (0, (((t + 1) : Nat) : Int)), (0, (c : Int))] [(0, (wyC 1 (dq 0 f_x (mnp (k := k) ((t + 1)) c)))), (0, ((wyS 1 f_x t) + sI (wyG 1 f_x (t + 1)) c))] V721 _)⟩
                      refine w_add hK rfl (by omega) (by omega) ?_
                      refine w_is [(1, 161), (1, 192), (0, 3), (0, (n : Int)), (0, (((wyS 1 f_x t) + sI (wyG 1 f_x (t + 1)) c) + (wyC 1 (dq 0 f_x (mnp (k := k) ((t + 1)) c))))), (0, (((t + 1) : Nat) : Int)), (0, (c : Int))] hK rfl rfl rfl ?_
                      refine w_inc [(1, 161), (1, 192), (0, 3), (0, (n : Int)), (0, (((wyS 1 f_x t) + sI (wyG 1 f_x (t + 1)) c) + (wyC 1 (dq 0 f_x (mnp (k := k) ((t + 1)) c))))), (0, (((t + 1) : Nat) : Int)), (0, ((c : Int) + 1))] hK rfl rfl rfl (by omega) (by omega) rfl ?_
                      refine w_goto hK rfl ?_
                      have eg_ : wyG 1 f_x (t + 1) c = wyC 1 (dq 0 f_x (mnp (k := k) (t + 1) c)) := wyG_2 (by omega) (by omega)
                      rw [show (((wyS 1 f_x t) + sI (wyG 1 f_x (t + 1)) c) + (wyC 1 (dq 0 f_x (mnp (k := k) ((t + 1)) c)))) = ((wyS 1 f_x t) + sI (wyG 1 f_x (t + 1)) (c + 1)) from by show _ = (wyS 1 f_x t) + (sI (wyG 1 f_x (t + 1)) c + wyG 1 f_x (t + 1) c); omega]
                      exact ih16 _ (by omega) (c + 1) _ V721 rfl (by omega) C721 (fun p pn170_ pn171_ pn172_ pn173_ pn174_ pn188_ pn195_ pn193_ pn194_ => ((F721 p pn170_ pn171_ pn172_ pn173_ pn174_ pn188_ pn195_ pn194_).trans ((F720 p pn170_ pn171_ pn172_ pn173_ pn174_ pn188_).trans ((F719 p pn193_).trans ((F718 p pn170_ pn171_ pn172_ pn173_ pn174_).trans ((F717 p pn195_).trans (hG2 p pn170_ pn171_ pn172_ pn173_ pn174_ pn188_ pn195_ pn193_ pn194_))))))) (fun a nr_ => ((S721 a nr_).trans ((S720 a nr_).trans ((S719 a nr_).trans ((S718 a nr_).trans ((S717 a nr_).trans (hS2 a nr_)))))))
                  · refine w_goto hK rfl ?_
                    refine w_inc [(1, 161), (1, 192), (0, 3), (0, (n : Int)), (0, ((wyS 1 f_x t) + sI (wyG 1 f_x (t + 1)) c)), (0, (((t + 1) : Nat) : Int)), (0, ((c : Int) + 1))] hK rfl rfl rfl (by omega) (by omega) rfl ?_
                    refine w_goto hK rfl ?_
                    have eg_ : wyG 1 f_x (t + 1) c = 0 := wyG_0 (by omega)
                    rw [show ((wyS 1 f_x t) + sI (wyG 1 f_x (t + 1)) c) = ((wyS 1 f_x t) + sI (wyG 1 f_x (t + 1)) (c + 1)) from by show _ = (wyS 1 f_x t) + (sI (wyG 1 f_x (t + 1)) c + wyG 1 f_x (t + 1) c); omega]
                    exact ih16 _ (by omega) (c + 1) _ V718 rfl (by omega) C718 (fun p pn170_ pn171_ pn172_ pn173_ pn174_ pn188_ pn195_ pn193_ pn194_ => ((F718 p pn170_ pn171_ pn172_ pn173_ pn174_).trans ((F717 p pn195_).trans (hG2 p pn170_ pn171_ pn172_ pn173_ pn174_ pn188_ pn195_ pn193_ pn194_)))) (fun a nr_ => ((S718 a nr_).trans ((S717 a nr_).trans (hS2 a nr_))))
                · exfalso; omega
              · exfalso; omega
          rw [show (wyS 1 f_x t) = ((wyS 1 f_x t) + sI (wyG 1 f_x (t + 1)) 0) from (Int.add_zero _).symm]
          exact lp16 _ 0 _ N11 rfl (by omega) hC (fun p pn170_ pn171_ pn172_ pn173_ pn174_ pn188_ pn195_ pn193_ pn194_ => (hG p pn170_ pn171_ pn172_ pn173_ pn174_ pn188_ pn195_ pn193_ pn194_)) (fun a nr_ => (hS a nr_))
    exact lp11 _ 0 _ (3, 0) M rfl (by omega) C (fun p pn170_ pn171_ pn172_ pn173_ pn174_ pn188_ pn195_ pn193_ pn194_ => rfl) (fun a nr_ => rfl)
  · refine w_ic hK rfl ?_
    refine w_iret hK rfl rfl ?_
    exact ⟨_, congrArg (Prod.mk 0) (wy_0 (by omega)).symm, C, (fun a nr_ => rfl), (fun p pn170_ pn171_ pn172_ pn173_ pn174_ pn188_ pn195_ pn193_ pn194_ => rfl)⟩
set_option maxRecDepth 100000 in
theorem r_wy2 {d : Nat} {M : Mem} {k : Nat} {R : Int → Option (Pl k)} (C : RS M k R) {f_x : Pl k} (hx : R 191 = some f_x) {n : Nat} (hm : Mn f_x n) (hn : n ≤ 3) : Ct 198 (d + 9) 288 [(1, 161), (1, 191), (0, 2)] M (fun r_ M' => ∃ R' : Int → Option (Pl k), r_ = (0, wyC 3 f_x) ∧ RS M' k R' ∧ (∀ a : Int, (∀ p : Int, isR p → a ≠ p) → M' a = M a) ∧ (∀ p : Int, p ≠ 170 → p ≠ 171 → p ≠ 172 → p ≠ 173 → p ≠ 174 → p ≠ 188 → p ≠ 195 → p ≠ 192 → p ≠ 193 → p ≠ 194 → R' p = R p)) := by
  have hK : cd 288 = k288 := rfl
  have dn_ : dg f_x = (n : Int) := hm.dg (by omega)
  have bx17 : Bd f_x 17 := (Bd_is hm.1).mono (by omega)
  have bx9 : Bd f_x 9 := (Bd_is hm.1).mono (by omega)
  show Wp 198 _ 288 0 [(1, 161), (1, 191), (0, 2), (3, 0), (3, 0), (3, 0), (3, 0)] [] M _
  refine w_al hK rfl rfl ?_
  have dI_ : -1 ≤ dg f_x ∧ dg f_x ≤ 47 := C.dI (show isK R 191 f_x from ⟨isR_of (p := 191) rfl, hx⟩)
  refine w_call [(1, 191)] hK rfl rfl rfl rfl (Or.inl rfl) (r_deg C (show isK R 191 f_x from ⟨isR_of (p := 191) rfl, hx⟩)) ?_
  rintro _ Mq ⟨rfl, e_⟩
  subst Mq
  refine ⟨by show (0 : Nat) ≠ 9; decide, (?_ : Wp 198 _ 288 2 [(1, 161), (1, 191), (0, 2), (3, 0), (3, 0), (3, 0), (3, 0)] [(0, (dg f_x))] M _)⟩
  rw [dn_]
  refine w_is [(1, 161), (1, 191), (0, 2), (0, (n : Int)), (3, 0), (3, 0), (3, 0)] hK rfl rfl rfl ?_
  refine w_il hK rfl rfl ?_
  refine w_ne hK rfl (by omega) (by omega) (fun h4 => ?_) (fun h4 => ?_)
  · have n1_ : 1 ≤ n := by omega
    refine w_ic hK rfl ?_
    refine w_is [(1, 161), (1, 191), (0, 2), (0, (n : Int)), (0, 0), (3, 0), (3, 0)] hK rfl rfl rfl ?_
    refine w_ic hK rfl ?_
    refine w_is [(1, 161), (1, 191), (0, 2), (0, (n : Int)), (0, 0), (0, 1), (3, 0)] hK rfl rfl rfl ?_
    have lp11 : ∀ (n_ : Nat) (t : Nat) (R1 : Int → Option (Pl k)) (w6 : AV) (N11 : Mem), 5 - t = n_ → (t ≤ n) → (RS N11 k R1) → ((∀ p : Int, p ≠ 170 → p ≠ 171 → p ≠ 172 → p ≠ 173 → p ≠ 174 → p ≠ 188 → p ≠ 195 → p ≠ 192 → p ≠ 193 → p ≠ 194 → R1 p = R p)) → ((∀ a : Int, (∀ p : Int, isR p → a ≠ p) → N11 a = M a)) → Wp 198 (d + 9) 288 11 [(1, 161), (1, 191), (0, 2), (0, (n : Int)), (0, (wyS 2 f_x t)), (0, (((t + 1) : Nat) : Int)), w6] [] N11 (fun r_ M' => ∃ R' : Int → Option (Pl k), r_ = (0, wyC 3 f_x) ∧ RS M' k R' ∧ (∀ a : Int, (∀ p : Int, isR p → a ≠ p) → M' a = M a) ∧ (∀ p : Int, p ≠ 170 → p ≠ 171 → p ≠ 172 → p ≠ 173 → p ≠ 174 → p ≠ 188 → p ≠ 195 → p ≠ 192 → p ≠ 193 → p ≠ 194 → R' p = R p)) := by
      intro n_
      induction n_ using Nat.strongRecOn with
      | _ n_ ih11 =>
      intro t R1 w6 N11 hm11 ht hC hG hS
      have sb_ := wyS_I (m := 2) hm.1 bx17 (by omega) ht
      have u4_ : t < 4 → 4 ≤ unq k (t + 1) ∧ unq k (t + 1) ≤ 65536 := fun _ => ⟨by rw [unq_s]; have := unq_pos k t; have := qq_ge k; have := Nat.mul_le_mul_right (qq k) (show 1 ≤ unq k t by omega); omega, (unq_4 (by omega)).1⟩
      refine w_il hK rfl rfl ?_
      refine w_il hK rfl rfl ?_
      refine w_gt2 hK rfl (by omega) (by omega) (by omega) (by omega) (fun h13 => ?_) (fun h13 => ?_)
      · refine w_il hK rfl rfl ?_
        refine w_iret hK rfl rfl ?_
        exact ⟨_, congrArg (Prod.mk 0) (by rw [show t = n by omega]; exact (wy_all hm.1 bx17 n1_ (by omega) hm).symm), hC, (fun a nr_ => (hS a nr_)), (fun p pn170_ pn171_ pn172_ pn173_ pn174_ pn188_ pn195_ pn192_ pn193_ pn194_ => (hG p pn170_ pn171_ pn172_ pn173_ pn174_ pn188_ pn195_ pn192_ pn193_ pn194_))⟩
      · refine w_ic hK rfl ?_
        refine w_is [(1, 161), (1, 191), (0, 2), (0, (n : Int)), (0, (wyS 2 f_x t)), (0, (((t + 1) : Nat) : Int)), (0, 0)] hK rfl rfl rfl ?_
        by_cases hen_ : t + 1 = n
        · refine w_il hK rfl rfl ?_
          refine w_al hK rfl rfl ?_
          refine w_il hK rfl rfl ?_
          refine w_call [(1, 161), (0, (((t + 1) : Nat) : Int))] hK rfl rfl rfl rfl (Or.inr ⟨_, _, _, rfl, by decide, (by decide), rfl⟩) (r_count hC.F ((t + 1)) (by omega)) ?_
          rintro _ Mq ⟨rfl, e_⟩
          subst Mq
          refine ⟨by show (0 : Nat) ≠ 9; decide, (?_ : Wp 198 _ 288 20 [(1, 161), (1, 191), (0, 2), (0, (n : Int)), (0, (wyS 2 f_x t)), (0, (((t + 1) : Nat) : Int)), (0, 0)] [(0, (unq k ((t + 1)) : Int)), (0, 0)] N11 _)⟩
          refine w_ge2 hK rfl (by omega) (by omega) (by omega) (by omega) (fun h20 => ?_) (fun h20 => ?_)
          · exfalso; omega
          · refine w_il hK rfl rfl ?_
            refine w_il hK rfl rfl ?_
            refine w_ne2 hK rfl (by omega) (by omega) (by omega) (by omega) (fun h23 => ?_) (fun h23 => ?_)
            · exfalso; omega
            · refine w_il hK rfl rfl ?_
              refine w_le hK rfl (by omega) (by omega) (fun h25 => ?_) (fun h25 => ?_)
              · refine w_il hK rfl rfl ?_
                refine w_il hK rfl rfl ?_
                refine w_ne2 hK rfl (by omega) (by omega) (by omega) (by omega) (fun h29 => ?_) (fun h29 => ?_)
                · exfalso; omega
                · refine w_al hK rfl rfl ?_
                  refine w_al hK rfl rfl ?_
                  refine w_getr (n := 43) (v := 195) hK rfl rfl (by decide) (by decide) rfl rfl rfl rfl ?_
                  refine w_call [(1, 191), (1, 195)] hK rfl rfl rfl rfl (Or.inl rfl) (r_copy hC ⟨(isR_of (p := 191) rfl), ((hG 191 (by omega) (by omega) (by omega) (by omega) (by omega) (by omega) (by omega) (by omega) (by omega) (by omega)).trans (show isK R 191 f_x from ⟨isR_of (p := 191) rfl, hx⟩).2)⟩ (isR_of (p := 195) rfl) (by omega)) ?_
                  rintro _ V722 ⟨P722, rfl, C722, S722, F722, f722_0⟩
                  refine ⟨by decide, (?_ : Wp 198 _ 288 34 [(1, 161), (1, 191), (0, 2), (0, (n : Int)), (0, (wyS 2 f_x t)), (0, (((t + 1) : Nat) : Int)), (0, 0)] [] V722 _)⟩
                  refine w_goto hK rfl ?_
                  refine w_al hK rfl rfl ?_
                  refine w_al hK rfl rfl ?_
                  refine w_al hK rfl rfl ?_
                  refine w_getr (n := 43) (v := 195) hK rfl rfl (by decide) (by decide) rfl rfl rfl rfl ?_
                  refine w_ic hK rfl ?_
                  refine w_call [(1, 161), (1, 191), (1, 195), (0, 0)] hK rfl rfl rfl rfl (Or.inr ⟨_, _, _, rfl, by decide, (by decide), rfl⟩) (r_isdv C722 ⟨(isR_of (p := 191) rfl), ((F722 191 (by omega)).trans ((hG 191 (by omega) (by omega) (by omega) (by omega) (by omega) (by omega) (by omega) (by omega) (by omega) (by omega)).trans (show isK R 191 f_x from ⟨isR_of (p := 191) rfl, hx⟩).2))⟩ ⟨(isR_of (p := 195) rfl), f722_0⟩ 0 (by omega) (by omega) (by omega) (by omega) bx17 bx17) ?_
                  rintro _ V723 ⟨P723, rfl, C723, S723, F723, f723_0, f723_1⟩
                  have bv_ := bz_01 (dr 0 f_x f_x = pz)
                  refine ⟨by show (0 : Nat) ≠ 9; decide, (?_ : Wp 198 _ 288 47 [(1, 161), (1, 191), (0, 2), (0, (n : Int)), (0, (wyS 2 f_x t)), (0, (((t + 1) : Nat) : Int)), (0, 0)] [(0, (bz (dr 0 f_x f_x = pz)))] V723 _)⟩
                  have md_ : bz (dr 0 f_x f_x = pz) ≠ 0 → Mn (dq 0 f_x f_x) (n - (t + 1)) ∧ Bd (dq 0 f_x f_x) 17 := fun q_ => by
                    have md_ := mdq hm.1 bx17 (d := t + 1) (g := f_x) (by rw [hen_]; exact hm) (bz_yes q_)
                    exact ⟨⟨md_.2.2.1, md_.2.2.2.trans hm.2⟩, (Bd_is md_.2.2.1).mono (by omega)⟩
                  refine w_ne hK rfl (by omega) (by omega) (fun h47 => ?_) (fun h47 => ?_)
                  · obtain ⟨mq_, bq_⟩ := md_ (by omega)
                    have dq_ := mq_.dg (by omega)
                    refine w_al hK rfl rfl ?_
                    refine w_getr (n := 20) (v := 174) hK rfl rfl (by decide) (by decide) rfl rfl rfl rfl ?_
                    refine w_al hK rfl rfl ?_
                    refine w_il hK rfl rfl ?_
                    refine w_call [(1, 161), (0, 2)] hK rfl rfl rfl rfl (Or.inr ⟨_, _, _, rfl, by decide, (by decide), rfl⟩) (r_left2) ?_
                    rintro _ Mq ⟨rfl, e_⟩
                    subst Mq
                    refine ⟨by show (1 : Nat) ≠ 9; decide, (?_ : Wp 198 _ 288 54 [(1, 161), (1, 191), (0, 2), (0, (n : Int)), (0, (wyS 2 f_x t)), (0, (((t + 1) : Nat) : Int)), (0, 0)] [(1, 192), (1, 174)] V723 _)⟩
                    refine w_call [(1, 174), (1, 192)] hK rfl rfl rfl rfl (Or.inl rfl) (r_copy C723 ⟨(isR_of (p := 174) rfl), f723_1⟩ (isR_of (p := 192) rfl) (by omega)) ?_
                    rintro _ V724 ⟨P724, rfl, C724, S724, F724, f724_0⟩
                    refine ⟨by decide, (?_ : Wp 198 _ 288 55 [(1, 161), (1, 191), (0, 2), (0, (n : Int)), (0, (wyS 2 f_x t)), (0, (((t + 1) : Nat) : Int)), (0, 0)] [] V724 _)⟩
                    refine w_al hK rfl rfl ?_
                    refine w_al hK rfl rfl ?_
                    refine w_getr (n := 43) (v := 195) hK rfl rfl (by decide) (by decide) rfl rfl rfl rfl ?_
                    refine w_call [(1, 161), (1, 195)] hK rfl rfl rfl rfl (Or.inr ⟨_, _, _, rfl, by decide, (by decide), rfl⟩) (r_isP C724 ⟨(isR_of (p := 195) rfl), ((F724 195 (by omega)).trans ((F723 195 (by omega) (by omega) (by omega) (by omega) (by omega)).trans f722_0))⟩ (by omega) (by omega) bx9) ?_
                    rintro _ V725 ⟨P725, rfl, C725, S725, F725⟩
                    have bv_ := bz_01 (prM f_x)
                    refine ⟨by show (0 : Nat) ≠ 9; decide, (?_ : Wp 198 _ 288 59 [(1, 161), (1, 191), (0, 2), (0, (n : Int)), (0, (wyS 2 f_x t)), (0, (((t + 1) : Nat) : Int)), (0, 0)] [(0, (bz (prM f_x)))] V725 _)⟩
                    refine w_eq hK rfl (by omega) (by omega) (fun h59 => ?_) (fun h59 => ?_)
                    · refine w_inc [(1, 161), (1, 191), (0, 2), (0, (n : Int)), (0, (wyS 2 f_x t)), (0, (((t + 1) : Nat) : Int)), (0, 1)] hK rfl rfl rfl (by omega) (by omega) rfl ?_
                      refine w_goto hK rfl ?_
                      refine w_il hK rfl rfl ?_
                      refine w_al hK rfl rfl ?_
                      refine w_il hK rfl rfl ?_
                      refine w_call [(1, 161), (0, (((t + 1) : Nat) : Int))] hK rfl rfl rfl rfl (Or.inr ⟨_, _, _, rfl, by decide, (by decide), rfl⟩) (r_count C725.F ((t + 1)) (by omega)) ?_
                      rintro _ Mq ⟨rfl, e_⟩
                      subst Mq
                      refine ⟨by show (0 : Nat) ≠ 9; decide, (?_ : Wp 198 _ 288 20 [(1, 161), (1, 191), (0, 2), (0, (n : Int)), (0, (wyS 2 f_x t)), (0, (((t + 1) : Nat) : Int)), (0, 1)] [(0, (unq k ((t + 1)) : Int)), (0, 1)] V725 _)⟩
                      refine w_ge2 hK rfl (by omega) (by omega) (by omega) (by omega) (fun h20 => ?_) (fun h20 => ?_)
                      · exfalso; omega
                      · refine w_il hK rfl rfl ?_
                        refine w_il hK rfl rfl ?_
                        refine w_ne2 hK rfl (by omega) (by omega) (by omega) (by omega) (fun h23 => ?_) (fun h23 => ?_)
                        · exfalso; omega
                        · refine w_il hK rfl rfl ?_
                          refine w_le hK rfl (by omega) (by omega) (fun h25 => ?_) (fun h25 => ?_)
                          · exfalso; omega
                          · refine w_goto hK rfl ?_
                            refine w_inc [(1, 161), (1, 191), (0, 2), (0, (n : Int)), (0, (wyS 2 f_x t)), (0, ((((t + 1) : Nat) : Int) + 1)), (0, 1)] hK rfl rfl rfl (by omega) (by omega) rfl ?_
                            refine w_goto hK rfl ?_
                            have et_ : sI (wyF 2 f_x (t + 1)) (trN k (dg f_x) ((t + 1 : Nat) : Int)) = bz (prM f_x) := by rw [hen_]; exact wy_top hm.1 bx17 n1_ (by omega) hm
                            have es_ := wyS_s (m := 2) (x := f_x) (t := t)
                            rw [show (wyS 2 f_x t) = (wyS 2 f_x (t + 1)) by omega]
                            exact ih11 _ (by omega) (t + 1) _ (0, 1) V725 rfl (by omega) C725 (fun p pn170_ pn171_ pn172_ pn173_ pn174_ pn188_ pn195_ pn192_ pn193_ pn194_ => ((F725 p pn170_ pn171_ pn172_ pn173_ pn174_ pn188_).trans ((F724 p pn192_).trans ((F723 p pn170_ pn171_ pn172_ pn173_ pn174_).trans ((F722 p pn195_).trans (hG p pn170_ pn171_ pn172_ pn173_ pn174_ pn188_ pn195_ pn192_ pn193_ pn194_)))))) (fun a nr_ => ((S725 a nr_).trans ((S724 a nr_).trans ((S723 a nr_).trans ((S722 a nr_).trans (hS a nr_))))))
                    · refine w_il hK rfl rfl ?_
                      refine w_al hK rfl rfl ?_
                      refine w_al hK rfl rfl ?_
                      refine w_il hK rfl rfl ?_
                      refine w_call [(1, 161), (0, 2)] hK rfl rfl rfl rfl (Or.inr ⟨_, _, _, rfl, by decide, (by decide), rfl⟩) (r_left2) ?_
                      rintro _ Mq ⟨rfl, e_⟩
                      subst Mq
                      refine ⟨by show (1 : Nat) ≠ 9; decide, (?_ : Wp 198 _ 288 65 [(1, 161), (1, 191), (0, 2), (0, (n : Int)), (0, (wyS 2 f_x t)), (0, (((t + 1) : Nat) : Int)), (0, 0)] [(1, 192), (1, 161), (0, (wyS 2 f_x t))] V725 _)⟩
                      refine w_il hK rfl rfl ?_
                      refine w_ic hK rfl ?_
                      refine w_add hK rfl (by omega) (by omega) ?_
                      have wb_ := wyC_le 2 (dq 0 f_x f_x) bq_
                      refine w_call [(1, 161), (1, 192), (0, (2 + 1))] hK rfl rfl rfl rfl (Or.inr ⟨_, _, _, rfl, by decide, (by decide), rfl⟩) (r_wy3 C725 ((F725 192 (by omega) (by omega) (by omega) (by omega) (by omega) (by omega)).trans f724_0) mq_ (by omega)) ?_
                      rintro _ V726 ⟨P726, rfl, C726, S726, F726⟩
                      refine ⟨by show (0 : Nat) ≠ 9; decide, (?_ : Wp 198 _ 288 69 [(1, 161), (1, 191), (0, 2), (0, (n : Int)), (0, (wyS 2 f_x t)), (0, (((t + 1) : Nat) : Int)), (0, 0)] [(0, (wyC 2 (dq 0 f_x f_x))), (0, (wyS 2 f_x t))] V726 _)⟩
                      refine w_add hK rfl (by omega) (by omega) ?_
                      refine w_is [(1, 161), (1, 191), (0, 2), (0, (n : Int)), (0, ((wyS 2 f_x t) + (wyC 2 (dq 0 f_x f_x)))), (0, (((t + 1) : Nat) : Int)), (0, 0)] hK rfl rfl rfl ?_
                      refine w_inc [(1, 161), (1, 191), (0, 2), (0, (n : Int)), (0, ((wyS 2 f_x t) + (wyC 2 (dq 0 f_x f_x)))), (0, (((t + 1) : Nat) : Int)), (0, 1)] hK rfl rfl rfl (by omega) (by omega) rfl ?_
                      refine w_goto hK rfl ?_
                      refine w_il hK rfl rfl ?_
                      refine w_al hK rfl rfl ?_
                      refine w_il hK rfl rfl ?_
                      refine w_call [(1, 161), (0, (((t + 1) : Nat) : Int))] hK rfl rfl rfl rfl (Or.inr ⟨_, _, _, rfl, by decide, (by decide), rfl⟩) (r_count C726.F ((t + 1)) (by omega)) ?_
                      rintro _ Mq ⟨rfl, e_⟩
                      subst Mq
                      refine ⟨by show (0 : Nat) ≠ 9; decide, (?_ : Wp 198 _ 288 20 [(1, 161), (1, 191), (0, 2), (0, (n : Int)), (0, ((wyS 2 f_x t) + (wyC 2 (dq 0 f_x f_x)))), (0, (((t + 1) : Nat) : Int)), (0, 1)] [(0, (unq k ((t + 1)) : Int)), (0, 1)] V726 _)⟩
                      refine w_ge2 hK rfl (by omega) (by omega) (by omega) (by omega) (fun h20 => ?_) (fun h20 => ?_)
                      · exfalso; omega
                      · refine w_il hK rfl rfl ?_
                        refine w_il hK rfl rfl ?_
                        refine w_ne2 hK rfl (by omega) (by omega) (by omega) (by omega) (fun h23 => ?_) (fun h23 => ?_)
                        · exfalso; omega
                        · refine w_il hK rfl rfl ?_
                          refine w_le hK rfl (by omega) (by omega) (fun h25 => ?_) (fun h25 => ?_)
                          · exfalso; omega
                          · refine w_goto hK rfl ?_
                            refine w_inc [(1, 161), (1, 191), (0, 2), (0, (n : Int)), (0, ((wyS 2 f_x t) + (wyC 2 (dq 0 f_x f_x)))), (0, ((((t + 1) : Nat) : Int) + 1)), (0, 1)] hK rfl rfl rfl (by omega) (by omega) rfl ?_
                            refine w_goto hK rfl ?_
                            have et_ : sI (wyF 2 f_x (t + 1)) (trN k (dg f_x) ((t + 1 : Nat) : Int)) = bz (prM f_x) := by rw [hen_]; exact wy_top hm.1 bx17 n1_ (by omega) hm
                            have w0_ := wy_0 (m := 2) (x := dq 0 f_x f_x) (by omega)
                            have es_ := wyS_s (m := 2) (x := f_x) (t := t)
                            rw [show ((wyS 2 f_x t) + (wyC 2 (dq 0 f_x f_x))) = (wyS 2 f_x (t + 1)) by omega]
                            exact ih11 _ (by omega) (t + 1) _ (0, 1) V726 rfl (by omega) C726 (fun p pn170_ pn171_ pn172_ pn173_ pn174_ pn188_ pn195_ pn192_ pn193_ pn194_ => ((F726 p pn170_ pn171_ pn172_ pn173_ pn174_ pn188_ pn195_ pn193_ pn194_).trans ((F725 p pn170_ pn171_ pn172_ pn173_ pn174_ pn188_).trans ((F724 p pn192_).trans ((F723 p pn170_ pn171_ pn172_ pn173_ pn174_).trans ((F722 p pn195_).trans (hG p pn170_ pn171_ pn172_ pn173_ pn174_ pn188_ pn195_ pn192_ pn193_ pn194_))))))) (fun a nr_ => ((S726 a nr_).trans ((S725 a nr_).trans ((S724 a nr_).trans ((S723 a nr_).trans ((S722 a nr_).trans (hS a nr_)))))))
                  · refine w_goto hK rfl ?_
                    refine w_inc [(1, 161), (1, 191), (0, 2), (0, (n : Int)), (0, (wyS 2 f_x t)), (0, (((t + 1) : Nat) : Int)), (0, 1)] hK rfl rfl rfl (by omega) (by omega) rfl ?_
                    refine w_goto hK rfl ?_
                    refine w_il hK rfl rfl ?_
                    refine w_al hK rfl rfl ?_
                    refine w_il hK rfl rfl ?_
                    refine w_call [(1, 161), (0, (((t + 1) : Nat) : Int))] hK rfl rfl rfl rfl (Or.inr ⟨_, _, _, rfl, by decide, (by decide), rfl⟩) (r_count C723.F ((t + 1)) (by omega)) ?_
                    rintro _ Mq ⟨rfl, e_⟩
                    subst Mq
                    refine ⟨by show (0 : Nat) ≠ 9; decide, (?_ : Wp 198 _ 288 20 [(1, 161), (1, 191), (0, 2), (0, (n : Int)), (0, (wyS 2 f_x t)), (0, (((t + 1) : Nat) : Int)), (0, 1)] [(0, (unq k ((t + 1)) : Int)), (0, 1)] V723 _)⟩
                    refine w_ge2 hK rfl (by omega) (by omega) (by omega) (by omega) (fun h20 => ?_) (fun h20 => ?_)
                    · exfalso; omega
                    · refine w_il hK rfl rfl ?_
                      refine w_il hK rfl rfl ?_
                      refine w_ne2 hK rfl (by omega) (by omega) (by omega) (by omega) (fun h23 => ?_) (fun h23 => ?_)
                      · exfalso; omega
                      · refine w_il hK rfl rfl ?_
                        refine w_le hK rfl (by omega) (by omega) (fun h25 => ?_) (fun h25 => ?_)
                        · exfalso; omega
                        · refine w_goto hK rfl ?_
                          refine w_inc [(1, 161), (1, 191), (0, 2), (0, (n : Int)), (0, (wyS 2 f_x t)), (0, ((((t + 1) : Nat) : Int) + 1)), (0, 1)] hK rfl rfl rfl (by omega) (by omega) rfl ?_
                          refine w_goto hK rfl ?_
                          exact absurd (dr_self hm.1) (bz_no (by omega))
              · exfalso; omega
        · have lp16 : ∀ (n_ : Nat) (c : Nat) (R2 : Int → Option (Pl k)) (N16 : Mem), 65537 - c = n_ → (c ≤ unq k (t + 1)) → (RS N16 k R2) → ((∀ p : Int, p ≠ 170 → p ≠ 171 → p ≠ 172 → p ≠ 173 → p ≠ 174 → p ≠ 188 → p ≠ 195 → p ≠ 192 → p ≠ 193 → p ≠ 194 → R2 p = R p)) → ((∀ a : Int, (∀ p : Int, isR p → a ≠ p) → N16 a = M a)) → Wp 198 (d + 9) 288 16 [(1, 161), (1, 191), (0, 2), (0, (n : Int)), (0, ((wyS 2 f_x t) + sI (wyG 2 f_x (t + 1)) c)), (0, (((t + 1) : Nat) : Int)), (0, (c : Int))] [] N16 (fun r_ M' => ∃ R' : Int → Option (Pl k), r_ = (0, wyC 3 f_x) ∧ RS M' k R' ∧ (∀ a : Int, (∀ p : Int, isR p → a ≠ p) → M' a = M a) ∧ (∀ p : Int, p ≠ 170 → p ≠ 171 → p ≠ 172 → p ≠ 173 → p ≠ 174 → p ≠ 188 → p ≠ 195 → p ≠ 192 → p ≠ 193 → p ≠ 194 → R' p = R p)) := by
            intro n_
            induction n_ using Nat.strongRecOn with
            | _ n_ ih16 =>
            intro c R2 N16 hm16 hc hC2 hG2 hS2
            have gb_ := wyG_bd (m := 2) hm.1 bx17 (d := t + 1) (c := c) (by omega) (by omega) (by omega) hc
            refine w_il hK rfl rfl ?_
            refine w_al hK rfl rfl ?_
            refine w_il hK rfl rfl ?_
            refine w_call [(1, 161), (0, (((t + 1) : Nat) : Int))] hK rfl rfl rfl rfl (Or.inr ⟨_, _, _, rfl, by decide, (by decide), rfl⟩) (r_count hC2.F ((t + 1)) (by omega)) ?_
            rintro _ Mq ⟨rfl, e_⟩
            subst Mq
            refine ⟨by show (0 : Nat) ≠ 9; decide, (?_ : Wp 198 _ 288 20 [(1, 161), (1, 191), (0, 2), (0, (n : Int)), (0, ((wyS 2 f_x t) + sI (wyG 2 f_x (t + 1)) c)), (0, (((t + 1) : Nat) : Int)), (0, (c : Int))] [(0, (unq k ((t + 1)) : Int)), (0, (c : Int))] N16 _)⟩
            refine w_ge2 hK rfl (by omega) (by omega) (by omega) (by omega) (fun h20 => ?_) (fun h20 => ?_)
            · refine w_inc [(1, 161), (1, 191), (0, 2), (0, (n : Int)), (0, ((wyS 2 f_x t) + sI (wyG 2 f_x (t + 1)) c)), (0, ((((t + 1) : Nat) : Int) + 1)), (0, (c : Int))] hK rfl rfl rfl (by omega) (by omega) rfl ?_
              refine w_goto hK rfl ?_
              have et_ := wy_sum (m := 2) (d := t + 1) hm.1 bx17 (by omega) (by omega)
              rw [show unq k (t + 1) = c by omega] at et_
              have es_ := wyS_s (m := 2) (x := f_x) (t := t)
              rw [show ((wyS 2 f_x t) + sI (wyG 2 f_x (t + 1)) c) = (wyS 2 f_x (t + 1)) by omega]
              exact ih11 _ (by omega) (t + 1) _ (0, (c : Int)) N16 rfl (by omega) hC2 (fun p pn170_ pn171_ pn172_ pn173_ pn174_ pn188_ pn195_ pn192_ pn193_ pn194_ => (hG2 p pn170_ pn171_ pn172_ pn173_ pn174_ pn188_ pn195_ pn192_ pn193_ pn194_)) (fun a nr_ => (hS2 a nr_))
            · refine w_il hK rfl rfl ?_
              refine w_il hK rfl rfl ?_
              refine w_ne2 hK rfl (by omega) (by omega) (by omega) (by omega) (fun h23 => ?_) (fun h23 => ?_)
              · refine w_il hK rfl rfl ?_
                refine w_il hK rfl rfl ?_
                refine w_ne2 hK rfl (by omega) (by omega) (by omega) (by omega) (fun h29 => ?_) (fun h29 => ?_)
                · refine w_al hK rfl rfl ?_
                  refine w_il hK rfl rfl ?_
                  refine w_il hK rfl rfl ?_
                  refine w_al hK rfl rfl ?_
                  refine w_getr (n := 43) (v := 195) hK rfl rfl (by decide) (by decide) rfl rfl rfl rfl ?_
                  refine w_call [(1, 161), (0, (((t + 1) : Nat) : Int)), (0, (c : Int)), (1, 195)] hK rfl rfl rfl rfl (Or.inr ⟨_, _, _, rfl, by decide, (by decide), rfl⟩) (r_mof hC2 (isR_of (p := 195) rfl) ((t + 1)) c (by omega) (by omega)) ?_
                  rintro _ V727 ⟨P727, rfl, C727, S727, F727, f727_0⟩
                  refine ⟨by decide, (?_ : Wp 198 _ 288 41 [(1, 161), (1, 191), (0, 2), (0, (n : Int)), (0, ((wyS 2 f_x t) + sI (wyG 2 f_x (t + 1)) c)), (0, (((t + 1) : Nat) : Int)), (0, (c : Int))] [] V727 _)⟩
                  have dm_ := mnp_dg (k := k) (n := t + 1) (c := c) (by omega)
                  refine w_al hK rfl rfl ?_
                  refine w_al hK rfl rfl ?_
                  refine w_al hK rfl rfl ?_
                  refine w_getr (n := 43) (v := 195) hK rfl rfl (by decide) (by decide) rfl rfl rfl rfl ?_
                  refine w_ic hK rfl ?_
                  refine w_call [(1, 161), (1, 191), (1, 195), (0, 0)] hK rfl rfl rfl rfl (Or.inr ⟨_, _, _, rfl, by decide, (by decide), rfl⟩) (r_isdv C727 ⟨(isR_of (p := 191) rfl), ((F727 191 (by omega)).trans ((hG2 191 (by omega) (by omega) (by omega) (by omega) (by omega) (by omega) (by omega) (by omega) (by omega) (by omega)).trans (show isK R 191 f_x from ⟨isR_of (p := 191) rfl, hx⟩).2))⟩ ⟨(isR_of (p := 195) rfl), f727_0⟩ 0 (by omega) (by omega) (by omega) (by omega) bx17 (mnp_bd.mono (by omega))) ?_
                  rintro _ V728 ⟨P728, rfl, C728, S728, F728, f728_0, f728_1⟩
                  have bv_ := bz_01 (dr 0 f_x (mnp (k := k) ((t + 1)) c) = pz)
                  refine ⟨by show (0 : Nat) ≠ 9; decide, (?_ : Wp 198 _ 288 47 [(1, 161), (1, 191), (0, 2), (0, (n : Int)), (0, ((wyS 2 f_x t) + sI (wyG 2 f_x (t + 1)) c)), (0, (((t + 1) : Nat) : Int)), (0, (c : Int))] [(0, (bz (dr 0 f_x (mnp (k := k) ((t + 1)) c) = pz)))] V728 _)⟩
                  have md_ : bz (dr 0 f_x (mnp (k := k) (t + 1) c) = pz) ≠ 0 → Mn (dq 0 f_x (mnp (k := k) (t + 1) c)) (n - (t + 1)) ∧ Bd (dq 0 f_x (mnp (k := k) (t + 1) c)) 17 := fun q_ => by
                    have md_ := mdq hm.1 bx17 (d := t + 1) (g := (mnp (k := k) (t + 1) c)) mnp_mn (bz_yes q_)
                    exact ⟨⟨md_.2.2.1, md_.2.2.2.trans hm.2⟩, (Bd_is md_.2.2.1).mono (by omega)⟩
                  refine w_ne hK rfl (by omega) (by omega) (fun h47 => ?_) (fun h47 => ?_)
                  · obtain ⟨mq_, bq_⟩ := md_ (by omega)
                    have dq_ := mq_.dg (by omega)
                    refine w_al hK rfl rfl ?_
                    refine w_getr (n := 20) (v := 174) hK rfl rfl (by decide) (by decide) rfl rfl rfl rfl ?_
                    refine w_al hK rfl rfl ?_
                    refine w_il hK rfl rfl ?_
                    refine w_call [(1, 161), (0, 2)] hK rfl rfl rfl rfl (Or.inr ⟨_, _, _, rfl, by decide, (by decide), rfl⟩) (r_left2) ?_
                    rintro _ Mq ⟨rfl, e_⟩
                    subst Mq
                    refine ⟨by show (1 : Nat) ≠ 9; decide, (?_ : Wp 198 _ 288 54 [(1, 161), (1, 191), (0, 2), (0, (n : Int)), (0, ((wyS 2 f_x t) + sI (wyG 2 f_x (t + 1)) c)), (0, (((t + 1) : Nat) : Int)), (0, (c : Int))] [(1, 192), (1, 174)] V728 _)⟩
                    refine w_call [(1, 174), (1, 192)] hK rfl rfl rfl rfl (Or.inl rfl) (r_copy C728 ⟨(isR_of (p := 174) rfl), f728_1⟩ (isR_of (p := 192) rfl) (by omega)) ?_
                    rintro _ V729 ⟨P729, rfl, C729, S729, F729, f729_0⟩
                    refine ⟨by decide, (?_ : Wp 198 _ 288 55 [(1, 161), (1, 191), (0, 2), (0, (n : Int)), (0, ((wyS 2 f_x t) + sI (wyG 2 f_x (t + 1)) c)), (0, (((t + 1) : Nat) : Int)), (0, (c : Int))] [] V729 _)⟩
                    refine w_al hK rfl rfl ?_
                    refine w_al hK rfl rfl ?_
                    refine w_getr (n := 43) (v := 195) hK rfl rfl (by decide) (by decide) rfl rfl rfl rfl ?_
                    refine w_call [(1, 161), (1, 195)] hK rfl rfl rfl rfl (Or.inr ⟨_, _, _, rfl, by decide, (by decide), rfl⟩) (r_isP C729 ⟨(isR_of (p := 195) rfl), ((F729 195 (by omega)).trans ((F728 195 (by omega) (by omega) (by omega) (by omega) (by omega)).trans f727_0))⟩ (by omega) (by omega) (mnp_bd.mono (by omega))) ?_
                    rintro _ V730 ⟨P730, rfl, C730, S730, F730⟩
                    have bv_ := bz_01 (prM (mnp (k := k) ((t + 1)) c))
                    refine ⟨by show (0 : Nat) ≠ 9; decide, (?_ : Wp 198 _ 288 59 [(1, 161), (1, 191), (0, 2), (0, (n : Int)), (0, ((wyS 2 f_x t) + sI (wyG 2 f_x (t + 1)) c)), (0, (((t + 1) : Nat) : Int)), (0, (c : Int))] [(0, (bz (prM (mnp (k := k) ((t + 1)) c))))] V730 _)⟩
                    refine w_eq hK rfl (by omega) (by omega) (fun h59 => ?_) (fun h59 => ?_)
                    · refine w_inc [(1, 161), (1, 191), (0, 2), (0, (n : Int)), (0, ((wyS 2 f_x t) + sI (wyG 2 f_x (t + 1)) c)), (0, (((t + 1) : Nat) : Int)), (0, ((c : Int) + 1))] hK rfl rfl rfl (by omega) (by omega) rfl ?_
                      refine w_goto hK rfl ?_
                      have eg_ : wyG 2 f_x (t + 1) c = 0 := wyG_1 (by omega) (by omega)
                      rw [show ((wyS 2 f_x t) + sI (wyG 2 f_x (t + 1)) c) = ((wyS 2 f_x t) + sI (wyG 2 f_x (t + 1)) (c + 1)) from by show _ = (wyS 2 f_x t) + (sI (wyG 2 f_x (t + 1)) c + wyG 2 f_x (t + 1) c); omega]
                      exact ih16 _ (by omega) (c + 1) _ V730 rfl (by omega) C730 (fun p pn170_ pn171_ pn172_ pn173_ pn174_ pn188_ pn195_ pn192_ pn193_ pn194_ => ((F730 p pn170_ pn171_ pn172_ pn173_ pn174_ pn188_).trans ((F729 p pn192_).trans ((F728 p pn170_ pn171_ pn172_ pn173_ pn174_).trans ((F727 p pn195_).trans (hG2 p pn170_ pn171_ pn172_ pn173_ pn174_ pn188_ pn195_ pn192_ pn193_ pn194_)))))) (fun a nr_ => ((S730 a nr_).trans ((S729 a nr_).trans ((S728 a nr_).trans ((S727 a nr_).trans (hS2 a nr_))))))
                    · refine w_il hK rfl rfl ?_
                      refine w_al hK rfl rfl ?_
                      refine w_al hK rfl rfl ?_
                      refine w_il hK rfl rfl ?_
                      refine w_call [(1, 161), (0, 2)] hK rfl rfl rfl rfl (Or.inr ⟨_, _, _, rfl, by decide, (by decide), rfl⟩) (r_left2) ?_
                      rintro _ Mq ⟨rfl, e_⟩
                      subst Mq
                      refine ⟨by show (1 : Nat) ≠ 9; decide, (?_ : Wp 198 _ 288 65 [(1, 161), (1, 191), (0, 2), (0, (n : Int)), (0, ((wyS 2 f_x t) + sI (wyG 2 f_x (t + 1)) c)), (0, (((t + 1) : Nat) : Int)), (0, (c : Int))] [(1, 192), (1, 161), (0, ((wyS 2 f_x t) + sI (wyG 2 f_x (t + 1)) c))] V730 _)⟩
                      refine w_il hK rfl rfl ?_
                      refine w_ic hK rfl ?_
                      refine w_add hK rfl (by omega) (by omega) ?_
                      have wb_ := wyC_le 2 (dq 0 f_x (mnp (k := k) ((t + 1)) c)) bq_
                      refine w_call [(1, 161), (1, 192), (0, (2 + 1))] hK rfl rfl rfl rfl (Or.inr ⟨_, _, _, rfl, by decide, (by decide), rfl⟩) (r_wy3 C730 ((F730 192 (by omega) (by omega) (by omega) (by omega) (by omega) (by omega)).trans f729_0) mq_ (by omega)) ?_
                      rintro _ V731 ⟨P731, rfl, C731, S731, F731⟩
                      refine ⟨by show (0 : Nat) ≠ 9; decide, (?_ : Wp 198 _ 288 69 [(1, 161), (1, 191), (0, 2), (0, (n : Int)), (0, ((wyS 2 f_x t) + sI (wyG 2 f_x (t + 1)) c)), (0, (((t + 1) : Nat) : Int)), (0, (c : Int))] [(0, (wyC 2 (dq 0 f_x (mnp (k := k) ((t + 1)) c)))), (0, ((wyS 2 f_x t) + sI (wyG 2 f_x (t + 1)) c))] V731 _)⟩
                      refine w_add hK rfl (by omega) (by omega) ?_
                      refine w_is [(1, 161), (1, 191), (0, 2), (0, (n : Int)), (0, (((wyS 2 f_x t) + sI (wyG 2 f_x (t + 1)) c) + (wyC 2 (dq 0 f_x (mnp (k := k) ((t + 1)) c))))), (0, (((t + 1) : Nat) : Int)), (0, (c : Int))] hK rfl rfl rfl ?_
                      refine w_inc [(1, 161), (1, 191), (0, 2), (0, (n : Int)), (0, (((wyS 2 f_x t) + sI (wyG 2 f_x (t + 1)) c) + (wyC 2 (dq 0 f_x (mnp (k := k) ((t + 1)) c))))), (0, (((t + 1) : Nat) : Int)), (0, ((c : Int) + 1))] hK rfl rfl rfl (by omega) (by omega) rfl ?_
                      refine w_goto hK rfl ?_
                      have eg_ : wyG 2 f_x (t + 1) c = wyC 2 (dq 0 f_x (mnp (k := k) (t + 1) c)) := wyG_2 (by omega) (by omega)
                      rw [show (((wyS 2 f_x t) + sI (wyG 2 f_x (t + 1)) c) + (wyC 2 (dq 0 f_x (mnp (k := k) ((t + 1)) c)))) = ((wyS 2 f_x t) + sI (wyG 2 f_x (t + 1)) (c + 1)) from by show _ = (wyS 2 f_x t) + (sI (wyG 2 f_x (t + 1)) c + wyG 2 f_x (t + 1) c); omega]
                      exact ih16 _ (by omega) (c + 1) _ V731 rfl (by omega) C731 (fun p pn170_ pn171_ pn172_ pn173_ pn174_ pn188_ pn195_ pn192_ pn193_ pn194_ => ((F731 p pn170_ pn171_ pn172_ pn173_ pn174_ pn188_ pn195_ pn193_ pn194_).trans ((F730 p pn170_ pn171_ pn172_ pn173_ pn174_ pn188_).trans ((F729 p pn192_).trans ((F728 p pn170_ pn171_ pn172_ pn173_ pn174_).trans ((F727 p pn195_).trans (hG2 p pn170_ pn171_ pn172_ pn173_ pn174_ pn188_ pn195_ pn192_ pn193_ pn194_))))))) (fun a nr_ => ((S731 a nr_).trans ((S730 a nr_).trans ((S729 a nr_).trans ((S728 a nr_).trans ((S727 a nr_).trans (hS2 a nr_)))))))
                  · refine w_goto hK rfl ?_
                    refine w_inc [(1, 161), (1, 191), (0, 2), (0, (n : Int)), (0, ((wyS 2 f_x t) + sI (wyG 2 f_x (t + 1)) c)), (0, (((t + 1) : Nat) : Int)), (0, ((c : Int) + 1))] hK rfl rfl rfl (by omega) (by omega) rfl ?_
                    refine w_goto hK rfl ?_
                    have eg_ : wyG 2 f_x (t + 1) c = 0 := wyG_0 (by omega)
                    rw [show ((wyS 2 f_x t) + sI (wyG 2 f_x (t + 1)) c) = ((wyS 2 f_x t) + sI (wyG 2 f_x (t + 1)) (c + 1)) from by show _ = (wyS 2 f_x t) + (sI (wyG 2 f_x (t + 1)) c + wyG 2 f_x (t + 1) c); omega]
                    exact ih16 _ (by omega) (c + 1) _ V728 rfl (by omega) C728 (fun p pn170_ pn171_ pn172_ pn173_ pn174_ pn188_ pn195_ pn192_ pn193_ pn194_ => ((F728 p pn170_ pn171_ pn172_ pn173_ pn174_).trans ((F727 p pn195_).trans (hG2 p pn170_ pn171_ pn172_ pn173_ pn174_ pn188_ pn195_ pn192_ pn193_ pn194_)))) (fun a nr_ => ((S728 a nr_).trans ((S727 a nr_).trans (hS2 a nr_))))
                · exfalso; omega
              · exfalso; omega
          rw [show (wyS 2 f_x t) = ((wyS 2 f_x t) + sI (wyG 2 f_x (t + 1)) 0) from (Int.add_zero _).symm]
          exact lp16 _ 0 _ N11 rfl (by omega) hC (fun p pn170_ pn171_ pn172_ pn173_ pn174_ pn188_ pn195_ pn192_ pn193_ pn194_ => (hG p pn170_ pn171_ pn172_ pn173_ pn174_ pn188_ pn195_ pn192_ pn193_ pn194_)) (fun a nr_ => (hS a nr_))
    exact lp11 _ 0 _ (3, 0) M rfl (by omega) C (fun p pn170_ pn171_ pn172_ pn173_ pn174_ pn188_ pn195_ pn192_ pn193_ pn194_ => rfl) (fun a nr_ => rfl)
  · refine w_ic hK rfl ?_
    refine w_iret hK rfl rfl ?_
    exact ⟨_, congrArg (Prod.mk 0) (wy_0 (by omega)).symm, C, (fun a nr_ => rfl), (fun p pn170_ pn171_ pn172_ pn173_ pn174_ pn188_ pn195_ pn192_ pn193_ pn194_ => rfl)⟩
set_option maxRecDepth 100000 in
theorem r_wy1 {d : Nat} {M : Mem} {k : Nat} {R : Int → Option (Pl k)} (C : RS M k R) {f_x : Pl k} (hx : R 180 = some f_x) {n : Nat} (hm : Mn f_x n) (hn : n ≤ 4) : Ct 198 (d + 10) 288 [(1, 161), (1, 180), (0, 1)] M (fun r_ M' => ∃ R' : Int → Option (Pl k), r_ = (0, wyC 4 f_x) ∧ RS M' k R' ∧ (∀ a : Int, (∀ p : Int, isR p → a ≠ p) → M' a = M a) ∧ (∀ p : Int, p ≠ 170 → p ≠ 171 → p ≠ 172 → p ≠ 173 → p ≠ 174 → p ≠ 188 → p ≠ 195 → p ≠ 191 → p ≠ 192 → p ≠ 193 → p ≠ 194 → R' p = R p)) := by
  have hK : cd 288 = k288 := rfl
  have dn_ : dg f_x = (n : Int) := hm.dg (by omega)
  have bx17 : Bd f_x 17 := (Bd_is hm.1).mono (by omega)
  have bx9 : Bd f_x 9 := (Bd_is hm.1).mono (by omega)
  show Wp 198 _ 288 0 [(1, 161), (1, 180), (0, 1), (3, 0), (3, 0), (3, 0), (3, 0)] [] M _
  refine w_al hK rfl rfl ?_
  have dI_ : -1 ≤ dg f_x ∧ dg f_x ≤ 47 := C.dI (show isK R 180 f_x from ⟨isR_of (p := 180) rfl, hx⟩)
  refine w_call [(1, 180)] hK rfl rfl rfl rfl (Or.inl rfl) (r_deg C (show isK R 180 f_x from ⟨isR_of (p := 180) rfl, hx⟩)) ?_
  rintro _ Mq ⟨rfl, e_⟩
  subst Mq
  refine ⟨by show (0 : Nat) ≠ 9; decide, (?_ : Wp 198 _ 288 2 [(1, 161), (1, 180), (0, 1), (3, 0), (3, 0), (3, 0), (3, 0)] [(0, (dg f_x))] M _)⟩
  rw [dn_]
  refine w_is [(1, 161), (1, 180), (0, 1), (0, (n : Int)), (3, 0), (3, 0), (3, 0)] hK rfl rfl rfl ?_
  refine w_il hK rfl rfl ?_
  refine w_ne hK rfl (by omega) (by omega) (fun h4 => ?_) (fun h4 => ?_)
  · have n1_ : 1 ≤ n := by omega
    refine w_ic hK rfl ?_
    refine w_is [(1, 161), (1, 180), (0, 1), (0, (n : Int)), (0, 0), (3, 0), (3, 0)] hK rfl rfl rfl ?_
    refine w_ic hK rfl ?_
    refine w_is [(1, 161), (1, 180), (0, 1), (0, (n : Int)), (0, 0), (0, 1), (3, 0)] hK rfl rfl rfl ?_
    have lp11 : ∀ (n_ : Nat) (t : Nat) (R1 : Int → Option (Pl k)) (w6 : AV) (N11 : Mem), 5 - t = n_ → (t ≤ n) → (RS N11 k R1) → ((∀ p : Int, p ≠ 170 → p ≠ 171 → p ≠ 172 → p ≠ 173 → p ≠ 174 → p ≠ 188 → p ≠ 195 → p ≠ 191 → p ≠ 192 → p ≠ 193 → p ≠ 194 → R1 p = R p)) → ((∀ a : Int, (∀ p : Int, isR p → a ≠ p) → N11 a = M a)) → Wp 198 (d + 10) 288 11 [(1, 161), (1, 180), (0, 1), (0, (n : Int)), (0, (wyS 3 f_x t)), (0, (((t + 1) : Nat) : Int)), w6] [] N11 (fun r_ M' => ∃ R' : Int → Option (Pl k), r_ = (0, wyC 4 f_x) ∧ RS M' k R' ∧ (∀ a : Int, (∀ p : Int, isR p → a ≠ p) → M' a = M a) ∧ (∀ p : Int, p ≠ 170 → p ≠ 171 → p ≠ 172 → p ≠ 173 → p ≠ 174 → p ≠ 188 → p ≠ 195 → p ≠ 191 → p ≠ 192 → p ≠ 193 → p ≠ 194 → R' p = R p)) := by
      intro n_
      induction n_ using Nat.strongRecOn with
      | _ n_ ih11 =>
      intro t R1 w6 N11 hm11 ht hC hG hS
      have sb_ := wyS_I (m := 3) hm.1 bx17 (by omega) ht
      have u4_ : t < 4 → 4 ≤ unq k (t + 1) ∧ unq k (t + 1) ≤ 65536 := fun _ => ⟨by rw [unq_s]; have := unq_pos k t; have := qq_ge k; have := Nat.mul_le_mul_right (qq k) (show 1 ≤ unq k t by omega); omega, (unq_4 (by omega)).1⟩
      refine w_il hK rfl rfl ?_
      refine w_il hK rfl rfl ?_
      refine w_gt2 hK rfl (by omega) (by omega) (by omega) (by omega) (fun h13 => ?_) (fun h13 => ?_)
      · refine w_il hK rfl rfl ?_
        refine w_iret hK rfl rfl ?_
        exact ⟨_, congrArg (Prod.mk 0) (by rw [show t = n by omega]; exact (wy_all hm.1 bx17 n1_ (by omega) hm).symm), hC, (fun a nr_ => (hS a nr_)), (fun p pn170_ pn171_ pn172_ pn173_ pn174_ pn188_ pn195_ pn191_ pn192_ pn193_ pn194_ => (hG p pn170_ pn171_ pn172_ pn173_ pn174_ pn188_ pn195_ pn191_ pn192_ pn193_ pn194_))⟩
      · refine w_ic hK rfl ?_
        refine w_is [(1, 161), (1, 180), (0, 1), (0, (n : Int)), (0, (wyS 3 f_x t)), (0, (((t + 1) : Nat) : Int)), (0, 0)] hK rfl rfl rfl ?_
        by_cases hen_ : t + 1 = n
        · refine w_il hK rfl rfl ?_
          refine w_al hK rfl rfl ?_
          refine w_il hK rfl rfl ?_
          refine w_call [(1, 161), (0, (((t + 1) : Nat) : Int))] hK rfl rfl rfl rfl (Or.inr ⟨_, _, _, rfl, by decide, (by decide), rfl⟩) (r_count hC.F ((t + 1)) (by omega)) ?_
          rintro _ Mq ⟨rfl, e_⟩
          subst Mq
          refine ⟨by show (0 : Nat) ≠ 9; decide, (?_ : Wp 198 _ 288 20 [(1, 161), (1, 180), (0, 1), (0, (n : Int)), (0, (wyS 3 f_x t)), (0, (((t + 1) : Nat) : Int)), (0, 0)] [(0, (unq k ((t + 1)) : Int)), (0, 0)] N11 _)⟩
          refine w_ge2 hK rfl (by omega) (by omega) (by omega) (by omega) (fun h20 => ?_) (fun h20 => ?_)
          · exfalso; omega
          · refine w_il hK rfl rfl ?_
            refine w_il hK rfl rfl ?_
            refine w_ne2 hK rfl (by omega) (by omega) (by omega) (by omega) (fun h23 => ?_) (fun h23 => ?_)
            · exfalso; omega
            · refine w_il hK rfl rfl ?_
              refine w_le hK rfl (by omega) (by omega) (fun h25 => ?_) (fun h25 => ?_)
              · refine w_il hK rfl rfl ?_
                refine w_il hK rfl rfl ?_
                refine w_ne2 hK rfl (by omega) (by omega) (by omega) (by omega) (fun h29 => ?_) (fun h29 => ?_)
                · exfalso; omega
                · refine w_al hK rfl rfl ?_
                  refine w_al hK rfl rfl ?_
                  refine w_getr (n := 43) (v := 195) hK rfl rfl (by decide) (by decide) rfl rfl rfl rfl ?_
                  refine w_call [(1, 180), (1, 195)] hK rfl rfl rfl rfl (Or.inl rfl) (r_copy hC ⟨(isR_of (p := 180) rfl), ((hG 180 (by omega) (by omega) (by omega) (by omega) (by omega) (by omega) (by omega) (by omega) (by omega) (by omega) (by omega)).trans (show isK R 180 f_x from ⟨isR_of (p := 180) rfl, hx⟩).2)⟩ (isR_of (p := 195) rfl) (by omega)) ?_
                  rintro _ V732 ⟨P732, rfl, C732, S732, F732, f732_0⟩
                  refine ⟨by decide, (?_ : Wp 198 _ 288 34 [(1, 161), (1, 180), (0, 1), (0, (n : Int)), (0, (wyS 3 f_x t)), (0, (((t + 1) : Nat) : Int)), (0, 0)] [] V732 _)⟩
                  refine w_goto hK rfl ?_
                  refine w_al hK rfl rfl ?_
                  refine w_al hK rfl rfl ?_
                  refine w_al hK rfl rfl ?_
                  refine w_getr (n := 43) (v := 195) hK rfl rfl (by decide) (by decide) rfl rfl rfl rfl ?_
                  refine w_ic hK rfl ?_
                  refine w_call [(1, 161), (1, 180), (1, 195), (0, 0)] hK rfl rfl rfl rfl (Or.inr ⟨_, _, _, rfl, by decide, (by decide), rfl⟩) (r_isdv C732 ⟨(isR_of (p := 180) rfl), ((F732 180 (by omega)).trans ((hG 180 (by omega) (by omega) (by omega) (by omega) (by omega) (by omega) (by omega) (by omega) (by omega) (by omega) (by omega)).trans (show isK R 180 f_x from ⟨isR_of (p := 180) rfl, hx⟩).2))⟩ ⟨(isR_of (p := 195) rfl), f732_0⟩ 0 (by omega) (by omega) (by omega) (by omega) bx17 bx17) ?_
                  rintro _ V733 ⟨P733, rfl, C733, S733, F733, f733_0, f733_1⟩
                  have bv_ := bz_01 (dr 0 f_x f_x = pz)
                  refine ⟨by show (0 : Nat) ≠ 9; decide, (?_ : Wp 198 _ 288 47 [(1, 161), (1, 180), (0, 1), (0, (n : Int)), (0, (wyS 3 f_x t)), (0, (((t + 1) : Nat) : Int)), (0, 0)] [(0, (bz (dr 0 f_x f_x = pz)))] V733 _)⟩
                  have md_ : bz (dr 0 f_x f_x = pz) ≠ 0 → Mn (dq 0 f_x f_x) (n - (t + 1)) ∧ Bd (dq 0 f_x f_x) 17 := fun q_ => by
                    have md_ := mdq hm.1 bx17 (d := t + 1) (g := f_x) (by rw [hen_]; exact hm) (bz_yes q_)
                    exact ⟨⟨md_.2.2.1, md_.2.2.2.trans hm.2⟩, (Bd_is md_.2.2.1).mono (by omega)⟩
                  refine w_ne hK rfl (by omega) (by omega) (fun h47 => ?_) (fun h47 => ?_)
                  · obtain ⟨mq_, bq_⟩ := md_ (by omega)
                    have dq_ := mq_.dg (by omega)
                    refine w_al hK rfl rfl ?_
                    refine w_getr (n := 20) (v := 174) hK rfl rfl (by decide) (by decide) rfl rfl rfl rfl ?_
                    refine w_al hK rfl rfl ?_
                    refine w_il hK rfl rfl ?_
                    refine w_call [(1, 161), (0, 1)] hK rfl rfl rfl rfl (Or.inr ⟨_, _, _, rfl, by decide, (by decide), rfl⟩) (r_left1) ?_
                    rintro _ Mq ⟨rfl, e_⟩
                    subst Mq
                    refine ⟨by show (1 : Nat) ≠ 9; decide, (?_ : Wp 198 _ 288 54 [(1, 161), (1, 180), (0, 1), (0, (n : Int)), (0, (wyS 3 f_x t)), (0, (((t + 1) : Nat) : Int)), (0, 0)] [(1, 191), (1, 174)] V733 _)⟩
                    refine w_call [(1, 174), (1, 191)] hK rfl rfl rfl rfl (Or.inl rfl) (r_copy C733 ⟨(isR_of (p := 174) rfl), f733_1⟩ (isR_of (p := 191) rfl) (by omega)) ?_
                    rintro _ V734 ⟨P734, rfl, C734, S734, F734, f734_0⟩
                    refine ⟨by decide, (?_ : Wp 198 _ 288 55 [(1, 161), (1, 180), (0, 1), (0, (n : Int)), (0, (wyS 3 f_x t)), (0, (((t + 1) : Nat) : Int)), (0, 0)] [] V734 _)⟩
                    refine w_al hK rfl rfl ?_
                    refine w_al hK rfl rfl ?_
                    refine w_getr (n := 43) (v := 195) hK rfl rfl (by decide) (by decide) rfl rfl rfl rfl ?_
                    refine w_call [(1, 161), (1, 195)] hK rfl rfl rfl rfl (Or.inr ⟨_, _, _, rfl, by decide, (by decide), rfl⟩) (r_isP C734 ⟨(isR_of (p := 195) rfl), ((F734 195 (by omega)).trans ((F733 195 (by omega) (by omega) (by omega) (by omega) (by omega)).trans f732_0))⟩ (by omega) (by omega) bx9) ?_
                    rintro _ V735 ⟨P735, rfl, C735, S735, F735⟩
                    have bv_ := bz_01 (prM f_x)
                    refine ⟨by show (0 : Nat) ≠ 9; decide, (?_ : Wp 198 _ 288 59 [(1, 161), (1, 180), (0, 1), (0, (n : Int)), (0, (wyS 3 f_x t)), (0, (((t + 1) : Nat) : Int)), (0, 0)] [(0, (bz (prM f_x)))] V735 _)⟩
                    refine w_eq hK rfl (by omega) (by omega) (fun h59 => ?_) (fun h59 => ?_)
                    · refine w_inc [(1, 161), (1, 180), (0, 1), (0, (n : Int)), (0, (wyS 3 f_x t)), (0, (((t + 1) : Nat) : Int)), (0, 1)] hK rfl rfl rfl (by omega) (by omega) rfl ?_
                      refine w_goto hK rfl ?_
                      refine w_il hK rfl rfl ?_
                      refine w_al hK rfl rfl ?_
                      refine w_il hK rfl rfl ?_
                      refine w_call [(1, 161), (0, (((t + 1) : Nat) : Int))] hK rfl rfl rfl rfl (Or.inr ⟨_, _, _, rfl, by decide, (by decide), rfl⟩) (r_count C735.F ((t + 1)) (by omega)) ?_
                      rintro _ Mq ⟨rfl, e_⟩
                      subst Mq
                      refine ⟨by show (0 : Nat) ≠ 9; decide, (?_ : Wp 198 _ 288 20 [(1, 161), (1, 180), (0, 1), (0, (n : Int)), (0, (wyS 3 f_x t)), (0, (((t + 1) : Nat) : Int)), (0, 1)] [(0, (unq k ((t + 1)) : Int)), (0, 1)] V735 _)⟩
                      refine w_ge2 hK rfl (by omega) (by omega) (by omega) (by omega) (fun h20 => ?_) (fun h20 => ?_)
                      · exfalso; omega
                      · refine w_il hK rfl rfl ?_
                        refine w_il hK rfl rfl ?_
                        refine w_ne2 hK rfl (by omega) (by omega) (by omega) (by omega) (fun h23 => ?_) (fun h23 => ?_)
                        · exfalso; omega
                        · refine w_il hK rfl rfl ?_
                          refine w_le hK rfl (by omega) (by omega) (fun h25 => ?_) (fun h25 => ?_)
                          · exfalso; omega
                          · refine w_goto hK rfl ?_
                            refine w_inc [(1, 161), (1, 180), (0, 1), (0, (n : Int)), (0, (wyS 3 f_x t)), (0, ((((t + 1) : Nat) : Int) + 1)), (0, 1)] hK rfl rfl rfl (by omega) (by omega) rfl ?_
                            refine w_goto hK rfl ?_
                            have et_ : sI (wyF 3 f_x (t + 1)) (trN k (dg f_x) ((t + 1 : Nat) : Int)) = bz (prM f_x) := by rw [hen_]; exact wy_top hm.1 bx17 n1_ (by omega) hm
                            have es_ := wyS_s (m := 3) (x := f_x) (t := t)
                            rw [show (wyS 3 f_x t) = (wyS 3 f_x (t + 1)) by omega]
                            exact ih11 _ (by omega) (t + 1) _ (0, 1) V735 rfl (by omega) C735 (fun p pn170_ pn171_ pn172_ pn173_ pn174_ pn188_ pn195_ pn191_ pn192_ pn193_ pn194_ => ((F735 p pn170_ pn171_ pn172_ pn173_ pn174_ pn188_).trans ((F734 p pn191_).trans ((F733 p pn170_ pn171_ pn172_ pn173_ pn174_).trans ((F732 p pn195_).trans (hG p pn170_ pn171_ pn172_ pn173_ pn174_ pn188_ pn195_ pn191_ pn192_ pn193_ pn194_)))))) (fun a nr_ => ((S735 a nr_).trans ((S734 a nr_).trans ((S733 a nr_).trans ((S732 a nr_).trans (hS a nr_))))))
                    · refine w_il hK rfl rfl ?_
                      refine w_al hK rfl rfl ?_
                      refine w_al hK rfl rfl ?_
                      refine w_il hK rfl rfl ?_
                      refine w_call [(1, 161), (0, 1)] hK rfl rfl rfl rfl (Or.inr ⟨_, _, _, rfl, by decide, (by decide), rfl⟩) (r_left1) ?_
                      rintro _ Mq ⟨rfl, e_⟩
                      subst Mq
                      refine ⟨by show (1 : Nat) ≠ 9; decide, (?_ : Wp 198 _ 288 65 [(1, 161), (1, 180), (0, 1), (0, (n : Int)), (0, (wyS 3 f_x t)), (0, (((t + 1) : Nat) : Int)), (0, 0)] [(1, 191), (1, 161), (0, (wyS 3 f_x t))] V735 _)⟩
                      refine w_il hK rfl rfl ?_
                      refine w_ic hK rfl ?_
                      refine w_add hK rfl (by omega) (by omega) ?_
                      have wb_ := wyC_le 3 (dq 0 f_x f_x) bq_
                      refine w_call [(1, 161), (1, 191), (0, (1 + 1))] hK rfl rfl rfl rfl (Or.inr ⟨_, _, _, rfl, by decide, (by decide), rfl⟩) (r_wy2 C735 ((F735 191 (by omega) (by omega) (by omega) (by omega) (by omega) (by omega)).trans f734_0) mq_ (by omega)) ?_
                      rintro _ V736 ⟨P736, rfl, C736, S736, F736⟩
                      refine ⟨by show (0 : Nat) ≠ 9; decide, (?_ : Wp 198 _ 288 69 [(1, 161), (1, 180), (0, 1), (0, (n : Int)), (0, (wyS 3 f_x t)), (0, (((t + 1) : Nat) : Int)), (0, 0)] [(0, (wyC 3 (dq 0 f_x f_x))), (0, (wyS 3 f_x t))] V736 _)⟩
                      refine w_add hK rfl (by omega) (by omega) ?_
                      refine w_is [(1, 161), (1, 180), (0, 1), (0, (n : Int)), (0, ((wyS 3 f_x t) + (wyC 3 (dq 0 f_x f_x)))), (0, (((t + 1) : Nat) : Int)), (0, 0)] hK rfl rfl rfl ?_
                      refine w_inc [(1, 161), (1, 180), (0, 1), (0, (n : Int)), (0, ((wyS 3 f_x t) + (wyC 3 (dq 0 f_x f_x)))), (0, (((t + 1) : Nat) : Int)), (0, 1)] hK rfl rfl rfl (by omega) (by omega) rfl ?_
                      refine w_goto hK rfl ?_
                      refine w_il hK rfl rfl ?_
                      refine w_al hK rfl rfl ?_
                      refine w_il hK rfl rfl ?_
                      refine w_call [(1, 161), (0, (((t + 1) : Nat) : Int))] hK rfl rfl rfl rfl (Or.inr ⟨_, _, _, rfl, by decide, (by decide), rfl⟩) (r_count C736.F ((t + 1)) (by omega)) ?_
                      rintro _ Mq ⟨rfl, e_⟩
                      subst Mq
                      refine ⟨by show (0 : Nat) ≠ 9; decide, (?_ : Wp 198 _ 288 20 [(1, 161), (1, 180), (0, 1), (0, (n : Int)), (0, ((wyS 3 f_x t) + (wyC 3 (dq 0 f_x f_x)))), (0, (((t + 1) : Nat) : Int)), (0, 1)] [(0, (unq k ((t + 1)) : Int)), (0, 1)] V736 _)⟩
                      refine w_ge2 hK rfl (by omega) (by omega) (by omega) (by omega) (fun h20 => ?_) (fun h20 => ?_)
                      · exfalso; omega
                      · refine w_il hK rfl rfl ?_
                        refine w_il hK rfl rfl ?_
                        refine w_ne2 hK rfl (by omega) (by omega) (by omega) (by omega) (fun h23 => ?_) (fun h23 => ?_)
                        · exfalso; omega
                        · refine w_il hK rfl rfl ?_
                          refine w_le hK rfl (by omega) (by omega) (fun h25 => ?_) (fun h25 => ?_)
                          · exfalso; omega
                          · refine w_goto hK rfl ?_
                            refine w_inc [(1, 161), (1, 180), (0, 1), (0, (n : Int)), (0, ((wyS 3 f_x t) + (wyC 3 (dq 0 f_x f_x)))), (0, ((((t + 1) : Nat) : Int) + 1)), (0, 1)] hK rfl rfl rfl (by omega) (by omega) rfl ?_
                            refine w_goto hK rfl ?_
                            have et_ : sI (wyF 3 f_x (t + 1)) (trN k (dg f_x) ((t + 1 : Nat) : Int)) = bz (prM f_x) := by rw [hen_]; exact wy_top hm.1 bx17 n1_ (by omega) hm
                            have w0_ := wy_0 (m := 3) (x := dq 0 f_x f_x) (by omega)
                            have es_ := wyS_s (m := 3) (x := f_x) (t := t)
                            rw [show ((wyS 3 f_x t) + (wyC 3 (dq 0 f_x f_x))) = (wyS 3 f_x (t + 1)) by omega]
                            exact ih11 _ (by omega) (t + 1) _ (0, 1) V736 rfl (by omega) C736 (fun p pn170_ pn171_ pn172_ pn173_ pn174_ pn188_ pn195_ pn191_ pn192_ pn193_ pn194_ => ((F736 p pn170_ pn171_ pn172_ pn173_ pn174_ pn188_ pn195_ pn192_ pn193_ pn194_).trans ((F735 p pn170_ pn171_ pn172_ pn173_ pn174_ pn188_).trans ((F734 p pn191_).trans ((F733 p pn170_ pn171_ pn172_ pn173_ pn174_).trans ((F732 p pn195_).trans (hG p pn170_ pn171_ pn172_ pn173_ pn174_ pn188_ pn195_ pn191_ pn192_ pn193_ pn194_))))))) (fun a nr_ => ((S736 a nr_).trans ((S735 a nr_).trans ((S734 a nr_).trans ((S733 a nr_).trans ((S732 a nr_).trans (hS a nr_)))))))
                  · refine w_goto hK rfl ?_
                    refine w_inc [(1, 161), (1, 180), (0, 1), (0, (n : Int)), (0, (wyS 3 f_x t)), (0, (((t + 1) : Nat) : Int)), (0, 1)] hK rfl rfl rfl (by omega) (by omega) rfl ?_
                    refine w_goto hK rfl ?_
                    refine w_il hK rfl rfl ?_
                    refine w_al hK rfl rfl ?_
                    refine w_il hK rfl rfl ?_
                    refine w_call [(1, 161), (0, (((t + 1) : Nat) : Int))] hK rfl rfl rfl rfl (Or.inr ⟨_, _, _, rfl, by decide, (by decide), rfl⟩) (r_count C733.F ((t + 1)) (by omega)) ?_
                    rintro _ Mq ⟨rfl, e_⟩
                    subst Mq
                    refine ⟨by show (0 : Nat) ≠ 9; decide, (?_ : Wp 198 _ 288 20 [(1, 161), (1, 180), (0, 1), (0, (n : Int)), (0, (wyS 3 f_x t)), (0, (((t + 1) : Nat) : Int)), (0, 1)] [(0, (unq k ((t + 1)) : Int)), (0, 1)] V733 _)⟩
                    refine w_ge2 hK rfl (by omega) (by omega) (by omega) (by omega) (fun h20 => ?_) (fun h20 => ?_)
                    · exfalso; omega
                    · refine w_il hK rfl rfl ?_
                      refine w_il hK rfl rfl ?_
                      refine w_ne2 hK rfl (by omega) (by omega) (by omega) (by omega) (fun h23 => ?_) (fun h23 => ?_)
                      · exfalso; omega
                      · refine w_il hK rfl rfl ?_
                        refine w_le hK rfl (by omega) (by omega) (fun h25 => ?_) (fun h25 => ?_)
                        · exfalso; omega
                        · refine w_goto hK rfl ?_
                          refine w_inc [(1, 161), (1, 180), (0, 1), (0, (n : Int)), (0, (wyS 3 f_x t)), (0, ((((t + 1) : Nat) : Int) + 1)), (0, 1)] hK rfl rfl rfl (by omega) (by omega) rfl ?_
                          refine w_goto hK rfl ?_
                          exact absurd (dr_self hm.1) (bz_no (by omega))
              · exfalso; omega
        · have lp16 : ∀ (n_ : Nat) (c : Nat) (R2 : Int → Option (Pl k)) (N16 : Mem), 65537 - c = n_ → (c ≤ unq k (t + 1)) → (RS N16 k R2) → ((∀ p : Int, p ≠ 170 → p ≠ 171 → p ≠ 172 → p ≠ 173 → p ≠ 174 → p ≠ 188 → p ≠ 195 → p ≠ 191 → p ≠ 192 → p ≠ 193 → p ≠ 194 → R2 p = R p)) → ((∀ a : Int, (∀ p : Int, isR p → a ≠ p) → N16 a = M a)) → Wp 198 (d + 10) 288 16 [(1, 161), (1, 180), (0, 1), (0, (n : Int)), (0, ((wyS 3 f_x t) + sI (wyG 3 f_x (t + 1)) c)), (0, (((t + 1) : Nat) : Int)), (0, (c : Int))] [] N16 (fun r_ M' => ∃ R' : Int → Option (Pl k), r_ = (0, wyC 4 f_x) ∧ RS M' k R' ∧ (∀ a : Int, (∀ p : Int, isR p → a ≠ p) → M' a = M a) ∧ (∀ p : Int, p ≠ 170 → p ≠ 171 → p ≠ 172 → p ≠ 173 → p ≠ 174 → p ≠ 188 → p ≠ 195 → p ≠ 191 → p ≠ 192 → p ≠ 193 → p ≠ 194 → R' p = R p)) := by
            intro n_
            induction n_ using Nat.strongRecOn with
            | _ n_ ih16 =>
            intro c R2 N16 hm16 hc hC2 hG2 hS2
            have gb_ := wyG_bd (m := 3) hm.1 bx17 (d := t + 1) (c := c) (by omega) (by omega) (by omega) hc
            refine w_il hK rfl rfl ?_
            refine w_al hK rfl rfl ?_
            refine w_il hK rfl rfl ?_
            refine w_call [(1, 161), (0, (((t + 1) : Nat) : Int))] hK rfl rfl rfl rfl (Or.inr ⟨_, _, _, rfl, by decide, (by decide), rfl⟩) (r_count hC2.F ((t + 1)) (by omega)) ?_
            rintro _ Mq ⟨rfl, e_⟩
            subst Mq
            refine ⟨by show (0 : Nat) ≠ 9; decide, (?_ : Wp 198 _ 288 20 [(1, 161), (1, 180), (0, 1), (0, (n : Int)), (0, ((wyS 3 f_x t) + sI (wyG 3 f_x (t + 1)) c)), (0, (((t + 1) : Nat) : Int)), (0, (c : Int))] [(0, (unq k ((t + 1)) : Int)), (0, (c : Int))] N16 _)⟩
            refine w_ge2 hK rfl (by omega) (by omega) (by omega) (by omega) (fun h20 => ?_) (fun h20 => ?_)
            · refine w_inc [(1, 161), (1, 180), (0, 1), (0, (n : Int)), (0, ((wyS 3 f_x t) + sI (wyG 3 f_x (t + 1)) c)), (0, ((((t + 1) : Nat) : Int) + 1)), (0, (c : Int))] hK rfl rfl rfl (by omega) (by omega) rfl ?_
              refine w_goto hK rfl ?_
              have et_ := wy_sum (m := 3) (d := t + 1) hm.1 bx17 (by omega) (by omega)
              rw [show unq k (t + 1) = c by omega] at et_
              have es_ := wyS_s (m := 3) (x := f_x) (t := t)
              rw [show ((wyS 3 f_x t) + sI (wyG 3 f_x (t + 1)) c) = (wyS 3 f_x (t + 1)) by omega]
              exact ih11 _ (by omega) (t + 1) _ (0, (c : Int)) N16 rfl (by omega) hC2 (fun p pn170_ pn171_ pn172_ pn173_ pn174_ pn188_ pn195_ pn191_ pn192_ pn193_ pn194_ => (hG2 p pn170_ pn171_ pn172_ pn173_ pn174_ pn188_ pn195_ pn191_ pn192_ pn193_ pn194_)) (fun a nr_ => (hS2 a nr_))
            · refine w_il hK rfl rfl ?_
              refine w_il hK rfl rfl ?_
              refine w_ne2 hK rfl (by omega) (by omega) (by omega) (by omega) (fun h23 => ?_) (fun h23 => ?_)
              · refine w_il hK rfl rfl ?_
                refine w_il hK rfl rfl ?_
                refine w_ne2 hK rfl (by omega) (by omega) (by omega) (by omega) (fun h29 => ?_) (fun h29 => ?_)
                · refine w_al hK rfl rfl ?_
                  refine w_il hK rfl rfl ?_
                  refine w_il hK rfl rfl ?_
                  refine w_al hK rfl rfl ?_
                  refine w_getr (n := 43) (v := 195) hK rfl rfl (by decide) (by decide) rfl rfl rfl rfl ?_
                  refine w_call [(1, 161), (0, (((t + 1) : Nat) : Int)), (0, (c : Int)), (1, 195)] hK rfl rfl rfl rfl (Or.inr ⟨_, _, _, rfl, by decide, (by decide), rfl⟩) (r_mof hC2 (isR_of (p := 195) rfl) ((t + 1)) c (by omega) (by omega)) ?_
                  rintro _ V737 ⟨P737, rfl, C737, S737, F737, f737_0⟩
                  refine ⟨by decide, (?_ : Wp 198 _ 288 41 [(1, 161), (1, 180), (0, 1), (0, (n : Int)), (0, ((wyS 3 f_x t) + sI (wyG 3 f_x (t + 1)) c)), (0, (((t + 1) : Nat) : Int)), (0, (c : Int))] [] V737 _)⟩
                  have dm_ := mnp_dg (k := k) (n := t + 1) (c := c) (by omega)
                  refine w_al hK rfl rfl ?_
                  refine w_al hK rfl rfl ?_
                  refine w_al hK rfl rfl ?_
                  refine w_getr (n := 43) (v := 195) hK rfl rfl (by decide) (by decide) rfl rfl rfl rfl ?_
                  refine w_ic hK rfl ?_
                  refine w_call [(1, 161), (1, 180), (1, 195), (0, 0)] hK rfl rfl rfl rfl (Or.inr ⟨_, _, _, rfl, by decide, (by decide), rfl⟩) (r_isdv C737 ⟨(isR_of (p := 180) rfl), ((F737 180 (by omega)).trans ((hG2 180 (by omega) (by omega) (by omega) (by omega) (by omega) (by omega) (by omega) (by omega) (by omega) (by omega) (by omega)).trans (show isK R 180 f_x from ⟨isR_of (p := 180) rfl, hx⟩).2))⟩ ⟨(isR_of (p := 195) rfl), f737_0⟩ 0 (by omega) (by omega) (by omega) (by omega) bx17 (mnp_bd.mono (by omega))) ?_
                  rintro _ V738 ⟨P738, rfl, C738, S738, F738, f738_0, f738_1⟩
                  have bv_ := bz_01 (dr 0 f_x (mnp (k := k) ((t + 1)) c) = pz)
                  refine ⟨by show (0 : Nat) ≠ 9; decide, (?_ : Wp 198 _ 288 47 [(1, 161), (1, 180), (0, 1), (0, (n : Int)), (0, ((wyS 3 f_x t) + sI (wyG 3 f_x (t + 1)) c)), (0, (((t + 1) : Nat) : Int)), (0, (c : Int))] [(0, (bz (dr 0 f_x (mnp (k := k) ((t + 1)) c) = pz)))] V738 _)⟩
                  have md_ : bz (dr 0 f_x (mnp (k := k) (t + 1) c) = pz) ≠ 0 → Mn (dq 0 f_x (mnp (k := k) (t + 1) c)) (n - (t + 1)) ∧ Bd (dq 0 f_x (mnp (k := k) (t + 1) c)) 17 := fun q_ => by
                    have md_ := mdq hm.1 bx17 (d := t + 1) (g := (mnp (k := k) (t + 1) c)) mnp_mn (bz_yes q_)
                    exact ⟨⟨md_.2.2.1, md_.2.2.2.trans hm.2⟩, (Bd_is md_.2.2.1).mono (by omega)⟩
                  refine w_ne hK rfl (by omega) (by omega) (fun h47 => ?_) (fun h47 => ?_)
                  · obtain ⟨mq_, bq_⟩ := md_ (by omega)
                    have dq_ := mq_.dg (by omega)
                    refine w_al hK rfl rfl ?_
                    refine w_getr (n := 20) (v := 174) hK rfl rfl (by decide) (by decide) rfl rfl rfl rfl ?_
                    refine w_al hK rfl rfl ?_
                    refine w_il hK rfl rfl ?_
                    refine w_call [(1, 161), (0, 1)] hK rfl rfl rfl rfl (Or.inr ⟨_, _, _, rfl, by decide, (by decide), rfl⟩) (r_left1) ?_
                    rintro _ Mq ⟨rfl, e_⟩
                    subst Mq
                    refine ⟨by show (1 : Nat) ≠ 9; decide, (?_ : Wp 198 _ 288 54 [(1, 161), (1, 180), (0, 1), (0, (n : Int)), (0, ((wyS 3 f_x t) + sI (wyG 3 f_x (t + 1)) c)), (0, (((t + 1) : Nat) : Int)), (0, (c : Int))] [(1, 191), (1, 174)] V738 _)⟩
                    refine w_call [(1, 174), (1, 191)] hK rfl rfl rfl rfl (Or.inl rfl) (r_copy C738 ⟨(isR_of (p := 174) rfl), f738_1⟩ (isR_of (p := 191) rfl) (by omega)) ?_
                    rintro _ V739 ⟨P739, rfl, C739, S739, F739, f739_0⟩
                    refine ⟨by decide, (?_ : Wp 198 _ 288 55 [(1, 161), (1, 180), (0, 1), (0, (n : Int)), (0, ((wyS 3 f_x t) + sI (wyG 3 f_x (t + 1)) c)), (0, (((t + 1) : Nat) : Int)), (0, (c : Int))] [] V739 _)⟩
                    refine w_al hK rfl rfl ?_
                    refine w_al hK rfl rfl ?_
                    refine w_getr (n := 43) (v := 195) hK rfl rfl (by decide) (by decide) rfl rfl rfl rfl ?_
                    refine w_call [(1, 161), (1, 195)] hK rfl rfl rfl rfl (Or.inr ⟨_, _, _, rfl, by decide, (by decide), rfl⟩) (r_isP C739 ⟨(isR_of (p := 195) rfl), ((F739 195 (by omega)).trans ((F738 195 (by omega) (by omega) (by omega) (by omega) (by omega)).trans f737_0))⟩ (by omega) (by omega) (mnp_bd.mono (by omega))) ?_
                    rintro _ V740 ⟨P740, rfl, C740, S740, F740⟩
                    have bv_ := bz_01 (prM (mnp (k := k) ((t + 1)) c))
                    refine ⟨by show (0 : Nat) ≠ 9; decide, (?_ : Wp 198 _ 288 59 [(1, 161), (1, 180), (0, 1), (0, (n : Int)), (0, ((wyS 3 f_x t) + sI (wyG 3 f_x (t + 1)) c)), (0, (((t + 1) : Nat) : Int)), (0, (c : Int))] [(0, (bz (prM (mnp (k := k) ((t + 1)) c))))] V740 _)⟩
                    refine w_eq hK rfl (by omega) (by omega) (fun h59 => ?_) (fun h59 => ?_)
                    · refine w_inc [(1, 161), (1, 180), (0, 1), (0, (n : Int)), (0, ((wyS 3 f_x t) + sI (wyG 3 f_x (t + 1)) c)), (0, (((t + 1) : Nat) : Int)), (0, ((c : Int) + 1))] hK rfl rfl rfl (by omega) (by omega) rfl ?_
                      refine w_goto hK rfl ?_
                      have eg_ : wyG 3 f_x (t + 1) c = 0 := wyG_1 (by omega) (by omega)
                      rw [show ((wyS 3 f_x t) + sI (wyG 3 f_x (t + 1)) c) = ((wyS 3 f_x t) + sI (wyG 3 f_x (t + 1)) (c + 1)) from by show _ = (wyS 3 f_x t) + (sI (wyG 3 f_x (t + 1)) c + wyG 3 f_x (t + 1) c); omega]
                      exact ih16 _ (by omega) (c + 1) _ V740 rfl (by omega) C740 (fun p pn170_ pn171_ pn172_ pn173_ pn174_ pn188_ pn195_ pn191_ pn192_ pn193_ pn194_ => ((F740 p pn170_ pn171_ pn172_ pn173_ pn174_ pn188_).trans ((F739 p pn191_).trans ((F738 p pn170_ pn171_ pn172_ pn173_ pn174_).trans ((F737 p pn195_).trans (hG2 p pn170_ pn171_ pn172_ pn173_ pn174_ pn188_ pn195_ pn191_ pn192_ pn193_ pn194_)))))) (fun a nr_ => ((S740 a nr_).trans ((S739 a nr_).trans ((S738 a nr_).trans ((S737 a nr_).trans (hS2 a nr_))))))
                    · refine w_il hK rfl rfl ?_
                      refine w_al hK rfl rfl ?_
                      refine w_al hK rfl rfl ?_
                      refine w_il hK rfl rfl ?_
                      refine w_call [(1, 161), (0, 1)] hK rfl rfl rfl rfl (Or.inr ⟨_, _, _, rfl, by decide, (by decide), rfl⟩) (r_left1) ?_
                      rintro _ Mq ⟨rfl, e_⟩
                      subst Mq
                      refine ⟨by show (1 : Nat) ≠ 9; decide, (?_ : Wp 198 _ 288 65 [(1, 161), (1, 180), (0, 1), (0, (n : Int)), (0, ((wyS 3 f_x t) + sI (wyG 3 f_x (t + 1)) c)), (0, (((t + 1) : Nat) : Int)), (0, (c : Int))] [(1, 191), (1, 161), (0, ((wyS 3 f_x t) + sI (wyG 3 f_x (t + 1)) c))] V740 _)⟩
                      refine w_il hK rfl rfl ?_
                      refine w_ic hK rfl ?_
                      refine w_add hK rfl (by omega) (by omega) ?_
                      have wb_ := wyC_le 3 (dq 0 f_x (mnp (k := k) ((t + 1)) c)) bq_
                      refine w_call [(1, 161), (1, 191), (0, (1 + 1))] hK rfl rfl rfl rfl (Or.inr ⟨_, _, _, rfl, by decide, (by decide), rfl⟩) (r_wy2 C740 ((F740 191 (by omega) (by omega) (by omega) (by omega) (by omega) (by omega)).trans f739_0) mq_ (by omega)) ?_
                      rintro _ V741 ⟨P741, rfl, C741, S741, F741⟩
                      refine ⟨by show (0 : Nat) ≠ 9; decide, (?_ : Wp 198 _ 288 69 [(1, 161), (1, 180), (0, 1), (0, (n : Int)), (0, ((wyS 3 f_x t) + sI (wyG 3 f_x (t + 1)) c)), (0, (((t + 1) : Nat) : Int)), (0, (c : Int))] [(0, (wyC 3 (dq 0 f_x (mnp (k := k) ((t + 1)) c)))), (0, ((wyS 3 f_x t) + sI (wyG 3 f_x (t + 1)) c))] V741 _)⟩
                      refine w_add hK rfl (by omega) (by omega) ?_
                      refine w_is [(1, 161), (1, 180), (0, 1), (0, (n : Int)), (0, (((wyS 3 f_x t) + sI (wyG 3 f_x (t + 1)) c) + (wyC 3 (dq 0 f_x (mnp (k := k) ((t + 1)) c))))), (0, (((t + 1) : Nat) : Int)), (0, (c : Int))] hK rfl rfl rfl ?_
                      refine w_inc [(1, 161), (1, 180), (0, 1), (0, (n : Int)), (0, (((wyS 3 f_x t) + sI (wyG 3 f_x (t + 1)) c) + (wyC 3 (dq 0 f_x (mnp (k := k) ((t + 1)) c))))), (0, (((t + 1) : Nat) : Int)), (0, ((c : Int) + 1))] hK rfl rfl rfl (by omega) (by omega) rfl ?_
                      refine w_goto hK rfl ?_
                      have eg_ : wyG 3 f_x (t + 1) c = wyC 3 (dq 0 f_x (mnp (k := k) (t + 1) c)) := wyG_2 (by omega) (by omega)
                      rw [show (((wyS 3 f_x t) + sI (wyG 3 f_x (t + 1)) c) + (wyC 3 (dq 0 f_x (mnp (k := k) ((t + 1)) c)))) = ((wyS 3 f_x t) + sI (wyG 3 f_x (t + 1)) (c + 1)) from by show _ = (wyS 3 f_x t) + (sI (wyG 3 f_x (t + 1)) c + wyG 3 f_x (t + 1) c); omega]
                      exact ih16 _ (by omega) (c + 1) _ V741 rfl (by omega) C741 (fun p pn170_ pn171_ pn172_ pn173_ pn174_ pn188_ pn195_ pn191_ pn192_ pn193_ pn194_ => ((F741 p pn170_ pn171_ pn172_ pn173_ pn174_ pn188_ pn195_ pn192_ pn193_ pn194_).trans ((F740 p pn170_ pn171_ pn172_ pn173_ pn174_ pn188_).trans ((F739 p pn191_).trans ((F738 p pn170_ pn171_ pn172_ pn173_ pn174_).trans ((F737 p pn195_).trans (hG2 p pn170_ pn171_ pn172_ pn173_ pn174_ pn188_ pn195_ pn191_ pn192_ pn193_ pn194_))))))) (fun a nr_ => ((S741 a nr_).trans ((S740 a nr_).trans ((S739 a nr_).trans ((S738 a nr_).trans ((S737 a nr_).trans (hS2 a nr_)))))))
                  · refine w_goto hK rfl ?_
                    refine w_inc [(1, 161), (1, 180), (0, 1), (0, (n : Int)), (0, ((wyS 3 f_x t) + sI (wyG 3 f_x (t + 1)) c)), (0, (((t + 1) : Nat) : Int)), (0, ((c : Int) + 1))] hK rfl rfl rfl (by omega) (by omega) rfl ?_
                    refine w_goto hK rfl ?_
                    have eg_ : wyG 3 f_x (t + 1) c = 0 := wyG_0 (by omega)
                    rw [show ((wyS 3 f_x t) + sI (wyG 3 f_x (t + 1)) c) = ((wyS 3 f_x t) + sI (wyG 3 f_x (t + 1)) (c + 1)) from by show _ = (wyS 3 f_x t) + (sI (wyG 3 f_x (t + 1)) c + wyG 3 f_x (t + 1) c); omega]
                    exact ih16 _ (by omega) (c + 1) _ V738 rfl (by omega) C738 (fun p pn170_ pn171_ pn172_ pn173_ pn174_ pn188_ pn195_ pn191_ pn192_ pn193_ pn194_ => ((F738 p pn170_ pn171_ pn172_ pn173_ pn174_).trans ((F737 p pn195_).trans (hG2 p pn170_ pn171_ pn172_ pn173_ pn174_ pn188_ pn195_ pn191_ pn192_ pn193_ pn194_)))) (fun a nr_ => ((S738 a nr_).trans ((S737 a nr_).trans (hS2 a nr_))))
                · exfalso; omega
              · exfalso; omega
          rw [show (wyS 3 f_x t) = ((wyS 3 f_x t) + sI (wyG 3 f_x (t + 1)) 0) from (Int.add_zero _).symm]
          exact lp16 _ 0 _ N11 rfl (by omega) hC (fun p pn170_ pn171_ pn172_ pn173_ pn174_ pn188_ pn195_ pn191_ pn192_ pn193_ pn194_ => (hG p pn170_ pn171_ pn172_ pn173_ pn174_ pn188_ pn195_ pn191_ pn192_ pn193_ pn194_)) (fun a nr_ => (hS a nr_))
    exact lp11 _ 0 _ (3, 0) M rfl (by omega) C (fun p pn170_ pn171_ pn172_ pn173_ pn174_ pn188_ pn195_ pn191_ pn192_ pn193_ pn194_ => rfl) (fun a nr_ => rfl)
  · refine w_ic hK rfl ?_
    refine w_iret hK rfl rfl ?_
    exact ⟨_, congrArg (Prod.mk 0) (wy_0 (by omega)).symm, C, (fun a nr_ => rfl), (fun p pn170_ pn171_ pn172_ pn173_ pn174_ pn188_ pn195_ pn191_ pn192_ pn193_ pn194_ => rfl)⟩
set_option maxRecDepth 100000 in
theorem ro_ways {d : Nat} {M : Mem} {k : Nat} {pl : Nat → Pl k} {n : Int} {tx : Int → Int} {rc : Nat} {rw : Int → Int} {fc : Nat} {fa : Nat → Pl k} (H : RFS M k pl n tx rc rw fc fa) (i : Nat) (hi : i < 6) (n0 : Nat) (hi0 : dg (pl i) = (n0 : Int)) (n4_ : n0 ≤ 4) : Ct 198 (d + 12) 287 [(1, 161), (0, (i : Int))] M (fun r_ M' => r_ = (0, (wyC 4 (pl i))) ∧ RFS M' k pl n tx rc rw fc fa ∧ (∀ a : Int, (a < 161 ∨ 197 < a) → M' a = M a)) := by
  have hK : cd 287 = k287 := rfl
  obtain ⟨R, C, hpl, T, hR, hF⟩ := H
  have q1_ := qq_I k
  have p1_ := pp_I k
  have m1_ := mm_I k
  have bi_ := (hpl i hi).2
  have di_ := dg_lt9 bi_
  have bi17_ : Bd (pl i) 17 := bi_.mono (by decide)
  show Wp 198 _ 287 0 [(1, 161), (0, (i : Int)), (3, 0)] [] M _
  refine w_al hK rfl rfl ?_
  refine w_ic hK rfl ?_
  refine w_puti (n := 14) (m := 14) hK rfl rfl (by decide) (by decide) rfl rfl rfl rfl ?_
  refine w_al hK rfl rfl ?_
  refine w_il hK rfl rfl ?_
  refine w_call [(1, 161), (0, (i : Int))] hK rfl rfl rfl rfl (Or.inr ⟨_, _, _, rfl, by decide, (by decide), rfl⟩) (r_ask (RS.cg C (fun j_ h1_ h2_ => up_ne2 (by omega)) (fun a_ h1_ h2_ => up_row h1_)) (PM.keep hpl (up_row (by decide))) i hi (n0 : Int) (by omega)) ?_
  rintro _ V742 ⟨P742, rfl, C742, S742, F742, f742_0⟩
  refine ⟨by show (0 : Nat) ≠ 9; decide, (?_ : Wp 198 _ 287 6 [(1, 161), (0, (i : Int)), (3, 0)] [(0, (n0 : Int))] V742 _)⟩
  refine w_is [(1, 161), (0, (i : Int)), (0, (n0 : Int))] hK rfl rfl rfl ?_
  refine w_il hK rfl rfl ?_
  refine w_ge hK rfl (by omega) (by omega) (fun h8 => ?_) (fun h8 => ?_)
  · refine w_al hK rfl rfl ?_
    refine w_al hK rfl rfl ?_
    refine w_getr (n := 26) (v := 180) hK rfl rfl (by decide) (by decide) rfl rfl rfl rfl ?_
    refine w_ic hK rfl ?_
    refine w_call [(1, 161), (1, 180), (0, 0)] hK rfl rfl rfl rfl (Or.inr ⟨_, _, _, rfl, by decide, (by decide), rfl⟩) (r_mon C742 ⟨(isR_of (p := 180) rfl), f742_0⟩ (by omega) (by omega) 0 (by omega)) ?_
    rintro _ V743 ⟨P743, rfl, C743, S743, F743, f743_0⟩
    refine ⟨by decide, (?_ : Wp 198 _ 287 16 [(1, 161), (0, (i : Int)), (0, (n0 : Int))] [] V743 _)⟩
    refine w_al hK rfl rfl ?_
    refine w_al hK rfl rfl ?_
    refine w_getr (n := 26) (v := 180) hK rfl rfl (by decide) (by decide) rfl rfl rfl rfl ?_
    refine w_ic hK rfl ?_
    have mon_ := (mon_is bi17_ (hi0 ▸ dg_is (bi_.mono (by decide)) : IsDg (pl i) (n0 : Int))).1
    refine w_call [(1, 161), (1, 180), (0, 1)] hK rfl rfl rfl rfl (Or.inr ⟨_, _, _, rfl, by decide, (by decide), rfl⟩) ((r_wy1 (d := d + 1) C743 f743_0 mon_ (by omega))) ?_
    rintro _ V744 ⟨P744, rfl, C744, S744, F744⟩
    refine ⟨by show (0 : Nat) ≠ 9; decide, (?_ : Wp 198 _ 287 21 [(1, 161), (0, (i : Int)), (0, (n0 : Int))] [(0, (wyC 4 (mon 0 (pl i))))] V744 _)⟩
    refine w_iret hK rfl rfl ?_
    have ig_ : IsDg (pl i) (n0 : Int) := hi0 ▸ dg_is (bi_.mono (by decide))
    have ew_ : wyC 4 (mon 0 (pl i)) = wyC 4 (pl i) := by
      rw [mon0]
      exact wy_scl 4 ig_ bi17_ (by omega) (iv_ne (by rw [ld_eq bi17_ ig_]; exact ig_.tp))
    rw [ew_]
    exact ⟨rfl, ⟨_, C744, (PM.keep hpl ((S744 167 (notR rfl)).trans ((S743 167 (notR rfl)).trans ((S742 167 (notR rfl)).trans (up_row (by decide)))))), (TMs.keep T ((congrFun (S744 161 (notR rfl)) 11).trans ((congrFun (S743 161 (notR rfl)) 11).trans ((congrFun (S742 161 (notR rfl)) 11).trans (up_ne2 (by decide))))) ((S744 168 (notR rfl)).trans ((S743 168 (notR rfl)).trans ((S742 168 (notR rfl)).trans (up_row (by decide)))))), (RM.keep hR ((congrFun (S744 161 (notR rfl)) 13).trans ((congrFun (S743 161 (notR rfl)) 13).trans ((congrFun (S742 161 (notR rfl)) 13).trans (up_ne2 (by decide))))) ((S744 169 (notR rfl)).trans ((S743 169 (notR rfl)).trans ((S742 169 (notR rfl)).trans (up_row (by decide)))))), (FM.keep hF ((congrFun (S744 161 (notR rfl)) 15).trans ((congrFun (S743 161 (notR rfl)) 15).trans ((congrFun (S742 161 (notR rfl)) 15).trans (up_ne2 (by decide))))) ((S744 189 (notR rfl)).trans ((S743 189 (notR rfl)).trans ((S742 189 (notR rfl)).trans (up_row (by decide))))) ((S744 190 (notR rfl)).trans ((S743 190 (notR rfl)).trans ((S742 190 (notR rfl)).trans (up_row (by decide))))))⟩, (fun a h_ => ((S744 a (npR h_)).trans ((S743 a (npR h_)).trans ((S742 a (npR h_)).trans (up_row (by omega))))))⟩
  · exfalso; omega
set_option maxRecDepth 100000 in
theorem ry_ways {d : Nat} {M : Mem} {k : Nat} {pl : Nat → Pl k} {n : Int} {tx : Int → Int} {rc : Nat} {rw : Int → Int} {fc : Nat} {fa : Nat → Pl k} (H : RFS M k pl n tx rc rw fc fa) (i : Nat) (hi : i < 6) (hi0 : dg (pl i) < 0) : Ct 198 (d + 12) 287 [(1, 161), (0, (i : Int))] M (fun r_ M' => r_ = (0, (-2)) ∧ RFS M' k pl n tx rc rw fc fa ∧ (∀ a : Int, (a < 161 ∨ 197 < a) → M' a = M a)) := by
  have hK : cd 287 = k287 := rfl
  obtain ⟨R, C, hpl, T, hR, hF⟩ := H
  have q1_ := qq_I k
  have p1_ := pp_I k
  have m1_ := mm_I k
  have bi_ := (hpl i hi).2
  have di_ := dg_lt9 bi_
  show Wp 198 _ 287 0 [(1, 161), (0, (i : Int)), (3, 0)] [] M _
  refine w_al hK rfl rfl ?_
  refine w_ic hK rfl ?_
  refine w_puti (n := 14) (m := 14) hK rfl rfl (by decide) (by decide) rfl rfl rfl rfl ?_
  refine w_al hK rfl rfl ?_
  refine w_il hK rfl rfl ?_
  refine w_call [(1, 161), (0, (i : Int))] hK rfl rfl rfl rfl (Or.inr ⟨_, _, _, rfl, by decide, (by decide), rfl⟩) (r_ask (RS.cg C (fun j_ h1_ h2_ => up_ne2 (by omega)) (fun a_ h1_ h2_ => up_row h1_)) (PM.keep hpl (up_row (by decide))) i hi (-2) (by omega)) ?_
  rintro _ V745 ⟨P745, rfl, C745, S745, F745, f745_0⟩
  refine ⟨by show (0 : Nat) ≠ 9; decide, (?_ : Wp 198 _ 287 6 [(1, 161), (0, (i : Int)), (3, 0)] [(0, (-2))] V745 _)⟩
  refine w_is [(1, 161), (0, (i : Int)), (0, (-2))] hK rfl rfl rfl ?_
  refine w_il hK rfl rfl ?_
  refine w_ge hK rfl (by omega) (by omega) (fun h8 => ?_) (fun h8 => ?_)
  · exfalso; omega
  · refine w_il hK rfl rfl ?_
    refine w_iret hK rfl rfl ?_
    exact ⟨rfl, ⟨_, C745, (PM.keep hpl ((S745 167 (notR rfl)).trans (up_row (by decide)))), (TMs.keep T ((congrFun (S745 161 (notR rfl)) 11).trans (up_ne2 (by decide))) ((S745 168 (notR rfl)).trans (up_row (by decide)))), (RM.keep hR ((congrFun (S745 161 (notR rfl)) 13).trans (up_ne2 (by decide))) ((S745 169 (notR rfl)).trans (up_row (by decide)))), (FM.keep hF ((congrFun (S745 161 (notR rfl)) 15).trans (up_ne2 (by decide))) ((S745 189 (notR rfl)).trans (up_row (by decide))) ((S745 190 (notR rfl)).trans (up_row (by decide))))⟩, (fun a h_ => ((S745 a (npR h_)).trans (up_row (by omega))))⟩
set_option maxRecDepth 100000 in
theorem rz_ways {d : Nat} {M : Mem} {k : Nat} {pl : Nat → Pl k} {n : Int} {tx : Int → Int} {rc : Nat} {rw : Int → Int} {fc : Nat} {fa : Nat → Pl k} (H : RFS M k pl n tx rc rw fc fa) (i : Nat) (hi : i < 6) (hi0 : 4 < dg (pl i)) : Ct 198 (d + 12) 287 [(1, 161), (0, (i : Int))] M (fun r_ M' => r_ = (0, (-3)) ∧ RFS M' k pl n tx rc rw fc fa ∧ (∀ a : Int, (a < 161 ∨ 197 < a) → M' a = M a)) := by
  have hK : cd 287 = k287 := rfl
  obtain ⟨R, C, hpl, T, hR, hF⟩ := H
  have q1_ := qq_I k
  have p1_ := pp_I k
  have m1_ := mm_I k
  have bi_ := (hpl i hi).2
  have di_ := dg_lt9 bi_
  show Wp 198 _ 287 0 [(1, 161), (0, (i : Int)), (3, 0)] [] M _
  refine w_al hK rfl rfl ?_
  refine w_ic hK rfl ?_
  refine w_puti (n := 14) (m := 14) hK rfl rfl (by decide) (by decide) rfl rfl rfl rfl ?_
  refine w_al hK rfl rfl ?_
  refine w_il hK rfl rfl ?_
  refine w_call [(1, 161), (0, (i : Int))] hK rfl rfl rfl rfl (Or.inr ⟨_, _, _, rfl, by decide, (by decide), rfl⟩) (r_ask (RS.cg C (fun j_ h1_ h2_ => up_ne2 (by omega)) (fun a_ h1_ h2_ => up_row h1_)) (PM.keep hpl (up_row (by decide))) i hi (-3) (by omega)) ?_
  rintro _ V746 ⟨P746, rfl, C746, S746, F746, f746_0⟩
  refine ⟨by show (0 : Nat) ≠ 9; decide, (?_ : Wp 198 _ 287 6 [(1, 161), (0, (i : Int)), (3, 0)] [(0, (-3))] V746 _)⟩
  refine w_is [(1, 161), (0, (i : Int)), (0, (-3))] hK rfl rfl rfl ?_
  refine w_il hK rfl rfl ?_
  refine w_ge hK rfl (by omega) (by omega) (fun h8 => ?_) (fun h8 => ?_)
  · exfalso; omega
  · refine w_il hK rfl rfl ?_
    refine w_iret hK rfl rfl ?_
    exact ⟨rfl, ⟨_, C746, (PM.keep hpl ((S746 167 (notR rfl)).trans (up_row (by decide)))), (TMs.keep T ((congrFun (S746 161 (notR rfl)) 11).trans (up_ne2 (by decide))) ((S746 168 (notR rfl)).trans (up_row (by decide)))), (RM.keep hR ((congrFun (S746 161 (notR rfl)) 13).trans (up_ne2 (by decide))) ((S746 169 (notR rfl)).trans (up_row (by decide)))), (FM.keep hF ((congrFun (S746 161 (notR rfl)) 15).trans (up_ne2 (by decide))) ((S746 189 (notR rfl)).trans (up_row (by decide))) ((S746 190 (notR rfl)).trans (up_row (by decide))))⟩, (fun a h_ => ((S746 a (npR h_)).trans (up_row (by omega))))⟩
set_option maxRecDepth 100000 in
theorem rn_ways {d : Nat} {M : Mem} {k : Nat} {pl : Nat → Pl k} {n : Int} {tx : Int → Int} {rc : Nat} {rw : Int → Int} {fc : Nat} {fa : Nat → Pl k} (H : RFS M k pl n tx rc rw fc fa) (i : Int) (i1_ : -2147483648 ≤ i) (i2_ : i ≤ 2147483647) (hn : ¬ (0 ≤ i ∧ i < 6)) : Ct 198 (d + 12) 287 [(1, 161), (0, i)] M (fun r_ M' => r_ = (0, -1) ∧ RFS M' k pl n tx rc rw fc fa ∧ (∀ a : Int, (a < 161 ∨ 197 < a) → M' a = M a)) := by
  have hK : cd 287 = k287 := rfl
  obtain ⟨R, C, hpl, T, hR, hF⟩ := H
  have q1_ := qq_I k
  have p1_ := pp_I k
  have m1_ := mm_I k
  show Wp 198 _ 287 0 [(1, 161), (0, i), (3, 0)] [] M _
  refine w_al hK rfl rfl ?_
  refine w_ic hK rfl ?_
  refine w_puti (n := 14) (m := 14) hK rfl rfl (by decide) (by decide) rfl rfl rfl rfl ?_
  refine w_al hK rfl rfl ?_
  refine w_il hK rfl rfl ?_
  refine w_call [(1, 161), (0, i)] hK rfl rfl rfl rfl (Or.inr ⟨_, _, _, rfl, by decide, (by decide), rfl⟩) (r_askN i (by omega) (by omega) (by omega)) ?_
  rintro _ Mq ⟨rfl, e_⟩
  subst Mq
  refine ⟨by show (0 : Nat) ≠ 9; decide, (?_ : Wp 198 _ 287 6 [(1, 161), (0, i), (3, 0)] [(0, (-1))] (up M 161 14 0) _)⟩
  refine w_is [(1, 161), (0, i), (0, (-1))] hK rfl rfl rfl ?_
  refine w_il hK rfl rfl ?_
  refine w_ge hK rfl (by omega) (by omega) (fun h8 => ?_) (fun h8 => ?_)
  · exfalso; omega
  · refine w_il hK rfl rfl ?_
    refine w_iret hK rfl rfl ?_
    exact ⟨rfl, ⟨_, (RS.cg C (fun j_ h1_ h2_ => up_ne2 (by omega)) (fun a_ h1_ h2_ => up_row h1_)), (PM.keep hpl (up_row (by decide))), (TMs.keep T (up_ne2 (by decide)) (up_row (by decide))), (RM.keep hR (up_ne2 (by decide)) (up_row (by decide))), (FM.keep hF (up_ne2 (by decide)) (up_row (by decide)) (up_row (by decide)))⟩, (fun a h_ => (up_row (by omega)))⟩
