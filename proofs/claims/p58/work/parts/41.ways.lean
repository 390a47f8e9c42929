/-! contracts: in how many ways -/
def sI (f : Nat → Int) : Nat → Int
  | 0 => 0
  | n + 1 => sI f n + f n
theorem sI_le {f : Nat → Int} {B : Int} : ∀ {n : Nat}, (∀ i : Nat, i < n → 0 ≤ f i ∧ f i ≤ B) → 0 ≤ sI f n ∧ sI f n ≤ n * B
  | 0, _ => ⟨by show (0 : Int) ≤ 0; decide, by show (0 : Int) ≤ ((0 : Nat) : Int) * B; simp⟩
  | n + 1, h => by
    have h1 := sI_le (n := n) (fun i hi => h i (by omega))
    have h2 := h n (by omega)
    have e : ((n + 1 : Nat) : Int) * B = (n : Int) * B + B := by
      rw [Int.natCast_add, Int.add_mul]
      simp
    rw [e]
    show 0 ≤ sI f n + f n ∧ sI f n + f n ≤ _
    omega
theorem sI_congr {f g : Nat → Int} : ∀ {n : Nat}, (∀ i : Nat, i < n → f i = g i) → sI f n = sI g n
  | 0, _ => rfl
  | n + 1, h => by
    show sI f n + f n = sI g n + g n
    rw [sI_congr (n := n) (fun i hi => h i (by omega)), h n (by omega)]
/-- in how many ways x is made of primes, as the tries tell; m: how deep -/
noncomputable def wyC {k : Nat} : Nat → Pl k → Int
  | 0, _ => 1
  | m + 1, x => if dg x < 2 then 1 else sI (fun d => sI (fun i => if bz (htR x (d + 1) i) = 0 then 0 else if bz (prC (htB x (d + 1) i)) = 0 then 0 else wyC m (htQ x (d + 1) i)) (trN k (dg x) ((d + 1 : Nat) : Int))) (dg x).toNat
theorem wyC_s {k : Nat} {m : Nat} {x : Pl k} : wyC (m + 1) x = if dg x < 2 then 1 else sI (fun d => sI (fun i => if bz (htR x (d + 1) i) = 0 then 0 else if bz (prC (htB x (d + 1) i)) = 0 then 0 else wyC m (htQ x (d + 1) i)) (trN k (dg x) ((d + 1 : Nat) : Int))) (dg x).toNat := rfl
theorem sI_nn {f : Nat → Int} : ∀ {n : Nat}, (∀ i : Nat, i < n → 0 ≤ f i) → 0 ≤ sI f n
  | 0, _ => by show (0 : Int) ≤ 0; decide
  | n + 1, h => by
    have h1 := sI_nn (n := n) (fun i hi => h i (by omega))
    have h2 := h n (by omega)
    show 0 ≤ sI f n + f n
    omega
theorem wyC_nn {k : Nat} : ∀ (m : Nat) (x : Pl k), 0 ≤ wyC m x
  | 0, x => by show (0 : Int) ≤ 1; decide
  | m + 1, x => by
    unfold wyC
    split
    · decide
    · exact sI_nn fun d _ => sI_nn fun i _ => by
        split
        · decide
        · split
          · decide
          · exact wyC_nn m _
theorem trI_16 {k : Nat} {n : Int} {d : Nat} (h : n ≤ 3) : trI k n (d : Int) ≤ 16 := by
  have h1 := qq_I k
  have h2 := qq_sq k
  unfold trI
  repeat' split
  all_goals omega
theorem trN_16 {k : Nat} {n : Int} {d : Nat} (h : n ≤ 3) : (trN k n (d : Int) : Int) ≤ 16 := by
  have := trI_16 (k := k) (d := d) h
  have := trI_I k n d
  unfold trN
  omega
theorem wyC_le {k : Nat} : ∀ (m : Nat) (x : Pl k), Bd x 17 → 0 ≤ wyC m x ∧ (dg x ≤ 1 → wyC m x ≤ 1) ∧ (dg x ≤ 2 → wyC m x ≤ 32) ∧ (dg x ≤ 3 → wyC m x ≤ 1536) ∧ (dg x ≤ 4 → wyC m x ≤ 1572864)
  | 0, x, _ => by show (0 : Int) ≤ 1 ∧ (dg x ≤ 1 → (1 : Int) ≤ 1) ∧ (dg x ≤ 2 → (1 : Int) ≤ 32) ∧ (dg x ≤ 3 → (1 : Int) ≤ 1536) ∧ (dg x ≤ 4 → (1 : Int) ≤ 1572864); omega
  | m + 1, x, hx => by
    unfold wyC
    by_cases c : dg x < 2
    · rw [if_pos c]; omega
    · rw [if_neg c]
      have hlt := dg_lt hx (by decide)
      have key : ∀ B : Int, 0 ≤ B → (∀ (d i : Nat), (i : Int) < trI k (dg x) ((d + 1 : Nat) : Int) → htR x (d + 1) i → dg x ≤ 4 → wyC m (htQ x (d + 1) i) ≤ B) → dg x ≤ 4 → ∀ d i : Nat, i < trN k (dg x) ((d + 1 : Nat) : Int) → 0 ≤ (if bz (htR x (d + 1) i) = 0 then 0 else if bz (prC (htB x (d + 1) i)) = 0 then 0 else wyC m (htQ x (d + 1) i)) ∧ (if bz (htR x (d + 1) i) = 0 then 0 else if bz (prC (htB x (d + 1) i)) = 0 then 0 else wyC m (htQ x (d + 1) i)) ≤ B := fun B hB h h4 d i hi => by
        have hi2 : (i : Int) < trI k (dg x) ((d + 1 : Nat) : Int) := by unfold trN at hi; omega
        split
        · exact ⟨by decide, hB⟩
        · rename_i q
          split
          · exact ⟨by decide, hB⟩
          · have hR := bz_yes q
            refine ⟨?_, h d i hi2 hR h4⟩
            obtain ⟨_, _, _, h5, h6⟩ := trI_ok hi2
            have hq := (hit_spec (isdg_dg (hx.mono (by decide)) (by omega)) hx h5 (by omega) (by omega) hR).2.1
            exact (wyC_le m _ ((Bd_is hq).mono (by omega))).1
      have quot : ∀ (d i : Nat), (i : Int) < trI k (dg x) ((d + 1 : Nat) : Int) → htR x (d + 1) i → dg x ≤ 4 → dg (htQ x (d + 1) i) ≤ dg x - 1 ∧ Bd (htQ x (d + 1) i) 17 := fun d i hi hR h4 => by
        obtain ⟨_, _, _, h5, h6⟩ := trI_ok hi
        have hq := (hit_spec (isdg_dg (hx.mono (by decide)) (by omega)) hx h5 (by omega) (by omega) hR).2.1
        have hb : Bd (htQ x (d + 1) i) 17 := (Bd_is hq).mono (by omega)
        have := dg_eq17 hb hq
        exact ⟨by omega, hb⟩
      have out : ∀ B T : Int, 0 ≤ B → 0 ≤ T → dg x ≤ 4 → (∀ d : Nat, (trN k (dg x) ((d + 1 : Nat) : Int) : Int) * B ≤ T) → (∀ (d i : Nat), (i : Int) < trI k (dg x) ((d + 1 : Nat) : Int) → htR x (d + 1) i → dg x ≤ 4 → wyC m (htQ x (d + 1) i) ≤ B) → 0 ≤ sI (fun d => sI (fun i => if bz (htR x (d + 1) i) = 0 then 0 else if bz (prC (htB x (d + 1) i)) = 0 then 0 else wyC m (htQ x (d + 1) i)) (trN k (dg x) ((d + 1 : Nat) : Int))) (dg x).toNat ∧ sI (fun d => sI (fun i => if bz (htR x (d + 1) i) = 0 then 0 else if bz (prC (htB x (d + 1) i)) = 0 then 0 else wyC m (htQ x (d + 1) i)) (trN k (dg x) ((d + 1 : Nat) : Int))) (dg x).toNat ≤ ((dg x).toNat : Int) * T := fun B T hB hT h4 hBT h => sI_le fun d hd => by
        have := sI_le (n := trN k (dg x) ((d + 1 : Nat) : Int)) (B := B) (key B hB h h4 d)
        have := hBT d
        omega
      by_cases c4 : dg x ≤ 4
      · by_cases c2 : dg x ≤ 2
        · have h := out 1 16 (by decide) (by decide) (by omega) (fun d => by have := trN_16 (k := k) (d := d + 1) (show dg x ≤ 3 by omega); omega) (fun d i hi hR h4 => by
            obtain ⟨q1, q2⟩ := quot d i hi hR h4
            exact (wyC_le m _ q2).2.1 (by omega))
          omega
        · by_cases c3 : dg x ≤ 3
          · have h := out 32 512 (by decide) (by decide) (by omega) (fun d => by have := trN_16 (k := k) (d := d + 1) (show dg x ≤ 3 by omega); omega) (fun d i hi hR h4 => by
              obtain ⟨q1, q2⟩ := quot d i hi hR h4
              exact (wyC_le m _ q2).2.2.1 (by omega))
            omega
          · have h := out 1536 393216 (by decide) (by decide) (by omega) (fun d => by have := trN_I k (dg x) ((d + 1 : Nat) : Int); omega) (fun d i hi hR h4 => by
              obtain ⟨q1, q2⟩ := quot d i hi hR h4
              exact (wyC_le m _ q2).2.2.2.1 (by omega))
            omega
      · refine ⟨?_, fun q => by omega, fun q => by omega, fun q => by omega, fun q => by omega⟩
        exact (sI_nn fun d _ => sI_nn fun i _ => by
          split
          · decide
          · split
            · decide
            · exact wyC_nn m _)
/-- frame of polynomials of the ways from depth e on -/
def WF {k : Nat} (P P' : Int → Option (Pl k)) (e : Nat) : Prop := ∀ p : Int, p ≠ 53 → p ≠ 55 → p ≠ 57 → (∀ j : Nat, e ≤ j → p ≠ 64 + 6 * (j : Int) ∧ p ≠ 66 + 6 * (j : Int)) → P' p = P p
theorem sIn_B {k : Nat} (m : Nat) {x : Pl k} (hx : Bd x 17) (h2 : 2 ≤ dg x) (h4 : dg x ≤ 4) (d n : Nat) (hn : (n : Int) ≤ trI k (dg x) ((d + 1 : Nat) : Int)) : 0 ≤ sI (fun i => if bz (htR x (d + 1) i) = 0 then 0 else if bz (prC (htB x (d + 1) i)) = 0 then 0 else wyC m (htQ x (d + 1) i)) n ∧ sI (fun i => if bz (htR x (d + 1) i) = 0 then 0 else if bz (prC (htB x (d + 1) i)) = 0 then 0 else wyC m (htQ x (d + 1) i)) n ≤ 393216 := by
  have h := sI_le (n := n) (B := 1536) (f := fun i => if bz (htR x (d + 1) i) = 0 then 0 else if bz (prC (htB x (d + 1) i)) = 0 then 0 else wyC m (htQ x (d + 1) i)) (fun i hi => by
    split
    · decide
    · rename_i q
      split
      · decide
      · have hi2 : (i : Int) < trI k (dg x) ((d + 1 : Nat) : Int) := by omega
        obtain ⟨_, _, _, h5, h6⟩ := trI_ok hi2
        have hq := (hit_spec (isdg_dg (hx.mono (by decide)) (by omega)) hx h5 (by omega) (by omega) (bz_yes q)).2.1
        have hb : Bd (htQ x (d + 1) i) 17 := (Bd_is hq).mono (by omega)
        have h7 := dg_eq17 hb hq
        have h8 := wyC_le m _ hb
        exact ⟨h8.1, h8.2.2.2.1 (by omega)⟩)
  have := trI_I k (dg x) ((d + 1 : Nat) : Int)
  omega
theorem sOut_B {k : Nat} (m : Nat) {x : Pl k} (hx : Bd x 17) (h2 : 2 ≤ dg x) (h4 : dg x ≤ 4) (d : Nat) (hd : (d : Int) ≤ dg x) : 0 ≤ sI (fun d => sI (fun i => if bz (htR x (d + 1) i) = 0 then 0 else if bz (prC (htB x (d + 1) i)) = 0 then 0 else wyC m (htQ x (d + 1) i)) (trN k (dg x) ((d + 1 : Nat) : Int))) d ∧ sI (fun d => sI (fun i => if bz (htR x (d + 1) i) = 0 then 0 else if bz (prC (htB x (d + 1) i)) = 0 then 0 else wyC m (htQ x (d + 1) i)) (trN k (dg x) ((d + 1 : Nat) : Int))) d ≤ 1572864 := by
  have h := sI_le (n := d) (B := 393216) (f := fun d => sI (fun i => if bz (htR x (d + 1) i) = 0 then 0 else if bz (prC (htB x (d + 1) i)) = 0 then 0 else wyC m (htQ x (d + 1) i)) (trN k (dg x) ((d + 1 : Nat) : Int))) (fun j _ => by
    have := trI_I k (dg x) ((j + 1 : Nat) : Int)
    exact sIn_B m hx h2 h4 j _ (by unfold trN; omega))
  omega
set_option maxRecDepth 100000 in
theorem c_waysS {d : Nat} {M : Mem} {k : Nat} {P : Int → Option (Pl k)} (C : CS M k P) (m : Nat) (IH : ∀ {M : Mem} {P : Int → Option (Pl k)} (_ : CS M k P) {x : Int} {g_x : Pl k} {e : Nat} (_ : isC P x g_x) (_ : x ≠ 53 ∧ x ≠ 55 ∧ x ≠ 57) (_ : ∀ j : Nat, e ≤ j → x ≠ 64 + 6 * (j : Int) ∧ x ≠ 66 + 6 * (j : Int)) (_ : e + m = 4) (_ : dg g_x ≤ (m : Int)), Ct 198 (d + 6) 83 [(1, 52), (1, x), (0, (e : Int))] M (fun r_ M' => ∃ P' : Int → Option (Pl k), r_ = (0, wyC m g_x) ∧ CS M' k P' ∧ (∀ a : Int, (∀ p : Int, isP p → a ≠ p ∧ a ≠ p + 1) → M' a = M a) ∧ WF P P' e)) {x : Int} {e : Nat} {f_x : Pl k} (hx : isC P x f_x) (nx_ : x ≠ 53 ∧ x ≠ 55 ∧ x ≠ 57) (nxW : ∀ j : Nat, e ≤ j → x ≠ 64 + 6 * (j : Int) ∧ x ≠ 66 + 6 * (j : Int)) (hem : e + (m + 1) = 4) (hm_x : dg f_x ≤ ((m + 1 : Nat) : Int)) : Ct 198 (d + 6 + 1) 83 [(1, 52), (1, x), (0, (e : Int))] M (fun r_ M' => ∃ P' : Int → Option (Pl k), r_ = (0, wyC (m + 1) f_x) ∧ CS M' k P' ∧ (∀ a : Int, (∀ p : Int, isP p → a ≠ p ∧ a ≠ p + 1) → M' a = M a) ∧ WF P P' e) := by
  have hK : cd 83 = k83 := rfl
  have q1_ := qq_I k
  have dx_ := C.dI hx
  have hxb_ := C.bd hx
  have hq_ : isP (64 + 6 * (e : Int)) ∧ isP (66 + 6 * (e : Int)) := ⟨(isPD (show e < 4 by omega)).1, (isPD (show e < 4 by omega)).2.1⟩
  have nxe_ := nxW e (by omega)
  show Wp 198 _ 83 0 [(1, 52), (1, x), (0, (e : Int)), (3, 0), (3, 0), (3, 0), (3, 0), (3, 0)] [] M _
  refine w_al hK rfl rfl ?_
  refine w_pt hK rfl hx.1 ?_
  rw [show M x 1 = dg f_x from C.t hx]
  have tI_ := CS.dI C hx
  refine w_ic hK rfl ?_
  refine w_lt2 hK rfl (by omega) (by omega) (by omega) (by omega) (fun h3 => ?_) (fun h3 => ?_)
  · refine w_ic hK rfl ?_
    refine w_iret hK rfl rfl ?_
    refine ⟨P, ?_, C, fun a np_ => rfl, fun p _ _ _ _ => rfl⟩
    exact congrArg (Prod.mk 0) (show 1 = wyC (m + 1) f_x from (by rw [wyC_s, if_pos (by omega)]))
  · refine w_il hK rfl rfl ?_
    refine w_ic hK rfl ?_
    refine w_lt2 hK rfl (by omega) (by omega) (by omega) (by omega) (fun h6 => ?_) (fun h6 => ?_)
    · refine w_al hK rfl rfl ?_
      refine w_getr (n := 6) (v := 61) hK rfl rfl (by decide) (by decide) rfl rfl rfl rfl ?_
      refine w_il hK rfl rfl ?_
      refine w_call [(1, 61), (0, (e : Int))] hK rfl rfl rfl rfl (Or.inl rfl) (c_pA0 e (by omega)) ?_
      rintro _ Mq ⟨rfl, e_⟩
      subst Mq
      refine ⟨by show (1 : Nat) ≠ 9; decide, (?_ : Wp 198 _ 83 13 [(1, 52), (1, x), (0, (e : Int)), (3, 0), (3, 0), (3, 0), (3, 0), (3, 0)] [(1, (64 + 6 * (e : Int)))] M _)⟩
      refine w_as [(1, 52), (1, x), (0, (e : Int)), (1, (64 + 6 * (e : Int))), (3, 0), (3, 0), (3, 0), (3, 0)] hK rfl rfl rfl ?_
      refine w_al hK rfl rfl ?_
      refine w_getr (n := 7) (v := 62) hK rfl rfl (by decide) (by decide) rfl rfl rfl rfl ?_
      refine w_il hK rfl rfl ?_
      refine w_call [(1, 62), (0, (e : Int))] hK rfl rfl rfl rfl (Or.inl rfl) (c_pA1 e (by omega)) ?_
      rintro _ Mq ⟨rfl, e_⟩
      subst Mq
      refine ⟨by show (1 : Nat) ≠ 9; decide, (?_ : Wp 198 _ 83 18 [(1, 52), (1, x), (0, (e : Int)), (1, (64 + 6 * (e : Int))), (3, 0), (3, 0), (3, 0), (3, 0)] [(1, (66 + 6 * (e : Int)))] M _)⟩
      refine w_as [(1, 52), (1, x), (0, (e : Int)), (1, (64 + 6 * (e : Int))), (1, (66 + 6 * (e : Int))), (3, 0), (3, 0), (3, 0)] hK rfl rfl rfl ?_
      refine w_al hK rfl rfl ?_
      refine w_null hK rfl (fun h20 => ?_) (fun h20 => ?_)
      · exfalso; omega
      · refine w_al hK rfl rfl ?_
        refine w_nonnull hK rfl (fun h22 => ?_) (fun h22 => ?_)
        · refine w_ic hK rfl ?_
          refine w_is [(1, 52), (1, x), (0, (e : Int)), (1, (64 + 6 * (e : Int))), (1, (66 + 6 * (e : Int))), (0, 0), (3, 0), (3, 0)] hK rfl rfl rfl ?_
          refine w_ic hK rfl ?_
          refine w_is [(1, 52), (1, x), (0, (e : Int)), (1, (64 + 6 * (e : Int))), (1, (66 + 6 * (e : Int))), (0, 0), (0, 1), (3, 0)] hK rfl rfl rfl ?_
          have lp29 : ∀ (n_ : Nat) (d1 : Nat) (P1 : Int → Option (Pl k)) (w7 : AV) (N29 : Mem), 5 - d1 = n_ → ((d1 : Int) ≤ dg f_x) → (CS N29 k P1) → ((∀ a : Int, (∀ p : Int, isP p → a ≠ p ∧ a ≠ p + 1) → N29 a = M a)) → (WF P P1 e) → Wp 198 (d + 6 + 1) 83 29 [(1, 52), (1, x), (0, (e : Int)), (1, (64 + 6 * (e : Int))), (1, (66 + 6 * (e : Int))), (0, (sI (fun d => sI (fun i => if bz (htR f_x (d + 1) i) = 0 then 0 else if bz (prC (htB f_x (d + 1) i)) = 0 then 0 else wyC m (htQ f_x (d + 1) i)) (trN k (dg f_x) ((d + 1 : Nat) : Int))) d1)), (0, ((d1 : Int) + 1)), w7] [] N29 (fun r_ M' => ∃ P' : Int → Option (Pl k), r_ = (0, wyC (m + 1) f_x) ∧ CS M' k P' ∧ (∀ a : Int, (∀ p : Int, isP p → a ≠ p ∧ a ≠ p + 1) → M' a = M a) ∧ WF P P' e) := by
            intro n_
            induction n_ using Nat.strongRecOn with
            | _ n_ ih29 =>
            intro d1 P1 w7 N29 hm29 hd hC hS hF
            have so_ := sOut_B m hxb_ (by omega) (by omega) d1 hd
            refine w_il hK rfl rfl ?_
            refine w_al hK rfl rfl ?_
            refine w_pt hK rfl hx.1 ?_
            rw [show N29 x 1 = dg f_x from hC.t ⟨hx.1, ((hF x nx_.1 nx_.2.1 nx_.2.2 (fun j hj => nxW j (by omega))).trans hx.2)⟩]
            have tI_ := CS.dI hC ⟨hx.1, ((hF x nx_.1 nx_.2.1 nx_.2.2 (fun j hj => nxW j (by omega))).trans hx.2)⟩
            refine w_gt2 hK rfl (by omega) (by omega) (by omega) (by omega) (fun h32 => ?_) (fun h32 => ?_)
            · refine w_il hK rfl rfl ?_
              refine w_iret hK rfl rfl ?_
              have ed_ : d1 = (dg f_x).toNat := by omega
              refine ⟨P1, ?_, hC, hS, hF⟩
              rw [ed_]
              exact congrArg (Prod.mk 0) (show _ = wyC (m + 1) f_x from (by rw [wyC_s, if_neg (by omega)]))
            · refine w_ic hK rfl ?_
              refine w_is [(1, 52), (1, x), (0, (e : Int)), (1, (64 + 6 * (e : Int))), (1, (66 + 6 * (e : Int))), (0, (sI (fun d => sI (fun i => if bz (htR f_x (d + 1) i) = 0 then 0 else if bz (prC (htB f_x (d + 1) i)) = 0 then 0 else wyC m (htQ f_x (d + 1) i)) (trN k (dg f_x) ((d + 1 : Nat) : Int))) d1)), (0, ((d1 : Int) + 1)), (0, 0)] hK rfl rfl rfl ?_
              have lp35 : ∀ (n_ : Nat) (i : Nat) (P1 : Int → Option (Pl k)) (N35 : Mem), 257 - i = n_ → ((i : Int) ≤ trI k (dg f_x) ((d1 + 1 : Nat) : Int)) → (CS N35 k P1) → ((∀ a : Int, (∀ p : Int, isP p → a ≠ p ∧ a ≠ p + 1) → N35 a = M a)) → (WF P P1 e) → Wp 198 (d + 6 + 1) 83 35 [(1, 52), (1, x), (0, (e : Int)), (1, (64 + 6 * (e : Int))), (1, (66 + 6 * (e : Int))), (0, (sI (fun d => sI (fun i => if bz (htR f_x (d + 1) i) = 0 then 0 else if bz (prC (htB f_x (d + 1) i)) = 0 then 0 else wyC m (htQ f_x (d + 1) i)) (trN k (dg f_x) ((d + 1 : Nat) : Int))) d1 + sI (fun i => if bz (htR f_x (d1 + 1) i) = 0 then 0 else if bz (prC (htB f_x (d1 + 1) i)) = 0 then 0 else wyC m (htQ f_x (d1 + 1) i)) i)), (0, ((d1 : Int) + 1)), (0, (i : Int))] [] N35 (fun r_ M' => ∃ P' : Int → Option (Pl k), r_ = (0, wyC (m + 1) f_x) ∧ CS M' k P' ∧ (∀ a : Int, (∀ p : Int, isP p → a ≠ p ∧ a ≠ p + 1) → M' a = M a) ∧ WF P P' e) := by
                intro n_
                induction n_ using Nat.strongRecOn with
                | _ n_ ih35 =>
                intro i P1 N35 hm35 hi hC hS hF
                have tr_ := trI_I k (dg f_x) ((d1 + 1 : Nat) : Int)
                have si_ := sIn_B m hxb_ (by omega) (by omega) d1 i hi
                refine w_il hK rfl rfl ?_
                refine w_al hK rfl rfl ?_
                refine w_al hK rfl rfl ?_
                refine w_pt hK rfl hx.1 ?_
                rw [show N35 x 1 = dg f_x from hC.t ⟨hx.1, ((hF x nx_.1 nx_.2.1 nx_.2.2 (fun j hj => nxW j (by omega))).trans hx.2)⟩]
                have tI_ := CS.dI hC ⟨hx.1, ((hF x nx_.1 nx_.2.1 nx_.2.2 (fun j hj => nxW j (by omega))).trans hx.2)⟩
                refine w_il hK rfl rfl ?_
                refine w_call [(1, 52), (0, (dg f_x)), (0, ((d1 : Int) + 1))] hK rfl rfl rfl rfl (Or.inr ⟨_, _, _, rfl, by decide, (by decide), rfl⟩) (c_tries hC.F (dg f_x) ((d1 : Int) + 1) (by omega) (by omega) (by omega) (by omega)) ?_
                rintro _ Mq ⟨rfl, e_⟩
                subst Mq
                rw [show trI k (dg f_x) ((d1 : Int) + 1) = trI k (dg f_x) ((d1 + 1 : Nat) : Int) from congrArg (trI k (dg f_x)) (by omega)]
                refine ⟨(by show (0 : Nat) ≠ 9; decide), (?_ : Wp 198 _ 83 41 [(1, 52), (1, x), (0, (e : Int)), (1, (64 + 6 * (e : Int))), (1, (66 + 6 * (e : Int))), (0, (sI (fun d => sI (fun i => if bz (htR f_x (d + 1) i) = 0 then 0 else if bz (prC (htB f_x (d + 1) i)) = 0 then 0 else wyC m (htQ f_x (d + 1) i)) (trN k (dg f_x) ((d + 1 : Nat) : Int))) d1 + sI (fun i => if bz (htR f_x (d1 + 1) i) = 0 then 0 else if bz (prC (htB f_x (d1 + 1) i)) = 0 then 0 else wyC m (htQ f_x (d1 + 1) i)) i)), (0, ((d1 : Int) + 1)), (0, (i : Int))] [(0, (trI k (dg f_x) ((d1 + 1 : Nat) : Int))), (0, (i : Int))] N35 _)⟩
                refine w_ge2 hK rfl (by omega) (by omega) (by omega) (by omega) (fun h41 => ?_) (fun h41 => ?_)
                · refine w_inc [(1, 52), (1, x), (0, (e : Int)), (1, (64 + 6 * (e : Int))), (1, (66 + 6 * (e : Int))), (0, (sI (fun d => sI (fun i => if bz (htR f_x (d + 1) i) = 0 then 0 else if bz (prC (htB f_x (d + 1) i)) = 0 then 0 else wyC m (htQ f_x (d + 1) i)) (trN k (dg f_x) ((d + 1 : Nat) : Int))) d1 + sI (fun i => if bz (htR f_x (d1 + 1) i) = 0 then 0 else if bz (prC (htB f_x (d1 + 1) i)) = 0 then 0 else wyC m (htQ f_x (d1 + 1) i)) i)), (0, (((d1 : Int) + 1) + 1)), (0, (i : Int))] hK rfl rfl rfl (by omega) (by omega) rfl ?_
                  refine w_goto hK rfl ?_
                  have q29 := ih29 _ (by omega) (d1 + 1) _ (0, (i : Int)) N35 rfl (by omega) hC (fun a np_ => (hS a np_)) (fun p n53_ n55_ n57_ nW_ => (hF p n53_ n55_ n57_ (fun j hj => nW_ j (by omega))))
                  have ei_ : trN k (dg f_x) ((d1 + 1 : Nat) : Int) = i := by unfold trN; omega
                  rw [show sI (fun d => sI (fun i => if bz (htR f_x (d + 1) i) = 0 then 0 else if bz (prC (htB f_x (d + 1) i)) = 0 then 0 else wyC m (htQ f_x (d + 1) i)) (trN k (dg f_x) ((d + 1 : Nat) : Int))) (d1 + 1) = sI (fun d => sI (fun i => if bz (htR f_x (d + 1) i) = 0 then 0 else if bz (prC (htB f_x (d + 1) i)) = 0 then 0 else wyC m (htQ f_x (d + 1) i)) (trN k (dg f_x) ((d + 1 : Nat) : Int))) d1 + sI (fun i => if bz (htR f_x (d1 + 1) i) = 0 then 0 else if bz (prC (htB f_x (d1 + 1) i)) = 0 then 0 else wyC m (htQ f_x (d1 + 1) i)) (trN k (dg f_x) ((d1 + 1 : Nat) : Int)) from rfl, ei_] at q29
                  rw [show ((d1 + 1 : Nat) : Int) + 1 = (d1 : Int) + 1 + 1 by omega] at q29
                  exact q29
                · have tk_ := trI_ok h41
                  have hxd_ := isdg_dg (hxb_.mono (show 17 ≤ 64 by decide)) (by omega)
                  refine w_al hK rfl rfl ?_
                  refine w_al hK rfl rfl ?_
                  refine w_il hK rfl rfl ?_
                  refine w_il hK rfl rfl ?_
                  refine w_al hK rfl rfl ?_
                  refine w_al hK rfl rfl ?_
                  rw [show (d1 : Int) + 1 = ((d1 + 1 : Nat) : Int) by omega]
                  refine w_call [(1, 52), (1, x), (0, ((d1 + 1 : Nat) : Int)), (0, (i : Int)), (1, (64 + 6 * (e : Int))), (1, (66 + 6 * (e : Int)))] hK rfl rfl rfl rfl (Or.inr ⟨_, _, _, rfl, by decide, (by decide), rfl⟩) (c_hits hC ⟨hx.1, ((hF x nx_.1 nx_.2.1 nx_.2.2 (fun j hj => nxW j (by omega))).trans hx.2)⟩ hq_.1 hq_.2 (by omega) (d1 + 1 : Nat) i (by omega) (by omega) (by omega) (by omega) (by omega)) ?_
                  rintro _ V45 ⟨P45, rfl, C45, S45, F45, f45⟩
                  have bv_ := bz_01 (htR f_x (d1 + 1 : Nat) i)
                  refine ⟨by show (0 : Nat) ≠ 9; decide, (?_ : Wp 198 _ 83 49 [(1, 52), (1, x), (0, (e : Int)), (1, (64 + 6 * (e : Int))), (1, (66 + 6 * (e : Int))), (0, (sI (fun d => sI (fun i => if bz (htR f_x (d + 1) i) = 0 then 0 else if bz (prC (htB f_x (d + 1) i)) = 0 then 0 else wyC m (htQ f_x (d + 1) i)) (trN k (dg f_x) ((d + 1 : Nat) : Int))) d1 + sI (fun i => if bz (htR f_x (d1 + 1) i) = 0 then 0 else if bz (prC (htB f_x (d1 + 1) i)) = 0 then 0 else wyC m (htQ f_x (d1 + 1) i)) i)), (0, ((d1 + 1 : Nat) : Int)), (0, (i : Int))] [(0, (bz (htR f_x (d1 + 1 : Nat) i)))] V45 _)⟩
                  refine w_eq hK rfl (by omega) (by omega) (fun h49 => ?_) (fun h49 => ?_)
                  · rw [show ((d1 + 1 : Nat) : Int) = (d1 : Int) + 1 by omega]
                    refine w_inc [(1, 52), (1, x), (0, (e : Int)), (1, (64 + 6 * (e : Int))), (1, (66 + 6 * (e : Int))), (0, (sI (fun d => sI (fun i => if bz (htR f_x (d + 1) i) = 0 then 0 else if bz (prC (htB f_x (d + 1) i)) = 0 then 0 else wyC m (htQ f_x (d + 1) i)) (trN k (dg f_x) ((d + 1 : Nat) : Int))) d1 + sI (fun i => if bz (htR f_x (d1 + 1) i) = 0 then 0 else if bz (prC (htB f_x (d1 + 1) i)) = 0 then 0 else wyC m (htQ f_x (d1 + 1) i)) i)), (0, ((d1 : Int) + 1)), (0, ((i : Int) + 1))] hK rfl rfl rfl (by omega) (by omega) rfl ?_
                    refine w_goto hK rfl ?_
                    have q35 := ih35 _ (by omega) (i + 1) _ V45 rfl (by omega) C45 (fun a np_ => ((S45 a np_).trans (hS a np_))) (fun p n53_ n55_ n57_ nW_ => ((F45 p (nW_ e (by omega)).1 (nW_ e (by omega)).2 n53_).trans (hF p n53_ n55_ n57_ (fun j hj => nW_ j (by omega)))))
                    rw [show sI (fun i => if bz (htR f_x (d1 + 1) i) = 0 then 0 else if bz (prC (htB f_x (d1 + 1) i)) = 0 then 0 else wyC m (htQ f_x (d1 + 1) i)) (i + 1) = sI (fun i => if bz (htR f_x (d1 + 1) i) = 0 then 0 else if bz (prC (htB f_x (d1 + 1) i)) = 0 then 0 else wyC m (htQ f_x (d1 + 1) i)) i + (if bz (htR f_x (d1 + 1) i) = 0 then 0 else if bz (prC (htB f_x (d1 + 1) i)) = 0 then 0 else wyC m (htQ f_x (d1 + 1) i)) from rfl, show (if bz (htR f_x (d1 + 1) i) = 0 then 0 else if bz (prC (htB f_x (d1 + 1) i)) = 0 then 0 else wyC m (htQ f_x (d1 + 1) i)) = 0 from if_pos h49] at q35
                    rw [show sI (fun d => sI (fun i => if bz (htR f_x (d + 1) i) = 0 then 0 else if bz (prC (htB f_x (d + 1) i)) = 0 then 0 else wyC m (htQ f_x (d + 1) i)) (trN k (dg f_x) ((d + 1 : Nat) : Int))) d1 + (sI (fun i => if bz (htR f_x (d1 + 1) i) = 0 then 0 else if bz (prC (htB f_x (d1 + 1) i)) = 0 then 0 else wyC m (htQ f_x (d1 + 1) i)) i + 0) = sI (fun d => sI (fun i => if bz (htR f_x (d + 1) i) = 0 then 0 else if bz (prC (htB f_x (d + 1) i)) = 0 then 0 else wyC m (htQ f_x (d + 1) i)) (trN k (dg f_x) ((d + 1 : Nat) : Int))) d1 + sI (fun i => if bz (htR f_x (d1 + 1) i) = 0 then 0 else if bz (prC (htB f_x (d1 + 1) i)) = 0 then 0 else wyC m (htQ f_x (d1 + 1) i)) i by omega] at q35
                    exact q35
                  · have hsp_ := hit_spec hxd_ hxb_ tk_.2.2.2.1 (by omega) (by omega) (bz_yes h49)
                    refine w_al hK rfl rfl ?_
                    refine w_al hK rfl rfl ?_
                    refine w_call [(1, 52), (1, (64 + 6 * (e : Int)))] hK rfl rfl rfl rfl (Or.inr ⟨_, _, _, rfl, by decide, (by decide), rfl⟩) (c_isPr C45 ⟨hq_.1, (f45 (bz_yes h49)).1⟩ (by omega) (by have := dg_eq17 ((Bd_is hsp_.1.1).mono (by omega)) hsp_.1.1; omega)) ?_
                    rintro _ V46 ⟨P46, rfl, C46, S46, F46⟩
                    have bv_ := bz_01 (prC (htB f_x (d1 + 1 : Nat) i))
                    refine ⟨by show (0 : Nat) ≠ 9; decide, (?_ : Wp 198 _ 83 53 [(1, 52), (1, x), (0, (e : Int)), (1, (64 + 6 * (e : Int))), (1, (66 + 6 * (e : Int))), (0, (sI (fun d => sI (fun i => if bz (htR f_x (d + 1) i) = 0 then 0 else if bz (prC (htB f_x (d + 1) i)) = 0 then 0 else wyC m (htQ f_x (d + 1) i)) (trN k (dg f_x) ((d + 1 : Nat) : Int))) d1 + sI (fun i => if bz (htR f_x (d1 + 1) i) = 0 then 0 else if bz (prC (htB f_x (d1 + 1) i)) = 0 then 0 else wyC m (htQ f_x (d1 + 1) i)) i)), (0, ((d1 + 1 : Nat) : Int)), (0, (i : Int))] [(0, (bz (prC (htB f_x (d1 + 1 : Nat) i))))] V46 _)⟩
                    refine w_eq hK rfl (by omega) (by omega) (fun h53 => ?_) (fun h53 => ?_)
                    · rw [show ((d1 + 1 : Nat) : Int) = (d1 : Int) + 1 by omega]
                      refine w_inc [(1, 52), (1, x), (0, (e : Int)), (1, (64 + 6 * (e : Int))), (1, (66 + 6 * (e : Int))), (0, (sI (fun d => sI (fun i => if bz (htR f_x (d + 1) i) = 0 then 0 else if bz (prC (htB f_x (d + 1) i)) = 0 then 0 else wyC m (htQ f_x (d + 1) i)) (trN k (dg f_x) ((d + 1 : Nat) : Int))) d1 + sI (fun i => if bz (htR f_x (d1 + 1) i) = 0 then 0 else if bz (prC (htB f_x (d1 + 1) i)) = 0 then 0 else wyC m (htQ f_x (d1 + 1) i)) i)), (0, ((d1 : Int) + 1)), (0, ((i : Int) + 1))] hK rfl rfl rfl (by omega) (by omega) rfl ?_
                      refine w_goto hK rfl ?_
                      have q35 := ih35 _ (by omega) (i + 1) _ V46 rfl (by omega) C46 (fun a np_ => ((S46 a np_).trans ((S45 a np_).trans (hS a np_)))) (fun p n53_ n55_ n57_ nW_ => ((F46 p n53_ n55_ n57_).trans ((F45 p (nW_ e (by omega)).1 (nW_ e (by omega)).2 n53_).trans (hF p n53_ n55_ n57_ (fun j hj => nW_ j (by omega))))))
                      rw [show sI (fun i => if bz (htR f_x (d1 + 1) i) = 0 then 0 else if bz (prC (htB f_x (d1 + 1) i)) = 0 then 0 else wyC m (htQ f_x (d1 + 1) i)) (i + 1) = sI (fun i => if bz (htR f_x (d1 + 1) i) = 0 then 0 else if bz (prC (htB f_x (d1 + 1) i)) = 0 then 0 else wyC m (htQ f_x (d1 + 1) i)) i + (if bz (htR f_x (d1 + 1) i) = 0 then 0 else if bz (prC (htB f_x (d1 + 1) i)) = 0 then 0 else wyC m (htQ f_x (d1 + 1) i)) from rfl, show (if bz (htR f_x (d1 + 1) i) = 0 then 0 else if bz (prC (htB f_x (d1 + 1) i)) = 0 then 0 else wyC m (htQ f_x (d1 + 1) i)) = 0 from (if_neg h49).trans (if_pos h53)] at q35
                      rw [show sI (fun d => sI (fun i => if bz (htR f_x (d + 1) i) = 0 then 0 else if bz (prC (htB f_x (d + 1) i)) = 0 then 0 else wyC m (htQ f_x (d + 1) i)) (trN k (dg f_x) ((d + 1 : Nat) : Int))) d1 + (sI (fun i => if bz (htR f_x (d1 + 1) i) = 0 then 0 else if bz (prC (htB f_x (d1 + 1) i)) = 0 then 0 else wyC m (htQ f_x (d1 + 1) i)) i + 0) = sI (fun d => sI (fun i => if bz (htR f_x (d + 1) i) = 0 then 0 else if bz (prC (htB f_x (d + 1) i)) = 0 then 0 else wyC m (htQ f_x (d + 1) i)) (trN k (dg f_x) ((d + 1 : Nat) : Int))) d1 + sI (fun i => if bz (htR f_x (d1 + 1) i) = 0 then 0 else if bz (prC (htB f_x (d1 + 1) i)) = 0 then 0 else wyC m (htQ f_x (d1 + 1) i)) i by omega] at q35
                      exact q35
                    · refine w_il hK rfl rfl ?_
                      refine w_al hK rfl rfl ?_
                      refine w_al hK rfl rfl ?_
                      refine w_il hK rfl rfl ?_
                      refine w_ic hK rfl ?_
                      refine w_add hK rfl (by omega) (by omega) ?_
                      rw [show (e : Int) + 1 = ((e + 1 : Nat) : Int) by omega]
                      refine w_call [(1, 52), (1, (66 + 6 * (e : Int))), (0, ((e + 1 : Nat) : Int))] hK rfl rfl rfl rfl (Or.inr ⟨_, _, _, rfl, by decide, (by decide), rfl⟩) (IH C46 (x := (66 + 6 * (e : Int))) (e := e + 1) ⟨hq_.2, ((F46 (66 + 6 * (e : Int)) (by omega) (by omega) (by omega)).trans (f45 (bz_yes h49)).2)⟩ ⟨by omega, by omega, by omega⟩ (fun j hj => by omega) (by omega) (by have := dg_eq17 ((Bd_is hsp_.2.1).mono (by omega)) hsp_.2.1; omega)) ?_
                      rintro _ V47 ⟨P47, rfl, C47, S47, F47⟩
                      have wr_ := wyC_le m (htQ f_x (d1 + 1) i) ((Bd_is hsp_.2.1).mono (by omega))
                      have dq_ := dg_eq17 ((Bd_is hsp_.2.1).mono (by omega)) hsp_.2.1
                      refine ⟨(by show (0 : Nat) ≠ 9; decide), (?_ : Wp 198 _ 83 61 [(1, 52), (1, x), (0, (e : Int)), (1, (64 + 6 * (e : Int))), (1, (66 + 6 * (e : Int))), (0, (sI (fun d => sI (fun i => if bz (htR f_x (d + 1) i) = 0 then 0 else if bz (prC (htB f_x (d + 1) i)) = 0 then 0 else wyC m (htQ f_x (d + 1) i)) (trN k (dg f_x) ((d + 1 : Nat) : Int))) d1 + sI (fun i => if bz (htR f_x (d1 + 1) i) = 0 then 0 else if bz (prC (htB f_x (d1 + 1) i)) = 0 then 0 else wyC m (htQ f_x (d1 + 1) i)) i)), (0, ((d1 + 1 : Nat) : Int)), (0, (i : Int))] [(0, (wyC m (htQ f_x (d1 + 1) i))), (0, (sI (fun d => sI (fun i => if bz (htR f_x (d + 1) i) = 0 then 0 else if bz (prC (htB f_x (d + 1) i)) = 0 then 0 else wyC m (htQ f_x (d + 1) i)) (trN k (dg f_x) ((d + 1 : Nat) : Int))) d1 + sI (fun i => if bz (htR f_x (d1 + 1) i) = 0 then 0 else if bz (prC (htB f_x (d1 + 1) i)) = 0 then 0 else wyC m (htQ f_x (d1 + 1) i)) i))] V47 _)⟩
                      refine w_add hK rfl (by omega) (by omega) ?_
                      refine w_is [(1, 52), (1, x), (0, (e : Int)), (1, (64 + 6 * (e : Int))), (1, (66 + 6 * (e : Int))), (0, ((sI (fun d => sI (fun i => if bz (htR f_x (d + 1) i) = 0 then 0 else if bz (prC (htB f_x (d + 1) i)) = 0 then 0 else wyC m (htQ f_x (d + 1) i)) (trN k (dg f_x) ((d + 1 : Nat) : Int))) d1 + sI (fun i => if bz (htR f_x (d1 + 1) i) = 0 then 0 else if bz (prC (htB f_x (d1 + 1) i)) = 0 then 0 else wyC m (htQ f_x (d1 + 1) i)) i) + (wyC m (htQ f_x (d1 + 1) i)))), (0, ((d1 + 1 : Nat) : Int)), (0, (i : Int))] hK rfl rfl rfl ?_
                      rw [show ((d1 + 1 : Nat) : Int) = (d1 : Int) + 1 by omega]
                      refine w_inc [(1, 52), (1, x), (0, (e : Int)), (1, (64 + 6 * (e : Int))), (1, (66 + 6 * (e : Int))), (0, ((sI (fun d => sI (fun i => if bz (htR f_x (d + 1) i) = 0 then 0 else if bz (prC (htB f_x (d + 1) i)) = 0 then 0 else wyC m (htQ f_x (d + 1) i)) (trN k (dg f_x) ((d + 1 : Nat) : Int))) d1 + sI (fun i => if bz (htR f_x (d1 + 1) i) = 0 then 0 else if bz (prC (htB f_x (d1 + 1) i)) = 0 then 0 else wyC m (htQ f_x (d1 + 1) i)) i) + (wyC m (htQ f_x (d1 + 1) i)))), (0, ((d1 : Int) + 1)), (0, ((i : Int) + 1))] hK rfl rfl rfl (by omega) (by omega) rfl ?_
                      refine w_goto hK rfl ?_
                      have q35 := ih35 _ (by omega) (i + 1) _ V47 rfl (by omega) C47 (fun a np_ => ((S47 a np_).trans ((S46 a np_).trans ((S45 a np_).trans (hS a np_))))) (fun p n53_ n55_ n57_ nW_ => ((F47 p n53_ n55_ n57_ (fun j hj => nW_ j (by omega))).trans ((F46 p n53_ n55_ n57_).trans ((F45 p (nW_ e (by omega)).1 (nW_ e (by omega)).2 n53_).trans (hF p n53_ n55_ n57_ (fun j hj => nW_ j (by omega)))))))
                      rw [show sI (fun i => if bz (htR f_x (d1 + 1) i) = 0 then 0 else if bz (prC (htB f_x (d1 + 1) i)) = 0 then 0 else wyC m (htQ f_x (d1 + 1) i)) (i + 1) = sI (fun i => if bz (htR f_x (d1 + 1) i) = 0 then 0 else if bz (prC (htB f_x (d1 + 1) i)) = 0 then 0 else wyC m (htQ f_x (d1 + 1) i)) i + (if bz (htR f_x (d1 + 1) i) = 0 then 0 else if bz (prC (htB f_x (d1 + 1) i)) = 0 then 0 else wyC m (htQ f_x (d1 + 1) i)) from rfl, show (if bz (htR f_x (d1 + 1) i) = 0 then 0 else if bz (prC (htB f_x (d1 + 1) i)) = 0 then 0 else wyC m (htQ f_x (d1 + 1) i)) = wyC m (htQ f_x (d1 + 1) i) from (if_neg h49).trans (if_neg h53)] at q35
                      rw [show sI (fun d => sI (fun i => if bz (htR f_x (d + 1) i) = 0 then 0 else if bz (prC (htB f_x (d + 1) i)) = 0 then 0 else wyC m (htQ f_x (d + 1) i)) (trN k (dg f_x) ((d + 1 : Nat) : Int))) d1 + (sI (fun i => if bz (htR f_x (d1 + 1) i) = 0 then 0 else if bz (prC (htB f_x (d1 + 1) i)) = 0 then 0 else wyC m (htQ f_x (d1 + 1) i)) i + wyC m (htQ f_x (d1 + 1) i)) = sI (fun d => sI (fun i => if bz (htR f_x (d + 1) i) = 0 then 0 else if bz (prC (htB f_x (d + 1) i)) = 0 then 0 else wyC m (htQ f_x (d + 1) i)) (trN k (dg f_x) ((d + 1 : Nat) : Int))) d1 + sI (fun i => if bz (htR f_x (d1 + 1) i) = 0 then 0 else if bz (prC (htB f_x (d1 + 1) i)) = 0 then 0 else wyC m (htQ f_x (d1 + 1) i)) i + wyC m (htQ f_x (d1 + 1) i) by omega] at q35
                      exact q35
              have tr_ := trI_I k (dg f_x) ((d1 + 1 : Nat) : Int)
              have q35 := lp35 _ 0 _ N29 rfl (by omega) hC (fun a np_ => (hS a np_)) (fun p n53_ n55_ n57_ nW_ => (hF p n53_ n55_ n57_ (fun j hj => nW_ j (by omega))))
              rw [show sI (fun i => if bz (htR f_x (d1 + 1) i) = 0 then 0 else if bz (prC (htB f_x (d1 + 1) i)) = 0 then 0 else wyC m (htQ f_x (d1 + 1) i)) 0 = 0 from rfl, show sI (fun d => sI (fun i => if bz (htR f_x (d + 1) i) = 0 then 0 else if bz (prC (htB f_x (d + 1) i)) = 0 then 0 else wyC m (htQ f_x (d + 1) i)) (trN k (dg f_x) ((d + 1 : Nat) : Int))) d1 + 0 = sI (fun d => sI (fun i => if bz (htR f_x (d + 1) i) = 0 then 0 else if bz (prC (htB f_x (d + 1) i)) = 0 then 0 else wyC m (htQ f_x (d + 1) i)) (trN k (dg f_x) ((d + 1 : Nat) : Int))) d1 by omega] at q35
              exact q35
          exact lp29 _ 0 _ (3, 0) M rfl (by omega) C (fun a np_ => rfl) (fun p n53_ n55_ n57_ nW_ => rfl)
        · exfalso; omega
    · exfalso; omega
set_option maxRecDepth 100000 in
theorem c_ways0 {d : Nat} {M : Mem} {k : Nat} {P : Int → Option (Pl k)} (C : CS M k P) {x : Int} {f_x : Pl k} (hx : isC P x f_x) (e : Nat) (he : e ≤ 4) (hm_x : dg f_x ≤ 0) : Ct 198 (d) 83 [(1, 52), (1, x), (0, (e : Int))] M (fun r M' => r = (0, 1) ∧ M' = M) := by
  have hK : cd 83 = k83 := rfl
  have dx_ := C.dI hx
  show Wp 198 _ 83 0 [(1, 52), (1, x), (0, (e : Int)), (3, 0), (3, 0), (3, 0), (3, 0), (3, 0)] [] M _
  refine w_al hK rfl rfl ?_
  refine w_pt hK rfl hx.1 ?_
  rw [show M x 1 = dg f_x from C.t hx]
  have tI_ := CS.dI C hx
  refine w_ic hK rfl ?_
  refine w_lt2 hK rfl (by omega) (by omega) (by omega) (by omega) (fun h3 => ?_) (fun h3 => ?_)
  · refine w_ic hK rfl ?_
    refine w_iret hK rfl rfl ?_
    exact ⟨rfl, rfl⟩
  · exfalso; omega
theorem c_ways {k : Nat} : ∀ (m : Nat) {d : Nat} {M : Mem} {P : Int → Option (Pl k)} (_ : CS M k P) {x : Int} {g_x : Pl k} {e : Nat} (_ : isC P x g_x) (_ : x ≠ 53 ∧ x ≠ 55 ∧ x ≠ 57) (_ : ∀ j : Nat, e ≤ j → x ≠ 64 + 6 * (j : Int) ∧ x ≠ 66 + 6 * (j : Int)) (_ : e + m = 4) (_ : dg g_x ≤ (m : Int)), Ct 198 (d + 6 + m) 83 [(1, 52), (1, x), (0, (e : Int))] M (fun r_ M' => ∃ P' : Int → Option (Pl k), r_ = (0, wyC m g_x) ∧ CS M' k P' ∧ (∀ a : Int, (∀ p : Int, isP p → a ≠ p ∧ a ≠ p + 1) → M' a = M a) ∧ WF P P' e)
  | 0, d, M, P, C, x, g_x, e, hx, nx, nxW, hem, hd => (c_ways0 C hx e (by omega) (by omega)).imp fun r M' h => ⟨P, h.1, h.2 ▸ C, fun a _ => by rw [h.2], fun p _ _ _ _ => rfl⟩
  | m + 1, d, M, P, C, x, g_x, e, hx, nx, nxW, hem, hd => by
    have h := c_waysS (d := d + m) C m (fun {M} {P} C {x} {g_x} {e} h1 h2 h3 h4 h5 => by
      have := c_ways m (d := d) C h1 h2 h3 h4 h5
      rw [show d + 6 + m = d + m + 6 by omega] at this
      exact this) hx nx nxW hem hd
    rw [show d + m + 6 + 1 = d + 6 + (m + 1) by omega] at h
    exact h
set_option maxRecDepth 100000 in
theorem c_facAt {d : Nat} {M : Mem} {c : Nat} (hc : c ≤ 4) (h9 : M 52 9 = (c : Int)) (j : Int) (j1 : -2147483648 ≤ j) (j2 : j ≤ 2147483647) : Ct 198 (d + 1) 82 [(1, 52), (0, j)] M (fun r M' => r = (1, if 1 ≤ j ∧ j ≤ (c : Int) then 68 + 6 * ((c : Int) - j) else -1) ∧ M' = M) := by
  have hK : cd 82 = k82 := rfl
  show Wp 198 _ 82 0 [(1, 52), (0, j)] [] M _
  refine w_il hK rfl rfl ?_
  refine w_ic hK rfl ?_
  refine w_lt2 hK rfl (by omega) (by omega) (by omega) (by omega) (fun h2 => ?_) (fun h2 => ?_)
  · refine w_nul hK rfl ?_
    refine w_aret hK rfl rfl ?_
    exact ⟨by rw [if_neg (by omega)], rfl⟩
  · refine w_il hK rfl rfl ?_
    refine w_al hK rfl rfl ?_
    refine w_geti (n := 9) (m := 9) hK rfl rfl (by decide) (by decide) rfl rfl rfl rfl ?_
    rw [show M 52 9 = (c : Int) from h9]
    refine w_gt2 hK rfl (by omega) (by omega) (by omega) (by omega) (fun h6 => ?_) (fun h6 => ?_)
    · refine w_nul hK rfl ?_
      refine w_aret hK rfl rfl ?_
      exact ⟨by rw [if_neg (by omega)], rfl⟩
    · refine w_al hK rfl rfl ?_
      refine w_getr (n := 8) (v := 63) hK rfl rfl (by decide) (by decide) rfl rfl rfl rfl ?_
      refine w_al hK rfl rfl ?_
      refine w_geti (n := 9) (m := 9) hK rfl rfl (by decide) (by decide) rfl rfl rfl rfl ?_
      rw [show M 52 9 = (c : Int) from h9]
      refine w_il hK rfl rfl ?_
      refine w_sub hK rfl (by omega) (by omega) ?_
      refine w_call [(1, 63), (0, ((c : Int) - j))] hK rfl rfl rfl rfl (Or.inl rfl) (Ct.cv (c_pA2 ((c : Int) - j).toNat (by omega)) (by rw [show ((((c : Int) - j).toNat : Nat) : Int) = (c : Int) - j by omega])) ?_
      rintro _ Mq ⟨rfl, e_⟩
      subst Mq
      refine ⟨by show (1 : Nat) ≠ 9; decide, (?_ : Wp 198 _ 82 14 [(1, 52), (0, j)] [(1, (68 + 6 * ((((c : Int) - j).toNat : Nat) : Int)))] M _)⟩
      refine w_goto hK rfl ?_
      refine w_aret hK rfl rfl ?_
      exact ⟨by rw [if_pos (by omega)]; exact congrArg (Prod.mk 1) (by omega), rfl⟩
set_option maxRecDepth 100000 in
theorem c_forget {d : Nat} {M : Mem} : Ct 198 (d) 75 [(1, 52)] M (fun r M' => r = (4, 0) ∧ M' 52 9 = 0 ∧ (∀ a : Int, a ≠ 52 → M' a = M a)) := by
  have hK : cd 75 = k75 := rfl
  show Wp 198 _ 75 0 [(1, 52)] [] M _
  refine w_al hK rfl rfl ?_
  refine w_ic hK rfl ?_
  refine w_puti (n := 9) (m := 9) hK rfl rfl (by decide) (by decide) rfl rfl rfl rfl ?_
  refine w_ret hK rfl rfl ?_
  exact ⟨rfl, up_eq, (fun a n52_ => (up_row n52_))⟩
