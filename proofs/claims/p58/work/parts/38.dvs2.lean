/-! contracts: Divisors, survey and isPrime -/
theorem trI_ok {k : Nat} {n : Int} {e i : Nat} (h : (i : Int) < trI k n (e : Int)) : i < 256 ∧ i < qq k * qq k ∧ ((e ≤ 1 ∨ (e : Int) = n - 1) → i < qq k) ∧ 1 ≤ e ∧ (e : Int) ≤ n := by
  have h1 := trI_I k n e
  have h2 := qq_ge k
  have h3 : 4 * 4 ≤ qq k * qq k := Nat.mul_le_mul h2 h2
  have h5 : qq k * 4 ≤ qq k * qq k := Nat.mul_le_mul_left _ h2
  have h4 : ((qq k * qq k : Nat) : Int) = (qq k : Int) * (qq k : Int) := by simp
  unfold trI at h h1
  rw [← h4] at h h1
  refine ⟨by omega, ?_, ?_, ?_, ?_⟩ <;> (revert h; repeat' split) <;> (intro h; omega)
/-- how many of the first tries find one -/
noncomputable def svN {k : Nat} (x : Pl k) (d : Nat) : Nat → Int
  | 0 => 0
  | m + 1 => if bz (htR x d m) = 0 then svN x d m else svN x d m + 1
/-- the first by ORDER of these -/
noncomputable def svB {k : Nat} (x : Pl k) (d : Nat) : Nat → Pl k
  | 0 => pz
  | m + 1 => if bz (htR x d m) = 0 then svB x d m else if svN x d m = 0 ∨ cmpP (htB x d m) (svB x d m) < 0 then htB x d m else svB x d m
theorem svN_I {k : Nat} (x : Pl k) (d : Nat) : ∀ m : Nat, 0 ≤ svN x d m ∧ svN x d m ≤ m
  | 0 => ⟨by show (0 : Int) ≤ 0; decide, by show (0 : Int) ≤ 0; decide⟩
  | m + 1 => by
    have := svN_I x d m
    unfold svN
    split <;> omega
def trN (k : Nat) (n d : Int) : Nat := (trI k n d).toNat
set_option maxRecDepth 100000 in
theorem c_survey {d : Nat} {M : Mem} {k : Nat} {P : Int → Option (Pl k)} (C : CS M k P) {x out : Int} {f_x : Pl k} (hx : isC P x f_x) (hout : isP out) (nx : x ≠ 53 ∧ x ≠ 55 ∧ x ≠ 57 ∧ x ≠ out) (no : out ≠ 53 ∧ out ≠ 55 ∧ out ≠ 57) (e : Nat) (e1_ : 1 ≤ e) (e2_ : e ≤ 4) : Ct 198 (d + 5) 76 [(1, 52), (1, x), (0, (e : Int)), (1, out)] M (fun r_ M' => ∃ P' : Int → Option (Pl k), r_ = (0, svN f_x e (trN k (dg f_x) e)) ∧ CS M' k P' ∧ (∀ a : Int, (∀ p : Int, isP p → a ≠ p ∧ a ≠ p + 1) → M' a = M a) ∧ (∀ p : Int, p ≠ 53 → p ≠ 55 → p ≠ 57 → p ≠ out → P' p = P p) ∧ (svN f_x e (trN k (dg f_x) e) ≠ 0 → P' out = some (svB f_x e (trN k (dg f_x) e)))) := by
  have hK : cd 76 = k76 := rfl
  have q1_ := qq_I k
  have dx_ := C.dI hx
  show Wp 198 _ 76 0 [(1, 52), (1, x), (0, (e : Int)), (1, out), (3, 0), (3, 0)] [] M _
  refine w_ic hK rfl ?_
  refine w_is [(1, 52), (1, x), (0, (e : Int)), (1, out), (0, 0), (3, 0)] hK rfl rfl rfl ?_
  refine w_ic hK rfl ?_
  refine w_is [(1, 52), (1, x), (0, (e : Int)), (1, out), (0, 0), (0, 0)] hK rfl rfl rfl ?_
  have lp4 : ∀ (n_ : Nat) (i : Nat) (P1 : Int → Option (Pl k)) (N4 : Mem), 257 - i = n_ → ((i : Int) ≤ trI k (dg f_x) (e : Int)) → (CS N4 k P1) → ((∀ a : Int, (∀ p : Int, isP p → a ≠ p ∧ a ≠ p + 1) → N4 a = M a)) → ((∀ p : Int, p ≠ 53 → p ≠ 55 → p ≠ 57 → p ≠ out → P1 p = P p)) → (svN f_x e i = 0 ∨ P1 out = some (svB f_x e i)) → Wp 198 (d + 5) 76 4 [(1, 52), (1, x), (0, (e : Int)), (1, out), (0, svN f_x e i), (0, (i : Int))] [] N4 (fun r_ M' => ∃ P' : Int → Option (Pl k), r_ = (0, svN f_x e (trN k (dg f_x) e)) ∧ CS M' k P' ∧ (∀ a : Int, (∀ p : Int, isP p → a ≠ p ∧ a ≠ p + 1) → M' a = M a) ∧ (∀ p : Int, p ≠ 53 → p ≠ 55 → p ≠ 57 → p ≠ out → P' p = P p) ∧ (svN f_x e (trN k (dg f_x) e) ≠ 0 → P' out = some (svB f_x e (trN k (dg f_x) e)))) := by
    intro n_
    induction n_ using Nat.strongRecOn with
    | _ n_ ih4 =>
    intro i P1 N4 hm4 hi hC hS hF hso
    have tr_ := trI_I k (dg f_x) (e : Int)
    have sv_ := svN_I f_x e i
    refine w_il hK rfl rfl ?_
    refine w_al hK rfl rfl ?_
    refine w_al hK rfl rfl ?_
    refine w_pt hK rfl hx.1 ?_
    rw [show N4 x 1 = dg f_x from hC.t ⟨hx.1, ((hF x (by omega) (by omega) (by omega) (by omega)).trans hx.2)⟩]
    have tI_ := CS.dI hC ⟨hx.1, ((hF x (by omega) (by omega) (by omega) (by omega)).trans hx.2)⟩
    refine w_il hK rfl rfl ?_
    refine w_call [(1, 52), (0, (dg f_x)), (0, (e : Int))] hK rfl rfl rfl rfl (Or.inr ⟨_, _, _, rfl, by decide, (by decide), rfl⟩) (c_tries hC.F (dg f_x) (e : Int) (by omega) (by omega) (by omega) (by omega)) ?_
    rintro _ Mq ⟨rfl, e_⟩
    subst Mq
    have tI_ := trI_I k (dg f_x) (e : Int)
    refine ⟨(by show (0 : Nat) ≠ 9; decide), (?_ : Wp 198 _ 76 10 [(1, 52), (1, x), (0, (e : Int)), (1, out), (0, svN f_x e i), (0, (i : Int))] [(0, (trI k (dg f_x) (e : Int))), (0, (i : Int))] N4 _)⟩
    refine w_ge2 hK rfl (by omega) (by omega) (by omega) (by omega) (fun h10 => ?_) (fun h10 => ?_)
    · refine w_il hK rfl rfl ?_
      refine w_iret hK rfl rfl ?_
      have ei_ : trN k (dg f_x) e = i := by unfold trN; omega
      rw [ei_]
      exact ⟨P1, rfl, hC, hS, hF, fun q => hso.resolve_left q⟩
    · have tk_ := trI_ok h10
      refine w_al hK rfl rfl ?_
      refine w_al hK rfl rfl ?_
      refine w_il hK rfl rfl ?_
      refine w_il hK rfl rfl ?_
      refine w_al hK rfl rfl ?_
      refine w_getr (n := 3) (v := 55) hK rfl rfl (by decide) (by decide) rfl rfl rfl rfl ?_
      refine w_al hK rfl rfl ?_
      refine w_getr (n := 4) (v := 57) hK rfl rfl (by decide) (by decide) rfl rfl rfl rfl ?_
      refine w_call [(1, 52), (1, x), (0, (e : Int)), (0, (i : Int)), (1, 55), (1, 57)] hK rfl rfl rfl rfl (Or.inr ⟨_, _, _, rfl, by decide, (by decide), rfl⟩) (c_hits hC ⟨hx.1, ((hF x (by omega) (by omega) (by omega) (by omega)).trans hx.2)⟩ (isP_of (p := 55) rfl) (isP_of (p := 57) rfl) (by omega) e i (by omega) (by omega) (by omega) (by omega) (by omega)) ?_
      rintro _ V37 ⟨P37, rfl, C37, S37, F37, f37⟩
      have bv_ := bz_01 (htR f_x e i)
      refine ⟨by show (0 : Nat) ≠ 9; decide, (?_ : Wp 198 _ 76 20 [(1, 52), (1, x), (0, (e : Int)), (1, out), (0, svN f_x e i), (0, (i : Int))] [(0, (bz (htR f_x e i)))] V37 _)⟩
      refine w_eq hK rfl (by omega) (by omega) (fun h20 => ?_) (fun h20 => ?_)
      · refine w_inc [(1, 52), (1, x), (0, (e : Int)), (1, out), (0, svN f_x e i), (0, ((i : Int) + 1))] hK rfl rfl rfl (by omega) (by omega) rfl ?_
        refine w_goto hK rfl ?_
        have q4 := ih4 _ (by omega) (i + 1) _ V37 rfl (by omega) C37 (fun a np_ => ((S37 a np_).trans (hS a np_))) (fun p pn53_ pn55_ pn57_ pnout_ => ((F37 p pn55_ pn57_ pn53_).trans (hF p pn53_ pn55_ pn57_ pnout_))) (by
          rw [show svN f_x e (i + 1) = svN f_x e i from if_pos h20, show svB f_x e (i + 1) = svB f_x e i from if_pos h20, show P37 out = P1 out from (F37 out (by omega) (by omega) (by omega))]
          exact hso)
        rw [show svN f_x e (i + 1) = svN f_x e i from if_pos h20] at q4
        exact q4
      · have sI_ := svN_I f_x e i
        refine w_il hK rfl rfl ?_
        refine w_eq hK rfl (by omega) (by omega) (fun h22 => ?_) (fun h22 => ?_)
        · refine w_al hK rfl rfl ?_
          refine w_al hK rfl rfl ?_
          refine w_getr (n := 3) (v := 55) hK rfl rfl (by decide) (by decide) rfl rfl rfl rfl ?_
          refine w_call [(1, out), (1, 55)] hK rfl rfl rfl rfl (Or.inr ⟨_, _, _, rfl, hout.nn, hout.lb, hout.o⟩) (c_copy C37 hout ⟨(isP_of (p := 55) rfl), (f37 (bz_yes h20)).1⟩) ?_
          rintro _ V38 ⟨rfl, C38, S38⟩
          refine ⟨by decide, (?_ : Wp 198 _ 76 32 [(1, 52), (1, x), (0, (e : Int)), (1, out), (0, svN f_x e i), (0, (i : Int))] [] V38 _)⟩
          refine w_inc [(1, 52), (1, x), (0, (e : Int)), (1, out), (0, (svN f_x e i + 1)), (0, (i : Int))] hK rfl rfl rfl (by omega) (by omega) rfl ?_
          refine w_inc [(1, 52), (1, x), (0, (e : Int)), (1, out), (0, (svN f_x e i + 1)), (0, ((i : Int) + 1))] hK rfl rfl rfl (by omega) (by omega) rfl ?_
          refine w_goto hK rfl ?_
          have q4 := ih4 _ (by omega) (i + 1) _ V38 rfl (by omega) C38 (fun a np_ => ((S38 a np_).trans ((S37 a np_).trans (hS a np_)))) (fun p pn53_ pn55_ pn57_ pnout_ => ((pu_ne (P := P37) (f := htB f_x e i) (show p ≠ out by omega)).trans ((F37 p pn55_ pn57_ pn53_).trans (hF p pn53_ pn55_ pn57_ pnout_)))) (Or.inr (by
            rw [show svB f_x e (i + 1) = htB f_x e i from (if_neg h20).trans (if_pos (Or.inl h22)), show (pu P37 out (htB f_x e i)) out = some (htB f_x e i) from pu_eq]))
          rw [show svN f_x e (i + 1) = svN f_x e i + 1 from if_neg h20] at q4
          exact q4
        · refine w_al hK rfl rfl ?_
          refine w_getr (n := 3) (v := 55) hK rfl rfl (by decide) (by decide) rfl rfl rfl rfl ?_
          refine w_al hK rfl rfl ?_
          have eo_ : P37 out = some (svB f_x e i) := ((F37 out (by omega) (by omega) (by omega)).trans (hso.resolve_left h22))
          have cI_ := cmpP_I (CS.bd C37 ⟨isP_of (p := 55) rfl, (f37 (bz_yes h20)).1⟩) (CS.bd C37 ⟨hout, eo_⟩)
          refine w_call [(1, 55), (1, out)] hK rfl rfl rfl rfl (Or.inr ⟨_, _, _, rfl, (isP_of (p := 55) rfl).nn, (isP_of (p := 55) rfl).lb, (isP_of (p := 55) rfl).o⟩) (c_cmp C37 ⟨isP_of (p := 55) rfl, (f37 (bz_yes h20)).1⟩ ⟨hout, eo_⟩) ?_
          rintro _ Mq ⟨rfl, e_⟩
          subst Mq
          refine ⟨(by show (0 : Nat) ≠ 9; decide), (?_ : Wp 198 _ 76 27 [(1, 52), (1, x), (0, (e : Int)), (1, out), (0, svN f_x e i), (0, (i : Int))] [(0, (cmpP (htB f_x e i) (svB f_x e i)))] V37 _)⟩
          refine w_ge hK rfl (by omega) (by omega) (fun h27 => ?_) (fun h27 => ?_)
          · refine w_inc [(1, 52), (1, x), (0, (e : Int)), (1, out), (0, (svN f_x e i + 1)), (0, (i : Int))] hK rfl rfl rfl (by omega) (by omega) rfl ?_
            refine w_inc [(1, 52), (1, x), (0, (e : Int)), (1, out), (0, (svN f_x e i + 1)), (0, ((i : Int) + 1))] hK rfl rfl rfl (by omega) (by omega) rfl ?_
            refine w_goto hK rfl ?_
            have q4 := ih4 _ (by omega) (i + 1) _ V37 rfl (by omega) C37 (fun a np_ => ((S37 a np_).trans (hS a np_))) (fun p pn53_ pn55_ pn57_ pnout_ => ((F37 p pn55_ pn57_ pn53_).trans (hF p pn53_ pn55_ pn57_ pnout_))) (Or.inr (by
              rw [show svB f_x e (i + 1) = svB f_x e i from (if_neg h20).trans (if_neg (by omega)), show P37 out = P1 out from (F37 out (by omega) (by omega) (by omega))]
              exact hso.resolve_left h22))
            rw [show svN f_x e (i + 1) = svN f_x e i + 1 from if_neg h20] at q4
            exact q4
          · have h27_ : cmpP (htB f_x e i) (svB f_x e i) < 0 := by omega
            refine w_al hK rfl rfl ?_
            refine w_al hK rfl rfl ?_
            refine w_getr (n := 3) (v := 55) hK rfl rfl (by decide) (by decide) rfl rfl rfl rfl ?_
            refine w_call [(1, out), (1, 55)] hK rfl rfl rfl rfl (Or.inr ⟨_, _, _, rfl, hout.nn, hout.lb, hout.o⟩) (c_copy C37 hout ⟨(isP_of (p := 55) rfl), (f37 (bz_yes h20)).1⟩) ?_
            rintro _ V39 ⟨rfl, C39, S39⟩
            refine ⟨by decide, (?_ : Wp 198 _ 76 32 [(1, 52), (1, x), (0, (e : Int)), (1, out), (0, svN f_x e i), (0, (i : Int))] [] V39 _)⟩
            refine w_inc [(1, 52), (1, x), (0, (e : Int)), (1, out), (0, (svN f_x e i + 1)), (0, (i : Int))] hK rfl rfl rfl (by omega) (by omega) rfl ?_
            refine w_inc [(1, 52), (1, x), (0, (e : Int)), (1, out), (0, (svN f_x e i + 1)), (0, ((i : Int) + 1))] hK rfl rfl rfl (by omega) (by omega) rfl ?_
            refine w_goto hK rfl ?_
            have q4 := ih4 _ (by omega) (i + 1) _ V39 rfl (by omega) C39 (fun a np_ => ((S39 a np_).trans ((S37 a np_).trans (hS a np_)))) (fun p pn53_ pn55_ pn57_ pnout_ => ((pu_ne (P := P37) (f := htB f_x e i) (show p ≠ out by omega)).trans ((F37 p pn55_ pn57_ pn53_).trans (hF p pn53_ pn55_ pn57_ pnout_)))) (Or.inr (by
              rw [show svB f_x e (i + 1) = htB f_x e i from (if_neg h20).trans (if_pos (Or.inr h27_)), show (pu P37 out (htB f_x e i)) out = some (htB f_x e i) from pu_eq]))
            rw [show svN f_x e (i + 1) = svN f_x e i + 1 from if_neg h20] at q4
            exact q4
  have tr_ := trI_I k (dg f_x) (e : Int)
  exact lp4 _ 0 _ M rfl (by omega) C (fun a np_ => rfl) (fun p pn53_ pn55_ pn57_ pnout_ => rfl) (Or.inl rfl)
/-- no try finds a divisor of less degree -/
def prC {k : Nat} (x : Pl k) : Prop := 0 < dg x ∧ ∀ d i : Nat, (d : Int) < dg x → (i : Int) < trI k (dg x) d → ¬ htR x d i
set_option maxRecDepth 100000 in
theorem c_isPr {d : Nat} {M : Mem} {k : Nat} {P : Int → Option (Pl k)} (C : CS M k P) {x : Int} {f_x : Pl k} (hx : isC P x f_x) (nx : x ≠ 53 ∧ x ≠ 55 ∧ x ≠ 57) (dx4 : dg f_x ≤ 4) : Ct 198 (d + 5) 79 [(1, 52), (1, x)] M (fun r_ M' => ∃ P' : Int → Option (Pl k), r_ = (0, bz (prC f_x)) ∧ CS M' k P' ∧ (∀ a : Int, (∀ p : Int, isP p → a ≠ p ∧ a ≠ p + 1) → M' a = M a) ∧ (∀ p : Int, p ≠ 53 → p ≠ 55 → p ≠ 57 → P' p = P p)) := by
  have hK : cd 79 = k79 := rfl
  have q1_ := qq_I k
  have dx_ := C.dI hx
  show Wp 198 _ 79 0 [(1, 52), (1, x), (3, 0), (3, 0)] [] M _
  refine w_ic hK rfl ?_
  refine w_is [(1, 52), (1, x), (0, 1), (3, 0)] hK rfl rfl rfl ?_
  have lp2 : ∀ (n_ : Nat) (e : Nat) (P1 : Int → Option (Pl k)) (w3 : AV) (N2 : Mem), 6 - e = n_ → (1 ≤ e ∧ e ≤ 5) → (CS N2 k P1) → ((∀ a : Int, (∀ p : Int, isP p → a ≠ p ∧ a ≠ p + 1) → N2 a = M a)) → ((∀ p : Int, p ≠ 53 → p ≠ 55 → p ≠ 57 → P1 p = P p)) → (∀ d i : Nat, d < e → (i : Int) < trI k (dg f_x) d → ¬ htR f_x d i) → Wp 198 (d + 5) 79 2 [(1, 52), (1, x), (0, (e : Int)), w3] [] N2 (fun r_ M' => ∃ P' : Int → Option (Pl k), r_ = (0, bz (prC f_x)) ∧ CS M' k P' ∧ (∀ a : Int, (∀ p : Int, isP p → a ≠ p ∧ a ≠ p + 1) → M' a = M a) ∧ (∀ p : Int, p ≠ 53 → p ≠ 55 → p ≠ 57 → P' p = P p)) := by
    intro n_
    induction n_ using Nat.strongRecOn with
    | _ n_ ih2 =>
    intro e P1 w3 N2 hm2 he hC hS hF hn1
    refine w_il hK rfl rfl ?_
    refine w_al hK rfl rfl ?_
    refine w_pt hK rfl hx.1 ?_
    rw [show N2 x 1 = dg f_x from hC.t ⟨hx.1, ((hF x (by omega) (by omega) (by omega)).trans hx.2)⟩]
    have tI_ := CS.dI hC ⟨hx.1, ((hF x (by omega) (by omega) (by omega)).trans hx.2)⟩
    refine w_ge2 hK rfl (by omega) (by omega) (by omega) (by omega) (fun h5 => ?_) (fun h5 => ?_)
    · refine w_al hK rfl rfl ?_
      refine w_pt hK rfl hx.1 ?_
      rw [show N2 x 1 = dg f_x from hC.t ⟨hx.1, ((hF x (by omega) (by omega) (by omega)).trans hx.2)⟩]
      have tI_ := CS.dI hC ⟨hx.1, ((hF x (by omega) (by omega) (by omega)).trans hx.2)⟩
      refine w_le hK rfl (by omega) (by omega) (fun h33 => ?_) (fun h33 => ?_)
      · refine w_ic hK rfl ?_
        refine w_zret hK rfl rfl (Or.inl rfl) ?_
        exact ⟨_, by rw [bz_neg (fun q => absurd q.1 (by omega))], hC, (fun a np_ => (hS a np_)), (fun p pn53_ pn55_ pn57_ => (hF p pn53_ pn55_ pn57_))⟩
      · refine w_ic hK rfl ?_
        refine w_goto hK rfl ?_
        refine w_zret hK rfl rfl (Or.inr rfl) ?_
        exact ⟨_, by rw [bz_pos ⟨by omega, fun d i h1 h2 => hn1 d i (by omega) h2⟩], hC, (fun a np_ => (hS a np_)), (fun p pn53_ pn55_ pn57_ => (hF p pn53_ pn55_ pn57_))⟩
    · refine w_ic hK rfl ?_
      refine w_is [(1, 52), (1, x), (0, (e : Int)), (0, 0)] hK rfl rfl rfl ?_
      have lp8 : ∀ (n_ : Nat) (i : Nat) (P1 : Int → Option (Pl k)) (N8_ : Unit) (N8 : Mem), 257 - i = n_ → ((i : Int) ≤ trI k (dg f_x) (e : Int)) → (CS N8 k P1) → ((∀ a : Int, (∀ p : Int, isP p → a ≠ p ∧ a ≠ p + 1) → N8 a = M a)) → ((∀ p : Int, p ≠ 53 → p ≠ 55 → p ≠ 57 → P1 p = P p)) → (∀ j : Nat, j < i → ¬ htR f_x e j) → Wp 198 (d + 5) 79 8 [(1, 52), (1, x), (0, (e : Int)), (0, (i : Int))] [] N8 (fun r_ M' => ∃ P' : Int → Option (Pl k), r_ = (0, bz (prC f_x)) ∧ CS M' k P' ∧ (∀ a : Int, (∀ p : Int, isP p → a ≠ p ∧ a ≠ p + 1) → M' a = M a) ∧ (∀ p : Int, p ≠ 53 → p ≠ 55 → p ≠ 57 → P' p = P p)) := by
        intro n_
        induction n_ using Nat.strongRecOn with
        | _ n_ ih8 =>
        intro i P1 N8_ N8 hm8 hi hC hS hF hn2
        have tr_ := trI_I k (dg f_x) (e : Int)
        refine w_il hK rfl rfl ?_
        refine w_al hK rfl rfl ?_
        refine w_al hK rfl rfl ?_
        refine w_pt hK rfl hx.1 ?_
        rw [show N8 x 1 = dg f_x from hC.t ⟨hx.1, ((hF x (by omega) (by omega) (by omega)).trans hx.2)⟩]
        have tI_ := CS.dI hC ⟨hx.1, ((hF x (by omega) (by omega) (by omega)).trans hx.2)⟩
        refine w_il hK rfl rfl ?_
        refine w_call [(1, 52), (0, (dg f_x)), (0, (e : Int))] hK rfl rfl rfl rfl (Or.inr ⟨_, _, _, rfl, by decide, (by decide), rfl⟩) (c_tries hC.F (dg f_x) (e : Int) (by omega) (by omega) (by omega) (by omega)) ?_
        rintro _ Mq ⟨rfl, e_⟩
        subst Mq
        have tI_ := trI_I k (dg f_x) (e : Int)
        refine ⟨(by show (0 : Nat) ≠ 9; decide), (?_ : Wp 198 _ 79 14 [(1, 52), (1, x), (0, (e : Int)), (0, (i : Int))] [(0, (trI k (dg f_x) (e : Int))), (0, (i : Int))] N8 _)⟩
        refine w_ge2 hK rfl (by omega) (by omega) (by omega) (by omega) (fun h14 => ?_) (fun h14 => ?_)
        · refine w_inc [(1, 52), (1, x), (0, ((e : Int) + 1)), (0, (i : Int))] hK rfl rfl rfl (by omega) (by omega) rfl ?_
          refine w_goto hK rfl ?_
          exact ih2 _ (by omega) (e + 1) _ (0, (i : Int)) N8 rfl (by omega) hC (fun a np_ => (hS a np_)) (fun p pn53_ pn55_ pn57_ => (hF p pn53_ pn55_ pn57_)) (fun d j hd hj => by
            by_cases q : d = e
            · subst q; exact hn2 j (by omega)
            · exact hn1 d j (by omega) hj)
        · have tk_ := trI_ok h14
          refine w_al hK rfl rfl ?_
          refine w_al hK rfl rfl ?_
          refine w_il hK rfl rfl ?_
          refine w_il hK rfl rfl ?_
          refine w_al hK rfl rfl ?_
          refine w_getr (n := 3) (v := 55) hK rfl rfl (by decide) (by decide) rfl rfl rfl rfl ?_
          refine w_al hK rfl rfl ?_
          refine w_getr (n := 4) (v := 57) hK rfl rfl (by decide) (by decide) rfl rfl rfl rfl ?_
          refine w_call [(1, 52), (1, x), (0, (e : Int)), (0, (i : Int)), (1, 55), (1, 57)] hK rfl rfl rfl rfl (Or.inr ⟨_, _, _, rfl, by decide, (by decide), rfl⟩) (c_hits hC ⟨hx.1, ((hF x (by omega) (by omega) (by omega)).trans hx.2)⟩ (isP_of (p := 55) rfl) (isP_of (p := 57) rfl) (by omega) e i (by omega) (by omega) (by omega) (by omega) (by omega)) ?_
          rintro _ V40 ⟨P40, rfl, C40, S40, F40, f40⟩
          have bv_ := bz_01 (htR f_x e i)
          refine ⟨by show (0 : Nat) ≠ 9; decide, (?_ : Wp 198 _ 79 24 [(1, 52), (1, x), (0, (e : Int)), (0, (i : Int))] [(0, (bz (htR f_x e i)))] V40 _)⟩
          refine w_eq hK rfl (by omega) (by omega) (fun h24 => ?_) (fun h24 => ?_)
          · refine w_inc [(1, 52), (1, x), (0, (e : Int)), (0, ((i : Int) + 1))] hK rfl rfl rfl (by omega) (by omega) rfl ?_
            refine w_goto hK rfl ?_
            exact ih8 _ (by omega) (i + 1) _ () V40 rfl (by omega) C40 (fun a np_ => ((S40 a np_).trans (hS a np_))) (fun p pn53_ pn55_ pn57_ => ((F40 p pn55_ pn57_ pn53_).trans (hF p pn53_ pn55_ pn57_))) (fun j hj => by
              by_cases e : j = i
              · subst e; exact bz_no h24
              · exact hn2 j (by omega))
          · refine w_ic hK rfl ?_
            refine w_zret hK rfl rfl (Or.inl rfl) ?_
            exact ⟨_, by rw [bz_neg (fun q => absurd (bz_yes h24) (q.2 e i (by omega) (by omega)))], C40, (fun a np_ => ((S40 a np_).trans (hS a np_))), (fun p pn53_ pn55_ pn57_ => ((F40 p pn55_ pn57_ pn53_).trans (hF p pn53_ pn55_ pn57_)))⟩
      have tr_ := trI_I k (dg f_x) (e : Int)
      exact lp8 _ 0 _ () N2 rfl (by omega) hC (fun a np_ => (hS a np_)) (fun p pn53_ pn55_ pn57_ => (hF p pn53_ pn55_ pn57_)) (fun j hj => by omega)
  exact lp2 _ 1 _ (3, 0) M rfl (by omega) C (fun a np_ => rfl) (fun p pn53_ pn55_ pn57_ => rfl) (fun d i hd hi => by
    have := trI_ok hi
    omega)
