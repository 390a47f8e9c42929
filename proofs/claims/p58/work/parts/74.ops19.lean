/-! values are remainders; the class's call vanishes -/
theorem mlp_lin {k : Nat} (q : Pl k) (b : El k) (n : Nat) : mlp q (up1 (tpw 1) 0 b) n = ad (if 1 ≤ n then q (n - 1) else z0) (ml (q n) (sg n b)) := by
  have h : up1 (tpw 1) 0 b = adp (mono e1 1) (mono b 0) := up1_mono (f := tpw 1) (j := 0) rfl b
  rw [h, mlp_adp]
  show ad (mlp q (mono e1 1) n) (mlp q (mono b 0) n) = _
  rw [mlp_mono, mlp_mono, if_pos (Nat.zero_le n), sg_e, ml_one]
  rfl
theorem vl_lin_sum {k : Nat} (q : Pl k) (a : El k) : ∀ n : Nat, sm (fun j => ml (mlp q (up1 (tpw 1) 0 (ng a)) j) (chn a j)) (n + 1) = ng (ml (q n) (chn a (n + 1)))
  | 0 => by
    show ad z0 (ml (mlp q (up1 (tpw 1) 0 (ng a)) 0) e1) = ng (ml (q 0) (ml e1 (sg 0 a)))
    rw [zero_ad, ml_one, mlp_lin, if_neg (by decide), zero_ad, one_ml, sg_ng, ml_ng]
  | n + 1 => by
    show ad (sm (fun j => ml (mlp q (up1 (tpw 1) 0 (ng a)) j) (chn a j)) (n + 1)) (ml (mlp q (up1 (tpw 1) 0 (ng a)) (n + 1)) (chn a (n + 1))) = ng (ml (q (n + 1)) (ml (chn a (n + 1)) (sg (n + 1) a)))
    rw [vl_lin_sum q a n, mlp_lin, if_pos (by omega), show n + 1 - 1 = n from rfl, ad_ml, ← ad_assoc, ad_comm (ng (ml (q n) (chn a (n + 1)))) _, ad_neg, zero_ad, sg_ng, ml_ng, ng_ml, ml_assoc, ml_comm (sg (n + 1) a) _]
theorem vl_lin0 {k : Nat} {q : Pl k} (hq : Bd q 16) (a : El k) : vl (mlp q (up1 (tpw 1) 0 (ng a))) a = z0 := by
  show sm (fun j => ml (mlp q (up1 (tpw 1) 0 (ng a)) j) (chn a j)) (16 + 1) = z0
  rw [vl_lin_sum, hq 16 (Nat.le_refl _), zero_ml, ng_z]
theorem vl_adp {k : Nat} (f g : Pl k) (a : El k) : vl (adp f g) a = ad (vl f a) (vl g a) := by
  show sm (fun j => ml (ad (f j) (g j)) (chn a j)) 17 = _
  rw [sm_congr (h := fun j => ad (ml (f j) (chn a j)) (ml (g j) (chn a j))) (fun j _ => ad_ml _ _ _), sm_ad]
  rfl
theorem vl_scl {k : Nat} (c : El k) (f : Pl k) (a : El k) : vl (scl c f) a = ml c (vl f a) := by
  show sm (fun j => ml (ml c (f j)) (chn a j)) 17 = ml c (sm (fun j => ml (f j) (chn a j)) 17)
  rw [ml_sm]
  exact sm_congr (fun j _ => ml_assoc _ _ _)
theorem vl_cst {k : Nat} (c a : El k) : vl (cst c) a = c := by
  show sm (fun j => ml (cst c j) (chn a j)) 17 = c
  rw [sm_one (j := 0) (by decide) (fun i _ hi => by show ml (up1 pz 0 c i) _ = z0; unfold up1; rw [if_neg hi]; exact zero_ml _)]
  exact ml_one c
theorem cst_of {k : Nat} {r : Pl k} (h : Bd r 1) : r = cst (r 0) := by
  funext j
  show r j = if j = 0 then r 0 else z0
  by_cases q : j = 0
  · rw [if_pos q, q]
  · rw [if_neg q]; exact h j (by omega)
theorem vl_div {k : Nat} {f : Pl k} {n : Nat} (hf : Bd f (n + 1)) (hn : n ≤ 16) (a : El k) : ∃ q : Pl k, Bd q n ∧ f = adp (mlp q (up1 (tpw 1) 0 (ng a))) (cst (vl f a)) := by
  obtain ⟨⟨m, hq⟩, hx, b, hb, hr⟩ := dv_is 0 (lin_is (ng a)) hf
  have eb : b = 1 := by have := hb.uniq (lin_is (ng a)); omega
  rw [eb] at hr
  have hx2 : f = adp (mlp (dq 0 f (up1 (tpw 1) 0 (ng a))) (up1 (tpw 1) 0 (ng a))) (dr 0 f (up1 (tpw 1) 0 (ng a))) := hx
  have hq2 : ∀ t j : Nat, m ≤ j + t → n ≤ j → dq 0 f (up1 (tpw 1) 0 (ng a)) j = z0 := fun t => by
    induction t with
    | zero => exact fun j h _ => hq j (by omega)
    | succ t ih =>
      intro j h1 h2
      have e5_ := congrFun hx2 (j + 1)
      change f (j + 1) = ad (mlp (dq 0 f (up1 (tpw 1) 0 (ng a))) (up1 (tpw 1) 0 (ng a)) (j + 1)) (dr 0 f (up1 (tpw 1) 0 (ng a)) (j + 1)) at e5_
      rw [hf (j + 1) (by omega), mlp_lin, if_pos (by omega), ih (j + 1) (by omega) (by omega), zero_ml, ad_zero, hr (j + 1) (by omega), ad_zero] at e5_
      exact e5_.symm
  have hq3 : Bd (dq 0 f (up1 (tpw 1) 0 (ng a))) n := fun j hj => hq2 m j (by omega) hj
  refine ⟨_, hq3, ?_⟩
  have ec := cst_of hr
  have ev : vl f a = dr 0 f (up1 (tpw 1) 0 (ng a)) 0 := by
    have e2 := congrArg (fun g => vl g a) hx2
    change vl f a = vl (adp (mlp (dq 0 f (up1 (tpw 1) 0 (ng a))) (up1 (tpw 1) 0 (ng a))) (dr 0 f (up1 (tpw 1) 0 (ng a)))) a at e2
    rw [vl_adp, vl_lin0 (hq3.mono hn), zero_ad] at e2
    rw [e2]
    exact (congrArg (fun g => vl g a) ec).trans (vl_cst _ _)
  rw [ev, ← ec]
  exact hx2
theorem lin_cst {k : Nat} (a v : El k) (hv : v ≠ z0) : mlp (up1 (tpw 1) 0 (ng (cjg a v))) (cst v) = mlp (cst (sg 1 v)) (up1 (tpw 1) 0 (ng a)) := by
  rw [mlp_cst, cst_mlp]
  funext j
  show ml (up1 (tpw 1) 0 (ng (cjg a v)) j) (sg j v) = ml (sg 1 v) (up1 (tpw 1) 0 (ng a) j)
  unfold tpw up1
  by_cases q : j = 0
  · rw [if_pos q, if_pos q, q, sg_0, ng_ml, ml_ng]
    unfold cjg
    rw [ml_assoc, ml_comm (iv v) v, ml_iv v hv, ml_one]
  · rw [if_neg q, if_neg q]
    by_cases q1 : j = 1
    · rw [if_pos q1, q1, ml_comm]
    · rw [if_neg q1]
      show ml z0 _ = ml _ z0
      rw [zero_ml, ml_zero]
theorem lin_bd {k : Nat} (b : El k) : Bd (up1 (tpw 1) 0 b) 2 := Bd_is (lin_is b)
theorem vl_twist {k : Nat} {f q : Pl k} {a v : El k} (hv : v ≠ z0) (ef : f = adp (mlp q (up1 (tpw 1) 0 (ng a))) (cst v)) : mlp (up1 (tpw 1) 0 (ng (cjg a v))) f = mlp (adp (mlp (up1 (tpw 1) 0 (ng (cjg a v))) q) (cst (sg 1 v))) (up1 (tpw 1) 0 (ng a)) := by
  rw [ef, mlp_adp, lin_cst a v hv, adp_mlp, mlp_assoc]
theorem vl_step {k : Nat} {f h : Pl k} {d x : Nat} (hf : IsDg f (d : Int)) (hh : Bd h (x + 1)) (hx : x + d ≤ 14) (a : El k) (hv : vl f a ≠ z0) (h0 : vl (mlp h f) a = z0) : ∃ h' : Pl k, Bd h' x ∧ mlp h f = mlp h' (mlp (up1 (tpw 1) 0 (ng (cjg a (vl f a)))) f) := by
  obtain ⟨q, hq, ef⟩ := vl_div (Bd_is hf) (by omega) a
  obtain ⟨h', hh', eh⟩ := vl_div hh (by omega) (cjg a (vl f a))
  have e2 := vl_twist hv ef
  have e3 : mlp h f = adp (mlp h' (mlp (up1 (tpw 1) 0 (ng (cjg a (vl f a)))) f)) (scl (vl h (cjg a (vl f a))) f) := by
    rw [← cst_mlp, ← mlp_assoc h', ← adp_mlp, ← eh]
  have b1 : Bd (adp (mlp (up1 (tpw 1) 0 (ng (cjg a (vl f a)))) q) (cst (sg 1 (vl f a)))) (2 + d) := fun j hj => by
    show ad (mlp (up1 (tpw 1) 0 (ng (cjg a (vl f a)))) q j) (if j = 0 then sg 1 (vl f a) else z0) = z0
    rw [Bd_mlp (lin_bd _) hq j hj, if_neg (by omega), ad_zero]
  rw [e3, vl_adp, e2, ← mlp_assoc h', vl_lin0 ((Bd_mlp hh' b1).mono (by omega)), zero_ad, vl_scl] at h0
  have hc := (ml_eq_zero h0).resolve_right hv
  refine ⟨h', hh', e3.trans ?_⟩
  rw [hc, show scl (z0 : El k) f = pz from by funext j; exact zero_ml _, adp_pz]
/-- what vanishes at all the numbers of a set divides what vanishes at all -/
theorem basF_dvd {k : Nat} {g : Pl k} {e : Nat} (hg : IsDg g (e : Int)) (he : e ≤ 14) (hv : ∀ a : El k, vl g a = z0) (s : Int) : ∀ n : Nat, ∃ (h : Pl k) (m : Nat), Bd h m ∧ g = mlp h (basF s n)
  | 0 => ⟨g, e + 1, Bd_is hg, (mlp_one g).symm⟩
  | n + 1 => by
    obtain ⟨h, m, hb, e1_⟩ := basF_dvd hg he hv s n
    obtain ⟨d, hd, hf⟩ := basF_dg (k := k) s n
    show ∃ (h : Pl k) (m : Nat), Bd h m ∧ g = mlp h (if btst s n = 1 then vna (basF s n) (el k n) else basF s n)
    by_cases c1 : btst s n = 1
    · rw [if_pos c1]
      unfold vna
      by_cases c2 : vl (basF s n : Pl k) (el k n) = z0
      · rw [if_pos c2]; exact ⟨h, m, hb, e1_⟩
      · rw [if_neg c2]
        obtain ⟨w1, w2, _⟩ := dg_quot hg hf hb e1_
        obtain ⟨h', hh', e'⟩ := vl_step hf (Bd_is w2) (by omega) (el k n) c2 (by rw [← e1_]; exact hv _)
        exact ⟨h', _, hh', e1_.trans e'⟩
    · rw [if_neg c1]; exact ⟨h, m, hb, e1_⟩
def wE : Nat → Nat := fun k => match k with | 0 => 3 | 1 => 4 | _ => 5
theorem wE_I (k : Nat) : 3 ≤ wE k ∧ wE k ≤ 5 := match k with | 0 => by decide | 1 => by decide | _ + 2 => (by decide : 3 ≤ 5 ∧ 5 ≤ 5)
/-- t^e less t -/
def wF (k : Nat) : Pl k := fun j => if j = wE k then e1 else if j = 1 then ng e1 else z0
theorem wF_vl {k : Nat} (hk : k < 4) : ∀ a : El k, vl (wF k) a = z0 := by
  rcases (show k = 0 ∨ k = 1 ∨ k = 2 ∨ k = 3 by omega) with e | e | e | e
  · subst e; decide +kernel
  · subst e; decide +kernel
  · subst e; decide +kernel
  · subst e; decide +kernel
theorem wF_is {k : Nat} : IsDg (wF k) ((wE k : Nat) : Int) := by
  have h := wE_I k
  refine ⟨by omega, fun j hj => ?_, fun _ => ?_⟩
  · unfold wF; rw [if_neg (by omega), if_neg (by omega)]
  · show wF k (wE k) ≠ z0
    unfold wF; rw [if_pos rfl]; exact e1_ne
theorem basF_le {k : Nat} (hk : k < 4) (s : Int) (n : Nat) : ∃ d : Nat, d ≤ 5 ∧ IsDg (basF s n : Pl k) (d : Int) := by
  obtain ⟨d, _, hf⟩ := basF_dg (k := k) s n
  have h := wE_I k
  obtain ⟨q, m, hb, e1_⟩ := basF_dvd (wF_is (k := k)) (by omega) (wF_vl hk) s n
  obtain ⟨w1, _⟩ := dg_quot wF_is hf hb e1_
  exact ⟨d, by omega, hf⟩
theorem basF_bd {k : Nat} (hk : k < 4) (s : Int) (n : Nat) : Bd (basF s n : Pl k) 9 := by
  obtain ⟨d, h, hf⟩ := basF_le hk s n
  exact (Bd_is hf).mono (by omega)
theorem rts_I {k : Nat} (f : Pl k) : ∀ n : Nat, -2147483648 ≤ rts f n ∧ rts f n ≤ 2147483647
  | 0 => ⟨by show (-2147483648 : Int) ≤ 0; decide, by show (0 : Int) ≤ 2147483647; decide⟩
  | n + 1 => by
    have h := rts_I f n
    have h2 := bset_I (rts f n) n
    unfold rts
    split
    · exact h2
    · exact h
set_option maxRecDepth 100000 in
theorem o_van {d : Nat} {M : Mem} {k : Nat} {pl : Nat → Pl k} {n : Int} {tx : Int → Int} {rc : Nat} {rw : Int → Int} {fc : Nat} {fa : Nat → Pl k} (H : CLS M k pl n tx rc rw fc fa) (j : Nat) (hj : j < 6) (x : Int) (x0 : 0 ≤ x) (x1 : x < 2 ^ qq k) : Ct 198 (d + 8) 171 [(1, 0), (0, x), (0, (j : Int))] M (fun r_ M' => r_ = (0, (dg (basF (k := k) x (qq k)))) ∧ CLS M' k (fup pl j (basF (k := k) x (qq k))) n tx 1 (upr rw 0 (rts (basF (k := k) x (qq k)) (qq k))) fc fa ∧ (∀ a : Int, (a < 0 ∨ 160 < a) → M' a = M a)) := by
  have hK : cd 171 = k171 := rfl
  obtain ⟨P, u_, l_, z_, C, E, hpl, T, hR, hF⟩ := H
  have q1_ := qq_I k
  have p1_ := pp_I k
  have m1_ := mm_I k
  have bj_ := (hpl j hj).2
  have dj_ := dg_lt9 bj_
  have sq_ := (shl_q k).2
  show Wp 198 _ 171 0 [(1, 0), (0, x), (0, (j : Int)), (3, 0)] [] M _
  refine w_al hK rfl rfl ?_
  refine w_il hK rfl rfl ?_
  refine w_call [(1, 0), (0, (j : Int))] hK rfl rfl rfl rfl (Or.inr ⟨_, _, _, rfl, by decide, (by decide), rfl⟩) (c_pl j hj) ?_
  rintro _ Mq ⟨rfl, e_⟩
  subst Mq
  refine ⟨(by show (1 : Nat) ≠ 9; decide), (?_ : Wp 198 _ 171 3 [(1, 0), (0, x), (0, (j : Int)), (3, 0)] [(1, (149 + 2 * (j : Int)))] M _)⟩
  refine w_as [(1, 0), (0, x), (0, (j : Int)), (1, (149 + 2 * (j : Int)))] hK rfl rfl rfl ?_
  refine w_al hK rfl rfl ?_
  refine w_null hK rfl (fun h5 => ?_) (fun h5 => ?_)
  · exfalso; omega
  · refine w_al hK rfl rfl ?_
    refine w_il hK rfl rfl ?_
    refine w_call [(1, 0), (0, x)] hK rfl rfl rfl rfl (Or.inr ⟨_, _, _, rfl, by decide, (by decide), rfl⟩) (c_isset C.F x (by omega) (by omega)) ?_
    rintro _ Mq ⟨rfl, e_⟩
    subst Mq
    refine ⟨by show (0 : Nat) ≠ 9; decide, (?_ : Wp 198 _ 171 9 [(1, 0), (0, x), (0, (j : Int)), (1, (149 + 2 * (j : Int)))] [(0, (if 0 ≤ x ∧ x < 2 ^ qq k then 1 else 0))] M _)⟩
    have tI_ := ite01 (0 ≤ x ∧ x < 2 ^ qq k)
    refine w_ne hK rfl (by omega) (by omega) (fun h9 => ?_) (fun h9 => ?_)
    · refine w_al hK rfl rfl ?_
      refine w_getr (n := 3) (v := 45) hK rfl rfl (by decide) (by decide) rfl rfl rfl rfl ?_
      refine w_il hK rfl rfl ?_
      refine w_al hK rfl rfl ?_
      refine w_getr (n := 12) (v := 145) hK rfl rfl (by decide) (by decide) rfl rfl rfl rfl ?_
      refine w_call [(1, 45), (0, x), (1, 145)] hK rfl rfl rfl rfl (Or.inr ⟨_, _, _, rfl, by decide, (by decide), rfl⟩) (c_basis C (isP_of (p := 145) rfl) (by omega) (by omega) x (by omega) (by omega)) ?_
      rintro _ V201 ⟨P201, rfl, C201, S201, F201, f201_0⟩
      have tI2_ := basT_I k x (qq k)
      refine ⟨by show (0 : Nat) ≠ 9; decide, (?_ : Wp 198 _ 171 18 [(1, 0), (0, x), (0, (j : Int)), (1, (149 + 2 * (j : Int)))] [(0, (basT k x (qq k)))] V201 _)⟩
      refine w_pop hK rfl rfl ?_
      refine w_al hK rfl rfl ?_
      refine w_al hK rfl rfl ?_
      refine w_getr (n := 12) (v := 145) hK rfl rfl (by decide) (by decide) rfl rfl rfl rfl ?_
      refine w_call [(1, (149 + 2 * (j : Int))), (1, 145)] hK rfl rfl rfl rfl (Or.inr ⟨_, _, _, rfl, (isPP hj).nn, (isPP hj).lb, (isPP hj).o⟩) (c_copy C201 (isPP hj) ⟨(isP_of (p := 145) rfl), f201_0⟩) ?_
      rintro _ V202 ⟨rfl, C202, S202⟩
      refine ⟨by decide, (?_ : Wp 198 _ 171 23 [(1, 0), (0, x), (0, (j : Int)), (1, (149 + 2 * (j : Int)))] [] V202 _)⟩
      refine w_al hK rfl rfl ?_
      refine w_call [(1, 0)] hK rfl rfl rfl rfl (Or.inr ⟨_, _, _, rfl, by decide, (by decide), rfl⟩) (c_start0 (RWs.keep hR ((S202 0 (notP rfl)).trans (S201 0 (notP rfl))) ((S202 144 (notP rfl)).trans (S201 144 (notP rfl))))) ?_
      rintro _ V203 ⟨rfl, R203, F203⟩
      refine ⟨by decide, (?_ : Wp 198 _ 171 25 [(1, 0), (0, x), (0, (j : Int)), (1, (149 + 2 * (j : Int)))] [] V203 _)⟩
      refine w_al hK rfl rfl ?_
      refine w_al hK rfl rfl ?_
      refine w_getr (n := 3) (v := 45) hK rfl rfl (by decide) (by decide) rfl rfl rfl rfl ?_
      refine w_al hK rfl rfl ?_
      refine w_call [(1, 45), (1, (149 + 2 * (j : Int)))] hK rfl rfl rfl rfl (Or.inr ⟨_, _, _, rfl, by decide, (by decide), rfl⟩) (c_roots (CS.congr C202 (fun a ha_ => F203 a (CSc_ne ha_ (by decide) (notP rfl)))) ⟨(isPP hj), pu_eq⟩) ?_
      rintro _ Mq ⟨rfl, e_⟩
      subst Mq
      refine ⟨by show (0 : Nat) ≠ 9; decide, (?_ : Wp 198 _ 171 30 [(1, 0), (0, x), (0, (j : Int)), (1, (149 + 2 * (j : Int)))] [(0, (rts (basF (k := k) x (qq k)) (qq k))), (1, 0)] V203 _)⟩
      have rI_ := rts_I (basF (k := k) x (qq k) : Pl k) (qq k)
      refine w_i2l hK rfl (by omega) (by omega) ?_
      refine w_call [(1, 0), (2, (rts (basF (k := k) x (qq k)) (qq k)))] hK rfl rfl rfl rfl (Or.inr ⟨_, _, _, rfl, by decide, (by decide), rfl⟩) (c_tell R203 (by omega) (rts (basF (k := k) x (qq k)) (qq k))) ?_
      rintro _ V204 ⟨rfl, R204, F204⟩
      refine ⟨by decide, (?_ : Wp 198 _ 171 32 [(1, 0), (0, x), (0, (j : Int)), (1, (149 + 2 * (j : Int)))] [] V204 _)⟩
      refine w_al hK rfl rfl ?_
      refine w_pt hK rfl (isPP hj) ?_
      rw [show V204 (149 + 2 * (j : Int)) 1 = dg (basF (k := k) x (qq k)) from (CS.congr (CS.congr C202 (fun a ha_ => F203 a (CSc_ne ha_ (by decide) (notP rfl)))) (fun a ha_ => F204 a (CSc_ne ha_ (by decide) (notP rfl)) (CSc_ne ha_ (by decide) (notP rfl)))).t ⟨(isPP hj), pu_eq⟩]
      have tI_ := CS.dI (CS.congr (CS.congr C202 (fun a ha_ => F203 a (CSc_ne ha_ (by decide) (notP rfl)))) (fun a ha_ => F204 a (CSc_ne ha_ (by decide) (notP rfl)) (CSc_ne ha_ (by decide) (notP rfl)))) ⟨(isPP hj), pu_eq⟩
      refine w_iret hK rfl rfl ?_
      exact ⟨rfl, ⟨_, u_, l_, z_, (CS.congr (CS.congr C202 (fun a ha_ => F203 a (CSc_ne ha_ (by decide) (notP rfl)))) (fun a ha_ => F204 a (CSc_ne ha_ (by decide) (notP rfl)) (CSc_ne ha_ (by decide) (notP rfl)))), (ES.keep E ((F204 18 (by decide) (by decide)).trans ((F203 18 (by decide)).trans ((S202 18 (notP rfl)).trans (S201 18 (notP rfl)))))), (PLs.put hpl pu_eq (basF_bd C.F.1 x (qq k)) (fun q_ hq_ hn_ => ((pu_ne (P := P201) (f := basF (k := k) x (qq k)) (show (149 + 2 * (q_ : Int)) ≠ (149 + 2 * (j : Int)) by omega)).trans (F201 (149 + 2 * (q_ : Int)) (by omega) (by omega) (by omega))))), (TXs.keep T ((F204 140 (by decide) (by decide)).trans ((F203 140 (by decide)).trans ((S202 140 (notP rfl)).trans (S201 140 (notP rfl))))) ((F204 141 (by decide) (by decide)).trans ((F203 141 (by decide)).trans ((S202 141 (notP rfl)).trans (S201 141 (notP rfl)))))), R204, (FCs.keep hF ((F204 52 (by decide) (by decide)).trans ((F203 52 (by decide)).trans ((S202 52 (notP rfl)).trans (S201 52 (notP rfl))))) (fun q_ hq_ => ((pu_ne (P := P201) (f := basF (k := k) x (qq k)) (show (68 + 6 * (q_ : Int)) ≠ (149 + 2 * (j : Int)) by omega)).trans (F201 (68 + 6 * (q_ : Int)) (by omega) (by omega) (by omega)))))⟩, (fun a h_ => ((F204 a (by omega) (by omega)).trans ((F203 a (by omega)).trans ((S202 a (npC h_)).trans (S201 a (npC h_))))))⟩
    · exfalso; omega
set_option maxRecDepth 100000 in
theorem n_van {d : Nat} {M : Mem} {k : Nat} {pl : Nat → Pl k} {n : Int} {tx : Int → Int} {rc : Nat} {rw : Int → Int} {fc : Nat} {fa : Nat → Pl k} (H : CLS M k pl n tx rc rw fc fa) (x j : Int) (x1_ : -2147483648 ≤ x) (x2_ : x ≤ 2147483647) (j1_ : -2147483648 ≤ j) (j2_ : j ≤ 2147483647) (hn : ¬ ((0 ≤ j ∧ j < 6) ∧ 0 ≤ x ∧ x < 2 ^ qq k)) : Ct 198 (d + 8) 171 [(1, 0), (0, x), (0, j)] M (fun r_ M' => r_ = (0, -1) ∧ M' = M) := by
  have hK : cd 171 = k171 := rfl
  obtain ⟨P, u_, l_, z_, C, E, hpl, T, hR, hF⟩ := H
  have q1_ := qq_I k
  have p1_ := pp_I k
  have m1_ := mm_I k
  show Wp 198 _ 171 0 [(1, 0), (0, x), (0, j), (3, 0)] [] M _
  refine w_al hK rfl rfl ?_
  refine w_il hK rfl rfl ?_
  refine w_call [(1, 0), (0, j)] hK rfl rfl rfl rfl (Or.inr ⟨_, _, _, rfl, by decide, (by decide), rfl⟩) (c_plI j (by omega) (by omega)) ?_
  rintro _ Mq ⟨rfl, e_⟩
  subst Mq
  have pI_ := plr_I j
  refine ⟨(by show (1 : Nat) ≠ 9; decide), (?_ : Wp 198 _ 171 3 [(1, 0), (0, x), (0, j), (3, 0)] [(1, (plr j))] M _)⟩
  refine w_as [(1, 0), (0, x), (0, j), (1, (plr j))] hK rfl rfl rfl ?_
  refine w_al hK rfl rfl ?_
  refine w_null hK rfl (fun h5 => ?_) (fun h5 => ?_)
  · refine w_ic hK rfl ?_
    refine w_iret hK rfl rfl ?_
    exact ⟨rfl, rfl⟩
  · refine w_al hK rfl rfl ?_
    refine w_il hK rfl rfl ?_
    refine w_call [(1, 0), (0, x)] hK rfl rfl rfl rfl (Or.inr ⟨_, _, _, rfl, by decide, (by decide), rfl⟩) (c_isset C.F x (by omega) (by omega)) ?_
    rintro _ Mq ⟨rfl, e_⟩
    subst Mq
    refine ⟨by show (0 : Nat) ≠ 9; decide, (?_ : Wp 198 _ 171 9 [(1, 0), (0, x), (0, j), (1, (plr j))] [(0, (if 0 ≤ x ∧ x < 2 ^ qq k then 1 else 0))] M _)⟩
    have tI_ := ite01 (0 ≤ x ∧ x < 2 ^ qq k)
    refine w_ne hK rfl (by omega) (by omega) (fun h9 => ?_) (fun h9 => ?_)
    · exfalso; omega
    · refine w_ic hK rfl ?_
      refine w_iret hK rfl rfl ?_
      exact ⟨rfl, rfl⟩
