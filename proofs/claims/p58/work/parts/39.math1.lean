/-! monic ones; what a try finds -/
def Mn {k : Nat} (f : Pl k) (d : Nat) : Prop := IsDg f (d : Int) ∧ f d = e1
theorem cst_mlp {k : Nat} (c : El k) (f : Pl k) : mlp (cst c) f = scl c f := by
  funext n
  show mlp (mono c 0) f n = ml c (f n)
  rw [mono_mlp, if_pos (by omega), sg_0]
  rfl
theorem mlp_cst {k : Nat} (c : El k) (f : Pl k) : mlp f (cst c) = scb f c := by
  funext n
  show mlp f (mono c 0) n = ml (f n) (sg n c)
  rw [mlp_mono, if_pos (by omega)]
  rfl
theorem scl_scl {k : Nat} (a b : El k) (f : Pl k) : scl a (scl b f) = scl (ml a b) f := by
  funext n
  exact (ml_assoc _ _ _).symm
theorem scl_e1 {k : Nat} (f : Pl k) : scl e1 f = f := by
  funext n
  exact one_ml _
theorem scl_mlp {k : Nat} (c : El k) (f g : Pl k) : mlp (scl c f) g = scl c (mlp f g) := by rw [← cst_mlp, mlp_assoc, cst_mlp]
theorem scl_is {k : Nat} {c : El k} {f : Pl k} {d : Int} (hc : c ≠ z0) (h : IsDg f d) : IsDg (scl c f) d := ⟨h.1, fun j hj => by show ml c (f j) = z0; rw [h.2.1 j hj, ml_zero], fun q => by
  show ml c (f d.toNat) ≠ z0
  intro e
  rcases ml_eq_zero e with e | e
  · exact hc e
  · exact h.2.2 q e⟩
theorem dg_eq17 {k : Nat} {f : Pl k} {d : Int} (h : Bd f 17) (hd : IsDg f d) : dg f = d := dg_eq (h.mono (by decide)) hd
theorem ld_eq {k : Nat} {f : Pl k} {n : Nat} (h : Bd f 17) (hd : IsDg f (n : Int)) : ld f = f n := ld_at (dg_eq17 h hd)
theorem mon_is {k : Nat} {x : Pl k} {n : Nat} (h : Bd x 17) (hd : IsDg x (n : Int)) : Mn (mon 0 x) n ∧ x = scl (ld x) (mon 0 x) := by
  have e := ld_eq h hd
  have hn : x n ≠ z0 := hd.tp
  have e2 : mon 0 x = scl (iv (x n)) x := by unfold mon; rw [if_pos rfl, e]
  rw [e2, e]
  refine ⟨⟨scl_is (iv_ne hn) hd, ?_⟩, ?_⟩
  · show ml (iv (x n)) (x n) = e1
    rw [ml_comm, ml_iv _ hn]
  · rw [scl_scl, ml_iv _ hn, scl_e1]
theorem lin2_is {k : Nat} {a b : El k} (ha : a ≠ z0) : IsDg (lin2 a b) ((1 : Nat) : Int) ∧ lin2 a b 1 = a ∧ lin2 a b 0 = b := by
  refine ⟨⟨by decide, fun j hj => ?_, fun _ => ?_⟩, ?_, ?_⟩
  · show (if j = 0 then b else if j = 1 then a else tpw 1 j) = z0
    rw [if_neg (by omega), if_neg (by omega)]
    show (if j = 1 then e1 else z0) = z0
    rw [if_neg (by omega)]
  · show (if 1 = 0 then b else if 1 = 1 then a else tpw 1 1) ≠ z0
    rw [if_neg (by decide), if_pos rfl]
    exact ha
  · show (if 1 = 0 then b else if 1 = 1 then a else tpw 1 1) = a
    rw [if_neg (by decide), if_pos rfl]
  · rfl
theorem lin2_of {k : Nat} {q : Pl k} (h : ∀ j : Nat, 1 < j → q j = z0) : q = lin2 (q 1) (q 0) := by
  funext j
  show q j = (if j = 0 then q 0 else if j = 1 then q 1 else tpw 1 j)
  by_cases h0 : j = 0
  · rw [if_pos h0, h0]
  · rw [if_neg h0]
    by_cases h1 : j = 1
    · rw [if_pos h1, h1]
    · rw [if_neg h1, h j (by omega)]
      show z0 = (if j = 1 then e1 else z0)
      rw [if_neg h1]
theorem mc_is {k : Nat} {d : Nat} (h1 : 1 ≤ d) (h2 : d ≤ 2) (i : Nat) : Mn (mc (k := k) d i) d := by
  unfold mc
  split
  · have e : d = 1 := by omega
    subst e
    exact ⟨lin_is _, rfl⟩
  · have e : d = 2 := by omega
    subst e
    refine ⟨⟨by decide, fun j hj => ?_, fun _ => ?_⟩, ?_⟩
    · show (if j = 1 then _ else if j = 0 then _ else if j = 2 then e1 else z0) = z0
      rw [if_neg (by omega), if_neg (by omega), if_neg (by omega)]
    · exact e1_ne
    · rfl
theorem dg_quot {k : Nat} {x q b : Pl k} {n d m : Nat} (hx : IsDg x (n : Int)) (hb : IsDg b (d : Int)) (hq : Bd q m) (e : x = mlp q b) : d ≤ n ∧ IsDg q ((n - d : Nat) : Int) ∧ x n = ml (q (n - d)) (sg (n - d) (b d)) := by
  have hq0 : q ≠ pz := fun h => by
    rw [h, pz_mlp] at e
    exact hx.tp (congrFun e n)
  obtain ⟨a, ha⟩ := isdg_pos hq hq0
  obtain ⟨h1, h2⟩ := IsDg_mlp ha hb
  rw [← e] at h1 h2
  have h3 := hx.uniq h1
  have h4 : n - d = a := by omega
  have h5 : n = a + d := by omega
  rw [h4, ← h2, h5]
  exact ⟨by omega, ha, rfl⟩
theorem Bd_is {k : Nat} {f : Pl k} {n : Nat} (h : IsDg f (n : Int)) : Bd f (n + 1) := fun j hj => h.2.1 j (by omega)
theorem hit_spec {k : Nat} {x : Pl k} {n : Nat} (hx : IsDg x (n : Int)) (hb : Bd x 17) {d i : Nat} (h1 : 1 ≤ d) (h2 : d ≤ n) (h4 : n ≤ 4) (hR : htR x d i) : Mn (htB x d i) d ∧ IsDg (htQ x d i) ((n - d : Nat) : Int) ∧ x = mlp (htQ x d i) (htB x d i) := by
  have en : dg x = (n : Int) := dg_eq17 hb hx
  have elx := ld_eq hb hx
  have ln : ld x ≠ z0 := by rw [elx]; exact hx.tp
  unfold htR at hR
  unfold htB htQ
  rw [en] at hR ⊢
  by_cases c1 : (d : Int) = n
  · rw [if_pos c1, if_pos c1]
    have e : d = n := by omega
    subst e
    obtain ⟨m1, m2⟩ := mon_is hb hx
    refine ⟨m1, ?_, ?_⟩
    · rw [Nat.sub_self]
      exact ⟨by decide, fun j hj => by show (if j = 0 then _ else _) = _; rw [if_neg (by omega)]; rfl, fun _ => ln⟩
    · rw [cst_mlp]
      exact m2
  · rw [if_neg c1] at hR
    rw [if_neg c1, if_neg c1]
    by_cases c2 : 1 < d ∧ (d : Int) = n - 1
    · rw [if_pos c2] at hR
      rw [if_pos c2, if_pos c2]
      obtain ⟨l1, l2, l3⟩ := lin2_is (b := el k i) ln
      obtain ⟨⟨m, hm⟩, e, _⟩ := dv_is 1 l1 hb
      rw [hR, adp_pz] at e
      have e' : x = mlp (lin2 (ld x) (el k i)) (dq 1 x (lin2 (ld x) (el k i))) := e
      have hq0 : dq 1 x (lin2 (ld x) (el k i)) ≠ pz := fun h => by
        rw [h, mlp_pz] at e'
        exact hx.tp (congrFun e' n)
      obtain ⟨a, ha⟩ := isdg_pos hm hq0
      obtain ⟨h5, h6⟩ := IsDg_mlp l1 ha
      rw [← e'] at h5 h6
      have h7 := hx.uniq h5
      have h8 : d = a := by omega
      have h9 : n = 1 + a := by omega
      subst h8
      refine ⟨⟨ha, ?_⟩, ?_, e'⟩
      · rw [l2, ← h9, ← elx] at h6
        have h10 : ml (iv (ld x)) (ld x) = ml (iv (ld x)) (ml (ld x) (sg 1 (dq 1 x (lin2 (ld x) (el k i)) d))) := by rw [← h6]
        rw [← ml_assoc, ml_comm (iv _), ml_iv _ ln, one_ml] at h10
        exact sg_inj (h10.symm.trans (sg_e 1).symm)
      · rw [show n - d = 1 by omega]
        exact l1
    · rw [if_neg c2] at hR
      rw [if_neg c2, if_neg c2]
      have hm := mc_is (k := k) h1 (by omega) i
      obtain ⟨⟨m, hm2⟩, e, _⟩ := dv_is 0 hm.1 hb
      rw [hR, adp_pz] at e
      have e' : x = mlp (dq 0 x (mc d i)) (mc d i) := e
      exact ⟨hm, (dg_quot hx hm.1 hm2 e').2.1, e'⟩
theorem svN_top {k : Nat} {x : Pl k} {n : Nat} (hn : dg x = (n : Int)) (h1 : 1 ≤ n) : trN k (dg x) n = 1 ∧ svN x n 1 = 1 := by
  refine ⟨?_, ?_⟩
  · unfold trN trI
    rw [hn, if_neg (by omega), if_pos rfl]
    rfl
  · have h : htR x n 0 := by
      unfold htR
      rw [if_pos hn.symm]
      trivial
    show (if bz (htR x n 0) = 0 then svN x n 0 else svN x n 0 + 1) = 1
    rw [bz_pos h, if_neg (by decide)]
    rfl
/-- what the survey finds is one of the tries' -/
theorem svB_hit {k : Nat} {x : Pl k} {d : Nat} : ∀ {m : Nat}, svN x d m ≠ 0 → ∃ i : Nat, i < m ∧ htR x d i ∧ svB x d m = htB x d i
  | 0, h => absurd rfl h
  | m + 1, h => by
    unfold svN at h
    unfold svB
    by_cases c : bz (htR x d m) = 0
    · rw [if_pos c] at h ⊢
      obtain ⟨i, h1, h2, h3⟩ := svB_hit h
      exact ⟨i, by omega, h2, h3⟩
    · rw [if_neg c]
      split
      · exact ⟨m, by omega, bz_yes c, rfl⟩
      · rename_i q
        obtain ⟨i, h1, h2, h3⟩ := svB_hit (x := x) (d := d) (m := m) (fun e => q (Or.inl e))
        exact ⟨i, by omega, h2, h3⟩
