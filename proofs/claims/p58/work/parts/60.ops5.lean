/-! the class's calls: the text, sets -/
theorem rds_I {k : Nat} {M : Mem} {n : Int} {tx : Int → Int} (T : TXs M n tx) {q : Int} (q1 : q ≤ 16) : ∀ (m : Nat) (a : Int) (f : Pl k), 0 ≤ a → a ≤ n → -1 ≤ (rds (k := k) tx q n m a f).1 ∧ (rds (k := k) tx q n m a f).1 ≤ 44
  | 0, a, f, h0, h1 => by
    have := T.1.2
    show -1 ≤ a ∧ a ≤ 44
    omega
  | m + 1, a, f, h0, h1 => by
    have b := rdn_I T q a q1 h0 h1
    have b0 := T.1.2
    unfold rds
    split
    · dsimp only; omega
    · split
      · exact ⟨by show (-1 : Int) ≤ -1; decide, by show (-1 : Int) ≤ 44; decide⟩
      · split
        · dsimp only; omega
        · rename_i h3 h4 h5
          have c : (rdn tx q a).2.1 < n := by
            rcases Int.lt_or_le (rdn tx q a).2.1 n with z | z
            · exact z
            · have := T.2.2 _ (Or.inr z); omega
          exact rds_I T q1 m _ _ (by omega) (by omega)
theorem w32_I (w : Int32) : -2147483648 ≤ w.toInt ∧ w.toInt ≤ 2147483647 := by
  have h1 := Int32.le_toInt w
  have h2 := Int32.toInt_lt w
  omega
def band (x y : Int) : Int := (i32 x &&& i32 y).toInt
def bless (x y : Int) : Int := (i32 x &&& i32 (i32 y ^^^ i32 (-1)).toInt).toInt
theorem basT_I (k : Nat) (s : Int) : ∀ n : Nat, -2147483648 ≤ basT k s n ∧ basT k s n ≤ 2147483647
  | 0 => ⟨by show (-2147483648 : Int) ≤ 0; decide, by show (0 : Int) ≤ 2147483647; decide⟩
  | n + 1 => by
    have h := basT_I k s n
    have h2 := bset_I (basT k s n) n
    unfold basT
    split
    · exact h2
    · exact h
set_option maxRecDepth 100000 in
theorem o_sign {d : Nat} {M : Mem} {k : Nat} {pl : Nat → Pl k} {n : Int} {tx : Int → Int} {rc : Nat} {rw : Int → Int} {fc : Nat} {fa : Nat → Pl k} (H : CLS M k pl n tx rc rw fc fa) (v : Int) (hn : n + 4 ≤ 40) : Ct 198 (d + 8) 135 [(1, 0), (0, v)] M (fun r_ M' => r_ = (0, (n + 4)) ∧ CLS M' k pl (n + 4) (txA tx n v) rc rw fc fa ∧ (∀ a : Int, (a < 0 ∨ 160 < a) → M' a = M a)) := by
  have hK : cd 135 = k135 := rfl
  obtain ⟨P, u_, l_, z_, C, E, hpl, T, hR, hF⟩ := H
  have q1_ := qq_I k
  have p1_ := pp_I k
  have m1_ := mm_I k
  show Wp 198 _ 135 0 [(1, 0), (0, v)] [] M _
  refine w_al hK rfl rfl ?_
  refine w_getr (n := 9) (v := 140) hK rfl rfl (by decide) (by decide) rfl rfl rfl rfl ?_
  refine w_il hK rfl rfl ?_
  refine w_call [(1, 140), (0, v)] hK rfl rfl rfl rfl (Or.inr ⟨_, _, _, rfl, by decide, (by decide), rfl⟩) (c_app T (by omega) v) ?_
  rintro _ V161 ⟨rfl, T161, F161⟩
  refine ⟨by show (0 : Nat) ≠ 9; decide, (?_ : Wp 198 _ 135 4 [(1, 0), (0, v)] [(0, 1)] V161 _)⟩
  refine w_eq hK rfl (by omega) (by omega) (fun h4 => ?_) (fun h4 => ?_)
  · exfalso; omega
  · refine w_al hK rfl rfl ?_
    refine w_getr (n := 9) (v := 140) hK rfl rfl (by decide) (by decide) rfl rfl rfl rfl ?_
    refine w_geti (n := 3) (m := 3) hK rfl rfl (by decide) (by decide) rfl rfl rfl rfl ?_
    rw [show V161 140 3 = (n + 4) from T161.1.1]
    refine w_goto hK rfl ?_
    refine w_iret hK rfl rfl ?_
    exact ⟨rfl, ⟨_, u_, l_, z_, (CS.congr C (fun a ha_ => F161 a (CSc_ne ha_ (by decide) (notP rfl)) (CSc_ne ha_ (by decide) (notP rfl)))), (ES.keep E (F161 18 (by decide) (by decide))), hpl, T161, (RWs.keep hR (F161 0 (by decide) (by decide)) (F161 144 (by decide) (by decide))), (FCs.keep hF (F161 52 (by decide) (by decide)) (fun q_ hq_ => rfl))⟩, (fun a h_ => (F161 a (by omega) (by omega)))⟩
set_option maxRecDepth 100000 in
theorem n_sign {d : Nat} {M : Mem} {k : Nat} {pl : Nat → Pl k} {n : Int} {tx : Int → Int} {rc : Nat} {rw : Int → Int} {fc : Nat} {fa : Nat → Pl k} (H : CLS M k pl n tx rc rw fc fa) (v : Int) (hn : 40 < n + 4) : Ct 198 (d + 8) 135 [(1, 0), (0, v)] M (fun r_ M' => r_ = (0, -1) ∧ M' = M) := by
  have hK : cd 135 = k135 := rfl
  obtain ⟨P, u_, l_, z_, C, E, hpl, T, hR, hF⟩ := H
  have q1_ := qq_I k
  have p1_ := pp_I k
  have m1_ := mm_I k
  show Wp 198 _ 135 0 [(1, 0), (0, v)] [] M _
  refine w_al hK rfl rfl ?_
  refine w_getr (n := 9) (v := 140) hK rfl rfl (by decide) (by decide) rfl rfl rfl rfl ?_
  refine w_il hK rfl rfl ?_
  refine w_call [(1, 140), (0, v)] hK rfl rfl rfl rfl (Or.inr ⟨_, _, _, rfl, by decide, (by decide), rfl⟩) (c_appN T (by omega) v) ?_
  rintro _ Mq ⟨rfl, e_⟩
  subst Mq
  refine ⟨by show (0 : Nat) ≠ 9; decide, (?_ : Wp 198 _ 135 4 [(1, 0), (0, v)] [(0, 0)] M _)⟩
  refine w_eq hK rfl (by omega) (by omega) (fun h4 => ?_) (fun h4 => ?_)
  · refine w_ic hK rfl ?_
    refine w_iret hK rfl rfl ?_
    exact ⟨rfl, rfl⟩
  · exfalso; omega
set_option maxRecDepth 100000 in
theorem o_end {d : Nat} {M : Mem} {k : Nat} {pl : Nat → Pl k} {n : Int} {tx : Int → Int} {rc : Nat} {rw : Int → Int} {fc : Nat} {fa : Nat → Pl k} (H : CLS M k pl n tx rc rw fc fa) (m : Int) (m0 : 0 ≤ m) (m1 : m ≤ n) : Ct 198 (d + 8) 136 [(1, 0), (0, m)] M (fun r_ M' => r_ = (0, 1) ∧ CLS M' k pl m (txC tx m) rc rw fc fa ∧ (∀ a : Int, (a < 0 ∨ 160 < a) → M' a = M a)) := by
  have hK : cd 136 = k136 := rfl
  obtain ⟨P, u_, l_, z_, C, E, hpl, T, hR, hF⟩ := H
  have q1_ := qq_I k
  have p1_ := pp_I k
  have m1_ := mm_I k
  have tn_ := T.1.2
  show Wp 198 _ 136 0 [(1, 0), (0, m)] [] M _
  refine w_al hK rfl rfl ?_
  refine w_getr (n := 9) (v := 140) hK rfl rfl (by decide) (by decide) rfl rfl rfl rfl ?_
  refine w_il hK rfl rfl ?_
  refine w_call [(1, 140), (0, m)] hK rfl rfl rfl rfl (Or.inr ⟨_, _, _, rfl, by decide, (by decide), rfl⟩) (c_cut T m (by omega) (by omega)) ?_
  rintro _ V162 ⟨rfl, T162, F162⟩
  refine ⟨by show (0 : Nat) ≠ 9; decide, (?_ : Wp 198 _ 136 4 [(1, 0), (0, m)] [(0, 1)] V162 _)⟩
  refine w_zret hK rfl rfl (Or.inr rfl) ?_
  exact ⟨rfl, ⟨_, u_, l_, z_, (CS.congr C (fun a ha_ => F162 a (CSc_ne ha_ (by decide) (notP rfl)))), (ES.keep E (F162 18 (by decide))), hpl, T162, (RWs.keep hR (F162 0 (by decide)) (F162 144 (by decide))), (FCs.keep hF (F162 52 (by decide)) (fun q_ hq_ => rfl))⟩, (fun a h_ => (F162 a (by omega)))⟩
set_option maxRecDepth 100000 in
theorem n_end {d : Nat} {M : Mem} {k : Nat} {pl : Nat → Pl k} {n : Int} {tx : Int → Int} {rc : Nat} {rw : Int → Int} {fc : Nat} {fa : Nat → Pl k} (H : CLS M k pl n tx rc rw fc fa) (m : Int) (r1 : -2147483648 ≤ m) (r2 : m ≤ 2147483647) (hm : m < 0 ∨ n < m) : Ct 198 (d + 8) 136 [(1, 0), (0, m)] M (fun r_ M' => r_ = (0, 0) ∧ M' = M) := by
  have hK : cd 136 = k136 := rfl
  obtain ⟨P, u_, l_, z_, C, E, hpl, T, hR, hF⟩ := H
  have q1_ := qq_I k
  have p1_ := pp_I k
  have m1_ := mm_I k
  have tn_ := T.1.2
  show Wp 198 _ 136 0 [(1, 0), (0, m)] [] M _
  refine w_al hK rfl rfl ?_
  refine w_getr (n := 9) (v := 140) hK rfl rfl (by decide) (by decide) rfl rfl rfl rfl ?_
  refine w_il hK rfl rfl ?_
  refine w_call [(1, 140), (0, m)] hK rfl rfl rfl rfl (Or.inr ⟨_, _, _, rfl, by decide, (by decide), rfl⟩) (c_cutN T m (by omega) (by omega) (by omega)) ?_
  rintro _ Mq ⟨rfl, e_⟩
  subst Mq
  refine ⟨by show (0 : Nat) ≠ 9; decide, (?_ : Wp 198 _ 136 4 [(1, 0), (0, m)] [(0, 0)] M _)⟩
  refine w_zret hK rfl rfl (Or.inl rfl) ?_
  exact ⟨rfl, rfl⟩
set_option maxRecDepth 100000 in
theorem o_tells {d : Nat} {M : Mem} {k : Nat} {pl : Nat → Pl k} {n : Int} {tx : Int → Int} {rc : Nat} {rw : Int → Int} {fc : Nat} {fa : Nat → Pl k} (H : CLS M k pl n tx rc rw fc fa) (i : Nat) (hi : i < 6) (hf_ : (rds (k := k) tx (qq k : Int) n 9 0 pz).1 < 0) : Ct 198 (d + 8) 137 [(1, 0), (0, (i : Int))] M (fun r_ M' => r_ = (0, (dg (rds (k := k) tx (qq k : Int) n 9 0 pz).2)) ∧ CLS M' k (fup pl i (rds (k := k) tx (qq k : Int) n 9 0 pz).2) 0 (txC tx 0) rc rw fc fa ∧ (∀ a : Int, (a < 0 ∨ 160 < a) → M' a = M a)) := by
  have hK : cd 137 = k137 := rfl
  obtain ⟨P, u_, l_, z_, C, E, hpl, T, hR, hF⟩ := H
  have q1_ := qq_I k
  have p1_ := pp_I k
  have m1_ := mm_I k
  have bi_ := (hpl i hi).2
  have di_ := dg_lt9 bi_
  have tn_ := T.1.2
  show Wp 198 _ 137 0 [(1, 0), (0, (i : Int)), (3, 0), (3, 0)] [] M _
  refine w_al hK rfl rfl ?_
  refine w_getr (n := 9) (v := 140) hK rfl rfl (by decide) (by decide) rfl rfl rfl rfl ?_
  refine w_al hK rfl rfl ?_
  refine w_getr (n := 0) (v := 1) hK rfl rfl (by decide) (by decide) rfl rfl rfl rfl ?_
  refine w_geti (n := 1) (m := 1) hK rfl rfl (by decide) (by decide) rfl rfl rfl rfl ?_
  rw [show M 1 1 = (qq k : Int) from C.F.q]
  refine w_al hK rfl rfl ?_
  refine w_getr (n := 12) (v := 145) hK rfl rfl (by decide) (by decide) rfl rfl rfl rfl ?_
  refine w_call [(1, 140), (0, (qq k : Int)), (1, 145)] hK rfl rfl rfl rfl (Or.inr ⟨_, _, _, rfl, by decide, (by decide), rfl⟩) (c_rdns C T (isP_of (p := 145) rfl)) ?_
  rintro _ V163 ⟨rfl, C163, T163, F163⟩
  have rI_ := rds_I (k := k) T163 (q := (qq k : Int)) (by omega) 9 0 pz (by omega) (by omega)
  refine ⟨(by show (0 : Nat) ≠ 9; decide), (?_ : Wp 198 _ 137 8 [(1, 0), (0, (i : Int)), (3, 0), (3, 0)] [(0, (rds (k := k) tx (qq k : Int) n 9 0 pz).1)] V163 _)⟩
  refine w_is [(1, 0), (0, (i : Int)), (0, (rds (k := k) tx (qq k : Int) n 9 0 pz).1), (3, 0)] hK rfl rfl rfl ?_
  refine w_al hK rfl rfl ?_
  refine w_getr (n := 9) (v := 140) hK rfl rfl (by decide) (by decide) rfl rfl rfl rfl ?_
  refine w_call [(1, 140)] hK rfl rfl rfl rfl (Or.inr ⟨_, _, _, rfl, by decide, (by decide), rfl⟩) (c_tclr T163) ?_
  rintro _ V164 ⟨rfl, T164, F164⟩
  refine ⟨by decide, (?_ : Wp 198 _ 137 12 [(1, 0), (0, (i : Int)), (0, (rds (k := k) tx (qq k : Int) n 9 0 pz).1), (3, 0)] [] V164 _)⟩
  refine w_il hK rfl rfl ?_
  refine w_lt hK rfl (by omega) (by omega) (fun h13 => ?_) (fun h13 => ?_)
  · refine w_al hK rfl rfl ?_
    refine w_il hK rfl rfl ?_
    refine w_call [(1, 0), (0, (i : Int))] hK rfl rfl rfl rfl (Or.inr ⟨_, _, _, rfl, by decide, (by decide), rfl⟩) (c_pl i hi) ?_
    rintro _ Mq ⟨rfl, e_⟩
    subst Mq
    refine ⟨(by show (1 : Nat) ≠ 9; decide), (?_ : Wp 198 _ 137 21 [(1, 0), (0, (i : Int)), (0, (rds (k := k) tx (qq k : Int) n 9 0 pz).1), (3, 0)] [(1, (149 + 2 * (i : Int)))] V164 _)⟩
    refine w_as [(1, 0), (0, (i : Int)), (0, (rds (k := k) tx (qq k : Int) n 9 0 pz).1), (1, (149 + 2 * (i : Int)))] hK rfl rfl rfl ?_
    refine w_al hK rfl rfl ?_
    refine w_nonnull hK rfl (fun h23 => ?_) (fun h23 => ?_)
    · refine w_al hK rfl rfl ?_
      refine w_al hK rfl rfl ?_
      refine w_getr (n := 12) (v := 145) hK rfl rfl (by decide) (by decide) rfl rfl rfl rfl ?_
      refine w_call [(1, (149 + 2 * (i : Int))), (1, 145)] hK rfl rfl rfl rfl (Or.inr ⟨_, _, _, rfl, (isPP hi).nn, (isPP hi).lb, (isPP hi).o⟩) (c_copy (CS.congr C163 (fun a ha_ => F164 a (CSc_ne ha_ (by decide) (notP rfl)))) (isPP hi) ⟨(isP_of (p := 145) rfl), pu_eq⟩) ?_
      rintro _ V165 ⟨rfl, C165, S165⟩
      refine ⟨by decide, (?_ : Wp 198 _ 137 30 [(1, 0), (0, (i : Int)), (0, (rds (k := k) tx (qq k : Int) n 9 0 pz).1), (1, (149 + 2 * (i : Int)))] [] V165 _)⟩
      refine w_al hK rfl rfl ?_
      refine w_pt hK rfl (isPP hi) ?_
      rw [show V165 (149 + 2 * (i : Int)) 1 = dg ((rds (k := k) tx (qq k : Int) n 9 0 pz).2) from C165.t ⟨(isPP hi), pu_eq⟩]
      have tI_ := CS.dI C165 ⟨(isPP hi), pu_eq⟩
      refine w_iret hK rfl rfl ?_
      exact ⟨rfl, ⟨_, u_, l_, z_, C165, (ES.keep E ((S165 18 (notP rfl)).trans ((F164 18 (by decide)).trans (F163 18 (notP rfl) (by decide))))), (PLs.put hpl pu_eq (rds_bd 9 0 pz (by decide) (fun _ _ => rfl)) (fun q_ hq_ hn_ => ((pu_ne (P := pu P 145 ((rds (k := k) tx (qq k : Int) n 9 0 pz).2)) (f := (rds (k := k) tx (qq k : Int) n 9 0 pz).2) (show (149 + 2 * (q_ : Int)) ≠ (149 + 2 * (i : Int)) by omega)).trans (pu_ne (P := P) (f := (rds (k := k) tx (qq k : Int) n 9 0 pz).2) (show (149 + 2 * (q_ : Int)) ≠ 145 by omega))))), (TXs.keep T164 (S165 140 (notP rfl)) (S165 141 (notP rfl))), (RWs.keep hR ((S165 0 (notP rfl)).trans ((F164 0 (by decide)).trans (F163 0 (notP rfl) (by decide)))) ((S165 144 (notP rfl)).trans ((F164 144 (by decide)).trans (F163 144 (notP rfl) (by decide))))), (FCs.keep hF ((S165 52 (notP rfl)).trans ((F164 52 (by decide)).trans (F163 52 (notP rfl) (by decide)))) (fun q_ hq_ => ((pu_ne (P := pu P 145 ((rds (k := k) tx (qq k : Int) n 9 0 pz).2)) (f := (rds (k := k) tx (qq k : Int) n 9 0 pz).2) (show (68 + 6 * (q_ : Int)) ≠ (149 + 2 * (i : Int)) by omega)).trans (pu_ne (P := P) (f := (rds (k := k) tx (qq k : Int) n 9 0 pz).2) (show (68 + 6 * (q_ : Int)) ≠ 145 by omega)))))⟩, (fun a h_ => ((S165 a (npC h_)).trans ((F164 a (by omega)).trans (F163 a (npC h_) (by omega)))))⟩
    · exfalso; omega
  · exfalso; omega
set_option maxRecDepth 100000 in
theorem z_tells {d : Nat} {M : Mem} {k : Nat} {pl : Nat → Pl k} {n : Int} {tx : Int → Int} {rc : Nat} {rw : Int → Int} {fc : Nat} {fa : Nat → Pl k} (H : CLS M k pl n tx rc rw fc fa) (i : Int) (i1_ : -2147483648 ≤ i) (i2_ : i ≤ 2147483647) (hf_ : 0 ≤ (rds (k := k) tx (qq k : Int) n 9 0 pz).1) : Ct 198 (d + 8) 137 [(1, 0), (0, i)] M (fun r_ M' => r_ = (0, (-21 - (rds (k := k) tx (qq k : Int) n 9 0 pz).1)) ∧ CLS M' k pl 0 (txC tx 0) rc rw fc fa ∧ (∀ a : Int, (a < 0 ∨ 160 < a) → M' a = M a)) := by
  have hK : cd 137 = k137 := rfl
  obtain ⟨P, u_, l_, z_, C, E, hpl, T, hR, hF⟩ := H
  have q1_ := qq_I k
  have p1_ := pp_I k
  have m1_ := mm_I k
  have tn_ := T.1.2
  show Wp 198 _ 137 0 [(1, 0), (0, i), (3, 0), (3, 0)] [] M _
  refine w_al hK rfl rfl ?_
  refine w_getr (n := 9) (v := 140) hK rfl rfl (by decide) (by decide) rfl rfl rfl rfl ?_
  refine w_al hK rfl rfl ?_
  refine w_getr (n := 0) (v := 1) hK rfl rfl (by decide) (by decide) rfl rfl rfl rfl ?_
  refine w_geti (n := 1) (m := 1) hK rfl rfl (by decide) (by decide) rfl rfl rfl rfl ?_
  rw [show M 1 1 = (qq k : Int) from C.F.q]
  refine w_al hK rfl rfl ?_
  refine w_getr (n := 12) (v := 145) hK rfl rfl (by decide) (by decide) rfl rfl rfl rfl ?_
  refine w_call [(1, 140), (0, (qq k : Int)), (1, 145)] hK rfl rfl rfl rfl (Or.inr ⟨_, _, _, rfl, by decide, (by decide), rfl⟩) (c_rdns C T (isP_of (p := 145) rfl)) ?_
  rintro _ V166 ⟨rfl, C166, T166, F166⟩
  have rI_ := rds_I (k := k) T166 (q := (qq k : Int)) (by omega) 9 0 pz (by omega) (by omega)
  refine ⟨(by show (0 : Nat) ≠ 9; decide), (?_ : Wp 198 _ 137 8 [(1, 0), (0, i), (3, 0), (3, 0)] [(0, (rds (k := k) tx (qq k : Int) n 9 0 pz).1)] V166 _)⟩
  refine w_is [(1, 0), (0, i), (0, (rds (k := k) tx (qq k : Int) n 9 0 pz).1), (3, 0)] hK rfl rfl rfl ?_
  refine w_al hK rfl rfl ?_
  refine w_getr (n := 9) (v := 140) hK rfl rfl (by decide) (by decide) rfl rfl rfl rfl ?_
  refine w_call [(1, 140)] hK rfl rfl rfl rfl (Or.inr ⟨_, _, _, rfl, by decide, (by decide), rfl⟩) (c_tclr T166) ?_
  rintro _ V167 ⟨rfl, T167, F167⟩
  refine ⟨by decide, (?_ : Wp 198 _ 137 12 [(1, 0), (0, i), (0, (rds (k := k) tx (qq k : Int) n 9 0 pz).1), (3, 0)] [] V167 _)⟩
  refine w_il hK rfl rfl ?_
  refine w_lt hK rfl (by omega) (by omega) (fun h13 => ?_) (fun h13 => ?_)
  · exfalso; omega
  · refine w_ic hK rfl ?_
    refine w_il hK rfl rfl ?_
    refine w_sub hK rfl (by omega) (by omega) ?_
    refine w_iret hK rfl rfl ?_
    exact ⟨rfl, ⟨_, u_, l_, z_, (CS.congr C166 (fun a ha_ => F167 a (CSc_ne ha_ (by decide) (notP rfl)))), (ES.keep E ((F167 18 (by decide)).trans (F166 18 (notP rfl) (by decide)))), (PLs.keep hpl (fun q_ hq_ => (pu_ne (P := P) (f := (rds (k := k) tx (qq k : Int) n 9 0 pz).2) (show (149 + 2 * (q_ : Int)) ≠ 145 by omega)))), T167, (RWs.keep hR ((F167 0 (by decide)).trans (F166 0 (notP rfl) (by decide))) ((F167 144 (by decide)).trans (F166 144 (notP rfl) (by decide)))), (FCs.keep hF ((F167 52 (by decide)).trans (F166 52 (notP rfl) (by decide))) (fun q_ hq_ => (pu_ne (P := P) (f := (rds (k := k) tx (qq k : Int) n 9 0 pz).2) (show (68 + 6 * (q_ : Int)) ≠ 145 by omega))))⟩, (fun a h_ => ((F167 a (by omega)).trans (F166 a (npC h_) (by omega))))⟩
set_option maxRecDepth 100000 in
theorem n_tells {d : Nat} {M : Mem} {k : Nat} {pl : Nat → Pl k} {n : Int} {tx : Int → Int} {rc : Nat} {rw : Int → Int} {fc : Nat} {fa : Nat → Pl k} (H : CLS M k pl n tx rc rw fc fa) (i : Int) (i1_ : -2147483648 ≤ i) (i2_ : i ≤ 2147483647) (hf_ : (rds (k := k) tx (qq k : Int) n 9 0 pz).1 < 0) (hn : ¬ (0 ≤ i ∧ i < 6)) : Ct 198 (d + 8) 137 [(1, 0), (0, i)] M (fun r_ M' => r_ = (0, (-100)) ∧ CLS M' k pl 0 (txC tx 0) rc rw fc fa ∧ (∀ a : Int, (a < 0 ∨ 160 < a) → M' a = M a)) := by
  have hK : cd 137 = k137 := rfl
  obtain ⟨P, u_, l_, z_, C, E, hpl, T, hR, hF⟩ := H
  have q1_ := qq_I k
  have p1_ := pp_I k
  have m1_ := mm_I k
  have tn_ := T.1.2
  show Wp 198 _ 137 0 [(1, 0), (0, i), (3, 0), (3, 0)] [] M _
  refine w_al hK rfl rfl ?_
  refine w_getr (n := 9) (v := 140) hK rfl rfl (by decide) (by decide) rfl rfl rfl rfl ?_
  refine w_al hK rfl rfl ?_
  refine w_getr (n := 0) (v := 1) hK rfl rfl (by decide) (by decide) rfl rfl rfl rfl ?_
  refine w_geti (n := 1) (m := 1) hK rfl rfl (by decide) (by decide) rfl rfl rfl rfl ?_
  rw [show M 1 1 = (qq k : Int) from C.F.q]
  refine w_al hK rfl rfl ?_
  refine w_getr (n := 12) (v := 145) hK rfl rfl (by decide) (by decide) rfl rfl rfl rfl ?_
  refine w_call [(1, 140), (0, (qq k : Int)), (1, 145)] hK rfl rfl rfl rfl (Or.inr ⟨_, _, _, rfl, by decide, (by decide), rfl⟩) (c_rdns C T (isP_of (p := 145) rfl)) ?_
  rintro _ V168 ⟨rfl, C168, T168, F168⟩
  have rI_ := rds_I (k := k) T168 (q := (qq k : Int)) (by omega) 9 0 pz (by omega) (by omega)
  refine ⟨(by show (0 : Nat) ≠ 9; decide), (?_ : Wp 198 _ 137 8 [(1, 0), (0, i), (3, 0), (3, 0)] [(0, (rds (k := k) tx (qq k : Int) n 9 0 pz).1)] V168 _)⟩
  refine w_is [(1, 0), (0, i), (0, (rds (k := k) tx (qq k : Int) n 9 0 pz).1), (3, 0)] hK rfl rfl rfl ?_
  refine w_al hK rfl rfl ?_
  refine w_getr (n := 9) (v := 140) hK rfl rfl (by decide) (by decide) rfl rfl rfl rfl ?_
  refine w_call [(1, 140)] hK rfl rfl rfl rfl (Or.inr ⟨_, _, _, rfl, by decide, (by decide), rfl⟩) (c_tclr T168) ?_
  rintro _ V169 ⟨rfl, T169, F169⟩
  refine ⟨by decide, (?_ : Wp 198 _ 137 12 [(1, 0), (0, i), (0, (rds (k := k) tx (qq k : Int) n 9 0 pz).1), (3, 0)] [] V169 _)⟩
  refine w_il hK rfl rfl ?_
  refine w_lt hK rfl (by omega) (by omega) (fun h13 => ?_) (fun h13 => ?_)
  · refine w_al hK rfl rfl ?_
    refine w_il hK rfl rfl ?_
    refine w_call [(1, 0), (0, i)] hK rfl rfl rfl rfl (Or.inr ⟨_, _, _, rfl, by decide, (by decide), rfl⟩) (c_plI i (by omega) (by omega)) ?_
    rintro _ Mq ⟨rfl, e_⟩
    subst Mq
    have pI_ := plr_I i
    refine ⟨(by show (1 : Nat) ≠ 9; decide), (?_ : Wp 198 _ 137 21 [(1, 0), (0, i), (0, (rds (k := k) tx (qq k : Int) n 9 0 pz).1), (3, 0)] [(1, (plr i))] V169 _)⟩
    refine w_as [(1, 0), (0, i), (0, (rds (k := k) tx (qq k : Int) n 9 0 pz).1), (1, (plr i))] hK rfl rfl rfl ?_
    refine w_al hK rfl rfl ?_
    refine w_nonnull hK rfl (fun h23 => ?_) (fun h23 => ?_)
    · exfalso; omega
    · refine w_ic hK rfl ?_
      refine w_iret hK rfl rfl ?_
      exact ⟨rfl, ⟨_, u_, l_, z_, (CS.congr C168 (fun a ha_ => F169 a (CSc_ne ha_ (by decide) (notP rfl)))), (ES.keep E ((F169 18 (by decide)).trans (F168 18 (notP rfl) (by decide)))), (PLs.keep hpl (fun q_ hq_ => (pu_ne (P := P) (f := (rds (k := k) tx (qq k : Int) n 9 0 pz).2) (show (149 + 2 * (q_ : Int)) ≠ 145 by omega)))), T169, (RWs.keep hR ((F169 0 (by decide)).trans (F168 0 (notP rfl) (by decide))) ((F169 144 (by decide)).trans (F168 144 (notP rfl) (by decide)))), (FCs.keep hF ((F169 52 (by decide)).trans (F168 52 (notP rfl) (by decide))) (fun q_ hq_ => (pu_ne (P := P) (f := (rds (k := k) tx (qq k : Int) n 9 0 pz).2) (show (68 + 6 * (q_ : Int)) ≠ 145 by omega))))⟩, (fun a h_ => ((F169 a (by omega)).trans (F168 a (npC h_) (by omega))))⟩
  · exfalso; omega
set_option maxRecDepth 100000 in
theorem o_basis {d : Nat} {M : Mem} {k : Nat} {pl : Nat → Pl k} {n : Int} {tx : Int → Int} {rc : Nat} {rw : Int → Int} {fc : Nat} {fa : Nat → Pl k} (H : CLS M k pl n tx rc rw fc fa) (x : Int) (x0 : 0 ≤ x) (x1 : x < 2 ^ qq k) : Ct 198 (d + 8) 167 [(1, 0), (0, x)] M (fun r_ M' => r_ = (0, (bcw (basT k x (qq k)))) ∧ CLS M' k pl n tx 1 (upr rw 0 (basT k x (qq k))) fc fa ∧ (∀ a : Int, (a < 0 ∨ 160 < a) → M' a = M a)) := by
  have hK : cd 167 = k167 := rfl
  obtain ⟨P, u_, l_, z_, C, E, hpl, T, hR, hF⟩ := H
  have q1_ := qq_I k
  have p1_ := pp_I k
  have m1_ := mm_I k
  have sq_ := (shl_q k).2
  show Wp 198 _ 167 0 [(1, 0), (0, x), (3, 0)] [] M _
  refine w_al hK rfl rfl ?_
  refine w_il hK rfl rfl ?_
  refine w_call [(1, 0), (0, x)] hK rfl rfl rfl rfl (Or.inr ⟨_, _, _, rfl, by decide, (by decide), rfl⟩) (c_isset C.F x (by omega) (by omega)) ?_
  rintro _ Mq ⟨rfl, e_⟩
  subst Mq
  refine ⟨by show (0 : Nat) ≠ 9; decide, (?_ : Wp 198 _ 167 3 [(1, 0), (0, x), (3, 0)] [(0, (if 0 ≤ x ∧ x < 2 ^ qq k then 1 else 0))] M _)⟩
  have tI_ := ite01 (0 ≤ x ∧ x < 2 ^ qq k)
  refine w_ne hK rfl (by omega) (by omega) (fun h3 => ?_) (fun h3 => ?_)
  · refine w_al hK rfl rfl ?_
    refine w_getr (n := 3) (v := 45) hK rfl rfl (by decide) (by decide) rfl rfl rfl rfl ?_
    refine w_il hK rfl rfl ?_
    refine w_al hK rfl rfl ?_
    refine w_getr (n := 12) (v := 145) hK rfl rfl (by decide) (by decide) rfl rfl rfl rfl ?_
    refine w_call [(1, 45), (0, x), (1, 145)] hK rfl rfl rfl rfl (Or.inr ⟨_, _, _, rfl, by decide, (by decide), rfl⟩) (c_basis C (isP_of (p := 145) rfl) (by omega) (by omega) x (by omega) (by omega)) ?_
    rintro _ V170 ⟨P170, rfl, C170, S170, F170, f170_0⟩
    have tI2_ := basT_I k x (qq k)
    refine ⟨by show (0 : Nat) ≠ 9; decide, (?_ : Wp 198 _ 167 12 [(1, 0), (0, x), (3, 0)] [(0, (basT k x (qq k)))] V170 _)⟩
    refine w_is [(1, 0), (0, x), (0, (basT k x (qq k)))] hK rfl rfl rfl ?_
    refine w_al hK rfl rfl ?_
    refine w_call [(1, 0)] hK rfl rfl rfl rfl (Or.inr ⟨_, _, _, rfl, by decide, (by decide), rfl⟩) (c_start0 (RWs.keep hR (S170 0 (notP rfl)) (S170 144 (notP rfl)))) ?_
    rintro _ V171 ⟨rfl, R171, F171⟩
    refine ⟨by decide, (?_ : Wp 198 _ 167 15 [(1, 0), (0, x), (0, (basT k x (qq k)))] [] V171 _)⟩
    refine w_al hK rfl rfl ?_
    refine w_il hK rfl rfl ?_
    refine w_i2l hK rfl (by omega) (by omega) ?_
    refine w_call [(1, 0), (2, (basT k x (qq k)))] hK rfl rfl rfl rfl (Or.inr ⟨_, _, _, rfl, by decide, (by decide), rfl⟩) (c_tell R171 (by omega) (basT k x (qq k))) ?_
    rintro _ V172 ⟨rfl, R172, F172⟩
    refine ⟨by decide, (?_ : Wp 198 _ 167 19 [(1, 0), (0, x), (0, (basT k x (qq k)))] [] V172 _)⟩
    refine w_il hK rfl rfl ?_
    refine w_call [(0, (basT k x (qq k)))] hK rfl rfl rfl rfl (Or.inl rfl) (c_bitc (basT k x (qq k))) ?_
    rintro _ Mq ⟨rfl, e_⟩
    subst Mq
    refine ⟨by show (0 : Nat) ≠ 9; decide, (?_ : Wp 198 _ 167 21 [(1, 0), (0, x), (0, (basT k x (qq k)))] [(0, (bcw (basT k x (qq k))))] V172 _)⟩
    refine w_iret hK rfl rfl ?_
    exact ⟨rfl, ⟨_, u_, l_, z_, (CS.congr (CS.congr C170 (fun a ha_ => F171 a (CSc_ne ha_ (by decide) (notP rfl)))) (fun a ha_ => F172 a (CSc_ne ha_ (by decide) (notP rfl)) (CSc_ne ha_ (by decide) (notP rfl)))), (ES.keep E ((F172 18 (by decide) (by decide)).trans ((F171 18 (by decide)).trans (S170 18 (notP rfl))))), (PLs.keep hpl (fun q_ hq_ => (F170 (149 + 2 * (q_ : Int)) (by omega) (by omega) (by omega)))), (TXs.keep T ((F172 140 (by decide) (by decide)).trans ((F171 140 (by decide)).trans (S170 140 (notP rfl)))) ((F172 141 (by decide) (by decide)).trans ((F171 141 (by decide)).trans (S170 141 (notP rfl))))), R172, (FCs.keep hF ((F172 52 (by decide) (by decide)).trans ((F171 52 (by decide)).trans (S170 52 (notP rfl)))) (fun q_ hq_ => (F170 (68 + 6 * (q_ : Int)) (by omega) (by omega) (by omega))))⟩, (fun a h_ => ((F172 a (by omega) (by omega)).trans ((F171 a (by omega)).trans (S170 a (npC h_)))))⟩
  · exfalso; omega
set_option maxRecDepth 100000 in
theorem n_basis {d : Nat} {M : Mem} {k : Nat} {pl : Nat → Pl k} {n : Int} {tx : Int → Int} {rc : Nat} {rw : Int → Int} {fc : Nat} {fa : Nat → Pl k} (H : CLS M k pl n tx rc rw fc fa) (x : Int) (x1_ : -2147483648 ≤ x) (x2_ : x ≤ 2147483647) (hn : ¬ (0 ≤ x ∧ x < 2 ^ qq k)) : Ct 198 (d + 8) 167 [(1, 0), (0, x)] M (fun r_ M' => r_ = (0, -1) ∧ M' = M) := by
  have hK : cd 167 = k167 := rfl
  obtain ⟨P, u_, l_, z_, C, E, hpl, T, hR, hF⟩ := H
  have q1_ := qq_I k
  have p1_ := pp_I k
  have m1_ := mm_I k
  show Wp 198 _ 167 0 [(1, 0), (0, x), (3, 0)] [] M _
  refine w_al hK rfl rfl ?_
  refine w_il hK rfl rfl ?_
  refine w_call [(1, 0), (0, x)] hK rfl rfl rfl rfl (Or.inr ⟨_, _, _, rfl, by decide, (by decide), rfl⟩) (c_isset C.F x (by omega) (by omega)) ?_
  rintro _ Mq ⟨rfl, e_⟩
  subst Mq
  refine ⟨by show (0 : Nat) ≠ 9; decide, (?_ : Wp 198 _ 167 3 [(1, 0), (0, x), (3, 0)] [(0, (if 0 ≤ x ∧ x < 2 ^ qq k then 1 else 0))] M _)⟩
  have tI_ := ite01 (0 ≤ x ∧ x < 2 ^ qq k)
  refine w_ne hK rfl (by omega) (by omega) (fun h3 => ?_) (fun h3 => ?_)
  · exfalso; omega
  · refine w_ic hK rfl ?_
    refine w_iret hK rfl rfl ?_
    exact ⟨rfl, rfl⟩
set_option maxRecDepth 100000 in
theorem o_shares {d : Nat} {M : Mem} {k : Nat} {pl : Nat → Pl k} {n : Int} {tx : Int → Int} {rc : Nat} {rw : Int → Int} {fc : Nat} {fa : Nat → Pl k} (H : CLS M k pl n tx rc rw fc fa) (i : Nat) (hi : i < 6) (j : Nat) (hj : j < 6)  : Ct 198 (d + 8) 169 [(1, 0), (0, (i : Int)), (0, (j : Int))] M (fun r_ M' => r_ = (0, (band (rts (pl i) (qq k)) (rts (pl j) (qq k)))) ∧ CLS M' k pl n tx 2 (upr (upr rw 0 (bless (rts (pl i) (qq k)) (rts (pl j) (qq k)))) 1 (bless (rts (pl j) (qq k)) (rts (pl i) (qq k)))) fc fa ∧ (∀ a : Int, (a < 0 ∨ 160 < a) → M' a = M a)) := by
  have hK : cd 169 = k169 := rfl
  obtain ⟨P, u_, l_, z_, C, E, hpl, T, hR, hF⟩ := H
  have q1_ := qq_I k
  have p1_ := pp_I k
  have m1_ := mm_I k
  have bi_ := (hpl i hi).2
  have di_ := dg_lt9 bi_
  have bj_ := (hpl j hj).2
  have dj_ := dg_lt9 bj_
  show Wp 198 _ 169 0 [(1, 0), (0, (i : Int)), (0, (j : Int)), (3, 0), (3, 0), (3, 0), (3, 0)] [] M _
  refine w_al hK rfl rfl ?_
  refine w_il hK rfl rfl ?_
  refine w_call [(1, 0), (0, (i : Int))] hK rfl rfl rfl rfl (Or.inr ⟨_, _, _, rfl, by decide, (by decide), rfl⟩) (c_pl i hi) ?_
  rintro _ Mq ⟨rfl, e_⟩
  subst Mq
  refine ⟨(by show (1 : Nat) ≠ 9; decide), (?_ : Wp 198 _ 169 3 [(1, 0), (0, (i : Int)), (0, (j : Int)), (3, 0), (3, 0), (3, 0), (3, 0)] [(1, (149 + 2 * (i : Int)))] M _)⟩
  refine w_as [(1, 0), (0, (i : Int)), (0, (j : Int)), (1, (149 + 2 * (i : Int))), (3, 0), (3, 0), (3, 0)] hK rfl rfl rfl ?_
  refine w_al hK rfl rfl ?_
  refine w_il hK rfl rfl ?_
  refine w_call [(1, 0), (0, (j : Int))] hK rfl rfl rfl rfl (Or.inr ⟨_, _, _, rfl, by decide, (by decide), rfl⟩) (c_pl j hj) ?_
  rintro _ Mq ⟨rfl, e_⟩
  subst Mq
  refine ⟨(by show (1 : Nat) ≠ 9; decide), (?_ : Wp 198 _ 169 7 [(1, 0), (0, (i : Int)), (0, (j : Int)), (1, (149 + 2 * (i : Int))), (3, 0), (3, 0), (3, 0)] [(1, (149 + 2 * (j : Int)))] M _)⟩
  refine w_as [(1, 0), (0, (i : Int)), (0, (j : Int)), (1, (149 + 2 * (i : Int))), (1, (149 + 2 * (j : Int))), (3, 0), (3, 0)] hK rfl rfl rfl ?_
  refine w_al hK rfl rfl ?_
  refine w_null hK rfl (fun h9 => ?_) (fun h9 => ?_)
  · exfalso; omega
  · refine w_al hK rfl rfl ?_
    refine w_nonnull hK rfl (fun h11 => ?_) (fun h11 => ?_)
    · refine w_al hK rfl rfl ?_
      refine w_getr (n := 3) (v := 45) hK rfl rfl (by decide) (by decide) rfl rfl rfl rfl ?_
      refine w_al hK rfl rfl ?_
      refine w_call [(1, 45), (1, (149 + 2 * (i : Int)))] hK rfl rfl rfl rfl (Or.inr ⟨_, _, _, rfl, by decide, (by decide), rfl⟩) (c_roots C ⟨(isPP hi), (hpl i hi).1⟩) ?_
      rintro _ Mq ⟨rfl, e_⟩
      subst Mq
      refine ⟨by show (0 : Nat) ≠ 9; decide, (?_ : Wp 198 _ 169 18 [(1, 0), (0, (i : Int)), (0, (j : Int)), (1, (149 + 2 * (i : Int))), (1, (149 + 2 * (j : Int))), (3, 0), (3, 0)] [(0, (rts (pl i) (qq k)))] M _)⟩
      refine w_is [(1, 0), (0, (i : Int)), (0, (j : Int)), (1, (149 + 2 * (i : Int))), (1, (149 + 2 * (j : Int))), (0, (rts (pl i) (qq k))), (3, 0)] hK rfl rfl rfl ?_
      refine w_al hK rfl rfl ?_
      refine w_getr (n := 3) (v := 45) hK rfl rfl (by decide) (by decide) rfl rfl rfl rfl ?_
      refine w_al hK rfl rfl ?_
      refine w_call [(1, 45), (1, (149 + 2 * (j : Int)))] hK rfl rfl rfl rfl (Or.inr ⟨_, _, _, rfl, by decide, (by decide), rfl⟩) (c_roots C ⟨(isPP hj), (hpl j hj).1⟩) ?_
      rintro _ Mq ⟨rfl, e_⟩
      subst Mq
      refine ⟨by show (0 : Nat) ≠ 9; decide, (?_ : Wp 198 _ 169 23 [(1, 0), (0, (i : Int)), (0, (j : Int)), (1, (149 + 2 * (i : Int))), (1, (149 + 2 * (j : Int))), (0, (rts (pl i) (qq k))), (3, 0)] [(0, (rts (pl j) (qq k)))] M _)⟩
      refine w_is [(1, 0), (0, (i : Int)), (0, (j : Int)), (1, (149 + 2 * (i : Int))), (1, (149 + 2 * (j : Int))), (0, (rts (pl i) (qq k))), (0, (rts (pl j) (qq k)))] hK rfl rfl rfl ?_
      refine w_al hK rfl rfl ?_
      refine w_call [(1, 0)] hK rfl rfl rfl rfl (Or.inr ⟨_, _, _, rfl, by decide, (by decide), rfl⟩) (c_start0 hR) ?_
      rintro _ V173 ⟨rfl, R173, F173⟩
      refine ⟨by decide, (?_ : Wp 198 _ 169 26 [(1, 0), (0, (i : Int)), (0, (j : Int)), (1, (149 + 2 * (i : Int))), (1, (149 + 2 * (j : Int))), (0, (rts (pl i) (qq k))), (0, (rts (pl j) (qq k)))] [] V173 _)⟩
      refine w_al hK rfl rfl ?_
      refine w_il hK rfl rfl ?_
      refine w_il hK rfl rfl ?_
      refine w_ic hK rfl ?_
      refine w_bin (w := i32 (rts (pl j) (qq k)) ^^^ i32 (-1)) hK rfl rfl rfl ?_
      refine w_bin (w := i32 (rts (pl i) (qq k)) &&& i32 ((i32 (rts (pl j) (qq k)) ^^^ i32 (-1)).toInt)) hK rfl rfl rfl ?_
      have wI_ := w32_I (i32 (rts (pl i) (qq k)) &&& i32 ((i32 (rts (pl j) (qq k)) ^^^ i32 (-1)).toInt))
      refine w_i2l hK rfl (by omega) (by omega) ?_
      refine w_call [(1, 0), (2, (i32 (rts (pl i) (qq k)) &&& i32 ((i32 (rts (pl j) (qq k)) ^^^ i32 (-1)).toInt)).toInt)] hK rfl rfl rfl rfl (Or.inr ⟨_, _, _, rfl, by decide, (by decide), rfl⟩) (c_tell R173 (by omega) ((i32 (rts (pl i) (qq k)) &&& i32 ((i32 (rts (pl j) (qq k)) ^^^ i32 (-1)).toInt)).toInt)) ?_
      rintro _ V174 ⟨rfl, R174, F174⟩
      refine ⟨by decide, (?_ : Wp 198 _ 169 34 [(1, 0), (0, (i : Int)), (0, (j : Int)), (1, (149 + 2 * (i : Int))), (1, (149 + 2 * (j : Int))), (0, (rts (pl i) (qq k))), (0, (rts (pl j) (qq k)))] [] V174 _)⟩
      refine w_al hK rfl rfl ?_
      refine w_il hK rfl rfl ?_
      refine w_il hK rfl rfl ?_
      refine w_ic hK rfl ?_
      refine w_bin (w := i32 (rts (pl i) (qq k)) ^^^ i32 (-1)) hK rfl rfl rfl ?_
      refine w_bin (w := i32 (rts (pl j) (qq k)) &&& i32 ((i32 (rts (pl i) (qq k)) ^^^ i32 (-1)).toInt)) hK rfl rfl rfl ?_
      have wI_ := w32_I (i32 (rts (pl j) (qq k)) &&& i32 ((i32 (rts (pl i) (qq k)) ^^^ i32 (-1)).toInt))
      refine w_i2l hK rfl (by omega) (by omega) ?_
      refine w_call [(1, 0), (2, (i32 (rts (pl j) (qq k)) &&& i32 ((i32 (rts (pl i) (qq k)) ^^^ i32 (-1)).toInt)).toInt)] hK rfl rfl rfl rfl (Or.inr ⟨_, _, _, rfl, by decide, (by decide), rfl⟩) (c_tell R174 (by omega) ((i32 (rts (pl j) (qq k)) &&& i32 ((i32 (rts (pl i) (qq k)) ^^^ i32 (-1)).toInt)).toInt)) ?_
      rintro _ V175 ⟨rfl, R175, F175⟩
      refine ⟨by decide, (?_ : Wp 198 _ 169 42 [(1, 0), (0, (i : Int)), (0, (j : Int)), (1, (149 + 2 * (i : Int))), (1, (149 + 2 * (j : Int))), (0, (rts (pl i) (qq k))), (0, (rts (pl j) (qq k)))] [] V175 _)⟩
      refine w_il hK rfl rfl ?_
      refine w_il hK rfl rfl ?_
      refine w_bin (w := i32 (rts (pl i) (qq k)) &&& i32 (rts (pl j) (qq k))) hK rfl rfl rfl ?_
      refine w_iret hK rfl rfl ?_
      exact ⟨rfl, ⟨_, u_, l_, z_, (CS.congr (CS.congr (CS.congr C (fun a ha_ => F173 a (CSc_ne ha_ (by decide) (notP rfl)))) (fun a ha_ => F174 a (CSc_ne ha_ (by decide) (notP rfl)) (CSc_ne ha_ (by decide) (notP rfl)))) (fun a ha_ => F175 a (CSc_ne ha_ (by decide) (notP rfl)) (CSc_ne ha_ (by decide) (notP rfl)))), (ES.keep E ((F175 18 (by decide) (by decide)).trans ((F174 18 (by decide) (by decide)).trans (F173 18 (by decide))))), hpl, (TXs.keep T ((F175 140 (by decide) (by decide)).trans ((F174 140 (by decide) (by decide)).trans (F173 140 (by decide)))) ((F175 141 (by decide) (by decide)).trans ((F174 141 (by decide) (by decide)).trans (F173 141 (by decide))))), R175, (FCs.keep hF ((F175 52 (by decide) (by decide)).trans ((F174 52 (by decide) (by decide)).trans (F173 52 (by decide)))) (fun q_ hq_ => rfl))⟩, (fun a h_ => ((F175 a (by omega) (by omega)).trans ((F174 a (by omega) (by omega)).trans (F173 a (by omega)))))⟩
    · exfalso; omega
set_option maxRecDepth 100000 in
theorem n_shares {d : Nat} {M : Mem} {k : Nat} {pl : Nat → Pl k} {n : Int} {tx : Int → Int} {rc : Nat} {rw : Int → Int} {fc : Nat} {fa : Nat → Pl k} (H : CLS M k pl n tx rc rw fc fa) (i j : Int) (i1_ : -2147483648 ≤ i) (i2_ : i ≤ 2147483647) (j1_ : -2147483648 ≤ j) (j2_ : j ≤ 2147483647) (hn : ¬ ((0 ≤ i ∧ i < 6) ∧ (0 ≤ j ∧ j < 6))) : Ct 198 (d + 8) 169 [(1, 0), (0, i), (0, j)] M (fun r_ M' => r_ = (0, -1) ∧ M' = M) := by
  have hK : cd 169 = k169 := rfl
  obtain ⟨P, u_, l_, z_, C, E, hpl, T, hR, hF⟩ := H
  have q1_ := qq_I k
  have p1_ := pp_I k
  have m1_ := mm_I k
  show Wp 198 _ 169 0 [(1, 0), (0, i), (0, j), (3, 0), (3, 0), (3, 0), (3, 0)] [] M _
  refine w_al hK rfl rfl ?_
  refine w_il hK rfl rfl ?_
  refine w_call [(1, 0), (0, i)] hK rfl rfl rfl rfl (Or.inr ⟨_, _, _, rfl, by decide, (by decide), rfl⟩) (c_plI i (by omega) (by omega)) ?_
  rintro _ Mq ⟨rfl, e_⟩
  subst Mq
  have pI_ := plr_I i
  refine ⟨(by show (1 : Nat) ≠ 9; decide), (?_ : Wp 198 _ 169 3 [(1, 0), (0, i), (0, j), (3, 0), (3, 0), (3, 0), (3, 0)] [(1, (plr i))] M _)⟩
  refine w_as [(1, 0), (0, i), (0, j), (1, (plr i)), (3, 0), (3, 0), (3, 0)] hK rfl rfl rfl ?_
  refine w_al hK rfl rfl ?_
  refine w_il hK rfl rfl ?_
  refine w_call [(1, 0), (0, j)] hK rfl rfl rfl rfl (Or.inr ⟨_, _, _, rfl, by decide, (by decide), rfl⟩) (c_plI j (by omega) (by omega)) ?_
  rintro _ Mq ⟨rfl, e_⟩
  subst Mq
  have pI_ := plr_I j
  refine ⟨(by show (1 : Nat) ≠ 9; decide), (?_ : Wp 198 _ 169 7 [(1, 0), (0, i), (0, j), (1, (plr i)), (3, 0), (3, 0), (3, 0)] [(1, (plr j))] M _)⟩
  refine w_as [(1, 0), (0, i), (0, j), (1, (plr i)), (1, (plr j)), (3, 0), (3, 0)] hK rfl rfl rfl ?_
  refine w_al hK rfl rfl ?_
  refine w_null hK rfl (fun h9 => ?_) (fun h9 => ?_)
  · refine w_ic hK rfl ?_
    refine w_iret hK rfl rfl ?_
    exact ⟨rfl, rfl⟩
  · refine w_al hK rfl rfl ?_
    refine w_nonnull hK rfl (fun h11 => ?_) (fun h11 => ?_)
    · exfalso; omega
    · refine w_ic hK rfl ?_
      refine w_iret hK rfl rfl ?_
      exact ⟨rfl, rfl⟩
