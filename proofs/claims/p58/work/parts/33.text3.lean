/-! contracts: the text's reading; rows of memory -/
theorem CSc_ne {a c : Int} (h : (1 ≤ a ∧ a ≤ 6) ∨ ∃ p, isP p ∧ (a = p ∨ a = p + 1)) (h1 : c < 1 ∨ 6 < c) (h2 : ∀ p : Int, isP p → c ≠ p ∧ c ≠ p + 1) : a ≠ c := by
  rcases h with h | ⟨p, hp, h⟩
  · omega
  · have := h2 p hp
    omega
theorem CS.upc {M : Mem} {k : Nat} {P : Int → Option (Pl k)} (C : CS M k P) {c i v : Int} (h1 : c < 1 ∨ 6 < c) (h2 : ∀ p : Int, isP p → c ≠ p ∧ c ≠ p + 1) : CS (up M c i v) k P := C.congr fun _ ha => up_row (CSc_ne ha h1 h2)
/-- a row with one more number written -/
def upr (R : Int → Int) (i v : Int) : Int → Int := fun y => if y = i then v else R y
theorem upr_eq {R : Int → Int} {i v : Int} : upr R i v i = v := if_pos rfl
theorem upr_ne {R : Int → Int} {i v y : Int} (h : y ≠ i) : upr R i v y = R y := if_neg h
theorem up_upr {M : Mem} {R : Int → Int} {a i v : Int} (h : M a = R) : up M a i v a = upr R i v := by
  subst h
  funext y
  unfold up upr
  by_cases e : y = i
  · rw [if_pos ⟨rfl, e⟩, if_pos e]
  · rw [if_neg (fun q => e q.2), if_neg e]
theorem TXs.mk2 {M N : Mem} {n : Int} {tx : Int → Int} (T : TXs M n tx) (h : N 140 3 = n) (h2 : N 141 = M 141) : TXs N n tx := ⟨⟨h, T.1.2⟩, fun i h3 h4 => by rw [h2]; exact T.2.1 i h3 h4, T.2.2⟩
set_option maxRecDepth 100000 in
theorem c_ptAt {d : Nat} {M : Mem} (i : Int) (h0 : 0 ≤ i) (h6 : i < 6) {pt : Int → Int} (hp : M 142 = pt) : Ct 198 (d) 120 [(1, 140), (0, i)] M (fun r M' => r = (0, pt i) ∧ M' = M) := by
  have hK : cd 120 = k120 := rfl
  show Wp 198 _ 120 0 [(1, 140), (0, i)] [] M _
  refine w_il hK rfl rfl ?_
  refine w_lt hK rfl (by omega) (by omega) (fun h1 => ?_) (fun h1 => ?_)
  · exfalso; omega
  · refine w_il hK rfl rfl ?_
    refine w_al hK rfl rfl ?_
    refine w_getr (n := 1) (v := 142) hK rfl rfl (by decide) (by decide) rfl rfl rfl rfl ?_
    refine w_len hK rfl rfl (by decide) (by decide) rfl ?_
    refine w_ge2 hK rfl (by omega) (by omega) (by omega) (by omega) (fun h6 => ?_) (fun h6 => ?_)
    · exfalso; omega
    · refine w_al hK rfl rfl ?_
      refine w_getr (n := 1) (v := 142) hK rfl rfl (by decide) (by decide) rfl rfl rfl rfl ?_
      refine w_il hK rfl rfl ?_
      refine w_ia hK rfl rfl (by decide) (by decide) (by omega) (by omega) ?_
      rw [show M 142 i = (pt i) from (congrFun hp i)]
      refine w_goto hK rfl ?_
      refine w_iret hK rfl rfl ?_
      exact ⟨rfl, rfl⟩
set_option maxRecDepth 100000 in
theorem c_vlAt {d : Nat} {M : Mem} (i : Int) (h0 : 0 ≤ i) (h6 : i < 6) {wt : Int → Int} (hp : M 143 = wt) : Ct 198 (d) 121 [(1, 140), (0, i)] M (fun r M' => r = (0, wt i) ∧ M' = M) := by
  have hK : cd 121 = k121 := rfl
  show Wp 198 _ 121 0 [(1, 140), (0, i)] [] M _
  refine w_il hK rfl rfl ?_
  refine w_lt hK rfl (by omega) (by omega) (fun h1 => ?_) (fun h1 => ?_)
  · exfalso; omega
  · refine w_il hK rfl rfl ?_
    refine w_al hK rfl rfl ?_
    refine w_getr (n := 2) (v := 143) hK rfl rfl (by decide) (by decide) rfl rfl rfl rfl ?_
    refine w_len hK rfl rfl (by decide) (by decide) rfl ?_
    refine w_ge2 hK rfl (by omega) (by omega) (by omega) (by omega) (fun h6 => ?_) (fun h6 => ?_)
    · exfalso; omega
    · refine w_al hK rfl rfl ?_
      refine w_getr (n := 2) (v := 143) hK rfl rfl (by decide) (by decide) rfl rfl rfl rfl ?_
      refine w_il hK rfl rfl ?_
      refine w_ia hK rfl rfl (by decide) (by decide) (by omega) (by omega) ?_
      rw [show M 143 i = (wt i) from (congrFun hp i)]
      refine w_goto hK rfl ?_
      refine w_iret hK rfl rfl ?_
      exact ⟨rfl, rfl⟩
/-- every number told is one of the field, also of the points -/
def Nq (q : Int) (f : Int → Int) (c : Nat) : Prop := ∀ j : Nat, j < c → 0 ≤ f (j : Int) ∧ f (j : Int) < q
def IsPt (pt : Int → Int) (c : Nat) (v : Int) : Prop := ∃ j : Nat, j < c ∧ pt (j : Int) = v
set_option maxRecDepth 100000 in
theorem c_isPt {d : Nat} {M : Mem} (v : Int) (v1 : -2147483648 ≤ v) (v2 : v ≤ 2147483647) {c : Nat} (hc : c ≤ 6) (h4 : M 140 4 = (c : Int)) {pt : Int → Int} (hp : M 142 = pt) {q : Int} (hq : q ≤ 16) (hN : Nq q pt c) : Ct 198 (d + 1) 119 [(1, 140), (0, v)] M (fun r M' => r = (0, bz (IsPt pt c v)) ∧ M' = M) := by
  have hK : cd 119 = k119 := rfl
  show Wp 198 _ 119 0 [(1, 140), (0, v), (3, 0)] [] M _
  refine w_ic hK rfl ?_
  refine w_is [(1, 140), (0, v), (0, 0)] hK rfl rfl rfl ?_
  have lp2 : ∀ (n_ : Nat) (j : Nat), 7 - j = n_ → (j ≤ c) → (∀ i : Nat, i < j → pt i ≠ v) → Wp 198 (d + 1) 119 2 [(1, 140), (0, v), (0, (j : Int))] [] M (fun r M' => r = (0, bz (IsPt pt c v)) ∧ M' = M) := by
    intro n_
    induction n_ using Nat.strongRecOn with
    | _ n_ ih2 =>
    intro j  hm2 hj hn
    refine w_il hK rfl rfl ?_
    refine w_al hK rfl rfl ?_
    refine w_geti (n := 4) (m := 4) hK rfl rfl (by decide) (by decide) rfl rfl rfl rfl ?_
    rw [show M 140 4 = (c : Int) from h4]
    refine w_ge2 hK rfl (by omega) (by omega) (by omega) (by omega) (fun h5 => ?_) (fun h5 => ?_)
    · refine w_ic hK rfl ?_
      refine w_zret hK rfl rfl (Or.inl rfl) ?_
      exact ⟨by rw [bz_neg (fun ⟨i, h1, h2⟩ => hn i (by omega) h2)], rfl⟩
    · have bj_ := hN j (by omega)
      refine w_al hK rfl rfl ?_
      refine w_il hK rfl rfl ?_
      refine w_call [(1, 140), (0, (j : Int))] hK rfl rfl rfl rfl (Or.inr ⟨_, _, _, rfl, by decide, (by decide), rfl⟩) (c_ptAt (j : Int) (by omega) (by omega) hp) ?_
      rintro _ Mq ⟨rfl, e_⟩
      subst Mq
      refine ⟨by show (0 : Nat) ≠ 9; decide, (?_ : Wp 198 _ 119 9 [(1, 140), (0, v), (0, (j : Int))] [(0, (pt (j : Int)))] M _)⟩
      refine w_il hK rfl rfl ?_
      refine w_ne2 hK rfl (by omega) (by omega) (by omega) (by omega) (fun h10 => ?_) (fun h10 => ?_)
      · refine w_inc [(1, 140), (0, v), (0, ((j : Int) + 1))] hK rfl rfl rfl (by omega) (by omega) rfl ?_
        refine w_goto hK rfl ?_
        exact ih2 _ (by omega) (j + 1)  rfl (by omega) (fun i hi => by
          by_cases e : i = j
          · subst e; exact h10
          · exact hn i (by omega))
      · refine w_ic hK rfl ?_
        refine w_zret hK rfl rfl (Or.inr rfl) ?_
        exact ⟨by rw [bz_pos ⟨j, by omega, h10⟩], rfl⟩
  exact lp2 _ 0  rfl (by omega) (fun i hi => by omega)
theorem rdn_I {M : Mem} {n : Int} {tx : Int → Int} (T : TXs M n tx) (q a : Int) (q1 : q ≤ 16) (a0 : 0 ≤ a) (a1 : a ≤ n) : -1 ≤ (rdn tx q a).1 ∧ ((rdn tx q a).1 = -1 ∨ (rdn tx q a).1 < q) ∧ 0 ≤ (rdn tx q a).2.1 ∧ (rdn tx q a).2.1 ≤ n ∧ 0 ≤ (rdn tx q a).2.2 ∧ (rdn tx q a).2.2 ≤ 40 := by
  have b0 := T.1.2
  have i0 := isd_I (tx a)
  have i1 := isd_I (tx (a + 1))
  have i2 := isd_I (tx (a + 2))
  have j0 : isd (tx a) = 1 → a < n := fun h => by
    rcases Int.lt_or_le a n with q | q
    · exact q
    · have := T.2.2 a (by omega)
      omega
  have j1 : isd (tx (a + 1)) = 1 → a + 1 < n := fun h => by
    rcases Int.lt_or_le (a + 1) n with q | q
    · exact q
    · have := T.2.2 (a + 1) (by omega)
      omega
  have j2 : isd (tx (a + 2)) = 1 → a + 2 < n := fun h => by
    rcases Int.lt_or_le (a + 2) n with q | q
    · exact q
    · have := T.2.2 (a + 2) (by omega)
      omega
  unfold rdn
  repeat' split
  all_goals (dsimp only; omega)
/-- numbers are read: the place of a fault or -1, and what they make -/
def rds {k : Nat} (tx : Int → Int) (q n : Int) : Nat → Int → Pl k → Int × Pl k
  | 0, a, f => (a, f)
  | m + 1, a, f => if (rdn tx q a).1 < 0 then ((rdn tx q a).2.2, f)
    else if (rdn tx q a).2.1 = n then (-1, up1 f (8 - m) (el k (rdn tx q a).1.toNat))
    else if tx (rdn tx q a).2.1 ≠ 44 ∨ m = 0 then ((rdn tx q a).2.1, up1 f (8 - m) (el k (rdn tx q a).1.toNat))
    else rds tx q n m ((rdn tx q a).2.1 + 1) (up1 f (8 - m) (el k (rdn tx q a).1.toNat))
theorem rds_at {k : Nat} {tx : Int → Int} {q n : Int} {j : Nat} (hj : j ≤ 8) {a : Int} {f : Pl k} : rds tx q n (9 - j) a f = if (rdn tx q a).1 < 0 then ((rdn tx q a).2.2, f)
    else if (rdn tx q a).2.1 = n then (-1, up1 f j (el k (rdn tx q a).1.toNat))
    else if tx (rdn tx q a).2.1 ≠ 44 ∨ j = 8 then ((rdn tx q a).2.1, up1 f j (el k (rdn tx q a).1.toNat))
    else rds tx q n (9 - (j + 1)) ((rdn tx q a).2.1 + 1) (up1 f j (el k (rdn tx q a).1.toNat)) := by
  have e1 : 9 - j = (8 - j) + 1 := by omega
  have e2 : 8 - (8 - j) = j := by omega
  have e3 : (8 - j = 0) = (j = 8) := propext (by omega)
  have e4 : 9 - (j + 1) = 8 - j := by omega
  rw [e1, e4]
  show (if _ then _ else if _ then _ else if _ ∨ 8 - j = 0 then _ else _) = _
  simp only [e2, e3]
theorem rds_bd {k : Nat} {tx : Int → Int} {q n : Int} : ∀ (m : Nat) (a : Int) (f : Pl k), m ≤ 9 → Bd f 9 → Bd (rds tx q n m a f).2 9
  | 0, a, f, _, h => h
  | m + 1, a, f, hm, h => by
    have h2 : Bd (up1 f (8 - m) (el k (rdn tx q a).1.toNat)) 9 := up1_bd' h (by omega) _
    unfold rds
    split
    · exact h
    · split
      · exact h2
      · split
        · exact h2
        · exact rds_bd m _ _ (by omega) h2
set_option maxRecDepth 100000 in
theorem c_rdns {d : Nat} {M : Mem} {k : Nat} {P : Int → Option (Pl k)} (C : CS M k P) {n : Int} {tx : Int → Int} (T : TXs M n tx) {o : Int} (ho : isP o) : Ct 198 (d + 3) 112 [(1, 140), (0, (qq k : Int)), (1, o)] M (fun r M' => r = (0, (rds (k := k) tx (qq k : Int) n 9 0 pz).1) ∧ CS M' k (pu P o (rds (k := k) tx (qq k : Int) n 9 0 pz).2) ∧ TXs M' n tx ∧ (∀ a : Int, (∀ p : Int, isP p → a ≠ p ∧ a ≠ p + 1) → a ≠ 140 → M' a = M a)) := by
  have hK : cd 112 = k112 := rfl
  have q1_ := qq_I k
  have tn_ := T.1.2
  show Wp 198 _ 112 0 [(1, 140), (0, (qq k : Int)), (1, o), (3, 0), (3, 0)] [] M _
  refine w_al hK rfl rfl ?_
  refine w_ic hK rfl ?_
  refine w_puti (n := 5) (m := 5) hK rfl rfl (by decide) (by decide) rfl rfl rfl rfl ?_
  refine w_al hK rfl rfl ?_
  refine w_call [(1, o)] hK rfl rfl rfl rfl (Or.inr ⟨_, _, _, rfl, ho.nn, ho.lb, ho.o⟩) (c_clear (CS.upc C (by decide) (notP rfl)) ho) ?_
  rintro _ V1 ⟨rfl, C1, S1⟩
  refine ⟨by decide, (?_ : Wp 198 _ 112 5 [(1, 140), (0, (qq k : Int)), (1, o), (3, 0), (3, 0)] [] V1 _)⟩
  refine w_ic hK rfl ?_
  refine w_is [(1, 140), (0, (qq k : Int)), (1, o), (0, 0), (3, 0)] hK rfl rfl rfl ?_
  have lp7 : ∀ (n_ : Nat) (j : Nat) (a : Int) (f : Pl k) (w4 : AV) (N7 : Mem), 9 - j = n_ → (j ≤ 8) → (0 ≤ a) → (a ≤ n) → (CS N7 k (pu P o f)) → (TXs N7 n tx) → (N7 140 5 = a) → (N7 141 = M 141) → ((∀ a : Int, (∀ p : Int, isP p → a ≠ p ∧ a ≠ p + 1) → a ≠ 140 → N7 a = M a)) → (rds tx (qq k : Int) n (9 - j) a f = rds tx (qq k : Int) n 9 0 pz) → Wp 198 (d + 3) 112 7 [(1, 140), (0, (qq k : Int)), (1, o), (0, (j : Int)), w4] [] N7 (fun r M' => r = (0, (rds (k := k) tx (qq k : Int) n 9 0 pz).1) ∧ CS M' k (pu P o (rds (k := k) tx (qq k : Int) n 9 0 pz).2) ∧ TXs M' n tx ∧ (∀ a : Int, (∀ p : Int, isP p → a ≠ p ∧ a ≠ p + 1) → a ≠ 140 → M' a = M a)) := by
    intro n_
    induction n_ using Nat.strongRecOn with
    | _ n_ ih7 =>
    intro j a f w4 N7 hm7 hj ha0 han hC hT h5 h141 hF hres
    have tn_ := hT.1.2
    refine w_il hK rfl rfl ?_
    refine w_ic hK rfl ?_
    refine w_ge2 hK rfl (by omega) (by omega) (by omega) (by omega) (fun h9 => ?_) (fun h9 => ?_)
    · exfalso; omega
    · refine w_al hK rfl rfl ?_
      refine w_il hK rfl rfl ?_
      refine w_call [(1, 140), (0, (qq k : Int))] hK rfl rfl rfl rfl (Or.inr ⟨_, _, _, rfl, by decide, (by decide), rfl⟩) (c_rdn (TXs.mk2 T hT.1.1 h141) (qq k : Int) (by omega) (by omega) a h5 (by omega) (by omega)) ?_
      rintro _ V2 ⟨⟨rfl, x2, y2⟩, F2, G2⟩
      have rI2 := rdn_I T (qq k : Int) a (by omega) (by omega) (by omega)
      refine ⟨(by show (0 : Nat) ≠ 9; decide), (?_ : Wp 198 _ 112 13 [(1, 140), (0, (qq k : Int)), (1, o), (0, (j : Int)), w4] [(0, (rdn tx (qq k : Int) a).1)] V2 _)⟩
      refine w_is [(1, 140), (0, (qq k : Int)), (1, o), (0, (j : Int)), (0, (rdn tx (qq k : Int) a).1)] hK rfl rfl rfl ?_
      refine w_il hK rfl rfl ?_
      refine w_ge hK rfl (by omega) (by omega) (fun h15 => ?_) (fun h15 => ?_)
      · refine w_al hK rfl rfl ?_
        refine w_il hK rfl rfl ?_
        refine w_il hK rfl rfl ?_
        refine w_call [(1, o), (0, (j : Int)), (0, (rdn tx (qq k : Int) a).1)] hK rfl rfl rfl rfl (Or.inr ⟨_, _, _, rfl, ho.nn, ho.lb, ho.o⟩) (Ct.cv (c_putN (CS.congr hC (fun a ha_ => F2 a (CSc_ne ha_ (by decide) (notP rfl)))) ⟨ho, pu_eq⟩ j (el k ((rdn tx (qq k : Int) a).1).toNat) (by omega)) (by simp only [(elI (k := k) (c := (rdn tx (qq k : Int) a).1) (by omega) (by omega))]; try rfl)) ?_
        rintro _ V3 ⟨rfl, C3, S3⟩
        rw [pu_pu (P := P) (p := o) (f := f) (g := up1 f j (el k ((rdn tx (qq k : Int) a).1).toNat))] at C3
        refine ⟨by decide, (?_ : Wp 198 _ 112 23 [(1, 140), (0, (qq k : Int)), (1, o), (0, (j : Int)), (0, (rdn tx (qq k : Int) a).1)] [] V3 _)⟩
        refine w_al hK rfl rfl ?_
        refine w_geti (n := 5) (m := 5) hK rfl rfl (by decide) (by decide) rfl rfl rfl rfl ?_
        rw [show V3 140 5 = (rdn tx (qq k : Int) a).2.1 from ((congrFun (S3 140 (notP rfl)) 5).trans x2)]
        refine w_al hK rfl rfl ?_
        refine w_geti (n := 3) (m := 3) hK rfl rfl (by decide) (by decide) rfl rfl rfl rfl ?_
        rw [show V3 140 3 = n from ((congrFun (S3 140 (notP rfl)) 3).trans ((G2 3 (by decide) (by decide)).trans hT.1.1))]
        refine w_ne2 hK rfl (by omega) (by omega) (by omega) (by omega) (fun h27 => ?_) (fun h27 => ?_)
        · refine w_al hK rfl rfl ?_
          refine w_al hK rfl rfl ?_
          refine w_geti (n := 5) (m := 5) hK rfl rfl (by decide) (by decide) rfl rfl rfl rfl ?_
          rw [show V3 140 5 = (rdn tx (qq k : Int) a).2.1 from ((congrFun (S3 140 (notP rfl)) 5).trans x2)]
          refine w_call [(1, 140), (0, (rdn tx (qq k : Int) a).2.1)] hK rfl rfl rfl rfl (Or.inr ⟨_, _, _, rfl, by decide, (by decide), rfl⟩) (c_sgn (TXs.mk2 T ((congrFun (S3 140 (notP rfl)) 3).trans ((G2 3 (by decide) (by decide)).trans hT.1.1)) ((S3 141 (notP rfl)).trans ((F2 141 (by decide)).trans h141))) ((rdn tx (qq k : Int) a).2.1) (by omega) (by omega)) ?_
          rintro _ Mq ⟨rfl, e_⟩
          subst Mq
          have tI_ := T.I ((rdn tx (qq k : Int) a).2.1)
          refine ⟨by show (0 : Nat) ≠ 9; decide, (?_ : Wp 198 _ 112 34 [(1, 140), (0, (qq k : Int)), (1, o), (0, (j : Int)), (0, (rdn tx (qq k : Int) a).1)] [(0, (tx ((rdn tx (qq k : Int) a).2.1)))] V3 _)⟩
          refine w_ic hK rfl ?_
          refine w_ne2 hK rfl (by omega) (by omega) (by omega) (by omega) (fun h35 => ?_) (fun h35 => ?_)
          · refine w_al hK rfl rfl ?_
            refine w_geti (n := 5) (m := 5) hK rfl rfl (by decide) (by decide) rfl rfl rfl rfl ?_
            rw [show V3 140 5 = (rdn tx (qq k : Int) a).2.1 from ((congrFun (S3 140 (notP rfl)) 5).trans x2)]
            refine w_iret hK rfl rfl ?_
            rw [rds_at (by omega), if_neg (by omega), if_neg h27, if_pos (by omega)] at hres
            rw [← hres]
            exact ⟨rfl, C3, (TXs.mk2 T ((congrFun (S3 140 (notP rfl)) 3).trans ((G2 3 (by decide) (by decide)).trans hT.1.1)) ((S3 141 (notP rfl)).trans ((F2 141 (by decide)).trans h141))), (fun a np_ n140_ => ((S3 a np_).trans ((F2 a n140_).trans (hF a np_ n140_))))⟩
          · refine w_il hK rfl rfl ?_
            refine w_ic hK rfl ?_
            refine w_add hK rfl (by omega) (by omega) ?_
            refine w_ic hK rfl ?_
            refine w_ne2 hK rfl (by omega) (by omega) (by omega) (by omega) (fun h40 => ?_) (fun h40 => ?_)
            · refine w_al hK rfl rfl ?_
              refine w_dup hK rfl rfl ?_
              refine w_geti (n := 5) (m := 5) hK rfl rfl (by decide) (by decide) rfl rfl rfl rfl ?_
              rw [show V3 140 5 = (rdn tx (qq k : Int) a).2.1 from ((congrFun (S3 140 (notP rfl)) 5).trans x2)]
              refine w_ic hK rfl ?_
              refine w_add hK rfl (by omega) (by omega) ?_
              refine w_puti (n := 5) (m := 5) hK rfl rfl (by decide) (by decide) rfl rfl rfl rfl ?_
              refine w_inc [(1, 140), (0, (qq k : Int)), (1, o), (0, ((j : Int) + 1)), (0, (rdn tx (qq k : Int) a).1)] hK rfl rfl rfl (by omega) (by omega) rfl ?_
              refine w_goto hK rfl ?_
              exact ih7 _ (by omega) (j + 1) ((rdn tx (qq k : Int) a).2.1 + 1) (up1 f j (el k (rdn tx (qq k : Int) a).1.toNat)) (0, (rdn tx (qq k : Int) a).1) (up V3 140 5 ((rdn tx (qq k : Int) a).2.1 + 1)) rfl (by omega) (by omega) (by omega) (CS.upc C3 (by decide) (notP rfl)) (TXs.mk2 T ((up_ne2 (by omega)).trans ((congrFun (S3 140 (notP rfl)) 3).trans ((G2 3 (by decide) (by decide)).trans hT.1.1))) ((up_row (by decide)).trans ((S3 141 (notP rfl)).trans ((F2 141 (by decide)).trans h141)))) up_eq ((up_row (by decide)).trans ((S3 141 (notP rfl)).trans ((F2 141 (by decide)).trans h141))) (fun a np_ n140_ => ((up_row n140_).trans ((S3 a np_).trans ((F2 a n140_).trans (hF a np_ n140_))))) (by
                rw [← hres, rds_at (j := j) (a := a) (f := f) (by omega), if_neg (by omega), if_neg h27, if_neg (by omega)])
            · refine w_al hK rfl rfl ?_
              refine w_geti (n := 5) (m := 5) hK rfl rfl (by decide) (by decide) rfl rfl rfl rfl ?_
              rw [show V3 140 5 = (rdn tx (qq k : Int) a).2.1 from ((congrFun (S3 140 (notP rfl)) 5).trans x2)]
              refine w_iret hK rfl rfl ?_
              rw [rds_at (by omega), if_neg (by omega), if_neg h27, if_pos (by omega)] at hres
              rw [← hres]
              exact ⟨rfl, C3, (TXs.mk2 T ((congrFun (S3 140 (notP rfl)) 3).trans ((G2 3 (by decide) (by decide)).trans hT.1.1)) ((S3 141 (notP rfl)).trans ((F2 141 (by decide)).trans h141))), (fun a np_ n140_ => ((S3 a np_).trans ((F2 a n140_).trans (hF a np_ n140_))))⟩
        · refine w_ic hK rfl ?_
          refine w_iret hK rfl rfl ?_
          rw [rds_at (by omega), if_neg (by omega), if_pos (by omega)] at hres
          rw [← hres]
          exact ⟨rfl, C3, (TXs.mk2 T ((congrFun (S3 140 (notP rfl)) 3).trans ((G2 3 (by decide) (by decide)).trans hT.1.1)) ((S3 141 (notP rfl)).trans ((F2 141 (by decide)).trans h141))), (fun a np_ n140_ => ((S3 a np_).trans ((F2 a n140_).trans (hF a np_ n140_))))⟩
      · refine w_al hK rfl rfl ?_
        refine w_geti (n := 6) (m := 6) hK rfl rfl (by decide) (by decide) rfl rfl rfl rfl ?_
        rw [show V2 140 6 = (rdn tx (qq k : Int) a).2.2 from y2]
        refine w_iret hK rfl rfl ?_
        rw [rds_at (by omega), if_pos (by omega)] at hres
        rw [← hres]
        exact ⟨rfl, (CS.congr hC (fun a ha_ => F2 a (CSc_ne ha_ (by decide) (notP rfl)))), (TXs.mk2 T ((G2 3 (by decide) (by decide)).trans hT.1.1) ((F2 141 (by decide)).trans h141)), (fun a np_ n140_ => ((F2 a n140_).trans (hF a np_ n140_)))⟩
  exact lp7 _ 0 0 pz (3, 0) V1 rfl (by omega) (by omega) (by omega) C1 (TXs.mk2 T ((congrFun (S1 140 (notP rfl)) 3).trans ((up_ne2 (by omega)).trans T.1.1)) ((S1 141 (notP rfl)).trans (up_row (by decide)))) ((congrFun (S1 140 (notP rfl)) 5).trans up_eq) ((S1 141 (notP rfl)).trans (up_row (by decide))) (fun a np_ n140_ => ((S1 a np_).trans (up_row n140_))) rfl
