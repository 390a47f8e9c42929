/-! the law: kernel, image, roots -/
theorem sI_add {f g : Nat → Int} : ∀ n : Nat, sI (fun i => f i + g i) n = sI f n + sI g n
  | 0 => rfl
  | n + 1 => by
    show sI (fun i => f i + g i) n + (f n + g n) = (sI f n + f n) + (sI g n + g n)
    rw [sI_add n]
    omega
theorem sI_swap {F : Nat → Nat → Int} {a : Nat} : ∀ b : Nat, sI (fun c => sI (fun i => F i c) a) b = sI (fun i => sI (fun c => F i c) b) a
  | 0 => (sI_zero (fun i _ => rfl)).symm
  | b + 1 => by
    show sI (fun c => sI (fun i => F i c) a) b + sI (fun i => F i b) a = sI (fun i => sI (fun c => F i c) b + F i b) a
    rw [sI_swap b, sI_add]
theorem sI_mulr {f : Nat → Int} {K : Int} : ∀ n : Nat, sI (fun i => f i * K) n = sI f n * K
  | 0 => (Int.zero_mul K).symm
  | n + 1 => by
    show sI (fun i => f i * K) n + f n * K = (sI f n + f n) * K
    rw [sI_mulr n, Int.add_mul]
theorem sI_at {v : Nat} : ∀ n : Nat, sI (fun c => bz (v = c)) n = if v < n then 1 else 0
  | 0 => rfl
  | n + 1 => by
    show sI (fun c => bz (v = c)) n + bz (v = n) = _
    rw [sI_at n]
    by_cases e : v = n
    · rw [bz_pos e, if_neg (by omega), if_pos (by omega)]; rfl
    · rw [bz_neg e]
      by_cases h : v < n
      · rw [if_pos h, if_pos (by omega)]; rfl
      · rw [if_neg h, if_neg (by omega)]; rfl
theorem sI_one1 : ∀ n : Nat, sI (fun _ => 1) n = (n : Int)
  | 0 => rfl
  | n + 1 => by
    show sI (fun _ => 1) n + 1 = _
    rw [sI_one1 n]
    omega
theorem sI_cut {f g : Nat → Int} {n : Nat} (h : ∀ i : Nat, i < n → f i = g i) (h0 : ∀ i : Nat, n ≤ i → f i = 0) : ∀ m : Nat, n ≤ m → sI f m = sI g n
  | 0, hm => by
    rw [show n = 0 by omega]
    rfl
  | m + 1, hm => by
    by_cases e : n = m + 1
    · rw [← e]; exact sI_congr h
    · show sI f m + f m = _
      rw [sI_cut h h0 m (by omega), h0 m (by omega)]
      omega
theorem el_lt2 {k i : Nat} (h : i < qq k) : (el k i).val = i := Nat.mod_eq_of_lt h
theorem ad_r0 {k : Nat} {a b : El k} (h : ad a b = b) : a = z0 := by
  have h2 := congrArg (fun x => ad x (ng b)) h
  change ad (ad a b) (ng b) = ad b (ng b) at h2
  rw [ad_assoc, ad_neg, ad_zero] at h2
  exact h2
theorem ad_rc {k : Nat} {a b c : El k} (h : ad a c = ad b c) : a = b := by
  have h2 := congrArg (fun x => ad x (ng c)) h
  change ad (ad a c) (ng c) = ad (ad b c) (ng c) at h2
  rw [ad_assoc, ad_neg, ad_zero, ad_assoc, ad_neg, ad_zero] at h2
  exact h2
theorem dn_ad {k : Nat} (f : Pl k) (x y : El k) : dn f (ad x y) = ad (dn f x) (dn f y) := by
  show sm (fun j => ml (f j) (sg j (ad x y))) 17 = _
  rw [sm_congr (h := fun j => ad (ml (f j) (sg j x)) (ml (f j) (sg j y))) (fun j _ => by rw [sg_ad, ml_ad]), sm_ad]
  rfl
theorem dn_z {k : Nat} (f : Pl k) : dn f z0 = z0 := sm_z fun j _ => by rw [sg_z, ml_zero]
/-- all that go to c are one and what goes to 0 -/
theorem fib {k : Nat} (f : Pl k) (c : Nat) : sI (fun i => bz ((dn f (el k i)).val = c)) (qq k) = bz (∃ j : Nat, j < qq k ∧ (dn f (el k j)).val = c) * sI (fun i => bz (dn f (el k i) = z0)) (qq k) := by
  by_cases h : ∃ j : Nat, j < qq k ∧ (dn f (el k j)).val = c
  · rw [bz_pos h, Int.one_mul]
    obtain ⟨j0, hj0, e0⟩ := h
    refine (sI_bij (f := fun i => (ad (el k i) (el k j0)).val) (P := fun i => dn f (el k i) = z0) (Q := fun i => (dn f (el k i)).val = c) (fun i _ h => bz_neg h) (fun i _ h => bz_neg h) (fun i hi hP => ?_) (fun i j hi hj _ _ e => ?_) (fun j hj hQ => ?_)).symm
    · have hQ : (dn f (el k (ad (el k i) (el k j0)).val)).val = c := by
        rw [el_val, dn_ad, hP, zero_ad]
        exact e0
      exact ⟨(ad (el k i) (el k j0)).isLt, hQ, by rw [bz_pos hP, bz_pos hQ]⟩
    · have h2 := ad_rc (Fin.ext e)
      have h3 := congrArg Fin.val h2
      rw [el_lt2 hi, el_lt2 hj] at h3
      exact h3
    · have e1 : ad (ad (el k j) (ng (el k j0))) (el k j0) = el k j := by rw [ad_assoc, ad_comm (ng _) _, ad_neg, ad_zero]
      refine ⟨(ad (el k j) (ng (el k j0))).val, (ad (el k j) (ng (el k j0))).isLt, ?_, ?_⟩
      · show dn f (el k (ad (el k j) (ng (el k j0))).val) = z0
        rw [el_val]
        refine ad_r0 (b := dn f (el k j0)) ?_
        rw [← dn_ad, e1]
        exact Fin.ext (hQ.trans e0.symm)
      · show (ad (el k (ad (el k j) (ng (el k j0))).val) (el k j0)).val = j
        rw [el_val, e1, el_lt2 hj]
  · rw [bz_neg h, Int.zero_mul]
    exact sI_zero (fun i hi => bz_neg (fun q => h ⟨i, hi, q⟩))
theorem ker_img {k : Nat} (f : Pl k) : bcw (dnT f z0 (qq k)) * bcw (img f (qq k)) = (qq k : Int) := by
  rw [(dnT_S f z0 (qq k) (qq_le k)).cnt, (img_S f (qq k)).cnt]
  have h1 : sI (fun i => bz (i < qq k ∧ dn f (el k i) = z0)) 16 = sI (fun i => bz (dn f (el k i) = z0)) (qq k) := sI_cut (fun i hi => by
    by_cases q : dn f (el k i) = z0
    · rw [bz_pos q, bz_pos ⟨hi, q⟩]
    · rw [bz_neg q, bz_neg (fun c => q c.2)]) (fun i hi => bz_neg (fun c => by have := c.1; omega)) 16 (qq_le k)
  have h2 : sI (fun i => bz (∃ j : Nat, j < qq k ∧ (dn f (el k j)).val = i)) 16 = sI (fun i => bz (∃ j : Nat, j < qq k ∧ (dn f (el k j)).val = i)) (qq k) := sI_cut (fun _ _ => rfl) (fun i hi => bz_neg (fun c => by
    obtain ⟨j, _, e⟩ := c
    have := (dn f (el k j)).isLt
    omega)) 16 (qq_le k)
  rw [h1, h2, Int.mul_comm, ← sI_mulr, ← sI_congr (fun c _ => fib f c), sI_swap]
  rw [sI_congr (g := fun _ => 1) (fun i _ => by rw [sI_at, if_pos (dn f (el k i)).isLt]), sI_one1]
theorem vl_pz {k : Nat} (a : El k) : vl (pz : Pl k) a = z0 := sm_z fun j _ => zero_ml _
theorem Sb.full {k : Nat} : Sb ((2 : Int) ^ qq k - 1) (fun i => i < qq k) := by
  have h1 : 2 ^ qq k ≤ 2 ^ 16 := Nat.pow_le_pow_right (by decide) (qq_le k)
  have h2 : 1 ≤ 2 ^ qq k := Nat.pow_pos (by decide)
  refine ⟨2 ^ qq k - 1, by omega, ?_, fun i => ?_⟩
  · have h3 : ((2 ^ qq k : Nat) : Int) = (2 : Int) ^ qq k := Int.natCast_pow ..
    omega
  · rw [Nat.testBit_two_pow_sub_one]
    exact decide_eq_true_iff
theorem rts_pz {k : Nat} : rts (pz : Pl k) (qq k) = (2 : Int) ^ qq k - 1 := (rts_S pz (qq k) (qq_le k)).uniq Sb.full (fun i => ⟨fun h => h.1, fun h => ⟨h, vl_pz _⟩⟩)
theorem rts_0 {k : Nat} {f : Pl k} (h : IsDg f ((0 : Nat) : Int)) : rts f (qq k) = 0 := (rts_S f (qq k) (qq_le k)).uniq Sb.z (fun i => ⟨fun c => by
  have e := cst_of (r := f) (fun j hj => h.2.1 j (by omega))
  have h2 := c.2
  rw [e, vl_cst] at h2
  exact h.2.2 (by decide) h2, fun c => c.elim⟩)
theorem ker_1 {k : Nat} (f : Pl k) : (i32 (dnT f z0 (qq k)) &&& i32 1).toInt = 1 := by
  have hq := qq_pos k
  refine (dnT_S f z0 (qq k) (qq_le k)).and32 (y := 1) (Q := fun i => i = 0) ⟨1, by decide, rfl, fun i => ?_⟩ (fun i hi => ?_)
  · rw [show (1 : Nat) = 2 ^ 0 from rfl, Nat.testBit_two_pow, decide_eq_true_iff]
    exact eq_comm
  · rw [hi]
    refine ⟨hq, ?_⟩
    have e : el k 0 = z0 := z0_iff.mpr (el_lt2 hq)
    rw [e, dn_z]
/-- the divisors of degree 1 are as many as the roots -/
theorem lin_rt {k n : Nat} {f : Pl k} (hf : Bd f (n + 1)) (hn : n ≤ 16) (a : El k) : dr 0 f (up1 (tpw 1) 0 (ng a)) = pz ↔ vl f a = z0 := by
  obtain ⟨q, hq, e⟩ := vl_div hf hn a
  have h := (dv_eq (s := 0) ⟨⟨n, hq⟩, e, 1, lin_is _, cst_bd _⟩).2
  rw [h]
  constructor
  · intro c
    exact congrFun c 0
  · intro c
    rw [c]
    funext j
    show up1 pz 0 z0 j = z0
    unfold up1
    split <;> rfl
theorem mnp_11 {k c : Nat} (hc : c < qq k) : mnp (k := k) 1 c = up1 (tpw 1) 0 (ng (ng (el k c))) := by
  rw [ng_ng]
  funext j
  show (if j = 1 then e1 else (if j < 1 then el k (dgn (qq k) c j) else z0)) = (if j = 0 then el k c else if j = 1 then e1 else z0)
  by_cases h0 : j = 0
  · subst h0
    rw [if_neg (by decide), if_pos (by decide), if_pos rfl]
    have e : dgn (qq k) c 0 = c := by
      show c / (qq k) ^ 0 % qq k = c
      rw [Nat.pow_zero, Nat.div_one, Nat.mod_eq_of_lt hc]
    rw [e]
  · rw [if_neg h0]
    by_cases h1 : j = 1
    · rw [if_pos h1, if_pos h1]
    · rw [if_neg h1, if_neg h1, if_neg (by omega)]
theorem svN_rts {k n : Nat} {f : Pl k} (hf : IsDg f (n : Int)) (hb : Bd f 17) (h4 : n ≤ 4) : svN f 1 (trN k (dg f) ((1 : Nat) : Int)) = sI (fun i => bz (i < qq k ∧ vl f (el k i) = z0)) 16 := by
  have hq := qq_le k
  rw [svN_num hf hb (Nat.le_refl 1) h4]
  have hu : unq k 1 = qq k := Nat.pow_one _
  rw [hu]
  have key : ∀ c : Nat, c < qq k → (dr 0 f (mnp 1 c) = pz ↔ vl f (ng (el k c)) = z0) := fun c hc => by
    rw [mnp_11 hc]
    exact lin_rt (Bd_is hf) (by omega) _
  refine sI_bij (f := fun c => (ng (el k c)).val) (P := fun c => dr 0 f (mnp 1 c) = pz) (Q := fun i => i < qq k ∧ vl f (el k i) = z0) (fun i _ h => bz_neg h) (fun i _ h => bz_neg h) (fun c hc hP => ?_) (fun i j hi hj _ _ e => ?_) (fun j hj hQ => ?_)
  · have hl := (ng (el k c)).isLt
    have hQ : (ng (el k c)).val < qq k ∧ vl f (el k (ng (el k c)).val) = z0 := ⟨hl, by rw [el_val]; exact (key c hc).mp hP⟩
    exact ⟨by omega, hQ, by rw [bz_pos hP, bz_pos hQ]⟩
  · have h2 := congrArg ng (Fin.ext e : ng (el k i) = ng (el k j))
    rw [ng_ng, ng_ng] at h2
    have h3 := congrArg Fin.val h2
    rw [el_lt2 hi, el_lt2 hj] at h3
    exact h3
  · refine ⟨(ng (el k j)).val, (ng (el k j)).isLt, ?_, ?_⟩
    · show dr 0 f (mnp 1 (ng (el k j)).val) = pz
      rw [key _ (ng (el k j)).isLt, el_val, ng_ng]
      exact hQ.2
    · show (ng (el k (ng (el k j)).val)).val = j
      rw [el_val, ng_ng, el_lt2 hQ.1]
theorem i64_mulE {x y z : Int} (h : x * y = z) (h1 : -2147483648 ≤ z ∧ z ≤ 2147483647) : (i64 x * i64 y).toInt = z := by
  unfold i64
  rw [← Int64.ofInt_mul, h]
  exact Int64.toInt_ofInt_of_le (by omega) (by omega)
set_option maxRecDepth 100000 in
theorem lk_7 {X : Int → Int} {M : Mem} {k : Nat} (hk : k < 4) {pl : Nat → Pl k} {rc : Nat} {rw_ : Int → Int} (H : LZ X M k pl rc rw_) {f kk c d e s : Int} {i : Nat} (hs : s = 0 ∨ s = 1) (hde : (i = 0 ∧ d = dg (pl 0) ∧ e = dg (pl 1)) ∨ (i = 1 ∧ d = dg (pl 1) ∧ e = dg (pl 0))) (dd_ : -1 ≤ dg (pl 0) ∧ dg (pl 0) ≤ 3) (ee_ : -1 ≤ dg (pl 1) ∧ dg (pl 1) ≤ 3) {x10 x11 x12 x13 : AV} {cc ss : Nat} (hc : cc ≤ (cOf 307).1 ∧ ss ≤ (cOf 307).2) (next : ∀ (M' : Mem) (pl' : Nat → Pl k) (rc' : Nat) (rw' : Int → Int) (y10 y11 y12 y13 : AV), LZ X M' k pl' rc' rw' → pl' 0 = pl 0 → pl' 1 = pl 1 → WL 24 588 [(1, -2), (1, 0), (0, f), (0, (qq k : Int)), (0, kk), (0, c), (0, (i : Int)), (0, d), (0, e), (0, s), y10, y11, y12, y13] [] M' cc ss) : WL 24 530 [(1, -2), (1, 0), (0, f), (0, (qq k : Int)), (0, kk), (0, c), (0, (i : Int)), (0, d), (0, e), (0, s), x10, x11, x12, x13] [] M cc ss := by
  have hK : cd 307 = k307 := rfl
  have b0 := H.bd 0 (by decide)
  have b1 := H.bd 1 (by decide)
  have q1 := qq_I k
  have hi : i < 6 := by omega
  have hd : d = dg (pl i) := by rcases hde with ⟨rfl, h, _⟩ | ⟨rfl, h, _⟩ <;> exact h
  have bi := H.bd i hi
  have b4 : Bd (pl i) 4 := dg_bd (bi.mono (by decide)) (by omega)
  have sr := rts_S (pl i) (qq k) (qq_le k)
  have sri := sr.I
  have sk := (dnT_S (pl i) z0 (qq k) (qq_le k)).I
  have hks := ker_img (pl i)
  have sq := shl_q k
  rcases (show dg (pl i) < 0 ∨ dg (pl i) = 0 ∨ 1 ≤ dg (pl i) by omega) with q0 | q0 | q0
  · skip
    refine wl_al hK rfl rfl ?_
    refine wl_il hK rfl rfl ?_
    refine wl_cv [(1, 0), (0, (i : Int))] hK rfl rfl rfl rfl (Or.inr ⟨_, _, _, rfl, by decide, by decide, rfl⟩) (Or.inl rfl) hc (eo_roots H i hi (pl i) rfl) (fun v1 M1 e1 H1 => (?_ : WL 24 533 [(1, -2), (1, 0), (0, f), (0, (qq k : Int)), (0, kk), (0, c), (0, (i : Int)), (0, d), (0, e), (0, s), x10, x11, x12, x13] [(0, v1)] M1 cc ss))
    have g1 : 0 ≤ v1 ∧ v1 < 65536 := by rw [e1]; exact sri
    refine wl_is [(1, -2), (1, 0), (0, f), (0, (qq k : Int)), (0, kk), (0, c), (0, (i : Int)), (0, d), (0, e), (0, s), (0, v1), x11, x12, x13] hK rfl rfl rfl ?_
    refine wl_al hK rfl rfl ?_
    refine wl_il hK rfl rfl ?_
    refine wl_cv [(1, 0), (0, (i : Int))] hK rfl rfl rfl rfl (Or.inr ⟨_, _, _, rfl, by decide, by decide, rfl⟩) (Or.inl rfl) hc (eo_kernel H1 i hi (pl i) rfl) (fun v2 M2 e2 H2 => (?_ : WL 24 537 [(1, -2), (1, 0), (0, f), (0, (qq k : Int)), (0, kk), (0, c), (0, (i : Int)), (0, d), (0, e), (0, s), (0, v1), x11, x12, x13] [(0, v2)] M2 cc ss))
    have g2 : 0 ≤ v2 ∧ v2 < 65536 := by rw [e2]; exact sk
    refine wl_is [(1, -2), (1, 0), (0, f), (0, (qq k : Int)), (0, kk), (0, c), (0, (i : Int)), (0, d), (0, e), (0, s), (0, v1), (0, v2), x12, x13] hK rfl rfl rfl ?_
    refine wl_al hK rfl rfl ?_
    refine wl_ic hK rfl ?_
    refine wl_cv [(1, 0), (0, 0)] hK rfl rfl rfl rfl (Or.inr ⟨_, _, _, rfl, by decide, by decide, rfl⟩) (Or.inr rfl) hc (eo_row H2 0 (by decide)) (fun v3 M3 e3 H3 => (?_ : WL 24 541 [(1, -2), (1, 0), (0, f), (0, (qq k : Int)), (0, kk), (0, c), (0, (i : Int)), (0, d), (0, e), (0, s), (0, v1), (0, v2), x12, x13] [(2, v3)] M3 cc ss))
    have g3 : v3 = bcw (dnT (pl i) z0 (qq k)) := e3.trans ((upr_ne (by decide)).trans upr_eq)
    refine wl_al hK rfl rfl ?_
    refine wl_ic hK rfl ?_
    refine wl_cv [(1, 0), (0, 1)] hK rfl rfl rfl rfl (Or.inr ⟨_, _, _, rfl, by decide, by decide, rfl⟩) (Or.inr rfl) hc (eo_row H3 1 (by decide)) (fun v4 M4 e4 H4 => (?_ : WL 24 544 [(1, -2), (1, 0), (0, f), (0, (qq k : Int)), (0, kk), (0, c), (0, (i : Int)), (0, d), (0, e), (0, s), (0, v1), (0, v2), x12, x13] [(2, v4), (2, v3)] M4 cc ss))
    have g4 : v4 = bcw (img (pl i) (qq k)) := e4.trans upr_eq
    refine wl_lb hK rfl rfl ?_
    show WL 24 545 [(1, -2), (1, 0), (0, f), (0, (qq k : Int)), (0, kk), (0, c), (0, (i : Int)), (0, d), (0, e), (0, s), (0, v1), (0, v2), x12, x13] [(2, (i64 v3 * i64 v4).toInt)] M4 cc ss
    have em : (i64 v3 * i64 v4).toInt = (qq k : Int) := i64_mulE (by rw [g3, g4]; exact hks) (by omega)
    rw [em]
    refine wl_il hK rfl rfl ?_
    refine wl_i2l hK rfl (by omega) (by omega) ?_
    refine wl_lcmp hK rfl ?_
    rw [show (lg_cmp (i64 (qq k : Int)) (i64 (qq k : Int))).toInt = 0 from lcmp_self _]
    refine wl_ne hK rfl (by omega) (by omega) (fun h5 => ?_) (fun h5 => ?_)
    · exfalso
      omega
    · refine wl_il hK rfl rfl ?_
      refine wl_ic hK rfl ?_
      refine wl_msk hK rfl (by omega) (by omega) (fun v6 e6 a6 b6 => (?_ : WL 24 552 [(1, -2), (1, 0), (0, f), (0, (qq k : Int)), (0, kk), (0, c), (0, (i : Int)), (0, d), (0, e), (0, s), (0, v1), (0, v2), x12, x13] [(0, v6)] M4 cc ss))
      have g6 : v6 = 1 := by rw [e6, e2]; exact ker_1 (pl i)
      refine wl_ic hK rfl ?_
      refine wl_eq2 hK rfl (by omega) (by omega) (by omega) (by omega) (fun h7 => ?_) (fun h7 => ?_)
      · refine wl_il hK rfl rfl ?_
        refine wl_ne hK rfl (by omega) (by omega) (fun h8 => ?_) (fun h8 => ?_)
        · refine wl_il hK rfl rfl ?_
          refine wl_ge hK rfl (by omega) (by omega) (fun h9 => ?_) (fun h9 => ?_)
          · exfalso
            omega
          · refine wl_il hK rfl rfl ?_
            refine wl_ic hK rfl ?_
            refine wl_il hK rfl rfl ?_
            refine wl_any (w := i32 1 <<< (i32 (qq k : Int) &&& 31)) hK rfl rfl rfl (fun v10 e10 a10 b10 => (?_ : WL 24 566 [(1, -2), (1, 0), (0, f), (0, (qq k : Int)), (0, kk), (0, c), (0, (i : Int)), (0, d), (0, e), (0, s), (0, v1), (0, v2), x12, x13] [(0, v10), (0, v1)] M4 cc ss))
            have i10 : 1 ≤ v10 ∧ v10 ≤ 65536 := by rw [e10, sq.1]; omega
            refine wl_ic hK rfl ?_
            refine wl_sub hK rfl (by omega) (by omega) ?_
            have epz : pl i = pz := (dg_neg (bi.mono (by decide))).mp q0
            have g10 : v1 = v10 - 1 := by
              rw [e1, e10, sq.1, epz]
              exact rts_pz
            refine wl_eq2 hK rfl (by omega) (by omega) (by omega) (by omega) (fun h11 => ?_) (fun h11 => ?_)
            · refine wl_al hK rfl rfl ?_
              refine wl_il hK rfl rfl ?_
              refine wl_ic hK rfl ?_
              refine wl_cv [(1, 0), (0, (i : Int)), (0, 1)] hK rfl rfl rfl rfl (Or.inr ⟨_, _, _, rfl, by decide, by decide, rfl⟩) (Or.inl rfl) hc (ey_divs H4 i hi (pl i) rfl 1 (by decide) (by decide) q0) (fun v12 M12 e12 H12 => (?_ : WL 24 575 [(1, -2), (1, 0), (0, f), (0, (qq k : Int)), (0, kk), (0, c), (0, (i : Int)), (0, d), (0, e), (0, s), (0, v1), (0, v2), x12, x13] [(0, v12)] M12 cc ss))
              refine wl_il hK rfl rfl ?_
              refine wl_ge hK rfl (by omega) (by omega) (fun h13 => ?_) (fun h13 => ?_)
              · exfalso
                omega
              · refine wl_ic hK rfl ?_
                refine wl_goto hK rfl ?_
                refine wl_eq2 hK rfl (by omega) (by omega) (by omega) (by omega) (fun h14 => ?_) (fun h14 => ?_)
                · exact next M12 _ _ _ _ _ _ _ H12 rfl rfl
                · exfalso
                  omega
            · exfalso
              omega
        · exfalso
          omega
      · exfalso
        omega
  · have hI : IsDg (pl i) ((0 : Nat) : Int) := by
      have h := dg_is (bi.mono (show 9 ≤ 64 by decide))
      rw [q0] at h
      exact h
    have s0 : svN (pl i) 1 (trN k (dg (pl i)) ((1 : Nat) : Int)) = 0 := svN_high (n := 0) q0 (by decide)
    refine wl_al hK rfl rfl ?_
    refine wl_il hK rfl rfl ?_
    refine wl_cv [(1, 0), (0, (i : Int))] hK rfl rfl rfl rfl (Or.inr ⟨_, _, _, rfl, by decide, by decide, rfl⟩) (Or.inl rfl) hc (eo_roots H i hi (pl i) rfl) (fun v1 M1 e1 H1 => (?_ : WL 24 533 [(1, -2), (1, 0), (0, f), (0, (qq k : Int)), (0, kk), (0, c), (0, (i : Int)), (0, d), (0, e), (0, s), x10, x11, x12, x13] [(0, v1)] M1 cc ss))
    have g1 : 0 ≤ v1 ∧ v1 < 65536 := by rw [e1]; exact sri
    refine wl_is [(1, -2), (1, 0), (0, f), (0, (qq k : Int)), (0, kk), (0, c), (0, (i : Int)), (0, d), (0, e), (0, s), (0, v1), x11, x12, x13] hK rfl rfl rfl ?_
    refine wl_al hK rfl rfl ?_
    refine wl_il hK rfl rfl ?_
    refine wl_cv [(1, 0), (0, (i : Int))] hK rfl rfl rfl rfl (Or.inr ⟨_, _, _, rfl, by decide, by decide, rfl⟩) (Or.inl rfl) hc (eo_kernel H1 i hi (pl i) rfl) (fun v2 M2 e2 H2 => (?_ : WL 24 537 [(1, -2), (1, 0), (0, f), (0, (qq k : Int)), (0, kk), (0, c), (0, (i : Int)), (0, d), (0, e), (0, s), (0, v1), x11, x12, x13] [(0, v2)] M2 cc ss))
    have g2 : 0 ≤ v2 ∧ v2 < 65536 := by rw [e2]; exact sk
    refine wl_is [(1, -2), (1, 0), (0, f), (0, (qq k : Int)), (0, kk), (0, c), (0, (i : Int)), (0, d), (0, e), (0, s), (0, v1), (0, v2), x12, x13] hK rfl rfl rfl ?_
    refine wl_al hK rfl rfl ?_
    refine wl_ic hK rfl ?_
    refine wl_cv [(1, 0), (0, 0)] hK rfl rfl rfl rfl (Or.inr ⟨_, _, _, rfl, by decide, by decide, rfl⟩) (Or.inr rfl) hc (eo_row H2 0 (by decide)) (fun v3 M3 e3 H3 => (?_ : WL 24 541 [(1, -2), (1, 0), (0, f), (0, (qq k : Int)), (0, kk), (0, c), (0, (i : Int)), (0, d), (0, e), (0, s), (0, v1), (0, v2), x12, x13] [(2, v3)] M3 cc ss))
    have g3 : v3 = bcw (dnT (pl i) z0 (qq k)) := e3.trans ((upr_ne (by decide)).trans upr_eq)
    refine wl_al hK rfl rfl ?_
    refine wl_ic hK rfl ?_
    refine wl_cv [(1, 0), (0, 1)] hK rfl rfl rfl rfl (Or.inr ⟨_, _, _, rfl, by decide, by decide, rfl⟩) (Or.inr rfl) hc (eo_row H3 1 (by decide)) (fun v4 M4 e4 H4 => (?_ : WL 24 544 [(1, -2), (1, 0), (0, f), (0, (qq k : Int)), (0, kk), (0, c), (0, (i : Int)), (0, d), (0, e), (0, s), (0, v1), (0, v2), x12, x13] [(2, v4), (2, v3)] M4 cc ss))
    have g4 : v4 = bcw (img (pl i) (qq k)) := e4.trans upr_eq
    refine wl_lb hK rfl rfl ?_
    show WL 24 545 [(1, -2), (1, 0), (0, f), (0, (qq k : Int)), (0, kk), (0, c), (0, (i : Int)), (0, d), (0, e), (0, s), (0, v1), (0, v2), x12, x13] [(2, (i64 v3 * i64 v4).toInt)] M4 cc ss
    have em : (i64 v3 * i64 v4).toInt = (qq k : Int) := i64_mulE (by rw [g3, g4]; exact hks) (by omega)
    rw [em]
    refine wl_il hK rfl rfl ?_
    refine wl_i2l hK rfl (by omega) (by omega) ?_
    refine wl_lcmp hK rfl ?_
    rw [show (lg_cmp (i64 (qq k : Int)) (i64 (qq k : Int))).toInt = 0 from lcmp_self _]
    refine wl_ne hK rfl (by omega) (by omega) (fun h5 => ?_) (fun h5 => ?_)
    · exfalso
      omega
    · refine wl_il hK rfl rfl ?_
      refine wl_ic hK rfl ?_
      refine wl_msk hK rfl (by omega) (by omega) (fun v6 e6 a6 b6 => (?_ : WL 24 552 [(1, -2), (1, 0), (0, f), (0, (qq k : Int)), (0, kk), (0, c), (0, (i : Int)), (0, d), (0, e), (0, s), (0, v1), (0, v2), x12, x13] [(0, v6)] M4 cc ss))
      have g6 : v6 = 1 := by rw [e6, e2]; exact ker_1 (pl i)
      refine wl_ic hK rfl ?_
      refine wl_eq2 hK rfl (by omega) (by omega) (by omega) (by omega) (fun h7 => ?_) (fun h7 => ?_)
      · refine wl_il hK rfl rfl ?_
        refine wl_ne hK rfl (by omega) (by omega) (fun h8 => ?_) (fun h8 => ?_)
        · exfalso
          omega
        · have gz : v1 = 0 := e1.trans (rts_0 hI)
          refine wl_il hK rfl rfl ?_
          refine wl_ne hK rfl (by omega) (by omega) (fun h9 => ?_) (fun h9 => ?_)
          · exfalso
            omega
          · refine wl_il hK rfl rfl ?_
            refine wl_ge hK rfl (by omega) (by omega) (fun h10 => ?_) (fun h10 => ?_)
            · refine wl_al hK rfl rfl ?_
              refine wl_il hK rfl rfl ?_
              refine wl_ic hK rfl ?_
              refine wl_cv [(1, 0), (0, (i : Int)), (0, 1)] hK rfl rfl rfl rfl (Or.inr ⟨_, _, _, rfl, by decide, by decide, rfl⟩) (Or.inl rfl) hc (eo_divs0 H4 i hi (pl i) rfl 1 (by decide) (by decide) (by omega) (by omega) s0) (fun v11 M11 e11 H11 => (?_ : WL 24 575 [(1, -2), (1, 0), (0, f), (0, (qq k : Int)), (0, kk), (0, c), (0, (i : Int)), (0, d), (0, e), (0, s), (0, v1), (0, v2), x12, x13] [(0, v11)] M11 cc ss))
              refine wl_il hK rfl rfl ?_
              refine wl_ge hK rfl (by omega) (by omega) (fun h12 => ?_) (fun h12 => ?_)
              · refine wl_il hK rfl rfl ?_
                refine wl_ne hK rfl (by omega) (by omega) (fun h13 => ?_) (fun h13 => ?_)
                · exfalso
                  omega
                · refine wl_ic hK rfl ?_
                  refine wl_goto hK rfl ?_
                  refine wl_eq2 hK rfl (by omega) (by omega) (by omega) (by omega) (fun h14 => ?_) (fun h14 => ?_)
                  · exact next M11 _ _ _ _ _ _ _ H11 rfl rfl
                  · exfalso
                    omega
              · exfalso
                omega
            · refine wl_il hK rfl rfl ?_
              refine wl_ic hK rfl ?_
              refine wl_il hK rfl rfl ?_
              refine wl_any (w := i32 1 <<< (i32 (qq k : Int) &&& 31)) hK rfl rfl rfl (fun v15 e15 a15 b15 => (?_ : WL 24 566 [(1, -2), (1, 0), (0, f), (0, (qq k : Int)), (0, kk), (0, c), (0, (i : Int)), (0, d), (0, e), (0, s), (0, v1), (0, v2), x12, x13] [(0, v15), (0, v1)] M4 cc ss))
              refine wl_ic hK rfl ?_
              refine wl_sub hK rfl (by omega) (by omega) ?_
              refine wl_eq2 hK rfl (by omega) (by omega) (by omega) (by omega) (fun h16 => ?_) (fun h16 => ?_)
              · refine wl_al hK rfl rfl ?_
                refine wl_il hK rfl rfl ?_
                refine wl_ic hK rfl ?_
                refine wl_cv [(1, 0), (0, (i : Int)), (0, 1)] hK rfl rfl rfl rfl (Or.inr ⟨_, _, _, rfl, by decide, by decide, rfl⟩) (Or.inl rfl) hc (eo_divs0 H4 i hi (pl i) rfl 1 (by decide) (by decide) (by omega) (by omega) s0) (fun v17 M17 e17 H17 => (?_ : WL 24 575 [(1, -2), (1, 0), (0, f), (0, (qq k : Int)), (0, kk), (0, c), (0, (i : Int)), (0, d), (0, e), (0, s), (0, v1), (0, v2), x12, x13] [(0, v17)] M17 cc ss))
                refine wl_il hK rfl rfl ?_
                refine wl_ge hK rfl (by omega) (by omega) (fun h18 => ?_) (fun h18 => ?_)
                · refine wl_il hK rfl rfl ?_
                  refine wl_ne hK rfl (by omega) (by omega) (fun h19 => ?_) (fun h19 => ?_)
                  · exfalso
                    omega
                  · refine wl_ic hK rfl ?_
                    refine wl_goto hK rfl ?_
                    refine wl_eq2 hK rfl (by omega) (by omega) (by omega) (by omega) (fun h20 => ?_) (fun h20 => ?_)
                    · exact next M17 _ _ _ _ _ _ _ H17 rfl rfl
                    · exfalso
                      omega
                · exfalso
                  omega
              · exfalso
                omega
      · exfalso
        omega
  · obtain ⟨r, hr⟩ : ∃ r : Nat, (r : Int) = dg (pl i) := ⟨(dg (pl i)).toNat, by omega⟩
    have hI : IsDg (pl i) (r : Int) := by
      rw [hr]
      exact dg_is (bi.mono (by decide))
    have hsv := svN_rts hI (bi.mono (by decide)) (by omega)
    obtain ⟨N, N1, N2, N3⟩ := sr
    have hpc := (pcs_sI N3 16).trans hsv.symm
    have hsI := (svN_I (pl i) 1 (trN k (dg (pl i)) ((1 : Nat) : Int))).1
    have htI := (svN_I (pl i) 1 (trN k (dg (pl i)) ((1 : Nat) : Int))).2
    have htN := trN_I k (dg (pl i)) ((1 : Nat) : Int)
    have hdv : ∀ {M : Mem} {pl' : Nat → Pl k} {rc : Nat} {rw_ : Int → Int}, LZ X M k pl' rc rw_ → pl' i = pl i → Ct 198 23 172 [(1, 0), (0, (i : Int)), (0, ((1 : Nat) : Int))] M (fun r M' => r = (0, svN (pl i) 1 (trN k (dg (pl i)) ((1 : Nat) : Int))) ∧ ∃ (rc' : Nat) (rw' : Int → Int), LZ X M' k pl' rc' rw') := fun H' ep => by
      by_cases s0 : svN (pl i) 1 (trN k (dg (pl i)) ((1 : Nat) : Int)) = 0
      · exact (eo_divs0 H' i hi (pl i) ep 1 (by decide) (by decide) (by omega) (by omega) s0).imp (fun r_ M' h => ⟨by rw [s0]; exact h.1, _, _, h.2⟩)
      · exact (eo_divs1 H' i hi (pl i) ep 1 (by decide) (by decide) (by omega) (by omega) (by omega)).imp (fun r_ M' h => ⟨h.1, _, _, h.2⟩)
    refine wl_al hK rfl rfl ?_
    refine wl_il hK rfl rfl ?_
    refine wl_cv [(1, 0), (0, (i : Int))] hK rfl rfl rfl rfl (Or.inr ⟨_, _, _, rfl, by decide, by decide, rfl⟩) (Or.inl rfl) hc (eo_roots H i hi (pl i) rfl) (fun v1 M1 e1 H1 => (?_ : WL 24 533 [(1, -2), (1, 0), (0, f), (0, (qq k : Int)), (0, kk), (0, c), (0, (i : Int)), (0, d), (0, e), (0, s), x10, x11, x12, x13] [(0, v1)] M1 cc ss))
    have g1 : 0 ≤ v1 ∧ v1 < 65536 := by rw [e1]; exact sri
    refine wl_is [(1, -2), (1, 0), (0, f), (0, (qq k : Int)), (0, kk), (0, c), (0, (i : Int)), (0, d), (0, e), (0, s), (0, v1), x11, x12, x13] hK rfl rfl rfl ?_
    refine wl_al hK rfl rfl ?_
    refine wl_il hK rfl rfl ?_
    refine wl_cv [(1, 0), (0, (i : Int))] hK rfl rfl rfl rfl (Or.inr ⟨_, _, _, rfl, by decide, by decide, rfl⟩) (Or.inl rfl) hc (eo_kernel H1 i hi (pl i) rfl) (fun v2 M2 e2 H2 => (?_ : WL 24 537 [(1, -2), (1, 0), (0, f), (0, (qq k : Int)), (0, kk), (0, c), (0, (i : Int)), (0, d), (0, e), (0, s), (0, v1), x11, x12, x13] [(0, v2)] M2 cc ss))
    have g2 : 0 ≤ v2 ∧ v2 < 65536 := by rw [e2]; exact sk
    refine wl_is [(1, -2), (1, 0), (0, f), (0, (qq k : Int)), (0, kk), (0, c), (0, (i : Int)), (0, d), (0, e), (0, s), (0, v1), (0, v2), x12, x13] hK rfl rfl rfl ?_
    refine wl_al hK rfl rfl ?_
    refine wl_ic hK rfl ?_
    refine wl_cv [(1, 0), (0, 0)] hK rfl rfl rfl rfl (Or.inr ⟨_, _, _, rfl, by decide, by decide, rfl⟩) (Or.inr rfl) hc (eo_row H2 0 (by decide)) (fun v3 M3 e3 H3 => (?_ : WL 24 541 [(1, -2), (1, 0), (0, f), (0, (qq k : Int)), (0, kk), (0, c), (0, (i : Int)), (0, d), (0, e), (0, s), (0, v1), (0, v2), x12, x13] [(2, v3)] M3 cc ss))
    have g3 : v3 = bcw (dnT (pl i) z0 (qq k)) := e3.trans ((upr_ne (by decide)).trans upr_eq)
    refine wl_al hK rfl rfl ?_
    refine wl_ic hK rfl ?_
    refine wl_cv [(1, 0), (0, 1)] hK rfl rfl rfl rfl (Or.inr ⟨_, _, _, rfl, by decide, by decide, rfl⟩) (Or.inr rfl) hc (eo_row H3 1 (by decide)) (fun v4 M4 e4 H4 => (?_ : WL 24 544 [(1, -2), (1, 0), (0, f), (0, (qq k : Int)), (0, kk), (0, c), (0, (i : Int)), (0, d), (0, e), (0, s), (0, v1), (0, v2), x12, x13] [(2, v4), (2, v3)] M4 cc ss))
    have g4 : v4 = bcw (img (pl i) (qq k)) := e4.trans upr_eq
    refine wl_lb hK rfl rfl ?_
    show WL 24 545 [(1, -2), (1, 0), (0, f), (0, (qq k : Int)), (0, kk), (0, c), (0, (i : Int)), (0, d), (0, e), (0, s), (0, v1), (0, v2), x12, x13] [(2, (i64 v3 * i64 v4).toInt)] M4 cc ss
    have em : (i64 v3 * i64 v4).toInt = (qq k : Int) := i64_mulE (by rw [g3, g4]; exact hks) (by omega)
    rw [em]
    refine wl_il hK rfl rfl ?_
    refine wl_i2l hK rfl (by omega) (by omega) ?_
    refine wl_lcmp hK rfl ?_
    rw [show (lg_cmp (i64 (qq k : Int)) (i64 (qq k : Int))).toInt = 0 from lcmp_self _]
    refine wl_ne hK rfl (by omega) (by omega) (fun h5 => ?_) (fun h5 => ?_)
    · exfalso
      omega
    · refine wl_il hK rfl rfl ?_
      refine wl_ic hK rfl ?_
      refine wl_msk hK rfl (by omega) (by omega) (fun v6 e6 a6 b6 => (?_ : WL 24 552 [(1, -2), (1, 0), (0, f), (0, (qq k : Int)), (0, kk), (0, c), (0, (i : Int)), (0, d), (0, e), (0, s), (0, v1), (0, v2), x12, x13] [(0, v6)] M4 cc ss))
      have g6 : v6 = 1 := by rw [e6, e2]; exact ker_1 (pl i)
      refine wl_ic hK rfl ?_
      refine wl_eq2 hK rfl (by omega) (by omega) (by omega) (by omega) (fun h7 => ?_) (fun h7 => ?_)
      · refine wl_il hK rfl rfl ?_
        refine wl_ne hK rfl (by omega) (by omega) (fun h8 => ?_) (fun h8 => ?_)
        · refine wl_il hK rfl rfl ?_
          refine wl_ge hK rfl (by omega) (by omega) (fun h9 => ?_) (fun h9 => ?_)
          · refine wl_al hK rfl rfl ?_
            refine wl_il hK rfl rfl ?_
            refine wl_ic hK rfl ?_
            refine wl_cv [(1, 0), (0, (i : Int)), (0, 1)] hK rfl rfl rfl rfl (Or.inr ⟨_, _, _, rfl, by decide, by decide, rfl⟩) (Or.inl rfl) hc (hdv H4 rfl) (fun v10 M10 e10 H10 => (?_ : WL 24 575 [(1, -2), (1, 0), (0, f), (0, (qq k : Int)), (0, kk), (0, c), (0, (i : Int)), (0, d), (0, e), (0, s), (0, v1), (0, v2), x12, x13] [(0, v10)] M10 cc ss))
            obtain ⟨rc10, rw10, Hx10⟩ := H10
            refine wl_il hK rfl rfl ?_
            refine wl_ge hK rfl (by omega) (by omega) (fun h11 => ?_) (fun h11 => ?_)
            · refine wl_il hK rfl rfl ?_
              refine wl_ne hK rfl (by omega) (by omega) (fun h12 => ?_) (fun h12 => ?_)
              · refine wl_il hK rfl rfl ?_
                have gN := e1.trans N2
                subst gN
                refine wl_cv [(0, (N : Int))] hK rfl rfl rfl rfl (Or.inl rfl) (Or.inl rfl) hc (c_ones N1) (fun v13 M13 e13 H13 => (?_ : WL 24 585 [(1, -2), (1, 0), (0, f), (0, (qq k : Int)), (0, kk), (0, c), (0, (i : Int)), (0, d), (0, e), (0, s), (0, (N : Int)), (0, v2), x12, x13] [(0, v13), (0, v10)] M13 cc ss))
                subst M13
                have g13 := e13.trans hpc
                refine wl_eq2 hK rfl (by omega) (by omega) (by omega) (by omega) (fun h14 => ?_) (fun h14 => ?_)
                · exact next M10 _ _ _ _ _ _ _ Hx10 rfl rfl
                · exfalso
                  omega
              · exfalso
                omega
            · exfalso
              omega
          · exfalso
            omega
        · exfalso
          omega
      · exfalso
        omega
