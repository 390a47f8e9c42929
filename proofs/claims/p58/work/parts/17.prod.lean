/-! sums of NUMBERS; the product of polynomials -/
def sm {k : Nat} (h : Nat → El k) : Nat → El k
  | 0 => z0
  | n + 1 => ad (sm h n) (h n)
theorem sm_congr {k : Nat} {g h : Nat → El k} : ∀ {n : Nat}, (∀ i : Nat, i < n → g i = h i) → sm g n = sm h n
  | 0, _ => rfl
  | n + 1, e => by
    unfold sm
    rw [sm_congr (n := n) (fun i hi => e i (by omega)), e n (by omega)]
theorem sm_z {k : Nat} {h : Nat → El k} : ∀ {n : Nat}, (∀ i : Nat, i < n → h i = z0) → sm h n = z0
  | 0, _ => rfl
  | n + 1, e => by
    unfold sm
    rw [sm_z (n := n) (fun i hi => e i (by omega)), e n (by omega), ad_zero]
theorem ad4 {k : Nat} (a b c d : El k) : ad (ad a b) (ad c d) = ad (ad a c) (ad b d) := by
  rw [ad_assoc, ← ad_assoc b c d, ad_comm b c, ad_assoc c b d, ← ad_assoc a c]
theorem sm_ad {k : Nat} (g h : Nat → El k) : ∀ n : Nat, sm (fun i => ad (g i) (h i)) n = ad (sm g n) (sm h n)
  | 0 => by unfold sm; rw [ad_zero]
  | n + 1 => by
    unfold sm
    rw [sm_ad g h n, ad4]
theorem sm_ng {k : Nat} (h : Nat → El k) : ∀ n : Nat, sm (fun i => ng (h i)) n = ng (sm h n)
  | 0 => by unfold sm; rw [ng_z]
  | n + 1 => by
    unfold sm
    rw [sm_ng h n, ng_ad]
theorem ml_sm {k : Nat} (c : El k) (h : Nat → El k) : ∀ n : Nat, ml c (sm h n) = sm (fun i => ml c (h i)) n
  | 0 => by unfold sm; rw [ml_zero]
  | n + 1 => by
    unfold sm
    rw [ml_ad, ml_sm c h n]
theorem sm_ml {k : Nat} (c : El k) (h : Nat → El k) : ∀ n : Nat, ml (sm h n) c = sm (fun i => ml (h i) c) n
  | 0 => by unfold sm; rw [zero_ml]
  | n + 1 => by
    unfold sm
    rw [ad_ml, sm_ml c h n]
theorem sg_sm {k : Nat} (j : Nat) (h : Nat → El k) : ∀ n : Nat, sg j (sm h n) = sm (fun i => sg j (h i)) n
  | 0 => by unfold sm; rw [sg_z]
  | n + 1 => by
    unfold sm
    rw [sg_ad, sg_sm j h n]
theorem sm_more {k : Nat} {h : Nat → El k} {n : Nat} : ∀ {m : Nat}, n ≤ m → (∀ i : Nat, n ≤ i → i < m → h i = z0) → sm h m = sm h n
  | 0, hm, _ => by
    have : n = 0 := by omega
    rw [this]
  | m + 1, hm, e => by
    by_cases q : n = m + 1
    · rw [q]
    · have h1 : sm h (m + 1) = ad (sm h m) (h m) := rfl
      rw [h1, e m (by omega) (by omega), ad_zero]
      exact sm_more (by omega) (fun i hi hm => e i hi (by omega))
theorem sm_one {k : Nat} {h : Nat → El k} {n j : Nat} (hj : j < n) (e : ∀ i : Nat, i < n → i ≠ j → h i = z0) : sm h n = h j := by
  rw [sm_more (h := h) (n := j + 1) (by omega) (fun i h1 h2 => e i h2 (by omega))]
  show ad (sm h j) (h j) = h j
  rw [sm_z (fun i hi => e i (by omega) (by omega)), zero_ad]
theorem sm_tri {k : Nat} (F : Nat → Nat → El k) : ∀ n : Nat, sm (fun l => sm (fun i => F i (l - i)) (l + 1)) n = sm (fun i => sm (F i) (n - i)) n
  | 0 => rfl
  | n + 1 => by
    have h1 : sm (fun l => sm (fun i => F i (l - i)) (l + 1)) (n + 1) = ad (sm (fun l => sm (fun i => F i (l - i)) (l + 1)) n) (ad (sm (fun i => F i (n - i)) n) (F n (n - n))) := rfl
    have h2 : sm (fun i => sm (F i) (n + 1 - i)) (n + 1) = ad (sm (fun i => sm (F i) (n + 1 - i)) n) (sm (F n) (n + 1 - n)) := rfl
    have h3 : sm (fun i => sm (F i) (n + 1 - i)) n = sm (fun i => ad (sm (F i) (n - i)) (F i (n - i))) n := sm_congr fun i hi => by
      have e : n + 1 - i = (n - i) + 1 := by omega
      rw [e]
      rfl
    have h4 : sm (F n) (n + 1 - n) = F n (n - n) := by
      have e : n + 1 - n = 0 + 1 := by omega
      rw [e, Nat.sub_self]
      show ad z0 (F n 0) = _
      rw [zero_ad]
    rw [h1, h2, h3, h4, sm_ad, sm_tri F n, ad_assoc]
/-- the product -/
def mlp {k : Nat} (f g : Pl k) : Pl k := fun n => sm (fun i => ml (f i) (sg i (g (n - i)))) (n + 1)
theorem mlp_assoc {k : Nat} (f g h : Pl k) : mlp (mlp f g) h = mlp f (mlp g h) := by
  funext n
  show sm (fun l => ml (sm (fun i => ml (f i) (sg i (g (l - i)))) (l + 1)) (sg l (h (n - l)))) (n + 1) = sm (fun i => ml (f i) (sg i (sm (fun j => ml (g j) (sg j (h (n - i - j)))) (n - i + 1)))) (n + 1)
  have h1 : sm (fun l => ml (sm (fun i => ml (f i) (sg i (g (l - i)))) (l + 1)) (sg l (h (n - l)))) (n + 1) = sm (fun l => sm (fun i => (fun a b => ml (ml (f a) (sg a (g b))) (sg (a + b) (h (n - (a + b))))) i (l - i)) (l + 1)) (n + 1) := sm_congr fun l hl => by
    rw [sm_ml]
    exact sm_congr fun i hi => by
      show _ = ml (ml (f i) (sg i (g (l - i)))) (sg (i + (l - i)) (h (n - (i + (l - i)))))
      have e : i + (l - i) = l := by omega
      rw [e]
  refine Eq.trans (h1.trans (sm_tri (fun a b => ml (ml (f a) (sg a (g b))) (sg (a + b) (h (n - (a + b))))) (n + 1))) ?_
  exact sm_congr fun i hi => by
    rw [sg_sm, ml_sm]
    have e : n + 1 - i = n - i + 1 := by omega
    rw [e]
    exact sm_congr fun j hj => by
      show ml (ml (f i) (sg i (g j))) (sg (i + j) (h (n - (i + j)))) = _
      rw [sg_ml, ml_assoc, sg_sg]
      have e2 : n - (i + j) = n - i - j := by omega
      rw [e2]
theorem mlp_adp {k : Nat} (f g h : Pl k) : mlp f (adp g h) = adp (mlp f g) (mlp f h) := by
  funext n
  show sm (fun i => ml (f i) (sg i (ad (g (n - i)) (h (n - i))))) (n + 1) = ad (sm _ _) (sm _ _)
  rw [← sm_ad]
  exact sm_congr fun i hi => by rw [sg_ad, ml_ad]
theorem adp_mlp {k : Nat} (f g h : Pl k) : mlp (adp f g) h = adp (mlp f h) (mlp g h) := by
  funext n
  show sm (fun i => ml (ad (f i) (g i)) (sg i (h (n - i)))) (n + 1) = ad (sm _ _) (sm _ _)
  rw [← sm_ad]
  exact sm_congr fun i hi => by rw [ad_ml]
def ngp {k : Nat} (f : Pl k) : Pl k := fun j => ng (f j)
theorem sbp_eq {k : Nat} (f g : Pl k) : sbp f g = adp f (ngp g) := rfl
theorem mlp_ngp {k : Nat} (f g : Pl k) : mlp f (ngp g) = ngp (mlp f g) := by
  funext n
  show sm (fun i => ml (f i) (sg i (ng (g (n - i))))) (n + 1) = ng (sm _ _)
  rw [← sm_ng]
  exact sm_congr fun i hi => by rw [sg_ng, ml_ng]
theorem ngp_mlp {k : Nat} (f g : Pl k) : mlp (ngp f) g = ngp (mlp f g) := by
  funext n
  show sm (fun i => ml (ng (f i)) (sg i (g (n - i)))) (n + 1) = ng (sm _ _)
  rw [← sm_ng]
  exact sm_congr fun i hi => by rw [ng_ml]
theorem mlp_sbp {k : Nat} (f g h : Pl k) : mlp f (sbp g h) = sbp (mlp f g) (mlp f h) := by rw [sbp_eq, sbp_eq, mlp_adp, mlp_ngp]
theorem sbp_mlp {k : Nat} (f g h : Pl k) : mlp (sbp f g) h = sbp (mlp f h) (mlp g h) := by rw [sbp_eq, sbp_eq, adp_mlp, ngp_mlp]
theorem adp_comm {k : Nat} (f g : Pl k) : adp f g = adp g f := by funext n; exact ad_comm _ _
theorem adp_assoc {k : Nat} (f g h : Pl k) : adp (adp f g) h = adp f (adp g h) := by funext n; exact ad_assoc _ _ _
theorem adp_pz {k : Nat} (f : Pl k) : adp f pz = f := by funext n; exact ad_zero _
theorem pz_adp {k : Nat} (f : Pl k) : adp pz f = f := by funext n; exact zero_ad _
theorem adp_ngp {k : Nat} (f : Pl k) : adp f (ngp f) = pz := by funext n; exact ad_neg _
theorem sbp_self {k : Nat} (f : Pl k) : sbp f f = pz := by funext n; exact ad_neg _
theorem sbp_pz {k : Nat} (f : Pl k) : sbp f pz = f := by funext n; show ad (f n) (ng z0) = f n; rw [ng_z, ad_zero]
theorem adp_sbp {k : Nat} (f g : Pl k) : adp g (sbp f g) = f := by funext n; show ad (g n) (ad (f n) (ng (g n))) = f n; rw [ad_comm (f n), ← ad_assoc, ad_neg, zero_ad]
theorem sbp_adp {k : Nat} (f g : Pl k) : sbp (adp g f) g = f := by funext n; show ad (ad (g n) (f n)) (ng (g n)) = f n; rw [ad_comm (g n), ad_assoc, ad_neg, ad_zero]
theorem sbp_eq_pz {k : Nat} {f g : Pl k} (h : sbp f g = pz) : f = g := by rw [← adp_sbp f g, h, adp_pz]
theorem adp_cancel {k : Nat} {f g h : Pl k} (e : adp f g = adp f h) : g = h := by
  funext n
  exact ad_cancel (congrFun e n)
theorem pz_mlp {k : Nat} (f : Pl k) : mlp pz f = pz := by funext n; exact sm_z fun i _ => zero_ml _
theorem mlp_pz {k : Nat} (f : Pl k) : mlp f pz = pz := by funext n; exact sm_z fun i _ => by show ml (f i) (sg i z0) = z0; rw [sg_z, ml_zero]
/-- c t^j -/
def mono {k : Nat} (c : El k) (j : Nat) : Pl k := up1 pz j c
theorem mono_at {k : Nat} (c : El k) (j n : Nat) : mono c j n = if n = j then c else z0 := rfl
theorem mono_mlp {k : Nat} (c : El k) (j : Nat) (f : Pl k) (n : Nat) : mlp (mono c j) f n = if j ≤ n then ml c (sg j (f (n - j))) else z0 := by
  show sm (fun i => ml (mono c j i) (sg i (f (n - i)))) (n + 1) = _
  by_cases h : j ≤ n
  · rw [if_pos h, sm_one (j := j) (by omega) (fun i _ hi => by rw [mono_at, if_neg hi, zero_ml]), mono_at, if_pos rfl]
  · rw [if_neg h]
    exact sm_z fun i hi => by rw [mono_at, if_neg (by omega), zero_ml]
theorem mlp_mono {k : Nat} (c : El k) (j : Nat) (f : Pl k) (n : Nat) : mlp f (mono c j) n = if j ≤ n then ml (f (n - j)) (sg (n - j) c) else z0 := by
  show sm (fun i => ml (f i) (sg i (mono c j (n - i)))) (n + 1) = _
  by_cases h : j ≤ n
  · rw [if_pos h, sm_one (j := n - j) (by omega) (fun i h1 h2 => by rw [mono_at, if_neg (by omega), sg_z, ml_zero]), mono_at, if_pos (by omega)]
  · rw [if_neg h]
    exact sm_z fun i hi => by rw [mono_at, if_neg (by omega), sg_z, ml_zero]
def one {k : Nat} : Pl k := mono e1 0
theorem one_mlp {k : Nat} (f : Pl k) : mlp one f = f := by
  funext n
  show mlp (mono e1 0) f n = _
  rw [mono_mlp, if_pos (by omega), one_ml, sg_0]
  rfl
theorem mlp_one {k : Nat} (f : Pl k) : mlp f one = f := by
  funext n
  show mlp f (mono e1 0) n = _
  rw [mlp_mono, if_pos (by omega), sg_e, ml_one]
  rfl
theorem up1_mono {k : Nat} {f : Pl k} {j : Nat} (h : f j = z0) (c : El k) : up1 f j c = adp f (mono c j) := by
  funext n
  show up1 f j c n = ad (f n) (mono c j n)
  unfold up1
  rw [mono_at]
  by_cases e : n = j
  · subst e; rw [if_pos rfl, if_pos rfl, h, zero_ad]
  · rw [if_neg e, if_neg e, ad_zero]
/-- the product of the first so many rows -/
def rwp {k : Nat} (f g : Pl k) (i : Nat) : Pl k := fun n => if i ≤ n then ml (f i) (sg i (g (n - i))) else z0
def pmp {k : Nat} (f g : Pl k) (i j : Nat) : Pl k := fun n => ad (sm (fun l => rwp f g l n) i) (if n < i + j then rwp f g i n else z0)
theorem mlp_rwp {k : Nat} (f g : Pl k) (n m : Nat) (h : n < m) : mlp f g n = sm (fun l => rwp f g l n) m := by
  rw [sm_more (n := n + 1) (by omega) (fun i h1 h2 => by show rwp f g i n = z0; unfold rwp; rw [if_neg (by omega)])]
  exact sm_congr fun i hi => by unfold rwp; rw [if_pos (by omega)]
theorem pmp_00 {k : Nat} (f g : Pl k) : pmp f g 0 0 = pz := by
  funext n
  unfold pmp
  rw [if_neg (by omega), ad_zero]
  rfl
theorem pmp_step {k : Nat} (f g : Pl k) (i j : Nat) : up1 (pmp f g i j) (i + j) (ad (pmp f g i j (i + j)) (ml (f i) (sg i (g j)))) = pmp f g i (j + 1) := by
  funext n
  unfold up1
  by_cases e : n = i + j
  · subst e
    rw [if_pos rfl]
    unfold pmp
    rw [if_neg (by omega), if_pos (by omega), ad_zero]
    unfold rwp
    rw [if_pos (show i ≤ i + j by omega), Nat.add_sub_cancel_left]
  · rw [if_neg e]
    unfold pmp
    by_cases e2 : n < i + j
    · rw [if_pos e2, if_pos (by omega)]
    · rw [if_neg e2, if_neg (by omega)]
theorem pmp_row {k : Nat} (f g : Pl k) (i j : Nat) (h : ∀ n : Nat, j ≤ n → g n = z0) : pmp f g i j = pmp f g (i + 1) 0 := by
  funext n
  unfold pmp
  rw [show sm (fun l => rwp f g l n) (i + 1) = ad (sm (fun l => rwp f g l n) i) (rwp f g i n) from rfl]
  have h2 : (if n < i + 1 + 0 then rwp f g (i + 1) n else z0) = z0 := by
    split
    · unfold rwp; rw [if_neg (by omega)]
    · rfl
  rw [h2, ad_zero]
  congr 1
  by_cases e : n < i + j
  · rw [if_pos e]
  · rw [if_neg e]
    unfold rwp
    rw [if_pos (by omega), h _ (by omega), sg_z, ml_zero]
theorem pmp_end {k : Nat} (f g : Pl k) (i : Nat) (h : ∀ n : Nat, i ≤ n → f n = z0) : pmp f g i 0 = mlp f g := by
  funext n
  have h1 : (if n < i + 0 then rwp f g i n else z0) = z0 := by
    split
    · unfold rwp; rw [if_neg (by omega)]
    · rfl
  unfold pmp
  rw [h1, ad_zero]
  by_cases e : n < i
  · rw [mlp_rwp f g n i e]
  · rw [mlp_rwp f g n (n + 1) (by omega), sm_more (n := i) (m := n + 1) (by omega) (fun l h2 h3 => by show rwp f g l n = z0; unfold rwp; rw [h l h2, zero_ml]; split <;> rfl)]
-- degrees
theorem IsDg_pz {k : Nat} : IsDg (pz : Pl k) (-1) := ⟨by decide, fun _ _ => rfl, fun q => absurd q (by decide)⟩
theorem IsDg_mlp {k : Nat} {f g : Pl k} {a b : Nat} (hf : IsDg f (a : Int)) (hg : IsDg g (b : Int)) : IsDg (mlp f g) ((a + b : Nat) : Int) ∧ mlp f g (a + b) = ml (f a) (sg a (g b)) := by
  have ht : mlp f g (a + b) = ml (f a) (sg a (g b)) := by
    show sm _ _ = _
    rw [sm_one (j := a) (by omega) (fun i h1 h2 => by
      by_cases q : a < i
      · rw [hf.2.1 i (by omega), zero_ml]
      · rw [hg.2.1 (a + b - i) (by omega), sg_z, ml_zero]), Nat.add_sub_cancel_left]
  have fa : f a ≠ z0 := hf.2.2 (by omega)
  have gb : g b ≠ z0 := hg.2.2 (by omega)
  refine ⟨⟨by omega, fun j hj => ?_, fun _ => ?_⟩, ht⟩
  · exact sm_z fun i hi => by
      by_cases q : a < i
      · rw [hf.2.1 i (by omega), zero_ml]
      · rw [hg.2.1 (j - i) (by omega), sg_z, ml_zero]
  · show mlp f g (a + b) ≠ z0
    rw [ht]
    intro q
    rcases ml_eq_zero q with q | q
    · exact fa q
    · exact sg_ne gb q
