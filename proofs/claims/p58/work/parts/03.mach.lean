/-- a value: (0, x) a whole number; (1, p) a reference: -1 null, -2 the script, from 0 on a cell of the layout; (2, x) a long; (3, _) nothing known; (4, _) no answer; (9, _) thrown -/
abbrev AV := Nat × Int
abbrev Mem := Int → Int → Int
/-- a cell: kind (0 an object, 1 int[], 2 long[], 3 byte[], 4 Poly[]), class or length, final references -/
abbrev Cel := Nat × Nat × List Int
/-- the layout, the memory, whether nothing else was made, cells and slots made by this activation -/
abbrev Hp := List Cel × Mem × Bool × Nat × Nat
abbrev Cf := Nat × List AV × List AV × Hp
def i32 (x : Int) : Int32 := Int32.ofInt x
def i64 (x : Int) : Int64 := Int64.ofInt x
def up (M : Mem) (a k v : Int) : Mem := fun x y => if x = a ∧ y = k then v else M x y
def ftag (ci f : Nat) : Nat := (FTs.getD ci []).getD f 0
/-- a new cell's numbers -/
def zr (M : Mem) (a : Int) (ci : Nat) : Mem := fun x y => if x = a then (if ftag ci y.toNat = 2 then -1 else 0) else M x y
def mZ : List Nat := [0, 0, 0, 0, 0, 1, 0, 1, 1, 1, 1, 1, 2, 2, 1, 1, 1, 1, 1, 1, 1, 0, 0, 0, 0, 1, 1, 0, 1, 1, 2, 2, 1, 0, 0, 0, 0, 0, 1, 0, 0, 0, 0, 0, 0, 0, 0, 0, 0, 1, 0, 0, 2, 2, 0, 0, 0, 0, 0, 0, 1, 1, 1, 0, 2, 1, 2, 1, 1, 1, 1, 1, 1, 1, 0, 0, 1, 1, 2, 2, 1, 4, 4, 1, 0, 0, 2, 0, 0, 1, 0, 2, 0, 1, 0, 1, 1, 1, 1, 2, 0, 0, 0, 1, 0, 2, 1, 0, 0, 0, 2, 2, 1, 1, 2, 1, 0, 1, 2, 2, 1, 1, 0, 1, 4, 1, 1, 1, 1, 2, 1, 1, 0, 0, 1, 1, 2, 1, 1, 1, 1, 1, 1, 1, 1, 1, 1, 2, 1, 1, 1, 1, 1, 1, 1, 1, 1, 1, 1, 1, 1, 1, 1, 1, 1, 1, 1, 1, 2, 1, 1, 1, 1, 1, 1, 1, 1, 1, 1, 1, 1, 1, 1, 1, 1, 1, 1, 3, 1, 1, 1, 0, 0, 0, 0, 0, 0, 0, 0, 0, 0, 0, 0, 0, 0, 0, 0, 0, 0, 0, 0, 0, 0, 0, 0, 0, 0, 0, 0, 0, 0, 0, 0, 0, 0, 0, 0, 0, 0, 0, 0, 0, 0, 0, 0, 0, 0, 0, 0, 0, 0, 0, 0, 0, 0, 0, 0, 0, 0, 0, 0, 0, 0, 0, 0, 0, 0, 0, 0, 0, 0, 0, 0, 0, 0, 0, 0, 0, 0, 0, 0, 0, 0, 0, 0, 0, 0, 0, 0, 0, 0, 0, 0, 0, 0, 0, 0, 0, 0, 0, 0, 0, 0, 0, 0, 0, 0, 0, 0, 0, 0, 0, 0, 0, 1, 1, 1, 2]
def zOf (t : Nat) : Nat := mZ.getD t 0
def rkP (z : Nat) (r : Option FieldType) : Bool := match z, r with
  | 0, none => true | 1, some .int => true | 2, some .boolean => true | 3, some .long => true | 4, some (.object _) => true | 4, some (.array _) => true | _, _ => false
theorem rk_all : (List.range 308).all (fun t => rkP (zOf t) (rOf t)) = true := by decide +kernel
theorem rk_ok (t : Nat) (h : t < 308) : rkP (zOf t) (rOf t) = true := List.all_eq_true.mp rk_all t (List.mem_range.mpr h)
theorem init_all : (List.range 307).all (fun t => (cOf t).1 == 0 || (yOf t).name == "<init>") = true := by decide +kernel
theorem init_ok (t : Nat) (h : t < 307) (h2 : (cOf t).1 ≠ 0) : (yOf t).name = "<init>" := by
  have := List.all_eq_true.mp init_all t (List.mem_range.mpr h)
  simp only [Bool.or_eq_true, beq_iff_eq] at this
  exact this.resolve_left h2
-- single steps
def oLd (g k i : Nat) (L st : List AV) (h : Hp) : Option Cf := match L[k]? with
  | some v => if v.1 = g then some (i + 1, L, v :: st, h) else none
  | none => none
def oSt (g k i : Nat) (L st : List AV) (h : Hp) : Option Cf := match st with
  | v :: r => if v.1 = g ∧ k < L.length ∧ (k = 0 ∨ (L.getD (k - 1) (3, 0)).1 ≠ 2) then some (i + 1, L.set k v, r, h) else none
  | _ => none
def oSl (k i : Nat) (L st : List AV) (h : Hp) : Option Cf := match st with
  | v :: r => if v.1 = 2 ∧ k + 1 < L.length ∧ (k = 0 ∨ (L.getD (k - 1) (3, 0)).1 ≠ 2) then some (i + 1, (L.set k v).set (k + 1) (3, 0), r, h) else none
  | _ => none
def oInc (k : Nat) (d : Int) (i : Nat) (L st : List AV) (h : Hp) : Option Cf := match L[k]? with
  | some (0, x) => if k = 0 ∨ (L.getD (k - 1) (3, 0)).1 ≠ 2 then some (i + 1, L.set k (0, (i32 x + i32 d).toInt), st, h) else none
  | _ => none
def bin (op : Nat) (x y : Int32) : Option Int32 :=
  if op = 10 then some (x + y) else if op = 11 then some (x - y) else if op = 12 then some (x * y) else if op = 13 then (if y = 0 then none else some (x / y)) else
  if op = 14 then (if y = 0 then none else some (x - x / y * y)) else if op = 16 then some (x &&& y) else if op = 17 then some (x ||| y) else if op = 18 then some (x ^^^ y) else
  if op = 19 then some (x <<< (y &&& 31)) else if op = 20 then some (x >>> (y &&& 31)) else if op = 21 then some (x.toUInt32 >>> (y.toUInt32 &&& Int32.toUInt32 31)).toInt32 else none
def oBin (op i : Nat) (L st : List AV) (h : Hp) : Option Cf := match st with
  | (0, y) :: (0, x) :: r => match bin op (i32 x) (i32 y) with
    | some z => some (i + 1, L, (0, z.toInt) :: r, h)
    | none => none
  | _ => none
def oUn (op i : Nat) (L st : List AV) (h : Hp) : Option Cf := match st with
  | (0, x) :: r => if op = 15 then some (i + 1, L, (0, (-(i32 x)).toInt) :: r, h) else if op = 22 then some (i + 1, L, (2, (i32 x).toInt64.toInt) :: r, h) else
      if op = 23 then some (i + 1, L, (0, (i32 x).toInt8.toInt32.toInt) :: r, h) else none
  | _ => none
def oLcmp (i : Nat) (L st : List AV) (h : Hp) : Option Cf := match st with
  | (2, y) :: (2, x) :: r => some (i + 1, L, (0, (lg_cmp (i64 x) (i64 y)).toInt) :: r, h)
  | _ => none
def cat1 (v : AV) : Bool := decide (v.1 ≠ 2)
def oDup (op i : Nat) (L st : List AV) (h : Hp) : Option Cf := match st with
  | v :: r => if v.1 = 2 then none else if op = 25 then some (i + 1, L, v :: v :: r, h) else if op = 26 then some (i + 1, L, r, h) else
      match r with
      | w :: r => if w.1 = 2 then none else if op = 27 then some (i + 1, L, v :: w :: v :: r, h) else if op = 28 then some (i + 1, L, v :: w :: v :: w :: r, h) else none
      | _ => none
  | _ => none
/-- a comparison -/
def cnd (a : Int) (x y : Int32) : Bool :=
  if a = 0 then decide (x = y) else if a = 1 then decide (¬ x = y) else if a = 2 then decide (x < y) else if a = 3 then decide (y ≤ x) else if a = 4 then decide (y < x) else decide (x ≤ y)
def oIf (a : Int) (c i : Nat) (L st : List AV) (h : Hp) : Option Cf := match st with
  | (0, x) :: r => some (if cnd a (i32 x) 0 then c else i + 1, L, r, h)
  | _ => none
def oIf2 (a : Int) (c i : Nat) (L st : List AV) (h : Hp) : Option Cf := match st with
  | (0, y) :: (0, x) :: r => some (if cnd a (i32 x) (i32 y) then c else i + 1, L, r, h)
  | _ => none
def oNull (op c i : Nat) (L st : List AV) (h : Hp) : Option Cf := match st with
  | (1, p) :: r => some (if decide (p = -1) = decide (op = 32) then c else i + 1, L, r, h)
  | _ => none
def oTab (c : Nat) (L st : List AV) (h : Hp) : Option Cf := match st with
  | (0, x) :: r => match SWt[c]? with
    | some (_, lo, hi, _, j, js) => some (if (i32 x).toInt < lo ∨ hi < (i32 x).toInt then j else js.getD ((i32 x).toInt - lo).toNat 0, L, r, h)
    | none => none
  | _ => none
def lku (x : Int) (d : Nat) : List (Int × Nat) → Nat
  | [] => d
  | q :: r => if x = q.1 then q.2 else lku x d r
def oLook (c : Nat) (L st : List AV) (h : Hp) : Option Cf := match st with
  | (0, x) :: r => match SWl[c]? with
    | some (_, _, j, js) => some (lku (i32 x).toInt j js, L, r, h)
    | none => none
  | _ => none
def fv (ci f : Nat) (rs : List Int) (M : Mem) (p : Int) : AV := if ftag ci f = 0 then (0, M p f) else if ftag ci f = 1 then (1, rs.getD f (-1)) else (1, M p f)
def oGet (ci f i : Nat) (L st : List AV) (h : Hp) : Option Cf := match st with
  | (1, p) :: r => if p < 0 then none else match h.1[p.toNat]? with
    | some (0, cj, rs) => if cj = ci then some (i + 1, L, fv ci f rs h.2.1 p :: r, h) else none
    | _ => none
  | _ => none
def oPut (t ci f i : Nat) (L st : List AV) (h : Hp) : Option Cf := match st with
  | v :: (1, p) :: r => if p < 0 then none else match h.1[p.toNat]? with
    | some (0, cj, rs) => if cj = ci then
        (if ftag ci f = 1 then (if v.1 = 1 ∧ (cOf t).1 ≠ 0 ∧ t < 307 ∧ kOf t = ci ∧ f < rs.length then some (i + 1, L, r, (h.1.set p.toNat (0, ci, rs.set f v.2), h.2)) else none)
         else if v.1 = (if ftag ci f = 0 then 0 else 1) then some (i + 1, L, r, (h.1, up h.2.1 p f v.2, h.2.2)) else none) else none
    | _ => none
  | _ => none
def oAlen (i : Nat) (L st : List AV) (h : Hp) : Option Cf := match st with
  | (1, p) :: r => if p = -2 then some (i + 1, L, (0, h.2.1 (-2) (-1)) :: r, h) else if p < 0 then none else match h.1[p.toNat]? with
    | some (k, n, _) => if k = 0 ∨ 4 < k then none else some (i + 1, L, (0, (n : Int)) :: r, h)
    | _ => none
  | _ => none
/-- an element is read: g the kind of row -/
def oAld (g i : Nat) (L st : List AV) (h : Hp) : Option Cf := match st with
  | (0, j) :: (1, p) :: r => if p = -2 then (if g = 1 ∧ 0 ≤ j ∧ j < h.2.1 (-2) (-1) then some (i + 1, L, (0, h.2.1 (-2) j) :: r, h) else none) else if p < 0 then none else match h.1[p.toNat]? with
    | some (k, n, rs) => if k = g ∧ 0 ≤ j ∧ j < n then (if g = 4 then some (i + 1, L, (1, rs.getD j.toNat (-1)) :: r, h) else some (i + 1, L, (if g = 2 then 2 else 0, h.2.1 p j) :: r, h)) else none
    | _ => none
  | _ => none
def isPolyC (S : List Cel) (x : Int) : Bool := match S[x.toNat]? with
  | some (0, 6, _) => true
  | _ => false
def oAst (g i : Nat) (L st : List AV) (h : Hp) : Option Cf := match st with
  | v :: (0, j) :: (1, p) :: r => if p < 0 then none else match h.1[p.toNat]? with
    | some (k, n, rs) => if k = g ∧ 0 ≤ j ∧ j < n then
        (if g = 4 then (if v.1 = 1 ∧ 0 ≤ v.2 ∧ isPolyC h.1 v.2 = true ∧ j.toNat < rs.length then some (i + 1, L, r, (h.1.set p.toNat (4, n, rs.set j.toNat v.2), h.2)) else none)
         else if v.1 = (if g = 2 then 2 else 0) then some (i + 1, L, r, (h.1, up h.2.1 p j (if g = 3 then (i32 v.2).toInt8.toInt32.toInt else v.2), h.2.2)) else none) else none
    | _ => none
  | _ => none
def room (t c s : Nat) (h : Hp) : Bool := decide (h.2.2.2.1 + c ≤ (cOf t).1 ∧ h.2.2.2.2 + s ≤ (cOf t).2)
def oNew (t ci i : Nat) (L st : List AV) (h : Hp) : Option Cf := match h with
  | (S, M, g, c, s) => if g = true ∧ room t 1 (cZ ci) h = true then some (i + 1, L, (1, (S.length : Int)) :: st, (S ++ [(0, ci, List.replicate (cZ ci) (-1))], zr M S.length ci, g, c + 1, s + cZ ci)) else none
def oNewa (t k i : Nat) (L st : List AV) (h : Hp) : Option Cf := match st, h with
  | (0, n) :: r, (S, M, g, c, s) => if g = true ∧ 0 ≤ n ∧ n ≤ 65536 ∧ room t 1 n.toNat h = true then
      some (i + 1, L, (1, (S.length : Int)) :: r, (S ++ [(k, n.toNat, if k = 4 then List.replicate n.toNat (-1) else [])], zr M S.length 99, g, c + 1, s + n.toNat)) else none
  | _, _ => none
def oObj (d i : Nat) (L st : List AV) (h : Hp) : Option Cf := match st with
  | (1, p) :: r => if 0 ≤ p ∧ 1 ≤ d ∧ r.length ≤ 4 then some (i + 1, L, r, h) else none
  | _ => none
def oLb (op i : Nat) (L st : List AV) (h : Hp) : Option Cf := match st with
  | (2, y) :: (2, x) :: r => some (i + 1, L, (2, (if op = 37 then i64 x + i64 y else if op = 38 then i64 x * i64 y else i64 x &&& i64 y).toInt) :: r, h)
  | _ => none
def stp (d t : Nat) (op : Nat) (a b : Int) (c : Nat) (i : Nat) (L st : List AV) (h : Hp) : Option Cf :=
  if op ≤ 2 then oLd op a.toNat i L st h else
  if op ≤ 4 then oSt (op - 3) a.toNat i L st h else
  if op = 5 then oSl a.toNat i L st h else
  if op = 6 then oInc a.toNat b i L st h else
  if op = 7 ∨ op = 63 then some (i + 1, L, (0, a) :: st, h) else
  if op = 8 ∨ op = 29 then some (i + 1, L, (2, a) :: st, h) else
  if op = 9 then some (i + 1, L, (1, -1) :: st, h) else
  if op = 15 ∨ op = 22 ∨ op = 23 then oUn op i L st h else
  if op ≤ 21 then oBin op i L st h else
  if op = 24 then oLcmp i L st h else
  if op ≤ 28 then oDup op i L st h else
  if op = 30 then oIf a c i L st h else
  if op = 31 then oIf2 a c i L st h else
  if op ≤ 33 then oNull op c i L st h else
  if op = 34 then some (c, L, st, h) else
  if op = 35 then oTab c L st h else
  if op = 36 then oLook c L st h else
  if op = 37 ∨ op = 38 ∨ op = 39 then oLb op i L st h else
  if op = 40 then oGet a.toNat b.toNat i L st h else
  if op = 41 then oPut t a.toNat b.toNat i L st h else
  if op = 42 then oAlen i L st h else
  if op = 43 then oAld 1 i L st h else
  if op = 44 then oAst 1 i L st h else
  if op = 45 then oAld 2 i L st h else
  if op = 46 then oAst 2 i L st h else
  if op = 47 then oAld 3 i L st h else
  if op = 48 then oAst 3 i L st h else
  if op = 49 then oAld 4 i L st h else
  if op = 50 then oAst 4 i L st h else
  if op = 51 then oNew t a.toNat i L st h else
  if op = 52 then oNewa t (if a = 10 then 1 else if a = 11 then 2 else 3) i L st h else
  if op = 53 then oNewa t 4 i L st h else
  if op = 59 then oObj d i L st h else none
/-- the end of a method -/
def spent (t : Nat) (h : Hp) : Bool := decide ((h.2.2.2.1 = (cOf t).1 ∧ h.2.2.2.2 = (cOf t).2) ∨ (t = 307 ∧ h.2.2.2.1 ≤ (cOf t).1 ∧ h.2.2.2.2 ≤ (cOf t).2))
def fin (t op : Nat) (st : List AV) (h : Hp) : Option (AV × Hp) :=
  if op = 56 then (if st = [] ∧ zOf t = 0 ∧ spent t h = true then some ((4, 0), h) else none) else
  if op = 60 then (if st = [] then some ((9, 0), h) else none) else
  match st with
  | [v] => if spent t h = false then none else
      if op = 55 then (if v.1 = 0 ∧ (zOf t = 1 ∨ (zOf t = 2 ∧ (v.2 = 0 ∨ v.2 = 1))) then some (v, h) else none) else
      if op = 57 then (if v.1 = 1 ∧ zOf t = 4 then some (v, h) else none) else
      if op = 58 then (if v.1 = 2 ∧ zOf t = 3 then some (v, h) else none) else none
  | _ => none
def isEnd (op : Nat) : Bool := decide (55 ≤ op ∧ op ≤ 58 ∨ op = 60)
def spread (args : List AV) : List AV := args.flatMap fun v => if v.1 = 2 then [v, (3, 0)] else [v]
def entL (u : Nat) (args : List AV) : List AV := spread args ++ List.replicate (lOf u - (spread args).length) (3, 0)
def nArg (u : Nat) : Nat := aOf u + (if sOf u = 1 then 0 else 1)
def clsAt (S : List Cel) (p : Int) (ci : Nat) : Bool := match S[p.toNat]? with
  | some (0, cj, _) => decide (cj = ci)
  | _ => false
def recvOk (u : Nat) (args : List AV) (S : List Cel) : Bool := if sOf u = 1 then true else match args with
  | (1, p) :: _ => decide (0 ≤ p) && clsAt S p (kOf u)
  | _ => false
def catS (st : List AV) : Nat := (st.map fun v => if v.1 = 2 then 2 else 1).sum
/-- whether u may be called here -/
def calls (d t u : Nat) (st : List AV) (h : Hp) : Bool :=
  decide (1 ≤ d ∧ nArg u ≤ st.length ∧ catS (st.drop (nArg u)) ≤ 8 ∧ (spread ((st.take (nArg u)).reverse)).length ≤ lOf u) && recvOk u ((st.take (nArg u)).reverse) h.1 &&
    room t (cOf u).1 (cOf u).2 h && (decide ((cOf u).1 = 0) || h.2.2.1)
def pushR (v : AV) (st : List AV) : List AV := if v.1 = 4 then st else v :: st
def joinH (u : Nat) (h h' : Hp) : Hp := (h'.1, h'.2.1, h.2.2.1 && h'.2.2.1, h.2.2.2.1 + (cOf u).1, h.2.2.2.2 + (cOf u).2)
/-- cells and slots of what one call of numbers makes, and what it leaves -/
def xC : Nat := 14
def xS : Nat := 80
/-- the digits of a number below 100 -/
def dgs (v : Nat) : List Nat := if v < 10 then [48 + v] else [48 + v / 10, 48 + v % 10]
/-- the numbers that numbers(c, q) tells -/
def vI (c q : Int) (k : Nat) : Int32 := (fun x : Int32 => x - x / i32 q * i32 q) (((i32 c).toUInt32 >>> ((nI (4 + 4 * k)).toUInt32 &&& Int32.toUInt32 31)).toInt32 &&& 15)
def vN (c q : Int) (k : Nat) : Nat := (vI c q k).toInt.toNat
def tnum (c : Int) : Nat := (1 + (i32 c &&& 3)).toInt.toNat
def tl (c q : Int) : Nat → List Nat
  | 0 => []
  | k + 1 => (tl c q k ++ (if 0 < k then [44] else [])) ++ dgs (vN c q k)
def txt (c q : Int) : List Nat := tl c q (tnum c)
/-- four letters in one number -/
def wd (l : List Nat) (j : Nat) : Int := ((l.getD (4 * j) 0 * 16777216 + l.getD (4 * j + 1) 0 * 65536 + l.getD (4 * j + 2) 0 * 256 + l.getD (4 * j + 3) 0 : Nat) : Int)
/-- what say(o, text) calls: sign (135), then end (136) -/
def saysF (l : List Nat) (w : Nat) : Nat → List (Nat × Int)
  | 0 => [(136, (l.length : Int))]
  | r + 1 => (135, wd l (w - (r + 1))) :: saysF l w r
def says (l : List Nat) : List (Nat × Int) := saysF l ((l.length + 3) / 4) ((l.length + 3) / 4)
def sayL (f : Nat → Nat → Cf → Option (AV × Hp)) (d : Nat) (o : AV) : List (Nat × Int) → List Cel × Mem → Option (List Cel × Mem)
  | [], m => some m
  | w :: ws, m => match f d w.1 (0, entL w.1 [o, (0, w.2)], [], (m.1, m.2, false, 0, 0)) with
    | none => none
    | some (v, h') => if v.1 = 9 ∨ clsAt m.1 o.2 11 = false ∨ h'.1 ≠ m.1 then none else sayL f d o ws (h'.1, h'.2.1)
def primE (d t : Nat) (st : List AV) (h : Hp) : Bool := decide (20 ≤ d ∧ st.length ≤ 3) && room t xC xS h && decide ((st.take 3).map (fun v => v.1) = [0, 0, 1]) && decide (0 ≤ (st.getD 2 (3, 0)).2) && decide (1 ≤ (st.getD 0 (3, 0)).2 ∧ (st.getD 0 (3, 0)).2 ≤ 16)
noncomputable def run : Nat → Nat → Nat → Cf → Option (AV × Hp)
  | 0, _, _, _ => none
  | n + 1, d, t, (i, L, st, h) => match (cd t)[i]? with
    | none => none
    | some (_, _, op, a, b, c) =>
      if isEnd op = true then fin t op st h else
      if op = 54 then
        (if calls d t a.toNat st h = true then
          match run n (d - 1) a.toNat (0, entL a.toNat ((st.take (nArg a.toNat)).reverse), [], (h.1, h.2.1, h.2.2.1, 0, 0)) with
          | none => none
          | some (v, h') => if v.1 = 9 then none else run n d t (i + 1, L, pushR v (st.drop (nArg a.toNat)), joinH a.toNat h h')
        else none) else
      if op = 61 then
        (if primE d t st h = true then
          match sayL (fun d t cf => run n d t cf) (d - 2) (st.getD 2 (3, 0)) (says (txt (st.getD 1 (3, 0)).2 (st.getD 0 (3, 0)).2)) (h.1, h.2.1) with
          | none => none
          | some m => run n d t (i + 2, L, st.drop 3, (m.1, m.2, false, h.2.2.2.1 + xC, h.2.2.2.2 + xS))
        else none) else
      match stp d t op a b c i L st h with
      | none => none
      | some cf => run n d t cf
def S0 : List Cel := [(0, 11, [1, 7, 18, 45, 52, 88, 92, 136, 139, 140, 144, -1, 145, 147]), (0, 3, [-1, -1, -1, -1, 2, 3, 4, 5, 6]), (1, 256, []), (1, 256, []), (1, 64, []), (1, 16, []), (1, 16, []), (0, 7, [1, 8, 10, 12, 14, 16]), (0, 6, [9, -1]), (1, 17, []), (0, 6, [11, -1]), (1, 17, []), (0, 6, [13, -1]), (1, 17, []), (0, 6, [15, -1]), (1, 17, []), (0, 6, [17, -1]), (1, 17, []), (0, 2, [7, -1, -1, -1, 40, 42, 44]), (0, 5, [20, 22, 24]), (0, 6, [21, -1]), (1, 17, []), (0, 6, [23, -1]), (1, 17, []), (0, 6, [25, -1]), (1, 17, []), (0, 5, [27, 29, 31]), (0, 6, [28, -1]), (1, 17, []), (0, 6, [30, -1]), (1, 17, []), (0, 6, [32, -1]), (1, 17, []), (0, 5, [34, 36, 38]), (0, 6, [35, -1]), (1, 17, []), (0, 6, [37, -1]), (1, 17, []), (0, 6, [39, -1]), (1, 17, []), (0, 6, [41, -1]), (1, 17, []), (0, 6, [43, -1]), (1, 17, []), (1, 20, []), (0, 10, [1, 7, 46, 48, 50]), (0, 6, [47, -1]), (1, 17, []), (0, 6, [49, -1]), (1, 17, []), (0, 6, [51, -1]), (1, 17, []), (0, 1, [1, 7, 53, 55, 57, 59, 61, 62, 63, -1]), (0, 6, [54, -1]), (1, 17, []), (0, 6, [56, -1]), (1, 17, []), (0, 6, [58, -1]), (1, 17, []), (0, 6, [60, -1]), (1, 17, []), (4, 4, [64, 70, 76, 82]), (4, 4, [66, 72, 78, 84]), (4, 4, [68, 74, 80, 86]), (0, 6, [65, -1]), (1, 17, []), (0, 6, [67, -1]), (1, 17, []), (0, 6, [69, -1]), (1, 17, []), (0, 6, [71, -1]), (1, 17, []), (0, 6, [73, -1]), (1, 17, []), (0, 6, [75, -1]), (1, 17, []), (0, 6, [77, -1]), (1, 17, []), (0, 6, [79, -1]), (1, 17, []), (0, 6, [81, -1]), (1, 17, []), (0, 6, [83, -1]), (1, 17, []), (0, 6, [85, -1]), (1, 17, []), (0, 6, [87, -1]), (1, 17, []), (0, 8, [1, 89, 90, 91, -1, -1]), (1, 544, []), (1, 289, []), (1, 17, []), (0, 4, [1, 7, 88, 93, 95, 97, 99, 100, 101, 102, -1, -1]), (0, 6, [94, -1]), (1, 17, []), (0, 6, [96, -1]), (1, 17, []), (0, 6, [98, -1]), (1, 17, []), (4, 16, [104, 106, 108, 110, 112, 114, 116, 118, 120, 122, 124, 126, 128, 130, 132, 134]), (1, 16, []), (1, 256, []), (0, 6, [103, -1]), (1, 17, []), (0, 6, [105, -1]), (1, 17, []), (0, 6, [107, -1]), (1, 17, []), (0, 6, [109, -1]), (1, 17, []), (0, 6, [111, -1]), (1, 17, []), (0, 6, [113, -1]), (1, 17, []), (0, 6, [115, -1]), (1, 17, []), (0, 6, [117, -1]), (1, 17, []), (0, 6, [119, -1]), (1, 17, []), (0, 6, [121, -1]), (1, 17, []), (0, 6, [123, -1]), (1, 17, []), (0, 6, [125, -1]), (1, 17, []), (0, 6, [127, -1]), (1, 17, []), (0, 6, [129, -1]), (1, 17, []), (0, 6, [131, -1]), (1, 17, []), (0, 6, [133, -1]), (1, 17, []), (0, 6, [135, -1]), (1, 17, []), (0, 0, [1, 7, 88, 137]), (0, 6, [138, -1]), (1, 17, []), (4, 6, [149, 151, 153, 155, 157, 159]), (0, 9, [141, 142, 143, -1, -1, -1, -1]), (1, 40, []), (1, 6, []), (1, 6, []), (2, 40, []), (0, 6, [146, -1]), (1, 17, []), (0, 6, [148, -1]), (1, 17, []), (0, 6, [150, -1]), (1, 17, []), (0, 6, [152, -1]), (1, 17, []), (0, 6, [154, -1]), (1, 17, []), (0, 6, [156, -1]), (1, 17, []), (0, 6, [158, -1]), (1, 17, []), (0, 6, [160, -1]), (1, 17, [])]
