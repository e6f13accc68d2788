/-! events: what a text that is read to its end asks to be done, apart from both programs -/
/-- tag, x, y; distances of a jump in deeds, in orders, in words -/
abbrev EV : Type := Int32 × Int32 × Int32 × Int × Int × Int
def evx (t x y : Int32) : EV := (t, x, y, 0, 0, 0)
/-- how many deeds, orders, words -/
def ldE (q : EV) : Nat := if q.1 = 25 then 0 else 1
def loE (q : EV) : Nat := if q.1 = 0 ∨ (q.1 = 4 ∧ q.2.2.1 = 0) ∨ q.1 = 9 then 0 else 1
def lwE (q : EV) : Nat := if q.1 = 25 then 0 else if q.1 = 21 then (if q.2.2.2.1 = 0 then 1 else 2) else if q.1 = 0 then 9 + 2 * q.2.2.1.toNatClampNeg else (dsz q.1 q.2.1).toNatClampNeg
def ldL (a : List EV) : Nat := (a.map ldE).sum
def loL (a : List EV) : Nat := (a.map loE).sum
def lwL (a : List EV) : Nat := (a.map lwE).sum
theorem ldL_app (a b : List EV) : ldL (a ++ b) = ldL a + ldL b := by unfold ldL; rw [List.map_append, List.sum_append]
theorem loL_app (a b : List EV) : loL (a ++ b) = loL a + loL b := by unfold loL; rw [List.map_append, List.sum_append]
theorem lwL_app (a b : List EV) : lwL (a ++ b) = lwL a + lwL b := by unfold lwL; rw [List.map_append, List.sum_append]
theorem ldL_nil : ldL [] = 0 := rfl
theorem ldL_cons (q : EV) (a : List EV) : ldL (q :: a) = ldE q + ldL a := by unfold ldL; rw [List.map_cons, List.sum_cons]
theorem loL_cons (q : EV) (a : List EV) : loL (q :: a) = loE q + loL a := by unfold loL; rw [List.map_cons, List.sum_cons]
theorem lwL_cons (q : EV) (a : List EV) : lwL (q :: a) = lwE q + lwL a := by unfold lwL; rw [List.map_cons, List.sum_cons]
/-- a jump over b, forwards; back to the beginning of b -/
def fwE (t y : Int32) (b : List EV) : EV := (t, 0, y, 1 + ldL b, 1 + loL b, (dsz t 0).toInt + lwL b)
def bwE (t y : Int32) (b : List EV) : EV := (t, 0, y, -(ldL b : Int), -(loL b : Int), -(lwL b : Int))
/-- break and continue, once both places are known: distances from the list's beginning -/
abbrev D3 : Type := Int × Int × Int
def d3s (d : D3) (q : EV) : D3 := (d.1 - ldE q, d.2.1 - loE q, d.2.2 - lwE q)
def rsv (B C : D3) : List EV → List EV
  | [] => []
  | q :: l => (if q.1 = 30 then (19, 0, 0, B.1, B.2.1, B.2.2) else if q.1 = 31 then (19, 0, 0, C.1, C.2.1, C.2.2) else q) :: rsv (d3s B q) (d3s C q) l
/-- return: where a function ends -/
def rsr (R : D3) : List EV → List EV
  | [] => []
  | q :: l => (if q.1 = 32 then (33, 0, 0, R.1, R.2.1, R.2.2) else q) :: rsr (d3s R q) l
def d3p (a : List EV) : D3 := (ldL a, loL a, lwL a)
def d3n (a : List EV) : D3 := (-(ldL a : Int), -(loL a : Int), -(lwL a : Int))
/-! expressions -/
abbrev EvE : Type := Bool → PE → List Int32 → Int32 → Int32 → Option (List EV × Int32)
abbrev EvO : Type := Bool → PE → List Int32 → Int32 → Int32 → Option (Bool × List EV × Int32)
def gsl (kn : List Int32) (pb : Int32) : Int32 := nI kn.length + pb
/-- the number of a global -/
def gix (e : PE) (x : Int32) : Nat := (e.2.2.2.findIdx (fun g => g.1 == x))
def gTok (e : PE) (k : Int) (i : Int32) : Option Int32 := if (e.1 i).toInt = k then some (i + 1) else none
def gIndex (E : EvE) (g : Int32) (e : PE) (kn : List Int32) (pb i : Int32) : Option (List EV × Int32) := (E true e kn pb (i + 1)).bind fun q => (gTok e 35 q.2).bind fun j => some (q.1 ++ [evx 7 g 0], j)
def gRead (sl : Int) (g : Int32) : EV := if 0 ≤ sl then evx 3 (Int32.ofInt sl) 0 else evx 5 g 0
def gPut (sl : Int) (g : Int32) : EV := if 0 ≤ sl then evx 4 (Int32.ofInt sl) 1 else evx 6 g 0
def gChange (E : EvE) (row : Bool) (sl : Int) (g : Int32) (e : PE) (kn : List Int32) (pb i : Int32) : Option (List EV × Int32) :=
  let s := gsl kn pb
  let r : Int32 := if row = true then 1 else 0
  if (e.1 i).toInt = 42 then (E true e kn (pb + r) (i + 1)).bind fun q => some ((if row = true then [evx 9 g s] else []) ++ q.1 ++ [if row = true then evx 11 s 0 else gPut sl g], q.2)
  else (E true e kn (pb + r + 1) (i + 1)).bind fun q => some ((if row = true then [evx 9 g s, evx 10 0 0] else [gRead sl g]) ++ [evx 4 (s + r) 0] ++ q.1 ++ [evx 20 (e.1 i + 10) (s + r), if row = true then evx 11 s 0 else gPut sl g], q.2)
def gArgs (E : EvE) : Nat → Int → PE → List Int32 → Int32 → Int32 → Option (Int × List EV × Int32)
  | 0, _, _, _, _, _ => none
  | f + 1, k, e, kn, pb, i => (E true e kn pb i).bind fun q => if (e.1 q.2).toInt = 37 then (gArgs E f (k + 1) e kn (pb + 1) (q.2 + 1)).bind fun r => some (r.1, q.1 ++ [evx 4 (gsl kn pb) 0] ++ r.2.1, r.2.2) else some (k + 1, q.1 ++ [evx 4 (gsl kn pb) 0], q.2)
def gCall (E : EvE) (e : PE) (kn : List Int32) (pb i : Int32) : Option (List EV × Int32) :=
  (if (e.1 (i + 2)).toInt = 31 then some (0, [], i + 2) else gArgs E 1502 0 e kn pb (i + 2)).bind fun r => (gTok e 31 r.2.2).bind fun j => some (r.2.1 ++ [(21, e.2.1 i, gsl kn pb, r.1, 0, 0)], j)
def gNamed (E : EvE) (st : Bool) (e : PE) (kn : List Int32) (pb i : Int32) : Option (Bool × List EV × Int32) :=
  let sl := fnd kn (e.2.1 i)
  let g := nI (gix e (e.2.1 i))
  let row := decide (sl < 0 ∧ gfd e (e.2.1 i) = some 1)
  if (e.1 (i + 1)).toInt = 30 then (gCall E e kn pb i).bind fun q => some (false, q)
  else (if row = true then gIndex E g e kn pb (i + 1) else some ([], i + 1)).bind fun q =>
    if st = true ∧ (42 : Int) ≤ (e.1 q.2).toInt ∧ (e.1 q.2).toInt ≤ 52 then (gChange E row sl g e kn pb q.2).bind fun r => some (true, q.1 ++ r.1, r.2)
    else some (false, q.1 ++ [if row = true then evx 8 g 0 else gRead sl g], q.2)
def gUn (k : Int32) : Int32 := if k.toInt = 54 then 12 else if k.toInt = 40 then 13 else 14
def gOperand (E : EvE) (O : EvO) (st : Bool) (e : PE) (kn : List Int32) (pb i : Int32) : Option (Bool × List EV × Int32) :=
  if (e.1 i).toInt = 54 ∨ (e.1 i).toInt = 40 ∨ (e.1 i).toInt = 41 then (O false e kn pb (i + 1)).bind fun q => some (false, q.2.1 ++ [evx (gUn (e.1 i)) 0 0], q.2.2)
  else if (e.1 i).toInt = 3 ∨ (e.1 i).toInt = 5 then some (false, [evx 2 (e.2.1 i) 0], i + 1)
  else if (e.1 i).toInt = 20 then (gTok e 30 (i + 1)).bind fun j => (gTok e 31 j).bind fun j => some (false, [evx 23 0 0], j)
  else if (e.1 i).toInt = 30 then (E true e kn pb (i + 1)).bind fun q => (gTok e 31 q.2).bind fun j => some (false, q.1, j)
  else if (e.1 i).toInt = 2 then gNamed E st e kn pb i
  else none
/-- a sign's own: a the left side, b the right -/
def gSign (k s : Int32) (a b : List EV) : List EV :=
  if k.toInt = 69 then a ++ [fwE 16 1 (b ++ [evx 15 0 0])] ++ b ++ [evx 15 0 0]
  else if k.toInt = 70 then a ++ [fwE 18 0 (b ++ [evx 15 0 0])] ++ b ++ [evx 15 0 0]
  else a ++ [evx 4 s 0] ++ b ++ [evx 20 k s]
def gpb (k pb : Int32) : Int32 := if k.toInt = 69 ∨ k.toInt = 70 then pb else pb + 1
def gJ (O : EvO) : Nat → Int → PE → List Int32 → Int32 → List EV → Int32 → Option (List EV × Int32)
  | 0, _, _, _, _, _, _ => none
  | f + 1, m, e, kn, pb, a, i => if (stg (e.1 i)).toInt < m ∨ (stg (e.1 i)).toInt ≤ 0 then some (a, i) else (O false e kn (gpb (e.1 i) pb) (i + 1)).bind fun q => (gJ O f ((stg (e.1 i)).toInt + 1) e kn (gpb (e.1 i) pb) q.2.1 q.2.2).bind fun r => gJ O f m e kn pb (gSign (e.1 i) (gsl kn pb) a r.1) r.2
def gQuest (E : EvE) (e : PE) (kn : List Int32) (pb : Int32) (a : List EV) (i : Int32) : Option (List EV × Int32) :=
  if (e.1 i).toInt = 38 then (E true e kn pb (i + 1)).bind fun q => (gTok e 39 q.2).bind fun j => (E false e kn pb j).bind fun r => some (a ++ [fwE 16 0 (q.1 ++ [fwE 19 0 r.1])] ++ q.1 ++ [fwE 19 0 r.1] ++ r.1, r.2)
  else some (a, i)
def gExpr (E : EvE) (O : EvO) (st : Bool) (e : PE) (kn : List Int32) (pb i : Int32) : Option (List EV × Int32) := (O st e kn pb i).bind fun q => if q.1 = true then some q.2 else (gJ O 1502 1 e kn pb q.2.1 q.2.2).bind fun r => gQuest E e kn pb r.1 r.2
def evE0 : EvE := fun _ _ _ _ _ => none
def evO0 : EvO := fun _ _ _ _ _ => none
def GLV : Nat → EvE × EvO
  | 0 => (gExpr evE0 (gOperand evE0 evO0), gOperand evE0 evO0)
  | n + 1 => (gExpr (GLV n).1 (gOperand (GLV n).1 (GLV n).2), gOperand (GLV n).1 (GLV n).2)
def geE (n : Nat) : EvE := (GLV n).1
def geO (n : Nat) : EvO := (GLV n).2
def hgE : Nat → EvE
  | 0 => evE0
  | n + 1 => geE n
def hgO : Nat → EvO
  | 0 => evO0
  | n + 1 => geO n
theorem geO_eq (n : Nat) : geO n = gOperand (hgE n) (hgO n) := by cases n <;> rfl
theorem geE_eq (n : Nat) : geE n = gExpr (hgE n) (geO n) := by cases n <;> rfl
/-! statements -/
abbrev EvS : Type := PE → List Int32 → Int32 → Int32 → Option (List EV × List Int32 × Int32)
def gCond (E : EvE) (e : PE) (kn : List Int32) (pb i : Int32) : Option (List EV × Int32) := (gTok e 30 i).bind fun j => (E true e kn pb j).bind fun q => (gTok e 31 q.2).bind fun j => some (q.1, j)
def gLocal (E : EvE) : EvS := fun e kn pb i => (if (e.1 (i + 2)).toInt = 42 then E true e kn pb (i + 3) else some ([evx 2 0 0], i + 2)).bind fun q => (gTok e 36 q.2).bind fun j => some (q.1 ++ [evx 4 (gsl kn pb) 1, evx 25 0 0], kn ++ [e.2.1 (i + 1)], j)
def gLeave (e : PE) (kn : List Int32) (i : Int32) : Option (List EV × List Int32 × Int32) := (gTok e 36 (i + 1)).bind fun j => some ([evx (if (e.1 i).toInt = 16 then 30 else 31) 0 0], kn, j)
def gRet (E : EvE) : EvS := fun e kn pb i => (if (e.1 (i + 1)).toInt = 36 then some ([evx 2 0 0], i + 1) else E true e kn pb (i + 1)).bind fun q => (gTok e 36 q.2).bind fun j => some (q.1 ++ [evx 32 0 0], kn, j)
def gPutS (E : EvE) : EvS := fun e kn pb i => (gCond E e kn pb (i + 1)).bind fun q => (gTok e 36 q.2).bind fun j => some (q.1 ++ [evx 22 0 0], kn, j)
def gStats (S : EvS) : Nat → EvS
  | 0 => fun _ _ _ _ => none
  | f + 1 => fun e kn pb i => if (e.1 i).toInt = 33 then some ([], kn, i) else (S e kn pb i).bind fun q => (gStats S f e q.2.1 pb q.2.2).bind fun r => some (q.1 ++ r.1, r.2)
def gBlock (S : EvS) : EvS := fun e kn pb i => (gStats S 1502 e kn pb (i + 1)).bind fun q => (gTok e 33 q.2.2).bind fun j => some (q.1, kn, j)
def gInner (S : EvS) : EvS := fun e kn pb i => (S e kn pb i).bind fun q => some (q.1, kn, q.2.2)
def gIf (E : EvE) (S : EvS) : EvS := fun e kn pb i => (gCond E e kn pb (i + 1)).bind fun c => (gInner S e kn pb c.2).bind fun a =>
  if (e.1 a.2.2).toInt = 12 then (gInner S e kn pb (a.2.2 + 1)).bind fun b => some (c.1 ++ [fwE 16 0 (a.1 ++ [fwE 19 0 b.1])] ++ a.1 ++ [fwE 19 0 b.1] ++ b.1, kn, b.2.2)
  else some (c.1 ++ [fwE 16 0 a.1] ++ a.1, kn, a.2.2)
/-- a loop's parts laid out: pre .. (back to it), body -/
def gWhileL (c b : List EV) : List EV :=
  let h := [evx 24 0 0] ++ c
  let u := fwE 16 0 (b ++ [evx 19 0 0])
  let b' := rsv (d3p (b ++ [evx 19 0 0])) (d3n (h ++ [u])) b
  h ++ [u] ++ b' ++ [bwE 19 0 (h ++ [u] ++ b)]
def gDoL (b c : List EV) : List EV :=
  let b' := rsv (d3p (b ++ c ++ [evx 17 0 0])) (d3p b) b
  [evx 24 0 0] ++ b' ++ c ++ [bwE 17 0 ([evx 24 0 0] ++ b ++ c)]
/-- i the first part, c the question, s the step -/
def gForL (i : List EV) (c : Option (List EV)) (s b : List EV) : List EV :=
  let t := s ++ [evx 19 0 0]
  let j := fwE 19 0 t
  let q := match c with | none => [] | some c => c ++ [fwE 16 0 ([j] ++ t ++ b ++ [evx 19 0 0])]
  let h := [evx 24 0 0] ++ q ++ [j]
  let b' := rsv (d3p (b ++ [evx 19 0 0])) (d3n t) b
  i ++ h ++ s ++ [bwE 19 0 (h ++ s)] ++ b' ++ [bwE 19 0 (t ++ b)]
def gWhile (E : EvE) (S : EvS) : EvS := fun e kn pb i => (gCond E e kn pb i).bind fun c => (gInner S e kn pb c.2).bind fun b => some (gWhileL c.1 b.1, kn, b.2.2)
def gDo (E : EvE) (S : EvS) : EvS := fun e kn pb i => (gInner S e kn pb i).bind fun b => (gTok e 13 b.2.2).bind fun j => (gCond E e kn pb j).bind fun c => (gTok e 36 c.2).bind fun j => some (gDoL b.1 c.1, kn, j)
def gOpt (E : EvE) (k : Int) (e : PE) (kn : List Int32) (pb i : Int32) : Option (Option (List EV) × Int32) := if (e.1 i).toInt = k then some (none, i) else (E true e kn pb i).bind fun q => some (some q.1, q.2)
def dropE : Option (List EV) → List EV
  | none => []
  | some a => a ++ [evx 25 0 0]
def gFor (E : EvE) (S : EvS) : EvS := fun e kn pb i => (gTok e 30 i).bind fun j => (gOpt E 36 e kn pb j).bind fun a => (gTok e 36 a.2).bind fun j => (gOpt E 36 e kn pb j).bind fun c => (gTok e 36 c.2).bind fun j => (gOpt E 31 e kn pb j).bind fun s => (gTok e 31 s.2).bind fun j => (gInner S e kn pb j).bind fun b => some (gForL (dropE a.1) c.1 (dropE s.1) b.1, kn, b.2.2)
def gStat (E : EvE) (S : EvS) : EvS := fun e kn pb i =>
  if (e.1 i).toInt = 10 then gLocal E e kn pb i
  else if (e.1 i).toInt = 11 then gIf E S e kn pb i
  else if (e.1 i).toInt = 13 then gWhile E S e kn pb (i + 1)
  else if (e.1 i).toInt = 14 then gDo E S e kn pb (i + 1)
  else if (e.1 i).toInt = 15 then gFor E S e kn pb (i + 1)
  else if (e.1 i).toInt = 16 ∨ (e.1 i).toInt = 17 then gLeave e kn i
  else if (e.1 i).toInt = 18 then gRet E e kn pb i
  else if (e.1 i).toInt = 19 then gPutS E e kn pb i
  else if (e.1 i).toInt = 32 then gBlock S e kn pb i
  else if (e.1 i).toInt = 36 then some ([], kn, i + 1)
  else (E true e kn pb i).bind fun q => (gTok e 36 q.2).bind fun j => some (q.1 ++ [evx 25 0 0], kn, j)
def geS (E : EvE) : Nat → EvS
  | 0 => gStat E (fun _ _ _ _ => none)
  | n + 1 => gStat E (geS E n)
