/-! the reading of a text, apart from both programs: its state s, what stands there e -/
abbrev Flt : Type := Int32 × Int32
abbrev PX (α : Type) : Type := Except Flt α
def bd {α β : Type} (x : PX α) (f : α → PX β) : PX β := match x with
  | .ok a => f a
  | .error k => .error k
theorem bd_ok {α β : Type} {a : α} {f : α → PX β} : bd (.ok a) f = f a := rfl
theorem bd_er {α β : Type} {k : Flt} {f : α → PX β} : bd (.error k) f = .error k := rfl
theorem bd_as {α β γ : Type} (x : PX α) (f : α → PX β) (g : β → PX γ) : bd (bd x f) g = bd x (fun a => bd (f a) g) := by cases x <;> rfl
abbrev CA : Type := List (Int32 × Int32 × Int32)
abbrev PS : Type := Int32 × Int32 × Bool × Int32 × Int32 × Int32 × Bool × Bool × Bool × Bool × Int32 × Int32 × List Int32 × CA
abbrev PE : Type := (Int32 → Int32) × (Int32 → Int32) × (Int32 → Int32) × List (Int32 × Int32)
def pAt (s : PS) : Int32 := s.1
def pOp (s : PS) : Int32 := s.2.1
def pDu (s : PS) : Bool := s.2.2.1
def pBl (s : PS) : Int32 := s.2.2.2.1
def pPb (s : PS) : Int32 := s.2.2.2.2.1
def pMo (s : PS) : Int32 := s.2.2.2.2.2.1
def pMu (s : PS) : Bool := s.2.2.2.2.2.2.1
def pDi (s : PS) : Bool := s.2.2.2.2.2.2.2.1
def pLo (s : PS) : Bool := s.2.2.2.2.2.2.2.2.1
def pOv (s : PS) : Bool := s.2.2.2.2.2.2.2.2.2.1
def pWd (s : PS) : Int32 := s.2.2.2.2.2.2.2.2.2.2.1
def pKc (s : PS) : Int32 := s.2.2.2.2.2.2.2.2.2.2.2.1
def pKn (s : PS) : List Int32 := s.2.2.2.2.2.2.2.2.2.2.2.2.1
def pCa (s : PS) : CA := s.2.2.2.2.2.2.2.2.2.2.2.2.2
def mkP (a o : Int32) (d : Bool) (b p m : Int32) (mu di lo ov : Bool) (w k : Int32) (kn : List Int32) (c : CA) : PS := (a, o, d, b, p, m, mu, di, lo, ov, w, k, kn, c)
def sAt (s : PS) (x : Int32) : PS := mkP x (pOp s) (pDu s) (pBl s) (pPb s) (pMo s) (pMu s) (pDi s) (pLo s) (pOv s) (pWd s) (pKc s) (pKn s) (pCa s)
def sOp (s : PS) (x : Int32) : PS := mkP (pAt s) x (pDu s) (pBl s) (pPb s) (pMo s) (pMu s) (pDi s) (pLo s) (pOv s) (pWd s) (pKc s) (pKn s) (pCa s)
def sDu (s : PS) (x : Bool) : PS := mkP (pAt s) (pOp s) x (pBl s) (pPb s) (pMo s) (pMu s) (pDi s) (pLo s) (pOv s) (pWd s) (pKc s) (pKn s) (pCa s)
def sBl (s : PS) (x : Int32) : PS := mkP (pAt s) (pOp s) (pDu s) x (pPb s) (pMo s) (pMu s) (pDi s) (pLo s) (pOv s) (pWd s) (pKc s) (pKn s) (pCa s)
def sPb (s : PS) (x : Int32) : PS := mkP (pAt s) (pOp s) (pDu s) (pBl s) x (pMo s) (pMu s) (pDi s) (pLo s) (pOv s) (pWd s) (pKc s) (pKn s) (pCa s)
def sMo (s : PS) (x : Int32) : PS := mkP (pAt s) (pOp s) (pDu s) (pBl s) (pPb s) x (pMu s) (pDi s) (pLo s) (pOv s) (pWd s) (pKc s) (pKn s) (pCa s)
def sMu (s : PS) (x y : Bool) : PS := mkP (pAt s) (pOp s) (pDu s) (pBl s) (pPb s) (pMo s) x y (pLo s) (pOv s) (pWd s) (pKc s) (pKn s) (pCa s)
def sLo (s : PS) (x : Bool) : PS := mkP (pAt s) (pOp s) (pDu s) (pBl s) (pPb s) (pMo s) (pMu s) (pDi s) x (pOv s) (pWd s) (pKc s) (pKn s) (pCa s)
def sWd (s : PS) (x : Int32) : PS := mkP (pAt s) (pOp s) (pDu s) (pBl s) (pPb s) (pMo s) (pMu s) (pDi s) (pLo s) (pOv s) x (pKc s) (pKn s) (pCa s)
def sKn (s : PS) (k : Int32) (x : List Int32) : PS := mkP (pAt s) (pOp s) (pDu s) (pBl s) (pPb s) (pMo s) (pMu s) (pDi s) (pLo s) (pOv s) (pWd s) k x (pCa s)
def sCa (s : PS) (o : Bool) (w : Int32) (x : CA) : PS := mkP (pAt s) (pOp s) (pDu s) (pBl s) (pPb s) (pMo s) (pMu s) (pDi s) (pLo s) o w (pKc s) (pKn s) x
def kd (e : PE) (s : PS) : Int32 := e.1 (pAt s)
def kb (e : PE) (s : PS) : Int32 := e.1 (pAt s + 1)
def vl (e : PE) (s : PS) : Int32 := e.2.1 (pAt s)
def pl (e : PE) (s : PS) : Int32 := e.2.2.1 (pAt s)
/-! tokens -/
def tTake (e : PE) (s : PS) : PX PS := if (1500 : Int) ≤ (pAt s).toInt ∨ pDu s = true then .error (5, pl e s) else .ok (sAt (sDu s false) (pAt s + 1))
def tBad {α : Type} (e : PE) (s : PS) : PX α := .error (if (kd e s).toInt = 1 then 1 else 2, pl e s)
def tNeed (k : Int) (e : PE) (s : PS) : PX PS := if (kd e s).toInt = k then .ok s else tBad e s
def tExp (k : Int) (e : PE) (s : PS) : PX PS := bd (tNeed k e s) (tTake e)
def tOpen (e : PE) (s : PS) : PX PS := if (40 : Int) ≤ (pOp s).toInt then .error (5, pl e s) else bd (tTake e s) (fun s => .ok (sOp s (pOp s + 1)))
def tClose (s : PS) : PS := sOp s (pOp s - 1)
/-! words, slots, names, calls -/
def em (k : Int32) (s : PS) : PS := if pOv s = true then s else sWd s (pWd s + k)
def sMm (s : PS) (x : Int32) : PS := if pDu s = true then s else sMo s x
def mx (a b : Int32) : Int32 := if a < b then b else a
def tWant (n : Int32) (e : PE) (s : PS) : PX PS := if (500 : Int) < (pKc s + pPb s + n).toInt then .error (5, pl e s) else .ok (sMm s (mx (pMo s) (pKc s + pPb s + n)))
def tDue (k : Int32) (s : PS) : PS := if (500 : Int) < (pKc s + pPb s + 1).toInt ∨ (8 : Int) ≤ k.toInt then sDu (sMo s 0) true else sMm s (mx (pMo s) (pKc s + pPb s + 1))
def fndr (x : Int32) : List Int32 → Int
  | [] => -1
  | y :: l => if y = x then (l.length : Int) else fndr x l
def fnd (kn : List Int32) (x : Int32) : Int := fndr x kn.reverse
def gfd (e : PE) (x : Int32) : Option Int32 := (e.2.2.2.find? (fun g => g.1 == x)).map (fun g => g.2)
def opz (k : Int32) : Int32 := if k = 57 ∨ k = 63 ∨ k = 64 ∨ k = 66 ∨ k = 68 then 2 else 1
def nsz (x : Int32) : Int32 := if (-2048 : Int) ≤ x.toInt ∧ x.toInt ≤ 2047 then 1 else 2
def vsz (sl : Bool) : Int32 := if sl = true then 1 else 2
def tRem (k : Int32) (s : PS) : PS := sMu s (pMu s || decide (k = 55)) (pDi s || decide (k = 56 ∨ k = 57))
def tAddCall (x y : Int32) (s : PS) : PS := if pOv s = true then s else if (pCa s).length = 500 then sCa s true 0 [] else sCa s false (pWd s) (pCa s ++ [(x, y, 0)])
def setA : CA → Nat → Int32 → CA
  | [], _, _ => []
  | q :: t, 0, n => (q.1, q.2.1, n) :: t
  | q :: t, c + 1, n => q :: setA t c n
def tEndCall (c : Nat) (n : Int32) (s : PS) : PS := if pOv s = true then s else sCa s false (pWd s + (if n = 0 then 1 else 2)) (setA (pCa s) c n)
/-! expressions -/
abbrev FE : Type := Bool → PE → PS → PX PS
abbrev FO : Type := Bool → PE → PS → PX (Bool × PS)
def tIndex (E : FE) (e : PE) (s : PS) : PX PS := bd (tOpen e s) fun s => bd (E true e s) fun s => bd (tExp 35 e s) fun s => .ok (em 8 (tClose s))
def tPre (row sl plain : Bool) : Int32 := (if row = true then 2 else 0) + (if plain = true then 0 else (if row = true then 1 else vsz sl) + 1)
def tPost (row sl plain : Bool) (k : Int32) : Int32 := (if plain = true then 0 else 1 + opz k) + (if row = true then 2 else vsz sl)
def tChange (E : FE) (row sl : Bool) (e : PE) (s : PS) : PX PS :=
  let k := kd e s
  let plain := decide (k.toInt = 42)
  let n : Int32 := (if row = true then 1 else 0) + (if plain = true then 0 else 1)
  bd (tWant n e s) fun s => bd (tOpen e (if plain = true then s else tRem (k + 10) s)) fun s => bd (E true e (sPb (em (tPre row sl plain) s) (pPb s + n))) fun s => .ok (tClose (em (tPost row sl plain (k + 10)) (sPb s (pPb s - n))))
def tArgs (E : FE) : Nat → Int32 → PE → PS → PX (Int32 × PS)
  | 0, _, _, _ => .error (0, 0)
  | f + 1, k, e, s => bd (E true e (tDue k s)) fun s => (fun s => if (kd e s).toInt = 37 then bd (tTake e s) (tArgs E f (k + 1) e) else .ok (k + 1, s)) (sPb (em 1 s) (pPb s + 1))
def tCall (E : FE) (e : PE) (s : PS) : PX PS :=
  bd (tTake e (tAddCall (vl e s) (pl e s) s)) fun s1 => bd (tOpen e s1) fun s2 => bd (if (kd e s2).toInt = 31 then .ok (0, s2) else tArgs E 1502 0 e s2) fun q => bd (tExp 31 e q.2) fun s3 => .ok (tEndCall (pCa s).length q.1 (sPb (tClose s3) (pPb s3 - q.1)))
def tNamed (E : FE) (st : Bool) (e : PE) (s : PS) : PX (Bool × PS) :=
  let sl := decide (0 ≤ fnd (pKn s) (vl e s))
  let g := if sl = true then none else gfd e (vl e s)
  let row := decide (g = some 1)
  if (kb e s).toInt = 30 then (if sl = true ∨ g ≠ none then .error (3, pl e s) else bd (tCall E e s) fun s => .ok (false, s))
  else if (sl = false ∧ g = none) ∨ row ≠ decide ((kb e s).toInt = 34) then .error (3, pl e s)
  else bd (tTake e s) fun s => bd (if row = true then tIndex E e s else .ok s) fun s =>
    if st = true ∧ (42 : Int) ≤ (kd e s).toInt ∧ (kd e s).toInt ≤ 52 then bd (tChange E row sl e s) fun s => .ok (true, s)
    else .ok (false, em (if row = true then 1 else vsz sl) s)
def tOperand (E : FE) (O : FO) (st : Bool) (e : PE) (s : PS) : PX (Bool × PS) :=
  if (kd e s).toInt = 54 ∨ (kd e s).toInt = 40 ∨ (kd e s).toInt = 41 then bd (tOpen e s) fun s => bd (O false e s) fun q => .ok (false, em 1 (tClose q.2))
  else if (kd e s).toInt = 3 ∨ (kd e s).toInt = 5 then bd (tTake e s) fun s1 => .ok (false, em (nsz (vl e s)) s1)
  else if (kd e s).toInt = 4 then .error (5, pl e s)
  else if (kd e s).toInt = 20 then bd (tTake e s) fun s => bd (tNeed 30 e s) fun s => bd (tOpen e s) fun s => bd (tExp 31 e s) fun s => .ok (false, em 2 (tClose s))
  else if (kd e s).toInt = 30 then bd (tOpen e s) fun s => bd (E true e s) fun s => bd (tExp 31 e s) fun s => .ok (false, tClose s)
  else if (kd e s).toInt = 2 then tNamed E st e s
  else tBad e s
def stg (k : Int32) : Int32 := if (k - 53).toInt < 0 ∨ (18 : Int) ≤ (k - 53).toInt then 0 else ([9, 9, 10, 10, 10, 5, 3, 4, 8, 8, 6, 6, 7, 7, 7, 7, 2, 1] : List Int32).getD (k - 53).toNatClampNeg 0
def tBegin (k : Int32) (e : PE) (s : PS) : PX PS := if k.toInt = 69 then .ok (em 2 s) else if k.toInt = 70 then .ok (em 3 s) else bd (tWant 1 e s) fun s => .ok (tRem k (sPb (em 1 s) (pPb s + 1)))
def tEnd (k : Int32) (s : PS) : PS := if k.toInt = 69 ∨ k.toInt = 70 then em 1 s else em (1 + opz k) (sPb s (pPb s - 1))
def tJ (O : FO) : Nat → Int → PE → PS → PX PS
  | 0, _, _, _ => .error (0, 0)
  | f + 1, m, e, s => if (stg (kd e s)).toInt < m ∨ (stg (kd e s)).toInt ≤ 0 then .ok s else bd (tBegin (kd e s) e s) fun s1 => bd (tTake e s1) fun s2 => bd (O false e s2) fun q => bd (tJ O f ((stg (kd e s)).toInt + 1) e q.2) fun s3 => tJ O f m e (tEnd (kd e s) s3)
def tQuest (E : FE) (e : PE) (s : PS) : PX PS := if (kd e s).toInt = 38 then bd (tOpen e s) fun s => bd (E true e (em 2 s)) fun s => bd (tExp 39 e s) fun s => bd (E false e (em 1 s)) fun s => .ok (tClose s) else .ok s
def tExpr (E : FE) (O : FO) (st : Bool) (e : PE) (s : PS) : PX PS := bd (O st e s) fun q => if q.1 = true then .ok q.2 else bd (tJ O 1502 1 e q.2) (tQuest E e)
def nE : FE := fun _ _ _ => .error (0, 0)
def nO : FO := fun _ _ _ => .error (0, 0)
def TLV : Nat → FE × FO
  | 0 => (tExpr nE (tOperand nE nO), tOperand nE nO)
  | n + 1 => (tExpr (TLV n).1 (tOperand (TLV n).1 (TLV n).2), tOperand (TLV n).1 (TLV n).2)
def tE (n : Nat) : FE := (TLV n).1
def tO (n : Nat) : FO := (TLV n).2
def qE : Nat → FE
  | 0 => nE
  | n + 1 => tE n
def qO : Nat → FO
  | 0 => nO
  | n + 1 => tO n
theorem tO_eq (n : Nat) : tO n = tOperand (qE n) (qO n) := by cases n <;> rfl
theorem tE_eq (n : Nat) : tE n = tExpr (qE n) (tO n) := by cases n <;> rfl
