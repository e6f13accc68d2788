/-! statements: the reading, what the class keeps -/
abbrev FS : Type := PE → PS → PX PS
def tCond (E : FE) (e : PE) (s : PS) : PX PS := bd (tNeed 30 e s) fun s => bd (tOpen e s) fun s => bd (E true e s) fun s => bd (tExp 31 e s) fun s => .ok (tClose s)
def tNew (e : PE) (s : PS) : PX PS := bd (tNeed 2 e s) fun s => if (pBl s).toInt ≤ fnd (pKn s) (vl e s) then .error (3, pl e s) else .ok s
def tLearn (x : Int32) (s : PS) : PS := if (500 : Int) ≤ (pKc s).toInt then s else sKn s (pKc s + 1) (pKn s ++ [x])
def tLocal (E : FE) (e : PE) (s : PS) : PX PS := bd (tTake e s) fun s => bd (tNew e s) fun s1 => bd (tWant 1 e s1) fun s => bd (tTake e s) fun s => bd (if (kd e s).toInt = 42 then bd (tTake e s) (E true e) else .ok (em 1 s)) fun s => bd (tExp 36 e (em 1 s)) fun s => .ok (tLearn (vl e s1) s)
def tJump (e : PE) (s : PS) : PX PS := bd (tTake e s) fun s1 => if pLo s = true then tExp 36 e (em 1 s1) else .error (6, pl e s)
def tRet (E : FE) (e : PE) (s : PS) : PX PS := bd (tTake e s) fun s => bd (if (kd e s).toInt = 36 then .ok (em 1 s) else E true e s) fun s => tExp 36 e (em 1 s)
def tPut (E : FE) (e : PE) (s : PS) : PX PS := bd (tTake e s) fun s => bd (tCond E e s) fun s => tExp 36 e (em 2 s)
def tBack (s0 s : PS) : PS := sBl (sKn s (pKc s0) ((pKn s).take (pKc s0).toNatClampNeg)) (pBl s0)
def tInner (S : FS) (e : PE) (s : PS) : PX PS := bd (S e (sBl s (pKc s))) fun s1 => .ok (tBack s s1)
def tStats (S : FS) : Nat → FS
  | 0, _, _ => .error (0, 0)
  | f + 1, e, s => if (kd e s).toInt = 33 then .ok s else bd (S e s) (tStats S f e)
def tBlock (S : FS) (e : PE) (s : PS) : PX PS := bd (tOpen e (sBl s (pKc s))) fun s1 => bd (tStats S 1502 e s1) fun s1 => bd (tExp 33 e s1) fun s1 => .ok (tBack s (tClose s1))
def tIf (E : FE) (S : FS) (e : PE) (s : PS) : PX PS := bd (tOpen e s) fun s => bd (tCond E e s) fun s => bd (tInner S e (em 2 s)) fun s => if (kd e s).toInt = 12 then bd (tTake e s) fun s => bd (tInner S e (em 1 s)) fun s => .ok (tClose s) else .ok (tClose s)
def tLp (S : FS) (e : PE) (s : PS) : PX PS := bd (tInner S e (sLo s true)) fun s1 => .ok (sLo s1 (pLo s))
def tWhile (E : FE) (S : FS) (e : PE) (s : PS) : PX PS := bd (tCond E e s) fun s => bd (tLp S e (em 2 s)) fun s => .ok (em 1 s)
def tDo (E : FE) (S : FS) (e : PE) (s : PS) : PX PS := bd (tLp S e s) fun s => bd (tExp 13 e s) fun s => bd (tCond E e s) fun s => tExp 36 e (em 2 s)
def tOpt (E : FE) (k : Int) (e : PE) (s : PS) : PX (Bool × PS) := if (kd e s).toInt = k then .ok (false, s) else bd (E true e s) fun s => .ok (true, s)
def tFor (E : FE) (S : FS) (e : PE) (s : PS) : PX PS := bd (tNeed 30 e s) fun s => bd (tOpen e s) fun s => bd (tOpt E 36 e s) fun q => bd (tExp 36 e q.2) fun s => bd (tOpt E 36 e s) fun q => bd (tExp 36 e (if q.1 = true then em 2 q.2 else q.2)) fun s => bd (tOpt E 31 e (em 1 s)) fun q => bd (tExp 31 e q.2) fun s => bd (tLp S e (em 1 (tClose s))) fun s => .ok (em 1 s)
def tLoop (k : Int) (E : FE) (S : FS) (e : PE) (s : PS) : PX PS := bd (tOpen e s) fun s => bd (if k = 13 then tWhile E S e s else if k = 14 then tDo E S e s else tFor E S e s) fun s => .ok (tClose s)
def tStat (E : FE) (S : FS) (e : PE) (s : PS) : PX PS :=
  if (kd e s).toInt = 10 then tLocal E e s
  else if (kd e s).toInt = 11 then tIf E S e s
  else if (kd e s).toInt = 13 ∨ (kd e s).toInt = 14 ∨ (kd e s).toInt = 15 then tLoop (kd e s).toInt E S e s
  else if (kd e s).toInt = 16 ∨ (kd e s).toInt = 17 then tJump e s
  else if (kd e s).toInt = 18 then tRet E e s
  else if (kd e s).toInt = 19 then tPut E e s
  else if (kd e s).toInt = 32 then tBlock S e s
  else if (kd e s).toInt = 36 then tTake e s
  else bd (E true e s) (tExp 36 e)
def tS (E : FE) : Nat → FS
  | 0 => tStat E (fun _ _ => .error (0, 0))
  | n + 1 => tStat E (tS E n)
def qS (E : FE) : Nat → FS
  | 0 => fun _ _ => .error (0, 0)
  | n + 1 => tS E n
theorem tS_eq (E : FE) (n : Nat) : tS E n = tStat E (qS E n) := by cases n <;> rfl
def KS (v u : MS) : Prop := KP v u ∧ u.1 0 331 = v.1 0 331 ∧ u.1 0 332 = v.1 0 332 ∧ (v.1 0 312).toInt ≤ (u.1 0 312).toInt
theorem KS.rf {v : MS} : KS v v := ⟨KP.rf, rfl, rfl, Int.le_refl _⟩
theorem KS.tr {v u x : MS} (a : KS v u) (b : KS u x) : KS v x := ⟨a.1.tr b.1, b.2.1.trans a.2.1, b.2.2.1.trans a.2.2.1, Int.le_trans a.2.2.2 b.2.2.2⟩
theorem KS.fr {v u : MS} {fl al : List Nat} (k : KP v u) (f : FC fl al v u) (h : 331 ∉ fl ∧ 332 ∉ fl ∧ 312 ∉ fl) : KS v u :=
  ⟨k, f.2.1 331 h.1, f.2.1 332 h.2.1, by rw [f.2.1 312 h.2.2]; exact Int.le_refl _⟩
def SIq (G : GH) (L2 : List Nat) (e : PE) (v : MS) : Prop := JC L2 e v ∧ (v.1 0 326).toInt = 0 ∧ G.2.2.2.2 = []
def LO (G : GH) (v : MS) : Prop := (G.2.2.1 = true ↔ (v.1 0 331).toInt ≠ -1) ∧ (G.2.2.1 = true ↔ (v.1 0 332).toInt ≠ -1)
theorem LO.ks {G : GH} {v u : MS} (h : LO G v) (k : KS v u) : LO G u := by unfold LO; rw [k.2.1, k.2.2.1]; exact h
def OKS (G : GH) (L2 : List Nat) (e : PE) (f : PS → PX PS) (v : MS) (t : Bool) (u : MS) : Prop := (t = false ∧ f (aC G v) = .ok (aC G u) ∧ SIq G L2 e u ∧ KS v u) ∨ (t = true ∧ f (aC G v) = .error (u.1 0 308, u.1 0 309))
section OKSS
variable {G : GH} {L1 L2 : List Nat} {e : PE} {f g : PS → PX PS} {v u x : MS} {t : Bool} {r pa pb pc1 : Int32} {n : Nat} {E : FE}
theorem OKS.eo (h : OKS G L2 e f v false u) : f (aC G v) = .ok (aC G u) := by
  rcases h with h | ⟨h, _⟩
  · exact h.2.1
  · cases h
theorem OKS.er (h : OKS G L2 e f v true u) : f (aC G v) = .error (u.1 0 308, u.1 0 309) := by
  rcases h with ⟨h, _⟩ | h
  · cases h
  · exact h.2
theorem OKS.si (h : OKS G L2 e f v false u) : SIq G L2 e u := by
  rcases h with h | ⟨h, _⟩
  · exact h.2.2.1
  · cases h
theorem OKS.ks (h : OKS G L2 e f v false u) : KS v u := by
  rcases h with h | ⟨h, _⟩
  · exact h.2.2.2
  · cases h
theorem SIq.st (I : SIq G L2 e v) (j : JC L2 e u) (k : KP v u) : SIq G L2 e u := ⟨j, by rw [k.1]; exact I.2.1, I.2.2⟩
theorem OKC.s {fl al : List Nat} (h : OKC G L2 e f v t u) (I : SIq G L2 e v) (k : t = false → FC fl al v u) (q : 331 ∉ fl ∧ 332 ∉ fl ∧ 312 ∉ fl) : OKS G L2 e f v t u := by
  rcases h with ⟨rfl, h, j, p⟩ | ⟨h0, h⟩
  · exact Or.inl ⟨rfl, h, I.st j p, KS.fr p (k rfl) q⟩
  · exact Or.inr ⟨h0, h⟩
theorem sTake (h : Q_x_X9_take L1 L2 v t u) (k : t = false → K_x_X9_take v u) (I : SIq G L2 e v) : OKS G L2 e (tTake e) v t u := (cTake h k I.1).s I (fun q => (k q).1) (by decide)
theorem sOpen (h : Q_x_X9_open L1 L2 v t u) (k : t = false → K_x_X9_open v u) (I : SIq G L2 e v) : OKS G L2 e (tOpen e) v t u := (cOpen h k I.1).s I (fun q => (k q).1) (by decide)
theorem sExp {m : Int} (hm : pa.toInt = m) (h : Q_x_X9_expect L1 L2 v pa t u) (k : t = false → K_x_X9_expect v pa u) (I : SIq G L2 e v) : OKS G L2 e (tExp m e) v t u := (cExpm hm h k I.1).s I (fun q => (k q).1) (by decide)
theorem sNeed {m : Int} (hm : pa.toInt = m) (h : Q_x_X9_need L1 L2 v pa t u) (k : t = false → K_x_X9_need v pa u) (I : SIq G L2 e v) : OKS G L2 e (tNeed m e) v t u := (cNeedm hm h I.1).s I (fun q => (k q).1) (by decide)
theorem sE (hE : ∀ m, m ≤ n → HE L2 (QE L1 L2 m) E) {m : Nat} (hm : m ≤ n) (h : QE L1 L2 m v 1 t u) (k : t = false → K_x_X2_expression v 1 u) (I : SIq G L2 e v) : OKS G L2 e (E true e) v t u := by
  have h0 : 0 ≤ (v.1 0 306).toInt := by
    have h' := h
    rw [QE_eq] at h'
    exact h'.2.2.1.1
  refine (hE m hm G e v 1 true t u (by decide) h k I.1 (Or.inr (by rw [I.2.2]; exact fun _ q => nomatch q)) ?_).s I (fun q => (k q).1) (by decide)
  unfold TPE
  have := I.2.1
  omega
theorem sClose (h : Q_x_X9_close L1 L2 v u) (k : K_x_X9_close v u) (I : SIq G L2 e v) : aC G u = tClose (aC G v) ∧ SIq G L2 e u ∧ KS v u := by
  have a := cClose (G := G) h k I.1
  exact ⟨a.1, I.st a.2.1 a.2.2, KS.fr a.2.2 k.1 (by decide)⟩
theorem sAdd {d k : Int32} (h : Q_x_X1_add L1 L2 v d pa pb u) (kk : K_x_X1_add v d pa pb u) (hd : d ≠ 20) (hk : dsz d pa = k) (I : SIq G L2 e v) (h21 : d ≠ 21 ∧ d ≠ 0 ∧ 1 ≤ d.toInt ∧ d.toInt ≤ 24 := by decide) : aC G u = em k (aC G v) ∧ SIq G L2 e u ∧ KS v u := by
  have a := cAddk (G := G) h kk hd hk I.1 h21
  exact ⟨a.1, I.st a.2.1 a.2.2, KS.fr a.2.2 kk.1 (by decide)⟩
theorem em_0 {s : PS} : em 0 s = s := by
  unfold em
  split
  · rfl
  · rw [Int32.add_zero]; rfl
theorem sAdd0 {d : Int32} (h : Q_x_X1_add L1 L2 v d pa pb u) (kk : K_x_X1_add v d pa pb u) (hd : d ≠ 20) (hk : dsz d pa = 0) (I : SIq G L2 e v) (h21 : d ≠ 21 ∧ d ≠ 0 ∧ 1 ≤ d.toInt ∧ d.toInt ≤ 24 := by decide) : aC G u = aC G v ∧ SIq G L2 e u ∧ KS v u := by
  have a := sAdd (G := G) h kk hd hk I h21
  exact ⟨a.1.trans em_0, a.2⟩
theorem sLab (h : Q_x_X1_newLabel L1 L2 v r u) (k : K_x_X1_newLabel v r u) (I : SIq G L2 e v) : aC G u = aC G v ∧ SIq G L2 e u ∧ KS v u := by
  have a := cLab (G := G) h k I.1
  exact ⟨a.1, I.st a.2.1 a.2.2, KS.fr a.2.2 k.1 (by decide)⟩
theorem sSet (h : Q_x_X1_setLabel L1 L2 v pa u) (k : K_x_X1_setLabel v pa u) (I : SIq G L2 e v) : aC G u = aC G v ∧ SIq G L2 e u ∧ KS v u := by
  have a := cSet (G := G) h k I.1
  exact ⟨a.1, I.st a.2.1 a.2.2, KS.fr a.2.2 k.1 (by decide)⟩
theorem sLearn (h : Q_x_X1_learn L1 L2 v pa u) (k : K_x_X1_learn v pa u) (I : SIq G L2 e v) : aC G u = tLearn pa (aC G v) ∧ SIq G L2 e u ∧ KS v u := by
  have f := fun i hi => k.1.2.1 i hi
  have hJ : (u.1 0 307).toInt ≤ (u.1 0 305).toInt := by
    rw [f 307 (by decide), f 305 (by decide)]
    exact I.1.2.1
  have kp : KP v u := KP.fr k.1 (by decide) (by decide)
  have J2 := I.1.fr k.1 k.2.2 (by decide) (by decide) hJ
  obtain ⟨z, h⟩ := h
  rcases h with ⟨a, rfl⟩ | ⟨a, hu⟩
  · exact ⟨by unfold tLearn; rw [if_pos (show (500 : Int) ≤ (pKc (aC G u)).toInt from a)], I, KS.rf⟩
  · have e1 : (v.1 0 312 + 1).toInt = (v.1 0 312).toInt + 1 := add_z rfl (by decide) (by omega) (by omega)
    have u1 : u.1 0 312 = v.1 0 312 + 1 := by rw [hu]; rfl
    have u2 : u.1 311 = upd (v.1 311) (v.1 0 312).toNatClampNeg pa := by rw [hu]; rfl
    refine ⟨?_, I.st J2 kp, kp, f 331 (by decide), f 332 (by decide), by rw [u1]; omega⟩
    unfold tLearn
    rw [if_neg (show ¬ (500 : Int) ≤ (pKc (aC G v)).toInt from by show ¬ (500 : Int) ≤ (v.1 0 312).toInt; omega)]
    have hl : lst (u.1 311) (u.1 0 312) = pKn (aC G v) ++ [pa] := by
      show lst _ _ = lst (v.1 311) (v.1 0 312) ++ [pa]
      unfold lst
      rw [u1, natS e1 z.1, u2, lst_snoc, updS]
      congr 1
      exact List.map_congr_left (fun j hj => updN_ (by have := List.mem_range.mp hj; omega))
    have nd : nD u = nD v := by unfold nD; rw [f 381 (by decide)]
    have nc : nC u = nC v := by unfold nC; rw [f 321 (by decide)]
    have ov : ovC u = ovC v := by unfold ovC; rw [f 321 (by decide)]
    have a9 := fun i hi => k.1.2.2 i hi
    refine aC_eq (f 305 (by decide)) (f 306 (by decide)) ?_ (f 313 (by decide)) (f 314 (by decide)) ?_ ?_ ?_ rfl ov ?_ u1 hl ?_
    · rw [f 305 (by decide), f 307 (by decide)]; rfl
    · rw [f 305 (by decide), f 307 (by decide), f 315 (by decide)]; rfl
    · rw [nd, a9 378 (by decide), a9 379 (by decide)]; rfl
    · rw [nd, a9 378 (by decide), a9 379 (by decide)]; rfl
    · show wdC G u = wdC G v
      unfold wdC
      rw [ov, nd, nc, a9 378 (by decide), a9 379 (by decide), a9 320 (by decide)]
    · show caC G u = caC G v
      unfold caC
      rw [ov, nc, a9 318 (by decide), a9 319 (by decide), a9 320 (by decide)]
theorem sKind (h : Q_x_X9_kind L1 L2 v r) (I : SIq G L2 e v) : r = kd e (aC G v) := cKind h I.1
theorem sKindB (h : Q_x_X9_kindBehind L1 L2 v r) (I : SIq G L2 e v) : r = kb e (aC G v) := cKindB h I.1
theorem sValue (h : Q_x_X9_value L1 L2 v r) (I : SIq G L2 e v) : r = vl e (aC G v) := cValue h I.1
theorem sPlace (h : Q_x_X9_place L1 L2 v r) (I : SIq G L2 e v) : r = pl e (aC G v) := cPlace h I.1
theorem sRef (h : Q_x_X9_refuse L1 L2 v pa pb t u) : (u.1 0 308, u.1 0 309) = (pa, pb) := by rw [(cRef h).2.1, (cRef h).2.2]
theorem sTold (h : Q_x_X1_isToldInBlock L1 L2 v pa r) : r.toInt ≠ 0 ↔ (pBl (aC G v)).toInt ≤ fnd (pKn (aC G v)) pa := by
  obtain ⟨-, r3, h1, k1, h⟩ := h
  rw [← cSlot (G := G) h1]
  show _ ↔ (v.1 0 313).toInt ≤ r3.toInt
  rcases h with ⟨a, rfl⟩ | ⟨a, rfl⟩
  · exact ⟨fun q => absurd rfl q, fun q => by omega⟩
  · exact ⟨fun _ => a, fun _ => by decide⟩
theorem sNewName (h : Q_x_X5_newName L1 L2 v t r u) (k : t = false → K_x_X5_newName v r u) (I : SIq G L2 e v) : OKS G L2 e (tNew e) v t u ∧ (t = false → r = vl e (aC G u)) := by
  obtain ⟨-, -, -, -, -, -, -, h⟩ := h
  unfold OKS tNew
  rcases h with ⟨u9, h1, rfl, rfl, rfl⟩ | ⟨u2, h1, k1, r8, h2, r13, h3, -, h⟩
  · exact ⟨Or.inr ⟨rfl, by rw [(sNeed (m := 2) (by decide) h1 nom I).er, bd_er]⟩, nom⟩
  have a1 := sNeed (G := G) (m := 2) (by decide) h1 (fun _ => k1) I
  rw [a1.eo, bd_ok]
  have hv := sValue (G := G) h2 a1.si
  have ht := sTold (G := G) h3
  rw [hv] at ht
  rcases h with ⟨c, r18, h4, rfl, rfl, rfl⟩ | ⟨c, r25, h4, u9, h5, rfl, rfl, rfl⟩
  · rw [if_neg (fun q => ht.mpr q c)]
    exact ⟨Or.inl ⟨rfl, rfl, a1.si, a1.ks⟩, fun _ => sValue h4 a1.si⟩
  · rw [if_pos (ht.mp c), sRef h5, sPlace (G := G) h4 a1.si]
    exact ⟨Or.inr ⟨rfl, rfl⟩, nom⟩
theorem sWantS (h : Q_x_X5_wantSlot L1 L2 v t u) (I : SIq G L2 e v) : OKS G L2 e (tWant 1 e) v t u := by
  obtain ⟨-, -, -, -, -, -, -, r3, u2, h1, k1, h⟩ := h
  have a := cWant (G := G) h1 k1 I.1
  have I2 := I.st a.2.2.1 a.2.2.2.1
  unfold OKS tWant
  rcases h with ⟨c, rfl, rfl⟩ | ⟨c, r15, h2, u9, h3, rfl, rfl⟩
  · rw [if_neg (by have := a.2.1.mp c; omega), ← a.1]
    exact Or.inl ⟨rfl, rfl, I2, KS.fr a.2.2.2.1 k1.1 (by decide)⟩
  · have hp : pl e (aC G u2) = pl e (aC G v) := by
      show e.2.2.1 (u2.1 0 305) = e.2.2.1 (v.1 0 305)
      rw [a.2.2.2.2.1]
    rw [if_pos (by have := fun q => a.2.1.mpr q c; omega), sRef h3, sPlace (G := G) h2 I2, hp]
    exact Or.inr ⟨rfl, rfl⟩
end OKSS
