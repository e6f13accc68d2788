/-! items: the reading -/
abbrev TK : Type := (Int32 → Int32) × (Int32 → Int32) × (Int32 → Int32)
abbrev FN : Type := Int32 × Int32 × Int32 × Int32 × Int32
abbrev GN : Type := Int32 × Int32 × Int32 × Int32
abbrev IS : Type := PS × List FN × List GN
def mkE (K : TK) (gs : List GN) : PE := (K.1, K.2.1, K.2.2, gs.map (fun g => (g.1, g.2.2.2)))
def tParam (e : PE) (s : PS) : PX PS := bd (tExp 10 e s) fun s => bd (tNew e s) fun s1 => if (8 : Int) ≤ (pKc s1).toInt then .error (5, pl e s1) else bd (tWant 1 e s1) fun s => bd (tTake e s) fun s => .ok (tLearn (vl e s1) s)
def tMoreP : Nat → PE → PS → PX PS
  | 0, _, _ => .error (0, 0)
  | f + 1, e, s => if (kd e s).toInt = 37 then bd (tTake e s) fun s => bd (tParam e s) (tMoreP f e) else .ok s
def tParams (e : PE) (s : PS) : PX PS := bd (tOpen e s) fun s => bd (if (kd e s).toInt = 31 then .ok s else bd (tParam e s) (tMoreP 1502 e)) fun s => bd (tExp 31 e s) fun s => .ok (tClose s)
def tBegF (s : PS) : PS := sMo (sPb (sBl (sKn s 0 []) 0) 0) 0
def tBody (S : FS) (e : PE) (s : PS) : PX PS := bd (tNeed 32 e s) fun s => bd (tOpen e s) fun s => bd (tStats S 1502 e s) fun s => bd (tExp 33 e s) fun s => .ok (em 4 (em 1 (tClose s)))
def tFunc (S : FS) (e : PE) (s : PS) : PX (PS × Int32 × Int32 × Int32) := bd (tTake e (tBegF s)) fun s => bd (tParams e s) fun s1 => bd (tBody S e (sLo (em (9 + 2 * pKc s1) s1) false)) fun s2 => .ok (s2, pKc s1, 8 + 4 * pMo s2, pWd s1)
def tFItem (S : FS) (K : TK) (x : IS) : PX IS := if 40 ≤ x.2.1.length then .error (5, pl (mkE K x.2.2) x.1) else bd (tFunc S (mkE K x.2.2) x.1) fun q => .ok (tBegF q.1, x.2.1 ++ [(vl (mkE K x.2.2) x.1, pl (mkE K x.2.2) x.1, q.2.1, q.2.2.1, q.2.2.2)], x.2.2)
def tRowN (e : PE) (s : PS) : PX (Int32 × PS) := bd (tOpen e s) fun s => if (kd e s).toInt = 4 then .error (5, pl e s) else bd (tNeed 3 e s) fun s => if (vl e s).toInt < 1 ∨ (1000 : Int) < (vl e s).toInt then .error (5, pl e s) else bd (tTake e s) fun s2 => bd (tExp 35 e s2) fun s3 => .ok (vl e s, tClose s3)
def tGItem (K : TK) (x : IS) : PX IS :=
  if ((kb (mkE K x.2.2) x.1).toInt = 34 ∨ (kb (mkE K x.2.2) x.1).toInt = 36) ∧ 60 ≤ x.2.2.length then .error (5, pl (mkE K x.2.2) x.1)
  else bd (tTake (mkE K x.2.2) x.1) fun s => bd (if (kb (mkE K x.2.2) x.1).toInt = 34 then tRowN (mkE K x.2.2) s else .ok (1, s)) fun q => bd (tExp 36 (mkE K x.2.2) q.2) fun s => .ok (s, x.2.1, x.2.2 ++ [(vl (mkE K x.2.2) x.1, pl (mkE K x.2.2) x.1, q.1, if (kb (mkE K x.2.2) x.1).toInt = 34 then 1 else 0)])
def fnm (fs : List FN) (x : Int32) : Option FN := fs.find? (fun f => f.1 == x)
def tHead (K : TK) (x : IS) : PX IS := bd (tExp 10 (mkE K x.2.2) x.1) fun s => bd (tNeed 2 (mkE K x.2.2) s) fun s => if fnm x.2.1 (vl (mkE K x.2.2) s) ≠ none ∨ gfd (mkE K x.2.2) (vl (mkE K x.2.2) s) ≠ none then .error (3, pl (mkE K x.2.2) s) else .ok (s, x.2)
def tItem (S : FS) (K : TK) (x : IS) : PX IS := bd (tHead K x) fun x => if (kb (mkE K x.2.2) x.1).toInt = 30 then tFItem S K x else tGItem K x
def tItems (S : FS) (K : TK) : Nat → IS → PX IS
  | 0, _ => .error (0, 0)
  | f + 1, x => if (kd (mkE K x.2.2) x.1).toInt = 0 then .ok x else bd (tItem S K x) (tItems S K f)
def tCalls (fs : List FN) : CA → PX Unit
  | [] => .ok ()
  | c :: l => match fnm fs c.1 with
    | none => .error (3, c.2.1)
    | some f => if f.2.2.1 = c.2.2 then tCalls fs l else .error (4, c.2.1)
section CIT
variable {G : GH} {L1 L2 : List Nat} {e : PE} {v u : MS} {t : Bool} {r pa : Int32} {n : Nat} {E : FE} {S : FS} {c : RS1}
set_option maxHeartbeats 400000 in
theorem sParam  (h : Q_x_X5_parameter L1 L2 v t u) (I : SIq G L2 e v) : OKS G L2 e (tParam e) v t u := by
  obtain ⟨-, -, -, -, -, -, -, h⟩ := h
  unfold OKS tParam
  rcases h with ⟨u9, h1, rfl, rfl⟩ | ⟨u2, h1, k1, h⟩
  · exact Or.inr ⟨rfl, by simp only [(sExp (G := G) (m := 10) (by decide) h1 nom I).er, bd_er]⟩
  have a1 := sExp (G := G) (m := 10) (by decide) h1 (fun _ => k1) I
  rw [a1.eo]
  try rw [bd_ok]
  have I1 := a1.si
  have K1 := KS.rf.tr a1.ks
  rcases h with ⟨u9, h2, rfl, rfl⟩ | ⟨r11, u10, h2, k2, h⟩
  · exact Or.inr ⟨rfl, by simp only [((sNewName (G := G) h2 nom I1).1).er, bd_er]⟩
  have a2 := (sNewName (G := G) h2 (fun _ => k2) I1).1
  rw [a2.eo]
  try rw [bd_ok]
  have I2 := a2.si
  have K2 := K1.tr a2.ks
  have fr11 := (sNewName (G := G) h2 (fun _ => k2) I1).2 rfl
  rcases h with ⟨c3, h⟩ | ⟨c3, h⟩
  · rw [if_neg (show ¬ (8 : Int) ≤ (pKc (aC G u10)).toInt from by show ¬ (8 : Int) ≤ (u10.1 0 312).toInt; omega)] -- c3
    rcases h with ⟨u9, h4, rfl, rfl⟩ | ⟨u21, h4, k4, h⟩
    · exact Or.inr ⟨rfl, by simp only [(sWantS (G := G) h4 I2).er, bd_er]⟩
    have a4 := sWantS (G := G) h4 I2
    rw [a4.eo]
    try rw [bd_ok]
    have I4 := a4.si
    have K4 := K2.tr a4.ks
    rcases h with ⟨u9, h5, rfl, rfl⟩ | ⟨u27, h5, k5, h⟩
    · exact Or.inr ⟨rfl, by simp only [(sTake (G := G) h5 nom I4).er, bd_er]⟩
    have a5 := sTake (G := G) h5 (fun _ => k5) I4
    rw [a5.eo]
    try rw [bd_ok]
    have I5 := a5.si
    have K5 := K4.tr a5.ks
    obtain ⟨u32, h6, k6, h⟩ := h
    have a6 := sLearn (G := G) h6 k6 I5
    rw [fr11] at a6
    rw [← a6.1]
    try rw [bd_ok]
    have I6 := a6.2.1
    have K6 := K5.tr a6.2.2
    obtain ⟨rfl, rfl⟩ := h
    exact Or.inl ⟨rfl, rfl, I6, K6⟩
  · rw [if_pos (show (8 : Int) ≤ (pKc (aC G u10)).toInt from by show (8 : Int) ≤ (u10.1 0 312).toInt; omega)] -- c3
    obtain ⟨r45, h7, h⟩ := h
    have fr45 := sPlace (G := G) h7 I2
    obtain ⟨u9, h8, rfl, rfl⟩ := h
    exact Or.inr ⟨rfl, by rw [sRef h8, fr45]⟩
set_option maxHeartbeats 400000 in
theorem sParams (h : Q_x_X5_parameters L1 L2 v t u) (I : SIq G L2 e v) : OKS G L2 e (tParams e) v t u := by
  obtain ⟨-, -, -, -, -, -, -, -, h⟩ := h
  unfold OKS tParams
  rcases h with ⟨u9, h1, rfl, rfl⟩ | ⟨u2, h1, k1, r7, h2, h⟩
  · exact Or.inr ⟨rfl, by simp only [(sOpen (G := G) h1 nom I).er, bd_er]⟩
  have a1 := sOpen (G := G) h1 (fun _ => k1) I
  rw [a1.eo, bd_ok]
  have f7 := sKind (G := G) h2 a1.si
  have fin : ∀ (w : MS) (X : PX PS), SIq G L2 e w → KS v w → X = .ok (aC G w) → ((∃ u9, Q_x_X9_expect L1 L2 w 31 true u9 ∧ t = true ∧ u = u9) ∨ (∃ u12, Q_x_X9_expect L1 L2 w 31 false u12 ∧ K_x_X9_expect w 31 u12 ∧ ∃ u16, Q_x_X9_close L1 L2 u12 u16 ∧ K_x_X9_close u12 u16 ∧ t = false ∧ u = u16)) → ((t = false ∧ (bd X fun s => bd (tExp 31 e s) fun s => .ok (tClose s)) = .ok (aC G u) ∧ SIq G L2 e u ∧ KS v u) ∨ (t = true ∧ (bd X fun s => bd (tExp 31 e s) fun s => .ok (tClose s)) = .error (u.1 0 308, u.1 0 309))) := by
    intro w X Iw Kw hX h
    rw [hX, bd_ok]
    rcases h with ⟨u9, h3, rfl, rfl⟩ | ⟨u12, h3, k3, u16, h4, k4, rfl, rfl⟩
    · exact Or.inr ⟨rfl, by simp only [(sExp (G := G) (m := 31) (by decide) h3 nom Iw).er, bd_er]⟩
    · have a3 := sExp (G := G) (m := 31) (by decide) h3 (fun _ => k3) Iw
      have a4 := sClose (G := G) h4 k4 a3.si
      rw [a3.eo, bd_ok, ← a4.1]
      exact Or.inl ⟨rfl, rfl, a4.2.1, (Kw.tr a3.ks).tr a4.2.2⟩
  rcases h with ⟨c7, h⟩ | ⟨c7, h⟩
  · rw [if_pos (by rw [← f7]; exact c7)]
    exact fin u2 _ a1.si a1.ks rfl h
  rw [if_neg (by rw [← f7]; exact c7)]
  rcases h with ⟨u9, h3, rfl, rfl⟩ | ⟨u34, h3, k3, ka, w25, hr, -, g5, -, -, gk, -, gp, -, -, h⟩
  · exact Or.inr ⟨rfl, by simp only [(sParam (G := G) h3 a1.si).er, bd_er]⟩
  have a3 := sParam (G := G) h3 a1.si
  have k35 := k3.2.2.2.2.1
  have k15 := k1.2.2.2.2.1
  have z1 := h1.2.1.1
  have inv : SIq G L2 e w25 ∧ KS v w25 ∧ (∃ f : Nat, bd (tParam e (aC G u2)) (tMoreP 1502 e) = tMoreP f e (aC G w25) ∧ (1501 : Int) ≤ f + (w25.1 0 305).toInt) ∧ ka.toInt + 1 ≤ (w25.1 0 305).toInt := by
    refine RT.ind (fun (y : Int32 × MS) => SIq G L2 e y.2 ∧ KS v y.2 ∧ (∃ f : Nat, bd (tParam e (aC G u2)) (tMoreP 1502 e) = tMoreP f e (aC G y.2) ∧ (1501 : Int) ≤ f + (y.2.1 0 305).toInt) ∧ y.1.toInt + 1 ≤ (y.2.1 0 305).toInt) hr ⟨a3.si, a1.ks.tr a3.ks, ⟨1502, by rw [a3.eo, bd_ok], by show (1501 : Int) ≤ 1502 + (u34.1 0 305).toInt; omega⟩, by show (0 : Int32).toInt + 1 ≤ (u34.1 0 305).toInt; have : (0 : Int32).toInt = 0 := (by decide); omega⟩ ?_
    intro x y _ hx hy
    obtain ⟨Ix, Kx, ⟨f, hf, hm⟩, hk⟩ := hx
    obtain ⟨-, y5, -, -, yk, -, -, -, -, c1, r59, h59, c59, u80, h80, k80, u90, h90, k90, rfl⟩ := hy
    have f59 := sKind (G := G) h59 Ix
    have b1 := sTake (G := G) h80 (fun _ => k80) Ix
    have b2 := sParam (G := G) h90 b1.si
    have p1 := k80.2.2.1
    have p2 := k90.2.2.2.2.1
    have p3 := k90.2.1
    obtain ⟨f0, rfl⟩ : ∃ f0, f = f0 + 1 := ⟨f - 1, by omega⟩
    refine ⟨b2.si, (Kx.tr b1.ks).tr b2.ks, ⟨f0, ?_, ?_⟩, ?_⟩
    · rw [hf]
      show (if (kd e (aC G x.2)).toInt = 37 then _ else _) = _
      rw [if_pos (by rw [← f59]; exact c59), b1.eo, bd_ok, b2.eo, bd_ok]
    · show (1501 : Int) ≤ f0 + (u90.1 0 305).toInt
      omega
    · have e1 : (x.1 + (1 : Int32)).toInt = x.1.toInt + 1 := add_z rfl (by decide) (by omega) (by omega)
      show (x.1 + (1 : Int32)).toInt + 1 ≤ (u90.1 0 305).toInt
      omega
  obtain ⟨Ix, Kx, ⟨f, hf, hm⟩, hk⟩ := inv
  obtain ⟨f0, rfl⟩ : ∃ f0, f = f0 + 1 := ⟨f - 1, by omega⟩
  rcases h with ⟨c1, -⟩ | ⟨c1, r59, h59, h⟩
  · omega
  have f59 := sKind (G := G) h59 Ix
  have hf2 : bd (tParam e (aC G u2)) (tMoreP 1502 e) = if (kd e (aC G w25)).toInt = 37 then bd (tTake e (aC G w25)) fun s => bd (tParam e s) (tMoreP f0 e) else .ok (aC G w25) := hf
  rcases h with ⟨c2, h⟩ | ⟨c2, h⟩
  · rw [if_neg (by rw [← f59]; exact c2)] at hf2
    exact fin w25 _ Ix Kx hf2 h
  · rw [if_pos (by rw [← f59]; exact c2)] at hf2
    rw [hf2]
    rcases h with ⟨u9, h4, rfl, rfl⟩ | ⟨u80, h4, k4, u9, h5, rfl, rfl⟩
    · exact Or.inr ⟨rfl, by simp only [(sTake (G := G) h4 nom Ix).er, bd_er]⟩
    · have b1 := sTake (G := G) h4 (fun _ => k4) Ix
      exact Or.inr ⟨rfl, by simp only [b1.eo, bd_ok, (sParam (G := G) h5 b1.si).er, bd_er]⟩
set_option maxHeartbeats 400000 in
theorem sRow (h : Q_x_X5_rowSize L1 L2 v t r u) (I : SIq G L2 e v) : (t = false ∧ tRowN e (aC G v) = .ok (r, aC G u) ∧ SIq G L2 e u ∧ KS v u) ∨ (t = true ∧ tRowN e (aC G v) = .error (u.1 0 308, u.1 0 309)) := by
  obtain ⟨-, -, -, -, -, -, -, h⟩ := h
  unfold tRowN
  rcases h with ⟨u9, h1, rfl, rfl, rfl⟩ | ⟨u2, h1, k1, r7, h2, h⟩
  · exact Or.inr ⟨rfl, by simp only [(sOpen (G := G) h1 nom I).er, bd_er]⟩
  have a1 := sOpen (G := G) h1 (fun _ => k1) I
  rw [a1.eo, bd_ok]
  have f7 := sKind (G := G) h2 a1.si
  rcases h with ⟨c7, h⟩ | ⟨c7, r71, -, r76, h4, u9, h5, rfl, rfl, rfl⟩
  · rw [if_neg (by rw [← f7]; exact c7)]
    rcases h with ⟨u9, h3, rfl, rfl, rfl⟩ | ⟨u13, h3, k3, r19, h4, h⟩
    · exact Or.inr ⟨rfl, by simp only [(sNeed (G := G) (m := 3) (by decide) h3 nom a1.si).er, bd_er]⟩
    have a3 := sNeed (G := G) (m := 3) (by decide) h3 (fun _ => k3) a1.si
    rw [a3.eo, bd_ok]
    have f19 := sValue (G := G) h4 a3.si
    rw [← f19]
    rcases h with ⟨c1, r26, h5, u9, h6, rfl, rfl, rfl⟩ | ⟨c1, ⟨c2, h⟩ | ⟨c2, r63, h5, u9, h6, rfl, rfl, rfl⟩⟩
    · rw [if_pos (Or.inl c1), sRef h6, sPlace (G := G) h5 a3.si]
      exact Or.inr ⟨rfl, rfl⟩
    · rw [if_neg (by omega)]
      rcases h with ⟨u9, h5, rfl, rfl, rfl⟩ | ⟨u35, h5, k5, h⟩
      · exact Or.inr ⟨rfl, by simp only [(sTake (G := G) h5 nom a3.si).er, bd_er]⟩
      have a5 := sTake (G := G) h5 (fun _ => k5) a3.si
      rw [a5.eo, bd_ok]
      rcases h with ⟨u9, h6, rfl, rfl, rfl⟩ | ⟨u40, h6, k6, u46, h7, k7, rfl, rfl, rfl⟩
      · exact Or.inr ⟨rfl, by simp only [(sExp (G := G) (m := 35) (by decide) h6 nom a5.si).er, bd_er]⟩
      have a6 := sExp (G := G) (m := 35) (by decide) h6 (fun _ => k6) a5.si
      have a7 := sClose (G := G) h7 k7 a6.si
      rw [a6.eo, bd_ok, ← a7.1]
      exact Or.inl ⟨rfl, rfl, a7.2.1, (((a1.ks.tr a3.ks).tr a5.ks).tr a6.ks).tr a7.2.2⟩
    · rw [if_pos (Or.inr c2), sRef h6, sPlace (G := G) h5 a3.si]
      exact Or.inr ⟨rfl, rfl⟩
  · rw [if_pos (by rw [← f7]; exact c7), sRef h5, sPlace (G := G) h4 a1.si]
    exact Or.inr ⟨rfl, rfl⟩
end CIT
