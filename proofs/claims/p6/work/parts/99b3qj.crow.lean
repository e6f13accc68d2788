/-! the class: rows of functions and globals, heads, items of globals -/
def Gp (p : Int → Int32) : GH := (false, false, false, (2, p), [])
def nF (v : MS) : Nat := (v.1 0 375).toNatClampNeg
def nG (v : MS) : Nat := (v.1 0 377).toNatClampNeg
def rF (L1 : List Nat) (v : MS) (f i : Nat) : Int32 := v.1 (5000 + rowA L1 f) i
def fsC (L1 : List Nat) (W : Nat → Int32) (v : MS) : List FN := (List.range (nF v)).map fun f => (rF L1 v f 4, rF L1 v f 3, rF L1 v f 0, rF L1 v f 2, W f)
def gsC (L2 : List Nat) (v : MS) : List GN := (List.range (nG v)).map fun g => (rF L2 v g 4, rF L2 v g 3, rF L2 v g 0, rF L2 v g 2)
def RD (L1 L2 : List Nat) : Prop := (∀ f g : Nat, f < 40 → g < 60 → rowA L1 f ≠ rowA L2 g) ∧ (∀ f g : Nat, f < 40 → g < 40 → f ≠ g → rowA L1 f ≠ rowA L1 g) ∧ (∀ f g : Nat, f < 60 → g < 60 → f ≠ g → rowA L2 f ≠ rowA L2 g)
def kC (v : MS) : TK := (fun i => if i.toInt < (v.1 0 304).toInt then v.1 301 i.toNatClampNeg else 0, fun i => if i.toInt < (v.1 0 304).toInt then v.1 303 i.toNatClampNeg else 0, fun i => if i.toInt < (v.1 0 304).toInt then v.1 302 i.toNatClampNeg else v.1 0 373)
theorem eC_mk {L2 : List Nat} {v : MS} : eC L2 v = mkE (kC v) (gsC L2 v) := by
  unfold eC mkE gsC gls
  rw [List.map_map]
  rfl
section CRW
variable {G : GH} {L1 L2 : List Nat} {e : PE} {v u : MS} {t : Bool} {r pa pb pc1 : Int32} {n : Nat} {E : FE} {S : FS} {c : RS1}
set_option maxHeartbeats 400000 in
theorem aC_fr {fl al : List Nat} (f : FC fl al v u) (h1 : ∀ i ∈ [305, 306, 307, 312, 313, 314, 315, 321, 381], i ∉ fl) (h2 : ∀ a ∈ [311, 318, 319, 320, 378, 379], a ∉ al) : aC G u = aC G v := by
  have g := fun i hi => f.2.1 i (h1 i hi)
  have a : ∀ i ∈ [311, 318, 319, 320, 378, 379], u.1 i = v.1 i := fun i hi => f.2.2 i ⟨by
    have : ∀ i ∈ [311, 318, 319, 320, 378, 379], i < 5000 := by decide
    exact this i hi, h2 i hi⟩
  unfold aC wdC caC ovC nD nC
  rw [g 305 (by decide), g 306 (by decide), g 307 (by decide), g 312 (by decide), g 313 (by decide), g 314 (by decide), g 315 (by decide), g 321 (by decide), g 381 (by decide), a 311 (by decide), a 318 (by decide), a 319 (by decide), a 320 (by decide), a 378 (by decide), a 379 (by decide)]
theorem wA_lo {a i b : Nat} {x : Int32} (h : b < 5000) : (wA v (5000 + a) i x).1 b = v.1 b := if_neg (by omega)
theorem wA_ne {a i b : Nat} {x : Int32} (h : b ≠ a) : (wA v (5000 + a) i x).1 (5000 + b) = v.1 (5000 + b) := if_neg (by omega)
theorem wA_eq {a i j : Nat} {x : Int32} : (wA v (5000 + a) i x).1 (5000 + a) j = if j = i then x else v.1 (5000 + a) j := by
  show (if 5000 + a = 5000 + a then upd (v.1 (5000 + a)) i x else v.1 (5000 + a)) j = _
  rw [if_pos rfl]
  by_cases q : j = i
  · rw [if_pos q, q]; exact updS
  · rw [if_neg q]; exact updN_ q
theorem aC_row {a i : Nat} {x : Int32} : aC G (wA v (5000 + a) i x) = aC G v := by
  unfold aC wdC caC ovC nD nC
  rw [wA_lo (b := 0) (by decide), wA_lo (b := 311) (by decide), wA_lo (b := 318) (by decide), wA_lo (b := 319) (by decide), wA_lo (b := 320) (by decide), wA_lo (b := 378) (by decide), wA_lo (b := 379) (by decide)]
theorem eC_row {a i : Nat} {x : Int32} (h : ∀ g : Nat, g < nG v → rowA L2 g ≠ a) : eC L2 (wA v (5000 + a) i x) = eC L2 v := by
  unfold eC gls
  rw [wA_lo (b := 0) (by decide), wA_lo (b := 301) (by decide), wA_lo (b := 302) (by decide), wA_lo (b := 303) (by decide)]
  simp only [Prod.mk.injEq, true_and]
  refine List.map_congr_left (fun g hg => ?_)
  rw [wA_ne (h g (List.mem_range.mp hg))]
theorem SIq.row {a i : Nat} {x : Int32} (I : SIq G L2 e v) (h : ∀ g : Nat, g < nG v → rowA L2 g ≠ a) : SIq G L2 e (wA v (5000 + a) i x) := by
  refine ⟨⟨(eC_row h).trans I.1.1, ?_, ?_⟩, ?_, I.2.2⟩
  · rw [wA_lo (b := 0) (by decide)]; exact I.1.2.1
  · rw [wA_lo (b := 0) (by decide)]; exact I.1.2.2
  · rw [wA_lo (b := 0) (by decide)]; exact I.2.1
theorem KS.row {a i : Nat} {x : Int32} : KS v (wA v (5000 + a) i x) := by
  refine ⟨KP.of ?_ ?_ ?_ ?_ ?_, ?_, ?_, ?_⟩ <;> first | (rw [wA_lo (by decide)]; done) | (rw [wA_lo (by decide)]; exact Int.le_refl _)
theorem cCF (h : Q_x_X7_changeFunction L1 L2 v pa pb pc1 u) (h0 : 0 ≤ pa.toInt ∧ pa.toInt < 40) (h1 : 0 ≤ pb.toInt ∧ pb.toInt < 6) : u = wA v (5000 + rowA L1 pa.toNatClampNeg) pb.toNatClampNeg pc1 := by
  obtain ⟨-, h⟩ := h
  rcases h with ⟨a, -⟩ | ⟨-, ⟨a, -⟩ | ⟨-, ⟨a, -⟩ | ⟨-, ⟨a, -⟩ | ⟨-, h⟩⟩⟩⟩
  · omega
  · omega
  · omega
  · omega
  · exact h
theorem cCG (h : Q_x_X7_changeGlobal L1 L2 v pa pb pc1 u) (h1 : 0 ≤ pb.toInt ∧ pb.toInt < 5) : (0 ≤ pa.toInt ∧ pa.toInt < 60 ∧ u = wA v (5000 + rowA L2 pa.toNatClampNeg) pb.toNatClampNeg pc1) ∨ ((pa.toInt < 0 ∨ 60 ≤ pa.toInt) ∧ u = v) := by
  obtain ⟨-, h⟩ := h
  rcases h with ⟨a, h⟩ | ⟨b, ⟨a, h⟩ | ⟨a, ⟨c, -⟩ | ⟨-, ⟨c, -⟩ | ⟨-, h⟩⟩⟩⟩
  · exact Or.inr ⟨Or.inl a, h⟩
  · exact Or.inr ⟨Or.inr a, h⟩
  · omega
  · omega
  · exact Or.inl ⟨b, a, h⟩
theorem cFF4 (h : Q_x_X7_functionFact L1 L2 v pa pb r) (h0 : 0 ≤ pa.toInt) (h1 : pa.toInt < (v.1 0 375).toInt) (h2 : (v.1 0 375).toInt ≤ 40) (h3 : 0 ≤ pb.toInt ∧ pb.toInt < 6) : r = v.1 (5000 + rowA L1 pa.toNatClampNeg) pb.toNatClampNeg := by
  rcases h with ⟨a, -⟩ | ⟨-, ⟨a, -⟩ | ⟨-, ⟨-, ⟨a, -⟩ | ⟨-, ⟨a, -⟩ | ⟨-, h⟩⟩⟩ | ⟨a, -⟩⟩⟩
  · omega
  · omega
  · omega
  · omega
  · exact h
  · omega
theorem cFun {W : Nat → Int32} (h : Q_x_X7_functionNamed L1 L2 v pa r) (J3 : 0 ≤ (v.1 0 375).toInt ∧ (v.1 0 375).toInt ≤ 40) : (r.toInt = -1 ∧ fnm (fsC L1 W v) pa = none) ∨ (0 ≤ r.toInt ∧ r.toInt < (v.1 0 375).toInt ∧ fnm (fsC L1 W v) pa = some (rF L1 v r.toNatClampNeg 4, rF L1 v r.toNatClampNeg 3, rF L1 v r.toNatClampNeg 0, rF L1 v r.toNatClampNeg 2, W r.toNatClampNeg)) := by
  obtain ⟨ka, hr, h0, h⟩ := h
  have n0 : ((nF v : Nat) : Int) = (v.1 0 375).toInt := natI J3.1
  have inv : ∀ j : Nat, (j : Int) < ka.toInt → rF L1 v j 4 ≠ pa := by
    refine RT.ind (fun (y : Int32) => ∀ j : Nat, (j : Int) < y.toInt → rF L1 v j 4 ≠ pa) hr (fun j hj => by
      have e0 : (0 : Int32).toInt = 0 := (by decide)
      omega) ?_
    intro x y _ hx hy
    obtain ⟨a, b, r6, f6, -, c, rfl⟩ := hy
    have e1 : (x + (1 : Int32)).toInt = x.toInt + 1 := add_z rfl (by decide) (by omega) (by omega)
    intro j hj
    by_cases q : (j : Int) = x.toInt
    · have w := cFF4 f6 a b J3.2 (by decide)
      have xj : x.toNatClampNeg = j := by have := natI (a := x) a; omega
      rw [xj] at w
      exact fun k => c (congrArg Int32.toInt (w.trans k))
    · exact hx j (by omega)
  rcases h with ⟨a, rfl⟩ | ⟨a, r6, f6, -, c, hk⟩
  · refine Or.inl ⟨by decide, ?_⟩
    exact find_l (p := fun f : FN => f.1 == pa) (F := fun f => (rF L1 v f 4, rF L1 v f 3, rF L1 v f 0, rF L1 v f 2, W f)) (nF v) (fun j hj => beq_false_of_ne (inv j (by omega)))
  · rw [hk]
    refine Or.inr ⟨h0, a, ?_⟩
    have w := cFF4 f6 h0 a J3.2 (by decide)
    exact find_s (p := fun f : FN => f.1 == pa) (F := fun f => (rF L1 v f 4, rF L1 v f 3, rF L1 v f 0, rF L1 v f 2, W f)) (k := ka.toNatClampNeg) (by
      show (rF L1 v ka.toNatClampNeg 4 == pa) = true
      rw [beq_iff_eq]
      exact w.symm.trans (Int32.toInt_inj.mp c)) (fun j hj => beq_false_of_ne (inv j (by have := natI h0; omega))) (nF v) (by have := natI h0; omega)
/-! what stands before a function begins is of no account -/
theorem nTake {s : PS} : tTake e (tBegF s) = bd (tTake e s) fun s => .ok (tBegF s) := by
  show (if (1500 : Int) ≤ (pAt s).toInt ∨ pDu s = true then _ else _) = bd (if (1500 : Int) ≤ (pAt s).toInt ∨ pDu s = true then _ else _) _
  split <;> rfl
theorem nNeed {s : PS} {m : Int} : tNeed m e (tBegF s) = bd (tNeed m e s) fun s => .ok (tBegF s) := by
  show (if (kd e s).toInt = m then _ else _) = bd (if (kd e s).toInt = m then _ else _) _
  split <;> rfl
theorem nExp {s : PS} {m : Int} : tExp m e (tBegF s) = bd (tExp m e s) fun s => .ok (tBegF s) := by
  unfold tExp
  rw [nNeed, bd_as, bd_as]
  congr 1
  funext s
  rw [bd_ok, nTake]
theorem nOpen {s : PS} : tOpen e (tBegF s) = bd (tOpen e s) fun s => .ok (tBegF s) := by
  show (if (40 : Int) ≤ (pOp s).toInt then _ else bd (tTake e (tBegF s)) _) = bd (if (40 : Int) ≤ (pOp s).toInt then _ else bd (tTake e s) _) _
  rw [nTake]
  split
  · rfl
  · rw [bd_as, bd_as]
    rfl
theorem nRow {s : PS} : tRowN e (tBegF s) = bd (tRowN e s) fun q => .ok (q.1, tBegF q.2) := by
  unfold tRowN
  rw [nOpen, bd_as, bd_as]
  congr 1
  funext s
  rw [bd_ok]
  show (if (kd e s).toInt = 4 then _ else bd (tNeed 3 e (tBegF s)) _) = _
  by_cases q : (kd e s).toInt = 4
  · rw [if_pos q, if_pos q]; rfl
  · rw [if_neg q, if_neg q, nNeed, bd_as, bd_as]
    congr 1
    funext s
    rw [bd_ok]
    show (if (vl e s).toInt < 1 ∨ (1000 : Int) < (vl e s).toInt then _ else bd (tTake e (tBegF s)) _) = _
    by_cases q2 : (vl e s).toInt < 1 ∨ (1000 : Int) < (vl e s).toInt
    · rw [if_pos q2, if_pos q2]; rfl
    · rw [if_neg q2, if_neg q2, nTake, bd_as, bd_as]
      congr 1
      funext s2
      rw [bd_ok, nExp, bd_as, bd_as]
      rfl
set_option maxHeartbeats 400000 in
theorem sHead {W : Nat → Int32} {K : TK} {x : IS} (h : Q_x_X5_headOfItem L1 L2 v t r u) (I : SIq G L2 (mkE K x.2.2) v) (hx : x.1 = tBegF (aC G v)) (hf : x.2.1 = fsC L1 W v) (J3 : 0 ≤ (v.1 0 375).toInt ∧ (v.1 0 375).toInt ≤ 40) : (t = false ∧ tHead K x = .ok (tBegF (aC G u), x.2) ∧ SIq G L2 (mkE K x.2.2) u ∧ KS v u ∧ r = kb (mkE K x.2.2) (aC G u) ∧ FC [305] [0] v u ∧ RS v u) ∨ (t = true ∧ tHead K x = .error (u.1 0 308, u.1 0 309)) := by
  obtain ⟨-, -, -, -, -, -, h⟩ := h
  unfold tHead
  rw [hx, nExp]
  rcases h with ⟨u9, h1, rfl, rfl, rfl⟩ | ⟨u2, h1, k1, h⟩
  · exact Or.inr ⟨rfl, by simp only [(sExp (G := G) (m := 10) (by decide) h1 nom I).er, bd_er]⟩
  have a1 := sExp (G := G) (m := 10) (by decide) h1 (fun _ => k1) I
  rw [a1.eo, bd_ok, bd_ok, nNeed]
  rcases h with ⟨u9, h2, rfl, rfl, rfl⟩ | ⟨u7, h2, k2, r14, h3, r17, h4, h⟩
  · exact Or.inr ⟨rfl, by simp only [(sNeed (G := G) (m := 2) (by decide) h2 nom a1.si).er, bd_er]⟩
  have a2 := sNeed (G := G) (m := 2) (by decide) h2 (fun _ => k2) a1.si
  rw [a2.eo, bd_ok, bd_ok]
  have f14 := sValue (G := G) h3 a2.si
  have fr : FC [305] [0] v u7 := (k1.1.up (by decide) (by decide)).tr (k2.1.up (by decide) (by decide))
  have rs : RS v u7 := RS.tr (by first | exact k1.2.2.2 | exact k1.2.2 | exact k1.2) (by first | exact k2.2.2.2 | exact k2.2.2 | exact k2.2)
  have e75 : u7.1 0 375 = v.1 0 375 := fr.2.1 375 (by decide)
  have hf2 : x.2.1 = fsC L1 W u7 := by
    rw [hf]
    unfold fsC nF rF
    rw [e75]
    refine List.map_congr_left (fun f _ => ?_)
    rw [rs.1 _ (by omega)]
  have c4 := cFun (W := W) h4 (by rw [e75]; exact J3)
  rw [← hf2, f14] at c4
  have ev : vl (mkE K x.2.2) (tBegF (aC G u7)) = vl (mkE K x.2.2) (aC G u7) := rfl
  have ep : pl (mkE K x.2.2) (tBegF (aC G u7)) = pl (mkE K x.2.2) (aC G u7) := rfl
  rw [ev, ep]
  have no : ∀ {α : Type} {a : α}, some a ≠ none := fun q => nomatch q
  rcases h with ⟨c5, r23, h5, u9, h6, rfl, rfl, rfl⟩ | ⟨c5, r30, h5, h⟩
  · rw [if_pos (Or.inl (by
      rcases c4 with ⟨q, -⟩ | ⟨-, -, q⟩
      · exact absurd q c5
      · rw [q]; exact no)), sRef h6, sPlace (G := G) h5 a2.si]
    exact Or.inr ⟨rfl, rfl⟩
  · have c6 := cGlob h5 a2.si.1
    rw [f14] at c6
    have q4 : fnm x.2.1 (vl (mkE K x.2.2) (aC G u7)) = none := by
      rcases c4 with ⟨-, q⟩ | ⟨q, -⟩
      · exact q
      · omega
    rcases h with ⟨c7, r35, h8, rfl, rfl, rfl⟩ | ⟨c7, r44, h8, u9, h9, rfl, rfl, rfl⟩
    · rw [if_neg (by
        intro q
        rcases q with q | q
        · exact q q4
        · rcases c6 with ⟨-, q6⟩ | ⟨q6, -⟩
          · exact q q6
          · omega)]
      exact Or.inl ⟨rfl, rfl, a2.si, a1.ks.tr a2.ks, sKindB h8 a2.si, fr, rs⟩
    · rw [if_pos (Or.inr (by
        rcases c6 with ⟨q6, -⟩ | ⟨-, -, q6⟩
        · exact absurd q6 c7
        · rw [q6]; exact no)), sRef h9, sPlace (G := G) h8 a2.si]
      exact Or.inr ⟨rfl, rfl⟩
end CRW
