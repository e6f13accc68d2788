/-! the class: which words a deed gets, III (written by gzc.py) -/
def paW (k : Nat) : List Int32 := [iW 8195 6 5 (((-4) : Int32) * nI k), sW 6 (fW (nI k)) 8]
def paL : Nat → List Int32
  | 0 => []
  | n + 1 => paL n ++ paW n
def enW (fr lim p0 : Int32) : List Int32 := [iW 19 2 2 (-fr), uW 6 lim, iW 19 6 6 (loW lim), bW 20579 2 6 12, iW 19 17 0 1, 1048691, sW 1 (fr - (4 : Int32)) 2, sW 8 (fr - (8 : Int32)) 2, iW 19 8 2 fr] ++ paL p0.toNatClampNeg
/-- facts of functions, of globals, the deeds' addresses, where times and over lie, the limit -/
abbrev WC : Type := (Int32 → Nat → Int32) × (Int32 → Nat → Int32) × (Nat → Int32) × Int32 × Int32 × Int32
def wcOf (L1 L2 : List Nat) (v : MS) : WC := (fF L1 v, gF L2 v, v.1 336, v.1 0 341, v.1 0 342, v.1 0 384)
def wD (c : WC) (n d x y : Int32) : List Int32 :=
  if d = 0 then enW (c.1 x 2) c.2.2.2.2.2 (c.1 x 0) else if d = 1 then [iW 8195 1 8 (-4), iW 19 2 8 0, iW 8195 8 8 (-8), iW 103 0 1 0] else if d = 2 then nuW x else if d = 3 then [iW 8195 10 8 (fW x)] else if d = 4 then [sW 10 (fW x) 8]
  else if d = 12 then [iW 1073741875 10 0 10] else if d = 13 then [iW 12307 10 10 1] else if d = 14 then [iW 16403 10 10 (-1)] else if d = 15 then [iW 12339 10 0 10]
  else if d = 16 ∨ d = 17 ∨ d = 18 ∨ d = 19 then jpW d (adW c.2.2.1 x) n else if d = 20 then iW 8195 5 8 (fW y) :: sgW c.2.2.2.1 c.2.2.2.2.1 (n + 1) x else if d = 21 then caW (c.1 x 0) (c.1 x 1) y n
  else if d = 22 then [iW 19 17 0 1, 115] else if d = 23 then [iW 19 17 0 2, 115] else if d = 24 then [] else plW (c.2.1 x 1) (c.2.1 x 0) d x y
/-- what a function's deed ENTER does beside: its address is noted -/
def RSe (L1 : List Nat) (d x n : Int32) (v u : MS) : Prop := ∀ a, 5000 ≤ a → u.1 a = if d = 0 ∧ 0 ≤ x.toInt ∧ x.toInt < 40 ∧ a = 5000 + rowA L1 x.toNatClampNeg then upd (v.1 a) 1 ((4 : Int32) * n) else v.1 a
def EMd (L1 : List Nat) (N : Nat) (v u : MS) (d x : Int32) (ws : List Int32) : Prop := EMc N v u ws ∧ FC [337, 339, 340] [0, 382] v u ∧ RSe L1 d x (v.1 0 337) v u
section ZWC
variable {L1 L2 : List Nat} {N : Nat} {v u w x z : MS} {pa pb pc1 pd r d y : Int32} {a b : List Int32} {k : Nat}
theorem EMt.dd (h : EMt N v u a) (hd : d ≠ 0) : EMd L1 N v u d y a := ⟨h.1, h.2.1, fun i hi => by rw [if_neg (fun q => hd q.1)]; exact h.2.2 i hi⟩
theorem EMs.dd (h : EMs N v u a) (hd : d ≠ 0) : EMd L1 N v u d y a := h.t.dd hd
theorem fF_e (h5 : u.1 0 375 = v.1 0 375) (hk : k ≠ 1) (hr : RSe L1 d y r v u) : fF L1 u pa k = fF L1 v pa k := by
  unfold fF rF
  rw [h5, hr _ (by omega)]
  split
  · split
    · rw [updN_ hk]
    · rfl
  · rfl
theorem wEnter (hN : N ≤ 4096) (h : Q_x_X0_layEnter L1 L2 N v pa u) : EMd L1 N v u 0 pa (enW (fF L1 v pa 2) (v.1 0 384) (fF L1 v pa 0)) := by
  obtain ⟨h0, r3, h3, -, u6, h6, -, u10, h10, -, u13, h13, -, r17, h17, u19, h19, -, u22, h22, -, u25, h25, -, u28, h28, -, u31, h31, -, u34, h34, -, ka, w117, hr, fc, bk, b3, r38, h38, -, c38, e⟩ := h
  have e3 := wFF (k := 2) (by decide) (by decide) h3
  have e17 := wLow h17
  have E1 := wImm hN h10
  have E2 := wUpp hN h13
  have E6 : FC [337] [0, 382] v u6 ∧ EMc N v u6 [] ∧ RSe L1 0 pa (v.1 0 337) v u6 ∧ u6.1 0 337 = v.1 0 337 := by
    obtain ⟨-, h6⟩ := h6
    have same : ¬ (0 ≤ pa.toInt ∧ pa.toInt < 40) → u6 = v → FC [337] [0, 382] v u6 ∧ EMc N v u6 [] ∧ RSe L1 0 pa (v.1 0 337) v u6 ∧ u6.1 0 337 = v.1 0 337 := fun g e => by
      rw [e]
      exact ⟨FC.rf v, EMc.rf h0.1, fun i hi => by rw [if_neg (fun q => g ⟨q.2.1, q.2.2.1⟩)], rfl⟩
    rcases h6 with ⟨c, e⟩ | ⟨c, ⟨c1, e⟩ | ⟨c1, ⟨c2, e⟩ | ⟨c2, ⟨c3, e⟩ | ⟨c3, e⟩⟩⟩⟩
    · exact same (by omega) e
    · exact same (by omega) e
    · exact absurd c2 (by decide)
    · exact absurd c3 (by decide)
    · have e : u6 = wA v (5000 + rowA L1 pa.toNatClampNeg) 1 ((4 : Int32) * v.1 0 337) := e
      have f0 : ∀ i, u6.1 0 i = v.1 0 i := fun i => by
        rw [e]
        show (if 0 = 5000 + rowA L1 pa.toNatClampNeg then _ else v.1 0) i = _
        rw [if_neg (by omega)]
      have fa : ∀ i, i < 5000 → u6.1 i = v.1 i := fun i hi => by
        rw [e]
        show (if i = 5000 + rowA L1 pa.toNatClampNeg then _ else v.1 i) = _
        rw [if_neg (by omega)]
      have n := natI h0.1
      refine ⟨⟨fun q => ?_, fun i _ => f0 i, fun i hi => fa i hi.1⟩, ⟨⟨by rw [f0]; exact (Int.add_zero _).symm, h0.1⟩, fun _ _ => ⟨fun j x q => by simp at q, fun j _ => by rw [fa 382 (by decide)]⟩⟩, fun i hi => ?_, f0 337⟩
      · rw [e]
        exact RP.w (i := 1) q (by decide) (Or.inl (by decide))
      · rw [e]
        show (if i = 5000 + rowA L1 pa.toNatClampNeg then _ else v.1 i) = _
        by_cases q : i = 5000 + rowA L1 pa.toNatClampNeg
        · rw [if_pos q, if_pos ⟨rfl, c, c1, q⟩, q]
        · rw [if_neg q, if_neg (fun z => q z.2.2.2)]
  obtain ⟨f6, m6, r6, n6⟩ := E6
  have l10 : u10.1 0 384 = v.1 0 384 := (E1.2.1.2.1 384 (by decide)).trans (f6.2.1 384 (by decide))
  have l13 : u13.1 0 384 = v.1 0 384 := (E2.2.1.2.1 384 (by decide)).trans l10
  rw [l10] at E2
  rw [l13] at e17
  rw [e17] at h19
  have E : EMs N u6 u34 [iW 19 2 2 (-r3), uW 6 (v.1 0 384), iW 19 6 6 (loW (v.1 0 384)), bW 20579 2 6 12, iW 19 17 0 1, 1048691, sW 1 (r3 - (4 : Int32)) 2, sW 8 (r3 - (8 : Int32)) 2, iW 19 8 2 r3] := E1.tr (E2.tr ((wImm hN h19).tr ((wBra hN h22).tr ((wHalt hN h25).tr ((wSto hN h28).tr ((wSto hN h31).tr (wImm hN h34)))))))
  have c38' := fun (s : MS) (hs : RS0 u34 s) (h5 : s.1 0 375 = v.1 0 375) (r : Int32) (h : Q_x_X7_functionFact L1 L2 s pa (0 : Int32) r) => (show r = fF L1 v pa 0 by
    rw [wFF (k := 0) (by decide) (by decide) h]
    refine fF_e (d := 0) (y := pa) (r := v.1 0 337) h5 (by decide) (fun i hi => ?_)
    rw [hs i hi, E.2.2 i hi]
    exact r6 i hi)
  have iv : (0 ≤ ka.toInt ∧ (ka.toInt = 0 ∨ ka.toInt ≤ (fF L1 v pa 0).toInt)) ∧ EMs N u34 w117 (paL ka.toNatClampNeg) := by
    refine RT.ind (fun (y : Int32 × MS) => (0 ≤ y.1.toInt ∧ (y.1.toInt = 0 ∨ y.1.toInt ≤ (fF L1 v pa 0).toInt)) ∧ EMs N u34 y.2 (paL y.1.toNatClampNeg)) hr ⟨⟨by show 0 ≤ (0 : Int32).toInt; decide, Or.inl (by show (0 : Int32).toInt = 0; decide)⟩, ⟨EMc.rf (by rw [E.1.1.1, n6]; omega), FC.rf _, fun _ _ => rfl⟩⟩ ?_
    rintro ⟨a1, a2⟩ b9 _ ⟨⟨g0, g1⟩, g2⟩ hb9
    obtain ⟨q1, q2, -, s38, f38, -, q3, u44, f44, -, r48, f48, u50, f50, -, q5⟩ := hb9
    have g0 : 0 ≤ a1.toInt := g0
    have g2 : EMs N u34 a2 (paL a1.toNatClampNeg) := g2
    have q2 : 0 ≤ a1.toInt ∧ a1.toInt ≤ 1000 := q2
    have q3 : a1.toInt < s38.toInt := q3
    have z := c38' a2 g2.2.2 (q1.2.1 375 (by decide)) s38 f38
    have f48 : r48 = fW a1 := f48
    have na := natI g0
    have ea : (a1 + 1).toInt = a1.toInt + 1 := add_z rfl (by decide) (by omega) (by omega)
    have en : (a1 + 1).toNatClampNeg = a1.toNatClampNeg + 1 := by have := natI (a := a1 + 1) (by omega); omega
    have ni : nI a1.toNatClampNeg = a1 := Int32.toInt_inj.mp (by rw [nI_Z (by omega)]; omega)
    rw [q5]
    refine ⟨⟨by show 0 ≤ (a1 + 1).toInt; omega, Or.inr ?_⟩, ?_⟩
    · show (a1 + 1).toInt ≤ _
      rw [← z]
      omega
    · show EMs N u34 u50 (paL (a1 + 1).toNatClampNeg)
      rw [en]
      show EMs N u34 u50 (paL a1.toNatClampNeg ++ paW a1.toNatClampNeg)
      unfold paW
      rw [ni, ← f48]
      exact g2.tr ((wImm hN f44).tr (wSto hN f50))
  have z38 := c38' w117 iv.2.2.2 (fc.2.1 375 (by decide)) r38 h38
  have nk : ka.toNatClampNeg = (fF L1 v pa 0).toNatClampNeg := by
    rw [z38] at c38
    have n1 := natI iv.1.1
    rcases iv.1.2 with q | q
    · by_cases g : 0 ≤ (fF L1 v pa 0).toInt
      · have n2 := natI g
        omega
      · have : (fF L1 v pa 0).toNatClampNeg = 0 := by
          show (fF L1 v pa 0).toInt.toNat = 0
          omega
        omega
    · have n2 := natI (a := fF L1 v pa 0) (by omega)
      omega
  have F := E.tr iv.2
  rw [nk] at F
  rw [e]
  have M := m6.tr (f6.2.1 338 (by decide)) F.1
  unfold enW
  rw [← e3]
  refine ⟨M, ⟨fun q => F.2.1.1 (f6.1 q), fun i hi => ?_, fun i hi => (F.2.1.2.2 i hi).trans (f6.2.2 i hi)⟩, fun i hi => (F.2.2 i hi).trans (r6 i hi)⟩
  have hi' : i ∉ [337] := fun q => hi (by simp only [List.mem_cons, List.not_mem_nil, or_false] at q ⊢; exact Or.inl q)
  exact (F.2.1.2.1 i hi').trans (f6.2.1 i hi')
theorem wLay (hN : N ≤ 4096) (h : Q_x_X0_lay L1 L2 N v d y pa u) : EMd L1 N v u d y (wD (wcOf L1 L2 v) (v.1 0 337) d y pa) := by
  obtain ⟨h0, h⟩ := h
  unfold wD
  rcases h with ⟨c, u4, h4, -, e⟩ | ⟨c0, h⟩
  · rw [if_pos c, e]
    rw [c]; exact wEnter hN h4
  rcases h with ⟨c, u4, h4, -, e⟩ | ⟨c1, h⟩
  · rw [if_neg c0, if_pos c, e]
    exact (wLeave hN h4).dd (by rw [c]; decide)
  rcases h with ⟨c, u4, h4, -, e⟩ | ⟨c2, h⟩
  · rw [if_neg c0, if_neg c1, if_pos c, e]
    exact (wNum hN h4).dd (by rw [c]; decide)
  rcases h with ⟨c, u4, h4, -, e⟩ | ⟨c3, h⟩
  · rw [if_neg c0, if_neg c1, if_neg c2, if_pos c, e]
    exact (wLSl hN h4).dd (by rw [c]; decide)
  rcases h with ⟨c, u4, h4, -, e⟩ | ⟨c4, h⟩
  · rw [if_neg c0, if_neg c1, if_neg c2, if_neg c3, if_pos c, e]
    exact (wSSl hN h4).dd (by rw [c]; decide)
  rcases h with ⟨c, -, u4, h4, -, e⟩ | ⟨c5, h⟩
  · rw [if_neg (by rw [c]; decide), if_neg (by rw [c]; decide), if_neg (by rw [c]; decide), if_neg (by rw [c]; decide), if_neg (by rw [c]; decide), if_neg (by rw [c]; decide), if_neg (by rw [c]; decide), if_neg (by rw [c]; decide), if_neg (by rw [c]; decide), if_neg (by rw [c]; decide), if_neg (by rw [c]; decide), if_neg (by rw [c]; decide), if_neg (by rw [c]; decide), if_neg (by rw [c]; decide), if_neg (by rw [c]; decide), e]
    exact (wPlace hN h4).dd (by rw [c]; decide)
  rcases h with ⟨c, -, u4, h4, -, e⟩ | ⟨c6, h⟩
  · rw [if_neg (by rw [c]; decide), if_neg (by rw [c]; decide), if_neg (by rw [c]; decide), if_neg (by rw [c]; decide), if_neg (by rw [c]; decide), if_neg (by rw [c]; decide), if_neg (by rw [c]; decide), if_neg (by rw [c]; decide), if_neg (by rw [c]; decide), if_neg (by rw [c]; decide), if_neg (by rw [c]; decide), if_neg (by rw [c]; decide), if_neg (by rw [c]; decide), if_neg (by rw [c]; decide), if_neg (by rw [c]; decide), e]
    exact (wPlace hN h4).dd (by rw [c]; decide)
  rcases h with ⟨c, -, u4, h4, -, e⟩ | ⟨c7, h⟩
  · rw [if_neg (by rw [c]; decide), if_neg (by rw [c]; decide), if_neg (by rw [c]; decide), if_neg (by rw [c]; decide), if_neg (by rw [c]; decide), if_neg (by rw [c]; decide), if_neg (by rw [c]; decide), if_neg (by rw [c]; decide), if_neg (by rw [c]; decide), if_neg (by rw [c]; decide), if_neg (by rw [c]; decide), if_neg (by rw [c]; decide), if_neg (by rw [c]; decide), if_neg (by rw [c]; decide), if_neg (by rw [c]; decide), e]
    exact (wPlace hN h4).dd (by rw [c]; decide)
  rcases h with ⟨c, -, u4, h4, -, e⟩ | ⟨c8, h⟩
  · rw [if_neg (by rw [c]; decide), if_neg (by rw [c]; decide), if_neg (by rw [c]; decide), if_neg (by rw [c]; decide), if_neg (by rw [c]; decide), if_neg (by rw [c]; decide), if_neg (by rw [c]; decide), if_neg (by rw [c]; decide), if_neg (by rw [c]; decide), if_neg (by rw [c]; decide), if_neg (by rw [c]; decide), if_neg (by rw [c]; decide), if_neg (by rw [c]; decide), if_neg (by rw [c]; decide), if_neg (by rw [c]; decide), e]
    exact (wPlace hN h4).dd (by rw [c]; decide)
  rcases h with ⟨c, -, u4, h4, -, e⟩ | ⟨c9, h⟩
  · rw [if_neg (by rw [c]; decide), if_neg (by rw [c]; decide), if_neg (by rw [c]; decide), if_neg (by rw [c]; decide), if_neg (by rw [c]; decide), if_neg (by rw [c]; decide), if_neg (by rw [c]; decide), if_neg (by rw [c]; decide), if_neg (by rw [c]; decide), if_neg (by rw [c]; decide), if_neg (by rw [c]; decide), if_neg (by rw [c]; decide), if_neg (by rw [c]; decide), if_neg (by rw [c]; decide), if_neg (by rw [c]; decide), e]
    exact (wPlace hN h4).dd (by rw [c]; decide)
  rcases h with ⟨c, -, u4, h4, -, e⟩ | ⟨c10, h⟩
  · rw [if_neg (by rw [c]; decide), if_neg (by rw [c]; decide), if_neg (by rw [c]; decide), if_neg (by rw [c]; decide), if_neg (by rw [c]; decide), if_neg (by rw [c]; decide), if_neg (by rw [c]; decide), if_neg (by rw [c]; decide), if_neg (by rw [c]; decide), if_neg (by rw [c]; decide), if_neg (by rw [c]; decide), if_neg (by rw [c]; decide), if_neg (by rw [c]; decide), if_neg (by rw [c]; decide), if_neg (by rw [c]; decide), e]
    exact (wPlace hN h4).dd (by rw [c]; decide)
  rcases h with ⟨c, -, u4, h4, -, e⟩ | ⟨c11, h⟩
  · rw [if_neg (by rw [c]; decide), if_neg (by rw [c]; decide), if_neg (by rw [c]; decide), if_neg (by rw [c]; decide), if_neg (by rw [c]; decide), if_neg (by rw [c]; decide), if_neg (by rw [c]; decide), if_neg (by rw [c]; decide), if_neg (by rw [c]; decide), if_neg (by rw [c]; decide), if_neg (by rw [c]; decide), if_neg (by rw [c]; decide), if_neg (by rw [c]; decide), if_neg (by rw [c]; decide), if_neg (by rw [c]; decide), e]
    exact (wPlace hN h4).dd (by rw [c]; decide)
  rcases h with ⟨c, u4, h4, -, e⟩ | ⟨c12, h⟩
  · rw [if_neg c0, if_neg c1, if_neg c2, if_neg c3, if_neg c4, if_pos c, e]
    exact (wThr hN h4).dd (by rw [c]; decide)
  rcases h with ⟨c, u4, h4, -, e⟩ | ⟨c13, h⟩
  · rw [if_neg c0, if_neg c1, if_neg c2, if_neg c3, if_neg c4, if_neg c12, if_pos c, e]
    exact (wImm hN h4).dd (by rw [c]; decide)
  rcases h with ⟨c, u4, h4, -, e⟩ | ⟨c14, h⟩
  · rw [if_neg c0, if_neg c1, if_neg c2, if_neg c3, if_neg c4, if_neg c12, if_neg c13, if_pos c, e]
    exact (wImm hN h4).dd (by rw [c]; decide)
  rcases h with ⟨c, u4, h4, -, e⟩ | ⟨c15, h⟩
  · rw [if_neg c0, if_neg c1, if_neg c2, if_neg c3, if_neg c4, if_neg c12, if_neg c13, if_neg c14, if_pos c, e]
    exact (wThr hN h4).dd (by rw [c]; decide)
  rcases h with ⟨c, -, -, u4, h4, -, e⟩ | ⟨c16, h⟩
  · rw [if_neg c0, if_neg c1, if_neg c2, if_neg c3, if_neg c4, if_neg c12, if_neg c13, if_neg c14, if_neg c15, if_pos (Or.inl c), e]
    exact (wJump hN h4).dd (by rw [c]; decide)
  rcases h with ⟨c, -, -, u4, h4, -, e⟩ | ⟨c17, h⟩
  · rw [if_neg c0, if_neg c1, if_neg c2, if_neg c3, if_neg c4, if_neg c12, if_neg c13, if_neg c14, if_neg c15, if_pos (Or.inr (Or.inl c)), e]
    exact (wJump hN h4).dd (by rw [c]; decide)
  rcases h with ⟨c, -, -, u4, h4, -, e⟩ | ⟨c18, h⟩
  · rw [if_neg c0, if_neg c1, if_neg c2, if_neg c3, if_neg c4, if_neg c12, if_neg c13, if_neg c14, if_neg c15, if_pos (Or.inr (Or.inr (Or.inl c))), e]
    exact (wJump hN h4).dd (by rw [c]; decide)
  rcases h with ⟨c, -, -, u4, h4, -, e⟩ | ⟨c19, h⟩
  · rw [if_neg c0, if_neg c1, if_neg c2, if_neg c3, if_neg c4, if_neg c12, if_neg c13, if_neg c14, if_neg c15, if_pos (Or.inr (Or.inr (Or.inr c))), e]
    exact (wJump hN h4).dd (by rw [c]; decide)
  rcases h with ⟨c, u4, h4, -, u5, h5, -, e⟩ | ⟨c20, h⟩
  · rw [if_neg c0, if_neg c1, if_neg c2, if_neg c3, if_neg c4, if_neg c12, if_neg c13, if_neg c14, if_neg c15, if_neg (by rw [c]; decide), if_pos c, e]
    have E := wLSl hN h4
    have S := wSign hN h5
    rw [E.n1, E.2.1.2.1 341 (by decide), E.2.1.2.1 342 (by decide)] at S
    exact (E.t.tr S).dd (by rw [c]; decide)
  rcases h with ⟨c, u4, h4, -, e⟩ | ⟨c21, h⟩
  · rw [if_neg c0, if_neg c1, if_neg c2, if_neg c3, if_neg c4, if_neg c12, if_neg c13, if_neg c14, if_neg c15, if_neg (by rw [c]; decide), if_neg c20, if_pos c, e]
    exact (wCall hN h4).dd (by rw [c]; decide)
  rcases h with ⟨c, u4, h4, -, e⟩ | ⟨c22, h⟩
  · rw [if_neg c0, if_neg c1, if_neg c2, if_neg c3, if_neg c4, if_neg c12, if_neg c13, if_neg c14, if_neg c15, if_neg (by rw [c]; decide), if_neg c20, if_neg c21, if_pos c, e]
    exact (wOut hN h4).dd (by rw [c]; decide)
  rcases h with ⟨c, u4, h4, -, e⟩ | ⟨c23, h⟩
  · rw [if_neg c0, if_neg c1, if_neg c2, if_neg c3, if_neg c4, if_neg c12, if_neg c13, if_neg c14, if_neg c15, if_neg (by rw [c]; decide), if_neg c20, if_neg c21, if_neg c22, if_pos c, e]
    exact (wOut hN h4).dd (by rw [c]; decide)
  rcases h with ⟨c, e⟩ | ⟨c24, h⟩
  · rw [if_neg c0, if_neg c1, if_neg c2, if_neg c3, if_neg c4, if_neg c12, if_neg c13, if_neg c14, if_neg c15, if_neg (by rw [c]; decide), if_neg c20, if_neg c21, if_neg c22, if_neg c23, if_pos c, e]
    exact EMs.dd (v := v) (u := v) ⟨EMc.rf h0.1, FC.rf v, fun _ _ => rfl⟩ (by rw [c]; decide)
  rw [if_neg c0, if_neg c1, if_neg c2, if_neg c3, if_neg c4, if_neg c12, if_neg c13, if_neg c14, if_neg c15, if_neg (fun q => q.elim c16 (fun q => q.elim c17 (fun q => q.elim c18 c19))), if_neg c20, if_neg c21, if_neg c22, if_neg c23, if_neg c24]
  rcases h with ⟨-, u4, h4, -, e⟩ | ⟨-, -, u4, h4, -, e⟩
  · rw [e]
    exact (wPlace hN h4).dd c0
  · rw [e]
    exact (wPlace hN h4).dd c0
end ZWC
