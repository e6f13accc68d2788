/-! both meanings side by side: events that pop, leap, put by, get, turn (written by gye.py) -/
section YEE
variable {g : GC} {N : Nat} {ng lim : Int} {L1 L2 : List Nat} {K : TK} {fn : Nat → Int32} {v0 w0 : MS} {ka : Int} {v w u u2 : MS} {f k B b : Nat} {p : Int} {P PO : Nat} {q : EV} {kc pb hh : Nat} {r : Int32} {s : ST3}
/-- a number is put in both -/
theorem CNT.pt {ka9 : Int} {y : MS} {x : Int32} (h : CNT ng ka v w) (l : ka + 1 ≤ ka9) (lk : ka9 ≤ 1000000000) (c : u.1 0 368 = v.1 0 368 ∧ u.1 0 369 = v.1 0 369 ∧ u.1 0 370 = v.1 0 370 + 1 ∧ u.1 0 371 = v.1 0 371 ∧ u.1 359 = v.1 359 ∧ (((v.1 0 370).toInt < 200 ∧ u.1 360 = upd (v.1 360) (v.1 0 370).toNatClampNeg x) ∨ (200 ≤ (v.1 0 370).toInt ∧ u.1 360 = v.1 360))) (m : y.1 0 113 = w.1 0 113 ∧ y.1 0 116 = w.1 0 116 ∧ y.1 0 119 = w.1 0 119 + 1 ∧ y.1 0 120 = w.1 0 120 ∧ y.1 117 = w.1 117 ∧ (((w.1 0 119).toInt < 200 ∧ y.1 118 = upd (w.1 118) (w.1 0 119).toNatClampNeg x) ∨ (200 ≤ (w.1 0 119).toInt ∧ y.1 118 = w.1 118))) : CNT ng ka9 u y := by
  obtain ⟨c1, c2, c3, c4, c5, c6⟩ := c
  obtain ⟨m1, m2, m3, m4, m5, m6⟩ := m
  obtain ⟨⟨a1, a2, a3, a4⟩, ⟨b1, b2, b3, b4⟩, d, e⟩ := h
  have i : (w.1 0 119 + 1).toInt = (w.1 0 119).toInt + 1 := add_z rfl (by decide) (by omega) (by omega)
  rw [a3] at c6
  refine ⟨⟨by rw [c1, m1]; exact a1, by rw [c2, m2]; exact a2, by rw [c3, m3, a3], by rw [c4, m4]; exact a4⟩, ⟨by rw [m3]; omega, by rw [m3]; omega, by rw [m4]; exact b3, by rw [m4]; omega⟩, fun j hj => by rw [c5, m5]; exact d j hj, fun j hj h2 => ?_⟩
  rw [m3, i] at hj
  have n := natI b1
  rcases c6 with ⟨q1, q2⟩ | ⟨q1, q2⟩
  · rcases m6 with ⟨r1, r2⟩ | ⟨r1, r2⟩
    · rw [q2, r2]
      by_cases z : j = (w.1 0 119).toNatClampNeg
      · rw [z, updS, updS]
      · rw [updN_ z, updN_ z]
        exact e j (by omega) h2
    · omega
  · rcases m6 with ⟨r1, r2⟩ | ⟨r1, r2⟩
    · omega
    · rw [q2, r2]
      exact e j (by omega) h2
/-- a number is got in both -/
theorem CNT.gt {ka9 : Int} {y : MS} (h : CNT ng ka v w) (l : ka + 1 ≤ ka9) (lk : ka9 ≤ 1000000000) (c : u.1 0 368 = v.1 0 368 ∧ u.1 0 369 = v.1 0 369 ∧ u.1 0 370 = v.1 0 370 ∧ u.1 0 371 = v.1 0 371 + 1 ∧ u.1 359 = v.1 359 ∧ u.1 360 = v.1 360) (m : y.1 0 113 = w.1 0 113 ∧ y.1 0 116 = w.1 0 116 ∧ y.1 0 119 = w.1 0 119 ∧ y.1 0 120 = w.1 0 120 + 1 ∧ y.1 117 = w.1 117 ∧ y.1 118 = w.1 118) : CNT ng ka9 u y := by
  obtain ⟨c1, c2, c3, c4, c5, c6⟩ := c
  obtain ⟨m1, m2, m3, m4, m5, m6⟩ := m
  obtain ⟨⟨a1, a2, a3, a4⟩, ⟨b1, b2, b3, b4⟩, d, e⟩ := h
  have i : (w.1 0 120 + 1).toInt = (w.1 0 120).toInt + 1 := add_z rfl (by decide) (by omega) (by omega)
  exact ⟨⟨by rw [c1, m1]; exact a1, by rw [c2, m2]; exact a2, by rw [c3, m3]; exact a3, by rw [c4, m4, a4]⟩, ⟨by rw [m3]; exact b1, by rw [m3]; omega, by rw [m4]; omega, by rw [m4]; omega⟩, fun j hj => by rw [c5, m5]; exact d j hj, fun j hj h2 => by rw [c6, m6]; exact e j (by rw [m3] at hj; exact hj) h2⟩
/-- the numbers given -/
def GIF (v0 w0 : MS) : Prop := v0.1 0 344 = w0.1 0 94 ∧ ∀ j : Nat, (j : Int) < (w0.1 0 94).toInt → v0.1 343 j = w0.1 93 j
/-- a turn is taken in both -/
def TUR (g : GC) (N : Nat) (ng lim ka : Int) (f k B b : Nat) (p : Int) (P PO : Nat) (s : ST3) (w u y : MS) : Prop :=
  STA g N ng lim (ka + 1) u y f k B b p s ∧ (u.1 0 364).toInt = (P : Int) + 1 ∧ (y.1 0 112).toInt = (PO : Int) + 1 ∧ (y.1 0 113).toInt = (w.1 0 113).toInt + 1
theorem ev_22 (ht : q.1 = 22) (C : CTX g N ng lim L1 K fn v0 w0 ka v w f k B b p P PO q (kc, pb, hh)) (Q1 : Q_x_X10_doDeed L1 L2 N v u) (Q2 : Q_m_obey w N r u2) : FAL g N ng lim ka f k B b p P PO q (kc, pb, hh) w u (wA u2 0 121 r) := by
  obtain ⟨A, Am, S, hp, ho, d, m, pr, ⟨h9, hN, hl, hka⟩, T, E, h, mi⟩ := C
  obtain ⟨⟨a1, a2⟩, a3, a4, a5, a6⟩ := clP A hp d (by rw [ht]; decide) h9
  obtain ⟨o1, o2, o3, o4⟩ := moP Am ho m (loE_1 (by rw [ht]; decide)) mi
  rw [oE_22 ht] at o1
  have l1 : ldE q = 1 := if_neg (by rw [ht]; decide)
  have l2 : loE q = 1 := loE_1 (by rw [ht]; decide)
  have b8 := mi.lin
  obtain ⟨d1, d2, d3⟩ := dPl d (by rw [ht]; decide)
  have D : v.1 378 (v.1 0 364).toNatClampNeg = 22 := by rw [a4, d1, ht]
  have pr : hh = 1 := by
    have z := pr
    unfold preT at z
    rw [ht] at z
    exact z
  subst pr
  obtain ⟨p1, p2, p3, p4⟩ := S.pi1
  have po : postT q (kc, pb, 1) = (kc, pb, 0) := by
    unfold postT
    rw [ht]
    rfl
  obtain ⟨u9, e0, -, e1⟩ := dD_22 Q1 a1 a2 D
  obtain ⟨-, e0⟩ := e0
  obtain ⟨u8, f0, -, e2, e3⟩ := dO_16 Q2 o1
  have f0 := dT_16 f0 o1
  have pq : w.1 105 (w.1 0 106 - 1).toNatClampNeg = v.1 0 363 := by rw [p3, p4]
  have c9 : v.1 0 370 = w.1 0 119 := S.cnt.1.2.2.1
  rw [e2, e3, e1]
  have hm1 : (-1 : Int32) = w.1 0 121 := S.1.2.symm
  rcases e0 with ⟨c, e0⟩ | ⟨c, e0⟩
  · have c : 200 ≤ (v.1 0 370).toInt := c
    rcases f0 with ⟨c2, f0⟩ | ⟨c2, f0⟩
    · have c2 : 200 ≤ (w.1 0 119).toInt := c2
      rw [e0, f0]
      refine ⟨?_, ?_, ?_, rfl⟩
      · rw [po]
        exact S.pop ⟨rfl, rfl, rfl⟩ ⟨hm1, rfl, rfl, rfl, rfl, rfl, rfl⟩ rfl rfl rfl (S.cnt.pt (x := v.1 0 363) (by omega) (by omega) ⟨rfl, rfl, rfl, rfl, rfl, Or.inr ⟨c, rfl⟩⟩ ⟨rfl, rfl, rfl, rfl, rfl, Or.inr ⟨c2, rfl⟩⟩)
      · show (v.1 0 364 + 1).toInt = _
        rw [a3, l1]; rfl
      · show (w.1 0 112 + 1).toInt = _
        rw [o4, l2]; rfl
    · have c2 : (w.1 0 119).toInt < 200 := c2
      rw [c9] at c
      omega
  · have c : (v.1 0 370).toInt < 200 := c
    rcases f0 with ⟨c2, f0⟩ | ⟨c2, f0⟩
    · have c2 : 200 ≤ (w.1 0 119).toInt := c2
      rw [c9] at c
      omega
    · have c2 : (w.1 0 119).toInt < 200 := c2
      rw [e0, f0]
      refine ⟨?_, ?_, ?_, rfl⟩
      · rw [po]
        exact S.pop ⟨rfl, rfl, rfl⟩ ⟨hm1, rfl, rfl, rfl, rfl, rfl, rfl⟩ rfl rfl rfl (S.cnt.pt (x := v.1 0 363) (by omega) (by omega) ⟨rfl, rfl, rfl, rfl, rfl, Or.inl ⟨c, rfl⟩⟩ ⟨rfl, rfl, rfl, rfl, rfl, Or.inl ⟨c2, by show upd (w.1 118) (w.1 0 119).toNatClampNeg (w.1 105 (w.1 0 106 - 1).toNatClampNeg) = _; rw [pq]⟩⟩)
      · show (v.1 0 364 + 1).toInt = _
        rw [a3, l1]; rfl
      · show (w.1 0 112 + 1).toInt = _
        rw [o4, l2]; rfl
theorem ev_23 (ht : q.1 = 23) (C : CTX g N ng lim L1 K fn v0 w0 ka v w f k B b p P PO q (kc, pb, hh)) (Q1 : Q_x_X10_doDeed L1 L2 N v u) (Q2 : Q_m_obey w N r u2) (G : GIF v0 w0) : FAL g N ng lim ka f k B b p P PO q (kc, pb, hh) w u (wA u2 0 121 r) := by
  obtain ⟨A, Am, S, hp, ho, d, m, pr, ⟨h9, hN, hl, hka⟩, T, E, h, mi⟩ := C
  obtain ⟨⟨a1, a2⟩, a3, a4, a5, a6⟩ := clP A hp d (by rw [ht]; decide) h9
  obtain ⟨o1, o2, o3, o4⟩ := moP Am ho m (loE_1 (by rw [ht]; decide)) mi
  rw [oE_23 ht] at o1
  have l1 : ldE q = 1 := if_neg (by rw [ht]; decide)
  have l2 : loE q = 1 := loE_1 (by rw [ht]; decide)
  have b8 := mi.lin
  obtain ⟨d1, d2, d3⟩ := dPl d (by rw [ht]; decide)
  have D : v.1 378 (v.1 0 364).toNatClampNeg = 23 := by rw [a4, d1, ht]
  have pr : hh ≠ 1 := by
    have z := pr
    unfold preT at z
    rw [ht] at z
    exact z
  have po : postT q (kc, pb, hh) = (kc, pb, 1) := by
    unfold postT
    rw [ht]
    rfl
  obtain ⟨r9, e0, e1⟩ := dD_23 Q1 a1 a2 D
  obtain ⟨-, e0⟩ := e0
  obtain ⟨u8, f0, -, e2, e3⟩ := dO_17 Q2 o1
  have f0 := dT_17 f0 o1
  have c9 : v.1 0 371 = w.1 0 120 := S.cnt.1.2.2.2
  have c8 : v.1 0 344 = w.1 0 94 := by rw [A.1 344 (by decide), Am.1 94 (by decide)]; exact G.1
  have b0 := S.cnt.2.1.2.2.1
  have n0 := natI b0
  rw [e2, e3]
  have hm1 : (-1 : Int32) = w.1 0 121 := S.1.2.symm
  rcases f0 with ⟨c2, f0⟩ | ⟨c2, f0⟩
  · have c2 : (w.1 0 94).toInt ≤ (w.1 0 120).toInt := c2
    have e0 : r9 = 0 := by
      rcases e0 with ⟨-, e0⟩ | ⟨-, ⟨-, e0⟩ | ⟨c3, -⟩⟩
      · exact e0
      · exact e0
      · have c3 : (v.1 0 371).toInt < (v.1 0 344).toInt := c3
        rw [c9, c8] at c3
        omega
    rw [f0]
    have e4 : u = wA (wA (wA v 0 364 (v.1 0 364 + 1)) 0 363 ((0 : Int32))) 0 371 (v.1 0 371 + 1) := by rw [e1, e0]
    rw [e4]
    refine ⟨?_, ?_, ?_, rfl⟩
    · rw [po]
      exact S.push (x := (0 : Int32)) pr (by omega) ⟨rfl, rfl, rfl⟩ ⟨hm1, rfl, rfl, rfl, rfl, rfl, rfl⟩ rfl rfl rfl rfl (S.cnt.gt (by omega) (by omega) ⟨rfl, rfl, rfl, rfl, rfl, rfl⟩ ⟨rfl, rfl, rfl, rfl, rfl, rfl⟩)
    · show (v.1 0 364 + 1).toInt = _
      rw [a3, l1]; rfl
    · show (w.1 0 112 + 1).toInt = _
      rw [o4, l2]; rfl
  · have c2 : (w.1 0 120).toInt < (w.1 0 94).toInt := c2
    have e0 : r9 = w.1 93 (w.1 0 120).toNatClampNeg := by
      rcases e0 with ⟨c3, -⟩ | ⟨-, ⟨c3, -⟩ | ⟨-, -, e0⟩⟩
      · rw [c9] at c3
        omega
      · have c3 : (v.1 0 344).toInt ≤ (v.1 0 371).toInt := c3
        rw [c9, c8] at c3
        omega
      · have e0 : r9 = v.1 343 (v.1 0 371).toNatClampNeg := e0
        rw [e0, c9, A.2 343 (by decide), Am.2 93 (by decide)]
        exact G.2 _ (by rw [← Am.1 94 (by decide)]; omega)
    rw [f0]
    have e4 : u = wA (wA (wA v 0 364 (v.1 0 364 + 1)) 0 363 (w.1 93 (w.1 0 120).toNatClampNeg)) 0 371 (v.1 0 371 + 1) := by rw [e1, e0]
    rw [e4]
    refine ⟨?_, ?_, ?_, rfl⟩
    · rw [po]
      exact S.push (x := w.1 93 (w.1 0 120).toNatClampNeg) pr (by omega) ⟨rfl, rfl, rfl⟩ ⟨hm1, rfl, rfl, rfl, rfl, rfl, rfl⟩ rfl rfl rfl rfl (S.cnt.gt (by omega) (by omega) ⟨rfl, rfl, rfl, rfl, rfl, rfl⟩ ⟨rfl, rfl, rfl, rfl, rfl, rfl⟩)
    · show (v.1 0 364 + 1).toInt = _
      rw [a3, l1]; rfl
    · show (w.1 0 112 + 1).toInt = _
      rw [o4, l2]; rfl
theorem ev_24 (ht : q.1 = 24) (C : CTX g N ng lim L1 K fn v0 w0 ka v w f k B b p P PO q (kc, pb, hh)) (Q1 : Q_x_X10_doDeed L1 L2 N v u) (Q2 : Q_m_obey w N r u2) (G : v0.1 0 367 = w0.1 0 114) : TUR g N ng lim ka f k B b p P PO (kc, pb, hh) w u (wA u2 0 121 r) ∨ FIN ng (ka + 1) u (wA u2 0 121 r) := by
  obtain ⟨A, Am, S, hp, ho, d, m, pr, ⟨h9, hN, hl, hka⟩, T, E, h, mi⟩ := C
  obtain ⟨⟨a1, a2⟩, a3, a4, a5, a6⟩ := clP A hp d (by rw [ht]; decide) h9
  obtain ⟨o1, o2, o3, o4⟩ := moP Am ho m (loE_1 (by rw [ht]; decide)) mi
  rw [oE_24 ht] at o1
  have l1 : ldE q = 1 := if_neg (by rw [ht]; decide)
  have l2 : loE q = 1 := loE_1 (by rw [ht]; decide)
  have b8 := mi.lin
  obtain ⟨d1, d2, d3⟩ := dPl d (by rw [ht]; decide)
  have D : v.1 378 (v.1 0 364).toNatClampNeg = 24 := by rw [a4, d1, ht]
  obtain ⟨u9, e0, -, e1⟩ := dD_24 Q1 a1 a2 D
  obtain ⟨r8, u8, f0, -, e2, e3⟩ := dO_13 Q2 o1
  obtain ⟨-, f0⟩ := f0
  have c9 : v.1 0 368 = w.1 0 113 := S.cnt.1.1
  have c8 : v.1 0 367 = w.1 0 114 := by rw [A.1 367 (by decide), Am.1 114 (by decide)]; exact G
  have i3 : (w.1 0 113 + 1).toInt = (w.1 0 113).toInt + 1 := add_z rfl (by decide) (by omega) (by omega)
  have zz : (4 : Int32) ≠ -1 := by decide
  rw [e2, e3, e1]
  have hm1 : (-1 : Int32) = w.1 0 121 := S.1.2.symm
  rcases e0 with ⟨c, e0⟩ | ⟨c, e0⟩
  · have c : (v.1 0 368).toInt < (v.1 0 367).toInt := c
    rw [c9, c8] at c
    rcases f0 with ⟨-, g1, g2⟩ | ⟨c2, -⟩
    · left
      rw [e0, g1, g2]
      refine ⟨?_, ?_, ?_, i3⟩
      · refine S.same ⟨rfl, rfl, rfl⟩ ⟨hm1, rfl, rfl, rfl, rfl, rfl, rfl⟩ rfl rfl rfl rfl ?_
        obtain ⟨⟨z1, z2, z3, z4⟩, z5, z6⟩ := S.cnt.up (show ka ≤ ka + 1 by omega)
        refine ⟨⟨?_, z2, z3, z4⟩, z5, z6⟩
        show v.1 0 368 + 1 = w.1 0 113 + 1
        rw [z1]
      · show (v.1 0 364 + 1).toInt = _
        exact a3
      · show (w.1 0 112 + 1).toInt = _
        exact o4
    · have c2 : (w.1 0 113).toInt = (w.1 0 114).toInt := c2
      omega
  · have c : (v.1 0 367).toInt ≤ (v.1 0 368).toInt := c
    rw [c9, c8] at c
    rcases f0 with ⟨c2, -⟩ | ⟨-, g1, g2⟩
    · have c2 : (w.1 0 113).toInt ≠ (w.1 0 114).toInt := c2
      omega
    · right
      rw [e0, g1, g2]
      exact ⟨⟨rfl, zz⟩, S.cnt.sm (by omega) ⟨rfl, rfl, rfl, rfl, rfl, rfl⟩ ⟨rfl, rfl, rfl, rfl, rfl, rfl⟩, fun z => absurd z (show ¬ (4 : Int32) = 0 by decide)⟩
theorem ev_25 (ht : q.1 = 25) (C : CTX g N ng lim L1 K fn v0 w0 ka v w f k B b p P PO q (kc, pb, hh)) (Q2 : Q_m_obey w N r u2) : STA g N ng lim ka v (wA u2 0 121 r) f k B b p (postT q (kc, pb, hh)) ∧ ((wA u2 0 121 r).1 0 112).toInt = (PO : Int) + loE q ∧ (wA u2 0 121 r).1 0 113 = w.1 0 113 := by
  obtain ⟨A, Am, S, hp, ho, d, m, pr, ⟨h9, hN, hl, hka⟩, T, E, h, mi⟩ := C
  obtain ⟨o1, o2, o3, o4⟩ := moP Am ho m (loE_1 (by rw [ht]; decide)) mi
  rw [oE_25 ht] at o1
  have l2 : loE q = 1 := loE_1 (by rw [ht]; decide)
  have pr : hh = 1 := by
    have z := pr
    unfold preT at z
    rw [ht] at z
    exact z
  subst pr
  obtain ⟨p1, p2, p3, p4⟩ := S.pi1
  have po : postT q (kc, pb, 1) = (kc, pb, 0) := by
    unfold postT
    rw [ht]
    rfl
  obtain ⟨e2, e3⟩ := dO_9 Q2 o1
  rw [e2, e3]
  have hm1 : (-1 : Int32) = w.1 0 121 := S.1.2.symm
  refine ⟨?_, ?_, rfl⟩
  · rw [po]
    exact S.pop CSm.rf ⟨hm1, rfl, rfl, rfl, rfl, rfl, rfl⟩ rfl rfl rfl (S.cnt.sm (by omega) ⟨rfl, rfl, rfl, rfl, rfl, rfl⟩ ⟨rfl, rfl, rfl, rfl, rfl, rfl⟩)
  · show (w.1 0 112 + 1).toInt = _
    rw [o4, l2]; rfl
theorem ev_4a (ht : q.1 = 4) (hy : q.2.2.1 = 0) (hM : q.2.1.toInt < zMm g f) (C : CTX g N ng lim L1 K fn v0 w0 ka v w f k B b p P PO q (kc, pb, hh)) (Q1 : Q_x_X10_doDeed L1 L2 N v u) : STA g N ng lim (ka + 1) u w f k B b p (postT q (kc, pb, hh)) ∧ (u.1 0 364).toInt = (P : Int) + ldE q := by
  obtain ⟨A, Am, S, hp, ho, d, m, pr, ⟨h9, hN, hl, hka⟩, T, E, h, mi⟩ := C
  obtain ⟨⟨a1, a2⟩, a3, a4, a5, a6⟩ := clP A hp d (by rw [ht]; decide) h9
  have l1 : ldE q = 1 := if_neg (by rw [ht]; decide)
  obtain ⟨d1, d2, d3⟩ := dPl d (by rw [ht]; decide)
  have D : v.1 378 (v.1 0 364).toNatClampNeg = 4 := by rw [a4, d1, ht]
  have pr : hh = 1 ∧ 0 ≤ q.2.1.toInt ∧ ((q.2.2.1 = 0 ∧ q.2.1.toNatClampNeg = kc + pb) ∨ (q.2.2.1 = 1 ∧ (q.2.1.toNatClampNeg < kc ∨ (q.2.1.toNatClampNeg = kc ∧ pb = 0)))) := by
    have z := pr
    unfold preT at z
    rw [ht] at z
    exact z
  obtain ⟨rfl, pz0, pz⟩ := pr
  have pz1 : q.2.1.toNatClampNeg = kc + pb := by
    rcases pz with z | z
    · exact z.2
    · rw [hy] at z; exact absurd z.1 (by decide)
  have po : postT q (kc, pb, 1) = (kc, pb + 1, 0) := by
    unfold postT
    rw [ht, hy]
    rfl
  have nq := natI pz0
  obtain ⟨u9, e0, -, e1⟩ := dD_4 Q1 a1 a2 D
  have e0 := slW (v := wA v 0 364 (v.1 0 364 + 1)) (sl := kc + pb) S.2.1.1 (by rw [a5, d2]; omega) hN (S.slot hl (by omega)) e0
  rw [e1, e0, po, l1]
  refine ⟨?_, a3⟩
  exact S.by0 (Or.inl rfl) (by omega) ⟨rfl, rfl, rfl⟩ rfl rfl (S.cnt.sm (by omega) ⟨rfl, rfl, rfl, rfl, rfl, rfl⟩ ⟨rfl, rfl, rfl, rfl, rfl, rfl⟩)
theorem tfn_k (S : STA g N ng lim ka v w f k B b p s) : (tfn w).toNatClampNeg = f := by
  have s3 := S.2.2.1.2
  have n : (w.1 0 110).toNatClampNeg = k + 1 := natC (by omega)
  unfold tfn
  rw [n, Nat.add_sub_cancel]
  have : ∀ (k f B b : Nat) (p : Int), SKf g (v.1 358) (w.1 105) (w.1 107) (w.1 108) (w.1 109) k f B b p → (w.1 109 k).toInt = f := fun k => by
    cases k with
    | zero => intro f B b p h; exact h.2.2.2.1
    | succ k => intro f B b p h; exact h.1
  exact natC (this _ _ _ _ _ S.2.2.2.2.2.1)
theorem ev_4b (ht : q.1 = 4) (hy : q.2.2.1 = 1) (hLo : (w0.1 82 f).toInt = zLo g f) (hLM : zLo g f ≤ zMm g f) (C : CTX g N ng lim L1 K fn v0 w0 ka v w f k B b p P PO q (kc, pb, hh)) (Q1 : Q_x_X10_doDeed L1 L2 N v u) (Q2 : Q_m_obey w N r u2) : FAL g N ng lim ka f k B b p P PO q (kc, pb, hh) w u (wA u2 0 121 r) := by
  obtain ⟨A, Am, S, hp, ho, d, m, pr, ⟨h9, hN, hl, hka⟩, T, E, h, mi⟩ := C
  obtain ⟨⟨a1, a2⟩, a3, a4, a5, a6⟩ := clP A hp d (by rw [ht]; decide) h9
  have l1 : ldE q = 1 := if_neg (by rw [ht]; decide)
  obtain ⟨d1, d2, d3⟩ := dPl d (by rw [ht]; decide)
  have D : v.1 378 (v.1 0 364).toNatClampNeg = 4 := by rw [a4, d1, ht]
  have l2 : loE q = 1 := by
    unfold loE
    rw [ht, hy]
    rfl
  obtain ⟨o1, o2, o3, o4⟩ := moP Am ho m l2 mi
  rw [oE_4 ht] at o1
  have b8 := mi.lin
  have mx9 : w0.1 72 PO = q.2.1 := by
    have z := o3
    unfold mxA at z
    rw [ht] at z
    exact z
  have pr : hh = 1 ∧ 0 ≤ q.2.1.toInt ∧ ((q.2.2.1 = 0 ∧ q.2.1.toNatClampNeg = kc + pb) ∨ (q.2.2.1 = 1 ∧ (q.2.1.toNatClampNeg < kc ∨ (q.2.1.toNatClampNeg = kc ∧ pb = 0)))) := by
    have z := pr
    unfold preT at z
    rw [ht] at z
    exact z
  obtain ⟨rfl, pz0, pz⟩ := pr
  have pz1 : q.2.1.toNatClampNeg < kc ∨ (q.2.1.toNatClampNeg = kc ∧ pb = 0) := by
    rcases pz with z | z
    · rw [hy] at z; exact absurd z.1 (by decide)
    · exact z.2
  have nq := natI pz0
  obtain ⟨p1, p2, p3, p4⟩ := S.pi1
  obtain ⟨q1, q2, -⟩ := mi.ft.i2 (by rw [o1]; decide)
  rw [o2, mx9, tfn_k S, Am.2 82 (by decide), hLo] at q2
  have cc := S.cor.2.2.1
  have cM : kc + pb ≤ zMm g f := cc.1
  have cL : kc ≤ zLo g f := cc.2
  obtain ⟨u9, e0, -, e1⟩ := dD_4 Q1 a1 a2 D
  have e0 := slW (v := wA v 0 364 (v.1 0 364 + 1)) (sl := q.2.1.toNatClampNeg) S.2.1.1 (by rw [a5, d2]; exact nq.symm) hN (S.slot hl (by omega)) e0
  obtain ⟨e2, e3⟩ := dO_2 Q2 o1
  have nb : (w.1 0 111 + q.2.1).toNatClampNeg = b + q.2.1.toNatClampNeg := by
    have s3 := S.2.2.1.1
    have : (w.1 0 111 + q.2.1).toInt = (b : Int) + q.2.1.toInt := add_z s3 rfl (by omega) (by omega)
    exact natC (by omega)
  rw [o2, mx9, nb] at e3
  rw [e1, e0, e2, e3]
  have hm1 : (-1 : Int32) = w.1 0 121 := S.1.2.symm
  have pz2 : postT q (kc, pb, 1) = (if q.2.1.toNatClampNeg < kc then (kc, pb, 1) else (kc + 1, 0, 1)) := by
    unfold postT
    rw [ht, hy]
    rfl
  refine ⟨?_, ?_, ?_, rfl⟩
  · rw [pz2]
    rcases pz1 with z | ⟨z, z2⟩
    · rw [if_pos z]
      exact S.set z ⟨rfl, rfl, rfl⟩ ⟨hm1, rfl, rfl, rfl, rfl, rfl, rfl⟩ rfl rfl rfl rfl (S.cnt.sm (by omega) ⟨rfl, rfl, rfl, rfl, rfl, rfl⟩ ⟨rfl, rfl, rfl, rfl, rfl, rfl⟩)
    · rw [if_neg (by omega)]
      subst z2
      have q3 : kc < zLo g f := by omega
      rw [z]
      exact S.new q3 hLM ⟨rfl, rfl, rfl⟩ ⟨hm1, rfl, rfl, rfl, rfl, rfl, rfl⟩ rfl rfl rfl rfl (S.cnt.sm (by omega) ⟨rfl, rfl, rfl, rfl, rfl, rfl⟩ ⟨rfl, rfl, rfl, rfl, rfl, rfl⟩)
  · show (v.1 0 364 + 1).toInt = _
    rw [a3, l1]; rfl
  · show (w.1 0 112 + 1).toInt = _
    rw [o4, l2]; rfl
theorem ev_9 (ht : q.1 = 9) (hM : q.2.2.1.toInt < zMm g f) (C : CTX g N ng lim L1 K fn v0 w0 ka v w f k B b p P PO q (kc, pb, hh)) (Q1 : Q_x_X10_doDeed L1 L2 N v u) : STA g N ng lim (ka + 1) u w f k B b p (postT q (kc, pb, hh)) ∧ (u.1 0 364).toInt = (P : Int) + ldE q := by
  obtain ⟨A, Am, S, hp, ho, d, m, pr, ⟨h9, hN, hl, hka⟩, T, E, h, mi⟩ := C
  obtain ⟨⟨a1, a2⟩, a3, a4, a5, a6⟩ := clP A hp d (by rw [ht]; decide) h9
  have l1 : ldE q = 1 := if_neg (by rw [ht]; decide)
  obtain ⟨d1, d2, d3⟩ := dPl d (by rw [ht]; decide)
  have D : v.1 378 (v.1 0 364).toNatClampNeg = 9 := by rw [a4, d1, ht]
  rw [if_neg (by rw [ht]; decide)] at d3
  have pr : hh = 1 ∧ 0 ≤ q.2.2.1.toInt ∧ q.2.2.1.toNatClampNeg = kc + pb := by
    have z := pr
    unfold preT at z
    rw [ht] at z
    exact z
  obtain ⟨rfl, pz0, pz1⟩ := pr
  have po : postT q (kc, pb, 1) = (kc, pb + 1, 2) := by
    unfold postT
    rw [ht]
    rfl
  have nq := natI pz0
  obtain ⟨-, u9, e0, -, e1⟩ := dD_9 Q1 a1 a2 D
  obtain ⟨u25, e4, -, e5⟩ := dP_9 e0 D
  have e4 := slW (v := wA v 0 364 (v.1 0 364 + 1)) (sl := kc + pb) S.2.1.1 (by rw [a6, d3]; omega) hN (S.slot hl (by omega)) e4
  rw [e1, e5, e4, po, l1]
  refine ⟨?_, a3⟩
  exact S.by0 (Or.inr rfl) (by omega) ⟨rfl, rfl, rfl⟩ rfl rfl (S.cnt.sm (by omega) ⟨rfl, rfl, rfl, rfl, rfl, rfl⟩ ⟨rfl, rfl, rfl, rfl, rfl, rfl⟩)
theorem ev_19 (ht : q.1 = 19) (C : CTX g N ng lim L1 K fn v0 w0 ka v w f k B b p P PO q (kc, pb, hh)) (Q1 : Q_x_X10_doDeed L1 L2 N v u) (Q2 : Q_m_obey w N r u2) : LEA g N ng lim ka f k B b p P PO q (kc, pb, hh) w u (wA u2 0 121 r) := by
  obtain ⟨A, Am, S, hp, ho, d, m, pr, ⟨h9, hN, hl, hka⟩, T, E, h, mi⟩ := C
  obtain ⟨⟨a1, a2⟩, a3, a4, a5, a6⟩ := clP A hp d (by rw [ht]; decide) h9
  obtain ⟨o1, o2, o3, o4⟩ := moP Am ho m (loE_1 (by rw [ht]; decide)) mi
  have l1 : ldE q = 1 := if_neg (by rw [ht]; decide)
  have l2 : loE q = 1 := loE_1 (by rw [ht]; decide)
  have b8 := mi.lin
  obtain ⟨d1, d2⟩ := dLp d (by rw [ht]; decide)
  have D : v.1 378 (v.1 0 364).toNatClampNeg = 19 := by rw [a4, d1, ht]
  have mx9 : (w0.1 72 PO).toInt = PO + q.2.2.2.2.1 := by
    have z := o3
    unfold mxA at z
    rw [ht] at z
    exact z
  rw [oE_19 ht] at o1
  have lp : leapT q (kc, pb, hh) = (kc, pb, hh) := by
    unfold leapT
    rw [ht]
    rfl
  obtain ⟨-, -, u9, e0, -, e1⟩ := dD_19 Q1 a1 a2 D
  have e0 : u9 = wA (wA v 0 364 (v.1 0 364 + 1)) 0 364 (v.1 379 (v.1 0 364).toNatClampNeg) := by
    rcases e0 with ⟨-, -, e0⟩ | ⟨c, -⟩
    · exact e0
    · rw [D] at c; exact absurd (by decide) c
  obtain ⟨e2, e3⟩ := dO_12 Q2 o1
  rw [e1, e0, e2, e3]
  have hm1 : (-1 : Int32) = w.1 0 121 := S.1.2.symm
  refine ⟨?_, ?_, ?_, rfl⟩
  · rw [lp]
    exact S.same ⟨rfl, rfl, rfl⟩ ⟨hm1, rfl, rfl, rfl, rfl, rfl, rfl⟩ rfl rfl rfl rfl (S.cnt.sm (by omega) ⟨rfl, rfl, rfl, rfl, rfl, rfl⟩ ⟨rfl, rfl, rfl, rfl, rfl, rfl⟩)
  · show (v.1 379 (v.1 0 364).toNatClampNeg).toInt = _
    rw [a5, d2]
  · show (w.1 72 (w.1 0 112).toNatClampNeg).toInt = _
    rw [o2, mx9]
theorem ev_16a (ht : q.1 = 16) (hy : q.2.2.1 ≠ 1) (C : CTX g N ng lim L1 K fn v0 w0 ka v w f k B b p P PO q (kc, pb, hh)) (Q1 : Q_x_X10_doDeed L1 L2 N v u) (Q2 : Q_m_obey w N r u2) : FAL g N ng lim ka f k B b p P PO q (kc, pb, hh) w u (wA u2 0 121 r) ∨ LEA g N ng lim ka f k B b p P PO q (kc, pb, hh) w u (wA u2 0 121 r) := by
  obtain ⟨A, Am, S, hp, ho, d, m, pr, ⟨h9, hN, hl, hka⟩, T, E, h, mi⟩ := C
  obtain ⟨⟨a1, a2⟩, a3, a4, a5, a6⟩ := clP A hp d (by rw [ht]; decide) h9
  obtain ⟨o1, o2, o3, o4⟩ := moP Am ho m (loE_1 (by rw [ht]; decide)) mi
  have l1 : ldE q = 1 := if_neg (by rw [ht]; decide)
  have l2 : loE q = 1 := loE_1 (by rw [ht]; decide)
  have b8 := mi.lin
  obtain ⟨d1, d2⟩ := dLp d (by rw [ht]; decide)
  have D : v.1 378 (v.1 0 364).toNatClampNeg = 16 := by rw [a4, d1, ht]
  have mx9 : (w0.1 72 PO).toInt = PO + q.2.2.2.2.1 := by
    have z := o3
    unfold mxA at z
    rw [ht] at z
    exact z
  rw [oE_16 ht, if_neg hy] at o1
  have pr : hh = 1 := by
    have z := pr
    unfold preT at z
    rw [ht] at z
    exact z
  subst pr
  obtain ⟨p1, p2, p3, p4⟩ := S.pi1
  have po : postT q (kc, pb, 1) = (kc, pb, 0) := by
    unfold postT
    rw [ht]
    rfl
  have lp : leapT q (kc, pb, 1) = (kc, pb, 0) := by
    unfold leapT
    rw [if_neg (by rw [ht]; decide), if_neg (fun z => by rcases z with z | z; exact absurd (ht.symm.trans z) (by decide); exact hy z.2)]
  have pq : w.1 105 (w.1 0 106 - 1).toNatClampNeg = v.1 0 363 := by rw [p3, p4]
  obtain ⟨-, -, u9, e0, -, e1⟩ := dD_16 Q1 a1 a2 D
  have R := dO_10 Q2 o1
  have hm1 : (-1 : Int32) = w.1 0 121 := S.1.2.symm
  rw [pq] at R
  have R2 : ((v.1 0 363).toInt ≠ 0 ∧ u9 = wA v 0 364 (v.1 0 364 + 1)) ∨ ((v.1 0 363).toInt = 0 ∧ u9 = wA (wA v 0 364 (v.1 0 364 + 1)) 0 364 (v.1 379 (v.1 0 364).toNatClampNeg)) := by
    rw [D] at e0
    rcases e0 with ⟨c, -⟩ | ⟨-, ⟨c, -⟩ | ⟨-, ⟨c, e0⟩ | ⟨c, -, e0⟩⟩⟩
    · exact absurd c (by decide)
    · exact absurd (by decide) c
    · exact Or.inl ⟨c, e0⟩
    · exact Or.inr ⟨c, e0⟩
  rcases R2 with ⟨c, e0⟩ | ⟨c, e0⟩
  · rcases R with ⟨-, e2, e3⟩ | ⟨c2, -⟩
    · rw [e1, e0, e2, e3]
      left
      refine ⟨?_, ?_, ?_, rfl⟩
      · rw [po]
        exact S.pop ⟨rfl, rfl, rfl⟩ ⟨hm1, rfl, rfl, rfl, rfl, rfl, rfl⟩ rfl rfl rfl (S.cnt.sm (by omega) ⟨rfl, rfl, rfl, rfl, rfl, rfl⟩ ⟨rfl, rfl, rfl, rfl, rfl, rfl⟩)
      · show (v.1 0 364 + 1).toInt = _
        rw [a3, l1]; rfl
      · show (w.1 0 112 + 1).toInt = _
        rw [o4, l2]; rfl
    · omega
  · rcases R with ⟨c2, -⟩ | ⟨-, e2, e3⟩
    · omega
    · rw [e1, e0, e2, e3]
      right
      refine ⟨?_, ?_, ?_, rfl⟩
      · rw [lp]
        exact S.pop ⟨rfl, rfl, rfl⟩ ⟨hm1, rfl, rfl, rfl, rfl, rfl, rfl⟩ rfl rfl rfl (S.cnt.sm (by omega) ⟨rfl, rfl, rfl, rfl, rfl, rfl⟩ ⟨rfl, rfl, rfl, rfl, rfl, rfl⟩)
      · show (v.1 379 (v.1 0 364).toNatClampNeg).toInt = _
        rw [a5, d2]
      · show (w.1 72 (w.1 0 112).toNatClampNeg).toInt = _
        rw [o2, mx9]
theorem ev_17 (ht : q.1 = 17) (C : CTX g N ng lim L1 K fn v0 w0 ka v w f k B b p P PO q (kc, pb, hh)) (Q1 : Q_x_X10_doDeed L1 L2 N v u) (Q2 : Q_m_obey w N r u2) : FAL g N ng lim ka f k B b p P PO q (kc, pb, hh) w u (wA u2 0 121 r) ∨ LEA g N ng lim ka f k B b p P PO q (kc, pb, hh) w u (wA u2 0 121 r) := by
  obtain ⟨A, Am, S, hp, ho, d, m, pr, ⟨h9, hN, hl, hka⟩, T, E, h, mi⟩ := C
  obtain ⟨⟨a1, a2⟩, a3, a4, a5, a6⟩ := clP A hp d (by rw [ht]; decide) h9
  obtain ⟨o1, o2, o3, o4⟩ := moP Am ho m (loE_1 (by rw [ht]; decide)) mi
  have l1 : ldE q = 1 := if_neg (by rw [ht]; decide)
  have l2 : loE q = 1 := loE_1 (by rw [ht]; decide)
  have b8 := mi.lin
  obtain ⟨d1, d2⟩ := dLp d (by rw [ht]; decide)
  have D : v.1 378 (v.1 0 364).toNatClampNeg = 17 := by rw [a4, d1, ht]
  have mx9 : (w0.1 72 PO).toInt = PO + q.2.2.2.2.1 := by
    have z := o3
    unfold mxA at z
    rw [ht] at z
    exact z
  rw [oE_17 ht] at o1
  have pr : hh = 1 := by
    have z := pr
    unfold preT at z
    rw [ht] at z
    exact z
  subst pr
  obtain ⟨p1, p2, p3, p4⟩ := S.pi1
  have po : postT q (kc, pb, 1) = (kc, pb, 0) := by
    unfold postT
    rw [ht]
    rfl
  have lp : leapT q (kc, pb, 1) = (kc, pb, 0) := by
    unfold leapT
    rw [if_neg (by rw [ht]; decide), if_neg (fun z => by rcases z with z | z; exact absurd (ht.symm.trans z) (by decide); exact absurd (ht.symm.trans z.1) (by decide))]
  have pq : w.1 105 (w.1 0 106 - 1).toNatClampNeg = v.1 0 363 := by rw [p3, p4]
  obtain ⟨-, -, u9, e0, -, e1⟩ := dD_17 Q1 a1 a2 D
  have R := dO_11 Q2 o1
  have hm1 : (-1 : Int32) = w.1 0 121 := S.1.2.symm
  rw [pq] at R
  have R2 : ((v.1 0 363).toInt ≠ 0 ∧ u9 = wA (wA v 0 364 (v.1 0 364 + 1)) 0 364 (v.1 379 (v.1 0 364).toNatClampNeg)) ∨ ((v.1 0 363).toInt = 0 ∧ u9 = wA v 0 364 (v.1 0 364 + 1)) := by
    rw [D] at e0
    rcases e0 with ⟨c, -⟩ | ⟨-, ⟨-, ⟨c, ⟨-, e0⟩ | ⟨c2, -⟩⟩ | ⟨c, e0⟩⟩ | ⟨c, -⟩⟩
    · exact absurd c (by decide)
    · exact Or.inl ⟨c, e0⟩
    · exact absurd c2 (by decide)
    · exact Or.inr ⟨c, e0⟩
    · exact absurd c (by decide)
  rcases R2 with ⟨c, e0⟩ | ⟨c, e0⟩
  · rcases R with ⟨c2, -⟩ | ⟨-, e2, e3⟩
    · omega
    · rw [e1, e0, e2, e3]
      right
      refine ⟨?_, ?_, ?_, rfl⟩
      · rw [lp]
        exact S.pop ⟨rfl, rfl, rfl⟩ ⟨hm1, rfl, rfl, rfl, rfl, rfl, rfl⟩ rfl rfl rfl (S.cnt.sm (by omega) ⟨rfl, rfl, rfl, rfl, rfl, rfl⟩ ⟨rfl, rfl, rfl, rfl, rfl, rfl⟩)
      · show (v.1 379 (v.1 0 364).toNatClampNeg).toInt = _
        rw [a5, d2]
      · show (w.1 72 (w.1 0 112).toNatClampNeg).toInt = _
        rw [o2, mx9]
  · rcases R with ⟨-, e2, e3⟩ | ⟨c2, -⟩
    · rw [e1, e0, e2, e3]
      left
      refine ⟨?_, ?_, ?_, rfl⟩
      · rw [po]
        exact S.pop ⟨rfl, rfl, rfl⟩ ⟨hm1, rfl, rfl, rfl, rfl, rfl, rfl⟩ rfl rfl rfl (S.cnt.sm (by omega) ⟨rfl, rfl, rfl, rfl, rfl, rfl⟩ ⟨rfl, rfl, rfl, rfl, rfl, rfl⟩)
      · show (v.1 0 364 + 1).toInt = _
        rw [a3, l1]; rfl
      · show (w.1 0 112 + 1).toInt = _
        rw [o4, l2]; rfl
    · omega
theorem ev_16b (ht : q.1 = 16) (hy : q.2.2.1 = 1) (C : CTX g N ng lim L1 K fn v0 w0 ka v w f k B b p P PO q (kc, pb, hh)) (Q1 : Q_x_X10_doDeed L1 L2 N v u) (Q2 : Q_m_obey w N r u2) : FAL g N ng lim ka f k B b p P PO q (kc, pb, hh) w u (wA u2 0 121 r) ∨ LEA g N ng lim ka f k B b p P PO q (kc, pb, hh) w u (wA u2 0 121 r) := by
  obtain ⟨A, Am, S, hp, ho, d, m, pr, ⟨h9, hN, hl, hka⟩, T, E, h, mi⟩ := C
  obtain ⟨⟨a1, a2⟩, a3, a4, a5, a6⟩ := clP A hp d (by rw [ht]; decide) h9
  obtain ⟨o1, o2, o3, o4⟩ := moP Am ho m (loE_1 (by rw [ht]; decide)) mi
  have l1 : ldE q = 1 := if_neg (by rw [ht]; decide)
  have l2 : loE q = 1 := loE_1 (by rw [ht]; decide)
  have b8 := mi.lin
  obtain ⟨d1, d2⟩ := dLp d (by rw [ht]; decide)
  have D : v.1 378 (v.1 0 364).toNatClampNeg = 16 := by rw [a4, d1, ht]
  have mx9 : (w0.1 72 PO).toInt = PO + q.2.2.2.2.1 := by
    have z := o3
    unfold mxA at z
    rw [ht] at z
    exact z
  rw [oE_16 ht, if_pos hy] at o1
  have pr : hh = 1 := by
    have z := pr
    unfold preT at z
    rw [ht] at z
    exact z
  subst pr
  obtain ⟨p1, p2, p3, p4⟩ := S.pi1
  have po : postT q (kc, pb, 1) = (kc, pb, 0) := by
    unfold postT
    rw [ht]
    rfl
  have lp : leapT q (kc, pb, 1) = (kc, pb, 1) := by
    unfold leapT
    rw [if_neg (by rw [ht]; decide), if_pos (Or.inr ⟨ht, hy⟩)]
  have pq : w.1 105 (w.1 0 106 - 1).toNatClampNeg = v.1 0 363 := by rw [p3, p4]
  obtain ⟨-, -, u9, e0, -, e1⟩ := dD_16 Q1 a1 a2 D
  obtain ⟨u8, R, -, e2, e3⟩ := dO_22 Q2 o1
  have R := dT_22 R o1
  have hm1 : (-1 : Int32) = w.1 0 121 := S.1.2.symm
  rw [D] at e0
  have R2 : ((v.1 0 363).toInt ≠ 0 ∧ u9 = wA v 0 364 (v.1 0 364 + 1)) ∨ ((v.1 0 363).toInt = 0 ∧ u9 = wA (wA v 0 364 (v.1 0 364 + 1)) 0 364 (v.1 379 (v.1 0 364).toNatClampNeg)) := by
    rcases e0 with ⟨c, -⟩ | ⟨-, ⟨c, -⟩ | ⟨-, ⟨c, e0⟩ | ⟨c, -, e0⟩⟩⟩
    · exact absurd c (by decide)
    · exact absurd (by decide) c
    · exact Or.inl ⟨c, e0⟩
    · exact Or.inr ⟨c, e0⟩
  rcases R2 with ⟨c, e0⟩ | ⟨c, e0⟩
  · rcases R with ⟨-, -, R⟩ | ⟨c2, -⟩
    · rw [e1, e0, e2, e3, R]
      left
      refine ⟨?_, ?_, ?_, rfl⟩
      · rw [po]
        exact S.pop ⟨rfl, rfl, rfl⟩ ⟨hm1, rfl, rfl, rfl, rfl, rfl, rfl⟩ rfl rfl rfl (S.cnt.sm (by omega) ⟨rfl, rfl, rfl, rfl, rfl, rfl⟩ ⟨rfl, rfl, rfl, rfl, rfl, rfl⟩)
      · show (v.1 0 364 + 1).toInt = _
        rw [a3, l1]; rfl
      · show (w.1 0 112 + 1).toInt = _
        rw [o4, l2]; rfl
    · have c2 : (w.1 105 (w.1 0 106 - 1).toNatClampNeg).toInt = 0 := c2
      rw [pq] at c2
      omega
  · rcases R with ⟨c2, -⟩ | ⟨-, -, R⟩
    · have c2 : (w.1 105 (w.1 0 106 - 1).toNatClampNeg).toInt ≠ 0 := c2
      rw [pq] at c2
      omega
    · have z0 : v.1 0 363 = 0 := Int32.toInt_inj.mp (c.trans (by decide))
      rw [e1, e0, e2, e3, R]
      right
      refine ⟨?_, ?_, ?_, rfl⟩
      · rw [lp]
        exact S.top (x := 0) ⟨rfl, rfl, rfl⟩ ⟨hm1, rfl, rfl, rfl, rfl, rfl, rfl⟩ rfl rfl z0 rfl (S.cnt.sm (by omega) ⟨rfl, rfl, rfl, rfl, rfl, rfl⟩ ⟨rfl, rfl, rfl, rfl, rfl, rfl⟩)
      · show (v.1 379 (v.1 0 364).toNatClampNeg).toInt = _
        rw [a5, d2]
      · show (w.1 72 (w.1 0 112).toNatClampNeg).toInt = _
        rw [o2, mx9]
theorem ev_18 (ht : q.1 = 18) (C : CTX g N ng lim L1 K fn v0 w0 ka v w f k B b p P PO q (kc, pb, hh)) (Q1 : Q_x_X10_doDeed L1 L2 N v u) (Q2 : Q_m_obey w N r u2) : FAL g N ng lim ka f k B b p P PO q (kc, pb, hh) w u (wA u2 0 121 r) ∨ LEA g N ng lim ka f k B b p P PO q (kc, pb, hh) w u (wA u2 0 121 r) := by
  obtain ⟨A, Am, S, hp, ho, d, m, pr, ⟨h9, hN, hl, hka⟩, T, E, h, mi⟩ := C
  obtain ⟨⟨a1, a2⟩, a3, a4, a5, a6⟩ := clP A hp d (by rw [ht]; decide) h9
  obtain ⟨o1, o2, o3, o4⟩ := moP Am ho m (loE_1 (by rw [ht]; decide)) mi
  have l1 : ldE q = 1 := if_neg (by rw [ht]; decide)
  have l2 : loE q = 1 := loE_1 (by rw [ht]; decide)
  have b8 := mi.lin
  obtain ⟨d1, d2⟩ := dLp d (by rw [ht]; decide)
  have D : v.1 378 (v.1 0 364).toNatClampNeg = 18 := by rw [a4, d1, ht]
  have mx9 : (w0.1 72 PO).toInt = PO + q.2.2.2.2.1 := by
    have z := o3
    unfold mxA at z
    rw [ht] at z
    exact z
  rw [oE_18 ht] at o1
  have pr : hh = 1 := by
    have z := pr
    unfold preT at z
    rw [ht] at z
    exact z
  subst pr
  obtain ⟨p1, p2, p3, p4⟩ := S.pi1
  have po : postT q (kc, pb, 1) = (kc, pb, 0) := by
    unfold postT
    rw [ht]
    rfl
  have lp : leapT q (kc, pb, 1) = (kc, pb, 1) := by
    unfold leapT
    rw [if_neg (by rw [ht]; decide), if_pos (Or.inl ht)]
  have pq : w.1 105 (w.1 0 106 - 1).toNatClampNeg = v.1 0 363 := by rw [p3, p4]
  obtain ⟨-, -, u9, e0, -, e1⟩ := dD_18 Q1 a1 a2 D
  obtain ⟨u8, R, -, e2, e3⟩ := dO_23 Q2 o1
  have R := dT_23 R o1
  have hm1 : (-1 : Int32) = w.1 0 121 := S.1.2.symm
  rw [D] at e0
  have R2 : ((v.1 0 363).toInt ≠ 0 ∧ u9 = wA (wA (wA v 0 364 (v.1 0 364 + 1)) 0 364 (v.1 379 (v.1 0 364).toNatClampNeg)) 0 363 1) ∨ ((v.1 0 363).toInt = 0 ∧ u9 = wA v 0 364 (v.1 0 364 + 1)) := by
    rcases e0 with ⟨c, -⟩ | ⟨-, ⟨-, ⟨c, ⟨c2, -⟩ | ⟨-, e0⟩⟩ | ⟨c, e0⟩⟩ | ⟨c, -⟩⟩
    · exact absurd c (by decide)
    · exact absurd (by decide) c2
    · exact Or.inl ⟨c, e0⟩
    · exact Or.inr ⟨c, e0⟩
    · exact absurd c (by decide)
  rcases R2 with ⟨c, e0⟩ | ⟨c, e0⟩
  · rcases R with ⟨c2, -⟩ | ⟨-, -, R⟩
    · have c2 : (w.1 105 (w.1 0 106 - 1).toNatClampNeg).toInt = 0 := c2
      rw [pq] at c2
      omega
    · rw [e1, e0, e2, e3, R]
      right
      refine ⟨?_, ?_, ?_, rfl⟩
      · rw [lp]
        exact S.top (x := 1) ⟨rfl, rfl, rfl⟩ ⟨hm1, rfl, rfl, rfl, rfl, rfl, rfl⟩ rfl rfl rfl rfl (S.cnt.sm (by omega) ⟨rfl, rfl, rfl, rfl, rfl, rfl⟩ ⟨rfl, rfl, rfl, rfl, rfl, rfl⟩)
      · show (v.1 379 (v.1 0 364).toNatClampNeg).toInt = _
        rw [a5, d2]
      · show (w.1 72 (w.1 0 112).toNatClampNeg).toInt = _
        rw [o2, mx9]
  · rcases R with ⟨-, -, R⟩ | ⟨c2, -⟩
    · rw [e1, e0, e2, e3, R]
      left
      refine ⟨?_, ?_, ?_, rfl⟩
      · rw [po]
        exact S.pop ⟨rfl, rfl, rfl⟩ ⟨hm1, rfl, rfl, rfl, rfl, rfl, rfl⟩ rfl rfl rfl (S.cnt.sm (by omega) ⟨rfl, rfl, rfl, rfl, rfl, rfl⟩ ⟨rfl, rfl, rfl, rfl, rfl, rfl⟩)
      · show (v.1 0 364 + 1).toInt = _
        rw [a3, l1]; rfl
      · show (w.1 0 112 + 1).toInt = _
        rw [o4, l2]; rfl
    · have c2 : (w.1 105 (w.1 0 106 - 1).toNatClampNeg).toInt ≠ 0 := c2
      rw [pq] at c2
      omega
end YEE
