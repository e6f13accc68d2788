/-! both begin with the words of no text -/
section ZZZL
variable {L1 L2 : List Nat} {N : Nat} {v u w x y : MS} {ps r : Int32}
/-- a pass over no deeds -/
theorem all0 (rd : RD L1 L2) (hN : N ≤ 4096) (h2N : 2 ≤ N) (h81 : (v.1 0 381).toInt = 0) (h77 : (v.1 0 377).toInt = 0) (h : Q_x_X0_layAll L1 L2 N v u) : u.1 0 383 = 2 ∧ (u.1 0 384).toInt = 8 ∧ (∀ i ∈ [377, 381, 335], u.1 0 i = v.1 0 i) ∧ ((v.1 0 338).toInt ≠ 0 → u.1 382 0 = iW 19 17 0 0 ∧ u.1 382 1 = 1048691) := by
  obtain ⟨z81, u2, h2, -, u5, h5, k5, ka, w, hr, fc, bk, b3, hx, h⟩ := h
  obtain ⟨D5, n5, F5, W5⟩ := wHead (L2 := L2) hN h2 h5 k5
  have E := (wImm hN h2).tr (wEmit hN h5 k5)
  have z0 : (0 : Int32).toInt = 0 := by decide
  have f9 : (u5.1 0 339).toInt = 0 := (congrArg Int32.toInt (E.2.1.2.1 339 (by decide))).trans z0
  have f0 : (u5.1 0 340).toInt = 0 := (congrArg Int32.toInt (E.2.1.2.1 340 (by decide))).trans z0
  have e : (ka, w) = ((0 : Int32), u5) := by
    refine RT.ind (fun (q : Int32 × MS) => q = ((0 : Int32), u5)) hr rfl ?_
    rintro ⟨a1, a2⟩ b9 _ _ hb9
    obtain ⟨q1, q2, q3, q4, -⟩ := hb9
    have q1 : FC [337, 339, 340, 341, 342, 383, 384] [0, 336, 382] v a2 := q1
    have q2 : 0 ≤ a1.toInt ∧ a1.toInt ≤ 3008 := q2
    have q4 : a1.toInt < (a2.1 0 381).toInt := q4
    rw [q1.2.1 381 (by decide), h81] at q4
    omega
  have e2 : w = u5 := congrArg Prod.snd e
  rw [e2] at h
  obtain ⟨x9, hp, E9, F, -, -, q83⟩ := tailW hN (by omega) h
  have tT : tlT u5 = [] := if_pos f9
  have tO : tlO u5 = [] := if_pos f0
  rw [tT, tO] at E9
  have x37 : (x9.1 0 337).toInt = 2 := by
    rw [E9.1.1, n5]
    rfl
  have x77 : (x9.1 0 377).toInt = 0 := by
    rw [F.1 377 (by decide), F5.1 377 (by decide)]
    exact h77
  obtain ⟨-, G3, G4, G5⟩ := zGlob (w := x9) (U := x9) rd ⟨rfl, rfl, fun _ _ => rfl, fun _ _ _ _ => rfl⟩ (by omega) hp
  have i37 : x9.1 0 337 = 2 := Int32.toInt_inj.mp (x37.trans (by decide))
  have g0 : nG x9 = 0 := natC x77
  refine ⟨by rw [G4 383 (by decide), q83]; exact i37, ?_, fun i hi => ?_, fun g1 => ?_⟩
  · rw [G3, g0, i37]
    show ((4 : Int32) * (2 + 0)).toInt = 8
    decide
  · rw [G4 i (by revert i; decide), F.1 i (by revert i; decide)]
    exact F5.1 i (by revert i; decide)
  · have w38 : u5.1 0 338 = v.1 0 338 := F5.1 338 (by decide)
    have n2 : (u5.1 0 337).toNatClampNeg = 2 := natC n5
    obtain ⟨-, T2⟩ := E9.2 (by rw [w38]; exact g1) (by rw [n5]; show (2 : Int) + ((0 : Nat) : Int) ≤ N; omega)
    rw [n2] at T2
    have WP := (W5 g1 h2N).1
    rw [G5 382 (by decide) (by decide), T2 0 (by omega), T2 1 (by omega)]
    exact WP
theorem asm0 (rd : RD L1 L2) (hN : N ≤ 4096) (hN1 : 256 ≤ N) (h81 : (v.1 0 381).toInt = 0) (h77 : (v.1 0 377).toInt = 0) (h35 : (v.1 0 335).toInt = 4 * N) (h : Q_x_X0_assemble L1 L2 N v ps r u) : u.1 0 383 = 2 ∧ u.1 382 0 = iW 19 17 0 0 ∧ u.1 382 1 = 1048691 := by
  obtain ⟨-, u2, h2, -, h⟩ := h
  obtain ⟨a1, a2, a3, -⟩ := all0 (v := wA (wA v 0 334 ps) 0 338 0) rd hN (by omega) h81 h77 h2
  have e35 : (u2.1 0 335).toInt = 4 * N := (congrArg Int32.toInt (a3 335 (by decide))).trans h35
  have e81 : (u2.1 0 381).toInt = 0 := (congrArg Int32.toInt (a3 381 (by decide))).trans h81
  have e77 : (u2.1 0 377).toInt = 0 := (congrArg Int32.toInt (a3 377 (by decide))).trans h77
  rcases h with ⟨-, u8, h8, -, -, e8⟩ | ⟨c, -, -⟩
  · obtain ⟨b1, -, -, b4⟩ := all0 (v := wA u2 0 338 1) rd hN (by omega) e81 e77 h8
    rw [e8]
    exact ⟨b1, b4 (by show (1 : Int32).toInt ≠ 0; decide)⟩
  · exfalso
    have : (u2.1 0 384 + (64 : Int32)).toInt = 8 + 64 := add_z a2 (by decide) (by omega) (by omega)
    omega
theorem adr0 (h43 : (x.1 0 43).toInt = 0) (h22 : (x.1 0 22).toInt = 0) (h : Q_m_addresses x y) : y.1 11 = x.1 11 ∧ y.1 0 12 = x.1 0 12 := by
  obtain ⟨-, -, -, ka, w2, r0, f0, b0, c0, kb, w161, r1, f1, b1, c1, rfl⟩ := h
  have e : (ka, w2) = ((0 : Int32), x) := by
    refine RT.ind (fun (q : Int32 × MS) => q = ((0 : Int32), x)) r0 rfl ?_
    rintro ⟨a1, a2⟩ b9 _ _ hb9
    obtain ⟨q1, q2, q3, -⟩ := hb9
    have q1 : FG [] [11] x a2 := q1
    have q2 : 0 ≤ a1.toInt ∧ a1.toInt ≤ (x.1 0 43).toInt := q2
    have q3 : a1.toInt < (a2.1 0 43).toInt := q3
    rw [q1.2.1 43 (fun q => nomatch q), h43] at q3
    omega
  have e2 : w2 = x := congrArg Prod.snd e
  subst e2
  have e' : (kb, y) = ((0 : Int32), w2) := by
    refine RT.ind (fun (q : Int32 × MS) => q = ((0 : Int32), w2)) r1 rfl ?_
    rintro ⟨a1, a2⟩ b9 _ _ hb9
    obtain ⟨q1, q2, q3, -⟩ := hb9
    have q1 : FG [] [11] w2 a2 := q1
    have q2 : 0 ≤ a1.toInt ∧ a1.toInt ≤ (w2.1 0 22).toInt := q2
    have q3 : a1.toInt < (a2.1 0 22).toInt := q3
    rw [q1.2.1 22 (fun q => nomatch q), h22] at q3
    omega
  have e3 : y = w2 := congrArg Prod.snd e'
  rw [e3]
  exact ⟨rfl, rfl⟩
theorem walk0W (h : Q_m_walk0 x N y) (ha : Q_m_accept y u) : u.1 0 73 = 2 ∧ u.1 70 0 = iW 19 17 0 0 ∧ u.1 70 1 = 1048691 := by
  obtain ⟨-, u1, e1, r5, h5, u11, e11, -, -, -, h⟩ := h
  have er := eAddi h5
  have z0 : (0 : Int32).toInt = 0 := by decide
  have t12 : u1.1 0 12 = 0 := by rw [e1]; rfl
  have t22 : u1.1 0 22 = 0 := by rw [e1]; rfl
  have s12 : u11.1 0 12 = 1 := by
    rw [e11]
    show u1.1 0 12 + (1 : Int32) = 1
    rw [t12]
    decide
  have s22 : u11.1 0 22 = 0 := by
    rw [e11]
    exact t22
  have s43 : u11.1 0 43 = 0 := by rw [e11]; rfl
  have s44 : u11.1 0 44 = 0 := by rw [e11]; rfl
  have s45 : u11.1 0 45 = 0 := by rw [e11]; rfl
  have s11 : u11.1 11 0 = r5 := by
    rw [e11]
    show upd (u1.1 11) (u1.1 0 12).toNatClampNeg r5 0 = r5
    rw [t12]
    exact updS
  rcases h with ⟨-, ⟨-, -, u43, h43, -, e⟩ | ⟨c, -⟩⟩ | ⟨c, -⟩
  rotate_left
  · exact absurd (by rw [s45]; exact z0) c
  · exact absurd (by rw [s44]; exact z0) c
  have A := adr0 (by
    show (u11.1 0 43).toInt = 0
    rw [s43]
    exact z0) (by
    show (u11.1 0 22).toInt = 0
    rw [s22]
    exact z0) h43
  have n1 : (u11.1 0 12).toNatClampNeg = 1 := by rw [s12]; decide
  have y12 : y.1 0 12 = 2 := by
    rw [e, A.2]
    show u11.1 0 12 + (1 : Int32) = 2
    rw [s12]
    decide
  have y11 : y.1 11 = upd (u11.1 11) (u11.1 0 12).toNatClampNeg 1048691 := by
    rw [e, A.1]
    rfl
  obtain ⟨a73, a70⟩ := accW ha
  have z2 : (2 : Int32).toInt = 2 := by decide
  rw [n1] at y11
  refine ⟨by rw [a73, y12], ?_, ?_⟩
  · rw [a70 0 (by rw [y12, z2]; decide), y11, updN_ (by decide), s11, er]
  · rw [a70 1 (by rw [y12, z2]; decide), y11, updS]
end ZZZL
