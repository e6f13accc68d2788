/-! the class's deeds: a sign, its two sides -/
section USS
variable {L1 L2 : List Nat} {P : Int32 × Int32 × Int32} {s v u w w1 x z : MS} {a b c : List EV} {e : PE} {pa pb pc1 pd r : Int32} {t y : Int32}
/-- a jump over c, its label set behind c -/
theorem EA.fwd (A : EA P s w1 a) (h0 : (0 ≤ (s.1 0 381).toInt ∧ 0 ≤ (s.1 0 321).toInt) ∧ 0 ≤ (s.1 0 317).toInt) (F : EF (w1.1 0 317).toInt (w1.1 0 321).toInt w1 x) (e17 : (x.1 0 317).toInt = (w1.1 0 317).toInt + 1) (e81 : (x.1 0 381).toInt = (w1.1 0 381).toInt + 1) (d1 : x.1 378 (w1.1 0 381).toNatClampNeg = t) (d2 : (x.1 379 (w1.1 0 381).toNatClampNeg).toInt = (w1.1 0 317).toInt) (d3 : x.1 380 (w1.1 0 381).toNatClampNeg = 0) (hx : (x.1 0 317).toInt - (x.1 0 305).toInt ≤ (w1.1 0 317).toInt - (w1.1 0 305).toInt) (C : EA P x w c) (hs : Q_x_X1_setLabel L1 L2 w r u) (hr : r.toInt = (w1.1 0 317).toInt) (ht : t = 16 ∨ t = 17 ∨ t = 18 ∨ t = 19) : EA P s u (a ++ [fwE t y c] ++ c) := by
  obtain ⟨a1, a2, a3, a4⟩ := A
  obtain ⟨c1, c2, c3, c4⟩ := C
  have m17 := a2.2.2.1
  have m21 := a2.2.2.2.2.1
  have f21 := F.2.2.2.2.1
  have g17 := c2.2.2.1
  have g21 := c2.2.2.2.2.1
  have T := KX.set (lo := (x.1 0 317).toInt) (cl := (x.1 0 321).toInt) hs (by omega) (by omega)
  have t5 : t ≠ 25 := by rcases ht with rfl | rfl | rfl | rfl <;> decide
  have l1 : ldE (fwE t y c) = 1 := if_neg t5
  have w17 : u.1 0 317 = w.1 0 317 := congrFun T.2.2.2.1 317
  have w81 : u.1 0 381 = w.1 0 381 := congrFun T.2.2.2.1 381
  have w05 : u.1 0 305 = w.1 0 305 := congrFun T.2.2.2.1 305
  have w21 : u.1 0 321 = w.1 0 321 := congrFun T.2.2.2.1 321
  have n1 := natI (a := w1.1 0 381) (by omega)
  have n0 := natI h0.1.1
  have nx := natI (a := x.1 0 381) (by omega)
  have nl := natI (a := w1.1 0 317) (by omega)
  have nr : r.toNatClampNeg = (w1.1 0 317).toNatClampNeg := natC (by rw [hr]; exact nl.symm)
  have dk : ∀ j : Nat, (j : Int) < (x.1 0 381).toInt → u.1 378 j = x.1 378 j ∧ u.1 379 j = x.1 379 j ∧ u.1 380 j = x.1 380 j := fun j hj => by
    have q := c2.2.1 j hj
    rw [T.2.2.2.2.1, T.2.2.2.2.2.1, T.2.2.2.2.2.2]
    exact q
  have lk : ∀ l : Nat, (l : Int) < (w1.1 0 317).toInt → u.1 316 l = w1.1 316 l := fun l hl => (T.2.2.1 l (by omega)).trans ((c2.2.2.2.1 l (by omega)).trans (F.2.2.2.1 l hl))
  have ck : ∀ k : Nat, (k : Int) < (w1.1 0 321).toInt → u.1 318 k = w1.1 318 k ∧ u.1 320 k = w1.1 320 k := fun k hk => by
    have q1 := F.2.2.2.2.2 k hk (by omega)
    have q2 := c2.2.2.2.2.2 k (by omega) (by omega)
    have q3 := (EF.set (lo := 0) (lc := (w.1 0 321).toInt) hs ⟨by omega, by omega⟩).1.2.2.2.2.2 k (by omega) (by omega)
    exact ⟨q3.1.trans (q2.1.trans q1.1), q3.2.trans (q2.2.trans q1.2)⟩
  have D := dk (w1.1 0 381).toNatClampNeg (by omega)
  refine ⟨?_, ⟨by rw [w81]; omega, fun j hj => ?_, by rw [w17]; omega, fun l hl => (lk l (by omega)).trans (a2.2.2.2.1 l hl), by rw [w21]; omega, fun k hk _ => ⟨(ck k (by omega)).1.trans (a2.2.2.2.2.2 k hk (by omega)).1, (ck k (by omega)).2.trans (a2.2.2.2.2.2 k hk (by omega)).2⟩⟩, by rw [w17, w05]; omega, ?_⟩
  · rw [ldL_app, ldL_app, ldL_cons, l1, ldL_nil, w81]
    omega
  · have q1 := dk j (by omega)
    have q2 := F.2.1 j (by omega)
    have q3 := a2.2.1 j hj
    exact ⟨q1.1.trans (q2.1.trans q3.1), q1.2.1.trans (q2.2.1.trans q3.2.1), q1.2.2.trans (q2.2.2.trans q3.2.2)⟩
  · have M1 : MTq P u (s.1 0 317).toInt (s.1 0 321).toInt (s.1 0 381).toNatClampNeg a := a4.kx ⟨⟨by rw [w81]; omega, fun j hj => by
      have q1 := dk j (by omega)
      have q2 := F.2.1 j hj
      exact ⟨q1.1.trans q2.1, q1.2.1.trans q2.2.1, q1.2.2.trans q2.2.2⟩⟩, ⟨by rw [w17]; omega, fun l _ h => lk l h⟩, ⟨by rw [w21]; omega, fun k _ h => ck k h⟩⟩ (Int.le_refl _) (Int.le_refl _)
    have M2 : mtE P u (s.1 0 317).toInt (s.1 0 321).toInt (fwE t y c) (w1.1 0 381).toNatClampNeg := mtE.jump (l := (w1.1 0 317).toNatClampNeg) ht (by rw [w81]; omega) (D.1.trans d1) (by rw [D.2.1, d2]; exact nl.symm) (D.2.2.trans d3) ⟨by omega, by rw [w17]; omega⟩ (fun q9 => by
      have := T.2.1 (by omega)
      rw [nr] at this
      rw [this]
      omega)
    have M3 : MTq P u (s.1 0 317).toInt (s.1 0 321).toInt (x.1 0 381).toNatClampNeg c := c4.kx T.1 (by omega) (by omega)
    refine (M1.app ?_).app ?_
    · rw [show (s.1 0 381).toNatClampNeg + ldL a = (w1.1 0 381).toNatClampNeg by omega]
      exact MTq.one M2
    · rw [ldL_app, ldL_cons, l1, ldL_nil, show (s.1 0 381).toNatClampNeg + (ldL a + (1 + 0)) = (x.1 0 381).toNatClampNeg by omega]
      exact M3
end USS
