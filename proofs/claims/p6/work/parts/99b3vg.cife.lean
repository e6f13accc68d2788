/-! the class's deeds: two jumps that cross -/
section VGX
variable {L1 L2 : List Nat} {P : Int32 × Int32 × Int32} {s v u w w1 x y y3 z z2 : MS} {a c1 c2 : List EV} {r r7 : Int32}
theorem EA.ife (hv : EF (v.1 0 317).toInt (v.1 0 321).toInt v s) (v17 : (s.1 0 317).toInt = (v.1 0 317).toInt + 1) (v81 : (s.1 0 381).toInt = (v.1 0 381).toInt) (v21 : (s.1 0 321).toInt = (v.1 0 321).toInt) (h0 : (0 ≤ (v.1 0 381).toInt ∧ 0 ≤ (v.1 0 321).toInt) ∧ 0 ≤ (v.1 0 317).toInt) (A : EA P s w1 a) (F : EF (w1.1 0 317).toInt (w1.1 0 321).toInt w1 x) (e17 : (x.1 0 317).toInt = (w1.1 0 317).toInt) (e81 : (x.1 0 381).toInt = (w1.1 0 381).toInt + 1) (d1 : x.1 378 (w1.1 0 381).toNatClampNeg = 16) (d2 : (x.1 379 (w1.1 0 381).toNatClampNeg).toInt = (v.1 0 317).toInt) (d3 : x.1 380 (w1.1 0 381).toNatClampNeg = 0) (C : EA P x y c1)
    (F3 : EF (y.1 0 317).toInt (y.1 0 321).toInt y y3) (f17 : (y3.1 0 317).toInt = (y.1 0 317).toInt + 1) (f81 : (y3.1 0 381).toInt = (y.1 0 381).toInt) (Fz : EF (y3.1 0 317).toInt (y3.1 0 321).toInt y3 z) (z17 : (z.1 0 317).toInt = (y3.1 0 317).toInt) (z81 : (z.1 0 381).toInt = (y3.1 0 381).toInt + 1) (g1 : z.1 378 (y3.1 0 381).toNatClampNeg = 19) (g2 : (z.1 379 (y3.1 0 381).toNatClampNeg).toInt = (y.1 0 317).toInt) (g3 : z.1 380 (y3.1 0 381).toNatClampNeg = 0)
    (hs : Q_x_X1_setLabel L1 L2 z r z2) (hr : r.toInt = (v.1 0 317).toInt) (C2 : EA P z2 w c2) (hs2 : Q_x_X1_setLabel L1 L2 w r7 u) (hr7 : r7.toInt = (y.1 0 317).toInt) (hd : (w.1 0 317).toInt - (w.1 0 305).toInt ≤ (v.1 0 317).toInt - (v.1 0 305).toInt) : EA P v u (a ++ [fwE 16 0 (c1 ++ [fwE 19 0 c2])] ++ c1 ++ [fwE 19 0 c2] ++ c2) ∧ u.1 0 = w.1 0 := by
  have a17 := A.2.1.2.2.1
  have a21 := A.2.1.2.2.2.2.1
  have f21 := F.2.2.2.2.1
  have c17 := C.2.1.2.2.1
  have c21 := C.2.1.2.2.2.2.1
  have f321 := F3.2.2.2.2.1
  have fz21 := Fz.2.2.2.2.1
  have k17 := C2.2.1.2.2.1
  have k21 := C2.2.1.2.2.2.2.1
  have a81 := A.1
  have c81 := C.1
  have k81 := C2.1
  have T := KX.set (lo := (v.1 0 317).toInt + 1) (cl := 0) hs (by omega) (by omega)
  have T2 := KX.set (lo := (y.1 0 317).toInt + 1) (cl := 0) hs2 (by omega) (by omega)
  have w0 := T2.2.2.2.1
  have x17 : z2.1 0 317 = z.1 0 317 := congrFun T.2.2.2.1 317
  have x81 : z2.1 0 381 = z.1 0 381 := congrFun T.2.2.2.1 381
  have x21 : z2.1 0 321 = z.1 0 321 := congrFun T.2.2.2.1 321
  have w17 : u.1 0 317 = w.1 0 317 := congrFun w0 317
  have w81 : u.1 0 381 = w.1 0 381 := congrFun w0 381
  have w05 : u.1 0 305 = w.1 0 305 := congrFun w0 305
  rw [x17] at k17
  rw [x81] at k81
  rw [x21] at k21
  have S1 := EF.set (lo := (v.1 0 317).toInt) (lc := (v.1 0 321).toInt) hs ⟨by omega, by omega⟩
  have S2 := EF.set (lo := (v.1 0 317).toInt) (lc := (v.1 0 321).toInt) hs2 ⟨by omega, by omega⟩
  -- from z2 on, from z on, from y on
  have kz2 : ∀ {l0 l1 : Int}, l1 ≤ (z.1 0 317).toInt → ((y.1 0 317).toInt < l0 ∨ l1 ≤ (y.1 0 317).toInt) → KY l0 l1 z2 u := fun {l0 l1} q1 q2 => (KY.ea C2 (by rw [x17]; exact q1)).tr (KY.set hs2 (by omega) (by omega))
  have kz : ∀ {l0 l1 : Int}, l1 ≤ (z.1 0 317).toInt → ((y.1 0 317).toInt < l0 ∨ l1 ≤ (y.1 0 317).toInt) → ((v.1 0 317).toInt < l0 ∨ l1 ≤ (v.1 0 317).toInt) → KY l0 l1 z u := fun {l0 l1} q1 q2 q3 => (KY.set hs (by omega) (by omega)).tr (kz2 q1 q2)
  have ky : ∀ {l0 l1 : Int}, l1 ≤ (y.1 0 317).toInt → ((v.1 0 317).toInt < l0 ∨ l1 ≤ (v.1 0 317).toInt) → KY l0 l1 y u := fun {l0 l1} q1 q3 => ((KY.ef F3 q1 (Int.le_refl _)).tr (KY.ef Fz (by omega) (Int.le_refl _))).tr (kz (by omega) (Or.inr q1) q3)
  have kx : KY 0 0 x u := (KY.ea C (by omega)).tr (ky (by omega) (Or.inr (by omega)))
  have ku : KY (s.1 0 317).toInt (w1.1 0 317).toInt w1 u := ((KY.ef F (Int.le_refl _) (Int.le_refl _)).tr (KY.ea C (by omega))).tr (ky (by omega) (Or.inl (by omega)))
  have M1 : MTq P u (v.1 0 317).toInt (v.1 0 321).toInt (s.1 0 381).toNatClampNeg a := A.2.2.2.ky ku (Int.le_refl _) (by omega) (by omega)
  have M3 : MTq P u (v.1 0 317).toInt (v.1 0 321).toInt (x.1 0 381).toNatClampNeg c1 := C.2.2.2.ky (ky (Int.le_refl _) (Or.inl (by omega))) (Int.le_refl _) (by omega) (by omega)
  have M5 : MTq P u (v.1 0 317).toInt (v.1 0 321).toInt (z2.1 0 381).toNatClampNeg c2 := C2.2.2.2.ky (KY.set (l1 := (w.1 0 317).toInt) hs2 (by omega) (Or.inl (by rw [x17]; omega))) (Int.le_refl _) (by rw [x17]; omega) (by rw [x21]; omega)
  have n1 := natI (a := w1.1 0 381) (by omega)
  have n0 := natI (a := s.1 0 381) (by omega)
  have nv := natI (a := v.1 0 381) (by omega)
  have nx := natI (a := x.1 0 381) (by omega)
  have n3 := natI (a := y3.1 0 381) (by omega)
  have nz := natI (a := z2.1 0 381) (by rw [x81]; omega)
  have nl := natI (a := v.1 0 317) (by omega)
  have ny := natI (a := y.1 0 317) (by omega)
  have nr : r.toNatClampNeg = (v.1 0 317).toNatClampNeg := natC (by rw [hr]; exact nl.symm)
  have nr7 : r7.toNatClampNeg = (y.1 0 317).toNatClampNeg := natC (by rw [hr7]; exact ny.symm)
  have D := kx.1.2 (w1.1 0 381).toNatClampNeg (by omega)
  have D2 := (kz (l0 := 0) (l1 := 0) (by omega) (Or.inr (by omega)) (Or.inr (by omega))).1.2 (y3.1 0 381).toNatClampNeg (by omega)
  have l1 : ∀ {q : List EV} {t : Int32}, t ≠ 25 → ldE (fwE t 0 q) = 1 := fun ht => if_neg ht
  have z2i : (z2.1 0 381).toInt = (z.1 0 381).toInt := by rw [x81]
  have L1' : (v.1 0 317).toInt < 1500 → (u.1 316 (v.1 0 317).toNatClampNeg).toInt = (z.1 0 381).toInt := fun q => by
    have g := (kz2 (l0 := (v.1 0 317).toInt) (l1 := (v.1 0 317).toInt + 1) (by omega) (Or.inr (by omega))).2.1.2 (v.1 0 317).toNatClampNeg (by omega) (by omega)
    have := T.2.1 (by omega)
    rw [nr] at this
    rw [g, this]
  have M2 : mtE P u (v.1 0 317).toInt (v.1 0 321).toInt (fwE 16 0 (c1 ++ [fwE 19 0 c2])) (w1.1 0 381).toNatClampNeg := mtE.jump (l := (v.1 0 317).toNatClampNeg) (Or.inl rfl) (by rw [w81]; omega) (D.1.trans d1) (by rw [D.2.1, d2]; exact nl.symm) (D.2.2.trans d3) ⟨by omega, by rw [w17]; omega⟩ (fun q9 => by
    rw [L1' (by omega), ldL_app, ldL_cons, l1 (by decide), ldL_nil]
    omega)
  have M4 : mtE P u (v.1 0 317).toInt (v.1 0 321).toInt (fwE 19 0 c2) (y3.1 0 381).toNatClampNeg := mtE.jump (l := (y.1 0 317).toNatClampNeg) (Or.inr (Or.inr (Or.inr rfl))) (by rw [w81]; omega) (D2.1.trans g1) (by rw [D2.2.1, g2]; exact ny.symm) (D2.2.2.trans g3) ⟨by omega, by rw [w17]; omega⟩ (fun q9 => by
    have := T2.2.1 (by omega)
    rw [nr7] at this
    rw [this]
    omega)
  refine ⟨⟨?_, EF.tr (EF.tr (EF.tr (EF.tr (EF.tr (EF.tr (EF.tr (EF.tr hv A.2.1 (by omega) (by omega)) F (by omega) (by omega)) C.2.1 (by omega) (by omega)) F3 (by omega) (by omega)) Fz (by omega) (by omega)) S1.1 (Int.le_refl _) (Int.le_refl _)) C2.2.1 (by rw [x17]; omega) (by rw [x21]; omega)) S2.1 (Int.le_refl _) (Int.le_refl _), by rw [w17, w05]; exact hd, ?_⟩, w0⟩
  · rw [ldL_app, ldL_app, ldL_app, ldL_app, ldL_cons, ldL_cons, l1 (by decide), l1 (by decide), ldL_nil, w81]
    omega
  · refine MTq.app (MTq.app (MTq.app (MTq.app (a := a) (by rw [show (v.1 0 381).toNatClampNeg = (s.1 0 381).toNatClampNeg by omega]; exact M1) ?_) ?_) ?_) ?_
    · rw [show (v.1 0 381).toNatClampNeg + ldL a = (w1.1 0 381).toNatClampNeg by omega]
      exact MTq.one M2
    · rw [ldL_app, ldL_cons, l1 (by decide), ldL_nil, show (v.1 0 381).toNatClampNeg + (ldL a + (1 + 0)) = (x.1 0 381).toNatClampNeg by omega]
      exact M3
    · rw [ldL_app, ldL_app, ldL_cons, l1 (by decide), ldL_nil, show (v.1 0 381).toNatClampNeg + (ldL a + (1 + 0) + ldL c1) = (y3.1 0 381).toNatClampNeg by omega]
      exact MTq.one M4
    · rw [ldL_app, ldL_app, ldL_app, ldL_cons, ldL_cons, l1 (by decide), l1 (by decide), ldL_nil, show (v.1 0 381).toNatClampNeg + (ldL a + (1 + 0) + ldL c1 + (1 + 0)) = (z2.1 0 381).toNatClampNeg by omega]
      exact M5
end VGX
