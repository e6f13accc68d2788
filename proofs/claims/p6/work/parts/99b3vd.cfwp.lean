/-! the class's deeds: a jump over a part, its label made before -/
section VDF
variable {L1 L2 : List Nat} {P : Int32 × Int32 × Int32} {s v u w w1 x : MS} {a c : List EV} {r : Int32} {t y : Int32}
theorem EA.fwp (hv : EF (v.1 0 317).toInt (v.1 0 321).toInt v s) (v17 : (s.1 0 317).toInt = (v.1 0 317).toInt + 1) (v81 : (s.1 0 381).toInt = (v.1 0 381).toInt) (v21 : (s.1 0 321).toInt = (v.1 0 321).toInt) (h0 : (0 ≤ (v.1 0 381).toInt ∧ 0 ≤ (v.1 0 321).toInt) ∧ 0 ≤ (v.1 0 317).toInt) (A : EA P s w1 a) (F : EF (w1.1 0 317).toInt (w1.1 0 321).toInt w1 x) (e17 : (x.1 0 317).toInt = (w1.1 0 317).toInt) (e81 : (x.1 0 381).toInt = (w1.1 0 381).toInt + 1) (d1 : x.1 378 (w1.1 0 381).toNatClampNeg = t) (d2 : (x.1 379 (w1.1 0 381).toNatClampNeg).toInt = (v.1 0 317).toInt) (d3 : x.1 380 (w1.1 0 381).toNatClampNeg = 0) (C : EA P x w c) (hs : Q_x_X1_setLabel L1 L2 w r u) (hr : r.toInt = (v.1 0 317).toInt) (hd : (w.1 0 317).toInt - (w.1 0 305).toInt ≤ (v.1 0 317).toInt - (v.1 0 305).toInt) (ht : t = 16 ∨ t = 17 ∨ t = 18 ∨ t = 19) : EA P v u (a ++ [fwE t y c] ++ c) ∧ u.1 0 = w.1 0 := by
  have a17 := A.2.1.2.2.1
  have a21 := A.2.1.2.2.2.2.1
  have f21 := F.2.2.2.2.1
  have c17 := C.2.1.2.2.1
  have c21 := C.2.1.2.2.2.2.1
  have a81 := A.1
  have c81 := C.1
  have T := KX.set (lo := (v.1 0 317).toInt + 1) (cl := 0) hs (by omega) (by omega)
  have w0 := T.2.2.2.1
  have w17 : u.1 0 317 = w.1 0 317 := congrFun w0 317
  have w81 : u.1 0 381 = w.1 0 381 := congrFun w0 381
  have w05 : u.1 0 305 = w.1 0 305 := congrFun w0 305
  have S := EF.set (lo := (v.1 0 317).toInt) (lc := (v.1 0 321).toInt) hs ⟨by omega, by omega⟩
  have ku : KY (s.1 0 317).toInt (w1.1 0 317).toInt w1 u := ((KY.ef F (Int.le_refl _) (Int.le_refl _)).tr (KY.ea C (by omega))).tr (KY.set hs (by omega) (Or.inl (by omega)))
  have kc : KY (x.1 0 317).toInt (w.1 0 317).toInt w u := KY.set hs (by omega) (Or.inl (by omega))
  have kd : KY 0 0 x u := (KY.ea C (by omega)).tr (KY.set hs (by omega) (Or.inr (by omega)))
  have M1 : MTq P u (v.1 0 317).toInt (v.1 0 321).toInt (s.1 0 381).toNatClampNeg a := A.2.2.2.ky ku (Int.le_refl _) (by omega) (by omega)
  have M3 : MTq P u (v.1 0 317).toInt (v.1 0 321).toInt (x.1 0 381).toNatClampNeg c := C.2.2.2.ky kc (Int.le_refl _) (by omega) (by omega)
  have n1 := natI (a := w1.1 0 381) (by omega)
  have n0 := natI (a := s.1 0 381) (by omega)
  have nv := natI (a := v.1 0 381) (by omega)
  have nx := natI (a := x.1 0 381) (by omega)
  have nl := natI (a := v.1 0 317) (by omega)
  have nr : r.toNatClampNeg = (v.1 0 317).toNatClampNeg := natC (by rw [hr]; exact nl.symm)
  have D := kd.1.2 (w1.1 0 381).toNatClampNeg (by omega)
  have t5 : t ≠ 25 := by rcases ht with rfl | rfl | rfl | rfl <;> decide
  have l1 : ldE (fwE t y c) = 1 := if_neg t5
  have M2 : mtE P u (v.1 0 317).toInt (v.1 0 321).toInt (fwE t y c) (w1.1 0 381).toNatClampNeg := mtE.jump (l := (v.1 0 317).toNatClampNeg) ht (by rw [w81]; omega) (D.1.trans d1) (by rw [D.2.1, d2]; exact nl.symm) (D.2.2.trans d3) ⟨by omega, by rw [w17]; omega⟩ (fun q9 => by
    have := T.2.1 (by omega)
    rw [nr] at this
    rw [this]
    omega)
  refine ⟨⟨?_, EF.tr (EF.tr (EF.tr (EF.tr hv A.2.1 (by omega) (by omega)) F (by omega) (by omega)) C.2.1 (by omega) (by omega)) S.1 (Int.le_refl _) (Int.le_refl _), by rw [w17, w05]; exact hd, ?_⟩, w0⟩
  · rw [ldL_app, ldL_app, ldL_cons, l1, ldL_nil, w81]
    omega
  · refine (MTq.app (MTq.app (a := a) (by rw [show (v.1 0 381).toNatClampNeg = (s.1 0 381).toNatClampNeg by omega]; exact M1) ?_) ?_)
    · rw [show (v.1 0 381).toNatClampNeg + ldL a = (w1.1 0 381).toNatClampNeg by omega]
      exact MTq.one M2
    · rw [ldL_app, ldL_cons, l1, ldL_nil, show (v.1 0 381).toNatClampNeg + (ldL a + (1 + 0)) = (x.1 0 381).toNatClampNeg by omega]
      exact M3
end VDF
