/-! the class: what assemble has written -/
section ZWG
variable {L1 L2 : List Nat} {N : Nat} {W9 : Nat → Int32} {v u w x z u5 U : MS} {ps r : Int32} {a b : List Int32} {k m : Nat}
/-- one pass, whatever it writes -/
def PAS (L1 L2 : List Nat) (N : Nat) (v u : MS) (m : Nat) (T O : List Int32) : Prop :=
  ((T = [] ∨ T = tmW) ∧ (O = [] ∨ O = ovW)) ∧ (ST1 L1 v u m ∧ u.1 0 341 = (4 : Int32) * nI (AA L1 v m) ∧ u.1 0 342 = (4 : Int32) * nI (AA L1 v m + T.length) ∧ (u.1 0 337).toInt = (AA L1 v m + T.length + O.length : Nat) ∧ u.1 0 383 = u.1 0 337) ∧
  ((∀ i ∈ [375, 377, 381, 338, 335], u.1 0 i = v.1 0 i) ∧ (∀ i ∈ [378, 379, 380], u.1 i = v.1 i) ∧ ∀ a, 5000 ≤ a → ∀ j : Nat, j ≠ 1 → u.1 a j = v.1 a j) ∧
  ((∀ g : Nat, g < nG v → rF L2 u g 1 = 4 * (u.1 0 337 + gsm (fun g => rF L2 v g 0) g)) ∧ u.1 0 384 = 4 * (u.1 0 337 + gsm (fun g => rF L2 v g 0) (nG v))) ∧
  ((v.1 0 338).toInt ≠ 0 → ST1 L1 v v m → AA L1 v m + T.length + O.length ≤ N → WW L1 L2 v u m ∧ ∀ (i : Nat) (y : Int32), (T ++ O)[i]? = some y → u.1 382 (AA L1 v m + i) = y)
theorem wHead (hN : N ≤ 4096) (h2 : Q_x_X0_immediate L1 L2 N (wA (wA (wA v 0 337 0) 0 339 0) 0 340 0) (19 : Int32) (17 : Int32) (0 : Int32) (0 : Int32) x) (h5 : Q_x_X0_emit L1 L2 N x (1048691 : Int32) u5) (k5 : K_x_X0_emit x (1048691 : Int32) u5) : DK L1 L2 v u5 ∧ (u5.1 0 337).toInt = 2 ∧ FXr [337, 339, 340] [0, 382] v u5 ∧ ((v.1 0 338).toInt ≠ 0 → 2 ≤ N → WW L1 L2 v u5 0) := by
  have E := (wImm hN h2).tr (wEmit hN h5 k5)
  have z0 : (0 : Int32).toInt = 0 := by decide
  have F : FXr [337, 339, 340] [0, 382] v u5 := (((FXr.wr (by decide) (by decide)).tr (FXr.wr (by decide) (by decide))).tr (FXr.wr (by decide) (by decide))).tr (E.fx (by decide) (by decide) (by decide))
  have n2 : (u5.1 0 337).toInt = 2 := by
    have := E.1.1.1
    rw [show ((wA (wA (wA v 0 337 0) 0 339 0) 0 340 0).1 0 337) = (0 : Int32) from rfl, z0] at this
    exact this
  refine ⟨⟨fun i hi => F.1 i (by revert i; decide), fun i hi => F.2.1 i (by revert i; decide) (by revert i; decide), fun a ha j _ => congrFun (F.2.2 a ha) j, fun g _ => F.2.2 _ (by omega)⟩, n2, F, fun g1 g2 => ?_⟩
  obtain ⟨W1, -⟩ := E.1.2 g1 (by rw [show ((wA (wA (wA v 0 337 0) 0 339 0) 0 340 0).1 0 337) = (0 : Int32) from rfl, z0]; show (0 : Int) + ((2 : Nat) : Int) ≤ N; omega)
  exact ⟨⟨W1 0 _ rfl, W1 1 _ rfl⟩, fun j hj => absurd hj (Nat.not_lt_zero _)⟩
theorem passA (rd : RD L1 L2) (hN : N ≤ 4096) (hm : (v.1 0 381).toInt = m) (g60 : 0 ≤ (v.1 0 377).toInt ∧ (v.1 0 377).toInt ≤ 60) (UQ : ∀ i : Nat, (i : Int) ≤ (v.1 0 381).toInt → UE v i) (h : Q_x_X0_layAll L1 L2 N v u) : ∃ T O, PAS L1 L2 N v u m T O ∧ FLT v m T O := by
  obtain ⟨z81, u2, h2, -, u5, h5, k5, ka, w, hr, fc, bk, b3, hx, h⟩ := h
  obtain ⟨D5, n5, F5, W5⟩ := wHead (L2 := L2) hN h2 h5 k5
  obtain ⟨p1, D, n37, S1, fl⟩ := pass1 rd hN UQ D5 n5 hr
  have ek : ka.toInt = m := by
    rw [D.1 381 (by decide), hm] at hx
    rcases p1 with p | p
    · omega
    · rw [p]
      have : (0 : Int32).toInt = 0 := by decide
      rw [p, this] at hx
      omega
  have nk : ka.toNatClampNeg = m := natC ek
  rw [nk] at n37 S1
  have e37 : w.1 0 337 = nI (AA L1 v m) := nI_of9 n37 (by omega)
  obtain ⟨x9, hp, E, F, q41, q42, q83⟩ := tailW hN b3.1 h
  obtain ⟨⟨A9, G1, G2⟩, G3, G4, G5⟩ := zGlob (w := x9) (U := x9) rd ⟨rfl, rfl, fun _ _ => rfl, fun _ _ _ _ => rfl⟩ (by rw [F.1 377 (by decide), D.1 377 (by decide)]; exact g60) hp
  have tt : (tlT w = [] ∨ tlT w = tmW) ∧ (tlO w = [] ∨ tlO w = ovW) := by
    unfold tlT tlO
    refine ⟨?_, ?_⟩ <;> split
    · exact Or.inl rfl
    · exact Or.inr rfl
    · exact Or.inl rfl
    · exact Or.inr rfl
  have tl : (tlT w).length ≤ 10 := by
    rcases tt.1 with q | q
    · rw [q]; decide
    · rw [q]; exact Nat.le_refl _
  have u37 : u.1 0 337 = x9.1 0 337 := G4 337 (by decide)
  have x37 : (x9.1 0 337).toInt = (AA L1 v m + (tlT w).length + (tlO w).length : Nat) := by
    rw [E.1.1, n37, List.length_append]
    omega
  have sz : (fun g => rF L2 x9 g 0) = fun g => rF L2 v g 0 := funext (fun g => by
    unfold rF
    rw [F.2.2 _ (by omega)]
    exact D.2.2.1 _ (by omega) 0 (by decide))
  have ng : nG x9 = nG v := by
    unfold nG
    rw [F.1 377 (by decide), D.1 377 (by decide)]
  have FL := fAll hN hr ek
  refine ⟨tlT w, tlO w, ⟨tt, ⟨⟨fun j hj => ?_, fun j hj c0 c1 c2 => ?_⟩, ?_, ?_, by rw [u37]; exact x37, by rw [G4 383 (by decide), u37]; exact q83⟩, ⟨fun i hi => ?_, fun i hi => ?_, fun a ha j hj => ?_⟩, ⟨fun g hg => ?_, ?_⟩, fun g1 g2 g3 => ?_⟩, FL⟩
  · rw [G5 336 (by decide) (by decide), F.2.1 336 (by decide) (by decide)]
    exact S1.1 j hj
  · have nj := natI c1
    have := G2 (v.1 379 j).toNatClampNeg (by omega)
    unfold rF at this
    rw [this, F.2.2 _ (by omega)]
    exact S1.2 j hj c0 c1 c2
  · rw [G4 341 (by decide), q41, e37]
  · rw [G4 342 (by decide), q42, e37]
    congr 1
    exact Int32.toInt_inj.mp ((add_z (nI_Z (by omega)) (nI_Z (by omega)) (by omega) (by omega)).trans (by rw [nI_Z (by omega)]; omega))
  · rw [G4 i (by revert i; decide), F.1 i (by revert i; decide)]
    exact (fl i (by revert i; decide)).trans (F5.1 i (by revert i; decide))
  · rw [G5 i (by revert i; decide) (by revert i; decide), F.2.1 i (by revert i; decide) (by revert i; decide)]
    exact D.2.1 i hi
  · rw [A9.2.2.2 a ha j hj, F.2.2 a ha]
    exact D.2.2.1 a ha j hj
  · rw [← ng] at hg
    rw [G1 g hg, u37, sz]
  · rw [G3, u37, sz, ng]
  · have r9 : AA L1 v m ≤ N := by omega
    have two : 2 ≤ AA L1 v m := AA_le (i := 0) (Nat.zero_le _)
    obtain ⟨-, -, -, WP⟩ := pass2 rd hN hm g2 r9 g1 D5 n5 (F5.2.1 336 (by decide) (by decide)) F5.2.2 (fun i hi => F5.1 i (by revert i; decide)) (W5 g1 (by omega)) hr
    rw [nk] at WP
    have nn : (w.1 0 337).toNatClampNeg = AA L1 v m := natC n37
    have w38 : w.1 0 338 = v.1 0 338 := (fl 338 (by decide)).trans (F5.1 338 (by decide))
    obtain ⟨T1, T2⟩ := E.2 (by rw [w38]; exact g1) (by rw [n37, List.length_append]; omega)
    rw [nn] at T1 T2
    have e382 : u.1 382 = x9.1 382 := G5 382 (by decide) (by decide)
    refine ⟨⟨⟨?_, ?_⟩, fun j hj i y hy => ?_⟩, fun i y hy => ?_⟩
    · rw [e382, T2 0 (by omega)]
      exact WP.1.1
    · rw [e382, T2 1 (by omega)]
      exact WP.1.2
    · have l1 := getl hy
      rw [lenW rfl] at l1
      have l2 : AA L1 v j + lenD L1 v j ≤ AA L1 v m := AA_le (i := j + 1) (by omega)
      rw [e382, T2 _ (by omega)]
      exact WP.2 j hj i y hy
    · rw [e382]
      exact T1 i y hy
end ZWG
