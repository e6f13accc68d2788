/-! the class: the words, once addresses are known -/
/-- the first words, the words of the first m deeds -/
def WW (L1 L2 : List Nat) (v x : MS) (m : Nat) : Prop := (x.1 382 0 = iW 19 17 0 0 ∧ x.1 382 1 = 1048691) ∧ ∀ j : Nat, j < m → ∀ (i : Nat) (y : Int32), (wD (wcOf L1 L2 v) (nI (AA L1 v j)) (v.1 378 j) (v.1 379 j) (v.1 380 j))[i]? = some y → x.1 382 (AA L1 v j + i) = y
section ZWE
variable {L1 L2 : List Nat} {N : Nat} {v u w x z u5 : MS} {pa pb pc1 pd r d y n : Int32} {a b : List Int32} {k : Nat}
theorem upd_sf {f : Nat → Int32} {i : Nat} {q : Int32} (h : f i = q) : upd f i q = f := funext (fun j => by
  by_cases e : j = i
  · rw [e, updS, h]
  · rw [updN_ e])
theorem wc_eq (h5 : x.1 0 375 = v.1 0 375) (h7 : x.1 0 377 = v.1 0 377) (hr : RS0 v x) (h6 : x.1 336 = v.1 336) (h1 : x.1 0 341 = v.1 0 341) (h2 : x.1 0 342 = v.1 0 342) (h4 : x.1 0 384 = v.1 0 384) : wcOf L1 L2 x = wcOf L1 L2 v := by
  have e1 : fF L1 x = fF L1 v := funext (fun f => funext (fun k => fF_fr h5 hr))
  have e2 : gF L2 x = gF L2 v := funext (fun g => funext (fun k => by
    unfold gF rF
    rw [h7, hr _ (by omega)]))
  unfold wcOf
  rw [e1, e2, h6, h1, h2, h4]
theorem getl {l : List Int32} {i : Nat} {y : Int32} (h : l[i]? = some y) : i < l.length := by
  apply Classical.byContradiction
  intro g
  rw [List.getElem?_eq_none (by omega)] at h
  cases h
theorem lenW {c : WC} {n : Int32} {j : Nat} (h : c.1 (v.1 379 j) 0 = fF L1 v (v.1 379 j) 0) : (wD c n (v.1 378 j) (v.1 379 j) (v.1 380 j)).length = lenD L1 v j := wD_len h
theorem pass2 (rd : RD L1 L2) (hN : N ≤ 4096) {m : Nat} (hm : (v.1 0 381).toInt = m) (S : ST1 L1 v v m) (room : AA L1 v m ≤ N) (h38 : (v.1 0 338).toInt ≠ 0) (D5 : DK L1 L2 v u5) (h5 : (u5.1 0 337).toInt = 2) (e6 : u5.1 336 = v.1 336) (er : RS0 v u5) (ef : ∀ i ∈ [338, 341, 342, 384], u5.1 0 i = v.1 0 i) (e0 : WW L1 L2 v u5 0) {ka : Int32} (hr : RT (Q_x_X0_layAll_L0 L1 L2 N v) (0, u5) (ka, w)) : (RS0 v w ∧ w.1 336 = v.1 336 ∧ ∀ i ∈ [338, 341, 342, 384], w.1 0 i = v.1 0 i) ∧ DK L1 L2 v w ∧ (w.1 0 337).toInt = AA L1 v ka.toNatClampNeg ∧ WW L1 L2 v w ka.toNatClampNeg := by
  have z : (0 : Int32).toNatClampNeg = 0 := by decide
  refine RT.ind (fun (q : Int32 × MS) => (RS0 v q.2 ∧ q.2.1 336 = v.1 336 ∧ ∀ i ∈ [338, 341, 342, 384], q.2.1 0 i = v.1 0 i) ∧ DK L1 L2 v q.2 ∧ (q.2.1 0 337).toInt = AA L1 v q.1.toNatClampNeg ∧ WW L1 L2 v q.2 q.1.toNatClampNeg) hr ⟨⟨er, e6, ef⟩, D5, by show (u5.1 0 337).toInt = (AA L1 v (0 : Int32).toNatClampNeg : Nat); rw [z]; exact h5, by show WW L1 L2 v u5 (0 : Int32).toNatClampNeg; rw [z]; exact e0⟩ ?_
  rintro ⟨a1, a2⟩ b9 _ ⟨⟨g1, g2, g3⟩, D, g37, g4⟩ hb9
  obtain ⟨q1, q2, q3, q4, q5, u49, q6, -, q7⟩ := hb9
  have q2 : 0 ≤ a1.toInt ∧ a1.toInt ≤ 3008 := q2
  have q4 : a1.toInt < (a2.1 0 381).toInt := q4
  have D : DK L1 L2 v a2 := D
  have g1 : RS0 v a2 := g1
  have g2 : a2.1 336 = v.1 336 := g2
  have g3 : ∀ i ∈ [338, 341, 342, 384], a2.1 0 i = v.1 0 i := g3
  have g37 : (a2.1 0 337).toInt = AA L1 v a1.toNatClampNeg := g37
  have g4 : WW L1 L2 v a2 a1.toNatClampNeg := g4
  have na := natI q2.1
  have ea : (a1 + 1).toInt = a1.toInt + 1 := add_z rfl (by decide) (by omega) (by omega)
  have en : (a1 + 1).toNatClampNeg = a1.toNatClampNeg + 1 := by have := natI (a := a1 + 1) (by omega); omega
  rw [D.1 381 (by decide), hm] at q4
  have lt : a1.toNatClampNeg < m := by omega
  have le9 := AA_le (L1 := L1) (v := v) (i := a1.toNatClampNeg + 1) (j := m) (by omega)
  have le8 : AA L1 v a1.toNatClampNeg ≤ AA L1 v (a1.toNatClampNeg + 1) := AA_le (by omega)
  obtain ⟨D', n', m', f', R', E'⟩ := stepD rd hN D g37 q6
  have e37 : a2.1 0 337 = nI (AA L1 v a1.toNatClampNeg) := nI_of9 g37 (by omega)
  have m6 : u49.1 336 = v.1 336 := by
    rw [m', g2]
    exact upd_sf (by rw [S.1 _ lt, e37])
  have rs : RS0 v u49 := fun i hi => by
    rw [R' i hi, g1 i hi]
    split
    · next q =>
      refine upd_sf ?_
      rw [q.2.2.2, S.2 _ lt q.1 q.2.1 q.2.2.1, e37]
    · rfl
  have wc : wcOf L1 L2 (wA a2 336 a1.toNatClampNeg ((4 : Int32) * a2.1 0 337)) = wcOf L1 L2 v := by
    refine wc_eq (D.1 375 (by decide)) (D.1 377 (by decide)) (fun i hi => ?_) ?_ (g3 341 (by decide)) (g3 342 (by decide)) (g3 384 (by decide))
    · rw [← g1 i hi]
      show (if i = 336 then _ else a2.1 i) = _
      rw [if_neg (by omega)]
    · show upd (a2.1 336) a1.toNatClampNeg _ = _
      rw [g2]
      exact upd_sf (by rw [S.1 _ lt, e37])
  rw [wc, e37] at E'
  have nn : (nI (AA L1 v a1.toNatClampNeg)).toNatClampNeg = AA L1 v a1.toNatClampNeg := natC (nI_Z (by omega))
  have ln : (wD (wcOf L1 L2 v) (nI (AA L1 v a1.toNatClampNeg)) (v.1 378 a1.toNatClampNeg) (v.1 379 a1.toNatClampNeg) (v.1 380 a1.toNatClampNeg)).length = lenD L1 v a1.toNatClampNeg := lenW rfl
  have aa1 : AA L1 v (a1.toNatClampNeg + 1) = AA L1 v a1.toNatClampNeg + lenD L1 v a1.toNatClampNeg := rfl
  obtain ⟨W1, W2⟩ := E'.2 (by rw [g3 338 (by decide)]; exact h38) (by rw [ln, g37]; omega)
  rw [e37, nn] at W1 W2
  have two : 2 ≤ AA L1 v a1.toNatClampNeg := AA_le (i := 0) (by omega)
  rw [q7]
  refine ⟨⟨rs, m6, fun i hi => (f' i (by revert i; decide)).trans (g3 i hi)⟩, D', by show (u49.1 0 337).toInt = (AA L1 v (a1 + 1).toNatClampNeg : Nat); rw [en]; exact n', ?_⟩
  show WW L1 L2 v u49 (a1 + 1).toNatClampNeg
  rw [en]
  refine ⟨⟨by rw [W2 0 (by omega)]; exact g4.1.1, by rw [W2 1 (by omega)]; exact g4.1.2⟩, fun j hj i y hy => ?_⟩
  by_cases e : j = a1.toNatClampNeg
  · rw [e] at hy ⊢
    exact W1 i y hy
  · have l1 := getl hy
    rw [lenW rfl] at l1
    have l2 : AA L1 v j + lenD L1 v j ≤ AA L1 v a1.toNatClampNeg := AA_le (i := j + 1) (by omega)
    rw [W2 _ (by omega)]
    exact g4.2 j (by omega) i y hy
end ZWE
