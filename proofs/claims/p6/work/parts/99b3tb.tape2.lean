/-! the tape's bytes: both write them alike -/
def sft (i : Nat) : Int32 := [24, 16, 8, 0].getD i 0
def wrj (tb : Nat → Int32) (L : Nat) (x : Int32) (j : Nat) : Nat → Int32 := fun p => if L ≤ p ∧ p < L + j then byM x (sft (p - L)) else tb p
section TPE
variable {L1 L2 : List Nat} {v u w : MS} {pa pb pc1 pd pe r : Int32} {L : Nat}
theorem wrj_0 {tb : Nat → Int32} {x : Int32} : wrj tb L x 0 = tb := by
  funext p
  exact if_neg (by omega)
theorem wrj_s {tb : Nat → Int32} {x : Int32} {j : Nat} : upd (wrj tb L x j) (L + j) (byM x (sft j)) = wrj tb L x (j + 1) := by
  funext p
  by_cases q : p = L + j
  · rw [q, updS]
    show _ = if L ≤ L + j ∧ L + j < L + (j + 1) then byM x (sft (L + j - L)) else _
    rw [if_pos (by omega), show L + j - L = j by omega]
  · rw [updN_ q]
    show (if L ≤ p ∧ p < L + j then _ else _) = if L ≤ p ∧ p < L + (j + 1) then _ else _
    by_cases g : L ≤ p ∧ p < L + j
    · rw [if_pos g, if_pos (by omega)]
    · rw [if_neg g, if_neg (by omega)]
theorem by_sft {x : Int32} {j : Nat} (hj : j < 4) : byC x (sft j) = byM x (sft j) := by
  rcases (show j = 0 ∨ j = 1 ∨ j = 2 ∨ j = 3 by omega) with rfl | rfl | rfl | rfl
  · exact by_24 x
  · exact by_16 x
  · exact by_8 x
  · exact by_0 x
theorem sft_i : ∀ j, j < 4 → (sft j).toInt = 24 - 8 * (j : Int) := by decide
theorem sft_of {s : Int32} {j : Nat} (hj : j < 4) (h : s.toInt = 24 - 8 * (j : Int)) : s = sft j := Int32.toInt_inj.mp (by rw [h, sft_i j hj])
theorem mFour (hL : (w.1 0 2).toInt = L) (h4 : L + 4 ≤ 4000) (h : Q_m_four w pa u) : (u.1 0 2).toInt = ((L + 4 : Nat) : Int) ∧ u.1 1 = wrj (w.1 1) L pa 4 := by
  obtain ⟨-, ka, w3, hr, -, -, cx, rfl⟩ := h
  have inv : ∃ j : Nat, j ≤ 4 ∧ ka.toInt = 24 - 8 * (j : Int) ∧ (u.1 0 2).toInt = ((L + j : Nat) : Int) ∧ u.1 1 = wrj (w.1 1) L pa j := by
    refine RT.ind (fun (y : Int32 × MS) => ∃ j : Nat, j ≤ 4 ∧ y.1.toInt = 24 - 8 * (j : Int) ∧ (y.2.1 0 2).toInt = ((L + j : Nat) : Int) ∧ y.2.1 1 = wrj (w.1 1) L pa j) hr ⟨0, by omega, by show (24 : Int32).toInt = _; decide, hL, wrj_0.symm⟩ ?_
    intro a b _ ⟨j, j0, j1, j2, j3⟩ hb
    obtain ⟨-, -, c, rfl⟩ := hb
    have j4 : j < 4 := by omega
    have e1 : (a.1 + (-8 : Int32)).toInt = a.1.toInt + (-8) := add_z rfl (by decide) (by omega) (by omega)
    have e2 : (a.2.1 0 2 + (1 : Int32)).toInt = (a.2.1 0 2).toInt + 1 := add_z rfl (by decide) (by omega) (by omega)
    have n2 : (a.2.1 0 2).toNatClampNeg = L + j := by have := natI (a := a.2.1 0 2) (by omega); omega
    have es := sft_of j4 j1
    refine ⟨j + 1, by omega, by show (a.1 + (-8 : Int32)).toInt = _; omega, by show (a.2.1 0 2 + (1 : Int32)).toInt = _; omega, ?_⟩
    show upd (a.2.1 1) (a.2.1 0 2).toNatClampNeg (byM pa a.1) = _
    rw [n2, j3, es]
    exact wrj_s
  obtain ⟨j, j0, j1, j2, j3⟩ := inv
  have : j = 4 := by omega
  rw [this] at j2 j3
  exact ⟨j2, j3⟩
theorem xTape (hL : (v.1 0 391).toInt = L) (h4 : L + 4 ≤ 4000) (h : Q_x_X11_tapeNumber L1 L2 v pa u) : (u.1 0 391).toInt = ((L + 4 : Nat) : Int) ∧ u.1 299 = wrj (v.1 299) L pa 4 := by
  obtain ⟨-, ka, w3, hr, -, -, -, -, -, h⟩ := h
  have inv : ∃ j : Nat, j ≤ 4 ∧ ka.toInt = 24 - 8 * (j : Int) ∧ (w3.1 0 391).toInt = ((L + j : Nat) : Int) ∧ w3.1 299 = wrj (v.1 299) L pa j := by
    refine RT.ind (fun (y : Int32 × MS) => ∃ j : Nat, j ≤ 4 ∧ y.1.toInt = 24 - 8 * (j : Int) ∧ (y.2.1 0 391).toInt = ((L + j : Nat) : Int) ∧ y.2.1 299 = wrj (v.1 299) L pa j) hr ⟨0, by omega, by show (24 : Int32).toInt = _; decide, hL, wrj_0.symm⟩ ?_
    intro a b _ ⟨j, j0, j1, j2, j3⟩ hb
    obtain ⟨-, -, -, -, -, c, -, rfl⟩ := hb
    have j4 : j < 4 := by omega
    have e1 : (a.1 + (-8 : Int32)).toInt = a.1.toInt + (-8) := add_z rfl (by decide) (by omega) (by omega)
    have e2 : (a.2.1 0 391 + (1 : Int32)).toInt = (a.2.1 0 391).toInt + 1 := add_z rfl (by decide) (by omega) (by omega)
    have n2 : (a.2.1 0 391).toNatClampNeg = L + j := by have := natI (a := a.2.1 0 391) (by omega); omega
    have es := sft_of j4 j1
    refine ⟨j + 1, by omega, by show (a.1 + (-8 : Int32)).toInt = _; omega, by show (a.2.1 0 391 + (1 : Int32)).toInt = _; omega, ?_⟩
    show upd (a.2.1 299) (a.2.1 0 391).toNatClampNeg (byC pa a.1) = _
    rw [n2, j3, es, by_sft j4]
    exact wrj_s
  obtain ⟨j, j0, j1, j2, j3⟩ := inv
  have fin : ka.toInt < 0 → (w3.1 0 391).toInt = ((L + 4 : Nat) : Int) ∧ w3.1 299 = wrj (v.1 299) L pa 4 := fun z => by
    have : j = 4 := by omega
    rw [this] at j2 j3
    exact ⟨j2, j3⟩
  rcases h with ⟨a, rfl⟩ | ⟨a, b, rfl⟩
  · exact fin a
  · omega
/-- the five numbers of a feed -/
def fd5 (tb : Nat → Int32) (L : Nat) (a b c d e : Int32) : Nat → Int32 := wrj (wrj (wrj (wrj (wrj tb L a 4) (L + 4) b 4) (L + 8) c 4) (L + 12) d 4) (L + 16) e 4
theorem mFeed (hL : (w.1 0 2).toInt = L) (h : Q_m_feed w pa pb pc1 pd pe r u) : (L + 20 ≤ 4000 ∧ (u.1 0 2).toInt = ((L + 20 : Nat) : Int) ∧ u.1 1 = fd5 (w.1 1) L pa pb pc1 pd pe) ∨ (4000 < L + 20 ∧ u.1 0 2 = w.1 0 2 ∧ u.1 1 = w.1 1) := by
  obtain ⟨-, h⟩ := h
  rcases h with ⟨a, u5, h1, -, u8, h2, -, u11, h3, -, u14, h4, -, u17, h5, -, -, rfl⟩ | ⟨a, -, rfl⟩
  · have le : L + 20 ≤ 4000 := by omega
    have a1 := mFour (L := L) (w := wA w 0 0 0) hL (by omega) h1
    have a2 := mFour a1.1 (by omega) h2
    have a3 := mFour a2.1 (by omega) h3
    have a4 := mFour a3.1 (by omega) h4
    have a5 := mFour a4.1 (by omega) h5
    refine Or.inl ⟨le, a5.1, ?_⟩
    rw [a5.2, a4.2, a3.2, a2.2, a1.2]
    rfl
  · exact Or.inr ⟨by omega, rfl, rfl⟩
theorem xFeed (hL : (v.1 0 391).toInt = L) (h : Q_x_X11_feed L1 L2 v pa pb pc1 pd pe r u) : (L + 20 ≤ 4000 ∧ (u.1 0 391).toInt = ((L + 20 : Nat) : Int) ∧ u.1 299 = fd5 (v.1 299) L pa pb pc1 pd pe) ∨ (4000 < L + 20 ∧ u = v) := by
  obtain ⟨-, h⟩ := h
  rcases h with ⟨a, u5, h1, -, u8, h2, -, u11, h3, -, u14, h4, -, u17, h5, -, -, rfl⟩ | ⟨a, -, rfl⟩
  · have le : L + 20 ≤ 4000 := by omega
    have a1 := xTape hL (by omega) h1
    have a2 := xTape a1.1 (by omega) h2
    have a3 := xTape a2.1 (by omega) h3
    have a4 := xTape a3.1 (by omega) h4
    have a5 := xTape a4.1 (by omega) h5
    refine Or.inl ⟨le, a5.1, ?_⟩
    rw [a5.2, a4.2, a3.2, a2.2, a1.2]
    rfl
  · exact Or.inr ⟨by omega, rfl⟩
theorem wrj_nn {tb : Nat → Int32} {x : Int32} {j p : Nat} (h : 0 ≤ (tb p).toInt) : 0 ≤ (wrj tb L x j p).toInt := by
  show 0 ≤ (if L ≤ p ∧ p < L + j then byM x (sft (p - L)) else tb p).toInt
  split
  · exact by_nn _
  · exact h
end TPE
