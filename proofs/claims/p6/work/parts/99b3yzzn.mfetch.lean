/-! the reference's words: reading and setting a name -/
section ZWN
variable {K : TK} {v u w x y V : MS} {q : EV} {pa pb pc1 r : Int32} {a b : List Int32} {gm : Nat → Int32}
theorem hw00 : (0 : Int32) = hiW 0 := by decide
theorem lw00 : (0 : Int32) = loW 0 := by decide
theorem rw3 : rwE gm (evx 3 pa 0) = [iW 8195 10 8 (fW pa)] := by
  unfold rwE
  rw [if_neg (by show ¬ ((3 : Int32) = 25 ∨ (3 : Int32) = 24); decide), if_neg (by show ¬ (3 : Int32) = 1; decide), if_neg (by show ¬ (3 : Int32) = 2; decide), if_pos (show (evx 3 pa 0).1 = 3 from rfl)]
  rfl
theorem lw3 : lwE (evx 3 pa 0) = 1 := by
  unfold lwE
  rw [if_neg (by show ¬ (3 : Int32) = 25; decide), if_neg (by show ¬ (3 : Int32) = 21; decide), if_neg (by show ¬ (3 : Int32) = 0; decide)]
  show (dsz 3 pa).toNatClampNeg = _
  unfold dsz
  rw [if_neg (by decide), if_neg (by decide), if_neg (by decide), if_neg (by decide), if_neg (by decide), if_neg (by decide), if_neg (by decide), if_neg (by decide)]
  rfl
theorem fx3 : fxE (evx 3 pa 0) = [] := by
  unfold fxE
  rw [if_neg (by show ¬ (3 : Int32) = 5; decide), if_neg (by show ¬ (3 : Int32) = 6; decide), if_neg (by show ¬ (3 : Int32) = 7; decide), if_neg (by show ¬ (3 : Int32) = 8; decide), if_neg (by show ¬ (3 : Int32) = 9; decide), if_neg (by show ¬ (3 : Int32) = 20; decide)]
theorem rw5 : rwE gm (evx 5 pa 0) = [uW 6 0, iW 8195 10 6 (loW 0)] := by
  unfold rwE
  rw [if_neg (by show ¬ ((5 : Int32) = 25 ∨ (5 : Int32) = 24); decide), if_neg (by show ¬ (5 : Int32) = 1; decide), if_neg (by show ¬ (5 : Int32) = 2; decide), if_neg (by show ¬ (5 : Int32) = 3; decide), if_neg (by show ¬ (5 : Int32) = 4; decide), if_neg (by show ¬ (5 : Int32) = 12; decide), if_neg (by show ¬ (5 : Int32) = 13; decide), if_neg (by show ¬ (5 : Int32) = 14; decide), if_neg (by show ¬ (5 : Int32) = 15; decide), if_neg (by show ¬ (5 : Int32) = 16; decide), if_neg (by show ¬ (5 : Int32) = 17; decide), if_neg (by show ¬ (5 : Int32) = 18; decide), if_neg (by show ¬ ((5 : Int32) = 19 ∨ (5 : Int32) = 33); decide), if_neg (by show ¬ (5 : Int32) = 20; decide), if_neg (by show ¬ (5 : Int32) = 21; decide), if_neg (by show ¬ (5 : Int32) = 22; decide), if_neg (by show ¬ (5 : Int32) = 23; decide)]
  unfold plW
  rw [if_pos (show (evx 5 pa 0).1 = 5 from rfl)]
theorem lw5 : lwE (evx 5 pa 0) = 2 := by
  unfold lwE
  rw [if_neg (by show ¬ (5 : Int32) = 25; decide), if_neg (by show ¬ (5 : Int32) = 21; decide), if_neg (by show ¬ (5 : Int32) = 0; decide)]
  show (dsz 5 pa).toNatClampNeg = _
  unfold dsz
  rw [if_neg (by decide), if_neg (by decide), if_neg (by decide), if_pos (by decide)]
  rfl
theorem fx5 : fxE (evx 5 pa 0) = [(0, pa, 0), (1, pa, 1)] := by
  unfold fxE
  rw [if_pos (show (evx 5 pa 0).1 = 5 from rfl)]
  rfl
end ZWN
