/-! what a sign is, told by what is read -/
def sgn (k : Nat → Int32) (g : Nat → Int64) (i : Nat) (x : Int32) : Int32 := if (k i).toInt = 5 ∧ (lg_cmp (g i) x.toInt64).toInt = 0 then 1 else 0
theorem sgn_1 {k : Nat → Int32} {g : Nat → Int64} {i : Nat} {x : Int32} (h1 : (k i).toInt = 5) (h2 : (lg_cmp (g i) x.toInt64).toInt = 0) : (1 : Int32).toInt = (sgn k g i x).toInt := by unfold sgn; rw [if_pos ⟨h1, h2⟩]
theorem sgn_0 {k : Nat → Int32} {g : Nat → Int64} {i : Nat} {x : Int32} (h : (k i).toInt ≠ 5 ∨ (lg_cmp (g i) x.toInt64).toInt ≠ 0) : (0 : Int32).toInt = (sgn k g i x).toInt := by
  unfold sgn
  rw [if_neg (fun q => by rcases h with h | h; exact h q.1; exact h q.2)]
theorem lgc_lt {x y : Int64} : (0 : Int) ≤ (lg_cmp x y).toInt → y.toInt ≤ x.toInt := by
  unfold lg_cmp
  intro h
  rcases Int.lt_or_le x.toInt y.toInt with q | q
  · exfalso
    have q3 : ¬ y < x := fun k => by have := Int64.lt_iff_toInt_lt.mp k; omega
    have q4 : ¬ x = y := fun k => by rw [k] at q; omega
    rw [if_neg q3, if_neg q4] at h
    exact absurd h (by decide)
  · exact q
theorem lgc_gt {x y : Int64} : (lg_cmp x y).toInt ≤ (0 : Int) → x.toInt ≤ y.toInt := by
  unfold lg_cmp
  intro h
  rcases Int.lt_or_le y.toInt x.toInt with q | q
  · exfalso
    have q2 : y < x := Int64.lt_iff_toInt_lt.mpr q
    rw [if_pos q2] at h
    exact absurd h (by decide)
  · exact q
theorem lg_1000 {x : Int64} (h1 : (0 : Int) ≤ (lg_cmp x (1 : Int64)).toInt) (h2 : (lg_cmp x (1000 : Int64)).toInt ≤ (0 : Int)) : 1 ≤ x.toInt32.toInt ∧ x.toInt32.toInt ≤ 1000 := by
  have a := lgc_lt h1
  have b := lgc_gt h2
  have a' : (1 : Int64).toInt = 1 := by decide
  have b' : (1000 : Int64).toInt = 1000 := by decide
  rw [a'] at a
  rw [b'] at b
  have e : x.toInt32.toInt = x.toInt := by
    rw [Int64.toInt_toInt32]
    exact Int.bmod_eq_of_le (by omega) (by omega)
  omega
theorem nI_N {N : Nat} (h : N ≤ 4096) : (nI N).toInt = (N : Int) := by
  unfold nI
  first
    | exact Int32.toInt_ofNat_of_lt (by omega)
    | exact Int32.toInt_ofNat (by omega)
    | (rw [Int32.toInt_ofNat']; exact Int.bmod_eq_of_le (by omega) (by omega))
    | (simp only [Int32.ofNat]; rw [Int32.toInt]; simp; omega)
