/-! numbers of the processor -/
theorem nI_Z {n : Nat} (h : n < 2147483648) : (nI n).toInt = (n : Int) := by
  unfold nI
  first
    | exact Int32.toInt_ofNat_of_lt (by omega)
    | exact Int32.toInt_ofNat (by omega)
    | (rw [Int32.toInt_ofNat']; exact Int.bmod_eq_of_le (by omega) (by omega))
theorem lN_Z {n : Nat} (h : n < 2147483648000) : (lN n).toInt = (n : Int) := by
  unfold lN
  first
    | exact Int64.toInt_ofNat_of_lt (by omega)
    | exact Int64.toInt_ofNat (by omega)
    | (rw [Int64.toInt_ofNat']; exact Int.bmod_eq_of_le (by omega) (by omega))
theorem self_u (a : Int32) : a = nI (uI a) := uI_inj (by rw [uI_nI (uI_lt a)])
theorem isin_k {a k : Int32} {N : Nat} (hk : 0 ≤ k.toInt ∧ k.toInt ≤ 8) (h2 : (N : Int) ≤ 4096) (h : (lg_cmp ((a.toInt64 &&& 4294967295) + k.toInt64) (4 * (nI N).toInt64)).toInt ≤ (0 : Int)) : 0 ≤ a.toInt ∧ a.toInt + k.toInt ≤ 4 * (N : Int) := by
  have g := lgc_gt h
  have hu := uI_lt a
  rw [low32, nI_l (by omega), show (4 : Int64) = lN 4 from rfl, lN_mul, lN_Z (by omega), Int64.toInt_add, lN_Z (by omega), Int32.toInt_toInt64] at g
  have e : ((uI a : Int) + k.toInt).bmod (2 ^ 64) = (uI a : Int) + k.toInt := Int.bmod_eq_of_le (by omega) (by omega)
  rw [e] at g
  have ea : a.toInt = (uI a : Int) := by
    conv => lhs; rw [self_u a]
    exact nI_Z (by omega)
  omega
theorem lgc_lt9 {x y : Int64} (h : (0 : Int) < (lg_cmp x y).toInt) : y.toInt < x.toInt := by
  unfold lg_cmp at h
  by_cases q : x > y
  · exact Int64.lt_iff_toInt_lt.mp q
  · exfalso
    rw [if_neg q] at h
    by_cases q2 : x = y
    · rw [if_pos q2] at h
      exact absurd h (by decide)
    · rw [if_neg q2] at h
      exact absurd h (by decide)
theorem isin_n {a k : Int32} {N : Nat} (hk : 0 ≤ k.toInt ∧ k.toInt ≤ 8) (h2 : (N : Int) ≤ 4096) (h : (0 : Int) < (lg_cmp ((a.toInt64 &&& 4294967295) + k.toInt64) (4 * (nI N).toInt64)).toInt) : a.toInt < 0 ∨ 4 * (N : Int) < a.toInt + k.toInt := by
  have g := lgc_lt9 h
  have hu := uI_lt a
  rw [low32, nI_l (by omega), show (4 : Int64) = lN 4 from rfl, lN_mul, lN_Z (by omega), Int64.toInt_add, lN_Z (by omega), Int32.toInt_toInt64] at g
  have e : ((uI a : Int) + k.toInt).bmod (2 ^ 64) = (uI a : Int) + k.toInt := Int.bmod_eq_of_le (by omega) (by omega)
  rw [e] at g
  by_cases q : uI a < 2147483648
  · have ea : a.toInt = (uI a : Int) := by
      conv => lhs; rw [self_u a]
      exact nI_Z (by omega)
    omega
  · have ec : a.toInt = (if 2 * a.toBitVec.toNat < 2 ^ 32 then (a.toBitVec.toNat : Int) else (a.toBitVec.toNat : Int) - ((2 ^ 32 : Nat) : Int)) := BitVec.toInt_eq_toNat_cond a.toBitVec
    have eu : uI a = a.toBitVec.toNat := rfl
    rw [if_neg (by omega)] at ec
    omega
theorem shr2_f {x : Int32} (h : 0 ≤ x.toInt) : 4 * (x >>> ((2 : Int32) &&& 31)).toInt ≤ x.toInt ∧ x.toInt ≤ 4 * (x >>> ((2 : Int32) &&& 31)).toInt + 3 := by
  have hu := uI_lt x
  have hx : uI x < 2147483648 := by
    have ec : x.toInt = (if 2 * x.toBitVec.toNat < 2 ^ 32 then (x.toBitVec.toNat : Int) else (x.toBitVec.toNat : Int) - ((2 ^ 32 : Nat) : Int)) := BitVec.toInt_eq_toNat_cond x.toBitVec
    unfold uI at hu ⊢
    split at ec <;> omega
  have ea : x.toInt = (uI x : Int) := by
    conv => lhs; rw [self_u x]
    exact nI_Z hx
  have e : x >>> ((2 : Int32) &&& 31) = nI (uI x / 4) := by
    conv => lhs; rw [self_u x]
    exact pk_shrN (by omega) _ 2 (by decide)
  rw [e, nI_Z (by omega), ea]
  omega
theorem and_f {x : Int32} {n : Nat} (h : vp_in x n) : 0 ≤ x.toInt ∧ x.toInt < (n : Int) := vp_in_iff.mp h
theorem many_f (x : Int32) : 1 ≤ ((1 : Int32) <<< ((x &&& (3 : Int32)) &&& 31)).toInt ∧ ((1 : Int32) <<< ((x &&& (3 : Int32)) &&& 31)).toInt ≤ 8 := by
  have h := and_f (pk_andIn x 2 (by decide) (by decide) : vp_in (x &&& 3) 4)
  generalize x &&& (3 : Int32) = y at h ⊢
  have h4 : y = 0 ∨ y = 1 ∨ y = 2 ∨ y = 3 := by
    rcases (show y.toInt = 0 ∨ y.toInt = 1 ∨ y.toInt = 2 ∨ y.toInt = 3 by omega) with q | q | q | q
    · exact Or.inl (Int32.toInt_inj.mp q)
    · exact Or.inr (Or.inl (Int32.toInt_inj.mp q))
    · exact Or.inr (Or.inr (Or.inl (Int32.toInt_inj.mp q)))
    · exact Or.inr (Or.inr (Or.inr (Int32.toInt_inj.mp q)))
  rcases h4 with q | q | q | q <;> rw [q] <;> decide
