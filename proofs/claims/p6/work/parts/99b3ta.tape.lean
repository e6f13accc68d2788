/-! the tape's bytes -/
def byC (x s : Int32) : Int32 := ((x.toUInt32 >>> (s.toUInt32 &&& Int32.toUInt32 31)).toInt32) &&& (255 : Int32)
def byM (x s : Int32) : Int32 := (x >>> (s &&& 31)) &&& (255 : Int32)
theorem by_bits {x : BitVec 32} {k : Nat} (hk : k ≤ 24) : (x >>> k) &&& (255#32) = (x.sshiftRight k) &&& (255#32) := by
  refine BitVec.eq_of_getLsbD_eq (fun i hi => ?_)
  rw [BitVec.getLsbD_and, BitVec.getLsbD_and, BitVec.getLsbD_ushiftRight, BitVec.getLsbD_sshiftRight]
  by_cases h8 : i < 8
  · have e1 : decide (32 ≤ i) = false := decide_eq_false (by omega)
    rw [e1, if_pos (show k + i < 32 by omega)]
    simp
  · have e : (255#32).getLsbD i = false := by
      have : ∀ i, i < 32 → ¬ i < 8 → (255#32).getLsbD i = false := by decide
      exact this i hi h8
    rw [e, Bool.and_false, Bool.and_false]
theorem by_24 (x : Int32) : byC x 24 = byM x 24 := Int32.toBitVec_inj.mp (by_bits (x := x.toBitVec) (k := 24) (by decide))
theorem by_16 (x : Int32) : byC x 16 = byM x 16 := Int32.toBitVec_inj.mp (by_bits (x := x.toBitVec) (k := 16) (by decide))
theorem by_8 (x : Int32) : byC x 8 = byM x 8 := Int32.toBitVec_inj.mp (by_bits (x := x.toBitVec) (k := 8) (by decide))
theorem by_0 (x : Int32) : byC x 0 = byM x 0 := Int32.toBitVec_inj.mp (by_bits (x := x.toBitVec) (k := 0) (by decide))
theorem by_nn (y : Int32) : 0 ≤ (y &&& (255 : Int32)).toInt := by
  have : (y &&& (255 : Int32)).toInt = ((y &&& (255 : Int32)).toBitVec).toInt := rfl
  have e : (y &&& (255 : Int32)).toBitVec = y.toBitVec &&& 255#32 := rfl
  rw [this, e, BitVec.toInt_eq_toNat_of_lt]
  · exact Int.natCast_nonneg _
  · have := BitVec.toNat_and (x := y.toBitVec) (y := 255#32)
    have l : (y.toBitVec &&& 255#32).toNat ≤ 255 := by rw [this]; exact Nat.and_le_right
    omega
