/-! numbers: addresses and the memory's size -/
section TPL
variable {p : Program} {l : Launch} {e : Env} {R : Room} {s : State} {m : MethodId} {args : Array Value} {below : List Frame} {meth : Method} {c : Code} {H : Heap} {locs : List Loc} {cells slots : Nat} {Q : State → Prop} {pc : Nat} {ls : Array Slot} {rest : List Value}
theorem tp_l {x y : Int64} (h : x = y) (k : W p l e R s m args below meth c H locs cells slots Q (F0 m pc ls (.long y :: rest))) : W p l e R s m args below meth c H locs cells slots Q (F0 m pc ls (.long x :: rest)) := by rw [h]; exact k
end TPL
/-- an int as a natural below 2 ^ 32 -/
def uI (a : Int32) : Nat := a.toBitVec.toNat
theorem uI_lt (a : Int32) : uI a < 2 ^ 32 := a.toBitVec.isLt
theorem uI_inj {a b : Int32} (h : uI a = uI b) : a = b := Int32.toBitVec_inj.mp (BitVec.eq_of_toNat_eq h)
theorem uI_nI {n : Nat} (h : n < 2 ^ 32) : uI (nI n) = n := pk_tn h
theorem ush2 (a : Int32) : (a.toUInt32 >>> ((2 : Int32).toUInt32 &&& Int32.toUInt32 31)).toInt32 = nI (uI a / 4) := by
  apply uI_inj
  have h := uI_lt a
  rw [uI_nI (by omega)]
  exact pk_ushr a 2 2 (by decide)
theorem and3 (a : Int32) : a &&& 3 = nI (uI a % 4) := pk_and a 2 (by decide)
theorem and3_0 (a : Int32) : a &&& 3 = 0 ↔ uI a % 4 = 0 := by
  rw [and3, show (0 : Int32) = nI 0 from rfl, nI_eq (by omega) (by omega)]
theorem ush2_lt (a : Int32) {N : Nat} (h2 : N ≤ 4096) : nI N ≤ (a.toUInt32 >>> ((2 : Int32).toUInt32 &&& Int32.toUInt32 31)).toInt32 ↔ N ≤ uI a / 4 := by
  have h := uI_lt a
  rw [ush2, nI_leI (by omega) (by omega)]
theorem ush2_in (a : Int32) {N : Nat} (h : ¬ nI N ≤ (a.toUInt32 >>> ((2 : Int32).toUInt32 &&& Int32.toUInt32 31)).toInt32) (h2 : N ≤ 4096) : vp_in (a.toUInt32 >>> ((2 : Int32).toUInt32 &&& Int32.toUInt32 31)).toInt32 N := by
  rw [ush2_lt a h2] at h
  rw [ush2]
  exact vp_in_nI (by omega) (by omega)
theorem low32 (a : Int32) : a.toInt64 &&& 4294967295 = lN (uI a) := by
  apply Int64.toBitVec_inj.mp
  apply BitVec.eq_of_toNat_eq
  have h := uI_lt a
  have e1 : (lN (uI a)).toBitVec.toNat = uI a := by
    show (BitVec.ofNat 64 (uI a)).toNat = uI a
    rw [BitVec.toNat_ofNat]
    omega
  rw [e1]
  have e2 : (a.toInt64 &&& 4294967295).toBitVec = a.toInt64.toBitVec &&& 4294967295#64 := rfl
  rw [e2, BitVec.toNat_and]
  have e3 : (4294967295#64).toNat = 2 ^ 32 - 1 := by decide
  rw [e3, Nat.and_two_pow_sub_one_eq_mod]
  have e4 : a.toInt64.toBitVec = a.toBitVec.signExtend 64 := rfl
  rw [e4, BitVec.toNat_signExtend]
  have e5 : (a.toBitVec.setWidth 64).toNat = uI a := by
    rw [BitVec.toNat_setWidth]
    show uI a % 2 ^ 64 = uI a
    omega
  rw [e5]
  split <;> omega
theorem isin_iff (a : Int32) {N : Nat} (h2 : N ≤ 4096) : (0 : Int32) < lg_cmp ((a.toInt64 &&& 4294967295) + 4) (4 * (nI N).toInt64) ↔ 4 * N < uI a + 4 := by
  have h := uI_lt a
  rw [lg_cmp_gt, low32, nI_l (by omega), show (4 : Int64) = lN 4 from rfl, lN_mul, lN_add, pk_lLT (by omega) (by omega)]
theorem isin0 {N : Nat} (h1 : 256 ≤ N) (h2 : N ≤ 4096) : ¬ (0 : Int32) < lg_cmp (4 : Int64) (4 * (nI N).toInt64) := by
  rw [lg_cmp_gt, nI_l (by omega), show (4 : Int64) = lN 4 from rfl, lN_mul, lN_lt (by omega) (by omega)]
  omega
theorem sar2_in (a : Int32) {N : Nat} (h : ¬ (0 : Int32) < lg_cmp ((a.toInt64 &&& 4294967295) + 4) (4 * (nI N).toInt64)) (h2 : N ≤ 4096) : vp_in (a >>> ((2 : Int32) &&& 31)) N := by
  rw [isin_iff a h2] at h
  have hx : a = nI (uI a) := uI_inj (by rw [uI_nI (uI_lt a)])
  have e : a >>> ((2 : Int32) &&& 31) = nI (uI a / 4) := by
    conv => lhs; rw [hx]
    exact pk_shrN (by omega) _ 2 (by decide)
  rw [e]
  exact vp_in_nI (by omega) (by omega)
