/-! where class and reference spell an answer otherwise -/
theorem eq_fault (a : Int32) : (if a = 0 then (0 : Int32) else (-1)) = (if ¬ a = 0 then (-1) else 0) := by
  by_cases h : a = 0
  · rw [if_pos h, if_neg (fun q => q h)]
  · rw [if_neg h, if_pos h]
theorem eq_code (a : Int32) {N : Nat} (h1 : 256 ≤ N) (h2 : N ≤ 4096) (u : Int32) : (if a < 0 then (0 : Int32) else (if 2 ≤ a then 0 else (if nI N ≤ a then 0 else u))) = (if 0 ≤ a then (if a < 2 then u else 0) else 0) := by
  have e0 : (0 : Int32).toInt = 0 := by decide
  have e2 : (2 : Int32).toInt = 2 := by decide
  by_cases k : a < 0
  · have k1 : ¬ 0 ≤ a := by rw [Int32.lt_iff_toInt_lt] at k; rw [Int32.le_iff_toInt_le]; omega
    rw [if_pos k, if_neg k1]
  · have k1 : 0 ≤ a := by rw [Int32.lt_iff_toInt_lt] at k; rw [Int32.le_iff_toInt_le]; omega
    rw [if_neg k, if_pos k1]
    by_cases k2 : 2 ≤ a
    · have k3 : ¬ a < 2 := by rw [Int32.le_iff_toInt_le] at k2; rw [Int32.lt_iff_toInt_lt]; omega
      rw [if_pos k2, if_neg k3]
    · have k3 : a < 2 := by rw [Int32.le_iff_toInt_le] at k2; rw [Int32.lt_iff_toInt_lt]; omega
      have k4 : ¬ nI N ≤ a := by rw [Int32.lt_iff_toInt_lt] at k3; rw [Int32.le_iff_toInt_le, nI_toInt (by omega)]; omega
      rw [if_neg k2, if_neg k4, if_pos k3]
/-- the two ways of asking whether a word is in the memory -/
theorem eq_word {a : Int32} {N : Nat} (h2 : N ≤ 4096) (h3 : a &&& 3 = 0) : (if 0 < lg_cmp ((a.toInt64 &&& 4294967295) + 4) (4 * (nI N).toInt64) then (0 : Int32) else 1) = (if (a &&& 3) = 0 then (if nI N ≤ (a.toUInt32 >>> ((2 : Int32).toUInt32 &&& Int32.toUInt32 31)).toInt32 then 0 else 1) else 0) := by
  rw [if_pos h3]
  have h4 := (and3_0 a).mp h3
  by_cases k : 4 * N < uI a + 4
  · rw [if_pos ((isin_iff a h2).mpr k), if_pos ((ush2_lt a h2).mpr (by omega))]
  · rw [if_neg (fun q => k ((isin_iff a h2).mp q)), if_neg (fun q => k (by have := (ush2_lt a h2).mp q; omega))]
