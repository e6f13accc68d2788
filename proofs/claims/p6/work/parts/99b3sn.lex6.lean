/-! texts: numbers -/
def dvl (T : Nat → Int32) (p : Nat) : Nat → Int64
  | 0 => 0
  | k + 1 => dvl T p k * 10 + (T (p + k) - 48).toInt64
def hxv (c : Int32) : Int32 := if 48 ≤ c.toInt ∧ c.toInt ≤ 57 then c - 48 else if 65 ≤ c.toInt ∧ c.toInt ≤ 70 then (c - 65) + 10 else if 97 ≤ c.toInt ∧ c.toInt ≤ 102 then (c - 97) + 10 else -1
def hvl (T : Nat → Int32) (p : Nat) : Nat → Int64
  | 0 => 0
  | k + 1 => hvl T p k * 16 + (hxv (T (p + k))).toInt64
def hex9 (c : Int) : Prop := (48 ≤ c ∧ c ≤ 57) ∨ (65 ≤ c ∧ c ≤ 70) ∨ (97 ≤ c ∧ c ≤ 102)
section LX6
variable {L1 L2 : List Nat} {T : Nat → Int32} {L p q n : Nat} {v u w : MS} {pa pb pc1 r : Int32}
theorem dgt_lt (k : dgt (btq T L p)) : p < L := by
  by_cases h : p < L
  · exact h
  · rw [bt_ge (by omega)] at k
    unfold dgt at k
    omega
theorem hex9_lt (k : hex9 (btq T L p)) : p < L := by
  by_cases h : p < L
  · exact h
  · rw [bt_ge (by omega)] at k
    unfold hex9 at k
    omega
theorem hex9_b0 : hex9 (b0 T L p) ↔ hex9 (btq T L p) := by
  by_cases h : p < L
  · rw [b0_lt h, bt_lt h]
  · rw [b0_ge (by omega), bt_ge (by omega)]
    unfold hex9
    omega
theorem s48 {c : Int32} (h : dgt c.toInt) : (c - 48).toInt = c.toInt - 48 := by
  unfold dgt at h
  exact sub_z rfl (by decide) (by omega) (by omega)
theorem hxv_y {c : Int32} (h : hex9 c.toInt) : 0 ≤ (hxv c).toInt := by
  unfold hex9 at h
  unfold hxv
  by_cases a : 48 ≤ c.toInt ∧ c.toInt ≤ 57
  · rw [if_pos a, s48 a]; omega
  · rw [if_neg a]
    by_cases b : 65 ≤ c.toInt ∧ c.toInt ≤ 70
    · have e1 : (c - 65).toInt = c.toInt - 65 := sub_z rfl (by decide) (by omega) (by omega)
      have e2 : ((c - 65) + 10).toInt = (c - 65).toInt + 10 := add_z rfl (by decide) (by omega) (by omega)
      rw [if_pos b]; omega
    · have e1 : (c - 97).toInt = c.toInt - 97 := sub_z rfl (by decide) (by omega) (by omega)
      have e2 : ((c - 97) + 10).toInt = (c - 97).toInt + 10 := add_z rfl (by decide) (by omega) (by omega)
      rw [if_neg b, if_pos (by omega)]; omega
theorem hxv_n {c : Int32} (h : ¬ hex9 c.toInt) : hxv c = -1 := by
  unfold hex9 at h
  unfold hxv
  rw [if_neg (by omega), if_neg (by omega), if_neg (by omega)]
theorem xHex (h : Q_x_X9_digitValue pa 16 r) : r = hxv pa := by
  obtain ⟨r3, h3, -, h⟩ := h
  have d := xDigit h3
  unfold dgt at d
  unfold hxv
  have s16 : (16 : Int32).toInt = 16 := by decide
  rcases h with ⟨a, ⟨b, -⟩ | ⟨-, ⟨b, -, ⟨c, rfl⟩ | ⟨c, ⟨e, rfl⟩ | ⟨e, rfl⟩⟩⟩ | ⟨b, ⟨c, -, e, f, rfl⟩ | ⟨c, rfl⟩⟩⟩⟩ | ⟨a, rfl⟩
  · exact absurd s16 b
  · rw [if_neg (fun q => d.mpr q a), if_neg (by omega), if_neg (by omega)]
  · rw [if_neg (fun q => d.mpr q a), if_neg (by omega), if_neg (by omega)]
  · rw [if_neg (fun q => d.mpr q a), if_pos ⟨c, e⟩]
  · rw [if_neg (fun q => d.mpr q a), if_neg (by omega), if_neg (by omega)]
  · rw [if_neg (fun q => d.mpr q a), if_neg (by omega), if_pos ⟨b, c⟩]
  · rw [if_pos (d.mp a)]
theorem mDig0 (h : Q_m_isDigit pa r) : r.toInt ≠ 0 ↔ dgt pa.toInt := by
  unfold dgt
  rcases h with ⟨a, rfl⟩ | ⟨a, ⟨b, rfl⟩ | ⟨b, rfl⟩⟩
  · exact ⟨fun q => absurd rfl q, fun q => by omega⟩
  · exact ⟨fun q => absurd rfl q, fun q => by omega⟩
  · exact ⟨fun _ => ⟨a, b⟩, fun _ => by decide⟩
theorem mHex (h : Q_m_hex pa r) : r = hxv pa := by
  obtain ⟨r3, h3, -, h⟩ := h
  have d := mDig0 h3
  unfold dgt at d
  unfold hxv
  rcases h with ⟨a, ⟨b, ⟨c, rfl⟩ | ⟨c, ⟨e, rfl⟩ | ⟨e, rfl⟩⟩⟩ | ⟨b, ⟨c, e, f, rfl⟩ | ⟨c, rfl⟩⟩⟩ | ⟨a, rfl⟩
  · rw [if_neg (fun q => d.mpr q a), if_neg (by omega), if_neg (by omega)]
  · rw [if_neg (fun q => d.mpr q a), if_neg (by omega), if_neg (by omega)]
  · rw [if_neg (fun q => d.mpr q a), if_pos ⟨c, e⟩]
  · rw [if_neg (fun q => d.mpr q a), if_neg (by omega), if_neg (by omega)]
  · rw [if_neg (fun q => d.mpr q a), if_neg (by omega), if_pos ⟨b, c⟩]
  · rw [if_pos (d.mp a)]
theorem xDec (h : Q_x_X9_digitValue pa 10 r) : (dgt pa.toInt ∧ r = pa - 48) ∨ (¬ dgt pa.toInt ∧ r = -1) := by
  obtain ⟨r3, h3, -, h⟩ := h
  have d := xDigit h3
  have s16 : (10 : Int32).toInt ≠ 16 := by decide
  rcases h with ⟨a, ⟨-, -, rfl⟩ | ⟨b, -⟩⟩ | ⟨a, rfl⟩
  · exact Or.inr ⟨fun q => d.mpr q a, rfl⟩
  · exact absurd b s16
  · exact Or.inl ⟨d.mp a, rfl⟩
theorem xByteE (h : Q_x_X7_byteAt L1 L2 v pa r) (X : TXC T L v) (hp : pa.toInt = p) (hl : p < L) : r = T p := Int32.toInt_inj.mp (by rw [xByte h X hp, bt_lt hl])
theorem mAtE (h : Q_m_at2 w pa r) (X : TXM T L w) (hp : pa.toInt = p) (hl : p < L) : r = T p := Int32.toInt_inj.mp (by rw [mAt h X hp, b0_lt hl])
/-- the class's digits -/
theorem xDigs (X : TXC T L v) (hp : pa.toInt = p) (hl : p ≤ L) {va : Int64} {dg ka : Int32} (hr : RT (Q_x_X9_scanNumber_L0 L1 L2 v pa) (0, 0, 0) (va, dg, ka)) : ∃ k : Nat, k ≤ 10 ∧ ka.toInt = k ∧ dg.toInt = k ∧ va = dvl T p k ∧ ∀ j, j < k → dgt (btq T L (p + j)) := by
  have x4 := X.2.1
  refine RT.ind (fun (y : Int64 × Int32 × Int32) => ∃ k : Nat, k ≤ 10 ∧ y.2.2.toInt = k ∧ y.2.1.toInt = k ∧ y.1 = dvl T p k ∧ ∀ j, j < k → dgt (btq T L (p + j))) hr ⟨0, by omega, by decide, by decide, rfl, fun j hj => by omega⟩ ?_
  intro x y _ ⟨k, f0, f1, f2, f3, f4⟩ hy
  obtain ⟨-, g1, r44, h44, r47, h47, g2, r83, h83, r86, h86, rfl⟩ := hy
  have ep := incn hp f1 (by omega)
  have e44 := xByte h44 X ep
  have D : dgt (btq T L (p + k)) := by
    rcases xDec h47 with ⟨a, -⟩ | ⟨-, a⟩
    · rw [e44] at a; exact a
    · exact absurd (by rw [a]; decide) g2
  have lt := dgt_lt D
  have e83 := xByteE h83 X ep lt
  have e86 : r86 = T (p + k) - 48 := by
    rcases xDec h86 with ⟨-, a⟩ | ⟨a, -⟩
    · rw [a, e83]
    · rw [e83, ← bt_lt lt] at a
      exact absurd D a
  refine ⟨k + 1, by omega, inc1 f1 (by omega), inc1 f2 (by omega), ?_, fun j hj => ?_⟩
  · show x.1 * 10 + r86.toInt64 = dvl T p k * 10 + (T (p + k) - 48).toInt64
    rw [f3, e86]
  · by_cases q : j = k
    · rw [q]; exact D
    · exact f4 j (by omega)
theorem xHexs (X : TXC T L v) (hp : pa.toInt = p) (hl : p ≤ L) {va : Int64} {dg ka : Int32} (hr : RT (Q_x_X9_scanNumber_L2 L1 L2 v pa) (0, 0, 0) (va, dg, ka)) : ∃ k : Nat, k ≤ 8 ∧ ka.toInt = k ∧ dg.toInt = k ∧ va = hvl T (p + 2) k ∧ ∀ j, j < k → hex9 (btq T L (p + 2 + j)) := by
  have x4 := X.2.1
  have e2 : (pa + (2 : Int32)).toInt = ((p + 2 : Nat) : Int) := by
    have : (pa + (2 : Int32)).toInt = pa.toInt + 2 := add_z rfl (by decide) (by omega) (by omega)
    omega
  refine RT.ind (fun (y : Int64 × Int32 × Int32) => ∃ k : Nat, k ≤ 8 ∧ y.2.2.toInt = k ∧ y.2.1.toInt = k ∧ y.1 = hvl T (p + 2) k ∧ ∀ j, j < k → hex9 (btq T L (p + 2 + j))) hr ⟨0, by omega, by decide, by decide, rfl, fun j hj => by omega⟩ ?_
  intro x y _ ⟨k, f0, f1, f2, f3, f4⟩ hy
  obtain ⟨-, g1, r44, h44, r47, h47, g2, r83, h83, r86, h86, rfl⟩ := hy
  have ep := incn e2 f1 (by omega)
  have e44 := xByte h44 X ep
  have D : hex9 (btq T L (p + 2 + k)) := by
    by_cases a : hex9 (btq T L (p + 2 + k))
    · exact a
    · rw [← e44] at a
      exact absurd (by rw [xHex h47, hxv_n a]; decide) g2
  have lt := hex9_lt D
  have e83 := xByteE h83 X ep lt
  refine ⟨k + 1, by omega, inc1 f1 (by omega), inc1 f2 (by omega), ?_, fun j hj => ?_⟩
  · show x.1 * 16 + r86.toInt64 = hvl T (p + 2) k * 16 + (hxv (T (p + 2 + k))).toInt64
    rw [f3, xHex h86, e83]
  · by_cases q : j = k
    · rw [q]; exact D
    · exact f4 j (by omega)
/-- the reference's digits -/
theorem l48 {c : Int32} (h : dgt c.toInt) : (c - 48).toInt64 = c.toInt64 - 48 := by
  refine Int64.toInt_inj.mp ?_
  rw [Int32.toInt_toInt64, s48 h, Int64.toInt_sub, Int32.toInt_toInt64]
  unfold dgt at h
  have e : (48 : Int64).toInt = 48 := by decide
  rw [e]
  show _ = Int.bmod _ 18446744073709551616
  unfold Int.bmod
  dsimp only
  split <;> omega
theorem mDigs (X : TXM T L w) (hp : pa.toInt = p) (hl : p ≤ L) {tn : Int32} {lb : Int64} (hr : RT (Q_m_number_L0 w pa) (pa, 0) (tn, lb)) : ∃ k : Nat, k ≤ 11 ∧ tn.toInt = ((p + k : Nat) : Int) ∧ lb = dvl T p k ∧ ∀ j, j < k → dgt (btq T L (p + j)) := by
  have x4 := X.2.1
  refine RT.ind (fun (y : Int32 × Int64) => ∃ k : Nat, k ≤ 11 ∧ y.1.toInt = ((p + k : Nat) : Int) ∧ y.2 = dvl T p k ∧ ∀ j, j < k → dgt (btq T L (p + j))) hr ⟨0, by omega, hp, rfl, fun j hj => by omega⟩ ?_
  intro x y _ ⟨k, f0, f1, f3, f4⟩ hy
  obtain ⟨-, -, r5, h5, -, r8, -, k8, g1, g2, r36, h36, -, rfl⟩ := hy
  have D : dgt (btq T L (p + k)) := dgt_b0.mp (by rw [← mAt h5 X f1]; exact (mDigit k8).mp g1)
  have lt := dgt_lt D
  have e36 := mAtE h36 X f1 lt
  have e9 : (x.1 + (1 : Int32)).toInt = ((p + (k + 1) : Nat) : Int) := inc1 (k := p + k) f1 (by omega)
  refine ⟨k + 1, by omega, e9, ?_, fun j hj => ?_⟩
  · show 10 * x.2 + r36.toInt64 - 48 = dvl T p k * 10 + (T (p + k) - 48).toInt64
    rw [f3, e36, l48 (by rw [← bt_lt lt]; exact D), Int64.mul_comm, Int64.sub_eq_add_neg, Int64.sub_eq_add_neg, Int64.add_assoc]
  · by_cases q : j = k
    · rw [q]; exact D
    · exact f4 j (by omega)
theorem mHexs (X : TXM T L w) (hp : pa.toInt = p) (hl : p ≤ L) {tn : Int32} {lb : Int64} (hr : RT (Q_m_number_L2 w pa) (pa + 2, 0) (tn, lb)) : ∃ k : Nat, k ≤ 9 ∧ tn.toInt = ((p + 2 + k : Nat) : Int) ∧ lb = hvl T (p + 2) k ∧ ∀ j, j < k → hex9 (btq T L (p + 2 + j)) := by
  have x4 := X.2.1
  have e2 : (pa + (2 : Int32)).toInt = ((p + 2 : Nat) : Int) := by
    have : (pa + (2 : Int32)).toInt = pa.toInt + 2 := add_z rfl (by decide) (by omega) (by omega)
    omega
  refine RT.ind (fun (y : Int32 × Int64) => ∃ k : Nat, k ≤ 9 ∧ y.1.toInt = ((p + 2 + k : Nat) : Int) ∧ y.2 = hvl T (p + 2) k ∧ ∀ j, j < k → hex9 (btq T L (p + 2 + j))) hr ⟨0, by omega, e2, rfl, fun j hj => by omega⟩ ?_
  intro x y _ ⟨k, f0, f1, f3, f4⟩ hy
  obtain ⟨-, r84, h84, -, r87, h87, -, g1, g2, r123, h123, -, r126, h126, -, rfl⟩ := hy
  have D : hex9 (btq T L (p + 2 + k)) := by
    refine hex9_b0.mp ?_
    rw [← mAt h84 X f1]
    by_cases a : hex9 r84.toInt
    · exact a
    · rw [mHex h87, hxv_n a] at g1
      exact absurd g1 (by decide)
  have lt := hex9_lt D
  have e123 := mAtE h123 X f1 lt
  have e9 : (x.1 + (1 : Int32)).toInt = ((p + 2 + (k + 1) : Nat) : Int) := inc1 (k := p + 2 + k) f1 (by omega)
  refine ⟨k + 1, by omega, e9, ?_, fun j hj => ?_⟩
  · show 16 * x.2 + r126.toInt64 = hvl T (p + 2) k * 16 + (hxv (T (p + 2 + k))).toInt64
    rw [f3, mHex h126, e123, Int64.mul_comm]
  · by_cases q : j = k
    · rw [q]; exact D
    · exact f4 j (by omega)
theorem bm64 {x : Int} (h : -9223372036854775808 ≤ x ∧ x < 9223372036854775808) : x.bmod (2 ^ 64) = x := by
  show Int.bmod _ 18446744073709551616 = _
  unfold Int.bmod
  dsimp only
  split <;> omega
theorem dvl_b : ∀ k : Nat, k ≤ 10 → (∀ j, j < k → dgt (btq T L (p + j))) → 0 ≤ (dvl T p k).toInt ∧ (dvl T p k).toInt < 10 ^ k
  | 0, _, _ => by
    show 0 ≤ (0 : Int64).toInt ∧ (0 : Int64).toInt < 10 ^ 0
    decide
  | k + 1, hk, hd => by
    have ih := dvl_b k (by omega) (fun j hj => hd j (by omega))
    have D := hd k (by omega)
    have lt := dgt_lt D
    rw [bt_lt lt] at D
    have b10 : (10 : Int) ^ k ≤ 10 ^ 9 := by
      have : ∀ k, k < 10 → (10 : Int) ^ k ≤ 10 ^ 9 := by decide
      exact this k (by omega)
    have e1 : ((10 : Int) ^ 9) = 1000000000 := by decide
    have e10 : (10 : Int64).toInt = 10 := by decide
    have m1 : (dvl T p k * 10).toInt = (dvl T p k).toInt * 10 := by rw [Int64.toInt_mul, e10]; exact bm64 (by omega)
    have d1 : ((T (p + k) - 48).toInt64).toInt = (T (p + k)).toInt - 48 := by rw [Int32.toInt_toInt64, s48 D]
    unfold dgt at D
    have m2 : (dvl T p (k + 1)).toInt = (dvl T p k).toInt * 10 + ((T (p + k)).toInt - 48) := by
      show (dvl T p k * 10 + (T (p + k) - 48).toInt64).toInt = _
      rw [Int64.toInt_add, m1, d1]
      exact bm64 (by omega)
    rw [m2, Int.pow_succ]
    omega
end LX6
