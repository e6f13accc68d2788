/-! both meanings side by side: signs between two numbers (written by gyf.py) -/
section YFB
variable {L1 L2 : List Nat} {N : Nat} {v u w u2 : MS} {pa pb pc1 r x y9 r9 c t : Int32}
theorem jn_53 (h : Q_x_X10_join L1 L2 N v pa pb u) (e : pa = 53) : u = (wA v 0 363 (pb + (v.1 0 363))) := by
  rcases h with ⟨-, h⟩ | ⟨c, -⟩
  · exact h
  · exact absurd e c
theorem jn_54 (h : Q_x_X10_join L1 L2 N v pa pb u) (e : pa = 54) : u = (wA v 0 363 (pb - (v.1 0 363))) := by
  rcases h with ⟨c, -⟩ | ⟨-, h⟩
  · exact absurd (e.symm.trans c) (by decide)
  rcases h with ⟨-, h⟩ | ⟨c, -⟩
  · exact h
  · exact absurd e c
theorem jn_55 (h : Q_x_X10_join L1 L2 N v pa pb u) (e : pa = 55) : u = (wA v 0 363 (pb * (v.1 0 363))) := by
  rcases h with ⟨c, -⟩ | ⟨-, h⟩
  · exact absurd (e.symm.trans c) (by decide)
  rcases h with ⟨c, -⟩ | ⟨-, h⟩
  · exact absurd (e.symm.trans c) (by decide)
  rcases h with ⟨-, h⟩ | ⟨c, -⟩
  · exact h
  · exact absurd e c
theorem jn_56 (h : Q_x_X10_join L1 L2 N v pa pb u) (e : pa = 56) : (pa.toInt = (56 : Int)) ∧ ∃ (u16 : MS), (Q_x_X10_divide L1 L2 v (1 : Int32) pb u16) ∧ (K_x_X10_divide v (1 : Int32) pb u16) ∧ u = u16 := by
  rcases h with ⟨c, -⟩ | ⟨-, h⟩
  · exact absurd (e.symm.trans c) (by decide)
  rcases h with ⟨c, -⟩ | ⟨-, h⟩
  · exact absurd (e.symm.trans c) (by decide)
  rcases h with ⟨c, -⟩ | ⟨-, h⟩
  · exact absurd (e.symm.trans c) (by decide)
  rcases h with ⟨-, h⟩ | ⟨c, -⟩
  · exact h
  · exact absurd e c
theorem jn_57 (h : Q_x_X10_join L1 L2 N v pa pb u) (e : pa = 57) : (pa.toInt ≠ (56 : Int)) ∧ ∃ (u24 : MS), (Q_x_X10_divide L1 L2 v (0 : Int32) pb u24) ∧ (K_x_X10_divide v (0 : Int32) pb u24) ∧ u = u24 := by
  rcases h with ⟨c, -⟩ | ⟨-, h⟩
  · exact absurd (e.symm.trans c) (by decide)
  rcases h with ⟨c, -⟩ | ⟨-, h⟩
  · exact absurd (e.symm.trans c) (by decide)
  rcases h with ⟨c, -⟩ | ⟨-, h⟩
  · exact absurd (e.symm.trans c) (by decide)
  rcases h with ⟨c, -⟩ | ⟨-, h⟩
  · exact absurd (e.symm.trans c) (by decide)
  rcases h with ⟨-, h⟩ | ⟨c, -⟩
  · exact h
  · exact absurd e c
theorem jn_58 (h : Q_x_X10_join L1 L2 N v pa pb u) (e : pa = 58) : u = (wA v 0 363 (pb &&& (v.1 0 363))) := by
  rcases h with ⟨c, -⟩ | ⟨-, h⟩
  · exact absurd (e.symm.trans c) (by decide)
  rcases h with ⟨c, -⟩ | ⟨-, h⟩
  · exact absurd (e.symm.trans c) (by decide)
  rcases h with ⟨c, -⟩ | ⟨-, h⟩
  · exact absurd (e.symm.trans c) (by decide)
  rcases h with ⟨c, -⟩ | ⟨-, h⟩
  · exact absurd (e.symm.trans c) (by decide)
  rcases h with ⟨c, -⟩ | ⟨-, h⟩
  · exact absurd (e.symm.trans c) (by decide)
  rcases h with ⟨-, h⟩ | ⟨c, -⟩
  · exact h
  · exact absurd e c
theorem jn_59 (h : Q_x_X10_join L1 L2 N v pa pb u) (e : pa = 59) : u = (wA v 0 363 (pb ||| (v.1 0 363))) := by
  rcases h with ⟨c, -⟩ | ⟨-, h⟩
  · exact absurd (e.symm.trans c) (by decide)
  rcases h with ⟨c, -⟩ | ⟨-, h⟩
  · exact absurd (e.symm.trans c) (by decide)
  rcases h with ⟨c, -⟩ | ⟨-, h⟩
  · exact absurd (e.symm.trans c) (by decide)
  rcases h with ⟨c, -⟩ | ⟨-, h⟩
  · exact absurd (e.symm.trans c) (by decide)
  rcases h with ⟨c, -⟩ | ⟨-, h⟩
  · exact absurd (e.symm.trans c) (by decide)
  rcases h with ⟨c, -⟩ | ⟨-, h⟩
  · exact absurd (e.symm.trans c) (by decide)
  rcases h with ⟨-, h⟩ | ⟨c, -⟩
  · exact h
  · exact absurd e c
theorem jn_60 (h : Q_x_X10_join L1 L2 N v pa pb u) (e : pa = 60) : u = (wA v 0 363 (pb ^^^ (v.1 0 363))) := by
  rcases h with ⟨c, -⟩ | ⟨-, h⟩
  · exact absurd (e.symm.trans c) (by decide)
  rcases h with ⟨c, -⟩ | ⟨-, h⟩
  · exact absurd (e.symm.trans c) (by decide)
  rcases h with ⟨c, -⟩ | ⟨-, h⟩
  · exact absurd (e.symm.trans c) (by decide)
  rcases h with ⟨c, -⟩ | ⟨-, h⟩
  · exact absurd (e.symm.trans c) (by decide)
  rcases h with ⟨c, -⟩ | ⟨-, h⟩
  · exact absurd (e.symm.trans c) (by decide)
  rcases h with ⟨c, -⟩ | ⟨-, h⟩
  · exact absurd (e.symm.trans c) (by decide)
  rcases h with ⟨c, -⟩ | ⟨-, h⟩
  · exact absurd (e.symm.trans c) (by decide)
  rcases h with ⟨-, h⟩ | ⟨c, -⟩
  · exact h
  · exact absurd e c
theorem jn_61 (h : Q_x_X10_join L1 L2 N v pa pb u) (e : pa = 61) : u = (wA v 0 363 (pb <<< ((v.1 0 363) &&& 31))) := by
  rcases h with ⟨c, -⟩ | ⟨-, h⟩
  · exact absurd (e.symm.trans c) (by decide)
  rcases h with ⟨c, -⟩ | ⟨-, h⟩
  · exact absurd (e.symm.trans c) (by decide)
  rcases h with ⟨c, -⟩ | ⟨-, h⟩
  · exact absurd (e.symm.trans c) (by decide)
  rcases h with ⟨c, -⟩ | ⟨-, h⟩
  · exact absurd (e.symm.trans c) (by decide)
  rcases h with ⟨c, -⟩ | ⟨-, h⟩
  · exact absurd (e.symm.trans c) (by decide)
  rcases h with ⟨c, -⟩ | ⟨-, h⟩
  · exact absurd (e.symm.trans c) (by decide)
  rcases h with ⟨c, -⟩ | ⟨-, h⟩
  · exact absurd (e.symm.trans c) (by decide)
  rcases h with ⟨c, -⟩ | ⟨-, h⟩
  · exact absurd (e.symm.trans c) (by decide)
  rcases h with ⟨-, h⟩ | ⟨c, -⟩
  · exact h
  · exact absurd e c
theorem jn_62 (h : Q_x_X10_join L1 L2 N v pa pb u) (e : pa = 62) : u = (wA v 0 363 (pb >>> ((v.1 0 363) &&& 31))) := by
  rcases h with ⟨c, -⟩ | ⟨-, h⟩
  · exact absurd (e.symm.trans c) (by decide)
  rcases h with ⟨c, -⟩ | ⟨-, h⟩
  · exact absurd (e.symm.trans c) (by decide)
  rcases h with ⟨c, -⟩ | ⟨-, h⟩
  · exact absurd (e.symm.trans c) (by decide)
  rcases h with ⟨c, -⟩ | ⟨-, h⟩
  · exact absurd (e.symm.trans c) (by decide)
  rcases h with ⟨c, -⟩ | ⟨-, h⟩
  · exact absurd (e.symm.trans c) (by decide)
  rcases h with ⟨c, -⟩ | ⟨-, h⟩
  · exact absurd (e.symm.trans c) (by decide)
  rcases h with ⟨c, -⟩ | ⟨-, h⟩
  · exact absurd (e.symm.trans c) (by decide)
  rcases h with ⟨c, -⟩ | ⟨-, h⟩
  · exact absurd (e.symm.trans c) (by decide)
  rcases h with ⟨c, -⟩ | ⟨-, h⟩
  · exact absurd (e.symm.trans c) (by decide)
  rcases h with ⟨-, h⟩ | ⟨c, -⟩
  · exact h
  · exact absurd e c
theorem jn_63 (h : Q_x_X10_join L1 L2 N v pa pb u) (e : pa = 63) : ∃ (r45 : Int32), (Q_x_X10_compares pa pb (v.1 0 363) r45) ∧ (K_x_X10_compares pa pb (v.1 0 363) r45) ∧ (((r45.toInt = (0 : Int)) ∧ u = (wA v 0 363 0)) ∨ ((r45.toInt ≠ (0 : Int)) ∧ u = (wA v 0 363 1))) := by
  rcases h with ⟨c, -⟩ | ⟨-, h⟩
  · exact absurd (e.symm.trans c) (by decide)
  rcases h with ⟨c, -⟩ | ⟨-, h⟩
  · exact absurd (e.symm.trans c) (by decide)
  rcases h with ⟨c, -⟩ | ⟨-, h⟩
  · exact absurd (e.symm.trans c) (by decide)
  rcases h with ⟨c, -⟩ | ⟨-, h⟩
  · exact absurd (e.symm.trans c) (by decide)
  rcases h with ⟨c, -⟩ | ⟨-, h⟩
  · exact absurd (e.symm.trans c) (by decide)
  rcases h with ⟨c, -⟩ | ⟨-, h⟩
  · exact absurd (e.symm.trans c) (by decide)
  rcases h with ⟨c, -⟩ | ⟨-, h⟩
  · exact absurd (e.symm.trans c) (by decide)
  rcases h with ⟨c, -⟩ | ⟨-, h⟩
  · exact absurd (e.symm.trans c) (by decide)
  rcases h with ⟨c, -⟩ | ⟨-, h⟩
  · exact absurd (e.symm.trans c) (by decide)
  rcases h with ⟨c, -⟩ | ⟨-, h⟩
  · exact absurd (e.symm.trans c) (by decide)
  exact h
theorem jn_64 (h : Q_x_X10_join L1 L2 N v pa pb u) (e : pa = 64) : ∃ (r45 : Int32), (Q_x_X10_compares pa pb (v.1 0 363) r45) ∧ (K_x_X10_compares pa pb (v.1 0 363) r45) ∧ (((r45.toInt = (0 : Int)) ∧ u = (wA v 0 363 0)) ∨ ((r45.toInt ≠ (0 : Int)) ∧ u = (wA v 0 363 1))) := by
  rcases h with ⟨c, -⟩ | ⟨-, h⟩
  · exact absurd (e.symm.trans c) (by decide)
  rcases h with ⟨c, -⟩ | ⟨-, h⟩
  · exact absurd (e.symm.trans c) (by decide)
  rcases h with ⟨c, -⟩ | ⟨-, h⟩
  · exact absurd (e.symm.trans c) (by decide)
  rcases h with ⟨c, -⟩ | ⟨-, h⟩
  · exact absurd (e.symm.trans c) (by decide)
  rcases h with ⟨c, -⟩ | ⟨-, h⟩
  · exact absurd (e.symm.trans c) (by decide)
  rcases h with ⟨c, -⟩ | ⟨-, h⟩
  · exact absurd (e.symm.trans c) (by decide)
  rcases h with ⟨c, -⟩ | ⟨-, h⟩
  · exact absurd (e.symm.trans c) (by decide)
  rcases h with ⟨c, -⟩ | ⟨-, h⟩
  · exact absurd (e.symm.trans c) (by decide)
  rcases h with ⟨c, -⟩ | ⟨-, h⟩
  · exact absurd (e.symm.trans c) (by decide)
  rcases h with ⟨c, -⟩ | ⟨-, h⟩
  · exact absurd (e.symm.trans c) (by decide)
  exact h
theorem jn_65 (h : Q_x_X10_join L1 L2 N v pa pb u) (e : pa = 65) : ∃ (r45 : Int32), (Q_x_X10_compares pa pb (v.1 0 363) r45) ∧ (K_x_X10_compares pa pb (v.1 0 363) r45) ∧ (((r45.toInt = (0 : Int)) ∧ u = (wA v 0 363 0)) ∨ ((r45.toInt ≠ (0 : Int)) ∧ u = (wA v 0 363 1))) := by
  rcases h with ⟨c, -⟩ | ⟨-, h⟩
  · exact absurd (e.symm.trans c) (by decide)
  rcases h with ⟨c, -⟩ | ⟨-, h⟩
  · exact absurd (e.symm.trans c) (by decide)
  rcases h with ⟨c, -⟩ | ⟨-, h⟩
  · exact absurd (e.symm.trans c) (by decide)
  rcases h with ⟨c, -⟩ | ⟨-, h⟩
  · exact absurd (e.symm.trans c) (by decide)
  rcases h with ⟨c, -⟩ | ⟨-, h⟩
  · exact absurd (e.symm.trans c) (by decide)
  rcases h with ⟨c, -⟩ | ⟨-, h⟩
  · exact absurd (e.symm.trans c) (by decide)
  rcases h with ⟨c, -⟩ | ⟨-, h⟩
  · exact absurd (e.symm.trans c) (by decide)
  rcases h with ⟨c, -⟩ | ⟨-, h⟩
  · exact absurd (e.symm.trans c) (by decide)
  rcases h with ⟨c, -⟩ | ⟨-, h⟩
  · exact absurd (e.symm.trans c) (by decide)
  rcases h with ⟨c, -⟩ | ⟨-, h⟩
  · exact absurd (e.symm.trans c) (by decide)
  exact h
theorem jn_66 (h : Q_x_X10_join L1 L2 N v pa pb u) (e : pa = 66) : ∃ (r45 : Int32), (Q_x_X10_compares pa pb (v.1 0 363) r45) ∧ (K_x_X10_compares pa pb (v.1 0 363) r45) ∧ (((r45.toInt = (0 : Int)) ∧ u = (wA v 0 363 0)) ∨ ((r45.toInt ≠ (0 : Int)) ∧ u = (wA v 0 363 1))) := by
  rcases h with ⟨c, -⟩ | ⟨-, h⟩
  · exact absurd (e.symm.trans c) (by decide)
  rcases h with ⟨c, -⟩ | ⟨-, h⟩
  · exact absurd (e.symm.trans c) (by decide)
  rcases h with ⟨c, -⟩ | ⟨-, h⟩
  · exact absurd (e.symm.trans c) (by decide)
  rcases h with ⟨c, -⟩ | ⟨-, h⟩
  · exact absurd (e.symm.trans c) (by decide)
  rcases h with ⟨c, -⟩ | ⟨-, h⟩
  · exact absurd (e.symm.trans c) (by decide)
  rcases h with ⟨c, -⟩ | ⟨-, h⟩
  · exact absurd (e.symm.trans c) (by decide)
  rcases h with ⟨c, -⟩ | ⟨-, h⟩
  · exact absurd (e.symm.trans c) (by decide)
  rcases h with ⟨c, -⟩ | ⟨-, h⟩
  · exact absurd (e.symm.trans c) (by decide)
  rcases h with ⟨c, -⟩ | ⟨-, h⟩
  · exact absurd (e.symm.trans c) (by decide)
  rcases h with ⟨c, -⟩ | ⟨-, h⟩
  · exact absurd (e.symm.trans c) (by decide)
  exact h
theorem jn_67 (h : Q_x_X10_join L1 L2 N v pa pb u) (e : pa = 67) : ∃ (r45 : Int32), (Q_x_X10_compares pa pb (v.1 0 363) r45) ∧ (K_x_X10_compares pa pb (v.1 0 363) r45) ∧ (((r45.toInt = (0 : Int)) ∧ u = (wA v 0 363 0)) ∨ ((r45.toInt ≠ (0 : Int)) ∧ u = (wA v 0 363 1))) := by
  rcases h with ⟨c, -⟩ | ⟨-, h⟩
  · exact absurd (e.symm.trans c) (by decide)
  rcases h with ⟨c, -⟩ | ⟨-, h⟩
  · exact absurd (e.symm.trans c) (by decide)
  rcases h with ⟨c, -⟩ | ⟨-, h⟩
  · exact absurd (e.symm.trans c) (by decide)
  rcases h with ⟨c, -⟩ | ⟨-, h⟩
  · exact absurd (e.symm.trans c) (by decide)
  rcases h with ⟨c, -⟩ | ⟨-, h⟩
  · exact absurd (e.symm.trans c) (by decide)
  rcases h with ⟨c, -⟩ | ⟨-, h⟩
  · exact absurd (e.symm.trans c) (by decide)
  rcases h with ⟨c, -⟩ | ⟨-, h⟩
  · exact absurd (e.symm.trans c) (by decide)
  rcases h with ⟨c, -⟩ | ⟨-, h⟩
  · exact absurd (e.symm.trans c) (by decide)
  rcases h with ⟨c, -⟩ | ⟨-, h⟩
  · exact absurd (e.symm.trans c) (by decide)
  rcases h with ⟨c, -⟩ | ⟨-, h⟩
  · exact absurd (e.symm.trans c) (by decide)
  exact h
theorem jn_68 (h : Q_x_X10_join L1 L2 N v pa pb u) (e : pa = 68) : ∃ (r45 : Int32), (Q_x_X10_compares pa pb (v.1 0 363) r45) ∧ (K_x_X10_compares pa pb (v.1 0 363) r45) ∧ (((r45.toInt = (0 : Int)) ∧ u = (wA v 0 363 0)) ∨ ((r45.toInt ≠ (0 : Int)) ∧ u = (wA v 0 363 1))) := by
  rcases h with ⟨c, -⟩ | ⟨-, h⟩
  · exact absurd (e.symm.trans c) (by decide)
  rcases h with ⟨c, -⟩ | ⟨-, h⟩
  · exact absurd (e.symm.trans c) (by decide)
  rcases h with ⟨c, -⟩ | ⟨-, h⟩
  · exact absurd (e.symm.trans c) (by decide)
  rcases h with ⟨c, -⟩ | ⟨-, h⟩
  · exact absurd (e.symm.trans c) (by decide)
  rcases h with ⟨c, -⟩ | ⟨-, h⟩
  · exact absurd (e.symm.trans c) (by decide)
  rcases h with ⟨c, -⟩ | ⟨-, h⟩
  · exact absurd (e.symm.trans c) (by decide)
  rcases h with ⟨c, -⟩ | ⟨-, h⟩
  · exact absurd (e.symm.trans c) (by decide)
  rcases h with ⟨c, -⟩ | ⟨-, h⟩
  · exact absurd (e.symm.trans c) (by decide)
  rcases h with ⟨c, -⟩ | ⟨-, h⟩
  · exact absurd (e.symm.trans c) (by decide)
  rcases h with ⟨c, -⟩ | ⟨-, h⟩
  · exact absurd (e.symm.trans c) (by decide)
  exact h
theorem cm_63 (h : Q_x_X10_compares pa pb pc1 r) (e : pa = 63) : (((pb.toInt ≠ pc1.toInt) ∧ r = 0) ∨ ((pb.toInt = pc1.toInt) ∧ r = 1)) := by
  rcases h with ⟨-, h⟩ | ⟨c, -⟩
  · exact h
  · exact absurd e c
theorem cm_64 (h : Q_x_X10_compares pa pb pc1 r) (e : pa = 64) : (((pb.toInt = pc1.toInt) ∧ r = 0) ∨ ((pb.toInt ≠ pc1.toInt) ∧ r = 1)) := by
  rcases h with ⟨c, -⟩ | ⟨-, h⟩
  · exact absurd (e.symm.trans c) (by decide)
  rcases h with ⟨-, h⟩ | ⟨c, -⟩
  · exact h
  · exact absurd e c
theorem cm_65 (h : Q_x_X10_compares pa pb pc1 r) (e : pa = 65) : (((pc1.toInt ≤ pb.toInt) ∧ r = 0) ∨ ((pb.toInt < pc1.toInt) ∧ r = 1)) := by
  rcases h with ⟨c, -⟩ | ⟨-, h⟩
  · exact absurd (e.symm.trans c) (by decide)
  rcases h with ⟨c, -⟩ | ⟨-, h⟩
  · exact absurd (e.symm.trans c) (by decide)
  rcases h with ⟨-, h⟩ | ⟨c, -⟩
  · exact h
  · exact absurd e c
theorem cm_66 (h : Q_x_X10_compares pa pb pc1 r) (e : pa = 66) : (((pc1.toInt < pb.toInt) ∧ r = 0) ∨ ((pb.toInt ≤ pc1.toInt) ∧ r = 1)) := by
  rcases h with ⟨c, -⟩ | ⟨-, h⟩
  · exact absurd (e.symm.trans c) (by decide)
  rcases h with ⟨c, -⟩ | ⟨-, h⟩
  · exact absurd (e.symm.trans c) (by decide)
  rcases h with ⟨c, -⟩ | ⟨-, h⟩
  · exact absurd (e.symm.trans c) (by decide)
  rcases h with ⟨-, h⟩ | ⟨c, -⟩
  · exact h
  · exact absurd e c
theorem cm_67 (h : Q_x_X10_compares pa pb pc1 r) (e : pa = 67) : (((pb.toInt ≤ pc1.toInt) ∧ r = 0) ∨ ((pc1.toInt < pb.toInt) ∧ r = 1)) := by
  rcases h with ⟨c, -⟩ | ⟨-, h⟩
  · exact absurd (e.symm.trans c) (by decide)
  rcases h with ⟨c, -⟩ | ⟨-, h⟩
  · exact absurd (e.symm.trans c) (by decide)
  rcases h with ⟨c, -⟩ | ⟨-, h⟩
  · exact absurd (e.symm.trans c) (by decide)
  rcases h with ⟨c, -⟩ | ⟨-, h⟩
  · exact absurd (e.symm.trans c) (by decide)
  rcases h with ⟨-, h⟩ | ⟨c, -⟩
  · exact h
  · exact absurd e c
theorem cm_68 (h : Q_x_X10_compares pa pb pc1 r) (e : pa = 68) : (((pb.toInt < pc1.toInt) ∧ r = 0) ∨ ((pc1.toInt ≤ pb.toInt) ∧ r = 1)) := by
  rcases h with ⟨c, -⟩ | ⟨-, h⟩
  · exact absurd (e.symm.trans c) (by decide)
  rcases h with ⟨c, -⟩ | ⟨-, h⟩
  · exact absurd (e.symm.trans c) (by decide)
  rcases h with ⟨c, -⟩ | ⟨-, h⟩
  · exact absurd (e.symm.trans c) (by decide)
  rcases h with ⟨c, -⟩ | ⟨-, h⟩
  · exact absurd (e.symm.trans c) (by decide)
  rcases h with ⟨c, -⟩ | ⟨-, h⟩
  · exact absurd (e.symm.trans c) (by decide)
  exact h
theorem wk_37 (h : Q_m_worked0 pa pb pc1 r) (e : pa = 37) : (((pc1.toInt ≠ (-1 : Int)) ∧ r = (pb - pb / pc1 * pc1)) ∨ ((pc1.toInt = (-1 : Int)) ∧ r = 0)) := by
  obtain ⟨-, h⟩ := h
  rcases h with ⟨-, h⟩ | ⟨c, -⟩
  · exact h
  · exact absurd e c
theorem wk_38 (h : Q_m_worked0 pa pb pc1 r) (e : pa = 38) : r = (pb &&& pc1) := by
  obtain ⟨-, h⟩ := h
  rcases h with ⟨c, -⟩ | ⟨-, h⟩
  · exact absurd (e.symm.trans c) (by decide)
  rcases h with ⟨-, h⟩ | ⟨c, -⟩
  · exact h
  · exact absurd e c
theorem wk_42 (h : Q_m_worked0 pa pb pc1 r) (e : pa = 42) : r = (pb * pc1) := by
  obtain ⟨-, h⟩ := h
  rcases h with ⟨c, -⟩ | ⟨-, h⟩
  · exact absurd (e.symm.trans c) (by decide)
  rcases h with ⟨c, -⟩ | ⟨-, h⟩
  · exact absurd (e.symm.trans c) (by decide)
  rcases h with ⟨-, h⟩ | ⟨c, -⟩
  · exact h
  · exact absurd e c
theorem wk_43 (h : Q_m_worked0 pa pb pc1 r) (e : pa = 43) : r = (pb + pc1) := by
  obtain ⟨-, h⟩ := h
  rcases h with ⟨c, -⟩ | ⟨-, h⟩
  · exact absurd (e.symm.trans c) (by decide)
  rcases h with ⟨c, -⟩ | ⟨-, h⟩
  · exact absurd (e.symm.trans c) (by decide)
  rcases h with ⟨c, -⟩ | ⟨-, h⟩
  · exact absurd (e.symm.trans c) (by decide)
  rcases h with ⟨-, h⟩ | ⟨c, -⟩
  · exact h
  · exact absurd e c
theorem wk_45 (h : Q_m_worked0 pa pb pc1 r) (e : pa = 45) : r = (pb - pc1) := by
  obtain ⟨-, h⟩ := h
  rcases h with ⟨c, -⟩ | ⟨-, h⟩
  · exact absurd (e.symm.trans c) (by decide)
  rcases h with ⟨c, -⟩ | ⟨-, h⟩
  · exact absurd (e.symm.trans c) (by decide)
  rcases h with ⟨c, -⟩ | ⟨-, h⟩
  · exact absurd (e.symm.trans c) (by decide)
  rcases h with ⟨c, -⟩ | ⟨-, h⟩
  · exact absurd (e.symm.trans c) (by decide)
  rcases h with ⟨-, h⟩ | ⟨c, -⟩
  · exact h
  · exact absurd e c
theorem wk_47 (h : Q_m_worked0 pa pb pc1 r) (e : pa = 47) : (((pc1.toInt ≠ (-1 : Int)) ∧ r = (pb / pc1)) ∨ ((pc1.toInt = (-1 : Int)) ∧ r = (-pb))) := by
  obtain ⟨-, h⟩ := h
  rcases h with ⟨c, -⟩ | ⟨-, h⟩
  · exact absurd (e.symm.trans c) (by decide)
  rcases h with ⟨c, -⟩ | ⟨-, h⟩
  · exact absurd (e.symm.trans c) (by decide)
  rcases h with ⟨c, -⟩ | ⟨-, h⟩
  · exact absurd (e.symm.trans c) (by decide)
  rcases h with ⟨c, -⟩ | ⟨-, h⟩
  · exact absurd (e.symm.trans c) (by decide)
  rcases h with ⟨c, -⟩ | ⟨-, h⟩
  · exact absurd (e.symm.trans c) (by decide)
  rcases h with ⟨-, h⟩ | ⟨c, -⟩
  · exact h
  · exact absurd e c
theorem wk_60 (h : Q_m_worked0 pa pb pc1 r) (e : pa = 60) : (((pc1.toInt ≤ pb.toInt) ∧ ∃ (r31 : Int32), (Q_m_less (0 : Int32) r31) ∧ r = r31) ∨ ((pb.toInt < pc1.toInt) ∧ ∃ (r35 : Int32), (Q_m_less (1 : Int32) r35) ∧ r = r35)) := by
  obtain ⟨-, h⟩ := h
  rcases h with ⟨c, -⟩ | ⟨-, h⟩
  · exact absurd (e.symm.trans c) (by decide)
  rcases h with ⟨c, -⟩ | ⟨-, h⟩
  · exact absurd (e.symm.trans c) (by decide)
  rcases h with ⟨c, -⟩ | ⟨-, h⟩
  · exact absurd (e.symm.trans c) (by decide)
  rcases h with ⟨c, -⟩ | ⟨-, h⟩
  · exact absurd (e.symm.trans c) (by decide)
  rcases h with ⟨c, -⟩ | ⟨-, h⟩
  · exact absurd (e.symm.trans c) (by decide)
  rcases h with ⟨c, -⟩ | ⟨-, h⟩
  · exact absurd (e.symm.trans c) (by decide)
  rcases h with ⟨-, h⟩ | ⟨c, -⟩
  · exact h
  · exact absurd e c
theorem wk_62 (h : Q_m_worked0 pa pb pc1 r) (e : pa = 62) : (((pb.toInt ≤ pc1.toInt) ∧ ∃ (r43 : Int32), (Q_m_less (0 : Int32) r43) ∧ r = r43) ∨ ((pc1.toInt < pb.toInt) ∧ ∃ (r47 : Int32), (Q_m_less (1 : Int32) r47) ∧ r = r47)) := by
  obtain ⟨-, h⟩ := h
  rcases h with ⟨c, -⟩ | ⟨-, h⟩
  · exact absurd (e.symm.trans c) (by decide)
  rcases h with ⟨c, -⟩ | ⟨-, h⟩
  · exact absurd (e.symm.trans c) (by decide)
  rcases h with ⟨c, -⟩ | ⟨-, h⟩
  · exact absurd (e.symm.trans c) (by decide)
  rcases h with ⟨c, -⟩ | ⟨-, h⟩
  · exact absurd (e.symm.trans c) (by decide)
  rcases h with ⟨c, -⟩ | ⟨-, h⟩
  · exact absurd (e.symm.trans c) (by decide)
  rcases h with ⟨c, -⟩ | ⟨-, h⟩
  · exact absurd (e.symm.trans c) (by decide)
  rcases h with ⟨c, -⟩ | ⟨-, h⟩
  · exact absurd (e.symm.trans c) (by decide)
  rcases h with ⟨-, h⟩ | ⟨c, -⟩
  · exact h
  · exact absurd e c
theorem wk_94 (h : Q_m_worked0 pa pb pc1 r) (e : pa = 94) : r = (pb ^^^ pc1) := by
  obtain ⟨-, h⟩ := h
  rcases h with ⟨c, -⟩ | ⟨-, h⟩
  · exact absurd (e.symm.trans c) (by decide)
  rcases h with ⟨c, -⟩ | ⟨-, h⟩
  · exact absurd (e.symm.trans c) (by decide)
  rcases h with ⟨c, -⟩ | ⟨-, h⟩
  · exact absurd (e.symm.trans c) (by decide)
  rcases h with ⟨c, -⟩ | ⟨-, h⟩
  · exact absurd (e.symm.trans c) (by decide)
  rcases h with ⟨c, -⟩ | ⟨-, h⟩
  · exact absurd (e.symm.trans c) (by decide)
  rcases h with ⟨c, -⟩ | ⟨-, h⟩
  · exact absurd (e.symm.trans c) (by decide)
  rcases h with ⟨c, -⟩ | ⟨-, h⟩
  · exact absurd (e.symm.trans c) (by decide)
  rcases h with ⟨c, -⟩ | ⟨-, h⟩
  · exact absurd (e.symm.trans c) (by decide)
  rcases h with ⟨-, h⟩ | ⟨c, -⟩
  · exact h
  · exact absurd e c
theorem wk_124 (h : Q_m_worked0 pa pb pc1 r) (e : pa = 124) : r = (pb ||| pc1) := by
  obtain ⟨-, h⟩ := h
  rcases h with ⟨c, -⟩ | ⟨-, h⟩
  · exact absurd (e.symm.trans c) (by decide)
  rcases h with ⟨c, -⟩ | ⟨-, h⟩
  · exact absurd (e.symm.trans c) (by decide)
  rcases h with ⟨c, -⟩ | ⟨-, h⟩
  · exact absurd (e.symm.trans c) (by decide)
  rcases h with ⟨c, -⟩ | ⟨-, h⟩
  · exact absurd (e.symm.trans c) (by decide)
  rcases h with ⟨c, -⟩ | ⟨-, h⟩
  · exact absurd (e.symm.trans c) (by decide)
  rcases h with ⟨c, -⟩ | ⟨-, h⟩
  · exact absurd (e.symm.trans c) (by decide)
  rcases h with ⟨c, -⟩ | ⟨-, h⟩
  · exact absurd (e.symm.trans c) (by decide)
  rcases h with ⟨c, -⟩ | ⟨-, h⟩
  · exact absurd (e.symm.trans c) (by decide)
  rcases h with ⟨c, -⟩ | ⟨-, h⟩
  · exact absurd (e.symm.trans c) (by decide)
  rcases h with ⟨-, h⟩ | ⟨c, -⟩
  · exact h
  · exact absurd e c
theorem wk_15420 (h : Q_m_worked0 pa pb pc1 r) (e : pa = 15420) : r = (pb <<< ((pc1 &&& (31 : Int32)) &&& 31)) := by
  obtain ⟨-, h⟩ := h
  rcases h with ⟨c, -⟩ | ⟨-, h⟩
  · exact absurd (e.symm.trans c) (by decide)
  rcases h with ⟨c, -⟩ | ⟨-, h⟩
  · exact absurd (e.symm.trans c) (by decide)
  rcases h with ⟨c, -⟩ | ⟨-, h⟩
  · exact absurd (e.symm.trans c) (by decide)
  rcases h with ⟨c, -⟩ | ⟨-, h⟩
  · exact absurd (e.symm.trans c) (by decide)
  rcases h with ⟨c, -⟩ | ⟨-, h⟩
  · exact absurd (e.symm.trans c) (by decide)
  rcases h with ⟨c, -⟩ | ⟨-, h⟩
  · exact absurd (e.symm.trans c) (by decide)
  rcases h with ⟨c, -⟩ | ⟨-, h⟩
  · exact absurd (e.symm.trans c) (by decide)
  rcases h with ⟨c, -⟩ | ⟨-, h⟩
  · exact absurd (e.symm.trans c) (by decide)
  rcases h with ⟨c, -⟩ | ⟨-, h⟩
  · exact absurd (e.symm.trans c) (by decide)
  rcases h with ⟨c, -⟩ | ⟨-, h⟩
  · exact absurd (e.symm.trans c) (by decide)
  rcases h with ⟨-, h⟩ | ⟨c, -⟩
  · exact h
  · exact absurd e c
theorem wk_15649 (h : Q_m_worked0 pa pb pc1 r) (e : pa = 15649) : (((pb.toInt = pc1.toInt) ∧ ∃ (r101 : Int32), (Q_m_less (0 : Int32) r101) ∧ r = r101) ∨ ((pb.toInt ≠ pc1.toInt) ∧ ∃ (r105 : Int32), (Q_m_less (1 : Int32) r105) ∧ r = r105)) := by
  obtain ⟨-, h⟩ := h
  rcases h with ⟨c, -⟩ | ⟨-, h⟩
  · exact absurd (e.symm.trans c) (by decide)
  rcases h with ⟨c, -⟩ | ⟨-, h⟩
  · exact absurd (e.symm.trans c) (by decide)
  rcases h with ⟨c, -⟩ | ⟨-, h⟩
  · exact absurd (e.symm.trans c) (by decide)
  rcases h with ⟨c, -⟩ | ⟨-, h⟩
  · exact absurd (e.symm.trans c) (by decide)
  rcases h with ⟨c, -⟩ | ⟨-, h⟩
  · exact absurd (e.symm.trans c) (by decide)
  rcases h with ⟨c, -⟩ | ⟨-, h⟩
  · exact absurd (e.symm.trans c) (by decide)
  rcases h with ⟨c, -⟩ | ⟨-, h⟩
  · exact absurd (e.symm.trans c) (by decide)
  rcases h with ⟨c, -⟩ | ⟨-, h⟩
  · exact absurd (e.symm.trans c) (by decide)
  rcases h with ⟨c, -⟩ | ⟨-, h⟩
  · exact absurd (e.symm.trans c) (by decide)
  rcases h with ⟨c, -⟩ | ⟨-, h⟩
  · exact absurd (e.symm.trans c) (by decide)
  rcases h with ⟨c, -⟩ | ⟨-, h⟩
  · exact absurd (e.symm.trans c) (by decide)
  rcases h with ⟨c, -⟩ | ⟨-, h⟩
  · exact absurd (e.symm.trans c) (by decide)
  rcases h with ⟨c, -⟩ | ⟨-, h⟩
  · exact absurd (e.symm.trans c) (by decide)
  rcases h with ⟨c, -⟩ | ⟨-, h⟩
  · exact absurd (e.symm.trans c) (by decide)
  rcases h with ⟨c, -⟩ | ⟨-, h⟩
  · exact absurd (e.symm.trans c) (by decide)
  exact h
theorem wk_15676 (h : Q_m_worked0 pa pb pc1 r) (e : pa = 15676) : (((pc1.toInt < pb.toInt) ∧ ∃ (r64 : Int32), (Q_m_less (0 : Int32) r64) ∧ r = r64) ∨ ((pb.toInt ≤ pc1.toInt) ∧ ∃ (r68 : Int32), (Q_m_less (1 : Int32) r68) ∧ r = r68)) := by
  obtain ⟨-, h⟩ := h
  rcases h with ⟨c, -⟩ | ⟨-, h⟩
  · exact absurd (e.symm.trans c) (by decide)
  rcases h with ⟨c, -⟩ | ⟨-, h⟩
  · exact absurd (e.symm.trans c) (by decide)
  rcases h with ⟨c, -⟩ | ⟨-, h⟩
  · exact absurd (e.symm.trans c) (by decide)
  rcases h with ⟨c, -⟩ | ⟨-, h⟩
  · exact absurd (e.symm.trans c) (by decide)
  rcases h with ⟨c, -⟩ | ⟨-, h⟩
  · exact absurd (e.symm.trans c) (by decide)
  rcases h with ⟨c, -⟩ | ⟨-, h⟩
  · exact absurd (e.symm.trans c) (by decide)
  rcases h with ⟨c, -⟩ | ⟨-, h⟩
  · exact absurd (e.symm.trans c) (by decide)
  rcases h with ⟨c, -⟩ | ⟨-, h⟩
  · exact absurd (e.symm.trans c) (by decide)
  rcases h with ⟨c, -⟩ | ⟨-, h⟩
  · exact absurd (e.symm.trans c) (by decide)
  rcases h with ⟨c, -⟩ | ⟨-, h⟩
  · exact absurd (e.symm.trans c) (by decide)
  rcases h with ⟨c, -⟩ | ⟨-, h⟩
  · exact absurd (e.symm.trans c) (by decide)
  rcases h with ⟨-, h⟩ | ⟨c, -⟩
  · exact h
  · exact absurd e c
theorem wk_15677 (h : Q_m_worked0 pa pb pc1 r) (e : pa = 15677) : (((pb.toInt ≠ pc1.toInt) ∧ ∃ (r76 : Int32), (Q_m_less (0 : Int32) r76) ∧ r = r76) ∨ ((pb.toInt = pc1.toInt) ∧ ∃ (r80 : Int32), (Q_m_less (1 : Int32) r80) ∧ r = r80)) := by
  obtain ⟨-, h⟩ := h
  rcases h with ⟨c, -⟩ | ⟨-, h⟩
  · exact absurd (e.symm.trans c) (by decide)
  rcases h with ⟨c, -⟩ | ⟨-, h⟩
  · exact absurd (e.symm.trans c) (by decide)
  rcases h with ⟨c, -⟩ | ⟨-, h⟩
  · exact absurd (e.symm.trans c) (by decide)
  rcases h with ⟨c, -⟩ | ⟨-, h⟩
  · exact absurd (e.symm.trans c) (by decide)
  rcases h with ⟨c, -⟩ | ⟨-, h⟩
  · exact absurd (e.symm.trans c) (by decide)
  rcases h with ⟨c, -⟩ | ⟨-, h⟩
  · exact absurd (e.symm.trans c) (by decide)
  rcases h with ⟨c, -⟩ | ⟨-, h⟩
  · exact absurd (e.symm.trans c) (by decide)
  rcases h with ⟨c, -⟩ | ⟨-, h⟩
  · exact absurd (e.symm.trans c) (by decide)
  rcases h with ⟨c, -⟩ | ⟨-, h⟩
  · exact absurd (e.symm.trans c) (by decide)
  rcases h with ⟨c, -⟩ | ⟨-, h⟩
  · exact absurd (e.symm.trans c) (by decide)
  rcases h with ⟨c, -⟩ | ⟨-, h⟩
  · exact absurd (e.symm.trans c) (by decide)
  rcases h with ⟨c, -⟩ | ⟨-, h⟩
  · exact absurd (e.symm.trans c) (by decide)
  rcases h with ⟨-, h⟩ | ⟨c, -⟩
  · exact h
  · exact absurd e c
theorem wk_15678 (h : Q_m_worked0 pa pb pc1 r) (e : pa = 15678) : (((pb.toInt < pc1.toInt) ∧ ∃ (r88 : Int32), (Q_m_less (0 : Int32) r88) ∧ r = r88) ∨ ((pc1.toInt ≤ pb.toInt) ∧ ∃ (r92 : Int32), (Q_m_less (1 : Int32) r92) ∧ r = r92)) := by
  obtain ⟨-, h⟩ := h
  rcases h with ⟨c, -⟩ | ⟨-, h⟩
  · exact absurd (e.symm.trans c) (by decide)
  rcases h with ⟨c, -⟩ | ⟨-, h⟩
  · exact absurd (e.symm.trans c) (by decide)
  rcases h with ⟨c, -⟩ | ⟨-, h⟩
  · exact absurd (e.symm.trans c) (by decide)
  rcases h with ⟨c, -⟩ | ⟨-, h⟩
  · exact absurd (e.symm.trans c) (by decide)
  rcases h with ⟨c, -⟩ | ⟨-, h⟩
  · exact absurd (e.symm.trans c) (by decide)
  rcases h with ⟨c, -⟩ | ⟨-, h⟩
  · exact absurd (e.symm.trans c) (by decide)
  rcases h with ⟨c, -⟩ | ⟨-, h⟩
  · exact absurd (e.symm.trans c) (by decide)
  rcases h with ⟨c, -⟩ | ⟨-, h⟩
  · exact absurd (e.symm.trans c) (by decide)
  rcases h with ⟨c, -⟩ | ⟨-, h⟩
  · exact absurd (e.symm.trans c) (by decide)
  rcases h with ⟨c, -⟩ | ⟨-, h⟩
  · exact absurd (e.symm.trans c) (by decide)
  rcases h with ⟨c, -⟩ | ⟨-, h⟩
  · exact absurd (e.symm.trans c) (by decide)
  rcases h with ⟨c, -⟩ | ⟨-, h⟩
  · exact absurd (e.symm.trans c) (by decide)
  rcases h with ⟨c, -⟩ | ⟨-, h⟩
  · exact absurd (e.symm.trans c) (by decide)
  rcases h with ⟨-, h⟩ | ⟨c, -⟩
  · exact h
  · exact absurd e c
theorem wk_15934 (h : Q_m_worked0 pa pb pc1 r) (e : pa = 15934) : r = (pb >>> ((pc1 &&& (31 : Int32)) &&& 31)) := by
  obtain ⟨-, h⟩ := h
  rcases h with ⟨c, -⟩ | ⟨-, h⟩
  · exact absurd (e.symm.trans c) (by decide)
  rcases h with ⟨c, -⟩ | ⟨-, h⟩
  · exact absurd (e.symm.trans c) (by decide)
  rcases h with ⟨c, -⟩ | ⟨-, h⟩
  · exact absurd (e.symm.trans c) (by decide)
  rcases h with ⟨c, -⟩ | ⟨-, h⟩
  · exact absurd (e.symm.trans c) (by decide)
  rcases h with ⟨c, -⟩ | ⟨-, h⟩
  · exact absurd (e.symm.trans c) (by decide)
  rcases h with ⟨c, -⟩ | ⟨-, h⟩
  · exact absurd (e.symm.trans c) (by decide)
  rcases h with ⟨c, -⟩ | ⟨-, h⟩
  · exact absurd (e.symm.trans c) (by decide)
  rcases h with ⟨c, -⟩ | ⟨-, h⟩
  · exact absurd (e.symm.trans c) (by decide)
  rcases h with ⟨c, -⟩ | ⟨-, h⟩
  · exact absurd (e.symm.trans c) (by decide)
  rcases h with ⟨c, -⟩ | ⟨-, h⟩
  · exact absurd (e.symm.trans c) (by decide)
  rcases h with ⟨c, -⟩ | ⟨-, h⟩
  · exact absurd (e.symm.trans c) (by decide)
  rcases h with ⟨c, -⟩ | ⟨-, h⟩
  · exact absurd (e.symm.trans c) (by decide)
  rcases h with ⟨c, -⟩ | ⟨-, h⟩
  · exact absurd (e.symm.trans c) (by decide)
  rcases h with ⟨c, -⟩ | ⟨-, h⟩
  · exact absurd (e.symm.trans c) (by decide)
  rcases h with ⟨-, h⟩ | ⟨c, -⟩
  · exact h
  · exact absurd e c
theorem and31 (x : Int32) : (x &&& 31) &&& 31 = x &&& 31 := by rw [Int32.and_assoc]; rfl
theorem div_m1 (x : Int32) : x / (-1) = -x := by
  apply Int32.toInt_inj.mp
  rw [Int32.toInt_div, show (-1 : Int32).toInt = -1 by decide, Int.tdiv_neg, Int.tdiv_one]
  exact (Int32.toInt_neg x).symm
theorem rem_m1 (x : Int32) : x - x / (-1) * (-1) = 0 := by
  rw [div_m1, Int32.neg_mul_neg, Int32.mul_one, Int32.sub_self]
theorem bn_53 (J : Q_x_X10_join L1 L2 N v 53 x u) (W : Q_m_worked0 43 x y9 r9) (hy : y9 = v.1 0 363) : u = wA v 0 363 r9 := by
  rw [jn_53 J rfl, wk_43 W rfl, hy]
theorem bn_54 (J : Q_x_X10_join L1 L2 N v 54 x u) (W : Q_m_worked0 45 x y9 r9) (hy : y9 = v.1 0 363) : u = wA v 0 363 r9 := by
  rw [jn_54 J rfl, wk_45 W rfl, hy]
theorem bn_55 (J : Q_x_X10_join L1 L2 N v 55 x u) (W : Q_m_worked0 42 x y9 r9) (hy : y9 = v.1 0 363) : u = wA v 0 363 r9 := by
  rw [jn_55 J rfl, wk_42 W rfl, hy]
theorem bn_58 (J : Q_x_X10_join L1 L2 N v 58 x u) (W : Q_m_worked0 38 x y9 r9) (hy : y9 = v.1 0 363) : u = wA v 0 363 r9 := by
  rw [jn_58 J rfl, wk_38 W rfl, hy]
theorem bn_59 (J : Q_x_X10_join L1 L2 N v 59 x u) (W : Q_m_worked0 124 x y9 r9) (hy : y9 = v.1 0 363) : u = wA v 0 363 r9 := by
  rw [jn_59 J rfl, wk_124 W rfl, hy]
theorem bn_60 (J : Q_x_X10_join L1 L2 N v 60 x u) (W : Q_m_worked0 94 x y9 r9) (hy : y9 = v.1 0 363) : u = wA v 0 363 r9 := by
  rw [jn_60 J rfl, wk_94 W rfl, hy]
theorem bn_61 (J : Q_x_X10_join L1 L2 N v 61 x u) (W : Q_m_worked0 15420 x y9 r9) (hy : y9 = v.1 0 363) : u = wA v 0 363 r9 := by
  rw [jn_61 J rfl, wk_15420 W rfl, hy, and31]
theorem bn_62 (J : Q_x_X10_join L1 L2 N v 62 x u) (W : Q_m_worked0 15934 x y9 r9) (hy : y9 = v.1 0 363) : u = wA v 0 363 r9 := by
  rw [jn_62 J rfl, wk_15934 W rfl, hy, and31]
theorem bn_63 (J : Q_x_X10_join L1 L2 N v 63 x u) (W : Q_m_worked0 15677 x y9 r9) (hy : y9 = v.1 0 363) : u = wA v 0 363 r9 := by
  obtain ⟨r4, J, -, J2⟩ := jn_63 J rfl
  have J := cm_63 J rfl
  have W := wk_15677 W rfl
  have z1 : (1 : Int32).toInt ≠ 0 := by decide
  have z0 : (0 : Int32).toInt = 0 := by decide
  subst hy
  rcases J with ⟨c1, rfl⟩ | ⟨c1, rfl⟩
  · rcases W with ⟨c2, a, l, rfl⟩ | ⟨c2, a, l, rfl⟩
    · rcases J2 with ⟨-, J2⟩ | ⟨c, -⟩
      · rw [J2, less0 l]
      · exact absurd z0 c
    · omega
  · rcases W with ⟨c2, a, l, rfl⟩ | ⟨c2, a, l, rfl⟩
    · omega
    · rcases J2 with ⟨c, -⟩ | ⟨-, J2⟩
      · exact absurd c z1
      · rw [J2, less1 l]
theorem bn_64 (J : Q_x_X10_join L1 L2 N v 64 x u) (W : Q_m_worked0 15649 x y9 r9) (hy : y9 = v.1 0 363) : u = wA v 0 363 r9 := by
  obtain ⟨r4, J, -, J2⟩ := jn_64 J rfl
  have J := cm_64 J rfl
  have W := wk_15649 W rfl
  have z1 : (1 : Int32).toInt ≠ 0 := by decide
  have z0 : (0 : Int32).toInt = 0 := by decide
  subst hy
  rcases J with ⟨c1, rfl⟩ | ⟨c1, rfl⟩
  · rcases W with ⟨c2, a, l, rfl⟩ | ⟨c2, a, l, rfl⟩
    · rcases J2 with ⟨-, J2⟩ | ⟨c, -⟩
      · rw [J2, less0 l]
      · exact absurd z0 c
    · omega
  · rcases W with ⟨c2, a, l, rfl⟩ | ⟨c2, a, l, rfl⟩
    · omega
    · rcases J2 with ⟨c, -⟩ | ⟨-, J2⟩
      · exact absurd c z1
      · rw [J2, less1 l]
theorem bn_65 (J : Q_x_X10_join L1 L2 N v 65 x u) (W : Q_m_worked0 60 x y9 r9) (hy : y9 = v.1 0 363) : u = wA v 0 363 r9 := by
  obtain ⟨r4, J, -, J2⟩ := jn_65 J rfl
  have J := cm_65 J rfl
  have W := wk_60 W rfl
  have z1 : (1 : Int32).toInt ≠ 0 := by decide
  have z0 : (0 : Int32).toInt = 0 := by decide
  subst hy
  rcases J with ⟨c1, rfl⟩ | ⟨c1, rfl⟩
  · rcases W with ⟨c2, a, l, rfl⟩ | ⟨c2, a, l, rfl⟩
    · rcases J2 with ⟨-, J2⟩ | ⟨c, -⟩
      · rw [J2, less0 l]
      · exact absurd z0 c
    · omega
  · rcases W with ⟨c2, a, l, rfl⟩ | ⟨c2, a, l, rfl⟩
    · omega
    · rcases J2 with ⟨c, -⟩ | ⟨-, J2⟩
      · exact absurd c z1
      · rw [J2, less1 l]
theorem bn_66 (J : Q_x_X10_join L1 L2 N v 66 x u) (W : Q_m_worked0 15676 x y9 r9) (hy : y9 = v.1 0 363) : u = wA v 0 363 r9 := by
  obtain ⟨r4, J, -, J2⟩ := jn_66 J rfl
  have J := cm_66 J rfl
  have W := wk_15676 W rfl
  have z1 : (1 : Int32).toInt ≠ 0 := by decide
  have z0 : (0 : Int32).toInt = 0 := by decide
  subst hy
  rcases J with ⟨c1, rfl⟩ | ⟨c1, rfl⟩
  · rcases W with ⟨c2, a, l, rfl⟩ | ⟨c2, a, l, rfl⟩
    · rcases J2 with ⟨-, J2⟩ | ⟨c, -⟩
      · rw [J2, less0 l]
      · exact absurd z0 c
    · omega
  · rcases W with ⟨c2, a, l, rfl⟩ | ⟨c2, a, l, rfl⟩
    · omega
    · rcases J2 with ⟨c, -⟩ | ⟨-, J2⟩
      · exact absurd c z1
      · rw [J2, less1 l]
theorem bn_67 (J : Q_x_X10_join L1 L2 N v 67 x u) (W : Q_m_worked0 62 x y9 r9) (hy : y9 = v.1 0 363) : u = wA v 0 363 r9 := by
  obtain ⟨r4, J, -, J2⟩ := jn_67 J rfl
  have J := cm_67 J rfl
  have W := wk_62 W rfl
  have z1 : (1 : Int32).toInt ≠ 0 := by decide
  have z0 : (0 : Int32).toInt = 0 := by decide
  subst hy
  rcases J with ⟨c1, rfl⟩ | ⟨c1, rfl⟩
  · rcases W with ⟨c2, a, l, rfl⟩ | ⟨c2, a, l, rfl⟩
    · rcases J2 with ⟨-, J2⟩ | ⟨c, -⟩
      · rw [J2, less0 l]
      · exact absurd z0 c
    · omega
  · rcases W with ⟨c2, a, l, rfl⟩ | ⟨c2, a, l, rfl⟩
    · omega
    · rcases J2 with ⟨c, -⟩ | ⟨-, J2⟩
      · exact absurd c z1
      · rw [J2, less1 l]
theorem bn_68 (J : Q_x_X10_join L1 L2 N v 68 x u) (W : Q_m_worked0 15678 x y9 r9) (hy : y9 = v.1 0 363) : u = wA v 0 363 r9 := by
  obtain ⟨r4, J, -, J2⟩ := jn_68 J rfl
  have J := cm_68 J rfl
  have W := wk_15678 W rfl
  have z1 : (1 : Int32).toInt ≠ 0 := by decide
  have z0 : (0 : Int32).toInt = 0 := by decide
  subst hy
  rcases J with ⟨c1, rfl⟩ | ⟨c1, rfl⟩
  · rcases W with ⟨c2, a, l, rfl⟩ | ⟨c2, a, l, rfl⟩
    · rcases J2 with ⟨-, J2⟩ | ⟨c, -⟩
      · rw [J2, less0 l]
      · exact absurd z0 c
    · omega
  · rcases W with ⟨c2, a, l, rfl⟩ | ⟨c2, a, l, rfl⟩
    · omega
    · rcases J2 with ⟨c, -⟩ | ⟨-, J2⟩
      · exact absurd c z1
      · rw [J2, less1 l]
theorem bn_56 (J : Q_x_X10_join L1 L2 N v 56 x u) (W : Q_m_worked0 47 x y9 r9) (hy : y9 = v.1 0 363) (hn : y9.toInt ≠ 0) : u = wA v 0 363 r9 := by
  obtain ⟨-, u1, J, -, rfl⟩ := jn_56 J rfl
  have W := wk_47 W rfl
  subst hy
  rcases J with ⟨-, ⟨c, -⟩ | ⟨-, J⟩⟩ | ⟨c, -⟩
  · exact absurd c (by decide)
  · rcases W with ⟨-, W⟩ | ⟨c2, W⟩
    · rw [J, W]
    · have e : v.1 0 363 = -1 := Int32.toInt_inj.mp (c2.trans (by decide))
      rw [J, W, e, div_m1]
  · exact absurd c hn
theorem bn_57 (J : Q_x_X10_join L1 L2 N v 57 x u) (W : Q_m_worked0 37 x y9 r9) (hy : y9 = v.1 0 363) (hn : y9.toInt ≠ 0) : u = wA v 0 363 r9 := by
  obtain ⟨-, u1, J, -, rfl⟩ := jn_57 J rfl
  have W := wk_37 W rfl
  subst hy
  rcases J with ⟨-, ⟨-, J⟩ | ⟨c, -⟩⟩ | ⟨c, -⟩
  · rcases W with ⟨-, W⟩ | ⟨c2, W⟩
    · rw [J, W]
    · have e : v.1 0 363 = -1 := Int32.toInt_inj.mp (c2.trans (by decide))
      rw [J, W, e, rem_m1]
  · exact absurd (by decide) c
  · exact absurd c hn
theorem bz_56 (J : Q_x_X10_join L1 L2 N v 56 x u) (hn : (v.1 0 363).toInt = 0) : u = wA v 0 362 2 := by
  obtain ⟨-, u1, J, -, rfl⟩ := jn_56 J rfl
  rcases J with ⟨c, -⟩ | ⟨-, J⟩
  · exact absurd hn c
  · exact J
theorem bz_57 (J : Q_x_X10_join L1 L2 N v 57 x u) (hn : (v.1 0 363).toInt = 0) : u = wA v 0 362 2 := by
  obtain ⟨-, u1, J, -, rfl⟩ := jn_57 J rfl
  rcases J with ⟨c, -⟩ | ⟨-, J⟩
  · exact absurd hn c
  · exact J
def opU (w : MS) (z : Int32) : MS := wA (wA (wA (wA w 0 106 (w.1 0 106 - 1)) 0 106 (w.1 0 106 - 1 - 1)) 105 (w.1 0 106 - 1 - 1).toNatClampNeg z) 0 106 (w.1 0 106 - 1 - 1 + 1)
theorem opI (O : Q_m_operates w c r u2) : (∃ r9, (c = 47 ∨ c = 37 → (w.1 105 (w.1 0 106 - 1).toNatClampNeg).toInt ≠ 0) ∧ Q_m_worked0 c (w.1 105 (w.1 0 106 - 1 - 1).toNatClampNeg) (w.1 105 (w.1 0 106 - 1).toNatClampNeg) r9 ∧ r = -1 ∧ u2 = opU w r9) ∨ ((c = 47 ∨ c = 37) ∧ (w.1 105 (w.1 0 106 - 1).toNatClampNeg).toInt = 0 ∧ r = 2 ∧ u2 = wA (wA w 0 106 (w.1 0 106 - 1)) 0 106 (w.1 0 106 - 1 - 1)) := by
  have i : ∀ {k : Int32}, c.toInt = k.toInt → c = k := fun h => Int32.toInt_inj.mp h
  rcases O with ⟨c1, ⟨c2, r9, O1, O2, O3⟩ | ⟨c2, O2, O3⟩⟩ | ⟨c1, ⟨c3, r9, O1, O2, O3⟩ | ⟨c3, ⟨c2, r9, O1, O2, O3⟩ | ⟨c2, O2, O3⟩⟩⟩
  · exact Or.inl ⟨r9, fun _ => c2, O1, O2, O3⟩
  · exact Or.inr ⟨Or.inl (i (c1.trans (by decide))), c2, O2, O3⟩
  · refine Or.inl ⟨r9, fun z => ?_, O1, O2, O3⟩
    rcases z with z | z
    · rw [z] at c1; exact absurd (by decide) c1
    · rw [z] at c3; exact absurd (by decide) c3
  · exact Or.inl ⟨r9, fun _ => c2, O1, O2, O3⟩
  · exact Or.inr ⟨Or.inr (i (c3.trans (by decide))), c2, O2, O3⟩
theorem binJ (hz : ∃ z ∈ SC, z.2 = t ∧ c = z.1) (hr : 53 ≤ t.toInt ∧ t.toInt ≤ 68) (J : Q_x_X10_join L1 L2 N v t x u) (O : Q_m_operates w c r u2) (hy : w.1 105 (w.1 0 106 - 1).toNatClampNeg = v.1 0 363) (hx : w.1 105 (w.1 0 106 - 1 - 1).toNatClampNeg = x) : (∃ z, u = wA v 0 363 z ∧ r = -1 ∧ u2 = opU w z) ∨ (u = wA v 0 362 2 ∧ r = 2 ∧ u2 = wA (wA w 0 106 (w.1 0 106 - 1)) 0 106 (w.1 0 106 - 1 - 1)) := by
  obtain ⟨⟨z1, z2⟩, hm, rfl, rfl⟩ := hz
  have R := opI O
  rw [hy, hx] at R
  unfold SC at hm
  simp only [List.mem_cons, List.not_mem_nil, or_false, Prod.mk.injEq] at hm
  rcases hm with ⟨rfl, rfl⟩ | ⟨rfl, rfl⟩ | ⟨rfl, rfl⟩ | ⟨rfl, rfl⟩ | ⟨rfl, rfl⟩ | ⟨rfl, rfl⟩ | ⟨rfl, rfl⟩ | ⟨rfl, rfl⟩ | ⟨rfl, rfl⟩ | ⟨rfl, rfl⟩ | ⟨rfl, rfl⟩ | ⟨rfl, rfl⟩ | ⟨rfl, rfl⟩ | ⟨rfl, rfl⟩ | ⟨rfl, rfl⟩ | ⟨rfl, rfl⟩ | ⟨rfl, rfl⟩ | ⟨rfl, rfl⟩ | ⟨rfl, rfl⟩ | ⟨rfl, rfl⟩ | ⟨rfl, rfl⟩ | ⟨rfl, rfl⟩ | ⟨rfl, rfl⟩ | ⟨rfl, rfl⟩ | ⟨rfl, rfl⟩ | ⟨rfl, rfl⟩ | ⟨rfl, rfl⟩ | ⟨rfl, rfl⟩ | ⟨rfl, rfl⟩ | ⟨rfl, rfl⟩ | ⟨rfl, rfl⟩ | ⟨rfl, rfl⟩ | ⟨rfl, rfl⟩ | ⟨rfl, rfl⟩ | ⟨rfl, rfl⟩ | ⟨rfl, rfl⟩ | ⟨rfl, rfl⟩ | ⟨rfl, rfl⟩ | ⟨rfl, rfl⟩ | ⟨rfl, rfl⟩ | ⟨rfl, rfl⟩
  · exact absurd hr.1 (by decide)
  · exact absurd hr.1 (by decide)
  · exact absurd hr.1 (by decide)
  · exact absurd hr.1 (by decide)
  · exact absurd hr.1 (by decide)
  · exact absurd hr.1 (by decide)
  · exact absurd hr.1 (by decide)
  · exact absurd hr.1 (by decide)
  · exact absurd hr.1 (by decide)
  · exact absurd hr.1 (by decide)
  · exact absurd hr.1 (by decide)
  · exact absurd hr.1 (by decide)
  · exact absurd hr.1 (by decide)
  · exact absurd hr.1 (by decide)
  · exact absurd hr.1 (by decide)
  · exact absurd hr.1 (by decide)
  · exact absurd hr.1 (by decide)
  · exact absurd hr.1 (by decide)
  · exact absurd hr.1 (by decide)
  · exact absurd hr.1 (by decide)
  · exact absurd hr.1 (by decide)
  · exact absurd hr.1 (by decide)
  · exact absurd hr.1 (by decide)
  · rcases R with ⟨r9, -, W, R1, R2⟩ | ⟨c1, -⟩
    · exact Or.inl ⟨r9, bn_53 J W rfl, R1, R2⟩
    · exact absurd c1 (by decide)
  · rcases R with ⟨r9, -, W, R1, R2⟩ | ⟨c1, -⟩
    · exact Or.inl ⟨r9, bn_54 J W rfl, R1, R2⟩
    · exact absurd c1 (by decide)
  · rcases R with ⟨r9, -, W, R1, R2⟩ | ⟨c1, -⟩
    · exact Or.inl ⟨r9, bn_55 J W rfl, R1, R2⟩
    · exact absurd c1 (by decide)
  · rcases R with ⟨r9, n0, W, R1, R2⟩ | ⟨-, n0, R1, R2⟩
    · exact Or.inl ⟨r9, bn_56 J W rfl (n0 (by decide)), R1, R2⟩
    · exact Or.inr ⟨bz_56 J n0, R1, R2⟩
  · rcases R with ⟨r9, n0, W, R1, R2⟩ | ⟨-, n0, R1, R2⟩
    · exact Or.inl ⟨r9, bn_57 J W rfl (n0 (by decide)), R1, R2⟩
    · exact Or.inr ⟨bz_57 J n0, R1, R2⟩
  · rcases R with ⟨r9, -, W, R1, R2⟩ | ⟨c1, -⟩
    · exact Or.inl ⟨r9, bn_58 J W rfl, R1, R2⟩
    · exact absurd c1 (by decide)
  · rcases R with ⟨r9, -, W, R1, R2⟩ | ⟨c1, -⟩
    · exact Or.inl ⟨r9, bn_59 J W rfl, R1, R2⟩
    · exact absurd c1 (by decide)
  · rcases R with ⟨r9, -, W, R1, R2⟩ | ⟨c1, -⟩
    · exact Or.inl ⟨r9, bn_60 J W rfl, R1, R2⟩
    · exact absurd c1 (by decide)
  · rcases R with ⟨r9, -, W, R1, R2⟩ | ⟨c1, -⟩
    · exact Or.inl ⟨r9, bn_61 J W rfl, R1, R2⟩
    · exact absurd c1 (by decide)
  · rcases R with ⟨r9, -, W, R1, R2⟩ | ⟨c1, -⟩
    · exact Or.inl ⟨r9, bn_62 J W rfl, R1, R2⟩
    · exact absurd c1 (by decide)
  · rcases R with ⟨r9, -, W, R1, R2⟩ | ⟨c1, -⟩
    · exact Or.inl ⟨r9, bn_63 J W rfl, R1, R2⟩
    · exact absurd c1 (by decide)
  · rcases R with ⟨r9, -, W, R1, R2⟩ | ⟨c1, -⟩
    · exact Or.inl ⟨r9, bn_64 J W rfl, R1, R2⟩
    · exact absurd c1 (by decide)
  · rcases R with ⟨r9, -, W, R1, R2⟩ | ⟨c1, -⟩
    · exact Or.inl ⟨r9, bn_65 J W rfl, R1, R2⟩
    · exact absurd c1 (by decide)
  · rcases R with ⟨r9, -, W, R1, R2⟩ | ⟨c1, -⟩
    · exact Or.inl ⟨r9, bn_66 J W rfl, R1, R2⟩
    · exact absurd c1 (by decide)
  · rcases R with ⟨r9, -, W, R1, R2⟩ | ⟨c1, -⟩
    · exact Or.inl ⟨r9, bn_67 J W rfl, R1, R2⟩
    · exact absurd c1 (by decide)
  · rcases R with ⟨r9, -, W, R1, R2⟩ | ⟨c1, -⟩
    · exact Or.inl ⟨r9, bn_68 J W rfl, R1, R2⟩
    · exact absurd c1 (by decide)
  · exact absurd hr.2 (by decide)
  · exact absurd hr.2 (by decide)
end YFB
section YFE
variable {g : GC} {N : Nat} {ng lim : Int} {L1 L2 : List Nat} {K : TK} {fn : Nat → Int32} {v0 w0 : MS} {ka : Int} {v w u u2 : MS} {f k B b : Nat} {p : Int} {P PO : Nat} {q : EV} {kc pb hh : Nat} {r : Int32} {s : ST3}
theorem ev_20 (ht : q.1 = 20) (C : CTX g N ng lim L1 K fn v0 w0 ka v w f k B b p P PO q (kc, pb, hh)) (Q1 : Q_x_X10_doDeed L1 L2 N v u) (Q2 : Q_m_obey w N r u2) (h20 : 53 ≤ q.2.1.toInt ∧ q.2.1.toInt ≤ 68) : FAL g N ng lim ka f k B b p P PO q (kc, pb, hh) w u (wA u2 0 121 r) ∨ FIN ng (ka + 1) u (wA u2 0 121 r) := by
  obtain ⟨A, Am, S, hp, ho, d, m, pr, ⟨h9, hN, hl, hka⟩, T, E, h, mi⟩ := C
  obtain ⟨⟨a1, a2⟩, a3, a4, a5, a6⟩ := clP A hp d (by rw [ht]; decide) h9
  obtain ⟨o1, o2, o3, o4⟩ := moP Am ho m (loE_1 (by rw [ht]; decide)) mi
  rw [oE_20 ht] at o1
  have l1 : ldE q = 1 := if_neg (by rw [ht]; decide)
  have l2 : loE q = 1 := loE_1 (by rw [ht]; decide)
  have b8 := mi.lin
  obtain ⟨d1, d2, d3⟩ := dPl d (by rw [ht]; decide)
  have D : v.1 378 (v.1 0 364).toNatClampNeg = 20 := by rw [a4, d1, ht]
  rw [if_neg (by rw [ht]; decide)] at d3
  have pr : hh = 1 ∧ 1 ≤ pb ∧ 0 ≤ q.2.2.1.toInt ∧ q.2.2.1.toNatClampNeg + 1 = kc + pb := by
    have z := pr
    unfold preT at z
    rw [ht] at z
    exact z
  obtain ⟨rfl, pz⟩ := pr
  obtain ⟨p1, p2, p3, p4⟩ := S.pi1
  have po : postT q (kc, pb, 1) = (kc, pb - 1, 1) := by
    unfold postT
    rw [ht]
    rfl
  have mx9 : ∃ z ∈ SC, z.2 = q.2.1 ∧ w0.1 72 PO = z.1 := by
    have z := o3
    unfold mxA at z
    rw [ht] at z
    exact z
  obtain ⟨s1, s2⟩ := S.snd pz.1
  have nq := natI pz.2.1
  have cM : kc + pb ≤ zMm g f := S.cor.2.2.1.1
  obtain ⟨r7, e0, u9, e4, -, e1⟩ := dD_20 Q1 a1 a2 D
  have e0 := slR (v := wA v 0 364 (v.1 0 364 + 1)) (sl := kc + (pb - 1)) S.2.1.1 (by rw [a6, d3]; omega) hN (S.slot hl (by omega)) e0
  have e0 : w.1 105 (w.1 0 106 - 1 - 1).toNatClampNeg = r7 := s1.trans e0.symm
  have pq : w.1 105 (w.1 0 106 - 1).toNatClampNeg = v.1 0 363 := by rw [p3, p4]
  obtain ⟨r8, u8, f0, -, e2, e3⟩ := dO_21 Q2 o1
  rw [o2] at f0
  rw [a5, d2] at e4
  have hm1 : (-1 : Int32) = w.1 0 121 := S.1.2.symm
  rw [e1, e2, e3]
  rcases binJ (w := wA w 0 112 (w.1 0 112 + 1)) mx9 h20 e4 f0 pq e0 with ⟨z, g1, g2, g3⟩ | ⟨g1, g2, g3⟩
  · left
    rw [g1, g2, g3]
    refine ⟨?_, ?_, ?_, rfl⟩
    · rw [po]
      exact S.two (x := z) pz.1 ⟨rfl, rfl, rfl⟩ ⟨hm1, rfl, rfl, rfl, rfl, rfl, rfl⟩ rfl rfl rfl rfl (S.cnt.sm (by omega) ⟨rfl, rfl, rfl, rfl, rfl, rfl⟩ ⟨rfl, rfl, rfl, rfl, rfl, rfl⟩)
    · show (v.1 0 364 + 1).toInt = _
      rw [a3, l1]; rfl
    · show (w.1 0 112 + 1).toInt = _
      rw [o4, l2]; rfl
  · right
    rw [g1, g2, g3]
    exact ⟨⟨rfl, (by show (2 : Int32) ≠ -1; decide)⟩, S.cnt.sm (by omega) ⟨rfl, rfl, rfl, rfl, rfl, rfl⟩ ⟨rfl, rfl, rfl, rfl, rfl, rfl⟩, fun z => absurd z (show ¬ (2 : Int32) = 0 by decide)⟩
end YFE
