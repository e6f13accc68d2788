/-! what a deed, what an order does, told by its number (written by gyb.py) -/
section YBI
variable {L1 L2 : List Nat} {N : Nat} {v u : MS} {pa pb pc1 r : Int32}
theorem dD_0 (h : Q_x_X10_doDeed L1 L2 N v u) (h0 : 0 ≤ (v.1 0 364).toInt) (h1 : (v.1 0 364).toInt < (v.1 0 381).toInt) (e : (v.1 378) (v.1 0 364).toNatClampNeg = 0) : (((((v.1 378) (v.1 0 364).toNatClampNeg).toInt < (16 : Int)) ∧ ∃ (u212 : MS), (Q_x_X10_doPlace L1 L2 N (wA v 0 364 ((v.1 0 364) + (1 : Int32))) ((v.1 378) (v.1 0 364).toNatClampNeg) ((v.1 379) (v.1 0 364).toNatClampNeg) ((v.1 380) (v.1 0 364).toNatClampNeg) u212) ∧ (K_x_X10_doPlace (wA v 0 364 ((v.1 0 364) + (1 : Int32))) ((v.1 378) (v.1 0 364).toNatClampNeg) ((v.1 379) (v.1 0 364).toNatClampNeg) ((v.1 380) (v.1 0 364).toNatClampNeg) u212) ∧ u = u212) ∨ (((16 : Int) ≤ ((v.1 378) (v.1 0 364).toNatClampNeg).toInt) ∧ ((19 : Int) < ((v.1 378) (v.1 0 364).toNatClampNeg).toInt) ∧ ∃ (u219 : MS), (Q_x_X10_doPlace L1 L2 N (wA v 0 364 ((v.1 0 364) + (1 : Int32))) ((v.1 378) (v.1 0 364).toNatClampNeg) ((v.1 379) (v.1 0 364).toNatClampNeg) ((v.1 380) (v.1 0 364).toNatClampNeg) u219) ∧ (K_x_X10_doPlace (wA v 0 364 ((v.1 0 364) + (1 : Int32))) ((v.1 378) (v.1 0 364).toNatClampNeg) ((v.1 379) (v.1 0 364).toNatClampNeg) ((v.1 380) (v.1 0 364).toNatClampNeg) u219) ∧ u = u219)) := by
  obtain ⟨-, -, -, h⟩ := h
  rcases h with ⟨c, -⟩ | ⟨-, h⟩
  · omega
  rcases h with ⟨c, -⟩ | ⟨-, -, h⟩
  · omega
  rcases h with ⟨c, -⟩ | ⟨-, h⟩
  · exact absurd (e.symm.trans c) (by decide)
  rcases h with ⟨c, -⟩ | ⟨-, h⟩
  · exact absurd (e.symm.trans c) (by decide)
  rcases h with ⟨c, -⟩ | ⟨-, h⟩
  · exact absurd (e.symm.trans c) (by decide)
  rcases h with ⟨c, -⟩ | ⟨-, h⟩
  · exact absurd (e.symm.trans c) (by decide)
  rcases h with ⟨c, -⟩ | ⟨-, h⟩
  · exact absurd (e.symm.trans c) (by decide)
  rcases h with ⟨c, -⟩ | ⟨-, h⟩
  · exact absurd (e.symm.trans c) (by decide)
  rcases h with ⟨c, -⟩ | ⟨-, h⟩
  · exact absurd (e.symm.trans c) (by decide)
  rcases h with ⟨c, -⟩ | ⟨-, h⟩
  · exact absurd (e.symm.trans c) (by decide)
  rcases h with ⟨c, -⟩ | ⟨-, h⟩
  · exact absurd (e.symm.trans c) (by decide)
  rcases h with ⟨c, -⟩ | ⟨-, h⟩
  · exact absurd (e.symm.trans c) (by decide)
  rcases h with ⟨c, -⟩ | ⟨-, h⟩
  · exact absurd (e.symm.trans c) (by decide)
  rcases h with ⟨c, -⟩ | ⟨-, h⟩
  · exact absurd (e.symm.trans c) (by decide)
  rcases h with ⟨c, -⟩ | ⟨-, h⟩
  · exact absurd (e.symm.trans c) (by decide)
  rcases h with ⟨c, -⟩ | ⟨-, h⟩
  · exact absurd (e.symm.trans c) (by decide)
  rcases h with ⟨c, -⟩ | ⟨-, h⟩
  · exact absurd (e.symm.trans c) (by decide)
  rcases h with ⟨c, -⟩ | ⟨-, h⟩
  · exact absurd (e.symm.trans c) (by decide)
  rcases h with ⟨c, -⟩ | ⟨-, h⟩
  · exact absurd (e.symm.trans c) (by decide)
  rcases h with ⟨c, -⟩ | ⟨-, h⟩
  · exact absurd (e.symm.trans c) (by decide)
  rcases h with ⟨c, -⟩ | ⟨-, h⟩
  · exact absurd (e.symm.trans c) (by decide)
  rcases h with ⟨c, -⟩ | ⟨-, h⟩
  · exact absurd (e.symm.trans c) (by decide)
  rcases h with ⟨c, -⟩ | ⟨-, h⟩
  · exact absurd (e.symm.trans c) (by decide)
  rcases h with ⟨c, -⟩ | ⟨-, h⟩
  · exact absurd (e.symm.trans c) (by decide)
  rcases h with ⟨c, -⟩ | ⟨-, h⟩
  · exact absurd (e.symm.trans c) (by decide)
  rcases h with ⟨c, -⟩ | ⟨-, h⟩
  · exact absurd (e.symm.trans c) (by decide)
  exact h
theorem dD_1 (h : Q_x_X10_doDeed L1 L2 N v u) (h0 : 0 ≤ (v.1 0 364).toInt) (h1 : (v.1 0 364).toInt < (v.1 0 381).toInt) (e : (v.1 378) (v.1 0 364).toNatClampNeg = 1) : ∃ (u13 : MS), (Q_x_X10_leaveFunction L1 L2 N (wA v 0 364 ((v.1 0 364) + (1 : Int32))) u13) ∧ (K_x_X10_leaveFunction (wA v 0 364 ((v.1 0 364) + (1 : Int32))) u13) ∧ u = u13 := by
  obtain ⟨-, -, -, h⟩ := h
  rcases h with ⟨c, -⟩ | ⟨-, h⟩
  · omega
  rcases h with ⟨c, -⟩ | ⟨-, -, h⟩
  · omega
  rcases h with ⟨-, h⟩ | ⟨c, -⟩
  · exact h
  · exact absurd e c
theorem dD_2 (h : Q_x_X10_doDeed L1 L2 N v u) (h0 : 0 ≤ (v.1 0 364).toInt) (h1 : (v.1 0 364).toInt < (v.1 0 381).toInt) (e : (v.1 378) (v.1 0 364).toNatClampNeg = 2) : u = (wA (wA v 0 364 ((v.1 0 364) + (1 : Int32))) 0 363 ((v.1 379) (v.1 0 364).toNatClampNeg)) := by
  obtain ⟨-, -, -, h⟩ := h
  rcases h with ⟨c, -⟩ | ⟨-, h⟩
  · omega
  rcases h with ⟨c, -⟩ | ⟨-, -, h⟩
  · omega
  rcases h with ⟨c, -⟩ | ⟨-, h⟩
  · exact absurd (e.symm.trans c) (by decide)
  rcases h with ⟨-, h⟩ | ⟨c, -⟩
  · exact h
  · exact absurd e c
theorem dD_3 (h : Q_x_X10_doDeed L1 L2 N v u) (h0 : 0 ≤ (v.1 0 364).toInt) (h1 : (v.1 0 364).toInt < (v.1 0 381).toInt) (e : (v.1 378) (v.1 0 364).toNatClampNeg = 3) : ∃ (r24 : Int32), (Q_x_X10_slotAt L1 L2 N (wA v 0 364 ((v.1 0 364) + (1 : Int32))) ((v.1 379) (v.1 0 364).toNatClampNeg) r24) ∧ u = (wA (wA v 0 364 ((v.1 0 364) + (1 : Int32))) 0 363 r24) := by
  obtain ⟨-, -, -, h⟩ := h
  rcases h with ⟨c, -⟩ | ⟨-, h⟩
  · omega
  rcases h with ⟨c, -⟩ | ⟨-, -, h⟩
  · omega
  rcases h with ⟨c, -⟩ | ⟨-, h⟩
  · exact absurd (e.symm.trans c) (by decide)
  rcases h with ⟨c, -⟩ | ⟨-, h⟩
  · exact absurd (e.symm.trans c) (by decide)
  rcases h with ⟨-, h⟩ | ⟨c, -⟩
  · exact h
  · exact absurd e c
theorem dD_4 (h : Q_x_X10_doDeed L1 L2 N v u) (h0 : 0 ≤ (v.1 0 364).toInt) (h1 : (v.1 0 364).toInt < (v.1 0 381).toInt) (e : (v.1 378) (v.1 0 364).toNatClampNeg = 4) : ∃ (u29 : MS), (Q_x_X10_changeSlot L1 L2 N (wA v 0 364 ((v.1 0 364) + (1 : Int32))) ((v.1 379) (v.1 0 364).toNatClampNeg) (v.1 0 363) u29) ∧ (K_x_X10_changeSlot (wA v 0 364 ((v.1 0 364) + (1 : Int32))) ((v.1 379) (v.1 0 364).toNatClampNeg) (v.1 0 363) u29) ∧ u = u29 := by
  obtain ⟨-, -, -, h⟩ := h
  rcases h with ⟨c, -⟩ | ⟨-, h⟩
  · omega
  rcases h with ⟨c, -⟩ | ⟨-, -, h⟩
  · omega
  rcases h with ⟨c, -⟩ | ⟨-, h⟩
  · exact absurd (e.symm.trans c) (by decide)
  rcases h with ⟨c, -⟩ | ⟨-, h⟩
  · exact absurd (e.symm.trans c) (by decide)
  rcases h with ⟨c, -⟩ | ⟨-, h⟩
  · exact absurd (e.symm.trans c) (by decide)
  rcases h with ⟨-, h⟩ | ⟨c, -⟩
  · exact h
  · exact absurd e c
theorem dD_5 (h : Q_x_X10_doDeed L1 L2 N v u) (h0 : 0 ≤ (v.1 0 364).toInt) (h1 : (v.1 0 364).toInt < (v.1 0 381).toInt) (e : (v.1 378) (v.1 0 364).toNatClampNeg = 5) : (((v.1 378) (v.1 0 364).toNatClampNeg).toInt < (16 : Int)) ∧ ∃ (u38 : MS), (Q_x_X10_doPlace L1 L2 N (wA v 0 364 ((v.1 0 364) + (1 : Int32))) ((v.1 378) (v.1 0 364).toNatClampNeg) ((v.1 379) (v.1 0 364).toNatClampNeg) ((v.1 380) (v.1 0 364).toNatClampNeg) u38) ∧ (K_x_X10_doPlace (wA v 0 364 ((v.1 0 364) + (1 : Int32))) ((v.1 378) (v.1 0 364).toNatClampNeg) ((v.1 379) (v.1 0 364).toNatClampNeg) ((v.1 380) (v.1 0 364).toNatClampNeg) u38) ∧ u = u38 := by
  obtain ⟨-, -, -, h⟩ := h
  rcases h with ⟨c, -⟩ | ⟨-, h⟩
  · omega
  rcases h with ⟨c, -⟩ | ⟨-, -, h⟩
  · omega
  rcases h with ⟨c, -⟩ | ⟨-, h⟩
  · exact absurd (e.symm.trans c) (by decide)
  rcases h with ⟨c, -⟩ | ⟨-, h⟩
  · exact absurd (e.symm.trans c) (by decide)
  rcases h with ⟨c, -⟩ | ⟨-, h⟩
  · exact absurd (e.symm.trans c) (by decide)
  rcases h with ⟨c, -⟩ | ⟨-, h⟩
  · exact absurd (e.symm.trans c) (by decide)
  rcases h with ⟨-, h⟩ | ⟨c, -⟩
  · exact h
  · exact absurd e c
theorem dD_6 (h : Q_x_X10_doDeed L1 L2 N v u) (h0 : 0 ≤ (v.1 0 364).toInt) (h1 : (v.1 0 364).toInt < (v.1 0 381).toInt) (e : (v.1 378) (v.1 0 364).toNatClampNeg = 6) : (((v.1 378) (v.1 0 364).toNatClampNeg).toInt < (16 : Int)) ∧ ∃ (u48 : MS), (Q_x_X10_doPlace L1 L2 N (wA v 0 364 ((v.1 0 364) + (1 : Int32))) ((v.1 378) (v.1 0 364).toNatClampNeg) ((v.1 379) (v.1 0 364).toNatClampNeg) ((v.1 380) (v.1 0 364).toNatClampNeg) u48) ∧ (K_x_X10_doPlace (wA v 0 364 ((v.1 0 364) + (1 : Int32))) ((v.1 378) (v.1 0 364).toNatClampNeg) ((v.1 379) (v.1 0 364).toNatClampNeg) ((v.1 380) (v.1 0 364).toNatClampNeg) u48) ∧ u = u48 := by
  obtain ⟨-, -, -, h⟩ := h
  rcases h with ⟨c, -⟩ | ⟨-, h⟩
  · omega
  rcases h with ⟨c, -⟩ | ⟨-, -, h⟩
  · omega
  rcases h with ⟨c, -⟩ | ⟨-, h⟩
  · exact absurd (e.symm.trans c) (by decide)
  rcases h with ⟨c, -⟩ | ⟨-, h⟩
  · exact absurd (e.symm.trans c) (by decide)
  rcases h with ⟨c, -⟩ | ⟨-, h⟩
  · exact absurd (e.symm.trans c) (by decide)
  rcases h with ⟨c, -⟩ | ⟨-, h⟩
  · exact absurd (e.symm.trans c) (by decide)
  rcases h with ⟨c, -⟩ | ⟨-, h⟩
  · exact absurd (e.symm.trans c) (by decide)
  rcases h with ⟨-, h⟩ | ⟨c, -⟩
  · exact h
  · exact absurd e c
theorem dD_7 (h : Q_x_X10_doDeed L1 L2 N v u) (h0 : 0 ≤ (v.1 0 364).toInt) (h1 : (v.1 0 364).toInt < (v.1 0 381).toInt) (e : (v.1 378) (v.1 0 364).toNatClampNeg = 7) : (((v.1 378) (v.1 0 364).toNatClampNeg).toInt < (16 : Int)) ∧ ∃ (u58 : MS), (Q_x_X10_doPlace L1 L2 N (wA v 0 364 ((v.1 0 364) + (1 : Int32))) ((v.1 378) (v.1 0 364).toNatClampNeg) ((v.1 379) (v.1 0 364).toNatClampNeg) ((v.1 380) (v.1 0 364).toNatClampNeg) u58) ∧ (K_x_X10_doPlace (wA v 0 364 ((v.1 0 364) + (1 : Int32))) ((v.1 378) (v.1 0 364).toNatClampNeg) ((v.1 379) (v.1 0 364).toNatClampNeg) ((v.1 380) (v.1 0 364).toNatClampNeg) u58) ∧ u = u58 := by
  obtain ⟨-, -, -, h⟩ := h
  rcases h with ⟨c, -⟩ | ⟨-, h⟩
  · omega
  rcases h with ⟨c, -⟩ | ⟨-, -, h⟩
  · omega
  rcases h with ⟨c, -⟩ | ⟨-, h⟩
  · exact absurd (e.symm.trans c) (by decide)
  rcases h with ⟨c, -⟩ | ⟨-, h⟩
  · exact absurd (e.symm.trans c) (by decide)
  rcases h with ⟨c, -⟩ | ⟨-, h⟩
  · exact absurd (e.symm.trans c) (by decide)
  rcases h with ⟨c, -⟩ | ⟨-, h⟩
  · exact absurd (e.symm.trans c) (by decide)
  rcases h with ⟨c, -⟩ | ⟨-, h⟩
  · exact absurd (e.symm.trans c) (by decide)
  rcases h with ⟨c, -⟩ | ⟨-, h⟩
  · exact absurd (e.symm.trans c) (by decide)
  rcases h with ⟨-, h⟩ | ⟨c, -⟩
  · exact h
  · exact absurd e c
theorem dD_8 (h : Q_x_X10_doDeed L1 L2 N v u) (h0 : 0 ≤ (v.1 0 364).toInt) (h1 : (v.1 0 364).toInt < (v.1 0 381).toInt) (e : (v.1 378) (v.1 0 364).toNatClampNeg = 8) : (((v.1 378) (v.1 0 364).toNatClampNeg).toInt < (16 : Int)) ∧ ∃ (u68 : MS), (Q_x_X10_doPlace L1 L2 N (wA v 0 364 ((v.1 0 364) + (1 : Int32))) ((v.1 378) (v.1 0 364).toNatClampNeg) ((v.1 379) (v.1 0 364).toNatClampNeg) ((v.1 380) (v.1 0 364).toNatClampNeg) u68) ∧ (K_x_X10_doPlace (wA v 0 364 ((v.1 0 364) + (1 : Int32))) ((v.1 378) (v.1 0 364).toNatClampNeg) ((v.1 379) (v.1 0 364).toNatClampNeg) ((v.1 380) (v.1 0 364).toNatClampNeg) u68) ∧ u = u68 := by
  obtain ⟨-, -, -, h⟩ := h
  rcases h with ⟨c, -⟩ | ⟨-, h⟩
  · omega
  rcases h with ⟨c, -⟩ | ⟨-, -, h⟩
  · omega
  rcases h with ⟨c, -⟩ | ⟨-, h⟩
  · exact absurd (e.symm.trans c) (by decide)
  rcases h with ⟨c, -⟩ | ⟨-, h⟩
  · exact absurd (e.symm.trans c) (by decide)
  rcases h with ⟨c, -⟩ | ⟨-, h⟩
  · exact absurd (e.symm.trans c) (by decide)
  rcases h with ⟨c, -⟩ | ⟨-, h⟩
  · exact absurd (e.symm.trans c) (by decide)
  rcases h with ⟨c, -⟩ | ⟨-, h⟩
  · exact absurd (e.symm.trans c) (by decide)
  rcases h with ⟨c, -⟩ | ⟨-, h⟩
  · exact absurd (e.symm.trans c) (by decide)
  rcases h with ⟨c, -⟩ | ⟨-, h⟩
  · exact absurd (e.symm.trans c) (by decide)
  rcases h with ⟨-, h⟩ | ⟨c, -⟩
  · exact h
  · exact absurd e c
theorem dD_9 (h : Q_x_X10_doDeed L1 L2 N v u) (h0 : 0 ≤ (v.1 0 364).toInt) (h1 : (v.1 0 364).toInt < (v.1 0 381).toInt) (e : (v.1 378) (v.1 0 364).toNatClampNeg = 9) : (((v.1 378) (v.1 0 364).toNatClampNeg).toInt < (16 : Int)) ∧ ∃ (u78 : MS), (Q_x_X10_doPlace L1 L2 N (wA v 0 364 ((v.1 0 364) + (1 : Int32))) ((v.1 378) (v.1 0 364).toNatClampNeg) ((v.1 379) (v.1 0 364).toNatClampNeg) ((v.1 380) (v.1 0 364).toNatClampNeg) u78) ∧ (K_x_X10_doPlace (wA v 0 364 ((v.1 0 364) + (1 : Int32))) ((v.1 378) (v.1 0 364).toNatClampNeg) ((v.1 379) (v.1 0 364).toNatClampNeg) ((v.1 380) (v.1 0 364).toNatClampNeg) u78) ∧ u = u78 := by
  obtain ⟨-, -, -, h⟩ := h
  rcases h with ⟨c, -⟩ | ⟨-, h⟩
  · omega
  rcases h with ⟨c, -⟩ | ⟨-, -, h⟩
  · omega
  rcases h with ⟨c, -⟩ | ⟨-, h⟩
  · exact absurd (e.symm.trans c) (by decide)
  rcases h with ⟨c, -⟩ | ⟨-, h⟩
  · exact absurd (e.symm.trans c) (by decide)
  rcases h with ⟨c, -⟩ | ⟨-, h⟩
  · exact absurd (e.symm.trans c) (by decide)
  rcases h with ⟨c, -⟩ | ⟨-, h⟩
  · exact absurd (e.symm.trans c) (by decide)
  rcases h with ⟨c, -⟩ | ⟨-, h⟩
  · exact absurd (e.symm.trans c) (by decide)
  rcases h with ⟨c, -⟩ | ⟨-, h⟩
  · exact absurd (e.symm.trans c) (by decide)
  rcases h with ⟨c, -⟩ | ⟨-, h⟩
  · exact absurd (e.symm.trans c) (by decide)
  rcases h with ⟨c, -⟩ | ⟨-, h⟩
  · exact absurd (e.symm.trans c) (by decide)
  rcases h with ⟨-, h⟩ | ⟨c, -⟩
  · exact h
  · exact absurd e c
theorem dD_10 (h : Q_x_X10_doDeed L1 L2 N v u) (h0 : 0 ≤ (v.1 0 364).toInt) (h1 : (v.1 0 364).toInt < (v.1 0 381).toInt) (e : (v.1 378) (v.1 0 364).toNatClampNeg = 10) : (((v.1 378) (v.1 0 364).toNatClampNeg).toInt < (16 : Int)) ∧ ∃ (u88 : MS), (Q_x_X10_doPlace L1 L2 N (wA v 0 364 ((v.1 0 364) + (1 : Int32))) ((v.1 378) (v.1 0 364).toNatClampNeg) ((v.1 379) (v.1 0 364).toNatClampNeg) ((v.1 380) (v.1 0 364).toNatClampNeg) u88) ∧ (K_x_X10_doPlace (wA v 0 364 ((v.1 0 364) + (1 : Int32))) ((v.1 378) (v.1 0 364).toNatClampNeg) ((v.1 379) (v.1 0 364).toNatClampNeg) ((v.1 380) (v.1 0 364).toNatClampNeg) u88) ∧ u = u88 := by
  obtain ⟨-, -, -, h⟩ := h
  rcases h with ⟨c, -⟩ | ⟨-, h⟩
  · omega
  rcases h with ⟨c, -⟩ | ⟨-, -, h⟩
  · omega
  rcases h with ⟨c, -⟩ | ⟨-, h⟩
  · exact absurd (e.symm.trans c) (by decide)
  rcases h with ⟨c, -⟩ | ⟨-, h⟩
  · exact absurd (e.symm.trans c) (by decide)
  rcases h with ⟨c, -⟩ | ⟨-, h⟩
  · exact absurd (e.symm.trans c) (by decide)
  rcases h with ⟨c, -⟩ | ⟨-, h⟩
  · exact absurd (e.symm.trans c) (by decide)
  rcases h with ⟨c, -⟩ | ⟨-, h⟩
  · exact absurd (e.symm.trans c) (by decide)
  rcases h with ⟨c, -⟩ | ⟨-, h⟩
  · exact absurd (e.symm.trans c) (by decide)
  rcases h with ⟨c, -⟩ | ⟨-, h⟩
  · exact absurd (e.symm.trans c) (by decide)
  rcases h with ⟨c, -⟩ | ⟨-, h⟩
  · exact absurd (e.symm.trans c) (by decide)
  rcases h with ⟨c, -⟩ | ⟨-, h⟩
  · exact absurd (e.symm.trans c) (by decide)
  rcases h with ⟨-, h⟩ | ⟨c, -⟩
  · exact h
  · exact absurd e c
theorem dD_11 (h : Q_x_X10_doDeed L1 L2 N v u) (h0 : 0 ≤ (v.1 0 364).toInt) (h1 : (v.1 0 364).toInt < (v.1 0 381).toInt) (e : (v.1 378) (v.1 0 364).toNatClampNeg = 11) : (((v.1 378) (v.1 0 364).toNatClampNeg).toInt < (16 : Int)) ∧ ∃ (u98 : MS), (Q_x_X10_doPlace L1 L2 N (wA v 0 364 ((v.1 0 364) + (1 : Int32))) ((v.1 378) (v.1 0 364).toNatClampNeg) ((v.1 379) (v.1 0 364).toNatClampNeg) ((v.1 380) (v.1 0 364).toNatClampNeg) u98) ∧ (K_x_X10_doPlace (wA v 0 364 ((v.1 0 364) + (1 : Int32))) ((v.1 378) (v.1 0 364).toNatClampNeg) ((v.1 379) (v.1 0 364).toNatClampNeg) ((v.1 380) (v.1 0 364).toNatClampNeg) u98) ∧ u = u98 := by
  obtain ⟨-, -, -, h⟩ := h
  rcases h with ⟨c, -⟩ | ⟨-, h⟩
  · omega
  rcases h with ⟨c, -⟩ | ⟨-, -, h⟩
  · omega
  rcases h with ⟨c, -⟩ | ⟨-, h⟩
  · exact absurd (e.symm.trans c) (by decide)
  rcases h with ⟨c, -⟩ | ⟨-, h⟩
  · exact absurd (e.symm.trans c) (by decide)
  rcases h with ⟨c, -⟩ | ⟨-, h⟩
  · exact absurd (e.symm.trans c) (by decide)
  rcases h with ⟨c, -⟩ | ⟨-, h⟩
  · exact absurd (e.symm.trans c) (by decide)
  rcases h with ⟨c, -⟩ | ⟨-, h⟩
  · exact absurd (e.symm.trans c) (by decide)
  rcases h with ⟨c, -⟩ | ⟨-, h⟩
  · exact absurd (e.symm.trans c) (by decide)
  rcases h with ⟨c, -⟩ | ⟨-, h⟩
  · exact absurd (e.symm.trans c) (by decide)
  rcases h with ⟨c, -⟩ | ⟨-, h⟩
  · exact absurd (e.symm.trans c) (by decide)
  rcases h with ⟨c, -⟩ | ⟨-, h⟩
  · exact absurd (e.symm.trans c) (by decide)
  rcases h with ⟨c, -⟩ | ⟨-, h⟩
  · exact absurd (e.symm.trans c) (by decide)
  rcases h with ⟨-, h⟩ | ⟨c, -⟩
  · exact h
  · exact absurd e c
theorem dD_12 (h : Q_x_X10_doDeed L1 L2 N v u) (h0 : 0 ≤ (v.1 0 364).toInt) (h1 : (v.1 0 364).toInt < (v.1 0 381).toInt) (e : (v.1 378) (v.1 0 364).toNatClampNeg = 12) : u = (wA (wA v 0 364 ((v.1 0 364) + (1 : Int32))) 0 363 (-(v.1 0 363))) := by
  obtain ⟨-, -, -, h⟩ := h
  rcases h with ⟨c, -⟩ | ⟨-, h⟩
  · omega
  rcases h with ⟨c, -⟩ | ⟨-, -, h⟩
  · omega
  rcases h with ⟨c, -⟩ | ⟨-, h⟩
  · exact absurd (e.symm.trans c) (by decide)
  rcases h with ⟨c, -⟩ | ⟨-, h⟩
  · exact absurd (e.symm.trans c) (by decide)
  rcases h with ⟨c, -⟩ | ⟨-, h⟩
  · exact absurd (e.symm.trans c) (by decide)
  rcases h with ⟨c, -⟩ | ⟨-, h⟩
  · exact absurd (e.symm.trans c) (by decide)
  rcases h with ⟨c, -⟩ | ⟨-, h⟩
  · exact absurd (e.symm.trans c) (by decide)
  rcases h with ⟨c, -⟩ | ⟨-, h⟩
  · exact absurd (e.symm.trans c) (by decide)
  rcases h with ⟨c, -⟩ | ⟨-, h⟩
  · exact absurd (e.symm.trans c) (by decide)
  rcases h with ⟨c, -⟩ | ⟨-, h⟩
  · exact absurd (e.symm.trans c) (by decide)
  rcases h with ⟨c, -⟩ | ⟨-, h⟩
  · exact absurd (e.symm.trans c) (by decide)
  rcases h with ⟨c, -⟩ | ⟨-, h⟩
  · exact absurd (e.symm.trans c) (by decide)
  rcases h with ⟨c, -⟩ | ⟨-, h⟩
  · exact absurd (e.symm.trans c) (by decide)
  rcases h with ⟨-, h⟩ | ⟨c, -⟩
  · exact h
  · exact absurd e c
theorem dD_13 (h : Q_x_X10_doDeed L1 L2 N v u) (h0 : 0 ≤ (v.1 0 364).toInt) (h1 : (v.1 0 364).toInt < (v.1 0 381).toInt) (e : (v.1 378) (v.1 0 364).toNatClampNeg = 13) : ((((v.1 0 363).toInt ≠ (0 : Int)) ∧ u = (wA (wA v 0 364 ((v.1 0 364) + (1 : Int32))) 0 363 0)) ∨ (((v.1 0 363).toInt = (0 : Int)) ∧ u = (wA (wA v 0 364 ((v.1 0 364) + (1 : Int32))) 0 363 1))) := by
  obtain ⟨-, -, -, h⟩ := h
  rcases h with ⟨c, -⟩ | ⟨-, h⟩
  · omega
  rcases h with ⟨c, -⟩ | ⟨-, -, h⟩
  · omega
  rcases h with ⟨c, -⟩ | ⟨-, h⟩
  · exact absurd (e.symm.trans c) (by decide)
  rcases h with ⟨c, -⟩ | ⟨-, h⟩
  · exact absurd (e.symm.trans c) (by decide)
  rcases h with ⟨c, -⟩ | ⟨-, h⟩
  · exact absurd (e.symm.trans c) (by decide)
  rcases h with ⟨c, -⟩ | ⟨-, h⟩
  · exact absurd (e.symm.trans c) (by decide)
  rcases h with ⟨c, -⟩ | ⟨-, h⟩
  · exact absurd (e.symm.trans c) (by decide)
  rcases h with ⟨c, -⟩ | ⟨-, h⟩
  · exact absurd (e.symm.trans c) (by decide)
  rcases h with ⟨c, -⟩ | ⟨-, h⟩
  · exact absurd (e.symm.trans c) (by decide)
  rcases h with ⟨c, -⟩ | ⟨-, h⟩
  · exact absurd (e.symm.trans c) (by decide)
  rcases h with ⟨c, -⟩ | ⟨-, h⟩
  · exact absurd (e.symm.trans c) (by decide)
  rcases h with ⟨c, -⟩ | ⟨-, h⟩
  · exact absurd (e.symm.trans c) (by decide)
  rcases h with ⟨c, -⟩ | ⟨-, h⟩
  · exact absurd (e.symm.trans c) (by decide)
  rcases h with ⟨c, -⟩ | ⟨-, h⟩
  · exact absurd (e.symm.trans c) (by decide)
  rcases h with ⟨-, h⟩ | ⟨c, -⟩
  · exact h
  · exact absurd e c
theorem dD_14 (h : Q_x_X10_doDeed L1 L2 N v u) (h0 : 0 ≤ (v.1 0 364).toInt) (h1 : (v.1 0 364).toInt < (v.1 0 381).toInt) (e : (v.1 378) (v.1 0 364).toNatClampNeg = 14) : u = (wA (wA v 0 364 ((v.1 0 364) + (1 : Int32))) 0 363 ((v.1 0 363) ^^^ ((-1) : Int32))) := by
  obtain ⟨-, -, -, h⟩ := h
  rcases h with ⟨c, -⟩ | ⟨-, h⟩
  · omega
  rcases h with ⟨c, -⟩ | ⟨-, -, h⟩
  · omega
  rcases h with ⟨c, -⟩ | ⟨-, h⟩
  · exact absurd (e.symm.trans c) (by decide)
  rcases h with ⟨c, -⟩ | ⟨-, h⟩
  · exact absurd (e.symm.trans c) (by decide)
  rcases h with ⟨c, -⟩ | ⟨-, h⟩
  · exact absurd (e.symm.trans c) (by decide)
  rcases h with ⟨c, -⟩ | ⟨-, h⟩
  · exact absurd (e.symm.trans c) (by decide)
  rcases h with ⟨c, -⟩ | ⟨-, h⟩
  · exact absurd (e.symm.trans c) (by decide)
  rcases h with ⟨c, -⟩ | ⟨-, h⟩
  · exact absurd (e.symm.trans c) (by decide)
  rcases h with ⟨c, -⟩ | ⟨-, h⟩
  · exact absurd (e.symm.trans c) (by decide)
  rcases h with ⟨c, -⟩ | ⟨-, h⟩
  · exact absurd (e.symm.trans c) (by decide)
  rcases h with ⟨c, -⟩ | ⟨-, h⟩
  · exact absurd (e.symm.trans c) (by decide)
  rcases h with ⟨c, -⟩ | ⟨-, h⟩
  · exact absurd (e.symm.trans c) (by decide)
  rcases h with ⟨c, -⟩ | ⟨-, h⟩
  · exact absurd (e.symm.trans c) (by decide)
  rcases h with ⟨c, -⟩ | ⟨-, h⟩
  · exact absurd (e.symm.trans c) (by decide)
  rcases h with ⟨c, -⟩ | ⟨-, h⟩
  · exact absurd (e.symm.trans c) (by decide)
  rcases h with ⟨-, h⟩ | ⟨c, -⟩
  · exact h
  · exact absurd e c
theorem dD_15 (h : Q_x_X10_doDeed L1 L2 N v u) (h0 : 0 ≤ (v.1 0 364).toInt) (h1 : (v.1 0 364).toInt < (v.1 0 381).toInt) (e : (v.1 378) (v.1 0 364).toNatClampNeg = 15) : ((((v.1 0 363).toInt = (0 : Int)) ∧ u = (wA (wA v 0 364 ((v.1 0 364) + (1 : Int32))) 0 363 0)) ∨ (((v.1 0 363).toInt ≠ (0 : Int)) ∧ u = (wA (wA v 0 364 ((v.1 0 364) + (1 : Int32))) 0 363 1))) := by
  obtain ⟨-, -, -, h⟩ := h
  rcases h with ⟨c, -⟩ | ⟨-, h⟩
  · omega
  rcases h with ⟨c, -⟩ | ⟨-, -, h⟩
  · omega
  rcases h with ⟨c, -⟩ | ⟨-, h⟩
  · exact absurd (e.symm.trans c) (by decide)
  rcases h with ⟨c, -⟩ | ⟨-, h⟩
  · exact absurd (e.symm.trans c) (by decide)
  rcases h with ⟨c, -⟩ | ⟨-, h⟩
  · exact absurd (e.symm.trans c) (by decide)
  rcases h with ⟨c, -⟩ | ⟨-, h⟩
  · exact absurd (e.symm.trans c) (by decide)
  rcases h with ⟨c, -⟩ | ⟨-, h⟩
  · exact absurd (e.symm.trans c) (by decide)
  rcases h with ⟨c, -⟩ | ⟨-, h⟩
  · exact absurd (e.symm.trans c) (by decide)
  rcases h with ⟨c, -⟩ | ⟨-, h⟩
  · exact absurd (e.symm.trans c) (by decide)
  rcases h with ⟨c, -⟩ | ⟨-, h⟩
  · exact absurd (e.symm.trans c) (by decide)
  rcases h with ⟨c, -⟩ | ⟨-, h⟩
  · exact absurd (e.symm.trans c) (by decide)
  rcases h with ⟨c, -⟩ | ⟨-, h⟩
  · exact absurd (e.symm.trans c) (by decide)
  rcases h with ⟨c, -⟩ | ⟨-, h⟩
  · exact absurd (e.symm.trans c) (by decide)
  rcases h with ⟨c, -⟩ | ⟨-, h⟩
  · exact absurd (e.symm.trans c) (by decide)
  rcases h with ⟨c, -⟩ | ⟨-, h⟩
  · exact absurd (e.symm.trans c) (by decide)
  rcases h with ⟨c, -⟩ | ⟨-, h⟩
  · exact absurd (e.symm.trans c) (by decide)
  rcases h with ⟨-, h⟩ | ⟨c, -⟩
  · exact h
  · exact absurd e c
theorem dD_16 (h : Q_x_X10_doDeed L1 L2 N v u) (h0 : 0 ≤ (v.1 0 364).toInt) (h1 : (v.1 0 364).toInt < (v.1 0 381).toInt) (e : (v.1 378) (v.1 0 364).toNatClampNeg = 16) : ((16 : Int) ≤ ((v.1 378) (v.1 0 364).toNatClampNeg).toInt) ∧ (((v.1 378) (v.1 0 364).toNatClampNeg).toInt ≤ (19 : Int)) ∧ ∃ (u130 : MS), (Q_x_X10_doJump L1 L2 (wA v 0 364 ((v.1 0 364) + (1 : Int32))) ((v.1 378) (v.1 0 364).toNatClampNeg) ((v.1 379) (v.1 0 364).toNatClampNeg) u130) ∧ (K_x_X10_doJump (wA v 0 364 ((v.1 0 364) + (1 : Int32))) ((v.1 378) (v.1 0 364).toNatClampNeg) ((v.1 379) (v.1 0 364).toNatClampNeg) u130) ∧ u = u130 := by
  obtain ⟨-, -, -, h⟩ := h
  rcases h with ⟨c, -⟩ | ⟨-, h⟩
  · omega
  rcases h with ⟨c, -⟩ | ⟨-, -, h⟩
  · omega
  rcases h with ⟨c, -⟩ | ⟨-, h⟩
  · exact absurd (e.symm.trans c) (by decide)
  rcases h with ⟨c, -⟩ | ⟨-, h⟩
  · exact absurd (e.symm.trans c) (by decide)
  rcases h with ⟨c, -⟩ | ⟨-, h⟩
  · exact absurd (e.symm.trans c) (by decide)
  rcases h with ⟨c, -⟩ | ⟨-, h⟩
  · exact absurd (e.symm.trans c) (by decide)
  rcases h with ⟨c, -⟩ | ⟨-, h⟩
  · exact absurd (e.symm.trans c) (by decide)
  rcases h with ⟨c, -⟩ | ⟨-, h⟩
  · exact absurd (e.symm.trans c) (by decide)
  rcases h with ⟨c, -⟩ | ⟨-, h⟩
  · exact absurd (e.symm.trans c) (by decide)
  rcases h with ⟨c, -⟩ | ⟨-, h⟩
  · exact absurd (e.symm.trans c) (by decide)
  rcases h with ⟨c, -⟩ | ⟨-, h⟩
  · exact absurd (e.symm.trans c) (by decide)
  rcases h with ⟨c, -⟩ | ⟨-, h⟩
  · exact absurd (e.symm.trans c) (by decide)
  rcases h with ⟨c, -⟩ | ⟨-, h⟩
  · exact absurd (e.symm.trans c) (by decide)
  rcases h with ⟨c, -⟩ | ⟨-, h⟩
  · exact absurd (e.symm.trans c) (by decide)
  rcases h with ⟨c, -⟩ | ⟨-, h⟩
  · exact absurd (e.symm.trans c) (by decide)
  rcases h with ⟨c, -⟩ | ⟨-, h⟩
  · exact absurd (e.symm.trans c) (by decide)
  rcases h with ⟨c, -⟩ | ⟨-, h⟩
  · exact absurd (e.symm.trans c) (by decide)
  rcases h with ⟨-, h⟩ | ⟨c, -⟩
  · exact h
  · exact absurd e c
theorem dD_17 (h : Q_x_X10_doDeed L1 L2 N v u) (h0 : 0 ≤ (v.1 0 364).toInt) (h1 : (v.1 0 364).toInt < (v.1 0 381).toInt) (e : (v.1 378) (v.1 0 364).toNatClampNeg = 17) : ((16 : Int) ≤ ((v.1 378) (v.1 0 364).toNatClampNeg).toInt) ∧ (((v.1 378) (v.1 0 364).toNatClampNeg).toInt ≤ (19 : Int)) ∧ ∃ (u143 : MS), (Q_x_X10_doJump L1 L2 (wA v 0 364 ((v.1 0 364) + (1 : Int32))) ((v.1 378) (v.1 0 364).toNatClampNeg) ((v.1 379) (v.1 0 364).toNatClampNeg) u143) ∧ (K_x_X10_doJump (wA v 0 364 ((v.1 0 364) + (1 : Int32))) ((v.1 378) (v.1 0 364).toNatClampNeg) ((v.1 379) (v.1 0 364).toNatClampNeg) u143) ∧ u = u143 := by
  obtain ⟨-, -, -, h⟩ := h
  rcases h with ⟨c, -⟩ | ⟨-, h⟩
  · omega
  rcases h with ⟨c, -⟩ | ⟨-, -, h⟩
  · omega
  rcases h with ⟨c, -⟩ | ⟨-, h⟩
  · exact absurd (e.symm.trans c) (by decide)
  rcases h with ⟨c, -⟩ | ⟨-, h⟩
  · exact absurd (e.symm.trans c) (by decide)
  rcases h with ⟨c, -⟩ | ⟨-, h⟩
  · exact absurd (e.symm.trans c) (by decide)
  rcases h with ⟨c, -⟩ | ⟨-, h⟩
  · exact absurd (e.symm.trans c) (by decide)
  rcases h with ⟨c, -⟩ | ⟨-, h⟩
  · exact absurd (e.symm.trans c) (by decide)
  rcases h with ⟨c, -⟩ | ⟨-, h⟩
  · exact absurd (e.symm.trans c) (by decide)
  rcases h with ⟨c, -⟩ | ⟨-, h⟩
  · exact absurd (e.symm.trans c) (by decide)
  rcases h with ⟨c, -⟩ | ⟨-, h⟩
  · exact absurd (e.symm.trans c) (by decide)
  rcases h with ⟨c, -⟩ | ⟨-, h⟩
  · exact absurd (e.symm.trans c) (by decide)
  rcases h with ⟨c, -⟩ | ⟨-, h⟩
  · exact absurd (e.symm.trans c) (by decide)
  rcases h with ⟨c, -⟩ | ⟨-, h⟩
  · exact absurd (e.symm.trans c) (by decide)
  rcases h with ⟨c, -⟩ | ⟨-, h⟩
  · exact absurd (e.symm.trans c) (by decide)
  rcases h with ⟨c, -⟩ | ⟨-, h⟩
  · exact absurd (e.symm.trans c) (by decide)
  rcases h with ⟨c, -⟩ | ⟨-, h⟩
  · exact absurd (e.symm.trans c) (by decide)
  rcases h with ⟨c, -⟩ | ⟨-, h⟩
  · exact absurd (e.symm.trans c) (by decide)
  rcases h with ⟨c, -⟩ | ⟨-, h⟩
  · exact absurd (e.symm.trans c) (by decide)
  rcases h with ⟨-, h⟩ | ⟨c, -⟩
  · exact h
  · exact absurd e c
theorem dD_18 (h : Q_x_X10_doDeed L1 L2 N v u) (h0 : 0 ≤ (v.1 0 364).toInt) (h1 : (v.1 0 364).toInt < (v.1 0 381).toInt) (e : (v.1 378) (v.1 0 364).toNatClampNeg = 18) : ((16 : Int) ≤ ((v.1 378) (v.1 0 364).toNatClampNeg).toInt) ∧ (((v.1 378) (v.1 0 364).toNatClampNeg).toInt ≤ (19 : Int)) ∧ ∃ (u156 : MS), (Q_x_X10_doJump L1 L2 (wA v 0 364 ((v.1 0 364) + (1 : Int32))) ((v.1 378) (v.1 0 364).toNatClampNeg) ((v.1 379) (v.1 0 364).toNatClampNeg) u156) ∧ (K_x_X10_doJump (wA v 0 364 ((v.1 0 364) + (1 : Int32))) ((v.1 378) (v.1 0 364).toNatClampNeg) ((v.1 379) (v.1 0 364).toNatClampNeg) u156) ∧ u = u156 := by
  obtain ⟨-, -, -, h⟩ := h
  rcases h with ⟨c, -⟩ | ⟨-, h⟩
  · omega
  rcases h with ⟨c, -⟩ | ⟨-, -, h⟩
  · omega
  rcases h with ⟨c, -⟩ | ⟨-, h⟩
  · exact absurd (e.symm.trans c) (by decide)
  rcases h with ⟨c, -⟩ | ⟨-, h⟩
  · exact absurd (e.symm.trans c) (by decide)
  rcases h with ⟨c, -⟩ | ⟨-, h⟩
  · exact absurd (e.symm.trans c) (by decide)
  rcases h with ⟨c, -⟩ | ⟨-, h⟩
  · exact absurd (e.symm.trans c) (by decide)
  rcases h with ⟨c, -⟩ | ⟨-, h⟩
  · exact absurd (e.symm.trans c) (by decide)
  rcases h with ⟨c, -⟩ | ⟨-, h⟩
  · exact absurd (e.symm.trans c) (by decide)
  rcases h with ⟨c, -⟩ | ⟨-, h⟩
  · exact absurd (e.symm.trans c) (by decide)
  rcases h with ⟨c, -⟩ | ⟨-, h⟩
  · exact absurd (e.symm.trans c) (by decide)
  rcases h with ⟨c, -⟩ | ⟨-, h⟩
  · exact absurd (e.symm.trans c) (by decide)
  rcases h with ⟨c, -⟩ | ⟨-, h⟩
  · exact absurd (e.symm.trans c) (by decide)
  rcases h with ⟨c, -⟩ | ⟨-, h⟩
  · exact absurd (e.symm.trans c) (by decide)
  rcases h with ⟨c, -⟩ | ⟨-, h⟩
  · exact absurd (e.symm.trans c) (by decide)
  rcases h with ⟨c, -⟩ | ⟨-, h⟩
  · exact absurd (e.symm.trans c) (by decide)
  rcases h with ⟨c, -⟩ | ⟨-, h⟩
  · exact absurd (e.symm.trans c) (by decide)
  rcases h with ⟨c, -⟩ | ⟨-, h⟩
  · exact absurd (e.symm.trans c) (by decide)
  rcases h with ⟨c, -⟩ | ⟨-, h⟩
  · exact absurd (e.symm.trans c) (by decide)
  rcases h with ⟨c, -⟩ | ⟨-, h⟩
  · exact absurd (e.symm.trans c) (by decide)
  rcases h with ⟨-, h⟩ | ⟨c, -⟩
  · exact h
  · exact absurd e c
theorem dD_19 (h : Q_x_X10_doDeed L1 L2 N v u) (h0 : 0 ≤ (v.1 0 364).toInt) (h1 : (v.1 0 364).toInt < (v.1 0 381).toInt) (e : (v.1 378) (v.1 0 364).toNatClampNeg = 19) : ((16 : Int) ≤ ((v.1 378) (v.1 0 364).toNatClampNeg).toInt) ∧ (((v.1 378) (v.1 0 364).toNatClampNeg).toInt ≤ (19 : Int)) ∧ ∃ (u169 : MS), (Q_x_X10_doJump L1 L2 (wA v 0 364 ((v.1 0 364) + (1 : Int32))) ((v.1 378) (v.1 0 364).toNatClampNeg) ((v.1 379) (v.1 0 364).toNatClampNeg) u169) ∧ (K_x_X10_doJump (wA v 0 364 ((v.1 0 364) + (1 : Int32))) ((v.1 378) (v.1 0 364).toNatClampNeg) ((v.1 379) (v.1 0 364).toNatClampNeg) u169) ∧ u = u169 := by
  obtain ⟨-, -, -, h⟩ := h
  rcases h with ⟨c, -⟩ | ⟨-, h⟩
  · omega
  rcases h with ⟨c, -⟩ | ⟨-, -, h⟩
  · omega
  rcases h with ⟨c, -⟩ | ⟨-, h⟩
  · exact absurd (e.symm.trans c) (by decide)
  rcases h with ⟨c, -⟩ | ⟨-, h⟩
  · exact absurd (e.symm.trans c) (by decide)
  rcases h with ⟨c, -⟩ | ⟨-, h⟩
  · exact absurd (e.symm.trans c) (by decide)
  rcases h with ⟨c, -⟩ | ⟨-, h⟩
  · exact absurd (e.symm.trans c) (by decide)
  rcases h with ⟨c, -⟩ | ⟨-, h⟩
  · exact absurd (e.symm.trans c) (by decide)
  rcases h with ⟨c, -⟩ | ⟨-, h⟩
  · exact absurd (e.symm.trans c) (by decide)
  rcases h with ⟨c, -⟩ | ⟨-, h⟩
  · exact absurd (e.symm.trans c) (by decide)
  rcases h with ⟨c, -⟩ | ⟨-, h⟩
  · exact absurd (e.symm.trans c) (by decide)
  rcases h with ⟨c, -⟩ | ⟨-, h⟩
  · exact absurd (e.symm.trans c) (by decide)
  rcases h with ⟨c, -⟩ | ⟨-, h⟩
  · exact absurd (e.symm.trans c) (by decide)
  rcases h with ⟨c, -⟩ | ⟨-, h⟩
  · exact absurd (e.symm.trans c) (by decide)
  rcases h with ⟨c, -⟩ | ⟨-, h⟩
  · exact absurd (e.symm.trans c) (by decide)
  rcases h with ⟨c, -⟩ | ⟨-, h⟩
  · exact absurd (e.symm.trans c) (by decide)
  rcases h with ⟨c, -⟩ | ⟨-, h⟩
  · exact absurd (e.symm.trans c) (by decide)
  rcases h with ⟨c, -⟩ | ⟨-, h⟩
  · exact absurd (e.symm.trans c) (by decide)
  rcases h with ⟨c, -⟩ | ⟨-, h⟩
  · exact absurd (e.symm.trans c) (by decide)
  rcases h with ⟨c, -⟩ | ⟨-, h⟩
  · exact absurd (e.symm.trans c) (by decide)
  rcases h with ⟨c, -⟩ | ⟨-, h⟩
  · exact absurd (e.symm.trans c) (by decide)
  rcases h with ⟨-, h⟩ | ⟨c, -⟩
  · exact h
  · exact absurd e c
theorem dD_20 (h : Q_x_X10_doDeed L1 L2 N v u) (h0 : 0 ≤ (v.1 0 364).toInt) (h1 : (v.1 0 364).toInt < (v.1 0 381).toInt) (e : (v.1 378) (v.1 0 364).toNatClampNeg = 20) : ∃ (r177 : Int32), (Q_x_X10_slotAt L1 L2 N (wA v 0 364 ((v.1 0 364) + (1 : Int32))) ((v.1 380) (v.1 0 364).toNatClampNeg) r177) ∧ ∃ (u179 : MS), (Q_x_X10_join L1 L2 N (wA v 0 364 ((v.1 0 364) + (1 : Int32))) ((v.1 379) (v.1 0 364).toNatClampNeg) r177 u179) ∧ (K_x_X10_join (wA v 0 364 ((v.1 0 364) + (1 : Int32))) ((v.1 379) (v.1 0 364).toNatClampNeg) r177 u179) ∧ u = u179 := by
  obtain ⟨-, -, -, h⟩ := h
  rcases h with ⟨c, -⟩ | ⟨-, h⟩
  · omega
  rcases h with ⟨c, -⟩ | ⟨-, -, h⟩
  · omega
  rcases h with ⟨c, -⟩ | ⟨-, h⟩
  · exact absurd (e.symm.trans c) (by decide)
  rcases h with ⟨c, -⟩ | ⟨-, h⟩
  · exact absurd (e.symm.trans c) (by decide)
  rcases h with ⟨c, -⟩ | ⟨-, h⟩
  · exact absurd (e.symm.trans c) (by decide)
  rcases h with ⟨c, -⟩ | ⟨-, h⟩
  · exact absurd (e.symm.trans c) (by decide)
  rcases h with ⟨c, -⟩ | ⟨-, h⟩
  · exact absurd (e.symm.trans c) (by decide)
  rcases h with ⟨c, -⟩ | ⟨-, h⟩
  · exact absurd (e.symm.trans c) (by decide)
  rcases h with ⟨c, -⟩ | ⟨-, h⟩
  · exact absurd (e.symm.trans c) (by decide)
  rcases h with ⟨c, -⟩ | ⟨-, h⟩
  · exact absurd (e.symm.trans c) (by decide)
  rcases h with ⟨c, -⟩ | ⟨-, h⟩
  · exact absurd (e.symm.trans c) (by decide)
  rcases h with ⟨c, -⟩ | ⟨-, h⟩
  · exact absurd (e.symm.trans c) (by decide)
  rcases h with ⟨c, -⟩ | ⟨-, h⟩
  · exact absurd (e.symm.trans c) (by decide)
  rcases h with ⟨c, -⟩ | ⟨-, h⟩
  · exact absurd (e.symm.trans c) (by decide)
  rcases h with ⟨c, -⟩ | ⟨-, h⟩
  · exact absurd (e.symm.trans c) (by decide)
  rcases h with ⟨c, -⟩ | ⟨-, h⟩
  · exact absurd (e.symm.trans c) (by decide)
  rcases h with ⟨c, -⟩ | ⟨-, h⟩
  · exact absurd (e.symm.trans c) (by decide)
  rcases h with ⟨c, -⟩ | ⟨-, h⟩
  · exact absurd (e.symm.trans c) (by decide)
  rcases h with ⟨c, -⟩ | ⟨-, h⟩
  · exact absurd (e.symm.trans c) (by decide)
  rcases h with ⟨c, -⟩ | ⟨-, h⟩
  · exact absurd (e.symm.trans c) (by decide)
  rcases h with ⟨c, -⟩ | ⟨-, h⟩
  · exact absurd (e.symm.trans c) (by decide)
  rcases h with ⟨-, h⟩ | ⟨c, -⟩
  · exact h
  · exact absurd e c
theorem dD_21 (h : Q_x_X10_doDeed L1 L2 N v u) (h0 : 0 ≤ (v.1 0 364).toInt) (h1 : (v.1 0 364).toInt < (v.1 0 381).toInt) (e : (v.1 378) (v.1 0 364).toNatClampNeg = 21) : ∃ (u186 : MS), (Q_x_X10_callFunction L1 L2 N (wA v 0 364 ((v.1 0 364) + (1 : Int32))) ((v.1 379) (v.1 0 364).toNatClampNeg) ((v.1 380) (v.1 0 364).toNatClampNeg) u186) ∧ (K_x_X10_callFunction (wA v 0 364 ((v.1 0 364) + (1 : Int32))) ((v.1 379) (v.1 0 364).toNatClampNeg) ((v.1 380) (v.1 0 364).toNatClampNeg) u186) ∧ u = u186 := by
  obtain ⟨-, -, -, h⟩ := h
  rcases h with ⟨c, -⟩ | ⟨-, h⟩
  · omega
  rcases h with ⟨c, -⟩ | ⟨-, -, h⟩
  · omega
  rcases h with ⟨c, -⟩ | ⟨-, h⟩
  · exact absurd (e.symm.trans c) (by decide)
  rcases h with ⟨c, -⟩ | ⟨-, h⟩
  · exact absurd (e.symm.trans c) (by decide)
  rcases h with ⟨c, -⟩ | ⟨-, h⟩
  · exact absurd (e.symm.trans c) (by decide)
  rcases h with ⟨c, -⟩ | ⟨-, h⟩
  · exact absurd (e.symm.trans c) (by decide)
  rcases h with ⟨c, -⟩ | ⟨-, h⟩
  · exact absurd (e.symm.trans c) (by decide)
  rcases h with ⟨c, -⟩ | ⟨-, h⟩
  · exact absurd (e.symm.trans c) (by decide)
  rcases h with ⟨c, -⟩ | ⟨-, h⟩
  · exact absurd (e.symm.trans c) (by decide)
  rcases h with ⟨c, -⟩ | ⟨-, h⟩
  · exact absurd (e.symm.trans c) (by decide)
  rcases h with ⟨c, -⟩ | ⟨-, h⟩
  · exact absurd (e.symm.trans c) (by decide)
  rcases h with ⟨c, -⟩ | ⟨-, h⟩
  · exact absurd (e.symm.trans c) (by decide)
  rcases h with ⟨c, -⟩ | ⟨-, h⟩
  · exact absurd (e.symm.trans c) (by decide)
  rcases h with ⟨c, -⟩ | ⟨-, h⟩
  · exact absurd (e.symm.trans c) (by decide)
  rcases h with ⟨c, -⟩ | ⟨-, h⟩
  · exact absurd (e.symm.trans c) (by decide)
  rcases h with ⟨c, -⟩ | ⟨-, h⟩
  · exact absurd (e.symm.trans c) (by decide)
  rcases h with ⟨c, -⟩ | ⟨-, h⟩
  · exact absurd (e.symm.trans c) (by decide)
  rcases h with ⟨c, -⟩ | ⟨-, h⟩
  · exact absurd (e.symm.trans c) (by decide)
  rcases h with ⟨c, -⟩ | ⟨-, h⟩
  · exact absurd (e.symm.trans c) (by decide)
  rcases h with ⟨c, -⟩ | ⟨-, h⟩
  · exact absurd (e.symm.trans c) (by decide)
  rcases h with ⟨c, -⟩ | ⟨-, h⟩
  · exact absurd (e.symm.trans c) (by decide)
  rcases h with ⟨c, -⟩ | ⟨-, h⟩
  · exact absurd (e.symm.trans c) (by decide)
  rcases h with ⟨-, h⟩ | ⟨c, -⟩
  · exact h
  · exact absurd e c
theorem dD_22 (h : Q_x_X10_doDeed L1 L2 N v u) (h0 : 0 ≤ (v.1 0 364).toInt) (h1 : (v.1 0 364).toInt < (v.1 0 381).toInt) (e : (v.1 378) (v.1 0 364).toNatClampNeg = 22) : ∃ (u193 : MS), (Q_x_X10_putHand L1 L2 (wA v 0 364 ((v.1 0 364) + (1 : Int32))) u193) ∧ (K_x_X10_putHand (wA v 0 364 ((v.1 0 364) + (1 : Int32))) u193) ∧ u = u193 := by
  obtain ⟨-, -, -, h⟩ := h
  rcases h with ⟨c, -⟩ | ⟨-, h⟩
  · omega
  rcases h with ⟨c, -⟩ | ⟨-, -, h⟩
  · omega
  rcases h with ⟨c, -⟩ | ⟨-, h⟩
  · exact absurd (e.symm.trans c) (by decide)
  rcases h with ⟨c, -⟩ | ⟨-, h⟩
  · exact absurd (e.symm.trans c) (by decide)
  rcases h with ⟨c, -⟩ | ⟨-, h⟩
  · exact absurd (e.symm.trans c) (by decide)
  rcases h with ⟨c, -⟩ | ⟨-, h⟩
  · exact absurd (e.symm.trans c) (by decide)
  rcases h with ⟨c, -⟩ | ⟨-, h⟩
  · exact absurd (e.symm.trans c) (by decide)
  rcases h with ⟨c, -⟩ | ⟨-, h⟩
  · exact absurd (e.symm.trans c) (by decide)
  rcases h with ⟨c, -⟩ | ⟨-, h⟩
  · exact absurd (e.symm.trans c) (by decide)
  rcases h with ⟨c, -⟩ | ⟨-, h⟩
  · exact absurd (e.symm.trans c) (by decide)
  rcases h with ⟨c, -⟩ | ⟨-, h⟩
  · exact absurd (e.symm.trans c) (by decide)
  rcases h with ⟨c, -⟩ | ⟨-, h⟩
  · exact absurd (e.symm.trans c) (by decide)
  rcases h with ⟨c, -⟩ | ⟨-, h⟩
  · exact absurd (e.symm.trans c) (by decide)
  rcases h with ⟨c, -⟩ | ⟨-, h⟩
  · exact absurd (e.symm.trans c) (by decide)
  rcases h with ⟨c, -⟩ | ⟨-, h⟩
  · exact absurd (e.symm.trans c) (by decide)
  rcases h with ⟨c, -⟩ | ⟨-, h⟩
  · exact absurd (e.symm.trans c) (by decide)
  rcases h with ⟨c, -⟩ | ⟨-, h⟩
  · exact absurd (e.symm.trans c) (by decide)
  rcases h with ⟨c, -⟩ | ⟨-, h⟩
  · exact absurd (e.symm.trans c) (by decide)
  rcases h with ⟨c, -⟩ | ⟨-, h⟩
  · exact absurd (e.symm.trans c) (by decide)
  rcases h with ⟨c, -⟩ | ⟨-, h⟩
  · exact absurd (e.symm.trans c) (by decide)
  rcases h with ⟨c, -⟩ | ⟨-, h⟩
  · exact absurd (e.symm.trans c) (by decide)
  rcases h with ⟨c, -⟩ | ⟨-, h⟩
  · exact absurd (e.symm.trans c) (by decide)
  rcases h with ⟨c, -⟩ | ⟨-, h⟩
  · exact absurd (e.symm.trans c) (by decide)
  rcases h with ⟨-, h⟩ | ⟨c, -⟩
  · exact h
  · exact absurd e c
theorem dD_23 (h : Q_x_X10_doDeed L1 L2 N v u) (h0 : 0 ≤ (v.1 0 364).toInt) (h1 : (v.1 0 364).toInt < (v.1 0 381).toInt) (e : (v.1 378) (v.1 0 364).toNatClampNeg = 23) : ∃ (r200 : Int32), (Q_x_X3_numberAt L1 L2 (wA v 0 364 ((v.1 0 364) + (1 : Int32))) (v.1 0 371) r200) ∧ u = (wA (wA (wA v 0 364 ((v.1 0 364) + (1 : Int32))) 0 363 r200) 0 371 ((v.1 0 371) + (1 : Int32))) := by
  obtain ⟨-, -, -, h⟩ := h
  rcases h with ⟨c, -⟩ | ⟨-, h⟩
  · omega
  rcases h with ⟨c, -⟩ | ⟨-, -, h⟩
  · omega
  rcases h with ⟨c, -⟩ | ⟨-, h⟩
  · exact absurd (e.symm.trans c) (by decide)
  rcases h with ⟨c, -⟩ | ⟨-, h⟩
  · exact absurd (e.symm.trans c) (by decide)
  rcases h with ⟨c, -⟩ | ⟨-, h⟩
  · exact absurd (e.symm.trans c) (by decide)
  rcases h with ⟨c, -⟩ | ⟨-, h⟩
  · exact absurd (e.symm.trans c) (by decide)
  rcases h with ⟨c, -⟩ | ⟨-, h⟩
  · exact absurd (e.symm.trans c) (by decide)
  rcases h with ⟨c, -⟩ | ⟨-, h⟩
  · exact absurd (e.symm.trans c) (by decide)
  rcases h with ⟨c, -⟩ | ⟨-, h⟩
  · exact absurd (e.symm.trans c) (by decide)
  rcases h with ⟨c, -⟩ | ⟨-, h⟩
  · exact absurd (e.symm.trans c) (by decide)
  rcases h with ⟨c, -⟩ | ⟨-, h⟩
  · exact absurd (e.symm.trans c) (by decide)
  rcases h with ⟨c, -⟩ | ⟨-, h⟩
  · exact absurd (e.symm.trans c) (by decide)
  rcases h with ⟨c, -⟩ | ⟨-, h⟩
  · exact absurd (e.symm.trans c) (by decide)
  rcases h with ⟨c, -⟩ | ⟨-, h⟩
  · exact absurd (e.symm.trans c) (by decide)
  rcases h with ⟨c, -⟩ | ⟨-, h⟩
  · exact absurd (e.symm.trans c) (by decide)
  rcases h with ⟨c, -⟩ | ⟨-, h⟩
  · exact absurd (e.symm.trans c) (by decide)
  rcases h with ⟨c, -⟩ | ⟨-, h⟩
  · exact absurd (e.symm.trans c) (by decide)
  rcases h with ⟨c, -⟩ | ⟨-, h⟩
  · exact absurd (e.symm.trans c) (by decide)
  rcases h with ⟨c, -⟩ | ⟨-, h⟩
  · exact absurd (e.symm.trans c) (by decide)
  rcases h with ⟨c, -⟩ | ⟨-, h⟩
  · exact absurd (e.symm.trans c) (by decide)
  rcases h with ⟨c, -⟩ | ⟨-, h⟩
  · exact absurd (e.symm.trans c) (by decide)
  rcases h with ⟨c, -⟩ | ⟨-, h⟩
  · exact absurd (e.symm.trans c) (by decide)
  rcases h with ⟨c, -⟩ | ⟨-, h⟩
  · exact absurd (e.symm.trans c) (by decide)
  rcases h with ⟨c, -⟩ | ⟨-, h⟩
  · exact absurd (e.symm.trans c) (by decide)
  rcases h with ⟨-, h⟩ | ⟨c, -⟩
  · exact h
  · exact absurd e c
theorem dD_24 (h : Q_x_X10_doDeed L1 L2 N v u) (h0 : 0 ≤ (v.1 0 364).toInt) (h1 : (v.1 0 364).toInt < (v.1 0 381).toInt) (e : (v.1 378) (v.1 0 364).toNatClampNeg = 24) : ∃ (u205 : MS), (Q_x_X10_takeTurn L1 L2 (wA v 0 364 ((v.1 0 364) + (1 : Int32))) u205) ∧ (K_x_X10_takeTurn (wA v 0 364 ((v.1 0 364) + (1 : Int32))) u205) ∧ u = u205 := by
  obtain ⟨-, -, -, h⟩ := h
  rcases h with ⟨c, -⟩ | ⟨-, h⟩
  · omega
  rcases h with ⟨c, -⟩ | ⟨-, -, h⟩
  · omega
  rcases h with ⟨c, -⟩ | ⟨-, h⟩
  · exact absurd (e.symm.trans c) (by decide)
  rcases h with ⟨c, -⟩ | ⟨-, h⟩
  · exact absurd (e.symm.trans c) (by decide)
  rcases h with ⟨c, -⟩ | ⟨-, h⟩
  · exact absurd (e.symm.trans c) (by decide)
  rcases h with ⟨c, -⟩ | ⟨-, h⟩
  · exact absurd (e.symm.trans c) (by decide)
  rcases h with ⟨c, -⟩ | ⟨-, h⟩
  · exact absurd (e.symm.trans c) (by decide)
  rcases h with ⟨c, -⟩ | ⟨-, h⟩
  · exact absurd (e.symm.trans c) (by decide)
  rcases h with ⟨c, -⟩ | ⟨-, h⟩
  · exact absurd (e.symm.trans c) (by decide)
  rcases h with ⟨c, -⟩ | ⟨-, h⟩
  · exact absurd (e.symm.trans c) (by decide)
  rcases h with ⟨c, -⟩ | ⟨-, h⟩
  · exact absurd (e.symm.trans c) (by decide)
  rcases h with ⟨c, -⟩ | ⟨-, h⟩
  · exact absurd (e.symm.trans c) (by decide)
  rcases h with ⟨c, -⟩ | ⟨-, h⟩
  · exact absurd (e.symm.trans c) (by decide)
  rcases h with ⟨c, -⟩ | ⟨-, h⟩
  · exact absurd (e.symm.trans c) (by decide)
  rcases h with ⟨c, -⟩ | ⟨-, h⟩
  · exact absurd (e.symm.trans c) (by decide)
  rcases h with ⟨c, -⟩ | ⟨-, h⟩
  · exact absurd (e.symm.trans c) (by decide)
  rcases h with ⟨c, -⟩ | ⟨-, h⟩
  · exact absurd (e.symm.trans c) (by decide)
  rcases h with ⟨c, -⟩ | ⟨-, h⟩
  · exact absurd (e.symm.trans c) (by decide)
  rcases h with ⟨c, -⟩ | ⟨-, h⟩
  · exact absurd (e.symm.trans c) (by decide)
  rcases h with ⟨c, -⟩ | ⟨-, h⟩
  · exact absurd (e.symm.trans c) (by decide)
  rcases h with ⟨c, -⟩ | ⟨-, h⟩
  · exact absurd (e.symm.trans c) (by decide)
  rcases h with ⟨c, -⟩ | ⟨-, h⟩
  · exact absurd (e.symm.trans c) (by decide)
  rcases h with ⟨c, -⟩ | ⟨-, h⟩
  · exact absurd (e.symm.trans c) (by decide)
  rcases h with ⟨c, -⟩ | ⟨-, h⟩
  · exact absurd (e.symm.trans c) (by decide)
  rcases h with ⟨c, -⟩ | ⟨-, h⟩
  · exact absurd (e.symm.trans c) (by decide)
  rcases h with ⟨-, h⟩ | ⟨c, -⟩
  · exact h
  · exact absurd e c
theorem dP_0 (h : Q_x_X10_doPlace L1 L2 N v pa pb pc1 u) (e : pa = 0) : u = v := by
  rcases h with ⟨c, -⟩ | ⟨-, h⟩
  · exact absurd (e.symm.trans c) (by decide)
  rcases h with ⟨c, -⟩ | ⟨-, h⟩
  · exact absurd (e.symm.trans c) (by decide)
  rcases h with ⟨c, -⟩ | ⟨-, h⟩
  · exact absurd (e.symm.trans c) (by decide)
  rcases h with ⟨c, -⟩ | ⟨-, h⟩
  · exact absurd (e.symm.trans c) (by decide)
  rcases h with ⟨c, -⟩ | ⟨-, h⟩
  · exact absurd (e.symm.trans c) (by decide)
  rcases h with ⟨c, -⟩ | ⟨-, h⟩
  · exact absurd (e.symm.trans c) (by decide)
  rcases h with ⟨c, -⟩ | ⟨-, h⟩
  · exact absurd (e.symm.trans c) (by decide)
  exact h
theorem dP_5 (h : Q_x_X10_doPlace L1 L2 N v pa pb pc1 u) (e : pa = 5) : ∃ (r4 : Int32), (Q_x_X7_firstCell L1 L2 v pb r4) ∧ ∃ (r7 : Int32), (Q_x_X10_cellAt L1 L2 N v r4 r7) ∧ u = (wA v 0 363 r7) := by
  rcases h with ⟨-, h⟩ | ⟨c, -⟩
  · exact h
  · exact absurd e c
theorem dP_6 (h : Q_x_X10_doPlace L1 L2 N v pa pb pc1 u) (e : pa = 6) : ∃ (r11 : Int32), (Q_x_X7_firstCell L1 L2 v pb r11) ∧ ∃ (u13 : MS), (Q_x_X10_changeCell L1 L2 N v r11 (v.1 0 363) u13) ∧ (K_x_X10_changeCell v r11 (v.1 0 363) u13) ∧ u = u13 := by
  rcases h with ⟨c, -⟩ | ⟨-, h⟩
  · exact absurd (e.symm.trans c) (by decide)
  rcases h with ⟨-, h⟩ | ⟨c, -⟩
  · exact h
  · exact absurd e c
theorem dP_7 (h : Q_x_X10_doPlace L1 L2 N v pa pb pc1 u) (e : pa = 7) : ∃ (u17 : MS), (Q_x_X10_index L1 L2 v pb u17) ∧ (K_x_X10_index v pb u17) ∧ u = u17 := by
  rcases h with ⟨c, -⟩ | ⟨-, h⟩
  · exact absurd (e.symm.trans c) (by decide)
  rcases h with ⟨c, -⟩ | ⟨-, h⟩
  · exact absurd (e.symm.trans c) (by decide)
  rcases h with ⟨-, h⟩ | ⟨c, -⟩
  · exact h
  · exact absurd e c
theorem dP_8 (h : Q_x_X10_doPlace L1 L2 N v pa pb pc1 u) (e : pa = 8) : ∃ (r22 : Int32), (Q_x_X10_cellAt L1 L2 N v (v.1 0 363) r22) ∧ u = (wA v 0 363 r22) := by
  rcases h with ⟨c, -⟩ | ⟨-, h⟩
  · exact absurd (e.symm.trans c) (by decide)
  rcases h with ⟨c, -⟩ | ⟨-, h⟩
  · exact absurd (e.symm.trans c) (by decide)
  rcases h with ⟨c, -⟩ | ⟨-, h⟩
  · exact absurd (e.symm.trans c) (by decide)
  rcases h with ⟨-, h⟩ | ⟨c, -⟩
  · exact h
  · exact absurd e c
theorem dP_9 (h : Q_x_X10_doPlace L1 L2 N v pa pb pc1 u) (e : pa = 9) : ∃ (u25 : MS), (Q_x_X10_changeSlot L1 L2 N v pc1 (v.1 0 363) u25) ∧ (K_x_X10_changeSlot v pc1 (v.1 0 363) u25) ∧ u = u25 := by
  rcases h with ⟨c, -⟩ | ⟨-, h⟩
  · exact absurd (e.symm.trans c) (by decide)
  rcases h with ⟨c, -⟩ | ⟨-, h⟩
  · exact absurd (e.symm.trans c) (by decide)
  rcases h with ⟨c, -⟩ | ⟨-, h⟩
  · exact absurd (e.symm.trans c) (by decide)
  rcases h with ⟨c, -⟩ | ⟨-, h⟩
  · exact absurd (e.symm.trans c) (by decide)
  rcases h with ⟨-, h⟩ | ⟨c, -⟩
  · exact h
  · exact absurd e c
theorem dP_10 (h : Q_x_X10_doPlace L1 L2 N v pa pb pc1 u) (e : pa = 10) : ∃ (r30 : Int32), (Q_x_X10_cellAt L1 L2 N v (v.1 0 363) r30) ∧ u = (wA v 0 363 r30) := by
  rcases h with ⟨c, -⟩ | ⟨-, h⟩
  · exact absurd (e.symm.trans c) (by decide)
  rcases h with ⟨c, -⟩ | ⟨-, h⟩
  · exact absurd (e.symm.trans c) (by decide)
  rcases h with ⟨c, -⟩ | ⟨-, h⟩
  · exact absurd (e.symm.trans c) (by decide)
  rcases h with ⟨c, -⟩ | ⟨-, h⟩
  · exact absurd (e.symm.trans c) (by decide)
  rcases h with ⟨c, -⟩ | ⟨-, h⟩
  · exact absurd (e.symm.trans c) (by decide)
  rcases h with ⟨-, h⟩ | ⟨c, -⟩
  · exact h
  · exact absurd e c
theorem dP_11 (h : Q_x_X10_doPlace L1 L2 N v pa pb pc1 u) (e : pa = 11) : ∃ (r34 : Int32), (Q_x_X10_slotAt L1 L2 N v pb r34) ∧ ∃ (u36 : MS), (Q_x_X10_changeCell L1 L2 N v r34 (v.1 0 363) u36) ∧ (K_x_X10_changeCell v r34 (v.1 0 363) u36) ∧ u = u36 := by
  rcases h with ⟨c, -⟩ | ⟨-, h⟩
  · exact absurd (e.symm.trans c) (by decide)
  rcases h with ⟨c, -⟩ | ⟨-, h⟩
  · exact absurd (e.symm.trans c) (by decide)
  rcases h with ⟨c, -⟩ | ⟨-, h⟩
  · exact absurd (e.symm.trans c) (by decide)
  rcases h with ⟨c, -⟩ | ⟨-, h⟩
  · exact absurd (e.symm.trans c) (by decide)
  rcases h with ⟨c, -⟩ | ⟨-, h⟩
  · exact absurd (e.symm.trans c) (by decide)
  rcases h with ⟨c, -⟩ | ⟨-, h⟩
  · exact absurd (e.symm.trans c) (by decide)
  rcases h with ⟨-, h⟩ | ⟨c, -⟩
  · exact h
  · exact absurd e c
theorem dO_0 (h : Q_m_obey v N r u) (e : (v.1 71) (v.1 0 112).toNatClampNeg = 0) : r = (-1) ∧ u = (wA (wA (wA v 0 112 ((v.1 0 112) + (1 : Int32))) 105 ((v.1 0 106).toNatClampNeg) ((v.1 72) (v.1 0 112).toNatClampNeg)) 0 106 ((v.1 0 106) + (1 : Int32))) := by
  obtain ⟨-, -, -, -, h⟩ := h
  rcases h with ⟨-, h⟩ | ⟨c, -⟩
  · exact h
  · exact absurd e c
theorem dO_1 (h : Q_m_obey v N r u) (e : (v.1 71) (v.1 0 112).toNatClampNeg = 1) : r = (-1) ∧ u = (wA (wA (wA v 0 112 ((v.1 0 112) + (1 : Int32))) 105 ((v.1 0 106).toNatClampNeg) ((v.1 105) ((v.1 0 111) + ((v.1 72) (v.1 0 112).toNatClampNeg)).toNatClampNeg)) 0 106 ((v.1 0 106) + (1 : Int32))) := by
  obtain ⟨-, -, -, -, h⟩ := h
  rcases h with ⟨c, -⟩ | ⟨-, h⟩
  · exact absurd (e.symm.trans c) (by decide)
  rcases h with ⟨-, h⟩ | ⟨c, -⟩
  · exact h
  · exact absurd e c
theorem dO_2 (h : Q_m_obey v N r u) (e : (v.1 71) (v.1 0 112).toNatClampNeg = 2) : r = (-1) ∧ u = (wA (wA v 0 112 ((v.1 0 112) + (1 : Int32))) 105 (((v.1 0 111) + ((v.1 72) (v.1 0 112).toNatClampNeg)).toNatClampNeg) ((v.1 105) ((v.1 0 106) - (1 : Int32)).toNatClampNeg)) := by
  obtain ⟨-, -, -, -, h⟩ := h
  rcases h with ⟨c, -⟩ | ⟨-, h⟩
  · exact absurd (e.symm.trans c) (by decide)
  rcases h with ⟨c, -⟩ | ⟨-, h⟩
  · exact absurd (e.symm.trans c) (by decide)
  rcases h with ⟨-, h⟩ | ⟨c, -⟩
  · exact h
  · exact absurd e c
theorem dO_3 (h : Q_m_obey v N r u) (e : (v.1 71) (v.1 0 112).toNatClampNeg = 3) : r = (-1) ∧ u = (wA (wA (wA v 0 112 ((v.1 0 112) + (1 : Int32))) 105 ((v.1 0 106).toNatClampNeg) ((v.1 117) ((v.1 72) (v.1 0 112).toNatClampNeg).toNatClampNeg)) 0 106 ((v.1 0 106) + (1 : Int32))) := by
  obtain ⟨-, -, -, -, h⟩ := h
  rcases h with ⟨c, -⟩ | ⟨-, h⟩
  · exact absurd (e.symm.trans c) (by decide)
  rcases h with ⟨c, -⟩ | ⟨-, h⟩
  · exact absurd (e.symm.trans c) (by decide)
  rcases h with ⟨c, -⟩ | ⟨-, h⟩
  · exact absurd (e.symm.trans c) (by decide)
  rcases h with ⟨-, h⟩ | ⟨c, -⟩
  · exact h
  · exact absurd e c
theorem dO_4 (h : Q_m_obey v N r u) (e : (v.1 71) (v.1 0 112).toNatClampNeg = 4) : r = (-1) ∧ u = (wA (wA v 0 112 ((v.1 0 112) + (1 : Int32))) 117 (((v.1 72) (v.1 0 112).toNatClampNeg).toNatClampNeg) ((v.1 105) ((v.1 0 106) - (1 : Int32)).toNatClampNeg)) := by
  obtain ⟨-, -, -, -, h⟩ := h
  rcases h with ⟨c, -⟩ | ⟨-, h⟩
  · exact absurd (e.symm.trans c) (by decide)
  rcases h with ⟨c, -⟩ | ⟨-, h⟩
  · exact absurd (e.symm.trans c) (by decide)
  rcases h with ⟨c, -⟩ | ⟨-, h⟩
  · exact absurd (e.symm.trans c) (by decide)
  rcases h with ⟨c, -⟩ | ⟨-, h⟩
  · exact absurd (e.symm.trans c) (by decide)
  rcases h with ⟨-, h⟩ | ⟨c, -⟩
  · exact h
  · exact absurd e c
theorem dO_5 (h : Q_m_obey v N r u) (e : (v.1 71) (v.1 0 112).toNatClampNeg = 5) : (((((v.1 105) ((v.1 0 106) - (1 : Int32)).toNatClampNeg).toInt < (0 : Int)) ∧ r = 3 ∧ u = (wA (wA v 0 112 ((v.1 0 112) + (1 : Int32))) 0 106 ((v.1 0 106) - (1 : Int32)))) ∨ (((0 : Int) ≤ ((v.1 105) ((v.1 0 106) - (1 : Int32)).toNatClampNeg).toInt) ∧ (((((v.1 105) ((v.1 0 106) - (1 : Int32)).toNatClampNeg).toInt < ((v.1 85) ((v.1 72) (v.1 0 112).toNatClampNeg).toNatClampNeg).toInt) ∧ r = (-1) ∧ u = (wA (wA (wA (wA v 0 112 ((v.1 0 112) + (1 : Int32))) 0 106 ((v.1 0 106) - (1 : Int32))) 105 (((v.1 0 106) - (1 : Int32)).toNatClampNeg) (((v.1 86) ((v.1 72) (v.1 0 112).toNatClampNeg).toNatClampNeg) + ((v.1 105) ((v.1 0 106) - (1 : Int32)).toNatClampNeg))) 0 106 (((v.1 0 106) - (1 : Int32)) + (1 : Int32)))) ∨ ((((v.1 85) ((v.1 72) (v.1 0 112).toNatClampNeg).toNatClampNeg).toInt ≤ ((v.1 105) ((v.1 0 106) - (1 : Int32)).toNatClampNeg).toInt) ∧ r = 3 ∧ u = (wA (wA v 0 112 ((v.1 0 112) + (1 : Int32))) 0 106 ((v.1 0 106) - (1 : Int32))))))) := by
  obtain ⟨-, -, -, -, h⟩ := h
  rcases h with ⟨c, -⟩ | ⟨-, h⟩
  · exact absurd (e.symm.trans c) (by decide)
  rcases h with ⟨c, -⟩ | ⟨-, h⟩
  · exact absurd (e.symm.trans c) (by decide)
  rcases h with ⟨c, -⟩ | ⟨-, h⟩
  · exact absurd (e.symm.trans c) (by decide)
  rcases h with ⟨c, -⟩ | ⟨-, h⟩
  · exact absurd (e.symm.trans c) (by decide)
  rcases h with ⟨c, -⟩ | ⟨-, h⟩
  · exact absurd (e.symm.trans c) (by decide)
  rcases h with ⟨-, h⟩ | ⟨c, -⟩
  · exact h
  · exact absurd e c
theorem dO_6 (h : Q_m_obey v N r u) (e : (v.1 71) (v.1 0 112).toNatClampNeg = 6) : r = (-1) ∧ u = (wA (wA (wA (wA v 0 112 ((v.1 0 112) + (1 : Int32))) 0 106 ((v.1 0 106) - (1 : Int32))) 105 (((v.1 0 106) - (1 : Int32)).toNatClampNeg) ((v.1 117) ((v.1 105) ((v.1 0 106) - (1 : Int32)).toNatClampNeg).toNatClampNeg)) 0 106 (((v.1 0 106) - (1 : Int32)) + (1 : Int32))) := by
  obtain ⟨-, -, -, -, h⟩ := h
  rcases h with ⟨c, -⟩ | ⟨-, h⟩
  · exact absurd (e.symm.trans c) (by decide)
  rcases h with ⟨c, -⟩ | ⟨-, h⟩
  · exact absurd (e.symm.trans c) (by decide)
  rcases h with ⟨c, -⟩ | ⟨-, h⟩
  · exact absurd (e.symm.trans c) (by decide)
  rcases h with ⟨c, -⟩ | ⟨-, h⟩
  · exact absurd (e.symm.trans c) (by decide)
  rcases h with ⟨c, -⟩ | ⟨-, h⟩
  · exact absurd (e.symm.trans c) (by decide)
  rcases h with ⟨c, -⟩ | ⟨-, h⟩
  · exact absurd (e.symm.trans c) (by decide)
  rcases h with ⟨-, h⟩ | ⟨c, -⟩
  · exact h
  · exact absurd e c
theorem dO_7 (h : Q_m_obey v N r u) (e : (v.1 71) (v.1 0 112).toNatClampNeg = 7) : r = (-1) ∧ u = (wA (wA (wA v 0 112 ((v.1 0 112) + (1 : Int32))) 105 ((v.1 0 106).toNatClampNeg) ((v.1 117) ((v.1 105) ((v.1 0 106) - (1 : Int32)).toNatClampNeg).toNatClampNeg)) 0 106 ((v.1 0 106) + (1 : Int32))) := by
  obtain ⟨-, -, -, -, h⟩ := h
  rcases h with ⟨c, -⟩ | ⟨-, h⟩
  · exact absurd (e.symm.trans c) (by decide)
  rcases h with ⟨c, -⟩ | ⟨-, h⟩
  · exact absurd (e.symm.trans c) (by decide)
  rcases h with ⟨c, -⟩ | ⟨-, h⟩
  · exact absurd (e.symm.trans c) (by decide)
  rcases h with ⟨c, -⟩ | ⟨-, h⟩
  · exact absurd (e.symm.trans c) (by decide)
  rcases h with ⟨c, -⟩ | ⟨-, h⟩
  · exact absurd (e.symm.trans c) (by decide)
  rcases h with ⟨c, -⟩ | ⟨-, h⟩
  · exact absurd (e.symm.trans c) (by decide)
  rcases h with ⟨c, -⟩ | ⟨-, h⟩
  · exact absurd (e.symm.trans c) (by decide)
  rcases h with ⟨-, h⟩ | ⟨c, -⟩
  · exact h
  · exact absurd e c
theorem dO_8 (h : Q_m_obey v N r u) (e : (v.1 71) (v.1 0 112).toNatClampNeg = 8) : r = (-1) ∧ u = (wA (wA (wA (wA (wA (wA v 0 112 ((v.1 0 112) + (1 : Int32))) 0 106 ((v.1 0 106) - (1 : Int32))) 0 106 (((v.1 0 106) - (1 : Int32)) - (1 : Int32))) 117 (((v.1 105) (((v.1 0 106) - (1 : Int32)) - (1 : Int32)).toNatClampNeg).toNatClampNeg) ((v.1 105) ((v.1 0 106) - (1 : Int32)).toNatClampNeg)) 105 ((((v.1 0 106) - (1 : Int32)) - (1 : Int32)).toNatClampNeg) ((v.1 105) ((v.1 0 106) - (1 : Int32)).toNatClampNeg)) 0 106 ((((v.1 0 106) - (1 : Int32)) - (1 : Int32)) + (1 : Int32))) := by
  obtain ⟨-, -, -, -, h⟩ := h
  rcases h with ⟨c, -⟩ | ⟨-, h⟩
  · exact absurd (e.symm.trans c) (by decide)
  rcases h with ⟨c, -⟩ | ⟨-, h⟩
  · exact absurd (e.symm.trans c) (by decide)
  rcases h with ⟨c, -⟩ | ⟨-, h⟩
  · exact absurd (e.symm.trans c) (by decide)
  rcases h with ⟨c, -⟩ | ⟨-, h⟩
  · exact absurd (e.symm.trans c) (by decide)
  rcases h with ⟨c, -⟩ | ⟨-, h⟩
  · exact absurd (e.symm.trans c) (by decide)
  rcases h with ⟨c, -⟩ | ⟨-, h⟩
  · exact absurd (e.symm.trans c) (by decide)
  rcases h with ⟨c, -⟩ | ⟨-, h⟩
  · exact absurd (e.symm.trans c) (by decide)
  rcases h with ⟨c, -⟩ | ⟨-, h⟩
  · exact absurd (e.symm.trans c) (by decide)
  rcases h with ⟨-, h⟩ | ⟨c, -⟩
  · exact h
  · exact absurd e c
theorem dO_9 (h : Q_m_obey v N r u) (e : (v.1 71) (v.1 0 112).toNatClampNeg = 9) : r = (-1) ∧ u = (wA (wA v 0 112 ((v.1 0 112) + (1 : Int32))) 0 106 ((v.1 0 106) - (1 : Int32))) := by
  obtain ⟨-, -, -, -, h⟩ := h
  rcases h with ⟨c, -⟩ | ⟨-, h⟩
  · exact absurd (e.symm.trans c) (by decide)
  rcases h with ⟨c, -⟩ | ⟨-, h⟩
  · exact absurd (e.symm.trans c) (by decide)
  rcases h with ⟨c, -⟩ | ⟨-, h⟩
  · exact absurd (e.symm.trans c) (by decide)
  rcases h with ⟨c, -⟩ | ⟨-, h⟩
  · exact absurd (e.symm.trans c) (by decide)
  rcases h with ⟨c, -⟩ | ⟨-, h⟩
  · exact absurd (e.symm.trans c) (by decide)
  rcases h with ⟨c, -⟩ | ⟨-, h⟩
  · exact absurd (e.symm.trans c) (by decide)
  rcases h with ⟨c, -⟩ | ⟨-, h⟩
  · exact absurd (e.symm.trans c) (by decide)
  rcases h with ⟨c, -⟩ | ⟨-, h⟩
  · exact absurd (e.symm.trans c) (by decide)
  rcases h with ⟨c, -⟩ | ⟨-, h⟩
  · exact absurd (e.symm.trans c) (by decide)
  rcases h with ⟨-, h⟩ | ⟨c, -⟩
  · exact h
  · exact absurd e c
theorem dO_10 (h : Q_m_obey v N r u) (e : (v.1 71) (v.1 0 112).toNatClampNeg = 10) : (((((v.1 105) ((v.1 0 106) - (1 : Int32)).toNatClampNeg).toInt ≠ (0 : Int)) ∧ r = (-1) ∧ u = (wA (wA (wA v 0 112 ((v.1 0 112) + (1 : Int32))) 0 106 ((v.1 0 106) - (1 : Int32))) 0 112 ((v.1 0 112) + (1 : Int32)))) ∨ ((((v.1 105) ((v.1 0 106) - (1 : Int32)).toNatClampNeg).toInt = (0 : Int)) ∧ r = (-1) ∧ u = (wA (wA (wA v 0 112 ((v.1 0 112) + (1 : Int32))) 0 106 ((v.1 0 106) - (1 : Int32))) 0 112 ((v.1 72) (v.1 0 112).toNatClampNeg)))) := by
  obtain ⟨-, -, -, -, h⟩ := h
  rcases h with ⟨c, -⟩ | ⟨-, h⟩
  · exact absurd (e.symm.trans c) (by decide)
  rcases h with ⟨c, -⟩ | ⟨-, h⟩
  · exact absurd (e.symm.trans c) (by decide)
  rcases h with ⟨c, -⟩ | ⟨-, h⟩
  · exact absurd (e.symm.trans c) (by decide)
  rcases h with ⟨c, -⟩ | ⟨-, h⟩
  · exact absurd (e.symm.trans c) (by decide)
  rcases h with ⟨c, -⟩ | ⟨-, h⟩
  · exact absurd (e.symm.trans c) (by decide)
  rcases h with ⟨c, -⟩ | ⟨-, h⟩
  · exact absurd (e.symm.trans c) (by decide)
  rcases h with ⟨c, -⟩ | ⟨-, h⟩
  · exact absurd (e.symm.trans c) (by decide)
  rcases h with ⟨c, -⟩ | ⟨-, h⟩
  · exact absurd (e.symm.trans c) (by decide)
  rcases h with ⟨c, -⟩ | ⟨-, h⟩
  · exact absurd (e.symm.trans c) (by decide)
  rcases h with ⟨c, -⟩ | ⟨-, h⟩
  · exact absurd (e.symm.trans c) (by decide)
  rcases h with ⟨-, h⟩ | ⟨c, -⟩
  · exact h
  · exact absurd e c
theorem dO_11 (h : Q_m_obey v N r u) (e : (v.1 71) (v.1 0 112).toNatClampNeg = 11) : (((((v.1 105) ((v.1 0 106) - (1 : Int32)).toNatClampNeg).toInt = (0 : Int)) ∧ r = (-1) ∧ u = (wA (wA (wA v 0 112 ((v.1 0 112) + (1 : Int32))) 0 106 ((v.1 0 106) - (1 : Int32))) 0 112 ((v.1 0 112) + (1 : Int32)))) ∨ ((((v.1 105) ((v.1 0 106) - (1 : Int32)).toNatClampNeg).toInt ≠ (0 : Int)) ∧ r = (-1) ∧ u = (wA (wA (wA v 0 112 ((v.1 0 112) + (1 : Int32))) 0 106 ((v.1 0 106) - (1 : Int32))) 0 112 ((v.1 72) (v.1 0 112).toNatClampNeg)))) := by
  obtain ⟨-, -, -, -, h⟩ := h
  rcases h with ⟨c, -⟩ | ⟨-, h⟩
  · exact absurd (e.symm.trans c) (by decide)
  rcases h with ⟨c, -⟩ | ⟨-, h⟩
  · exact absurd (e.symm.trans c) (by decide)
  rcases h with ⟨c, -⟩ | ⟨-, h⟩
  · exact absurd (e.symm.trans c) (by decide)
  rcases h with ⟨c, -⟩ | ⟨-, h⟩
  · exact absurd (e.symm.trans c) (by decide)
  rcases h with ⟨c, -⟩ | ⟨-, h⟩
  · exact absurd (e.symm.trans c) (by decide)
  rcases h with ⟨c, -⟩ | ⟨-, h⟩
  · exact absurd (e.symm.trans c) (by decide)
  rcases h with ⟨c, -⟩ | ⟨-, h⟩
  · exact absurd (e.symm.trans c) (by decide)
  rcases h with ⟨c, -⟩ | ⟨-, h⟩
  · exact absurd (e.symm.trans c) (by decide)
  rcases h with ⟨c, -⟩ | ⟨-, h⟩
  · exact absurd (e.symm.trans c) (by decide)
  rcases h with ⟨c, -⟩ | ⟨-, h⟩
  · exact absurd (e.symm.trans c) (by decide)
  rcases h with ⟨c, -⟩ | ⟨-, h⟩
  · exact absurd (e.symm.trans c) (by decide)
  rcases h with ⟨-, h⟩ | ⟨c, -⟩
  · exact h
  · exact absurd e c
theorem dO_12 (h : Q_m_obey v N r u) (e : (v.1 71) (v.1 0 112).toNatClampNeg = 12) : r = (-1) ∧ u = (wA (wA v 0 112 ((v.1 0 112) + (1 : Int32))) 0 112 ((v.1 72) (v.1 0 112).toNatClampNeg)) := by
  obtain ⟨-, -, -, -, h⟩ := h
  rcases h with ⟨c, -⟩ | ⟨-, h⟩
  · exact absurd (e.symm.trans c) (by decide)
  rcases h with ⟨c, -⟩ | ⟨-, h⟩
  · exact absurd (e.symm.trans c) (by decide)
  rcases h with ⟨c, -⟩ | ⟨-, h⟩
  · exact absurd (e.symm.trans c) (by decide)
  rcases h with ⟨c, -⟩ | ⟨-, h⟩
  · exact absurd (e.symm.trans c) (by decide)
  rcases h with ⟨c, -⟩ | ⟨-, h⟩
  · exact absurd (e.symm.trans c) (by decide)
  rcases h with ⟨c, -⟩ | ⟨-, h⟩
  · exact absurd (e.symm.trans c) (by decide)
  rcases h with ⟨c, -⟩ | ⟨-, h⟩
  · exact absurd (e.symm.trans c) (by decide)
  rcases h with ⟨c, -⟩ | ⟨-, h⟩
  · exact absurd (e.symm.trans c) (by decide)
  rcases h with ⟨c, -⟩ | ⟨-, h⟩
  · exact absurd (e.symm.trans c) (by decide)
  rcases h with ⟨c, -⟩ | ⟨-, h⟩
  · exact absurd (e.symm.trans c) (by decide)
  rcases h with ⟨c, -⟩ | ⟨-, h⟩
  · exact absurd (e.symm.trans c) (by decide)
  rcases h with ⟨c, -⟩ | ⟨-, h⟩
  · exact absurd (e.symm.trans c) (by decide)
  rcases h with ⟨-, h⟩ | ⟨c, -⟩
  · exact h
  · exact absurd e c
theorem dO_13 (h : Q_m_obey v N r u) (e : (v.1 71) (v.1 0 112).toNatClampNeg = 13) : ∃ (r123 : Int32), ∃ (u122 : MS), (Q_m_turn (wA v 0 112 ((v.1 0 112) + (1 : Int32))) r123 u122) ∧ (K_m_turn (wA v 0 112 ((v.1 0 112) + (1 : Int32))) r123 u122) ∧ r = r123 ∧ u = u122 := by
  obtain ⟨-, -, -, -, h⟩ := h
  rcases h with ⟨c, -⟩ | ⟨-, h⟩
  · exact absurd (e.symm.trans c) (by decide)
  rcases h with ⟨c, -⟩ | ⟨-, h⟩
  · exact absurd (e.symm.trans c) (by decide)
  rcases h with ⟨c, -⟩ | ⟨-, h⟩
  · exact absurd (e.symm.trans c) (by decide)
  rcases h with ⟨c, -⟩ | ⟨-, h⟩
  · exact absurd (e.symm.trans c) (by decide)
  rcases h with ⟨c, -⟩ | ⟨-, h⟩
  · exact absurd (e.symm.trans c) (by decide)
  rcases h with ⟨c, -⟩ | ⟨-, h⟩
  · exact absurd (e.symm.trans c) (by decide)
  rcases h with ⟨c, -⟩ | ⟨-, h⟩
  · exact absurd (e.symm.trans c) (by decide)
  rcases h with ⟨c, -⟩ | ⟨-, h⟩
  · exact absurd (e.symm.trans c) (by decide)
  rcases h with ⟨c, -⟩ | ⟨-, h⟩
  · exact absurd (e.symm.trans c) (by decide)
  rcases h with ⟨c, -⟩ | ⟨-, h⟩
  · exact absurd (e.symm.trans c) (by decide)
  rcases h with ⟨c, -⟩ | ⟨-, h⟩
  · exact absurd (e.symm.trans c) (by decide)
  rcases h with ⟨c, -⟩ | ⟨-, h⟩
  · exact absurd (e.symm.trans c) (by decide)
  rcases h with ⟨c, -⟩ | ⟨-, h⟩
  · exact absurd (e.symm.trans c) (by decide)
  rcases h with ⟨-, h⟩ | ⟨c, -⟩
  · exact h
  · exact absurd e c
theorem dO_14 (h : Q_m_obey v N r u) (e : (v.1 71) (v.1 0 112).toNatClampNeg = 14) : ∃ (r129 : Int32), ∃ (u128 : MS), (Q_m_enter (wA v 0 112 ((v.1 0 112) + (1 : Int32))) ((v.1 72) (v.1 0 112).toNatClampNeg) N r129 u128) ∧ (K_m_enter (wA v 0 112 ((v.1 0 112) + (1 : Int32))) ((v.1 72) (v.1 0 112).toNatClampNeg) r129 u128) ∧ r = r129 ∧ u = u128 := by
  obtain ⟨-, -, -, -, h⟩ := h
  rcases h with ⟨c, -⟩ | ⟨-, h⟩
  · exact absurd (e.symm.trans c) (by decide)
  rcases h with ⟨c, -⟩ | ⟨-, h⟩
  · exact absurd (e.symm.trans c) (by decide)
  rcases h with ⟨c, -⟩ | ⟨-, h⟩
  · exact absurd (e.symm.trans c) (by decide)
  rcases h with ⟨c, -⟩ | ⟨-, h⟩
  · exact absurd (e.symm.trans c) (by decide)
  rcases h with ⟨c, -⟩ | ⟨-, h⟩
  · exact absurd (e.symm.trans c) (by decide)
  rcases h with ⟨c, -⟩ | ⟨-, h⟩
  · exact absurd (e.symm.trans c) (by decide)
  rcases h with ⟨c, -⟩ | ⟨-, h⟩
  · exact absurd (e.symm.trans c) (by decide)
  rcases h with ⟨c, -⟩ | ⟨-, h⟩
  · exact absurd (e.symm.trans c) (by decide)
  rcases h with ⟨c, -⟩ | ⟨-, h⟩
  · exact absurd (e.symm.trans c) (by decide)
  rcases h with ⟨c, -⟩ | ⟨-, h⟩
  · exact absurd (e.symm.trans c) (by decide)
  rcases h with ⟨c, -⟩ | ⟨-, h⟩
  · exact absurd (e.symm.trans c) (by decide)
  rcases h with ⟨c, -⟩ | ⟨-, h⟩
  · exact absurd (e.symm.trans c) (by decide)
  rcases h with ⟨c, -⟩ | ⟨-, h⟩
  · exact absurd (e.symm.trans c) (by decide)
  rcases h with ⟨c, -⟩ | ⟨-, h⟩
  · exact absurd (e.symm.trans c) (by decide)
  rcases h with ⟨-, h⟩ | ⟨c, -⟩
  · exact h
  · exact absurd e c
theorem dO_15 (h : Q_m_obey v N r u) (e : (v.1 71) (v.1 0 112).toNatClampNeg = 15) : ∃ (r135 : Int32), ∃ (u134 : MS), (Q_m_leave (wA v 0 112 ((v.1 0 112) + (1 : Int32))) r135 u134) ∧ (K_m_leave (wA v 0 112 ((v.1 0 112) + (1 : Int32))) r135 u134) ∧ r = r135 ∧ u = u134 := by
  obtain ⟨-, -, -, -, h⟩ := h
  rcases h with ⟨c, -⟩ | ⟨-, h⟩
  · exact absurd (e.symm.trans c) (by decide)
  rcases h with ⟨c, -⟩ | ⟨-, h⟩
  · exact absurd (e.symm.trans c) (by decide)
  rcases h with ⟨c, -⟩ | ⟨-, h⟩
  · exact absurd (e.symm.trans c) (by decide)
  rcases h with ⟨c, -⟩ | ⟨-, h⟩
  · exact absurd (e.symm.trans c) (by decide)
  rcases h with ⟨c, -⟩ | ⟨-, h⟩
  · exact absurd (e.symm.trans c) (by decide)
  rcases h with ⟨c, -⟩ | ⟨-, h⟩
  · exact absurd (e.symm.trans c) (by decide)
  rcases h with ⟨c, -⟩ | ⟨-, h⟩
  · exact absurd (e.symm.trans c) (by decide)
  rcases h with ⟨c, -⟩ | ⟨-, h⟩
  · exact absurd (e.symm.trans c) (by decide)
  rcases h with ⟨c, -⟩ | ⟨-, h⟩
  · exact absurd (e.symm.trans c) (by decide)
  rcases h with ⟨c, -⟩ | ⟨-, h⟩
  · exact absurd (e.symm.trans c) (by decide)
  rcases h with ⟨c, -⟩ | ⟨-, h⟩
  · exact absurd (e.symm.trans c) (by decide)
  rcases h with ⟨c, -⟩ | ⟨-, h⟩
  · exact absurd (e.symm.trans c) (by decide)
  rcases h with ⟨c, -⟩ | ⟨-, h⟩
  · exact absurd (e.symm.trans c) (by decide)
  rcases h with ⟨c, -⟩ | ⟨-, h⟩
  · exact absurd (e.symm.trans c) (by decide)
  rcases h with ⟨c, -⟩ | ⟨-, h⟩
  · exact absurd (e.symm.trans c) (by decide)
  rcases h with ⟨-, h⟩ | ⟨c, -⟩
  · exact h
  · exact absurd e c
theorem dO_16 (h : Q_m_obey v N r u) (e : (v.1 71) (v.1 0 112).toNatClampNeg = 16) : ∃ (u140 : MS), (Q_m_others (wA v 0 112 ((v.1 0 112) + (1 : Int32))) ((v.1 71) (v.1 0 112).toNatClampNeg) ((v.1 72) (v.1 0 112).toNatClampNeg) u140) ∧ (K_m_others (wA v 0 112 ((v.1 0 112) + (1 : Int32))) ((v.1 71) (v.1 0 112).toNatClampNeg) ((v.1 72) (v.1 0 112).toNatClampNeg) u140) ∧ r = (-1) ∧ u = u140 := by
  obtain ⟨-, -, -, -, h⟩ := h
  rcases h with ⟨c, -⟩ | ⟨-, h⟩
  · exact absurd (e.symm.trans c) (by decide)
  rcases h with ⟨c, -⟩ | ⟨-, h⟩
  · exact absurd (e.symm.trans c) (by decide)
  rcases h with ⟨c, -⟩ | ⟨-, h⟩
  · exact absurd (e.symm.trans c) (by decide)
  rcases h with ⟨c, -⟩ | ⟨-, h⟩
  · exact absurd (e.symm.trans c) (by decide)
  rcases h with ⟨c, -⟩ | ⟨-, h⟩
  · exact absurd (e.symm.trans c) (by decide)
  rcases h with ⟨c, -⟩ | ⟨-, h⟩
  · exact absurd (e.symm.trans c) (by decide)
  rcases h with ⟨c, -⟩ | ⟨-, h⟩
  · exact absurd (e.symm.trans c) (by decide)
  rcases h with ⟨c, -⟩ | ⟨-, h⟩
  · exact absurd (e.symm.trans c) (by decide)
  rcases h with ⟨c, -⟩ | ⟨-, h⟩
  · exact absurd (e.symm.trans c) (by decide)
  rcases h with ⟨c, -⟩ | ⟨-, h⟩
  · exact absurd (e.symm.trans c) (by decide)
  rcases h with ⟨c, -⟩ | ⟨-, h⟩
  · exact absurd (e.symm.trans c) (by decide)
  rcases h with ⟨c, -⟩ | ⟨-, h⟩
  · exact absurd (e.symm.trans c) (by decide)
  rcases h with ⟨c, -⟩ | ⟨-, h⟩
  · exact absurd (e.symm.trans c) (by decide)
  rcases h with ⟨c, -⟩ | ⟨-, h⟩
  · exact absurd (e.symm.trans c) (by decide)
  rcases h with ⟨c, -⟩ | ⟨-, h⟩
  · exact absurd (e.symm.trans c) (by decide)
  rcases h with ⟨c, -⟩ | ⟨-, h⟩
  · exact absurd (e.symm.trans c) (by decide)
  rcases h with ⟨-, h⟩ | ⟨c, -⟩
  · exact h
  · exact absurd e c
theorem dO_17 (h : Q_m_obey v N r u) (e : (v.1 71) (v.1 0 112).toNatClampNeg = 17) : ∃ (u146 : MS), (Q_m_others (wA v 0 112 ((v.1 0 112) + (1 : Int32))) ((v.1 71) (v.1 0 112).toNatClampNeg) ((v.1 72) (v.1 0 112).toNatClampNeg) u146) ∧ (K_m_others (wA v 0 112 ((v.1 0 112) + (1 : Int32))) ((v.1 71) (v.1 0 112).toNatClampNeg) ((v.1 72) (v.1 0 112).toNatClampNeg) u146) ∧ r = (-1) ∧ u = u146 := by
  obtain ⟨-, -, -, -, h⟩ := h
  rcases h with ⟨c, -⟩ | ⟨-, h⟩
  · exact absurd (e.symm.trans c) (by decide)
  rcases h with ⟨c, -⟩ | ⟨-, h⟩
  · exact absurd (e.symm.trans c) (by decide)
  rcases h with ⟨c, -⟩ | ⟨-, h⟩
  · exact absurd (e.symm.trans c) (by decide)
  rcases h with ⟨c, -⟩ | ⟨-, h⟩
  · exact absurd (e.symm.trans c) (by decide)
  rcases h with ⟨c, -⟩ | ⟨-, h⟩
  · exact absurd (e.symm.trans c) (by decide)
  rcases h with ⟨c, -⟩ | ⟨-, h⟩
  · exact absurd (e.symm.trans c) (by decide)
  rcases h with ⟨c, -⟩ | ⟨-, h⟩
  · exact absurd (e.symm.trans c) (by decide)
  rcases h with ⟨c, -⟩ | ⟨-, h⟩
  · exact absurd (e.symm.trans c) (by decide)
  rcases h with ⟨c, -⟩ | ⟨-, h⟩
  · exact absurd (e.symm.trans c) (by decide)
  rcases h with ⟨c, -⟩ | ⟨-, h⟩
  · exact absurd (e.symm.trans c) (by decide)
  rcases h with ⟨c, -⟩ | ⟨-, h⟩
  · exact absurd (e.symm.trans c) (by decide)
  rcases h with ⟨c, -⟩ | ⟨-, h⟩
  · exact absurd (e.symm.trans c) (by decide)
  rcases h with ⟨c, -⟩ | ⟨-, h⟩
  · exact absurd (e.symm.trans c) (by decide)
  rcases h with ⟨c, -⟩ | ⟨-, h⟩
  · exact absurd (e.symm.trans c) (by decide)
  rcases h with ⟨c, -⟩ | ⟨-, h⟩
  · exact absurd (e.symm.trans c) (by decide)
  rcases h with ⟨c, -⟩ | ⟨-, h⟩
  · exact absurd (e.symm.trans c) (by decide)
  rcases h with ⟨c, -⟩ | ⟨-, h⟩
  · exact absurd (e.symm.trans c) (by decide)
  rcases h with ⟨-, h⟩ | ⟨c, -⟩
  · exact h
  · exact absurd e c
theorem dO_18 (h : Q_m_obey v N r u) (e : (v.1 71) (v.1 0 112).toNatClampNeg = 18) : ∃ (u152 : MS), (Q_m_others (wA v 0 112 ((v.1 0 112) + (1 : Int32))) ((v.1 71) (v.1 0 112).toNatClampNeg) ((v.1 72) (v.1 0 112).toNatClampNeg) u152) ∧ (K_m_others (wA v 0 112 ((v.1 0 112) + (1 : Int32))) ((v.1 71) (v.1 0 112).toNatClampNeg) ((v.1 72) (v.1 0 112).toNatClampNeg) u152) ∧ r = (-1) ∧ u = u152 := by
  obtain ⟨-, -, -, -, h⟩ := h
  rcases h with ⟨c, -⟩ | ⟨-, h⟩
  · exact absurd (e.symm.trans c) (by decide)
  rcases h with ⟨c, -⟩ | ⟨-, h⟩
  · exact absurd (e.symm.trans c) (by decide)
  rcases h with ⟨c, -⟩ | ⟨-, h⟩
  · exact absurd (e.symm.trans c) (by decide)
  rcases h with ⟨c, -⟩ | ⟨-, h⟩
  · exact absurd (e.symm.trans c) (by decide)
  rcases h with ⟨c, -⟩ | ⟨-, h⟩
  · exact absurd (e.symm.trans c) (by decide)
  rcases h with ⟨c, -⟩ | ⟨-, h⟩
  · exact absurd (e.symm.trans c) (by decide)
  rcases h with ⟨c, -⟩ | ⟨-, h⟩
  · exact absurd (e.symm.trans c) (by decide)
  rcases h with ⟨c, -⟩ | ⟨-, h⟩
  · exact absurd (e.symm.trans c) (by decide)
  rcases h with ⟨c, -⟩ | ⟨-, h⟩
  · exact absurd (e.symm.trans c) (by decide)
  rcases h with ⟨c, -⟩ | ⟨-, h⟩
  · exact absurd (e.symm.trans c) (by decide)
  rcases h with ⟨c, -⟩ | ⟨-, h⟩
  · exact absurd (e.symm.trans c) (by decide)
  rcases h with ⟨c, -⟩ | ⟨-, h⟩
  · exact absurd (e.symm.trans c) (by decide)
  rcases h with ⟨c, -⟩ | ⟨-, h⟩
  · exact absurd (e.symm.trans c) (by decide)
  rcases h with ⟨c, -⟩ | ⟨-, h⟩
  · exact absurd (e.symm.trans c) (by decide)
  rcases h with ⟨c, -⟩ | ⟨-, h⟩
  · exact absurd (e.symm.trans c) (by decide)
  rcases h with ⟨c, -⟩ | ⟨-, h⟩
  · exact absurd (e.symm.trans c) (by decide)
  rcases h with ⟨c, -⟩ | ⟨-, h⟩
  · exact absurd (e.symm.trans c) (by decide)
  rcases h with ⟨c, -⟩ | ⟨-, h⟩
  · exact absurd (e.symm.trans c) (by decide)
  rcases h with ⟨-, h⟩ | ⟨c, -⟩
  · exact h
  · exact absurd e c
theorem dO_19 (h : Q_m_obey v N r u) (e : (v.1 71) (v.1 0 112).toNatClampNeg = 19) : ∃ (u158 : MS), (Q_m_others (wA v 0 112 ((v.1 0 112) + (1 : Int32))) ((v.1 71) (v.1 0 112).toNatClampNeg) ((v.1 72) (v.1 0 112).toNatClampNeg) u158) ∧ (K_m_others (wA v 0 112 ((v.1 0 112) + (1 : Int32))) ((v.1 71) (v.1 0 112).toNatClampNeg) ((v.1 72) (v.1 0 112).toNatClampNeg) u158) ∧ r = (-1) ∧ u = u158 := by
  obtain ⟨-, -, -, -, h⟩ := h
  rcases h with ⟨c, -⟩ | ⟨-, h⟩
  · exact absurd (e.symm.trans c) (by decide)
  rcases h with ⟨c, -⟩ | ⟨-, h⟩
  · exact absurd (e.symm.trans c) (by decide)
  rcases h with ⟨c, -⟩ | ⟨-, h⟩
  · exact absurd (e.symm.trans c) (by decide)
  rcases h with ⟨c, -⟩ | ⟨-, h⟩
  · exact absurd (e.symm.trans c) (by decide)
  rcases h with ⟨c, -⟩ | ⟨-, h⟩
  · exact absurd (e.symm.trans c) (by decide)
  rcases h with ⟨c, -⟩ | ⟨-, h⟩
  · exact absurd (e.symm.trans c) (by decide)
  rcases h with ⟨c, -⟩ | ⟨-, h⟩
  · exact absurd (e.symm.trans c) (by decide)
  rcases h with ⟨c, -⟩ | ⟨-, h⟩
  · exact absurd (e.symm.trans c) (by decide)
  rcases h with ⟨c, -⟩ | ⟨-, h⟩
  · exact absurd (e.symm.trans c) (by decide)
  rcases h with ⟨c, -⟩ | ⟨-, h⟩
  · exact absurd (e.symm.trans c) (by decide)
  rcases h with ⟨c, -⟩ | ⟨-, h⟩
  · exact absurd (e.symm.trans c) (by decide)
  rcases h with ⟨c, -⟩ | ⟨-, h⟩
  · exact absurd (e.symm.trans c) (by decide)
  rcases h with ⟨c, -⟩ | ⟨-, h⟩
  · exact absurd (e.symm.trans c) (by decide)
  rcases h with ⟨c, -⟩ | ⟨-, h⟩
  · exact absurd (e.symm.trans c) (by decide)
  rcases h with ⟨c, -⟩ | ⟨-, h⟩
  · exact absurd (e.symm.trans c) (by decide)
  rcases h with ⟨c, -⟩ | ⟨-, h⟩
  · exact absurd (e.symm.trans c) (by decide)
  rcases h with ⟨c, -⟩ | ⟨-, h⟩
  · exact absurd (e.symm.trans c) (by decide)
  rcases h with ⟨c, -⟩ | ⟨-, h⟩
  · exact absurd (e.symm.trans c) (by decide)
  rcases h with ⟨c, -⟩ | ⟨-, h⟩
  · exact absurd (e.symm.trans c) (by decide)
  rcases h with ⟨-, h⟩ | ⟨c, -⟩
  · exact h
  · exact absurd e c
theorem dO_20 (h : Q_m_obey v N r u) (e : (v.1 71) (v.1 0 112).toNatClampNeg = 20) : ∃ (u164 : MS), (Q_m_others (wA v 0 112 ((v.1 0 112) + (1 : Int32))) ((v.1 71) (v.1 0 112).toNatClampNeg) ((v.1 72) (v.1 0 112).toNatClampNeg) u164) ∧ (K_m_others (wA v 0 112 ((v.1 0 112) + (1 : Int32))) ((v.1 71) (v.1 0 112).toNatClampNeg) ((v.1 72) (v.1 0 112).toNatClampNeg) u164) ∧ r = (-1) ∧ u = u164 := by
  obtain ⟨-, -, -, -, h⟩ := h
  rcases h with ⟨c, -⟩ | ⟨-, h⟩
  · exact absurd (e.symm.trans c) (by decide)
  rcases h with ⟨c, -⟩ | ⟨-, h⟩
  · exact absurd (e.symm.trans c) (by decide)
  rcases h with ⟨c, -⟩ | ⟨-, h⟩
  · exact absurd (e.symm.trans c) (by decide)
  rcases h with ⟨c, -⟩ | ⟨-, h⟩
  · exact absurd (e.symm.trans c) (by decide)
  rcases h with ⟨c, -⟩ | ⟨-, h⟩
  · exact absurd (e.symm.trans c) (by decide)
  rcases h with ⟨c, -⟩ | ⟨-, h⟩
  · exact absurd (e.symm.trans c) (by decide)
  rcases h with ⟨c, -⟩ | ⟨-, h⟩
  · exact absurd (e.symm.trans c) (by decide)
  rcases h with ⟨c, -⟩ | ⟨-, h⟩
  · exact absurd (e.symm.trans c) (by decide)
  rcases h with ⟨c, -⟩ | ⟨-, h⟩
  · exact absurd (e.symm.trans c) (by decide)
  rcases h with ⟨c, -⟩ | ⟨-, h⟩
  · exact absurd (e.symm.trans c) (by decide)
  rcases h with ⟨c, -⟩ | ⟨-, h⟩
  · exact absurd (e.symm.trans c) (by decide)
  rcases h with ⟨c, -⟩ | ⟨-, h⟩
  · exact absurd (e.symm.trans c) (by decide)
  rcases h with ⟨c, -⟩ | ⟨-, h⟩
  · exact absurd (e.symm.trans c) (by decide)
  rcases h with ⟨c, -⟩ | ⟨-, h⟩
  · exact absurd (e.symm.trans c) (by decide)
  rcases h with ⟨c, -⟩ | ⟨-, h⟩
  · exact absurd (e.symm.trans c) (by decide)
  rcases h with ⟨c, -⟩ | ⟨-, h⟩
  · exact absurd (e.symm.trans c) (by decide)
  rcases h with ⟨c, -⟩ | ⟨-, h⟩
  · exact absurd (e.symm.trans c) (by decide)
  rcases h with ⟨c, -⟩ | ⟨-, h⟩
  · exact absurd (e.symm.trans c) (by decide)
  rcases h with ⟨c, -⟩ | ⟨-, h⟩
  · exact absurd (e.symm.trans c) (by decide)
  rcases h with ⟨c, -⟩ | ⟨-, h⟩
  · exact absurd (e.symm.trans c) (by decide)
  rcases h with ⟨-, h⟩ | ⟨c, -⟩
  · exact h
  · exact absurd e c
theorem dO_21 (h : Q_m_obey v N r u) (e : (v.1 71) (v.1 0 112).toNatClampNeg = 21) : ∃ (r171 : Int32), ∃ (u170 : MS), (Q_m_operates (wA v 0 112 ((v.1 0 112) + (1 : Int32))) ((v.1 72) (v.1 0 112).toNatClampNeg) r171 u170) ∧ (K_m_operates (wA v 0 112 ((v.1 0 112) + (1 : Int32))) ((v.1 72) (v.1 0 112).toNatClampNeg) r171 u170) ∧ r = r171 ∧ u = u170 := by
  obtain ⟨-, -, -, -, h⟩ := h
  rcases h with ⟨c, -⟩ | ⟨-, h⟩
  · exact absurd (e.symm.trans c) (by decide)
  rcases h with ⟨c, -⟩ | ⟨-, h⟩
  · exact absurd (e.symm.trans c) (by decide)
  rcases h with ⟨c, -⟩ | ⟨-, h⟩
  · exact absurd (e.symm.trans c) (by decide)
  rcases h with ⟨c, -⟩ | ⟨-, h⟩
  · exact absurd (e.symm.trans c) (by decide)
  rcases h with ⟨c, -⟩ | ⟨-, h⟩
  · exact absurd (e.symm.trans c) (by decide)
  rcases h with ⟨c, -⟩ | ⟨-, h⟩
  · exact absurd (e.symm.trans c) (by decide)
  rcases h with ⟨c, -⟩ | ⟨-, h⟩
  · exact absurd (e.symm.trans c) (by decide)
  rcases h with ⟨c, -⟩ | ⟨-, h⟩
  · exact absurd (e.symm.trans c) (by decide)
  rcases h with ⟨c, -⟩ | ⟨-, h⟩
  · exact absurd (e.symm.trans c) (by decide)
  rcases h with ⟨c, -⟩ | ⟨-, h⟩
  · exact absurd (e.symm.trans c) (by decide)
  rcases h with ⟨c, -⟩ | ⟨-, h⟩
  · exact absurd (e.symm.trans c) (by decide)
  rcases h with ⟨c, -⟩ | ⟨-, h⟩
  · exact absurd (e.symm.trans c) (by decide)
  rcases h with ⟨c, -⟩ | ⟨-, h⟩
  · exact absurd (e.symm.trans c) (by decide)
  rcases h with ⟨c, -⟩ | ⟨-, h⟩
  · exact absurd (e.symm.trans c) (by decide)
  rcases h with ⟨c, -⟩ | ⟨-, h⟩
  · exact absurd (e.symm.trans c) (by decide)
  rcases h with ⟨c, -⟩ | ⟨-, h⟩
  · exact absurd (e.symm.trans c) (by decide)
  rcases h with ⟨c, -⟩ | ⟨-, h⟩
  · exact absurd (e.symm.trans c) (by decide)
  rcases h with ⟨c, -⟩ | ⟨-, h⟩
  · exact absurd (e.symm.trans c) (by decide)
  rcases h with ⟨c, -⟩ | ⟨-, h⟩
  · exact absurd (e.symm.trans c) (by decide)
  rcases h with ⟨c, -⟩ | ⟨-, h⟩
  · exact absurd (e.symm.trans c) (by decide)
  rcases h with ⟨c, -⟩ | ⟨-, h⟩
  · exact absurd (e.symm.trans c) (by decide)
  rcases h with ⟨-, h⟩ | ⟨c, -⟩
  · exact h
  · exact absurd e c
theorem dO_22 (h : Q_m_obey v N r u) (e : (v.1 71) (v.1 0 112).toNatClampNeg = 22) : ∃ (u174 : MS), (Q_m_others (wA v 0 112 ((v.1 0 112) + (1 : Int32))) ((v.1 71) (v.1 0 112).toNatClampNeg) ((v.1 72) (v.1 0 112).toNatClampNeg) u174) ∧ (K_m_others (wA v 0 112 ((v.1 0 112) + (1 : Int32))) ((v.1 71) (v.1 0 112).toNatClampNeg) ((v.1 72) (v.1 0 112).toNatClampNeg) u174) ∧ r = (-1) ∧ u = u174 := by
  obtain ⟨-, -, -, -, h⟩ := h
  rcases h with ⟨c, -⟩ | ⟨-, h⟩
  · exact absurd (e.symm.trans c) (by decide)
  rcases h with ⟨c, -⟩ | ⟨-, h⟩
  · exact absurd (e.symm.trans c) (by decide)
  rcases h with ⟨c, -⟩ | ⟨-, h⟩
  · exact absurd (e.symm.trans c) (by decide)
  rcases h with ⟨c, -⟩ | ⟨-, h⟩
  · exact absurd (e.symm.trans c) (by decide)
  rcases h with ⟨c, -⟩ | ⟨-, h⟩
  · exact absurd (e.symm.trans c) (by decide)
  rcases h with ⟨c, -⟩ | ⟨-, h⟩
  · exact absurd (e.symm.trans c) (by decide)
  rcases h with ⟨c, -⟩ | ⟨-, h⟩
  · exact absurd (e.symm.trans c) (by decide)
  rcases h with ⟨c, -⟩ | ⟨-, h⟩
  · exact absurd (e.symm.trans c) (by decide)
  rcases h with ⟨c, -⟩ | ⟨-, h⟩
  · exact absurd (e.symm.trans c) (by decide)
  rcases h with ⟨c, -⟩ | ⟨-, h⟩
  · exact absurd (e.symm.trans c) (by decide)
  rcases h with ⟨c, -⟩ | ⟨-, h⟩
  · exact absurd (e.symm.trans c) (by decide)
  rcases h with ⟨c, -⟩ | ⟨-, h⟩
  · exact absurd (e.symm.trans c) (by decide)
  rcases h with ⟨c, -⟩ | ⟨-, h⟩
  · exact absurd (e.symm.trans c) (by decide)
  rcases h with ⟨c, -⟩ | ⟨-, h⟩
  · exact absurd (e.symm.trans c) (by decide)
  rcases h with ⟨c, -⟩ | ⟨-, h⟩
  · exact absurd (e.symm.trans c) (by decide)
  rcases h with ⟨c, -⟩ | ⟨-, h⟩
  · exact absurd (e.symm.trans c) (by decide)
  rcases h with ⟨c, -⟩ | ⟨-, h⟩
  · exact absurd (e.symm.trans c) (by decide)
  rcases h with ⟨c, -⟩ | ⟨-, h⟩
  · exact absurd (e.symm.trans c) (by decide)
  rcases h with ⟨c, -⟩ | ⟨-, h⟩
  · exact absurd (e.symm.trans c) (by decide)
  rcases h with ⟨c, -⟩ | ⟨-, h⟩
  · exact absurd (e.symm.trans c) (by decide)
  rcases h with ⟨c, -⟩ | ⟨-, h⟩
  · exact absurd (e.symm.trans c) (by decide)
  rcases h with ⟨c, -⟩ | ⟨-, h⟩
  · exact absurd (e.symm.trans c) (by decide)
  exact h
theorem dO_23 (h : Q_m_obey v N r u) (e : (v.1 71) (v.1 0 112).toNatClampNeg = 23) : ∃ (u174 : MS), (Q_m_others (wA v 0 112 ((v.1 0 112) + (1 : Int32))) ((v.1 71) (v.1 0 112).toNatClampNeg) ((v.1 72) (v.1 0 112).toNatClampNeg) u174) ∧ (K_m_others (wA v 0 112 ((v.1 0 112) + (1 : Int32))) ((v.1 71) (v.1 0 112).toNatClampNeg) ((v.1 72) (v.1 0 112).toNatClampNeg) u174) ∧ r = (-1) ∧ u = u174 := by
  obtain ⟨-, -, -, -, h⟩ := h
  rcases h with ⟨c, -⟩ | ⟨-, h⟩
  · exact absurd (e.symm.trans c) (by decide)
  rcases h with ⟨c, -⟩ | ⟨-, h⟩
  · exact absurd (e.symm.trans c) (by decide)
  rcases h with ⟨c, -⟩ | ⟨-, h⟩
  · exact absurd (e.symm.trans c) (by decide)
  rcases h with ⟨c, -⟩ | ⟨-, h⟩
  · exact absurd (e.symm.trans c) (by decide)
  rcases h with ⟨c, -⟩ | ⟨-, h⟩
  · exact absurd (e.symm.trans c) (by decide)
  rcases h with ⟨c, -⟩ | ⟨-, h⟩
  · exact absurd (e.symm.trans c) (by decide)
  rcases h with ⟨c, -⟩ | ⟨-, h⟩
  · exact absurd (e.symm.trans c) (by decide)
  rcases h with ⟨c, -⟩ | ⟨-, h⟩
  · exact absurd (e.symm.trans c) (by decide)
  rcases h with ⟨c, -⟩ | ⟨-, h⟩
  · exact absurd (e.symm.trans c) (by decide)
  rcases h with ⟨c, -⟩ | ⟨-, h⟩
  · exact absurd (e.symm.trans c) (by decide)
  rcases h with ⟨c, -⟩ | ⟨-, h⟩
  · exact absurd (e.symm.trans c) (by decide)
  rcases h with ⟨c, -⟩ | ⟨-, h⟩
  · exact absurd (e.symm.trans c) (by decide)
  rcases h with ⟨c, -⟩ | ⟨-, h⟩
  · exact absurd (e.symm.trans c) (by decide)
  rcases h with ⟨c, -⟩ | ⟨-, h⟩
  · exact absurd (e.symm.trans c) (by decide)
  rcases h with ⟨c, -⟩ | ⟨-, h⟩
  · exact absurd (e.symm.trans c) (by decide)
  rcases h with ⟨c, -⟩ | ⟨-, h⟩
  · exact absurd (e.symm.trans c) (by decide)
  rcases h with ⟨c, -⟩ | ⟨-, h⟩
  · exact absurd (e.symm.trans c) (by decide)
  rcases h with ⟨c, -⟩ | ⟨-, h⟩
  · exact absurd (e.symm.trans c) (by decide)
  rcases h with ⟨c, -⟩ | ⟨-, h⟩
  · exact absurd (e.symm.trans c) (by decide)
  rcases h with ⟨c, -⟩ | ⟨-, h⟩
  · exact absurd (e.symm.trans c) (by decide)
  rcases h with ⟨c, -⟩ | ⟨-, h⟩
  · exact absurd (e.symm.trans c) (by decide)
  rcases h with ⟨c, -⟩ | ⟨-, h⟩
  · exact absurd (e.symm.trans c) (by decide)
  exact h
theorem dO_24 (h : Q_m_obey v N r u) (e : (v.1 71) (v.1 0 112).toNatClampNeg = 24) : ∃ (u174 : MS), (Q_m_others (wA v 0 112 ((v.1 0 112) + (1 : Int32))) ((v.1 71) (v.1 0 112).toNatClampNeg) ((v.1 72) (v.1 0 112).toNatClampNeg) u174) ∧ (K_m_others (wA v 0 112 ((v.1 0 112) + (1 : Int32))) ((v.1 71) (v.1 0 112).toNatClampNeg) ((v.1 72) (v.1 0 112).toNatClampNeg) u174) ∧ r = (-1) ∧ u = u174 := by
  obtain ⟨-, -, -, -, h⟩ := h
  rcases h with ⟨c, -⟩ | ⟨-, h⟩
  · exact absurd (e.symm.trans c) (by decide)
  rcases h with ⟨c, -⟩ | ⟨-, h⟩
  · exact absurd (e.symm.trans c) (by decide)
  rcases h with ⟨c, -⟩ | ⟨-, h⟩
  · exact absurd (e.symm.trans c) (by decide)
  rcases h with ⟨c, -⟩ | ⟨-, h⟩
  · exact absurd (e.symm.trans c) (by decide)
  rcases h with ⟨c, -⟩ | ⟨-, h⟩
  · exact absurd (e.symm.trans c) (by decide)
  rcases h with ⟨c, -⟩ | ⟨-, h⟩
  · exact absurd (e.symm.trans c) (by decide)
  rcases h with ⟨c, -⟩ | ⟨-, h⟩
  · exact absurd (e.symm.trans c) (by decide)
  rcases h with ⟨c, -⟩ | ⟨-, h⟩
  · exact absurd (e.symm.trans c) (by decide)
  rcases h with ⟨c, -⟩ | ⟨-, h⟩
  · exact absurd (e.symm.trans c) (by decide)
  rcases h with ⟨c, -⟩ | ⟨-, h⟩
  · exact absurd (e.symm.trans c) (by decide)
  rcases h with ⟨c, -⟩ | ⟨-, h⟩
  · exact absurd (e.symm.trans c) (by decide)
  rcases h with ⟨c, -⟩ | ⟨-, h⟩
  · exact absurd (e.symm.trans c) (by decide)
  rcases h with ⟨c, -⟩ | ⟨-, h⟩
  · exact absurd (e.symm.trans c) (by decide)
  rcases h with ⟨c, -⟩ | ⟨-, h⟩
  · exact absurd (e.symm.trans c) (by decide)
  rcases h with ⟨c, -⟩ | ⟨-, h⟩
  · exact absurd (e.symm.trans c) (by decide)
  rcases h with ⟨c, -⟩ | ⟨-, h⟩
  · exact absurd (e.symm.trans c) (by decide)
  rcases h with ⟨c, -⟩ | ⟨-, h⟩
  · exact absurd (e.symm.trans c) (by decide)
  rcases h with ⟨c, -⟩ | ⟨-, h⟩
  · exact absurd (e.symm.trans c) (by decide)
  rcases h with ⟨c, -⟩ | ⟨-, h⟩
  · exact absurd (e.symm.trans c) (by decide)
  rcases h with ⟨c, -⟩ | ⟨-, h⟩
  · exact absurd (e.symm.trans c) (by decide)
  rcases h with ⟨c, -⟩ | ⟨-, h⟩
  · exact absurd (e.symm.trans c) (by decide)
  rcases h with ⟨c, -⟩ | ⟨-, h⟩
  · exact absurd (e.symm.trans c) (by decide)
  exact h
theorem dT_16 (h : Q_m_others v pa pb u) (e : pa = 16) : ((((200 : Int) ≤ (v.1 0 119).toInt) ∧ u = (wA (wA v 0 106 ((v.1 0 106) - (1 : Int32))) 0 119 ((v.1 0 119) + (1 : Int32)))) ∨ (((v.1 0 119).toInt < (200 : Int)) ∧ u = (wA (wA (wA v 0 106 ((v.1 0 106) - (1 : Int32))) 118 ((v.1 0 119).toNatClampNeg) ((v.1 105) ((v.1 0 106) - (1 : Int32)).toNatClampNeg)) 0 119 ((v.1 0 119) + (1 : Int32))))) := by
  obtain ⟨-, -, h⟩ := h
  rcases h with ⟨c, -⟩ | ⟨-, h⟩
  · rw [e] at c; exact absurd c (by decide)
  rcases h with ⟨-, h⟩ | ⟨c, -⟩
  · exact h
  · exact absurd e c
theorem dT_18 (h : Q_m_others v pa pb u) (e : pa = 18) : u = (wA (wA (wA v 0 106 ((v.1 0 106) - (1 : Int32))) 105 (((v.1 0 106) - (1 : Int32)).toNatClampNeg) (-((v.1 105) ((v.1 0 106) - (1 : Int32)).toNatClampNeg))) 0 106 (((v.1 0 106) - (1 : Int32)) + (1 : Int32))) := by
  obtain ⟨-, -, h⟩ := h
  rcases h with ⟨c, -⟩ | ⟨-, h⟩
  · rw [e] at c; exact absurd c (by decide)
  rcases h with ⟨c, -⟩ | ⟨-, h⟩
  · exact absurd (e.symm.trans c) (by decide)
  rcases h with ⟨c, -⟩ | ⟨-, h⟩
  · exact absurd (e.symm.trans c) (by decide)
  rcases h with ⟨-, h⟩ | ⟨c, -⟩
  · exact h
  · exact absurd e c
theorem dT_19 (h : Q_m_others v pa pb u) (e : pa = 19) : (((((v.1 105) ((v.1 0 106) - (1 : Int32)).toNatClampNeg).toInt ≠ (0 : Int)) ∧ ∃ (r125 : Int32), (Q_m_less (0 : Int32) r125) ∧ u = (wA (wA (wA v 0 106 ((v.1 0 106) - (1 : Int32))) 105 (((v.1 0 106) - (1 : Int32)).toNatClampNeg) r125) 0 106 (((v.1 0 106) - (1 : Int32)) + (1 : Int32)))) ∨ ((((v.1 105) ((v.1 0 106) - (1 : Int32)).toNatClampNeg).toInt = (0 : Int)) ∧ ∃ (r133 : Int32), (Q_m_less (1 : Int32) r133) ∧ u = (wA (wA (wA v 0 106 ((v.1 0 106) - (1 : Int32))) 105 (((v.1 0 106) - (1 : Int32)).toNatClampNeg) r133) 0 106 (((v.1 0 106) - (1 : Int32)) + (1 : Int32))))) := by
  obtain ⟨-, -, h⟩ := h
  rcases h with ⟨c, -⟩ | ⟨-, h⟩
  · rw [e] at c; exact absurd c (by decide)
  rcases h with ⟨c, -⟩ | ⟨-, h⟩
  · exact absurd (e.symm.trans c) (by decide)
  rcases h with ⟨c, -⟩ | ⟨-, h⟩
  · exact absurd (e.symm.trans c) (by decide)
  rcases h with ⟨c, -⟩ | ⟨-, h⟩
  · exact absurd (e.symm.trans c) (by decide)
  rcases h with ⟨-, h⟩ | ⟨c, -⟩
  · exact h
  · exact absurd e c
theorem dT_20 (h : Q_m_others v pa pb u) (e : pa = 20) : u = (wA (wA (wA v 0 106 ((v.1 0 106) - (1 : Int32))) 105 (((v.1 0 106) - (1 : Int32)).toNatClampNeg) (((v.1 105) ((v.1 0 106) - (1 : Int32)).toNatClampNeg) ^^^ ((-1) : Int32))) 0 106 (((v.1 0 106) - (1 : Int32)) + (1 : Int32))) := by
  obtain ⟨-, -, h⟩ := h
  rcases h with ⟨c, -⟩ | ⟨-, h⟩
  · rw [e] at c; exact absurd c (by decide)
  rcases h with ⟨c, -⟩ | ⟨-, h⟩
  · exact absurd (e.symm.trans c) (by decide)
  rcases h with ⟨c, -⟩ | ⟨-, h⟩
  · exact absurd (e.symm.trans c) (by decide)
  rcases h with ⟨c, -⟩ | ⟨-, h⟩
  · exact absurd (e.symm.trans c) (by decide)
  rcases h with ⟨c, -⟩ | ⟨-, h⟩
  · exact absurd (e.symm.trans c) (by decide)
  rcases h with ⟨-, h⟩ | ⟨c, -⟩
  · exact h
  · exact absurd e c
theorem dT_21 (h : Q_m_others v pa pb u) (e : pa = 21) : (((((v.1 105) ((v.1 0 106) - (1 : Int32)).toNatClampNeg).toInt = (0 : Int)) ∧ ∃ (r152 : Int32), (Q_m_less (0 : Int32) r152) ∧ u = (wA (wA (wA v 0 106 ((v.1 0 106) - (1 : Int32))) 105 (((v.1 0 106) - (1 : Int32)).toNatClampNeg) r152) 0 106 (((v.1 0 106) - (1 : Int32)) + (1 : Int32)))) ∨ ((((v.1 105) ((v.1 0 106) - (1 : Int32)).toNatClampNeg).toInt ≠ (0 : Int)) ∧ ∃ (r160 : Int32), (Q_m_less (1 : Int32) r160) ∧ u = (wA (wA (wA v 0 106 ((v.1 0 106) - (1 : Int32))) 105 (((v.1 0 106) - (1 : Int32)).toNatClampNeg) r160) 0 106 (((v.1 0 106) - (1 : Int32)) + (1 : Int32))))) := by
  obtain ⟨-, -, h⟩ := h
  rcases h with ⟨c, -⟩ | ⟨-, h⟩
  · rw [e] at c; exact absurd c (by decide)
  rcases h with ⟨c, -⟩ | ⟨-, h⟩
  · exact absurd (e.symm.trans c) (by decide)
  rcases h with ⟨c, -⟩ | ⟨-, h⟩
  · exact absurd (e.symm.trans c) (by decide)
  rcases h with ⟨c, -⟩ | ⟨-, h⟩
  · exact absurd (e.symm.trans c) (by decide)
  rcases h with ⟨c, -⟩ | ⟨-, h⟩
  · exact absurd (e.symm.trans c) (by decide)
  rcases h with ⟨c, -⟩ | ⟨-, h⟩
  · exact absurd (e.symm.trans c) (by decide)
  rcases h with ⟨-, h⟩ | ⟨c, -⟩
  · exact h
  · exact absurd e c
theorem dT_22 (h : Q_m_others v pa pb u) (e : pa = 22) : (((((v.1 105) ((v.1 0 106) - (1 : Int32)).toNatClampNeg).toInt ≠ (0 : Int)) ∧ (((v.1 105) ((v.1 0 106) - (1 : Int32)).toNatClampNeg).toInt ≠ (0 : Int)) ∧ u = (wA (wA v 0 106 ((v.1 0 106) - (1 : Int32))) 0 112 (v.1 0 112))) ∨ ((((v.1 105) ((v.1 0 106) - (1 : Int32)).toNatClampNeg).toInt = (0 : Int)) ∧ (((v.1 105) ((v.1 0 106) - (1 : Int32)).toNatClampNeg).toInt = (0 : Int)) ∧ u = (wA (wA (wA (wA v 0 106 ((v.1 0 106) - (1 : Int32))) 105 (((v.1 0 106) - (1 : Int32)).toNatClampNeg) (0 : Int32)) 0 106 (((v.1 0 106) - (1 : Int32)) + (1 : Int32))) 0 112 pb))) := by
  obtain ⟨-, -, h⟩ := h
  rcases h with ⟨c, -⟩ | ⟨-, h⟩
  · rw [e] at c; exact absurd c (by decide)
  rcases h with ⟨c, -⟩ | ⟨-, h⟩
  · exact absurd (e.symm.trans c) (by decide)
  rcases h with ⟨c, -⟩ | ⟨-, h⟩
  · exact absurd (e.symm.trans c) (by decide)
  rcases h with ⟨c, -⟩ | ⟨-, h⟩
  · exact absurd (e.symm.trans c) (by decide)
  rcases h with ⟨c, -⟩ | ⟨-, h⟩
  · exact absurd (e.symm.trans c) (by decide)
  rcases h with ⟨c, -⟩ | ⟨-, h⟩
  · exact absurd (e.symm.trans c) (by decide)
  rcases h with ⟨c, -⟩ | ⟨-, h⟩
  · exact absurd (e.symm.trans c) (by decide)
  rcases h with ⟨-, h⟩ | ⟨c, -⟩
  · exact h
  · exact absurd e c
theorem dT_23 (h : Q_m_others v pa pb u) (e : pa = 23) : (((((v.1 105) ((v.1 0 106) - (1 : Int32)).toNatClampNeg).toInt = (0 : Int)) ∧ (((v.1 105) ((v.1 0 106) - (1 : Int32)).toNatClampNeg).toInt = (0 : Int)) ∧ u = (wA (wA v 0 106 ((v.1 0 106) - (1 : Int32))) 0 112 (v.1 0 112))) ∨ ((((v.1 105) ((v.1 0 106) - (1 : Int32)).toNatClampNeg).toInt ≠ (0 : Int)) ∧ (((v.1 105) ((v.1 0 106) - (1 : Int32)).toNatClampNeg).toInt ≠ (0 : Int)) ∧ u = (wA (wA (wA (wA v 0 106 ((v.1 0 106) - (1 : Int32))) 105 (((v.1 0 106) - (1 : Int32)).toNatClampNeg) (1 : Int32)) 0 106 (((v.1 0 106) - (1 : Int32)) + (1 : Int32))) 0 112 pb))) := by
  obtain ⟨-, -, h⟩ := h
  rcases h with ⟨c, -⟩ | ⟨-, h⟩
  · rw [e] at c; exact absurd c (by decide)
  rcases h with ⟨c, -⟩ | ⟨-, h⟩
  · exact absurd (e.symm.trans c) (by decide)
  rcases h with ⟨c, -⟩ | ⟨-, h⟩
  · exact absurd (e.symm.trans c) (by decide)
  rcases h with ⟨c, -⟩ | ⟨-, h⟩
  · exact absurd (e.symm.trans c) (by decide)
  rcases h with ⟨c, -⟩ | ⟨-, h⟩
  · exact absurd (e.symm.trans c) (by decide)
  rcases h with ⟨c, -⟩ | ⟨-, h⟩
  · exact absurd (e.symm.trans c) (by decide)
  rcases h with ⟨c, -⟩ | ⟨-, h⟩
  · exact absurd (e.symm.trans c) (by decide)
  rcases h with ⟨c, -⟩ | ⟨-, h⟩
  · exact absurd (e.symm.trans c) (by decide)
  rcases h with ⟨-, h⟩ | ⟨c, -⟩
  · exact h
  · exact absurd e c
theorem dT_24 (h : Q_m_others v pa pb u) (e : pa = 24) : (((((v.1 105) ((v.1 0 106) - (1 : Int32)).toNatClampNeg).toInt = (0 : Int)) ∧ ∃ (r202 : Int32), (Q_m_less (0 : Int32) r202) ∧ u = (wA (wA (wA v 0 106 ((v.1 0 106) - (1 : Int32))) 105 (((v.1 0 106) - (1 : Int32)).toNatClampNeg) r202) 0 106 (((v.1 0 106) - (1 : Int32)) + (1 : Int32)))) ∨ ((((v.1 105) ((v.1 0 106) - (1 : Int32)).toNatClampNeg).toInt ≠ (0 : Int)) ∧ ∃ (r210 : Int32), (Q_m_less (1 : Int32) r210) ∧ u = (wA (wA (wA v 0 106 ((v.1 0 106) - (1 : Int32))) 105 (((v.1 0 106) - (1 : Int32)).toNatClampNeg) r210) 0 106 (((v.1 0 106) - (1 : Int32)) + (1 : Int32))))) := by
  obtain ⟨-, -, h⟩ := h
  rcases h with ⟨c, -⟩ | ⟨-, h⟩
  · rw [e] at c; exact absurd c (by decide)
  rcases h with ⟨c, -⟩ | ⟨-, h⟩
  · exact absurd (e.symm.trans c) (by decide)
  rcases h with ⟨c, -⟩ | ⟨-, h⟩
  · exact absurd (e.symm.trans c) (by decide)
  rcases h with ⟨c, -⟩ | ⟨-, h⟩
  · exact absurd (e.symm.trans c) (by decide)
  rcases h with ⟨c, -⟩ | ⟨-, h⟩
  · exact absurd (e.symm.trans c) (by decide)
  rcases h with ⟨c, -⟩ | ⟨-, h⟩
  · exact absurd (e.symm.trans c) (by decide)
  rcases h with ⟨c, -⟩ | ⟨-, h⟩
  · exact absurd (e.symm.trans c) (by decide)
  rcases h with ⟨c, -⟩ | ⟨-, h⟩
  · exact absurd (e.symm.trans c) (by decide)
  rcases h with ⟨c, -⟩ | ⟨-, h⟩
  · exact absurd (e.symm.trans c) (by decide)
  exact h
theorem dT_17 (h : Q_m_others v pa pb u) (e : pa = 17) : ((((v.1 0 94).toInt ≤ (v.1 0 120).toInt) ∧ u = (wA (wA (wA v 105 ((v.1 0 106).toNatClampNeg) (0 : Int32)) 0 106 ((v.1 0 106) + (1 : Int32))) 0 120 ((v.1 0 120) + (1 : Int32)))) ∨ (((v.1 0 120).toInt < (v.1 0 94).toInt) ∧ u = (wA (wA (wA v 105 ((v.1 0 106).toNatClampNeg) ((v.1 93) (v.1 0 120).toNatClampNeg)) 0 106 ((v.1 0 106) + (1 : Int32))) 0 120 ((v.1 0 120) + (1 : Int32))))) := by
  obtain ⟨-, -, h⟩ := h
  rcases h with ⟨-, -, h⟩ | ⟨c, -⟩
  rotate_left
  · rw [e] at c; exact absurd (by decide) c
  rcases h with ⟨-, h⟩ | ⟨c, -⟩
  · exact h
  · exact absurd e c
end YBI
