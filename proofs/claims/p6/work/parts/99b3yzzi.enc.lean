/-! words of the reference are words of the class -/
section ZWI
variable {pa pb pc1 pd pe r f : Int32}
theorem i32_olc (a b c : Int32) : a ||| (b ||| c) = b ||| (a ||| c) := by
  rw [← Int32.or_assoc, Int32.or_comm a b, Int32.or_assoc]
theorem or4 (a b c d e : Int32) : ((((e ||| d) ||| b) ||| c) ||| a) = ((((a ||| b) ||| c) ||| d) ||| e) := by
  simp only [Int32.or_assoc, Int32.or_comm, i32_olc]
/-- a number in the upper bits: what lies above falls off -/
theorem sl31 (x : BitVec 32) : (x &&& 1#32) <<< 31 = x <<< 31 := by
  ext i hi
  rw [BitVec.getElem_shiftLeft, BitVec.getElem_shiftLeft]
  by_cases h : i < 31
  · simp [h]
  · have : i = 31 := by omega
    subst this
    simp
theorem sl25 (x : BitVec 32) : (x &&& 127#32) <<< 25 = x <<< 25 := by
  ext i hi
  rw [BitVec.getElem_shiftLeft, BitVec.getElem_shiftLeft]
  by_cases h : i < 25
  · simp [h]
  · have : i = 25 ∨ i = 26 ∨ i = 27 ∨ i = 28 ∨ i = 29 ∨ i = 30 ∨ i = 31 := by omega
    rcases this with rfl | rfl | rfl | rfl | rfl | rfl | rfl <;> simp
theorem sl31i (x : Int32) : (x &&& (1 : Int32)) <<< ((31 : Int32) &&& 31) = x <<< ((31 : Int32) &&& 31) := by
  apply Int32.toBitVec_inj.mp
  rw [Int32.toBitVec_shiftLeft, Int32.toBitVec_shiftLeft, Int32.toBitVec_and]
  exact sl31 x.toBitVec
theorem sl25i (x : Int32) : (x &&& (127 : Int32)) <<< ((25 : Int32) &&& 31) = x <<< ((25 : Int32) &&& 31) := by
  apply Int32.toBitVec_inj.mp
  rw [Int32.toBitVec_shiftLeft, Int32.toBitVec_shiftLeft, Int32.toBitVec_and]
  exact sl25 x.toBitVec
theorem eI (h : Q_m_byI pa pb pc1 pd pe r) (hf : f = pa ||| (pb <<< ((12 : Int32) &&& 31))) : r = iW f pc1 pd pe := by
  have h : r = (((((pe <<< ((20 : Int32) &&& 31)) ||| (pd <<< ((15 : Int32) &&& 31))) ||| (pb <<< ((12 : Int32) &&& 31))) ||| (pc1 <<< ((7 : Int32) &&& 31))) ||| pa) := h
  rw [h, hf]
  unfold iW
  exact or4 _ _ _ _ _
theorem eR (h : Q_m_byR pa pb pc1 pd pe r) (hf : f = (51 ||| (pb <<< ((12 : Int32) &&& 31))) ||| (pa <<< ((25 : Int32) &&& 31))) : r = iW f pc1 pd pe := by
  have h : r = ((((((pa <<< ((25 : Int32) &&& 31)) ||| (pe <<< ((20 : Int32) &&& 31))) ||| (pd <<< ((15 : Int32) &&& 31))) ||| (pb <<< ((12 : Int32) &&& 31))) ||| (pc1 <<< ((7 : Int32) &&& 31))) ||| (51 : Int32)) := h
  rw [h, hf]
  unfold iW
  generalize pa <<< ((25 : Int32) &&& 31) = a
  generalize pb <<< ((12 : Int32) &&& 31) = b
  generalize pc1 <<< ((7 : Int32) &&& 31) = c
  generalize pd <<< ((15 : Int32) &&& 31) = d
  generalize pe <<< ((20 : Int32) &&& 31) = e
  generalize (51 : Int32) = g
  simp only [Int32.or_assoc, Int32.or_comm, i32_olc]
theorem eB (h : Q_m_byB pa pb pc1 pd r) (hf : f = 99 ||| (pa <<< ((12 : Int32) &&& 31))) : r = bW f pb pc1 pd := by
  have h : r = ((((((((((pd >>> ((12 : Int32) &&& 31)) &&& (1 : Int32)) <<< ((31 : Int32) &&& 31)) ||| (((pd >>> ((5 : Int32) &&& 31)) &&& (63 : Int32)) <<< ((25 : Int32) &&& 31))) ||| (pc1 <<< ((20 : Int32) &&& 31))) ||| (pb <<< ((15 : Int32) &&& 31))) ||| (pa <<< ((12 : Int32) &&& 31))) ||| (((pd >>> ((1 : Int32) &&& 31)) &&& (15 : Int32)) <<< ((8 : Int32) &&& 31))) ||| (((pd >>> ((11 : Int32) &&& 31)) &&& (1 : Int32)) <<< ((7 : Int32) &&& 31))) ||| (99 : Int32)) := h
  rw [h, hf, sl31i]
  unfold bW
  generalize (pd >>> ((12 : Int32) &&& 31)) <<< ((31 : Int32) &&& 31) = a
  generalize ((pd >>> ((5 : Int32) &&& 31)) &&& (63 : Int32)) <<< ((25 : Int32) &&& 31) = b
  generalize ((pd >>> ((1 : Int32) &&& 31)) &&& (15 : Int32)) <<< ((8 : Int32) &&& 31) = c
  generalize ((pd >>> ((11 : Int32) &&& 31)) &&& (1 : Int32)) <<< ((7 : Int32) &&& 31) = d
  generalize pc1 <<< ((20 : Int32) &&& 31) = e
  generalize pb <<< ((15 : Int32) &&& 31) = g
  generalize pa <<< ((12 : Int32) &&& 31) = i
  generalize (99 : Int32) = j
  simp only [Int32.or_assoc, Int32.or_comm, i32_olc]
theorem eJ (h : Q_m_byJ pa pb r) : r = jW pa pb := by
  have h : r = ((((((((pb >>> ((20 : Int32) &&& 31)) &&& (1 : Int32)) <<< ((31 : Int32) &&& 31)) ||| (((pb >>> ((1 : Int32) &&& 31)) &&& (1023 : Int32)) <<< ((21 : Int32) &&& 31))) ||| (((pb >>> ((11 : Int32) &&& 31)) &&& (1 : Int32)) <<< ((20 : Int32) &&& 31))) ||| (((pb >>> ((12 : Int32) &&& 31)) &&& (255 : Int32)) <<< ((12 : Int32) &&& 31))) ||| (pa <<< ((7 : Int32) &&& 31))) ||| (111 : Int32)) := h
  rw [h, sl31i]
  unfold jW
  generalize (pb >>> ((20 : Int32) &&& 31)) <<< ((31 : Int32) &&& 31) = a
  generalize ((pb >>> ((1 : Int32) &&& 31)) &&& (1023 : Int32)) <<< ((21 : Int32) &&& 31) = b
  generalize ((pb >>> ((11 : Int32) &&& 31)) &&& (1 : Int32)) <<< ((20 : Int32) &&& 31) = c
  generalize ((pb >>> ((12 : Int32) &&& 31)) &&& (255 : Int32)) <<< ((12 : Int32) &&& 31) = d
  generalize pa <<< ((7 : Int32) &&& 31) = e
  generalize (111 : Int32) = g
  simp only [Int32.or_assoc, Int32.or_comm, i32_olc]
theorem eHi (h : Q_m_hi pa r) : r = hiW pa := h
theorem eLo (h : Q_m_lo pa r) : r = loW pa := by
  obtain ⟨r3, h3, e⟩ := h
  rw [e, eHi h3]
  rfl
theorem eAddi (h : Q_m_addi pa pb pc1 r) : r = iW 19 pa pb pc1 := by
  obtain ⟨r3, h3, e⟩ := h
  rw [e]
  exact eI h3 (by decide)
theorem eLw (h : Q_m_lw pa pb pc1 r) : r = iW 8195 pa pc1 pb := by
  obtain ⟨r3, h3, e⟩ := h
  rw [e]
  exact eI h3 (by decide)
theorem eLui (h : Q_m_lui pa pb r) {n : Int32} (e : pb = hiW n) : r = uW pa n := by
  have h : r = (((pb <<< ((12 : Int32) &&& 31)) ||| (pa <<< ((7 : Int32) &&& 31))) ||| (55 : Int32)) := h
  rw [h, e]
  unfold uW
  generalize hiW n <<< ((12 : Int32) &&& 31) = a
  generalize pa <<< ((7 : Int32) &&& 31) = b
  generalize (55 : Int32) = c
  simp only [Int32.or_assoc, Int32.or_comm, i32_olc]
theorem eSw (h : Q_m_sw pa pb pc1 r) : r = sW pa pb pc1 := by
  have h : r = ((((((((pb >>> ((5 : Int32) &&& 31)) &&& (127 : Int32)) <<< ((25 : Int32) &&& 31)) ||| (pa <<< ((20 : Int32) &&& 31))) ||| (pc1 <<< ((15 : Int32) &&& 31))) ||| (8192 : Int32)) ||| ((pb &&& (31 : Int32)) <<< ((7 : Int32) &&& 31))) ||| (35 : Int32)) := h
  have e : (8227 : Int32) = 8192 ||| 35 := by decide
  rw [h, sl25i]
  unfold sW
  rw [e]
  generalize (pb >>> ((5 : Int32) &&& 31)) <<< ((25 : Int32) &&& 31) = a
  generalize (pb &&& (31 : Int32)) <<< ((7 : Int32) &&& 31) = b
  generalize pa <<< ((20 : Int32) &&& 31) = c
  generalize pc1 <<< ((15 : Int32) &&& 31) = d
  generalize (8192 : Int32) = i
  generalize (35 : Int32) = j
  simp only [Int32.or_assoc, Int32.or_comm, i32_olc]
theorem eSlot (h : Q_m_slotAt pa r) : r = fW pa := h
end ZWI
