/-! the reference: operators one after the other, expressions -/
section MEX
variable {g : GM} {n : Int} {K : TK} {e : PE} {v u w x S : MS} {t st : Bool} {r pa pb na by9 : Int32} {c o : RM1} {c1 c2 : RM2} {c3 : RM3} {E : FE} {O : FO} {f : Nat} {m : Int}
/-- a round's deed -/
def JRnd (c3 : RM3) (w : MS) (by9 : Int32) (y : Int32 × MS) : Prop := ((3 : Int) ≤ by9.toInt ∧ ∃ r19 u18, Q_m_slots w 1 r19 u18 ∧ K_m_slots w 1 r19 u18 ∧ ∃ u22, Q_m_remember u18 ((w.2 (w.1 0 47).toNatClampNeg).toInt32) u22 ∧ K_m_remember u18 ((w.2 (w.1 0 47).toNatClampNeg).toInt32) u22 ∧ Q_m_take u22 false (wA u22 0 47 ((u22.1 0 47) + (1 : Int32))) ∧ K_m_take u22 (wA u22 0 47 ((u22.1 0 47) + (1 : Int32))) ∧ ∃ r33, Q_m_slotAt r19 r33 ∧ ∃ r36, Q_m_sw 10 r33 8 r36 ∧ ∃ u65, c3 (wA (wA (wA (wA u22 0 47 ((u22.1 0 47) + (1 : Int32))) 11 ((u22.1 0 12).toNatClampNeg) r36) 0 12 ((u22.1 0 12) + (1 : Int32))) 0 32 ((u22.1 0 32) + (1 : Int32))) (by9 + (1 : Int32)) 0 false u65 ∧ K_m_joined (wA (wA (wA (wA u22 0 47 ((u22.1 0 47) + (1 : Int32))) 11 ((u22.1 0 12).toNatClampNeg) r36) 0 12 ((u22.1 0 12) + (1 : Int32))) 0 32 ((u22.1 0 32) + (1 : Int32))) (by9 + (1 : Int32)) 0 u65 ∧ ∃ r74, Q_m_slotAt r19 r74 ∧ ∃ r77, Q_m_lw 5 r74 8 r77 ∧ ∃ u83, Q_m_operate (wA (wA (wA u65 0 32 ((u65.1 0 32) - (1 : Int32))) 11 ((u65.1 0 12).toNatClampNeg) r77) 0 12 ((u65.1 0 12) + (1 : Int32))) ((w.2 (w.1 0 47).toNatClampNeg).toInt32) u83 ∧ K_m_operate (wA (wA (wA u65 0 32 ((u65.1 0 32) - (1 : Int32))) 11 ((u65.1 0 12).toNatClampNeg) r77) 0 12 ((u65.1 0 12) + (1 : Int32))) ((w.2 (w.1 0 47).toNatClampNeg).toInt32) u83 ∧ ∃ r93, Q_m_strength u83 r93 ∧ K_m_strength u83 r93 ∧ y = (r93, u83)) ∨ (by9.toInt < (3 : Int) ∧ Q_m_take w false (wA w 0 47 ((w.1 0 47) + (1 : Int32))) ∧ K_m_take w (wA w 0 47 ((w.1 0 47) + (1 : Int32))) ∧ ((by9.toInt ≠ (1 : Int) ∧ ∃ u110, Q_m_both c3 (wA w 0 47 ((w.1 0 47) + (1 : Int32))) 0 (by9 + (1 : Int32)) false u110 ∧ K_m_both (wA w 0 47 ((w.1 0 47) + (1 : Int32))) 0 (by9 + (1 : Int32)) u110 ∧ ∃ r116, Q_m_strength u110 r116 ∧ K_m_strength u110 r116 ∧ y = (r116, u110)) ∨ (by9.toInt = (1 : Int) ∧ ∃ u124, Q_m_both c3 (wA w 0 47 ((w.1 0 47) + (1 : Int32))) 1 (by9 + (1 : Int32)) false u124 ∧ K_m_both (wA w 0 47 ((w.1 0 47) + (1 : Int32))) 1 (by9 + (1 : Int32)) u124 ∧ ∃ r130, Q_m_strength u124 r130 ∧ K_m_strength u124 r130 ∧ y = (r130, u124))))
def JErr (c3 : RM3) (w : MS) (by9 : Int32) (t : Bool) (u : MS) : Prop := ((3 : Int) ≤ by9.toInt ∧ ∃ r19 u18, Q_m_slots w 1 r19 u18 ∧ K_m_slots w 1 r19 u18 ∧ ∃ u22, Q_m_remember u18 ((w.2 (w.1 0 47).toNatClampNeg).toInt32) u22 ∧ K_m_remember u18 ((w.2 (w.1 0 47).toNatClampNeg).toInt32) u22 ∧ ((∃ u9, Q_m_take u22 true u9 ∧ t = true ∧ u = u9) ∨ (Q_m_take u22 false (wA u22 0 47 ((u22.1 0 47) + (1 : Int32))) ∧ K_m_take u22 (wA u22 0 47 ((u22.1 0 47) + (1 : Int32))) ∧ ∃ r33, Q_m_slotAt r19 r33 ∧ ∃ r36, Q_m_sw 10 r33 8 r36 ∧ ∃ u9, c3 (wA (wA (wA (wA u22 0 47 ((u22.1 0 47) + (1 : Int32))) 11 ((u22.1 0 12).toNatClampNeg) r36) 0 12 ((u22.1 0 12) + (1 : Int32))) 0 32 ((u22.1 0 32) + (1 : Int32))) (by9 + (1 : Int32)) 0 true u9 ∧ t = true ∧ u = u9))) ∨ (by9.toInt < (3 : Int) ∧ ((∃ u9, Q_m_take w true u9 ∧ t = true ∧ u = u9) ∨ (Q_m_take w false (wA w 0 47 ((w.1 0 47) + (1 : Int32))) ∧ K_m_take w (wA w 0 47 ((w.1 0 47) + (1 : Int32))) ∧ ((by9.toInt ≠ (1 : Int) ∧ ∃ u9, Q_m_both c3 (wA w 0 47 ((w.1 0 47) + (1 : Int32))) 0 (by9 + (1 : Int32)) true u9 ∧ t = true ∧ u = u9) ∨ (by9.toInt = (1 : Int) ∧ ∃ u9, Q_m_both c3 (wA w 0 47 ((w.1 0 47) + (1 : Int32))) 1 (by9 + (1 : Int32)) true u9 ∧ t = true ∧ u = u9)))))
theorem s_12 {z : Int32 × Int32} (hz : z ∈ SC) (hb : by9 = stg z.2) (h0 : 0 < by9.toInt) (h3 : by9.toInt < 3) : (by9.toInt ≠ 1 → z.2 = 69) ∧ (by9.toInt = 1 → z.2 = 70) := by
  have ss := stg_SC z hz
  refine ⟨fun q => ss.2.1.mp ?_, fun q => ss.1.mp ?_⟩
  · rw [← hb]
    exact Int32.toInt_inj.mp (show by9.toInt = (2 : Int32).toInt by have : (2 : Int32).toInt = 2 := (by decide); omega)
  · rw [← hb]
    exact Int32.toInt_inj.mp (q.trans (by decide))
set_option maxHeartbeats 800000 in
theorem jRound {y : Int32 × MS} (hJ : HMJ n K c3 O) (hs : Q_m_strength w by9) (J : JM n K e w) (og : OGM g w) (l5 : (w.1 0 47).toInt ≤ 1500) (h0 : 0 < by9.toInt) (hf : (1501 : Int) ≤ f + (w.1 0 47).toInt + 1) (h : JRnd c3 w by9 y) : OKR g n K e (tOp O f e) w false y.2 ∧ Q_m_strength y.2 y.1 ∧ (w.1 0 47).toInt + 1 ≤ (y.2.1 0 47).toInt := by
  obtain ⟨z, hz, hv, hkd, hb⟩ := sg_of (g := g) hs J h0
  have z0 := J.2.2.2.1.2.1
  have at4 : ((w.1 0 47) + (1 : Int32)).toInt = (w.1 0 47).toInt + 1 := add_z rfl (by decide) (by omega) (by omega)
  rcases h with ⟨h3, r19, u18, h1, k1, u22, h2, k2, h4, -, r33, -, r36, -, u65, h5, k5, r74, -, r77, -, u83, h6, k6, r93, h7, -, rfl⟩ | ⟨h3, h1, -, h⟩
  · refine ⟨jBin hJ J og hz hv hkd (by rw [← hb]; exact h3) hb hf l5 h1 k1 h2 k2 (Or.inr ⟨h4, r36, Or.inr ⟨u65, h5, k5, r77, h6, rfl⟩⟩), h7, ?_⟩
    have p22 : u22.1 0 47 = w.1 0 47 := (k2.2.1 47 (by decide)).trans (k1.1.2.1 47 (by decide))
    have q1 : (((u22.1 0 47) + (1 : Int32))).toInt + 0 ≤ (u65.1 0 47).toInt := k5.2.1.1
    have q2 : u83.1 0 47 = u65.1 0 47 := (k6.1.2.1 47 (by decide)).trans rfl
    show (w.1 0 47).toInt + 1 ≤ (u83.1 0 47).toInt
    rw [q2]
    rw [p22] at q1
    omega
  · have s := s_12 hz hb h0 h3
    rcases h with ⟨c1, u110, h2, k2, r116, h7, -, rfl⟩ | ⟨c1, u124, h2, k2, r130, h7, -, rfl⟩
    · refine ⟨jAnd hJ J og hz hkd (Or.inl ⟨rfl, s.1 c1⟩) hb hf l5 (Or.inr ⟨h1, h2⟩), h7, ?_⟩
      have q1 : (((w.1 0 47) + (1 : Int32))).toInt + 1 ≤ (u110.1 0 47).toInt := k2.2.1.1
      show (w.1 0 47).toInt + 1 ≤ (u110.1 0 47).toInt
      omega
    · refine ⟨jAnd hJ J og hz hkd (Or.inr ⟨rfl, s.2 c1⟩) hb hf l5 (Or.inr ⟨h1, h2⟩), h7, ?_⟩
      have q1 : (((w.1 0 47) + (1 : Int32))).toInt + 1 ≤ (u124.1 0 47).toInt := k2.2.1.1
      show (w.1 0 47).toInt + 1 ≤ (u124.1 0 47).toInt
      omega
set_option maxHeartbeats 800000 in
theorem jErr (hJ : HMJ n K c3 O) (hs : Q_m_strength w by9) (J : JM n K e w) (og : OGM g w) (l5 : (w.1 0 47).toInt ≤ 1500) (h0 : 0 < by9.toInt) (hf : (1501 : Int) ≤ f + (w.1 0 47).toInt + 1) (h : JErr c3 w by9 t u) : t = true ∧ tOp O f e (aR g K w) = .error (u.1 0 50, u.1 0 51) := by
  obtain ⟨z, hz, hv, hkd, hb⟩ := sg_of (g := g) hs J h0
  rcases h with ⟨h3, r19, u18, h1, k1, u22, h2, k2, h⟩ | ⟨h3, h⟩
  · rcases h with ⟨u9, h4, rfl, rfl⟩ | ⟨h4, -, r33, -, r36, -, u9, h5, rfl, rfl⟩
    · exact ⟨rfl, (jBin hJ J og hz hv hkd (by rw [← hb]; exact h3) hb hf l5 h1 k1 h2 k2 (Or.inl ⟨u, h4, rfl, rfl⟩)).er⟩
    · exact ⟨rfl, (jBin hJ J og hz hv hkd (by rw [← hb]; exact h3) hb hf l5 h1 k1 h2 k2 (Or.inr ⟨h4, r36, Or.inl ⟨u, h5, rfl, rfl⟩⟩)).er⟩
  · have s := s_12 hz hb h0 h3
    rcases h with ⟨u9, h4, rfl, rfl⟩ | ⟨h4, -, ⟨c1, u9, h5, rfl, rfl⟩ | ⟨c1, u9, h5, rfl, rfl⟩⟩
    · by_cases q : by9.toInt = 1
      · exact ⟨rfl, (jAnd (p := 1) hJ J og hz hkd (Or.inr ⟨rfl, s.2 q⟩) hb hf l5 (Or.inl ⟨u, h4, rfl, rfl⟩)).er⟩
      · exact ⟨rfl, (jAnd (p := 0) hJ J og hz hkd (Or.inl ⟨rfl, s.1 q⟩) hb hf l5 (Or.inl ⟨u, h4, rfl, rfl⟩)).er⟩
    · exact ⟨rfl, (jAnd hJ J og hz hkd (Or.inl ⟨rfl, s.1 c1⟩) hb hf l5 (Or.inr ⟨h4, h5⟩)).er⟩
    · exact ⟨rfl, (jAnd hJ J og hz hkd (Or.inr ⟨rfl, s.2 c1⟩) hb hf l5 (Or.inr ⟨h4, h5⟩)).er⟩
/-- the loop, from a state on -/
def JI (n : Int) (K : TK) (e : PE) (g : GM) (O : FO) (m : Int) (X : PX PS) (y : Int32 × MS) : Prop := JM n K e y.2 ∧ Q_m_strength y.2 y.1 ∧ ∃ f : Nat, X = tJ O f m e (aR g K y.2) ∧ (1501 : Int) ≤ f + (y.2.1 0 47).toInt
theorem jStep {X : PX PS} {a y : Int32 × MS} (hJ : HMJ n K c3 O) (I : JI n K e g O m X a) (og : OGM g a.2) (l5 : (a.2.1 0 47).toInt ≤ 1500) (hm : m ≤ a.1.toInt) (h0 : 0 < a.1.toInt) (h : JRnd c3 a.2 a.1 y) : JI n K e g O m X y := by
  obtain ⟨J, hs, f, hX, hf⟩ := I
  obtain ⟨f0, rfl⟩ : ∃ f0, f = f0 + 1 := ⟨f - 1, by omega⟩
  have es := rStr (g := g) hs J
  obtain ⟨R, q1, q2⟩ := jRound (f := f0) hJ hs J og l5 h0 (by omega) h
  refine ⟨R.jj, q1, f0, ?_, by omega⟩
  rw [hX, tJ_op (by rw [← es]; omega), R.eo, bd_ok]
theorem jEnd {X : PX PS} (hJ : HMJ n K c3 O) (I : JI n K e g O m X (by9, w)) (og : OGM g w) (l5 : (w.1 0 47).toInt ≤ 1500) (h : (by9.toInt < m ∧ t = false ∧ u = w) ∨ (m ≤ by9.toInt ∧ 0 < by9.toInt ∧ JErr c3 w by9 t u)) : (t = false ∧ X = .ok (aR g K u) ∧ JM n K e u) ∨ (t = true ∧ X = .error (u.1 0 50, u.1 0 51)) := by
  obtain ⟨J, hs, f, hX, hf⟩ := I
  have J : JM n K e w := J
  have hs : Q_m_strength w by9 := hs
  have hX : X = tJ O f m e (aR g K w) := hX
  have hf : (1501 : Int) ≤ f + (w.1 0 47).toInt := hf
  obtain ⟨f0, rfl⟩ : ∃ f0, f = f0 + 1 := ⟨f - 1, by omega⟩
  have es := rStr (g := g) hs J
  rcases h with ⟨q, rfl, rfl⟩ | ⟨q, q0, h⟩
  · refine Or.inl ⟨rfl, ?_, J⟩
    rw [hX]
    exact if_pos (Or.inl (by rw [← es]; exact q))
  · have R := jErr (f := f0) hJ hs J og l5 q0 (by omega) h
    refine Or.inr ⟨R.1, ?_⟩
    rw [hX, tJ_op (by rw [← es]; omega), R.2, bd_er]
end MEX
