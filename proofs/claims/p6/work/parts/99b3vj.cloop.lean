/-! the class's deeds: loops laid out -/
section VJL
variable {L1 L2 : List Nat} {P P' : Int32 × Int32 × Int32} {v u w t : MS} {a b c i s : List EV} {e : PE} {pa pb pc1 r : Int32} {N : Nat}
theorem ldE_24 : ldE (evx 24 0 0) = 1 := rfl
theorem ldE_19 : ldE (evx 19 0 0) = 1 := rfl
theorem ldE_17 : ldE (evx 17 0 0) = 1 := rfl
theorem ldE_f16 : ldE (fwE 16 0 a) = 1 := rfl
theorem ldE_f19 : ldE (fwE 19 0 a) = 1 := rfl
theorem ldE_b19 : ldE (bwE 19 0 a) = 1 := rfl
theorem ldE_b17 : ldE (bwE 17 0 a) = 1 := rfl
/-- while: break's label N, continue's N + 1 -/
theorem EA.whl (h : EAs ((N : Int) + 2) v u [.inr (.inr (N + 1)), .inl (P, [evx 24 0 0]), .inl (P, c), .inr (.inl (16, N)), .inl (P', b), .inr (.inl (19, N + 1)), .inr (.inr N)]) (hN : (v.1 0 317).toInt = N) (h0 : 0 ≤ (v.1 0 381).toInt) (p1 : P'.1.toInt = N) (p2 : P'.2.1.toInt = N + 1) (p3 : P'.2.2 = P.2.2) (hd : (u.1 0 317).toInt - (u.1 0 305).toInt ≤ (v.1 0 317).toInt - (v.1 0 305).toInt) : EA P v u (gWhileL c b) := by
  obtain ⟨a1, a2, a3, a4, -⟩ := h
  have n0 := natI h0
  generalize hp : (v.1 0 381).toNatClampNeg = p at a4 n0
  obtain ⟨m1, m2, m3, m4, m5, m6, m7, -⟩ := a4
  have k24 : ldL [evx 24 0 0] = 1 := rfl
  have m3 : MTq P u (N + 2) (v.1 0 321).toInt (p + ldL [evx 24 0 0]) c := m3
  have m4 : ((p + ldL [evx 24 0 0] + ldL c : Nat) : Int) < (u.1 0 381).toInt ∧ u.1 378 (p + ldL [evx 24 0 0] + ldL c) = 16 ∧ (u.1 379 (p + ldL [evx 24 0 0] + ldL c)).toInt = N ∧ u.1 380 (p + ldL [evx 24 0 0] + ldL c) = 0 := m4
  have m5 : MTq P' u (N + 2) (v.1 0 321).toInt (p + ldL [evx 24 0 0] + ldL c + 1) b := m5
  have m6 : ((p + ldL [evx 24 0 0] + ldL c + 1 + ldL b : Nat) : Int) < (u.1 0 381).toInt ∧ u.1 378 (p + ldL [evx 24 0 0] + ldL c + 1 + ldL b) = 19 ∧ (u.1 379 (p + ldL [evx 24 0 0] + ldL c + 1 + ldL b)).toInt = (N + 1 : Nat) ∧ u.1 380 (p + ldL [evx 24 0 0] + ldL c + 1 + ldL b) = 0 := m6
  have m7 : (N : Int) < 1500 → (u.1 316 N).toInt = ((p + ldL [evx 24 0 0] + ldL c + 1 + ldL b + 1 : Nat) : Int) := m7
  have m1 : ((N + 1 : Nat) : Int) < 1500 → (u.1 316 (N + 1)).toInt = (p : Int) := m1
  rw [k24] at m3 m4 m5 m6 m7
  have q1 : P'.1.toNatClampNeg = N := natC p1
  have q2 : P'.2.1.toNatClampNeg = N + 1 := natC (by rw [p2]; omega)
  have e1 : (u.1 0 381).toInt = (v.1 0 381).toInt + (1 + ldL c + 1 + ldL b + 1 : Nat) := by
    rw [a1]
    show _ + ((0 + (ldL [evx 24 0 0] + (ldL c + (1 + (ldL b + (1 + (0 + 0)))))) : Nat) : Int) = _
    rw [k24]
    omega
  have R : MTq P u (v.1 0 317).toInt (v.1 0 321).toInt (p + 1 + ldL c + 1) (rsv (d3p (b ++ [evx 19 0 0])) (d3n ([evx 24 0 0] ++ c ++ [fwE 16 0 (b ++ [evx 19 0 0])])) b) := by
    refine MTq.rs2 (P' := P') ⟨by omega, by omega, by omega⟩ ⟨by omega, by omega, by omega⟩ p3 b _ _ _ ?_ ?_ (m5.lw (by omega))
    · intro g
      rw [q1, m7 (by omega)]
      show _ = ((p + 1 + ldL c + 1 : Nat) : Int) + (ldL (b ++ [evx 19 0 0]) : Int)
      rw [ldL_app, ldL_cons, ldL_nil, ldE_vx]
      omega
    · intro g
      rw [q2, m1 (by omega)]
      show _ = ((p + 1 + ldL c + 1 : Nat) : Int) + -(ldL ([evx 24 0 0] ++ c ++ [fwE 16 0 (b ++ [evx 19 0 0])]) : Int)
      rw [ldL_app, ldL_app, k24, ldL_cons, ldL_nil, ldE_fw]
      omega
  have M4 : mtE P u (v.1 0 317).toInt (v.1 0 321).toInt (fwE 16 0 (b ++ [evx 19 0 0])) (p + 1 + ldL c) := mtE.jump (l := N) (Or.inl rfl) m4.1 m4.2.1 m4.2.2.1 m4.2.2.2 ⟨by omega, by omega⟩ (fun g => by
    rw [m7 g, ldL_app, ldL_cons, ldL_nil, ldE_vx]
    omega)
  have M6 : mtE P u (v.1 0 317).toInt (v.1 0 321).toInt (bwE 19 0 ([evx 24 0 0] ++ c ++ [fwE 16 0 (b ++ [evx 19 0 0])] ++ b)) (p + 1 + ldL c + 1 + ldL b) := mtE.jump (l := N + 1) (Or.inr (Or.inr (Or.inr rfl))) m6.1 m6.2.1 m6.2.2.1 m6.2.2.2 ⟨by omega, by omega⟩ (fun g => by
    rw [m1 g, ldL_app, ldL_app, ldL_app, k24, ldL_cons, ldL_nil, ldE_fw]
    omega)
  refine ⟨?_, a2, hd, ?_⟩
  · rw [e1]
    unfold gWhileL
    simp only [ldL_app, ldL_cons, ldL_nil, ldL_rsv, ldE_24, ldE_19, ldE_17, ldE_f16, ldE_f19, ldE_b19, ldE_b17] <;> omega
  · rw [hp]
    show MTq P u _ _ p ([evx 24 0 0] ++ c ++ [fwE 16 0 (b ++ [evx 19 0 0])] ++ rsv _ _ b ++ [bwE 19 0 ([evx 24 0 0] ++ c ++ [fwE 16 0 (b ++ [evx 19 0 0])] ++ b)])
    refine MTq.app (MTq.app (MTq.app (MTq.app (m2.lw (by omega)) ?_) ?_) ?_) ?_
    · rw [k24]
      exact m3.lw (by omega)
    · rw [ldL_app, k24, ← Nat.add_assoc]
      exact MTq.one M4
    · rw [ldL_app, ldL_app, k24, ldL_cons, ldL_nil, ldE_fw, show p + (1 + ldL c + (1 + 0)) = p + 1 + ldL c + 1 by omega]
      exact R
    · rw [ldL_app, ldL_app, ldL_app, k24, ldL_cons, ldL_nil, ldE_fw, ldL_rsv, show p + (1 + ldL c + (1 + 0) + ldL b) = p + 1 + ldL c + 1 + ldL b by omega]
      exact MTq.one M6
/-- do: the beginning's label N + 2 -/
theorem EA.dol (h : EAs ((N : Int) + 3) v u [.inr (.inr (N + 2)), .inl (P, [evx 24 0 0]), .inl (P', b), .inr (.inr (N + 1)), .inl (P, c), .inr (.inl (17, N + 2)), .inr (.inr N)]) (hN : (v.1 0 317).toInt = N) (h0 : 0 ≤ (v.1 0 381).toInt) (p1 : P'.1.toInt = N) (p2 : P'.2.1.toInt = N + 1) (p3 : P'.2.2 = P.2.2) (hd : (u.1 0 317).toInt - (u.1 0 305).toInt ≤ (v.1 0 317).toInt - (v.1 0 305).toInt) : EA P v u (gDoL b c) := by
  obtain ⟨a1, a2, a3, a4, -⟩ := h
  have n0 := natI h0
  generalize hp : (v.1 0 381).toNatClampNeg = p at a4 n0
  obtain ⟨m1, m2, m3, m4, m5, m6, m7, -⟩ := a4
  have k24 : ldL [evx 24 0 0] = 1 := rfl
  have m1 : ((N + 2 : Nat) : Int) < 1500 → (u.1 316 (N + 2)).toInt = (p : Int) := m1
  have m3 : MTq P' u (N + 3) (v.1 0 321).toInt (p + ldL [evx 24 0 0]) b := m3
  have m4 : ((N + 1 : Nat) : Int) < 1500 → (u.1 316 (N + 1)).toInt = ((p + ldL [evx 24 0 0] + ldL b : Nat) : Int) := m4
  have m5 : MTq P u (N + 3) (v.1 0 321).toInt (p + ldL [evx 24 0 0] + ldL b) c := m5
  have m6 : ((p + ldL [evx 24 0 0] + ldL b + ldL c : Nat) : Int) < (u.1 0 381).toInt ∧ u.1 378 (p + ldL [evx 24 0 0] + ldL b + ldL c) = 17 ∧ (u.1 379 (p + ldL [evx 24 0 0] + ldL b + ldL c)).toInt = (N + 2 : Nat) ∧ u.1 380 (p + ldL [evx 24 0 0] + ldL b + ldL c) = 0 := m6
  have m7 : (N : Int) < 1500 → (u.1 316 N).toInt = ((p + ldL [evx 24 0 0] + ldL b + ldL c + 1 : Nat) : Int) := m7
  rw [k24] at m3 m4 m5 m6 m7
  have q1 : P'.1.toNatClampNeg = N := natC p1
  have q2 : P'.2.1.toNatClampNeg = N + 1 := natC (by rw [p2]; omega)
  have e1 : (u.1 0 381).toInt = (v.1 0 381).toInt + (1 + ldL b + ldL c + 1 : Nat) := by
    rw [a1]
    show _ + ((0 + (ldL [evx 24 0 0] + (ldL b + (0 + (ldL c + (1 + (0 + 0)))))) : Nat) : Int) = _
    rw [k24]
    omega
  have R : MTq P u (v.1 0 317).toInt (v.1 0 321).toInt (p + 1) (rsv (d3p (b ++ c ++ [evx 17 0 0])) (d3p b) b) := by
    refine MTq.rs2 (P' := P') ⟨by omega, by omega, by omega⟩ ⟨by omega, by omega, by omega⟩ p3 b _ _ _ ?_ ?_ (m3.lw (by omega))
    · intro g
      rw [q1, m7 (by omega)]
      show _ = ((p + 1 : Nat) : Int) + (ldL (b ++ c ++ [evx 17 0 0]) : Int)
      rw [ldL_app, ldL_app, ldL_cons, ldL_nil, ldE_vx]
      omega
    · intro g
      rw [q2, m4 (by omega)]
      show _ = ((p + 1 : Nat) : Int) + (ldL b : Int)
      omega
  have M6 : mtE P u (v.1 0 317).toInt (v.1 0 321).toInt (bwE 17 0 ([evx 24 0 0] ++ b ++ c)) (p + 1 + ldL b + ldL c) := mtE.jump (l := N + 2) (Or.inr (Or.inl rfl)) m6.1 m6.2.1 m6.2.2.1 m6.2.2.2 ⟨by omega, by omega⟩ (fun g => by
    rw [m1 g, ldL_app, ldL_app, k24]
    omega)
  refine ⟨?_, a2, hd, ?_⟩
  · rw [e1]
    unfold gDoL
    simp only [ldL_app, ldL_cons, ldL_nil, ldL_rsv, ldE_24, ldE_19, ldE_17, ldE_b19, ldE_b17] <;> omega
  · rw [hp]
    show MTq P u _ _ p ([evx 24 0 0] ++ rsv _ _ b ++ c ++ [bwE 17 0 ([evx 24 0 0] ++ b ++ c)])
    refine MTq.app (MTq.app (MTq.app (m2.lw (by omega)) ?_) ?_) ?_
    · rw [k24]
      exact R
    · rw [ldL_app, k24, ldL_rsv, ← Nat.add_assoc]
      exact m5.lw (by omega)
    · rw [ldL_app, ldL_app, k24, ldL_rsv, show p + (1 + ldL b + ldL c) = p + 1 + ldL b + ldL c by omega]
      exact MTq.one M6
/-- for: the question's label N + 2, the body's N + 3; without a question -/
theorem EA.fr0 (h : EAs ((N : Int) + 4) v u [.inl (P, i), .inr (.inr (N + 2)), .inl (P, [evx 24 0 0]), .inr (.inl (19, N + 3)), .inr (.inr (N + 1)), .inl (P, s), .inr (.inl (19, N + 2)), .inr (.inr (N + 3)), .inl (P', b), .inr (.inl (19, N + 1)), .inr (.inr N)]) (hN : (v.1 0 317).toInt = N) (h0 : 0 ≤ (v.1 0 381).toInt) (p1 : P'.1.toInt = N) (p2 : P'.2.1.toInt = N + 1) (p3 : P'.2.2 = P.2.2) (hd : (u.1 0 317).toInt - (u.1 0 305).toInt ≤ (v.1 0 317).toInt - (v.1 0 305).toInt) : EA P v u (gForL i none s b) := by
  obtain ⟨a1, a2, a3, a4, -⟩ := h
  have n0 := natI h0
  generalize hp : (v.1 0 381).toNatClampNeg = p at a4 n0
  obtain ⟨m1, m2, m3, m4, m5, m6, m7, m8, m9, m10, m11, -⟩ := a4
  have k24 : ldL [evx 24 0 0] = 1 := rfl
  have m2 : ((N + 2 : Nat) : Int) < 1500 → (u.1 316 (N + 2)).toInt = ((p + ldL i : Nat) : Int) := m2
  have m3 : MTq P u (N + 4) (v.1 0 321).toInt (p + ldL i) [evx 24 0 0] := m3
  have m4 : ((p + ldL i + 1 : Nat) : Int) < (u.1 0 381).toInt ∧ u.1 378 (p + ldL i + 1) = 19 ∧ (u.1 379 (p + ldL i + 1)).toInt = (N + 3 : Nat) ∧ u.1 380 (p + ldL i + 1) = 0 := m4
  have m5 : ((N + 1 : Nat) : Int) < 1500 → (u.1 316 (N + 1)).toInt = ((p + ldL i + 1 + 1 : Nat) : Int) := m5
  have m6 : MTq P u (N + 4) (v.1 0 321).toInt (p + ldL i + 1 + 1) s := m6
  have m7 : ((p + ldL i + 1 + 1 + ldL s : Nat) : Int) < (u.1 0 381).toInt ∧ u.1 378 (p + ldL i + 1 + 1 + ldL s) = 19 ∧ (u.1 379 (p + ldL i + 1 + 1 + ldL s)).toInt = (N + 2 : Nat) ∧ u.1 380 (p + ldL i + 1 + 1 + ldL s) = 0 := m7
  have m8 : ((N + 3 : Nat) : Int) < 1500 → (u.1 316 (N + 3)).toInt = ((p + ldL i + 1 + 1 + ldL s + 1 : Nat) : Int) := m8
  have m9 : MTq P' u (N + 4) (v.1 0 321).toInt (p + ldL i + 1 + 1 + ldL s + 1) b := m9
  have m10 : ((p + ldL i + 1 + 1 + ldL s + 1 + ldL b : Nat) : Int) < (u.1 0 381).toInt ∧ u.1 378 (p + ldL i + 1 + 1 + ldL s + 1 + ldL b) = 19 ∧ (u.1 379 (p + ldL i + 1 + 1 + ldL s + 1 + ldL b)).toInt = (N + 1 : Nat) ∧ u.1 380 (p + ldL i + 1 + 1 + ldL s + 1 + ldL b) = 0 := m10
  have m11 : (N : Int) < 1500 → (u.1 316 N).toInt = ((p + ldL i + 1 + 1 + ldL s + 1 + ldL b + 1 : Nat) : Int) := m11
  have q1 : P'.1.toNatClampNeg = N := natC p1
  have q2 : P'.2.1.toNatClampNeg = N + 1 := natC (by rw [p2]; omega)
  have e1 : (u.1 0 381).toInt = (v.1 0 381).toInt + (ldL i + 1 + 1 + ldL s + 1 + ldL b + 1 : Nat) := by
    rw [a1]
    show _ + ((ldL i + (0 + (1 + (1 + (0 + (ldL s + (1 + (0 + (ldL b + (1 + (0 + 0)))))))))) : Nat) : Int) = _
    omega
  have R : MTq P u (v.1 0 317).toInt (v.1 0 321).toInt (p + ldL i + 1 + 1 + ldL s + 1) (rsv (d3p (b ++ [evx 19 0 0])) (d3n (s ++ [evx 19 0 0])) b) := by
    refine MTq.rs2 (P' := P') ⟨by omega, by omega, by omega⟩ ⟨by omega, by omega, by omega⟩ p3 b _ _ _ ?_ ?_ (m9.lw (by omega))
    · intro g
      rw [q1, m11 (by omega)]
      show _ = ((p + ldL i + 1 + 1 + ldL s + 1 : Nat) : Int) + (ldL (b ++ [evx 19 0 0]) : Int)
      rw [ldL_app, ldL_cons, ldL_nil, ldE_vx]
      omega
    · intro g
      rw [q2, m5 (by omega)]
      show _ = ((p + ldL i + 1 + 1 + ldL s + 1 : Nat) : Int) + -(ldL (s ++ [evx 19 0 0]) : Int)
      rw [ldL_app, ldL_cons, ldL_nil, ldE_vx]
      omega
  have M4 : mtE P u (v.1 0 317).toInt (v.1 0 321).toInt (fwE 19 0 (s ++ [evx 19 0 0])) (p + ldL i + 1) := mtE.jump (l := N + 3) (Or.inr (Or.inr (Or.inr rfl))) m4.1 m4.2.1 m4.2.2.1 m4.2.2.2 ⟨by omega, by omega⟩ (fun g => by
    rw [m8 g, ldL_app, ldL_cons, ldL_nil, ldE_vx]
    omega)
  have M7 : mtE P u (v.1 0 317).toInt (v.1 0 321).toInt (bwE 19 0 ([evx 24 0 0] ++ [] ++ [fwE 19 0 (s ++ [evx 19 0 0])] ++ s)) (p + ldL i + 1 + 1 + ldL s) := mtE.jump (l := N + 2) (Or.inr (Or.inr (Or.inr rfl))) m7.1 m7.2.1 m7.2.2.1 m7.2.2.2 ⟨by omega, by omega⟩ (fun g => by
    rw [m2 g, ldL_app, ldL_app, ldL_app, k24, ldL_cons, ldL_nil, ldE_fw]
    omega)
  have M10 : mtE P u (v.1 0 317).toInt (v.1 0 321).toInt (bwE 19 0 (s ++ [evx 19 0 0] ++ b)) (p + ldL i + 1 + 1 + ldL s + 1 + ldL b) := mtE.jump (l := N + 1) (Or.inr (Or.inr (Or.inr rfl))) m10.1 m10.2.1 m10.2.2.1 m10.2.2.2 ⟨by omega, by omega⟩ (fun g => by
    rw [m5 g, ldL_app, ldL_app, ldL_cons, ldL_nil, ldE_vx]
    omega)
  refine ⟨?_, a2, hd, ?_⟩
  · rw [e1]
    unfold gForL
    simp only [ldL_app, ldL_cons, ldL_nil, ldL_rsv, ldE_24, ldE_19, ldE_17, ldE_f16, ldE_f19, ldE_b19, ldE_b17] <;> omega
  · rw [hp]
    show MTq P u _ _ p (i ++ ([evx 24 0 0] ++ [] ++ [fwE 19 0 (s ++ [evx 19 0 0])]) ++ s ++ [bwE 19 0 ([evx 24 0 0] ++ [] ++ [fwE 19 0 (s ++ [evx 19 0 0])] ++ s)] ++ rsv _ _ b ++ [bwE 19 0 (s ++ [evx 19 0 0] ++ b)])
    refine MTq.app (MTq.app (MTq.app (MTq.app (MTq.app (m1.lw (by omega)) (MTq.app (MTq.app (m3.lw (by omega)) MTq.nil) ?_)) ?_) ?_) ?_) ?_
    · rw [ldL_app, k24, ldL_nil]
      exact MTq.one M4
    · simp only [ldL_app, k24, ldL_cons, ldL_nil, ldE_f16, ldE_f19]
      rw [show p + (ldL i + (1 + 0 + (1 + 0))) = p + ldL i + 1 + 1 by omega]
      exact m6.lw (by omega)
    · simp only [ldL_app, k24, ldL_cons, ldL_nil, ldE_f16, ldE_f19]
      rw [show p + (ldL i + (1 + 0 + (1 + 0)) + ldL s) = p + ldL i + 1 + 1 + ldL s by omega]
      exact MTq.one M7
    · simp only [ldL_app, k24, ldL_cons, ldL_nil, ldE_f16, ldE_f19, ldE_b19, ldE_b17]
      rw [show p + (ldL i + (1 + 0 + (1 + 0)) + ldL s + (1 + 0)) = p + ldL i + 1 + 1 + ldL s + 1 by omega]
      exact R
    · simp only [ldL_app, k24, ldL_cons, ldL_nil, ldE_f16, ldE_f19, ldE_b19, ldE_b17, ldL_rsv]
      rw [show p + (ldL i + (1 + 0 + (1 + 0)) + ldL s + (1 + 0) + ldL b) = p + ldL i + 1 + 1 + ldL s + 1 + ldL b by omega]
      exact MTq.one M10
/-- for, with a question -/
theorem EA.fr1 (h : EAs ((N : Int) + 4) v u [.inl (P, i), .inr (.inr (N + 2)), .inl (P, [evx 24 0 0]), .inl (P, c), .inr (.inl (16, N)), .inr (.inl (19, N + 3)), .inr (.inr (N + 1)), .inl (P, s), .inr (.inl (19, N + 2)), .inr (.inr (N + 3)), .inl (P', b), .inr (.inl (19, N + 1)), .inr (.inr N)]) (hN : (v.1 0 317).toInt = N) (h0 : 0 ≤ (v.1 0 381).toInt) (p1 : P'.1.toInt = N) (p2 : P'.2.1.toInt = N + 1) (p3 : P'.2.2 = P.2.2) (hd : (u.1 0 317).toInt - (u.1 0 305).toInt ≤ (v.1 0 317).toInt - (v.1 0 305).toInt) : EA P v u (gForL i (some c) s b) := by
  obtain ⟨a1, a2, a3, a4, -⟩ := h
  have n0 := natI h0
  generalize hp : (v.1 0 381).toNatClampNeg = p at a4 n0
  obtain ⟨m1, m2, m3, mc, md, m4, m5, m6, m7, m8, m9, m10, m11, -⟩ := a4
  have k24 : ldL [evx 24 0 0] = 1 := rfl
  have m2 : ((N + 2 : Nat) : Int) < 1500 → (u.1 316 (N + 2)).toInt = ((p + ldL i : Nat) : Int) := m2
  have m3 : MTq P u (N + 4) (v.1 0 321).toInt (p + ldL i) [evx 24 0 0] := m3
  have mc : MTq P u (N + 4) (v.1 0 321).toInt (p + ldL i + 1) c := mc
  have md : ((p + ldL i + 1 + ldL c : Nat) : Int) < (u.1 0 381).toInt ∧ u.1 378 (p + ldL i + 1 + ldL c) = 16 ∧ (u.1 379 (p + ldL i + 1 + ldL c)).toInt = (N : Nat) ∧ u.1 380 (p + ldL i + 1 + ldL c) = 0 := md
  obtain ⟨z, hz⟩ : ∃ z, z = p + ldL i + 1 + ldL c := ⟨_, rfl⟩
  have m4 : ((p + ldL i + 1 + ldL c + 1 : Nat) : Int) < (u.1 0 381).toInt ∧ u.1 378 (p + ldL i + 1 + ldL c + 1) = 19 ∧ (u.1 379 (p + ldL i + 1 + ldL c + 1)).toInt = (N + 3 : Nat) ∧ u.1 380 (p + ldL i + 1 + ldL c + 1) = 0 := m4
  have m5 : ((N + 1 : Nat) : Int) < 1500 → (u.1 316 (N + 1)).toInt = ((p + ldL i + 1 + ldL c + 1 + 1 : Nat) : Int) := m5
  have m6 : MTq P u (N + 4) (v.1 0 321).toInt (p + ldL i + 1 + ldL c + 1 + 1) s := m6
  have m7 : ((p + ldL i + 1 + ldL c + 1 + 1 + ldL s : Nat) : Int) < (u.1 0 381).toInt ∧ u.1 378 (p + ldL i + 1 + ldL c + 1 + 1 + ldL s) = 19 ∧ (u.1 379 (p + ldL i + 1 + ldL c + 1 + 1 + ldL s)).toInt = (N + 2 : Nat) ∧ u.1 380 (p + ldL i + 1 + ldL c + 1 + 1 + ldL s) = 0 := m7
  have m8 : ((N + 3 : Nat) : Int) < 1500 → (u.1 316 (N + 3)).toInt = ((p + ldL i + 1 + ldL c + 1 + 1 + ldL s + 1 : Nat) : Int) := m8
  have m9 : MTq P' u (N + 4) (v.1 0 321).toInt (p + ldL i + 1 + ldL c + 1 + 1 + ldL s + 1) b := m9
  have m10 : ((p + ldL i + 1 + ldL c + 1 + 1 + ldL s + 1 + ldL b : Nat) : Int) < (u.1 0 381).toInt ∧ u.1 378 (p + ldL i + 1 + ldL c + 1 + 1 + ldL s + 1 + ldL b) = 19 ∧ (u.1 379 (p + ldL i + 1 + ldL c + 1 + 1 + ldL s + 1 + ldL b)).toInt = (N + 1 : Nat) ∧ u.1 380 (p + ldL i + 1 + ldL c + 1 + 1 + ldL s + 1 + ldL b) = 0 := m10
  have m11 : (N : Int) < 1500 → (u.1 316 N).toInt = ((p + ldL i + 1 + ldL c + 1 + 1 + ldL s + 1 + ldL b + 1 : Nat) : Int) := m11
  rw [← hz] at md m4 m5 m6 m7 m8 m9 m10 m11
  have q1 : P'.1.toNatClampNeg = N := natC p1
  have q2 : P'.2.1.toNatClampNeg = N + 1 := natC (by rw [p2]; omega)
  have e1 : (u.1 0 381).toInt = (v.1 0 381).toInt + (ldL i + 1 + ldL c + 1 + 1 + ldL s + 1 + ldL b + 1 : Nat) := by
    rw [a1]
    show _ + ((ldL i + (0 + (1 + (ldL c + (1 + (1 + (0 + (ldL s + (1 + (0 + (ldL b + (1 + (0 + 0)))))))))))) : Nat) : Int) = _
    omega
  have R : MTq P u (v.1 0 317).toInt (v.1 0 321).toInt (z + 1 + 1 + ldL s + 1) (rsv (d3p (b ++ [evx 19 0 0])) (d3n (s ++ [evx 19 0 0])) b) := by
    refine MTq.rs2 (P' := P') ⟨by omega, by omega, by omega⟩ ⟨by omega, by omega, by omega⟩ p3 b _ _ _ ?_ ?_ (m9.lw (by omega))
    · intro g
      rw [q1, m11 (by omega)]
      show _ = ((z + 1 + 1 + ldL s + 1 : Nat) : Int) + (ldL (b ++ [evx 19 0 0]) : Int)
      rw [ldL_app, ldL_cons, ldL_nil, ldE_vx]
      omega
    · intro g
      rw [q2, m5 (by omega)]
      show _ = ((z + 1 + 1 + ldL s + 1 : Nat) : Int) + -(ldL (s ++ [evx 19 0 0]) : Int)
      rw [ldL_app, ldL_cons, ldL_nil, ldE_vx]
      omega
  have MD : mtE P u (v.1 0 317).toInt (v.1 0 321).toInt (fwE 16 0 ([fwE 19 0 (s ++ [evx 19 0 0])] ++ (s ++ [evx 19 0 0]) ++ b ++ [evx 19 0 0])) z := mtE.jump (l := N) (Or.inl rfl) md.1 md.2.1 md.2.2.1 md.2.2.2 ⟨by omega, by omega⟩ (fun g => by
    rw [m11 g]
    simp only [ldL_app, ldL_cons, ldL_nil, ldE_24, ldE_19, ldE_17, ldE_f16, ldE_f19]
    omega)
  have M4 : mtE P u (v.1 0 317).toInt (v.1 0 321).toInt (fwE 19 0 (s ++ [evx 19 0 0])) (z + 1) := mtE.jump (l := N + 3) (Or.inr (Or.inr (Or.inr rfl))) m4.1 m4.2.1 m4.2.2.1 m4.2.2.2 ⟨by omega, by omega⟩ (fun g => by
    rw [m8 g, ldL_app, ldL_cons, ldL_nil, ldE_vx]
    omega)
  have M7 : mtE P u (v.1 0 317).toInt (v.1 0 321).toInt (bwE 19 0 ([evx 24 0 0] ++ (c ++ [fwE 16 0 ([fwE 19 0 (s ++ [evx 19 0 0])] ++ (s ++ [evx 19 0 0]) ++ b ++ [evx 19 0 0])]) ++ [fwE 19 0 (s ++ [evx 19 0 0])] ++ s)) (z + 1 + 1 + ldL s) := mtE.jump (l := N + 2) (Or.inr (Or.inr (Or.inr rfl))) m7.1 m7.2.1 m7.2.2.1 m7.2.2.2 ⟨by omega, by omega⟩ (fun g => by
    rw [m2 g]
    simp only [ldL_app, ldL_cons, ldL_nil, ldE_24, ldE_19, ldE_17, ldE_f16, ldE_f19]
    omega)
  have M10 : mtE P u (v.1 0 317).toInt (v.1 0 321).toInt (bwE 19 0 (s ++ [evx 19 0 0] ++ b)) (z + 1 + 1 + ldL s + 1 + ldL b) := mtE.jump (l := N + 1) (Or.inr (Or.inr (Or.inr rfl))) m10.1 m10.2.1 m10.2.2.1 m10.2.2.2 ⟨by omega, by omega⟩ (fun g => by
    rw [m5 g, ldL_app, ldL_app, ldL_cons, ldL_nil, ldE_vx]
    omega)
  refine ⟨?_, a2, hd, ?_⟩
  · rw [e1]
    unfold gForL
    simp only [ldL_app, ldL_cons, ldL_nil, ldL_rsv, ldE_24, ldE_19, ldE_17, ldE_f16, ldE_f19, ldE_b19, ldE_b17] <;> omega
  · rw [hp]
    show MTq P u _ _ p (i ++ ([evx 24 0 0] ++ (c ++ [fwE 16 0 ([fwE 19 0 (s ++ [evx 19 0 0])] ++ (s ++ [evx 19 0 0]) ++ b ++ [evx 19 0 0])]) ++ [fwE 19 0 (s ++ [evx 19 0 0])]) ++ s ++ [bwE 19 0 ([evx 24 0 0] ++ (c ++ [fwE 16 0 ([fwE 19 0 (s ++ [evx 19 0 0])] ++ (s ++ [evx 19 0 0]) ++ b ++ [evx 19 0 0])]) ++ [fwE 19 0 (s ++ [evx 19 0 0])] ++ s)] ++ rsv _ _ b ++ [bwE 19 0 (s ++ [evx 19 0 0] ++ b)])
    refine MTq.app (MTq.app (MTq.app (MTq.app (MTq.app (m1.lw (by omega)) (MTq.app (MTq.app (m3.lw (by omega)) (MTq.app ?_ ?_)) ?_)) ?_) ?_) ?_) ?_
    · rw [k24]
      exact mc.lw (by omega)
    · rw [k24, ← hz]
      exact MTq.one MD
    · simp only [ldL_app, k24, ldL_cons, ldL_nil, ldE_f16, ldE_f19]
      rw [show p + ldL i + (1 + (ldL c + (1 + 0))) = z + 1 by omega]
      exact MTq.one M4
    · simp only [ldL_app, k24, ldL_cons, ldL_nil, ldE_f16, ldE_f19]
      rw [show p + (ldL i + (1 + (ldL c + (1 + 0)) + (1 + 0))) = z + 1 + 1 by omega]
      exact m6.lw (by omega)
    · simp only [ldL_app, k24, ldL_cons, ldL_nil, ldE_f16, ldE_f19]
      rw [show p + (ldL i + (1 + (ldL c + (1 + 0)) + (1 + 0)) + ldL s) = z + 1 + 1 + ldL s by omega]
      exact MTq.one M7
    · simp only [ldL_app, k24, ldL_cons, ldL_nil, ldE_f16, ldE_f19, ldE_b19, ldE_b17]
      rw [show p + (ldL i + (1 + (ldL c + (1 + 0)) + (1 + 0)) + ldL s + (1 + 0)) = z + 1 + 1 + ldL s + 1 by omega]
      exact R
    · simp only [ldL_app, k24, ldL_cons, ldL_nil, ldE_f16, ldE_f19, ldE_b19, ldE_b17, ldL_rsv]
      rw [show p + (ldL i + (1 + (ldL c + (1 + 0)) + (1 + 0)) + ldL s + (1 + 0) + ldL b) = z + 1 + 1 + ldL s + 1 + ldL b by omega]
      exact MTq.one M10
end VJL
