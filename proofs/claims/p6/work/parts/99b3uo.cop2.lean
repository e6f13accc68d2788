/-! the class's deeds: an operand -/
section UOO
variable {L1 L2 : List Nat} {P : Int32 × Int32 × Int32} {v u w x z : MS} {a b : List EV} {e : PE} {pa pb pc1 pd r : Int32} {t : Bool} {E : EvE} {O : EvO} {R : RE1} {o : RO1}
theorem ne32 {k m : Int32} {n : Int} (h : ¬ (k = m)) (hm : m.toInt = n) : ¬ k.toInt = n := fun q => h (Int32.toInt_inj.mp (q.trans hm.symm))
set_option maxHeartbeats 1600000 in
theorem eOperand (hE : XE L2 R E) (hM : XM R) (hK : XK R) (hO : XO L2 o O) (h : Q_x_X2_operand L1 L2 R o v pa false r u) (J : JC L2 e v) (B : LBe v) (tp : TPO v) (cu : (u.1 0 321).toInt ≤ 500) : ∃ a, gOperand E O (decide (pa.toInt ≠ 0)) e (knC v) (v.1 0 314) (v.1 0 305) = some (decide (r.toInt ≠ 0), a, u.1 0 305) ∧ ES L2 e P v u a ∧ DS v u 1 := by
  obtain ⟨-, -, -, -, -, -, -, -, -, -, r3, hk, h⟩ := h
  have ek := kdC hk J
  have d0 : decide ((0 : Int32).toInt ≠ 0) = false := by decide
  unfold gOperand
  rw [← ek]
  have num : ∀ {r11 : Int32} {u13 u19 : MS}, Q_x_X9_value L1 L2 v r11 → Q_x_X1_add L1 L2 v 2 r11 0 u13 → K_x_X1_add v 2 r11 0 u13 → Q_x_X9_take L1 L2 u13 false u19 → K_x_X9_take u13 u19 → r = 0 → u = u19 → ∃ a, some (false, [evx 2 (e.2.1 (v.1 0 305)) 0], v.1 0 305 + 1) = some (decide (r.toInt ≠ 0), a, u.1 0 305) ∧ ES L2 e P v u a ∧ DS v u 1 := fun {r11 u13 u19} hv h1 k1 h2 k2 er eu => by
    have A := ES.add (P := P) (y := 0) h1 k1 J B (by unfold plE; decide) rfl
    have T := ES.take (P := P) h2 k2 A.1.1 A.1.2.2.1
    have TT := A.1.tr T.1 B
    rw [List.append_nil, vlC hv J] at TT
    rw [eu, er, d0]
    refine ⟨_, by rw [T.2, A.2], TT, ?_⟩
    have q1 := A.1.2.1.2.2.1
    have a3 : (u19.1 0 305).toInt = (u13.1 0 305).toInt + 1 := k2.2.2.1
    have a4 : (u19.1 0 317).toInt = (u13.1 0 317).toInt := congrArg Int32.toInt (k2.1.2.1 317 (by decide))
    unfold DS
    omega
  have una : ∀ {d : Int32} {u9 : MS}, Q_x_X2_unary L1 L2 o v d false u9 → plE d → d ≠ 4 → gUn r3 = d → r = 0 → u = u9 → ∃ a, ((O false e (knC v) (v.1 0 314) (v.1 0 305 + 1)).bind fun q => some (false, q.2.1 ++ [evx (gUn r3) 0 0], q.2.2)) = some (decide (r.toInt ≠ 0), a, u.1 0 305) ∧ ES L2 e P v u a ∧ DS v u 1 := fun {d u9} h1 hp h4 hg er eu => by
    rw [eu] at cu ⊢
    obtain ⟨a, bb, x1, x2, x3⟩ := eUnary (P := P) hO h1 J B tp cu hp h4
    rw [x1, Option.bind_some, hg, er, d0]
    exact ⟨_, rfl, x2, x3⟩
  rcases h with ⟨c2, h⟩ | ⟨c2, h⟩
  · have z : r3.toInt = 2 := by rw [c2]; decide
    rw [if_neg (by omega), if_neg (by omega), if_neg (by omega), if_neg (by omega), if_pos z]
    rcases h with ⟨u9, -, f, -⟩ | ⟨r7, u6, h1, k1, -, er, eu⟩
    · cases f
    · rw [er, eu]
      rw [eu] at cu
      exact eNamed hE hM hK h1 J B tp cu
  have n2 := ne32 (n := 2) c2 (by decide)
  rcases h with ⟨c3, r11, h1, u13, h2, k2, ⟨u9, -, f, -⟩ | ⟨u19, h3, k3, -, er, eu⟩⟩ | ⟨c3, h⟩
  · cases f
  · have z : r3.toInt = 3 := by rw [c3]; decide
    rw [if_neg (by omega), if_pos (Or.inl z)]
    exact num h1 h2 k2 h3 k3 er eu
  have n3 := ne32 (n := 3) c3 (by decide)
  rcases h with ⟨c4, r33, -, u9, -, f, -⟩ | ⟨c4, h⟩
  · cases f
  rcases h with ⟨c5, r11, h1, u13, h2, k2, ⟨u9, -, f, -⟩ | ⟨u19, h3, k3, -, er, eu⟩⟩ | ⟨c5, h⟩
  · cases f
  · have z : r3.toInt = 5 := by rw [c5]; decide
    rw [if_neg (by omega), if_pos (Or.inr z)]
    exact num h1 h2 k2 h3 k3 er eu
  have n5 := ne32 (n := 5) c5 (by decide)
  rcases h with ⟨c20, ⟨u9, -, f, -⟩ | ⟨u61, h1, k1, ⟨u9, -, f, -⟩ | ⟨u66, h2, k2, ⟨u9, -, f, -⟩ | ⟨u74, h3, k3, ⟨u9, -, f, -⟩ | ⟨u79, h4, k4, u83, h5, k5, u91, h6, k6, -, er, eu⟩⟩⟩⟩⟩ | ⟨c20, h⟩
  · cases f
  · cases f
  · cases f
  · cases f
  · have z : r3.toInt = 20 := by rw [c20]; decide
    rw [if_neg (by omega), if_neg (by omega), if_pos z]
    have T := ES.take (P := P) h1 k1 J B
    have e66 : u66 = u61 ∧ (e.1 (u61.1 0 305)).toInt = 30 := by
      obtain ⟨-, -, -, r3', hk', h2⟩ := h2
      rcases h2 with ⟨c, -, e9⟩ | ⟨-, r9, -, ⟨-, r14, -, u9, -, f, -⟩ | ⟨-, r14, -, u9, -, f, -⟩⟩
      · refine ⟨e9, ?_⟩
        rw [← kdC hk' T.1.1, c]
        decide
      · cases f
      · cases f
    rw [e66.1] at h3 k3
    have O1 := ES.opn (P := P) h3 k3 T.1.1 T.1.2.2.1
    have X := ES.exp (P := P) (m := 31) (by decide) h4 k4 O1.1.1 O1.1.2.2.1
    have C := ES.close (P := P) h5 k5 X.1.1 X.1.2.2.1
    have A := ES.add (P := P) (y := 0) h6 k6 C.1.1 C.1.2.2.1 (by unfold plE; decide) rfl
    have g1 : gTok e 30 (v.1 0 305 + 1) = some (u74.1 0 305) := by
      unfold gTok
      rw [← T.2, if_pos e66.2, O1.2]
    rw [g1, Option.bind_some, X.2, Option.bind_some, eu, er, d0]
    have TT : ES L2 e P v u91 [evx 23 0 0] := (((T.1.tr O1.1 B).tr X.1 B).tr C.1 B).tr A.1 B
    refine ⟨_, by rw [A.2, C.2], TT, ?_⟩
    have q1 := O1.1.2.1.2.2.1
    have q2 := X.1.2.1.2.2.1
    have q3 := C.1.2.1.2.2.1
    have q4 := A.1.2.1.2.2.1
    have a3 : (u61.1 0 305).toInt = (v.1 0 305).toInt + 1 := k1.2.2.1
    have a4 : (u61.1 0 317).toInt = (v.1 0 317).toInt := congrArg Int32.toInt (k1.1.2.1 317 (by decide))
    unfold DS
    omega
  have n20 := ne32 (n := 20) c20 (by decide)
  rcases h with ⟨c30, ⟨u9, -, f, -⟩ | ⟨u116, h1, k1, ⟨u9, -, f, -⟩ | ⟨u128, h2, k2, ⟨u9, -, f, -⟩ | ⟨u133, h3, k3, u137, h4, k4, -, er, eu⟩⟩⟩⟩ | ⟨c30, h⟩
  · cases f
  · cases f
  · cases f
  · have z : r3.toInt = 30 := by rw [c30]; decide
    rw [if_neg (by omega), if_neg (by omega), if_neg (by omega), if_pos z]
    have T := ES.opn (P := P) h1 k1 J B
    have c1 : (u128.1 0 321).toInt ≤ 500 := by
      have := fc21 k3.1
      have := fc21 k4.1
      rw [eu] at cu
      omega
    obtain ⟨a, x1, x2⟩ := hE.es (P := P) (bz := true) h2 k2 T.1.1 T.1.2.2.1 (tp_open k1 tp) c1 (by decide)
    have X := ES.exp (P := P) (m := 31) (by decide) h3 k3 x2.1 x2.2.2.1
    have C := ES.close (P := P) h4 k4 X.1.1 X.1.2.2.1
    rw [T.1.2.2.2.1, T.1.2.2.2.2.1, T.2] at x1
    rw [x1, Option.bind_some, X.2, Option.bind_some, eu, er, d0]
    have TT := ((T.1.tr x2 B).tr X.1 B).tr C.1 B
    rw [List.nil_append, List.append_nil, List.append_nil] at TT
    refine ⟨_, by rw [C.2], TT, ?_⟩
    have q1 := x2.2.1.2.2.1
    have q2 := X.1.2.1.2.2.1
    have q3 := C.1.2.1.2.2.1
    have a3 : (u116.1 0 305).toInt = (v.1 0 305).toInt + 1 := k1.2.2.2.2.1
    have a4 : (u116.1 0 317).toInt = (v.1 0 317).toInt := congrArg Int32.toInt (k1.1.2.1 317 (by decide))
    unfold DS
    omega
  have n30 := ne32 (n := 30) c30 (by decide)
  rcases h with ⟨c40, ⟨u9, -, f, -⟩ | ⟨u150, h1, k1, -, er, eu⟩⟩ | ⟨c40, h⟩
  · cases f
  · have z : r3.toInt = 40 := by rw [c40]; decide
    rw [if_pos (Or.inr (Or.inl z))]
    exact una h1 (by unfold plE; decide) (by decide) (by rw [c40]; decide) er eu
  rcases h with ⟨c41, ⟨u9, -, f, -⟩ | ⟨u150, h1, k1, -, er, eu⟩⟩ | ⟨c41, h⟩
  · cases f
  · have z : r3.toInt = 41 := by rw [c41]; decide
    rw [if_pos (Or.inr (Or.inr z))]
    exact una h1 (by unfold plE; decide) (by decide) (by rw [c41]; decide) er eu
  rcases h with ⟨c54, ⟨u9, -, f, -⟩ | ⟨u150, h1, k1, -, er, eu⟩⟩ | ⟨c54, u9, -, f, -⟩
  · cases f
  · have z : r3.toInt = 54 := by rw [c54]; decide
    rw [if_pos (Or.inl z)]
    exact una h1 (by unfold plE; decide) (by decide) (by rw [c54]; decide) er eu
  · cases f
end UOO
