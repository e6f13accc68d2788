/-! the class's deeds: operands -/
def XO (L2 : List Nat) (o : RO1) (O : EvO) : Prop := ∀ (v u : MS) (st r : Int32) (e : PE) (P : Int32 × Int32 × Int32), o v st false r u → K_x_X2_operand v st r u → JC L2 e v → LBe v → TPO v → (u.1 0 321).toInt ≤ 500 → ∃ a, O (decide (st.toInt ≠ 0)) e (knC v) (v.1 0 314) (v.1 0 305) = some (decide (r.toInt ≠ 0), a, u.1 0 305) ∧ ES L2 e P v u a ∧ DS v u 1
section UNO
variable {L1 L2 : List Nat} {P : Int32 × Int32 × Int32} {v u w x z : MS} {a b : List EV} {e : PE} {pa pb pc1 pd r : Int32} {t : Bool} {E : EvE} {O : EvO} {R : RE1} {o : RO1}
theorem mNamedM (hM : XM R) (h : Q_x_X2_named L1 L2 R v pa false r u) : (v.1 0 321).toInt ≤ (u.1 0 321).toInt := by
  obtain ⟨-, -, -, -, -, -, -, -, -, -, r3, h1, r6, h2, r9, h3, k3, h⟩ := h
  have tail : ∀ {x : MS} {s9 g9 p9 : Int32} {Rd Kd : MS → Prop}, (∀ y, Kd y → (y.1 0 321).toInt = (x.1 0 321).toInt) → (((pa.toInt = (0 : Int)) ∧ ∃ y, Rd y ∧ Kd y ∧ false = false ∧ r = 0 ∧ u = y) ∨ ((pa.toInt ≠ (0 : Int)) ∧ ∃ r49, Q_x_X9_kind L1 L2 x r49 ∧ ∃ r52, Q_x_X9_isSet r49 r52 ∧ K_x_X9_isSet r49 r52 ∧ (((r52.toInt = (0 : Int)) ∧ ∃ y, Rd y ∧ Kd y ∧ false = false ∧ r = 0 ∧ u = y) ∨ ((r52.toInt ≠ (0 : Int)) ∧ ((∃ u9, Q_x_X2_change L1 L2 R x s9 g9 p9 true u9 ∧ false = true ∧ r = 0 ∧ u = u9) ∨ (∃ y, Q_x_X2_change L1 L2 R x s9 g9 p9 false y ∧ K_x_X2_change x s9 g9 p9 y ∧ false = false ∧ r = 1 ∧ u = y)))))) → (x.1 0 321).toInt ≤ (u.1 0 321).toInt := fun hk h => by
    rcases h with ⟨-, y, h1, h2, -, -, eu⟩ | ⟨-, r49, -, r52, -, -, ⟨-, y, h1, h2, -, -, eu⟩ | ⟨-, ⟨u9, -, f, -⟩ | ⟨y, h1, h2, -, -, eu⟩⟩⟩
    · rw [eu, hk y h2]; exact Int.le_refl _
    · rw [eu, hk y h2]; exact Int.le_refl _
    · cases f
    · rw [eu]; exact mChangeM hM h1
  rcases h with ⟨q9, -, h⟩ | ⟨q9, r164, h4, r167, h5, -, h⟩
  · rcases h with ⟨c30, r18, h6, -, h⟩ | ⟨-, r84, -, u9, -, f, -⟩
    · rcases h with ⟨-, ⟨-, ⟨u9, -, f, -⟩ | ⟨u26, h7, k7, h⟩⟩ | ⟨-, r84, -, u9, -, f, -⟩⟩ | ⟨-, ⟨-, r84, -, u9, -, f, -⟩ | ⟨-, ⟨u9, -, f, -⟩ | ⟨u26, h7, k7, ⟨u9, -, f, -⟩ | ⟨u30, h30, k30, h⟩⟩⟩⟩
      · cases f
      · have := fc21 k7.1
        have := tail (Rd := fun y => Q_x_X2_read L1 L2 u26 r9 (-1) y) (Kd := fun y => K_x_X2_read u26 r9 (-1) y) (fun y k => fc21 k.1) h
        omega
      · cases f
      · cases f
      · cases f
      · cases f
      · have := fc21 k7.1
        have := mIndexM hM h30
        have := tail (Rd := fun y => Q_x_X1_add L1 L2 u30 8 (-1) 0 y) (Kd := fun y => K_x_X1_add u30 8 (-1) 0 y) (fun y k => fc21 k.1) h
        omega
    · cases f
  · rcases h with ⟨q7, h⟩ | ⟨q7, h⟩
    · rcases h with ⟨-, r18, -, -, ⟨-, r84, -, u9, -, f, -⟩ | ⟨-, r84, -, u9, -, f, -⟩⟩ | ⟨c30, ⟨u9, -, f, -⟩ | ⟨u198, h7, k7, -, er, eu⟩⟩
      · cases f
      · cases f
      · cases f
      · rw [eu]; exact mCallM hM h7
    · rcases h with ⟨c30, r18, h6, -, h⟩ | ⟨-, r84, -, u9, -, f, -⟩
      · rcases h with ⟨-, ⟨-, ⟨u9, -, f, -⟩ | ⟨u26, h7, k7, h⟩⟩ | ⟨-, r84, -, u9, -, f, -⟩⟩ | ⟨-, ⟨-, r84, -, u9, -, f, -⟩ | ⟨-, ⟨u9, -, f, -⟩ | ⟨u26, h7, k7, ⟨u9, -, f, -⟩ | ⟨u30, h30, k30, h⟩⟩⟩⟩
        · cases f
        · have := fc21 k7.1
          have := tail (Rd := fun y => Q_x_X2_read L1 L2 u26 r9 r167 y) (Kd := fun y => K_x_X2_read u26 r9 r167 y) (fun y k => fc21 k.1) h
          omega
        · cases f
        · cases f
        · cases f
        · cases f
        · have := fc21 k7.1
          have := mIndexM hM h30
          have := tail (Rd := fun y => Q_x_X1_add L1 L2 u30 8 r167 0 y) (Kd := fun y => K_x_X1_add u30 8 r167 0 y) (fun y k => fc21 k.1) h
          omega
      · cases f
theorem mUnaryM (hO : XMo o) (h : Q_x_X2_unary L1 L2 o v pa false u) : (v.1 0 321).toInt ≤ (u.1 0 321).toInt := by
  obtain ⟨-, -, -, -, -, -, -, -, -, -, h⟩ := h
  rcases h with ⟨u9, -, f, -⟩ | ⟨u2, h2, k2, ⟨u9, -, f, -⟩ | ⟨r16, u15, h15, k15, u18, h18, k18, u22, h22, k22, -, eu⟩⟩
  · cases f
  · cases f
  · have := fc21 k2.1
    have := hO _ _ _ _ h15
    have := fc21 k18.1
    have := fc21 k22.1
    rw [eu]
    omega
theorem eUnary (hO : XO L2 o O) (h : Q_x_X2_unary L1 L2 o v pa false u) (J : JC L2 e v) (B : LBe v) (tp : TPO v) (cu : (u.1 0 321).toInt ≤ 500) (hp : plE pa) (h4 : pa ≠ 4) : ∃ a bb, O false e (knC v) (v.1 0 314) (v.1 0 305 + 1) = some (bb, a, u.1 0 305) ∧ ES L2 e P v u (a ++ [evx pa 0 0]) ∧ DS v u 1 := by
  obtain ⟨-, -, -, -, -, -, -, -, -, -, h⟩ := h
  rcases h with ⟨u9, -, f, -⟩ | ⟨u2, h2, k2, ⟨u9, -, f, -⟩ | ⟨r16, u15, h15, k15, u18, h18, k18, u22, h22, k22, -, eu⟩⟩
  · cases f
  · cases f
  · rw [eu] at cu ⊢
    have T := ES.opn (P := P) h2 k2 J B
    have c1 : (u15.1 0 321).toInt ≤ 500 := by
      have := fc21 k18.1
      have := fc21 k22.1
      omega
    obtain ⟨a, x1, x2, x3⟩ := hO _ _ _ _ e P h15 k15 T.1.1 T.1.2.2.1 (tpo_e (tp_open k2 tp)) c1
    have C := ES.close (P := P) h18 k18 x2.1 x2.2.2.1
    have A := ES.add (P := P) (y := 0) h22 k22 C.1.1 C.1.2.2.1 hp (if_neg h4).symm
    rw [T.1.2.2.2.1, T.1.2.2.2.2.1, T.2, show decide ((0 : Int32).toInt ≠ 0) = false by decide] at x1
    have TT := ((T.1.tr x2 B).tr C.1 B).tr A.1 B
    rw [List.nil_append, List.append_nil] at TT
    refine ⟨a, _, by rw [x1, A.2, C.2], TT, ?_⟩
    have q1 := T.1.2.1.2.2.1
    have q3 := C.1.2.1.2.2.1
    have q4 := A.1.2.1.2.2.1
    unfold DS at x3 ⊢
    omega
end UNO
