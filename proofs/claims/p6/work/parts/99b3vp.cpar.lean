/-! the class's deeds: parameters -/
def gPars : Nat → PE → List Int32 → Int32 → Option (List Int32 × Int32)
  | 0, _, _, _ => none
  | f + 1, e, kn, i => (gTok e 10 i).bind fun j => if (e.1 (j + 1)).toInt = 37 then gPars f e (kn ++ [e.2.1 j]) (j + 1 + 1) else some (kn ++ [e.2.1 j], j + 1)
/-- i: the opening parenthesis -/
def gParams (e : PE) (i : Int32) : Option (List Int32 × Int32) := (if (e.1 (i + 1)).toInt = 31 then some ([], i + 1) else gPars 1502 e [] (i + 1)).bind fun q => (gTok e 31 q.2).bind fun j => some (q.1, j)
/-- i: the name -/
def gFunc (S : EvS) (e : PE) (i : Int32) : Option (List Int32 × List EV × Int32) := (gParams e (i + 1)).bind fun q => (gTok e 32 q.2).bind fun j => (gStats S 1502 e q.1 0 j).bind fun b => (gTok e 33 b.2.2).bind fun j => some (q.1, b.1, j)
section VPP
variable {L1 L2 : List Nat} {P P' : Int32 × Int32 × Int32} {v u w x y : MS} {a b c : List EV} {e : PE} {pa pb pc1 r r3 r7 : Int32} {n N : Nat}
theorem eParam (h : Q_x_X5_parameter L1 L2 v false u) (J : JC L2 e v) (B : LBe v) (f : Nat) : (gPars (f + 1) e (knC v) (v.1 0 305) = if (e.1 (u.1 0 305)).toInt = 37 then gPars f e (knC u) (u.1 0 305 + 1) else some (knC u, u.1 0 305)) ∧ SS L2 e P v u [] := by
  obtain ⟨-, -, -, -, -, -, -, h⟩ := h
  rcases h with ⟨u9, -, f9, -⟩ | ⟨u2, h2, k2, ⟨u9, -, f9, -⟩ | ⟨r11, u10, h10, k10, ⟨c8, ⟨u9, -, f9, -⟩ | ⟨u21, h21, k21, ⟨u9, -, f9, -⟩ | ⟨u27, h27, k27, u32, h32, k32, -, eu⟩⟩⟩ | ⟨c8, r45, -, u9, -, f9, -⟩⟩⟩
  · cases f9
  · cases f9
  · cases f9
  · cases f9
  · have X := ES.exp (P := P) (m := 10) (by decide) h2 k2 J B
    have n10 : u10 = u2 ∧ r11 = e.2.1 (u2.1 0 305) := by
      obtain ⟨-, -, -, -, -, -, -, h10⟩ := h10
      rcases h10 with ⟨u9, -, f, -⟩ | ⟨x, hx, -, r8, -, r13, -, -, ⟨-, r18, h18, -, er, eu⟩ | ⟨-, r25, -, u9, -, f, -⟩⟩
      · cases f
      · obtain ⟨ex, -⟩ := eNeed (m := 2) (by decide) hx X.1.1
        rw [ex] at h18 eu
        exact ⟨eu, er.trans (vlC h18 X.1.1)⟩
      · cases f
    rw [n10.1] at h21 k21 c8
    have e21 : u21.1 0 305 = u2.1 0 305 := k21.1.2.1 305 (by decide)
    have W : ES L2 e P u2 u21 [] := ES.fr k21.1 k21.2.2 X.1.1 X.1.2.2.1 (by rw [e21]; exact ⟨Int.le_refl _, X.1.2.2.1.2.1⟩) (by rw [e21, k21.1.2.1 307 (by decide)]; exact X.1.1.2.1)
    have T := ES.take (P := P) h27 k27 W.1 W.2.2.1
    have Lr := SS.lrn (P := P) h32 k32 T.1.1 T.1.2.2.1 (by rw [T.1.2.2.2.2.2, W.2.2.2.2.2]; omega)
    rw [eu]
    have Z := (((X.1.ss (KT.fc k2.1) k2.1).tr (W.ss (KT.fc k21.1) k21.1) B).tr (T.1.ss (KT.fc k27.1) k27.1) B).tr Lr.1 B
    refine ⟨?_, Z⟩
    have q1 : u32.1 0 305 = u2.1 0 305 + 1 := by rw [Lr.2.1, T.2, e21]
    have q2 : knC u32 = knC v ++ [e.2.1 (u2.1 0 305)] := by rw [Lr.2.2, T.1.2.2.2.1, W.2.2.2.1, X.1.2.2.2.1, n10.2]
    rw [q1, q2]
    show (gTok e 10 (v.1 0 305)).bind _ = _
    rw [X.2, Option.bind_some]
  · cases f9
theorem eParams (h : Q_x_X5_parameters L1 L2 v false u) (J : JC L2 e v) (B : LBe v) (t6 : T6 v) (k0 : knC v = []) (h1 : 1 ≤ (v.1 0 305).toInt) : gParams e (v.1 0 305) = some (knC u, u.1 0 305) ∧ SS L2 e P v u [] := by
  obtain ⟨-, -, -, -, -, -, -, -, h⟩ := h
  rcases h with ⟨u9, -, f, -⟩ | ⟨u2, h2, k2, r7, hk, h⟩
  · cases f
  have O1 := ES.opn (P := P) h2 k2 J B
  have ek := kdC hk O1.1.1
  rw [O1.2] at ek
  have S2 : SS L2 e P v u2 [] := O1.1.ss (KT.fc k2.1) k2.1
  have q5 : (u2.1 0 305).toInt = (v.1 0 305).toInt + 1 := k2.2.2.2.2.1
  have fin : ∀ {x y z : MS}, SS L2 e P v x [] → Q_x_X9_expect L1 L2 x 31 false y → K_x_X9_expect x 31 y → Q_x_X9_close L1 L2 y z → K_x_X9_close y z → gTok e 31 (x.1 0 305) = some (z.1 0 305) ∧ knC z = knC x ∧ SS L2 e P v z [] := by
    intro x y z S hx kx hc kc
    have X := ES.exp (P := P) (m := 31) (by decide) hx kx S.1.1 S.1.2.2
    have C := ES.close (P := P) hc kc X.1.1 X.1.2.2.1
    have T := (S.tr (X.1.ss (KT.fc kx.1) kx.1) B).tr (C.1.ss (KT.fc kc.1) kc.1) B
    exact ⟨by rw [C.2]; exact X.2, by rw [C.1.2.2.2.1, X.1.2.2.2.1], T⟩
  unfold gParams
  rcases h with ⟨c, ⟨u9, -, f, -⟩ | ⟨u12, h12, k12, u16, h16, k16, -, eu⟩⟩ | ⟨c, ⟨u9, -, f, -⟩ | ⟨u34, h34, k34, ka, w25, hr, -, b5, b6, b12, bk, -, -, -, -, h⟩⟩
  · cases f
  · rw [eu]
    have Z := fin S2 h12 k12 h16 k16
    rw [if_pos (by rw [← ek]; exact c), Option.bind_some]
    refine ⟨?_, Z.2.2⟩
    show (gTok e 31 (v.1 0 305 + 1)).bind _ = _
    rw [← O1.2, Z.1, Option.bind_some, Z.2.1, O1.1.2.2.2.1, k0]
  · cases f
  · rw [if_neg (by rw [← ek]; exact c)]
    have kn2 : knC u2 = [] := O1.1.2.2.2.1.trans k0
    have inv : SS L2 e P v w25 [] ∧ (v.1 0 305).toInt + ka.toInt + 1 ≤ (w25.1 0 305).toInt ∧ ∃ f : Nat, 1500 - (w25.1 0 305).toInt < (f : Int) ∧ gPars 1502 e [] (v.1 0 305 + 1) = if (e.1 (w25.1 0 305)).toInt = 37 then gPars f e (knC w25) (w25.1 0 305 + 1) else some (knC w25, w25.1 0 305) := by
      refine RT.ind (fun (q : Int32 × MS) => SS L2 e P v q.2 [] ∧ (v.1 0 305).toInt + q.1.toInt + 1 ≤ (q.2.1 0 305).toInt ∧ ∃ f : Nat, 1500 - (q.2.1 0 305).toInt < (f : Int) ∧ gPars 1502 e [] (v.1 0 305 + 1) = if (e.1 (q.2.1 0 305)).toInt = 37 then gPars f e (knC q.2) (q.2.1 0 305 + 1) else some (knC q.2, q.2.1 0 305)) hr ?_ ?_
      · have Z := eParam (P := P) h34 O1.1.1 O1.1.2.2.1 1501
        have t5 := k34.2.2.2.2.1
        have z0 : (0 : Int32).toInt = 0 := by decide
        refine ⟨S2.tr Z.2 B, by show (v.1 0 305).toInt + (0 : Int32).toInt + 1 ≤ (u34.1 0 305).toInt; omega, 1501, by show 1500 - (u34.1 0 305).toInt < _; omega, ?_⟩
        have g := Z.1
        rw [kn2, O1.2] at g
        exact g
      · rintro ⟨k9, w1⟩ y - ⟨I1, I2, f, I3, I4⟩ hy
        obtain ⟨-, j5, j6, j12, hk9, -, -, -, -, lt, r59, h59, c37, u80, h80, k80, u90, h90, k90, rfl⟩ := hy
        have I1 : SS L2 e P v w1 [] := I1
        have I2 : (v.1 0 305).toInt + k9.toInt + 1 ≤ (w1.1 0 305).toInt := I2
        have I3 : 1500 - (w1.1 0 305).toInt < (f : Int) := I3
        have I4 : gPars 1502 e [] (v.1 0 305 + 1) = if (e.1 (w1.1 0 305)).toInt = 37 then gPars f e (knC w1) (w1.1 0 305 + 1) else some (knC w1, w1.1 0 305) := I4
        have j5 : 0 ≤ (w1.1 0 305).toInt ∧ (w1.1 0 305).toInt ≤ 1500 := j5
        have hk9 : 0 ≤ k9.toInt ∧ k9.toInt ≤ 1500 := hk9
        have lt : k9.toInt < 1500 := lt
        have c37 : r59.toInt = 37 := c37
        have ek := kdC h59 I1.1.1
        have T := ES.take (P := P) h80 k80 I1.1.1 I1.1.2.2
        obtain ⟨f0, hf⟩ : ∃ f0, f = f0 + 1 := ⟨f - 1, by omega⟩
        have Z := eParam (P := P) h90 T.1.1 T.1.2.2.1 f0
        have ke : (k9 + (1 : Int32)).toInt = k9.toInt + 1 := add_z rfl (by decide) (by omega) (by omega)
        have t5 := k90.2.2.2.2.1
        have s5 := k80.2.2.1
        have s5 : (u80.1 0 305).toInt = (w1.1 0 305).toInt + 1 := s5
        refine ⟨(I1.tr (T.1.ss (KT.fc k80.1) k80.1) B).tr Z.2 B, by show (v.1 0 305).toInt + (k9 + (1 : Int32)).toInt + 1 ≤ (u90.1 0 305).toInt; omega, f0, by show 1500 - (u90.1 0 305).toInt < _; omega, ?_⟩
        rw [I4, if_pos (by rw [← ek]; exact c37), hf]
        have g := Z.1
        have kn : knC u80 = knC w1 := T.1.2.2.2.1
        have t2 : u80.1 0 305 = w1.1 0 305 + 1 := T.2
        rw [kn, t2] at g
        exact g
    obtain ⟨S1, I2, f, I3, I4⟩ := inv
    rcases h with ⟨q, -⟩ | ⟨-, r59, h59, ⟨c37, ⟨u9, -, f9, -⟩ | ⟨u64, h64, k64, u68, h68, k68, -, eu⟩⟩ | ⟨-, ⟨u9, -, f9, -⟩ | ⟨u80, -, -, u9, -, f9, -⟩⟩⟩
    · omega
    · cases f9
    · rw [eu]
      have Z := fin S1 h64 k64 h68 k68
      have ek := kdC h59 S1.1.1
      refine ⟨?_, Z.2.2⟩
      rw [I4, if_neg (by rw [← ek]; exact c37), Option.bind_some]
      show (gTok e 31 (w25.1 0 305)).bind _ = _
      rw [Z.1, Option.bind_some, Z.2.1]
    · cases f9
    · cases f9
end VPP
