/-! the class's deeds: while, do -/
section VLW
variable {L1 L2 : List Nat} {P P' : Int32 × Int32 × Int32} {v u w x y : MS} {a b c : List EV} {e : PE} {pa pb pc1 r r3 r7 : Int32} {E : EvE} {S : EvS} {R : MS → Bool → MS → Prop} {n N : Nat} {M : Int} {s : List SG}
/-- the body's labels -/
def lpP (y : MS) : Int32 × Int32 × Int32 := (y.1 0 331, y.1 0 332, y.1 0 333)
theorem lpP.sw (h : SW y x) : LPq (lpP y) x := ⟨h.2.2.1.1.symm, h.2.2.1.2.1.symm, h.2.2.1.2.2.symm⟩
/-- a jump laid: all that goes on -/
theorem ES.jl (h : Q_x_X1_add L1 L2 v pa pb 0 u) (k : K_x_X1_add v pa pb 0 u) (J : JC L2 e v) (B : LBe v) : (JC L2 e u ∧ LBe u) ∧ SW v u ∧ (knC u = knC v ∧ u.1 0 312 = v.1 0 312 ∧ u.1 0 305 = v.1 0 305 ∧ u.1 0 317 = v.1 0 317 ∧ u.1 0 321 = v.1 0 321 ∧ u.1 0 306 = v.1 0 306) := by
  have g5 : u.1 0 305 = v.1 0 305 := k.1.2.1 305 (by decide)
  have g17 : u.1 0 317 = v.1 0 317 := k.1.2.1 317 (by decide)
  exact ⟨⟨J.fr k.1 k.2.2.2 (by decide) (by decide) (by rw [g5, k.1.2.1 307 (by decide)]; exact J.2.1), by rw [g5, g17]; exact B.1, by rw [g5]; exact B.2.1, by rw [k.1.2.1 312 (by decide)]; exact B.2.2.1, k.2.1.1, by rw [k.1.2.1 321 (by decide)]; exact B.2.2.2.2⟩, SW.fc k.1, knC_fr k.1, k.1.2.1 312 (by decide), g5, g17, k.1.2.1 321 (by decide), k.1.2.1 306 (by decide)⟩
theorem ES.sl (h : Q_x_X1_setLabel L1 L2 v pa u) (k : K_x_X1_setLabel v pa u) (J : JC L2 e v) (B : LBe v) : (JC L2 e u ∧ LBe u) ∧ SW v u ∧ (knC u = knC v ∧ u.1 0 312 = v.1 0 312 ∧ u.1 0 305 = v.1 0 305 ∧ u.1 0 317 = v.1 0 317 ∧ u.1 0 321 = v.1 0 321 ∧ u.1 0 306 = v.1 0 306) := by
  have g5 : u.1 0 305 = v.1 0 305 := k.1.2.1 305 (by decide)
  have g17 : u.1 0 317 = v.1 0 317 := k.1.2.1 317 (by decide)
  exact ⟨⟨J.fr k.1 k.2 (by decide) (by decide) (by rw [g5, k.1.2.1 307 (by decide)]; exact J.2.1), by rw [g5, g17]; exact B.1, by rw [g5]; exact B.2.1, by rw [k.1.2.1 312 (by decide)]; exact B.2.2.1, by rw [k.1.2.1 381 (by decide)]; exact B.2.2.2.1, by rw [k.1.2.1 321 (by decide)]; exact B.2.2.2.2⟩, SW.fc k.1, knC_fr k.1, k.1.2.1 312 (by decide), g5, g17, k.1.2.1 321 (by decide), k.1.2.1 306 (by decide)⟩
theorem SW.rf : SW v v := ⟨rfl, KT.rf, ⟨rfl, rfl, rfl⟩, Int.le_refl _, fun _ _ => rfl⟩
theorem SW.es {fl al : List Nat} (h : ES L2 e P v u a) (k : KT v u) (f : FC fl al v u) (g : 331 ∉ fl ∧ 332 ∉ fl ∧ 333 ∉ fl := by decide) (g2 : 311 ∉ al := by decide) : SW v u := (h.ss k f g g2).2
theorem SW.t6 (h : SW v u) (t6 : T6 v) (h6 : 0 ≤ (u.1 0 306).toInt) : T6 u := t6.kt h.2.1 h6
theorem eWhile (hE : XE L2 (QE L1 L2 (n - 1)) E) (hK : XK (QE L1 L2 (n - 1))) (hS : XS L2 R S) (hR : XMs R) (h : Q_x_X5_whileRest L1 L2 n R y false w) (Y : LGB L2 e v y N) (B : LBe v) (p0 : v.1 0 314 = 0) (cw : (w.1 0 321).toInt ≤ 500) : ∃ c b j, gCond E e (knC v) (v.1 0 314) (v.1 0 305 + 1) = some (c, j) ∧ gInner S e (knC v) (v.1 0 314) j = some (b, knC v, w.1 0 305) ∧ LGE ((N : Int) + 2) L2 e v y w [.inr (.inr (N + 1)), .inl (P, [evx 24 0 0]), .inl (P, c), .inr (.inl (16, N)), .inl (lpP y, b), .inr (.inl (19, N + 1))] := by
  obtain ⟨-, -, -, -, -, -, -, -, -, -, u2, h2, k2, u6, h6, k6, h⟩ := h
  rcases h with ⟨u9, -, f, -⟩ | ⟨u26, h26, k26, u29, h29, k29, ⟨u9, -, f, -⟩ | ⟨u43, h43, k43, u46, h46, k46, -, eu⟩⟩
  · cases f
  · cases f
  rw [eu] at cw ⊢
  obtain ⟨⟨J, By, t6⟩, F, ⟨y1, y2⟩, ⟨y3, y4, y5⟩, ⟨y6, y7⟩, ⟨y8, y9, y10, y11, y12⟩, y13, y14⟩ := Y
  have h0 := B.2.2.2.1
  have E0 : EAs ((N : Int) + 2) v y [] := EAs.beg F (by rw [y8]) (by omega)
  have E1 := E0.set h0 h2 (l := N + 1) (by rw [y4]; omega) ⟨by omega, by omega⟩ (fun q => nomatch q)
  have S1 := ES.sl h2 k2 J By
  have A := ES.add (P := P) (y := 0) h6 k6 S1.1.1 S1.1.2 (by unfold plE; decide) rfl
  have E2 := E1.1.ea h0 A.1.2.1
  have W6 : SW y u6 := S1.2.1.tr (SW.fc k6.1)
  have t66 : T6 u6 := W6.t6 t6 (by rw [k6.1.2.1 306 (by decide), S1.2.2.2.2.2.2.2]; exact t6.2)
  have c43 : (u43.1 0 321).toInt ≤ 500 := by have := fc21 k46.1; omega
  have c26 : (u26.1 0 321).toInt ≤ 500 := by
    have := fc21 k29.1
    have := mInnerM hR h43
    omega
  obtain ⟨c, x1, x2, x3, x4⟩ := eCond2 (P := P) hE hK h26 A.1.1 A.1.2.2.1 t66 c26
  have E3 := E2.ea h0 x2.2.1
  have W26 : SW y u26 := W6.tr (SW.es x2 x3 k26.1)
  have E4 := E3.jmp h0 h29 (l := N) (by rw [W26.2.2.1.1]; exact y3)
  have S4 := ES.jl h29 k29 x2.1 x2.2.2.1
  have W29 : SW y u29 := W26.tr S4.2.1
  obtain ⟨b, z1, z2, z3, z4⟩ := eInner hS h43 S4.1.1 S4.1.2 (W29.t6 t6 (by rw [S4.2.2.2.2.2.2.2]; exact k26.2.2.1.1)) (by rw [W29.1, y11]; exact p0) c43 (lpP.sw W29)
  have E5 := E4.ea h0 z2.1.2.1
  have W43 : SW y u43 := W29.tr z2.2
  have E6 := E5.jmp h0 h46 (l := N + 1) (by rw [W43.2.2.1.2.1, y4]; omega)
  have S6 := ES.jl h46 k46 z2.1.1 z2.1.2.2
  have q6 : u6.1 0 305 = y.1 0 305 := by rw [A.2, S1.2.2.2.2.1]
  have q617 : u6.1 0 317 = y.1 0 317 := by rw [k6.1.2.1 317 (by decide), S1.2.2.2.2.2.1]
  have kn6 : knC u6 = knC v := by rw [A.1.2.2.2.1, S1.2.2.1, y12]
  have kn29 : knC u29 = knC v := by rw [S4.2.2.1, x2.2.2.2.1, kn6]
  refine ⟨c, b, u26.1 0 305, ?_, ?_, E6, ⟨S6.1.1, S6.1.2.2.1⟩, W43.tr S6.2.1, ⟨?_, ?_⟩, ?_⟩
  · rw [kn6, W6.1, y11, q6, y6] at x1
    exact x1
  · rw [kn29, W29.1, y11, S4.2.2.2.2.1] at z1
    rw [S6.2.2.2.2.1]
    exact z1
  · rw [S6.2.2.1, z3, kn29]
  · rw [S6.2.2.2.1, z4, S4.2.2.2.1, x2.2.2.2.2.2, A.1.2.2.2.2.2, S1.2.2.2.1, y10]
  · have d1 := z2.1.2.1.2.2.1
    rw [S4.2.2.2.2.1, S4.2.2.2.2.2.1] at d1
    unfold DS at x4
    rw [q6, q617] at x4
    rw [S6.2.2.2.2.1, S6.2.2.2.2.2.1]
    omega
theorem eDo (hE : XE L2 (QE L1 L2 (n - 1)) E) (hK : XK (QE L1 L2 (n - 1))) (hM : XM (QE L1 L2 (n - 1))) (hS : XS L2 R S) (hR : XMs R) (h : Q_x_X5_doRest L1 L2 n R y false w) (Y : LGB L2 e v y N) (B : LBe v) (p0 : v.1 0 314 = 0) (cw : (w.1 0 321).toInt ≤ 500) : ∃ b c j j2, gInner S e (knC v) (v.1 0 314) (v.1 0 305 + 1) = some (b, knC v, j) ∧ (∃ j1, gTok e 13 j = some j1 ∧ gCond E e (knC v) (v.1 0 314) j1 = some (c, j2)) ∧ gTok e 36 j2 = some (w.1 0 305) ∧ LGE ((N : Int) + 3) L2 e v y w [.inr (.inr (N + 2)), .inl (P, [evx 24 0 0]), .inl (lpP y, b), .inr (.inr (N + 1)), .inl (P, c), .inr (.inl (17, N + 2))] := by
  obtain ⟨-, -, -, -, -, -, -, -, -, -, r3, u2, h2, k2, u6, h6, k6, u10, h10, k10, h⟩ := h
  rcases h with ⟨u9, -, f, -⟩ | ⟨u36, h36, k36, u39, h39, k39, ⟨u9, -, f, -⟩ | ⟨u47, h47, k47, ⟨u9, -, f, -⟩ | ⟨u64, h64, k64, u67, h67, k67, ⟨u9, -, f, -⟩ | ⟨u75, h75, k75, -, eu⟩⟩⟩⟩
  · cases f
  · cases f
  · cases f
  · cases f
  rw [eu] at cw ⊢
  obtain ⟨⟨J, By, t6⟩, F, ⟨y1, y2⟩, ⟨y3, y4, y5⟩, ⟨y6, y7⟩, ⟨y8, y9, y10, y11, y12⟩, y13, y14⟩ := Y
  have h0 := B.2.2.2.1
  obtain ⟨J2, F2, q17, rr, -, e5, e81, e21, e12, e14, ekn⟩ := ES.lab h2 k2 J By
  have i2 : (u2.1 0 317).toInt = (N : Int) + 3 := by omega
  have b1 := B.1
  have B2 : LBe u2 := ⟨⟨by omega, by rw [e5]; omega⟩, by rw [e5]; exact By.2.1, by rw [e12]; exact By.2.2.1, by rw [e81]; exact By.2.2.2.1, by rw [e21]; exact By.2.2.2.2⟩
  have E0 : EAs ((N : Int) + 3) v u2 [] := EAs.beg (F.tr F2 (by omega) (by rw [y9]; exact Int.le_refl _)) (by rw [e81, y8]) (by omega)
  have E1 := E0.set h0 h6 (l := N + 2) (by rw [rr]; omega) ⟨by omega, by omega⟩ (fun q => nomatch q)
  have S1 := ES.sl h6 k6 J2 B2
  have A := ES.add (P := P) (y := 0) h10 k10 S1.1.1 S1.1.2 (by unfold plE; decide) rfl
  have E2 := E1.1.ea h0 A.1.2.1
  have W10 : SW y u10 := ((SW.fc k2.1).tr S1.2.1).tr (SW.fc k10.1)
  have t10 : T6 u10 := W10.t6 t6 (by rw [k10.1.2.1 306 (by decide), S1.2.2.2.2.2.2.2, k2.1.2.1 306 (by decide)]; exact t6.2)
  have c64 : (u64.1 0 321).toInt ≤ 500 := by have := fc21 k67.1; have := fc21 k75.1; omega
  have c36 : (u36.1 0 321).toInt ≤ 500 := by
    have := fc21 k39.1
    have := fc21 k47.1
    have := mCondM hM h64
    omega
  obtain ⟨b, z1, z2, z3, z4⟩ := eInner hS h36 A.1.1 A.1.2.2.1 t10 (by rw [W10.1, y11]; exact p0) c36 (lpP.sw W10)
  have E3 := E2.ea h0 z2.1.2.1
  have W36 : SW y u36 := W10.tr z2.2
  have E4 := E3.set h0 h39 (l := N + 1) (by rw [W36.2.2.1.2.1, y4]; omega) ⟨by omega, by omega⟩ (by
    show N + 1 ∉ [N + 2]
    intro q
    have := List.mem_singleton.mp q
    omega)
  have S4 := ES.sl h39 k39 z2.1.1 z2.1.2.2
  have X1 := ES.exp (P := P) (m := 13) (by decide) h47 k47 S4.1.1 S4.1.2
  have W47 : SW y u47 := (W36.tr S4.2.1).tr (SW.fc k47.1)
  have t47 : T6 u47 := W47.t6 t6 (by rw [k47.1.2.1 306 (by decide), S4.2.2.2.2.2.2.2]; exact k36.2.2.1.1)
  obtain ⟨c, x1, x2, x3⟩ := eCond (P := P) hE hK h64 X1.1.1 X1.1.2.2.1 t47 c64
  have E5 := (E4.1.nl h0 X1.1.2.1).ea h0 x2.2.1
  have W64 : SW y u64 := W47.tr (SW.es x2 x3 k64.1)
  have E6 := E5.jmp h0 h67 (l := N + 2) (by rw [rr]; omega)
  have S6 := ES.jl h67 k67 x2.1 x2.2.2.1
  have X2 := ES.exp (P := P) (m := 36) (by decide) h75 k75 S6.1.1 S6.1.2
  have E7 := E6.nl h0 X2.1.2.1
  have q10 : u10.1 0 305 = y.1 0 305 := by rw [A.2, S1.2.2.2.2.1, e5]
  have q1017 : u10.1 0 317 = u2.1 0 317 := by rw [k10.1.2.1 317 (by decide), S1.2.2.2.2.2.1]
  have kn10 : knC u10 = knC v := by rw [A.1.2.2.2.1, S1.2.2.1, ekn, y12]
  have kn47 : knC u47 = knC v := by rw [X1.1.2.2.2.1, S4.2.2.1, z3, kn10]
  refine ⟨b, c, u36.1 0 305, u64.1 0 305, ?_, ⟨u47.1 0 305, ?_, ?_⟩, ?_, E7, ⟨X2.1.1, X2.1.2.2.1.2.1⟩, (W64.tr S6.2.1).tr (SW.fc k75.1), ⟨?_, ?_⟩, ?_⟩
  · rw [kn10, W10.1, y11, q10, y6] at z1
    exact z1
  · have g := X1.2
    rw [S4.2.2.2.2.1] at g
    exact g
  · rw [kn47, W47.1, y11] at x1
    exact x1
  · have g := X2.2
    rw [S6.2.2.2.2.1] at g
    exact g
  · rw [X2.1.2.2.2.1, S6.2.2.1, x2.2.2.2.1, kn47]
  · rw [X2.1.2.2.2.2.2, S6.2.2.2.1, x2.2.2.2.2.2, X1.1.2.2.2.2.2, S4.2.2.2.1, z4, A.1.2.2.2.2.2, S1.2.2.2.1, e12, y10]
  · have d1 := z2.1.2.1.2.2.1
    rw [q10, q1017] at d1
    have d2 := x2.2.1.2.2.1
    have d3 := k47.2.2.1
    have d4 := k75.2.2.1
    have d5 := k47.1.2.1 317 (by decide)
    have d6 := k75.1.2.1 317 (by decide)
    rw [S4.2.2.2.2.1] at d3
    rw [S4.2.2.2.2.2.1] at d5
    rw [S6.2.2.2.2.1] at d4
    rw [S6.2.2.2.2.2.1] at d6
    rw [d5] at d2
    rw [d6]
    omega
end VLW
