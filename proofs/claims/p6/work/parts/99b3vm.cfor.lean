/-! the class's deeds: for -/
/-- on the way through a loop -/
def LR (M : Int) (L2 : List Nat) (e : PE) (v y x : MS) (s : List SG) : Prop := EAs M v x s ∧ (JC L2 e x ∧ LBe x ∧ T6 x) ∧ SW y x ∧ (knC x = knC v ∧ x.1 0 312 = v.1 0 312)
section VMF
variable {L1 L2 : List Nat} {P P' : Int32 × Int32 × Int32} {v u w x y : MS} {a b c : List EV} {e : PE} {pa pb pc1 r r3 r7 : Int32} {E : EvE} {S : EvS} {R : MS → Bool → MS → Prop} {n N : Nat} {M : Int} {s : List SG}
theorem LR.es {fl al : List Nat} (h : LR M L2 e v y x s) (h0 : 0 ≤ (v.1 0 381).toInt) (H : ES L2 e P x u a) (k : KT x u) (f : FC fl al x u) (h6 : 0 ≤ (u.1 0 306).toInt) (g : 331 ∉ fl ∧ 332 ∉ fl ∧ 333 ∉ fl := by decide) (g2 : 311 ∉ al := by decide) : LR M L2 e v y u (s ++ [.inl (P, a)]) := by
  have W := h.2.2.1.tr (SW.es H k f g g2)
  exact ⟨h.1.ea h0 H.2.1, ⟨H.1, H.2.2.1, (SW.es H k f g g2).t6 h.2.1.2.2 h6⟩, W, H.2.2.2.1.trans h.2.2.2.1, H.2.2.2.2.2.trans h.2.2.2.2⟩
theorem LR.nl {fl al : List Nat} (h : LR M L2 e v y x s) (h0 : 0 ≤ (v.1 0 381).toInt) (H : ES L2 e P x u []) (f : FC fl al x u) (h6 : 0 ≤ (u.1 0 306).toInt) (g : 331 ∉ fl ∧ 332 ∉ fl ∧ 333 ∉ fl := by decide) (g2 : 311 ∉ al := by decide) (g3 : 326 ∉ fl := by decide) (g4 : 324 ∉ al ∧ 325 ∉ al := by decide) : LR M L2 e v y u s := by
  have K : KT x u := KT.fc f g3 g4
  have W := h.2.2.1.tr (SW.es H K f g g2)
  exact ⟨h.1.nl h0 H.2.1, ⟨H.1, H.2.2.1, (SW.es H K f g g2).t6 h.2.1.2.2 h6⟩, W, H.2.2.2.1.trans h.2.2.2.1, H.2.2.2.2.2.trans h.2.2.2.2⟩
theorem LR.fr2 {fl al : List Nat} (h : LR M L2 e v y x s) (h0 : 0 ≤ (v.1 0 381).toInt) (H : ES L2 e P x u []) (K : KT x u) (f : FC fl al x u) (h6 : 0 ≤ (u.1 0 306).toInt) (g : 331 ∉ fl ∧ 332 ∉ fl ∧ 333 ∉ fl := by decide) (g2 : 311 ∉ al := by decide) : LR M L2 e v y u s := by
  have W := h.2.2.1.tr (SW.es H K f g g2)
  exact ⟨h.1.nl h0 H.2.1, ⟨H.1, H.2.2.1, (SW.es H K f g g2).t6 h.2.1.2.2 h6⟩, W, H.2.2.2.1.trans h.2.2.2.1, H.2.2.2.2.2.trans h.2.2.2.2⟩
theorem LR.jmp {tg : Int32} {l : Nat} (h : LR M L2 e v y x s) (h0 : 0 ≤ (v.1 0 381).toInt) (hq : Q_x_X1_add L1 L2 x tg pb 0 u) (k : K_x_X1_add x tg pb 0 u) (hl : pb.toInt = l) : LR M L2 e v y u (s ++ [.inr (.inl (tg, l))]) ∧ (u.1 0 305 = x.1 0 305 ∧ u.1 0 317 = x.1 0 317) := by
  have Z := ES.jl hq k h.2.1.1 h.2.1.2.1
  exact ⟨⟨h.1.jmp h0 hq hl, ⟨Z.1.1, Z.1.2, Z.2.1.t6 h.2.1.2.2 (by rw [Z.2.2.2.2.2.2.2]; exact h.2.1.2.2.2)⟩, h.2.2.1.tr Z.2.1, Z.2.2.1.trans h.2.2.2.1, Z.2.2.2.1.trans h.2.2.2.2⟩, Z.2.2.2.2.1, Z.2.2.2.2.2.1⟩
theorem LR.set {l : Nat} (h : LR M L2 e v y x s) (h0 : 0 ≤ (v.1 0 381).toInt) (hq : Q_x_X1_setLabel L1 L2 x pb u) (k : K_x_X1_setLabel x pb u) (hl : pb.toInt = l) (h1 : (v.1 0 317).toInt ≤ l ∧ (l : Int) < M) (h2 : l ∉ mks s) : LR M L2 e v y u (s ++ [.inr (.inr l)]) ∧ (u.1 0 305 = x.1 0 305 ∧ u.1 0 317 = x.1 0 317) := by
  have Z := ES.sl hq k h.2.1.1 h.2.1.2.1
  exact ⟨⟨(h.1.set h0 hq hl h1 h2).1, ⟨Z.1.1, Z.1.2, Z.2.1.t6 h.2.1.2.2 (by rw [Z.2.2.2.2.2.2.2]; exact h.2.1.2.2.2)⟩, h.2.2.1.tr Z.2.1, Z.2.2.1.trans h.2.2.2.1, Z.2.2.2.1.trans h.2.2.2.2⟩, Z.2.2.2.2.1, Z.2.2.2.2.2.1⟩
/-- an expression that may be missing -/
theorem eOpt {m : Int} (hm : pa.toInt = m) (hE : XE L2 (QE L1 L2 n) E) (hK : XK (QE L1 L2 n)) (h : Q_x_X5_optional L1 L2 n v pa false r u) (J : JC L2 e v) (B : LBe v) (t6 : T6 v) (cu : (u.1 0 321).toInt ≤ 500) : ∃ o, gOpt E m e (knC v) (v.1 0 314) (v.1 0 305) = some (o, u.1 0 305) ∧ ((r.toInt = 0 ∧ o = none ∧ ES L2 e P v u []) ∨ (r.toInt ≠ 0 ∧ ∃ a, o = some a ∧ ES L2 e P v u a)) ∧ KT v u := by
  obtain ⟨-, -, -, -, -, -, -, -, -, -, r3, hk, h⟩ := h
  have ek := kdC hk J
  unfold gOpt
  rcases h with ⟨c, ⟨u9, -, f, -⟩ | ⟨u7, h7, k7, -, er, eu⟩⟩ | ⟨c, -, er, eu⟩
  · cases f
  · rw [eu] at cu ⊢
    obtain ⟨a, x1, x2⟩ := hE.es (P := P) (bz := true) h7 k7 J B t6.tp cu (by decide)
    refine ⟨some a, ?_, Or.inr ⟨by rw [er]; decide, a, rfl, x2⟩, hK _ _ _ h7⟩
    rw [if_neg (by rw [← ek, ← hm]; exact c), x1]
    rfl
  · rw [eu]
    refine ⟨none, ?_, Or.inl ⟨by rw [er]; decide, rfl, ES.rf J B⟩, KT.rf⟩
    rw [if_pos (by rw [← ek, c]; exact hm)]
/-- what is dropped behind it -/
theorem eOptD {m : Int} (hm : pa.toInt = m) (hE : XE L2 (QE L1 L2 n) E) (hK : XK (QE L1 L2 n)) (h : Q_x_X5_optional L1 L2 n v pa false r u) (J : JC L2 e v) (B : LBe v) (t6 : T6 v) (cu : (u.1 0 321).toInt ≤ 500) : ∃ o, gOpt E m e (knC v) (v.1 0 314) (v.1 0 305) = some (o, u.1 0 305) ∧ ES L2 e P v u (dropE o) ∧ KT v u := by
  obtain ⟨o, x1, x2, x3⟩ := eOpt (P := P) hm hE hK h J B t6 cu
  refine ⟨o, x1, ?_, x3⟩
  rcases x2 with ⟨-, q, H⟩ | ⟨-, a, q, H⟩
  · rw [q]; exact H
  · rw [q]
    exact H.tr (ES.drp H.1 H.2.2.1) B
theorem mOptM (hM : XM (QE L1 L2 n)) (h : Q_x_X5_optional L1 L2 n v pa false r u) : (v.1 0 321).toInt ≤ (u.1 0 321).toInt := by
  obtain ⟨-, -, -, -, -, -, -, -, -, -, r3, hk, h⟩ := h
  rcases h with ⟨c, ⟨u9, -, f, -⟩ | ⟨u7, h7, k7, -, er, eu⟩⟩ | ⟨c, -, er, eu⟩
  · cases f
  · rw [eu]
    exact hM _ _ _ h7
  · rw [eu]
    exact Int.le_refl _
/-- from the step on -/
theorem eFor2 (hE : XE L2 (QE L1 L2 (n - 1)) E) (hK : XK (QE L1 L2 (n - 1))) (hS : XS L2 R S) (hR : XMs R) {m : Nat} {r136 : Int32} {u102 u105 u135 u140 u144 u149 u152 u186 : MS} (X : LR ((N : Int) + 4) L2 e v y x s) (h102 : Q_x_X1_add L1 L2 x 19 r7 0 u102) (k102 : K_x_X1_add x 19 r7 0 u102) (h105 : Q_x_X1_setLabel L1 L2 u102 (u102.1 0 332) u105) (k105 : K_x_X1_setLabel u102 (u102.1 0 332) u105) (h135 : Q_x_X5_optional L1 L2 (n - 1) u105 31 false r136 u135) (k135 : K_x_X5_optional u105 31 r136 u135) (h140 : Q_x_X9_expect L1 L2 u135 31 false u140) (k140 : K_x_X9_expect u135 31 u140) (h144 : Q_x_X9_close L1 L2 u140 u144) (k144 : K_x_X9_close u140 u144) (h149 : Q_x_X1_add L1 L2 u144 19 r3 0 u149) (k149 : K_x_X1_add u144 19 r3 0 u149) (h152 : Q_x_X1_setLabel L1 L2 u149 r7 u152) (k152 : K_x_X1_setLabel u149 r7 u152) (h186 : Q_x_X5_innerStat L1 L2 m R u152 false u186) (k186 : K_x_X5_innerStat u152 u186) (h189 : Q_x_X1_add L1 L2 u186 19 (u186.1 0 332) 0 w) (k189 : K_x_X1_add u186 19 (u186.1 0 332) 0 w) (h0 : 0 ≤ (v.1 0 381).toInt) (hN : (v.1 0 317).toInt = N) (y4 : (y.1 0 332).toInt = (N : Int) + 1) (r3e : r3.toInt = (N : Int) + 2) (r7e : r7.toInt = (N : Int) + 3) (hm : mks s = [N + 2]) (p0 : v.1 0 314 = 0) (y11 : y.1 0 314 = v.1 0 314) (cw : (w.1 0 321).toInt ≤ 500) : ∃ o b j j2, gOpt E 31 e (knC v) (v.1 0 314) (x.1 0 305) = some (o, j) ∧ gTok e 31 j = some j2 ∧ gInner S e (knC v) (v.1 0 314) j2 = some (b, knC v, w.1 0 305) ∧ LR ((N : Int) + 4) L2 e v y w (s ++ [.inr (.inl (19, N + 3))] ++ [.inr (.inr (N + 1))] ++ [.inl (P, dropE o)] ++ [.inr (.inl (19, N + 2))] ++ [.inr (.inr (N + 3))] ++ [.inl (lpP y, b)] ++ [.inr (.inl (19, N + 1))]) ∧ (w.1 0 317).toInt - (w.1 0 305).toInt + 1 ≤ (x.1 0 317).toInt - (x.1 0 305).toInt := by
  have c186 : (u186.1 0 321).toInt ≤ 500 := by have := fc21 k189.1; omega
  have c135 : (u135.1 0 321).toInt ≤ 500 := by
    have := fc21 k140.1
    have := fc21 k144.1
    have := fc21 k149.1
    have := fc21 k152.1
    have := mInnerM hR h186
    omega
  have X1 := X.jmp h0 h102 k102 (l := N + 3) (by rw [r7e]; omega)
  have X2 := X1.1.set h0 h105 k105 (l := N + 1) (by rw [X1.1.2.2.1.2.2.1.2.1, y4]; omega) ⟨by omega, by omega⟩ (by
    rw [mks_app, hm]
    show N + 1 ∉ [N + 2]
    intro q
    have := List.mem_singleton.mp q
    omega)
  obtain ⟨o, q1, q2, q3⟩ := eOptD (P := P) (m := 31) (by decide) hE hK h135 X2.1.2.1.1 X2.1.2.1.2.1 X2.1.2.1.2.2 c135
  have X3 := X2.1.es h0 q2 q3 k135.1 k135.2.2.1.1
  have Z4 := ES.exp (P := P) (m := 31) (by decide) h140 k140 X3.2.1.1 X3.2.1.2.1
  have X4 := X3.nl h0 Z4.1 k140.1 (by rw [k140.1.2.1 306 (by decide)]; exact k135.2.2.1.1)
  have Z5 := ES.close (P := P) h144 k144 X4.2.1.1 X4.2.1.2.1
  have X5 := X4.nl h0 Z5.1 k144.1 k144.2.1.1
  have X6 := X5.jmp h0 h149 k149 (l := N + 2) (by rw [r3e]; omega)
  have X7 := X6.1.set h0 h152 k152 (l := N + 3) (by rw [r7e]; omega) ⟨by omega, by omega⟩ (by
    simp only [mks_app, hm]
    show N + 3 ∉ [N + 2, N + 1]
    intro q
    rcases List.mem_cons.mp q with q | q
    · omega
    · have := List.mem_singleton.mp q
      omega)
  obtain ⟨b, z1, z2, z3, z4⟩ := eInner hS h186 X7.1.2.1.1 X7.1.2.1.2.1 X7.1.2.1.2.2 (by rw [X7.1.2.2.1.1, y11]; exact p0) c186 (lpP.sw X7.1.2.2.1)
  have X8 : LR ((N : Int) + 4) L2 e v y u186 _ := ⟨X7.1.1.ea h0 z2.1.2.1, ⟨z2.1.1, z2.1.2.2, X7.1.2.1.2.2.kt z2.2.2.1 k186.2.2.1.1⟩, X7.1.2.2.1.tr z2.2, z3.trans X7.1.2.2.2.1, z4.trans X7.1.2.2.2.2⟩
  have X9 := X8.jmp h0 h189 k189 (l := N + 1) (by rw [X8.2.2.1.2.2.1.2.1, y4]; omega)
  refine ⟨o, b, u135.1 0 305, u140.1 0 305, ?_, Z4.2, ?_, X9.1, ?_⟩
  · rw [X2.1.2.2.2.1, X2.1.2.2.1.1, y11, X2.2.1, X1.2.1] at q1
    exact q1
  · rw [X7.1.2.2.2.1, X7.1.2.2.1.1, y11, X7.2.1, X6.2.1, Z5.2] at z1
    rw [X9.2.1]
    exact z1
  · have d1 := q2.2.1.2.2.1
    rw [X2.2.1, X1.2.1, X2.2.2, X1.2.2] at d1
    have d2 := k140.2.2.1
    have d3 := k140.1.2.1 317 (by decide)
    have d4 := k144.1.2.1 317 (by decide)
    have d5 := z2.1.2.1.2.2.1
    rw [X7.2.1, X6.2.1, Z5.2, X7.2.2, X6.2.2, d4, d3] at d5
    rw [X9.2.1, X9.2.2]
    omega
/-- the loop's parts -/
def fsg (P P' : Int32 × Int32 × Int32) (N : Nat) (i : List EV) (c : Option (List EV)) (s b : List EV) : List SG :=
  match c with
  | none => [.inl (P, i), .inr (.inr (N + 2)), .inl (P, [evx 24 0 0]), .inr (.inl (19, N + 3)), .inr (.inr (N + 1)), .inl (P, s), .inr (.inl (19, N + 2)), .inr (.inr (N + 3)), .inl (P', b), .inr (.inl (19, N + 1))]
  | some c => [.inl (P, i), .inr (.inr (N + 2)), .inl (P, [evx 24 0 0]), .inl (P, c), .inr (.inl (16, N)), .inr (.inl (19, N + 3)), .inr (.inr (N + 1)), .inl (P, s), .inr (.inl (19, N + 2)), .inr (.inr (N + 3)), .inl (P', b), .inr (.inl (19, N + 1))]
theorem eFor (hE : XE L2 (QE L1 L2 (n - 1)) E) (hK : XK (QE L1 L2 (n - 1))) (hM : XM (QE L1 L2 (n - 1))) (hS : XS L2 R S) (hR : XMs R) (h : Q_x_X5_forRest L1 L2 n R y false w) (Y : LGB L2 e v y N) (B : LBe v) (p0 : v.1 0 314 = 0) (cw : (w.1 0 321).toInt ≤ 500) : ∃ i c s b, gFor E S e (knC v) (v.1 0 314) (v.1 0 305 + 1) = some (gForL i c s b, knC v, w.1 0 305) ∧ LGE ((N : Int) + 4) L2 e v y w (fsg P (lpP y) N i c s b) := by
  obtain ⟨-, -, -, -, -, -, -, -, -, -, r3, u2, h2, k2, r7, u6, h6, k6, h⟩ := h
  rcases h with ⟨u9, -, f, -⟩ | ⟨u15, h15, k15, ⟨u9, -, f, -⟩ | ⟨u24, h24, k24, ⟨u9, -, f, -⟩ | ⟨r50, u49, h49, k49, ⟨u9, -, f, -⟩ | ⟨u54, h54, k54, u58, h58, k58, u62, h62, k62, ⟨u9, -, f, -⟩ | ⟨r92, u91, h91, k91, h⟩⟩⟩⟩⟩
  · cases f
  · cases f
  · cases f
  · cases f
  · cases f
  obtain ⟨⟨J, By, t6⟩, F, ⟨y1, y2⟩, ⟨y3, y4, y5⟩, ⟨y6, y7⟩, ⟨y8, y9, y10, y11, y12⟩, y13, y14⟩ := Y
  have h0 := B.2.2.2.1
  have b1 := B.1
  have by1 := By.1
  obtain ⟨J2, F2, q17, rr3, -, e5, e81, e21, e12, e14, ekn⟩ := ES.lab h2 k2 J By
  have B2 : LBe u2 := ⟨⟨by omega, by rw [e5]; omega⟩, by rw [e5]; exact By.2.1, by rw [e12]; exact By.2.2.1, by rw [e81]; exact By.2.2.2.1, by rw [e21]; exact By.2.2.2.2⟩
  obtain ⟨J6, F6, t17, rr7, -, s5, s81, s21, s12, s14, skn⟩ := ES.lab h6 k6 J2 B2
  have e5i : (u2.1 0 305).toInt = (y.1 0 305).toInt := by rw [e5]
  have B6 : LBe u6 := ⟨⟨by omega, by rw [s5]; omega⟩, by rw [s5]; exact B2.2.1, by rw [s12]; exact B2.2.2.1, by rw [s81]; exact B2.2.2.2.1, by rw [s21]; exact B2.2.2.2.2⟩
  have W6 : SW y u6 := (SW.fc k2.1).tr (SW.fc k6.1)
  have E0 : EAs ((N : Int) + 4) v u6 [] := EAs.beg ((F.tr F2 (by omega) (by rw [y9]; exact Int.le_refl _)).tr F6 (by omega) (by rw [e21, y9]; exact Int.le_refl _)) (by rw [s81, e81, y8]) (by omega)
  have X0 : LR ((N : Int) + 4) L2 e v y u6 [] := ⟨E0, ⟨J6, B6, W6.t6 t6 (by rw [k6.1.2.1 306 (by decide), k2.1.2.1 306 (by decide)]; exact t6.2)⟩, W6, by rw [skn, ekn, y12], by rw [s12, e12, y10]⟩
  obtain ⟨n1, n2⟩ := eNeed (m := 30) (by decide) h15 J6
  rw [n1] at h24 k24
  have Z1 := ES.opn (P := P) h24 k24 X0.2.1.1 X0.2.1.2.1
  have X1 := X0.nl h0 Z1.1 k24.1 k24.2.2.1.1
  have m91 : (u91.1 0 321).toInt ≤ (w.1 0 321).toInt := by
    rcases h with ⟨c, ⟨u9, -, f, -⟩ | ⟨u98, h98, k98, u102, h102, k102, u105, h105, k105, ⟨u9, -, f, -⟩ | ⟨r136, u135, h135, k135, ⟨u9, -, f, -⟩ | ⟨u140, h140, k140, u144, h144, k144, u149, h149, k149, u152, h152, k152, ⟨u9, -, f, -⟩ | ⟨u186, h186, k186, u189, h189, k189, -, eu⟩⟩⟩⟩⟩ | ⟨c, u199, h199, k199, ⟨u9, -, f, -⟩ | ⟨u98, h98, k98, u102, h102, k102, u105, h105, k105, ⟨u9, -, f, -⟩ | ⟨r136, u135, h135, k135, ⟨u9, -, f, -⟩ | ⟨u140, h140, k140, u144, h144, k144, u149, h149, k149, u152, h152, k152, ⟨u9, -, f, -⟩ | ⟨u186, h186, k186, u189, h189, k189, -, eu⟩⟩⟩⟩⟩
    · cases f
    · cases f
    · cases f
    · cases f
    · rw [eu]
      have := fc21 k98.1
      have := fc21 k102.1
      have := fc21 k105.1
      have := mOptM hM h135
      have := fc21 k140.1
      have := fc21 k144.1
      have := fc21 k149.1
      have := fc21 k152.1
      have := mInnerM hR h186
      have := fc21 k189.1
      omega
    · cases f
    · cases f
    · cases f
    · cases f
    · rw [eu]
      have := fc21 k199.1
      have := fc21 k98.1
      have := fc21 k102.1
      have := fc21 k105.1
      have := mOptM hM h135
      have := fc21 k140.1
      have := fc21 k144.1
      have := fc21 k149.1
      have := fc21 k152.1
      have := mInnerM hR h186
      have := fc21 k189.1
      omega
  have c91 : (u91.1 0 321).toInt ≤ 500 := by omega
  have c49 : (u49.1 0 321).toInt ≤ 500 := by
    have := fc21 k54.1
    have := fc21 k58.1
    have := fc21 k62.1
    have := mOptM hM h91
    omega
  obtain ⟨oi, i1, i2, i3⟩ := eOptD (P := P) (m := 36) (by decide) hE hK h49 X1.2.1.1 X1.2.1.2.1 X1.2.1.2.2 c49
  have X2 := X1.es h0 i2 i3 k49.1 k49.2.2.1.1
  have Z3 := ES.exp (P := P) (m := 36) (by decide) h54 k54 X2.2.1.1 X2.2.1.2.1
  have X3 := X2.nl h0 Z3.1 k54.1 (by rw [k54.1.2.1 306 (by decide)]; exact k49.2.2.1.1)
  have X4 := X3.set h0 h58 k58 (l := N + 2) (by rw [rr3]; omega) ⟨by omega, by omega⟩ (fun q => nomatch q)
  have Z5 := ES.add (P := P) (y := 0) h62 k62 X4.1.2.1.1 X4.1.2.1.2.1 (by unfold plE; decide) rfl
  have X5 := X4.1.es h0 Z5.1 (KT.fc k62.1) k62.1 (by rw [k62.1.2.1 306 (by decide)]; exact X4.1.2.1.2.2.2)
  obtain ⟨oc, c1, c2, c3⟩ := eOpt (P := P) (m := 36) (by decide) hE hK h91 X5.2.1.1 X5.2.1.2.1 X5.2.1.2.2 c91
  -- the first half in the reading's words
  have g1 : gTok e 30 (v.1 0 305 + 1) = some (u24.1 0 305) := by
    rw [← y6, ← e5, ← s5, Z1.2]
    unfold gTok
    rw [if_pos n2]
  have g2 : gOpt E 36 e (knC v) (v.1 0 314) (u24.1 0 305) = some (oi, u49.1 0 305) := by
    rw [X1.2.2.2.1, X1.2.2.1.1, y11] at i1
    exact i1
  have g3 : gOpt E 36 e (knC v) (v.1 0 314) (u54.1 0 305) = some (oc, u91.1 0 305) := by
    rw [X5.2.2.2.1, X5.2.2.1.1, y11, Z5.2, X4.2.1] at c1
    exact c1
  have d24 := k24.2.2.2.2.1
  have d24b := k24.1.2.1 317 (by decide)
  have d49 := i2.2.1.2.2.1
  have d54 := k54.2.2.1
  have d54b := k54.1.2.1 317 (by decide)
  have d62 : u62.1 0 317 = u49.1 0 317 := by rw [k62.1.2.1 317 (by decide), X4.2.2, d54b]
  have d62b : u62.1 0 305 = u54.1 0 305 := by rw [Z5.2, X4.2.1]
  rw [d24b] at d49
  rcases h with ⟨cz, ⟨u9, -, f, -⟩ | ⟨u98, h98, k98, u102, h102, k102, u105, h105, k105, ⟨u9, -, f, -⟩ | ⟨r136, u135, h135, k135, ⟨u9, -, f, -⟩ | ⟨u140, h140, k140, u144, h144, k144, u149, h149, k149, u152, h152, k152, ⟨u9, -, f, -⟩ | ⟨u186, h186, k186, u189, h189, k189, -, eu⟩⟩⟩⟩⟩ | ⟨cz, u199, h199, k199, ⟨u9, -, f, -⟩ | ⟨u98, h98, k98, u102, h102, k102, u105, h105, k105, ⟨u9, -, f, -⟩ | ⟨r136, u135, h135, k135, ⟨u9, -, f, -⟩ | ⟨u140, h140, k140, u144, h144, k144, u149, h149, k149, u152, h152, k152, ⟨u9, -, f, -⟩ | ⟨u186, h186, k186, u189, h189, k189, -, eu⟩⟩⟩⟩⟩
  · cases f
  · cases f
  · cases f
  · cases f
  · rw [← eu] at h189 k189
    rcases c2 with ⟨-, co, H⟩ | ⟨q, -⟩
    · have X6 := X5.fr2 h0 H c3 k91.1 k91.2.2.1.1
      have Z7 := ES.exp (P := P) (m := 36) (by decide) h98 k98 X6.2.1.1 X6.2.1.2.1
      have X7 := X6.nl h0 Z7.1 k98.1 (by rw [k98.1.2.1 306 (by decide)]; exact k91.2.2.1.1)
      obtain ⟨o, b, j, j2, w1, w2, w3, w4, w5⟩ := eFor2 (P := P) hE hK hS hR X7 h102 k102 h105 k105 h135 k135 h140 k140 h144 k144 h149 k149 h152 k152 h186 k186 h189 k189 h0 y1 y4 (by rw [rr3]; omega) (by rw [rr7]; omega) rfl p0 y11 cw
      refine ⟨dropE oi, none, dropE o, b, ?_, w4.1, ⟨w4.2.1.1, w4.2.1.2.1.2.1⟩, w4.2.2.1, w4.2.2.2, ?_⟩
      · unfold gFor
        rw [g1, Option.bind_some, g2, Option.bind_some, Z3.2, Option.bind_some, g3, Option.bind_some, Z7.2, Option.bind_some, w1, Option.bind_some, w2, Option.bind_some, w3, Option.bind_some, co]
      · have d91 := H.2.1.2.2.1
        have d98 := k98.2.2.1
        have d98b := k98.1.2.1 317 (by decide)
        rw [d62, d62b] at d91
        rw [d98b] at w5
        omega
    · exact absurd cz q
  · cases f
  · cases f
  · cases f
  · cases f
  · rw [← eu] at h189 k189
    rcases c2 with ⟨q, -⟩ | ⟨-, a, co, H⟩
    · exact absurd q cz
    · have X6 := X5.es h0 H c3 k91.1 k91.2.2.1.1
      have X6' := X6.jmp h0 h199 k199 (l := N) (by rw [X6.2.2.1.2.2.1.1]; exact y3)
      have Z7 := ES.exp (P := P) (m := 36) (by decide) h98 k98 X6'.1.2.1.1 X6'.1.2.1.2.1
      have X7 := X6'.1.nl h0 Z7.1 k98.1 (by rw [k98.1.2.1 306 (by decide)]; exact X6'.1.2.1.2.2.2)
      obtain ⟨o, b, j, j2, w1, w2, w3, w4, w5⟩ := eFor2 (P := P) hE hK hS hR X7 h102 k102 h105 k105 h135 k135 h140 k140 h144 k144 h149 k149 h152 k152 h186 k186 h189 k189 h0 y1 y4 (by rw [rr3]; omega) (by rw [rr7]; omega) rfl p0 y11 cw
      refine ⟨dropE oi, some a, dropE o, b, ?_, w4.1, ⟨w4.2.1.1, w4.2.1.2.1.2.1⟩, w4.2.2.1, w4.2.2.2, ?_⟩
      · have g7 := Z7.2
        rw [X6'.2.1] at g7
        unfold gFor
        rw [g1, Option.bind_some, g2, Option.bind_some, Z3.2, Option.bind_some, g3, Option.bind_some, g7, Option.bind_some, w1, Option.bind_some, w2, Option.bind_some, w3, Option.bind_some, co]
      · have d91 := H.2.1.2.2.1
        have d98 := k98.2.2.1
        have d98b := k98.1.2.1 317 (by decide)
        rw [d62, d62b] at d91
        rw [X6'.2.1] at d98
        rw [d98b, X6'.2.2] at w5
        omega
end VMF
