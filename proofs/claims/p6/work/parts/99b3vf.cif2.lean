/-! the class's deeds: if without else -/
def SW (v u : MS) : Prop := u.1 0 314 = v.1 0 314 ∧ KT v u ∧ (u.1 0 331 = v.1 0 331 ∧ u.1 0 332 = v.1 0 332 ∧ u.1 0 333 = v.1 0 333) ∧ ((v.1 0 312).toInt ≤ (u.1 0 312).toInt ∧ ∀ j : Nat, (j : Int) < (v.1 0 312).toInt → u.1 311 j = v.1 311 j)
section VFI
variable {L1 L2 : List Nat} {P : Int32 × Int32 × Int32} {v u w x : MS} {a b : List EV} {e : PE} {r r3 : Int32} {E : EvE} {S : EvS} {R : MS → Bool → MS → Prop} {n : Nat}
theorem SW.tr (h : SW v u) (k : SW u w) : SW v w := by
  obtain ⟨a4, a5, ⟨a6, a7, a8⟩, a9, a10⟩ := h
  obtain ⟨b4, b5, ⟨b6, b7, b8⟩, b9, b10⟩ := k
  exact ⟨b4.trans a4, a5.tr b5, ⟨b6.trans a6, b7.trans a7, b8.trans a8⟩, Int.le_trans a9 b9, fun j hj => (b10 j (by omega)).trans (a10 j hj)⟩
theorem SW.fc {fl al : List Nat} (f : FC fl al v u) (g : 314 ∉ fl ∧ 326 ∉ fl ∧ 331 ∉ fl ∧ 332 ∉ fl ∧ 333 ∉ fl ∧ 312 ∉ fl := by decide) (g2 : 324 ∉ al ∧ 325 ∉ al ∧ 311 ∉ al := by decide) : SW v u :=
  ⟨f.2.1 314 g.1, KT.fc f g.2.1 ⟨g2.1, g2.2.1⟩, ⟨f.2.1 331 g.2.2.1, f.2.1 332 g.2.2.2.1, f.2.1 333 g.2.2.2.2.1⟩, by rw [f.2.1 312 g.2.2.2.2.2]; exact Int.le_refl _, fun j _ => congrFun (f.2.2 311 ⟨by decide, g2.2.2⟩) j⟩
theorem eIf0 (hE : XE L2 (QE L1 L2 (n - 1)) E) (hK : XK (QE L1 L2 (n - 1))) (hS : XS L2 R S) {m : Nat} {u2 u10 u26 u29 u45 u54 : MS} (h2 : Q_x_X1_newLabel L1 L2 v r3 u2) (k2 : K_x_X1_newLabel v r3 u2) (h10 : Q_x_X9_open L1 L2 u2 false u10) (k10 : K_x_X9_open u2 u10) (h26 : Q_x_X5_condition L1 L2 n u10 false u26) (k26 : K_x_X5_condition u10 u26) (h29 : Q_x_X1_add L1 L2 u26 16 r3 0 u29) (k29 : K_x_X1_add u26 16 r3 0 u29) (h45 : Q_x_X5_innerStat L1 L2 m R u29 false u45) (k45 : K_x_X5_innerStat u29 u45) (h54 : Q_x_X1_setLabel L1 L2 u45 r3 u54) (k54 : K_x_X1_setLabel u45 r3 u54) (h58 : Q_x_X9_close L1 L2 u54 u) (k58 : K_x_X9_close u54 u) (J : JC L2 e v) (B : LBe v) (t6 : T6 v) (p0 : v.1 0 314 = 0) (c45 : (u45.1 0 321).toInt ≤ 500) (m45 : (u29.1 0 321).toInt ≤ (u45.1 0 321).toInt) (hP : LPq P v) {r50 : Int32} (hk50 : Q_x_X9_kind L1 L2 u45 r50) (c50 : r50.toInt ≠ 12) : ∃ a, gIf E S e (knC v) (v.1 0 314) (v.1 0 305) = some (a, knC u, u.1 0 305) ∧ SS L2 e P v u a := by
  obtain ⟨J2, F2, q17, rr, -, e5, e81, e21, e12, e14, ekn⟩ := ES.lab h2 k2 J B
  have O1 := eOpen (P := P) h10 k10 J2
  have b1 := B.1
  have i5 : (u10.1 0 305).toInt = (v.1 0 305).toInt + 1 := by rw [k10.2.2.2.2.1, e5]
  have i17 : (u10.1 0 317).toInt = (v.1 0 317).toInt + 1 := by rw [k10.1.2.1 317 (by decide)]; exact q17
  have B10 : LBe u10 := ⟨⟨by omega, by omega⟩, by have := k10.2.1; omega, by rw [k10.1.2.1 312 (by decide), e12]; exact B.2.2.1, by rw [k10.1.2.1 381 (by decide), e81]; exact B.2.2.2.1, by rw [k10.1.2.1 321 (by decide), e21]; exact B.2.2.2.2⟩
  have t10 : T6 u10 := ⟨by rw [k10.1.2.1 326 (by decide), k2.1.2.1 326 (by decide)]; exact t6.1, k10.2.2.1.1⟩
  have f29 := fc21 k29.1
  obtain ⟨c, x1, x2, x3⟩ := eCond (P := P) hE hK h26 O1.1 B10 t10 (by omega)
  have D := EF.add (lo := (u26.1 0 317).toInt) (lc := (u26.1 0 321).toInt) h29
  have g5 : u29.1 0 305 = u26.1 0 305 := k29.1.2.1 305 (by decide)
  have g17 : u29.1 0 317 = u26.1 0 317 := k29.1.2.1 317 (by decide)
  have J29 : JC L2 e u29 := x2.1.fr k29.1 k29.2.2.2 (by decide) (by decide) (by rw [g5, k29.1.2.1 307 (by decide)]; exact x2.1.2.1)
  have B26 := x2.2.2.1
  have B29 : LBe u29 := ⟨by rw [g5, g17]; exact B26.1, by rw [g5]; exact B26.2.1, by rw [k29.1.2.1 312 (by decide)]; exact B26.2.2.1, by have := D.2.1; have := B26.2.2.2.1; omega, by rw [k29.1.2.1 321 (by decide)]; exact B26.2.2.2.2⟩
  have W29 : SW v u29 := (((SW.fc k2.1).tr (SW.fc k10.1)).tr (x2.ss x3 k26.1).2).tr (SW.fc k29.1)
  have t29 : T6 u29 := t6.kt W29.2.1 (by rw [k29.1.2.1 306 (by decide)]; exact k26.2.2.1.1)
  have P29 : LPq P u29 := by
    obtain ⟨z1, z2, z3⟩ := W29.2.2.1
    unfold LPq
    rw [z1, z2, z3]
    exact hP
  obtain ⟨a, y1, y2, y3, y4⟩ := eInner hS h45 J29 B29 t29 (W29.1.trans p0) c45 P29
  have n12 : (e.1 (u45.1 0 305)).toInt ≠ 12 := by rw [← kdC hk50 y2.1.1]; exact c50
  have A1 := O1.2.1.tr x2.2.1 ⟨by rw [e81]; exact B.2.2.2.1, by rw [e21]; exact B.2.2.2.2⟩
  rw [List.nil_append] at A1
  have s1 := x2.2.1.2.2.1
  have s2 := y2.1.2.1.2.2.1
  rw [g5, g17] at s2
  have G := EA.fwp (P := P) (t := 16) (y := 0) F2 q17 (by rw [e81]) (by rw [e21]) ⟨B.2.2.2, B.1.1⟩ A1 D.1 (by rw [g17]) D.2.1 D.2.2.1 (by rw [D.2.2.2.1]; exact rr) D.2.2.2.2.1 y2.1.2.1 h54 rr (by omega) (Or.inl rfl)
  have J54 : JC L2 e u54 := y2.1.1.fr k54.1 k54.2 (by decide) (by decide) (by rw [k54.1.2.1 305 (by decide), k54.1.2.1 307 (by decide)]; exact y2.1.1.2.1)
  have C := eClose (P := P) h58 k58 J54
  have T := G.1.tr C.2.1 B.2.2.2
  rw [List.append_nil] at T
  have e54 : u54.1 0 305 = u45.1 0 305 := k54.1.2.1 305 (by decide)
  have u12 : u.1 0 312 = v.1 0 312 := by rw [k58.1.2.1 312 (by decide), k54.1.2.1 312 (by decide), y4, k29.1.2.1 312 (by decide), x2.2.2.2.2.2, k10.1.2.1 312 (by decide), e12]
  have ukn : knC u = knC v := by rw [knC_fr k58.1, knC_fr k54.1, y3, knC_fr k29.1, x2.2.2.2.1, knC_fr k10.1, ekn]
  refine ⟨_, ?_, ⟨C.1, T, B.tr T (by rw [C.2.2, e54]; have := k45.2.1; omega) u12⟩, ((W29.tr y2.2).tr (SW.fc k54.1)).tr (SW.fc k58.1)⟩
  unfold gIf
  have g1 : knC u10 = knC v := by rw [knC_fr k10.1, ekn]
  have g2 : u10.1 0 314 = v.1 0 314 := by rw [k10.1.2.1 314 (by decide), e14]
  have g3 : u10.1 0 305 = v.1 0 305 + 1 := by rw [O1.2.2, e5]
  have g4 : knC u29 = knC v := by rw [knC_fr k29.1, x2.2.2.2.1, g1]
  rw [g1, g2, g3] at x1
  rw [g4, W29.1, g5] at y1
  rw [x1, Option.bind_some, y1, Option.bind_some, if_neg n12, ukn, C.2.2, e54]
end VFI
