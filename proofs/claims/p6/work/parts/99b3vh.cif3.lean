/-! the class's deeds: if with else -/
section VHI
variable {L1 L2 : List Nat} {P : Int32 × Int32 × Int32} {v u w x : MS} {a b : List EV} {e : PE} {r r3 : Int32} {E : EvE} {S : EvS} {R : MS → Bool → MS → Prop} {n : Nat}
theorem eIf1 (hE : XE L2 (QE L1 L2 (n - 1)) E) (hK : XK (QE L1 L2 (n - 1))) (hS : XS L2 R S) {m m2 : Nat} {r75 : Int32} {u2 u10 u26 u29 u45 u74 u81 u86 u89 u122 u125 : MS} (h2 : Q_x_X1_newLabel L1 L2 v r3 u2) (k2 : K_x_X1_newLabel v r3 u2) (h10 : Q_x_X9_open L1 L2 u2 false u10) (k10 : K_x_X9_open u2 u10) (h26 : Q_x_X5_condition L1 L2 n u10 false u26) (k26 : K_x_X5_condition u10 u26) (h29 : Q_x_X1_add L1 L2 u26 16 r3 0 u29) (k29 : K_x_X1_add u26 16 r3 0 u29) (h45 : Q_x_X5_innerStat L1 L2 m R u29 false u45) (k45 : K_x_X5_innerStat u29 u45) (h74 : Q_x_X1_newLabel L1 L2 u45 r75 u74) (k74 : K_x_X1_newLabel u45 r75 u74) (h81 : Q_x_X9_take L1 L2 u74 false u81) (k81 : K_x_X9_take u74 u81) (h86 : Q_x_X1_add L1 L2 u81 19 r75 0 u86) (k86 : K_x_X1_add u81 19 r75 0 u86) (h89 : Q_x_X1_setLabel L1 L2 u86 r3 u89) (k89 : K_x_X1_setLabel u86 r3 u89) (h122 : Q_x_X5_innerStat L1 L2 m2 R u89 false u122) (k122 : K_x_X5_innerStat u89 u122) (h54 : Q_x_X1_setLabel L1 L2 u122 r75 u125) (k54 : K_x_X1_setLabel u122 r75 u125) (h58 : Q_x_X9_close L1 L2 u125 u) (k58 : K_x_X9_close u125 u) (J : JC L2 e v) (B : LBe v) (t6 : T6 v) (p0 : v.1 0 314 = 0) (c45 : (u45.1 0 321).toInt ≤ 500) (c122 : (u122.1 0 321).toInt ≤ 500) (m45 : (u29.1 0 321).toInt ≤ (u45.1 0 321).toInt) (hP : LPq P v) {r50 : Int32} (hk50 : Q_x_X9_kind L1 L2 u45 r50) (c50 : r50.toInt = 12) : ∃ a, gIf E S e (knC v) (v.1 0 314) (v.1 0 305) = some (a, knC u, u.1 0 305) ∧ SS L2 e P v u a := by
  obtain ⟨J2, F2, q17, rr, -, e5, e81, e21, e12, e14, ekn⟩ := ES.lab h2 k2 J B
  have O1 := eOpen (P := P) h10 k10 J2
  have b1 := B.1
  have i5 : (u10.1 0 305).toInt = (v.1 0 305).toInt + 1 := by rw [k10.2.2.2.2.1, e5]
  have i17 : (u10.1 0 317).toInt = (v.1 0 317).toInt + 1 := by rw [k10.1.2.1 317 (by decide)]; exact q17
  have B10 : LBe u10 := ⟨⟨by omega, by omega⟩, by have := k10.2.1; omega, by rw [k10.1.2.1 312 (by decide), e12]; exact B.2.2.1, by rw [k10.1.2.1 381 (by decide), e81]; exact B.2.2.2.1, by rw [k10.1.2.1 321 (by decide), e21]; exact B.2.2.2.2⟩
  have t10 : T6 u10 := ⟨by rw [k10.1.2.1 326 (by decide), k2.1.2.1 326 (by decide)]; exact t6.1, k10.2.2.1.1⟩
  have f29 := fc21 k29.1
  obtain ⟨c, x1, x2, x3⟩ := eCond (P := P) hE hK h26 O1.1 B10 t10 (by omega)
  have D := EF.add (lo := (u26.1 0 317).toInt) (lc := (u26.1 0 321).toInt) h29
  have g5 : u29.1 0 305 = u26.1 0 305 := k29.1.2.1 305 (by decide)
  have g17 : u29.1 0 317 = u26.1 0 317 := k29.1.2.1 317 (by decide)
  have J29 : JC L2 e u29 := x2.1.fr k29.1 k29.2.2.2 (by decide) (by decide) (by rw [g5, k29.1.2.1 307 (by decide)]; exact x2.1.2.1)
  have B26 := x2.2.2.1
  have B29 : LBe u29 := ⟨by rw [g5, g17]; exact B26.1, by rw [g5]; exact B26.2.1, by rw [k29.1.2.1 312 (by decide)]; exact B26.2.2.1, by have := D.2.1; have := B26.2.2.2.1; omega, by rw [k29.1.2.1 321 (by decide)]; exact B26.2.2.2.2⟩
  have W29 : SW v u29 := (((SW.fc k2.1).tr (SW.fc k10.1)).tr (x2.ss x3 k26.1).2).tr (SW.fc k29.1)
  have t29 : T6 u29 := t6.kt W29.2.1 (by rw [k29.1.2.1 306 (by decide)]; exact k26.2.2.1.1)
  have P29 : LPq P u29 := by
    obtain ⟨z1, z2, z3⟩ := W29.2.2.1
    unfold LPq
    rw [z1, z2, z3]
    exact hP
  obtain ⟨a, y1, y2, y3, y4⟩ := eInner hS h45 J29 B29 t29 (W29.1.trans p0) c45 P29
  have n12 : (e.1 (u45.1 0 305)).toInt = 12 := by rw [← kdC hk50 y2.1.1]; exact c50
  have W45 : SW v u45 := W29.tr y2.2
  obtain ⟨J74, F74, q74, rr7, -, o5, o81, o21, o12, o14, okn⟩ := ES.lab h74 k74 y2.1.1 y2.1.2.2
  have Tk := eTake (P := P) h81 k81 J74
  have B45 := y2.1.2.2
  have b45 := B45.1
  have j5 : (u81.1 0 305).toInt = (u45.1 0 305).toInt + 1 := by rw [k81.2.2.1, o5]
  have j17 : (u81.1 0 317).toInt = (u45.1 0 317).toInt + 1 := by rw [k81.1.2.1 317 (by decide)]; exact q74
  have D2 := EF.add (lo := (u81.1 0 317).toInt) (lc := (u81.1 0 321).toInt) h86
  have j21 : u89.1 0 321 = u45.1 0 321 := by rw [k89.1.2.1 321 (by decide), k86.1.2.1 321 (by decide), k81.1.2.1 321 (by decide), o21]
  have j12 : u89.1 0 312 = u45.1 0 312 := by rw [k89.1.2.1 312 (by decide), k86.1.2.1 312 (by decide), k81.1.2.1 312 (by decide), o12]
  have l5 : u89.1 0 305 = u81.1 0 305 := by rw [k89.1.2.1 305 (by decide), k86.1.2.1 305 (by decide)]
  have l17 : u89.1 0 317 = u81.1 0 317 := by rw [k89.1.2.1 317 (by decide), k86.1.2.1 317 (by decide)]
  have p81 : u81.1 0 381 = u45.1 0 381 := by rw [k81.1.2.1 381 (by decide), o81]
  have J86 : JC L2 e u86 := Tk.1.fr k86.1 k86.2.2.2 (by decide) (by decide) (by rw [k86.1.2.1 305 (by decide), k86.1.2.1 307 (by decide)]; exact Tk.1.2.1)
  have J89 : JC L2 e u89 := J86.fr k89.1 k89.2 (by decide) (by decide) (by rw [k89.1.2.1 305 (by decide), k89.1.2.1 307 (by decide)]; exact J86.2.1)
  have B89 : LBe u89 := ⟨by rw [l5, l17]; exact ⟨by omega, by omega⟩, by rw [l5]; exact k81.2.1.2, by rw [j12]; exact B45.2.2.1, by rw [k89.1.2.1 381 (by decide)]; have := D2.2.1; have := D2.2.2.2.2.2; omega, by rw [j21]; exact B45.2.2.2.2⟩
  have W89 : SW v u89 := (((W45.tr (SW.fc k74.1)).tr (SW.fc k81.1)).tr (SW.fc k86.1)).tr (SW.fc k89.1)
  have t89 : T6 u89 := t6.kt W89.2.1 (by rw [k89.1.2.1 306 (by decide), k86.1.2.1 306 (by decide), k81.1.2.1 306 (by decide), k74.1.2.1 306 (by decide)]; exact k45.2.2.1.1)
  have P89 : LPq P u89 := by
    obtain ⟨z1, z2, z3⟩ := W89.2.2.1
    unfold LPq
    rw [z1, z2, z3]
    exact hP
  obtain ⟨b, v1, v2, v3, v4⟩ := eInner hS h122 J89 B89 t89 (W89.1.trans p0) c122 P89
  have A1 := O1.2.1.tr x2.2.1 ⟨by rw [e81]; exact B.2.2.2.1, by rw [e21]; exact B.2.2.2.2⟩
  rw [List.nil_append] at A1
  have s1 := x2.2.1.2.2.1
  have s2 := y2.1.2.1.2.2.1
  rw [g5, g17] at s2
  have s3 := v2.1.2.1.2.2.1
  rw [l5, l17] at s3
  have F3 : EF (u45.1 0 317).toInt (u45.1 0 321).toInt u45 u81 := EF.tr F74 (EF.fc (lo := (u45.1 0 317).toInt) (lc := (u45.1 0 321).toInt) k81.1 (by decide) (by decide)) (Int.le_refl _) (Int.le_refl _)
  have G := EA.ife (P := P) F2 q17 (by rw [e81]) (by rw [e21]) ⟨B.2.2.2, B.1.1⟩ A1 D.1 (by rw [g17]) D.2.1 D.2.2.1 (by rw [D.2.2.2.1]; exact rr) D.2.2.2.2.1 y2.1.2.1 F3 j17 (by rw [p81]) D2.1 (by rw [k86.1.2.1 317 (by decide)]) D2.2.1 D2.2.2.1 (by rw [D2.2.2.2.1]; exact rr7) D2.2.2.2.2.1 h89 rr v2.1.2.1 h54 rr7 (by omega)
  have J54 : JC L2 e u125 := v2.1.1.fr k54.1 k54.2 (by decide) (by decide) (by rw [k54.1.2.1 305 (by decide), k54.1.2.1 307 (by decide)]; exact v2.1.1.2.1)
  have C := eClose (P := P) h58 k58 J54
  have T := G.1.tr C.2.1 B.2.2.2
  rw [List.append_nil] at T
  have e54 : u125.1 0 305 = u122.1 0 305 := k54.1.2.1 305 (by decide)
  have u12 : u.1 0 312 = v.1 0 312 := by rw [k58.1.2.1 312 (by decide), k54.1.2.1 312 (by decide), v4, j12, y4, k29.1.2.1 312 (by decide), x2.2.2.2.2.2, k10.1.2.1 312 (by decide), e12]
  have ukn : knC u = knC v := by rw [knC_fr k58.1, knC_fr k54.1, v3, knC_fr k89.1, knC_fr k86.1, knC_fr k81.1, okn, y3, knC_fr k29.1, x2.2.2.2.1, knC_fr k10.1, ekn]
  refine ⟨_, ?_, ⟨C.1, T, B.tr T (by rw [C.2.2, e54]; have := k122.2.1; omega) u12⟩, ((W89.tr v2.2).tr (SW.fc k54.1)).tr (SW.fc k58.1)⟩
  unfold gIf
  have g1 : knC u10 = knC v := by rw [knC_fr k10.1, ekn]
  have g2 : u10.1 0 314 = v.1 0 314 := by rw [k10.1.2.1 314 (by decide), e14]
  have g3 : u10.1 0 305 = v.1 0 305 + 1 := by rw [O1.2.2, e5]
  have g4 : knC u29 = knC v := by rw [knC_fr k29.1, x2.2.2.2.1, g1]
  rw [g1, g2, g3] at x1
  rw [g4, W29.1, g5] at y1
  have g6 : knC u89 = knC v := by rw [knC_fr k89.1, knC_fr k86.1, knC_fr k81.1, okn, y3, g4]
  have g7 : u89.1 0 305 = u45.1 0 305 + 1 := by rw [l5, Tk.2.2, o5]
  rw [g6, W89.1, g7] at v1
  rw [x1, Option.bind_some, y1, Option.bind_some, if_pos n12]
  show (gInner S e (knC v) (v.1 0 314) (u45.1 0 305 + 1)).bind _ = _
  rw [v1, Option.bind_some, ukn, C.2.2, e54]
end VHI
