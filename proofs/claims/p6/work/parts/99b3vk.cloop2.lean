/-! the class's deeds: a loop's beginning and end -/
/-- behind the loop's word: break's label N, continue's N + 1 -/
def LGB (L2 : List Nat) (e : PE) (v y : MS) (N : Nat) : Prop := (JC L2 e y ∧ LBe y ∧ T6 y) ∧ EF (v.1 0 317).toInt (v.1 0 321).toInt v y ∧ ((v.1 0 317).toInt = N ∧ (y.1 0 317).toInt = (N : Int) + 2) ∧ ((y.1 0 331).toInt = N ∧ (y.1 0 332).toInt = (N : Int) + 1 ∧ y.1 0 333 = v.1 0 333) ∧ (y.1 0 305 = v.1 0 305 + 1 ∧ (y.1 0 305).toInt = (v.1 0 305).toInt + 1) ∧ (y.1 0 381 = v.1 0 381 ∧ y.1 0 321 = v.1 0 321 ∧ y.1 0 312 = v.1 0 312 ∧ y.1 0 314 = v.1 0 314 ∧ knC y = knC v) ∧ KT v y ∧ (∀ j : Nat, y.1 311 j = v.1 311 j)
/-- before the loop's end -/
def LGE (M : Int) (L2 : List Nat) (e : PE) (v y w : MS) (s : List SG) : Prop := EAs M v w s ∧ (JC L2 e w ∧ (w.1 0 305).toInt ≤ 1500) ∧ SW y w ∧ (knC w = knC v ∧ w.1 0 312 = v.1 0 312) ∧ (w.1 0 317).toInt - (w.1 0 305).toInt ≤ (v.1 0 317).toInt - (v.1 0 305).toInt
section VKL
variable {L1 L2 : List Nat} {P P' : Int32 × Int32 × Int32} {v u w x y : MS} {a b c : List EV} {e : PE} {pa pb pc1 r r3 r7 : Int32} {E : EvE} {S : EvS} {R : MS → Bool → MS → Prop} {n N : Nat} {M : Int} {s : List SG}
theorem eLoopB {u2 u6 : MS} (h2 : Q_x_X1_newLabel L1 L2 v r3 u2) (k2 : K_x_X1_newLabel v r3 u2) (h6 : Q_x_X1_newLabel L1 L2 (wA u2 0 331 r3) r7 u6) (k6 : K_x_X1_newLabel (wA u2 0 331 r3) r7 u6) (h17 : Q_x_X9_open L1 L2 (wA u6 0 332 r7) false y) (k17 : K_x_X9_open (wA u6 0 332 r7) y) (J : JC L2 e v) (B : LBe v) (t6 : T6 v) : ∃ N : Nat, LGB L2 e v y N := by
  obtain ⟨J2, F2, q17, rr, -, e5, e81, e21, e12, e14, ekn⟩ := ES.lab h2 k2 J B
  have b1 := B.1
  have b5 := B.2.1
  have n0 := natI b1.1
  have f31 : FC [331] [0] u2 (wA u2 0 331 r3) := FC.f (fl := [331]) (al := [0]) (FC.rf u2) _ (by decide)
  have f32 : FC [332] [0] u6 (wA u6 0 332 r7) := FC.f (fl := [332]) (al := [0]) (FC.rf u6) _ (by decide)
  have J2' : JC L2 e (wA u2 0 331 r3) := J2.fr f31 (RS.w0 RS.rf (by decide)) (by decide) (by decide) J2.2.1
  have i17 : ((wA u2 0 331 r3).1 0 317).toInt = (v.1 0 317).toInt + 1 := q17
  have i5 : (wA u2 0 331 r3).1 0 305 = v.1 0 305 := e5
  have A6 := EF.lab (lo := (v.1 0 317).toInt) (lc := (v.1 0 321).toInt) h6 ⟨by omega, by omega⟩
  have J6 : JC L2 e u6 := J2'.fr k6.1 k6.2.2 (by decide) (by decide) (by rw [k6.1.2.1 305 (by decide), k6.1.2.1 307 (by decide)]; exact J2'.2.1)
  have J6' : JC L2 e (wA u6 0 332 r7) := J6.fr f32 (RS.w0 RS.rf (by decide)) (by decide) (by decide) J6.2.1
  have O := eOpen (P := (0, 0, 0)) h17 k17 J6'
  have FA : ∀ k : Nat, k ∉ [317] → k ≠ 331 → k ≠ 332 → u6.1 0 k = v.1 0 k := fun k g1 g2 g3 => by
    have z1 : u6.1 0 k = (wA u2 0 331 r3).1 0 k := k6.1.2.1 k g1
    have z2 : (wA u2 0 331 r3).1 0 k = u2.1 0 k := pk_un g2
    rw [z1, z2, k2.1.2.1 k g1]
  have u65 : u6.1 0 305 = v.1 0 305 := FA 305 (by decide) (by decide) (by decide)
  have y5 : y.1 0 305 = v.1 0 305 + 1 := by
    rw [O.2.2]
    show u6.1 0 305 + 1 = _
    rw [u65]
  have y5i : (y.1 0 305).toInt = (v.1 0 305).toInt + 1 := by
    have g := k17.2.2.2.2.1
    have g : (y.1 0 305).toInt = (u6.1 0 305).toInt + 1 := g
    rw [g, u65]
  have y17 : (y.1 0 317).toInt = (v.1 0 317).toInt + 2 := by
    rw [k17.1.2.1 317 (by decide)]
    show (u6.1 0 317).toInt = _
    rw [A6.2.1, i17]
    omega
  have y31 : y.1 0 331 = r3 := by
    rw [k17.1.2.1 331 (by decide)]
    show u6.1 0 331 = r3
    rw [k6.1.2.1 331 (by decide)]
    rfl
  have y32 : y.1 0 332 = r7 := by
    rw [k17.1.2.1 332 (by decide)]
    rfl
  have YA : ∀ k : Nat, k ∉ [317] → k ≠ 331 → k ≠ 332 → k ∉ [305, 306] → y.1 0 k = v.1 0 k := fun k g1 g2 g3 g4 => by
    have z1 : y.1 0 k = (wA u6 0 332 r7).1 0 k := k17.1.2.1 k g4
    have z2 : (wA u6 0 332 r7).1 0 k = u6.1 0 k := pk_un g3
    rw [z1, z2, FA k g1 g2 g3]
  have y12 : y.1 0 312 = v.1 0 312 := YA 312 (by decide) (by decide) (by decide) (by decide)
  have y81 : y.1 0 381 = v.1 0 381 := YA 381 (by decide) (by decide) (by decide) (by decide)
  have y21 : y.1 0 321 = v.1 0 321 := YA 321 (by decide) (by decide) (by decide) (by decide)
  have y26 : y.1 0 326 = v.1 0 326 := YA 326 (by decide) (by decide) (by decide) (by decide)
  have KN : knC y = knC v := by
    rw [knC_fr k17.1, knC_fr f32, knC_fr k6.1, knC_fr f31, ekn]
  have W1 : EF (u2.1 0 317).toInt (u2.1 0 321).toInt u2 (wA u2 0 331 r3) := EF.fc f31 (by decide) (by decide)
  have W2 : EF (v.1 0 317).toInt (v.1 0 321).toInt u6 (wA u6 0 332 r7) := EF.fc f32 (by decide) (by decide)
  have W3 : EF (v.1 0 317).toInt (v.1 0 321).toInt (wA u6 0 332 r7) y := EF.fc k17.1 (by decide) (by decide)
  have EFy : EF (v.1 0 317).toInt (v.1 0 321).toInt v y := (((F2.tr W1 (by omega) (by rw [e21]; exact Int.le_refl _)).tr A6.1 (Int.le_refl _) (Int.le_refl _)).tr W2 (Int.le_refl _) (Int.le_refl _)).tr W3 (Int.le_refl _) (Int.le_refl _)
  have K11 : ∀ j : Nat, y.1 311 j = v.1 311 j := fun j => by
    rw [congrFun (k17.1.2.2 311 ⟨by decide, by decide⟩) j]
    show u6.1 311 j = _
    rw [congrFun (k6.1.2.2 311 ⟨by decide, by decide⟩) j]
    show u2.1 311 j = _
    rw [congrFun (k2.1.2.2 311 ⟨by decide, by decide⟩) j]
  refine ⟨(v.1 0 317).toNatClampNeg, ⟨O.1, ⟨⟨by omega, by omega⟩, by have := k17.2.1; omega, by rw [y12]; exact B.2.2.1, by rw [y81]; exact B.2.2.2.1, by rw [y21]; exact B.2.2.2.2⟩, by rw [y26]; exact t6.1, k17.2.2.1.1⟩, EFy, ⟨n0.symm, by omega⟩, ⟨by rw [y31, rr]; exact n0.symm, by rw [y32, A6.2.2, i17]; omega, YA 333 (by decide) (by decide) (by decide) (by decide)⟩, ⟨y5, y5i⟩, ⟨y81, y21, y12, YA 314 (by decide) (by decide) (by decide) (by decide), KN⟩, ?_, K11⟩
  exact ((((KT.fc k2.1).tr (KT.fc f31)).tr (KT.fc k6.1)).tr (KT.fc f32)).tr (KT.fc k17.1)
/-- the end: break's place, the outer loop's labels again -/
theorem eLoopE {x1 x2 : MS} (Y : LGB L2 e v y N) (D : LGE M L2 e v y w s) (B : LBe v) (hM : (N : Int) < M) (hN : N ∉ mks s) (h1 : Q_x_X1_setLabel L1 L2 w (w.1 0 331) x1) (k1 : K_x_X1_setLabel w (w.1 0 331) x1) (h2 : Q_x_X9_close L1 L2 x1 x2) (k2 : K_x_X9_close x1 x2) (eu : u = wA (wA x2 0 331 (v.1 0 331)) 0 332 (v.1 0 332)) : (EAs M v u (s ++ [.inr (.inr N)]) ∧ (u.1 0 317).toInt - (u.1 0 305).toInt ≤ (v.1 0 317).toInt - (v.1 0 305).toInt) ∧ (∀ a, EA P v u a → SS L2 e P v u a) ∧ knC u = knC v ∧ u.1 0 305 = w.1 0 305 := by
  obtain ⟨⟨-, -, t6⟩, -, ⟨y1, y2⟩, ⟨y3, y4, y5⟩, -, ⟨y6, y7, y8, y9, y10⟩, y11, y12⟩ := Y
  obtain ⟨d1, ⟨d2, d3⟩, ⟨d4, d5, ⟨d6, d7, d8⟩, d9, d10⟩, ⟨d11, d12⟩, d13⟩ := D
  have S1 := d1.set B.2.2.2.1 h1 (l := N) (by rw [d6]; exact y3) ⟨by omega, hM⟩ hN
  have J1 : JC L2 e x1 := d2.fr k1.1 k1.2 (by decide) (by decide) (by rw [k1.1.2.1 305 (by decide), k1.1.2.1 307 (by decide)]; exact d2.2.1)
  have C := eClose (P := P) h2 k2 J1
  have f31 : FC [331] [0] x2 (wA x2 0 331 (v.1 0 331)) := FC.f (fl := [331]) (al := [0]) (FC.rf x2) _ (by decide)
  have f32 : FC [332] [0] (wA x2 0 331 (v.1 0 331)) u := by rw [eu]; exact FC.f (fl := [332]) (al := [0]) (FC.rf _) _ (by decide)
  have J3 : JC L2 e (wA x2 0 331 (v.1 0 331)) := C.1.fr f31 (RS.w0 RS.rf (by decide)) (by decide) (by decide) C.1.2.1
  have J4 : JC L2 e u := by rw [eu]; exact J3.fr (FC.f (fl := [332]) (al := [0]) (FC.rf _) _ (by decide)) (RS.w0 RS.rf (by decide)) (by decide) (by decide) J3.2.1
  have UA : ∀ k : Nat, k ≠ 331 → k ≠ 332 → k ∉ [306] → u.1 0 k = w.1 0 k := fun k g1 g2 g3 => by
    have z1 : u.1 0 k = (wA x2 0 331 (v.1 0 331)).1 0 k := by rw [eu]; exact pk_un g2
    have z2 : (wA x2 0 331 (v.1 0 331)).1 0 k = x2.1 0 k := pk_un g1
    rw [z1, z2, k2.1.2.1 k g3, congrFun S1.2 k]
  have u5 : u.1 0 305 = w.1 0 305 := UA 305 (by decide) (by decide) (by decide)
  have u17 : u.1 0 317 = w.1 0 317 := UA 317 (by decide) (by decide) (by decide)
  have E3 : EAs M v x2 (s ++ [.inr (.inr N)]) := S1.1.nl B.2.2.2.1 C.2.1
  have E4 : EAs M v (wA x2 0 331 (v.1 0 331)) (s ++ [.inr (.inr N)]) := E3.fr B.2.2.2.1 (EF.fc f31 (by decide) (by decide)) rfl
  have E5 : EAs M v u (s ++ [.inr (.inr N)]) := E4.fr B.2.2.2.1 (EF.fc f32 (by decide) (by decide)) (by rw [f32.2.1 381 (by decide)])
  have u12 : u.1 0 312 = v.1 0 312 := (UA 312 (by decide) (by decide) (by decide)).trans d12
  have hd : (u.1 0 317).toInt - (u.1 0 305).toInt ≤ (v.1 0 317).toInt - (v.1 0 305).toInt := by rw [u5, u17]; exact d13
  have k11 : ∀ j : Nat, u.1 311 j = w.1 311 j := fun j => by
    rw [congrFun (f32.2.2 311 ⟨by decide, by decide⟩) j]
    show x2.1 311 j = _
    rw [congrFun (k2.1.2.2 311 ⟨by decide, by decide⟩) j, congrFun (k1.1.2.2 311 ⟨by decide, by decide⟩) j]
  have KN : knC u = knC v := by rw [knC_fr f32, knC_fr f31, knC_fr k2.1, knC_fr k1.1, d11]
  refine ⟨⟨E5, hd⟩, fun a A => ⟨⟨J4, A, B.tr A (by rw [u5]; exact d3) u12⟩, ?_, ?_, ⟨?_, ?_, ?_⟩, by rw [u12]; exact Int.le_refl _, fun j hj => ?_⟩, KN, u5⟩
  · rw [UA 314 (by decide) (by decide) (by decide), d4, y9]
  · exact ((((y11.tr d5).tr (KT.fc k1.1)).tr (KT.fc k2.1)).tr (KT.fc f31)).tr (KT.fc f32)
  · rw [f32.2.1 331 (by decide)]; rfl
  · rw [eu]; rfl
  · rw [UA 333 (by decide) (by decide) (by decide), d8, y5]
  · rw [k11 j, d10 j (by rw [y8]; exact hj), y12 j]
/-- a question in parentheses: two tokens more -/
theorem eCond2 (hE : XE L2 (QE L1 L2 (n - 1)) E) (hK : XK (QE L1 L2 (n - 1))) (h : Q_x_X5_condition L1 L2 n v false u) (J : JC L2 e v) (B : LBe v) (t6 : T6 v) (cu : (u.1 0 321).toInt ≤ 500) : ∃ a, gCond E e (knC v) (v.1 0 314) (v.1 0 305) = some (a, u.1 0 305) ∧ ES L2 e P v u a ∧ KT v u ∧ DS v u 2 := by
  have h' := h
  obtain ⟨-, -, -, -, -, -, -, -, -, -, h⟩ := h
  rcases h with ⟨u9, -, f, -⟩ | ⟨u2, h2, k2, ⟨u9, -, f, -⟩ | ⟨u10, h10, k10, ⟨u9, -, f, -⟩ | ⟨u27, h27, k27, ⟨u9, -, f, -⟩ | ⟨u32, h32, k32, u36, h36, k36, -, eu⟩⟩⟩⟩
  · cases f
  · cases f
  · cases f
  · cases f
  obtain ⟨e2, kd⟩ := eNeed (m := 30) (by decide) h2 J
  rw [e2] at h10 k10
  have O1 := ES.opn (P := P) h10 k10 J B
  have t10 : T6 u10 := ⟨by rw [k10.1.2.1 326 (by decide)]; exact t6.1, k10.2.2.1.1⟩
  have c27 : (u27.1 0 321).toInt ≤ 500 := by
    rw [eu] at cu
    have := fc21 k32.1
    have := fc21 k36.1
    omega
  obtain ⟨a, x1, x2⟩ := hE.es (P := P) (bz := true) h27 k27 O1.1.1 O1.1.2.2.1 t10.tp c27 (by decide)
  obtain ⟨a9, y1, y2, y3⟩ := eCond (P := P) hE hK h' J B t6 cu
  refine ⟨a9, y1, y2, y3, ?_⟩
  have z := x2.2.1.2.2.1
  have q1 := k10.2.2.2.2.1
  have q2 := k10.1.2.1 317 (by decide)
  have q3 := k32.2.2.1
  have q4 := k32.1.2.1 317 (by decide)
  have q5 := k36.1.2.1 317 (by decide)
  have q6 := k36.1.2.1 305 (by decide)
  unfold DS
  rw [eu, q5, q6, q4]
  rw [q2] at z
  omega
end VKL
