/-! the class's deeds: settings, calls -/
section UFC
variable {L1 L2 : List Nat} {P : Int32 × Int32 × Int32} {v u w : MS} {a b : List EV} {e : PE} {pa pb pc1 pd r : Int32} {t : Bool} {E : EvE} {R : MS → Int32 → Bool → MS → Prop}
/-- all that goes on from one state to the next -/
def ES (L2 : List Nat) (e : PE) (P : Int32 × Int32 × Int32) (v u : MS) (a : List EV) : Prop := JC L2 e u ∧ EA P v u a ∧ LBe u ∧ knC u = knC v ∧ u.1 0 314 = v.1 0 314 ∧ u.1 0 312 = v.1 0 312
theorem ES.rf (J : JC L2 e v) (B : LBe v) : ES L2 e P v v [] := ⟨J, ⟨by rw [ldL_nil]; omega, EF.rf, Int.le_refl _, MTq.nil⟩, B, rfl, rfl, rfl⟩
theorem ES.tr (h : ES L2 e P v u a) (k : ES L2 e P u w b) (B : LBe v) : ES L2 e P v w (a ++ b) := ⟨k.1, h.2.1.tr k.2.1 B.2.2.2, k.2.2.1, k.2.2.2.1.trans h.2.2.2.1, k.2.2.2.2.1.trans h.2.2.2.2.1, k.2.2.2.2.2.trans h.2.2.2.2.2⟩
theorem ES.fr {fl al : List Nat} (f : FC fl al v u) (s : RS v u) (J : JC L2 e v) (B : LBe v) (h5 : (v.1 0 305).toInt ≤ (u.1 0 305).toInt ∧ (u.1 0 305).toInt ≤ 1500) (h7 : (u.1 0 307).toInt ≤ (u.1 0 305).toInt) (g1 : 381 ∉ fl ∧ 317 ∉ fl ∧ 321 ∉ fl := by decide) (g2 : 378 ∉ al ∧ 379 ∉ al ∧ 380 ∉ al ∧ 316 ∉ al ∧ 318 ∉ al ∧ 320 ∉ al := by decide) (g3 : 301 ∉ al ∧ 302 ∉ al ∧ 303 ∉ al := by decide) (g4 : 304 ∉ fl ∧ 373 ∉ fl ∧ 377 ∉ fl := by decide) (g5 : 312 ∉ fl ∧ 314 ∉ fl ∧ 311 ∉ al := by decide) : ES L2 e P v u [] := by
  have A : EA P v u [] := EA.fc f g1 g2 h5.1
  exact ⟨J.fr f s g3 g4 h7, A, B.tr A h5.2 (f.2.1 312 g5.1), knC_fr f g5.1 g5.2.2, f.2.1 314 g5.2.1, f.2.1 312 g5.1⟩
theorem ES.add {y : Int32} (h : Q_x_X1_add L1 L2 v pa pb pc1 u) (k : K_x_X1_add v pa pb pc1 u) (J : JC L2 e v) (B : LBe v) (hp : plE pa) (hy : pc1 = if pa = 4 then 0 else y) : ES L2 e P v u [evx pa pb y] ∧ u.1 0 305 = v.1 0 305 := by
  obtain ⟨j, a, b, c, d, f, g⟩ := eAdd (P := P) h k J B hp hy
  exact ⟨⟨j, a, b, c, f, g⟩, d⟩
theorem ES.close (h : Q_x_X9_close L1 L2 v u) (k : K_x_X9_close v u) (J : JC L2 e v) (B : LBe v) : ES L2 e P v u [] ∧ u.1 0 305 = v.1 0 305 := by
  have e5 : u.1 0 305 = v.1 0 305 := k.1.2.1 305 (by decide)
  exact ⟨ES.fr k.1 k.2.2.2 J B (by rw [e5]; exact ⟨Int.le_refl _, B.2.1⟩) (by rw [e5, k.1.2.1 307 (by decide)]; exact J.2.1), e5⟩
theorem ES.opn (h : Q_x_X9_open L1 L2 v false u) (k : K_x_X9_open v u) (J : JC L2 e v) (B : LBe v) : ES L2 e P v u [] ∧ u.1 0 305 = v.1 0 305 + 1 := by
  have o := eOpen (P := P) h k J
  exact ⟨⟨o.1, o.2.1, B.tr o.2.1 (by have := k.2.1; omega) (k.1.2.1 312 (by decide)), knC_fr k.1, k.1.2.1 314 (by decide), k.1.2.1 312 (by decide)⟩, o.2.2⟩
theorem ES.take (h : Q_x_X9_take L1 L2 v false u) (k : K_x_X9_take v u) (J : JC L2 e v) (B : LBe v) : ES L2 e P v u [] ∧ u.1 0 305 = v.1 0 305 + 1 := by
  have o := eTake (P := P) h k J
  exact ⟨⟨o.1, o.2.1, B.tr o.2.1 (by have := k.2.1; omega) (k.1.2.1 312 (by decide)), knC_fr k.1, k.1.2.1 314 (by decide), k.1.2.1 312 (by decide)⟩, o.2.2⟩
theorem ES.exp {m : Int} (hm : pa.toInt = m) (h : Q_x_X9_expect L1 L2 v pa false u) (k : K_x_X9_expect v pa u) (J : JC L2 e v) (B : LBe v) : ES L2 e P v u [] ∧ gTok e m (v.1 0 305) = some (u.1 0 305) := by
  have o := eExp (P := P) hm h k J
  exact ⟨⟨o.1, o.2.1, B.tr o.2.1 (by have := k.2.1; omega) (k.1.2.1 312 (by decide)), knC_fr k.1, k.1.2.1 314 (by decide), k.1.2.1 312 (by decide)⟩, o.2.2⟩
theorem ES.want (h : Q_x_X1_wantSlots L1 L2 v pa r u) (k : K_x_X1_wantSlots v pa r u) (J : JC L2 e v) (B : LBe v) : ES L2 e P v u [] ∧ u.1 0 305 = v.1 0 305 := by
  have e5 : u.1 0 305 = v.1 0 305 := k.1.2.1 305 (by decide)
  exact ⟨ES.fr k.1 k.2 J B (by rw [e5]; exact ⟨Int.le_refl _, B.2.1⟩) (by rw [e5, k.1.2.1 307 (by decide)]; exact J.2.1), e5⟩
theorem XE.es (hE : XE L2 R E) {st : Int32} {bz : Bool} (h : R v st false u) (k : K_x_X2_expression v st u) (J : JC L2 e v) (B : LBe v) (tp : TPE v) (c : (u.1 0 321).toInt ≤ 500) (hb : decide (st.toInt ≠ 0) = bz) : ∃ a, E bz e (knC v) (v.1 0 314) (v.1 0 305) = some (a, u.1 0 305) ∧ ES L2 e P v u a := by
  obtain ⟨a, x1, x2, x3, x4, x5, x6⟩ := hE.at (P := P) h k J B tp c hb
  exact ⟨a, x1, x2, x3, x5, x6, x4, k.1.2.1 312 (by decide)⟩
/-- where a setting ends -/
theorem ePut {sl : Int} (h : ((pa.toInt = -1) ∧ ∃ x, Q_x_X1_add L1 L2 v 6 pb 0 x ∧ K_x_X1_add v 6 pb 0 x ∧ ∃ y, Q_x_X9_close L1 L2 x y ∧ K_x_X9_close x y ∧ false = false ∧ u = y) ∨ ((pa.toInt ≠ -1) ∧ ∃ x, Q_x_X1_add L1 L2 v 4 pa 0 x ∧ K_x_X1_add v 4 pa 0 x ∧ ∃ y, Q_x_X9_close L1 L2 x y ∧ K_x_X9_close x y ∧ false = false ∧ u = y)) (J : JC L2 e v) (B : LBe v) (hs : (pa.toInt = -1 → sl < 0) ∧ (pa.toInt ≠ -1 → 0 ≤ sl ∧ pa = Int32.ofInt sl)) : ES L2 e P v u [gPut sl pb] ∧ u.1 0 305 = v.1 0 305 := by
  unfold gPut
  rcases h with ⟨c, x, hx, kx, y, hy, ky, -, rfl⟩ | ⟨c, x, hx, kx, y, hy, ky, -, rfl⟩
  · rw [if_neg (by have := hs.1 c; omega)]
    have A := ES.add (P := P) (y := 0) hx kx J B (by unfold plE; decide) rfl
    have C := ES.close (P := P) hy ky A.1.1 A.1.2.2.1
    have T := A.1.tr C.1 B
    exact ⟨T, C.2.trans A.2⟩
  · rw [if_pos (hs.2 c).1, ← (hs.2 c).2]
    have A := ES.add (P := P) (y := 1) hx kx J B (by unfold plE; decide) rfl
    have C := ES.close (P := P) hy ky A.1.1 A.1.2.2.1
    have T := A.1.tr C.1 B
    exact ⟨T, C.2.trans A.2⟩
end UFC
