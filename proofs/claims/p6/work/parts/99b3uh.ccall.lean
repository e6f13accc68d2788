/-! the class's deeds: arguments, calls -/
section UHC
variable {L1 L2 : List Nat} {P : Int32 × Int32 × Int32} {v u w x z : MS} {a b : List EV} {e : PE} {pa pb pc1 pd r : Int32} {t : Bool} {E : EvE} {R : MS → Int32 → Bool → MS → Prop}
theorem EAx.cm {k : Int} (h : EAx k P v u a) : (v.1 0 321).toInt ≤ (u.1 0 321).toInt := h.2.1.2.2.2.2.1
theorem EAx.tr0 {k k' : Int} (h : EAx k P v u []) (q : EAx k' P u w b) (h0 : 0 ≤ (v.1 0 381).toInt) (hx : k' = k ∨ k' = -1 ∨ (v.1 0 321).toInt ≤ k') : EAx k P v w b := by
  obtain ⟨a1, a2, a3, a4⟩ := h
  obtain ⟨b1, b2, b3, b4⟩ := q
  rw [ldL_nil] at a1
  have m1 := a2.2.2.1
  have m2 := a2.2.2.2.2.1
  refine ⟨by omega, EFx.tr a2 b2 m1 m2 hx, by omega, ?_⟩
  have n1 := natI h0
  have n2 := natI (a := u.1 0 381) (by omega)
  rw [show (v.1 0 381).toNatClampNeg = (u.1 0 381).toNatClampNeg by omega]
  intro x q y e
  obtain ⟨c1, c2⟩ := b4 x q y e
  refine ⟨c1, ?_⟩
  by_cases d0 : q.1 = 25
  · rw [if_pos d0]; trivial
  · rw [if_neg d0] at c2 ⊢
    by_cases d1 : q.1 = 16 ∨ q.1 = 17 ∨ q.1 = 18 ∨ q.1 = 19
    · rw [if_pos d1] at c2 ⊢
      exact ⟨c2.1, c2.2.1, ⟨by omega, c2.2.2.1.2⟩, c2.2.2.2⟩
    · rw [if_neg d1] at c2 ⊢
      by_cases d2 : q.1 = 30
      · rw [if_pos d2] at c2 ⊢; exact c2
      · rw [if_neg d2] at c2 ⊢
        by_cases d3 : q.1 = 31
        · rw [if_pos d3] at c2 ⊢; exact c2
        · rw [if_neg d3] at c2 ⊢
          by_cases d4 : q.1 = 32
          · rw [if_pos d4] at c2 ⊢; exact c2
          · rw [if_neg d4] at c2 ⊢
            by_cases d9 : q.1 = 33
            · rw [if_pos d9] at c2 ⊢
              exact ⟨c2.1, c2.2.1, ⟨by omega, c2.2.2.1.2⟩, c2.2.2.2⟩
            · rw [if_neg d9] at c2 ⊢
              by_cases d5 : q.1 = 21
              · rw [if_pos d5] at c2 ⊢
                exact ⟨c2.1, c2.2.1, ⟨by omega, c2.2.2.1.2⟩, c2.2.2.2⟩
              · rw [if_neg d5] at c2 ⊢; exact c2
theorem LBe.trx {k : Int} (h : LBe v) (q : EAx k P v u a) (h1 : (u.1 0 305).toInt ≤ 1500) (h2 : u.1 0 312 = v.1 0 312) : LBe u := by
  obtain ⟨⟨b1, b2⟩, b3, b4, b5, b6⟩ := h
  obtain ⟨k1, k2, k3, k4⟩ := q
  have := k2.2.2.1
  have := k2.2.2.2.2.1
  exact ⟨⟨by omega, by omega⟩, h1, by rw [h2]; exact b4, by omega, by omega⟩
/-- one argument of the call pa -/
def AGx (L2 : List Nat) (e : PE) (P : Int32 × Int32 × Int32) (c : Nat) (v u : MS) (a : List EV) : Prop := JC L2 e u ∧ EAx c P v u a ∧ LBe u ∧ knC u = knC v ∧ u.1 0 312 = v.1 0 312 ∧ u.1 318 c = v.1 318 c
theorem eArg0 {c : Nat} (hE : XE L2 R E) (S : ES L2 e P v x []) (B : LBe v) (tp : TPE x) (e5 : x.1 0 305 = v.1 0 305) (hc : pa.toInt = c) (hc2 : (c : Int) < (v.1 0 321).toInt) (h501 : (v.1 0 321).toInt ≤ 501) {y y' : MS} (h1 : Q_x_X1_addArgument L1 L2 x pa y) (k1 : K_x_X1_addArgument x pa y) (h2 : R y 1 false z) (k2 : K_x_X2_expression y 1 z) (h3 : Q_x_X1_nextSlot L1 L2 z r) (h4 : Q_x_X1_add L1 L2 z 4 r 0 y') (k4 : K_x_X1_add z 4 r 0 y') (cz : (y'.1 0 321).toInt ≤ 500) (eu : u = wA y' 0 314 (y'.1 0 314 + (1 : Int32))) (hi : (v.1 320 c).toInt < 1000000) (hj : 0 ≤ (v.1 320 c).toInt) :
    ∃ a, E true e (knC v) (v.1 0 314) (v.1 0 305) = some (a, u.1 0 305) ∧ AGx L2 e P c v u (a ++ [evx 4 (gsl (knC v) (v.1 0 314)) 0]) ∧ u.1 0 314 = v.1 0 314 + 1 ∧ (u.1 320 c).toInt = (v.1 320 c).toInt + 1 := by
  have nc : pa.toNatClampNeg = c := natC hc
  have x0 := S.2.1.2.1.2.2.2.2.2 c hc2 (by omega)
  have A1 : EAx c P x y [] ∧ y.1 318 c = x.1 318 c ∧ (y.1 320 c).toInt = (v.1 320 c).toInt + 1 := by
    rcases h1 with ⟨q, -⟩ | ⟨-, ⟨q, -⟩ | ⟨-, rfl⟩⟩
    · omega
    · omega
    · refine ⟨⟨by rw [ldL_nil]; exact (Int.add_zero _).symm, ⟨Int.le_refl _, fun _ _ => ⟨rfl, rfl, rfl⟩, Int.le_refl _, fun _ _ => rfl, Int.le_refl _, fun d _ hd => ⟨rfl, updN_ (by omega)⟩⟩, Int.le_refl _, MTq.nil⟩, rfl, ?_⟩
      show (upd (x.1 320) pa.toNatClampNeg (x.1 320 pa.toNatClampNeg + 1) c).toInt = _
      rw [nc, updS, x0.2]
      exact add_z rfl (by decide) (by omega) (by omega)
  have y5 : y.1 0 305 = x.1 0 305 := k1.1.2.1 305 (by decide)
  have By := S.2.2.1.trx A1.1 (by rw [y5]; exact S.2.2.1.2.1) (k1.1.2.1 312 (by decide))
  have Jy : JC L2 e y := S.1.fr k1.1 k1.2 (by decide) (by decide) (by rw [y5, k1.1.2.1 307 (by decide)]; exact S.1.2.1)
  have cz' : (z.1 0 321).toInt ≤ 500 := by rw [k4.1.2.1 321 (by decide)] at cz; exact cz
  obtain ⟨a, x1, X⟩ := hE.es (P := P) (bz := true) h2 k2 Jy By (tpe_fr k1.1 (by decide) tp) cz' (by decide)
  have er : r = z.1 0 312 + z.1 0 314 := h3.2
  have z14 : z.1 0 314 = v.1 0 314 := by rw [X.2.2.2.2.1, k1.1.2.1 314 (by decide), S.2.2.2.2.1]
  have z12 : z.1 0 312 = v.1 0 312 := by rw [X.2.2.2.2.2, k1.1.2.1 312 (by decide), S.2.2.2.2.2]
  have gs := gslC (v := v) B.2.2.1
  have A4 := ES.add (P := P) (y := 0) h4 k4 X.1 X.2.2.1 (by unfold plE; decide) rfl
  have c1 := S.2.1.cm
  have c2 := A1.1.cm
  have T1 : EAx c P v y [] := EAx.tr0 (k := c) (k' := c) ⟨S.2.1.1, EF.ex S.2.1.2.1, S.2.1.2.2.1, S.2.1.2.2.2⟩ A1.1 B.2.2.2.1 (Or.inl rfl)
  have T2 := EAx.tr (x := c) (x' := -1) T1 X.2.1 B.2.2.2 (Or.inr (Or.inl rfl)) (by have := B.2.2.2.2; omega)
  have T3 := EAx.tr (x := c) (x' := -1) T2 A4.1.2.1 B.2.2.2 (Or.inr (Or.inl rfl)) (by have := B.2.2.2.2; omega)
  have T4 := EAx.tr (x := c) (x' := -1) T3 (EA.wr (P := P) (v := y') 314 (y'.1 0 314 + (1 : Int32))) B.2.2.2 (Or.inr (Or.inl rfl)) (by have := B.2.2.2.2; omega)
  have ky : knC y = knC v := (knC_fr k1.1).trans S.2.2.2.1
  have zc := X.2.1.2.1.2.2.2.2.2 c (by omega) (by omega)
  have yc := A4.1.2.1.2.1.2.2.2.2.2 c (by have := X.cm; omega) (by omega)
  refine ⟨a, ?_, ⟨?_, ?_, ?_, ?_, ?_, ?_⟩, ?_, ?_⟩
  · rw [eu]
    rw [ky, k1.1.2.1 314 (by decide), S.2.2.2.2.1, y5, e5] at x1
    rw [x1]
    exact congrArg (fun q => some (a, q)) A4.2.symm
  · rw [eu]; exact A4.1.1.w14
  · rw [eu]
    rw [er, z14, z12, ← gs] at T4
    simp only [List.nil_append, List.append_nil] at T4
    exact T4
  · rw [eu]; exact A4.1.2.2.1
  · rw [eu]; exact (A4.1.2.2.2.1.trans X.2.2.2.1).trans ky
  · rw [eu]; exact A4.1.2.2.2.2.2.trans z12
  · rw [eu]
    exact yc.1.trans (zc.1.trans (A1.2.1.trans x0.1))
  · rw [eu]
    show y'.1 0 314 + 1 = _
    rw [A4.1.2.2.2.2.1, z14]
  · rw [eu]
    show (y'.1 320 c).toInt = _
    rw [yc.2, zc.2]
    exact A1.2.2
theorem eArg {c : Nat} (hE : XE L2 R E) (h : Q_x_X2_argument L1 L2 R v pa pb false u) (J : JC L2 e v) (B : LBe v) (tp : TPE v) (cu : (u.1 0 321).toInt ≤ 500) (hc : pa.toInt = c) (hc2 : (c : Int) < (v.1 0 321).toInt) (hi : (v.1 320 c).toInt < 1000000) (hj : 0 ≤ (v.1 320 c).toInt) :
    ∃ a, E true e (knC v) (v.1 0 314) (v.1 0 305) = some (a, u.1 0 305) ∧ AGx L2 e P c v u (a ++ [evx 4 (gsl (knC v) (v.1 0 314)) 0]) ∧ u.1 0 314 = v.1 0 314 + 1 ∧ (u.1 320 c).toInt = (v.1 320 c).toInt + 1 := by
  obtain ⟨p1, p2, p3, p4, p5, p6, p7, p8, p9, p10, r3, u2, h2, k2, h⟩ := h
  have W := ES.want (P := P) h2 k2 J B
  have due : ∀ {y : MS}, Q_x_X9_makeDue L1 L2 u2 y → K_x_X9_makeDue u2 y → ES L2 e P v y [] ∧ y.1 0 305 = v.1 0 305 := fun {y} hy ky => by
    have y5 : y.1 0 305 = u2.1 0 305 := ky.1.2.1 305 (by decide)
    have y7 : y.1 0 307 = u2.1 0 305 := by
      rw [show y = wA u2 0 307 (u2.1 0 305) from hy.2]
      rfl
    have D := ES.fr (P := P) ky.1 ky.2 W.1.1 W.1.2.2.1 (by rw [y5]; exact ⟨Int.le_refl _, W.1.2.2.1.2.1⟩) (by rw [y5, y7]; exact Int.le_refl _)
    exact ⟨W.1.tr D B, y5.trans W.2⟩
  have h501 : (v.1 0 321).toInt ≤ 501 := by omega
  rcases h with ⟨-, u8, h8, k8, u11, h11, k11, ⟨u9, -, q, -⟩ | ⟨u40, h40, k40, r45, h45, u47, h47, k47, -, e9⟩⟩ | ⟨-, ⟨-, u58, h58, k58, ⟨u9, -, q, -⟩ | ⟨u79, h79, k79, r84, h84, u86, h86, k86, -, e9⟩⟩ | ⟨-, u8, h8, k8, u11, h11, k11, ⟨u9, -, q, -⟩ | ⟨u40, h40, k40, r45, h45, u47, h47, k47, -, e9⟩⟩⟩
  · cases q
  · have D := due h8 k8
    exact eArg0 hE D.1 B (tpe_fr k8.1 (by decide) (tpe_fr k2.1 (by decide) tp)) D.2 hc hc2 h501 h11 k11 h40 k40 h45 h47 k47 (by rw [e9] at cu; exact cu) e9 hi hj
  · cases q
  · exact eArg0 hE W.1 B (tpe_fr k2.1 (by decide) tp) W.2 hc hc2 h501 h58 k58 h79 k79 h84 h86 k86 (by rw [e9] at cu; exact cu) e9 hi hj
  · cases q
  · have D := due h8 k8
    exact eArg0 hE D.1 B (tpe_fr k8.1 (by decide) (tpe_fr k2.1 (by decide) tp)) D.2 hc hc2 h501 h11 k11 h40 k40 h45 h47 k47 (by rw [e9] at cu; exact cu) e9 hi hj
end UHC
