/-! the class's deeds: places, settings -/
/-- an expression, whose level's relation is R -/
def XE (L2 : List Nat) (R : MS → Int32 → Bool → MS → Prop) (E : EvE) : Prop := ∀ (v u : MS) (st : Int32) (e : PE) (P : Int32 × Int32 × Int32), R v st false u → K_x_X2_expression v st u → JC L2 e v → LBe v → TPE v → (u.1 0 321).toInt ≤ 500 → ∃ a, E (decide (st.toInt ≠ 0)) e (knC v) (v.1 0 314) (v.1 0 305) = some (a, u.1 0 305) ∧ JC L2 e u ∧ EA P v u a ∧ u.1 0 314 = v.1 0 314
section UDI
variable {L1 L2 : List Nat} {P : Int32 × Int32 × Int32} {v u w : MS} {a b : List EV} {e : PE} {pa pb pc1 pd r : Int32} {t : Bool} {E : EvE} {R : MS → Int32 → Bool → MS → Prop}
theorem EA.cm (h : EA P v u a) : (v.1 0 321).toInt ≤ (u.1 0 321).toInt := h.2.1.2.2.2.2.1
theorem XE.at (hE : XE L2 R E) {st : Int32} {bz : Bool} (h : R v st false u) (k : K_x_X2_expression v st u) (J : JC L2 e v) (B : LBe v) (tp : TPE v) (c : (u.1 0 321).toInt ≤ 500) (hb : decide (st.toInt ≠ 0) = bz) : ∃ a, E bz e (knC v) (v.1 0 314) (v.1 0 305) = some (a, u.1 0 305) ∧ JC L2 e u ∧ EA P v u a ∧ u.1 0 314 = v.1 0 314 ∧ LBe u ∧ knC u = knC v := by
  obtain ⟨a, h1, h2, h3, h4⟩ := hE v u st e P h k J B tp c
  exact ⟨a, by rw [← hb]; exact h1, h2, h3, h4, B.tr h3 (by have := k.2.1; omega) (k.1.2.1 312 (by decide)), knC_fr k.1⟩
theorem eIndex (hE : XE L2 R E) (h : Q_x_X2_index L1 L2 R v pa false u) (J : JC L2 e v) (B : LBe v) (tp : TPO v) (c : (u.1 0 321).toInt ≤ 500) : ∃ a, gIndex E pa e (knC v) (v.1 0 314) (v.1 0 305) = some (a, u.1 0 305) ∧ JC L2 e u ∧ EA P v u a ∧ u.1 0 314 = v.1 0 314 := by
  obtain ⟨-, -, -, -, -, -, -, -, -, -, h⟩ := h
  rcases h with ⟨u9, -, q, -⟩ | ⟨u2, h2, k2, ⟨u9, -, q, -⟩ | ⟨u15, h15, k15, ⟨u9, -, q, -⟩ | ⟨u20, h20, k20, u24, h24, k24, u29, h29, k29, -, e9⟩⟩⟩
  · cases q
  · cases q
  · cases q
  rw [e9] at c ⊢
  have o := eOpen (P := P) h2 k2 J
  have B2 := B.tr o.2.1 (by have := k2.2.1; omega) (k2.1.2.1 312 (by decide))
  have A9 : EA P u24 u29 [evx 7 pa 0] := EA.add h29 (by unfold plE; decide) rfl
  have m1 := (EA.fc (P := P) k20.1 (h3 := by have := k20.2.2.1; omega)).cm
  have m2 := (EA.fc (P := P) k24.1 (h3 := by rw [k24.1.2.1 305 (by decide)]; exact Int.le_refl _)).cm
  obtain ⟨a, x1, x2, x3, x4, x5, x6⟩ := hE.at (P := P) (bz := true) h15 k15 o.1 B2 (tp_open k2 tp) (by have := A9.cm; omega) (by decide)
  have y := eExp (P := P) (m := 35) (by decide) h20 k20 x2
  have z := eClose (P := P) h24 k24 y.1
  have f29 : u29.1 0 314 = v.1 0 314 := by rw [k29.1.2.1 314 (by decide), k24.1.2.1 314 (by decide), k20.1.2.1 314 (by decide), x4, k2.1.2.1 314 (by decide)]
  refine ⟨a ++ [evx 7 pa 0], ?_, ?_, ?_, f29⟩
  · unfold gIndex
    rw [← o.2.2, ← k2.1.2.1 314 (by decide), ← knC_fr k2.1, x1, Option.bind_some, y.2.2, Option.bind_some, k29.1.2.1 305 (by decide), z.2.2]
  · exact z.1.fr k29.1 k29.2.2.2 (by decide) (by decide) (by rw [k29.1.2.1 305 (by decide), k29.1.2.1 307 (by decide)]; exact z.1.2.1)
  · have T := (((o.2.1.tr x3 B.2.2.2).tr y.2.1 B.2.2.2).tr z.2.1 B.2.2.2).tr A9 B.2.2.2
    simp only [List.append_nil, List.nil_append] at T
    exact T
theorem eRead {sl : Int} (h : Q_x_X2_read L1 L2 v pa pb u) (hs : (pa.toInt = -1 → sl < 0) ∧ (pa.toInt ≠ -1 → 0 ≤ sl ∧ pa = Int32.ofInt sl)) : EA P v u [gRead sl pb] ∧ FC [381] [0, 378, 379, 380] v u ∧ RS v u := by
  obtain ⟨-, -, -, -, h⟩ := h
  unfold gRead
  rcases h with ⟨c, u4, h4, k4, e⟩ | ⟨c, u4, h4, k4, e⟩
  · rw [e, if_neg (by have := hs.1 c; omega)]
    exact ⟨EA.add h4 (by unfold plE; decide) rfl, k4.1, k4.2.2.2⟩
  · rw [e, if_pos (hs.2 c).1, ← (hs.2 c).2]
    exact ⟨EA.add h4 (by unfold plE; decide) rfl, k4.1, k4.2.2.2⟩
end UDI
