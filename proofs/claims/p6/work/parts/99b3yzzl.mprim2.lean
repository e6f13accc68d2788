/-! the reference's words: the smallest steps, II -/
section ZWL
variable {K : TK} {v u w x y V : MS} {q : EV} {pa r : Int32} {a b : List Int32} {gm : Nat → Int32}
theorem EMm.c0 (h : EMm V u a) (e1 : V.1 0 12 = v.1 0 12) (e2 : V.1 11 = v.1 11) (e3 : ∀ i ∈ [24, 35, 37, 40, 41, 42], V.1 i = v.1 i) (e4 : V.1 0 39 = v.1 0 39 ∧ V.1 0 43 = v.1 0 43) : EMm v u a := by
  obtain ⟨⟨h1, h2⟩, h3, h4, h5, h6⟩ := h
  rw [e1] at h1 h2 h3 h4
  rw [e2] at h4
  exact ⟨⟨h1, h2⟩, h3, h4, fun i hi => (h5 i hi).trans (e3 i hi), h6.1.trans e4.1, h6.2.trans e4.2⟩
theorem rw2 : rwE gm (evx 2 pa 0) = nuW pa := by
  unfold rwE
  rw [if_neg (by show ¬ ((2 : Int32) = 25 ∨ (2 : Int32) = 24); decide), if_neg (by show ¬ (2 : Int32) = 1; decide), if_pos (show (evx 2 pa 0).1 = 2 from rfl)]
  rfl
theorem lw2 : lwE (evx 2 pa 0) = (nuW pa).length := by
  unfold lwE nuW
  rw [if_neg (by show ¬ (2 : Int32) = 25; decide), if_neg (by show ¬ (2 : Int32) = 21; decide), if_neg (by show ¬ (2 : Int32) = 0; decide)]
  show (dsz 2 pa).toNatClampNeg = _
  unfold dsz nsz
  rw [if_neg (by decide), if_neg (by decide), if_pos rfl]
  split
  · rfl
  · rfl
theorem wLoads (h : Q_m_loads v pa u) : WAq K v u [evx 2 pa 0] := by
  obtain ⟨z12, z15, h⟩ := h
  have fx : fxE (evx 2 pa 0) = [] := by
    unfold fxE
    rw [if_neg (by show ¬ (2 : Int32) = 5; decide), if_neg (by show ¬ (2 : Int32) = 6; decide), if_neg (by show ¬ (2 : Int32) = 7; decide), if_neg (by show ¬ (2 : Int32) = 8; decide), if_neg (by show ¬ (2 : Int32) = 9; decide), if_neg (by show ¬ (2 : Int32) = 20; decide)]
  have E : EMm v u (nuW pa) := by
    obtain ⟨V, hV⟩ : ∃ V, V = wA (wA (wA v 13 ((v.1 0 15).toNatClampNeg) (0 : Int32)) 14 ((v.1 0 15).toNatClampNeg) pa) 0 15 ((v.1 0 15) + (1 : Int32)) := ⟨_, rfl⟩
    have v12 : V.1 0 12 = v.1 0 12 := by rw [hV]; rfl
    have vc : ∀ {u : MS} {l : List Int32}, EMm V u l → EMm v u l := fun h => h.c0 v12 (by rw [hV]; rfl) (fun i hi => by
      rw [hV]
      have a0 : i ≠ 0 ∧ i ≠ 14 ∧ i ≠ 13 := by revert i; decide
      show (if i = 0 then _ else if i = 14 then _ else if i = 13 then _ else v.1 i) = _
      rw [if_neg a0.1, if_neg a0.2.1, if_neg a0.2.2]) ⟨by rw [hV]; rfl, by rw [hV]; rfl⟩
    have two : ∀ r1 r2 : Int32, EMm V (wA (wA (wA (wA V 11 (v.1 0 12).toNatClampNeg r1) 0 12 (v.1 0 12 + 1)) 11 (v.1 0 12 + 1).toNatClampNeg r2) 0 12 (v.1 0 12 + 1 + 1)) [r1, r2] := fun r1 r2 => by
      rw [← v12]
      have e : (V.1 0 12 + 1).toInt = (V.1 0 12).toInt + 1 := add_z rfl (by decide) (by rw [v12]; omega) (by rw [v12]; omega)
      exact (EMm.one (r := r1) ⟨by rw [v12]; omega, by rw [v12]; omega⟩).tr (EMm.one (v := wA (wA V 11 (V.1 0 12).toNatClampNeg r1) 0 12 (V.1 0 12 + 1)) (r := r2) ⟨by show 0 ≤ (V.1 0 12 + 1).toInt; rw [e, v12]; omega, by show (V.1 0 12 + 1).toInt ≤ _; rw [e, v12]; omega⟩)
    have one : ∀ r1 : Int32, EMm V (wA (wA V 11 (v.1 0 12).toNatClampNeg r1) 0 12 (v.1 0 12 + 1)) [r1] := fun r1 => by
      rw [← v12]
      exact EMm.one ⟨by rw [v12]; omega, by rw [v12]; omega⟩
    unfold nuW
    rcases h with ⟨c, r11, h11, r14, h14, r21, h21, r24, h24, e⟩ | ⟨c, ⟨c2, r11, h11, r14, h14, r21, h21, r24, h24, e⟩ | ⟨c2, r55, h55, e⟩⟩
    · rw [if_neg (by omega), e, ← hV, ← eLui h14 (eHi h11), ← eLo h21, ← eAddi h24]
      exact vc (two r14 r24)
    · rw [if_neg (by omega), e, ← hV, ← eLui h14 (eHi h11), ← eLo h21, ← eAddi h24]
      exact vc (two r14 r24)
    · rw [if_pos ⟨c, c2⟩, e, ← hV, ← eAddi h55]
      exact vc (one r55)
  exact EMm.ev (by rw [rw2]; exact E) (by rw [rw2, lw2]) fx (by show (2 : Int32) ≠ 21; decide)
end ZWL
