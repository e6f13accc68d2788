/-! the reference's words: with addresses wanted -/
def EMg (v u : MS) (ws : List Int32) (l : List (Nat × Int32 × Int32)) : Prop := (((u.1 0 12).toInt = (v.1 0 12).toInt + ws.length ∧ 0 ≤ (v.1 0 12).toInt) ∧ Seg u (v.1 0 12).toNatClampNeg ws ∧ ∀ j : Nat, (j : Int) < (v.1 0 12).toInt → u.1 11 j = v.1 11 j) ∧ (∀ i ∈ [24, 35, 37], u.1 i = v.1 i) ∧ u.1 0 39 = v.1 0 39 ∧ (FQq v u l ∧ 0 ≤ (v.1 0 43).toInt) ∧ ∀ c : Nat, (c : Int) < (v.1 0 43).toInt → u.1 40 c = v.1 40 c ∧ u.1 41 c = v.1 41 c ∧ u.1 42 c = v.1 42 c
section ZWM
variable {K : TK} {v u w x y V : MS} {q : EV} {pa pb pc1 r : Int32} {a b : List Int32} {l m : List (Nat × Int32 × Int32)}
theorem EMm.g (h : EMm v u a) (h0 : 0 ≤ (v.1 0 43).toInt) : EMg v u a [] := by
  obtain ⟨h1, h3, h4, h5, h6⟩ := h
  exact ⟨⟨h1, h3, h4⟩, fun i hi => h5 i (by revert i; decide), h6.1, ⟨⟨by rw [h6.2]; show _ = _ + ((0 : Nat) : Int); omega, fun k e h => by simp at h⟩, h0⟩, fun c _ => ⟨by rw [h5 40 (by decide)], by rw [h5 41 (by decide)], by rw [h5 42 (by decide)]⟩⟩
theorem EMg.tr (h : EMg v u a l) (k : EMg u w b m) : EMg v w (a ++ b) (l ++ m) := by
  obtain ⟨⟨⟨h1, h2⟩, h3, h4⟩, h5, h6, ⟨h7, h8⟩, h9⟩ := h
  obtain ⟨⟨⟨k1, k2⟩, k3, k4⟩, k5, k6, ⟨k7, k8⟩, k9⟩ := k
  have n1 := natI h2
  have n2 := natI k2
  have l1 := h7.1
  have m1 := k7.1
  have n3 := natI h8
  have n4 := natI k8
  refine ⟨⟨⟨by rw [List.length_append]; omega, h2⟩, fun i z hz => ?_, fun j hj => (k4 j (by omega)).trans (h4 j hj)⟩, fun i hi => (k5 i hi).trans (h5 i hi), k6.trans h6, ⟨⟨by rw [List.length_append]; omega, fun i e he => ?_⟩, h8⟩, fun c hc => ?_⟩
  · by_cases c : i < a.length
    · rw [List.getElem?_append_left c] at hz
      rw [k4 _ (by omega)]
      exact h3 i z hz
    · rw [List.getElem?_append_right (by omega)] at hz
      have := k3 (i - a.length) z hz
      rw [show (u.1 0 12).toNatClampNeg + (i - a.length) = (v.1 0 12).toNatClampNeg + i by omega] at this
      exact this
  · by_cases c : i < l.length
    · rw [List.getElem?_append_left c] at he
      have A := h7.2 i e he
      have B := k9 ((v.1 0 43).toNatClampNeg + i) (by omega)
      rw [B.1, B.2.1, B.2.2]
      exact A
    · rw [List.getElem?_append_right (by omega)] at he
      have A := k7.2 (i - l.length) e he
      rw [show (u.1 0 43).toNatClampNeg + (i - l.length) = (v.1 0 43).toNatClampNeg + i by omega] at A
      exact A
  · have A := h9 c hc
    have B := k9 c (by omega)
    exact ⟨B.1.trans A.1, B.2.1.trans A.2.1, B.2.2.trans A.2.2⟩
theorem EMg.ev (h : EMg v u (rwE (v.1 24) q) (fxL (v.1 0 12).toNatClampNeg [q])) (hl : (rwE (v.1 24) q).length = lwE q) (hq : q.1 ≠ 21) : WAq K v u [q] := by
  obtain ⟨⟨⟨h1, h2⟩, h3, h4⟩, h5, h6, ⟨h7, h8⟩, h9⟩ := h
  have e24 : u.1 24 = v.1 24 := h5 24 (by decide)
  have n := natI h2
  have l1 := h7.1
  exact ⟨by rw [lwL_cons, lwL_nil]; omega, ⟨⟨by omega, h4⟩, ⟨by omega, h9⟩, ⟨by rw [h6]; exact Int.le_refl _, fun c _ => ⟨by rw [h5 35 (by decide)], by rw [h5 37 (by decide)]⟩⟩, e24⟩, ⟨fun c c1 c2 => by rw [h6] at c2; omega, fun c d c1 c2 => by rw [h6] at c2; omega⟩, WOq.one ⟨⟨by omega, by rw [e24]; exact hl⟩, by rw [e24]; exact h3, fun e => absurd e hq⟩, h7⟩
/-- an address is wanted at a word -/
theorem wFix (h12 : 0 ≤ (v.1 0 12).toInt) (h : Q_m_fix v pa pb pc1 u) : EMg v u [] [(pa.toNatClampNeg, pb, pc1)] := by
  obtain ⟨z43, za, -, e⟩ := h
  have i43 : (v.1 0 43 + 1).toInt = (v.1 0 43).toInt + 1 := add_z rfl (by decide) (by omega) (by omega)
  have n := natI z43.1
  have na := natI za.1
  rw [e]
  refine ⟨⟨⟨(Int.add_zero _).symm, h12⟩, fun i z hz => by simp at hz, fun j _ => rfl⟩, fun i hi => ?_, rfl, ⟨⟨i43, fun k t ht => ?_⟩, z43.1⟩, fun c hc => ?_⟩
  · have a0 : i ≠ 0 ∧ i ≠ 40 ∧ i ≠ 41 ∧ i ≠ 42 := by revert i; decide
    show (if i = 0 then _ else if i = 42 then _ else if i = 41 then _ else if i = 40 then _ else v.1 i) = _
    rw [if_neg a0.1, if_neg a0.2.2.2, if_neg a0.2.2.1, if_neg a0.2.1]
  · match k, ht with
    | 0, ht =>
      have et : t = (pa.toNatClampNeg, pb, pc1) := (Option.some.inj ht).symm
      rw [et, Nat.add_zero]
      refine ⟨?_, ?_, ?_⟩
      · show (upd (v.1 40) (v.1 0 43).toNatClampNeg pa (v.1 0 43).toNatClampNeg).toInt = (pa.toNatClampNeg : Int)
        rw [updS]
        omega
      · show upd (v.1 41) (v.1 0 43).toNatClampNeg pb (v.1 0 43).toNatClampNeg = pb
        exact updS
      · show upd (v.1 42) (v.1 0 43).toNatClampNeg pc1 (v.1 0 43).toNatClampNeg = pc1
        exact updS
    | k + 1, ht => simp at ht
  · have ne : c ≠ (v.1 0 43).toNatClampNeg := by omega
    exact ⟨show upd (v.1 40) _ pa c = _ from updN_ ne, show upd (v.1 41) _ pb c = _ from updN_ ne, show upd (v.1 42) _ pc1 c = _ from updN_ ne⟩
end ZWM
