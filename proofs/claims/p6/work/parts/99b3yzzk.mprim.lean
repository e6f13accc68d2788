/-! the reference's words: the smallest steps -/
/-- words are written one behind the other, nothing else that counts is touched -/
def EMm (v u : MS) (ws : List Int32) : Prop := ((u.1 0 12).toInt = (v.1 0 12).toInt + ws.length ∧ 0 ≤ (v.1 0 12).toInt) ∧ Seg u (v.1 0 12).toNatClampNeg ws ∧ (∀ j : Nat, (j : Int) < (v.1 0 12).toInt → u.1 11 j = v.1 11 j) ∧ (∀ i ∈ [24, 35, 37, 40, 41, 42], u.1 i = v.1 i) ∧ (u.1 0 39 = v.1 0 39 ∧ u.1 0 43 = v.1 0 43)
section ZWK
variable {K : TK} {v u w x y : MS} {q : EV} {pa : Int32} {a b : List Int32}
theorem EMm.tr (h : EMm v u a) (k : EMm u w b) : EMm v w (a ++ b) := by
  obtain ⟨⟨h1, h2⟩, h3, h4, h5, h6⟩ := h
  obtain ⟨⟨k1, k2⟩, k3, k4, k5, k6⟩ := k
  have n1 := natI h2
  have n2 := natI k2
  refine ⟨⟨by rw [List.length_append]; omega, h2⟩, fun i z hz => ?_, fun j hj => (k4 j (by omega)).trans (h4 j hj), fun i hi => (k5 i hi).trans (h5 i hi), k6.1.trans h6.1, k6.2.trans h6.2⟩
  by_cases c : i < a.length
  · rw [List.getElem?_append_left c] at hz
    rw [k4 _ (by omega)]
    exact h3 i z hz
  · rw [List.getElem?_append_right (by omega)] at hz
    have := k3 (i - a.length) z hz
    rw [show (u.1 0 12).toNatClampNeg + (i - a.length) = (v.1 0 12).toNatClampNeg + i by omega] at this
    exact this
theorem EMm.one {r : Int32} (h : 0 ≤ (v.1 0 12).toInt ∧ (v.1 0 12).toInt ≤ 1000000) : EMm v (wA (wA v 11 (v.1 0 12).toNatClampNeg r) 0 12 (v.1 0 12 + 1)) [r] := by
  have e : (v.1 0 12 + 1).toInt = (v.1 0 12).toInt + 1 := add_z rfl (by decide) (by omega) (by omega)
  have n := natI h.1
  refine ⟨⟨e, h.1⟩, fun i z hz => ?_, fun j hj => ?_, fun i hi => ?_, rfl, rfl⟩
  · match i, hz with
    | 0, hz =>
      show upd (v.1 11) (v.1 0 12).toNatClampNeg r ((v.1 0 12).toNatClampNeg + 0) = z
      rw [Nat.add_zero, updS]
      exact Option.some.inj hz
    | i + 1, hz => simp at hz
  · show upd (v.1 11) (v.1 0 12).toNatClampNeg r j = _
    rw [updN_ (by omega)]
  · have a0 : i ≠ 0 ∧ i ≠ 11 := by revert i; decide
    show (if i = 0 then _ else if i = 11 then _ else v.1 i) = _
    rw [if_neg a0.1, if_neg a0.2]
/-- what does not count -/
theorem EMm.cg (h : EMm v u a) (e1 : w.1 0 12 = u.1 0 12) (e2 : w.1 11 = u.1 11) (e3 : ∀ i ∈ [24, 35, 37, 40, 41, 42], w.1 i = u.1 i) (e4 : w.1 0 39 = u.1 0 39 ∧ w.1 0 43 = u.1 0 43) : EMm v w a := by
  obtain ⟨⟨h1, h2⟩, h3, h4, h5, h6⟩ := h
  refine ⟨⟨by rw [e1]; exact h1, h2⟩, fun i z hz => by rw [e2]; exact h3 i z hz, fun j hj => by rw [e2]; exact h4 j hj, fun i hi => (e3 i hi).trans (h5 i hi), e4.1.trans h6.1, e4.2.trans h6.2⟩
/-- an event without addresses -/
theorem EMm.ev (h : EMm v u (rwE (v.1 24) q)) (hl : (rwE (v.1 24) q).length = lwE q) (hf : fxE q = []) (hq : q.1 ≠ 21) : WAq K v u [q] := by
  obtain ⟨⟨h1, h2⟩, h3, h4, h5, h6⟩ := h
  have n := natI h2
  have e24 : u.1 24 = v.1 24 := h5 24 (by decide)
  refine ⟨by rw [lwL_cons, lwL_nil]; omega, ⟨⟨by omega, h4⟩, ⟨by rw [h6.2]; exact Int.le_refl _, fun c _ => ⟨by rw [h5 40 (by decide)], by rw [h5 41 (by decide)], by rw [h5 42 (by decide)]⟩⟩, ⟨by rw [h6.1]; exact Int.le_refl _, fun c _ => ⟨by rw [h5 35 (by decide)], by rw [h5 37 (by decide)]⟩⟩, e24⟩, ⟨fun c c1 c2 => by rw [h6.1] at c2; omega, fun c d c1 c2 => by rw [h6.1] at c2; omega⟩, WOq.one ⟨⟨by omega, by rw [e24]; exact hl⟩, by rw [e24]; exact h3, fun e => absurd e hq⟩, ?_⟩
  show FQq v u ((fxE q).map (fun e => ((v.1 0 12).toNatClampNeg + e.1, e.2)) ++ [])
  rw [hf]
  exact ⟨by rw [h6.2]; show _ = _ + ((0 : Nat) : Int); omega, fun k e h => by simp at h⟩
end ZWK
