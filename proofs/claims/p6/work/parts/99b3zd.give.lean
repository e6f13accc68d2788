/-! a number given, in both -/
section ZDG
variable {N : Nat} {gz : Int} {z : ZG} {L1 L2 : List Nat} {v u w : MS} {pa r : Int32}
theorem KEz.gi (h : KEz N gz z L1 L2 v) (hv : (v.1 0 344).toInt = gz) (h0 : 0 ≤ (v.1 0 344).toInt) (hq : Q_x_X11_give L1 L2 v pa r u) : KEz N (u.1 0 344).toInt (z.gi gz pa) L1 L2 u := by
  obtain ⟨-, r3, u2, ⟨b, hq⟩, -, -, eu⟩ := hq
  have np := natI h0
  rcases hq with ⟨c, -, e⟩ | ⟨c, -, e⟩
  · have e1 : (v.1 0 344 + 1).toInt = (v.1 0 344).toInt + 1 := add_z rfl (by decide) (by omega) (by omega)
    rw [eu, e]
    obtain ⟨⟨h1, h2, h3, h4⟩, h5, h6⟩ := h
    refine ⟨⟨h1, h2.tr ⟨fun k hk => ?_, fun a ha => ?_, fun a ha => ?_⟩, fun k hk => ?_, fun a ha => ?_⟩, ?_, fun j hj => ?_⟩
    · show upd (v.1 0) 344 _ k = _
      rw [updN_ (by revert k; decide)]
    · have a0 : a ≠ 0 ∧ a ≠ 343 := by revert a; decide
      show (if a = 0 then _ else if a = 343 then _ else v.1 a) = _
      rw [if_neg a0.1, if_neg a0.2]
    · show (if a = 0 then _ else if a = 343 then _ else v.1 a) = _
      rw [if_neg (by omega), if_neg (by omega)]
    · refine Eq.trans ?_ (h3 k hk)
      show upd (v.1 0) 344 _ k = _
      rw [updN_ (by revert k; decide)]
    · refine Eq.trans ?_ (h4 a ha)
      have a0 : a ≠ 0 ∧ a ≠ 343 := by revert a; decide
      show (if a = 0 then _ else if a = 343 then _ else v.1 a) = _
      rw [if_neg a0.1, if_neg a0.2]
    · exact h5
    · have hj : (j : Int) < (v.1 0 344 + 1).toInt := hj
      rw [ZG.gi_gv (by omega), ← hv, ← np]
      show upd (v.1 343) (v.1 0 344).toNatClampNeg pa j = _
      exact gi_at (fun j hj => h6 j (by omega)) (by omega)
  · rw [eu, e]
    refine ⟨h.1, h.2.1, fun j hj => ?_⟩
    rw [ZG.gi_no (by omega)]
    exact h.2.2 j (by omega)
theorem MEz.gi (h : MEz gz z w) (hv : (w.1 0 94).toInt = gz) (h0 : 0 ≤ (w.1 0 94).toInt) (hq : Q_m_give w pa r u) : MEz (u.1 0 94).toInt (z.gi gz pa) u := by
  obtain ⟨b, hq⟩ := hq
  have np := natI h0
  rcases hq with ⟨c, -, e⟩ | ⟨c, -, e⟩
  · have e1 : (w.1 0 94 + 1).toInt = (w.1 0 94).toInt + 1 := add_z rfl (by decide) (by omega) (by omega)
    rw [e]
    obtain ⟨⟨h2, h3, h4⟩, h6⟩ := h
    refine ⟨⟨h2.tr ⟨fun k hk => ?_, fun a ha => ?_⟩, fun k hk => ?_, fun a ha => ?_⟩, fun j hj => ?_⟩
    · show upd (upd (w.1 0) 0 0) 94 _ k = _
      rw [updN_ (by revert k; decide), updN_ (by revert k; decide)]
    · have a0 : a ≠ 0 ∧ a ≠ 93 := by revert a; decide
      show (if a = 0 then _ else if a = 93 then _ else if a = 0 then _ else w.1 a) = _
      rw [if_neg a0.1, if_neg a0.2, if_neg a0.1]
    · refine Eq.trans ?_ (h3 k hk)
      show upd (upd (w.1 0) 0 0) 94 _ k = _
      rw [updN_ (by revert k; decide), updN_ (by revert k; decide)]
    · refine Eq.trans ?_ (h4 a ha)
      have a0 : a ≠ 0 ∧ a ≠ 93 := by revert a; decide
      show (if a = 0 then _ else if a = 93 then _ else if a = 0 then _ else w.1 a) = _
      rw [if_neg a0.1, if_neg a0.2, if_neg a0.1]
    · have hj : (j : Int) < (w.1 0 94 + 1).toInt := hj
      rw [ZG.gi_gv (by omega), ← hv, ← np]
      show upd (w.1 93) (w.1 0 94).toNatClampNeg pa j = _
      exact gi_at (fun j hj => h6 j (by omega)) (by omega)
  · have m : MEz gz z u := by rw [e]; exact h.th
    refine ⟨m.1, fun j hj => ?_⟩
    rw [ZG.gi_no (by omega)]
    refine m.2 j ?_
    rw [e] at hj
    have hj : (j : Int) < (w.1 0 94).toInt := hj
    omega
end ZDG
