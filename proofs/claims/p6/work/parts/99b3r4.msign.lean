/-! the reference: signs -/
def strF (c : Int32) : Int32 := (if (c) = 37 then 10 else (if (c) = 38 then 5 else (if (c) = 42 then 10 else (if (c) = 43 then 9 else (if (c) = 45 then 9 else (if (c) = 47 then 10 else (if (c) = 60 then 7 else (if (c) = 62 then 7 else (if (c) = 94 then 4 else (if (c) = 124 then 3 else (if (c) = 9766 then 2 else (if (c) = 15420 then 8 else (if (c) = 15649 then 6 else (if (c) = 15676 then 7 else (if (c) = 15677 then 6 else (if (c) = 15678 then 7 else (if (c) = 15934 then 8 else (if (c) = 31868 then 1 else 0))))))))))))))))))
set_option maxHeartbeats 400000 in
theorem strF_of {v : MS} {r : Int32} (h : Q_m_strength v r) : ((v.1 6 (v.1 0 47).toNatClampNeg).toInt = 5 ∧ r = strF ((v.2 (v.1 0 47).toNatClampNeg).toInt32)) ∨ ((v.1 6 (v.1 0 47).toNatClampNeg).toInt ≠ 5 ∧ r = 0) := by
  obtain ⟨-, h⟩ := h
  rcases h with ⟨k5, h⟩ | ⟨k5, h⟩
  · refine Or.inl ⟨k5, ?_⟩
    unfold strF
    rcases h with ⟨q, h⟩ | ⟨q, h⟩
    · rw [if_pos q]
      exact h
    · rw [if_neg q]
      rcases h with ⟨q, h⟩ | ⟨q, h⟩
      · rw [if_pos q]
        exact h
      · rw [if_neg q]
        rcases h with ⟨q, h⟩ | ⟨q, h⟩
        · rw [if_pos q]
          exact h
        · rw [if_neg q]
          rcases h with ⟨q, h⟩ | ⟨q, h⟩
          · rw [if_pos q]
            exact h
          · rw [if_neg q]
            rcases h with ⟨q, h⟩ | ⟨q, h⟩
            · rw [if_pos q]
              exact h
            · rw [if_neg q]
              rcases h with ⟨q, h⟩ | ⟨q, h⟩
              · rw [if_pos q]
                exact h
              · rw [if_neg q]
                rcases h with ⟨q, h⟩ | ⟨q, h⟩
                · rw [if_pos q]
                  exact h
                · rw [if_neg q]
                  rcases h with ⟨q, h⟩ | ⟨q, h⟩
                  · rw [if_pos q]
                    exact h
                  · rw [if_neg q]
                    rcases h with ⟨q, h⟩ | ⟨q, h⟩
                    · rw [if_pos q]
                      exact h
                    · rw [if_neg q]
                      rcases h with ⟨q, h⟩ | ⟨q, h⟩
                      · rw [if_pos q]
                        exact h
                      · rw [if_neg q]
                        rcases h with ⟨q, h⟩ | ⟨q, h⟩
                        · rw [if_pos q]
                          exact h
                        · rw [if_neg q]
                          rcases h with ⟨q, h⟩ | ⟨q, h⟩
                          · rw [if_pos q]
                            exact h
                          · rw [if_neg q]
                            rcases h with ⟨q, h⟩ | ⟨q, h⟩
                            · rw [if_pos q]
                              exact h
                            · rw [if_neg q]
                              rcases h with ⟨q, h⟩ | ⟨q, h⟩
                              · rw [if_pos q]
                                exact h
                              · rw [if_neg q]
                                rcases h with ⟨q, h⟩ | ⟨q, h⟩
                                · rw [if_pos q]
                                  exact h
                                · rw [if_neg q]
                                  rcases h with ⟨q, h⟩ | ⟨q, h⟩
                                  · rw [if_pos q]
                                    exact h
                                  · rw [if_neg q]
                                    rcases h with ⟨q, h⟩ | ⟨q, h⟩
                                    · rw [if_pos q]
                                      exact h
                                    · rw [if_neg q]
                                      rcases h with ⟨q, h⟩ | ⟨q, h⟩
                                      · rw [if_pos q]
                                        exact h
                                      · rw [if_neg q]
                                        exact h
  · exact Or.inr ⟨k5, h⟩
def setF (c : Int32) : Int32 := (if (c).toInt = (61 : Int) then 0 else (if (c).toInt = (4013116 : Int) then (c) &&& (65535 : Int32) else (if (c).toInt = (4013630 : Int) then (c) &&& (65535 : Int32) else (if ((c) >>> ((8 : Int32) &&& 31)).toInt = (61 : Int) then (if ((c) &&& (255 : Int32)).toInt = (43 : Int) then (c) &&& (255 : Int32) else (if ((c) &&& (255 : Int32)).toInt = (45 : Int) then (c) &&& (255 : Int32) else (if ((c) &&& (255 : Int32)).toInt = (42 : Int) then (c) &&& (255 : Int32) else (if ((c) &&& (255 : Int32)).toInt = (47 : Int) then (c) &&& (255 : Int32) else (if ((c) &&& (255 : Int32)).toInt = (37 : Int) then (c) &&& (255 : Int32) else (if ((c) &&& (255 : Int32)).toInt = (38 : Int) then (c) &&& (255 : Int32) else (if ((c) &&& (255 : Int32)).toInt = (124 : Int) then (c) &&& (255 : Int32) else (if ((c) &&& (255 : Int32)).toInt = (94 : Int) then (c) &&& (255 : Int32) else -1)))))))) else -1))))
set_option maxHeartbeats 400000 in
theorem setF_of {v : MS} {r : Int32} (h : Q_m_setting v r) : ((v.1 6 (v.1 0 47).toNatClampNeg).toInt = 5 ∧ r = setF ((v.2 (v.1 0 47).toNatClampNeg).toInt32)) ∨ ((v.1 6 (v.1 0 47).toNatClampNeg).toInt ≠ 5 ∧ r = -1) := by
  obtain ⟨-, h⟩ := h
  rcases h with ⟨k5, h⟩ | ⟨k5, h⟩
  · refine Or.inl ⟨k5, ?_⟩
    unfold setF
    rcases h with ⟨q, h⟩ | ⟨q, h⟩
    · rw [if_neg q]
      rcases h with ⟨q, h⟩ | ⟨q, h⟩
      · rw [if_pos q]
        exact h
      · rw [if_neg q]
        rcases h with ⟨q, h⟩ | ⟨q, h⟩
        · rw [if_neg q]
          rcases h with ⟨q, h⟩ | ⟨q, h⟩
          · rw [if_neg q]
            exact h
          · rw [if_pos q]
            rcases h with ⟨q, h⟩ | ⟨q, h⟩
            · rw [if_pos q]
              exact h
            · rw [if_neg q]
              rcases h with ⟨q, h⟩ | ⟨q, h⟩
              · rw [if_pos q]
                exact h
              · rw [if_neg q]
                rcases h with ⟨q, h⟩ | ⟨q, h⟩
                · rw [if_pos q]
                  exact h
                · rw [if_neg q]
                  rcases h with ⟨q, h⟩ | ⟨q, h⟩
                  · rw [if_pos q]
                    exact h
                  · rw [if_neg q]
                    rcases h with ⟨q, h⟩ | ⟨q, h⟩
                    · rw [if_pos q]
                      exact h
                    · rw [if_neg q]
                      rcases h with ⟨q, h⟩ | ⟨q, h⟩
                      · rw [if_pos q]
                        exact h
                      · rw [if_neg q]
                        rcases h with ⟨q, h⟩ | ⟨q, h⟩
                        · rw [if_pos q]
                          exact h
                        · rw [if_neg q]
                          rcases h with ⟨q, h⟩ | ⟨q, h⟩
                          · rw [if_neg q]
                            exact h
                          · rw [if_pos q]
                            exact h
        · rw [if_pos q]
          exact h
    · rw [if_pos q]
      exact h
  · exact Or.inr ⟨k5, h⟩
theorem strF_SC : ∀ z ∈ SC, strF z.1 = stg z.2 := by decide
theorem setF_SC : ∀ z ∈ SC, (setF z.1 ≠ -1 ↔ (42 ≤ z.2.toInt ∧ z.2.toInt ≤ 52)) ∧ (setF z.1 = 0 ↔ z.2 = 42) ∧ ((43 ≤ z.2.toInt ∧ z.2.toInt ≤ 52) → ∃ y ∈ SC, y.1 = setF z.1 ∧ y.2 = z.2 + 10) := by decide
theorem stg_lo {k : Int32} (h : k.toInt < 53) (h0 : -1000 ≤ k.toInt) : stg k = 0 := by
  unfold stg
  have e1 : (k - 53).toInt = k.toInt - 53 := sub_z rfl (by decide) (by omega) (by omega)
  rw [if_pos (Or.inl (by omega))]
section MSG
variable {g : GM} {n : Int} {K : TK} {e : PE} {v u : MS} {t : Bool} {r pa pb : Int32} {m : Int}
theorem kM_lo {k : Int32} {x : Int64} {d : Int32} (h : TV k x) (h5 : k ≠ 5) : (kM k x d).toInt ≤ 20 ∧ 0 ≤ (kM k x d).toInt := by
  unfold kM
  by_cases k3 : k = 3
  · rw [if_pos k3]
    obtain ⟨y, hy, rfl⟩ := h.2.1 k3
    rw [i64_32]
    have : ∀ y ∈ KL, (10 + y : Int32).toInt ≤ 20 ∧ 0 ≤ (10 + y : Int32).toInt := by decide
    exact this y hy
  · rw [if_neg k3]
    by_cases k4 : k = 4
    · rw [if_pos k4]
      split <;> decide
    · rw [if_neg k4, if_neg h5]
      by_cases k6 : k = 6
      · rw [if_pos k6]
        decide
      · rw [if_neg k6]
        have : ∀ k ∈ ([0, 1, 2, 3, 4, 5, 6] : List Int32), k.toInt ≤ 20 ∧ 0 ≤ k.toInt := by decide
        exact this k h.1
theorem ne5 {k : Int32} (h : k.toInt ≠ 5) : k ≠ 5 := fun q => h (by rw [q]; decide)
/-- a sign stands there: which -/
theorem rSg (J : JM n K e v) (h : (v.1 6 (v.1 0 47).toNatClampNeg).toInt = 5) : ∃ z ∈ SC, v.2 (v.1 0 47).toNatClampNeg = z.1.toInt64 ∧ (v.2 (v.1 0 47).toNatClampNeg).toInt32 = z.1 ∧ kd e (aR g K v) = z.2 := by
  have k5 : v.1 6 (v.1 0 47).toNatClampNeg = 5 := Int32.toInt_inj.mp (h.trans (by decide))
  obtain ⟨z, hz, q⟩ := (rTV J).2.2 k5
  refine ⟨z, hz, q, by rw [q, i64_32], ?_⟩
  rw [rKd J, kM_5 (rTV J) hz]
  exact ⟨k5, q⟩
theorem rStr (h : Q_m_strength v r) (J : JM n K e v) : r = stg (kd e (aR g K v)) := by
  rcases strF_of h with ⟨k5, q⟩ | ⟨k5, q⟩
  · obtain ⟨z, hz, -, q2, q3⟩ := rSg (g := g) J k5
    rw [q, q2, q3, strF_SC z hz]
  · have b := kM_lo (d := v.1 10 (v.1 0 47).toNatClampNeg) (rTV J) (ne5 k5)
    rw [q, rKd J, stg_lo (by omega) (by omega)]
theorem rSet (h : Q_m_setting v r) (J : JM n K e v) : (r.toInt ≠ -1 ↔ ((42 : Int) ≤ (kd e (aR g K v)).toInt ∧ (kd e (aR g K v)).toInt ≤ 52)) ∧ (r.toInt ≠ -1 → (r = 0 ↔ (kd e (aR g K v)).toInt = 42) ∧ (r ≠ 0 → ∃ y ∈ SC, y.1 = r ∧ y.2 = kd e (aR g K v) + 10)) := by
  have m1 : ∀ a : Int32, a.toInt ≠ -1 ↔ a ≠ -1 := fun a => not_congr ⟨fun q => Int32.toInt_inj.mp (q.trans (by decide)), fun q => by rw [q]; decide⟩
  rw [m1]
  rcases setF_of h with ⟨k5, q⟩ | ⟨k5, q⟩
  · obtain ⟨z, hz, -, q2, q3⟩ := rSg (g := g) J k5
    have s := setF_SC z hz
    rw [q, q2, q3]
    have e42 : z.2 = 42 ↔ z.2.toInt = 42 := ⟨fun w => by rw [w]; decide, fun w => Int32.toInt_inj.mp (w.trans (by decide))⟩
    refine ⟨s.1, fun w => ⟨s.2.1.trans e42, fun w0 => s.2.2 ?_⟩⟩
    have a := s.1.mp w
    have b : ¬ z.2.toInt = 42 := fun x => w0 (s.2.1.mpr (e42.mpr x))
    omega
  · have b := kM_lo (d := v.1 10 (v.1 0 47).toNatClampNeg) (rTV J) (ne5 k5)
    rw [q, rKd J]
    exact ⟨⟨fun w => absurd rfl w, fun w => by omega⟩, fun w => absurd rfl w⟩
theorem rRem (h : Q_m_remember v pa u) (J : JM n K e v) : aR g K u = sMu (aR g K v) (pMu (aR g K v) || decide (pa = 42)) (pDi (aR g K v) || decide (pa = 47 ∨ pa = 37)) ∧ JM n K e u := by
  have z0 : ∀ a : Int32, a.toInt = 0 ↔ a = 0 := fun a => ⟨fun q => Int32.toInt_inj.mp (q.trans (by decide)), fun q => by rw [q]; decide⟩
  have z42 : ∀ a : Int32, a.toInt = 42 ↔ a = 42 := fun a => ⟨fun q => Int32.toInt_inj.mp (q.trans (by decide)), fun q => by rw [q]; decide⟩
  have z47 : ∀ a : Int32, a.toInt = 47 ↔ a = 47 := fun a => ⟨fun q => Int32.toInt_inj.mp (q.trans (by decide)), fun q => by rw [q]; decide⟩
  have z37 : ∀ a : Int32, a.toInt = 37 ↔ a = 37 := fun a => ⟨fun q => Int32.toInt_inj.mp (q.trans (by decide)), fun q => by rw [q]; decide⟩
  have key : ∀ x y : Int32, u = wA (wA v 0 44 x) 0 45 y → (decide (x ≠ 0) = (decide (v.1 0 44 ≠ 0) || decide (pa = 42))) → (decide (y ≠ 0) = (decide (v.1 0 45 ≠ 0) || decide (pa = 47 ∨ pa = 37))) → aR g K u = sMu (aR g K v) (pMu (aR g K v) || decide (pa = 42)) (pDi (aR g K v) || decide (pa = 47 ∨ pa = 37)) ∧ JM n K e u := by
    intro x y hu hx hy
    have J4 := J.2.2.2.1
    subst hu
    refine ⟨?_, J.of rfl (fun a ha => ?_) rfl rfl ⟨J4.1, J4.2.1, J4.2.2.1⟩⟩
    · show mkP _ _ _ _ _ _ (decide (x ≠ 0)) (decide (y ≠ 0)) _ _ _ _ _ _ = mkP _ _ _ _ _ _ (decide (v.1 0 44 ≠ 0) || decide (pa = 42)) (decide (v.1 0 45 ≠ 0) || decide (pa = 47 ∨ pa = 37)) _ _ _ _ _ _
      rw [hx, hy]
      rfl
    · have : a ≠ 0 := fun q => by rw [q] at ha; revert ha; decide
      exact (if_neg this).trans (if_neg this)
  unfold Q_m_remember at h
  simp only [z0, z42, z47, z37, ne_eq] at h
  rcases h with ⟨a, ⟨b, h⟩ | ⟨b, ⟨c, h⟩ | ⟨c, ⟨d, h⟩ | ⟨d, h⟩⟩⟩⟩ | ⟨a, ⟨b, ⟨c, h⟩ | ⟨c, ⟨d, h⟩ | ⟨d, ⟨d2, h⟩ | ⟨d2, h⟩⟩⟩⟩ | ⟨b, ⟨c, h⟩ | ⟨c, d, d2, h⟩⟩⟩ <;> exact key _ _ h (by simp [*]) (by simp [*])
end MSG
