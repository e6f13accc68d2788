/-! the words of both, event by event, II -/
section ZZZG
variable {K : TK} {x u v w : MS} {a X Y : List EV} {q : EV} {P n p k np m M : Nat} {L R T O tl : List Int32} {L1 L2 : List Nat} {d : List (List Int32 × List EV)} {c : WC} {z s t y z2 : Int32} {gm : Nat → Int32}
theorem z0n (h : q.1 ≠ 0) : z0E q = q := if_neg h
theorem dJ (D : DTq L1 u q p) (h : q.1 = 16 ∨ q.1 = 17 ∨ q.1 = 18 ∨ q.1 = 19 ∨ q.1 = 33) : u.1 378 p = (if q.1 = 33 then 19 else q.1) ∧ (u.1 379 p).toInt = p + q.2.2.2.1 := by
  by_cases c : q.1 = 33
  · have d2 := D.2
    rw [if_neg (by rw [c]; decide), if_neg (by rw [c]; decide), if_pos c] at d2
    rw [if_pos c]
    exact d2
  · rw [if_neg c]
    refine dLp D ?_
    rcases h with h | h | h | h | h
    · exact Or.inl h
    · exact Or.inr (Or.inl h)
    · exact Or.inr (Or.inr (Or.inl h))
    · exact Or.inr (Or.inr (Or.inr h))
    · exact absurd h c
theorem d21 (D : DTq L1 u q p) (h : q.1 = 21) : u.1 378 p = 21 ∧ u.1 380 p = q.2.2.1 ∧ (0 ≤ (u.1 379 p).toInt ∧ (u.1 379 p).toInt < (u.1 0 375).toInt) ∧ rF L1 u (u.1 379 p).toNatClampNeg 4 = q.2.1 ∧ (rF L1 u (u.1 379 p).toNatClampNeg 0).toInt = q.2.2.2.1 := by
  have d2 := D.2
  rw [if_neg (by rw [h]; decide), if_neg (by rw [h]; decide), if_neg (by rw [h]; decide), if_pos h] at d2
  exact d2
theorem rw20q (h : q.1 = 20) : rwE gm q = iW 8195 5 8 (fW q.2.2.1) :: sgR q.2.1 := by
  obtain ⟨t, r⟩ := q
  have h : t = 20 := h
  subst h
  rfl
theorem fin20 (h : q.1 = 20) : finE x q P = iW 8195 5 8 (fW q.2.2.1) :: sgF x P q.2.1 := by
  unfold finE
  rw [if_neg (by rw [h]; decide), if_pos h]
/-- a function's number of parameters -/
theorem parN (h : CMx L1 L2 K u x d) (F : FTw K x d tl) (hk : k < d.length) : ∃ X np Y, txW 0 d = X ++ evx 0 (nI k) (nI np) :: Y ∧ np ≤ 8 ∧ x.1 19 k = nI (2 + lwL X) ∧ x.1 17 k = nI np := by
  obtain ⟨X, np, Y, e⟩ := txW_at d 0 k hk
  rw [Nat.zero_add] at e
  have f := F.2.2.2 X _ Y e
  rw [if_pos (show (evx 0 (nI k) (nI np)).1 = 0 from rfl)] at f
  obtain ⟨k', np', e1, ⟨e2, e3⟩, e4, e5, -⟩ := f
  have h1 := h.1.2.1
  have q1 : nI k = nI k' := congrArg (fun q : EV => q.2.1) e1
  have q2 : k = k' := by
    have := congrArg Int32.toInt q1
    rw [nI_Z (by omega), nI_Z (by omega)] at this
    omega
  rw [← q2] at e4 e5
  rw [e1] at e
  rw [← q2] at e
  exact ⟨X, np', Y, e, e2, e4, e5⟩
set_option maxHeartbeats 800000 in
theorem lenE (h : CMx L1 L2 K u x d) (F : FTw K x d tl) (D : DTq L1 u (z0E q) (ldL X)) (e : txW 0 d = X ++ q :: Y) (h1 : ldE q = 1) : lenD L1 u (ldL X) = lwE q := by
  have c25 : q.1 ≠ 25 := fun c => by
    have : ldE q = 0 := if_pos c
    omega
  have f := F.2.2.2 X q Y e
  unfold lenD
  by_cases c0 : q.1 = 0
  · rw [if_pos c0] at f
    obtain ⟨k, np, e1, ⟨e2, e3⟩, e4, e5, -⟩ := f
    have z : z0E q = evx 0 (nI k) 0 := by rw [e1]; rfl
    rw [z] at D
    have dd := dPl D (show ¬ ((0 : Int32) = 25 ∨ (0 : Int32) = 16 ∨ (0 : Int32) = 17 ∨ (0 : Int32) = 18 ∨ (0 : Int32) = 19 ∨ (0 : Int32) = 33 ∨ (0 : Int32) = 21) by decide)
    have d1 : u.1 378 (ldL X) = 0 := dd.1
    have d2 : u.1 379 (ldL X) = nI k := dd.2.1
    rw [d1, d2, wd0]
    show (enW (fF L1 u (nI k) 2) _ (fF L1 u (nI k) 0)).length = _
    rw [fF_k h e3 0, (h.2.2.2.1 k e3).1, e5, enl e2, e1, lwE0 e2]
  rw [if_neg c0] at f
  rw [z0n c0] at D
  by_cases cJ : q.1 = 16 ∨ q.1 = 17 ∨ q.1 = 18 ∨ q.1 = 19 ∨ q.1 = 33
  · have dd := dJ D cJ
    rw [wdJ (by
      rw [dd.1]
      split
      · decide
      · rename_i g
        rcases cJ with h | h | h | h | h
        · exact Or.inl h
        · exact Or.inr (Or.inl h)
        · exact Or.inr (Or.inr (Or.inl h))
        · exact Or.inr (Or.inr (Or.inr h))
        · exact absurd h g)]
    exact jpl cJ dd.1
  by_cases c21 : q.1 = 21
  · have dd := d21 D c21
    rw [if_pos c21] at f
    have h375 := h.1
    have nf := natI dd.2.2.1.1
    have lt : (u.1 379 (ldL X)).toNatClampNeg < d.length := by omega
    obtain ⟨X0, np, Y0, -, g2, -, g4⟩ := parN h F lt
    rw [dd.1, wd21]
    have e9 : nI (u.1 379 (ldL X)).toNatClampNeg = u.1 379 (ldL X) := nI_nat dd.2.2.1.1
    have e10 : fF L1 u (u.1 379 (ldL X)) 0 = rF L1 u (u.1 379 (ldL X)).toNatClampNeg 0 := by
      have := fF_k h lt 0
      rw [e9] at this
      exact this
    refine cal c21 (show (fF L1 u (u.1 379 (ldL X)) 0).toInt = _ by rw [e10]; exact dd.2.2.2.2) ?_
    rw [← dd.2.2.2.2, (h.2.2.2.1 _ lt).1, g4, nI_Z (by omega)]
    omega
  rw [if_neg c21] at f
  have dd := dPl D (by
    rintro (g | g | g | g | g | g | g)
    · exact c25 g
    · exact cJ (Or.inl g)
    · exact cJ (Or.inr (Or.inl g))
    · exact cJ (Or.inr (Or.inr (Or.inl g)))
    · exact cJ (Or.inr (Or.inr (Or.inr (Or.inl g))))
    · exact cJ (Or.inr (Or.inr (Or.inr (Or.inr g))))
    · exact c21 g)
  have fl := f.2.1
  by_cases c20 : q.1 = 20
  · rw [dd.1, dd.2.1, c20, wd20]
    rw [rw20q c20] at fl
    rw [← fl, List.length_cons, List.length_cons, sgL]
  by_cases cP : q.1 = 5 ∨ q.1 = 6 ∨ q.1 = 7 ∨ q.1 = 8 ∨ q.1 = 9
  · have y4 : (if q.1 = 4 then (0 : Int32) else q.2.2.1) = q.2.2.1 := if_neg (by rcases cP with g | g | g | g | g <;> (rw [g]; decide))
    rw [rwP cP] at fl
    rw [dd.1, dd.2.1, dd.2.2, y4, wdP cP, ← fl]
    exact plW_len
  rw [dd.1, dd.2.1, wdO c0 (fun g => cJ (by
    rcases g with g | g | g | g
    · exact Or.inl g
    · exact Or.inr (Or.inl g)
    · exact Or.inr (Or.inr (Or.inl g))
    · exact Or.inr (Or.inr (Or.inr (Or.inl g))))) (fun g => cJ (Or.inr (Or.inr (Or.inr (Or.inr g))))) c20 c21 c25 cP dd.2.2]
  exact fl
end ZZZG
