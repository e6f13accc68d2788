/-! events' types: functions -/
section XOT
variable {M : Int} {S : EvS} {e : PE} {kn kn' : List Int32} {i j : Int32} {K k n : Nat} {a b : List EV} {s t : ST3} {R : D3}
theorem rsr_len : ∀ (b : List EV) (R : D3), (rsr R b).length = b.length
  | [], _ => rfl
  | q :: l, R => by
    show (rsr _ l).length + 1 = l.length + 1
    rw [rsr_len l]
theorem rsr_take : ∀ (b : List EV) (R : D3) (j : Nat), (rsr R b).take j = rsr R (b.take j)
  | [], _, j => by rw [List.take_nil]; exact List.take_nil
  | q :: l, R, 0 => rfl
  | q :: l, R, j + 1 => by
    show ((if q.1 = 32 then _ else _) :: rsr (d3s R q) l).take (j + 1) = rsr R (q :: l.take j)
    rw [List.take_succ_cons, rsr_take l]
    rfl
theorem rsr_get : ∀ (b : List EV) (R : D3) (i : Nat) (p : EV), (rsr R b)[i]? = some p → ∃ q, b[i]? = some q ∧ ((q.1 = 32 ∧ p.1 = 33 ∧ p.2.2.2.1 = R.1 - ldL (b.take i)) ∨ (q.1 ≠ 32 ∧ p = q))
  | [], _, i, p, h => by cases h
  | q :: l, R, 0, p, h => by
    have e : (if q.1 = 32 then (33, 0, 0, R.1, R.2.1, R.2.2) else q) = p := Option.some.inj h
    refine ⟨q, rfl, ?_⟩
    by_cases c1 : q.1 = 32
    · rw [if_pos c1] at e
      rw [← e]
      exact Or.inl ⟨c1, rfl, by rw [List.take_zero, ldL_nil]; show R.1 = _; omega⟩
    · rw [if_neg c1] at e
      exact Or.inr ⟨c1, e.symm⟩
  | q :: l, R, i + 1, p, h => by
    have h : (rsr (d3s R q) l)[i]? = some p := h
    obtain ⟨q', h1, h2⟩ := rsr_get l (d3s R q) i p h
    refine ⟨q', h1, ?_⟩
    rw [List.take_succ_cons, ldL_cons]
    rcases h2 with ⟨c1, c2, c3⟩ | h2
    · have c3 : _ = R.1 - ldE q - _ := c3
      exact Or.inl ⟨c1, c2, by omega⟩
    · exact Or.inr h2
theorem preT_r {q : EV} (h : q.1 = 32) : preT q s ↔ (s.2.2 = 1 ∧ s.2.1 = 0) := by
  unfold preT
  rw [if_neg (by rw [h]; decide), if_neg (by rw [h]; decide), if_neg (by rw [h]; decide), if_neg (by rw [h]; decide), if_neg (by rw [h]; decide), if_neg (by rw [h]; decide), if_neg (by rw [h]; decide), if_neg (by rw [h]; decide), if_neg (by rw [h]; decide), if_neg (by rw [h]; decide), if_pos (Or.inl h)]
/-- a function's events, return's place known: the last event -/
def TYF (n : Nat) (L : List EV) : Prop := ∃ τ : Nat → ST3, le3 (n, 0, 0) (τ 0) ∧ (∀ i, i ≤ L.length → n ≤ (τ i).1) ∧ ∀ i q, L[i]? = some q → (q.1 = 33 ∧ ((τ i).2.2 = 1 ∧ (τ i).2.1 = 0) ∧ (ldL (L.take i) : Int) + q.2.2.2.1 = (ldL L : Int) - 1) ∨ evOK L τ i q
theorem TYF.of (h : TYe n b (n, 0, 0) t) (hR : R.1 = (ldL b : Int) - 1) : TYF n (rsr R b) := by
  obtain ⟨τ, a1, a2, a3, a4⟩ := h
  refine ⟨τ, a1, fun i hi => a3 i (by rw [rsr_len] at hi; exact hi), fun i p hp => ?_⟩
  obtain ⟨q, h1, h2⟩ := rsr_get b R i p hp
  obtain ⟨c1, c2, c3⟩ := a4 i q h1
  rcases h2 with ⟨g1, g2, g3⟩ | ⟨-, rfl⟩
  · refine Or.inl ⟨g2, (preT_r g1).mp c1, ?_⟩
    rw [rsr_take, ldL_rsr, ldL_rsr, g3, hR]
    omega
  · refine Or.inr ⟨c1, c2, fun hl => ?_⟩
    obtain ⟨j, j1, j2, j3, j4⟩ := c3 hl
    refine ⟨j, by rw [rsr_len]; exact j1, ?_, ?_, j4⟩
    · rw [rsr_take, rsr_take, ldL_rsr, ldL_rsr]; exact j2
    · rw [rsr_take, rsr_take, loL_rsr, loL_rsr]; exact j3
theorem rsr_app : ∀ (a c : List EV) (R : D3), rsr R (a ++ c) = rsr R a ++ rsr (R.1 - ldL a, R.2.1 - loL a, R.2.2 - lwL a) c
  | [], c, R => by
    have z : ((R.1 - ((0 : Nat) : Int), R.2.1 - ((0 : Nat) : Int), R.2.2 - ((0 : Nat) : Int)) : D3) = R := by
      rw [show R.1 - ((0 : Nat) : Int) = R.1 by omega, show R.2.1 - ((0 : Nat) : Int) = R.2.1 by omega, show R.2.2 - ((0 : Nat) : Int) = R.2.2 by omega]
    show rsr R c = rsr (R.1 - ((0 : Nat) : Int), R.2.1 - ((0 : Nat) : Int), R.2.2 - ((0 : Nat) : Int)) c
    rw [z]
  | q :: l, c, R => by
    show _ :: rsr (d3s R q) (l ++ c) = _ :: (rsr (d3s R q) l ++ _)
    rw [rsr_app l, ldL_cons, loL_cons, lwL_cons]
    have e : ((d3s R q).1 - (ldL l : Int), (d3s R q).2.1 - (loL l : Int), (d3s R q).2.2 - (lwL l : Int)) = ((R.1 - ((ldE q + ldL l : Nat) : Int), R.2.1 - ((loE q + loL l : Nat) : Int), R.2.2 - ((lwE q + lwL l : Nat) : Int)) : D3) := by
      show (R.1 - ldE q - (ldL l : Int), R.2.1 - loE q - (loL l : Int), R.2.2 - lwE q - (lwL l : Int)) = _
      rw [show R.1 - ldE q - (ldL l : Int) = R.1 - ((ldE q + ldL l : Nat) : Int) by omega, show R.2.1 - loE q - (loL l : Int) = R.2.1 - ((loE q + loL l : Nat) : Int) by omega, show R.2.2 - lwE q - (lwL l : Int) = R.2.2 - ((lwE q + lwL l : Nat) : Int) by omega]
    rw [e]
theorem rsr1 {q : EV} (h : q.1 ≠ 32) : rsr R [q] = [q] := by
  show [if q.1 = 32 then _ else q] = [q]
  rw [if_neg h]
theorem gPars_len : ∀ (f : Nat) (kn : List Int32) (i : Int32) (q : List Int32 × Int32), gPars f e kn i = some q → q.1.length ≤ kn.length + f
  | 0, _, _, _, h => by cases h
  | f + 1, kn, i, q, h => by
    have h : (gTok e 10 i).bind (fun j => if (e.1 (j + 1)).toInt = 37 then gPars f e (kn ++ [e.2.1 j]) (j + 1 + 1) else some (kn ++ [e.2.1 j], j + 1)) = some q := h
    obtain ⟨j, -, h⟩ := Option.bind_eq_some_iff.mp h
    by_cases c : (e.1 (j + 1)).toInt = 37
    · rw [if_pos c] at h
      have := gPars_len f _ _ _ h
      rw [List.length_append] at this
      have : q.1.length ≤ kn.length + 1 + f := this
      omega
    · rw [if_neg c] at h
      have := Option.some.inj h
      rw [← this]
      show (kn ++ [e.2.1 j]).length ≤ _
      rw [List.length_append]
      show kn.length + 1 ≤ _
      omega
/-- a function's events have types -/
theorem tyFunc {r : List Int32 × List EV × Int32} (h : gFunc EvSP e i = some r) : r.1.length ≤ 1502 ∧ ∃ m, r.1.length ≤ m ∧ TYe r.1.length r.2.1 (r.1.length, 0, 0) (m, 0, 0) := by
  unfold gFunc at h
  obtain ⟨q, hq, h⟩ := Option.bind_eq_some_iff.mp h
  obtain ⟨j1, -, h⟩ := Option.bind_eq_some_iff.mp h
  obtain ⟨b, hb, h⟩ := Option.bind_eq_some_iff.mp h
  obtain ⟨j2, -, h⟩ := Option.bind_eq_some_iff.mp h
  have er := Option.some.inj h
  have l : q.1.length ≤ 1502 := by
    unfold gParams at hq
    obtain ⟨p, hp, hq⟩ := Option.bind_eq_some_iff.mp hq
    obtain ⟨j3, -, hq⟩ := Option.bind_eq_some_iff.mp hq
    have z := Option.some.inj hq
    have e1 : p.1 = q.1 := by rw [← z]
    rw [← e1]
    by_cases c : (e.1 (i + 1 + 1)).toInt = 31
    · rw [if_pos c] at hp
      have := Option.some.inj hp
      rw [← this]
      exact Nat.zero_le _
    · rw [if_neg c] at hp
      have := gPars_len _ _ _ _ hp
      have z : ([] : List Int32).length = 0 := rfl
      omega
  obtain ⟨B1, B2⟩ := tyStats EvSP_t 1502 q.1 j1 b.1 b.2.1 b.2.2 hb (by omega)
  rw [← er]
  exact ⟨l, b.2.1.length, B1, B2⟩
/-- what stands behind ENTER -/
def fnB (b : List EV) : List EV := rsr (d3p (b ++ [evx 2 0 0])) b ++ [evx 2 0 0] ++ [evx 1 0 0]
theorem fnE_B (kI : Int32) : fnE kI b = evx 0 kI 0 :: fnB b := rfl
/-- a function's events behind ENTER: the last is LEAVE, leaps stay inside -/
def TYG (n : Nat) (L : List EV) : Prop := ∃ τ : Nat → ST3, le3 (n, 0, 0) (τ 0) ∧ ∀ i q, L[i]? = some q → (q.1 = 33 ∧ ((τ i).2.2 = 1 ∧ (τ i).2.1 = 0) ∧ (ldL (L.take i) : Int) + q.2.2.2.1 = (ldL L : Int) - 1) ∨ (preT q (τ i) ∧ (endT q ∨ le3 (postT q (τ i)) (τ (i + 1))) ∧ (isL q → ∃ j, j < L.length ∧ (ldL (L.take j) : Int) = ldL (L.take i) + q.2.2.2.1 ∧ (loL (L.take j) : Int) = loL (L.take i) + q.2.2.2.2.1 ∧ le3 (leapT q (τ i)) (τ j)))
theorem tyFnB (h : TYe n b (n, 0, 0) (k, 0, 0)) (hk : n ≤ k) : TYG n (fnB b) := by
  have T2 : TYe n [evx 2 0 0] (k, 0, 0) (n, 0, 1) := (TYe.one (show (0 : Nat) ≠ 1 by decide) le3.rf nL hk hk : TYe n [evx 2 0 0] (k, 0, 0) (k, 0, 1)).w le3.rf ⟨rfl, Or.inr ⟨rfl, hk⟩, Or.inl rfl⟩
  obtain ⟨τ, a1, a2, -, a4⟩ := (h.app T2).ex (Nat.le_refl _)
  obtain ⟨R, hR⟩ : ∃ R : D3, R = d3p (b ++ [evx 2 0 0]) := ⟨_, rfl⟩
  have l1 : ldL [evx 1 0 0] = 1 := rfl
  have eL : fnB b = rsr R (b ++ [evx 2 0 0]) ++ [evx 1 0 0] := by
    unfold fnB
    rw [rsr_app, rsr1 (q := evx 2 0 0) (by show ¬ (2 : Int32) = 32; decide), ← hR]
  have len : (rsr R (b ++ [evx 2 0 0])).length = (b ++ [evx 2 0 0]).length := rsr_len _ _
  have lL : (fnB b).length = (b ++ [evx 2 0 0]).length + 1 := by rw [eL, List.length_append, len]; rfl
  have tk : ∀ j, j ≤ (b ++ [evx 2 0 0]).length → ldL ((fnB b).take j) = ldL ((b ++ [evx 2 0 0]).take j) ∧ loL ((fnB b).take j) = loL ((b ++ [evx 2 0 0]).take j) := fun j hj => by
    rw [eL, List.take_append_of_le_length (by rw [len]; exact hj), rsr_take, ldL_rsr, loL_rsr]
    exact ⟨rfl, rfl⟩
  have ldW : ldL (fnB b) = ldL (b ++ [evx 2 0 0]) + 1 := by rw [eL, ldL_app, ldL_rsr, l1]
  refine ⟨τ, a1, fun i p hp => ?_⟩
  by_cases c : i < (b ++ [evx 2 0 0]).length
  · rw [eL, List.getElem?_append_left (by rw [len]; exact c)] at hp
    obtain ⟨q, h1, h2⟩ := rsr_get _ R i p hp
    obtain ⟨c1, c2, c3⟩ := a4 i q h1
    rcases h2 with ⟨g1, g2, g3⟩ | ⟨-, rfl⟩
    · refine Or.inl ⟨g2, (preT_r g1).mp c1, ?_⟩
      rw [(tk i (by omega)).1, g3, ldW, hR]
      show _ + (((ldL (b ++ [evx 2 0 0]) : Nat) : Int) - _) = _
      omega
    · refine Or.inr ⟨c1, c2, fun hl => ?_⟩
      obtain ⟨j, j1, j2, j3, j4⟩ := c3 hl
      refine ⟨j, by rw [lL]; omega, ?_, ?_, j4⟩
      · rw [(tk j j1).1, (tk i (by omega)).1]; exact j2
      · rw [(tk j j1).2, (tk i (by omega)).2]; exact j3
  · have hi : i < (fnB b).length := (List.getElem?_eq_some_iff.mp hp).1
    have e : i = (b ++ [evx 2 0 0]).length := by omega
    rw [eL, List.getElem?_append_right (by rw [len]; omega), len, e, Nat.sub_self] at hp
    have ep : evx 1 0 0 = p := Option.some.inj hp
    rw [← ep, e, a2]
    exact Or.inr ⟨show (1 : Nat) = 1 ∧ (0 : Nat) = 0 by decide, Or.inl (Or.inr (Or.inr (Or.inr (Or.inr (Or.inr rfl))))), fun z => absurd z nL⟩
end XOT
