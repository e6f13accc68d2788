/-! the places of a program: where a function's events stand, their ranks -/
def evF (evs : List (List Int32 × List EV)) (f : Nat) : List Int32 × List EV := evs.getD f ([], [])
def Lfn (evs : List (List Int32 × List EV)) (f : Nat) : List EV := fnB (evF evs f).2
def xfn (evs : List (List Int32 × List EV)) (f : Nat) : List EV := txE 0 (evs.take f) ++ [evx 0 (nI f) 0]
def pdF (evs : List (List Int32 × List EV)) (f i : Nat) : Nat := ldL (xfn evs f) + ldL ((Lfn evs f).take i)
def poF (evs : List (List Int32 × List EV)) (f i : Nat) : Nat := loL (xfn evs f) + loL ((Lfn evs f).take i)
def rkF (evs : List (List Int32 × List EV)) (fl : Nat → Nat → Bool) (f i : Nat) : Int := if ((Lfn evs f)[i]?.map (fun q => q.1)) = some 24 then 0 else if fl f (poF evs f i) = true then 6018 - (pdF evs f i : Int) else 3009 - (pdF evs f i : Int)
def okF (evs : List (List Int32 × List EV)) (E : Nat → Nat) (f i : Nat) : Prop := f < evs.length ∧ i < (Lfn evs f).length ∧ poF evs f i < E f
section YOP
variable {evs : List (List Int32 × List EV)} {f i j n : Nat} {q : EV} {L1 : List Nat} {K : TK} {fn : Nat → Int32} {v0 w0 : MS} {fl : Nat → Nat → Bool} {E : Nat → Nat}
theorem evF_g (h : f < evs.length) : evs[f]? = some (evF evs f) := by
  unfold evF
  rw [List.getD_eq_getElem?_getD, List.getElem?_eq_getElem h]
  rfl
theorem txE_f (h : f < evs.length) : ∃ z, txE 0 evs = xfn evs f ++ (Lfn evs f ++ z) := by
  have T := txE_at evs 0 f (evF evs f) (evF_g h)
  rw [Nat.zero_add] at T
  refine ⟨txE (f + 1) (evs.drop (f + 1)), ?_⟩
  rw [T]
  unfold xfn Lfn
  rw [List.append_assoc]
  rfl
theorem tk_s {L : List EV} (h : L[i]? = some q) : L.take (i + 1) = L.take i ++ [q] := by
  rw [List.take_succ, h]
  rfl
theorem ev_at (h : f < evs.length) (hq : (Lfn evs f)[i]? = some q) : ∃ z, txE 0 evs = (xfn evs f ++ (Lfn evs f).take i) ++ q :: z := by
  obtain ⟨z, hz⟩ := txE_f h
  have li := (List.getElem?_eq_some_iff.mp hq)
  obtain ⟨hi, he⟩ := li
  refine ⟨(Lfn evs f).drop (i + 1) ++ z, ?_⟩
  have e : Lfn evs f = (Lfn evs f).take i ++ q :: (Lfn evs f).drop (i + 1) := by
    rw [← he, List.getElem_cons_drop, List.take_append_drop]
  rw [hz]
  conv => lhs; rw [e]
  simp only [List.append_assoc, List.cons_append]
theorem pd_s (hq : (Lfn evs f)[i]? = some q) : pdF evs f (i + 1) = pdF evs f i + ldE q := by
  unfold pdF
  rw [tk_s hq, ldL_app]
  have : ldL [q] = ldE q := by rw [ldL_cons, ldL_nil]; rfl
  omega
theorem po_s (hq : (Lfn evs f)[i]? = some q) : poF evs f (i + 1) = poF evs f i + loE q := by
  unfold poF
  rw [tk_s hq, loL_app]
  have : loL [q] = loE q := by rw [loL_cons, loL_nil]; rfl
  omega
theorem Lf_last : ∃ Y, Lfn evs f = Y ++ [evx 1 0 0] := ⟨_, rfl⟩
theorem nx_lt (hq : (Lfn evs f)[i]? = some q) (h1 : q.1 ≠ 1) : i + 1 < (Lfn evs f).length := by
  obtain ⟨Y, hY⟩ := Lf_last (evs := evs) (f := f)
  have hi := (List.getElem?_eq_some_iff.mp hq).1
  rw [hY] at hq hi ⊢
  rw [List.length_append] at hi ⊢
  have l : [evx 1 0 0].length = 1 := rfl
  by_cases c : i < Y.length
  · omega
  · have e : i = Y.length := by omega
    rw [List.getElem?_append_right (by omega), e, Nat.sub_self] at hq
    have : evx 1 0 0 = q := Option.some.inj hq
    rw [← this] at h1
    exact absurd rfl h1
theorem mono_take {L : List EV} : ∀ {i j : Nat}, i ≤ j → ldL (L.take i) ≤ ldL (L.take j) ∧ loL (L.take i) ≤ loL (L.take j) := fun {i j} h => by
  have e : L.take j = L.take i ++ (L.drop i).take (j - i) := by
    have : j = i + (j - i) := by omega
    rw [this, List.take_add]
    congr 2
    omega
  rw [e, ldL_app, loL_app]
  omega
/-- ranks -/
theorem rk_24 (hq : (Lfn evs f)[i]? = some q) (h : q.1 = 24) : rkF evs fl f i = 0 := by
  unfold rkF
  rw [hq]
  show (if some q.1 = some 24 then _ else _) = _
  rw [h, if_pos rfl]
theorem rk_n (hq : (Lfn evs f)[i]? = some q) (h : q.1 ≠ 24) : rkF evs fl f i = if fl f (poF evs f i) = true then 6018 - (pdF evs f i : Int) else 3009 - (pdF evs f i : Int) := by
  unfold rkF
  rw [hq]
  show (if some q.1 = some 24 then _ else _) = _
  rw [if_neg (fun z => h (Option.some.inj z))]
theorem oEv13 (h : oEv q = 13) (hk : q.1 = 33 ∨ knT q.1 = true) (h0 : loE q ≠ 0) : q.1 = 24 := by
  apply Classical.byContradiction
  intro n
  rcases hk with hk | hk
  · rw [oE_33 hk] at h
    exact absurd h (by decide)
  have kn := of_decide_eq_true hk
  rcases kn with ht | ht | ht | ht | ht | ht | ht | ht | ht | ht | ht | ht | ht | ht | ht | ht | ht | ht | ht | ht | ht | ht | ht | ht | ht | ht | ht | ht
  · rw [oE_1 ht] at h; exact absurd h (by decide)
  · rw [oE_2 ht] at h; exact absurd h (by decide)
  · rw [oE_3 ht] at h; exact absurd h (by decide)
  · rw [oE_4 ht] at h; exact absurd h (by decide)
  · rw [oE_5 ht] at h; exact absurd h (by decide)
  · rw [oE_6 ht] at h; exact absurd h (by decide)
  · rw [oE_7 ht] at h; exact absurd h (by decide)
  · rw [oE_8 ht] at h; exact absurd h (by decide)
  · exact h0 (if_pos (Or.inr (Or.inr ht)))
  · rw [oE_10 ht] at h; exact absurd h (by decide)
  · rw [oE_11 ht] at h; exact absurd h (by decide)
  · rw [oE_12 ht] at h; exact absurd h (by decide)
  · rw [oE_13 ht] at h; exact absurd h (by decide)
  · rw [oE_14 ht] at h; exact absurd h (by decide)
  · rw [oE_15 ht] at h; exact absurd h (by decide)
  · rw [oE_16 ht] at h
    by_cases z : q.2.2.1 = 1
    · rw [if_pos z] at h; exact absurd h (by decide)
    · rw [if_neg z] at h; exact absurd h (by decide)
  · rw [oE_17 ht] at h; exact absurd h (by decide)
  · rw [oE_18 ht] at h; exact absurd h (by decide)
  · rw [oE_19 ht] at h; exact absurd h (by decide)
  · rw [oE_20 ht] at h; exact absurd h (by decide)
  · rw [oE_21 ht] at h; exact absurd h (by decide)
  · rw [oE_22 ht] at h; exact absurd h (by decide)
  · rw [oE_23 ht] at h; exact absurd h (by decide)
  · exact n ht
  · rw [oE_25 ht] at h; exact absurd h (by decide)
  · unfold oEv at h; rw [ht] at h; exact absurd (show (24 : Int32) = 13 from h) (by decide)
  · unfold oEv at h; rw [ht] at h; exact absurd (show (24 : Int32) = 13 from h) (by decide)
  · unfold oEv at h; rw [ht] at h; exact absurd (show (15 : Int32) = 13 from h) (by decide)
theorem oEvN (hk : knT q.1 = true) (he : ¬ endT q) : (oEv q).toInt ≠ 12 ∧ (oEv q).toInt ≠ 15 := by
  have kn := of_decide_eq_true hk
  rcases kn with ht | ht | ht | ht | ht | ht | ht | ht | ht | ht | ht | ht | ht | ht | ht | ht | ht | ht | ht | ht | ht | ht | ht | ht | ht | ht | ht | ht
  · exact absurd (Or.inr (Or.inr (Or.inr (Or.inr (Or.inr ht))))) he
  · rw [oE_2 ht]; decide
  · rw [oE_3 ht]; decide
  · rw [oE_4 ht]; decide
  · rw [oE_5 ht]; decide
  · rw [oE_6 ht]; decide
  · rw [oE_7 ht]; decide
  · rw [oE_8 ht]; decide
  · unfold oEv; rw [ht]; exact (show (24 : Int32).toInt ≠ 12 ∧ (24 : Int32).toInt ≠ 15 by decide)
  · rw [oE_10 ht]; decide
  · rw [oE_11 ht]; decide
  · rw [oE_12 ht]; decide
  · rw [oE_13 ht]; decide
  · rw [oE_14 ht]; decide
  · rw [oE_15 ht]; decide
  · rw [oE_16 ht]
    by_cases z : q.2.2.1 = 1
    · rw [if_pos z]; decide
    · rw [if_neg z]; decide
  · rw [oE_17 ht]; decide
  · rw [oE_18 ht]; decide
  · exact absurd (Or.inl ht) he
  · rw [oE_20 ht]; decide
  · rw [oE_21 ht]; decide
  · rw [oE_22 ht]; decide
  · rw [oE_23 ht]; decide
  · rw [oE_24 ht]; decide
  · rw [oE_25 ht]; decide
  · exact absurd (Or.inr (Or.inl ht)) he
  · exact absurd (Or.inr (Or.inr (Or.inl ht))) he
  · exact absurd (Or.inr (Or.inr (Or.inr (Or.inl ht)))) he
theorem preK {s : ST3} (h : preT q s) : knT q.1 = true := by
  cases z : knT q.1 with
  | true => rfl
  | false =>
    unfold preT at h
    rw [if_pos z] at h
    exact h.elim
/-- an event without an order: a number put by, a place held -/
theorem lo0 {s : ST3} (h : preT q s) (l : loE q = 0) : s.2.2 = 1 ∧ (postT q s).2.1 = s.2.1 + 1 ∧ (postT q s).2.2 ≠ 1 ∧ q.1 ≠ 1 ∧ ¬ endT q := by
  have k := preK h
  have z : ¬ (q.1 = 0) := fun z => by
    rw [z] at k
    exact absurd k (by decide)
  have c : (q.1 = 4 ∧ q.2.2.1 = 0) ∨ q.1 = 9 := by
    unfold loE at l
    by_cases g : q.1 = 0 ∨ (q.1 = 4 ∧ q.2.2.1 = 0) ∨ q.1 = 9
    · rcases g with g | g | g
      · exact absurd g z
      · exact Or.inl g
      · exact Or.inr g
    · rw [if_neg g] at l
      exact absurd l (by decide)
  rcases c with ⟨t, y⟩ | t
  · have hp : s.2.2 = 1 := by
      have w := h
      unfold preT at w
      rw [t] at w
      exact w.1
    have po : postT q s = (s.1, s.2.1 + 1, 0) := by
      unfold postT
      rw [t, y]
      rfl
    rw [po]
    exact ⟨hp, rfl, by show ¬ (0 : Nat) = 1; decide, by rw [t]; decide, by unfold endT; rw [t]; decide⟩
  · have hp : s.2.2 = 1 := by
      have w := h
      unfold preT at w
      rw [t] at w
      exact w.1
    have po : postT q s = (s.1, s.2.1 + 1, 2) := by
      unfold postT
      rw [t]
      rfl
    rw [po]
    exact ⟨hp, rfl, by show ¬ (2 : Nat) = 1; decide, by rw [t]; decide, by unfold endT; rw [t]; decide⟩
end YOP
