/-! events have types: known, put by, hand -/
/-- hand: 0 nothing wanted, 1 the pile's top, 2 still the last put by -/
abbrev ST3 : Type := Nat × Nat × Nat
def le3 (s t : ST3) : Prop := s.2.1 = t.2.1 ∧ (s.1 = t.1 ∨ (s.2.1 = 0 ∧ t.1 ≤ s.1)) ∧ (s.2.2 = t.2.2 ∨ (s.2.2 = 2 ∧ t.2.2 = 0))
theorem le3.rf {s : ST3} : le3 s s := ⟨rfl, Or.inl rfl, Or.inl rfl⟩
theorem le3.tr {s t u : ST3} (h : le3 s t) (k : le3 t u) : le3 s u := by
  obtain ⟨a1, a2, a3⟩ := h
  obtain ⟨b1, b2, b3⟩ := k
  exact ⟨a1.trans b1, by omega, by omega⟩
/-- tags that events may have before return's place is known -/
def knT (t : Int32) : Bool := decide (t = 1 ∨ t = 2 ∨ t = 3 ∨ t = 4 ∨ t = 5 ∨ t = 6 ∨ t = 7 ∨ t = 8 ∨ t = 9 ∨ t = 10 ∨ t = 11 ∨ t = 12 ∨ t = 13 ∨ t = 14 ∨ t = 15 ∨ t = 16 ∨ t = 17 ∨ t = 18 ∨ t = 19 ∨ t = 20 ∨ t = 21 ∨ t = 22 ∨ t = 23 ∨ t = 24 ∨ t = 25 ∨ t = 30 ∨ t = 31 ∨ t = 32)
/-- before an event -/
def preT (q : EV) (s : ST3) : Prop :=
  if knT q.1 = false then False
  else if q.1 = 2 ∨ q.1 = 5 ∨ q.1 = 23 then s.2.2 ≠ 1
  else if q.1 = 3 then s.2.2 ≠ 1 ∧ 0 ≤ q.2.1.toInt ∧ q.2.1.toNatClampNeg < s.1
  else if q.1 = 4 then s.2.2 = 1 ∧ 0 ≤ q.2.1.toInt ∧ ((q.2.2.1 = 0 ∧ q.2.1.toNatClampNeg = s.1 + s.2.1) ∨ (q.2.2.1 = 1 ∧ (q.2.1.toNatClampNeg < s.1 ∨ (q.2.1.toNatClampNeg = s.1 ∧ s.2.1 = 0))))
  else if q.1 = 9 then s.2.2 = 1 ∧ 0 ≤ q.2.2.1.toInt ∧ q.2.2.1.toNatClampNeg = s.1 + s.2.1
  else if q.1 = 10 then s.2.2 = 2 ∧ 1 ≤ s.2.1
  else if q.1 = 11 then s.2.2 = 1 ∧ 1 ≤ s.2.1 ∧ 0 ≤ q.2.1.toInt ∧ q.2.1.toNatClampNeg + 1 = s.1 + s.2.1
  else if q.1 = 20 then s.2.2 = 1 ∧ 1 ≤ s.2.1 ∧ 0 ≤ q.2.2.1.toInt ∧ q.2.2.1.toNatClampNeg + 1 = s.1 + s.2.1
  else if q.1 = 21 then s.2.2 ≠ 1 ∧ 0 ≤ q.2.2.2.1 ∧ q.2.2.2.1.toNat ≤ s.2.1 ∧ 0 ≤ q.2.2.1.toInt ∧ q.2.2.1.toNatClampNeg + q.2.2.2.1.toNat = s.1 + s.2.1
  else if q.1 = 24 ∨ q.1 = 30 ∨ q.1 = 31 then s.2.2 = 0 ∧ s.2.1 = 0
  else if q.1 = 32 ∨ q.1 = 1 then s.2.2 = 1 ∧ s.2.1 = 0
  else if q.1 = 33 then False
  else if q.1 = 19 then True
  else s.2.2 = 1
/-- behind it -/
def postT (q : EV) (s : ST3) : ST3 :=
  if q.1 = 2 ∨ q.1 = 5 ∨ q.1 = 23 ∨ q.1 = 3 ∨ q.1 = 10 then (s.1, s.2.1, 1)
  else if q.1 = 4 then (if q.2.2.1 = 0 then (s.1, s.2.1 + 1, 0) else if q.2.1.toNatClampNeg < s.1 then s else (s.1 + 1, 0, 1))
  else if q.1 = 9 then (s.1, s.2.1 + 1, 2)
  else if q.1 = 11 ∨ q.1 = 20 then (s.1, s.2.1 - 1, 1)
  else if q.1 = 21 then (s.1, s.2.1 - q.2.2.2.1.toNat, 1)
  else if q.1 = 22 ∨ q.1 = 25 ∨ q.1 = 16 ∨ q.1 = 17 ∨ q.1 = 18 then (s.1, s.2.1, 0)
  else s
/-- a leap: nothing falls through 19, 30 .. 33, 1 -/
def endT (q : EV) : Prop := q.1 = 19 ∨ q.1 = 30 ∨ q.1 = 31 ∨ q.1 = 32 ∨ q.1 = 33 ∨ q.1 = 1
def isL (q : EV) : Prop := q.1 = 16 ∨ q.1 = 17 ∨ q.1 = 18 ∨ q.1 = 19
def leapT (q : EV) (s : ST3) : ST3 := if q.1 = 19 then s else (s.1, s.2.1, if q.1 = 18 ∨ (q.1 = 16 ∧ q.2.2.1 = 1) then 1 else 0)
def evOK (L : List EV) (τ : Nat → ST3) (i : Nat) (q : EV) : Prop := preT q (τ i) ∧ (endT q ∨ le3 (postT q (τ i)) (τ (i + 1))) ∧ (isL q → ∃ j, j ≤ L.length ∧ (ldL (L.take j) : Int) = ldL (L.take i) + q.2.2.2.1 ∧ (loL (L.take j) : Int) = loL (L.take i) + q.2.2.2.2.1 ∧ le3 (leapT q (τ i)) (τ j))
def TYe (K : Nat) (L : List EV) (s t : ST3) : Prop := ∃ τ : Nat → ST3, le3 s (τ 0) ∧ le3 (τ L.length) t ∧ (∀ i, i ≤ L.length → K ≤ (τ i).1) ∧ ∀ i q, L[i]? = some q → evOK L τ i q
section XET
variable {K K' : Nat} {a b c : List EV} {q : EV} {s t u s' t' : ST3}
theorem TYe.w (h : TYe K a s t) (h1 : le3 s' s) (h2 : le3 t t') : TYe K a s' t' := by
  obtain ⟨τ, a1, a2, a3, a4⟩ := h
  exact ⟨τ, h1.tr a1, a2.tr h2, a3, a4⟩
theorem TYe.k (h : TYe K a s t) (h1 : K' ≤ K) : TYe K' a s t := by
  obtain ⟨τ, a1, a2, a3, a4⟩ := h
  exact ⟨τ, a1, a2, fun i hi => Nat.le_trans h1 (a3 i hi), a4⟩
theorem TYe.nil (h : K ≤ s.1) : TYe K [] s s := ⟨fun _ => s, le3.rf, le3.rf, fun _ _ => h, fun i q hq => by simp at hq⟩
/-- parts one behind another -/
theorem TYe.app (h : TYe K a s t) (k : TYe K b t u) : TYe K (a ++ b) s u := by
  obtain ⟨τ, a1, a2, a3, a4⟩ := h
  obtain ⟨σ, b1, b2, b3, b4⟩ := k
  have jn := a2.tr b1
  let ρ : Nat → ST3 := fun i => if i < a.length then τ i else σ (i - a.length)
  have r1 : ∀ i, i < a.length → ρ i = τ i := fun i hi => if_pos hi
  have r2 : ∀ j, ρ (a.length + j) = σ j := fun j => by
    show (if a.length + j < a.length then _ else σ (a.length + j - a.length)) = _
    rw [if_neg (by omega), Nat.add_sub_cancel_left]
  have r3 : ∀ i, i ≤ a.length → le3 (τ i) (ρ i) := fun i hi => by
    by_cases g : i < a.length
    · rw [r1 i g]; exact le3.rf
    · have e : i = a.length + 0 := by omega
      have e2 : i = a.length := by omega
      rw [e, r2 0, Nat.add_zero]
      exact jn
  refine ⟨ρ, a1.tr (r3 0 (Nat.zero_le _)), ?_, fun i hi => ?_, fun i q hq => ?_⟩
  · rw [List.length_append, r2]
    exact b2
  · rw [List.length_append] at hi
    by_cases g : i < a.length
    · rw [r1 i g]; exact a3 i (by omega)
    · have e : i = a.length + (i - a.length) := by omega
      rw [e, r2]
      exact b3 _ (by omega)
  · by_cases g : i < a.length
    · rw [List.getElem?_append_left g] at hq
      obtain ⟨c1, c2, c3⟩ := a4 i q hq
      rw [← r1 i g] at c1 c2 c3
      refine ⟨c1, c2.imp id (fun z => z.tr (r3 (i + 1) g)), fun hl => ?_⟩
      obtain ⟨j, j1, j2, j3, j4⟩ := c3 hl
      refine ⟨j, by rw [List.length_append]; omega, ?_, ?_, j4.tr (r3 j j1)⟩
      · rw [List.take_append_of_le_length j1, List.take_append_of_le_length (by omega)]; exact j2
      · rw [List.take_append_of_le_length j1, List.take_append_of_le_length (by omega)]; exact j3
    · have e : i = a.length + (i - a.length) := by omega
      rw [List.getElem?_append_right (by omega)] at hq
      obtain ⟨c1, c2, c3⟩ := b4 (i - a.length) q hq
      have q0 : ρ i = σ (i - a.length) := if_neg g
      have q1 : ρ (i + 1) = σ (i - a.length + 1) := by
        show (if i + 1 < a.length then _ else σ (i + 1 - a.length)) = _
        rw [if_neg (by omega), show i + 1 - a.length = i - a.length + 1 by omega]
      have tk : ∀ j, (a ++ b).take (a.length + j) = a ++ b.take j := fun j => List.take_length_add_append j
      have ti : (a ++ b).take i = a ++ b.take (i - a.length) := by
        have := tk (i - a.length)
        rw [← e] at this
        exact this
      rw [← q0] at c1 c2 c3
      rw [← q1] at c2
      refine ⟨c1, c2, fun hl => ?_⟩
      obtain ⟨j, j1, j2, j3, j4⟩ := c3 hl
      refine ⟨a.length + j, by rw [List.length_append]; omega, ?_, ?_, by rw [r2]; exact j4⟩
      · rw [tk, ti, ldL_app, ldL_app]; omega
      · rw [tk, ti, loL_app, loL_app]; omega
def twoT (s t : ST3) : Nat → ST3
  | 0 => s
  | _ + 1 => t
theorem TYe.sg (h : preT q s) (hp : endT q ∨ le3 (postT q s) t) (hn : ¬ isL q) (k1 : K ≤ s.1) (k2 : K ≤ t.1) : TYe K [q] s t := by
  refine ⟨twoT s t, le3.rf, le3.rf, fun i _ => ?_, fun i p hi => ?_⟩
  · cases i with
    | zero => exact k1
    | succ i => exact k2
  · cases i with
    | zero =>
      have e : q = p := Option.some.inj hi
      rw [← e]
      exact ⟨h, hp, fun z => absurd z hn⟩
    | succ i => cases hi
/-- one event that does not leap -/
theorem TYe.one (h : preT q s) (hp : le3 (postT q s) t) (hn : ¬ isL q) (k1 : K ≤ s.1) (k2 : K ≤ t.1) : TYe K [q] s t := TYe.sg h (Or.inr hp) hn k1 k2
/-- an event behind which nothing falls -/
theorem TYe.fin (h : preT q s) (hn : endT q) (hl : ¬ isL q) (k1 : K ≤ s.1) (k2 : K ≤ t.1) : TYe K [q] s t := TYe.sg h (Or.inl hn) hl k1 k2
/-- the end's type as told -/
theorem TYe.ex (h : TYe K a s t) (k : K ≤ t.1) : ∃ τ : Nat → ST3, le3 s (τ 0) ∧ τ a.length = t ∧ (∀ i, i ≤ a.length → K ≤ (τ i).1) ∧ ∀ i q, a[i]? = some q → evOK a τ i q := by
  obtain ⟨τ, a1, a2, a3, a4⟩ := h
  let ρ : Nat → ST3 := fun i => if i = a.length then t else τ i
  have re : ρ a.length = t := if_pos rfl
  have rn : ∀ i, i ≠ a.length → ρ i = τ i := fun i hi => if_neg hi
  have rl : ∀ i, le3 (τ i) (ρ i) := fun i => by
    by_cases g : i = a.length
    · rw [g, re]; exact a2
    · rw [rn i g]; exact le3.rf
  refine ⟨ρ, a1.tr (rl 0), re, fun i hi => ?_, fun i q hq => ?_⟩
  · by_cases g : i = a.length
    · rw [g, re]; exact k
    · rw [rn i g]; exact a3 i hi
  · have li : i < a.length := (List.getElem?_eq_some_iff.mp hq).1
    obtain ⟨c1, c2, c3⟩ := a4 i q hq
    rw [← rn i (by omega)] at c1 c2 c3
    refine ⟨c1, c2.imp id (fun z => z.tr (rl _)), fun hl => ?_⟩
    obtain ⟨j, j1, j2, j3, j4⟩ := c3 hl
    exact ⟨j, j1, j2, j3, j4.tr (rl j)⟩
def consT (s : ST3) (τ : Nat → ST3) : Nat → ST3
  | 0 => s
  | i + 1 => τ i
/-- a leap over b, forwards -/
theorem TYe.fw (hb : TYe K b (s.1, s.2.1, 0) u) (hq : q.1 = 16 ∨ q.1 = 18) (hs : s.2.2 = 1) (d1 : q.2.2.2.1 = 1 + ldL b) (d2 : q.2.2.2.2.1 = 1 + loL b) (hl : le3 (leapT q s) u) (k1 : K ≤ s.1) (k2 : K ≤ u.1) : TYe K ([q] ++ b) s u := by
  obtain ⟨τ, a1, a2, a3, a4⟩ := hb.ex k2
  have le : ldE q = 1 := by unfold ldE; rw [if_neg (by rcases hq with h | h <;> (rw [h]; decide))]
  have lo : loE q = 1 := by
    obtain ⟨t9, r9⟩ := q
    rcases hq with h | h <;> (have h : t9 = _ := h; subst h; exact loE1)
  have pq : preT q s := by
    unfold preT
    rcases hq with h | h <;> (rw [h]; exact hs)
  have po : postT q s = (s.1, s.2.1, 0) := by
    unfold postT
    rcases hq with h | h <;> (rw [h]; rfl)
  refine ⟨consT s τ, le3.rf, ?_, fun i hi => ?_, fun i p hi => ?_⟩
  · show le3 (consT s τ ([q] ++ b).length) u
    rw [List.length_append, show [q].length + b.length = b.length + 1 from Nat.add_comm 1 _]
    show le3 (τ b.length) u
    rw [a2]
    exact le3.rf
  · cases i with
    | zero => exact k1
    | succ i =>
      rw [List.length_append] at hi
      have hi : i + 1 ≤ 1 + b.length := hi
      exact a3 i (by omega)
  · cases i with
    | zero =>
      have e : q = p := Option.some.inj hi
      rw [← e]
      refine ⟨pq, Or.inr (by show le3 (postT q s) (τ 0); rw [po]; exact a1), fun _ => ⟨b.length + 1, by rw [List.length_append]; show b.length + 1 ≤ 1 + b.length; omega, ?_, ?_, ?_⟩⟩
      · show ((ldL ((q :: b).take (b.length + 1)) : Nat) : Int) = ((ldL [] : Nat) : Int) + _
        rw [List.take_succ_cons, List.take_length, ldL_cons, le, ldL_nil, d1]
        omega
      · show ((loL ((q :: b).take (b.length + 1)) : Nat) : Int) = ((loL [] : Nat) : Int) + _
        rw [List.take_succ_cons, List.take_length, loL_cons, lo, loL_nil, d2]
        omega
      · show le3 (leapT q s) (τ b.length)
        rw [a2]
        exact hl
    | succ i =>
      have hi : b[i]? = some p := hi
      obtain ⟨c1, c2, c3⟩ := a4 i p hi
      refine ⟨c1, c2, fun z => ?_⟩
      obtain ⟨j, j1, j2, j3, j4⟩ := c3 z
      refine ⟨j + 1, by rw [List.length_append]; show j + 1 ≤ 1 + b.length; omega, ?_, ?_, j4⟩
      · show ((ldL ((q :: b).take (j + 1)) : Nat) : Int) = ((ldL ((q :: b).take (i + 1)) : Nat) : Int) + _
        rw [List.take_succ_cons, List.take_succ_cons, ldL_cons, ldL_cons]
        omega
      · show ((loL ((q :: b).take (j + 1)) : Nat) : Int) = ((loL ((q :: b).take (i + 1)) : Nat) : Int) + _
        rw [List.take_succ_cons, List.take_succ_cons, loL_cons, loL_cons]
        omega
end XET
