/-! events' types: places told by name -/
/-- a place: deeds, orders from the list's beginning, its type -/
abbrev PL3 : Type := Int × Int × ST3
def shP (a : List EV) (D : PL3) : PL3 := (D.1 - ldL a, D.2.1 - loL a, D.2.2)
def unP (a : List EV) (D : PL3) : PL3 := (D.1 + ldL a, D.2.1 + loL a, D.2.2)
def evY (G : List PL3) (L : List EV) (τ : Nat → ST3) (i : Nat) (q : EV) : Prop := preT q (τ i) ∧ (endT q ∨ le3 (postT q (τ i)) (τ (i + 1))) ∧ (isL q → (∃ j, j ≤ L.length ∧ (ldL (L.take j) : Int) = ldL (L.take i) + q.2.2.2.1 ∧ (loL (L.take j) : Int) = loL (L.take i) + q.2.2.2.2.1 ∧ le3 (leapT q (τ i)) (τ j)) ∨ ∃ D ∈ G, D.1 = ldL (L.take i) + q.2.2.2.1 ∧ D.2.1 = loL (L.take i) + q.2.2.2.2.1 ∧ le3 (leapT q (τ i)) D.2.2)
def inP (L : List EV) (τ : Nat → ST3) (D : PL3) : Prop := ∃ j, j ≤ L.length ∧ (ldL (L.take j) : Int) = D.1 ∧ (loL (L.take j) : Int) = D.2.1 ∧ le3 D.2.2 (τ j)
def TYy (G Dl : List PL3) (K : Nat) (L : List EV) (s t : ST3) : Prop := ∃ τ : Nat → ST3, le3 s (τ 0) ∧ le3 (τ L.length) t ∧ (∀ i, i ≤ L.length → K ≤ (τ i).1) ∧ (∀ i q, L[i]? = some q → evY G L τ i q) ∧ ∀ D ∈ Dl, inP L τ D
section XKT
variable {G G' Dl Da Db : List PL3} {K : Nat} {a b : List EV} {q : EV} {s t u : ST3} {D : PL3}
/-- all that leaps leads within: a type without places -/
theorem TYy.cl (h : TYy G Dl K a s t) (k : ∀ D ∈ G, D ∈ Dl) : TYe K a s t := by
  obtain ⟨τ, a1, a2, a3, a4, a5⟩ := h
  refine ⟨τ, a1, a2, a3, fun i q hq => ?_⟩
  obtain ⟨c1, c2, c3⟩ := a4 i q hq
  refine ⟨c1, c2, fun hl => ?_⟩
  rcases c3 hl with c3 | ⟨D, d1, d2, d3, d4⟩
  · exact c3
  · obtain ⟨j, j1, j2, j3, j4⟩ := a5 D (k D d1)
    exact ⟨j, j1, by omega, by omega, d4.tr j4⟩
theorem TYy.of (h : TYe K a s t) (k : K ≤ t.1) (k0 : K ≤ s.1) : TYy G [(0, 0, s), ((ldL a : Int), (loL a : Int), t)] K a s t := by
  obtain ⟨τ, a1, a2, a3, a4⟩ := h.ex k
  refine ⟨τ, a1, by rw [a2]; exact le3.rf, a3, fun i q hq => ?_, fun D hD => ?_⟩
  · obtain ⟨c1, c2, c3⟩ := a4 i q hq
    exact ⟨c1, c2, fun hl => Or.inl (c3 hl)⟩
  · simp only [List.mem_cons, List.not_mem_nil, or_false] at hD
    rcases hD with rfl | rfl
    · exact ⟨0, Nat.zero_le _, by rw [List.take_zero]; rfl, by rw [List.take_zero]; rfl, a1⟩
    · exact ⟨a.length, Nat.le_refl _, by rw [List.take_length], by rw [List.take_length], by rw [a2]; exact le3.rf⟩
theorem TYy.app (h : TYy G Da K a s t) (k : TYy (G.map (shP a)) Db K b t u) : TYy G (Da ++ Db.map (unP a)) K (a ++ b) s u := by
  obtain ⟨τ, a1, a2, a3, a4, a5⟩ := h
  obtain ⟨σ, b1, b2, b3, b4, b5⟩ := k
  have jn := a2.tr b1
  let ρ : Nat → ST3 := fun i => if i < a.length then τ i else σ (i - a.length)
  have r1 : ∀ i, i < a.length → ρ i = τ i := fun i hi => if_pos hi
  have r2 : ∀ j, ρ (a.length + j) = σ j := fun j => by
    show (if a.length + j < a.length then _ else σ (a.length + j - a.length)) = _
    rw [if_neg (by omega), Nat.add_sub_cancel_left]
  have r3 : ∀ i, i ≤ a.length → le3 (τ i) (ρ i) := fun i hi => by
    by_cases g : i < a.length
    · rw [r1 i g]; exact le3.rf
    · have e : i = a.length + 0 := by omega
      have e2 : i = a.length := by omega
      rw [e, r2 0, Nat.add_zero]
      exact jn
  have tka : ∀ j, j ≤ a.length → (a ++ b).take j = a.take j := fun j hj => List.take_append_of_le_length hj
  have tk : ∀ j, (a ++ b).take (a.length + j) = a ++ b.take j := fun j => List.take_length_add_append j
  refine ⟨ρ, a1.tr (r3 0 (Nat.zero_le _)), by rw [List.length_append, r2]; exact b2, fun i hi => ?_, fun i q hq => ?_, fun D hD => ?_⟩
  · rw [List.length_append] at hi
    by_cases g : i < a.length
    · rw [r1 i g]; exact a3 i (by omega)
    · have e : i = a.length + (i - a.length) := by omega
      rw [e, r2]
      exact b3 _ (by omega)
  · by_cases g : i < a.length
    · rw [List.getElem?_append_left g] at hq
      obtain ⟨c1, c2, c3⟩ := a4 i q hq
      rw [← r1 i g] at c1 c2 c3
      refine ⟨c1, c2.imp id (fun z => z.tr (r3 (i + 1) g)), fun hl => ?_⟩
      rcases c3 hl with ⟨j, j1, j2, j3, j4⟩ | ⟨D, d1, d2, d3, d4⟩
      · exact Or.inl ⟨j, by rw [List.length_append]; omega, by rw [tka j j1, tka i (by omega)]; exact j2, by rw [tka j j1, tka i (by omega)]; exact j3, j4.tr (r3 j j1)⟩
      · exact Or.inr ⟨D, d1, by rw [tka i (by omega)]; exact d2, by rw [tka i (by omega)]; exact d3, d4⟩
    · have e : i = a.length + (i - a.length) := by omega
      rw [List.getElem?_append_right (by omega)] at hq
      obtain ⟨c1, c2, c3⟩ := b4 (i - a.length) q hq
      have q0 : ρ i = σ (i - a.length) := if_neg g
      have q1 : ρ (i + 1) = σ (i - a.length + 1) := by
        show (if i + 1 < a.length then _ else σ (i + 1 - a.length)) = _
        rw [if_neg (by omega), show i + 1 - a.length = i - a.length + 1 by omega]
      have ti : (a ++ b).take i = a ++ b.take (i - a.length) := by
        have := tk (i - a.length)
        rw [← e] at this
        exact this
      rw [← q0] at c1 c2 c3
      rw [← q1] at c2
      refine ⟨c1, c2, fun hl => ?_⟩
      rcases c3 hl with ⟨j, j1, j2, j3, j4⟩ | ⟨D, d1, d2, d3, d4⟩
      · exact Or.inl ⟨a.length + j, by rw [List.length_append]; omega, by rw [tk, ti, ldL_app, ldL_app]; omega, by rw [tk, ti, loL_app, loL_app]; omega, by rw [r2]; exact j4⟩
      · obtain ⟨D', d5, rfl⟩ := List.mem_map.mp d1
        have d2 : D'.1 - ldL a = _ := d2
        have d3 : D'.2.1 - loL a = _ := d3
        exact Or.inr ⟨D', d5, by rw [ti, ldL_app]; omega, by rw [ti, loL_app]; omega, d4⟩
  · rcases List.mem_append.mp hD with hD | hD
    · obtain ⟨j, j1, j2, j3, j4⟩ := a5 D hD
      exact ⟨j, by rw [List.length_append]; omega, by rw [tka j j1]; exact j2, by rw [tka j j1]; exact j3, j4.tr (r3 j j1)⟩
    · obtain ⟨D', d5, rfl⟩ := List.mem_map.mp hD
      obtain ⟨j, j1, j2, j3, j4⟩ := b5 D' d5
      refine ⟨a.length + j, by rw [List.length_append]; omega, ?_, ?_, by rw [r2]; exact j4⟩
      · rw [tk, ldL_app]
        show _ = D'.1 + ldL a
        omega
      · rw [tk, loL_app]
        show _ = D'.2.1 + loL a
        omega
/-- one leap to a place told -/
theorem TYy.lp (h : preT q s) (hp : endT q ∨ le3 (postT q s) t) (hD : D ∈ G) (d1 : D.1 = q.2.2.2.1) (d2 : D.2.1 = q.2.2.2.2.1) (d3 : le3 (leapT q s) D.2.2) (k1 : K ≤ s.1) (k2 : K ≤ t.1) : TYy G [(0, 0, s), ((ldE q : Int), (loE q : Int), t)] K [q] s t := by
  refine ⟨twoT s t, le3.rf, le3.rf, fun i _ => ?_, fun i p hi => ?_, fun D hD => ?_⟩
  · cases i with
    | zero => exact k1
    | succ i => exact k2
  · cases i with
    | zero =>
      have e : q = p := Option.some.inj hi
      rw [← e]
      refine ⟨h, hp, fun _ => Or.inr ⟨D, hD, ?_, ?_, d3⟩⟩
      · rw [List.take_zero, ldL_nil, d1]; omega
      · rw [List.take_zero, loL_nil, d2]; omega
    | succ i => cases hi
  · simp only [List.mem_cons, List.not_mem_nil, or_false] at hD
    rcases hD with rfl | rfl
    · exact ⟨0, Nat.zero_le _, by rw [List.take_zero]; rfl, by rw [List.take_zero]; rfl, le3.rf⟩
    · exact ⟨1, Nat.le_refl _, by show ((ldL [q] : Nat) : Int) = _; rw [ldL_cons, ldL_nil]; rfl, by show ((loL [q] : Nat) : Int) = _; rw [loL_cons, loL_nil]; rfl, le3.rf⟩
end XKT
