/-! events' types: choices -/
section XFT
variable {K : Nat} {a b c x y : List EV} {q : EV} {s t u : ST3} {τ ρ : Nat → ST3} {i : Nat}
/-- an event of a part, in the whole -/
theorem evOK.rl (h : evOK b τ i q) (hi : i < b.length) (r1 : ρ (x.length + i) = τ i) (r2 : ∀ j, j ≤ b.length → le3 (τ j) (ρ (x.length + j))) : evOK (x ++ b ++ y) ρ (x.length + i) q := by
  obtain ⟨c1, c2, c3⟩ := h
  have tk : ∀ j, j ≤ b.length → (x ++ b ++ y).take (x.length + j) = x ++ b.take j := fun j hj => by
    rw [List.append_assoc, List.take_length_add_append, List.take_append_of_le_length hj]
  rw [← r1] at c1 c2 c3
  refine ⟨c1, c2.imp id (fun z => z.tr (r2 (i + 1) hi)), fun hl => ?_⟩
  obtain ⟨j, j1, j2, j3, j4⟩ := c3 hl
  refine ⟨x.length + j, by rw [List.length_append, List.length_append]; omega, ?_, ?_, j4.tr (r2 j j1)⟩
  · rw [tk j j1, tk i (by omega), ldL_app, ldL_app]; omega
  · rw [tk j j1, tk i (by omega), loL_app, loL_app]; omega
theorem ld_fw {t9 y9 : Int32} (h : t9 ≠ 25 := by decide) : ldE (fwE t9 y9 b) = 1 := if_neg h
theorem lo_fw {t9 y9 : Int32} (h0 : t9 ≠ 0 := by decide) (h4 : t9 ≠ 4 := by decide) (h9 : t9 ≠ 9 := by decide) : loE (fwE t9 y9 b) = 1 := loE1 h0 h4 h9
/-- one way or the other -/
theorem TYe.qu {k p : Nat} (ha : TYe K a (k, p, 0) u) (hb : TYe K b (k, p, 0) u) (k1 : K ≤ k) (k2 : K ≤ u.1) : TYe K ([fwE 16 0 (a ++ [fwE 19 0 b])] ++ a ++ [fwE 19 0 b] ++ b) (k, p, 1) u := by
  obtain ⟨τ, a1, a2, a3, a4⟩ := ha.ex k2
  obtain ⟨σ, b1, b2, b3, b4⟩ := hb.ex k2
  let U := fwE 16 0 (a ++ [fwE 19 0 b])
  let J := fwE 19 0 b
  let ρ : Nat → ST3 := fun i => if i = 0 then (k, p, 1) else if i < a.length + 2 then τ (i - 1) else σ (i - (a.length + 2))
  have r0 : ρ 0 = (k, p, 1) := if_pos rfl
  have r1 : ∀ i, i ≤ a.length → ρ (1 + i) = τ i := fun i hi => by
    show (if 1 + i = 0 then _ else if 1 + i < a.length + 2 then τ (1 + i - 1) else _) = _
    rw [if_neg (by omega), if_pos (by omega), Nat.add_sub_cancel_left]
  have r2 : ∀ i, ρ (a.length + 2 + i) = σ i := fun i => by
    show (if a.length + 2 + i = 0 then _ else if a.length + 2 + i < a.length + 2 then _ else σ (a.length + 2 + i - (a.length + 2))) = _
    rw [if_neg (by omega), if_neg (by omega), Nat.add_sub_cancel_left]
  have len : ([U] ++ a ++ [J] ++ b).length = a.length + 2 + b.length := by
    simp only [List.length_append, List.length_cons, List.length_nil]
    omega
  show TYe K ([U] ++ a ++ [J] ++ b) (k, p, 1) u
  refine ⟨ρ, by rw [r0]; exact le3.rf, by rw [len, r2, b2]; exact le3.rf, fun i hi => ?_, fun i q hq => ?_⟩
  · rw [len] at hi
    by_cases g0 : i = 0
    · rw [g0, r0]; exact k1
    by_cases g1 : i < a.length + 2
    · have e : i = 1 + (i - 1) := by omega
      rw [e, r1 _ (by omega)]
      exact a3 _ (by omega)
    · have e : i = a.length + 2 + (i - (a.length + 2)) := by omega
      rw [e, r2]
      exact b3 _ (by omega)
  · by_cases g0 : i = 0
    · subst g0
      have e : U = q := Option.some.inj (by rw [List.append_assoc, List.append_assoc] at hq; exact hq)
      rw [← e]
      refine ⟨by rw [r0]; exact (show (1 : Nat) = 1 from rfl), Or.inr ?_, fun _ => ⟨a.length + 2, by rw [len]; omega, ?_, ?_, ?_⟩⟩
      · rw [r0, show (0 : Nat) + 1 = 1 + 0 from rfl, r1 0 (Nat.zero_le _)]
        exact a1
      · have tk : ([U] ++ a ++ [J] ++ b).take (a.length + 2) = [U] ++ a ++ [J] := List.take_left' (by simp only [List.length_append, List.length_cons, List.length_nil]; omega)
        rw [tk, List.take_zero, ldL_nil, ldL_app, ldL_app, ldL_cons, ldL_nil, ldL_cons, ldL_nil, ld_fw, ld_fw]
        show _ = _ + ((1 : Int) + (ldL (a ++ [J]) : Int))
        rw [ldL_app, ldL_cons, ldL_nil, ld_fw]
        omega
      · have tk : ([U] ++ a ++ [J] ++ b).take (a.length + 2) = [U] ++ a ++ [J] := List.take_left' (by simp only [List.length_append, List.length_cons, List.length_nil]; omega)
        rw [tk, List.take_zero, loL_nil, loL_app, loL_app, loL_cons, loL_nil, loL_cons, loL_nil, lo_fw, lo_fw]
        show _ = _ + ((1 : Int) + (loL (a ++ [J]) : Int))
        rw [loL_app, loL_cons, loL_nil, lo_fw]
        omega
      · rw [r0, show a.length + 2 = a.length + 2 + 0 from rfl, r2 0]
        exact b1
    by_cases g1 : i < a.length + 1
    · have e : i = 1 + (i - 1) := by omega
      rw [List.append_assoc, List.append_assoc, List.getElem?_append_right (by show 1 ≤ i; omega), List.getElem?_append_left (by show i - 1 < a.length; omega)] at hq
      have hq : a[i - 1]? = some q := hq
      have R := (a4 (i - 1) q hq).rl (x := [U]) (y := [J] ++ b) (ρ := ρ) (by omega) (r1 _ (by omega)) (fun j hj => by
        have := r1 j hj
        show le3 (τ j) (ρ (1 + j))
        rw [this]
        exact le3.rf)
      rw [← List.append_assoc] at R
      have R : evOK ([U] ++ a ++ [J] ++ b) ρ (1 + (i - 1)) q := R
      rw [← e] at R
      exact R
    by_cases g2 : i = a.length + 1
    · subst g2
      have tk : ([U] ++ a ++ [J] ++ b).take (a.length + 1) = [U] ++ a := by
        rw [List.append_assoc]
        exact List.take_left' (by simp only [List.length_append, List.length_cons, List.length_nil]; omega)
      have e : J = q := by
        rw [List.append_assoc, List.getElem?_append_right (by simp only [List.length_append, List.length_cons, List.length_nil]; omega)] at hq
        have z : a.length + 1 - ([U] ++ a).length = 0 := by simp only [List.length_append, List.length_cons, List.length_nil]; omega
        rw [z] at hq
        exact Option.some.inj hq
      have rj : ρ (a.length + 1) = u := by
        rw [Nat.add_comm, r1 _ (Nat.le_refl _), a2]
      rw [← e]
      refine ⟨trivial, Or.inl (Or.inl rfl), fun _ => ⟨a.length + 2 + b.length, by rw [len]; exact Nat.le_refl _, ?_, ?_, ?_⟩⟩
      · rw [← len, List.take_length, tk, ldL_app, ldL_app, ldL_cons (q := J), ldL_nil, ld_fw]
        show _ = _ + ((1 : Int) + (ldL b : Int))
        omega
      · rw [← len, List.take_length, tk, loL_app, loL_app, loL_cons (q := J), loL_nil, lo_fw]
        show _ = _ + ((1 : Int) + (loL b : Int))
        omega
      · rw [rj, r2, b2]
        exact le3.rf
    · have hi : i < a.length + 2 + b.length := by rw [← len]; exact (List.getElem?_eq_some_iff.mp hq).1
      have lx : ([U] ++ a ++ [J]).length = a.length + 2 := by simp only [List.length_append, List.length_cons, List.length_nil]; omega
      rw [List.getElem?_append_right (by rw [lx]; omega), lx] at hq
      have R := (b4 (i - (a.length + 2)) q hq).rl (x := [U] ++ a ++ [J]) (y := []) (ρ := ρ) (by omega) (by rw [lx]; exact r2 _) (fun j hj => by
        rw [lx, r2]
        exact le3.rf)
      rw [List.append_nil, lx, show a.length + 2 + (i - (a.length + 2)) = i by omega] at R
      exact R
end XFT
