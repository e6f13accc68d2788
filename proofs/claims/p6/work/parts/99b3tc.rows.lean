/-! rows are apart, by the world -/
theorem plAt {P Q : va_W} {L : List Nat} {f : Nat → va_E} {i : Nat} (h : i < L.length) : (P ++ (va_pl L f ++ Q))[P.length + i]? = some (rowA L i, f (rowA L i)) := by
  have e : rowA L i = L[i] := by
    show L.getD i 0 = _
    rw [List.getD_eq_getElem?_getD, List.getElem?_eq_getElem h, Option.getD_some]
  rw [List.getElem?_append_right (by omega), show P.length + i - P.length = i by omega, List.getElem?_append_left (by unfold va_pl; rw [List.length_map]; exact h)]
  unfold va_pl
  rw [List.getElem?_map, List.getElem?_eq_getElem h, e]
  rfl
theorem RD.of {A : Nat → Prop} {W P Q : va_W} {L1 L2 : List Nat} {f g : Nat → va_E} (hD : va_D A W) (e : W = P ++ (va_pl L1 f ++ (va_pl L2 g ++ Q))) (h1 : L1.length = 40) (h2 : L2.length = 60) : RD L1 L2 := by
  have a1 : ∀ i, i < 40 → W[P.length + i]? = some (rowA L1 i, f (rowA L1 i)) := fun i hi => by rw [e]; exact plAt (by omega)
  have l1 : (va_pl L1 f).length = 40 := by unfold va_pl; rw [List.length_map]; exact h1
  have a2 : ∀ i, i < 60 → W[P.length + 40 + i]? = some (rowA L2 i, g (rowA L2 i)) := fun i hi => by
    rw [e, ← List.append_assoc]
    have := plAt (P := P ++ va_pl L1 f) (Q := Q) (L := L2) (f := g) (i := i) (by omega)
    rw [List.length_append, l1] at this
    exact this
  refine ⟨fun i j hi hj q => ?_, fun i j hi hj n q => ?_, fun i j hi hj n q => ?_⟩
  · have := hD.1 _ _ _ _ (a1 i hi) (a2 j hj) q
    omega
  · have := hD.1 _ _ _ _ (a1 i hi) (a1 j hj) q
    omega
  · have := hD.1 _ _ _ _ (a2 i hi) (a2 j hj) q
    omega
theorem fd5_nn {tb : Nat → Int32} {L : Nat} {a b c d e : Int32} (h : ∀ p, 0 ≤ (tb p).toInt) (p : Nat) : 0 ≤ (fd5 tb L a b c d e p).toInt := wrj_nn (wrj_nn (wrj_nn (wrj_nn (wrj_nn (h p)))))
theorem wrj_ag {f g : Nat → Int32} {L : Nat} {x : Int32} (h : ∀ p, p < L → f p = g p) (p : Nat) (hp : p < L + 4) : wrj f L x 4 p = wrj g L x 4 p := by
  show (if L ≤ p ∧ p < L + 4 then _ else f p) = (if L ≤ p ∧ p < L + 4 then _ else g p)
  by_cases q : L ≤ p
  · rw [if_pos ⟨q, hp⟩, if_pos ⟨q, hp⟩]
  · rw [if_neg (by omega), if_neg (by omega), h p (by omega)]
