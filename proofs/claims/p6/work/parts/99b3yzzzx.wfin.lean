/-! the reference's words: an event's final words -/
def adG (u : MS) (x : Int32) : Int32 := (4 : Int32) * u.1 0 12 + (4 : Int32) * u.1 25 x.toNatClampNeg
def sgF (u : MS) (P : Nat) (s : Int32) : List Int32 := if s = 55 then [jW 28 ((4 : Int32) * (u.1 0 67 - nI (P + 1)))] else if s = 56 then [jW 28 ((4 : Int32) * (u.1 0 68 - nI (P + 1)))] else if s = 57 then [jW 28 ((4 : Int32) * (u.1 0 68 - nI (P + 1))), iW 19 10 6 0] else sgW 0 0 0 s
def finE (u : MS) (q : EV) (P : Nat) : List Int32 := if q.1 = 5 ∨ q.1 = 6 ∨ q.1 = 7 ∨ q.1 = 8 ∨ q.1 = 9 then plW (adG u q.2.1) (u.1 24 q.2.1.toNatClampNeg) q.1 q.2.1 q.2.2.1 else if q.1 = 20 then iW 8195 5 8 (fW q.2.2.1) :: sgF u P q.2.1 else rwE (u.1 24) q
section ZZX
variable {K : TK} {v u w : MS} {q : EV} {a : List EV} {p P : Nat} {f x y n : Int32} {e : Nat × Int32 × Int32}
theorem i32_zsl (k : Int32) : (0 : Int32) <<< k = 0 := by
  apply Int32.toBitVec_inj.mp
  rw [Int32.toBitVec_shiftLeft]
  show (0#32) <<< (_ : BitVec 32) = 0#32
  apply BitVec.eq_of_toNat_eq
  simp
theorem uW_or : uW x 0 ||| (hiW n <<< ((12 : Int32) &&& 31)) = uW x n := by
  unfold uW
  rw [show hiW 0 = 0 from hw00.symm, i32_zsl, Int32.or_zero]
theorem iW_or : iW f x y (loW 0) ||| (n <<< ((20 : Int32) &&& 31)) = iW f x y n := by
  unfold iW
  rw [← lw00, i32_zsl, Int32.or_zero]
theorem fxL_mem : ∀ (a : List EV) (p : Nat) (e : Nat × Int32 × Int32), e ∈ fxL p a → ∃ x q y e0, a = x ++ q :: y ∧ e0 ∈ fxE q ∧ e = (p + lwL x + e0.1, e0.2)
  | [], _, _, h => nomatch h
  | q :: l, p, e, h => by
    rcases List.mem_append.mp h with h | h
    · obtain ⟨e0, h0, rfl⟩ := List.mem_map.mp h
      exact ⟨[], q, l, e0, rfl, h0, by rw [lwL_nil, Nat.add_zero]⟩
    · obtain ⟨x, q', y, e0, h1, h2, h3⟩ := fxL_mem l (p + lwE q) e h
      exact ⟨q :: x, q', y, e0, by rw [h1]; rfl, h2, by rw [h3, lwL_cons, show p + lwE q + lwL x = p + (lwE q + lwL x) by omega]⟩
theorem fxL_in : ∀ (a x : List EV) (q : EV) (y : List EV) (p : Nat) (e0 : Nat × Int32 × Int32), a = x ++ q :: y → e0 ∈ fxE q → (p + lwL x + e0.1, e0.2) ∈ fxL p a := by
  intro a x q y p e0 h h0
  rw [h, fxL_app]
  refine List.mem_append.mpr (Or.inr ?_)
  exact List.mem_append.mpr (Or.inl (List.mem_map.mpr ⟨e0, h0, rfl⟩))
theorem lwE20 {s y : Int32} {d : Int × Int × Int} : lwE (20, s, y, d) = (1 + opz s).toNatClampNeg := rfl
theorem fxE_lt {e0 : Nat × Int32 × Int32} (h : e0 ∈ fxE q) : e0.1 < lwE q := by
  obtain ⟨t, x, y, d⟩ := q
  unfold fxE at h
  split at h
  · rename_i c
    have c : t = 5 := c
    subst c
    rcases List.mem_cons.mp h with h | h
    · rw [h]; show 0 < 2; omega
    · rw [List.mem_singleton.mp h]; show 1 < 2; omega
  split at h
  · rename_i c
    have c : t = 6 := c
    subst c
    rcases List.mem_cons.mp h with h | h
    · rw [h]; show 0 < 2; omega
    · rw [List.mem_singleton.mp h]; show 1 < 2; omega
  split at h
  · rename_i c
    have c : t = 7 := c
    subst c
    rw [List.mem_singleton.mp h]; show 6 < 8; omega
  split at h
  · rename_i c
    have c : t = 8 := c
    subst c
    rw [List.mem_singleton.mp h]; show 0 < 1; omega
  split at h
  · rename_i c
    have c : t = 9 := c
    subst c
    rw [List.mem_singleton.mp h]; show 0 < 2; omega
  split at h
  · rename_i c
    have c : t = 20 := c
    subst c
    rw [lwE20]
    split at h
    · rename_i c2
      have c2 : x = 55 := c2
      subst c2
      rw [List.mem_singleton.mp h]
      show 1 < (1 + opz 55).toNatClampNeg
      decide
    split at h
    · rename_i c2
      rw [List.mem_singleton.mp h]
      have c2 : x = 56 ∨ x = 57 := c2
      rcases c2 with c2 | c2 <;> (rw [c2]; decide)
    · cases h
  · cases h
theorem pos_inj {x x' y y' : List EV} {q q' : EV} {i i' : Nat} (e : x ++ q :: y = x' ++ q' :: y') (h : i < lwE q) (h' : i' < lwE q') (l : lwL x + i = lwL x' + i') : x = x' ∧ q = q' ∧ i = i' := by
  rcases split2 e with g | ⟨z, g⟩ | ⟨z, g⟩
  · exact ⟨g.1, g.2, by rw [g.1] at l; omega⟩
  · rw [g, lwL_app, lwL_cons] at l
    omega
  · rw [g, lwL_app, lwL_cons] at l
    omega
/-- two wanted addresses have two places -/
theorem fxL_inc : ∀ (a : List EV) (p : Nat), (fxL p a).Pairwise (fun e e' => e.1 < e'.1) ∧ ∀ e ∈ fxL p a, p ≤ e.1
  | [], _ => ⟨List.Pairwise.nil, fun _ h => nomatch h⟩
  | q :: l, p => by
    have T := fxL_inc l (p + lwE q)
    have own : (fxE q).Pairwise (fun e e' => e.1 < e'.1) := by
      unfold fxE
      split
      · exact List.Pairwise.cons (fun e h => by rw [List.mem_singleton.mp h]; show 0 < 1; omega) (List.pairwise_singleton _ _)
      split
      · exact List.Pairwise.cons (fun e h => by rw [List.mem_singleton.mp h]; show 0 < 1; omega) (List.pairwise_singleton _ _)
      split
      · exact List.pairwise_singleton _ _
      split
      · exact List.pairwise_singleton _ _
      split
      · exact List.pairwise_singleton _ _
      split
      · split
        · exact List.pairwise_singleton _ _
        split
        · exact List.pairwise_singleton _ _
        · exact List.Pairwise.nil
      · exact List.Pairwise.nil
    refine ⟨List.pairwise_append.mpr ⟨List.pairwise_map.mpr (own.imp (fun h => by show _ + _ < _ + _; omega)), T.1, fun e he e' he' => ?_⟩, fun e he => ?_⟩
    · obtain ⟨e0, h0, rfl⟩ := List.mem_map.mp he
      have := fxE_lt h0
      have := T.2 e' he'
      show p + e0.1 < e'.1
      omega
    · rcases List.mem_append.mp he with he | he
      · obtain ⟨e0, h0, rfl⟩ := List.mem_map.mp he
        show p ≤ p + e0.1
        omega
      · have := T.2 e he
        omega
theorem li8 {a b c d e f x x' h : Int32} {i : Nat} (n : i ≠ 6) : ([a, b, c, d, e, f, x, h] : List Int32)[i]? = [a, b, c, d, e, f, x', h][i]? := by
  match i, n with
  | 0, _ => rfl
  | 1, _ => rfl
  | 2, _ => rfl
  | 3, _ => rfl
  | 4, _ => rfl
  | 5, _ => rfl
  | 6, h => exact absurd rfl h
  | 7, _ => rfl
  | i + 8, _ => rfl
theorem inW_ne {g p p' : Int32} {i : Nat} (h : i ≠ 6) : (inW g p)[i]? = (inW g p')[i]? := li8 h
/-- the final words of an event that is no call and no beginning -/
theorem finS (gm : Nat → Int32) (hS : Seg w P (rwE gm q)) (hl : (rwE gm q).length = lwE q) (hA : ∀ i : Nat, i < lwE q → (∀ e0 ∈ fxE q, e0.1 ≠ i) → u.1 11 (P + i) = w.1 11 (P + i)) (hB : ∀ e0 ∈ fxE q, u.1 11 (P + e0.1) = fixW u e0.2.1 e0.2.2 (nI (P + e0.1)) (w.1 11 (P + e0.1))) (hg : u.1 24 = gm) : Seg u P (finE u q P) := by
  have K0 : fxE q = [] → Seg u P (rwE gm q) := fun e i z hz => by
    have l := getl hz
    rw [hA i (by omega) (by rw [e]; exact fun _ h => nomatch h)]
    exact hS i z hz
  obtain ⟨t, x, y, d⟩ := q
  unfold finE
  by_cases c5 : t = 5
  · subst c5
    rw [if_pos (Or.inl rfl)]
    have B0 := hB (0, x, 0) List.mem_cons_self
    have B1 := hB (1, x, 1) (List.mem_cons_of_mem _ List.mem_cons_self)
    have S0 : w.1 11 (P + 0) = uW 6 0 := hS 0 _ rfl
    have S1 : w.1 11 (P + 1) = iW 8195 10 6 (loW 0) := hS 1 _ rfl
    rw [S0] at B0
    rw [S1] at B1
    have B0 : u.1 11 (P + 0) = uW 6 (adG u x) := B0.trans uW_or
    have B1 : u.1 11 (P + 1) = iW 8195 10 6 (loW (adG u x)) := B1.trans iW_or
    intro i z hz
    have hz : ([uW 6 (adG u x), iW 8195 10 6 (loW (adG u x))] : List Int32)[i]? = some z := hz
    match i, hz with
    | 0, hz => rw [B0]; exact Option.some.inj hz
    | 1, hz => rw [B1]; exact Option.some.inj hz
    | i + 2, hz => exact absurd (show i + 2 < 2 from getl hz) (by omega)
  by_cases c6 : t = 6
  · subst c6
    rw [if_pos (Or.inr (Or.inl rfl))]
    have B0 := hB (0, x, 0) List.mem_cons_self
    have B1 := hB (1, x, 2) (List.mem_cons_of_mem _ List.mem_cons_self)
    have S0 : w.1 11 (P + 0) = uW 6 0 := hS 0 _ rfl
    rw [S0] at B0
    have B0 : u.1 11 (P + 0) = uW 6 (adG u x) := B0.trans uW_or
    have B1 : u.1 11 (P + 1) = sW 10 (loW (adG u x)) 6 := B1
    intro i z hz
    have hz : ([uW 6 (adG u x), sW 10 (loW (adG u x)) 6] : List Int32)[i]? = some z := hz
    match i, hz with
    | 0, hz => rw [B0]; exact Option.some.inj hz
    | 1, hz => rw [B1]; exact Option.some.inj hz
    | i + 2, hz => exact absurd (show i + 2 < 2 from getl hz) (by omega)
  by_cases c7 : t = 7
  · subst c7
    rw [if_pos (Or.inr (Or.inr (Or.inl rfl))), hg]
    have B0 := hB (6, x, 0) List.mem_cons_self
    have S6 : w.1 11 (P + 6) = uW 6 0 := hS 6 _ rfl
    rw [S6] at B0
    have B0 : u.1 11 (P + 6) = uW 6 (adG u x) := B0.trans uW_or
    have O : ∀ i : Nat, i < 8 → i ≠ 6 → u.1 11 (P + i) = w.1 11 (P + i) := fun i hi h6 => hA i hi (fun e0 h0 g => by
      rw [List.mem_singleton.mp h0] at g
      exact h6 g.symm)
    intro i z hz
    have hz : (inW (gm x.toNatClampNeg) (adG u x))[i]? = some z := hz
    have hS : Seg w P (inW (gm x.toNatClampNeg) 0) := hS
    by_cases h6 : i = 6
    · subst h6
      rw [B0]
      exact Option.some.inj hz
    · rw [O i (show i < 8 from getl hz) h6]
      refine hS i z ?_
      rw [← hz]
      exact inW_ne h6
  by_cases c8 : t = 8
  · subst c8
    rw [if_pos (Or.inr (Or.inr (Or.inr (Or.inl rfl))))]
    have B0 := hB (0, x, 1) List.mem_cons_self
    have S0 : w.1 11 (P + 0) = iW 8195 10 10 (loW 0) := hS 0 _ rfl
    rw [S0] at B0
    have B0 : u.1 11 (P + 0) = iW 8195 10 10 (loW (adG u x)) := B0.trans iW_or
    intro i z hz
    have hz : ([iW 8195 10 10 (loW (adG u x))] : List Int32)[i]? = some z := hz
    match i, hz with
    | 0, hz => rw [B0]; exact Option.some.inj hz
    | i + 1, hz => exact absurd (show i + 1 < 1 from getl hz) (by omega)
  by_cases c9 : t = 9
  · subst c9
    rw [if_pos (Or.inr (Or.inr (Or.inr (Or.inr rfl))))]
    have B0 := hB (0, x, 3) List.mem_cons_self
    have S0 : w.1 11 (P + 0) = iW 19 10 10 (loW 0) := hS 0 _ rfl
    have S1 : w.1 11 (P + 1) = sW 10 (fW y) 8 := hS 1 _ rfl
    rw [S0] at B0
    have B0 : u.1 11 (P + 0) = iW 19 10 10 (loW (adG u x)) := B0.trans iW_or
    intro i z hz
    have hz : ([iW 19 10 10 (loW (adG u x)), sW 10 (fW y) 8] : List Int32)[i]? = some z := hz
    match i, hz with
    | 0, hz => rw [B0]; exact Option.some.inj hz
    | 1, hz =>
      rw [hA 1 (show 1 < 2 by omega) (fun e0 h0 g => by
        rw [List.mem_singleton.mp h0] at g
        have g : (0 : Nat) = 1 := g
        omega), S1]
      exact Option.some.inj hz
    | i + 2, hz => exact absurd (show i + 2 < 2 from getl hz) (by omega)
  rw [if_neg (show ¬ (t = 5 ∨ t = 6 ∨ t = 7 ∨ t = 8 ∨ t = 9) from fun c => c.elim c5 (fun c => c.elim c6 (fun c => c.elim c7 (fun c => c.elim c8 c9))))]
  by_cases c20 : t = 20
  · subst c20
    rw [if_pos rfl]
    have hl : (iW 8195 5 8 (fW y) :: sgR x).length = lwE (20, x, y, d) := hl
    have hS : Seg w P (iW 8195 5 8 (fW y) :: sgR x) := hS
    have fx : fxE (20, x, y, d) = if x = 55 then [(1, -1, 5)] else if x = 56 ∨ x = 57 then [(1, -2, 5)] else [] := rfl
    show Seg u P (iW 8195 5 8 (fW y) :: sgF u P x)
    by_cases d5 : x = 55
    · subst d5
      rw [if_pos rfl] at fx
      have B0 := hB (1, -1, 5) (by rw [fx]; exact List.mem_cons_self)
      have B0 : u.1 11 (P + 1) = jW 28 ((4 : Int32) * (u.1 0 67 - nI (P + 1))) := B0
      intro i z hz
      have hz : ([iW 8195 5 8 (fW y), jW 28 ((4 : Int32) * (u.1 0 67 - nI (P + 1)))] : List Int32)[i]? = some z := hz
      match i, hz with
      | 0, hz =>
        rw [hA 0 (by rw [← hl]; exact Nat.succ_pos _) (fun e0 h0 g => by
          rw [fx] at h0
          rw [List.mem_singleton.mp h0] at g
          exact absurd g (by decide))]
        exact hS 0 z hz
      | 1, hz => rw [B0]; exact Option.some.inj hz
      | i + 2, hz => exact absurd (show i + 2 < 2 from getl hz) (by omega)
    rw [if_neg d5] at fx
    by_cases d6 : x = 56 ∨ x = 57
    · rw [if_pos d6] at fx
      have B0 := hB (1, -2, 5) (by rw [fx]; exact List.mem_cons_self)
      have B0 : u.1 11 (P + 1) = jW 28 ((4 : Int32) * (u.1 0 68 - nI (P + 1))) := B0
      have z0 : ∀ z, (iW 8195 5 8 (fW y)) = z → u.1 11 (P + 0) = z := fun z hz => by
        rw [hA 0 (by rw [← hl]; exact Nat.succ_pos _) (fun e0 h0 g => by
          rw [fx] at h0
          rw [List.mem_singleton.mp h0] at g
          exact absurd g (by decide))]
        exact hS 0 z (by rw [← hz]; rfl)
      rcases d6 with d6 | d6
      · subst d6
        intro i z hz
        have hz : ([iW 8195 5 8 (fW y), jW 28 ((4 : Int32) * (u.1 0 68 - nI (P + 1)))] : List Int32)[i]? = some z := hz
        match i, hz with
        | 0, hz => exact z0 z (Option.some.inj hz)
        | 1, hz => rw [B0]; exact Option.some.inj hz
        | i + 2, hz => exact absurd (show i + 2 < 2 from getl hz) (by omega)
      · subst d6
        intro i z hz
        have hz : ([iW 8195 5 8 (fW y), jW 28 ((4 : Int32) * (u.1 0 68 - nI (P + 1))), iW 19 10 6 0] : List Int32)[i]? = some z := hz
        match i, hz with
        | 0, hz => exact z0 z (Option.some.inj hz)
        | 1, hz => rw [B0]; exact Option.some.inj hz
        | 2, hz =>
          rw [hA 2 (by rw [← hl]; show 2 < 3; omega) (fun e0 h0 g => by
            rw [fx] at h0
            rw [List.mem_singleton.mp h0] at g
            exact absurd g (by decide))]
          exact hS 2 z hz
        | i + 3, hz => exact absurd (show i + 3 < 3 from getl hz) (by omega)
    · rw [if_neg d6] at fx
      have T := K0 fx
      have e : sgF u P x = sgR x := by
        unfold sgF sgR
        rw [if_neg d5, if_neg (fun c => d6 (Or.inl c)), if_neg (fun c => d6 (Or.inr c)), if_neg (fun c => c.elim d5 (fun c => d6 (Or.inl c))), if_neg (fun c => d6 (Or.inr c))]
      rw [e]
      exact T
  · rw [if_neg c20]
    have fx : fxE (t, x, y, d) = [] := by
      unfold fxE
      rw [if_neg c5, if_neg c6, if_neg c7, if_neg c8, if_neg c9, if_neg c20]
    rw [hg]
    exact K0 fx
end ZZX
