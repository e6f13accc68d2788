/-! the reference's words: calls are the calls' events, one each -/
theorem noinj : ∀ (m : Nat) (h : Nat → Nat), (∀ c, c ≤ m → h c < m) → (∀ c d, c ≤ m → d ≤ m → h c = h d → c = d) → False
  | 0, h, h1, _ => absurd (h1 0 (Nat.le_refl _)) (by omega)
  | m + 1, h, h1, h2 => by
    refine noinj m (fun c => if h c = m then h (m + 1) else h c) (fun c hc => ?_) (fun c d hc hd e => ?_)
    · have e1 := h1 c (by omega)
      have e2 := h1 (m + 1) (Nat.le_refl _)
      have e3 : h c = m → h (m + 1) ≠ m := fun a b => by
        have := h2 c (m + 1) (by omega) (Nat.le_refl _) (a.trans b.symm)
        omega
      show (if h c = m then h (m + 1) else h c) < m
      split
      · rename_i a
        have := e3 a
        omega
      · omega
    · have e : (if h c = m then h (m + 1) else h c) = (if h d = m then h (m + 1) else h d) := e
      by_cases a : h c = m
      · by_cases b : h d = m
        · exact h2 c d (by omega) (by omega) (a.trans b.symm)
        · rw [if_pos a, if_neg b] at e
          have := h2 (m + 1) d (Nat.le_refl _) (by omega) e
          omega
      · by_cases b : h d = m
        · rw [if_neg a, if_pos b] at e
          have := h2 c (m + 1) (by omega) (Nat.le_refl _) e
          omega
        · rw [if_neg a, if_neg b] at e
          exact h2 c d (by omega) (by omega) e
theorem inj_on {m : Nat} {h : Nat → Nat} (h1 : ∀ c, c < m → h c < m) (h2 : ∀ c d, c < m → d < m → h c = h d → c = d) (c : Nat) (hc : c < m) : ∃ c0, c0 < m ∧ h c0 = c := by
  apply Classical.byContradiction
  intro no
  refine noinj m (fun i => if i < m then h i else c) (fun i hi => ?_) (fun i j hi hj e => ?_)
  · show (if i < m then h i else c) < m
    split
    · rename_i a; exact h1 i a
    · exact hc
  · have e : (if i < m then h i else c) = (if j < m then h j else c) := e
    by_cases a : i < m
    · by_cases b : j < m
      · rw [if_pos a, if_pos b] at e
        exact h2 i j a b e
      · rw [if_pos a, if_neg b] at e
        exact absurd ⟨i, a, e⟩ no
    · by_cases b : j < m
      · rw [if_neg a, if_pos b] at e
        exact absurd ⟨j, b, e.symm⟩ no
      · omega
def z0E (q : EV) : EV := if q.1 = 0 then (0, q.2.1, 0, 0, 0, 0) else q
section ZZU
variable {K : TK} {w : MS} {cl : Int} {p : Nat} {a b : List EV} {q : EV} {d : List (List Int32 × List EV)}
theorem z0_map : ∀ (l : List EV), (∀ q ∈ l, q.1 ≠ 0) → l.map z0E = l
  | [], _ => rfl
  | q :: l, h => by
    rw [List.map_cons, z0_map l (fun p hp => h p (List.mem_cons_of_mem _ hp))]
    unfold z0E
    rw [if_neg (h q List.mem_cons_self)]
theorem TPw.fn0 (h : TPw K w cl p a) : True := trivial
theorem txE_map : ∀ (d : List (List Int32 × List EV)) (k : Nat), (∀ q ∈ d, ∀ e ∈ fnT q.2, e.1 ≠ 0) → txE k d = (txW k d).map z0E
  | [], _, _ => rfl
  | q :: l, k, h => by
    show fnE (nI k) q.2 ++ txE (k + 1) l = (fnW (nI k) q ++ txW (k + 1) l).map z0E
    rw [List.map_append, ← txE_map l (k + 1) (fun p hp => h p (List.mem_cons_of_mem _ hp))]
    congr 1
    show [evx 0 (nI k) 0] ++ fnT q.2 = ([evx 0 (nI k) (nI q.1.length)] ++ fnT q.2).map z0E
    rw [List.map_append, z0_map _ (h q List.mem_cons_self)]
    rfl
theorem loE_z0 : loE (z0E q) = loE q := by
  unfold z0E
  split
  · rename_i c
    have : loE q = 0 := if_pos (Or.inl c)
    rw [this]
    rfl
  · rfl
theorem loL_z0 : ∀ (l : List EV), loL (l.map z0E) = loL l
  | [] => rfl
  | q :: l => by rw [List.map_cons, loL_cons, loL_cons, loE_z0, loL_z0 l]
theorem loE_le : loE q ≤ 1 := by
  unfold loE
  split <;> omega
theorem loE21 (h : q.1 = 21) : loE q = 1 := by
  obtain ⟨t, r⟩ := q
  have h : t = 21 := h
  subst h
  exact loE1
theorem lwE21 (h : q.1 = 21) : 1 ≤ lwE q := by
  obtain ⟨t, r⟩ := q
  have h : t = 21 := h
  subst h
  show 1 ≤ (if r.2.2.1 = 0 then 1 else 2)
  split <;> omega
/-- which event an order belongs to -/
theorem at_lo : ∀ (l : List EV) (j : Nat), j < loL l → ∃ x q y, l = x ++ q :: y ∧ loL x = j ∧ loE q = 1
  | [], j, h => absurd h (by rw [loL_nil]; omega)
  | q :: l, j, h => by
    rw [loL_cons] at h
    have le := loE_le (q := q)
    by_cases c : j < loE q
    · exact ⟨[], q, l, rfl, by rw [loL_nil]; omega, by omega⟩
    · obtain ⟨x, q', y, e1, e2, e3⟩ := at_lo l (j - loE q) (by omega)
      exact ⟨q :: x, q', y, by rw [e1]; rfl, by rw [loL_cons, e2]; omega, e3⟩
theorem split2 {x x' y y' : List EV} {q q' : EV} (e : x ++ q :: y = x' ++ q' :: y') : (x = x' ∧ q = q') ∨ (∃ z, x' = x ++ q :: z) ∨ (∃ z, x = x' ++ q' :: z) := by
  rcases List.append_eq_append_iff.mp e with ⟨z, e1, e2⟩ | ⟨z, e1, e2⟩
  · cases z with
    | nil =>
      rw [List.append_nil] at e1
      rw [List.nil_append] at e2
      exact Or.inl ⟨e1.symm, (List.cons.inj e2).1⟩
    | cons z0 z =>
      rw [List.cons_append] at e2
      exact Or.inr (Or.inl ⟨z, by rw [e1, (List.cons.inj e2).1]⟩)
  · cases z with
    | nil =>
      rw [List.append_nil] at e1
      rw [List.nil_append] at e2
      exact Or.inl ⟨e1, (List.cons.inj e2).1.symm⟩
    | cons z0 z =>
      rw [List.cons_append] at e2
      exact Or.inr (Or.inr ⟨z, by rw [e1, (List.cons.inj e2).1]⟩)
theorem lo_inj {x x' y y' : List EV} {q q' : EV} (e : x ++ q :: y = x' ++ q' :: y') (h : q.1 = 21) (h' : q'.1 = 21) (l : loL x = loL x') : x = x' ∧ q = q' := by
  rcases split2 e with g | ⟨z, g⟩ | ⟨z, g⟩
  · exact g
  · have l1 := loE21 h
    rw [g, loL_app, loL_cons] at l
    omega
  · have l1 := loE21 h'
    rw [g, loL_app, loL_cons] at l
    omega
theorem lw_inj {x x' y y' : List EV} {q q' : EV} (e : x ++ q :: y = x' ++ q' :: y') (h : q.1 = 21) (h' : q'.1 = 21) (l : lwL x + lwE q = lwL x' + lwE q') : x = x' ∧ q = q' := by
  rcases split2 e with g | ⟨z, g⟩ | ⟨z, g⟩
  · exact g
  · have l1 := lwE21 h'
    rw [g, lwL_app, lwL_cons] at l
    omega
  · have l1 := lwE21 h
    rw [g, lwL_app, lwL_cons] at l
    omega
/-- every call is an event's -/
theorem callsE {w0 : MS} {m : Nat} (hm : (m : Int) = (w.1 0 39).toInt) (h39 : (w0.1 0 39).toInt = 0) (h15 : (w0.1 0 15).toInt = 0) (O : OAt K w0 w (a.map z0E)) (T : TPw K w 0 p a) : ∀ c : Nat, c < m → ∃ x q y, a = x ++ q :: y ∧ q.1 = 21 ∧ (w.1 37 c).toInt + 1 = ((p + lwL x : Nat) : Int) + lwE q ∧ K.2.1 (w.1 35 c) = q.2.1 := by
  obtain ⟨o1, -, o3, o4⟩ := O
  have n0 : (w0.1 0 15).toNatClampNeg = 0 := by have := natI (a := w0.1 0 15) (by omega); omega
  have A : ∀ c : Nat, c < m → ∃ t : List EV × EV × List EV, a = t.1 ++ t.2.1 :: t.2.2 ∧ t.2.1.1 = 21 ∧ (loL t.1 : Int) = (w.1 38 c).toInt := fun c hc => by
    have C := o3.1 c (by omega) (by omega)
    have nc := natI C.2.1
    obtain ⟨x, q, y, e1, e2, e3⟩ := at_lo a (w.1 38 c).toNatClampNeg (by rw [loL_z0] at o1; omega)
    have M := o4 (x.map z0E) (z0E q) (y.map z0E) (by rw [e1, List.map_append, List.map_cons])
    rw [n0, Nat.zero_add, loL_z0] at M
    obtain ⟨-, M⟩ := M
    rw [loE_z0] at M
    rcases M with M | M
    · omega
    have z := oEv14 (q := z0E q) (by rw [← M.1, e2]; exact C.2.2)
    have z21 : q.1 = 21 := by
      unfold z0E at z
      by_cases g : q.1 = 0
      · rw [if_pos g] at z
        exact absurd z (show ¬ ((0 : Int32) = 21) by decide)
      · rw [if_neg g] at z
        exact z
    exact ⟨(x, q, y), e1, z21, by show (loL x : Int) = _; omega⟩
  have B : ∀ t : List EV × EV × List EV, a = t.1 ++ t.2.1 :: t.2.2 → t.2.1.1 = 21 → ∃ c : Nat, c < m ∧ (w.1 37 c).toInt + 1 = ((p + lwL t.1 : Nat) : Int) + lwE t.2.1 ∧ K.2.1 (w.1 35 c) = t.2.1.2.1 := fun t e g => by
    have W := T t.1 t.2.1 t.2.2 e
    rw [if_neg (by rw [g]; decide)] at W
    obtain ⟨c, c1, c2, c3, c4⟩ := W.1.2.2 g
    exact ⟨c, by omega, c3, c4⟩
  have dflt : Inhabited (List EV × EV × List EV) := ⟨([], evx 0 0 0, [])⟩
  obtain ⟨f, hf⟩ : ∃ f : Nat → List EV × EV × List EV, ∀ c, c < m → a = (f c).1 ++ (f c).2.1 :: (f c).2.2 ∧ (f c).2.1.1 = 21 ∧ (loL (f c).1 : Int) = (w.1 38 c).toInt := by
    refine ⟨fun c => if h : c < m then Classical.choose (A c h) else ([], evx 0 0 0, []), fun c hc => ?_⟩
    show _ ∧ _ ∧ _
    simp only [dif_pos hc]
    exact Classical.choose_spec (A c hc)
  obtain ⟨g, hg⟩ : ∃ g : Nat → Nat, ∀ c, c < m → g c < m ∧ (w.1 37 (g c)).toInt + 1 = ((p + lwL (f c).1 : Nat) : Int) + lwE (f c).2.1 ∧ K.2.1 (w.1 35 (g c)) = (f c).2.1.2.1 := by
    refine ⟨fun c => if h : c < m then Classical.choose (B (f c) (hf c h).1 (hf c h).2.1) else 0, fun c hc => ?_⟩
    show _ ∧ _ ∧ _
    simp only [dif_pos hc]
    exact Classical.choose_spec (B (f c) (hf c hc).1 (hf c hc).2.1)
  intro c hc
  obtain ⟨c0, h0, e0⟩ := inj_on (h := g) (fun c hc => (hg c hc).1) (fun c d hc hd e => by
    have G1 := (hg c hc).2.1
    have G2 := (hg d hd).2.1
    rw [e] at G1
    have F1 := hf c hc
    have F2 := hf d hd
    have I := lw_inj (F1.1.symm.trans F2.1) F1.2.1 F2.2.1 (by omega)
    have l := F1.2.2
    rw [I.1, F2.2.2] at l
    exact o3.2 c d (by omega) (by omega) (by omega) (by omega) (Int32.toInt_inj.mp l.symm)) c hc
  have F0 := hf c0 h0
  have G0 := hg c0 h0
  rw [e0] at G0
  exact ⟨_, _, _, F0.1, F0.2.1, G0.2.1, G0.2.2⟩
end ZZU
