/-! the reference's words: which step changes which word -/
def PCq (a : List EV) (W0 W1 : Nat → Int32) : Prop := ∀ j : Nat, (∀ x q y, a = x ++ q :: y → q.1 = 21 → j + 1 ≠ 2 + lwL x + lwE q) → W1 j = W0 j
def PFq (a : List EV) (W2 W3 : Nat → Int32) : Prop := ∀ j : Nat, (∀ x q y e0, a = x ++ q :: y → e0 ∈ fxE q → j ≠ 2 + lwL x + e0.1) → W3 j = W2 j
def PLq (a : List EV) (W3 W4 : Nat → Int32) : Prop := ∀ j : Nat, (∀ x q y, a = x ++ q :: y → q.1 = 0 → j ≠ 2 + lwL x + 1 ∧ j ≠ 2 + lwL x + 2) → W4 j = W3 j
/-- the four steps one after the other -/
def PSq (a : List EV) (W0 W1 W2 W3 W4 : Nat → Int32) : Prop := PCq a W0 W1 ∧ (∀ j : Nat, j < 2 + lwL a → W2 j = W1 j) ∧ PFq a W2 W3 ∧ PLq a W3 W4
/-- a call's words -/
def clW (q : EV) (t : Int32) : List Int32 := if q.2.2.2.1 = 0 then [t] else [iW 19 5 8 (fW q.2.2.1), t]
section ZZY
variable {a x y : List EV} {q : EV} {i j : Nat} {W0 W1 W2 W3 W4 : Nat → Int32}
theorem pos_lt (e : a = x ++ q :: y) (h : i < lwE q) : lwL x + i < lwL a := by
  rw [e, lwL_app, lwL_cons]
  omega
theorem lwE_0 (h : q.1 = 0) : 9 ≤ lwE q := by
  obtain ⟨t, r⟩ := q
  have h : t = 0 := h
  subst h
  show 9 ≤ 9 + 2 * r.2.1.toNatClampNeg
  omega
theorem fxE_0 (h : q.1 = 0) : fxE q = [] := by
  obtain ⟨t, r⟩ := q
  have h : t = 0 := h
  subst h
  rfl
theorem fxE_21 (h : q.1 = 21) : fxE q = [] := by
  obtain ⟨t, r⟩ := q
  have h : t = 21 := h
  subst h
  rfl
theorem PSq.s4 (h : PSq a W0 W1 W2 W3 W4) (e : a = x ++ q :: y) (hi : i < lwE q) (h0 : q.1 = 0 → i ≠ 1 ∧ i ≠ 2) : W4 (2 + lwL x + i) = W3 (2 + lwL x + i) := by
  refine h.2.2.2 _ (fun x' q' y' e' c => ?_)
  have l9 := lwE_0 c
  constructor
  · intro g
    have I := pos_inj (e.symm.trans e') hi (i' := 1) (by omega) (by omega)
    exact (h0 (by rw [I.2.1]; exact c)).1 I.2.2
  · intro g
    have I := pos_inj (e.symm.trans e') hi (i' := 2) (by omega) (by omega)
    exact (h0 (by rw [I.2.1]; exact c)).2 I.2.2
theorem PSq.s3 (h : PSq a W0 W1 W2 W3 W4) (e : a = x ++ q :: y) (hi : i < lwE q) (h0 : ∀ e0 ∈ fxE q, e0.1 ≠ i) : W3 (2 + lwL x + i) = W2 (2 + lwL x + i) := by
  refine h.2.2.1 _ (fun x' q' y' e0 e' c g => ?_)
  have I := pos_inj (e.symm.trans e') hi (fxE_lt c) (by omega)
  exact h0 e0 (by rw [I.2.1]; exact c) I.2.2.symm
theorem PSq.s2 (h : PSq a W0 W1 W2 W3 W4) (e : a = x ++ q :: y) (hi : i < lwE q) : W2 (2 + lwL x + i) = W1 (2 + lwL x + i) := by
  have := pos_lt e hi
  exact h.2.1 _ (by omega)
theorem PSq.s1 (h : PSq a W0 W1 W2 W3 W4) (e : a = x ++ q :: y) (hi : i < lwE q) (h0 : q.1 = 21 → i + 1 ≠ lwE q) : W1 (2 + lwL x + i) = W0 (2 + lwL x + i) := by
  refine h.1 _ (fun x' q' y' e' c g => ?_)
  have l := lwE21 c
  have I := pos_inj (e.symm.trans e') hi (i' := lwE q' - 1) (by omega) (by omega)
  refine h0 (by rw [I.2.1]; exact c) ?_
  rw [I.2.2, I.2.1]
  omega
/-- behind the text -/
theorem PSq.tl (h : PSq a W0 W1 W2 W3 W4) (hj : 2 + lwL a ≤ j) : W4 j = W2 j := by
  rw [h.2.2.2 j (fun x q y e c => ?_), h.2.2.1 j (fun x q y e0 e c g => ?_)]
  · have := pos_lt e (fxE_lt c)
    omega
  · have l9 := lwE_0 c
    have := pos_lt e (i := 2) (by omega)
    omega
/-- before it -/
theorem PSq.hd (h : PSq a W0 W1 W2 W3 W4) (hj : j < 2) : W4 j = W0 j := by
  rw [h.2.2.2 j (fun x q y e c => by omega), h.2.2.1 j (fun x q y e0 e c g => by omega), h.2.1 j (by omega), h.1 j (fun x q y e c g => ?_)]
  have l := lwE21 c
  omega
theorem fixW_cg {u v : MS} (h67 : u.1 0 67 = v.1 0 67) (h68 : u.1 0 68 = v.1 0 68) (h12 : u.1 0 12 = v.1 0 12) (h25 : u.1 25 = v.1 25) (fo kd at' wd : Int32) : fixW u fo kd at' wd = fixW v fo kd at' wd := by
  unfold fixW
  rw [h67, h68, h12, h25]
theorem rwE21 {gm : Nat → Int32} (h : q.1 = 21) : rwE gm q = clW q 0 := by
  obtain ⟨t, r⟩ := q
  have h : t = 21 := h
  subst h
  rfl
theorem clW_len {t : Int32} (h : q.1 = 21) : (clW q t).length = lwE q := by
  obtain ⟨k, r⟩ := q
  have h : k = 21 := h
  subst h
  show (if r.2.2.1 = 0 then [t] else [iW 19 5 8 (fW r.2.1), t]).length = if r.2.2.1 = 0 then 1 else 2
  split <;> rfl
/-- a call's words are filled in -/
theorem clS {w u : MS} {P : Nat} {t : Int32} (h : q.1 = 21) (hS : Seg w P (clW q 0)) (hA : ∀ i : Nat, i < lwE q → i + 1 ≠ lwE q → u.1 11 (P + i) = w.1 11 (P + i)) (hB : ∀ i : Nat, i + 1 = lwE q → u.1 11 (P + i) = t) : Seg u P (clW q t) := by
  have l := clW_len (t := t) h
  intro i z hz
  have li := getl hz
  rw [l] at li
  by_cases g : i + 1 = lwE q
  · rw [hB i g]
    unfold clW at hz l
    split at hz
    · rename_i c
      rw [if_pos c] at l
      have l : 1 = lwE q := l
      obtain rfl : i = 0 := by omega
      exact Option.some.inj hz
    · rename_i c
      rw [if_neg c] at l
      have l : 2 = lwE q := l
      obtain rfl : i = 1 := by omega
      exact Option.some.inj hz
  · rw [hA i (by omega) g]
    refine hS i z ?_
    rw [← hz]
    unfold clW at l ⊢
    split
    · rename_i c
      rw [if_pos c] at l
      have l : 1 = lwE q := l
      omega
    · rename_i c
      rw [if_neg c] at l
      have l : 2 = lwE q := l
      obtain rfl : i = 0 := by omega
      rfl
theorem li9 {a b c d e f g h k b' c' : Int32} {i : Nat} (n1 : i ≠ 1) (n2 : i ≠ 2) : ([a, b, c, d, e, f, g, h, k] : List Int32)[i]? = [a, b', c', d, e, f, g, h, k][i]? := by
  match i, n1, n2 with
  | 0, _, _ => rfl
  | 1, n, _ => exact absurd rfl n
  | 2, _, n => exact absurd rfl n
  | 3, _, _ => rfl
  | 4, _, _ => rfl
  | 5, _, _ => rfl
  | 6, _, _ => rfl
  | 7, _, _ => rfl
  | 8, _, _ => rfl
  | i + 9, _, _ => rfl
/-- a beginning's words are filled in -/
theorem enS {w u : MS} {P np : Nat} {fr lim : Int32} (hn : np ≤ 8) (hS : ∀ (i : Nat) (z : Int32), (enR fr)[i]? = some z → w.1 11 (P + i) = z) (hT : Seg w (P + 9) (paL np)) (hA : ∀ i : Nat, i < 9 + 2 * np → i ≠ 1 → i ≠ 2 → u.1 11 (P + i) = w.1 11 (P + i)) (h1 : u.1 11 (P + 1) = uW 6 lim) (h2 : u.1 11 (P + 2) = iW 19 6 6 (loW lim)) : Seg u P (enW fr lim (nI np)) := by
  have e : (nI np).toNatClampNeg = np := natC (nI_Z (by omega))
  intro i z hz
  unfold enW at hz
  rw [e] at hz
  by_cases g : i < 9
  · rw [List.getElem?_append_left (show i < 9 from g)] at hz
    by_cases g1 : i = 1
    · subst g1
      rw [h1]
      exact Option.some.inj hz
    by_cases g2 : i = 2
    · subst g2
      rw [h2]
      exact Option.some.inj hz
    rw [hA i (by omega) g1 g2]
    refine hS i z ?_
    rw [← hz]
    exact li9 g1 g2
  · rw [List.getElem?_append_right (show 9 ≤ i by omega)] at hz
    have l := getl hz
    rw [paL_len] at l
    have l : i - 9 < 2 * np := l
    rw [hA i (by omega) (by omega) (by omega)]
    have := hT (i - 9) z hz
    rw [show P + 9 + (i - 9) = P + i by omega] at this
    exact this
end ZZY
