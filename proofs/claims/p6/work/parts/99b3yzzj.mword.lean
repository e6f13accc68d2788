/-! the reference's words: what is kept, what stands where -/
/-- how far a jump leads, from its own word -/
def jr (d k : Int) : Int32 := Int32.ofInt (4 * (d - k))
def sgR (s : Int32) : List Int32 := if s = 55 ∨ s = 56 then [0] else if s = 57 then [0, iW 19 10 6 0] else sgW 0 0 0 s
/-- an event's words, before addresses are known; gm: how many numbers a global has -/
def rwE (gm : Nat → Int32) (q : EV) : List Int32 :=
  if q.1 = 25 ∨ q.1 = 24 then [] else if q.1 = 1 then [iW 8195 1 8 (-4), iW 19 2 8 0, iW 8195 8 8 (-8), iW 103 0 1 0] else if q.1 = 2 then nuW q.2.1 else if q.1 = 3 then [iW 8195 10 8 (fW q.2.1)] else if q.1 = 4 then [sW 10 (fW q.2.1) 8]
  else if q.1 = 12 then [iW 1073741875 10 0 10] else if q.1 = 13 then [iW 12307 10 10 1] else if q.1 = 14 then [iW 16403 10 10 (-1)] else if q.1 = 15 then [iW 12339 10 0 10]
  else if q.1 = 16 then [bW 4195 10 0 8, jW 0 (jr q.2.2.2.2.2 1)] else if q.1 = 17 then [bW 99 10 0 8, jW 0 (jr q.2.2.2.2.2 1)] else if q.1 = 18 then [bW 99 10 0 12, iW 19 10 0 1, jW 0 (jr q.2.2.2.2.2 2)] else if q.1 = 19 ∨ q.1 = 33 then [jW 0 (jr q.2.2.2.2.2 0)]
  else if q.1 = 20 then iW 8195 5 8 (fW q.2.2.1) :: sgR q.2.1 else if q.1 = 21 then (if q.2.2.2.1 = 0 then [0] else [iW 19 5 8 (fW q.2.2.1), 0])
  else if q.1 = 22 then [iW 19 17 0 1, 115] else if q.1 = 23 then [iW 19 17 0 2, 115] else plW 0 (gm q.2.1.toNatClampNeg) q.1 q.2.1 q.2.2.1
/-- which of its words want an address: place, of what, kind -/
def fxE (q : EV) : List (Nat × Int32 × Int32) :=
  if q.1 = 5 then [(0, q.2.1, 0), (1, q.2.1, 1)] else if q.1 = 6 then [(0, q.2.1, 0), (1, q.2.1, 2)] else if q.1 = 7 then [(6, q.2.1, 0)] else if q.1 = 8 then [(0, q.2.1, 1)] else if q.1 = 9 then [(0, q.2.1, 3)]
  else if q.1 = 20 then (if q.2.1 = 55 then [(1, -1, 5)] else if q.2.1 = 56 ∨ q.2.1 = 57 then [(1, -2, 5)] else []) else []
def fxL : Nat → List EV → List (Nat × Int32 × Int32)
  | _, [] => []
  | p, q :: l => (fxE q).map (fun e => (p + e.1, e.2)) ++ fxL (p + lwE q) l
def Seg (u : MS) (p : Nat) (l : List Int32) : Prop := ∀ (i : Nat) (z : Int32), l[i]? = some z → u.1 11 (p + i) = z
def woE (K : TK) (u : MS) (cl : Int) (q : EV) (p : Nat) : Prop := ((p : Int) + lwE q ≤ (u.1 0 12).toInt ∧ (rwE (u.1 24) q).length = lwE q) ∧ Seg u p (rwE (u.1 24) q) ∧ (q.1 = 21 → ∃ c : Nat, cl ≤ c ∧ (c : Int) < (u.1 0 39).toInt ∧ (u.1 37 c).toInt + 1 = p + lwE q ∧ K.2.1 (u.1 35 c) = q.2.1)
def WOq (K : TK) (u : MS) (cl : Int) (p : Nat) (a : List EV) : Prop := ∀ x q y, a = x ++ q :: y → woE K u cl q (p + lwL x)
/-- kept: words, addresses wanted, calls, the globals' sizes -/
def WFq (v u : MS) : Prop := ((v.1 0 12).toInt ≤ (u.1 0 12).toInt ∧ ∀ j : Nat, (j : Int) < (v.1 0 12).toInt → u.1 11 j = v.1 11 j) ∧ ((v.1 0 43).toInt ≤ (u.1 0 43).toInt ∧ ∀ c : Nat, (c : Int) < (v.1 0 43).toInt → u.1 40 c = v.1 40 c ∧ u.1 41 c = v.1 41 c ∧ u.1 42 c = v.1 42 c) ∧ ((v.1 0 39).toInt ≤ (u.1 0 39).toInt ∧ ∀ c : Nat, (c : Int) < (v.1 0 39).toInt → u.1 35 c = v.1 35 c ∧ u.1 37 c = v.1 37 c) ∧ u.1 24 = v.1 24
/-- the addresses wanted are those of the events, one behind another -/
def FQq (v u : MS) (l : List (Nat × Int32 × Int32)) : Prop := (u.1 0 43).toInt = (v.1 0 43).toInt + l.length ∧ ∀ (k : Nat) (e : Nat × Int32 × Int32), l[k]? = some e → (u.1 40 ((v.1 0 43).toNatClampNeg + k)).toInt = e.1 ∧ u.1 41 ((v.1 0 43).toNatClampNeg + k) = e.2.1 ∧ u.1 42 ((v.1 0 43).toNatClampNeg + k) = e.2.2
/-- each call has its own word, which is still empty -/
def CWq (v u : MS) : Prop := (∀ c : Nat, (v.1 0 39).toInt ≤ c → (c : Int) < (u.1 0 39).toInt → ((v.1 0 12).toInt ≤ (u.1 37 c).toInt ∧ (u.1 37 c).toInt < (u.1 0 12).toInt) ∧ 0 ≤ (u.1 37 c).toInt) ∧ ∀ c d : Nat, (v.1 0 39).toInt ≤ c → (c : Int) < (u.1 0 39).toInt → (v.1 0 39).toInt ≤ d → (d : Int) < (u.1 0 39).toInt → u.1 37 c = u.1 37 d → c = d
def WAq (K : TK) (v u : MS) (a : List EV) : Prop := (u.1 0 12).toInt = (v.1 0 12).toInt + lwL a ∧ WFq v u ∧ CWq v u ∧ WOq K u (v.1 0 39).toInt (v.1 0 12).toNatClampNeg a ∧ FQq v u (fxL (v.1 0 12).toNatClampNeg a)
section ZWJ
variable {K : TK} {v u w x y : MS} {cl cl' : Int} {q : EV} {p m : Nat} {a b c : List EV} {o z : Int32}
theorem lwL_nil : lwL [] = 0 := rfl
theorem fxL_app : ∀ (a b : List EV) (p : Nat), fxL p (a ++ b) = fxL p a ++ fxL (p + lwL a) b
  | [], b, p => by rw [List.nil_append, lwL_nil]; rfl
  | q :: a, b, p => by
    rw [List.cons_append]
    show (fxE q).map (fun e => (p + e.1, e.2)) ++ fxL (p + lwE q) (a ++ b) = (fxE q).map (fun e => (p + e.1, e.2)) ++ fxL (p + lwE q) a ++ fxL (p + lwL (q :: a)) b
    rw [fxL_app a b, List.append_assoc, lwL_cons, Nat.add_assoc]
theorem WFq.rf : WFq v v := ⟨⟨Int.le_refl _, fun _ _ => rfl⟩, ⟨Int.le_refl _, fun _ _ => ⟨rfl, rfl, rfl⟩⟩, ⟨Int.le_refl _, fun _ _ => ⟨rfl, rfl⟩⟩, rfl⟩
theorem WFq.tr (h : WFq v u) (k : WFq u w) : WFq v w := by
  obtain ⟨⟨a1, a2⟩, ⟨a3, a4⟩, ⟨a5, a6⟩, a7⟩ := h
  obtain ⟨⟨b1, b2⟩, ⟨b3, b4⟩, ⟨b5, b6⟩, b7⟩ := k
  refine ⟨⟨by omega, fun j hj => (b2 j (by omega)).trans (a2 j hj)⟩, ⟨by omega, fun c hc => ?_⟩, ⟨by omega, fun c hc => ?_⟩, b7.trans a7⟩
  · have A := a4 c hc
    have B := b4 c (by omega)
    exact ⟨B.1.trans A.1, B.2.1.trans A.2.1, B.2.2.trans A.2.2⟩
  · have A := a6 c hc
    have B := b6 c (by omega)
    exact ⟨B.1.trans A.1, B.2.trans A.2⟩
theorem woE.up (h : woE K u cl q p) (k : WFq u w) (hc : cl' ≤ cl) : woE K w cl' q p := by
  obtain ⟨⟨a1, a1'⟩, a2, a3⟩ := h
  obtain ⟨⟨b1, b2⟩, -, ⟨b5, b6⟩, b7⟩ := k
  refine ⟨⟨by omega, by rw [b7]; exact a1'⟩, fun i z hz => ?_, fun e => ?_⟩
  · rw [b7] at hz
    have l := getl hz
    rw [b2 _ (by omega)]
    exact a2 i z hz
  · obtain ⟨c, c1, c2, c3, c4⟩ := a3 e
    have C := b6 c c2
    exact ⟨c, by omega, by omega, by rw [C.2]; exact c3, by rw [C.1]; exact c4⟩
theorem WOq.up (h : WOq K u cl p a) (k : WFq u w) (hc : cl' ≤ cl) : WOq K w cl' p a := fun x q y e => (h x q y e).up k hc
theorem WOq.nil : WOq K u cl p [] := fun x q y h => by
  have := congrArg List.length h
  simp at this
theorem WOq.one (h : woE K u cl q p) : WOq K u cl p [q] := fun x q' y h' => by
  cases x with
  | nil =>
    have e := (List.cons.inj h').1
    rw [← e]
    exact h
  | cons z x =>
    have e := (List.cons.inj h').2
    have := congrArg List.length e
    simp at this
theorem WOq.app (h : WOq K u cl p a) (k : WOq K u cl (p + lwL a) b) : WOq K u cl p (a ++ b) := fun x q y e => by
  rcases List.append_eq_append_iff.mp e with ⟨z, e1, e2⟩ | ⟨z, e1, e2⟩
  · have := k z q y e2
    rw [e1, lwL_app, ← Nat.add_assoc]
    exact this
  · cases z with
    | nil =>
      rw [List.append_nil] at e1
      rw [List.nil_append] at e2
      have := k [] q y e2.symm
      rw [← e1]
      exact this
    | cons z0 z =>
      rw [List.cons_append] at e2
      have e3 := List.cons.inj e2
      exact h x q z (by rw [e1, e3.1])
theorem FQq.rf : FQq v v [] := ⟨by show _ = _ + ((0 : Nat) : Int); omega, fun k e h => by simp at h⟩
theorem FQq.tr {l r : List (Nat × Int32 × Int32)} (h : FQq v u l) (k : FQq u w r) (f : WFq u w) (h0 : 0 ≤ (v.1 0 43).toInt) : FQq v w (l ++ r) := by
  obtain ⟨h1, h2⟩ := h
  obtain ⟨k1, k2⟩ := k
  have n1 := natI h0
  have n2 := natI (a := u.1 0 43) (by omega)
  refine ⟨by rw [List.length_append]; omega, fun i e he => ?_⟩
  by_cases c : i < l.length
  · rw [List.getElem?_append_left c] at he
    have A := h2 i e he
    have B := f.2.1.2 ((v.1 0 43).toNatClampNeg + i) (by omega)
    rw [B.1, B.2.1, B.2.2]
    exact A
  · rw [List.getElem?_append_right (by omega)] at he
    have A := k2 (i - l.length) e he
    rw [show (u.1 0 43).toNatClampNeg + (i - l.length) = (v.1 0 43).toNatClampNeg + i by omega] at A
    exact A
theorem CWq.rf : CWq v v := ⟨fun c h1 h2 => by omega, fun c d h1 h2 => by omega⟩
theorem CWq.tr (h : CWq v u) (k : CWq u w) (f : WFq v u) (g : WFq u w) : CWq v w := by
  obtain ⟨h1, h2⟩ := h
  obtain ⟨k1, k2⟩ := k
  have f1 := f.1.1
  have g1 := g.1.1
  have f3 := f.2.2.1.1
  have g3 := g.2.2.1.1
  have g4 := g.2.2.1.2
  have R : ∀ c : Nat, (v.1 0 39).toInt ≤ c → (c : Int) < (w.1 0 39).toInt → (((c : Int) < (u.1 0 39).toInt ∧ w.1 37 c = u.1 37 c ∧ (v.1 0 12).toInt ≤ (w.1 37 c).toInt ∧ (w.1 37 c).toInt < (u.1 0 12).toInt) ∨ ((u.1 0 39).toInt ≤ c ∧ (u.1 0 12).toInt ≤ (w.1 37 c).toInt ∧ (w.1 37 c).toInt < (w.1 0 12).toInt)) ∧ 0 ≤ (w.1 37 c).toInt := fun c c1 c2 => by
    by_cases e : (c : Int) < (u.1 0 39).toInt
    · have := h1 c c1 e
      rw [(g4 c e).2]
      exact ⟨Or.inl ⟨e, rfl, this.1.1, this.1.2⟩, this.2⟩
    · have := k1 c (by omega) c2
      exact ⟨Or.inr ⟨by omega, this.1⟩, this.2⟩
  refine ⟨fun c c1 c2 => ?_, fun c d c1 c2 d1 d2 e => ?_⟩
  · obtain ⟨R1, R2⟩ := R c c1 c2
    rcases R1 with ⟨q1, q2, q3, q4⟩ | ⟨q1, q2, q3⟩
    · exact ⟨⟨q3, by omega⟩, R2⟩
    · exact ⟨⟨by omega, q3⟩, R2⟩
  · rcases (R c c1 c2).1 with ⟨q1, q2, q3, q4⟩ | ⟨q1, q2, q3⟩
    · rcases (R d d1 d2).1 with ⟨r1, r2, r3, r4⟩ | ⟨r1, r2, r3⟩
      · exact h2 c d c1 q1 d1 r1 (by rw [← q2, ← r2]; exact e)
      · rw [e] at q4
        omega
    · rcases (R d d1 d2).1 with ⟨r1, r2, r3, r4⟩ | ⟨r1, r2, r3⟩
      · rw [e] at q2
        omega
      · exact k2 c d q1 c2 r1 d2 e
theorem WAq.rf : WAq K v v [] := ⟨by rw [lwL_nil]; omega, WFq.rf, CWq.rf, WOq.nil, FQq.rf⟩
theorem WAq.tr (h : WAq K v u a) (k : WAq K u w b) (h0 : 0 ≤ (v.1 0 12).toInt) (h3 : 0 ≤ (v.1 0 43).toInt) : WAq K v w (a ++ b) := by
  obtain ⟨a1, a2, a3, a4, a5⟩ := h
  obtain ⟨b1, b2, b3, b4, b5⟩ := k
  have n1 := natI h0
  have n2 := natI (a := u.1 0 12) (by omega)
  have e : (v.1 0 12).toNatClampNeg + lwL a = (u.1 0 12).toNatClampNeg := by omega
  refine ⟨by rw [lwL_app]; omega, a2.tr b2, a3.tr b3 a2 b2, (a4.up b2 (Int.le_refl _)).app ?_, ?_⟩
  · rw [e]
    exact b4.up WFq.rf a2.2.2.1.1
  · rw [fxL_app, e]
    exact a5.tr b5 b2 h3
end ZWJ
