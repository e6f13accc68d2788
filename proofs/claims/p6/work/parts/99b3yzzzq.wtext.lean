/-! the reference's words: along a text -/
def lnF (q : List Int32 × List EV) : Nat := 9 + 2 * q.1.length + lwL (fnT q.2)
def lnX (d : List (List Int32 × List EV)) : Nat := (d.map lnF).sum
def fxX : Nat → List (List Int32 × List EV) → List (Nat × Int32 × Int32)
  | _, [] => []
  | p, q :: l => fxL (p + 9 + 2 * q.1.length) (fnT q.2) ++ fxX (p + lnF q) l
/-- kept along a text: the globals may grow -/
def WFt (v u : MS) : Prop := ((v.1 0 12).toInt ≤ (u.1 0 12).toInt ∧ ∀ j : Nat, (j : Int) < (v.1 0 12).toInt → u.1 11 j = v.1 11 j) ∧ ((v.1 0 43).toInt ≤ (u.1 0 43).toInt ∧ ∀ c : Nat, (c : Int) < (v.1 0 43).toInt → u.1 40 c = v.1 40 c ∧ u.1 41 c = v.1 41 c ∧ u.1 42 c = v.1 42 c) ∧ ((v.1 0 39).toInt ≤ (u.1 0 39).toInt ∧ ∀ c : Nat, (c : Int) < (v.1 0 39).toInt → u.1 35 c = v.1 35 c ∧ u.1 37 c = v.1 37 c) ∧ ((v.1 0 27).toInt ≤ (u.1 0 27).toInt ∧ ∀ j : Nat, (j : Int) < (v.1 0 27).toInt → u.1 24 j = v.1 24 j)
/-- the functions, one behind another -/
def TXw (K : TK) (w : MS) (cl : Int) : Nat → Nat → List (List Int32 × List EV) → Prop
  | _, _, [] => True
  | p, k, q :: l => (FNw K w cl p (w.1 18 k) q.1.length q.2 ∧ ((p + lnF q : Nat) : Int) ≤ (w.1 0 12).toInt ∧ (∃ Z : Nat, (Z : Int) ≤ (w.1 0 27).toInt ∧ P7 Z (fnT q.2)) ∧ (w.1 19 k = nI p ∧ w.1 17 k = nI q.1.length ∧ q.1.length ≤ 8)) ∧ TXw K w cl (p + lnF q) (k + 1) l
section ZZQ
variable {n : Int} {K : TK} {v u w x : MS} {cl cl' : Int} {q : EV} {p np : Nat} {fr : Int32} {a b : List EV} {gm gm' : Nat → Int32} {d : List (List Int32 × List EV)}
theorem lnX_nil : lnX [] = 0 := rfl
theorem lnX_cons (q : List Int32 × List EV) (l : List (List Int32 × List EV)) : lnX (q :: l) = lnF q + lnX l := by unfold lnX; rw [List.map_cons, List.sum_cons]
theorem lnX_app (a b : List (List Int32 × List EV)) : lnX (a ++ b) = lnX a + lnX b := by unfold lnX; rw [List.map_append, List.sum_append]
theorem fxX_app : ∀ (a b : List (List Int32 × List EV)) (p : Nat), fxX p (a ++ b) = fxX p a ++ fxX (p + lnX a) b
  | [], b, p => by rw [List.nil_append, lnX_nil]; rfl
  | q :: a, b, p => by
    rw [List.cons_append]
    show fxL (p + 9 + 2 * q.1.length) (fnT q.2) ++ fxX (p + lnF q) (a ++ b) = fxL (p + 9 + 2 * q.1.length) (fnT q.2) ++ fxX (p + lnF q) a ++ fxX (p + lnX (q :: a)) b
    rw [fxX_app a b, List.append_assoc, lnX_cons, show p + (lnF q + lnX a) = p + lnF q + lnX a by omega]
theorem plW_sz {ad s1 s2 dd x0 y0 : Int32} (h : dd ≠ 7) : plW ad s1 dd x0 y0 = plW ad s2 dd x0 y0 := by
  unfold plW
  rw [if_neg h, if_neg h]
theorem rwE_cg (h : q.1 = 7 → gm q.2.1.toNatClampNeg = gm' q.2.1.toNatClampNeg) : rwE gm q = rwE gm' q := by
  unfold rwE
  by_cases c : q.1 = 7
  · rw [h c]
  · rw [plW_sz (s2 := gm' q.2.1.toNatClampNeg) c]
theorem WFt.rf : WFt v v := ⟨⟨Int.le_refl _, fun _ _ => rfl⟩, ⟨Int.le_refl _, fun _ _ => ⟨rfl, rfl, rfl⟩⟩, ⟨Int.le_refl _, fun _ _ => ⟨rfl, rfl⟩⟩, Int.le_refl _, fun _ _ => rfl⟩
theorem WFt.of (h : WFq v u) (h27 : u.1 0 27 = v.1 0 27) : WFt v u := ⟨h.1, h.2.1, h.2.2.1, by rw [h27]; exact Int.le_refl _, fun j _ => by rw [h.2.2.2]⟩
theorem WFt.tr (h : WFt v u) (k : WFt u w) : WFt v w := by
  obtain ⟨⟨a1, a2⟩, ⟨a3, a4⟩, ⟨a5, a6⟩, a7, a8⟩ := h
  obtain ⟨⟨b1, b2⟩, ⟨b3, b4⟩, ⟨b5, b6⟩, b7, b8⟩ := k
  refine ⟨⟨by omega, fun j hj => (b2 j (by omega)).trans (a2 j hj)⟩, ⟨by omega, fun c hc => ?_⟩, ⟨by omega, fun c hc => ?_⟩, by omega, fun j hj => (b8 j (by omega)).trans (a8 j hj)⟩
  · have A := a4 c hc
    have B := b4 c (by omega)
    exact ⟨B.1.trans A.1, B.2.1.trans A.2.1, B.2.2.trans A.2.2⟩
  · have A := a6 c hc
    have B := b6 c (by omega)
    exact ⟨B.1.trans A.1, B.2.trans A.2⟩
/-- calls, along a text -/
theorem CWq.tt (h : CWq v u) (k : CWq u w) (f : WFt v u) (g : WFt u w) : CWq v w := by
  have F : WFq v u → WFq u w → CWq v w := fun a b => h.tr k a b
  obtain ⟨h1, h2⟩ := h
  obtain ⟨k1, k2⟩ := k
  have f1 := f.1.1
  have g1 := g.1.1
  have f3 := f.2.2.1.1
  have g3 := g.2.2.1.1
  have g4 := g.2.2.1.2
  have R : ∀ c : Nat, (v.1 0 39).toInt ≤ c → (c : Int) < (w.1 0 39).toInt → (((c : Int) < (u.1 0 39).toInt ∧ w.1 37 c = u.1 37 c ∧ (v.1 0 12).toInt ≤ (w.1 37 c).toInt ∧ (w.1 37 c).toInt < (u.1 0 12).toInt) ∨ ((u.1 0 39).toInt ≤ c ∧ (u.1 0 12).toInt ≤ (w.1 37 c).toInt ∧ (w.1 37 c).toInt < (w.1 0 12).toInt)) ∧ 0 ≤ (w.1 37 c).toInt := fun c c1 c2 => by
    by_cases e : (c : Int) < (u.1 0 39).toInt
    · have := h1 c c1 e
      rw [(g4 c e).2]
      exact ⟨Or.inl ⟨e, rfl, this.1.1, this.1.2⟩, this.2⟩
    · have := k1 c (by omega) c2
      exact ⟨Or.inr ⟨by omega, this.1⟩, this.2⟩
  refine ⟨fun c c1 c2 => ?_, fun c d c1 c2 d1 d2 e => ?_⟩
  · obtain ⟨R1, R2⟩ := R c c1 c2
    rcases R1 with ⟨q1, q2, q3, q4⟩ | ⟨q1, q2, q3⟩
    · exact ⟨⟨q3, by omega⟩, R2⟩
    · exact ⟨⟨by omega, q3⟩, R2⟩
  · rcases (R c c1 c2).1 with ⟨q1, q2, q3, q4⟩ | ⟨q1, q2, q3⟩
    · rcases (R d d1 d2).1 with ⟨r1, r2, r3, r4⟩ | ⟨r1, r2, r3⟩
      · exact h2 c d c1 q1 d1 r1 (by rw [← q2, ← r2]; exact e)
      · rw [e] at q4
        omega
    · rcases (R d d1 d2).1 with ⟨r1, r2, r3, r4⟩ | ⟨r1, r2, r3⟩
      · rw [e] at q2
        omega
      · exact k2 c d q1 c2 r1 d2 e
theorem FQq.tt {l r : List (Nat × Int32 × Int32)} (h : FQq v u l) (k : FQq u w r) (f : WFt u w) (h0 : 0 ≤ (v.1 0 43).toInt) : FQq v w (l ++ r) := by
  obtain ⟨h1, h2⟩ := h
  obtain ⟨k1, k2⟩ := k
  have n1 := natI h0
  have n2 := natI (a := u.1 0 43) (by omega)
  refine ⟨by rw [List.length_append]; omega, fun i e he => ?_⟩
  by_cases c : i < l.length
  · rw [List.getElem?_append_left c] at he
    have A := h2 i e he
    have B := f.2.1.2 ((v.1 0 43).toNatClampNeg + i) (by omega)
    rw [B.1, B.2.1, B.2.2]
    exact A
  · rw [List.getElem?_append_right (by omega)] at he
    have A := k2 (i - l.length) e he
    rw [show (u.1 0 43).toNatClampNeg + (i - l.length) = (v.1 0 43).toNatClampNeg + i by omega] at A
    exact A
theorem woE.ut (h : woE K u cl q p) (k : WFt u w) (hc : cl' ≤ cl) (h7 : q.1 = 7 → (q.2.1.toNatClampNeg : Int) < (u.1 0 27).toInt) : woE K w cl' q p := by
  obtain ⟨⟨a1, a1'⟩, a2, a3⟩ := h
  obtain ⟨⟨b1, b2⟩, -, ⟨b5, b6⟩, b7, b8⟩ := k
  have e : rwE (w.1 24) q = rwE (u.1 24) q := rwE_cg (fun c => b8 _ (h7 c))
  refine ⟨⟨by omega, by rw [e]; exact a1'⟩, fun i z hz => ?_, fun e => ?_⟩
  · rw [e] at hz
    have l := getl hz
    rw [b2 _ (by omega)]
    exact a2 i z hz
  · obtain ⟨c, c1, c2, c3, c4⟩ := a3 e
    have C := b6 c c2
    exact ⟨c, by omega, by omega, by rw [C.2]; exact c3, by rw [C.1]; exact c4⟩
theorem p7_lt {Z : Nat} (h : P7 Z a) (hZ : (Z : Int) ≤ (u.1 0 27).toInt) (hq : q ∈ a) (c : q.1 = 7) : (q.2.1.toNatClampNeg : Int) < (u.1 0 27).toInt := by
  obtain ⟨n, n1, n2⟩ := (h q hq).2.1 (Or.inl c)
  have l := Int32.toInt_lt (u.1 0 27)
  have e : (nI n).toNatClampNeg = n := natC (nI_Z (by omega))
  rw [n2, e]
  omega
theorem FNw.ut {Z : Nat} (h : FNw K u cl p fr np b) (k : WFt u w) (hc : cl' ≤ cl) (h7 : P7 Z (fnT b)) (hZ : (Z : Int) ≤ (u.1 0 27).toInt) (hl : ((p + (9 + 2 * np) : Nat) : Int) ≤ (u.1 0 12).toInt) : FNw K w cl' p fr np b := by
  obtain ⟨h1, h2, h3⟩ := h
  refine ⟨fun i z hz => ?_, fun i z hz => ?_, fun x q y e => (h3 x q y e).ut k hc (p7_lt h7 hZ (by rw [e]; exact List.mem_append.mpr (Or.inr List.mem_cons_self)))⟩
  · have l := getl hz
    have l : i < 9 := l
    rw [k.1.2 _ (by omega)]
    exact h1 i z hz
  · have l := getl hz
    rw [paL_len] at l
    rw [k.1.2 _ (by omega)]
    exact h2 i z hz
theorem TXw.ut (k : WFt u w) (hc : cl' ≤ cl) : ∀ (d : List (List Int32 × List EV)) (p j : Nat), (∀ i : Nat, i < j + d.length → w.1 17 i = u.1 17 i ∧ w.1 18 i = u.1 18 i ∧ w.1 19 i = u.1 19 i) → TXw K u cl p j d → TXw K w cl' p j d
  | [], _, _, _, _ => trivial
  | q :: l, p, j, hj, h => by
    obtain ⟨⟨h1, h2, ⟨Z, h3, h3'⟩, h4⟩, h5⟩ := h
    have J := hj j (by rw [List.length_cons]; omega)
    have k1 := k.1.1
    have k2 := k.2.2.2.1
    have lq : lnF q = 9 + 2 * q.1.length + lwL (fnT q.2) := rfl
    refine ⟨⟨?_, by omega, ⟨Z, by omega, h3'⟩, by rw [J.2.2]; exact h4.1, by rw [J.1]; exact h4.2⟩, TXw.ut k hc l _ _ (fun i hi => hj i (by rw [List.length_cons]; omega)) h5⟩
    rw [J.2.1]
    exact h1.ut k hc h3' h3 (by omega)
theorem TXw.app : ∀ (d e : List (List Int32 × List EV)) (p j : Nat), TXw K u cl p j d → TXw K u cl (p + lnX d) (j + d.length) e → TXw K u cl p j (d ++ e)
  | [], _, _, _, _, k => k
  | q :: l, e, p, j, h, k => ⟨h.1, TXw.app l e _ _ h.2 (by rw [lnX_cons, List.length_cons] at k; rw [Nat.add_assoc, show j + 1 + l.length = j + (l.length + 1) by omega]; exact k)⟩
end ZZQ
