/-! the reference's orders: what is accepted -/
/-- the orders obeyed: q's stands at p -/
def mxA (K : TK) (fn : Nat → Int32) (u : MS) (q : EV) (p : Nat) : Prop :=
  if q.1 = 16 ∨ q.1 = 17 ∨ q.1 = 18 ∨ q.1 = 19 then (u.1 72 p).toInt = p + q.2.2.2.2.1
  else if q.1 = 5 ∨ q.1 = 6 then (q.2.1.toNatClampNeg : Int) < (u.1 0 75).toInt ∧ u.1 72 p = u.1 86 q.2.1.toNatClampNeg
  else if q.1 = 20 then ∃ z ∈ SC, z.2 = q.2.1 ∧ u.1 72 p = z.1
  else if q.1 = 21 then 0 ≤ (u.1 72 p).toInt ∧ (u.1 72 p).toInt < (u.1 0 74).toInt ∧ K.2.1 (fn (u.1 72 p).toNatClampNeg) = q.2.1
  else if q.1 = 2 ∨ q.1 = 3 ∨ q.1 = 4 ∨ q.1 = 7 then u.1 72 p = q.2.1
  else if q.1 = 30 ∨ q.1 = 31 then False
  else u.1 72 p = 0
def MXq (K : TK) (fn : Nat → Int32) (u : MS) (a : List EV) : Prop := ∀ x q y, a = x ++ q :: y → loE q = 0 ∨ (u.1 71 (loL x) = oEv q ∧ mxA K fn u q (loL x))
section XDA
variable {K : TK} {x u : MS} {evs : List EV}
theorem accO (h : Q_m_accept x u) : (∀ p : Nat, (p : Int) < (x.1 0 15).toInt → u.1 71 p = x.1 13 p ∧ u.1 72 p = x.1 14 p) ∧ (∀ f : Nat, (f : Int) < (x.1 0 22).toInt → u.1 81 f = x.1 20 f ∧ u.1 82 f = x.1 21 f) ∧ u.1 0 76 = x.1 0 28 ∧ u.1 0 77 = x.1 0 69 := by
  obtain ⟨-, -, -, -, -, ka, w42, hr0, f0, b0, c0, kb, w70, hr1, f1, b1, c1, kc, w110, hr2, f2, b2, c2, kd, w222, hr3, f3, b3, c3, ke, w308, hr4, f4, b4, c4, rfl⟩ := h
  have z0 : (0 : Int32).toInt = 0 := by decide
  obtain ⟨V, hV⟩ : ∃ V, V = (wA (wA (wA (wA (wA x 0 73 (x.1 0 12)) 0 74 (x.1 0 22)) 0 75 (x.1 0 27)) 0 76 (x.1 0 28)) 0 77 (x.1 0 69)) := ⟨_, rfl⟩
  rw [← hV] at f0
  have VA : ∀ a, a ≠ 0 → V.1 a = x.1 a := fun a a0 => by
    rw [hV]
    show (if a = 0 then _ else if a = 0 then _ else if a = 0 then _ else if a = 0 then _ else if a = 0 then _ else x.1 a) = x.1 a
    simp only [if_neg a0]
  have V15 : V.1 0 15 = x.1 0 15 := by rw [hV]; rfl
  have V22 : V.1 0 22 = x.1 0 22 := by rw [hV]; rfl
  have e42 : ∀ a, a ≠ 0 → a ≠ 70 → w42.1 a = x.1 a := fun a a0 a1 => (f0.2.2 a (by simp only [List.mem_cons, List.not_mem_nil, or_false]; exact a1)).trans (VA a a0)
  have k42 : ∀ k, w42.1 0 k = V.1 0 k := fun k => f0.2.1 k (fun q => nomatch q)
  have k70 : ∀ k, w70.1 0 k = w42.1 0 k := fun k => f1.2.1 k (fun q => nomatch q)
  have k110 : ∀ k, w110.1 0 k = w70.1 0 k := fun k => f2.2.1 k (fun q => nomatch q)
  have k222 : ∀ k, w222.1 0 k = w110.1 0 k := fun k => f3.2.1 k (fun q => nomatch q)
  have k308 : ∀ k, w308.1 0 k = w222.1 0 k := fun k => f4.2.1 k (fun q => nomatch q)
  have iO : 0 ≤ kb.toInt ∧ ∀ p : Nat, (p : Int) < kb.toInt → w70.1 71 p = x.1 13 p ∧ w70.1 72 p = x.1 14 p := by
    refine RT.ind (fun (y : Int32 × MS) => 0 ≤ y.1.toInt ∧ ∀ p : Nat, (p : Int) < y.1.toInt → y.2.1 71 p = x.1 13 p ∧ y.2.1 72 p = x.1 14 p) hr1 ⟨by show 0 ≤ (0 : Int32).toInt; omega, fun p hp => absurd (show (p : Int) < (0 : Int32).toInt from hp) (by omega)⟩ ?_
    intro a b _ ⟨g0, g1⟩ hb
    obtain ⟨fa, ba, ca, rfl⟩ := hb
    have ea : (a.1 + (1 : Int32)).toInt = a.1.toInt + 1 := incq ca
    have A : ∀ i, i ≠ 0 → i ≠ 70 → i ∉ [71, 72] → a.2.1 i = x.1 i := fun i i0 i1 hi => (fa.2.2 i hi).trans (e42 i i0 i1)
    refine ⟨by show 0 ≤ (a.1 + (1 : Int32)).toInt; omega, fun f hf => ?_⟩
    have hf : (f : Int) < (a.1 + (1 : Int32)).toInt := hf
    rw [ea] at hf
    constructor
    · show upd (a.2.1 71) a.1.toNatClampNeg ((a.2.1 13) a.1.toNatClampNeg) f = _
      rw [A 13 (by decide) (by decide) (by decide)]
      exact cpy1 g0 (fun f hf => (g1 f hf).1) hf
    · show upd (a.2.1 72) a.1.toNatClampNeg ((a.2.1 14) a.1.toNatClampNeg) f = _
      rw [A 14 (by decide) (by decide) (by decide)]
      exact cpy1 g0 (fun f hf => (g1 f hf).2) hf
  have e70 : ∀ a, a ≠ 0 → a ∉ [70, 71, 72] → w70.1 a = x.1 a := fun a a0 ha => by
    simp only [List.mem_cons, List.not_mem_nil, or_false, not_or] at ha
    rw [f1.2.2 a (by simp only [List.mem_cons, List.not_mem_nil, or_false, not_or]; exact ha.2)]
    exact e42 a a0 ha.1
  have iF : 0 ≤ kc.toInt ∧ ∀ f : Nat, (f : Int) < kc.toInt → w110.1 81 f = x.1 20 f ∧ w110.1 82 f = x.1 21 f := by
    refine RT.ind (fun (y : Int32 × MS) => 0 ≤ y.1.toInt ∧ ∀ p : Nat, (p : Int) < y.1.toInt → y.2.1 81 p = x.1 20 p ∧ y.2.1 82 p = x.1 21 p) hr2 ⟨by show 0 ≤ (0 : Int32).toInt; omega, fun p hp => absurd (show (p : Int) < (0 : Int32).toInt from hp) (by omega)⟩ ?_
    intro a b _ ⟨g0, g1⟩ hb
    obtain ⟨fa, ba, ca, rfl⟩ := hb
    have ea : (a.1 + (1 : Int32)).toInt = a.1.toInt + 1 := incq ca
    refine ⟨by show 0 ≤ (a.1 + (1 : Int32)).toInt; omega, fun f hf => ?_⟩
    have hf : (f : Int) < (a.1 + (1 : Int32)).toInt := hf
    rw [ea] at hf
    constructor
    · show upd (a.2.1 81) a.1.toNatClampNeg ((a.2.1 20) a.1.toNatClampNeg) f = _
      rw [fa.2.2 20 (by decide), e70 20 (by decide) (by decide)]
      exact cpy1 g0 (fun f hf => (g1 f hf).1) hf
    · show upd (a.2.1 82) a.1.toNatClampNeg ((a.2.1 21) a.1.toNatClampNeg) f = _
      rw [fa.2.2 21 (by decide), e70 21 (by decide) (by decide)]
      exact cpy1 g0 (fun f hf => (g1 f hf).2) hf
  have n15 : (x.1 0 15).toInt = (w70.1 0 15).toInt := by rw [k70, k42, V15]
  have n22 : (x.1 0 22).toInt = (w110.1 0 22).toInt := by rw [k110, k70, k42, V22]
  refine ⟨fun p hp => ?_, fun f hf => ?_, ?_, ?_⟩
  · have := iO.2 p (by omega)
    refine ⟨?_, ?_⟩
    · show w308.1 71 p = _
      rw [f4.2.2 71 (by decide), f3.2.2 71 (by decide), f2.2.2 71 (by decide)]
      exact this.1
    · show w308.1 72 p = _
      rw [f4.2.2 72 (by decide), f3.2.2 72 (by decide), f2.2.2 72 (by decide)]
      exact this.2
  · have := iF.2 f (by omega)
    refine ⟨?_, ?_⟩
    · show w308.1 81 f = _
      rw [f4.2.2 81 (by decide), f3.2.2 81 (by decide)]
      exact this.1
    · show w308.1 82 f = _
      rw [f4.2.2 82 (by decide), f3.2.2 82 (by decide)]
      exact this.2
  · show w308.1 0 76 = _
    rw [k308, k222, k110, k70, k42, hV]
    rfl
  · show w308.1 0 77 = _
    rw [k308, k222, k110, k70, k42, hV]
    rfl
/-- the orders are taken over -/
theorem MXq.of (h : Q_m_accept x u) (M : MFq K x evs) (l : (x.1 0 15).toInt = loL evs) : MXq K (x.1 16) u evs := by
  obtain ⟨a1, a2, -, -⟩ := accO h
  obtain ⟨-, j74, j75, -, jG, -⟩ := accJ h
  intro a q b e
  rcases M a q b e with m | ⟨m1, m2⟩
  · exact Or.inl m
  by_cases z : loE q = 0
  · exact Or.inl z
  have ll := congrArg loL e
  rw [loL_app, loL_cons] at ll
  have P := a1 (loL a) (by omega)
  refine Or.inr ⟨by rw [P.1]; exact m1, ?_⟩
  unfold mfA at m2
  unfold mxA
  rw [P.2, j74, j75]
  by_cases c1 : q.1 = 16 ∨ q.1 = 17 ∨ q.1 = 18 ∨ q.1 = 19
  · rw [if_pos c1] at m2 ⊢; exact m2
  rw [if_neg c1] at m2 ⊢
  by_cases c2 : q.1 = 5 ∨ q.1 = 6
  · rw [if_pos c2] at m2 ⊢
    exact ⟨m2.1, by rw [jG.2.1 _ m2.1]; exact m2.2⟩
  rw [if_neg c2] at m2 ⊢
  exact m2
end XDA
