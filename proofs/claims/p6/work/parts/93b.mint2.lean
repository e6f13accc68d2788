/-! what an order finds and leaves, told by its number -/
theorem FT.i0 {nl ng gl : Int} {k : Nat} {o : Int} {a : Int32} {A B : List Bool} (h : FT nl ng gl k o a A B) (ho : o = 0 ∨ o = 17) : B = false :: A := by
  rcases h with h | h | h | h | h | h | h | h | h | h | h | h | h | h | h | h
  all_goals first
    | exact h.2
    | exact h
    | (exfalso; have := h.1; omega)
    | (exfalso; omega)
theorem FT.i1 {nl ng gl : Int} {k : Nat} {o : Int} {a : Int32} {A B : List Bool} (h : FT nl ng gl k o a A B) (ho : o = 1) : 0 ≤ a.toInt ∧ a.toInt < nl ∧ B = false :: A := by
  rcases h with h | h | h | h | h | h | h | h | h | h | h | h | h | h | h | h
  all_goals first
    | exact h.2
    | exact h
    | (exfalso; have := h.1; omega)
    | (exfalso; omega)
theorem FT.i2 {nl ng gl : Int} {k : Nat} {o : Int} {a : Int32} {A B : List Bool} (h : FT nl ng gl k o a A B) (ho : o = 2) : 0 ≤ a.toInt ∧ a.toInt < nl ∧ ∃ R, A = false :: R ∧ B = false :: R := by
  rcases h with h | h | h | h | h | h | h | h | h | h | h | h | h | h | h | h
  all_goals first
    | exact h.2
    | exact h
    | (exfalso; have := h.1; omega)
    | (exfalso; omega)
theorem FT.i3 {nl ng gl : Int} {k : Nat} {o : Int} {a : Int32} {A B : List Bool} (h : FT nl ng gl k o a A B) (ho : o = 3) : 0 ≤ a.toInt ∧ a.toInt < ng ∧ B = false :: A := by
  rcases h with h | h | h | h | h | h | h | h | h | h | h | h | h | h | h | h
  all_goals first
    | exact h.2
    | exact h
    | (exfalso; have := h.1; omega)
    | (exfalso; omega)
theorem FT.i4 {nl ng gl : Int} {k : Nat} {o : Int} {a : Int32} {A B : List Bool} (h : FT nl ng gl k o a A B) (ho : o = 4) : 0 ≤ a.toInt ∧ a.toInt < ng ∧ ∃ R, A = false :: R ∧ B = false :: R := by
  rcases h with h | h | h | h | h | h | h | h | h | h | h | h | h | h | h | h
  all_goals first
    | exact h.2
    | exact h
    | (exfalso; have := h.1; omega)
    | (exfalso; omega)
theorem FT.i5 {nl ng gl : Int} {k : Nat} {o : Int} {a : Int32} {A B : List Bool} (h : FT nl ng gl k o a A B) (ho : o = 5) : 0 ≤ a.toInt ∧ a.toInt < gl ∧ ∃ R, A = false :: R ∧ B = true :: R := by
  rcases h with h | h | h | h | h | h | h | h | h | h | h | h | h | h | h | h
  all_goals first
    | exact h.2
    | exact h
    | (exfalso; have := h.1; omega)
    | (exfalso; omega)
theorem FT.i6 {nl ng gl : Int} {k : Nat} {o : Int} {a : Int32} {A B : List Bool} (h : FT nl ng gl k o a A B) (ho : o = 6) : ∃ R, A = true :: R ∧ B = false :: R := by
  rcases h with h | h | h | h | h | h | h | h | h | h | h | h | h | h | h | h
  all_goals first
    | exact h.2
    | exact h
    | (exfalso; have := h.1; omega)
    | (exfalso; omega)
theorem FT.i7 {nl ng gl : Int} {k : Nat} {o : Int} {a : Int32} {A B : List Bool} (h : FT nl ng gl k o a A B) (ho : o = 7) : ∃ R, A = true :: R ∧ B = false :: true :: R := by
  rcases h with h | h | h | h | h | h | h | h | h | h | h | h | h | h | h | h
  all_goals first
    | exact h.2
    | exact h
    | (exfalso; have := h.1; omega)
    | (exfalso; omega)
theorem FT.i8 {nl ng gl : Int} {k : Nat} {o : Int} {a : Int32} {A B : List Bool} (h : FT nl ng gl k o a A B) (ho : o = 8) : ∃ R, A = false :: true :: R ∧ B = false :: R := by
  rcases h with h | h | h | h | h | h | h | h | h | h | h | h | h | h | h | h
  all_goals first
    | exact h.2
    | exact h
    | (exfalso; have := h.1; omega)
    | (exfalso; omega)
theorem FT.i9 {nl ng gl : Int} {k : Nat} {o : Int} {a : Int32} {A B : List Bool} (h : FT nl ng gl k o a A B) (ho : o = 9 ∨ o = 10 ∨ o = 11 ∨ o = 16 ∨ o = 22 ∨ o = 23) : A = false :: B := by
  rcases h with h | h | h | h | h | h | h | h | h | h | h | h | h | h | h | h
  all_goals first
    | exact h.2
    | exact h
    | (exfalso; have := h.1; omega)
    | (exfalso; omega)
theorem FT.i13 {nl ng gl : Int} {k : Nat} {o : Int} {a : Int32} {A B : List Bool} (h : FT nl ng gl k o a A B) (ho : o = 13) : B = A := by
  rcases h with h | h | h | h | h | h | h | h | h | h | h | h | h | h | h | h
  all_goals first
    | exact h.2
    | exact h
    | (exfalso; have := h.1; omega)
    | (exfalso; omega)
theorem FT.i14 {nl ng gl : Int} {k : Nat} {o : Int} {a : Int32} {A B : List Bool} (h : FT nl ng gl k o a A B) (ho : o = 14) : ∃ R, A = List.replicate k false ++ R ∧ B = false :: R := by
  rcases h with h | h | h | h | h | h | h | h | h | h | h | h | h | h | h | h
  all_goals first
    | exact h.2
    | exact h
    | (exfalso; have := h.1; omega)
    | (exfalso; omega)
theorem FT.i15 {nl ng gl : Int} {k : Nat} {o : Int} {a : Int32} {A B : List Bool} (h : FT nl ng gl k o a A B) (ho : o = 15) : ∃ R, A = false :: R := by
  rcases h with h | h | h | h | h | h | h | h | h | h | h | h | h | h | h | h
  all_goals first
    | exact h.2
    | exact h
    | (exfalso; have := h.1; omega)
    | (exfalso; omega)
theorem FT.i18 {nl ng gl : Int} {k : Nat} {o : Int} {a : Int32} {A B : List Bool} (h : FT nl ng gl k o a A B) (ho : o = 18 ∨ o = 19 ∨ o = 20 ∨ o = 24) : ∃ R, A = false :: R ∧ B = false :: R := by
  rcases h with h | h | h | h | h | h | h | h | h | h | h | h | h | h | h | h
  all_goals first
    | exact h.2
    | exact h
    | (exfalso; have := h.1; omega)
    | (exfalso; omega)
theorem FT.i21 {nl ng gl : Int} {k : Nat} {o : Int} {a : Int32} {A B : List Bool} (h : FT nl ng gl k o a A B) (ho : o = 21) : ∃ R, A = false :: false :: R ∧ B = false :: R := by
  rcases h with h | h | h | h | h | h | h | h | h | h | h | h | h | h | h | h
  all_goals first
    | exact h.2
    | exact h
    | (exfalso; have := h.1; omega)
    | (exfalso; omega)
theorem FT.any {nl ng gl : Int} {k : Nat} {o : Int} {a : Int32} {A B : List Bool} (h : FT nl ng gl k o a A B) : 0 ≤ o ∧ o ≤ 24 := by
  rcases h with h | h | h | h | h | h | h | h | h | h | h | h | h | h | h | h
  all_goals first
    | (have := h.1; omega)
    | omega
section MIK
variable {T : Nat → Nat → TT} {E : Nat → Nat} {h : Nat → Int} {v u : MS} {n k : Nat} {b j j' : Int32}
/-- the numbers that the walker asks for -/
theorem MI.lin (m : MI T E h v j) : 0 ≤ (v.1 0 111).toInt ∧ (v.1 0 111).toInt ≤ (v.1 0 106).toInt ∧ (v.1 0 106).toInt ≤ 8192 ∧ 0 ≤ j.toInt ∧ j.toInt < 16000 ∧ 1 ≤ (v.1 0 110).toInt ∧ (v.1 0 110).toInt ≤ 2048 ∧ 0 ≤ (v.1 0 113).toInt ∧ (v.1 0 113).toInt ≤ (v.1 0 114).toInt ∧ (v.1 0 114).toInt ≤ 20000 ∧ 0 ≤ (v.1 0 119).toInt ∧ (v.1 0 119).toInt ≤ 1000000000 ∧ 0 ≤ (v.1 0 120).toInt ∧ (v.1 0 120).toInt ≤ 1000000000 ∧ (v.1 0 76).toInt ≤ 4096 ∧ 0 ≤ (v.1 0 115).toInt ∧ (v.1 0 115).toInt ≤ 16384 := by
  have nm := m.num
  obtain ⟨p, n1, s, t, e5, e6, bd⟩ := m
  have c8 := SUS.cum8 p s (v.1 0 110).toNatClampNeg (Nat.le_refl _)
  have pg := p.2.2
  obtain ⟨b1, b2, b3, b4, b5, b6, b7⟩ := bd
  omega
theorem MI.ord (m : MI T E h v j) : 0 ≤ (v.1 71 j.toNatClampNeg).toInt ∧ (v.1 71 j.toNatClampNeg).toInt ≤ 24 := m.ft.any
/-- one thing at least lies above the locals -/
theorem MI.len {A : List Bool} (m : MI T E h v j) (e : (T (tfn v).toNatClampNeg j.toNatClampNeg).1 = A) : (v.1 0 106).toInt = (v.1 0 111).toInt + (v.1 82 (tfn v).toNatClampNeg).toInt + (A.length : Int) ∧ PT (v.1 105) (v.1 0 76).toInt ((v.1 0 111).toInt + (v.1 82 (tfn v).toNatClampNeg).toInt).toNat A := by
  rw [← e]; exact ⟨m.2.2.2.1.2.2.1, m.2.2.2.1.2.2.2⟩
theorem MI.c1 (m : MI T E h v j) (e : (v.1 71 j.toNatClampNeg).toInt = 1) : 0 ≤ (v.1 72 j.toNatClampNeg).toInt ∧ (v.1 0 111).toInt + (v.1 72 j.toNatClampNeg).toInt ≤ 8192 := by
  obtain ⟨a1, a2, _⟩ := m.ft.i1 e
  have := m.num
  omega
theorem MI.c2 (m : MI T E h v j) (e : (v.1 71 j.toNatClampNeg).toInt = 2) : 0 ≤ (v.1 72 j.toNatClampNeg).toInt ∧ (v.1 0 111).toInt + (v.1 72 j.toNatClampNeg).toInt < (v.1 0 106).toInt - 0 ∧ 1 ≤ (v.1 0 106).toInt := by
  obtain ⟨a1, a2, R, a3, a4⟩ := m.ft.i2 e
  have l := (m.len a3).1
  have := m.num
  rw [List.length_cons] at l
  omega
theorem MI.c3 (m : MI T E h v j) (e : (v.1 71 j.toNatClampNeg).toInt = 3) : 0 ≤ (v.1 72 j.toNatClampNeg).toInt ∧ (v.1 72 j.toNatClampNeg).toInt < 4096 := by
  obtain ⟨a1, a2, _⟩ := m.ft.i3 e
  have := m.lin
  omega
theorem MI.c4 (m : MI T E h v j) (e : (v.1 71 j.toNatClampNeg).toInt = 4) : 0 ≤ (v.1 72 j.toNatClampNeg).toInt ∧ (v.1 72 j.toNatClampNeg).toInt < 4096 ∧ 1 ≤ (v.1 0 106).toInt := by
  obtain ⟨a1, a2, R, a3, a4⟩ := m.ft.i4 e
  have l := (m.len a3).1
  have := m.num
  have := m.lin
  rw [List.length_cons] at l
  omega
theorem MI.c5 (m : MI T E h v j) (e : (v.1 71 j.toNatClampNeg).toInt = 5) : 0 ≤ (v.1 72 j.toNatClampNeg).toInt ∧ (v.1 72 j.toNatClampNeg).toInt < (v.1 0 75).toInt ∧ 1 ≤ (v.1 0 106).toInt ∧ 0 ≤ (v.1 86 (v.1 72 j.toNatClampNeg).toNatClampNeg).toInt ∧ (v.1 86 (v.1 72 j.toNatClampNeg).toNatClampNeg).toInt + (v.1 85 (v.1 72 j.toNatClampNeg).toNatClampNeg).toInt ≤ 4096 := by
  obtain ⟨a1, a2, R, a3, a4⟩ := m.ft.i5 e
  have l := (m.len a3).1
  have := m.num
  have := m.lin
  have ea := nat_z a1
  have bf := m.1.2.1 (v.1 72 j.toNatClampNeg).toNatClampNeg (by omega)
  rw [List.length_cons] at l
  omega
theorem MI.c6 {x : Int32} (m : MI T E h v j) (e : (v.1 71 j.toNatClampNeg).toInt = 6 ∨ (v.1 71 j.toNatClampNeg).toInt = 7) (hx : x.toInt = (v.1 0 106).toInt - 1) : 1 ≤ (v.1 0 106).toInt ∧ 0 ≤ (v.1 105 x.toNatClampNeg).toInt ∧ (v.1 105 x.toNatClampNeg).toInt < 4096 := by
  have hA : ∃ R, (T (tfn v).toNatClampNeg j.toNatClampNeg).1 = true :: R := by
    rcases e with e | e
    · obtain ⟨R, q, _⟩ := m.ft.i6 e; exact ⟨R, q⟩
    · obtain ⟨R, q, _⟩ := m.ft.i7 e; exact ⟨R, q⟩
  obtain ⟨R, hR⟩ := hA
  obtain ⟨l, p⟩ := m.len hR
  have nm := m.num
  have li := m.lin
  rw [List.length_cons] at l
  have q := p.2 rfl
  have ex := nat_z (x := x) (by omega)
  rw [show ((v.1 0 111).toInt + (v.1 82 (tfn v).toNatClampNeg).toInt).toNat + R.length = x.toNatClampNeg by omega] at q
  omega
theorem MI.c8 {x : Int32} (m : MI T E h v j) (e : (v.1 71 j.toNatClampNeg).toInt = 8) (hx : x.toInt = (v.1 0 106).toInt - 2) : 2 ≤ (v.1 0 106).toInt ∧ 0 ≤ (v.1 105 x.toNatClampNeg).toInt ∧ (v.1 105 x.toNatClampNeg).toInt < 4096 := by
  obtain ⟨R, hR, _⟩ := m.ft.i8 e
  obtain ⟨l, p⟩ := m.len hR
  have nm := m.num
  have li := m.lin
  rw [List.length_cons, List.length_cons] at l
  have q := p.1.2 rfl
  have ex := nat_z (x := x) (by omega)
  rw [show ((v.1 0 111).toInt + (v.1 82 (tfn v).toNatClampNeg).toInt).toNat + R.length = x.toNatClampNeg by omega] at q
  omega
theorem MI.c9 (m : MI T E h v j) (e : (v.1 71 j.toNatClampNeg).toInt = 9 ∨ (v.1 71 j.toNatClampNeg).toInt = 10 ∨ (v.1 71 j.toNatClampNeg).toInt = 11 ∨ (v.1 71 j.toNatClampNeg).toInt = 16 ∨ (v.1 71 j.toNatClampNeg).toInt = 22 ∨ (v.1 71 j.toNatClampNeg).toInt = 23) : 1 ≤ (v.1 0 106).toInt := by
  have l := (m.len (m.ft.i9 e)).1
  have := m.num
  rw [List.length_cons] at l
  omega
theorem MI.c15 (m : MI T E h v j) (e : (v.1 71 j.toNatClampNeg).toInt = 15) : 1 ≤ (v.1 0 106).toInt := by
  obtain ⟨R, hR⟩ := m.ft.i15 e
  have l := (m.len hR).1
  have := m.num
  rw [List.length_cons] at l
  omega
theorem MI.c18 (m : MI T E h v j) (e : (v.1 71 j.toNatClampNeg).toInt = 18 ∨ (v.1 71 j.toNatClampNeg).toInt = 19 ∨ (v.1 71 j.toNatClampNeg).toInt = 20 ∨ (v.1 71 j.toNatClampNeg).toInt = 24) : 1 ≤ (v.1 0 106).toInt := by
  obtain ⟨R, hR, _⟩ := m.ft.i18 e
  have l := (m.len hR).1
  have := m.num
  rw [List.length_cons] at l
  omega
theorem MI.c21 (m : MI T E h v j) (e : (v.1 71 j.toNatClampNeg).toInt = 21) : 2 ≤ (v.1 0 106).toInt := by
  obtain ⟨R, hR, _⟩ := m.ft.i21 e
  have l := (m.len hR).1
  have := m.num
  rw [List.length_cons, List.length_cons] at l
  omega
/-- a step to the next place -/
theorem MI.st {B : List Bool} (m : MI T E h v j) (h12 : (v.1 71 j.toNatClampNeg).toInt ≠ 12) (h15 : (v.1 71 j.toNatClampNeg).toInt ≠ 15) (h13 : (v.1 71 j.toNatClampNeg).toInt ≠ 13) (hj : j'.toInt = j.toInt + 1) (hB : (T (tfn v).toNatClampNeg (j.toNatClampNeg + 1)).1 = B) (F : ∀ k ∈ [74, 75, 76, 110, 111, 113, 114, 115], u.1 0 k = v.1 0 k) (G : ∀ k ∈ [71, 72, 78, 79, 81, 82, 85, 86, 107, 108, 109], u.1 k = v.1 k) (hp : (u.1 0 106).toInt = (v.1 0 111).toInt + (v.1 82 (tfn v).toNatClampNeg).toInt + (B.length : Int))
    (hpt : PT (u.1 105) (v.1 0 76).toInt ((v.1 0 111).toInt + (v.1 82 (tfn v).toNatClampNeg).toInt).toNat B) (hk : ∀ i : Nat, (i : Int) < (v.1 0 111).toInt → u.1 105 i = v.1 105 i) (h119 : 0 ≤ (u.1 0 119).toInt ∧ (u.1 0 119).toInt ≤ (v.1 0 119).toInt + 1) (h120 : 0 ≤ (u.1 0 120).toInt ∧ (u.1 0 120).toInt ≤ (v.1 0 120).toInt + 1) : MI T E h u j' ∧ PHI T u j' < PHI T v j := by
  obtain ⟨x1, x2, x3, x4⟩ := m.nx (j' := j') h12 h15 hj
  exact m.go F G x2 x3 (by rw [x1]; exact hB) hp hpt hk (x4.resolve_right h13) h119 h120
/-- something is pushed -/
theorem MI.psh (m : MI T E h v j) (e : (v.1 71 j.toNatClampNeg).toInt = 0 ∨ (v.1 71 j.toNatClampNeg).toInt = 17 ∨ (v.1 71 j.toNatClampNeg).toInt = 1 ∨ (v.1 71 j.toNatClampNeg).toInt = 3) (hj : j'.toInt = j.toInt + 1) (F : ∀ k ∈ [74, 75, 76, 110, 111, 113, 114, 115], u.1 0 k = v.1 0 k) (G : ∀ k ∈ [71, 72, 78, 79, 81, 82, 85, 86, 107, 108, 109], u.1 k = v.1 k) (e106 : (u.1 0 106).toInt = (v.1 0 106).toInt + 1) (k105 : ∀ i : Nat, (i : Int) < (v.1 0 106).toInt → u.1 105 i = v.1 105 i) (h119 : 0 ≤ (u.1 0 119).toInt ∧ (u.1 0 119).toInt ≤ (v.1 0 119).toInt + 1) (h120 : 0 ≤ (u.1 0 120).toInt ∧ (u.1 0 120).toInt ≤ (v.1 0 120).toInt + 1) : MI T E h u j' ∧ PHI T u j' < PHI T v j := by
  have hB : (T (tfn v).toNatClampNeg (j.toNatClampNeg + 1)).1 = false :: (T (tfn v).toNatClampNeg j.toNatClampNeg).1 := by
    rcases e with e | e | e | e
    · exact m.ft.i0 (Or.inl e)
    · exact m.ft.i0 (Or.inr e)
    · exact (m.ft.i1 e).2.2
    · exact (m.ft.i3 e).2.2
  obtain ⟨l, p⟩ := m.len rfl
  have nm := m.num
  exact m.st (by omega) (by omega) (by omega) hj hB F G (by rw [List.length_cons]; omega) (p.keep (fun i h1 h2 => k105 i (by omega))).f (fun i hi => k105 i (by omega)) h119 h120
/-- the topmost is replaced by a number -/
theorem MI.rep {R : List Bool} {x : Bool} (m : MI T E h v j) (hA : (T (tfn v).toNatClampNeg j.toNatClampNeg).1 = x :: R) (hB : (T (tfn v).toNatClampNeg (j.toNatClampNeg + 1)).1 = false :: R) (h12 : (v.1 71 j.toNatClampNeg).toInt ≠ 12) (h15 : (v.1 71 j.toNatClampNeg).toInt ≠ 15) (h13 : (v.1 71 j.toNatClampNeg).toInt ≠ 13) (hj : j'.toInt = j.toInt + 1) (F : ∀ k ∈ [74, 75, 76, 110, 111, 113, 114, 115], u.1 0 k = v.1 0 k) (G : ∀ k ∈ [71, 72, 78, 79, 81, 82, 85, 86, 107, 108, 109], u.1 k = v.1 k) (e106 : (u.1 0 106).toInt = (v.1 0 106).toInt)
    (k105 : ∀ i : Nat, (i : Int) + 1 < (v.1 0 106).toInt → ((i : Int) < (v.1 0 111).toInt ∨ (v.1 0 111).toInt + (v.1 82 (tfn v).toNatClampNeg).toInt ≤ (i : Int)) → u.1 105 i = v.1 105 i) (h119 : 0 ≤ (u.1 0 119).toInt ∧ (u.1 0 119).toInt ≤ (v.1 0 119).toInt + 1) (h120 : 0 ≤ (u.1 0 120).toInt ∧ (u.1 0 120).toInt ≤ (v.1 0 120).toInt + 1) : MI T E h u j' ∧ PHI T u j' < PHI T v j := by
  obtain ⟨l, p⟩ := m.len hA
  have nm := m.num
  rw [List.length_cons] at l
  exact m.st h12 h15 h13 hj hB F G (by rw [List.length_cons]; omega) (p.1.keep (fun i h1 h2 => k105 i (by omega) (Or.inr (by omega)))).f (fun i hi => k105 i (by omega) (Or.inl hi)) h119 h120
/-- the topmost goes, to a place that has the type of what is left -/
theorem MI.pop1 {B : List Bool} (m : MI T E h v j) (hA : (T (tfn v).toNatClampNeg j.toNatClampNeg).1 = false :: B) (h1 : (v.1 81 (tfn v).toNatClampNeg).toInt ≤ j'.toInt) (h2 : j'.toInt < (E (tfn v).toNatClampNeg : Int)) (hB : (T (tfn v).toNatClampNeg j'.toNatClampNeg).1 = B) (hr : RK (v.1 71) (T (tfn v).toNatClampNeg) j'.toNatClampNeg < RK (v.1 71) (T (tfn v).toNatClampNeg) j.toNatClampNeg)
    (F : ∀ k ∈ [74, 75, 76, 110, 111, 113, 114, 115], u.1 0 k = v.1 0 k) (G : ∀ k ∈ [71, 72, 78, 79, 81, 82, 85, 86, 107, 108, 109], u.1 k = v.1 k) (e106 : (u.1 0 106).toInt = (v.1 0 106).toInt - 1) (k105 : ∀ i : Nat, (i : Int) + 1 < (v.1 0 106).toInt → u.1 105 i = v.1 105 i) (h119 : 0 ≤ (u.1 0 119).toInt ∧ (u.1 0 119).toInt ≤ (v.1 0 119).toInt + 1) (h120 : 0 ≤ (u.1 0 120).toInt ∧ (u.1 0 120).toInt ≤ (v.1 0 120).toInt + 1) : MI T E h u j' ∧ PHI T u j' < PHI T v j := by
  obtain ⟨l, p⟩ := m.len hA
  have nm := m.num
  rw [List.length_cons] at l
  exact m.go F G h1 h2 hB (by omega) (p.1.keep (fun i h1 h2 => k105 i (by omega))) (fun i hi => k105 i (by omega)) hr h119 h120
/-- popped, and on -/
theorem MI.popN (m : MI T E h v j) (e : (v.1 71 j.toNatClampNeg).toInt = 9 ∨ (v.1 71 j.toNatClampNeg).toInt = 10 ∨ (v.1 71 j.toNatClampNeg).toInt = 11 ∨ (v.1 71 j.toNatClampNeg).toInt = 16 ∨ (v.1 71 j.toNatClampNeg).toInt = 22 ∨ (v.1 71 j.toNatClampNeg).toInt = 23) (hj : j'.toInt = j.toInt + 1) (F : ∀ k ∈ [74, 75, 76, 110, 111, 113, 114, 115], u.1 0 k = v.1 0 k) (G : ∀ k ∈ [71, 72, 78, 79, 81, 82, 85, 86, 107, 108, 109], u.1 k = v.1 k) (e106 : (u.1 0 106).toInt = (v.1 0 106).toInt - 1) (k105 : ∀ i : Nat, (i : Int) + 1 < (v.1 0 106).toInt → u.1 105 i = v.1 105 i) (h119 : 0 ≤ (u.1 0 119).toInt ∧ (u.1 0 119).toInt ≤ (v.1 0 119).toInt + 1) (h120 : 0 ≤ (u.1 0 120).toInt ∧ (u.1 0 120).toInt ≤ (v.1 0 120).toInt + 1) : MI T E h u j' ∧ PHI T u j' < PHI T v j := by
  obtain ⟨x1, x2, x3, x4⟩ := m.nx (j' := j') (by omega) (by omega) hj
  exact m.pop1 (m.ft.i9 e) x2 x3 (by rw [x1]) (x4.resolve_right (by omega)) F G e106 k105 h119 h120
/-- popped, and a jump -/
theorem MI.popJ (m : MI T E h v j) (e : (v.1 71 j.toNatClampNeg).toInt = 10 ∨ (v.1 71 j.toNatClampNeg).toInt = 11) (F : ∀ k ∈ [74, 75, 76, 110, 111, 113, 114, 115], u.1 0 k = v.1 0 k) (G : ∀ k ∈ [71, 72, 78, 79, 81, 82, 85, 86, 107, 108, 109], u.1 k = v.1 k) (e106 : (u.1 0 106).toInt = (v.1 0 106).toInt - 1) (k105 : ∀ i : Nat, (i : Int) + 1 < (v.1 0 106).toInt → u.1 105 i = v.1 105 i) (h119 : 0 ≤ (u.1 0 119).toInt ∧ (u.1 0 119).toInt ≤ (v.1 0 119).toInt + 1) (h120 : 0 ≤ (u.1 0 120).toInt ∧ (u.1 0 120).toInt ≤ (v.1 0 120).toInt + 1) : MI T E h u (v.1 72 j.toNatClampNeg) ∧ PHI T u (v.1 72 j.toNatClampNeg) < PHI T v j := by
  have hA := m.ft.i9 (by omega)
  obtain ⟨x1, x2, x3, x4⟩ := m.jp (Or.inl ⟨e, hA⟩)
  exact m.pop1 hA x2 x3 x1 x4 F G e106 k105 h119 h120
/-- a jump, the pile as it is (or its topmost number another) -/
theorem MI.jmp (m : MI T E h v j) (e : (v.1 71 j.toNatClampNeg).toInt = 12 ∨ (v.1 71 j.toNatClampNeg).toInt = 22 ∨ (v.1 71 j.toNatClampNeg).toInt = 23) (F : ∀ k ∈ [74, 75, 76, 110, 111, 113, 114, 115], u.1 0 k = v.1 0 k) (G : ∀ k ∈ [71, 72, 78, 79, 81, 82, 85, 86, 107, 108, 109], u.1 k = v.1 k) (e106 : (u.1 0 106).toInt = (v.1 0 106).toInt) (k105 : ∀ i : Nat, ((i : Int) + 1 < (v.1 0 106).toInt ∨ (v.1 71 j.toNatClampNeg).toInt = 12) → u.1 105 i = v.1 105 i) (h119 : 0 ≤ (u.1 0 119).toInt ∧ (u.1 0 119).toInt ≤ (v.1 0 119).toInt + 1) (h120 : 0 ≤ (u.1 0 120).toInt ∧ (u.1 0 120).toInt ≤ (v.1 0 120).toInt + 1) : MI T E h u (v.1 72 j.toNatClampNeg) ∧ PHI T u (v.1 72 j.toNatClampNeg) < PHI T v j := by
  obtain ⟨x1, x2, x3, x4⟩ := m.jp (Or.inr ⟨e, rfl⟩)
  obtain ⟨l, p⟩ := m.len rfl
  have nm := m.num
  refine m.go F G x2 x3 x1 (by omega) ?_ (fun i hi => ?_) x4 h119 h120
  · by_cases w : (v.1 71 j.toNatClampNeg).toInt = 12
    · exact p.keep (fun i _ _ => k105 i (Or.inr w))
    · have hA := m.ft.i9 (by omega)
      rw [hA] at p l ⊢
      rw [List.length_cons] at l
      exact (p.1.keep (fun i h1 h2 => k105 i (Or.inl (by omega)))).f
  · by_cases w : (v.1 71 j.toNatClampNeg).toInt = 12
    · exact k105 i (Or.inr w)
    · have hA := m.ft.i9 (by omega)
      rw [hA, List.length_cons] at l
      exact k105 i (Or.inl (by omega))
/-- a place is made, its number above the topmost's cell -/
theorem MI.plc (m : MI T E h v j) (e : (v.1 71 j.toNatClampNeg).toInt = 5) (hj : j'.toInt = j.toInt + 1) (F : ∀ k ∈ [74, 75, 76, 110, 111, 113, 114, 115], u.1 0 k = v.1 0 k) (G : ∀ k ∈ [71, 72, 78, 79, 81, 82, 85, 86, 107, 108, 109], u.1 k = v.1 k) (e106 : (u.1 0 106).toInt = (v.1 0 106).toInt) (k105 : ∀ i : Nat, (i : Int) + 1 < (v.1 0 106).toInt → u.1 105 i = v.1 105 i) {x y : Int32} (hx : x.toInt = (v.1 0 106).toInt - 1) (hy : u.1 105 x.toNatClampNeg = y) (hy0 : 0 ≤ y.toInt) (hy1 : y.toInt < (v.1 86 (v.1 72 j.toNatClampNeg).toNatClampNeg).toInt + (v.1 85 (v.1 72 j.toNatClampNeg).toNatClampNeg).toInt) (h119 : 0 ≤ (u.1 0 119).toInt ∧ (u.1 0 119).toInt ≤ (v.1 0 119).toInt + 1) (h120 : 0 ≤ (u.1 0 120).toInt ∧ (u.1 0 120).toInt ≤ (v.1 0 120).toInt + 1) : MI T E h u j' ∧ PHI T u j' < PHI T v j := by
  obtain ⟨a1, a2, R, a3, a4⟩ := m.ft.i5 e
  obtain ⟨l, p⟩ := m.len a3
  have nm := m.num
  have ea := nat_z a1
  have bf := m.1.2.1 (v.1 72 j.toNatClampNeg).toNatClampNeg (by omega)
  rw [List.length_cons] at l
  have ex := nat_z (x := x) (by omega)
  refine m.st (by omega) (by omega) (by omega) hj a4 F G (by rw [List.length_cons]; omega) ⟨p.1.keep (fun i h1 h2 => k105 i (by omega)), fun _ => ?_⟩ (fun i hi => k105 i (by omega)) h119 h120
  rw [show ((v.1 0 111).toInt + (v.1 82 (tfn v).toNatClampNeg).toInt).toNat + R.length = x.toNatClampNeg by omega, hy]
  omega
/-- what lies at a place is pushed above it -/
theorem MI.kat (m : MI T E h v j) (e : (v.1 71 j.toNatClampNeg).toInt = 7) (hj : j'.toInt = j.toInt + 1) (F : ∀ k ∈ [74, 75, 76, 110, 111, 113, 114, 115], u.1 0 k = v.1 0 k) (G : ∀ k ∈ [71, 72, 78, 79, 81, 82, 85, 86, 107, 108, 109], u.1 k = v.1 k) (e106 : (u.1 0 106).toInt = (v.1 0 106).toInt + 1) (k105 : ∀ i : Nat, (i : Int) < (v.1 0 106).toInt → u.1 105 i = v.1 105 i) (h119 : 0 ≤ (u.1 0 119).toInt ∧ (u.1 0 119).toInt ≤ (v.1 0 119).toInt + 1) (h120 : 0 ≤ (u.1 0 120).toInt ∧ (u.1 0 120).toInt ≤ (v.1 0 120).toInt + 1) : MI T E h u j' ∧ PHI T u j' < PHI T v j := by
  obtain ⟨R, a3, a4⟩ := m.ft.i7 e
  obtain ⟨l, p⟩ := m.len a3
  have nm := m.num
  exact m.st (by omega) (by omega) (by omega) hj a4 F G (by rw [List.length_cons]; omega) (p.keep (fun i h1 h2 => k105 i (by omega))).f (fun i hi => k105 i (by omega)) h119 h120
/-- two go, a number comes -/
theorem MI.two {x y : Bool} {R : List Bool} (m : MI T E h v j) (hA : (T (tfn v).toNatClampNeg j.toNatClampNeg).1 = x :: y :: R) (hB : (T (tfn v).toNatClampNeg (j.toNatClampNeg + 1)).1 = false :: R) (e : (v.1 71 j.toNatClampNeg).toInt = 8 ∨ (v.1 71 j.toNatClampNeg).toInt = 21) (hj : j'.toInt = j.toInt + 1) (F : ∀ k ∈ [74, 75, 76, 110, 111, 113, 114, 115], u.1 0 k = v.1 0 k) (G : ∀ k ∈ [71, 72, 78, 79, 81, 82, 85, 86, 107, 108, 109], u.1 k = v.1 k) (e106 : (u.1 0 106).toInt = (v.1 0 106).toInt - 1) (k105 : ∀ i : Nat, (i : Int) + 2 < (v.1 0 106).toInt → u.1 105 i = v.1 105 i) (h119 : 0 ≤ (u.1 0 119).toInt ∧ (u.1 0 119).toInt ≤ (v.1 0 119).toInt + 1) (h120 : 0 ≤ (u.1 0 120).toInt ∧ (u.1 0 120).toInt ≤ (v.1 0 120).toInt + 1) : MI T E h u j' ∧ PHI T u j' < PHI T v j := by
  obtain ⟨l, p⟩ := m.len hA
  have nm := m.num
  rw [List.length_cons, List.length_cons] at l
  exact m.st (by omega) (by omega) (by omega) hj hB F G (by rw [List.length_cons]; omega) (p.1.1.keep (fun i h1 h2 => k105 i (by omega))).f (fun i hi => k105 i (by omega)) h119 h120
theorem MI.r2 (m : MI T E h v j) (e : (v.1 71 j.toNatClampNeg).toInt = 2) (hj : j'.toInt = j.toInt + 1) (F : ∀ k ∈ [74, 75, 76, 110, 111, 113, 114, 115], u.1 0 k = v.1 0 k) (G : ∀ k ∈ [71, 72, 78, 79, 81, 82, 85, 86, 107, 108, 109], u.1 k = v.1 k) (e106 : (u.1 0 106).toInt = (v.1 0 106).toInt) (k105 : ∀ i : Nat, (i : Int) + 1 < (v.1 0 106).toInt → ((i : Int) < (v.1 0 111).toInt ∨ (v.1 0 111).toInt + (v.1 82 (tfn v).toNatClampNeg).toInt ≤ (i : Int)) → u.1 105 i = v.1 105 i) (h119 : 0 ≤ (u.1 0 119).toInt ∧ (u.1 0 119).toInt ≤ (v.1 0 119).toInt + 1) (h120 : 0 ≤ (u.1 0 120).toInt ∧ (u.1 0 120).toInt ≤ (v.1 0 120).toInt + 1) : MI T E h u j' ∧ PHI T u j' < PHI T v j := by
  obtain ⟨_, _, R, a3, a4⟩ := m.ft.i2 e
  exact m.rep a3 a4 (by omega) (by omega) (by omega) hj F G e106 k105 h119 h120
theorem MI.r4 (m : MI T E h v j) (e : (v.1 71 j.toNatClampNeg).toInt = 4) (hj : j'.toInt = j.toInt + 1) (F : ∀ k ∈ [74, 75, 76, 110, 111, 113, 114, 115], u.1 0 k = v.1 0 k) (G : ∀ k ∈ [71, 72, 78, 79, 81, 82, 85, 86, 107, 108, 109], u.1 k = v.1 k) (e106 : (u.1 0 106).toInt = (v.1 0 106).toInt) (k105 : ∀ i : Nat, (i : Int) + 1 < (v.1 0 106).toInt → ((i : Int) < (v.1 0 111).toInt ∨ (v.1 0 111).toInt + (v.1 82 (tfn v).toNatClampNeg).toInt ≤ (i : Int)) → u.1 105 i = v.1 105 i) (h119 : 0 ≤ (u.1 0 119).toInt ∧ (u.1 0 119).toInt ≤ (v.1 0 119).toInt + 1) (h120 : 0 ≤ (u.1 0 120).toInt ∧ (u.1 0 120).toInt ≤ (v.1 0 120).toInt + 1) : MI T E h u j' ∧ PHI T u j' < PHI T v j := by
  obtain ⟨_, _, R, a3, a4⟩ := m.ft.i4 e
  exact m.rep a3 a4 (by omega) (by omega) (by omega) hj F G e106 k105 h119 h120
theorem MI.r6 (m : MI T E h v j) (e : (v.1 71 j.toNatClampNeg).toInt = 6) (hj : j'.toInt = j.toInt + 1) (F : ∀ k ∈ [74, 75, 76, 110, 111, 113, 114, 115], u.1 0 k = v.1 0 k) (G : ∀ k ∈ [71, 72, 78, 79, 81, 82, 85, 86, 107, 108, 109], u.1 k = v.1 k) (e106 : (u.1 0 106).toInt = (v.1 0 106).toInt) (k105 : ∀ i : Nat, (i : Int) + 1 < (v.1 0 106).toInt → u.1 105 i = v.1 105 i) (h119 : 0 ≤ (u.1 0 119).toInt ∧ (u.1 0 119).toInt ≤ (v.1 0 119).toInt + 1) (h120 : 0 ≤ (u.1 0 120).toInt ∧ (u.1 0 120).toInt ≤ (v.1 0 120).toInt + 1) : MI T E h u j' ∧ PHI T u j' < PHI T v j := by
  obtain ⟨R, a3, a4⟩ := m.ft.i6 e
  exact m.rep a3 a4 (by omega) (by omega) (by omega) hj F G e106 (fun i hi _ => k105 i hi) h119 h120
theorem MI.r18 (m : MI T E h v j) (e : (v.1 71 j.toNatClampNeg).toInt = 18 ∨ (v.1 71 j.toNatClampNeg).toInt = 19 ∨ (v.1 71 j.toNatClampNeg).toInt = 20 ∨ (v.1 71 j.toNatClampNeg).toInt = 24) (hj : j'.toInt = j.toInt + 1) (F : ∀ k ∈ [74, 75, 76, 110, 111, 113, 114, 115], u.1 0 k = v.1 0 k) (G : ∀ k ∈ [71, 72, 78, 79, 81, 82, 85, 86, 107, 108, 109], u.1 k = v.1 k) (e106 : (u.1 0 106).toInt = (v.1 0 106).toInt) (k105 : ∀ i : Nat, (i : Int) + 1 < (v.1 0 106).toInt → u.1 105 i = v.1 105 i) (h119 : 0 ≤ (u.1 0 119).toInt ∧ (u.1 0 119).toInt ≤ (v.1 0 119).toInt + 1) (h120 : 0 ≤ (u.1 0 120).toInt ∧ (u.1 0 120).toInt ≤ (v.1 0 120).toInt + 1) : MI T E h u j' ∧ PHI T u j' < PHI T v j := by
  obtain ⟨R, a3, a4⟩ := m.ft.i18 e
  exact m.rep a3 a4 (by omega) (by omega) (by omega) hj F G e106 (fun i hi _ => k105 i hi) h119 h120
theorem MI.t8 (m : MI T E h v j) (e : (v.1 71 j.toNatClampNeg).toInt = 8) (hj : j'.toInt = j.toInt + 1) (F : ∀ k ∈ [74, 75, 76, 110, 111, 113, 114, 115], u.1 0 k = v.1 0 k) (G : ∀ k ∈ [71, 72, 78, 79, 81, 82, 85, 86, 107, 108, 109], u.1 k = v.1 k) (e106 : (u.1 0 106).toInt = (v.1 0 106).toInt - 1) (k105 : ∀ i : Nat, (i : Int) + 2 < (v.1 0 106).toInt → u.1 105 i = v.1 105 i) (h119 : 0 ≤ (u.1 0 119).toInt ∧ (u.1 0 119).toInt ≤ (v.1 0 119).toInt + 1) (h120 : 0 ≤ (u.1 0 120).toInt ∧ (u.1 0 120).toInt ≤ (v.1 0 120).toInt + 1) : MI T E h u j' ∧ PHI T u j' < PHI T v j := by
  obtain ⟨R, a3, a4⟩ := m.ft.i8 e
  exact m.two a3 a4 (by omega) hj F G e106 k105 h119 h120
theorem MI.t21 (m : MI T E h v j) (e : (v.1 71 j.toNatClampNeg).toInt = 21) (hj : j'.toInt = j.toInt + 1) (F : ∀ k ∈ [74, 75, 76, 110, 111, 113, 114, 115], u.1 0 k = v.1 0 k) (G : ∀ k ∈ [71, 72, 78, 79, 81, 82, 85, 86, 107, 108, 109], u.1 k = v.1 k) (e106 : (u.1 0 106).toInt = (v.1 0 106).toInt - 1) (k105 : ∀ i : Nat, (i : Int) + 2 < (v.1 0 106).toInt → u.1 105 i = v.1 105 i) (h119 : 0 ≤ (u.1 0 119).toInt ∧ (u.1 0 119).toInt ≤ (v.1 0 119).toInt + 1) (h120 : 0 ≤ (u.1 0 120).toInt ∧ (u.1 0 120).toInt ≤ (v.1 0 120).toInt + 1) : MI T E h u j' ∧ PHI T u j' < PHI T v j := by
  obtain ⟨R, a3, a4⟩ := m.ft.i21 e
  exact m.two a3 a4 (by omega) hj F G e106 k105 h119 h120
theorem MI.loc (m : MI T E h v j) (e : (v.1 71 j.toNatClampNeg).toInt = 2) {x : Int32} (hx : x.toInt = (v.1 0 111).toInt + (v.1 72 j.toNatClampNeg).toInt) {y : Int32} (i : Nat) (hi : (i : Int) < (v.1 0 111).toInt ∨ (v.1 0 111).toInt + (v.1 82 (tfn v).toNatClampNeg).toInt ≤ (i : Int)) : upd (v.1 105) x.toNatClampNeg y i = v.1 105 i := by
  obtain ⟨a1, a2, _⟩ := m.ft.i2 e
  have nm := m.num
  have ex := nat_z (x := x) (by omega)
  exact pk_un (by omega)
/-- a turn -/
theorem MI.trn (m : MI T E h v j) (e : (v.1 71 j.toNatClampNeg).toInt = 13) (hj : j'.toInt = j.toInt + 1) (F : ∀ k ∈ [74, 75, 76, 106, 110, 111, 114, 115, 119, 120], u.1 0 k = v.1 0 k) (G : ∀ k ∈ [71, 72, 78, 79, 81, 82, 85, 86, 105, 107, 108, 109], u.1 k = v.1 k) (e113 : (u.1 0 113).toInt = (v.1 0 113).toInt + 1) (h113 : (u.1 0 113).toInt ≤ (u.1 0 114).toInt) : MI T E h u j' ∧ PHI T u j' < PHI T v j := by
  obtain ⟨x1, x2, x3, x4⟩ := m.nx (j' := j') (by omega) (by omega) hj
  have hB := m.ft.i13 e
  have nm := m.num
  obtain ⟨l, q⟩ := m.len rfl
  obtain ⟨p, n1, s, t, e5, e6, bd⟩ := m
  have et : tfn u = tfn v := by unfold tfn; rw [F 110 (by decide), G 109 (by decide)]
  have c := (p.at (s.1 ((v.1 0 110).toNatClampNeg - 1) (by have := nat_z (x := v.1 0 110) (by omega); omega)).1 (s.1 ((v.1 0 110).toNatClampNeg - 1) (by have := nat_z (x := v.1 0 110) (by omega); omega)).2).2
  have ej' := nat_z (x := j') (by omega)
  have r1 := (RK.r (o := v.1 71) (τ := T (tfn v).toNatClampNeg) (j := j'.toNatClampNeg) (by unfold tfn at x3; omega)).2
  have r0 : RK (v.1 71) (T (tfn v).toNatClampNeg) j.toNatClampNeg = 0 := if_pos e
  have eP : PHI T u j' < PHI T v j := by
    unfold PHI
    rw [et, F 110 (by decide), e113, F 114 (by decide), G 71 (by decide), G 109 (by decide), G 107 (by decide), r0]
    have : ((v.1 0 114).toInt - ((v.1 0 113).toInt + 1)) * 40001 = ((v.1 0 114).toInt - (v.1 0 113).toInt) * 40001 - 40001 := by rw [Int.sub_mul, Int.sub_mul, Int.add_mul]; omega
    omega
  refine ⟨⟨p.same (fun k hk => F k (by simp at hk ⊢; omega)) (fun k hk => G k (by simp at hk ⊢; omega)), by rw [F 110 (by decide)]; exact n1, ?_, ?_, ?_, by rw [F 115 (by decide)]; exact e6, ?_⟩, eP⟩
  · rw [F 110 (by decide), F 111 (by decide)]
    exact s.same p (fun k hk => F k (by simp at hk ⊢; omega)) (fun k hk => G k (by simp at hk ⊢; omega)) (fun i _ => by rw [G 109 (by decide)]) (fun i _ => by rw [G 107 (by decide)]) (fun i _ => by rw [G 108 (by decide)]) (fun i _ => by rw [G 105 (by decide)])
  · unfold TOPF
    rw [et, G 81 (by decide), G 82 (by decide), G 105 (by decide), F 111 (by decide), F 106 (by decide), F 76 (by decide), x1, hB]
    exact ⟨x2, x3, l, q⟩
  · rw [F 115 (by decide), F 110 (by decide), G 79 (by decide), G 109 (by decide)]; exact e5
  · obtain ⟨b1, b2, b3, b4, b5, b6, b7⟩ := bd
    refine ⟨by omega, h113, by rw [F 114 (by decide)]; exact b3, by rw [F 119 (by decide)]; exact b4, by rw [F 119 (by decide)]; omega, by rw [F 120 (by decide)]; exact b6, by rw [F 120 (by decide)]; omega⟩
end MIK
