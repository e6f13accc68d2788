theorem AR.o {a b : Nat} {lo hi : Int} {v : MS} {i : Nat} {x : Int32} (h : AR a lo hi v) (hb : a ≠ b) : AR a lo hi (wA v b i x) := fun j => by
  have e : (wA v b i x).1 a = v.1 a := if_neg hb
  rw [e]; exact h j
theorem FX.o {b : Nat} {v : MS} {i : Nat} {x : Int32} (h : FX v) (h1 : 41 ≠ b) (h2 : 42 ≠ b) : FX (wA v b i x) := fun j => by
  have e1 : (wA v b i x).1 41 = v.1 41 := if_neg h1
  have e2 : (wA v b i x).1 42 = v.1 42 := if_neg h2
  rw [e1, e2]; exact h j
