theorem AR.frH {fl al : List Nat} {v u : MS} {a : Nat} {lo hi : Int} (h : FH fl al v u) (ha : a ∉ al) (k : AR a lo hi v) : AR a lo hi u := fun j => by rw [h.2.2 a ha]; exact k j
theorem FX.frH {fl al : List Nat} {v u : MS} (h : FH fl al v u) (h1 : 41 ∉ al) (h2 : 42 ∉ al) (k : FX v) : FX u := fun j => by rw [h.2.2 41 h1, h.2.2 42 h2]; exact k j
theorem FH.ti {fl al : List Nat} {v u : MS} (h : FH fl al v u) (h7 : 7 ∉ al) (h8 : 8 ∉ al) (k : TI v) : TI u := fun j => by rw [h.2.2 7 h7, h.2.2 8 h8]; exact k j
theorem GF.frH {fl al : List Nat} {v u : MS} (h : FH fl al v u) (h1 : 27 ∉ fl ∧ 28 ∉ fl) (h2 : 24 ∉ al ∧ 25 ∉ al) (k : GF v) : GF u := fun g hg => by
  rw [h.2.1 27 h1.1] at hg
  rw [h.2.1 28 h1.2, h.2.2 24 h2.1, h.2.2 25 h2.2]; exact k g hg
