theorem all11 {P : Nat → Prop} (a : P 15) (b : P 27) (c : P 28) (d : P 33) (e : P 34) (f : P 39) (g : P 52) (h : P 54) (i : P 55) (j : P 56) (l : P 58) : ∀ k ∈ [15, 27, 28, 33, 34, 39, 52, 54, 55, 56, 58], P k := fun k hk => by
  rcases mem11 hk with rfl | rfl | rfl | rfl | rfl | rfl | rfl | rfl | rfl | rfl | rfl <;> assumption
theorem all8 {P : Nat → Prop} (a : P 13) (b : P 14) (c : P 36) (d : P 38) (e : P 62) (f : P 63) (g : P 64) (h : P 66) : ∀ k ∈ [13, 14, 36, 38, 62, 63, 64, 66], P k := fun k hk => by
  rcases mem8 hk with rfl | rfl | rfl | rfl | rfl | rfl | rfl | rfl <;> assumption
