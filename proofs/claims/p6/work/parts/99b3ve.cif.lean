/-! the class's deeds: if -/
section VEI
variable {L1 L2 : List Nat} {P : Int32 × Int32 × Int32} {v u w x : MS} {a b : List EV} {e : PE} {r r3 : Int32} {E : EvE} {S : EvS} {R : MS → Bool → MS → Prop} {n : Nat}
/-- a new label: nothing else -/
theorem ES.lab (h : Q_x_X1_newLabel L1 L2 v r u) (k : K_x_X1_newLabel v r u) (J : JC L2 e v) (B : LBe v) : JC L2 e u ∧ EF (v.1 0 317).toInt (v.1 0 321).toInt v u ∧ (u.1 0 317).toInt = (v.1 0 317).toInt + 1 ∧ r.toInt = (v.1 0 317).toInt ∧ (0 ≤ (u.1 0 317).toInt ∧ (u.1 0 317).toInt ≤ 4 * (u.1 0 305).toInt + 9) ∧ (u.1 0 305 = v.1 0 305 ∧ u.1 0 381 = v.1 0 381 ∧ u.1 0 321 = v.1 0 321 ∧ u.1 0 312 = v.1 0 312 ∧ u.1 0 314 = v.1 0 314 ∧ knC u = knC v) := by
  have b1 := B.1
  have b5 := B.2.1
  have A := EF.lab (lo := (v.1 0 317).toInt) (lc := (v.1 0 321).toInt) h ⟨b1.1, by omega⟩
  have e5 : u.1 0 305 = v.1 0 305 := k.1.2.1 305 (by decide)
  refine ⟨J.fr k.1 k.2.2 (by decide) (by decide) (by rw [e5, k.1.2.1 307 (by decide)]; exact J.2.1), A.1, A.2.1, A.2.2, ⟨by omega, by rw [e5]; omega⟩, e5, k.1.2.1 381 (by decide), k.1.2.1 321 (by decide), k.1.2.1 312 (by decide), k.1.2.1 314 (by decide), knC_fr k.1⟩
end VEI
