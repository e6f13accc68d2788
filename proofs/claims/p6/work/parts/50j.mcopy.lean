theorem cp0 {j : Nat} (h : (j : Int) < (0 : Int)) : False := by omega
theorem cp_step {f g : Nat → Int32} {k y x : Int32} (h : ∀ j : Nat, (j : Int) < k.toInt → f j = g j) (e : k = k → x = g k.toNatClampNeg) (h0 : 0 ≤ k.toInt) (hy : y.toInt = k.toInt + 1) : ∀ j : Nat, (j : Int) < y.toInt → upd f k.toNatClampNeg x j = g j := fun j hj => by
  have := nat_z h0
  by_cases q : j = k.toNatClampNeg
  · rw [q, pk_us, e rfl]
  · rw [pk_un q]; exact h j (by omega)
theorem TI.o {v : MS} {a i : Nat} {x : Int32} (h : TI v) (ha : a ≠ 7 ∧ a ≠ 8) : TI (wA v a i x) := fun j => by
  have e7 : (wA v a i x).1 7 = v.1 7 := if_neg (fun q => ha.1 q.symm)
  have e8 : (wA v a i x).1 8 = v.1 8 := if_neg (fun q => ha.2 q.symm)
  rw [e7, e8]; exact h j
