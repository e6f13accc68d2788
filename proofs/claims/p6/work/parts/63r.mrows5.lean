theorem ne0_z {y : Int32} (h : y.toInt ≠ 0) : ¬ y = 0 := fun q => h (by rw [q]; decide)
theorem arr_step {w g : Nat → Int32} {lab : Nat → Nat} {l : Nat} {k nx pb : Int32} (hk0 : 0 ≤ k.toInt) (lk : lab k.toNatClampNeg = l) (hl : l ≠ 0) (enx : nx = g k.toNatClampNeg) (cm : ∀ j i : Nat, lab j ≠ 0 → lab i = lab j → i < j → (i : Int) ≤ (g j).toInt)
    (inv : ∀ j : Nat, lab j = l → k.toInt < (j : Int) → w j = pb) : ∀ j : Nat, lab j = l → nx.toInt < (j : Int) → upd w k.toNatClampNeg pb j = pb := fun j hj hn => by
  have ek := nat_z hk0
  by_cases q : j = k.toNatClampNeg
  · rw [q, pk_us]
  · rw [pk_un q]
    by_cases q2 : k.toInt < (j : Int)
    · exact inv j hj q2
    · have h := cm k.toNatClampNeg j (by rw [lk]; exact hl) (by rw [hj, lk]) (by omega)
      rw [← enx] at h; omega
theorem eq55 {u w : MS} {x : Int32} {n m : Int} (h1 : ∀ j : Nat, (j : Int) + 1 = m → u.1 0 55 = (w.1 63) j) (h2 : ∀ j : Nat, (j : Int) = n → (w.1 63) j = x) (h0 : 0 ≤ n) (e : m = n + 1) : (u.1 0 55).toInt = x.toInt := by
  rw [h1 n.toNat (by omega), h2 n.toNat (by omega)]
