theorem CH.eq {f f' : Nat → Int32} {n n' : Int} {lab : Nat → Nat} (h : CH f n lab) (e : f' = f) (en : n' = n) : CH f' n' lab := by rw [e, en]; exact h
theorem GI.sb {q : Bool} {v : MS} {lab labm : Nat → Nat} (h : GI q v lab labm) (hl : 1 ≤ (v.1 0 52).toInt) : SL lab (v.1 0 53) (2 * (v.1 0 52).toNatClampNeg + 1) := by
  have e2 := nat_z (x := v.1 0 52) (by omega)
  have hb := h.b (v.1 0 52).toNatClampNeg (by omega) (by omega)
  rw [pick_1 e2] at hb
  exact hb
theorem GI.smb {q : Bool} {v : MS} {lab labm : Nat → Nat} (h : GI q v lab labm) (hl : 1 ≤ (v.1 0 52).toInt) : SL labm (v.1 0 54) (2 * (v.1 0 52).toNatClampNeg + 1) := by
  have e2 := nat_z (x := v.1 0 52) (by omega)
  have hb := h.mb (v.1 0 52).toNatClampNeg (by omega) (by omega)
  rw [pick_1 e2] at hb
  exact hb
theorem GI.sa {v : MS} {lab labm : Nat → Nat} (h : GI true v lab labm) (hl : 1 ≤ (v.1 0 52).toInt) : SL lab (v.1 0 57) (2 * (v.1 0 52).toNatClampNeg + 2) := by
  have e2 := nat_z (x := v.1 0 52) (by omega)
  have hb := h.a (v.1 0 52).toNatClampNeg (by omega) (by omega) (Or.inl rfl)
  rw [pick_1 e2] at hb
  exact hb
theorem GI.sma {v : MS} {lab labm : Nat → Nat} (h : GI true v lab labm) (hl : 1 ≤ (v.1 0 52).toInt) : SL labm (v.1 0 58) (2 * (v.1 0 52).toNatClampNeg + 2) := by
  have e2 := nat_z (x := v.1 0 52) (by omega)
  have hb := h.ma (v.1 0 52).toNatClampNeg (by omega) (by omega) (Or.inl rfl)
  rw [pick_1 e2] at hb
  exact hb
theorem lab_ne {a : Nat} {x : Int32} {k : Nat} (h : (a : Int) ≤ 2 * x.toInt) (h0 : 0 ≤ x.toInt) : a ≠ 2 * x.toNatClampNeg + (k + 1) := by
  have := nat_z h0
  omega
