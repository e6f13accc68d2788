theorem GI.emit {q : Bool} {v : MS} {lab labm : Nat → Nat} {x y z : Int32} (h : GI q v lab labm) (hz : z.toInt = (v.1 0 12).toInt) (h0 : 0 ≤ z.toInt) (hy : z.toInt ≤ y.toInt) : GI q (wA (wA v 11 z.toNatClampNeg x) 0 12 y) lab labm :=
  (h.f11 (h.c.zeroI hz (hz ▸ h0) (Int.le_refl _))).w12 (show (v.1 0 12).toInt ≤ y.toInt by omega)
theorem GI.say {q : Bool} {v : MS} {lab labm : Nat → Nat} {o x y z : Int32} (h : GI q v lab labm) (hz : z.toInt = (v.1 0 15).toInt) (h0 : 0 ≤ z.toInt) (hy : z.toInt ≤ y.toInt) : GI q (wA (wA (wA v 13 z.toNatClampNeg o) 14 z.toNatClampNeg x) 0 15 y) lab labm :=
  ((h.o (a := 13) (by decide)).f14 (h.m.zeroI hz (hz ▸ h0) (Int.le_refl _))).w15 (show (v.1 0 15).toInt ≤ y.toInt by omega)
theorem CH.eq {f f' : Nat → Int32} {n n' : Int} {lab : Nat → Nat} (h : CH f n lab) (e : f' = f) (en : n' = n) : CH f' n' lab := by rw [e, en]; exact h
theorem GI.sb {q : Bool} {v : MS} {lab labm : Nat → Nat} (h : GI q v lab labm) (hl : 1 ≤ (v.1 0 52).toInt) : SL lab (v.1 0 53) (2 * (v.1 0 52).toNatClampNeg + 1) := by
  have e2 := nat_z (x := v.1 0 52) (by omega)
  have hb := h.b (v.1 0 52).toNatClampNeg (by omega) (by omega)
  rw [pick_1 e2] at hb
  exact hb
theorem GI.smb {q : Bool} {v : MS} {lab labm : Nat → Nat} (h : GI q v lab labm) (hl : 1 ≤ (v.1 0 52).toInt) : SL labm (v.1 0 54) (2 * (v.1 0 52).toNatClampNeg + 1) := by
  have e2 := nat_z (x := v.1 0 52) (by omega)
  have hb := h.mb (v.1 0 52).toNatClampNeg (by omega) (by omega)
  rw [pick_1 e2] at hb
  exact hb
theorem GI.sa {v : MS} {lab labm : Nat → Nat} (h : GI true v lab labm) (hl : 1 ≤ (v.1 0 52).toInt) : SL lab (v.1 0 57) (2 * (v.1 0 52).toNatClampNeg + 2) := by
  have e2 := nat_z (x := v.1 0 52) (by omega)
  have hb := h.a (v.1 0 52).toNatClampNeg (by omega) (by omega) (Or.inl rfl)
  rw [pick_1 e2] at hb
  exact hb
theorem GI.sma {v : MS} {lab labm : Nat → Nat} (h : GI true v lab labm) (hl : 1 ≤ (v.1 0 52).toInt) : SL labm (v.1 0 58) (2 * (v.1 0 52).toNatClampNeg + 2) := by
  have e2 := nat_z (x := v.1 0 52) (by omega)
  have hb := h.ma (v.1 0 52).toNatClampNeg (by omega) (by omega) (Or.inl rfl)
  rw [pick_1 e2] at hb
  exact hb
theorem lab_ne {a : Nat} {x : Int32} {k : Nat} (h : (a : Int) ≤ 2 * x.toInt) (h0 : 0 ≤ x.toInt) : a ≠ 2 * x.toNatClampNeg + (k + 1) := by
  have := nat_z h0
  omega
theorem lab_lt2 {a b : Nat} {x : Int} {L : Int32} (e : a = b) (h : (b : Int) ≤ x) (h0 : 0 ≤ L.toInt) (hx : x < 2 * L.toInt + 2) : (a : Int) < ((2 * L.toNatClampNeg + 2 : Nat) : Int) := by
  have := nat_z h0
  omega
theorem lab_ne2 {a b : Nat} {x : Int} {L : Int32} (e : a = b) (h : (b : Int) ≤ x) (h0 : 0 ≤ L.toInt) (hx : x < 2 * L.toInt + 2) : a ≠ 2 * L.toNatClampNeg + 2 := by
  have := nat_z h0
  omega
