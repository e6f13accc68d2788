/-! which function a name is -/
def smP (t p u : Nat → Int32) (a b : Nat) : Prop := (u a).toInt - (p a).toInt = (u b).toInt - (p b).toInt ∧ ∀ i : Nat, (i : Int) < (u a).toInt - (p a).toInt → t ((p a).toInt + i).toNat = t ((p b).toInt + i).toNat
def smK (t p u : Nat → Int32) (a b k : Nat) : Prop := (u a).toInt - (p a).toInt = (u b).toInt - (p b).toInt ∧ ∀ i : Nat, i < k → t ((p a).toInt + i).toNat = t ((p b).toInt + i).toNat
noncomputable def smF (t p u : Nat → Int32) (a b : Nat) : Int32 := @ite Int32 (smP t p u a b) (Classical.propDecidable _) 1 0
noncomputable def fnF (f : Nat → Int32) : Nat → Int32
  | 0 => -1
  | k + 1 => if (f k).toInt = 0 then fnF f k else nI k
section FNS
variable {t p u : Nat → Int32} {a b : Nat} {f : Nat → Int32}
theorem smP_len (h : ((u a).toInt) - ((p a).toInt) ≠ ((u b).toInt) - ((p b).toInt)) : ¬ smP t p u a b := fun q => h q.1
theorem smK_0 (h : ((u a).toInt) - ((p a).toInt) = ((u b).toInt) - ((p b).toInt)) : smK t p u a b (0 : Int32).toNatClampNeg := ⟨h, fun i hi => by
  have e : (0 : Int32).toNatClampNeg = 0 := by decide
  rw [e] at hi; omega⟩
theorem ix_ {x y : Int32} (hx : 0 ≤ x.toInt ∧ x.toInt ≤ 4000) (hy : 0 ≤ y.toInt ∧ y.toInt ≤ 4000) : (x + y).toNatClampNeg = (x.toInt + (y.toNatClampNeg : Int)).toNat := by
  have e : (x + y).toInt = x.toInt + y.toInt := add_z rfl rfl (by omega) (by omega)
  have := nat_z hy.1
  have := nat_z (x := x + y) (by omega)
  omega
theorem smK_s {i y : Int32} (h : smK t p u a b i.toNatClampNeg) (hi : 0 ≤ i.toInt ∧ i.toInt ≤ 4000) (hy : y.toInt = i.toInt + 1) (ha : 0 ≤ (p a).toInt ∧ (p a).toInt ≤ 4000 ∧ 0 ≤ (u a).toInt ∧ (u a).toInt ≤ 4000) (hb : 0 ≤ (p b).toInt ∧ (p b).toInt ≤ 4000 ∧ 0 ≤ (u b).toInt ∧ (u b).toInt ≤ 4000)
    (hk : (t (p a + i).toNatClampNeg).toInt = (t (p b + i).toNatClampNeg).toInt) : smK t p u a b y.toNatClampNeg := by
  refine ⟨h.1, fun j hj => ?_⟩
  rw [nxt_z hi.1 hy] at hj
  by_cases q : j = i.toNatClampNeg
  · have e := Int32.toInt_inj.mp hk
    rw [ix_ ⟨ha.1, ha.2.1⟩ hi, ix_ ⟨hb.1, hb.2.1⟩ hi] at e
    rw [q]; exact e
  · exact h.2 j (by omega)
theorem smP_ne {i : Int32} (hi : 0 ≤ i.toInt ∧ i.toInt ≤ 4000) (lt : i.toInt < ((u a).toInt) - ((p a).toInt)) (ha : 0 ≤ (p a).toInt ∧ (p a).toInt ≤ 4000 ∧ 0 ≤ (u a).toInt ∧ (u a).toInt ≤ 4000) (hb : 0 ≤ (p b).toInt ∧ (p b).toInt ≤ 4000 ∧ 0 ≤ (u b).toInt ∧ (u b).toInt ≤ 4000)
    (hk : (t (p a + i).toNatClampNeg).toInt ≠ (t (p b + i).toNatClampNeg).toInt) : ¬ smP t p u a b := fun q => by
  have e := q.2 i.toNatClampNeg (by have := nat_z hi.1; omega)
  rw [← ix_ ⟨ha.1, ha.2.1⟩ hi, ← ix_ ⟨hb.1, hb.2.1⟩ hi] at e
  exact hk (congrArg Int32.toInt e)
theorem smE0 {x : Int32} (r6 : x.toInt ≠ 0 ∨ ¬ smP t p u a b) (z : x.toInt = 0) : x.toInt = (smF t p u a b).toInt := by
  unfold smF
  rw [if_neg (r6.resolve_left (fun q => q z)), z]; decide
theorem smE {x i : Int32} (f2 : x = 0 ∨ x = 1) (r5 : x.toInt = 0 ∨ smK t p u a b i.toNatClampNeg) (r6 : x.toInt ≠ 0 ∨ ¬ smP t p u a b) (h0 : 0 ≤ i.toInt) (ge : ((u a).toInt) - ((p a).toInt) ≤ i.toInt) : x.toInt = (smF t p u a b).toInt := by
  rcases f2 with f2 | f2
  · exact smE0 r6 (by rw [f2]; decide)
  · have k := r5.resolve_left (by rw [f2]; decide)
    have e : smP t p u a b := ⟨k.1, fun j hj => k.2 j (by have := nat_z h0; omega)⟩
    unfold smF
    rw [if_pos e, f2]
theorem nxt_e {x y : Int32} (hx : 0 ≤ x.toInt ∧ x.toInt ≤ 40) (h : y.toInt = x.toInt - 1) : y + 1 = x := Int32.toInt_inj.mp (by
  rw [add_z (x := y) (y := 1) rfl (show (1 : Int32).toInt = 1 by decide) (by omega) (by omega)]; omega)
theorem fn_top {x y : Int32} (hx : 0 ≤ x.toInt ∧ x.toInt ≤ 40) (h : y.toInt = x.toInt - 1) : fnF f x.toNatClampNeg = fnF f (y + 1).toNatClampNeg := by rw [nxt_e hx h]
theorem fn_skip {x y : Int32} (hx : 0 ≤ x.toInt ∧ x.toInt ≤ 40) (h : y.toInt = x.toInt - 1) (hf : (f x.toNatClampNeg).toInt = 0) : fnF f (x + 1).toNatClampNeg = fnF f (y + 1).toNatClampNeg := by
  rw [nxt_e hx h, nxt_z (x := x) (y := x + 1) hx.1 (add_z (x := x) (y := 1) rfl (show (1 : Int32).toInt = 1 by decide) (by omega) (by omega))]
  show (if (f x.toNatClampNeg).toInt = 0 then fnF f x.toNatClampNeg else nI x.toNatClampNeg) = _
  rw [if_pos hf]
theorem fn_no {x N : Int32} (r7 : N = fnF f (x + 1).toNatClampNeg) (h : x.toInt = -1) : x = N := by
  have e : x = -1 := Int32.toInt_inj.mp (by rw [h]; decide)
  rw [r7, e]
  have e0 : ((-1 : Int32) + 1).toNatClampNeg = 0 := by decide
  rw [e0]; rfl
theorem fn_yes {x N : Int32} (r7 : N = fnF f (x + 1).toNatClampNeg) (hx : 0 ≤ x.toInt ∧ x.toInt ≤ 40) (hf : (f x.toNatClampNeg).toInt = 0 → False) : x = N := by
  rw [r7, nxt_z (x := x) (y := x + 1) hx.1 (add_z (x := x) (y := 1) rfl (show (1 : Int32).toInt = 1 by decide) (by omega) (by omega))]
  show x = (if (f x.toNatClampNeg).toInt = 0 then fnF f x.toNatClampNeg else nI x.toNatClampNeg)
  rw [if_neg hf]
  refine Int32.toInt_inj.mp ?_
  have := nat_z hx.1
  rw [nI_Z (by omega)]; omega
end FNS
