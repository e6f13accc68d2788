theorem TS.sayE {q : Bool} {v : MS} {f0 c0 : Nat} {labm : Nat → Nat} {τ : Nat → TT} {o a y z : Int32} {C : List Bool} (hole : Bool) (c : Bool) (h : TS q v f0 c0 labm τ) (ez : v.1 0 15 = z) (h0 : 0 ≤ z.toInt) (hy : y.toInt = z.toInt + 1) (hC : (C.length : Int) ≤ 1 + (v.1 0 33).toInt) {B : List Bool} (hB : (τ z.toNatClampNeg).1 = B)
    (hft : FT (v.1 0 34).toInt (v.1 0 28).toInt (v.1 0 27).toInt 0 o.toInt a B C) (h14 : o.toInt ≠ 14) (hc : o.toInt ≠ 12 → o.toInt ≠ 15 → c = (τ z.toNatClampNeg).2.2.1) (hj : (o.toInt ≠ 10 ∧ o.toInt ≠ 11 ∧ o.toInt ≠ 12 ∧ o.toInt ≠ 22 ∧ o.toInt ≠ 23) ∨ hole = true) :
    ∃ τ' : Nat → TT, TS q (wA (wA (wA v 13 z.toNatClampNeg o) 14 z.toNatClampNeg a) 0 15 y) f0 c0 labm τ' ∧ (∀ j, j < z.toNatClampNeg → τ' j = τ j) ∧ (τ' z.toNatClampNeg).1 = B ∧ (τ' z.toNatClampNeg).2.2.1 = (τ z.toNatClampNeg).2.2.1 ∧ (τ' y.toNatClampNeg).1 = C ∧ (τ' y.toNatClampNeg).2.2.1 = c ∧ (τ' z.toNatClampNeg).2.2.2 = hole := by
  refine ⟨_, h.say (hole := hole) (c := c) ez h0 hy hC (by rw [hB]; exact hft) h14 hc (fun T hJ => Or.inl ?_), fun j hj => sayT_k hj, by rw [sayT_0]; exact hB, by rw [sayT_0], by rw [nxt_z h0 hy, sayT_1], by rw [nxt_z h0 hy, sayT_1], by rw [sayT_0]⟩
  rcases hj with g | g
  · rcases hJ with w | w <;> omega
  · exact g
theorem TS.sayJE {q : Bool} {v : MS} {f0 c0 : Nat} {labm : Nat → Nat} {τ : Nat → TT} {o a y z : Int32} {C : List Bool} (c : Bool) (h : TS q v f0 c0 labm τ) (ez : v.1 0 15 = z) (h0 : 0 ≤ z.toInt) (hy : y.toInt = z.toInt + 1) (hC : (C.length : Int) ≤ 1 + (v.1 0 33).toInt) {B : List Bool} (hB : (τ z.toNatClampNeg).1 = B)
    (ho : o.toInt = 11 ∨ o.toInt = 12) (hT : ∀ T, JT o.toInt B T → T = []) (hft : FT (v.1 0 34).toInt (v.1 0 28).toInt (v.1 0 27).toInt 0 o.toInt a B C) (hcl : (τ z.toNatClampNeg).2.2.1 = true) (hc : o.toInt ≠ 12 → c = true) (ag : AGT (v.1 13) f0 z.toNatClampNeg τ a) :
    ∃ τ' : Nat → TT, TS q (wA (wA (wA v 13 z.toNatClampNeg o) 14 z.toNatClampNeg a) 0 15 y) f0 c0 labm τ' ∧ (∀ j, j < z.toNatClampNeg → τ' j = τ j) ∧ (τ' z.toNatClampNeg).1 = B ∧ (τ' z.toNatClampNeg).2.2.1 = (τ z.toNatClampNeg).2.2.1 ∧ (τ' y.toNatClampNeg).1 = C ∧ (τ' y.toNatClampNeg).2.2.1 = c ∧ (τ' z.toNatClampNeg).2.2.2 = false :=
  ⟨_, h.sayJ (c := c) ez h0 hy hC ho (by rw [hB]; exact hT) (by rw [hB]; exact hft) hcl hc ag, fun j hj => sayT_k hj, by rw [sayT_0]; exact hB, by rw [sayT_0], by rw [nxt_z h0 hy, sayT_1], by rw [nxt_z h0 hy, sayT_1], by rw [sayT_0]⟩
theorem TS.fillE {q : Bool} {v : MS} {f0 c0 : Nat} {labm : Nat → Nat} {τ : Nat → TT} {m z : Int32} {A B : List Bool} {c : Bool} {o : Int} (h : TS q v f0 c0 labm τ) (ez : v.1 0 15 = z) (h0 : 0 ≤ z.toInt) (hm0 : 0 ≤ m.toInt) (hm1 : (f0 : Int) ≤ m.toInt) (hm : m.toInt < z.toInt) (hl : labm m.toNatClampNeg = 0) (ho : (v.1 13 m.toNatClampNeg).toInt = o) (hA : (τ m.toNatClampNeg).1 = A) (hB : (τ z.toNatClampNeg).1 = B) (hT : JT o A B) (hcm : (τ m.toNatClampNeg).2.2.1 = c) (hcz : (τ z.toNatClampNeg).2.2.1 = c) :
    ∃ τ' : Nat → TT, TS q (wA v 14 m.toNatClampNeg z) f0 c0 labm τ' ∧ (∀ j, (τ' j).1 = (τ j).1 ∧ (τ' j).2.2.1 = (τ j).2.2.1) ∧ (∀ j, j < m.toNatClampNeg → τ' j = τ j) ∧ (τ' m.toNatClampNeg).2.2.2 = false ∧ ∀ j, j ≠ m.toNatClampNeg → (τ' j).2.2.2 = (τ j).2.2.2 :=
  ⟨_, h.fill ez h0 (by have := nat_z hm0; have := nat_z h0; omega) hl (by rw [ho, hA, hB]; exact hT) (by rw [hcz, hcm]), fun j => ⟨(fillT_s j _).1, (fillT_s j _).2.2⟩, fun j hj => by unfold fillT; rw [if_neg (by omega)], by unfold fillT; rw [if_pos rfl], fun j hj => fillT_h hj⟩
theorem ltN {x z : Int32} (h0 : 0 ≤ x.toInt) (h : x.toInt < z.toInt) : x.toNatClampNeg < z.toNatClampNeg := by
  have := nat_z h0
  have := nat_z (x := z) (by omega)
  omega
theorem ltJ {j : Nat} {z : Int32} (h : (j : Int) < z.toInt) : j < z.toNatClampNeg := by
  have := nat_z (x := z) (by omega)
  omega
theorem mk_ag {f : Nat → Int32} {f0 hi : Nat} {τ : Nat → TT} {x z : Int32} (hz : hi = z.toNatClampNeg) (h0 : 0 ≤ x.toInt) (h1 : (f0 : Int) ≤ x.toInt) (h2 : x.toInt < z.toInt) (h3 : (τ x.toNatClampNeg).1 = []) (h4 : (f x.toNatClampNeg).toInt = 13 ∨ (τ x.toNatClampNeg).2.2.1 = false) : AGT f f0 hi τ x := by
  subst hz
  have := nat_z (x := z) (by omega)
  exact ⟨h1, by omega, h3, h4⟩
theorem natlt {x : Int32} {n : Int} (h0 : 0 ≤ x.toInt) (h : x.toInt < n) : (x.toNatClampNeg : Int) < n := by
  have := nat_z h0
  omega
/-- what TS reads of a state -/
theorem TS.same {q : Bool} {v u : MS} {f0 c0 : Nat} {labm : Nat → Nat} {τ : Nat → TT} (h : TS q v f0 c0 labm τ) (F : ∀ k ∈ [15, 27, 28, 33, 34, 39, 52, 54, 55, 56, 58], u.1 0 k = v.1 0 k) (G : ∀ k ∈ [13, 14, 36, 38, 62, 63, 64, 66], u.1 k = v.1 k) : TS q u f0 c0 labm τ := by
  refine h.gen ?_ (F 52 (by decide)) (F 54 (by decide)) (F 55 (by decide)) (F 56 (by decide)) (F 58 (by decide)) (G 62 (by decide)) (G 63 (by decide)) (G 64 (by decide)) (G 66 (by decide)) (by rw [F 15 (by decide)]; exact Nat.le_refl _) (fun j _ => by rw [G 13 (by decide)]) (fun j _ _ => by rw [G 14 (by decide)]) (fun _ _ => ⟨rfl, rfl⟩)
  unfold TYv
  rw [F 34 (by decide), F 28 (by decide), F 27 (by decide), F 33 (by decide), F 15 (by decide), F 39 (by decide), G 13 (by decide), G 14 (by decide), G 36 (by decide), G 38 (by decide)]
  exact h.1
/-- what a condition leaves: its jump waits at field 60 -/
def CQT (u : MS) (z : Int32) (f0 c0 : Nat) (labm : Nat → Nat) (τ : Nat → TT) : Prop := ∃ τ' : Nat → TT, TS true u f0 c0 labm τ' ∧ (∀ j : Nat, (j : Int) < z.toInt → τ' j = τ j) ∧ (τ' (u.1 0 15).toNatClampNeg).1 = [] ∧ (τ' (u.1 0 15).toNatClampNeg).2.2.1 = true ∧ (τ' (u.1 0 60).toNatClampNeg).1 = [false] ∧ (τ' (u.1 0 60).toNatClampNeg).2.2.1 = true ∧ (u.1 13 (u.1 0 60).toNatClampNeg).toInt = 10 ∧ NH τ' z (u.1 0 15) [(u.1 0 60).toNatClampNeg] ∧ (τ' z.toNatClampNeg).1 = [] ∧ (τ' z.toNatClampNeg).2.2.1 = true
