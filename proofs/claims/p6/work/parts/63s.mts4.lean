/-! more of the types of statements -/
theorem TS.b4 {q : Bool} {v : MS} {f0 c0 : Nat} {labm : Nat → Nat} {τ : Nat → TT} (h : TS q v f0 c0 labm τ) (hl : 1 ≤ (v.1 0 52).toInt) : ∀ i : Nat, labm i = 2 * (v.1 0 52).toNatClampNeg + 1 → (i : Int) ≤ (v.1 0 54).toInt := fun i hi => by
  have el := nat_z (x := v.1 0 52) (by omega)
  have g := h.2.2.2.1 (v.1 0 52).toNatClampNeg (by omega) (by omega) i hi
  rw [pick_1 el] at g; exact g
theorem TS.b5 {v : MS} {f0 c0 : Nat} {labm : Nat → Nat} {τ : Nat → TT} (h : TS true v f0 c0 labm τ) (hl : 1 ≤ (v.1 0 52).toInt) : ∀ i : Nat, labm i = 2 * (v.1 0 52).toNatClampNeg + 2 → (i : Int) ≤ (v.1 0 58).toInt := fun i hi => by
  have el := nat_z (x := v.1 0 52) (by omega)
  have g := h.2.2.2.2.1 (v.1 0 52).toNatClampNeg (by omega) (by omega) (Or.inl rfl) i hi
  rw [pick_1 el] at g; exact g
/-- a jump to a TURN, from anywhere -/
theorem TS.sayJTE {q : Bool} {v : MS} {f0 c0 : Nat} {labm : Nat → Nat} {τ : Nat → TT} {o a y z : Int32} {C : List Bool} (c : Bool) (h : TS q v f0 c0 labm τ) (ez : v.1 0 15 = z) (h0 : 0 ≤ z.toInt) (hy : y.toInt = z.toInt + 1) (hC : (C.length : Int) ≤ 1 + (v.1 0 33).toInt) {B : List Bool} (hB : (τ z.toNatClampNeg).1 = B)
    (ho : o.toInt = 11 ∨ o.toInt = 12) (hT : ∀ T, JT o.toInt B T → T = []) (hft : FT (v.1 0 34).toInt (v.1 0 28).toInt (v.1 0 27).toInt 0 o.toInt a B C) (hc : o.toInt ≠ 12 → o.toInt ≠ 15 → c = (τ z.toNatClampNeg).2.2.1) (ag : AGT (v.1 13) f0 z.toNatClampNeg τ a) (h13 : (v.1 13 a.toNatClampNeg).toInt = 13) :
    ∃ τ' : Nat → TT, TS q (wA (wA (wA v 13 z.toNatClampNeg o) 14 z.toNatClampNeg a) 0 15 y) f0 c0 labm τ' ∧ (∀ j, j < z.toNatClampNeg → τ' j = τ j) ∧ (τ' z.toNatClampNeg).1 = B ∧ (τ' z.toNatClampNeg).2.2.1 = (τ z.toNatClampNeg).2.2.1 ∧ (τ' y.toNatClampNeg).1 = C ∧ (τ' y.toNatClampNeg).2.2.1 = c ∧ (τ' z.toNatClampNeg).2.2.2 = false := by
  obtain ⟨g1, g2, g3, g4⟩ := ag
  have ea := nat_z (x := a) (by omega)
  refine ⟨_, h.say (hole := false) (c := c) ez h0 hy hC (by rw [hB]; exact hft) (by omega) hc (fun T hJ => Or.inr ⟨g1, by omega, ?_, ?_⟩), fun j hj => sayT_k hj, by rw [sayT_0]; exact hB, by rw [sayT_0], by rw [nxt_z h0 hy, sayT_1], by rw [nxt_z h0 hy, sayT_1], by rw [sayT_0]⟩
  · rw [sayT_k (by omega), g3, hT T (by rw [← hB]; exact hJ)]
  · exact Or.inr (Or.inl ⟨by omega, by rw [pk_un (by omega)]; exact h13⟩)
theorem kx_us {f : Nat → Int32} {i x : Int32} {j : Nat} (h0 : 0 ≤ i.toInt) (hj : (j : Int) = i.toInt) : upd f i.toNatClampNeg x j = x := by
  have := nat_z h0
  rw [show j = i.toNatClampNeg by omega, pk_us]
/-- what a stretch of orders leaves at a place where roads meet -/
def JQT (u : MS) (z : Int32) (f0 c0 : Nat) (labm : Nat → Nat) (τ : Nat → TT) (c : Bool) : Prop := ∃ τ' : Nat → TT, TS true u f0 c0 labm τ' ∧ (∀ j : Nat, (j : Int) < z.toInt → τ' j = τ j) ∧ (τ' z.toNatClampNeg).1 = [] ∧ (τ' z.toNatClampNeg).2.2.1 = c ∧ (τ' (u.1 0 15).toNatClampNeg).1 = [] ∧ (τ' (u.1 0 15).toNatClampNeg).2.2.1 = c ∧ NH τ' z (u.1 0 15) []
theorem mem6 {k : Nat} (h : k ∈ [15, 27, 28, 33, 34, 39]) : k = 15 ∨ k = 27 ∨ k = 28 ∨ k = 33 ∨ k = 34 ∨ k = 39 := by simpa using h
theorem mem7 {k : Nat} (h : k ∈ [13, 36, 38, 62, 63, 64, 66]) : k = 13 ∨ k = 36 ∨ k = 38 ∨ k = 62 ∨ k = 63 ∨ k = 64 ∨ k = 66 := by simpa using h
theorem idx55 {f g : Nat → Int32} {i : Int32} {n : Int} {j : Nat} (e : f = g) (hi : i.toInt = n - 1) (hn : 1 ≤ n) (hj : (j : Int) + 1 = n) : f i.toNatClampNeg = g j := by
  have := nat_z (x := i) (by omega)
  rw [e, show i.toNatClampNeg = j by omega]
theorem mem11 {k : Nat} (h : k ∈ [15, 27, 28, 33, 34, 39, 52, 54, 55, 56, 58]) : k = 15 ∨ k = 27 ∨ k = 28 ∨ k = 33 ∨ k = 34 ∨ k = 39 ∨ k = 52 ∨ k = 54 ∨ k = 55 ∨ k = 56 ∨ k = 58 := by simpa using h
theorem mem8 {k : Nat} (h : k ∈ [13, 14, 36, 38, 62, 63, 64, 66]) : k = 13 ∨ k = 14 ∨ k = 36 ∨ k = 38 ∨ k = 62 ∨ k = 63 ∨ k = 64 ∨ k = 66 := by simpa using h
theorem mk_le {τ τ' : Nat → TT} {p z : Int32} (h0 : 0 ≤ p.toInt) (h : p.toInt ≤ z.toInt) (k : ∀ j, j < z.toNatClampNeg → τ' j = τ j) (b : (τ' z.toNatClampNeg).1 = (τ z.toNatClampNeg).1) (c : (τ' z.toNatClampNeg).2.2.1 = (τ z.toNatClampNeg).2.2.1) : (τ' p.toNatClampNeg).1 = (τ p.toNatClampNeg).1 ∧ (τ' p.toNatClampNeg).2.2.1 = (τ p.toNatClampNeg).2.2.1 := by
  have e1 := nat_z h0
  have e2 := nat_z (x := z) (by omega)
  by_cases q : p.toNatClampNeg = z.toNatClampNeg
  · rw [q]; exact ⟨b, c⟩
  · rw [k _ (by omega)]; exact ⟨rfl, rfl⟩
section NHS
variable {τ τ' : Nat → TT} {a z y m : Int32} {H H' : List Nat}
theorem NH.nil : NH τ a a [] := fun j h1 h2 _ => by omega
theorem NH.cat (h : NH τ a z H) (k : ∀ j : Nat, (j : Int) < z.toInt → τ' j = τ j) (n : NH τ' z y H') : NH τ' a y (H' ++ H) := fun j h1 h2 h3 => by
  by_cases q : (j : Int) < z.toInt
  · rw [k j q] at h3; exact List.mem_append.mpr (Or.inr (h j h1 q h3))
  · exact List.mem_append.mpr (Or.inl (n j (by omega) h2 h3))
theorem NH.sg (h0 : 0 ≤ z.toInt) (n : ∀ j, z.toNatClampNeg ≤ j → j < y.toNatClampNeg → (τ j).2.2.2 = false) : NH τ z y [] := fun j h1 h2 h3 => by
  have e1 := nat_z h0
  have e2 := nat_z (x := y) (by omega)
  rw [n j (by omega) (by omega)] at h3; exact absurd h3 (by decide)
theorem NH.say (h : NH τ a z H) (k : ∀ j, j < z.toNatClampNeg → τ' j = τ j) (e : (τ' z.toNatClampNeg).2.2.2 = false) (h0 : 0 ≤ z.toInt) (hy : y.toInt = z.toInt + 1) : NH τ' a y H := fun j h1 h2 h3 => by
  have e1 := nat_z h0
  by_cases q : j = z.toNatClampNeg
  · rw [q, e] at h3; exact absurd h3 (by decide)
  · rw [k j (by omega)] at h3; exact h j h1 (by omega) h3
theorem NH.hole (h : NH τ a z H) (k : ∀ j, j < z.toNatClampNeg → τ' j = τ j) (h0 : 0 ≤ z.toInt) (hy : y.toInt = z.toInt + 1) : NH τ' a y (z.toNatClampNeg :: H) := fun j h1 h2 h3 => by
  have e1 := nat_z h0
  by_cases q : j = z.toNatClampNeg
  · rw [q]; exact List.mem_cons_self
  · rw [k j (by omega)] at h3; exact List.mem_cons_of_mem _ (h j h1 (by omega) h3)
theorem NH.fill (h : NH τ a z H) (e : (τ' m.toNatClampNeg).2.2.2 = false) (o : ∀ j, j ≠ m.toNatClampNeg → (τ' j).2.2.2 = (τ j).2.2.2) (hH : ∀ j ∈ H, j = m.toNatClampNeg ∨ j ∈ H') : NH τ' a z H' := fun j h1 h2 h3 => by
  by_cases q : j = m.toNatClampNeg
  · rw [q, e] at h3; exact absurd h3 (by decide)
  · rw [o j q] at h3; exact (hH j (h j h1 h2 h3)).resolve_left q
theorem NH.eq (h : NH τ a z H) (e : y = z) : NH τ a y H := e ▸ h
theorem rm_0 {m : Nat} {H : List Nat} : ∀ j ∈ m :: H, j = m ∨ j ∈ H := fun j h => List.mem_cons.mp h
theorem rm_1 {x m : Nat} {H : List Nat} : ∀ j ∈ x :: m :: H, j = m ∨ j ∈ x :: H := fun j h => by
  rcases List.mem_cons.mp h with h | h
  · exact Or.inr (h ▸ List.mem_cons_self)
  · exact (List.mem_cons.mp h).imp id (List.mem_cons_of_mem _)
theorem rm_2 {x y m : Nat} {H : List Nat} : ∀ j ∈ x :: y :: m :: H, j = m ∨ j ∈ x :: y :: H := fun j h => by
  rcases List.mem_cons.mp h with h | h
  · exact Or.inr (h ▸ List.mem_cons_self)
  · exact (rm_1 j h).imp id (List.mem_cons_of_mem _)
theorem L3.upd {lm : Nat → Nat} {i x : Nat} (h : L3 lm) (hx : 3 ≤ x) : L3 (updN lm i x) := fun j hj => by
  unfold updN at hj ⊢
  split
  · exact hx
  · rename_i q; rw [if_neg q] at hj; exact h j hj
theorem L3.C {lm : Nat → Nat} {d : Int} (h : L3 lm) : L3 (labC lm d) := fun j hj => by
  unfold labC at hj ⊢
  split
  · rename_i q; rw [if_pos q] at hj; exact h j hj
  · rename_i q; rw [if_neg q] at hj; exact absurd rfl hj
theorem L3.D {lm : Nat → Nat} {l : Nat} (h : L3 lm) : L3 (labD lm l) := fun j hj => by
  unfold labD at hj ⊢
  split
  · rename_i q; rw [if_pos q] at hj; exact absurd rfl hj
  · rename_i q; rw [if_neg q] at hj; exact h j hj
theorem two3 {x : Int32} (h : 1 ≤ x.toInt) : 3 ≤ 2 * x.toNatClampNeg + 1 := by
  have := nat_z (x := x) (by omega)
  omega
theorem two4 {x : Int32} (h : 1 ≤ x.toInt) : 3 ≤ 2 * x.toNatClampNeg + 2 := by
  have := nat_z (x := x) (by omega)
  omega
end NHS
theorem natJ {j : Nat} {z : Int32} (h0 : 0 ≤ z.toInt) (h : j < z.toNatClampNeg) : (j : Int) < z.toInt := by
  have := nat_z h0
  omega
theorem lastN {f : Nat → Int32} {x y o : Int32} (h0 : 0 ≤ x.toInt) (hy : y.toInt = x.toInt + 1) : upd f x.toNatClampNeg o (y.toNatClampNeg - 1) = o := by
  have e1 := nat_z h0
  have e2 := nat_z (x := y) (by omega)
  rw [show y.toNatClampNeg - 1 = x.toNatClampNeg by omega, pk_us]
