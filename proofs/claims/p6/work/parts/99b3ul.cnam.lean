/-! the class's deeds: names -/
theorem fidx_l {α : Type} {F : Nat → α} {p : α → Bool} : ∀ n : Nat, (∀ j, j < n → p (F j) = false) → ((List.range n).map F).findIdx p = n
  | 0, _ => rfl
  | n + 1, h => by
    rw [List.range_succ, List.map_append, List.findIdx_append, fidx_l n (fun j hj => h j (by omega))]
    simp [h n (by omega)]
    omega
theorem fidx_s {α : Type} {F : Nat → α} {p : α → Bool} {k : Nat} (hk : p (F k) = true) (hl : ∀ j, j < k → p (F j) = false) : ∀ n : Nat, k < n → ((List.range n).map F).findIdx p = k
  | 0, h => by omega
  | n + 1, h => by
    rw [List.range_succ, List.map_append, List.findIdx_append]
    by_cases q : k = n
    · rw [fidx_l n (fun j hj => hl j (by omega)), ← q]
      simp [hk]
    · rw [fidx_s hk hl n (by omega)]
      simp
      omega
section ULN
variable {L1 L2 : List Nat} {P : Int32 × Int32 × Int32} {v u w x z : MS} {a b : List EV} {e : PE} {pa pb pc1 pd r : Int32} {t : Bool} {E : EvE} {R : MS → Int32 → Bool → MS → Prop}
theorem cGix (h : Q_x_X7_globalNamed L1 L2 v pa r) (J : JC L2 e v) (hn : r.toInt ≠ -1) : r = nI (gix e pa) := by
  obtain ⟨ka, hr, h0, h⟩ := h
  obtain ⟨J1, -, J3⟩ := J
  have n0 := natI J3.1
  have inv : ∀ j : Nat, (j : Int) < ka.toInt → v.1 (5000 + rowA L2 j) 4 ≠ pa := by
    refine RT.ind (fun (y : Int32) => ∀ j : Nat, (j : Int) < y.toInt → v.1 (5000 + rowA L2 j) 4 ≠ pa) hr (fun j hj => by
      have e0 : (0 : Int32).toInt = 0 := (by decide)
      omega) ?_
    intro x y _ hx hy
    obtain ⟨a, b, r6, f6, -, c, rfl⟩ := hy
    have e1 : (x + (1 : Int32)).toInt = x.toInt + 1 := add_z rfl (by decide) (by omega) (by omega)
    intro j hj
    by_cases q : (j : Int) = x.toInt
    · have w := cGF4 f6 a b J3.2 (by decide)
      have xj : x.toNatClampNeg = j := by have := natI (a := x) a; omega
      rw [xj] at w
      exact fun k => c (congrArg Int32.toInt (w.trans k))
    · exact hx j (by omega)
  have gf : gix e pa = ((List.range (v.1 0 377).toNatClampNeg).map (fun g => (v.1 (5000 + rowA L2 g) 4, v.1 (5000 + rowA L2 g) 2))).findIdx (fun g => g.1 == pa) := by
    rw [← J1]
    rfl
  rcases h with ⟨a, e9⟩ | ⟨a, r6, f6, -, c, hk⟩
  · rw [e9] at hn
    exact absurd (by decide) hn
  · have w := cGF4 f6 h0 a J3.2 (by decide)
    have nk := natI h0
    rw [gf, fidx_s (p := fun g => g.1 == pa) (F := fun g => (v.1 (5000 + rowA L2 g) 4, v.1 (5000 + rowA L2 g) 2)) (k := ka.toNatClampNeg) (by
      show (v.1 (5000 + rowA L2 ka.toNatClampNeg) 4 == pa) = true
      rw [beq_iff_eq]
      exact w.symm.trans (Int32.toInt_inj.mp c)) (fun j hj => beq_false_of_ne (inv j (by omega))) _ (by omega), hk]
    exact Int32.toInt_inj.mp (by rw [nI_Z (by omega)]; omega)
theorem cSt9 {k r : Int32} (h : Q_x_X9_isSet k r) : r.toInt ≠ 0 ↔ ((42 : Int) ≤ k.toInt ∧ k.toInt ≤ 52) := by
  have z0 : (0 : Int32).toInt = 0 := by decide
  have z1 : (1 : Int32).toInt = 1 := by decide
  rcases h with ⟨c, e⟩ | ⟨c, ⟨d, e⟩ | ⟨d, e⟩⟩ <;> rw [e] <;> omega
theorem eTail {row : Bool} {sl : Int} {g s9 g9 p9 : Int32} {a0 : List EV} {q : EV} {Rd Kd : MS → Prop} (S : ES L2 e P v x a0) (B : LBe v) (hr : ∀ y, Rd y → Kd y → ES L2 e P x y [q] ∧ y.1 0 305 = x.1 0 305) (hch : ∀ y, Q_x_X2_change L1 L2 R x s9 g9 p9 false y → (y.1 0 321).toInt ≤ 500 → ∃ a, gChange E row sl g e (knC x) (x.1 0 314) (x.1 0 305) = some (a, y.1 0 305) ∧ ES L2 e P x y a) (cu : (u.1 0 321).toInt ≤ 500)
    (h : ((pa.toInt = (0 : Int)) ∧ ∃ y, Rd y ∧ Kd y ∧ false = false ∧ r = 0 ∧ u = y) ∨ ((pa.toInt ≠ (0 : Int)) ∧ ∃ r49, Q_x_X9_kind L1 L2 x r49 ∧ ∃ r52, Q_x_X9_isSet r49 r52 ∧ K_x_X9_isSet r49 r52 ∧ (((r52.toInt = (0 : Int)) ∧ ∃ y, Rd y ∧ Kd y ∧ false = false ∧ r = 0 ∧ u = y) ∨ ((r52.toInt ≠ (0 : Int)) ∧ ((∃ u9, Q_x_X2_change L1 L2 R x s9 g9 p9 true u9 ∧ false = true ∧ r = 0 ∧ u = u9) ∨ (∃ y, Q_x_X2_change L1 L2 R x s9 g9 p9 false y ∧ K_x_X2_change x s9 g9 p9 y ∧ false = false ∧ r = 1 ∧ u = y)))))) :
    ∃ a, (if (decide (pa.toInt ≠ 0)) = true ∧ (42 : Int) ≤ (e.1 (x.1 0 305)).toInt ∧ (e.1 (x.1 0 305)).toInt ≤ 52 then (gChange E row sl g e (knC x) (x.1 0 314) (x.1 0 305)).bind fun r => some (true, a0 ++ r.1, r.2) else some (false, a0 ++ [q], x.1 0 305)) = some (decide (r.toInt ≠ 0), a, u.1 0 305) ∧ ES L2 e P v u a ∧ DS x u 0 := by
  have ds : ∀ {y : MS} {b : List EV}, ES L2 e P x y b → DS x y 0 := fun k => by have := k.2.1.2.2.1; unfold DS; omega
  have d0 : decide ((0 : Int32).toInt ≠ 0) = false := by decide
  have d1 : decide ((1 : Int32).toInt ≠ 0) = true := by decide
  rcases h with ⟨c, y, h1, h2, -, er, eu⟩ | ⟨c, r49, hk, r52, hs, -, ⟨c2, y, h1, h2, -, er, eu⟩ | ⟨c2, ⟨u9, -, f, -⟩ | ⟨y, h1, h2, -, er, eu⟩⟩⟩
  · have A := hr y h1 h2
    rw [if_neg (fun q => absurd (of_decide_eq_true q.1) (fun k => k c)), er, eu, d0]
    exact ⟨_, by rw [A.2], S.tr A.1 B, ds A.1⟩
  · have A := hr y h1 h2
    have ek := kdC hk S.1
    have := cSt9 hs
    rw [← ek, if_neg (fun q => (this.mpr q.2) c2), er, eu, d0]
    exact ⟨_, by rw [A.2], S.tr A.1 B, ds A.1⟩
  · cases f
  · have ek := kdC hk S.1
    have := cSt9 hs
    rw [eu] at cu ⊢
    obtain ⟨a, x1, x2⟩ := hch y h1 cu
    rw [if_pos ⟨decide_eq_true c, by rw [← ek]; exact this.mp c2⟩, x1, Option.bind_some, er, d1]
    exact ⟨_, rfl, S.tr x2 B, ds x2⟩
theorem gChg_sl {sl : Int} {g g' : Int32} {kn : List Int32} {pb i : Int32} (h : 0 ≤ sl) : gChange E false sl g e kn pb i = gChange E false sl g' e kn pb i := by
  unfold gChange gRead gPut
  simp only [if_pos h, Bool.false_eq_true, if_false]
end ULN
