/-! functions whose orders have types -/
theorem FT.mono3 {nl nl' ng ng' gl gl' : Int} {k : Nat} {o : Int} {a : Int32} {A B : List Bool} (hn : nl ≤ nl') (hg : ng ≤ ng') (hl : gl ≤ gl') (h : FT nl ng gl k o a A B) : FT nl' ng' gl' k o a A B := by
  rcases h with h | h | h | h | h | h | h
  · exact Or.inl h
  · exact Or.inr (Or.inl ⟨h.1, h.2.1, by have := h.2.2.1; omega, h.2.2.2⟩)
  · exact Or.inr (Or.inr (Or.inl ⟨h.1, h.2.1, by have := h.2.2.1; omega, h.2.2.2⟩))
  · exact Or.inr (Or.inr (Or.inr (Or.inl ⟨h.1, h.2.1, by have := h.2.2.1; omega, h.2.2.2⟩)))
  · exact Or.inr (Or.inr (Or.inr (Or.inr (Or.inl ⟨h.1, h.2.1, by have := h.2.2.1; omega, h.2.2.2⟩))))
  · exact Or.inr (Or.inr (Or.inr (Or.inr (Or.inr (Or.inl ⟨h.1, h.2.1, by have := h.2.2.1; omega, h.2.2.2⟩)))))
  · exact Or.inr (Or.inr (Or.inr (Or.inr (Or.inr (Or.inr h)))))
section FNS
variable {nl nl' ng ng' gl gl' M M' : Int} {f g cm co f' g' cm' co' : Nat → Int32} {f0 hi c0 c1 : Nat} {labm : Nat → Nat} {τ : Nat → TT}
theorem TY.mono3 (h : TY nl ng gl M f g cm co f0 hi c0 c1 labm τ) (hg : ng ≤ ng') (hl : gl ≤ gl') : TY nl ng' gl' M f g cm co f0 hi c0 c1 labm τ := by
  obtain ⟨a1, a2, a3, a4, a5, a6, a7⟩ := h
  exact ⟨a1, a2, a3, fun j k1 k2 => ⟨(a4 j k1 k2).1.mono3 (Int.le_refl _) hg hl, (a4 j k1 k2).2⟩, a5, a6, a7⟩
theorem TY.same (h : TY nl ng gl M f g cm co f0 hi c0 c1 (fun _ => 0) τ) (hf : ∀ j, j < hi → f' j = f j) (hg : ∀ j, j < hi → g' j = g j) (hcm : ∀ c, c < c1 → cm' c = cm c) (hco : ∀ c, c < c1 → co' c = co c) : TY nl ng gl M f' g' cm' co' f0 hi c0 c1 (fun _ => 0) τ :=
  h.ext (Nat.le_refl _) (Nat.le_refl _) hf hg (fun c _ q => hcm c q) (fun c _ q => hco c q) (fun _ _ => rfl) rfl rfl (Int.le_refl _) (Int.le_refl _) (fun j k1 k2 => h.2.2.1 j (by have := h.1; omega) k2) (fun j k1 k2 => by omega) (fun j k1 k2 => by omega) (fun c k1 k2 => by omega) (fun _ _ => rfl) (fun j k1 k2 => absurd rfl k2)
end FNS
def JO (x : Int32) : Prop := x.toInt = 10 ∨ x.toInt = 11 ∨ x.toInt = 12 ∨ x.toInt = 22 ∨ x.toInt = 23
theorem FT.jt {nl ng gl : Int} {k : Nat} {o a : Int32} {A B : List Bool} (h : FT nl ng gl k o.toInt a A B) (j : JO o) : ∃ T, JT o.toInt A T := by
  rcases j with j | j | j | j | j
  · exact ⟨B, Or.inl ⟨Or.inl j, FT.if0 _ _ _ _ _ _ (Or.inl j) h⟩⟩
  · exact ⟨B, Or.inl ⟨Or.inr j, FT.if0 _ _ _ _ _ _ (Or.inr j) h⟩⟩
  · exact ⟨A, Or.inr ⟨Or.inl j, rfl⟩⟩
  · exact ⟨A, Or.inr ⟨Or.inr (Or.inl j), rfl⟩⟩
  · exact ⟨A, Or.inr ⟨Or.inr (Or.inr j), rfl⟩⟩
/-- function f: its orders are f0 to f1, its calls c0 to c1 -/
def FN1 (v : MS) (f f1 c0 c1 : Nat) (h : Int) (τ : Nat → TT) : Prop :=
  TY (v.1 21 f).toInt (v.1 0 28).toInt (v.1 0 27).toInt (1 + h) (v.1 13) (v.1 14) (v.1 36) (v.1 38) (v.1 20 f).toNatClampNeg f1 c0 c1 (fun _ => 0) τ ∧
  (∀ j, (v.1 20 f).toNatClampNeg ≤ j → j < f1 → (τ j).2.2.2 = false) ∧ (τ (v.1 20 f).toNatClampNeg).1 = [] ∧ (v.1 20 f).toNatClampNeg < f1 ∧ (v.1 13 (f1 - 1)).toInt = 15 ∧
  (f1 : Int) ≤ (v.1 0 15).toInt ∧ (c1 : Int) ≤ (v.1 0 39).toInt ∧ (v.1 18 f).toInt = 8 + 4 * h ∧ 0 ≤ (v.1 17 f).toInt ∧ (v.1 17 f).toInt ≤ (v.1 21 f).toInt ∧ (v.1 21 f).toInt ≤ h ∧ 0 ≤ (v.1 20 f).toInt ∧
  (∀ c : Nat, (c : Int) < (v.1 0 39).toInt → (v.1 20 f).toInt ≤ (v.1 38 c).toInt → (v.1 38 c).toInt < (f1 : Int) → (τ (v.1 38 c).toNatClampNeg).2.1 = (v.1 36 c).toNatClampNeg ∧ (v.1 13 (v.1 38 c).toNatClampNeg).toInt = 14) ∧
  (∀ j : Nat, (v.1 20 f).toInt ≤ (j : Int) → j < f1 → JO (v.1 13 j) → (v.1 14 j).toInt < (f1 : Int))
def PG (v : MS) : Prop := (∀ c : Nat, (c : Int) < (v.1 0 39).toInt → 0 ≤ (v.1 38 c).toInt ∧ (v.1 38 c).toInt < (v.1 0 15).toInt) ∧ ∀ f : Nat, (f : Int) < (v.1 0 22).toInt → ∃ (f1 c0 c1 : Nat) (h : Int) (τ : Nat → TT), FN1 v f f1 c0 c1 h τ
theorem FN1.keep {v u : MS} {f f1 c0 c1 : Nat} {h : Int} {τ : Nat → TT} (p : FN1 v f f1 c0 c1 h τ) (hnew : ∀ c : Nat, (v.1 0 39).toInt ≤ (c : Int) → (c : Int) < (u.1 0 39).toInt → (v.1 0 15).toInt ≤ (u.1 38 c).toInt) (h15 : (v.1 0 15).toInt ≤ (u.1 0 15).toInt) (h39 : (v.1 0 39).toInt ≤ (u.1 0 39).toInt) (h27 : (v.1 0 27).toInt ≤ (u.1 0 27).toInt) (h28 : (v.1 0 28).toInt ≤ (u.1 0 28).toInt)
    (k13 : ∀ j : Nat, (j : Int) < (v.1 0 15).toInt → (u.1 13) j = (v.1 13) j) (k14 : ∀ j : Nat, (j : Int) < (v.1 0 15).toInt → (u.1 14) j = (v.1 14) j) (k36 : ∀ j : Nat, (j : Int) < (v.1 0 39).toInt → (u.1 36) j = (v.1 36) j) (k38 : ∀ j : Nat, (j : Int) < (v.1 0 39).toInt → (u.1 38) j = (v.1 38) j)
    (k17 : (u.1 17) f = (v.1 17) f) (k18 : (u.1 18) f = (v.1 18) f) (k20 : (u.1 20) f = (v.1 20) f) (k21 : (u.1 21) f = (v.1 21) f) : FN1 u f f1 c0 c1 h τ := by
  obtain ⟨t, p2, p3, p4, p5, p6, p7, p8, p9, p10, p11, p12, p13, p14⟩ := p
  unfold FN1
  rw [k17, k18, k20, k21]
  refine ⟨((t.mono3 h28 h27).same (fun j hj => k13 j (by omega)) (fun j hj => k14 j (by omega)) (fun c hc => k36 c (by omega)) (fun c hc => k38 c (by omega))), p2, p3, p4, ?_, by omega, by omega, p8, p9, p10, p11, p12, fun c g1 g2 g3 => ?_, fun j g1 g2 g3 => ?_⟩
  · rw [k13 (f1 - 1) (by omega)]; exact p5
  · by_cases w : (c : Int) < (v.1 0 39).toInt
    · rw [k38 c w] at g2 g3
      have ez := nat_z (x := v.1 38 c) (by omega)
      rw [k38 c w, k36 c w, k13 _ (by omega)]; exact p13 c w g2 g3
    · have := hnew c (by omega) g1
      omega
  · rw [k13 j (by omega)] at g3
    rw [k14 j (by omega)]; exact p14 j g1 g2 g3
theorem PG.new {v : MS} (h : (v.1 0 22).toInt = 0) (h2 : (v.1 0 39).toInt = 0) : PG v := ⟨fun c hc => by omega, fun f hf => by omega⟩
theorem PG.fr {fl al : List Nat} {v u : MS} (h : PG v) (hf : FG fl al v u) (h1 : ∀ k ∈ [15, 22, 39], k ∉ fl) (h2 : ∀ k ∈ [13, 14, 17, 18, 20, 21, 36, 38], k ∉ al) (h27 : (v.1 0 27).toInt ≤ (u.1 0 27).toInt) (h28 : (v.1 0 28).toInt ≤ (u.1 0 28).toInt) : PG u := by
  have F : ∀ k, k ∈ [15, 22, 39] → u.1 0 k = v.1 0 k := fun k hk => hf.2.1 k (h1 k hk)
  have G : ∀ k, k ∈ [13, 14, 17, 18, 20, 21, 36, 38] → u.1 k = v.1 k := fun k hk => hf.2.2 k (h2 k hk)
  refine ⟨fun c hc => ?_, fun f q => ?_⟩
  · rw [F 39 (by decide)] at hc
    rw [G 38 (by decide), F 15 (by decide)]; exact h.1 c hc
  rw [F 22 (by decide)] at q
  obtain ⟨f1, c0, c1, hh, τ, p⟩ := h.2 f q
  exact ⟨f1, c0, c1, hh, τ, p.keep (fun c g1 g2 => by rw [F 39 (by decide)] at g2; omega) (by rw [F 15 (by decide)]; exact Int.le_refl _) (by rw [F 39 (by decide)]; exact Int.le_refl _) h27 h28 (fun j _ => by rw [G 13 (by decide)]) (fun j _ => by rw [G 14 (by decide)]) (fun j _ => by rw [G 36 (by decide)]) (fun j _ => by rw [G 38 (by decide)]) (by rw [G 17 (by decide)]) (by rw [G 18 (by decide)]) (by rw [G 20 (by decide)]) (by rw [G 21 (by decide)])⟩
theorem PG.add {v u : MS} {f1 c0 c1 : Nat} {h : Int} {τ : Nat → TT} (p : PG v) (h0 : 0 ≤ (v.1 0 22).toInt) (e22 : (u.1 0 22).toInt = (v.1 0 22).toInt + 1) (h15 : (v.1 0 15).toInt ≤ (u.1 0 15).toInt) (h39 : (v.1 0 39).toInt ≤ (u.1 0 39).toInt) (h27 : (v.1 0 27).toInt ≤ (u.1 0 27).toInt) (h28 : (v.1 0 28).toInt ≤ (u.1 0 28).toInt)
    (k13 : ∀ j : Nat, (j : Int) < (v.1 0 15).toInt → (u.1 13) j = (v.1 13) j) (k14 : ∀ j : Nat, (j : Int) < (v.1 0 15).toInt → (u.1 14) j = (v.1 14) j) (k36 : ∀ j : Nat, (j : Int) < (v.1 0 39).toInt → (u.1 36) j = (v.1 36) j) (k38 : ∀ j : Nat, (j : Int) < (v.1 0 39).toInt → (u.1 38) j = (v.1 38) j)
    (k17 : ∀ j : Nat, (j : Int) < (v.1 0 22).toInt → (u.1 17) j = (v.1 17) j) (k18 : ∀ j : Nat, (j : Int) < (v.1 0 22).toInt → (u.1 18) j = (v.1 18) j) (k20 : ∀ j : Nat, (j : Int) < (v.1 0 22).toInt → (u.1 20) j = (v.1 20) j) (k21 : ∀ j : Nat, (j : Int) < (v.1 0 22).toInt → (u.1 21) j = (v.1 21) j)
    (hx : (v.1 0 15).toInt ≤ (u.1 20 (v.1 0 22).toNatClampNeg).toInt) (hcn : (c0 : Int) = (v.1 0 39).toInt) (hc1 : (c1 : Int) = (u.1 0 39).toInt)
    (n : FN1 u (v.1 0 22).toNatClampNeg f1 c0 c1 h τ) : PG u := by
  have e := nat_z h0
  have ez := nat_z (x := u.1 20 (v.1 0 22).toNatClampNeg) n.2.2.2.2.2.2.2.2.2.2.2.1
  have nw : ∀ c : Nat, (v.1 0 39).toInt ≤ (c : Int) → (c : Int) < (u.1 0 39).toInt → (v.1 0 15).toInt ≤ (u.1 38 c).toInt ∧ (u.1 38 c).toInt < (f1 : Int) := fun c g1 g2 => by
    obtain ⟨d1, d2, _⟩ := n.1.2.2.2.2.2.1 c (by omega) (by omega)
    exact ⟨by omega, d2⟩
  have nf := n.2.2.2.2.2.1
  refine ⟨fun c hc => ?_, fun f q => ?_⟩
  · by_cases w : (c : Int) < (v.1 0 39).toInt
    · rw [k38 c w]; have := p.1 c w; omega
    · have g := nw c (by omega) hc
      obtain ⟨d1, d2, _⟩ := n.1.2.2.2.2.2.1 c (by omega) (by omega)
      omega
  by_cases w : (f : Int) < (v.1 0 22).toInt
  · obtain ⟨f2, d0, d1, hh, τ2, r⟩ := p.2 f w
    exact ⟨f2, d0, d1, hh, τ2, r.keep (fun c g1 g2 => (nw c g1 g2).1) h15 h39 h27 h28 k13 k14 k36 k38 (k17 f w) (k18 f w) (k20 f w) (k21 f w)⟩
  · rw [show f = (v.1 0 22).toNatClampNeg by omega]
    exact ⟨f1, c0, c1, h, τ, n⟩
def tau0 : Nat → TT := fun _ => ([], 0, true, false)
theorem TS.new {v : MS} {f0 c0 : Nat} (hf : f0 = (v.1 0 15).toNatClampNeg) (hc : c0 = (v.1 0 39).toNatClampNeg) (h52 : (v.1 0 52).toInt = 0) (h33 : 0 ≤ (v.1 0 33).toInt) : TS true v f0 c0 (fun _ => 0) tau0 := by
  subst hf hc
  refine ⟨⟨Nat.le_refl _, Nat.le_refl _, fun j _ _ => ?_, fun j k1 k2 => by omega, fun j k1 k2 => by omega, fun c k1 k2 => by omega, fun j hj => absurd rfl hj⟩, fun d h1 h2 => by omega, fun j i hj => absurd rfl hj, fun d h1 h2 => by omega, fun d h1 h2 => by omega, fun d h1 h2 => by omega⟩
  show ((0 : Nat) : Int) ≤ _
  omega
theorem L3.new : L3 (fun _ => 0) := fun j hj => absurd rfl hj
/-- a function's end -/
theorem TS.fn {u : MS} {f0 c0 f : Nat} {x20 : Int32} {labm : Nat → Nat} {τ : Nat → TT} (t : TS true u f0 c0 labm τ) (l3 : L3 labm) (lm : ∀ j : Nat, (labm j : Int) ≤ 2 * (u.1 0 52).toInt + 2) (e52 : (u.1 0 52).toInt = 0) (nh : NH τ x20 (u.1 0 15) []) (h0 : 0 ≤ x20.toInt) (hlt : x20.toInt + 1 ≤ (u.1 0 15).toInt)
    (h39 : 0 ≤ (u.1 0 39).toInt) (hco : ∀ c : Nat, c < c0 → (u.1 38 c).toInt < x20.toInt) (hjm : ∀ j : Nat, x20.toInt ≤ (j : Int) → (j : Int) < (u.1 0 15).toInt → JO (u.1 13 j) → (u.1 14 j).toInt < (u.1 0 15).toInt) (ef : f0 = x20.toNatClampNeg) (e20 : u.1 20 f = x20) (e0 : (τ f0).1 = []) (e15 : (u.1 13 ((u.1 0 15).toNatClampNeg - 1)).toInt = 15) (e21 : u.1 21 f = u.1 0 34) (e18 : (u.1 18 f).toInt = 8 + 4 * (u.1 0 33).toInt) (h17 : 0 ≤ (u.1 17 f).toInt) (h17b : (u.1 17 f).toInt ≤ (u.1 0 34).toInt) (h34 : (u.1 0 34).toInt ≤ (u.1 0 33).toInt) :
    FN1 u f (u.1 0 15).toNatClampNeg c0 (u.1 0 39).toNatClampNeg (u.1 0 33).toInt τ := by
  subst ef
  have z : labm = fun _ => 0 := funext (fun j => Decidable.byContradiction (fun w => by have := l3 j w; have := lm j; omega))
  have e1 := nat_z h0
  have e2 := nat_z (x := u.1 0 15) (by omega)
  have e3 := nat_z h39
  unfold FN1
  rw [e20, e21]
  have ty := t.1
  rw [z] at ty
  refine ⟨ty, fun j k1 k2 => ?_, e0, by omega, e15, by omega, by omega, e18, h17, h17b, h34, h0, fun c g1 g2 g3 => ?_, fun j g1 g2 g3 => by have := hjm j g1 (by omega) g3; omega⟩
  · cases q : (τ j).2.2.2
    · rfl
    · exact absurd (nh j (by omega) (by omega) q) (by simp)
  · by_cases w : c < c0
    · have := hco c w; omega
    · exact (ty.2.2.2.2.2.1 c (by omega) (by omega)).2.2
theorem TS.jm {u : MS} {f0 c0 : Nat} {x : Int32} {labm : Nat → Nat} {τ : Nat → TT} (t : TS true u f0 c0 labm τ) (l3 : L3 labm) (lm : ∀ j : Nat, (labm j : Int) ≤ 2 * (u.1 0 52).toInt + 2) (e52 : (u.1 0 52).toInt = 0) (nh : NH τ x (u.1 0 15) []) (h0 : 0 ≤ x.toInt) (h15 : 0 ≤ (u.1 0 15).toInt) (ef : f0 = x.toNatClampNeg) :
    ∀ j : Nat, x.toInt ≤ (j : Int) → (j : Int) < (u.1 0 15).toInt → JO (u.1 13 j) → (u.1 14 j).toInt ≤ (u.1 0 15).toInt := fun j g1 g2 g3 => by
  subst ef
  have e1 := nat_z h0
  have e2 := nat_z h15
  obtain ⟨d1, d2, d3⟩ := t.1.2.2.2.1 j (by omega) (by omega)
  obtain ⟨T, hT⟩ := d1.jt g3
  rcases d3 T hT with q | q | q
  · exact absurd (nh j g1 g2 q) (by simp)
  · have := l3 j q; have := lm j; omega
  · have := q.2.1; omega
theorem jm_end {o a o' a' : Nat → Int32} {z y w x t x1 x2 : Int32} (jm : ∀ j : Nat, x.toInt ≤ (j : Int) → (j : Int) < t.toInt → JO (o' j) → (a' j).toInt ≤ t.toInt) (eo : o = o') (ea : a = a') (ht : t.toInt = z.toInt) (h0 : 0 ≤ z.toInt) (hy : y.toInt = z.toInt + 1) (hw : w.toInt = z.toInt + 2) :
    ∀ j : Nat, x.toInt ≤ (j : Int) → (j : Int) < w.toInt → JO (upd (upd o z.toNatClampNeg 0) y.toNatClampNeg 15 j) → (upd (upd a z.toNatClampNeg x1) y.toNatClampNeg x2 j).toInt < w.toInt := fun j g1 g2 g3 => by
  subst eo ea
  have e1 := nat_z h0
  have e2 := nat_z (x := y) (by omega)
  by_cases q : j = y.toNatClampNeg
  · rw [q, pk_us] at g3; exact absurd g3 (by unfold JO; decide)
  · rw [pk_un q] at g3 ⊢
    by_cases q2 : j = z.toNatClampNeg
    · rw [q2, pk_us] at g3; exact absurd g3 (by unfold JO; decide)
    · rw [pk_un q2] at g3 ⊢
      have := jm j g1 (by omega) g3
      omega
/-! the program as it is obeyed -/
def FN2 (o a mn fr go lo : Nat → Int32) (nF ng gl : Int) (f f1 : Nat) (h : Int) (τ : Nat → TT) : Prop :=
  (go f).toNatClampNeg < f1 ∧ (τ (go f).toNatClampNeg).1 = [] ∧ (o (f1 - 1)).toInt = 15 ∧
  (∀ j, (go f).toNatClampNeg ≤ j → j ≤ f1 → ((τ j).1.length : Int) ≤ 1 + h) ∧
  (∀ j, (go f).toNatClampNeg ≤ j → j < f1 → FT (lo f).toInt ng gl (τ j).2.1 (o j).toInt (a j) (τ j).1 (τ (j + 1)).1 ∧ ((o j).toInt ≠ 12 → (o j).toInt ≠ 15 → (τ (j + 1)).2.2.1 = (τ j).2.2.1) ∧
    (∀ T, JT (o j).toInt (τ j).1 T → TG o (go f).toNatClampNeg f1 τ j (a j) T ∧ (a j).toInt < (f1 : Int)) ∧ ((o j).toInt = 14 → 0 ≤ (a j).toInt ∧ (a j).toInt < nF ∧ (mn (a j).toNatClampNeg).toNatClampNeg = (τ j).2.1)) ∧
  (fr f).toInt = 8 + 4 * h ∧ 0 ≤ (mn f).toInt ∧ (mn f).toInt ≤ (lo f).toInt ∧ (lo f).toInt ≤ h ∧ 0 ≤ (go f).toInt
def PG2 (v : MS) : Prop := ∀ f : Nat, (f : Int) < (v.1 0 22).toInt → ∃ (f1 : Nat) (h : Int) (τ : Nat → TT), FN2 (v.1 13) (v.1 14) (v.1 17) (v.1 18) (v.1 20) (v.1 21) (v.1 0 22).toInt (v.1 0 28).toInt (v.1 0 27).toInt f f1 h τ ∧ (f1 : Int) ≤ (v.1 0 15).toInt
/-- what has been taken over -/
def BG (v : MS) : Prop := ∀ f : Nat, (f : Int) < (v.1 0 74).toInt → ∃ (f1 : Nat) (h : Int) (τ : Nat → TT), FN2 (v.1 71) (v.1 72) (v.1 78) (v.1 79) (v.1 81) (v.1 82) (v.1 0 74).toInt (v.1 0 76).toInt (v.1 0 75).toInt f f1 h τ ∧ (f1 : Int) ≤ 16000
def BF (v : MS) : Prop := ∀ g : Nat, (g : Int) < (v.1 0 75).toInt → 0 ≤ (v.1 86 g).toInt ∧ 1 ≤ (v.1 85 g).toInt ∧ (v.1 86 g).toInt + (v.1 85 g).toInt ≤ (v.1 0 76).toInt
theorem TG.keep {o o' : Nat → Int32} {f0 hi j : Nat} {τ : Nat → TT} {a : Int32} {T : List Bool} (h : TG o f0 hi τ j a T) (ho : ∀ i, i < hi → o' i = o i) : TG o' f0 hi τ j a T := by
  obtain ⟨d1, d2, d3, d4⟩ := h
  refine ⟨d1, d2, d3, ?_⟩
  rcases d4 with d | ⟨d, d'⟩ | d
  · exact Or.inl d
  · have := nat_z (x := a) (by omega)
    exact Or.inr (Or.inl ⟨d, by rw [ho _ (by omega)]; exact d'⟩)
  · exact Or.inr (Or.inr d)
theorem FN2.keep {o a mn fr go lo o' a' mn' fr' go' lo' : Nat → Int32} {nF ng gl : Int} {f f1 : Nat} {h : Int} {τ : Nat → TT} (p : FN2 o a mn fr go lo nF ng gl f f1 h τ) (hf : (f : Int) < nF) (ko : ∀ j, j < f1 → o' j = o j) (ka : ∀ j, j < f1 → a' j = a j) (km : ∀ j : Nat, (j : Int) < nF → mn' j = mn j) (kf : fr' f = fr f) (kg : go' f = go f) (kl : lo' f = lo f) : FN2 o' a' mn' fr' go' lo' nF ng gl f f1 h τ := by
  obtain ⟨p1, p2, p3, p4, p5, p6, p7, p8, p9, p10⟩ := p
  unfold FN2
  rw [kg, kl, kf, km f hf]
  refine ⟨p1, p2, by rw [ko _ (by omega)]; exact p3, p4, fun j k1 k2 => ?_, p6, p7, p8, p9, p10⟩
  rw [ko j k2, ka j k2]
  obtain ⟨d1, d2, d3, d4⟩ := p5 j k1 k2
  refine ⟨d1, d2, fun T hT => ⟨(d3 T hT).1.keep ko, (d3 T hT).2⟩, fun q => ?_⟩
  obtain ⟨e1, e2, e3⟩ := d4 q
  have := nat_z e1
  exact ⟨e1, e2, by rw [km _ (by omega)]; exact e3⟩
theorem BG.of {v u : MS} (p : PG2 v) (e74 : (u.1 0 74).toInt = (v.1 0 22).toInt) (e75 : (u.1 0 75).toInt = (v.1 0 27).toInt) (e76 : (u.1 0 76).toInt = (v.1 0 28).toInt) (h15 : (v.1 0 15).toInt ≤ 16000)
    (c71 : ∀ j : Nat, (j : Int) < (v.1 0 15).toInt → (u.1 71) j = (v.1 13) j) (c72 : ∀ j : Nat, (j : Int) < (v.1 0 15).toInt → (u.1 72) j = (v.1 14) j) (c78 : ∀ j : Nat, (j : Int) < (v.1 0 22).toInt → (u.1 78) j = (v.1 17) j) (c79 : ∀ j : Nat, (j : Int) < (v.1 0 22).toInt → (u.1 79) j = (v.1 18) j)
    (c81 : ∀ j : Nat, (j : Int) < (v.1 0 22).toInt → (u.1 81) j = (v.1 20) j) (c82 : ∀ j : Nat, (j : Int) < (v.1 0 22).toInt → (u.1 82) j = (v.1 21) j) : BG u := fun f hf => by
  rw [e74] at hf
  obtain ⟨f1, h, τ, q, q2⟩ := p f hf
  refine ⟨f1, h, τ, ?_, by omega⟩
  rw [e74, e75, e76]
  exact q.keep hf (fun j hj => c71 j (by omega)) (fun j hj => c72 j (by omega)) c78 (c79 f hf) (c81 f hf) (c82 f hf)
theorem BG.fr {fl al : List Nat} {v u : MS} (h : BG v) (hf : ∀ k, k ∉ fl → u.1 0 k = v.1 0 k) (hg : ∀ k, k ∉ al → u.1 k = v.1 k) (h1 : ∀ k ∈ [74, 75, 76], k ∉ fl) (h2 : ∀ k ∈ [71, 72, 78, 79, 81, 82], k ∉ al) : BG u := by
  have F : ∀ k, k ∈ [74, 75, 76] → u.1 0 k = v.1 0 k := fun k hk => hf k (h1 k hk)
  have G : ∀ k, k ∈ [71, 72, 78, 79, 81, 82] → u.1 k = v.1 k := fun k hk => hg k (h2 k hk)
  unfold BG
  rw [F 74 (by decide), F 75 (by decide), F 76 (by decide), G 71 (by decide), G 72 (by decide), G 78 (by decide), G 79 (by decide), G 81 (by decide), G 82 (by decide)]
  exact h
/-! a call's function -/
noncomputable def FNv (v : MS) (c : Nat) : Int32 := fnF (fun k9 => smF (v.1 3) (v.1 7) (v.1 8) (v.1 16 k9).toNatClampNeg (v.1 35 c).toNatClampNeg) (v.1 0 22).toNatClampNeg
def CK (v : MS) (c : Nat) : Prop := 0 ≤ (FNv v c).toInt ∧ (FNv v c).toInt < (v.1 0 22).toInt ∧ v.1 17 (FNv v c).toNatClampNeg = v.1 36 c
def RW (v : MS) (g : Nat → Int32) (k : Int32) : Prop := ∀ j : Nat, (g j = v.1 14 j ∧ ∀ c : Nat, (c : Int) < k.toInt → (v.1 38 c).toInt ≠ (j : Int)) ∨ ∃ c : Nat, (c : Int) < k.toInt ∧ (v.1 38 c).toInt = (j : Int) ∧ g j = FNv v c
theorem RW.nil {v : MS} {k : Int32} (h : k.toInt = 0) : RW v (v.1 14) k := fun j => Or.inl ⟨rfl, fun c hc => by omega⟩
theorem RW.step {v : MS} {g : Nat → Int32} {k k' x i : Int32} (h : RW v g k) (h0 : 0 ≤ k.toInt) (hk : k'.toInt = k.toInt + 1) (hi : i = v.1 38 k.toNatClampNeg) (hi0 : 0 ≤ i.toInt) (hx : x = FNv v k.toNatClampNeg) : RW v (upd g i.toNatClampNeg x) k' := fun j => by
  have e := nat_z h0
  have ei := nat_z hi0
  by_cases q : j = i.toNatClampNeg
  · exact Or.inr ⟨k.toNatClampNeg, by omega, by rw [← hi]; omega, by rw [q, pk_us, hx]⟩
  · rw [pk_un q]
    rcases h j with ⟨d1, d2⟩ | ⟨c, d1, d2, d3⟩
    · refine Or.inl ⟨d1, fun c hc => ?_⟩
      by_cases w : (c : Int) < k.toInt
      · exact d2 c w
      · rw [show c = k.toNatClampNeg by omega, ← hi]; omega
    · exact Or.inr ⟨c, by omega, d2, d3⟩
theorem ck_step {P : Nat → Prop} {k k' : Int32} (h : ∀ c : Nat, (c : Int) < k.toInt → P c) (h0 : 0 ≤ k.toInt) (hk : k'.toInt = k.toInt + 1) (n : P k.toNatClampNeg) : ∀ c : Nat, (c : Int) < k'.toInt → P c := fun c hc => by
  have e := nat_z h0
  by_cases w : (c : Int) < k.toInt
  · exact h c w
  · rw [show c = k.toNatClampNeg by omega]; exact n
theorem FT.a14 {nl ng gl : Int} {k : Nat} {o : Int} {a a' : Int32} {A B : List Bool} (ho : o = 14) (h : FT nl ng gl k o a A B) : FT nl ng gl k o a' A B := by
  rcases h with h | h | h | h | h | h | h | h | h | h | h | h | h | h | h | h
  all_goals first
    | exact Or.inr (Or.inr (Or.inr (Or.inr (Or.inr (Or.inr (Or.inr (Or.inr (Or.inr (Or.inr (Or.inr (Or.inr (Or.inl h))))))))))))
    | (exfalso; have := h.1; omega)
    | (exfalso; omega)
theorem PG.two {v w : MS} {k : Int32} (p : PG v) (hk : k.toInt = (v.1 0 39).toInt) (ck : ∀ c : Nat, (c : Int) < k.toInt → CK v c) (rw_ : RW v (w.1 14) k) (F : ∀ k ∈ [15, 22, 27, 28], w.1 0 k = v.1 0 k) (G : ∀ k ∈ [13, 17, 18, 20, 21], w.1 k = v.1 k) : PG2 w := fun f hf => by
  rw [F 22 (by decide)] at hf
  obtain ⟨f1, c0, c1, h, τ, t, p2, p3, p4, p5, p6, p7, p8, p9, p10, p11, p12, p13, p14⟩ := p.2 f hf
  have e20 := nat_z p12
  refine ⟨f1, h, τ, ?_, by rw [F 15 (by decide)]; exact p6⟩
  rw [F 22 (by decide), F 27 (by decide), F 28 (by decide), G 13 (by decide), G 17 (by decide), G 18 (by decide), G 20 (by decide), G 21 (by decide)]
  refine ⟨p4, p3, p5, t.2.2.1, fun j k1 k2 => ?_, p8, p9, p10, p11, p12⟩
  obtain ⟨d1, d2, d3⟩ := t.2.2.2.1 j k1 k2
  rcases rw_ j with ⟨e1, e2⟩ | ⟨c, e1, e2, e3⟩
  · rw [e1]
    refine ⟨d1, d2, fun T hT => ?_, fun q => ?_⟩
    · rcases d3 T hT with g | g | g
      · rw [p2 j k1 k2] at g; exact absurd g (by decide)
      · exact absurd rfl g
      · refine ⟨g, p14 j (by omega) k2 ?_⟩
        rcases hT with ⟨g1, _⟩ | ⟨g1, _⟩ <;> unfold JO <;> omega
    · obtain ⟨c, g1, g2, g3⟩ := t.2.2.2.2.1 j k1 k2 q
      exact absurd g3 (e2 c (by omega))
  · have ej : (v.1 38 c).toNatClampNeg = j := by have := nat_z (x := v.1 38 c) (by omega); omega
    obtain ⟨q1, q2⟩ := p13 c (by omega) (by omega) (by omega)
    rw [ej] at q1 q2
    obtain ⟨c1', c2', c3'⟩ := ck c e1
    rw [e3]
    refine ⟨d1.a14 q2, d2, fun T hT => ?_, fun _ => ⟨c1', c2', by rw [c3', q1]⟩⟩
    rcases hT with ⟨g1, _⟩ | ⟨g1, _⟩ <;> omega
theorem ck_mk {v : MS} {c : Nat} {r : Int32} (e : r = FNv v c) (h0 : 0 ≤ r.toInt) (h1 : r.toInt < (v.1 0 22).toInt) (h2 : (v.1 17 r.toNatClampNeg).toInt = (v.1 36 c).toInt) : CK v c := by
  unfold CK
  rw [← e]
  exact ⟨h0, h1, Int32.toInt_inj.mp h2⟩
theorem FNv.fr {fl al : List Nat} {v w : MS} (h : FG fl al v w) (h1 : 22 ∉ fl) (h2 : ∀ k ∈ [3, 7, 8, 16, 35], k ∉ al) (c : Nat) : FNv w c = FNv v c := by
  unfold FNv
  rw [h.2.1 22 h1, h.2.2 3 (h2 3 (by decide)), h.2.2 7 (h2 7 (by decide)), h.2.2 8 (h2 8 (by decide)), h.2.2 16 (h2 16 (by decide)), h.2.2 35 (h2 35 (by decide))]
theorem mem4 {k : Nat} (h : k ∈ [15, 22, 27, 28]) : k = 15 ∨ k = 22 ∨ k = 27 ∨ k = 28 := by simpa using h
theorem mem5 {k : Nat} (h : k ∈ [13, 17, 18, 20, 21]) : k = 13 ∨ k = 17 ∨ k = 18 ∨ k = 20 ∨ k = 21 := by simpa using h
theorem BF.of {v u : MS} (p : GF v) (e75 : (u.1 0 75).toInt = (v.1 0 27).toInt) (e76 : (u.1 0 76).toInt = (v.1 0 28).toInt) (c85 : ∀ j : Nat, (j : Int) < (v.1 0 27).toInt → (u.1 85) j = (v.1 24) j) (c86 : ∀ j : Nat, (j : Int) < (v.1 0 27).toInt → (u.1 86) j = (v.1 25) j) : BF u := fun g hg => by
  rw [e75] at hg
  rw [e76, c85 g hg, c86 g hg]; exact p g hg
theorem BF.fr {fl al : List Nat} {v u : MS} (h : BF v) (hf : ∀ k, k ∉ fl → u.1 0 k = v.1 0 k) (hg : ∀ k, k ∉ al → u.1 k = v.1 k) (h1 : ∀ k ∈ [75, 76], k ∉ fl) (h2 : ∀ k ∈ [85, 86], k ∉ al) : BF u := by
  unfold BF
  rw [hf 75 (h1 75 (by decide)), hf 76 (h1 76 (by decide)), hg 85 (h2 85 (by decide)), hg 86 (h2 86 (by decide))]
  exact h
