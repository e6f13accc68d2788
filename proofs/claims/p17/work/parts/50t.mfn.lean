/-! functions whose orders have types -/
theorem FT.mono3 {nl nl' ng ng' gl gl' : Int} {k : Nat} {o : Int} {a : Int32} {A B : List Bool} (hn : nl ≤ nl') (hg : ng ≤ ng') (hl : gl ≤ gl') (h : FT nl ng gl k o a A B) : FT nl' ng' gl' k o a A B := by
  rcases h with h | h | h | h | h | h | h
  · exact Or.inl h
  · exact Or.inr (Or.inl ⟨h.1, h.2.1, by have := h.2.2.1; omega, h.2.2.2⟩)
  · exact Or.inr (Or.inr (Or.inl ⟨h.1, h.2.1, by have := h.2.2.1; omega, h.2.2.2⟩))
  · exact Or.inr (Or.inr (Or.inr (Or.inl ⟨h.1, h.2.1, by have := h.2.2.1; omega, h.2.2.2⟩)))
  · exact Or.inr (Or.inr (Or.inr (Or.inr (Or.inl ⟨h.1, h.2.1, by have := h.2.2.1; omega, h.2.2.2⟩))))
  · exact Or.inr (Or.inr (Or.inr (Or.inr (Or.inr (Or.inl ⟨h.1, h.2.1, by have := h.2.2.1; omega, h.2.2.2⟩)))))
  · exact Or.inr (Or.inr (Or.inr (Or.inr (Or.inr (Or.inr h)))))
section FNS
variable {nl nl' ng ng' gl gl' M M' : Int} {f g cm co f' g' cm' co' : Nat → Int32} {f0 hi c0 c1 : Nat} {labm : Nat → Nat} {τ : Nat → TT}
theorem TY.mono3 (h : TY nl ng gl M f g cm co f0 hi c0 c1 labm τ) (hg : ng ≤ ng') (hl : gl ≤ gl') : TY nl ng' gl' M f g cm co f0 hi c0 c1 labm τ := by
  obtain ⟨a1, a2, a3, a4, a5, a6, a7⟩ := h
  exact ⟨a1, a2, a3, fun j k1 k2 => ⟨(a4 j k1 k2).1.mono3 (Int.le_refl _) hg hl, (a4 j k1 k2).2⟩, a5, a6, a7⟩
theorem TY.same (h : TY nl ng gl M f g cm co f0 hi c0 c1 (fun _ => 0) τ) (hf : ∀ j, j < hi → f' j = f j) (hg : ∀ j, j < hi → g' j = g j) (hcm : ∀ c, c < c1 → cm' c = cm c) (hco : ∀ c, c < c1 → co' c = co c) : TY nl ng gl M f' g' cm' co' f0 hi c0 c1 (fun _ => 0) τ :=
  h.ext (Nat.le_refl _) (Nat.le_refl _) hf hg (fun c _ q => hcm c q) (fun c _ q => hco c q) (fun _ _ => rfl) rfl rfl (Int.le_refl _) (Int.le_refl _) (fun j k1 k2 => h.2.2.1 j (by have := h.1; omega) k2) (fun j k1 k2 => by omega) (fun j k1 k2 => by omega) (fun c k1 k2 => by omega) (fun _ _ => rfl) (fun j k1 k2 => absurd rfl k2)
end FNS
/-- function f: its orders are f0 to f1, its calls c0 to c1 -/
def FN1 (v : MS) (f f1 c0 c1 : Nat) (h : Int) (τ : Nat → TT) : Prop :=
  TY (v.1 21 f).toInt (v.1 0 28).toInt (v.1 0 27).toInt (1 + h) (v.1 13) (v.1 14) (v.1 36) (v.1 38) (v.1 20 f).toNatClampNeg f1 c0 c1 (fun _ => 0) τ ∧
  (∀ j, (v.1 20 f).toNatClampNeg ≤ j → j < f1 → (τ j).2.2.2 = false) ∧ (τ (v.1 20 f).toNatClampNeg).1 = [] ∧ (v.1 20 f).toNatClampNeg < f1 ∧ (v.1 13 (f1 - 1)).toInt = 15 ∧
  (f1 : Int) ≤ (v.1 0 15).toInt ∧ (c1 : Int) ≤ (v.1 0 39).toInt ∧ (v.1 18 f).toInt = 8 + 4 * h ∧ 0 ≤ (v.1 17 f).toInt ∧ (v.1 17 f).toInt ≤ (v.1 21 f).toInt ∧ (v.1 21 f).toInt ≤ h ∧ 0 ≤ (v.1 20 f).toInt ∧
  (∀ c : Nat, (c : Int) < (v.1 0 39).toInt → (v.1 20 f).toInt ≤ (v.1 38 c).toInt → (v.1 38 c).toInt < (f1 : Int) → (τ (v.1 38 c).toNatClampNeg).2.1 = (v.1 36 c).toNatClampNeg ∧ (v.1 13 (v.1 38 c).toNatClampNeg).toInt = 14)
def PG (v : MS) : Prop := (∀ c : Nat, (c : Int) < (v.1 0 39).toInt → 0 ≤ (v.1 38 c).toInt ∧ (v.1 38 c).toInt < (v.1 0 15).toInt) ∧ ∀ f : Nat, (f : Int) < (v.1 0 22).toInt → ∃ (f1 c0 c1 : Nat) (h : Int) (τ : Nat → TT), FN1 v f f1 c0 c1 h τ
theorem FN1.keep {v u : MS} {f f1 c0 c1 : Nat} {h : Int} {τ : Nat → TT} (p : FN1 v f f1 c0 c1 h τ) (hnew : ∀ c : Nat, (v.1 0 39).toInt ≤ (c : Int) → (c : Int) < (u.1 0 39).toInt → (v.1 0 15).toInt ≤ (u.1 38 c).toInt) (h15 : (v.1 0 15).toInt ≤ (u.1 0 15).toInt) (h39 : (v.1 0 39).toInt ≤ (u.1 0 39).toInt) (h27 : (v.1 0 27).toInt ≤ (u.1 0 27).toInt) (h28 : (v.1 0 28).toInt ≤ (u.1 0 28).toInt)
    (k13 : ∀ j : Nat, (j : Int) < (v.1 0 15).toInt → (u.1 13) j = (v.1 13) j) (k14 : ∀ j : Nat, (j : Int) < (v.1 0 15).toInt → (u.1 14) j = (v.1 14) j) (k36 : ∀ j : Nat, (j : Int) < (v.1 0 39).toInt → (u.1 36) j = (v.1 36) j) (k38 : ∀ j : Nat, (j : Int) < (v.1 0 39).toInt → (u.1 38) j = (v.1 38) j)
    (k17 : (u.1 17) f = (v.1 17) f) (k18 : (u.1 18) f = (v.1 18) f) (k20 : (u.1 20) f = (v.1 20) f) (k21 : (u.1 21) f = (v.1 21) f) : FN1 u f f1 c0 c1 h τ := by
  obtain ⟨t, p2, p3, p4, p5, p6, p7, p8, p9, p10, p11, p12, p13⟩ := p
  unfold FN1
  rw [k17, k18, k20, k21]
  refine ⟨((t.mono3 h28 h27).same (fun j hj => k13 j (by omega)) (fun j hj => k14 j (by omega)) (fun c hc => k36 c (by omega)) (fun c hc => k38 c (by omega))), p2, p3, p4, ?_, by omega, by omega, p8, p9, p10, p11, p12, fun c g1 g2 g3 => ?_⟩
  · rw [k13 (f1 - 1) (by omega)]; exact p5
  · by_cases w : (c : Int) < (v.1 0 39).toInt
    · rw [k38 c w] at g2 g3
      have ez := nat_z (x := v.1 38 c) (by omega)
      rw [k38 c w, k36 c w, k13 _ (by omega)]; exact p13 c w g2 g3
    · have := hnew c (by omega) g1
      omega
theorem PG.new {v : MS} (h : (v.1 0 22).toInt = 0) (h2 : (v.1 0 39).toInt = 0) : PG v := ⟨fun c hc => by omega, fun f hf => by omega⟩
theorem PG.fr {fl al : List Nat} {v u : MS} (h : PG v) (hf : FG fl al v u) (h1 : ∀ k ∈ [15, 22, 39], k ∉ fl) (h2 : ∀ k ∈ [13, 14, 17, 18, 20, 21, 36, 38], k ∉ al) (h27 : (v.1 0 27).toInt ≤ (u.1 0 27).toInt) (h28 : (v.1 0 28).toInt ≤ (u.1 0 28).toInt) : PG u := by
  have F : ∀ k, k ∈ [15, 22, 39] → u.1 0 k = v.1 0 k := fun k hk => hf.2.1 k (h1 k hk)
  have G : ∀ k, k ∈ [13, 14, 17, 18, 20, 21, 36, 38] → u.1 k = v.1 k := fun k hk => hf.2.2 k (h2 k hk)
  refine ⟨fun c hc => ?_, fun f q => ?_⟩
  · rw [F 39 (by decide)] at hc
    rw [G 38 (by decide), F 15 (by decide)]; exact h.1 c hc
  rw [F 22 (by decide)] at q
  obtain ⟨f1, c0, c1, hh, τ, p⟩ := h.2 f q
  exact ⟨f1, c0, c1, hh, τ, p.keep (fun c g1 g2 => by rw [F 39 (by decide)] at g2; omega) (by rw [F 15 (by decide)]; exact Int.le_refl _) (by rw [F 39 (by decide)]; exact Int.le_refl _) h27 h28 (fun j _ => by rw [G 13 (by decide)]) (fun j _ => by rw [G 14 (by decide)]) (fun j _ => by rw [G 36 (by decide)]) (fun j _ => by rw [G 38 (by decide)]) (by rw [G 17 (by decide)]) (by rw [G 18 (by decide)]) (by rw [G 20 (by decide)]) (by rw [G 21 (by decide)])⟩
theorem PG.add {v u : MS} {f1 c0 c1 : Nat} {h : Int} {τ : Nat → TT} (p : PG v) (h0 : 0 ≤ (v.1 0 22).toInt) (e22 : (u.1 0 22).toInt = (v.1 0 22).toInt + 1) (h15 : (v.1 0 15).toInt ≤ (u.1 0 15).toInt) (h39 : (v.1 0 39).toInt ≤ (u.1 0 39).toInt) (h27 : (v.1 0 27).toInt ≤ (u.1 0 27).toInt) (h28 : (v.1 0 28).toInt ≤ (u.1 0 28).toInt)
    (k13 : ∀ j : Nat, (j : Int) < (v.1 0 15).toInt → (u.1 13) j = (v.1 13) j) (k14 : ∀ j : Nat, (j : Int) < (v.1 0 15).toInt → (u.1 14) j = (v.1 14) j) (k36 : ∀ j : Nat, (j : Int) < (v.1 0 39).toInt → (u.1 36) j = (v.1 36) j) (k38 : ∀ j : Nat, (j : Int) < (v.1 0 39).toInt → (u.1 38) j = (v.1 38) j)
    (k17 : ∀ j : Nat, (j : Int) < (v.1 0 22).toInt → (u.1 17) j = (v.1 17) j) (k18 : ∀ j : Nat, (j : Int) < (v.1 0 22).toInt → (u.1 18) j = (v.1 18) j) (k20 : ∀ j : Nat, (j : Int) < (v.1 0 22).toInt → (u.1 20) j = (v.1 20) j) (k21 : ∀ j : Nat, (j : Int) < (v.1 0 22).toInt → (u.1 21) j = (v.1 21) j)
    (hx : (v.1 0 15).toInt ≤ (u.1 20 (v.1 0 22).toNatClampNeg).toInt) (hcn : (c0 : Int) = (v.1 0 39).toInt) (hc1 : (c1 : Int) = (u.1 0 39).toInt)
    (n : FN1 u (v.1 0 22).toNatClampNeg f1 c0 c1 h τ) : PG u := by
  have e := nat_z h0
  have ez := nat_z (x := u.1 20 (v.1 0 22).toNatClampNeg) n.2.2.2.2.2.2.2.2.2.2.2.1
  have nw : ∀ c : Nat, (v.1 0 39).toInt ≤ (c : Int) → (c : Int) < (u.1 0 39).toInt → (v.1 0 15).toInt ≤ (u.1 38 c).toInt ∧ (u.1 38 c).toInt < (f1 : Int) := fun c g1 g2 => by
    obtain ⟨d1, d2, _⟩ := n.1.2.2.2.2.2.1 c (by omega) (by omega)
    exact ⟨by omega, d2⟩
  have nf := n.2.2.2.2.2.1
  refine ⟨fun c hc => ?_, fun f q => ?_⟩
  · by_cases w : (c : Int) < (v.1 0 39).toInt
    · rw [k38 c w]; have := p.1 c w; omega
    · have g := nw c (by omega) hc
      obtain ⟨d1, d2, _⟩ := n.1.2.2.2.2.2.1 c (by omega) (by omega)
      omega
  by_cases w : (f : Int) < (v.1 0 22).toInt
  · obtain ⟨f2, d0, d1, hh, τ2, r⟩ := p.2 f w
    exact ⟨f2, d0, d1, hh, τ2, r.keep (fun c g1 g2 => (nw c g1 g2).1) h15 h39 h27 h28 k13 k14 k36 k38 (k17 f w) (k18 f w) (k20 f w) (k21 f w)⟩
  · rw [show f = (v.1 0 22).toNatClampNeg by omega]
    exact ⟨f1, c0, c1, h, τ, n⟩
def tau0 : Nat → TT := fun _ => ([], 0, true, false)
theorem TS.new {v : MS} {f0 c0 : Nat} (hf : f0 = (v.1 0 15).toNatClampNeg) (hc : c0 = (v.1 0 39).toNatClampNeg) (h52 : (v.1 0 52).toInt = 0) (h33 : 0 ≤ (v.1 0 33).toInt) : TS true v f0 c0 (fun _ => 0) tau0 := by
  subst hf hc
  refine ⟨⟨Nat.le_refl _, Nat.le_refl _, fun j _ _ => ?_, fun j k1 k2 => by omega, fun j k1 k2 => by omega, fun c k1 k2 => by omega, fun j hj => absurd rfl hj⟩, fun d h1 h2 => by omega, fun j i hj => absurd rfl hj, fun d h1 h2 => by omega, fun d h1 h2 => by omega, fun d h1 h2 => by omega⟩
  show ((0 : Nat) : Int) ≤ _
  omega
theorem L3.new : L3 (fun _ => 0) := fun j hj => absurd rfl hj
/-- a function's end -/
theorem TS.fn {u : MS} {f0 c0 f : Nat} {x20 : Int32} {labm : Nat → Nat} {τ : Nat → TT} (t : TS true u f0 c0 labm τ) (l3 : L3 labm) (lm : ∀ j : Nat, (labm j : Int) ≤ 2 * (u.1 0 52).toInt + 2) (e52 : (u.1 0 52).toInt = 0) (nh : NH τ x20 (u.1 0 15) []) (h0 : 0 ≤ x20.toInt) (hlt : x20.toInt + 1 ≤ (u.1 0 15).toInt)
    (h39 : 0 ≤ (u.1 0 39).toInt) (hco : ∀ c : Nat, c < c0 → (u.1 38 c).toInt < x20.toInt) (ef : f0 = x20.toNatClampNeg) (e20 : u.1 20 f = x20) (e0 : (τ f0).1 = []) (e15 : (u.1 13 ((u.1 0 15).toNatClampNeg - 1)).toInt = 15) (e21 : u.1 21 f = u.1 0 34) (e18 : (u.1 18 f).toInt = 8 + 4 * (u.1 0 33).toInt) (h17 : 0 ≤ (u.1 17 f).toInt) (h17b : (u.1 17 f).toInt ≤ (u.1 0 34).toInt) (h34 : (u.1 0 34).toInt ≤ (u.1 0 33).toInt) :
    FN1 u f (u.1 0 15).toNatClampNeg c0 (u.1 0 39).toNatClampNeg (u.1 0 33).toInt τ := by
  subst ef
  have z : labm = fun _ => 0 := funext (fun j => Decidable.byContradiction (fun w => by have := l3 j w; have := lm j; omega))
  have e1 := nat_z h0
  have e2 := nat_z (x := u.1 0 15) (by omega)
  have e3 := nat_z h39
  unfold FN1
  rw [e20, e21]
  have ty := t.1
  rw [z] at ty
  refine ⟨ty, fun j k1 k2 => ?_, e0, by omega, e15, by omega, by omega, e18, h17, h17b, h34, h0, fun c g1 g2 g3 => ?_⟩
  · cases q : (τ j).2.2.2
    · rfl
    · exact absurd (nh j (by omega) (by omega) q) (by simp)
  · by_cases w : c < c0
    · have := hco c w; omega
    · exact (ty.2.2.2.2.2.1 c (by omega) (by omega)).2.2
