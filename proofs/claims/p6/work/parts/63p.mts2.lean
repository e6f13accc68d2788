/-- a jump to a place of the open loop -/
theorem TS.sayJ {q : Bool} {v : MS} {f0 c0 : Nat} {labm : Nat → Nat} {τ : Nat → TT} {o a y z : Int32} {C : List Bool} {c : Bool} (h : TS q v f0 c0 labm τ) (ez : v.1 0 15 = z) (h0 : 0 ≤ z.toInt) (hy : y.toInt = z.toInt + 1) (hC : (C.length : Int) ≤ 1 + (v.1 0 33).toInt)
    (ho : o.toInt = 11 ∨ o.toInt = 12) (hT : ∀ T, JT o.toInt (τ z.toNatClampNeg).1 T → T = []) (hft : FT (v.1 0 34).toInt (v.1 0 28).toInt (v.1 0 27).toInt 0 o.toInt a (τ z.toNatClampNeg).1 C) (hcl : (τ z.toNatClampNeg).2.2.1 = true) (hc : o.toInt ≠ 12 → c = true) (ag : AGT (v.1 13) f0 z.toNatClampNeg τ a) :
    TS q (wA (wA (wA v 13 z.toNatClampNeg o) 14 z.toNatClampNeg a) 0 15 y) f0 c0 labm (sayT τ z.toNatClampNeg false C c) := by
  obtain ⟨g1, g2, g3, g4⟩ := ag
  have ea := nat_z (x := a) (by omega)
  refine h.say ez h0 hy hC hft (by omega) (fun w _ => by rw [hcl]; exact hc w) (fun T hJ => Or.inr ⟨g1, by omega, ?_, ?_⟩)
  · rw [sayT_k (by omega), g3, hT T hJ]
  · rw [sayT_k (j := a.toNatClampNeg) (by omega), sayT_0]
    rcases g4 with g4 | g4
    · exact Or.inr (Or.inl ⟨by omega, by rw [pk_un (by omega)]; exact g4⟩)
    · exact Or.inr (Or.inr ⟨by omega, hcl, g4⟩)
theorem TS.ag {q : Bool} {v : MS} {f0 c0 : Nat} {labm : Nat → Nat} {τ : Nat → TT} (h : TS q v f0 c0 labm τ) (hl : 1 ≤ (v.1 0 52).toInt) (ha : (v.1 0 55).toInt ≠ -1) : AGT (v.1 13) f0 (v.1 0 15).toNatClampNeg τ (v.1 0 56) := by
  have el := nat_z (x := v.1 0 52) (by omega)
  have g := h.2.1 (v.1 0 52).toNatClampNeg (by omega) (by omega)
  rw [pick_1 el, pick_1 el] at g
  exact g.resolve_left ha
theorem TS.noA {v : MS} {f0 c0 : Nat} {labm : Nat → Nat} {τ : Nat → TT} (h : TS true v f0 c0 labm τ) (hl : 1 ≤ (v.1 0 52).toInt) (ha : (v.1 0 55).toInt ≠ -1) : ∀ j : Nat, labm j ≠ 2 * (v.1 0 52).toNatClampNeg + 2 := fun j hj => by
  have el := nat_z (x := v.1 0 52) (by omega)
  have g := h.2.2.2.2.2 (v.1 0 52).toNatClampNeg (by omega) (by omega)
  rw [pick_1 el, pick_1 el] at g
  have k := h.2.2.2.2.1 (v.1 0 52).toNatClampNeg (by omega) (by omega) (Or.inl rfl) j hj
  rw [pick_1 el] at k
  have := g.resolve_left ha
  omega
theorem TS.weak {v : MS} {f0 c0 : Nat} {labm : Nat → Nat} {τ : Nat → TT} (h : TS true v f0 c0 labm τ) : TS false v f0 c0 labm τ := ⟨h.1, h.2.1, h.2.2.1, h.2.2.2.1, fun d h1 h2 _ => h.2.2.2.2.1 d h1 h2 (Or.inl rfl), h.2.2.2.2.2⟩
/-- what goes on again has arrived -/
theorem TS.arrA {v u : MS} {f0 c0 : Nat} {labm : Nat → Nat} {τ : Nat → TT} {z : Int32} {l : Nat} (h : TS true v f0 c0 labm τ) (hf : FG [] [14] v u) (hl : l = 2 * (v.1 0 52).toNatClampNeg + 2) (h52 : 0 ≤ (v.1 0 52).toInt) (h15 : 0 ≤ (v.1 0 15).toInt) (hz : z.toInt = (v.1 0 15).toInt)
    (kg : ∀ j : Nat, labm j ≠ l → u.1 14 j = v.1 14 j) (ka : ∀ j : Nat, labm j = l → u.1 14 j = z) (hB : (τ (v.1 0 15).toNatClampNeg).1 = []) (hc : (τ (v.1 0 15).toNatClampNeg).2.2.1 = true) : TS false u f0 c0 (labD labm l) τ := by
  have F : ∀ k, u.1 0 k = v.1 0 k := fun k => hf.2.1 k (by simp)
  have G : ∀ k, k ≠ 14 → u.1 k = v.1 k := fun k hk => hf.2.2 k (by simpa using hk)
  have el := nat_z h52
  have e15 := nat_z h15
  have ez := nat_z (x := z) (by omega)
  have zn : z.toNatClampNeg = (v.1 0 15).toNatClampNeg := by omega
  obtain ⟨t0, a2, a3, a4, a5, a6⟩ := h
  have c1 : ∀ j, labm j ≠ l → labD labm l j = labm j := fun j w => if_neg w
  have c2 : ∀ j, labm j = l → labD labm l j = 0 := fun j w => if_pos w
  have c3 : ∀ j, labD labm l j ≠ 0 → labD labm l j = labm j ∧ labm j ≠ 0 ∧ labm j ≠ l := fun j w => by
    by_cases g : labm j = l
    · exact absurd (c2 j g) w
    · exact ⟨c1 j g, by rw [← c1 j g]; exact w, g⟩
  have ty : TYv u f0 c0 (labD labm l) τ := by
    unfold TYv
    rw [F 15, F 27, F 28, F 33, F 34, F 39, G 13 (by decide), G 36 (by decide), G 38 (by decide)]
    obtain ⟨b1, b2, b3, b4, b5, b6, b7⟩ := t0
    refine ⟨b1, b2, b3, fun j k1 k2 => ?_, b5, b6, fun j hj => b7 j (c3 j hj).2.1⟩
    obtain ⟨d1, d2, d3⟩ := b4 j k1 k2
    by_cases w : labm j = l
    · obtain ⟨_, g2, g3, g4, g5⟩ := b7 j (by omega)
      unfold OKt
      rw [ka j w]
      refine ⟨?_, d2, fun T hT => Or.inr (Or.inr ?_)⟩
      · rw [g3]; exact Or.inr (Or.inr (Or.inr (Or.inr (Or.inr (Or.inr (Or.inr (Or.inr (Or.inr (Or.inr (Or.inl rfl))))))))))
      · have eT : T = [] := by
          rcases hT with ⟨q1, q2⟩ | ⟨q1, q2⟩
          · omega
          · rw [q2, g4]
        refine ⟨by omega, by omega, by rw [zn, hB, eT], Or.inl ⟨by omega, by rw [zn, hc, g5]⟩⟩
    · unfold OKt
      rw [kg j w]
      refine ⟨d1, d2, fun T hT => ?_⟩
      rcases d3 T hT with g | g | g
      · exact Or.inl g
      · exact Or.inr (Or.inl (by rw [c1 j w]; exact g))
      · exact Or.inr (Or.inr g)
  have P : ∀ k a d, a ≠ 14 → pick u k a d = pick v k a d := fun k a d ha => by unfold pick; rw [F 52, F k, G a ha]
  refine ⟨ty, fun d h1 h2 => ?_, fun j k g1 g2 g3 => ?_, fun d h1 h2 k hk => ?_, fun d h1 h2 h3 k hk => ?_, fun d h1 h2 => ?_⟩
  · rw [F 52] at h2
    rw [P 55 63 d (by decide), P 56 64 d (by decide), G 13 (by decide), F 15]; exact a2 d h1 h2
  · obtain ⟨q1, q2, q3⟩ := c3 j g1
    have q4 : labm k = labm j := by
      by_cases w : labm k = l
      · rw [c2 k w] at g2; exact absurd g2.symm g1
      · rw [← c1 k w, g2, q1]
    rw [kg j q3]; exact a3 j k q2 q4 g3
  · rw [F 52] at h2
    rw [P 54 62 d (by decide)]
    exact a4 d h1 h2 k ((c3 k (by omega)).1 ▸ hk)
  · rw [F 52] at h2 h3
    rw [P 58 66 d (by decide)]
    exact a5 d h1 h2 (Or.inl rfl) k ((c3 k (by omega)).1 ▸ hk)
  · rw [F 52] at h2
    rw [P 55 63 d (by decide), P 58 66 d (by decide)]; exact a6 d h1 h2
theorem labD_no {labm : Nat → Nat} {l : Nat} (h : l ≠ 0) : ∀ j : Nat, labD labm l j ≠ l := fun j => by unfold labD; split <;> omega
/-- places of jumps not yet led, all in H -/
def NH (τ : Nat → TT) (a z : Int32) (H : List Nat) : Prop := ∀ j : Nat, a.toInt ≤ (j : Int) → (j : Int) < z.toInt → (τ j).2.2.2 = true → j ∈ H
def L3 (lm : Nat → Nat) : Prop := ∀ j, lm j ≠ 0 → 3 ≤ lm j
def GQT (u : MS) (lo : Int) (z : Int32) (f0 c0 : Nat) (lab labm : Nat → Nat) (τ : Nat → TT) : Prop := ∃ (lab' labm' : Nat → Nat) (τ' : Nat → TT), GI true u lab' labm' ∧ (∀ j : Nat, (j : Int) < lo → lab' j = lab j) ∧ (∀ j : Nat, (j : Int) < z.toInt → labm' j = labm j) ∧ TS true u f0 c0 labm' τ' ∧ (∀ j : Nat, (j : Int) < z.toInt → τ' j = τ j) ∧ (τ' (u.1 0 15).toNatClampNeg).1 = [] ∧ (τ' (u.1 0 15).toNatClampNeg).2.2.1 = true ∧ NH τ' z (u.1 0 15) [] ∧ L3 labm' ∧ (τ' z.toNatClampNeg).1 = [] ∧ (τ' z.toNatClampNeg).2.2.1 = true
/-- what the end of a loop leaves -/
def EQT (u : MS) (lo lom : Int) (f0 c0 : Nat) (lab labm : Nat → Nat) (τ : Nat → TT) : Prop := ∃ (lab' labm' : Nat → Nat), GI true u lab' labm' ∧ (∀ j : Nat, (j : Int) < lo → lab' j = lab j) ∧ (∀ j : Nat, (j : Int) < lom → labm' j = labm j) ∧ TS true u f0 c0 labm' τ ∧ (τ (u.1 0 15).toNatClampNeg).1 = [] ∧ (τ (u.1 0 15).toNatClampNeg).2.2.1 = true ∧ L3 labm'
