/-! the types of the orders of the function that is read, and where its jumps may go -/
def AGT (f : Nat → Int32) (f0 hi : Nat) (τ : Nat → TT) (x : Int32) : Prop := (f0 : Int) ≤ x.toInt ∧ x.toInt < (hi : Int) ∧ (τ x.toNatClampNeg).1 = [] ∧ ((f x.toNatClampNeg).toInt = 13 ∨ (τ x.toNatClampNeg).2.2.1 = false)
def TYv (v : MS) (f0 c0 : Nat) (labm : Nat → Nat) (τ : Nat → TT) : Prop := TY (v.1 0 34).toInt (v.1 0 28).toInt (v.1 0 27).toInt (1 + (v.1 0 33).toInt) (v.1 13) (v.1 14) (v.1 36) (v.1 38) f0 (v.1 0 15).toNatClampNeg c0 (v.1 0 39).toNatClampNeg labm τ
def TS (q : Bool) (v : MS) (f0 c0 : Nat) (labm : Nat → Nat) (τ : Nat → TT) : Prop :=
  TYv v f0 c0 labm τ ∧
  (∀ d : Nat, 1 ≤ d → (d : Int) ≤ (v.1 0 52).toInt → (pick v 55 63 d).toInt = -1 ∨ AGT (v.1 13) f0 (v.1 0 15).toNatClampNeg τ (pick v 56 64 d)) ∧
  (∀ j i : Nat, labm j ≠ 0 → labm i = labm j → i < j → (i : Int) ≤ (v.1 14 j).toInt) ∧
  (∀ d : Nat, 1 ≤ d → (d : Int) ≤ (v.1 0 52).toInt → ∀ i, labm i = 2 * d + 1 → (i : Int) ≤ (pick v 54 62 d).toInt) ∧
  (∀ d : Nat, 1 ≤ d → (d : Int) ≤ (v.1 0 52).toInt → (q = true ∨ (d : Int) < (v.1 0 52).toInt) → ∀ i, labm i = 2 * d + 2 → (i : Int) ≤ (pick v 58 66 d).toInt) ∧
  (∀ d : Nat, 1 ≤ d → (d : Int) ≤ (v.1 0 52).toInt → (pick v 55 63 d).toInt = -1 ∨ (pick v 58 66 d).toInt = -1)
/-- the same loops, a longer stretch -/
theorem TS.gen {q : Bool} {v u : MS} {f0 c0 : Nat} {labm : Nat → Nat} {τ τ' : Nat → TT} (h : TS q v f0 c0 labm τ) (ty : TYv u f0 c0 labm τ') (e52 : u.1 0 52 = v.1 0 52) (e54 : u.1 0 54 = v.1 0 54) (e55 : u.1 0 55 = v.1 0 55) (e56 : u.1 0 56 = v.1 0 56) (e58 : u.1 0 58 = v.1 0 58)
    (e62 : u.1 62 = v.1 62) (e63 : u.1 63 = v.1 63) (e64 : u.1 64 = v.1 64) (e66 : u.1 66 = v.1 66) (hh : (v.1 0 15).toNatClampNeg ≤ (u.1 0 15).toNatClampNeg) (hf : ∀ j, j < (v.1 0 15).toNatClampNeg → u.1 13 j = v.1 13 j)
    (hg : ∀ j, j < (v.1 0 15).toNatClampNeg → labm j ≠ 0 → u.1 14 j = v.1 14 j) (hτ : ∀ j, j < (v.1 0 15).toNatClampNeg → (τ' j).1 = (τ j).1 ∧ (τ' j).2.2.1 = (τ j).2.2.1) : TS q u f0 c0 labm τ' := by
  obtain ⟨a1, a2, a3, a4, a5, a6⟩ := h
  refine ⟨ty, fun d h1 h2 => ?_, fun j i k1 k2 k3 => ?_, ?_, ?_, ?_⟩
  · rw [e52] at h2
    have p1 : pick u 55 63 d = pick v 55 63 d := by unfold pick; rw [e52, e55, e63]
    have p2 : pick u 56 64 d = pick v 56 64 d := by unfold pick; rw [e52, e56, e64]
    rw [p1, p2]
    rcases a2 d h1 h2 with b | ⟨b1, b2, b3, b4⟩
    · exact Or.inl b
    · have ez := nat_z (x := pick v 56 64 d) (by omega)
      have hl : (pick v 56 64 d).toNatClampNeg < (v.1 0 15).toNatClampNeg := by omega
      refine Or.inr ⟨b1, by omega, by rw [(hτ _ hl).1]; exact b3, ?_⟩
      rw [hf _ hl, (hτ _ hl).2]; exact b4
  · have g := (a1.2.2.2.2.2.2 j k1).2.1
    rw [hg j g k1]; exact a3 j i k1 k2 k3
  · unfold pick; rw [e52, e54, e62]; exact a4
  · unfold pick; rw [e52, e58, e66]; exact a5
  · unfold pick; rw [e52, e55, e63, e58, e66]; exact a6
/-- nothing of the orders has changed -/
theorem TY.arr {nl nl' ng gl M M' : Int} {f g cm co : Nat → Int32} {f0 hi c0 c1 : Nat} {labm : Nat → Nat} {τ : Nat → TT} (h : TY nl ng gl M f g cm co f0 hi c0 c1 labm τ) (hM : M ≤ M') (hn : nl ≤ nl') : TY nl' ng gl M' f g cm co f0 hi c0 c1 labm τ :=
  h.ext (Nat.le_refl _) (Nat.le_refl _) (fun _ _ => rfl) (fun _ _ => rfl) (fun _ _ _ => rfl) (fun _ _ _ => rfl) (fun _ _ => rfl) rfl rfl hM hn (fun j k1 k2 => by
    have e : j = hi := by omega
    have := h.2.2.1 j (by have := h.1; omega) k2
    omega) (fun j k1 k2 => by omega) (fun j k1 k2 => by omega) (fun c k1 k2 => by omega) (fun _ _ => rfl) (fun j k1 k2 => by
    have := (h.2.2.2.2.2.2 j k2).2.1
    omega)
theorem TS.fr {q : Bool} {fl al : List Nat} {v u : MS} {f0 c0 : Nat} {labm : Nat → Nat} {τ : Nat → TT} (h : TS q v f0 c0 labm τ) (hf : FG fl al v u) (h1 : ∀ k ∈ [15, 27, 28, 39, 52, 54, 55, 56, 58], k ∉ fl) (h2 : ∀ k ∈ [13, 14, 36, 38, 62, 63, 64, 66], k ∉ al) (hn : (v.1 0 34).toInt ≤ (u.1 0 34).toInt) (hM : (v.1 0 33).toInt ≤ (u.1 0 33).toInt) : TS q u f0 c0 labm τ := by
  have F : ∀ k, k ∈ [15, 27, 28, 39, 52, 54, 55, 56, 58] → u.1 0 k = v.1 0 k := fun k hk => hf.2.1 k (h1 k hk)
  have G : ∀ k, k ∈ [13, 14, 36, 38, 62, 63, 64, 66] → u.1 k = v.1 k := fun k hk => hf.2.2 k (h2 k hk)
  refine h.gen ?_ (F 52 (by decide)) (F 54 (by decide)) (F 55 (by decide)) (F 56 (by decide)) (F 58 (by decide)) (G 62 (by decide)) (G 63 (by decide)) (G 64 (by decide)) (G 66 (by decide)) (by rw [F 15 (by decide)]; exact Nat.le_refl _) (fun j _ => by rw [G 13 (by decide)]) (fun j _ _ => by rw [G 14 (by decide)]) (fun _ _ => ⟨rfl, rfl⟩)
  unfold TYv
  rw [F 28 (by decide), F 27 (by decide), F 15 (by decide), F 39 (by decide), G 13 (by decide), G 14 (by decide), G 36 (by decide), G 38 (by decide)]
  exact h.1.arr (by omega) hn
/-- an E has been read -/
theorem TS.cat {q : Bool} {fl al : List Nat} {v u : MS} {f0 c0 : Nat} {labm : Nat → Nat} {τ : Nat → TT} {A' B' R B : List Bool} {M2 nl : Int} (h : TS q v f0 c0 labm τ) (hf : FG fl al v u) (h1 : ∀ k ∈ [27, 28, 52, 54, 55, 56, 58], k ∉ fl) (h2 : ∀ k ∈ [62, 63, 64, 66], k ∉ al)
    (ko : ∀ j : Nat, (j : Int) < (v.1 0 15).toInt → (u.1 13) j = (v.1 13) j) (kg : ∀ j : Nat, (j : Int) < (v.1 0 15).toInt → (u.1 14) j = (v.1 14) j) (k36 : ∀ j : Nat, (j : Int) < (v.1 0 39).toInt → (u.1 36) j = (v.1 36) j) (k38 : ∀ j : Nat, (j : Int) < (v.1 0 39).toInt → (u.1 38) j = (v.1 38) j)
    (s : SGE nl (v.1 0 28).toInt (v.1 0 27).toInt (u.1 13) (u.1 14) (u.1 36) (u.1 38) (v.1 0 15).toNatClampNeg (u.1 0 15).toNatClampNeg (v.1 0 39).toNatClampNeg (u.1 0 39).toNatClampNeg A' B' M2 []) (hB : (τ (v.1 0 15).toNatClampNeg).1 = B) (eB : B = A' ++ R)
    (hn : (v.1 0 34).toInt ≤ (u.1 0 34).toInt) (hn2 : nl ≤ (u.1 0 34).toInt) (hM : (v.1 0 33).toInt ≤ (u.1 0 33).toInt) (hM2 : M2 + (R.length : Int) ≤ 1 + (u.1 0 33).toInt) :
    ∃ τ' : Nat → TT, TS q u f0 c0 labm τ' ∧ (∀ j, j < (v.1 0 15).toNatClampNeg → τ' j = τ j) ∧ (τ' (v.1 0 15).toNatClampNeg).1 = B ∧ (τ' (v.1 0 15).toNatClampNeg).2.2.1 = (τ (v.1 0 15).toNatClampNeg).2.2.1 ∧ (τ' (u.1 0 15).toNatClampNeg).1 = B' ++ R ∧ (τ' (u.1 0 15).toNatClampNeg).2.2.1 = (τ (v.1 0 15).toNatClampNeg).2.2.1 ∧ ∀ j, (v.1 0 15).toNatClampNeg ≤ j → j < (u.1 0 15).toNatClampNeg → (τ' j).2.2.2 = false := by
  have F : ∀ k, k ∈ [27, 28, 52, 54, 55, 56, 58] → u.1 0 k = v.1 0 k := fun k hk => hf.2.1 k (h1 k hk)
  have G : ∀ k, k ∈ [62, 63, 64, 66] → u.1 k = v.1 k := fun k hk => hf.2.2 k (h2 k hk)
  have t0 := h.1
  have hl : ∀ j, (v.1 0 15).toNatClampNeg ≤ j → labm j = 0 := fun j hj => Decidable.byContradiction (fun w => by have := (t0.2.2.2.2.2.2 j w).2.1; omega)
  have t1 : TY (v.1 0 34).toInt (v.1 0 28).toInt (v.1 0 27).toInt (1 + (v.1 0 33).toInt) (u.1 13) (u.1 14) (u.1 36) (u.1 38) f0 (v.1 0 15).toNatClampNeg c0 (v.1 0 39).toNatClampNeg labm τ :=
    TY.ext t0 (Nat.le_refl _) (Nat.le_refl _) (kzN ko) (kzN kg) (fun c _ hc => kzN k36 c hc) (fun c _ hc => kzN k38 c hc) (fun _ _ => rfl) rfl rfl (Int.le_refl _) (Int.le_refl _) (fun j k1 k2 => t0.2.2.1 j (by have := t0.1; omega) k2) (fun j k1 k2 => by omega) (fun j k1 k2 => by omega) (fun c k1 k2 => by omega) (fun _ _ => rfl) (fun j k1 k2 => absurd (hl j k1) k2)
  have s1 : SGE (u.1 0 34).toInt (v.1 0 28).toInt (v.1 0 27).toInt (u.1 13) (u.1 14) (u.1 36) (u.1 38) (v.1 0 15).toNatClampNeg (u.1 0 15).toNatClampNeg (v.1 0 39).toNatClampNeg (u.1 0 39).toNatClampNeg A' B' M2 [] := by
    obtain ⟨g1, g2, S, K, b1, b2, b3, b4, b5, b6, b7⟩ := s
    exact ⟨g1, g2, S, K, b1, b2, b3, fun j k1 k2 => ⟨(b4 j k1 k2).1.mono hn2, (b4 j k1 k2).2⟩, b5, b6, b7⟩
  obtain ⟨τ', c1, c2, c3, c4, c5, c6, c7⟩ := TY.cat (M' := 1 + (u.1 0 33).toInt) t1 s1 hn hB eB (by omega) hM2 hl
  refine ⟨τ', ?_, c2, c3, c4, c5, c6, c7⟩
  refine h.gen ?_ (F 52 (by decide)) (F 54 (by decide)) (F 55 (by decide)) (F 56 (by decide)) (F 58 (by decide)) (G 62 (by decide)) (G 63 (by decide)) (G 64 (by decide)) (G 66 (by decide)) s.1 (kzN ko) (fun j hj _ => kzN kg j hj) (fun j hj => by rw [c2 j hj]; exact ⟨rfl, rfl⟩)
  unfold TYv
  rw [F 28 (by decide), F 27 (by decide)]
  exact c1
/-- an order has been said: no jump, a jump not yet led, or one to a place that we know -/
theorem TS.say {q : Bool} {v : MS} {f0 c0 : Nat} {labm : Nat → Nat} {τ : Nat → TT} {o a y z : Int32} {C : List Bool} {c hole : Bool} (h : TS q v f0 c0 labm τ) (ez : v.1 0 15 = z) (h0 : 0 ≤ z.toInt) (hy : y.toInt = z.toInt + 1) (hC : (C.length : Int) ≤ 1 + (v.1 0 33).toInt)
    (hft : FT (v.1 0 34).toInt (v.1 0 28).toInt (v.1 0 27).toInt 0 o.toInt a (τ z.toNatClampNeg).1 C) (h14 : o.toInt ≠ 14) (hc : o.toInt ≠ 12 → o.toInt ≠ 15 → c = (τ z.toNatClampNeg).2.2.1)
    (hj : ∀ T, JT o.toInt (τ z.toNatClampNeg).1 T → hole = true ∨ TG (upd (v.1 13) z.toNatClampNeg o) f0 (z.toNatClampNeg + 1) (sayT τ z.toNatClampNeg hole C c) z.toNatClampNeg a T) :
    TS q (wA (wA (wA v 13 z.toNatClampNeg o) 14 z.toNatClampNeg a) 0 15 y) f0 c0 labm (sayT τ z.toNatClampNeg hole C c) := by
  subst ez
  have t0 := h.1
  have hl : ∀ j, (v.1 0 15).toNatClampNeg ≤ j → labm j = 0 := fun j hj => Decidable.byContradiction (fun w => by have := (t0.2.2.2.2.2.2 j w).2.1; omega)
  have en := nxt_z h0 hy
  have t1 := TY.say (labm' := labm) (M' := 1 + (v.1 0 33).toInt) (nl' := (v.1 0 34).toInt) (o := o) (a := a) (C := C) (c := c) (hole := hole) t0 (hl _ (Nat.le_refl _)) (fun j k1 k2 => absurd (hl j k1) k2) (fun _ _ => rfl) (Int.le_refl _) (Int.le_refl _) hC hft h14 hc (fun T hT => (hj T hT).imp id (fun w => Or.inr w))
  refine h.gen ?_ rfl rfl rfl rfl rfl rfl rfl rfl rfl (show (v.1 0 15).toNatClampNeg ≤ y.toNatClampNeg by omega) (fun j hj => pk_un (by omega)) (fun j hj _ => pk_un (by omega)) (fun j hj => by rw [sayT_k hj]; exact ⟨rfl, rfl⟩)
  show TY (v.1 0 34).toInt (v.1 0 28).toInt (v.1 0 27).toInt (1 + (v.1 0 33).toInt) (upd (v.1 13) (v.1 0 15).toNatClampNeg o) (upd (v.1 14) (v.1 0 15).toNatClampNeg a) (v.1 36) (v.1 38) f0 y.toNatClampNeg c0 (v.1 0 39).toNatClampNeg labm _
  rw [en]
  exact t1
/-- a jump is led to where we are -/
theorem TS.fill {q : Bool} {v : MS} {f0 c0 : Nat} {labm : Nat → Nat} {τ : Nat → TT} {m z : Int32} (h : TS q v f0 c0 labm τ) (ez : v.1 0 15 = z) (h0 : 0 ≤ z.toInt) (hm : f0 ≤ m.toNatClampNeg ∧ m.toNatClampNeg < z.toNatClampNeg) (hl : labm m.toNatClampNeg = 0) (hT : JT (v.1 13 m.toNatClampNeg).toInt (τ m.toNatClampNeg).1 (τ z.toNatClampNeg).1) (hc : (τ z.toNatClampNeg).2.2.1 = (τ m.toNatClampNeg).2.2.1) :
    TS q (wA v 14 m.toNatClampNeg z) f0 c0 labm (fillT τ m.toNatClampNeg) := by
  subst ez
  have t1 := TY.fill (z := v.1 0 15) h.1 (nat_z h0).symm hm hT hc
  exact h.gen t1 rfl rfl rfl rfl rfl rfl rfl rfl rfl (Nat.le_refl _) (fun _ _ => rfl) (fun j _ hj => pk_un (fun w => hj (w ▸ hl))) (fun j _ => ⟨(fillT_s j _).1, (fillT_s j _).2.2⟩)
theorem TS.mbrk {v : MS} {f0 c0 : Nat} {labm : Nat → Nat} {τ : Nat → TT} {y : Int32} (h : TS true v f0 c0 labm τ) (h0 : 0 ≤ (v.1 0 15).toInt) (hy : y.toInt = (v.1 0 15).toInt + 1) (hl : 1 ≤ (v.1 0 52).toInt) (hM : 0 ≤ (v.1 0 33).toInt) (hB : (τ (v.1 0 15).toNatClampNeg).1 = []) (hc : (τ (v.1 0 15).toNatClampNeg).2.2.1 = true) :
    TS true (wA (wA (wA (wA v 13 (v.1 0 15).toNatClampNeg 12) 14 (v.1 0 15).toNatClampNeg (v.1 0 54)) 0 15 y) 0 54 (v.1 0 15)) f0 c0 (updN labm (v.1 0 15).toNatClampNeg (2 * (v.1 0 52).toNatClampNeg + 1)) (sayT τ (v.1 0 15).toNatClampNeg false [] true) := by
  obtain ⟨t0, a2, a3, a4, a5, a6⟩ := h
  have ez := nat_z h0
  have el := nat_z (x := v.1 0 52) (by omega)
  have en := nxt_z h0 hy
  have lt : ∀ j, labm j ≠ 0 → j < (v.1 0 15).toNatClampNeg := fun j w => (t0.2.2.2.2.2.2 j w).2.1
  have lz : ∀ j, (v.1 0 15).toNatClampNeg ≤ j → labm j = 0 := fun j hj => Decidable.byContradiction (fun w => by have := lt j w; omega)
  have uk : ∀ j, j ≠ (v.1 0 15).toNatClampNeg → updN labm (v.1 0 15).toNatClampNeg (2 * (v.1 0 52).toNatClampNeg + 1) j = labm j := fun j hj => if_neg hj
  have u0 : updN labm (v.1 0 15).toNatClampNeg (2 * (v.1 0 52).toNatClampNeg + 1) (v.1 0 15).toNatClampNeg = 2 * (v.1 0 52).toNatClampNeg + 1 := if_pos rfl
  have e12 : (12 : Int32).toInt = 12 := by decide
  have t1 := TY.say (labm' := updN labm (v.1 0 15).toNatClampNeg (2 * (v.1 0 52).toNatClampNeg + 1)) (M' := 1 + (v.1 0 33).toInt) (nl' := (v.1 0 34).toInt) (o := 12) (a := v.1 0 54) (C := []) (c := true) (hole := false) t0 (lz _ (Nat.le_refl _))
    (fun j k1 k2 => by
      by_cases w : j = (v.1 0 15).toNatClampNeg
      · exact ⟨w, e12, hB, hc⟩
      · rw [uk j w] at k2; exact absurd (lz j k1) k2)
    (fun j hj => uk j (by omega)) (Int.le_refl _) (Int.le_refl _) (show ((0 : Nat) : Int) ≤ _ by omega) (ft_go e12) (by decide) (fun w _ => absurd e12 w) (fun T _ => Or.inr (Or.inl (by rw [u0]; omega)))
  refine ⟨?_, fun d h1 h2 => ?_, fun j i k1 k2 k3 => ?_, fun d h1 h2 i hi => ?_, fun d h1 h2 _ i hi => ?_, ?_⟩
  · show TY (v.1 0 34).toInt (v.1 0 28).toInt (v.1 0 27).toInt (1 + (v.1 0 33).toInt) (upd (v.1 13) (v.1 0 15).toNatClampNeg 12) (upd (v.1 14) (v.1 0 15).toNatClampNeg (v.1 0 54)) (v.1 36) (v.1 38) f0 y.toNatClampNeg c0 (v.1 0 39).toNatClampNeg _ _
    rw [en]; exact t1
  · rcases a2 d h1 h2 with b | ⟨b1, b2, b3, b4⟩
    · exact Or.inl b
    · have ep := nat_z (x := pick v 56 64 d) (by omega)
      refine Or.inr ?_
      show AGT (upd (v.1 13) (v.1 0 15).toNatClampNeg 12) f0 y.toNatClampNeg _ (pick v 56 64 d)
      refine ⟨b1, by omega, by rw [sayT_k (by omega)]; exact b3, ?_⟩
      rw [sayT_k (by omega), pk_un (by omega)]; exact b4
  · show (i : Int) ≤ (upd (v.1 14) (v.1 0 15).toNatClampNeg (v.1 0 54) j).toInt
    by_cases w : j = (v.1 0 15).toNatClampNeg
    · rw [w, pk_us]
      rw [w, u0, uk i (by omega)] at k2
      have g := a4 (v.1 0 52).toNatClampNeg (by omega) (by omega) i k2
      rw [pick_1 el] at g; exact g
    · rw [uk j w] at k1 k2
      have g := lt j k1
      rw [uk i (by omega)] at k2
      rw [pk_un w]; exact a3 j i k1 k2 k3
  · show (i : Int) ≤ (if (d : Int) = (v.1 0 52).toInt then v.1 0 15 else v.1 62 d).toInt
    by_cases w : (d : Int) = (v.1 0 52).toInt
    · rw [if_pos w]
      by_cases w2 : i = (v.1 0 15).toNatClampNeg
      · omega
      · rw [uk i w2] at hi
        have := lt i (by omega)
        omega
    · rw [if_neg w]
      by_cases w2 : i = (v.1 0 15).toNatClampNeg
      · rw [w2, u0] at hi; omega
      · rw [uk i w2] at hi
        have g := a4 d h1 h2 i hi
        unfold pick at g; rw [if_neg w] at g; exact g
  · by_cases w2 : i = (v.1 0 15).toNatClampNeg
    · rw [w2, u0] at hi; omega
    · rw [uk i w2] at hi
      exact a5 d h1 h2 (Or.inl rfl) i hi
  · exact a6
theorem TS.magn {v : MS} {f0 c0 : Nat} {labm : Nat → Nat} {τ : Nat → TT} {y : Int32} (h : TS true v f0 c0 labm τ) (h0 : 0 ≤ (v.1 0 15).toInt) (hy : y.toInt = (v.1 0 15).toInt + 1) (hl : 1 ≤ (v.1 0 52).toInt) (hM : 0 ≤ (v.1 0 33).toInt) (hB : (τ (v.1 0 15).toNatClampNeg).1 = []) (hc : (τ (v.1 0 15).toNatClampNeg).2.2.1 = true) (hag : (v.1 0 55).toInt = -1) :
    TS true (wA (wA (wA (wA v 13 (v.1 0 15).toNatClampNeg 12) 14 (v.1 0 15).toNatClampNeg (v.1 0 58)) 0 15 y) 0 58 (v.1 0 15)) f0 c0 (updN labm (v.1 0 15).toNatClampNeg (2 * (v.1 0 52).toNatClampNeg + 2)) (sayT τ (v.1 0 15).toNatClampNeg false [] true) := by
  obtain ⟨t0, a2, a3, a4, a5, a6⟩ := h
  have ez := nat_z h0
  have el := nat_z (x := v.1 0 52) (by omega)
  have en := nxt_z h0 hy
  have lt : ∀ j, labm j ≠ 0 → j < (v.1 0 15).toNatClampNeg := fun j w => (t0.2.2.2.2.2.2 j w).2.1
  have lz : ∀ j, (v.1 0 15).toNatClampNeg ≤ j → labm j = 0 := fun j hj => Decidable.byContradiction (fun w => by have := lt j w; omega)
  have uk : ∀ j, j ≠ (v.1 0 15).toNatClampNeg → updN labm (v.1 0 15).toNatClampNeg (2 * (v.1 0 52).toNatClampNeg + 2) j = labm j := fun j hj => if_neg hj
  have u0 : updN labm (v.1 0 15).toNatClampNeg (2 * (v.1 0 52).toNatClampNeg + 2) (v.1 0 15).toNatClampNeg = 2 * (v.1 0 52).toNatClampNeg + 2 := if_pos rfl
  have e12 : (12 : Int32).toInt = 12 := by decide
  have t1 := TY.say (labm' := updN labm (v.1 0 15).toNatClampNeg (2 * (v.1 0 52).toNatClampNeg + 2)) (M' := 1 + (v.1 0 33).toInt) (nl' := (v.1 0 34).toInt) (o := 12) (a := v.1 0 58) (C := []) (c := true) (hole := false) t0 (lz _ (Nat.le_refl _))
    (fun j k1 k2 => by
      by_cases w : j = (v.1 0 15).toNatClampNeg
      · exact ⟨w, e12, hB, hc⟩
      · rw [uk j w] at k2; exact absurd (lz j k1) k2)
    (fun j hj => uk j (by omega)) (Int.le_refl _) (Int.le_refl _) (show ((0 : Nat) : Int) ≤ _ by omega) (ft_go e12) (by decide) (fun w _ => absurd e12 w) (fun T _ => Or.inr (Or.inl (by rw [u0]; omega)))
  refine ⟨?_, fun d h1 h2 => ?_, fun j i k1 k2 k3 => ?_, fun d h1 h2 i hi => ?_, fun d h1 h2 _ i hi => ?_, ?_⟩
  · show TY (v.1 0 34).toInt (v.1 0 28).toInt (v.1 0 27).toInt (1 + (v.1 0 33).toInt) (upd (v.1 13) (v.1 0 15).toNatClampNeg 12) (upd (v.1 14) (v.1 0 15).toNatClampNeg (v.1 0 58)) (v.1 36) (v.1 38) f0 y.toNatClampNeg c0 (v.1 0 39).toNatClampNeg _ _
    rw [en]; exact t1
  · rcases a2 d h1 h2 with b | ⟨b1, b2, b3, b4⟩
    · exact Or.inl b
    · have ep := nat_z (x := pick v 56 64 d) (by omega)
      refine Or.inr ?_
      show AGT (upd (v.1 13) (v.1 0 15).toNatClampNeg 12) f0 y.toNatClampNeg _ (pick v 56 64 d)
      refine ⟨b1, by omega, by rw [sayT_k (by omega)]; exact b3, ?_⟩
      rw [sayT_k (by omega), pk_un (by omega)]; exact b4
  · show (i : Int) ≤ (upd (v.1 14) (v.1 0 15).toNatClampNeg (v.1 0 58) j).toInt
    by_cases w : j = (v.1 0 15).toNatClampNeg
    · rw [w, pk_us]
      rw [w, u0, uk i (by omega)] at k2
      have g := a5 (v.1 0 52).toNatClampNeg (by omega) (by omega) (Or.inl rfl) i k2
      rw [pick_1 el] at g; exact g
    · rw [uk j w] at k1 k2
      have g := lt j k1
      rw [uk i (by omega)] at k2
      rw [pk_un w]; exact a3 j i k1 k2 k3
  · by_cases w2 : i = (v.1 0 15).toNatClampNeg
    · rw [w2, u0] at hi; omega
    · rw [uk i w2] at hi
      exact a4 d h1 h2 i hi
  · show (i : Int) ≤ (if (d : Int) = (v.1 0 52).toInt then v.1 0 15 else v.1 66 d).toInt
    by_cases w : (d : Int) = (v.1 0 52).toInt
    · rw [if_pos w]
      by_cases w2 : i = (v.1 0 15).toNatClampNeg
      · omega
      · rw [uk i w2] at hi
        have := lt i (by omega)
        omega
    · rw [if_neg w]
      by_cases w2 : i = (v.1 0 15).toNatClampNeg
      · rw [w2, u0] at hi; omega
      · rw [uk i w2] at hi
        have g := a5 d h1 h2 (Or.inl rfl) i hi
        unfold pick at g; rw [if_neg w] at g; exact g
  · intro d h1 h2
    show (pick v 55 63 d).toInt = -1 ∨ (if (d : Int) = (v.1 0 52).toInt then v.1 0 15 else v.1 66 d).toInt = -1
    by_cases w : (d : Int) = (v.1 0 52).toInt
    · left; unfold pick; rw [if_pos w]; exact hag
    · rw [if_neg w]
      have g := a6 d h1 h2
      unfold pick at g ⊢; rw [if_neg w, if_neg w] at g; rw [if_neg w]; exact g
/-- a loop opens -/
theorem TS.push {v : MS} {f0 c0 : Nat} {labm : Nat → Nat} {τ : Nat → TT} {l x5 x6 : Int32} (h : TS true v f0 c0 labm τ) (hl : l.toInt = (v.1 0 52).toInt + 1) (h0 : 0 ≤ (v.1 0 52).toInt) (lm : ∀ j : Nat, (labm j : Int) ≤ 2 * (v.1 0 52).toInt + 2) (hx : x5.toInt = -1 ∨ AGT (v.1 13) f0 (v.1 0 15).toNatClampNeg τ x6) :
    TS true (wA (wA (wA (wA (wA (wA (wA (wA (wA (wA (wA (wA (wA v 61 (v.1 0 52).toNatClampNeg (v.1 0 53)) 62 (v.1 0 52).toNatClampNeg (v.1 0 54)) 63 (v.1 0 52).toNatClampNeg (v.1 0 55)) 64 (v.1 0 52).toNatClampNeg (v.1 0 56)) 65 (v.1 0 52).toNatClampNeg (v.1 0 57)) 66 (v.1 0 52).toNatClampNeg (v.1 0 58)) 0 52 l) 0 53 (-1)) 0 54 (-1)) 0 55 x5) 0 56 x6) 0 57 (-1)) 0 58 (-1)) f0 c0 labm τ := by
  have e := nat_z h0
  generalize hu : wA (wA (wA (wA (wA (wA (wA (wA (wA (wA (wA (wA (wA v 61 (v.1 0 52).toNatClampNeg (v.1 0 53)) 62 (v.1 0 52).toNatClampNeg (v.1 0 54)) 63 (v.1 0 52).toNatClampNeg (v.1 0 55)) 64 (v.1 0 52).toNatClampNeg (v.1 0 56)) 65 (v.1 0 52).toNatClampNeg (v.1 0 57)) 66 (v.1 0 52).toNatClampNeg (v.1 0 58)) 0 52 l) 0 53 (-1)) 0 54 (-1)) 0 55 x5) 0 56 x6) 0 57 (-1)) 0 58 (-1) = u
  have u52 : u.1 0 52 = l := by rw [← hu]; rfl
  have u54 : u.1 0 54 = -1 := by rw [← hu]; rfl
  have u55 : u.1 0 55 = x5 := by rw [← hu]; rfl
  have u56 : u.1 0 56 = x6 := by rw [← hu]; rfl
  have u58 : u.1 0 58 = -1 := by rw [← hu]; rfl
  have u62 : u.1 62 = upd (v.1 62) (v.1 0 52).toNatClampNeg (v.1 0 54) := by rw [← hu]; rfl
  have u63 : u.1 63 = upd (v.1 63) (v.1 0 52).toNatClampNeg (v.1 0 55) := by rw [← hu]; rfl
  have u64 : u.1 64 = upd (v.1 64) (v.1 0 52).toNatClampNeg (v.1 0 56) := by rw [← hu]; rfl
  have u66 : u.1 66 = upd (v.1 66) (v.1 0 52).toNatClampNeg (v.1 0 58) := by rw [← hu]; rfl
  have u13 : u.1 13 = v.1 13 := by rw [← hu]; rfl
  have u14 : u.1 14 = v.1 14 := by rw [← hu]; rfl
  have u15 : u.1 0 15 = v.1 0 15 := by rw [← hu]; rfl
  have ty : TYv u f0 c0 labm τ := by rw [← hu]; exact h.1
  have el : (u.1 0 52).toInt = (v.1 0 52).toInt + 1 := by rw [u52, hl]
  obtain ⟨_, a2, a3, a4, a5, a6⟩ := h
  refine ⟨ty, fun d h1 h2 => ?_, ?_, fun d h1 h2 i hi => ?_, fun d h1 h2 _ i hi => ?_, fun d h1 h2 => ?_⟩
  · by_cases q : (d : Int) = (u.1 0 52).toInt
    · rw [pick_1 q, pick_1 q, u55, u56, u13, u15]; exact hx
    · rw [pick_w e el u63 (by omega), pick_w e el u64 (by omega), u13, u15]; exact a2 d h1 (by omega)
  · rw [u14]; exact a3
  · by_cases q : (d : Int) = (u.1 0 52).toInt
    · have := lm i; omega
    · rw [pick_w e el u62 (by omega)]; exact a4 d h1 (by omega) i hi
  · by_cases q : (d : Int) = (u.1 0 52).toInt
    · have := lm i; omega
    · rw [pick_w e el u66 (by omega)]; exact a5 d h1 (by omega) (Or.inl rfl) i hi
  · by_cases q : (d : Int) = (u.1 0 52).toInt
    · right; rw [pick_1 q, u58]; decide
    · rw [pick_w e el u63 (by omega), pick_w e el u66 (by omega)]; exact a6 d h1 (by omega)
/-- a loop is closed: its breaks go to where we are -/
theorem TS.pop {v u : MS} {f0 c0 i : Nat} {labm : Nat → Nat} {τ : Nat → TT} {z : Int32} (h : TS false v f0 c0 labm τ) (hi : (i : Int) = (v.1 0 52).toInt - 1) (e : (u.1 0 52).toInt = (v.1 0 52).toInt - 1)
    (F : ∀ k ∈ [15, 27, 28, 33, 34, 39], u.1 0 k = v.1 0 k) (G : ∀ k ∈ [13, 36, 38, 62, 63, 64, 66], u.1 k = v.1 k) (e54 : u.1 0 54 = v.1 62 i) (e55 : u.1 0 55 = v.1 63 i) (e56 : u.1 0 56 = v.1 64 i) (e58 : u.1 0 58 = v.1 66 i)
    (h15 : 0 ≤ (v.1 0 15).toInt) (hz : z.toInt = (v.1 0 15).toInt) (kg : ∀ j : Nat, labm j ≠ 2 * (v.1 0 52).toNatClampNeg + 1 → u.1 14 j = v.1 14 j) (ka : ∀ j : Nat, labm j = 2 * (v.1 0 52).toNatClampNeg + 1 → u.1 14 j = z) (hno : ∀ j : Nat, labm j ≠ 2 * (v.1 0 52).toNatClampNeg + 2)
    (lm : ∀ j : Nat, (labm j : Int) ≤ 2 * (v.1 0 52).toInt + 2) (hB : (τ (v.1 0 15).toNatClampNeg).1 = []) (hc : (τ (v.1 0 15).toNatClampNeg).2.2.1 = true) : TS true u f0 c0 (labC labm (u.1 0 52).toInt) τ := by
  have el := nat_z (x := v.1 0 52) (by omega)
  have e15 := nat_z h15
  have ez := nat_z (x := z) (by omega)
  have zn : z.toNatClampNeg = (v.1 0 15).toNatClampNeg := by omega
  obtain ⟨t0, a2, a3, a4, a5, a6⟩ := h
  have c1 : ∀ j, labm j = 2 * (v.1 0 52).toNatClampNeg + 1 ∨ labC labm (u.1 0 52).toInt j = labm j := fun j => by
    have g1 := lm j
    have g2 := hno j
    by_cases w : labm j = 2 * (v.1 0 52).toNatClampNeg + 1
    · exact Or.inl w
    · exact Or.inr (if_pos (by omega))
  have c2 : ∀ j, labm j = 2 * (v.1 0 52).toNatClampNeg + 1 → labC labm (u.1 0 52).toInt j = 0 := fun j w => if_neg (by omega)
  have c3 : ∀ j, labC labm (u.1 0 52).toInt j ≠ 0 → labC labm (u.1 0 52).toInt j = labm j ∧ labm j ≠ 0 ∧ labm j ≠ 2 * (v.1 0 52).toNatClampNeg + 1 := fun j w => by
    rcases c1 j with g | g
    · exact absurd (c2 j g) w
    · exact ⟨g, by rw [← g]; exact w, fun w2 => w (c2 j w2)⟩
  have ty : TYv u f0 c0 (labC labm (u.1 0 52).toInt) τ := by
    unfold TYv
    rw [F 15 (by decide), F 27 (by decide), F 28 (by decide), F 33 (by decide), F 34 (by decide), F 39 (by decide), G 13 (by decide), G 36 (by decide), G 38 (by decide)]
    obtain ⟨b1, b2, b3, b4, b5, b6, b7⟩ := t0
    refine ⟨b1, b2, b3, fun j k1 k2 => ?_, b5, b6, fun j hj => b7 j (c3 j hj).2.1⟩
    obtain ⟨d1, d2, d3⟩ := b4 j k1 k2
    by_cases w : labm j = 2 * (v.1 0 52).toNatClampNeg + 1
    · obtain ⟨_, g2, g3, g4, g5⟩ := b7 j (by omega)
      unfold OKt
      rw [ka j w]
      refine ⟨?_, d2, fun T hT => Or.inr (Or.inr ?_)⟩
      · rw [g3]; exact Or.inr (Or.inr (Or.inr (Or.inr (Or.inr (Or.inr (Or.inr (Or.inr (Or.inr (Or.inr (Or.inl rfl))))))))))
      · have eT : T = [] := by
          rcases hT with ⟨q1, q2⟩ | ⟨q1, q2⟩
          · omega
          · rw [q2, g4]
        refine ⟨by omega, by omega, by rw [zn, hB, eT], Or.inl ⟨by omega, by rw [zn, hc, g5]⟩⟩
    · unfold OKt
      rw [kg j w]
      refine ⟨d1, d2, fun T hT => ?_⟩
      rcases d3 T hT with g | g | g
      · exact Or.inl g
      · rcases c1 j with w2 | w2
        · exact absurd w2 w
        · exact Or.inr (Or.inl (by rw [w2]; exact g))
      · exact Or.inr (Or.inr g)
  refine ⟨ty, fun d h1 h2 => ?_, fun j k g1 g2 g3 => ?_, fun d h1 h2 k hk => ?_, fun d h1 h2 _ k hk => ?_, fun d h1 h2 => ?_⟩
  · rw [pick_p hi e e55 (G 63 (by decide)) (by omega), pick_p hi e e56 (G 64 (by decide)) (by omega), G 13 (by decide), F 15 (by decide)]; exact a2 d h1 (by omega)
  · obtain ⟨q1, q2, q3⟩ := c3 j g1
    have q4 : labm k = labm j := by
      rcases c1 k with w | w
      · rw [c2 k w] at g2; exact absurd g2.symm g1
      · rw [← w, g2, q1]
    rw [kg j q3]; exact a3 j k q2 q4 g3
  · rw [pick_p hi e e54 (G 62 (by decide)) (by omega)]
    exact a4 d h1 (by omega) k ((c3 k (by omega)).1 ▸ hk)
  · rw [pick_p hi e e58 (G 66 (by decide)) (by omega)]
    exact a5 d h1 (by omega) (Or.inr (by omega)) k ((c3 k (by omega)).1 ▸ hk)
  · rw [pick_p hi e e55 (G 63 (by decide)) (by omega), pick_p hi e e58 (G 66 (by decide)) (by omega)]; exact a6 d h1 (by omega)
