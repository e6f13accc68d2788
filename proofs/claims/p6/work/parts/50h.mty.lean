/-! the orders of a function have types: tau j = (what lies on the pile, the arguments of a call, is it no increment of a for, is it a jump not yet led) -/
abbrev TT : Type := List Bool × Nat × Bool × Bool
def TG (f : Nat → Int32) (f0 hi : Nat) (τ : Nat → TT) (j : Nat) (a : Int32) (T : List Bool) : Prop :=
  (f0 : Int) ≤ a.toInt ∧ a.toInt ≤ (hi : Int) ∧ (τ a.toNatClampNeg).1 = T ∧
  (((j : Int) < a.toInt ∧ (τ a.toNatClampNeg).2.2.1 = (τ j).2.2.1) ∨ (a.toInt < (hi : Int) ∧ (f a.toNatClampNeg).toInt = 13) ∨ (a.toInt < (hi : Int) ∧ (τ j).2.2.1 = true ∧ (τ a.toNatClampNeg).2.2.1 = false))
def OKt (nl ng gl : Int) (f g : Nat → Int32) (f0 hi : Nat) (labm : Nat → Nat) (τ : Nat → TT) (j : Nat) : Prop :=
  FT nl ng gl (τ j).2.1 (f j).toInt (g j) (τ j).1 (τ (j + 1)).1 ∧ ((f j).toInt ≠ 12 → (f j).toInt ≠ 15 → (τ (j + 1)).2.2.1 = (τ j).2.2.1) ∧
  ∀ T, JT (f j).toInt (τ j).1 T → ((τ j).2.2.2 = true ∨ labm j ≠ 0 ∨ TG f f0 hi τ j (g j) T)
def TY (nl ng gl M : Int) (f g cm co : Nat → Int32) (f0 hi c0 c1 : Nat) (labm : Nat → Nat) (τ : Nat → TT) : Prop :=
  f0 ≤ hi ∧ c0 ≤ c1 ∧ (∀ j, f0 ≤ j → j ≤ hi → ((τ j).1.length : Int) ≤ M) ∧ (∀ j, f0 ≤ j → j < hi → OKt nl ng gl f g f0 hi labm τ j) ∧
  (∀ j, f0 ≤ j → j < hi → (f j).toInt = 14 → ∃ c, c0 ≤ c ∧ c < c1 ∧ (co c).toInt = (j : Int)) ∧
  (∀ c, c0 ≤ c → c < c1 → (f0 : Int) ≤ (co c).toInt ∧ (co c).toInt < (hi : Int) ∧ (τ (co c).toNatClampNeg).2.1 = (cm c).toNatClampNeg ∧ (f (co c).toNatClampNeg).toInt = 14) ∧
  (∀ j, labm j ≠ 0 → f0 ≤ j ∧ j < hi ∧ (f j).toInt = 12 ∧ (τ j).1 = [] ∧ (τ j).2.2.1 = true)
theorem FT.mono {nl nl' ng gl : Int} {k : Nat} {o : Int} {a : Int32} {A B : List Bool} (hn : nl ≤ nl') (h : FT nl ng gl k o a A B) : FT nl' ng gl k o a A B := by
  rcases h with h | h | h | h
  · exact Or.inl h
  · exact Or.inr (Or.inl ⟨h.1, h.2.1, by have := h.2.2.1; omega, h.2.2.2⟩)
  · exact Or.inr (Or.inr (Or.inl ⟨h.1, h.2.1, by have := h.2.2.1; omega, h.2.2.2⟩))
  · exact Or.inr (Or.inr (Or.inr h))
section TYS
variable {nl nl' ng gl M M' : Int} {f g cm co f' g' cm' co' : Nat → Int32} {f0 hi hi' c0 c1 c1' : Nat} {labm labm' : Nat → Nat} {τ τ' : Nat → TT}
theorem TY.ext (h : TY nl ng gl M f g cm co f0 hi c0 c1 labm τ) (hh : hi ≤ hi') (hc : c1 ≤ c1') (hf : ∀ j, j < hi → f' j = f j) (hg : ∀ j, j < hi → g' j = g j) (hcm : ∀ c, c0 ≤ c → c < c1 → cm' c = cm c) (hco : ∀ c, c0 ≤ c → c < c1 → co' c = co c)
    (hτ : ∀ j, j < hi → τ' j = τ j) (hτ1 : (τ' hi).1 = (τ hi).1) (hτ2 : (τ' hi).2.2.1 = (τ hi).2.2.1) (hM : M ≤ M') (hnl : nl ≤ nl') (hlen : ∀ j, hi ≤ j → j ≤ hi' → ((τ' j).1.length : Int) ≤ M')
    (hok : ∀ j, hi ≤ j → j < hi' → OKt nl' ng gl f' g' f0 hi' labm' τ' j) (h14 : ∀ j, hi ≤ j → j < hi' → (f' j).toInt = 14 → ∃ c, c1 ≤ c ∧ c < c1' ∧ (co' c).toInt = (j : Int))
    (hcs : ∀ c, c1 ≤ c → c < c1' → (hi : Int) ≤ (co' c).toInt ∧ (co' c).toInt < (hi' : Int) ∧ (τ' (co' c).toNatClampNeg).2.1 = (cm' c).toNatClampNeg ∧ (f' (co' c).toNatClampNeg).toInt = 14)
    (hl : ∀ j, j < hi → labm' j = labm j) (hl2 : ∀ j, hi ≤ j → labm' j ≠ 0 → j < hi' ∧ (f' j).toInt = 12 ∧ (τ' j).1 = [] ∧ (τ' j).2.2.1 = true) : TY nl' ng gl M' f' g' cm' co' f0 hi' c0 c1' labm' τ' := by
  obtain ⟨a1, a2, a3, a4, a5, a6, a7⟩ := h
  have t1 : ∀ j, j ≤ hi → (τ' j).1 = (τ j).1 ∧ (τ' j).2.2.1 = (τ j).2.2.1 := fun j hj => by
    by_cases q : j = hi
    · rw [q]; exact ⟨hτ1, hτ2⟩
    · rw [hτ j (by omega)]; exact ⟨rfl, rfl⟩
  refine ⟨by omega, by omega, fun j k1 k2 => ?_, fun j k1 k2 => ?_, fun j k1 k2 k3 => ?_, fun c k1 k2 => ?_, fun j hj => ?_⟩
  · by_cases q : hi ≤ j
    · exact hlen j q k2
    · rw [hτ j (by omega)]; have := a3 j k1 (by omega); omega
  · by_cases q : hi ≤ j
    · exact hok j q k2
    · have q : j < hi := by omega
      obtain ⟨b1, b2, b3⟩ := a4 j k1 q
      unfold OKt
      rw [hf j q, hg j q, hτ j q, hl j q, (t1 (j + 1) (by omega)).1, (t1 (j + 1) (by omega)).2]
      refine ⟨b1.mono hnl, b2, fun T hT => ?_⟩
      rcases b3 T hT with d | d | ⟨d1, d2, d3, d4⟩
      · exact Or.inl d
      · exact Or.inr (Or.inl d)
      · have ez := nat_z (x := g j) (by omega)
        refine Or.inr (Or.inr ⟨d1, by omega, by rw [(t1 _ (by omega)).1]; exact d3, ?_⟩)
        rw [hτ j q]
        rcases d4 with ⟨e1, e2⟩ | ⟨e1, e2⟩ | ⟨e1, e2, e3⟩
        · exact Or.inl ⟨e1, by rw [(t1 _ (by omega)).2]; exact e2⟩
        · exact Or.inr (Or.inl ⟨by omega, by rw [hf _ (by omega)]; exact e2⟩)
        · exact Or.inr (Or.inr ⟨by omega, e2, by rw [(t1 _ (by omega)).2]; exact e3⟩)
  · by_cases q : hi ≤ j
    · obtain ⟨c, d1, d2, d3⟩ := h14 j q k2 k3
      exact ⟨c, by omega, d2, d3⟩
    · rw [hf j (by omega)] at k3
      obtain ⟨c, d1, d2, d3⟩ := a5 j k1 (by omega) k3
      exact ⟨c, d1, by omega, by rw [hco c d1 d2]; exact d3⟩
  · by_cases q : c1 ≤ c
    · obtain ⟨d1, d2, d3, d4⟩ := hcs c q k2
      exact ⟨by omega, d2, d3, d4⟩
    · obtain ⟨d1, d2, d3, d4⟩ := a6 c k1 (by omega)
      rw [hco c k1 (by omega), hcm c k1 (by omega)]
      have ez := nat_z (x := co c) (by omega)
      exact ⟨d1, by omega, by rw [hτ _ (by omega)]; exact d3, by rw [hf _ (by omega)]; exact d4⟩
  · by_cases q : hi ≤ j
    · obtain ⟨d1, d2, d3, d4⟩ := hl2 j q hj
      exact ⟨by omega, d1, d2, d3, d4⟩
    · have q : j < hi := by omega
      rw [hl j q] at hj
      obtain ⟨d1, d2, d3, d4, d5⟩ := a7 j hj
      exact ⟨d1, by omega, by rw [hf j q]; exact d3, by rw [hτ j q]; exact d4, by rw [hτ j q]; exact d5⟩
def updT (τ : Nat → TT) (i : Nat) (x : TT) : Nat → TT := fun j => if j = i then x else τ j
/-- one order more: its own flags at hi, the next place's type -/
def sayT (τ : Nat → TT) (hi : Nat) (hole : Bool) (C : List Bool) (c : Bool) : Nat → TT := fun j => if j = hi then ((τ hi).1, 0, (τ hi).2.2.1, hole) else if j = hi + 1 then (C, 0, c, false) else τ j
theorem sayT_0 {hole : Bool} {C : List Bool} {c : Bool} : sayT τ hi hole C c hi = ((τ hi).1, 0, (τ hi).2.2.1, hole) := if_pos rfl
theorem sayT_1 {hole : Bool} {C : List Bool} {c : Bool} : sayT τ hi hole C c (hi + 1) = (C, 0, c, false) := by unfold sayT; rw [if_neg (by omega), if_pos rfl]
theorem sayT_k {hole : Bool} {C : List Bool} {c : Bool} {j : Nat} (h : j < hi) : sayT τ hi hole C c j = τ j := by unfold sayT; rw [if_neg (by omega), if_neg (by omega)]
theorem TY.say {o a : Int32} {C : List Bool} {c hole : Bool} (h : TY nl ng gl M f g cm co f0 hi c0 c1 labm τ) (hl0 : labm hi = 0) (hl' : ∀ j, hi ≤ j → labm' j ≠ 0 → j = hi ∧ o.toInt = 12 ∧ (τ hi).1 = [] ∧ (τ hi).2.2.1 = true) (hle : ∀ j, j < hi → labm' j = labm j)
    (hM : M ≤ M') (hnl : nl ≤ nl') (hC : (C.length : Int) ≤ M') (hft : FT nl' ng gl 0 o.toInt a (τ hi).1 C) (h14 : o.toInt ≠ 14) (hc : o.toInt ≠ 12 → o.toInt ≠ 15 → c = (τ hi).2.2.1)
    (hj : ∀ T, JT o.toInt (τ hi).1 T → hole = true ∨ labm' hi ≠ 0 ∨ TG (upd f hi o) f0 (hi + 1) (sayT τ hi hole C c) hi a T) : TY nl' ng gl M' (upd f hi o) (upd g hi a) cm co f0 (hi + 1) c0 c1 labm' (sayT τ hi hole C c) := by
  refine h.ext (by omega) (Nat.le_refl _) (fun j q => pk_un (by omega)) (fun j q => pk_un (by omega)) (fun _ _ _ => rfl) (fun _ _ _ => rfl) (fun j q => sayT_k q) (by rw [sayT_0]) (by rw [sayT_0]) hM hnl (fun j k1 k2 => ?_) (fun j k1 k2 => ?_) (fun j k1 k2 k3 => ?_) (fun c k1 k2 => by omega) hle (fun j k1 k2 => ?_)
  · by_cases q : j = hi
    · rw [q, sayT_0]; have := h.2.2.1 hi h.1 (Nat.le_refl _); show ((τ hi).1.length : Int) ≤ M'; omega
    · rw [show j = hi + 1 by omega, sayT_1]; exact hC
  · have q : j = hi := by omega
    subst q
    unfold OKt
    rw [pk_us, pk_us, sayT_0, sayT_1]
    refine ⟨hft, hc, fun T hT => hj T hT⟩
  · have q : j = hi := by omega
    rw [q, pk_us] at k3; exact absurd k3 h14
  · obtain ⟨q, d1, d2, d3⟩ := hl' j k1 k2
    rw [q, pk_us, sayT_0]
    exact ⟨by omega, d1, d2, d3⟩
/-- a jump is led to where we are -/
def fillT (τ : Nat → TT) (m : Nat) : Nat → TT := fun j => if j = m then ((τ m).1, (τ m).2.1, (τ m).2.2.1, false) else τ j
theorem fillT_s (j m : Nat) : (fillT τ m j).1 = (τ j).1 ∧ (fillT τ m j).2.1 = (τ j).2.1 ∧ (fillT τ m j).2.2.1 = (τ j).2.2.1 := by
  unfold fillT
  by_cases q : j = m
  · rw [if_pos q, q]; exact ⟨rfl, rfl, rfl⟩
  · rw [if_neg q]; exact ⟨rfl, rfl, rfl⟩
theorem fillT_h {j m : Nat} (h : j ≠ m) : (fillT τ m j).2.2.2 = (τ j).2.2.2 := by unfold fillT; rw [if_neg h]
theorem TG.fillT {j m : Nat} {a : Int32} {T : List Bool} (h : TG f f0 hi τ j a T) : TG f f0 hi (fillT τ m) j a T := by
  obtain ⟨h1, h2, h3, h4⟩ := h
  refine ⟨h1, h2, by rw [(fillT_s _ m).1]; exact h3, ?_⟩
  rw [(fillT_s j m).2.2, (fillT_s a.toNatClampNeg m).2.2]; exact h4
theorem TY.fill {z : Int32} {m : Nat} (h : TY nl ng gl M f g cm co f0 hi c0 c1 labm τ) (hz : z.toInt = (hi : Int)) (hm : f0 ≤ m ∧ m < hi) (hT : JT (f m).toInt (τ m).1 (τ hi).1) (hc : (τ hi).2.2.1 = (τ m).2.2.1) : TY nl ng gl M f (upd g m z) cm co f0 hi c0 c1 labm (fillT τ m) := by
  obtain ⟨a1, a2, a3, a4, a5, a6, a7⟩ := h
  have ez := nat_z (x := z) (by omega)
  refine ⟨a1, a2, fun j k1 k2 => by rw [(fillT_s j m).1]; exact a3 j k1 k2, fun j k1 k2 => ?_, a5, fun c k1 k2 => by rw [(fillT_s _ m).2.1]; exact a6 c k1 k2, fun j hj => by rw [(fillT_s j m).1, (fillT_s j m).2.2]; exact a7 j hj⟩
  obtain ⟨b1, b2, b3⟩ := a4 j k1 k2
  unfold OKt
  rw [(fillT_s j m).1, (fillT_s j m).2.1, (fillT_s (j + 1) m).1, (fillT_s j m).2.2, (fillT_s (j + 1) m).2.2]
  by_cases q : j = m
  · subst q
    rw [pk_us]
    refine ⟨?_, b2, fun T hT' => Or.inr (Or.inr ?_)⟩
    · have hjt : (f j).toInt = 10 ∨ (f j).toInt = 11 ∨ (f j).toInt = 12 ∨ (f j).toInt = 22 ∨ (f j).toInt = 23 := by rcases hT with ⟨m3, _⟩ | ⟨m3, _⟩ <;> omega
      rcases b1 with h | h | h | h | h | h | h | h | h | h | h | h | h | h | h | h
      all_goals first
        | exact Or.inr (Or.inr (Or.inr (Or.inr (Or.inr (Or.inr (Or.inr (Or.inr (Or.inr (Or.inl h)))))))))
        | exact Or.inr (Or.inr (Or.inr (Or.inr (Or.inr (Or.inr (Or.inr (Or.inr (Or.inr (Or.inr (Or.inl h))))))))))
        | (exfalso; have := h.1; omega)
    · have e := JT.u hT' hT
      have en : z.toNatClampNeg = hi := by omega
      refine ⟨by omega, by omega, by rw [en, (fillT_s hi j).1, e], Or.inl ⟨by omega, by rw [en, (fillT_s hi j).2.2, (fillT_s j j).2.2]; exact hc⟩⟩
  · rw [pk_un q, fillT_h q]
    refine ⟨b1, b2, fun T hT' => ?_⟩
    rcases b3 T hT' with d | d | d
    · exact Or.inl d
    · exact Or.inr (Or.inl d)
    · exact Or.inr (Or.inr d.fillT)
def catT (τ : Nat → TT) (hi : Nat) (S : Nat → List Bool) (K : Nat → Nat) (R : List Bool) : Nat → TT := fun j => if j < hi then τ j else (S j ++ R, K j, (τ hi).2.2.1, false)
/-- an E behind -/
theorem TY.cat {B A' B' R : List Bool} {M2 : Int} (h : TY nl ng gl M f g cm co f0 hi c0 c1 labm τ) (s : SGE nl' ng gl f g cm co hi hi' c1 c1' A' B' M2 []) (hnl : nl ≤ nl') (hB : (τ hi).1 = B) (eB : B = A' ++ R) (hM : M ≤ M') (hM2 : M2 + (R.length : Int) ≤ M') (hl : ∀ j, hi ≤ j → labm j = 0) :
    ∃ τ' : Nat → TT, TY nl' ng gl M' f g cm co f0 hi' c0 c1' labm τ' ∧ (∀ j, j < hi → τ' j = τ j) ∧ (τ' hi).1 = B ∧ (τ' hi).2.2.1 = (τ hi).2.2.1 ∧ (τ' hi').1 = B' ++ R ∧ (τ' hi').2.2.1 = (τ hi).2.2.1 ∧ ∀ j, hi ≤ j → j < hi' → (τ' j).2.2.2 = false := by
  obtain ⟨g1, g2, S, K, b1, b2, b3, b4, b5, b6, b7⟩ := s
  have T1 : ∀ j, hi ≤ j → catT τ hi S K R j = (S j ++ R, K j, (τ hi).2.2.1, false) := fun j hj => if_neg (by omega)
  have T0 : ∀ j, j < hi → catT τ hi S K R j = τ j := fun j hj => if_pos hj
  refine ⟨catT τ hi S K R, ?_, T0, ?_, ?_, ?_, ?_, fun j k1 k2 => by rw [T1 j k1]⟩
  · refine h.ext g1 g2 (fun _ _ => rfl) (fun _ _ => rfl) (fun _ _ _ => rfl) (fun _ _ _ => rfl) T0 (by rw [T1 hi (Nat.le_refl _), b1, hB, eB]) (by rw [T1 hi (Nat.le_refl _)]) hM hnl (fun j k1 k2 => ?_) (fun j k1 k2 => ?_) b6 (fun c k1 k2 => ?_) (fun _ _ => rfl) (fun j k1 k2 => absurd (hl j k1) k2)
    · rw [T1 j k1]; show (((S j ++ R).length : Nat) : Int) ≤ M'; rw [List.length_append]; have := b3 j k1 k2; omega
    · obtain ⟨d1, d2⟩ := b4 j k1 k2
      unfold OKt
      rw [T1 j k1, T1 (j + 1) (by omega)]
      refine ⟨d1.app R, fun _ _ => rfl, fun T hT => ?_⟩
      obtain ⟨T', t1, t2⟩ := JT.app hT (fun _ _ _ _ _ _ ho hf => FT.if0 _ _ _ _ _ _ ho hf) d1
      rcases d2 T' t1 with e1 | ⟨e1, e2, e3⟩
      · simp at e1
      · have ez := nat_z (x := g j) (by omega)
        refine Or.inr (Or.inr ⟨by have := h.1; omega, e2, by rw [T1 _ (by omega), t2, ← e3], Or.inl ⟨e1, by rw [T1 _ (by omega), T1 j k1]⟩⟩)
    · obtain ⟨d1, d2, d3, d4⟩ := b7 c k1 k2
      have ez := nat_z (x := co c) (by omega)
      exact ⟨d1, d2, by rw [T1 _ (by omega)]; exact d3, d4⟩
  · rw [T1 hi (Nat.le_refl _)]; show S hi ++ R = B; rw [b1, eB]
  · rw [T1 hi (Nat.le_refl _)]
  · rw [T1 hi' g1]; show S hi' ++ R = B' ++ R; rw [b2]
  · rw [T1 hi' g1]
end TYS
