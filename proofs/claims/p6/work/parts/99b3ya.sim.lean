/-! both meanings side by side: a frame, the frames below it -/
/-- where a function's events stand: in deeds, in orders; types; locals; slots; ranks; is it a place -/
abbrev GC : Type := (Nat → Nat → Nat) × (Nat → Nat → Nat) × (Nat → Nat → ST3) × (Nat → Nat) × (Nat → Nat) × (Nat → Nat → Int) × (Nat → Nat → Prop)
def zPd (g : GC) : Nat → Nat → Nat := g.1
def zPo (g : GC) : Nat → Nat → Nat := g.2.1
def zTy (g : GC) : Nat → Nat → ST3 := g.2.2.1
def zLo (g : GC) : Nat → Nat := g.2.2.2.1
def zMm (g : GC) : Nat → Nat := g.2.2.2.2.1
def zRk (g : GC) : Nat → Nat → Int := g.2.2.2.2.2.1
def zOk (g : GC) : Nat → Nat → Prop := g.2.2.2.2.2.2
/-- a frame in both: F the class's words, P the pile; B, b its bases -/
def COR (F P : Nat → Int32) (hand : Int32) (B b M lo : Nat) (s : ST3) (pi : Int) : Prop :=
  (∀ k, k < s.1 → F (B + 2 + k) = P (b + k)) ∧ (∀ j, j < s.2.1 → F (B + 2 + (s.1 + j)) = P (b + (lo + j))) ∧ (s.1 + s.2.1 ≤ M ∧ s.1 ≤ lo) ∧ pi = (b : Int) + lo + s.2.1 + (if s.2.2 = 1 then 1 else 0) ∧ (s.2.2 = 1 → hand = P (b + (lo + s.2.1))) ∧ (s.2.2 = 2 → 1 ≤ s.2.1 ∧ hand = P (b + (lo + (s.2.1 - 1))))
theorem n12 : ¬ (1 : Nat) = 2 := by decide
section YAC
variable {F P : Nat → Int32} {hand x : Int32} {B b M lo kc pb h sl : Nat} {s t : ST3} {pi pi' : Int}
theorem COR.le (c : COR F P hand B b M lo s pi) (l : le3 s t) : COR F P hand B b M lo t pi := by
  obtain ⟨c1, c2, ⟨c3, c3'⟩, c4, c5, c6⟩ := c
  obtain ⟨l1, l2, l3⟩ := l
  have hk : t.1 ≤ s.1 := by omega
  refine ⟨fun k hk' => c1 k (by omega), fun j hj => ?_, ⟨by omega, by omega⟩, ?_, fun e => ?_, fun e => ?_⟩
  · have e : t.1 = s.1 := by omega
    rw [e]
    exact c2 j (by omega)
  · rw [c4, l1]
    have : (s.2.2 = 1) ↔ (t.2.2 = 1) := by omega
    by_cases g : s.2.2 = 1
    · rw [if_pos g, if_pos (this.mp g)]
    · rw [if_neg g, if_neg (fun w => g (this.mpr w))]
  · rw [c5 (by omega), l1]
  · have := c6 (by omega)
    rw [← l1]
    exact this
theorem COR.push (c : COR F P hand B b M lo (kc, pb, h) pi) (hh : h ≠ 1) (hp : pi' = pi + 1) : COR F (upd P (b + (lo + pb)) x) x B b M lo (kc, pb, 1) pi' := by
  obtain ⟨c1, c2, c3, c4, c5, c6⟩ := c
  have c4 : pi = (b : Int) + lo + pb + (if h = 1 then 1 else 0) := c4
  rw [if_neg hh] at c4
  refine ⟨fun k hk => ?_, fun j hj => ?_, c3, ?_, fun _ => ?_, fun e => absurd e n12⟩
  · have hk : k < kc := hk
    have := c3.2
    rw [updN_ (by have : kc ≤ lo := this; omega)]
    exact c1 k hk
  · have hj : j < pb := hj
    rw [updN_ (by omega)]
    exact c2 j hj
  · show pi' = (b : Int) + lo + pb + 1
    omega
  · exact updS.symm
theorem COR.top (c : COR F P hand B b M lo (kc, pb, 1) pi) : COR F (upd P (b + (lo + pb)) x) x B b M lo (kc, pb, 1) pi := by
  obtain ⟨c1, c2, c3, c4, c5, c6⟩ := c
  refine ⟨fun k hk => ?_, fun j hj => ?_, c3, c4, fun _ => updS.symm, fun e => absurd e n12⟩
  · have hk : k < kc := hk
    have := c3.2
    rw [updN_ (by have : kc ≤ lo := this; omega)]
    exact c1 k hk
  · have hj : j < pb := hj
    rw [updN_ (by omega)]
    exact c2 j hj
theorem COR.hd (c : COR F P hand B b M lo (kc, pb, 1) pi) : pi = (b : Int) + lo + pb + 1 ∧ hand = P (b + (lo + pb)) := ⟨c.2.2.2.1, c.2.2.2.2.1 rfl⟩
/-- a number put by -/
theorem COR.by0 (c : COR F P hand B b M lo (kc, pb, 1) pi) (h2 : h = 0 ∨ h = 2) (hm : kc + pb < M) : COR (upd F (B + 2 + (kc + pb)) hand) P hand B b M lo (kc, pb + 1, h) pi := by
  obtain ⟨c1, c2, c3, c4, c5, c6⟩ := c
  have c5 : hand = P (b + (lo + pb)) := c5 rfl
  have c4 : pi = (b : Int) + lo + pb + 1 := c4
  refine ⟨fun k hk => ?_, fun j hj => ?_, ⟨by show kc + (pb + 1) ≤ M; omega, c3.2⟩, ?_, fun e => ?_, fun _ => ⟨by show 1 ≤ pb + 1; omega, ?_⟩⟩
  · have hk : k < kc := hk
    rw [updN_ (by omega)]
    exact c1 k hk
  · have hj : j < pb + 1 := hj
    show upd F (B + 2 + (kc + pb)) hand (B + 2 + (kc + j)) = _
    by_cases e : j = pb
    · rw [e, updS]
      exact c5
    · rw [updN_ (by omega)]
      exact c2 j (by show j < pb; omega)
  · show pi = (b : Int) + lo + ((pb + 1 : Nat) : Int) + (if h = 1 then 1 else 0)
    rw [if_neg (by omega)]
    omega
  · have e : h = 1 := e
    omega
  · show hand = P (b + (lo + (pb + 1 - 1)))
    rw [Nat.add_sub_cancel]
    exact c5
/-- a local is set -/
theorem COR.set (c : COR F P hand B b M lo (kc, pb, 1) pi) (hs : sl < kc) : COR (upd F (B + 2 + sl) hand) (upd P (b + sl) hand) hand B b M lo (kc, pb, 1) pi := by
  obtain ⟨c1, c2, c3, c4, c5, c6⟩ := c
  have c3' : kc ≤ lo := c3.2
  refine ⟨fun k hk => ?_, fun j hj => ?_, c3, c4, fun _ => ?_, fun e => absurd e n12⟩
  · by_cases e : k = sl
    · rw [e, updS, updS]
    · rw [updN_ (by omega), updN_ (by omega)]
      exact c1 k hk
  · show upd F (B + 2 + sl) hand (B + 2 + (kc + j)) = _
    rw [updN_ (by omega), updN_ (by omega)]
    exact c2 j hj
  · show hand = upd P (b + sl) hand (b + (lo + pb))
    rw [updN_ (by omega)]
    exact c5 rfl
/-- a new local -/
theorem COR.new (c : COR F P hand B b M lo (kc, 0, 1) pi) (hl : kc < lo) (hm : lo ≤ M) : COR (upd F (B + 2 + kc) hand) (upd P (b + kc) hand) hand B b M lo (kc + 1, 0, 1) pi := by
  obtain ⟨c1, c2, c3, c4, c5, c6⟩ := c
  refine ⟨fun k hk => ?_, fun j hj => absurd hj (Nat.not_lt_zero _), ⟨by show kc + 1 + 0 ≤ M; omega, by show kc + 1 ≤ lo; omega⟩, c4, fun _ => ?_, fun e => absurd e n12⟩
  · have hk : k < kc + 1 := hk
    by_cases e : k = kc
    · rw [e, updS, updS]
    · rw [updN_ (by omega), updN_ (by omega)]
      exact c1 k (by show k < kc; omega)
  · show hand = upd P (b + kc) hand (b + (lo + 0))
    rw [updN_ (by omega)]
    exact c5 rfl
theorem COR.pop (c : COR F P hand B b M lo (kc, pb, 1) pi) (hp : pi' = pi - 1) : COR F P x B b M lo (kc, pb, 0) pi' := by
  obtain ⟨c1, c2, c3, c4, c5, c6⟩ := c
  have c4 : pi = (b : Int) + lo + pb + 1 := c4
  refine ⟨c1, c2, c3, ?_, fun e => absurd e (by show ¬ (0 : Nat) = 1; decide), fun e => absurd e (by show ¬ (0 : Nat) = 2; decide)⟩
  show pi' = (b : Int) + lo + pb + 0
  omega
/-- two become one -/
theorem COR.two (c : COR F P hand B b M lo (kc, pb, 1) pi) (h1 : 1 ≤ pb) (hp : pi' = pi - 1) : COR F (upd P (b + (lo + (pb - 1))) x) x B b M lo (kc, pb - 1, 1) pi' := by
  obtain ⟨c1, c2, c3, c4, c5, c6⟩ := c
  have c4 : pi = (b : Int) + lo + pb + 1 := c4
  have c3' : kc ≤ lo := c3.2
  have c31 : kc + pb ≤ M := c3.1
  refine ⟨fun k hk => ?_, fun j hj => ?_, ⟨by show kc + (pb - 1) ≤ M; omega, c3.2⟩, ?_, fun _ => updS.symm, fun e => absurd e n12⟩
  · have hk : k < kc := hk
    rw [updN_ (by omega)]
    exact c1 k hk
  · have hj : j < pb - 1 := hj
    show F (B + 2 + (kc + j)) = _
    rw [updN_ (by omega)]
    exact c2 j (by show j < pb; omega)
  · show pi' = (b : Int) + lo + ((pb - 1 : Nat) : Int) + 1
    omega
end YAC
/-- the frames below frame k, whose function is f: C7 goes on at, C8 bases, C9 functions; p the ranks of all places that wait -/
def SKf (g : GC) (F P C7 C8 C9 : Nat → Int32) : Nat → Nat → Nat → Nat → Int → Prop
  | 0, f, B, b, p => B = 0 ∧ b = 0 ∧ p = 0 ∧ (C9 0).toInt = f ∧ F 0 = -1
  | k + 1, f, B, b, p => (C9 (k + 1)).toInt = f ∧ ∃ f' i' B' b' kc pb p', SKf g F P C7 C8 C9 k f' B' b' p' ∧ p = p' + zRk g f' i' ∧ zOk g f' i' ∧ (B = B' + 2 + zMm g f' ∧ b = b' + (zLo g f' + pb)) ∧ ((C7 (k + 1)).toInt = zPo g f' i' ∧ (C8 (k + 1)).toInt = b') ∧ ((F B).toInt = zPd g f' i' ∧ (F (B + 1)).toInt = B') ∧ (kc + pb ≤ zMm g f' ∧ kc ≤ zLo g f') ∧ le3 (kc, pb, 1) (zTy g f' i') ∧ (∀ k, k < kc → F (B' + 2 + k) = P (b' + k)) ∧ (∀ j, j < pb → F (B' + 2 + (kc + j)) = P (b' + (zLo g f' + j)))
theorem SKf.keep {g : GC} {F P C7 C8 C9 F' P' C7' C8' C9' : Nat → Int32} : ∀ (k f B b : Nat) (p : Int), SKf g F P C7 C8 C9 k f B b p → (∀ j, j < B + 2 → F' j = F j) → (∀ j, j < b → P' j = P j) → (∀ j, j ≤ k → C7' j = C7 j ∧ C8' j = C8 j ∧ C9' j = C9 j) → SKf g F' P' C7' C8' C9' k f B b p
  | 0, f, B, b, p, h, hF, hP, hC => by
    obtain ⟨h1, h2, h3, h4, h5⟩ := h
    exact ⟨h1, h2, h3, by rw [(hC 0 (Nat.le_refl _)).2.2]; exact h4, by rw [hF 0 (by omega)]; exact h5⟩
  | k + 1, f, B, b, p, h, hF, hP, hC => by
    obtain ⟨h0, f', i', B', b', kc, pb, p', h1, h2, h3, ⟨h4, h4'⟩, h5, h6, h7, h8, h9, h10⟩ := h
    have C := hC (k + 1) (Nat.le_refl _)
    refine ⟨by rw [C.2.2]; exact h0, f', i', B', b', kc, pb, p', SKf.keep k f' B' b' p' h1 (fun j hj => hF j (by omega)) (fun j hj => hP j (by omega)) (fun j hj => hC j (by omega)), h2, h3, ⟨h4, h4'⟩, by rw [C.1, C.2.1]; exact h5, by rw [hF B (by omega), hF (B + 1) (by omega)]; exact h6, h7, h8, fun k hk => ?_, fun j hj => ?_⟩
    · rw [hF _ (by omega), hP _ (by omega)]
      exact h9 k hk
    · rw [hF _ (by omega), hP _ (by omega)]
      exact h10 j hj
theorem SKf.p0 {g : GC} {F P C7 C8 C9 : Nat → Int32} (hr : ∀ f i, zOk g f i → 0 ≤ zRk g f i) : ∀ (k f B b : Nat) (p : Int), SKf g F P C7 C8 C9 k f B b p → 0 ≤ p ∧ (C9 k).toInt = f
  | 0, f, B, b, p, h => ⟨by rw [h.2.2.1]; exact Int.le_refl _, h.2.2.2.1⟩
  | k + 1, f, B, b, p, h => by
    obtain ⟨h0, f', i', B', b', kc, pb, p', h1, h2, h3, -⟩ := h
    have := (SKf.p0 hr k f' B' b' p' h1).1
    have := hr f' i' h3
    exact ⟨by omega, h0⟩
