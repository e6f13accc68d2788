/-! the class's deeds are the events': what is kept, what stands where -/
/-- kept: deeds below, labels below lo, calls below lc but x -/
def EFx (lo lc x : Int) (v u : MS) : Prop := (v.1 0 381).toInt ≤ (u.1 0 381).toInt ∧ (∀ j : Nat, (j : Int) < (v.1 0 381).toInt → u.1 378 j = v.1 378 j ∧ u.1 379 j = v.1 379 j ∧ u.1 380 j = v.1 380 j) ∧ (v.1 0 317).toInt ≤ (u.1 0 317).toInt ∧ (∀ l : Nat, (l : Int) < lo → u.1 316 l = v.1 316 l) ∧ (v.1 0 321).toInt ≤ (u.1 0 321).toInt ∧ (∀ c : Nat, (c : Int) < lc → (c : Int) ≠ x → u.1 318 c = v.1 318 c ∧ u.1 320 c = v.1 320 c)
abbrev EF (lo lc : Int) (v u : MS) : Prop := EFx lo lc (-1) v u
section EFS
variable {L1 L2 : List Nat} {v u w : MS} {lo lc lo' lc' x x' : Int} {pa pb pc1 r : Int32}
theorem EFx.rf : EFx lo lc x v v := ⟨Int.le_refl _, fun _ _ => ⟨rfl, rfl, rfl⟩, Int.le_refl _, fun _ _ => rfl, Int.le_refl _, fun _ _ _ => ⟨rfl, rfl⟩⟩
theorem EF.rf : EF lo lc v v := EFx.rf
theorem EF.ex (h : EF lo lc v u) : EFx lo lc x v u := ⟨h.1, h.2.1, h.2.2.1, h.2.2.2.1, h.2.2.2.2.1, fun c hc _ => h.2.2.2.2.2 c hc (by omega)⟩
theorem EFx.tr (h : EFx lo lc x v u) (k : EFx lo' lc' x' u w) (h1 : lo ≤ lo') (h2 : lc ≤ lc') (h3 : x' = x ∨ x' = -1 ∨ lc ≤ x') : EFx lo lc x v w := by
  obtain ⟨a1, a2, a3, a4, a5, a6⟩ := h
  obtain ⟨b1, b2, b3, b4, b5, b6⟩ := k
  refine ⟨Int.le_trans a1 b1, fun j hj => ?_, Int.le_trans a3 b3, fun l hl => (b4 l (by omega)).trans (a4 l hl), Int.le_trans a5 b5, fun c hc hx => ⟨(b6 c (by omega) (by omega)).1.trans (a6 c hc hx).1, (b6 c (by omega) (by omega)).2.trans (a6 c hc hx).2⟩⟩
  have z := a2 j hj
  have y := b2 j (by omega)
  exact ⟨y.1.trans z.1, y.2.1.trans z.2.1, y.2.2.trans z.2.2⟩
theorem EF.tr (h : EF lo lc v u) (k : EF lo' lc' u w) (h1 : lo ≤ lo') (h2 : lc ≤ lc') : EF lo lc v w := EFx.tr h k h1 h2 (Or.inl rfl)
theorem EF.fc {fl al : List Nat} (f : FC fl al v u) (h1 : 381 ∉ fl ∧ 317 ∉ fl ∧ 321 ∉ fl) (h2 : 378 ∉ al ∧ 379 ∉ al ∧ 380 ∉ al ∧ 316 ∉ al ∧ 318 ∉ al ∧ 320 ∉ al) : EF lo lc v u := by
  have A : ∀ {a : Nat}, a < 5000 → a ∉ al → ∀ j, u.1 a j = v.1 a j := fun h k j => congrFun (f.2.2 _ ⟨h, k⟩) j
  refine ⟨by rw [f.2.1 381 h1.1]; exact Int.le_refl _, fun j _ => ⟨A (by decide) h2.1 j, A (by decide) h2.2.1 j, A (by decide) h2.2.2.1 j⟩, by rw [f.2.1 317 h1.2.1]; exact Int.le_refl _, fun l _ => A (by decide) h2.2.2.2.1 l, by rw [f.2.1 321 h1.2.2]; exact Int.le_refl _, fun c _ _ => ⟨A (by decide) h2.2.2.2.2.1 c, A (by decide) h2.2.2.2.2.2 c⟩⟩
theorem EF.add (h : Q_x_X1_add L1 L2 v pa pb pc1 u) : EF lo lc v u ∧ (u.1 0 381).toInt = (v.1 0 381).toInt + 1 ∧ u.1 378 (v.1 0 381).toNatClampNeg = pa ∧ u.1 379 (v.1 0 381).toNatClampNeg = pb ∧ u.1 380 (v.1 0 381).toNatClampNeg = pc1 ∧ 0 ≤ (v.1 0 381).toInt := by
  obtain ⟨-, -, h0, h1, rfl⟩ := h
  have e : ((v.1 0 381) + (1 : Int32)).toInt = (v.1 0 381).toInt + 1 := add_z rfl (by decide) (by omega) (by omega)
  have n := natI h0
  refine ⟨⟨?_, fun j hj => ?_, Int.le_refl _, fun _ _ => rfl, Int.le_refl _, fun _ _ _ => ⟨rfl, rfl⟩⟩, e, updS, updS, updS, h0⟩
  · show (v.1 0 381).toInt ≤ ((v.1 0 381) + (1 : Int32)).toInt
    omega
  · have : j ≠ (v.1 0 381).toNatClampNeg := by omega
    exact ⟨updN_ this, updN_ this, updN_ this⟩
theorem EF.lab (h : Q_x_X1_newLabel L1 L2 v r u) (h0 : 0 ≤ (v.1 0 317).toInt ∧ (v.1 0 317).toInt < 100000) : EF lo lc v u ∧ (u.1 0 317).toInt = (v.1 0 317).toInt + 1 ∧ r.toInt = (v.1 0 317).toInt := by
  obtain ⟨-, -, rfl, rfl⟩ := h
  have e : ((v.1 0 317) + (1 : Int32)).toInt = (v.1 0 317).toInt + 1 := add_z rfl (by decide) (by omega) (by omega)
  refine ⟨⟨Int.le_refl _, fun _ _ => ⟨rfl, rfl, rfl⟩, ?_, fun _ _ => rfl, Int.le_refl _, fun _ _ _ => ⟨rfl, rfl⟩⟩, e, rfl⟩
  show (v.1 0 317).toInt ≤ ((v.1 0 317) + (1 : Int32)).toInt
  omega
theorem EF.set (h : Q_x_X1_setLabel L1 L2 v pa u) (h0 : lo ≤ pa.toInt ∧ 0 ≤ pa.toInt) : EF lo lc v u ∧ (pa.toInt < 1500 → u.1 316 pa.toNatClampNeg = v.1 0 381) ∧ (∀ l : Nat, (l : Int) ≠ pa.toInt → u.1 316 l = v.1 316 l) := by
  obtain ⟨-, h⟩ := h
  rcases h with ⟨a, -⟩ | ⟨-, ⟨a, e9⟩ | ⟨-, rfl⟩⟩
  · omega
  · rw [e9]
    exact ⟨EF.rf, fun q => by omega, fun _ _ => rfl⟩
  · have n := natI h0.2
    have k : ∀ l : Nat, (l : Int) ≠ pa.toInt → (wA v 316 pa.toNatClampNeg (v.1 0 381)).1 316 l = v.1 316 l := fun l hl => updN_ (by omega)
    exact ⟨⟨Int.le_refl _, fun _ _ => ⟨rfl, rfl, rfl⟩, Int.le_refl _, fun l hl => k l (by omega), Int.le_refl _, fun _ _ _ => ⟨rfl, rfl⟩⟩, fun _ => updS, k⟩
end EFS
/-- the deed at p is the event's; P: where break, continue, return lead; own labels from lo, own calls from cl on -/
def mtE (P : Int32 × Int32 × Int32) (u : MS) (lo cl : Int) (q : EV) (p : Nat) : Prop :=
  (p : Int) + ldE q ≤ (u.1 0 381).toInt ∧
  (if q.1 = 25 then True
   else if q.1 = 16 ∨ q.1 = 17 ∨ q.1 = 18 ∨ q.1 = 19 then u.1 378 p = q.1 ∧ u.1 380 p = 0 ∧ (lo ≤ (u.1 379 p).toInt ∧ 0 ≤ (u.1 379 p).toInt ∧ (u.1 379 p).toInt < (u.1 0 317).toInt) ∧ ((u.1 379 p).toInt < 1500 → (u.1 316 (u.1 379 p).toNatClampNeg).toInt = p + q.2.2.2.1)
   else if q.1 = 30 then u.1 378 p = 19 ∧ u.1 380 p = 0 ∧ u.1 379 p = P.1 ∧ P.1.toInt ≠ -1
   else if q.1 = 31 then u.1 378 p = 19 ∧ u.1 380 p = 0 ∧ u.1 379 p = P.2.1 ∧ P.2.1.toInt ≠ -1
   else if q.1 = 32 then u.1 378 p = 19 ∧ u.1 380 p = 0 ∧ u.1 379 p = P.2.2
   else if q.1 = 33 then u.1 378 p = 19 ∧ u.1 380 p = 0 ∧ (lo ≤ (u.1 379 p).toInt ∧ 0 ≤ (u.1 379 p).toInt ∧ (u.1 379 p).toInt < (u.1 0 317).toInt) ∧ ((u.1 379 p).toInt < 1500 → (u.1 316 (u.1 379 p).toNatClampNeg).toInt = p + q.2.2.2.1)
   else if q.1 = 21 then u.1 378 p = 21 ∧ u.1 380 p = q.2.2.1 ∧ (cl ≤ (u.1 379 p).toInt ∧ 0 ≤ (u.1 379 p).toInt ∧ (u.1 379 p).toInt < (u.1 0 321).toInt) ∧ u.1 318 (u.1 379 p).toNatClampNeg = q.2.1 ∧ (u.1 320 (u.1 379 p).toNatClampNeg).toInt = q.2.2.2.1
   else u.1 378 p = q.1 ∧ u.1 379 p = q.2.1 ∧ u.1 380 p = (if q.1 = 4 then 0 else q.2.2.1))
def MTq (P : Int32 × Int32 × Int32) (u : MS) (lo cl : Int) (p : Nat) (a : List EV) : Prop := ∀ x q y, a = x ++ q :: y → mtE P u lo cl q (p + ldL x)
section MTS
variable {P : Int32 × Int32 × Int32} {v u w : MS} {lo lo' lo'' lc cl cl'' x : Int} {p : Nat} {a b : List EV} {q : EV}
theorem MTq.nil : MTq P u lo cl p [] := fun x q y h => by
  have := congrArg List.length h
  simp at this
theorem MTq.one (h : mtE P u lo cl q p) : MTq P u lo cl p [q] := fun x q' y h' => by
  cases x with
  | nil =>
    have e := (List.cons.inj h').1
    rw [← e]
    exact h
  | cons z x =>
    have e := (List.cons.inj h').2
    have := congrArg List.length e
    simp at this
theorem MTq.app (h : MTq P u lo cl p a) (k : MTq P u lo cl (p + ldL a) b) : MTq P u lo cl p (a ++ b) := fun x q y e => by
  rcases List.append_eq_append_iff.mp e with ⟨z, e1, e2⟩ | ⟨z, e1, e2⟩
  · have := k z q y e2
    rw [e1, ldL_app, ← Nat.add_assoc]
    exact this
  · cases z with
    | nil =>
      rw [List.append_nil] at e1
      rw [List.nil_append] at e2
      have := k [] q y e2.symm
      rw [← e1]
      exact this
    | cons z0 z =>
      rw [List.cons_append] at e2
      have e3 := List.cons.inj e2
      exact h x q z (by rw [e1, e3.1])
/-- later: what was laid stays -/
theorem mtE.up (h : mtE P u lo cl q p) (k : EFx lo' lc x u w) (h1 : (u.1 0 317).toInt ≤ lo') (h2 : (u.1 0 321).toInt ≤ lc) (h3 : lo'' ≤ lo) (h4 : cl'' ≤ cl) (h5 : x < cl) : mtE P w lo'' cl'' q p := by
  obtain ⟨a, h⟩ := h
  obtain ⟨k1, k2, k3, k4, k5, k6⟩ := k
  refine ⟨by omega, ?_⟩
  by_cases c : q.1 = 25
  · rw [if_pos c]
    trivial
  · have d : ldE q = 1 := if_neg c
    have K := k2 p (by omega)
    rw [if_neg c] at h ⊢
    rw [K.1, K.2.1, K.2.2]
    by_cases c1 : q.1 = 16 ∨ q.1 = 17 ∨ q.1 = 18 ∨ q.1 = 19
    · rw [if_pos c1] at h ⊢
      have n := natI h.2.2.1.2.1
      rw [k4 _ (by omega)]
      exact ⟨h.1, h.2.1, ⟨by omega, by omega, by omega⟩, h.2.2.2⟩
    · rw [if_neg c1] at h ⊢
      by_cases c2 : q.1 = 30
      · rw [if_pos c2] at h ⊢; exact h
      · rw [if_neg c2] at h ⊢
        by_cases c3 : q.1 = 31
        · rw [if_pos c3] at h ⊢; exact h
        · rw [if_neg c3] at h ⊢
          by_cases c4 : q.1 = 32
          · rw [if_pos c4] at h ⊢; exact h
          · rw [if_neg c4] at h ⊢
            by_cases c9 : q.1 = 33
            · rw [if_pos c9] at h ⊢
              have n := natI h.2.2.1.2.1
              rw [k4 _ (by omega)]
              exact ⟨h.1, h.2.1, ⟨by omega, by omega, by omega⟩, h.2.2.2⟩
            · rw [if_neg c9] at h ⊢
              by_cases c5 : q.1 = 21
              · rw [if_pos c5] at h ⊢
                have n := natI h.2.2.1.2.1
                have K6 := k6 (u.1 379 p).toNatClampNeg (by omega) (by omega)
                rw [K6.1, K6.2]
                exact ⟨h.1, h.2.1, ⟨by omega, by omega, by omega⟩, h.2.2.2⟩
              · rw [if_neg c5] at h ⊢; exact h
theorem MTq.up (h : MTq P u lo cl p a) (k : EFx lo' lc x u w) (h1 : (u.1 0 317).toInt ≤ lo') (h2 : (u.1 0 321).toInt ≤ lc) (h3 : lo'' ≤ lo) (h4 : cl'' ≤ cl) (h5 : x < cl) : MTq P w lo'' cl'' p a := fun x q y e => (h x q y e).up k h1 h2 h3 h4 h5
end MTS
