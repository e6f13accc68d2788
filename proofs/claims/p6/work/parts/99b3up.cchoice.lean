/-! the class's deeds: own labels; a choice -/
/-- kept: deeds, labels from lo on, calls from cl on -/
def KX (lo cl : Int) (u w : MS) : Prop := ((u.1 0 381).toInt ≤ (w.1 0 381).toInt ∧ ∀ j : Nat, (j : Int) < (u.1 0 381).toInt → w.1 378 j = u.1 378 j ∧ w.1 379 j = u.1 379 j ∧ w.1 380 j = u.1 380 j) ∧ ((u.1 0 317).toInt ≤ (w.1 0 317).toInt ∧ ∀ l : Nat, lo ≤ (l : Int) → (l : Int) < (u.1 0 317).toInt → w.1 316 l = u.1 316 l) ∧ ((u.1 0 321).toInt ≤ (w.1 0 321).toInt ∧ ∀ c : Nat, cl ≤ (c : Int) → (c : Int) < (u.1 0 321).toInt → w.1 318 c = u.1 318 c ∧ w.1 320 c = u.1 320 c)
section UPC
variable {L1 L2 : List Nat} {P : Int32 × Int32 × Int32} {v u w x z : MS} {a b : List EV} {e : PE} {pa pb pc1 pd r : Int32} {t : Bool} {E : EvE} {R : RE1} {lo cl lo'' cl'' : Int} {p : Nat} {q : EV}
theorem KX.rf : KX lo cl u u := ⟨⟨Int.le_refl _, fun _ _ => ⟨rfl, rfl, rfl⟩⟩, ⟨Int.le_refl _, fun _ _ _ => rfl⟩, ⟨Int.le_refl _, fun _ _ _ => ⟨rfl, rfl⟩⟩⟩
theorem KX.tr (h : KX lo cl u w) (k : KX lo cl w x) : KX lo cl u x := by
  obtain ⟨⟨a1, a2⟩, ⟨a3, a4⟩, ⟨a5, a6⟩⟩ := h
  obtain ⟨⟨b1, b2⟩, ⟨b3, b4⟩, ⟨b5, b6⟩⟩ := k
  refine ⟨⟨by omega, fun j hj => ?_⟩, ⟨by omega, fun l h1 h2 => (b4 l h1 (by omega)).trans (a4 l h1 h2)⟩, ⟨by omega, fun c h1 h2 => ⟨(b6 c h1 (by omega)).1.trans (a6 c h1 h2).1, (b6 c h1 (by omega)).2.trans (a6 c h1 h2).2⟩⟩⟩
  have y := a2 j hj
  have z := b2 j (by omega)
  exact ⟨z.1.trans y.1, z.2.1.trans y.2.1, z.2.2.trans y.2.2⟩
theorem KX.ef {lo' lc' : Int} (h : EF lo' lc' u w) (h1 : (u.1 0 317).toInt ≤ lo') (h2 : (u.1 0 321).toInt ≤ lc') : KX lo cl u w :=
  ⟨⟨h.1, h.2.1⟩, ⟨h.2.2.1, fun l _ k => h.2.2.2.1 l (by omega)⟩, ⟨h.2.2.2.2.1, fun c _ k => h.2.2.2.2.2 c (by omega) (by omega)⟩⟩
theorem KX.ea (h : EA P u w a) : KX lo cl u w := KX.ef h.2.1 (Int.le_refl _) (Int.le_refl _)
theorem KX.add (h : Q_x_X1_add L1 L2 u pa pb pc1 w) : KX lo cl u w := KX.ef (EF.add (lo := (u.1 0 317).toInt) (lc := (u.1 0 321).toInt) h).1 (Int.le_refl _) (Int.le_refl _)
theorem KX.set (h : Q_x_X1_setLabel L1 L2 u pa w) (h0 : 0 ≤ pa.toInt) (h1 : pa.toInt < lo) : KX lo cl u w ∧ (pa.toInt < 1500 → w.1 316 pa.toNatClampNeg = u.1 0 381) ∧ (∀ l : Nat, (l : Int) ≠ pa.toInt → w.1 316 l = u.1 316 l) ∧ w.1 0 = u.1 0 ∧ w.1 378 = u.1 378 ∧ w.1 379 = u.1 379 ∧ w.1 380 = u.1 380 := by
  obtain ⟨-, h⟩ := h
  rcases h with ⟨c, -⟩ | ⟨-, ⟨c, e9⟩ | ⟨-, rfl⟩⟩
  · omega
  · rw [e9]
    exact ⟨KX.rf, fun q => by omega, fun _ _ => rfl, rfl, rfl, rfl, rfl⟩
  · have n := natI h0
    have k : ∀ l : Nat, (l : Int) ≠ pa.toInt → (wA u 316 pa.toNatClampNeg (u.1 0 381)).1 316 l = u.1 316 l := fun l hl => updN_ (by omega)
    exact ⟨⟨⟨Int.le_refl _, fun _ _ => ⟨rfl, rfl, rfl⟩⟩, ⟨Int.le_refl _, fun l h2 _ => k l (by omega)⟩, ⟨Int.le_refl _, fun _ _ _ => ⟨rfl, rfl⟩⟩⟩, fun _ => updS, k, rfl, rfl, rfl, rfl⟩
theorem mtE.kx (h : mtE P u lo cl q p) (k : KX lo cl u w) (h3 : lo'' ≤ lo) (h4 : cl'' ≤ cl) : mtE P w lo'' cl'' q p := by
  obtain ⟨a, h⟩ := h
  obtain ⟨⟨k1, k2⟩, ⟨k3, k4⟩, ⟨k5, k6⟩⟩ := k
  refine ⟨by omega, ?_⟩
  by_cases c : q.1 = 25
  · rw [if_pos c]
    trivial
  · have d : ldE q = 1 := if_neg c
    have K := k2 p (by omega)
    rw [if_neg c] at h ⊢
    rw [K.1, K.2.1, K.2.2]
    by_cases c1 : q.1 = 16 ∨ q.1 = 17 ∨ q.1 = 18 ∨ q.1 = 19
    · rw [if_pos c1] at h ⊢
      have n := natI h.2.2.1.2.1
      rw [k4 _ (by omega) (by omega)]
      exact ⟨h.1, h.2.1, ⟨by omega, by omega, by omega⟩, h.2.2.2⟩
    · rw [if_neg c1] at h ⊢
      by_cases c2 : q.1 = 30
      · rw [if_pos c2] at h ⊢; exact h
      · rw [if_neg c2] at h ⊢
        by_cases c3 : q.1 = 31
        · rw [if_pos c3] at h ⊢; exact h
        · rw [if_neg c3] at h ⊢
          by_cases c4 : q.1 = 32
          · rw [if_pos c4] at h ⊢; exact h
          · rw [if_neg c4] at h ⊢
            by_cases c9 : q.1 = 33
            · rw [if_pos c9] at h ⊢
              have n := natI h.2.2.1.2.1
              rw [k4 _ (by omega) (by omega)]
              exact ⟨h.1, h.2.1, ⟨by omega, by omega, by omega⟩, h.2.2.2⟩
            · rw [if_neg c9] at h ⊢
              by_cases c5 : q.1 = 21
              · rw [if_pos c5] at h ⊢
                have n := natI h.2.2.1.2.1
                have K6 := k6 (u.1 379 p).toNatClampNeg (by omega) (by omega)
                rw [K6.1, K6.2]
                exact ⟨h.1, h.2.1, ⟨by omega, by omega, by omega⟩, h.2.2.2⟩
              · rw [if_neg c5] at h ⊢; exact h
theorem MTq.kx (h : MTq P u lo cl p a) (k : KX lo cl u w) (h3 : lo'' ≤ lo) (h4 : cl'' ≤ cl) : MTq P w lo'' cl'' p a := fun x q y e => (h x q y e).kx k h3 h4
/-- a jump's deed, its label set -/
theorem mtE.jump {t y : Int32} {d1 d2 d3 : Int} {l : Nat} (ht : t = 16 ∨ t = 17 ∨ t = 18 ∨ t = 19) (h0 : (p : Int) < (u.1 0 381).toInt) (h1 : u.1 378 p = t) (h2 : (u.1 379 p).toInt = l) (h3 : u.1 380 p = 0) (hl : lo ≤ l ∧ (l : Int) < (u.1 0 317).toInt) (hs : (l : Int) < 1500 → (u.1 316 l).toInt = p + d1) : mtE P u lo cl (t, 0, y, d1, d2, d3) p := by
  have t5 : t ≠ 25 := by rcases ht with rfl | rfl | rfl | rfl <;> decide
  have l1 : ldE (t, 0, y, d1, d2, d3) = 1 := if_neg t5
  refine ⟨by rw [l1]; omega, ?_⟩
  show if t = 25 then True else if t = 16 ∨ t = 17 ∨ t = 18 ∨ t = 19 then _ else _
  rw [if_neg t5, if_pos ht, natC h2]
  exact ⟨h1, h3, ⟨by omega, by omega, by omega⟩, fun q => hs (by omega)⟩
end UPC
