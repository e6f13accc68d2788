/-! the class's deeds: what is kept from a part's end to a statement's end; break and continue resolved -/
/-- kept: deeds, calls, labels from l0 up to l1 -/
def KY (l0 l1 : Int) (t u : MS) : Prop := ((t.1 0 381).toInt ≤ (u.1 0 381).toInt ∧ ∀ j : Nat, (j : Int) < (t.1 0 381).toInt → u.1 378 j = t.1 378 j ∧ u.1 379 j = t.1 379 j ∧ u.1 380 j = t.1 380 j) ∧ ((t.1 0 317).toInt ≤ (u.1 0 317).toInt ∧ ∀ l : Nat, l0 ≤ (l : Int) → (l : Int) < l1 → u.1 316 l = t.1 316 l) ∧ ((t.1 0 321).toInt ≤ (u.1 0 321).toInt ∧ ∀ c : Nat, (c : Int) < (t.1 0 321).toInt → u.1 318 c = t.1 318 c ∧ u.1 320 c = t.1 320 c)
section VCK
variable {L1 L2 : List Nat} {P P' : Int32 × Int32 × Int32} {v u w t : MS} {a b : List EV} {e : PE} {pa pb pc1 r : Int32} {l0 l1 lo cl lo'' cl'' : Int} {p : Nat} {q : EV} {B C : D3}
theorem KY.rf : KY l0 l1 u u := ⟨⟨Int.le_refl _, fun _ _ => ⟨rfl, rfl, rfl⟩⟩, ⟨Int.le_refl _, fun _ _ _ => rfl⟩, ⟨Int.le_refl _, fun _ _ => ⟨rfl, rfl⟩⟩⟩
theorem KY.tr (h : KY l0 l1 t u) (k : KY l0 l1 u w) : KY l0 l1 t w := by
  obtain ⟨⟨a1, a2⟩, ⟨a3, a4⟩, ⟨a5, a6⟩⟩ := h
  obtain ⟨⟨b1, b2⟩, ⟨b3, b4⟩, ⟨b5, b6⟩⟩ := k
  refine ⟨⟨by omega, fun j hj => ?_⟩, ⟨by omega, fun l h1 h2 => (b4 l h1 h2).trans (a4 l h1 h2)⟩, ⟨by omega, fun c h1 => ⟨(b6 c (by omega)).1.trans (a6 c h1).1, (b6 c (by omega)).2.trans (a6 c h1).2⟩⟩⟩
  have y := a2 j hj
  have z := b2 j (by omega)
  exact ⟨z.1.trans y.1, z.2.1.trans y.2.1, z.2.2.trans y.2.2⟩
theorem KY.ef {lo' lc' : Int} (h : EF lo' lc' t u) (h1 : l1 ≤ lo') (h2 : (t.1 0 321).toInt ≤ lc') : KY l0 l1 t u :=
  ⟨⟨h.1, h.2.1⟩, ⟨h.2.2.1, fun l _ k => h.2.2.2.1 l (by omega)⟩, ⟨h.2.2.2.2.1, fun c k => h.2.2.2.2.2 c (by omega) (by omega)⟩⟩
theorem KY.ea (h : EA P t u a) (h1 : l1 ≤ (t.1 0 317).toInt) : KY l0 l1 t u := KY.ef h.2.1 h1 (Int.le_refl _)
theorem KY.fc {fl al : List Nat} (f : FC fl al t u) (h1 : 381 ∉ fl ∧ 317 ∉ fl ∧ 321 ∉ fl := by decide) (h2 : 378 ∉ al ∧ 379 ∉ al ∧ 380 ∉ al ∧ 316 ∉ al ∧ 318 ∉ al ∧ 320 ∉ al := by decide) : KY l0 l1 t u := KY.ef (lo' := l1) (lc' := (t.1 0 321).toInt) (EF.fc f h1 h2) (Int.le_refl _) (Int.le_refl _)
theorem KY.add (h : Q_x_X1_add L1 L2 t pa pb pc1 u) : KY l0 l1 t u := KY.ef (EF.add (lo := l1) (lc := (t.1 0 321).toInt) h).1 (Int.le_refl _) (Int.le_refl _)
theorem KY.lab (h : Q_x_X1_newLabel L1 L2 t r u) (h0 : 0 ≤ (t.1 0 317).toInt ∧ (t.1 0 317).toInt < 100000) : KY l0 l1 t u := KY.ef (EF.lab (lo := l1) (lc := (t.1 0 321).toInt) h h0).1 (Int.le_refl _) (Int.le_refl _)
theorem KY.set (h : Q_x_X1_setLabel L1 L2 t pa u) (h0 : 0 ≤ pa.toInt) (h1 : pa.toInt < l0 ∨ l1 ≤ pa.toInt) : KY l0 l1 t u := by
  have A := EF.set (lo := 0) (lc := (t.1 0 321).toInt) h ⟨h0, h0⟩
  exact ⟨⟨A.1.1, A.1.2.1⟩, ⟨A.1.2.2.1, fun l k1 k2 => A.2.2 l (by omega)⟩, ⟨A.1.2.2.2.2.1, fun c k => A.1.2.2.2.2.2 c k (by omega)⟩⟩
theorem mtE.ky (h : mtE P t l0 cl q p) (k : KY l0 l1 t u) (h1 : (t.1 0 317).toInt ≤ l1) (h3 : lo'' ≤ l0) (h4 : cl'' ≤ cl) : mtE P u lo'' cl'' q p :=
  mtE.kx (lo := l0) (cl := cl) h ⟨k.1, ⟨k.2.1.1, fun l g1 g2 => k.2.1.2 l g1 (by omega)⟩, ⟨k.2.2.1, fun c _ g2 => k.2.2.2 c g2⟩⟩ h3 h4
theorem MTq.ky (h : MTq P t l0 cl p a) (k : KY l0 l1 t u) (h1 : (t.1 0 317).toInt ≤ l1) (h3 : lo'' ≤ l0) (h4 : cl'' ≤ cl) : MTq P u lo'' cl'' p a := fun x q y e => (h x q y e).ky k h1 h3 h4
theorem MTq.hd (h : MTq P u lo cl p (q :: a)) : mtE P u lo cl q p ∧ MTq P u lo cl (p + ldE q) a := by
  refine ⟨?_, fun x q' y e => ?_⟩
  · have := h [] q a rfl
    rw [ldL_nil] at this
    exact this
  · have := h (q :: x) q' y (by rw [e]; rfl)
    rw [ldL_cons, ← Nat.add_assoc] at this
    exact this
theorem MTq.cons (h : mtE P u lo cl q p) (k : MTq P u lo cl (p + ldE q) a) : MTq P u lo cl p (q :: a) := by
  have := MTq.app (MTq.one h) (b := a) (by rw [ldL_cons, ldL_nil, Nat.add_zero]; exact k)
  exact this
theorem ldL_rsv : ∀ (a : List EV) (B C : D3), ldL (rsv B C a) = ldL a
  | [], _, _ => rfl
  | q :: l, B, C => by
    show ldL ((if q.1 = 30 then (19, 0, 0, B.1, B.2.1, B.2.2) else if q.1 = 31 then (19, 0, 0, C.1, C.2.1, C.2.2) else q) :: rsv (d3s B q) (d3s C q) l) = _
    rw [ldL_cons, ldL_cons, ldL_rsv l]
    congr 1
    by_cases c : q.1 = 30
    · rw [if_pos c]
      unfold ldE
      rw [if_neg (show ¬ q.1 = 25 by rw [c]; decide)]
      rfl
    · rw [if_neg c]
      by_cases c2 : q.1 = 31
      · rw [if_pos c2]
        unfold ldE
        rw [if_neg (show ¬ q.1 = 25 by rw [c2]; decide)]
        rfl
      · rw [if_neg c2]
/-- both places are known: break and continue are jumps -/
theorem MTq.rs2 (hB : lo ≤ P'.1.toInt ∧ 0 ≤ P'.1.toInt ∧ P'.1.toInt < (u.1 0 317).toInt) (hC : lo ≤ P'.2.1.toInt ∧ 0 ≤ P'.2.1.toInt ∧ P'.2.1.toInt < (u.1 0 317).toInt) (hR : P'.2.2 = P.2.2) : ∀ (a : List EV) (B C : D3) (p : Nat), (P'.1.toInt < 1500 → (u.1 316 P'.1.toNatClampNeg).toInt = p + B.1) → (P'.2.1.toInt < 1500 → (u.1 316 P'.2.1.toNatClampNeg).toInt = p + C.1) → MTq P' u lo cl p a → MTq P u lo cl p (rsv B C a)
  | [], _, _, _, _, _, _ => MTq.nil
  | q :: l, B, C, p, h1, h2, h => by
    have H := h.hd
    have T := MTq.rs2 hB hC hR l (d3s B q) (d3s C q) (p + ldE q) (fun g => by rw [h1 g]; show _ = ((p + ldE q : Nat) : Int) + (B.1 - ldE q); omega) (fun g => by rw [h2 g]; show _ = ((p + ldE q : Nat) : Int) + (C.1 - ldE q); omega) H.2
    show MTq P u lo cl p ((if q.1 = 30 then (19, 0, 0, B.1, B.2.1, B.2.2) else if q.1 = 31 then (19, 0, 0, C.1, C.2.1, C.2.2) else q) :: rsv (d3s B q) (d3s C q) l)
    obtain ⟨m1, m2⟩ := H.1
    by_cases c : q.1 = 30
    · rw [if_pos c]
      have d : ldE q = 1 := if_neg (by rw [c]; decide)
      rw [d] at T m1
      rw [c] at m2
      have m2 : u.1 378 p = 19 ∧ u.1 380 p = 0 ∧ u.1 379 p = P'.1 ∧ P'.1.toInt ≠ -1 := m2
      refine MTq.cons (mtE.jump (l := P'.1.toNatClampNeg) (Or.inr (Or.inr (Or.inr rfl))) (by omega) m2.1 (by rw [m2.2.2.1]; exact (natI hB.2.1).symm) m2.2.1 ?_ ?_) T
      · have := natI hB.2.1
        exact ⟨by omega, by omega⟩
      · have := natI hB.2.1
        exact fun g => h1 (by omega)
    · rw [if_neg c]
      by_cases c2 : q.1 = 31
      · rw [if_pos c2]
        have d : ldE q = 1 := if_neg (by rw [c2]; decide)
        rw [d] at T m1
        rw [c2] at m2
        have m2 : u.1 378 p = 19 ∧ u.1 380 p = 0 ∧ u.1 379 p = P'.2.1 ∧ P'.2.1.toInt ≠ -1 := m2
        refine MTq.cons (mtE.jump (l := P'.2.1.toNatClampNeg) (Or.inr (Or.inr (Or.inr rfl))) (by omega) m2.1 (by rw [m2.2.2.1]; exact (natI hC.2.1).symm) m2.2.1 ?_ ?_) T
        · have := natI hC.2.1
          exact ⟨by omega, by omega⟩
        · have := natI hC.2.1
          exact fun g => h2 (by omega)
      · rw [if_neg c2]
        refine MTq.cons ⟨m1, ?_⟩ T
        rw [if_neg c, if_neg c2] at m2 ⊢
        rw [← hR]
        exact m2
end VCK
