/-! the words of both, event by event, III -/
section ZZZH
variable {K : TK} {x u v w : MS} {a X Y : List EV} {q : EV} {P n p k np m M : Nat} {L R T O tl : List Int32} {L1 L2 : List Nat} {d : List (List Int32 × List EV)} {c : WC} {z s t y z2 : Int32} {gm : Nat → Int32}
set_option maxHeartbeats 1600000 in
theorem cmpE (h : CMx L1 L2 K u x d) (F : FTw K x d tl) (CW : CWD L1 L2 u m T O c) (hD : ∀ X q Y, txW 0 d = X ++ q :: Y → DTq L1 u (z0E q) (ldL X)) (hm : m = ldL (txW 0 d)) (m3 : m ≤ 3008) (JS : JLs (txW 0 d)) (hA : ∀ X Y, txW 0 d = X ++ Y → AA L1 u (ldL X) = 2 + lwL X) (lb : lwL (txW 0 d) ≤ 900000) (h5 : ∀ X q Y, txW 0 d = X ++ q :: Y → q.1 = 5 ∨ q.1 = 6 → (q.2.1.toNatClampNeg : Int) < (x.1 0 27).toInt) (h7 : (∃ j : Nat, j < m ∧ u.1 378 j = 20 ∧ u.1 379 j = 55) → x.1 0 67 = nI (2 + lwL (txW 0 d))) (h8 : (∃ j : Nat, j < m ∧ u.1 378 j = 20 ∧ (u.1 379 j = 56 ∨ u.1 379 j = 57)) → x.1 0 68 = nI (2 + lwL (txW 0 d) + T.length)) (tb : T.length ≤ 10) (e : txW 0 d = X ++ q :: Y) (h1 : ldE q = 1) : ∀ i : Nat, i < lwE q → u.1 382 (2 + lwL X + i) = x.1 11 (2 + lwL X + i) := by
  have c25 : q.1 ≠ 25 := fun c => by
    have : ldE q = 0 := if_pos c
    omega
  have D := hD X q Y e
  have pm : ldL X < m := by
    rw [hm, e, ldL_app, ldL_cons]
    omega
  have aX := hA X (q :: Y) e
  have lX : lwL X + lwE q ≤ lwL (txW 0 d) := by
    rw [e, lwL_app, lwL_cons]
    omega
  obtain ⟨-, ⟨C1, C2, C3, C4, C5, C6, C7⟩, ⟨-, W2, -⟩, -⟩ := CW
  have hC := W2 (ldL X) pm
  rw [aX] at hC
  have hL : (wD c (nI (2 + lwL X)) (u.1 378 (ldL X)) (u.1 379 (ldL X)) (u.1 380 (ldL X))).length = lwE q := (lenW (L1 := L1) (v := u) (C1 _ 0 (by decide))).trans (lenE h F D e h1)
  have f := F.2.2.2 X q Y e
  by_cases c0 : q.1 = 0
  · rw [if_pos c0] at f
    obtain ⟨k, np, e1, ⟨e2, e3⟩, e4, e5, e6⟩ := f
    have z : z0E q = evx 0 (nI k) 0 := by rw [e1]; rfl
    rw [z] at D
    have dd := dPl D (show ¬ ((0 : Int32) = 25 ∨ (0 : Int32) = 16 ∨ (0 : Int32) = 17 ∨ (0 : Int32) = 18 ∨ (0 : Int32) = 19 ∨ (0 : Int32) = 33 ∨ (0 : Int32) = 21) by decide)
    have d1 : u.1 378 (ldL X) = 0 := dd.1
    have d2 : u.1 379 (ldL X) = nI k := dd.2.1
    rw [d1, d2, wd0] at hC hL
    have G := h.2.2.2.1 k e3
    have eL : enW (c.1 (nI k) 2) c.2.2.2.2.2 (c.1 (nI k) 0) = enW (x.1 18 k) (x.1 0 69) (nI np) := by
      rw [C1 (nI k) 2 (by decide), C1 (nI k) 0 (by decide), fF_k h e3 2, fF_k h e3 0, G.1, G.2.1, e5, C7, h.2.2.1.2]
    exact two hC e6 eL (by rw [← eL]; exact hL)
  rw [if_neg c0] at f
  rw [z0n c0] at D
  by_cases cJ : q.1 = 16 ∨ q.1 = 17 ∨ q.1 = 18 ∨ q.1 = 19 ∨ q.1 = 33
  · have dd := dJ D cJ
    have c21 : q.1 ≠ 21 := by rcases cJ with g | g | g | g | g <;> (rw [g]; decide)
    have c20 : q.1 ≠ 20 := by rcases cJ with g | g | g | g | g <;> (rw [g]; decide)
    have cP : ¬ (q.1 = 5 ∨ q.1 = 6 ∨ q.1 = 7 ∨ q.1 = 8 ∨ q.1 = 9) := by rcases cJ with g | g | g | g | g <;> (rw [g]; decide)
    rw [if_neg c21] at f
    obtain ⟨⟨X', Y', e', g1, g2⟩, g3⟩ := JS X q Y e cJ
    have aX' := hA X' Y' e'
    have lX' : lwL X' ≤ lwL (txW 0 d) := by
      rw [e', lwL_app]
      omega
    have t4 : (if q.1 = 33 then (19 : Int32) else q.1) = 16 ∨ (if q.1 = 33 then (19 : Int32) else q.1) = 17 ∨ (if q.1 = 33 then (19 : Int32) else q.1) = 18 ∨ (if q.1 = 33 then (19 : Int32) else q.1) = 19 := by
      split
      · decide
      · rename_i g
        rcases cJ with h | h | h | h | h
        · exact Or.inl h
        · exact Or.inr (Or.inl h)
        · exact Or.inr (Or.inr (Or.inl h))
        · exact Or.inr (Or.inr (Or.inr h))
        · exact absurd h g
    rw [dd.1, wdJ t4] at hC hL
    have tg : (u.1 379 (ldL X)).toInt = ((ldL X' : Nat) : Int) := by rw [dd.2, g1]
    have lt : ldL X' < m := by omega
    have ad : adW c.2.2.1 (u.1 379 (ldL X)) = (4 : Int32) * nI (2 + lwL X') := by
      unfold adW
      rw [if_pos ⟨by omega, by omega⟩, natC tg, C4 _ lt, aX']
    have eL : jpW (if q.1 = 33 then (19 : Int32) else q.1) (adW c.2.2.1 (u.1 379 (ldL X))) (nI (2 + lwL X)) = finE x q (2 + lwL X) := by
      rw [finO c20 cP]
      exact jpL cJ rfl ad (by omega) (by omega) (by omega) rfl
    exact two hC f.1 eL (by rw [← eL]; exact hL)
  by_cases c21 : q.1 = 21
  · have dd := d21 D c21
    rw [if_pos c21] at f
    obtain ⟨f9, ⟨f0, f1⟩, f2, f3⟩ := f
    have h375 := h.1
    have nf := natI dd.2.2.1.1
    have n9 := natI f0
    have lt : (u.1 379 (ldL X)).toNatClampNeg < d.length := by omega
    have lt9 : f9.toNatClampNeg < d.length := by omega
    have ef : f9 = u.1 379 (ldL X) := by
      have nm : K.2.1 (x.1 16 f9.toNatClampNeg) = K.2.1 (x.1 16 (u.1 379 (ldL X)).toNatClampNeg) := by
        rw [f2, ← (h.2.2.2.1 _ lt).2.2]
        exact dd.2.2.2.1.symm
      rcases Nat.lt_trichotomy f9.toNatClampNeg (u.1 379 (ldL X)).toNatClampNeg with g | g | g
      · exact absurd nm (h.2.2.2.2.1 _ _ g lt)
      · exact Int32.toInt_inj.mp (by omega)
      · exact absurd nm.symm (h.2.2.2.2.1 _ _ g lt9)
    rw [ef] at f3
    obtain ⟨X0, np, Y0, g1, g2, g3, g4⟩ := parN h F lt
    have e9 : nI (u.1 379 (ldL X)).toNatClampNeg = u.1 379 (ldL X) := nI_nat dd.2.2.1.1
    have D0 := hD X0 _ Y0 g1
    have D0' : DTq L1 u (evx 0 (nI (u.1 379 (ldL X)).toNatClampNeg) 0) (ldL X0) := D0
    have d0 := dPl D0' (show ¬ ((0 : Int32) = 25 ∨ (0 : Int32) = 16 ∨ (0 : Int32) = 17 ∨ (0 : Int32) = 18 ∨ (0 : Int32) = 19 ∨ (0 : Int32) = 33 ∨ (0 : Int32) = 21) by decide)
    have d01 : u.1 378 (ldL X0) = 0 := d0.1
    have d02 : u.1 379 (ldL X0) = u.1 379 (ldL X) := d0.2.1.trans e9
    have p0 : ldL X0 < m := by
      rw [hm, g1, ldL_app, ldL_cons, show ldE (evx 0 (nI (u.1 379 (ldL X)).toNatClampNeg) (nI np)) = 1 from rfl]
      omega
    have A1 := C2 (ldL X0) p0 d01 (by rw [d02]; exact dd.2.2.1.1) (by rw [d02]; omega) (by rw [d02]; exact dd.2.2.1.2)
    rw [d02, hA X0 _ g1, ← g3] at A1
    rw [dd.1, wd21] at hC hL
    have e10 : c.1 (u.1 379 (ldL X)) 0 = rF L1 u (u.1 379 (ldL X)).toNatClampNeg 0 := by
      have := fF_k h lt 0
      rw [e9] at this
      rw [C1 _ 0 (by decide)]
      exact this
    have nn : 0 ≤ q.2.2.2.1 := by
      rw [← dd.2.2.2.2, (h.2.2.2.1 _ lt).1, g4, nI_Z (by omega)]
      omega
    have eL := caE (q := q) (p0 := c.1 (u.1 379 (ldL X)) 0) (a1 := c.1 (u.1 379 (ldL X)) 1) (y := u.1 380 (ldL X)) (P := 2 + lwL X) (f := 0) c21 (by rw [e10]; exact dd.2.2.2.2) nn A1 (by omega) dd.2.1
    exact two hC f3 eL (by rw [← eL]; exact hL)
  rw [if_neg c21] at f
  have dd := dPl D (by
    rintro (g | g | g | g | g | g | g)
    · exact c25 g
    · exact cJ (Or.inl g)
    · exact cJ (Or.inr (Or.inl g))
    · exact cJ (Or.inr (Or.inr (Or.inl g)))
    · exact cJ (Or.inr (Or.inr (Or.inr (Or.inl g))))
    · exact cJ (Or.inr (Or.inr (Or.inr (Or.inr g))))
    · exact c21 g)
  by_cases c20 : q.1 = 20
  · have y4 : (if q.1 = 4 then (0 : Int32) else q.2.2.1) = q.2.2.1 := if_neg (by rw [c20]; decide)
    rw [y4] at dd
    have aM : AA L1 u m = 2 + lwL (txW 0 d) := by
      rw [hm]
      exact hA (txW 0 d) [] (by rw [List.append_nil])
    rw [aM] at C5 C6
    have k7 : q.2.1 = 55 → x.1 0 67 = nI (2 + lwL (txW 0 d)) := fun g => h7 ⟨ldL X, pm, by rw [dd.1, c20], by rw [dd.2.1, g]⟩
    have k8 : q.2.1 = 56 ∨ q.2.1 = 57 → x.1 0 68 = nI (2 + lwL (txW 0 d) + T.length) := fun g => h8 ⟨ldL X, pm, by rw [dd.1, c20], by rw [dd.2.1]; exact g⟩
    have d1 : u.1 378 (ldL X) = 20 := dd.1.trans c20
    rw [d1, dd.2.1, dd.2.2, wd20] at hC hL
    have eL : iW 8195 5 8 (fW q.2.2.1) :: sgW c.2.2.2.1 c.2.2.2.2.1 (nI (2 + lwL X) + 1) q.2.1 = finE x q (2 + lwL X) := by
      rw [fin20 c20, sgE C5 C6 (by omega) k7 k8]
    exact two hC f.1 eL (by rw [← eL]; exact hL)
  by_cases cP : q.1 = 5 ∨ q.1 = 6 ∨ q.1 = 7 ∨ q.1 = 8 ∨ q.1 = 9
  · have y4 : (if q.1 = 4 then (0 : Int32) else q.2.2.1) = q.2.2.1 := if_neg (by rcases cP with g | g | g | g | g <;> (rw [g]; decide))
    rw [y4] at dd
    rw [dd.1, dd.2.1, dd.2.2, wdP cP] at hC hL
    obtain ⟨Z, z1, z2⟩ := f.2.2
    have PQ := z2 q (List.mem_singleton.mpr rfl)
    have b27 := h.2.1
    have ng : ∃ g : Nat, (g : Int) < (x.1 0 27).toInt ∧ q.2.1 = nI g := by
      by_cases c5 : q.1 = 5 ∨ q.1 = 6
      · obtain ⟨g, g1, g2⟩ := PQ.2.2 c5
        have := h5 X q Y e c5
        rw [g2, natC (nI_Z (show g < 2147483648 by omega))] at this
        exact ⟨g, this, g2⟩
      · obtain ⟨g, g1, g2⟩ := PQ.2.1 (by
          rcases cP with g | g | g | g | g
          · exact absurd (Or.inl g) c5
          · exact absurd (Or.inr g) c5
          · exact Or.inl g
          · exact Or.inr (Or.inl g)
          · exact Or.inr (Or.inr g))
        exact ⟨g, by omega, g2⟩
    obtain ⟨g, g1, g2⟩ := ng
    have Cg := C3 g (by omega)
    have Gg := h.2.2.2.2.2 g g1
    have ng : (nI g).toNatClampNeg = g := natC (nI_Z (by omega))
    have eL : plW (c.2.1 q.2.1 1) (c.2.1 q.2.1 0) q.1 q.2.1 q.2.2.1 = finE x q (2 + lwL X) := by
      unfold finE adG
      rw [if_pos cP, g2, Cg.1, Cg.2, Gg.1, Gg.2, ng]
    exact two hC f.1 eL (by rw [← eL]; exact hL)
  have e9 : wD c (nI (2 + lwL X)) (u.1 378 (ldL X)) (u.1 379 (ldL X)) (u.1 380 (ldL X)) = finE x q (2 + lwL X) := by
    rw [dd.1, dd.2.1, finO c20 cP]
    exact wdO c0 (fun g => cJ (by
      rcases g with g | g | g | g
      · exact Or.inl g
      · exact Or.inr (Or.inl g)
      · exact Or.inr (Or.inr (Or.inl g))
      · exact Or.inr (Or.inr (Or.inr (Or.inl g))))) (fun g => cJ (Or.inr (Or.inr (Or.inr (Or.inr g))))) c20 c21 c25 cP dd.2.2
  exact two hC f.1 e9 (by rw [← e9]; exact hL)
end ZZZH
