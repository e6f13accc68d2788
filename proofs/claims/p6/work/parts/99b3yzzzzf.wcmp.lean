/-! the words of both, event by event -/
/-- what is known to agree: functions, globals, sizes -/
def CMx (L1 L2 : List Nat) (K : TK) (u x : MS) (d : List (List Int32 × List EV)) : Prop := ((u.1 0 375).toInt = d.length ∧ d.length ≤ 40 ∧ (x.1 0 22).toInt = d.length) ∧ ((u.1 0 377).toInt = (x.1 0 27).toInt ∧ (x.1 0 27).toInt ≤ 60) ∧ (u.1 0 383 = x.1 0 12 ∧ u.1 0 384 = x.1 0 69) ∧ (∀ f : Nat, f < d.length → rF L1 u f 0 = x.1 17 f ∧ rF L1 u f 2 = x.1 18 f ∧ rF L1 u f 4 = K.2.1 (x.1 16 f)) ∧ (∀ i j : Nat, i < j → j < d.length → K.2.1 (x.1 16 i) ≠ K.2.1 (x.1 16 j)) ∧ ∀ g : Nat, (g : Int) < (x.1 0 27).toInt → rF L2 u g 0 = x.1 24 g ∧ rF L2 u g 1 = 4 * x.1 0 12 + 4 * x.1 25 g
section ZZZF
variable {K : TK} {x u v w : MS} {a X Y : List EV} {q : EV} {P n p k np : Nat} {L R : List Int32} {L1 L2 : List Nat} {d : List (List Int32 × List EV)} {c : WC} {z s t y z2 : Int32} {gm : Nat → Int32}
theorem wd0 : wD c z 0 s y = enW (c.1 s 2) c.2.2.2.2.2 (c.1 s 0) := if_pos rfl
theorem wdJ (h : t = 16 ∨ t = 17 ∨ t = 18 ∨ t = 19) : wD c z t s y = jpW t (adW c.2.2.1 s) z := by
  rcases h with h | h | h | h <;> (subst h; rfl)
theorem wd20 : wD c z 20 s y = iW 8195 5 8 (fW y) :: sgW c.2.2.2.1 c.2.2.2.2.1 (z + 1) s := rfl
theorem wd21 : wD c z 21 s y = caW (c.1 s 0) (c.1 s 1) y z := rfl
theorem wdP (h : t = 5 ∨ t = 6 ∨ t = 7 ∨ t = 8 ∨ t = 9) : wD c z t s y = plW (c.2.1 s 1) (c.2.1 s 0) t s y := by
  have n0 : t ≠ 0 := by rcases h with h | h | h | h | h <;> (rw [h]; decide)
  have n1 : t ≠ 1 := by rcases h with h | h | h | h | h <;> (rw [h]; decide)
  have n2 : t ≠ 2 := by rcases h with h | h | h | h | h <;> (rw [h]; decide)
  have n3 : t ≠ 3 := by rcases h with h | h | h | h | h <;> (rw [h]; decide)
  have n4 : t ≠ 4 := by rcases h with h | h | h | h | h <;> (rw [h]; decide)
  have n12 : t ≠ 12 := by rcases h with h | h | h | h | h <;> (rw [h]; decide)
  have n13 : t ≠ 13 := by rcases h with h | h | h | h | h <;> (rw [h]; decide)
  have n14 : t ≠ 14 := by rcases h with h | h | h | h | h <;> (rw [h]; decide)
  have n15 : t ≠ 15 := by rcases h with h | h | h | h | h <;> (rw [h]; decide)
  have n20 : t ≠ 20 := by rcases h with h | h | h | h | h <;> (rw [h]; decide)
  have n21 : t ≠ 21 := by rcases h with h | h | h | h | h <;> (rw [h]; decide)
  have n22 : t ≠ 22 := by rcases h with h | h | h | h | h <;> (rw [h]; decide)
  have n23 : t ≠ 23 := by rcases h with h | h | h | h | h <;> (rw [h]; decide)
  have n24 : t ≠ 24 := by rcases h with h | h | h | h | h <;> (rw [h]; decide)
  have nJ : ¬ (t = 16 ∨ t = 17 ∨ t = 18 ∨ t = 19) := by rcases h with h | h | h | h | h <;> (rw [h]; decide)
  unfold wD
  rw [if_neg n0, if_neg n1, if_neg n2, if_neg n3, if_neg n4, if_neg n12, if_neg n13, if_neg n14, if_neg n15, if_neg nJ, if_neg n20, if_neg n21, if_neg n22, if_neg n23, if_neg n24]
theorem rwP (h : q.1 = 5 ∨ q.1 = 6 ∨ q.1 = 7 ∨ q.1 = 8 ∨ q.1 = 9) : rwE gm q = plW 0 (gm q.2.1.toNatClampNeg) q.1 q.2.1 q.2.2.1 := by
  obtain ⟨t, r⟩ := q
  have h : t = 5 ∨ t = 6 ∨ t = 7 ∨ t = 8 ∨ t = 9 := h
  have n1 : t ≠ 1 := by rcases h with h | h | h | h | h <;> (rw [h]; decide)
  have n2 : t ≠ 2 := by rcases h with h | h | h | h | h <;> (rw [h]; decide)
  have n3 : t ≠ 3 := by rcases h with h | h | h | h | h <;> (rw [h]; decide)
  have n4 : t ≠ 4 := by rcases h with h | h | h | h | h <;> (rw [h]; decide)
  have n12 : t ≠ 12 := by rcases h with h | h | h | h | h <;> (rw [h]; decide)
  have n13 : t ≠ 13 := by rcases h with h | h | h | h | h <;> (rw [h]; decide)
  have n14 : t ≠ 14 := by rcases h with h | h | h | h | h <;> (rw [h]; decide)
  have n15 : t ≠ 15 := by rcases h with h | h | h | h | h <;> (rw [h]; decide)
  have n16 : t ≠ 16 := by rcases h with h | h | h | h | h <;> (rw [h]; decide)
  have n17 : t ≠ 17 := by rcases h with h | h | h | h | h <;> (rw [h]; decide)
  have n18 : t ≠ 18 := by rcases h with h | h | h | h | h <;> (rw [h]; decide)
  have n20 : t ≠ 20 := by rcases h with h | h | h | h | h <;> (rw [h]; decide)
  have n21 : t ≠ 21 := by rcases h with h | h | h | h | h <;> (rw [h]; decide)
  have n22 : t ≠ 22 := by rcases h with h | h | h | h | h <;> (rw [h]; decide)
  have n23 : t ≠ 23 := by rcases h with h | h | h | h | h <;> (rw [h]; decide)
  have nA : ¬ (t = 25 ∨ t = 24) := by rcases h with h | h | h | h | h <;> (rw [h]; decide)
  have nB : ¬ (t = 19 ∨ t = 33) := by rcases h with h | h | h | h | h <;> (rw [h]; decide)
  unfold rwE
  dsimp only
  rw [if_neg nA, if_neg n1, if_neg n2, if_neg n3, if_neg n4, if_neg n12, if_neg n13, if_neg n14, if_neg n15, if_neg n16, if_neg n17, if_neg n18, if_neg nB, if_neg n20, if_neg n21, if_neg n22, if_neg n23]
theorem plW_ne {a1 s1 a2 s2 : Int32} (h : ¬ (t = 5 ∨ t = 6 ∨ t = 7 ∨ t = 8 ∨ t = 9)) : plW a1 s1 t s y = plW a2 s2 t s y := by
  have h5 : t ≠ 5 := fun c => h (Or.inl c)
  have h6 : t ≠ 6 := fun c => h (Or.inr (Or.inl c))
  have h7 : t ≠ 7 := fun c => h (Or.inr (Or.inr (Or.inl c)))
  have h8 : t ≠ 8 := fun c => h (Or.inr (Or.inr (Or.inr (Or.inl c))))
  have h9 : t ≠ 9 := fun c => h (Or.inr (Or.inr (Or.inr (Or.inr c))))
  unfold plW
  rw [if_neg h5, if_neg h6, if_neg h7, if_neg h8, if_neg h9, if_neg h5, if_neg h6, if_neg h7, if_neg h8, if_neg h9]
/-- what needs no address -/
theorem wdO (h0 : q.1 ≠ 0) (hJ : ¬ (q.1 = 16 ∨ q.1 = 17 ∨ q.1 = 18 ∨ q.1 = 19)) (h33 : q.1 ≠ 33) (h20 : q.1 ≠ 20) (h21 : q.1 ≠ 21) (h25 : q.1 ≠ 25) (hP : ¬ (q.1 = 5 ∨ q.1 = 6 ∨ q.1 = 7 ∨ q.1 = 8 ∨ q.1 = 9)) (hy : y = if q.1 = 4 then 0 else q.2.2.1) : wD c z q.1 q.2.1 y = rwE gm q := by
  obtain ⟨t, s, r⟩ := q
  have h0 : t ≠ 0 := h0
  have hJ : ¬ (t = 16 ∨ t = 17 ∨ t = 18 ∨ t = 19) := hJ
  have h33 : t ≠ 33 := h33
  have h20 : t ≠ 20 := h20
  have h21 : t ≠ 21 := h21
  have h25 : t ≠ 25 := h25
  have hP : ¬ (t = 5 ∨ t = 6 ∨ t = 7 ∨ t = 8 ∨ t = 9) := hP
  by_cases c1 : t = 1
  · unfold wD rwE
    dsimp only
    rw [if_neg h0, if_pos c1]
    rw [if_neg (show ¬ (t = 25 ∨ t = 24) by rw [c1]; decide), if_pos c1]
  by_cases c2 : t = 2
  · unfold wD rwE
    dsimp only
    rw [if_neg h0, if_neg c1, if_pos c2]
    rw [if_neg (show ¬ (t = 25 ∨ t = 24) by rw [c2]; decide), if_neg c1, if_pos c2]
  by_cases c3 : t = 3
  · unfold wD rwE
    dsimp only
    rw [if_neg h0, if_neg c1, if_neg c2, if_pos c3]
    rw [if_neg (show ¬ (t = 25 ∨ t = 24) by rw [c3]; decide), if_neg c1, if_neg c2, if_pos c3]
  by_cases c4 : t = 4
  · unfold wD rwE
    dsimp only
    rw [if_neg h0, if_neg c1, if_neg c2, if_neg c3, if_pos c4]
    rw [if_neg (show ¬ (t = 25 ∨ t = 24) by rw [c4]; decide), if_neg c1, if_neg c2, if_neg c3, if_pos c4]
  by_cases c12 : t = 12
  · unfold wD rwE
    dsimp only
    rw [if_neg h0, if_neg c1, if_neg c2, if_neg c3, if_neg c4, if_pos c12]
    rw [if_neg (show ¬ (t = 25 ∨ t = 24) by rw [c12]; decide), if_neg c1, if_neg c2, if_neg c3, if_neg c4, if_pos c12]
  by_cases c13 : t = 13
  · unfold wD rwE
    dsimp only
    rw [if_neg h0, if_neg c1, if_neg c2, if_neg c3, if_neg c4, if_neg c12, if_pos c13]
    rw [if_neg (show ¬ (t = 25 ∨ t = 24) by rw [c13]; decide), if_neg c1, if_neg c2, if_neg c3, if_neg c4, if_neg c12, if_pos c13]
  by_cases c14 : t = 14
  · unfold wD rwE
    dsimp only
    rw [if_neg h0, if_neg c1, if_neg c2, if_neg c3, if_neg c4, if_neg c12, if_neg c13, if_pos c14]
    rw [if_neg (show ¬ (t = 25 ∨ t = 24) by rw [c14]; decide), if_neg c1, if_neg c2, if_neg c3, if_neg c4, if_neg c12, if_neg c13, if_pos c14]
  by_cases c15 : t = 15
  · unfold wD rwE
    dsimp only
    rw [if_neg h0, if_neg c1, if_neg c2, if_neg c3, if_neg c4, if_neg c12, if_neg c13, if_neg c14, if_pos c15]
    rw [if_neg (show ¬ (t = 25 ∨ t = 24) by rw [c15]; decide), if_neg c1, if_neg c2, if_neg c3, if_neg c4, if_neg c12, if_neg c13, if_neg c14, if_pos c15]
  by_cases c22 : t = 22
  · unfold wD rwE
    dsimp only
    rw [if_neg h0, if_neg c1, if_neg c2, if_neg c3, if_neg c4, if_neg c12, if_neg c13, if_neg c14, if_neg c15, if_neg hJ, if_neg h20, if_neg h21, if_pos c22]
    rw [if_neg (show ¬ (t = 25 ∨ t = 24) by rw [c22]; decide), if_neg c1, if_neg c2, if_neg c3, if_neg c4, if_neg c12, if_neg c13, if_neg c14, if_neg c15, if_neg (fun c => hJ (Or.inl c)), if_neg (fun c => hJ (Or.inr (Or.inl c))), if_neg (fun c => hJ (Or.inr (Or.inr (Or.inl c)))), if_neg (fun c => c.elim (fun c => hJ (Or.inr (Or.inr (Or.inr c)))) h33), if_neg h20, if_neg h21, if_pos c22]
  by_cases c23 : t = 23
  · unfold wD rwE
    dsimp only
    rw [if_neg h0, if_neg c1, if_neg c2, if_neg c3, if_neg c4, if_neg c12, if_neg c13, if_neg c14, if_neg c15, if_neg hJ, if_neg h20, if_neg h21, if_neg c22, if_pos c23]
    rw [if_neg (show ¬ (t = 25 ∨ t = 24) by rw [c23]; decide), if_neg c1, if_neg c2, if_neg c3, if_neg c4, if_neg c12, if_neg c13, if_neg c14, if_neg c15, if_neg (fun c => hJ (Or.inl c)), if_neg (fun c => hJ (Or.inr (Or.inl c))), if_neg (fun c => hJ (Or.inr (Or.inr (Or.inl c)))), if_neg (fun c => c.elim (fun c => hJ (Or.inr (Or.inr (Or.inr c)))) h33), if_neg h20, if_neg h21, if_neg c22, if_pos c23]
  by_cases c24 : t = 24
  · unfold wD rwE
    dsimp only
    rw [if_neg h0, if_neg c1, if_neg c2, if_neg c3, if_neg c4, if_neg c12, if_neg c13, if_neg c14, if_neg c15, if_neg hJ, if_neg h20, if_neg h21, if_neg c22, if_neg c23, if_pos c24]
    rw [if_pos (Or.inr c24)]
  have hy : y = r.1 := hy.trans (if_neg c4)
  rw [hy]
  unfold wD rwE
  dsimp only
  rw [if_neg h0, if_neg c1, if_neg c2, if_neg c3, if_neg c4, if_neg c12, if_neg c13, if_neg c14, if_neg c15, if_neg hJ, if_neg h20, if_neg h21, if_neg c22, if_neg c23, if_neg c24]
  rw [if_neg (fun c => c.elim h25 c24), if_neg c1, if_neg c2, if_neg c3, if_neg c4, if_neg c12, if_neg c13, if_neg c14, if_neg c15, if_neg (fun c => hJ (Or.inl c)), if_neg (fun c => hJ (Or.inr (Or.inl c))), if_neg (fun c => hJ (Or.inr (Or.inr (Or.inl c)))), if_neg (fun c => c.elim (fun c => hJ (Or.inr (Or.inr (Or.inr c)))) h33), if_neg h20, if_neg h21, if_neg c22, if_neg c23]
  exact plW_ne hP
theorem finO (h20 : q.1 ≠ 20) (hP : ¬ (q.1 = 5 ∨ q.1 = 6 ∨ q.1 = 7 ∨ q.1 = 8 ∨ q.1 = 9)) : finE x q P = rwE (x.1 24) q := by
  unfold finE
  rw [if_neg hP, if_neg h20]
theorem finJ (h : q.1 = 16 ∨ q.1 = 17 ∨ q.1 = 18 ∨ q.1 = 19 ∨ q.1 = 33) : rwE gm q = if q.1 = 16 then [bW 4195 10 0 8, jW 0 (jr q.2.2.2.2.2 1)] else if q.1 = 17 then [bW 99 10 0 8, jW 0 (jr q.2.2.2.2.2 1)] else if q.1 = 18 then [bW 99 10 0 12, iW 19 10 0 1, jW 0 (jr q.2.2.2.2.2 2)] else [jW 0 (jr q.2.2.2.2.2 0)] := by
  obtain ⟨t, r⟩ := q
  have h : t = 16 ∨ t = 17 ∨ t = 18 ∨ t = 19 ∨ t = 33 := h
  rcases h with h | h | h | h | h <;> (subst h; rfl)
theorem jpL {e : Int} {m : Nat} (h : q.1 = 16 ∨ q.1 = 17 ∨ q.1 = 18 ∨ q.1 = 19 ∨ q.1 = 33) (he : e = q.2.2.2.2.2) (hz : s = (4 : Int32) * nI m) (hm : (m : Int) = (n : Int) + e) (b1 : m ≤ 1000000) (b2 : n ≤ 1000000) (ht : t = if q.1 = 33 then 19 else q.1) : jpW t s (nI n) = rwE gm q := by
  rw [finJ h, ← he, hz]
  obtain ⟨k, r⟩ := q
  have h : k = 16 ∨ k = 17 ∨ k = 18 ∨ k = 19 ∨ k = 33 := h
  have e0 : (4 : Int32) * nI m - (4 : Int32) * nI n = jr e 0 := by
    have := jpE (k := 0) hm b1 b2 (by omega)
    rw [show nI n + nI 0 = nI n from by rw [nI_a (by omega)]; rfl] at this
    exact this
  have e1 : (4 : Int32) * nI m - (4 : Int32) * (nI n + 1) = jr e 1 := jpE (k := 1) hm b1 b2 (by omega)
  have e2 : (4 : Int32) * nI m - (4 : Int32) * (nI n + 2) = jr e 2 := jpE (k := 2) hm b1 b2 (by omega)
  rcases h with h | h | h | h | h
  · subst h
    rw [ht]
    show [bW 4195 10 0 8, jW 0 ((4 : Int32) * nI m - (4 : Int32) * (nI n + 1))] = [bW 4195 10 0 8, jW 0 (jr e 1)]
    rw [e1]
  · subst h
    rw [ht]
    show [bW 99 10 0 8, jW 0 ((4 : Int32) * nI m - (4 : Int32) * (nI n + 1))] = [bW 99 10 0 8, jW 0 (jr e 1)]
    rw [e1]
  · subst h
    rw [ht]
    show [bW 99 10 0 12, iW 19 10 0 1, jW 0 ((4 : Int32) * nI m - (4 : Int32) * (nI n + 2))] = [bW 99 10 0 12, iW 19 10 0 1, jW 0 (jr e 2)]
    rw [e2]
  · subst h
    rw [ht]
    show [jW 0 ((4 : Int32) * nI m - (4 : Int32) * nI n)] = [jW 0 (jr e 0)]
    rw [e0]
  · subst h
    rw [ht]
    show [jW 0 ((4 : Int32) * nI m - (4 : Int32) * nI n)] = [jW 0 (jr e 0)]
    rw [e0]
theorem jpl (h : q.1 = 16 ∨ q.1 = 17 ∨ q.1 = 18 ∨ q.1 = 19 ∨ q.1 = 33) (ht : t = if q.1 = 33 then 19 else q.1) : (jpW t s z).length = lwE q := by
  obtain ⟨k, r⟩ := q
  have h : k = 16 ∨ k = 17 ∨ k = 18 ∨ k = 19 ∨ k = 33 := h
  rcases h with h | h | h | h | h <;> (subst h; rw [ht]; rfl)
theorem sgL : (sgW t y z s).length = (sgR s).length := by
  unfold sgR
  by_cases c5 : s = 55
  · unfold sgW
    rw [if_neg (show ¬ s = 53 by rw [c5]; decide), if_neg (show ¬ s = 54 by rw [c5]; decide), if_pos c5, if_pos (Or.inl c5)]
    exact ll1
  by_cases c6 : s = 56
  · unfold sgW
    rw [if_neg (show ¬ s = 53 by rw [c6]; decide), if_neg (show ¬ s = 54 by rw [c6]; decide), if_neg c5, if_pos c6, if_pos (Or.inr c6)]
    exact ll1
  by_cases c7 : s = 57
  · unfold sgW
    rw [if_neg (show ¬ s = 53 by rw [c7]; decide), if_neg (show ¬ s = 54 by rw [c7]; decide), if_neg c5, if_neg c6, if_pos c7, if_neg (fun c => c.elim c5 c6), if_pos c7]
    exact ll2
  rw [if_neg (fun c => c.elim c5 c6), if_neg c7]
  exact sgW_len
theorem sgW_ne {t' y' z' : Int32} (c5 : s ≠ 55) (c6 : s ≠ 56) (c7 : s ≠ 57) : sgW t y z s = sgW t' y' z' s := by
  unfold sgW
  rw [if_neg c5, if_neg c6, if_neg c7, if_neg c5, if_neg c6, if_neg c7]
/-- a sign's words -/
theorem sgE {T M : Nat} (hT : t = (4 : Int32) * nI M) (hO : y = (4 : Int32) * nI (M + T)) (hP : P ≤ 1000000) (h7 : s = 55 → x.1 0 67 = nI M) (h8 : s = 56 ∨ s = 57 → x.1 0 68 = nI (M + T)) : sgW t y (nI P + 1) s = sgF x P s := by
  have e1 : nI P + 1 = nI (P + 1) := nI_a (n := P) (p := 1) (by omega)
  unfold sgF
  by_cases c5 : s = 55
  · subst c5
    rw [if_pos rfl, h7 rfl, ← m4s, ← hT, e1]
    rfl
  by_cases c6 : s = 56
  · subst c6
    rw [if_neg c5, if_pos rfl, h8 (Or.inl rfl), ← m4s, ← hO, e1]
    rfl
  by_cases c7 : s = 57
  · subst c7
    rw [if_neg c5, if_neg c6, if_pos rfl, h8 (Or.inr rfl), ← m4s, ← hO, e1]
    rfl
  rw [if_neg c5, if_neg c6, if_neg c7]
  exact sgW_ne c5 c6 c7
theorem fF_k (h : CMx L1 L2 K u x d) (hk : k < d.length) (j : Nat) : fF L1 u (nI k) j = rF L1 u k j := by
  have h1 := h.1
  have e : (nI k).toInt = k := nI_Z (by omega)
  unfold fF
  rw [if_pos ⟨by omega, by omega, by omega⟩, natC e]
theorem enl {f l : Int32} (h : np ≤ 8) : (enW f l (nI np)).length = 9 + 2 * np := by
  have e : (nI np).toNatClampNeg = np := natC (nI_Z (by omega))
  unfold enW
  rw [List.length_append, paL_len, e]
  rfl
/-- a call's words -/
theorem caE {p0 a1 : Int32} {f : Nat} (h : q.1 = 21) (h0 : p0.toInt = q.2.2.2.1) (hn : 0 ≤ q.2.2.2.1) (ha : a1 = (4 : Int32) * t) (hP : P ≤ 1000000) (hy : y = q.2.2.1) : caW p0 a1 y (nI P) = clW q (jW 1 ((4 : Int32) * (t - nI (P + lwE q - 1)))) := by
  obtain ⟨k, s, y', k', r⟩ := q
  have h : k = 21 := h
  subst h
  have h0 : p0.toInt = k' := h0
  have hn : 0 ≤ k' := hn
  have hy : y = y' := hy
  have lw : lwE (21, s, y', k', r) = if k' = 0 then 1 else 2 := rfl
  unfold caW clW
  dsimp only
  rw [lw]
  by_cases c : k' = 0
  · rw [if_pos (by omega), if_pos c, if_pos c, ha, m4s, show P + 1 - 1 = P by omega]
  · rw [if_neg (by omega), if_neg c, if_neg c, ha, m4s, hy, show nI P + 1 = nI (P + 2 - 1) from nI_a (n := P) (p := 1) (by omega)]
theorem cal {p0 a1 : Int32} (h : q.1 = 21) (h0 : p0.toInt = q.2.2.2.1) (hn : 0 ≤ q.2.2.2.1) : (caW p0 a1 y z).length = lwE q := by
  obtain ⟨k, s, y', k', r⟩ := q
  have h : k = 21 := h
  subst h
  have h0 : p0.toInt = k' := h0
  have hn : 0 ≤ k' := hn
  have lw : lwE (21, s, y', k', r) = if k' = 0 then 1 else 2 := rfl
  rw [lw]
  unfold caW
  by_cases c : k' = 0
  · rw [if_pos (by omega), if_pos c]; rfl
  · rw [if_neg (by omega), if_neg c]; rfl
end ZZZF
