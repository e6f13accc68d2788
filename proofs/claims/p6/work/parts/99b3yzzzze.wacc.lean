/-! the reference's words: what is accepted; the words of both, event by event -/
section ZZZE
variable {x u v w : MS} {a X Y : List EV} {q : EV} {P n p : Nat} {L R : List Int32} {L1 L2 : List Nat}
theorem accW (h : Q_m_accept x u) : u.1 0 73 = x.1 0 12 ∧ ∀ p : Nat, (p : Int) < (x.1 0 12).toInt → u.1 70 p = x.1 11 p := by
  obtain ⟨-, -, -, -, -, ka, w42, hr0, f0, b0, c0, kb, w70, hr1, f1, b1, c1, kc, w110, hr2, f2, b2, c2, kd, w222, hr3, f3, b3, c3, ke, w308, hr4, f4, b4, c4, rfl⟩ := h
  have z0 : (0 : Int32).toInt = 0 := by decide
  obtain ⟨V, hV⟩ : ∃ V, V = (wA (wA (wA (wA (wA x 0 73 (x.1 0 12)) 0 74 (x.1 0 22)) 0 75 (x.1 0 27)) 0 76 (x.1 0 28)) 0 77 (x.1 0 69)) := ⟨_, rfl⟩
  rw [← hV] at f0
  have VA : ∀ a, a ≠ 0 → V.1 a = x.1 a := fun a a0 => by
    rw [hV]
    show (if a = 0 then _ else if a = 0 then _ else if a = 0 then _ else if a = 0 then _ else if a = 0 then _ else x.1 a) = x.1 a
    simp only [if_neg a0]
  have V12 : V.1 0 12 = x.1 0 12 := by rw [hV]; rfl
  have V73 : V.1 0 73 = x.1 0 12 := by rw [hV]; rfl
  have k42 : ∀ k, w42.1 0 k = V.1 0 k := fun k => f0.2.1 k (fun q => nomatch q)
  have k70 : ∀ k, w70.1 0 k = w42.1 0 k := fun k => f1.2.1 k (fun q => nomatch q)
  have k110 : ∀ k, w110.1 0 k = w70.1 0 k := fun k => f2.2.1 k (fun q => nomatch q)
  have k222 : ∀ k, w222.1 0 k = w110.1 0 k := fun k => f3.2.1 k (fun q => nomatch q)
  have k308 : ∀ k, w308.1 0 k = w222.1 0 k := fun k => f4.2.1 k (fun q => nomatch q)
  have iO : 0 ≤ ka.toInt ∧ ∀ p : Nat, (p : Int) < ka.toInt → w42.1 70 p = x.1 11 p := by
    refine RT.ind (fun (y : Int32 × MS) => 0 ≤ y.1.toInt ∧ ∀ p : Nat, (p : Int) < y.1.toInt → y.2.1 70 p = x.1 11 p) hr0 ⟨by show 0 ≤ (0 : Int32).toInt; omega, fun p hp => absurd (show (p : Int) < (0 : Int32).toInt from hp) (by omega)⟩ ?_
    intro a b _ ⟨g0, g1⟩ hb
    obtain ⟨fa, ba, ca, rfl⟩ := hb
    have ea : (a.1 + (1 : Int32)).toInt = a.1.toInt + 1 := incq ca
    refine ⟨by show 0 ≤ (a.1 + (1 : Int32)).toInt; omega, fun f hf => ?_⟩
    have hf : (f : Int) < (a.1 + (1 : Int32)).toInt := hf
    rw [ea] at hf
    show upd (a.2.1 70) a.1.toNatClampNeg ((a.2.1 11) a.1.toNatClampNeg) f = _
    rw [← hV] at fa
    rw [fa.2.2 11 (by decide), VA 11 (by decide)]
    exact cpy1 g0 g1 hf
  refine ⟨?_, fun p hp => ?_⟩
  · show w308.1 0 73 = _
    rw [k308, k222, k110, k70, k42, V73]
  · show w308.1 70 p = _
    rw [f4.2.2 70 (by decide), f3.2.2 70 (by decide), f2.2.2 70 (by decide), f1.2.2 70 (by decide)]
    rw [k42, V12] at c0
    exact iO.2 p (by omega)
theorem two (hC : ∀ (i : Nat) (y : Int32), L[i]? = some y → u.1 382 (P + i) = y) (hR : Seg x P R) (e : L = R) (hl : R.length = n) : ∀ i : Nat, i < n → u.1 382 (P + i) = x.1 11 (P + i) := fun i hi => by
  have h1 : R[i]? = some R[i] := List.getElem?_eq_getElem (by omega)
  rw [hC i _ (by rw [e]; exact h1), hR i _ h1]
theorem m4s (a b : Int32) : (4 : Int32) * a - (4 : Int32) * b = (4 : Int32) * (a - b) := by rw [Int32.mul_sub]
theorem nI_a (h : n + p ≤ 2000000) : nI n + nI p = nI (n + p) := Int32.toInt_inj.mp ((add_z (nI_Z (by omega)) (nI_Z (by omega)) (by omega) (by omega)).trans (by rw [nI_Z (by omega)]; omega))
/-- a jump's word -/
theorem jpE {d k : Nat} {e : Int} (h : (d : Int) = (n : Int) + e) (hd : d ≤ 1000000) (hn : n ≤ 1000000) (hk : k ≤ 10) : (4 : Int32) * nI d - (4 : Int32) * (nI n + nI k) = jr e k := by
  rw [m4s, nI_a (by omega)]
  refine jrE ?_
  rw [nI_Z (by omega), nI_Z (by omega)]
  omega
theorem at_lw : ∀ (l : List EV) (j : Nat), j < lwL l → ∃ x q y i, l = x ++ q :: y ∧ i < lwE q ∧ j = lwL x + i
  | [], j, h => absurd h (by rw [lwL_nil]; omega)
  | q :: l, j, h => by
    rw [lwL_cons] at h
    by_cases c : j < lwE q
    · exact ⟨[], q, l, j, rfl, c, by rw [lwL_nil]; omega⟩
    · obtain ⟨x, q', y, i, e1, e2, e3⟩ := at_lw l (j - lwE q) (by omega)
      exact ⟨q :: x, q', y, i, by rw [e1]; rfl, e2, by rw [lwL_cons]; omega⟩
theorem ldE_z0 : ldE (z0E q) = ldE q := by
  unfold z0E
  split
  · rename_i c
    obtain ⟨t, r⟩ := q
    have c : t = 0 := c
    subst c
    rfl
  · rfl
theorem ldL_z0 : ∀ (l : List EV), ldL (l.map z0E) = ldL l
  | [] => rfl
  | q :: l => by rw [List.map_cons, ldL_cons, ldL_cons, ldE_z0, ldL_z0 l]
/-- deeds laid one behind another -/
theorem aaE (h : ∀ (X : List EV) (q : EV) (Y : List EV), a = X ++ q :: Y → ldE q = 1 → lenD L1 u (ldL X) = lwE q) (h25 : ∀ q : EV, q.1 = 25 → lwE q = 0) : ∀ (Y X Z : List EV), a = X ++ Y ++ Z → AA L1 u (ldL X) = 2 + lwL X → AA L1 u (ldL (X ++ Y)) = 2 + lwL (X ++ Y)
  | [], X, Z, _, hx => by rw [List.append_nil]; exact hx
  | q :: Y, X, Z, e, hx => by
    have e' : a = X ++ q :: (Y ++ Z) := by rw [e, List.append_assoc]; rfl
    have S : AA L1 u (ldL (X ++ [q])) = 2 + lwL (X ++ [q]) := by
      rw [ldL_app, lwL_app, ldL_cons, lwL_cons, ldL_nil, lwL_nil, Nat.add_zero, Nat.add_zero]
      by_cases c : q.1 = 25
      · have z : ldE q = 0 := if_pos c
        rw [z, h25 q c, Nat.add_zero, Nat.add_zero]
        exact hx
      · have z : ldE q = 1 := if_neg c
        rw [z]
        show AA L1 u (ldL X) + lenD L1 u (ldL X) = _
        rw [h X q _ e' z, hx]
        omega
    have T := aaE h h25 Y (X ++ [q]) Z (by rw [e]; simp only [List.append_assoc, List.cons_append, List.nil_append]) S
    rw [show X ++ q :: Y = X ++ [q] ++ Y by simp only [List.append_assoc, List.cons_append, List.nil_append]]
    exact T
theorem lwE25 (h : q.1 = 25) : lwE q = 0 := if_pos h
/-- every function begins -/
theorem txW_at : ∀ (d : List (List Int32 × List EV)) (k j : Nat), j < d.length → ∃ X np Y, txW k d = X ++ evx 0 (nI (k + j)) (nI np) :: Y
  | [], _, j, h => absurd (show j < 0 from h) (by omega)
  | q :: l, k, 0, _ => ⟨[], q.1.length, fnT q.2 ++ txW (k + 1) l, rfl⟩
  | q :: l, k, j + 1, h => by
    obtain ⟨X, np, Y, e⟩ := txW_at l (k + 1) j (by rw [List.length_cons] at h; omega)
    refine ⟨fnW (nI k) q ++ X, np, Y, ?_⟩
    show fnW (nI k) q ++ txW (k + 1) l = _
    rw [e, List.append_assoc, show k + 1 + j = k + (j + 1) by omega]
end ZZZE
