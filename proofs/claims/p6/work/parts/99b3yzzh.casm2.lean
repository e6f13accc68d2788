/-! the class: the words that assemble leaves -/
/-- deeds laid one behind the other: their words by a context that the final tables tell -/
def CWD (L1 L2 : List Nat) (u : MS) (m : Nat) (T O : List Int32) (c : WC) : Prop :=
  ((T = [] ∨ T = tmW) ∧ (O = [] ∨ O = ovW) ∧ (u.1 0 383).toInt = (AA L1 u m + T.length + O.length : Nat)) ∧
  ((∀ (f : Int32) (k : Nat), k ≠ 1 → c.1 f k = fF L1 u f k) ∧ (∀ j : Nat, j < m → u.1 378 j = 0 → 0 ≤ (u.1 379 j).toInt → (u.1 379 j).toInt < 40 → (u.1 379 j).toInt < (u.1 0 375).toInt → c.1 (u.1 379 j) 1 = (4 : Int32) * nI (AA L1 u j)) ∧ (∀ g : Nat, (g : Int) < (u.1 0 377).toInt → c.2.1 (nI g) 0 = rF L2 u g 0 ∧ c.2.1 (nI g) 1 = rF L2 u g 1) ∧ (∀ j : Nat, j < m → c.2.2.1 j = (4 : Int32) * nI (AA L1 u j)) ∧ c.2.2.2.1 = (4 : Int32) * nI (AA L1 u m) ∧ c.2.2.2.2.1 = (4 : Int32) * nI (AA L1 u m + T.length) ∧ c.2.2.2.2.2 = u.1 0 384) ∧
  ((u.1 382 0 = iW 19 17 0 0 ∧ u.1 382 1 = 1048691) ∧ (∀ j : Nat, j < m → ∀ (i : Nat) (y : Int32), (wD c (nI (AA L1 u j)) (u.1 378 j) (u.1 379 j) (u.1 380 j))[i]? = some y → u.1 382 (AA L1 u j + i) = y) ∧ ∀ (i : Nat) (y : Int32), (T ++ O)[i]? = some y → u.1 382 (AA L1 u m + i) = y) ∧ FLT u m T O
section ZWH
variable {L1 L2 : List Nat} {N : Nat} {W9 : Nat → Int32} {v u w x z U : MS} {ps r : Int32} {m : Nat}
theorem AA_cg (h5 : x.1 0 375 = v.1 0 375) (ha : ∀ i ∈ [378, 379, 380], x.1 i = v.1 i) (hr : ∀ a, 5000 ≤ a → ∀ j : Nat, j ≠ 1 → x.1 a j = v.1 a j) : AA L1 x = AA L1 v := by
  have ff : ∀ f, fF L1 x f 0 = fF L1 v f 0 := fun f => by
    unfold fF rF
    rw [h5, hr _ (by omega) 0 (by decide)]
  have ln : ∀ k, lenD L1 x k = lenD L1 v k := fun k => by
    unfold lenD
    rw [ha 378 (by decide), ha 379 (by decide), ha 380 (by decide)]
    exact wD_len (ff _)
  funext k
  induction k with
  | zero => rfl
  | succ k ih =>
    show AA L1 x k + lenD L1 x k = AA L1 v k + lenD L1 v k
    rw [ih, ln]
theorem tl_eq {T O T' O' : List Int32} (h : (T = [] ∨ T = tmW) ∧ (O = [] ∨ O = ovW)) (h' : (T' = [] ∨ T' = tmW) ∧ (O' = [] ∨ O' = ovW)) (e : T.length + O.length = T'.length + O'.length) : T = T' ∧ O = O' := by
  have t : tmW.length = 10 := rfl
  have o : ovW.length = 26 := rfl
  have n : ([] : List Int32).length = 0 := rfl
  rcases h with ⟨a | a, b | b⟩ <;> rcases h' with ⟨a' | a', b' | b'⟩ <;> rw [a, b, a', b'] at e <;> simp only [t, o, n] at e <;> first | exact ⟨a.trans a'.symm, b.trans b'.symm⟩ | omega
theorem asmW (rd : RD L1 L2) (hN : N ≤ 4096) (H : HW L1 W9 w U) (A : AB w U v) (g60 : 0 ≤ (w.1 0 377).toInt ∧ (w.1 0 377).toInt ≤ 60) (hm : (v.1 0 381).toInt = m) (UQ : ∀ i : Nat, (i : Int) ≤ (v.1 0 381).toInt → UE v i) (h : Q_x_X0_assemble L1 L2 N v ps r u) (hr : r.toInt ≠ 0) (room : (u.1 0 383).toInt ≤ N) : ∃ T O c, CWD L1 L2 u m T O c := by
  obtain ⟨-, u2, h2, -, h⟩ := h
  rcases h with ⟨-, u8, h8, -, -, e8⟩ | ⟨-, e, -⟩
  rotate_left
  · rw [e] at hr
    exact absurd (by decide) hr
  have e77 := A.2.2.1 377 (by decide)
  have A1 : AB w U (wA (wA v 0 334 ps) 0 338 0) := (A.wr (by decide)).wr (by decide)
  have S2 := zAll rd H A1 g60 h2
  have A2 : AB w U (wA u2 0 338 1) := S2.1.wr (by decide)
  have S8 := zAll rd H A2 g60 h8
  obtain ⟨T1, O1, p1, -⟩ := passA (v := wA (wA v 0 334 ps) 0 338 0) (m := m) rd hN hm (by show 0 ≤ (v.1 0 377).toInt ∧ (v.1 0 377).toInt ≤ 60; rw [e77]; exact g60) UQ h2
  obtain ⟨t1, ⟨s1, i41, i42, n1, -⟩, ⟨k1, k2, k3⟩, ⟨gl1, lm1⟩, -⟩ := p1
  have v1a : ∀ i, i ≠ 0 → (wA (wA v 0 334 ps) 0 338 0).1 i = v.1 i := fun i hi => by
    show (if i = 0 then _ else if i = 0 then _ else v.1 i) = _
    rw [if_neg hi, if_neg hi]
  have k2 : ∀ i ∈ [378, 379, 380], u2.1 i = v.1 i := fun i hi => (k2 i hi).trans (v1a i (by revert i; decide))
  have k3 : ∀ a, 5000 ≤ a → ∀ j : Nat, j ≠ 1 → u2.1 a j = v.1 a j := fun a ha j hj => (k3 a ha j hj).trans (congrFun (v1a a (by omega)) j)
  have k1 : ∀ i ∈ [375, 377, 381, 335], u2.1 0 i = v.1 0 i := fun i hi => (k1 i (by revert i; decide)).trans (by
    show upd (upd (v.1 0) 334 ps) 338 0 i = _
    rw [updN_ (by revert i; decide), updN_ (by revert i; decide)])
  have hm2 : ((wA u2 0 338 1).1 0 381).toInt = m := by
    show (u2.1 0 381).toInt = m
    rw [k1 381 (by decide)]
    exact hm
  have aa1 : AA L1 (wA (wA v 0 334 ps) 0 338 0) = AA L1 v := AA_cg rfl (fun i hi => by
    show (if i = 0 then _ else if i = 0 then _ else v.1 i) = _
    rw [if_neg (by revert i; decide), if_neg (by revert i; decide)]) (fun a ha j _ => by
    show (if a = 0 then _ else if a = 0 then _ else v.1 a) j = _
    rw [if_neg (by omega), if_neg (by omega)])
  have aa2 : AA L1 (wA u2 0 338 1) = AA L1 v := AA_cg (k1 375 (by decide)) (fun i hi => by
    show (if i = 0 then _ else u2.1 i) = _
    rw [if_neg (by revert i; decide)]
    exact k2 i hi) (fun a ha j hj => by
    show (if a = 0 then _ else u2.1 a) j = _
    rw [if_neg (by omega)]
    exact k3 a ha j hj)
  have UQ2 : ∀ i : Nat, (i : Int) ≤ ((wA u2 0 338 1).1 0 381).toInt → UE (wA u2 0 338 1) i := fun i hi => by
    have := UQ i (by rw [hm]; rw [hm2] at hi; exact hi)
    unfold UE at this ⊢
    rw [show (wA u2 0 338 1).1 378 = v.1 378 from k2 378 (by decide), show (wA u2 0 338 1).1 379 = v.1 379 from k2 379 (by decide)]
    exact this
  obtain ⟨T2, O2, p2, fl2⟩ := passA (m := m) rd hN hm2 (by show 0 ≤ (u2.1 0 377).toInt ∧ (u2.1 0 377).toInt ≤ 60; rw [k1 377 (by decide), e77]; exact g60) UQ2 h8
  obtain ⟨t2, ⟨s2, q41, q42, n2, q83⟩, ⟨j1, j2, j3⟩, ⟨gl2, lm2⟩, ww⟩ := p2
  have e37 : u8.1 0 337 = u2.1 0 337 := by rw [S8.2.1, S2.2.1]
  have s1 : (∀ j : Nat, j < m → u2.1 336 j = (4 : Int32) * nI (AA L1 v j)) ∧ ∀ j : Nat, j < m → v.1 378 j = 0 → 0 ≤ (v.1 379 j).toInt → (v.1 379 j).toInt < 40 → u2.1 (5000 + rowA L1 (v.1 379 j).toNatClampNeg) 1 = (4 : Int32) * nI (AA L1 v j) := by
    have := s1
    unfold ST1 at this
    rw [aa1] at this
    exact this
  rw [aa1] at n1 i41 i42
  rw [aa2] at n2 q41 q42
  have le : T1.length + O1.length = T2.length + O2.length := by
    rw [e37] at n2
    omega
  obtain ⟨et, eo⟩ := tl_eq t1 t2 le
  have st : ST1 L1 (wA u2 0 338 1) (wA u2 0 338 1) m := by
    refine ⟨fun j hj => ?_, fun j hj c0 c1 c2 => ?_⟩
    · rw [aa2]
      exact s1.1 j hj
    · rw [aa2]
      have e79 : (wA u2 0 338 1).1 379 j = v.1 379 j := congrFun (k2 379 (by decide)) j
      have e78 : (wA u2 0 338 1).1 378 j = v.1 378 j := congrFun (k2 378 (by decide)) j
      rw [e79] at c1 c2 ⊢
      rw [e78] at c0
      show (if 5000 + rowA L1 (v.1 379 j).toNatClampNeg = 0 then _ else u2.1 (5000 + rowA L1 (v.1 379 j).toNatClampNeg)) 1 = _
      rw [if_neg (by omega)]
      exact s1.2 j hj c0 c1 c2
  rw [e8] at room
  rw [q83, n2] at room
  obtain ⟨WW1, WW2⟩ := ww (by show (1 : Int32).toInt ≠ 0; decide) st (by rw [aa2]; omega)
  unfold WW at WW1
  rw [aa2] at WW1 WW2
  have au : AA L1 u8 = AA L1 v := by
    rw [← aa2]
    exact AA_cg (j1 375 (by decide)) j2 j3
  have d78 : u8.1 378 = v.1 378 := (j2 378 (by decide)).trans (k2 378 (by decide))
  have d79 : u8.1 379 = v.1 379 := (j2 379 (by decide)).trans (k2 379 (by decide))
  have d80 : u8.1 380 = v.1 380 := (j2 380 (by decide)).trans (k2 380 (by decide))
  have f75 : u8.1 0 375 = u2.1 0 375 := j1 375 (by decide)
  have f77 : u8.1 0 377 = u2.1 0 377 := j1 377 (by decide)
  have w2 : ∀ a, 5000 ≤ a → (wA u2 0 338 1).1 a = u2.1 a := fun a ha => by
    show (if a = 0 then _ else u2.1 a) = _
    rw [if_neg (by omega)]
  rw [e8]
  refine ⟨T2, O2, wcOf L1 L2 (wA u2 0 338 1), ⟨t2.1, t2.2, by rw [au, q83]; exact n2⟩, ⟨fun f k hk => ?_, fun j hj c0 c1 c2 c3 => ?_, fun g hg => ?_, fun j hj => ?_, ?_, ?_, ?_⟩, ⟨WW1.1, fun j hj i y hy => ?_, fun i y hy => ?_⟩, ?_⟩
  · show fF L1 (wA u2 0 338 1) f k = _
    unfold fF rF
    rw [f75, j3 _ (by omega) k hk]
    rfl
  · rw [d78] at c0
    rw [d79] at c1 c2 c3 ⊢
    rw [au]
    show fF L1 (wA u2 0 338 1) (v.1 379 j) 1 = _
    unfold fF rF
    rw [if_pos ⟨c1, by show _ < (u2.1 0 375).toInt; rw [← f75]; exact c3, c2⟩, w2 _ (by omega)]
    exact s1.2 j hj c0 c1 c2
  · rw [f77] at hg
    have g59 : g < 60 := by
      have := g60.2
      rw [← e77] at this
      rw [k1 377 (by decide)] at hg
      have hg : (g : Int) < (v.1 0 377).toInt := hg
      omega
    have gi : (nI g).toInt = g := nI_Z (by omega)
    have gn : (nI g).toNatClampNeg = g := natC gi
    have cond : 0 ≤ (nI g).toInt ∧ (nI g).toInt < (u2.1 0 377).toInt ∧ (nI g).toInt < 60 := by omega
    have nG2 : g < nG (wA u2 0 338 1) := by
      unfold nG
      show g < (u2.1 0 377).toNatClampNeg
      have := natI (a := u2.1 0 377) (by omega)
      omega
    have r1 : ∀ k, gF L2 (wA u2 0 338 1) (nI g) k = rF L2 u2 g k := fun k => by
      unfold gF rF
      rw [if_pos (show 0 ≤ (nI g).toInt ∧ (nI g).toInt < ((wA u2 0 338 1).1 0 377).toInt ∧ (nI g).toInt < 60 from cond), gn, w2 _ (by omega)]
    refine ⟨?_, ?_⟩
    · show gF L2 (wA u2 0 338 1) (nI g) 0 = _
      rw [r1]
      unfold rF
      rw [j3 _ (by omega) 0 (by decide), w2 _ (by omega)]
    · show gF L2 (wA u2 0 338 1) (nI g) 1 = _
      have nG1 : g < nG (wA (wA v 0 334 ps) 0 338 0) := by
        have : (u2.1 0 377) = v.1 0 377 := k1 377 (by decide)
        unfold nG at nG2 ⊢
        show g < (v.1 0 377).toNatClampNeg
        rw [← this]
        exact nG2
      rw [r1, gl1 g nG1, gl2 g nG2, e37]
      have : (fun g => rF L2 (wA (wA v 0 334 ps) 0 338 0) g 0) = fun g => rF L2 (wA u2 0 338 1) g 0 := funext (fun g => by
        unfold rF
        rw [w2 _ (by omega), k3 _ (by omega) 0 (by decide), v1a _ (by omega)])
      rw [this]
  · rw [au]
    exact s1.1 j hj
  · rw [au]
    exact i41
  · rw [au, ← et]
    exact i42
  · show u2.1 0 384 = u8.1 0 384
    rw [lm1, lm2, e37]
    have e1 : (fun g => rF L2 (wA (wA v 0 334 ps) 0 338 0) g 0) = fun g => rF L2 (wA u2 0 338 1) g 0 := funext (fun g => by
      unfold rF
      rw [w2 _ (by omega), k3 _ (by omega) 0 (by decide), v1a _ (by omega)])
    have e2 : nG (wA (wA v 0 334 ps) 0 338 0) = nG (wA u2 0 338 1) := by
      unfold nG
      show (v.1 0 377).toNatClampNeg = (u2.1 0 377).toNatClampNeg
      rw [show u2.1 0 377 = v.1 0 377 from k1 377 (by decide)]
    rw [e1, e2]
  · rw [d78, d79, d80, au] at hy
    rw [au]
    refine WW1.2 j hj i y ?_
    rw [show (wA u2 0 338 1).1 378 = v.1 378 from k2 378 (by decide), show (wA u2 0 338 1).1 379 = v.1 379 from k2 379 (by decide), show (wA u2 0 338 1).1 380 = v.1 380 from k2 380 (by decide)]
    exact hy
  · rw [au]
    exact WW2 i y hy
  · unfold FLT at fl2 ⊢
    rw [show (wA u2 0 338 1).1 378 = v.1 378 from k2 378 (by decide), show (wA u2 0 338 1).1 379 = v.1 379 from k2 379 (by decide)] at fl2
    rw [d78, d79]
    exact fl2
end ZWH
