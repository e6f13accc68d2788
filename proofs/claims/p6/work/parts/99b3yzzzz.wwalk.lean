/-! the reference's words: the last steps of a text -/
section ZZZ
variable {n : Int} {K : TK} {v u w w0 w80 w171 w2 w161 : MS} {a x y : List EV} {q : EV} {i j m : Nat} {cl : Int} {d : List (List Int32 × List EV)} {p k : Nat}
theorem lnX_far : ∀ (d : List (List Int32 × List EV)) (i j : Nat), i < j → j ≤ d.length → lnX (d.take i) + 9 ≤ lnX (d.take j)
  | [], i, j, h, h' => absurd (show j ≤ 0 from h') (by omega)
  | q :: l, 0, 0, h, _ => absurd h (by omega)
  | q :: l, i + 1, 0, h, _ => absurd h (by omega)
  | q :: l, 0, j + 1, _, _ => by
    show lnX [] + 9 ≤ lnX (q :: l.take j)
    rw [lnX_nil, lnX_cons]
    unfold lnF
    omega
  | q :: l, i + 1, j + 1, h, h' => by
    show lnX (q :: l.take i) + 9 ≤ lnX (q :: l.take j)
    rw [lnX_cons, lnX_cons]
    have := lnX_far l i j (by omega) (by rw [List.length_cons] at h'; omega)
    omega
theorem TXw.at : ∀ (d : List (List Int32 × List EV)) (p k : Nat), TXw K w cl p k d → ∀ j : Nat, j < d.length → ∃ (np : Nat) (y : List EV), txW k d = txW k (d.take j) ++ evx 0 (nI (k + j)) (nI np) :: y ∧ w.1 19 (k + j) = nI (p + lnX (d.take j)) ∧ lwL (txW k (d.take j)) = lnX (d.take j) ∧ ((p + lnX (d.take j) : Nat) : Int) + 9 ≤ (w.1 0 12).toInt
  | [], _, _, _, j, hj => absurd (show j < 0 from hj) (by omega)
  | q :: l, p, k, h, 0, _ => by
    obtain ⟨⟨h1, h2, -, h4, h5, h6⟩, h7⟩ := h
    have lf : lnF q = 9 + 2 * q.1.length + lwL (fnT q.2) := rfl
    exact ⟨q.1.length, fnT q.2 ++ txW (k + 1) l, rfl, h4, rfl, by show ((p + 0 : Nat) : Int) + 9 ≤ _; omega⟩
  | q :: l, p, k, h, j + 1, hj => by
    obtain ⟨⟨h1, h2, -, h4, h5, h6⟩, h7⟩ := h
    obtain ⟨np, y, e1, e2, e3, e4⟩ := TXw.at l (p + lnF q) (k + 1) h7 j (by rw [List.length_cons] at hj; omega)
    refine ⟨np, y, ?_, ?_, ?_, ?_⟩
    · show fnW (nI k) q ++ txW (k + 1) l = fnW (nI k) q ++ txW (k + 1) (l.take j) ++ _
      rw [e1, List.append_assoc, show k + 1 + j = k + (j + 1) by omega]
    · rw [show k + (j + 1) = k + 1 + j by omega, e2]
      show _ = nI (p + lnX (q :: l.take j))
      rw [lnX_cons, Nat.add_assoc]
    · show lwL (fnW (nI k) q ++ txW (k + 1) (l.take j)) = lnX (q :: l.take j)
      rw [lwL_app, e3, lwL_fnW h6, lnX_cons]
    · show ((p + lnX (q :: l.take j) : Nat) : Int) + 9 ≤ _
      rw [lnX_cons]
      omega
theorem fxX_eq : ∀ (d : List (List Int32 × List EV)) (p k : Nat), TXw K w cl p k d → fxX p d = fxL p (txW k d)
  | [], _, _, _ => rfl
  | q :: l, p, k, h => by
    obtain ⟨⟨h1, h2, -, h4, h5, h6⟩, h7⟩ := h
    show fxL (p + 9 + 2 * q.1.length) (fnT q.2) ++ fxX (p + lnF q) l = fxL p (fnW (nI k) q ++ txW (k + 1) l)
    rw [fxL_app, lwL_fnW h6, fxX_eq l _ _ h7]
    congr 1
    unfold fnW
    rw [fxL_app, lwL_cons, lwL_nil, lwE0 h6, Nat.add_zero, Nat.add_assoc]
    rfl
/-- calls -/
theorem pcOf (T : TPw K w80 0 2 a) (hm : (m : Int) = (w80.1 0 39).toInt) (E : ∀ c : Nat, c < m → ∃ x q y, a = x ++ q :: y ∧ q.1 = 21 ∧ (w80.1 37 c).toInt + 1 = ((2 + lwL x : Nat) : Int) + lwE q ∧ K.2.1 (w80.1 35 c) = q.2.1) (C : (∀ c : Nat, c < m → ∃ f : Int32, 0 ≤ f.toInt ∧ f.toInt < (w80.1 0 22).toInt ∧ K.2.1 (w80.1 16 f.toNatClampNeg) = K.2.1 (w80.1 35 c) ∧ w171.1 11 (w80.1 37 c).toNatClampNeg = jW 1 ((4 : Int32) * (w80.1 19 f.toNatClampNeg - w80.1 37 c))) ∧ ∀ j : Nat, (∀ c : Nat, c < m → (w80.1 37 c).toNatClampNeg ≠ j) → w171.1 11 j = w80.1 11 j) : PCq a (w80.1 11) (w171.1 11) ∧ ∀ x q y, a = x ++ q :: y → q.1 = 21 → ∃ f : Int32, (0 ≤ f.toInt ∧ f.toInt < (w80.1 0 22).toInt) ∧ K.2.1 (w80.1 16 f.toNatClampNeg) = q.2.1 ∧ w171.1 11 (2 + lwL x + lwE q - 1) = jW 1 ((4 : Int32) * (w80.1 19 f.toNatClampNeg - nI (2 + lwL x + lwE q - 1))) := by
  refine ⟨fun j h => C.2 j (fun c hc g => ?_), fun x q y e c21 => ?_⟩
  · obtain ⟨x, q, y, e, c21, p1, -⟩ := E c hc
    have l := lwE21 c21
    have nn := natI (a := w80.1 37 c) (by omega)
    exact h x q y e c21 (by omega)
  · have W := T x q y e
    rw [if_neg (by rw [c21]; decide)] at W
    obtain ⟨c, c1, c2, c3, c4⟩ := W.1.2.2 c21
    obtain ⟨f, f0, f1, f2, f3⟩ := C.1 c (by omega)
    have l := lwE21 c21
    have nn := natI (a := w80.1 37 c) (by omega)
    have e1 : (w80.1 37 c).toNatClampNeg = 2 + lwL x + lwE q - 1 := by omega
    have e2 := nI_nat (x := w80.1 37 c) (by omega)
    rw [e1] at f3 e2
    rw [e2]
    exact ⟨f, ⟨f0, f1⟩, f2.trans c4, f3⟩
/-- addresses -/
theorem fx_inj {l : List (Nat × Int32 × Int32)} (hl : l = fxL 2 a) (hm : m = l.length) (F : ∀ (k : Nat) (e : Nat × Int32 × Int32), l[k]? = some e → (v.1 40 k).toInt = e.1 ∧ v.1 41 k = e.2.1 ∧ v.1 42 k = e.2.2) (c d : Nat) (hc : c < m) (hd : d < m) (h : (v.1 40 c).toNatClampNeg = (v.1 40 d).toNatClampNeg) : c = d := by
  have P := (fxL_inc a 2).1
  rw [← hl] at P
  have P := List.pairwise_iff_getElem.mp P
  have A := F c l[c] (List.getElem?_eq_getElem (by omega))
  have B := F d l[d] (List.getElem?_eq_getElem (by omega))
  have n1 := natI (a := v.1 40 c) (by omega)
  have n2 := natI (a := v.1 40 d) (by omega)
  rcases Nat.lt_trichotomy c d with g | g | g
  · have := P c d (by omega) (by omega) g
    omega
  · exact g
  · have := P d c (by omega) (by omega) g
    omega
theorem pfOf {l : List (Nat × Int32 × Int32)} (hl : l = fxL 2 a) (hm : m = l.length) (F : ∀ (k : Nat) (e : Nat × Int32 × Int32), l[k]? = some e → (v.1 40 k).toInt = e.1 ∧ v.1 41 k = e.2.1 ∧ v.1 42 k = e.2.2) (R : (∀ c : Nat, c < m → w2.1 11 (v.1 40 c).toNatClampNeg = fixW v (v.1 41 c) (v.1 42 c) (v.1 40 c) (v.1 11 (v.1 40 c).toNatClampNeg)) ∧ ∀ j : Nat, (∀ c : Nat, c < m → (v.1 40 c).toNatClampNeg ≠ j) → w2.1 11 j = v.1 11 j) : PFq a (v.1 11) (w2.1 11) ∧ ∀ x q y e0, a = x ++ q :: y → e0 ∈ fxE q → w2.1 11 (2 + lwL x + e0.1) = fixW v e0.2.1 e0.2.2 (nI (2 + lwL x + e0.1)) (v.1 11 (2 + lwL x + e0.1)) := by
  refine ⟨fun j h => R.2 j (fun c hc g => ?_), fun x q y e0 e he => ?_⟩
  · have A := F c l[c] (List.getElem?_eq_getElem (by omega))
    have M : l[c] ∈ l := List.getElem_mem _
    obtain ⟨x, q, y, e0, e1, e2, e3⟩ := fxL_mem a 2 l[c] (by rw [← hl]; exact M)
    rw [e3] at A
    have A1 : (v.1 40 c).toInt = ((2 + lwL x + e0.1 : Nat) : Int) := A.1
    exact h x q y e0 e1 e2 (by rw [← g]; exact natC A1)
  · have M := fxL_in a x q y 2 e0 e he
    rw [← hl] at M
    obtain ⟨c, hc, ec⟩ := List.getElem_of_mem M
    have A := F c l[c] (List.getElem?_eq_getElem hc)
    rw [ec] at A
    obtain ⟨A1, A2, A3⟩ := A
    have A1 : (v.1 40 c).toInt = ((2 + lwL x + e0.1 : Nat) : Int) := A1
    have A2 : v.1 41 c = e0.2.1 := A2
    have A3 : v.1 42 c = e0.2.2 := A3
    have e1 : (v.1 40 c).toNatClampNeg = 2 + lwL x + e0.1 := natC A1
    have e2 := nI_nat (x := v.1 40 c) (by omega)
    have r := R.1 c (by omega)
    rw [e1] at e2
    rw [e1, A2, A3, ← e2] at r
    exact r
/-- limits -/
theorem plOf (hm : (m : Int) = (v.1 0 22).toInt) (hp : ∀ f : Nat, f < m → ∃ x np y, a = x ++ evx 0 (nI f) (nI np) :: y ∧ v.1 19 f = nI (2 + lwL x) ∧ 2 + lwL x ≤ 1000000) (R : (∀ f : Nat, f < m → w161.1 11 ((v.1 19 f).toNatClampNeg + 1) = uW 6 (v.1 0 69) ∧ w161.1 11 ((v.1 19 f).toNatClampNeg + 2) = iW 19 6 6 (loW (v.1 0 69))) ∧ ∀ j : Nat, (∀ f : Nat, f < m → j ≠ (v.1 19 f).toNatClampNeg + 1 ∧ j ≠ (v.1 19 f).toNatClampNeg + 2) → w161.1 11 j = v.1 11 j) : PLq a (v.1 11) (w161.1 11) ∧ ∀ (f P : Nat), f < m → v.1 19 f = nI P → P ≤ 1000000 → w161.1 11 (P + 1) = uW 6 (v.1 0 69) ∧ w161.1 11 (P + 2) = iW 19 6 6 (loW (v.1 0 69)) := by
  refine ⟨fun j h => R.2 j (fun f hf => ?_), fun f P hf e l => ?_⟩
  · obtain ⟨x, np, y, e1, e2, e3⟩ := hp f hf
    have e : (nI (2 + lwL x)).toNatClampNeg = 2 + lwL x := natC (nI_Z (by omega))
    rw [e2, e]
    exact h x _ y e1 rfl
  · have r := R.1 f hf
    have e0 : (nI P).toNatClampNeg = P := natC (nI_Z (by omega))
    rw [e, e0] at r
    exact r
end ZZZ
