/-! the class: all deeds are laid, twice -/
section ZWD
variable {L1 L2 : List Nat} {N : Nat} {v u w x z u5 : MS} {pa pb pc1 pd r d y n n' : Int32} {a b : List Int32} {k : Nat} {c c' : WC}
theorem paL_len (k : Nat) : (paL k).length = 2 * k := by
  induction k with
  | zero => rfl
  | succ k ih =>
    show (paL k ++ paW k).length = _
    rw [List.length_append, ih]
    show 2 * k + 2 = _
    omega
theorem ite_len {p : Prop} [Decidable p] {a b a' b' : List Int32} (h1 : a.length = a'.length) (h2 : b.length = b'.length) : (if p then a else b).length = (if p then a' else b').length := by
  by_cases h : p
  · rw [if_pos h, if_pos h]
    exact h1
  · rw [if_neg h, if_neg h]
    exact h2
theorem ll1 {a b : Int32} : [a].length = [b].length := rfl
theorem ll2 {a b a' b' : Int32} : [a, b].length = [a', b'].length := rfl
theorem ll3 {a b c a' b' c' : Int32} : [a, b, c].length = [a', b', c'].length := rfl
theorem ll8 {a b c d e f g h a' b' c' d' e' f' g' h' : Int32} : [a, b, c, d, e, f, g, h].length = [a', b', c', d', e', f', g', h'].length := rfl
theorem ll9 {a b c d e f g h i a' b' c' d' e' f' g' h' i' : Int32} : [a, b, c, d, e, f, g, h, i].length = [a', b', c', d', e', f', g', h', i'].length := rfl
theorem sgW_len {t o t' o' s : Int32} : (sgW t o n s).length = (sgW t' o' n' s).length := by
  unfold sgW
  exact ite_len ll1 (ite_len ll1 (ite_len ll1 (ite_len ll1 (ite_len ll2 (ite_len ll1 (ite_len ll1 (ite_len ll1 (ite_len ll1 (ite_len ll1 rfl)))))))))
theorem inW_len {a s a' s' : Int32} : (inW a s).length = (inW a' s').length := by
  unfold inW
  exact ll8
theorem plW_len {a s a' s' : Int32} : (plW a s d pa y).length = (plW a' s' d pa y).length := by
  unfold plW
  exact ite_len ll2 (ite_len ll2 (ite_len inW_len (ite_len ll1 (ite_len ll2 (ite_len ll1 (ite_len ll2 rfl))))))
theorem jpW_len {t t' : Int32} : (jpW d t n).length = (jpW d t' n').length := by
  unfold jpW
  exact ite_len ll2 (ite_len ll2 (ite_len ll3 ll1))
theorem caW_len {p t t' : Int32} : (caW p t y n).length = (caW p t' y n').length := by
  unfold caW
  exact ite_len ll1 ll2
theorem enW_len {f l f' l' p : Int32} : (enW f l p).length = (enW f' l' p).length := by
  unfold enW
  rw [List.length_append, List.length_append]
  exact congrArg (fun m => m + _) ll9
theorem bin_len {x : Int32} {a b : List Int32} (h : a.length = b.length) : (x :: a).length = (x :: b).length := by
  rw [List.length_cons, List.length_cons, h]
/-- how many words a deed gets does not hang on addresses -/
theorem wD_len (h : c.1 pa 0 = c'.1 pa 0) : (wD c n d pa y).length = (wD c' n' d pa y).length := by
  unfold wD
  rw [h]
  exact ite_len enW_len (ite_len rfl (ite_len rfl (ite_len rfl (ite_len rfl (ite_len rfl (ite_len rfl (ite_len rfl (ite_len rfl (ite_len jpW_len (ite_len (bin_len sgW_len) (ite_len caW_len (ite_len rfl (ite_len rfl (ite_len rfl plW_len))))))))))))))
def lenD (L1 : List Nat) (v : MS) (k : Nat) : Nat := (wD (wcOf L1 [] v) 0 (v.1 378 k) (v.1 379 k) (v.1 380 k)).length
/-- the word at which a deed begins -/
def AA (L1 : List Nat) (v : MS) : Nat → Nat
  | 0 => 2
  | k + 1 => AA L1 v k + lenD L1 v k
theorem AA_le {i j : Nat} (h : i ≤ j) : AA L1 v i ≤ AA L1 v j := by
  induction j with
  | zero =>
    have : i = 0 := by omega
    rw [this]
    exact Nat.le_refl _
  | succ j ih =>
    by_cases e : i = j + 1
    · rw [e]
      exact Nat.le_refl _
    · have := ih (by omega)
      show _ ≤ AA L1 v j + lenD L1 v j
      omega
/-- the deeds and the facts that a pass leaves as they were -/
def DK (L1 L2 : List Nat) (v x : MS) : Prop := (∀ i ∈ [375, 377, 381], x.1 0 i = v.1 0 i) ∧ (∀ i ∈ [378, 379, 380], x.1 i = v.1 i) ∧ (∀ a, 5000 ≤ a → ∀ j : Nat, j ≠ 1 → x.1 a j = v.1 a j) ∧ ∀ g : Nat, g < 60 → x.1 (5000 + rowA L2 g) = v.1 (5000 + rowA L2 g)
theorem DK.ff (h : DK L1 L2 v x) {f : Int32} {k : Nat} (hk : k ≠ 1) : fF L1 x f k = fF L1 v f k := by
  unfold fF rF
  rw [h.1 375 (by decide), h.2.2.1 _ (by omega) k hk]
theorem DK.len (h : DK L1 L2 v x) (k : Nat) : lenD L1 x k = lenD L1 v k := by
  unfold lenD
  rw [h.2.1 378 (by decide), h.2.1 379 (by decide), h.2.1 380 (by decide)]
  exact wD_len (h.ff (by decide))
theorem DK.aa (h : DK L1 L2 v x) (k : Nat) : AA L1 x k = AA L1 v k := by
  induction k with
  | zero => rfl
  | succ k ih =>
    show AA L1 x k + lenD L1 x k = _
    rw [ih, h.len]
    rfl
theorem DK.rf : DK L1 L2 v v := ⟨fun _ _ => rfl, fun _ _ => rfl, fun _ _ _ _ => rfl, fun _ _ => rfl⟩
theorem DK.tr (h : DK L1 L2 v x) (k : DK L1 L2 x z) : DK L1 L2 v z := ⟨fun i hi => (k.1 i hi).trans (h.1 i hi), fun i hi => (k.2.1 i hi).trans (h.2.1 i hi), fun a ha j hj => (k.2.2.1 a ha j hj).trans (h.2.2.1 a ha j hj), fun g hg => (k.2.2.2 g hg).trans (h.2.2.2 g hg)⟩
theorem nI_of9 {q : Int32} {m : Nat} (h : q.toInt = m) (hm : m < 2147483648) : q = nI m := Int32.toInt_inj.mp (by rw [nI_Z (by omega)]; exact h)
/-- one deed is laid -/
theorem stepD (rd : RD L1 L2) (hN : N ≤ 4096) {j : Nat} (D : DK L1 L2 v x) (h37 : (x.1 0 337).toInt = AA L1 v j) (h : Q_x_X0_lay L1 L2 N (wA x 336 j ((4 : Int32) * x.1 0 337)) (x.1 378 j) (x.1 379 j) (x.1 380 j) u) : DK L1 L2 v u ∧ (u.1 0 337).toInt = AA L1 v (j + 1) ∧ u.1 336 = upd (x.1 336) j ((4 : Int32) * x.1 0 337) ∧ (∀ i, i ∉ [337, 339, 340] → u.1 0 i = x.1 0 i) ∧ RSe L1 (v.1 378 j) (v.1 379 j) (x.1 0 337) x u ∧ EMc N x u (wD (wcOf L1 L2 (wA x 336 j ((4 : Int32) * x.1 0 337))) (x.1 0 337) (v.1 378 j) (v.1 379 j) (v.1 380 j)) := by
  rw [D.2.1 378 (by decide), D.2.1 379 (by decide), D.2.1 380 (by decide)] at h
  obtain ⟨E, F, R⟩ := wLay hN h
  have f0 : ∀ i, (wA x 336 j ((4 : Int32) * x.1 0 337)).1 0 i = x.1 0 i := fun i => rfl
  have fa : ∀ i, i ≠ 336 → (wA x 336 j ((4 : Int32) * x.1 0 337)).1 i = x.1 i := fun i hi => by
    show (if i = 336 then _ else x.1 i) = _
    rw [if_neg hi]
  have R' : RSe L1 (v.1 378 j) (v.1 379 j) (x.1 0 337) x u := fun i hi => by
    have := R i hi
    rw [fa i (by omega)] at this
    exact this
  have E' : EMc N x u (wD (wcOf L1 L2 (wA x 336 j ((4 : Int32) * x.1 0 337))) (x.1 0 337) (v.1 378 j) (v.1 379 j) (v.1 380 j)) := by
    unfold EMc at E ⊢
    rw [f0, f0, fa 382 (by decide)] at E
    exact E
  have DU : DK L1 L2 x u := by
    refine ⟨fun i hi => (F.2.1 i (by revert i; decide)).trans (f0 i), fun i hi => (F.2.2 i (by revert i; decide)).trans (fa i (by revert i; decide)), fun a ha i hi => ?_, fun g hg => ?_⟩
    · rw [R' a ha]
      split
      · rw [updN_ hi]
      · rfl
    · rw [R' _ (by omega), if_neg (fun q => rd.1 (v.1 379 j).toNatClampNeg g (by have := natI q.2.1; have := q.2.2.1; omega) hg (by have := q.2.2.2; omega))]
  refine ⟨D.tr DU, ?_, (F.2.2 336 (by decide)).trans (show (wA x 336 j ((4 : Int32) * x.1 0 337)).1 336 = _ from rfl), fun i hi => (F.2.1 i hi).trans (f0 i), R', E'⟩
  rw [E'.1.1, h37]
  show _ = ((AA L1 v j + lenD L1 v j : Nat) : Int)
  have : (wD (wcOf L1 L2 (wA x 336 j ((4 : Int32) * x.1 0 337))) (x.1 0 337) (v.1 378 j) (v.1 379 j) (v.1 380 j)).length = lenD L1 v j := wD_len (by
    show fF L1 (wA x 336 j ((4 : Int32) * x.1 0 337)) (v.1 379 j) 0 = fF L1 v (v.1 379 j) 0
    rw [← D.ff (k := 0) (by decide)]
    exact fF_fr (f0 375) (fun i hi => fa i (by omega)))
  omega
/-- one ENTER for each function -/
def UE (v : MS) (m : Nat) : Prop := ∀ i j : Nat, i < m → j < m → v.1 378 i = 0 → v.1 378 j = 0 → v.1 379 i = v.1 379 j → i = j
def ST1 (L1 : List Nat) (v x : MS) (m : Nat) : Prop := (∀ j : Nat, j < m → x.1 336 j = (4 : Int32) * nI (AA L1 v j)) ∧ ∀ j : Nat, j < m → v.1 378 j = 0 → 0 ≤ (v.1 379 j).toInt → (v.1 379 j).toInt < 40 → x.1 (5000 + rowA L1 (v.1 379 j).toNatClampNeg) 1 = (4 : Int32) * nI (AA L1 v j)
/-- a pass: sizes, addresses -/
theorem pass1 (rd : RD L1 L2) (hN : N ≤ 4096) (UQ : ∀ m : Nat, (m : Int) ≤ (v.1 0 381).toInt → UE v m) (D5 : DK L1 L2 v u5) (h5 : (u5.1 0 337).toInt = 2) {ka : Int32} (hr : RT (Q_x_X0_layAll_L0 L1 L2 N v) (0, u5) (ka, w)) : (0 ≤ ka.toInt ∧ ka.toInt ≤ (v.1 0 381).toInt ∨ ka = 0) ∧ DK L1 L2 v w ∧ (w.1 0 337).toInt = AA L1 v ka.toNatClampNeg ∧ ST1 L1 v w ka.toNatClampNeg ∧ ∀ i, i ∉ [337, 339, 340] → w.1 0 i = u5.1 0 i := by
  have z : (0 : Int32).toNatClampNeg = 0 := by decide
  refine RT.ind (fun (q : Int32 × MS) => (0 ≤ q.1.toInt ∧ q.1.toInt ≤ (v.1 0 381).toInt ∨ q.1 = 0) ∧ DK L1 L2 v q.2 ∧ (q.2.1 0 337).toInt = AA L1 v q.1.toNatClampNeg ∧ ST1 L1 v q.2 q.1.toNatClampNeg ∧ ∀ i, i ∉ [337, 339, 340] → q.2.1 0 i = u5.1 0 i) hr ⟨Or.inr rfl, D5, by show (u5.1 0 337).toInt = (AA L1 v (0 : Int32).toNatClampNeg : Nat); rw [z]; exact h5, by show ST1 L1 v u5 (0 : Int32).toNatClampNeg; rw [z]; exact ⟨fun j hj => absurd hj (Nat.not_lt_zero _), fun j hj => absurd hj (Nat.not_lt_zero _)⟩, fun _ _ => rfl⟩ ?_
  rintro ⟨a1, a2⟩ b9 _ ⟨-, D, g37, g2, g3⟩ hb9
  obtain ⟨q1, q2, q3, q4, q5, u49, q6, -, q7⟩ := hb9
  have q2 : 0 ≤ a1.toInt ∧ a1.toInt ≤ 3008 := q2
  have q3 : 0 ≤ (a2.1 0 337).toInt ∧ (a2.1 0 337).toInt ≤ 2 + 2010 * a1.toInt := q3
  have q4 : a1.toInt < (a2.1 0 381).toInt := q4
  have D : DK L1 L2 v a2 := D
  have g37 : (a2.1 0 337).toInt = AA L1 v a1.toNatClampNeg := g37
  have g2 : ST1 L1 v a2 a1.toNatClampNeg := g2
  have na := natI q2.1
  have ea : (a1 + 1).toInt = a1.toInt + 1 := add_z rfl (by decide) (by omega) (by omega)
  have en : (a1 + 1).toNatClampNeg = a1.toNatClampNeg + 1 := by have := natI (a := a1 + 1) (by omega); omega
  obtain ⟨D', n', m', f', R', -⟩ := stepD rd hN D g37 q6
  have e37 : a2.1 0 337 = nI (AA L1 v a1.toNatClampNeg) := nI_of9 g37 (by omega)
  rw [D.1 381 (by decide)] at q4
  rw [q7]
  refine ⟨Or.inl ⟨by show 0 ≤ (a1 + 1).toInt; omega, by show (a1 + 1).toInt ≤ _; omega⟩, D', by show (u49.1 0 337).toInt = (AA L1 v (a1 + 1).toNatClampNeg : Nat); rw [en]; exact n', ?_, fun i hi => (f' i hi).trans (g3 i hi)⟩
  show ST1 L1 v u49 (a1 + 1).toNatClampNeg
  rw [en]
  refine ⟨fun j hj => ?_, fun j hj c0 c1 c2 => ?_⟩
  · rw [m']
    by_cases e : j = a1.toNatClampNeg
    · rw [e, updS, e37]
    · rw [updN_ e]
      exact g2.1 j (by omega)
  · rw [R' _ (by omega)]
    by_cases e : j = a1.toNatClampNeg
    · rw [e] at c0 c1 c2 ⊢
      rw [if_pos ⟨c0, c1, c2, rfl⟩, updS, e37]
    · rw [if_neg (fun q => ?_)]
      · exact g2.2 j (by omega) c0 c1 c2
      · obtain ⟨p1, p2, p3, p4⟩ := q
        have nj := natI c1
        have nk := natI p2
        by_cases s : (v.1 379 j).toNatClampNeg = (v.1 379 a1.toNatClampNeg).toNatClampNeg
        · exact e (UQ (a1.toNatClampNeg + 1) (by omega) j a1.toNatClampNeg (by omega) (by omega) c0 p1 (Int32.toInt_inj.mp (by omega)))
        · exact rd.2.1 _ _ (by omega) (by omega) s (by omega)
end ZWD
