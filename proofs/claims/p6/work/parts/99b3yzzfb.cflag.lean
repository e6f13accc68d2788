/-! the class: times and over are wanted where signs want them -/
def FLa (d y : Int32) (v u : MS) : Prop := ((v.1 0 339).toInt ≠ 0 ∨ (d = 20 ∧ y = 55) → (u.1 0 339).toInt ≠ 0) ∧ ((v.1 0 340).toInt ≠ 0 ∨ (d = 20 ∧ (y = 56 ∨ y = 57)) → (u.1 0 340).toInt ≠ 0)
def FL0 (v u : MS) : Prop := u.1 0 339 = v.1 0 339 ∧ u.1 0 340 = v.1 0 340
/-- T, O: what stands behind the deeds -/
def FLT (u : MS) (m : Nat) (T O : List Int32) : Prop := ((∃ j : Nat, j < m ∧ u.1 378 j = 20 ∧ u.1 379 j = 55) → T = tmW) ∧ ((∃ j : Nat, j < m ∧ u.1 378 j = 20 ∧ (u.1 379 j = 56 ∨ u.1 379 j = 57)) → O = ovW)
section ZWF2
variable {L1 L2 : List Nat} {N : Nat} {v u w x z u5 : MS} {pa pb pc1 pd r d y n n' : Int32} {a b : List Int32} {k m : Nat}
theorem FLk (h : EMs N v u a) : FL0 v u := ⟨h.2.1.2.1 339 (by decide), h.2.1.2.1 340 (by decide)⟩
theorem FLa.kp (h : FL0 v u) (hd : d ≠ 20) : FLa d y v u := ⟨fun c => by rw [h.1]; exact c.elim id (fun c => absurd c.1 hd), fun c => by rw [h.2]; exact c.elim id (fun c => absurd c.1 hd)⟩
theorem FL0.dn (h : FL0 v u) (hd : d ≠ 20) : FLa d y v u := FLa.kp h hd
theorem FL0.sn (h : FL0 v u) (hd : y ≠ 55 ∧ y ≠ 56 ∧ y ≠ 57) : FLa 20 y v u := ⟨fun c => by rw [h.1]; exact c.elim id (fun c => absurd c.2 hd.1), fun c => by rw [h.2]; exact c.elim id (fun c => absurd c.2 (fun q => q.elim hd.2.1 hd.2.2))⟩
theorem FLk.s9 (h : FL0 (wA v 0 339 1) u) (hd : y ≠ 56 ∧ y ≠ 57) : FLa 20 y v u := ⟨fun _ => by rw [h.1]; show (1 : Int32).toInt ≠ 0; decide, fun c => by rw [h.2]; exact c.elim id (fun c => absurd c.2 (fun q => q.elim hd.1 hd.2))⟩
theorem FLk.s0 (h : FL0 (wA v 0 340 1) u) (hd : y ≠ 55) : FLa 20 y v u := ⟨fun c => by rw [h.1]; exact c.elim id (fun c => absurd c.2 hd), fun _ => by rw [h.2]; show (1 : Int32).toInt ≠ 0; decide⟩
theorem FL0.tr (h : FL0 v w) (k : FLa d y w u) : FLa d y v u := by
  unfold FLa at k ⊢
  rw [h.1, h.2] at k
  exact k
theorem fSign (hN : N ≤ 4096) (h : Q_x_X0_laySign L1 L2 N v pa u) : FLa 20 pa v u := by
  obtain ⟨h0, h⟩ := h
  rcases h with ⟨c, u3, h3, -, e⟩ | ⟨c53, h⟩
  · rw [e]
    exact (FLk (wThr hN h3)).sn (by rw [c]; decide)
  rcases h with ⟨c, u3, h3, -, e⟩ | ⟨c54, h⟩
  · rw [e]
    exact (FLk (wThr hN h3)).sn (by rw [c]; decide)
  rcases h with ⟨c, u3, h3, -, e⟩ | ⟨c55, h⟩
  · rw [e]
    exact FLk.s9 (FLk (wJmp hN h3)) (by rw [c]; decide)
  rcases h with ⟨c, u3, h3, -, e⟩ | ⟨c56, h⟩
  · rw [e]
    exact FLk.s0 (FLk (wJmp hN h3)) (by rw [c]; decide)
  rcases h with ⟨c, u19, h19, -, u22, h22, -, e⟩ | ⟨c57, h⟩
  · rw [e]
    exact FLk.s0 (FLk ((wJmp hN h19).tr (wImm hN h22))) (by rw [c]; decide)
  rcases h with ⟨c, u3, h3, -, e⟩ | ⟨c58, h⟩
  · rw [e]
    exact (FLk (wThr hN h3)).sn (by rw [c]; decide)
  rcases h with ⟨c, u3, h3, -, e⟩ | ⟨c59, h⟩
  · rw [e]
    exact (FLk (wThr hN h3)).sn (by rw [c]; decide)
  rcases h with ⟨c, u3, h3, -, e⟩ | ⟨c60, h⟩
  · rw [e]
    exact (FLk (wThr hN h3)).sn (by rw [c]; decide)
  rcases h with ⟨c, u3, h3, -, e⟩ | ⟨c61, h⟩
  · rw [e]
    exact (FLk (wThr hN h3)).sn (by rw [c]; decide)
  rcases h with ⟨c, u3, h3, -, e⟩ | ⟨c62, h⟩
  · rw [e]
    exact (FLk (wThr hN h3)).sn (by rw [c]; decide)
  obtain ⟨u45, h45, -, e⟩ := h
  rw [e]
  exact (FLk (wCmp hN h45)).sn ⟨c55, c56, c57⟩
theorem fLay (hN : N ≤ 4096) (h : Q_x_X0_lay L1 L2 N v d y pa u) : FLa d y v u := by
  obtain ⟨h0, h⟩ := h
  rcases h with ⟨c, u4, h4, k4, e⟩ | ⟨c0, h⟩
  · rw [e]
    exact FLa.kp ⟨k4.1.2.1 339 (by decide), k4.1.2.1 340 (by decide)⟩ (by rw [c]; decide)
  rcases h with ⟨c, u4, h4, -, e⟩ | ⟨c1, h⟩
  · rw [e]
    exact (FLk (wLeave hN h4)).dn (by rw [c]; decide)
  rcases h with ⟨c, u4, h4, -, e⟩ | ⟨c2, h⟩
  · rw [e]
    exact (FLk (wNum hN h4)).dn (by rw [c]; decide)
  rcases h with ⟨c, u4, h4, -, e⟩ | ⟨c3, h⟩
  · rw [e]
    exact (FLk (wLSl hN h4)).dn (by rw [c]; decide)
  rcases h with ⟨c, u4, h4, -, e⟩ | ⟨c4, h⟩
  · rw [e]
    exact (FLk (wSSl hN h4)).dn (by rw [c]; decide)
  rcases h with ⟨c, -, u4, h4, -, e⟩ | ⟨c5, h⟩
  · rw [e]
    exact (FLk (wPlace hN h4)).dn (by rw [c]; decide)
  rcases h with ⟨c, -, u4, h4, -, e⟩ | ⟨c6, h⟩
  · rw [e]
    exact (FLk (wPlace hN h4)).dn (by rw [c]; decide)
  rcases h with ⟨c, -, u4, h4, -, e⟩ | ⟨c7, h⟩
  · rw [e]
    exact (FLk (wPlace hN h4)).dn (by rw [c]; decide)
  rcases h with ⟨c, -, u4, h4, -, e⟩ | ⟨c8, h⟩
  · rw [e]
    exact (FLk (wPlace hN h4)).dn (by rw [c]; decide)
  rcases h with ⟨c, -, u4, h4, -, e⟩ | ⟨c9, h⟩
  · rw [e]
    exact (FLk (wPlace hN h4)).dn (by rw [c]; decide)
  rcases h with ⟨c, -, u4, h4, -, e⟩ | ⟨c10, h⟩
  · rw [e]
    exact (FLk (wPlace hN h4)).dn (by rw [c]; decide)
  rcases h with ⟨c, -, u4, h4, -, e⟩ | ⟨c11, h⟩
  · rw [e]
    exact (FLk (wPlace hN h4)).dn (by rw [c]; decide)
  rcases h with ⟨c, u4, h4, -, e⟩ | ⟨c12, h⟩
  · rw [e]
    exact (FLk (wThr hN h4)).dn (by rw [c]; decide)
  rcases h with ⟨c, u4, h4, -, e⟩ | ⟨c13, h⟩
  · rw [e]
    exact (FLk (wImm hN h4)).dn (by rw [c]; decide)
  rcases h with ⟨c, u4, h4, -, e⟩ | ⟨c14, h⟩
  · rw [e]
    exact (FLk (wImm hN h4)).dn (by rw [c]; decide)
  rcases h with ⟨c, u4, h4, -, e⟩ | ⟨c15, h⟩
  · rw [e]
    exact (FLk (wThr hN h4)).dn (by rw [c]; decide)
  rcases h with ⟨c, -, -, u4, h4, -, e⟩ | ⟨c16, h⟩
  · rw [e]
    exact (FLk (wJump hN h4)).dn (by rw [c]; decide)
  rcases h with ⟨c, -, -, u4, h4, -, e⟩ | ⟨c17, h⟩
  · rw [e]
    exact (FLk (wJump hN h4)).dn (by rw [c]; decide)
  rcases h with ⟨c, -, -, u4, h4, -, e⟩ | ⟨c18, h⟩
  · rw [e]
    exact (FLk (wJump hN h4)).dn (by rw [c]; decide)
  rcases h with ⟨c, -, -, u4, h4, -, e⟩ | ⟨c19, h⟩
  · rw [e]
    exact (FLk (wJump hN h4)).dn (by rw [c]; decide)
  rcases h with ⟨c, u4, h4, -, u5, h5, -, e⟩ | ⟨c20, h⟩
  · rw [e]
    rw [c]
    exact (FLk (wLSl hN h4)).tr (fSign hN h5)
  rcases h with ⟨c, u4, h4, -, e⟩ | ⟨c21, h⟩
  · rw [e]
    exact (FLk (wCall hN h4)).dn (by rw [c]; decide)
  rcases h with ⟨c, u4, h4, -, e⟩ | ⟨c22, h⟩
  · rw [e]
    exact (FLk (wOut hN h4)).dn (by rw [c]; decide)
  rcases h with ⟨c, u4, h4, -, e⟩ | ⟨c23, h⟩
  · rw [e]
    exact (FLk (wOut hN h4)).dn (by rw [c]; decide)
  rcases h with ⟨c, e⟩ | ⟨c24, h⟩
  · rw [e]
    exact FLa.kp ⟨rfl, rfl⟩ (by rw [c]; decide)
  rcases h with ⟨-, u4, h4, -, e⟩ | ⟨-, -, u4, h4, -, e⟩
  · rw [e]
    exact (FLk (wPlace hN h4)).dn c20
  · rw [e]
    exact (FLk (wPlace hN h4)).dn c20
/-- along the deeds -/
theorem fAll (hN : N ≤ 4096) {ka : Int32} (hr : RT (Q_x_X0_layAll_L0 L1 L2 N v) (0, u5) (ka, w)) (hm : ka.toInt = m) : FLT v m (tlT w) (tlO w) := by
  have inv : 0 ≤ ka.toInt ∧ ((∃ j : Nat, j < ka.toNatClampNeg ∧ v.1 378 j = 20 ∧ v.1 379 j = 55) → (w.1 0 339).toInt ≠ 0) ∧ ((∃ j : Nat, j < ka.toNatClampNeg ∧ v.1 378 j = 20 ∧ (v.1 379 j = 56 ∨ v.1 379 j = 57)) → (w.1 0 340).toInt ≠ 0) := by
    refine RT.ind (fun (q : Int32 × MS) => 0 ≤ q.1.toInt ∧ ((∃ j : Nat, j < q.1.toNatClampNeg ∧ v.1 378 j = 20 ∧ v.1 379 j = 55) → (q.2.1 0 339).toInt ≠ 0) ∧ ((∃ j : Nat, j < q.1.toNatClampNeg ∧ v.1 378 j = 20 ∧ (v.1 379 j = 56 ∨ v.1 379 j = 57)) → (q.2.1 0 340).toInt ≠ 0)) hr ⟨by show 0 ≤ (0 : Int32).toInt; decide, fun ⟨j, hj, _⟩ => absurd (show j < 0 from hj) (Nat.not_lt_zero _), fun ⟨j, hj, _⟩ => absurd (show j < 0 from hj) (Nat.not_lt_zero _)⟩ ?_
    rintro ⟨a1, a2⟩ b9 _ ⟨g0, g1, g2⟩ hb9
    obtain ⟨q1, q2, q3, q4, q5, u49, q6, -, q7⟩ := hb9
    have q1 : FC [337, 339, 340, 341, 342, 383, 384] [0, 336, 382] v a2 := q1
    have q2 : 0 ≤ a1.toInt ∧ a1.toInt ≤ 3008 := q2
    have e8 : a2.1 378 = v.1 378 := q1.2.2 378 (by decide)
    have e9 : a2.1 379 = v.1 379 := q1.2.2 379 (by decide)
    have q6 : Q_x_X0_lay L1 L2 N (wA a2 336 a1.toNatClampNeg ((4 : Int32) * (a2.1 0 337))) (a2.1 378 a1.toNatClampNeg) (a2.1 379 a1.toNatClampNeg) (a2.1 380 a1.toNatClampNeg) u49 := q6
    have F := fLay hN q6
    rw [e8, e9] at F
    have F : FLa (v.1 378 a1.toNatClampNeg) (v.1 379 a1.toNatClampNeg) a2 u49 := F
    have g1 : (∃ j : Nat, j < a1.toNatClampNeg ∧ v.1 378 j = 20 ∧ v.1 379 j = 55) → (a2.1 0 339).toInt ≠ 0 := g1
    have g2 : (∃ j : Nat, j < a1.toNatClampNeg ∧ v.1 378 j = 20 ∧ (v.1 379 j = 56 ∨ v.1 379 j = 57)) → (a2.1 0 340).toInt ≠ 0 := g2
    have ea : (a1 + 1).toInt = a1.toInt + 1 := add_z rfl (by decide) (by omega) (by omega)
    have na := natI q2.1
    have en : (a1 + 1).toNatClampNeg = a1.toNatClampNeg + 1 := by have := natI (a := a1 + 1) (by omega); omega
    rw [q7]
    refine ⟨by show 0 ≤ (a1 + 1).toInt; omega, ?_, ?_⟩
    · rintro ⟨j, hj, j1, j2⟩
      have hj : j < (a1 + 1).toNatClampNeg := hj
      rw [en] at hj
      refine F.1 ?_
      by_cases g : j = a1.toNatClampNeg
      · rw [← g]; exact Or.inr ⟨j1, j2⟩
      · exact Or.inl (g1 ⟨j, by omega, j1, j2⟩)
    · rintro ⟨j, hj, j1, j2⟩
      have hj : j < (a1 + 1).toNatClampNeg := hj
      rw [en] at hj
      refine F.2 ?_
      by_cases g : j = a1.toNatClampNeg
      · rw [← g]; exact Or.inr ⟨j1, j2⟩
      · exact Or.inl (g2 ⟨j, by omega, j1, j2⟩)
  have nk : ka.toNatClampNeg = m := natC hm
  rw [nk] at inv
  unfold FLT tlT tlO
  exact ⟨fun h => if_neg (inv.2.1 h), fun h => if_neg (inv.2.2 h)⟩
end ZWF2
