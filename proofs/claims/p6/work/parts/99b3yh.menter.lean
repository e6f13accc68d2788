/-! both meanings side by side: the reference enters a function (written by gyh.py) -/
/-- what it leaves: z bytes, t most bytes -/
def MGo (g : GC) (w0 w u : MS) (pa : Int32) (c : Nat) (z t : Int32) : Prop := (u.1 0 115 = z ∧ u.1 0 116 = t) ∧ (u.1 107 = upd (w.1 107) (w.1 0 110).toNatClampNeg (w.1 0 112) ∧ u.1 108 = upd (w.1 108) (w.1 0 110).toNatClampNeg (w.1 0 111) ∧ u.1 109 = upd (w.1 109) (w.1 0 110).toNatClampNeg pa) ∧ (u.1 0 110 = w.1 0 110 + 1 ∧ u.1 0 111 = w.1 0 106 - w0.1 78 c) ∧ (u.1 0 106).toInt = (w.1 0 106).toInt + zLo g c - (w0.1 78 c).toInt ∧ (∀ j : Nat, (j : Int) < (w.1 0 106).toInt → u.1 105 j = w.1 105 j) ∧ (u.1 0 112 = w0.1 81 c ∧ u.1 0 113 = w.1 0 113 + 1) ∧ (u.1 117 = w.1 117 ∧ u.1 118 = w.1 118 ∧ u.1 0 119 = w.1 0 119 ∧ u.1 0 120 = w.1 0 120 ∧ u.1 0 121 = w.1 0 121)
section YHE
variable {g : GC} {N : Nat} {ng lim : Int} {L1 L2 : List Nat} {K : TK} {fn : Nat → Int32} {v0 w0 : MS} {v w u : MS} {pa pb r : Int32} {c T : Nat}
theorem mEnter (Am : AGM w0 w) (G : FUN g L1 v0 w0) (hN : N ≤ 4096) (h77 : (w0.1 0 77).toInt = lim) (hl : 0 ≤ lim ∧ lim ≤ 16384) (h0 : pa.toInt = c) (h1 : (c : Int) < (w0.1 0 74).toInt) (hT : (w.1 0 115).toInt = 4 * (T : Int)) (hT2 : T ≤ 8192) (b6 : 0 ≤ (w.1 0 106).toInt ∧ (w.1 0 106).toInt ≤ 16384) (b3 : 0 ≤ (w.1 0 113).toInt ∧ (w.1 0 113).toInt ≤ (w.1 0 114).toInt ∧ (w.1 0 114).toInt ≤ 20000) (h : Q_m_enter w pa N r u) :
    (4 * (N : Int) - lim < 4 * ((T : Int) + 2 + zMm g c) + 8 ∧ r = 1 ∧ u = w) ∨ (4 * ((T : Int) + 2 + zMm g c) + 8 ≤ 4 * (N : Int) - lim ∧ (((w.1 0 114).toInt ≤ (w.1 0 113).toInt ∧ r = 4 ∧ u = w) ∨
      ((w.1 0 113).toInt < (w.1 0 114).toInt ∧ r = -1 ∧ ∃ z t : Int32, z.toInt = 4 * ((T : Int) + 2 + zMm g c) ∧ t = (if (w.1 0 116).toInt < 4 * ((T : Int) + 2 + zMm g c) then z else w.1 0 116) ∧ MGo g w0 w u pa c z t))) := by
  obtain ⟨-, -, ⟨g3, g4⟩, ⟨g5, g6, g7, g8⟩, -, -⟩ := G.2 c h1
  have n : pa.toNatClampNeg = c := natC h0
  have e78 : w.1 78 = w0.1 78 := Am.2 78 (by decide)
  have e79 : w.1 79 = w0.1 79 := Am.2 79 (by decide)
  have e81 : w.1 81 = w0.1 81 := Am.2 81 (by decide)
  have e82 : w.1 82 = w0.1 82 := Am.2 82 (by decide)
  have e77 : w.1 0 77 = w0.1 0 77 := Am.1 77 (by decide)
  have z1 : (w.1 0 115 + w0.1 79 c).toInt = 4 * ((T : Int) + 2 + zMm g c) := (add_z hT g3 (by omega) (by omega) : (w.1 0 115 + w0.1 79 c).toInt = 4 * (T : Int) + (8 + 4 * (zMm g c : Int))).trans (by omega)
  obtain ⟨-, -, h⟩ := h
  rw [n, e79, e77, h77, hT, g3, nIN hN] at h
  rcases h with ⟨q, r9, u9, t9, -, h⟩ | ⟨q, h1, h2⟩
  · right
    refine ⟨by omega, ?_⟩
    obtain ⟨-, t9⟩ := t9
    rcases t9 with ⟨c9, t1, t2⟩ | ⟨c9, t1, t2⟩
    · right
      rcases h with ⟨-, h⟩ | ⟨q2, -⟩
      · have e9 : u9.1 0 115 = w.1 0 115 := by rw [t2]; rfl
        have e16 : u9.1 0 116 = w.1 0 116 := by rw [t2]; rfl
        have x79 : u9.1 79 = w0.1 79 := by rw [t2]; exact e79
        have x78 : u9.1 78 = w0.1 78 := by rw [t2]; exact e78
        have x82 : u9.1 82 = w0.1 82 := by rw [t2]; exact e82
        have x06 : u9.1 0 106 = w.1 0 106 := by rw [t2]; rfl
        rw [e9, e16, x79, hT, g3] at h
        rcases h with ⟨q3, ia, w5, hr, fg, hb, q4, h1, h2⟩ | ⟨q3, ia, w5, hr, fg, hb, q4, h1, h2⟩
        · obtain ⟨W0, hW0⟩ : ∃ W0, W0 = (wA (wA (wA (wA (wA (wA (wA u9 0 115 (w.1 0 115 + w0.1 79 c)) 0 116 (w.1 0 116)) 107 ((u9.1 0 110).toNatClampNeg) (u9.1 0 112)) 108 ((u9.1 0 110).toNatClampNeg) (u9.1 0 111)) 109 ((u9.1 0 110).toNatClampNeg) pa) 0 110 ((u9.1 0 110) + (1 : Int32))) 0 111 ((u9.1 0 106) - ((u9.1 78) c))) := ⟨_, rfl⟩
          rw [← hW0] at hr fg
          rw [x06, x78, x82, g5] at hb
          have y82 : w5.1 82 = w0.1 82 := by rw [fg.2.2 82 (by decide), hW0]; exact x82
          have y81 : w5.1 81 = w0.1 81 := by rw [fg.2.2 81 (by decide), hW0, t2]; exact e81
          rw [y82, g5] at q4
          rw [y81] at h2
          have iv : ∀ j : Nat, (j : Int) < (w.1 0 106).toInt → w5.1 105 j = w.1 105 j := by
            refine RT.ind (fun (y : Int32 × MS) => ∀ j : Nat, (j : Int) < (w.1 0 106).toInt → y.2.1 105 j = w.1 105 j) hr (fun j _ => by show W0.1 105 j = _; rw [hW0, t2]; rfl) ?_
            intro a b9 _ ga hb9
            obtain ⟨fa, ⟨ba1, ba2, ba3⟩, -, rfl⟩ := hb9
            rw [n, x06, x78] at ba1
            rw [n, x78] at ba2
            intro j hj
            have na := natI (a := a.2.1 0 106) (by omega)
            show upd (a.2.1 105) (a.2.1 0 106).toNatClampNeg 0 j = _
            rw [updN_ (by omega)]
            exact ga j hj
          have fld : ∀ k9, k9 ≠ 106 → w5.1 0 k9 = W0.1 0 k9 := fun k9 hk => fg.2.1 k9 (by simp only [List.mem_cons, List.not_mem_nil, or_false]; exact hk)
          have arr : ∀ a9, a9 ≠ 0 → a9 ≠ 105 → w5.1 a9 = W0.1 a9 := fun a9 h0 h5 => fg.2.2 a9 (by simp only [List.mem_cons, List.not_mem_nil, or_false, not_or]; exact ⟨h0, h5⟩)
          refine ⟨?_, h1, w.1 0 115 + w0.1 79 c, w.1 0 116, z1, ?_, ?_⟩
          · have c9 : (w.1 0 113).toInt ≠ (w.1 0 114).toInt := c9
            omega
          · rw [if_neg (by omega)]
          · rw [h2]
            refine ⟨⟨?_, ?_⟩, ⟨?_, ?_, ?_⟩, ⟨?_, ?_⟩, ?_, iv, ⟨rfl, ?_⟩, ?_, ?_, ?_, ?_, ?_⟩
            · show w5.1 0 115 = _
              rw [fld 115 (by decide), hW0]; rfl
            · show w5.1 0 116 = _
              rw [fld 116 (by decide), hW0]; rfl
            · show w5.1 107 = _
              rw [arr 107 (by decide) (by decide), hW0, t2]; rfl
            · show w5.1 108 = _
              rw [arr 108 (by decide) (by decide), hW0, t2]; rfl
            · show w5.1 109 = _
              rw [arr 109 (by decide) (by decide), hW0, t2]; rfl
            · show w5.1 0 110 = _
              rw [fld 110 (by decide), hW0, t2]; rfl
            · show w5.1 0 111 = _
              rw [fld 111 (by decide), hW0, ← x78, ← x06]; rfl
            · show (w5.1 0 106).toInt = _
              omega
            · show w5.1 0 113 = _
              rw [fld 113 (by decide), hW0, t2]; rfl
            · show w5.1 117 = _
              rw [arr 117 (by decide) (by decide), hW0, t2]; rfl
            · show w5.1 118 = _
              rw [arr 118 (by decide) (by decide), hW0, t2]; rfl
            · show w5.1 0 119 = _
              rw [fld 119 (by decide), hW0, t2]; rfl
            · show w5.1 0 120 = _
              rw [fld 120 (by decide), hW0, t2]; rfl
            · show w5.1 0 121 = _
              rw [fld 121 (by decide), hW0, t2]; rfl
        · obtain ⟨W0, hW0⟩ : ∃ W0, W0 = (wA (wA (wA (wA (wA (wA (wA u9 0 115 (w.1 0 115 + w0.1 79 c)) 0 116 (w.1 0 115 + w0.1 79 c)) 107 ((u9.1 0 110).toNatClampNeg) (u9.1 0 112)) 108 ((u9.1 0 110).toNatClampNeg) (u9.1 0 111)) 109 ((u9.1 0 110).toNatClampNeg) pa) 0 110 ((u9.1 0 110) + (1 : Int32))) 0 111 ((u9.1 0 106) - ((u9.1 78) c))) := ⟨_, rfl⟩
          rw [← hW0] at hr fg
          rw [x06, x78, x82, g5] at hb
          have y82 : w5.1 82 = w0.1 82 := by rw [fg.2.2 82 (by decide), hW0]; exact x82
          have y81 : w5.1 81 = w0.1 81 := by rw [fg.2.2 81 (by decide), hW0, t2]; exact e81
          rw [y82, g5] at q4
          rw [y81] at h2
          have iv : ∀ j : Nat, (j : Int) < (w.1 0 106).toInt → w5.1 105 j = w.1 105 j := by
            refine RT.ind (fun (y : Int32 × MS) => ∀ j : Nat, (j : Int) < (w.1 0 106).toInt → y.2.1 105 j = w.1 105 j) hr (fun j _ => by show W0.1 105 j = _; rw [hW0, t2]; rfl) ?_
            intro a b9 _ ga hb9
            obtain ⟨fa, ⟨ba1, ba2, ba3⟩, -, rfl⟩ := hb9
            rw [n, x06, x78] at ba1
            rw [n, x78] at ba2
            intro j hj
            have na := natI (a := a.2.1 0 106) (by omega)
            show upd (a.2.1 105) (a.2.1 0 106).toNatClampNeg 0 j = _
            rw [updN_ (by omega)]
            exact ga j hj
          have fld : ∀ k9, k9 ≠ 106 → w5.1 0 k9 = W0.1 0 k9 := fun k9 hk => fg.2.1 k9 (by simp only [List.mem_cons, List.not_mem_nil, or_false]; exact hk)
          have arr : ∀ a9, a9 ≠ 0 → a9 ≠ 105 → w5.1 a9 = W0.1 a9 := fun a9 h0 h5 => fg.2.2 a9 (by simp only [List.mem_cons, List.not_mem_nil, or_false, not_or]; exact ⟨h0, h5⟩)
          refine ⟨?_, h1, w.1 0 115 + w0.1 79 c, w.1 0 115 + w0.1 79 c, z1, ?_, ?_⟩
          · have c9 : (w.1 0 113).toInt ≠ (w.1 0 114).toInt := c9
            omega
          · rw [if_pos (by omega)]
          · rw [h2]
            refine ⟨⟨?_, ?_⟩, ⟨?_, ?_, ?_⟩, ⟨?_, ?_⟩, ?_, iv, ⟨rfl, ?_⟩, ?_, ?_, ?_, ?_, ?_⟩
            · show w5.1 0 115 = _
              rw [fld 115 (by decide), hW0]; rfl
            · show w5.1 0 116 = _
              rw [fld 116 (by decide), hW0]; rfl
            · show w5.1 107 = _
              rw [arr 107 (by decide) (by decide), hW0, t2]; rfl
            · show w5.1 108 = _
              rw [arr 108 (by decide) (by decide), hW0, t2]; rfl
            · show w5.1 109 = _
              rw [arr 109 (by decide) (by decide), hW0, t2]; rfl
            · show w5.1 0 110 = _
              rw [fld 110 (by decide), hW0, t2]; rfl
            · show w5.1 0 111 = _
              rw [fld 111 (by decide), hW0, ← x78, ← x06]; rfl
            · show (w5.1 0 106).toInt = _
              omega
            · show w5.1 0 113 = _
              rw [fld 113 (by decide), hW0, t2]; rfl
            · show w5.1 117 = _
              rw [arr 117 (by decide) (by decide), hW0, t2]; rfl
            · show w5.1 118 = _
              rw [arr 118 (by decide) (by decide), hW0, t2]; rfl
            · show w5.1 0 119 = _
              rw [fld 119 (by decide), hW0, t2]; rfl
            · show w5.1 0 120 = _
              rw [fld 120 (by decide), hW0, t2]; rfl
            · show w5.1 0 121 = _
              rw [fld 121 (by decide), hW0, t2]; rfl
      · rw [t1] at q2
        exact absurd q2 (by decide)
    · left
      have c9 : (w.1 0 113).toInt = (w.1 0 114).toInt := c9
      rcases h with ⟨q2, -⟩ | ⟨-, h1, h2⟩
      · rw [t1] at q2
        exact absurd (by decide) q2
      · exact ⟨by omega, h1, h2.trans t2⟩
  · left
    exact ⟨by omega, h1, h2⟩
end YHE
