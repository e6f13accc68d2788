/-! the reference: parameters, all of them -/
section MPQ
variable {g : GM} {n : Int} {K : TK} {e : PE} {v u u2 w x S : MS} {t : Bool} {r pa pb nm r225 r236 : Int32} {f : PS → PX PS} {k N cc : Nat} {m : Int}
theorem pAll {X : PX PS} {y : Int32 × MS} (hr : RT (Q_m_function0_L3 u2) (1, (wA (wA (wA (wA u2 0 52 0) 0 59 (-1)) 0 47 ((u2.1 0 47) + (1 : Int32))) 0 48 ((u2.1 0 48) + (1 : Int32)))) y) (h31 : (u2.1 0 31).toInt = 0) (J : JM n K e (wA (wA (wA (wA u2 0 52 0) 0 59 (-1)) 0 47 ((u2.1 0 47) + (1 : Int32))) 0 48 ((u2.1 0 48) + (1 : Int32)))) (hX : X = bd (tParam e (aR g K (wA (wA (wA (wA u2 0 52 0) 0 59 (-1)) 0 47 ((u2.1 0 47) + (1 : Int32))) 0 48 ((u2.1 0 48) + (1 : Int32))))) (tMoreP 1502 e)) : PInv g n K e X y := by
  have z := J.2.2.2.1
  refine RT.ind (PInv g n K e X) hr ⟨J, Or.inl ⟨show (1 : Int32).toInt ≠ 0 by decide, 1502, hX, ?_⟩⟩ ?_
  · have : 0 ≤ ((wA (wA (wA (wA u2 0 52 0) 0 59 (-1)) 0 47 ((u2.1 0 47) + (1 : Int32))) 0 48 ((u2.1 0 48) + (1 : Int32))).1 0 47).toInt := z.2.1
    show (1501 : Int) ≤ 1502 + ((wA (wA (wA (wA u2 0 52 0) 0 59 (-1)) 0 47 ((u2.1 0 47) + (1 : Int32))) 0 48 ((u2.1 0 48) + (1 : Int32))).1 0 47).toInt
    omega
  · intro a b _ I hb
    exact pStep hb (by rw [hb.1.2.1 31 (by decide)]; exact h31) I
theorem rParJ (h : Q_m_function0_J0 u2 w) (h31 : (u2.1 0 31).toInt = 0) (J : JM n K e (wA (wA (wA (wA u2 0 52 0) 0 59 (-1)) 0 47 ((u2.1 0 47) + (1 : Int32))) 0 48 ((u2.1 0 48) + (1 : Int32)))) : (if (kd e (aR g K (wA (wA (wA (wA u2 0 52 0) 0 59 (-1)) 0 47 ((u2.1 0 47) + (1 : Int32))) 0 48 ((u2.1 0 48) + (1 : Int32))))).toInt = 31 then .ok (aR g K (wA (wA (wA (wA u2 0 52 0) 0 59 (-1)) 0 47 ((u2.1 0 47) + (1 : Int32))) 0 48 ((u2.1 0 48) + (1 : Int32)))) else bd (tParam e (aR g K (wA (wA (wA (wA u2 0 52 0) 0 59 (-1)) 0 47 ((u2.1 0 47) + (1 : Int32))) 0 48 ((u2.1 0 48) + (1 : Int32))))) (tMoreP 1502 e) : PX PS) = .ok (aR g K w) ∧ JM n K e w := by
  obtain ⟨r212, h1, -, h⟩ := h
  have i1 := (rIs (g := g) h1 J (q := (41, 31)) (by decide) rfl).trans (kd_m (m := 31) (by decide))
  rcases h with ⟨c, rfl⟩ | ⟨c, mo9, w74, hr, -, -, -, c2, rfl⟩
  · rw [if_pos (i1.mp c)]
    exact ⟨rfl, J⟩
  · rw [if_neg (fun q => i1.mpr q c)]
    obtain ⟨J2, I⟩ := pAll (g := g) hr h31 J rfl
    rcases I with ⟨q, -⟩ | ⟨-, q⟩
    · exact absurd c2 q
    · exact ⟨q, J2⟩
set_option maxHeartbeats 1600000 in
theorem pErr {X : PX PS} {mo9 : Int32} {w74 : MS} (I : PInv g n K e X (mo9, w74)) (h31 : (w74.1 0 31).toInt = 0) (h47 : (w74.1 0 47).toInt ≤ 1500) (h30 : 0 ≤ (w74.1 0 30).toInt ∧ (w74.1 0 30).toInt ≤ 8) (h : (mo9.toInt ≠ (0 : Int)) ∧ ∃ (r225 : Int32), (Q_m_isKey w74 (0 : Int32) r225) ∧ (K_m_isKey w74 (0 : Int32) r225) ∧ (((r225.toInt ≠ (0 : Int)) ∧ ((∃ (u9 : MS), (Q_m_take w74 true u9) ∧ t = true ∧ u = u9) ∨ ((Q_m_take w74 false (wA w74 0 47 ((w74.1 0 47) + (1 : Int32)))) ∧ (K_m_take w74 (wA w74 0 47 ((w74.1 0 47) + (1 : Int32)))) ∧ (((((w74.1 6) ((w74.1 0 47) + (1 : Int32)).toNatClampNeg).toInt = (2 : Int)) ∧ ∃ (r236 : Int32), (Q_m_local (wA w74 0 47 ((w74.1 0 47) + (1 : Int32))) ((w74.1 0 47) + (1 : Int32)) r236) ∧ (K_m_local (wA w74 0 47 ((w74.1 0 47) + (1 : Int32))) ((w74.1 0 47) + (1 : Int32)) r236) ∧ (((r236.toInt < (0 : Int)) ∧ ((((w74.1 0 30).toInt ≠ (8 : Int)) ∧ ∃ (r245 : Int32), ∃ (u244 : MS), (Q_m_slots (wA w74 0 47 ((w74.1 0 47) + (1 : Int32))) (1 : Int32) r245 u244) ∧ (K_m_slots (wA w74 0 47 ((w74.1 0 47) + (1 : Int32))) (1 : Int32) r245 u244) ∧ ((∃ (u9 : MS), (Q_m_take (wA u244 29 ((u244.1 0 30).toNatClampNeg) (u244.1 0 47)) true u9) ∧ t = true ∧ u = u9) ∨ ((Q_m_take (wA u244 29 ((u244.1 0 30).toNatClampNeg) (u244.1 0 47)) false (wA (wA u244 29 ((u244.1 0 30).toNatClampNeg) (u244.1 0 47)) 0 47 ((u244.1 0 47) + (1 : Int32)))) ∧ (K_m_take (wA u244 29 ((u244.1 0 30).toNatClampNeg) (u244.1 0 47)) (wA (wA u244 29 ((u244.1 0 30).toNatClampNeg) (u244.1 0 47)) 0 47 ((u244.1 0 47) + (1 : Int32)))) ∧ ∃ (r255 : Int32), (Q_m_is (wA (wA (wA u244 29 ((u244.1 0 30).toNatClampNeg) (u244.1 0 47)) 0 47 ((u244.1 0 47) + (1 : Int32))) 0 30 ((u244.1 0 30) + (1 : Int32))) (44 : Int32) r255) ∧ (K_m_is (wA (wA (wA u244 29 ((u244.1 0 30).toNatClampNeg) (u244.1 0 47)) 0 47 ((u244.1 0 47) + (1 : Int32))) 0 30 ((u244.1 0 30) + (1 : Int32))) (44 : Int32) r255) ∧ (r255.toInt ≠ (0 : Int)) ∧ ∃ (u9 : MS), (Q_m_take (wA (wA (wA u244 29 ((u244.1 0 30).toNatClampNeg) (u244.1 0 47)) 0 47 ((u244.1 0 47) + (1 : Int32))) 0 30 ((u244.1 0 30) + (1 : Int32))) true u9) ∧ t = true ∧ u = u9))) ∨ (((w74.1 0 30).toInt = (8 : Int)) ∧ ∃ (r268 : Int32), ∃ (u267 : MS), (Q_m_slots (wA (wA w74 0 47 ((w74.1 0 47) + (1 : Int32))) 0 49 ((w74.1 0 47) + (1 : Int32))) (1 : Int32) r268 u267) ∧ (K_m_slots (wA (wA w74 0 47 ((w74.1 0 47) + (1 : Int32))) 0 49 ((w74.1 0 47) + (1 : Int32))) (1 : Int32) r268 u267) ∧ ((∃ (u9 : MS), (Q_m_take (wA u267 29 ((u267.1 0 30).toNatClampNeg) (u267.1 0 47)) true u9) ∧ t = true ∧ u = u9) ∨ ((Q_m_take (wA u267 29 ((u267.1 0 30).toNatClampNeg) (u267.1 0 47)) false (wA (wA u267 29 ((u267.1 0 30).toNatClampNeg) (u267.1 0 47)) 0 47 ((u267.1 0 47) + (1 : Int32)))) ∧ (K_m_take (wA u267 29 ((u267.1 0 30).toNatClampNeg) (u267.1 0 47)) (wA (wA u267 29 ((u267.1 0 30).toNatClampNeg) (u267.1 0 47)) 0 47 ((u267.1 0 47) + (1 : Int32)))) ∧ ∃ (r278 : Int32), (Q_m_is (wA (wA (wA u267 29 ((u267.1 0 30).toNatClampNeg) (u267.1 0 47)) 0 47 ((u267.1 0 47) + (1 : Int32))) 0 30 ((u267.1 0 30) + (1 : Int32))) (44 : Int32) r278) ∧ (K_m_is (wA (wA (wA u267 29 ((u267.1 0 30).toNatClampNeg) (u267.1 0 47)) 0 47 ((u267.1 0 47) + (1 : Int32))) 0 30 ((u267.1 0 30) + (1 : Int32))) (44 : Int32) r278) ∧ (r278.toInt ≠ (0 : Int)) ∧ ∃ (u9 : MS), (Q_m_take (wA (wA (wA u267 29 ((u267.1 0 30).toNatClampNeg) (u267.1 0 47)) 0 47 ((u267.1 0 47) + (1 : Int32))) 0 30 ((u267.1 0 30) + (1 : Int32))) true u9) ∧ t = true ∧ u = u9))))) ∨ (((0 : Int) ≤ r236.toInt) ∧ t = true ∧ u = (wA (wA (wA w74 0 47 ((w74.1 0 47) + (1 : Int32))) 0 50 (3 : Int32)) 0 51 ((w74.1 7) ((w74.1 0 47) + (1 : Int32)).toNatClampNeg))))) ∨ ((((w74.1 6) ((w74.1 0 47) + (1 : Int32)).toNatClampNeg).toInt ≠ (2 : Int)) ∧ ∃ (u292 : MS), (Q_m_bad (wA w74 0 47 ((w74.1 0 47) + (1 : Int32))) u292) ∧ (K_m_bad (wA w74 0 47 ((w74.1 0 47) + (1 : Int32))) u292) ∧ t = true ∧ u = u292))))) ∨ ((r225.toInt = (0 : Int)) ∧ ∃ (u296 : MS), (Q_m_bad w74 u296) ∧ (K_m_bad w74 u296) ∧ t = true ∧ u = u296))) : t = true ∧ X = .error (u.1 0 50, u.1 0 51) := by
  obtain ⟨c0, r225, h225, -, h⟩ := h
  obtain ⟨J, I⟩ := I
  obtain ⟨f, hX, hf⟩ : ∃ f : Nat, X = bd (tParam e (aR g K w74)) (tMoreP f e) ∧ (1501 : Int) ≤ f + (w74.1 0 47).toInt := by
    rcases I with ⟨-, q⟩ | ⟨q, -⟩
    · exact q
    · exact absurd q c0
  obtain ⟨f0, rfl⟩ : ∃ f0, f = f0 + 1 := ⟨f - 1, by omega⟩
  have J : JM n K e w74 := J
  have J4 := J.2.2.2.1
  have i225 := rIsKey (g := g) h225 J (by decide)
  rcases h with ⟨c225, h⟩ | ⟨c225, u296, h2, -, rfl, rfl⟩
  · have k10 : (kd e (aR g K w74)).toInt = 10 := by rw [i225.mp c225]; decide
    rcases h with ⟨u9, h1, rfl, rfl⟩ | ⟨h1, k1, h⟩
    · have q : tExp 10 e (aR g K w74) = .error (u.1 0 50, u.1 0 51) := by
        unfold tExp tNeed
        rw [if_pos k10, bd_ok, (rTake (g := g) h1 J (by omega)).er]
      refine ⟨rfl, ?_⟩
      rw [hX]
      unfold tParam
      rw [q, bd_er, bd_er]
    have l15 := k1.1
    have a1 := rTake (g := g) h1 J (by omega)
    have P := tPar_k (g := g) k10 a1.eo
    have e2 : kd e (aR g K (wA w74 0 47 ((w74.1 0 47) + (1 : Int32)))) = 2 ↔ w74.1 6 ((w74.1 0 47) + (1 : Int32)).toNatClampNeg = 2 := by
      rw [rKd a1.jj]
      exact kM_2 (rTV a1.jj)
    rcases h with ⟨c6, r236, h236, -, h⟩ | ⟨c6, u292, h2, -, rfl, rfl⟩
    · have k2 := e2.mpr (Int32.toInt_inj.mp (c6.trans (by decide)))
      have pn := parName (g := g) J k2 h31 a1.jj h236
      rcases h with ⟨c236, h⟩ | ⟨c236, rfl, rfl⟩
      · rw [if_neg (by omega)] at pn
        rw [pn, bd_ok] at P
        have main : ∀ {u244 : MS} , (((w74.1 0 30).toInt ≠ 8 ∧ ∃ r, Q_m_slots (wA w74 0 47 ((w74.1 0 47) + (1 : Int32))) 1 r u244 ∧ K_m_slots (wA w74 0 47 ((w74.1 0 47) + (1 : Int32))) 1 r u244) ∨ ((w74.1 0 30).toInt = 8 ∧ ∃ r, Q_m_slots (wA (wA w74 0 47 ((w74.1 0 47) + (1 : Int32))) 0 49 ((w74.1 0 47) + (1 : Int32))) 1 r u244 ∧ K_m_slots (wA (wA w74 0 47 ((w74.1 0 47) + (1 : Int32))) 0 49 ((w74.1 0 47) + (1 : Int32))) 1 r u244)) → ((Q_m_take (wA u244 29 ((u244.1 0 30).toNatClampNeg) (u244.1 0 47)) true u ∧ t = true) ∨ (Q_m_take (wA u244 29 ((u244.1 0 30).toNatClampNeg) (u244.1 0 47)) false (wA (wA u244 29 ((u244.1 0 30).toNatClampNeg) (u244.1 0 47)) 0 47 ((u244.1 0 47) + (1 : Int32))) ∧ ∃ r255, Q_m_is (wA (wA (wA u244 29 ((u244.1 0 30).toNatClampNeg) (u244.1 0 47)) 0 47 ((u244.1 0 47) + (1 : Int32))) 0 30 ((u244.1 0 30) + (1 : Int32))) 44 r255 ∧ r255.toInt ≠ 0 ∧ Q_m_take (wA (wA (wA u244 29 ((u244.1 0 30).toNatClampNeg) (u244.1 0 47)) 0 47 ((u244.1 0 47) + (1 : Int32))) 0 30 ((u244.1 0 30) + (1 : Int32))) true u ∧ t = true)) → t = true ∧ X = .error (u.1 0 50, u.1 0 51) := by
          intro u244 hs hh
          rcases hh with ⟨ht, rfl⟩ | ⟨ht, r255, h8, c8, h9, rfl⟩
          · have R := (parRest (g := g) J a1.jj k2 h30 hs ht).1 rfl
            exact ⟨rfl, by rw [hX, P.trans R, bd_er]⟩
          · have R := (parRest (g := g) J a1.jj k2 h30 hs ht).2 rfl rfl
            have i8 := (rIs (g := g) h8 R.2 (q := (44, 37)) (by decide) rfl).trans (kd_m (m := 37) (by decide))
            have k37 := i8.mp c8
            have T := rTake (g := g) h9 R.2 (by rw [k37]; decide)
            rw [P.trans R.1, bd_ok] at hX
            have hX2 : X = if (kd e (aR g K (wA (wA (wA u244 29 ((u244.1 0 30).toNatClampNeg) (u244.1 0 47)) 0 47 ((u244.1 0 47) + (1 : Int32))) 0 30 ((u244.1 0 30) + (1 : Int32))))).toInt = 37 then bd (tTake e (aR g K (wA (wA (wA u244 29 ((u244.1 0 30).toNatClampNeg) (u244.1 0 47)) 0 47 ((u244.1 0 47) + (1 : Int32))) 0 30 ((u244.1 0 30) + (1 : Int32))))) fun s => bd (tParam e s) (tMoreP f0 e) else .ok (aR g K (wA (wA (wA u244 29 ((u244.1 0 30).toNatClampNeg) (u244.1 0 47)) 0 47 ((u244.1 0 47) + (1 : Int32))) 0 30 ((u244.1 0 30) + (1 : Int32)))) := hX
            exact ⟨rfl, by rw [hX2, if_pos k37, T.er, bd_er]⟩
        rcases h with ⟨c8, r245, u244, h2, k2', h⟩ | ⟨c8, r245, u244, h2, k2', h⟩
        · refine main (Or.inl ⟨c8, r245, h2, k2'⟩) ?_
          rcases h with ⟨u9, h3, rfl, rfl⟩ | ⟨h3, -, r255, h4, -, q, u9, h5, rfl, rfl⟩
          · exact Or.inl ⟨h3, rfl⟩
          · exact Or.inr ⟨h3, r255, h4, q, h5, rfl⟩
        · refine main (Or.inr ⟨c8, r245, h2, k2'⟩) ?_
          rcases h with ⟨u9, h3, rfl, rfl⟩ | ⟨h3, -, r255, h4, -, q, u9, h5, rfl, rfl⟩
          · exact Or.inl ⟨h3, rfl⟩
          · exact Or.inr ⟨h3, r255, h4, q, h5, rfl⟩
      · rw [if_pos c236] at pn
        rw [pn, bd_er] at P
        refine ⟨rfl, ?_⟩
        rw [hX, P, bd_er, rPl a1.jj]
        rfl
    · have nk : ¬ (kd e (aR g K (wA w74 0 47 ((w74.1 0 47) + (1 : Int32))))).toInt = 2 := fun q => c6 (congrArg Int32.toInt (e2.mp (Int32.toInt_inj.mp (q.trans (by decide)))))
      have pn : tNew e (aR g K (wA w74 0 47 ((w74.1 0 47) + (1 : Int32)))) = .error (u.1 0 50, u.1 0 51) := by
        unfold tNew tNeed
        rw [if_neg nk, rBad (g := g) h2 a1.jj, bd_er]
      rw [pn, bd_er] at P
      exact ⟨rfl, by rw [hX, P, bd_er]⟩
  · have nk : ¬ (kd e (aR g K w74)).toInt = 10 := fun q => i225.mpr (Int32.toInt_inj.mp (q.trans (by decide))) c225
    have q : tExp 10 e (aR g K w74) = .error (u.1 0 50, u.1 0 51) := by
      unfold tExp tNeed
      rw [if_neg nk, rBad (g := g) h2 J, bd_er]
    refine ⟨rfl, ?_⟩
    rw [hX]
    unfold tParam
    rw [q, bd_er, bd_er]
end MPQ
