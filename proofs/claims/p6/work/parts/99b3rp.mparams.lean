/-! the reference: parameters -/
section MPP
variable {g : GM} {n : Int} {K : TK} {e : PE} {v u u2 w x S : MS} {t : Bool} {r pa pb nm r225 r236 : Int32} {f : PS → PX PS} {k N cc : Nat} {m : Int}
def PInv (g : GM) (n : Int) (K : TK) (e : PE) (X : PX PS) (y : Int32 × MS) : Prop := JM n K e y.2 ∧ ((y.1.toInt ≠ 0 ∧ ∃ f : Nat, X = bd (tParam e (aR g K y.2)) (tMoreP f e) ∧ (1501 : Int) ≤ f + (y.2.1 0 47).toInt) ∨ (y.1.toInt = 0 ∧ X = .ok (aR g K y.2)))
theorem tPar_k (h : (kd e (aR g K w)).toInt = 10) {s1 : PS} (h1 : tTake e (aR g K w) = .ok s1) : tParam e (aR g K w) = bd (tNew e s1) fun s1 => if (8 : Int) ≤ (pKc s1).toInt then .error (5, pl e s1) else bd (tWant 1 e s1) fun s => bd (tTake e s) fun s => .ok (tLearn (vl e s1) s) := by
  have q : tExp 10 e (aR g K w) = .ok s1 := by
    unfold tExp tNeed
    rw [if_pos h, bd_ok, h1]
  unfold tParam
  rw [q, bd_ok]
set_option maxHeartbeats 1600000 in
theorem pStep {X : PX PS} {a y : Int32 × MS} (h : Q_m_function0_L3 u2 a y) (h31 : (a.2.1 0 31).toInt = 0) (I : PInv g n K e X a) : PInv g n K e X y := by
  obtain ⟨J, I⟩ := I
  obtain ⟨-, h47, h30, c0, r225, h225, -, c225, h1, k1, c6, r236, h236, -, c236, h⟩ := h
  obtain ⟨f, hX, hf⟩ : ∃ f : Nat, X = bd (tParam e (aR g K a.2)) (tMoreP f e) ∧ (1501 : Int) ≤ f + (a.2.1 0 47).toInt := by
    rcases I with ⟨-, q⟩ | ⟨q, -⟩
    · exact q
    · exact absurd q c0
  obtain ⟨f0, rfl⟩ : ∃ f0, f = f0 + 1 := ⟨f - 1, by omega⟩
  have J4 := J.2.2.2.1
  have e47 : ((a.2.1 0 47) + (1 : Int32)).toInt = (a.2.1 0 47).toInt + 1 := add_z rfl (by decide) (by omega) (by omega)
  have i225 := rIsKey (g := g) h225 J (by decide)
  have k10 : (kd e (aR g K a.2)).toInt = 10 := by rw [i225.mp c225]; decide
  have a1 := rTake (g := g) h1 J (by omega)
  have e2 : kd e (aR g K (wA a.2 0 47 ((a.2.1 0 47) + (1 : Int32)))) = 2 ↔ a.2.1 6 ((a.2.1 0 47) + (1 : Int32)).toNatClampNeg = 2 := by
    rw [rKd a1.jj]
    exact kM_2 (rTV a1.jj)
  have k2 := e2.mpr (Int32.toInt_inj.mp (c6.trans (by decide)))
  have pn := parName (g := g) J k2 h31 a1.jj h236
  rw [if_neg (by omega)] at pn
  have P := tPar_k (g := g) k10 a1.eo
  rw [pn, bd_ok] at P
  have main : ∀ {u244 : MS} {r255 : Int32}, (((a.2.1 0 30).toInt ≠ 8 ∧ ∃ r, Q_m_slots (wA a.2 0 47 ((a.2.1 0 47) + (1 : Int32))) 1 r u244 ∧ K_m_slots (wA a.2 0 47 ((a.2.1 0 47) + (1 : Int32))) 1 r u244) ∨ ((a.2.1 0 30).toInt = 8 ∧ ∃ r, Q_m_slots (wA (wA a.2 0 47 ((a.2.1 0 47) + (1 : Int32))) 0 49 ((a.2.1 0 47) + (1 : Int32))) 1 r u244 ∧ K_m_slots (wA (wA a.2 0 47 ((a.2.1 0 47) + (1 : Int32))) 0 49 ((a.2.1 0 47) + (1 : Int32))) 1 r u244)) → u244.1 0 47 = (a.2.1 0 47) + (1 : Int32) → Q_m_take (wA u244 29 ((u244.1 0 30).toNatClampNeg) (u244.1 0 47)) false (wA (wA u244 29 ((u244.1 0 30).toNatClampNeg) (u244.1 0 47)) 0 47 ((u244.1 0 47) + (1 : Int32))) → (u244.1 0 47).toInt < 1500 → Q_m_is (wA (wA (wA u244 29 ((u244.1 0 30).toNatClampNeg) (u244.1 0 47)) 0 47 ((u244.1 0 47) + (1 : Int32))) 0 30 ((u244.1 0 30) + (1 : Int32))) 44 r255 → ((r255.toInt = 0 ∧ y = (r255, (wA (wA (wA u244 29 ((u244.1 0 30).toNatClampNeg) (u244.1 0 47)) 0 47 ((u244.1 0 47) + (1 : Int32))) 0 30 ((u244.1 0 30) + (1 : Int32))))) ∨ (r255.toInt ≠ 0 ∧ Q_m_take (wA (wA (wA u244 29 ((u244.1 0 30).toNatClampNeg) (u244.1 0 47)) 0 47 ((u244.1 0 47) + (1 : Int32))) 0 30 ((u244.1 0 30) + (1 : Int32))) false (wA (wA (wA (wA u244 29 ((u244.1 0 30).toNatClampNeg) (u244.1 0 47)) 0 47 ((u244.1 0 47) + (1 : Int32))) 0 30 ((u244.1 0 30) + (1 : Int32))) 0 47 (((u244.1 0 47) + (1 : Int32)) + (1 : Int32))) ∧ ((u244.1 0 47) + (1 : Int32)).toInt < 1500 ∧ y = (r255, (wA (wA (wA (wA u244 29 ((u244.1 0 30).toNatClampNeg) (u244.1 0 47)) 0 47 ((u244.1 0 47) + (1 : Int32))) 0 30 ((u244.1 0 30) + (1 : Int32))) 0 47 (((u244.1 0 47) + (1 : Int32)) + (1 : Int32)))))) → PInv g n K e X y := by
    intro u244 r255 hs f47 ht l15 h8 hh
    have R := (parRest (g := g) J a1.jj k2 ⟨h30.1, h30.2.1⟩ hs ht).2 rfl rfl
    have P2 : tParam e (aR g K a.2) = .ok (aR g K (wA (wA (wA u244 29 ((u244.1 0 30).toNatClampNeg) (u244.1 0 47)) 0 47 ((u244.1 0 47) + (1 : Int32))) 0 30 ((u244.1 0 30) + (1 : Int32)))) := P.trans R.1
    rw [P2, bd_ok] at hX
    have i8 := (rIs (g := g) h8 R.2 (q := (44, 37)) (by decide) rfl).trans (kd_m (m := 37) (by decide))
    have q47 : ((u244.1 0 47) + (1 : Int32)).toInt = (a.2.1 0 47).toInt + 2 := by
      have : ((u244.1 0 47) + (1 : Int32)).toInt = (u244.1 0 47).toInt + 1 := add_z rfl (by decide) (by rw [f47]; omega) (by omega)
      rw [f47] at this ⊢
      omega
    have hX2 : X = if (kd e (aR g K (wA (wA (wA u244 29 ((u244.1 0 30).toNatClampNeg) (u244.1 0 47)) 0 47 ((u244.1 0 47) + (1 : Int32))) 0 30 ((u244.1 0 30) + (1 : Int32))))).toInt = 37 then bd (tTake e (aR g K (wA (wA (wA u244 29 ((u244.1 0 30).toNatClampNeg) (u244.1 0 47)) 0 47 ((u244.1 0 47) + (1 : Int32))) 0 30 ((u244.1 0 30) + (1 : Int32))))) fun s => bd (tParam e s) (tMoreP f0 e) else .ok (aR g K (wA (wA (wA u244 29 ((u244.1 0 30).toNatClampNeg) (u244.1 0 47)) 0 47 ((u244.1 0 47) + (1 : Int32))) 0 30 ((u244.1 0 30) + (1 : Int32)))) := hX
    rcases hh with ⟨c8, rfl⟩ | ⟨c8, h9, l9, rfl⟩
    · refine ⟨R.2, Or.inr ⟨c8, ?_⟩⟩
      rw [hX2, if_neg (fun q => i8.mpr q c8)]
    · have k37 := i8.mp c8
      have T := rTake (g := g) h9 R.2 (by rw [k37]; decide)
      refine ⟨T.jj, Or.inl ⟨c8, f0, ?_, ?_⟩⟩
      · rw [hX2, if_pos k37, T.eo, bd_ok]
      · show (1501 : Int) ≤ f0 + (((u244.1 0 47) + (1 : Int32)) + (1 : Int32)).toInt
        have : (((u244.1 0 47) + (1 : Int32)) + (1 : Int32)).toInt = ((u244.1 0 47) + (1 : Int32)).toInt + 1 := add_z rfl (by decide) (by omega) (by omega)
        omega
  rcases h with ⟨c8, r245, u244, h2, k2', h3, k3, r255, h4, -, h⟩ | ⟨c8, r245, u244, h2, k2', h3, k3, r255, h4, -, h⟩
  · refine main (Or.inl ⟨c8, r245, h2, k2'⟩) ((k2'.1.2.1 47 (by decide)).trans rfl) h3 k3.1 h4 ?_
    rcases h with h | ⟨q, h5, k5, h6⟩
    · exact Or.inl h
    · exact Or.inr ⟨q, h5, k5.1, h6⟩
  · refine main (Or.inr ⟨c8, r245, h2, k2'⟩) ((k2'.1.2.1 47 (by decide)).trans rfl) h3 k3.1 h4 ?_
    rcases h with h | ⟨q, h5, k5, h6⟩
    · exact Or.inl h
    · exact Or.inr ⟨q, h5, k5.1, h6⟩
end MPP
