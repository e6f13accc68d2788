/-! the reference: calls -/
section MCA
variable {g : GM} {n : Int} {K : TK} {e : PE} {v u w x : MS} {t : Bool} {r pa pb na : Int32} {c : RM1} {E : FE}
theorem aR_eq {u : MS} {s : PS} (h1 : u.1 0 47 = pAt s) (h2 : u.1 0 48 = pOp s) (h3 : decide (u.1 0 49 = u.1 0 47) = pDu s) (h4 : u.1 0 31 = pBl s) (h5 : u.1 0 32 = pPb s) (h6 : (if u.1 0 49 = u.1 0 47 then 0 else u.1 0 33) = pMo s) (h7 : decide (u.1 0 44 ≠ 0) = pMu s) (h8 : decide (u.1 0 45 ≠ 0) = pDi s) (h9 : g.1 = pLo s) (h10 : ovM u = pOv s) (h11 : (if ovM u = true then 0 else u.1 0 12) = pWd s) (h12 : u.1 0 30 = pKc s) (h13 : knM K u = pKn s) (h14 : caM g.2 K u = pCa s) : aR g K u = s := by
  unfold aR
  rw [h2, h4, h5, h7, h8, h9, h11, h12, h13, h14, h10]
  rw [h1] at h3 h6 ⊢
  rw [h3, h6]
  rfl
def gQ (g : GM) (c : Nat) : GM := (g.1, c :: g.2)
theorem caM_cas {O : List Nat} : caM O K w = if ovM w = true then [] else cas O (fun c => K.2.1 (w.1 35 c)) (fun c => K.2.2 (w.1 35 c)) (w.1 36) (w.1 0 39).toNatClampNeg := rfl
set_option maxHeartbeats 400000 in
theorem rAddCall (J : JM n K e v) (z : 0 ≤ (v.1 0 39).toInt ∧ (v.1 0 39).toInt ≤ 1500) : aR (gQ g (v.1 0 39).toNatClampNeg) K (wA (wA v 0 39 ((v.1 0 39) + (1 : Int32))) 35 ((v.1 0 39).toNatClampNeg) (v.1 0 47)) = tAddCall (vl e (aR g K v)) (pl e (aR g K v)) (aR g K v) := by
  have e1 : (v.1 0 39 + 1).toInt = (v.1 0 39).toInt + 1 := add_z rfl (by decide) (by omega) (by omega)
  have nz := natI z.1
  have nc : ((wA (wA v 0 39 ((v.1 0 39) + (1 : Int32))) 35 ((v.1 0 39).toNatClampNeg) (v.1 0 47)).1 0 39).toNatClampNeg = (v.1 0 39).toNatClampNeg + 1 := natS e1 z.1
  have ovu : ovM (wA (wA v 0 39 ((v.1 0 39) + (1 : Int32))) 35 ((v.1 0 39).toNatClampNeg) (v.1 0 47)) = decide ((501 : Int) ≤ (v.1 0 39 + 1).toInt) := rfl
  have ev : vl e (aR g K v) = K.2.1 (v.1 0 47) := rVl J
  have ep : pl e (aR g K v) = K.2.2 (v.1 0 47) := by rw [J.2.1]; rfl
  unfold tAddCall
  by_cases o : ovM v = true
  · have o2 : ovM (wA (wA v 0 39 ((v.1 0 39) + (1 : Int32))) 35 ((v.1 0 39).toNatClampNeg) (v.1 0 47)) = true := by
      rw [ovu]
      exact decide_eq_true (by have := of_decide_eq_true o; omega)
    rw [if_pos (show pOv (aR g K v) = true from o)]
    refine aR_eq rfl rfl rfl rfl rfl rfl rfl rfl rfl (o2.trans o.symm) ?_ rfl rfl ?_
    · rw [if_pos o2]
      exact (if_pos o).symm
    · rw [caM_cas, if_pos o2]
      exact (if_pos o).symm
  · rw [if_neg (show ¬ pOv (aR g K v) = true from o)]
    have len : (pCa (aR g K v)).length = (v.1 0 39).toNatClampNeg := by
      show (caM g.2 K v).length = _
      rw [caM_cas, if_neg o, cas_len]
    rw [len]
    by_cases c5 : (v.1 0 39).toNatClampNeg = 500
    · have o2 : ovM (wA (wA v 0 39 ((v.1 0 39) + (1 : Int32))) 35 ((v.1 0 39).toNatClampNeg) (v.1 0 47)) = true := by
        rw [ovu]
        exact decide_eq_true (by omega)
      rw [if_pos c5]
      refine aR_eq rfl rfl rfl rfl rfl rfl rfl rfl rfl o2 ?_ rfl rfl ?_
      · rw [if_pos o2]
        rfl
      · rw [caM_cas, if_pos o2]
        rfl
    · have o3 := of_decide_eq_false (by cases q : ovM v with | false => exact q | true => exact absurd q o : decide ((501 : Int) ≤ (v.1 0 39).toInt) = false)
      have o2 : ovM (wA (wA v 0 39 ((v.1 0 39) + (1 : Int32))) 35 ((v.1 0 39).toNatClampNeg) (v.1 0 47)) = false := by
        rw [ovu]
        exact decide_eq_false (by omega)
      rw [if_neg c5]
      refine aR_eq rfl rfl rfl rfl rfl rfl rfl rfl rfl o2 ?_ rfl rfl ?_
      · rw [if_neg (by rw [o2]; decide)]
        show v.1 0 12 = if ovM v = true then 0 else v.1 0 12
        rw [if_neg o]
      · rw [caM_cas, if_neg (by rw [o2]; decide), nc, cas_snoc]
        show _ = caM g.2 K v ++ [(vl e (aR g K v), pl e (aR g K v), 0)]
        rw [caM_cas, if_neg o, ev, ep]
        have k35 : ∀ j, (wA (wA v 0 39 ((v.1 0 39) + (1 : Int32))) 35 ((v.1 0 39).toNatClampNeg) (v.1 0 47)).1 35 j = upd (v.1 35) (v.1 0 39).toNatClampNeg (v.1 0 47) j := fun j => rfl
        refine congr (congrArg HAppend.hAppend ?_) ?_
        · refine cas_cg (fun j hj => ⟨?_, ?_, ⟨fun w => (List.mem_cons.mp w).elim (fun x => by omega) (fun x => x), fun w => List.mem_cons_of_mem _ w⟩, fun _ => rfl⟩)
          · show K.2.1 (upd (v.1 35) (v.1 0 39).toNatClampNeg (v.1 0 47) j) = _
            rw [updN_ (by omega)]
          · show K.2.2 (upd (v.1 35) (v.1 0 39).toNatClampNeg (v.1 0 47) j) = _
            rw [updN_ (by omega)]
        · rw [k35, updS, if_pos (show (v.1 0 39).toNatClampNeg ∈ (gQ g (v.1 0 39).toNatClampNeg).2 from List.mem_cons_self)]
/-- before an argument -/
theorem rDue (h : (na.toInt ≠ 8 ∧ ∃ r, Q_m_slots w 1 r u) ∨ (na.toInt = 8 ∧ ∃ r, Q_m_slots (wA w 0 49 (w.1 0 47)) 1 r u)) (hn : 0 ≤ na.toInt ∧ na.toInt ≤ 8) (J : JM n K e w) : aR g K u = tDue na (aR g K w) ∧ JM n K e u := by
  have J4 := J.2.2.2.1
  unfold tDue
  rcases h with ⟨c8, r, h⟩ | ⟨c8, r, h⟩
  · have a := rSlots (g := g) (k := 0) h J
    refine ⟨?_, a.2.1⟩
    by_cases l5 : (500 : Int) < (pKc (aR g K w) + pPb (aR g K w) + 1).toInt
    · rw [if_pos (Or.inl l5)]
      exact (a.2.2.2 l5).1
    · rw [if_neg (by rintro (q | q) <;> omega)]
      exact (a.2.2.1 (by omega)).1
  · have J2 : JM n K e (wA w 0 49 (w.1 0 47)) := J.of rfl (fun a ha => if_neg (fun q => by rw [q] at ha; revert ha; decide)) rfl rfl ⟨Int.le_refl _, J4.2.1, J4.2.2.1⟩
    have a := rSlots (g := g) (k := 0) h J2
    have ad : aR g K (wA w 0 49 (w.1 0 47)) = sDu (sMo (aR g K w) 0) true := by
      refine aR_eq rfl rfl ?_ rfl rfl ?_ rfl rfl rfl rfl rfl rfl rfl rfl
      · exact decide_eq_true rfl
      · exact if_pos rfl
    rw [if_pos (Or.inr (by omega))]
    refine ⟨?_, a.2.1⟩
    rw [ad] at a
    by_cases l5 : (500 : Int) < (pKc (sDu (sMo (aR g K w) 0) true) + pPb (sDu (sMo (aR g K w) 0) true) + 1).toInt
    · rw [(a.2.2.2 l5).1]
      rfl
    · rw [(a.2.2.1 (by omega)).1]
      unfold sMm
      exact if_pos rfl
end MCA
