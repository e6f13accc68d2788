/-! the reference: a parameter -/
section MPM
variable {g : GM} {n : Int} {K : TK} {e : PE} {v u w x S : MS} {t : Bool} {r pa pb nm r225 r236 : Int32} {f : PS → PX PS} {k N cc : Nat} {m : Int}
/-- a parameter's name is due, or not -/
theorem parName (J : JM n K e w) (hk : kd e (aR g K (wA w 0 47 ((w.1 0 47) + (1 : Int32)))) = 2) (h31 : (w.1 0 31).toInt = 0) (J1 : JM n K e (wA w 0 47 ((w.1 0 47) + (1 : Int32)))) (h9 : Q_m_local (wA w 0 47 ((w.1 0 47) + (1 : Int32))) ((w.1 0 47) + (1 : Int32)) r236) : tNew e (aR g K (wA w 0 47 ((w.1 0 47) + (1 : Int32)))) = if 0 ≤ r236.toInt then .error (3, pl e (aR g K (wA w 0 47 ((w.1 0 47) + (1 : Int32))))) else .ok (aR g K (wA w 0 47 ((w.1 0 47) + (1 : Int32)))) := by
  have nt : NT n K ((w.1 0 47) + (1 : Int32)) := rNT J1 hk
  have L := rLocal (g := g) h9 J1 nt
  have ev : vl e (aR g K (wA w 0 47 ((w.1 0 47) + (1 : Int32)))) = K.2.1 ((w.1 0 47) + (1 : Int32)) := rVl J1
  unfold tNew tNeed
  rw [if_pos (i_kd hk (by decide)), bd_ok, ev, L]
  show (if (w.1 0 31).toInt ≤ _ then _ else _) = _
  rw [h31]
theorem JG.w29 {i : Nat} {y : Int32} (J : JM n K e S) (hi : (S.1 0 30).toInt ≤ (i : Int)) : JM n K e (wA S 29 i y) := by
  obtain ⟨T, he, nd, J4, J5, J6⟩ := J
  refine ⟨T.of rfl rfl rfl rfl rfl rfl, he, nd, J4, fun k hk => ?_, J6⟩
  have hk : (k : Int) < (S.1 0 30).toInt := hk
  show NT n K (upd (S.1 29) i y k)
  rw [updN_ (by omega)]
  exact J5 k hk
theorem aR_29 {i : Nat} {y : Int32} (z : 0 ≤ (S.1 0 30).toInt) (hi : (S.1 0 30).toInt ≤ (i : Int)) : aR g K (wA S 29 i y) = aR g K S := by
  refine aR_eq rfl rfl rfl rfl rfl rfl rfl rfl rfl rfl rfl rfl ?_ rfl
  show (List.range (S.1 0 30).toNatClampNeg).map (fun k => K.2.1 (upd (S.1 29) i y k)) = (List.range (S.1 0 30).toNatClampNeg).map (fun k => K.2.1 (S.1 29 k))
  have nz := natI z
  exact List.map_congr_left (fun j hj => by rw [updN_ (by have := List.mem_range.mp hj; omega)])
theorem rLearn2 (J : JM n K e S) (hn : NT n K nm) (h : S.1 29 (S.1 0 30).toNatClampNeg = nm) (z : 0 ≤ (S.1 0 30).toInt ∧ (S.1 0 30).toInt < 500) : aR g K (wA S 0 30 ((S.1 0 30) + (1 : Int32))) = tLearn (K.2.1 nm) (aR g K S) ∧ JM n K e (wA S 0 30 ((S.1 0 30) + (1 : Int32))) := by
  have e1 : ((S.1 0 30) + (1 : Int32)).toInt = (S.1 0 30).toInt + 1 := add_z rfl (by decide) (by omega) (by omega)
  have nz := natI z.1
  have nc : ((S.1 0 30) + (1 : Int32)).toNatClampNeg = (S.1 0 30).toNatClampNeg + 1 := natS e1 z.1
  constructor
  · unfold tLearn
    rw [if_neg (show ¬ (500 : Int) ≤ (pKc (aR g K S)).toInt from by show ¬ (500 : Int) ≤ (S.1 0 30).toInt; omega)]
    refine aR_eq rfl rfl rfl rfl rfl rfl rfl rfl rfl rfl rfl rfl ?_ rfl
    show (List.range ((S.1 0 30) + (1 : Int32)).toNatClampNeg).map (fun k => K.2.1 (S.1 29 k)) = (List.range (S.1 0 30).toNatClampNeg).map (fun k => K.2.1 (S.1 29 k)) ++ [K.2.1 nm]
    rw [nc, lst_snoc, h]
  · obtain ⟨T, he, nd, J4, J5, J6⟩ := J
    refine ⟨T.of rfl rfl rfl rfl rfl rfl, he, nd, J4, fun k hk => ?_, J6⟩
    have hk : (k : Int) < ((S.1 0 30) + (1 : Int32)).toInt := hk
    by_cases q : k = (S.1 0 30).toNatClampNeg
    · show NT n K (S.1 29 k)
      rw [q, h]
      exact hn
    · exact J5 k (show (k : Int) < (S.1 0 30).toInt by omega)
set_option maxHeartbeats 1600000 in
/-- behind int, at the name: the rest of a parameter -/
theorem parRest {u244 : MS} (J : JM n K e w) (J1 : JM n K e (wA w 0 47 ((w.1 0 47) + (1 : Int32)))) (hk : kd e (aR g K (wA w 0 47 ((w.1 0 47) + (1 : Int32)))) = 2) (z30 : 0 ≤ (w.1 0 30).toInt ∧ (w.1 0 30).toInt ≤ 8) (hs : ((w.1 0 30).toInt ≠ 8 ∧ ∃ r, Q_m_slots (wA w 0 47 ((w.1 0 47) + (1 : Int32))) 1 r u244 ∧ K_m_slots (wA w 0 47 ((w.1 0 47) + (1 : Int32))) 1 r u244) ∨ ((w.1 0 30).toInt = 8 ∧ ∃ r, Q_m_slots (wA (wA w 0 47 ((w.1 0 47) + (1 : Int32))) 0 49 ((w.1 0 47) + (1 : Int32))) 1 r u244 ∧ K_m_slots (wA (wA w 0 47 ((w.1 0 47) + (1 : Int32))) 0 49 ((w.1 0 47) + (1 : Int32))) 1 r u244)) (ht : Q_m_take (wA u244 29 ((u244.1 0 30).toNatClampNeg) (u244.1 0 47)) t u) :
    (let R := (if (8 : Int) ≤ (pKc (aR g K (wA w 0 47 ((w.1 0 47) + (1 : Int32))))).toInt then .error (5, pl e (aR g K (wA w 0 47 ((w.1 0 47) + (1 : Int32))))) else bd (tWant 1 e (aR g K (wA w 0 47 ((w.1 0 47) + (1 : Int32))))) fun s => bd (tTake e s) fun s => .ok (tLearn (vl e (aR g K (wA w 0 47 ((w.1 0 47) + (1 : Int32))))) s) : PX PS)
    (t = true → R = .error (u.1 0 50, u.1 0 51)) ∧ (t = false → u = (wA (wA u244 29 ((u244.1 0 30).toNatClampNeg) (u244.1 0 47)) 0 47 ((u244.1 0 47) + (1 : Int32))) → R = .ok (aR g K (wA (wA (wA u244 29 ((u244.1 0 30).toNatClampNeg) (u244.1 0 47)) 0 47 ((u244.1 0 47) + (1 : Int32))) 0 30 ((u244.1 0 30) + (1 : Int32)))) ∧ JM n K e (wA (wA (wA u244 29 ((u244.1 0 30).toNatClampNeg) (u244.1 0 47)) 0 47 ((u244.1 0 47) + (1 : Int32))) 0 30 ((u244.1 0 30) + (1 : Int32))))) := by
  intro R
  have nt : NT n K ((w.1 0 47) + (1 : Int32)) := rNT J1 hk
  have ev : vl e (aR g K (wA w 0 47 ((w.1 0 47) + (1 : Int32)))) = K.2.1 ((w.1 0 47) + (1 : Int32)) := rVl J1
  have f30 : u244.1 0 30 = w.1 0 30 := by
    rcases hs with ⟨-, r, -, kk⟩ | ⟨-, r, -, kk⟩
    · exact (kk.1.2.1 30 (by decide)).trans rfl
    · exact (kk.1.2.1 30 (by decide)).trans rfl
  have f47 : u244.1 0 47 = (w.1 0 47) + (1 : Int32) := by
    rcases hs with ⟨-, r, -, kk⟩ | ⟨-, r, -, kk⟩
    · exact (kk.1.2.1 47 (by decide)).trans rfl
    · exact (kk.1.2.1 47 (by decide)).trans rfl
  have nz := natI (a := u244.1 0 30) (by rw [f30]; exact z30.1)
  have le30 : (u244.1 0 30).toInt ≤ (((u244.1 0 30).toNatClampNeg : Nat) : Int) := by omega
  have z244 : 0 ≤ (u244.1 0 30).toInt := by rw [f30]; exact z30.1
  have kd2 : kd e (aR g K (wA u244 29 ((u244.1 0 30).toNatClampNeg) (u244.1 0 47))) = kd e (aR g K (wA w 0 47 ((w.1 0 47) + (1 : Int32)))) := kd_aR f47
  have hk2 : 2 ≤ (kd e (aR g K (wA u244 29 ((u244.1 0 30).toNatClampNeg) (u244.1 0 47)))).toInt := by rw [kd2, hk]; decide
  have pp : pl e (aR g K u244) = pl e (aR g K (wA w 0 47 ((w.1 0 47) + (1 : Int32)))) := by unfold pl; rw [pAt_aR, pAt_aR, f47]; rfl
  -- due: both fault
  have dueR : pDu (aR g K u244) = true → JM n K e u244 → R = .error (5, pl e (aR g K (wA w 0 47 ((w.1 0 47) + (1 : Int32))))) → (t = true → R = .error (u.1 0 50, u.1 0 51)) ∧ (t = false → u = (wA (wA u244 29 ((u244.1 0 30).toNatClampNeg) (u244.1 0 47)) 0 47 ((u244.1 0 47) + (1 : Int32))) → R = .ok (aR g K (wA (wA (wA u244 29 ((u244.1 0 30).toNatClampNeg) (u244.1 0 47)) 0 47 ((u244.1 0 47) + (1 : Int32))) 0 30 ((u244.1 0 30) + (1 : Int32)))) ∧ JM n K e (wA (wA (wA u244 29 ((u244.1 0 30).toNatClampNeg) (u244.1 0 47)) 0 47 ((u244.1 0 47) + (1 : Int32))) 0 30 ((u244.1 0 30) + (1 : Int32)))) := by
    intro du J2 hR
    have tk : tTake e (aR g K (wA u244 29 ((u244.1 0 30).toNatClampNeg) (u244.1 0 47))) = .error (5, pl e (aR g K (wA w 0 47 ((w.1 0 47) + (1 : Int32))))) := by
      rw [aR_29 z244 le30]
      unfold tTake
      rw [if_pos (Or.inr du), pp]
    have J3 := J2.w29 (y := u244.1 0 47) le30
    refine ⟨fun q => ?_, fun q _ => ?_⟩
    · subst q
      have h := (rTake (g := g) ht J3 hk2).er
      rw [tk] at h
      rw [hR, h]
    · subst q
      have h := (rTake (g := g) ht J3 hk2).eo
      rw [tk] at h
      cases h
  rcases hs with ⟨c8, r, h1, k1⟩ | ⟨c8, r, h1, k1⟩
  · have a := rSlots (g := g) (k := 0) h1 J1
    have n8 : ¬ (8 : Int) ≤ (pKc (aR g K (wA w 0 47 ((w.1 0 47) + (1 : Int32))))).toInt := by
      show ¬ (8 : Int) ≤ (w.1 0 30).toInt
      omega
    by_cases l : (500 : Int) < (pKc (aR g K (wA w 0 47 ((w.1 0 47) + (1 : Int32)))) + pPb (aR g K (wA w 0 47 ((w.1 0 47) + (1 : Int32)))) + 1).toInt
    · refine dueR (by rw [(a.2.2.2 l).1]; rfl) a.2.1 ?_
      show (if _ then _ else _) = _
      rw [if_neg n8]
      unfold tWant
      rw [if_pos l, bd_er]
    · have J3 := a.2.1.w29 (y := u244.1 0 47) le30
      have hR : R = bd (tTake e (aR g K (wA u244 29 ((u244.1 0 30).toNatClampNeg) (u244.1 0 47)))) fun s => .ok (tLearn (K.2.1 ((w.1 0 47) + (1 : Int32))) s) := by
        show (if _ then _ else _) = _
        rw [if_neg n8]
        unfold tWant
        rw [if_neg l, bd_ok, ← (a.2.2.1 (by omega)).1, ev, aR_29 z244 le30]
      refine ⟨fun q => ?_, fun q hu => ?_⟩
      · subst q
        rw [hR, (rTake (g := g) ht J3 hk2).er, bd_er]
      · subst q
        have T := rTake (g := g) ht J3 hk2
        subst hu
        have LN := rLearn2 (g := g) (S := (wA (wA u244 29 ((u244.1 0 30).toNatClampNeg) (u244.1 0 47)) 0 47 ((u244.1 0 47) + (1 : Int32)))) (nm := (w.1 0 47) + (1 : Int32)) T.jj nt (by
          show upd (u244.1 29) (u244.1 0 30).toNatClampNeg (u244.1 0 47) (u244.1 0 30).toNatClampNeg = _
          rw [updS, f47]) (by
          show 0 ≤ (u244.1 0 30).toInt ∧ (u244.1 0 30).toInt < 500
          rw [f30]
          omega)
        have L1 : aR g K (wA (wA (wA u244 29 ((u244.1 0 30).toNatClampNeg) (u244.1 0 47)) 0 47 ((u244.1 0 47) + (1 : Int32))) 0 30 ((u244.1 0 30) + (1 : Int32))) = tLearn (K.2.1 ((w.1 0 47) + (1 : Int32))) (aR g K (wA (wA u244 29 ((u244.1 0 30).toNatClampNeg) (u244.1 0 47)) 0 47 ((u244.1 0 47) + (1 : Int32)))) := LN.1
        rw [hR, T.eo, bd_ok, L1]
        exact ⟨rfl, LN.2⟩
  · have J2 : JM n K e (wA (wA w 0 47 ((w.1 0 47) + (1 : Int32))) 0 49 ((w.1 0 47) + (1 : Int32))) := J1.of rfl (fun a ha => if_neg (fun q => by rw [q] at ha; revert ha; decide)) rfl rfl ⟨Int.le_refl _, J1.2.2.2.1.2.1, J1.2.2.2.1.2.2.1⟩
    have a := rSlots (g := g) (k := 0) h1 J2
    have ad : aR g K (wA (wA w 0 47 ((w.1 0 47) + (1 : Int32))) 0 49 ((w.1 0 47) + (1 : Int32))) = sDu (sMo (aR g K (wA w 0 47 ((w.1 0 47) + (1 : Int32)))) 0) true := by
      refine aR_eq rfl rfl ?_ rfl rfl ?_ rfl rfl rfl rfl rfl rfl rfl rfl
      · exact decide_eq_true rfl
      · exact if_pos rfl
    have p8 : (8 : Int) ≤ (pKc (aR g K (wA w 0 47 ((w.1 0 47) + (1 : Int32))))).toInt := by
      show (8 : Int) ≤ (w.1 0 30).toInt
      omega
    refine dueR ?_ a.2.1 (if_pos p8)
    rw [ad] at a
    by_cases l5 : (500 : Int) < (pKc (sDu (sMo (aR g K (wA w 0 47 ((w.1 0 47) + (1 : Int32)))) 0) true) + pPb (sDu (sMo (aR g K (wA w 0 47 ((w.1 0 47) + (1 : Int32)))) 0) true) + 1).toInt
    · rw [(a.2.2.2 l5).1]
      rfl
    · rw [(a.2.2.1 (by omega)).1]
      unfold sMm
      rw [if_pos (show pDu (sDu (sMo (aR g K (wA w 0 47 ((w.1 0 47) + (1 : Int32)))) 0) true) = true from rfl)]
      rfl
end MPM
