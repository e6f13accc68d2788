/-! the reference: a whole item -/
section MIV
variable {bz : Bool} {g : GM} {n : Int} {K : TK} {e : PE} {v u w A O Z T : MS} {t : Bool} {r pa pb nm sz rw9 c f9 : Int32} {S : FS} {k N cc : Nat} {m : Int} {x : IS} {W : Nat → Int32} {y : List FN × List GN} {s : PS}
theorem bgF : tBegF s = mkP (pAt s) (pOp s) (pDu s) 0 0 0 (pMu s) (pDi s) (pLo s) (pOv s) (pWd s) 0 [] (pCa s) := rfl
theorem bBF : tBegF (tBegF s) = tBegF s := by
  rw [bgF (s := tBegF s), bgF (s := s)]
  rfl
theorem kbB : kb e (tBegF s) = kb e s := rfl
theorem vlB : vl e (tBegF s) = vl e s := rfl
theorem plB : pl e (tBegF s) = pl e s := rfl
theorem tFI (hl : x.2.1.length < 40) (hx : x.1 = tBegF s) : tFItem S K x = bd (tTake (mkE K x.2.2) s) fun s1 => bd (tFRest S (mkE K x.2.2) (tBegF s1)) fun q => .ok (tBegF q.1, x.2.1 ++ [(vl (mkE K x.2.2) s, pl (mkE K x.2.2) s, q.2.1, q.2.2.1, q.2.2.2)], x.2.2) := by
  unfold tFItem
  rw [if_neg (by omega), hx]
  unfold tFunc
  rw [bBF, nTake, bd_as, bd_as, vlB, plB]
  congr 1
theorem tGI (hx : x.1 = tBegF s) (hl : x.2.2.length < 60 ∨ ((kb (mkE K x.2.2) s).toInt ≠ 34 ∧ (kb (mkE K x.2.2) s).toInt ≠ 36)) : tGItem K x = bd (tTake (mkE K x.2.2) s) fun s1 => bd (if (kb (mkE K x.2.2) s).toInt = 34 then tRowN (mkE K x.2.2) s1 else .ok (1, s1)) fun q => bd (tExp 36 (mkE K x.2.2) q.2) fun s2 => .ok (tBegF s2, x.2.1, x.2.2 ++ [(vl (mkE K x.2.2) s, pl (mkE K x.2.2) s, q.1, if (kb (mkE K x.2.2) s).toInt = 34 then 1 else 0)]) := by
  unfold tGItem
  rw [hx, kbB, vlB, plB, if_neg (by rintro ⟨q1 | q1, q2⟩ <;> rcases hl with hl | hl <;> omega), nTake, bd_as]
  congr 1
  funext s1
  rw [bd_ok]
  by_cases q : (kb (mkE K x.2.2) s).toInt = 34
  · rw [if_pos q, if_pos q, nRow, bd_as, if_pos q]
    congr 1
    funext q2
    rw [bd_ok, nExp, bd_as]
    congr 1
  · rw [if_neg q, if_neg q, if_neg q, bd_ok, bd_ok]
    show bd (tExp 36 (mkE K x.2.2) (tBegF s1)) _ = bd (tExp 36 (mkE K x.2.2) s1) _
    rw [nExp, bd_as]
    congr 1
theorem kd2 (J : JG bz n K e v) : kd e (aR g K v) = 2 ↔ v.1 6 (v.1 0 47).toNatClampNeg = 2 := by rw [rKd J]; exact kM_2 (rTV J)
/-- the head: a name that is new -/
theorem rHd (I : RIq n K W v x) (hk : kd (mkE K x.2.2) (aR (false, []) K v) = 10) (h1 : Q_m_take v false (wA v 0 47 (v.1 0 47 + 1))) (k1 : K_m_take v (wA v 0 47 (v.1 0 47 + 1))) (h2 : (v.1 6 (v.1 0 47 + 1).toNatClampNeg).toInt = 2) :
    JG false n K (mkE K x.2.2) (wA v 0 47 (v.1 0 47 + 1)) ∧ kd (mkE K x.2.2) (aR (false, []) K (wA v 0 47 (v.1 0 47 + 1))) = 2 ∧ RIq n K W (wA v 0 47 (v.1 0 47 + 1)) (tBegF (aR (false, []) K (wA v 0 47 (v.1 0 47 + 1))), x.2) ∧ tHead K x = (if fnm x.2.1 (K.2.1 (v.1 0 47 + 1)) ≠ none ∨ gfd (mkE K x.2.2) (K.2.1 (v.1 0 47 + 1)) ≠ none then .error (3, v.1 7 (v.1 0 47 + 1).toNatClampNeg) else .ok (tBegF (aR (false, []) K (wA v 0 47 (v.1 0 47 + 1))), x.2)) := by
  have J := I.1
  have T1 := rTake (g := (false, [])) h1 J (by rw [hk]; decide)
  have J1 := T1.jj
  have e1 : (v.1 0 47 + 1).toInt = (v.1 0 47).toInt + 1 := add_z rfl (by decide) (by have := J.2.2.2.1; omega) (by omega)
  have hk2 : kd (mkE K x.2.2) (aR (false, []) K (wA v 0 47 (v.1 0 47 + 1))) = 2 := (kd2 J1).mpr (Int32.toInt_inj.mp h2)
  refine ⟨J1, hk2, I.mv J1 rfl (fun a ha => if_neg (fun q => by rw [q] at ha; revert ha; decide)) (fun i hi => updN_ (fun q => by rw [q] at hi; revert hi; decide)) (show (v.1 0 49).toInt < (v.1 0 47 + 1).toInt by have := J.2.2.2.1; omega), ?_⟩
  rw [hd_eq (g := (false, [])) I.2.1]
  unfold tExp
  have n10 : tNeed 10 (mkE K x.2.2) (aR (false, []) K v) = .ok (aR (false, []) K v) := by
    unfold tNeed
    rw [if_pos (by rw [hk]; decide)]
  have n2 : tNeed 2 (mkE K x.2.2) (aR (false, []) K (wA v 0 47 (v.1 0 47 + 1))) = .ok (aR (false, []) K (wA v 0 47 (v.1 0 47 + 1))) := by
    unfold tNeed
    rw [if_pos (by rw [hk2]; decide)]
  rw [n10, bd_ok, T1.eo, bd_ok, n2, bd_ok, rVl J1, rPl J1]
  rfl
set_option maxHeartbeats 1600000 in
theorem rFn (hS : HMS n K (QMS 40) S) (I : RIq n K W A (tBegF (aR (false, []) K A), y)) (hk : kd (mkE K y.2) (aR (false, []) K A) = 2) (hb : (kb (mkE K y.2) (aR (false, []) K A)).toInt = 30) (h22 : (A.1 0 22).toInt < 40) (hnf : ∀ j : Nat, j < nFm A → K.2.1 (A.1 16 j) ≠ K.2.1 (A.1 0 47))
    (h : (Q_m_take A true u ∧ t = true) ∨ (Q_m_take A false (wA A 0 47 (A.1 0 47 + 1)) ∧ K_m_take A (wA A 0 47 (A.1 0 47 + 1)) ∧ Q_m_function0 (wA A 0 47 (A.1 0 47 + 1)) (A.1 0 47) t u ∧ (t = false → K_m_function0 (wA A 0 47 (A.1 0 47 + 1)) (A.1 0 47) u))) :
    (t = false ∧ ∃ W' x', tFItem S K (tBegF (aR (false, []) K A), y) = .ok x' ∧ RIq n K W' u x') ∨ (t = true ∧ tFItem S K (tBegF (aR (false, []) K A), y) = .error (u.1 0 50, u.1 0 51)) := by
  have J := I.1
  have len : y.1.length = nFm A := by
    have q : y.1 = fsM K W A := I.2.2.1
    rw [q]
    unfold fsM
    rw [List.length_map, List.length_range]
  have nz : ((nFm A : Nat) : Int) = (A.1 0 22).toInt := natI I.2.2.2.2.1.1.1
  rw [tFI (s := aR (false, []) K A) (by show y.1.length < 40; omega) rfl]
  rcases h with ⟨h, rfl⟩ | ⟨h1, k1, h, hK⟩
  · exact Or.inr ⟨rfl, by rw [(rTake (g := (false, [])) h J (by rw [hk]; decide)).er, bd_er]⟩
  have T1 := rTake (g := (false, [])) h1 J (by rw [hk]; decide)
  have J1 := T1.jj
  have e1 : (A.1 0 47 + 1).toInt = (A.1 0 47).toInt + 1 := add_z rfl (by decide) (by have := J.2.2.2.1; omega) (by omega)
  have I1 := I.mv J1 rfl (fun a ha => if_neg (fun q => by rw [q] at ha; revert ha; decide)) (fun i hi => updN_ (fun q => by rw [q] at hi; revert hi; decide)) (show (A.1 0 49).toInt < (A.1 0 47 + 1).toInt by have := J.2.2.2.1; omega)
  rw [T1.eo, bd_ok]
  have F := rFun0 hS h J1 (by rw [kb_aR (g := (false, [])) (v := A) rfl]; exact hb)
  rcases F with ⟨rfl, c, f9, F1, F2, F3, F4⟩ | ⟨rfl, F1⟩
  · have kk := (hK rfl).1
    have nt := rNT J hk
    refine Or.inl ⟨rfl, upW W (nFm (wA A 0 47 (A.1 0 47 + 1))) (pWd (aR (false, []) K (wA A 0 47 (A.1 0 47 + 1)))), _, by rw [F1, bd_ok], ?_⟩
    have R := fEnd I1 h22 nt hnf F2.wk F3 F4 kk.1 (kk.2.2 6 (by decide)) (kk.2.2 10 (by decide))
    rw [rVl J]
    have ep : pl (mkE K y.2) (aR (false, []) K A) = K.2.2 (A.1 0 47) := rfl
    rw [ep]
    exact R
  · exact Or.inr ⟨rfl, by rw [F1, bd_er]⟩
end MIV
