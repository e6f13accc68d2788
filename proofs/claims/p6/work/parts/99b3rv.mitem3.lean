/-! the reference: an item, all roads -/
section MIW9
variable {bz : Bool} {g : GM} {n : Int} {K : TK} {e : PE} {v u w A O Z T : MS} {t : Bool} {r pa pb nm sz rw9 c f9 : Int32} {S : FS} {k N cc : Nat} {m : Int} {x : IS} {W : Nat → Int32} {y : List FN × List GN} {s : PS}
theorem tExp_n {m : Int} (h : (kd e s).toInt = m) : tExp m e s = tTake e s := by
  unfold tExp tNeed
  rw [if_pos h, bd_ok]
theorem tExp_b {m : Int} (h : (kd e s).toInt ≠ m) : tExp m e s = tBad e s := by
  unfold tExp tNeed
  rw [if_neg h]
  unfold tBad
  exact bd_er
theorem tNeed_b {m : Int} (h : (kd e s).toInt ≠ m) : tNeed m e s = tBad e s := by
  unfold tNeed
  rw [if_neg h]
theorem nar0 {r : Int32} (h : r.toInt = 0) : vp_nar .boolean r = 0 := by rw [Int32.toInt_inj.mp (show r.toInt = (0 : Int32).toInt from h)]; rfl
theorem nar1 : vp_nar .boolean (1 : Int32) = 1 := by decide
theorem clo1 {x : PX PS} {y : PS} {z : Int32} (h : bd x (fun s => .ok (tClose s)) = .ok y) : bd x (fun s => (.ok (z, tClose s) : PX (Int32 × PS))) = .ok (z, y) := by
  cases x with
  | error f => cases h
  | ok a =>
    rw [bd_ok] at h ⊢
    rw [Except.ok.inj h]
theorem clo2 {x : PX PS} {f : Flt} {z : Int32} (h : bd x (fun s => .ok (tClose s)) = .error f) : bd x (fun s => (.ok (z, tClose s) : PX (Int32 × PS))) = .error f := by
  cases x with
  | error f => rw [bd_er] at h ⊢; rw [Except.error.inj h]
  | ok a => cases h
set_option maxHeartbeats 6400000 in
theorem rItem (hS : HMS n K (QMS 40) S) (h : Q_m_item v t u) (I : RIq n K W v x) : (t = false ∧ ∃ W' x', tItem S K x = .ok x' ∧ RIq n K W' u x') ∨ (t = true ∧ tItem S K x = .error (u.1 0 50, u.1 0 51)) := by
  obtain ⟨-, -, -, -, -, -, -, -, -, r3, h1, -, h⟩ := h
  have J := I.1
  have i3 := rIsKey (g := (false, [])) h1 J (pa := 0) (by decide)
  unfold tItem
  rcases h with ⟨c3, h⟩ | ⟨c3, u221, hb, -, rfl, rfl⟩
  rotate_left
  · refine Or.inr ⟨rfl, ?_⟩
    have nk : (kd (mkE K x.2.2) (aR (false, []) K v)).toInt ≠ 10 := fun q => i3.mpr (Int32.toInt_inj.mp q) c3
    rw [hd_eq (g := (false, [])) I.2.1, tExp_b nk, rBad hb J, bd_er, bd_er]
  have hk : kd (mkE K x.2.2) (aR (false, []) K v) = 10 := i3.mp c3
  rcases h with ⟨u9, h1, rfl, rfl⟩ | ⟨h1, k1, h⟩
  · refine Or.inr ⟨rfl, ?_⟩
    rw [hd_eq (g := (false, [])) I.2.1, tExp_n (by rw [hk]; decide), (rTake (g := (false, [])) h1 J (by rw [hk]; decide)).er, bd_er, bd_er]
  rcases h with ⟨c2, h⟩ | ⟨c2, u217, hb, -, rfl, rfl⟩
  rotate_left
  · refine Or.inr ⟨rfl, ?_⟩
    have T1 := rTake (g := (false, [])) h1 J (by rw [hk]; decide)
    have nk : (kd (mkE K x.2.2) (aR (false, []) K (wA v 0 47 (v.1 0 47 + 1)))).toInt ≠ 2 := fun q => c2 (congrArg Int32.toInt ((kd2 T1.jj).mp (Int32.toInt_inj.mp q)))
    rw [hd_eq (g := (false, [])) I.2.1, tExp_n (by rw [hk]; decide), T1.eo, bd_ok, tNeed_b nk, rBad hb T1.jj, bd_er, bd_er]
  obtain ⟨J1, hk2, I1, HD⟩ := rHd I hk h1 k1 c2
  have nt := rNT J1 hk2
  have J4 := J.2.2.2.1
  have J14 := J1.2.2.2.1
  have e1 : (v.1 0 47 + 1).toInt = (v.1 0 47).toInt + 1 := add_z rfl (by decide) (by omega) (by omega)
  obtain ⟨r14, hg, -, h⟩ := h
  have G := rGlobal hg J1 nt
  rw [HD]
  have nt9 : NT n K (v.1 0 47 + 1) := nt
  clear nt
  have G : (r14.toInt < 0 ∧ gfd (mkE K x.2.2) (K.2.1 (v.1 0 47 + 1)) = none) ∨ (0 ≤ r14.toInt ∧ _ ∧ gfd (mkE K x.2.2) (K.2.1 (v.1 0 47 + 1)) = some _) := G
  rcases h with ⟨c14, rfl, rfl⟩ | ⟨c14, r24, hf, -, h⟩
  · refine Or.inr ⟨rfl, ?_⟩
    rcases G with ⟨q, -⟩ | ⟨-, -, q⟩
    · omega
    rw [if_pos (Or.inr (by rw [q]; exact fun z => nomatch z)), bd_er]
    rfl
  have gf : gfd (mkE K x.2.2) (K.2.1 (v.1 0 47 + 1)) = none := by
    rcases G with ⟨-, q⟩ | ⟨q, -⟩
    · exact q
    · omega
  have Fo := rFunOf (W := W) hf J1 I1.2.2.2.2.2.1 nt9
  have e2 : fsM K W (wA v 0 47 (v.1 0 47 + 1)) = x.2.1 := I1.2.2.1.symm
  rw [e2] at Fo
  rcases h with ⟨c24, r30, hs, -, w143, hj, fr, -, h⟩ | ⟨c24, rfl, rfl⟩
  rotate_left
  · refine Or.inr ⟨rfl, ?_⟩
    rcases Fo with ⟨q, -⟩ | ⟨-, -, q⟩
    · omega
    rw [if_pos (Or.inl (by rw [q]; exact fun z => nomatch z)), bd_er]
    rfl
  have Fn : (∀ j : Nat, j < nFm (wA v 0 47 (v.1 0 47 + 1)) → K.2.1 ((wA v 0 47 (v.1 0 47 + 1)).1 16 j) ≠ K.2.1 (v.1 0 47 + 1)) ∧ fnm x.2.1 (K.2.1 (v.1 0 47 + 1)) = none := by
    rcases Fo with ⟨-, q⟩ | ⟨q, -⟩
    · exact q
    · omega
  rw [if_neg (by rw [gf, Fn.2]; rintro (q | q) <;> exact q rfl), bd_ok]
  have le5 : (v.1 0 47 + 1).toInt ≤ 1500 := by omega
  have B30 := (rKb (g := (false, [])) (v := wA v 0 47 (v.1 0 47 + 1)) (sg2 hs) J1 le5 (by rw [hk2]; decide) (q := (40, 30)) (by decide) rfl).1
  have hb22 : 0 ≤ (v.1 0 22).toInt ∧ (v.1 0 22).toInt ≤ 40 := I.2.2.2.2.1.1
  have hb27 : 0 ≤ (v.1 0 27).toInt ∧ (v.1 0 27).toInt ≤ 60 := I.2.2.2.2.1.2
  have ln1 : (x.2.1.length : Int) = (v.1 0 22).toInt := by
    rw [I.2.2.1]
    unfold fsM
    rw [List.length_map, List.length_range]
    exact natI hb22.1
  have ln2 : (x.2.2.length : Int) = (v.1 0 27).toInt := by
    rw [I.2.2.2.1]
    unfold gsM
    rw [List.length_map, List.length_range]
    exact natI hb27.1
  show (t = false ∧ ∃ W' x', (if (kb (mkE K x.2.2) (tBegF (aR (false, []) K (wA v 0 47 (v.1 0 47 + 1))))).toInt = 30 then tFItem S K (tBegF (aR (false, []) K (wA v 0 47 (v.1 0 47 + 1))), x.2) else tGItem K (tBegF (aR (false, []) K (wA v 0 47 (v.1 0 47 + 1))), x.2)) = .ok x' ∧ RIq n K W' u x') ∨ (t = true ∧ (if (kb (mkE K x.2.2) (tBegF (aR (false, []) K (wA v 0 47 (v.1 0 47 + 1))))).toInt = 30 then tFItem S K (tBegF (aR (false, []) K (wA v 0 47 (v.1 0 47 + 1))), x.2) else tGItem K (tBegF (aR (false, []) K (wA v 0 47 (v.1 0 47 + 1))), x.2)) = .error (u.1 0 50, u.1 0 51))
  rw [kbB]
  unfold Q_m_item_J0 at hj
  generalize hA : wA v 0 47 (v.1 0 47 + 1) = A at *
  have E7 : A.1 0 47 = v.1 0 47 + 1 := by rw [← hA]; rfl
  have nt : NT n K (A.1 0 47) := by rw [E7]; exact nt9
  have E22 : A.1 0 22 = v.1 0 22 := by rw [← hA]; rfl
  have E27 : A.1 0 27 = v.1 0 27 := by rw [← hA]; rfl
  have i22 := congrArg Int32.toInt E22
  have i27 := congrArg Int32.toInt E27
  rw [← E7] at hj Fn gf hs le5
  rw [← E22] at hb22 ln1
  rw [← E27] at hb27 ln2
  by_cases c30 : r30.toInt = 0
  · have n30 : ¬ (kb (mkE K x.2.2) (aR (false, []) K A)).toInt = 30 := fun q => B30.mpr (Int32.toInt_inj.mp q) c30
    rw [if_neg n30]
    have WJ : (w143 = A ∧ (x.2.2.length < 60 ∨ ((kb (mkE K x.2.2) (aR (false, []) K A)).toInt ≠ 34 ∧ (kb (mkE K x.2.2) (aR (false, []) K A)).toInt ≠ 36))) ∨ (w143 = wA A 0 49 (A.1 0 47) ∧ (((kb (mkE K x.2.2) (aR (false, []) K A)).toInt = 34 ∨ (kb (mkE K x.2.2) (aR (false, []) K A)).toInt = 36) ∧ 60 ≤ x.2.2.length)) := by
      rcases hj with ⟨-, hj⟩ | ⟨q, -⟩
      rotate_left
      · exact absurd c30 q
      rcases hj with ⟨q, rfl⟩ | ⟨q, r196, h6, -, hj⟩
      · exact Or.inl ⟨rfl, Or.inl (by omega)⟩
      have B6 := (rKb (g := (false, [])) (sg2 h6) J1 le5 (by rw [hk2]; decide) (q := (91, 34)) (by decide) rfl).1
      rcases hj with ⟨c6, rfl⟩ | ⟨c6, r203, h3, -, hj⟩
      · exact Or.inr ⟨rfl, Or.inl (by rw [B6.mp c6]; decide), by omega⟩
      have B3 := (rKb (g := (false, [])) (sg2 h3) J1 le5 (by rw [hk2]; decide) (q := (59, 36)) (by decide) rfl).1
      rcases hj with ⟨c7, rfl⟩ | ⟨c7, rfl⟩
      · exact Or.inl ⟨rfl, Or.inr ⟨fun z => B6.mpr (Int32.toInt_inj.mp z) c6, fun z => B3.mpr (Int32.toInt_inj.mp z) c7⟩⟩
      · exact Or.inr ⟨rfl, Or.inr (by rw [B3.mp c7]; decide), by omega⟩
    rcases WJ with ⟨rfl, hl⟩ | ⟨rfl, hl⟩
    rotate_left
    · have D := fun {t : Bool} {u : MS} (h : Q_m_take (wA A 0 49 (A.1 0 47)) t u) => rDueT (g := (false, [])) J1 (by rw [hk2]; decide) h
      rcases h with ⟨u9, h, rfl, rfl⟩ | ⟨h, -⟩
      · refine Or.inr ⟨rfl, ?_⟩
        unfold tGItem
        rw [kbB, plB, if_pos hl, (D h).2]
      · exact absurd (D h).1 Bool.false_ne_true
    rcases h with ⟨u9, h, rfl, rfl⟩ | ⟨h1, k1, h⟩
    · refine Or.inr ⟨rfl, ?_⟩
      rw [tGI (x := (tBegF (aR (false, []) K w143), x.2)) (s := aR (false, []) K w143) rfl hl, (rTake (g := (false, [])) h J1 (by rw [hk2]; decide)).er, bd_er]
    rcases h with ⟨-, r40, h40, k40, h⟩ | ⟨q, -⟩
    rotate_left
    · exact absurd c30 q
    have T1 := rTake (g := (false, [])) h1 J1 (by rw [hk2]; decide)
    have JT := T1.jj
    have e2 : (w143.1 0 47 + 1).toInt = (w143.1 0 47).toInt + 1 := add_z rfl (by decide) (by omega) (by omega)
    have IT := I1.mv JT rfl (fun a ha => if_neg (fun q => by rw [q] at ha; revert ha; decide)) (fun i hi => updN_ (fun q => by rw [q] at hi; revert hi; decide)) (show (w143.1 0 49).toInt < (w143.1 0 47 + 1).toInt by omega)
    rw [tGI (x := (tBegF (aR (false, []) K w143), x.2)) (s := aR (false, []) K w143) rfl hl, T1.eo, bd_ok]
    have kbT : kd (mkE K x.2.2) (aR (false, []) K (wA w143 0 47 (w143.1 0 47 + 1))) = kb (mkE K x.2.2) (aR (false, []) K w143) := kb_aR rfl
    have i40 := rIs (g := (false, [])) (is2 h40) JT (q := (91, 34)) (by decide) rfl
    rw [kbT] at i40
    have ev : vl (mkE K x.2.2) (aR (false, []) K w143) = K.2.1 (w143.1 0 47) := rVl J1
    have ep : pl (mkE K x.2.2) (aR (false, []) K w143) = K.2.2 (w143.1 0 47) := rfl
    rw [ev, ep]
    rcases h with ⟨c40, h⟩ | ⟨c40, h⟩
    · have n34 : ¬ (kb (mkE K x.2.2) (aR (false, []) K w143)).toInt = 34 := fun q => i40.mpr (Int32.toInt_inj.mp q) c40
      rw [if_neg n34, if_neg n34, bd_ok]
      rcases h with ⟨u9, hn, rfl, rfl⟩ | ⟨hn, kn, rfl, hu⟩
      · refine Or.inr ⟨rfl, ?_⟩
        have N := rNeed (g := (false, [])) (ne2 hn) JT (q := (59, 36)) (m := 36) (by decide) rfl (by decide)
        show bd (tExp 36 (mkE K x.2.2) (aR (false, []) K (wA w143 0 47 (w143.1 0 47 + 1)))) _ = _
        rw [N.er, bd_er]
      · have N := rNeed (g := (false, [])) (ne2 hn) JT (q := (59, 36)) (m := 36) (by decide) rfl (by decide)
        have JN := N.jj
        have k36 : (kb (mkE K x.2.2) (aR (false, []) K w143)).toInt = 36 := by
          by_cases q : (kd (mkE K x.2.2) (aR (false, []) K (wA w143 0 47 (w143.1 0 47 + 1)))).toInt = 36
          · rw [kbT] at q; exact q
          · have := N.eo
            rw [tExp_b q] at this
            cases this
        have h27 : (w143.1 0 27).toInt < 60 := by
          rcases hl with hl | hl
          · omega
          · exact absurd k36 hl.2
        have k15 : (w143.1 0 47 + 1).toInt < 1500 := kn.1
        have e3 : (w143.1 0 47 + 1 + 1).toInt = (w143.1 0 47 + 1).toInt + 1 := add_z rfl (by decide) (by omega) (by omega)
        have IN := IT.mv JN rfl (fun a ha => if_neg (fun q => by rw [q] at ha; revert ha; decide)) (fun i hi => updN_ (fun q => by rw [q] at hi; revert hi; decide)) (show (w143.1 0 49).toInt < (w143.1 0 47 + 1 + 1).toInt by omega)
        have R := gEnd (sz := 1) IN h27 nt gf (Or.inl rfl)
        have eu : u = gW (wA (wA w143 0 47 (w143.1 0 47 + 1)) 0 47 (w143.1 0 47 + 1 + 1)) (w143.1 0 47) 1 0 := by
          rw [hu, nar0 c40]
          rfl
        refine Or.inl ⟨rfl, W, (_, _, _), ?_, by rw [eu]; exact R⟩
        show bd (tExp 36 (mkE K x.2.2) (aR (false, []) K (wA w143 0 47 (w143.1 0 47 + 1)))) _ = _
        rw [N.eo, bd_ok]
    have k34 : (kb (mkE K x.2.2) (aR (false, []) K w143)).toInt = 34 := by rw [i40.mp c40]; decide
    have r40e : r40 = 1 := by
      rcases k40.1 with q | q
      · rw [q] at c40; exact absurd (show (0 : Int32).toInt = 0 by decide) c40
      · exact q
    rw [if_pos k34, if_pos k34]
    have kT2 : 2 ≤ (kd (mkE K x.2.2) (aR (false, []) K (wA w143 0 47 (w143.1 0 47 + 1)))).toInt := by rw [kbT]; omega
    rcases h with ⟨u9, ho, rfl, rfl⟩ | ⟨ho, ko, h⟩
    · refine Or.inr ⟨rfl, ?_⟩
      unfold tRowN
      rw [(rOpens (g := (false, [])) ho JT kT2).er, bd_er, bd_er]
    have h27 : (w143.1 0 27).toInt < 60 := by
      rcases hl with hl | hl
      · omega
      · exact absurd k34 hl.1
    have OO := rOpens (g := (false, [])) ho JT kT2
    have eo := OO.eo
    have JO := OO.jj
    have k15 : (w143.1 0 47 + 1).toInt < 1500 := ko.1
    have e3 : (w143.1 0 47 + 1 + 1).toInt = (w143.1 0 47 + 1).toInt + 1 := add_z rfl (by decide) (by omega) (by omega)
    have IZ := IT.mv JO rfl (fun a ha => by
      have q0 : a ≠ 0 := fun q => by rw [q] at ha; revert ha; decide
      exact (if_neg q0).trans (if_neg q0)) (fun i hi => by
      have q8 : i ≠ 48 := fun q => by rw [q] at hi; revert hi; decide
      have q7 : i ≠ 47 := fun q => by rw [q] at hi; revert hi; decide
      exact (updN_ q8).trans (updN_ q7)) (show (w143.1 0 49).toInt < (w143.1 0 47 + 1 + 1).toInt by omega)
    have VO := IZ.2.2.2.2.2.2.2.2.1
    have sub : ∀ {t : Bool} {u : MS}, (Q_m_take (wA (wA (wA (wA w143 0 47 (w143.1 0 47 + 1)) 0 47 (w143.1 0 47 + 1 + 1)) 0 48 (w143.1 0 48 + 1)) 0 49 (w143.1 0 47 + 1 + 1)) t u) → (w143.1 6 (w143.1 0 47 + 1 + 1).toNatClampNeg).toInt = 4 → t = true ∧ ((5 : Int32), pl (mkE K x.2.2) (aR (false, []) K (wA (wA (wA w143 0 47 (w143.1 0 47 + 1)) 0 47 (w143.1 0 47 + 1 + 1)) 0 48 (w143.1 0 48 + 1)))) = (u.1 0 50, u.1 0 51) := by
      intro t u h c
      have k4 := (kM_34 (d := (wA (wA (wA w143 0 47 (w143.1 0 47 + 1)) 0 47 (w143.1 0 47 + 1 + 1)) 0 48 (w143.1 0 48 + 1)).1 10 ((wA (wA (wA w143 0 47 (w143.1 0 47 + 1)) 0 47 (w143.1 0 47 + 1 + 1)) 0 48 (w143.1 0 48 + 1)).1 0 47).toNatClampNeg) (rTV JO)).mpr (Int32.toInt_inj.mp c)
      rw [← rKd (g := (false, [])) JO] at k4
      exact rDueT (g := (false, [])) JO (by omega) h
    rcases h with ⟨c4, h⟩ | ⟨c4, u174, hb, -, rfl, rfl⟩
    rotate_left
    · refine Or.inr ⟨rfl, ?_⟩
      rw [rRowB (g := (false, [])) JO eo (fun q => c4 (congrArg Int32.toInt q)) hb, bd_er]
    have c4' := Int32.toInt_inj.mp (show (w143.1 6 (w143.1 0 47 + 1 + 1).toNatClampNeg).toInt = (4 : Int32).toInt from c4)
    rcases h with ⟨c5, h⟩ | ⟨c5, h⟩
    · have hv : (w143.2 (w143.1 0 47 + 1 + 1).toNatClampNeg).toInt < 1 := by
        have q1 : ¬ 0 < (lg_cmp (w143.2 (w143.1 0 47 + 1 + 1).toNatClampNeg) 1).toInt := by omega
        have q2 : ¬ (lg_cmp (w143.2 (w143.1 0 47 + 1 + 1).toNatClampNeg) 1).toInt = 0 := by omega
        rw [lg_pos] at q1
        rw [lg0] at q2
        have q3 : (w143.2 (w143.1 0 47 + 1 + 1).toNatClampNeg).toInt ≠ (1 : Int64).toInt := fun z => q2 (Int64.toInt_inj.mp z)
        have : (1 : Int64).toInt = 1 := by decide
        omega
      have RD := rRowD (g := (false, [])) JO VO eo c4' (Or.inl hv)
      rcases h with ⟨u9, h, rfl, rfl⟩ | ⟨h, -⟩
      · refine Or.inr ⟨rfl, ?_⟩
        rw [RD, bd_er, (sub h c4).2]
      · exact absurd (sub h c4).1 Bool.false_ne_true
    have v1 : 1 ≤ (w143.2 (w143.1 0 47 + 1 + 1).toNatClampNeg).toInt := lgc_lt c5
    rcases h with ⟨c6, h⟩ | ⟨c6, h⟩
    rotate_left
    · have hv : 1000 < (w143.2 (w143.1 0 47 + 1 + 1).toNatClampNeg).toInt := lgc_lt9 c6
      have RD := rRowD (g := (false, [])) JO VO eo c4' (Or.inr hv)
      rcases h with ⟨u9, h, rfl, rfl⟩ | ⟨h, -⟩
      · refine Or.inr ⟨rfl, ?_⟩
        rw [RD, bd_er, (sub h c4).2]
      · exact absurd (sub h c4).1 Bool.false_ne_true
    have v2 : (w143.2 (w143.1 0 47 + 1 + 1).toNatClampNeg).toInt ≤ 1000 := lgc_gt c6
    have RG := rRowG (g := (false, [])) JO VO eo c4' ⟨v1, v2⟩
    have k4 := (kM_34 (d := (wA (wA (wA w143 0 47 (w143.1 0 47 + 1)) 0 47 (w143.1 0 47 + 1 + 1)) 0 48 (w143.1 0 48 + 1)).1 10 ((wA (wA (wA w143 0 47 (w143.1 0 47 + 1)) 0 47 (w143.1 0 47 + 1 + 1)) 0 48 (w143.1 0 48 + 1)).1 0 47).toNatClampNeg) (rTV JO)).mpr c4'
    rw [← rKd (g := (false, [])) JO] at k4
    rw [RG]
    rcases h with ⟨u9, ht, rfl, rfl⟩ | ⟨ht, kt, h⟩
    · refine Or.inr ⟨rfl, ?_⟩
      rw [(rTake (g := (false, [])) ht JO (by omega)).er, bd_er, bd_er]
    have TT := rTake (g := (false, [])) ht JO (by omega)
    rw [TT.eo, bd_ok]
    have JP := TT.jj
    rcases h with ⟨u9, hc, rfl, rfl⟩ | ⟨hc, kc, h⟩
    · have CC := rClose (g := (false, [])) hc JP (q := (93, 35)) (m := 35) (by decide) rfl (by decide)
      refine Or.inr ⟨rfl, ?_⟩
      rw [clo2 CC.er, bd_er]
    have CC := rClose (g := (false, [])) hc JP (q := (93, 35)) (m := 35) (by decide) rfl (by decide)
    have JC := CC.jj
    rw [clo1 CC.eo, bd_ok]
    rcases h with ⟨u9, hn, rfl, rfl⟩ | ⟨hn, kn, u118, h118, rfl, hu⟩
    · have N := rNeed (g := (false, [])) (ne2 hn) JC (q := (59, 36)) (m := 36) (by decide) rfl (by decide)
      refine Or.inr ⟨rfl, ?_⟩
      rw [N.er, bd_er]
    · have N := rNeed (g := (false, [])) (ne2 hn) JC (q := (59, 36)) (m := 36) (by decide) rfl (by decide)
      have JN := N.jj
      have IN := IT.mv JN rfl (fun a ha => by
        have q0 : a ≠ 0 := fun q => by rw [q] at ha; revert ha; decide
        exact (if_neg q0).trans ((if_neg q0).trans ((if_neg q0).trans ((if_neg q0).trans ((if_neg q0).trans (if_neg q0)))))) (fun i hi => by
        have q8 : i ≠ 48 := fun q => by rw [q] at hi; revert hi; decide
        have q7 : i ≠ 47 := fun q => by rw [q] at hi; revert hi; decide
        exact (updN_ q7).trans ((updN_ q8).trans ((updN_ q7).trans ((updN_ q7).trans ((updN_ q8).trans (updN_ q7)))))) (by
        have z1 := JC.2.2.2.1.1
        have z2 := kn.1
        have z3 : (w143.1 0 47 + 1 + 1 + 1).toInt = (w143.1 0 47 + 1 + 1).toInt + 1 := add_z rfl (by decide) (by have := kt.1; have : (w143.1 0 47 + 1 + 1).toInt < 1500 := this; omega) (by have := kt.1; have : (w143.1 0 47 + 1 + 1).toInt < 1500 := this; omega)
        have z4 : (w143.1 0 47 + 1 + 1 + 1 + 1 + 1).toInt = (w143.1 0 47 + 1 + 1 + 1 + 1).toInt + 1 := add_z rfl (by decide) (by have : (0 : Int) ≤ (w143.1 0 47 + 1 + 1 + 1 + 1).toInt := JC.2.2.2.1.2.1; omega) (by have : (w143.1 0 47 + 1 + 1 + 1 + 1).toInt < 1500 := z2; omega)
        have z1 : (w143.1 0 49).toInt ≤ (w143.1 0 47 + 1 + 1 + 1 + 1).toInt := z1
        show (w143.1 0 49).toInt < (w143.1 0 47 + 1 + 1 + 1 + 1 + 1).toInt
        omega)
      have R := gEnd (sz := (w143.2 (w143.1 0 47 + 1 + 1).toNatClampNeg).toInt32) IN h27 nt gf (Or.inr rfl)
      rw [r40e, nar1, h118] at hu
      refine Or.inl ⟨rfl, W, (_, _, _), ?_, by rw [hu]; exact R⟩
      rw [N.eo, bd_ok]
      rfl
  · have k30 : (kb (mkE K x.2.2) (aR (false, []) K A)).toInt = 30 := by rw [B30.mp c30]; decide
    rw [if_pos k30]
    rcases hj with ⟨q, -⟩ | ⟨-, hj⟩
    · exact absurd q c30
    rcases hj with ⟨q, rfl⟩ | ⟨q, rfl⟩
    · refine rFn hS I1 hk2 k30 (by omega) Fn.1 ?_
      rcases h with ⟨u9, h, rfl, rfl⟩ | ⟨h1, k1, h⟩
      · exact Or.inl ⟨h, rfl⟩
      · refine Or.inr ⟨h1, k1, ?_⟩
        rcases h with ⟨q, -⟩ | ⟨-, h⟩
        · exact absurd q c30
        rcases h with ⟨u9, h, rfl, rfl⟩ | ⟨u186, h, hK, rfl, rfl⟩
        · exact ⟨h, fun q => nomatch q⟩
        · exact ⟨h, fun _ => hK⟩
    · have D := fun {t : Bool} {u : MS} (h : Q_m_take (wA A 0 49 (A.1 0 47)) t u) => rDueT (g := (false, [])) J1 (by rw [hk2]; decide) h
      rcases h with ⟨u9, h, rfl, rfl⟩ | ⟨h, -⟩
      · refine Or.inr ⟨rfl, ?_⟩
        unfold tFItem
        rw [plB, if_pos (show 40 ≤ x.2.1.length by omega), (D h).2]
      · exact absurd (D h).1 Bool.false_ne_true
end MIW9
