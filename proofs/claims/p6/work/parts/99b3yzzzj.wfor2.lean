/-! the reference's words: for, both forms -/
section ZZJ
variable {n : Int} {K : TK} {e : PE} {v u w x y X G G1 W ub w0 : MS} {a b d a0 cc ca st hl : List EV} {q : EV} {r pa pb pd o zv zn T A bk tp : Int32} {c : RM1} {E : EvE} {S : EvS} {Es : FE} {Ss : FS} {k : Nat} {cl cl' m : Int} {g : Bool × Int32 × Bool} {p : Nat} {Bd Cd : D3}
set_option maxHeartbeats 3200000 in
theorem oForW (hX : XWe n K (QME k) E) (hE : HME n K (QME k) Es) (hS : XWs n K c S) (hSs : HMS n K c Ss) (h : Q_m_counting k c v false u) (J : JM n K e v) (hk : 2 ≤ (e.1 (v.1 0 47)).toInt) : ∃ a, gFor E S e (knM K v) (v.1 0 32) (v.1 0 47 + 1) = some (a, knM K u, u.1 0 47) ∧ SOw n K e v u a := by
  have JU := (rFor (g := gLq v) hE hSs h J rfl hk).jj
  obtain ⟨z1, z2, z3, z4, z5, z6, z15, z8, z9, z10, z11, z12, z13, z14, h⟩ := h
  rcases h with ⟨u9, -, f9, -⟩ | ⟨h1, k1, ⟨u9, -, f9, -⟩ | ⟨h2, k2, h⟩⟩
  · cases f9
  · cases f9
  have JO := (rOpens (g := g00) h1 J hk).jj
  have O1 := oOpen (q := (40, 30)) (m := 30) h2 JO (by decide) rfl (by decide)
  have t30 : gTok e 30 (v.1 0 47 + 1) = some (v.1 0 47 + 1 + 1) := if_pos O1.2
  have l1 := k1.1
  have i1 : (v.1 0 47 + 1).toInt = (v.1 0 47).toInt + 1 := add_z rfl (by decide) (by omega) (by omega)
  have l2 := k2.1
  have l2 : (v.1 0 47 + 1).toInt < 1500 := by
    have : ((wA (wA v 0 47 ((v.1 0 47) + (1 : Int32))) 0 48 ((v.1 0 48) + (1 : Int32))).1 0 47).toInt < 1500 := l2
    exact this
  have i2 : (v.1 0 47 + 1 + 1).toInt = (v.1 0 47).toInt + 1 + 1 := by
    rw [← i1]
    exact add_z rfl (by decide) (by omega) (by omega)
  rcases h with ⟨w31, hj, f31, l31, n12, m31, -, -, -, -, h⟩ | ⟨r522, h3, -, c3, u9, h4, f9, -⟩
  rotate_left
  · cases f9
  obtain ⟨r522, h3, -, hj⟩ := hj
  obtain ⟨O, hO⟩ : ∃ O, O = (wA (wA (wA (wA v 0 47 ((v.1 0 47) + (1 : Int32))) 0 48 ((v.1 0 48) + (1 : Int32))) 0 47 (((v.1 0 47) + (1 : Int32)) + (1 : Int32))) 0 48 (((v.1 0 48) + (1 : Int32)) + (1 : Int32))) := ⟨_, rfl⟩
  rw [← hO] at h3 hj O1
  have o47 : O.1 0 47 = v.1 0 47 + 1 + 1 := by rw [hO]; rfl
  have o29 : O.1 29 = v.1 29 := by rw [hO]; rfl
  have o30 : O.1 0 30 = v.1 0 30 := by rw [hO]; rfl
  have o32 : O.1 0 32 = v.1 0 32 := by rw [hO]; rfl
  have kO : kpW v O := by rw [hO]; exact ⟨⟨rfl, rfl, rfl, rfl, rfl⟩, rfl, rfl, rfl⟩
  have AO : WAi K v O [] := by rw [hO]; exact WAi.sm rfl rfl
  have l31 : (v.1 0 47 + 1 + 1).toInt + 0 ≤ (w31.1 0 47).toInt ∧ (w31.1 0 47).toInt ≤ 1500 := l31
  obtain ⟨oa, x1, x2, J31, ⟨s29, s30, s32⟩, k31⟩ := oOptW (pa := 59) (q := (59, 36)) (m := 36) (y := w31) hX (by decide) rfl (by decide) O1.1 h3 (by
    rcases hj with hj | ⟨c3, u527, h4, k4, e4⟩
    · exact Or.inl hj
    · exact Or.inr ⟨c3, u527, h4, k4, e4⟩)
  rw [knM_of o29 o30, o32, o47] at x1
  have A31 : WAi K v w31 (dropE oa) := AO.tn x2
  have kn31 : knM K w31 = knM K v := (knM_of s29 s30).trans (knM_of o29 o30)
  rcases h with ⟨u9, -, f9, -⟩ | ⟨h5, k5, r30, h30, -, h⟩
  · cases f9
  have N5 := oNeed (q := (59, 36)) (m := 36) h5 J31 (by decide) rfl (by decide)
  have t36 : gTok e 36 (w31.1 0 47) = some (w31.1 0 47 + 1) := gTok_of N5.2
  have l5 := k5.1
  obtain ⟨T5, hT⟩ : ∃ T5, T5 = (wA (wA (wA (wA w31 0 47 ((w31.1 0 47) + (1 : Int32))) 13 ((w31.1 0 15).toNatClampNeg) (13 : Int32)) 14 ((w31.1 0 15).toNatClampNeg) (0 : Int32)) 0 15 ((w31.1 0 15) + (1 : Int32))) := ⟨_, rfl⟩
  have mT : EMS 0 (wA w31 0 47 ((w31.1 0 47) + (1 : Int32))) T5 := by rw [hT]; exact EMS.w0 (EMS.wa (EMS.wa EMS.rf (by decide)) (by decide)) (by decide)
  have J5 := mT.j N5.1
  rw [← hT] at h30
  have i30 : r30.toInt ≠ 0 ↔ e.1 (T5.1 0 47) = 36 := rIs (g := g00) h30 J5 (q := (59, 36)) (by decide) rfl
  have tt47 : T5.1 0 47 = w31.1 0 47 + 1 := by rw [hT]; rfl
  have tt29 : T5.1 29 = w31.1 29 := by rw [hT]; rfl
  have tt30 : T5.1 0 30 = w31.1 0 30 := by rw [hT]; rfl
  have tt32 : T5.1 0 32 = w31.1 0 32 := by rw [hT]; rfl
  have kT : kpW v T5 := (kO.tr k31).tr (by rw [hT]; exact ⟨⟨rfl, rfl, rfl, rfl, rfl⟩, rfl, rfl, rfl⟩)
  have AT : WAi K v T5 (dropE oa ++ [evx 24 0 0]) := by
    have a1 : WAi K w31 (wA w31 0 47 ((w31.1 0 47) + (1 : Int32))) [] := WAi.w0
    refine (A31.nt a1).tr ?_
    rw [hT]
    exact wMark.nt (WAi.sm rfl rfl)
  have e36 : ∀ {i : Int32}, e.1 i = 36 ↔ (e.1 i).toInt = 36 := ⟨fun q => by rw [q]; decide, fun q => Int32.toInt_inj.mp (q.trans (by decide))⟩
  have knT : knM K T5 = knM K v := (knM_of tt29 tt30).trans kn31
  have j5 : (w31.1 0 47 + 1).toInt = (w31.1 0 47).toInt + 1 := add_z rfl (by decide) (by omega) (by omega)
  have n12 : (v.1 0 12).toInt ≤ (w31.1 0 12).toInt ∧ (w31.1 0 12).toInt - 15 * (w31.1 0 47).toInt ≤ (v.1 0 12).toInt - 15 * (v.1 0 47 + 1 + 1).toInt := n12
  have tt12 : T5.1 0 12 = w31.1 0 12 := by rw [hT]; rfl
  have fin : ∀ {U : MS} {a : List EV}, u = wA U 0 48 ((U.1 0 48) - (1 : Int32)) → (BDw v (lwL a) → LQw K v U (v.1 0 59) (U.1 0 59) a) → (U.1 0 52 = v.1 0 52 ∧ U.1 0 53 = v.1 0 53 ∧ U.1 0 55 = v.1 0 55 ∧ U.1 0 57 = v.1 0 57) → (∀ b ∈ [61, 63, 65], ∀ j : Nat, (j : Int) < (v.1 0 52).toInt → U.1 b j = v.1 b j) → U.1 0 32 = v.1 0 32 → U.1 0 30 = v.1 0 30 → (∀ j : Nat, (j : Int) < (v.1 0 30).toInt → U.1 29 j = v.1 29 j) → SOw n K e v u a := by
    intro U a eu Q r1 r2 r3 r4 r5
    have u59 : u.1 0 59 = U.1 0 59 := by rw [eu]; rfl
    have LU : LQw K U u (U.1 0 59) (U.1 0 59) [] := LQw.sm (by rw [eu]; rfl) (by rw [eu]; exact ⟨⟨rfl, rfl, rfl, rfl, rfl, rfl⟩, rfl, rfl⟩) (by rw [eu]; rfl)
    have SS : SAw K v u a := SAw.lq (fun B => by
      have T := (Q B).tr LU B.1 B.2.2
      rw [List.append_nil] at T
      rw [u59]
      exact T) (by rw [eu]; exact r1) (by rw [eu]; exact had_wW r2)
    exact ⟨⟨JU.1, JU.2.2⟩, SS, by rw [eu]; exact r3, by rw [eu]; show _ ≤ (U.1 0 30).toInt; rw [r4]; exact Int.le_refl _, fun j hj => by rw [eu]; exact r5 j hj⟩
  unfold gFor
  rcases h with ⟨c30, h⟩ | ⟨c30, h⟩
  · -- no question
    have q36 : (e.1 (w31.1 0 47 + 1)).toInt = 36 := by
      rw [← tt47]
      exact e36.mp (i30.mp c30)
    rcases h with ⟨u9, -, f9, -⟩ | ⟨h6, k6, h⟩
    · cases f9
    rw [← hT] at h6 k6
    have N6 := oNeed (q := (59, 36)) (m := 36) h6 J5 (by decide) rfl (by decide)
    have l6 := k6.1
    rw [tt47] at l6
    obtain ⟨G, hG⟩ : ∃ G, G = wA T5 0 47 (((w31.1 0 47) + (1 : Int32)) + (1 : Int32)) := ⟨_, rfl⟩
    rw [← hG] at N6
    have G47 : G.1 0 47 = w31.1 0 47 + 1 + 1 := by rw [hG]; rfl
    have G12 : G.1 0 12 = w31.1 0 12 := by rw [hG]; exact tt12
    have G29 : G.1 29 = T5.1 29 := by rw [hG]; rfl
    have G30 : G.1 0 30 = T5.1 0 30 := by rw [hG]; rfl
    have G32 : G.1 0 32 = T5.1 0 32 := by rw [hG]; rfl
    have kG : kpW v G := kT.tr (by rw [hG]; exact ⟨⟨rfl, rfl, rfl, rfl, rfl⟩, rfl, rfl, rfl⟩)
    have A6 : WAi K T5 G [] := by rw [hG]; exact WAi.w0
    have AG : WAi K v G (dropE oa ++ [evx 24 0 0]) := AT.nt A6
    have j6 : (G.1 0 47).toInt = (w31.1 0 47).toInt + 1 + 1 := by
      rw [G47, ← j5]
      exact add_z rfl (by decide) (by omega) (by omega)
    have hpa : (w31.1 0 12 + 1).toInt ≠ -1 := by
      have : (w31.1 0 12 + 1).toInt = (w31.1 0 12).toInt + 1 := add_z rfl (by decide) (by omega) (by omega)
      omega
    obtain ⟨G1, hG1⟩ : ∃ G1, G1 = (wA (wA (wA (wA (wA G 11 ((w31.1 0 12).toNatClampNeg) (0 : Int32)) 0 12 ((w31.1 0 12) + (1 : Int32))) 13 (((w31.1 0 15) + (1 : Int32)).toNatClampNeg) (12 : Int32)) 14 (((w31.1 0 15) + (1 : Int32)).toNatClampNeg) (0 : Int32)) 0 15 (((w31.1 0 15) + (1 : Int32)) + (1 : Int32))) := ⟨_, rfl⟩
    have m1 : EMS 1 G G1 := by
      rw [hG1, hG, hT]
      exact EMS.w0 (EMS.wa (EMS.wa (EMS.o1 (EMS.wa EMS.rf (by decide)) rfl) (by decide)) (by decide)) (by decide)
    have J6 := m1.j N6.1
    have G1_47 : G1.1 0 47 = G.1 0 47 := by rw [hG1]; rfl
    have G1_12 : G1.1 0 12 = G.1 0 12 + 1 := by rw [G12, hG1]; rfl
    have G1_11 : G1.1 11 = upd (G.1 11) (G.1 0 12).toNatClampNeg 0 := by rw [G12, hG1]; rfl
    have G1_S : SMw G G1 := by rw [hG1]; exact ⟨⟨rfl, rfl, rfl, rfl, rfl, rfl⟩, rfl, rfl⟩
    have G1_29 : G1.1 29 = G.1 29 := by rw [hG1]; rfl
    have G1_30 : G1.1 0 30 = G.1 0 30 := by rw [hG1]; rfl
    have G1_32 : G1.1 0 32 = G.1 0 32 := by rw [hG1]; rfl
    have k1G : kpW v G1 := kG.tr (by rw [hG1]; exact ⟨⟨rfl, rfl, rfl, rfl, rfl⟩, rfl, rfl, rfl⟩)
    rcases h with ⟨w134, hj2, -, l134, -, m134, -, -, -, -, h⟩ | ⟨r199, h7, -, c7, u9, h8, f9, -⟩
    rotate_left
    · cases f9
    obtain ⟨r199, h8, -, hj2⟩ := hj2
    rw [← hT, ← hG, ← hG1] at h8 hj2
    have l134 : (G.1 0 47).toInt + 0 ≤ (w134.1 0 47).toInt ∧ (w134.1 0 47).toInt ≤ 1500 := by rw [G47]; exact l134
    obtain ⟨os, u1, u2, J134, ⟨r29, r30', r32⟩, k134⟩ := oOptW (pa := 41) (q := (41, 31)) (m := 31) (y := w134) hX (by decide) rfl (by decide) J6 h8 (by
      rcases hj2 with hj2 | ⟨c3, u527, h4, k4, e4⟩
      · exact Or.inl hj2
      · exact Or.inr ⟨c3, u527, h4, k4, e4⟩)
    have kn134 : knM K w134 = knM K v := (knM_of r29 r30').trans ((knM_of G1_29 G1_30).trans ((knM_of G29 G30).trans knT))
    have knG1 : knM K G1 = knM K v := (knM_of G1_29 G1_30).trans ((knM_of G29 G30).trans knT)
    have f32 : w134.1 0 32 = v.1 0 32 := by rw [r32, G1_32, G32, tt32, s32, o32]
    rw [knG1, G1_32, G32, tt32, s32, o32, G1_47, G47] at u1
    rcases h with ⟨u9, -, f9, -⟩ | ⟨h9, k9, x75, h75, x97, h97, h⟩
    · cases f9
    have e75 := eJmp h75
    have e97 := eJmp h97
    subst e75
    subst e97
    have Q1 := oClose (q := (41, 31)) (m := 31) h9 J134 (by decide) rfl (by decide)
    have t31 : gTok e 31 (w134.1 0 47) = some (w134.1 0 47 + 1) := gTok_of Q1.2
    obtain ⟨Y, hY⟩ : ∃ Y, Y = (wA (wA w134 0 47 ((w134.1 0 47) + (1 : Int32))) 0 48 ((w134.1 0 48) - (1 : Int32))) := ⟨_, rfl⟩
    have NY : ND Y := by rw [hY]; exact ndO J134 k9.1
    rw [← hY] at Q1
    obtain ⟨W, hW⟩ : ∃ W, W = (wA (wA (wA (wA (wA (wA (wA (wA Y 11 ((w134.1 0 12).toNatClampNeg) (0 : Int32)) 0 12 ((w134.1 0 12) + (1 : Int32))) 11 ((w134.1 0 12).toNatClampNeg) (jW 0 ((4 : Int32) * (w31.1 0 12 - w134.1 0 12)))) 13 ((w134.1 0 15).toNatClampNeg) (12 : Int32)) 14 ((w134.1 0 15).toNatClampNeg) (w31.1 0 15)) 0 15 ((w134.1 0 15) + (1 : Int32))) 11 ((w31.1 0 12).toNatClampNeg) (jW 0 ((4 : Int32) * ((w134.1 0 12 + 1) - (w31.1 0 12))))) 14 (((w31.1 0 15) + (1 : Int32)).toNatClampNeg) ((w134.1 0 15) + (1 : Int32))) := ⟨_, rfl⟩
    have mW : EMS 1 Y W := by
      rw [hW, hY]
      exact EMS.wa (EMS.wa (EMS.w0 (EMS.wa (EMS.wa (EMS.wa (EMS.o1 (EMS.wa EMS.rf (by decide)) rfl) (by decide)) (by decide)) (by decide)) (by decide)) (by decide)) (by decide)
    rcases h with ⟨u9, -, f9, -⟩ | ⟨ub, h10, k10, x153, h153, U, h11, -, -, eu⟩
    · cases f9
    rw [← hY, ← hW] at h10 k10
    obtain ⟨b, c1, c2⟩ := oBodyW hS hSs h10 (mW.j Q1.1) (nd_e mW NY)
    have W47 : W.1 0 47 = w134.1 0 47 + 1 := by rw [hW, hY]; rfl
    have W12 : W.1 0 12 = w134.1 0 12 + 1 := by rw [hW, hY]; rfl
    have WS : SMw w134 W := by rw [hW, hY]; exact ⟨⟨rfl, rfl, rfl, rfl, rfl, rfl⟩, rfl, rfl⟩
    have kW : kpW w134 W := by rw [hW, hY]; exact ⟨⟨rfl, rfl, rfl, rfl, rfl⟩, rfl, rfl, rfl⟩
    have W11 : W.1 11 = upd (upd (upd (w134.1 11) (w134.1 0 12).toNatClampNeg 0) (w134.1 0 12).toNatClampNeg (jW 0 ((4 : Int32) * (w31.1 0 12 - w134.1 0 12)))) (w31.1 0 12).toNatClampNeg (jW 0 ((4 : Int32) * ((w134.1 0 12 + 1) - (w31.1 0 12)))) := by rw [hW, hY]; rfl
    have W29 : W.1 29 = w134.1 29 := by rw [hW, hY]; rfl
    have W30 : W.1 0 30 = w134.1 0 30 := by rw [hW, hY]; rfl
    have W32 : W.1 0 32 = w134.1 0 32 := by rw [hW, hY]; rfl
    have knW : knM K W = knM K v := (knM_of W29 W30).trans kn134
    rw [knW, W32, f32, W47] at c1
    have e153 := eJmp h153
    subst e153
    obtain ⟨X, hX9⟩ : ∃ X, X = (wA (wA (wA (wA (wA (wA ub 11 ((ub.1 0 12).toNatClampNeg) (0 : Int32)) 0 12 ((ub.1 0 12) + (1 : Int32))) 11 ((ub.1 0 12).toNatClampNeg) (jW 0 ((4 : Int32) * ((w31.1 0 12 + 1) - ub.1 0 12)))) 13 ((ub.1 0 15).toNatClampNeg) (12 : Int32)) 14 ((ub.1 0 15).toNatClampNeg) (((w31.1 0 15) + (1 : Int32)) + (1 : Int32))) 0 15 ((ub.1 0 15) + (1 : Int32))) := ⟨_, rfl⟩
    rw [← hX9] at h11
    have X12 : X.1 0 12 = ub.1 0 12 + 1 := by rw [hX9]; rfl
    have XS : SMw ub X := by rw [hX9]; exact ⟨⟨rfl, rfl, rfl, rfl, rfl, rfl⟩, rfl, rfl⟩
    have kX : kpW ub X := by rw [hX9]; exact ⟨⟨rfl, rfl, rfl, rfl, rfl⟩, rfl, rfl, rfl⟩
    have X11 : X.1 11 = upd (upd (ub.1 11) (ub.1 0 12).toNatClampNeg 0) (ub.1 0 12).toNatClampNeg (jW 0 ((4 : Int32) * ((w31.1 0 12 + 1) - ub.1 0 12))) := by rw [hX9]; rfl
    have kvW : kpW v W := (k1G.tr k134).tr kW
    have C := fun hh => forQ (K := K) (G := G) (G1 := G1) (w := w134) (W := W) (ub := ub) (X := X) (u := U) (st := dropE os) (tp := w31.1 0 12) (hl := [evx 24 0 0] ++ [] ++ [fwE 19 0 (dropE os ++ [evx 19 0 0])]) (d0 := v.1 0 59) G1_11 G1_12 G1_S u2 (by rw [G12]; exact W11) W12 WS kvW.1.2.2.2.2 (by rw [G12]; exact c2) (by rw [G12]; exact hpa) (fun j hj => by rw [G12, X11]) X12 kX.1.2.1 XS h11 hh
    have a9 := (oEndsW h11).1
    have a8 := endsKW c2 kvW kX.1.1 kX.2 a9
    have u59 : U.1 0 59 = ub.1 0 59 := a9.2.2.1.2.2.2.2.trans kX.1.2.2.2.2
    have g29 : ∀ j : Nat, (j : Int) < (v.1 0 30).toInt → U.1 29 j = v.1 29 j := fun j hj => by
      have : U.1 29 = ub.1 29 := a9.2.1.1.trans (by rw [hX9]; rfl)
      rw [this, c2.2.2.2.2.2.1 j (by rw [W30, r30', G1_30, G30, tt30, s30, o30]; exact hj), W29, r29, G1_29, G29, tt29, s29, o29]
    have g30u : U.1 0 30 = ub.1 0 30 := a9.2.1.2.1.trans (by rw [hX9]; rfl)
    have g30 : U.1 0 30 = v.1 0 30 := g30u.trans (by rw [c2.2.2.2.2.1, W30, r30', G1_30, G30, tt30, s30, o30])
    have g32 : U.1 0 32 = v.1 0 32 := a9.2.1.2.2.1.trans (by rw [hX9]; exact c2.2.2.2.1.trans (by rw [W32, f32]))
    have kn : knM K u = knM K v := by
      have : knM K U = knM K ub := knM_of (a9.2.1.1.trans (by rw [hX9]; rfl)) g30u
      have k0 : knM K u = knM K U := by rw [eu]; rfl
      rw [k0, this, c2.2.2.2.2.2.2, knW]
    have e47 : u.1 0 47 = ub.1 0 47 := by rw [eu]; exact a9.2.1.2.2.2.trans (by rw [hX9]; rfl)
    rw [t30, Option.bind_some, x1, Option.bind_some]
    show ∃ a, ((gTok e 36 (w31.1 0 47)).bind _) = _ ∧ _
    rw [t36, Option.bind_some]
    have go : gOpt E 36 e (knM K v) (v.1 0 32) (w31.1 0 47 + 1) = some (none, w31.1 0 47 + 1) := by
      unfold gOpt
      rw [if_pos q36]
    rw [go, Option.bind_some]
    have gt : gTok e 36 (w31.1 0 47 + 1) = some (w31.1 0 47 + 1 + 1) := if_pos q36
    show ∃ a, ((gTok e 36 (w31.1 0 47 + 1)).bind _) = _ ∧ _
    rw [gt, Option.bind_some, u1, Option.bind_some]
    show ∃ a, ((gTok e 31 (w134.1 0 47)).bind _) = _ ∧ _
    rw [t31, Option.bind_some, c1, Option.bind_some]
    have Q : BDw v (lwL ((dropE oa ++ [evx 24 0 0]) ++ ([fwE 19 0 (dropE os ++ [evx 19 0 0])] ++ dropE os ++ [bwE 19 0 ([evx 24 0 0] ++ [] ++ [fwE 19 0 (dropE os ++ [evx 19 0 0])] ++ dropE os)] ++ (rsv (d3p (b ++ [evx 19 0 0])) (d3n (dropE os ++ [evx 19 0 0])) b ++ [bwE 19 0 (dropE os ++ [evx 19 0 0] ++ b)])))) → LQw K v U (v.1 0 59) (U.1 0 59) ((dropE oa ++ [evx 24 0 0]) ++ ([fwE 19 0 (dropE os ++ [evx 19 0 0])] ++ dropE os ++ [bwE 19 0 ([evx 24 0 0] ++ [] ++ [fwE 19 0 (dropE os ++ [evx 19 0 0])] ++ dropE os)] ++ (rsv (d3p (b ++ [evx 19 0 0])) (d3n (dropE os ++ [evx 19 0 0])) b ++ [bwE 19 0 (dropE os ++ [evx 19 0 0] ++ b)]))) := fun B => by
      obtain ⟨q1, q2, q3⟩ := B
      rw [lwL_app] at q2
      have HG := AG ⟨q1, by omega, q3⟩
      have g12 := HG.1
      have g43 := HG.2.1.2.1.1
      obtain ⟨L, M, m1, m2, m3⟩ := C (by
        rw [G12, lwL_app, lwL_app, show lwL [evx 24 0 0] = 0 from rfl, show lwL [fwE 19 0 (dropE os ++ [evx 19 0 0])] = 1 from rfl, lwL_nil]
        omega) ⟨by omega, by omega, by omega⟩
      have nv := natI q1
      have nG := natI (a := G.1 0 12) (by omega)
      have nb := natI (a := ub.1 0 12) (by omega)
      have low : ∀ j : Nat, j < (G.1 0 12).toNatClampNeg → U.1 11 j = G.1 11 j := fun j hj => by
        rw [(M j hj).1, X11, updN_ (by omega), updN_ (by omega), (M j hj).2]
      have T := (LQw.wa (d := v.1 0 59) (HG.wR (F := U.1 11) q1 (fun j g1 g2 => low j (by omega)))).tr L q1 q3
      rw [u59]
      exact T.fin rfl a9.1.1 a9.1.2 (fun j hj => by rw [low j (by omega), HG.2.1.1.2 j hj])
    refine ⟨_, ?_, fin eu Q a8.1 a8.2 g32 g30 g29⟩
    rw [kn, e47]
    unfold gForL
    simp only [List.append_assoc, List.nil_append]
  · -- a question
    rcases h with ⟨u9, -, f9, -⟩ | ⟨u241, h6, k6, x254, r253, h253, -, h⟩
    · cases f9
    rw [← hT] at h6 k6
    obtain ⟨ca, y1, y2⟩ := hX e T5 u241 h6 k6 J5
    rw [knT, tt32, s32, o32, tt47] at y1
    have q47 := k6.2.1
    rw [tt47] at q47
    have A241 : WAi K v u241 (dropE oa ++ [evx 24 0 0] ++ ca) := AT.tr y2.2.1
    obtain ⟨rfl, rfl, z241⟩ := eUn h253
    obtain ⟨D, hD⟩ : ∃ D, D = (wA (wA (wA (wA (wA (wA (wA (wA u241 11 ((u241.1 0 12).toNatClampNeg) (bW 4195 10 0 8)) 0 12 ((u241.1 0 12) + (1 : Int32))) 11 (((u241.1 0 12) + (1 : Int32)).toNatClampNeg) (-1 : Int32)) 0 12 (((u241.1 0 12) + (1 : Int32)) + (1 : Int32))) 13 ((u241.1 0 15).toNatClampNeg) 10) 14 ((u241.1 0 15).toNatClampNeg) 0) 0 15 ((u241.1 0 15) + (1 : Int32))) 0 60 (u241.1 0 15)) := ⟨_, rfl⟩
    have mD : EMS 2 u241 D := by
      rw [hD]
      exact EMS.w0 (EMS.w0 (EMS.wa (EMS.wa (EMS.o1 (EMS.wa (EMS.o1 (EMS.wa EMS.rf (by decide)) rfl) (by decide)) rfl) (by decide)) (by decide)) (by decide)) (by decide)
    rcases h with ⟨u9, -, f9, -⟩ | ⟨h7, k7, h⟩
    · cases f9
    rw [← hD] at h7 k7
    have N6 := oNeed (q := (59, 36)) (m := 36) h7 (mD.j y2.1) (by decide) rfl (by decide)
    have D47 : D.1 0 47 = u241.1 0 47 := by rw [hD]; rfl
    have l6 := k7.1
    rw [D47] at l6
    obtain ⟨G, hG⟩ : ∃ G, G = wA D 0 47 ((u241.1 0 47) + (1 : Int32)) := ⟨_, rfl⟩
    rw [← hG] at N6
    have G47 : G.1 0 47 = u241.1 0 47 + 1 := by rw [hG]; rfl
    have G12 : G.1 0 12 = u241.1 0 12 + 1 + 1 := by rw [hG, hD]; rfl
    have G11 : G.1 11 = upd (upd (u241.1 11) (u241.1 0 12).toNatClampNeg (bW 4195 10 0 8)) (u241.1 0 12 + 1).toNatClampNeg (-1) := by rw [hG, hD]; rfl
    have GS : SMw u241 G := by rw [hG, hD]; exact ⟨⟨rfl, rfl, rfl, rfl, rfl, rfl⟩, rfl, rfl⟩
    have G29 : G.1 29 = T5.1 29 := by rw [hG, hD]; exact y2.2.2.1
    have G30 : G.1 0 30 = T5.1 0 30 := by rw [hG, hD]; exact y2.2.2.2.1
    have G32 : G.1 0 32 = T5.1 0 32 := by rw [hG, hD]; exact y2.2.2.2.2
    have kG : kpW v G := (kT.tr (kpW.fg k6.1)).tr (by rw [hG, hD]; exact ⟨⟨rfl, rfl, rfl, rfl, rfl⟩, rfl, rfl, rfl⟩)
    have j6 : (G.1 0 47).toInt = (u241.1 0 47).toInt + 1 := by
      rw [G47]
      exact add_z rfl (by decide) (by omega) (by omega)
    have hpa : (u241.1 0 12 + 1 + 1 + 1).toInt ≠ -1 := by
      have q12 := k6.2.2.2.1
      rw [tt12, tt47] at q12
      have h1 : (u241.1 0 12 + 1).toInt = (u241.1 0 12).toInt + 1 := add_z rfl (by decide) (by omega) (by omega)
      have h2 : (u241.1 0 12 + 1 + 1).toInt = (u241.1 0 12 + 1).toInt + 1 := add_z rfl (by decide) (by omega) (by omega)
      have h3 : (u241.1 0 12 + 1 + 1 + 1).toInt = (u241.1 0 12 + 1 + 1).toInt + 1 := add_z rfl (by decide) (by omega) (by omega)
      omega
    obtain ⟨G1, hG1⟩ : ∃ G1, G1 = (wA (wA (wA (wA (wA G 11 ((((u241.1 0 12) + (1 : Int32)) + (1 : Int32)).toNatClampNeg) (0 : Int32)) 0 12 ((((u241.1 0 12) + (1 : Int32)) + (1 : Int32)) + (1 : Int32))) 13 (((u241.1 0 15) + (1 : Int32)).toNatClampNeg) (12 : Int32)) 14 (((u241.1 0 15) + (1 : Int32)).toNatClampNeg) (0 : Int32)) 0 15 (((u241.1 0 15) + (1 : Int32)) + (1 : Int32))) := ⟨_, rfl⟩
    have m1 : EMS 1 G G1 := by
      rw [hG1, hG, hD]
      exact EMS.w0 (EMS.wa (EMS.wa (EMS.o1 (EMS.wa EMS.rf (by decide)) rfl) (by decide)) (by decide)) (by decide)
    have J6 := m1.j N6.1
    have G1_47 : G1.1 0 47 = G.1 0 47 := by rw [hG1]; rfl
    have G1_12 : G1.1 0 12 = G.1 0 12 + 1 := by rw [G12, hG1]; rfl
    have G1_11 : G1.1 11 = upd (G.1 11) (G.1 0 12).toNatClampNeg 0 := by rw [G12, hG1]; rfl
    have G1_S : SMw G G1 := by rw [hG1]; exact ⟨⟨rfl, rfl, rfl, rfl, rfl, rfl⟩, rfl, rfl⟩
    have G1_29 : G1.1 29 = G.1 29 := by rw [hG1]; rfl
    have G1_30 : G1.1 0 30 = G.1 0 30 := by rw [hG1]; rfl
    have G1_32 : G1.1 0 32 = G.1 0 32 := by rw [hG1]; rfl
    have k1G : kpW v G1 := kG.tr (by rw [hG1]; exact ⟨⟨rfl, rfl, rfl, rfl, rfl⟩, rfl, rfl, rfl⟩)
    rcases h with ⟨w134, hj2, -, l134, -, m134, -, -, -, -, h⟩ | ⟨r199, h7, -, c7, u9, h8, f9, -⟩
    rotate_left
    · cases f9
    obtain ⟨r199, h8, -, hj2⟩ := hj2
    rw [← hD, ← hG, ← hG1] at h8 hj2
    have l134 : (G.1 0 47).toInt + 0 ≤ (w134.1 0 47).toInt ∧ (w134.1 0 47).toInt ≤ 1500 := by rw [G47]; exact l134
    obtain ⟨os, u1, u2, J134, ⟨r29, r30', r32⟩, k134⟩ := oOptW (pa := 41) (q := (41, 31)) (m := 31) (y := w134) hX (by decide) rfl (by decide) J6 h8 (by
      rcases hj2 with hj2 | ⟨c3, u527, h4, k4, e4⟩
      · exact Or.inl hj2
      · exact Or.inr ⟨c3, u527, h4, k4, e4⟩)
    have kn134 : knM K w134 = knM K v := (knM_of r29 r30').trans ((knM_of G1_29 G1_30).trans ((knM_of G29 G30).trans knT))
    have knG1 : knM K G1 = knM K v := (knM_of G1_29 G1_30).trans ((knM_of G29 G30).trans knT)
    have f32 : w134.1 0 32 = v.1 0 32 := by rw [r32, G1_32, G32, tt32, s32, o32]
    rw [knG1, G1_32, G32, tt32, s32, o32, G1_47, G47] at u1
    rcases h with ⟨u9, -, f9, -⟩ | ⟨h9, k9, x75, h75, x97, h97, h⟩
    · cases f9
    have e75 := eJmp h75
    have e97 := eJmp h97
    subst e75
    subst e97
    have Q1 := oClose (q := (41, 31)) (m := 31) h9 J134 (by decide) rfl (by decide)
    have t31 : gTok e 31 (w134.1 0 47) = some (w134.1 0 47 + 1) := gTok_of Q1.2
    obtain ⟨Y, hY⟩ : ∃ Y, Y = (wA (wA w134 0 47 ((w134.1 0 47) + (1 : Int32))) 0 48 ((w134.1 0 48) - (1 : Int32))) := ⟨_, rfl⟩
    have NY : ND Y := by rw [hY]; exact ndO J134 k9.1
    rw [← hY] at Q1
    obtain ⟨W, hW⟩ : ∃ W, W = (wA (wA (wA (wA (wA (wA (wA (wA Y 11 ((w134.1 0 12).toNatClampNeg) (0 : Int32)) 0 12 ((w134.1 0 12) + (1 : Int32))) 11 ((w134.1 0 12).toNatClampNeg) (jW 0 ((4 : Int32) * (w31.1 0 12 - w134.1 0 12)))) 13 ((w134.1 0 15).toNatClampNeg) (12 : Int32)) 14 ((w134.1 0 15).toNatClampNeg) (w31.1 0 15)) 0 15 ((w134.1 0 15) + (1 : Int32))) 11 ((((u241.1 0 12) + (1 : Int32)) + (1 : Int32)).toNatClampNeg) (jW 0 ((4 : Int32) * ((w134.1 0 12 + 1) - (u241.1 0 12 + 1 + 1))))) 14 (((u241.1 0 15) + (1 : Int32)).toNatClampNeg) ((w134.1 0 15) + (1 : Int32))) := ⟨_, rfl⟩
    have mW : EMS 1 Y W := by
      rw [hW, hY]
      exact EMS.wa (EMS.wa (EMS.w0 (EMS.wa (EMS.wa (EMS.wa (EMS.o1 (EMS.wa EMS.rf (by decide)) rfl) (by decide)) (by decide)) (by decide)) (by decide)) (by decide)) (by decide)
    rcases h with ⟨u9, -, f9, -⟩ | ⟨ub, h10, k10, x400, h400, -, x430, h430, U, h11, -, -, eu⟩
    · cases f9
    rw [← hY, ← hW] at h10 k10
    obtain ⟨b, c1, c2⟩ := oBodyW hS hSs h10 (mW.j Q1.1) (nd_e mW NY)
    have W47 : W.1 0 47 = w134.1 0 47 + 1 := by rw [hW, hY]; rfl
    have W12 : W.1 0 12 = w134.1 0 12 + 1 := by rw [hW, hY]; rfl
    have WS : SMw w134 W := by rw [hW, hY]; exact ⟨⟨rfl, rfl, rfl, rfl, rfl, rfl⟩, rfl, rfl⟩
    have kW : kpW w134 W := by rw [hW, hY]; exact ⟨⟨rfl, rfl, rfl, rfl, rfl⟩, rfl, rfl, rfl⟩
    have W11 : W.1 11 = upd (upd (upd (w134.1 11) (w134.1 0 12).toNatClampNeg 0) (w134.1 0 12).toNatClampNeg (jW 0 ((4 : Int32) * (w31.1 0 12 - w134.1 0 12)))) (u241.1 0 12 + 1 + 1).toNatClampNeg (jW 0 ((4 : Int32) * ((w134.1 0 12 + 1) - (u241.1 0 12 + 1 + 1)))) := by rw [hW, hY]; rfl
    have W29 : W.1 29 = w134.1 29 := by rw [hW, hY]; rfl
    have W30 : W.1 0 30 = w134.1 0 30 := by rw [hW, hY]; rfl
    have W32 : W.1 0 32 = w134.1 0 32 := by rw [hW, hY]; rfl
    have knW : knM K W = knM K v := (knM_of W29 W30).trans kn134
    rw [knW, W32, f32, W47] at c1
    have e400 := eJmp h400
    have e430 := eJmp h430
    subst e400
    subst e430
    obtain ⟨X, hX9⟩ : ∃ X, X = (wA (wA (wA (wA (wA (wA (wA (wA ub 11 ((ub.1 0 12).toNatClampNeg) (0 : Int32)) 0 12 ((ub.1 0 12) + (1 : Int32))) 11 ((ub.1 0 12).toNatClampNeg) (jW 0 ((4 : Int32) * ((u241.1 0 12 + 1 + 1 + 1) - ub.1 0 12)))) 13 ((ub.1 0 15).toNatClampNeg) (12 : Int32)) 14 ((ub.1 0 15).toNatClampNeg) (((u241.1 0 15) + (1 : Int32)) + (1 : Int32))) 0 15 ((ub.1 0 15) + (1 : Int32))) 11 (u241.1 0 12 + 1).toNatClampNeg (jW 0 ((4 : Int32) * ((ub.1 0 12 + 1) - (u241.1 0 12 + 1))))) 14 ((u241.1 0 15).toNatClampNeg) ((ub.1 0 15) + (1 : Int32))) := ⟨_, rfl⟩
    rw [← hX9] at h11
    have X12 : X.1 0 12 = ub.1 0 12 + 1 := by rw [hX9]; rfl
    have XS : SMw ub X := by rw [hX9]; exact ⟨⟨rfl, rfl, rfl, rfl, rfl, rfl⟩, rfl, rfl⟩
    have kX : kpW ub X := by rw [hX9]; exact ⟨⟨rfl, rfl, rfl, rfl, rfl⟩, rfl, rfl, rfl⟩
    have X11 : X.1 11 = upd (upd (upd (ub.1 11) (ub.1 0 12).toNatClampNeg 0) (ub.1 0 12).toNatClampNeg (jW 0 ((4 : Int32) * ((u241.1 0 12 + 1 + 1 + 1) - ub.1 0 12)))) (u241.1 0 12 + 1).toNatClampNeg (jW 0 ((4 : Int32) * ((ub.1 0 12 + 1) - (u241.1 0 12 + 1)))) := by rw [hX9]; rfl
    have kvW : kpW v W := (k1G.tr k134).tr kW
    have a2 := ad2 (n := u241.1 0 12) z241.1 (by omega)
    have a1 := ad1 (n := u241.1 0 12) z241.1 (by omega)
    have nu1 := natI (a := u241.1 0 12 + 1) (by omega)
    have nu0 := natI z241.1
    have C := fun hh => forQ (K := K) (G := G) (G1 := G1) (w := w134) (W := W) (ub := ub) (X := X) (u := U) (st := dropE os) (tp := w31.1 0 12) (hl := [evx 24 0 0] ++ (ca ++ [fwE 16 0 ([fwE 19 0 (dropE os ++ [evx 19 0 0])] ++ (dropE os ++ [evx 19 0 0]) ++ b ++ [evx 19 0 0])]) ++ [fwE 19 0 (dropE os ++ [evx 19 0 0])]) (d0 := v.1 0 59) G1_11 G1_12 G1_S u2 (by rw [G12]; exact W11) W12 WS kvW.1.2.2.2.2 (by rw [G12]; exact c2) (by rw [G12]; exact hpa) (fun j hj => by
      rw [G12] at hj ⊢
      rw [X11]
      exact updN_ (by omega)) X12 kX.1.2.1 XS h11 hh
    have a9 := (oEndsW h11).1
    have a8 := endsKW c2 kvW kX.1.1 kX.2 a9
    have u59 : U.1 0 59 = ub.1 0 59 := a9.2.2.1.2.2.2.2.trans kX.1.2.2.2.2
    have g29 : ∀ j : Nat, (j : Int) < (v.1 0 30).toInt → U.1 29 j = v.1 29 j := fun j hj => by
      have : U.1 29 = ub.1 29 := a9.2.1.1.trans (by rw [hX9]; rfl)
      rw [this, c2.2.2.2.2.2.1 j (by rw [W30, r30', G1_30, G30, tt30, s30, o30]; exact hj), W29, r29, G1_29, G29, tt29, s29, o29]
    have g30u : U.1 0 30 = ub.1 0 30 := a9.2.1.2.1.trans (by rw [hX9]; rfl)
    have g30 : U.1 0 30 = v.1 0 30 := g30u.trans (by rw [c2.2.2.2.2.1, W30, r30', G1_30, G30, tt30, s30, o30])
    have g32 : U.1 0 32 = v.1 0 32 := a9.2.1.2.2.1.trans (by rw [hX9]; exact c2.2.2.2.1.trans (by rw [W32, f32]))
    have kn : knM K u = knM K v := by
      have : knM K U = knM K ub := knM_of (a9.2.1.1.trans (by rw [hX9]; rfl)) g30u
      have k0 : knM K u = knM K U := by rw [eu]; rfl
      rw [k0, this, c2.2.2.2.2.2.2, knW]
    have e47 : u.1 0 47 = ub.1 0 47 := by rw [eu]; exact a9.2.1.2.2.2.trans (by rw [hX9]; rfl)
    rw [t30, Option.bind_some, x1, Option.bind_some]
    show ∃ a, ((gTok e 36 (w31.1 0 47)).bind _) = _ ∧ _
    rw [t36, Option.bind_some]
    have go : gOpt E 36 e (knM K v) (v.1 0 32) (w31.1 0 47 + 1) = some (some ca, u241.1 0 47) := by
      unfold gOpt
      rw [if_neg (fun q => i30.mpr (by rw [tt47]; exact e36.mpr q) c30), y1, Option.bind_some]
    rw [go, Option.bind_some]
    have gt : gTok e 36 (u241.1 0 47) = some (u241.1 0 47 + 1) := by
      rw [← D47]
      exact gTok_of N6.2
    show ∃ a, ((gTok e 36 (u241.1 0 47)).bind _) = _ ∧ _
    rw [gt, Option.bind_some, u1, Option.bind_some]
    show ∃ a, ((gTok e 31 (w134.1 0 47)).bind _) = _ ∧ _
    rw [t31, Option.bind_some, c1, Option.bind_some]
    obtain ⟨un, hun⟩ : ∃ un, un = fwE 16 0 ([fwE 19 0 (dropE os ++ [evx 19 0 0])] ++ (dropE os ++ [evx 19 0 0]) ++ b ++ [evx 19 0 0]) := ⟨_, rfl⟩
    have Q : BDw v (lwL ((dropE oa ++ [evx 24 0 0] ++ ca) ++ ([un] ++ ([fwE 19 0 (dropE os ++ [evx 19 0 0])] ++ dropE os ++ [bwE 19 0 ([evx 24 0 0] ++ (ca ++ [fwE 16 0 ([fwE 19 0 (dropE os ++ [evx 19 0 0])] ++ (dropE os ++ [evx 19 0 0]) ++ b ++ [evx 19 0 0])]) ++ [fwE 19 0 (dropE os ++ [evx 19 0 0])] ++ dropE os)] ++ (rsv (d3p (b ++ [evx 19 0 0])) (d3n (dropE os ++ [evx 19 0 0])) b ++ [bwE 19 0 (dropE os ++ [evx 19 0 0] ++ b)]))))) → LQw K v U (v.1 0 59) (U.1 0 59) ((dropE oa ++ [evx 24 0 0] ++ ca) ++ ([un] ++ ([fwE 19 0 (dropE os ++ [evx 19 0 0])] ++ dropE os ++ [bwE 19 0 ([evx 24 0 0] ++ (ca ++ [fwE 16 0 ([fwE 19 0 (dropE os ++ [evx 19 0 0])] ++ (dropE os ++ [evx 19 0 0]) ++ b ++ [evx 19 0 0])]) ++ [fwE 19 0 (dropE os ++ [evx 19 0 0])] ++ dropE os)] ++ (rsv (d3p (b ++ [evx 19 0 0])) (d3n (dropE os ++ [evx 19 0 0])) b ++ [bwE 19 0 (dropE os ++ [evx 19 0 0] ++ b)])))) := fun B => by
      obtain ⟨q1, q2, q3⟩ := B
      have lun : lwL [un] = 2 := by rw [hun]; rfl
      rw [lwL_app, lwL_app (a := [un]), lun] at q2
      have HA := A241 ⟨q1, by omega, q3⟩
      have g12 := HA.1
      have g43 := HA.2.1.2.1.1
      have HT := AT ⟨q1, by rw [lwL_app] at q2; omega, q3⟩
      have t12 := HT.1
      rw [tt12] at t12
      have c12 : (u241.1 0 12).toInt = (w31.1 0 12).toInt + lwL ca := by
        rw [lwL_app] at g12
        omega
      have iG : (G.1 0 12).toInt = (u241.1 0 12).toInt + 2 := by rw [G12]; exact a2
      obtain ⟨L, M, m1, m2, m3⟩ := C (by
        rw [lwL_app, lwL_app, show lwL [evx 24 0 0] = 0 from rfl, show lwL [fwE 19 0 (dropE os ++ [evx 19 0 0])] = 1 from rfl, lwL_app, show lwL [fwE 16 0 ([fwE 19 0 (dropE os ++ [evx 19 0 0])] ++ (dropE os ++ [evx 19 0 0]) ++ b ++ [evx 19 0 0])] = 2 from rfl]
        omega) ⟨by omega, by omega, by rw [GS.2.2]; omega⟩
      have nv := natI q1
      have nG := natI (a := G.1 0 12) (by omega)
      have nb := natI (a := ub.1 0 12) (by omega)
      have xj : ∀ j : Nat, j < (G.1 0 12).toNatClampNeg → j ≠ (u241.1 0 12 + 1).toNatClampNeg → U.1 11 j = G.1 11 j := fun j hj hn => by
        rw [(M j hj).1, X11, updN_ hn, updN_ (by omega), updN_ (by omega), (M j hj).2]
      have low : ∀ j : Nat, j < (u241.1 0 12).toNatClampNeg → U.1 11 j = u241.1 11 j := fun j hj => by
        rw [xj j (by omega) (by omega), G11, updN_ (by omega), updN_ (by omega)]
      have L1 := LQw.wa (d := v.1 0 59) (HA.wR (F := U.1 11) q1 (fun j g1 g2 => low j (by omega)))
      have au : (ub.1 0 12 + 1).toInt = (ub.1 0 12).toInt + 1 := by rw [← X12]; exact m3
      have L2 : LQw K (wR u241 (U.1 11)) (wR G (U.1 11)) (v.1 0 59) (v.1 0 59) [un] := by
        rw [hun]
        refine LQw.wd iG GS z241.1 (fun i z hz => ?_) rfl rfl
        have hz : ([bW 4195 10 0 8, jW 0 (jr (fwE 16 0 ([fwE 19 0 (dropE os ++ [evx 19 0 0])] ++ (dropE os ++ [evx 19 0 0]) ++ b ++ [evx 19 0 0])).2.2.2.2.2 1)] : List Int32)[i]? = some z := hz
        match i, hz with
        | 0, hz =>
          rw [Nat.add_zero, xj _ (by omega) (by omega), G11, updN_ (by omega), updS]
          exact Option.some.inj hz
        | 1, hz =>
          rw [show (u241.1 0 12).toNatClampNeg + 1 = (u241.1 0 12 + 1).toNatClampNeg by omega, (M _ (by omega)).1, X11, updS, jrE (d := (fwE 16 0 ([fwE 19 0 (dropE os ++ [evx 19 0 0])] ++ (dropE os ++ [evx 19 0 0]) ++ b ++ [evx 19 0 0])).2.2.2.2.2) (k := 1) (by
            rw [fwD (k := 2) (by decide), lwL_app, lwL_app, lwL_app, lwL_app, show lwL [evx 19 0 0] = 1 from rfl, show lwL [fwE 19 0 (dropE os ++ [evx 19 0 0])] = 1 from rfl]
            omega)]
          exact Option.some.inj hz
        | i + 2, hz => simp at hz
      have T := L1.tr (L2.tr L (by show 0 ≤ (u241.1 0 12).toInt; exact z241.1) (by show 0 ≤ (u241.1 0 43).toInt; omega)) q1 q3
      rw [u59]
      exact T.fin rfl a9.1.1 a9.1.2 (fun j hj => by rw [low j (by omega), HA.2.1.1.2 j hj])
    refine ⟨_, ?_, fin eu Q a8.1 a8.2 g32 g30 g29⟩
    rw [kn, e47, hun]
    unfold gForL
    simp only [List.append_assoc, List.nil_append]
end ZZJ
