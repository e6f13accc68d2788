/-! the reference's orders: for, both forms -/
section WWF
variable {n : Int} {K : TK} {e : PE} {v u w x y X G G1 W ub w0 : MS} {a b d a0 cc ca st hl : List EV} {q : EV} {r pa pb pd o zv zn T A bk tp : Int32} {c : RM1} {E : EvE} {S : EvS} {Es : FE} {Ss : FS} {k : Nat} {cl cl' m : Int} {g : Bool × Int32 × Bool} {p : Nat} {Bd Cd : D3}
set_option maxHeartbeats 3200000 in
theorem oForM (hX : XMe n K (QME k) E) (hE : HME n K (QME k) Es) (hS : XMs9 n K c S) (hSs : HMS n K c Ss) (h : Q_m_counting k c v false u) (J : JM n K e v) (hk : 2 ≤ (e.1 (v.1 0 47)).toInt) : ∃ a, gFor E S e (knM K v) (v.1 0 32) (v.1 0 47 + 1) = some (a, knM K u, u.1 0 47) ∧ SOq n K e v u a := by
  have JU := (rFor (g := gLq v) hE hSs h J rfl hk).jj
  obtain ⟨z1, z2, z3, z4, z5, z6, z15, z8, z9, z10, z11, z12, z13, z14, h⟩ := h
  have p0 := z15.1
  rcases h with ⟨u9, -, f9, -⟩ | ⟨h1, k1, ⟨u9, -, f9, -⟩ | ⟨h2, k2, h⟩⟩
  · cases f9
  · cases f9
  have JO := (rOpens (g := g00) h1 J hk).jj
  have O1 := oOpen (q := (40, 30)) (m := 30) h2 JO (by decide) rfl (by decide)
  have t30 : gTok e 30 (v.1 0 47 + 1) = some (v.1 0 47 + 1 + 1) := if_pos O1.2
  have l1 := k1.1
  have i1 : (v.1 0 47 + 1).toInt = (v.1 0 47).toInt + 1 := add_z rfl (by decide) (by omega) (by omega)
  have l2 := k2.1
  have l2 : (v.1 0 47 + 1).toInt < 1500 := by
    have : ((wA (wA v 0 47 ((v.1 0 47) + (1 : Int32))) 0 48 ((v.1 0 48) + (1 : Int32))).1 0 47).toInt < 1500 := l2
    exact this
  have i2 : (v.1 0 47 + 1 + 1).toInt = (v.1 0 47).toInt + 1 + 1 := by
    rw [← i1]
    exact add_z rfl (by decide) (by omega) (by omega)
  rcases h with ⟨w31, hj, f31, l31, n12, m31, -, -, -, -, h⟩ | ⟨r522, h3, -, c3, u9, h4, f9, -⟩
  rotate_left
  · cases f9
  obtain ⟨r522, h3, -, hj⟩ := hj
  obtain ⟨O, hO⟩ : ∃ O, O = (wA (wA (wA (wA v 0 47 ((v.1 0 47) + (1 : Int32))) 0 48 ((v.1 0 48) + (1 : Int32))) 0 47 (((v.1 0 47) + (1 : Int32)) + (1 : Int32))) 0 48 (((v.1 0 48) + (1 : Int32)) + (1 : Int32))) := ⟨_, rfl⟩
  rw [← hO] at h3 hj O1
  have o47 : O.1 0 47 = v.1 0 47 + 1 + 1 := by rw [hO]; rfl
  have o15 : O.1 0 15 = v.1 0 15 := by rw [hO]; rfl
  have o29 : O.1 29 = v.1 29 := by rw [hO]; rfl
  have o30 : O.1 0 30 = v.1 0 30 := by rw [hO]; rfl
  have o32 : O.1 0 32 = v.1 0 32 := by rw [hO]; rfl
  have kO : kpS v O := by rw [hO]; exact ⟨⟨rfl, rfl, rfl, rfl, rfl⟩, rfl, rfl, rfl, rfl⟩
  have AO : OA K v O [] := by rw [hO]; exact OA.sm rfl rfl rfl rfl rfl rfl rfl rfl
  have m31 : (v.1 0 15).toInt ≤ (w31.1 0 15).toInt ∧ (w31.1 0 15).toInt - 10 * (w31.1 0 47).toInt ≤ (v.1 0 15).toInt - 10 * (v.1 0 47 + 1 + 1).toInt + 1 := m31
  have l31 : (v.1 0 47 + 1 + 1).toInt + 0 ≤ (w31.1 0 47).toInt ∧ (w31.1 0 47).toInt ≤ 1500 := l31
  obtain ⟨oa, x1, x2, J31, ⟨s29, s30, s32⟩, k31⟩ := oOptM (pa := 59) (q := (59, 36)) (m := 36) (y := w31) hX (by decide) rfl (by decide) O1.1 (by rw [o15]; exact p0) (by omega) h3 (by
    rcases hj with hj | ⟨c3, u527, h4, k4, e4⟩
    · exact Or.inl hj
    · have q15 := k4.2.2.2.2.1
      have q47 := k4.2.1
      rw [o15, o47] at q15
      rw [o47] at q47
      exact Or.inr ⟨c3, u527, h4, k4, by omega, e4⟩)
  rw [knM_of o29 o30, o32, o47] at x1
  have A31 : OA K v w31 (dropE oa) := AO.tn x2 p0
  have kn31 : knM K w31 = knM K v := (knM_of s29 s30).trans (knM_of o29 o30)
  rcases h with ⟨u9, -, f9, -⟩ | ⟨h5, k5, r30, h30, -, h⟩
  · cases f9
  have N5 := oNeed (q := (59, 36)) (m := 36) h5 J31 (by decide) rfl (by decide)
  have t36 : gTok e 36 (w31.1 0 47) = some (w31.1 0 47 + 1) := gTok_of N5.2
  have l5 := k5.1
  obtain ⟨T5, hT⟩ : ∃ T5, T5 = (wA (wA (wA (wA w31 0 47 ((w31.1 0 47) + (1 : Int32))) 13 ((w31.1 0 15).toNatClampNeg) (13 : Int32)) 14 ((w31.1 0 15).toNatClampNeg) (0 : Int32)) 0 15 ((w31.1 0 15) + (1 : Int32))) := ⟨_, rfl⟩
  have mT : EMS 0 (wA w31 0 47 ((w31.1 0 47) + (1 : Int32))) T5 := by rw [hT]; exact EMS.w0 (EMS.wa (EMS.wa EMS.rf (by decide)) (by decide)) (by decide)
  have J5 := mT.j N5.1
  rw [← hT] at h30
  have i30 : r30.toInt ≠ 0 ↔ e.1 (T5.1 0 47) = 36 := rIs (g := g00) h30 J5 (q := (59, 36)) (by decide) rfl
  have tt47 : T5.1 0 47 = w31.1 0 47 + 1 := by rw [hT]; rfl
  have tt15 : T5.1 0 15 = w31.1 0 15 + 1 := by rw [hT]; rfl
  have tt29 : T5.1 29 = w31.1 29 := by rw [hT]; rfl
  have tt30 : T5.1 0 30 = w31.1 0 30 := by rw [hT]; rfl
  have tt32 : T5.1 0 32 = w31.1 0 32 := by rw [hT]; rfl
  have kT : kpS v T5 := (kO.tr k31).tr (by rw [hT]; exact ⟨⟨rfl, rfl, rfl, rfl, rfl⟩, rfl, rfl, rfl, rfl⟩)
  have AT : OA K v T5 (dropE oa ++ [evx 24 0 0]) := by
    have a1 : OA K w31 (wA w31 0 47 ((w31.1 0 47) + (1 : Int32))) [] := OA.w0
    refine (A31.nt a1 p0).tr ?_ p0
    rw [hT]
    exact OA.say (o := 13) (z := 0) rfl rfl rfl ⟨show 0 ≤ (w31.1 0 15).toInt by omega, show (w31.1 0 15).toInt ≤ 100000 by omega⟩ rfl rfl ⟨rfl, rfl, rfl⟩ loE1 rfl (show upd (w31.1 14) _ 0 _ = 0 from updS)
  have e36 : ∀ {i : Int32}, e.1 i = 36 ↔ (e.1 i).toInt = 36 := ⟨fun q => by rw [q]; decide, fun q => Int32.toInt_inj.mp (q.trans (by decide))⟩
  have knT : knM K T5 = knM K v := (knM_of tt29 tt30).trans kn31
  have j5 : (w31.1 0 47 + 1).toInt = (w31.1 0 47).toInt + 1 := add_z rfl (by decide) (by omega) (by omega)
  have p5 : (w31.1 0 15 + 1).toInt = (w31.1 0 15).toInt + 1 := add_z rfl (by decide) (by omega) (by omega)
  have n31 := natI (a := w31.1 0 15) (by omega)
  have T15 := AT.1
  have n12 : (v.1 0 12).toInt ≤ (w31.1 0 12).toInt ∧ (w31.1 0 12).toInt - 15 * (w31.1 0 47).toInt ≤ (v.1 0 12).toInt - 15 * (v.1 0 47 + 1 + 1).toInt := n12
  have tt12 : T5.1 0 12 = w31.1 0 12 := by rw [hT]; rfl
  rw [tt15, p5] at T15
  have fin : ∀ {U : MS} {a : List EV}, u = wA U 0 48 ((U.1 0 48) - (1 : Int32)) → OA K v U a → (U.1 0 52 = v.1 0 52 ∧ U.1 0 54 = v.1 0 54 ∧ U.1 0 55 = v.1 0 55 ∧ U.1 0 56 = v.1 0 56 ∧ U.1 0 58 = v.1 0 58) → (∀ b ∈ [62, 64, 66, 63], ∀ j : Nat, (j : Int) < (v.1 0 52).toInt → U.1 b j = v.1 b j) → U.1 0 32 = v.1 0 32 → U.1 0 30 = v.1 0 30 → (∀ j : Nat, (j : Int) < (v.1 0 30).toInt → U.1 29 j = v.1 29 j) → SOq n K e v u a := by
    intro U a eu AU r1 r2 r3 r4 r5
    have TU : OA K U u [] := by rw [eu]; exact OA.w0
    exact ⟨⟨JU.1, JU.2.2⟩, SAq.oh (AU.nt TU p0) (by rw [eu]; exact r1) (by rw [eu]; exact had_w r2), by rw [eu]; exact r3, by rw [eu]; show _ ≤ (U.1 0 30).toInt; rw [r4]; exact Int.le_refl _, fun j hj => by rw [eu]; exact r5 j hj⟩
  unfold gFor
  rcases h with ⟨c30, h⟩ | ⟨c30, h⟩
  · -- no question
    have q36 : (e.1 (w31.1 0 47 + 1)).toInt = 36 := by
      rw [← tt47]
      exact e36.mp (i30.mp c30)
    rcases h with ⟨u9, -, f9, -⟩ | ⟨h6, k6, h⟩
    · cases f9
    rw [← hT] at h6 k6
    have N6 := oNeed (q := (59, 36)) (m := 36) h6 J5 (by decide) rfl (by decide)
    have l6 := k6.1
    rw [tt47] at l6
    obtain ⟨G, hG⟩ : ∃ G, G = wA T5 0 47 (((w31.1 0 47) + (1 : Int32)) + (1 : Int32)) := ⟨_, rfl⟩
    rw [← hG] at N6
    have G47 : G.1 0 47 = w31.1 0 47 + 1 + 1 := by rw [hG]; rfl
    have G15 : G.1 0 15 = (w31.1 0 15) + (1 : Int32) := by rw [hG]; exact tt15
    have G13 : G.1 13 = T5.1 13 := by rw [hG]; rfl
    have G14 : G.1 14 = T5.1 14 := by rw [hG]; rfl
    have G29 : G.1 29 = T5.1 29 := by rw [hG]; rfl
    have G30 : G.1 0 30 = T5.1 0 30 := by rw [hG]; rfl
    have G32 : G.1 0 32 = T5.1 0 32 := by rw [hG]; rfl
    have kG : kpS v G := kT.tr (by rw [hG]; exact ⟨⟨rfl, rfl, rfl, rfl, rfl⟩, rfl, rfl, rfl, rfl⟩)
    have A6 : OA K T5 G [] := by rw [hG]; exact OA.w0
    have AG : OA K v G (dropE oa ++ [evx 24 0 0]) := AT.nt A6 p0
    have j6 : (G.1 0 47).toInt = (w31.1 0 47).toInt + 1 + 1 := by
      rw [G47, ← j5]
      exact add_z rfl (by decide) (by omega) (by omega)
    have p6 : (G.1 0 15).toInt = (w31.1 0 15).toInt + 1 := by rw [G15, p5]
    have hpa : (w31.1 0 12 + 1).toInt ≠ -1 := by
      have : (w31.1 0 12 + 1).toInt = (w31.1 0 12).toInt + 1 := add_z rfl (by decide) (by omega) (by omega)
      omega
    obtain ⟨G1, hG1⟩ : ∃ G1, G1 = (wA (wA (wA (wA (wA G 11 ((w31.1 0 12).toNatClampNeg) (0 : Int32)) 0 12 ((w31.1 0 12) + (1 : Int32))) 13 (((w31.1 0 15) + (1 : Int32)).toNatClampNeg) (12 : Int32)) 14 (((w31.1 0 15) + (1 : Int32)).toNatClampNeg) (0 : Int32)) 0 15 (((w31.1 0 15) + (1 : Int32)) + (1 : Int32))) := ⟨_, rfl⟩
    have m1 : EMS 1 G G1 := by
      rw [hG1, hG, hT]
      exact EMS.w0 (EMS.wa (EMS.wa (EMS.o1 (EMS.wa EMS.rf (by decide)) rfl) (by decide)) (by decide)) (by decide)
    have J6 := m1.j N6.1
    have G1_47 : G1.1 0 47 = G.1 0 47 := by rw [hG1]; rfl
    have G1_15 : G1.1 0 15 = G.1 0 15 + 1 := by rw [G15, hG1]; rfl
    have G1_29 : G1.1 29 = G.1 29 := by rw [hG1]; rfl
    have G1_30 : G1.1 0 30 = G.1 0 30 := by rw [hG1]; rfl
    have G1_32 : G1.1 0 32 = G.1 0 32 := by rw [hG1]; rfl
    have k1G : kpS v G1 := kG.tr (by rw [hG1]; exact ⟨⟨rfl, rfl, rfl, rfl, rfl⟩, rfl, rfl, rfl, rfl⟩)
    have p7 : (G1.1 0 15).toInt = (G.1 0 15).toInt + 1 := by rw [G1_15]; exact add_z rfl (by decide) (by omega) (by omega)
    rcases h with ⟨w134, hj2, -, l134, -, m134, -, -, -, -, h⟩ | ⟨r199, h7, -, c7, u9, h8, f9, -⟩
    rotate_left
    · cases f9
    obtain ⟨r199, h8, -, hj2⟩ := hj2
    rw [← hT, ← hG, ← hG1] at h8 hj2
    have l134 : (G.1 0 47).toInt + 0 ≤ (w134.1 0 47).toInt ∧ (w134.1 0 47).toInt ≤ 1500 := by rw [G47]; exact l134
    have m134 : (G1.1 0 15).toInt ≤ (w134.1 0 15).toInt ∧ (w134.1 0 15).toInt - 10 * (w134.1 0 47).toInt ≤ (G1.1 0 15).toInt - 10 * (G.1 0 47).toInt + 1 := by rw [G1_15, G15, G47]; exact m134
    obtain ⟨os, u1, u2, J134, ⟨r29, r30', r32⟩, k134⟩ := oOptM (pa := 41) (q := (41, 31)) (m := 31) (y := w134) hX (by decide) rfl (by decide) J6 (by omega) (by omega) h8 (by
      rcases hj2 with hj2 | ⟨c3, u527, h4, k4, e4⟩
      · exact Or.inl hj2
      · have q15 := k4.2.2.2.2.1
        have q47 := k4.2.1
        rw [G1_47] at q15 q47
        exact Or.inr ⟨c3, u527, h4, k4, by omega, e4⟩)
    have kn134 : knM K w134 = knM K v := (knM_of r29 r30').trans ((knM_of G1_29 G1_30).trans ((knM_of G29 G30).trans knT))
    have knG1 : knM K G1 = knM K v := (knM_of G1_29 G1_30).trans ((knM_of G29 G30).trans knT)
    have f32 : w134.1 0 32 = v.1 0 32 := by rw [r32, G1_32, G32, tt32, s32, o32]
    rw [knG1, G1_32, G32, tt32, s32, o32, G1_47, G47] at u1
    rcases h with ⟨u9, -, f9, -⟩ | ⟨h9, k9, x75, -, x97, -, h⟩
    · cases f9
    have Q1 := oClose (q := (41, 31)) (m := 31) h9 J134 (by decide) rfl (by decide)
    have t31 : gTok e 31 (w134.1 0 47) = some (w134.1 0 47 + 1) := gTok_of Q1.2
    obtain ⟨Y, hY⟩ : ∃ Y, Y = (wA (wA w134 0 47 ((w134.1 0 47) + (1 : Int32))) 0 48 ((w134.1 0 48) - (1 : Int32))) := ⟨_, rfl⟩
    have NY : ND Y := by rw [hY]; exact ndO J134 k9.1
    rw [← hY] at Q1
    obtain ⟨W, hW⟩ : ∃ W, W = (wA (wA (wA (wA (wA (wA (wA (wA Y 11 ((w134.1 0 12).toNatClampNeg) (0 : Int32)) 0 12 ((w134.1 0 12) + (1 : Int32))) 11 ((w134.1 0 12).toNatClampNeg) x75) 13 ((w134.1 0 15).toNatClampNeg) (12 : Int32)) 14 ((w134.1 0 15).toNatClampNeg) (w31.1 0 15)) 0 15 ((w134.1 0 15) + (1 : Int32))) 11 ((w31.1 0 12).toNatClampNeg) x97) 14 (((w31.1 0 15) + (1 : Int32)).toNatClampNeg) ((w134.1 0 15) + (1 : Int32))) := ⟨_, rfl⟩
    have mW : EMS 1 Y W := by
      rw [hW, hY]
      exact EMS.wa (EMS.wa (EMS.w0 (EMS.wa (EMS.wa (EMS.wa (EMS.o1 (EMS.wa EMS.rf (by decide)) rfl) (by decide)) (by decide)) (by decide)) (by decide)) (by decide)) (by decide)
    rcases h with ⟨u9, -, f9, -⟩ | ⟨ub, h10, k10, x153, -, U, h11, -, -, eu⟩
    · cases f9
    rw [← hY, ← hW] at h10 k10
    obtain ⟨b, c1, c2⟩ := oBodyM hS hSs h10 (mW.j Q1.1) (nd_e mW NY)
    have W47 : W.1 0 47 = w134.1 0 47 + 1 := by rw [hW, hY]; rfl
    have W15 : W.1 0 15 = w134.1 0 15 + 1 := by rw [hW, hY]; rfl
    have W29 : W.1 29 = w134.1 29 := by rw [hW, hY]; rfl
    have W30 : W.1 0 30 = w134.1 0 30 := by rw [hW, hY]; rfl
    have W32 : W.1 0 32 = w134.1 0 32 := by rw [hW, hY]; rfl
    have knW : knM K W = knM K v := (knM_of W29 W30).trans kn134
    rw [knW, W32, f32, W47] at c1
    have l9 := k9.1
    have j9 : (W.1 0 47).toInt = (w134.1 0 47).toInt + 1 := by rw [W47]; exact add_z rfl (by decide) (by omega) (by omega)
    have p9 : (W.1 0 15).toInt = (w134.1 0 15).toInt + 1 := by rw [W15]; exact add_z rfl (by decide) (by omega) (by omega)
    have l10 := k10.2.1
    have m10 := k10.2.2.2.1
    obtain ⟨X, hX9⟩ : ∃ X, X = (wA (wA (wA (wA (wA (wA ub 11 ((ub.1 0 12).toNatClampNeg) (0 : Int32)) 0 12 ((ub.1 0 12) + (1 : Int32))) 11 ((ub.1 0 12).toNatClampNeg) x153) 13 ((ub.1 0 15).toNatClampNeg) (12 : Int32)) 14 ((ub.1 0 15).toNatClampNeg) (((w31.1 0 15) + (1 : Int32)) + (1 : Int32))) 0 15 ((ub.1 0 15) + (1 : Int32))) := ⟨_, rfl⟩
    rw [← hX9] at h11
    have nb := natI (a := ub.1 0 15) (by omega)
    have nG := natI (a := G.1 0 15) (by omega)
    have X14 : X.1 14 = upd (ub.1 14) (ub.1 0 15).toNatClampNeg ((w31.1 0 15) + (1 : Int32) + 1) := by rw [hX9]; rfl
    have C := forC (v := v) (G := G) (G1 := G1) (w := w134) (W := W) (ub := ub) (X := X) (st := dropE os) (tp := w31.1 0 15) (hl := [evx 24 0 0] ++ [] ++ [fwE 19 0 (dropE os ++ [evx 19 0 0])]) ⟨by omega, by omega, by omega⟩ (by rw [hG1, G15]; rfl) (by rw [hG1, G15]; rfl) G1_15 (by rw [hG1]; rfl) (by rw [hG1]; rfl) (by rw [hG1]; exact ⟨rfl, rfl, rfl⟩) u2 (by rw [hW, hY]; rfl) (by rw [hW, hY, G15]; rfl) W15 (by rw [hW, hY]; rfl) (by rw [hW, hY]; rfl) (by rw [hW, hY]; exact ⟨rfl, rfl, rfl⟩) ((k1G.tr k134).tr (by rw [hW, hY]; exact ⟨⟨rfl, rfl, rfl, rfl, rfl⟩, rfl, rfl, rfl, rfl⟩)) (by omega) c2 hpa (by rw [G15]) (by omega) (by rw [hX9]; rfl) (fun j hj => by rw [X14]) (by rw [hX9]; rfl) (by rw [hX9]; rfl) (by rw [hX9]; rfl) (by rw [hX9]; exact ⟨rfl, rfl, rfl⟩) (by rw [hX9]; rfl) (by rw [hX9]; rfl) (by rw [hX9]; exact ⟨rfl, rfl, rfl, rfl⟩) h11 (by
      rw [loL_app, loL_app, show loL [evx 24 0 0] = 1 from rfl, show loL [fwE 19 0 (dropE os ++ [evx 19 0 0])] = 1 from rfl, loL_nil]
      omega)
    obtain ⟨⟨a1, a2, a3, a4⟩, ⟨a5, a6, a7⟩, a8, a9⟩ := C
    have g29 : ∀ j : Nat, (j : Int) < (v.1 0 30).toInt → U.1 29 j = v.1 29 j := fun j hj => by
      have : U.1 29 = ub.1 29 := a9.2.1.1.trans (by rw [hX9]; rfl)
      rw [this, c2.2.2.2.2.2.2.1 j (by rw [W30, r30', G1_30, G30, tt30, s30, o30]; exact hj), W29, r29, G1_29, G29, tt29, s29, o29]
    have g30u : U.1 0 30 = ub.1 0 30 := a9.2.1.2.1.trans (by rw [hX9]; rfl)
    have g30 : U.1 0 30 = v.1 0 30 := g30u.trans (by rw [c2.2.2.2.2.2.1, W30, r30', G1_30, G30, tt30, s30, o30])
    have g32 : U.1 0 32 = v.1 0 32 := a9.2.1.2.2.1.trans (by rw [hX9]; exact c2.2.2.2.2.1.trans (by rw [W32, f32]))
    have kn : knM K u = knM K v := by
      have : knM K U = knM K ub := knM_of (a9.2.1.1.trans (by rw [hX9]; rfl)) g30u
      have k0 : knM K u = knM K U := by rw [eu]; rfl
      rw [k0, this, c2.2.2.2.2.2.2.2, knW]
    have e47 : u.1 0 47 = ub.1 0 47 := by rw [eu]; exact a9.2.1.2.2.2.trans (by rw [hX9]; rfl)
    rw [t30, Option.bind_some, x1, Option.bind_some]
    show ∃ a, ((gTok e 36 (w31.1 0 47)).bind _) = _ ∧ _
    rw [t36, Option.bind_some]
    have go : gOpt E 36 e (knM K v) (v.1 0 32) (w31.1 0 47 + 1) = some (none, w31.1 0 47 + 1) := by
      unfold gOpt
      rw [if_pos q36]
    rw [go, Option.bind_some]
    have gt : gTok e 36 (w31.1 0 47 + 1) = some (w31.1 0 47 + 1 + 1) := if_pos q36
    show ∃ a, ((gTok e 36 (w31.1 0 47 + 1)).bind _) = _ ∧ _
    rw [gt, Option.bind_some, u1, Option.bind_some]
    show ∃ a, ((gTok e 31 (w134.1 0 47)).bind _) = _ ∧ _
    rw [t31, Option.bind_some, c1, Option.bind_some]
    have FG : OF G U := OF.cf a2 (fun j hj => ⟨(a5 j hj).1, by
      rw [(a5 j hj).2.1, ← (a5 j hj).2.2, X14]
      exact updN_ (by omega)⟩)
    have AU : OA K G U _ := ⟨by
      rw [loL_app, loL_app, loL_app, loL_app, loL_rsv, show loL [fwE 19 0 (dropE os ++ [evx 19 0 0])] = 1 from rfl]
      show _ = _ + (((1 + loL (dropE os) + 1 + (loL b + 1) : Nat)) : Int)
      omega, FG, a3, a4⟩
    refine ⟨_, ?_, fin eu (AG.tr AU p0) a8.1 a8.2 g32 g30 g29⟩
    rw [kn, e47]
    unfold gForL
    simp only [List.append_assoc, List.nil_append]
  · -- a question
    rcases h with ⟨u9, -, f9, -⟩ | ⟨u241, h6, k6, x254, r253, -, -, h⟩
    · cases f9
    rw [← hT] at h6 k6
    obtain ⟨ca, y1, y2⟩ := hX e T5 u241 h6 k6 J5 (by rw [tt15, p5]; omega)
    rw [knT, tt32, s32, o32, tt47] at y1
    have q15 := k6.2.2.2.2.1
    have q47 := k6.2.1
    rw [tt15, tt47] at q15
    rw [tt47] at q47
    have n241 := natI (a := u241.1 0 15) (by omega)
    have A241 : OA K v u241 (dropE oa ++ [evx 24 0 0] ++ ca) := AT.tr y2.2.1 p0
    have c15 := y2.2.1.1
    rw [tt15, p5] at c15
    obtain ⟨D, hD⟩ : ∃ D, D = (wA (wA (wA (wA (wA (wA (wA (wA u241 11 ((u241.1 0 12).toNatClampNeg) x254) 0 12 ((u241.1 0 12) + (1 : Int32))) 11 (((u241.1 0 12) + (1 : Int32)).toNatClampNeg) (-1 : Int32)) 0 12 (((u241.1 0 12) + (1 : Int32)) + (1 : Int32))) 13 ((u241.1 0 15).toNatClampNeg) 10) 14 ((u241.1 0 15).toNatClampNeg) 0) 0 15 ((u241.1 0 15) + (1 : Int32))) 0 60 (u241.1 0 15)) := ⟨_, rfl⟩
    have mD : EMS 2 u241 D := by
      rw [hD]
      exact EMS.w0 (EMS.w0 (EMS.wa (EMS.wa (EMS.o1 (EMS.wa (EMS.o1 (EMS.wa EMS.rf (by decide)) rfl) (by decide)) rfl) (by decide)) (by decide)) (by decide)) (by decide)
    rcases h with ⟨u9, -, f9, -⟩ | ⟨h7, k7, h⟩
    · cases f9
    rw [← hD] at h7 k7
    have N6 := oNeed (q := (59, 36)) (m := 36) h7 (mD.j y2.1) (by decide) rfl (by decide)
    have D47 : D.1 0 47 = u241.1 0 47 := by rw [hD]; rfl
    have l6 := k7.1
    rw [D47] at l6
    obtain ⟨G, hG⟩ : ∃ G, G = wA D 0 47 ((u241.1 0 47) + (1 : Int32)) := ⟨_, rfl⟩
    rw [← hG] at N6
    have G47 : G.1 0 47 = u241.1 0 47 + 1 := by rw [hG]; rfl
    have G15 : G.1 0 15 = (u241.1 0 15) + (1 : Int32) := by rw [hG, hD]; rfl
    have G13 : G.1 13 = upd (u241.1 13) (u241.1 0 15).toNatClampNeg 10 := by rw [hG, hD]; rfl
    have G14 : G.1 14 = upd (u241.1 14) (u241.1 0 15).toNatClampNeg 0 := by rw [hG, hD]; rfl
    have G29 : G.1 29 = T5.1 29 := by rw [hG, hD]; exact y2.2.2.1
    have G30 : G.1 0 30 = T5.1 0 30 := by rw [hG, hD]; exact y2.2.2.2.1
    have G32 : G.1 0 32 = T5.1 0 32 := by rw [hG, hD]; exact y2.2.2.2.2
    have kG : kpS v G := (kT.tr (kpS.fg k6.1)).tr (by rw [hG, hD]; exact ⟨⟨rfl, rfl, rfl, rfl, rfl⟩, rfl, rfl, rfl, rfl⟩)
    have g241 : G.1 0 39 = u241.1 0 39 := by rw [hG, hD]; rfl
    have j6 : (G.1 0 47).toInt = (u241.1 0 47).toInt + 1 := by
      rw [G47]
      exact add_z rfl (by decide) (by omega) (by omega)
    have p6 : (G.1 0 15).toInt = (u241.1 0 15).toInt + 1 := by rw [G15]; exact add_z rfl (by decide) (by omega) (by omega)
    have hpa : (u241.1 0 12 + 1 + 1 + 1).toInt ≠ -1 := by
      have q12 := k6.2.2.2.1
      rw [tt12, tt47] at q12
      have h1 : (u241.1 0 12 + 1).toInt = (u241.1 0 12).toInt + 1 := add_z rfl (by decide) (by omega) (by omega)
      have h2 : (u241.1 0 12 + 1 + 1).toInt = (u241.1 0 12 + 1).toInt + 1 := add_z rfl (by decide) (by omega) (by omega)
      have h3 : (u241.1 0 12 + 1 + 1 + 1).toInt = (u241.1 0 12 + 1 + 1).toInt + 1 := add_z rfl (by decide) (by omega) (by omega)
      omega
    have f241 : CFq u241 G := CFq.sm (by omega) g241 (by rw [hG, hD]; rfl) (by rw [hG, hD]; exact ⟨rfl, rfl, rfl⟩) (fun j hj => by rw [G13]; exact updN_ (by omega))
    obtain ⟨G1, hG1⟩ : ∃ G1, G1 = (wA (wA (wA (wA (wA G 11 ((((u241.1 0 12) + (1 : Int32)) + (1 : Int32)).toNatClampNeg) (0 : Int32)) 0 12 ((((u241.1 0 12) + (1 : Int32)) + (1 : Int32)) + (1 : Int32))) 13 (((u241.1 0 15) + (1 : Int32)).toNatClampNeg) (12 : Int32)) 14 (((u241.1 0 15) + (1 : Int32)).toNatClampNeg) (0 : Int32)) 0 15 (((u241.1 0 15) + (1 : Int32)) + (1 : Int32))) := ⟨_, rfl⟩
    have m1 : EMS 1 G G1 := by
      rw [hG1, hG, hD]
      exact EMS.w0 (EMS.wa (EMS.wa (EMS.o1 (EMS.wa EMS.rf (by decide)) rfl) (by decide)) (by decide)) (by decide)
    have J6 := m1.j N6.1
    have G1_47 : G1.1 0 47 = G.1 0 47 := by rw [hG1]; rfl
    have G1_15 : G1.1 0 15 = G.1 0 15 + 1 := by rw [G15, hG1]; rfl
    have G1_29 : G1.1 29 = G.1 29 := by rw [hG1]; rfl
    have G1_30 : G1.1 0 30 = G.1 0 30 := by rw [hG1]; rfl
    have G1_32 : G1.1 0 32 = G.1 0 32 := by rw [hG1]; rfl
    have k1G : kpS v G1 := kG.tr (by rw [hG1]; exact ⟨⟨rfl, rfl, rfl, rfl, rfl⟩, rfl, rfl, rfl, rfl⟩)
    have p7 : (G1.1 0 15).toInt = (G.1 0 15).toInt + 1 := by rw [G1_15]; exact add_z rfl (by decide) (by omega) (by omega)
    rcases h with ⟨w134, hj2, -, l134, -, m134, -, -, -, -, h⟩ | ⟨r199, h7, -, c7, u9, h8, f9, -⟩
    rotate_left
    · cases f9
    obtain ⟨r199, h8, -, hj2⟩ := hj2
    rw [← hD, ← hG, ← hG1] at h8 hj2
    have l134 : (G.1 0 47).toInt + 0 ≤ (w134.1 0 47).toInt ∧ (w134.1 0 47).toInt ≤ 1500 := by rw [G47]; exact l134
    have m134 : (G1.1 0 15).toInt ≤ (w134.1 0 15).toInt ∧ (w134.1 0 15).toInt - 10 * (w134.1 0 47).toInt ≤ (G1.1 0 15).toInt - 10 * (G.1 0 47).toInt + 1 := by rw [G1_15, G15, G47]; exact m134
    obtain ⟨os, u1, u2, J134, ⟨r29, r30', r32⟩, k134⟩ := oOptM (pa := 41) (q := (41, 31)) (m := 31) (y := w134) hX (by decide) rfl (by decide) J6 (by omega) (by omega) h8 (by
      rcases hj2 with hj2 | ⟨c3, u527, h4, k4, e4⟩
      · exact Or.inl hj2
      · have q15 := k4.2.2.2.2.1
        have q47 := k4.2.1
        rw [G1_47] at q15 q47
        exact Or.inr ⟨c3, u527, h4, k4, by omega, e4⟩)
    have kn134 : knM K w134 = knM K v := (knM_of r29 r30').trans ((knM_of G1_29 G1_30).trans ((knM_of G29 G30).trans knT))
    have knG1 : knM K G1 = knM K v := (knM_of G1_29 G1_30).trans ((knM_of G29 G30).trans knT)
    have f32 : w134.1 0 32 = v.1 0 32 := by rw [r32, G1_32, G32, tt32, s32, o32]
    rw [knG1, G1_32, G32, tt32, s32, o32, G1_47, G47] at u1
    rcases h with ⟨u9, -, f9, -⟩ | ⟨h9, k9, x75, -, x97, -, h⟩
    · cases f9
    have Q1 := oClose (q := (41, 31)) (m := 31) h9 J134 (by decide) rfl (by decide)
    have t31 : gTok e 31 (w134.1 0 47) = some (w134.1 0 47 + 1) := gTok_of Q1.2
    obtain ⟨Y, hY⟩ : ∃ Y, Y = (wA (wA w134 0 47 ((w134.1 0 47) + (1 : Int32))) 0 48 ((w134.1 0 48) - (1 : Int32))) := ⟨_, rfl⟩
    have NY : ND Y := by rw [hY]; exact ndO J134 k9.1
    rw [← hY] at Q1
    obtain ⟨W, hW⟩ : ∃ W, W = (wA (wA (wA (wA (wA (wA (wA (wA Y 11 ((w134.1 0 12).toNatClampNeg) (0 : Int32)) 0 12 ((w134.1 0 12) + (1 : Int32))) 11 ((w134.1 0 12).toNatClampNeg) x75) 13 ((w134.1 0 15).toNatClampNeg) (12 : Int32)) 14 ((w134.1 0 15).toNatClampNeg) (w31.1 0 15)) 0 15 ((w134.1 0 15) + (1 : Int32))) 11 ((((u241.1 0 12) + (1 : Int32)) + (1 : Int32)).toNatClampNeg) x97) 14 (((u241.1 0 15) + (1 : Int32)).toNatClampNeg) ((w134.1 0 15) + (1 : Int32))) := ⟨_, rfl⟩
    have mW : EMS 1 Y W := by
      rw [hW, hY]
      exact EMS.wa (EMS.wa (EMS.w0 (EMS.wa (EMS.wa (EMS.wa (EMS.o1 (EMS.wa EMS.rf (by decide)) rfl) (by decide)) (by decide)) (by decide)) (by decide)) (by decide)) (by decide)
    rcases h with ⟨u9, -, f9, -⟩ | ⟨ub, h10, k10, x400, -, -, x430, -, U, h11, -, -, eu⟩
    · cases f9
    rw [← hY, ← hW] at h10 k10
    obtain ⟨b, c1, c2⟩ := oBodyM hS hSs h10 (mW.j Q1.1) (nd_e mW NY)
    have W47 : W.1 0 47 = w134.1 0 47 + 1 := by rw [hW, hY]; rfl
    have W15 : W.1 0 15 = w134.1 0 15 + 1 := by rw [hW, hY]; rfl
    have W29 : W.1 29 = w134.1 29 := by rw [hW, hY]; rfl
    have W30 : W.1 0 30 = w134.1 0 30 := by rw [hW, hY]; rfl
    have W32 : W.1 0 32 = w134.1 0 32 := by rw [hW, hY]; rfl
    have knW : knM K W = knM K v := (knM_of W29 W30).trans kn134
    rw [knW, W32, f32, W47] at c1
    have l9 := k9.1
    have j9 : (W.1 0 47).toInt = (w134.1 0 47).toInt + 1 := by rw [W47]; exact add_z rfl (by decide) (by omega) (by omega)
    have p9 : (W.1 0 15).toInt = (w134.1 0 15).toInt + 1 := by rw [W15]; exact add_z rfl (by decide) (by omega) (by omega)
    have l10 := k10.2.1
    have m10 := k10.2.2.2.1
    obtain ⟨X, hX9⟩ : ∃ X, X = (wA (wA (wA (wA (wA (wA (wA (wA ub 11 ((ub.1 0 12).toNatClampNeg) (0 : Int32)) 0 12 ((ub.1 0 12) + (1 : Int32))) 11 ((ub.1 0 12).toNatClampNeg) x400) 13 ((ub.1 0 15).toNatClampNeg) (12 : Int32)) 14 ((ub.1 0 15).toNatClampNeg) (((u241.1 0 15) + (1 : Int32)) + (1 : Int32))) 0 15 ((ub.1 0 15) + (1 : Int32))) 11 r253.toNatClampNeg x430) 14 ((u241.1 0 15).toNatClampNeg) ((ub.1 0 15) + (1 : Int32))) := ⟨_, rfl⟩
    rw [← hX9] at h11
    have nb := natI (a := ub.1 0 15) (by omega)
    have nG := natI (a := G.1 0 15) (by omega)
    have X14 : X.1 14 = upd (upd (ub.1 14) (ub.1 0 15).toNatClampNeg ((u241.1 0 15) + (1 : Int32) + 1)) (u241.1 0 15).toNatClampNeg ((ub.1 0 15) + (1 : Int32)) := by rw [hX9]; rfl
    have C := forC (v := v) (G := G) (G1 := G1) (w := w134) (W := W) (ub := ub) (X := X) (st := dropE os) (tp := w31.1 0 15) (hl := [evx 24 0 0] ++ (ca ++ [fwE 16 0 ([fwE 19 0 (dropE os ++ [evx 19 0 0])] ++ (dropE os ++ [evx 19 0 0]) ++ b ++ [evx 19 0 0])]) ++ [fwE 19 0 (dropE os ++ [evx 19 0 0])]) ⟨by omega, by omega, by omega⟩ (by rw [hG1, G15]; rfl) (by rw [hG1, G15]; rfl) G1_15 (by rw [hG1]; rfl) (by rw [hG1]; rfl) (by rw [hG1]; exact ⟨rfl, rfl, rfl⟩) u2 (by rw [hW, hY]; rfl) (by rw [hW, hY, G15]; rfl) W15 (by rw [hW, hY]; rfl) (by rw [hW, hY]; rfl) (by rw [hW, hY]; exact ⟨rfl, rfl, rfl⟩) ((k1G.tr k134).tr (by rw [hW, hY]; exact ⟨⟨rfl, rfl, rfl, rfl, rfl⟩, rfl, rfl, rfl, rfl⟩)) (by omega) c2 hpa (by rw [G15]) (by omega) (by rw [hX9]; rfl) (fun j hj => by rw [X14]; exact updN_ (by omega)) (by rw [hX9]; rfl) (by rw [hX9]; rfl) (by rw [hX9]; rfl) (by rw [hX9]; exact ⟨rfl, rfl, rfl⟩) (by rw [hX9]; rfl) (by rw [hX9]; rfl) (by rw [hX9]; exact ⟨rfl, rfl, rfl, rfl⟩) h11 (by
      rw [loL_app, loL_app, show loL [evx 24 0 0] = 1 from rfl, show loL [fwE 19 0 (dropE os ++ [evx 19 0 0])] = 1 from rfl, loL_app, show loL [fwE 16 0 ([fwE 19 0 (dropE os ++ [evx 19 0 0])] ++ (dropE os ++ [evx 19 0 0]) ++ b ++ [evx 19 0 0])] = 1 from rfl]
      omega)
    obtain ⟨⟨a1, a2, a3, a4⟩, ⟨a5, a6, a7⟩, a8, a9⟩ := C
    have g29 : ∀ j : Nat, (j : Int) < (v.1 0 30).toInt → U.1 29 j = v.1 29 j := fun j hj => by
      have : U.1 29 = ub.1 29 := a9.2.1.1.trans (by rw [hX9]; rfl)
      rw [this, c2.2.2.2.2.2.2.1 j (by rw [W30, r30', G1_30, G30, tt30, s30, o30]; exact hj), W29, r29, G1_29, G29, tt29, s29, o29]
    have g30u : U.1 0 30 = ub.1 0 30 := a9.2.1.2.1.trans (by rw [hX9]; rfl)
    have g30 : U.1 0 30 = v.1 0 30 := g30u.trans (by rw [c2.2.2.2.2.2.1, W30, r30', G1_30, G30, tt30, s30, o30])
    have g32 : U.1 0 32 = v.1 0 32 := a9.2.1.2.2.1.trans (by rw [hX9]; exact c2.2.2.2.2.1.trans (by rw [W32, f32]))
    have kn : knM K u = knM K v := by
      have : knM K U = knM K ub := knM_of (a9.2.1.1.trans (by rw [hX9]; rfl)) g30u
      have k0 : knM K u = knM K U := by rw [eu]; rfl
      rw [k0, this, c2.2.2.2.2.2.2.2, knW]
    have e47 : u.1 0 47 = ub.1 0 47 := by rw [eu]; exact a9.2.1.2.2.2.trans (by rw [hX9]; rfl)
    rw [t30, Option.bind_some, x1, Option.bind_some]
    show ∃ a, ((gTok e 36 (w31.1 0 47)).bind _) = _ ∧ _
    rw [t36, Option.bind_some]
    have go : gOpt E 36 e (knM K v) (v.1 0 32) (w31.1 0 47 + 1) = some (some ca, u241.1 0 47) := by
      unfold gOpt
      rw [if_neg (fun q => i30.mpr (by rw [tt47]; exact e36.mpr q) c30), y1, Option.bind_some]
    rw [go, Option.bind_some]
    have gt : gTok e 36 (u241.1 0 47) = some (u241.1 0 47 + 1) := by
      rw [← D47]
      exact gTok_of N6.2
    show ∃ a, ((gTok e 36 (u241.1 0 47)).bind _) = _ ∧ _
    rw [gt, Option.bind_some, u1, Option.bind_some]
    show ∃ a, ((gTok e 31 (w134.1 0 47)).bind _) = _ ∧ _
    rw [t31, Option.bind_some, c1, Option.bind_some]
    obtain ⟨un, hun⟩ : ∃ un, un = fwE 16 0 ([fwE 19 0 (dropE os ++ [evx 19 0 0])] ++ (dropE os ++ [evx 19 0 0]) ++ b ++ [evx 19 0 0]) := ⟨_, rfl⟩
    have FU : OF u241 U := OF.cf (f241.tr a2) (fun j hj => by
      have F := a5 j (by omega)
      refine ⟨by rw [F.1, G13]; exact updN_ (by omega), ?_⟩
      rw [F.2.1, X14]
      refine Eq.trans (updN_ (by omega)) (Eq.trans (updN_ (by omega)) ?_)
      rw [F.2.2, G14]
      exact updN_ (by omega))
    have F0 := a5 (u241.1 0 15).toNatClampNeg (by omega)
    have pb : (ub.1 0 15 + 1).toInt = (ub.1 0 15).toInt + 1 := add_z rfl (by decide) (by omega) (by omega)
    have lun : (un.2.2.2.2.1 : Int) = 1 + (1 + (loL (dropE os) + 1) + loL b + 1) := by
      rw [hun]
      show (1 : Int) + (loL ([fwE 19 0 (dropE os ++ [evx 19 0 0])] ++ (dropE os ++ [evx 19 0 0]) ++ b ++ [evx 19 0 0]) : Int) = _
      rw [loL_app, loL_app, loL_app, loL_app, show loL [evx 19 0 0] = 1 from rfl, show loL [fwE 19 0 (dropE os ++ [evx 19 0 0])] = 1 from rfl]
      omega
    have M0 : moE K U (u241.1 0 39).toInt un (u241.1 0 15).toNatClampNeg := by
      rw [hun] at lun ⊢
      refine moE.jump (Or.inl rfl) (by omega) (by rw [F0.1, G13]; exact updS) ?_
      rw [F0.2.1, X14, updS, pb]
      rw [loL_app, loL_app, loL_app, loL_app, show loL [evx 19 0 0] = 1 from rfl, show loL [fwE 19 0 (dropE os ++ [evx 19 0 0])] = 1 from rfl]
      omega
    have AU : OA K u241 U ([un] ++ ([fwE 19 0 (dropE os ++ [evx 19 0 0])] ++ dropE os ++ [bwE 19 0 ([evx 24 0 0] ++ (ca ++ [fwE 16 0 ([fwE 19 0 (dropE os ++ [evx 19 0 0])] ++ (dropE os ++ [evx 19 0 0]) ++ b ++ [evx 19 0 0])]) ++ [fwE 19 0 (dropE os ++ [evx 19 0 0])] ++ dropE os)] ++ (rsv (d3p (b ++ [evx 19 0 0])) (d3n (dropE os ++ [evx 19 0 0])) b ++ [bwE 19 0 (dropE os ++ [evx 19 0 0] ++ b)]))) := ⟨by
      rw [loL_app, loL_app, loL_app, loL_app, loL_app, loL_rsv, show loL [fwE 19 0 (dropE os ++ [evx 19 0 0])] = 1 from rfl]
      have : loL [un] = 1 := by rw [hun]; rfl
      rw [this]
      show _ = _ + ((1 + (1 + loL (dropE os) + 1 + (loL b + 1)) : Nat) : Int)
      omega, FU, CJ.fc f241 g241 a3, (MOq.one M0).app (by
      have : loL [un] = 1 := by rw [hun]; rfl
      rw [this, show (u241.1 0 15).toNatClampNeg + 1 = (G.1 0 15).toNatClampNeg by omega]
      rw [g241] at a4
      exact a4)⟩
    refine ⟨_, ?_, fin eu (A241.tr AU p0) a8.1 a8.2 g32 g30 g29⟩
    rw [kn, e47, hun]
    unfold gForL
    simp only [List.append_assoc, List.nil_append]
end WWF
