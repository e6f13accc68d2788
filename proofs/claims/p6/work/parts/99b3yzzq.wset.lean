/-! the reference's words: index, settings -/
def WSi (n : Int) (K : TK) (e : PE) (v u : MS) (a : List EV) : Prop := JM n K e u ∧ WAi K v u a ∧ (u.1 29 = v.1 29 ∧ u.1 0 30 = v.1 0 30 ∧ u.1 0 32 = v.1 0 32)
def XWe (n : Int) (K : TK) (c : RM1) (E : EvE) : Prop := ∀ (e : PE) (v u : MS), c v false u → K_m_expression v u → JM n K e v → ∃ a, E true e (knM K v) (v.1 0 32) (v.1 0 47) = some (a, u.1 0 47) ∧ WSi n K e v u a
section ZWQ
variable {n : Int} {K : TK} {e : PE} {v u w x y : MS} {a b pre post : List EV} {r pa pb pc1 pd : Int32} {c : RM1} {E : EvE} {Es : FE} {m : Int}
set_option maxHeartbeats 800000 in
theorem oIndexW (hX : XWe n K c E) (hE : HME n K c Es) (h : Q_m_index c v pa false u) (J : JM n K e v) (hk : (e.1 (v.1 0 47)).toInt = 34) : ∃ a, gIndex E pa e (knM K v) (v.1 0 32) (v.1 0 47) = some (a, u.1 0 47) ∧ WSi n K e v u a := by
  have JU := (rIndex (g := g00) hE h J og00 hk).jj
  obtain ⟨z1, z2, z3, z4, z5, z6, z15, z8, z9, z10, h⟩ := h
  obtain ⟨zz, h⟩ := h
  rcases h with ⟨u9, -, f, -⟩ | ⟨h1, k1, ⟨u9, -, f, -⟩ | ⟨u10, h2, k2, ⟨u9, -, f, -⟩ | ⟨h3, k3, r20, h20, r23, h23, r30, h30, r33, h33, r40, h40, u45, hu45, r50, h50, r62, h62, r69, h69, u74, hu74, u80, f80, k80, r85, h85, -, eu⟩⟩⟩
  · cases f
  · cases f
  · cases f
  have O1 := oOpen (q := (91, 34)) (m := 34) h1 J (by decide) rfl (by decide)
  obtain ⟨a, x1, x2⟩ := hX e _ u10 h2 k2 O1.1
  have C1 := oClose (q := (93, 35)) (m := 35) h3 x2.1 (by decide) rfl (by decide)
  have x1 : E true e (knM K v) (v.1 0 32) (v.1 0 47 + 1) = some (a, u10.1 0 47) := x1
  have A0 : WAi K v (wA (wA v 0 47 ((v.1 0 47) + (1 : Int32))) 0 48 ((v.1 0 48) + (1 : Int32))) [] := WAi.sm rfl rfl
  obtain rfl := eLui h23 (eHi h20)
  obtain rfl := eLo h30
  obtain rfl := eAddi h33
  obtain rfl := eB h40 (f := 24675) (by decide)
  obtain rfl := eAddi h50
  obtain rfl := eI h62 (f := 4115) (by decide)
  obtain rfl := eLui h69 hw00
  obtain rfl := eR h85 (f := 51) (by decide)
  have A1 : EMi u10 u45 [uW 6 (u10.1 24 pa.toNatClampNeg), iW 19 6 6 (loW (u10.1 24 pa.toNatClampNeg)), bW 24675 10 6 12] [] := by rw [hu45]; exact EMi.w3 rfl rfl
  have A2 : EMi u45 u74 [iW 19 17 0 3, 1048691, iW 4115 10 10 2, uW 6 0] [] := by rw [hu74]; exact EMi.w4 rfl rfl
  have e45 : u45.1 0 12 = u10.1 0 12 + 1 + 1 + 1 := by rw [hu45]; rfl
  have A3 := (A1.tr A2).fx (k := 6) f80 (fun g1 g2 => by
    have q1 := ad3 g1 g2
    rw [e45]
    have q2 : (u10.1 0 12 + 1 + 1 + 1 + 1).toInt = (u10.1 0 12).toInt + 3 + 1 := add_z q1 (by decide) (by omega) (by omega)
    have q3 : (u10.1 0 12 + 1 + 1 + 1 + 1 + 1).toInt = (u10.1 0 12).toInt + 3 + 1 + 1 := add_z q2 (by decide) (by omega) (by omega)
    have q4 : (u10.1 0 12 + 1 + 1 + 1 + 1 + 1 + 1).toInt = (u10.1 0 12).toInt + 3 + 1 + 1 + 1 := add_z q3 (by decide) (by omega) (by omega)
    rw [q4]
    omega)
  have S : WAi K u10 u [evx 7 pa 0] := EMi.ev (by rw [rw7, eu]; exact A3.snc rfl rfl) rfl
  have T := (A0.tn x2.2.1).tr S
  have e47 : u.1 0 47 = u10.1 0 47 + 1 := by
    rw [eu]
    show u80.1 0 47 = _
    rw [k80.1.2.1 47 (by decide), hu74]
    show u45.1 0 47 = _
    rw [hu45]
    rfl
  have k80f : ∀ j, j ∉ [43] → u80.1 0 j = u74.1 0 j := fun j hj => k80.1.2.1 j hj
  refine ⟨_, ?_, JU, T, ?_, ?_, ?_⟩
  · unfold gIndex
    rw [x1, Option.bind_some, gTok_of C1.2, Option.bind_some, e47]
  · rw [eu]
    show u80.1 29 = _
    rw [k80.1.2.2 29 (by decide), hu74]
    show u45.1 29 = _
    rw [hu45]
    show u10.1 29 = _
    exact x2.2.2.1
  · rw [eu]
    show u80.1 0 30 = _
    rw [k80f 30 (by decide), hu74]
    show u45.1 0 30 = _
    rw [hu45]
    show u10.1 0 30 = _
    exact x2.2.2.2.1
  · rw [eu]
    show u80.1 0 32 = _
    rw [k80f 32 (by decide), hu74]
    show u45.1 0 32 = _
    rw [hu45]
    show u10.1 0 32 = _
    exact x2.2.2.2.2
theorem oSetsCW {nn : Int32} {u7 u14 w1 w2 u78 : MS} {c1 c2 : Nat} (hX : XWe n K c E) (J : JM n K e v) (hk2 : 2 ≤ (e.1 (v.1 0 47)).toInt) (h1 : Q_m_slots v nn r u7) (k1 : K_m_slots v nn r u7) (h2 : Q_m_remember u7 pd u14) (k2 : K_m_remember u7 pd u14) (h3 : Q_m_opens u14 false (wA (wA u14 0 47 ((u14.1 0 47) + (1 : Int32))) 0 48 ((u14.1 0 48) + (1 : Int32)))) (e1 : EMS c1 (wA (wA u14 0 47 ((u14.1 0 47) + (1 : Int32))) 0 48 ((u14.1 0 48) + (1 : Int32))) w1) (A1 : WAi K (wA (wA u14 0 47 ((u14.1 0 47) + (1 : Int32))) 0 48 ((u14.1 0 48) + (1 : Int32))) w1 pre) (h4 : c (wA w1 0 32 ((w1.1 0 32) + nn)) false u78) (k4 : K_m_expression (wA w1 0 32 ((w1.1 0 32) + nn)) u78) (e2 : EMS c2 (wA u78 0 32 ((u78.1 0 32) - nn)) w2) (A2 : WAi K (wA u78 0 32 ((u78.1 0 32) - nn)) w2 post) (eu : u = wA w2 0 48 ((w2.1 0 48) - (1 : Int32))) : ∃ q, E true e (knM K v) (v.1 0 32 + nn) (v.1 0 47 + 1) = some (q, u.1 0 47) ∧ WSi n K e v u (pre ++ q ++ post) := by
  have J7 := (rSlots (g := g00) (k := 0) h1 J).2.1
  have J14 := (rRem (g := g00) h2 J7).2
  have p14 : u14.1 0 47 = v.1 0 47 := (k2.2.1 47 (by decide)).trans (k1.1.2.1 47 (by decide))
  have J15 := (rOpens (g := g00) h3 J14 (by show 2 ≤ (e.1 (u14.1 0 47)).toInt; rw [p14]; exact hk2)).jj
  have J1 : JM n K e (wA w1 0 32 ((w1.1 0 32) + nn)) := (e1.j J15).w (by decide)
  have q29 : w1.1 29 = v.1 29 := by
    rw [e1.2.1 29 (by decide)]
    show u14.1 29 = _
    rw [k2.2.2 29 (by decide), k1.1.2.2 29 (by decide)]
  have q30 : w1.1 0 30 = v.1 0 30 := by
    rw [e1.2.2.1 30 (by decide)]
    show u14.1 0 30 = _
    rw [k2.2.1 30 (by decide), k1.1.2.1 30 (by decide)]
  have q32 : w1.1 0 32 = v.1 0 32 := by
    rw [e1.2.2.1 32 (by decide)]
    show u14.1 0 32 = _
    rw [k2.2.1 32 (by decide), k1.1.2.1 32 (by decide)]
  have q47 : w1.1 0 47 = v.1 0 47 + 1 := by
    rw [e1.2.2.1 47 (by decide)]
    show u14.1 0 47 + 1 = _
    rw [p14]
  have B0 : WAi K v (wA (wA u14 0 47 ((u14.1 0 47) + (1 : Int32))) 0 48 ((u14.1 0 48) + (1 : Int32))) [] := ((WAi.fg (K := K) k1.1).nt (WAi.fg (K := K) k2)).nt (WAi.sm rfl rfl)
  have B1 := (B0.tn A1).nt (WAi.w0 (K := K) (j := 32) (x9 := (w1.1 0 32) + nn))
  obtain ⟨q, x1, x2⟩ := hX e _ u78 h4 k4 J1
  have B2 := ((B1.tr x2.2.1).nt (WAi.w0 (K := K) (j := 32) (x9 := (u78.1 0 32) - nn))).tr A2
  have J2 : JM n K e w2 := e2.j (x2.1.w (by decide))
  have kn : knM K (wA w1 0 32 ((w1.1 0 32) + nn)) = knM K v := knM_of q29 q30
  refine ⟨q, ?_, by rw [eu]; exact J2.w (by decide), ?_, ?_, ?_, ?_⟩
  · rw [kn] at x1
    have x1 : E true e (knM K v) (w1.1 0 32 + nn) (w1.1 0 47) = some (q, u78.1 0 47) := x1
    rw [q32, q47] at x1
    rw [x1, eu]
    show _ = some (q, w2.1 0 47)
    rw [show w2.1 0 47 = u78.1 0 47 from e2.2.2.1 47 (by decide)]
  · rw [eu]
    exact B2.nt WAi.w0
  · rw [eu]
    show w2.1 29 = _
    rw [e2.2.1 29 (by decide)]
    show u78.1 29 = _
    rw [x2.2.2.1]
    exact q29
  · rw [eu]
    show w2.1 0 30 = _
    rw [e2.2.2.1 30 (by decide)]
    show u78.1 0 30 = _
    rw [x2.2.2.2.1]
    exact q30
  · rw [eu]
    show w2.1 0 32 = _
    rw [e2.2.2.1 32 (by decide)]
    show u78.1 0 32 - nn = _
    rw [x2.2.2.2.2]
    show w1.1 0 32 + nn - nn = _
    rw [q32, Int32.add_sub_cancel]
set_option maxHeartbeats 1600000 in
theorem oSetsW (hX : XWe n K c E) (h : Q_m_sets c v pa pb pc1 pd false u) (J : JM n K e v) (hk : (42 : Int) ≤ (e.1 (v.1 0 47)).toInt ∧ (e.1 (v.1 0 47)).toInt ≤ 52) (h0 : pd = 0 ↔ (e.1 (v.1 0 47)).toInt = 42) (hy : pd ≠ 0 → ∃ y ∈ SC, y.1 = pd ∧ y.2 = e.1 (v.1 0 47) + 10) : ∃ a, gChange E (decide (pc1.toInt ≠ 0)) pa.toInt pb e (knM K v) (v.1 0 32) (v.1 0 47) = some (a, u.1 0 47) ∧ WSi n K e v u a := by
  have z0 : ∀ {a : Int32}, a.toInt = 0 ↔ a = 0 := fun {a} => ⟨fun q => Int32.toInt_inj.mp (q.trans (by decide)), fun q => by rw [q]; decide⟩
  have hk2 : 2 ≤ (e.1 (v.1 0 47)).toInt := by omega
  have e10 : (e.1 (v.1 0 47) + 10).toInt = (e.1 (v.1 0 47)).toInt + 10 := add_z rfl (by decide) (by omega) (by omega)
  have hr0 : ∀ z : Int32, z = e.1 (v.1 0 47) + 10 → pd ≠ 0 → 53 ≤ z.toInt ∧ z.toInt ≤ 68 := by
    intro z ez np
    have g : ¬ (e.1 (v.1 0 47)).toInt = 42 := fun q => np (h0.mpr q)
    rw [ez, e10]
    omega
  obtain ⟨z1, z2, z3, z4, z5, z6, z15, z8, z9, z10, z11, z12, h⟩ := h
  rcases h with ⟨c1, ⟨c2, r8, u7, h7, k7, -, u14, h14, k14, ⟨u9, -, f, -⟩ | ⟨h3, k3, -, -, u42, h42, k42, -, r55, h55, r58, h58, ⟨u9, -, f, -⟩ | ⟨u78, h78, k78, -, r88, h88, r91, h91, u97, h97, k97, -, u109, h109, k109, -, eu⟩⟩⟩ | ⟨c2, r129, u128, h7, k7, -, u135, h14, k14, ⟨u9, -, f, -⟩ | ⟨h3, k3, -, -, -, ⟨u9, -, f, -⟩ | ⟨u172, h78, k78, -, -, u186, h186, k186, -, eu⟩⟩⟩⟩ | ⟨c1, ⟨c2, r208, u207, h7, k7, -, u215, h14, k14, ⟨u9, -, f, -⟩ | ⟨h3, k3, -, r232, h232, u242, f242, k242, r247, h247, r250, h250, -, r261, h261, -, u281, hu281, -, r289, h289, r292, h292, ⟨u9, -, f, -⟩ | ⟨u325, h78, k78, -, r338, h338, r341, h341, u347, h347, k347, -, r359, h359, r362, h362, r369, h369, u379, hu379, -, eu⟩⟩⟩ | ⟨c2, r398, u397, h7, k7, -, u405, h14, k14, ⟨u9, -, f, -⟩ | ⟨h3, k3, -, r422, h422, u432, f432, k432, r437, h437, r440, h440, -, -, -, ⟨u9, -, f, -⟩ | ⟨u476, h78, k78, -, -, r491, h491, r494, h494, r501, h501, u511, hu511, -, eu⟩⟩⟩⟩
  · cases f
  · cases f
  · -- a number, with a sign
    have np : pd ≠ 0 := fun q => c2 (z0.mpr q)
    obtain ⟨zz, hz, hz1, hz2⟩ := hy np
    have hr := hr0 zz.2 hz2 np
    obtain ⟨cc, m1, -⟩ := rFetch h42
    obtain rfl := slM (K := K) h7
    obtain rfl := eSlot h55
    obtain rfl := eSw h58
    obtain rfl := eSlot h88
    obtain rfl := eLw h91
    have e1 : EMS (cc + 1) _ (wA (wA u42 11 ((u42.1 0 12).toNatClampNeg) (sW 10 (fW (gsl (knM K v) (v.1 0 32) + 0)) 8)) 0 12 ((u42.1 0 12) + (1 : Int32))) := EMS.o1 (EMS.wa m1 (by decide)) rfl
    have A1 := (wFetch (K := K) h42).tr (wKeep (K := K) (v := u42) (y9 := 0) (s := gsl (knM K v) (v.1 0 32) + 0) (u := wA (wA u42 11 ((u42.1 0 12).toNatClampNeg) (sW 10 (fW (gsl (knM K v) (v.1 0 32) + 0)) 8)) 0 12 ((u42.1 0 12) + (1 : Int32))) rfl rfl)
    have e2 : EMS ((1 + opc pd) + 0) (wA u78 0 32 ((u78.1 0 32) - (1 : Int32))) u97 := ((EMS.o1 (EMS.wa EMS.rf (by decide)) rfl : EMS (0 + 1) _ _).tr (rOper h97)).tr EMS.rf
    obtain ⟨cs, m2, -⟩ := rStore h109
    have A2 : WAi K (wA u78 0 32 ((u78.1 0 32) - (1 : Int32))) u109 [evx 20 zz.2 (gsl (knM K v) (v.1 0 32) + 0), if 0 ≤ pa.toInt then evx 4 pa 1 else evx 6 pb 0] := (wSgn hz hz1 hr rfl rfl h97).tr (wStore h109)
    obtain ⟨q, x1, x2⟩ := oSetsCW hX J hk2 h7 k7 h14 k14 h3 e1 A1 h78 k78 (e2.tr m2) A2 eu
    refine ⟨_, ?_, x2⟩
    unfold gChange
    rw [if_neg (fun q => np (h0.mpr q)), decide_eq_false (fun q => q c1)]
    show (E true e (knM K v) (v.1 0 32 + 0 + 1) (v.1 0 47 + 1)).bind _ = _
    rw [Int32.add_zero, x1, Option.bind_some, gRead_e, gPut_e, hz2]
    simp only [Bool.false_eq_true, if_false, List.append_assoc, List.cons_append, List.nil_append]
  · cases f
  · cases f
  · -- a number, plainly
    have np : pd = 0 := z0.mp c2
    have e1 : EMS 0 (wA (wA u135 0 47 ((u135.1 0 47) + (1 : Int32))) 0 48 ((u135.1 0 48) + (1 : Int32))) (wA (wA u135 0 47 ((u135.1 0 47) + (1 : Int32))) 0 48 ((u135.1 0 48) + (1 : Int32))) := EMS.rf
    obtain ⟨cs, m2, -⟩ := rStore h186
    obtain ⟨q, x1, x2⟩ := oSetsCW (nn := 0) hX J hk2 h7 k7 h14 k14 h3 e1 WAi.rf h78 k78 m2 (wStore h186) eu
    refine ⟨_, ?_, x2⟩
    unfold gChange
    rw [if_pos (h0.mp np), decide_eq_false (fun q => q c1)]
    show (E true e (knM K v) (v.1 0 32 + 0) (v.1 0 47 + 1)).bind _ = _
    rw [x1, Option.bind_some, gPut_e]
    rfl
  · cases f
  · cases f
  · -- a row's number, with a sign
    have np : pd ≠ 0 := fun q => c2 (z0.mpr q)
    obtain ⟨zz, hz, hz1, hz2⟩ := hy np
    have hr := hr0 zz.2 hz2 np
    obtain rfl := slM (K := K) h7
    obtain rfl := eAddi h232
    obtain rfl := eSlot h247
    obtain rfl := eSw h250
    obtain rfl := eLw h261
    obtain rfl := eSlot h289
    obtain rfl := eSw h292
    obtain rfl := eSlot h338
    obtain rfl := eLw h341
    obtain rfl := eSlot h359
    obtain rfl := eLw h362
    obtain rfl := eSw h369
    have m0 : EMS (0 + 1) (wA (wA u215 0 47 ((u215.1 0 47) + (1 : Int32))) 0 48 ((u215.1 0 48) + (1 : Int32))) _ := EMS.o1 (EMS.wa EMS.rf (by decide) : EMS 0 _ (wA (wA (wA u215 0 47 ((u215.1 0 47) + (1 : Int32))) 0 48 ((u215.1 0 48) + (1 : Int32))) 11 ((u215.1 0 12).toNatClampNeg) (iW 19 10 10 0))) rfl
    have m1 := m0.tr (mFix k242)
    have m2 : EMS (1 + 1) u242 u281 := by
      rw [hu281]
      exact EMS.w0 (EMS.wa (EMS.wa (EMS.o1 (EMS.wa (EMS.o1 (EMS.wa EMS.rf (by decide)) rfl) (by decide)) rfl) (by decide)) (by decide)) (by decide)
    have e1 := EMS.o1 (EMS.wa (m1.tr m2) (by decide) (i := (u281.1 0 12).toNatClampNeg) (y := sW 10 (fW (gsl (knM K v) (v.1 0 32) + 1)) 8) (a := 11)) (y := (u281.1 0 12) + (1 : Int32)) rfl
    obtain ⟨V, hV⟩ : ∃ V, V = wA (wA u242 11 ((u242.1 0 12).toNatClampNeg) (sW 10 (fW (gsl (knM K v) (v.1 0 32))) 8)) 0 12 ((u242.1 0 12) + (1 : Int32)) := ⟨_, rfl⟩
    have B1 : WAi K (wA (wA u215 0 47 ((u215.1 0 47) + (1 : Int32))) 0 48 ((u215.1 0 48) + (1 : Int32))) V [evx 9 pb (gsl (knM K v) (v.1 0 32))] := wHold f242 (by rw [hV]; rfl) (by rw [hV]; rfl) (by rw [hV]; exact ⟨⟨rfl, rfl, rfl, rfl, rfl, rfl⟩, rfl, rfl⟩)
    have hV12 : V.1 0 12 = u242.1 0 12 + 1 := by rw [hV]; rfl
    have hV11 : V.1 11 = upd (u242.1 11) (u242.1 0 12).toNatClampNeg (sW 10 (fW (gsl (knM K v) (v.1 0 32))) 8) := by rw [hV]; rfl
    have hVs : SMw u242 V := by rw [hV]; exact ⟨⟨rfl, rfl, rfl, rfl, rfl, rfl⟩, rfl, rfl⟩
    have hU12 : u281.1 0 12 = u242.1 0 12 + 1 + 1 := by rw [hu281]; rfl
    have hU11 : u281.1 11 = upd (upd (u242.1 11) (u242.1 0 12).toNatClampNeg (sW 10 (fW (gsl (knM K v) (v.1 0 32))) 8)) (u242.1 0 12 + 1).toNatClampNeg (iW 8195 10 10 0) := by rw [hu281]; rfl
    have hUs : SMw u242 u281 := by rw [hu281]; exact ⟨⟨rfl, rfl, rfl, rfl, rfl, rfl⟩, rfl, rfl⟩
    have B2 : WAi K V u281 [evx 10 0 0] := wDeref (by rw [hV11, hV12, hU11]) (by rw [hV12, hU12]) ⟨⟨hUs.1.1.trans hVs.1.1.symm, hUs.1.2.1.trans hVs.1.2.1.symm, hUs.1.2.2.1.trans hVs.1.2.2.1.symm, hUs.1.2.2.2.1.trans hVs.1.2.2.2.1.symm, hUs.1.2.2.2.2.1.trans hVs.1.2.2.2.2.1.symm, hUs.1.2.2.2.2.2.trans hVs.1.2.2.2.2.2.symm⟩, hUs.2.1.trans hVs.2.1.symm, hUs.2.2.trans hVs.2.2.symm⟩
    have A1 := (B1.tr B2).tr (wKeep (K := K) (v := u281) (y9 := 0) (s := gsl (knM K v) (v.1 0 32) + 1) (u := wA (wA u281 11 ((u281.1 0 12).toNatClampNeg) (sW 10 (fW (gsl (knM K v) (v.1 0 32) + 1)) 8)) 0 12 ((u281.1 0 12) + (1 : Int32))) rfl rfl)
    have e2 : EMS (0 + 1 + opc pd) (wA u325 0 32 ((u325.1 0 32) - (2 : Int32))) u347 := (EMS.o1 (EMS.wa EMS.rf (by decide)) rfl : EMS (0 + 1) _ _).tr (rOper h347)
    have e3 : EMS (0 + 1 + 1) u347 u379 := by
      rw [hu379]
      exact EMS.w0 (EMS.wa (EMS.wa (EMS.o1 (EMS.wa (EMS.o1 (EMS.wa EMS.rf (by decide)) rfl) (by decide)) rfl) (by decide)) (by decide)) (by decide)
    have C1 : WAi K (wA u325 0 32 ((u325.1 0 32) - (2 : Int32))) u347 [evx 20 zz.2 (gsl (knM K v) (v.1 0 32) + 1)] := wSgn hz hz1 hr rfl rfl h347
    have C2 : WAi K u347 u379 [evx 11 (gsl (knM K v) (v.1 0 32)) 0] := wPutAt (by rw [hu379]; rfl) (by rw [hu379]; rfl) (by rw [hu379]; exact ⟨⟨rfl, rfl, rfl, rfl, rfl, rfl⟩, rfl, rfl⟩)
    obtain ⟨q, x1, x2⟩ := oSetsCW (nn := 2) hX J hk2 h7 k7 h14 k14 h3 e1 A1 h78 k78 (e2.tr e3) (C1.tr C2) eu
    refine ⟨_, ?_, x2⟩
    unfold gChange
    rw [if_neg (fun q => np (h0.mpr q)), decide_eq_true c1]
    show (E true e (knM K v) (v.1 0 32 + 1 + 1) (v.1 0 47 + 1)).bind _ = _
    rw [Int32.add_assoc, show (1 : Int32) + 1 = 2 by decide, x1, Option.bind_some, hz2]
    simp only [if_true, List.append_assoc, List.cons_append, List.nil_append]
  · cases f
  · cases f
  · -- a row's number, plainly
    have np : pd = 0 := z0.mp c2
    obtain rfl := slM (K := K) h7
    obtain rfl := eAddi h422
    obtain rfl := eSlot h437
    obtain rfl := eSw h440
    obtain rfl := eSlot h491
    obtain rfl := eLw h494
    obtain rfl := eSw h501
    have m0 : EMS (0 + 1) (wA (wA u405 0 47 ((u405.1 0 47) + (1 : Int32))) 0 48 ((u405.1 0 48) + (1 : Int32))) _ := EMS.o1 (EMS.wa EMS.rf (by decide) : EMS 0 _ (wA (wA (wA u405 0 47 ((u405.1 0 47) + (1 : Int32))) 0 48 ((u405.1 0 48) + (1 : Int32))) 11 ((u405.1 0 12).toNatClampNeg) (iW 19 10 10 0))) rfl
    have m1 := m0.tr (mFix k432)
    have e1 := EMS.o1 (EMS.wa m1 (by decide) (i := (u432.1 0 12).toNatClampNeg) (y := sW 10 (fW (gsl (knM K v) (v.1 0 32))) 8) (a := 11)) (y := (u432.1 0 12) + (1 : Int32)) rfl
    have A1 : WAi K (wA (wA u405 0 47 ((u405.1 0 47) + (1 : Int32))) 0 48 ((u405.1 0 48) + (1 : Int32))) (wA (wA u432 11 ((u432.1 0 12).toNatClampNeg) (sW 10 (fW (gsl (knM K v) (v.1 0 32))) 8)) 0 12 ((u432.1 0 12) + (1 : Int32))) [evx 9 pb (gsl (knM K v) (v.1 0 32))] := wHold f432 rfl rfl
    have e2 : EMS (0 + 1 + 1) (wA u476 0 32 ((u476.1 0 32) - (1 : Int32))) u511 := by
      rw [hu511]
      exact EMS.w0 (EMS.wa (EMS.wa (EMS.o1 (EMS.wa (EMS.o1 (EMS.wa EMS.rf (by decide)) rfl) (by decide)) rfl) (by decide)) (by decide)) (by decide)
    have A2 : WAi K (wA u476 0 32 ((u476.1 0 32) - (1 : Int32))) u511 [evx 11 (gsl (knM K v) (v.1 0 32)) 0] := wPutAt (by rw [hu511]; rfl) (by rw [hu511]; rfl) (by rw [hu511]; exact ⟨⟨rfl, rfl, rfl, rfl, rfl, rfl⟩, rfl, rfl⟩)
    obtain ⟨q, x1, x2⟩ := oSetsCW (nn := 1) hX J hk2 h7 k7 h14 k14 h3 e1 A1 h78 k78 e2 A2 eu
    refine ⟨_, ?_, x2⟩
    unfold gChange
    rw [if_pos (h0.mp np), decide_eq_true c1]
    show (E true e (knM K v) (v.1 0 32 + 1) (v.1 0 47 + 1)).bind _ = _
    rw [x1, Option.bind_some]
    rfl
end ZWQ
