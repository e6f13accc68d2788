/-! the class's deeds: a function's item -/
section VRF
variable {L1 L2 : List Nat} {P P' : Int32 × Int32 × Int32} {v u w x y s : MS} {a b c : List EV} {e : PE} {pa pb pc1 r r3 r7 k i z : Int32} {n N p : Nat} {S : EvS}
def LB0 (v : MS) : Prop := (0 ≤ (v.1 0 317).toInt ∧ (v.1 0 317).toInt ≤ 4 * (v.1 0 305).toInt + 8) ∧ (0 ≤ (v.1 0 305).toInt ∧ (v.1 0 305).toInt ≤ 1500) ∧ 0 ≤ (v.1 0 381).toInt ∧ 0 ≤ (v.1 0 321).toInt
theorem mFunM (rd : RD L1 L2) (h : Q_x_X5_functionItem L1 L2 n v false u) : (v.1 0 321).toInt ≤ (u.1 0 321).toInt := by
  obtain ⟨-, -, -, -, -, -, -, -, -, h⟩ := h
  rcases h with ⟨l40, r5, h5, u7, h7, k7, r15, h15, u17, h17, k17, u20, h20, k20, ⟨u9, -, f, -⟩ | ⟨u29, h29, k29, ⟨u9, -, f, -⟩ | ⟨u47, h47, k47, u50, h50, k50, u53, h53, k53, u59, h59, k59, r74, u73, h73, k73, ⟨u9, -, f, -⟩ | ⟨u87, h87, k87, ⟨u9, -, f, -⟩ | ⟨u98, h98, k98, ⟨u9, -, f, -⟩ | ⟨u134, h134, k134, ⟨u9, -, f, -⟩ | ⟨u139, h139, k139, u143, h143, k143, u148, h148, k148, u151, h151, k151, u155, h155, k155, r159, h159, u161, h161, k161, -, eu⟩⟩⟩⟩⟩⟩⟩ | ⟨l40, r200, -, u9, -, f, -⟩
  · cases f
  · cases f
  · cases f
  · cases f
  · cases f
  · cases f
  · have := fc21 k7
    have q1 : (u7.1 0 321).toInt = (v.1 0 321).toInt := this
    have := fc21 k17
    have := fc21 k20.1
    have := fc21 k29.1
    have := fc21 k47.1
    have := fc21 k50
    have := fc21 k53
    have := fc21 k59.1
    have q2 := fc21 k73.1
    have q2 : (u73.1 0 321).toInt = (u59.1 0 321).toInt := q2
    have q3 := fc21 k87.1
    have q3 : (u87.1 0 321).toInt = (u73.1 0 321).toInt := q3
    have := fc21 k98.1
    have := mStatsM (mSLev _) h134
    have := fc21 k139.1
    have := fc21 k143.1
    have := fc21 k148.1
    have := fc21 k151.1
    have := fc21 k155.1
    have := fc21 k161
    rw [eu]
    omega
  · cases f
set_option maxHeartbeats 800000 in
theorem eFunI (rd : RD L1 L2) (hS : XS L2 (QS L1 L2 (n - 1)) S) (h : Q_x_X5_functionItem L1 L2 n v false u) (J : JC L2 e v) (B : LB0 v) (t6 : T6 v) (cu : (u.1 0 321).toInt ≤ 500) (h75 : 0 ≤ (v.1 0 375).toInt) : ∃ kn b, gFunc S e (v.1 0 305) = some (kn, b, u.1 0 305) ∧ EA P v u (fnE (v.1 0 375) b) ∧ u.1 0 375 = v.1 0 375 + 1 := by
  obtain ⟨-, -, -, -, -, -, -, -, -, h⟩ := h
  rcases h with ⟨l40, r5, h5, u7, h7, k7, r15, h15, u17, h17, k17, u20, h20, k20, ⟨u9, -, f, -⟩ | ⟨u29, h29, k29, ⟨u9, -, f, -⟩ | ⟨u47, h47, k47, u50, h50, k50, u53, h53, k53, u59, h59, k59, r74, u73, h73, k73, ⟨u9, -, f, -⟩ | ⟨u87, h87, k87, ⟨u9, -, f, -⟩ | ⟨u98, h98, k98, ⟨u9, -, f, -⟩ | ⟨u134, h134, k134, ⟨u9, -, f, -⟩ | ⟨u139, h139, k139, u143, h143, k143, u148, h148, k148, u151, h151, k151, u155, h155, k155, r159, h159, u161, h161, k161, -, eu⟩⟩⟩⟩⟩⟩⟩ | ⟨l40, r200, -, u9, -, f, -⟩
  · cases f
  · cases f
  · cases f
  · cases f
  · cases f
  · cases f
  · rw [← eu] at h161 k161
    have hk : 0 ≤ (v.1 0 375).toInt ∧ (v.1 0 375).toInt < 40 := ⟨h75, l40⟩
    have f75 : FC [375] [0] v (wA v 0 375 (v.1 0 375 + 1)) := FC.f (fl := [375]) (al := [0]) (FC.rf v) _ (by decide)
    have J1 : JC L2 e (wA v 0 375 (v.1 0 375 + 1)) := J.fr f75 (RS.w0 RS.rf (by decide)) (by decide) (by decide) J.2.1
    have A1 : EA P v (wA v 0 375 (v.1 0 375 + 1)) [] := EA.wr 375 _
    have C7 := JC.cf (P := P) rd J1 h7 hk (by decide)
    have C17 := JC.cf (P := P) rd C7.1 h17 hk (by decide)
    have G17 : ∀ j, j ≠ 375 → u17.1 0 j = v.1 0 j := fun j hj => by
      rw [congrFun C17.2.1 j, congrFun C7.2.1 j]
      exact pk_un hj
    have e20 : u20 = wA (wA (wA (wA u17 0 312 0) 0 313 0) 0 314 0) 0 315 0 := h20
    have J20 : JC L2 e u20 := C17.1.fr k20.1 k20.2.2 (by decide) (by decide) (by rw [k20.1.2.1 305 (by decide), k20.1.2.1 307 (by decide)]; exact C17.1.2.1)
    have A20 : EA P u17 u20 [] := EA.fc k20.1 (h3 := by rw [k20.1.2.1 305 (by decide)]; exact Int.le_refl _)
    have G20 : ∀ j, j ≠ 375 → j ∉ [312, 313, 314, 315] → u20.1 0 j = v.1 0 j := fun j h1 h2 => by rw [k20.1.2.1 j h2, G17 j h1]
    have d5 := G20 305 (by decide) (by decide)
    have d17 := G20 317 (by decide) (by decide)
    have d81 := G20 381 (by decide) (by decide)
    have d21 := G20 321 (by decide) (by decide)
    have d12 : u20.1 0 312 = 0 := by rw [e20]; rfl
    have d14 : u20.1 0 314 = 0 := by rw [e20]; rfl
    have z0 : (0 : Int32).toInt = 0 := by decide
    have B20 : LBe u20 := ⟨by rw [d17, d5]; exact B.1, by rw [d5]; exact B.2.1.2, by rw [d12, z0]; exact ⟨Int.le_refl _, by decide⟩, by rw [d81]; exact B.2.2.1, by rw [d21]; exact B.2.2.2⟩
    have T := ES.take (P := P) h29 k29 J20 B20
    have kn20 : knC u20 = [] := by
      unfold knC lst
      rw [d12]
      rfl
    have t29 : T6 u29 := ⟨by rw [k29.1.2.1 326 (by decide), G20 326 (by decide) (by decide)]; exact t6.1, by rw [k29.1.2.1 306 (by decide), G20 306 (by decide) (by decide)]; exact t6.2⟩
    have q29 : (u29.1 0 305).toInt = (v.1 0 305).toInt + 1 := by rw [k29.2.2.1, d5]
    have PR := eParams (P := P) h47 T.1.1 T.1.2.2.1 t29 (T.1.2.2.2.1.trans kn20) (by have := B.2.1.1; omega)
    have C50 := JC.cf (P := P) rd PR.2.1.1 h50 hk (by decide)
    have C53 := JC.cf (P := P) rd C50.1 h53 hk (by decide)
    have A59 := EA.add (P := P) (y := 0) h59 (by unfold plE; decide) rfl
    have H0 : 0 ≤ (v.1 0 381).toInt ∧ 0 ≤ (v.1 0 321).toInt := ⟨B.2.2.1, B.2.2.2⟩
    have AA := (((((((A1.tr C7.2.2.1 H0).tr C17.2.2.1 H0).tr A20 H0).tr T.1.2.1 H0).tr PR.2.1.2.1 H0).tr C50.2.2.1 H0).tr C53.2.2.1 H0).tr A59 H0
    simp only [List.nil_append] at AA
    -- what stands at u59
    have W47 := PR.2.2
    have G53 : u53.1 0 = u47.1 0 := C53.2.1.trans C50.2.1
    have J59 : JC L2 e u59 := C53.1.fr k59.1 k59.2.2.2 (by decide) (by decide) (by rw [k59.1.2.1 305 (by decide), k59.1.2.1 307 (by decide)]; exact C53.1.2.1)
    have B47 := PR.2.1.2.2
    have s5 : u59.1 0 305 = u47.1 0 305 := by rw [k59.1.2.1 305 (by decide), G53]
    have s17 : u59.1 0 317 = u47.1 0 317 := by rw [k59.1.2.1 317 (by decide), G53]
    have s21 : u59.1 0 321 = u47.1 0 321 := by rw [k59.1.2.1 321 (by decide), G53]
    have s12 : u59.1 0 312 = u47.1 0 312 := by rw [k59.1.2.1 312 (by decide), G53]
    have t17 : u47.1 0 317 = v.1 0 317 := by rw [k47.1.2.1 317 (by decide), k29.1.2.1 317 (by decide), d17]
    have t5 := k47.2.2.2.2.2.1
    have f31 : FC [331] [0] u59 (wA u59 0 331 (-1)) := FC.f (fl := [331]) (al := [0]) (FC.rf u59) _ (by decide)
    have f32 : FC [332] [0] (wA u59 0 331 (-1)) (wA (wA u59 0 331 (-1)) 0 332 (-1)) := FC.f (fl := [332]) (al := [0]) (FC.rf _) _ (by decide)
    have f33 : FC [333] [0] u73 (wA u73 0 333 r74) := FC.f (fl := [333]) (al := [0]) (FC.rf u73) _ (by decide)
    have J59' : JC L2 e (wA (wA u59 0 331 (-1)) 0 332 (-1)) := (J59.fr f31 (RS.w0 RS.rf (by decide)) (by decide) (by decide) J59.2.1).fr f32 (RS.w0 RS.rf (by decide)) (by decide) (by decide) J59.2.1
    have J73 : JC L2 e u73 := J59'.fr k73.1 k73.2.2 (by decide) (by decide) (by rw [k73.1.2.1 305 (by decide), k73.1.2.1 307 (by decide)]; exact J59'.2.1)
    have J73' : JC L2 e (wA u73 0 333 r74) := J73.fr f33 (RS.w0 RS.rf (by decide)) (by decide) (by decide) J73.2.1
    obtain ⟨n1, n2⟩ := eNeed (m := 32) (by decide) h87 J73'
    rw [n1] at h98 k98
    have O := eOpen (P := P) h98 k98 J73'
    have i17 : ((wA (wA u59 0 331 (-1)) 0 332 (-1)).1 0 317).toInt = (v.1 0 317).toInt := by
      show (u59.1 0 317).toInt = _
      rw [s17, t17]
    have b1 := B.1
    have A73 := EF.lab (lo := (u59.1 0 317).toInt) (lc := (u59.1 0 321).toInt) h73 ⟨by omega, by omega⟩
    have n17 := natI b1.1
    have G73 : ∀ j, j ≠ 331 → j ≠ 332 → j ∉ [317] → u73.1 0 j = u59.1 0 j := fun j h1 h2 h3 => by
      rw [k73.1.2.1 j h3]
      show (wA (wA u59 0 331 (-1)) 0 332 (-1)).1 0 j = _
      rw [show (wA (wA u59 0 331 (-1)) 0 332 (-1)).1 0 j = (wA u59 0 331 (-1)).1 0 j from pk_un h2]
      exact pk_un h1
    have G98 : ∀ j, j ≠ 331 → j ≠ 332 → j ≠ 333 → j ∉ [317] → j ∉ [305, 306] → u98.1 0 j = u59.1 0 j := fun j h1 h2 h3 h4 h5 => by
      rw [k98.1.2.1 j h5]
      rw [show (wA u73 0 333 r74).1 0 j = u73.1 0 j from pk_un h3]
      exact G73 j h1 h2 h4
    have m5 : (wA u73 0 333 r74).1 0 305 = u47.1 0 305 := by
      show u73.1 0 305 = _
      rw [G73 305 (by decide) (by decide) (by decide), s5]
    have m98 : (u98.1 0 305).toInt = (u47.1 0 305).toInt + 1 := by rw [k98.2.2.2.2.1, m5]
    have m17 : (u98.1 0 317).toInt = (v.1 0 317).toInt + 1 := by
      rw [k98.1.2.1 317 (by decide)]
      show (u73.1 0 317).toInt = _
      rw [A73.2.1, i17]
    have g31 : u98.1 0 331 = -1 := by
      rw [k98.1.2.1 331 (by decide)]
      show u73.1 0 331 = _
      rw [k73.1.2.1 331 (by decide)]
      rfl
    have g32 : u98.1 0 332 = -1 := by
      rw [k98.1.2.1 332 (by decide)]
      show u73.1 0 332 = _
      rw [k73.1.2.1 332 (by decide)]
      rfl
    have g33 : u98.1 0 333 = r74 := by
      rw [k98.1.2.1 333 (by decide)]
      rfl
    have g12 : u98.1 0 312 = u47.1 0 312 := by rw [G98 312 (by decide) (by decide) (by decide) (by decide) (by decide), s12]
    have g14 : u98.1 0 314 = 0 := by rw [G98 314 (by decide) (by decide) (by decide) (by decide) (by decide), k59.1.2.1 314 (by decide), G53, W47.1, k29.1.2.1 314 (by decide), d14]
    have g81 : u98.1 0 381 = u59.1 0 381 := G98 381 (by decide) (by decide) (by decide) (by decide) (by decide)
    have g21 : u98.1 0 321 = u59.1 0 321 := G98 321 (by decide) (by decide) (by decide) (by decide) (by decide)
    have g26 : u98.1 0 326 = u47.1 0 326 := by rw [G98 326 (by decide) (by decide) (by decide) (by decide) (by decide), k59.1.2.1 326 (by decide), G53]
    have p59 : 0 ≤ (u59.1 0 381).toInt := k59.2.1.1
    have b21 : 0 ≤ (u59.1 0 321).toInt := by rw [s21]; exact B47.2.2.2.2
    have B98 : LBe u98 := ⟨⟨by omega, by omega⟩, k98.2.1.2, by rw [g12]; exact B47.2.2.1, by rw [g81]; exact p59, by rw [g21]; exact b21⟩
    have t98 : T6 u98 := ⟨by rw [g26, W47.2.1.1]; exact t29.1, k98.2.2.1.1⟩
    have kn98 : knC u98 = knC u47 := by
      rw [knC_fr k98.1, knC_fr f33, knC_fr k73.1, knC_fr f32, knC_fr f31, knC_fr k59.1, C53.2.2.2.1, C50.2.2.2.1]
    have c134 : (u134.1 0 321).toInt ≤ 500 := by
      have := fc21 k139.1
      have := fc21 k143.1
      have := fc21 k148.1
      have := fc21 k151.1
      have := fc21 k155.1
      have := fc21 k161
      omega
    obtain ⟨b, x1, x2⟩ := eStats (P := (-1, -1, r74)) hS (mSLev _) h134 O.1 B98 t98 g14 c134 ⟨g31.symm, g32.symm, g33.symm⟩ (by have := B.2.1.1; omega)
    -- the parts behind u59
    have W1 : EF (u59.1 0 317).toInt (u59.1 0 321).toInt u59 (wA u59 0 331 (-1)) := EF.fc f31 (by decide) (by decide)
    have W2 : EF (u59.1 0 317).toInt (u59.1 0 321).toInt (wA u59 0 331 (-1)) (wA (wA u59 0 331 (-1)) 0 332 (-1)) := EF.fc f32 (by decide) (by decide)
    have W3 : EF (u59.1 0 317).toInt (u59.1 0 321).toInt u73 (wA u73 0 333 r74) := EF.fc f33 (by decide) (by decide)
    have W4 : EF (u59.1 0 317).toInt (u59.1 0 321).toInt (wA u73 0 333 r74) u98 := EF.fc k98.1 (by decide) (by decide)
    have E98 : EF (u59.1 0 317).toInt (u59.1 0 321).toInt u59 u98 := (((W1.tr W2 (Int.le_refl _) (Int.le_refl _)).tr A73.1 (Int.le_refl _) (Int.le_refl _)).tr W3 (Int.le_refl _) (Int.le_refl _)).tr W4 (Int.le_refl _) (Int.le_refl _)
    have E0 : EAs (((v.1 0 317).toNatClampNeg : Int) + 1) u59 u98 [] := EAs.beg E98 (by rw [g81]) (by omega)
    have E1 := E0.ea p59 x2.1.2.1
    have X1 := ES.exp (P := P) (m := 33) (by decide) h139 k139 x2.1.1 x2.1.2.2
    have X2 := ES.close (P := P) h143 k143 X1.1.1 X1.1.2.2.1
    have X3 := ES.add (P := P) (y := 0) h148 k148 X2.1.1 X2.1.2.2.1 (by unfold plE; decide) rfl
    have E2 := ((E1.nl p59 X1.1.2.1).nl p59 X2.1.2.1).ea p59 X3.1.2.1
    have g148 : u148.1 0 333 = r74 := by rw [k148.1.2.1 333 (by decide), k143.1.2.1 333 (by decide), k139.1.2.1 333 (by decide), x2.2.2.2.1.2.2, g33]
    have r74e : r74.toInt = ((v.1 0 317).toNatClampNeg : Int) := by rw [A73.2.2, i17]; exact n17.symm
    have E3 := E2.set p59 h151 (l := (v.1 0 317).toNatClampNeg) (by rw [g148]; exact r74e) ⟨by rw [s17, t17]; omega, by omega⟩ (fun q => nomatch q)
    have X4 := ES.sl h151 k151 X3.1.1 X3.1.2.2.1
    have X5 := ES.add (P := P) (y := 0) h155 k155 X4.1.1 X4.1.2 (by unfold plE; decide) rfl
    have E4 := E3.1.ea p59 X5.1.2.1
    have C161 := JC.cf (P := P) rd X5.1.1 h161 hk (by decide)
    have E5 := E4.nl p59 C161.2.2.1
    have w5 : u.1 0 305 = u139.1 0 305 := by rw [congrFun C161.2.1 305, X5.2, X4.2.2.2.2.1, X3.2, X2.2]
    have w17 : u.1 0 317 = u134.1 0 317 := by rw [congrFun C161.2.1 317, k155.1.2.1 317 (by decide), X4.2.2.2.2.2.1, k148.1.2.1 317 (by decide), k143.1.2.1 317 (by decide), k139.1.2.1 317 (by decide)]
    have FN := EA.fun (P := P) E5 (by rw [s17, t17]; exact n17.symm) p59 (by show (-1 : Int32).toInt = -1; decide) (by show (-1 : Int32).toInt = -1; decide) r74e (by
      have d1 := x2.1.2.1.2.2.1
      have d2 := k139.2.2.1
      rw [w5, w17, s17, t17, s5]
      omega)
    refine ⟨knC u47, b, ?_, AA.tr FN H0, ?_⟩
    case refine_2 =>
      rw [congrFun C161.2.1 375, k155.1.2.1 375 (by decide), k151.1.2.1 375 (by decide), k148.1.2.1 375 (by decide), k143.1.2.1 375 (by decide), k139.1.2.1 375 (by decide), k134.1.2.1 375 (by decide), G98 375 (by decide) (by decide) (by decide) (by decide) (by decide), k59.1.2.1 375 (by decide), G53, k47.1.2.1 375 (by decide), k29.1.2.1 375 (by decide), k20.1.2.1 375 (by decide), congrFun C17.2.1 375, congrFun C7.2.1 375]
      rfl
    unfold gFunc
    have g1 : gParams e (v.1 0 305 + 1) = some (knC u47, u47.1 0 305) := by
      have g := PR.1
      rw [T.2, d5] at g
      exact g
    have g2 : gTok e 32 (u47.1 0 305) = some (u98.1 0 305) := by
      rw [O.2.2, m5]
      unfold gTok
      rw [if_pos (by rw [m5] at n2; exact n2)]
    rw [kn98, g14] at x1
    rw [g1, Option.bind_some, g2, Option.bind_some, x1, Option.bind_some]
    show (gTok e 33 (u134.1 0 305)).bind _ = _
    rw [X1.2, Option.bind_some, w5]
  · cases f
end VRF
