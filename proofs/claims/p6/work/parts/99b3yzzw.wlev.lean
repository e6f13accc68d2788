/-! the reference's words: operands, expressions at every level -/
section ZWW
variable {n : Int} {K : TK} {e : PE} {v u w x y : MS} {a b d a0 : List EV} {q : EV} {r pa pb pd oo : Int32} {c o : RM1} {c2 : RM2} {E : EvE} {O : EvO} {Es : FE} {Os : FO} {f : Nat}
theorem oUnW {u71 : MS} {r81 : Int32} (hO : XWo n K o O) (J : JM n K e v) (hk : (e.1 (v.1 0 47)).toInt = 54 ∨ (e.1 (v.1 0 47)).toInt = 40 ∨ (e.1 (v.1 0 47)).toInt = 41) (h1 : Q_m_opens v false (wA (wA v 0 47 ((v.1 0 47) + (1 : Int32))) 0 48 ((v.1 0 48) + (1 : Int32)))) (h2 : o (wA (wA v 0 47 ((v.1 0 47) + (1 : Int32))) 0 48 ((v.1 0 48) + (1 : Int32))) false u71) (k2 : K_m_operand (wA (wA v 0 47 ((v.1 0 47) + (1 : Int32))) 0 48 ((v.1 0 48) + (1 : Int32))) u71) (eu : u = (wA (wA (wA (wA (wA (wA u71 0 48 ((u71.1 0 48) - (1 : Int32))) 11 ((u71.1 0 12).toNatClampNeg) r81) 0 12 ((u71.1 0 12) + (1 : Int32))) 13 ((u71.1 0 15).toNatClampNeg) oo) 14 ((u71.1 0 15).toNatClampNeg) (0 : Int32)) 0 15 ((u71.1 0 15) + (1 : Int32)))) (ho : ∀ gm, rwE gm (evx (gUn (e.1 (v.1 0 47))) 0 0) = [r81]) : ∃ a, gOperand E O false e (knM K v) (v.1 0 32) (v.1 0 47) = some (false, a, u.1 0 47) ∧ WSi n K e v u a := by
  have JO := (rOpens (g := g00) h1 J (by show 2 ≤ (e.1 (v.1 0 47)).toInt; omega)).jj
  have A0 : WAi K v (wA (wA v 0 47 ((v.1 0 47) + (1 : Int32))) 0 48 ((v.1 0 48) + (1 : Int32))) [] := WAi.sm rfl rfl
  obtain ⟨a, x1, x2⟩ := hO e _ u71 h2 k2 JO
  have x1 : O false e (knM K v) (v.1 0 32) (v.1 0 47 + 1) = some (false, a, u71.1 0 47) := x1
  have tg : gUn (e.1 (v.1 0 47)) = 12 ∨ gUn (e.1 (v.1 0 47)) = 13 ∨ gUn (e.1 (v.1 0 47)) = 14 := by
    unfold gUn
    by_cases c1 : (e.1 (v.1 0 47)).toInt = 54
    · rw [if_pos c1]; exact Or.inl rfl
    · rw [if_neg c1]
      by_cases c2 : (e.1 (v.1 0 47)).toInt = 40
      · rw [if_pos c2]; exact Or.inr (Or.inl rfl)
      · rw [if_neg c2]; exact Or.inr (Or.inr rfl)
  have B : WAi K u71 u [evx (gUn (e.1 (v.1 0 47))) 0 0] := by
    refine EMi.ev ?_ ?_ ?_
    · rw [ho, eu]
      rcases tg with t | t | t <;> rw [t] <;> exact EMi.w1 rfl rfl
    · rcases tg with t | t | t <;> rw [t] <;> rfl
    · rcases tg with t | t | t <;> rw [t] <;> rfl
  have six : EMS 1 (wA u71 0 48 ((u71.1 0 48) - (1 : Int32))) u := by
    rw [eu]
    exact EMS.w0 (EMS.wa (EMS.wa (EMS.o1 (EMS.wa EMS.rf (by decide)) rfl) (by decide)) (by decide)) (by decide)
  refine ⟨_, ?_, six.j (x2.1.w (by decide)), (A0.tn x2.2.1).tr B, ?_, ?_, ?_⟩
  · unfold gOperand
    rw [if_pos hk, x1, Option.bind_some, show u.1 0 47 = u71.1 0 47 from six.2.2.1 47 (by decide)]
  · rw [six.2.1 29 (by decide)]; exact x2.2.2.1
  · rw [six.2.2.1 30 (by decide)]; exact x2.2.2.2.1
  · rw [six.2.2.1 32 (by decide)]; exact x2.2.2.2.2
theorem oNumberW (J : JM n K e v) (hk : (e.1 (v.1 0 47)).toInt = 3 ∨ (e.1 (v.1 0 47)).toInt = 5) (h6 : v.1 6 (v.1 0 47).toNatClampNeg = 4 ∨ v.1 6 (v.1 0 47).toNatClampNeg = 6) (h1 : Q_m_take v false (wA v 0 47 ((v.1 0 47) + (1 : Int32)))) (h2 : Q_m_loads (wA v 0 47 ((v.1 0 47) + (1 : Int32))) ((v.2 (v.1 0 47).toNatClampNeg).toInt32) u) (k2 : K_m_loads (wA v 0 47 ((v.1 0 47) + (1 : Int32))) ((v.2 (v.1 0 47).toNatClampNeg).toInt32) u) : ∃ a, gOperand E O false e (knM K v) (v.1 0 32) (v.1 0 47) = some (false, a, u.1 0 47) ∧ WSi n K e v u a := by
  have JT := (rTake (g := g00) h1 J (by show 2 ≤ (e.1 (v.1 0 47)).toInt; omega)).jj
  obtain ⟨cc, m1, -⟩ := rLoads h2
  have A0 : WAi K v (wA v 0 47 ((v.1 0 47) + (1 : Int32))) [] := WAi.w0
  have ev : e.2.1 (v.1 0 47) = (v.2 (v.1 0 47).toNatClampNeg).toInt32 := by
    have J4 := J.2.2.2.1
    have := (J.1.1 (v.1 0 47) J4.2.1 J4.2.2.1).2.2.1 h6
    rw [← this, J.2.1]
  refine ⟨_, ?_, m1.j JT, A0.tn (wLoads2 h2), (m1.2.1 29 (by decide)).trans rfl, (m1.2.2.1 30 (by decide)).trans rfl, (m1.2.2.1 32 (by decide)).trans rfl⟩
  unfold gOperand
  rw [if_neg (by omega), if_pos hk, ev, show u.1 0 47 = v.1 0 47 + 1 from m1.2.2.1 47 (by decide)]
set_option maxHeartbeats 1600000 in
theorem oOperandW (hX : XWe n K c E) (hE : HME n K c Es) (hO : XWo n K o O) (h : Q_m_operand c o v false u) (J : JM n K e v) : ∃ a, gOperand E O false e (knM K v) (v.1 0 32) (v.1 0 47) = some (false, a, u.1 0 47) ∧ WSi n K e v u a := by
  obtain ⟨z47, z2, z3, z4, z5, z6, z15, z8, z9, z10, h⟩ := h
  have ek : e.1 (v.1 0 47) = kM (v.1 6 (v.1 0 47).toNatClampNeg) (v.2 (v.1 0 47).toNatClampNeg) (v.1 10 (v.1 0 47).toNatClampNeg) := rKd (g := g00) J
  have kI : ∀ {k : Int32} {m : Int}, e.1 (v.1 0 47) = k → k.toInt = m → (e.1 (v.1 0 47)).toInt = m := fun h1 h2 => by rw [h1, h2]
  rcases h with ⟨c4, -, h⟩ | ⟨c4, h⟩
  · have k4 : v.1 6 (v.1 0 47).toNatClampNeg = 4 := Int32.toInt_inj.mp (c4.trans (by decide))
    rcases h with ⟨c10, ⟨u9, -, f9, -⟩ | ⟨h1, -, u14, h14, k14, -, eu⟩⟩ | ⟨c10, ⟨cl, ⟨u9, -, f9, -⟩ | ⟨h1, -, u14, h14, k14, -, eu⟩⟩ | ⟨cl, ⟨u9, -, f9, -⟩ | ⟨h1, -, u14, h14, k14, -, eu⟩⟩⟩
    · cases f9
    · have e3 : e.1 (v.1 0 47) = 3 := by
        rw [ek, k4]
        unfold kM
        rw [if_neg (by decide), if_pos rfl, if_neg (fun q => q.1 (Int32.toInt_inj.mp (c10.trans (by decide))))]
      rw [← eu] at h14 k14
      exact oNumberW J (Or.inl (kI e3 (by decide))) (Or.inl k4) h1 h14 k14
    · cases f9
    · have e3 : e.1 (v.1 0 47) = 3 := by
        rw [ek, k4]
        unfold kM
        have m7 : (2147483647 : Int64).toInt = 2147483647 := by decide
        rw [if_neg (by decide), if_pos rfl, if_neg (fun q => by have := lg_pos.mpr (show (2147483647 : Int64).toInt < _ from m7 ▸ q.2); omega)]
      rw [← eu] at h14 k14
      exact oNumberW J (Or.inl (kI e3 (by decide))) (Or.inl k4) h1 h14 k14
    · cases f9
    · exfalso
      obtain ⟨-, hq⟩ := h1
      rcases hq with ⟨-, f9, -⟩ | ⟨-, ⟨b, -⟩ | ⟨-, f9, -⟩⟩
      · cases f9
      · exact absurd rfl b
      · cases f9
  rcases h with ⟨c6, r60, h60, -, h⟩ | ⟨c6, -, h⟩
  · have i60 : r60.toInt ≠ 0 ↔ e.1 (v.1 0 47) = 54 := rIs (g := g00) h60 J (q := (45, 54)) (by decide) rfl
    rcases h with ⟨q60, h⟩ | ⟨q60, r135, h135, -, h⟩
    · have kk := i60.mp q60
      have vc := vCode J (z := (45, 54)) (by decide) kk
      rcases h with ⟨u9, -, f9, -⟩ | ⟨h1, -, ⟨u9, -, f9, -⟩ | ⟨u71, h2, k2, ⟨n1, -⟩ | ⟨-, r81, h81, -, -, eu⟩⟩⟩
      · cases f9
      · cases f9
      · exact absurd (by rw [vc]; decide) n1
      · obtain rfl := eR h81 (f := 1073741875) (by decide)
        exact oUnW (oo := 18) hO J (Or.inl (kI kk (by decide))) h1 h2 k2 eu (by rw [kk]; exact fun _ => rfl)
    have i135 : r135.toInt ≠ 0 ↔ e.1 (v.1 0 47) = 40 := rIs (g := g00) h135 J (q := (33, 40)) (by decide) rfl
    rcases h with ⟨q135, h⟩ | ⟨q135, r210, h210, -, h⟩
    · have kk := i135.mp q135
      have vc := vCode J (z := (33, 40)) (by decide) kk
      rcases h with ⟨u9, -, f9, -⟩ | ⟨h1, -, ⟨u9, -, f9, -⟩ | ⟨u71, h2, k2, ⟨-, ⟨n1, -⟩ | ⟨-, r81, h81, -, -, -, eu⟩⟩ | ⟨n1, -⟩⟩⟩
      · cases f9
      · cases f9
      · exact absurd (by rw [vc]; decide) n1
      · obtain rfl := eI h81 (f := 12307) (by decide)
        exact oUnW (oo := 19) hO J (Or.inr (Or.inl (kI kk (by decide)))) h1 h2 k2 eu (by rw [kk]; exact fun _ => rfl)
      · rw [vc] at n1
        exact absurd n1 (by decide)
    have i210 : r210.toInt ≠ 0 ↔ e.1 (v.1 0 47) = 41 := rIs (g := g00) h210 J (q := (126, 41)) (by decide) rfl
    rcases h with ⟨q210, r215, h215, -, h⟩ | ⟨q210, h⟩
    · have nu : ¬ ((e.1 (v.1 0 47)).toInt = 54 ∨ (e.1 (v.1 0 47)).toInt = 40 ∨ (e.1 (v.1 0 47)).toInt = 41) := by
        rintro (g | g | g)
        · exact i60.mpr (Int32.toInt_inj.mp (g.trans (by decide))) q60
        · exact i135.mpr (Int32.toInt_inj.mp (g.trans (by decide))) q135
        · exact i210.mpr (Int32.toInt_inj.mp (g.trans (by decide))) q210
      have i215 : r215.toInt ≠ 0 ↔ e.1 (v.1 0 47) = 30 := rIs (g := g00) h215 J (q := (40, 30)) (by decide) rfl
      rcases h with ⟨q215, r220, h220, -, h⟩ | ⟨q215, h⟩
      · have i220 : r220.toInt ≠ 0 ↔ e.1 (v.1 0 47) = 20 := by
          have := rIsKey (g := g00) h220 J (by decide)
          exact this
        rcases h with ⟨q220, h⟩ | ⟨q220, h⟩
        · rcases h with ⟨-, -, u228, -, -, f9, -⟩ | ⟨c2, r235, h235, -, h⟩
          · cases f9
          · have e2 : e.1 (v.1 0 47) = 2 := by
              rw [ek]
              exact (kM_2 (rTV J)).mpr (Int32.toInt_inj.mp (c2.trans (by decide)))
            have i235 := (rKb (g := g00) h235 J z47.2 (by show 2 ≤ (e.1 (v.1 0 47)).toInt; rw [e2]; decide) (q := (40, 30)) (by decide) rfl).1
            have i235 : r235.toInt ≠ 0 ↔ e.1 (v.1 0 47 + 1) = 30 := i235
            have gN : ∀ X, gNamed E false e (knM K v) (v.1 0 32) (v.1 0 47) = X → gOperand E O false e (knM K v) (v.1 0 32) (v.1 0 47) = X := fun X hX => by
              rw [← hX]
              unfold gOperand
              rw [e2]
              rfl
            rcases h with ⟨q235, -, ⟨u9, -, f9, -⟩ | ⟨u242, h242, k242, -, eu⟩⟩ | ⟨q235, ⟨u9, -, f9, -⟩ | ⟨u247, h247, k247, -, eu⟩⟩
            · cases f9
            · rw [← eu] at h242
              obtain ⟨a, x1, x2⟩ := oNamed0W hX hE h242 J e2 (fun g => i235.mpr (Int32.toInt_inj.mp (g.trans (by decide))) q235)
              exact ⟨a, gN _ x1, x2⟩
            · cases f9
            · rw [← eu] at h247
              have k30 : (e.1 (v.1 0 47 + 1)).toInt = 30 := by rw [i235.mp q235]; decide
              obtain ⟨a, x1, x2⟩ := oCallW hX hE h247 J e2 k30
              refine ⟨a, gN _ ?_, x2⟩
              unfold gNamed
              rw [if_pos k30, x1, Option.bind_some]
        · have kk := i220.mp q220
          rcases h with ⟨u9, -, f9, -⟩ | ⟨h1, -, ⟨u9, -, f9, -⟩ | ⟨h2, -, ⟨u9, -, f9, -⟩ | ⟨h3, -, r267, h267, u272, hu272, -, eu⟩⟩⟩
          · cases f9
          · cases f9
          · cases f9
          · have JT := (rTake (g := g00) h1 J (by show 2 ≤ (e.1 (v.1 0 47)).toInt; rw [kk]; decide)).jj
            have O1 := oOpen (q := (40, 30)) (m := 30) h2 JT (by decide) rfl (by decide)
            have C1 := oClose (q := (41, 31)) (m := 31) h3 O1.1 (by decide) rfl (by decide)
            have m1 : EMS (0 + 1) (wA (wA (wA (wA (wA v 0 47 ((v.1 0 47) + (1 : Int32))) 0 47 (((v.1 0 47) + (1 : Int32)) + (1 : Int32))) 0 48 ((v.1 0 48) + (1 : Int32))) 0 47 ((((v.1 0 47) + (1 : Int32)) + (1 : Int32)) + (1 : Int32))) 0 48 (((v.1 0 48) + (1 : Int32)) - (1 : Int32))) u272 := by
              rw [hu272]
              exact EMS.o1 (EMS.wa EMS.rf (by decide)) rfl
            have m2 : EMS (0 + 1) u272 u := by
              rw [eu]
              exact EMS.w0 (EMS.wa (EMS.wa (EMS.o1 (EMS.wa EMS.rf (by decide)) rfl) (by decide)) (by decide)) (by decide)
            obtain rfl := eAddi h267
            obtain ⟨V9, hV9⟩ : ∃ V9, V9 = (wA (wA (wA (wA (wA v 0 47 ((v.1 0 47) + (1 : Int32))) 0 47 (((v.1 0 47) + (1 : Int32)) + (1 : Int32))) 0 48 ((v.1 0 48) + (1 : Int32))) 0 47 ((((v.1 0 47) + (1 : Int32)) + (1 : Int32)) + (1 : Int32))) 0 48 (((v.1 0 48) + (1 : Int32)) - (1 : Int32))) := ⟨_, rfl⟩
            have V12 : V9.1 0 12 = v.1 0 12 := by rw [hV9]; rfl
            have V11 : V9.1 11 = v.1 11 := by rw [hV9]; rfl
            have VS : SMw v V9 := by rw [hV9]; exact ⟨⟨rfl, rfl, rfl, rfl, rfl, rfl⟩, rfl, rfl⟩
            rw [← hV9] at hu272
            have u11 : u272.1 11 = upd (v.1 11) (v.1 0 12).toNatClampNeg (iW 19 17 0 2) := by rw [hu272]; show upd (V9.1 11) _ _ = _; rw [V11]
            have u12 : u272.1 0 12 = v.1 0 12 + 1 := by rw [hu272]; rfl
            have uS : SMw V9 u272 := by rw [hu272]; exact ⟨⟨rfl, rfl, rfl, rfl, rfl, rfl⟩, rfl, rfl⟩
            have y11 : u.1 11 = upd (u272.1 11) (u272.1 0 12).toNatClampNeg 115 := by rw [eu]; rfl
            have y12 : u.1 0 12 = u272.1 0 12 + 1 := by rw [eu]; rfl
            have yS : SMw u272 u := by rw [eu]; exact ⟨⟨rfl, rfl, rfl, rfl, rfl, rfl⟩, rfl, rfl⟩
            have B : WAi K v u [evx 23 0 0] := EMi.ev (by rw [rw23]; exact (EMi.w1 u11 u12 (VS.tr uS)).snc y11 y12 yS) rfl
            rw [hV9] at hu272
            have e47 : u.1 0 47 = v.1 0 47 + 1 + 1 + 1 := by
              rw [m2.2.2.1 47 (by decide), hu272]
              rfl
            have g1 : gTok e 30 (v.1 0 47 + 1) = some (v.1 0 47 + 1 + 1) := if_pos O1.2
            have g2 : gTok e 31 (v.1 0 47 + 1 + 1) = some (v.1 0 47 + 1 + 1 + 1) := if_pos C1.2
            refine ⟨_, ?_, m2.j (m1.j C1.1), B, ?_, ?_, ?_⟩
            · unfold gOperand
              rw [if_neg nu, if_neg (by rw [kk]; decide), if_pos (by rw [kk]; decide), g1, Option.bind_some, g2, Option.bind_some, e47]
            · rw [m2.2.1 29 (by decide), hu272]; rfl
            · rw [m2.2.2.1 30 (by decide), hu272]; rfl
            · rw [m2.2.2.1 32 (by decide), hu272]; rfl
      · have kk := i215.mp q215
        rcases h with ⟨u9, -, f9, -⟩ | ⟨h1, -, ⟨u9, -, f9, -⟩ | ⟨u301, h2, k2, ⟨u9, -, f9, -⟩ | ⟨h3, -, -, eu⟩⟩⟩
        · cases f9
        · cases f9
        · cases f9
        · have JO := (rOpens (g := g00) h1 J (by show 2 ≤ (e.1 (v.1 0 47)).toInt; rw [kk]; decide)).jj
          obtain ⟨a, x1, x2⟩ := hX e _ u301 h2 k2 JO
          have x1 : E true e (knM K v) (v.1 0 32) (v.1 0 47 + 1) = some (a, u301.1 0 47) := x1
          have C1 := oClose (q := (41, 31)) (m := 31) h3 x2.1 (by decide) rfl (by decide)
          have A0 : WAi K v (wA (wA v 0 47 ((v.1 0 47) + (1 : Int32))) 0 48 ((v.1 0 48) + (1 : Int32))) [] := WAi.sm rfl rfl
          have A1 : WAi K u301 u [] := by rw [eu]; exact WAi.sm rfl rfl
          rw [← eu] at C1
          refine ⟨a, ?_, C1.1, (A0.tn x2.2.1).nt A1, by rw [eu]; exact x2.2.2.1, by rw [eu]; exact x2.2.2.2.1, by rw [eu]; exact x2.2.2.2.2⟩
          unfold gOperand
          rw [if_neg nu, if_neg (by rw [kk]; decide), if_neg (by rw [kk]; decide), if_pos (by rw [kk]; decide), x1, Option.bind_some]
          show (gTok e 31 (u301.1 0 47)).bind _ = _
          rw [gTok_of C1.2, Option.bind_some, eu]
          rfl
    · have kk := i210.mp q210
      have vc := vCode J (z := (126, 41)) (by decide) kk
      rcases h with ⟨u9, -, f9, -⟩ | ⟨h1, -, ⟨u9, -, f9, -⟩ | ⟨u71, h2, k2, ⟨-, ⟨-, r81, h81, -, -, -, eu⟩ | ⟨n1, -⟩⟩ | ⟨n1, -⟩⟩⟩
      · cases f9
      · cases f9
      · obtain rfl := eI h81 (f := 16403) (by decide)
        exact oUnW (oo := 20) hO J (Or.inr (Or.inr (kI kk (by decide)))) h1 h2 k2 eu (by rw [kk]; exact fun _ => rfl)
      · rw [vc] at n1
        exact absurd n1 (by decide)
      · rw [vc] at n1
        exact absurd n1 (by decide)
  · have k6 : v.1 6 (v.1 0 47).toNatClampNeg = 6 := Int32.toInt_inj.mp (c6.trans (by decide))
    rcases h with ⟨u9, -, f9, -⟩ | ⟨h1, -, u14, h14, k14, -, eu⟩
    · cases f9
    · have e5 : e.1 (v.1 0 47) = 5 := by
        rw [ek, k6]
        rfl
      rw [← eu] at h14 k14
      exact oNumberW J (Or.inr (kI e5 (by decide))) (Or.inr k6) h1 h14 k14
end ZWW
