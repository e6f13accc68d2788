/-! the reference's orders: names -/
/-- behind the name and its index -/
def gSt (E : EvE) (st row : Bool) (sl : Int) (g : Int32) (e : PE) (kn : List Int32) (pb : Int32) (q : List EV × Int32) : Option (Bool × List EV × Int32) :=
  if st = true ∧ (42 : Int) ≤ (e.1 q.2).toInt ∧ (e.1 q.2).toInt ≤ 52 then (gChange E row sl g e kn pb q.2).bind fun r => some (true, q.1 ++ r.1, r.2)
  else some (false, q.1 ++ [if row = true then evx 8 g 0 else gRead sl g], q.2)
def gGo (E : EvE) (O : EvO) (e : PE) (kn : List Int32) (pb : Int32) (q : Bool × List EV × Int32) : Option (List EV × Int32) := if q.1 = true then some q.2 else (gJ O 1502 1 e kn pb q.2.1 q.2.2).bind fun r => gQuest E e kn pb r.1 r.2
theorem gNamed_e {E : EvE} {st : Bool} {e : PE} {kn : List Int32} {pb i : Int32} (h : (e.1 (i + 1)).toInt ≠ 30) : gNamed E st e kn pb i = (if decide (fnd kn (e.2.1 i) < 0 ∧ gfd e (e.2.1 i) = some 1) = true then gIndex E (nI (gix e (e.2.1 i))) e kn pb (i + 1) else some ([], i + 1)).bind (gSt E st (decide (fnd kn (e.2.1 i) < 0 ∧ gfd e (e.2.1 i) = some 1)) (fnd kn (e.2.1 i)) (nI (gix e (e.2.1 i))) e kn pb) := by
  unfold gNamed
  rw [if_neg h]
  rfl
section WJN
variable {n : Int} {K : TK} {e : PE} {v u w x y : MS} {a b d a0 : List EV} {q : EV} {r pa pb pd r5 r8 rs gg : Int32} {c : RM1} {c2 : RM2} {E : EvE} {O : EvO} {Es : FE} {f : Nat} {row : Bool}
/-- what stands behind the name: settings or what follows it -/
theorem oTail (hX : XMe n K c E) (hC : XMc n K c2 E O) (hs : Q_m_setting w rs) (S : OS n K e v w a0) (h0 : 0 ≤ (v.1 0 15).toInt) (hrow : row = decide (r5.toInt ≠ 0)) (h : (rs.toInt = -1 ∧ ∃ w2 cc, EMS cc w w2 ∧ OA K w w2 [if row = true then evx 8 gg 0 else gRead r8.toInt gg] ∧ (∃ u44, c2 w2 1 false u44 ∧ K_m_choice w2 1 u44 ∧ u = u44)) ∨ (rs.toInt ≠ -1 ∧ Q_m_sets c w r8 gg r5 rs false u)) : ∃ a, (gSt E true row r8.toInt gg e (knM K v) (v.1 0 32) (a0, w.1 0 47)).bind (gGo E O e (knM K v) (v.1 0 32)) = some (a, u.1 0 47) ∧ OS n K e v u a := by
  have T := rSet (g := g00) hs S.1
  have T1 : rs.toInt ≠ -1 ↔ ((42 : Int) ≤ (e.1 (w.1 0 47)).toInt ∧ (e.1 (w.1 0 47)).toInt ≤ 52) := T.1
  have w15 := S.2.1.1
  unfold gSt
  rcases h with ⟨c1, w2, cc, e1, A, u44, h44, k44, eu⟩ | ⟨c1, h⟩
  · rw [if_neg (fun q => T1.mpr q.2 c1), Option.bind_some]
    have S2 : OS n K e v w2 (a0 ++ [if row = true then evx 8 gg 0 else gRead r8.toInt gg]) := ⟨e1.j S.1, S.2.1.tr A h0, (e1.2.1 29 (by decide)).trans S.2.2.1, (e1.2.2.1 30 (by decide)).trans S.2.2.2.1, (e1.2.2.1 32 (by decide)).trans S.2.2.2.2⟩
    have p15 := S2.2.1.1
    obtain ⟨b, x1, x2⟩ := (hC e w2 u44 1 h44 k44 S2.1 (by omega)).1 rfl
    rw [eu]
    refine ⟨_, ?_, S2.tr x1 h0⟩
    have x2 := x2 (a0 ++ [if row = true then evx 8 gg 0 else gRead r8.toInt gg])
    rw [S2.kn, S2.2.2.2.2, e1.2.2.1 47 (by decide)] at x2
    unfold gGo
    rw [if_neg Bool.false_ne_true]
    exact x2
  · have b := T1.mp c1
    have q := T.2 c1
    obtain ⟨d, x1, x2⟩ := oSets hX h S.1 b q.1 q.2
    rw [if_pos ⟨rfl, b⟩]
    rw [S.kn, S.2.2.2.2] at x1
    refine ⟨_, ?_, S.tr x2 h0⟩
    show ((gChange E row r8.toInt gg e (knM K v) (v.1 0 32) (w.1 0 47)).bind _).bind _ = _
    rw [hrow, x1, Option.bind_some, Option.bind_some]
    rfl
set_option maxHeartbeats 800000 in
theorem oNamed0 (hX : XMe n K c E) (hE : HME n K c Es) (h : Q_m_named0 c v false u) (J : JM n K e v) (hk : e.1 (v.1 0 47) = 2) (h30 : (e.1 (v.1 0 47 + 1)).toInt ≠ 30) : ∃ a, gNamed E false e (knM K v) (v.1 0 32) (v.1 0 47) = some (false, a, u.1 0 47) ∧ OS n K e v u a := by
  have JU := (rNamed0 (g := g00) hE h J og00 hk h30).jj
  obtain ⟨z47, z2, z3, z4, z5, z6, z15, z8, z9, z10, r5, h5, -, r8, h8, -, h⟩ := h
  have p0 := z15.1
  have hk2 : 2 ≤ (kd e (aR g00 K v)).toInt := by show 2 ≤ (e.1 (v.1 0 47)).toInt; rw [hk]; decide
  have L8 : r8.toInt = fnd (knM K v) (e.2.1 (v.1 0 47)) := by
    have := rLocal (g := g00) h8 J (rNT (g := g00) J hk)
    rw [this, show e.2.1 (v.1 0 47) = K.2.1 (v.1 0 47) by rw [J.2.1]]
    rfl
  have ev : K.2.1 (v.1 0 47) = e.2.1 (v.1 0 47) := by rw [J.2.1]
  rw [gNamed_e h30, ← L8]
  have A0 : OA K v (wA v 0 47 ((v.1 0 47) + (1 : Int32))) [] := OA.w0
  have num : ∀ {q : Int32} {w : MS} (g : Int32), (0 ≤ r8.toInt ∨ q = g) → Q_m_fetch (wA v 0 47 ((v.1 0 47) + (1 : Int32))) r8 q w → K_m_fetch (wA v 0 47 ((v.1 0 47) + (1 : Int32))) r8 q w → u = w → OA K v u [gRead r8.toInt g] ∧ (u.1 29 = v.1 29 ∧ u.1 0 30 = v.1 0 30 ∧ u.1 0 32 = v.1 0 32) ∧ u.1 0 47 = v.1 0 47 + 1 := by
    intro q w g hq hf kf eu
    rw [eu]
    have F := A0.tn (oFetch (K := K) hf) p0
    rw [← gRead_e] at F
    have e2 : gRead r8.toInt q = gRead r8.toInt g := by
      rcases hq with hq | hq
      · unfold gRead
        rw [if_pos hq, if_pos hq]
      · rw [hq]
    rw [e2] at F
    exact ⟨F, ⟨kf.1.2.2 29 (by decide), kf.1.2.1 30 (by decide), kf.1.2.1 32 (by decide)⟩, kf.1.2.1 47 (by decide)⟩
  rcases h with ⟨c8, -, -, h⟩ | ⟨c8, r48, h48, -, -, h⟩
  · rcases h with ⟨c5, ⟨u9, -, f9, -⟩ | ⟨h1, -, -, -, u28, h28, k28, -, eu⟩⟩ | ⟨-, f9, -⟩
    · cases f9
    · have F := num (nI (gix e (e.2.1 (v.1 0 47)))) (Or.inl c8) h28 k28 eu
      refine ⟨_, ?_, JU, F.1, F.2.1⟩
      rw [decide_eq_false (by omega), if_neg Bool.false_ne_true, Option.bind_some]
      unfold gSt
      rw [if_neg (fun q => (nomatch q.1)), if_neg Bool.false_ne_true, F.2.2]
      rfl
    · cases f9
  · have G := rGlobal h48 J (rNT (g := g00) J hk)
    rw [ev] at G
    rcases h with ⟨-, f9, -⟩ | ⟨c48, -, h⟩
    · cases f9
    obtain ⟨g1, g2⟩ : r48.toInt < (v.1 0 27).toInt ∧ gfd e (e.2.1 (v.1 0 47)) = some (v.1 26 r48.toNatClampNeg) := by
      rcases G with ⟨q, -⟩ | ⟨-, q⟩
      · omega
      · exact q
    have ix := (mGix h48 J (rNT (g := g00) J hk) c48).1
    rw [ev] at ix
    have z26 := r26 J c48 g1
    rcases h with ⟨c26, h⟩ | ⟨c26, h⟩
    · rcases h with ⟨c5, ⟨u9, -, f9, -⟩ | ⟨h1, -, -, -, u28, h28, k28, -, eu⟩⟩ | ⟨-, f9, -⟩
      · cases f9
      · have F := num r48 (Or.inr rfl) h28 k28 eu
        refine ⟨_, ?_, JU, F.1, F.2.1⟩
        rw [decide_eq_false (fun q => z26.mpr (Option.some.inj (g2.symm.trans q.2)) c26), if_neg Bool.false_ne_true, Option.bind_some, ← ix]
        unfold gSt
        rw [if_neg (fun q => (nomatch q.1)), if_neg Bool.false_ne_true, F.2.2]
        rfl
      · cases f9
    · rcases h with ⟨c5, ⟨u9, -, f9, -⟩ | ⟨h1, -, -, ⟨u9, -, f9, -⟩ | ⟨u102, h102, k102, -, r112, -, u118, -, k118, -, eu⟩⟩⟩ | ⟨-, f9, -⟩
      · cases f9
      · cases f9
      · have L := rKb (g := g00) h5 J z47.2 hk2 (q := (91, 34)) (by decide) rfl
        have k34 : (e.1 (v.1 0 47 + 1)).toInt = 34 := by
          have : e.1 (v.1 0 47 + 1) = 34 := L.1.mp (by rw [c5]; decide)
          rw [this]; decide
        have JT := (rTake (g := g00) h1 J hk2).jj
        obtain ⟨a, x1, x2⟩ := oIndex hX hE h102 JT k34
        have x1 : gIndex E r48 e (knM K v) (v.1 0 32) (v.1 0 47 + 1) = some (a, u102.1 0 47) := x1
        have B1 := A0.tn x2.2.1 p0
        have b15 := B1.1
        have l47 := k102.2.1.2
        have l15 := k102.2.2.2.2.1
        have l15 : (v.1 0 15).toInt ≤ (u102.1 0 15).toInt ∧ (u102.1 0 15).toInt - 10 * (u102.1 0 47).toInt ≤ (v.1 0 15).toInt - 10 * ((v.1 0 47) + (1 : Int32)).toInt := l15
        have q1 : ((v.1 0 47) + (1 : Int32)).toInt = (v.1 0 47).toInt + 1 := add_z rfl (by decide) (by omega) (by omega)
        have B2 := (B1.nt (OA.em (i := (u102.1 0 12).toNatClampNeg) (x9 := r112) (y9 := (u102.1 0 12) + (1 : Int32))) p0).nt (OA.fg k118.1) p0
        have e15 : u118.1 0 15 = u102.1 0 15 := (k118.1.2.1 15 (by decide)).trans rfl
        have B3 : OA K u118 u [evx 8 r48 0] := by
          rw [eu]
          exact OA.say (o := 6) (z := 0) rfl rfl rfl ⟨by rw [e15]; omega, by rw [e15]; omega⟩ rfl rfl ⟨rfl, rfl, rfl⟩ loE1 rfl (show upd (u118.1 14) _ 0 _ = 0 from updS)
        have e47 : u.1 0 47 = u102.1 0 47 := by
          rw [eu]
          show u118.1 0 47 = _
          rw [k118.1.2.1 47 (by decide)]
          rfl
        refine ⟨_, ?_, JU, B2.tr B3 p0, ?_, ?_, ?_⟩
        · rw [decide_eq_true ⟨c8, by rw [g2, z26.mp c26]⟩, if_pos rfl, ← ix, x1, Option.bind_some]
          unfold gSt
          rw [if_neg (fun q => (nomatch q.1)), if_pos rfl, e47]
        · rw [eu]
          show u118.1 29 = _
          rw [k118.1.2.2 29 (by decide)]
          show u102.1 29 = _
          exact x2.2.2.1
        · rw [eu]
          show u118.1 0 30 = _
          rw [k118.1.2.1 30 (by decide)]
          show u102.1 0 30 = _
          exact x2.2.2.2.1
        · rw [eu]
          show u118.1 0 32 = _
          rw [k118.1.2.1 32 (by decide)]
          show u102.1 0 32 = _
          exact x2.2.2.2.2
      · cases f9
set_option maxHeartbeats 800000 in
theorem oNamed1 (hX : XMe n K c E) (hE : HME n K c Es) (hC : XMc n K c2 E O) (h : Q_m_named1 c c2 v false u) (J : JM n K e v) (hk : e.1 (v.1 0 47) = 2) (h30 : (e.1 (v.1 0 47 + 1)).toInt ≠ 30) : ∃ a, (gNamed E true e (knM K v) (v.1 0 32) (v.1 0 47)).bind (gGo E O e (knM K v) (v.1 0 32)) = some (a, u.1 0 47) ∧ OS n K e v u a := by
  obtain ⟨z47, z2, z3, z4, z5, z6, z15, z8, z9, z10, r5, h5, -, r8, h8, -, h⟩ := h
  have p0 := z15.1
  have hk2 : 2 ≤ (kd e (aR g00 K v)).toInt := by show 2 ≤ (e.1 (v.1 0 47)).toInt; rw [hk]; decide
  have L8 : r8.toInt = fnd (knM K v) (e.2.1 (v.1 0 47)) := by
    have := rLocal (g := g00) h8 J (rNT (g := g00) J hk)
    rw [this, show e.2.1 (v.1 0 47) = K.2.1 (v.1 0 47) by rw [J.2.1]]
    rfl
  have ev : K.2.1 (v.1 0 47) = e.2.1 (v.1 0 47) := by rw [J.2.1]
  rw [gNamed_e h30, ← L8]
  have A0 : OA K v (wA v 0 47 ((v.1 0 47) + (1 : Int32))) [] := OA.w0
  have r50 : r5.toInt = 0 → false = decide (r5.toInt ≠ 0) := fun q => (decide_eq_false (fun w => w q)).symm
  have S0 : Q_m_take v false (wA v 0 47 ((v.1 0 47) + (1 : Int32))) → OS n K e v (wA v 0 47 ((v.1 0 47) + (1 : Int32))) [] := fun h1 => ⟨(rTake (g := g00) h1 J hk2).jj, A0, rfl, rfl, rfl⟩
  have num : ∀ {q g rs : Int32}, (0 ≤ r8.toInt ∨ q = g) → r5.toInt = 0 → Q_m_take v false (wA v 0 47 ((v.1 0 47) + (1 : Int32))) → Q_m_setting (wA v 0 47 ((v.1 0 47) + (1 : Int32))) rs → ((rs.toInt = -1 ∧ ∃ u32, Q_m_fetch (wA v 0 47 ((v.1 0 47) + (1 : Int32))) r8 q u32 ∧ ∃ u44, c2 u32 1 false u44 ∧ K_m_choice u32 1 u44 ∧ u = u44) ∨ (rs.toInt ≠ -1 ∧ Q_m_sets c (wA v 0 47 ((v.1 0 47) + (1 : Int32))) r8 q r5 rs false u)) → ∃ a, (gSt E true false r8.toInt g e (knM K v) (v.1 0 32) ([], v.1 0 47 + 1)).bind (gGo E O e (knM K v) (v.1 0 32)) = some (a, u.1 0 47) ∧ OS n K e v u a := by
    intro q g rs hq c5 h1 hs h
    have e2 : gRead r8.toInt q = gRead r8.toInt g ∧ gPut r8.toInt q = gPut r8.toInt g := by
      rcases hq with hq | hq
      · unfold gRead gPut
        rw [if_pos hq, if_pos hq, if_pos hq, if_pos hq]
        exact ⟨rfl, rfl⟩
      · rw [hq]
        exact ⟨rfl, rfl⟩
    obtain ⟨a, x1, x2⟩ := oTail (row := false) (r5 := r5) (r8 := r8) (gg := q) hX hC hs (S0 h1) p0 (r50 c5) (by
      rcases h with ⟨c26, u32, h32, u44, h44, k44, eu⟩ | h
      · obtain ⟨cc, e1, -⟩ := rFetch h32
        refine Or.inl ⟨c26, u32, cc, e1, ?_, u44, h44, k44, eu⟩
        rw [if_neg Bool.false_ne_true, gRead_e]
        exact oFetch h32
      · exact Or.inr h)
    refine ⟨a, ?_, x2⟩
    rw [← x1]
    congr 1
    unfold gSt
    have ec : gChange E false r8.toInt g e (knM K v) (v.1 0 32) (v.1 0 47 + 1) = gChange E false r8.toInt q e (knM K v) (v.1 0 32) (v.1 0 47 + 1) := by
      unfold gChange
      rw [e2.1, e2.2]
      simp only [Bool.false_eq_true, if_false]
    show (if true = true ∧ (42 : Int) ≤ (e.1 (v.1 0 47 + 1)).toInt ∧ (e.1 (v.1 0 47 + 1)).toInt ≤ 52 then (gChange E false r8.toInt g e (knM K v) (v.1 0 32) (v.1 0 47 + 1)).bind _ else some (false, [] ++ [if false = true then evx 8 g 0 else gRead r8.toInt g], v.1 0 47 + 1)) = (if true = true ∧ (42 : Int) ≤ (e.1 (v.1 0 47 + 1)).toInt ∧ (e.1 (v.1 0 47 + 1)).toInt ≤ 52 then (gChange E false r8.toInt q e (knM K v) (v.1 0 32) (v.1 0 47 + 1)).bind _ else some (false, [] ++ [if false = true then evx 8 q 0 else gRead r8.toInt q], v.1 0 47 + 1))
    rw [ec, e2.1, if_neg Bool.false_ne_true, if_neg Bool.false_ne_true]
  rcases h with ⟨c8, -, -, h⟩ | ⟨c8, r48, h48, -, -, h⟩
  · rw [decide_eq_false (by omega), if_neg Bool.false_ne_true, Option.bind_some]
    rcases h with ⟨c5, ⟨u9, -, f9, -⟩ | ⟨h1, -, -, r26, h26, h⟩⟩ | ⟨-, f9, -⟩
    · cases f9
    · refine num (q := -1) (Or.inl c8) c5 h1 h26 ?_
      rcases h with ⟨c26, -, u32, h32, k32, ⟨u9, -, f9, -⟩ | ⟨u44, h44, k44, -, eu⟩⟩ | ⟨c26, ⟨u9, -, f9, -⟩ | ⟨u51, h51, k51, -, eu⟩⟩
      · cases f9
      · exact Or.inl ⟨c26, u32, h32, u44, h44, k44, eu⟩
      · cases f9
      · rw [← eu] at h51
        exact Or.inr ⟨c26, h51⟩
    · cases f9
  · have G := rGlobal h48 J (rNT (g := g00) J hk)
    rw [ev] at G
    rcases h with ⟨-, f9, -⟩ | ⟨c48, -, h⟩
    · cases f9
    obtain ⟨g1, g2⟩ : r48.toInt < (v.1 0 27).toInt ∧ gfd e (e.2.1 (v.1 0 47)) = some (v.1 26 r48.toNatClampNeg) := by
      rcases G with ⟨q, -⟩ | ⟨-, q⟩
      · omega
      · exact q
    have ix := (mGix h48 J (rNT (g := g00) J hk) c48).1
    rw [ev] at ix
    have z26 := r26 J c48 g1
    rw [← ix]
    rcases h with ⟨c26, h⟩ | ⟨c26, h⟩
    · rw [decide_eq_false (fun q => z26.mpr (Option.some.inj (g2.symm.trans q.2)) c26), if_neg Bool.false_ne_true, Option.bind_some]
      rcases h with ⟨c5, ⟨u9, -, f9, -⟩ | ⟨h1, -, -, r90, h90, h⟩⟩ | ⟨-, f9, -⟩
      · cases f9
      · refine num (q := r48) (Or.inr rfl) c5 h1 h90 ?_
        rcases h with ⟨c27, -, u32, h32, k32, ⟨u9, -, f9, -⟩ | ⟨u44, h44, k44, -, eu⟩⟩ | ⟨c27, ⟨u9, -, f9, -⟩ | ⟨u51, h51, k51, -, eu⟩⟩
        · cases f9
        · exact Or.inl ⟨c27, u32, h32, u44, h44, k44, eu⟩
        · cases f9
        · rw [← eu] at h51
          exact Or.inr ⟨c27, h51⟩
      · cases f9
    · rw [decide_eq_true ⟨c8, by rw [g2, z26.mp c26]⟩, if_pos rfl]
      rcases h with ⟨c5, ⟨u9, -, f9, -⟩ | ⟨h1, -, -, ⟨u9, -, f9, -⟩ | ⟨u134, h134, k134, r140, h140, h⟩⟩⟩ | ⟨-, f9, -⟩
      · cases f9
      · cases f9
      · have L := rKb (g := g00) h5 J z47.2 hk2 (q := (91, 34)) (by decide) rfl
        have k34 : (e.1 (v.1 0 47 + 1)).toInt = 34 := by
          have : e.1 (v.1 0 47 + 1) = 34 := L.1.mp (by rw [c5]; decide)
          rw [this]; decide
        have JT := (rTake (g := g00) h1 J hk2).jj
        obtain ⟨a, x1, x2⟩ := oIndex hX hE h134 JT k34
        have x1 : gIndex E r48 e (knM K v) (v.1 0 32) (v.1 0 47 + 1) = some (a, u134.1 0 47) := x1
        have SI := (S0 h1).tr x2 p0
        rw [x1, Option.bind_some]
        have l47 := k134.2.1.2
        have l15 := k134.2.2.2.2.1
        have l15 : (v.1 0 15).toInt ≤ (u134.1 0 15).toInt ∧ (u134.1 0 15).toInt - 10 * (u134.1 0 47).toInt ≤ (v.1 0 15).toInt - 10 * ((v.1 0 47) + (1 : Int32)).toInt := l15
        have q1 : ((v.1 0 47) + (1 : Int32)).toInt = (v.1 0 47).toInt + 1 := add_z rfl (by decide) (by omega) (by omega)
        refine oTail (row := true) (r5 := r5) (r8 := r8) (gg := r48) hX hC h140 SI p0 (decide_eq_true (by rw [c5]; decide)).symm ?_
        rcases h with ⟨c27, -, r148, -, u154, -, k154, ⟨u9, -, f9, -⟩ | ⟨u175, h175, k175, -, eu⟩⟩ | ⟨c27, ⟨u9, -, f9, -⟩ | ⟨u184, h184, k184, -, eu⟩⟩
        · cases f9
        · have e15 : u154.1 0 15 = u134.1 0 15 := (k154.1.2.1 15 (by decide)).trans rfl
          have m1 : EMS (0 + 1) u134 (wA (wA u134 11 ((u134.1 0 12).toNatClampNeg) r148) 0 12 ((u134.1 0 12) + (1 : Int32))) := EMS.o1 (EMS.wa EMS.rf (by decide)) rfl
          have B : OA K u134 u154 [] := (OA.em (i := (u134.1 0 12).toNatClampNeg) (x9 := r148) (y9 := (u134.1 0 12) + (1 : Int32))).nt (OA.fg k154.1) (by omega)
          refine Or.inl ⟨c27, _, 0 + 1 + 0, EMS.w0 (EMS.wa (EMS.wa (m1.tr (mFix k154)) (by decide)) (by decide)) (by decide), ?_, u175, h175, k175, eu⟩
          rw [if_pos rfl]
          exact B.tn (OA.say (o := 6) (z := 0) rfl rfl rfl ⟨by rw [e15]; omega, by rw [e15]; omega⟩ rfl rfl ⟨rfl, rfl, rfl⟩ loE1 rfl (show upd (u154.1 14) _ 0 _ = 0 from updS)) (by omega)
        · cases f9
        · rw [← eu] at h184
          exact Or.inr ⟨c27, h184⟩
      · cases f9
end WJN
