/-! the class: expressions -/
section CXP
variable {G : GH} {L1 L2 : List Nat} {e : PE} {v u w x : MS} {t : Bool} {r r9 r7 pa pb pc1 pd z : Int32} {c : RE1} {o : RO1} {E : FE} {O : FO} {b row sl : Bool} {fl : Int} {X : PX PS}
set_option maxHeartbeats 400000 in
theorem cPush (h : Q_x_X2_push L1 L2 v pa pb u) (k : K_x_X2_push v pa pb u) (J : JC L2 e v) (lt : (v.1 0 326).toInt < 420) : (∀ G : GH, aC G u = aC G v) ∧ JC L2 e u ∧ (u.1 0 326).toInt = (v.1 0 326).toInt + 1 ∧ u.1 324 (v.1 0 326).toInt.toNat = pa ∧ (∀ j : Nat, (j : Int) < (v.1 0 326).toInt → u.1 324 j = v.1 324 j ∧ u.1 325 j = v.1 325 j) := by
  obtain ⟨z6, -, h⟩ := h
  have hJ : (u.1 0 307).toInt ≤ (u.1 0 305).toInt := by
    rw [k.1.2.1 307 (by decide), k.1.2.1 305 (by decide)]
    exact J.2.1
  have J2 := J.fr k.1 k.2.2.2 (by decide) (by decide) hJ
  rcases h with ⟨a, -⟩ | ⟨-, rfl⟩
  · omega
  have n0 := natI z6.1
  refine ⟨fun _ => rfl, J2, add_z rfl (by decide) (by omega) (by omega), updS, fun j hj => ?_⟩
  have hne : j ≠ (v.1 0 326).toNatClampNeg := by omega
  exact ⟨updN_ hne, updN_ hne⟩
set_option maxHeartbeats 400000 in
theorem cBegin (h : Q_x_X2_beginSign L1 L2 w pa t u) (J : JC L2 e w) (lt : (w.1 0 326).toInt < 420) : (t = false → tBegin pa e (aC G w) = .ok (aC (gM G pa) u) ∧ JC L2 e u ∧ (u.1 0 326).toInt = (w.1 0 326).toInt + 1 ∧ u.1 324 (w.1 0 326).toInt.toNat = pa ∧ (∀ j : Nat, (j : Int) < (w.1 0 326).toInt → u.1 324 j = w.1 324 j ∧ u.1 325 j = w.1 325 j)) ∧ (t = true → tBegin pa e (aC G w) = .error (u.1 0 308, u.1 0 309)) := by
  obtain ⟨-, -, -, -, -, -, -, -, h⟩ := h
  have two : ∀ (d z9 r5 : Int32) (u4 u12 : MS), (pa.toInt = 69 ∨ pa.toInt = 70) → d ≠ 20 ∧ d ≠ 21 ∧ d ≠ 0 ∧ 1 ≤ d.toInt ∧ d.toInt ≤ 24 → dsz d r5 = z9 → tBegin pa e (aC G w) = .ok (em z9 (aC G w)) → Q_x_X1_newLabel L1 L2 w r5 u4 → K_x_X1_newLabel w r5 u4 → Q_x_X1_add L1 L2 u4 d r5 0 u12 → K_x_X1_add u4 d r5 0 u12 → Q_x_X2_push L1 L2 u12 pa r5 u → K_x_X2_push u12 pa r5 u → t = false → (t = false → tBegin pa e (aC G w) = .ok (aC (gM G pa) u) ∧ JC L2 e u ∧ (u.1 0 326).toInt = (w.1 0 326).toInt + 1 ∧ u.1 324 (w.1 0 326).toInt.toNat = pa ∧ (∀ j : Nat, (j : Int) < (w.1 0 326).toInt → u.1 324 j = w.1 324 j ∧ u.1 325 j = w.1 325 j)) ∧ (t = true → tBegin pa e (aC G w) = .error (u.1 0 308, u.1 0 309)) := by
    intro d z9 r5 u4 u12 hp hd hz T h1 k1 h2 k2 h3 k3 ht
    subst ht
    have a1 := cLab (G := G) h1 k1 J
    have a2 := cAddk (G := G) (k := z9) h2 k2 hd.1 hz a1.2.1 hd.2
    have e6 : u12.1 0 326 = w.1 0 326 := (k2.1.2.1 326 (by decide)).trans (k1.1.2.1 326 (by decide))
    have a3 := cPush h3 k3 a2.2.1 (by rw [e6]; exact lt)
    rw [e6] at a3
    refine ⟨fun _ => ⟨?_, a3.2.1, a3.2.2.1, a3.2.2.2.1, fun j hj => ?_⟩, (fun q => nomatch q)⟩
    · rw [T, gM_b hp, a3.1, a2.1, a1.1]
    · have q := a3.2.2.2.2 j hj
      have k4 := (k2.1.2.2 324 (by decide)).trans (k1.1.2.2 324 (by decide))
      have k5 := (k2.1.2.2 325 (by decide)).trans (k1.1.2.2 325 (by decide))
      exact ⟨q.1.trans (congrFun k4 j), q.2.trans (congrFun k5 j)⟩
  rcases h with ⟨a, r5, u4, h1, k1, -, u12, h2, k2, u17, h3, k3, rfl, rfl⟩ | ⟨a, ⟨b, r30, -, r33, u32, h1, k1, h⟩ | ⟨b, r5, u4, h1, k1, -, u12, h2, k2, u17, h3, k3, rfl, rfl⟩⟩
  · exact two 16 2 r5 u4 u12 (Or.inl a) (by decide) rfl (by unfold tBegin; rw [if_pos a]) h1 k1 h2 k2 h3 k3 rfl
  · have T : tBegin pa e (aC G w) = bd (tWant 1 e (aC G w)) fun s => .ok (tRem pa (sPb (em 1 s) (pPb s + 1))) := by unfold tBegin; rw [if_neg a, if_neg b]
    rcases h with ⟨q, u38, h2, k2, u43, h3, k3, rfl, rfl⟩ | ⟨q, r58, h2, u9, h3, rfl, rfl⟩
    · have a1 := cWantO (G := G) h1 k1 J q
      have a2 := cAddk (G := G) (k := 1) h2 k2 (by decide) rfl a1.jj
      have e6 : u38.1 0 326 = w.1 0 326 := (k2.1.2.1 326 (by decide)).trans (k1.1.2.1 326 (by decide))
      have a3 := cPush h3 k3 (jPb a2.2.1) (by show (u38.1 0 326).toInt < 420; rw [e6]; exact lt)
      have e7 : (wA u38 0 314 (u38.1 0 314 + 1)).1 0 326 = w.1 0 326 := e6
      rw [e7] at a3
      refine ⟨fun _ => ⟨?_, a3.2.1, a3.2.2.1, a3.2.2.2.1, fun j hj => ?_⟩, (fun q => nomatch q)⟩
      · rw [T, a1.eo, bd_ok, a3.1, aC_gM, aPb, a2.1]
        have : u38.1 0 314 = pPb (aC G u32) := by
          have q2 : pPb (aC G u38) = pPb (aC G u32) := by rw [a2.1, pPb_em]
          exact q2
        rw [this]
      · have q := a3.2.2.2.2 j hj
        have k4 := (k2.1.2.2 324 (by decide)).trans (k1.1.2.2 324 (by decide))
        have k5 := (k2.1.2.2 325 (by decide)).trans (k1.1.2.2 325 (by decide))
        exact ⟨q.1.trans (congrFun k4 j), q.2.trans (congrFun k5 j)⟩
    · refine ⟨nom, fun _ => ?_⟩
      rw [T, (cWantX (G := G) h1 k1 J q h2 h3).ex, bd_er]
  · exact two 18 3 r5 u4 u12 (Or.inr b) (by decide) rfl (by unfold tBegin; rw [if_neg a, if_pos b]) h1 k1 h2 k2 h3 k3 rfl
set_option maxHeartbeats 400000 in
theorem stg_10 (k : Int32) : 0 ≤ (stg k).toInt ∧ (stg k).toInt ≤ 10 := by
  unfold stg
  split
  · decide
  · rw [List.getD_eq_getElem?_getD]
    cases q : ([9, 9, 10, 10, 10, 5, 3, 4, 8, 8, 6, 6, 7, 7, 7, 7, 2, 1] : List Int32)[(k - 53).toNatClampNeg]? with
    | none => exact (by decide)
    | some a =>
      have m := List.mem_of_getElem? q
      have all : ∀ x ∈ ([9, 9, 10, 10, 10, 5, 3, 4, 8, 8, 6, 6, 7, 7, 7, 7, 2, 1] : List Int32), 0 ≤ x.toInt ∧ x.toInt ≤ 10 := by decide
      exact all a m
set_option maxHeartbeats 400000 in
theorem cSign (h0 : 0 ≤ (v.1 0 326).toInt) {l : List FR} {f : Nat} (S : SLC G L2 e O X v l f w) (a5 : (w.1 0 305).toInt ≤ 1500) (hk : Q_x_X9_kind L1 L2 w r) (hs : Q_x_X9_strength r r9) (hp : 0 < r9.toInt) (h : Q_x_X2_finishSigns L1 L2 w (v.1 0 326) r9 u) : ∃ l2 f2, JC L2 e u ∧ SK (v.1 0 326).toInt u l2 (u.1 0 326).toInt ∧ WF (u.1 0 305).toInt l2 ∧ 1500 - (u.1 0 305).toInt < ((f2 + 1 : Nat) : Int) ∧ u.1 0 305 = w.1 0 305 ∧ lvl l2 ≤ (stg r).toInt ∧ KF (v.1 0 326).toInt v u ∧ X = tKq O e l2 (bd (tBegin r e (aC (pend G l2) u)) fun s1 => bd (tTake e s1) fun s2 => bd (O false e s2) fun q => bd (tJ O f2 ((stg r).toInt + 1) e q.2) fun s3 => tJ O f2 (lvl l2) e (tEnd r s3)) := by
  have ek := cKind (G := G) hk S.1
  have es := stg_s hs
  have ek2 : r = e.1 (w.1 0 305) := ek
  obtain ⟨l2, f2, S2, q5, hl⟩ := cFin h0 S a5 h (fun k hk => Or.inl (by rw [← ek2, ← es]; omega))
  obtain ⟨J2, K2, W2, F2, X2, P2⟩ := S2
  have hl2 : lvl l2 ≤ (stg r).toInt := by
    rw [← es]
    rcases hl with hl | hl
    · rw [hl]; show (1 : Int) ≤ _; omega
    · exact hl
  obtain ⟨f0, hf⟩ : ∃ f0, f2 = f0 + 1 := ⟨f2 - 1, by rw [q5] at F2; omega⟩
  refine ⟨l2, f0, J2, K2, W2, by rw [hf] at F2; exact F2, q5, hl2, P2, ?_⟩
  rw [X2, hf]
  have kd2 : kd e (aC (pend G l2) u) = r := by
    rw [ek2, ← q5]
    rfl
  conv => lhs; unfold tJ
  rw [kd2, if_neg (fun y => y.elim (fun y => by omega) (fun y => by rw [← es] at y; omega))]
set_option maxHeartbeats 400000 in
theorem pend_OG {l : List FR} (h : OG G w) : OG (pend G l) w := h.imp id (fun k => by rw [pend_O]; exact k)
set_option maxHeartbeats 400000 in
theorem cExpr (hE : HE L2 c E) (hO : HO L2 o O) (h : Q_x_X2_expression L1 L2 c o v pa t u) (J : JC L2 e v) (og : OG G v) (tp : TPE v) (hb : b = decide (pa.toInt ≠ 0)) : OKC G L2 e (tExpr E O b e) v t u := by
  obtain ⟨z4, z5, z6, z12, z21, z26, z73, z81, zd, zl, h⟩ := h
  have h0 : 0 ≤ (v.1 0 326).toInt := z26.1
  rcases h with ⟨u9, h1, rfl, rfl⟩ | ⟨r3, u2, h1, k1, h⟩
  · exact OKB.bx (hO G e v pa b true _ _ hb h1 nom J og (tpo_e tp))
  have a1 := hO G e v pa b false _ _ hb h1 (fun _ => k1) J og (tpo_e tp)
  refine OKB.bo a1 ?_
  rcases h with ⟨q3, ka, w, hr, -, i5, -, -, i26, -, hka, -, -, -, -, h6, h⟩ | ⟨q3, rfl, rfl⟩
  · show OKC G L2 e (fun s => if decide (r3.toInt ≠ 0) = true then .ok s else bd (tJ O 1502 1 e s) (tQuest E e)) u2 t u
    rw [decide_eq_false (fun y => y q3)]
    refine OKC.cg (f' := fun s => bd (tJ O 1502 1 e s) (tQuest E e)) rfl ?_
    generalize hX : tJ O 1502 1 e (aC G u2) = X
    have kp2 := a1.kk
    have e26 : u2.1 0 326 = v.1 0 326 := kp2.1
    have og2 := og.kp kp2
    have h02 : 0 ≤ (u2.1 0 326).toInt := by rw [e26]; exact h0
    have fin : (∃ k9, X = .error k9 ∧ t = true ∧ k9 = (u.1 0 308, u.1 0 309)) ∨ (∃ y, X = .ok (aC G y) ∧ JC L2 e y ∧ KP u2 y ∧ OKC G L2 e (tQuest E e) y t u) → OKC G L2 e (fun s => bd (tJ O 1502 1 e s) (tQuest E e)) u2 t u := by
      rintro (⟨k9, x1, x2, x3⟩ | ⟨y, x1, x2, x3, x4⟩)
      · refine Or.inr ⟨x2, ?_⟩
        show bd (tJ O 1502 1 e (aC G u2)) (tQuest E e) = _
        rw [hX, x1, bd_er, x3]
      · have T : OKC G L2 e (tJ O 1502 1 e) u2 false y := Or.inl ⟨rfl, hX.trans x1, x2, x3⟩
        exact OKC.bo T x4
    have step : ∀ (w1 : MS) (l1 : List FR) (f1 : Nat) (r71 r74 : Int32) (u76 : MS), SLC G L2 e O X u2 l1 f1 w1 → (w1.1 0 305).toInt ≤ 1500 → (w1.1 0 306).toInt = (v.1 0 306).toInt → Q_x_X9_kind L1 L2 w1 r71 → Q_x_X9_strength r71 r74 → 0 < r74.toInt → Q_x_X2_finishSigns L1 L2 w1 (v.1 0 326) r74 u76 → K_x_X2_finishSigns w1 (v.1 0 326) r74 u76 → ∃ l2 f2, JC L2 e u76 ∧ SK (u2.1 0 326).toInt u76 l2 (u76.1 0 326).toInt ∧ WF (u76.1 0 305).toInt l2 ∧ 1500 - (u76.1 0 305).toInt < ((f2 + 1 : Nat) : Int) ∧ u76.1 0 305 = w1.1 0 305 ∧ lvl l2 ≤ (stg r71).toInt ∧ KF (u2.1 0 326).toInt u2 u76 ∧ X = tKq O e l2 (bd (tBegin r71 e (aC (pend G l2) u76)) fun s1 => bd (tTake e s1) fun s2 => bd (O false e s2) fun q => bd (tJ O f2 ((stg r71).toInt + 1) e q.2) fun s3 => tJ O f2 (lvl l2) e (tEnd r71 s3)) ∧ (u76.1 0 326).toInt < 410 ∧ (u76.1 0 326).toInt + 1 ≤ 10 * (v.1 0 306).toInt + 10 ∧ (u76.1 0 306).toInt = (v.1 0 306).toInt ∧ (u2.1 0 326).toInt ≤ (u76.1 0 326).toInt := by
      intro w1 l1 f1 r71 r74 u76 S1 g5 g6 hk hs hp hf kf
      rw [← e26] at hf
      obtain ⟨l2, f2, J2, K2, W2, F2, q5, hl, P2, X2⟩ := cSign h02 S1 g5 hk hs hp hf
      have n1 := SK.len l2 _ K2
      have n2 := WF.len l2 W2
      have n3 := (stg_10 r71).2
      have tp' : (v.1 0 326).toInt ≤ 10 * (v.1 0 306).toInt := tp
      have e6 : u76.1 0 306 = w1.1 0 306 := kf.1.2.1 306 (by decide)
      rw [e26] at n1
      refine ⟨l2, f2, J2, K2, W2, F2, q5, hl, P2, X2, by omega, by omega, by rw [e6]; exact g6, by rw [e26]; omega⟩
    have aft : ∀ (l2 : List FR) (u76 u86 u92 : MS) (r71 : Int32), JC L2 e u76 → (u76.1 0 326).toInt < 410 → (u76.1 0 326).toInt + 1 ≤ 10 * (v.1 0 306).toInt + 10 → (u76.1 0 306).toInt = (v.1 0 306).toInt → KF (u2.1 0 326).toInt u2 u76 → Q_x_X2_beginSign L1 L2 u76 r71 false u86 → K_x_X2_beginSign u76 r71 u86 → Q_x_X9_take L1 L2 u86 false u92 → K_x_X9_take u86 u92 → OKC (gM (pend G l2) r71) L2 e (tTake e) u86 false u92 ∧ OG (gM (pend G l2) r71) u92 ∧ TPO u92 ∧ (u92.1 0 305).toInt = (u76.1 0 305).toInt + 1 := by
      intro l2 u76 u86 u92 r71 J2 g1 g2 g3 P2 hb1 kb1 ht1 kt1
      have b2 := (cBegin (G := pend G l2) hb1 J2 (by omega)).1 rfl
      have b3 := cTake (G := gM (pend G l2) r71) ht1 (fun _ => kt1) b2.2.1
      have o1 : OG G u86 := (og2.le P2.2.1).le (by rw [kb1.1.2.1 321 (by decide)]; exact Int.le_refl _)
      have o2 : OG (pend G ((r71, 0, 0) :: l2)) u86 := pend_OG o1
      refine ⟨b3, o2.kp b3.kk, ?_, ?_⟩
      · unfold TPO
        rw [b3.kk.1, kt1.1.2.1 306 (by decide), kb1.1.2.1 306 (by decide)]
        have := b2.2.2.1
        omega
      · have := kt1.2.2.1
        rw [kb1.1.2.1 305 (by decide)] at this
        exact this
    have inv : ∃ l f, SLC G L2 e O X u2 l f w ∧ 2 * ka.toInt ≤ (w.1 0 305).toInt := by
      refine RT.ind (fun (q : Int32 × MS) => ∃ l f, SLC G L2 e O X u2 l f q.2 ∧ 2 * q.1.toInt ≤ (q.2.1 0 305).toInt) hr ⟨[], 1502, ⟨a1.jj, rfl, trivial, ?_, hX.symm, KF.rf⟩, ?_⟩ ?_
      · have := k1.2.1.1
        show 1500 - (u2.1 0 305).toInt < 1502
        omega
      · have t0 : (0 : Int32).toInt = 0 := by decide
        have := k1.2.1.1
        show 2 * (0 : Int32).toInt ≤ (u2.1 0 305).toInt
        omega
      · rintro ⟨k9, w1⟩ y - ⟨l1, f1, S1, g2⟩ hy
        obtain ⟨-, i5, -, -, -, -, hk9, -, -, -, -, h61, lt, r38, hk1, r41, hs1, -, hp, r71, hk2, r74, hs2, -, u76, hf, kf, u86, hb1, kb1, u92, ht1, kt1, r109, u108, ho1, ko1, rfl⟩ := hy
        have g2 : 2 * k9.toInt ≤ (w1.1 0 305).toInt := g2
        have lt : k9.toInt < 1500 := lt
        have hk9 : 0 ≤ k9.toInt ∧ k9.toInt ≤ 1500 := hk9
        have i5 : 0 ≤ (w1.1 0 305).toInt ∧ (w1.1 0 305).toInt ≤ 1500 := i5
        have h61 : (w1.1 0 306).toInt = (v.1 0 306).toInt := by
          have q : (w1.1 0 306).toInt = (v.1 0 306).toInt + 0 := h61
          omega
        have S1 : SLC G L2 e O X u2 l1 f1 w1 := S1
        have hp2 : 0 < r74.toInt := by
          rw [stg_s hs2, (cKind (G := G) hk2 S1.1).trans (cKind (G := G) hk1 S1.1).symm, ← stg_s hs1]
          exact hp
        obtain ⟨l2, f2, J2, K2, W2, F2, q5, hl, P2, X2, g7, g8, g9, g10⟩ := step w1 l1 f1 r71 r74 u76 S1 i5.2 h61 hk2 hs2 hp2 hf kf
        have b2 := (cBegin (G := pend G l2) hb1 J2 (by omega)).1 rfl
        obtain ⟨b3, o3, t3, at3⟩ := aft l2 u76 u86 u92 r71 J2 g7 g8 g9 P2 hb1 kb1 ht1 kt1
        have b4 := hO (pend G ((r71, f2, lvl l2) :: l2)) e u92 0 false false r109 u108 (by decide) ho1 (fun _ => ko1) b3.jj o3 t3
        have at4 : (u92.1 0 305).toInt + 1 ≤ (u108.1 0 305).toInt := ko1.2.2.2.2.2.2.2.1
        have top4 : (u108.1 0 326).toInt = (u76.1 0 326).toInt + 1 := by
          rw [b4.kk.1, b3.kk.1]
          exact b2.2.2.1
        have top3 : (u92.1 0 326).toInt = (u76.1 0 326).toInt + 1 := by
          rw [b3.kk.1]
          exact b2.2.2.1
        have c6 : 0 ≤ (u76.1 0 326).toInt := Int.le_trans h02 g10
        have ent : ∀ j : Nat, (j : Int) < (u76.1 0 326).toInt → u108.1 324 j = u76.1 324 j := fun j hj => ((b4.kk.2.1 j (by omega)).1.trans (b3.kk.2.1 j (by rw [b2.2.2.1]; omega)).1).trans (b2.2.2.2.2 j hj).1
        refine ⟨(r71, f2, lvl l2) :: l2, f2, ⟨b4.jj, ⟨by show (u2.1 0 326).toInt < (u108.1 0 326).toInt; omega, ?_, ?_⟩, ⟨rfl, hl, (stg_10 r71).2, ?_, WF.mono (by show (u76.1 0 305).toInt ≤ (u108.1 0 305).toInt; omega) l2 W2⟩, ?_, ?_, ?_⟩, ?_⟩
        · show u108.1 324 ((u108.1 0 326).toInt - 1).toNat = r71
          rw [top4, show (u76.1 0 326).toInt + 1 - 1 = (u76.1 0 326).toInt by omega]
          have hj : (((u76.1 0 326).toInt.toNat : Nat) : Int) = (u76.1 0 326).toInt := by omega
          rw [(b4.kk.2.1 _ (by rw [hj]; omega)).1, (b3.kk.2.1 _ (by rw [hj, b2.2.2.1]; omega)).1]
          exact b2.2.2.2.1
        · show SK (u2.1 0 326).toInt u108 l2 ((u108.1 0 326).toInt - 1)
          rw [top4, show (u76.1 0 326).toInt + 1 - 1 = (u76.1 0 326).toInt by omega]
          exact SK.cg h02 l2 _ ent K2
        · show 1500 - (u108.1 0 305).toInt < (f2 : Int)
          omega
        · show 1500 - (u108.1 0 305).toInt < (f2 : Int)
          omega
        · rw [X2, b2.1, bd_ok, b3.eo, bd_ok]
          rcases b4 with ⟨-, b5, -⟩ | ⟨q, -⟩
          · have b6 : O false e (aC (gM (pend G l2) r71) u92) = .ok (decide (r109.toInt ≠ 0), aC (gM (pend G l2) r71) u108) := b5
            rw [b6, bd_ok]
            rfl
          · cases q
        · have p1 : KF (u2.1 0 326).toInt u76 u86 := ⟨fun j hj => b2.2.2.2.2 j (Int.lt_of_lt_of_le hj g10), by rw [kb1.1.2.1 321 (by decide)]; exact Int.le_refl _, fun j _ _ => congrFun (kb1.1.2.2 320 (by decide)) j⟩
          exact ((P2.tr p1).tr (b3.kk.f (by rw [b2.2.2.1]; omega))).tr (b4.kk.f (by omega))
        · show 2 * (k9 + (1 : Int32)).toInt ≤ (u108.1 0 305).toInt
          have ke : (k9 + (1 : Int32)).toInt = k9.toInt + 1 := add_z rfl (by decide) (by omega) (by omega)
          rw [q5] at at3
          omega
    obtain ⟨l1, f1, S1, g2⟩ := inv
    have h61 : (w.1 0 306).toInt = (v.1 0 306).toInt := by omega
    refine fin ?_
    rcases h with ⟨q5, -⟩ | ⟨-, r38, hk1, r41, hs1, -, h⟩
    · omega
    have ek := cKind (G := G) hk1 S1.1
    have ek2 : r38 = e.1 (w.1 0 305) := ek
    have es := stg_s hs1
    rcases h with ⟨hp, u45, hf, kf, r51, hk2, h⟩ | ⟨hp, r71, hk2, r74, hs2, -, u76, hf, kf, h⟩
    · rw [← e26] at hf
      obtain ⟨l2, f2, S2, q5, hl⟩ := cFin h02 S1 i5.2 hf (fun k _ => Or.inr (by rw [← ek2, ← es]; exact hp))
      have l0 : l2 = [] := by
        rcases hl with hl | hl
        · exact hl
        · have := WF.len l2 S2.2.2.1
          have t0 : (0 : Int32).toInt = 0 := by decide
          omega
      subst l0
      obtain ⟨J2, K2, -, F2, X2, P2⟩ := S2
      have K2 : (u45.1 0 326).toInt = (u2.1 0 326).toInt := K2
      have t26 : u45.1 0 326 = u2.1 0 326 := Int32.toInt_inj.mp K2
      have kp5 : KP u2 u45 := ⟨t26, fun j hj => P2.1 j hj, P2.2.1, P2.2.2⟩
      have X3 : X = .ok (aC G u45) := by
        rw [X2]
        show tJ O f2 1 e (aC G u45) = _
        obtain ⟨f0, hf0⟩ : ∃ f0, f2 = f0 + 1 := ⟨f2 - 1, by rw [q5] at F2; omega⟩
        rw [hf0]
        unfold tJ
        refine if_pos (Or.inr ?_)
        show (stg (e.1 (u45.1 0 305))).toInt ≤ 0
        rw [q5, ← ek2, ← es]
        exact hp
      refine Or.inr ⟨u45, X3, J2, kp5, ?_⟩
      have ek3 := cKind (G := G) hk2 J2
      have tp5 : TPE u45 := by
        unfold TPE at *
        rw [t26, e26, kf.1.2.1 306 (by decide)]
        omega
      rcases h with ⟨q8, rfl, rfl⟩ | ⟨q8, h⟩
      · exact OKC.cg (f' := fun s => .ok s) (by unfold tQuest; rw [if_neg (by rw [← ek3]; exact q8)]) (OKC.id J2)
      · refine OKC.cg (f' := fun s => bd (tOpen e s) fun s => bd (E true e (em 2 s)) fun s => bd (tExp 39 e s) fun s => bd (E false e (em 1 s)) fun s => .ok (tClose s)) (by unfold tQuest; rw [if_pos (by rw [← ek3]; exact q8)]) ?_
        rcases h with ⟨u9, h1, rfl, rfl⟩ | ⟨u32, h1, -, rfl, rfl⟩
        · exact cQuest hE h1 J2 (og2.kp kp5) tp5
        · exact cQuest hE h1 J2 (og2.kp kp5) tp5
    · have hp2 : 0 < r74.toInt := by
        rw [stg_s hs2, (cKind (G := G) hk2 S1.1).trans ek.symm, ← es]
        exact hp
      obtain ⟨l2, f2, J2, K2, W2, F2, q5, hl, P2, X2, g7, g8, g9, g10⟩ := step w l1 f1 r71 r74 u76 S1 i5.2 h61 hk2 hs2 hp2 hf kf
      refine Or.inl ?_
      rcases h with ⟨u9, hb1, rfl, rfl⟩ | ⟨u86, hb1, kb1, h⟩
      · have b2 := (cBegin (G := pend G l2) hb1 J2 (by omega)).2 rfl
        exact ⟨_, by rw [X2, b2, bd_er, tK_er], rfl, rfl⟩
      have b2 := (cBegin (G := pend G l2) hb1 J2 (by omega)).1 rfl
      rcases h with ⟨u9, ht1, rfl, rfl⟩ | ⟨u92, ht1, kt1, u9, ho1, rfl, rfl⟩
      · have b3 := cTake (G := gM (pend G l2) r71) ht1 nom b2.2.1
        exact ⟨_, by rw [X2, b2.1, bd_ok, b3.ex, bd_er, tK_er], rfl, rfl⟩
      · obtain ⟨b3, o3, t3, at3⟩ := aft l2 u76 u86 u92 r71 J2 g7 g8 g9 P2 hb1 kb1 ht1 kt1
        have b4 := hO (pend G ((r71, f2, lvl l2) :: l2)) e u92 0 false true 0 _ (by decide) ho1 nom b3.jj o3 t3
        refine ⟨_, ?_, rfl, rfl⟩
        rw [X2, b2.1, bd_ok, b3.eo, bd_ok]
        rcases b4 with ⟨q, -⟩ | ⟨-, b5⟩
        · cases q
        · have b6 : O false e (aC (gM (pend G l2) r71) u92) = .error (u.1 0 308, u.1 0 309) := b5
          rw [b6, bd_er, tK_er]
  · rw [decide_eq_true q3]
    exact OKC.id a1.jj
end CXP
