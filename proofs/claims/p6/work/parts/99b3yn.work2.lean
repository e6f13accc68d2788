/-! work in both: begun alike, ended alike -/
/-- what both tell of a work -/
def WRES (ng : Int) (u um : MS) : Prop := u.1 0 362 = um.1 0 121 ∧ (if u.1 0 362 = 0 then u.1 0 363 else 0) = um.1 0 122 ∧ (u.1 0 368 = um.1 0 113 ∧ u.1 0 369 = um.1 0 116 ∧ u.1 0 370 = um.1 0 119 ∧ u.1 0 371 = um.1 0 120) ∧ 0 ≤ (um.1 0 119).toInt ∧ (∀ j : Nat, (j : Int) < ng → u.1 359 j = um.1 117 j) ∧ (∀ j : Nat, (j : Int) < (um.1 0 119).toInt → j < 200 → u.1 360 j = um.1 118 j) ∧ um.1 0 123 = 1
section YNW
variable {g : GC} {N : Nat} {ng lim : Int} {L1 L2 : List Nat} {K : TK} {fn : Nat → Int32} {v0 w0 : MS} {v w u um u5 u1 u0 W : MS} {c n : Nat} {pa pb pc1 pd r rm r0 : Int32}
theorem ent65 (G : PGF g N ng lim L1 L2 K fn v0 w0) (Bc : BGc N v0) (h0 : pa.toInt = c) (h1 : (c : Int) < (w0.1 0 74).toInt) (E : Q_x_X10_enter L1 L2 N v0 pa pb u5) (h : (u5.1 0 362).toInt = -1) : (u5.1 0 365).toInt = (0 : Nat) := by
  obtain ⟨-, G2, -, -, -, ⟨hN, hl, hl6⟩, ⟨h57, h84, -, -⟩, -⟩ := G
  have z0 : (0 : Int32).toInt = ((0 : Nat) : Int) := by decide
  rcases cEnter (T := 0) AG.rf G2 hN h57 h84 ⟨hl, hl6⟩ h0 h1 (by rw [Bc.1.2.2]; exact z0) (by omega) Bc.1.1 E with ⟨-, E⟩ | ⟨-, ⟨-, E⟩ | ⟨-, z, t, -, -, E⟩⟩
  · rw [E] at h
    exact absurd h (by show ¬ (1 : Int32).toInt = -1; decide)
  · rw [E] at h
    exact absurd h (by show ¬ (4 : Int32).toInt = -1; decide)
  · rw [E]
    show (v0.1 0 366).toInt = _
    rw [Bc.1.2.2]
    exact z0
theorem simBeg (G : PGF g N ng lim L1 L2 K fn v0 w0) (Bc : BGc N v0) (Bm : BGm w0) (h0 : pa.toInt = c) (h1 : (c : Int) < (w0.1 0 74).toInt) (hn : (w0.1 78 c).toInt = n) (AR : ARm w0 W n pb pc1) (E : Q_x_X10_enter L1 L2 N v0 pa (-1) u5) (M : Q_m_enter W pa N r0 u0) (AC : ARc u5 u1 n pb pc1) (AC2 : (u5.1 0 362).toInt ≠ -1 → u1 = u5) : SIM g N ng lim v0 w0 0 u1 (wA u0 0 121 r0) ∨ FIN ng 0 u1 (wA u0 0 121 r0) := by
  have GG := G
  obtain ⟨G1, G2, -, G4, -, ⟨hN, hl, hl6⟩, ⟨h57, h84, h77, h67⟩, h9⟩ := G
  have z0 : (0 : Int32).toInt = 0 := by decide
  obtain ⟨Am, a1, a2, a3, a4, a5, a6⟩ := AR
  obtain ⟨⟨m1, m2, m3, m4⟩, ⟨m5, m6, m7, m8⟩, m9, m10⟩ := Bm
  obtain ⟨⟨b1, b2, b3⟩, ⟨b4, b5, b6, b7⟩, b8⟩ := Bc
  obtain ⟨y1, ⟨y2, y2'⟩, ⟨y3, y3'⟩, ⟨y4, y4', y4'', y4t⟩, ⟨y5, y5', y5'', y5t, y5q⟩, y6⟩ := G2.2 c h1
  have w13 : W.1 0 113 = 0 := by rw [a1 113 (by decide)]; exact m5
  have w14 : W.1 0 114 = w0.1 0 114 := a1 114 (by decide)
  have w16 : W.1 0 116 = 0 := by rw [a1 116 (by decide)]; exact m6
  have w19 : W.1 0 119 = 0 := by rw [a1 119 (by decide)]; exact m7
  have w20 : W.1 0 120 = 0 := by rw [a1 120 (by decide)]; exact m8
  have w10 : W.1 0 110 = 0 := by rw [a1 110 (by decide)]; exact m1
  have gN := G4.1.2.2.1
  have gn := G4.1.2.2.2
  have cel : ∀ j : Nat, (j : Int) < ng → v0.1 359 j = W.1 117 j := fun j hj => by
    rw [b8 j (by omega), a2 117 (by decide) (by decide), m10 j (by rw [← gn]; exact hj)]
  have E := cEnter (T := 0) AG.rf G2 hN h57 h84 ⟨hl, hl6⟩ h0 h1 (by rw [b3]; exact z0) (by omega) b1 E
  have M := mEnter (T := 0) Am G2 hN h77 ⟨hl, hl6⟩ h0 h1 (show (W.1 0 115).toInt = 4 * ((0 : Nat) : Int) by rw [a1 115 (by decide), m4]; exact z0) (by omega) (show 0 ≤ (W.1 0 106).toInt ∧ (W.1 0 106).toInt ≤ 16384 by omega) (show 0 ≤ (W.1 0 113).toInt ∧ (W.1 0 113).toInt ≤ (W.1 0 114).toInt ∧ (W.1 0 114).toInt ≤ 20000 by rw [w13, w14]; omega) M
  have cnt : ∀ {x : Int32} (uu : MS), uu = wA v0 0 362 x → CNT ng 0 uu (wA W 0 121 x) := fun {x} uu hu => by
    rw [hu]
    refine ⟨⟨?_, ?_, ?_, ?_⟩, ?_, cel, fun j hj => ?_⟩
    · show v0.1 0 368 = W.1 0 113
      rw [b4, w13]
    · show v0.1 0 369 = W.1 0 116
      rw [b5, w16]
    · show v0.1 0 370 = W.1 0 119
      rw [b6, w19]
    · show v0.1 0 371 = W.1 0 120
      rw [b7, w20]
    · show 0 ≤ (W.1 0 119).toInt ∧ (W.1 0 119).toInt ≤ 0 ∧ 0 ≤ (W.1 0 120).toInt ∧ (W.1 0 120).toInt ≤ 0
      rw [w19, w20]
      omega
    · have hj : (j : Int) < (W.1 0 119).toInt := hj
      rw [w19] at hj
      omega
  rcases E with ⟨q1, E⟩ | ⟨q1, ⟨q2, E⟩ | ⟨q2, z, t, hz, ht9, E⟩⟩
  · rcases M with ⟨-, M1, M2⟩ | ⟨q3, -⟩
    · right
      rw [AC2 (by rw [E]; show ¬ (1 : Int32).toInt = -1; decide), M1, M2]
      refine ⟨⟨by rw [E]; rfl, by rw [E]; show (1 : Int32) ≠ -1; decide⟩, cnt _ E, fun z => absurd z (show ¬ (1 : Int32) = 0 by decide)⟩
    · omega
  · have q2 : (v0.1 0 367).toInt ≤ (v0.1 0 368).toInt := q2
    rw [b4, h67] at q2
    rcases M with ⟨q3, -⟩ | ⟨-, ⟨q3, M1, M2⟩ | ⟨q3, -⟩⟩
    · omega
    · right
      rw [AC2 (by rw [E]; show ¬ (4 : Int32).toInt = -1; decide), M1, M2]
      refine ⟨⟨by rw [E]; rfl, by rw [E]; show (4 : Int32) ≠ -1; decide⟩, cnt _ E, fun z => absurd z (show ¬ (4 : Int32) = 0 by decide)⟩
    · rw [w13, w14] at q3
      omega
  · have q2 : (v0.1 0 368).toInt < (v0.1 0 367).toInt := q2
    rw [b4, h67] at q2
    rcases M with ⟨q3, -⟩ | ⟨-, ⟨q3, -⟩ | ⟨-, M1, mz, mt, hmz, hmt, M⟩⟩
    · omega
    · rw [w13, w14] at q3
      omega
    · left
      obtain ⟨x1, x2, x3, x4⟩ := AC
      have u62 : u5.1 0 362 = -1 := by rw [E]; exact b1
      have x4 := x4 (by rw [u62]; decide)
      have F5 : u5.1 358 = upd (upd (v0.1 358) 0 (-1)) 1 (v0.1 0 365) := by rw [E]; rfl
      obtain ⟨⟨n1, n2⟩, ⟨n3, n4, n5⟩, ⟨n6, n7⟩, n8, n9, ⟨n10, n11⟩, ⟨n12', n13, n14, n15, n16⟩⟩ := M
      rw [w10] at n5 n6
      have n5 : u0.1 109 = upd (W.1 109) 0 pa := n5
      have n6 : u0.1 0 110 = 1 := n6
      rw [w13] at n11
      have n11 : u0.1 0 113 = 1 := n11
      have o1 : (1 : Int32).toInt = 1 := by decide
      have b0 : (W.1 0 106 - w0.1 78 c).toInt = 0 := (sub_z a3 hn (by omega) (by omega) : (W.1 0 106 - w0.1 78 c).toInt = (n : Int) - n).trans (by omega)
      have w64 : u1.1 0 364 = rF L1 v0 c 5 := by rw [x1, E]; rfl
      have rc := (G1 c 0 y1).1.2.2
      refine Or.inr (Or.inl ⟨c, 0, 0, 0, 0, y1, STA.le (s := (n, 0, 0)) ?_ (by rw [natC hn] at y6; exact y6), ⟨by rw [w64]; exact y5, by show (u0.1 0 112).toInt = _; rw [n10]; exact y5q⟩, ⟨by rw [w64]; exact y5'', by rw [w64]; exact y5t, by rw [w64]; exact y5'⟩, ?_⟩)
      · refine ⟨⟨by rw [x1]; exact u62, M1⟩, ⟨by rw [x1, E]; show (v0.1 0 366).toInt = _; rw [b3]; exact z0, by rw [x1, show u5.1 0 366 = z by rw [E]; rfl]; omega⟩, ⟨by show (u0.1 0 111).toInt = _; rw [n7]; exact b0, by show (u0.1 0 110).toInt = _; rw [n6, o1]; omega⟩, ⟨by omega, by omega, by omega⟩, by show (u0.1 0 115).toInt = _; rw [n1]; exact hmz, ?_, ?_, ?_⟩
        · show SKf g (u1.1 358) (u0.1 105) (u0.1 107) (u0.1 108) (u0.1 109) 0 c 0 0 0
          exact ⟨rfl, rfl, rfl, by rw [n5, updS]; exact h0, by rw [x3 0 (by decide), F5, updN_ (by decide), updS]⟩
        · show COR (u1.1 358) (u0.1 105) (u1.1 0 363) 0 0 (zMm g c) (zLo g c) (n, 0, 0) (u0.1 0 106).toInt
          refine ⟨fun j hj => ?_, fun j hj => absurd hj (Nat.not_lt_zero _), ⟨by show n + 0 ≤ zMm g c; omega, by show n ≤ zLo g c; omega⟩, ?_, fun e => absurd e (by show ¬ (0 : Nat) = 1; decide), fun e => absurd e (by show ¬ (0 : Nat) = 2; decide)⟩
          · have hj : j < n := hj
            rw [n9 _ (by omega)]
            have : j = 0 ∨ j = 1 := by omega
            rcases this with e | e
            · rw [e]
              exact (x4.1 (by omega)).trans (a5 (by omega)).symm
            · rw [e]
              exact (x4.2 (by omega)).trans (a6 (by omega)).symm
          · show (u0.1 0 106).toInt = ((0 : Nat) : Int) + zLo g c + ((0 : Nat) : Int) + 0
            omega
        · have u59 : u1.1 359 = v0.1 359 := by rw [x2 359 (by decide) (by decide), E]; rfl
          have u70 : u1.1 0 370 = v0.1 0 370 := by rw [x1, E]; rfl
          have u71 : u1.1 0 371 = v0.1 0 371 := by rw [x1, E]; rfl
          have u68 : u1.1 0 368 = v0.1 0 368 + 1 := by rw [x1, E]; rfl
          have u69 : u1.1 0 369 = t := by rw [x1, E]; rfl
          refine ⟨⟨?_, ?_, ?_, ?_⟩, ?_, fun j hj => ?_, fun j hj h2 => ?_⟩
          · show u1.1 0 368 = u0.1 0 113
            rw [u68, n11, b4]
            rfl
          · show u1.1 0 369 = u0.1 0 116
            rw [u69, n2, ht9, hmt, b5, w16]
            have ez : (4 : Int32) * z = mz := Int32.toInt_inj.mp ((mul_z (by decide) hz (by omega) (by omega) : ((4 : Int32) * z).toInt = 4 * (((0 : Nat) : Int) + 2 + zMm g c)).trans hmz.symm)
            rw [ez]
          · show u1.1 0 370 = u0.1 0 119
            rw [u70, n14, b6, w19]
          · show u1.1 0 371 = u0.1 0 120
            rw [u71, n15, b7, w20]
          · show 0 ≤ (u0.1 0 119).toInt ∧ (u0.1 0 119).toInt ≤ 0 ∧ 0 ≤ (u0.1 0 120).toInt ∧ (u0.1 0 120).toInt ≤ 0
            rw [n14, n15, w19, w20]
            omega
          · show u1.1 359 j = u0.1 117 j
            rw [u59, n12']
            exact cel j hj
          · have hj : (j : Int) < (u0.1 0 119).toInt := hj
            rw [n14, w19] at hj
            omega
      · have : PTT w0 (wA u0 0 121 r0) = ((w0.1 0 114).toInt - 1) * 6020 := by
          unfold PTT
          show ((w0.1 0 114).toInt - (u0.1 0 113).toInt) * 6020 = _
          rw [n11, o1]
        rw [this]
        omega
/-- work answers alike, and leaves alike what is told of it -/
theorem workJ (hN4 : 4 ≤ N) (hng : ng = (w.1 0 76).toInt) (G : ∀ w0, w0.1 0 114 = pd → (∀ k, k ∉ [0, 106, 110, 111, 112, 113, 114, 115, 116, 119, 120] → w0.1 0 k = w.1 0 k) → (∀ a, a ≠ 0 → a ≠ 117 → w0.1 a = w.1 a) → PGF g N ng lim L1 L2 K fn v0 w0) (Bc : BGc N v0) (h0 : pa.toInt = c) (h1 : (c : Int) < (w.1 0 74).toInt) (hn : (w.1 78 c).toInt = n) (hn2 : n ≤ 2) (hd : 0 ≤ pd.toInt ∧ pd.toInt ≤ 20000) (P : Q_x_X10_perform L1 L2 N v0 pa pb pc1 r u) (M : Q_m_work w pa pb pc1 pd N rm um) : r = rm ∧ WRES ng u um := by
  obtain ⟨w0, W, r0, u0, w9, ⟨Bm, B2, B3, B4⟩, AR, M1, A0, hr, hne, A9, erm, We⟩ := mWork h0 h1 hn hn2 hd M
  have G := G w0 B2 B3 B4
  have h1' : (c : Int) < (w0.1 0 74).toInt := by rw [B3 74 (by decide)]; exact h1
  have hn' : (w0.1 78 c).toInt = n := by rw [B4 78 (by decide) (by decide)]; exact hn
  obtain ⟨u5, u1, k9, E5, AC, AC2, hc, hend, er⟩ := cPerf G.2.1 G.2.2.2.2.2.1.1 hN4 h0 h1' hn' (fun u5 E h => ent65 G Bc h0 h1' E h) P
  have R : ∃ ke, FIN ng ke u w9 := by
    obtain ⟨nc, hc⟩ := hc
    obtain ⟨nr, hr⟩ := hr
    rcases simBeg G Bc Bm h0 h1' hn' AR E5 M1 AC AC2 with S | S
    · have z : (0 : Int32).toInt = 0 := by decide
      exact simRun G (nc + nr) nc nr (Nat.le_refl _) (0, u1) (wA u0 0 121 r0) (k9, u) w9 (by show SIM g N ng lim v0 w0 (0 : Int32).toInt u1 _; rw [z]; exact S) hc hr hend hne
    · have f1 := S.1.1
      have f2 := S.1.2
      have ec : ((0, u1) : Int32 × MS) = (k9, u) := by
        cases nc with
        | zero => exact hc
        | succ nc =>
          obtain ⟨x2, ⟨-, -, z, -⟩, -⟩ := RTn.hd nc _ _ hc
          exact absurd z (m1_i f2)
      have em : wA u0 0 121 r0 = w9 := by
        cases nr with
        | zero => exact hr
        | succ nr =>
          obtain ⟨w2, ⟨-, -, z, -⟩, -⟩ := RTn.hd nr _ _ hr
          rw [← f1] at z
          exact absurd z (m1_i f2)
      rw [← em, ← show u1 = u from congrArg Prod.snd ec]
      exact ⟨_, S⟩
  obtain ⟨ke, ⟨f1, f2⟩, ⟨⟨c1, c2, c3, c4⟩, ⟨c5, -⟩, c6, c7⟩, f3⟩ := R
  obtain ⟨e1, e2, e3, e4, e5⟩ := We
  have k13 : um.1 0 113 = w9.1 0 113 := e4 113 (by decide) (by decide) (by decide)
  have k16 : um.1 0 116 = w9.1 0 116 := e4 116 (by decide) (by decide) (by decide)
  have k19 : um.1 0 119 = w9.1 0 119 := e4 119 (by decide) (by decide) (by decide)
  have k20 : um.1 0 120 = w9.1 0 120 := e4 120 (by decide) (by decide) (by decide)
  refine ⟨by rw [er, erm]; exact f1, by rw [e1]; exact f1, ?_, ⟨by rw [k13]; exact c1, by rw [k16]; exact c2, by rw [k19]; exact c3, by rw [k20]; exact c4⟩, by rw [k19]; exact c5, fun j hj => by rw [e5 117 (by decide)]; exact c6 j hj, fun j hj h2 => by rw [e5 118 (by decide)]; exact c7 j (by rw [← k19]; exact hj) h2, e3⟩
  rw [e2, f1]
  by_cases z : w9.1 0 121 = 0
  · rw [if_pos z, if_pos z]
    exact f3 z
  · rw [if_neg z, if_neg z]
end YNW
