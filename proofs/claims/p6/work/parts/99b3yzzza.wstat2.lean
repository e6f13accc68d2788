/-! the reference's words: locals, break, continue, return -/
section ZZA
variable {n : Int} {K : TK} {e : PE} {v u w x y : MS} {a b d a0 : List EV} {q : EV} {r r14 pa pb pd nm : Int32} {c : RM1} {E : EvE} {S : EvS} {Es : FE} {k : Nat}
theorem nu0 : nuW 0 = [iW 19 10 0 0] := by unfold nuW; rw [if_pos (by decide)]
/-- the constant 0 -/
theorem wZero (h11 : u.1 11 = upd (v.1 11) (v.1 0 12).toNatClampNeg (iW 19 10 0 0)) (h12 : u.1 0 12 = v.1 0 12 + 1) (hs : SMw v u := by exact ⟨⟨rfl, rfl, rfl, rfl, rfl, rfl⟩, rfl, rfl⟩) : WAi K v u [evx 2 0 0] := EMi.ev (by rw [rw2, nu0]; exact EMi.w1 h11 h12 hs) (by rw [rw2, lw2])
/-- a local's setting and what is dropped -/
theorem oDecTW (A : SAw K v w a) (u11 : u.1 11 = upd (w.1 11) (w.1 0 12).toNatClampNeg (sW 10 (fW r14) 8)) (u12 : u.1 0 12 = w.1 0 12 + 1) (hs : SMw w u) (us : (u.1 0 52 = w.1 0 52 ∧ u.1 0 53 = w.1 0 53 ∧ u.1 0 55 = w.1 0 55 ∧ u.1 0 57 = w.1 0 57 ∧ u.1 0 59 = w.1 0 59) ∧ u.1 61 = w.1 61 ∧ u.1 63 = w.1 63 ∧ u.1 65 = w.1 65) : SAw K v u (a ++ [evx 4 r14 1, evx 25 0 0]) := A.tr (SAw.oa ((wKeep (y9 := 1) u11 u12 hs).tr wDrop) us.1.1 us.1.2.1 us.1.2.2.1 us.1.2.2.2.1 us.1.2.2.2.2 us.2.1 us.2.2.1 us.2.2.2)
set_option maxHeartbeats 1600000 in
theorem oLocalW (hX : XWe n K (QME k) E) (hE : HME n K (QME k) Es) (h : Q_m_declared k v false u) (J : JM n K e v) (hk : 2 ≤ (e.1 (v.1 0 47)).toInt) : ∃ a, gLocal E e (knM K v) (v.1 0 32) (v.1 0 47) = some (a, knM K u, u.1 0 47) ∧ SOw n K e v u a := by
  have JU := (rLocalS (g := g00) hE h J rfl hk).jj
  obtain ⟨z1, z2, z3, z4, z5, z6, z15, z8, z9, z10, z11, z12, z13, z14, h⟩ := h
  rcases h with ⟨u9, -, f9, -⟩ | ⟨ht, -, ⟨c6, r9, h9, -, ⟨c9, r14, u13, h13, k13, ⟨u9, -, f9, -⟩ | ⟨ht2, -, r22, h22, -, h⟩⟩ | ⟨-, f9, -⟩⟩ | ⟨-, u203, -, -, f9, -⟩⟩
  · cases f9
  · cases f9
  · have JT := (rTake (g := g00) ht J hk).jj
    have i1 : ((v.1 0 47) + (1 : Int32)).toInt = (v.1 0 47).toInt + 1 := add_z rfl (by decide) (by omega) (by omega)
    have R14 := (rSlots (g := g00) (k := 0) h13 JT)
    have J13 := R14.2.1
    have e14 : r14 = gsl (knM K v) (v.1 0 32) := by rw [gslM z3.1]; exact R14.1
    have q47 : u13.1 0 47 = v.1 0 47 + 1 := (k13.1.2.1 47 (by decide)).trans rfl
    have q30 : u13.1 0 30 = v.1 0 30 := (k13.1.2.1 30 (by decide)).trans rfl
    have q32 : u13.1 0 32 = v.1 0 32 := (k13.1.2.1 32 (by decide)).trans rfl
    have q29 : u13.1 29 = v.1 29 := (k13.1.2.2 29 (by decide)).trans rfl
    have n5 : (v.1 0 30).toInt < 500 := by
      obtain ⟨-, hq⟩ := ht2
      rcases hq with ⟨-, f9, -⟩ | ⟨-, ⟨ne, -, -⟩ | ⟨-, f9, -⟩⟩
      · cases f9
      · rcases k13.2.2.1 with ⟨g1, -⟩ | g1
        · have g2 := k13.2.2.2.2
          have g1 : (v.1 0 30).toInt + (v.1 0 32).toInt + (1 : Int32).toInt ≤ (u13.1 0 33).toInt := g1
          have t1 : (1 : Int32).toInt = 1 := by decide
          have := z5.1
          omega
        · have g1 : (u13.1 0 49).toInt = ((v.1 0 47) + (1 : Int32)).toInt := g1
          rw [q47] at ne
          exact absurd g1 ne
      · cases f9
    have k2nm : e.1 (v.1 0 47 + 1) = 2 := by
      have ek := rKd (g := g00) JT
      have ek : e.1 (v.1 0 47 + 1) = kM (v.1 6 (v.1 0 47 + 1).toNatClampNeg) (v.2 (v.1 0 47 + 1).toNatClampNeg) (v.1 10 (v.1 0 47 + 1).toNatClampNeg) := ek
      rw [ek]
      exact (kM_2 (rTV JT)).mpr (Int32.toInt_inj.mp (c6.trans (by decide)))
    have JT2 := (rTake (g := g00) ht2 J13 (by show 2 ≤ (e.1 (u13.1 0 47)).toInt; rw [q47, k2nm]; decide)).jj
    have i22 : r22.toInt ≠ 0 ↔ e.1 (u13.1 0 47 + 1) = 42 := rIs (g := g00) h22 JT2 (q := (61, 42)) (by decide) rfl
    have p2 : u13.1 0 47 + 1 = v.1 0 47 + 2 := by rw [q47, Int32.add_assoc]; rfl
    rw [p2] at i22
    have e42 : e.1 (v.1 0 47 + 2) = 42 ↔ (e.1 (v.1 0 47 + 2)).toInt = 42 := ⟨fun q => by rw [q]; decide, fun q => Int32.toInt_inj.mp (q.trans (by decide))⟩
    have nmv : K.2.1 (v.1 0 47 + 1) = e.2.1 (v.1 0 47 + 1) := by rw [J.2.1]
    have A13 : WAi K v u13 [] := (WAi.w0 (K := K) (j := 47) (x9 := (v.1 0 47) + (1 : Int32))).nt (WAi.fg k13.1)
    have S13 : SAw K v u13 [] := SAw.oa A13 ((k13.1.2.1 52 (by decide)).trans rfl) ((k13.1.2.1 53 (by decide)).trans rfl) ((k13.1.2.1 55 (by decide)).trans rfl) ((k13.1.2.1 57 (by decide)).trans rfl) ((k13.1.2.1 59 (by decide)).trans rfl) ((k13.1.2.2 61 (by decide)).trans rfl) ((k13.1.2.2 63 (by decide)).trans rfl) ((k13.1.2.2 65 (by decide)).trans rfl)
    have fin : ∀ {y : MS} {a : List EV}, u = y → SAw K v y (a ++ [evx 4 r14 1, evx 25 0 0]) → y.1 0 32 = v.1 0 32 → y.1 29 = upd (v.1 29) (v.1 0 30).toNatClampNeg (v.1 0 47 + 1) → y.1 0 30 = v.1 0 30 + 1 → SOw n K e v u (a ++ [evx 4 (gsl (knM K v) (v.1 0 32)) 1, evx 25 0 0]) ∧ knM K u = knM K v ++ [e.2.1 (v.1 0 47 + 1)] := by
      intro y a eu g1 g2 g3 g4
      have n3 := natI z3.1
      have lo : ∀ j : Nat, (j : Int) < (v.1 0 30).toInt → y.1 29 j = v.1 29 j := fun j hj => by rw [g3]; exact updN_ (by omega)
      have e1 : (v.1 0 30 + 1).toInt = (v.1 0 30).toInt + 1 := add_z rfl (by decide) (by omega) (by omega)
      have kn := knM_snoc (K := K) (v := v) (u := y) (nm := v.1 0 47 + 1) ⟨z3.1, n5⟩ lo (by rw [g3]; exact updS) g4
      rw [eu, ← e14]
      refine ⟨⟨by rw [← eu]; exact ⟨JU.1, JU.2.2⟩, g1, g2, by rw [g4, e1]; omega, lo⟩, by rw [kn, nmv]⟩
    unfold gLocal
    rcases h with ⟨c22, r27, h27, r51, h51, r54, h54, ⟨u9, -, f9, -⟩ | ⟨hn, -, h⟩⟩ | ⟨c22, ⟨u9, -, f9, -⟩ | ⟨ht3, -, ⟨u9, -, f9, -⟩ | ⟨u124, h124, k124, r140, h140, r143, h143, ⟨u9, -, f9, -⟩ | ⟨hn, -, h⟩⟩⟩⟩
    · cases f9
    · rw [if_neg (fun q => i22.mpr (e42.mpr q) c22), Option.bind_some]
      obtain rfl := eAddi h27
      obtain rfl := eSlot h51
      obtain rfl := eSw h54
      obtain ⟨Z, hZ⟩ : ∃ Z, Z = (wA (wA (wA (wA (wA (wA u13 0 47 ((u13.1 0 47) + (1 : Int32))) 11 ((u13.1 0 12).toNatClampNeg) (iW 19 10 0 0)) 0 12 ((u13.1 0 12) + (1 : Int32))) 13 ((u13.1 0 15).toNatClampNeg) (0 : Int32)) 14 ((u13.1 0 15).toNatClampNeg) (0 : Int32)) 0 15 ((u13.1 0 15) + (1 : Int32))) := ⟨_, rfl⟩
      rw [← hZ] at hn h
      have BZ : WAi K u13 Z [evx 2 0 0] := by
        rw [hZ]
        exact wZero rfl rfl
      have SZ : SAw K v Z [evx 2 0 0] := S13.tn (by rw [hZ] at BZ ⊢; exact SAw.oa BZ rfl rfl rfl rfl rfl rfl rfl rfl)
      have mZ : EMS (0 + 1) (wA u13 0 47 ((u13.1 0 47) + (1 : Int32))) Z := by
        rw [hZ]
        exact EMS.w0 (EMS.wa (EMS.wa (EMS.o1 (EMS.wa EMS.rf (by decide)) rfl) (by decide)) (by decide)) (by decide)
      obtain ⟨N0, hN0⟩ : ∃ N0, N0 = (wA (wA (wA (wA (wA (wA (wA (wA Z 11 (((u13.1 0 12) + (1 : Int32)).toNatClampNeg) (sW 10 (fW r14) 8)) 0 12 (((u13.1 0 12) + (1 : Int32)) + (1 : Int32))) 13 (((u13.1 0 15) + (1 : Int32)).toNatClampNeg) (2 : Int32)) 14 (((u13.1 0 15) + (1 : Int32)).toNatClampNeg) r14) 0 15 (((u13.1 0 15) + (1 : Int32)) + (1 : Int32))) 13 ((((u13.1 0 15) + (1 : Int32)) + (1 : Int32)).toNatClampNeg) (9 : Int32)) 14 ((((u13.1 0 15) + (1 : Int32)) + (1 : Int32)).toNatClampNeg) (0 : Int32)) 0 15 ((((u13.1 0 15) + (1 : Int32)) + (1 : Int32)) + (1 : Int32))) := ⟨_, rfl⟩
      rw [← hN0] at hn h
      have z12 : Z.1 0 12 = u13.1 0 12 + 1 := by rw [hZ]; rfl
      have N11 : N0.1 11 = upd (Z.1 11) (Z.1 0 12).toNatClampNeg (sW 10 (fW r14) 8) := by rw [z12, hN0]; rfl
      have N12 : N0.1 0 12 = Z.1 0 12 + 1 := by rw [z12, hN0]; rfl
      have NS : SMw Z N0 := by rw [hN0]; exact ⟨⟨rfl, rfl, rfl, rfl, rfl, rfl⟩, rfl, rfl⟩
      have mN : EMS (0 + 1) Z N0 := by
        rw [hN0]
        exact EMS.w0 (EMS.wa (EMS.wa (EMS.w0 (EMS.wa (EMS.wa (EMS.o1 (EMS.wa EMS.rf (by decide)) (by rw [← z12]; rfl)) (by decide)) (by decide)) (by decide)) (by decide)) (by decide)) (by decide)
      have JN := mN.j (mZ.j JT2)
      have Nd := oNeed (q := (59, 36)) (m := 36) hn JN (by decide) rfl (by decide)
      have n47 : N0.1 0 47 = v.1 0 47 + 2 := by
        rw [mN.2.2.1 47 (by decide), mZ.2.2.1 47 (by decide)]
        exact p2
      have TT : ∀ {y : MS} {yv : Int32}, y = (wA (wA (wA (wA N0 0 47 (((u13.1 0 47) + (1 : Int32)) + (1 : Int32))) 29 ((u13.1 0 30).toNatClampNeg) ((v.1 0 47) + (1 : Int32))) 0 30 ((u13.1 0 30) + (1 : Int32))) 0 34 yv) → SAw K v y ([evx 2 0 0] ++ [evx 4 r14 1, evx 25 0 0]) ∧ y.1 0 32 = v.1 0 32 ∧ y.1 29 = upd (v.1 29) (v.1 0 30).toNatClampNeg (v.1 0 47 + 1) ∧ y.1 0 30 = v.1 0 30 + 1 ∧ y.1 0 47 = v.1 0 47 + 2 + 1 := by
        intro y yv ey
        refine ⟨oDecTW SZ ?_ ?_ ?_ ⟨⟨?_, ?_, ?_, ?_, ?_⟩, ?_, ?_, ?_⟩, ?_, ?_, ?_, ?_⟩
        · rw [ey]; show N0.1 11 = _; rw [N11]
        · rw [ey]; show N0.1 0 12 = _; rw [N12]
        · rw [ey]; exact NS
        · rw [ey]; show N0.1 0 52 = _; rw [hN0]; rfl
        · rw [ey]; show N0.1 0 53 = _; rw [hN0]; rfl
        · rw [ey]; show N0.1 0 55 = _; rw [hN0]; rfl
        · rw [ey]; show N0.1 0 57 = _; rw [hN0]; rfl
        · rw [ey]; show N0.1 0 59 = _; rw [hN0]; rfl
        · rw [ey]; show N0.1 61 = _; rw [hN0]; rfl
        · rw [ey]; show N0.1 63 = _; rw [hN0]; rfl
        · rw [ey]; show N0.1 65 = _; rw [hN0]; rfl
        · rw [ey]; show N0.1 0 32 = _; rw [mN.2.2.1 32 (by decide), mZ.2.2.1 32 (by decide)]; exact q32
        · rw [ey]
          show upd (N0.1 29) (u13.1 0 30).toNatClampNeg (v.1 0 47 + 1) = _
          rw [mN.2.1 29 (by decide), mZ.2.1 29 (by decide), q30]
          show upd (u13.1 29) _ _ = _
          rw [q29]
        · rw [ey]
          show u13.1 0 30 + 1 = _
          rw [q30]
        · rw [ey]
          show u13.1 0 47 + 1 + 1 = _
          rw [p2]
      have gt : gTok e 36 (v.1 0 47 + 2) = some (v.1 0 47 + 2 + 1) := by
        have := Nd.2
        rw [n47] at this
        exact if_pos this
      have G : ∀ {y : MS} {yv : Int32}, u = y → y = (wA (wA (wA (wA N0 0 47 (((u13.1 0 47) + (1 : Int32)) + (1 : Int32))) 29 ((u13.1 0 30).toNatClampNeg) ((v.1 0 47) + (1 : Int32))) 0 30 ((u13.1 0 30) + (1 : Int32))) 0 34 yv) → ∃ a, ((gTok e 36 (v.1 0 47 + 2)).bind fun j => some ([evx 2 0 0] ++ [evx 4 (gsl (knM K v) (v.1 0 32)) 1, evx 25 0 0], knM K v ++ [e.2.1 (v.1 0 47 + 1)], j)) = some (a, knM K u, u.1 0 47) ∧ SOw n K e v u a := by
        intro y yv eu ey
        have t := TT ey
        have F := fin eu t.1 t.2.1 t.2.2.1 t.2.2.2.1
        exact ⟨_, by rw [gt, Option.bind_some, F.2, eu, t.2.2.2.2], F.1⟩
      rcases h with ⟨-, -, eu⟩ | ⟨-, -, eu⟩
      · exact G eu rfl
      · exact G eu rfl
    · cases f9
    · cases f9
    · cases f9
    · have k42 := e42.mp (i22.mp c22)
      obtain rfl := eSlot h140
      obtain rfl := eSw h143
      rw [if_pos k42]
      obtain ⟨W3, hW3⟩ : ∃ W3, W3 = (wA (wA u13 0 47 ((u13.1 0 47) + (1 : Int32))) 0 47 (((u13.1 0 47) + (1 : Int32)) + (1 : Int32))) := ⟨_, rfl⟩
      rw [← hW3] at ht3 h124 k124
      have JW := (rTake (g := g00) ht3 JT2 (by show 2 ≤ (e.1 (u13.1 0 47 + 1)).toInt; rw [p2, k42]; decide)).jj
      have w47 : W3.1 0 47 = v.1 0 47 + 3 := by
        rw [hW3]
        show u13.1 0 47 + 1 + 1 = _
        rw [p2, Int32.add_assoc]
        rfl
      have w30 : W3.1 0 30 = v.1 0 30 := by rw [hW3]; exact q30
      have w29 : W3.1 29 = v.1 29 := by rw [hW3]; exact q29
      have w32 : W3.1 0 32 = v.1 0 32 := by rw [hW3]; exact q32
      obtain ⟨a, x1, x2⟩ := hX e W3 u124 h124 k124 JW
      rw [knM_of w29 w30, w32, w47] at x1
      have SW3 : SAw K u13 W3 [] := by rw [hW3]; exact SAw.oa (WAi.sm rfl rfl) rfl rfl rfl rfl rfl rfl rfl rfl
      have SZ : SAw K v u124 a := (S13.tn SW3).tn (SAw.fg x2.2.1 k124.1)
      obtain ⟨N0, hN0⟩ : ∃ N0, N0 = (wA (wA (wA (wA (wA (wA (wA (wA u124 11 ((u124.1 0 12).toNatClampNeg) (sW 10 (fW r14) 8)) 0 12 ((u124.1 0 12) + (1 : Int32))) 13 ((u124.1 0 15).toNatClampNeg) (2 : Int32)) 14 ((u124.1 0 15).toNatClampNeg) r14) 0 15 ((u124.1 0 15) + (1 : Int32))) 13 (((u124.1 0 15) + (1 : Int32)).toNatClampNeg) (9 : Int32)) 14 (((u124.1 0 15) + (1 : Int32)).toNatClampNeg) (0 : Int32)) 0 15 (((u124.1 0 15) + (1 : Int32)) + (1 : Int32))) := ⟨_, rfl⟩
      rw [← hN0] at hn h
      have N11 : N0.1 11 = upd (u124.1 11) (u124.1 0 12).toNatClampNeg (sW 10 (fW r14) 8) := by rw [hN0]; rfl
      have N12 : N0.1 0 12 = u124.1 0 12 + 1 := by rw [hN0]; rfl
      have NS : SMw u124 N0 := by rw [hN0]; exact ⟨⟨rfl, rfl, rfl, rfl, rfl, rfl⟩, rfl, rfl⟩
      have mN : EMS (0 + 1) u124 N0 := by
        rw [hN0]
        exact EMS.w0 (EMS.wa (EMS.wa (EMS.w0 (EMS.wa (EMS.wa (EMS.o1 (EMS.wa EMS.rf (by decide)) rfl) (by decide)) (by decide)) (by decide)) (by decide)) (by decide)) (by decide)
      have Nd := oNeed (q := (59, 36)) (m := 36) hn (mN.j x2.1) (by decide) rfl (by decide)
      have n47 : N0.1 0 47 = u124.1 0 47 := mN.2.2.1 47 (by decide)
      have v30 : u124.1 0 30 = v.1 0 30 := x2.2.2.2.1.trans w30
      have v29 : u124.1 29 = v.1 29 := x2.2.2.1.trans w29
      have TT : ∀ {y : MS} {yv : Int32}, y = (wA (wA (wA (wA N0 0 47 ((u124.1 0 47) + (1 : Int32))) 29 ((u124.1 0 30).toNatClampNeg) ((v.1 0 47) + (1 : Int32))) 0 30 ((u124.1 0 30) + (1 : Int32))) 0 34 yv) → SAw K v y (a ++ [evx 4 r14 1, evx 25 0 0]) ∧ y.1 0 32 = v.1 0 32 ∧ y.1 29 = upd (v.1 29) (v.1 0 30).toNatClampNeg (v.1 0 47 + 1) ∧ y.1 0 30 = v.1 0 30 + 1 ∧ y.1 0 47 = u124.1 0 47 + 1 := by
        intro y yv ey
        refine ⟨oDecTW SZ ?_ ?_ ?_ ⟨⟨?_, ?_, ?_, ?_, ?_⟩, ?_, ?_, ?_⟩, ?_, ?_, ?_, ?_⟩
        · rw [ey]; show N0.1 11 = _; rw [N11]
        · rw [ey]; show N0.1 0 12 = _; rw [N12]
        · rw [ey]; exact NS
        · rw [ey]; show N0.1 0 52 = _; rw [hN0]; rfl
        · rw [ey]; show N0.1 0 53 = _; rw [hN0]; rfl
        · rw [ey]; show N0.1 0 55 = _; rw [hN0]; rfl
        · rw [ey]; show N0.1 0 57 = _; rw [hN0]; rfl
        · rw [ey]; show N0.1 0 59 = _; rw [hN0]; rfl
        · rw [ey]; show N0.1 61 = _; rw [hN0]; rfl
        · rw [ey]; show N0.1 63 = _; rw [hN0]; rfl
        · rw [ey]; show N0.1 65 = _; rw [hN0]; rfl
        · rw [ey]; show N0.1 0 32 = _; rw [mN.2.2.1 32 (by decide), x2.2.2.2.2]; exact w32
        · rw [ey]
          show upd (N0.1 29) (u124.1 0 30).toNatClampNeg (v.1 0 47 + 1) = _
          rw [mN.2.1 29 (by decide), v30, v29]
        · rw [ey]
          show u124.1 0 30 + 1 = _
          rw [v30]
        · rw [ey]; rfl
      have gt : gTok e 36 (u124.1 0 47) = some (u124.1 0 47 + 1) := by
        have := Nd.2
        rw [n47] at this
        exact if_pos this
      have G : ∀ {y : MS} {yv : Int32}, u = y → y = (wA (wA (wA (wA N0 0 47 ((u124.1 0 47) + (1 : Int32))) 29 ((u124.1 0 30).toNatClampNeg) ((v.1 0 47) + (1 : Int32))) 0 30 ((u124.1 0 30) + (1 : Int32))) 0 34 yv) → ∃ a9, (((E true e (knM K v) (v.1 0 32) (v.1 0 47 + 3))).bind fun q => (gTok e 36 q.2).bind fun j => some (q.1 ++ [evx 4 (gsl (knM K v) (v.1 0 32)) 1, evx 25 0 0], knM K v ++ [e.2.1 (v.1 0 47 + 1)], j)) = some (a9, knM K u, u.1 0 47) ∧ SOw n K e v u a9 := by
        intro y yv eu ey
        have t := TT ey
        have F := fin eu t.1 t.2.1 t.2.2.1 t.2.2.2.1
        refine ⟨_, ?_, F.1⟩
        rw [x1, Option.bind_some]
        show (gTok e 36 (u124.1 0 47)).bind _ = _
        rw [gt, Option.bind_some, F.2, eu, t.2.2.2.2]
      rcases h with ⟨-, -, eu⟩ | ⟨-, -, eu⟩
      · exact G eu rfl
      · exact G eu rfl
  · cases f9
  · cases f9
end ZZA
