/-! the reference's orders: locals, break, continue, return -/
theorem nI_nat {x : Int32} (h : 0 ≤ x.toInt) : nI x.toNatClampNeg = x := by
  have n := natI h
  have l := Int32.toInt_lt x
  exact Int32.toInt_inj.mp (by rw [nI_Z (by omega)]; exact n)
section WOS
variable {n : Int} {K : TK} {e : PE} {v u w x y : MS} {a b d a0 : List EV} {q : EV} {r r14 pa pb pd nm : Int32} {c : RM1} {E : EvE} {S : EvS} {Es : FE} {k : Nat}
theorem gslM (h : 0 ≤ (v.1 0 30).toInt) : gsl (knM K v) (v.1 0 32) = v.1 0 30 + v.1 0 32 := by
  unfold gsl knM
  rw [List.length_map, List.length_range, nI_nat h]
theorem knM_snoc (h0 : 0 ≤ (v.1 0 30).toInt ∧ (v.1 0 30).toInt < 500) (h1 : ∀ j : Nat, (j : Int) < (v.1 0 30).toInt → u.1 29 j = v.1 29 j) (h2 : u.1 29 (v.1 0 30).toNatClampNeg = nm) (h3 : u.1 0 30 = v.1 0 30 + 1) : knM K u = knM K v ++ [K.2.1 nm] := by
  unfold knM
  have e1 : (v.1 0 30 + 1).toInt = (v.1 0 30).toInt + 1 := add_z rfl (by decide) (by omega) (by omega)
  have n0 := natI h0.1
  rw [h3, natS e1 h0.1, List.range_succ, List.map_append]
  congr 1
  · refine List.map_congr_left (fun j hj => ?_)
    have := List.mem_range.mp hj
    rw [h1 j (by omega)]
  · show [K.2.1 (u.1 29 (v.1 0 30).toNatClampNeg)] = _
    rw [h2]
/-- a local's setting and what is dropped -/
theorem oDecT (A : SAq K v w a) (h0 : 0 ≤ (v.1 0 15).toInt) (l15 : (w.1 0 15).toInt ≤ 90000) (u13 : u.1 13 = upd (upd (w.1 13) (w.1 0 15).toNatClampNeg 2) ((w.1 0 15) + (1 : Int32)).toNatClampNeg 9) (u14 : u.1 14 = upd (upd (w.1 14) (w.1 0 15).toNatClampNeg r14) ((w.1 0 15) + (1 : Int32)).toNatClampNeg 0) (u15 : u.1 0 15 = w.1 0 15 + 1 + 1) (u39 : u.1 0 39 = w.1 0 39) (u27 : u.1 0 27 = w.1 0 27) (ua : u.1 35 = w.1 35 ∧ u.1 38 = w.1 38 ∧ u.1 25 = w.1 25) (us : (u.1 0 52 = w.1 0 52 ∧ u.1 0 54 = w.1 0 54 ∧ u.1 0 55 = w.1 0 55 ∧ u.1 0 56 = w.1 0 56 ∧ u.1 0 58 = w.1 0 58) ∧ u.1 62 = w.1 62 ∧ u.1 63 = w.1 63 ∧ u.1 64 = w.1 64 ∧ u.1 66 = w.1 66) : SAq K v u (a ++ [evx 4 r14 1, evx 25 0 0]) := by
  have a15 := A.1.1
  obtain ⟨M, hM⟩ : ∃ M, M = wA (wA (wA w 13 (w.1 0 15).toNatClampNeg 2) 14 (w.1 0 15).toNatClampNeg r14) 0 15 ((w.1 0 15) + (1 : Int32)) := ⟨_, rfl⟩
  have B1 : OA K w M [evx 4 r14 1] := by
    rw [hM]
    exact OA.say (o := 2) (z := r14) rfl rfl rfl ⟨by omega, by omega⟩ rfl rfl ⟨rfl, rfl, rfl⟩ rfl rfl (show upd (w.1 14) _ r14 _ = r14 from updS)
  have m15 : M.1 0 15 = w.1 0 15 + 1 := by rw [hM]; rfl
  have i15 : ((w.1 0 15) + (1 : Int32)).toInt = (w.1 0 15).toInt + 1 := add_z rfl (by decide) (by omega) (by omega)
  have g13 : u.1 13 = upd (M.1 13) (M.1 0 15).toNatClampNeg 9 := by rw [u13, m15, hM]; rfl
  have g14 : u.1 14 = upd (M.1 14) (M.1 0 15).toNatClampNeg 0 := by rw [u14, m15, hM]; rfl
  have B2 : OA K M u [evx 25 0 0] := OA.say (o := 9) (z := 0) g13 g14 (by rw [u15, m15]) ⟨by rw [m15, i15]; omega, by rw [m15, i15]; omega⟩ (by rw [u39, hM]; rfl) (by rw [u27, hM]; rfl) (by rw [ua.1, ua.2.1, ua.2.2, hM]; exact ⟨rfl, rfl, rfl⟩) loE1 rfl (by show u.1 14 _ = 0; rw [g14]; exact updS)
  have B := B1.tr B2 (by omega)
  exact A.tr (SAq.oa B us.1.1 us.1.2.1 us.1.2.2.1 us.1.2.2.2.1 us.1.2.2.2.2 us.2.1 us.2.2.1 us.2.2.2.1 us.2.2.2.2) h0
set_option maxHeartbeats 1600000 in
theorem oLocal (hX : XMe n K (QME k) E) (hE : HME n K (QME k) Es) (h : Q_m_declared k v false u) (J : JM n K e v) (hk : 2 ≤ (e.1 (v.1 0 47)).toInt) : ∃ a, gLocal E e (knM K v) (v.1 0 32) (v.1 0 47) = some (a, knM K u, u.1 0 47) ∧ SOq n K e v u a := by
  have JU := (rLocalS (g := g00) hE h J rfl hk).jj
  obtain ⟨z1, z2, z3, z4, z5, z6, z15, z8, z9, z10, z11, z12, z13, z14, h⟩ := h
  have p0 := z15.1
  rcases h with ⟨u9, -, f9, -⟩ | ⟨ht, -, ⟨c6, r9, h9, -, ⟨c9, r14, u13, h13, k13, ⟨u9, -, f9, -⟩ | ⟨ht2, -, r22, h22, -, h⟩⟩ | ⟨-, f9, -⟩⟩ | ⟨-, u203, -, -, f9, -⟩⟩
  · cases f9
  · cases f9
  · have JT := (rTake (g := g00) ht J hk).jj
    have i1 : ((v.1 0 47) + (1 : Int32)).toInt = (v.1 0 47).toInt + 1 := add_z rfl (by decide) (by omega) (by omega)
    have R14 := (rSlots (g := g00) (k := 0) h13 JT)
    have J13 := R14.2.1
    have e14 : r14 = gsl (knM K v) (v.1 0 32) := by rw [gslM z3.1]; exact R14.1
    have q47 : u13.1 0 47 = v.1 0 47 + 1 := (k13.1.2.1 47 (by decide)).trans rfl
    have q30 : u13.1 0 30 = v.1 0 30 := (k13.1.2.1 30 (by decide)).trans rfl
    have q32 : u13.1 0 32 = v.1 0 32 := (k13.1.2.1 32 (by decide)).trans rfl
    have q15 : u13.1 0 15 = v.1 0 15 := (k13.1.2.1 15 (by decide)).trans rfl
    have q29 : u13.1 29 = v.1 29 := (k13.1.2.2 29 (by decide)).trans rfl
    have n5 : (v.1 0 30).toInt < 500 := by
      obtain ⟨-, hq⟩ := ht2
      rcases hq with ⟨-, f9, -⟩ | ⟨-, ⟨ne, -, -⟩ | ⟨-, f9, -⟩⟩
      · cases f9
      · rcases k13.2.2.1 with ⟨g1, -⟩ | g1
        · have g2 := k13.2.2.2.2
          have g1 : (v.1 0 30).toInt + (v.1 0 32).toInt + (1 : Int32).toInt ≤ (u13.1 0 33).toInt := g1
          have t1 : (1 : Int32).toInt = 1 := by decide
          have := z5.1
          omega
        · have g1 : (u13.1 0 49).toInt = ((v.1 0 47) + (1 : Int32)).toInt := g1
          rw [q47] at ne
          exact absurd g1 ne
      · cases f9
    have k2nm : e.1 (v.1 0 47 + 1) = 2 := by
      have ek := rKd (g := g00) JT
      have ek : e.1 (v.1 0 47 + 1) = kM (v.1 6 (v.1 0 47 + 1).toNatClampNeg) (v.2 (v.1 0 47 + 1).toNatClampNeg) (v.1 10 (v.1 0 47 + 1).toNatClampNeg) := ek
      rw [ek]
      exact (kM_2 (rTV JT)).mpr (Int32.toInt_inj.mp (c6.trans (by decide)))
    have JT2 := (rTake (g := g00) ht2 J13 (by show 2 ≤ (e.1 (u13.1 0 47)).toInt; rw [q47, k2nm]; decide)).jj
    have i22 : r22.toInt ≠ 0 ↔ e.1 (u13.1 0 47 + 1) = 42 := rIs (g := g00) h22 JT2 (q := (61, 42)) (by decide) rfl
    have p2 : u13.1 0 47 + 1 = v.1 0 47 + 2 := by rw [q47, Int32.add_assoc]; rfl
    rw [p2] at i22
    have e42 : e.1 (v.1 0 47 + 2) = 42 ↔ (e.1 (v.1 0 47 + 2)).toInt = 42 := ⟨fun q => by rw [q]; decide, fun q => Int32.toInt_inj.mp (q.trans (by decide))⟩
    have nmv : K.2.1 (v.1 0 47 + 1) = e.2.1 (v.1 0 47 + 1) := by rw [J.2.1]
    have A13 : OA K v u13 [] := (OA.w0 (K := K) (j := 47) (x9 := (v.1 0 47) + (1 : Int32))).nt (OA.fg k13.1) p0
    have S13 : SAq K v u13 [] := SAq.oa A13 ((k13.1.2.1 52 (by decide)).trans rfl) ((k13.1.2.1 54 (by decide)).trans rfl) ((k13.1.2.1 55 (by decide)).trans rfl) ((k13.1.2.1 56 (by decide)).trans rfl) ((k13.1.2.1 58 (by decide)).trans rfl) ((k13.1.2.2 62 (by decide)).trans rfl) ((k13.1.2.2 63 (by decide)).trans rfl) ((k13.1.2.2 64 (by decide)).trans rfl) ((k13.1.2.2 66 (by decide)).trans rfl)
    have fin : ∀ {y : MS} {a : List EV}, u = y → SAq K v y (a ++ [evx 4 r14 1, evx 25 0 0]) → y.1 0 32 = v.1 0 32 → y.1 29 = upd (v.1 29) (v.1 0 30).toNatClampNeg (v.1 0 47 + 1) → y.1 0 30 = v.1 0 30 + 1 → SOq n K e v u (a ++ [evx 4 (gsl (knM K v) (v.1 0 32)) 1, evx 25 0 0]) ∧ knM K u = knM K v ++ [e.2.1 (v.1 0 47 + 1)] := by
      intro y a eu g1 g2 g3 g4
      have n3 := natI z3.1
      have lo : ∀ j : Nat, (j : Int) < (v.1 0 30).toInt → y.1 29 j = v.1 29 j := fun j hj => by rw [g3]; exact updN_ (by omega)
      have e1 : (v.1 0 30 + 1).toInt = (v.1 0 30).toInt + 1 := add_z rfl (by decide) (by omega) (by omega)
      have kn := knM_snoc (K := K) (v := v) (u := y) (nm := v.1 0 47 + 1) ⟨z3.1, n5⟩ lo (by rw [g3]; exact updS) g4
      rw [eu, ← e14]
      refine ⟨⟨by rw [← eu]; exact ⟨JU.1, JU.2.2⟩, g1, g2, by rw [g4, e1]; omega, lo⟩, by rw [kn, nmv]⟩
    unfold gLocal
    rcases h with ⟨c22, r27, -, r51, -, r54, -, ⟨u9, -, f9, -⟩ | ⟨hn, -, h⟩⟩ | ⟨c22, ⟨u9, -, f9, -⟩ | ⟨ht3, -, ⟨u9, -, f9, -⟩ | ⟨u124, h124, k124, r140, -, r143, -, ⟨u9, -, f9, -⟩ | ⟨hn, -, h⟩⟩⟩⟩
    · cases f9
    · rw [if_neg (fun q => i22.mpr (e42.mpr q) c22), Option.bind_some]
      obtain ⟨Z, hZ⟩ : ∃ Z, Z = (wA (wA (wA (wA (wA (wA u13 0 47 ((u13.1 0 47) + (1 : Int32))) 11 ((u13.1 0 12).toNatClampNeg) r27) 0 12 ((u13.1 0 12) + (1 : Int32))) 13 ((u13.1 0 15).toNatClampNeg) (0 : Int32)) 14 ((u13.1 0 15).toNatClampNeg) (0 : Int32)) 0 15 ((u13.1 0 15) + (1 : Int32))) := ⟨_, rfl⟩
      rw [← hZ] at hn h
      have y15 : Z.1 0 15 = u13.1 0 15 + 1 := by rw [hZ]; rfl
      have BZ : OA K u13 Z [evx 2 0 0] := by
        rw [hZ]
        exact OA.say (o := 0) (z := 0) rfl rfl rfl ⟨by rw [q15]; exact p0, by rw [q15]; omega⟩ rfl rfl ⟨rfl, rfl, rfl⟩ loE1 rfl (show upd (u13.1 14) _ 0 _ = 0 from updS)
      have SZ : SAq K v Z [evx 2 0 0] := S13.tn (by rw [hZ] at BZ ⊢; exact SAq.oa BZ rfl rfl rfl rfl rfl rfl rfl rfl rfl) p0
      have mZ : EMS (0 + 1) (wA u13 0 47 ((u13.1 0 47) + (1 : Int32))) Z := by
        rw [hZ]
        exact EMS.w0 (EMS.wa (EMS.wa (EMS.o1 (EMS.wa EMS.rf (by decide)) rfl) (by decide)) (by decide)) (by decide)
      obtain ⟨N0, hN0⟩ : ∃ N0, N0 = (wA (wA (wA (wA (wA (wA (wA (wA Z 11 (((u13.1 0 12) + (1 : Int32)).toNatClampNeg) r54) 0 12 (((u13.1 0 12) + (1 : Int32)) + (1 : Int32))) 13 (((u13.1 0 15) + (1 : Int32)).toNatClampNeg) (2 : Int32)) 14 (((u13.1 0 15) + (1 : Int32)).toNatClampNeg) r14) 0 15 (((u13.1 0 15) + (1 : Int32)) + (1 : Int32))) 13 ((((u13.1 0 15) + (1 : Int32)) + (1 : Int32)).toNatClampNeg) (9 : Int32)) 14 ((((u13.1 0 15) + (1 : Int32)) + (1 : Int32)).toNatClampNeg) (0 : Int32)) 0 15 ((((u13.1 0 15) + (1 : Int32)) + (1 : Int32)) + (1 : Int32))) := ⟨_, rfl⟩
      rw [← hN0] at hn h
      have z12 : Z.1 0 12 = u13.1 0 12 + 1 := by rw [hZ]; rfl
      have mN : EMS (0 + 1) Z N0 := by
        rw [hN0]
        exact EMS.w0 (EMS.wa (EMS.wa (EMS.w0 (EMS.wa (EMS.wa (EMS.o1 (EMS.wa EMS.rf (by decide)) (by rw [← z12]; rfl)) (by decide)) (by decide)) (by decide)) (by decide)) (by decide)) (by decide)
      have JN := mN.j (mZ.j JT2)
      have Nd := oNeed (q := (59, 36)) (m := 36) hn JN (by decide) rfl (by decide)
      have n47 : N0.1 0 47 = v.1 0 47 + 2 := by
        rw [mN.2.2.1 47 (by decide), mZ.2.2.1 47 (by decide)]
        exact p2
      have i15z : ((v.1 0 15) + (1 : Int32)).toInt = (v.1 0 15).toInt + 1 := add_z rfl (by decide) (by omega) (by omega)
      have TT : ∀ {y : MS} {yv : Int32}, y = (wA (wA (wA (wA N0 0 47 (((u13.1 0 47) + (1 : Int32)) + (1 : Int32))) 29 ((u13.1 0 30).toNatClampNeg) ((v.1 0 47) + (1 : Int32))) 0 30 ((u13.1 0 30) + (1 : Int32))) 0 34 yv) → SAq K v y ([evx 2 0 0] ++ [evx 4 r14 1, evx 25 0 0]) ∧ y.1 0 32 = v.1 0 32 ∧ y.1 29 = upd (v.1 29) (v.1 0 30).toNatClampNeg (v.1 0 47 + 1) ∧ y.1 0 30 = v.1 0 30 + 1 ∧ y.1 0 47 = v.1 0 47 + 2 + 1 := by
        intro y yv ey
        refine ⟨oDecT SZ p0 (by rw [y15, q15, i15z]; omega) ?_ ?_ ?_ ?_ ?_ ⟨?_, ?_, ?_⟩ ⟨⟨?_, ?_, ?_, ?_, ?_⟩, ?_, ?_, ?_, ?_⟩, ?_, ?_, ?_, ?_⟩
        · rw [ey, y15]; show N0.1 13 = _; rw [hN0]; rfl
        · rw [ey, y15]; show N0.1 14 = _; rw [hN0]; rfl
        · rw [ey, y15]; show N0.1 0 15 = _; rw [hN0]; rfl
        · rw [ey]; show N0.1 0 39 = _; rw [hN0]; rfl
        · rw [ey]; show N0.1 0 27 = _; rw [hN0]; rfl
        · rw [ey]; show N0.1 35 = _; rw [hN0]; rfl
        · rw [ey]; show N0.1 38 = _; rw [hN0]; rfl
        · rw [ey]; show N0.1 25 = _; rw [hN0]; rfl
        · rw [ey]; show N0.1 0 52 = _; rw [hN0]; rfl
        · rw [ey]; show N0.1 0 54 = _; rw [hN0]; rfl
        · rw [ey]; show N0.1 0 55 = _; rw [hN0]; rfl
        · rw [ey]; show N0.1 0 56 = _; rw [hN0]; rfl
        · rw [ey]; show N0.1 0 58 = _; rw [hN0]; rfl
        · rw [ey]; show N0.1 62 = _; rw [hN0]; rfl
        · rw [ey]; show N0.1 63 = _; rw [hN0]; rfl
        · rw [ey]; show N0.1 64 = _; rw [hN0]; rfl
        · rw [ey]; show N0.1 66 = _; rw [hN0]; rfl
        · rw [ey]; show N0.1 0 32 = _; rw [mN.2.2.1 32 (by decide), mZ.2.2.1 32 (by decide)]; exact q32
        · rw [ey]
          show upd (N0.1 29) (u13.1 0 30).toNatClampNeg (v.1 0 47 + 1) = _
          rw [mN.2.1 29 (by decide), mZ.2.1 29 (by decide), q30]
          show upd (u13.1 29) _ _ = _
          rw [q29]
        · rw [ey]
          show u13.1 0 30 + 1 = _
          rw [q30]
        · rw [ey]
          show u13.1 0 47 + 1 + 1 = _
          rw [p2]
      have gt : gTok e 36 (v.1 0 47 + 2) = some (v.1 0 47 + 2 + 1) := by
        have := Nd.2
        rw [n47] at this
        exact if_pos this
      have G : ∀ {y : MS} {yv : Int32}, u = y → y = (wA (wA (wA (wA N0 0 47 (((u13.1 0 47) + (1 : Int32)) + (1 : Int32))) 29 ((u13.1 0 30).toNatClampNeg) ((v.1 0 47) + (1 : Int32))) 0 30 ((u13.1 0 30) + (1 : Int32))) 0 34 yv) → ∃ a, ((gTok e 36 (v.1 0 47 + 2)).bind fun j => some ([evx 2 0 0] ++ [evx 4 (gsl (knM K v) (v.1 0 32)) 1, evx 25 0 0], knM K v ++ [e.2.1 (v.1 0 47 + 1)], j)) = some (a, knM K u, u.1 0 47) ∧ SOq n K e v u a := by
        intro y yv eu ey
        have t := TT ey
        have F := fin eu t.1 t.2.1 t.2.2.1 t.2.2.2.1
        exact ⟨_, by rw [gt, Option.bind_some, F.2, eu, t.2.2.2.2], F.1⟩
      rcases h with ⟨-, -, eu⟩ | ⟨-, -, eu⟩
      · exact G eu rfl
      · exact G eu rfl
    · cases f9
    · cases f9
    · cases f9
    · have k42 := e42.mp (i22.mp c22)
      rw [if_pos k42]
      obtain ⟨W3, hW3⟩ : ∃ W3, W3 = (wA (wA u13 0 47 ((u13.1 0 47) + (1 : Int32))) 0 47 (((u13.1 0 47) + (1 : Int32)) + (1 : Int32))) := ⟨_, rfl⟩
      rw [← hW3] at ht3 h124 k124
      have JW := (rTake (g := g00) ht3 JT2 (by show 2 ≤ (e.1 (u13.1 0 47 + 1)).toInt; rw [p2, k42]; decide)).jj
      have w47 : W3.1 0 47 = v.1 0 47 + 3 := by
        rw [hW3]
        show u13.1 0 47 + 1 + 1 = _
        rw [p2, Int32.add_assoc]
        rfl
      have w15 : W3.1 0 15 = v.1 0 15 := by rw [hW3]; exact q15
      have w30 : W3.1 0 30 = v.1 0 30 := by rw [hW3]; exact q30
      have w29 : W3.1 29 = v.1 29 := by rw [hW3]; exact q29
      have w32 : W3.1 0 32 = v.1 0 32 := by rw [hW3]; exact q32
      obtain ⟨a, x1, x2⟩ := hX e W3 u124 h124 k124 JW (by rw [w15]; exact p0)
      rw [knM_of w29 w30, w32, w47] at x1
      have SW3 : SAq K u13 W3 [] := by rw [hW3]; exact SAq.oa (OA.sm rfl rfl rfl rfl rfl rfl rfl rfl) rfl rfl rfl rfl rfl rfl rfl rfl rfl
      have SZ : SAq K v u124 a := (S13.tn SW3 p0).tn (SAq.fg x2.2.1 k124.1) p0
      have l15 := k124.2.2.2.2.1
      have l47 := k124.2.1
      rw [w15, w47] at l15
      have i3 : (v.1 0 47 + 3).toInt = (v.1 0 47).toInt + 3 := add_z rfl (by decide) (by omega) (by omega)
      rw [i3] at l15
      obtain ⟨N0, hN0⟩ : ∃ N0, N0 = (wA (wA (wA (wA (wA (wA (wA (wA u124 11 ((u124.1 0 12).toNatClampNeg) r143) 0 12 ((u124.1 0 12) + (1 : Int32))) 13 ((u124.1 0 15).toNatClampNeg) (2 : Int32)) 14 ((u124.1 0 15).toNatClampNeg) r14) 0 15 ((u124.1 0 15) + (1 : Int32))) 13 (((u124.1 0 15) + (1 : Int32)).toNatClampNeg) (9 : Int32)) 14 (((u124.1 0 15) + (1 : Int32)).toNatClampNeg) (0 : Int32)) 0 15 (((u124.1 0 15) + (1 : Int32)) + (1 : Int32))) := ⟨_, rfl⟩
      rw [← hN0] at hn h
      have mN : EMS (0 + 1) u124 N0 := by
        rw [hN0]
        exact EMS.w0 (EMS.wa (EMS.wa (EMS.w0 (EMS.wa (EMS.wa (EMS.o1 (EMS.wa EMS.rf (by decide)) rfl) (by decide)) (by decide)) (by decide)) (by decide)) (by decide)) (by decide)
      have Nd := oNeed (q := (59, 36)) (m := 36) hn (mN.j x2.1) (by decide) rfl (by decide)
      have n47 : N0.1 0 47 = u124.1 0 47 := mN.2.2.1 47 (by decide)
      have v30 : u124.1 0 30 = v.1 0 30 := x2.2.2.2.1.trans w30
      have v29 : u124.1 29 = v.1 29 := x2.2.2.1.trans w29
      have TT : ∀ {y : MS} {yv : Int32}, y = (wA (wA (wA (wA N0 0 47 ((u124.1 0 47) + (1 : Int32))) 29 ((u124.1 0 30).toNatClampNeg) ((v.1 0 47) + (1 : Int32))) 0 30 ((u124.1 0 30) + (1 : Int32))) 0 34 yv) → SAq K v y (a ++ [evx 4 r14 1, evx 25 0 0]) ∧ y.1 0 32 = v.1 0 32 ∧ y.1 29 = upd (v.1 29) (v.1 0 30).toNatClampNeg (v.1 0 47 + 1) ∧ y.1 0 30 = v.1 0 30 + 1 ∧ y.1 0 47 = u124.1 0 47 + 1 := by
        intro y yv ey
        refine ⟨oDecT SZ p0 (by omega) ?_ ?_ ?_ ?_ ?_ ⟨?_, ?_, ?_⟩ ⟨⟨?_, ?_, ?_, ?_, ?_⟩, ?_, ?_, ?_, ?_⟩, ?_, ?_, ?_, ?_⟩
        · rw [ey]; show N0.1 13 = _; rw [hN0]; rfl
        · rw [ey]; show N0.1 14 = _; rw [hN0]; rfl
        · rw [ey]; show N0.1 0 15 = _; rw [hN0]; rfl
        · rw [ey]; show N0.1 0 39 = _; rw [hN0]; rfl
        · rw [ey]; show N0.1 0 27 = _; rw [hN0]; rfl
        · rw [ey]; show N0.1 35 = _; rw [hN0]; rfl
        · rw [ey]; show N0.1 38 = _; rw [hN0]; rfl
        · rw [ey]; show N0.1 25 = _; rw [hN0]; rfl
        · rw [ey]; show N0.1 0 52 = _; rw [hN0]; rfl
        · rw [ey]; show N0.1 0 54 = _; rw [hN0]; rfl
        · rw [ey]; show N0.1 0 55 = _; rw [hN0]; rfl
        · rw [ey]; show N0.1 0 56 = _; rw [hN0]; rfl
        · rw [ey]; show N0.1 0 58 = _; rw [hN0]; rfl
        · rw [ey]; show N0.1 62 = _; rw [hN0]; rfl
        · rw [ey]; show N0.1 63 = _; rw [hN0]; rfl
        · rw [ey]; show N0.1 64 = _; rw [hN0]; rfl
        · rw [ey]; show N0.1 66 = _; rw [hN0]; rfl
        · rw [ey]; show N0.1 0 32 = _; rw [mN.2.2.1 32 (by decide), x2.2.2.2.2]; exact w32
        · rw [ey]
          show upd (N0.1 29) (u124.1 0 30).toNatClampNeg (v.1 0 47 + 1) = _
          rw [mN.2.1 29 (by decide), v30, v29]
        · rw [ey]
          show u124.1 0 30 + 1 = _
          rw [v30]
        · rw [ey]; rfl
      have gt : gTok e 36 (u124.1 0 47) = some (u124.1 0 47 + 1) := by
        have := Nd.2
        rw [n47] at this
        exact if_pos this
      have G : ∀ {y : MS} {yv : Int32}, u = y → y = (wA (wA (wA (wA N0 0 47 ((u124.1 0 47) + (1 : Int32))) 29 ((u124.1 0 30).toNatClampNeg) ((v.1 0 47) + (1 : Int32))) 0 30 ((u124.1 0 30) + (1 : Int32))) 0 34 yv) → ∃ a9, (((E true e (knM K v) (v.1 0 32) (v.1 0 47 + 3))).bind fun q => (gTok e 36 q.2).bind fun j => some (q.1 ++ [evx 4 (gsl (knM K v) (v.1 0 32)) 1, evx 25 0 0], knM K v ++ [e.2.1 (v.1 0 47 + 1)], j)) = some (a9, knM K u, u.1 0 47) ∧ SOq n K e v u a9 := by
        intro y yv eu ey
        have t := TT ey
        have F := fin eu t.1 t.2.1 t.2.2.1 t.2.2.2.1
        refine ⟨_, ?_, F.1⟩
        rw [x1, Option.bind_some]
        show (gTok e 36 (u124.1 0 47)).bind _ = _
        rw [gt, Option.bind_some, F.2, eu, t.2.2.2.2]
      rcases h with ⟨-, -, eu⟩ | ⟨-, -, eu⟩
      · exact G eu rfl
      · exact G eu rfl
  · cases f9
  · cases f9
end WOS
