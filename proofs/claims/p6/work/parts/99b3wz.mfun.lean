/-! the reference's orders: a function -/
section WZF
variable {n : Int} {K : TK} {e : PE} {v u w x y u2 : MS} {a b d a0 cc : List EV} {q : EV} {r pa pb pd o zv zn i kI : Int32} {c : RM1} {E : EvE} {S : EvS} {Es : FE} {Ss : FS} {k : Nat} {bz : Bool}
theorem OA.rt3 {R : D3} (h : OA K v u b) : OA K v u (rsr R b) := ⟨by rw [loL_rsr]; exact h.1, h.2.1, h.2.2.1, MOq.rt3 b R h.2.2.2⟩
theorem SAq.oa0 (h : SAq K v u b) (h52 : (v.1 0 52).toInt = 0) : OA K v u b := ⟨h.1.1, h.1.2.1, h.1.2.2.1, MSq.om (decide_eq_false (fun q => q h52)) b h.1.2.2.2⟩
set_option maxHeartbeats 3200000 in
theorem oFunM (hS : XMs9 n K (QMS 40) S) (h : Q_m_function0 v pa false u) (J : JG bz n K e v) (hi : i + 1 = v.1 0 47) : ∃ kn b, gFunc S e i = some (kn, b, u.1 0 47) ∧ OA K v u (fnE kI b) ∧ u.1 20 = upd (v.1 20) (v.1 0 22).toNatClampNeg (v.1 0 15) ∧ ((v.1 0 15).toInt ≤ 90000) := by
  obtain ⟨z1, z2, z3, z15, z5, z6, z7, z8, z9, z10, u2, hu2, h⟩ := h
  have hu2 : u2 = beG v pa := hu2
  have p0 := z15.1
  have JB : JM n K e (wA (wA u2 0 52 0) 0 59 (-1)) := by rw [hu2]; exact J.beg
  have h31 : (u2.1 0 31).toInt = 0 := by
    rw [hu2]
    show (0 : Int32).toInt = 0
    decide
  rcases h with ⟨u9, h1, f9, -⟩ | ⟨h1, k1, ⟨w203, hj, fr, h47, h30, h⟩ | ⟨r212, h2, -, c2, mo9, w74, hr, fr, h47, h30, c9, r225, -, -, h⟩⟩
  · cases f9
  rotate_left
  · exfalso
    rcases h with ⟨-, ⟨u9, -, f9, -⟩ | ⟨-, -, ⟨-, r236, -, -, ⟨-, ⟨-, r245, u244, -, -, ⟨u9, -, f9, -⟩ | ⟨-, -, r255, -, -, -, u9, -, f9, -⟩⟩ | ⟨-, r245, u244, -, -, ⟨u9, -, f9, -⟩ | ⟨-, -, r255, -, -, -, u9, -, f9, -⟩⟩⟩ | ⟨-, f9, -⟩⟩ | ⟨-, u292, -, -, f9, -⟩⟩⟩ | ⟨-, u296, -, -, f9, -⟩ <;> cases f9
  have O1 := oOpen (q := (40, 30)) (m := 30) h1 JB (by decide) rfl (by decide)
  obtain ⟨D, hD⟩ : ∃ D, D = (wA (wA (wA (wA u2 0 52 0) 0 59 (-1)) 0 47 ((u2.1 0 47) + (1 : Int32))) 0 48 ((u2.1 0 48) + (1 : Int32))) := ⟨_, rfl⟩
  rw [← hD] at O1 fr
  have P := oParJ hD hj h31 (by rw [hu2]; rfl) O1.1
  have u47 : u2.1 0 47 = v.1 0 47 := by rw [hu2]; rfl
  have k1' : (v.1 0 47).toInt < 1500 := by
    have := k1.1
    rw [← u47]
    exact this
  have j47 : (v.1 0 47 + 1).toInt = (v.1 0 47).toInt + 1 := add_z rfl (by decide) (by omega) (by omega)
  rw [u47, j47] at h47
  have d47 : D.1 0 47 = v.1 0 47 + 1 := by rw [hD, hu2]; rfl
  rw [d47] at P
  rcases h with ⟨u9, h2, f9, -⟩ | ⟨h2, k2, ka, w252, r1, f1, z1', c1, kb, w274, r2, f2, z2', c2, h⟩
  · cases f9
  have Q2 := oClose (q := (41, 31)) (m := 31) h2 P.2 (by decide) rfl (by decide)
  obtain ⟨C, hC⟩ : ∃ C, C = (wA (wA w203 0 47 ((w203.1 0 47) + (1 : Int32))) 0 48 ((w203.1 0 48) - (1 : Int32))) := ⟨_, rfl⟩
  have C30 : C.1 0 30 = w203.1 0 30 := by rw [hC]; rfl
  have C29 : C.1 29 = w203.1 29 := by rw [hC]; rfl
  have C47 : C.1 0 47 = w203.1 0 47 + 1 := by rw [hC]; rfl
  have C52 : C.1 0 52 = 0 := by
    rw [hC]
    show w203.1 0 52 = 0
    rw [fr.2.1 52 (by decide), hD]
    rfl
  have C0 : ∀ i ∈ [12, 15, 27, 39], C.1 0 i = v.1 0 i := fun i hi => by
    have m1 : i ∉ [30, 33, 47, 49] := by revert i; decide
    have q1 : C.1 0 i = w203.1 0 i := by
      rw [hC]
      simp only [List.mem_cons, List.not_mem_nil, or_false] at hi
      rcases hi with rfl | rfl | rfl | rfl <;> rfl
    rw [q1, fr.2.1 i m1, hD, hu2]
    simp only [List.mem_cons, List.not_mem_nil, or_false] at hi
    rcases hi with rfl | rfl | rfl | rfl <;> rfl
  have C32 : C.1 0 32 = 0 := by
    rw [hC]
    show w203.1 0 32 = 0
    rw [fr.2.1 32 (by decide), hD, hu2]
    rfl
  have CA : ∀ a ∈ [13, 14, 17, 20, 25, 35, 38], C.1 a = v.1 a := fun a ha => by
    have m1 : a ∉ [0, 29] := by revert a; decide
    have q1 : C.1 a = w203.1 a := by
      rw [hC]
      simp only [List.mem_cons, List.not_mem_nil, or_false] at ha
      rcases ha with rfl | rfl | rfl | rfl | rfl | rfl | rfl <;> rfl
    rw [q1, fr.2.2 a m1, hD, hu2]
    simp only [List.mem_cons, List.not_mem_nil, or_false] at ha
    rcases ha with rfl | rfl | rfl | rfl | rfl | rfl | rfl <;> rfl
  have w15 : w203.1 0 15 = v.1 0 15 := by rw [← C0 15 (by decide), hC]; rfl
  have ka9 : ka.toInt = 9 := by omega
  obtain ⟨Z, hZ⟩ : ∃ Z, Z = (wA (wA (wA (wA C 17 ((v.1 0 22).toNatClampNeg) (w203.1 0 30)) 0 34 (w203.1 0 30)) 19 ((v.1 0 22).toNatClampNeg) (w203.1 0 12)) 20 ((v.1 0 22).toNatClampNeg) (w203.1 0 15)) := ⟨_, rfl⟩
  rw [← hC] at Q2
  rw [← hC, ← hZ] at r1 f1
  have E0 : EMS 0 C Z := by rw [hZ]; exact EMS.wa (EMS.wa (EMS.w0 (EMS.wa EMS.rf (by decide)) (by decide)) (by decide)) (by decide)
  have E1 := E0.tr (fL1 r1 ka9)
  have w17f : w252.1 17 (v.1 0 22).toNatClampNeg = w203.1 0 30 := by
    rw [f1.2.2 17 (by decide), hZ]
    show upd (C.1 17) _ _ _ = _
    exact updS
  have E2 := E1.tr (fL2 r2 (by rw [w17f]; omega) c2)
  have J3 := E2.j Q2.1
  have X0 : ∀ i ∈ [15, 27, 29, 30, 32, 39, 47, 52], w274.1 0 i = C.1 0 i := fun i hi => by
    have m1 : i ∉ [12] := by revert i; decide
    rw [f2.2.1 i m1, f1.2.1 i m1, hZ]
    simp only [List.mem_cons, List.not_mem_nil, or_false] at hi
    rcases hi with rfl | rfl | rfl | rfl | rfl | rfl | rfl | rfl <;> rfl
  have XA : ∀ a ∈ [13, 14, 25, 29, 35, 38], w274.1 a = C.1 a := fun a ha => by
    have m1 : a ∉ [0, 11] := by revert a; decide
    rw [f2.2.2 a m1, f1.2.2 a m1, hZ]
    simp only [List.mem_cons, List.not_mem_nil, or_false] at ha
    rcases ha with rfl | rfl | rfl | rfl | rfl | rfl <;> rfl
  have x20 : w274.1 20 = upd (v.1 20) (v.1 0 22).toNatClampNeg (v.1 0 15) := by
    rw [f2.2.2 20 (by decide), f1.2.2 20 (by decide), hZ]
    show upd (C.1 20) _ (w203.1 0 15) = _
    rw [CA 20 (by decide), w15]
  have A1 : OA K v w274 [] := OA.sm (by rw [XA 13 (by decide), CA 13 (by decide)]) (by rw [XA 14 (by decide), CA 14 (by decide)]) (by rw [XA 25 (by decide), CA 25 (by decide)]) (by rw [XA 35 (by decide), CA 35 (by decide)]) (by rw [XA 38 (by decide), CA 38 (by decide)]) (by rw [X0 15 (by decide), C0 15 (by decide)]) (by rw [X0 39 (by decide), C0 39 (by decide)]) (by rw [X0 27 (by decide), C0 27 (by decide)])
  rcases h with ⟨u9, h3, f9, -⟩ | ⟨u60, h3, k3, r67, -, u74, -, k4, r78, -, r86, -, r93, -, r100, -, r133, -, r137, -, r141, -, r147, -, r152, -, r156, -, -, hu⟩
  · cases f9
  obtain ⟨b, kn', j, y1, y2, y3, y4⟩ := oBody0 hS h3 J3
  have kn : knM K w274 = knM K w203 := knM_of (by rw [XA 29 (by decide), C29]) (by rw [X0 30 (by decide), C30])
  have x47 : w274.1 0 47 = w203.1 0 47 + 1 := by rw [X0 47 (by decide), C47]
  have x32 : w274.1 0 32 = 0 := by rw [X0 32 (by decide), C32]
  rw [x47] at y1 y2
  rw [kn, x32] at y2
  have B1 : OA K w274 u60 b := y4.oa0 (by rw [X0 52 (by decide), C52]; decide)
  have V1 : OA K v u60 b := A1.tn B1 p0
  have E3 : EMS 1 u60 u74 := (EMS.o1 (EMS.wa EMS.rf (by decide)) rfl).tr (EMS.fg k4 (by decide) (by decide))
  have V2 : OA K u60 u74 [] := (OA.em : OA K u60 (wA (wA u60 11 ((u60.1 0 12).toNatClampNeg) r67) 0 12 ((u60.1 0 12) + (1 : Int32))) []).nt (OA.fg k4) (by have := V1.1; omega)
  obtain ⟨M, hM⟩ : ∃ M, M = (wA (wA (wA (wA (wA (wA (wA (wA u74 11 ((u74.1 0 12).toNatClampNeg) r78) 0 12 ((u74.1 0 12) + (1 : Int32))) 11 (((u74.1 0 12) + (1 : Int32)).toNatClampNeg) r86) 0 12 (((u74.1 0 12) + (1 : Int32)) + (1 : Int32))) 11 ((((u74.1 0 12) + (1 : Int32)) + (1 : Int32)).toNatClampNeg) r93) 0 12 ((((u74.1 0 12) + (1 : Int32)) + (1 : Int32)) + (1 : Int32))) 11 (((((u74.1 0 12) + (1 : Int32)) + (1 : Int32)) + (1 : Int32)).toNatClampNeg) r100) 0 12 (((((u74.1 0 12) + (1 : Int32)) + (1 : Int32)) + (1 : Int32)) + (1 : Int32))) := ⟨_, rfl⟩
  have VM : OA K u74 M [] := by rw [hM]; exact OA.sm rfl rfl rfl rfl rfl rfl rfl rfl
  have m15 : M.1 0 15 = u74.1 0 15 := by rw [hM]; rfl
  rw [← hM] at hu
  have E4 : EMS 4 u74 u := by
    rw [hu, hM]
    refine EMS.wa (EMS.wa (EMS.wa (EMS.wa (EMS.wa (EMS.wa (EMS.wa (EMS.wa (EMS.wa ?_ (by decide)) (by decide)) (by decide)) (by decide)) (by decide)) (by decide)) (by decide)) (by decide)) (by decide)
    refine EMS.w0 (EMS.wa (EMS.wa (EMS.w0 (EMS.wa (EMS.wa ?_ (by decide)) (by decide)) (by decide)) (by decide)) (by decide)) (by decide)
    exact EMS.o1 (EMS.wa (EMS.o1 (EMS.wa (EMS.o1 (EMS.wa (EMS.o1 (EMS.wa EMS.rf (by decide)) rfl) (by decide)) rfl) (by decide)) rfl) (by decide)) rfl
  have l3 := k3.2.1
  have m3 := k3.2.2.2.1
  have c15 := C0 15 (by decide)
  have x15 : w274.1 0 15 = v.1 0 15 := by rw [X0 15 (by decide), c15]
  have u15 : (u74.1 0 15).toInt = (u60.1 0 15).toInt := by rw [k4.2.1 15 (fun q => nomatch q)]; rfl
  have v15 := V1.1
  have k47 := k2.1
  have b15 : (v.1 0 15).toInt ≤ 15000 := by omega
  have c47 : (w203.1 0 47 + 1).toInt = (w203.1 0 47).toInt + 1 := add_z rfl (by decide) (by omega) (by omega)
  rw [x15, x47, c47] at m3
  have B9 : (u60.1 0 15).toInt ≤ 80000 := by omega
  obtain ⟨M1, hM1⟩ : ∃ M1, M1 = (wA (wA (wA M 13 ((u74.1 0 15).toNatClampNeg) (0 : Int32)) 14 ((u74.1 0 15).toNatClampNeg) (0 : Int32)) 0 15 ((u74.1 0 15) + (1 : Int32))) := ⟨_, rfl⟩
  rw [← hM1] at hu
  have V3 : OA K M M1 [evx 2 0 0] := by
    rw [hM1, ← m15]
    exact OA.say (o := 0) (z := 0) rfl rfl rfl ⟨by rw [m15]; omega, by rw [m15]; omega⟩ rfl rfl ⟨rfl, rfl, rfl⟩ loE1 rfl (show upd (M.1 14) _ 0 _ = 0 from updS)
  have n15 : M1.1 0 15 = u74.1 0 15 + 1 := by rw [hM1]; rfl
  have i15 : (M1.1 0 15).toInt = (u74.1 0 15).toInt + 1 := by rw [n15]; exact add_z rfl (by decide) (by omega) (by omega)
  obtain ⟨M2, hM2⟩ : ∃ M2, M2 = (wA (wA (wA M1 13 (((u74.1 0 15) + (1 : Int32)).toNatClampNeg) (15 : Int32)) 14 (((u74.1 0 15) + (1 : Int32)).toNatClampNeg) (0 : Int32)) 0 15 (((u74.1 0 15) + (1 : Int32)) + (1 : Int32))) := ⟨_, rfl⟩
  rw [← hM2] at hu
  have V4 : OA K M1 M2 [evx 1 0 0] := by
    rw [hM2, ← n15]
    exact OA.say (o := 15) (z := 0) rfl rfl rfl ⟨by omega, by omega⟩ rfl rfl ⟨rfl, rfl, rfl⟩ loE1 rfl (show upd (M1.1 14) _ 0 _ = 0 from updS)
  have V5 : OA K M2 u [] := by rw [hu]; exact OA.sm rfl rfl rfl rfl rfl rfl rfl rfl
  have q1 : OA K v M b := (V1.nt V2 p0).nt VM p0
  have q2 : OA K v M (rsr (d3p (b ++ [evx 2 0 0])) b) := q1.rt3
  have q3 : OA K v u (rsr (d3p (b ++ [evx 2 0 0])) b ++ [evx 2 0 0] ++ [evx 1 0 0]) := ((q2.tr V3 p0).tr V4 p0).nt V5 p0
  refine ⟨knM K w203, b, ?_, ?_, ?_, by omega⟩
  · unfold gFunc gParams
    rw [hi, P.1, Option.bind_some]
    have t31 : gTok e 31 (w203.1 0 47) = some (w203.1 0 47 + 1) := gTok_of Q2.2
    show ((gTok e 31 (w203.1 0 47)).bind _).bind _ = _
    rw [t31, Option.bind_some, Option.bind_some]
    show (gTok e 32 (w203.1 0 47 + 1)).bind _ = _
    rw [y1, Option.bind_some, y2, Option.bind_some]
    show (gTok e 33 j).bind _ = _
    have e47 : u.1 0 47 = u60.1 0 47 := by rw [E4.2.2.1 47 (by decide), E3.2.2.1 47 (by decide)]
    rw [y3, Option.bind_some, e47]
  · exact (OA.no rfl p0).tr q3 p0
  · have q1 : u.1 20 = u74.1 20 := by rw [hu, hM2, hM1, hM]; rfl
    rw [q1, k4.2.2 20 (by decide)]
    show u60.1 20 = _
    rw [k3.1.2.2 20 (by decide), x20]
end WZF
