/-! the reference's words: a function, from its text -/
section ZZO
variable {n : Int} {K : TK} {e : PE} {v u w x y u2 : MS} {a b d a0 cc : List EV} {q : EV} {r pa pb pd o zv zn i kI : Int32} {c : RM1} {E : EvE} {S : EvS} {Es : FE} {Ss : FS} {k : Nat} {bz : Bool}
set_option maxHeartbeats 3200000 in
theorem oFunW (hS : XWs n K (QMS 40) S) (h : Q_m_function0 v pa false u) (J : JG bz n K e v) (hi : i + 1 = v.1 0 47) : ∃ kn b fr, gFunc S e i = some (kn, b, u.1 0 47) ∧ (BDw v (9 + 2 * kn.length + lwL (fnT b)) → FUq K v u fr kn.length b) ∧ (u.1 19 = upd (v.1 19) (v.1 0 22).toNatClampNeg (v.1 0 12) ∧ u.1 18 = upd (v.1 18) (v.1 0 22).toNatClampNeg fr ∧ u.1 17 = upd (v.1 17) (v.1 0 22).toNatClampNeg (nI kn.length)) ∧ kn.length ≤ 8 := by
  obtain ⟨z1, z2, z3, z15, z5, z6, z7, z8, z9, z10, u2, hu2, h⟩ := h
  have hu2 : u2 = beG v pa := hu2
  have JB : JM n K e (wA (wA u2 0 52 0) 0 59 (-1)) := by rw [hu2]; exact J.beg
  have h31 : (u2.1 0 31).toInt = 0 := by
    rw [hu2]
    show (0 : Int32).toInt = 0
    decide
  rcases h with ⟨u9, h1, f9, -⟩ | ⟨h1, k1, ⟨w203, hj, fr, h47, h30, h⟩ | ⟨r212, h2, -, c2, mo9, w74, hr, fr, h47, h30, c9, r225, -, -, h⟩⟩
  · cases f9
  rotate_left
  · exfalso
    rcases h with ⟨-, ⟨u9, -, f9, -⟩ | ⟨-, -, ⟨-, r236, -, -, ⟨-, ⟨-, r245, u244, -, -, ⟨u9, -, f9, -⟩ | ⟨-, -, r255, -, -, -, u9, -, f9, -⟩⟩ | ⟨-, r245, u244, -, -, ⟨u9, -, f9, -⟩ | ⟨-, -, r255, -, -, -, u9, -, f9, -⟩⟩⟩ | ⟨-, f9, -⟩⟩ | ⟨-, u292, -, -, f9, -⟩⟩⟩ | ⟨-, u296, -, -, f9, -⟩ <;> cases f9
  have O1 := oOpen (q := (40, 30)) (m := 30) h1 JB (by decide) rfl (by decide)
  obtain ⟨D, hD⟩ : ∃ D, D = (wA (wA (wA (wA u2 0 52 0) 0 59 (-1)) 0 47 ((u2.1 0 47) + (1 : Int32))) 0 48 ((u2.1 0 48) + (1 : Int32))) := ⟨_, rfl⟩
  rw [← hD] at O1 fr
  have P := oParJ hD hj h31 (by rw [hu2]; rfl) O1.1
  have u47 : u2.1 0 47 = v.1 0 47 := by rw [hu2]; rfl
  have k1' : (v.1 0 47).toInt < 1500 := by
    have := k1.1
    rw [← u47]
    exact this
  have j47 : (v.1 0 47 + 1).toInt = (v.1 0 47).toInt + 1 := add_z rfl (by decide) (by omega) (by omega)
  rw [u47, j47] at h47
  have d47 : D.1 0 47 = v.1 0 47 + 1 := by rw [hD, hu2]; rfl
  rw [d47] at P
  rcases h with ⟨u9, h2, f9, -⟩ | ⟨h2, k2, ka, w252, r1, f1, z1', c1, kb, w274, r2, f2, z2', c2, h⟩
  · cases f9
  have Q2 := oClose (q := (41, 31)) (m := 31) h2 P.2 (by decide) rfl (by decide)
  obtain ⟨C, hC⟩ : ∃ C, C = (wA (wA w203 0 47 ((w203.1 0 47) + (1 : Int32))) 0 48 ((w203.1 0 48) - (1 : Int32))) := ⟨_, rfl⟩
  have C30 : C.1 0 30 = w203.1 0 30 := by rw [hC]; rfl
  have C29 : C.1 29 = w203.1 29 := by rw [hC]; rfl
  have C47 : C.1 0 47 = w203.1 0 47 + 1 := by rw [hC]; rfl
  have C52 : C.1 0 52 = 0 := by
    rw [hC]
    show w203.1 0 52 = 0
    rw [fr.2.1 52 (by decide), hD]
    rfl
  have C59 : C.1 0 59 = -1 := by
    rw [hC]
    show w203.1 0 59 = -1
    rw [fr.2.1 59 (by decide), hD]
    rfl
  have C0 : ∀ i ∈ [12, 43, 39], C.1 0 i = v.1 0 i := fun i hi => by
    have m1 : i ∉ [30, 33, 47, 49] := by revert i; decide
    have q1 : C.1 0 i = w203.1 0 i := by
      rw [hC]
      simp only [List.mem_cons, List.not_mem_nil, or_false] at hi
      rcases hi with rfl | rfl | rfl <;> rfl
    rw [q1, fr.2.1 i m1, hD, hu2]
    simp only [List.mem_cons, List.not_mem_nil, or_false] at hi
    rcases hi with rfl | rfl | rfl <;> rfl
  have C32 : C.1 0 32 = 0 := by
    rw [hC]
    show w203.1 0 32 = 0
    rw [fr.2.1 32 (by decide), hD, hu2]
    rfl
  have CA : ∀ a ∈ [11, 17, 18, 19, 24, 35, 37, 40, 41, 42], C.1 a = v.1 a := fun a ha => by
    have m1 : a ∉ [0, 29] := by revert a; decide
    have q1 : C.1 a = w203.1 a := by
      rw [hC]
      simp only [List.mem_cons, List.not_mem_nil, or_false] at ha
      rcases ha with rfl | rfl | rfl | rfl | rfl | rfl | rfl | rfl | rfl | rfl <;> rfl
    rw [q1, fr.2.2 a m1, hD, hu2]
    simp only [List.mem_cons, List.not_mem_nil, or_false] at ha
    rcases ha with rfl | rfl | rfl | rfl | rfl | rfl | rfl | rfl | rfl | rfl <;> rfl
  have w12 : w203.1 0 12 = v.1 0 12 := by rw [← C0 12 (by decide), hC]; rfl
  rw [w12] at r1 f1 z1'
  have ka9 : ka.toInt = 9 := by omega
  obtain ⟨Z, hZ⟩ : ∃ Z, Z = (wA (wA (wA (wA C 17 ((v.1 0 22).toNatClampNeg) (w203.1 0 30)) 0 34 (w203.1 0 30)) 19 ((v.1 0 22).toNatClampNeg) (v.1 0 12)) 20 ((v.1 0 22).toNatClampNeg) (w203.1 0 15)) := ⟨_, rfl⟩
  rw [← hC] at Q2
  rw [← hC, ← hZ] at r1 f1
  have E0 : EMS 0 C Z := by rw [hZ]; exact EMS.wa (EMS.wa (EMS.w0 (EMS.wa EMS.rf (by decide)) (by decide)) (by decide)) (by decide)
  have E1 := E0.tr (fL1 r1 ka9)
  have w17f : w252.1 17 (v.1 0 22).toNatClampNeg = w203.1 0 30 := by
    rw [f1.2.2 17 (by decide), hZ]
    show upd (C.1 17) _ _ _ = _
    exact updS
  have E2 := E1.tr (fL2 r2 (by rw [w17f]; omega) c2)
  have J3 := E2.j Q2.1
  have X0 : ∀ i ∈ [30, 32, 47, 52, 59], w274.1 0 i = C.1 0 i := fun i hi => by
    have m1 : i ∉ [12] := by revert i; decide
    rw [f2.2.1 i m1, f1.2.1 i m1, hZ]
    simp only [List.mem_cons, List.not_mem_nil, or_false] at hi
    rcases hi with rfl | rfl | rfl | rfl | rfl <;> rfl
  have x29 : w274.1 29 = C.1 29 := by
    rw [f2.2.2 29 (by decide), f1.2.2 29 (by decide), hZ]
    rfl
  have x17 : w274.1 17 = upd (v.1 17) (v.1 0 22).toNatClampNeg (w203.1 0 30) := by
    rw [f2.2.2 17 (by decide), f1.2.2 17 (by decide), hZ]
    show upd (C.1 17) _ (w203.1 0 30) = _
    rw [CA 17 (by decide)]
  have x18 : w274.1 18 = v.1 18 := by
    rw [f2.2.2 18 (by decide), f1.2.2 18 (by decide), hZ]
    exact CA 18 (by decide)
  have x19 : w274.1 19 = upd (v.1 19) (v.1 0 22).toNatClampNeg (v.1 0 12) := by
    rw [f2.2.2 19 (by decide), f1.2.2 19 (by decide), hZ]
    show upd (C.1 19) _ (v.1 0 12) = _
    rw [CA 19 (by decide)]
  have Z11 : Z.1 11 = v.1 11 := by rw [hZ]; exact CA 11 (by decide)
  have Z12 : Z.1 0 12 = v.1 0 12 := by rw [hZ]; exact C0 12 (by decide)
  have ZS : SMw v Z := by rw [hZ]; exact ⟨⟨CA 24 (by decide), CA 35 (by decide), CA 37 (by decide), CA 40 (by decide), CA 41 (by decide), CA 42 (by decide)⟩, C0 39 (by decide), C0 43 (by decide)⟩
  have G1 := fW1 r1 ka9
  have G2 := fW2 r2 (by rw [w17f]; omega) c2
  rw [w17f] at G2
  rcases h with ⟨u9, h3, f9, -⟩ | ⟨u60, h3, k3, r67, h67, u74, h74, k4, r78, h78, r86, h86, r93, h93, r100, h100, r133, h133, r137, h137, r141, h141, r147, h147, r152, h152, r156, h156, -, hu⟩
  · cases f9
  obtain ⟨b, kn', j, y1, y2, y3, y4⟩ := oBody0W hS h3 J3
  have kn : knM K w274 = knM K w203 := knM_of (by rw [x29, C29]) (by rw [X0 30 (by decide), C30])
  have x47 : w274.1 0 47 = w203.1 0 47 + 1 := by rw [X0 47 (by decide), C47]
  have x32 : w274.1 0 32 = 0 := by rw [X0 32 (by decide), C32]
  rw [x47] at y1 y2
  rw [kn, x32] at y2
  obtain rfl := eAddi h67
  obtain rfl := eLw h78
  obtain rfl := eAddi h86
  obtain rfl := eLw h93
  obtain rfl := eI h100 (f := 103) (by decide)
  obtain rfl := eAddi h133
  obtain rfl := eB h137 (f := 20579) (by decide)
  obtain rfl := eAddi h141
  obtain rfl := eSw h147
  obtain rfl := eSw h152
  obtain rfl := eAddi h156
  rw [w12] at hu
  obtain ⟨N, hN⟩ : ∃ N, N = wA (wA u60 11 ((u60.1 0 12).toNatClampNeg) (iW 19 10 0 0)) 0 12 ((u60.1 0 12) + (1 : Int32)) := ⟨_, rfl⟩
  rw [← hN] at h74 k4
  obtain ⟨fq, hfq⟩ : ∃ fq, fq = ((8 : Int32) + ((4 : Int32) * (u74.1 0 33))) := ⟨_, rfl⟩
  rw [← hfq] at hu
  have E3 : EMS 1 u60 u74 := (by rw [hN]; exact EMS.o1 (EMS.wa EMS.rf (by decide)) rfl : EMS 1 u60 N).tr (EMS.fg k4 (by decide) (by decide))
  obtain ⟨M, hM⟩ : ∃ M, M = (wA (wA (wA (wA (wA (wA (wA (wA u74 11 ((u74.1 0 12).toNatClampNeg) (iW 8195 1 8 (-4))) 0 12 ((u74.1 0 12) + (1 : Int32))) 11 (((u74.1 0 12) + (1 : Int32)).toNatClampNeg) (iW 19 2 8 0)) 0 12 (((u74.1 0 12) + (1 : Int32)) + (1 : Int32))) 11 ((((u74.1 0 12) + (1 : Int32)) + (1 : Int32)).toNatClampNeg) (iW 8195 8 8 (-8))) 0 12 ((((u74.1 0 12) + (1 : Int32)) + (1 : Int32)) + (1 : Int32))) 11 (((((u74.1 0 12) + (1 : Int32)) + (1 : Int32)) + (1 : Int32)).toNatClampNeg) (iW 103 0 1 0)) 0 12 (((((u74.1 0 12) + (1 : Int32)) + (1 : Int32)) + (1 : Int32)) + (1 : Int32))) := ⟨_, rfl⟩
  rw [← hM] at hu
  have M11 : M.1 11 = upd (upd (upd (upd (u74.1 11) (u74.1 0 12).toNatClampNeg (iW 8195 1 8 (-4))) (u74.1 0 12 + 1).toNatClampNeg (iW 19 2 8 0)) (u74.1 0 12 + 1 + 1).toNatClampNeg (iW 8195 8 8 (-8))) (u74.1 0 12 + 1 + 1 + 1).toNatClampNeg (iW 103 0 1 0) := by rw [hM]; rfl
  have M12 : M.1 0 12 = u74.1 0 12 + 1 + 1 + 1 + 1 := by rw [hM]; rfl
  have MS : SMw u74 M := by rw [hM]; exact ⟨⟨rfl, rfl, rfl, rfl, rfl, rfl⟩, rfl, rfl⟩
  have E4 : EMS 4 u74 u := by
    rw [hu, hM]
    refine EMS.wa (EMS.wa (EMS.wa (EMS.wa (EMS.wa (EMS.wa (EMS.wa (EMS.wa (EMS.wa ?_ (by decide)) (by decide)) (by decide)) (by decide)) (by decide)) (by decide)) (by decide)) (by decide)) (by decide)
    refine EMS.w0 (EMS.wa (EMS.wa (EMS.w0 (EMS.wa (EMS.wa ?_ (by decide)) (by decide)) (by decide)) (by decide)) (by decide)) (by decide)
    exact EMS.o1 (EMS.wa (EMS.o1 (EMS.wa (EMS.o1 (EMS.wa (EMS.o1 (EMS.wa EMS.rf (by decide)) rfl) (by decide)) rfl) (by decide)) rfl) (by decide)) rfl
  have U11 : u.1 11 = upd (upd (upd (upd (upd (upd (upd (M.1 11) (v.1 0 12).toNatClampNeg (iW 19 2 2 (-fq))) (v.1 0 12 + 3).toNatClampNeg (bW 20579 2 6 12)) (v.1 0 12 + 4).toNatClampNeg (iW 19 17 0 1)) (v.1 0 12 + 5).toNatClampNeg 1048691) (v.1 0 12 + 6).toNatClampNeg (sW 1 (fq - (4 : Int32)) 2)) (v.1 0 12 + 7).toNatClampNeg (sW 8 (fq - (8 : Int32)) 2)) (v.1 0 12 + 8).toNatClampNeg (iW 19 8 2 fq) := by rw [hu]; rfl
  have U12 : u.1 0 12 = M.1 0 12 := by rw [hu]; rfl
  have US : SMw M u := by rw [hu]; exact ⟨⟨rfl, rfl, rfl, rfl, rfl, rfl⟩, rfl, rfl⟩
  have kl : (knM K w203).length = (w203.1 0 30).toNatClampNeg := by unfold knM; rw [List.length_map, List.length_range]
  have n30 : nI (knM K w203).length = w203.1 0 30 := by rw [kl]; exact nI_nat h30.1
  have Q := funQ (fr := fq) (np := (knM K w203).length) Z11 Z12 ZS G1 (by rw [kl]; exact G2) y4 (by rw [X0 52 (by decide), C52]; decide) (by rw [X0 59 (by decide), C59]) hN h74 k4 M11 M12 MS U11 U12 US
  have ue : ∀ a ∈ [17, 19], u.1 a = w274.1 a := fun a ha => by
    have q2 : a ∉ [11] := by revert a; decide
    have m1 : a ∉ [0, 11, 13, 14, 29, 35, 36, 37, 38, 40, 41, 42, 61, 62, 63, 64, 65, 66] := by clear q2; revert a; decide
    have q1 : u.1 a = u74.1 a := by
      rw [hu, hM]
      simp only [List.mem_cons, List.not_mem_nil, or_false] at ha
      rcases ha with rfl | rfl <;> rfl
    have q3 : N.1 a = u60.1 a := by
      rw [hN]
      simp only [List.mem_cons, List.not_mem_nil, or_false] at ha
      rcases ha with rfl | rfl <;> rfl
    rw [q1, k4.2.2 a q2, q3, k3.1.2.2 a m1]
  have u18 : u.1 18 = upd (v.1 18) (v.1 0 22).toNatClampNeg fq := by
    rw [hu]
    show upd (M.1 18) _ fq = _
    have q1 : M.1 18 = u74.1 18 := by rw [hM]; rfl
    have q2 : N.1 18 = u60.1 18 := by rw [hN]; rfl
    rw [q1, k4.2.2 18 (by decide), q2, k3.1.2.2 18 (by decide), x18]
  refine ⟨knM K w203, b, fq, ?_, Q, ⟨by rw [ue 19 (by decide), x19], u18, by rw [ue 17 (by decide), x17, n30]⟩, by rw [kl]; have := natI h30.1; omega⟩
  · unfold gFunc gParams
    rw [hi, P.1, Option.bind_some]
    have t31 : gTok e 31 (w203.1 0 47) = some (w203.1 0 47 + 1) := gTok_of Q2.2
    show ((gTok e 31 (w203.1 0 47)).bind _).bind _ = _
    rw [t31, Option.bind_some, Option.bind_some]
    show (gTok e 32 (w203.1 0 47 + 1)).bind _ = _
    rw [y1, Option.bind_some, y2, Option.bind_some]
    show (gTok e 33 j).bind _ = _
    have e47 : u.1 0 47 = u60.1 0 47 := by rw [E4.2.2.1 47 (by decide), E3.2.2.1 47 (by decide)]
    rw [y3, Option.bind_some, e47]
end ZZO
