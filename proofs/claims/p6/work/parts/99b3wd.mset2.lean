/-! the reference's orders: settings -/
section WDS
variable {n : Int} {K : TK} {e : PE} {v u w x y : MS} {a b pre post : List EV} {r pa pb pc1 pd : Int32} {c : RM1} {E : EvE} {Es : FE} {m : Int}
theorem gRead_e : gRead pa.toInt pb = if 0 ≤ pa.toInt then evx 3 pa 0 else evx 5 pb 0 := by unfold gRead; rw [Int32.ofInt_toInt]
theorem gPut_e : gPut pa.toInt pb = if 0 ≤ pa.toInt then evx 4 pa 1 else evx 6 pb 0 := by unfold gPut; rw [Int32.ofInt_toInt]
set_option maxHeartbeats 800000 in
theorem oSets (hX : XMe n K c E) (h : Q_m_sets c v pa pb pc1 pd false u) (J : JM n K e v) (hk : (42 : Int) ≤ (e.1 (v.1 0 47)).toInt ∧ (e.1 (v.1 0 47)).toInt ≤ 52) (h0 : pd = 0 ↔ (e.1 (v.1 0 47)).toInt = 42) (hy : pd ≠ 0 → ∃ y ∈ SC, y.1 = pd ∧ y.2 = e.1 (v.1 0 47) + 10) : ∃ a, gChange E (decide (pc1.toInt ≠ 0)) pa.toInt pb e (knM K v) (v.1 0 32) (v.1 0 47) = some (a, u.1 0 47) ∧ OS n K e v u a := by
  have z0 : ∀ {a : Int32}, a.toInt = 0 ↔ a = 0 := fun {a} => ⟨fun q => Int32.toInt_inj.mp (q.trans (by decide)), fun q => by rw [q]; decide⟩
  have hk2 : 2 ≤ (e.1 (v.1 0 47)).toInt := by omega
  obtain ⟨z1, z2, z3, z4, z5, z6, z15, z8, z9, z10, z11, z12, h⟩ := h
  rcases h with ⟨c1, ⟨c2, r8, u7, h7, k7, -, u14, h14, k14, ⟨u9, -, f, -⟩ | ⟨h3, k3, -, -, u42, h42, k42, -, r55, -, r58, -, ⟨u9, -, f, -⟩ | ⟨u78, h78, k78, -, r88, -, r91, -, u97, h97, k97, -, u109, h109, k109, -, eu⟩⟩⟩ | ⟨c2, r129, u128, h7, k7, -, u135, h14, k14, ⟨u9, -, f, -⟩ | ⟨h3, k3, -, -, -, ⟨u9, -, f, -⟩ | ⟨u172, h78, k78, -, -, u186, h186, k186, -, eu⟩⟩⟩⟩ | ⟨c1, ⟨c2, r208, u207, h7, k7, -, u215, h14, k14, ⟨u9, -, f, -⟩ | ⟨h3, k3, -, r232, -, u242, -, k242, r247, -, r250, -, -, r261, -, -, u281, hu281, -, r289, -, r292, -, ⟨u9, -, f, -⟩ | ⟨u325, h78, k78, -, r338, -, r341, -, u347, h347, k347, -, r359, -, r362, -, r369, -, u379, hu379, -, eu⟩⟩⟩ | ⟨c2, r398, u397, h7, k7, -, u405, h14, k14, ⟨u9, -, f, -⟩ | ⟨h3, k3, -, r422, -, u432, -, k432, r437, -, r440, -, -, -, -, ⟨u9, -, f, -⟩ | ⟨u476, h78, k78, -, -, r491, -, r494, -, r501, -, u511, hu511, -, eu⟩⟩⟩⟩
  · cases f
  · cases f
  · -- a number, with a sign
    have np : pd ≠ 0 := fun q => c2 (z0.mpr q)
    obtain ⟨zz, hz, hz1, hz2⟩ := hy np
    obtain ⟨cc, m1, -⟩ := rFetch h42
    have e1 : EMS (cc + 1) _ (wA (wA u42 11 ((u42.1 0 12).toNatClampNeg) r58) 0 12 ((u42.1 0 12) + (1 : Int32))) := EMS.o1 (EMS.wa m1 (by decide)) rfl
    have w15 : 0 ≤ ((wA (wA u14 0 47 ((u14.1 0 47) + (1 : Int32))) 0 48 ((u14.1 0 48) + (1 : Int32))).1 0 15).toInt := by
      show 0 ≤ (u14.1 0 15).toInt
      rw [k14.2.1 15 (by decide), k7.1.2.1 15 (by decide)]
      exact z15.1
    have F := oFetch (K := K) h42
    have f15 : 0 ≤ (u42.1 0 15).toInt := by have := F.1; omega
    have A1 := (F.tr (OA.no (q := evx 4 (gsl (knM K v) (v.1 0 32) + 0) 0) rfl f15) w15).nt (OA.em (i := (u42.1 0 12).toNatClampNeg) (x9 := r58) (y9 := (u42.1 0 12) + (1 : Int32))) w15
    have e2 : EMS ((1 + opc pd) + 0) (wA u78 0 32 ((u78.1 0 32) - (1 : Int32))) u97 := ((EMS.o1 (EMS.wa EMS.rf (by decide)) rfl : EMS (0 + 1) _ _).tr (rOper h97)).tr EMS.rf
    obtain ⟨cs, m2, -⟩ := rStore h109
    have y15 : ∀ {w : MS} {pre' : List EV}, OA K v w pre' → 0 ≤ (w.1 0 15).toInt := fun k => by have := k.1; omega
    have g15 : 0 ≤ ((wA u78 0 32 ((u78.1 0 32) - (1 : Int32))).1 0 15).toInt := by
      have q := k78.2.2.2.2.1.1
      have q : (u42.1 0 15).toInt ≤ (u78.1 0 15).toInt := q
      show 0 ≤ (u78.1 0 15).toInt
      omega
    have A2 : OA K (wA u78 0 32 ((u78.1 0 32) - (1 : Int32))) u109 [evx 20 zz.2 (gsl (knM K v) (v.1 0 32) + 0), if 0 ≤ pa.toInt then evx 4 pa 1 else evx 6 pb 0] := ((OA.em (i := (u78.1 0 12).toNatClampNeg) (x9 := r91) (y9 := (u78.1 0 12) + (1 : Int32))).tn (oOper hz hz1 h97) g15).tr (oStore h109) g15
    obtain ⟨q, x1, x2⟩ := oSetsC hX J hk2 z15.1 h7 k7 h14 k14 h3 e1 A1 h78 k78 (e2.tr m2) A2 eu
    refine ⟨_, ?_, x2⟩
    unfold gChange
    rw [if_neg (fun q => np (h0.mpr q)), decide_eq_false (fun q => q c1)]
    show (E true e (knM K v) (v.1 0 32 + 0 + 1) (v.1 0 47 + 1)).bind _ = _
    rw [Int32.add_zero, x1, Option.bind_some, gRead_e, gPut_e, hz2]
    simp only [Bool.false_eq_true, if_false, List.append_assoc, List.cons_append, List.nil_append]
  · cases f
  · cases f
  · -- a number, plainly
    have np : pd = 0 := z0.mp c2
    have e1 : EMS 0 (wA (wA u135 0 47 ((u135.1 0 47) + (1 : Int32))) 0 48 ((u135.1 0 48) + (1 : Int32))) (wA (wA u135 0 47 ((u135.1 0 47) + (1 : Int32))) 0 48 ((u135.1 0 48) + (1 : Int32))) := EMS.rf
    obtain ⟨cs, m2, -⟩ := rStore h186
    obtain ⟨q, x1, x2⟩ := oSetsC (nn := 0) hX J hk2 z15.1 h7 k7 h14 k14 h3 e1 OA.rf h78 k78 m2 (oStore h186) eu
    refine ⟨_, ?_, x2⟩
    unfold gChange
    rw [if_pos (h0.mp np), decide_eq_false (fun q => q c1)]
    show (E true e (knM K v) (v.1 0 32 + 0) (v.1 0 47 + 1)).bind _ = _
    rw [x1, Option.bind_some, gPut_e]
    rfl
  · cases f
  · cases f
  · -- a row's number, with a sign
    have np : pd ≠ 0 := fun q => c2 (z0.mpr q)
    obtain ⟨zz, hz, hz1, hz2⟩ := hy np
    have m0 : EMS (0 + 1) (wA (wA u215 0 47 ((u215.1 0 47) + (1 : Int32))) 0 48 ((u215.1 0 48) + (1 : Int32))) _ := EMS.o1 (EMS.wa EMS.rf (by decide) : EMS 0 _ (wA (wA (wA u215 0 47 ((u215.1 0 47) + (1 : Int32))) 0 48 ((u215.1 0 48) + (1 : Int32))) 11 ((u215.1 0 12).toNatClampNeg) r232)) rfl
    have m1 := m0.tr (mFix k242)
    have m2 : EMS (1 + 1) u242 u281 := by
      rw [hu281]
      exact EMS.w0 (EMS.wa (EMS.wa (EMS.o1 (EMS.wa (EMS.o1 (EMS.wa EMS.rf (by decide)) rfl) (by decide)) rfl) (by decide)) (by decide)) (by decide)
    have e1 := EMS.o1 (EMS.wa (m1.tr m2) (by decide) (i := (u281.1 0 12).toNatClampNeg) (y := r292) (a := 11)) (y := (u281.1 0 12) + (1 : Int32)) rfl
    have w15 : 0 ≤ ((wA (wA u215 0 47 ((u215.1 0 47) + (1 : Int32))) 0 48 ((u215.1 0 48) + (1 : Int32))).1 0 15).toInt := by
      show 0 ≤ (u215.1 0 15).toInt
      rw [k14.2.1 15 (by decide), k7.1.2.1 15 (by decide)]
      exact z15.1
    have B1 : OA K (wA (wA u215 0 47 ((u215.1 0 47) + (1 : Int32))) 0 48 ((u215.1 0 48) + (1 : Int32))) u242 [] := (OA.em (i := (u215.1 0 12).toNatClampNeg) (x9 := r232) (y9 := (u215.1 0 12) + (1 : Int32))).nt (OA.fg k242.1) w15
    have i15 : u242.1 0 15 = v.1 0 15 := by
      rw [k242.1.2.1 15 (by decide)]
      show u215.1 0 15 = _
      rw [k14.2.1 15 (by decide), k7.1.2.1 15 (by decide)]
    have B2 : OA K u242 u281 [evx 10 0 0] := by
      rw [hu281]
      exact OA.say (o := 7) (z := 0) rfl rfl rfl ⟨by rw [i15]; exact z15.1, by rw [i15]; omega⟩ rfl rfl ⟨rfl, rfl, rfl⟩ loE1 rfl (show upd (u242.1 14) _ 0 _ = 0 from updS)
    have j81 : 0 ≤ (u281.1 0 15).toInt := by have := B2.1; rw [i15] at this; omega
    have A1 := ((((OA.no (K := K) (q := evx 9 pb (gsl (knM K v) (v.1 0 32))) rfl w15).nt B1 w15).tr B2 w15).tr (OA.no (q := evx 4 (gsl (knM K v) (v.1 0 32) + 1) 0) rfl j81) w15).nt (OA.em (i := (u281.1 0 12).toNatClampNeg) (x9 := r292) (y9 := (u281.1 0 12) + (1 : Int32))) w15
    have e2 : EMS (0 + 1 + opc pd) (wA u325 0 32 ((u325.1 0 32) - (2 : Int32))) u347 := (EMS.o1 (EMS.wa EMS.rf (by decide)) rfl : EMS (0 + 1) _ _).tr (rOper h347)
    have e3 : EMS (0 + 1 + 1) u347 u379 := by
      rw [hu379]
      exact EMS.w0 (EMS.wa (EMS.wa (EMS.o1 (EMS.wa (EMS.o1 (EMS.wa EMS.rf (by decide)) rfl) (by decide)) rfl) (by decide)) (by decide)) (by decide)
    have g15 : 0 ≤ ((wA u325 0 32 ((u325.1 0 32) - (2 : Int32))).1 0 15).toInt := by
      have q := k78.2.2.2.2.1.1
      have q : (u281.1 0 15).toInt ≤ (u325.1 0 15).toInt := q
      show 0 ≤ (u325.1 0 15).toInt
      omega
    have l25 : ((u325.1 0 15)).toInt ≤ 16000 := by
      have q := k78.2.2.2.2.1.2
      have q2 := k78.2.1.2
      have q : (u325.1 0 15).toInt - 10 * (u325.1 0 47).toInt ≤ (u281.1 0 15).toInt - 10 * (u281.1 0 47).toInt := q
      have q3 := k78.2.1.1
      have q3 : (u281.1 0 47).toInt + 1 ≤ (u325.1 0 47).toInt := q3
      have q4 := B2.1
      rw [i15] at q4
      have q5 : (((1 : Nat)) : Int) = 1 := rfl
      have q6 : loL [evx 10 0 0] = 1 := rfl
      rw [q6] at q4
      have q7 : u281.1 0 47 = v.1 0 47 + 1 := by
        rw [m2.2.2.1 47 (by decide), k242.1.2.1 47 (by decide)]
        show u215.1 0 47 + 1 = _
        rw [k14.2.1 47 (by decide), k7.1.2.1 47 (by decide)]
      have q8 : ((v.1 0 47) + (1 : Int32)).toInt = (v.1 0 47).toInt + 1 := add_z rfl (by decide) (by omega) (by omega)
      rw [q7, q8] at q
      omega
    have C1 := (OA.em (v := wA u325 0 32 ((u325.1 0 32) - (2 : Int32))) (i := (u325.1 0 12).toNatClampNeg) (x9 := r341) (y9 := (u325.1 0 12) + (1 : Int32))).tn (oOper (K := K) (s := gsl (knM K v) (v.1 0 32) + 1) hz hz1 h347) g15
    have d15 := C1.1
    have d15 : (u347.1 0 15).toInt = (u325.1 0 15).toInt + 1 := d15
    have C2 : OA K u347 u379 [evx 11 (gsl (knM K v) (v.1 0 32)) 0] := by
      rw [hu379]
      exact OA.say (o := 8) (z := 0) rfl rfl rfl ⟨by have g : 0 ≤ (u325.1 0 15).toInt := g15; omega, by omega⟩ rfl rfl ⟨rfl, rfl, rfl⟩ loE1 rfl (show upd (u347.1 14) _ 0 _ = 0 from updS)
    obtain ⟨q, x1, x2⟩ := oSetsC (nn := 2) hX J hk2 z15.1 h7 k7 h14 k14 h3 e1 A1 h78 k78 (e2.tr e3) (C1.tr C2 g15) eu
    refine ⟨_, ?_, x2⟩
    unfold gChange
    rw [if_neg (fun q => np (h0.mpr q)), decide_eq_true c1]
    show (E true e (knM K v) (v.1 0 32 + 1 + 1) (v.1 0 47 + 1)).bind _ = _
    rw [Int32.add_assoc, show (1 : Int32) + 1 = 2 by decide, x1, Option.bind_some, hz2]
    simp only [if_true, List.append_assoc, List.cons_append, List.nil_append]
  · cases f
  · cases f
  · -- a row's number, plainly
    have np : pd = 0 := z0.mp c2
    have m0 : EMS (0 + 1) (wA (wA u405 0 47 ((u405.1 0 47) + (1 : Int32))) 0 48 ((u405.1 0 48) + (1 : Int32))) _ := EMS.o1 (EMS.wa EMS.rf (by decide) : EMS 0 _ (wA (wA (wA u405 0 47 ((u405.1 0 47) + (1 : Int32))) 0 48 ((u405.1 0 48) + (1 : Int32))) 11 ((u405.1 0 12).toNatClampNeg) r422)) rfl
    have m1 := m0.tr (mFix k432)
    have e1 := EMS.o1 (EMS.wa m1 (by decide) (i := (u432.1 0 12).toNatClampNeg) (y := r440) (a := 11)) (y := (u432.1 0 12) + (1 : Int32)) rfl
    have w15 : 0 ≤ ((wA (wA u405 0 47 ((u405.1 0 47) + (1 : Int32))) 0 48 ((u405.1 0 48) + (1 : Int32))).1 0 15).toInt := by
      show 0 ≤ (u405.1 0 15).toInt
      rw [k14.2.1 15 (by decide), k7.1.2.1 15 (by decide)]
      exact z15.1
    have B1 : OA K (wA (wA u405 0 47 ((u405.1 0 47) + (1 : Int32))) 0 48 ((u405.1 0 48) + (1 : Int32))) u432 [] := (OA.em (i := (u405.1 0 12).toNatClampNeg) (x9 := r422) (y9 := (u405.1 0 12) + (1 : Int32))).nt (OA.fg k432.1) w15
    have i15 : u432.1 0 15 = v.1 0 15 := by
      rw [k432.1.2.1 15 (by decide)]
      show u405.1 0 15 = _
      rw [k14.2.1 15 (by decide), k7.1.2.1 15 (by decide)]
    have A1 := ((OA.no (K := K) (q := evx 9 pb (gsl (knM K v) (v.1 0 32))) rfl w15).nt B1 w15).nt (OA.em (i := (u432.1 0 12).toNatClampNeg) (x9 := r440) (y9 := (u432.1 0 12) + (1 : Int32))) w15
    have e2 : EMS (0 + 1 + 1) (wA u476 0 32 ((u476.1 0 32) - (1 : Int32))) u511 := by
      rw [hu511]
      exact EMS.w0 (EMS.wa (EMS.wa (EMS.o1 (EMS.wa (EMS.o1 (EMS.wa EMS.rf (by decide)) rfl) (by decide)) rfl) (by decide)) (by decide)) (by decide)
    have l25 : 0 ≤ (u476.1 0 15).toInt ∧ (u476.1 0 15).toInt ≤ 16000 := by
      have q := k78.2.2.2.2.1
      have q2 := k78.2.1.2
      have q : (u432.1 0 15).toInt ≤ (u476.1 0 15).toInt ∧ (u476.1 0 15).toInt - 10 * (u476.1 0 47).toInt ≤ (u432.1 0 15).toInt - 10 * (u432.1 0 47).toInt := q
      rw [i15] at q
      have q7 : u432.1 0 47 = v.1 0 47 + 1 := by
        rw [k432.1.2.1 47 (by decide)]
        show u405.1 0 47 + 1 = _
        rw [k14.2.1 47 (by decide), k7.1.2.1 47 (by decide)]
      have q8 : ((v.1 0 47) + (1 : Int32)).toInt = (v.1 0 47).toInt + 1 := add_z rfl (by decide) (by omega) (by omega)
      rw [q7, q8] at q
      omega
    have A2 : OA K (wA u476 0 32 ((u476.1 0 32) - (1 : Int32))) u511 [evx 11 (gsl (knM K v) (v.1 0 32)) 0] := by
      rw [hu511]
      exact OA.say (o := 8) (z := 0) rfl rfl rfl ⟨l25.1, by have := l25.2; show (u476.1 0 15).toInt ≤ _; omega⟩ rfl rfl ⟨rfl, rfl, rfl⟩ loE1 rfl (show upd (u476.1 14) _ 0 _ = 0 from updS)
    obtain ⟨q, x1, x2⟩ := oSetsC (nn := 1) hX J hk2 z15.1 h7 k7 h14 k14 h3 e1 A1 h78 k78 e2 A2 eu
    refine ⟨_, ?_, x2⟩
    unfold gChange
    rw [if_pos (h0.mp np), decide_eq_true c1]
    show (E true e (knM K v) (v.1 0 32 + 1) (v.1 0 47 + 1)).bind _ = _
    rw [x1, Option.bind_some]
    rfl
end WDS
