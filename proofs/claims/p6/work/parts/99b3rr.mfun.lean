/-! the reference: a function -/
section MFU
variable {g : GM} {n : Int} {K : TK} {e : PE} {v u u2 w x C : MS} {t : Bool} {r pa pb : Int32} {S : FS} {k N cc : Nat} {m : Int}
def beG (v : MS) (pa : Int32) : MS := (wA (wA (wA (wA (wA (wA (wA v 0 22 ((v.1 0 22) + (1 : Int32))) 16 ((v.1 0 22).toNatClampNeg) pa) 0 30 0) 0 34 0) 0 31 0) 0 32 0) 0 33 0)
theorem aR_beg : aR g K (wA (wA (beG v pa) 0 52 0) 0 59 (-1)) = tBegF (aR g K v) := by
  refine aR_eq rfl rfl rfl rfl rfl ?_ rfl rfl rfl rfl rfl rfl rfl rfl
  show (if v.1 0 49 = v.1 0 47 then (0 : Int32) else 0) = 0
  exact ite_self _
theorem JG.beg {bz : Bool} (J : JG bz n K e v) : JM n K e (wA (wA (beG v pa) 0 52 0) 0 59 (-1)) := by
  obtain ⟨T, he, nd, J4, J5, J6⟩ := J
  refine ⟨T.of rfl rfl rfl rfl rfl rfl, he, nd, J4, fun k hk => ?_, J6⟩
  have hk : (k : Int) < (0 : Int32).toInt := hk
  have : (0 : Int32).toInt = 0 := by decide
  omega
theorem em_lo {s : PS} {c : Int32} (h : pLo s = false) : sLo (em c s) false = em c s := by
  have q : ∀ {s : PS}, pLo s = false → sLo s false = s := fun {s} h => by rw [← h]; rfl
  refine q ?_
  unfold em
  split
  · exact h
  · exact h
theorem ofN {a : Int32} (h : 0 ≤ a.toInt) : Int32.ofNat a.toNatClampNeg = a := by
  have b := natI h
  have l := Int32.toInt_lt a
  refine Int32.toInt_inj.mp ?_
  rw [Int32.toInt_ofNat_of_lt (by omega)]
  exact b
theorem em_9 {s : PS} {a : Int32} (h : 0 ≤ a.toInt) : em (Int32.ofNat (0 + 9 + 2 * a.toNatClampNeg)) s = em (9 + 2 * a) s := by
  rw [Int32.ofNat_add, Int32.ofNat_mul, ofN h]
  rfl
theorem fL1 {ka : Int32} {w203 w252 : MS} (hr : RT (Q_m_function0_L1 v w203) (0, C) (ka, w252)) (h9 : ka.toInt = 9) : EMS 9 C w252 := by
  have : ∃ c : Nat, (c : Int) = ka.toInt ∧ EMS c C w252 := by
    refine RT.ind (fun (y : Int32 × MS) => ∃ c : Nat, (c : Int) = y.1.toInt ∧ EMS c C y.2) hr ⟨0, show (0 : Int) = (0 : Int32).toInt by decide, EMS.rf⟩ ?_
    intro a b _ ⟨c, hc, he⟩ hb
    obtain ⟨-, q1, q2, rfl⟩ := hb
    have ea : (a.1 + (1 : Int32)).toInt = a.1.toInt + 1 := add_z rfl (by decide) (by omega) (by omega)
    refine ⟨c + 1, by show ((c + 1 : Nat) : Int) = (a.1 + (1 : Int32)).toInt; omega, ?_⟩
    exact EMS.o1 (EMS.wa he (by decide)) rfl
  obtain ⟨c, hc, he⟩ := this
  have : c = 9 := by omega
  rw [this] at he
  exact he
theorem fL2 {kb : Int32} {w252 w274 : MS} (hr : RT (Q_m_function0_L2 v w252) (0, w252) (kb, w274)) (h0 : 0 ≤ (w252.1 17 (v.1 0 22).toNatClampNeg).toInt) (h9 : (w274.1 17 (v.1 0 22).toNatClampNeg).toInt ≤ kb.toInt) : EMS (2 * (w252.1 17 (v.1 0 22).toNatClampNeg).toNatClampNeg) w252 w274 := by
  have nz := natI h0
  have : (∃ c : Nat, (c : Int) = kb.toInt ∧ EMS (2 * c) w252 w274) ∧ kb.toInt ≤ (w252.1 17 (v.1 0 22).toNatClampNeg).toInt ∧ w274.1 17 = w252.1 17 := by
    refine RT.ind (fun (y : Int32 × MS) => (∃ c : Nat, (c : Int) = y.1.toInt ∧ EMS (2 * c) w252 y.2) ∧ y.1.toInt ≤ (w252.1 17 (v.1 0 22).toNatClampNeg).toInt ∧ y.2.1 17 = w252.1 17) hr ⟨⟨0, show (0 : Int) = (0 : Int32).toInt by decide, EMS.rf⟩, by show (0 : Int32).toInt ≤ _; have : (0 : Int32).toInt = 0 := (by decide); omega, rfl⟩ ?_
    intro a b _ ⟨⟨c, hc, he⟩, hl, h17⟩ hb
    obtain ⟨fr, q1, q2, r183, -, r192, -, r195, -, rfl⟩ := hb
    have ea : (a.1 + (1 : Int32)).toInt = a.1.toInt + 1 := add_z rfl (by decide) (by omega) (by omega)
    rw [h17] at q2
    refine ⟨⟨c + 1, by show ((c + 1 : Nat) : Int) = (a.1 + (1 : Int32)).toInt; omega, ?_⟩, by show (a.1 + (1 : Int32)).toInt ≤ _; omega, h17⟩
    exact EMS.o1 (EMS.wa (EMS.o1 (EMS.wa he (by decide)) rfl) (by decide)) rfl
  obtain ⟨⟨c, hc, he⟩, hl, h17⟩ := this
  rw [h17] at h9
  have : c = (w252.1 17 (v.1 0 22).toNatClampNeg).toNatClampNeg := by omega
  rw [← this]
  exact he
def tFRest (S : FS) (e : PE) (s : PS) : PX (PS × Int32 × Int32 × Int32) := bd (tParams e s) fun s1 => bd (tBody S e (sLo (em (9 + 2 * pKc s1) s1) false)) fun s2 => .ok (s2, pKc s1, 8 + 4 * pMo s2, pWd s1)
def FNW (v u : MS) (pa c f9 : Int32) : Prop := u.1 16 = upd (v.1 16) (v.1 0 22).toNatClampNeg pa ∧ u.1 17 = upd (v.1 17) (v.1 0 22).toNatClampNeg c ∧ u.1 18 = upd (v.1 18) (v.1 0 22).toNatClampNeg f9 ∧ u.1 19 = upd (v.1 19) (v.1 0 22).toNatClampNeg (v.1 0 12) ∧ u.1 0 22 = v.1 0 22 + 1 ∧ (∀ a ∈ [23, 24, 25, 26], u.1 a = v.1 a) ∧ (∀ a ∈ [27, 28], u.1 0 a = v.1 0 a) ∧ (v.1 0 39).toInt ≤ (u.1 0 39).toInt
set_option maxHeartbeats 3200000 in
theorem rFun0 {bz : Bool} (hS : HMS n K (QMS 40) S) (h : Q_m_function0 v pa t u) (J : JG bz n K e v) (hk : (kd e (aR (false, []) K v)).toInt = 30) : (t = false ∧ ∃ c f9, tFRest S e (tBegF (aR (false, []) K v)) = .ok (aR (false, []) K u, c, f9, pWd (aR (false, []) K v)) ∧ JM n K e u ∧ ND u ∧ FNW v u pa c f9) ∨ (t = true ∧ tFRest S e (tBegF (aR (false, []) K v)) = .error (u.1 0 50, u.1 0 51)) := by
  obtain ⟨-, -, -, -, -, -, -, -, -, -, u2, hu2, h⟩ := h
  have hu2 : u2 = beG v pa := hu2
  have JB : JM n K e (wA (wA u2 0 52 0) 0 59 (-1)) := by rw [hu2]; exact J.beg
  have eB : aR (false, []) K (wA (wA u2 0 52 0) 0 59 (-1)) = tBegF (aR (false, []) K v) := by rw [hu2]; exact aR_beg
  have kB : tNeed 30 e (tBegF (aR (false, []) K v)) = .ok (tBegF (aR (false, []) K v)) := by
    unfold tNeed
    exact if_pos hk
  have h31 : (u2.1 0 31).toInt = 0 := by
    rw [hu2]
    show (0 : Int32).toInt = 0
    decide
  unfold tFRest tParams
  rw [← eB] at kB ⊢
  rcases h with ⟨u9, h1, rfl, rfl⟩ | ⟨h1, k1, h⟩
  · have a1 := (rOpen (g := (false, [])) (q := (40, 30)) (m := 30) h1 JB (by decide) rfl (by decide)).er
    rw [kB, bd_ok] at a1
    exact Or.inr ⟨rfl, by rw [a1, bd_er, bd_er]⟩
  have b1 := rOpen (g := (false, [])) (q := (40, 30)) (m := 30) h1 JB (by decide) rfl (by decide)
  have a1 := b1.eo
  rw [kB, bd_ok] at a1
  have J1 := b1.jj
  rw [a1, bd_ok]
  rcases h with ⟨w203, hj, fr, h47, h30, h⟩ | ⟨r212, h2, -, c2, mo9, w74, hr, fr, h47, h30, h⟩
  · have P := rParJ (g := (false, [])) hj h31 J1
    rw [P.1, bd_ok]
    rcases h with ⟨u9, h2, rfl, rfl⟩ | ⟨h2, k2, ka, w252, r1, f1, z1, c1, kb, w274, r2, f2, z2, c2, h⟩
    · have a2 := (rClose (g := (false, [])) (q := (41, 31)) (m := 31) h2 P.2 (by decide) rfl (by decide)).er
      exact Or.inr ⟨rfl, by rw [a2, bd_er]⟩
    have a2 := rClose (g := (false, [])) (q := (41, 31)) (m := 31) h2 P.2 (by decide) rfl (by decide)
    rw [a2.eo, bd_ok]
    have J2 := a2.jj
    generalize hC : (wA (wA w203 0 47 ((w203.1 0 47) + (1 : Int32))) 0 48 ((w203.1 0 48) - (1 : Int32))) = C at *
    have C30 : C.1 0 30 = w203.1 0 30 := by rw [← hC]; rfl
    have C0 : ∀ i ∉ [30, 33, 47, 48, 49, 52, 59], C.1 0 i = u2.1 0 i := fun i hi => by
      rw [← hC]
      have i47 : i ≠ 47 := fun q => hi (by rw [q]; decide)
      have i48 : i ≠ 48 := fun q => hi (by rw [q]; decide)
      have i52 : i ≠ 52 := fun q => hi (by rw [q]; decide)
      have i59 : i ≠ 59 := fun q => hi (by rw [q]; decide)
      show upd (upd (w203.1 0) 47 _) 48 _ i = _
      have sb : ∀ i ∈ [30, 33, 47, 49], i ∈ [30, 33, 47, 48, 49, 52, 59] := by decide
      rw [updN_ i48, updN_ i47, fr.2.1 i (fun q => hi (sb i q))]
      show upd (upd (upd (upd (u2.1 0) 52 _) 59 _) 47 _) 48 _ i = _
      rw [updN_ i48, updN_ i47, updN_ i59, updN_ i52]
    have CA9 : ∀ a ∉ [0, 29], C.1 a = u2.1 a := fun a ha => by
      have a0 : a ≠ 0 := fun q => ha (by rw [q]; decide)
      rw [← hC]
      show (if a = 0 then _ else if a = 0 then _ else w203.1 a) = _
      rw [if_neg a0, if_neg a0, fr.2.2 a ha]
      show (if a = 0 then _ else if a = 0 then _ else if a = 0 then _ else if a = 0 then _ else u2.1 a) = _
      rw [if_neg a0, if_neg a0, if_neg a0, if_neg a0]
    have e12 : w203.1 0 12 = v.1 0 12 := by
      have q : w203.1 0 12 = C.1 0 12 := by rw [← hC]; rfl
      rw [q, C0 12 (by decide), hu2]
      rfl
    have ka9 : ka.toInt = 9 := by omega
    have E0 : EMS 0 C (wA (wA (wA (wA C 17 ((v.1 0 22).toNatClampNeg) (w203.1 0 30)) 0 34 (w203.1 0 30)) 19 ((v.1 0 22).toNatClampNeg) (w203.1 0 12)) 20 ((v.1 0 22).toNatClampNeg) (w203.1 0 15)) := EMS.wa (EMS.wa (EMS.w0 (EMS.wa EMS.rf (by decide)) (by decide)) (by decide)) (by decide)
    have E1 := E0.tr (fL1 r1 ka9)
    have w17 : w252.1 17 = upd (v.1 17) (v.1 0 22).toNatClampNeg (w203.1 0 30) := by
      rw [f1.2.2 17 (by decide)]
      show upd (C.1 17) _ _ = _
      rw [CA9 17 (by decide), hu2]
      rfl
    have w17f : w252.1 17 (v.1 0 22).toNatClampNeg = w203.1 0 30 := by rw [w17, updS]
    have E2 := E1.tr (fL2 r2 (by rw [w17f]; omega) c2)
    rw [w17f] at E2
    have A2 : aR (false, []) K w274 = em (9 + 2 * pKc (aR (false, []) K C)) (aR (false, []) K C) := by
      rw [E2.a, em_9 h30.1]
      show _ = em (9 + 2 * C.1 0 30) _
      rw [C30]
    have eL : sLo (em (9 + 2 * pKc (aR (false, []) K C)) (aR (false, []) K C)) false = aR (false, []) K w274 := by rw [em_lo rfl, A2]
    rw [eL, tBody_C]
    have J3 := E2.j J2
    have f52 : w274.1 0 52 = 0 := by
      rw [f2.2.1 52 (by decide), f1.2.1 52 (by decide)]
      show C.1 0 52 = 0
      rw [← hC]
      show w203.1 0 52 = 0
      rw [fr.2.1 52 (by decide)]
      rfl
    have lo : (false, ([] : List Nat)).1 = true ↔ (w274.1 0 52).toInt ≠ 0 := by
      rw [f52]
      exact ⟨fun q => (Bool.false_ne_true q).elim, fun q => absurd (show (0 : Int32).toInt = 0 by decide) q⟩
    rcases h with ⟨u9, h3, rfl, rfl⟩ | ⟨u60, h3, k3, r67, -, u74, -, k4, r78, -, r86, -, r93, -, r100, -, r133, -, r137, -, r141, -, r147, -, r152, -, r156, -, rfl, hu⟩
    · exact Or.inr ⟨rfl, by rw [(rBody0 (g := (false, [])) hS h3 J3 rfl lo).er, bd_er, bd_er]⟩
    have b3 := rBody0 (g := (false, [])) hS h3 J3 rfl lo
    obtain ⟨J4, Z4, N4⟩ := b3.jj
    have E3 : EMS 1 u60 u74 := (EMS.o1 (EMS.wa EMS.rf (by decide)) rfl).tr (EMS.fg k4 (by decide) (by decide))
    have E4 : EMS 4 u74 u := by
      rw [hu]
      refine EMS.wa (EMS.wa (EMS.wa (EMS.wa (EMS.wa (EMS.wa (EMS.wa (EMS.wa (EMS.wa ?_ (by decide)) (by decide)) (by decide)) (by decide)) (by decide)) (by decide)) (by decide)) (by decide)) (by decide)
      refine EMS.w0 (EMS.wa (EMS.wa (EMS.w0 (EMS.wa (EMS.wa ?_ (by decide)) (by decide)) (by decide)) (by decide)) (by decide)) (by decide)
      exact EMS.o1 (EMS.wa (EMS.o1 (EMS.wa (EMS.o1 (EMS.wa (EMS.o1 (EMS.wa EMS.rf (by decide)) rfl) (by decide)) rfl) (by decide)) rfl) (by decide)) rfl
    have AU : aR (false, []) K u = em 4 (em 1 (aR (false, []) K u60)) := by rw [E4.a, E3.a]; rfl
    have NU := nd_e E4 (nd_e E3 N4)
    have du : ¬ (u.1 0 49 = u.1 0 47) := fun q => by
      have q2 : (u.1 0 49).toInt < (u.1 0 47).toInt := NU
      rw [q] at q2
      omega
    have u33 : u.1 0 33 = u74.1 0 33 := E4.2.2.1 33 (by decide)
    have mo : pMo (aR (false, []) K u) = u74.1 0 33 := by
      show (if u.1 0 49 = u.1 0 47 then 0 else u.1 0 33) = _
      rw [if_neg du, u33]
    have pw : pWd (aR (false, []) K C) = pWd (aR (false, []) K v) := by
      show (if ovM C = true then 0 else C.1 0 12) = if ovM v = true then 0 else v.1 0 12
      have q39 : C.1 0 39 = v.1 0 39 := by rw [C0 39 (by decide), hu2]; rfl
      have q12 : C.1 0 12 = v.1 0 12 := by rw [C0 12 (by decide), hu2]; rfl
      unfold ovM
      rw [q39, q12]
    refine Or.inl ⟨rfl, w203.1 0 30, (8 : Int32) + 4 * u74.1 0 33, ?_, E4.j (E3.j J4), NU, ?_⟩
    · rw [b3.eo, bd_ok, bd_ok, ← AU, mo, pw]
      show Except.ok (_, C.1 0 30, _, _) = _
      rw [C30]
    have ch0 : ∀ a ∈ [22, 27, 28], u.1 0 a = (beG v pa).1 0 a := fun a ha => by
      have m1 : a ∉ [12, 15, 30, 31, 32, 33, 34, 39, 43, 44, 45, 47, 48, 49, 50, 51, 52, 53, 54, 55, 56, 57, 58, 59, 60] := by revert a; decide
      have m2 : a ∉ [12] := by revert a; decide
      have m3 : a ∉ [30, 33, 47, 48, 49, 52, 59] := by revert a; decide
      have q1 : u.1 0 a = u74.1 0 a := by
        rw [hu]
        simp only [List.mem_cons, List.not_mem_nil, or_false] at ha
        rcases ha with rfl | rfl | rfl <;> rfl
      have q2 : u74.1 0 a = u60.1 0 a := by
        rw [k4.2.1 a (fun q => nomatch q)]
        simp only [List.mem_cons, List.not_mem_nil, or_false] at ha
        rcases ha with rfl | rfl | rfl <;> rfl
      rw [q1, q2, k3.1.2.1 a m1, f2.2.1 a m2, f1.2.1 a m2, ← hu2, ← C0 a m3]
      simp only [List.mem_cons, List.not_mem_nil, or_false] at ha
      rcases ha with rfl | rfl | rfl <;> rfl
    have ch1 : ∀ a ∈ [16, 17, 18, 19, 23, 24, 25, 26], u60.1 a = (wA (wA (wA (wA C 17 ((v.1 0 22).toNatClampNeg) (w203.1 0 30)) 0 34 (w203.1 0 30)) 19 ((v.1 0 22).toNatClampNeg) (w203.1 0 12)) 20 ((v.1 0 22).toNatClampNeg) (w203.1 0 15)).1 a := fun a ha => by
      rw [k3.1.2.2 a (by revert a; decide), f2.2.2 a (by revert a; decide), f1.2.2 a (by revert a; decide)]
    have ch2 : ∀ a ∈ [16, 17, 19, 23, 24, 25, 26], u.1 a = u60.1 a := fun a ha => by
      have m1 : a ∉ [11] := by revert a; decide
      have q1 : u.1 a = u74.1 a := by
        rw [hu]
        simp only [List.mem_cons, List.not_mem_nil, or_false] at ha
        rcases ha with rfl | rfl | rfl | rfl | rfl | rfl | rfl <;> rfl
      rw [q1, k4.2.2 a m1]
      simp only [List.mem_cons, List.not_mem_nil, or_false] at ha
      rcases ha with rfl | rfl | rfl | rfl | rfl | rfl | rfl <;> rfl
    refine ⟨?_, ?_, ?_, ?_, ?_, fun a ha => ?_, fun a ha => ?_, ?_⟩
    · rw [ch2 16 (by decide), ch1 16 (by decide)]
      show C.1 16 = _
      rw [CA9 16 (by decide), hu2]
      rfl
    · rw [ch2 17 (by decide), ch1 17 (by decide)]
      show upd (C.1 17) _ _ = _
      rw [CA9 17 (by decide), hu2]
      rfl
    · have q1 : u.1 18 = upd (u74.1 18) (v.1 0 22).toNatClampNeg ((8 : Int32) + ((4 : Int32) * (u74.1 0 33))) := by rw [hu]; rfl
      rw [q1, k4.2.2 18 (by decide)]
      show upd (u60.1 18) _ _ = _
      rw [ch1 18 (by decide)]
      show upd (C.1 18) _ _ = _
      rw [CA9 18 (by decide), hu2]
      rfl
    · rw [ch2 19 (by decide), ch1 19 (by decide)]
      show upd (C.1 19) _ _ = _
      rw [CA9 19 (by decide), hu2, e12]
      rfl
    · rw [ch0 22 (by decide)]
      rfl
    · have ha2 : a ∈ [16, 17, 19, 23, 24, 25, 26] := by revert a; decide
      have ha3 : a ∈ [16, 17, 18, 19, 23, 24, 25, 26] := by revert a; decide
      rw [ch2 a ha2, ch1 a ha3]
      have q : C.1 a = v.1 a := by
        rw [CA9 a (by revert a; decide), hu2]
        simp only [List.mem_cons, List.not_mem_nil, or_false] at ha
        rcases ha with rfl | rfl | rfl | rfl <;> rfl
      rw [← q]
      simp only [List.mem_cons, List.not_mem_nil, or_false] at ha
      rcases ha with rfl | rfl | rfl | rfl <;> rfl
    · rw [ch0 a (by revert a; decide)]
      simp only [List.mem_cons, List.not_mem_nil, or_false] at ha
      rcases ha with rfl | rfl <;> rfl
    · have q39 : v.1 0 39 = w274.1 0 39 := by
        rw [f2.2.1 39 (by decide), f1.2.1 39 (by decide)]
        show _ = C.1 0 39
        rw [C0 39 (by decide), hu2]
        rfl
      have q1 : u.1 0 39 = u60.1 0 39 := by rw [E4.2.2.1 39 (by decide), E3.2.2.1 39 (by decide)]
      rw [q1, q39]
      exact Z4.2.2
  · have i1 := (rIs (g := (false, [])) h2 J1 (q := (41, 31)) (by decide) rfl).trans (kd_m (m := 31) (by decide))
    rw [if_neg (fun q => i1.mpr q c2)]
    have I := pAll (g := (false, [])) hr h31 J1 rfl
    have P := pErr (g := (false, [])) I (by
      rw [fr.2.1 31 (by decide)]
      exact h31) h47.2 ⟨h30.1, h30.2.1⟩ h
    exact Or.inr ⟨P.1, by rw [P.2, bd_er, bd_er]⟩
end MFU
