/-! slots: statements, functions, the text -/
section XUS
variable {E : FE} {G : EvE} {S : FS} {T : EvS} {s s' s1 : PS} {e : PE} {kn : List Int32} {pb i j g : Int32} {a b : List EV} {Z : Nat} {M m : Int}
theorem i32_12 (i : Int32) : i + 1 + 1 = i + 2 := by rw [Int32.add_assoc]; rfl
theorem i32_13 (i : Int32) : i + 2 + 1 = i + 3 := by rw [Int32.add_assoc]; rfl
theorem new_inv (h : tNew e s = .ok s') : s' = s := by
  unfold tNew at h
  obtain ⟨s1, h1, h⟩ := bd_inv h
  obtain ⟨-, e1⟩ := need_inv h1
  rw [e1] at h
  by_cases c : (pBl s).toInt ≤ fnd (pKn s) (vl e s)
  · rw [if_pos c] at h; cases h
  · rw [if_neg c] at h; exact (ok_inj h).symm
/-- a name more -/
theorem learn_v {x : Int32} (I : SO (vp s)) (h : (pKc s).toInt + (pPb s).toInt + 1 ≤ 500) : KZs (vp s) (vp (tLearn x s)) ∧ pKn (tLearn x s) = pKn s ++ [x] ∧ pAt (tLearn x s) = pAt s ∧ pMo (tLearn x s) = pMo s := by
  have i3 : 0 ≤ (pPb s).toInt := I.2.2.1
  have i2 : (pKc s).toInt = ((pKn s).length : Int) := I.2.1
  have e1 : (pKc s + 1).toInt = (pKc s).toInt + 1 := add_z rfl (by decide) (by omega) (by omega)
  unfold tLearn
  rw [if_neg (by omega)]
  refine ⟨⟨⟨I.1, ?_, i3, ?_⟩, rfl, ⟨[x], rfl⟩, Int.le_refl _⟩, rfl, rfl, rfl⟩
  · show (pKc s + 1).toInt = (((pKn s ++ [x]).length : Nat) : Int)
    rw [List.length_append, e1, i2]
    rfl
  · show (pKc s + 1).toInt + (pPb s).toInt ≤ 500
    omega
theorem jLocal (hE : XJE E G) (h : tLocal E e s = .ok s') (I : SO (vp s)) : KZs (vp s) (vp s') ∧ ∀ kn pb i a kn' j, AT s kn pb i → gLocal G e kn pb i = some (a, kn', j) → kn' = pKn s' ∧ j = pAt s' ∧ SLT e.2.2.2.length (pMo s').toInt a := by
  unfold tLocal at h
  obtain ⟨s1, h1, h⟩ := bd_inv h
  obtain ⟨s2, h2, h⟩ := bd_inv h
  obtain ⟨s3, h3, h⟩ := bd_inv h
  obtain ⟨s4, h4, h⟩ := bd_inv h
  obtain ⟨s5, h5, h⟩ := bd_inv h
  obtain ⟨s6, h6, h⟩ := bd_inv h
  have e1 := ok_inj h
  obtain ⟨-, v1⟩ := take_inv h1
  have e2 := new_inv h2
  rw [e2] at h3 e1
  have K1 := KA.vx v1
  have I1 := K1.so I
  obtain ⟨w1, w2, K3, at3⟩ := want_inv h3 I1 (by decide) (by decide)
  have o1 : (1 : Int32).toInt = 1 := by decide
  rw [o1] at w1 w2
  obtain ⟨-, v4⟩ := take_inv h4
  have K4 := KA.vx v4
  have K14 := (K1.tr K3).tr K4
  have I4 := K14.so I
  have R5 : KA (vp s4) (vp s5) ∧ ∀ kn pb i a j, AT s4 kn pb i → (if (e.1 i).toInt = 42 then G true e kn pb (i + 1) else some ([evx 2 0 0], i)) = some (a, j) → j = pAt s5 ∧ SLT e.2.2.2.length (pMo s5).toInt a := by
    by_cases c : (kd e s4).toInt = 42
    · rw [if_pos c] at h5
      obtain ⟨s9, h9, h5⟩ := bd_inv h5
      obtain ⟨-, v9⟩ := take_inv h9
      have K9 := KA.vx v9
      obtain ⟨K, R⟩ := (hE _ _ _ _ h5).2 (K9.so I4)
      refine ⟨K9.tr K, fun kn pb i a j A hg => ?_⟩
      rw [if_pos (by rw [A.2.2]; exact c)] at hg
      exact R _ _ _ a j (A.n1 v9) hg
    · rw [if_neg c] at h5
      have e5 := ok_inj h5
      have v5 : vp s5 = vp s4 := by rw [← e5]; exact vp_em
      refine ⟨KA.ve v5 I4, fun kn pb i a j A hg => ?_⟩
      rw [if_neg (by rw [A.2.2]; exact c)] at hg
      have e9 := Option.some.inj hg
      rw [← show [evx 2 0 0] = a from congrArg Prod.fst e9, ← show i = j from congrArg Prod.snd e9]
      exact ⟨(A.e1 v5).2.2, SLT.o⟩
  obtain ⟨K5, R5⟩ := R5
  obtain ⟨-, -, v6⟩ := exp_inv h6
  rw [vp_em] at v6
  have K6 := KA.vx v6
  have K16 := (K14.tr K5).tr K6
  have kc6 : pKc s6 = pKc s1 := (((K3.tr K4).tr K5).tr K6).2.1
  have pb6 : pPb s6 = pPb s1 := (((K3.tr K4).tr K5).tr K6).2.2.1
  obtain ⟨L1, L2, L3, L4⟩ := learn_v (x := vl e s1) (K16.so I) (by rw [kc6, pb6]; exact w1)
  rw [e1] at L1 L2 L3 L4
  refine ⟨(K16.zz I).tr L1, fun kn pb i a kn' j A hg => ?_⟩
  unfold gLocal at hg
  obtain ⟨q, hq, hg⟩ := Option.bind_eq_some_iff.mp hg
  obtain ⟨j2, hj2, hg⟩ := Option.bind_eq_some_iff.mp hg
  have e9 := Option.some.inj hg
  have A4 := ((A.n1 v1).k1 K3 (j := i + 1) (by rw [at3]; exact (A.n1 v1).2.2)).n1 v4
  rw [i32_12] at A4
  rw [← i32_13] at hq
  obtain ⟨b1, b2⟩ := R5 _ _ _ q.1 q.2 A4 hq
  have A6 := (A4.k1 K5 b1).n1 v6
  have v1e : vl e s1 = e.2.1 (i + 1) := by
    show e.2.1 (pAt s1) = _
    rw [(A.n1 v1).2.2]
  have m56 : (pMo s5).toInt ≤ (pMo s6).toInt := K6.2.2.2.2
  rw [← show q.1 ++ [evx 4 (gsl kn pb) 1, evx 25 0 0] = a from congrArg Prod.fst e9, ← show kn ++ [e.2.1 (i + 1)] = kn' from congrArg (fun x => x.2.1) e9, ← show j2 = j from congrArg (fun x => x.2.2) e9, L2, L3, L4, v1e, gTok_j (i' := 0) hj2]
  refine ⟨by rw [← A6.1], A6.2.2, (b2.m m56).app (SLT.app (a := [evx 4 _ 1]) (b := [evx 25 0 0]) SLT.y1 SLT.o)⟩
theorem jLeave (h : tJump e s = .ok s') (I : SO (vp s)) : KZs (vp s) (vp s') ∧ ∀ kn pb i a kn' j, AT s kn pb i → gLeave e kn i = some (a, kn', j) → kn' = pKn s' ∧ j = pAt s' ∧ SLT e.2.2.2.length (pMo s').toInt a := by
  unfold tJump at h
  obtain ⟨s1, h1, h⟩ := bd_inv h
  obtain ⟨-, v1⟩ := take_inv h1
  by_cases c : pLo s = true
  · rw [if_pos c] at h
    obtain ⟨-, -, v2⟩ := exp_inv h
    rw [vp_em] at v2
    have K := (KA.vx v1).tr (KA.vx v2)
    refine ⟨K.zz I, fun kn pb i a kn' j A hg => ?_⟩
    unfold gLeave at hg
    obtain ⟨j2, hj2, hg⟩ := Option.bind_eq_some_iff.mp hg
    have e9 := Option.some.inj hg
    have A2 := (A.n1 v1).n1 v2
    rw [← show [evx (if (e.1 i).toInt = 16 then 30 else 31) 0 0] = a from congrArg Prod.fst e9, ← show kn = kn' from congrArg (fun x => x.2.1) e9, ← show j2 = j from congrArg (fun x => x.2.2) e9, gTok_j (i' := 0) hj2]
    refine ⟨A2.1, A2.2.2, ?_⟩
    split
    · exact SLT.o
    · exact SLT.o
  · rw [if_neg c] at h; cases h
theorem jRet (hE : XJE E G) (h : tRet E e s = .ok s') (I : SO (vp s)) : KZs (vp s) (vp s') ∧ ∀ kn pb i a kn' j, AT s kn pb i → gRet G e kn pb i = some (a, kn', j) → kn' = pKn s' ∧ j = pAt s' ∧ SLT e.2.2.2.length (pMo s').toInt a := by
  unfold tRet at h
  obtain ⟨s1, h1, h⟩ := bd_inv h
  obtain ⟨s5, h5, h⟩ := bd_inv h
  obtain ⟨-, v1⟩ := take_inv h1
  have K1 := KA.vx v1
  have I1 := K1.so I
  have R5 : KA (vp s1) (vp s5) ∧ ∀ kn pb i a j, AT s1 kn pb i → (if (e.1 i).toInt = 36 then some ([evx 2 0 0], i) else G true e kn pb i) = some (a, j) → j = pAt s5 ∧ SLT e.2.2.2.length (pMo s5).toInt a := by
    by_cases c : (kd e s1).toInt = 36
    · rw [if_pos c] at h5
      have e5 := ok_inj h5
      have v5 : vp s5 = vp s1 := by rw [← e5]; exact vp_em
      refine ⟨KA.ve v5 I1, fun kn pb i a j A hg => ?_⟩
      rw [if_pos (by rw [A.2.2]; exact c)] at hg
      have e9 := Option.some.inj hg
      rw [← show [evx 2 0 0] = a from congrArg Prod.fst e9, ← show i = j from congrArg Prod.snd e9]
      exact ⟨(A.e1 v5).2.2, SLT.o⟩
    · rw [if_neg c] at h5
      obtain ⟨K, R⟩ := (hE _ _ _ _ h5).2 I1
      refine ⟨K, fun kn pb i a j A hg => ?_⟩
      rw [if_neg (by rw [A.2.2]; exact c)] at hg
      exact R _ _ _ a j A hg
  obtain ⟨K5, R5⟩ := R5
  obtain ⟨-, -, v6⟩ := exp_inv h
  rw [vp_em] at v6
  have K6 := KA.vx v6
  have K := (K1.tr K5).tr K6
  refine ⟨K.zz I, fun kn pb i a kn' j A hg => ?_⟩
  unfold gRet at hg
  obtain ⟨q, hq, hg⟩ := Option.bind_eq_some_iff.mp hg
  obtain ⟨j2, hj2, hg⟩ := Option.bind_eq_some_iff.mp hg
  have e9 := Option.some.inj hg
  obtain ⟨b1, b2⟩ := R5 _ _ _ q.1 q.2 (A.n1 v1) hq
  have A6 := ((A.n1 v1).k1 K5 b1).n1 v6
  rw [← show q.1 ++ [evx 32 0 0] = a from congrArg Prod.fst e9, ← show kn = kn' from congrArg (fun x => x.2.1) e9, ← show j2 = j from congrArg (fun x => x.2.2) e9, gTok_j (i' := 0) hj2]
  exact ⟨A6.1, A6.2.2, (b2.m K6.2.2.2.2).app SLT.o⟩
theorem jPutS (hE : XJE E G) (h : tPut E e s = .ok s') (I : SO (vp s)) : KZs (vp s) (vp s') ∧ ∀ kn pb i a kn' j, AT s kn pb i → gPutS G e kn pb i = some (a, kn', j) → kn' = pKn s' ∧ j = pAt s' ∧ SLT e.2.2.2.length (pMo s').toInt a := by
  unfold tPut at h
  obtain ⟨s1, h1, h⟩ := bd_inv h
  obtain ⟨s5, h5, h⟩ := bd_inv h
  obtain ⟨-, v1⟩ := take_inv h1
  have K1 := KA.vx v1
  obtain ⟨K5, R5⟩ := jCond hE h5 (K1.so I)
  obtain ⟨-, -, v6⟩ := exp_inv h
  rw [vp_em] at v6
  have K6 := KA.vx v6
  have K := (K1.tr K5).tr K6
  refine ⟨K.zz I, fun kn pb i a kn' j A hg => ?_⟩
  unfold gPutS at hg
  obtain ⟨q, hq, hg⟩ := Option.bind_eq_some_iff.mp hg
  obtain ⟨j2, hj2, hg⟩ := Option.bind_eq_some_iff.mp hg
  have e9 := Option.some.inj hg
  obtain ⟨b1, b2⟩ := R5 _ _ _ q.1 q.2 (A.n1 v1) hq
  have A6 := ((A.n1 v1).k1 K5 b1).n1 v6
  rw [← show q.1 ++ [evx 22 0 0] = a from congrArg Prod.fst e9, ← show kn = kn' from congrArg (fun x => x.2.1) e9, ← show j2 = j from congrArg (fun x => x.2.2) e9, gTok_j (i' := 0) hj2]
  exact ⟨A6.1, A6.2.2, (b2.m K6.2.2.2.2).app SLT.o⟩
/-- behind a statement -/
theorem AT.zz (h : AT s kn pb i) (k : KZs (vp s) (vp s1)) {kn' : List Int32} (hk : kn' = pKn s1) {j : Int32} (hj : j = pAt s1) : AT s1 kn' pb j := ⟨hk, h.2.1.trans (k.2.1 : pPb s1 = pPb s).symm, hj⟩
theorem jStats (hS : XJS S T) : ∀ (f : Nat) (s s' : PS), tStats S f e s = .ok s' → SO (vp s) → KZs (vp s) (vp s') ∧ ∀ kn pb i a kn' j, AT s kn pb i → gStats T f e kn pb i = some (a, kn', j) → kn' = pKn s' ∧ j = pAt s' ∧ SLT e.2.2.2.length (pMo s').toInt a
  | 0, _, _, h, _ => by cases h
  | f + 1, s, s', h, I => by
    have h : (if (kd e s).toInt = 33 then .ok s else bd (S e s) (tStats S f e)) = .ok s' := h
    by_cases c : (kd e s).toInt = 33
    · rw [if_pos c] at h
      have e1 := ok_inj h
      rw [← e1]
      refine ⟨(KA.rf I).zz I, fun kn pb i a kn' j A hg => ?_⟩
      have hg : (if (e.1 i).toInt = 33 then some ([], kn, i) else _) = some (a, kn', j) := hg
      rw [if_pos (by rw [A.2.2]; exact c)] at hg
      have e9 := Option.some.inj hg
      rw [← show [] = a from congrArg Prod.fst e9, ← show kn = kn' from congrArg (fun x => x.2.1) e9, ← show i = j from congrArg (fun x => x.2.2) e9]
      exact ⟨A.1, A.2.2, SLT.nil⟩
    · rw [if_neg c] at h
      obtain ⟨s1, h1, h⟩ := bd_inv h
      obtain ⟨Z1, R1⟩ := hS _ _ _ h1 I
      obtain ⟨Z2, R2⟩ := jStats hS f s1 s' h Z1.1
      refine ⟨Z1.tr Z2, fun kn pb i a kn' j A hg => ?_⟩
      have hg : (if (e.1 i).toInt = 33 then some ([], kn, i) else (T e kn pb i).bind fun q => (gStats T f e q.2.1 pb q.2.2).bind fun r => some (q.1 ++ r.1, r.2)) = some (a, kn', j) := hg
      rw [if_neg (by rw [A.2.2]; exact c)] at hg
      obtain ⟨q, hq, hg⟩ := Option.bind_eq_some_iff.mp hg
      obtain ⟨r, hr, hg⟩ := Option.bind_eq_some_iff.mp hg
      have e9 := Option.some.inj hg
      obtain ⟨b0, b1, b2⟩ := R1 _ _ _ q.1 q.2.1 q.2.2 A hq
      obtain ⟨d0, d1, d2⟩ := R2 _ _ _ r.1 r.2.1 r.2.2 (A.zz Z1 b0 b1) hr
      rw [← show q.1 ++ r.1 = a from congrArg Prod.fst e9, ← show r.2.1 = kn' from congrArg (fun x => x.2.1) e9, ← show r.2.2 = j from congrArg (fun x => x.2.2) e9]
      exact ⟨d0, d1, (b2.m Z2.2.2.2).app d2⟩
theorem jBlock (hS : XJS S T) (h : tBlock S e s = .ok s') (I : SO (vp s)) : KA (vp s) (vp s') ∧ ∀ kn pb i a kn' j, AT s kn pb i → gBlock T e kn pb i = some (a, kn', j) → kn' = kn ∧ j = pAt s' ∧ SLT e.2.2.2.length (pMo s').toInt a := by
  unfold tBlock at h
  obtain ⟨s1, h1, h⟩ := bd_inv h
  obtain ⟨s2, h2, h⟩ := bd_inv h
  obtain ⟨s3, h3, h⟩ := bd_inv h
  have e1 := ok_inj h
  obtain ⟨-, v1⟩ := open_inv h1
  have v1 : vp s1 = nx (vp s) := v1
  have K1 := KA.vx v1
  obtain ⟨Z2, R2⟩ := jStats hS 1502 s1 s2 h2 (K1.so I)
  obtain ⟨-, -, v3⟩ := exp_inv h3
  have K3 := KA.vx v3
  have Z : KZs (vp s) (vp (tClose s3)) := ((K1.zz I).tr Z2).tr (K3.zz Z2.1)
  obtain ⟨B1, B2, B3⟩ := back_v I Z
  rw [← e1]
  refine ⟨B1, fun kn pb i a kn' j A hg => ?_⟩
  unfold gBlock at hg
  obtain ⟨q, hq, hg⟩ := Option.bind_eq_some_iff.mp hg
  obtain ⟨j2, hj2, hg⟩ := Option.bind_eq_some_iff.mp hg
  have e9 := Option.some.inj hg
  obtain ⟨b0, b1, b2⟩ := R2 _ _ _ q.1 q.2.1 q.2.2 (A.n1 v1) hq
  have A3 := ((A.n1 v1).zz Z2 b0 b1).n1 v3
  rw [← show q.1 = a from congrArg Prod.fst e9, ← show j2 = j from congrArg (fun x => x.2.2) e9, B2, B3, gTok_j (i' := 0) hj2]
  exact ⟨(congrArg (fun x => x.2.1) e9).symm, A3.2.2, b2.m K3.2.2.2.2⟩
theorem jIf (hE : XJE E G) (hS : XJS S T) (h : tIf E S e s = .ok s') (I : SO (vp s)) : KA (vp s) (vp s') ∧ ∀ kn pb i a kn' j, AT s kn pb i → gIf G T e kn pb i = some (a, kn', j) → kn' = kn ∧ j = pAt s' ∧ SLT e.2.2.2.length (pMo s').toInt a := by
  unfold tIf at h
  obtain ⟨s1, h1, h⟩ := bd_inv h
  obtain ⟨s2, h2, h⟩ := bd_inv h
  obtain ⟨s3, h3, h⟩ := bd_inv h
  obtain ⟨-, v1⟩ := open_inv h1
  have K1 := KA.vx v1
  obtain ⟨K2, R2⟩ := jCond hE h2 (K1.so I)
  have K12 := K1.tr K2
  have w2 : vp (em 2 s2) = vp s2 := vp_em
  obtain ⟨K3, R3⟩ := jInner hS h3 (by rw [w2]; exact K12.so I)
  rw [w2] at K3
  have K13 := K12.tr K3
  have go : ∀ kn pb i a kn' j, AT s kn pb i → gIf G T e kn pb i = some (a, kn', j) → ∃ c1 a1 j1, SLT e.2.2.2.length (pMo s3).toInt c1 ∧ SLT e.2.2.2.length (pMo s3).toInt a1 ∧ AT s3 kn pb j1 ∧ (if (e.1 j1).toInt = 12 then (gInner T e kn pb (j1 + 1)).bind fun b => some (c1 ++ [fwE 16 0 (a1 ++ [fwE 19 0 b.1])] ++ a1 ++ [fwE 19 0 b.1] ++ b.1, kn, b.2.2) else some (c1 ++ [fwE 16 0 a1] ++ a1, kn, j1)) = some (a, kn', j) := by
    intro kn pb i a kn' j A hg
    unfold gIf at hg
    obtain ⟨c, hc, hg⟩ := Option.bind_eq_some_iff.mp hg
    obtain ⟨q, hq, hg⟩ := Option.bind_eq_some_iff.mp hg
    obtain ⟨b1, b2⟩ := R2 _ _ _ c.1 c.2 (A.n1 v1) hc
    have A2 := (A.n1 v1).k1 K2 b1
    obtain ⟨-, d1, d2⟩ := R3 _ _ _ q.1 q.2.1 q.2.2 (A2.e1 w2) hq
    exact ⟨c.1, q.1, q.2.2, b2.m K3.2.2.2.2, d2, A2.k1 K3 d1, hg⟩
  by_cases c : (kd e s3).toInt = 12
  · rw [if_pos c] at h
    obtain ⟨s4, h4, h⟩ := bd_inv h
    obtain ⟨s5, h5, h⟩ := bd_inv h
    have e1 := ok_inj h
    obtain ⟨-, v4⟩ := take_inv h4
    have v4 : vp (em 1 s4) = nx (vp s3) := by rw [vp_em]; exact v4
    have K4 := KA.vx v4
    obtain ⟨K5, R5⟩ := jInner hS h5 ((K13.tr K4).so I)
    rw [← e1]
    refine ⟨(K13.tr K4).tr K5, fun kn pb i a kn' j A hg => ?_⟩
    obtain ⟨c1, a1, j1, S1, S2, A3, hg⟩ := go kn pb i a kn' j A hg
    rw [if_pos (by rw [A3.2.2]; exact c)] at hg
    obtain ⟨b, hb, hg⟩ := Option.bind_eq_some_iff.mp hg
    have e9 := Option.some.inj hg
    obtain ⟨-, d1, d2⟩ := R5 _ _ _ b.1 b.2.1 b.2.2 (A3.n1 v4) hb
    have el : _ = a := congrArg Prod.fst e9
    rw [← el, ← show b.2.2 = j from congrArg (fun x => x.2.2) e9]
    have m35 : (pMo s3).toInt ≤ (pMo s5).toInt := (K4.tr K5).2.2.2.2
    exact ⟨(congrArg (fun x => x.2.1) e9).symm, d1, ((((S1.m m35).app SLT.o).app (S2.m m35)).app SLT.o).app d2⟩
  · rw [if_neg c] at h
    have e1 := ok_inj h
    rw [← e1]
    refine ⟨K13, fun kn pb i a kn' j A hg => ?_⟩
    obtain ⟨c1, a1, j1, S1, S2, A3, hg⟩ := go kn pb i a kn' j A hg
    rw [if_neg (by rw [A3.2.2]; exact c)] at hg
    have e9 := Option.some.inj hg
    have el : _ = a := congrArg Prod.fst e9
    rw [← el, ← show j1 = j from congrArg (fun x => x.2.2) e9]
    exact ⟨(congrArg (fun x => x.2.1) e9).symm, A3.2.2, (S1.app SLT.o).app S2⟩
/-- what keeps all names is a statement's -/
theorem jKA {X : PX PS} {g : List Int32 → Int32 → Int32 → Option (List EV × List Int32 × Int32)} (I : SO (vp s)) (h : KA (vp s) (vp s') ∧ ∀ kn pb i a kn' j, AT s kn pb i → g kn pb i = some (a, kn', j) → kn' = kn ∧ j = pAt s' ∧ SLT e.2.2.2.length (pMo s').toInt a) : KZs (vp s) (vp s') ∧ ∀ kn pb i a kn' j, AT s kn pb i → g kn pb i = some (a, kn', j) → kn' = pKn s' ∧ j = pAt s' ∧ SLT e.2.2.2.length (pMo s').toInt a := by
  obtain ⟨K, R⟩ := h
  refine ⟨K.zz I, fun kn pb i a kn' j A hg => ?_⟩
  obtain ⟨r1, r2, r3⟩ := R _ _ _ _ _ _ A hg
  exact ⟨by rw [r1, A.1]; exact (K.1 : pKn s' = pKn s).symm, r2, r3⟩
theorem jLoop (hE : XJE E G) (hS : XJS S T) (c : m = 13 ∨ m = 14 ∨ m = 15) (h : tLoop m E S e s = .ok s') (I : SO (vp s)) : KA (vp s) (vp s') ∧ ∀ kn pb i a kn' j, AT s kn pb i → (if m = 13 then gWhile G T e kn pb (i + 1) else if m = 14 then gDo G T e kn pb (i + 1) else gFor G T e kn pb (i + 1)) = some (a, kn', j) → kn' = kn ∧ j = pAt s' ∧ SLT e.2.2.2.length (pMo s').toInt a := by
  unfold tLoop at h
  obtain ⟨s1, h1, h⟩ := bd_inv h
  obtain ⟨s2, h2, h⟩ := bd_inv h
  have e1 := ok_inj h
  obtain ⟨-, v1⟩ := open_inv h1
  have K1 := KA.vx v1
  have I1 := K1.so I
  have R : KA (vp s1) (vp s2) ∧ ∀ kn pb i a kn' j, AT s1 kn pb i → (if m = 13 then gWhile G T e kn pb i else if m = 14 then gDo G T e kn pb i else gFor G T e kn pb i) = some (a, kn', j) → kn' = kn ∧ j = pAt s2 ∧ SLT e.2.2.2.length (pMo s2).toInt a := by
    by_cases c1 : m = 13
    · rw [if_pos c1] at h2
      simp only [if_pos c1]
      exact jWhile hE hS h2 I1
    · rw [if_neg c1] at h2
      by_cases c2 : m = 14
      · rw [if_pos c2] at h2
        simp only [if_neg c1, if_pos c2]
        exact jDo hE hS h2 I1
      · rw [if_neg c2] at h2
        simp only [if_neg c1, if_neg c2]
        exact jFor hE hS h2 I1
  obtain ⟨K2, R⟩ := R
  rw [← e1]
  exact ⟨K1.tr K2, fun kn pb i a kn' j A hg => R _ _ _ _ _ _ (A.n1 v1) hg⟩
theorem jStat (hE : XJE E G) (hS : XJS S T) : XJS (tStat E S) (gStat G T) := by
  intro e s s' h I
  have W : ∀ {P : Prop}, (∀ kn pb i a kn' j, AT s kn pb i → gStat G T e kn pb i = some (a, kn', j) → kn' = pKn s' ∧ j = pAt s' ∧ SLT e.2.2.2.length (pMo s').toInt a) → KZs (vp s) (vp s') → KZs (vp s) (vp s') ∧ ∀ kn pb i a kn' j, AT s kn pb i → gStat G T e kn pb i = some (a, kn', j) → kn' = pKn s' ∧ j = pAt s' ∧ SLT e.2.2.2.length (pMo s').toInt a := fun a b => ⟨b, a⟩
  have ki : ∀ kn pb i, AT s kn pb i → e.1 i = kd e s := fun kn pb i A => by rw [A.2.2]; rfl
  have gs : ∀ kn pb i, gStat G T e kn pb i = if (e.1 i).toInt = 10 then gLocal G e kn pb i
    else if (e.1 i).toInt = 11 then gIf G T e kn pb i
    else if (e.1 i).toInt = 13 then gWhile G T e kn pb (i + 1)
    else if (e.1 i).toInt = 14 then gDo G T e kn pb (i + 1)
    else if (e.1 i).toInt = 15 then gFor G T e kn pb (i + 1)
    else if (e.1 i).toInt = 16 ∨ (e.1 i).toInt = 17 then gLeave e kn i
    else if (e.1 i).toInt = 18 then gRet G e kn pb i
    else if (e.1 i).toInt = 19 then gPutS G e kn pb i
    else if (e.1 i).toInt = 32 then gBlock T e kn pb i
    else if (e.1 i).toInt = 36 then some ([], kn, i + 1)
    else (G true e kn pb i).bind fun q => (gTok e 36 q.2).bind fun j => some (q.1 ++ [evx 25 0 0], kn, j) := fun _ _ _ => rfl
  unfold tStat at h
  by_cases c1 : (kd e s).toInt = 10
  · rw [if_pos c1] at h
    obtain ⟨Z, R⟩ := jLocal hE h I
    refine ⟨Z, fun kn pb i a kn' j A hg => ?_⟩
    rw [gs, ki _ _ _ A, if_pos c1] at hg
    exact R _ _ _ _ _ _ A hg
  rw [if_neg c1] at h
  by_cases c2 : (kd e s).toInt = 11
  · rw [if_pos c2] at h
    obtain ⟨Z, R⟩ := jKA (X := .ok s) (g := gIf G T e) I (jIf hE hS h I)
    refine ⟨Z, fun kn pb i a kn' j A hg => ?_⟩
    rw [gs, ki _ _ _ A, if_neg c1, if_pos c2] at hg
    exact R _ _ _ _ _ _ A hg
  rw [if_neg c2] at h
  by_cases c3 : (kd e s).toInt = 13 ∨ (kd e s).toInt = 14 ∨ (kd e s).toInt = 15
  · rw [if_pos c3] at h
    obtain ⟨K, R⟩ := jLoop hE hS c3 h I
    refine ⟨K.zz I, fun kn pb i a kn' j A hg => ?_⟩
    rw [gs, ki _ _ _ A, if_neg c1, if_neg c2] at hg
    obtain ⟨r1, r2, r3⟩ := R _ _ _ a kn' j A (by
      by_cases d1 : (kd e s).toInt = 13
      · rw [if_pos d1] at hg ⊢; exact hg
      rw [if_neg d1] at hg ⊢
      by_cases d2 : (kd e s).toInt = 14
      · rw [if_pos d2] at hg ⊢; exact hg
      rw [if_neg d2] at hg ⊢
      rw [if_pos (by omega)] at hg
      exact hg)
    exact ⟨by rw [r1, A.1]; exact (K.1 : pKn s' = pKn s).symm, r2, r3⟩
  rw [if_neg c3] at h
  have n3 : ¬ (kd e s).toInt = 13 := fun w => c3 (Or.inl w)
  have n4 : ¬ (kd e s).toInt = 14 := fun w => c3 (Or.inr (Or.inl w))
  have n5 : ¬ (kd e s).toInt = 15 := fun w => c3 (Or.inr (Or.inr w))
  by_cases c4 : (kd e s).toInt = 16 ∨ (kd e s).toInt = 17
  · rw [if_pos c4] at h
    obtain ⟨Z, R⟩ := jLeave h I
    refine ⟨Z, fun kn pb i a kn' j A hg => ?_⟩
    rw [gs, ki _ _ _ A, if_neg c1, if_neg c2, if_neg n3, if_neg n4, if_neg n5, if_pos c4] at hg
    exact R _ pb _ _ _ _ A hg
  rw [if_neg c4] at h
  by_cases c5 : (kd e s).toInt = 18
  · rw [if_pos c5] at h
    obtain ⟨Z, R⟩ := jRet hE h I
    refine ⟨Z, fun kn pb i a kn' j A hg => ?_⟩
    rw [gs, ki _ _ _ A, if_neg c1, if_neg c2, if_neg n3, if_neg n4, if_neg n5, if_neg c4, if_pos c5] at hg
    exact R _ _ _ _ _ _ A hg
  rw [if_neg c5] at h
  by_cases c6 : (kd e s).toInt = 19
  · rw [if_pos c6] at h
    obtain ⟨Z, R⟩ := jPutS hE h I
    refine ⟨Z, fun kn pb i a kn' j A hg => ?_⟩
    rw [gs, ki _ _ _ A, if_neg c1, if_neg c2, if_neg n3, if_neg n4, if_neg n5, if_neg c4, if_neg c5, if_pos c6] at hg
    exact R _ _ _ _ _ _ A hg
  rw [if_neg c6] at h
  by_cases c7 : (kd e s).toInt = 32
  · rw [if_pos c7] at h
    obtain ⟨Z, R⟩ := jKA (X := .ok s) (g := gBlock T e) I (jBlock hS h I)
    refine ⟨Z, fun kn pb i a kn' j A hg => ?_⟩
    rw [gs, ki _ _ _ A, if_neg c1, if_neg c2, if_neg n3, if_neg n4, if_neg n5, if_neg c4, if_neg c5, if_neg c6, if_pos c7] at hg
    exact R _ _ _ _ _ _ A hg
  rw [if_neg c7] at h
  by_cases c8 : (kd e s).toInt = 36
  · rw [if_pos c8] at h
    obtain ⟨-, v1⟩ := take_inv h
    refine ⟨(KA.vx v1).zz I, fun kn pb i a kn' j A hg => ?_⟩
    rw [gs, ki _ _ _ A, if_neg c1, if_neg c2, if_neg n3, if_neg n4, if_neg n5, if_neg c4, if_neg c5, if_neg c6, if_neg c7, if_pos c8] at hg
    have e9 := Option.some.inj hg
    rw [← show [] = a from congrArg Prod.fst e9, ← show kn = kn' from congrArg (fun x => x.2.1) e9, ← show i + 1 = j from congrArg (fun x => x.2.2) e9]
    exact ⟨(A.n1 v1).1, (A.n1 v1).2.2, SLT.nil⟩
  rw [if_neg c8] at h
  obtain ⟨s1, h1, h⟩ := bd_inv h
  obtain ⟨K1, R1⟩ := (hE _ _ _ _ h1).2 I
  obtain ⟨-, -, v2⟩ := exp_inv h
  have K2 := KA.vx v2
  refine ⟨(K1.tr K2).zz I, fun kn pb i a kn' j A hg => ?_⟩
  rw [gs, ki _ _ _ A, if_neg c1, if_neg c2, if_neg n3, if_neg n4, if_neg n5, if_neg c4, if_neg c5, if_neg c6, if_neg c7, if_neg c8] at hg
  obtain ⟨q, hq, hg⟩ := Option.bind_eq_some_iff.mp hg
  obtain ⟨j2, hj2, hg⟩ := Option.bind_eq_some_iff.mp hg
  have e9 := Option.some.inj hg
  obtain ⟨b1, b2⟩ := R1 _ _ _ q.1 q.2 A hq
  have A2 := (A.k1 K1 b1).n1 v2
  rw [← show q.1 ++ [evx 25 0 0] = a from congrArg Prod.fst e9, ← show kn = kn' from congrArg (fun x => x.2.1) e9, ← show j2 = j from congrArg (fun x => x.2.2) e9, gTok_j (i' := 0) hj2]
  exact ⟨A2.1, A2.2.2, (b2.m K2.2.2.2.2).app SLT.o⟩
theorem jS (hE : XJE E G) : ∀ n : Nat, XJS (tS E n) (geS G n)
  | 0 => jStat hE (fun e s s' h => by cases h)
  | n + 1 => jStat hE (jS hE n)
end XUS
theorem jSP : XJS SP EvSP := jS (jLev 50).1 50
