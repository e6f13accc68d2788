/-! slots: statements -/
/-- kept over a statement: put by; names may be more -/
def KZs (x y : V6) : Prop := SO y ∧ y.2.2.2.1 = x.2.2.2.1 ∧ (∃ l, y.2.1 = x.2.1 ++ l) ∧ x.2.2.2.2.2.toInt ≤ y.2.2.2.2.2.toInt
def XJS (S : FS) (G : EvS) : Prop := ∀ e s s', S e s = .ok s' → SO (vp s) → KZs (vp s) (vp s') ∧ ∀ kn pb i a kn' j, AT s kn pb i → G e kn pb i = some (a, kn', j) → kn' = pKn s' ∧ j = pAt s' ∧ SLT e.2.2.2.length (pMo s').toInt a
section XTS
variable {E : FE} {G : EvE} {S : FS} {T : EvS} {s s' s1 : PS} {x y z : V6} {e : PE} {kn : List Int32} {pb i j g : Int32} {a b : List EV} {Z : Nat} {M m : Int}
theorem SLT.cons {q : EV} (h : SLT Z M [q]) (k : SLT Z M a) : SLT Z M (q :: a) := SLT.app (a := [q]) h k
theorem SLT.tl {q : EV} (h : SLT Z M (q :: a)) : SLT Z M [q] ∧ SLT Z M a := ⟨SLT.one (h q (List.mem_cons_self)), fun p hp => h p (List.mem_cons_of_mem _ hp)⟩
theorem SLT.rv : ∀ (b : List EV) (B C : D3), SLT Z M b → SLT Z M (rsv B C b)
  | [], _, _, _ => SLT.nil
  | q :: l, B, C, h => by
    obtain ⟨h1, h2⟩ := h.tl
    show SLT Z M ((if q.1 = 30 then (19, 0, 0, B.1, B.2.1, B.2.2) else if q.1 = 31 then (19, 0, 0, C.1, C.2.1, C.2.2) else q) :: rsv (d3s B q) (d3s C q) l)
    refine SLT.cons ?_ (SLT.rv l _ _ h2)
    split
    · exact SLT.o
    · split
      · exact SLT.o
      · exact h1
theorem SLT.rr : ∀ (b : List EV) (R : D3), SLT Z M b → SLT Z M (rsr R b)
  | [], _, _ => SLT.nil
  | q :: l, R, h => by
    obtain ⟨h1, h2⟩ := h.tl
    show SLT Z M ((if q.1 = 32 then (33, 0, 0, R.1, R.2.1, R.2.2) else q) :: rsr (d3s R q) l)
    refine SLT.cons ?_ (SLT.rr l _ h2)
    split
    · exact SLT.o
    · exact h1
theorem KA.zz (h : KA x y) (I : SO x) : KZs x y := ⟨h.so I, h.2.2.1, ⟨[], by rw [List.append_nil]; exact h.1⟩, h.2.2.2.2⟩
theorem KZs.tr (h : KZs x y) (k : KZs y z) : KZs x z := by
  obtain ⟨-, h2, ⟨l, h3⟩, h4⟩ := h
  obtain ⟨k1, k2, ⟨l', k3⟩, k4⟩ := k
  exact ⟨k1, k2.trans h2, ⟨l ++ l', by rw [k3, h3, List.append_assoc]⟩, Int.le_trans h4 k4⟩
theorem back_v (I : SO (vp s)) (Z : KZs (vp s) (vp s1)) : KA (vp s) (vp (tBack s s1)) ∧ pAt (tBack s s1) = pAt s1 ∧ pMo (tBack s s1) = pMo s1 := by
  obtain ⟨z1, z2, ⟨l, z3⟩, z4⟩ := Z
  have z3 : pKn s1 = pKn s ++ l := z3
  have i2 : (pKc s).toInt = ((pKn s).length : Int) := I.2.1
  have n : (pKc s).toNatClampNeg = (pKn s).length := natC i2
  refine ⟨⟨?_, rfl, z2, ⟨z1.1.1, fun _ => z1.1.2⟩, z4⟩, rfl, rfl⟩
  show (pKn s1).take (pKc s).toNatClampNeg = pKn s
  rw [n, z3, List.take_append_of_le_length (Nat.le_refl _), List.take_length]
theorem jCond (hE : XJE E G) (h : tCond E e s = .ok s') (I : SO (vp s)) : KA (vp s) (vp s') ∧ ∀ kn pb i a j, AT s kn pb i → gCond G e kn pb i = some (a, j) → j = pAt s' ∧ SLT e.2.2.2.length (pMo s').toInt a := by
  unfold tCond at h
  obtain ⟨s0, h0, h⟩ := bd_inv h
  obtain ⟨s1, h1, h⟩ := bd_inv h
  obtain ⟨s2, h2, h⟩ := bd_inv h
  obtain ⟨s3, h3, h⟩ := bd_inv h
  have e1 := ok_inj h
  obtain ⟨-, e0⟩ := need_inv h0
  rw [e0] at h1
  obtain ⟨-, v1⟩ := open_inv h1
  have K1 := KA.vx v1
  obtain ⟨K2, G2⟩ := (hE _ _ _ _ h2).2 (K1.so I)
  obtain ⟨-, -, v3⟩ := exp_inv h3
  have K3 := KA.vx v3
  rw [← e1]
  refine ⟨(K1.tr K2).tr K3, fun kn pb i a j A hg => ?_⟩
  unfold gCond at hg
  obtain ⟨j1, hj1, hg⟩ := Option.bind_eq_some_iff.mp hg
  obtain ⟨r, hr, hg⟩ := Option.bind_eq_some_iff.mp hg
  obtain ⟨j2, hj2, hg⟩ := Option.bind_eq_some_iff.mp hg
  have e2 := Option.some.inj hg
  have A1 := A.n1 v1
  rw [← gTok_j (i' := 0) hj1] at A1
  obtain ⟨b1, b2⟩ := G2 _ _ _ r.1 r.2 A1 hr
  rw [← show r.1 = a from congrArg Prod.fst e2, ← show j2 = j from congrArg Prod.snd e2, gTok_j (i' := 0) hj2]
  exact ⟨((A1.k1 K2 b1).n1 v3).2.2, b2.m K3.2.2.2.2⟩
theorem jInner (hS : XJS S T) (h : tInner S e s = .ok s') (I : SO (vp s)) : KA (vp s) (vp s') ∧ ∀ kn pb i a kn' j, AT s kn pb i → gInner T e kn pb i = some (a, kn', j) → kn' = kn ∧ j = pAt s' ∧ SLT e.2.2.2.length (pMo s').toInt a := by
  obtain ⟨s1, h1, h⟩ := bd_inv h
  have e1 := ok_inj h
  obtain ⟨Z, R⟩ := hS _ (sBl s (pKc s)) _ h1 I
  have Z : KZs (vp s) (vp s1) := Z
  obtain ⟨B1, B2, B3⟩ := back_v I Z
  rw [← e1]
  refine ⟨B1, fun kn pb i a kn' j A hg => ?_⟩
  unfold gInner at hg
  obtain ⟨q, hq, hg⟩ := Option.bind_eq_some_iff.mp hg
  have e2 := Option.some.inj hg
  obtain ⟨-, b1, b2⟩ := R _ _ _ q.1 q.2.1 q.2.2 A hq
  rw [← show q.1 = a from congrArg Prod.fst e2, ← show q.2.2 = j from congrArg (fun x => x.2.2) e2, B2, B3]
  exact ⟨(congrArg (fun x => x.2.1) e2).symm, b1, b2⟩
theorem jLp (hS : XJS S T) (h : tLp S e s = .ok s') (I : SO (vp s)) : KA (vp s) (vp s') ∧ ∀ kn pb i a kn' j, AT s kn pb i → gInner T e kn pb i = some (a, kn', j) → kn' = kn ∧ j = pAt s' ∧ SLT e.2.2.2.length (pMo s').toInt a := by
  obtain ⟨s1, h1, h⟩ := bd_inv h
  have e1 := ok_inj h
  obtain ⟨K, R⟩ := jInner hS h1 (show SO (vp s) from I)
  rw [← e1]
  exact ⟨K, fun kn pb i a kn' j A hg => R kn pb i a kn' j A hg⟩
theorem vp_emE {k : Int32} {t : PS} (h : vp s1 = vp t) : vp (em k s1) = vp t := by rw [vp_em]; exact h
theorem jWhile (hE : XJE E G) (hS : XJS S T) (h : tWhile E S e s = .ok s') (I : SO (vp s)) : KA (vp s) (vp s') ∧ ∀ kn pb i a kn' j, AT s kn pb i → gWhile G T e kn pb i = some (a, kn', j) → kn' = kn ∧ j = pAt s' ∧ SLT e.2.2.2.length (pMo s').toInt a := by
  unfold tWhile at h
  obtain ⟨s1, h1, h⟩ := bd_inv h
  obtain ⟨s2, h2, h⟩ := bd_inv h
  have e1 := ok_inj h
  obtain ⟨K1, G1⟩ := jCond hE h1 I
  have v1 : vp (em 2 s1) = vp s1 := vp_em
  obtain ⟨K2, G2⟩ := jLp hS h2 (by rw [v1]; exact K1.so I)
  rw [v1] at K2
  have v2 : vp s' = vp s2 := by rw [← e1]; exact vp_em
  refine ⟨by rw [v2]; exact K1.tr K2, fun kn pb i a kn' j A hg => ?_⟩
  unfold gWhile at hg
  obtain ⟨c, hc, hg⟩ := Option.bind_eq_some_iff.mp hg
  obtain ⟨b, hb, hg⟩ := Option.bind_eq_some_iff.mp hg
  have e2 := Option.some.inj hg
  obtain ⟨b1, b2⟩ := G1 _ _ _ c.1 c.2 A hc
  obtain ⟨-, d1, d2⟩ := G2 _ _ _ b.1 b.2.1 b.2.2 ((A.k1 K1 b1).e1 v1) hb
  have mo : pMo s' = pMo s2 := congrArg (fun x => x.2.2.2.2.2) v2
  have ao : pAt s' = pAt s2 := congrArg (fun x => x.1) v2
  rw [← show gWhileL c.1 b.1 = a from congrArg Prod.fst e2, ← show b.2.2 = j from congrArg (fun x => x.2.2) e2, mo, ao]
  refine ⟨(congrArg (fun x => x.2.1) e2).symm, d1, ?_⟩
  exact ((((SLT.o (t := 24)).app (b2.m K2.2.2.2.2)).app SLT.o).app (SLT.rv _ _ _ d2)).app SLT.o
theorem jDo (hE : XJE E G) (hS : XJS S T) (h : tDo E S e s = .ok s') (I : SO (vp s)) : KA (vp s) (vp s') ∧ ∀ kn pb i a kn' j, AT s kn pb i → gDo G T e kn pb i = some (a, kn', j) → kn' = kn ∧ j = pAt s' ∧ SLT e.2.2.2.length (pMo s').toInt a := by
  unfold tDo at h
  obtain ⟨s1, h1, h⟩ := bd_inv h
  obtain ⟨s2, h2, h⟩ := bd_inv h
  obtain ⟨s3, h3, h⟩ := bd_inv h
  obtain ⟨K1, G1⟩ := jLp hS h1 I
  obtain ⟨-, -, v2⟩ := exp_inv h2
  have K2 := KA.vx v2
  obtain ⟨K3, G3⟩ := jCond hE h3 ((K1.tr K2).so I)
  obtain ⟨-, -, v4⟩ := exp_inv h
  rw [vp_em] at v4
  have K4 := KA.vx v4
  refine ⟨((K1.tr K2).tr K3).tr K4, fun kn pb i a kn' j A hg => ?_⟩
  unfold gDo at hg
  obtain ⟨b, hb, hg⟩ := Option.bind_eq_some_iff.mp hg
  obtain ⟨j1, hj1, hg⟩ := Option.bind_eq_some_iff.mp hg
  obtain ⟨c, hc, hg⟩ := Option.bind_eq_some_iff.mp hg
  obtain ⟨j2, hj2, hg⟩ := Option.bind_eq_some_iff.mp hg
  have e2 := Option.some.inj hg
  obtain ⟨-, b1, b2⟩ := G1 _ _ _ b.1 b.2.1 b.2.2 A hb
  have A2 := (A.k1 K1 b1).n1 v2
  rw [← gTok_j (i' := 0) hj1] at A2
  obtain ⟨d1, d2⟩ := G3 _ _ _ c.1 c.2 A2 hc
  have A4 := (A2.k1 K3 d1).n1 v4
  rw [← show gDoL b.1 c.1 = a from congrArg Prod.fst e2, ← show j2 = j from congrArg (fun x => x.2.2) e2, gTok_j (i' := 0) hj2]
  refine ⟨(congrArg (fun x => x.2.1) e2).symm, A4.2.2, ?_⟩
  exact (((SLT.o (t := 24)).app (SLT.rv _ _ _ (b2.m ((K2.tr K3).tr K4).2.2.2.2))).app (d2.m K4.2.2.2.2)).app SLT.o
theorem jOpt (hE : XJE E G) {q : Bool × PS} (h : tOpt E m e s = .ok q) (I : SO (vp s)) : KA (vp s) (vp q.2) ∧ ∀ kn pb i o j, AT s kn pb i → gOpt G m e kn pb i = some (o, j) → j = pAt q.2 ∧ ∀ l, o = some l → SLT e.2.2.2.length (pMo q.2).toInt l := by
  unfold tOpt at h
  by_cases c : (kd e s).toInt = m
  · rw [if_pos c] at h
    have e1 := ok_inj h
    rw [← e1]
    refine ⟨KA.rf I, fun kn pb i o j A hg => ?_⟩
    unfold gOpt at hg
    rw [if_pos (by rw [A.2.2]; exact c)] at hg
    have e2 := Option.some.inj hg
    rw [← show none = o from congrArg Prod.fst e2, ← show i = j from congrArg Prod.snd e2]
    exact ⟨A.2.2, fun l hl => nomatch hl⟩
  · rw [if_neg c] at h
    obtain ⟨s1, h1, h⟩ := bd_inv h
    have e1 := ok_inj h
    obtain ⟨K, R⟩ := (hE _ _ _ _ h1).2 I
    rw [← e1]
    refine ⟨K, fun kn pb i o j A hg => ?_⟩
    unfold gOpt at hg
    rw [if_neg (by rw [A.2.2]; exact c)] at hg
    obtain ⟨r, hr, hg⟩ := Option.bind_eq_some_iff.mp hg
    have e2 := Option.some.inj hg
    obtain ⟨b1, b2⟩ := R _ _ _ r.1 r.2 A hr
    rw [← show some r.1 = o from congrArg Prod.fst e2, ← show r.2 = j from congrArg Prod.snd e2]
    exact ⟨b1, fun l hl => by rw [← Option.some.inj hl]; exact b2⟩
theorem drop_s {o : Option (List EV)} (h : ∀ l, o = some l → SLT Z M l) : SLT Z M (dropE o) := by
  cases o with
  | none => exact SLT.nil
  | some l => exact (h l rfl).app SLT.o
theorem jFor (hE : XJE E G) (hS : XJS S T) (h : tFor E S e s = .ok s') (I : SO (vp s)) : KA (vp s) (vp s') ∧ ∀ kn pb i a kn' j, AT s kn pb i → gFor G T e kn pb i = some (a, kn', j) → kn' = kn ∧ j = pAt s' ∧ SLT e.2.2.2.length (pMo s').toInt a := by
  unfold tFor at h
  obtain ⟨s0, h0, h⟩ := bd_inv h
  obtain ⟨s1, h1, h⟩ := bd_inv h
  obtain ⟨q2, h2, h⟩ := bd_inv h
  obtain ⟨s3, h3, h⟩ := bd_inv h
  obtain ⟨q4, h4, h⟩ := bd_inv h
  obtain ⟨s5, h5, h⟩ := bd_inv h
  obtain ⟨q6, h6, h⟩ := bd_inv h
  obtain ⟨s7, h7, h⟩ := bd_inv h
  obtain ⟨s8, h8, h⟩ := bd_inv h
  have e1 := ok_inj h
  obtain ⟨-, e0⟩ := need_inv h0
  rw [e0] at h1
  obtain ⟨-, v1⟩ := open_inv h1
  have K1 := KA.vx v1
  obtain ⟨K2, G2⟩ := jOpt hE h2 (K1.so I)
  have K12 := K1.tr K2
  obtain ⟨-, -, v3⟩ := exp_inv h3
  have K3 := KA.vx v3
  have K13 := K12.tr K3
  obtain ⟨K4, G4⟩ := jOpt hE h4 (K13.so I)
  have K14 := K13.tr K4
  obtain ⟨-, -, v5⟩ := exp_inv h5
  have v5 : vp s5 = nx (vp q4.2) := by
    rw [v5]
    split
    · rw [vp_em]
    · rfl
  have K5 := KA.vx v5
  have K15 := K14.tr K5
  have w5 : vp (em 1 s5) = vp s5 := vp_em
  obtain ⟨K6, G6⟩ := jOpt hE h6 (by rw [w5]; exact K15.so I)
  rw [w5] at K6
  have K16 := K15.tr K6
  obtain ⟨-, -, v7⟩ := exp_inv h7
  have K7 := KA.vx v7
  have K17 := K16.tr K7
  have w7 : vp (em 1 (tClose s7)) = vp s7 := by rw [vp_em, vp_cl]
  obtain ⟨K8, G8⟩ := jLp hS h8 (by rw [w7]; exact K17.so I)
  rw [w7] at K8
  have vf : vp s' = vp s8 := by rw [← e1]; exact vp_em
  refine ⟨by rw [vf]; exact K17.tr K8, fun kn pb i a kn' j A hg => ?_⟩
  unfold gFor at hg
  obtain ⟨j1, hj1, hg⟩ := Option.bind_eq_some_iff.mp hg
  obtain ⟨r2, hr2, hg⟩ := Option.bind_eq_some_iff.mp hg
  obtain ⟨j3, hj3, hg⟩ := Option.bind_eq_some_iff.mp hg
  obtain ⟨r4, hr4, hg⟩ := Option.bind_eq_some_iff.mp hg
  obtain ⟨j5, hj5, hg⟩ := Option.bind_eq_some_iff.mp hg
  obtain ⟨r6, hr6, hg⟩ := Option.bind_eq_some_iff.mp hg
  obtain ⟨j7, hj7, hg⟩ := Option.bind_eq_some_iff.mp hg
  obtain ⟨r8, hr8, hg⟩ := Option.bind_eq_some_iff.mp hg
  have e2 := Option.some.inj hg
  have A1 := A.n1 v1
  rw [← gTok_j (i' := 0) hj1] at A1
  obtain ⟨b1, b2⟩ := G2 _ _ _ r2.1 r2.2 A1 hr2
  have A3 := (A1.k1 K2 b1).n1 v3
  rw [← gTok_j (i' := 0) hj3] at A3
  obtain ⟨c1, c2⟩ := G4 _ _ _ r4.1 r4.2 A3 hr4
  have A5 := (A3.k1 K4 c1).n1 v5
  rw [← gTok_j (i' := 0) hj5] at A5
  obtain ⟨d1, d2⟩ := G6 _ _ _ r6.1 r6.2 (A5.e1 w5) hr6
  have A7 := (A5.k1 K6 d1).n1 v7
  rw [← gTok_j (i' := 0) hj7] at A7
  obtain ⟨-, f1, f2⟩ := G8 _ _ _ r8.1 r8.2.1 r8.2.2 (A7.e1 w7) hr8
  have mo : pMo s' = pMo s8 := congrArg (fun x => x.2.2.2.2.2) vf
  have ao : pAt s' = pAt s8 := congrArg (fun x => x.1) vf
  rw [← show gForL (dropE r2.1) r4.1 (dropE r6.1) r8.1 = a from congrArg Prod.fst e2, ← show r8.2.2 = j from congrArg (fun x => x.2.2) e2, mo, ao]
  refine ⟨(congrArg (fun x => x.2.1) e2).symm, f1, ?_⟩
  have X2 : SLT e.2.2.2.length (pMo s8).toInt (dropE r2.1) := (drop_s b2).m (((((K3.tr K4).tr K5).tr K6).tr K7).tr K8).2.2.2.2
  have X6 : SLT e.2.2.2.length (pMo s8).toInt (dropE r6.1) := (drop_s d2).m (K7.tr K8).2.2.2.2
  have X4 : ∀ q9, SLT e.2.2.2.length (pMo s8).toInt (match r4.1 with | none => [] | some c => c ++ [fwE 16 0 q9]) := fun q9 => by
    cases h9 : r4.1 with
    | none => exact SLT.nil
    | some c => exact ((c2 c h9).m (((K5.tr K6).tr K7).tr K8).2.2.2.2).app SLT.o
  unfold gForL
  exact ((((X2.app (((SLT.o (t := 24)).app (X4 _)).app SLT.o)).app X6).app SLT.o).app (SLT.rv _ _ _ f2)).app SLT.o
end XTS
