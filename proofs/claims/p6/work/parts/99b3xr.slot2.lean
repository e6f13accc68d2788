/-! slots: calls, names, operands, signs -/
section XRE
variable {E : FE} {G : EvE} {O : FO} {H : EvO} {s s' : PS} {e : PE} {kn : List Int32} {pb i j g : Int32} {a b : List EV}
theorem vp_pb {s t : PS} (h : vp t = vp s) (x : Int32) : vp (sPb t x) = vp (sPb s x) := by
  have a1 : pAt t = pAt s := congrArg (fun x => x.1) h
  have a2 : pKn t = pKn s := congrArg (fun x => x.2.1) h
  have a3 : pKc t = pKc s := congrArg (fun x => x.2.2.1) h
  have a4 : pDu t = pDu s := congrArg (fun x => x.2.2.2.2.1) h
  have a5 : pMo t = pMo s := congrArg (fun x => x.2.2.2.2.2) h
  show ((pAt t, pKn t, pKc t, x, pDu t, pMo t) : V6) = (pAt s, pKn s, pKc s, x, pDu s, pMo s)
  rw [a1, a2, a3, a4, a5]
theorem i32_ss (x y z : Int32) : x + y - (z + y) = x - z := by
  rw [Int32.sub_eq_add_neg, Int32.neg_add, Int32.sub_eq_add_neg, Int32.sub_eq_add_neg, Int32.add_assoc]
  congr 1
  rw [Int32.add_comm y, Int32.add_assoc, Int32.add_comm (-y) y, Int32.add_right_neg, Int32.add_zero]
/-- known names kept, put by some more -/
def KBs (x y : V6) : Prop := y.2.1 = x.2.1 ∧ y.2.2.1 = x.2.2.1 ∧ SO y ∧ x.2.2.2.2.2.toInt ≤ y.2.2.2.2.2.toInt
theorem jArgs (hE : XJE E G) : ∀ (f : Nat) (k : Int32) (s : PS) (q : Int32 × PS), tArgs E f k e s = .ok q → SO (vp s) → KBs (vp s) (vp q.2) ∧ pPb q.2 - q.1 = pPb s - k ∧ ∀ z kn pb i n a j, AT s kn pb i → gArgs G f z e kn pb i = some (n, a, j) → j = pAt q.2 ∧ SLT e.2.2.2.length (pMo q.2).toInt a
  | 0, _, _, _, h, _ => by cases h
  | f + 1, k, s, q, h, I => by
    obtain ⟨s1, h1, h⟩ := bd_inv h
    obtain ⟨d0, R1⟩ := hE _ _ _ _ h1
    obtain ⟨w1, w2, K0, at0⟩ := due_inv I d0
    obtain ⟨K1, G1⟩ := R1 (K0.so I)
    have K01 := K0.tr K1
    have I1 := K01.so I
    have pe : pPb s1 = pPb s := K01.2.2.1
    have ce : pKc s1 = pKc s := K01.2.1
    have m01 : (pMo (tDue k s)).toInt ≤ (pMo s1).toInt := K1.2.2.2.2
    have ms1 : (pMo s).toInt ≤ (pMo s1).toInt := K01.2.2.2.2
    obtain ⟨t, ht⟩ : ∃ t, t = sPb (em 1 s1) (pPb s1 + 1) := ⟨_, rfl⟩
    have h : (if (kd e (sPb (em 1 s1) (pPb s1 + 1))).toInt = 37 then bd (tTake e (sPb (em 1 s1) (pPb s1 + 1))) (tArgs E f (k + 1) e) else .ok (k + 1, sPb (em 1 s1) (pPb s1 + 1))) = .ok q := h
    rw [← ht] at h
    have vt : vp t = vp (sPb s1 (pPb s1 + 1)) := by rw [ht]; exact vp_pb vp_em _
    have It : SO (vp t) := by
      rw [vt]
      exact I1.pm (n := 1) (by rw [ce, pe]; exact w1) (by decide) (by decide)
    have tk : pKn t = pKn s := by
      have : pKn t = pKn s1 := congrArg (fun x => x.2.1) vt
      rw [this]; exact K01.1
    have tc : pKc t = pKc s := by
      have : pKc t = pKc s1 := congrArg (fun x => x.2.2.1) vt
      rw [this]; exact ce
    have tm : pMo t = pMo s1 := congrArg (fun x => x.2.2.2.2.2) vt
    have ta : pAt t = pAt s1 := congrArg (fun x => x.1) vt
    have tp : pPb t = pPb s + 1 := by
      have : pPb t = pPb s1 + 1 := congrArg (fun x => x.2.2.2.1) vt
      rw [this, pe]
    have go : ∀ z kn pb i n a j, AT s kn pb i → gArgs G (f + 1) z e kn pb i = some (n, a, j) → ∃ a1 j1, j1 = pAt t ∧ SLT e.2.2.2.length (pMo s1).toInt a1 ∧ (gsl kn pb).toInt < (pMo s1).toInt ∧ AT t kn (pb + 1) j1 ∧ (if (e.1 j1).toInt = 37 then (gArgs G f (z + 1) e kn (pb + 1) (j1 + 1)).bind fun r => some (r.1, a1 ++ [evx 4 (gsl kn pb) 0] ++ r.2.1, r.2.2) else some (z + 1, a1 ++ [evx 4 (gsl kn pb) 0], j1)) = some (n, a, j) := by
      intro z kn pb i n a j A hg
      obtain ⟨r, hr, hg⟩ := Option.bind_eq_some_iff.mp hg
      obtain ⟨b1, b2⟩ := G1 _ _ _ r.1 r.2 (A.k1 K0 (by rw [at0]; exact A.2.2)) hr
      have gs := gsl_i I A
      refine ⟨r.1, r.2, by rw [ta]; exact b1, b2, by omega, ⟨by rw [tk]; exact A.1, by rw [tp, A.2.1], by rw [ta]; exact b1⟩, hg⟩
    by_cases c : (kd e t).toInt = 37
    · rw [if_pos c] at h
      obtain ⟨s2, h2, h⟩ := bd_inv h
      obtain ⟨-, v2⟩ := take_inv h2
      have K2 := KA.vx v2
      obtain ⟨R1, R2, R3⟩ := jArgs hE f (k + 1) s2 q h (K2.so It)
      have p2 : pPb s2 = pPb t := K2.2.2.1
      have m2 : pMo s2 = pMo t := congrArg (fun x => x.2.2.2.2.2) v2
      have mq : (pMo s2).toInt ≤ (pMo q.2).toInt := R1.2.2.2
      rw [m2, tm] at mq
      refine ⟨⟨?_, ?_, R1.2.2.1, ?_⟩, ?_, ?_⟩
      · show pKn q.2 = pKn s
        rw [show pKn q.2 = pKn s2 from R1.1, show pKn s2 = pKn t from K2.1, tk]
      · show pKc q.2 = pKc s
        rw [show pKc q.2 = pKc s2 from R1.2.1, show pKc s2 = pKc t from K2.2.1, tc]
      · show (pMo s).toInt ≤ (pMo q.2).toInt
        omega
      · rw [R2, p2, tp, i32_ss]
      · intro z kn pb i n a j A hg
        obtain ⟨a1, j1, ej, S1, gs, B, hg⟩ := go z kn pb i n a j A hg
        rw [if_pos (by rw [ej]; exact c)] at hg
        obtain ⟨r, hr, hg⟩ := Option.bind_eq_some_iff.mp hg
        have e2 := Option.some.inj hg
        have el : a1 ++ [evx 4 (gsl kn pb) 0] ++ r.2.1 = a := congrArg (fun x => x.2.1) e2
        have e3 : r.2.2 = j := congrArg (fun x => x.2.2) e2
        obtain ⟨b1, b2⟩ := R3 _ _ _ _ r.1 r.2.1 r.2.2 (B.n1 v2) hr
        rw [← el, ← e3]
        exact ⟨b1, ((S1.m mq).app (SLT.k4 (by omega))).app b2⟩
    · rw [if_neg c] at h
      have eq := ok_inj h
      rw [← eq]
      refine ⟨⟨tk, tc, It, ?_⟩, ?_, ?_⟩
      · show (pMo s).toInt ≤ (pMo t).toInt
        rw [tm]; omega
      · show pPb t - (k + 1) = _
        rw [tp, i32_ss]
      · intro z kn pb i n a j A hg
        obtain ⟨a1, j1, ej, S1, gs, B, hg⟩ := go z kn pb i n a j A hg
        rw [if_neg (by rw [ej]; exact c)] at hg
        have e2 := Option.some.inj hg
        have el : a1 ++ [evx 4 (gsl kn pb) 0] = a := congrArg (fun x => x.2.1) e2
        have e3 : j1 = j := congrArg (fun x => x.2.2) e2
        rw [← el, ← e3]
        show j1 = pAt t ∧ SLT e.2.2.2.length (pMo t).toInt _
        rw [tm]
        exact ⟨ej, S1.app (SLT.k4 gs)⟩
theorem jCall (hE : XJE E G) (h : tCall E e s = .ok s') : pDu s = false ∧ (SO (vp s) → KA (vp s) (vp s') ∧ ∀ kn pb i a j, AT s kn pb i → gCall G e kn pb i = some (a, j) → j = pAt s' ∧ SLT e.2.2.2.length (pMo s').toInt a) := by
  unfold tCall at h
  obtain ⟨s1, h1, h⟩ := bd_inv h
  obtain ⟨s2, h2, h⟩ := bd_inv h
  obtain ⟨q, h3, h⟩ := bd_inv h
  obtain ⟨s3, h4, h⟩ := bd_inv h
  have e1 := ok_inj h
  obtain ⟨d1, v1⟩ := take_inv h1
  rw [vp_add] at v1
  have d1 : pDu s = false := by
    have : pDu (tAddCall (vl e s) (pl e s) s) = pDu s := congrArg (fun x => x.2.2.2.2.1) (vp_add (k := vl e s) (y := pl e s) (s := s))
    rw [← this]; exact d1
  refine ⟨d1, fun I => ?_⟩
  obtain ⟨-, v2⟩ := open_inv h2
  have K1 := KA.vx v1
  have K2 := KA.vx v2
  have K12 := K1.tr K2
  have I2 := K12.so I
  obtain ⟨-, -, v4⟩ := exp_inv h4
  have R : KBs (vp s2) (vp q.2) ∧ pPb q.2 - q.1 = pPb s2 - 0 ∧ ∀ kn pb i n a j, AT s2 kn pb i → (if (e.1 i).toInt = 31 then some (0, [], i) else gArgs G 1502 0 e kn pb i) = some (n, a, j) → j = pAt q.2 ∧ SLT e.2.2.2.length (pMo q.2).toInt a := by
    by_cases c : (kd e s2).toInt = 31
    · rw [if_pos c] at h3
      have eq := ok_inj h3
      rw [← eq]
      refine ⟨⟨rfl, rfl, I2, Int.le_refl _⟩, rfl, fun kn pb i n a j A hg => ?_⟩
      rw [if_pos (by rw [A.2.2]; exact c)] at hg
      have e2 := Option.some.inj hg
      have el : [] = a := congrArg (fun x => x.2.1) e2
      have e3 : i = j := congrArg (fun x => x.2.2) e2
      rw [← el, ← e3]
      exact ⟨A.2.2, SLT.nil⟩
    · rw [if_neg c] at h3
      obtain ⟨R1, R2, R3⟩ := jArgs hE 1502 0 s2 q h3 I2
      refine ⟨R1, R2, fun kn pb i n a j A hg => ?_⟩
      rw [if_neg (by rw [A.2.2]; exact c)] at hg
      exact R3 _ _ _ _ _ _ _ A hg
  obtain ⟨R1, R2, R3⟩ := R
  have vf : vp s' = ((pAt s3, pKn s3, pKc s3, pPb s3 - q.1, pDu s3, pMo s3) : V6) := by rw [← e1, vp_ec]; rfl
  have q3 : pPb s3 = pPb q.2 := congrArg (fun x => x.2.2.2.1) v4
  have m3 : pMo s3 = pMo q.2 := congrArg (fun x => x.2.2.2.2.2) v4
  have a3 : pAt s3 = pAt q.2 + 1 := congrArg (fun x => x.1) v4
  have af : pAt s' = pAt s3 := congrArg (fun x => x.1) vf
  have mf : pMo s' = pMo q.2 := by
    have : pMo s' = pMo s3 := congrArg (fun x => x.2.2.2.2.2) vf
    rw [this, m3]
  have kf : pKn s' = pKn s := by
    have : pKn s' = pKn s3 := congrArg (fun x => x.2.1) vf
    rw [this, show pKn s3 = pKn q.2 from congrArg (fun x => x.2.1) v4, show pKn q.2 = pKn s2 from R1.1]
    exact K12.1
  have cf : pKc s' = pKc s := by
    have : pKc s' = pKc s3 := congrArg (fun x => x.2.2.1) vf
    rw [this, show pKc s3 = pKc q.2 from congrArg (fun x => x.2.2.1) v4, show pKc q.2 = pKc s2 from R1.2.1]
    exact K12.2.1
  have pf : pPb s' = pPb s := by
    have : pPb s' = pPb s3 - q.1 := congrArg (fun x => x.2.2.2.1) vf
    rw [this, q3, R2, Int32.sub_zero]
    exact K12.2.2.1
  have df : pDu s' = false := by
    have : pDu s' = pDu s3 := congrArg (fun x => x.2.2.2.2.1) vf
    rw [this]; exact congrArg (fun x => x.2.2.2.2.1) v4
  have mm : (pMo s2).toInt ≤ (pMo q.2).toInt := R1.2.2.2
  have mm2 : (pMo s).toInt ≤ (pMo s2).toInt := K12.2.2.2.2
  refine ⟨⟨kf, cf, pf, ⟨df, fun _ => by show (pMo s').toInt ≤ 500; rw [mf]; exact R1.2.2.1.1.2⟩, by show (pMo s).toInt ≤ (pMo s').toInt; rw [mf]; omega⟩, fun kn pb i a j A hg => ?_⟩
  unfold gCall at hg
  obtain ⟨r, hr, hg⟩ := Option.bind_eq_some_iff.mp hg
  obtain ⟨j1, hj, hg⟩ := Option.bind_eq_some_iff.mp hg
  have e2 := Option.some.inj hg
  have el : _ = a := congrArg Prod.fst e2
  have ej : j1 = j := congrArg Prod.snd e2
  have i2 : i + 1 + 1 = i + 2 := by rw [Int32.add_assoc]; rfl
  have B := (A.n1 v1).n1 v2
  rw [i2] at B
  obtain ⟨b1, b2⟩ := R3 _ _ _ r.1 r.2.1 r.2.2 B hr
  rw [← el, ← ej, mf, af, a3, gTok_j (i' := 0) hj, b1]
  exact ⟨rfl, b2.app SLT.o⟩
theorem jNamed (hE : XJE E G) {st : Bool} {q : Bool × PS} (h : tNamed E st e s = .ok q) : pDu s = false ∧ (SO (vp s) → KA (vp s) (vp q.2) ∧ ∀ kn pb i b a j, AT s kn pb i → gNamed G st e kn pb i = some (b, a, j) → b = q.1 ∧ j = pAt q.2 ∧ SLT e.2.2.2.length (pMo q.2).toInt a) := by
  unfold tNamed at h
  obtain ⟨sl, hsl⟩ : ∃ sl, sl = decide (0 ≤ fnd (pKn s) (vl e s)) := ⟨_, rfl⟩
  obtain ⟨g, hgd⟩ : ∃ g, g = if sl = true then none else gfd e (vl e s) := ⟨_, rfl⟩
  obtain ⟨row, hrow⟩ : ∃ row, row = decide (g = some 1) := ⟨_, rfl⟩
  have h : (if (kb e s).toInt = 30 then (if sl = true ∨ g ≠ none then .error (3, pl e s) else bd (tCall E e s) fun s => .ok (false, s))
    else if (sl = false ∧ g = none) ∨ row ≠ decide ((kb e s).toInt = 34) then .error (3, pl e s)
    else bd (tTake e s) fun s => bd (if row = true then tIndex E e s else .ok s) fun s =>
      if st = true ∧ (42 : Int) ≤ (kd e s).toInt ∧ (kd e s).toInt ≤ 52 then bd (tChange E row sl e s) fun s => .ok (true, s)
      else .ok (false, em (if row = true then 1 else vsz sl) s)) = .ok q := by
    rw [hrow, hgd, hsl]
    exact h
  by_cases c : (kb e s).toInt = 30
  · rw [if_pos c] at h
    by_cases c2 : sl = true ∨ g ≠ none
    · rw [if_pos c2] at h; cases h
    rw [if_neg c2] at h
    obtain ⟨s1, h1, h⟩ := bd_inv h
    have eq := ok_inj h
    obtain ⟨d1, R⟩ := jCall hE h1
    refine ⟨d1, fun I => ?_⟩
    obtain ⟨K, R⟩ := R I
    rw [← eq]
    refine ⟨K, fun kn pb i b a j A hg => ?_⟩
    unfold gNamed at hg
    have hg : (if (e.1 (i + 1)).toInt = 30 then (gCall G e kn pb i).bind fun q => some (false, q) else _) = some (b, a, j) := hg
    rw [if_pos (by rw [A.2.2]; exact c)] at hg
    obtain ⟨r, hr, hg⟩ := Option.bind_eq_some_iff.mp hg
    have e2 := Option.some.inj hg
    have eb : false = b := congrArg Prod.fst e2
    have er : r = (a, j) := congrArg Prod.snd e2
    rw [er] at hr
    obtain ⟨b1, b2⟩ := R _ _ _ a j A hr
    exact ⟨eb.symm, b1, b2⟩
  rw [if_neg c] at h
  by_cases c2 : (sl = false ∧ g = none) ∨ row ≠ decide ((kb e s).toInt = 34)
  · rw [if_pos c2] at h; cases h
  rw [if_neg c2] at h
  obtain ⟨s1, h1, h⟩ := bd_inv h
  obtain ⟨s2, h2, h⟩ := bd_inv h
  obtain ⟨d1, v1⟩ := take_inv h1
  refine ⟨d1, fun I => ?_⟩
  have K1 := KA.vx v1
  have I1 := K1.so I
  have R2 : KA (vp s1) (vp s2) ∧ ∀ kn pb i a j g9, AT s1 kn pb i → (if row = true then gIndex G g9 e kn pb i else some ([], i)) = some (a, j) → j = pAt s2 ∧ SLT e.2.2.2.length (pMo s2).toInt a := by
    cases row with
    | true =>
      obtain ⟨X, Y⟩ := jIndex hE h2 I1
      exact ⟨X, fun kn pb i a j g9 A hg => Y _ _ _ _ _ _ A hg⟩
    | false =>
      have eq := ok_inj h2
      rw [← eq]
      refine ⟨KA.rf I1, fun kn pb i a j g9 A hg => ?_⟩
      have e2 := Option.some.inj hg
      have el : [] = a := congrArg Prod.fst e2
      have e3 : i = j := congrArg Prod.snd e2
      rw [← el, ← e3]
      exact ⟨A.2.2, SLT.nil⟩
  obtain ⟨K2, R2⟩ := R2
  have K12 := K1.tr K2
  have I2 := K12.so I
  have rw9 : ∀ kn pb i, AT s kn pb i → decide (fnd kn (e.2.1 i) < 0 ∧ gfd e (e.2.1 i) = some 1) = row := fun kn pb i A => by
    rw [A.1, A.2.2, hrow, hgd, hsl]
    show decide (fnd (pKn s) (vl e s) < 0 ∧ gfd e (vl e s) = some 1) = decide ((if decide (0 ≤ fnd (pKn s) (vl e s)) = true then none else gfd e (vl e s)) = some 1)
    by_cases z : 0 ≤ fnd (pKn s) (vl e s)
    · rw [if_pos (decide_eq_true z)]
      rw [decide_eq_false (by omega : ¬ (fnd (pKn s) (vl e s) < 0 ∧ _)), decide_eq_false (by exact fun w => nomatch w)]
    · rw [if_neg (by rw [decide_eq_false z]; exact Bool.false_ne_true)]
      by_cases y : gfd e (vl e s) = some 1
      · rw [decide_eq_true y, decide_eq_true ⟨by omega, y⟩]
      · rw [decide_eq_false y, decide_eq_false (fun w => y w.2)]
  have go : ∀ kn pb i b a j, AT s kn pb i → gNamed G st e kn pb i = some (b, a, j) → ∃ a1 j1 sn g9 n9, (n9 ≤ e.2.2.2.length ∧ g9 = nI n9) ∧ j1 = pAt s2 ∧ SLT e.2.2.2.length (pMo s2).toInt a1 ∧ AT s2 kn pb j1 ∧ (if st = true ∧ (42 : Int) ≤ (e.1 j1).toInt ∧ (e.1 j1).toInt ≤ 52 then (gChange G row sn g9 e kn pb j1).bind fun r => some (true, a1 ++ r.1, r.2) else some (false, a1 ++ [if row = true then evx 8 g9 0 else gRead sn g9], j1)) = some (b, a, j) := by
    intro kn pb i b a j A hg
    unfold gNamed at hg
    have hg : (if (e.1 (i + 1)).toInt = 30 then (gCall G e kn pb i).bind fun q => some (false, q) else (if decide (fnd kn (e.2.1 i) < 0 ∧ gfd e (e.2.1 i) = some 1) = true then gIndex G (nI (gix e (e.2.1 i))) e kn pb (i + 1) else some ([], i + 1)).bind fun q => if st = true ∧ (42 : Int) ≤ (e.1 q.2).toInt ∧ (e.1 q.2).toInt ≤ 52 then (gChange G (decide (fnd kn (e.2.1 i) < 0 ∧ gfd e (e.2.1 i) = some 1)) (fnd kn (e.2.1 i)) (nI (gix e (e.2.1 i))) e kn pb q.2).bind fun r => some (true, q.1 ++ r.1, r.2) else some (false, q.1 ++ [if decide (fnd kn (e.2.1 i) < 0 ∧ gfd e (e.2.1 i) = some 1) = true then evx 8 (nI (gix e (e.2.1 i))) 0 else gRead (fnd kn (e.2.1 i)) (nI (gix e (e.2.1 i)))], q.2)) = some (b, a, j) := hg
    rw [rw9 kn pb i A, if_neg (by rw [A.2.2]; exact c)] at hg
    obtain ⟨r, hr, hg⟩ := Option.bind_eq_some_iff.mp hg
    obtain ⟨b1, b2⟩ := R2 _ _ _ r.1 r.2 _ (A.n1 v1) hr
    exact ⟨r.1, r.2, _, _, _, ⟨gix_le, rfl⟩, b1, b2, A.k1 K12 b1, hg⟩
  by_cases c3 : st = true ∧ (42 : Int) ≤ (kd e s2).toInt ∧ (kd e s2).toInt ≤ 52
  · rw [if_pos c3] at h
    obtain ⟨s3, h3, h⟩ := bd_inv h
    have eq := ok_inj h
    obtain ⟨K3, R3⟩ := jChange hE c3.2 h3 I2
    rw [← eq]
    refine ⟨K12.tr K3, fun kn pb i b a j A hg => ?_⟩
    obtain ⟨a1, j1, sn, g9, n9, hn9, ej, S1, B, hg⟩ := go kn pb i b a j A hg
    rw [if_pos (by rw [ej]; exact c3)] at hg
    obtain ⟨r, hr, hg⟩ := Option.bind_eq_some_iff.mp hg
    have e2 := Option.some.inj hg
    have eb : true = b := congrArg Prod.fst e2
    have el : a1 ++ r.1 = a := congrArg (fun x => x.2.1) e2
    have e3 : r.2 = j := congrArg (fun x => x.2.2) e2
    obtain ⟨b1, b2⟩ := R3 _ _ _ r.1 r.2 _ _ _ hn9.1 hn9.2 B hr
    rw [← el, ← e3]
    exact ⟨eb.symm, b1, (S1.m K3.2.2.2.2).app b2⟩
  · rw [if_neg c3] at h
    have eq := ok_inj h
    rw [← eq]
    have ve : vp (em (if row = true then 1 else vsz sl) s2) = vp s2 := vp_em
    refine ⟨by show KA (vp s) (vp (em _ s2)); rw [ve]; exact K12, fun kn pb i b a j A hg => ?_⟩
    obtain ⟨a1, j1, sn, g9, n9, hn9, ej, S1, B, hg⟩ := go kn pb i b a j A hg
    rw [if_neg (by rw [ej]; exact c3)] at hg
    have e2 := Option.some.inj hg
    have eb : false = b := congrArg Prod.fst e2
    have el : a1 ++ [if row = true then evx 8 g9 0 else gRead sn g9] = a := congrArg (fun x => x.2.1) e2
    have e3 : j1 = j := congrArg (fun x => x.2.2) e2
    have me : pMo (em (if row = true then 1 else vsz sl) s2) = pMo s2 := congrArg (fun x => x.2.2.2.2.2) ve
    have ae : pAt (em (if row = true then 1 else vsz sl) s2) = pAt s2 := congrArg (fun x => x.1) ve
    rw [← el, ← e3]
    show b = false ∧ j1 = pAt (em _ s2) ∧ SLT e.2.2.2.length (pMo (em _ s2)).toInt _
    rw [me, ae]
    refine ⟨eb.symm, ej, S1.app ?_⟩
    cases row with
    | true => exact SLT.o
    | false =>
      exact slt_rd hn9.1 hn9.2
end XRE
