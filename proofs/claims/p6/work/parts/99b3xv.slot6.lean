/-! slots: functions, the text -/
section XVS
variable {s s' s1 : PS} {e : PE} {kn : List Int32} {pb i j g : Int32} {a b : List EV} {M m : Int}
theorem jParam (h : tParam e s = .ok s') (I : SO (vp s)) : KZs (vp s) (vp s') ∧ pKn s' = pKn s ++ [e.2.1 (pAt s + 1)] ∧ pAt s' = pAt s + 1 + 1 := by
  unfold tParam at h
  obtain ⟨s1, h1, h⟩ := bd_inv h
  obtain ⟨s2, h2, h⟩ := bd_inv h
  obtain ⟨-, -, v1⟩ := exp_inv h1
  have e2 := new_inv h2
  rw [e2] at h
  have h : (if (8 : Int) ≤ (pKc s1).toInt then .error (5, pl e s1) else bd (tWant 1 e s1) fun s => bd (tTake e s) fun s => .ok (tLearn (vl e s1) s)) = .ok s' := h
  by_cases c : (8 : Int) ≤ (pKc s1).toInt
  · rw [if_pos c] at h; cases h
  rw [if_neg c] at h
  obtain ⟨s3, h3, h⟩ := bd_inv h
  obtain ⟨s4, h4, h⟩ := bd_inv h
  have e1 := ok_inj h
  have K1 := KA.vx v1
  have I1 := K1.so I
  obtain ⟨w1, w2, K3, at3⟩ := want_inv h3 I1 (by decide) (by decide)
  have o1 : (1 : Int32).toInt = 1 := by decide
  rw [o1] at w1
  obtain ⟨-, v4⟩ := take_inv h4
  have K4 := KA.vx v4
  have K14 := (K1.tr K3).tr K4
  have kc4 : pKc s4 = pKc s1 := (K3.tr K4).2.1
  have pb4 : pPb s4 = pPb s1 := (K3.tr K4).2.2.1
  obtain ⟨L1, L2, L3, L4⟩ := learn_v (x := vl e s1) (K14.so I) (by rw [kc4, pb4]; exact w1)
  rw [e1] at L1 L2 L3
  have a1 : pAt s1 = pAt s + 1 := congrArg (fun x => x.1) v1
  have a4 : pAt s4 = pAt s3 + 1 := congrArg (fun x => x.1) v4
  refine ⟨(K14.zz I).tr L1, ?_, by rw [L3, a4, at3, a1]⟩
  rw [L2, show pKn s4 = pKn s from K14.1]
  show pKn s ++ [e.2.1 (pAt s1)] = _
  rw [a1]
theorem jMore : ∀ (f : Nat) (s s1 s' : PS), tParam e s = .ok s1 → tMoreP f e s1 = .ok s' → SO (vp s) → KZs (vp s) (vp s') ∧ ∀ f9 kn i q, kn = pKn s → i = pAt s → gPars f9 e kn i = some q → q.1 = pKn s' ∧ q.2 = pAt s'
  | 0, _, _, _, _, h, _ => by cases h
  | f + 1, s, s1, s', h0, h, I => by
    obtain ⟨Z0, n0, a0⟩ := jParam h0 I
    have h : (if (kd e s1).toInt = 37 then bd (tTake e s1) fun s => bd (tParam e s) (tMoreP f e) else .ok s1) = .ok s' := h
    have go : ∀ f9 kn i q, kn = pKn s → i = pAt s → gPars f9 e kn i = some q → ∃ f8, (if (e.1 (pAt s1)).toInt = 37 then gPars f8 e (pKn s1) (pAt s1 + 1) else some (pKn s1, pAt s1)) = some q := by
      intro f9 kn i q hk hi hg
      cases f9 with
      | zero => cases hg
      | succ f8 =>
        have hg : (gTok e 10 i).bind (fun j => if (e.1 (j + 1)).toInt = 37 then gPars f8 e (kn ++ [e.2.1 j]) (j + 1 + 1) else some (kn ++ [e.2.1 j], j + 1)) = some q := hg
        obtain ⟨j, hj, hg⟩ := Option.bind_eq_some_iff.mp hg
        rw [gTok_j (i' := 0) hj, hk, hi, ← n0, ← a0] at hg
        exact ⟨f8, hg⟩
    by_cases c : (kd e s1).toInt = 37
    · rw [if_pos c] at h
      obtain ⟨s2, h2, h⟩ := bd_inv h
      obtain ⟨s3, h3, h⟩ := bd_inv h
      obtain ⟨-, v2⟩ := take_inv h2
      have K2 := KA.vx v2
      obtain ⟨Z3, R3⟩ := jMore f s2 s3 s' h3 h (K2.so Z0.1)
      refine ⟨(Z0.tr (K2.zz Z0.1)).tr Z3, fun f9 kn i q hk hi hg => ?_⟩
      obtain ⟨f8, hg⟩ := go f9 kn i q hk hi hg
      rw [if_pos (show (e.1 (pAt s1)).toInt = 37 from c)] at hg
      exact R3 f8 _ _ q (K2.1 : pKn s2 = pKn s1).symm (show pAt s1 + 1 = pAt s2 from (congrArg (fun x => x.1) v2).symm) hg
    · rw [if_neg c] at h
      have e1 := ok_inj h
      rw [← e1]
      refine ⟨Z0, fun f9 kn i q hk hi hg => ?_⟩
      obtain ⟨f8, hg⟩ := go f9 kn i q hk hi hg
      rw [if_neg (show ¬ (e.1 (pAt s1)).toInt = 37 from c)] at hg
      have e9 := Option.some.inj hg
      rw [← e9]
      exact ⟨rfl, rfl⟩
theorem jParams (h : tParams e s = .ok s') (I : SO (vp s)) (k0 : pKn s = []) : KZs (vp s) (vp s') ∧ ∀ i q, i = pAt s → gParams e i = some q → q.1 = pKn s' ∧ q.2 = pAt s' := by
  unfold tParams at h
  obtain ⟨s1, h1, h⟩ := bd_inv h
  obtain ⟨s2, h2, h⟩ := bd_inv h
  obtain ⟨s3, h3, h⟩ := bd_inv h
  have e1 := ok_inj h
  obtain ⟨-, v1⟩ := open_inv h1
  have K1 := KA.vx v1
  have I1 := K1.so I
  have a1 : pAt s1 = pAt s + 1 := congrArg (fun x => x.1) v1
  have k1 : pKn s1 = [] := by rw [show pKn s1 = pKn s from K1.1]; exact k0
  have R : KZs (vp s1) (vp s2) ∧ ∀ q, (if (e.1 (pAt s1)).toInt = 31 then some ([], pAt s1) else gPars 1502 e [] (pAt s1)) = some q → q.1 = pKn s2 ∧ q.2 = pAt s2 := by
    by_cases c : (kd e s1).toInt = 31
    · rw [if_pos c] at h2
      have e2 := ok_inj h2
      rw [← e2]
      refine ⟨(KA.rf I1).zz I1, fun q hg => ?_⟩
      rw [if_pos (show (e.1 (pAt s1)).toInt = 31 from c)] at hg
      rw [← Option.some.inj hg]
      exact ⟨k1.symm, rfl⟩
    · rw [if_neg c] at h2
      obtain ⟨s9, h9, h2⟩ := bd_inv h2
      obtain ⟨Z, R⟩ := jMore 1502 s1 s9 s2 h9 h2 I1
      refine ⟨Z, fun q hg => ?_⟩
      rw [if_neg (show ¬ (e.1 (pAt s1)).toInt = 31 from c)] at hg
      exact R 1502 _ _ q k1.symm rfl hg
  obtain ⟨Z2, R2⟩ := R
  obtain ⟨-, -, v3⟩ := exp_inv h3
  have K3 := KA.vx v3
  rw [← e1]
  refine ⟨((K1.zz I).tr Z2).tr (K3.zz Z2.1), fun i q hi hg => ?_⟩
  unfold gParams at hg
  obtain ⟨r, hr, hg⟩ := Option.bind_eq_some_iff.mp hg
  obtain ⟨j, hj, hg⟩ := Option.bind_eq_some_iff.mp hg
  rw [hi, ← a1] at hr
  obtain ⟨b1, b2⟩ := R2 r hr
  rw [← Option.some.inj hg]
  refine ⟨?_, ?_⟩
  · show r.1 = pKn s3
    rw [b1]; exact (K3.1 : pKn s3 = pKn s2).symm
  · show j = pAt s3
    rw [gTok_j (i' := 0) hj, b2]
    exact (congrArg (fun x => x.1) v3).symm
/-- a function of the reading and its events: parameters, the frame holds all slots -/
def FNR (Z : Nat) (p fr : Int32) (g : List Int32 × List EV) : Prop := p.toInt = (g.1.length : Int) ∧ ∃ M : Int32, fr = 8 + 4 * M ∧ 0 ≤ M.toInt ∧ M.toInt ≤ 500 ∧ SLT Z M.toInt g.2
theorem jFunc {q : PS × Int32 × Int32 × Int32} {r : List Int32 × List EV × Int32} (h : tFunc SP e s = .ok q) (hg : gFunc EvSP e (pAt s) = some r) : FNR e.2.2.2.length q.2.1 q.2.2.1 (r.1, r.2.1) := by
  unfold tFunc at h
  obtain ⟨s1, h1, h⟩ := bd_inv h
  obtain ⟨s2, h2, h⟩ := bd_inv h
  obtain ⟨s3, h3, h⟩ := bd_inv h
  have e1 := ok_inj h
  obtain ⟨-, v1⟩ := take_inv h1
  have v1 : vp s1 = ((pAt s + 1, [], 0, 0, false, 0) : V6) := v1
  have z0 : (0 : Int32).toInt = 0 := by decide
  have I1 : SO (vp s1) := by
    rw [v1]
    refine ⟨⟨rfl, ?_⟩, z0, ?_, ?_⟩
    · show (0 : Int32).toInt ≤ 500; decide
    · show 0 ≤ (0 : Int32).toInt; decide
    · show (0 : Int32).toInt + (0 : Int32).toInt ≤ 500; decide
  obtain ⟨Z2, R2⟩ := jParams h2 I1 (congrArg (fun x => x.2.1) v1)
  have w2 : vp (sLo (em (9 + 2 * pKc s2) s2) false) = vp s2 := vp_em
  unfold tBody at h3
  obtain ⟨s4, h4, h3⟩ := bd_inv h3
  obtain ⟨s5, h5, h3⟩ := bd_inv h3
  obtain ⟨s6, h6, h3⟩ := bd_inv h3
  obtain ⟨s7, h7, h3⟩ := bd_inv h3
  have e3 := ok_inj h3
  obtain ⟨-, e4⟩ := need_inv h4
  rw [e4] at h5
  obtain ⟨-, v5⟩ := open_inv h5
  rw [w2] at v5
  have K5 := KA.vx v5
  obtain ⟨Z6, R6⟩ := jStats jSP 1502 s5 s6 h6 (K5.so Z2.1)
  obtain ⟨-, -, v7⟩ := exp_inv h7
  have vf : vp s3 = vp s7 := by rw [← e3, vp_em, vp_em, vp_cl]
  have mf : pMo s3 = pMo s6 := by
    rw [show pMo s3 = pMo s7 from congrArg (fun x => x.2.2.2.2.2) vf]
    exact congrArg (fun x => x.2.2.2.2.2) v7
  unfold gFunc at hg
  obtain ⟨p, hp, hg⟩ := Option.bind_eq_some_iff.mp hg
  obtain ⟨j1, hj1, hg⟩ := Option.bind_eq_some_iff.mp hg
  obtain ⟨b, hb, hg⟩ := Option.bind_eq_some_iff.mp hg
  obtain ⟨j2, hj2, hg⟩ := Option.bind_eq_some_iff.mp hg
  have er := Option.some.inj hg
  obtain ⟨p1, p2⟩ := R2 _ p (congrArg (fun x => x.1) v1).symm hp
  have pb2 : pPb s2 = 0 := by
    rw [show pPb s2 = pPb s1 from Z2.2.1]
    exact congrArg (fun x => x.2.2.2.1) v1
  have A2 : AT s2 p.1 0 p.2 := ⟨p1, pb2.symm, p2⟩
  have A5 := A2.n1 v5
  rw [← gTok_j (i' := 0) hj1] at A5
  obtain ⟨-, -, b2⟩ := R6 _ _ _ b.1 b.2.1 b.2.2 A5 hb
  have kc2 : (pKc s2).toInt = ((pKn s2).length : Int) := Z2.1.2.1
  have m1 : pMo s1 = 0 := congrArg (fun x => x.2.2.2.2.2) v1
  have m12 : (pMo s1).toInt ≤ (pMo s2).toInt := Z2.2.2.2
  have m25 : (pMo s2).toInt ≤ (pMo s5).toInt := K5.2.2.2.2
  have m56 : (pMo s5).toInt ≤ (pMo s6).toInt := Z6.2.2.2
  rw [m1, z0] at m12
  rw [← e1, ← er]
  refine ⟨?_, pMo s3, rfl, ?_, ?_, ?_⟩
  · show (pKc s2).toInt = ((p.1).length : Int)
    rw [p1]; exact kc2
  · rw [mf]; omega
  · rw [mf]; exact Z6.1.1.2
  · rw [mf]; exact b2
variable {K : TK}
theorem head_inv {x y : IS} (h : tHead K x = .ok y) : y.2 = x.2 ∧ pAt y.1 = pAt x.1 + 1 := by
  unfold tHead at h
  obtain ⟨s1, h1, h⟩ := bd_inv h
  obtain ⟨s2, h2, h⟩ := bd_inv h
  obtain ⟨-, -, v1⟩ := exp_inv h1
  obtain ⟨-, e2⟩ := need_inv h2
  have a1 : pAt s1 = pAt x.1 + 1 := congrArg (fun x => x.1) v1
  split at h
  · cases h
  · have e1 := ok_inj h
    rw [← e1]
    exact ⟨rfl, by show pAt s2 = _; rw [e2]; exact a1⟩
theorem SLT.z {Z Z' : Nat} (h : SLT Z M a) (k : Z ≤ Z') : SLT Z' M a := fun q hq => ⟨(h q hq).1, (h q hq).2.1, fun c => by obtain ⟨n, n1, n2⟩ := (h q hq).2.2.1 c; exact ⟨n, by omega, n2⟩, (h q hq).2.2.2⟩
theorem FNR.z {Z Z' : Nat} {p fr : Int32} {g : List Int32 × List EV} (h : FNR Z p fr g) (k : Z ≤ Z') : FNR Z' p fr g := by
  obtain ⟨a, M, b, c, d, e⟩ := h
  exact ⟨a, M, b, c, d, e.z k⟩
theorem jItem {x y : IS} (h : tItem SP K x = .ok y) : y.2.2.length ≤ x.2.2.length + 1 ∧ (((mkE K x.2.2).1 (pAt x.1 + 1 + 1)).toInt ≠ 30 → y.2.1 = x.2.1) ∧ (((mkE K x.2.2).1 (pAt x.1 + 1 + 1)).toInt = 30 → ∀ r, gFunc EvSP (mkE K x.2.2) (pAt x.1 + 1) = some r → ∃ f : FN, y.2.1 = x.2.1 ++ [f] ∧ FNR x.2.2.length f.2.2.1 f.2.2.2.1 (r.1, r.2.1)) := by
  unfold tItem at h
  obtain ⟨x1, h1, h⟩ := bd_inv h
  obtain ⟨e2, a1⟩ := head_inv h1
  have kb1 : kb (mkE K x1.2.2) x1.1 = (mkE K x.2.2).1 (pAt x.1 + 1 + 1) := by
    unfold kb
    rw [e2, a1]
  rw [kb1] at h
  by_cases c : ((mkE K x.2.2).1 (pAt x.1 + 1 + 1)).toInt = 30
  · rw [if_pos c] at h
    unfold tFItem at h
    by_cases c2 : 40 ≤ x1.2.1.length
    · rw [if_pos c2] at h; cases h
    rw [if_neg c2] at h
    obtain ⟨q, hq, h⟩ := bd_inv h
    have e3 := ok_inj h
    rw [e2] at hq
    refine ⟨by rw [← e3]; show x1.2.2.length ≤ _; rw [e2]; exact Nat.le_succ _, fun w => absurd c w, fun _ r hr => ?_⟩
    rw [← a1] at hr
    have F := jFunc hq hr
    rw [show (mkE K x.2.2).2.2.2.length = x.2.2.length from List.length_map _] at F
    rw [← e3]
    refine ⟨(vl (mkE K x1.2.2) x1.1, pl (mkE K x1.2.2) x1.1, q.2.1, q.2.2.1, q.2.2.2), ?_, F⟩
    show x1.2.1 ++ [_] = x.2.1 ++ [_]
    rw [e2]
  · rw [if_neg c] at h
    unfold tGItem at h
    split at h
    · cases h
    · obtain ⟨s2, -, h⟩ := bd_inv h
      obtain ⟨q, -, h⟩ := bd_inv h
      obtain ⟨s3, -, h⟩ := bd_inv h
      have e3 := ok_inj h
      rw [← e3]
      refine ⟨?_, fun _ => ?_, fun w => absurd w c⟩
      · show (x1.2.2 ++ [_]).length ≤ _
        rw [List.length_append, e2]
        exact Nat.le_refl _
      · show x1.2.1 = x.2.1
        rw [e2]
theorem jItems : ∀ (f : Nat) (x y : IS) (evs : List (List Int32 × List EV)), tItems SP K f x = .ok y → gItems EvSP SP K f x = some evs → ∃ fs : List FN, y.2.1 = x.2.1 ++ fs ∧ fs.length = evs.length ∧ ∀ (n : Nat) (g : List Int32 × List EV) (p : FN), evs[n]? = some g → fs[n]? = some p → FNR (x.2.2.length + f) p.2.2.1 p.2.2.2.1 g
  | 0, _, _, _, h, _ => by cases h
  | f + 1, x, y, evs, h, hg => by
    have h : (if (kd (mkE K x.2.2) x.1).toInt = 0 then .ok x else bd (tItem SP K x) (tItems SP K f)) = .ok y := h
    have hg : (if (kd (mkE K x.2.2) x.1).toInt = 0 then some [] else match tItem SP K x with
      | .error _ => none
      | .ok x' => if ((mkE K x.2.2).1 (pAt x.1 + 1 + 1)).toInt = 30 then (gFunc EvSP (mkE K x.2.2) (pAt x.1 + 1)).bind fun q => (gItems EvSP SP K f x').bind fun r => some ((q.1, q.2.1) :: r) else gItems EvSP SP K f x' : Option (List (List Int32 × List EV))) = some evs := hg
    by_cases c : (kd (mkE K x.2.2) x.1).toInt = 0
    · rw [if_pos c] at h hg
      have e1 := ok_inj h
      have e2 := Option.some.inj hg
      rw [← e1, ← e2]
      exact ⟨[], by rw [List.append_nil], rfl, fun n g p hn => nomatch hn⟩
    rw [if_neg c] at h hg
    obtain ⟨x', hx, h⟩ := bd_inv h
    rw [hx] at hg
    have hg : (if ((mkE K x.2.2).1 (pAt x.1 + 1 + 1)).toInt = 30 then (gFunc EvSP (mkE K x.2.2) (pAt x.1 + 1)).bind fun q => (gItems EvSP SP K f x').bind fun r => some ((q.1, q.2.1) :: r) else gItems EvSP SP K f x') = some evs := hg
    obtain ⟨J0, J1, J2⟩ := jItem hx
    by_cases c2 : ((mkE K x.2.2).1 (pAt x.1 + 1 + 1)).toInt = 30
    · rw [if_pos c2] at hg
      obtain ⟨q, hq, hg⟩ := Option.bind_eq_some_iff.mp hg
      obtain ⟨r, hr, hg⟩ := Option.bind_eq_some_iff.mp hg
      have e2 := Option.some.inj hg
      obtain ⟨p, p1, p2⟩ := J2 c2 q hq
      obtain ⟨fs, f1, f2, f3⟩ := jItems f x' y r h hr
      rw [← e2]
      refine ⟨p :: fs, by rw [f1, p1, List.append_assoc]; rfl, by rw [List.length_cons, List.length_cons, f2], fun n g p' hn hp => ?_⟩
      cases n with
      | zero =>
        have g1 : (q.1, q.2.1) = g := Option.some.inj hn
        have g2 : p = p' := Option.some.inj hp
        rw [← g1, ← g2]
        exact p2.z (by omega)
      | succ n => exact (f3 n g p' hn hp).z (by omega)
    · rw [if_neg c2] at hg
      obtain ⟨fs, f1, f2, f3⟩ := jItems f x' y evs h hg
      exact ⟨fs, by rw [f1, J1 c2], f2, fun n g p hn hp => (f3 n g p hn hp).z (by omega)⟩
/-- of a text read to its end -/
theorem jText {y : IS} {evs : List (List Int32 × List EV)} (h : tText SP K X0 = .ok y) (hg : gItems EvSP SP K 1502 X0 = some evs) : y.2.1.length = evs.length ∧ ∀ (n : Nat) (g : List Int32 × List EV) (p : FN), evs[n]? = some g → y.2.1[n]? = some p → FNR 1502 p.2.2.1 p.2.2.2.1 g := by
  unfold tText at h
  obtain ⟨x, hx, h⟩ := bd_inv h
  obtain ⟨-, -, h⟩ := bd_inv h
  have e1 := ok_inj h
  obtain ⟨fs, f1, f2, f3⟩ := jItems 1502 X0 x evs hx hg
  have f1 : x.2.1 = [] ++ fs := f1
  rw [List.nil_append] at f1
  rw [← e1, f1]
  exact ⟨f2, fun n g p hn hp => (f3 n g p hn hp).z (Nat.le_of_eq (Nat.zero_add 1502))⟩
end XVS
