/-! slots: operands, signs, every level -/
section XSE
variable {E : FE} {G : EvE} {O : FO} {H : EvO} {s s' : PS} {e : PE} {kn : List Int32} {pb i j g : Int32} {a b : List EV} {Z : Nat}
theorem jOperand (hE : XJE E G) (hO : XJO O H) : XJO (tOperand E O) (gOperand G H) := by
  intro st e s q h
  unfold tOperand at h
  by_cases c1 : (kd e s).toInt = 54 ∨ (kd e s).toInt = 40 ∨ (kd e s).toInt = 41
  · rw [if_pos c1] at h
    obtain ⟨s1, h1, h⟩ := bd_inv h
    obtain ⟨q2, h2, h⟩ := bd_inv h
    have eq := ok_inj h
    obtain ⟨d1, v1⟩ := open_inv h1
    refine ⟨d1, fun I => ?_⟩
    have K1 := KA.vx v1
    obtain ⟨K2, G2⟩ := (hO _ _ _ _ h2).2 (K1.so I)
    have v3 : vp (em 1 (tClose q2.2)) = vp q2.2 := by rw [vp_em, vp_cl]
    have me : pMo (em 1 (tClose q2.2)) = pMo q2.2 := congrArg (fun x => x.2.2.2.2.2) v3
    have ae : pAt (em 1 (tClose q2.2)) = pAt q2.2 := congrArg (fun x => x.1) v3
    rw [← eq]
    refine ⟨by show KA (vp s) (vp (em 1 _)); rw [v3]; exact K1.tr K2, fun kn pb i b a j A hg => ?_⟩
    unfold gOperand at hg
    rw [if_pos (by rw [A.2.2]; exact c1)] at hg
    obtain ⟨r, hr, hg⟩ := Option.bind_eq_some_iff.mp hg
    have e2 := Option.some.inj hg
    have eb : false = b := congrArg Prod.fst e2
    have el : r.2.1 ++ [evx (gUn (e.1 i)) 0 0] = a := congrArg (fun x => x.2.1) e2
    have e3 : r.2.2 = j := congrArg (fun x => x.2.2) e2
    obtain ⟨-, b1, b2⟩ := G2 _ _ _ r.1 r.2.1 r.2.2 (A.n1 v1) hr
    rw [← el, ← e3]
    show b = false ∧ _ = pAt (em 1 _) ∧ SLT e.2.2.2.length (pMo (em 1 _)).toInt _
    rw [me, ae]
    refine ⟨eb.symm, b1, b2.app ?_⟩
    unfold gUn
    split
    · exact SLT.o
    · split
      · exact SLT.o
      · exact SLT.o
  rw [if_neg c1] at h
  have n1 : ∀ kn pb i, AT s kn pb i → ¬ ((e.1 i).toInt = 54 ∨ (e.1 i).toInt = 40 ∨ (e.1 i).toInt = 41) := fun kn pb i A => by rw [A.2.2]; exact c1
  by_cases c2 : (kd e s).toInt = 3 ∨ (kd e s).toInt = 5
  · rw [if_pos c2] at h
    obtain ⟨s1, h1, h⟩ := bd_inv h
    have eq := ok_inj h
    obtain ⟨d1, v1⟩ := take_inv h1
    refine ⟨d1, fun I => ?_⟩
    have v3 : vp (em (nsz (vl e s)) s1) = vp s1 := vp_em
    have ae : pAt (em (nsz (vl e s)) s1) = pAt s1 := congrArg (fun x => x.1) v3
    have a1 : pAt s1 = pAt s + 1 := congrArg (fun x => x.1) v1
    rw [← eq]
    refine ⟨by show KA (vp s) (vp (em _ s1)); rw [v3]; exact KA.vx v1, fun kn pb i b a j A hg => ?_⟩
    unfold gOperand at hg
    rw [if_neg (n1 kn pb i A), if_pos (by rw [A.2.2]; exact c2)] at hg
    have e2 := Option.some.inj hg
    have eb : false = b := congrArg Prod.fst e2
    have el : [evx 2 (e.2.1 i) 0] = a := congrArg (fun x => x.2.1) e2
    have e3 : i + 1 = j := congrArg (fun x => x.2.2) e2
    rw [← el, ← e3]
    refine ⟨eb.symm, ?_, SLT.o⟩
    show i + 1 = pAt (em _ s1)
    rw [ae, a1, A.2.2]
  rw [if_neg c2] at h
  have n2 : ∀ kn pb i, AT s kn pb i → ¬ ((e.1 i).toInt = 3 ∨ (e.1 i).toInt = 5) := fun kn pb i A => by rw [A.2.2]; exact c2
  by_cases c3 : (kd e s).toInt = 4
  · rw [if_pos c3] at h; cases h
  rw [if_neg c3] at h
  by_cases c4 : (kd e s).toInt = 20
  · rw [if_pos c4] at h
    obtain ⟨s1, h1, h⟩ := bd_inv h
    obtain ⟨s2, h2, h⟩ := bd_inv h
    obtain ⟨s3, h3, h⟩ := bd_inv h
    obtain ⟨s4, h4, h⟩ := bd_inv h
    have eq := ok_inj h
    obtain ⟨d1, v1⟩ := take_inv h1
    obtain ⟨-, e2⟩ := need_inv h2
    obtain ⟨-, v3⟩ := open_inv h3
    obtain ⟨-, -, v4⟩ := exp_inv h4
    rw [e2] at v3
    refine ⟨d1, fun I => ?_⟩
    have v5 : vp (em 2 (tClose s4)) = vp s4 := by rw [vp_em, vp_cl]
    have ae : pAt (em 2 (tClose s4)) = pAt s4 := congrArg (fun x => x.1) v5
    rw [← eq]
    refine ⟨by show KA (vp s) (vp (em _ _)); rw [v5]; exact ((KA.vx v1).tr (KA.vx v3)).tr (KA.vx v4), fun kn pb i b a j A hg => ?_⟩
    unfold gOperand at hg
    rw [if_neg (n1 kn pb i A), if_neg (n2 kn pb i A), if_pos (by rw [A.2.2]; exact c4)] at hg
    obtain ⟨j1, hj1, hg⟩ := Option.bind_eq_some_iff.mp hg
    obtain ⟨j2, hj2, hg⟩ := Option.bind_eq_some_iff.mp hg
    have e2 := Option.some.inj hg
    have eb : false = b := congrArg Prod.fst e2
    have el : [evx 23 0 0] = a := congrArg (fun x => x.2.1) e2
    have e3 : j2 = j := congrArg (fun x => x.2.2) e2
    rw [← el, ← e3, gTok_j (i' := 0) hj2, gTok_j (i' := 0) hj1]
    refine ⟨eb.symm, ?_, SLT.o⟩
    show _ = pAt (em 2 _)
    rw [ae]
    exact (((A.n1 v1).n1 v3).n1 v4).2.2
  rw [if_neg c4] at h
  have n4 : ∀ kn pb i, AT s kn pb i → ¬ (e.1 i).toInt = 20 := fun kn pb i A => by rw [A.2.2]; exact c4
  by_cases c5 : (kd e s).toInt = 30
  · rw [if_pos c5] at h
    obtain ⟨s1, h1, h⟩ := bd_inv h
    obtain ⟨s2, h2, h⟩ := bd_inv h
    obtain ⟨s3, h3, h⟩ := bd_inv h
    have eq := ok_inj h
    obtain ⟨d1, v1⟩ := open_inv h1
    refine ⟨d1, fun I => ?_⟩
    have K1 := KA.vx v1
    obtain ⟨K2, G2⟩ := (hE _ _ _ _ h2).2 (K1.so I)
    obtain ⟨-, -, v3⟩ := exp_inv h3
    have K3 := KA.vx v3
    rw [← eq]
    refine ⟨(K1.tr K2).tr K3, fun kn pb i b a j A hg => ?_⟩
    unfold gOperand at hg
    rw [if_neg (n1 kn pb i A), if_neg (n2 kn pb i A), if_neg (n4 kn pb i A), if_pos (by rw [A.2.2]; exact c5)] at hg
    obtain ⟨r, hr, hg⟩ := Option.bind_eq_some_iff.mp hg
    obtain ⟨j2, hj2, hg⟩ := Option.bind_eq_some_iff.mp hg
    have e2 := Option.some.inj hg
    have eb : false = b := congrArg Prod.fst e2
    have el : r.1 = a := congrArg (fun x => x.2.1) e2
    have e3 : j2 = j := congrArg (fun x => x.2.2) e2
    obtain ⟨b1, b2⟩ := G2 _ _ _ r.1 r.2 (A.n1 v1) hr
    have a3 : pAt s3 = pAt s2 + 1 := congrArg (fun x => x.1) v3
    rw [← el, ← e3, gTok_j (i' := 0) hj2, b1]
    exact ⟨eb.symm, a3.symm, b2.m K3.2.2.2.2⟩
  rw [if_neg c5] at h
  by_cases c6 : (kd e s).toInt = 2
  · rw [if_pos c6] at h
    obtain ⟨d1, R⟩ := jNamed hE h
    refine ⟨d1, fun I => ?_⟩
    obtain ⟨K, R⟩ := R I
    refine ⟨K, fun kn pb i b a j A hg => ?_⟩
    unfold gOperand at hg
    rw [if_neg (n1 kn pb i A), if_neg (n2 kn pb i A), if_neg (n4 kn pb i A), if_neg (by rw [A.2.2]; exact c5), if_pos (by rw [A.2.2]; exact c6)] at hg
    exact R _ _ _ _ _ _ A hg
  · rw [if_neg c6] at h
    cases h
theorem begin_inv {k : Int32} (h : tBegin k e s = .ok s') (I : SO (vp s)) : SO (vp s') ∧ pKn s' = pKn s ∧ pKc s' = pKc s ∧ pPb s' = gpb k (pPb s) ∧ pAt s' = pAt s ∧ (pMo s).toInt ≤ (pMo s').toInt ∧ (k.toInt = 69 ∨ k.toInt = 70 ∨ (pKc s).toInt + (pPb s).toInt + 1 ≤ (pMo s').toInt) := by
  have nn : ∀ x : Int32, (vp (em x s) = vp s) := fun x => vp_em
  have same : ∀ x : Int32, (k.toInt = 69 ∨ k.toInt = 70) → em x s = s' → SO (vp s') ∧ pKn s' = pKn s ∧ pKc s' = pKc s ∧ pPb s' = gpb k (pPb s) ∧ pAt s' = pAt s ∧ (pMo s).toInt ≤ (pMo s').toInt ∧ (k.toInt = 69 ∨ k.toInt = 70 ∨ (pKc s).toInt + (pPb s).toInt + 1 ≤ (pMo s').toInt) := by
    intro x hk e1
    have v := nn x
    rw [e1] at v
    refine ⟨by rw [v]; exact I, congrArg (fun x => x.2.1) v, congrArg (fun x => x.2.2.1) v, ?_, congrArg (fun x => x.1) v, ?_, hk.imp id Or.inl⟩
    · unfold gpb
      rw [if_pos hk]
      exact congrArg (fun x => x.2.2.2.1) v
    · rw [show pMo s' = pMo s from congrArg (fun x => x.2.2.2.2.2) v]
      exact Int.le_refl _
  unfold tBegin at h
  by_cases c : k.toInt = 69
  · rw [if_pos c] at h
    exact same 2 (Or.inl c) (ok_inj h)
  rw [if_neg c] at h
  by_cases c2 : k.toInt = 70
  · rw [if_pos c2] at h
    exact same 3 (Or.inr c2) (ok_inj h)
  rw [if_neg c2] at h
  obtain ⟨s1, h1, h⟩ := bd_inv h
  have e1 := ok_inj h
  obtain ⟨w1, w2, K1, at1⟩ := want_inv h1 I (by decide) (by decide)
  have o1 : (1 : Int32).toInt = 1 := by decide
  rw [o1] at w1 w2
  have pe : pPb s1 = pPb s := K1.2.2.1
  have ce : pKc s1 = pKc s := K1.2.1
  have v : vp s' = vp (sPb s1 (pPb s1 + 1)) := by
    rw [← e1]
    show vp (sPb (em 1 s1) (pPb s1 + 1)) = _
    exact vp_pb vp_em _
  refine ⟨?_, ?_, ?_, ?_, ?_, ?_, Or.inr (Or.inr ?_)⟩
  · rw [v]
    exact (K1.so I).pm (n := 1) (by rw [ce, pe, o1]; exact w1) (by decide) (by decide)
  · rw [show pKn s' = pKn s1 from congrArg (fun x => x.2.1) v]; exact K1.1
  · rw [show pKc s' = pKc s1 from congrArg (fun x => x.2.2.1) v]; exact ce
  · unfold gpb
    rw [if_neg (by omega), show pPb s' = pPb s1 + 1 from congrArg (fun x => x.2.2.2.1) v, pe]
  · rw [show pAt s' = pAt s1 from congrArg (fun x => x.1) v]; exact at1
  · rw [show pMo s' = pMo s1 from congrArg (fun x => x.2.2.2.2.2) v]; exact K1.2.2.2.2
  · rw [show pMo s' = pMo s1 from congrArg (fun x => x.2.2.2.2.2) v]; exact w2
theorem end_v {k : Int32} {s3 : PS} (h : pPb s3 = gpb k pb) : vp (tEnd k s3) = ((pAt s3, pKn s3, pKc s3, pb, pDu s3, pMo s3) : V6) := by
  unfold tEnd
  unfold gpb at h
  by_cases c : k.toInt = 69 ∨ k.toInt = 70
  · rw [if_pos c] at h ⊢
    rw [vp_em, ← h]
    rfl
  · rw [if_neg c] at h ⊢
    rw [vp_em]
    show ((pAt s3, pKn s3, pKc s3, pPb s3 - 1, pDu s3, pMo s3) : V6) = _
    rw [h, Int32.add_sub_cancel]
theorem stg_r {k : Int32} (h : 0 < (stg k).toInt) : 53 ≤ k.toInt ∧ k.toInt ≤ 70 := by
  unfold stg at h
  by_cases c : (k - 53).toInt < 0 ∨ (18 : Int) ≤ (k - 53).toInt
  · rw [if_pos c] at h
    exact absurd h (by decide)
  · have h1 : ¬ (k - 53).toInt < 0 := fun w => c (Or.inl w)
    have h2 : ¬ (18 : Int) ≤ (k - 53).toInt := fun w => c (Or.inr w)
    have e : k = (k - 53) + 53 := (Int32.sub_add_cancel k 53).symm
    have e2 : ((k - 53) + 53).toInt = (k - 53).toInt + 53 := add_z rfl (by decide) (by omega) (by omega)
    rw [e, e2]
    omega
theorem sgn_s {M : Int} {k sl : Int32} (hk : 53 ≤ k.toInt ∧ k.toInt ≤ 70) (ha : SLT Z M a) (hb : SLT Z M b) (h : k.toInt = 69 ∨ k.toInt = 70 ∨ sl.toInt < M) : SLT Z M (gSign k sl a b) := by
  unfold gSign
  by_cases c : k.toInt = 69
  · rw [if_pos c]
    exact ((ha.app SLT.o).app hb).app SLT.o
  rw [if_neg c]
  by_cases c2 : k.toInt = 70
  · rw [if_pos c2]
    exact ((ha.app SLT.o).app hb).app SLT.o
  rw [if_neg c2]
  exact ((ha.app (SLT.k4 (by omega))).app hb).app (SLT.bn (by omega))
theorem jJ (hO : XJO O H) : ∀ (f : Nat) (m : Int) (s s' : PS), tJ O f m e s = .ok s' → SO (vp s) → KA (vp s) (vp s') ∧ ∀ kn pb i a a' j, AT s kn pb i → SLT e.2.2.2.length (pMo s).toInt a → gJ H f m e kn pb a i = some (a', j) → j = pAt s' ∧ SLT e.2.2.2.length (pMo s').toInt a'
  | 0, _, _, _, h, _ => by cases h
  | f + 1, m, s, s', h, I => by
    have h : (if (stg (kd e s)).toInt < m ∨ (stg (kd e s)).toInt ≤ 0 then .ok s else bd (tBegin (kd e s) e s) fun s1 => bd (tTake e s1) fun s2 => bd (O false e s2) fun q => bd (tJ O f ((stg (kd e s)).toInt + 1) e q.2) fun s3 => tJ O f m e (tEnd (kd e s) s3)) = .ok s' := h
    by_cases c : (stg (kd e s)).toInt < m ∨ (stg (kd e s)).toInt ≤ 0
    · rw [if_pos c] at h
      have e1 := ok_inj h
      rw [← e1]
      refine ⟨KA.rf I, fun kn pb i a a' j A Sa hg => ?_⟩
      have hg : (if (stg (e.1 i)).toInt < m ∨ (stg (e.1 i)).toInt ≤ 0 then some (a, i) else _) = some (a', j) := hg
      rw [if_pos (by rw [A.2.2]; exact c)] at hg
      have e2 := Option.some.inj hg
      have el : a = a' := congrArg Prod.fst e2
      have ej : i = j := congrArg Prod.snd e2
      rw [← el, ← ej]
      exact ⟨A.2.2, Sa⟩
    rw [if_neg c] at h
    obtain ⟨s1, h1, h⟩ := bd_inv h
    obtain ⟨s2, h2, h⟩ := bd_inv h
    obtain ⟨q, h3, h⟩ := bd_inv h
    obtain ⟨s3, h4, h⟩ := bd_inv h
    obtain ⟨I1, k1, c1, p1, a1, m1, w1⟩ := begin_inv h1 I
    obtain ⟨-, v2⟩ := take_inv h2
    have K2 := KA.vx v2
    obtain ⟨K3, G3⟩ := (hO _ _ _ _ h3).2 (K2.so I1)
    have K23 := K2.tr K3
    obtain ⟨K4, G4⟩ := jJ hO f _ q.2 s3 h4 (K23.so I1)
    have K24 := K23.tr K4
    have p3 : pPb s3 = gpb (kd e s) (pPb s) := by rw [show pPb s3 = pPb s1 from K24.2.2.1]; exact p1
    have ve := end_v p3
    have kn3 : pKn s3 = pKn s := by rw [show pKn s3 = pKn s1 from K24.1]; exact k1
    have kc3 : pKc s3 = pKc s := by rw [show pKc s3 = pKc s1 from K24.2.1]; exact c1
    have m3 : (pMo s1).toInt ≤ (pMo s3).toInt := K24.2.2.2.2
    have mq : (pMo q.2).toInt ≤ (pMo s3).toInt := K4.2.2.2.2
    have KE : KA (vp s) (vp (tEnd (kd e s) s3)) := by
      rw [ve]
      refine ⟨kn3, kc3, rfl, ?_, ?_⟩
      · refine ⟨K24.2.2.2.1.1, fun _ => ?_⟩
        exact K24.2.2.2.1.2 I1.1.2
      · show (pMo s).toInt ≤ (pMo s3).toInt
        omega
    obtain ⟨K5, G5⟩ := jJ hO f m (tEnd (kd e s) s3) s' h (KE.so I)
    refine ⟨KE.tr K5, fun kn pb i a a' j A Sa hg => ?_⟩
    have hg : (if (stg (e.1 i)).toInt < m ∨ (stg (e.1 i)).toInt ≤ 0 then some (a, i) else (H false e kn (gpb (e.1 i) pb) (i + 1)).bind fun q => (gJ H f ((stg (e.1 i)).toInt + 1) e kn (gpb (e.1 i) pb) q.2.1 q.2.2).bind fun r => gJ H f m e kn pb (gSign (e.1 i) (gsl kn pb) a r.1) r.2) = some (a', j) := hg
    have ki : e.1 i = kd e s := by rw [A.2.2]; rfl
    rw [ki, if_neg c] at hg
    obtain ⟨r, hr, hg⟩ := Option.bind_eq_some_iff.mp hg
    obtain ⟨r2, hr2, hg⟩ := Option.bind_eq_some_iff.mp hg
    have A1 : AT s1 kn (gpb (kd e s) pb) i := ⟨by rw [k1]; exact A.1, by rw [p1, A.2.1], by rw [a1]; exact A.2.2⟩
    have A2 := A1.n1 v2
    obtain ⟨-, b1, b2⟩ := G3 _ _ _ r.1 r.2.1 r.2.2 A2 hr
    have A3 := A2.k1 K3 b1
    obtain ⟨d1, d2⟩ := G4 _ _ _ r.2.1 r2.1 r2.2 A3 b2 hr2
    have mE : pMo (tEnd (kd e s) s3) = pMo s3 := congrArg (fun x => x.2.2.2.2.2) ve
    have aE : pAt (tEnd (kd e s) s3) = pAt s3 := congrArg (fun x => x.1) ve
    have AE := A.k1 KE (j := r2.2) (by rw [aE]; exact d1)
    refine G5 _ _ _ _ a' j AE ?_ hg
    rw [mE]
    have gs := gsl_i I A
    exact sgn_s (stg_r (by omega)) (Sa.m (by omega)) d2 (by omega)
theorem jQuest (hE : XJE E G) (h : tQuest E e s = .ok s') (I : SO (vp s)) : KA (vp s) (vp s') ∧ ∀ kn pb i a a' j, AT s kn pb i → SLT e.2.2.2.length (pMo s).toInt a → gQuest G e kn pb a i = some (a', j) → j = pAt s' ∧ SLT e.2.2.2.length (pMo s').toInt a' := by
  unfold tQuest at h
  by_cases c : (kd e s).toInt = 38
  · rw [if_pos c] at h
    obtain ⟨s1, h1, h⟩ := bd_inv h
    obtain ⟨s2, h2, h⟩ := bd_inv h
    obtain ⟨s3, h3, h⟩ := bd_inv h
    obtain ⟨s4, h4, h⟩ := bd_inv h
    have e1 := ok_inj h
    obtain ⟨-, v1⟩ := open_inv h1
    have v1 : vp (em 2 s1) = nx (vp s) := by rw [vp_em]; exact v1
    have K1 := KA.vx v1
    obtain ⟨K2, G2⟩ := (hE _ _ _ _ h2).2 (K1.so I)
    obtain ⟨-, -, v3⟩ := exp_inv h3
    have v3 : vp (em 1 s3) = nx (vp s2) := by rw [vp_em]; exact v3
    have K3 := KA.vx v3
    have K13 := (K1.tr K2).tr K3
    obtain ⟨K4, G4⟩ := (hE _ _ _ _ h4).2 (K13.so I)
    have K := K13.tr K4
    rw [← e1]
    refine ⟨K, fun kn pb i a a' j A Sa hg => ?_⟩
    unfold gQuest at hg
    rw [if_pos (by rw [A.2.2]; exact c)] at hg
    obtain ⟨r, hr, hg⟩ := Option.bind_eq_some_iff.mp hg
    obtain ⟨j2, hj2, hg⟩ := Option.bind_eq_some_iff.mp hg
    obtain ⟨r2, hr2, hg⟩ := Option.bind_eq_some_iff.mp hg
    have e2 := Option.some.inj hg
    have el : _ = a' := congrArg Prod.fst e2
    have ej : r2.2 = j := congrArg Prod.snd e2
    obtain ⟨b1, b2⟩ := G2 _ _ _ r.1 r.2 (A.n1 v1) hr
    have A2 := (A.n1 v1).k1 K2 b1
    have A3 := A2.n1 v3
    rw [← gTok_j (i' := 0) hj2] at A3
    obtain ⟨d1, d2⟩ := G4 _ _ _ r2.1 r2.2 A3 hr2
    rw [← el, ← ej]
    have mK : (pMo s).toInt ≤ (pMo s4).toInt := K.2.2.2.2
    have m34 : (pMo s2).toInt ≤ (pMo s4).toInt := (K3.tr K4).2.2.2.2
    exact ⟨d1, ((((Sa.m mK).app SLT.o).app (b2.m m34)).app SLT.o).app d2⟩
  · rw [if_neg c] at h
    have e1 := ok_inj h
    rw [← e1]
    refine ⟨KA.rf I, fun kn pb i a a' j A Sa hg => ?_⟩
    unfold gQuest at hg
    rw [if_neg (by rw [A.2.2]; exact c)] at hg
    have e2 := Option.some.inj hg
    have el : a = a' := congrArg Prod.fst e2
    have ej : i = j := congrArg Prod.snd e2
    rw [← el, ← ej]
    exact ⟨A.2.2, Sa⟩
theorem jExpr (hE : XJE E G) (hO : XJO O H) : XJE (tExpr E O) (gExpr G H) := by
  intro st e s s' h
  unfold tExpr at h
  obtain ⟨q, h1, h⟩ := bd_inv h
  obtain ⟨d1, R1⟩ := hO _ _ _ _ h1
  refine ⟨d1, fun I => ?_⟩
  obtain ⟨K1, G1⟩ := R1 I
  have go : ∀ kn pb i a j, AT s kn pb i → gExpr G H st e kn pb i = some (a, j) → ∃ a1 j1, j1 = pAt q.2 ∧ SLT e.2.2.2.length (pMo q.2).toInt a1 ∧ (if q.1 = true then some (a1, j1) else (gJ H 1502 1 e kn pb a1 j1).bind fun r => gQuest G e kn pb r.1 r.2) = some (a, j) := by
    intro kn pb i a j A hg
    unfold gExpr at hg
    obtain ⟨r, hr, hg⟩ := Option.bind_eq_some_iff.mp hg
    obtain ⟨b0, b1, b2⟩ := G1 _ _ _ r.1 r.2.1 r.2.2 A hr
    rw [b0] at hg
    exact ⟨r.2.1, r.2.2, b1, b2, hg⟩
  by_cases c : q.1 = true
  · rw [if_pos c] at h
    have e1 := ok_inj h
    rw [← e1]
    refine ⟨K1, fun kn pb i a j A hg => ?_⟩
    obtain ⟨a1, j1, ej, S1, hg⟩ := go kn pb i a j A hg
    rw [if_pos c] at hg
    have e2 := Option.some.inj hg
    rw [← show a1 = a from congrArg Prod.fst e2, ← show j1 = j from congrArg Prod.snd e2]
    exact ⟨ej, S1⟩
  rw [if_neg c] at h
  obtain ⟨s2, h2, h⟩ := bd_inv h
  obtain ⟨K2, G2⟩ := jJ hO _ _ _ _ h2 (K1.so I)
  have K12 := K1.tr K2
  obtain ⟨K3, G3⟩ := jQuest hE h (K12.so I)
  refine ⟨K12.tr K3, fun kn pb i a j A hg => ?_⟩
  obtain ⟨a1, j1, ej, S1, hg⟩ := go kn pb i a j A hg
  rw [if_neg c] at hg
  obtain ⟨r, hr, hg⟩ := Option.bind_eq_some_iff.mp hg
  have A1 := A.k1 K1 ej
  obtain ⟨b1, b2⟩ := G2 _ _ _ a1 r.1 r.2 A1 S1 hr
  exact G3 _ _ _ r.1 a j (A1.k1 K2 b1) b2 hg
theorem jLev : ∀ n : Nat, XJE (tE n) (geE n) ∧ XJO (tO n) (geO n)
  | 0 => by
    have o0 : XJO nO evO0 := fun st e s q h => by cases h
    have x0 : XJE nE evE0 := fun st e s q h => by cases h
    exact ⟨jExpr x0 (jOperand x0 o0), jOperand x0 o0⟩
  | n + 1 => by
    obtain ⟨x, o⟩ := jLev n
    exact ⟨jExpr x (jOperand x o), jOperand x o⟩
end XSE
