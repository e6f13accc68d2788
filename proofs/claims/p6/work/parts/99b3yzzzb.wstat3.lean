/-! the reference's words: break, continue, return, parts -/
section ZZB
variable {n : Int} {K : TK} {e : PE} {v u w x y : MS} {a b d a0 : List EV} {q : EV} {r pa pb pd tg zz : Int32} {c : RM1} {E : EvE} {S : EvS} {Es : FE} {Ss : FS} {k : Nat}
theorem SAw.wt (u11 : u.1 11 = upd (v.1 11) (v.1 0 12).toNatClampNeg zz) (u12 : u.1 0 12 = v.1 0 12 + 1) (hs : SMw v u) (us : (u.1 0 52 = v.1 0 52 ∧ u.1 0 55 = v.1 0 55) ∧ u.1 61 = v.1 61 ∧ u.1 63 = v.1 63 ∧ u.1 65 = v.1 65) (ht : (tg = 30 ∧ (v.1 0 52).toInt ≠ 0 ∧ zz = v.1 0 53 ∧ u.1 0 53 = v.1 0 12 ∧ u.1 0 57 = v.1 0 57 ∧ u.1 0 59 = v.1 0 59) ∨ (tg = 31 ∧ (v.1 0 52).toInt ≠ 0 ∧ zz = (if (v.1 0 55).toInt = -1 then v.1 0 57 else jW 0 ((4 : Int32) * (v.1 0 55 - v.1 0 12))) ∧ u.1 0 53 = v.1 0 53 ∧ ((v.1 0 55).toInt = -1 → u.1 0 57 = v.1 0 12) ∧ u.1 0 59 = v.1 0 59) ∨ (tg = 32 ∧ zz = v.1 0 59 ∧ u.1 0 53 = v.1 0 53 ∧ u.1 0 57 = v.1 0 57 ∧ u.1 0 59 = v.1 0 12)) : SAw K v u [evx tg 0 0] := by
  refine ⟨fun B => ?_, us.1, fun b hb j _ => ?_⟩
  · have b1 := B.1
    have b2 := B.2.1
    have l1 : lwE (evx tg 0 0) = 1 := by rcases ht with ⟨t, -⟩ | ⟨t, -⟩ | ⟨t, -⟩ <;> (rw [t]; rfl)
    rw [lwL_cons, lwL_nil, l1] at b2
    have i12 : (u.1 0 12).toInt = (v.1 0 12).toInt + 1 := by rw [u12]; exact ad1 b1 (by omega)
    have n0 := natI b1
    have m11 : u.1 11 (v.1 0 12).toNatClampNeg = zz := by rw [u11]; exact updS
    obtain ⟨⟨s1, s2, s3, s4, s5, s6⟩, s7, s8⟩ := hs
    have nn := nI_nat b1
    refine ⟨⟨by rw [lwL_cons, l1, lwL_nil]; omega, ⟨⟨by omega, fun j hj => by rw [u11]; exact updN_ (by omega)⟩, ⟨by rw [s8]; exact Int.le_refl _, fun c _ => by rw [s4, s5, s6]; exact ⟨rfl, rfl, rfl⟩⟩, ⟨by rw [s7]; exact Int.le_refl _, fun c _ => by rw [s2, s3]; exact ⟨rfl, rfl⟩⟩, s1⟩, ⟨fun c c1 c2 => by rw [s7] at c2; omega, fun c d c1 c2 => by rw [s7] at c2; omega⟩, ⟨?_, trivial⟩, ?_⟩, ?_, fun q => ?_, ?_⟩
    · unfold mwE
      rcases ht with ⟨t, n52, t2, -⟩ | ⟨t, n52, t2, -⟩ | ⟨t, t2, -⟩
      · rw [if_pos (show (evx tg 0 0).1 = 30 from t)]
        exact ⟨by omega, by rw [m11, t2], decide_eq_true n52⟩
      · rw [if_neg (show ¬ (evx tg 0 0).1 = 30 from by show ¬ tg = 30; rw [t]; decide), if_pos (show (evx tg 0 0).1 = 31 from t)]
        refine ⟨by omega, ?_, decide_eq_true n52⟩
        rw [m11, t2]
        show _ = (if decide ((v.1 0 55).toInt = -1) = true then v.1 0 57 else jW 0 ((4 : Int32) * (v.1 0 55 - nI (v.1 0 12).toNatClampNeg)))
        by_cases g : (v.1 0 55).toInt = -1
        · rw [if_pos g, if_pos (decide_eq_true g)]
        · rw [if_neg g, if_neg (by rw [decide_eq_false g]; decide), nn]
      · rw [if_neg (show ¬ (evx tg 0 0).1 = 30 from by show ¬ tg = 30; rw [t]; decide), if_neg (show ¬ (evx tg 0 0).1 = 31 from by show ¬ tg = 31; rw [t]; decide), if_pos (show (evx tg 0 0).1 = 32 from t)]
        exact ⟨by omega, by rw [m11, t2]⟩
    · have f0 : fxE (evx tg 0 0) = [] := by rcases ht with ⟨t, -⟩ | ⟨t, -⟩ | ⟨t, -⟩ <;> (rw [t]; rfl)
      show FQq v u ((fxE (evx tg 0 0)).map (fun e => ((v.1 0 12).toNatClampNeg + e.1, e.2)) ++ [])
      rw [f0]
      exact ⟨by rw [s8]; show _ = _ + ((0 : Nat) : Int); omega, fun k e h => by simp at h⟩
    · show u.1 0 53 = (if tg = 30 then nI (v.1 0 12).toNatClampNeg else v.1 0 53)
      rcases ht with ⟨t, -, t2, t3, t4, t5⟩ | ⟨t, -, t2, t3, t4, t5⟩ | ⟨t, t2, t3, t4, t5⟩
      · rw [if_pos t, nn, t3]
      · rw [if_neg (by rw [t]; decide), t3]
      · rw [if_neg (by rw [t]; decide), t3]
    · show u.1 0 57 = (if tg = 31 then nI (v.1 0 12).toNatClampNeg else v.1 0 57)
      rcases ht with ⟨t, -, t2, t3, t4, t5⟩ | ⟨t, -, t2, t3, t4, t5⟩ | ⟨t, t2, t3, t4, t5⟩
      · rw [if_neg (by rw [t]; decide), t4]
      · rw [if_pos t, nn, t4 q]
      · rw [if_neg (by rw [t]; decide), t4]
    · show u.1 0 59 = (if tg = 32 then nI (v.1 0 12).toNatClampNeg else v.1 0 59)
      rcases ht with ⟨t, -, t2, t3, t4, t5⟩ | ⟨t, -, t2, t3, t4, t5⟩ | ⟨t, t2, t3, t4, t5⟩
      · rw [if_neg (by rw [t]; decide), t5]
      · rw [if_neg (by rw [t]; decide), t5]
      · rw [if_pos t, nn, t5]
  · simp only [List.mem_cons, List.not_mem_nil, or_false] at hb
    rcases hb with rfl | rfl | rfl
    · rw [us.2.1]
    · rw [us.2.2.1]
    · rw [us.2.2.2]
theorem oLeaveW (h : Q_m_leaving k v false u) (J : JM n K e v) (nd : ND v) (hk : e.1 (v.1 0 47) = 16 ∨ e.1 (v.1 0 47) = 17) : ∃ a, gLeave e (knM K v) (v.1 0 47) = some (a, knM K u, u.1 0 47) ∧ SOw n K e v u a := by
  have hk2 : 2 ≤ (e.1 (v.1 0 47)).toInt := by rcases hk with q | q <;> (rw [q]; decide)
  have JU := (rLeave (g := gLq v) h J (gLq_lo v) nd hk2).jj
  obtain ⟨z1, z2, z3, z4, z5, z6, z15, z8, z9, z10, z11, z12, z13, z14, r3, h3, -, h⟩ := h
  have i3 : r3.toInt ≠ 0 ↔ e.1 (v.1 0 47) = 16 := rIsKey (g := g00) h3 J (by decide)
  rcases h with ⟨n52, ⟨u9, -, f9, -⟩ | ⟨h1, -, ⟨u9, -, f9, -⟩ | ⟨h2, -, h⟩⟩⟩ | ⟨-, ⟨-, ⟨u9, -, f9, -⟩ | ⟨-, -, u9, -, f9, -⟩⟩ | ⟨-, f9, -⟩⟩
  · cases f9
  · cases f9
  · have JT := (rTake (g := g00) h1 J hk2).jj
    have N := oNeed (q := (59, 36)) (m := 36) h2 JT (by decide) rfl (by decide)
    have gt : gTok e 36 (v.1 0 47 + 1) = some (v.1 0 47 + 1 + 1) := if_pos N.2
    have fin : ∀ {y : MS} {tg : Int32}, u = y → (if (e.1 (v.1 0 47)).toInt = 16 then 30 else 31) = tg → SAw K v y [evx tg 0 0] → y.1 0 47 = v.1 0 47 + 1 + 1 → y.1 0 32 = v.1 0 32 → y.1 0 30 = v.1 0 30 → y.1 29 = v.1 29 → ∃ a, gLeave e (knM K v) (v.1 0 47) = some (a, knM K u, u.1 0 47) ∧ SOw n K e v u a := by
      intro y tg eu et A g1 g2 g3 g4
      refine ⟨_, ?_, ⟨JU.1, JU.2.2⟩, by rw [eu]; exact A, by rw [eu, g2], by rw [eu, g3]; exact Int.le_refl _, fun j _ => by rw [eu, g4]⟩
      unfold gLeave
      rw [gt, Option.bind_some, et, eu, g1, knM_of g4 g3]
    rcases h with ⟨c3, ⟨c5, x25, h25, -, eu⟩ | ⟨c5, -, eu⟩⟩ | ⟨c3, -, eu⟩
    · have t17 : e.1 (v.1 0 47) = 17 := hk.resolve_left (fun q => i3.mpr q c3)
      obtain rfl := eJmp h25
      have W : SAw K v u [evx 31 0 0] := SAw.wt (zz := jW 0 ((4 : Int32) * (v.1 0 55 - v.1 0 12))) (by
        rw [eu]
        show upd (upd (v.1 11) (v.1 0 12).toNatClampNeg 0) (v.1 0 12).toNatClampNeg _ = _
        funext j
        by_cases g : j = (v.1 0 12).toNatClampNeg
        · rw [g, updS, updS]
        · rw [updN_ g, updN_ g, updN_ g]) (by rw [eu]; rfl) (by rw [eu]; exact ⟨⟨rfl, rfl, rfl, rfl, rfl, rfl⟩, rfl, rfl⟩) (by rw [eu]; exact ⟨⟨rfl, rfl⟩, rfl, rfl, rfl⟩) (Or.inr (Or.inl ⟨rfl, n52, (if_neg c5).symm, by rw [eu]; rfl, fun q => absurd q c5, by rw [eu]; rfl⟩))
      rw [eu] at W
      exact fin (tg := 31) eu (by rw [t17]; rfl) W rfl rfl rfl rfl
    · have t17 : e.1 (v.1 0 47) = 17 := hk.resolve_left (fun q => i3.mpr q c3)
      exact fin (tg := 31) eu (by rw [t17]; rfl) (SAw.wt (zz := v.1 0 57) rfl rfl ⟨⟨rfl, rfl, rfl, rfl, rfl, rfl⟩, rfl, rfl⟩ ⟨⟨rfl, rfl⟩, rfl, rfl, rfl⟩ (Or.inr (Or.inl ⟨rfl, n52, (if_pos c5).symm, rfl, fun _ => rfl, rfl⟩))) rfl rfl rfl rfl
    · have t16 : e.1 (v.1 0 47) = 16 := i3.mp c3
      exact fin (tg := 30) eu (by rw [t16]; rfl) (SAw.wt (zz := v.1 0 53) rfl rfl ⟨⟨rfl, rfl, rfl, rfl, rfl, rfl⟩, rfl, rfl⟩ ⟨⟨rfl, rfl⟩, rfl, rfl, rfl⟩ (Or.inl ⟨rfl, n52, rfl, rfl, rfl, rfl⟩)) rfl rfl rfl rfl
  · cases f9
  · cases f9
  · cases f9
set_option maxHeartbeats 800000 in
theorem oRetW (hX : XWe n K (QME k) E) (hE : HME n K (QME k) Es) (h : Q_m_returning k v false u) (J : JM n K e v) (hk : 2 ≤ (e.1 (v.1 0 47)).toInt) : ∃ a, gRet E e (knM K v) (v.1 0 32) (v.1 0 47) = some (a, knM K u, u.1 0 47) ∧ SOw n K e v u a := by
  have JU := (rRet (g := g00) hE h J rfl hk).jj
  obtain ⟨z1, z2, z3, z4, z5, z6, z15, z8, z9, z10, z11, z12, z13, z14, h⟩ := h
  rcases h with ⟨u9, -, f9, -⟩ | ⟨h1, -, r7, h7, -, h⟩
  · cases f9
  have JT := (rTake (g := g00) h1 J hk).jj
  have i7 : r7.toInt ≠ 0 ↔ e.1 (v.1 0 47 + 1) = 36 := rIs (g := g00) h7 JT (q := (59, 36)) (by decide) rfl
  have e36 : e.1 (v.1 0 47 + 1) = 36 ↔ (e.1 (v.1 0 47 + 1)).toInt = 36 := ⟨fun q => by rw [q]; decide, fun q => Int32.toInt_inj.mp (q.trans (by decide))⟩
  have A0 : SAw K v (wA v 0 47 ((v.1 0 47) + (1 : Int32))) [] := SAw.oa WAi.w0 rfl rfl rfl rfl rfl rfl rfl rfl
  unfold gRet
  rcases h with ⟨c7, ⟨u9, -, f9, -⟩ | ⟨u11, h11, k11, ⟨u9, -, f9, -⟩ | ⟨hn, -, -, eu⟩⟩⟩ | ⟨c7, r44, h44, ⟨u9, -, f9, -⟩ | ⟨hn, -, -, eu⟩⟩
  · cases f9
  · cases f9
  · obtain ⟨a, x1, x2⟩ := hX e _ u11 h11 k11 JT
    have x1 : E true e (knM K v) (v.1 0 32) (v.1 0 47 + 1) = some (a, u11.1 0 47) := x1
    have N := oNeed (q := (59, 36)) (m := 36) hn x2.1 (by decide) rfl (by decide)
    have B : SAw K u11 u [evx 32 0 0] := by
      rw [eu]
      exact SAw.wt (zz := u11.1 0 59) rfl rfl ⟨⟨rfl, rfl, rfl, rfl, rfl, rfl⟩, rfl, rfl⟩ ⟨⟨rfl, rfl⟩, rfl, rfl, rfl⟩ (Or.inr (Or.inr ⟨rfl, rfl, rfl, rfl, rfl⟩))
    have g29 : u.1 29 = v.1 29 := by rw [eu]; exact x2.2.2.1
    have g30 : u.1 0 30 = v.1 0 30 := by rw [eu]; exact x2.2.2.2.1
    refine ⟨_, ?_, ⟨JU.1, JU.2.2⟩, ((A0.tn (SAw.fg x2.2.1 k11.1)).tr B), by rw [eu]; exact x2.2.2.2.2, by rw [g30]; exact Int.le_refl _, fun j _ => by rw [g29]⟩
    rw [if_neg (fun q => i7.mpr (e36.mpr q) c7), x1, Option.bind_some]
    show (gTok e 36 (u11.1 0 47)).bind _ = _
    rw [gTok_of N.2, Option.bind_some, knM_of g29 g30, eu]
    rfl
  · cases f9
  · have k36 := e36.mp (i7.mp c7)
    obtain rfl := eAddi h44
    obtain ⟨Z, hZ⟩ : ∃ Z, Z = (wA (wA (wA (wA (wA (wA v 0 47 ((v.1 0 47) + (1 : Int32))) 11 ((v.1 0 12).toNatClampNeg) (iW 19 10 0 0)) 0 12 ((v.1 0 12) + (1 : Int32))) 13 ((v.1 0 15).toNatClampNeg) (0 : Int32)) 14 ((v.1 0 15).toNatClampNeg) (0 : Int32)) 0 15 ((v.1 0 15) + (1 : Int32))) := ⟨_, rfl⟩
    rw [← hZ] at hn eu
    have Z12 : Z.1 0 12 = v.1 0 12 + 1 := by rw [hZ]; rfl
    have Z59 : Z.1 0 59 = v.1 0 59 := by rw [hZ]; rfl
    have BZ : WAi K v Z [evx 2 0 0] := by
      rw [hZ]
      exact wZero rfl rfl
    have B : SAw K Z u [evx 32 0 0] := by
      rw [eu]
      refine SAw.wt (zz := Z.1 0 59) ?_ ?_ ⟨⟨rfl, rfl, rfl, rfl, rfl, rfl⟩, rfl, rfl⟩ ⟨⟨rfl, rfl⟩, rfl, rfl, rfl⟩ (Or.inr (Or.inr ⟨rfl, rfl, rfl, rfl, ?_⟩))
      · rw [Z12, Z59]; rfl
      · rw [Z12]; rfl
      · rw [Z12]; rfl
    have g29 : u.1 29 = v.1 29 := by rw [eu, hZ]; rfl
    have g30 : u.1 0 30 = v.1 0 30 := by rw [eu, hZ]; rfl
    refine ⟨_, ?_, ⟨JU.1, JU.2.2⟩, (by rw [hZ] at BZ ⊢; exact SAw.oa BZ rfl rfl rfl rfl rfl rfl rfl rfl : SAw K v Z [evx 2 0 0]).tr B, by rw [eu, hZ]; rfl, by rw [g30]; exact Int.le_refl _, fun j _ => by rw [g29]⟩
    rw [if_pos k36, Option.bind_some]
    have gt : gTok e 36 (v.1 0 47 + 1) = some (v.1 0 47 + 1 + 1) := if_pos k36
    show (gTok e 36 (v.1 0 47 + 1)).bind _ = _
    rw [gt, Option.bind_some, knM_of g29 g30, eu]
    rfl
theorem oPartW (hS : XWs n K c S) (hSs : HMS n K c Ss) (h : Q_m_part k c v false u) (J : JM n K e v) (nd : ND v) : ∃ a, gInner S e (knM K v) (v.1 0 32) (v.1 0 47) = some (a, knM K u, u.1 0 47) ∧ SOw n K e v u a ∧ (u.1 0 30 = v.1 0 30 ∧ knM K u = knM K v) := by
  have JU := (rPart (g := gLq v) hSs h J rfl (gLq_lo v) nd).jj
  obtain ⟨z1, z2, z3, z4, z5, z6, z15, z8, z9, z10, z11, z12, z13, z14, h⟩ := h
  rcases h with ⟨u9, -, f9, -⟩ | ⟨u5, h5, k5, -, eu⟩
  · cases f9
  have J0 : JM n K e (wA v 0 31 (v.1 0 30)) := J.w (by decide)
  obtain ⟨a, x1, x2⟩ := hS e _ u5 h5 k5 J0 nd
  have x1 : S e (knM K v) (v.1 0 32) (v.1 0 47) = some (a, knM K u5, u5.1 0 47) := x1
  have A0 : SAw K v (wA v 0 31 (v.1 0 30)) [] := SAw.oa WAi.w0 rfl rfl rfl rfl rfl rfl rfl rfl
  have A2 : SAw K u5 u [] := by rw [eu]; exact SAw.oa (WAi.sm rfl rfl) rfl rfl rfl rfl rfl rfl rfl rfl
  have g30 : u.1 0 30 = v.1 0 30 := by rw [eu]; rfl
  have lo : ∀ j : Nat, (j : Int) < (v.1 0 30).toInt → u.1 29 j = v.1 29 j := fun j hj => by
    rw [eu]
    exact x2.2.2.2.2 j hj
  have kn : knM K u = knM K v := by
    unfold knM
    rw [g30]
    refine List.map_congr_left (fun j hj => ?_)
    have := List.mem_range.mp hj
    have := natI z3.1
    rw [lo j (by omega)]
  refine ⟨a, ?_, ⟨⟨JU.1, JU.2.2⟩, (A0.tn x2.2.1).nt A2, by rw [eu]; exact x2.2.2.1, by rw [g30]; exact Int.le_refl _, lo⟩, g30, kn⟩
  unfold gInner
  rw [x1, Option.bind_some, kn, eu]
  rfl
end ZZB
