/-! the reference's orders: break, continue, return, parts -/
section WPS
variable {n : Int} {K : TK} {e : PE} {v u w x y : MS} {a b d a0 : List EV} {q : EV} {r pa pb pd tg zz : Int32} {c : RM1} {E : EvE} {S : EvS} {Es : FE} {Ss : FS} {k : Nat}
/-- an order that waits -/
theorem SAq.wt (hb : 0 ≤ (v.1 0 15).toInt ∧ (v.1 0 15).toInt ≤ 90000) (u13 : u.1 13 = upd (v.1 13) (v.1 0 15).toNatClampNeg 12) (u14 : u.1 14 = upd (v.1 14) (v.1 0 15).toNatClampNeg zz) (u15 : u.1 0 15 = v.1 0 15 + 1) (u39 : u.1 0 39 = v.1 0 39) (u27 : u.1 0 27 = v.1 0 27) (ua : u.1 35 = v.1 35 ∧ u.1 38 = v.1 38 ∧ u.1 25 = v.1 25) (us : (u.1 0 52 = v.1 0 52 ∧ u.1 0 55 = v.1 0 55 ∧ u.1 0 56 = v.1 0 56) ∧ u.1 62 = v.1 62 ∧ u.1 63 = v.1 63 ∧ u.1 64 = v.1 64 ∧ u.1 66 = v.1 66) (n52 : (v.1 0 52).toInt ≠ 0) (ht : (tg = 30 ∧ zz = v.1 0 54 ∧ u.1 0 54 = v.1 0 15 ∧ u.1 0 58 = v.1 0 58) ∨ (tg = 31 ∧ zz = (if (v.1 0 55).toInt = -1 then v.1 0 58 else v.1 0 56) ∧ u.1 0 54 = v.1 0 54 ∧ ((v.1 0 55).toInt = -1 → u.1 0 58 = v.1 0 15))) : SAq K v u [evx tg 0 0] := by
  have i15 : (u.1 0 15).toInt = (v.1 0 15).toInt + 1 := by rw [u15]; exact add_z rfl (by decide) (by omega) (by omega)
  have n0 := natI hb.1
  have l1 : loE (evx tg 0 0) = 1 := by rcases ht with ⟨t, -⟩ | ⟨t, -⟩ <;> (rw [t]; rfl)
  have lp : (gWq v).2.2 = true := decide_eq_true n52
  have m13 : u.1 13 (v.1 0 15).toNatClampNeg = 12 := by rw [u13]; exact updS
  have m14 : u.1 14 (v.1 0 15).toNatClampNeg = zz := by rw [u14]; exact updS
  refine ⟨⟨by rw [loL_cons, l1, loL_nil]; omega, ⟨⟨by omega, fun j hj => ?_⟩, ⟨by rw [u39]; exact Int.le_refl _, fun c _ => ⟨by rw [ua.1], by rw [ua.2.1]⟩⟩, u27, ua.2.2⟩, ⟨fun c c1 c2 => by rw [u39] at c2; omega, fun c d c1 c2 => by rw [u39] at c2; omega⟩, ⟨?_, trivial⟩⟩, ⟨?_, fun q => ?_⟩, us.1, fun b hb j _ => ?_⟩
  · have : j ≠ (v.1 0 15).toNatClampNeg := by omega
    exact ⟨by rw [u13]; exact updN_ this, by rw [u14]; exact updN_ this⟩
  · unfold msE
    rcases ht with ⟨t, t2, -⟩ | ⟨t, t2, -⟩
    · rw [if_pos (show (evx tg 0 0).1 = 30 from t)]
      exact ⟨by omega, m13, by rw [m14, t2], lp⟩
    · rw [if_neg (show ¬ (evx tg 0 0).1 = 30 from by show ¬ tg = 30; rw [t]; decide), if_pos (show (evx tg 0 0).1 = 31 from t)]
      refine ⟨by omega, m13, ?_, lp⟩
      rw [m14, t2]
      show (if (v.1 0 55).toInt = -1 then v.1 0 58 else v.1 0 56) = (if decide ((v.1 0 55).toInt = -1) = true then v.1 0 58 else v.1 0 56)
      by_cases g : (v.1 0 55).toInt = -1
      · rw [if_pos g, if_pos (decide_eq_true g)]
      · rw [if_neg g, if_neg (by rw [decide_eq_false g]; decide)]
  · show u.1 0 54 = (if tg = 30 then nI (v.1 0 15).toNatClampNeg else v.1 0 54)
    rcases ht with ⟨t, t2, t3, t4⟩ | ⟨t, t2, t3, t4⟩
    · rw [if_pos t, nI_nat hb.1, t3]
    · rw [if_neg (by rw [t]; decide), t3]
  · show u.1 0 58 = (if tg = 31 then nI (v.1 0 15).toNatClampNeg else v.1 0 58)
    rcases ht with ⟨t, t2, t3, t4⟩ | ⟨t, t2, t3, t4⟩
    · rw [if_neg (by rw [t]; decide), t4]
    · rw [if_pos t, nI_nat hb.1, t4 q]
  · simp only [List.mem_cons, List.not_mem_nil, or_false] at hb
    rcases hb with rfl | rfl | rfl | rfl
    · rw [us.2.1]
    · rw [us.2.2.2.1]
    · rw [us.2.2.2.2]
    · rw [us.2.2.1]
theorem oLeave (h : Q_m_leaving k v false u) (J : JM n K e v) (nd : ND v) (hk : e.1 (v.1 0 47) = 16 ∨ e.1 (v.1 0 47) = 17) : ∃ a, gLeave e (knM K v) (v.1 0 47) = some (a, knM K u, u.1 0 47) ∧ SOq n K e v u a := by
  have hk2 : 2 ≤ (e.1 (v.1 0 47)).toInt := by rcases hk with q | q <;> (rw [q]; decide)
  have JU := (rLeave (g := gLq v) h J (gLq_lo v) nd hk2).jj
  obtain ⟨z1, z2, z3, z4, z5, z6, z15, z8, z9, z10, z11, z12, z13, z14, r3, h3, -, h⟩ := h
  have i3 : r3.toInt ≠ 0 ↔ e.1 (v.1 0 47) = 16 := rIsKey (g := g00) h3 J (by decide)
  rcases h with ⟨n52, ⟨u9, -, f9, -⟩ | ⟨h1, -, ⟨u9, -, f9, -⟩ | ⟨h2, -, h⟩⟩⟩ | ⟨-, ⟨-, ⟨u9, -, f9, -⟩ | ⟨-, -, u9, -, f9, -⟩⟩ | ⟨-, f9, -⟩⟩
  · cases f9
  · cases f9
  · have JT := (rTake (g := g00) h1 J hk2).jj
    have N := oNeed (q := (59, 36)) (m := 36) h2 JT (by decide) rfl (by decide)
    have gt : gTok e 36 (v.1 0 47 + 1) = some (v.1 0 47 + 1 + 1) := if_pos N.2
    have hb : 0 ≤ (v.1 0 15).toInt ∧ (v.1 0 15).toInt ≤ 90000 := ⟨z15.1, by have := z15.2; omega⟩
    have fin : ∀ {y : MS} {tg : Int32}, u = y → (if (e.1 (v.1 0 47)).toInt = 16 then 30 else 31) = tg → SAq K v y [evx tg 0 0] → y.1 0 47 = v.1 0 47 + 1 + 1 → y.1 0 32 = v.1 0 32 → y.1 0 30 = v.1 0 30 → y.1 29 = v.1 29 → ∃ a, gLeave e (knM K v) (v.1 0 47) = some (a, knM K u, u.1 0 47) ∧ SOq n K e v u a := by
      intro y tg eu et A g1 g2 g3 g4
      refine ⟨_, ?_, ⟨JU.1, JU.2.2⟩, by rw [eu]; exact A, by rw [eu, g2], by rw [eu, g3]; exact Int.le_refl _, fun j _ => by rw [eu, g4]⟩
      unfold gLeave
      rw [gt, Option.bind_some, et, eu, g1, knM_of g4 g3]
    rcases h with ⟨c3, ⟨c5, x25, -, -, eu⟩ | ⟨c5, -, eu⟩⟩ | ⟨c3, -, eu⟩
    · have t17 : e.1 (v.1 0 47) = 17 := hk.resolve_left (fun q => i3.mpr q c3)
      exact fin (tg := 31) eu (by rw [t17]; rfl) (SAq.wt (zz := v.1 0 56) hb rfl rfl rfl rfl rfl ⟨rfl, rfl, rfl⟩ ⟨⟨rfl, rfl, rfl⟩, rfl, rfl, rfl, rfl⟩ n52 (Or.inr ⟨rfl, (if_neg c5).symm, rfl, fun q => absurd q c5⟩)) rfl rfl rfl rfl
    · have t17 : e.1 (v.1 0 47) = 17 := hk.resolve_left (fun q => i3.mpr q c3)
      exact fin (tg := 31) eu (by rw [t17]; rfl) (SAq.wt (zz := v.1 0 58) hb rfl rfl rfl rfl rfl ⟨rfl, rfl, rfl⟩ ⟨⟨rfl, rfl, rfl⟩, rfl, rfl, rfl, rfl⟩ n52 (Or.inr ⟨rfl, (if_pos c5).symm, rfl, fun _ => rfl⟩)) rfl rfl rfl rfl
    · have t16 : e.1 (v.1 0 47) = 16 := i3.mp c3
      exact fin (tg := 30) eu (by rw [t16]; rfl) (SAq.wt (zz := v.1 0 54) hb rfl rfl rfl rfl rfl ⟨rfl, rfl, rfl⟩ ⟨⟨rfl, rfl, rfl⟩, rfl, rfl, rfl, rfl⟩ n52 (Or.inl ⟨rfl, rfl, rfl, rfl⟩)) rfl rfl rfl rfl
  · cases f9
  · cases f9
  · cases f9
set_option maxHeartbeats 800000 in
theorem oRet (hX : XMe n K (QME k) E) (hE : HME n K (QME k) Es) (h : Q_m_returning k v false u) (J : JM n K e v) (hk : 2 ≤ (e.1 (v.1 0 47)).toInt) : ∃ a, gRet E e (knM K v) (v.1 0 32) (v.1 0 47) = some (a, knM K u, u.1 0 47) ∧ SOq n K e v u a := by
  have JU := (rRet (g := g00) hE h J rfl hk).jj
  obtain ⟨z1, z2, z3, z4, z5, z6, z15, z8, z9, z10, z11, z12, z13, z14, h⟩ := h
  have p0 := z15.1
  rcases h with ⟨u9, -, f9, -⟩ | ⟨h1, -, r7, h7, -, h⟩
  · cases f9
  have JT := (rTake (g := g00) h1 J hk).jj
  have i7 : r7.toInt ≠ 0 ↔ e.1 (v.1 0 47 + 1) = 36 := rIs (g := g00) h7 JT (q := (59, 36)) (by decide) rfl
  have e36 : e.1 (v.1 0 47 + 1) = 36 ↔ (e.1 (v.1 0 47 + 1)).toInt = 36 := ⟨fun q => by rw [q]; decide, fun q => Int32.toInt_inj.mp (q.trans (by decide))⟩
  have A0 : SAq K v (wA v 0 47 ((v.1 0 47) + (1 : Int32))) [] := SAq.oa OA.w0 rfl rfl rfl rfl rfl rfl rfl rfl rfl
  unfold gRet
  rcases h with ⟨c7, ⟨u9, -, f9, -⟩ | ⟨u11, h11, k11, ⟨u9, -, f9, -⟩ | ⟨hn, -, -, eu⟩⟩⟩ | ⟨c7, r44, -, ⟨u9, -, f9, -⟩ | ⟨hn, -, -, eu⟩⟩
  · cases f9
  · cases f9
  · obtain ⟨a, x1, x2⟩ := hX e _ u11 h11 k11 JT p0
    have x1 : E true e (knM K v) (v.1 0 32) (v.1 0 47 + 1) = some (a, u11.1 0 47) := x1
    have N := oNeed (q := (59, 36)) (m := 36) hn x2.1 (by decide) rfl (by decide)
    have l15 := k11.2.2.2.2.1
    have l15 : (v.1 0 15).toInt ≤ (u11.1 0 15).toInt ∧ (u11.1 0 15).toInt - 10 * (u11.1 0 47).toInt ≤ (v.1 0 15).toInt - 10 * ((v.1 0 47) + (1 : Int32)).toInt := l15
    have l47 := k11.2.1
    have i1 : ((v.1 0 47) + (1 : Int32)).toInt = (v.1 0 47).toInt + 1 := add_z rfl (by decide) (by omega) (by omega)
    have B : OA K u11 u [evx 32 0 0] := by
      rw [eu]
      exact OA.say (o := 15) (z := 0) rfl rfl rfl ⟨by omega, by omega⟩ rfl rfl ⟨rfl, rfl, rfl⟩ loE1 rfl (show upd (u11.1 14) _ 0 _ = 0 from updS)
    have g29 : u.1 29 = v.1 29 := by rw [eu]; exact x2.2.2.1
    have g30 : u.1 0 30 = v.1 0 30 := by rw [eu]; exact x2.2.2.2.1
    refine ⟨_, ?_, ⟨JU.1, JU.2.2⟩, ((A0.tn (SAq.fg x2.2.1 k11.1) p0).tr (by rw [eu] at B ⊢; exact SAq.oa B rfl rfl rfl rfl rfl rfl rfl rfl rfl) p0), by rw [eu]; exact x2.2.2.2.2, by rw [g30]; exact Int.le_refl _, fun j _ => by rw [g29]⟩
    rw [if_neg (fun q => i7.mpr (e36.mpr q) c7), x1, Option.bind_some]
    show (gTok e 36 (u11.1 0 47)).bind _ = _
    rw [gTok_of N.2, Option.bind_some, knM_of g29 g30, eu]
    rfl
  · cases f9
  · have k36 := e36.mp (i7.mp c7)
    obtain ⟨Z, hZ⟩ : ∃ Z, Z = (wA (wA (wA (wA (wA (wA v 0 47 ((v.1 0 47) + (1 : Int32))) 11 ((v.1 0 12).toNatClampNeg) r44) 0 12 ((v.1 0 12) + (1 : Int32))) 13 ((v.1 0 15).toNatClampNeg) (0 : Int32)) 14 ((v.1 0 15).toNatClampNeg) (0 : Int32)) 0 15 ((v.1 0 15) + (1 : Int32))) := ⟨_, rfl⟩
    rw [← hZ] at hn eu
    have z15' : Z.1 0 15 = v.1 0 15 + 1 := by rw [hZ]; rfl
    have i15 : ((v.1 0 15) + (1 : Int32)).toInt = (v.1 0 15).toInt + 1 := add_z rfl (by decide) (by omega) (by omega)
    have BZ : OA K v Z [evx 2 0 0] := by
      rw [hZ]
      exact OA.say (o := 0) (z := 0) rfl rfl rfl ⟨p0, by omega⟩ rfl rfl ⟨rfl, rfl, rfl⟩ loE1 rfl (show upd (v.1 14) _ 0 _ = 0 from updS)
    have B : OA K Z u [evx 32 0 0] := by
      rw [eu]
      refine OA.say (o := 15) (z := 0) ?_ ?_ ?_ ⟨by rw [z15', i15]; omega, by rw [z15', i15]; omega⟩ rfl rfl ⟨rfl, rfl, rfl⟩ loE1 rfl ?_
      · rw [z15']; rfl
      · rw [z15']; rfl
      · rw [z15']; rfl
      · rw [z15']
        exact (show upd (Z.1 14) _ 0 _ = 0 from updS)
    have g29 : u.1 29 = v.1 29 := by rw [eu, hZ]; rfl
    have g30 : u.1 0 30 = v.1 0 30 := by rw [eu, hZ]; rfl
    refine ⟨_, ?_, ⟨JU.1, JU.2.2⟩, (by rw [hZ] at BZ ⊢; exact SAq.oa BZ rfl rfl rfl rfl rfl rfl rfl rfl rfl : SAq K v Z [evx 2 0 0]).tr (by rw [eu] at B ⊢; exact SAq.oa B rfl rfl rfl rfl rfl rfl rfl rfl rfl) p0, by rw [eu, hZ]; rfl, by rw [g30]; exact Int.le_refl _, fun j _ => by rw [g29]⟩
    rw [if_pos k36, Option.bind_some]
    have gt : gTok e 36 (v.1 0 47 + 1) = some (v.1 0 47 + 1 + 1) := if_pos k36
    show (gTok e 36 (v.1 0 47 + 1)).bind _ = _
    rw [gt, Option.bind_some, knM_of g29 g30, eu]
    rfl
/-- a statement within another -/
theorem oPart (hS : XMs9 n K c S) (hSs : HMS n K c Ss) (h : Q_m_part k c v false u) (J : JM n K e v) (nd : ND v) : ∃ a, gInner S e (knM K v) (v.1 0 32) (v.1 0 47) = some (a, knM K u, u.1 0 47) ∧ SOq n K e v u a ∧ (u.1 0 30 = v.1 0 30 ∧ knM K u = knM K v) := by
  have JU := (rPart (g := gLq v) hSs h J rfl (gLq_lo v) nd).jj
  obtain ⟨z1, z2, z3, z4, z5, z6, z15, z8, z9, z10, z11, z12, z13, z14, h⟩ := h
  rcases h with ⟨u9, -, f9, -⟩ | ⟨u5, h5, k5, -, eu⟩
  · cases f9
  have J0 : JM n K e (wA v 0 31 (v.1 0 30)) := J.w (by decide)
  obtain ⟨a, x1, x2⟩ := hS e _ u5 h5 k5 J0 nd z15.1
  have x1 : S e (knM K v) (v.1 0 32) (v.1 0 47) = some (a, knM K u5, u5.1 0 47) := x1
  have A0 : SAq K v (wA v 0 31 (v.1 0 30)) [] := SAq.oa OA.w0 rfl rfl rfl rfl rfl rfl rfl rfl rfl
  have A2 : SAq K u5 u [] := by rw [eu]; exact SAq.oa (OA.sm rfl rfl rfl rfl rfl rfl rfl rfl) rfl rfl rfl rfl rfl rfl rfl rfl rfl
  have g30 : u.1 0 30 = v.1 0 30 := by rw [eu]; rfl
  have lo : ∀ j : Nat, (j : Int) < (v.1 0 30).toInt → u.1 29 j = v.1 29 j := fun j hj => by
    rw [eu]
    exact x2.2.2.2.2 j hj
  have kn : knM K u = knM K v := by
    unfold knM
    rw [g30]
    refine List.map_congr_left (fun j hj => ?_)
    have := List.mem_range.mp hj
    have := natI z3.1
    rw [lo j (by omega)]
  refine ⟨a, ?_, ⟨⟨JU.1, JU.2.2⟩, (A0.tn x2.2.1 z15.1).nt A2 z15.1, by rw [eu]; exact x2.2.2.1, by rw [g30]; exact Int.le_refl _, lo⟩, g30, kn⟩
  unfold gInner
  rw [x1, Option.bind_some, kn, eu]
  rfl
end WPS
