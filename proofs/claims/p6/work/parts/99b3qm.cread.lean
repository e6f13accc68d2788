/-! the class: items one after the other -/
def WE (L1 : List Nat) (W : Nat → Int32) (v : MS) : Prop := ∀ f : Nat, f < nF v → 0 ≤ (rF L1 v f 5).toInt ∧ (rF L1 v f 5).toInt < (v.1 0 381).toInt ∧ v.1 378 (rF L1 v f 5).toNatClampNeg = 0 ∧ (v.1 379 (rF L1 v f 5).toNatClampNeg).toInt = f ∧ (ovC v = false → ∃ m : Nat, m ≤ nC v ∧ ∀ p, PF L1 p v → W f = 2 + dsum p (v.1 378) (v.1 379) (rF L1 v f 5).toNatClampNeg + csum p [] (v.1 320) m)
/-- every ENTER deed is a function's own -/
def UQ (L1 : List Nat) (v : MS) : Prop := ovC v = false → ∀ k : Nat, (k : Int) < (v.1 0 381).toInt → v.1 378 k = 0 → ∃ f : Nat, f < nF v ∧ k = (rF L1 v f 5).toNatClampNeg
def CIq (L1 L2 : List Nat) (K : TK) (W : Nat → Int32) (v : MS) (x : IS) : Prop := (∀ p, SIq (Gp p) L2 (mkE K x.2.2) v) ∧ kC v = K ∧ (0 ≤ (v.1 0 375).toInt ∧ (v.1 0 375).toInt ≤ 40) ∧ x.2.1 = fsC L1 W v ∧ x.2.2 = gsC L2 v ∧ (∀ p, PF L1 p v → tBegF (aC (Gp p) v) = x.1) ∧ WE L1 W v ∧ UQ L1 v
def upW (W : Nat → Int32) (k : Nat) (w : Int32) : Nat → Int32 := fun f => if f = k then w else W f
theorem upW_s {W : Nat → Int32} {k : Nat} {w : Int32} : upW W k w k = w := if_pos rfl
theorem upW_n {W : Nat → Int32} {k f : Nat} {w : Int32} (h : f ≠ k) : upW W k w f = W f := if_neg h
section CRD
variable {L1 L2 : List Nat} {K : TK} {W : Nat → Int32} {v u : MS} {x : IS} {t : Bool} {r pa : Int32} {n : Nat} {S : FS}
theorem nC_le (z : 0 ≤ (v.1 0 321).toInt) (h : ovC v = false) : nC v ≤ 500 := by
  have := of_decide_eq_false h
  have := natI z
  unfold nC
  omega
theorem WE.keep {f : Nat} (z : 0 ≤ (v.1 0 321).toInt ∧ 0 ≤ (v.1 0 381).toInt) (kp : KP v u) (dp : DP v u) (hPF : ∀ p, PF L1 p u → PF L1 p v) (hr : rF L1 u f 5 = rF L1 v f 5) (h : 0 ≤ (rF L1 v f 5).toInt ∧ (rF L1 v f 5).toInt < (v.1 0 381).toInt ∧ v.1 378 (rF L1 v f 5).toNatClampNeg = 0 ∧ (v.1 379 (rF L1 v f 5).toNatClampNeg).toInt = f ∧ (ovC v = false → ∃ m : Nat, m ≤ nC v ∧ ∀ p, PF L1 p v → W f = 2 + dsum p (v.1 378) (v.1 379) (rF L1 v f 5).toNatClampNeg + csum p [] (v.1 320) m)) : 0 ≤ (rF L1 u f 5).toInt ∧ (rF L1 u f 5).toInt < (u.1 0 381).toInt ∧ u.1 378 (rF L1 u f 5).toNatClampNeg = 0 ∧ (u.1 379 (rF L1 u f 5).toNatClampNeg).toInt = f ∧ (ovC u = false → ∃ m : Nat, m ≤ nC u ∧ ∀ p, PF L1 p u → W f = 2 + dsum p (u.1 378) (u.1 379) (rF L1 u f 5).toNatClampNeg + csum p [] (u.1 320) m) := by
  obtain ⟨h1, h2, h3, h4, h5⟩ := h
  rw [hr]
  have e1 := natI h1
  have d := dp.2 (rF L1 v f 5).toNatClampNeg (by omega)
  refine ⟨h1, Int.lt_of_lt_of_le h2 dp.1, by rw [d.1]; exact h3, by rw [d.2]; exact h4, fun ov => ?_⟩
  have ov2 : ovC v = false := by
    cases q : ovC v with
    | false => rfl
    | true => rw [ov_le kp.2.2.1 q] at ov; cases ov
  obtain ⟨m, m1, m2⟩ := h5 ov2
  have n1 := nC_le z.1 ov2
  have n2 : (nC v : Int) = (v.1 0 321).toInt := natI z.1
  refine ⟨m, ?_, fun p hp => ?_⟩
  · have := kp.2.2.1
    have : (nC u : Int) = (u.1 0 321).toInt := natI (by omega)
    omega
  · rw [m2 p (hPF p hp), dsum_cg (f' := u.1 378) (g' := u.1 379) _ (fun j hj => by
      have dj := dp.2 j (by omega)
      exact ⟨dj.1.symm, dj.2.symm⟩), csum_cg (O' := []) (f' := u.1 320) m (fun j hj => ⟨Iff.rfl, fun _ => (kp.2.2.2 j (by omega) (by omega)).symm⟩)]
set_option maxHeartbeats 800000 in
theorem cItem (rd : RD L1 L2) (hS : HS L2 (QS L1 L2 39) S) (C : CIq L1 L2 K W v x) (z : 0 ≤ (v.1 0 321).toInt ∧ 0 ≤ (v.1 0 381).toInt) {r67 : Int32} {u66 : MS} (h1 : Q_x_X5_headOfItem L1 L2 v false r67 u66) (h2 : (r67.toInt ≠ 30 ∧ Q_x_X5_globalItem L1 L2 u66 r67 t u) ∨ (r67.toInt = 30 ∧ Q_x_X5_functionItem L1 L2 40 u66 t u ∧ (t = false → K_x_X5_functionItem u66 u))) : (t = false ∧ ∃ x' W', tItem S K x = .ok x' ∧ CIq L1 L2 K W' u x' ∧ (v.1 0 305).toInt + 2 ≤ (u.1 0 305).toInt) ∨ (t = true ∧ tItem S K x = .error (u.1 0 308, u.1 0 309)) := by
  obtain ⟨I, hk, J3, hf, hg, hx, we, uq⟩ := C
  have H := fun p hp => sHead (G := Gp p) h1 (I p) (hx p hp).symm hf J3
  have H0 : ∀ p, PF L1 p v → tHead K x = .ok (tBegF (aC (Gp p) u66), x.2) ∧ SIq (Gp p) L2 (mkE K x.2.2) u66 ∧ KS v u66 ∧ r67 = kb (mkE K x.2.2) (aC (Gp p) u66) ∧ FC [305] [0] v u66 ∧ RS v u66 := fun p hp => by
    rcases H p hp with ⟨-, q⟩ | ⟨q, -⟩
    · exact q
    · cases q
  obtain ⟨T0, I0, K0, e67, fr, rs⟩ := H0 _ PF_pv
  have I6 : ∀ p, SIq (Gp p) L2 (mkE K x.2.2) u66 := fun p => ⟨I0.1, I0.2.1, rfl⟩
  have e75 : u66.1 0 375 = v.1 0 375 := fr.2.1 375 (by decide)
  have rF6 : ∀ L f j, rF L u66 f j = rF L v f j := fun L f j => congrFun (rs.1 _ (by omega)) j
  have pf6 : ∀ p, PF L1 p u66 ↔ PF L1 p v := fun p => by
    unfold PF nF
    rw [e75]
    exact ⟨fun q f hf1 => by rw [← rF6]; exact q f hf1, fun q f hf1 => by rw [rF6]; exact q f hf1⟩
  have hx6 : ∀ p, PF L1 p u66 → tBegF (aC (Gp p) u66) = tBegF (aC (Gp (pv L1 v)) u66) := fun p hp => by
    have q := (H0 p ((pf6 p).mp hp)).1
    rw [T0] at q
    injection q with q
    exact (congrArg Prod.fst q).symm
  have hf6 : x.2.1 = fsC L1 W u66 := by
    rw [hf]
    unfold fsC nF
    rw [e75]
    refine List.map_congr_left (fun f _ => ?_)
    rw [rF6, rF6, rF6, rF6]
  have hg6 : x.2.2 = gsC L2 u66 := by
    rw [hg]
    unfold gsC nG
    rw [fr.2.1 377 (by decide)]
    refine List.map_congr_left (fun f _ => ?_)
    rw [rF6, rF6, rF6, rF6]
  have hk6 : kC u66 = K := by
    rw [← hk]
    exact kC_of (fr.2.2 301 (by decide)) (fr.2.2 302 (by decide)) (fr.2.2 303 (by decide)) (fr.2.1 304 (by decide)) (fr.2.1 373 (by decide))
  have z6 : 0 ≤ (u66.1 0 321).toInt ∧ 0 ≤ (u66.1 0 381).toInt := by rw [fr.2.1 321 (by decide), fr.2.1 381 (by decide)]; exact z
  have we6 : WE L1 W u66 := fun f hf1 => WE.keep z K0.1 rs.2 (fun p hp => (pf6 p).mp hp) (rF6 _ _ _) (we f (by unfold nF at hf1 ⊢; rw [← e75]; exact hf1))
  have uq6 : UQ L1 u66 := by
    intro ov k hk9 h0
    have e81 : u66.1 0 381 = v.1 0 381 := fr.2.1 381 (by decide)
    have e78 : u66.1 378 = v.1 378 := fr.2.2 378 (by decide)
    have e21 : u66.1 0 321 = v.1 0 321 := fr.2.1 321 (by decide)
    have ov1 : ovC v = false := by unfold ovC at ov ⊢; rw [← e21]; exact ov
    rw [e81] at hk9
    rw [e78] at h0
    obtain ⟨f, f1, f2⟩ := uq ov1 k hk9 h0
    exact ⟨f, by unfold nF at f1 ⊢; rw [e75]; exact f1, by rw [rF6]; exact f2⟩
  have at6 : (v.1 0 305).toInt ≤ (u66.1 0 305).toInt := by
    obtain ⟨-, -, -, -, -, -, h⟩ := h1
    rcases h with ⟨u9, -, q, -⟩ | ⟨u2, -, k1, h⟩
    · cases q
    rcases h with ⟨u9, -, q, -⟩ | ⟨u7, -, k2, r14, -, r17, -, h⟩
    · cases q
    have q1 := k1.2.2.1
    have q2 : u7.1 0 305 = u2.1 0 305 := k2.1.2.1 305 (by decide)
    rcases h with ⟨-, r23, -, u9, -, q, -⟩ | ⟨-, r30, -, ⟨-, r35, -, -, -, rfl⟩ | ⟨-, r44, -, u9, -, q, -⟩⟩
    · cases q
    · rw [q2]
      omega
    · cases q
  have J6 : 0 ≤ (u66.1 0 375).toInt ∧ (u66.1 0 375).toInt ≤ 40 := by rw [e75]; exact J3
  unfold tItem
  rw [T0, bd_ok]
  have ekb : kb (mkE K x.2.2) (tBegF (aC (Gp (pv L1 v)) u66)) = r67 := e67.symm
  show (t = false ∧ ∃ x' W', (if (kb (mkE K x.2.2) (tBegF (aC (Gp (pv L1 v)) u66))).toInt = 30 then _ else _) = _ ∧ _) ∨ (t = true ∧ (if (kb (mkE K x.2.2) (tBegF (aC (Gp (pv L1 v)) u66))).toInt = 30 then _ else _) = _)
  rw [ekb]
  rcases h2 with ⟨c30, h2⟩ | ⟨c30, h2, k2⟩
  · rw [if_neg c30]
    have G0 := fun p (hp : PF L1 p u66) => sGlob (G := Gp p) (x := (tBegF (aC (Gp (pv L1 v)) u66), x.2)) (W := W) rd h2 (I6 p) (hx6 p hp).symm hf6 hg6 hk6 (H0 p ((pf6 p).mp hp)).2.2.2.1 J6
    rcases G0 _ ((pf6 _).mpr PF_pv) with ⟨rfl, x', g1, g2, g3, g4, g5, g6, g7, g8, g9, g10, g11, g12⟩ | ⟨rfl, g⟩
    · have pfu : ∀ p, PF L1 p u → PF L1 p u66 := fun p hp f hf1 => by
        have q : nF u = nF u66 := by unfold nF; rw [g9]
        have n5 : (nF u66 : Int) = (u66.1 0 375).toInt := natI J6.1
        rw [hp f (by omega)]
        unfold rF
        rw [g8 f (by omega)]
      have rFu : ∀ f j, f < nF u66 → rF L1 u f j = rF L1 u66 f j := fun f j hf1 => by
        have n5 : (nF u66 : Int) = (u66.1 0 375).toInt := natI J6.1
        unfold rF
        rw [g8 f (by omega)]
      have nFu : nF u = nF u66 := by unfold nF; rw [g9]
      refine Or.inl ⟨rfl, x', W, g1, ⟨fun p => ⟨g5.1, g5.2.1, rfl⟩, g7, by rw [g9]; exact J6, ?_, g4, fun p hp => ?_, fun f hf1 => ?_, ?_⟩, by omega⟩
      · rw [g3]
        show x.2.1 = _
        rw [hf6]
        unfold fsC
        rw [nFu]
        refine List.map_congr_left (fun f hf1 => ?_)
        have lt := List.mem_range.mp hf1
        rw [rFu f 4 lt, rFu f 3 lt, rFu f 0 lt, rFu f 2 lt]
      · rcases G0 p (pfu p hp) with ⟨-, x2, q1, q2, -⟩ | ⟨q, -⟩
        · rw [g1] at q1
          injection q1 with q1
          rw [← q2, ← q1]
        · cases q
      · exact WE.keep z6 g6 g10 pfu (rFu f 5 (by omega)) (we6 f (by omega))
      · intro ov k hk9 h0
        have ov2 : ovC u66 = false := by
          cases w : ovC u66 with
          | false => rfl
          | true => rw [ov_le g6.2.2.1 w] at ov; cases ov
        rw [g12] at hk9
        rw [(g10.2 k hk9).1] at h0
        obtain ⟨f, f1, f2⟩ := uq6 ov2 k hk9 h0
        exact ⟨f, by rw [nFu]; exact f1, by rw [rFu f 5 f1]; exact f2⟩
    · exact Or.inr ⟨rfl, g⟩
  · rw [if_pos c30]
    have F0 := sFunI (x := (tBegF (aC (Gp (pv L1 v)) u66), x.2)) (W := W) rd hS h2 k2 I6 hx6 hf6 hk6 J6
    rcases F0 with ⟨rfl, g1, g2, g3, g4, g5, g6, g7, g8, g9, g10, g11, g12, g13, g14, g15⟩ | ⟨rfl, g⟩
    · have n5 : (nF u66 : Int) = (u66.1 0 375).toInt := natI J6.1
      have e1 : (u66.1 0 375 + 1).toInt = (u66.1 0 375).toInt + 1 := add_z rfl (by decide) (by omega) (by omega)
      have nFu : nF u = nF u66 + 1 := by unfold nF; rw [g5]; exact natS e1 J6.1
      have rFu : ∀ f j, f < nF u66 → rF L1 u f j = rF L1 u66 f j := fun f j hf1 => by
        unfold rF
        rw [g7 _ (rd.2.1 f (nF u66) (by omega) g4 (by omega))]
      have pfu : ∀ p, PF L1 p u → PF L1 p u66 := fun p hp f hf1 => by rw [hp f (by omega), rFu f 0 hf1]
      have q0 := g1 _ PF_pv
      refine Or.inl ⟨rfl, _, upW W (nF u66) (pWd (tBegF (aC (Gp (pv L1 v)) u66))), q0, ⟨g2, g3, by rw [g5]; omega, ?_, ?_, fun p hp => ?_, fun f hf1 => ?_, ?_⟩, by omega⟩
      · show x.2.1 ++ _ = fsC L1 _ u
        unfold fsC
        rw [nFu, List.range_succ, List.map_append]
        refine congr (congrArg HAppend.hAppend ?_) ?_
        · rw [hf6]
          unfold fsC
          refine List.map_congr_left (fun f hf1 => ?_)
          have lt := List.mem_range.mp hf1
          rw [rFu f 4 lt, rFu f 3 lt, rFu f 0 lt, rFu f 2 lt, upW_n (by omega)]
        · show _ = [(rF L1 u (nF u66) 4, rF L1 u (nF u66) 3, rF L1 u (nF u66) 0, rF L1 u (nF u66) 2, upW W (nF u66) (pWd (tBegF (aC (Gp (pv L1 v)) u66))) (nF u66))]
          rw [upW_s]
      · show x.2.2 = _
        rw [hg6]
        unfold gsC nG
        rw [g6]
        refine List.map_congr_left (fun g hg1 => ?_)
        have lt := List.mem_range.mp hg1
        have h7 := (I6 (pv L1 v)).1.2.2
        have n7 : ((u66.1 0 377).toNatClampNeg : Int) = (u66.1 0 377).toInt := natI h7.1
        have ne : rowA L2 g ≠ rowA L1 (nF u66) := fun q => rd.1 (nF u66) g g4 (by omega) q.symm
        unfold rF
        rw [g7 _ ne]
      · have q := g1 p hp
        rw [q0] at q
        injection q with q
        exact (congrArg Prod.fst q).symm
      · by_cases q : f = nF u66
        · rw [q, upW_s, g10]
          have nd : (nD u66 : Int) = (u66.1 0 381).toInt := natI z6.2
          refine ⟨z6.2, g11, g12, by rw [show u.1 379 (u66.1 0 381).toNatClampNeg = u66.1 0 375 from g13]; exact n5.symm, fun ov => ⟨nC u66, ?_, fun p hp => ?_⟩⟩
          · have := g8.2.2.1
            have n2 : (nC u66 : Int) = (u66.1 0 321).toInt := natI z6.1
            have : (nC u : Int) = (u.1 0 321).toInt := natI (by omega)
            omega
          · have ov2 : ovC u66 = false := by
              cases w : ovC u66 with
              | false => rfl
              | true => rw [ov_le g8.2.2.1 w] at ov; cases ov
            have n1 := nC_le z6.1 ov2
            have n2 : (nC u66 : Int) = (u66.1 0 321).toInt := natI z6.1
            rw [← hx6 p (pfu p hp)]
            show wdC (Gp p) u66 = _
            unfold wdC
            rw [if_neg (by rw [ov2]; decide)]
            show 2 + dsum p (u66.1 378) (u66.1 379) (nD u66) + csum p [] (u66.1 320) (nC u66) = _
            rw [dsum_cg (f' := u.1 378) (g' := u.1 379) (nD u66) (fun j hj => by
              have dj := g9.2 j (by omega)
              exact ⟨dj.1.symm, dj.2.symm⟩), csum_cg (O' := []) (f' := u.1 320) (nC u66) (fun j hj => ⟨Iff.rfl, fun _ => (g8.2.2.2 j (by omega) (by omega)).symm⟩)]
            rfl
        · rw [upW_n q]
          exact WE.keep z6 g8 g9 pfu (rFu f 5 (by omega)) (we6 f (by omega))
      · intro ov k hk9 h0
        have ov2 : ovC u66 = false := by
          cases w : ovC u66 with
          | false => rfl
          | true => rw [ov_le g8.2.2.1 w] at ov; cases ov
        have nd := natI z6.2
        have nu := natI (a := u.1 0 381) (by omega)
        by_cases c1 : (k : Int) < (u66.1 0 381).toInt
        · rw [(g9.2 k c1).1] at h0
          obtain ⟨f, f1, f2⟩ := uq6 ov2 k c1 h0
          exact ⟨f, by omega, by rw [rFu f 5 f1]; exact f2⟩
        · by_cases c2 : k = nD u66
          · exact ⟨nF u66, by omega, by rw [g10]; exact c2⟩
          · exact absurd h0 (g15 ov k (by unfold nD at c2 ⊢; omega) (by unfold nD; omega))
    · exact Or.inr ⟨rfl, g⟩
end CRD
