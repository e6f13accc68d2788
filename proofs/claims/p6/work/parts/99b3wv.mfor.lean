/-! the reference's orders: for -/
section WVF
variable {n : Int} {K : TK} {e : PE} {v u w x y X G G1 W ub w0 : MS} {a b d a0 cc ca st hl : List EV} {q : EV} {r pa pb pd o zv zn T A bk tp : Int32} {c : RM1} {E : EvE} {S : EvS} {Es : FE} {Ss : FS} {k : Nat} {cl cl' m : Int} {g : Bool × Int32 × Bool} {p : Nat} {Bd Cd : D3}
/-- from the order that leads over the step on -/
theorem forC (G0 : 0 ≤ (G.1 0 15).toInt ∧ (G.1 0 15).toInt ≤ 90000 ∧ (w.1 0 15).toInt ≤ 90000) (g13 : G1.1 13 = upd (G.1 13) (G.1 0 15).toNatClampNeg 12) (g14 : G1.1 14 = upd (G.1 14) (G.1 0 15).toNatClampNeg 0) (g15 : G1.1 0 15 = G.1 0 15 + 1) (g39 : G1.1 0 39 = G.1 0 39) (g27 : G1.1 0 27 = G.1 0 27) (ga : G1.1 35 = G.1 35 ∧ G1.1 38 = G.1 38 ∧ G1.1 25 = G.1 25) (s : OA K G1 w st) (w13 : W.1 13 = upd (w.1 13) (w.1 0 15).toNatClampNeg 12) (w14 : W.1 14 = upd (upd (w.1 14) (w.1 0 15).toNatClampNeg tp) (G.1 0 15).toNatClampNeg (w.1 0 15 + 1)) (w15 : W.1 0 15 = w.1 0 15 + 1) (w39 : W.1 0 39 = w.1 0 39) (w27 : W.1 0 27 = w.1 0 27) (wa : W.1 35 = w.1 35 ∧ W.1 38 = w.1 38 ∧ W.1 25 = w.1 25) (kW : kpS v W) (z52 : 0 ≤ (v.1 0 52).toInt) (B : BDq n K e W ub pa pb b) (hpa : pa.toInt ≠ -1) (hpb : pb = G.1 0 15 + 1) (w9 : (ub.1 0 15).toInt ≤ 90000) (X13 : X.1 13 = upd (ub.1 13) (ub.1 0 15).toNatClampNeg 12) (X14 : ∀ j : Nat, (G.1 0 15).toInt ≤ j → X.1 14 j = upd (ub.1 14) (ub.1 0 15).toNatClampNeg pb j) (X15 : X.1 0 15 = ub.1 0 15 + 1) (X39 : X.1 0 39 = ub.1 0 39) (X27 : X.1 0 27 = ub.1 0 27) (Xa : X.1 35 = ub.1 35 ∧ X.1 38 = ub.1 38 ∧ X.1 25 = ub.1 25) (X52 : X.1 0 52 = ub.1 0 52) (X54 : X.1 0 54 = ub.1 0 54) (Xh : X.1 62 = ub.1 62 ∧ X.1 63 = ub.1 63 ∧ X.1 64 = ub.1 64 ∧ X.1 66 = ub.1 66) (h : Q_m_ends X u) (hh : tp.toInt + loL hl = (G.1 0 15).toInt + 1) : ((u.1 0 15).toInt = (G.1 0 15).toInt + loL st + loL b + 3 ∧ CFq G u ∧ CJ G u ∧ MOq K u (G.1 0 39).toInt (G.1 0 15).toNatClampNeg ([fwE 19 0 (st ++ [evx 19 0 0])] ++ st ++ [bwE 19 0 (hl ++ st)] ++ (rsv (d3p (b ++ [evx 19 0 0])) (d3n (st ++ [evx 19 0 0])) b ++ [bwE 19 0 (st ++ [evx 19 0 0] ++ b)]))) ∧ ((∀ j : Nat, (j : Int) < (G.1 0 15).toInt → u.1 13 j = G.1 13 j ∧ u.1 14 j = X.1 14 j ∧ ub.1 14 j = G.1 14 j) ∧ (u.1 0 15).toInt = (ub.1 0 15).toInt + 1 ∧ (G.1 0 15).toInt < (ub.1 0 15).toInt) ∧ ((u.1 0 52 = v.1 0 52 ∧ u.1 0 54 = v.1 0 54 ∧ u.1 0 55 = v.1 0 55 ∧ u.1 0 56 = v.1 0 56 ∧ u.1 0 58 = v.1 0 58) ∧ ∀ b ∈ [62, 64, 66, 63], ∀ j : Nat, (j : Int) < (v.1 0 52).toInt → u.1 b j = v.1 b j) ∧ ENq X u := by
  have b15 := B.2.1.1
  have s15 := s.1
  have i1 : (G1.1 0 15).toInt = (G.1 0 15).toInt + 1 := by rw [g15]; exact add_z rfl (by decide) (by omega) (by omega)
  have iW : (W.1 0 15).toInt = (w.1 0 15).toInt + 1 := by rw [w15]; exact add_z rfl (by decide) (by omega) (by omega)
  have ip : pb.toInt = (G.1 0 15).toInt + 1 := by rw [hpb]; exact add_z rfl (by decide) (by omega) (by omega)
  have nG := natI G0.1
  have nw := natI (a := w.1 0 15) (by omega)
  have nW := natI (a := W.1 0 15) (by omega)
  have n1 := natI (a := G1.1 0 15) (by omega)
  have nu := natI (a := ub.1 0 15) (by omega)
  have e19 : loL [evx 19 0 0] = 1 := rfl
  have L := loopT (v := v) (bk := pb) (q := bwE 19 0 (st ++ [evx 19 0 0] ++ b)) (Bd := d3p (b ++ [evx 19 0 0])) (Cd := d3n (st ++ [evx 19 0 0])) B hpa kW z52 (by omega) w9 X13 (fun j hj => X14 j (by omega)) X15 X39 X27 Xa X52 X54 Xh h rfl (by
      show _ = _ + -((loL (st ++ [evx 19 0 0] ++ b) : Nat) : Int)
      rw [loL_app, loL_app, e19]
      omega) (by
      show ((loL (b ++ [evx 19 0 0]) : Nat) : Int) = _
      rw [loL_app, e19]
      omega) (by
      show _ = _ + -((loL (st ++ [evx 19 0 0]) : Nat) : Int)
      rw [loL_app, e19]
      omega)
  obtain ⟨⟨l1, l2, l3, l4⟩, l5, l6, l7⟩ := L
  have f1 : CFq G G1 := CFq.sm (by omega) g39 g27 ga (fun j hj => by rw [g13]; exact updN_ (by omega))
  have f2 : CFq G1 w := CFq.of s.2.1
  have f3 : CFq w W := CFq.sm (by omega) w39 w27 wa (fun j hj => by rw [w13]; exact updN_ (by omega))
  have bel : ∀ j : Nat, (j : Int) < (W.1 0 15).toInt → u.1 13 j = W.1 13 j ∧ u.1 14 j = X.1 14 j := l5
  have xW : ∀ j : Nat, (G.1 0 15).toInt ≤ j → (j : Int) < (W.1 0 15).toInt → u.1 14 j = W.1 14 j := fun j j1 j2 => by
    rw [(bel j j2).2, X14 j j1, ← (B.2.1.2.1.1.2 j j2).2]
    exact updN_ (by omega)
  refine ⟨⟨by omega, f1.tr (f2.tr (f3.tr l2)), ?_, ?_⟩, ⟨fun j hj => ?_, by omega, by omega⟩, l6, l7⟩
  · have c1 : CJ G w := CJ.fc f1 g39 s.2.2.1
    exact (c1.cf f3 w39).tc l3 (f1.tr (f2.tr f3)) l2
  · refine (((MOq.one ?_).app ?_).app (MOq.one ?_)).app ?_
    · refine moE.jump (Or.inr (Or.inr (Or.inr rfl))) (by omega) ?_ ?_
      · rw [(bel _ (by omega)).1, w13]
        refine Eq.trans (updN_ (by omega)) ?_
        rw [(s.2.1.1.2 _ (by omega)).1, g13]
        exact updS
      · rw [xW _ (by omega) (by omega), w14, updS, ← w15, iW]
        show _ = _ + ((1 : Int) + (loL (st ++ [evx 19 0 0]) : Int))
        rw [loL_app, e19]
        omega
    · rw [show (G.1 0 15).toNatClampNeg + loL [fwE 19 0 (st ++ [evx 19 0 0])] = (G1.1 0 15).toNatClampNeg by rw [show loL [fwE 19 0 (st ++ [evx 19 0 0])] = 1 from rfl]; omega]
      refine s.2.2.2.lf (f3.tr l2) (by rw [g39]; exact Int.le_refl _) (fun j j1 j2 => ⟨?_, ?_⟩)
      · rw [(bel j (by omega)).1, w13]; exact updN_ (by omega)
      · rw [xW j (by omega) (by omega), w14]
        exact Eq.trans (updN_ (by omega)) (updN_ (by omega))
    · rw [loL_app, show loL [fwE 19 0 (st ++ [evx 19 0 0])] = 1 from rfl, show (G.1 0 15).toNatClampNeg + (1 + loL st) = (w.1 0 15).toNatClampNeg by omega]
      refine moE.jump (Or.inr (Or.inr (Or.inr rfl))) (by omega) ?_ ?_
      · rw [(bel _ (by omega)).1, w13]; exact updS
      · rw [xW _ (by omega) (by omega), w14]
        refine (congrArg Int32.toInt (Eq.trans (updN_ (by omega)) updS)).trans ?_
        show _ = _ + -((loL (hl ++ st) : Nat) : Int)
        rw [loL_app]
        omega
    · rw [loL_app, loL_app, show loL [fwE 19 0 (st ++ [evx 19 0 0])] = 1 from rfl, show loL [bwE 19 0 (hl ++ st)] = 1 from rfl, show (G.1 0 15).toNatClampNeg + (1 + loL st + 1) = (W.1 0 15).toNatClampNeg by omega]
      exact l4.up OF.rf (by have := (f1.tr (f2.tr f3)).1.2.1; exact this)
  · have D := bel j (by omega)
    have F := s.2.1.1.2 j (by omega)
    refine ⟨?_, D.2, ?_⟩
    · rw [D.1, w13]
      refine Eq.trans (updN_ (by omega)) ?_
      rw [F.1, g13]
      exact updN_ (by omega)
    · rw [(B.2.1.2.1.1.2 j (by omega)).2, w14]
      refine Eq.trans (updN_ (by omega)) (Eq.trans (updN_ (by omega)) ?_)
      rw [F.2, g14]
      exact updN_ (by omega)
/-- a part that may be empty -/
theorem oOptM {q : Int32 × Int32} (hX : XMe n K (QME k) E) (hq : q ∈ SC) (hp : q.1 = pa) (hm : q.2.toInt = m) (J : JM n K e w0) (p0 : 0 ≤ (w0.1 0 15).toInt) (b9 : (y.1 0 15).toInt ≤ 90000) (h8 : Q_m_is w0 pa r) (h : (r.toInt ≠ 0 ∧ y = w0) ∨ (r.toInt = 0 ∧ ∃ u', QME k w0 false u' ∧ K_m_expression w0 u' ∧ (u'.1 0 15).toInt ≤ 90000 ∧ y = (wA (wA (wA u' 13 ((u'.1 0 15).toNatClampNeg) (9 : Int32)) 14 ((u'.1 0 15).toNatClampNeg) (0 : Int32)) 0 15 ((u'.1 0 15) + (1 : Int32))))) : ∃ oc, gOpt E m e (knM K w0) (w0.1 0 32) (w0.1 0 47) = some (oc, y.1 0 47) ∧ OA K w0 y (dropE oc) ∧ JM n K e y ∧ (y.1 29 = w0.1 29 ∧ y.1 0 30 = w0.1 0 30 ∧ y.1 0 32 = w0.1 0 32) ∧ kpS w0 y := by
  have i8 : r.toInt ≠ 0 ↔ e.1 (w0.1 0 47) = q.2 := rIs (g := g00) h8 J hq hp
  have e8 : e.1 (w0.1 0 47) = q.2 ↔ (e.1 (w0.1 0 47)).toInt = m := ⟨fun z => by rw [z, hm], fun z => Int32.toInt_inj.mp (z.trans hm.symm)⟩
  unfold gOpt
  rcases h with ⟨c8, rfl⟩ | ⟨c8, u', h1, k1, b1, ey⟩
  · refine ⟨none, ?_, OA.rf, J, ⟨rfl, rfl, rfl⟩, ⟨⟨rfl, rfl, rfl, rfl, rfl⟩, rfl, rfl, rfl, rfl⟩⟩
    rw [if_pos (e8.mp (i8.mp c8))]
  · obtain ⟨a, x1, x2⟩ := hX e w0 u' h1 k1 J p0
    have e1 : EMS 0 u' y := by rw [ey]; exact EMS.w0 (EMS.wa (EMS.wa EMS.rf (by decide)) (by decide)) (by decide)
    have q0 : 0 ≤ (u'.1 0 15).toInt := by have := x2.2.1.1; omega
    have A1 : OA K u' y [evx 25 0 0] := by
      rw [ey]
      exact OA.say (o := 9) (z := 0) rfl rfl rfl ⟨q0, by omega⟩ rfl rfl ⟨rfl, rfl, rfl⟩ loE1 rfl (show upd (u'.1 14) _ 0 _ = 0 from updS)
    refine ⟨some a, ?_, x2.2.1.tr A1 p0, e1.j x2.1, by rw [ey]; exact x2.2.2, (kpS.fg k1.1).tr (by rw [ey]; exact ⟨⟨rfl, rfl, rfl, rfl, rfl⟩, rfl, rfl, rfl, rfl⟩)⟩
    rw [if_neg (fun z => i8.mpr (e8.mpr z) c8), x1, Option.bind_some, ey]
    rfl
end WVF
