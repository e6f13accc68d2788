/-! the reference's words: for -/
section ZZI
variable {n : Int} {K : TK} {e : PE} {v u w x y X G G1 W ub w0 : MS} {a b d a0 cc ca st hl : List EV} {q : EV} {r pa pb pd o zv zn T A bk tp d0 : Int32} {c : RM1} {E : EvE} {S : EvS} {Es : FE} {Ss : FS} {k : Nat} {cl cl' m : Int} {g : Bool × Int32 × Bool} {p : Nat}
/-- one word that is final -/
theorem j1w {z z' : Int32} {F : Nat → Int32} {i p : Nat} (h : F p = z) (hz : ([z] : List Int32)[i]? = some z') : F (p + i) = z' := by
  match i, hz with
  | 0, hz =>
    rw [Nat.add_zero, h]
    exact Option.some.inj hz
  | i + 1, hz => simp at hz
/-- from the jump over the step on -/
theorem forQ (g11 : G1.1 11 = upd (G.1 11) (G.1 0 12).toNatClampNeg 0) (g12 : G1.1 0 12 = G.1 0 12 + 1) (gS : SMw G G1) (s : WAi K G1 w st) (w11 : W.1 11 = upd (upd (upd (w.1 11) (w.1 0 12).toNatClampNeg 0) (w.1 0 12).toNatClampNeg (jW 0 ((4 : Int32) * (tp - w.1 0 12)))) (G.1 0 12).toNatClampNeg (jW 0 ((4 : Int32) * ((w.1 0 12 + 1) - G.1 0 12)))) (w12 : W.1 0 12 = w.1 0 12 + 1) (wS : SMw w W) (w59 : W.1 0 59 = d0) (B : BDb n K e W ub (G.1 0 12 + 1) b) (hpa : (G.1 0 12 + 1).toInt ≠ -1) (X11 : ∀ j : Nat, (G.1 0 12).toInt ≤ j → X.1 11 j = upd (upd (ub.1 11) (ub.1 0 12).toNatClampNeg 0) (ub.1 0 12).toNatClampNeg (jW 0 ((4 : Int32) * ((G.1 0 12 + 1) - ub.1 0 12))) j) (X12 : X.1 0 12 = ub.1 0 12 + 1) (X53 : X.1 0 53 = ub.1 0 53) (XS : SMw ub X) (h : Q_m_ends X u) (hh : tp.toInt + lwL hl = (G.1 0 12).toInt + 1) : BDw G (lwL ([fwE 19 0 (st ++ [evx 19 0 0])] ++ st ++ [bwE 19 0 (hl ++ st)] ++ (rsv (d3p (b ++ [evx 19 0 0])) (d3n (st ++ [evx 19 0 0])) b ++ [bwE 19 0 (st ++ [evx 19 0 0] ++ b)]))) → LQw K (wR G (u.1 11)) (wR X (u.1 11)) d0 (ub.1 0 59) ([fwE 19 0 (st ++ [evx 19 0 0])] ++ st ++ [bwE 19 0 (hl ++ st)] ++ (rsv (d3p (b ++ [evx 19 0 0])) (d3n (st ++ [evx 19 0 0])) b ++ [bwE 19 0 (st ++ [evx 19 0 0] ++ b)])) ∧ (∀ j : Nat, j < (G.1 0 12).toNatClampNeg → u.1 11 j = X.1 11 j ∧ ub.1 11 j = G.1 11 j) ∧ ((ub.1 0 12).toInt = (G.1 0 12).toInt + lwL st + lwL b + 2 ∧ (G.1 0 43).toInt ≤ (X.1 0 43).toInt ∧ (X.1 0 12).toInt = (ub.1 0 12).toInt + 1) := by
  intro B0
  obtain ⟨q1, q2, q3⟩ := B0
  rw [lwL_app, lwL_app, lwL_app, lwL_app, lwL_rsv, show lwL [fwE 19 0 (st ++ [evx 19 0 0])] = 1 from rfl, show lwL [bwE 19 0 (hl ++ st)] = 1 from rfl, show lwL [bwE 19 0 (st ++ [evx 19 0 0] ++ b)] = 1 from rfl] at q2
  have e19 : lwL [evx 19 0 0] = 1 := rfl
  have i1 : (G1.1 0 12).toInt = (G.1 0 12).toInt + 1 := by rw [g12]; exact ad1 q1 (by omega)
  have HS := s ⟨by omega, by omega, by rw [gS.2.2]; exact q3⟩
  have s12 := HS.1
  have s43 := HS.2.1.2.1.1
  rw [gS.2.2] at s43
  have iW : (W.1 0 12).toInt = (w.1 0 12).toInt + 1 := by rw [w12]; exact ad1 (by omega) (by omega)
  obtain ⟨-, B, -⟩ := B
  obtain ⟨⟨b1, b2, b3, b4, b5⟩, b6, -, b8⟩ := B ⟨by omega, by omega, by rw [wS.2.2]; omega⟩
  have b43 := b2.2.1.1
  rw [wS.2.2] at b43
  obtain ⟨N, NR⟩ := oEndsW h
  have ip : (G.1 0 12 + 1).toInt = (G.1 0 12).toInt + 1 := ad1 q1 (by omega)
  have iX : (X.1 0 12).toInt = (ub.1 0 12).toInt + 1 := by rw [X12]; exact ad1 (by omega) (by omega)
  have i134 : (w.1 0 12 + 1).toInt = (w.1 0 12).toInt + 1 := ad1 (by omega) (by omega)
  have nG := natI q1
  have nG1 := natI (a := G1.1 0 12) (by omega)
  have nw := natI (a := w.1 0 12) (by omega)
  have nW := natI (a := W.1 0 12) (by omega)
  have nu := natI (a := ub.1 0 12) (by omega)
  have rg : ∀ j, j ∈ bpw 30 (W.1 0 12).toNatClampNeg b → (W.1 0 12).toNatClampNeg ≤ j ∧ j < (W.1 0 12).toNatClampNeg + lwL b := fun j hj => bpw_rng (Or.inl rfl) b hj
  have xu : ∀ j : Nat, (G.1 0 12).toInt ≤ j → j ≠ (ub.1 0 12).toNatClampNeg → X.1 11 j = ub.1 11 j := fun j j1 j2 => by rw [X11 j j1, updN_ j2, updN_ j2]
  have ch := CHr.bw b b4
  rw [← b6, ← X53] at ch
  have ch2 := CHr.cg (f' := X.1 11) _ (fun j hj => xu j (by have := rg j hj; omega) (by have := rg j hj; omega)) ch
  obtain ⟨n1, n2⟩ := NR _ ch2 (bpw_dec (Or.inl rfl) b) (fun j hj => by have := rg j hj; omega)
  obtain ⟨F, hF⟩ : ∃ F, F = u.1 11 := ⟨_, rfl⟩
  rw [← hF] at n1 n2 ⊢
  have out : ∀ j : Nat, (j < (W.1 0 12).toNatClampNeg ∨ (W.1 0 12).toNatClampNeg + lwL b ≤ j) → F j = X.1 11 j := fun j hj => n2 j (fun z => by have := rg j z; omega)
  have mid : ∀ j : Nat, (G.1 0 12).toNatClampNeg ≤ j → j < (W.1 0 12).toNatClampNeg → F j = W.1 11 j := fun j j1 j2 => by
    rw [out j (Or.inl j2), xu j (by omega) (by omega), b2.1.2 j (by omega)]
  have L1 : LQw K (wR G F) (wR G1 F) d0 d0 [fwE 19 0 (st ++ [evx 19 0 0])] := LQw.wd i1 gS q1 (fun i z hz => j1w (z := jW 0 (jr (fwE 19 0 (st ++ [evx 19 0 0])).2.2.2.2.2 0)) (by
    rw [mid _ (Nat.le_refl _) (by omega), w11, updS, jrE (d := (fwE 19 0 (st ++ [evx 19 0 0])).2.2.2.2.2) (k := 0) (by
      rw [fwD (k := 1) (by decide), lwL_app, e19]
      omega)]) hz) rfl rfl
  have L2 : LQw K (wR G1 F) (wR w F) d0 d0 st := LQw.wa (HS.wR (by omega) (fun j g1 g2 => by
    rw [mid j (by omega) (by omega), w11, updN_ (by omega), updN_ (by omega), updN_ (by omega)]))
  have L3 : LQw K (wR w F) (wR W F) d0 d0 [bwE 19 0 (hl ++ st)] := LQw.wd iW wS (by omega) (fun i z hz => j1w (z := jW 0 (jr (bwE 19 0 (hl ++ st)).2.2.2.2.2 0)) (by
    rw [mid _ (by omega) (by omega), w11, updN_ (by omega), updS, jrE (d := (bwE 19 0 (hl ++ st)).2.2.2.2.2) (k := 0) (by
      show _ = -((lwL (hl ++ st) : Nat) : Int) - 0
      rw [lwL_app]
      omega)]) hz) rfl rfl
  have L4 : LQw K (wR W F) (wR ub F) d0 (ub.1 0 59) (rsv (d3p (b ++ [evx 19 0 0])) (d3n (st ++ [evx 19 0 0])) b) := by
    rw [b8, w59]
    rw [w59] at b4
    refine LQw.rs (T := X.1 0 12) (A := G.1 0 12 + 1) b1 b2 b3 b4 b5 (by omega) (by omega) (fun j j1 j2 => ⟨fun g30 _ => ?_, fun g30 => n1 j g30, fun g31 => ?_⟩) ?_ ?_
    · rw [n2 j g30, xu j (by omega) (by omega)]
    · rw [n2 j (fun z => bpw_dj (Or.inl rfl) (Or.inr (Or.inl rfl)) (by decide) b z g31), xu j (by omega) (by omega)]
      exact MWq.agn (decide_eq_false hpa) b b4 j g31
    · show _ = _ + ((lwL (b ++ [evx 19 0 0]) : Nat) : Int)
      rw [lwL_app, e19]
      omega
    · show _ = _ + -((lwL (st ++ [evx 19 0 0]) : Nat) : Int)
      rw [lwL_app, e19]
      omega
  have L5 : LQw K (wR ub F) (wR X F) (ub.1 0 59) (ub.1 0 59) [bwE 19 0 (st ++ [evx 19 0 0] ++ b)] := LQw.wd iX XS (by omega) (fun i z hz => j1w (z := jW 0 (jr (bwE 19 0 (st ++ [evx 19 0 0] ++ b)).2.2.2.2.2 0)) (by
    rw [out _ (by omega), X11 _ (by omega), updS, jrE (d := (bwE 19 0 (st ++ [evx 19 0 0] ++ b)).2.2.2.2.2) (k := 0) (by
      show _ = -((lwL (st ++ [evx 19 0 0] ++ b) : Nat) : Int) - 0
      rw [lwL_app, lwL_app, e19]
      omega)]) hz) rfl rfl
  have W0 : 0 ≤ ((wR W F).1 0 12).toInt := by show 0 ≤ (W.1 0 12).toInt; omega
  have W3 : 0 ≤ ((wR W F).1 0 43).toInt := by show 0 ≤ (W.1 0 43).toInt; rw [wS.2.2]; omega
  refine ⟨((L1.tr L2 q1 q3).tr L3 q1 q3).tr (L4.tr L5 W0 W3) q1 q3, fun j hj => ⟨out j (by omega), ?_⟩, by omega, by rw [XS.2.2]; omega, iX⟩
  rw [b2.1.2 j (by omega), w11, updN_ (by omega), updN_ (by omega), updN_ (by omega), HS.2.1.1.2 j (by omega), g11, updN_ (by omega)]
/-- a part that may be empty -/
theorem oOptW {q : Int32 × Int32} (hX : XWe n K (QME k) E) (hq : q ∈ SC) (hp : q.1 = pa) (hm : q.2.toInt = m) (J : JM n K e w0) (h8 : Q_m_is w0 pa r) (h : (r.toInt ≠ 0 ∧ y = w0) ∨ (r.toInt = 0 ∧ ∃ u', QME k w0 false u' ∧ K_m_expression w0 u' ∧ y = (wA (wA (wA u' 13 ((u'.1 0 15).toNatClampNeg) (9 : Int32)) 14 ((u'.1 0 15).toNatClampNeg) (0 : Int32)) 0 15 ((u'.1 0 15) + (1 : Int32))))) : ∃ oc, gOpt E m e (knM K w0) (w0.1 0 32) (w0.1 0 47) = some (oc, y.1 0 47) ∧ WAi K w0 y (dropE oc) ∧ JM n K e y ∧ (y.1 29 = w0.1 29 ∧ y.1 0 30 = w0.1 0 30 ∧ y.1 0 32 = w0.1 0 32) ∧ kpW w0 y := by
  have i8 : r.toInt ≠ 0 ↔ e.1 (w0.1 0 47) = q.2 := rIs (g := g00) h8 J hq hp
  have e8 : e.1 (w0.1 0 47) = q.2 ↔ (e.1 (w0.1 0 47)).toInt = m := ⟨fun z => by rw [z, hm], fun z => Int32.toInt_inj.mp (z.trans hm.symm)⟩
  unfold gOpt
  rcases h with ⟨c8, rfl⟩ | ⟨c8, u', h1, k1, ey⟩
  · refine ⟨none, ?_, WAi.rf, J, ⟨rfl, rfl, rfl⟩, ⟨⟨rfl, rfl, rfl, rfl, rfl⟩, rfl, rfl, rfl⟩⟩
    rw [if_pos (e8.mp (i8.mp c8))]
  · obtain ⟨a, x1, x2⟩ := hX e w0 u' h1 k1 J
    have e1 : EMS 0 u' y := by rw [ey]; exact EMS.w0 (EMS.wa (EMS.wa EMS.rf (by decide)) (by decide)) (by decide)
    have A1 : WAi K u' y [evx 25 0 0] := by
      rw [ey]
      exact wDrop.nt (WAi.sm rfl rfl)
    refine ⟨some a, ?_, x2.2.1.tr A1, e1.j x2.1, by rw [ey]; exact x2.2.2, (kpW.fg k1.1).tr (by rw [ey]; exact ⟨⟨rfl, rfl, rfl, rfl, rfl⟩, rfl, rfl, rfl⟩)⟩
    rw [if_neg (fun z => i8.mpr (e8.mpr z) c8), x1, Option.bind_some, ey]
    rfl
end ZZI
