/-! the reference's orders: while -/
section WTW
variable {n : Int} {K : TK} {e : PE} {v u w x y X : MS} {a b d a0 cc ca : List EV} {q : EV} {r pa pb pd o zv zn T A bk : Int32} {c : RM1} {E : EvE} {S : EvS} {Es : FE} {Ss : FS} {k : Nat} {cl cl' : Int} {g : Bool × Int32 × Bool} {p : Nat} {Bd Cd : D3}
theorem CFq.en (N : ENq v u) : CFq v u := CFq.sm (by rw [N.1.2.1]; exact Int.le_refl _) N.1.2.2.1 N.1.2.2.2.1 ⟨N.1.2.2.2.2.1, N.1.2.2.2.2.2.1, N.1.2.2.2.2.2.2⟩ (fun j _ => by rw [N.1.1])
theorem had_w {i : Nat} {z : Int32} (h : ∀ b ∈ [62, 64, 66, 63], ∀ j : Nat, (j : Int) < (v.1 0 52).toInt → w.1 b j = v.1 b j) : ∀ b ∈ [62, 64, 66, 63], ∀ j : Nat, (j : Int) < (v.1 0 52).toInt → (wA w 0 i z).1 b j = v.1 b j := fun B hB j hj => by
  have := h B hB j hj
  simp only [List.mem_cons, List.not_mem_nil, or_false] at hB
  rcases hB with rfl | rfl | rfl | rfl <;> exact this
/-- the inside, back, the end -/
theorem loopT (B : BDq n K e x w pa pb b) (hpa : pa.toInt ≠ -1) (xs : kpS v x) (z52 : 0 ≤ (v.1 0 52).toInt) (x0 : 0 ≤ (x.1 0 15).toInt) (w9 : (w.1 0 15).toInt ≤ 90000) (X13 : X.1 13 = upd (w.1 13) (w.1 0 15).toNatClampNeg 12) (X14 : ∀ j : Nat, (x.1 0 15).toInt ≤ j → X.1 14 j = upd (w.1 14) (w.1 0 15).toNatClampNeg bk j) (X15 : X.1 0 15 = w.1 0 15 + 1) (X39 : X.1 0 39 = w.1 0 39) (X27 : X.1 0 27 = w.1 0 27) (Xa : X.1 35 = w.1 35 ∧ X.1 38 = w.1 38 ∧ X.1 25 = w.1 25) (X52 : X.1 0 52 = w.1 0 52) (X54 : X.1 0 54 = w.1 0 54) (Xh : X.1 62 = w.1 62 ∧ X.1 63 = w.1 63 ∧ X.1 64 = w.1 64 ∧ X.1 66 = w.1 66) (h : Q_m_ends X u) (hq : q.1 = 19) (hbk : bk.toInt = (w.1 0 15).toInt + q.2.2.2.2.1) (hB : Bd.2.1 = loL b + 1) (hC : pb.toInt = (x.1 0 15).toInt + Cd.2.1) : ((u.1 0 15).toInt = (x.1 0 15).toInt + loL b + 1 ∧ CFq x u ∧ CJ x u ∧ MOq K u (x.1 0 39).toInt (x.1 0 15).toNatClampNeg (rsv Bd Cd b ++ [q])) ∧ (∀ j : Nat, (j : Int) < (x.1 0 15).toInt → u.1 13 j = x.1 13 j ∧ u.1 14 j = X.1 14 j) ∧ ((u.1 0 52 = v.1 0 52 ∧ u.1 0 54 = v.1 0 54 ∧ u.1 0 55 = v.1 0 55 ∧ u.1 0 56 = v.1 0 56 ∧ u.1 0 58 = v.1 0 58) ∧ ∀ b ∈ [62, 64, 66, 63], ∀ j : Nat, (j : Int) < (v.1 0 52).toInt → u.1 b j = v.1 b j) ∧ ENq X u := by
  obtain ⟨JB, ⟨b1, b2, b3, b4⟩, ⟨b5, -⟩, b6, b7⟩ := id B
  have nx := natI x0
  have nw := natI (a := w.1 0 15) (by omega)
  have i15 : (X.1 0 15).toInt = (w.1 0 15).toInt + 1 := by rw [X15]; exact add_z rfl (by decide) (by omega) (by omega)
  have ch := CHr.br b b4
  rw [← b5, ← X54] at ch
  have rg : ∀ j, j ∈ bps 30 (x.1 0 15).toNatClampNeg b → (x.1 0 15).toNatClampNeg ≤ j ∧ j < (x.1 0 15).toNatClampNeg + loL b := fun j hj => bps_rng (Or.inl rfl) b hj
  have xw : ∀ j : Nat, (x.1 0 15).toNatClampNeg ≤ j → j < (x.1 0 15).toNatClampNeg + loL b → X.1 14 j = w.1 14 j := fun j j1 j2 => by
    rw [X14 j (by omega)]
    exact updN_ (by omega)
  have ch2 := CHr.cg (f' := X.1 14) _ (fun j hj => xw j (rg j hj).1 (rg j hj).2) ch
  have N := oEnds h ch2 (bps_dec (Or.inl rfl) b) (fun j hj => by have := rg j hj; omega)
  obtain ⟨⟨n1, n2⟩, n3⟩ := N
  have kX : CFq w X := CFq.sm (by omega) X39 X27 Xa (fun j hj => by rw [X13]; exact updN_ (by omega))
  have kU : CFq w u := kX.tr (CFq.en n3)
  have u15 : (u.1 0 15).toInt = (w.1 0 15).toInt + 1 := by rw [n3.1.2.1]; exact i15
  have u13 : u.1 13 = upd (w.1 13) (w.1 0 15).toNatClampNeg 12 := n3.1.1.trans X13
  have out : ∀ j : Nat, (j < (x.1 0 15).toNatClampNeg ∨ (x.1 0 15).toNatClampNeg + loL b ≤ j) → u.1 14 j = X.1 14 j := fun j hj => n2 j (fun z => by have := rg j z; omega)
  have MB : MOq K u (x.1 0 39).toInt (x.1 0 15).toNatClampNeg (rsv Bd Cd b) := by
    refine rsM (T := X.1 0 15) (A := pb) kU (Int.le_refl _) b Bd Cd b4 (fun j j1 j2 => ⟨?_, fun h30 _ => ?_, fun h30 => n1 j h30, fun h31 => ?_⟩) (by rw [i15, hB]; omega) (by rw [hC]; omega)
    · rw [u13]; exact updN_ (by omega)
    · rw [n2 j h30, xw j j1 j2]
    · rw [n2 j (fun z => bps_dj b z h31), xw j j1 j2]
      exact MSq.agn (decide_eq_false hpa) b b4 j h31
  refine ⟨⟨by omega, (CFq.of b2).tr kU, b3.cf kU (n3.1.2.2.1.trans X39), MB.app (MOq.one ?_)⟩, fun j hj => ⟨?_, out j (Or.inl (by omega))⟩, endsK B xs z52 X52 Xh n3, n3⟩
  · rw [loL_rsv, show (x.1 0 15).toNatClampNeg + loL b = (w.1 0 15).toNatClampNeg by omega]
    have l1 : loE q = 1 := by
      obtain ⟨t, r⟩ := q
      have hq : t = _ := hq
      subst hq
      exact loE1
    have o1 : oEv q = 12 := by
      obtain ⟨t, r⟩ := q
      have hq : t = _ := hq
      subst hq
      rfl
    refine ⟨by rw [l1]; omega, Or.inr ⟨by rw [u13, o1]; exact updS, ?_⟩⟩
    unfold moA
    rw [if_pos (Or.inr (Or.inr (Or.inr hq))), out _ (Or.inr (by omega)), X14 _ (by omega), updS, hbk]
    omega
  · rw [u13, ← (b2.1.2 j hj).1]
    exact updN_ (by omega)
set_option maxHeartbeats 1600000 in
theorem oWhileM (hX : XMe n K (QME k) E) (hE : HME n K (QME k) Es) (hS : XMs9 n K c S) (hSs : HMS n K c Ss) (h : Q_m_rounds k c v false u) (J : JM n K e v) (hk : 2 ≤ (e.1 (v.1 0 47)).toInt) : ∃ a, gWhile E S e (knM K v) (v.1 0 32) (v.1 0 47 + 1) = some (a, knM K u, u.1 0 47) ∧ SOq n K e v u a := by
  have JU := (rWhile (g := gLq v) hE hSs h J rfl hk).jj
  obtain ⟨z1, z2, z3, z4, z5, z6, z15, z8, z9, z10, z11, z12, z13, z14, h⟩ := h
  have p0 := z15.1
  rcases h with ⟨u9, -, f9, -⟩ | ⟨h1, k1, ⟨u9, -, f9, -⟩ | ⟨r18, u17, h2, k2, ⟨u9, -, f9, -⟩ | ⟨u33, h3, k3, x51, -, x70, -, u85, h4, -, -, eu⟩⟩⟩
  · cases f9
  · cases f9
  · cases f9
  have JO := (rOpens (g := g00) h1 J hk).jj
  obtain ⟨V, hV⟩ : ∃ V, V = (wA (wA v 0 47 ((v.1 0 47) + (1 : Int32))) 0 48 ((v.1 0 48) + (1 : Int32))) := ⟨_, rfl⟩
  rw [← hV] at JO h2 k2
  have v47 : V.1 0 47 = v.1 0 47 + 1 := by rw [hV]; rfl
  have v15 : V.1 0 15 = v.1 0 15 := by rw [hV]; rfl
  have v29 : V.1 29 = v.1 29 := by rw [hV]; rfl
  have v30 : V.1 0 30 = v.1 0 30 := by rw [hV]; rfl
  have v32 : V.1 0 32 = v.1 0 32 := by rw [hV]; rfl
  have kV : kpS v V := by rw [hV]; exact ⟨⟨rfl, rfl, rfl, rfl, rfl⟩, rfl, rfl, rfl, rfl⟩
  have AV : OA K v V [] := by rw [hV]; exact OA.sm rfl rfl rfl rfl rfl rfl rfl rfl
  obtain ⟨Z, hZ⟩ : ∃ Z, Z = (wA (wA (wA V 13 ((v.1 0 15).toNatClampNeg) (13 : Int32)) 14 ((v.1 0 15).toNatClampNeg) (0 : Int32)) 0 15 ((v.1 0 15) + (1 : Int32))) := ⟨_, rfl⟩
  rw [← hZ] at h2 k2
  have mZ : EMS 0 V Z := by rw [hZ]; exact EMS.w0 (EMS.wa (EMS.wa EMS.rf (by decide)) (by decide)) (by decide)
  have z47 : Z.1 0 47 = v.1 0 47 + 1 := by rw [hZ]; exact v47
  have z15' : Z.1 0 15 = v.1 0 15 + 1 := by rw [hZ]; rfl
  have z29 : Z.1 29 = v.1 29 := by rw [hZ]; exact v29
  have z30 : Z.1 0 30 = v.1 0 30 := by rw [hZ]; exact v30
  have z32 : Z.1 0 32 = v.1 0 32 := by rw [hZ]; exact v32
  have kZ : kpS v Z := by rw [hZ]; exact kV
  have AZ : OA K V Z [evx 24 0 0] := by
    rw [hZ, ← v15]
    exact OA.say (o := 13) (z := 0) rfl rfl rfl ⟨by rw [v15]; exact p0, by rw [v15]; omega⟩ rfl rfl ⟨rfl, rfl, rfl⟩ loE1 rfl (show upd (V.1 14) _ 0 _ = 0 from updS)
  have A0 : OA K v Z [evx 24 0 0] := AV.tn AZ p0
  obtain ⟨w, ca, x1, x2, ⟨JD, ND1⟩, ⟨d13, d14, d15, d60⟩, ⟨d39, d27, d35, d38, d25⟩, ⟨d29, d30, d32⟩, kZw, kwu, l15, l47, l47b⟩ := oCondM hX hE h2 k2 (mZ.j JO)
  rw [knM_of z29 z30, z32, z47] at x1
  have Aw : OA K v w ([evx 24 0 0] ++ ca) := A0.tr x2 p0
  have w15 := Aw.1
  obtain ⟨hd, hhd⟩ : ∃ hd, hd = [evx 24 0 0] ++ ca := ⟨_, rfl⟩
  rw [← hhd] at Aw w15
  have i17 : (u17.1 0 15).toInt = (w.1 0 15).toInt + 1 := by rw [d15]; exact add_z rfl (by decide) (by omega) (by omega)
  obtain ⟨b, y1, y2⟩ := oBodyM hS hSs h3 JD ND1
  have kn17 : knM K u17 = knM K v := (knM_of d29 d30).trans (knM_of z29 z30)
  rw [kn17, d32, z32] at y1
  have b15 := y2.2.1.1
  have l33 := k3.2.1
  have m15 := k3.2.2.2.1
  obtain ⟨X, hX9⟩ : ∃ X, X = (wA (wA (wA (wA (wA (wA (wA (wA u33 11 ((u33.1 0 12).toNatClampNeg) (0 : Int32)) 0 12 ((u33.1 0 12) + (1 : Int32))) 11 ((u33.1 0 12).toNatClampNeg) x51) 13 ((u33.1 0 15).toNatClampNeg) (12 : Int32)) 14 ((u33.1 0 15).toNatClampNeg) (v.1 0 15)) 0 15 ((u33.1 0 15) + (1 : Int32))) 11 r18.toNatClampNeg x70) 14 ((u17.1 0 60).toNatClampNeg) ((u33.1 0 15) + (1 : Int32))) := ⟨_, rfl⟩
  rw [← hX9] at h4
  have nv := natI p0
  have n17 := natI (a := u17.1 0 15) (by omega)
  have nw := natI (a := w.1 0 15) (by omega)
  have n33 := natI (a := u33.1 0 15) (by omega)
  have p15 : ((u33.1 0 15) + (1 : Int32)).toInt = (u33.1 0 15).toInt + 1 := add_z rfl (by decide) (by omega) (by omega)
  have X14 : X.1 14 = upd (upd (u33.1 14) (u33.1 0 15).toNatClampNeg (v.1 0 15)) (w.1 0 15).toNatClampNeg ((u33.1 0 15) + (1 : Int32)) := by rw [hX9, d60]; rfl
  have L := loopT (v := v) (bk := v.1 0 15) (q := bwE 19 0 (hd ++ [fwE 16 0 (b ++ [evx 19 0 0])] ++ b)) (Bd := d3p (b ++ [evx 19 0 0])) (Cd := d3n (hd ++ [fwE 16 0 (b ++ [evx 19 0 0])])) y2 (by omega) ((kZ.tr kZw).tr kwu) (by omega) (by omega) (by omega) (by rw [hX9]; rfl) (fun j hj => by
      rw [X14]
      exact updN_ (by omega)) (by rw [hX9]; rfl) (by rw [hX9]; rfl) (by rw [hX9]; rfl) (by rw [hX9]; exact ⟨rfl, rfl, rfl⟩) (by rw [hX9]; rfl) (by rw [hX9]; rfl) (by rw [hX9]; exact ⟨rfl, rfl, rfl, rfl⟩) h4 rfl (by
      show _ = _ + -((loL (hd ++ [fwE 16 0 (b ++ [evx 19 0 0])] ++ b) : Nat) : Int)
      rw [loL_app, loL_app, show loL [fwE 16 0 (b ++ [evx 19 0 0])] = 1 from rfl]
      omega) (by
      show ((loL (b ++ [evx 19 0 0]) : Nat) : Int) = _
      rw [loL_app, show loL [evx 19 0 0] = 1 from rfl]
      omega) (by
      show _ = _ + -((loL (hd ++ [fwE 16 0 (b ++ [evx 19 0 0])]) : Nat) : Int)
      rw [loL_app, show loL [fwE 16 0 (b ++ [evx 19 0 0])] = 1 from rfl]
      omega)
  obtain ⟨⟨g1, g2, g3, g4⟩, g5, g6, g7⟩ := L
  have kwx : CFq w u17 := CFq.sm (by omega) d39 d27 ⟨d35, d38, d25⟩ (fun j hj => by rw [d13]; exact updN_ (by omega))
  have k85 : CFq w u85 := kwx.tr g2
  have q13 : ∀ j : Nat, (j : Int) < (w.1 0 15).toInt → u85.1 13 j = w.1 13 j ∧ u85.1 14 j = w.1 14 j := fun j hj => by
    have G := g5 j (by omega)
    refine ⟨by rw [G.1, d13]; exact updN_ (by omega), ?_⟩
    rw [G.2, X14]
    refine Eq.trans (updN_ (by omega)) (Eq.trans (updN_ (by omega)) ?_)
    rw [(y2.2.1.2.1.1.2 j (by omega)).2, d14]
    exact updN_ (by omega)
  have FU : OF w u85 := OF.cf k85 q13
  have gm := g5 (w.1 0 15).toNatClampNeg (by omega)
  have AU : OA K v u85 (hd ++ [fwE 16 0 (b ++ [evx 19 0 0])] ++ (rsv (d3p (b ++ [evx 19 0 0])) (d3n (hd ++ [fwE 16 0 (b ++ [evx 19 0 0])])) b ++ [bwE 19 0 (hd ++ [fwE 16 0 (b ++ [evx 19 0 0])] ++ b)])) := by
    refine ⟨?_, Aw.2.1.tr FU, ?_, ((Aw.2.2.2.up FU (Int.le_refl _)).app (MOq.one ?_)).app ?_⟩
    · rw [loL_app, loL_app, loL_app, loL_rsv, show loL [fwE 16 0 (b ++ [evx 19 0 0])] = 1 from rfl, show loL [bwE 19 0 (hd ++ [fwE 16 0 (b ++ [evx 19 0 0])] ++ b)] = 1 from rfl]
      omega
    · exact (Aw.2.2.1.cf kwx d39).tc g3 ((CFq.of Aw.2.1).tr kwx) g2
    · rw [show (v.1 0 15).toNatClampNeg + loL hd = (w.1 0 15).toNatClampNeg by omega]
      refine moE.jump (Or.inl rfl) (by omega) (by rw [gm.1, d13]; exact updS) ?_
      rw [gm.2, X14, updS, p15]
      show _ = _ + ((1 : Int) + (loL (b ++ [evx 19 0 0]) : Int))
      rw [loL_app, show loL [evx 19 0 0] = 1 from rfl]
      omega
    · rw [loL_app, show loL [fwE 16 0 (b ++ [evx 19 0 0])] = 1 from rfl, show (v.1 0 15).toNatClampNeg + (loL hd + 1) = (u17.1 0 15).toNatClampNeg by omega]
      exact g4.up OF.rf (by rw [d39]; exact Aw.2.1.2.1.1)
  have TU : OA K u85 u [] := by rw [eu]; exact OA.w0
  have g29 : u.1 29 = u33.1 29 := by rw [eu]; exact g7.2.1.1.trans (by rw [hX9]; rfl)
  have g30 : u.1 0 30 = v.1 0 30 := by rw [eu]; exact g7.2.1.2.1.trans (by rw [hX9]; exact y2.2.2.2.2.2.1.trans (d30.trans z30))
  have lo : ∀ j : Nat, (j : Int) < (v.1 0 30).toInt → u.1 29 j = v.1 29 j := fun j hj => by
    rw [g29, y2.2.2.2.2.2.2.1 j (by rw [d30, z30]; exact hj), d29, z29]
  have kn : knM K u = knM K v := by
    rw [← kn17, ← y2.2.2.2.2.2.2.2]
    exact knM_of g29 (by rw [g30, y2.2.2.2.2.2.1, d30, z30])
  refine ⟨_, ?_, ⟨JU.1, JU.2.2⟩, SAq.oh (AU.nt TU p0) (by rw [eu]; exact g6.1) (by rw [eu]; exact had_w g6.2), ?_, by rw [g30]; exact Int.le_refl _, lo⟩
  · unfold gWhile
    rw [x1, Option.bind_some, y1, Option.bind_some, kn]
    have e47 : u.1 0 47 = u33.1 0 47 := by rw [eu]; exact g7.2.1.2.2.2.trans (by rw [hX9]; rfl)
    rw [e47, hhd]
    unfold gWhileL
    rw [← List.append_assoc ([evx 24 0 0] ++ ca ++ [fwE 16 0 (b ++ [evx 19 0 0])])]
  · rw [eu]
    exact g7.2.1.2.2.1.trans (by rw [hX9]; exact y2.2.2.2.2.1.trans (d32.trans z32))
end WTW
