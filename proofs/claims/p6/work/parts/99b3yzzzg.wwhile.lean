/-! the reference's words: while -/
section ZZG
variable {n : Int} {K : TK} {e : PE} {v u w x y X : MS} {a b d a0 cc ca : List EV} {q : EV} {r pa pb pd o zv zn T A bk : Int32} {c : RM1} {E : EvE} {S : EvS} {Es : FE} {Ss : FS} {k : Nat}
theorem wMark : WAi K v v [evx 24 0 0] := WAi.no rfl (fun _ => rfl) rfl
/-- head, question, inside, back -/
theorem whileQ {u17 u33 u85 : MS} {hd : List EV} (Aw : WAi K v w hd) (dE : EMi w u17 ([bW 4195 10 0 8] ++ [-1]) []) (k59 : u17.1 0 59 = v.1 0 59) (y2 : BDb n K e u17 u33 (v.1 0 12) b) (hv : (v.1 0 12).toInt ≠ -1) (x11 : X.1 11 = upd (upd (upd (u33.1 11) (u33.1 0 12).toNatClampNeg 0) (u33.1 0 12).toNatClampNeg (jW 0 ((4 : Int32) * (v.1 0 12 - u33.1 0 12)))) (w.1 0 12 + 1).toNatClampNeg (jW 0 ((4 : Int32) * ((u33.1 0 12 + 1) - (w.1 0 12 + 1))))) (x12 : X.1 0 12 = u33.1 0 12 + 1) (x53 : X.1 0 53 = u33.1 0 53) (x59 : X.1 0 59 = u33.1 0 59) (xS : SMw u33 X) (h : Q_m_ends X u85) : BDw v (lwL (hd ++ [fwE 16 0 (b ++ [evx 19 0 0])] ++ (rsv (d3p (b ++ [evx 19 0 0])) (d3n (hd ++ [fwE 16 0 (b ++ [evx 19 0 0])])) b ++ [bwE 19 0 (hd ++ [fwE 16 0 (b ++ [evx 19 0 0])] ++ b)]))) → LQw K v u85 (v.1 0 59) (u85.1 0 59) (hd ++ [fwE 16 0 (b ++ [evx 19 0 0])] ++ (rsv (d3p (b ++ [evx 19 0 0])) (d3n (hd ++ [fwE 16 0 (b ++ [evx 19 0 0])])) b ++ [bwE 19 0 (hd ++ [fwE 16 0 (b ++ [evx 19 0 0])] ++ b)])) := by
  intro B
  obtain ⟨q1, q2, q3⟩ := B
  rw [lwL_app, lwL_app, lwL_app, lwL_rsv, show lwL [fwE 16 0 (b ++ [evx 19 0 0])] = 2 from rfl, show lwL [bwE 19 0 (hd ++ [fwE 16 0 (b ++ [evx 19 0 0])] ++ b)] = 1 from rfl] at q2
  have HW := Aw ⟨q1, by omega, q3⟩
  have w12 := HW.1
  have w43 := HW.2.1.2.1.1
  have HE := dE ⟨by omega, by show _ + ((2 : Nat) : Int) ≤ _; omega, by omega⟩
  obtain ⟨⟨⟨h1, -⟩, h3, h4⟩, h5, h6, ⟨h7, -⟩, h9⟩ := id HE
  have h1 : (u17.1 0 12).toInt = (w.1 0 12).toInt + ((2 : Nat) : Int) := h1
  have f43 : (u17.1 0 43).toInt = (w.1 0 43).toInt + ((0 : Nat) : Int) := h7.1
  obtain ⟨-, y2, -⟩ := y2
  obtain ⟨⟨b1, b2, b3, b4, b5⟩, b6, -, b8⟩ := y2 ⟨by omega, by omega, by omega⟩
  obtain ⟨N, NR⟩ := oEndsW h
  have nv := natI q1
  have nw := natI (a := w.1 0 12) (by omega)
  have n17 := natI (a := u17.1 0 12) (by omega)
  have n33 := natI (a := u33.1 0 12) (by omega)
  have a1 := ad1 (n := w.1 0 12) (by omega) (by omega)
  have nw1 := natI (a := w.1 0 12 + 1) (by omega)
  have a33 := ad1 (n := u33.1 0 12) (by omega) (by omega)
  have i12 : (X.1 0 12).toInt = (u33.1 0 12).toInt + 1 := by rw [x12]; exact a33
  have rg : ∀ j, j ∈ bpw 30 (u17.1 0 12).toNatClampNeg b → (u17.1 0 12).toNatClampNeg ≤ j ∧ j < (u17.1 0 12).toNatClampNeg + lwL b := fun j hj => bpw_rng (Or.inl rfl) b hj
  have xw : ∀ j : Nat, j ≠ (u33.1 0 12).toNatClampNeg → j ≠ (w.1 0 12 + 1).toNatClampNeg → X.1 11 j = u33.1 11 j := fun j g1 g2 => by rw [x11, updN_ g2, updN_ g1, updN_ g1]
  have ch := CHr.bw b b4
  rw [← b6, ← x53] at ch
  have ch2 := CHr.cg (f' := X.1 11) _ (fun j hj => xw j (by have := rg j hj; omega) (by have := rg j hj; omega)) ch
  obtain ⟨n1, n2⟩ := NR _ ch2 (bpw_dec (Or.inl rfl) b) (fun j hj => by have := rg j hj; omega)
  have out : ∀ j : Nat, (j < (u17.1 0 12).toNatClampNeg ∨ (u17.1 0 12).toNatClampNeg + lwL b ≤ j) → u85.1 11 j = X.1 11 j := fun j hj => n2 j (fun z => by have := rg j z; omega)
  have low : ∀ j : Nat, j < (w.1 0 12).toNatClampNeg → u85.1 11 j = w.1 11 j := fun j hj => by
    rw [out j (by omega), xw j (by omega) (by omega), b2.1.2 j (by omega), h4 j (by omega)]
  obtain ⟨F, hF⟩ : ∃ F, F = u85.1 11 := ⟨_, rfl⟩
  have L1 : LQw K (wR v F) (wR w F) (v.1 0 59) (v.1 0 59) hd := LQw.wa (HW.wR q1 (fun j g1 g2 => by rw [hF]; exact low j (by omega)))
  have L2 : LQw K (wR w F) (wR u17 F) (v.1 0 59) (v.1 0 59) [fwE 16 0 (b ++ [evx 19 0 0])] := by
    refine LQw.we (ws := [bW 4195 10 0 8] ++ [-1]) HE rfl (fun i z hz => ?_) rfl rfl
    have hz : ([bW 4195 10 0 8, jW 0 (jr (fwE 16 0 (b ++ [evx 19 0 0])).2.2.2.2.2 1)] : List Int32)[i]? = some z := hz
    match i, hz with
    | 0, hz =>
      rw [hF, out _ (by omega), xw _ (by omega) (by omega), b2.1.2 _ (by omega)]
      exact h3 0 z hz
    | 1, hz =>
      rw [hF, out _ (by omega), show (w.1 0 12).toNatClampNeg + 1 = (w.1 0 12 + 1).toNatClampNeg by omega, x11, updS, jrE (d := (fwE 16 0 (b ++ [evx 19 0 0])).2.2.2.2.2) (k := 1) (by
        rw [fwD (k := 2) (by decide), lwL_app, show lwL [evx 19 0 0] = 1 from rfl]
        omega)]
      exact Option.some.inj hz
    | i + 2, hz => simp at hz
  have L3 : LQw K (wR u17 F) (wR u33 F) (v.1 0 59) (u33.1 0 59) (rsv (d3p (b ++ [evx 19 0 0])) (d3n (hd ++ [fwE 16 0 (b ++ [evx 19 0 0])])) b) := by
    rw [b8, k59]
    rw [k59] at b4
    refine LQw.rs (T := X.1 0 12) (A := v.1 0 12) b1 b2 b3 b4 b5 (by omega) (by omega) (fun j j1 j2 => ⟨fun g30 _ => ?_, fun g30 => ?_, fun g31 => ?_⟩) ?_ ?_
    · rw [hF, n2 j g30, xw j (by omega) (by omega)]
    · rw [hF]
      exact n1 j g30
    · rw [hF, n2 j (fun z => bpw_dj (Or.inl rfl) (Or.inr (Or.inl rfl)) (by decide) b z g31), xw j (by omega) (by omega)]
      exact MWq.agn (decide_eq_false hv) b b4 j g31
    · show _ = _ + ((lwL (b ++ [evx 19 0 0]) : Nat) : Int)
      rw [lwL_app, show lwL [evx 19 0 0] = 1 from rfl]
      omega
    · show _ = _ + -((lwL (hd ++ [fwE 16 0 (b ++ [evx 19 0 0])]) : Nat) : Int)
      rw [lwL_app, show lwL [fwE 16 0 (b ++ [evx 19 0 0])] = 2 from rfl]
      omega
  have L4 : LQw K (wR u33 F) (wR X F) (u33.1 0 59) (u33.1 0 59) [bwE 19 0 (hd ++ [fwE 16 0 (b ++ [evx 19 0 0])] ++ b)] := by
    refine LQw.wd i12 xS (by omega) (fun i z hz => ?_) rfl rfl
    have hz : ([jW 0 (jr (bwE 19 0 (hd ++ [fwE 16 0 (b ++ [evx 19 0 0])] ++ b)).2.2.2.2.2 0)] : List Int32)[i]? = some z := hz
    match i, hz with
    | 0, hz =>
      rw [hF, Nat.add_zero, out _ (by omega), x11, updN_ (by omega), updS, jrE (d := (bwE 19 0 (hd ++ [fwE 16 0 (b ++ [evx 19 0 0])] ++ b)).2.2.2.2.2) (k := 0) (by
        show _ = -((lwL (hd ++ [fwE 16 0 (b ++ [evx 19 0 0])] ++ b) : Nat) : Int) - 0
        rw [lwL_app, lwL_app, show lwL [fwE 16 0 (b ++ [evx 19 0 0])] = 2 from rfl]
        omega)]
      exact Option.some.inj hz
    | i + 1, hz => simp at hz
  have L := (L1.tr L2 q1 q3).tr (L3.tr L4 (by show 0 ≤ (u17.1 0 12).toInt; omega) (by show 0 ≤ (u17.1 0 43).toInt; omega)) q1 q3
  rw [N.2.2.1.2.2.2.2, x59]
  exact L.fin hF.symm N.1.1 N.1.2 (fun j hj => by rw [hF, low j (by omega), HW.2.1.1.2 j hj])
set_option maxHeartbeats 1600000 in
theorem oWhileW (hX : XWe n K (QME k) E) (hE : HME n K (QME k) Es) (hS : XWs n K c S) (hSs : HMS n K c Ss) (h : Q_m_rounds k c v false u) (J : JM n K e v) (hk : 2 ≤ (e.1 (v.1 0 47)).toInt) : ∃ a, gWhile E S e (knM K v) (v.1 0 32) (v.1 0 47 + 1) = some (a, knM K u, u.1 0 47) ∧ SOw n K e v u a := by
  have JU := (rWhile (g := gLq v) hE hSs h J rfl hk).jj
  obtain ⟨z1, z2, z3, z4, z5, z6, z15, z8, z9, z10, z11, z12, z13, z14, h⟩ := h
  rcases h with ⟨u9, -, f9, -⟩ | ⟨h1, k1, ⟨u9, -, f9, -⟩ | ⟨r18, u17, h2, k2, ⟨u9, -, f9, -⟩ | ⟨u33, h3, k3, x51, h51, x70, h70, u85, h4, -, -, eu⟩⟩⟩
  · cases f9
  · cases f9
  · cases f9
  have JO := (rOpens (g := g00) h1 J hk).jj
  obtain ⟨V, hV⟩ : ∃ V, V = (wA (wA v 0 47 ((v.1 0 47) + (1 : Int32))) 0 48 ((v.1 0 48) + (1 : Int32))) := ⟨_, rfl⟩
  rw [← hV] at JO h2 k2
  have v47 : V.1 0 47 = v.1 0 47 + 1 := by rw [hV]; rfl
  have v29 : V.1 29 = v.1 29 := by rw [hV]; rfl
  have v30 : V.1 0 30 = v.1 0 30 := by rw [hV]; rfl
  have v32 : V.1 0 32 = v.1 0 32 := by rw [hV]; rfl
  have kV : kpW v V := by rw [hV]; exact ⟨⟨rfl, rfl, rfl, rfl, rfl⟩, rfl, rfl, rfl⟩
  have AV : WAi K v V [] := by rw [hV]; exact WAi.sm rfl rfl
  obtain ⟨Z, hZ⟩ : ∃ Z, Z = (wA (wA (wA V 13 ((v.1 0 15).toNatClampNeg) (13 : Int32)) 14 ((v.1 0 15).toNatClampNeg) (0 : Int32)) 0 15 ((v.1 0 15) + (1 : Int32))) := ⟨_, rfl⟩
  rw [← hZ] at h2 k2
  have mZ : EMS 0 V Z := by rw [hZ]; exact EMS.w0 (EMS.wa (EMS.wa EMS.rf (by decide)) (by decide)) (by decide)
  have z47 : Z.1 0 47 = v.1 0 47 + 1 := by rw [hZ]; exact v47
  have z29 : Z.1 29 = v.1 29 := by rw [hZ]; exact v29
  have z30 : Z.1 0 30 = v.1 0 30 := by rw [hZ]; exact v30
  have z32 : Z.1 0 32 = v.1 0 32 := by rw [hZ]; exact v32
  have kZ : kpW v Z := by rw [hZ]; exact kV
  have AZ : WAi K V Z [evx 24 0 0] := by
    rw [hZ]
    exact wMark.nt (WAi.sm rfl rfl)
  have A0 : WAi K v Z [evx 24 0 0] := AV.tn AZ
  obtain ⟨w, ca, x1, x2, ⟨JD, ND1⟩, ⟨dE, rfl, d12, z0', z1'⟩, ⟨d29, d30, d32⟩, kZw, kwu, l47, l47b⟩ := oCondMW hX hE h2 k2 (mZ.j JO)
  rw [knM_of z29 z30, z32, z47] at x1
  have Aw : WAi K v w ([evx 24 0 0] ++ ca) := A0.tr x2
  obtain ⟨hd, hhd⟩ : ∃ hd, hd = [evx 24 0 0] ++ ca := ⟨_, rfl⟩
  rw [← hhd] at Aw
  obtain ⟨b, y1, y2⟩ := oBodyW hS hSs h3 JD ND1
  have kn17 : knM K u17 = knM K v := (knM_of d29 d30).trans (knM_of z29 z30)
  rw [kn17, d32, z32] at y1
  have e51 := eJmp h51
  have e70 := eJmp h70
  subst e51
  subst e70
  obtain ⟨X, hX9⟩ : ∃ X, X = (wA (wA (wA (wA (wA (wA (wA (wA u33 11 ((u33.1 0 12).toNatClampNeg) (0 : Int32)) 0 12 ((u33.1 0 12) + (1 : Int32))) 11 ((u33.1 0 12).toNatClampNeg) (jW 0 ((4 : Int32) * (v.1 0 12 - u33.1 0 12)))) 13 ((u33.1 0 15).toNatClampNeg) (12 : Int32)) 14 ((u33.1 0 15).toNatClampNeg) (v.1 0 15)) 0 15 ((u33.1 0 15) + (1 : Int32))) 11 (w.1 0 12 + 1).toNatClampNeg (jW 0 ((4 : Int32) * ((u33.1 0 12 + 1) - (w.1 0 12 + 1))))) 14 ((u17.1 0 60).toNatClampNeg) ((u33.1 0 15) + (1 : Int32))) := ⟨_, rfl⟩
  rw [← hX9] at h4
  have x11 : X.1 11 = upd (upd (upd (u33.1 11) (u33.1 0 12).toNatClampNeg 0) (u33.1 0 12).toNatClampNeg (jW 0 ((4 : Int32) * (v.1 0 12 - u33.1 0 12)))) (w.1 0 12 + 1).toNatClampNeg (jW 0 ((4 : Int32) * ((u33.1 0 12 + 1) - (w.1 0 12 + 1)))) := by rw [hX9]; rfl
  have x12 : X.1 0 12 = u33.1 0 12 + 1 := by rw [hX9]; rfl
  have xS : SMw u33 X := by rw [hX9]; exact ⟨⟨rfl, rfl, rfl, rfl, rfl, rfl⟩, rfl, rfl⟩
  have kX : kpW u33 X := by rw [hX9]; exact ⟨⟨rfl, rfl, rfl, rfl, rfl⟩, rfl, rfl, rfl⟩
  have k17 : kpW v u17 := (kZ.tr kZw).tr kwu
  have Q := whileQ (hd := hd) Aw dE k17.1.2.2.2.2 y2 (by have := z6.1; omega) x11 x12 kX.1.2.1 kX.1.2.2.2.2 xS h4
  have g7 := (oEndsW h4).1
  have g6 := endsKW y2 k17 kX.1.1 kX.2 g7
  have u59 : u.1 0 59 = u85.1 0 59 := by rw [eu]; rfl
  have LU : LQw K u85 u (u85.1 0 59) (u85.1 0 59) [] := LQw.sm (by rw [eu]; rfl) (by rw [eu]; exact ⟨⟨rfl, rfl, rfl, rfl, rfl, rfl⟩, rfl, rfl⟩) (by rw [eu]; rfl)
  have g29 : u.1 29 = u33.1 29 := by rw [eu]; exact g7.2.1.1.trans (by rw [hX9]; rfl)
  have g30 : u.1 0 30 = v.1 0 30 := by rw [eu]; exact g7.2.1.2.1.trans (by rw [hX9]; exact y2.2.2.2.2.1.trans (d30.trans z30))
  have lo : ∀ j : Nat, (j : Int) < (v.1 0 30).toInt → u.1 29 j = v.1 29 j := fun j hj => by
    rw [g29, y2.2.2.2.2.2.1 j (by rw [d30, z30]; exact hj), d29, z29]
  have kn : knM K u = knM K v := by
    rw [← kn17, ← y2.2.2.2.2.2.2]
    exact knM_of g29 (by rw [g30, y2.2.2.2.2.1, d30, z30])
  have SS : SAw K v u (hd ++ [fwE 16 0 (b ++ [evx 19 0 0])] ++ (rsv (d3p (b ++ [evx 19 0 0])) (d3n (hd ++ [fwE 16 0 (b ++ [evx 19 0 0])])) b ++ [bwE 19 0 (hd ++ [fwE 16 0 (b ++ [evx 19 0 0])] ++ b)])) := SAw.lq (fun B => by
    have T := (Q B).tr LU B.1 B.2.2
    rw [List.append_nil] at T
    rw [u59]
    exact T) (by rw [eu]; exact g6.1) (by rw [eu]; exact had_wW g6.2)
  refine ⟨_, ?_, ⟨JU.1, JU.2.2⟩, SS, ?_, by rw [g30]; exact Int.le_refl _, lo⟩
  · unfold gWhile
    rw [x1, Option.bind_some, y1, Option.bind_some, kn]
    have e47 : u.1 0 47 = u33.1 0 47 := by rw [eu]; exact g7.2.1.2.2.2.trans (by rw [hX9]; rfl)
    rw [e47, hhd]
    unfold gWhileL
    rw [← List.append_assoc ([evx 24 0 0] ++ ca ++ [fwE 16 0 (b ++ [evx 19 0 0])])]
  · rw [eu]
    exact g7.2.1.2.2.1.trans (by rw [hX9]; exact y2.2.2.2.1.trans (d32.trans z32))
end ZZG
