/-! the reference's words: do -/
section ZZH
variable {n : Int} {K : TK} {e : PE} {v u w x y X : MS} {a b d a0 cc ca : List EV} {q : EV} {r pa pb pd o zv zn T A bk : Int32} {c : RM1} {E : EvE} {S : EvS} {Es : FE} {Ss : FS} {k : Nat} {cl cl' : Int} {g : Bool × Int32 × Bool} {p : Nat} {Bd Cd : D3}
/-- inside, question, back -/
theorem doQ {Z u19 u28 U u80 u136 : MS} (A0 : WAi K v Z [evx 24 0 0]) (k59 : Z.1 0 59 = v.1 0 59) (y2 : BDb n K e Z u19 (-1) b) (hl : Q_m_land u19 (u19.1 0 57) (u19.1 0 12) u28) (u11 : U.1 11 = u28.1 11) (u12 : U.1 0 12 = u19.1 0 12) (uS : SMw u19 U) (x2 : WAi K U u80 ca) (x11 : X.1 11 = upd (upd (upd (u80.1 11) (u80.1 0 12).toNatClampNeg (bW 99 10 0 8)) (u80.1 0 12 + 1).toNatClampNeg 0) (u80.1 0 12 + 1).toNatClampNeg (jW 0 ((4 : Int32) * (v.1 0 12 - (u80.1 0 12 + 1))))) (x12 : X.1 0 12 = u80.1 0 12 + 1 + 1) (x53 : X.1 0 53 = u19.1 0 53) (x59 : X.1 0 59 = u19.1 0 59) (xS : SMw u80 X) (h : Q_m_ends X u136) : BDw v (lwL ([evx 24 0 0] ++ (rsv (d3p (b ++ ca ++ [evx 17 0 0])) (d3p b) b ++ ca ++ [bwE 17 0 ([evx 24 0 0] ++ b ++ ca)]))) → LQw K v u136 (v.1 0 59) (u136.1 0 59) ([evx 24 0 0] ++ (rsv (d3p (b ++ ca ++ [evx 17 0 0])) (d3p b) b ++ ca ++ [bwE 17 0 ([evx 24 0 0] ++ b ++ ca)])) := by
  intro B
  obtain ⟨q1, q2, q3⟩ := B
  rw [lwL_app, lwL_app, lwL_app, lwL_rsv, show lwL [evx 24 0 0] = 0 from rfl, show lwL [bwE 17 0 ([evx 24 0 0] ++ b ++ ca)] = 2 from rfl] at q2
  have HZ := A0 ⟨q1, by rw [show lwL [evx 24 0 0] = 0 from rfl]; omega, q3⟩
  have z12 := HZ.1
  rw [show lwL [evx 24 0 0] = 0 from rfl] at z12
  have z43 := HZ.2.1.2.1.1
  obtain ⟨-, y2, -⟩ := y2
  obtain ⟨⟨b1, b2, b3, b4, b5⟩, b6, b7, b8⟩ := y2 ⟨by omega, by omega, by omega⟩
  have b7 := b7 (by decide)
  have w43 := b2.2.1.1
  have HC := x2 ⟨by rw [u12]; omega, by rw [u12]; omega, by rw [uS.2.2]; omega⟩
  have c12 := HC.1
  rw [u12] at c12
  have c43 := HC.2.1.2.1.1
  rw [uS.2.2] at c43
  obtain ⟨N, NR⟩ := oEndsW h
  have nv := natI q1
  have nZ := natI (a := Z.1 0 12) (by omega)
  have n19 := natI (a := u19.1 0 12) (by omega)
  have n80 := natI (a := u80.1 0 12) (by omega)
  have a80 := ad1 (n := u80.1 0 12) (by omega) (by omega)
  have n81 := natI (a := u80.1 0 12 + 1) (by omega)
  have i12 : (X.1 0 12).toInt = (u80.1 0 12).toInt + 2 := by rw [x12]; exact ad2 (by omega) (by omega)
  have rg0 : ∀ j, j ∈ bpw 30 (Z.1 0 12).toNatClampNeg b → (Z.1 0 12).toNatClampNeg ≤ j ∧ j < (Z.1 0 12).toNatClampNeg + lwL b := fun j hj => bpw_rng (Or.inl rfl) b hj
  have rg1 : ∀ j, j ∈ bpw 31 (Z.1 0 12).toNatClampNeg b → (Z.1 0 12).toNatClampNeg ≤ j ∧ j < (Z.1 0 12).toNatClampNeg + lwL b := fun j hj => bpw_rng (Or.inr (Or.inl rfl)) b hj
  have ag := CHr.aw rfl b b4
  rw [← b7] at ag
  have C1 := landC hl ag (bpw_dec (Or.inr (Or.inl rfl)) b) (fun j hj => by have := rg1 j hj; omega)
  have xw : ∀ j : Nat, (j : Int) < (u80.1 0 12).toInt → X.1 11 j = u80.1 11 j := fun j g1 => by rw [x11, updN_ (by omega), updN_ (by omega), updN_ (by omega)]
  have bel : ∀ j : Nat, (j : Int) < (u19.1 0 12).toInt → X.1 11 j = u28.1 11 j := fun j hj => by
    rw [xw j (by omega), HC.2.1.1.2 j (by rw [u12]; exact hj), u11]
  have ch := CHr.bw b b4
  rw [← b6, ← x53] at ch
  have ch2 := CHr.cg (f' := X.1 11) _ (fun j hj => by
    have R := rg0 j hj
    rw [bel j (by omega)]
    exact C1.2 j (fun z => bpw_dj (Or.inl rfl) (Or.inr (Or.inl rfl)) (by decide) b hj z)) ch
  obtain ⟨n1, n2⟩ := NR _ ch2 (bpw_dec (Or.inl rfl) b) (fun j hj => by have := rg0 j hj; omega)
  have out : ∀ j : Nat, (j < (Z.1 0 12).toNatClampNeg ∨ (Z.1 0 12).toNatClampNeg + lwL b ≤ j) → u136.1 11 j = X.1 11 j := fun j hj => n2 j (fun z => by have := rg0 j z; omega)
  have low : ∀ j : Nat, j < (Z.1 0 12).toNatClampNeg → u136.1 11 j = Z.1 11 j := fun j hj => by
    rw [out j (by omega), bel j (by omega), C1.2 j (fun z => by have := rg1 j z; omega), b2.1.2 j (by omega)]
  obtain ⟨F, hF⟩ : ∃ F, F = u136.1 11 := ⟨_, rfl⟩
  have L1 : LQw K (wR v F) (wR Z F) (v.1 0 59) (v.1 0 59) [evx 24 0 0] := LQw.wa (HZ.wR q1 (fun j g1 g2 => by omega))
  have L2 : LQw K (wR Z F) (wR u19 F) (v.1 0 59) (u19.1 0 59) (rsv (d3p (b ++ ca ++ [evx 17 0 0])) (d3p b) b) := by
    rw [b8, k59]
    rw [k59] at b4
    refine LQw.rs (T := X.1 0 12) (A := u19.1 0 12) b1 b2 b3 b4 b5 (by omega) (by omega) (fun j j1 j2 => ⟨fun g30 g31 => ?_, fun g30 => ?_, fun g31 => ?_⟩) ?_ ?_
    · rw [hF, n2 j g30, bel j (by omega)]
      exact C1.2 j g31
    · rw [hF]
      exact n1 j g30
    · rw [hF, n2 j (fun z => bpw_dj (Or.inl rfl) (Or.inr (Or.inl rfl)) (by decide) b z g31), bel j (by omega)]
      exact C1.1 j g31
    · show _ = _ + ((lwL (b ++ ca ++ [evx 17 0 0]) : Nat) : Int)
      rw [lwL_app, lwL_app, show lwL [evx 17 0 0] = 2 from rfl]
      omega
    · show _ = _ + ((lwL b : Nat) : Int)
      omega
  have L3 : LQw K (wR u19 F) (wR U F) (u19.1 0 59) (u19.1 0 59) [] := LQw.sm u12 uS rfl
  have L4 : LQw K (wR U F) (wR u80 F) (u19.1 0 59) (u19.1 0 59) ca := LQw.wa (HC.wR (by rw [u12]; omega) (fun j g1 g2 => by
    rw [u12] at g1
    rw [hF, out j (by omega), xw j g2]))
  have L5 : LQw K (wR u80 F) (wR X F) (u19.1 0 59) (u19.1 0 59) [bwE 17 0 ([evx 24 0 0] ++ b ++ ca)] := by
    refine LQw.wd i12 xS (by omega) (fun i z hz => ?_) rfl rfl
    have hz : ([bW 99 10 0 8, jW 0 (jr (bwE 17 0 ([evx 24 0 0] ++ b ++ ca)).2.2.2.2.2 1)] : List Int32)[i]? = some z := hz
    match i, hz with
    | 0, hz =>
      rw [hF, Nat.add_zero, out _ (by omega), x11, updN_ (by omega), updN_ (by omega), updS]
      exact Option.some.inj hz
    | 1, hz =>
      rw [hF, out _ (by omega), show (u80.1 0 12).toNatClampNeg + 1 = (u80.1 0 12 + 1).toNatClampNeg by omega, x11, updS, jrE (d := (bwE 17 0 ([evx 24 0 0] ++ b ++ ca)).2.2.2.2.2) (k := 1) (by
        show _ = -((lwL ([evx 24 0 0] ++ b ++ ca) : Nat) : Int) - 1
        rw [lwL_app, lwL_app, show lwL [evx 24 0 0] = 0 from rfl]
        omega)]
      exact Option.some.inj hz
    | i + 2, hz => simp at hz
  have z0 : 0 ≤ ((wR Z F).1 0 12).toInt := by show 0 ≤ (Z.1 0 12).toInt; omega
  have z3 : 0 ≤ ((wR Z F).1 0 43).toInt := by show 0 ≤ (Z.1 0 43).toInt; omega
  have M := ((L2.tr L3 z0 z3).tr L4 z0 z3).tr L5 z0 z3
  rw [List.append_nil] at M
  have L := L1.tr M q1 q3
  rw [N.2.2.1.2.2.2.2, x59]
  exact L.fin hF.symm N.1.1 N.1.2 (fun j hj => by rw [hF, low j (by omega), HZ.2.1.1.2 j hj])
set_option maxHeartbeats 1600000 in
theorem oDoW (hX : XWe n K (QME k) E) (hE : HME n K (QME k) Es) (hS : XWs n K c S) (hSs : HMS n K c Ss) (h : Q_m_doing k c v false u) (J : JM n K e v) (hk : 2 ≤ (e.1 (v.1 0 47)).toInt) : ∃ a, gDo E S e (knM K v) (v.1 0 32) (v.1 0 47 + 1) = some (a, knM K u, u.1 0 47) ∧ SOw n K e v u a := by
  have JU := (rDo (g := gLq v) hE hSs h J rfl hk).jj
  obtain ⟨z1, z2, z3, z4, z5, z6, z15, z8, z9, z10, z11, z12, z13, z14, h⟩ := h
  rcases h with ⟨u9, -, f9, -⟩ | ⟨h1, k1, ⟨u9, -, f9, -⟩ | ⟨u19, h3, k3, u28, h4, k4, u42, h5, k5, r50, h50, -, h⟩⟩
  · cases f9
  · cases f9
  have JO := (rOpens (g := g00) h1 J hk).jj
  obtain ⟨V, hV⟩ : ∃ V, V = (wA (wA v 0 47 ((v.1 0 47) + (1 : Int32))) 0 48 ((v.1 0 48) + (1 : Int32))) := ⟨_, rfl⟩
  have NV : ND V := by rw [hV]; exact ndO J k1.1
  rw [← hV] at JO h3 k3
  have v47 : V.1 0 47 = v.1 0 47 + 1 := by rw [hV]; rfl
  have v29 : V.1 29 = v.1 29 := by rw [hV]; rfl
  have v30 : V.1 0 30 = v.1 0 30 := by rw [hV]; rfl
  have v32 : V.1 0 32 = v.1 0 32 := by rw [hV]; rfl
  have kV : kpW v V := by rw [hV]; exact ⟨⟨rfl, rfl, rfl, rfl, rfl⟩, rfl, rfl, rfl⟩
  have AV : WAi K v V [] := by rw [hV]; exact WAi.sm rfl rfl
  obtain ⟨Z, hZ⟩ : ∃ Z, Z = (wA (wA (wA V 13 ((v.1 0 15).toNatClampNeg) (13 : Int32)) 14 ((v.1 0 15).toNatClampNeg) (0 : Int32)) 0 15 ((v.1 0 15) + (1 : Int32))) := ⟨_, rfl⟩
  rw [← hZ] at h3 k3
  have mZ : EMS 0 V Z := by rw [hZ]; exact EMS.w0 (EMS.wa (EMS.wa EMS.rf (by decide)) (by decide)) (by decide)
  have z47 : Z.1 0 47 = v.1 0 47 + 1 := by rw [hZ]; exact v47
  have z29 : Z.1 29 = v.1 29 := by rw [hZ]; exact v29
  have z30 : Z.1 0 30 = v.1 0 30 := by rw [hZ]; exact v30
  have z32 : Z.1 0 32 = v.1 0 32 := by rw [hZ]; exact v32
  have kZ : kpW v Z := by rw [hZ]; exact kV
  have AZ : WAi K V Z [evx 24 0 0] := by
    rw [hZ]
    exact wMark.nt (WAi.sm rfl rfl)
  have A0 : WAi K v Z [evx 24 0 0] := AV.tn AZ
  have i47 : (v.1 0 47 + 1).toInt = (v.1 0 47).toInt + 1 := add_z rfl (by decide) (by omega) (by have := k1.1; omega)
  obtain ⟨b, y1, y2⟩ := oBodyW hS hSs h3 (mZ.j JO) (nd_e mZ NV)
  have knZ : knM K Z = knM K v := knM_of z29 z30
  rw [knZ, z32, z47] at y1
  obtain ⟨⟨JB, NB⟩, -, -, c32, c30, c29, ckn⟩ := id y2
  have e2 : EMS 0 u19 u42 := (EMS.fg k4 (by decide) (by decide)).tr (EMS.fg k5 (by decide) (by decide))
  have J2 := e2.j JB
  have F28 : ∀ i, u28.1 0 i = u19.1 0 i := fun i => k4.2.1 i (List.not_mem_nil)
  have F42 : ∀ i, u42.1 0 i = u19.1 0 i := fun i => (k5.2.1 i (List.not_mem_nil)).trans (F28 i)
  have A42 : ∀ i, i ≠ 11 → i ≠ 14 → u42.1 i = u19.1 i := fun i hi hj => (k5.2.2 i (by simp only [List.mem_cons, List.not_mem_nil, or_false]; exact hj)).trans (k4.2.2 i (by simp only [List.mem_cons, List.not_mem_nil, or_false]; exact hi))
  have i50 : r50.toInt ≠ 0 ↔ e.1 (u42.1 0 47) = 13 := rIsKey (g := g00) h50 J2 (by decide)
  rcases h with ⟨c50, ⟨u9, -, f9, -⟩ | ⟨h6, k6, ⟨u9, -, f9, -⟩ | ⟨h7, k7, ⟨u9, -, f9, -⟩ | ⟨u80, h8, k8, ⟨u9, -, f9, -⟩ | ⟨h9, k9, r99, h99, x111, h111, ⟨u9, -, f9, -⟩ | ⟨h10, k10, u136, h11, k11, -, eu⟩⟩⟩⟩⟩⟩ | ⟨-, u156, -, -, f9, -⟩
  · cases f9
  · cases f9
  · cases f9
  · cases f9
  · cases f9
  · have k13 : (e.1 (u42.1 0 47)).toInt = 13 := by rw [i50.mp c50]; decide
    have JT := (rTake (g := g00) h6 J2 (by show 2 ≤ (e.1 (u42.1 0 47)).toInt; rw [k13]; decide)).jj
    have O1 := oOpen (q := (40, 30)) (m := 30) h7 JT (by decide) rfl (by decide)
    obtain ⟨U, hU⟩ : ∃ U, U = (wA (wA (wA u42 0 47 ((u42.1 0 47) + (1 : Int32))) 0 47 (((u42.1 0 47) + (1 : Int32)) + (1 : Int32))) 0 48 ((u42.1 0 48) + (1 : Int32))) := ⟨_, rfl⟩
    rw [← hU] at h8 k8 O1
    have u12 : U.1 0 12 = u19.1 0 12 := by rw [hU]; exact F42 12
    have u11 : U.1 11 = u28.1 11 := by rw [hU]; exact k5.2.2 11 (by decide)
    have uS : SMw u19 U := by rw [hU]; exact ⟨⟨A42 24 (by decide) (by decide), A42 35 (by decide) (by decide), A42 37 (by decide) (by decide), A42 40 (by decide) (by decide), A42 41 (by decide) (by decide), A42 42 (by decide) (by decide)⟩, F42 39, F42 43⟩
    have u47 : U.1 0 47 = u19.1 0 47 + 1 + 1 := by rw [hU]; show u42.1 0 47 + 1 + 1 = _; rw [F42]
    have u29 : U.1 29 = u19.1 29 := by rw [hU]; exact A42 29 (by decide) (by decide)
    have u30 : U.1 0 30 = u19.1 0 30 := by rw [hU]; exact F42 30
    have u32 : U.1 0 32 = u19.1 0 32 := by rw [hU]; exact F42 32
    have kU : kpW u19 U := by
      rw [hU]
      exact ⟨⟨F42 52, F42 53, F42 55, F42 57, F42 59⟩, A42 61 (by decide) (by decide), A42 63 (by decide) (by decide), A42 65 (by decide) (by decide)⟩
    obtain ⟨ca, x1, x2⟩ := hX e U u80 h8 k8 O1.1
    have knU : knM K U = knM K v := (knM_of u29 u30).trans (ckn.trans knZ)
    rw [knU, u32, c32, z32, u47] at x1
    have Q1 := oClose (q := (41, 31)) (m := 31) h9 x2.1 (by decide) rfl (by decide)
    obtain ⟨Y, hY⟩ : ∃ Y, Y = (wA (wA u80 0 47 ((u80.1 0 47) + (1 : Int32))) 0 48 ((u80.1 0 48) - (1 : Int32))) := ⟨_, rfl⟩
    obtain rfl := eB h99 (f := 99) (by decide)
    have e111 := eJmp h111
    subst e111
    obtain ⟨X, hX9⟩ : ∃ X, X = (wA (wA (wA (wA (wA (wA (wA (wA (wA (wA u80 0 47 ((u80.1 0 47) + (1 : Int32))) 0 48 ((u80.1 0 48) - (1 : Int32))) 11 ((u80.1 0 12).toNatClampNeg) (bW 99 10 0 8)) 0 12 ((u80.1 0 12) + (1 : Int32))) 11 (((u80.1 0 12) + (1 : Int32)).toNatClampNeg) (0 : Int32)) 0 12 (((u80.1 0 12) + (1 : Int32)) + (1 : Int32))) 11 (((u80.1 0 12) + (1 : Int32)).toNatClampNeg) (jW 0 ((4 : Int32) * (v.1 0 12 - (u80.1 0 12 + 1))))) 13 ((u80.1 0 15).toNatClampNeg) (11 : Int32)) 14 ((u80.1 0 15).toNatClampNeg) (v.1 0 15)) 0 15 ((u80.1 0 15) + (1 : Int32))) := ⟨_, rfl⟩
    rw [← hY] at Q1
    have mX : EMS 2 Y X := by
      rw [hX9, hY]
      exact EMS.w0 (EMS.wa (EMS.wa (EMS.wa (EMS.o1 (EMS.wa (EMS.o1 (EMS.wa EMS.rf (by decide)) rfl) (by decide)) rfl) (by decide)) (by decide)) (by decide)) (by decide)
    rw [← hX9] at h10 h11
    have x47 : X.1 0 47 = u80.1 0 47 + 1 := by rw [hX9]; rfl
    have N1 := oNeed (q := (59, 36)) (m := 36) h10 (mX.j Q1.1) (by decide) rfl (by decide)
    obtain ⟨X', hX'⟩ : ∃ X', X' = (wA X 0 47 (((u80.1 0 47) + (1 : Int32)) + (1 : Int32))) := ⟨_, rfl⟩
    rw [← hX'] at h11
    have X11 : X'.1 11 = upd (upd (upd (u80.1 11) (u80.1 0 12).toNatClampNeg (bW 99 10 0 8)) (u80.1 0 12 + 1).toNatClampNeg 0) (u80.1 0 12 + 1).toNatClampNeg (jW 0 ((4 : Int32) * (v.1 0 12 - (u80.1 0 12 + 1)))) := by rw [hX', hX9]; rfl
    have X12 : X'.1 0 12 = u80.1 0 12 + 1 + 1 := by rw [hX', hX9]; rfl
    have XS : SMw u80 X' := by rw [hX', hX9]; exact ⟨⟨rfl, rfl, rfl, rfl, rfl, rfl⟩, rfl, rfl⟩
    have kX : kpW u80 X' := by rw [hX', hX9]; exact ⟨⟨rfl, rfl, rfl, rfl, rfl⟩, rfl, rfl, rfl⟩
    have kUX : kpW u19 X' := (kU.tr (kpW.fg k8.1)).tr kX
    have Q := doQ A0 kZ.1.2.2.2.2 y2 h4 u11 u12 uS x2.2.1 X11 X12 kUX.1.2.1 kUX.1.2.2.2.2 XS h11
    have n3 := (oEndsW h11).1
    have g6 := endsKW y2 kZ kUX.1.1 kUX.2 n3
    have u59 : u.1 0 59 = u136.1 0 59 := by rw [eu]; rfl
    have LU : LQw K u136 u (u136.1 0 59) (u136.1 0 59) [] := LQw.sm (by rw [eu]; rfl) (by rw [eu]; exact ⟨⟨rfl, rfl, rfl, rfl, rfl, rfl⟩, rfl, rfl⟩) (by rw [eu]; rfl)
    have SS : SAw K v u ([evx 24 0 0] ++ (rsv (d3p (b ++ ca ++ [evx 17 0 0])) (d3p b) b ++ ca ++ [bwE 17 0 ([evx 24 0 0] ++ b ++ ca)])) := SAw.lq (fun B => by
      have T := (Q B).tr LU B.1 B.2.2
      rw [List.append_nil] at T
      rw [u59]
      exact T) (by rw [eu]; exact g6.1) (by rw [eu]; exact had_wW g6.2)
    have g29 : u.1 29 = u19.1 29 := by rw [eu]; exact n3.2.1.1.trans (by rw [hX', hX9]; exact x2.2.2.1.trans u29)
    have g30' : u.1 0 30 = u19.1 0 30 := by rw [eu]; exact n3.2.1.2.1.trans (by rw [hX', hX9]; exact x2.2.2.2.1.trans u30)
    have g30 : u.1 0 30 = v.1 0 30 := g30'.trans (c30.trans z30)
    have lo : ∀ j : Nat, (j : Int) < (v.1 0 30).toInt → u.1 29 j = v.1 29 j := fun j hj => by
      rw [g29, c29 j (by rw [z30]; exact hj), z29]
    have kn : knM K u = knM K v := (knM_of g29 g30').trans (ckn.trans knZ)
    refine ⟨_, ?_, ⟨JU.1, JU.2.2⟩, SS, ?_, by rw [g30]; exact Int.le_refl _, lo⟩
    · unfold gDo
      rw [y1, Option.bind_some]
      have t13 : gTok e 13 (u19.1 0 47) = some (u19.1 0 47 + 1) := by
        rw [← F42 47]
        exact gTok_of k13
      show (gTok e 13 (u19.1 0 47)).bind _ = _
      rw [t13, Option.bind_some]
      have t30 : gTok e 30 (u19.1 0 47 + 1) = some (u19.1 0 47 + 1 + 1) := by
        rw [← F42 47]
        exact if_pos O1.2
      have gc : gCond E e (knM K v) (v.1 0 32) (u19.1 0 47 + 1) = some (ca, u80.1 0 47 + 1) := by
        unfold gCond
        rw [t30, Option.bind_some, x1, Option.bind_some]
        show (gTok e 31 (u80.1 0 47)).bind _ = _
        rw [gTok_of Q1.2, Option.bind_some]
      rw [gc, Option.bind_some]
      show (gTok e 36 (u80.1 0 47 + 1)).bind _ = _
      have t36 : gTok e 36 (u80.1 0 47 + 1) = some (u80.1 0 47 + 1 + 1) := by
        rw [← x47]
        exact if_pos N1.2
      rw [t36, Option.bind_some, kn]
      have e47 : u.1 0 47 = u80.1 0 47 + 1 + 1 := by rw [eu]; exact n3.2.1.2.2.2.trans (by rw [hX']; rfl)
      rw [e47]
      unfold gDoL
      simp only [List.append_assoc]
    · rw [eu]
      exact n3.2.1.2.2.1.trans (by rw [hX', hX9]; exact x2.2.2.2.2.trans (u32.trans (c32.trans z32)))
  · cases f9
end ZZH
