/-! the reference's orders: do -/
section WUD
variable {n : Int} {K : TK} {e : PE} {v u w x y X : MS} {a b d a0 cc ca : List EV} {q : EV} {r pa pb pd o zv zn T A bk : Int32} {c : RM1} {E : EvE} {S : EvS} {Es : FE} {Ss : FS} {k : Nat} {cl cl' : Int} {g : Bool × Int32 × Bool} {p : Nat} {Bd Cd : D3}
set_option maxHeartbeats 1600000 in
theorem oDoM (hX : XMe n K (QME k) E) (hE : HME n K (QME k) Es) (hS : XMs9 n K c S) (hSs : HMS n K c Ss) (h : Q_m_doing k c v false u) (J : JM n K e v) (hk : 2 ≤ (e.1 (v.1 0 47)).toInt) : ∃ a, gDo E S e (knM K v) (v.1 0 32) (v.1 0 47 + 1) = some (a, knM K u, u.1 0 47) ∧ SOq n K e v u a := by
  have JU := (rDo (g := gLq v) hE hSs h J rfl hk).jj
  obtain ⟨z1, z2, z3, z4, z5, z6, z15, z8, z9, z10, z11, z12, z13, z14, h⟩ := h
  have p0 := z15.1
  rcases h with ⟨u9, -, f9, -⟩ | ⟨h1, k1, ⟨u9, -, f9, -⟩ | ⟨u19, h3, k3, u28, h4, k4, u42, h5, k5, r50, h50, -, h⟩⟩
  · cases f9
  · cases f9
  have JO := (rOpens (g := g00) h1 J hk).jj
  obtain ⟨V, hV⟩ : ∃ V, V = (wA (wA v 0 47 ((v.1 0 47) + (1 : Int32))) 0 48 ((v.1 0 48) + (1 : Int32))) := ⟨_, rfl⟩
  have NV : ND V := by rw [hV]; exact ndO J k1.1
  rw [← hV] at JO h3 k3
  have v47 : V.1 0 47 = v.1 0 47 + 1 := by rw [hV]; rfl
  have v15 : V.1 0 15 = v.1 0 15 := by rw [hV]; rfl
  have v29 : V.1 29 = v.1 29 := by rw [hV]; rfl
  have v30 : V.1 0 30 = v.1 0 30 := by rw [hV]; rfl
  have v32 : V.1 0 32 = v.1 0 32 := by rw [hV]; rfl
  have kV : kpS v V := by rw [hV]; exact ⟨⟨rfl, rfl, rfl, rfl, rfl⟩, rfl, rfl, rfl, rfl⟩
  have AV : OA K v V [] := by rw [hV]; exact OA.sm rfl rfl rfl rfl rfl rfl rfl rfl
  obtain ⟨Z, hZ⟩ : ∃ Z, Z = (wA (wA (wA V 13 ((v.1 0 15).toNatClampNeg) (13 : Int32)) 14 ((v.1 0 15).toNatClampNeg) (0 : Int32)) 0 15 ((v.1 0 15) + (1 : Int32))) := ⟨_, rfl⟩
  rw [← hZ] at h3 k3
  have mZ : EMS 0 V Z := by rw [hZ]; exact EMS.w0 (EMS.wa (EMS.wa EMS.rf (by decide)) (by decide)) (by decide)
  have z47 : Z.1 0 47 = v.1 0 47 + 1 := by rw [hZ]; exact v47
  have z15' : Z.1 0 15 = v.1 0 15 + 1 := by rw [hZ]; rfl
  have z29 : Z.1 29 = v.1 29 := by rw [hZ]; exact v29
  have z30 : Z.1 0 30 = v.1 0 30 := by rw [hZ]; exact v30
  have z32 : Z.1 0 32 = v.1 0 32 := by rw [hZ]; exact v32
  have kZ : kpS v Z := by rw [hZ]; exact kV
  have AZ : OA K V Z [evx 24 0 0] := by
    rw [hZ, ← v15]
    exact OA.say (o := 13) (z := 0) rfl rfl rfl ⟨by rw [v15]; exact p0, by rw [v15]; omega⟩ rfl rfl ⟨rfl, rfl, rfl⟩ loE1 rfl (show upd (V.1 14) _ 0 _ = 0 from updS)
  have A0 : OA K v Z [evx 24 0 0] := AV.tn AZ p0
  have i47 : (v.1 0 47 + 1).toInt = (v.1 0 47).toInt + 1 := add_z rfl (by decide) (by omega) (by have := k1.1; omega)
  have i15 : (v.1 0 15 + 1).toInt = (v.1 0 15).toInt + 1 := add_z rfl (by decide) (by omega) (by omega)
  obtain ⟨b, y1, y2⟩ := oBodyM hS hSs h3 (mZ.j JO) (nd_e mZ NV)
  have knZ : knM K Z = knM K v := knM_of z29 z30
  rw [knZ, z32, z47] at y1
  obtain ⟨⟨JB, NB⟩, ⟨b1, b2, b3, b4⟩, ⟨b5, b6⟩, ⟨⟨b7, -⟩, -, -⟩, c32, c30, c29, ckn⟩ := id y2
  have b6 := b6 (by decide)
  have l33 := k3.2.1
  have m15 := k3.2.2.2.1
  rw [z47, i47] at l33 m15
  rw [z15', i15] at b1 m15
  have e2 : EMS 0 u19 u42 := (EMS.fg k4 (by decide) (by decide)).tr (EMS.fg k5 (by decide) (by decide))
  have J2 := e2.j JB
  have F28 : ∀ i, u28.1 0 i = u19.1 0 i := fun i => k4.2.1 i (List.not_mem_nil)
  have F42 : ∀ i, u42.1 0 i = u19.1 0 i := fun i => (k5.2.1 i (List.not_mem_nil)).trans (F28 i)
  have e14 : u28.1 14 = u19.1 14 := k4.2.2 14 (by decide)
  have A42 : ∀ i, i ≠ 11 → i ≠ 14 → u42.1 i = u19.1 i := fun i hi hj => (k5.2.2 i (by simp only [List.mem_cons, List.not_mem_nil, or_false]; exact hj)).trans (k4.2.2 i (by simp only [List.mem_cons, List.not_mem_nil, or_false]; exact hi))
  have nv := natI p0
  have nZ : (Z.1 0 15).toNatClampNeg = (v.1 0 15).toNatClampNeg + 1 := by
    have := natI (a := Z.1 0 15) (by rw [z15', i15]; omega)
    rw [z15', i15] at this
    rw [z15']
    omega
  have n19 := natI (a := u19.1 0 15) (by omega)
  rw [nZ] at b4 b5 b6
  have rg0 : ∀ j, j ∈ bps 30 ((v.1 0 15).toNatClampNeg + 1) b → (v.1 0 15).toNatClampNeg + 1 ≤ j ∧ j < (v.1 0 15).toNatClampNeg + 1 + loL b := fun j hj => bps_rng (Or.inl rfl) b hj
  have rg1 : ∀ j, j ∈ bps 31 ((v.1 0 15).toNatClampNeg + 1) b → (v.1 0 15).toNatClampNeg + 1 ≤ j ∧ j < (v.1 0 15).toNatClampNeg + 1 + loL b := fun j hj => bps_rng (Or.inr rfl) b hj
  have ag := CHr.ag rfl b b4
  rw [← b6, ← F28 58, ← e14] at ag
  have C1 := arrC h5 ag (bps_dec (Or.inr rfl) b) (fun j hj => by have := rg1 j hj; omega)
  rw [F28 15, e14] at C1
  have i50 : r50.toInt ≠ 0 ↔ e.1 (u42.1 0 47) = 13 := rIsKey (g := g00) h50 J2 (by decide)
  rcases h with ⟨c50, ⟨u9, -, f9, -⟩ | ⟨h6, k6, ⟨u9, -, f9, -⟩ | ⟨h7, k7, ⟨u9, -, f9, -⟩ | ⟨u80, h8, k8, ⟨u9, -, f9, -⟩ | ⟨h9, k9, r99, -, x111, -, ⟨u9, -, f9, -⟩ | ⟨h10, k10, u136, h11, k11, -, eu⟩⟩⟩⟩⟩⟩ | ⟨-, u156, -, -, f9, -⟩
  · cases f9
  · cases f9
  · cases f9
  · cases f9
  · cases f9
  · have k13 : (e.1 (u42.1 0 47)).toInt = 13 := by rw [i50.mp c50]; decide
    have JT := (rTake (g := g00) h6 J2 (by show 2 ≤ (e.1 (u42.1 0 47)).toInt; rw [k13]; decide)).jj
    have O1 := oOpen (q := (40, 30)) (m := 30) h7 JT (by decide) rfl (by decide)
    obtain ⟨U, hU⟩ : ∃ U, U = (wA (wA (wA u42 0 47 ((u42.1 0 47) + (1 : Int32))) 0 47 (((u42.1 0 47) + (1 : Int32)) + (1 : Int32))) 0 48 ((u42.1 0 48) + (1 : Int32))) := ⟨_, rfl⟩
    rw [← hU] at h8 k8 O1
    have u15 : U.1 0 15 = u19.1 0 15 := by rw [hU]; exact F42 15
    have u47 : U.1 0 47 = u19.1 0 47 + 1 + 1 := by rw [hU]; show u42.1 0 47 + 1 + 1 = _; rw [F42]
    have u29 : U.1 29 = u19.1 29 := by rw [hU]; exact A42 29 (by decide) (by decide)
    have u30 : U.1 0 30 = u19.1 0 30 := by rw [hU]; exact F42 30
    have u32 : U.1 0 32 = u19.1 0 32 := by rw [hU]; exact F42 32
    have kU : kpS u19 U := by
      rw [hU]
      exact ⟨⟨F42 52, F42 54, F42 55, F42 56, F42 58⟩, A42 62 (by decide) (by decide), A42 63 (by decide) (by decide), A42 64 (by decide) (by decide), A42 66 (by decide) (by decide)⟩
    have u14 : U.1 14 = u42.1 14 := by rw [hU]; rfl
    have u13 : U.1 13 = u19.1 13 := by rw [hU]; exact A42 13 (by decide) (by decide)
    have f19 : CFq u19 U := CFq.sm (by rw [u15]; exact Int.le_refl _) (by rw [hU]; exact F42 39) (by rw [hU]; exact F42 27) (by rw [hU]; exact ⟨A42 35 (by decide) (by decide), A42 38 (by decide) (by decide), A42 25 (by decide) (by decide)⟩) (fun j _ => by rw [u13])
    have u39 : U.1 0 39 = u19.1 0 39 := by rw [hU]; exact F42 39
    obtain ⟨ca, x1, x2⟩ := hX e U u80 h8 k8 O1.1 (by rw [u15]; omega)
    have knU : knM K U = knM K v := (knM_of u29 u30).trans (ckn.trans knZ)
    rw [knU, u32, c32, z32, u47] at x1
    have Q1 := oClose (q := (41, 31)) (m := 31) h9 x2.1 (by decide) rfl (by decide)
    obtain ⟨Y, hY⟩ : ∃ Y, Y = (wA (wA u80 0 47 ((u80.1 0 47) + (1 : Int32))) 0 48 ((u80.1 0 48) - (1 : Int32))) := ⟨_, rfl⟩
    obtain ⟨X, hX9⟩ : ∃ X, X = (wA (wA (wA (wA (wA (wA (wA (wA (wA (wA u80 0 47 ((u80.1 0 47) + (1 : Int32))) 0 48 ((u80.1 0 48) - (1 : Int32))) 11 ((u80.1 0 12).toNatClampNeg) r99) 0 12 ((u80.1 0 12) + (1 : Int32))) 11 (((u80.1 0 12) + (1 : Int32)).toNatClampNeg) (0 : Int32)) 0 12 (((u80.1 0 12) + (1 : Int32)) + (1 : Int32))) 11 (((u80.1 0 12) + (1 : Int32)).toNatClampNeg) x111) 13 ((u80.1 0 15).toNatClampNeg) (11 : Int32)) 14 ((u80.1 0 15).toNatClampNeg) (v.1 0 15)) 0 15 ((u80.1 0 15) + (1 : Int32))) := ⟨_, rfl⟩
    rw [← hY] at Q1
    have mX : EMS 2 Y X := by
      rw [hX9, hY]
      exact EMS.w0 (EMS.wa (EMS.wa (EMS.wa (EMS.o1 (EMS.wa (EMS.o1 (EMS.wa EMS.rf (by decide)) rfl) (by decide)) rfl) (by decide)) (by decide)) (by decide)) (by decide)
    rw [← hX9] at h10 h11
    have x47 : X.1 0 47 = u80.1 0 47 + 1 := by rw [hX9]; rfl
    have N1 := oNeed (q := (59, 36)) (m := 36) h10 (mX.j Q1.1) (by decide) rfl (by decide)
    obtain ⟨X', hX'⟩ : ∃ X', X' = (wA X 0 47 (((u80.1 0 47) + (1 : Int32)) + (1 : Int32))) := ⟨_, rfl⟩
    rw [← hX'] at h11
    have l15 := k8.2.2.2.2.1
    have l47 := k8.2.1
    rw [u47] at l15 l47
    rw [u15] at l15
    have l6 := k6.1
    have l7 := k7.1
    have i6 : (u19.1 0 47 + 1).toInt = (u19.1 0 47).toInt + 1 := add_z rfl (by decide) (by omega) (by omega)
    have i7 : (u19.1 0 47 + 1 + 1).toInt = (u19.1 0 47).toInt + 1 + 1 := by
      rw [← i6]
      exact add_z rfl (by decide) (by omega) (by omega)
    rw [i7] at l15 l47
    have n80 := natI (a := u80.1 0 15) (by omega)
    have a15 := x2.2.1.1
    rw [u15] at a15
    have X15 : X'.1 0 15 = u80.1 0 15 + 1 := by rw [hX', hX9]; rfl
    have j15 : (X'.1 0 15).toInt = (u80.1 0 15).toInt + 1 := by rw [X15]; exact add_z rfl (by decide) (by omega) (by omega)
    have X13 : X'.1 13 = upd (u80.1 13) (u80.1 0 15).toNatClampNeg 11 := by rw [hX', hX9]; rfl
    have X14 : X'.1 14 = upd (u80.1 14) (u80.1 0 15).toNatClampNeg (v.1 0 15) := by rw [hX', hX9]; rfl
    have kX : kpS u80 X' := by rw [hX', hX9]; exact ⟨⟨rfl, rfl, rfl, rfl, rfl⟩, rfl, rfl, rfl, rfl⟩
    have kUX : kpS u19 X' := (kU.tr (kpS.fg k8.1)).tr kX
    have fUX : CFq U X' := (CFq.of x2.2.1.2.1).tr (CFq.sm (by omega) (by rw [hX', hX9]; rfl) (by rw [hX', hX9]; rfl) (by rw [hX', hX9]; exact ⟨rfl, rfl, rfl⟩) (fun j hj => by rw [X13]; exact updN_ (by omega)))
    -- what stands below the question's beginning
    have bel : ∀ j : Nat, (j : Int) < (u19.1 0 15).toInt → X'.1 13 j = u19.1 13 j ∧ X'.1 14 j = u42.1 14 j := fun j hj => by
      have G := x2.2.1.2.1.1.2 j (by rw [u15]; exact hj)
      refine ⟨?_, ?_⟩
      · rw [X13, ← u13, ← G.1]; exact updN_ (by omega)
      · rw [X14, ← u14, ← G.2]; exact updN_ (by omega)
    have ch := CHr.br b b4
    rw [← b5, ← kUX.1.2.1] at ch
    have ch2 := CHr.cg (f' := X'.1 14) _ (fun j hj => by
      have R := rg0 j hj
      rw [(bel j (by omega)).2]
      exact C1.2 j (fun z => bps_dj b hj z)) ch
    obtain ⟨⟨n1, n2⟩, n3⟩ := oEnds h11 ch2 (bps_dec (Or.inl rfl) b) (fun j hj => by have := rg0 j hj; omega)
    have fX : CFq X' u136 := CFq.en n3
    have f9 : CFq u19 u136 := f19.tr (fUX.tr fX)
    have w13 : u136.1 13 = X'.1 13 := n3.1.1
    have w15 : (u136.1 0 15).toInt = (u80.1 0 15).toInt + 1 := by rw [n3.1.2.1]; exact j15
    have MB : MOq K u136 (Z.1 0 39).toInt ((v.1 0 15).toNatClampNeg + 1) (rsv (d3p (b ++ ca ++ [evx 17 0 0])) (d3p b) b) := by
      refine rsM (T := X'.1 0 15) (A := u19.1 0 15) f9 (Int.le_refl _) b _ _ b4 (fun j j1 j2 => ?_) ?_ ?_
      · have B := bel j (by omega)
        refine ⟨by rw [w13]; exact B.1, fun q0 q1 => by rw [n2 j q0, B.2]; exact C1.2 j q1, fun q0 => n1 j q0, fun q1 => ?_⟩
        rw [n2 j (fun z => bps_dj b z q1), B.2]
        exact C1.1 j q1
      · show _ = _ + ((loL (b ++ ca ++ [evx 17 0 0]) : Nat) : Int)
        rw [loL_app, loL_app, show loL [evx 17 0 0] = 1 from rfl]
        omega
      · show _ = _ + ((loL b : Nat) : Int)
        omega
    have up : ∀ j : Nat, ((j : Int) < (v.1 0 15).toInt + 1 ∨ (u19.1 0 15).toInt ≤ j) → u136.1 14 j = X'.1 14 j := fun j hj => n2 j (fun z => by have := rg0 j z; omega)
    have MC : MOq K u136 (U.1 0 39).toInt (u19.1 0 15).toNatClampNeg ca := by
      have M := x2.2.1.2.2.2
      rw [u15] at M
      refine M.lf ((CFq.sm (by omega) (by rw [hX', hX9]; rfl) (by rw [hX', hX9]; rfl) (by rw [hX', hX9]; exact ⟨rfl, rfl, rfl⟩) (fun j hj => by rw [X13]; exact updN_ (by omega)) : CFq u80 X').tr fX) (Int.le_refl _) (fun j j1 j2 => ⟨?_, ?_⟩)
      · rw [w13, X13]; exact updN_ (by omega)
      · rw [up j (Or.inr (by omega)), X14]; exact updN_ (by omega)
    have zj : ∀ j : Nat, (j : Int) < (v.1 0 15).toInt + 1 → u136.1 13 j = Z.1 13 j ∧ u136.1 14 j = Z.1 14 j := fun j hj => by
      have B := bel j (by omega)
      have D := b2.1.2 j (by rw [z15', i15]; exact hj)
      refine ⟨by rw [w13, B.1, D.1], ?_⟩
      rw [up j (Or.inl hj), B.2, C1.2 j (fun z => by have := rg1 j z; omega), D.2]
    have FZ : OF Z u136 := OF.cf ((CFq.of b2).tr f9) (fun j hj => zj j (by rw [z15', i15] at hj; exact hj))
    have CJ1 : CJ Z u136 := by
      have c1 : CJ Z U := b3.cf f19 u39
      have c2 : CJ Z u80 := c1.tc x2.2.1.2.2.1 ((CFq.of b2).tr f19) (CFq.of x2.2.1.2.1)
      exact c2.cf ((CFq.sm (by omega) (by rw [hX', hX9]; rfl) (by rw [hX', hX9]; rfl) (by rw [hX', hX9]; exact ⟨rfl, rfl, rfl⟩) (fun j hj => by rw [X13]; exact updN_ (by omega)) : CFq u80 X').tr fX) (n3.1.2.2.1.trans (by rw [hX', hX9]; rfl))
    have AU : OA K Z u136 (rsv (d3p (b ++ ca ++ [evx 17 0 0])) (d3p b) b ++ ca ++ [bwE 17 0 ([evx 24 0 0] ++ b ++ ca)]) := by
      refine ⟨?_, FZ, CJ1, ((?_ : MOq K u136 (Z.1 0 39).toInt (Z.1 0 15).toNatClampNeg _).app ?_).app (MOq.one ?_)⟩
      · rw [loL_app, loL_app, loL_rsv, show loL [bwE 17 0 ([evx 24 0 0] ++ b ++ ca)] = 1 from rfl, z15', i15]
        omega
      · rw [nZ]; exact MB
      · rw [loL_rsv, show (Z.1 0 15).toNatClampNeg + loL b = (u19.1 0 15).toNatClampNeg by omega]
        exact MC.up OF.rf (by rw [u39]; exact b2.2.1.1)
      · rw [loL_app, loL_rsv, show (Z.1 0 15).toNatClampNeg + (loL b + loL ca) = (u80.1 0 15).toNatClampNeg by omega]
        refine moE.jump (Or.inr (Or.inl rfl)) (by omega) (by rw [w13, X13]; exact updS) ?_
        rw [up _ (Or.inr (by omega)), X14, updS]
        show _ = _ + -((loL ([evx 24 0 0] ++ b ++ ca) : Nat) : Int)
        rw [loL_app, loL_app, show loL [evx 24 0 0] = 1 from rfl]
        omega
    have TU : OA K u136 u [] := by rw [eu]; exact OA.w0
    have g6 := endsK y2 kZ (by omega) kUX.1.1 ⟨kUX.2.1, kUX.2.2.1, kUX.2.2.2.1, kUX.2.2.2.2⟩ n3
    have g29 : u.1 29 = u19.1 29 := by rw [eu]; exact n3.2.1.1.trans (by rw [hX', hX9]; exact x2.2.2.1.trans u29)
    have g30' : u.1 0 30 = u19.1 0 30 := by rw [eu]; exact n3.2.1.2.1.trans (by rw [hX', hX9]; exact x2.2.2.2.1.trans u30)
    have g30 : u.1 0 30 = v.1 0 30 := g30'.trans (c30.trans z30)
    have lo : ∀ j : Nat, (j : Int) < (v.1 0 30).toInt → u.1 29 j = v.1 29 j := fun j hj => by
      rw [g29, c29 j (by rw [z30]; exact hj), z29]
    have kn : knM K u = knM K v := (knM_of g29 g30').trans (ckn.trans knZ)
    refine ⟨_, ?_, ⟨JU.1, JU.2.2⟩, SAq.oh ((A0.tr AU p0).nt TU p0) (by rw [eu]; exact g6.1) (by rw [eu]; exact had_w g6.2), ?_, by rw [g30]; exact Int.le_refl _, lo⟩
    · unfold gDo
      rw [y1, Option.bind_some]
      have t13 : gTok e 13 (u19.1 0 47) = some (u19.1 0 47 + 1) := by
        rw [← F42 47]
        exact gTok_of k13
      show (gTok e 13 (u19.1 0 47)).bind _ = _
      rw [t13, Option.bind_some]
      have t30 : gTok e 30 (u19.1 0 47 + 1) = some (u19.1 0 47 + 1 + 1) := by
        rw [← F42 47]
        exact if_pos O1.2
      have gc : gCond E e (knM K v) (v.1 0 32) (u19.1 0 47 + 1) = some (ca, u80.1 0 47 + 1) := by
        unfold gCond
        rw [t30, Option.bind_some, x1, Option.bind_some]
        show (gTok e 31 (u80.1 0 47)).bind _ = _
        rw [gTok_of Q1.2, Option.bind_some]
      rw [gc, Option.bind_some]
      show (gTok e 36 (u80.1 0 47 + 1)).bind _ = _
      have t36 : gTok e 36 (u80.1 0 47 + 1) = some (u80.1 0 47 + 1 + 1) := by
        rw [← x47]
        exact if_pos N1.2
      rw [t36, Option.bind_some, kn]
      have e47 : u.1 0 47 = u80.1 0 47 + 1 + 1 := by rw [eu]; exact n3.2.1.2.2.2.trans (by rw [hX']; rfl)
      rw [e47]
      unfold gDoL
      simp only [List.append_assoc]
    · rw [eu]
      exact n3.2.1.2.2.1.trans (by rw [hX', hX9]; exact x2.2.2.2.2.trans (u32.trans (c32.trans z32)))
  · cases f9
end WUD
