/-! the class's deeds: a choice -/
section UQC
variable {L1 L2 : List Nat} {P : Int32 × Int32 × Int32} {v u w x z : MS} {a b : List EV} {e : PE} {pa pb pc1 pd r : Int32} {t : Bool} {E : EvE} {R : RE1} {lo cl lo'' cl'' : Int} {p : Nat} {q : EV}
theorem mChoiceM (hM : XM R) (h : Q_x_X2_choice L1 L2 R v false u) : (v.1 0 321).toInt ≤ (u.1 0 321).toInt := by
  obtain ⟨-, -, -, -, -, -, -, -, -, -, r3, u2, h2, k2, r7, u6, h6, k6, h⟩ := h
  rcases h with ⟨u9, -, f, -⟩ | ⟨u17, h17, k17, u23, h23, k23, ⟨u9, -, f, -⟩ | ⟨u48, h48, k48, ⟨u9, -, f, -⟩ | ⟨u53, h53, k53, u57, h57, k57, u60, h60, k60, ⟨u9, -, f, -⟩ | ⟨u90, h90, k90, u93, h93, k93, u97, h97, k97, -, eu⟩⟩⟩⟩
  · cases f
  · cases f
  · cases f
  · cases f
  · have := fc21 k2.1
    have := fc21 k6.1
    have := fc21 k17.1
    have := fc21 k23.1
    have := hM _ _ _ h48
    have := fc21 k53.1
    have := fc21 k57.1
    have := fc21 k60.1
    have := hM _ _ _ h90
    have := fc21 k93.1
    have := fc21 k97.1
    rw [eu]
    omega
set_option maxHeartbeats 1600000 in
theorem eChoice (hE : XE L2 R E) (hM : XM R) (hK : XK R) (h : Q_x_X2_choice L1 L2 R v false u) (J : JC L2 e v) (B : LBe v) (tp : TPO v) (cu : (u.1 0 321).toInt ≤ 500) :
    ∃ q1 r1 j1 j2, E true e (knC v) (v.1 0 314) (v.1 0 305 + 1) = some (q1, j1) ∧ gTok e 39 j1 = some j2 ∧ E false e (knC v) (v.1 0 314) j2 = some (r1, u.1 0 305) ∧ ES L2 e P v u ([fwE 16 0 (q1 ++ [fwE 19 0 r1])] ++ q1 ++ [fwE 19 0 r1] ++ r1) := by
  obtain ⟨-, -, -, -, -, -, -, -, -, -, r3, u2, h2, k2, r7, u6, h6, k6, h⟩ := h
  rcases h with ⟨u9, -, f, -⟩ | ⟨u17, h17, k17, u23, h23, k23, ⟨u9, -, f, -⟩ | ⟨u48, h48, k48, ⟨u9, -, f, -⟩ | ⟨u53, h53, k53, u57, h57, k57, u60, h60, k60, ⟨u9, -, f, -⟩ | ⟨u90, h90, k90, u93, h93, k93, u97, h97, k97, -, eu⟩⟩⟩⟩
  · cases f
  · cases f
  · cases f
  · cases f
  rw [eu] at cu ⊢
  -- labels
  have b17 := B.1.1
  have b12 := B.1.2
  have b05 := B.2.1
  have A2 := EF.lab (lo := (v.1 0 317).toInt) (lc := (v.1 0 321).toInt) h2 ⟨B.1.1, by omega⟩
  have A6 := EF.lab (lo := (v.1 0 317).toInt) (lc := (v.1 0 321).toInt) h6 ⟨by omega, by omega⟩
  have e17 : (u17.1 0 317).toInt = (v.1 0 317).toInt + 2 := by
    have : (u17.1 0 317).toInt = (u6.1 0 317).toInt := congrArg Int32.toInt (k17.1.2.1 317 (by decide))
    omega
  have f05 : u6.1 0 305 = v.1 0 305 := (k6.1.2.1 305 (by decide)).trans (k2.1.2.1 305 (by decide))
  have i05 : (u17.1 0 305).toInt = (v.1 0 305).toInt + 1 := by rw [k17.2.2.2.2.1, f05]
  have f81 : u17.1 0 381 = v.1 0 381 := (k17.1.2.1 381 (by decide)).trans ((k6.1.2.1 381 (by decide)).trans (k2.1.2.1 381 (by decide)))
  have f21 : u17.1 0 321 = v.1 0 321 := (k17.1.2.1 321 (by decide)).trans ((k6.1.2.1 321 (by decide)).trans (k2.1.2.1 321 (by decide)))
  have f12 : u17.1 0 312 = v.1 0 312 := (k17.1.2.1 312 (by decide)).trans ((k6.1.2.1 312 (by decide)).trans (k2.1.2.1 312 (by decide)))
  have f14 : u17.1 0 314 = v.1 0 314 := (k17.1.2.1 314 (by decide)).trans ((k6.1.2.1 314 (by decide)).trans (k2.1.2.1 314 (by decide)))
  have fkn : knC u17 = knC v := (knC_fr k17.1).trans ((knC_fr k6.1).trans (knC_fr k2.1))
  have B17 : LBe u17 := ⟨⟨by omega, by omega⟩, by have := k17.2.1; omega, by rw [f12]; exact B.2.2.1, by rw [f81]; exact B.2.2.2.1, by rw [f21]; exact B.2.2.2.2⟩
  have J6 : JC L2 e u6 := (J.fr k2.1 k2.2.2 (by decide) (by decide) (by rw [k2.1.2.1 305 (by decide), k2.1.2.1 307 (by decide)]; exact J.2.1)).fr k6.1 k6.2.2 (by decide) (by decide) (by rw [k6.1.2.1 305 (by decide), k6.1.2.1 307 (by decide), k2.1.2.1 305 (by decide), k2.1.2.1 307 (by decide)]; exact J.2.1)
  have O17 := eOpen (P := P) h17 k17 J6
  have J17 := O17.1
  have a05 : u17.1 0 305 = v.1 0 305 + 1 := by rw [O17.2.2, f05]
  -- the question's jump
  have D1 := EF.add (lo := (v.1 0 317).toInt) (lc := (v.1 0 321).toInt) h23
  have x5 : u23.1 0 305 = u17.1 0 305 := k23.1.2.1 305 (by decide)
  have x17 : u23.1 0 317 = u17.1 0 317 := k23.1.2.1 317 (by decide)
  have x21 : u23.1 0 321 = u17.1 0 321 := k23.1.2.1 321 (by decide)
  have J23 : JC L2 e u23 := J17.fr k23.1 k23.2.2.2 (by decide) (by decide) (by rw [x5, k23.1.2.1 307 (by decide)]; exact J17.2.1)
  have B23 : LBe u23 := ⟨by rw [x5, x17]; exact B17.1, by rw [x5]; exact B17.2.1, by rw [k23.1.2.1 312 (by decide)]; exact B17.2.2.1, by have := D1.2.1; have := B17.2.2.2.1; omega, by rw [x21]; exact B17.2.2.2.2⟩
  -- first side
  have c90 : (u90.1 0 321).toInt ≤ 500 := by
    have := fc21 k93.1
    have := fc21 k97.1
    omega
  have c48 : (u48.1 0 321).toInt ≤ 500 := by
    have := fc21 k53.1
    have := fc21 k57.1
    have := fc21 k60.1
    have := hM _ _ _ h90
    omega
  have tp23 : TPE u23 := tpe_fr k23.1 (by decide) (tp_open k17 (tpo_fr k6.1 (by decide) (tpo_fr k2.1 (by decide) tp)))
  obtain ⟨q1, y1, S48⟩ := hE.es (P := P) (bz := true) h48 k48 J23 B23 tp23 c48 (by decide)
  have Y := ES.exp (P := P) (m := 39) (by decide) h53 k53 S48.1 S48.2.2.1
  have D2 := EF.add (lo := (v.1 0 317).toInt) (lc := (v.1 0 321).toInt) h57
  have n3 : r3.toInt = (v.1 0 317).toInt := A2.2.2
  have n7 : r7.toInt = (v.1 0 317).toInt + 1 := by rw [A6.2.2]; exact A2.2.1
  have T1 := KX.set (lo := (v.1 0 317).toInt + 2) (cl := (v.1 0 321).toInt) h60 (by omega) (by omega)
  have s05 : u60.1 0 305 = u53.1 0 305 := (congrFun T1.2.2.2.1 305).trans (k57.1.2.1 305 (by decide))
  have s17 : u60.1 0 317 = u53.1 0 317 := (congrFun T1.2.2.2.1 317).trans (k57.1.2.1 317 (by decide))
  have s81 : u60.1 0 381 = u57.1 0 381 := congrFun T1.2.2.2.1 381
  have s21 : u60.1 0 321 = u53.1 0 321 := (congrFun T1.2.2.2.1 321).trans (k57.1.2.1 321 (by decide))
  have s12 : u60.1 0 312 = u53.1 0 312 := (congrFun T1.2.2.2.1 312).trans (k57.1.2.1 312 (by decide))
  have s14 : u60.1 0 314 = u53.1 0 314 := (congrFun T1.2.2.2.1 314).trans (k57.1.2.1 314 (by decide))
  have s07 : u60.1 0 307 = u53.1 0 307 := (congrFun T1.2.2.2.1 307).trans (k57.1.2.1 307 (by decide))
  have J57 : JC L2 e u57 := Y.1.1.fr k57.1 k57.2.2.2 (by decide) (by decide) (by rw [k57.1.2.1 305 (by decide), k57.1.2.1 307 (by decide)]; exact Y.1.1.2.1)
  have J60 : JC L2 e u60 := J57.fr k60.1 k60.2 (by decide) (by decide) (by rw [k60.1.2.1 305 (by decide), k60.1.2.1 307 (by decide)]; exact J57.2.1)
  have B53 := Y.1.2.2.1
  have B60 : LBe u60 := ⟨by rw [s05, s17]; exact B53.1, by rw [s05]; exact B53.2.1, by rw [s12]; exact B53.2.2.1, by rw [s81, D2.2.1]; have := B53.2.2.2.1; omega, by rw [s21]; exact B53.2.2.2.2⟩
  have kn60 : knC u60 = knC v := (knC_fr k60.1).trans ((knC_fr k57.1).trans (Y.1.2.2.2.1.trans (S48.2.2.2.1.trans ((knC_fr k23.1).trans fkn))))
  have p60 : u60.1 0 314 = v.1 0 314 := by rw [s14, Y.1.2.2.2.2.1, S48.2.2.2.2.1, k23.1.2.1 314 (by decide), f14]
  obtain ⟨r1, y2, S90⟩ := hE.es (P := P) (bz := false) h90 k90 J60 B60 (tpe_fr k60.1 (by decide) (tpe_fr k57.1 (by decide) (tpe_fr k53.1 (by decide) (tpK (hK _ _ _ h48) k48.2.2.2.2.2.2.2.2.2.1 tp23)))) c90 (by decide)
  have T2 := KX.set (lo := (v.1 0 317).toInt + 2) (cl := (v.1 0 321).toInt) h93 (by omega) (by omega)
  have J93 : JC L2 e u93 := S90.1.fr k93.1 k93.2 (by decide) (by decide) (by rw [k93.1.2.1 305 (by decide), k93.1.2.1 307 (by decide)]; exact S90.1.2.1)
  have w5 : u93.1 0 305 = u90.1 0 305 := k93.1.2.1 305 (by decide)
  have B93 : LBe u93 := ⟨by rw [w5, k93.1.2.1 317 (by decide)]; exact S90.2.2.1.1, by rw [w5]; exact S90.2.2.1.2.1, by rw [k93.1.2.1 312 (by decide)]; exact S90.2.2.1.2.2.1, by rw [k93.1.2.1 381 (by decide)]; exact S90.2.2.1.2.2.2.1, by rw [k93.1.2.1 321 (by decide)]; exact S90.2.2.1.2.2.2.2⟩
  have C := ES.close (P := P) h97 k97 J93 B93
  -- how many deeds
  have m1 : (u23.1 0 381).toInt = (v.1 0 381).toInt + 1 := by rw [D1.2.1, f81]
  have m2 : (u48.1 0 381).toInt = (u23.1 0 381).toInt + ldL q1 := S48.2.1.1
  have m3 : (u57.1 0 381).toInt = (u48.1 0 381).toInt + 1 := by
    rw [D2.2.1, k53.1.2.1 381 (by decide)]
  have m4 : (u90.1 0 381).toInt = (u57.1 0 381).toInt + ldL r1 := by rw [S90.2.1.1, s81]
  have m5 : (u97.1 0 381).toInt = (u90.1 0 381).toInt := by rw [k97.1.2.1 381 (by decide), k93.1.2.1 381 (by decide)]
  have l1 : ∀ {b : List EV} {t : Int32}, t ≠ 25 → ldE (fwE t 0 b) = 1 := fun ht => if_neg ht
  have n0 := natI B.2.2.2.1
  have nu23 := natI (a := u23.1 0 381) (by omega)
  have nu53 := natI (a := u53.1 0 381) (by rw [k53.1.2.1 381 (by decide)]; omega)
  have nu60 := natI (a := u60.1 0 381) (by rw [s81]; omega)
  have nu17 : (u17.1 0 381).toNatClampNeg = (v.1 0 381).toNatClampNeg := by rw [f81]
  have q17 : (u60.1 0 317).toInt = (u48.1 0 317).toInt := by rw [s17, k53.1.2.1 317 (by decide)]
  have q48 : (v.1 0 317).toInt + 2 ≤ (u48.1 0 317).toInt := by
    have := S48.2.1.2.1.2.2.1
    rw [x17] at this
    omega
  have q90 := S90.2.1.2.1.2.2.1
  have z17 : (u97.1 0 317).toInt = (u90.1 0 317).toInt := by rw [k97.1.2.1 317 (by decide), k93.1.2.1 317 (by decide)]
  -- what is kept to the end
  have K4 : KX ((v.1 0 317).toInt + 2) (v.1 0 321).toInt u90 u97 := T2.1.tr (KX.ea C.1.2.1)
  have K3 : KX ((v.1 0 317).toInt + 2) (v.1 0 321).toInt u60 u97 := (KX.ea S90.2.1).tr K4
  have K2 : KX ((v.1 0 317).toInt + 2) (v.1 0 321).toInt u57 u97 := T1.1.tr K3
  have K1 : KX ((v.1 0 317).toInt + 2) (v.1 0 321).toInt u48 u97 := ((KX.ea Y.1.2.1).tr (KX.add h57)).tr K2
  have K0 : KX ((v.1 0 317).toInt + 2) (v.1 0 321).toInt u23 u97 := (KX.ea S48.2.1).tr K1
  -- the labels
  have g3 : r3.toNatClampNeg = (v.1 0 317).toNatClampNeg := natC (by rw [n3]; exact (natI B.1.1).symm)
  have nl := natI B.1.1
  have g7 : r7.toNatClampNeg = (v.1 0 317).toNatClampNeg + 1 := natC (by rw [n7]; omega)
  have L3 : (v.1 0 317).toInt < 1500 → (u97.1 316 (v.1 0 317).toNatClampNeg).toInt = (u57.1 0 381).toInt := fun q9 => by
    rw [k97.1.2.2 316 (by decide), T2.2.2.1 _ (by omega), S90.2.1.2.1.2.2.2.1 _ (by omega)]
    have := T1.2.1 (by omega)
    rw [g3] at this
    rw [this]
  have L7 : (v.1 0 317).toInt + 1 < 1500 → (u97.1 316 ((v.1 0 317).toNatClampNeg + 1)).toInt = (u90.1 0 381).toInt := fun q9 => by
    rw [k97.1.2.2 316 (by decide)]
    have := T2.2.1 (by omega)
    rw [g7] at this
    rw [this]
  refine ⟨q1, r1, u48.1 0 305, u60.1 0 305, ?_, ?_, ?_, ?_, ?_, ?_, ?_, ?_, ?_⟩
  · rw [knC_fr k23.1, fkn, k23.1.2.1 314 (by decide), f14, x5, a05] at y1
    exact y1
  · rw [s05]
    exact Y.2
  · rw [kn60, p60] at y2
    rw [y2, C.2, w5]
  · exact C.1.1
  · have p1 := K0.1.2 (v.1 0 381).toNatClampNeg (by omega)
    have p2 := K2.1.2 (u53.1 0 381).toNatClampNeg (by rw [m3, nu53, k53.1.2.1 381 (by decide)]; omega)
    have d1 : u23.1 378 (v.1 0 381).toNatClampNeg = 16 := by rw [← nu17]; exact D1.2.2.1
    have d2 : u23.1 379 (v.1 0 381).toNatClampNeg = r3 := by rw [← nu17]; exact D1.2.2.2.1
    have d3 : u23.1 380 (v.1 0 381).toNatClampNeg = 0 := by rw [← nu17]; exact D1.2.2.2.2.1
    have pp : (v.1 0 381).toNatClampNeg + 1 + ldL q1 = (u53.1 0 381).toNatClampNeg := by
      have : (u53.1 0 381).toInt = (u48.1 0 381).toInt := by rw [k53.1.2.1 381 (by decide)]
      omega
    have pr : (v.1 0 381).toNatClampNeg + 1 + ldL q1 + 1 = (u60.1 0 381).toNatClampNeg := by
      have : (u60.1 0 381).toInt = (u57.1 0 381).toInt := by rw [s81]
      omega
    have pq : (v.1 0 381).toNatClampNeg + 1 = (u23.1 0 381).toNatClampNeg := by omega
    have M1 : MTq P u97 (v.1 0 317).toInt (v.1 0 321).toInt (v.1 0 381).toNatClampNeg [fwE 16 0 (q1 ++ [fwE 19 0 r1])] := MTq.one (mtE.jump (l := (v.1 0 317).toNatClampNeg) (Or.inl rfl) (by omega) (p1.1.trans d1) (by rw [p1.2.1, d2, n3]; exact nl.symm) (p1.2.2.trans d3) ⟨by omega, by omega⟩ (fun q9 => by
      rw [L3 (by omega), ldL_app, ldL_cons, l1 (by decide), ldL_nil]
      omega))
    have M2 : MTq P u97 (v.1 0 317).toInt (v.1 0 321).toInt (u23.1 0 381).toNatClampNeg q1 := S48.2.1.2.2.2.kx (lo := (u23.1 0 317).toInt) (cl := (u23.1 0 321).toInt) ⟨K1.1, ⟨K1.2.1.1, fun l h1 h2 => K1.2.1.2 l (by rw [x17] at h1; omega) h2⟩, ⟨K1.2.2.1, fun c h1 h2 => K1.2.2.2 c (by rw [x21, f21] at h1; omega) h2⟩⟩ (by rw [x17]; omega) (by rw [x21, f21]; exact Int.le_refl _)
    have M3 : MTq P u97 (v.1 0 317).toInt (v.1 0 321).toInt (u53.1 0 381).toNatClampNeg [fwE 19 0 r1] := MTq.one (mtE.jump (l := (v.1 0 317).toNatClampNeg + 1) (Or.inr (Or.inr (Or.inr rfl))) (by
      have : (u53.1 0 381).toInt = (u48.1 0 381).toInt := by rw [k53.1.2.1 381 (by decide)]
      omega) (p2.1.trans D2.2.2.1) (by rw [p2.2.1, D2.2.2.2.1, n7]; omega) (p2.2.2.trans D2.2.2.2.2.1) ⟨by omega, by omega⟩ (fun q9 => by
      have : (u53.1 0 381).toInt = (u48.1 0 381).toInt := by rw [k53.1.2.1 381 (by decide)]
      rw [L7 (by omega)]
      omega))
    have M4 : MTq P u97 (v.1 0 317).toInt (v.1 0 321).toInt (u60.1 0 381).toNatClampNeg r1 := S90.2.1.2.2.2.kx (lo := (u60.1 0 317).toInt) (cl := (u60.1 0 321).toInt) ⟨K4.1, ⟨K4.2.1.1, fun l h1 h2 => K4.2.1.2 l (by omega) h2⟩, ⟨K4.2.2.1, fun c h1 h2 => K4.2.2.2 c (by
      have := S48.cm
      have := fc21 k53.1
      have : (u60.1 0 321).toInt = (u53.1 0 321).toInt := by rw [s21]
      rw [x21, f21] at *
      omega) h2⟩⟩ (by omega) (by
      have := S48.cm
      have := fc21 k53.1
      have : (u60.1 0 321).toInt = (u53.1 0 321).toInt := by rw [s21]
      rw [x21, f21] at *
      omega)
    refine ⟨?_, ?_, ?_, ?_⟩
    · rw [ldL_app, ldL_app, ldL_app, ldL_cons, ldL_cons, l1 (by decide), l1 (by decide), ldL_nil]
      omega
    · refine ⟨by omega, fun j hj => ?_, by omega, fun l hl => ?_, ?_, fun c hc _ => ?_⟩
      · have y := K0.1.2 j (by omega)
        have y' := D1.1.2.1 j (by rw [f81]; exact hj)
        rw [y.1, y.2.1, y.2.2, y'.1, y'.2.1, y'.2.2, k17.1.2.2 378 (by decide), k17.1.2.2 379 (by decide), k17.1.2.2 380 (by decide), k6.1.2.2 378 (by decide), k6.1.2.2 379 (by decide), k6.1.2.2 380 (by decide), k2.1.2.2 378 (by decide), k2.1.2.2 379 (by decide), k2.1.2.2 380 (by decide)]
        exact ⟨rfl, rfl, rfl⟩
      · rw [k97.1.2.2 316 (by decide), T2.2.2.1 l (by omega), S90.2.1.2.1.2.2.2.1 l (by omega), T1.2.2.1 l (by omega), k57.1.2.2 316 (by decide), k53.1.2.2 316 (by decide), S48.2.1.2.1.2.2.2.1 l (by rw [x17]; omega), k23.1.2.2 316 (by decide), k17.1.2.2 316 (by decide), k6.1.2.2 316 (by decide), k2.1.2.2 316 (by decide)]
      · have a1 := S48.cm
        have a2 := S90.cm
        have a3 := fc21 k53.1
        have a4 := fc21 k97.1
        have a5 := fc21 k93.1
        have a6 : (u60.1 0 321).toInt = (u53.1 0 321).toInt := by rw [s21]
        rw [x21, f21] at a1
        omega
      · have a1 := S48.cm
        have a3 := fc21 k53.1
        have a6 : (u60.1 0 321).toInt = (u53.1 0 321).toInt := by rw [s21]
        rw [x21, f21] at a1
        have y1 := S90.2.1.2.1.2.2.2.2.2 c (by omega) (by omega)
        have y2 := S48.2.1.2.1.2.2.2.2.2 c (by rw [x21, f21]; exact hc) (by omega)
        rw [k97.1.2.2 318 (by decide), k97.1.2.2 320 (by decide), k93.1.2.2 318 (by decide), k93.1.2.2 320 (by decide), y1.1, y1.2, k60.1.2.2 318 (by decide), k60.1.2.2 320 (by decide), k57.1.2.2 318 (by decide), k57.1.2.2 320 (by decide), k53.1.2.2 318 (by decide), k53.1.2.2 320 (by decide), y2.1, y2.2, k23.1.2.2 318 (by decide), k23.1.2.2 320 (by decide), k17.1.2.2 318 (by decide), k17.1.2.2 320 (by decide), k6.1.2.2 318 (by decide), k6.1.2.2 320 (by decide), k2.1.2.2 318 (by decide), k2.1.2.2 320 (by decide)]
        exact ⟨rfl, rfl⟩
    · have a1 := S48.2.1.2.2.1
      have a2 := Y.1.2.1.2.2.1
      have a3 := S90.2.1.2.2.1
      have a4 := C.1.2.1.2.2.1
      have e5 : (u53.1 0 305).toInt = (u48.1 0 305).toInt + 1 := k53.2.2.1
      rw [x5, x17] at a1
      rw [s05, s17] at a3
      rw [w5, k93.1.2.1 317 (by decide)] at a4
      have e6 : (u53.1 0 317).toInt = (u48.1 0 317).toInt := by rw [k53.1.2.1 317 (by decide)]
      omega
    · refine ((M1.app ?_).app ?_).app ?_
      · rw [ldL_cons, l1 (by decide), ldL_nil, pq]
        exact M2
      · rw [ldL_app, ldL_cons, l1 (by decide), ldL_nil, show (v.1 0 381).toNatClampNeg + (1 + 0 + ldL q1) = (u53.1 0 381).toNatClampNeg by omega]
        exact M3
      · rw [ldL_app, ldL_app, ldL_cons, ldL_cons, l1 (by decide), l1 (by decide), ldL_nil, show (v.1 0 381).toNatClampNeg + (1 + 0 + ldL q1 + (1 + 0)) = (u60.1 0 381).toNatClampNeg by omega]
        exact M4
  · exact C.1.2.2.1
  · rw [C.1.2.2.2.1, knC_fr k93.1, S90.2.2.2.1, kn60]
  · rw [C.1.2.2.2.2.1, k93.1.2.1 314 (by decide), S90.2.2.2.2.1, p60]
  · rw [C.1.2.2.2.2.2, k93.1.2.1 312 (by decide), S90.2.2.2.2.2, s12, Y.1.2.2.2.2.2, S48.2.2.2.2.2, k23.1.2.1 312 (by decide), f12]
end UQC
