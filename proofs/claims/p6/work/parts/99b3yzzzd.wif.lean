/-! the reference's words: if -/
section ZZD
variable {n : Int} {K : TK} {e : PE} {v u w x y : MS} {a b d a0 cc : List EV} {q : EV} {r pa pb pd o zv zn : Int32} {c : RM1} {E : EvE} {S : EvS} {Es : FE} {Ss : FS} {k : Nat}
set_option maxHeartbeats 800000 in
theorem oIfMW (hX : XWe n K (QME k) E) (hE : HME n K (QME k) Es) (hS : XWs n K c S) (hSs : HMS n K c Ss) (h : Q_m_choices k c v false u) (J : JM n K e v) (hk : 2 ≤ (e.1 (v.1 0 47)).toInt) : ∃ a, gIf E S e (knM K v) (v.1 0 32) (v.1 0 47) = some (a, knM K u, u.1 0 47) ∧ SOw n K e v u a := by
  have JU := (rIf (g := gLq v) hE hSs h J rfl (gLq_lo v) hk).jj
  obtain ⟨z1, z2, z3, z4, z5, z6, z15, z8, z9, z10, z11, z12, z13, z14, h⟩ := h
  rcases h with ⟨u9, -, f9, -⟩ | ⟨h1, k1, ⟨u9, -, f9, -⟩ | ⟨r11, u10, h10, k10, ⟨u9, -, f9, -⟩ | ⟨u23, h23, k23, r33, h33, -, h⟩⟩⟩
  · cases f9
  · cases f9
  · cases f9
  have JO := (rOpens (g := g00) h1 J hk).jj
  obtain ⟨V, hV⟩ : ∃ V, V = (wA (wA v 0 47 ((v.1 0 47) + (1 : Int32))) 0 48 ((v.1 0 48) + (1 : Int32))) := ⟨_, rfl⟩
  rw [← hV] at h10 k10 JO
  have v47 : V.1 0 47 = v.1 0 47 + 1 := by rw [hV]; rfl
  have v29 : V.1 29 = v.1 29 := by rw [hV]; rfl
  have v30 : V.1 0 30 = v.1 0 30 := by rw [hV]; rfl
  have v32 : V.1 0 32 = v.1 0 32 := by rw [hV]; rfl
  have v52 : V.1 0 52 = v.1 0 52 := by rw [hV]; rfl
  have AV : SAw K v V [] := by rw [hV]; exact SAw.oa (WAi.sm rfl rfl) rfl rfl rfl rfl rfl rfl rfl rfl
  obtain ⟨w, ca, x1, x2, ⟨JD, ND1⟩, ⟨dE, rfl, d12, z0, z1'⟩, ⟨d29, d30, d32⟩, kVw, kwu, l47, l47b⟩ := oCondMW hX hE h10 k10 JO
  rw [knM_of v29 v30, v32, v47] at x1
  have AC : SAw K v w ca := AV.tn (SAw.kp x2 kVw)
  obtain ⟨b1, y1, y2, y30, ykn⟩ := oPartW hS hSs h23 JD ND1
  have kn10 : knM K u10 = knM K v := (knM_of d29 d30).trans (knM_of v29 v30)
  rw [ykn, kn10, d32, v32] at y1
  have i33 : r33.toInt ≠ 0 ↔ e.1 (u23.1 0 47) = 12 := rIsKey (g := g00) h33 y2.1.1 (by decide)
  have e12 : e.1 (u23.1 0 47) = 12 ↔ (e.1 (u23.1 0 47)).toInt = 12 := ⟨fun q => by rw [q]; decide, fun q => Int32.toInt_inj.mp (q.trans (by decide))⟩
  have kn23 : knM K u23 = knM K v := ykn.trans kn10
  have g23 : ∀ j : Nat, (j : Int) < (v.1 0 30).toInt → u23.1 29 j = v.1 29 j := fun j hj => by
    rw [y2.2.2.2.2 j (by rw [d30, v30]; exact hj), d29, v29]
  have t30 : u23.1 0 30 = v.1 0 30 := by rw [y30, d30, v30]
  have m12 := k23.2.2.1.1
  rw [d12, ad2 z0 (by omega)] at m12
  have n23 := natI (a := u23.1 0 12) (by omega)
  have a1 := ad1 z0 (by omega)
  have n11 := natI (a := w.1 0 12 + 1) (by omega)
  have ne : (u23.1 0 12).toNatClampNeg ≠ (w.1 0 12 + 1).toNatClampNeg := by omega
  unfold gIf
  rcases h with ⟨c33, x39, h39, -, eu⟩ | ⟨c33, ⟨u9, -, f9, -⟩ | ⟨ht, -, x76, h76, ⟨u9, -, f9, -⟩ | ⟨u91, h91, k91, x105, h105, -, eu⟩⟩⟩
  · obtain rfl := eJmp h39
    obtain ⟨Z, hZ⟩ : ∃ Z, Z = wA (wA u23 11 (w.1 0 12 + 1).toNatClampNeg (jW 0 ((4 : Int32) * (u23.1 0 12 - (w.1 0 12 + 1))))) 14 ((u10.1 0 60).toNatClampNeg) (u23.1 0 15) := ⟨_, rfl⟩
    rw [← hZ] at eu
    have T1 : SAw K w Z ([fwE 16 0 b1] ++ b1) := SAw.pj (ws := [bW 4195 10 0 8]) (z0 := -1) (jj := 0) (p := w.1 0 12 + 1) (t := u23.1 0 12) dE kwu y2.2.1 (by rw [hZ]; rfl) (by rw [hZ]; rfl) (by rw [hZ]; exact ⟨⟨rfl, rfl, rfl, rfl, rfl, rfl⟩, rfl, rfl⟩) (by rw [hZ]; exact ⟨⟨rfl, rfl, rfl, rfl, rfl⟩, rfl, rfl, rfl⟩) (fun g1 g2 => ad1 g1 g2) (fun _ _ => (Int.add_zero _).symm) (by rw [fwD (k := 2) (by decide)]; show (2 : Int) + _ = ((1 : Nat) : Int) + 1 + _ + 0; omega) (fun _ => rw16) rfl rfl
    have TU : SAw K Z u [] := by rw [eu]; exact SAw.oa WAi.w0 rfl rfl rfl rfl rfl rfl rfl rfl
    refine ⟨_, ?_, ⟨JU.1, JU.2.2⟩, (AC.tr T1).nt TU, ?_, ?_, fun j hj => ?_⟩
    · rw [x1, Option.bind_some, y1, Option.bind_some, if_neg (fun q => i33.mpr (e12.mpr q) c33)]
      have knu : knM K u = knM K v := by
        rw [← kn23]
        exact knM_of (by rw [eu, hZ]; rfl) (by rw [eu, hZ]; rfl)
      rw [knu, eu, hZ]
      show some (ca ++ [fwE 16 0 b1] ++ b1, knM K v, u23.1 0 47) = some (ca ++ ([fwE 16 0 b1] ++ b1), knM K v, u23.1 0 47)
      rw [List.append_assoc]
    · rw [eu, hZ]
      show u23.1 0 32 = _
      rw [y2.2.2.1, d32, v32]
    · rw [eu, hZ]
      show (v.1 0 30).toInt ≤ (u23.1 0 30).toInt
      rw [t30]; exact Int.le_refl _
    · rw [eu, hZ]
      exact g23 j hj
  · cases f9
  · cases f9
  · have k12 := e12.mp (i33.mp c33)
    obtain rfl := eJmp h76
    obtain rfl := eJmp h105
    obtain ⟨W, hW⟩ : ∃ W, W = (wA (wA (wA (wA (wA (wA (wA (wA u23 0 47 ((u23.1 0 47) + (1 : Int32))) 11 ((u23.1 0 12).toNatClampNeg) (-1 : Int32)) 0 12 ((u23.1 0 12) + (1 : Int32))) 13 ((u23.1 0 15).toNatClampNeg) (12 : Int32)) 14 ((u23.1 0 15).toNatClampNeg) (0 : Int32)) 0 15 ((u23.1 0 15) + (1 : Int32))) 11 (w.1 0 12 + 1).toNatClampNeg (jW 0 ((4 : Int32) * ((u23.1 0 12 + 1) - (w.1 0 12 + 1))))) 14 ((u10.1 0 60).toNatClampNeg) ((u23.1 0 15) + (1 : Int32))) := ⟨_, rfl⟩
    rw [← hW] at h91 k91
    have JT := (rTake (g := g00) ht y2.1.1 (by show 2 ≤ (e.1 (u23.1 0 47)).toInt; rw [k12]; decide)).jj
    have mW : EMS (0 + 1) (wA u23 0 47 ((u23.1 0 47) + (1 : Int32))) W := by
      rw [hW]
      exact EMS.wa (EMS.wa (EMS.w0 (EMS.wa (EMS.wa (EMS.o1 (EMS.wa EMS.rf (by decide)) rfl) (by decide)) (by decide)) (by decide)) (by decide)) (by decide)
    have JW := mW.j JT
    have lt : (u23.1 0 47).toInt < 1500 := by
      obtain ⟨-, hq⟩ := ht
      rcases hq with ⟨-, f9, -⟩ | ⟨l, -⟩
      · cases f9
      · exact l
    have NW : ND W := nd_e mW (ndT y2.1.1 lt)
    have w47' : W.1 0 47 = u23.1 0 47 + 1 := mW.2.2.1 47 (by decide)
    have w32' : W.1 0 32 = u23.1 0 32 := mW.2.2.1 32 (by decide)
    have w29' : W.1 29 = u23.1 29 := mW.2.1 29 (by decide)
    have w30' : W.1 0 30 = u23.1 0 30 := mW.2.2.1 30 (by decide)
    have w52' : W.1 0 52 = u23.1 0 52 := by rw [hW]; rfl
    obtain ⟨b2, q1, q2, q30, qkn⟩ := oPartW hS hSs h91 JW NW
    have knW : knM K W = knM K v := (knM_of w29' w30').trans kn23
    rw [qkn, knW, w32', y2.2.2.1, d32, v32, w47'] at q1
    obtain ⟨Y, hY⟩ : ∃ Y, Y = wA u23 11 (w.1 0 12 + 1).toNatClampNeg (jW 0 ((4 : Int32) * ((u23.1 0 12 + 1) - (w.1 0 12 + 1)))) := ⟨_, rfl⟩
    have T1 : SAw K w Y ([fwE 16 0 (b1 ++ [fwE 19 0 b2])] ++ b1) := SAw.pj (ws := [bW 4195 10 0 8]) (z0 := -1) (jj := 1) (p := w.1 0 12 + 1) (t := u23.1 0 12 + 1) dE kwu y2.2.1 (by rw [hY]; rfl) (by rw [hY]; rfl) (by rw [hY]; exact ⟨⟨rfl, rfl, rfl, rfl, rfl, rfl⟩, rfl, rfl⟩) (by rw [hY]; exact ⟨⟨rfl, rfl, rfl, rfl, rfl⟩, rfl, rfl, rfl⟩) (fun g1 g2 => ad1 g1 g2) (fun g1 g2 => ad1 g1 g2) (by
      rw [fwD (k := 2) (by decide), lwL_app, show lwL [fwE 19 0 b2] = 1 from rfl]
      show (2 : Int) + ((lwL b1 + 1 : Nat) : Int) = ((1 : Nat) : Int) + 1 + _ + 1
      omega) (fun _ => rw16) rfl rfl
    obtain ⟨Z, hZ⟩ : ∃ Z, Z = wA (wA u91 11 ((u23.1 0 12).toNatClampNeg) (jW 0 ((4 : Int32) * (u91.1 0 12 - u23.1 0 12)))) 14 ((u23.1 0 15).toNatClampNeg) (u91.1 0 15) := ⟨_, rfl⟩
    rw [← hZ] at eu
    have y11 : Y.1 11 = upd (u23.1 11) (w.1 0 12 + 1).toNatClampNeg (jW 0 ((4 : Int32) * ((u23.1 0 12 + 1) - (w.1 0 12 + 1)))) := by rw [hY]; rfl
    have y12 : Y.1 0 12 = u23.1 0 12 := by rw [hY]; rfl
    have yS : SMw u23 Y := by rw [hY]; exact ⟨⟨rfl, rfl, rfl, rfl, rfl, rfl⟩, rfl, rfl⟩
    have wS : SMw u23 W := by rw [hW]; exact ⟨⟨rfl, rfl, rfl, rfl, rfl, rfl⟩, rfl, rfl⟩
    have w12 : W.1 0 12 = u23.1 0 12 + 1 := by rw [hW]; rfl
    have w11 : W.1 11 = upd (upd (u23.1 11) (u23.1 0 12).toNatClampNeg (-1)) (w.1 0 12 + 1).toNatClampNeg (jW 0 ((4 : Int32) * ((u23.1 0 12 + 1) - (w.1 0 12 + 1)))) := by rw [hW]; rfl
    have yW : SMw Y W := ⟨⟨wS.1.1.trans yS.1.1.symm, wS.1.2.1.trans yS.1.2.1.symm, wS.1.2.2.1.trans yS.1.2.2.1.symm, wS.1.2.2.2.1.trans yS.1.2.2.2.1.symm, wS.1.2.2.2.2.1.trans yS.1.2.2.2.2.1.symm, wS.1.2.2.2.2.2.trans yS.1.2.2.2.2.2.symm⟩, wS.2.1.trans yS.2.1.symm, wS.2.2.trans yS.2.2.symm⟩
    have kY : kpW u23 Y := by rw [hY]; exact ⟨⟨rfl, rfl, rfl, rfl, rfl⟩, rfl, rfl, rfl⟩
    have kW : kpW u23 W := by rw [hW]; exact ⟨⟨rfl, rfl, rfl, rfl, rfl⟩, rfl, rfl, rfl⟩
    have kYW : kpW Y W := ⟨⟨kW.1.1.trans kY.1.1.symm, kW.1.2.1.trans kY.1.2.1.symm, kW.1.2.2.1.trans kY.1.2.2.1.symm, kW.1.2.2.2.1.trans kY.1.2.2.2.1.symm, kW.1.2.2.2.2.trans kY.1.2.2.2.2.symm⟩, kW.2.1.trans kY.2.1.symm, kW.2.2.1.trans kY.2.2.1.symm, kW.2.2.2.trans kY.2.2.2.symm⟩
    have T2 : SAw K Y Z ([fwE 19 0 b2] ++ b2) := SAw.pj (ws := []) (z0 := -1) (jj := 0) (p := u23.1 0 12) (t := u91.1 0 12) (x := W) (w := u91) (EMi.w1 (by rw [w11, y11, y12]; exact upd_comm ne) (by rw [w12, y12]) yW) kYW q2.2.1 (by rw [hZ]; rfl) (by rw [hZ]; rfl) (by rw [hZ]; exact ⟨⟨rfl, rfl, rfl, rfl, rfl, rfl⟩, rfl, rfl⟩) (by rw [hZ]; exact ⟨⟨rfl, rfl, rfl, rfl, rfl⟩, rfl, rfl, rfl⟩) (fun _ _ => by rw [y12]; exact (Int.add_zero _).symm) (fun _ _ => (Int.add_zero _).symm) (by
      rw [fwD (k := 1) (by decide)]
      show (1 : Int) + _ = ((0 : Nat) : Int) + 1 + _ + 0
      omega) (fun _ => rw19) rfl rfl
    have TU : SAw K Z u [] := by rw [eu]; exact SAw.oa WAi.w0 rfl rfl rfl rfl rfl rfl rfl rfl
    refine ⟨_, ?_, ⟨JU.1, JU.2.2⟩, ((AC.tr T1).tr T2).nt TU, ?_, ?_, fun j hj => ?_⟩
    · rw [x1, Option.bind_some, y1, Option.bind_some, if_pos k12]
      show (gInner S e (knM K v) (v.1 0 32) (u23.1 0 47 + 1)).bind _ = _
      have knu : knM K u = knM K v := by
        rw [← knW, ← qkn]
        exact knM_of (by rw [eu, hZ]; rfl) (by rw [eu, hZ]; rfl)
      rw [q1, Option.bind_some, knu, eu, hZ]
      show some (ca ++ [fwE 16 0 (b1 ++ [fwE 19 0 b2])] ++ b1 ++ [fwE 19 0 b2] ++ b2, knM K v, u91.1 0 47) = some ((ca ++ ([fwE 16 0 (b1 ++ [fwE 19 0 b2])] ++ b1)) ++ ([fwE 19 0 b2] ++ b2), knM K v, u91.1 0 47)
      simp only [List.append_assoc]
    · rw [eu, hZ]
      show u91.1 0 32 = _
      rw [q2.2.2.1, w32', y2.2.2.1, d32, v32]
    · rw [eu, hZ]
      show (v.1 0 30).toInt ≤ (u91.1 0 30).toInt
      rw [q30, w30', t30]; exact Int.le_refl _
    · rw [eu, hZ]
      show u91.1 29 j = _
      rw [q2.2.2.2.2 j (by rw [w30', t30]; exact hj), w29']
      exact g23 j hj
end ZZD
