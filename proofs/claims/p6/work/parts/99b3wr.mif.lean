/-! the reference's orders: if -/
section WRI
variable {n : Int} {K : TK} {e : PE} {v u w x y : MS} {a b d a0 cc : List EV} {q : EV} {r pa pb pd o zv zn : Int32} {c : RM1} {E : EvE} {S : EvS} {Es : FE} {Ss : FS} {k : Nat}
set_option maxHeartbeats 800000 in
theorem oIfM (hX : XMe n K (QME k) E) (hE : HME n K (QME k) Es) (hS : XMs9 n K c S) (hSs : HMS n K c Ss) (h : Q_m_choices k c v false u) (J : JM n K e v) (hk : 2 ≤ (e.1 (v.1 0 47)).toInt) : ∃ a, gIf E S e (knM K v) (v.1 0 32) (v.1 0 47) = some (a, knM K u, u.1 0 47) ∧ SOq n K e v u a := by
  have JU := (rIf (g := gLq v) hE hSs h J rfl (gLq_lo v) hk).jj
  obtain ⟨z1, z2, z3, z4, z5, z6, z15, z8, z9, z10, z11, z12, z13, z14, h⟩ := h
  have p0 := z15.1
  rcases h with ⟨u9, -, f9, -⟩ | ⟨h1, k1, ⟨u9, -, f9, -⟩ | ⟨r11, u10, h10, k10, ⟨u9, -, f9, -⟩ | ⟨u23, h23, k23, r33, h33, -, h⟩⟩⟩
  · cases f9
  · cases f9
  · cases f9
  have JO := (rOpens (g := g00) h1 J hk).jj
  obtain ⟨V, hV⟩ : ∃ V, V = (wA (wA v 0 47 ((v.1 0 47) + (1 : Int32))) 0 48 ((v.1 0 48) + (1 : Int32))) := ⟨_, rfl⟩
  rw [← hV] at h10 k10 JO
  have v47 : V.1 0 47 = v.1 0 47 + 1 := by rw [hV]; rfl
  have v15 : V.1 0 15 = v.1 0 15 := by rw [hV]; rfl
  have v29 : V.1 29 = v.1 29 := by rw [hV]; rfl
  have v30 : V.1 0 30 = v.1 0 30 := by rw [hV]; rfl
  have v32 : V.1 0 32 = v.1 0 32 := by rw [hV]; rfl
  have v52 : V.1 0 52 = v.1 0 52 := by rw [hV]; rfl
  have AV : SAq K v V [] := by rw [hV]; exact SAq.oa (OA.sm rfl rfl rfl rfl rfl rfl rfl rfl) rfl rfl rfl rfl rfl rfl rfl rfl rfl
  obtain ⟨w, ca, x1, x2, ⟨JD, ND1⟩, ⟨d13, d14, d15, d60⟩, ⟨d39, d27, d35, d38, d25⟩, ⟨d29, d30, d32⟩, kVw, kwu, l15, l47, l47b⟩ := oCondM hX hE h10 k10 JO
  rw [knM_of v29 v30, v32, v47] at x1
  have w15 := x2.1
  rw [v15] at w15
  have hb : 0 ≤ (w.1 0 15).toInt ∧ (w.1 0 15).toInt ≤ 100000 := ⟨by omega, by omega⟩
  have AC : SAq K v w ca := AV.tn (SAq.kp x2 kVw) p0
  have i15 : (u10.1 0 15).toInt = (w.1 0 15).toInt + 1 := by rw [d15]; exact add_z rfl (by decide) (by omega) (by omega)
  obtain ⟨b1, y1, y2, y30, ykn⟩ := oPart hS hSs h23 JD ND1
  have kn10 : knM K u10 = knM K v := (knM_of d29 d30).trans (knM_of v29 v30)
  rw [ykn, kn10, d32, v32] at y1
  have c15 := y2.2.1.1.1
  rw [i15] at c15
  have i33 : r33.toInt ≠ 0 ↔ e.1 (u23.1 0 47) = 12 := rIsKey (g := g00) h33 y2.1.1 (by decide)
  have e12 : e.1 (u23.1 0 47) = 12 ↔ (e.1 (u23.1 0 47)).toInt = 12 := ⟨fun q => by rw [q]; decide, fun q => Int32.toInt_inj.mp (q.trans (by decide))⟩
  have kn23 : knM K u23 = knM K v := ykn.trans kn10
  have g23 : ∀ j : Nat, (j : Int) < (v.1 0 30).toInt → u23.1 29 j = v.1 29 j := fun j hj => by
    rw [y2.2.2.2.2 j (by rw [d30, v30]; exact hj), d29, v29]
  have t30 : u23.1 0 30 = v.1 0 30 := by rw [y30, d30, v30]
  have l23 := k23.2.1
  have m15 := k23.2.2.2.1
  unfold gIf
  rcases h with ⟨c33, x39, -, -, eu⟩ | ⟨c33, ⟨u9, -, f9, -⟩ | ⟨ht, -, x76, -, ⟨u9, -, f9, -⟩ | ⟨u91, h91, k91, x105, -, -, eu⟩⟩⟩
  · obtain ⟨Z, hZ⟩ : ∃ Z, Z = wA (wA u23 11 r11.toNatClampNeg x39) 14 ((u10.1 0 60).toNatClampNeg) (u23.1 0 15) := ⟨_, rfl⟩
    rw [← hZ] at eu
    have T1 : SAq K w Z ([fwE 16 0 b1] ++ b1) := SAq.pj (x := u10) (w := u23) (o := 10) (zv := 0) (zn := u23.1 0 15) d13 d14 d15 hb d39 d27 ⟨d35, d38, d25⟩ kwu y2.2.1 (by rw [hZ]; rfl) (by rw [hZ, d60]; rfl) (by rw [hZ]; rfl) (by rw [hZ]; rfl) (by rw [hZ]; rfl) (by rw [hZ]; exact ⟨rfl, rfl, rfl⟩) (by rw [hZ]; exact ⟨⟨rfl, rfl, rfl, rfl, rfl⟩, rfl, rfl, rfl, rfl⟩) (Or.inl rfl) rfl (by
      show _ = _ + ((1 : Int) + (loL b1 : Int))
      omega)
    have TU : SAq K Z u [] := by rw [eu]; exact SAq.oa OA.w0 rfl rfl rfl rfl rfl rfl rfl rfl rfl
    refine ⟨_, ?_, ⟨JU.1, JU.2.2⟩, (AC.tr T1 p0).nt TU p0, ?_, ?_, fun j hj => ?_⟩
    · rw [x1, Option.bind_some, y1, Option.bind_some, if_neg (fun q => i33.mpr (e12.mpr q) c33)]
      have knu : knM K u = knM K v := by
        rw [← kn23]
        exact knM_of (by rw [eu, hZ]; rfl) (by rw [eu, hZ]; rfl)
      rw [knu, eu, hZ]
      show some (ca ++ [fwE 16 0 b1] ++ b1, knM K v, u23.1 0 47) = some (ca ++ ([fwE 16 0 b1] ++ b1), knM K v, u23.1 0 47)
      rw [List.append_assoc]
    · rw [eu, hZ]
      show u23.1 0 32 = _
      rw [y2.2.2.1, d32, v32]
    · rw [eu, hZ]
      show (v.1 0 30).toInt ≤ (u23.1 0 30).toInt
      rw [t30]; exact Int.le_refl _
    · rw [eu, hZ]
      exact g23 j hj
  · cases f9
  · cases f9
  · have k12 := e12.mp (i33.mp c33)
    have p15 : ((u23.1 0 15) + (1 : Int32)).toInt = (u23.1 0 15).toInt + 1 := add_z rfl (by decide) (by omega) (by omega)
    have nw := natI hb.1
    have n23 := natI (a := u23.1 0 15) (by omega)
    obtain ⟨W, hW⟩ : ∃ W, W = (wA (wA (wA (wA (wA (wA (wA (wA u23 0 47 ((u23.1 0 47) + (1 : Int32))) 11 ((u23.1 0 12).toNatClampNeg) (-1 : Int32)) 0 12 ((u23.1 0 12) + (1 : Int32))) 13 ((u23.1 0 15).toNatClampNeg) (12 : Int32)) 14 ((u23.1 0 15).toNatClampNeg) (0 : Int32)) 0 15 ((u23.1 0 15) + (1 : Int32))) 11 r11.toNatClampNeg x76) 14 ((u10.1 0 60).toNatClampNeg) ((u23.1 0 15) + (1 : Int32))) := ⟨_, rfl⟩
    rw [← hW] at h91 k91
    have JT := (rTake (g := g00) ht y2.1.1 (by show 2 ≤ (e.1 (u23.1 0 47)).toInt; rw [k12]; decide)).jj
    have mW : EMS (0 + 1) (wA u23 0 47 ((u23.1 0 47) + (1 : Int32))) W := by
      rw [hW]
      exact EMS.wa (EMS.wa (EMS.w0 (EMS.wa (EMS.wa (EMS.o1 (EMS.wa EMS.rf (by decide)) rfl) (by decide)) (by decide)) (by decide)) (by decide)) (by decide)
    have JW := mW.j JT
    have lt : (u23.1 0 47).toInt < 1500 := by
      obtain ⟨-, hq⟩ := ht
      rcases hq with ⟨-, f9, -⟩ | ⟨l, -⟩
      · cases f9
      · exact l
    have NW : ND W := nd_e mW (ndT y2.1.1 lt)
    have w15' : W.1 0 15 = u23.1 0 15 + 1 := by rw [hW]; rfl
    have w47' : W.1 0 47 = u23.1 0 47 + 1 := mW.2.2.1 47 (by decide)
    have w32' : W.1 0 32 = u23.1 0 32 := mW.2.2.1 32 (by decide)
    have w29' : W.1 29 = u23.1 29 := mW.2.1 29 (by decide)
    have w30' : W.1 0 30 = u23.1 0 30 := mW.2.2.1 30 (by decide)
    have w52' : W.1 0 52 = u23.1 0 52 := by rw [hW]; rfl
    obtain ⟨b2, q1, q2, q30, qkn⟩ := oPart hS hSs h91 JW NW
    have knW : knM K W = knM K v := (knM_of w29' w30').trans kn23
    rw [qkn, knW, w32', y2.2.2.1, d32, v32, w47'] at q1
    obtain ⟨Y, hY⟩ : ∃ Y, Y = wA u23 14 ((u10.1 0 60).toNatClampNeg) ((u23.1 0 15) + (1 : Int32)) := ⟨_, rfl⟩
    have y15' : Y.1 0 15 = u23.1 0 15 := by rw [hY]; rfl
    have T1 : SAq K w Y ([fwE 16 0 (b1 ++ [fwE 19 0 b2])] ++ b1) := SAq.pj (x := u10) (w := u23) (o := 10) (zv := 0) (zn := (u23.1 0 15) + (1 : Int32)) d13 d14 d15 hb d39 d27 ⟨d35, d38, d25⟩ kwu y2.2.1 (by rw [hY]; rfl) (by rw [hY, d60]; rfl) (by rw [hY]; rfl) (by rw [hY]; rfl) (by rw [hY]; rfl) (by rw [hY]; exact ⟨rfl, rfl, rfl⟩) (by rw [hY]; exact ⟨⟨rfl, rfl, rfl, rfl, rfl⟩, rfl, rfl, rfl, rfl⟩) (Or.inl rfl) rfl (by
      rw [p15]
      show _ = _ + ((1 : Int) + (loL (b1 ++ [fwE 19 0 b2]) : Int))
      rw [loL_app, show loL [fwE 19 0 b2] = 1 from rfl]
      omega)
    have f15 := q2.2.1.1.1
    rw [w15', p15] at f15
    obtain ⟨Z, hZ⟩ : ∃ Z, Z = wA (wA u91 11 ((u23.1 0 12).toNatClampNeg) x105) 14 ((u23.1 0 15).toNatClampNeg) (u91.1 0 15) := ⟨_, rfl⟩
    rw [← hZ] at eu
    have T2 : SAq K Y Z ([fwE 19 0 b2] ++ b2) := SAq.pj (x := W) (w := u91) (o := 12) (zv := 0) (zn := u91.1 0 15) (by rw [hW, hY]; rfl) (by
      rw [hW, hY, d60]
      show upd (upd (u23.1 14) _ _) _ _ = upd (upd (u23.1 14) _ _) (u23.1 0 15).toNatClampNeg 0
      exact upd_comm (by omega)) (by rw [w15', y15']) ⟨by rw [y15']; omega, by rw [y15']; omega⟩ (by rw [hW, hY]; rfl) (by rw [hW, hY]; rfl) (by rw [hW, hY]; exact ⟨rfl, rfl, rfl⟩) (by rw [hW, hY]; exact ⟨⟨rfl, rfl, rfl, rfl, rfl⟩, rfl, rfl, rfl, rfl⟩) q2.2.1 (by rw [hZ]; rfl) (by rw [hZ, y15']; rfl) (by rw [hZ]; rfl) (by rw [hZ]; rfl) (by rw [hZ]; rfl) (by rw [hZ]; exact ⟨rfl, rfl, rfl⟩) (by rw [hZ]; exact ⟨⟨rfl, rfl, rfl, rfl, rfl⟩, rfl, rfl, rfl, rfl⟩) (Or.inr (Or.inr (Or.inr rfl))) rfl (by
      rw [y15']
      show _ = _ + ((1 : Int) + (loL b2 : Int))
      omega)
    have TU : SAq K Z u [] := by rw [eu]; exact SAq.oa OA.w0 rfl rfl rfl rfl rfl rfl rfl rfl rfl
    refine ⟨_, ?_, ⟨JU.1, JU.2.2⟩, ((AC.tr T1 p0).tr T2 p0).nt TU p0, ?_, ?_, fun j hj => ?_⟩
    · rw [x1, Option.bind_some, y1, Option.bind_some, if_pos k12]
      show (gInner S e (knM K v) (v.1 0 32) (u23.1 0 47 + 1)).bind _ = _
      have knu : knM K u = knM K v := by
        rw [← knW, ← qkn]
        exact knM_of (by rw [eu, hZ]; rfl) (by rw [eu, hZ]; rfl)
      rw [q1, Option.bind_some, knu, eu, hZ]
      show some (ca ++ [fwE 16 0 (b1 ++ [fwE 19 0 b2])] ++ b1 ++ [fwE 19 0 b2] ++ b2, knM K v, u91.1 0 47) = some ((ca ++ ([fwE 16 0 (b1 ++ [fwE 19 0 b2])] ++ b1)) ++ ([fwE 19 0 b2] ++ b2), knM K v, u91.1 0 47)
      simp only [List.append_assoc]
    · rw [eu, hZ]
      show u91.1 0 32 = _
      rw [q2.2.2.1, w32', y2.2.2.1, d32, v32]
    · rw [eu, hZ]
      show (v.1 0 30).toInt ≤ (u91.1 0 30).toInt
      rw [q30, w30', t30]; exact Int.le_refl _
    · rw [eu, hZ]
      show u91.1 29 j = _
      rw [q2.2.2.2.2 j (by rw [w30', t30]; exact hj), w29']
      exact g23 j hj
end WRI
