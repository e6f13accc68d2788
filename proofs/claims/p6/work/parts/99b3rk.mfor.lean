/-! the reference: for -/
section MFO
variable {g : GM} {n : Int} {K : TK} {e : PE} {v u w x y w0 : MS} {t : Bool} {r pa pb : Int32} {c : RM1} {E : FE} {S : FS} {f : PS → PX PS} {k k' N cc : Nat} {m : Int}
theorem rOptJ {q : Int32 × Int32} {i i' : Nat} {z1 z2 z3 : Int32} (hE : HME n K (QME k) E) (hq : q ∈ SC) (hp : q.1 = pa) (hm : q.2.toInt = m) (J : JM n K e w0) (g2 : g.2 = []) (h8 : Q_m_is w0 pa r) (h : (r.toInt ≠ 0 ∧ y = w0) ∨ (r.toInt = 0 ∧ ∃ u', QME k w0 false u' ∧ K_m_expression w0 u' ∧ EMS 0 u' y ∧ y.1 0 52 = u'.1 0 52)) : tOpt E m e (aR g K w0) = .ok (decide (r.toInt = 0), aR g K y) ∧ JM n K e y ∧ ZS w0 y := by
  have i8 := (rIs (g := g) h8 J hq hp).trans (kd_m hm)
  unfold tOpt
  rcases h with ⟨c8, rfl⟩ | ⟨c8, u', h1, k1, e1, q52⟩
  · rw [if_pos (i8.mp c8), decide_eq_false c8]
    exact ⟨rfl, J, ZS.rf⟩
  · have a := hE g e _ _ _ h1 (fun _ => k1) J (og0 g2)
    have q0 : aR g K y = aR g K u' := by
      rw [e1.a]
      exact em_0
    rw [if_neg (fun w => i8.mpr w c8), a.eo, bd_ok, decide_eq_true c8, q0]
    exact ⟨rfl, e1.j a.jj, (ZS.fg k1.1 (by decide) k1.2.2.2.2.2.2.1.1).tr (zs_e e1 q52)⟩
theorem rOptX {q : Int32 × Int32} (hE : HME n K (QME k) E) (hq : q ∈ SC) (hp : q.1 = pa) (hm : q.2.toInt = m) (J : JM n K e w0) (g2 : g.2 = []) (h8 : Q_m_is w0 pa r) (c8 : r.toInt = 0) (h : QME k w0 true u) : tOpt E m e (aR g K w0) = .error (u.1 0 50, u.1 0 51) := by
  have i8 := (rIs (g := g) h8 J hq hp).trans (kd_m hm)
  unfold tOpt
  rw [if_neg (fun w => i8.mpr w c8), (hE g e _ _ _ h nom J (og0 g2)).er, bd_er]
set_option maxHeartbeats 800000 in
theorem forTail {w134 : MS} (hS : HMS n K c S) (J : JM n K e w134) (g2 : g.2 = []) (h : (∃ u9, Q_m_close w134 41 true u9 ∧ t = true ∧ u = u9) ∨ (Q_m_close w134 41 false (wA (wA w134 0 47 ((w134.1 0 47) + (1 : Int32))) 0 48 ((w134.1 0 48) - (1 : Int32))) ∧ K_m_close w134 41 (wA (wA w134 0 47 ((w134.1 0 47) + (1 : Int32))) 0 48 ((w134.1 0 48) - (1 : Int32))) ∧ ∃ w2, EMS 1 (wA (wA w134 0 47 ((w134.1 0 47) + (1 : Int32))) 0 48 ((w134.1 0 48) - (1 : Int32))) w2 ∧ w2.1 0 52 = w134.1 0 52 ∧ ∃ pa pb, ((∃ u9, Q_m_body k' c w2 pa pb true u9 ∧ t = true ∧ u = u9) ∨ (∃ u129, Q_m_body k' c w2 pa pb false u129 ∧ K_m_body w2 pa pb u129 ∧ ∃ w3, EMS 1 u129 w3 ∧ w3.1 0 52 = u129.1 0 52 ∧ ∃ u178, K_m_ends w3 u178 ∧ t = false ∧ u = wA u178 0 48 ((u178.1 0 48) - (1 : Int32)))))) : (t = false ∧ bd (bd (tExp 31 e (aR g K w134)) fun s => bd (tLp S e (em 1 (tClose s))) fun s => .ok (em 1 s)) (fun s => (.ok (tClose s) : PX PS)) = .ok (aR g K u) ∧ JM n K e u ∧ ZS w134 u ∧ ND u) ∨ (t = true ∧ bd (bd (tExp 31 e (aR g K w134)) fun s => bd (tLp S e (em 1 (tClose s))) fun s => .ok (em 1 s)) (fun s => (.ok (tClose s) : PX PS)) = .error (u.1 0 50, u.1 0 51)) := by
  have two : ∀ s : PS, (bd (tExp 31 e s) fun s => bd (tLp S e (em 1 (tClose s))) fun s => (.ok (em 1 s) : PX PS)) = bd (bd (tExp 31 e s) fun s => .ok (tClose s)) fun s => bd (tLp S e (em 1 s)) fun s => .ok (em 1 s) := fun s => by rw [bd_as]; rfl
  rw [two]
  rcases h with ⟨u9, h1, rfl, rfl⟩ | ⟨h1, k1, w2, e1, q52, pa, pb, h⟩
  · exact Or.inr ⟨rfl, by rw [(rClose (g := g) (q := (41, 31)) (m := 31) h1 J (by decide) rfl (by decide)).er, bd_er, bd_er]⟩
  have a1 := rClose (g := g) (q := (41, 31)) (m := 31) h1 J (by decide) rfl (by decide)
  rw [a1.eo, bd_ok, show em 1 (aR g K (wA (wA w134 0 47 ((w134.1 0 47) + (1 : Int32))) 0 48 ((w134.1 0 48) - (1 : Int32)))) = aR g K w2 from e1.a.symm]
  have N2 : ND w2 := nd_e e1 (ndO J k1.1)
  have Z2 : ZS w134 w2 := (ZS.of rfl rfl rfl : ZS w134 (wA (wA w134 0 47 ((w134.1 0 47) + (1 : Int32))) 0 48 ((w134.1 0 48) - (1 : Int32)))).tr (zs_e e1 q52)
  rcases h with ⟨u9, h3, rfl, rfl⟩ | ⟨u129, h3, k3, w3, e2, q53, u178, k4, rfl, rfl⟩
  · exact Or.inr ⟨rfl, by rw [(rBody (g := g) hS h3 nom (z52_b h3) (e1.j a1.jj) g2 N2).er, bd_er, bd_er]⟩
  have B := rBody (g := g) hS h3 (fun _ => k3) (z52_b h3) (e1.j a1.jj) g2 N2
  rw [B.eo, bd_ok, bd_ok]
  obtain ⟨q3, J3, Z3, N3⟩ := lpEnd B e2 q53 k4
  refine Or.inl ⟨rfl, ?_, J3.w (by decide), (Z2.tr Z3).tr (ZS.of rfl rfl rfl), ndw N3⟩
  rw [aR_cl, q3]
  rfl
set_option maxHeartbeats 1600000 in
theorem rFor (hE : HME n K (QME k) E) (hS : HMS n K c S) (h : Q_m_counting k c v t u) (J : JM n K e v) (g2 : g.2 = []) (hk : 2 ≤ (kd e (aR g K v)).toInt) : OKZ g n K e (tLoop 15 E S e) v t u := by
  obtain ⟨-, -, -, -, -, -, -, -, -, -, -, -, -, -, h⟩ := h
  unfold OKZ tLoop
  rcases h with ⟨u9, h1, rfl, rfl⟩ | ⟨h1, k1, h⟩
  · exact Or.inr ⟨rfl, by rw [(rOpens (g := g) h1 J hk).er, bd_er]⟩
  have a1 := rOpens (g := g) h1 J hk
  rw [a1.eo, bd_ok, if_neg (by decide), if_neg (by decide)]
  unfold tFor
  have two : ∀ (s : PS) (F : PS → PX PS), (bd (tNeed 30 e s) fun s => bd (tOpen e s) F) = bd (bd (tNeed 30 e s) (tOpen e)) F := fun s F => (bd_as _ _ _).symm
  rw [two]
  rcases h with ⟨u9, h2, rfl, rfl⟩ | ⟨h2, k2, h⟩
  · exact Or.inr ⟨rfl, by rw [(rOpen (g := g) (q := (40, 30)) (m := 30) h2 a1.jj (by decide) rfl (by decide)).er, bd_er, bd_er]⟩
  have a2 := rOpen (g := g) (q := (40, 30)) (m := 30) h2 a1.jj (by decide) rfl (by decide)
  rw [a2.eo, bd_ok]
  have Z2 : ZS v (wA (wA (wA (wA v 0 47 ((v.1 0 47) + (1 : Int32))) 0 48 ((v.1 0 48) + (1 : Int32))) 0 47 (((v.1 0 47) + (1 : Int32)) + (1 : Int32))) 0 48 (((v.1 0 48) + (1 : Int32)) + (1 : Int32))) := ZS.of rfl rfl rfl
  rcases h with ⟨w31, hj, -, -, -, -, -, -, -, -, h⟩ | ⟨r522, h3, -, c3, u9, h4, rfl, rfl⟩
  · obtain ⟨r522, h3, -, hj⟩ := hj
    have O1 := rOptJ (g := g) (y := w31) (i := 0) (i' := 0) (z1 := 0) (z2 := 0) (z3 := 0) hE (q := (59, 36)) (m := 36) (by decide) rfl (by decide) a2.jj g2 h3 (by
      rcases hj with hj | ⟨c3, u527, h4, k4, rfl⟩
      · exact Or.inl hj
      · exact Or.inr ⟨c3, u527, h4, k4, EMS.w0 (EMS.wa (EMS.wa EMS.rf (by decide)) (by decide)) (by decide), rfl⟩)
    rw [O1.1, bd_ok]
    have Z3 := Z2.tr O1.2.2
    rcases h with ⟨u9, h5, rfl, rfl⟩ | ⟨h5, k5, r30, h30, -, h⟩
    · exact Or.inr ⟨rfl, by rw [(rNeed (g := g) (q := (59, 36)) (m := 36) h5 O1.2.1 (by decide) rfl (by decide)).er, bd_er, bd_er]⟩
    have a5 := rNeed (g := g) (q := (59, 36)) (m := 36) h5 O1.2.1 (by decide) rfl (by decide)
    have e5 : EMS 0 (wA w31 0 47 ((w31.1 0 47) + (1 : Int32))) (wA (wA (wA (wA w31 0 47 ((w31.1 0 47) + (1 : Int32))) 13 ((w31.1 0 15).toNatClampNeg) (13 : Int32)) 14 ((w31.1 0 15).toNatClampNeg) (0 : Int32)) 0 15 ((w31.1 0 15) + (1 : Int32))) := EMS.w0 (EMS.wa (EMS.wa EMS.rf (by decide)) (by decide)) (by decide)
    have q5 : aR g K (wA w31 0 47 ((w31.1 0 47) + (1 : Int32))) = aR g K (wA (wA (wA (wA w31 0 47 ((w31.1 0 47) + (1 : Int32))) 13 ((w31.1 0 15).toNatClampNeg) (13 : Int32)) 14 ((w31.1 0 15).toNatClampNeg) (0 : Int32)) 0 15 ((w31.1 0 15) + (1 : Int32))) := by
      rw [e5.a]
      exact em_0.symm
    have a5' : tExp 36 e ((decide (r522.toInt = 0), aR g K w31) : Bool × PS).2 = .ok (aR g K (wA (wA (wA (wA w31 0 47 ((w31.1 0 47) + (1 : Int32))) 13 ((w31.1 0 15).toNatClampNeg) (13 : Int32)) 14 ((w31.1 0 15).toNatClampNeg) (0 : Int32)) 0 15 ((w31.1 0 15) + (1 : Int32)))) := by
      rw [← q5]
      exact a5.eo
    rw [a5', bd_ok]
    have J5 := e5.j a5.jj
    have i30 := (rIs (g := g) h30 J5 (q := (59, 36)) (by decide) rfl).trans (kd_m (m := 36) (by decide))
    have Z5 : ZS w31 (wA (wA (wA (wA w31 0 47 ((w31.1 0 47) + (1 : Int32))) 13 ((w31.1 0 15).toNatClampNeg) (13 : Int32)) 14 ((w31.1 0 15).toNatClampNeg) (0 : Int32)) 0 15 ((w31.1 0 15) + (1 : Int32))) := ZS.of rfl rfl rfl
    rcases h with ⟨c30, h⟩ | ⟨c30, h⟩
    · have t1 : tOpt E 36 e (aR g K (wA (wA (wA (wA w31 0 47 ((w31.1 0 47) + (1 : Int32))) 13 ((w31.1 0 15).toNatClampNeg) (13 : Int32)) 14 ((w31.1 0 15).toNatClampNeg) (0 : Int32)) 0 15 ((w31.1 0 15) + (1 : Int32)))) = .ok (false, aR g K (wA (wA (wA (wA w31 0 47 ((w31.1 0 47) + (1 : Int32))) 13 ((w31.1 0 15).toNatClampNeg) (13 : Int32)) 14 ((w31.1 0 15).toNatClampNeg) (0 : Int32)) 0 15 ((w31.1 0 15) + (1 : Int32)))) := by
        unfold tOpt
        rw [if_pos (i30.mp c30)]
      rw [t1, bd_ok, if_neg (show ¬ (false : Bool) = true by decide)]
      rcases h with ⟨u9, h6, rfl, rfl⟩ | ⟨h6, k6, h⟩
      · exact Or.inr ⟨rfl, by rw [(rNeed (g := g) (q := (59, 36)) (m := 36) h6 J5 (by decide) rfl (by decide)).er, bd_er, bd_er]⟩
      have a6 := rNeed (g := g) (q := (59, 36)) (m := 36) h6 J5 (by decide) rfl (by decide)
      have a6' : tExp 36 e ((false, aR g K (wA (wA (wA (wA w31 0 47 ((w31.1 0 47) + (1 : Int32))) 13 ((w31.1 0 15).toNatClampNeg) (13 : Int32)) 14 ((w31.1 0 15).toNatClampNeg) (0 : Int32)) 0 15 ((w31.1 0 15) + (1 : Int32)))) : Bool × PS).2 = .ok _ := a6.eo
      rw [a6', bd_ok]
      have e6 : EMS 1 (wA (wA (wA (wA (wA w31 0 47 ((w31.1 0 47) + (1 : Int32))) 13 ((w31.1 0 15).toNatClampNeg) (13 : Int32)) 14 ((w31.1 0 15).toNatClampNeg) (0 : Int32)) 0 15 ((w31.1 0 15) + (1 : Int32))) 0 47 (((w31.1 0 47) + (1 : Int32)) + (1 : Int32))) (wA (wA (wA (wA (wA (wA (wA (wA (wA (wA w31 0 47 ((w31.1 0 47) + (1 : Int32))) 13 ((w31.1 0 15).toNatClampNeg) (13 : Int32)) 14 ((w31.1 0 15).toNatClampNeg) (0 : Int32)) 0 15 ((w31.1 0 15) + (1 : Int32))) 0 47 (((w31.1 0 47) + (1 : Int32)) + (1 : Int32))) 11 ((w31.1 0 12).toNatClampNeg) (0 : Int32)) 0 12 ((w31.1 0 12) + (1 : Int32))) 13 (((w31.1 0 15) + (1 : Int32)).toNatClampNeg) (12 : Int32)) 14 (((w31.1 0 15) + (1 : Int32)).toNatClampNeg) (0 : Int32)) 0 15 (((w31.1 0 15) + (1 : Int32)) + (1 : Int32))) := EMS.w0 (EMS.wa (EMS.wa (EMS.o1 (EMS.wa EMS.rf (by decide)) rfl) (by decide)) (by decide)) (by decide)
      rw [show em 1 (aR g K (wA (wA (wA (wA (wA w31 0 47 ((w31.1 0 47) + (1 : Int32))) 13 ((w31.1 0 15).toNatClampNeg) (13 : Int32)) 14 ((w31.1 0 15).toNatClampNeg) (0 : Int32)) 0 15 ((w31.1 0 15) + (1 : Int32))) 0 47 (((w31.1 0 47) + (1 : Int32)) + (1 : Int32)))) = _ from e6.a.symm]
      have J6 := e6.j a6.jj
      have Z6 : ZS w31 (wA (wA (wA (wA (wA (wA (wA (wA (wA (wA w31 0 47 ((w31.1 0 47) + (1 : Int32))) 13 ((w31.1 0 15).toNatClampNeg) (13 : Int32)) 14 ((w31.1 0 15).toNatClampNeg) (0 : Int32)) 0 15 ((w31.1 0 15) + (1 : Int32))) 0 47 (((w31.1 0 47) + (1 : Int32)) + (1 : Int32))) 11 ((w31.1 0 12).toNatClampNeg) (0 : Int32)) 0 12 ((w31.1 0 12) + (1 : Int32))) 13 (((w31.1 0 15) + (1 : Int32)).toNatClampNeg) (12 : Int32)) 14 (((w31.1 0 15) + (1 : Int32)).toNatClampNeg) (0 : Int32)) 0 15 (((w31.1 0 15) + (1 : Int32)) + (1 : Int32))) := ZS.of rfl rfl rfl
      rcases h with ⟨w134, hj2, -, -, -, -, -, -, -, -, h⟩ | ⟨r199, h7, -, c7, u9, h8, rfl, rfl⟩
      · obtain ⟨r199, h7, -, hj2⟩ := hj2
        have O2 := rOptJ (g := g) (y := w134) (i := 0) (i' := 0) (z1 := 0) (z2 := 0) (z3 := 0) hE (q := (41, 31)) (m := 31) (by decide) rfl (by decide) J6 g2 h7 (by
          rcases hj2 with hj2 | ⟨c7, u206, h8, k8, rfl⟩
          · exact Or.inl hj2
          · exact Or.inr ⟨c7, u206, h8, k8, EMS.w0 (EMS.wa (EMS.wa EMS.rf (by decide)) (by decide)) (by decide), rfl⟩)
        rw [O2.1, bd_ok]
        have R := forTail (g := g) (t := t) (u := u) (k' := k - 1) hS O2.2.1 g2 (by
          rcases h with h | ⟨h9, k9, x75, -, x97, -, h⟩
          · exact Or.inl h
          refine Or.inr ⟨h9, k9, _, EMS.wa (EMS.wa (EMS.w0 (EMS.wa (EMS.wa (EMS.wa (EMS.o1 (EMS.wa EMS.rf (a := 11) (i := (w134.1 0 12).toNatClampNeg) (y := 0) (by decide)) (y := (w134.1 0 12) + 1) rfl) (a := 11) (i := (w134.1 0 12).toNatClampNeg) (y := x75) (by decide)) (a := 13) (i := (w134.1 0 15).toNatClampNeg) (y := 12) (by decide)) (a := 14) (i := (w134.1 0 15).toNatClampNeg) (y := w31.1 0 15) (by decide)) (i := 15) (y := (w134.1 0 15) + 1) (by decide)) (a := 11) (i := (w31.1 0 12).toNatClampNeg) (y := x97) (by decide)) (a := 14) (i := ((w31.1 0 15) + 1).toNatClampNeg) (y := (w134.1 0 15) + 1) (by decide), rfl, (w31.1 0 12) + 1, ((w31.1 0 15) + 1) + 1, ?_⟩
          rcases h with h | ⟨u129, h10, k10, x153, -, u178, h11, k11, rfl, rfl⟩
          · exact Or.inl h
          · exact Or.inr ⟨u129, h10, k10, _, EMS.w0 (EMS.wa (EMS.wa (EMS.wa (EMS.o1 (EMS.wa EMS.rf (by decide)) rfl) (by decide)) (by decide)) (by decide)) (by decide), rfl, u178, k11, rfl, rfl⟩)
        rcases R with ⟨q0, q1, q2, q3, q4⟩ | R
        · exact Or.inl ⟨q0, q1, q2, (Z3.tr Z6).tr (O2.2.2.tr q3), q4⟩
        · exact Or.inr R
      · exact Or.inr ⟨rfl, by rw [rOptX (g := g) hE (q := (41, 31)) (m := 31) (by decide) rfl (by decide) J6 g2 h7 c7 h8, bd_er, bd_er]⟩
    · rcases h with ⟨u9, h6, rfl, rfl⟩ | ⟨u241, h6, k6, x254, r253, -, -, h⟩
      · exact Or.inr ⟨rfl, by rw [rOptX (g := g) hE (q := (59, 36)) (m := 36) (by decide) rfl (by decide) J5 g2 h30 c30 h6, bd_er, bd_er]⟩
      have aE := hE g e _ _ _ h6 (fun _ => k6) J5 (og0 g2)
      have t1 : tOpt E 36 e (aR g K (wA (wA (wA (wA w31 0 47 ((w31.1 0 47) + (1 : Int32))) 13 ((w31.1 0 15).toNatClampNeg) (13 : Int32)) 14 ((w31.1 0 15).toNatClampNeg) (0 : Int32)) 0 15 ((w31.1 0 15) + (1 : Int32)))) = .ok (true, aR g K u241) := by
        unfold tOpt
        rw [if_neg (fun q => i30.mpr q c30), aE.eo, bd_ok]
      have ZE : ZS (wA (wA (wA (wA w31 0 47 ((w31.1 0 47) + (1 : Int32))) 13 ((w31.1 0 15).toNatClampNeg) (13 : Int32)) 14 ((w31.1 0 15).toNatClampNeg) (0 : Int32)) 0 15 ((w31.1 0 15) + (1 : Int32))) u241 := ZS.fg k6.1 (by decide) k6.2.2.2.2.2.2.1.1
      have e7 : EMS 2 u241 (wA (wA (wA (wA (wA (wA (wA (wA u241 11 ((u241.1 0 12).toNatClampNeg) x254) 0 12 ((u241.1 0 12) + (1 : Int32))) 11 (((u241.1 0 12) + (1 : Int32)).toNatClampNeg) (-1 : Int32)) 0 12 (((u241.1 0 12) + (1 : Int32)) + (1 : Int32))) 13 ((u241.1 0 15).toNatClampNeg) 10) 14 ((u241.1 0 15).toNatClampNeg) 0) 0 15 ((u241.1 0 15) + (1 : Int32))) 0 60 (u241.1 0 15)) := EMS.w0 (EMS.w0 (EMS.wa (EMS.wa (EMS.o1 (EMS.wa (EMS.o1 (EMS.wa EMS.rf (by decide)) rfl) (by decide)) rfl) (by decide)) (by decide)) (by decide)) (by decide)
      have q7 : (if ((true, aR g K u241) : Bool × PS).1 = true then em 2 ((true, aR g K u241) : Bool × PS).2 else ((true, aR g K u241) : Bool × PS).2) = aR g K (wA (wA (wA (wA (wA (wA (wA (wA u241 11 ((u241.1 0 12).toNatClampNeg) x254) 0 12 ((u241.1 0 12) + (1 : Int32))) 11 (((u241.1 0 12) + (1 : Int32)).toNatClampNeg) (-1 : Int32)) 0 12 (((u241.1 0 12) + (1 : Int32)) + (1 : Int32))) 13 ((u241.1 0 15).toNatClampNeg) 10) 14 ((u241.1 0 15).toNatClampNeg) 0) 0 15 ((u241.1 0 15) + (1 : Int32))) 0 60 (u241.1 0 15)) := by
        rw [e7.a]
        exact if_pos rfl
      rw [t1, bd_ok, q7]
      have J7 := e7.j aE.jj
      rcases h with ⟨u9, h7, rfl, rfl⟩ | ⟨h7, k7, h⟩
      · exact Or.inr ⟨rfl, by rw [(rNeed (g := g) (q := (59, 36)) (m := 36) h7 J7 (by decide) rfl (by decide)).er, bd_er, bd_er]⟩
      have a7 := rNeed (g := g) (q := (59, 36)) (m := 36) h7 J7 (by decide) rfl (by decide)
      rw [a7.eo, bd_ok]
      have e8 : EMS 1 (wA (wA (wA (wA (wA (wA (wA (wA (wA u241 11 ((u241.1 0 12).toNatClampNeg) x254) 0 12 ((u241.1 0 12) + (1 : Int32))) 11 (((u241.1 0 12) + (1 : Int32)).toNatClampNeg) (-1 : Int32)) 0 12 (((u241.1 0 12) + (1 : Int32)) + (1 : Int32))) 13 ((u241.1 0 15).toNatClampNeg) 10) 14 ((u241.1 0 15).toNatClampNeg) 0) 0 15 ((u241.1 0 15) + (1 : Int32))) 0 60 (u241.1 0 15)) 0 47 ((u241.1 0 47) + (1 : Int32))) (wA (wA (wA (wA (wA (wA (wA (wA (wA (wA (wA (wA (wA (wA u241 11 ((u241.1 0 12).toNatClampNeg) x254) 0 12 ((u241.1 0 12) + (1 : Int32))) 11 (((u241.1 0 12) + (1 : Int32)).toNatClampNeg) (-1 : Int32)) 0 12 (((u241.1 0 12) + (1 : Int32)) + (1 : Int32))) 13 ((u241.1 0 15).toNatClampNeg) 10) 14 ((u241.1 0 15).toNatClampNeg) 0) 0 15 ((u241.1 0 15) + (1 : Int32))) 0 60 (u241.1 0 15)) 0 47 ((u241.1 0 47) + (1 : Int32))) 11 ((((u241.1 0 12) + (1 : Int32)) + (1 : Int32)).toNatClampNeg) (0 : Int32)) 0 12 ((((u241.1 0 12) + (1 : Int32)) + (1 : Int32)) + (1 : Int32))) 13 (((u241.1 0 15) + (1 : Int32)).toNatClampNeg) (12 : Int32)) 14 (((u241.1 0 15) + (1 : Int32)).toNatClampNeg) (0 : Int32)) 0 15 (((u241.1 0 15) + (1 : Int32)) + (1 : Int32))) := EMS.w0 (EMS.wa (EMS.wa (EMS.o1 (EMS.wa EMS.rf (by decide)) rfl) (by decide)) (by decide)) (by decide)
      rw [show em 1 (aR g K (wA (wA (wA (wA (wA (wA (wA (wA (wA u241 11 ((u241.1 0 12).toNatClampNeg) x254) 0 12 ((u241.1 0 12) + (1 : Int32))) 11 (((u241.1 0 12) + (1 : Int32)).toNatClampNeg) (-1 : Int32)) 0 12 (((u241.1 0 12) + (1 : Int32)) + (1 : Int32))) 13 ((u241.1 0 15).toNatClampNeg) 10) 14 ((u241.1 0 15).toNatClampNeg) 0) 0 15 ((u241.1 0 15) + (1 : Int32))) 0 60 (u241.1 0 15)) 0 47 ((u241.1 0 47) + (1 : Int32)))) = aR g K (wA (wA (wA (wA (wA (wA (wA (wA (wA (wA (wA (wA (wA (wA u241 11 ((u241.1 0 12).toNatClampNeg) x254) 0 12 ((u241.1 0 12) + (1 : Int32))) 11 (((u241.1 0 12) + (1 : Int32)).toNatClampNeg) (-1 : Int32)) 0 12 (((u241.1 0 12) + (1 : Int32)) + (1 : Int32))) 13 ((u241.1 0 15).toNatClampNeg) 10) 14 ((u241.1 0 15).toNatClampNeg) 0) 0 15 ((u241.1 0 15) + (1 : Int32))) 0 60 (u241.1 0 15)) 0 47 ((u241.1 0 47) + (1 : Int32))) 11 ((((u241.1 0 12) + (1 : Int32)) + (1 : Int32)).toNatClampNeg) (0 : Int32)) 0 12 ((((u241.1 0 12) + (1 : Int32)) + (1 : Int32)) + (1 : Int32))) 13 (((u241.1 0 15) + (1 : Int32)).toNatClampNeg) (12 : Int32)) 14 (((u241.1 0 15) + (1 : Int32)).toNatClampNeg) (0 : Int32)) 0 15 (((u241.1 0 15) + (1 : Int32)) + (1 : Int32))) from e8.a.symm]
      have J8 := e8.j a7.jj
      have Z8 : ZS u241 (wA (wA (wA (wA (wA (wA (wA (wA (wA (wA (wA (wA (wA (wA u241 11 ((u241.1 0 12).toNatClampNeg) x254) 0 12 ((u241.1 0 12) + (1 : Int32))) 11 (((u241.1 0 12) + (1 : Int32)).toNatClampNeg) (-1 : Int32)) 0 12 (((u241.1 0 12) + (1 : Int32)) + (1 : Int32))) 13 ((u241.1 0 15).toNatClampNeg) 10) 14 ((u241.1 0 15).toNatClampNeg) 0) 0 15 ((u241.1 0 15) + (1 : Int32))) 0 60 (u241.1 0 15)) 0 47 ((u241.1 0 47) + (1 : Int32))) 11 ((((u241.1 0 12) + (1 : Int32)) + (1 : Int32)).toNatClampNeg) (0 : Int32)) 0 12 ((((u241.1 0 12) + (1 : Int32)) + (1 : Int32)) + (1 : Int32))) 13 (((u241.1 0 15) + (1 : Int32)).toNatClampNeg) (12 : Int32)) 14 (((u241.1 0 15) + (1 : Int32)).toNatClampNeg) (0 : Int32)) 0 15 (((u241.1 0 15) + (1 : Int32)) + (1 : Int32))) := ZS.of rfl rfl rfl
      rcases h with ⟨w134, hj2, -, -, -, -, -, -, -, -, h⟩ | ⟨r477, h9, -, c9, u9, h10, rfl, rfl⟩
      · obtain ⟨r477, h9, -, hj2⟩ := hj2
        have O2 := rOptJ (g := g) (y := w134) (i := 0) (i' := 0) (z1 := 0) (z2 := 0) (z3 := 0) hE (q := (41, 31)) (m := 31) (by decide) rfl (by decide) J8 g2 h9 (by
          rcases hj2 with hj2 | ⟨c9, u484, h10, k10, rfl⟩
          · exact Or.inl hj2
          · exact Or.inr ⟨c9, u484, h10, k10, EMS.w0 (EMS.wa (EMS.wa EMS.rf (by decide)) (by decide)) (by decide), rfl⟩)
        rw [O2.1, bd_ok]
        have R := forTail (g := g) (t := t) (u := u) (k' := k - 1) hS O2.2.1 g2 (by
          rcases h with h | ⟨h11, k11, x314, -, x339, -, h⟩
          · exact Or.inl h
          refine Or.inr ⟨h11, k11, _, EMS.wa (EMS.wa (EMS.w0 (EMS.wa (EMS.wa (EMS.wa (EMS.o1 (EMS.wa EMS.rf (a := 11) (i := (w134.1 0 12).toNatClampNeg) (y := 0) (by decide)) (y := (w134.1 0 12) + 1) rfl) (a := 11) (i := (w134.1 0 12).toNatClampNeg) (y := x314) (by decide)) (a := 13) (i := (w134.1 0 15).toNatClampNeg) (y := 12) (by decide)) (a := 14) (i := (w134.1 0 15).toNatClampNeg) (y := w31.1 0 15) (by decide)) (i := 15) (y := (w134.1 0 15) + 1) (by decide)) (a := 11) (i := (((u241.1 0 12) + 1) + 1).toNatClampNeg) (y := x339) (by decide)) (a := 14) (i := ((u241.1 0 15) + 1).toNatClampNeg) (y := (w134.1 0 15) + 1) (by decide), rfl, (((u241.1 0 12) + 1) + 1) + 1, ((u241.1 0 15) + 1) + 1, ?_⟩
          rcases h with h | ⟨u373, h12, k12, x400, -, -, x430, -, u455, h13, k13, rfl, rfl⟩
          · exact Or.inl h
          · exact Or.inr ⟨u373, h12, k12, _, EMS.wa (EMS.wa (EMS.w0 (EMS.wa (EMS.wa (EMS.wa (EMS.o1 (EMS.wa EMS.rf (by decide)) rfl) (by decide)) (by decide)) (by decide)) (by decide)) (by decide)) (by decide), rfl, u455, k13, rfl, rfl⟩)
        rcases R with ⟨q0, q1, q2, q3, q4⟩ | R
        · exact Or.inl ⟨q0, q1, q2, (Z3.tr Z5).tr (ZE.tr (Z8.tr (O2.2.2.tr q3))), q4⟩
        · exact Or.inr R
      · exact Or.inr ⟨rfl, by rw [rOptX (g := g) hE (q := (41, 31)) (m := 31) (by decide) rfl (by decide) J8 g2 h9 c9 h10, bd_er, bd_er]⟩
  · exact Or.inr ⟨rfl, by rw [rOptX (g := g) hE (q := (59, 36)) (m := 36) (by decide) rfl (by decide) a2.jj g2 h3 c3 h4, bd_er, bd_er]⟩
end MFO
