/-! the reference: a new name -/
section MLO
variable {g : GM} {n : Int} {K : TK} {e : PE} {v u w x S : MS} {t : Bool} {r pa pb nm : Int32} {c : RM1} {E : FE} {f : PS → PX PS} {k k' N cc : Nat} {m : Int}
theorem rLearn {y : Int32} (J : JM n K e S) (hn : NT n K nm) (z : 0 ≤ (S.1 0 30).toInt ∧ (S.1 0 30).toInt < 500) : aR g K (wA (wA (wA S 29 ((S.1 0 30).toNatClampNeg) nm) 0 30 ((S.1 0 30) + (1 : Int32))) 0 34 y) = tLearn (K.2.1 nm) (aR g K S) ∧ JM n K e (wA (wA (wA S 29 ((S.1 0 30).toNatClampNeg) nm) 0 30 ((S.1 0 30) + (1 : Int32))) 0 34 y) := by
  have e1 : ((S.1 0 30) + (1 : Int32)).toInt = (S.1 0 30).toInt + 1 := add_z rfl (by decide) (by omega) (by omega)
  have nz := natI z.1
  have nc : ((S.1 0 30) + (1 : Int32)).toNatClampNeg = (S.1 0 30).toNatClampNeg + 1 := natS e1 z.1
  constructor
  · unfold tLearn
    rw [if_neg (show ¬ (500 : Int) ≤ (pKc (aR g K S)).toInt from by show ¬ (500 : Int) ≤ (S.1 0 30).toInt; omega)]
    refine aR_eq rfl rfl rfl rfl rfl rfl rfl rfl rfl rfl rfl rfl ?_ rfl
    show (List.range ((S.1 0 30) + (1 : Int32)).toNatClampNeg).map (fun k => K.2.1 (upd (S.1 29) (S.1 0 30).toNatClampNeg nm k)) = (List.range (S.1 0 30).toNatClampNeg).map (fun k => K.2.1 (S.1 29 k)) ++ [K.2.1 nm]
    rw [nc, lst_snoc, updS]
    congr 1
    exact List.map_congr_left (fun j hj => by rw [updN_ (by have := List.mem_range.mp hj; omega)])
  · obtain ⟨T, he, nd, J4, J5, J6⟩ := J
    refine ⟨T.of rfl rfl rfl rfl rfl rfl, he, nd, J4, fun k hk => ?_, J6⟩
    show NT n K (upd (S.1 29) (S.1 0 30).toNatClampNeg nm k)
    have hk : (k : Int) < ((S.1 0 30) + (1 : Int32)).toInt := hk
    by_cases q : k = (S.1 0 30).toNatClampNeg
    · rw [q, updS]
      exact hn
    · rw [updN_ q]
      exact J5 k (show (k : Int) < (S.1 0 30).toInt by omega)
set_option maxHeartbeats 1600000 in
theorem rLocalS (hE : HME n K (QME k) E) (h : Q_m_declared k v t u) (J : JM n K e v) (g2 : g.2 = []) (hk : 2 ≤ (kd e (aR g K v)).toInt) : OKZ g n K e (tLocal E e) v t u := by
  obtain ⟨-, -, -, -, -, -, -, -, -, -, -, -, -, -, h⟩ := h
  unfold OKZ tLocal
  rcases h with ⟨u9, h1, rfl, rfl⟩ | ⟨h1, k1, h⟩
  · exact Or.inr ⟨rfl, by rw [(rTake (g := g) h1 J hk).er, bd_er]⟩
  have a1 := rTake (g := g) h1 J hk
  rw [a1.eo, bd_ok]
  have J1 := a1.jj
  have e2 : kd e (aR g K (wA v 0 47 ((v.1 0 47) + (1 : Int32)))) = 2 ↔ v.1 6 ((v.1 0 47) + (1 : Int32)).toNatClampNeg = 2 := by
    rw [rKd J1]
    exact kM_2 (rTV J1)
  rcases h with ⟨c6, r9, h9, -, h⟩ | ⟨c6, u203, h203, -, rfl, rfl⟩
  · have k2 : kd e (aR g K (wA v 0 47 ((v.1 0 47) + (1 : Int32)))) = 2 := e2.mpr (Int32.toInt_inj.mp (c6.trans (by decide)))
    have nt : NT n K ((v.1 0 47) + (1 : Int32)) := rNT J1 k2
    have L := rLocal (g := g) h9 J1 nt
    have ev : vl e (aR g K (wA v 0 47 ((v.1 0 47) + (1 : Int32)))) = K.2.1 ((v.1 0 47) + (1 : Int32)) := rVl J1
    have tn : tNew e (aR g K (wA v 0 47 ((v.1 0 47) + (1 : Int32)))) = if (v.1 0 31).toInt ≤ r9.toInt then .error (3, pl e (aR g K (wA v 0 47 ((v.1 0 47) + (1 : Int32))))) else .ok (aR g K (wA v 0 47 ((v.1 0 47) + (1 : Int32)))) := by
      unfold tNew tNeed
      rw [if_pos (i_kd k2 (by decide)), bd_ok, ev, L]
      rfl
    rw [tn]
    rcases h with ⟨c9, r14, u13, h13, k13, h⟩ | ⟨c9, rfl, rfl⟩
    · rw [if_neg (by omega), bd_ok]
      have a2 := rSlots (g := g) (k := 0) h13 J1
      have p13 : u13.1 0 47 = (v.1 0 47) + (1 : Int32) := (k13.1.2.1 47 (by decide)).trans rfl
      have kd13 : kd e (aR g K u13) = kd e (aR g K (wA v 0 47 ((v.1 0 47) + (1 : Int32)))) := kd_aR p13
      have hk13 : 2 ≤ (kd e (aR g K u13)).toInt := by rw [kd13, k2]; decide
      have z30 : 0 ≤ (v.1 0 30).toInt ∧ (v.1 0 30).toInt ≤ 500 := h13.1
      have z32 : 0 ≤ (v.1 0 32).toInt ∧ (v.1 0 32).toInt ≤ 2000 := h13.2.1
      have q30 : u13.1 0 30 = v.1 0 30 := (k13.1.2.1 30 (by decide)).trans rfl
      unfold tWant
      by_cases l : (500 : Int) < (pKc (aR g K (wA v 0 47 ((v.1 0 47) + (1 : Int32)))) + pPb (aR g K (wA v 0 47 ((v.1 0 47) + (1 : Int32)))) + 1).toInt
      · rw [if_pos l, bd_er]
        have q7 := (a2.2.2.2 l).1
        have du : pDu (aR g K u13) = true := by rw [q7]; rfl
        have pp : pl e (aR g K u13) = pl e (aR g K (wA v 0 47 ((v.1 0 47) + (1 : Int32)))) := by unfold pl; rw [pAt_aR, pAt_aR, p13]; rfl
        have tk : tTake e (aR g K u13) = .error (5, pl e (aR g K (wA v 0 47 ((v.1 0 47) + (1 : Int32))))) := by
          unfold tTake
          rw [if_pos (Or.inr du), pp]
        rcases h with ⟨u9, h3', rfl, rfl⟩ | ⟨h3', -⟩
        · have q := (rTake (g := g) h3' a2.2.1 hk13).er
          rw [tk] at q
          exact Or.inr ⟨rfl, by injection q with q; rw [q]⟩
        · have q := (rTake (g := g) h3' a2.2.1 hk13).eo
          rw [tk] at q
          cases q
      · rw [if_neg l, bd_ok, ← (a2.2.2.1 (by omega)).1]
        have l5 : (v.1 0 30).toInt < 500 := by
          have l : ¬ (500 : Int) < (v.1 0 30 + v.1 0 32 + 1).toInt := l
          have e1 : (v.1 0 30 + v.1 0 32).toInt = (v.1 0 30).toInt + (v.1 0 32).toInt := add_z rfl rfl (by omega) (by omega)
          have e3 : (v.1 0 30 + v.1 0 32 + 1).toInt = (v.1 0 30).toInt + (v.1 0 32).toInt + 1 := add_z e1 (by decide) (by omega) (by omega)
          omega
        rcases h with ⟨u9, h3, rfl, rfl⟩ | ⟨h3, k3, r22, h22, -, h⟩
        · exact Or.inr ⟨rfl, by rw [(rTake (g := g) h3 a2.2.1 hk13).er, bd_er]⟩
        have a3 := rTake (g := g) h3 a2.2.1 hk13
        rw [a3.eo, bd_ok]
        have Z3 : ZS v (wA u13 0 47 ((u13.1 0 47) + (1 : Int32))) := ((ZS.of rfl rfl rfl : ZS v (wA v 0 47 ((v.1 0 47) + (1 : Int32)))).tr (ZS.fg k13.1 (by decide) (by rw [k13.1.2.1 39 (by decide)]; exact Int.le_refl _))).tr (ZS.of rfl rfl rfl)
        have i22 := (rIs (g := g) h22 a3.jj (q := (61, 42)) (by decide) rfl).trans (kd_m (m := 42) (by decide))
        -- the end, behind a state
        have fin : ∀ {w1 w2 : MS} {y : Int32}, JM n K e w1 → ZS v w1 → w1.1 0 30 = v.1 0 30 → EMS 1 w1 w2 → w2.1 0 52 = w1.1 0 52 → ((∃ u9, Q_m_need w2 59 true u9 ∧ t = true ∧ u = u9) ∨ (Q_m_need w2 59 false (wA w2 0 47 ((w2.1 0 47) + (1 : Int32))) ∧ K_m_need w2 59 (wA w2 0 47 ((w2.1 0 47) + (1 : Int32))) ∧ ∃ y, t = false ∧ u = wA (wA (wA (wA w2 0 47 ((w2.1 0 47) + (1 : Int32))) 29 (((wA w2 0 47 ((w2.1 0 47) + (1 : Int32))).1 0 30).toNatClampNeg) ((v.1 0 47) + (1 : Int32))) 0 30 (((wA w2 0 47 ((w2.1 0 47) + (1 : Int32))).1 0 30) + (1 : Int32))) 0 34 y)) → ((t = false ∧ (bd (tExp 36 e (em 1 (aR g K w1))) fun s => .ok (tLearn (vl e (aR g K (wA v 0 47 ((v.1 0 47) + (1 : Int32))))) s)) = (.ok (aR g K u) : PX PS) ∧ JM n K e u ∧ ZS v u ∧ ND u) ∨ (t = true ∧ (bd (tExp 36 e (em 1 (aR g K w1))) fun s => .ok (tLearn (vl e (aR g K (wA v 0 47 ((v.1 0 47) + (1 : Int32))))) s)) = (.error (u.1 0 50, u.1 0 51) : PX PS))) := by
          intro w1 w2 _ Jw Zw q30w ew q52 hh
          rw [show em 1 (aR g K w1) = aR g K w2 from ew.a.symm, ev]
          rcases hh with ⟨u9, h4, rfl, rfl⟩ | ⟨h4, k4, y, rfl, hu⟩
          · exact Or.inr ⟨rfl, by rw [(rNeed (g := g) (q := (59, 36)) (m := 36) h4 (ew.j Jw) (by decide) rfl (by decide)).er, bd_er]⟩
          have a4 := rNeed (g := g) (q := (59, 36)) (m := 36) h4 (ew.j Jw) (by decide) rfl (by decide)
          rw [a4.eo, bd_ok]
          have q30b : (wA w2 0 47 ((w2.1 0 47) + (1 : Int32))).1 0 30 = v.1 0 30 := (show (wA w2 0 47 ((w2.1 0 47) + (1 : Int32))).1 0 30 = w2.1 0 30 from rfl).trans ((ew.2.2.1 30 (by decide)).trans q30w)
          have LN := rLearn (g := g) (y := y) a4.jj nt (by rw [q30b]; exact ⟨z30.1, l5⟩)
          have N4 := ndT (ew.j Jw) k4.1
          subst hu
          refine Or.inl ⟨rfl, by rw [LN.1], LN.2, ⟨?_, ?_, ?_⟩, N4⟩
          · show (v.1 0 30).toInt ≤ (((wA w2 0 47 ((w2.1 0 47) + (1 : Int32))).1 0 30) + (1 : Int32)).toInt
            rw [q30b]
            have : ((v.1 0 30) + (1 : Int32)).toInt = (v.1 0 30).toInt + 1 := add_z rfl (by decide) (by omega) (by omega)
            omega
          · exact q52.trans Zw.2.1
          · show (v.1 0 39).toInt ≤ (w2.1 0 39).toInt
            rw [ew.2.2.1 39 (by decide)]
            exact Zw.2.2
        rcases h with ⟨c22, r27, -, r51, -, r54, -, h⟩ | ⟨c22, h⟩
        · rw [if_neg (fun q => i22.mpr q c22), bd_ok]
          have e4 : EMS 1 (wA u13 0 47 ((u13.1 0 47) + (1 : Int32))) (wA (wA (wA (wA (wA (wA u13 0 47 ((u13.1 0 47) + (1 : Int32))) 11 ((u13.1 0 12).toNatClampNeg) r27) 0 12 ((u13.1 0 12) + (1 : Int32))) 13 ((u13.1 0 15).toNatClampNeg) (0 : Int32)) 14 ((u13.1 0 15).toNatClampNeg) (0 : Int32)) 0 15 ((u13.1 0 15) + (1 : Int32))) := EMS.w0 (EMS.wa (EMS.wa (EMS.o1 (EMS.wa EMS.rf (by decide)) rfl) (by decide)) (by decide)) (by decide)
          rw [show em 1 (aR g K (wA u13 0 47 ((u13.1 0 47) + (1 : Int32)))) = _ from e4.a.symm]
          refine fin (y := 0) (w2 := (wA (wA (wA (wA (wA (wA (wA (wA (wA (wA (wA (wA (wA (wA u13 0 47 ((u13.1 0 47) + (1 : Int32))) 11 ((u13.1 0 12).toNatClampNeg) r27) 0 12 ((u13.1 0 12) + (1 : Int32))) 13 ((u13.1 0 15).toNatClampNeg) (0 : Int32)) 14 ((u13.1 0 15).toNatClampNeg) (0 : Int32)) 0 15 ((u13.1 0 15) + (1 : Int32))) 11 (((u13.1 0 12) + (1 : Int32)).toNatClampNeg) r54) 0 12 (((u13.1 0 12) + (1 : Int32)) + (1 : Int32))) 13 (((u13.1 0 15) + (1 : Int32)).toNatClampNeg) (2 : Int32)) 14 (((u13.1 0 15) + (1 : Int32)).toNatClampNeg) r14) 0 15 (((u13.1 0 15) + (1 : Int32)) + (1 : Int32))) 13 ((((u13.1 0 15) + (1 : Int32)) + (1 : Int32)).toNatClampNeg) (9 : Int32)) 14 ((((u13.1 0 15) + (1 : Int32)) + (1 : Int32)).toNatClampNeg) (0 : Int32)) 0 15 ((((u13.1 0 15) + (1 : Int32)) + (1 : Int32)) + (1 : Int32)))) (e4.j a3.jj) (Z3.tr (zs_e e4 rfl)) q30 (EMS.w0 (EMS.wa (EMS.wa (EMS.w0 (EMS.wa (EMS.wa (EMS.o1 (EMS.wa EMS.rf (by decide)) rfl) (by decide)) (by decide)) (by decide)) (by decide)) (by decide)) (by decide)) rfl ?_
          rcases h with h | ⟨h5, k5, ⟨-, rfl, rfl⟩ | ⟨-, rfl, rfl⟩⟩
          · exact Or.inl h
          · exact Or.inr ⟨h5, k5, _, rfl, rfl⟩
          · exact Or.inr ⟨h5, k5, _, rfl, rfl⟩
        · have k42 := i22.mp c22
          rw [if_pos k42]
          rcases h with ⟨u9, h4, rfl, rfl⟩ | ⟨h4, k4, h⟩
          · exact Or.inr ⟨rfl, by rw [(rTake (g := g) h4 a3.jj (by omega)).er, bd_er, bd_er]⟩
          have a4 := rTake (g := g) h4 a3.jj (by omega)
          rw [a4.eo, bd_ok]
          rcases h with ⟨u9, h5, rfl, rfl⟩ | ⟨u124, h5, k5, r140, -, r143, -, h⟩
          · exact Or.inr ⟨rfl, by rw [(hE g e _ _ _ h5 nom a4.jj (og0 g2)).er, bd_er]⟩
          have a5 := hE g e _ _ _ h5 (fun _ => k5) a4.jj (og0 g2)
          rw [a5.eo, bd_ok]
          have q124 : u124.1 0 30 = v.1 0 30 := (k5.1.2.1 30 (by decide)).trans ((show _ = u13.1 0 30 from rfl).trans q30)
          refine fin (y := 0) (w2 := (wA (wA (wA (wA (wA (wA (wA (wA u124 11 ((u124.1 0 12).toNatClampNeg) r143) 0 12 ((u124.1 0 12) + (1 : Int32))) 13 ((u124.1 0 15).toNatClampNeg) (2 : Int32)) 14 ((u124.1 0 15).toNatClampNeg) r14) 0 15 ((u124.1 0 15) + (1 : Int32))) 13 (((u124.1 0 15) + (1 : Int32)).toNatClampNeg) (9 : Int32)) 14 (((u124.1 0 15) + (1 : Int32)).toNatClampNeg) (0 : Int32)) 0 15 (((u124.1 0 15) + (1 : Int32)) + (1 : Int32)))) a5.jj (Z3.tr ((ZS.of rfl rfl rfl : ZS (wA u13 0 47 ((u13.1 0 47) + (1 : Int32))) (wA (wA u13 0 47 ((u13.1 0 47) + (1 : Int32))) 0 47 (((u13.1 0 47) + (1 : Int32)) + (1 : Int32)))).tr (ZS.fg k5.1 (by decide) k5.2.2.2.2.2.2.1.1))) q124 (EMS.w0 (EMS.wa (EMS.wa (EMS.w0 (EMS.wa (EMS.wa (EMS.o1 (EMS.wa EMS.rf (by decide)) rfl) (by decide)) (by decide)) (by decide)) (by decide)) (by decide)) (by decide)) rfl ?_
          rcases h with h | ⟨h6, k6, ⟨-, rfl, rfl⟩ | ⟨-, rfl, rfl⟩⟩
          · exact Or.inl h
          · exact Or.inr ⟨h6, k6, _, rfl, rfl⟩
          · exact Or.inr ⟨h6, k6, _, rfl, rfl⟩
    · rw [if_pos c9, bd_er, rPl J1]
      exact Or.inr ⟨rfl, rfl⟩
  · have n2 : ¬ (kd e (aR g K (wA v 0 47 ((v.1 0 47) + (1 : Int32))))).toInt = 2 := fun q => c6 (by rw [e2.mp (Int32.toInt_inj.mp (q.trans (by decide)))]; decide)
    have tn : tNew e (aR g K (wA v 0 47 ((v.1 0 47) + (1 : Int32)))) = .error (u.1 0 50, u.1 0 51) := by
      unfold tNew tNeed
      rw [if_neg n2, rBad (g := g) h203 J1, bd_er]
    exact Or.inr ⟨rfl, by rw [tn, bd_er]⟩
end MLO
