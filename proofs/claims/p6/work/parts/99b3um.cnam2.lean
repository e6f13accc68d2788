/-! the class's deeds: a name -/
section UMN
variable {L1 L2 : List Nat} {P : Int32 × Int32 × Int32} {v u w x z : MS} {a b : List EV} {e : PE} {pa pb pc1 pd r : Int32} {t : Bool} {E : EvE} {R : RE1}
theorem ES.read {sl : Int} (h : Q_x_X2_read L1 L2 v pa pb u) (J : JC L2 e v) (B : LBe v) (hs : (pa.toInt = -1 → sl < 0) ∧ (pa.toInt ≠ -1 → 0 ≤ sl ∧ pa = Int32.ofInt sl)) : ES L2 e P v u [gRead sl pb] ∧ u.1 0 305 = v.1 0 305 := by
  obtain ⟨A4, F4, S4⟩ := eRead (P := P) h hs
  have f5 : u.1 0 305 = v.1 0 305 := F4.2.1 305 (by decide)
  exact ⟨⟨J.fr F4 S4 (by decide) (by decide) (by rw [f5, F4.2.1 307 (by decide)]; exact J.2.1), A4, B.tr A4 (by rw [f5]; exact B.2.1) (F4.2.1 312 (by decide)), knC_fr F4, F4.2.1 314 (by decide), F4.2.1 312 (by decide)⟩, f5⟩
theorem ofI (x : Int32) : x = Int32.ofInt x.toInt := (Int32.ofInt_toInt x).symm
set_option maxHeartbeats 1600000 in
theorem eNamed (hE : XE L2 R E) (hM : XM R) (hK : XK R) (h : Q_x_X2_named L1 L2 R v pa false r u) (J : JC L2 e v) (B : LBe v) (tp : TPO v) (cu : (u.1 0 321).toInt ≤ 500) : ∃ a, gNamed E (decide (pa.toInt ≠ 0)) e (knC v) (v.1 0 314) (v.1 0 305) = some (decide (r.toInt ≠ 0), a, u.1 0 305) ∧ ES L2 e P v u a ∧ DS v u 1 := by
  obtain ⟨-, -, -, -, -, -, -, -, -, -, r3, h1, r6, h2, r9, h3, k3, h⟩ := h
  have hkb : r3 = e.1 (v.1 0 305 + 1) := cKindB (G := G0) h1 J
  have hv := vlC h2 J
  have hf : r9.toInt = fnd (knC v) r6 := cSlot (G := G0) h3
  have k3 : -1 ≤ r9.toInt := k3
  have m1 : (-1 : Int32).toInt = -1 := by decide
  have d1 : ∀ {x : MS}, K_x_X9_take v x → DS v x 1 := fun {x} k => by
    have a3 : (x.1 0 305).toInt = (v.1 0 305).toInt + 1 := k.2.2.1
    have a4 : (x.1 0 317).toInt = (v.1 0 317).toInt := congrArg Int32.toInt (k.1.2.1 317 (by decide))
    unfold DS
    omega
  have d2 : ∀ {x y z : MS}, DS v x 1 → DS x y 0 → DS y z 0 → DS v z 1 := fun a b c => by unfold DS at *; omega
  have d3 : ∀ {x : MS}, DS x x 0 := fun {x} => by unfold DS; omega
  unfold gNamed
  dsimp only
  rw [← hkb, ← hv, ← hf]
  rcases h with ⟨q9, -, h⟩ | ⟨q9, r164, h4, r167, h5, -, h⟩
  · -- a slot
    have s0 : 0 ≤ r9.toInt := by omega
    have hrow : decide (r9.toInt < 0 ∧ gfd e r6 = some 1) = false := decide_eq_false (fun q => by have := q.1; omega)
    rw [hrow]
    rcases h with ⟨c30, r18, h6, -, h⟩ | ⟨-, r84, -, u9, -, f, -⟩
    · have g1 := cGFn h6 (by decide)
      rcases h with ⟨-, h⟩ | ⟨q, -⟩
      · rcases h with ⟨-, ⟨u9, -, f, -⟩ | ⟨u26, h7, k7, h⟩⟩ | ⟨-, r84, -, u9, -, f, -⟩
        · cases f
        · have T := ES.take (P := P) h7 k7 J B
          rw [if_neg c30]
          simp only [Bool.false_eq_true, if_false, Option.bind_some]
          have hs : (r9.toInt = -1 → r9.toInt < 0) ∧ (r9.toInt ≠ -1 → 0 ≤ r9.toInt ∧ r9 = Int32.ofInt r9.toInt) := ⟨fun q => by omega, fun _ => ⟨s0, ofI r9⟩⟩
          obtain ⟨a, y1, y2, y3⟩ := eTail (P := P) (E := E) (R := R) (L1 := L1) (pa := pa) (r := r) (row := false) (sl := r9.toInt) (g := -1) (s9 := r9) (g9 := -1) (p9 := 0) (q := gRead r9.toInt (-1)) (Rd := fun y => Q_x_X2_read L1 L2 u26 r9 (-1) y) (Kd := fun y => K_x_X2_read u26 r9 (-1) y) T.1 B (fun y q1 _ => ES.read q1 T.1.1 T.1.2.2.1 hs) (fun y q1 cy => eChange hE q1 T.1.1 T.1.2.2.1 (tpo_fr k7.1 (by decide) tp) cy hs (by decide)) cu h
          rw [T.1.2.2.2.1, T.1.2.2.2.2.1, T.2] at y1
          refine ⟨a, ?_, y2, d2 (d1 k7) d3 y3⟩
          rw [← y1, gChg_sl (g := nI (gix e r6)) (g' := -1) s0]
          have gr : gRead r9.toInt (nI (gix e r6)) = gRead r9.toInt (-1) := by unfold gRead; rw [if_pos s0, if_pos s0]
          rw [gr]
        · cases f
      · rw [g1] at q
        exact absurd q (by decide)
    · cases f
  · have s0 : r9.toInt < 0 := by omega
    have hv2 := vlC h4 J
    have e46 : r164 = r6 := hv2.trans hv.symm
    rw [e46] at h5
    have hg := cGlob h5 J
    rcases h with ⟨q7, h⟩ | ⟨q7, h⟩
    · -- a call
      rcases h with ⟨-, r18, -, -, ⟨-, r84, -, u9, -, f, -⟩ | ⟨-, r84, -, u9, -, f, -⟩⟩ | ⟨c30, ⟨u9, -, f, -⟩ | ⟨u198, h7, k7, -, er, eu⟩⟩
      · cases f
      · cases f
      · cases f
      · rw [eu] at cu ⊢
        obtain ⟨a, y1, y2, y3⟩ := eCall (P := P) hE hM hK h7 J B tp cu
        rw [if_pos c30, y1, Option.bind_some, er]
        exact ⟨a, rfl, y2, y3⟩
    · have g0 : 0 ≤ r167.toInt ∧ r167.toInt < (v.1 0 377).toInt ∧ gfd e r6 = some (v.1 (5000 + rowA L2 r167.toNatClampNeg) 2) := by
        rcases hg with hg | hg
        · exact absurd hg.1 q7
        · exact hg
      have gx := cGix h5 J q7
      rw [← gx]
      have hs : (r9.toInt = -1 → r9.toInt < 0) ∧ (r9.toInt ≠ -1 → 0 ≤ r9.toInt ∧ r9 = Int32.ofInt r9.toInt) := ⟨fun q => by omega, fun q => absurd (by omega) q⟩
      rcases h with ⟨c30, r18, h6, -, h⟩ | ⟨-, r84, -, u9, -, f, -⟩
      · have g1 : r18 = v.1 (5000 + rowA L2 r167.toNatClampNeg) 2 := cGF4 h6 g0.1 g0.2.1 J.2.2.2 (by decide)
        rw [if_neg c30]
        rcases h with ⟨cr, ⟨-, ⟨u9, -, f, -⟩ | ⟨u26, h7, k7, h⟩⟩ | ⟨-, r84, -, u9, -, f, -⟩⟩ | ⟨cr, ⟨-, r84, -, u9, -, f, -⟩ | ⟨-, ⟨u9, -, f, -⟩ | ⟨u26, h7, k7, ⟨u9, -, f, -⟩ | ⟨u30, h30, k30, h⟩⟩⟩⟩
        · cases f
        · -- a variable
          have hrow : decide (r9.toInt < 0 ∧ gfd e r6 = some 1) = false := decide_eq_false (fun q => by
            have q2 := q.2
            rw [g0.2.2] at q2
            have := Option.some.inj q2
            rw [← g1] at this
            rw [this] at cr
            exact cr (by decide))
          rw [hrow]
          have T := ES.take (P := P) h7 k7 J B
          simp only [Bool.false_eq_true, if_false, Option.bind_some]
          obtain ⟨a, y1, y2, y3⟩ := eTail (P := P) (E := E) (R := R) (L1 := L1) (pa := pa) (r := r) (row := false) (sl := r9.toInt) (g := r167) (s9 := r9) (g9 := r167) (p9 := 0) (q := gRead r9.toInt r167) (Rd := fun y => Q_x_X2_read L1 L2 u26 r9 r167 y) (Kd := fun y => K_x_X2_read u26 r9 r167 y) T.1 B (fun y q1 _ => ES.read q1 T.1.1 T.1.2.2.1 hs) (fun y q1 cy => eChange hE q1 T.1.1 T.1.2.2.1 (tpo_fr k7.1 (by decide) tp) cy hs (by decide)) cu h
          rw [T.1.2.2.2.1, T.1.2.2.2.2.1, T.2] at y1
          exact ⟨a, y1, y2, d2 (d1 k7) d3 y3⟩
        · cases f
        · cases f
        · cases f
        · cases f
        · -- a row
          have hrow : decide (r9.toInt < 0 ∧ gfd e r6 = some 1) = true := decide_eq_true ⟨s0, by
            rw [g0.2.2, ← g1]
            exact congrArg some (Int32.toInt_inj.mp (by rw [cr]; decide))⟩
          rw [hrow]
          have T := ES.take (P := P) h7 k7 J B
          have cx : (u30.1 0 321).toInt ≤ 500 := by
            rcases h with ⟨-, y, h1, h2, -, -, eu⟩ | ⟨-, r49, hk, r52, hs, -, ⟨-, y, h1, h2, -, -, eu⟩ | ⟨-, ⟨u9, -, f, -⟩ | ⟨y, h1, h2, -, -, eu⟩⟩⟩
            · have := fc21 h2.1
              rw [eu] at cu
              omega
            · have := fc21 h2.1
              rw [eu] at cu
              omega
            · cases f
            · have := mChangeM hM h1
              rw [eu] at cu
              omega
          obtain ⟨a0, i1, i2, i3, i4⟩ := eIndex (P := P) hE h30 T.1.1 T.1.2.2.1 (tpo_fr k7.1 (by decide) tp) cx
          have I : ES L2 e P u26 u30 a0 := ⟨i2, i3, T.1.2.2.1.tr i3 (by have := k30.2.1; omega) (k30.1.2.1 312 (by decide)), knC_fr k30.1, i4, k30.1.2.1 312 (by decide)⟩
          have TI := T.1.tr I B
          rw [List.nil_append] at TI
          simp only [if_true]
          rw [T.1.2.2.2.1, T.1.2.2.2.2.1, T.2] at i1
          rw [i1, Option.bind_some]
          obtain ⟨a, y1, y2, y3⟩ := eTail (P := P) (E := E) (R := R) (L1 := L1) (pa := pa) (r := r) (row := true) (sl := r9.toInt) (g := r167) (s9 := r9) (g9 := r167) (p9 := 1) (q := evx 8 r167 0) (Rd := fun y => Q_x_X1_add L1 L2 u30 8 r167 0 y) (Kd := fun y => K_x_X1_add u30 8 r167 0 y) TI B (fun y q1 q2 => ES.add (y := 0) q1 q2 I.1 I.2.2.1 (by unfold plE; decide) rfl) (fun y q1 cy => eChange hE q1 I.1 I.2.2.1 (tpKo (kIndexK hK h30) k30.2.2.2.2.2.2.2.2.2.1 (tpo_fr k7.1 (by decide) tp)) cy hs (by decide)) cu h
          rw [TI.2.2.2.1, TI.2.2.2.2.1] at y1
          exact ⟨a, y1, y2, d2 (d1 k7) (by have := I.2.1.2.2.1; unfold DS; omega) y3⟩
      · cases f
end UMN
