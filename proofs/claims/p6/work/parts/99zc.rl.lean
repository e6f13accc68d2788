theorem ydX13_thrown_0 : decode cX13_thrown 0 = .ok (.aload_n 0, 1) := by decide +kernel
theorem ydX13_thrown_1 : decode cX13_thrown 1 = .ok (.getfield 3, 3) := by decide +kernel
theorem ydX13_thrown_4 : decode cX13_thrown 4 = .ok (.ireturn, 1) := by decide +kernel
/-- the reference's world, its object at m0 -/
def MIW (N : Nat) (B : Int) (m0 : Nat) (cI cZ cJ : ClassId) (tz gz : Int) (xz : ZG) (u : va_W) : Prop := ∃ (ad : Nat → Nat) (v : MS), u.Perm (mW ad N cI cZ cJ v) ∧ ad 0 = m0 ∧ RI N B v ∧ (v.1 0 2).toInt = tz ∧ (v.1 0 94).toInt = gz ∧ (HX (v.1 103) (v.1 0 104) xz.sx ∧ (∀ p9 : Nat, (p9 : Int) < tz → v.1 1 p9 = xz.tb p9) ∧ MD xz.fa xz.fp xz.dt v ∧ MEz gz xz v)
theorem om_b51235c072 {x0 : Int} (h0 : x0 < (0 : Int)) : ((1 : Int) = 0 ∧ (0 ≤ x0 ∧ x0 ≤ 32)) ∨ ((1 : Int) = 1 ∧ (x0 < 0 ∨ 32 < x0)) := by omega
theorem om_681c297c66 {x0 : Int} (h0 : (0 : Int) ≤ x0) (h1 : x0 ≤ (0 : Int)) : ((0 : Int) = 0 ∧ (0 ≤ x0 ∧ x0 ≤ 32)) ∨ ((0 : Int) = 1 ∧ (x0 < 0 ∨ 32 < x0)) := by omega
theorem om_774de9fbe2 {x0 : Int} (h0 : x0 ≤ (32 : Int)) (h1 : (0 : Int) < x0) : ((0 : Int) = 0 ∧ (0 ≤ x0 ∧ x0 ≤ 32)) ∨ ((0 : Int) = 1 ∧ (x0 < 0 ∨ 32 < x0)) := by omega
theorem om_a542f5212e {x0 : Int} (h0 : x0 ≤ (32 : Int)) (h1 : x0 = (32 : Int)) : ((0 : Int) = 0 ∧ (0 ≤ x0 ∧ x0 ≤ 32)) ∨ ((0 : Int) = 1 ∧ (x0 < 0 ∨ 32 < x0)) := by omega
theorem om_c91b067169 {x0 : Int} (h0 : (32 : Int) < x0) : ((1 : Int) = 0 ∧ (0 ≤ x0 ∧ x0 ≤ 32)) ∨ ((1 : Int) = 1 ∧ (x0 < 0 ∨ 32 < x0)) := by omega
set_option maxHeartbeats 4000000 in
set_option maxRecDepth 100000 in
theorem c_m_set2 (l : Launch) (dC : Nat → ClassId) (dI : Nat → Nat → Nat) (cI cB cZ cJ cR : ClassId) (tb : Nat → Nat) (sz : Nat) (ad : Nat → Nat) (N : Nat) (v : MS) (pa : Int32) (pb : Int32)  : Met l yX13_set (Cond.code yX13_set cX13_set 3 none :: tw_W) ({ frames := 0, cells := 0, slots := 0, locals := 0 }) (pc_ (dC, dI) (tyS cI cB cZ cJ cR) tb (mW ad N cI cZ cJ v) sz [.ref (ad 0), .int pa, .int pb]) (qv_ (dC, dI) (mW ad N cI cZ cJ v) sz (fun (u : MS) => FG [0, 98, 99] [0, 97] v u ∧ (((u.1 0 0).toInt = 0 ∧ (0 ≤ pa.toInt ∧ pa.toInt ≤ 32)) ∨ ((u.1 0 0).toInt = 1 ∧ (pa.toInt < 0 ∨ 32 < pa.toInt)))) (fun (u : MS) => (mW ad N cI cZ cJ u))) 0 0 (va_A (mW ad N cI cZ cJ v) sz) := by
  refine Met.ofW (cc := cX13_set) (maxL := 3) (ret := none) (by decide) rfl ?_
  intro p e s m args below meth c s₁ B hml hv
  obtain ⟨rfl, hsz, hP, hKK, hD0, hFx⟩ := hv
  have hK := hKK.1
  have hx := B.exec
  have hb := B.bytes
  have hr := B.returns
  have ht : ∀ w ∈ tw_W, w.before _ s = true := fun w h => atoms_spec (ws := Cond.code yX13_set cX13_set 3 none :: tw_W) B.pre w (List.mem_cons_of_mem _ h)
  have hown : s.vm.findClass RX13 = some m.cls := findClass_of_methodNamed B.named
  have hlocks := B.notSynchronized
  subst hsz
  unfold qv_
  have hD := hD0.self (sz := s.heap.size)
  generalize hAe : va_A (mW ad N cI cZ cJ v) s.heap.size = A at hD hFx ⊢
  have hA : ∀ q : Nat, s.heap.size ≤ q → A q := fun q h => by rw [← hAe]; exact Or.inr h
  have hS : va_S A s.heap s.heap [] := va_S.rf
  have hl := lv_entry ([.ref (ad 0), .int pa, .int pb]) (n := 3) (Nat.le_of_ble_eq_true rfl)
  rw [lg_entry_eq]
  generalize (lg_sl ([.ref (ad 0), .int pa, .int pb]) ++ List.replicate (3 - (lg_sl ([.ref (ad 0), .int pa, .int pb])).length) Slot.unset).toArray = ls at hl ⊢
  have hl : lv_has ls 3 [(0, .ref (ad 0)), (1, .int pa), (2, .int pb)] := hl
  refine lv_aload_n hx hb dX13_set_0 rfl (lv_at hl 0 rfl) ?_
  refine lv_iload_n hx hb dX13_set_1 rfl (lv_at hl 1 rfl) ?_
  refine lv_if_lt (tgt := 11) hx hb dX13_set_2 (by decide) (fun h1 => ?_) (fun h1 => ?_)
  · have z2 : pa.toInt < (0 : Int) := lt_z rfl (show (0 : Int32).toInt = (0 : Int) by decide) h1
    refine lv_iconst (v := 1) hx hb dX13_set_11 (by decide) ?_
    refine lv_goto (tgt := 16) hx hb dX13_set_12 (by decide) ?_
    refine va_put (D := (dC, dI)) (ci := 16) (fs := mF ad v) (v := .int 1) (ty := .int) (C := RX13) (T := TX13) (N := 124) hx hb ht itX13 tyX13 tyX13_ok nmX13 hown hK hP hD hS 0 rfl rfl 0 (by decide) (ht _ tw_246) (fun _ h9 => h9) rfl (by decide +kernel) rfl rfl (Nat.le_of_ble_eq_true rfl) dX13_set_16 (fun H locs hP hD hS => ?_)
    have hP := cP_ (mw_0 ad N cI cZ cJ v 1) hP
    have hD := cD_ (mw_0 ad N cI cZ cJ v 1) hD
    refine lv_aload_n hx hb dX13_set_19 rfl (lv_at hl 0 rfl) ?_
    refine va_get (D := (dC, dI)) (ci := 16) (fs := mF ad (wA v 0 0 1)) (v := .int 1) (C := RX13) (T := TX13) (N := 124) hx hb ht itX13 hown hK hP 0 rfl rfl 0 (by decide) (ht _ tw_246) (fun _ h9 => h9) rfl dX13_set_20 ?_
    refine lv_if_le (tgt := 27) hx hb dX13_set_23 (by decide) (fun k3 => absurd k3 (by decide)) (fun _ => ?_)
    exact W.vret hx hb hr (fun t ht9 hW => ⟨⟨(wA v 0 0 1), rfl, ⟨(FG.f (FG.rf _) 1 (by decide)), (show ((1 : Int) = 0 ∧ (0 ≤ pa.toInt ∧ pa.toInt ≤ 32)) ∨ ((1 : Int) = 1 ∧ (pa.toInt < 0 ∨ 32 < pa.toInt)) from (om_b51235c072 z2))⟩, by rw [ht9]; exact hP, hD⟩, hS.F ht9⟩) hS.2.2 dX13_set_26
  · have z4 : (0 : Int) ≤ pa.toInt := nlt_z rfl (show (0 : Int32).toInt = (0 : Int) by decide) h1
    refine lv_iload_n hx hb dX13_set_5 rfl (lv_at hl 1 rfl) ?_
    refine lv_bipush (v := 32) hx hb dX13_set_6 (by decide) ?_
    refine lv_icmp_le (tgt := 15) hx hb dX13_set_8 (by decide) (fun h5 => ?_) (fun h5 => ?_)
    · have z6 : pa.toInt ≤ (32 : Int) := le_z rfl (show (32 : Int32).toInt = (32 : Int) by decide) h5
      refine lv_iconst (v := 0) hx hb dX13_set_15 (by decide) ?_
      refine va_put (D := (dC, dI)) (ci := 16) (fs := mF ad v) (v := .int 0) (ty := .int) (C := RX13) (T := TX13) (N := 124) hx hb ht itX13 tyX13 tyX13_ok nmX13 hown hK hP hD hS 0 rfl rfl 0 (by decide) (ht _ tw_246) (fun _ h9 => h9) rfl (by decide +kernel) rfl rfl (Nat.le_of_ble_eq_true rfl) dX13_set_16 (fun H locs hP hD hS => ?_)
      have hP := cP_ (mw_0 ad N cI cZ cJ v 0) hP
      have hD := cD_ (mw_0 ad N cI cZ cJ v 0) hD
      refine lv_aload_n hx hb dX13_set_19 rfl (lv_at hl 0 rfl) ?_
      refine va_get (D := (dC, dI)) (ci := 16) (fs := mF ad (wA v 0 0 0)) (v := .int 0) (C := RX13) (T := TX13) (N := 124) hx hb ht itX13 hown hK hP 0 rfl rfl 0 (by decide) (ht _ tw_246) (fun _ h9 => h9) rfl dX13_set_20 ?_
      refine lv_if_le (tgt := 27) hx hb dX13_set_23 (by decide) (fun _ => ?_) (fun k7 => absurd k7 (by decide))
      refine lv_iload_n hx hb dX13_set_27 rfl (lv_at hl 1 rfl) ?_
      refine lv_bipush (v := 32) hx hb dX13_set_28 (by decide) ?_
      refine lv_icmp_ne (tgt := 41) hx hb dX13_set_30 (by decide) (fun h8 => ?_) (fun h8 => ?_)
      · have z9 : pa.toInt ≠ (32 : Int) := ne_z rfl (show (32 : Int32).toInt = (32 : Int) by decide) h8
        refine lv_iload_n hx hb dX13_set_41 rfl (lv_at hl 1 rfl) ?_
        refine lv_if_le (tgt := 52) hx hb dX13_set_42 (by decide) (fun h10 => ?_) (fun h10 => ?_)
        · have z11 : pa.toInt ≤ (0 : Int) := le_z rfl (show (0 : Int32).toInt = (0 : Int) by decide) h10
          refine lv_aload_n hx hb dX13_set_52 rfl (lv_at hl 0 rfl) ?_
          refine lv_iconst (v := 0) hx hb dX13_set_53 (by decide) ?_
          refine va_put (D := (dC, dI)) (ci := 16) (fs := mF ad (wA v 0 0 0)) (v := .int 0) (ty := .int) (C := RX13) (T := TX13) (N := 124) hx hb ht itX13 tyX13 tyX13_ok nmX13 hown hK hP hD hS 0 rfl rfl 99 (by decide) (ht _ tw_210) (fun _ h9 => h9) rfl (by decide +kernel) rfl rfl (Nat.le_of_ble_eq_true rfl) dX13_set_54 (fun H locs hP hD hS => ?_)
          have hP := cP_ (mw_99 ad N cI cZ cJ (wA v 0 0 0) 0) hP
          have hD := cD_ (mw_99 ad N cI cZ cJ (wA v 0 0 0) 0) hD
          exact W.vret hx hb hr (fun t ht9 hW => ⟨⟨(wA (wA v 0 0 0) 0 99 0), rfl, ⟨(FG.f (FG.f (FG.rf _) 0 (by decide)) 0 (by decide)), (show ((0 : Int) = 0 ∧ (0 ≤ pa.toInt ∧ pa.toInt ≤ 32)) ∨ ((0 : Int) = 1 ∧ (pa.toInt < 0 ∨ 32 < pa.toInt)) from (om_681c297c66 z4 z11))⟩, by rw [ht9]; exact hP, hD⟩, hS.F ht9⟩) hS.2.2 dX13_set_57
        · have z12 : (0 : Int) < pa.toInt := nle_z rfl (show (0 : Int32).toInt = (0 : Int) by decide) h10
          refine lv_aload_n hx hb dX13_set_45 rfl (lv_at hl 0 rfl) ?_
          refine va_get (D := (dC, dI)) (ci := 16) (fs := mF ad (wA v 0 0 0)) (v := .ref (ad 97)) (C := RX13) (T := TX13) (N := 124) hx hb ht itX13 hown hK hP 0 rfl rfl 97 (by decide) (ht _ tw_209) (fun _ h9 => h9) rfl dX13_set_46 ?_
          refine lv_iload_n hx hb dX13_set_49 rfl (lv_at hl 1 rfl) ?_
          refine lv_iload_n hx hb dX13_set_50 rfl (lv_at hl 2 rfl) ?_
          refine va_iast (D := (dC, dI)) (f := (v.1 97)) hx hb hK hP hD hS 53 0 rfl rfl (in_y (a := pa.toInt) (b := 32) rfl (om_b3bcb1a033 z12) (om_b7cf7a2d9e z6 z9) rfl) dX13_set_51 (fun H locs hP hD hS => ?_)
          have hP := cP_ (ma_97 ad N cI cZ cJ (wA v 0 0 0) pa.toNatClampNeg pb) hP
          have hD := cD_ (ma_97 ad N cI cZ cJ (wA v 0 0 0) pa.toNatClampNeg pb) hD
          refine lv_aload_n hx hb dX13_set_52 rfl (lv_at hl 0 rfl) ?_
          refine lv_iconst (v := 0) hx hb dX13_set_53 (by decide) ?_
          refine va_put (D := (dC, dI)) (ci := 16) (fs := mF ad (wA (wA v 0 0 0) 97 pa.toNatClampNeg pb)) (v := .int 0) (ty := .int) (C := RX13) (T := TX13) (N := 124) hx hb ht itX13 tyX13 tyX13_ok nmX13 hown hK hP hD hS 0 rfl rfl 99 (by decide) (ht _ tw_210) (fun _ h9 => h9) rfl (by decide +kernel) rfl rfl (Nat.le_of_ble_eq_true rfl) dX13_set_54 (fun H locs hP hD hS => ?_)
          have hP := cP_ (mw_99 ad N cI cZ cJ (wA (wA v 0 0 0) 97 pa.toNatClampNeg pb) 0) hP
          have hD := cD_ (mw_99 ad N cI cZ cJ (wA (wA v 0 0 0) 97 pa.toNatClampNeg pb) 0) hD
          exact W.vret hx hb hr (fun t ht9 hW => ⟨⟨(wA (wA (wA v 0 0 0) 97 pa.toNatClampNeg pb) 0 99 0), rfl, ⟨(FG.f (FG.a (FG.f (FG.rf _) 0 (by decide)) pa.toNatClampNeg pb (by decide) (by decide)) 0 (by decide)), (show ((0 : Int) = 0 ∧ (0 ≤ pa.toInt ∧ pa.toInt ≤ 32)) ∨ ((0 : Int) = 1 ∧ (pa.toInt < 0 ∨ 32 < pa.toInt)) from (om_774de9fbe2 z6 z12))⟩, by rw [ht9]; exact hP, hD⟩, hS.F ht9⟩) hS.2.2 dX13_set_57
      · have z13 : pa.toInt = (32 : Int) := eq_z rfl (show (32 : Int32).toInt = (32 : Int) by decide) h8
        refine lv_aload_n hx hb dX13_set_33 rfl (lv_at hl 0 rfl) ?_
        refine lv_iload_n hx hb dX13_set_34 rfl (lv_at hl 2 rfl) ?_
        refine va_put (D := (dC, dI)) (ci := 16) (fs := mF ad (wA v 0 0 0)) (v := .int pb) (ty := .int) (C := RX13) (T := TX13) (N := 124) hx hb ht itX13 tyX13 tyX13_ok nmX13 hown hK hP hD hS 0 rfl rfl 98 (by decide) (ht _ tw_208) (fun _ h9 => h9) rfl (by decide +kernel) rfl rfl (Nat.le_of_ble_eq_true rfl) dX13_set_35 (fun H locs hP hD hS => ?_)
        have hP := cP_ (mw_98 ad N cI cZ cJ (wA v 0 0 0) pb) hP
        have hD := cD_ (mw_98 ad N cI cZ cJ (wA v 0 0 0) pb) hD
        refine lv_goto (tgt := 52) hx hb dX13_set_38 (by decide) ?_
        refine lv_aload_n hx hb dX13_set_52 rfl (lv_at hl 0 rfl) ?_
        refine lv_iconst (v := 0) hx hb dX13_set_53 (by decide) ?_
        refine va_put (D := (dC, dI)) (ci := 16) (fs := mF ad (wA (wA v 0 0 0) 0 98 pb)) (v := .int 0) (ty := .int) (C := RX13) (T := TX13) (N := 124) hx hb ht itX13 tyX13 tyX13_ok nmX13 hown hK hP hD hS 0 rfl rfl 99 (by decide) (ht _ tw_210) (fun _ h9 => h9) rfl (by decide +kernel) rfl rfl (Nat.le_of_ble_eq_true rfl) dX13_set_54 (fun H locs hP hD hS => ?_)
        have hP := cP_ (mw_99 ad N cI cZ cJ (wA (wA v 0 0 0) 0 98 pb) 0) hP
        have hD := cD_ (mw_99 ad N cI cZ cJ (wA (wA v 0 0 0) 0 98 pb) 0) hD
        exact W.vret hx hb hr (fun t ht9 hW => ⟨⟨(wA (wA (wA v 0 0 0) 0 98 pb) 0 99 0), rfl, ⟨(FG.f (FG.f (FG.f (FG.rf _) 0 (by decide)) pb (by decide)) 0 (by decide)), (show ((0 : Int) = 0 ∧ (0 ≤ pa.toInt ∧ pa.toInt ≤ 32)) ∨ ((0 : Int) = 1 ∧ (pa.toInt < 0 ∨ 32 < pa.toInt)) from (om_a542f5212e z6 z13))⟩, by rw [ht9]; exact hP, hD⟩, hS.F ht9⟩) hS.2.2 dX13_set_57
    · have z14 : (32 : Int) < pa.toInt := nle_z rfl (show (32 : Int32).toInt = (32 : Int) by decide) h5
      refine lv_iconst (v := 1) hx hb dX13_set_11 (by decide) ?_
      refine lv_goto (tgt := 16) hx hb dX13_set_12 (by decide) ?_
      refine va_put (D := (dC, dI)) (ci := 16) (fs := mF ad v) (v := .int 1) (ty := .int) (C := RX13) (T := TX13) (N := 124) hx hb ht itX13 tyX13 tyX13_ok nmX13 hown hK hP hD hS 0 rfl rfl 0 (by decide) (ht _ tw_246) (fun _ h9 => h9) rfl (by decide +kernel) rfl rfl (Nat.le_of_ble_eq_true rfl) dX13_set_16 (fun H locs hP hD hS => ?_)
      have hP := cP_ (mw_0 ad N cI cZ cJ v 1) hP
      have hD := cD_ (mw_0 ad N cI cZ cJ v 1) hD
      refine lv_aload_n hx hb dX13_set_19 rfl (lv_at hl 0 rfl) ?_
      refine va_get (D := (dC, dI)) (ci := 16) (fs := mF ad (wA v 0 0 1)) (v := .int 1) (C := RX13) (T := TX13) (N := 124) hx hb ht itX13 hown hK hP 0 rfl rfl 0 (by decide) (ht _ tw_246) (fun _ h9 => h9) rfl dX13_set_20 ?_
      refine lv_if_le (tgt := 27) hx hb dX13_set_23 (by decide) (fun k15 => absurd k15 (by decide)) (fun _ => ?_)
      exact W.vret hx hb hr (fun t ht9 hW => ⟨⟨(wA v 0 0 1), rfl, ⟨(FG.f (FG.rf _) 1 (by decide)), (show ((1 : Int) = 0 ∧ (0 ≤ pa.toInt ∧ pa.toInt ≤ 32)) ∨ ((1 : Int) = 1 ∧ (pa.toInt < 0 ∨ 32 < pa.toInt)) from (om_c91b067169 z14))⟩, by rw [ht9]; exact hP, hD⟩, hS.F ht9⟩) hS.2.2 dX13_set_26
theorem om_87218cb89f {x0 : Int} : (x0 = x0) := by omega
set_option maxHeartbeats 4000000 in
set_option maxRecDepth 100000 in
theorem c_m_thrown (l : Launch) (dC : Nat → ClassId) (dI : Nat → Nat → Nat) (cI cB cZ cJ cR : ClassId) (tb : Nat → Nat) (sz : Nat) (ad : Nat → Nat) (N : Nat) (v : MS)   : Met l yX13_thrown (Cond.code yX13_thrown cX13_thrown 1 (some .int) :: tw_W) ({ frames := 0, cells := 0, slots := 0, locals := 0 }) (pc_ (dC, dI) (tyS cI cB cZ cJ cR) tb (mW ad N cI cZ cJ v) sz [.ref (ad 0)]) (qi_ (dC, dI) (mW ad N cI cZ cJ v) sz (fun (r : Int32) (u : MS) => v = u ∧ (r.toInt = (v.1 0 0).toInt)) (fun (u : MS) => (mW ad N cI cZ cJ u))) 0 0 (va_A (mW ad N cI cZ cJ v) sz) := by
  refine Met.ofW (cc := cX13_thrown) (maxL := 1) (ret := (some .int)) (by decide) rfl ?_
  intro p e s m args below meth c s₁ B hml hv
  obtain ⟨rfl, hsz, hP, hKK, hD0, hFx⟩ := hv
  have hK := hKK.1
  have hx := B.exec
  have hb := B.bytes
  have hr := B.returns
  have ht : ∀ w ∈ tw_W, w.before _ s = true := fun w h => atoms_spec (ws := Cond.code yX13_thrown cX13_thrown 1 (some .int) :: tw_W) B.pre w (List.mem_cons_of_mem _ h)
  have hown : s.vm.findClass RX13 = some m.cls := findClass_of_methodNamed B.named
  have hlocks := B.notSynchronized
  subst hsz
  unfold qi_
  have hD := hD0.self (sz := s.heap.size)
  generalize hAe : va_A (mW ad N cI cZ cJ v) s.heap.size = A at hD hFx ⊢
  have hA : ∀ q : Nat, s.heap.size ≤ q → A q := fun q h => by rw [← hAe]; exact Or.inr h
  have hS : va_S A s.heap s.heap [] := va_S.rf
  have hl := lv_entry ([.ref (ad 0)]) (n := 1) (Nat.le_of_ble_eq_true rfl)
  rw [lg_entry_eq]
  generalize (lg_sl ([.ref (ad 0)]) ++ List.replicate (1 - (lg_sl ([.ref (ad 0)])).length) Slot.unset).toArray = ls at hl ⊢
  have hl : lv_has ls 1 [(0, .ref (ad 0))] := hl
  refine lv_aload_n hx hb ydX13_thrown_0 rfl (lv_at hl 0 rfl) ?_
  refine va_get (D := (dC, dI)) (ci := 16) (fs := mF ad v) (v := .int (v.1 0 0)) (C := RX13) (T := TX13) (N := 124) hx hb ht itX13 hown hK hP 0 rfl rfl 0 (by decide) (ht _ tw_246) (fun _ h9 => h9) rfl ydX13_thrown_1 ?_
  exact W.iret (v := (v.1 0 0)) hx hb hr (fun t ht9 hW => ⟨⟨(v.1 0 0), v, rfl, ⟨rfl, om_87218cb89f⟩, by rw [ht9]; exact hP, hD⟩, hS.F ht9⟩) hS.2.2 ydX13_thrown_4
/-- the reference's tape, fed -/
theorem MT.fd {z : ZG} {v u : MS} {tz : Int} {pa pb pc1 pd pe r : Int32} (h : ∀ p : Nat, (p : Int) < tz → v.1 1 p = z.tb p) (ht : (v.1 0 2).toInt = tz) (h0 : 0 ≤ (v.1 0 2).toInt) (hq : Q_m_feed v pa pb pc1 pd pe r u) (p : Nat) (hp : (p : Int) < (u.1 0 2).toInt) : u.1 1 p = (z.fd tz pa pb pc1 pd pe).tb p := by
  have q := mFeed (L := tz.toNat) (by omega) hq
  show _ = (if tz + 20 ≤ 4000 then fd5 z.tb tz.toNat pa pb pc1 pd pe else z.tb) p
  rcases q with ⟨q1, q2, q3⟩ | ⟨q1, q2, q3⟩
  · rw [if_pos (by omega), q3]
    have w0 : ∀ p, p < tz.toNat → v.1 1 p = z.tb p := fun p hp => h p (by omega)
    exact wrj_ag (wrj_ag (wrj_ag (wrj_ag (wrj_ag w0)))) p (by omega)
  · rw [if_neg (by omega), q3]
    exact h p (by rw [q2] at hp; omega)
set_option maxHeartbeats 4000000 in
set_option maxRecDepth 100000 in
theorem rl_feed (l : Launch) (dC : Nat → ClassId) (dI : Nat → Nat → Nat) (cI cB cZ cJ cR : ClassId) (tb : Nat → Nat) (sz m0 N : Nat) (B : Int) (U : va_W) (hN1 : 256 ≤ N) (hN2 : N ≤ 4096) (hB0 : 0 ≤ B) (hB : B + 50000 ≤ 200000000) (tz gz : Int) (xz : ZG) (hU : MIW N B m0 cI cZ cJ tz gz xz U) (pa : Int32) (pb : Int32) (pc1 : Int32) (pd : Int32) (pe : Int32) : Met l yX13_feed (Cond.code yX13_feed cX13_feed 6 (some .boolean) :: tw_W) ({ frames := 1, cells := 0, slots := 0, locals := 22 }) (pc_ (dC, dI) (tyS cI cB cZ cJ cR) tb U sz [.ref m0, .int pa, .int pb, .int pc1, .int pd, .int pe]) (qi_ (dC, dI) U sz (fun (r : Int32) (u : va_W) => ∃ t2 g2 : Int, MIW N (B + 50000) m0 cI cZ cJ t2 g2 (xz.fd tz pa pb pc1 pd pe) u ∧ ((tz + 20 ≤ 4000 ∧ t2 = tz + 20 ∧ r.toInt = 1) ∨ (4000 < tz + 20 ∧ t2 = tz ∧ r.toInt = 0)) ∧ g2 = gz) (fun (u : va_W) => u)) 0 0 (va_A U sz) := by
  obtain ⟨ad, v, hpm, rfl, hR, hot, hog, hox⟩ := hU
  have hR0 := hR
  obtain ⟨zta, zb, zg, zu, zp, zsm, ⟨a16, a17, a18, a19, a20, a21, a23, a24, a25, a29, a35, a37, a38, a40, fx⟩, a7, a8, ⟨a78, a79, a80, a81, a82, a83, a84, a85, a86, a87, a88⟩, bg, bf⟩ := hR
  refine Met.lift_i (R := []) _ (List.Perm.trans hpm (p_nil _)) (c_m_feed l dC dI cI cB cZ cJ cR tb sz ad N v pa pb pc1 pd pe (by omega)) (fun r u hpo => ?_)
  rw [List.append_nil]
  obtain ⟨fr, ex, p1, hpr⟩ := hpo
  have e94 : (u.1 0 94).toInt = (v.1 0 94).toInt := congrArg Int32.toInt (fr.2.1 94 (by decide))
  have e95 : (u.1 0 95).toInt = (v.1 0 95).toInt := congrArg Int32.toInt (fr.2.1 95 (by decide))
  have e102 : (u.1 0 102).toInt = (v.1 0 102).toInt := congrArg Int32.toInt (fr.2.1 102 (by decide))
  have e104 : (u.1 0 104).toInt = (v.1 0 104).toInt := congrArg Int32.toInt (fr.2.1 104 (by decide))
  exact ⟨(u.1 0 2).toInt, (u.1 0 94).toInt, ⟨ad, u, List.Perm.refl _, rfl, RI.fr hR0 (FG.h fr) (by decide) (by decide) (by omega) (by omega) (by omega) (by omega) (by omega), rfl, rfl, ⟨(by rw [fr.2.2 103 (by decide), fr.2.1 104 (by decide)]; exact hox.1), MT.fd hox.2.1 hot zta.1 ex, (hox.2.2.1.fr (fun k hk => fr.2.1 k (by revert k; decide)) (fun a ha => fr.2.2 a (by revert a; decide))), (hox.2.2.2.fr (by omega) (fun k hk => fr.2.1 k (by revert k; decide)) (fun a ha => fr.2.2 a (by revert a; decide)))⟩⟩, by omega⟩
set_option maxHeartbeats 4000000 in
set_option maxRecDepth 100000 in
theorem rl_end (l : Launch) (dC : Nat → ClassId) (dI : Nat → Nat → Nat) (cI cB cZ cJ cR : ClassId) (tb : Nat → Nat) (sz m0 N : Nat) (B : Int) (U : va_W) (hN1 : 256 ≤ N) (hN2 : N ≤ 4096) (hB0 : 0 ≤ B) (hB : B + 50000 ≤ 200000000) (tz gz : Int) (xz : ZG) (hU : MIW N B m0 cI cZ cJ tz gz xz U) (pa : Int32) : Met l yX13_end (Cond.code yX13_end cX13_end 2 (some .boolean) :: tw_W) ({ frames := 0, cells := 0, slots := 0, locals := 0 }) (pc_ (dC, dI) (tyS cI cB cZ cJ cR) tb U sz [.ref m0, .int pa]) (qi_ (dC, dI) U sz (fun (r : Int32) (u : va_W) => ∃ t2 g2 : Int, MIW N (B + 50000) m0 cI cZ cJ t2 g2 xz u ∧ (((0 ≤ pa.toInt ∧ pa.toInt ≤ tz) ∧ t2 = pa.toInt ∧ r.toInt = 1) ∨ ((pa.toInt < 0 ∨ tz < pa.toInt) ∧ t2 = tz ∧ r.toInt = 0)) ∧ g2 = gz) (fun (u : va_W) => u)) 0 0 (va_A U sz) := by
  obtain ⟨ad, v, hpm, rfl, hR, hot, hog, hox⟩ := hU
  have hR0 := hR
  obtain ⟨zta, zb, zg, zu, zp, zsm, ⟨a16, a17, a18, a19, a20, a21, a23, a24, a25, a29, a35, a37, a38, a40, fx⟩, a7, a8, ⟨a78, a79, a80, a81, a82, a83, a84, a85, a86, a87, a88⟩, bg, bf⟩ := hR
  refine Met.lift_i (R := []) _ (List.Perm.trans hpm (p_nil _)) (c_m_end l dC dI cI cB cZ cJ cR tb sz ad N v pa (by omega)) (fun r u hpo => ?_)
  rw [List.append_nil]
  obtain ⟨fr, ex, p1, hpr⟩ := hpo
  have e94 : (u.1 0 94).toInt = (v.1 0 94).toInt := congrArg Int32.toInt (fr.2.1 94 (by decide))
  have e95 : (u.1 0 95).toInt = (v.1 0 95).toInt := congrArg Int32.toInt (fr.2.1 95 (by decide))
  have e102 : (u.1 0 102).toInt = (v.1 0 102).toInt := congrArg Int32.toInt (fr.2.1 102 (by decide))
  have e104 : (u.1 0 104).toInt = (v.1 0 104).toInt := congrArg Int32.toInt (fr.2.1 104 (by decide))
  exact ⟨(u.1 0 2).toInt, (u.1 0 94).toInt, ⟨ad, u, List.Perm.refl _, rfl, RI.fr hR0 (FG.h fr) (by decide) (by decide) (by omega) (by omega) (by omega) (by omega) (by omega), rfl, rfl, ⟨(by rw [fr.2.2 103 (by decide), fr.2.1 104 (by decide)]; exact hox.1), fun p9 hp9 => (congrFun (fr.2.2 1 (by decide)) p9).trans (hox.2.1 p9 (by omega)), (hox.2.2.1.fr (fun k hk => fr.2.1 k (by revert k; decide)) (fun a ha => fr.2.2 a (by revert a; decide))), (hox.2.2.2.fr (by omega) (fun k hk => fr.2.1 k (by revert k; decide)) (fun a ha => fr.2.2 a (by revert a; decide)))⟩⟩, by omega⟩
set_option maxHeartbeats 4000000 in
set_option maxRecDepth 100000 in
theorem rl_load (l : Launch) (dC : Nat → ClassId) (dI : Nat → Nat → Nat) (cI cB cZ cJ cR : ClassId) (tb : Nat → Nat) (sz m0 N : Nat) (B : Int) (U : va_W) (hN1 : 256 ≤ N) (hN2 : N ≤ 4096) (hB0 : 0 ≤ B) (hB : B + 50000 ≤ 200000000) (tz gz : Int) (xz : ZG) (hU : MIW N B m0 cI cZ cJ tz gz xz U)  : Met l yX13_load (Cond.codeWith yX13_load cX13_load 2 (some .int) [(60, 68, 71, 513)] :: tw_W) ({ frames := 1666, cells := 0, slots := 0, locals := 28 * (1666) }) (pc_ (dC, dI) (tyS cI cB cZ cJ cR) tb U sz [.ref m0]) (qi_ (dC, dI) U sz (fun (r : Int32) (u : va_W) => ∃ (t2 g2 : Int), (t2 = 0 ∧ g2 = gz) ∧ ZLM N tz xz r (fun z2 : ZG => MIW N (B + 50000) m0 cI cZ cJ t2 g2 z2 u)) (fun (u : va_W) => u)) 0 0 (va_A U sz) := by
  obtain ⟨ad, v, hpm, rfl, hR, hot, hog, hox⟩ := hU
  have hR0 := hR
  obtain ⟨zta, zb, zg, zu, zp, zsm, ⟨a16, a17, a18, a19, a20, a21, a23, a24, a25, a29, a35, a37, a38, a40, fx⟩, a7, a8, ⟨a78, a79, a80, a81, a82, a83, a84, a85, a86, a87, a88⟩, bg, bf⟩ := hR
  refine Met.lift_i (R := []) _ (List.Perm.trans hpm (p_nil _)) (c_m_load l dC dI cI cB cZ cJ cR tb sz ad N v  (by omega) (by omega) (by omega) bg bf a16 a17 a18 a19 a20 a21 a23 a24 a25 a29 a35 a37 a38 a40 a7 a8 a78 a79 a80 a81 a82 a83 a84 a85 a86 a87 a88 fx) (fun r u hpo => ?_)
  rw [List.append_nil]
  obtain ⟨fr, ex, p2, pb, bg, bf, a16, a17, a18, a19, a20, a21, a23, a24, a25, a29, a35, a37, a38, a40, a7, a8, a78, a79, a80, a81, a82, a83, a84, a85, a86, a87, a88, fx⟩ := hpo
  have e94 : (u.1 0 94).toInt = (v.1 0 94).toInt := congrArg Int32.toInt (fr.2.1 94 (by decide))
  have e95 : (u.1 0 95).toInt = (v.1 0 95).toInt := congrArg Int32.toInt (fr.2.1 95 (by decide))
  have e102 : (u.1 0 102).toInt = (v.1 0 102).toInt := congrArg Int32.toInt (fr.2.1 102 (by decide))
  have e104 : (u.1 0 104).toInt = (v.1 0 104).toInt := congrArg Int32.toInt (fr.2.1 104 (by decide))
  exact ⟨(u.1 0 2).toInt, (u.1 0 94).toInt, ⟨by omega, by omega⟩, v, u, hot, hox.2.1, ex, ⟨bg, bf⟩, fun c9 hg9 ht9 => ⟨ad, u, List.Perm.refl _, rfl, RI.mk ⟨p2.1, by omega⟩ pb (by omega) (by omega) (by omega) (by omega) a16 a17 a18 a19 a20 a21 a23 a24 a25 a29 a35 a37 a38 a40 fx a7 a8 a78 a79 a80 a81 a82 a83 a84 a85 a86 a87 a88 bg bf, rfl, rfl, ⟨(by rw [fr.2.2 103 (by decide), fr.2.1 104 (by decide)]; exact hox.1), fun p9 hp9 => (congrFun (fr.2.2 1 (by decide)) p9).trans (hox.2.1 p9 (by omega)), MD.go hox.2.2.1 ex hg9 ht9, (by rw [show (u.1 0 94).toInt = gz by omega]; exact MEz.go hox.2.2.2 ex (fr.2.2 93 (by decide)))⟩⟩⟩
set_option maxHeartbeats 4000000 in
set_option maxRecDepth 100000 in
theorem rl_fault (l : Launch) (dC : Nat → ClassId) (dI : Nat → Nat → Nat) (cI cB cZ cJ cR : ClassId) (tb : Nat → Nat) (sz m0 N : Nat) (B : Int) (U : va_W) (hN1 : 256 ≤ N) (hN2 : N ≤ 4096) (hB0 : 0 ≤ B) (hB : B + 50000 ≤ 200000000) (tz gz : Int) (xz : ZG) (hU : MIW N B m0 cI cZ cJ tz gz xz U) (pa : Int32) : Met l yX13_fault (Cond.code yX13_fault cX13_fault 2 (some .int) :: tw_W) ({ frames := 0, cells := 0, slots := 0, locals := 0 }) (pc_ (dC, dI) (tyS cI cB cZ cJ cR) tb U sz [.ref m0, .int pa]) (qi_ (dC, dI) U sz (fun (r : Int32) (u : va_W) => MIW N (B + 50000) m0 cI cZ cJ tz gz xz u ∧ r.toInt = (faA xz.fa xz.fp pa).toInt) (fun (u : va_W) => u)) 0 0 (va_A U sz) := by
  obtain ⟨ad, v, hpm, rfl, hR, hot, hog, hox⟩ := hU
  have hR0 := hR
  obtain ⟨zta, zb, zg, zu, zp, zsm, ⟨a16, a17, a18, a19, a20, a21, a23, a24, a25, a29, a35, a37, a38, a40, fx⟩, a7, a8, ⟨a78, a79, a80, a81, a82, a83, a84, a85, a86, a87, a88⟩, bg, bf⟩ := hR
  refine Met.lift_i (R := []) _ (List.Perm.trans hpm (p_nil _)) (c_m_fault l dC dI cI cB cZ cJ cR tb sz ad N v pa ) (fun r u hpo => ?_)
  rw [List.append_nil]
  obtain ⟨fr, ex⟩ := hpo
  have e2 : (u.1 0 2).toInt = (v.1 0 2).toInt := congrArg Int32.toInt (fr.2.1 2 (by decide))
  have e94 : (u.1 0 94).toInt = (v.1 0 94).toInt := congrArg Int32.toInt (fr.2.1 94 (by decide))
  have e95 : (u.1 0 95).toInt = (v.1 0 95).toInt := congrArg Int32.toInt (fr.2.1 95 (by decide))
  have e102 : (u.1 0 102).toInt = (v.1 0 102).toInt := congrArg Int32.toInt (fr.2.1 102 (by decide))
  have e104 : (u.1 0 104).toInt = (v.1 0 104).toInt := congrArg Int32.toInt (fr.2.1 104 (by decide))
  exact ⟨⟨ad, u, List.Perm.refl _, rfl, RI.fr hR0 (FG.h fr) (by decide) (by decide) (by omega) (by omega) (by omega) (by omega) (by omega), e2.trans hot, e94.trans hog, ⟨(by rw [fr.2.2 103 (by decide), fr.2.1 104 (by decide)]; exact hox.1), fun p9 hp9 => (congrFun (fr.2.2 1 (by decide)) p9).trans (hox.2.1 p9 (by omega)), (hox.2.2.1.fr (fun k hk => fr.2.1 k (by revert k; decide)) (fun a ha => fr.2.2 a (by revert a; decide))), (hox.2.2.2.fr (Int.le_refl _) (fun k hk => fr.2.1 k (by revert k; decide)) (fun a ha => fr.2.2 a (by revert a; decide)))⟩⟩, congrArg Int32.toInt (mdFault hox.2.2.1 ex)⟩
set_option maxHeartbeats 4000000 in
set_option maxRecDepth 100000 in
theorem rl_function (l : Launch) (dC : Nat → ClassId) (dI : Nat → Nat → Nat) (cI cB cZ cJ cR : ClassId) (tb : Nat → Nat) (sz m0 N : Nat) (B : Int) (U : va_W) (hN1 : 256 ≤ N) (hN2 : N ≤ 4096) (hB0 : 0 ≤ B) (hB : B + 50000 ≤ 200000000) (tz gz : Int) (xz : ZG) (hU : MIW N B m0 cI cZ cJ tz gz xz U) (pa : Int32) (pb : Int32) : Met l yX13_function (Cond.code yX13_function cX13_function 3 (some .int) :: tw_W) ({ frames := 0, cells := 0, slots := 0, locals := 0 }) (pc_ (dC, dI) (tyS cI cB cZ cJ cR) tb U sz [.ref m0, .int pa, .int pb]) (qi_ (dC, dI) U sz (fun (r : Int32) (u : va_W) => MIW N (B + 50000) m0 cI cZ cJ tz gz xz u ∧ r.toInt = (fcA (dnf xz.dt) (dft xz.dt) pa pb).toInt) (fun (u : va_W) => u)) 0 0 (va_A U sz) := by
  obtain ⟨ad, v, hpm, rfl, hR, hot, hog, hox⟩ := hU
  have hR0 := hR
  obtain ⟨zta, zb, zg, zu, zp, zsm, ⟨a16, a17, a18, a19, a20, a21, a23, a24, a25, a29, a35, a37, a38, a40, fx⟩, a7, a8, ⟨a78, a79, a80, a81, a82, a83, a84, a85, a86, a87, a88⟩, bg, bf⟩ := hR
  refine Met.lift_i (R := []) _ (List.Perm.trans hpm (p_nil _)) (c_m_function l dC dI cI cB cZ cJ cR tb sz ad N v pa pb (by omega)) (fun r u hpo => ?_)
  rw [List.append_nil]
  obtain ⟨fr, ex⟩ := hpo
  have e2 : (u.1 0 2).toInt = (v.1 0 2).toInt := congrArg Int32.toInt (fr.2.1 2 (by decide))
  have e94 : (u.1 0 94).toInt = (v.1 0 94).toInt := congrArg Int32.toInt (fr.2.1 94 (by decide))
  have e95 : (u.1 0 95).toInt = (v.1 0 95).toInt := congrArg Int32.toInt (fr.2.1 95 (by decide))
  have e102 : (u.1 0 102).toInt = (v.1 0 102).toInt := congrArg Int32.toInt (fr.2.1 102 (by decide))
  have e104 : (u.1 0 104).toInt = (v.1 0 104).toInt := congrArg Int32.toInt (fr.2.1 104 (by decide))
  exact ⟨⟨ad, u, List.Perm.refl _, rfl, RI.fr hR0 (FG.h fr) (by decide) (by decide) (by omega) (by omega) (by omega) (by omega) (by omega), e2.trans hot, e94.trans hog, ⟨(by rw [fr.2.2 103 (by decide), fr.2.1 104 (by decide)]; exact hox.1), fun p9 hp9 => (congrFun (fr.2.2 1 (by decide)) p9).trans (hox.2.1 p9 (by omega)), (hox.2.2.1.fr (fun k hk => fr.2.1 k (by revert k; decide)) (fun a ha => fr.2.2 a (by revert a; decide))), (hox.2.2.2.fr (Int.le_refl _) (fun k hk => fr.2.1 k (by revert k; decide)) (fun a ha => fr.2.2 a (by revert a; decide)))⟩⟩, congrArg Int32.toInt (mdFun hox.2.2.1 ex)⟩
set_option maxHeartbeats 4000000 in
set_option maxRecDepth 100000 in
theorem rl_global (l : Launch) (dC : Nat → ClassId) (dI : Nat → Nat → Nat) (cI cB cZ cJ cR : ClassId) (tb : Nat → Nat) (sz m0 N : Nat) (B : Int) (U : va_W) (hN1 : 256 ≤ N) (hN2 : N ≤ 4096) (hB0 : 0 ≤ B) (hB : B + 50000 ≤ 200000000) (tz gz : Int) (xz : ZG) (hU : MIW N B m0 cI cZ cJ tz gz xz U) (pa : Int32) (pb : Int32) : Met l yX13_global (Cond.code yX13_global cX13_global 3 (some .int) :: tw_W) ({ frames := 0, cells := 0, slots := 0, locals := 0 }) (pc_ (dC, dI) (tyS cI cB cZ cJ cR) tb U sz [.ref m0, .int pa, .int pb]) (qi_ (dC, dI) U sz (fun (r : Int32) (u : va_W) => MIW N (B + 50000) m0 cI cZ cJ tz gz xz u ∧ r.toInt = (fcA (dng xz.dt) (dgl xz.dt) pa pb).toInt) (fun (u : va_W) => u)) 0 0 (va_A U sz) := by
  obtain ⟨ad, v, hpm, rfl, hR, hot, hog, hox⟩ := hU
  have hR0 := hR
  obtain ⟨zta, zb, zg, zu, zp, zsm, ⟨a16, a17, a18, a19, a20, a21, a23, a24, a25, a29, a35, a37, a38, a40, fx⟩, a7, a8, ⟨a78, a79, a80, a81, a82, a83, a84, a85, a86, a87, a88⟩, bg, bf⟩ := hR
  refine Met.lift_i (R := []) _ (List.Perm.trans hpm (p_nil _)) (c_m_global l dC dI cI cB cZ cJ cR tb sz ad N v pa pb (by omega)) (fun r u hpo => ?_)
  rw [List.append_nil]
  obtain ⟨fr, ex⟩ := hpo
  have e2 : (u.1 0 2).toInt = (v.1 0 2).toInt := congrArg Int32.toInt (fr.2.1 2 (by decide))
  have e94 : (u.1 0 94).toInt = (v.1 0 94).toInt := congrArg Int32.toInt (fr.2.1 94 (by decide))
  have e95 : (u.1 0 95).toInt = (v.1 0 95).toInt := congrArg Int32.toInt (fr.2.1 95 (by decide))
  have e102 : (u.1 0 102).toInt = (v.1 0 102).toInt := congrArg Int32.toInt (fr.2.1 102 (by decide))
  have e104 : (u.1 0 104).toInt = (v.1 0 104).toInt := congrArg Int32.toInt (fr.2.1 104 (by decide))
  exact ⟨⟨ad, u, List.Perm.refl _, rfl, RI.fr hR0 (FG.h fr) (by decide) (by decide) (by omega) (by omega) (by omega) (by omega) (by omega), e2.trans hot, e94.trans hog, ⟨(by rw [fr.2.2 103 (by decide), fr.2.1 104 (by decide)]; exact hox.1), fun p9 hp9 => (congrFun (fr.2.2 1 (by decide)) p9).trans (hox.2.1 p9 (by omega)), (hox.2.2.1.fr (fun k hk => fr.2.1 k (by revert k; decide)) (fun a ha => fr.2.2 a (by revert a; decide))), (hox.2.2.2.fr (Int.le_refl _) (fun k hk => fr.2.1 k (by revert k; decide)) (fun a ha => fr.2.2 a (by revert a; decide)))⟩⟩, congrArg Int32.toInt (mdGlob hox.2.2.1 ex)⟩
set_option maxHeartbeats 4000000 in
set_option maxRecDepth 100000 in
theorem rl_give (l : Launch) (dC : Nat → ClassId) (dI : Nat → Nat → Nat) (cI cB cZ cJ cR : ClassId) (tb : Nat → Nat) (sz m0 N : Nat) (B : Int) (U : va_W) (hN1 : 256 ≤ N) (hN2 : N ≤ 4096) (hB0 : 0 ≤ B) (hB : B + 50000 ≤ 200000000) (tz gz : Int) (xz : ZG) (hU : MIW N B m0 cI cZ cJ tz gz xz U) (pa : Int32) : Met l yX13_give (Cond.code yX13_give cX13_give 2 (some .int) :: tw_W) ({ frames := 0, cells := 0, slots := 0, locals := 0 }) (pc_ (dC, dI) (tyS cI cB cZ cJ cR) tb U sz [.ref m0, .int pa]) (qi_ (dC, dI) U sz (fun (r : Int32) (u : va_W) => ∃ t2 g2 : Int, MIW N (B + 50000) m0 cI cZ cJ t2 g2 (xz.gi gz pa) u ∧ ((gz < 64 ∧ g2 = gz + 1 ∧ r.toInt = gz + 1) ∨ (gz = 64 ∧ g2 = gz ∧ r.toInt = -1)) ∧ t2 = tz) (fun (u : va_W) => u)) 0 0 (va_A U sz) := by
  obtain ⟨ad, v, hpm, rfl, hR, hot, hog, hox⟩ := hU
  have hR0 := hR
  obtain ⟨zta, zb, zg, zu, zp, zsm, ⟨a16, a17, a18, a19, a20, a21, a23, a24, a25, a29, a35, a37, a38, a40, fx⟩, a7, a8, ⟨a78, a79, a80, a81, a82, a83, a84, a85, a86, a87, a88⟩, bg, bf⟩ := hR
  refine Met.lift_i (R := []) _ (List.Perm.trans hpm (p_nil _)) (c_m_give l dC dI cI cB cZ cJ cR tb sz ad N v pa (by omega)) (fun r u hpo => ?_)
  rw [List.append_nil]
  obtain ⟨fr, ex, p1, hpr⟩ := hpo
  have e2 : (u.1 0 2).toInt = (v.1 0 2).toInt := congrArg Int32.toInt (fr.2.1 2 (by decide))
  have e95 : (u.1 0 95).toInt = (v.1 0 95).toInt := congrArg Int32.toInt (fr.2.1 95 (by decide))
  have e102 : (u.1 0 102).toInt = (v.1 0 102).toInt := congrArg Int32.toInt (fr.2.1 102 (by decide))
  have e104 : (u.1 0 104).toInt = (v.1 0 104).toInt := congrArg Int32.toInt (fr.2.1 104 (by decide))
  exact ⟨(u.1 0 2).toInt, (u.1 0 94).toInt, ⟨ad, u, List.Perm.refl _, rfl, RI.fr hR0 (FG.h fr) (by decide) (by decide) (by omega) (by omega) (by omega) (by omega) (by omega), rfl, rfl, ⟨(by rw [fr.2.2 103 (by decide), fr.2.1 104 (by decide)]; exact hox.1), fun p9 hp9 => (congrFun (fr.2.2 1 (by decide)) p9).trans (hox.2.1 p9 (by omega)), (hox.2.2.1.fr (fun k hk => fr.2.1 k (by revert k; decide)) (fun a ha => fr.2.2 a (by revert a; decide))), MEz.gi hox.2.2.2 hog zg.1 ex⟩⟩, by omega⟩
set_option maxHeartbeats 4000000 in
set_option maxRecDepth 100000 in
theorem rl_forget (l : Launch) (dC : Nat → ClassId) (dI : Nat → Nat → Nat) (cI cB cZ cJ cR : ClassId) (tb : Nat → Nat) (sz m0 N : Nat) (B : Int) (U : va_W) (hN1 : 256 ≤ N) (hN2 : N ≤ 4096) (hB0 : 0 ≤ B) (hB : B + 50000 ≤ 200000000) (tz gz : Int) (xz : ZG) (hU : MIW N B m0 cI cZ cJ tz gz xz U)  : Met l yX13_forget (Cond.code yX13_forget cX13_forget 2 (some .int) :: tw_W) ({ frames := 0, cells := 0, slots := 0, locals := 0 }) (pc_ (dC, dI) (tyS cI cB cZ cJ cR) tb U sz [.ref m0]) (qi_ (dC, dI) U sz (fun (r : Int32) (u : va_W) => ∃ t2 g2 : Int, MIW N (B + 50000) m0 cI cZ cJ t2 g2 xz u ∧ g2 = 0 ∧ r.toInt = gz ∧ t2 = tz) (fun (u : va_W) => u)) 0 0 (va_A U sz) := by
  obtain ⟨ad, v, hpm, rfl, hR, hot, hog, hox⟩ := hU
  have hR0 := hR
  obtain ⟨zta, zb, zg, zu, zp, zsm, ⟨a16, a17, a18, a19, a20, a21, a23, a24, a25, a29, a35, a37, a38, a40, fx⟩, a7, a8, ⟨a78, a79, a80, a81, a82, a83, a84, a85, a86, a87, a88⟩, bg, bf⟩ := hR
  refine Met.lift_i (R := []) _ (List.Perm.trans hpm (p_nil _)) (c_m_forget l dC dI cI cB cZ cJ cR tb sz ad N v  ) (fun r u hpo => ?_)
  rw [List.append_nil]
  obtain ⟨fr, p1, hpr⟩ := hpo
  have e2 : (u.1 0 2).toInt = (v.1 0 2).toInt := congrArg Int32.toInt (fr.2.1 2 (by decide))
  have e95 : (u.1 0 95).toInt = (v.1 0 95).toInt := congrArg Int32.toInt (fr.2.1 95 (by decide))
  have e102 : (u.1 0 102).toInt = (v.1 0 102).toInt := congrArg Int32.toInt (fr.2.1 102 (by decide))
  have e104 : (u.1 0 104).toInt = (v.1 0 104).toInt := congrArg Int32.toInt (fr.2.1 104 (by decide))
  exact ⟨(u.1 0 2).toInt, (u.1 0 94).toInt, ⟨ad, u, List.Perm.refl _, rfl, RI.fr hR0 (FG.h fr) (by decide) (by decide) (by omega) (by omega) (by omega) (by omega) (by omega), rfl, rfl, ⟨(by rw [fr.2.2 103 (by decide), fr.2.1 104 (by decide)]; exact hox.1), fun p9 hp9 => (congrFun (fr.2.2 1 (by decide)) p9).trans (hox.2.1 p9 (by omega)), (hox.2.2.1.fr (fun k hk => fr.2.1 k (by revert k; decide)) (fun a ha => fr.2.2 a (by revert a; decide))), (hox.2.2.2.fr (by omega) (fun k hk => fr.2.1 k (by revert k; decide)) (fun a ha => fr.2.2 a (by revert a; decide)))⟩⟩, by omega⟩
set_option maxHeartbeats 4000000 in
set_option maxRecDepth 100000 in
theorem rl_start (l : Launch) (dC : Nat → ClassId) (dI : Nat → Nat → Nat) (cI cB cZ cJ cR : ClassId) (tb : Nat → Nat) (sz m0 N : Nat) (B : Int) (U : va_W) (hN1 : 256 ≤ N) (hN2 : N ≤ 4096) (hB0 : 0 ≤ B) (hB : B + 50000 ≤ 200000000) (tz gz : Int) (xz : ZG) (hU : MIW N B m0 cI cZ cJ tz gz xz U) (pa : Int32) (pb : Int32) (pc1 : Int32) : Met l yX13_start (Cond.code yX13_start cX13_start 6 (some .boolean) :: tw_W) ({ frames := 0, cells := 0, slots := 0, locals := 0 }) (pc_ (dC, dI) (tyS cI cB cZ cJ cR) tb U sz [.ref m0, .int pa, .int pb, .int pc1]) (qi_ (dC, dI) U sz (fun (r : Int32) (u : va_W) => MIW N (B + 50000) m0 cI cZ cJ tz gz xz u ∧ r.toInt = (stA xz.dt pa).toInt) (fun (u : va_W) => u)) 0 0 (va_A U sz) := by
  obtain ⟨ad, v, hpm, rfl, hR, hot, hog, hox⟩ := hU
  have hR0 := hR
  obtain ⟨zta, zb, zg, zu, zp, zsm, ⟨a16, a17, a18, a19, a20, a21, a23, a24, a25, a29, a35, a37, a38, a40, fx⟩, a7, a8, ⟨a78, a79, a80, a81, a82, a83, a84, a85, a86, a87, a88⟩, bg, bf⟩ := hR
  refine Met.lift_i (R := []) _ (List.Perm.trans hpm (p_nil _)) (c_m_start l dC dI cI cB cZ cJ cR tb sz ad N v pa pb pc1 (by omega) (by omega) (by omega)) (fun r u hpo => ?_)
  rw [List.append_nil]
  obtain ⟨fr, ex, pu, pp⟩ := hpo
  have e2 : (u.1 0 2).toInt = (v.1 0 2).toInt := congrArg Int32.toInt (fr.2.1 2 (by decide))
  have e94 : (u.1 0 94).toInt = (v.1 0 94).toInt := congrArg Int32.toInt (fr.2.1 94 (by decide))
  have e104 : (u.1 0 104).toInt = (v.1 0 104).toInt := congrArg Int32.toInt (fr.2.1 104 (by decide))
  exact ⟨⟨ad, u, List.Perm.refl _, rfl, RI.fr hR0 (FG.h fr) (by decide) (by decide) (by omega) (by omega) (by omega) (by omega) (by omega), e2.trans hot, e94.trans hog, ⟨(by rw [fr.2.2 103 (by decide), fr.2.1 104 (by decide)]; exact hox.1), fun p9 hp9 => (congrFun (fr.2.2 1 (by decide)) p9).trans (hox.2.1 p9 (by omega)), (hox.2.2.1.fr (fun k hk => fr.2.1 k (by revert k; decide)) (fun a ha => fr.2.2 a (by revert a; decide))), (hox.2.2.2.fr (Int.le_refl _) (fun k hk => fr.2.1 k (by revert k; decide)) (fun a ha => fr.2.2 a (by revert a; decide)))⟩⟩, congrArg Int32.toInt (mdStart hox.2.2.1 a78 ex)⟩
set_option maxHeartbeats 4000000 in
set_option maxRecDepth 100000 in
theorem rl_step (l : Launch) (dC : Nat → ClassId) (dI : Nat → Nat → Nat) (cI cB cZ cJ cR : ClassId) (tb : Nat → Nat) (sz m0 N : Nat) (B : Int) (U : va_W) (hN1 : 256 ≤ N) (hN2 : N ≤ 4096) (hB0 : 0 ≤ B) (hB : B + 50000 ≤ 200000000) (tz gz : Int) (xz : ZG) (hU : MIW N B m0 cI cZ cJ tz gz xz U)  : Met l yX13_step (Cond.code yX13_step cX13_step 1 (some .int) :: tw_W) ({ frames := 3, cells := 0, slots := 0, locals := 76 }) (pc_ (dC, dI) (tyS cI cB cZ cJ cR) tb U sz [.ref m0]) (qi_ (dC, dI) U sz (fun (r : Int32) (u : va_W) => MIW N (B + 50000) m0 cI cZ cJ tz gz xz u) (fun (u : va_W) => u)) 0 0 (va_A U sz) := by
  obtain ⟨ad, v, hpm, rfl, hR, hot, hog, hox⟩ := hU
  have hR0 := hR
  obtain ⟨zta, zb, zg, zu, zp, zsm, ⟨a16, a17, a18, a19, a20, a21, a23, a24, a25, a29, a35, a37, a38, a40, fx⟩, a7, a8, ⟨a78, a79, a80, a81, a82, a83, a84, a85, a86, a87, a88⟩, bg, bf⟩ := hR
  refine Met.lift_i (R := []) _ (List.Perm.trans hpm (p_nil _)) (c_m_step l dC dI cI cB cZ cJ cR tb sz ad N v  (by omega) (by omega) (by omega) (by omega)) (fun r u hpo => ?_)
  rw [List.append_nil]
  obtain ⟨fr, pu, pp⟩ := hpo
  have e2 : (u.1 0 2).toInt = (v.1 0 2).toInt := congrArg Int32.toInt (fr.2.1 2 (by decide))
  have e94 : (u.1 0 94).toInt = (v.1 0 94).toInt := congrArg Int32.toInt (fr.2.1 94 (by decide))
  have e104 : (u.1 0 104).toInt = (v.1 0 104).toInt := congrArg Int32.toInt (fr.2.1 104 (by decide))
  exact ⟨ad, u, List.Perm.refl _, rfl, RI.fr hR0 (FG.h fr) (by decide) (by decide) (by omega) (by omega) (by omega) (by omega) (by omega), e2.trans hot, e94.trans hog, ⟨(by rw [fr.2.2 103 (by decide), fr.2.1 104 (by decide)]; exact hox.1), fun p9 hp9 => (congrFun (fr.2.2 1 (by decide)) p9).trans (hox.2.1 p9 (by omega)), (hox.2.2.1.fr (fun k hk => fr.2.1 k (by revert k; decide)) (fun a ha => fr.2.2 a (by revert a; decide))), (hox.2.2.2.fr (Int.le_refl _) (fun k hk => fr.2.1 k (by revert k; decide)) (fun a ha => fr.2.2 a (by revert a; decide)))⟩⟩
set_option maxHeartbeats 4000000 in
set_option maxRecDepth 100000 in
theorem rl_run (l : Launch) (dC : Nat → ClassId) (dI : Nat → Nat → Nat) (cI cB cZ cJ cR : ClassId) (tb : Nat → Nat) (sz m0 N : Nat) (B : Int) (U : va_W) (hN1 : 256 ≤ N) (hN2 : N ≤ 4096) (hB0 : 0 ≤ B) (hB : B + 50000 ≤ 200000000) (tz gz : Int) (xz : ZG) (hU : MIW N B m0 cI cZ cJ tz gz xz U) (pa : Int32) : Met l yX13_run (Cond.code yX13_run cX13_run 3 (some .int) :: tw_W) ({ frames := 3, cells := 0, slots := 0, locals := 76 }) (pc_ (dC, dI) (tyS cI cB cZ cJ cR) tb U sz [.ref m0, .int pa]) (qi_ (dC, dI) U sz (fun (r : Int32) (u : va_W) => MIW N (B + 50000) m0 cI cZ cJ tz gz xz u) (fun (u : va_W) => u)) 0 0 (va_A U sz) := by
  obtain ⟨ad, v, hpm, rfl, hR, hot, hog, hox⟩ := hU
  have hR0 := hR
  obtain ⟨zta, zb, zg, zu, zp, zsm, ⟨a16, a17, a18, a19, a20, a21, a23, a24, a25, a29, a35, a37, a38, a40, fx⟩, a7, a8, ⟨a78, a79, a80, a81, a82, a83, a84, a85, a86, a87, a88⟩, bg, bf⟩ := hR
  refine Met.lift_i (R := []) _ (List.Perm.trans hpm (p_nil _)) (c_m_run l dC dI cI cB cZ cJ cR tb sz ad N v pa (by omega) (by omega) (by omega) (by omega)) (fun r u hpo => ?_)
  rw [List.append_nil]
  obtain ⟨fr, pu, pp⟩ := hpo
  have e2 : (u.1 0 2).toInt = (v.1 0 2).toInt := congrArg Int32.toInt (fr.2.1 2 (by decide))
  have e94 : (u.1 0 94).toInt = (v.1 0 94).toInt := congrArg Int32.toInt (fr.2.1 94 (by decide))
  have e104 : (u.1 0 104).toInt = (v.1 0 104).toInt := congrArg Int32.toInt (fr.2.1 104 (by decide))
  exact ⟨ad, u, List.Perm.refl _, rfl, RI.fr hR0 (FG.h fr) (by decide) (by decide) (by omega) (by omega) (by omega) (by omega) (by omega), e2.trans hot, e94.trans hog, ⟨(by rw [fr.2.2 103 (by decide), fr.2.1 104 (by decide)]; exact hox.1), fun p9 hp9 => (congrFun (fr.2.2 1 (by decide)) p9).trans (hox.2.1 p9 (by omega)), (hox.2.2.1.fr (fun k hk => fr.2.1 k (by revert k; decide)) (fun a ha => fr.2.2 a (by revert a; decide))), (hox.2.2.2.fr (Int.le_refl _) (fun k hk => fr.2.1 k (by revert k; decide)) (fun a ha => fr.2.2 a (by revert a; decide)))⟩⟩
set_option maxHeartbeats 4000000 in
set_option maxRecDepth 100000 in
theorem rl_result (l : Launch) (dC : Nat → ClassId) (dI : Nat → Nat → Nat) (cI cB cZ cJ cR : ClassId) (tb : Nat → Nat) (sz m0 N : Nat) (B : Int) (U : va_W) (hN1 : 256 ≤ N) (hN2 : N ≤ 4096) (hB0 : 0 ≤ B) (hB : B + 50000 ≤ 200000000) (tz gz : Int) (xz : ZG) (hU : MIW N B m0 cI cZ cJ tz gz xz U)  : Met l yX13_result (Cond.code yX13_result cX13_result 1 (some .int) :: tw_W) ({ frames := 0, cells := 0, slots := 0, locals := 0 }) (pc_ (dC, dI) (tyS cI cB cZ cJ cR) tb U sz [.ref m0]) (qi_ (dC, dI) U sz (fun (r : Int32) (u : va_W) => MIW N (B + 50000) m0 cI cZ cJ tz gz xz u) (fun (u : va_W) => u)) 0 0 (va_A U sz) := by
  obtain ⟨ad, v, hpm, rfl, hR, hot, hog, hox⟩ := hU
  have hR0 := hR
  obtain ⟨zta, zb, zg, zu, zp, zsm, ⟨a16, a17, a18, a19, a20, a21, a23, a24, a25, a29, a35, a37, a38, a40, fx⟩, a7, a8, ⟨a78, a79, a80, a81, a82, a83, a84, a85, a86, a87, a88⟩, bg, bf⟩ := hR
  refine Met.lift_i (R := []) _ (List.Perm.trans hpm (p_nil _)) (c_m_result l dC dI cI cB cZ cJ cR tb sz ad N v  ) (fun r u hpo => ?_)
  rw [List.append_nil]
  have fr := hpo
  have e2 : (u.1 0 2).toInt = (v.1 0 2).toInt := congrArg Int32.toInt (fr.2.1 2 (by decide))
  have e94 : (u.1 0 94).toInt = (v.1 0 94).toInt := congrArg Int32.toInt (fr.2.1 94 (by decide))
  have e95 : (u.1 0 95).toInt = (v.1 0 95).toInt := congrArg Int32.toInt (fr.2.1 95 (by decide))
  have e102 : (u.1 0 102).toInt = (v.1 0 102).toInt := congrArg Int32.toInt (fr.2.1 102 (by decide))
  have e104 : (u.1 0 104).toInt = (v.1 0 104).toInt := congrArg Int32.toInt (fr.2.1 104 (by decide))
  exact ⟨ad, u, List.Perm.refl _, rfl, RI.fr hR0 (FG.h fr) (by decide) (by decide) (by omega) (by omega) (by omega) (by omega) (by omega), e2.trans hot, e94.trans hog, ⟨(by rw [fr.2.2 103 (by decide), fr.2.1 104 (by decide)]; exact hox.1), fun p9 hp9 => (congrFun (fr.2.2 1 (by decide)) p9).trans (hox.2.1 p9 (by omega)), (hox.2.2.1.fr (fun k hk => fr.2.1 k (by revert k; decide)) (fun a ha => fr.2.2 a (by revert a; decide))), (hox.2.2.2.fr (Int.le_refl _) (fun k hk => fr.2.1 k (by revert k; decide)) (fun a ha => fr.2.2 a (by revert a; decide)))⟩⟩
set_option maxHeartbeats 4000000 in
set_option maxRecDepth 100000 in
theorem rl_register (l : Launch) (dC : Nat → ClassId) (dI : Nat → Nat → Nat) (cI cB cZ cJ cR : ClassId) (tb : Nat → Nat) (sz m0 N : Nat) (B : Int) (U : va_W) (hN1 : 256 ≤ N) (hN2 : N ≤ 4096) (hB0 : 0 ≤ B) (hB : B + 50000 ≤ 200000000) (tz gz : Int) (xz : ZG) (hU : MIW N B m0 cI cZ cJ tz gz xz U) (pa : Int32) : Met l yX13_register (Cond.code yX13_register cX13_register 2 (some .int) :: tw_W) ({ frames := 0, cells := 0, slots := 0, locals := 0 }) (pc_ (dC, dI) (tyS cI cB cZ cJ cR) tb U sz [.ref m0, .int pa]) (qi_ (dC, dI) U sz (fun (r : Int32) (u : va_W) => MIW N (B + 50000) m0 cI cZ cJ tz gz xz u) (fun (u : va_W) => u)) 0 0 (va_A U sz) := by
  obtain ⟨ad, v, hpm, rfl, hR, hot, hog, hox⟩ := hU
  have hR0 := hR
  obtain ⟨zta, zb, zg, zu, zp, zsm, ⟨a16, a17, a18, a19, a20, a21, a23, a24, a25, a29, a35, a37, a38, a40, fx⟩, a7, a8, ⟨a78, a79, a80, a81, a82, a83, a84, a85, a86, a87, a88⟩, bg, bf⟩ := hR
  refine Met.lift_i (R := []) _ (List.Perm.trans hpm (p_nil _)) (c_m_register l dC dI cI cB cZ cJ cR tb sz ad N v pa ) (fun r u hpo => ?_)
  rw [List.append_nil]
  have fr := hpo
  have e2 : (u.1 0 2).toInt = (v.1 0 2).toInt := congrArg Int32.toInt (fr.2.1 2 (by decide))
  have e94 : (u.1 0 94).toInt = (v.1 0 94).toInt := congrArg Int32.toInt (fr.2.1 94 (by decide))
  have e95 : (u.1 0 95).toInt = (v.1 0 95).toInt := congrArg Int32.toInt (fr.2.1 95 (by decide))
  have e102 : (u.1 0 102).toInt = (v.1 0 102).toInt := congrArg Int32.toInt (fr.2.1 102 (by decide))
  have e104 : (u.1 0 104).toInt = (v.1 0 104).toInt := congrArg Int32.toInt (fr.2.1 104 (by decide))
  exact ⟨ad, u, List.Perm.refl _, rfl, RI.fr hR0 (FG.h fr) (by decide) (by decide) (by omega) (by omega) (by omega) (by omega) (by omega), e2.trans hot, e94.trans hog, ⟨(by rw [fr.2.2 103 (by decide), fr.2.1 104 (by decide)]; exact hox.1), fun p9 hp9 => (congrFun (fr.2.2 1 (by decide)) p9).trans (hox.2.1 p9 (by omega)), (hox.2.2.1.fr (fun k hk => fr.2.1 k (by revert k; decide)) (fun a ha => fr.2.2 a (by revert a; decide))), (hox.2.2.2.fr (Int.le_refl _) (fun k hk => fr.2.1 k (by revert k; decide)) (fun a ha => fr.2.2 a (by revert a; decide)))⟩⟩
set_option maxHeartbeats 4000000 in
set_option maxRecDepth 100000 in
theorem rl_word (l : Launch) (dC : Nat → ClassId) (dI : Nat → Nat → Nat) (cI cB cZ cJ cR : ClassId) (tb : Nat → Nat) (sz m0 N : Nat) (B : Int) (U : va_W) (hN1 : 256 ≤ N) (hN2 : N ≤ 4096) (hB0 : 0 ≤ B) (hB : B + 50000 ≤ 200000000) (tz gz : Int) (xz : ZG) (hU : MIW N B m0 cI cZ cJ tz gz xz U) (pa : Int32) : Met l yX13_word (Cond.code yX13_word cX13_word 2 (some .int) :: tw_W) ({ frames := 1, cells := 0, slots := 0, locals := 24 }) (pc_ (dC, dI) (tyS cI cB cZ cJ cR) tb U sz [.ref m0, .int pa]) (qi_ (dC, dI) U sz (fun (r : Int32) (u : va_W) => MIW N (B + 50000) m0 cI cZ cJ tz gz xz u) (fun (u : va_W) => u)) 0 0 (va_A U sz) := by
  obtain ⟨ad, v, hpm, rfl, hR, hot, hog, hox⟩ := hU
  have hR0 := hR
  obtain ⟨zta, zb, zg, zu, zp, zsm, ⟨a16, a17, a18, a19, a20, a21, a23, a24, a25, a29, a35, a37, a38, a40, fx⟩, a7, a8, ⟨a78, a79, a80, a81, a82, a83, a84, a85, a86, a87, a88⟩, bg, bf⟩ := hR
  refine Met.lift_i (R := []) _ (List.Perm.trans hpm (p_nil _)) (c_m_word l dC dI cI cB cZ cJ cR tb sz ad N v pa (by omega)) (fun r u hpo => ?_)
  rw [List.append_nil]
  have fr := hpo
  have e2 : (u.1 0 2).toInt = (v.1 0 2).toInt := congrArg Int32.toInt (fr.2.1 2 (by decide))
  have e94 : (u.1 0 94).toInt = (v.1 0 94).toInt := congrArg Int32.toInt (fr.2.1 94 (by decide))
  have e95 : (u.1 0 95).toInt = (v.1 0 95).toInt := congrArg Int32.toInt (fr.2.1 95 (by decide))
  have e102 : (u.1 0 102).toInt = (v.1 0 102).toInt := congrArg Int32.toInt (fr.2.1 102 (by decide))
  have e104 : (u.1 0 104).toInt = (v.1 0 104).toInt := congrArg Int32.toInt (fr.2.1 104 (by decide))
  exact ⟨ad, u, List.Perm.refl _, rfl, RI.fr hR0 (FG.h fr) (by decide) (by decide) (by omega) (by omega) (by omega) (by omega) (by omega), e2.trans hot, e94.trans hog, ⟨(by rw [fr.2.2 103 (by decide), fr.2.1 104 (by decide)]; exact hox.1), fun p9 hp9 => (congrFun (fr.2.2 1 (by decide)) p9).trans (hox.2.1 p9 (by omega)), (hox.2.2.1.fr (fun k hk => fr.2.1 k (by revert k; decide)) (fun a ha => fr.2.2 a (by revert a; decide))), (hox.2.2.2.fr (Int.le_refl _) (fun k hk => fr.2.1 k (by revert k; decide)) (fun a ha => fr.2.2 a (by revert a; decide)))⟩⟩
set_option maxHeartbeats 4000000 in
set_option maxRecDepth 100000 in
theorem rl_put (l : Launch) (dC : Nat → ClassId) (dI : Nat → Nat → Nat) (cI cB cZ cJ cR : ClassId) (tb : Nat → Nat) (sz m0 N : Nat) (B : Int) (U : va_W) (hN1 : 256 ≤ N) (hN2 : N ≤ 4096) (hB0 : 0 ≤ B) (hB : B + 50000 ≤ 200000000) (tz gz : Int) (xz : ZG) (hU : MIW N B m0 cI cZ cJ tz gz xz U) (pa : Int32) : Met l yX13_put (Cond.code yX13_put cX13_put 2 (some .int) :: tw_W) ({ frames := 0, cells := 0, slots := 0, locals := 0 }) (pc_ (dC, dI) (tyS cI cB cZ cJ cR) tb U sz [.ref m0, .int pa]) (qi_ (dC, dI) U sz (fun (r : Int32) (u : va_W) => MIW N (B + 50000) m0 cI cZ cJ tz gz xz u) (fun (u : va_W) => u)) 0 0 (va_A U sz) := by
  obtain ⟨ad, v, hpm, rfl, hR, hot, hog, hox⟩ := hU
  have hR0 := hR
  obtain ⟨zta, zb, zg, zu, zp, zsm, ⟨a16, a17, a18, a19, a20, a21, a23, a24, a25, a29, a35, a37, a38, a40, fx⟩, a7, a8, ⟨a78, a79, a80, a81, a82, a83, a84, a85, a86, a87, a88⟩, bg, bf⟩ := hR
  refine Met.lift_i (R := []) _ (List.Perm.trans hpm (p_nil _)) (c_m_put l dC dI cI cB cZ cJ cR tb sz ad N v pa ) (fun r u hpo => ?_)
  rw [List.append_nil]
  have fr := hpo
  have e2 : (u.1 0 2).toInt = (v.1 0 2).toInt := congrArg Int32.toInt (fr.2.1 2 (by decide))
  have e94 : (u.1 0 94).toInt = (v.1 0 94).toInt := congrArg Int32.toInt (fr.2.1 94 (by decide))
  have e95 : (u.1 0 95).toInt = (v.1 0 95).toInt := congrArg Int32.toInt (fr.2.1 95 (by decide))
  have e102 : (u.1 0 102).toInt = (v.1 0 102).toInt := congrArg Int32.toInt (fr.2.1 102 (by decide))
  have e104 : (u.1 0 104).toInt = (v.1 0 104).toInt := congrArg Int32.toInt (fr.2.1 104 (by decide))
  exact ⟨ad, u, List.Perm.refl _, rfl, RI.fr hR0 (FG.h fr) (by decide) (by decide) (by omega) (by omega) (by omega) (by omega) (by omega), e2.trans hot, e94.trans hog, ⟨(by rw [fr.2.2 103 (by decide), fr.2.1 104 (by decide)]; exact hox.1), fun p9 hp9 => (congrFun (fr.2.2 1 (by decide)) p9).trans (hox.2.1 p9 (by omega)), (hox.2.2.1.fr (fun k hk => fr.2.1 k (by revert k; decide)) (fun a ha => fr.2.2 a (by revert a; decide))), (hox.2.2.2.fr (Int.le_refl _) (fun k hk => fr.2.1 k (by revert k; decide)) (fun a ha => fr.2.2 a (by revert a; decide)))⟩⟩
set_option maxHeartbeats 4000000 in
set_option maxRecDepth 100000 in
theorem rl_octet (l : Launch) (dC : Nat → ClassId) (dI : Nat → Nat → Nat) (cI cB cZ cJ cR : ClassId) (tb : Nat → Nat) (sz m0 N : Nat) (B : Int) (U : va_W) (hN1 : 256 ≤ N) (hN2 : N ≤ 4096) (hB0 : 0 ≤ B) (hB : B + 50000 ≤ 200000000) (tz gz : Int) (xz : ZG) (hU : MIW N B m0 cI cZ cJ tz gz xz U) (pa : Int32) : Met l yX13_octet (Cond.code yX13_octet cX13_octet 2 (some .int) :: tw_W) ({ frames := 0, cells := 0, slots := 0, locals := 0 }) (pc_ (dC, dI) (tyS cI cB cZ cJ cR) tb U sz [.ref m0, .int pa]) (qi_ (dC, dI) U sz (fun (r : Int32) (u : va_W) => MIW N (B + 50000) m0 cI cZ cJ tz gz xz u ∧ r.toInt = ocA xz.sx pa) (fun (u : va_W) => u)) 0 0 (va_A U sz) := by
  obtain ⟨ad, v, hpm, rfl, hR, hot, hog, hox⟩ := hU
  have hR0 := hR
  obtain ⟨zta, zb, zg, zu, zp, zsm, ⟨a16, a17, a18, a19, a20, a21, a23, a24, a25, a29, a35, a37, a38, a40, fx⟩, a7, a8, ⟨a78, a79, a80, a81, a82, a83, a84, a85, a86, a87, a88⟩, bg, bf⟩ := hR
  refine Met.lift_i (R := []) _ (List.Perm.trans hpm (p_nil _)) (c_m_octet l dC dI cI cB cZ cJ cR tb sz ad N v pa (by omega)) (fun r u hpo => ?_)
  rw [List.append_nil]
  obtain ⟨fr, hpr⟩ := hpo
  have e2 : (u.1 0 2).toInt = (v.1 0 2).toInt := congrArg Int32.toInt (fr.2.1 2 (by decide))
  have e94 : (u.1 0 94).toInt = (v.1 0 94).toInt := congrArg Int32.toInt (fr.2.1 94 (by decide))
  have e95 : (u.1 0 95).toInt = (v.1 0 95).toInt := congrArg Int32.toInt (fr.2.1 95 (by decide))
  have e102 : (u.1 0 102).toInt = (v.1 0 102).toInt := congrArg Int32.toInt (fr.2.1 102 (by decide))
  have e104 : (u.1 0 104).toInt = (v.1 0 104).toInt := congrArg Int32.toInt (fr.2.1 104 (by decide))
  exact ⟨⟨ad, u, List.Perm.refl _, rfl, RI.fr hR0 (FG.h fr) (by decide) (by decide) (by omega) (by omega) (by omega) (by omega) (by omega), e2.trans hot, e94.trans hog, ⟨(by rw [fr.2.2 103 (by decide), fr.2.1 104 (by decide)]; exact hox.1), fun p9 hp9 => (congrFun (fr.2.2 1 (by decide)) p9).trans (hox.2.1 p9 (by omega)), (hox.2.2.1.fr (fun k hk => fr.2.1 k (by revert k; decide)) (fun a ha => fr.2.2 a (by revert a; decide))), (hox.2.2.2.fr (Int.le_refl _) (fun k hk => fr.2.1 k (by revert k; decide)) (fun a ha => fr.2.2 a (by revert a; decide)))⟩⟩, ox_eq hox.1 hpr⟩
set_option maxHeartbeats 4000000 in
set_option maxRecDepth 100000 in
theorem rl_told (l : Launch) (dC : Nat → ClassId) (dI : Nat → Nat → Nat) (cI cB cZ cJ cR : ClassId) (tb : Nat → Nat) (sz m0 N : Nat) (B : Int) (U : va_W) (hN1 : 256 ≤ N) (hN2 : N ≤ 4096) (hB0 : 0 ≤ B) (hB : B + 50000 ≤ 200000000) (tz gz : Int) (xz : ZG) (hU : MIW N B m0 cI cZ cJ tz gz xz U) (pa : Int32) : Met l yX13_told (Cond.code yX13_told cX13_told 2 (some .int) :: tw_W) ({ frames := 0, cells := 0, slots := 0, locals := 0 }) (pc_ (dC, dI) (tyS cI cB cZ cJ cR) tb U sz [.ref m0, .int pa]) (qi_ (dC, dI) U sz (fun (r : Int32) (u : va_W) => MIW N (B + 50000) m0 cI cZ cJ tz gz xz u ∧ HMt xz pa r) (fun (u : va_W) => u)) 0 0 (va_A U sz) := by
  obtain ⟨ad, v, hpm, rfl, hR, hot, hog, hox⟩ := hU
  have hR0 := hR
  obtain ⟨zta, zb, zg, zu, zp, zsm, ⟨a16, a17, a18, a19, a20, a21, a23, a24, a25, a29, a35, a37, a38, a40, fx⟩, a7, a8, ⟨a78, a79, a80, a81, a82, a83, a84, a85, a86, a87, a88⟩, bg, bf⟩ := hR
  refine Met.lift_i (R := []) _ (List.Perm.trans hpm (p_nil _)) (c_m_told l dC dI cI cB cZ cJ cR tb sz ad N v pa ) (fun r u hpo => ?_)
  rw [List.append_nil]
  obtain ⟨fr, ex⟩ := hpo
  have e2 : (u.1 0 2).toInt = (v.1 0 2).toInt := congrArg Int32.toInt (fr.2.1 2 (by decide))
  have e94 : (u.1 0 94).toInt = (v.1 0 94).toInt := congrArg Int32.toInt (fr.2.1 94 (by decide))
  have e95 : (u.1 0 95).toInt = (v.1 0 95).toInt := congrArg Int32.toInt (fr.2.1 95 (by decide))
  have e102 : (u.1 0 102).toInt = (v.1 0 102).toInt := congrArg Int32.toInt (fr.2.1 102 (by decide))
  have e104 : (u.1 0 104).toInt = (v.1 0 104).toInt := congrArg Int32.toInt (fr.2.1 104 (by decide))
  exact ⟨⟨ad, u, List.Perm.refl _, rfl, RI.fr hR0 (FG.h fr) (by decide) (by decide) (by omega) (by omega) (by omega) (by omega) (by omega), e2.trans hot, e94.trans hog, ⟨(by rw [fr.2.2 103 (by decide), fr.2.1 104 (by decide)]; exact hox.1), fun p9 hp9 => (congrFun (fr.2.2 1 (by decide)) p9).trans (hox.2.1 p9 (by omega)), (hox.2.2.1.fr (fun k hk => fr.2.1 k (by revert k; decide)) (fun a ha => fr.2.2 a (by revert a; decide))), (hox.2.2.2.fr (Int.le_refl _) (fun k hk => fr.2.1 k (by revert k; decide)) (fun a ha => fr.2.2 a (by revert a; decide)))⟩⟩, gz, v, u, hox.2.2.2, ex⟩
set_option maxHeartbeats 4000000 in
set_option maxRecDepth 100000 in
theorem rl_count (l : Launch) (dC : Nat → ClassId) (dI : Nat → Nat → Nat) (cI cB cZ cJ cR : ClassId) (tb : Nat → Nat) (sz m0 N : Nat) (B : Int) (U : va_W) (hN1 : 256 ≤ N) (hN2 : N ≤ 4096) (hB0 : 0 ≤ B) (hB : B + 50000 ≤ 200000000) (tz gz : Int) (xz : ZG) (hU : MIW N B m0 cI cZ cJ tz gz xz U) (pa : Int32) : Met l yX13_count (Cond.code yX13_count cX13_count 2 (some .int) :: tw_W) ({ frames := 0, cells := 0, slots := 0, locals := 0 }) (pc_ (dC, dI) (tyS cI cB cZ cJ cR) tb U sz [.ref m0, .int pa]) (qi_ (dC, dI) U sz (fun (r : Int32) (u : va_W) => MIW N (B + 50000) m0 cI cZ cJ tz gz xz u) (fun (u : va_W) => u)) 0 0 (va_A U sz) := by
  obtain ⟨ad, v, hpm, rfl, hR, hot, hog, hox⟩ := hU
  have hR0 := hR
  obtain ⟨zta, zb, zg, zu, zp, zsm, ⟨a16, a17, a18, a19, a20, a21, a23, a24, a25, a29, a35, a37, a38, a40, fx⟩, a7, a8, ⟨a78, a79, a80, a81, a82, a83, a84, a85, a86, a87, a88⟩, bg, bf⟩ := hR
  refine Met.lift_i (R := []) _ (List.Perm.trans hpm (p_nil _)) (c_m_count l dC dI cI cB cZ cJ cR tb sz ad N v pa (by omega)) (fun r u hpo => ?_)
  rw [List.append_nil]
  have fr := hpo
  have e2 : (u.1 0 2).toInt = (v.1 0 2).toInt := congrArg Int32.toInt (fr.2.1 2 (by decide))
  have e94 : (u.1 0 94).toInt = (v.1 0 94).toInt := congrArg Int32.toInt (fr.2.1 94 (by decide))
  have e95 : (u.1 0 95).toInt = (v.1 0 95).toInt := congrArg Int32.toInt (fr.2.1 95 (by decide))
  have e102 : (u.1 0 102).toInt = (v.1 0 102).toInt := congrArg Int32.toInt (fr.2.1 102 (by decide))
  have e104 : (u.1 0 104).toInt = (v.1 0 104).toInt := congrArg Int32.toInt (fr.2.1 104 (by decide))
  exact ⟨ad, u, List.Perm.refl _, rfl, RI.fr hR0 (FG.h fr) (by decide) (by decide) (by omega) (by omega) (by omega) (by omega) (by omega), e2.trans hot, e94.trans hog, ⟨(by rw [fr.2.2 103 (by decide), fr.2.1 104 (by decide)]; exact hox.1), fun p9 hp9 => (congrFun (fr.2.2 1 (by decide)) p9).trans (hox.2.1 p9 (by omega)), (hox.2.2.1.fr (fun k hk => fr.2.1 k (by revert k; decide)) (fun a ha => fr.2.2 a (by revert a; decide))), (hox.2.2.2.fr (Int.le_refl _) (fun k hk => fr.2.1 k (by revert k; decide)) (fun a ha => fr.2.2 a (by revert a; decide)))⟩⟩
/-- the reference's world behind a call whose throw is known -/
def MIT (N : Nat) (B : Int) (m0 : Nat) (cI cZ cJ : ClassId) (tz gz : Int) (xz : ZG) (T : Int → Prop) (u : va_W) : Prop := ∃ (ad : Nat → Nat) (v : MS), u.Perm (mW ad N cI cZ cJ v) ∧ ad 0 = m0 ∧ RI N B v ∧ (v.1 0 2).toInt = tz ∧ (v.1 0 94).toInt = gz ∧ (HX (v.1 103) (v.1 0 104) xz.sx ∧ (∀ p9 : Nat, (p9 : Int) < tz → v.1 1 p9 = xz.tb p9) ∧ MD xz.fa xz.fp xz.dt v ∧ MEz gz xz v) ∧ T (v.1 0 0).toInt
set_option maxHeartbeats 4000000 in
set_option maxRecDepth 100000 in
theorem rl_set (l : Launch) (dC : Nat → ClassId) (dI : Nat → Nat → Nat) (cI cB cZ cJ cR : ClassId) (tb : Nat → Nat) (sz m0 N : Nat) (B : Int) (U : va_W) (hN1 : 256 ≤ N) (hN2 : N ≤ 4096) (hB0 : 0 ≤ B) (hB : B + 50000 ≤ 200000000) (tz gz : Int) (xz : ZG) (hU : MIW N B m0 cI cZ cJ tz gz xz U) (pa : Int32) (pb : Int32) : Met l yX13_set (Cond.code yX13_set cX13_set 3 none :: tw_W) ({ frames := 0, cells := 0, slots := 0, locals := 0 }) (pc_ (dC, dI) (tyS cI cB cZ cJ cR) tb U sz [.ref m0, .int pa, .int pb]) (qv_ (dC, dI) U sz (fun (u : va_W) => MIT N (B + 50000) m0 cI cZ cJ tz gz xz (fun x9 : Int => ((x9 = 0 ∧ (0 ≤ pa.toInt ∧ pa.toInt ≤ 32)) ∨ (x9 = 1 ∧ (pa.toInt < 0 ∨ 32 < pa.toInt)))) u) (fun (u : va_W) => u)) 0 0 (va_A U sz) := by
  obtain ⟨ad, v, hpm, rfl, hR, hot, hog, hox⟩ := hU
  have hR0 := hR
  obtain ⟨zta, zb, zg, zu, zp, zsm, ⟨a16, a17, a18, a19, a20, a21, a23, a24, a25, a29, a35, a37, a38, a40, fx⟩, a7, a8, ⟨a78, a79, a80, a81, a82, a83, a84, a85, a86, a87, a88⟩, bg, bf⟩ := hR
  refine Met.lift_v (R := []) _ (List.Perm.trans hpm (p_nil _)) (c_m_set2 l dC dI cI cB cZ cJ cR tb sz ad N v pa pb ) (fun u hpo => ?_)
  rw [List.append_nil]
  obtain ⟨fr, pt⟩ := hpo
  have e2 : (u.1 0 2).toInt = (v.1 0 2).toInt := congrArg Int32.toInt (fr.2.1 2 (by decide))
  have e94 : (u.1 0 94).toInt = (v.1 0 94).toInt := congrArg Int32.toInt (fr.2.1 94 (by decide))
  have e95 : (u.1 0 95).toInt = (v.1 0 95).toInt := congrArg Int32.toInt (fr.2.1 95 (by decide))
  have e102 : (u.1 0 102).toInt = (v.1 0 102).toInt := congrArg Int32.toInt (fr.2.1 102 (by decide))
  have e104 : (u.1 0 104).toInt = (v.1 0 104).toInt := congrArg Int32.toInt (fr.2.1 104 (by decide))
  exact ⟨ad, u, List.Perm.refl _, rfl, RI.fr hR0 (FG.h fr) (by decide) (by decide) (by omega) (by omega) (by omega) (by omega) (by omega), e2.trans hot, e94.trans hog, ⟨(by rw [fr.2.2 103 (by decide), fr.2.1 104 (by decide)]; exact hox.1), fun p9 hp9 => (congrFun (fr.2.2 1 (by decide)) p9).trans (hox.2.1 p9 (by omega)), (hox.2.2.1.fr (fun k hk => fr.2.1 k (by revert k; decide)) (fun a ha => fr.2.2 a (by revert a; decide))), (hox.2.2.2.fr (Int.le_refl _) (fun k hk => fr.2.1 k (by revert k; decide)) (fun a ha => fr.2.2 a (by revert a; decide)))⟩, pt⟩
set_option maxHeartbeats 4000000 in
set_option maxRecDepth 100000 in
theorem rl_poke (l : Launch) (dC : Nat → ClassId) (dI : Nat → Nat → Nat) (cI cB cZ cJ cR : ClassId) (tb : Nat → Nat) (sz m0 N : Nat) (B : Int) (U : va_W) (hN1 : 256 ≤ N) (hN2 : N ≤ 4096) (hB0 : 0 ≤ B) (hB : B + 50000 ≤ 200000000) (tz gz : Int) (xz : ZG) (hU : MIW N B m0 cI cZ cJ tz gz xz U) (pa : Int32) (pb : Int32) : Met l yX13_poke (Cond.code yX13_poke cX13_poke 3 none :: tw_W) ({ frames := 1, cells := 0, slots := 0, locals := 24 }) (pc_ (dC, dI) (tyS cI cB cZ cJ cR) tb U sz [.ref m0, .int pa, .int pb]) (qv_ (dC, dI) U sz (fun (u : va_W) => MIT N (B + 50000) m0 cI cZ cJ tz gz xz (fun x9 : Int => ((x9 = 1 ∧ (pa &&& (3 : Int32)).toInt ≠ 0) ∨ (x9 = 2 ∧ (pa &&& (3 : Int32)).toInt = 0 ∧ (pa.toInt < 0 ∨ 4 * (N : Int) < pa.toInt + 4)) ∨ (x9 = 0 ∧ (pa &&& (3 : Int32)).toInt = 0 ∧ (0 ≤ pa.toInt ∧ pa.toInt + 4 ≤ 4 * (N : Int))))) u) (fun (u : va_W) => u)) 0 0 (va_A U sz) := by
  obtain ⟨ad, v, hpm, rfl, hR, hot, hog, hox⟩ := hU
  have hR0 := hR
  obtain ⟨zta, zb, zg, zu, zp, zsm, ⟨a16, a17, a18, a19, a20, a21, a23, a24, a25, a29, a35, a37, a38, a40, fx⟩, a7, a8, ⟨a78, a79, a80, a81, a82, a83, a84, a85, a86, a87, a88⟩, bg, bf⟩ := hR
  refine Met.lift_v (R := []) _ (List.Perm.trans hpm (p_nil _)) (c_m_poke l dC dI cI cB cZ cJ cR tb sz ad N v pa pb (by omega)) (fun u hpo => ?_)
  rw [List.append_nil]
  obtain ⟨fr, pt⟩ := hpo
  have e2 : (u.1 0 2).toInt = (v.1 0 2).toInt := congrArg Int32.toInt (fr.2.1 2 (by decide))
  have e94 : (u.1 0 94).toInt = (v.1 0 94).toInt := congrArg Int32.toInt (fr.2.1 94 (by decide))
  have e95 : (u.1 0 95).toInt = (v.1 0 95).toInt := congrArg Int32.toInt (fr.2.1 95 (by decide))
  have e102 : (u.1 0 102).toInt = (v.1 0 102).toInt := congrArg Int32.toInt (fr.2.1 102 (by decide))
  have e104 : (u.1 0 104).toInt = (v.1 0 104).toInt := congrArg Int32.toInt (fr.2.1 104 (by decide))
  exact ⟨ad, u, List.Perm.refl _, rfl, RI.fr hR0 (FG.h fr) (by decide) (by decide) (by omega) (by omega) (by omega) (by omega) (by omega), e2.trans hot, e94.trans hog, ⟨(by rw [fr.2.2 103 (by decide), fr.2.1 104 (by decide)]; exact hox.1), fun p9 hp9 => (congrFun (fr.2.2 1 (by decide)) p9).trans (hox.2.1 p9 (by omega)), (hox.2.2.1.fr (fun k hk => fr.2.1 k (by revert k; decide)) (fun a ha => fr.2.2 a (by revert a; decide))), (hox.2.2.2.fr (Int.le_refl _) (fun k hk => fr.2.1 k (by revert k; decide)) (fun a ha => fr.2.2 a (by revert a; decide)))⟩, pt⟩
set_option maxHeartbeats 4000000 in
set_option maxRecDepth 100000 in
theorem rl_find (l : Launch) (dC : Nat → ClassId) (dI : Nat → Nat → Nat) (cI cB cZ cJ cR : ClassId) (tb : Nat → Nat) (sz m0 N : Nat) (B : Int) (U : va_W) (hN1 : 256 ≤ N) (hN2 : N ≤ 4096) (hB0 : 0 ≤ B) (hB : B + 50000 ≤ 200000000) (tz gz : Int) (xz : ZG) (hU : MIW N B m0 cI cZ cJ tz gz xz U) (pa : Int32) : Met l yX13_find (Cond.code yX13_find cX13_find 3 (some .int) :: tw_W) ({ frames := 1, cells := 0, slots := 0, locals := 24 }) (pc_ (dC, dI) (tyS cI cB cZ cJ cR) tb U sz [.ref m0, .int pa]) (qi_ (dC, dI) U sz (fun (r : Int32) (u : va_W) => MIT N (B + 50000) m0 cI cZ cJ tz gz xz (fun x9 : Int => ((x9 = 0 ∧ fiR xz.dt xz.tb tz pa r) ∨ (x9 = 1 ∧ pa.toInt ≠ 0 ∧ pa.toInt ≠ 1))) u) (fun (u : va_W) => u)) 0 0 (va_A U sz) := by
  obtain ⟨ad, v, hpm, rfl, hR, hot, hog, hox⟩ := hU
  have hR0 := hR
  obtain ⟨zta, zb, zg, zu, zp, zsm, ⟨a16, a17, a18, a19, a20, a21, a23, a24, a25, a29, a35, a37, a38, a40, fx⟩, a7, a8, ⟨a78, a79, a80, a81, a82, a83, a84, a85, a86, a87, a88⟩, bg, bf⟩ := hR
  refine Met.lift_i (R := []) _ (List.Perm.trans hpm (p_nil _)) (c_m_find l dC dI cI cB cZ cJ cR tb sz ad N v pa (by omega) (by omega) (by omega) a83 a84 a87 a88) (fun r u hpo => ?_)
  rw [List.append_nil]
  obtain ⟨fr, ex⟩ := hpo
  have e2 : (u.1 0 2).toInt = (v.1 0 2).toInt := congrArg Int32.toInt (fr.2.1 2 (by decide))
  have e94 : (u.1 0 94).toInt = (v.1 0 94).toInt := congrArg Int32.toInt (fr.2.1 94 (by decide))
  have e95 : (u.1 0 95).toInt = (v.1 0 95).toInt := congrArg Int32.toInt (fr.2.1 95 (by decide))
  have e102 : (u.1 0 102).toInt = (v.1 0 102).toInt := congrArg Int32.toInt (fr.2.1 102 (by decide))
  have e104 : (u.1 0 104).toInt = (v.1 0 104).toInt := congrArg Int32.toInt (fr.2.1 104 (by decide))
  exact ⟨ad, u, List.Perm.refl _, rfl, RI.fr hR0 (FG.h fr) (by decide) (by decide) (by omega) (by omega) (by omega) (by omega) (by omega), e2.trans hot, e94.trans hog, ⟨(by rw [fr.2.2 103 (by decide), fr.2.1 104 (by decide)]; exact hox.1), fun p9 hp9 => (congrFun (fr.2.2 1 (by decide)) p9).trans (hox.2.1 p9 (by omega)), (hox.2.2.1.fr (fun k hk => fr.2.1 k (by revert k; decide)) (fun a ha => fr.2.2 a (by revert a; decide))), (hox.2.2.2.fr (Int.le_refl _) (fun k hk => fr.2.1 k (by revert k; decide)) (fun a ha => fr.2.2 a (by revert a; decide)))⟩, mdFind hox.2.2.1 hox.2.1 hot ex⟩
set_option maxHeartbeats 4000000 in
set_option maxRecDepth 100000 in
theorem rl_code (l : Launch) (dC : Nat → ClassId) (dI : Nat → Nat → Nat) (cI cB cZ cJ cR : ClassId) (tb : Nat → Nat) (sz m0 N : Nat) (B : Int) (U : va_W) (hN1 : 256 ≤ N) (hN2 : N ≤ 4096) (hB0 : 0 ≤ B) (hB : B + 50000 ≤ 200000000) (tz gz : Int) (xz : ZG) (hU : MIW N B m0 cI cZ cJ tz gz xz U) (pa : Int32) : Met l yX13_code (Cond.code yX13_code cX13_code 2 (some .int) :: tw_W) ({ frames := 0, cells := 0, slots := 0, locals := 0 }) (pc_ (dC, dI) (tyS cI cB cZ cJ cR) tb U sz [.ref m0, .int pa]) (qi_ (dC, dI) U sz (fun (r : Int32) (u : va_W) => MIT N (B + 50000) m0 cI cZ cJ tz gz xz (fun x9 : Int => HMc xz pa x9 r) u) (fun (u : va_W) => u)) 0 0 (va_A U sz) := by
  obtain ⟨ad, v, hpm, rfl, hR, hot, hog, hox⟩ := hU
  have hR0 := hR
  obtain ⟨zta, zb, zg, zu, zp, zsm, ⟨a16, a17, a18, a19, a20, a21, a23, a24, a25, a29, a35, a37, a38, a40, fx⟩, a7, a8, ⟨a78, a79, a80, a81, a82, a83, a84, a85, a86, a87, a88⟩, bg, bf⟩ := hR
  refine Met.lift_i (R := []) _ (List.Perm.trans hpm (p_nil _)) (c_m_code l dC dI cI cB cZ cJ cR tb sz ad N v pa (by omega)) (fun r u hpo => ?_)
  rw [List.append_nil]
  obtain ⟨fr, ex⟩ := hpo
  have e2 : (u.1 0 2).toInt = (v.1 0 2).toInt := congrArg Int32.toInt (fr.2.1 2 (by decide))
  have e94 : (u.1 0 94).toInt = (v.1 0 94).toInt := congrArg Int32.toInt (fr.2.1 94 (by decide))
  have e95 : (u.1 0 95).toInt = (v.1 0 95).toInt := congrArg Int32.toInt (fr.2.1 95 (by decide))
  have e102 : (u.1 0 102).toInt = (v.1 0 102).toInt := congrArg Int32.toInt (fr.2.1 102 (by decide))
  have e104 : (u.1 0 104).toInt = (v.1 0 104).toInt := congrArg Int32.toInt (fr.2.1 104 (by decide))
  exact ⟨ad, u, List.Perm.refl _, rfl, RI.fr hR0 (FG.h fr) (by decide) (by decide) (by omega) (by omega) (by omega) (by omega) (by omega), e2.trans hot, e94.trans hog, ⟨(by rw [fr.2.2 103 (by decide), fr.2.1 104 (by decide)]; exact hox.1), fun p9 hp9 => (congrFun (fr.2.2 1 (by decide)) p9).trans (hox.2.1 p9 (by omega)), (hox.2.2.1.fr (fun k hk => fr.2.1 k (by revert k; decide)) (fun a ha => fr.2.2 a (by revert a; decide))), (hox.2.2.2.fr (Int.le_refl _) (fun k hk => fr.2.1 k (by revert k; decide)) (fun a ha => fr.2.2 a (by revert a; decide)))⟩, gz, v, u, hox.2.2.2, ex, rfl⟩
set_option maxHeartbeats 4000000 in
set_option maxRecDepth 100000 in
theorem rl_worked (l : Launch) (dC : Nat → ClassId) (dI : Nat → Nat → Nat) (cI cB cZ cJ cR : ClassId) (tb : Nat → Nat) (sz m0 N : Nat) (B : Int) (U : va_W) (hN1 : 256 ≤ N) (hN2 : N ≤ 4096) (hB0 : 0 ≤ B) (hB : B + 50000 ≤ 200000000) (tz gz : Int) (xz : ZG) (hU : MIW N B m0 cI cZ cJ tz gz xz U) (pa : Int32) : Met l yX13_worked_ (Cond.code yX13_worked_ cX13_worked_ 2 (some .int) :: tw_W) ({ frames := 0, cells := 0, slots := 0, locals := 0 }) (pc_ (dC, dI) (tyS cI cB cZ cJ cR) tb U sz [.ref m0, .int pa]) (qi_ (dC, dI) U sz (fun (r : Int32) (u : va_W) => MIT N (B + 50000) m0 cI cZ cJ tz gz xz (fun x9 : Int => HMd xz pa x9 r) u) (fun (u : va_W) => u)) 0 0 (va_A U sz) := by
  obtain ⟨ad, v, hpm, rfl, hR, hot, hog, hox⟩ := hU
  have hR0 := hR
  obtain ⟨zta, zb, zg, zu, zp, zsm, ⟨a16, a17, a18, a19, a20, a21, a23, a24, a25, a29, a35, a37, a38, a40, fx⟩, a7, a8, ⟨a78, a79, a80, a81, a82, a83, a84, a85, a86, a87, a88⟩, bg, bf⟩ := hR
  refine Met.lift_i (R := []) _ (List.Perm.trans hpm (p_nil _)) (c_m_worked_p l dC dI cI cB cZ cJ cR tb sz ad N v pa ) (fun r u hpo => ?_)
  rw [List.append_nil]
  obtain ⟨fr, ex⟩ := hpo
  have e2 : (u.1 0 2).toInt = (v.1 0 2).toInt := congrArg Int32.toInt (fr.2.1 2 (by decide))
  have e94 : (u.1 0 94).toInt = (v.1 0 94).toInt := congrArg Int32.toInt (fr.2.1 94 (by decide))
  have e95 : (u.1 0 95).toInt = (v.1 0 95).toInt := congrArg Int32.toInt (fr.2.1 95 (by decide))
  have e102 : (u.1 0 102).toInt = (v.1 0 102).toInt := congrArg Int32.toInt (fr.2.1 102 (by decide))
  have e104 : (u.1 0 104).toInt = (v.1 0 104).toInt := congrArg Int32.toInt (fr.2.1 104 (by decide))
  exact ⟨ad, u, List.Perm.refl _, rfl, RI.fr hR0 (FG.h fr) (by decide) (by decide) (by omega) (by omega) (by omega) (by omega) (by omega), e2.trans hot, e94.trans hog, ⟨(by rw [fr.2.2 103 (by decide), fr.2.1 104 (by decide)]; exact hox.1), fun p9 hp9 => (congrFun (fr.2.2 1 (by decide)) p9).trans (hox.2.1 p9 (by omega)), (hox.2.2.1.fr (fun k hk => fr.2.1 k (by revert k; decide)) (fun a ha => fr.2.2 a (by revert a; decide))), (hox.2.2.2.fr (Int.le_refl _) (fun k hk => fr.2.1 k (by revert k; decide)) (fun a ha => fr.2.2 a (by revert a; decide)))⟩, gz, v, u, hox.2.2.2, ex, rfl⟩
set_option maxHeartbeats 4000000 in
set_option maxRecDepth 100000 in
theorem rl_left (l : Launch) (dC : Nat → ClassId) (dI : Nat → Nat → Nat) (cI cB cZ cJ cR : ClassId) (tb : Nat → Nat) (sz m0 N : Nat) (B : Int) (U : va_W) (hN1 : 256 ≤ N) (hN2 : N ≤ 4096) (hB0 : 0 ≤ B) (hB : B + 50000 ≤ 200000000) (tz gz : Int) (xz : ZG) (hU : MIW N B m0 cI cZ cJ tz gz xz U) (pa : Int32) (pb : Int32) : Met l yX13_left (Cond.code yX13_left cX13_left 3 (some .int) :: tw_W) ({ frames := 0, cells := 0, slots := 0, locals := 0 }) (pc_ (dC, dI) (tyS cI cB cZ cJ cR) tb U sz [.ref m0, .int pa, .int pb]) (qi_ (dC, dI) U sz (fun (r : Int32) (u : va_W) => MIT N (B + 50000) m0 cI cZ cJ tz gz xz (fun x9 : Int => HMl xz pa pb x9 r) u) (fun (u : va_W) => u)) 0 0 (va_A U sz) := by
  obtain ⟨ad, v, hpm, rfl, hR, hot, hog, hox⟩ := hU
  have hR0 := hR
  obtain ⟨zta, zb, zg, zu, zp, zsm, ⟨a16, a17, a18, a19, a20, a21, a23, a24, a25, a29, a35, a37, a38, a40, fx⟩, a7, a8, ⟨a78, a79, a80, a81, a82, a83, a84, a85, a86, a87, a88⟩, bg, bf⟩ := hR
  refine Met.lift_i (R := []) _ (List.Perm.trans hpm (p_nil _)) (c_m_left l dC dI cI cB cZ cJ cR tb sz ad N v pa pb bf (by omega) (by omega)) (fun r u hpo => ?_)
  rw [List.append_nil]
  obtain ⟨fr, ex⟩ := hpo
  have e2 : (u.1 0 2).toInt = (v.1 0 2).toInt := congrArg Int32.toInt (fr.2.1 2 (by decide))
  have e94 : (u.1 0 94).toInt = (v.1 0 94).toInt := congrArg Int32.toInt (fr.2.1 94 (by decide))
  have e95 : (u.1 0 95).toInt = (v.1 0 95).toInt := congrArg Int32.toInt (fr.2.1 95 (by decide))
  have e102 : (u.1 0 102).toInt = (v.1 0 102).toInt := congrArg Int32.toInt (fr.2.1 102 (by decide))
  have e104 : (u.1 0 104).toInt = (v.1 0 104).toInt := congrArg Int32.toInt (fr.2.1 104 (by decide))
  exact ⟨ad, u, List.Perm.refl _, rfl, RI.fr hR0 (FG.h fr) (by decide) (by decide) (by omega) (by omega) (by omega) (by omega) (by omega), e2.trans hot, e94.trans hog, ⟨(by rw [fr.2.2 103 (by decide), fr.2.1 104 (by decide)]; exact hox.1), fun p9 hp9 => (congrFun (fr.2.2 1 (by decide)) p9).trans (hox.2.1 p9 (by omega)), (hox.2.2.1.fr (fun k hk => fr.2.1 k (by revert k; decide)) (fun a ha => fr.2.2 a (by revert a; decide))), (hox.2.2.2.fr (Int.le_refl _) (fun k hk => fr.2.1 k (by revert k; decide)) (fun a ha => fr.2.2 a (by revert a; decide)))⟩, gz, v, u, hox.2.2.2, hox.2.2.1, ex, rfl⟩
set_option maxHeartbeats 4000000 in
set_option maxRecDepth 100000 in
theorem rl_work (l : Launch) (dC : Nat → ClassId) (dI : Nat → Nat → Nat) (cI cB cZ cJ cR : ClassId) (tb : Nat → Nat) (sz m0 N : Nat) (B : Int) (U : va_W) (hN1 : 256 ≤ N) (hN2 : N ≤ 4096) (hB0 : 0 ≤ B) (hB : B + 50000 ≤ 200000000) (tz gz : Int) (xz : ZG) (hU : MIW N B m0 cI cZ cJ tz gz xz U) (pa : Int32) (pb : Int32) (pc1 : Int32) (pd : Int32) : Met l yX13_work (Cond.code yX13_work cX13_work 6 (some .int) :: tw_W) ({ frames := 4, cells := 0, slots := 0, locals := 88 }) (pc_ (dC, dI) (tyS cI cB cZ cJ cR) tb U sz [.ref m0, .int pa, .int pb, .int pc1, .int pd]) (qi_ (dC, dI) U sz (fun (r : Int32) (u : va_W) => ∃ m9 : MS, ∀ c9 : MS × List Nat × List Nat, MIT N (B + 50000) m0 cI cZ cJ tz gz (xz.cw c9 m9) (fun x9 : Int => HMw N gz xz pa pb pc1 pd x9 r m9) u) (fun (u : va_W) => u)) 0 0 (va_A U sz) := by
  obtain ⟨ad, v, hpm, rfl, hR, hot, hog, hox⟩ := hU
  have hR0 := hR
  obtain ⟨zta, zb, zg, zu, zp, zsm, ⟨a16, a17, a18, a19, a20, a21, a23, a24, a25, a29, a35, a37, a38, a40, fx⟩, a7, a8, ⟨a78, a79, a80, a81, a82, a83, a84, a85, a86, a87, a88⟩, bg, bf⟩ := hR
  refine Met.lift_i (R := []) _ (List.Perm.trans hpm (p_nil _)) (c_m_work l dC dI cI cB cZ cJ cR tb sz ad N v pa pb pc1 pd bg bf (by omega) (by omega) (by omega) (by omega) (by omega) (by omega) a78 a79 a82) (fun r u hpo => ?_)
  rw [List.append_nil]
  obtain ⟨fr, ex⟩ := hpo
  have e2 : (u.1 0 2).toInt = (v.1 0 2).toInt := congrArg Int32.toInt (fr.2.1 2 (by decide))
  have e94 : (u.1 0 94).toInt = (v.1 0 94).toInt := congrArg Int32.toInt (fr.2.1 94 (by decide))
  have e95 : (u.1 0 95).toInt = (v.1 0 95).toInt := congrArg Int32.toInt (fr.2.1 95 (by decide))
  have e102 : (u.1 0 102).toInt = (v.1 0 102).toInt := congrArg Int32.toInt (fr.2.1 102 (by decide))
  have e104 : (u.1 0 104).toInt = (v.1 0 104).toInt := congrArg Int32.toInt (fr.2.1 104 (by decide))
  exact ⟨_, fun c9 => ⟨ad, u, List.Perm.refl _, rfl, RI.fr hR0 (FG.h fr) (by decide) (by decide) (by omega) (by omega) (by omega) (by omega) (by omega), e2.trans hot, e94.trans hog, ⟨(by rw [fr.2.2 103 (by decide), fr.2.1 104 (by decide)]; exact hox.1), fun p9 hp9 => (congrFun (fr.2.2 1 (by decide)) p9).trans (hox.2.1 p9 (by omega)), (hox.2.2.1.fr (fun k hk => fr.2.1 k (by revert k; decide)) (fun a ha => fr.2.2 a (by revert a; decide))), MEz.wk hox.2.2.2 ex (fr.2.2 93 (by decide))⟩, v, u, hox.2.2.2, hox.2.2.1, hog, ⟨fun k hk => fr.2.1 k (by revert k; decide), fun a ha => fr.2.2 a (by revert a; decide)⟩, ex, rfl, rfl⟩⟩
set_option maxHeartbeats 4000000 in
set_option maxRecDepth 100000 in
theorem rl_thrown (l : Launch) (dC : Nat → ClassId) (dI : Nat → Nat → Nat) (cI cB cZ cJ cR : ClassId) (tb : Nat → Nat) (sz m0 N : Nat) (B : Int) (tz gz : Int) (xz : ZG) (T : Int → Prop) (U : va_W) (hU : MIT N B m0 cI cZ cJ tz gz xz T U) : Met l yX13_thrown (Cond.code yX13_thrown cX13_thrown 1 (some .int) :: tw_W) ({ frames := 0, cells := 0, slots := 0, locals := 0 }) (pc_ (dC, dI) (tyS cI cB cZ cJ cR) tb U sz [.ref m0]) (qi_ (dC, dI) U sz (fun (r : Int32) (u : va_W) => MIW N B m0 cI cZ cJ tz gz xz u ∧ T r.toInt) (fun (u : va_W) => u)) 0 0 (va_A U sz) := by
  obtain ⟨ad, v, hpm, rfl, hR, hot, hog, hox, ht⟩ := hU
  refine Met.lift_i (R := []) _ (List.Perm.trans hpm (p_nil _)) (c_m_thrown l dC dI cI cB cZ cJ cR tb sz ad N v) (fun r u hpo => ?_)
  rw [List.append_nil]
  obtain ⟨rfl, hr⟩ := hpo
  exact ⟨⟨ad, v, List.Perm.refl _, rfl, hR, hot, hog, hox⟩, by rw [hr]; exact ht⟩
def mX1 (ad : Nat → Nat) (N : Nat) (cI cZ cJ : ClassId) (v : MS) : va_W := [(ad 1, .inl (cI, 4000, .inl (v.1 1))), (ad 3, .inl (cI, 4000, .inl (v.1 3))), (ad 6, .inl (cI, 4002, .inl (v.1 6))), (ad 7, .inl (cI, 4002, .inl (v.1 7))), (ad 8, .inl (cI, 4002, .inl (v.1 8))), (ad 9, .inl (cJ, 4002, .inr (.inl v.2))), (ad 10, .inl (cZ, 4002, .inl (v.1 10))), (ad 11, .inl (cI, 24000, .inl (v.1 11))), (ad 13, .inl (cI, 16000, .inl (v.1 13))), (ad 14, .inl (cI, 16000, .inl (v.1 14))), (ad 16, .inl (cI, 40, .inl (v.1 16))), (ad 17, .inl (cI, 40, .inl (v.1 17))), (ad 18, .inl (cI, 40, .inl (v.1 18))), (ad 19, .inl (cI, 40, .inl (v.1 19))), (ad 20, .inl (cI, 40, .inl (v.1 20))), (ad 21, .inl (cI, 40, .inl (v.1 21))), (ad 23, .inl (cI, 60, .inl (v.1 23))), (ad 24, .inl (cI, 60, .inl (v.1 24))), (ad 25, .inl (cI, 60, .inl (v.1 25))), (ad 26, .inl (cZ, 60, .inl (v.1 26))), (ad 29, .inl (cI, 501, .inl (v.1 29))), (ad 35, .inl (cI, 4000, .inl (v.1 35))), (ad 36, .inl (cI, 4000, .inl (v.1 36))), (ad 37, .inl (cI, 4000, .inl (v.1 37))), (ad 38, .inl (cI, 4000, .inl (v.1 38))), (ad 40, .inl (cI, 24000, .inl (v.1 40))), (ad 41, .inl (cI, 24000, .inl (v.1 41))), (ad 42, .inl (cI, 24000, .inl (v.1 42))), (ad 61, .inl (cI, 42, .inl (v.1 61))), (ad 62, .inl (cI, 42, .inl (v.1 62))), (ad 63, .inl (cI, 42, .inl (v.1 63))), (ad 64, .inl (cI, 42, .inl (v.1 64))), (ad 65, .inl (cI, 42, .inl (v.1 65))), (ad 66, .inl (cI, 42, .inl (v.1 66))), (ad 70, .inl (cI, 24000, .inl (v.1 70))), (ad 71, .inl (cI, 16000, .inl (v.1 71))), (ad 72, .inl (cI, 16000, .inl (v.1 72))), (ad 78, .inl (cI, 40, .inl (v.1 78))), (ad 79, .inl (cI, 40, .inl (v.1 79))), (ad 80, .inl (cI, 40, .inl (v.1 80))), (ad 81, .inl (cI, 40, .inl (v.1 81))), (ad 82, .inl (cI, 40, .inl (v.1 82))), (ad 83, .inl (cI, 40, .inl (v.1 83))), (ad 84, .inl (cI, 40, .inl (v.1 84))), (ad 85, .inl (cI, 60, .inl (v.1 85))), (ad 86, .inl (cI, 60, .inl (v.1 86))), (ad 87, .inl (cI, 60, .inl (v.1 87))), (ad 88, .inl (cI, 60, .inl (v.1 88))), (ad 89, .inl (cZ, 60, .inl (v.1 89))), (ad 90, .inl (cI, 4000, .inl (v.1 90))), (ad 93, .inl (cI, 64, .inl (v.1 93))), (ad 96, .inl (cI, N, .inl (v.1 96))), (ad 97, .inl (cI, 32, .inl (v.1 97))), (ad 101, .inl (cI, 200, .inl (v.1 101)))]
def mX2 (ad : Nat → Nat) (N : Nat) (cI cZ cJ : ClassId) (v : MS) : va_W := [(ad 105, .inl (cI, 24000, .inl (v.1 105))), (ad 107, .inl (cI, 2100, .inl (v.1 107))), (ad 108, .inl (cI, 2100, .inl (v.1 108))), (ad 109, .inl (cI, 2100, .inl (v.1 109))), (ad 117, .inl (cI, 4200, .inl (v.1 117))), (ad 118, .inl (cI, 200, .inl (v.1 118))), (ad 46, .inr (15, [.null, .null, .null, .null, .null, .int 0]))]
theorem mp_show (ad : Nat → Nat) (N : Nat) (cI cZ cJ : ClassId) (v : MS) : (mW ad N cI cZ cJ v).Perm ([(ad 0, .inr (16, mF ad v)), (ad 103, .inl (cI, 60, .inl (v.1 103)))] ++ (mX1 ad N cI cZ cJ v ++ mX2 ad N cI cZ cJ v)) := List.Perm.cons _ (List.perm_middle (l₁ := mX1 ad N cI cZ cJ v) (l₂ := mX2 ad N cI cZ cJ v))
def wS (v : MS) (k : Nat) (f : Nat → Int32) : MS := wF (wA (wA v 0 0 0) 0 104 (nI k)) 103 f
set_option maxRecDepth 100000 in
theorem wS_1 (ad : Nat → Nat) (N : Nat) (cI cZ cJ : ClassId) (v : MS) (k : Nat) (f : Nat → Int32) : mX1 ad N cI cZ cJ (wS v k f) = mX1 ad N cI cZ cJ v := rfl
set_option maxRecDepth 100000 in
theorem wS_2 (ad : Nat → Nat) (N : Nat) (cI cZ cJ : ClassId) (v : MS) (k : Nat) (f : Nat → Int32) : mX2 ad N cI cZ cJ (wS v k f) = mX2 ad N cI cZ cJ v := rfl
set_option maxRecDepth 100000 in
theorem wS_f (ad : Nat → Nat) (v : MS) (k : Nat) (f : Nat → Int32) : mF ad (wS v k f) = fsN ((mF ad v).set 0 (.int 0)) k := rfl
theorem wS_h (v : MS) (k : Nat) (f : Nat → Int32) : FH [0, 104] [0, 103] v (wS v k f) := by
  refine ⟨trivial, fun j hj => ?_, fun a ha => ?_⟩
  · show (upd (upd (v.1 0) 0 0) 104 (nI k)) j = v.1 0 j
    rw [pk_un (fun q => hj (by rw [q]; decide)), pk_un (fun q => hj (by rw [q]; decide))]
  · show (if a = 103 then f else if a = 0 then _ else if a = 0 then _ else v.1 a) = v.1 a
    rw [if_neg (fun q => ha (by rw [q]; decide)), if_neg (fun q => ha (by rw [q]; decide)), if_neg (fun q => ha (by rw [q]; decide))]
set_option maxHeartbeats 4000000 in
set_option maxRecDepth 100000 in
theorem rl_show (l : Launch) (dC : Nat → ClassId) (dI : Nat → Nat → Nat) (cI cB cZ cJ cR : ClassId) (tb : Nat → Nat) (sz m0 N : Nat) (B : Int) (U : va_W) (hN1 : 256 ≤ N) (hN2 : N ≤ 4096) (hB0 : 0 ≤ B) (hB : B + 50000 ≤ 200000000) (tz gz : Int) (xz : ZG) (hU : MIW N B m0 cI cZ cJ tz gz xz U) (pa : Int32) : Met l yX13_show (Cond.code yX13_show cX13_show 8 (some .int) :: tw_W) ({ frames := 5, cells := 4, slots := 32, locals := 107 }) (pc_ (dC, dI) (tyS cI cB cZ cJ cR) tb U sz [.ref m0, .int pa]) (qi_ (dC, dI) U sz (fun (r : Int32) (u : va_W) => MIW N (B + 50000) m0 cI cZ cJ tz gz (xz.sh (tM pa)) u ∧ r.toInt = (nI (lenM pa)).toInt) (fun (u : va_W) => u)) 4 32 (va_A U sz) := by
  obtain ⟨ad, v, hpm, rfl, hR, hot, hog, hox⟩ := hU
  have hR0 := hR
  obtain ⟨zta, zb, zg, zu, zp, zsm, ⟨a16, a17, a18, a19, a20, a21, a23, a24, a25, a29, a35, a37, a38, a40, fx⟩, a7, a8, ⟨a78, a79, a80, a81, a82, a83, a84, a85, a86, a87, a88⟩, bg, bf⟩ := hR
  refine Met.lift_i (R := mX1 ad N cI cZ cJ v ++ mX2 ad N cI cZ cJ v) _ (List.Perm.trans hpm (mp_show ad N cI cZ cJ v)) (c_sx_mshow l dC dI cI cB cZ cJ cR tb sz (ad 0) (ad 103) (mF ad v) (v.1 103) pa rfl rfl) (fun r u hpo => ?_)
  obtain ⟨kZ, fZ⟩ := u
  obtain ⟨hk, hrl, hTA⟩ := hpo
  have hk : kZ ≤ 60 := hk
  refine ⟨⟨ad, wS v kZ fZ, ?_, rfl, RI.fr hR0 (wS_h v kZ fZ) (by decide) (by decide) ?_ ?_ ?_ ?_ ?_, hot, hog, ⟨HX.of hTA (by omega), hox.2.1, hox.2.2.1.fr (fun k hk => (wS_h v kZ fZ).2.1 k (by revert k; decide)) (fun a ha => (wS_h v kZ fZ).2.2 a (by revert a; decide)), hox.2.2.2.fr (Int.le_refl _) (fun k hk => (wS_h v kZ fZ).2.1 k (by revert k; decide)) (fun a ha => (wS_h v kZ fZ).2.2 a (by revert a; decide))⟩⟩, congrArg Int32.toInt hrl⟩
  · have h1 := (mp_show ad N cI cZ cJ (wS v kZ fZ)).symm
    rw [wS_1, wS_2, wS_f] at h1
    exact h1
  · exact zta
  · exact zg
  · exact ⟨zu.1, by have := zu.2; show (v.1 0 95).toInt ≤ _; omega⟩
  · exact ⟨zp.1, by have := zp.2; show (v.1 0 102).toInt ≤ _; omega⟩
  · have e : (nI kZ).toInt = (kZ : Int) := nI_Z (by omega)
    show 0 ≤ (nI kZ).toInt ∧ (nI kZ).toInt ≤ 60
    omega
