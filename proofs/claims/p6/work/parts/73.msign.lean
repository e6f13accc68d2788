set_option maxHeartbeats 4000000 in
set_option maxRecDepth 100000 in
theorem c_m_isSign2 (l : Launch) (dC : Nat → ClassId) (dI : Nat → Nat → Nat) (cI cB cZ cJ cR : ClassId) (tb : Nat → Nat) (sz : Nat) (ad : Nat → Nat) (N : Nat) (v : MS) (pa : Int32) (pb : Int32) (zk : 0 ≤ pa.toInt ∧ pa.toInt < 4002) : Met l yX13_isSign (Cond.code yX13_isSign cX13_isSign 3 (some .boolean) :: tw_W) ({ frames := 0, cells := 0, slots := 0, locals := 0 }) (pc_ (dC, dI) (tyS cI cB cZ cJ cR) tb (mW ad N cI cZ cJ v) sz [.ref (ad 0), .int pa, .int pb]) (qi_ (dC, dI) (mW ad N cI cZ cJ v) sz (fun (r : Int32) (u : MS) => v = u ∧ (Q_m_isSign2 v pa pb r) ∧ (r = 0 ∨ r = 1) ∧ (0 ≤ r.toInt ∧ r.toInt ≤ 1) ∧ r.toInt = (sgn (v.1 6) v.2 pa.toNatClampNeg pb).toInt) (fun (u : MS) => (mW ad N cI cZ cJ u))) 0 0 (va_A (mW ad N cI cZ cJ v) sz) := by
  refine Met.ofW (cc := cX13_isSign) (maxL := 3) (ret := (some .boolean)) (by decide) rfl ?_
  intro p e s m args below meth c s₁ B hml hv
  obtain ⟨rfl, hsz, hP, hKK, hD0, hFx⟩ := hv
  have hK := hKK.1
  have hx := B.exec
  have hb := B.bytes
  have hr := B.returns
  have ht : ∀ w ∈ tw_W, w.before _ s = true := fun w h => atoms_spec (ws := Cond.code yX13_isSign cX13_isSign 3 (some .boolean) :: tw_W) B.pre w (List.mem_cons_of_mem _ h)
  have hown : s.vm.findClass RX13 = some m.cls := findClass_of_methodNamed B.named
  have hlocks := B.notSynchronized
  subst hsz
  unfold qi_
  have hD := hD0.self (sz := s.heap.size)
  generalize hAe : va_A (mW ad N cI cZ cJ v) s.heap.size = A at hD hFx ⊢
  have hA : ∀ q : Nat, s.heap.size ≤ q → A q := fun q h => by rw [← hAe]; exact Or.inr h
  have hS : va_S A s.heap s.heap [] := va_S.rf
  have hl := lv_entry ([.ref (ad 0), .int pa, .int pb]) (n := 3) (Nat.le_of_ble_eq_true rfl)
  rw [lg_entry_eq]
  generalize (lg_sl ([.ref (ad 0), .int pa, .int pb]) ++ List.replicate (3 - (lg_sl ([.ref (ad 0), .int pa, .int pb])).length) Slot.unset).toArray = ls at hl ⊢
  have hl : lv_has ls 3 [(0, .ref (ad 0)), (1, .int pa), (2, .int pb)] := hl
  refine lv_aload_n hx hb dX13_isSign_0 rfl (lv_at hl 0 rfl) ?_
  refine va_get (D := (dC, dI)) (ci := 16) (fs := mF ad v) (v := .ref (ad 6)) (C := RX13) (T := TX13) (N := 124) hx hb ht itX13 hown hK hP 0 rfl rfl 6 (by decide) (ht _ tw_23) (fun _ h9 => h9) rfl dX13_isSign_1 ?_
  refine lv_iload_n hx hb dX13_isSign_4 rfl (lv_at hl 1 rfl) ?_
  refine va_iald (D := (dC, dI)) (f := (v.1 6)) hx hb hK hP 3 0 rfl rfl (in_y (a := pa.toInt) (b := 4002) rfl (om_bf055a4924 zk) (om_8b13c17066 zk) rfl) dX13_isSign_5 ?_
  refine lv_iconst (v := 5) hx hb dX13_isSign_6 (by decide) ?_
  refine lv_icmp_ne (tgt := 26) hx hb dX13_isSign_7 (by decide) (fun h1 => ?_) (fun h1 => ?_)
  · have z2 : ((v.1 6) pa.toNatClampNeg).toInt ≠ (5 : Int) := ne_z rfl (show (5 : Int32).toInt = (5 : Int) by decide) h1
    refine lv_iconst (v := 0) hx hb dX13_isSign_26 (by decide) ?_
    exact W.zret (v := 0) hx hb hr rfl (fun t ht9 hW => ⟨⟨0, v, rfl, ⟨rfl, ⟨zk, (Or.inl ⟨z2, rfl⟩)⟩, ⟨Or.inl rfl, (by decide), (sgn_0 (Or.inl z2))⟩⟩, by rw [ht9]; exact hP, hD⟩, hS.F ht9⟩) hS.2.2 dX13_isSign_27
  · have z3 : ((v.1 6) pa.toNatClampNeg).toInt = (5 : Int) := eq_z rfl (show (5 : Int32).toInt = (5 : Int) by decide) h1
    refine lv_aload_n hx hb dX13_isSign_10 rfl (lv_at hl 0 rfl) ?_
    refine va_get (D := (dC, dI)) (ci := 16) (fs := mF ad v) (v := .ref (ad 9)) (C := RX13) (T := TX13) (N := 124) hx hb ht itX13 hown hK hP 0 rfl rfl 9 (by decide) (ht _ tw_27) (fun _ h9 => h9) rfl dX13_isSign_11 ?_
    refine lv_iload_n hx hb dX13_isSign_14 rfl (lv_at hl 1 rfl) ?_
    refine va_lald (D := (dC, dI)) (f := v.2) hx hb hK hP 6 3 rfl rfl (in_y (a := pa.toInt) (b := 4002) rfl (om_bf055a4924 zk) (om_8b13c17066 zk) rfl) dX13_isSign_15 ?_
    refine lv_iload_n hx hb dX13_isSign_16 rfl (lv_at hl 2 rfl) ?_
    refine lv_i2l hx hb dX13_isSign_17 rfl ?_
    refine W.lcmp hx hb dX13_isSign_18 ?_
    refine lv_if_ne (tgt := 26) hx hb dX13_isSign_19 (by decide) (fun h4 => ?_) (fun h4 => ?_)
    · have z5 : (lg_cmp (v.2 pa.toNatClampNeg) (pb).toInt64).toInt ≠ (0 : Int) := ne_z rfl (show (0 : Int32).toInt = (0 : Int) by decide) h4
      refine lv_iconst (v := 0) hx hb dX13_isSign_26 (by decide) ?_
      exact W.zret (v := 0) hx hb hr rfl (fun t ht9 hW => ⟨⟨0, v, rfl, ⟨rfl, ⟨zk, (Or.inr (⟨z3, (Or.inl ⟨z5, rfl⟩)⟩))⟩, ⟨Or.inl rfl, (by decide), (sgn_0 (Or.inr z5))⟩⟩, by rw [ht9]; exact hP, hD⟩, hS.F ht9⟩) hS.2.2 dX13_isSign_27
    · have z6 : (lg_cmp (v.2 pa.toNatClampNeg) (pb).toInt64).toInt = (0 : Int) := eq_z rfl (show (0 : Int32).toInt = (0 : Int) by decide) h4
      refine lv_iconst (v := 1) hx hb dX13_isSign_22 (by decide) ?_
      refine lv_goto (tgt := 27) hx hb dX13_isSign_23 (by decide) ?_
      exact W.zret (v := 1) hx hb hr rfl (fun t ht9 hW => ⟨⟨1, v, rfl, ⟨rfl, ⟨zk, (Or.inr (⟨z3, (Or.inr (⟨z6, rfl⟩))⟩))⟩, ⟨Or.inr rfl, (by decide), (sgn_1 z3 z6)⟩⟩, by rw [ht9]; exact hP, hD⟩, hS.F ht9⟩) hS.2.2 dX13_isSign_27
set_option maxHeartbeats 4000000 in
set_option maxRecDepth 100000 in
theorem c_m_is2 (l : Launch) (dC : Nat → ClassId) (dI : Nat → Nat → Nat) (cI cB cZ cJ cR : ClassId) (tb : Nat → Nat) (sz : Nat) (ad : Nat → Nat) (N : Nat) (v : MS) (pa : Int32) (zt : 0 ≤ (v.1 0 47).toInt ∧ (v.1 0 47).toInt ≤ 1500) : Met l yX13_is (Cond.code yX13_is cX13_is 2 (some .boolean) :: tw_W) ({ frames := 1, cells := 0, slots := 0, locals := 22 }) (pc_ (dC, dI) (tyS cI cB cZ cJ cR) tb (mW ad N cI cZ cJ v) sz [.ref (ad 0), .int pa]) (qi_ (dC, dI) (mW ad N cI cZ cJ v) sz (fun (r : Int32) (u : MS) => v = u ∧ (Q_m_is2 v pa r) ∧ (r = 0 ∨ r = 1) ∧ (0 ≤ r.toInt ∧ r.toInt ≤ 1) ∧ r.toInt = (sgn (v.1 6) v.2 (v.1 0 47).toNatClampNeg pa).toInt) (fun (u : MS) => (mW ad N cI cZ cJ u))) 0 0 (va_A (mW ad N cI cZ cJ v) sz) := by
  refine Met.ofW (cc := cX13_is) (maxL := 2) (ret := (some .boolean)) (by decide) rfl ?_
  intro p e s m args below meth c s₁ B hml hv
  obtain ⟨rfl, hsz, hP, hKK, hD0, hFx⟩ := hv
  have hK := hKK.1
  have hx := B.exec
  have hb := B.bytes
  have hr := B.returns
  have ht : ∀ w ∈ tw_W, w.before _ s = true := fun w h => atoms_spec (ws := Cond.code yX13_is cX13_is 2 (some .boolean) :: tw_W) B.pre w (List.mem_cons_of_mem _ h)
  have hown : s.vm.findClass RX13 = some m.cls := findClass_of_methodNamed B.named
  have hlocks := B.notSynchronized
  subst hsz
  unfold qi_
  have hD := hD0.self (sz := s.heap.size)
  generalize hAe : va_A (mW ad N cI cZ cJ v) s.heap.size = A at hD hFx ⊢
  have hA : ∀ q : Nat, s.heap.size ≤ q → A q := fun q h => by rw [← hAe]; exact Or.inr h
  have hS : va_S A s.heap s.heap [] := va_S.rf
  have hl := lv_entry ([.ref (ad 0), .int pa]) (n := 2) (Nat.le_of_ble_eq_true rfl)
  rw [lg_entry_eq]
  generalize (lg_sl ([.ref (ad 0), .int pa]) ++ List.replicate (2 - (lg_sl ([.ref (ad 0), .int pa])).length) Slot.unset).toArray = ls at hl ⊢
  have hl : lv_has ls 2 [(0, .ref (ad 0)), (1, .int pa)] := hl
  refine lv_aload_n hx hb dX13_is_0 rfl (lv_at hl 0 rfl) ?_
  refine lv_aload_n hx hb dX13_is_1 rfl (lv_at hl 0 rfl) ?_
  refine va_get (D := (dC, dI)) (ci := 16) (fs := mF ad v) (v := .int (v.1 0 47)) (C := RX13) (T := TX13) (N := 124) hx hb ht itX13 hown hK hP 0 rfl rfl 47 (by decide) (ht _ tw_24) (fun _ h9 => h9) rfl dX13_is_2 ?_
  refine lv_iload_n hx hb dX13_is_5 rfl (lv_at hl 1 rfl) ?_
  refine cu_i (rn_V (n := 2) (As := [.int (v.1 0 47), .int pa]) (rest := []) hx hb hml hown ht hKK hFx hP hD hS hA (c_m_isSign2 l dC dI cI cB cZ cJ cR tb s.heap.size ad N v (v.1 0 47) pa (show 0 ≤ (v.1 0 47).toInt ∧ (v.1 0 47).toInt < 4002 from (om_5c36fd3f9e zt))) tw_28 tw_29 (by decide +kernel) rfl rfl ⟨Nat.le_of_ble_eq_true rfl, Nat.le_of_ble_eq_true rfl⟩ (List.range (mW ad N cI cZ cJ v).length) (rg_map _) (mW_nd _ _ _ _ _ _) rfl rfl rfl rfl hl.1 rfl (Nat.le_of_ble_eq_true rfl) dX13_is_6 ⟨Nat.le_of_ble_eq_true rfl, Nat.le_of_ble_eq_true rfl⟩) hP hD hS hA (fun r3 u2 H locs hw1 hP hD hS => ?_)
  obtain ⟨rfl, ex1, b1, e1, g1⟩ := hw1
  refine W.widen (k := 0) (n := 0) (Nat.le_refl _) (Nat.le_refl _) ?_
  exact W.zret (v := r3) hx hb hr (bz_ b1) (fun t ht9 hW => ⟨⟨r3, v, rfl, ⟨rfl, ⟨zt, r3, ex1, ⟨b1, e1, g1⟩, rfl⟩, ⟨b1, e1, g1⟩⟩, by rw [ht9]; exact hP, hD⟩, hS.F ht9⟩) hS.2.2 dX13_is_9
theorem om_7f5e9b0fd1 {x0 x1 x2 x3 : Int} (h0 : (0 ≤ x0 ∧ x0 ≤ 1)) (h1 : x0 = x1) (h2 : x0 ≠ (0 : Int)) (h3 : x2 < 1500) (h4 : x3 ≠ x2) : x2 < 1500 ∧ x3 ≠ x2 ∧ x1 = 1 := by omega
set_option maxHeartbeats 4000000 in
set_option maxRecDepth 100000 in
theorem c_m_need2 (l : Launch) (dC : Nat → ClassId) (dI : Nat → Nat → Nat) (cI cB cZ cJ cR : ClassId) (tb : Nat → Nat) (sz : Nat) (ad : Nat → Nat) (N : Nat) (v : MS) (pa : Int32) (zt : 0 ≤ (v.1 0 47).toInt ∧ (v.1 0 47).toInt ≤ 1500) : vx_Met l yX13_need (Cond.code yX13_need cX13_need 2 none :: tw_W) ({ frames := 2, cells := 0, slots := 0, locals := 43 }) (pc_ (dC, dI) (tyS cI cB cZ cJ cR) tb (mW ad N cI cZ cJ v) sz [.ref (ad 0), .int pa]) (qv_ (dC, dI) (mW ad N cI cZ cJ v) sz (fun (u : MS) => (wA v 0 47 ((v.1 0 47) + (1 : Int32))) = u ∧ (Q_m_need2 v pa false u) ∧ (v.1 0 47).toInt < 1500 ∧ (v.1 0 49).toInt ≠ (v.1 0 47).toInt ∧ (sgn (v.1 6) v.2 (v.1 0 47).toNatClampNeg pa).toInt = 1) (fun (u : MS) => (mW ad N cI cZ cJ u))) (qxm (dC, dI) (mW ad N cI cZ cJ v) sz (fun (u : MS) => (mW ad N cI cZ cJ u)) (fun (u : MS) => Fr v u ∧ (IV v → IV u) ∧ (Q_m_need2 v pa true u))) 0 0 (va_A (mW ad N cI cZ cJ v) sz) := by
  refine vx_ofW (cc := cX13_need) (maxL := 2) (ret := none) (by decide) rfl ?_
  intro p e s m args below meth c s₁ B hml hnt hv
  obtain ⟨rfl, hsz, hP, hKK, hD0, hFx⟩ := hv
  have hK := hKK.1
  have hx := B.exec
  have hb := B.bytes
  have hr := B.returns
  have ht : ∀ w ∈ tw_W, w.before _ s = true := fun w h => atoms_spec (ws := Cond.code yX13_need cX13_need 2 none :: tw_W) B.pre w (List.mem_cons_of_mem _ h)
  have hown : s.vm.findClass RX13 = some m.cls := findClass_of_methodNamed B.named
  have hlocks := B.notSynchronized
  subst hsz
  unfold qv_ qxm
  have hD := hD0.self (sz := s.heap.size)
  generalize hAe : va_A (mW ad N cI cZ cJ v) s.heap.size = A at hD hFx ⊢
  have hA : ∀ q : Nat, s.heap.size ≤ q → A q := fun q h => by rw [← hAe]; exact Or.inr h
  have hS : va_S A s.heap s.heap [] := va_S.rf
  have hl := lv_entry ([.ref (ad 0), .int pa]) (n := 2) (Nat.le_of_ble_eq_true rfl)
  rw [lg_entry_eq]
  generalize (lg_sl ([.ref (ad 0), .int pa]) ++ List.replicate (2 - (lg_sl ([.ref (ad 0), .int pa])).length) Slot.unset).toArray = ls at hl ⊢
  have hl : lv_has ls 2 [(0, .ref (ad 0)), (1, .int pa)] := hl
  refine lv_aload_n hx hb dX13_need_0 rfl (lv_at hl 0 rfl) ?_
  refine lv_iload_n hx hb dX13_need_1 rfl (lv_at hl 1 rfl) ?_
  refine cu_i (rn_V (n := 1) (As := [.int pa]) (rest := []) hx hb hml hown ht hKK hFx hP hD hS hA (c_m_is2 l dC dI cI cB cZ cJ cR tb s.heap.size ad N v pa (show 0 ≤ (v.1 0 47).toInt ∧ (v.1 0 47).toInt ≤ 1500 from (om_7897b4ccef zt))) tw_34 tw_35 (by decide +kernel) rfl rfl ⟨Nat.le_of_ble_eq_true rfl, Nat.le_of_ble_eq_true rfl⟩ (List.range (mW ad N cI cZ cJ v).length) (rg_map _) (mW_nd _ _ _ _ _ _) rfl rfl rfl rfl hl.1 rfl (Nat.le_of_ble_eq_true rfl) dX13_need_2 ⟨Nat.le_of_ble_eq_true rfl, Nat.le_of_ble_eq_true rfl⟩) hP hD hS hA (fun r3 u2 H locs hw1 hP hD hS => ?_)
  obtain ⟨rfl, ex1, b1, e1, g1⟩ := hw1
  refine W.widen (k := 0) (n := 0) (Nat.le_refl _) (Nat.le_refl _) ?_
  refine lv_if_ne (tgt := 13) hx hb dX13_need_5 (by decide) (fun h4 => ?_) (fun h4 => ?_)
  · have z5 : r3.toInt ≠ (0 : Int) := ne_z rfl (show (0 : Int32).toInt = (0 : Int) by decide) h4
    refine lv_aload_n hx hb dX13_need_13 rfl (lv_at hl 0 rfl) ?_
    refine cux_v (rx_V (n := 0) (As := []) (rest := []) hx hb hml hown ht hKK hFx hP hD hS hA (c_m_take l dC dI cI cB cZ cJ cR tb H.size ad N v  (show 0 ≤ (v.1 0 47).toInt ∧ (v.1 0 47).toInt ≤ 1500 from (om_7897b4ccef zt))) tw_32 tw_33 (by decide +kernel) rfl rfl ⟨Nat.le_of_ble_eq_true rfl, Nat.le_of_ble_eq_true rfl⟩ (List.range (mW ad N cI cZ cJ v).length) (rg_map _) (mW_nd _ _ _ _ _ _) rfl rfl rfl rfl hl.1 rfl (Nat.le_of_ble_eq_true rfl) dX13_need_14 ⟨Nat.le_of_ble_eq_true rfl, Nat.le_of_ble_eq_true rfl⟩) hP hD hS hA (fun u9 ce9 q9 H locs hx9 hP hD hS hc9 hv9 hf9 => ?_) (fun u7 H locs hw6 hP hD hS => ?_)
    · exact vx_out (fun x h9 => (hnt x h9).elim) hlocks hc9 hv9 hf9 (fun t9 ht9 hv8 => ⟨u9, ⟨FG.tr (FG.rf _) hx9.1, fun hiv => hx9.2.1 hiv, ⟨zt, r3, ex1, ⟨b1, e1, g1⟩, (Or.inl ⟨z5, (Or.inl ⟨u9, hx9.2.2, rfl, rfl⟩)⟩)⟩⟩, ⟨rfl, by rw [ht9]; exact hP, hD⟩, hS.F ht9⟩) hS.2.2 (Nat.le_refl _) (Nat.le_refl _)
    obtain ⟨rfl, ex6, a6, b6⟩ := hw6
    have z9 : ((v.1 0 47) + (1 : Int32)).toInt = ((v.1 0 47).toInt) + (1 : Int) := add_z rfl (show (1 : Int32).toInt = (1 : Int) by decide) (om_ecb8303fc5 zt) (om_27eb55d06c zt)
    have hP : va_P (dC, dI) vwCl (mW ad N cI cZ cJ (wA v 0 47 ((v.1 0 47) + (1 : Int32)))) H := hP
    have hD : va_D A (mW ad N cI cZ cJ (wA v 0 47 ((v.1 0 47) + (1 : Int32)))) := hD
    refine W.widen (k := 0) (n := 0) (Nat.le_refl _) (Nat.le_refl _) ?_
    refine vx_ret ?_
    exact W.vret hx hb hr (fun t ht9 hW => ⟨⟨(wA v 0 47 ((v.1 0 47) + (1 : Int32))), rfl, ⟨rfl, ⟨zt, r3, ex1, ⟨b1, e1, g1⟩, (Or.inl ⟨z5, (Or.inr (⟨ex6, ⟨a6, b6⟩, rfl, rfl⟩))⟩)⟩, (om_7f5e9b0fd1 e1 g1 z5 a6 b6)⟩, by rw [ht9]; exact hP, hD⟩, hS.F ht9⟩) hS.2.2 dX13_need_17
  · have z10 : r3.toInt = (0 : Int) := eq_z rfl (show (0 : Int32).toInt = (0 : Int) by decide) h4
    refine lv_aload_n hx hb dX13_need_8 rfl (lv_at hl 0 rfl) ?_
    refine cu_r (rn_V (n := 0) (As := []) (rest := []) hx hb hml hown ht hKK hFx hP hD hS hA (c_m_bad l dC dI cI cB cZ cJ cR tb H.size ad N v  (show 0 ≤ (v.1 0 47).toInt ∧ (v.1 0 47).toInt ≤ 1500 from (om_7897b4ccef zt))) tw_36 tw_37 (by decide +kernel) rfl rfl ⟨Nat.le_of_ble_eq_true rfl, Nat.le_of_ble_eq_true rfl⟩ (List.range (mW ad N cI cZ cJ v).length) (rg_map _) (mW_nd _ _ _ _ _ _) rfl rfl rfl rfl hl.1 rfl (Nat.le_of_ble_eq_true rfl) dX13_need_9 ⟨Nat.le_of_ble_eq_true rfl, Nat.le_of_ble_eq_true rfl⟩) hP hD hS hA (fun u12 H locs hw11 hP hD hS => ?_)
    obtain ⟨fr11, ex11⟩ := hw11
    refine W.widen (k := 0) (n := 0) (Nat.le_refl _) (Nat.le_refl _) ?_
    obtain ⟨ce9, hc9, hv9, hf9⟩ := halt_at hK hP
    refine um_athrow hx hb dX13_need_12 ?_
    exact vx_out (fun x h9 => (hnt x h9).elim) hlocks hc9 hv9 hf9 (fun t9 ht9 hv8 => ⟨u12, ⟨(FG.tr (FG.rf _) (FG.up fr11 (by decide) (by decide))), fun hiv => (IV.fr (fl := [50, 51]) (al := [0]) fr11 (by decide) hiv), ⟨zt, r3, ex1, ⟨b1, e1, g1⟩, (Or.inr (⟨z10, u12, ex11, fr11, rfl, rfl⟩))⟩⟩, ⟨rfl, by rw [ht9]; exact hP, hD⟩, hS.F ht9⟩) hS.2.2 (Nat.le_refl _) (Nat.le_refl _)
