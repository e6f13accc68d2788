theorem om_9c60add09e : ((-1 : Int) = -1) := by omega
theorem om_6990d70640 {x0 x1 : Int} (h0 : x0 = 0) (h1 : (0 : Int) ≤ x1) (h2 : x1 < x0) : False := by omega
set_option maxHeartbeats 4000000 in
set_option maxRecDepth 100000 in
theorem c_x_byteAt0 (l : Launch) (dC : Nat → ClassId) (dI : Nat → Nat → Nat) (cI cB cZ cJ cR : ClassId) (tb : Nat → Nat) (sz : Nat) (ad : Nat → Nat) (pr : Int32 → Nat) (N : Nat) (L1 L2 : List Nat) (v : MS) (pa : Int32) (z373 : 0 ≤ (v.1 0 373).toInt ∧ (v.1 0 373).toInt ≤ 4000) (zl0 : (v.1 0 373).toInt = 0) : Met l yX7_byteAt (Cond.code yX7_byteAt cX7_byteAt 2 (some .int) :: tw_W) ({ frames := 0, cells := 0, slots := 0, locals := 0 }) (pc_ (dC, dI) (tyS cI cB cZ cJ cR) tb (cW ad pr N cI cR L1 L2 v) sz [.ref (ad 908), .int pa]) (qi_ (dC, dI) (cW ad pr N cI cR L1 L2 v) sz (fun (r : Int32) (u : MS) => v = u ∧ (r.toInt = -1)) (fun (u : MS) => (cW ad pr N cI cR L1 L2 u))) 0 0 (va_A (cW ad pr N cI cR L1 L2 v) sz) := by
  refine Met.ofW (cc := cX7_byteAt) (maxL := 2) (ret := (some .int)) (by decide) rfl ?_
  intro p e s m args below meth c s₁ B hml hv
  obtain ⟨rfl, hsz, hP, hKK, hD0, hFx⟩ := hv
  have hK := hKK.1
  have hx := B.exec
  have hb := B.bytes
  have hr := B.returns
  have ht : ∀ w ∈ tw_W, w.before _ s = true := fun w h => atoms_spec (ws := Cond.code yX7_byteAt cX7_byteAt 2 (some .int) :: tw_W) B.pre w (List.mem_cons_of_mem _ h)
  have hown : s.vm.findClass RX7 = some m.cls := findClass_of_methodNamed B.named
  have hlocks := B.notSynchronized
  subst hsz
  unfold qi_
  have hD := hD0.self (sz := s.heap.size)
  generalize hAe : va_A (cW ad pr N cI cR L1 L2 v) s.heap.size = A at hD hFx ⊢
  have hA : ∀ q : Nat, s.heap.size ≤ q → A q := fun q h => by rw [← hAe]; exact Or.inr h
  have hS : va_S A s.heap s.heap [] := va_S.rf
  have hl := lv_entry ([.ref (ad 908), .int pa]) (n := 2) (Nat.le_of_ble_eq_true rfl)
  rw [lg_entry_eq]
  generalize (lg_sl ([.ref (ad 908), .int pa]) ++ List.replicate (2 - (lg_sl ([.ref (ad 908), .int pa])).length) Slot.unset).toArray = ls at hl ⊢
  have hl : lv_has ls 2 [(0, .ref (ad 908)), (1, .int pa)] := hl
  refine lv_iload_n hx hb dX7_byteAt_0 rfl (lv_at hl 1 rfl) ?_
  refine lv_if_lt (tgt := 21) hx hb dX7_byteAt_1 (by decide) (fun h1 => ?_) (fun h1 => ?_)
  · have z2 : pa.toInt < (0 : Int) := lt_z rfl (show (0 : Int32).toInt = (0 : Int) by decide) h1
    refine lv_iconst (v := -1) hx hb dX7_byteAt_21 (by decide) ?_
    exact W.iret (v := (-1)) hx hb hr (fun t ht9 hW => ⟨⟨(-1), v, rfl, ⟨rfl, om_9c60add09e⟩, by rw [ht9]; exact hP, hD⟩, hS.F ht9⟩) hS.2.2 dX7_byteAt_22
  · have z3 : (0 : Int) ≤ pa.toInt := nlt_z rfl (show (0 : Int32).toInt = (0 : Int) by decide) h1
    refine lv_iload_n hx hb dX7_byteAt_4 rfl (lv_at hl 1 rfl) ?_
    refine lv_aload_n hx hb dX7_byteAt_5 rfl (lv_at hl 0 rfl) ?_
    refine va_get (D := (dC, dI)) (ci := 10) (fs := oF_X7 ad pr v) (v := .int (v.1 0 373)) (C := RX7) (T := TX7) (N := 13) hx hb ht itX7 hown hK hP 8 rfl rfl 1 (by decide) (ht _ tw_390) (fun _ h9 => h9) rfl dX7_byteAt_6 ?_
    refine lv_icmp_ge (tgt := 21) hx hb dX7_byteAt_9 (by decide) (fun h4 => ?_) (fun h4 => ?_)
    · have z5 : (v.1 0 373).toInt ≤ pa.toInt := le_z rfl rfl h4
      refine lv_iconst (v := -1) hx hb dX7_byteAt_21 (by decide) ?_
      exact W.iret (v := (-1)) hx hb hr (fun t ht9 hW => ⟨⟨(-1), v, rfl, ⟨rfl, om_9c60add09e⟩, by rw [ht9]; exact hP, hD⟩, hS.F ht9⟩) hS.2.2 dX7_byteAt_22
    · have z6 : pa.toInt < (v.1 0 373).toInt := nle_z rfl rfl h4
      exact False.elim (om_6990d70640 zl0 z3 z6)
theorem om_086a29c9c2 {x0 : Int} (h0 : 0 ≤ x0 ∧ x0 ≤ 4000) (h1 : x0 = 0) : (x0 = 0) := by omega
theorem om_33f6f4caf6 {x0 x1 : Int} (h0 : x0 = 0) (h1 : x1 = 0) (h2 : x1 < x0) : False := by omega
set_option maxHeartbeats 4000000 in
set_option maxRecDepth 100000 in
theorem c_x_behindBlanks0 (l : Launch) (dC : Nat → ClassId) (dI : Nat → Nat → Nat) (cI cB cZ cJ cR : ClassId) (tb : Nat → Nat) (sz : Nat) (ad : Nat → Nat) (pr : Int32 → Nat) (N : Nat) (L1 L2 : List Nat) (v : MS) (pa : Int32) (ps : Int32) (z373 : 0 ≤ (v.1 0 373).toInt ∧ (v.1 0 373).toInt ≤ 4000) (hps : pr ps = ad 908) (es300 : (v.1 0 300) = ps) (zl0 : (v.1 0 373).toInt = 0) (zp0 : pa.toInt = 0) : Met l yX9_behindBlanks (Cond.code yX9_behindBlanks cX9_behindBlanks 5 (some .int) :: tw_W) ({ frames := 0, cells := 0, slots := 0, locals := 0 }) (pc_ (dC, dI) (tyS cI cB cZ cJ cR) tb (cW ad pr N cI cR L1 L2 v) sz [.ref (ad 900), .int pa]) (qi_ (dC, dI) (cW ad pr N cI cR L1 L2 v) sz (fun (r : Int32) (u : MS) => v = u ∧ (r.toInt = 0)) (fun (u : MS) => (cW ad pr N cI cR L1 L2 u))) 0 0 (va_A (cW ad pr N cI cR L1 L2 v) sz) := by
  refine Met.ofW (cc := cX9_behindBlanks) (maxL := 5) (ret := (some .int)) (by decide) rfl ?_
  intro p e s m args below meth c s₁ B hml hv
  obtain ⟨rfl, hsz, hP, hKK, hD0, hFx⟩ := hv
  have hK := hKK.1
  have hx := B.exec
  have hb := B.bytes
  have hr := B.returns
  have ht : ∀ w ∈ tw_W, w.before _ s = true := fun w h => atoms_spec (ws := Cond.code yX9_behindBlanks cX9_behindBlanks 5 (some .int) :: tw_W) B.pre w (List.mem_cons_of_mem _ h)
  have hown : s.vm.findClass RX9 = some m.cls := findClass_of_methodNamed B.named
  have hlocks := B.notSynchronized
  subst hsz
  unfold qi_
  have hD := hD0.self (sz := s.heap.size)
  generalize hAe : va_A (cW ad pr N cI cR L1 L2 v) s.heap.size = A at hD hFx ⊢
  have hA : ∀ q : Nat, s.heap.size ≤ q → A q := fun q h => by rw [← hAe]; exact Or.inr h
  have hS : va_S A s.heap s.heap [] := va_S.rf
  have hl := lv_entry ([.ref (ad 900), .int pa]) (n := 5) (Nat.le_of_ble_eq_true rfl)
  rw [lg_entry_eq]
  generalize (lg_sl ([.ref (ad 900), .int pa]) ++ List.replicate (5 - (lg_sl ([.ref (ad 900), .int pa])).length) Slot.unset).toArray = ls at hl ⊢
  have hl : lv_has ls 5 [(0, .ref (ad 900)), (1, .int pa)] := hl
  refine lv_iconst (v := 0) hx hb dX9_behindBlanks_0 (by decide) ?_
  refine lv_istore_n (lv' := [(2, .int 0), (0, .ref (ad 900)), (1, .int pa)]) hx hb dX9_behindBlanks_1 rfl hl (by decide) rfl (fun ls hl => ?_)
  refine lv_iload_n hx hb dX9_behindBlanks_2 rfl (lv_at hl 2 rfl) ?_
  refine lv_istore_n (lv' := [(3, .int pa), (2, .int 0), (0, .ref (ad 900)), (1, .int pa)]) hx hb dX9_behindBlanks_3 rfl hl (by decide) rfl (fun ls hl => ?_)
  refine lpm_ (X := Int32 × Int32) (P := (fun (x9 : Int32 × Int32) (H : Heap) (locs : List Loc) (ls : Array Slot) => (x9.2.toInt = 0) ∧ va_P (dC, dI) vwCl (cW ad pr N cI cR L1 L2 v) H ∧ va_D A (cW ad pr N cI cR L1 L2 v) ∧ va_S A s.heap H locs ∧ lv_has ls 5 [(3, .int x9.2), (2, .int x9.1), (0, .ref (ad 900)), (1, .int pa)])) (fun x9 => (4000 - x9.2.toInt).toNat) 4 (fun x9 H locs ls hh ih4 => ?_) (0, pa) _ _ _ ⟨(show pa.toInt = 0 from (om_0659e01c57 zp0)), hP, hD, hS, lv_sub hl [0, 1, 2, 3] rfl⟩
  obtain ⟨ib, ka⟩ := x9
  obtain ⟨f1L4, hP, hD, hS, hl⟩ := hh
  have f1L4 : ka.toInt = 0 := f1L4
  have hl : lv_has ls 5 [(3, .int ka), (2, .int ib), (0, .ref (ad 900)), (1, .int pa)] := hl
  refine lv_iload_n hx hb dX9_behindBlanks_4 rfl (lv_at hl 0 rfl) ?_
  refine lv_aload_n hx hb dX9_behindBlanks_5 rfl (lv_at hl 2 rfl) ?_
  refine va_get (D := (dC, dI)) (ci := 12) (fs := oF_X9 ad pr v) (v := .ref (pr (v.1 0 300))) (C := RX9) (T := TX9) (N := 10) hx hb ht itX9 hown hK hP 0 rfl rfl 0 (by decide) (ht _ tw_415) (fun _ h9 => h9) rfl dX9_behindBlanks_6 ?_
  refine W.eq (g2 := F0 m 9 ls [.ref (ad 908), .int ka]) (by rw [show pr (v.1 0 300) = (ad 908) from (by rw [show (v.1 0 300) = ps from es300]; exact hps)]) ?_
  refine va_get (D := (dC, dI)) (ci := 10) (fs := oF_X7 ad pr v) (v := .int (v.1 0 373)) (C := RX7) (T := TX7) (N := 13) hx hb ht itX7 hown hK hP 8 rfl rfl 1 (by decide) (ht _ tw_416) (fun _ h9 => h9) rfl dX9_behindBlanks_9 ?_
  refine lv_icmp_ge (tgt := 108) hx hb dX9_behindBlanks_12 (by decide) (fun h1 => ?_) (fun h1 => ?_)
  · have z2 : (v.1 0 373).toInt ≤ ka.toInt := le_z rfl rfl h1
    refine lv_aload_n hx hb dX9_behindBlanks_108 rfl (lv_at hl 2 rfl) ?_
    refine va_get (D := (dC, dI)) (ci := 12) (fs := oF_X9 ad pr v) (v := .ref (pr (v.1 0 300))) (C := RX9) (T := TX9) (N := 10) hx hb ht itX9 hown hK hP 0 rfl rfl 0 (by decide) (ht _ tw_415) (fun _ h9 => h9) rfl dX9_behindBlanks_109 ?_
    refine W.eq (g2 := F0 m 112 ls [.ref (ad 908)]) (by rw [show pr (v.1 0 300) = (ad 908) from (by rw [show (v.1 0 300) = ps from es300]; exact hps)]) ?_
    refine va_get (D := (dC, dI)) (ci := 10) (fs := oF_X7 ad pr v) (v := .int (v.1 0 373)) (C := RX7) (T := TX7) (N := 13) hx hb ht itX7 hown hK hP 8 rfl rfl 1 (by decide) (ht _ tw_416) (fun _ h9 => h9) rfl dX9_behindBlanks_112 ?_
    exact W.iret (v := (v.1 0 373)) hx hb hr (fun t ht9 hW => ⟨⟨(v.1 0 373), v, rfl, ⟨rfl, (om_086a29c9c2 z373 zl0)⟩, by rw [ht9]; exact hP, hD⟩, hS.F ht9⟩) hS.2.2 dX9_behindBlanks_115
  · have z3 : ka.toInt < (v.1 0 373).toInt := nle_z rfl rfl h1
    exact False.elim (om_33f6f4caf6 zl0 f1L4 z3)
theorem k0_set {f : Nat → Int32} {i x : Int32} (hi : i.toInt = 0) (hx : x.toInt = 0) : (upd f i.toNatClampNeg x 0).toInt = 0 := by
  have e : i.toNatClampNeg = 0 := by have := nat_z (x := i) (by omega); omega
  rw [e, pk_us]; exact hx
theorem om_1c3a07cccf {x0 : Int} (h0 : x0 = 0) (h1 : (1503 : Int) ≤ x0) : False := by omega
theorem om_7e9a2bb328 {x0 : Int} (h0 : x0 = 0) : x0 < 1503 := by omega
theorem om_3acb8457d9 {x0 : Int} (h0 : x0 = 0) : (x0) + (1 : Int) < 2147483648 := by omega
theorem om_6763feb3c2 {x0 x1 : Int} (h0 : 0 ≤ x0 ∧ x0 ≤ 1503) (h1 : x0 = 0) (h2 : x1 = (x0) + (1 : Int)) : 0 ≤ x1 ∧ x1 ≤ 1503 := by omega
theorem om_cf68b89b85 {x0 x1 : Int} (h0 : 0 ≤ x0 ∧ x0 ≤ 1503) (h1 : x0 = 0) (h2 : x1 = (x0) + (1 : Int)) : x1 = 1 := by omega
theorem om_9c0dc6aed2 {x0 : Int} (h0 : 0 ≤ x0 ∧ x0 ≤ 1503) (h1 : x0 = 0) : x0 = 0 := by omega
set_option maxHeartbeats 4000000 in
set_option maxRecDepth 100000 in
theorem c_x_add0 (l : Launch) (dC : Nat → ClassId) (dI : Nat → Nat → Nat) (cI cB cZ cJ cR : ClassId) (tb : Nat → Nat) (sz : Nat) (ad : Nat → Nat) (pr : Int32 → Nat) (N : Nat) (L1 L2 : List Nat) (v : MS) (pa : Int32) (pb : Int32) (pc1 : Int32) (pd : Int32) (z304 : 0 ≤ (v.1 0 304).toInt ∧ (v.1 0 304).toInt ≤ 1503) (zs0 : (v.1 0 304).toInt = 0) (zk : pa.toInt = 0) : Met l yX9_add (Cond.code yX9_add cX9_add 5 (some .int) :: tw_W) ({ frames := 0, cells := 0, slots := 0, locals := 0 }) (pc_ (dC, dI) (tyS cI cB cZ cJ cR) tb (cW ad pr N cI cR L1 L2 v) sz [.ref (ad 900), .int pa, .int pb, .int pc1, .int pd]) (qi_ (dC, dI) (cW ad pr N cI cR L1 L2 v) sz (fun (r : Int32) (u : MS) => FC [304] [0, 301, 302, 303] v u ∧ (0 ≤ (u.1 0 304).toInt ∧ (u.1 0 304).toInt ≤ 1503) ∧ ((u.1 0 304).toInt = 1) ∧ (((u.1 301) 0).toInt = 0) ∧ (RS v u)) (fun (u : MS) => (cW ad pr N cI cR L1 L2 u))) 0 0 (va_A (cW ad pr N cI cR L1 L2 v) sz) := by
  refine Met.ofW (cc := cX9_add) (maxL := 5) (ret := (some .int)) (by decide) rfl ?_
  intro p e s m args below meth c s₁ B hml hv
  obtain ⟨rfl, hsz, hP, hKK, hD0, hFx⟩ := hv
  have hK := hKK.1
  have hx := B.exec
  have hb := B.bytes
  have hr := B.returns
  have ht : ∀ w ∈ tw_W, w.before _ s = true := fun w h => atoms_spec (ws := Cond.code yX9_add cX9_add 5 (some .int) :: tw_W) B.pre w (List.mem_cons_of_mem _ h)
  have hown : s.vm.findClass RX9 = some m.cls := findClass_of_methodNamed B.named
  have hlocks := B.notSynchronized
  subst hsz
  unfold qi_
  have hD := hD0.self (sz := s.heap.size)
  generalize hAe : va_A (cW ad pr N cI cR L1 L2 v) s.heap.size = A at hD hFx ⊢
  have hA : ∀ q : Nat, s.heap.size ≤ q → A q := fun q h => by rw [← hAe]; exact Or.inr h
  have hS : va_S A s.heap s.heap [] := va_S.rf
  have hl := lv_entry ([.ref (ad 900), .int pa, .int pb, .int pc1, .int pd]) (n := 5) (Nat.le_of_ble_eq_true rfl)
  rw [lg_entry_eq]
  generalize (lg_sl ([.ref (ad 900), .int pa, .int pb, .int pc1, .int pd]) ++ List.replicate (5 - (lg_sl ([.ref (ad 900), .int pa, .int pb, .int pc1, .int pd])).length) Slot.unset).toArray = ls at hl ⊢
  have hl : lv_has ls 5 [(0, .ref (ad 900)), (1, .int pa), (2, .int pb), (3, .int pc1), (4, .int pd)] := hl
  refine lv_aload_n hx hb dX9_add_0 rfl (lv_at hl 0 rfl) ?_
  refine va_get (D := (dC, dI)) (ci := 12) (fs := oF_X9 ad pr v) (v := .int (v.1 0 304)) (C := RX9) (T := TX9) (N := 10) hx hb ht itX9 hown hK hP 0 rfl rfl 4 (by decide) (ht _ tw_411) (fun _ h9 => h9) rfl dX9_add_1 ?_
  refine lv_sipush (v := 1503) hx hb dX9_add_4 (by decide) ?_
  refine lv_icmp_ge (tgt := 50) hx hb dX9_add_7 (by decide) (fun h1 => ?_) (fun h1 => ?_)
  · have z2 : (1503 : Int) ≤ (v.1 0 304).toInt := le_z (show (1503 : Int32).toInt = (1503 : Int) by decide) rfl h1
    exact False.elim (om_1c3a07cccf zs0 z2)
  · have z3 : (v.1 0 304).toInt < (1503 : Int) := nle_z (show (1503 : Int32).toInt = (1503 : Int) by decide) rfl h1
    refine lv_aload_n hx hb dX9_add_10 rfl (lv_at hl 0 rfl) ?_
    refine va_get (D := (dC, dI)) (ci := 12) (fs := oF_X9 ad pr v) (v := .ref (ad 301)) (C := RX9) (T := TX9) (N := 10) hx hb ht itX9 hown hK hP 0 rfl rfl 1 (by decide) (ht _ tw_412) (fun _ h9 => h9) rfl dX9_add_11 ?_
    refine lv_aload_n hx hb dX9_add_14 rfl (lv_at hl 0 rfl) ?_
    refine va_get (D := (dC, dI)) (ci := 12) (fs := oF_X9 ad pr v) (v := .int (v.1 0 304)) (C := RX9) (T := TX9) (N := 10) hx hb ht itX9 hown hK hP 0 rfl rfl 4 (by decide) (ht _ tw_411) (fun _ h9 => h9) rfl dX9_add_15 ?_
    refine lv_iload_n hx hb dX9_add_18 rfl (lv_at hl 1 rfl) ?_
    refine va_iast (D := (dC, dI)) (f := (v.1 301)) hx hb hK hP hD hS 10 0 rfl rfl (in_y (a := (v.1 0 304).toInt) (b := 1503) rfl (om_fb6af053eb z304) (om_7e9a2bb328 zs0) rfl) dX9_add_19 (fun H locs hP hD hS => ?_)
    have hP := cP_ (cq_301 ad pr N cI cR L1 L2 v ((v.1 0 304).toNatClampNeg) pa) hP
    have hD := cD_ (cq_301 ad pr N cI cR L1 L2 v ((v.1 0 304).toNatClampNeg) pa) hD
    refine lv_aload_n hx hb dX9_add_20 rfl (lv_at hl 0 rfl) ?_
    refine va_get (D := (dC, dI)) (ci := 12) (fs := oF_X9 ad pr (wA v 301 ((v.1 0 304).toNatClampNeg) pa)) (v := .ref (ad 302)) (C := RX9) (T := TX9) (N := 10) hx hb ht itX9 hown hK hP 0 rfl rfl 2 (by decide) (ht _ tw_413) (fun _ h9 => h9) rfl dX9_add_21 ?_
    refine lv_aload_n hx hb dX9_add_24 rfl (lv_at hl 0 rfl) ?_
    refine va_get (D := (dC, dI)) (ci := 12) (fs := oF_X9 ad pr (wA v 301 ((v.1 0 304).toNatClampNeg) pa)) (v := .int (v.1 0 304)) (C := RX9) (T := TX9) (N := 10) hx hb ht itX9 hown hK hP 0 rfl rfl 4 (by decide) (ht _ tw_411) (fun _ h9 => h9) rfl dX9_add_25 ?_
    refine lv_iload_n hx hb dX9_add_28 rfl (lv_at hl 2 rfl) ?_
    refine va_iast (D := (dC, dI)) (f := (v.1 302)) hx hb hK hP hD hS 11 0 rfl rfl (in_y (a := (v.1 0 304).toInt) (b := 1503) rfl (om_fb6af053eb z304) (om_7e9a2bb328 zs0) rfl) dX9_add_29 (fun H locs hP hD hS => ?_)
    have hP := cP_ (cq_302 ad pr N cI cR L1 L2 (wA v 301 ((v.1 0 304).toNatClampNeg) pa) ((v.1 0 304).toNatClampNeg) pb) hP
    have hD := cD_ (cq_302 ad pr N cI cR L1 L2 (wA v 301 ((v.1 0 304).toNatClampNeg) pa) ((v.1 0 304).toNatClampNeg) pb) hD
    refine lv_aload_n hx hb dX9_add_30 rfl (lv_at hl 0 rfl) ?_
    refine va_get (D := (dC, dI)) (ci := 12) (fs := oF_X9 ad pr (wA (wA v 301 ((v.1 0 304).toNatClampNeg) pa) 302 ((v.1 0 304).toNatClampNeg) pb)) (v := .ref (ad 303)) (C := RX9) (T := TX9) (N := 10) hx hb ht itX9 hown hK hP 0 rfl rfl 3 (by decide) (ht _ tw_414) (fun _ h9 => h9) rfl dX9_add_31 ?_
    refine lv_aload_n hx hb dX9_add_34 rfl (lv_at hl 0 rfl) ?_
    refine va_get (D := (dC, dI)) (ci := 12) (fs := oF_X9 ad pr (wA (wA v 301 ((v.1 0 304).toNatClampNeg) pa) 302 ((v.1 0 304).toNatClampNeg) pb)) (v := .int (v.1 0 304)) (C := RX9) (T := TX9) (N := 10) hx hb ht itX9 hown hK hP 0 rfl rfl 4 (by decide) (ht _ tw_411) (fun _ h9 => h9) rfl dX9_add_35 ?_
    refine lv_iload_n hx hb dX9_add_38 rfl (lv_at hl 3 rfl) ?_
    refine va_iast (D := (dC, dI)) (f := (v.1 303)) hx hb hK hP hD hS 12 0 rfl rfl (in_y (a := (v.1 0 304).toInt) (b := 1503) rfl (om_fb6af053eb z304) (om_7e9a2bb328 zs0) rfl) dX9_add_39 (fun H locs hP hD hS => ?_)
    have hP := cP_ (cq_303 ad pr N cI cR L1 L2 (wA (wA v 301 ((v.1 0 304).toNatClampNeg) pa) 302 ((v.1 0 304).toNatClampNeg) pb) ((v.1 0 304).toNatClampNeg) pc1) hP
    have hD := cD_ (cq_303 ad pr N cI cR L1 L2 (wA (wA v 301 ((v.1 0 304).toNatClampNeg) pa) 302 ((v.1 0 304).toNatClampNeg) pb) ((v.1 0 304).toNatClampNeg) pc1) hD
    refine lv_aload_n hx hb dX9_add_40 rfl (lv_at hl 0 rfl) ?_
    refine lv_dup hx hb dX9_add_41 rfl ?_
    refine va_get (D := (dC, dI)) (ci := 12) (fs := oF_X9 ad pr (wA (wA (wA v 301 ((v.1 0 304).toNatClampNeg) pa) 302 ((v.1 0 304).toNatClampNeg) pb) 303 ((v.1 0 304).toNatClampNeg) pc1)) (v := .int (v.1 0 304)) (C := RX9) (T := TX9) (N := 10) hx hb ht itX9 hown hK hP 0 rfl rfl 4 (by decide) (ht _ tw_411) (fun _ h9 => h9) rfl dX9_add_42 ?_
    refine lv_iconst (v := 1) hx hb dX9_add_45 (by decide) ?_
    refine lv_iadd hx hb dX9_add_46 ?_
    have z4 : ((v.1 0 304) + (1 : Int32)).toInt = ((v.1 0 304).toInt) + (1 : Int) := add_z rfl (show (1 : Int32).toInt = (1 : Int) by decide) (om_30f45bbad8 z304) (om_3acb8457d9 zs0)
    refine va_put (D := (dC, dI)) (ci := 12) (fs := oF_X9 ad pr (wA (wA (wA v 301 ((v.1 0 304).toNatClampNeg) pa) 302 ((v.1 0 304).toNatClampNeg) pb) 303 ((v.1 0 304).toNatClampNeg) pc1)) (v := .int ((v.1 0 304) + (1 : Int32))) (ty := .int) (C := RX9) (T := TX9) (N := 10) hx hb ht itX9 tyX9 tyX9_ok nmX9 hown hK hP hD hS 0 rfl rfl 4 (by decide) (ht _ tw_411) (fun _ h9 => h9) rfl (by decide +kernel) rfl rfl (Nat.le_of_ble_eq_true rfl) dX9_add_47 (fun H locs hP hD hS => ?_)
    have hP := cP_ (cw_304 ad pr N cI cR L1 L2 (wA (wA (wA v 301 ((v.1 0 304).toNatClampNeg) pa) 302 ((v.1 0 304).toNatClampNeg) pb) 303 ((v.1 0 304).toNatClampNeg) pc1) ((v.1 0 304) + (1 : Int32))) hP
    have hD := cD_ (cw_304 ad pr N cI cR L1 L2 (wA (wA (wA v 301 ((v.1 0 304).toNatClampNeg) pa) 302 ((v.1 0 304).toNatClampNeg) pb) 303 ((v.1 0 304).toNatClampNeg) pc1) ((v.1 0 304) + (1 : Int32))) hD
    refine lv_iload_n hx hb dX9_add_50 rfl (lv_at hl 2 rfl) ?_
    refine lv_iload hx hb dX9_add_51 (lv_at hl 4 rfl) ?_
    refine lv_iadd hx hb dX9_add_53 ?_
    exact W.iret (v := (pb + pd)) hx hb hr (fun t ht9 hW => ⟨⟨(pb + pd), (wA (wA (wA (wA v 301 ((v.1 0 304).toNatClampNeg) pa) 302 ((v.1 0 304).toNatClampNeg) pb) 303 ((v.1 0 304).toNatClampNeg) pc1) 0 304 ((v.1 0 304) + (1 : Int32))), rfl, ⟨(FC.f (FC.a (FC.a (FC.a (FC.rf _) ((v.1 0 304).toNatClampNeg) pa (by decide) (by decide)) ((v.1 0 304).toNatClampNeg) pb (by decide) (by decide)) ((v.1 0 304).toNatClampNeg) pc1 (by decide) (by decide)) ((v.1 0 304) + (1 : Int32)) (by decide)), (show 0 ≤ ((v.1 0 304) + (1 : Int32)).toInt ∧ ((v.1 0 304) + (1 : Int32)).toInt ≤ 1503 from (om_6763feb3c2 z304 zs0 z4)), (show ((v.1 0 304) + (1 : Int32)).toInt = 1 from (om_cf68b89b85 z304 zs0 z4)), (k0_set (i := (v.1 0 304)) (x := pa) (om_9c0dc6aed2 z304 zs0) (om_0659e01c57 zk)), (RS.w0 (RS.w (RS.w (RS.w RS.rf (by decide)) (by decide)) (by decide)) (by decide))⟩, by rw [ht9]; exact hP, hD⟩, hS.F ht9⟩) hS.2.2 dX9_add_54
theorem om_8549563861 {x0 : Int} (h0 : 0 ≤ x0 ∧ x0 ≤ 4000) (h1 : x0 = 0) : 0 ≤ x0 ∧ x0 ≤ 4000 := by omega
theorem om_5d95054e40 {x0 : Int} (h0 : 0 ≤ x0 ∧ x0 ≤ 4000) (h1 : x0 = 0) : x0 = 0 := by omega
theorem om_63fc369f6b {x0 : Int} (h0 : (x0 = -1)) (h1 : x0 ≠ (-1 : Int)) : False := by omega
theorem om_8cd03339bd {x0 : Int} (h0 : 0 ≤ x0 ∧ x0 ≤ 1503) (h1 : x0 = 0) : 0 ≤ x0 ∧ x0 ≤ 1503 := by omega
theorem om_3759335ead {x0 : Int} (h0 : x0 = 1) : 0 ≤ x0 ∧ x0 ≤ 1503 := by omega
theorem om_02f4c99dc6 {x0 : Int} (h0 : x0 = 1) : x0 = 1 := by omega
set_option maxHeartbeats 4000000 in
set_option maxRecDepth 100000 in
theorem c_x_scanOne0 (l : Launch) (dC : Nat → ClassId) (dI : Nat → Nat → Nat) (cI cB cZ cJ cR : ClassId) (tb : Nat → Nat) (sz : Nat) (ad : Nat → Nat) (pr : Int32 → Nat) (N : Nat) (L1 L2 : List Nat) (v : MS) (pa : Int32) (ps : Int32) (z304 : 0 ≤ (v.1 0 304).toInt ∧ (v.1 0 304).toInt ≤ 1503) (z373 : 0 ≤ (v.1 0 373).toInt ∧ (v.1 0 373).toInt ≤ 4000) (hps : pr ps = ad 908) (es300 : (v.1 0 300) = ps) (zl0 : (v.1 0 373).toInt = 0) (zs0 : (v.1 0 304).toInt = 0) : Met l yX9_scanOne (Cond.code yX9_scanOne cX9_scanOne 3 (some .int) :: tw_W) ({ frames := 1, cells := 0, slots := 0, locals := 24 }) (pc_ (dC, dI) (tyS cI cB cZ cJ cR) tb (cW ad pr N cI cR L1 L2 v) sz [.ref (ad 900), .int pa]) (qi_ (dC, dI) (cW ad pr N cI cR L1 L2 v) sz (fun (r : Int32) (u : MS) => FC [304] [0, 301, 302, 303] v u ∧ (0 ≤ (u.1 0 304).toInt ∧ (u.1 0 304).toInt ≤ 1503) ∧ ((u.1 0 304).toInt = 1) ∧ (((u.1 301) 0).toInt = 0) ∧ (RS v u)) (fun (u : MS) => (cW ad pr N cI cR L1 L2 u))) 0 0 (va_A (cW ad pr N cI cR L1 L2 v) sz) := by
  refine Met.ofW (cc := cX9_scanOne) (maxL := 3) (ret := (some .int)) (by decide) rfl ?_
  intro p e s m args below meth c s₁ B hml hv
  obtain ⟨rfl, hsz, hP, hKK, hD0, hFx⟩ := hv
  have hK := hKK.1
  have hx := B.exec
  have hb := B.bytes
  have hr := B.returns
  have ht : ∀ w ∈ tw_W, w.before _ s = true := fun w h => atoms_spec (ws := Cond.code yX9_scanOne cX9_scanOne 3 (some .int) :: tw_W) B.pre w (List.mem_cons_of_mem _ h)
  have hown : s.vm.findClass RX9 = some m.cls := findClass_of_methodNamed B.named
  have hlocks := B.notSynchronized
  subst hsz
  unfold qi_
  have hD := hD0.self (sz := s.heap.size)
  generalize hAe : va_A (cW ad pr N cI cR L1 L2 v) s.heap.size = A at hD hFx ⊢
  have hA : ∀ q : Nat, s.heap.size ≤ q → A q := fun q h => by rw [← hAe]; exact Or.inr h
  have hS : va_S A s.heap s.heap [] := va_S.rf
  have hl := lv_entry ([.ref (ad 900), .int pa]) (n := 3) (Nat.le_of_ble_eq_true rfl)
  rw [lg_entry_eq]
  generalize (lg_sl ([.ref (ad 900), .int pa]) ++ List.replicate (3 - (lg_sl ([.ref (ad 900), .int pa])).length) Slot.unset).toArray = ls at hl ⊢
  have hl : lv_has ls 3 [(0, .ref (ad 900)), (1, .int pa)] := hl
  refine lv_aload_n hx hb dX9_scanOne_0 rfl (lv_at hl 0 rfl) ?_
  refine va_get (D := (dC, dI)) (ci := 12) (fs := oF_X9 ad pr v) (v := .ref (pr (v.1 0 300))) (C := RX9) (T := TX9) (N := 10) hx hb ht itX9 hown hK hP 0 rfl rfl 0 (by decide) (ht _ tw_415) (fun _ h9 => h9) rfl dX9_scanOne_1 ?_
  refine lv_iload_n hx hb dX9_scanOne_4 rfl (lv_at hl 1 rfl) ?_
  refine W.eq (g2 := F0 m 5 ls [.int pa, .ref (ad 908)]) (by rw [show pr (v.1 0 300) = (ad 908) from (by rw [show (v.1 0 300) = ps from es300]; exact hps)]) ?_
  refine cu_i (rn_Vk (n := 1) (As := [.int pa]) (rest := []) hx hb hml hown ht hKK hFx hP hD hS hA (c_x_byteAt0 l dC dI cI cB cZ cJ cR tb s.heap.size ad pr N L1 L2 v pa (show 0 ≤ (v.1 0 373).toInt ∧ (v.1 0 373).toInt ≤ 4000 from (om_8549563861 z373 zl0)) (show (v.1 0 373).toInt = 0 from (om_5d95054e40 z373 zl0))) tw_392 tw_417 (by decide +kernel) rfl rfl ⟨Nat.le_of_ble_eq_true rfl, Nat.le_of_ble_eq_true rfl⟩ (List.range (cW ad pr N cI cR L1 L2 v).length) (rg_map _) (nd_range _) 8 rfl rfl rfl rfl hl.1 rfl (Nat.le_of_ble_eq_true rfl) dX9_scanOne_5 ⟨Nat.le_of_ble_eq_true rfl, Nat.le_of_ble_eq_true rfl⟩) hP hD hS hA (fun r3 u2 H locs hw1 hP hD hS => ?_)
  obtain ⟨rfl, c1⟩ := hw1
  refine W.widen (k := 0) (n := 0) (Nat.le_refl _) (Nat.le_refl _) ?_
  refine lv_istore_n (lv' := [(2, .int r3), (0, .ref (ad 900)), (1, .int pa)]) hx hb dX9_scanOne_8 rfl hl (by decide) rfl (fun ls hl => ?_)
  refine lv_iload_n hx hb dX9_scanOne_9 rfl (lv_at hl 0 rfl) ?_
  refine lv_iconst (v := -1) hx hb dX9_scanOne_10 (by decide) ?_
  refine lv_icmp_ne (tgt := 23) hx hb dX9_scanOne_11 (by decide) (fun h4 => ?_) (fun h4 => ?_)
  · have z5 : r3.toInt ≠ (-1 : Int) := ne_z rfl (show ((-1) : Int32).toInt = (-1 : Int) by decide) h4
    exact False.elim (om_63fc369f6b c1 z5)
  · have z6 : r3.toInt = (-1 : Int) := eq_z rfl (show ((-1) : Int32).toInt = (-1 : Int) by decide) h4
    refine lv_aload_n hx hb dX9_scanOne_14 rfl (lv_at hl 1 rfl) ?_
    refine lv_iconst (v := 0) hx hb dX9_scanOne_15 (by decide) ?_
    refine lv_iload_n hx hb dX9_scanOne_16 rfl (lv_at hl 2 rfl) ?_
    refine lv_iconst (v := 0) hx hb dX9_scanOne_17 (by decide) ?_
    refine lv_iconst (v := 0) hx hb dX9_scanOne_18 (by decide) ?_
    refine cu_i (rn_Vk (n := 4) (As := [.int 0, .int pa, .int 0, .int 0]) (rest := []) hx hb hml hown ht hKK hFx hP hD hS hA (c_x_add0 l dC dI cI cB cZ cJ cR tb H.size ad pr N L1 L2 v (0 : Int32) pa (0 : Int32) (0 : Int32) (show 0 ≤ (v.1 0 304).toInt ∧ (v.1 0 304).toInt ≤ 1503 from (om_8cd03339bd z304 zs0)) (show (v.1 0 304).toInt = 0 from (om_9c0dc6aed2 z304 zs0)) (show (0 : Int) = 0 from om_3ff73904e8)) tw_427 tw_428 (by decide +kernel) rfl rfl ⟨Nat.le_of_ble_eq_true rfl, Nat.le_of_ble_eq_true rfl⟩ (List.range (cW ad pr N cI cR L1 L2 v).length) (rg_map _) (nd_range _) 0 rfl rfl rfl rfl hl.1 rfl (Nat.le_of_ble_eq_true rfl) dX9_scanOne_19 ⟨Nat.le_of_ble_eq_true rfl, Nat.le_of_ble_eq_true rfl⟩) hP hD hS hA (fun r9 u8 H locs hw7 hP hD hS => ?_)
    obtain ⟨fr7, i3047, ps17, kk7, rs7⟩ := hw7
    refine W.widen (k := 0) (n := 0) (Nat.le_refl _) (Nat.le_refl _) ?_
    exact W.iret (v := r9) hx hb hr (fun t ht9 hW => ⟨⟨r9, u8, rfl, ⟨(FC.tr (FC.rf _) (FC.up fr7 (by decide) (by decide))), (show 0 ≤ (u8.1 0 304).toInt ∧ (u8.1 0 304).toInt ≤ 1503 from (om_3759335ead ps17)), (show (u8.1 0 304).toInt = 1 from (om_02f4c99dc6 ps17)), kk7, (RS.tr RS.rf rs7)⟩, by rw [ht9]; exact hP, hD⟩, hS.F ht9⟩) hS.2.2 dX9_scanOne_22
theorem om_7d9de264b5 : (0 : Int) < 1503 := by omega
theorem om_0d88366d20 {x0 : Int} (h0 : x0 = (0 : Int)) : 0 ≤ x0 ∧ x0 ≤ 1500 := by omega
theorem om_bbe88f1648 {x0 : Int} (h0 : x0 = (0 : Int)) : 0 ≤ x0 ∧ x0 ≤ 40 := by omega
theorem om_cff394633e {x0 : Int} (h0 : x0 = 0) (h1 : x0 ≠ (0 : Int)) : False := by omega
set_option maxHeartbeats 4000000 in
set_option maxRecDepth 100000 in
theorem c_x_scan0 (l : Launch) (dC : Nat → ClassId) (dI : Nat → Nat → Nat) (cI cB cZ cJ cR : ClassId) (tb : Nat → Nat) (sz : Nat) (ad : Nat → Nat) (pr : Int32 → Nat) (N : Nat) (L1 L2 : List Nat) (v : MS) (ps : Int32) (hps : pr ps = ad 908) (z373 : 0 ≤ (v.1 0 373).toInt ∧ (v.1 0 373).toInt ≤ 4000) (zl0 : (v.1 0 373).toInt = 0) : Met l yX9_scan (Cond.code yX9_scan cX9_scan 4 none :: tw_W) ({ frames := 2, cells := 0, slots := 0, locals := 46 }) (pc_ (dC, dI) (tyS cI cB cZ cJ cR) tb (cW ad pr N cI cR L1 L2 v) sz [.ref (ad 900), .ref (pr ps)]) (qv_ (dC, dI) (cW ad pr N cI cR L1 L2 v) sz (fun (u : MS) => FC [300, 304, 305, 306, 307, 308, 309] [0, 301, 302, 303] v u ∧ (0 ≤ (u.1 0 304).toInt ∧ (u.1 0 304).toInt ≤ 1503) ∧ (0 ≤ (u.1 0 305).toInt ∧ (u.1 0 305).toInt ≤ 1500) ∧ (0 ≤ (u.1 0 306).toInt ∧ (u.1 0 306).toInt ≤ 40) ∧ ((u.1 0 304).toInt = 1) ∧ (((u.1 301) 0).toInt = 0) ∧ ((u.1 0 305).toInt = 0) ∧ (u.1 0 300 = ps) ∧ (RS v u)) (fun (u : MS) => (cW ad pr N cI cR L1 L2 u))) 0 0 (va_A (cW ad pr N cI cR L1 L2 v) sz) := by
  refine Met.ofW (cc := cX9_scan) (maxL := 4) (ret := none) (by decide) rfl ?_
  intro p e s m args below meth c s₁ B hml hv
  obtain ⟨rfl, hsz, hP, hKK, hD0, hFx⟩ := hv
  have hK := hKK.1
  have hx := B.exec
  have hb := B.bytes
  have hr := B.returns
  have ht : ∀ w ∈ tw_W, w.before _ s = true := fun w h => atoms_spec (ws := Cond.code yX9_scan cX9_scan 4 none :: tw_W) B.pre w (List.mem_cons_of_mem _ h)
  have hown : s.vm.findClass RX9 = some m.cls := findClass_of_methodNamed B.named
  have hlocks := B.notSynchronized
  subst hsz
  unfold qv_
  have hD := hD0.self (sz := s.heap.size)
  generalize hAe : va_A (cW ad pr N cI cR L1 L2 v) s.heap.size = A at hD hFx ⊢
  have hA : ∀ q : Nat, s.heap.size ≤ q → A q := fun q h => by rw [← hAe]; exact Or.inr h
  have hS : va_S A s.heap s.heap [] := va_S.rf
  have hl := lv_entry ([.ref (ad 900), .ref (pr ps)]) (n := 4) (Nat.le_of_ble_eq_true rfl)
  rw [lg_entry_eq]
  generalize (lg_sl ([.ref (ad 900), .ref (pr ps)]) ++ List.replicate (4 - (lg_sl ([.ref (ad 900), .ref (pr ps)])).length) Slot.unset).toArray = ls at hl ⊢
  have hl : lv_has ls 4 [(0, .ref (ad 900)), (1, .ref (pr ps))] := hl
  refine lv_aload_n hx hb dX9_scan_0 rfl (lv_at hl 0 rfl) ?_
  refine lv_aload_n hx hb dX9_scan_1 rfl (lv_at hl 1 rfl) ?_
  refine va_put (D := (dC, dI)) (ci := 12) (fs := oF_X9 ad pr v) (v := .ref (pr ps)) (ty := .object "PocketCompiler$Program") (C := RX9) (T := TX9) (N := 10) hx hb ht itX9 tyX9 tyX9_ok nmX9 hown hK hP hD hS 0 rfl rfl 0 (by decide) (ht _ tw_415) (fun _ h9 => h9) rfl (by decide +kernel) rfl rfl (Nat.le_of_ble_eq_true rfl) dX9_scan_2 (fun H locs hP hD hS => ?_)
  have hP := cP_ (cw_300 ad pr N cI cR L1 L2 v ps) hP
  have hD := cD_ (cw_300 ad pr N cI cR L1 L2 v ps) hD
  refine lv_aload_n hx hb dX9_scan_5 rfl (lv_at hl 0 rfl) ?_
  refine lv_iconst (v := 0) hx hb dX9_scan_6 (by decide) ?_
  refine va_put (D := (dC, dI)) (ci := 12) (fs := oF_X9 ad pr (wA v 0 300 ps)) (v := .int 0) (ty := .int) (C := RX9) (T := TX9) (N := 10) hx hb ht itX9 tyX9 tyX9_ok nmX9 hown hK hP hD hS 0 rfl rfl 4 (by decide) (ht _ tw_411) (fun _ h9 => h9) rfl (by decide +kernel) rfl rfl (Nat.le_of_ble_eq_true rfl) dX9_scan_7 (fun H locs hP hD hS => ?_)
  have hP := cP_ (cw_304 ad pr N cI cR L1 L2 (wA v 0 300 ps) 0) hP
  have hD := cD_ (cw_304 ad pr N cI cR L1 L2 (wA v 0 300 ps) 0) hD
  refine lv_aload_n hx hb dX9_scan_10 rfl (lv_at hl 0 rfl) ?_
  refine lv_iconst (v := 0) hx hb dX9_scan_11 (by decide) ?_
  refine va_put (D := (dC, dI)) (ci := 12) (fs := oF_X9 ad pr (wA (wA v 0 300 ps) 0 304 0)) (v := .int 0) (ty := .int) (C := RX9) (T := TX9) (N := 10) hx hb ht itX9 tyX9 tyX9_ok nmX9 hown hK hP hD hS 0 rfl rfl 5 (by decide) (ht _ tw_444) (fun _ h9 => h9) rfl (by decide +kernel) rfl rfl (Nat.le_of_ble_eq_true rfl) dX9_scan_12 (fun H locs hP hD hS => ?_)
  have hP := cP_ (cw_305 ad pr N cI cR L1 L2 (wA (wA v 0 300 ps) 0 304 0) 0) hP
  have hD := cD_ (cw_305 ad pr N cI cR L1 L2 (wA (wA v 0 300 ps) 0 304 0) 0) hD
  refine lv_aload_n hx hb dX9_scan_15 rfl (lv_at hl 0 rfl) ?_
  refine lv_iconst (v := 0) hx hb dX9_scan_16 (by decide) ?_
  refine va_put (D := (dC, dI)) (ci := 12) (fs := oF_X9 ad pr (wA (wA (wA v 0 300 ps) 0 304 0) 0 305 0)) (v := .int 0) (ty := .int) (C := RX9) (T := TX9) (N := 10) hx hb ht itX9 tyX9 tyX9_ok nmX9 hown hK hP hD hS 0 rfl rfl 6 (by decide) (ht _ tw_445) (fun _ h9 => h9) rfl (by decide +kernel) rfl rfl (Nat.le_of_ble_eq_true rfl) dX9_scan_17 (fun H locs hP hD hS => ?_)
  have hP := cP_ (cw_306 ad pr N cI cR L1 L2 (wA (wA (wA v 0 300 ps) 0 304 0) 0 305 0) 0) hP
  have hD := cD_ (cw_306 ad pr N cI cR L1 L2 (wA (wA (wA v 0 300 ps) 0 304 0) 0 305 0) 0) hD
  refine lv_aload_n hx hb dX9_scan_20 rfl (lv_at hl 0 rfl) ?_
  refine lv_iconst (v := -1) hx hb dX9_scan_21 (by decide) ?_
  refine va_put (D := (dC, dI)) (ci := 12) (fs := oF_X9 ad pr (wA (wA (wA (wA v 0 300 ps) 0 304 0) 0 305 0) 0 306 0)) (v := .int (-1)) (ty := .int) (C := RX9) (T := TX9) (N := 10) hx hb ht itX9 tyX9 tyX9_ok nmX9 hown hK hP hD hS 0 rfl rfl 7 (by decide) (ht _ tw_446) (fun _ h9 => h9) rfl (by decide +kernel) rfl rfl (Nat.le_of_ble_eq_true rfl) dX9_scan_22 (fun H locs hP hD hS => ?_)
  have hP := cP_ (cw_307 ad pr N cI cR L1 L2 (wA (wA (wA (wA v 0 300 ps) 0 304 0) 0 305 0) 0 306 0) (-1)) hP
  have hD := cD_ (cw_307 ad pr N cI cR L1 L2 (wA (wA (wA (wA v 0 300 ps) 0 304 0) 0 305 0) 0 306 0) (-1)) hD
  refine lv_aload_n hx hb dX9_scan_25 rfl (lv_at hl 0 rfl) ?_
  refine lv_iconst (v := 0) hx hb dX9_scan_26 (by decide) ?_
  refine va_put (D := (dC, dI)) (ci := 12) (fs := oF_X9 ad pr (wA (wA (wA (wA (wA v 0 300 ps) 0 304 0) 0 305 0) 0 306 0) 0 307 (-1))) (v := .int 0) (ty := .int) (C := RX9) (T := TX9) (N := 10) hx hb ht itX9 tyX9 tyX9_ok nmX9 hown hK hP hD hS 0 rfl rfl 8 (by decide) (ht _ tw_447) (fun _ h9 => h9) rfl (by decide +kernel) rfl rfl (Nat.le_of_ble_eq_true rfl) dX9_scan_27 (fun H locs hP hD hS => ?_)
  have hP := cP_ (cw_308 ad pr N cI cR L1 L2 (wA (wA (wA (wA (wA v 0 300 ps) 0 304 0) 0 305 0) 0 306 0) 0 307 (-1)) 0) hP
  have hD := cD_ (cw_308 ad pr N cI cR L1 L2 (wA (wA (wA (wA (wA v 0 300 ps) 0 304 0) 0 305 0) 0 306 0) 0 307 (-1)) 0) hD
  refine lv_aload_n hx hb dX9_scan_30 rfl (lv_at hl 0 rfl) ?_
  refine lv_iconst (v := -1) hx hb dX9_scan_31 (by decide) ?_
  refine va_put (D := (dC, dI)) (ci := 12) (fs := oF_X9 ad pr (wA (wA (wA (wA (wA (wA v 0 300 ps) 0 304 0) 0 305 0) 0 306 0) 0 307 (-1)) 0 308 0)) (v := .int (-1)) (ty := .int) (C := RX9) (T := TX9) (N := 10) hx hb ht itX9 tyX9 tyX9_ok nmX9 hown hK hP hD hS 0 rfl rfl 9 (by decide) (ht _ tw_448) (fun _ h9 => h9) rfl (by decide +kernel) rfl rfl (Nat.le_of_ble_eq_true rfl) dX9_scan_32 (fun H locs hP hD hS => ?_)
  have hP := cP_ (cw_309 ad pr N cI cR L1 L2 (wA (wA (wA (wA (wA (wA v 0 300 ps) 0 304 0) 0 305 0) 0 306 0) 0 307 (-1)) 0 308 0) (-1)) hP
  have hD := cD_ (cw_309 ad pr N cI cR L1 L2 (wA (wA (wA (wA (wA (wA v 0 300 ps) 0 304 0) 0 305 0) 0 306 0) 0 307 (-1)) 0 308 0) (-1)) hD
  refine lv_iconst (v := 0) hx hb dX9_scan_35 (by decide) ?_
  refine lv_istore_n (lv' := [(2, .int 0), (0, .ref (ad 900)), (1, .ref (pr ps))]) hx hb dX9_scan_36 rfl hl (by decide) rfl (fun ls hl => ?_)
  refine lv_iconst (v := 0) hx hb dX9_scan_37 (by decide) ?_
  refine lv_istore_n (lv' := [(3, .int 0), (2, .int 0), (0, .ref (ad 900)), (1, .ref (pr ps))]) hx hb dX9_scan_38 rfl hl (by decide) rfl (fun ls hl => ?_)
  refine lv_iload_n hx hb dX9_scan_39 rfl (lv_at hl 0 rfl) ?_
  refine lv_sipush (v := 1503) hx hb dX9_scan_40 (by decide) ?_
  refine lv_icmp_ge (tgt := 82) hx hb dX9_scan_43 (by decide) (fun k1 => absurd k1 (by decide)) (fun _ => ?_)
  refine lv_aload_n hx hb dX9_scan_46 rfl (lv_at hl 2 rfl) ?_
  refine lv_aload_n hx hb dX9_scan_47 rfl (lv_at hl 2 rfl) ?_
  refine lv_iload_n hx hb dX9_scan_48 rfl (lv_at hl 1 rfl) ?_
  refine cu_i (rn_Vk (n := 1) (As := [.int 0]) (rest := [.ref (ad 900)]) hx hb hml hown ht hKK hFx hP hD hS hA (c_x_behindBlanks0 l dC dI cI cB cZ cJ cR tb H.size ad pr N L1 L2 (wA (wA (wA (wA (wA (wA (wA v 0 300 ps) 0 304 0) 0 305 0) 0 306 0) 0 307 (-1)) 0 308 0) 0 309 (-1)) (0 : Int32) ps (show 0 ≤ (v.1 0 373).toInt ∧ (v.1 0 373).toInt ≤ 4000 from (om_8549563861 z373 zl0)) (show pr ps = ad 908 from hps) (show ps = ps from rfl) (show (v.1 0 373).toInt = 0 from (om_5d95054e40 z373 zl0)) (show (0 : Int) = 0 from om_3ff73904e8)) tw_449 tw_450 (by decide +kernel) rfl rfl ⟨Nat.le_of_ble_eq_true rfl, Nat.le_of_ble_eq_true rfl⟩ (List.range (cW ad pr N cI cR L1 L2 (wA (wA (wA (wA (wA (wA (wA v 0 300 ps) 0 304 0) 0 305 0) 0 306 0) 0 307 (-1)) 0 308 0) 0 309 (-1))).length) (rg_map _) (nd_range _) 0 rfl rfl rfl rfl hl.1 rfl (Nat.le_of_ble_eq_true rfl) dX9_scan_49 ⟨Nat.le_of_ble_eq_true rfl, Nat.le_of_ble_eq_true rfl⟩) hP hD hS hA (fun r4 u3 H locs hw2 hP hD hS => ?_)
  obtain ⟨rfl, c2⟩ := hw2
  have c2 : (r4.toInt = 0) := c2
  refine W.widen (k := 0) (n := 0) (Nat.le_refl _) (Nat.le_refl _) ?_
  refine cu_i (rn_Vk (n := 1) (As := [.int r4]) (rest := []) hx hb hml hown ht hKK hFx hP hD hS hA (c_x_scanOne0 l dC dI cI cB cZ cJ cR tb H.size ad pr N L1 L2 (wA (wA (wA (wA (wA (wA (wA v 0 300 ps) 0 304 0) 0 305 0) 0 306 0) 0 307 (-1)) 0 308 0) 0 309 (-1)) r4 ps (show 0 ≤ (0 : Int) ∧ (0 : Int) ≤ 1503 from om_96184fa03a) (show 0 ≤ (v.1 0 373).toInt ∧ (v.1 0 373).toInt ≤ 4000 from (om_8549563861 z373 zl0)) (show pr ps = ad 908 from hps) (show ps = ps from rfl) (show (v.1 0 373).toInt = 0 from (om_5d95054e40 z373 zl0)) (show (0 : Int) = 0 from om_3ff73904e8)) tw_451 tw_452 (by decide +kernel) rfl rfl ⟨Nat.le_of_ble_eq_true rfl, Nat.le_of_ble_eq_true rfl⟩ (List.range (cW ad pr N cI cR L1 L2 (wA (wA (wA (wA (wA (wA (wA v 0 300 ps) 0 304 0) 0 305 0) 0 306 0) 0 307 (-1)) 0 308 0) 0 309 (-1))).length) (rg_map _) (nd_range _) 0 rfl rfl rfl rfl hl.1 rfl (Nat.le_of_ble_eq_true rfl) dX9_scan_52 ⟨Nat.le_of_ble_eq_true rfl, Nat.le_of_ble_eq_true rfl⟩) hP hD hS hA (fun r7 u6 H locs hw5 hP hD hS => ?_)
  obtain ⟨fr5, i3045, ps15, kk5, rs5⟩ := hw5
  have i3045 : 0 ≤ (u6.1 0 304).toInt ∧ (u6.1 0 304).toInt ≤ 1503 := i3045
  have ps15 : (u6.1 0 304).toInt = 1 := ps15
  have kk5 : ((u6.1 301) 0).toInt = 0 := kk5
  have rs5 : RS (wA (wA (wA (wA (wA (wA (wA v 0 300 ps) 0 304 0) 0 305 0) 0 306 0) 0 307 (-1)) 0 308 0) 0 309 (-1)) u6 := rs5
  refine W.widen (k := 0) (n := 0) (Nat.le_refl _) (Nat.le_refl _) ?_
  refine lv_istore_n (lv' := [(2, .int r7), (3, .int 0), (0, .ref (ad 900)), (1, .ref (pr ps))]) hx hb dX9_scan_55 rfl hl (by decide) rfl (fun ls hl => ?_)
  refine lv_aload_n hx hb dX9_scan_56 rfl (lv_at hl 2 rfl) ?_
  refine va_get (D := (dC, dI)) (ci := 12) (fs := oF_X9 ad pr u6) (v := .ref (ad 301)) (C := RX9) (T := TX9) (N := 10) hx hb ht itX9 hown hK hP 0 rfl rfl 1 (by decide) (ht _ tw_412) (fun _ h9 => h9) rfl dX9_scan_57 ?_
  refine lv_iload_n hx hb dX9_scan_60 rfl (lv_at hl 1 rfl) ?_
  refine va_iald (D := (dC, dI)) (f := (u6.1 301)) hx hb hK hP 10 0 rfl rfl (in_y (a := (0 : Int)) (b := 1503) (show (0 : Int32).toInt = (0 : Int) by decide) om_342087eeda om_7d9de264b5 rfl) dX9_scan_61 ?_
  refine lv_if_eq (tgt := 75) hx hb dX9_scan_62 (by decide) (fun h8 => ?_) (fun h8 => ?_)
  · have z9 : ((u6.1 301) 0).toInt = (0 : Int) := eq_z rfl (show (0 : Int32).toInt = (0 : Int) by decide) h8
    have q10 : (u6.1 0 305).toInt = (0 : Int) := congrArg Int32.toInt ((fr5.2.1 305 (by decide)).trans (show (wA (wA (wA (wA (wA (wA (wA v 0 300 ps) 0 304 0) 0 305 0) 0 306 0) 0 307 (-1)) 0 308 0) 0 309 (-1)).1 0 305 = (0 : Int32) by rfl))
    have q11 : (u6.1 0 306).toInt = (0 : Int) := congrArg Int32.toInt ((fr5.2.1 306 (by decide)).trans (show (wA (wA (wA (wA (wA (wA (wA v 0 300 ps) 0 304 0) 0 305 0) 0 306 0) 0 307 (-1)) 0 308 0) 0 309 (-1)).1 0 306 = (0 : Int32) by rfl))
    exact W.vret hx hb hr (fun t ht9 hW => ⟨⟨u6, rfl, ⟨(FC.tr (FC.f (FC.f (FC.f (FC.f (FC.f (FC.f (FC.f (FC.rf _) ps (by decide)) 0 (by decide)) 0 (by decide)) 0 (by decide)) (-1) (by decide)) 0 (by decide)) (-1) (by decide)) (FC.up fr5 (by decide) (by decide))), (show 0 ≤ (u6.1 0 304).toInt ∧ (u6.1 0 304).toInt ≤ 1503 from (om_3759335ead ps15)), (show 0 ≤ (u6.1 0 305).toInt ∧ (u6.1 0 305).toInt ≤ 1500 from (om_0d88366d20 q10)), (show 0 ≤ (u6.1 0 306).toInt ∧ (u6.1 0 306).toInt ≤ 40 from (om_bbe88f1648 q11)), (show (u6.1 0 304).toInt = 1 from (om_02f4c99dc6 ps15)), kk5, (show (u6.1 0 305).toInt = 0 from (om_770ca75dd5 q10)), (fr5.2.1 300 (by decide)), (RS.tr (RS.w0 (RS.w0 (RS.w0 (RS.w0 (RS.w0 (RS.w0 (RS.w0 RS.rf (by decide)) (by decide)) (by decide)) (by decide)) (by decide)) (by decide)) (by decide)) rs5)⟩, by rw [ht9]; exact hP, hD⟩, hS.F ht9⟩) hS.2.2 dX9_scan_75
  · have z12 : ((u6.1 301) 0).toInt ≠ (0 : Int) := ne_z rfl (show (0 : Int32).toInt = (0 : Int) by decide) h8
    exact False.elim (om_cff394633e kk5 z12)
theorem om_d4cdad9e12 {x0 x1 : Int} (h0 : x0 = 1) (h1 : x1 = 0) (h2 : x0 ≤ x1) : False := by omega
theorem om_17021f5476 {x0 : Int} (h0 : x0 = 0) : (x0 = 0) := by omega
set_option maxHeartbeats 4000000 in
set_option maxRecDepth 100000 in
theorem c_x_kind0 (l : Launch) (dC : Nat → ClassId) (dI : Nat → Nat → Nat) (cI cB cZ cJ cR : ClassId) (tb : Nat → Nat) (sz : Nat) (ad : Nat → Nat) (pr : Int32 → Nat) (N : Nat) (L1 L2 : List Nat) (v : MS)  (z304 : 0 ≤ (v.1 0 304).toInt ∧ (v.1 0 304).toInt ≤ 1503) (z305 : 0 ≤ (v.1 0 305).toInt ∧ (v.1 0 305).toInt ≤ 1500) (zs1 : (v.1 0 304).toInt = 1) (za0 : (v.1 0 305).toInt = 0) (k0v : ((v.1 301) 0).toInt = 0) : Met l yX9_kind (Cond.code yX9_kind cX9_kind 1 (some .int) :: tw_W) ({ frames := 0, cells := 0, slots := 0, locals := 0 }) (pc_ (dC, dI) (tyS cI cB cZ cJ cR) tb (cW ad pr N cI cR L1 L2 v) sz [.ref (ad 900)]) (qi_ (dC, dI) (cW ad pr N cI cR L1 L2 v) sz (fun (r : Int32) (u : MS) => v = u ∧ (r.toInt = 0)) (fun (u : MS) => (cW ad pr N cI cR L1 L2 u))) 0 0 (va_A (cW ad pr N cI cR L1 L2 v) sz) := by
  refine Met.ofW (cc := cX9_kind) (maxL := 1) (ret := (some .int)) (by decide) rfl ?_
  intro p e s m args below meth c s₁ B hml hv
  obtain ⟨rfl, hsz, hP, hKK, hD0, hFx⟩ := hv
  have hK := hKK.1
  have hx := B.exec
  have hb := B.bytes
  have hr := B.returns
  have ht : ∀ w ∈ tw_W, w.before _ s = true := fun w h => atoms_spec (ws := Cond.code yX9_kind cX9_kind 1 (some .int) :: tw_W) B.pre w (List.mem_cons_of_mem _ h)
  have hown : s.vm.findClass RX9 = some m.cls := findClass_of_methodNamed B.named
  have hlocks := B.notSynchronized
  subst hsz
  unfold qi_
  have hD := hD0.self (sz := s.heap.size)
  generalize hAe : va_A (cW ad pr N cI cR L1 L2 v) s.heap.size = A at hD hFx ⊢
  have hA : ∀ q : Nat, s.heap.size ≤ q → A q := fun q h => by rw [← hAe]; exact Or.inr h
  have hS : va_S A s.heap s.heap [] := va_S.rf
  have hl := lv_entry ([.ref (ad 900)]) (n := 1) (Nat.le_of_ble_eq_true rfl)
  rw [lg_entry_eq]
  generalize (lg_sl ([.ref (ad 900)]) ++ List.replicate (1 - (lg_sl ([.ref (ad 900)])).length) Slot.unset).toArray = ls at hl ⊢
  have hl : lv_has ls 1 [(0, .ref (ad 900))] := hl
  refine lv_aload_n hx hb dX9_kind_0 rfl (lv_at hl 0 rfl) ?_
  refine va_get (D := (dC, dI)) (ci := 12) (fs := oF_X9 ad pr v) (v := .int (v.1 0 305)) (C := RX9) (T := TX9) (N := 10) hx hb ht itX9 hown hK hP 0 rfl rfl 5 (by decide) (ht _ tw_444) (fun _ h9 => h9) rfl dX9_kind_1 ?_
  refine lv_if_lt (tgt := 30) hx hb dX9_kind_4 (by decide) (fun h1 => ?_) (fun h1 => ?_)
  · have z2 : (v.1 0 305).toInt < (0 : Int) := lt_z rfl (show (0 : Int32).toInt = (0 : Int) by decide) h1
    exact False.elim (om_0c7119ae80 z305 z2)
  · have z3 : (0 : Int) ≤ (v.1 0 305).toInt := nlt_z rfl (show (0 : Int32).toInt = (0 : Int) by decide) h1
    refine lv_aload_n hx hb dX9_kind_7 rfl (lv_at hl 0 rfl) ?_
    refine va_get (D := (dC, dI)) (ci := 12) (fs := oF_X9 ad pr v) (v := .int (v.1 0 305)) (C := RX9) (T := TX9) (N := 10) hx hb ht itX9 hown hK hP 0 rfl rfl 5 (by decide) (ht _ tw_444) (fun _ h9 => h9) rfl dX9_kind_8 ?_
    refine lv_aload_n hx hb dX9_kind_11 rfl (lv_at hl 0 rfl) ?_
    refine va_get (D := (dC, dI)) (ci := 12) (fs := oF_X9 ad pr v) (v := .int (v.1 0 304)) (C := RX9) (T := TX9) (N := 10) hx hb ht itX9 hown hK hP 0 rfl rfl 4 (by decide) (ht _ tw_411) (fun _ h9 => h9) rfl dX9_kind_12 ?_
    refine lv_icmp_ge (tgt := 30) hx hb dX9_kind_15 (by decide) (fun h4 => ?_) (fun h4 => ?_)
    · have z5 : (v.1 0 304).toInt ≤ (v.1 0 305).toInt := le_z rfl rfl h4
      exact False.elim (om_d4cdad9e12 zs1 za0 z5)
    · have z6 : (v.1 0 305).toInt < (v.1 0 304).toInt := nle_z rfl rfl h4
      refine lv_aload_n hx hb dX9_kind_18 rfl (lv_at hl 0 rfl) ?_
      refine va_get (D := (dC, dI)) (ci := 12) (fs := oF_X9 ad pr v) (v := .ref (ad 301)) (C := RX9) (T := TX9) (N := 10) hx hb ht itX9 hown hK hP 0 rfl rfl 1 (by decide) (ht _ tw_412) (fun _ h9 => h9) rfl dX9_kind_19 ?_
      refine lv_aload_n hx hb dX9_kind_22 rfl (lv_at hl 0 rfl) ?_
      refine va_get (D := (dC, dI)) (ci := 12) (fs := oF_X9 ad pr v) (v := .int (v.1 0 305)) (C := RX9) (T := TX9) (N := 10) hx hb ht itX9 hown hK hP 0 rfl rfl 5 (by decide) (ht _ tw_444) (fun _ h9 => h9) rfl dX9_kind_23 ?_
      refine va_iald (D := (dC, dI)) (f := (v.1 301)) hx hb hK hP 10 0 rfl rfl (in_y (a := (v.1 0 305).toInt) (b := 1503) rfl (om_0ea0e431d3 z305) (om_7e9a2bb328 za0) rfl) dX9_kind_26 ?_
      refine lv_goto (tgt := 31) hx hb dX9_kind_27 (by decide) ?_
      have q7 : ((v.1 301) (v.1 0 305).toNatClampNeg).toInt = 0 := (by rw [show (v.1 0 305).toNatClampNeg = 0 by have h9 : (v.1 0 305).toInt = 0 := (om_8d889e46da z305 za0); have := nat_z (x := (v.1 0 305)) (by omega); omega]; exact k0v)
      exact W.iret (v := ((v.1 301) (v.1 0 305).toNatClampNeg)) hx hb hr (fun t ht9 hW => ⟨⟨((v.1 301) (v.1 0 305).toNatClampNeg), v, rfl, ⟨rfl, (om_17021f5476 q7)⟩, by rw [ht9]; exact hP, hD⟩, hS.F ht9⟩) hS.2.2 dX9_kind_31
theorem om_2db4e0fcf3 {x0 x1 x2 : Int} (h0 : x0 = 0) (h1 : x1 = 0) (h2 : x2 = x0) (h3 : x1 < x2) : False := by omega
set_option maxHeartbeats 4000000 in
set_option maxRecDepth 100000 in
theorem c_x_checkCalls0 (l : Launch) (dC : Nat → ClassId) (dI : Nat → Nat → Nat) (cI cB cZ cJ cR : ClassId) (tb : Nat → Nat) (sz : Nat) (ad : Nat → Nat) (pr : Int32 → Nat) (N : Nat) (L1 L2 : List Nat) (v : MS) (ps : Int32) (z321 : 0 ≤ (v.1 0 321).toInt ∧ (v.1 0 321).toInt ≤ 501) (hL1 : L1.length = 40) (hL2 : L2.length = 60) (rp : RP v) (hps : pr ps = ad 908) (es310 : (v.1 0 310) = ps) (zc0 : (v.1 0 321).toInt = 0) : Met l yX5_checkCalls (Cond.code yX5_checkCalls cX5_checkCalls 2 none :: tw_W) ({ frames := 0, cells := 0, slots := 0, locals := 0 }) (pc_ (dC, dI) (tyS cI cB cZ cJ cR) tb (cW ad pr N cI cR L1 L2 v) sz [.ref (ad 903)]) (qv_ (dC, dI) (cW ad pr N cI cR L1 L2 v) sz (fun (u : MS) => FC [] [] v u ∧ (RS v u)) (fun (u : MS) => (cW ad pr N cI cR L1 L2 u))) 0 0 (va_A (cW ad pr N cI cR L1 L2 v) sz) := by
  refine Met.ofW (cc := cX5_checkCalls) (maxL := 2) (ret := none) (by decide) rfl ?_
  intro p e s m args below meth c s₁ B hml hv
  obtain ⟨rfl, hsz, hP, hKK, hD0, hFx⟩ := hv
  have hK := hKK.1
  have hx := B.exec
  have hb := B.bytes
  have hr := B.returns
  have ht : ∀ w ∈ tw_W, w.before _ s = true := fun w h => atoms_spec (ws := Cond.code yX5_checkCalls cX5_checkCalls 2 none :: tw_W) B.pre w (List.mem_cons_of_mem _ h)
  have hown : s.vm.findClass RX5 = some m.cls := findClass_of_methodNamed B.named
  have hlocks := B.notSynchronized
  subst hsz
  unfold qv_
  have hD := hD0.self (sz := s.heap.size)
  generalize hAe : va_A (cW ad pr N cI cR L1 L2 v) s.heap.size = A at hD hFx ⊢
  have hA : ∀ q : Nat, s.heap.size ≤ q → A q := fun q h => by rw [← hAe]; exact Or.inr h
  have hS : va_S A s.heap s.heap [] := va_S.rf
  have hl := lv_entry ([.ref (ad 903)]) (n := 2) (Nat.le_of_ble_eq_true rfl)
  rw [lg_entry_eq]
  generalize (lg_sl ([.ref (ad 903)]) ++ List.replicate (2 - (lg_sl ([.ref (ad 903)])).length) Slot.unset).toArray = ls at hl ⊢
  have hl : lv_has ls 2 [(0, .ref (ad 903))] := hl
  refine lv_iconst (v := 0) hx hb dX5_checkCalls_0 (by decide) ?_
  refine lv_istore_n (lv' := [(1, .int 0), (0, .ref (ad 903))]) hx hb dX5_checkCalls_1 rfl hl (by decide) rfl (fun ls hl => ?_)
  refine lpm_ (X := Int32 × MS) (P := (fun (x9 : Int32 × MS) (H : Heap) (locs : List Loc) (ls : Array Slot) => (FC [] [] v x9.2) ∧ (x9.1.toInt = 0) ∧ (RS v x9.2) ∧ va_P (dC, dI) vwCl (cW ad pr N cI cR L1 L2 x9.2) H ∧ va_D A (cW ad pr N cI cR L1 L2 x9.2) ∧ va_S A s.heap H locs ∧ lv_has ls 2 [(1, .int x9.1), (0, .ref (ad 903))])) (fun x9 => (501 - x9.1.toInt).toNat) 2 (fun x9 H locs ls hh ih2 => ?_) (0, v) _ _ _ ⟨(show FC [] [] v v from (FC.rf _)), (show (0 : Int) = 0 from om_3ff73904e8), (show RS v v from RS.rf), hP, hD, hS, lv_sub hl [0, 1] rfl⟩
  obtain ⟨ka, w2⟩ := x9
  obtain ⟨fwL2, f1L2, rsL2, hP, hD, hS, hl⟩ := hh
  have fwL2 : FC [] [] v w2 := fwL2
  have f1L2 : ka.toInt = 0 := f1L2
  have rsL2 : RS v w2 := rsL2
  have hP : va_P (dC, dI) vwCl (cW ad pr N cI cR L1 L2 w2) H := hP
  have hD : va_D A (cW ad pr N cI cR L1 L2 w2) := hD
  have hl : lv_has ls 2 [(1, .int ka), (0, .ref (ad 903))] := hl
  refine lv_iload_n hx hb dX5_checkCalls_2 rfl (lv_at hl 0 rfl) ?_
  refine lv_aload_n hx hb dX5_checkCalls_3 rfl (lv_at hl 1 rfl) ?_
  refine va_get (D := (dC, dI)) (ci := 8) (fs := oF_X5 ad pr w2) (v := .ref (ad 901)) (C := RX5) (T := TX5) (N := 7) hx hb ht itX5 hown hK hP 3 rfl rfl 2 (by decide) (ht _ tw_573) (fun _ h9 => h9) rfl dX5_checkCalls_4 ?_
  refine va_getN (D := (dC, dI)) (ci := 5) (fs := oF_X1 ad pr w2) (v := .int (w2.1 0 321)) (C := RX1) (T := TX1) (N := 12) hx hb ht itX1 hown hK hP 1 rfl rfl 11 (by decide) (hKK.fl2 7 rfl) (fun _ h9 => h9) rfl dX5_checkCalls_7 ?_
  refine lv_icmp_ge (tgt := 74) hx hb dX5_checkCalls_10 (by decide) (fun h1 => ?_) (fun h1 => ?_)
  · have z2 : (w2.1 0 321).toInt ≤ ka.toInt := le_z rfl rfl h1
    exact W.vret hx hb hr (fun t ht9 hW => ⟨⟨w2, rfl, ⟨(FC.tr (FC.rf _) (FC.up fwL2 (by decide) (by decide))), (RS.tr RS.rf rsL2)⟩, by rw [ht9]; exact hP, hD⟩, hS.F ht9⟩) hS.2.2 dX5_checkCalls_74
  · have z3 : ka.toInt < (w2.1 0 321).toInt := nle_z rfl rfl h1
    have q4 : (w2.1 0 321).toInt = (v.1 0 321).toInt := congrArg Int32.toInt ((fwL2.2.1 321 (by decide)).trans (show v.1 0 321 = (v.1 0 321) by rfl))
    exact False.elim (om_2db4e0fcf3 zc0 f1L2 q4 z3)
set_option maxHeartbeats 4000000 in
set_option maxRecDepth 100000 in
theorem c_x_clear0 (l : Launch) (dC : Nat → ClassId) (dI : Nat → Nat → Nat) (cI cB cZ cJ cR : ClassId) (tb : Nat → Nat) (sz : Nat) (ad : Nat → Nat) (pr : Int32 → Nat) (N : Nat) (L1 L2 : List Nat) (v : MS)   : Met l yX7_clear (Cond.code yX7_clear cX7_clear 1 none :: tw_W) ({ frames := 0, cells := 0, slots := 0, locals := 0 }) (pc_ (dC, dI) (tyS cI cB cZ cJ cR) tb (cW ad pr N cI cR L1 L2 v) sz [.ref (ad 908)]) (qv_ (dC, dI) (cW ad pr N cI cR L1 L2 v) sz (fun (u : MS) => FC [375, 377, 381, 383, 384] [0] v u ∧ (0 ≤ (u.1 0 381).toInt ∧ (u.1 0 381).toInt ≤ 3008) ∧ ((u.1 0 381).toInt = 0) ∧ ((u.1 0 375).toInt = 0) ∧ ((u.1 0 377).toInt = 0) ∧ (RS0 v u)) (fun (u : MS) => (cW ad pr N cI cR L1 L2 u))) 0 0 (va_A (cW ad pr N cI cR L1 L2 v) sz) := by
  refine Met.ofW (cc := cX7_clear) (maxL := 1) (ret := none) (by decide) rfl ?_
  intro p e s m args below meth c s₁ B hml hv
  obtain ⟨rfl, hsz, hP, hKK, hD0, hFx⟩ := hv
  have hK := hKK.1
  have hx := B.exec
  have hb := B.bytes
  have hr := B.returns
  have ht : ∀ w ∈ tw_W, w.before _ s = true := fun w h => atoms_spec (ws := Cond.code yX7_clear cX7_clear 1 none :: tw_W) B.pre w (List.mem_cons_of_mem _ h)
  have hown : s.vm.findClass RX7 = some m.cls := findClass_of_methodNamed B.named
  have hlocks := B.notSynchronized
  subst hsz
  unfold qv_
  have hD := hD0.self (sz := s.heap.size)
  generalize hAe : va_A (cW ad pr N cI cR L1 L2 v) s.heap.size = A at hD hFx ⊢
  have hA : ∀ q : Nat, s.heap.size ≤ q → A q := fun q h => by rw [← hAe]; exact Or.inr h
  have hS : va_S A s.heap s.heap [] := va_S.rf
  have hl := lv_entry ([.ref (ad 908)]) (n := 1) (Nat.le_of_ble_eq_true rfl)
  rw [lg_entry_eq]
  generalize (lg_sl ([.ref (ad 908)]) ++ List.replicate (1 - (lg_sl ([.ref (ad 908)])).length) Slot.unset).toArray = ls at hl ⊢
  have hl : lv_has ls 1 [(0, .ref (ad 908))] := hl
  refine lv_aload_n hx hb dX7_clear_0 rfl (lv_at hl 0 rfl) ?_
  refine lv_iconst (v := 0) hx hb dX7_clear_1 (by decide) ?_
  refine va_put (D := (dC, dI)) (ci := 10) (fs := oF_X7 ad pr v) (v := .int 0) (ty := .int) (C := RX7) (T := TX7) (N := 13) hx hb ht itX7 tyX7 tyX7_ok nmX7 hown hK hP hD hS 8 rfl rfl 3 (by decide) (ht _ tw_396) (fun _ h9 => h9) rfl (by decide +kernel) rfl rfl (Nat.le_of_ble_eq_true rfl) dX7_clear_2 (fun H locs hP hD hS => ?_)
  have hP := cP_ (cw_375 ad pr N cI cR L1 L2 v 0) hP
  have hD := cD_ (cw_375 ad pr N cI cR L1 L2 v 0) hD
  refine lv_aload_n hx hb dX7_clear_5 rfl (lv_at hl 0 rfl) ?_
  refine lv_iconst (v := 0) hx hb dX7_clear_6 (by decide) ?_
  refine va_put (D := (dC, dI)) (ci := 10) (fs := oF_X7 ad pr (wA v 0 375 0)) (v := .int 0) (ty := .int) (C := RX7) (T := TX7) (N := 13) hx hb ht itX7 tyX7 tyX7_ok nmX7 hown hK hP hD hS 8 rfl rfl 5 (by decide) (ht _ tw_400) (fun _ h9 => h9) rfl (by decide +kernel) rfl rfl (Nat.le_of_ble_eq_true rfl) dX7_clear_7 (fun H locs hP hD hS => ?_)
  have hP := cP_ (cw_377 ad pr N cI cR L1 L2 (wA v 0 375 0) 0) hP
  have hD := cD_ (cw_377 ad pr N cI cR L1 L2 (wA v 0 375 0) 0) hD
  refine lv_aload_n hx hb dX7_clear_10 rfl (lv_at hl 0 rfl) ?_
  refine lv_iconst (v := 0) hx hb dX7_clear_11 (by decide) ?_
  refine va_put (D := (dC, dI)) (ci := 10) (fs := oF_X7 ad pr (wA (wA v 0 375 0) 0 377 0)) (v := .int 0) (ty := .int) (C := RX7) (T := TX7) (N := 13) hx hb ht itX7 tyX7 tyX7_ok nmX7 hown hK hP hD hS 8 rfl rfl 9 (by decide) (ht _ tw_406) (fun _ h9 => h9) rfl (by decide +kernel) rfl rfl (Nat.le_of_ble_eq_true rfl) dX7_clear_12 (fun H locs hP hD hS => ?_)
  have hP := cP_ (cw_381 ad pr N cI cR L1 L2 (wA (wA v 0 375 0) 0 377 0) 0) hP
  have hD := cD_ (cw_381 ad pr N cI cR L1 L2 (wA (wA v 0 375 0) 0 377 0) 0) hD
  refine lv_aload_n hx hb dX7_clear_15 rfl (lv_at hl 0 rfl) ?_
  refine lv_iconst (v := 0) hx hb dX7_clear_16 (by decide) ?_
  refine va_put (D := (dC, dI)) (ci := 10) (fs := oF_X7 ad pr (wA (wA (wA v 0 375 0) 0 377 0) 0 381 0)) (v := .int 0) (ty := .int) (C := RX7) (T := TX7) (N := 13) hx hb ht itX7 tyX7 tyX7_ok nmX7 hown hK hP hD hS 8 rfl rfl 11 (by decide) (ht _ tw_404) (fun _ h9 => h9) rfl (by decide +kernel) rfl rfl (Nat.le_of_ble_eq_true rfl) dX7_clear_17 (fun H locs hP hD hS => ?_)
  have hP := cP_ (cw_383 ad pr N cI cR L1 L2 (wA (wA (wA v 0 375 0) 0 377 0) 0 381 0) 0) hP
  have hD := cD_ (cw_383 ad pr N cI cR L1 L2 (wA (wA (wA v 0 375 0) 0 377 0) 0 381 0) 0) hD
  refine lv_aload_n hx hb dX7_clear_20 rfl (lv_at hl 0 rfl) ?_
  refine lv_iconst (v := 0) hx hb dX7_clear_21 (by decide) ?_
  refine va_put (D := (dC, dI)) (ci := 10) (fs := oF_X7 ad pr (wA (wA (wA (wA v 0 375 0) 0 377 0) 0 381 0) 0 383 0)) (v := .int 0) (ty := .int) (C := RX7) (T := TX7) (N := 13) hx hb ht itX7 tyX7 tyX7_ok nmX7 hown hK hP hD hS 8 rfl rfl 12 (by decide) (ht _ tw_407) (fun _ h9 => h9) rfl (by decide +kernel) rfl rfl (Nat.le_of_ble_eq_true rfl) dX7_clear_22 (fun H locs hP hD hS => ?_)
  have hP := cP_ (cw_384 ad pr N cI cR L1 L2 (wA (wA (wA (wA v 0 375 0) 0 377 0) 0 381 0) 0 383 0) 0) hP
  have hD := cD_ (cw_384 ad pr N cI cR L1 L2 (wA (wA (wA (wA v 0 375 0) 0 377 0) 0 381 0) 0 383 0) 0) hD
  exact W.vret hx hb hr (fun t ht9 hW => ⟨⟨(wA (wA (wA (wA (wA v 0 375 0) 0 377 0) 0 381 0) 0 383 0) 0 384 0), rfl, ⟨(FC.f (FC.f (FC.f (FC.f (FC.f (FC.rf _) 0 (by decide)) 0 (by decide)) 0 (by decide)) 0 (by decide)) 0 (by decide)), (show 0 ≤ (0 : Int) ∧ (0 : Int) ≤ 3008 from om_bf0998abe5), (show (0 : Int) = 0 from om_3ff73904e8), (show (0 : Int) = 0 from om_3ff73904e8), (show (0 : Int) = 0 from om_3ff73904e8), (RS0.w (RS0.w (RS0.w (RS0.w (RS0.w RS0.rf (by decide)) (by decide)) (by decide)) (by decide)) (by decide))⟩, by rw [ht9]; exact hP, hD⟩, hS.F ht9⟩) hS.2.2 dX7_clear_25
set_option maxHeartbeats 4000000 in
set_option maxRecDepth 100000 in
theorem c_x_begin0 (l : Launch) (dC : Nat → ClassId) (dI : Nat → Nat → Nat) (cI cB cZ cJ cR : ClassId) (tb : Nat → Nat) (sz : Nat) (ad : Nat → Nat) (pr : Int32 → Nat) (N : Nat) (L1 L2 : List Nat) (v : MS) (ps : Int32) (hps : pr ps = ad 908) : Met l yX1_begin (Cond.code yX1_begin cX1_begin 2 none :: tw_W) ({ frames := 1, cells := 0, slots := 0, locals := 20 }) (pc_ (dC, dI) (tyS cI cB cZ cJ cR) tb (cW ad pr N cI cR L1 L2 v) sz [.ref (ad 901), .ref (pr ps)]) (qv_ (dC, dI) (cW ad pr N cI cR L1 L2 v) sz (fun (u : MS) => FC [310, 317, 321, 375, 377, 381, 383, 384] [0] v u ∧ (0 ≤ (u.1 0 321).toInt ∧ (u.1 0 321).toInt ≤ 501) ∧ (0 ≤ (u.1 0 381).toInt ∧ (u.1 0 381).toInt ≤ 3008) ∧ ((u.1 0 375).toInt = 0) ∧ ((u.1 0 377).toInt = 0) ∧ ((u.1 0 381).toInt = 0) ∧ ((u.1 0 321).toInt = 0) ∧ (u.1 0 310 = ps) ∧ (RS0 v u)) (fun (u : MS) => (cW ad pr N cI cR L1 L2 u))) 0 0 (va_A (cW ad pr N cI cR L1 L2 v) sz) := by
  refine Met.ofW (cc := cX1_begin) (maxL := 2) (ret := none) (by decide) rfl ?_
  intro p e s m args below meth c s₁ B hml hv
  obtain ⟨rfl, hsz, hP, hKK, hD0, hFx⟩ := hv
  have hK := hKK.1
  have hx := B.exec
  have hb := B.bytes
  have hr := B.returns
  have ht : ∀ w ∈ tw_W, w.before _ s = true := fun w h => atoms_spec (ws := Cond.code yX1_begin cX1_begin 2 none :: tw_W) B.pre w (List.mem_cons_of_mem _ h)
  have hown : s.vm.findClass RX1 = some m.cls := findClass_of_methodNamed B.named
  have hlocks := B.notSynchronized
  subst hsz
  unfold qv_
  have hD := hD0.self (sz := s.heap.size)
  generalize hAe : va_A (cW ad pr N cI cR L1 L2 v) s.heap.size = A at hD hFx ⊢
  have hA : ∀ q : Nat, s.heap.size ≤ q → A q := fun q h => by rw [← hAe]; exact Or.inr h
  have hS : va_S A s.heap s.heap [] := va_S.rf
  have hl := lv_entry ([.ref (ad 901), .ref (pr ps)]) (n := 2) (Nat.le_of_ble_eq_true rfl)
  rw [lg_entry_eq]
  generalize (lg_sl ([.ref (ad 901), .ref (pr ps)]) ++ List.replicate (2 - (lg_sl ([.ref (ad 901), .ref (pr ps)])).length) Slot.unset).toArray = ls at hl ⊢
  have hl : lv_has ls 2 [(0, .ref (ad 901)), (1, .ref (pr ps))] := hl
  refine lv_aload_n hx hb dX1_begin_0 rfl (lv_at hl 0 rfl) ?_
  refine lv_aload_n hx hb dX1_begin_1 rfl (lv_at hl 1 rfl) ?_
  refine va_put (D := (dC, dI)) (ci := 5) (fs := oF_X1 ad pr v) (v := .ref (pr ps)) (ty := .object "PocketCompiler$Program") (C := RX1) (T := TX1) (N := 12) hx hb ht itX1 tyX1 tyX1_ok nmX1 hown hK hP hD hS 1 rfl rfl 0 (by decide) (ht _ tw_463) (fun _ h9 => h9) rfl (by decide +kernel) rfl rfl (Nat.le_of_ble_eq_true rfl) dX1_begin_2 (fun H locs hP hD hS => ?_)
  have hP := cP_ (cw_310 ad pr N cI cR L1 L2 v ps) hP
  have hD := cD_ (cw_310 ad pr N cI cR L1 L2 v ps) hD
  refine lv_aload_n hx hb dX1_begin_5 rfl (lv_at hl 0 rfl) ?_
  refine va_get (D := (dC, dI)) (ci := 5) (fs := oF_X1 ad pr (wA v 0 310 ps)) (v := .ref (pr ps)) (C := RX1) (T := TX1) (N := 12) hx hb ht itX1 hown hK hP 1 rfl rfl 0 (by decide) (ht _ tw_463) (fun _ h9 => h9) rfl dX1_begin_6 ?_
  refine W.eq (g2 := F0 m 9 ls [.ref (ad 908)]) (by rw [show pr ps = (ad 908) from hps]) ?_
  refine cu_v (rn_Vk (n := 0) (As := []) (rest := []) hx hb hml hown ht hKK hFx hP hD hS hA (c_x_clear0 l dC dI cI cB cZ cJ cR tb H.size ad pr N L1 L2 (wA v 0 310 ps)  ) tw_464 tw_465 (by decide +kernel) rfl rfl ⟨Nat.le_of_ble_eq_true rfl, Nat.le_of_ble_eq_true rfl⟩ (List.range (cW ad pr N cI cR L1 L2 (wA v 0 310 ps)).length) (rg_map _) (nd_range _) 8 rfl rfl rfl rfl hl.1 rfl (Nat.le_of_ble_eq_true rfl) dX1_begin_9 ⟨Nat.le_of_ble_eq_true rfl, Nat.le_of_ble_eq_true rfl⟩) hP hD hS hA (fun u2 H locs hw1 hP hD hS => ?_)
  obtain ⟨fr1, i3811, pd1, p751, p771, rs1⟩ := hw1
  have i3811 : 0 ≤ (u2.1 0 381).toInt ∧ (u2.1 0 381).toInt ≤ 3008 := i3811
  have pd1 : (u2.1 0 381).toInt = 0 := pd1
  have p751 : (u2.1 0 375).toInt = 0 := p751
  have p771 : (u2.1 0 377).toInt = 0 := p771
  have rs1 : RS0 (wA v 0 310 ps) u2 := rs1
  refine W.widen (k := 0) (n := 0) (Nat.le_refl _) (Nat.le_refl _) ?_
  refine lv_aload_n hx hb dX1_begin_12 rfl (lv_at hl 0 rfl) ?_
  refine lv_iconst (v := 0) hx hb dX1_begin_13 (by decide) ?_
  refine va_put (D := (dC, dI)) (ci := 5) (fs := oF_X1 ad pr u2) (v := .int 0) (ty := .int) (C := RX1) (T := TX1) (N := 12) hx hb ht itX1 tyX1 tyX1_ok nmX1 hown hK hP hD hS 1 rfl rfl 7 (by decide) (ht _ tw_466) (fun _ h9 => h9) rfl (by decide +kernel) rfl rfl (Nat.le_of_ble_eq_true rfl) dX1_begin_14 (fun H locs hP hD hS => ?_)
  have hP := cP_ (cw_317 ad pr N cI cR L1 L2 u2 0) hP
  have hD := cD_ (cw_317 ad pr N cI cR L1 L2 u2 0) hD
  refine lv_aload_n hx hb dX1_begin_17 rfl (lv_at hl 0 rfl) ?_
  refine lv_iconst (v := 0) hx hb dX1_begin_18 (by decide) ?_
  refine va_put (D := (dC, dI)) (ci := 5) (fs := oF_X1 ad pr (wA u2 0 317 0)) (v := .int 0) (ty := .int) (C := RX1) (T := TX1) (N := 12) hx hb ht itX1 tyX1 tyX1_ok nmX1 hown hK hP hD hS 1 rfl rfl 11 (by decide) (ht _ tw_467) (fun _ h9 => h9) rfl (by decide +kernel) rfl rfl (Nat.le_of_ble_eq_true rfl) dX1_begin_19 (fun H locs hP hD hS => ?_)
  have hP := cP_ (cw_321 ad pr N cI cR L1 L2 (wA u2 0 317 0) 0) hP
  have hD := cD_ (cw_321 ad pr N cI cR L1 L2 (wA u2 0 317 0) 0) hD
  exact W.vret hx hb hr (fun t ht9 hW => ⟨⟨(wA (wA u2 0 317 0) 0 321 0), rfl, ⟨(FC.f (FC.f (FC.tr (FC.f (FC.rf _) ps (by decide)) (FC.up fr1 (by decide) (by decide))) 0 (by decide)) 0 (by decide)), (show 0 ≤ (0 : Int) ∧ (0 : Int) ≤ 501 from om_6f14a58586), (show 0 ≤ (u2.1 0 381).toInt ∧ (u2.1 0 381).toInt ≤ 3008 from (om_2745cf8b1e i3811 pd1)), (show (u2.1 0 375).toInt = 0 from (om_0659e01c57 p751)), (show (u2.1 0 377).toInt = 0 from (om_0659e01c57 p771)), (show (u2.1 0 381).toInt = 0 from (om_ed0e4a93a4 i3811 pd1)), (show (0 : Int) = 0 from om_3ff73904e8), (fr1.2.1 310 (by decide)), (RS0.w (RS0.w (RS0.tr (show RS0 v (wA v 0 310 ps) from (RS0.w RS0.rf (by decide))) rs1) (by decide)) (by decide))⟩, by rw [ht9]; exact hP, hD⟩, hS.F ht9⟩) hS.2.2 dX1_begin_22
theorem om_69c6bda9dd {x0 x1 x2 : Int} (h0 : x0 = 1) (h1 : x1 = x0) (h2 : x2 = x1) : 0 ≤ x2 ∧ x2 ≤ 1503 := by omega
theorem om_92600693ac {x0 x1 x2 : Int} (h0 : x0 = 1) (h1 : x1 = x0) (h2 : x2 = x1) : x2 = 1 := by omega
theorem om_1f5004e982 {x0 x1 x2 : Int} (h0 : 0 ≤ x0 ∧ x0 ≤ 1500) (h1 : x0 = 0) (h2 : x1 = x0) (h3 : x2 = x1) : x2 = 0 := by omega
theorem om_2295752cbf {x0 x1 : Int} (h0 : 0 ≤ x0 ∧ x0 ≤ 501) (h1 : x0 = 0) (h2 : x1 = x0) : 0 ≤ x1 ∧ x1 ≤ 501 := by omega
theorem om_2e3337cb73 {x0 x1 : Int} (h0 : 0 ≤ x0 ∧ x0 ≤ 501) (h1 : x0 = 0) (h2 : x1 = x0) : x1 = 0 := by omega
theorem om_1ecbe48a10 {x0 x1 x2 : Int} (h0 : 0 ≤ x0 ∧ x0 ≤ 501) (h1 : x0 = 0) (h2 : x1 = x0) (h3 : x2 = x1) : 0 ≤ x2 ∧ x2 ≤ 501 := by omega
theorem om_82730bf8df {x0 x1 x2 : Int} (h0 : 0 ≤ x0 ∧ x0 ≤ 3008) (h1 : x0 = 0) (h2 : x1 = x0) (h3 : x2 = x1) : 0 ≤ x2 ∧ x2 ≤ 3008 := by omega
theorem om_db925afa7b {x0 x1 x2 x3 x4 : Int} (h0 : 0 ≤ x0 ∧ x0 ≤ 1500) (h1 : x0 = 0) (h2 : x1 = x0) (h3 : x2 = x1) (h4 : x3 = x2) (h5 : x4 = x3) : 0 ≤ x4 ∧ x4 ≤ 1500 := by omega
theorem om_66d226f9e8 {x0 x1 x2 x3 : Int} (h0 : 0 ≤ x0 ∧ x0 ≤ 3008) (h1 : x0 = 0) (h2 : x1 = x0) (h3 : x2 = x1) (h4 : x3 = x2) : 0 ≤ x3 ∧ x3 ≤ 3008 := by omega
theorem om_9485956f00 {x0 x1 x2 x3 : Int} (h0 : 0 ≤ x0 ∧ x0 ≤ 3008) (h1 : x0 = 0) (h2 : x1 = x0) (h3 : x2 = x1) (h4 : x3 = x2) : x3 = 0 := by omega
theorem om_53cae78c4e {x0 x1 x2 x3 : Int} (h0 : x0 = 0) (h1 : x1 = x0) (h2 : x2 = x1) (h3 : x3 = x2) : x3 = 0 := by omega
theorem om_e4069a6d81 {x0 : Int} (h0 : (x0 = 0)) (h1 : x0 ≠ (0 : Int)) : False := by omega
set_option maxHeartbeats 4000000 in
set_option maxRecDepth 100000 in
theorem c_x_readText0 (l : Launch) (dC : Nat → ClassId) (dI : Nat → Nat → Nat) (cI cB cZ cJ cR : ClassId) (tb : Nat → Nat) (sz : Nat) (ad : Nat → Nat) (pr : Int32 → Nat) (N : Nat) (L1 L2 : List Nat) (v : MS) (ps : Int32) (hL1 : L1.length = 40) (hL2 : L2.length = 60) (rp : RP v) (hps : pr ps = ad 908) (z373 : 0 ≤ (v.1 0 373).toInt ∧ (v.1 0 373).toInt ≤ 4000) (zl0 : (v.1 0 373).toInt = 0) : Met l yX5_readText (Cond.code yX5_readText cX5_readText 4 none :: tw_W) ({ frames := 4, cells := 0, slots := 0, locals := 88 }) (pc_ (dC, dI) (tyS cI cB cZ cJ cR) tb (cW ad pr N cI cR L1 L2 v) sz [.ref (ad 903), .ref (pr ps)]) (qv_ (dC, dI) (cW ad pr N cI cR L1 L2 v) sz (fun (u : MS) => FC [300, 304, 305, 306, 307, 308, 309, 310, 312, 313, 314, 315, 317, 321, 326, 327, 331, 332, 333, 375, 377, 381, 383, 384] [0, 301, 302, 303, 311, 316, 318, 319, 320, 324, 325, 378, 379, 380] v u ∧ (0 ≤ (u.1 0 305).toInt ∧ (u.1 0 305).toInt ≤ 1500) ∧ (0 ≤ (u.1 0 381).toInt ∧ (u.1 0 381).toInt ≤ 3008) ∧ ((u.1 0 381).toInt = 0) ∧ ((u.1 0 375).toInt = 0) ∧ ((u.1 0 377).toInt = 0)) (fun (u : MS) => (cW ad pr N cI cR L1 L2 u))) 0 0 (va_A (cW ad pr N cI cR L1 L2 v) sz) := by
  refine Met.ofW (cc := cX5_readText) (maxL := 4) (ret := none) (by decide) rfl ?_
  intro p e s m args below meth c s₁ B hml hv
  obtain ⟨rfl, hsz, hP, hKK, hD0, hFx⟩ := hv
  have hK := hKK.1
  have hx := B.exec
  have hb := B.bytes
  have hr := B.returns
  have ht : ∀ w ∈ tw_W, w.before _ s = true := fun w h => atoms_spec (ws := Cond.code yX5_readText cX5_readText 4 none :: tw_W) B.pre w (List.mem_cons_of_mem _ h)
  have hown : s.vm.findClass RX5 = some m.cls := findClass_of_methodNamed B.named
  have hlocks := B.notSynchronized
  subst hsz
  unfold qv_
  have hD := hD0.self (sz := s.heap.size)
  generalize hAe : va_A (cW ad pr N cI cR L1 L2 v) s.heap.size = A at hD hFx ⊢
  have hA : ∀ q : Nat, s.heap.size ≤ q → A q := fun q h => by rw [← hAe]; exact Or.inr h
  have hS : va_S A s.heap s.heap [] := va_S.rf
  have hl := lv_entry ([.ref (ad 903), .ref (pr ps)]) (n := 4) (Nat.le_of_ble_eq_true rfl)
  rw [lg_entry_eq]
  generalize (lg_sl ([.ref (ad 903), .ref (pr ps)]) ++ List.replicate (4 - (lg_sl ([.ref (ad 903), .ref (pr ps)])).length) Slot.unset).toArray = ls at hl ⊢
  have hl : lv_has ls 4 [(0, .ref (ad 903)), (1, .ref (pr ps))] := hl
  refine lv_aload_n hx hb dX5_readText_0 rfl (lv_at hl 0 rfl) ?_
  refine lv_aload_n hx hb dX5_readText_1 rfl (lv_at hl 1 rfl) ?_
  refine va_put (D := (dC, dI)) (ci := 8) (fs := oF_X5 ad pr v) (v := .ref (pr ps)) (ty := .object "PocketCompiler$Program") (C := RX5) (T := TX5) (N := 7) hx hb ht itX5 tyX5 tyX5_ok nmX5 hown hK hP hD hS 3 rfl rfl 0 (by decide) (ht _ tw_588) (fun _ h9 => h9) rfl (by decide +kernel) rfl rfl (Nat.le_of_ble_eq_true rfl) dX5_readText_2 (fun H locs hP hD hS => ?_)
  have hP := cP_ (cw_327 ad pr N cI cR L1 L2 v ps) hP
  have hD := cD_ (cw_327 ad pr N cI cR L1 L2 v ps) hD
  refine lv_aload_n hx hb dX5_readText_5 rfl (lv_at hl 0 rfl) ?_
  refine va_get (D := (dC, dI)) (ci := 8) (fs := oF_X5 ad pr (wA v 0 327 ps)) (v := .ref (ad 900)) (C := RX5) (T := TX5) (N := 7) hx hb ht itX5 hown hK hP 3 rfl rfl 1 (by decide) (ht _ tw_571) (fun _ h9 => h9) rfl dX5_readText_6 ?_
  refine lv_aload_n hx hb dX5_readText_9 rfl (lv_at hl 1 rfl) ?_
  refine cu_v (rn_Vk (n := 1) (As := [.ref (pr ps)]) (rest := []) hx hb hml hown ht hKK hFx hP hD hS hA (c_x_scan0 l dC dI cI cB cZ cJ cR tb H.size ad pr N L1 L2 (wA v 0 327 ps) ps (show pr ps = ad 908 from hps) (show 0 ≤ (v.1 0 373).toInt ∧ (v.1 0 373).toInt ≤ 4000 from (om_8549563861 z373 zl0)) (show (v.1 0 373).toInt = 0 from (om_5d95054e40 z373 zl0))) tw_654 tw_655 (by decide +kernel) rfl rfl ⟨Nat.le_of_ble_eq_true rfl, Nat.le_of_ble_eq_true rfl⟩ (List.range (cW ad pr N cI cR L1 L2 (wA v 0 327 ps)).length) (rg_map _) (nd_range _) 0 rfl rfl rfl rfl hl.1 rfl (Nat.le_of_ble_eq_true rfl) dX5_readText_10 ⟨Nat.le_of_ble_eq_true rfl, Nat.le_of_ble_eq_true rfl⟩) hP hD hS hA (fun u2 H locs hw1 hP hD hS => ?_)
  obtain ⟨fr1, i3041, i3051, i3061, ps11, kk1, pa11, sl1, rs1⟩ := hw1
  have i3041 : 0 ≤ (u2.1 0 304).toInt ∧ (u2.1 0 304).toInt ≤ 1503 := i3041
  have i3051 : 0 ≤ (u2.1 0 305).toInt ∧ (u2.1 0 305).toInt ≤ 1500 := i3051
  have i3061 : 0 ≤ (u2.1 0 306).toInt ∧ (u2.1 0 306).toInt ≤ 40 := i3061
  have ps11 : (u2.1 0 304).toInt = 1 := ps11
  have kk1 : ((u2.1 301) 0).toInt = 0 := kk1
  have pa11 : (u2.1 0 305).toInt = 0 := pa11
  have sl1 : u2.1 0 300 = ps := sl1
  have rs1 : RS (wA v 0 327 ps) u2 := rs1
  refine W.widen (k := 0) (n := 0) (Nat.le_refl _) (Nat.le_refl _) ?_
  refine lv_aload_n hx hb dX5_readText_13 rfl (lv_at hl 0 rfl) ?_
  refine va_get (D := (dC, dI)) (ci := 8) (fs := oF_X5 ad pr u2) (v := .ref (ad 901)) (C := RX5) (T := TX5) (N := 7) hx hb ht itX5 hown hK hP 3 rfl rfl 2 (by decide) (ht _ tw_573) (fun _ h9 => h9) rfl dX5_readText_14 ?_
  refine lv_aload_n hx hb dX5_readText_17 rfl (lv_at hl 1 rfl) ?_
  refine cu_v (rn_Vk (n := 1) (As := [.ref (pr ps)]) (rest := []) hx hb hml hown ht hKK hFx hP hD hS hA (c_x_begin0 l dC dI cI cB cZ cJ cR tb H.size ad pr N L1 L2 u2 ps (show pr ps = ad 908 from hps)) tw_656 tw_657 (by decide +kernel) rfl rfl ⟨Nat.le_of_ble_eq_true rfl, Nat.le_of_ble_eq_true rfl⟩ (List.range (cW ad pr N cI cR L1 L2 u2).length) (rg_map _) (nd_range _) 1 rfl rfl rfl rfl hl.1 rfl (Nat.le_of_ble_eq_true rfl) dX5_readText_18 ⟨Nat.le_of_ble_eq_true rfl, Nat.le_of_ble_eq_true rfl⟩) hP hD hS hA (fun u5 H locs hw4 hP hD hS => ?_)
  obtain ⟨fr4, i3214, i3814, p754, p774, pd4, pc14, sl3104, rs4⟩ := hw4
  have i3214 : 0 ≤ (u5.1 0 321).toInt ∧ (u5.1 0 321).toInt ≤ 501 := i3214
  have i3814 : 0 ≤ (u5.1 0 381).toInt ∧ (u5.1 0 381).toInt ≤ 3008 := i3814
  have p754 : (u5.1 0 375).toInt = 0 := p754
  have p774 : (u5.1 0 377).toInt = 0 := p774
  have pd4 : (u5.1 0 381).toInt = 0 := pd4
  have pc14 : (u5.1 0 321).toInt = 0 := pc14
  have sl3104 : u5.1 0 310 = ps := sl3104
  have rs4 : RS0 u2 u5 := rs4
  refine W.widen (k := 0) (n := 0) (Nat.le_refl _) (Nat.le_refl _) ?_
  refine lv_aload_n hx hb dX5_readText_21 rfl (lv_at hl 0 rfl) ?_
  refine va_get (D := (dC, dI)) (ci := 8) (fs := oF_X5 ad pr u5) (v := .ref (ad 902)) (C := RX5) (T := TX5) (N := 7) hx hb ht itX5 hown hK hP 3 rfl rfl 3 (by decide) (ht _ tw_608) (fun _ h9 => h9) rfl dX5_readText_22 ?_
  refine cu_v (rn_Vk (n := 0) (As := []) (rest := []) hx hb hml hown ht hKK hFx hP hD hS hA (c_x_X2_begin l dC dI cI cB cZ cJ cR tb H.size ad pr N L1 L2 u5  ) tw_658 tw_659 (by decide +kernel) rfl rfl ⟨Nat.le_of_ble_eq_true rfl, Nat.le_of_ble_eq_true rfl⟩ (List.range (cW ad pr N cI cR L1 L2 u5).length) (rg_map _) (nd_range _) 2 rfl rfl rfl rfl hl.1 rfl (Nat.le_of_ble_eq_true rfl) dX5_readText_25 ⟨Nat.le_of_ble_eq_true rfl, Nat.le_of_ble_eq_true rfl⟩) hP hD hS hA (fun u8 H locs hw7 hP hD hS => ?_)
  obtain ⟨fr7, ex7, i3267, p3267, rs7⟩ := hw7
  have i3267 : 0 ≤ (u8.1 0 326).toInt ∧ (u8.1 0 326).toInt ≤ 420 := i3267
  have p3267 : (u8.1 0 326).toInt = 0 := p3267
  have rs7 : RS u5 u8 := rs7
  refine W.widen (k := 0) (n := 0) (Nat.le_refl _) (Nat.le_refl _) ?_
  refine lv_iconst (v := 0) hx hb dX5_readText_28 (by decide) ?_
  refine lv_istore_n (lv' := [(2, .int 0), (0, .ref (ad 903)), (1, .ref (pr ps))]) hx hb dX5_readText_29 rfl hl (by decide) rfl (fun ls hl => ?_)
  refine lv_iload_n hx hb dX5_readText_30 rfl (lv_at hl 0 rfl) ?_
  refine lv_sipush (v := 1500) hx hb dX5_readText_31 (by decide) ?_
  refine lv_icmp_ge (tgt := 76) hx hb dX5_readText_34 (by decide) (fun k10 => absurd k10 (by decide)) (fun _ => ?_)
  refine lv_aload_n hx hb dX5_readText_37 rfl (lv_at hl 1 rfl) ?_
  refine va_get (D := (dC, dI)) (ci := 8) (fs := oF_X5 ad pr u8) (v := .ref (ad 900)) (C := RX5) (T := TX5) (N := 7) hx hb ht itX5 hown hK hP 3 rfl rfl 1 (by decide) (ht _ tw_571) (fun _ h9 => h9) rfl dX5_readText_38 ?_
  have q11 : (u5.1 0 304).toInt = (u2.1 0 304).toInt := congrArg Int32.toInt ((fr4.2.1 304 (by decide)).trans (show u2.1 0 304 = (u2.1 0 304) by rfl))
  have q12 : (u8.1 0 304).toInt = (u5.1 0 304).toInt := congrArg Int32.toInt ((fr7.2.1 304 (by decide)).trans (show u5.1 0 304 = (u5.1 0 304) by rfl))
  have q13 : (u5.1 0 305).toInt = (u2.1 0 305).toInt := congrArg Int32.toInt ((fr4.2.1 305 (by decide)).trans (show u2.1 0 305 = (u2.1 0 305) by rfl))
  have q14 : (u8.1 0 305).toInt = (u5.1 0 305).toInt := congrArg Int32.toInt ((fr7.2.1 305 (by decide)).trans (show u5.1 0 305 = (u5.1 0 305) by rfl))
  refine cu_i (rn_Vk (n := 0) (As := []) (rest := []) hx hb hml hown ht hKK hFx hP hD hS hA (c_x_kind0 l dC dI cI cB cZ cJ cR tb H.size ad pr N L1 L2 u8  (show 0 ≤ (u8.1 0 304).toInt ∧ (u8.1 0 304).toInt ≤ 1503 from (om_69c6bda9dd ps11 q11 q12)) (show 0 ≤ (u8.1 0 305).toInt ∧ (u8.1 0 305).toInt ≤ 1500 from (om_4c5f4ee65d i3051 pa11 q13 q14)) (show (u8.1 0 304).toInt = 1 from (om_92600693ac ps11 q11 q12)) (show (u8.1 0 305).toInt = 0 from (om_1f5004e982 i3051 pa11 q13 q14)) (show ((u8.1 301) 0).toInt = 0 from (by rw [show u8.1 301 = u5.1 301 from fr7.2.2 301 ⟨by decide, by decide⟩]; exact (by rw [show u5.1 301 = u2.1 301 from fr4.2.2 301 ⟨by decide, by decide⟩]; exact kk1)))) tw_455 tw_594 (by decide +kernel) rfl rfl ⟨Nat.le_of_ble_eq_true rfl, Nat.le_of_ble_eq_true rfl⟩ (List.range (cW ad pr N cI cR L1 L2 u8).length) (rg_map _) (nd_range _) 0 rfl rfl rfl rfl hl.1 rfl (Nat.le_of_ble_eq_true rfl) dX5_readText_41 ⟨Nat.le_of_ble_eq_true rfl, Nat.le_of_ble_eq_true rfl⟩) hP hD hS hA (fun r17 u16 H locs hw15 hP hD hS => ?_)
  obtain ⟨rfl, c15⟩ := hw15
  have c15 : (r17.toInt = 0) := c15
  refine W.widen (k := 0) (n := 0) (Nat.le_refl _) (Nat.le_refl _) ?_
  refine lv_if_eq (tgt := 76) hx hb dX5_readText_44 (by decide) (fun h18 => ?_) (fun h18 => ?_)
  · have z19 : r17.toInt = (0 : Int) := eq_z rfl (show (0 : Int32).toInt = (0 : Int) by decide) h18
    refine lv_aload_n hx hb dX5_readText_76 rfl (lv_at hl 1 rfl) ?_
    have q20 : (u8.1 0 321).toInt = (u5.1 0 321).toInt := congrArg Int32.toInt ((fr7.2.1 321 (by decide)).trans (show u5.1 0 321 = (u5.1 0 321) by rfl))
    refine cu_v (rn_Vk (n := 0) (As := []) (rest := []) hx hb hml hown ht hKK hFx hP hD hS hA (c_x_checkCalls0 l dC dI cI cB cZ cJ cR tb H.size ad pr N L1 L2 u8 ps (show 0 ≤ (u8.1 0 321).toInt ∧ (u8.1 0 321).toInt ≤ 501 from (om_2295752cbf i3214 pc14 q20)) (show L1.length = 40 from hL1) (show L2.length = 60 from hL2) (show RP u8 from ((show FC [300, 304, 305, 306, 307, 308, 309, 310, 312, 313, 314, 315, 317, 321, 326, 327, 331, 332, 333, 375, 377, 381, 383, 384] [0, 301, 302, 303, 311, 316, 318, 319, 320, 324, 325, 378, 379, 380] v u8 from (FC.tr (FC.tr (FC.tr (FC.f (FC.rf _) ps (by decide)) (FC.up fr1 (by decide) (by decide))) (FC.up fr4 (by decide) (by decide))) (FC.up fr7 (by decide) (by decide)))).1 rp)) (show pr ps = ad 908 from hps) (show (u8.1 0 310) = ps from (Eq.trans (fr7.2.1 310 (by decide)) sl3104)) (show (u8.1 0 321).toInt = 0 from (om_2e3337cb73 i3214 pc14 q20))) tw_660 tw_661 (by decide +kernel) rfl rfl ⟨Nat.le_of_ble_eq_true rfl, Nat.le_of_ble_eq_true rfl⟩ (List.range (cW ad pr N cI cR L1 L2 u8).length) (rg_map _) (nd_range _) 3 rfl rfl rfl rfl hl.1 rfl (Nat.le_of_ble_eq_true rfl) dX5_readText_77 ⟨Nat.le_of_ble_eq_true rfl, Nat.le_of_ble_eq_true rfl⟩) hP hD hS hA (fun u22 H locs hw21 hP hD hS => ?_)
    obtain ⟨fr21, rs21⟩ := hw21
    have rs21 : RS u8 u22 := rs21
    refine W.widen (k := 0) (n := 0) (Nat.le_refl _) (Nat.le_refl _) ?_
    refine lv_aload_n hx hb dX5_readText_80 rfl (lv_at hl 1 rfl) ?_
    refine va_get (D := (dC, dI)) (ci := 8) (fs := oF_X5 ad pr u22) (v := .ref (ad 901)) (C := RX5) (T := TX5) (N := 7) hx hb ht itX5 hown hK hP 3 rfl rfl 2 (by decide) (ht _ tw_573) (fun _ h9 => h9) rfl dX5_readText_81 ?_
    have q24 : (u22.1 0 321).toInt = (u8.1 0 321).toInt := congrArg Int32.toInt ((fr21.2.1 321 (by decide)).trans (show u8.1 0 321 = (u8.1 0 321) by rfl))
    have q25 : (u8.1 0 381).toInt = (u5.1 0 381).toInt := congrArg Int32.toInt ((fr7.2.1 381 (by decide)).trans (show u5.1 0 381 = (u5.1 0 381) by rfl))
    have q26 : (u22.1 0 381).toInt = (u8.1 0 381).toInt := congrArg Int32.toInt ((fr21.2.1 381 (by decide)).trans (show u8.1 0 381 = (u8.1 0 381) by rfl))
    refine cu_v (rn_Vk (n := 0) (As := []) (rest := []) hx hb hml hown ht hKK hFx hP hD hS hA (c_x_X1_link l dC dI cI cB cZ cJ cR tb H.size ad pr N L1 L2 u22 ps (show 0 ≤ (u22.1 0 321).toInt ∧ (u22.1 0 321).toInt ≤ 501 from (om_1ecbe48a10 i3214 pc14 q20 q24)) (show 0 ≤ (u22.1 0 381).toInt ∧ (u22.1 0 381).toInt ≤ 3008 from (om_82730bf8df i3814 pd4 q25 q26)) (show L1.length = 40 from hL1) (show L2.length = 60 from hL2) (show RP u22 from ((show FC [300, 304, 305, 306, 307, 308, 309, 310, 312, 313, 314, 315, 317, 321, 326, 327, 331, 332, 333, 375, 377, 381, 383, 384] [0, 301, 302, 303, 311, 316, 318, 319, 320, 324, 325, 378, 379, 380] v u22 from (FC.tr (FC.tr (FC.tr (FC.tr (FC.f (FC.rf _) ps (by decide)) (FC.up fr1 (by decide) (by decide))) (FC.up fr4 (by decide) (by decide))) (FC.up fr7 (by decide) (by decide))) (FC.up fr21 (by decide) (by decide)))).1 rp)) (show pr ps = ad 908 from hps) (show (u22.1 0 310) = ps from (Eq.trans (fr21.2.1 310 (by decide)) (Eq.trans (fr7.2.1 310 (by decide)) sl3104)))) tw_662 tw_663 (by decide +kernel) rfl rfl ⟨Nat.le_of_ble_eq_true rfl, Nat.le_of_ble_eq_true rfl⟩ (List.range (cW ad pr N cI cR L1 L2 u22).length) (rg_map _) (nd_range _) 1 rfl rfl rfl rfl hl.1 rfl (Nat.le_of_ble_eq_true rfl) dX5_readText_84 ⟨Nat.le_of_ble_eq_true rfl, Nat.le_of_ble_eq_true rfl⟩) hP hD hS hA (fun u28 H locs hw27 hP hD hS => ?_)
    obtain ⟨fr27, ex27, rs27⟩ := hw27
    have rs27 : RS0 u22 u28 := rs27
    refine W.widen (k := 0) (n := 0) (Nat.le_refl _) (Nat.le_refl _) ?_
    have q30 : (u22.1 0 305).toInt = (u8.1 0 305).toInt := congrArg Int32.toInt ((fr21.2.1 305 (by decide)).trans (show u8.1 0 305 = (u8.1 0 305) by rfl))
    have q31 : (u28.1 0 305).toInt = (u22.1 0 305).toInt := congrArg Int32.toInt ((fr27.2.1 305 (by decide)).trans (show u22.1 0 305 = (u22.1 0 305) by rfl))
    have q32 : (u28.1 0 381).toInt = (u22.1 0 381).toInt := congrArg Int32.toInt ((fr27.2.1 381 (by decide)).trans (show u22.1 0 381 = (u22.1 0 381) by rfl))
    have q33 : (u8.1 0 375).toInt = (u5.1 0 375).toInt := congrArg Int32.toInt ((fr7.2.1 375 (by decide)).trans (show u5.1 0 375 = (u5.1 0 375) by rfl))
    have q34 : (u22.1 0 375).toInt = (u8.1 0 375).toInt := congrArg Int32.toInt ((fr21.2.1 375 (by decide)).trans (show u8.1 0 375 = (u8.1 0 375) by rfl))
    have q35 : (u28.1 0 375).toInt = (u22.1 0 375).toInt := congrArg Int32.toInt ((fr27.2.1 375 (by decide)).trans (show u22.1 0 375 = (u22.1 0 375) by rfl))
    have q36 : (u8.1 0 377).toInt = (u5.1 0 377).toInt := congrArg Int32.toInt ((fr7.2.1 377 (by decide)).trans (show u5.1 0 377 = (u5.1 0 377) by rfl))
    have q37 : (u22.1 0 377).toInt = (u8.1 0 377).toInt := congrArg Int32.toInt ((fr21.2.1 377 (by decide)).trans (show u8.1 0 377 = (u8.1 0 377) by rfl))
    have q38 : (u28.1 0 377).toInt = (u22.1 0 377).toInt := congrArg Int32.toInt ((fr27.2.1 377 (by decide)).trans (show u22.1 0 377 = (u22.1 0 377) by rfl))
    exact W.vret hx hb hr (fun t ht9 hW => ⟨⟨u28, rfl, ⟨(FC.tr (FC.tr (FC.tr (FC.tr (FC.tr (FC.f (FC.rf _) ps (by decide)) (FC.up fr1 (by decide) (by decide))) (FC.up fr4 (by decide) (by decide))) (FC.up fr7 (by decide) (by decide))) (FC.up fr21 (by decide) (by decide))) (FC.up fr27 (by decide) (by decide))), (show 0 ≤ (u28.1 0 305).toInt ∧ (u28.1 0 305).toInt ≤ 1500 from (om_db925afa7b i3051 pa11 q13 q14 q30 q31)), (show 0 ≤ (u28.1 0 381).toInt ∧ (u28.1 0 381).toInt ≤ 3008 from (om_66d226f9e8 i3814 pd4 q25 q26 q32)), (show (u28.1 0 381).toInt = 0 from (om_9485956f00 i3814 pd4 q25 q26 q32)), (show (u28.1 0 375).toInt = 0 from (om_53cae78c4e p754 q33 q34 q35)), (show (u28.1 0 377).toInt = 0 from (om_53cae78c4e p774 q36 q37 q38))⟩, by rw [ht9]; exact hP, hD⟩, hS.F ht9⟩) hS.2.2 dX5_readText_87
  · have z39 : r17.toInt ≠ (0 : Int) := ne_z rfl (show (0 : Int32).toInt = (0 : Int) by decide) h18
    exact False.elim (om_e4069a6d81 c15 z39)
