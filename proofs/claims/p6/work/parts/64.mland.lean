theorem dX13_land_0 : decode cX13_land 0 = .ok (.iload_n 1, 1) := by decide +kernel
theorem dX13_land_1 : decode cX13_land 1 = .ok (.istore_n 3, 1) := by decide +kernel
theorem dX13_land_2 : decode cX13_land 2 = .ok (.iload_n 3, 1) := by decide +kernel
theorem dX13_land_3 : decode cX13_land 3 = .ok (.iconst (-1), 1) := by decide +kernel
theorem dX13_land_4 : decode cX13_land 4 = .ok (.if_icmp .eq 24, 3) := by decide +kernel
theorem dX13_land_28 : decode cX13_land 28 = .ok (.return_, 1) := by decide +kernel
theorem dX13_land_7 : decode cX13_land 7 = .ok (.aload_n 0, 1) := by decide +kernel
theorem dX13_land_8 : decode cX13_land 8 = .ok (.getfield 101, 3) := by decide +kernel
theorem dX13_land_11 : decode cX13_land 11 = .ok (.iload_n 3, 1) := by decide +kernel
theorem dX13_land_12 : decode cX13_land 12 = .ok (.iaload, 1) := by decide +kernel
theorem dX13_land_13 : decode cX13_land 13 = .ok (.istore 4, 2) := by decide +kernel
theorem dX13_land_15 : decode cX13_land 15 = .ok (.aload_n 0, 1) := by decide +kernel
theorem dX13_land_16 : decode cX13_land 16 = .ok (.iload_n 3, 1) := by decide +kernel
theorem dX13_land_17 : decode cX13_land 17 = .ok (.iconst 0, 1) := by decide +kernel
theorem dX13_land_18 : decode cX13_land 18 = .ok (.iload_n 2, 1) := by decide +kernel
theorem dX13_land_19 : decode cX13_land 19 = .ok (.invokevirtual 114, 3) := by decide +kernel
theorem dX13_land_22 : decode cX13_land 22 = .ok (.iload 4, 2) := by decide +kernel
theorem dX13_land_24 : decode cX13_land 24 = .ok (.istore_n 3, 1) := by decide +kernel
theorem dX13_land_25 : decode cX13_land 25 = .ok (.goto (-23), 3) := by decide +kernel
theorem dX13_arrive_0 : decode cX13_arrive 0 = .ok (.iload_n 1, 1) := by decide +kernel
theorem dX13_arrive_1 : decode cX13_arrive 1 = .ok (.istore_n 3, 1) := by decide +kernel
theorem dX13_arrive_2 : decode cX13_arrive 2 = .ok (.iload_n 3, 1) := by decide +kernel
theorem dX13_arrive_3 : decode cX13_arrive 3 = .ok (.iconst (-1), 1) := by decide +kernel
theorem dX13_arrive_4 : decode cX13_arrive 4 = .ok (.if_icmp .eq 24, 3) := by decide +kernel
theorem dX13_arrive_28 : decode cX13_arrive 28 = .ok (.return_, 1) := by decide +kernel
theorem dX13_arrive_7 : decode cX13_arrive 7 = .ok (.aload_n 0, 1) := by decide +kernel
theorem dX13_arrive_8 : decode cX13_arrive 8 = .ok (.getfield 124, 3) := by decide +kernel
theorem dX13_arrive_11 : decode cX13_arrive 11 = .ok (.iload_n 3, 1) := by decide +kernel
theorem dX13_arrive_12 : decode cX13_arrive 12 = .ok (.iaload, 1) := by decide +kernel
theorem dX13_arrive_13 : decode cX13_arrive 13 = .ok (.istore 4, 2) := by decide +kernel
theorem dX13_arrive_15 : decode cX13_arrive 15 = .ok (.aload_n 0, 1) := by decide +kernel
theorem dX13_arrive_16 : decode cX13_arrive 16 = .ok (.getfield 124, 3) := by decide +kernel
theorem dX13_arrive_19 : decode cX13_arrive 19 = .ok (.iload_n 3, 1) := by decide +kernel
theorem dX13_arrive_20 : decode cX13_arrive 20 = .ok (.iload_n 2, 1) := by decide +kernel
theorem dX13_arrive_21 : decode cX13_arrive 21 = .ok (.iastore, 1) := by decide +kernel
theorem dX13_arrive_22 : decode cX13_arrive 22 = .ok (.iload 4, 2) := by decide +kernel
theorem dX13_arrive_24 : decode cX13_arrive 24 = .ok (.istore_n 3, 1) := by decide +kernel
theorem dX13_arrive_25 : decode cX13_arrive 25 = .ok (.goto (-23), 3) := by decide +kernel
theorem om_1844118e24 {x0 x1 : Int} (h0 : 0 ≤ x0 ∧ x0 ≤ 24000) (h1 : -1 ≤ x1 ∧ x1 < x0) : -1 ≤ x1 ∧ x1 < 24000 := by omega
theorem om_462da0edb9 {x0 : Int} (h0 : -1 ≤ x0 ∧ x0 < 24000) (h1 : x0 ≠ (-1 : Int)) : 0 ≤ x0 := by omega
theorem om_9316385618 {x0 : Int} (h0 : -1 ≤ x0 ∧ x0 < 24000) : x0 < 24000 := by omega
theorem om_054cfd6eb6 {x0 x1 : Int} (h0 : -1 ≤ x0 ∧ x0 < x1) : 0 ≤ x1 := by omega
theorem om_41a2539204 {x0 x1 : Int} (h0 : -1 ≤ x0 ∧ x0 < 24000) (h1 : -1 ≤ x1 ∧ x1 < x0) : 0 ≤ x0 ∧ x0 < 24000 := by omega
theorem om_b7c63a1f3a {x0 x1 : Int} (h0 : -1 ≤ x0 ∧ x0 < 24000) (h1 : -1 ≤ x1 ∧ x1 < x0) : -1 ≤ x1 ∧ x1 < 24000 := by omega
theorem om_6dd0469142 {x0 x1 : Int} (h0 : -1 ≤ x0 ∧ x0 < x1) : x0 + 1 < x1 + 1 := by omega
theorem om_6e1a5f4972 {x0 x1 : Int} (h0 : -1 ≤ x0 ∧ x0 < x1) : 0 < x1 + 1 := by omega
set_option maxHeartbeats 4000000 in
set_option maxRecDepth 100000 in
theorem c_m_land (l : Launch) (dC : Nat → ClassId) (dI : Nat → Nat → Nat) (cI cB cZ cJ cR : ClassId) (tb : Nat → Nat) (sz : Nat) (ad : Nat → Nat) (N : Nat) (v : MS) (pa : Int32) (pb : Int32) (lab : Nat → Nat) (lb9 : Nat) (ch : CH (v.1 11) (v.1 0 12).toInt lab) (sl : SL lab pa lb9) (hl9 : lb9 ≠ 0) (zc : 0 ≤ (v.1 0 12).toInt ∧ (v.1 0 12).toInt ≤ 24000) : Met l yX13_land (Cond.code yX13_land cX13_land 5 none :: tw_W) ({ frames := 2, cells := 0, slots := 0, locals := 44 }) (pc_ (dC, dI) (tyS cI cB cZ cJ cR) tb (mW ad N cI cZ cJ v) sz [.ref (ad 0), .int pa, .int pb]) (qv_ (dC, dI) (mW ad N cI cZ cJ v) sz (fun (u : MS) => FG [] [11] v u ∧ (Q_m_land v pa pb u) ∧ (∀ j : Nat, lab j ≠ lb9 → (u.1 11) j = (v.1 11) j)) (fun (u : MS) => (mW ad N cI cZ cJ u))) 0 0 (va_A (mW ad N cI cZ cJ v) sz) := by
  refine Met.ofW (cc := cX13_land) (maxL := 5) (ret := none) (by decide) rfl ?_
  intro p e s m args below meth c s₁ B hml hv
  obtain ⟨rfl, hsz, hP, hKK, hD0, hFx⟩ := hv
  have hK := hKK.1
  have hx := B.exec
  have hb := B.bytes
  have hr := B.returns
  have ht : ∀ w ∈ tw_W, w.before _ s = true := fun w h => atoms_spec (ws := Cond.code yX13_land cX13_land 5 none :: tw_W) B.pre w (List.mem_cons_of_mem _ h)
  have hown : s.vm.findClass RX13 = some m.cls := findClass_of_methodNamed B.named
  have hlocks := B.notSynchronized
  subst hsz
  unfold qv_
  have hD := hD0.self (sz := s.heap.size)
  generalize hAe : va_A (mW ad N cI cZ cJ v) s.heap.size = A at hD hFx ⊢
  have hA : ∀ q : Nat, s.heap.size ≤ q → A q := fun q h => by rw [← hAe]; exact Or.inr h
  have hS : va_S A s.heap s.heap [] := va_S.rf
  have hl := lv_entry ([.ref (ad 0), .int pa, .int pb]) (n := 5) (Nat.le_of_ble_eq_true rfl)
  rw [lg_entry_eq]
  generalize (lg_sl ([.ref (ad 0), .int pa, .int pb]) ++ List.replicate (5 - (lg_sl ([.ref (ad 0), .int pa, .int pb])).length) Slot.unset).toArray = ls at hl ⊢
  have hl : lv_has ls 5 [(0, .ref (ad 0)), (1, .int pa), (2, .int pb)] := hl
  have zp9 : -1 ≤ pa.toInt ∧ pa.toInt < (v.1 0 12).toInt := sl.lt hl9 ch zc.1
  refine lv_iload_n hx hb dX13_land_0 rfl (lv_at hl 1 rfl) ?_
  refine lv_istore_n (lv' := [(3, .int pa), (0, .ref (ad 0)), (1, .int pa), (2, .int pb)]) hx hb dX13_land_1 rfl hl (by decide) rfl (fun ls hl => ?_)
  refine lpm_ (X := Int32 × MS) (P := (fun (x9 : Int32 × MS) (H : Heap) (locs : List Loc) (ls : Array Slot) => (FG [] [11] v x9.2) ∧ (∀ j : Nat, lab j ≠ lb9 → (x9.2.1 11) j = (v.1 11) j) ∧ (∀ j : Nat, (j : Int) ≤ x9.1.toInt → (x9.2.1 11) j = (v.1 11) j) ∧ (SL lab x9.1 lb9) ∧ (-1 ≤ x9.1.toInt ∧ x9.1.toInt < 24000) ∧ (RT (Q_m_land_L0 v pb) (pa, v) (x9.1, x9.2)) ∧ va_P (dC, dI) vwCl (mW ad N cI cZ cJ x9.2) H ∧ va_D A (mW ad N cI cZ cJ x9.2) ∧ va_S A s.heap H locs ∧ lv_has ls 5 [(3, .int x9.1), (0, .ref (ad 0)), (1, .int pa), (2, .int pb)])) (fun x9 => (x9.1.toInt + 1).toNat) 2 (fun x9 H locs ls hh ih2 => ?_) (pa, v) _ _ _ ⟨(show FG [] [11] v v from (FG.rf _)), (show ∀ j : Nat, lab j ≠ lb9 → (v.1 11) j = (v.1 11) j from (fun _ _ => rfl)), (show ∀ j : Nat, (j : Int) ≤ pa.toInt → (v.1 11) j = (v.1 11) j from (fun _ _ => rfl)), (show SL lab pa lb9 from sl), (show -1 ≤ pa.toInt ∧ pa.toInt < 24000 from (om_1844118e24 zc zp9)), RT.rf, hP, hD, hS, lv_sub hl [0, 1, 2, 3] rfl⟩
  obtain ⟨k, w2⟩ := x9
  obtain ⟨fwL2, r1L2, r2L2, r3L2, f4L2, exL2, hP, hD, hS, hl⟩ := hh
  have fwL2 : FG [] [11] v w2 := fwL2
  have r1L2 : ∀ j : Nat, lab j ≠ lb9 → (w2.1 11) j = (v.1 11) j := r1L2
  have r2L2 : ∀ j : Nat, (j : Int) ≤ k.toInt → (w2.1 11) j = (v.1 11) j := r2L2
  have r3L2 : SL lab k lb9 := r3L2
  have f4L2 : -1 ≤ k.toInt ∧ k.toInt < 24000 := f4L2
  have hP : va_P (dC, dI) vwCl (mW ad N cI cZ cJ w2) H := hP
  have hD : va_D A (mW ad N cI cZ cJ w2) := hD
  have hl : lv_has ls 5 [(3, .int k), (0, .ref (ad 0)), (1, .int pa), (2, .int pb)] := hl
  refine lv_iload_n hx hb dX13_land_2 rfl (lv_at hl 0 rfl) ?_
  refine lv_iconst (v := -1) hx hb dX13_land_3 (by decide) ?_
  refine lv_icmp_eq (tgt := 28) hx hb dX13_land_4 (by decide) (fun h1 => ?_) (fun h1 => ?_)
  · have z2 : k.toInt = (-1 : Int) := eq_z rfl (show ((-1) : Int32).toInt = (-1 : Int) by decide) h1
    exact W.vret hx hb hr (fun t ht9 hW => ⟨⟨w2, rfl, ⟨(FG.tr (FG.rf _) (FG.up fwL2 (by decide) (by decide))), ⟨zc, k, w2, exL2, fwL2, f4L2, z2, rfl⟩, r1L2⟩, by rw [ht9]; exact hP, hD⟩, hS.F ht9⟩) hS.2.2 dX13_land_28
  · have z3 : k.toInt ≠ (-1 : Int) := ne_z rfl (show ((-1) : Int32).toInt = (-1 : Int) by decide) h1
    refine lv_aload_n hx hb dX13_land_7 rfl (lv_at hl 1 rfl) ?_
    refine va_get (D := (dC, dI)) (ci := 16) (fs := mF ad w2) (v := .ref (ad 11)) (C := RX13) (T := TX13) (N := 124) hx hb ht itX13 hown hK hP 0 rfl rfl 11 (by decide) (ht _ tw_6) (fun _ h9 => h9) rfl dX13_land_8 ?_
    refine lv_iload_n hx hb dX13_land_11 rfl (lv_at hl 0 rfl) ?_
    refine va_iald (D := (dC, dI)) (f := (w2.1 11)) hx hb hK hP 8 0 rfl rfl (in_y (a := k.toInt) (b := 24000) rfl (om_462da0edb9 f4L2 z3) (om_9316385618 f4L2) rfl) dX13_land_12 ?_
    have nx9 := ch.next (x := k) r3L2 hl9 (om_462da0edb9 f4L2 z3)
    have rx9 : (w2.1 11) k.toNatClampNeg = (v.1 11) k.toNatClampNeg := r2L2 _ (by have := nat_z (x := k) (om_462da0edb9 f4L2 z3); omega)
    rw [← rx9] at nx9
    have ns9 : SL lab ((w2.1 11) k.toNatClampNeg) lb9 := nx9.1
    have nl9 : -1 ≤ ((w2.1 11) k.toNatClampNeg).toInt ∧ ((w2.1 11) k.toNatClampNeg).toInt < k.toInt := nx9.2
    have lk9 : lab k.toNatClampNeg = lb9 := r3L2.at (om_054cfd6eb6 nl9)
    refine lv_istore (lv' := [(4, .int ((w2.1 11) k.toNatClampNeg)), (3, .int k), (0, .ref (ad 0)), (1, .int pa), (2, .int pb)]) hx hb dX13_land_13 hl (by decide) rfl (fun ls hl => ?_)
    refine lv_aload_n hx hb dX13_land_15 rfl (lv_at hl 2 rfl) ?_
    refine lv_iload_n hx hb dX13_land_16 rfl (lv_at hl 1 rfl) ?_
    refine lv_iconst (v := 0) hx hb dX13_land_17 (by decide) ?_
    refine lv_iload_n hx hb dX13_land_18 rfl (lv_at hl 4 rfl) ?_
    refine cu_v (rn_V (n := 3) (As := [.int k, .int 0, .int pb]) (rest := []) hx hb hml hown ht hKK hFx hP hD hS hA (c_m_jump l dC dI cI cB cZ cJ cR tb H.size ad N w2 k (0 : Int32) pb (show 0 ≤ k.toInt ∧ k.toInt < 24000 from (om_41a2539204 f4L2 nl9))) tw_126 tw_127 (by decide +kernel) rfl rfl ⟨Nat.le_of_ble_eq_true rfl, Nat.le_of_ble_eq_true rfl⟩ (List.range (mW ad N cI cZ cJ w2).length) (rg_map _) (mW_nd _ _ _ _ _ _) rfl rfl rfl rfl hl.1 rfl (Nat.le_of_ble_eq_true rfl) dX13_land_19 ⟨Nat.le_of_ble_eq_true rfl, Nat.le_of_ble_eq_true rfl⟩) hP hD hS hA (fun u5 H locs hw4 hP hD hS => ?_)
    obtain ⟨x7, rfl, ex4⟩ := hw4
    have hP : va_P (dC, dI) vwCl (mW ad N cI cZ cJ (wA w2 11 k.toNatClampNeg x7)) H := hP
    have hD : va_D A (mW ad N cI cZ cJ (wA w2 11 k.toNatClampNeg x7)) := hD
    refine W.widen (k := 0) (n := 0) (Nat.le_refl _) (Nat.le_refl _) ?_
    refine lv_iload hx hb dX13_land_22 (lv_at hl 0 rfl) ?_
    refine lv_istore_n (lv' := [(3, .int ((w2.1 11) k.toNatClampNeg)), (4, .int ((w2.1 11) k.toNatClampNeg)), (0, .ref (ad 0)), (1, .int pa), (2, .int pb)]) hx hb dX13_land_24 rfl hl (by decide) rfl (fun ls hl => ?_)
    refine lv_goto (tgt := 2) hx hb dX13_land_25 (by decide) ?_
    exact ih2 (((w2.1 11) k.toNatClampNeg), (wA w2 11 k.toNatClampNeg x7)) _ _ _ (show (((w2.1 11) k.toNatClampNeg).toInt + 1).toNat < (k.toInt + 1).toNat from tn_z (om_6dd0469142 nl9) (om_6e1a5f4972 nl9)) ⟨(show FG [] [11] v (wA w2 11 k.toNatClampNeg x7) from (FG.a (FG.tr (FG.rf _) (FG.up fwL2 (by decide) (by decide))) k.toNatClampNeg x7 (by decide) (by decide))), (show ∀ j : Nat, lab j ≠ lb9 → (upd (w2.1 11) k.toNatClampNeg x7) j = (v.1 11) j from (fun j9 hj9 => (un_lab lk9 hj9).trans (r1L2 j9 hj9))), (show ∀ j : Nat, (j : Int) ≤ ((w2.1 11) k.toNatClampNeg).toInt → (upd (w2.1 11) k.toNatClampNeg x7) j = (v.1 11) j from (fun j9 hj9 => (pk_un (by have := nat_z (x := k) (om_054cfd6eb6 nl9); have := nl9.2; omega)).trans (r2L2 j9 (by have := nl9.2; omega)))), (show SL lab ((w2.1 11) k.toNatClampNeg) lb9 from ns9), (show -1 ≤ ((w2.1 11) k.toNatClampNeg).toInt ∧ ((w2.1 11) k.toNatClampNeg).toInt < 24000 from (om_b7c63a1f3a f4L2 nl9)), (RT.st exL2 ⟨fwL2, f4L2, z3, x7, ex4, rfl⟩), hP, hD, hS, lv_sub hl [0, 2, 3, 4] rfl⟩
theorem om_8aec0a2234 {x0 x1 : Int} (h0 : 0 ≤ x0 ∧ x0 ≤ 16000) (h1 : -1 ≤ x1 ∧ x1 < x0) : -1 ≤ x1 ∧ x1 < 16000 := by omega
theorem om_711aa9e46d {x0 : Int} (h0 : x0 = (-1 : Int)) : x0 < 0 := by omega
theorem om_1768644b42 {x0 : Int} (h0 : -1 ≤ x0 ∧ x0 < 16000) (h1 : x0 ≠ (-1 : Int)) : 0 ≤ x0 := by omega
theorem om_e07c04d4db {x0 : Int} (h0 : -1 ≤ x0 ∧ x0 < 16000) : x0 < 16000 := by omega
theorem om_94a50eda50 {x0 x1 : Int} (h0 : -1 ≤ x0 ∧ x0 < 16000) (h1 : -1 ≤ x1 ∧ x1 < x0) : -1 ≤ x1 ∧ x1 < 16000 := by omega
set_option maxHeartbeats 4000000 in
set_option maxRecDepth 100000 in
theorem c_m_arrive2 (l : Launch) (dC : Nat → ClassId) (dI : Nat → Nat → Nat) (cI cB cZ cJ cR : ClassId) (tb : Nat → Nat) (sz : Nat) (ad : Nat → Nat) (N : Nat) (v : MS) (pa : Int32) (pb : Int32) (lab : Nat → Nat) (lb9 : Nat) (ch : CH (v.1 14) (v.1 0 15).toInt lab) (sl : SL lab pa lb9) (hl9 : lb9 ≠ 0) (zc : 0 ≤ (v.1 0 15).toInt ∧ (v.1 0 15).toInt ≤ 16000) (cm1 : ∀ j i : Nat, lab j ≠ 0 → lab i = lab j → i < j → (i : Int) ≤ ((v.1 14) j).toInt) (cm2 : ∀ i : Nat, lab i = lb9 → (i : Int) ≤ pa.toInt) : Met l yX13_arrive (Cond.code yX13_arrive cX13_arrive 5 none :: tw_W) ({ frames := 0, cells := 0, slots := 0, locals := 0 }) (pc_ (dC, dI) (tyS cI cB cZ cJ cR) tb (mW ad N cI cZ cJ v) sz [.ref (ad 0), .int pa, .int pb]) (qv_ (dC, dI) (mW ad N cI cZ cJ v) sz (fun (u : MS) => FG [] [14] v u ∧ (Q_m_arrive2 v pa pb u) ∧ (∀ j : Nat, lab j ≠ lb9 → (u.1 14) j = (v.1 14) j) ∧ (∀ j : Nat, lab j = lb9 → (u.1 14) j = pb)) (fun (u : MS) => (mW ad N cI cZ cJ u))) 0 0 (va_A (mW ad N cI cZ cJ v) sz) := by
  refine Met.ofW (cc := cX13_arrive) (maxL := 5) (ret := none) (by decide) rfl ?_
  intro p e s m args below meth c s₁ B hml hv
  obtain ⟨rfl, hsz, hP, hKK, hD0, hFx⟩ := hv
  have hK := hKK.1
  have hx := B.exec
  have hb := B.bytes
  have hr := B.returns
  have ht : ∀ w ∈ tw_W, w.before _ s = true := fun w h => atoms_spec (ws := Cond.code yX13_arrive cX13_arrive 5 none :: tw_W) B.pre w (List.mem_cons_of_mem _ h)
  have hown : s.vm.findClass RX13 = some m.cls := findClass_of_methodNamed B.named
  have hlocks := B.notSynchronized
  subst hsz
  unfold qv_
  have hD := hD0.self (sz := s.heap.size)
  generalize hAe : va_A (mW ad N cI cZ cJ v) s.heap.size = A at hD hFx ⊢
  have hA : ∀ q : Nat, s.heap.size ≤ q → A q := fun q h => by rw [← hAe]; exact Or.inr h
  have hS : va_S A s.heap s.heap [] := va_S.rf
  have hl := lv_entry ([.ref (ad 0), .int pa, .int pb]) (n := 5) (Nat.le_of_ble_eq_true rfl)
  rw [lg_entry_eq]
  generalize (lg_sl ([.ref (ad 0), .int pa, .int pb]) ++ List.replicate (5 - (lg_sl ([.ref (ad 0), .int pa, .int pb])).length) Slot.unset).toArray = ls at hl ⊢
  have hl : lv_has ls 5 [(0, .ref (ad 0)), (1, .int pa), (2, .int pb)] := hl
  have zp9 : -1 ≤ pa.toInt ∧ pa.toInt < (v.1 0 15).toInt := sl.lt hl9 ch zc.1
  refine lv_iload_n hx hb dX13_arrive_0 rfl (lv_at hl 1 rfl) ?_
  refine lv_istore_n (lv' := [(3, .int pa), (0, .ref (ad 0)), (1, .int pa), (2, .int pb)]) hx hb dX13_arrive_1 rfl hl (by decide) rfl (fun ls hl => ?_)
  refine lpm_ (X := Int32 × MS) (P := (fun (x9 : Int32 × MS) (H : Heap) (locs : List Loc) (ls : Array Slot) => (FG [] [14] v x9.2) ∧ (∀ j : Nat, lab j ≠ lb9 → (x9.2.1 14) j = (v.1 14) j) ∧ (∀ j : Nat, (j : Int) ≤ x9.1.toInt → (x9.2.1 14) j = (v.1 14) j) ∧ (SL lab x9.1 lb9) ∧ (-1 ≤ x9.1.toInt ∧ x9.1.toInt < 16000) ∧ (∀ j : Nat, lab j = lb9 → x9.1.toInt < (j : Int) → (x9.2.1 14) j = pb) ∧ (RT (Q_m_arrive2_L0 v pb) (pa, v) (x9.1, x9.2)) ∧ va_P (dC, dI) vwCl (mW ad N cI cZ cJ x9.2) H ∧ va_D A (mW ad N cI cZ cJ x9.2) ∧ va_S A s.heap H locs ∧ lv_has ls 5 [(3, .int x9.1), (0, .ref (ad 0)), (1, .int pa), (2, .int pb)])) (fun x9 => (x9.1.toInt + 1).toNat) 2 (fun x9 H locs ls hh ih2 => ?_) (pa, v) _ _ _ ⟨(show FG [] [14] v v from (FG.rf _)), (show ∀ j : Nat, lab j ≠ lb9 → (v.1 14) j = (v.1 14) j from (fun _ _ => rfl)), (show ∀ j : Nat, (j : Int) ≤ pa.toInt → (v.1 14) j = (v.1 14) j from (fun _ _ => rfl)), (show SL lab pa lb9 from sl), (show -1 ≤ pa.toInt ∧ pa.toInt < 16000 from (om_8aec0a2234 zc zp9)), (show ∀ j : Nat, lab j = lb9 → pa.toInt < (j : Int) → (v.1 14) j = pb from (fun j9 h9 q9 => absurd q9 (by have := cm2 j9 h9; omega))), RT.rf, hP, hD, hS, lv_sub hl [0, 1, 2, 3] rfl⟩
  obtain ⟨k, w2⟩ := x9
  obtain ⟨fwL2, r1L2, r2L2, r3L2, f4L2, r4L2, exL2, hP, hD, hS, hl⟩ := hh
  have fwL2 : FG [] [14] v w2 := fwL2
  have r1L2 : ∀ j : Nat, lab j ≠ lb9 → (w2.1 14) j = (v.1 14) j := r1L2
  have r2L2 : ∀ j : Nat, (j : Int) ≤ k.toInt → (w2.1 14) j = (v.1 14) j := r2L2
  have r3L2 : SL lab k lb9 := r3L2
  have f4L2 : -1 ≤ k.toInt ∧ k.toInt < 16000 := f4L2
  have r4L2 : ∀ j : Nat, lab j = lb9 → k.toInt < (j : Int) → (w2.1 14) j = pb := r4L2
  have hP : va_P (dC, dI) vwCl (mW ad N cI cZ cJ w2) H := hP
  have hD : va_D A (mW ad N cI cZ cJ w2) := hD
  have hl : lv_has ls 5 [(3, .int k), (0, .ref (ad 0)), (1, .int pa), (2, .int pb)] := hl
  refine lv_iload_n hx hb dX13_arrive_2 rfl (lv_at hl 0 rfl) ?_
  refine lv_iconst (v := -1) hx hb dX13_arrive_3 (by decide) ?_
  refine lv_icmp_eq (tgt := 28) hx hb dX13_arrive_4 (by decide) (fun h1 => ?_) (fun h1 => ?_)
  · have z2 : k.toInt = (-1 : Int) := eq_z rfl (show ((-1) : Int32).toInt = (-1 : Int) by decide) h1
    exact W.vret hx hb hr (fun t ht9 hW => ⟨⟨w2, rfl, ⟨(FG.tr (FG.rf _) (FG.up fwL2 (by decide) (by decide))), ⟨zc, k, w2, exL2, fwL2, f4L2, z2, rfl⟩, r1L2, (fun j9 h9 => r4L2 j9 h9 (by have := (om_711aa9e46d z2); omega))⟩, by rw [ht9]; exact hP, hD⟩, hS.F ht9⟩) hS.2.2 dX13_arrive_28
  · have z3 : k.toInt ≠ (-1 : Int) := ne_z rfl (show ((-1) : Int32).toInt = (-1 : Int) by decide) h1
    refine lv_aload_n hx hb dX13_arrive_7 rfl (lv_at hl 1 rfl) ?_
    refine va_get (D := (dC, dI)) (ci := 16) (fs := mF ad w2) (v := .ref (ad 14)) (C := RX13) (T := TX13) (N := 124) hx hb ht itX13 hown hK hP 0 rfl rfl 14 (by decide) (ht _ tw_12) (fun _ h9 => h9) rfl dX13_arrive_8 ?_
    refine lv_iload_n hx hb dX13_arrive_11 rfl (lv_at hl 0 rfl) ?_
    refine va_iald (D := (dC, dI)) (f := (w2.1 14)) hx hb hK hP 10 0 rfl rfl (in_y (a := k.toInt) (b := 16000) rfl (om_1768644b42 f4L2 z3) (om_e07c04d4db f4L2) rfl) dX13_arrive_12 ?_
    have nx9 := ch.next (x := k) r3L2 hl9 (om_1768644b42 f4L2 z3)
    have rx9 : (w2.1 14) k.toNatClampNeg = (v.1 14) k.toNatClampNeg := r2L2 _ (by have := nat_z (x := k) (om_1768644b42 f4L2 z3); omega)
    rw [← rx9] at nx9
    have ns9 : SL lab ((w2.1 14) k.toNatClampNeg) lb9 := nx9.1
    have nl9 : -1 ≤ ((w2.1 14) k.toNatClampNeg).toInt ∧ ((w2.1 14) k.toNatClampNeg).toInt < k.toInt := nx9.2
    have nv9 : ((w2.1 14) k.toNatClampNeg) = (v.1 14) k.toNatClampNeg := rx9
    have lk9 : lab k.toNatClampNeg = lb9 := r3L2.at (om_054cfd6eb6 nl9)
    refine lv_istore (lv' := [(4, .int ((w2.1 14) k.toNatClampNeg)), (3, .int k), (0, .ref (ad 0)), (1, .int pa), (2, .int pb)]) hx hb dX13_arrive_13 hl (by decide) rfl (fun ls hl => ?_)
    refine lv_aload_n hx hb dX13_arrive_15 rfl (lv_at hl 2 rfl) ?_
    refine va_get (D := (dC, dI)) (ci := 16) (fs := mF ad w2) (v := .ref (ad 14)) (C := RX13) (T := TX13) (N := 124) hx hb ht itX13 hown hK hP 0 rfl rfl 14 (by decide) (ht _ tw_12) (fun _ h9 => h9) rfl dX13_arrive_16 ?_
    refine lv_iload_n hx hb dX13_arrive_19 rfl (lv_at hl 1 rfl) ?_
    refine lv_iload_n hx hb dX13_arrive_20 rfl (lv_at hl 4 rfl) ?_
    refine va_iast (D := (dC, dI)) (f := (w2.1 14)) hx hb hK hP hD hS 10 0 rfl rfl (in_y (a := k.toInt) (b := 16000) rfl (om_054cfd6eb6 nl9) (om_e07c04d4db f4L2) rfl) dX13_arrive_21 (fun H locs hP hD hS => ?_)
    have hP := cP_ (ma_14 ad N cI cZ cJ w2 k.toNatClampNeg pb) hP
    have hD := cD_ (ma_14 ad N cI cZ cJ w2 k.toNatClampNeg pb) hD
    refine lv_iload hx hb dX13_arrive_22 (lv_at hl 0 rfl) ?_
    refine lv_istore_n (lv' := [(3, .int ((w2.1 14) k.toNatClampNeg)), (4, .int ((w2.1 14) k.toNatClampNeg)), (0, .ref (ad 0)), (1, .int pa), (2, .int pb)]) hx hb dX13_arrive_24 rfl hl (by decide) rfl (fun ls hl => ?_)
    refine lv_goto (tgt := 2) hx hb dX13_arrive_25 (by decide) ?_
    exact ih2 (((w2.1 14) k.toNatClampNeg), (wA w2 14 k.toNatClampNeg pb)) _ _ _ (show (((w2.1 14) k.toNatClampNeg).toInt + 1).toNat < (k.toInt + 1).toNat from tn_z (om_6dd0469142 nl9) (om_6e1a5f4972 nl9)) ⟨(show FG [] [14] v (wA w2 14 k.toNatClampNeg pb) from (FG.a (FG.tr (FG.rf _) (FG.up fwL2 (by decide) (by decide))) k.toNatClampNeg pb (by decide) (by decide))), (show ∀ j : Nat, lab j ≠ lb9 → (upd (w2.1 14) k.toNatClampNeg pb) j = (v.1 14) j from (fun j9 hj9 => (un_lab lk9 hj9).trans (r1L2 j9 hj9))), (show ∀ j : Nat, (j : Int) ≤ ((w2.1 14) k.toNatClampNeg).toInt → (upd (w2.1 14) k.toNatClampNeg pb) j = (v.1 14) j from (fun j9 hj9 => (pk_un (by have := nat_z (x := k) (om_054cfd6eb6 nl9); have := nl9.2; omega)).trans (r2L2 j9 (by have := nl9.2; omega)))), (show SL lab ((w2.1 14) k.toNatClampNeg) lb9 from ns9), (show -1 ≤ ((w2.1 14) k.toNatClampNeg).toInt ∧ ((w2.1 14) k.toNatClampNeg).toInt < 16000 from (om_94a50eda50 f4L2 nl9)), (show ∀ j : Nat, lab j = lb9 → ((w2.1 14) k.toNatClampNeg).toInt < (j : Int) → (upd (w2.1 14) k.toNatClampNeg pb) j = pb from (arr_step (om_054cfd6eb6 nl9) lk9 hl9 nv9 cm1 r4L2)), (RT.st exL2 ⟨fwL2, f4L2, z3, rfl⟩), hP, hD, hS, lv_sub hl [0, 2, 3, 4] rfl⟩
