theorem om_e3c27f9cb3 {x0 : Int} (h0 : 0 ≤ x0 ∧ x0 ≤ 4000) : 0 ≤ x0 := by omega
theorem om_06a90a4625 {x0 x1 x2 : Int} (h0 : x0 < ((x1) - (x2))) : x0 < (x1) - (x2) := by omega
set_option maxHeartbeats 4000000 in
set_option maxRecDepth 100000 in
theorem c_m_isSame2 (l : Launch) (dC : Nat → ClassId) (dI : Nat → Nat → Nat) (cI cB cZ cJ cR : ClassId) (tb : Nat → Nat) (sz : Nat) (ad : Nat → Nat) (N : Nat) (v : MS) (pa : Int32) (pb : Int32) (zk : 0 ≤ pa.toInt ∧ pa.toInt < 4002) (zm : 0 ≤ pb.toInt ∧ pb.toInt < 4002) (hT : TI v) : Met l yX13_isSame (Cond.code yX13_isSame cX13_isSame 6 (some .boolean) :: tw_W) ({ frames := 0, cells := 0, slots := 0, locals := 0 }) (pc_ (dC, dI) (tyS cI cB cZ cJ cR) tb (mW ad N cI cZ cJ v) sz [.ref (ad 0), .int pa, .int pb]) (qi_ (dC, dI) (mW ad N cI cZ cJ v) sz (fun (r : Int32) (u : MS) => v = u ∧ (Q_m_isSame2 v pa pb r) ∧ (r = 0 ∨ r = 1) ∧ (0 ≤ r.toInt ∧ r.toInt ≤ 1) ∧ r.toInt = (smF (v.1 3) (v.1 7) (v.1 8) pa.toNatClampNeg pb.toNatClampNeg).toInt) (fun (u : MS) => (mW ad N cI cZ cJ u))) 0 0 (va_A (mW ad N cI cZ cJ v) sz) := by
  refine Met.ofW (cc := cX13_isSame) (maxL := 6) (ret := (some .boolean)) (by decide) rfl ?_
  intro p e s m args below meth c s₁ B hml hv
  obtain ⟨rfl, hsz, hP, hKK, hD0, hFx⟩ := hv
  have hK := hKK.1
  have hx := B.exec
  have hb := B.bytes
  have hr := B.returns
  have ht : ∀ w ∈ tw_W, w.before _ s = true := fun w h => atoms_spec (ws := Cond.code yX13_isSame cX13_isSame 6 (some .boolean) :: tw_W) B.pre w (List.mem_cons_of_mem _ h)
  have hown : s.vm.findClass RX13 = some m.cls := findClass_of_methodNamed B.named
  have hlocks := B.notSynchronized
  subst hsz
  unfold qi_
  have hD := hD0.self (sz := s.heap.size)
  generalize hAe : va_A (mW ad N cI cZ cJ v) s.heap.size = A at hD hFx ⊢
  have hA : ∀ q : Nat, s.heap.size ≤ q → A q := fun q h => by rw [← hAe]; exact Or.inr h
  have hS : va_S A s.heap s.heap [] := va_S.rf
  have hl := lv_entry ([.ref (ad 0), .int pa, .int pb]) (n := 6) (Nat.le_of_ble_eq_true rfl)
  rw [lg_entry_eq]
  generalize (lg_sl ([.ref (ad 0), .int pa, .int pb]) ++ List.replicate (6 - (lg_sl ([.ref (ad 0), .int pa, .int pb])).length) Slot.unset).toArray = ls at hl ⊢
  have hl : lv_has ls 6 [(0, .ref (ad 0)), (1, .int pa), (2, .int pb)] := hl
  have ta9 : 0 ≤ ((v.1 7) pa.toNatClampNeg).toInt ∧ ((v.1 7) pa.toNatClampNeg).toInt ≤ 4000 ∧ 0 ≤ ((v.1 8) pa.toNatClampNeg).toInt ∧ ((v.1 8) pa.toNatClampNeg).toInt ≤ 4000 := hT pa.toNatClampNeg
  have tb9 : 0 ≤ ((v.1 7) pb.toNatClampNeg).toInt ∧ ((v.1 7) pb.toNatClampNeg).toInt ≤ 4000 ∧ 0 ≤ ((v.1 8) pb.toNatClampNeg).toInt ∧ ((v.1 8) pb.toNatClampNeg).toInt ≤ 4000 := hT pb.toNatClampNeg
  refine lv_aload_n hx hb dX13_isSame_0 rfl (lv_at hl 0 rfl) ?_
  refine va_get (D := (dC, dI)) (ci := 16) (fs := mF ad v) (v := .ref (ad 8)) (C := RX13) (T := TX13) (N := 124) hx hb ht itX13 hown hK hP 0 rfl rfl 8 (by decide) (ht _ tw_42) (fun _ h9 => h9) rfl dX13_isSame_1 ?_
  refine lv_iload_n hx hb dX13_isSame_4 rfl (lv_at hl 1 rfl) ?_
  refine va_iald (D := (dC, dI)) (f := (v.1 8)) hx hb hK hP 5 0 rfl rfl (in_y (a := pa.toInt) (b := 4002) rfl (om_bf055a4924 zk) (om_8b13c17066 zk) rfl) dX13_isSame_5 ?_
  refine lv_aload_n hx hb dX13_isSame_6 rfl (lv_at hl 0 rfl) ?_
  refine va_get (D := (dC, dI)) (ci := 16) (fs := mF ad v) (v := .ref (ad 7)) (C := RX13) (T := TX13) (N := 124) hx hb ht itX13 hown hK hP 0 rfl rfl 7 (by decide) (ht _ tw_20) (fun _ h9 => h9) rfl dX13_isSame_7 ?_
  refine lv_iload_n hx hb dX13_isSame_10 rfl (lv_at hl 1 rfl) ?_
  refine va_iald (D := (dC, dI)) (f := (v.1 7)) hx hb hK hP 4 0 rfl rfl (in_y (a := pa.toInt) (b := 4002) rfl (om_bf055a4924 zk) (om_8b13c17066 zk) rfl) dX13_isSame_11 ?_
  refine lv_isub hx hb dX13_isSame_12 ?_
  have z1 : (((v.1 8) pa.toNatClampNeg) - ((v.1 7) pa.toNatClampNeg)).toInt = (((v.1 8) pa.toNatClampNeg).toInt) - (((v.1 7) pa.toNatClampNeg).toInt) := sub_z rfl rfl (om_6262a8b9a5 ta9) (om_8c0d90fc60 ta9)
  refine lv_istore_n (lv' := [(3, .int (((v.1 8) pa.toNatClampNeg) - ((v.1 7) pa.toNatClampNeg))), (0, .ref (ad 0)), (1, .int pa), (2, .int pb)]) hx hb dX13_isSame_13 rfl hl (by decide) rfl (fun ls hl => ?_)
  refine lv_iload_n hx hb dX13_isSame_14 rfl (lv_at hl 0 rfl) ?_
  refine lv_aload_n hx hb dX13_isSame_15 rfl (lv_at hl 1 rfl) ?_
  refine va_get (D := (dC, dI)) (ci := 16) (fs := mF ad v) (v := .ref (ad 8)) (C := RX13) (T := TX13) (N := 124) hx hb ht itX13 hown hK hP 0 rfl rfl 8 (by decide) (ht _ tw_42) (fun _ h9 => h9) rfl dX13_isSame_16 ?_
  refine lv_iload_n hx hb dX13_isSame_19 rfl (lv_at hl 3 rfl) ?_
  refine va_iald (D := (dC, dI)) (f := (v.1 8)) hx hb hK hP 5 0 rfl rfl (in_y (a := pb.toInt) (b := 4002) rfl (om_bf055a4924 zm) (om_8b13c17066 zm) rfl) dX13_isSame_20 ?_
  refine lv_aload_n hx hb dX13_isSame_21 rfl (lv_at hl 1 rfl) ?_
  refine va_get (D := (dC, dI)) (ci := 16) (fs := mF ad v) (v := .ref (ad 7)) (C := RX13) (T := TX13) (N := 124) hx hb ht itX13 hown hK hP 0 rfl rfl 7 (by decide) (ht _ tw_20) (fun _ h9 => h9) rfl dX13_isSame_22 ?_
  refine lv_iload_n hx hb dX13_isSame_25 rfl (lv_at hl 3 rfl) ?_
  refine va_iald (D := (dC, dI)) (f := (v.1 7)) hx hb hK hP 4 0 rfl rfl (in_y (a := pb.toInt) (b := 4002) rfl (om_bf055a4924 zm) (om_8b13c17066 zm) rfl) dX13_isSame_26 ?_
  refine lv_isub hx hb dX13_isSame_27 ?_
  have z2 : (((v.1 8) pb.toNatClampNeg) - ((v.1 7) pb.toNatClampNeg)).toInt = (((v.1 8) pb.toNatClampNeg).toInt) - (((v.1 7) pb.toNatClampNeg).toInt) := sub_z rfl rfl (om_6262a8b9a5 tb9) (om_8c0d90fc60 tb9)
  refine lv_icmp_ne (tgt := 35) hx hb dX13_isSame_28 (by decide) (fun h3 => ?_) (fun h3 => ?_)
  · have z4 : ((((v.1 8) pa.toNatClampNeg).toInt) - (((v.1 7) pa.toNatClampNeg).toInt)) ≠ ((((v.1 8) pb.toNatClampNeg).toInt) - (((v.1 7) pb.toNatClampNeg).toInt)) := ne_z z1 z2 h3
    refine lv_iconst (v := 0) hx hb dX13_isSame_35 (by decide) ?_
    refine lv_istore (lv' := [(4, .int 0), (3, .int (((v.1 8) pa.toNatClampNeg) - ((v.1 7) pa.toNatClampNeg))), (0, .ref (ad 0)), (1, .int pa), (2, .int pb)]) hx hb dX13_isSame_36 hl (by decide) rfl (fun ls hl => ?_)
    refine lv_iconst (v := 0) hx hb dX13_isSame_38 (by decide) ?_
    refine lv_istore (lv' := [(5, .int 0), (4, .int 0), (3, .int (((v.1 8) pa.toNatClampNeg) - ((v.1 7) pa.toNatClampNeg))), (0, .ref (ad 0)), (1, .int pa), (2, .int pb)]) hx hb dX13_isSame_39 hl (by decide) rfl (fun ls hl => ?_)
    refine lpm_ (X := Int32 × Int32) (P := (fun (x9 : Int32 × Int32) (H : Heap) (locs : List Loc) (ls : Array Slot) => (0 ≤ x9.1.toInt ∧ x9.1.toInt ≤ 4000) ∧ (x9.2 = 0 ∨ x9.2 = 1) ∧ (x9.2.toInt = 0 ∨ (((v.1 8) pa.toNatClampNeg).toInt - ((v.1 7) pa.toNatClampNeg).toInt) = (((v.1 8) pb.toNatClampNeg).toInt - ((v.1 7) pb.toNatClampNeg).toInt)) ∧ (x9.2.toInt = 0 ∨ smK (v.1 3) (v.1 7) (v.1 8) pa.toNatClampNeg pb.toNatClampNeg x9.1.toNatClampNeg) ∧ (x9.2.toInt ≠ 0 ∨ ¬ smP (v.1 3) (v.1 7) (v.1 8) pa.toNatClampNeg pb.toNatClampNeg) ∧ (RT (Q_m_isSame2_L0 v pa pb) (0, 0) (x9.1, x9.2)) ∧ va_P (dC, dI) vwCl (mW ad N cI cZ cJ v) H ∧ va_D A (mW ad N cI cZ cJ v) ∧ va_S A s.heap H locs ∧ lv_has ls 6 [(5, .int x9.1), (4, .int x9.2), (3, .int (((v.1 8) pa.toNatClampNeg) - ((v.1 7) pa.toNatClampNeg))), (0, .ref (ad 0)), (1, .int pa), (2, .int pb)])) (fun x9 => (4001 - x9.1.toInt).toNat) 41 (fun x9 H locs ls hh ih41 => ?_) (0, 0) _ _ _ ⟨(show 0 ≤ (0 : Int) ∧ (0 : Int) ≤ 4000 from om_844dfe8a9d), (show (0 : Int32) = 0 ∨ (0 : Int32) = 1 from (Or.inl rfl)), (show (0 : Int) = 0 ∨ (((v.1 8) pa.toNatClampNeg).toInt - ((v.1 7) pa.toNatClampNeg).toInt) = (((v.1 8) pb.toNatClampNeg).toInt - ((v.1 7) pb.toNatClampNeg).toInt) from om_d53726916a), (show (0 : Int) = 0 ∨ smK (v.1 3) (v.1 7) (v.1 8) pa.toNatClampNeg pb.toNatClampNeg (0 : Int32).toNatClampNeg from (Or.inl (by decide))), (show (0 : Int) ≠ 0 ∨ ¬ smP (v.1 3) (v.1 7) (v.1 8) pa.toNatClampNeg pb.toNatClampNeg from (Or.inr (smP_len z4))), RT.rf, hP, hD, hS, lv_sub hl [0, 1, 2, 3, 4, 5] rfl⟩
    obtain ⟨ia, ba⟩ := x9
    obtain ⟨f1L41, f2L41, f3L41, r5L41, r6L41, exL41, hP, hD, hS, hl⟩ := hh
    have f1L41 : 0 ≤ ia.toInt ∧ ia.toInt ≤ 4000 := f1L41
    have f2L41 : ba = 0 ∨ ba = 1 := f2L41
    have f3L41 : ba.toInt = 0 ∨ (((v.1 8) pa.toNatClampNeg).toInt - ((v.1 7) pa.toNatClampNeg).toInt) = (((v.1 8) pb.toNatClampNeg).toInt - ((v.1 7) pb.toNatClampNeg).toInt) := f3L41
    have r5L41 : ba.toInt = 0 ∨ smK (v.1 3) (v.1 7) (v.1 8) pa.toNatClampNeg pb.toNatClampNeg ia.toNatClampNeg := r5L41
    have r6L41 : ba.toInt ≠ 0 ∨ ¬ smP (v.1 3) (v.1 7) (v.1 8) pa.toNatClampNeg pb.toNatClampNeg := r6L41
    have hl : lv_has ls 6 [(5, .int ia), (4, .int ba), (3, .int (((v.1 8) pa.toNatClampNeg) - ((v.1 7) pa.toNatClampNeg))), (0, .ref (ad 0)), (1, .int pa), (2, .int pb)] := hl
    refine lv_iload hx hb dX13_isSame_41 (lv_at hl 0 rfl) ?_
    refine lv_iload_n hx hb dX13_isSame_43 rfl (lv_at hl 2 rfl) ?_
    refine lv_icmp_ge (tgt := 96) hx hb dX13_isSame_44 (by decide) (fun h5 => ?_) (fun h5 => ?_)
    · have z6 : ((((v.1 8) pa.toNatClampNeg).toInt) - (((v.1 7) pa.toNatClampNeg).toInt)) ≤ ia.toInt := le_z z1 rfl h5
      refine lv_iload hx hb dX13_isSame_96 (lv_at hl 1 rfl) ?_
      exact W.zret (v := ba) hx hb hr (bz_ f2L41) (fun t ht9 hW => ⟨⟨ba, v, rfl, ⟨rfl, ⟨zk, zm, (Or.inl ⟨z4, ia, ba, exL41, f1L41, f3L41, (Or.inl ⟨z6, rfl⟩)⟩)⟩, ⟨f2L41, b01_ f2L41, smE f2L41 r5L41 r6L41 (om_e3c27f9cb3 f1L41) z6⟩⟩, by rw [ht9]; exact hP, hD⟩, hS.F ht9⟩) hS.2.2 dX13_isSame_98
    · have z7 : ia.toInt < ((((v.1 8) pa.toNatClampNeg).toInt) - (((v.1 7) pa.toNatClampNeg).toInt)) := nle_z z1 rfl h5
      refine lv_iload hx hb dX13_isSame_47 (lv_at hl 1 rfl) ?_
      refine lv_if_eq (tgt := 96) hx hb dX13_isSame_49 (by decide) (fun h8 => ?_) (fun h8 => ?_)
      · have z9 : ba.toInt = (0 : Int) := eq_z rfl (show (0 : Int32).toInt = (0 : Int) by decide) h8
        refine lv_iload hx hb dX13_isSame_96 (lv_at hl 1 rfl) ?_
        exact W.zret (v := ba) hx hb hr (bz_ f2L41) (fun t ht9 hW => ⟨⟨ba, v, rfl, ⟨rfl, ⟨zk, zm, (Or.inl ⟨z4, ia, ba, exL41, f1L41, f3L41, (Or.inr (⟨z7, z9, rfl⟩))⟩)⟩, ⟨f2L41, b01_ f2L41, smE0 r6L41 z9⟩⟩, by rw [ht9]; exact hP, hD⟩, hS.F ht9⟩) hS.2.2 dX13_isSame_98
      · have z10 : ba.toInt ≠ (0 : Int) := ne_z rfl (show (0 : Int32).toInt = (0 : Int) by decide) h8
        refine lv_aload_n hx hb dX13_isSame_52 rfl (lv_at hl 3 rfl) ?_
        refine va_get (D := (dC, dI)) (ci := 16) (fs := mF ad v) (v := .ref (ad 3)) (C := RX13) (T := TX13) (N := 124) hx hb ht itX13 hown hK hP 0 rfl rfl 3 (by decide) (ht _ tw_43) (fun _ h9 => h9) rfl dX13_isSame_53 ?_
        refine lv_aload_n hx hb dX13_isSame_56 rfl (lv_at hl 3 rfl) ?_
        refine va_get (D := (dC, dI)) (ci := 16) (fs := mF ad v) (v := .ref (ad 7)) (C := RX13) (T := TX13) (N := 124) hx hb ht itX13 hown hK hP 0 rfl rfl 7 (by decide) (ht _ tw_20) (fun _ h9 => h9) rfl dX13_isSame_57 ?_
        refine lv_iload_n hx hb dX13_isSame_60 rfl (lv_at hl 4 rfl) ?_
        refine va_iald (D := (dC, dI)) (f := (v.1 7)) hx hb hK hP 4 0 rfl rfl (in_y (a := pa.toInt) (b := 4002) rfl (om_bf055a4924 zk) (om_8b13c17066 zk) rfl) dX13_isSame_61 ?_
        refine lv_iload hx hb dX13_isSame_62 (lv_at hl 0 rfl) ?_
        refine lv_iadd hx hb dX13_isSame_64 ?_
        have z11 : (((v.1 7) pa.toNatClampNeg) + ia).toInt = (((v.1 7) pa.toNatClampNeg).toInt) + ia.toInt := add_z rfl rfl (om_0b0cfafd54 ta9 f1L41) (om_b9bfa0e77d ta9 z7)
        refine va_iald (D := (dC, dI)) (f := (v.1 3)) hx hb hK hP 2 0 rfl rfl (in_y (a := ((((v.1 7) pa.toNatClampNeg).toInt) + ia.toInt)) (b := 4000) z11 (om_0d1475f221 ta9 f1L41) (om_a31ac36830 ta9 z7) rfl) dX13_isSame_65 ?_
        refine lv_aload_n hx hb dX13_isSame_66 rfl (lv_at hl 3 rfl) ?_
        refine va_get (D := (dC, dI)) (ci := 16) (fs := mF ad v) (v := .ref (ad 3)) (C := RX13) (T := TX13) (N := 124) hx hb ht itX13 hown hK hP 0 rfl rfl 3 (by decide) (ht _ tw_43) (fun _ h9 => h9) rfl dX13_isSame_67 ?_
        refine lv_aload_n hx hb dX13_isSame_70 rfl (lv_at hl 3 rfl) ?_
        refine va_get (D := (dC, dI)) (ci := 16) (fs := mF ad v) (v := .ref (ad 7)) (C := RX13) (T := TX13) (N := 124) hx hb ht itX13 hown hK hP 0 rfl rfl 7 (by decide) (ht _ tw_20) (fun _ h9 => h9) rfl dX13_isSame_71 ?_
        refine lv_iload_n hx hb dX13_isSame_74 rfl (lv_at hl 5 rfl) ?_
        refine va_iald (D := (dC, dI)) (f := (v.1 7)) hx hb hK hP 4 0 rfl rfl (in_y (a := pb.toInt) (b := 4002) rfl (om_bf055a4924 zm) (om_8b13c17066 zm) rfl) dX13_isSame_75 ?_
        refine lv_iload hx hb dX13_isSame_76 (lv_at hl 0 rfl) ?_
        refine lv_iadd hx hb dX13_isSame_78 ?_
        have z12 : (((v.1 7) pb.toNatClampNeg) + ia).toInt = (((v.1 7) pb.toNatClampNeg).toInt) + ia.toInt := add_z rfl rfl (om_0b0cfafd54 tb9 f1L41) (om_c900ba7cc5 tb9 f1L41)
        refine va_iald (D := (dC, dI)) (f := (v.1 3)) hx hb hK hP 2 0 rfl rfl (in_y (a := ((((v.1 7) pb.toNatClampNeg).toInt) + ia.toInt)) (b := 4000) z12 (om_0d1475f221 tb9 f1L41) (om_44c253685d tb9 z4 f3L41 z7 z10) rfl) dX13_isSame_79 ?_
        refine lv_icmp_ne (tgt := 87) hx hb dX13_isSame_80 (by decide) (fun h13 => ?_) (fun h13 => ?_)
        · have z14 : ((v.1 3) (((v.1 7) pa.toNatClampNeg) + ia).toNatClampNeg).toInt ≠ ((v.1 3) (((v.1 7) pb.toNatClampNeg) + ia).toNatClampNeg).toInt := ne_z rfl rfl h13
          refine lv_iconst (v := 0) hx hb dX13_isSame_87 (by decide) ?_
          refine lv_istore (lv' := [(4, .int 0), (5, .int ia), (3, .int (((v.1 8) pa.toNatClampNeg) - ((v.1 7) pa.toNatClampNeg))), (0, .ref (ad 0)), (1, .int pa), (2, .int pb)]) hx hb dX13_isSame_88 hl (by decide) rfl (fun ls hl => ?_)
          refine lv_iinc (v := (ia + (1 : Int32))) (lv' := [(5, .int (ia + (1 : Int32))), (4, .int 0), (3, .int (((v.1 8) pa.toNatClampNeg) - ((v.1 7) pa.toNatClampNeg))), (0, .ref (ad 0)), (1, .int pa), (2, .int pb)]) hx hb dX13_isSame_90 hl (k := 1) rfl (rfl) (by decide) rfl (fun ls hl => ?_)
          have z15 : (ia + (1 : Int32)).toInt = ia.toInt + (1 : Int) := add_z rfl (show (1 : Int32).toInt = (1 : Int) by decide) (om_18cf2a6306 f1L41) (om_939052dbc0 f1L41)
          refine lv_goto (tgt := 41) hx hb dX13_isSame_93 (by decide) ?_
          exact ih41 ((ia + (1 : Int32)), 0) _ _ _ (show (4001 - (ia + (1 : Int32)).toInt).toNat < (4001 - ia.toInt).toNat from tn_z (om_c23c20aae5 z15) (om_cf458746e5 f1L41)) ⟨(show 0 ≤ (ia + (1 : Int32)).toInt ∧ (ia + (1 : Int32)).toInt ≤ 4000 from (om_30ede4a189 ta9 f1L41 z7 z15)), (show (0 : Int32) = 0 ∨ (0 : Int32) = 1 from (Or.inl rfl)), (show (0 : Int) = 0 ∨ (((v.1 8) pa.toNatClampNeg).toInt - ((v.1 7) pa.toNatClampNeg).toInt) = (((v.1 8) pb.toNatClampNeg).toInt - ((v.1 7) pb.toNatClampNeg).toInt) from om_d53726916a), (show (0 : Int) = 0 ∨ smK (v.1 3) (v.1 7) (v.1 8) pa.toNatClampNeg pb.toNatClampNeg (ia + (1 : Int32)).toNatClampNeg from (Or.inl (by decide))), (show (0 : Int) ≠ 0 ∨ ¬ smP (v.1 3) (v.1 7) (v.1 8) pa.toNatClampNeg pb.toNatClampNeg from (Or.inr (smP_ne f1L41 (om_06a90a4625 z7) ta9 tb9 z14))), (RT.st exL41 ⟨f1L41, f3L41, z7, z10, (Or.inl ⟨z14, rfl⟩)⟩), hP, hD, hS, lv_sub hl [0, 1, 2, 3, 4, 5] rfl⟩
        · have z16 : ((v.1 3) (((v.1 7) pa.toNatClampNeg) + ia).toNatClampNeg).toInt = ((v.1 3) (((v.1 7) pb.toNatClampNeg) + ia).toNatClampNeg).toInt := eq_z rfl rfl h13
          refine lv_iconst (v := 1) hx hb dX13_isSame_83 (by decide) ?_
          refine lv_goto (tgt := 88) hx hb dX13_isSame_84 (by decide) ?_
          refine lv_istore (lv' := [(4, .int 1), (5, .int ia), (3, .int (((v.1 8) pa.toNatClampNeg) - ((v.1 7) pa.toNatClampNeg))), (0, .ref (ad 0)), (1, .int pa), (2, .int pb)]) hx hb dX13_isSame_88 hl (by decide) rfl (fun ls hl => ?_)
          refine lv_iinc (v := (ia + (1 : Int32))) (lv' := [(5, .int (ia + (1 : Int32))), (4, .int 1), (3, .int (((v.1 8) pa.toNatClampNeg) - ((v.1 7) pa.toNatClampNeg))), (0, .ref (ad 0)), (1, .int pa), (2, .int pb)]) hx hb dX13_isSame_90 hl (k := 1) rfl (rfl) (by decide) rfl (fun ls hl => ?_)
          have z17 : (ia + (1 : Int32)).toInt = ia.toInt + (1 : Int) := add_z rfl (show (1 : Int32).toInt = (1 : Int) by decide) (om_18cf2a6306 f1L41) (om_939052dbc0 f1L41)
          refine lv_goto (tgt := 41) hx hb dX13_isSame_93 (by decide) ?_
          exact ih41 ((ia + (1 : Int32)), 1) _ _ _ (show (4001 - (ia + (1 : Int32)).toInt).toNat < (4001 - ia.toInt).toNat from tn_z (om_c23c20aae5 z17) (om_cf458746e5 f1L41)) ⟨(show 0 ≤ (ia + (1 : Int32)).toInt ∧ (ia + (1 : Int32)).toInt ≤ 4000 from (om_30ede4a189 ta9 f1L41 z7 z17)), (show (1 : Int32) = 0 ∨ (1 : Int32) = 1 from (Or.inr rfl)), (show (1 : Int) = 0 ∨ (((v.1 8) pa.toNatClampNeg).toInt - ((v.1 7) pa.toNatClampNeg).toInt) = (((v.1 8) pb.toNatClampNeg).toInt - ((v.1 7) pb.toNatClampNeg).toInt) from (om_ed42dfe449 f3L41 z10)), (show (1 : Int) = 0 ∨ smK (v.1 3) (v.1 7) (v.1 8) pa.toNatClampNeg pb.toNatClampNeg (ia + (1 : Int32)).toNatClampNeg from (Or.inr (smK_s (r5L41.resolve_left z10) f1L41 (om_b19948bd4f z17) ta9 tb9 z16))), (show (1 : Int) ≠ 0 ∨ ¬ smP (v.1 3) (v.1 7) (v.1 8) pa.toNatClampNeg pb.toNatClampNeg from (Or.inl (by decide))), (RT.st exL41 ⟨f1L41, f3L41, z7, z10, (Or.inr (⟨z16, rfl⟩))⟩), hP, hD, hS, lv_sub hl [0, 1, 2, 3, 4, 5] rfl⟩
  · have z18 : ((((v.1 8) pa.toNatClampNeg).toInt) - (((v.1 7) pa.toNatClampNeg).toInt)) = ((((v.1 8) pb.toNatClampNeg).toInt) - (((v.1 7) pb.toNatClampNeg).toInt)) := eq_z z1 z2 h3
    refine lv_iconst (v := 1) hx hb dX13_isSame_31 (by decide) ?_
    refine lv_goto (tgt := 36) hx hb dX13_isSame_32 (by decide) ?_
    refine lv_istore (lv' := [(4, .int 1), (3, .int (((v.1 8) pa.toNatClampNeg) - ((v.1 7) pa.toNatClampNeg))), (0, .ref (ad 0)), (1, .int pa), (2, .int pb)]) hx hb dX13_isSame_36 hl (by decide) rfl (fun ls hl => ?_)
    refine lv_iconst (v := 0) hx hb dX13_isSame_38 (by decide) ?_
    refine lv_istore (lv' := [(5, .int 0), (4, .int 1), (3, .int (((v.1 8) pa.toNatClampNeg) - ((v.1 7) pa.toNatClampNeg))), (0, .ref (ad 0)), (1, .int pa), (2, .int pb)]) hx hb dX13_isSame_39 hl (by decide) rfl (fun ls hl => ?_)
    refine lpm_ (X := Int32 × Int32) (P := (fun (x9 : Int32 × Int32) (H : Heap) (locs : List Loc) (ls : Array Slot) => (0 ≤ x9.1.toInt ∧ x9.1.toInt ≤ 4000) ∧ (x9.2 = 0 ∨ x9.2 = 1) ∧ (x9.2.toInt = 0 ∨ (((v.1 8) pa.toNatClampNeg).toInt - ((v.1 7) pa.toNatClampNeg).toInt) = (((v.1 8) pb.toNatClampNeg).toInt - ((v.1 7) pb.toNatClampNeg).toInt)) ∧ (x9.2.toInt = 0 ∨ smK (v.1 3) (v.1 7) (v.1 8) pa.toNatClampNeg pb.toNatClampNeg x9.1.toNatClampNeg) ∧ (x9.2.toInt ≠ 0 ∨ ¬ smP (v.1 3) (v.1 7) (v.1 8) pa.toNatClampNeg pb.toNatClampNeg) ∧ (RT (Q_m_isSame2_L1 v pa pb) (0, 1) (x9.1, x9.2)) ∧ va_P (dC, dI) vwCl (mW ad N cI cZ cJ v) H ∧ va_D A (mW ad N cI cZ cJ v) ∧ va_S A s.heap H locs ∧ lv_has ls 6 [(5, .int x9.1), (4, .int x9.2), (3, .int (((v.1 8) pa.toNatClampNeg) - ((v.1 7) pa.toNatClampNeg))), (0, .ref (ad 0)), (1, .int pa), (2, .int pb)])) (fun x9 => (4001 - x9.1.toInt).toNat) 41 (fun x9 H locs ls hh ih41 => ?_) (0, 1) _ _ _ ⟨(show 0 ≤ (0 : Int) ∧ (0 : Int) ≤ 4000 from om_844dfe8a9d), (show (1 : Int32) = 0 ∨ (1 : Int32) = 1 from (Or.inr rfl)), (show (1 : Int) = 0 ∨ (((v.1 8) pa.toNatClampNeg).toInt - ((v.1 7) pa.toNatClampNeg).toInt) = (((v.1 8) pb.toNatClampNeg).toInt - ((v.1 7) pb.toNatClampNeg).toInt) from (om_82b8d4e989 z18)), (show (1 : Int) = 0 ∨ smK (v.1 3) (v.1 7) (v.1 8) pa.toNatClampNeg pb.toNatClampNeg (0 : Int32).toNatClampNeg from (Or.inr (smK_0 z18))), (show (1 : Int) ≠ 0 ∨ ¬ smP (v.1 3) (v.1 7) (v.1 8) pa.toNatClampNeg pb.toNatClampNeg from (Or.inl (by decide))), RT.rf, hP, hD, hS, lv_sub hl [0, 1, 2, 3, 4, 5] rfl⟩
    obtain ⟨ia, ba⟩ := x9
    obtain ⟨f1L41, f2L41, f3L41, r5L41, r6L41, exL41, hP, hD, hS, hl⟩ := hh
    have f1L41 : 0 ≤ ia.toInt ∧ ia.toInt ≤ 4000 := f1L41
    have f2L41 : ba = 0 ∨ ba = 1 := f2L41
    have f3L41 : ba.toInt = 0 ∨ (((v.1 8) pa.toNatClampNeg).toInt - ((v.1 7) pa.toNatClampNeg).toInt) = (((v.1 8) pb.toNatClampNeg).toInt - ((v.1 7) pb.toNatClampNeg).toInt) := f3L41
    have r5L41 : ba.toInt = 0 ∨ smK (v.1 3) (v.1 7) (v.1 8) pa.toNatClampNeg pb.toNatClampNeg ia.toNatClampNeg := r5L41
    have r6L41 : ba.toInt ≠ 0 ∨ ¬ smP (v.1 3) (v.1 7) (v.1 8) pa.toNatClampNeg pb.toNatClampNeg := r6L41
    have hl : lv_has ls 6 [(5, .int ia), (4, .int ba), (3, .int (((v.1 8) pa.toNatClampNeg) - ((v.1 7) pa.toNatClampNeg))), (0, .ref (ad 0)), (1, .int pa), (2, .int pb)] := hl
    refine lv_iload hx hb dX13_isSame_41 (lv_at hl 0 rfl) ?_
    refine lv_iload_n hx hb dX13_isSame_43 rfl (lv_at hl 2 rfl) ?_
    refine lv_icmp_ge (tgt := 96) hx hb dX13_isSame_44 (by decide) (fun h19 => ?_) (fun h19 => ?_)
    · have z20 : ((((v.1 8) pa.toNatClampNeg).toInt) - (((v.1 7) pa.toNatClampNeg).toInt)) ≤ ia.toInt := le_z z1 rfl h19
      refine lv_iload hx hb dX13_isSame_96 (lv_at hl 1 rfl) ?_
      exact W.zret (v := ba) hx hb hr (bz_ f2L41) (fun t ht9 hW => ⟨⟨ba, v, rfl, ⟨rfl, ⟨zk, zm, (Or.inr (⟨z18, ia, ba, exL41, f1L41, f3L41, (Or.inl ⟨z20, rfl⟩)⟩))⟩, ⟨f2L41, b01_ f2L41, smE f2L41 r5L41 r6L41 (om_e3c27f9cb3 f1L41) z20⟩⟩, by rw [ht9]; exact hP, hD⟩, hS.F ht9⟩) hS.2.2 dX13_isSame_98
    · have z21 : ia.toInt < ((((v.1 8) pa.toNatClampNeg).toInt) - (((v.1 7) pa.toNatClampNeg).toInt)) := nle_z z1 rfl h19
      refine lv_iload hx hb dX13_isSame_47 (lv_at hl 1 rfl) ?_
      refine lv_if_eq (tgt := 96) hx hb dX13_isSame_49 (by decide) (fun h22 => ?_) (fun h22 => ?_)
      · have z23 : ba.toInt = (0 : Int) := eq_z rfl (show (0 : Int32).toInt = (0 : Int) by decide) h22
        refine lv_iload hx hb dX13_isSame_96 (lv_at hl 1 rfl) ?_
        exact W.zret (v := ba) hx hb hr (bz_ f2L41) (fun t ht9 hW => ⟨⟨ba, v, rfl, ⟨rfl, ⟨zk, zm, (Or.inr (⟨z18, ia, ba, exL41, f1L41, f3L41, (Or.inr (⟨z21, z23, rfl⟩))⟩))⟩, ⟨f2L41, b01_ f2L41, smE0 r6L41 z23⟩⟩, by rw [ht9]; exact hP, hD⟩, hS.F ht9⟩) hS.2.2 dX13_isSame_98
      · have z24 : ba.toInt ≠ (0 : Int) := ne_z rfl (show (0 : Int32).toInt = (0 : Int) by decide) h22
        refine lv_aload_n hx hb dX13_isSame_52 rfl (lv_at hl 3 rfl) ?_
        refine va_get (D := (dC, dI)) (ci := 16) (fs := mF ad v) (v := .ref (ad 3)) (C := RX13) (T := TX13) (N := 124) hx hb ht itX13 hown hK hP 0 rfl rfl 3 (by decide) (ht _ tw_43) (fun _ h9 => h9) rfl dX13_isSame_53 ?_
        refine lv_aload_n hx hb dX13_isSame_56 rfl (lv_at hl 3 rfl) ?_
        refine va_get (D := (dC, dI)) (ci := 16) (fs := mF ad v) (v := .ref (ad 7)) (C := RX13) (T := TX13) (N := 124) hx hb ht itX13 hown hK hP 0 rfl rfl 7 (by decide) (ht _ tw_20) (fun _ h9 => h9) rfl dX13_isSame_57 ?_
        refine lv_iload_n hx hb dX13_isSame_60 rfl (lv_at hl 4 rfl) ?_
        refine va_iald (D := (dC, dI)) (f := (v.1 7)) hx hb hK hP 4 0 rfl rfl (in_y (a := pa.toInt) (b := 4002) rfl (om_bf055a4924 zk) (om_8b13c17066 zk) rfl) dX13_isSame_61 ?_
        refine lv_iload hx hb dX13_isSame_62 (lv_at hl 0 rfl) ?_
        refine lv_iadd hx hb dX13_isSame_64 ?_
        have z25 : (((v.1 7) pa.toNatClampNeg) + ia).toInt = (((v.1 7) pa.toNatClampNeg).toInt) + ia.toInt := add_z rfl rfl (om_0b0cfafd54 ta9 f1L41) (om_b9bfa0e77d ta9 z21)
        refine va_iald (D := (dC, dI)) (f := (v.1 3)) hx hb hK hP 2 0 rfl rfl (in_y (a := ((((v.1 7) pa.toNatClampNeg).toInt) + ia.toInt)) (b := 4000) z25 (om_0d1475f221 ta9 f1L41) (om_a31ac36830 ta9 z21) rfl) dX13_isSame_65 ?_
        refine lv_aload_n hx hb dX13_isSame_66 rfl (lv_at hl 3 rfl) ?_
        refine va_get (D := (dC, dI)) (ci := 16) (fs := mF ad v) (v := .ref (ad 3)) (C := RX13) (T := TX13) (N := 124) hx hb ht itX13 hown hK hP 0 rfl rfl 3 (by decide) (ht _ tw_43) (fun _ h9 => h9) rfl dX13_isSame_67 ?_
        refine lv_aload_n hx hb dX13_isSame_70 rfl (lv_at hl 3 rfl) ?_
        refine va_get (D := (dC, dI)) (ci := 16) (fs := mF ad v) (v := .ref (ad 7)) (C := RX13) (T := TX13) (N := 124) hx hb ht itX13 hown hK hP 0 rfl rfl 7 (by decide) (ht _ tw_20) (fun _ h9 => h9) rfl dX13_isSame_71 ?_
        refine lv_iload_n hx hb dX13_isSame_74 rfl (lv_at hl 5 rfl) ?_
        refine va_iald (D := (dC, dI)) (f := (v.1 7)) hx hb hK hP 4 0 rfl rfl (in_y (a := pb.toInt) (b := 4002) rfl (om_bf055a4924 zm) (om_8b13c17066 zm) rfl) dX13_isSame_75 ?_
        refine lv_iload hx hb dX13_isSame_76 (lv_at hl 0 rfl) ?_
        refine lv_iadd hx hb dX13_isSame_78 ?_
        have z26 : (((v.1 7) pb.toNatClampNeg) + ia).toInt = (((v.1 7) pb.toNatClampNeg).toInt) + ia.toInt := add_z rfl rfl (om_0b0cfafd54 tb9 f1L41) (om_c900ba7cc5 tb9 f1L41)
        refine va_iald (D := (dC, dI)) (f := (v.1 3)) hx hb hK hP 2 0 rfl rfl (in_y (a := ((((v.1 7) pb.toNatClampNeg).toInt) + ia.toInt)) (b := 4000) z26 (om_0d1475f221 tb9 f1L41) (om_47952f042f tb9 z18 z21) rfl) dX13_isSame_79 ?_
        refine lv_icmp_ne (tgt := 87) hx hb dX13_isSame_80 (by decide) (fun h27 => ?_) (fun h27 => ?_)
        · have z28 : ((v.1 3) (((v.1 7) pa.toNatClampNeg) + ia).toNatClampNeg).toInt ≠ ((v.1 3) (((v.1 7) pb.toNatClampNeg) + ia).toNatClampNeg).toInt := ne_z rfl rfl h27
          refine lv_iconst (v := 0) hx hb dX13_isSame_87 (by decide) ?_
          refine lv_istore (lv' := [(4, .int 0), (5, .int ia), (3, .int (((v.1 8) pa.toNatClampNeg) - ((v.1 7) pa.toNatClampNeg))), (0, .ref (ad 0)), (1, .int pa), (2, .int pb)]) hx hb dX13_isSame_88 hl (by decide) rfl (fun ls hl => ?_)
          refine lv_iinc (v := (ia + (1 : Int32))) (lv' := [(5, .int (ia + (1 : Int32))), (4, .int 0), (3, .int (((v.1 8) pa.toNatClampNeg) - ((v.1 7) pa.toNatClampNeg))), (0, .ref (ad 0)), (1, .int pa), (2, .int pb)]) hx hb dX13_isSame_90 hl (k := 1) rfl (rfl) (by decide) rfl (fun ls hl => ?_)
          have z29 : (ia + (1 : Int32)).toInt = ia.toInt + (1 : Int) := add_z rfl (show (1 : Int32).toInt = (1 : Int) by decide) (om_18cf2a6306 f1L41) (om_939052dbc0 f1L41)
          refine lv_goto (tgt := 41) hx hb dX13_isSame_93 (by decide) ?_
          exact ih41 ((ia + (1 : Int32)), 0) _ _ _ (show (4001 - (ia + (1 : Int32)).toInt).toNat < (4001 - ia.toInt).toNat from tn_z (om_c23c20aae5 z29) (om_cf458746e5 f1L41)) ⟨(show 0 ≤ (ia + (1 : Int32)).toInt ∧ (ia + (1 : Int32)).toInt ≤ 4000 from (om_30ede4a189 ta9 f1L41 z21 z29)), (show (0 : Int32) = 0 ∨ (0 : Int32) = 1 from (Or.inl rfl)), (show (0 : Int) = 0 ∨ (((v.1 8) pa.toNatClampNeg).toInt - ((v.1 7) pa.toNatClampNeg).toInt) = (((v.1 8) pb.toNatClampNeg).toInt - ((v.1 7) pb.toNatClampNeg).toInt) from om_d53726916a), (show (0 : Int) = 0 ∨ smK (v.1 3) (v.1 7) (v.1 8) pa.toNatClampNeg pb.toNatClampNeg (ia + (1 : Int32)).toNatClampNeg from (Or.inl (by decide))), (show (0 : Int) ≠ 0 ∨ ¬ smP (v.1 3) (v.1 7) (v.1 8) pa.toNatClampNeg pb.toNatClampNeg from (Or.inr (smP_ne f1L41 (om_06a90a4625 z21) ta9 tb9 z28))), (RT.st exL41 ⟨f1L41, f3L41, z21, z24, (Or.inl ⟨z28, rfl⟩)⟩), hP, hD, hS, lv_sub hl [0, 1, 2, 3, 4, 5] rfl⟩
        · have z30 : ((v.1 3) (((v.1 7) pa.toNatClampNeg) + ia).toNatClampNeg).toInt = ((v.1 3) (((v.1 7) pb.toNatClampNeg) + ia).toNatClampNeg).toInt := eq_z rfl rfl h27
          refine lv_iconst (v := 1) hx hb dX13_isSame_83 (by decide) ?_
          refine lv_goto (tgt := 88) hx hb dX13_isSame_84 (by decide) ?_
          refine lv_istore (lv' := [(4, .int 1), (5, .int ia), (3, .int (((v.1 8) pa.toNatClampNeg) - ((v.1 7) pa.toNatClampNeg))), (0, .ref (ad 0)), (1, .int pa), (2, .int pb)]) hx hb dX13_isSame_88 hl (by decide) rfl (fun ls hl => ?_)
          refine lv_iinc (v := (ia + (1 : Int32))) (lv' := [(5, .int (ia + (1 : Int32))), (4, .int 1), (3, .int (((v.1 8) pa.toNatClampNeg) - ((v.1 7) pa.toNatClampNeg))), (0, .ref (ad 0)), (1, .int pa), (2, .int pb)]) hx hb dX13_isSame_90 hl (k := 1) rfl (rfl) (by decide) rfl (fun ls hl => ?_)
          have z31 : (ia + (1 : Int32)).toInt = ia.toInt + (1 : Int) := add_z rfl (show (1 : Int32).toInt = (1 : Int) by decide) (om_18cf2a6306 f1L41) (om_939052dbc0 f1L41)
          refine lv_goto (tgt := 41) hx hb dX13_isSame_93 (by decide) ?_
          exact ih41 ((ia + (1 : Int32)), 1) _ _ _ (show (4001 - (ia + (1 : Int32)).toInt).toNat < (4001 - ia.toInt).toNat from tn_z (om_c23c20aae5 z31) (om_cf458746e5 f1L41)) ⟨(show 0 ≤ (ia + (1 : Int32)).toInt ∧ (ia + (1 : Int32)).toInt ≤ 4000 from (om_30ede4a189 ta9 f1L41 z21 z31)), (show (1 : Int32) = 0 ∨ (1 : Int32) = 1 from (Or.inr rfl)), (show (1 : Int) = 0 ∨ (((v.1 8) pa.toNatClampNeg).toInt - ((v.1 7) pa.toNatClampNeg).toInt) = (((v.1 8) pb.toNatClampNeg).toInt - ((v.1 7) pb.toNatClampNeg).toInt) from (om_82b8d4e989 z18)), (show (1 : Int) = 0 ∨ smK (v.1 3) (v.1 7) (v.1 8) pa.toNatClampNeg pb.toNatClampNeg (ia + (1 : Int32)).toNatClampNeg from (Or.inr (smK_s (r5L41.resolve_left z24) f1L41 (om_b19948bd4f z31) ta9 tb9 z30))), (show (1 : Int) ≠ 0 ∨ ¬ smP (v.1 3) (v.1 7) (v.1 8) pa.toNatClampNeg pb.toNatClampNeg from (Or.inl (by decide))), (RT.st exL41 ⟨f1L41, f3L41, z21, z24, (Or.inr (⟨z30, rfl⟩))⟩), hP, hD, hS, lv_sub hl [0, 1, 2, 3, 4, 5] rfl⟩
theorem om_4b62747e8a {x0 x1 : Int} (h0 : x0 = (x1) - (1 : Int)) : x0 = x1 - 1 := by omega
theorem om_7a262e55da {x0 x1 : Int} (h0 : -1 ≤ x0 ∧ x0 < x1) (h1 : x0 < (0 : Int)) : x0 = -1 := by omega
theorem om_b636988172 {x0 x1 : Int} (h0 : 0 ≤ x0 ∧ x0 ≤ 40) (h1 : -1 ≤ x1 ∧ x1 < x0) (h2 : (0 : Int) ≤ x1) : 0 ≤ x1 ∧ x1 ≤ 40 := by omega
theorem om_8d0be6b499 {x0 x1 : Int} (h0 : x0 = x1 + (-1 : Int)) : x0 = x1 - 1 := by omega
set_option maxHeartbeats 4000000 in
set_option maxRecDepth 100000 in
theorem c_m_functionOf2 (l : Launch) (dC : Nat → ClassId) (dI : Nat → Nat → Nat) (cI cB cZ cJ cR : ClassId) (tb : Nat → Nat) (sz : Nat) (ad : Nat → Nat) (N : Nat) (v : MS) (pa : Int32) (zk : 0 ≤ pa.toInt ∧ pa.toInt < 4002) (zn : 0 ≤ (v.1 0 22).toInt ∧ (v.1 0 22).toInt ≤ 40) (hT : TI v) (a16 : AR 16 0 1500 v) : Met l yX13_functionOf (Cond.code yX13_functionOf cX13_functionOf 3 (some .int) :: tw_W) ({ frames := 1, cells := 0, slots := 0, locals := 25 }) (pc_ (dC, dI) (tyS cI cB cZ cJ cR) tb (mW ad N cI cZ cJ v) sz [.ref (ad 0), .int pa]) (qi_ (dC, dI) (mW ad N cI cZ cJ v) sz (fun (r : Int32) (u : MS) => v = u ∧ (Q_m_functionOf2 v pa r) ∧ (-1 ≤ r.toInt ∧ r.toInt < (v.1 0 22).toInt) ∧ r = fnF (fun k9 => smF (v.1 3) (v.1 7) (v.1 8) (v.1 16 k9).toNatClampNeg pa.toNatClampNeg) (v.1 0 22).toNatClampNeg) (fun (u : MS) => (mW ad N cI cZ cJ u))) 0 0 (va_A (mW ad N cI cZ cJ v) sz) := by
  refine Met.ofW (cc := cX13_functionOf) (maxL := 3) (ret := (some .int)) (by decide) rfl ?_
  intro p e s m args below meth c s₁ B hml hv
  obtain ⟨rfl, hsz, hP, hKK, hD0, hFx⟩ := hv
  have hK := hKK.1
  have hx := B.exec
  have hb := B.bytes
  have hr := B.returns
  have ht : ∀ w ∈ tw_W, w.before _ s = true := fun w h => atoms_spec (ws := Cond.code yX13_functionOf cX13_functionOf 3 (some .int) :: tw_W) B.pre w (List.mem_cons_of_mem _ h)
  have hown : s.vm.findClass RX13 = some m.cls := findClass_of_methodNamed B.named
  have hlocks := B.notSynchronized
  subst hsz
  unfold qi_
  have hD := hD0.self (sz := s.heap.size)
  generalize hAe : va_A (mW ad N cI cZ cJ v) s.heap.size = A at hD hFx ⊢
  have hA : ∀ q : Nat, s.heap.size ≤ q → A q := fun q h => by rw [← hAe]; exact Or.inr h
  have hS : va_S A s.heap s.heap [] := va_S.rf
  have hl := lv_entry ([.ref (ad 0), .int pa]) (n := 3) (Nat.le_of_ble_eq_true rfl)
  rw [lg_entry_eq]
  generalize (lg_sl ([.ref (ad 0), .int pa]) ++ List.replicate (3 - (lg_sl ([.ref (ad 0), .int pa])).length) Slot.unset).toArray = ls at hl ⊢
  have hl : lv_has ls 3 [(0, .ref (ad 0)), (1, .int pa)] := hl
  refine lv_aload_n hx hb dX13_functionOf_0 rfl (lv_at hl 0 rfl) ?_
  refine va_get (D := (dC, dI)) (ci := 16) (fs := mF ad v) (v := .int (v.1 0 22)) (C := RX13) (T := TX13) (N := 124) hx hb ht itX13 hown hK hP 0 rfl rfl 22 (by decide) (ht _ tw_50) (fun _ h9 => h9) rfl dX13_functionOf_1 ?_
  refine lv_iconst (v := 1) hx hb dX13_functionOf_4 (by decide) ?_
  refine lv_isub hx hb dX13_functionOf_5 ?_
  have z1 : ((v.1 0 22) - (1 : Int32)).toInt = ((v.1 0 22).toInt) - (1 : Int) := sub_z rfl (show (1 : Int32).toInt = (1 : Int) by decide) (om_f2795c2b52 zn) (om_14dd996dd5 zn)
  refine lv_istore_n (lv' := [(2, .int ((v.1 0 22) - (1 : Int32))), (0, .ref (ad 0)), (1, .int pa)]) hx hb dX13_functionOf_6 rfl hl (by decide) rfl (fun ls hl => ?_)
  refine lpm_ (X := Int32) (P := (fun (x9 : Int32) (H : Heap) (locs : List Loc) (ls : Array Slot) => (-1 ≤ x9.toInt ∧ x9.toInt < (v.1 0 22).toInt) ∧ (fnF (fun k9 => smF (v.1 3) (v.1 7) (v.1 8) (v.1 16 k9).toNatClampNeg pa.toNatClampNeg) (v.1 0 22).toNatClampNeg = fnF (fun k9 => smF (v.1 3) (v.1 7) (v.1 8) (v.1 16 k9).toNatClampNeg pa.toNatClampNeg) (x9 + 1).toNatClampNeg) ∧ (RT (Q_m_functionOf2_L0 v pa) ((v.1 0 22) - (1 : Int32)) x9) ∧ va_P (dC, dI) vwCl (mW ad N cI cZ cJ v) H ∧ va_D A (mW ad N cI cZ cJ v) ∧ va_S A s.heap H locs ∧ lv_has ls 3 [(2, .int x9), (0, .ref (ad 0)), (1, .int pa)])) (fun x9 => (x9.toInt + 1).toNat) 7 (fun k H locs ls hh ih7 => ?_) ((v.1 0 22) - (1 : Int32)) _ _ _ ⟨(show -1 ≤ ((v.1 0 22) - (1 : Int32)).toInt ∧ ((v.1 0 22) - (1 : Int32)).toInt < (v.1 0 22).toInt from (om_d15c1b7192 zn z1)), (show fnF (fun k9 => smF (v.1 3) (v.1 7) (v.1 8) (v.1 16 k9).toNatClampNeg pa.toNatClampNeg) (v.1 0 22).toNatClampNeg = fnF (fun k9 => smF (v.1 3) (v.1 7) (v.1 8) (v.1 16 k9).toNatClampNeg pa.toNatClampNeg) (((v.1 0 22) - (1 : Int32)) + 1).toNatClampNeg from (fn_top (x := (v.1 0 22)) (y := ((v.1 0 22) - (1 : Int32))) zn (om_4b62747e8a z1))), RT.rf, hP, hD, hS, lv_sub hl [0, 1, 2] rfl⟩
  obtain ⟨f1L7, r7L7, exL7, hP, hD, hS, hl⟩ := hh
  have f1L7 : -1 ≤ k.toInt ∧ k.toInt < (v.1 0 22).toInt := f1L7
  have r7L7 : fnF (fun k9 => smF (v.1 3) (v.1 7) (v.1 8) (v.1 16 k9).toNatClampNeg pa.toNatClampNeg) (v.1 0 22).toNatClampNeg = fnF (fun k9 => smF (v.1 3) (v.1 7) (v.1 8) (v.1 16 k9).toNatClampNeg pa.toNatClampNeg) (k + 1).toNatClampNeg := r7L7
  have hl : lv_has ls 3 [(2, .int k), (0, .ref (ad 0)), (1, .int pa)] := hl
  refine lv_iload_n hx hb dX13_functionOf_7 rfl (lv_at hl 0 rfl) ?_
  refine lv_if_lt (tgt := 31) hx hb dX13_functionOf_8 (by decide) (fun h2 => ?_) (fun h2 => ?_)
  · have z3 : k.toInt < (0 : Int) := lt_z rfl (show (0 : Int32).toInt = (0 : Int) by decide) h2
    refine lv_iload_n hx hb dX13_functionOf_31 rfl (lv_at hl 0 rfl) ?_
    exact W.iret (v := k) hx hb hr (fun t ht9 hW => ⟨⟨k, v, rfl, ⟨rfl, ⟨zk, zn, k, exL7, f1L7, (Or.inl ⟨z3, rfl⟩)⟩, ⟨(om_32c29c5174 f1L7), (fn_no r7L7 (om_7a262e55da f1L7 z3))⟩⟩, by rw [ht9]; exact hP, hD⟩, hS.F ht9⟩) hS.2.2 dX13_functionOf_32
  · have z4 : (0 : Int) ≤ k.toInt := nlt_z rfl (show (0 : Int32).toInt = (0 : Int) by decide) h2
    refine lv_aload_n hx hb dX13_functionOf_11 rfl (lv_at hl 1 rfl) ?_
    refine lv_aload_n hx hb dX13_functionOf_12 rfl (lv_at hl 1 rfl) ?_
    refine va_get (D := (dC, dI)) (ci := 16) (fs := mF ad v) (v := .ref (ad 16)) (C := RX13) (T := TX13) (N := 124) hx hb ht itX13 hown hK hP 0 rfl rfl 16 (by decide) (ht _ tw_51) (fun _ h9 => h9) rfl dX13_functionOf_13 ?_
    refine lv_iload_n hx hb dX13_functionOf_16 rfl (lv_at hl 0 rfl) ?_
    refine va_iald (D := (dC, dI)) (f := (v.1 16)) hx hb hK hP 11 0 rfl rfl (in_y (a := k.toInt) (b := 40) rfl (om_51058f7f87 z4) (om_c66e3c679d zn f1L7) rfl) dX13_functionOf_17 ?_
    have tn9 : 0 ≤ ((v.1 16) k.toNatClampNeg).toInt ∧ ((v.1 16) k.toNatClampNeg).toInt ≤ 1500 := a16 k.toNatClampNeg
    refine lv_iload_n hx hb dX13_functionOf_18 rfl (lv_at hl 2 rfl) ?_
    refine cu_i (rn_V (n := 2) (As := [.int ((v.1 16) k.toNatClampNeg), .int pa]) (rest := []) hx hb hml hown ht hKK hFx hP hD hS hA (c_m_isSame2 l dC dI cI cB cZ cJ cR tb H.size ad N v ((v.1 16) k.toNatClampNeg) pa (show 0 ≤ ((v.1 16) k.toNatClampNeg).toInt ∧ ((v.1 16) k.toNatClampNeg).toInt < 4002 from (om_5c36fd3f9e tn9)) (show 0 ≤ pa.toInt ∧ pa.toInt < 4002 from (om_6a33293909 zk)) (show TI v from FG.ti (fl := pfl) (al := pal) (FG.rf _) (by decide) (by decide) hT)) tw_46 tw_47 (by decide +kernel) rfl rfl ⟨Nat.le_of_ble_eq_true rfl, Nat.le_of_ble_eq_true rfl⟩ (List.range (mW ad N cI cZ cJ v).length) (rg_map _) (mW_nd _ _ _ _ _ _) rfl rfl rfl rfl hl.1 rfl (Nat.le_of_ble_eq_true rfl) dX13_functionOf_19 ⟨Nat.le_of_ble_eq_true rfl, Nat.le_of_ble_eq_true rfl⟩) hP hD hS hA (fun r7 u6 H locs hw5 hP hD hS => ?_)
    obtain ⟨rfl, ex5, b5, e5, g5⟩ := hw5
    refine W.widen (k := 0) (n := 0) (Nat.le_refl _) (Nat.le_refl _) ?_
    refine lv_if_ne (tgt := 31) hx hb dX13_functionOf_22 (by decide) (fun h8 => ?_) (fun h8 => ?_)
    · have z9 : r7.toInt ≠ (0 : Int) := ne_z rfl (show (0 : Int32).toInt = (0 : Int) by decide) h8
      refine lv_iload_n hx hb dX13_functionOf_31 rfl (lv_at hl 0 rfl) ?_
      exact W.iret (v := k) hx hb hr (fun t ht9 hW => ⟨⟨k, v, rfl, ⟨rfl, ⟨zk, zn, k, exL7, f1L7, (Or.inr (⟨z4, r7, ex5, ⟨b5, e5, g5⟩, z9, rfl⟩))⟩, ⟨(om_dfac880bb8 f1L7 z4), (fn_yes r7L7 (om_b636988172 zn f1L7 z4) (fun q9 => z9 (g5.symm.symm.trans q9)))⟩⟩, by rw [ht9]; exact hP, hD⟩, hS.F ht9⟩) hS.2.2 dX13_functionOf_32
    · have z10 : r7.toInt = (0 : Int) := eq_z rfl (show (0 : Int32).toInt = (0 : Int) by decide) h8
      refine lv_iinc (v := (k + (-1 : Int32))) (lv' := [(2, .int (k + (-1 : Int32))), (0, .ref (ad 0)), (1, .int pa)]) hx hb dX13_functionOf_25 hl (k := 0) rfl (rfl) (by decide) rfl (fun ls hl => ?_)
      have z11 : (k + (-1 : Int32)).toInt = k.toInt + (-1 : Int) := add_z rfl (show ((-1) : Int32).toInt = (-1 : Int) by decide) (om_aad7ab9b89 f1L7) (om_acaa5a8a04 zn f1L7)
      refine lv_goto (tgt := 7) hx hb dX13_functionOf_28 (by decide) ?_
      exact ih7 (k + (-1 : Int32)) _ _ _ (show ((k + (-1 : Int32)).toInt + 1).toNat < (k.toInt + 1).toNat from tn_z (om_3e134d9ec9 z11) (om_ff03e7c988 z4)) ⟨(show -1 ≤ (k + (-1 : Int32)).toInt ∧ (k + (-1 : Int32)).toInt < (v.1 0 22).toInt from (om_0c05f7229d f1L7 z4 z11)), (show fnF (fun k9 => smF (v.1 3) (v.1 7) (v.1 8) (v.1 16 k9).toNatClampNeg pa.toNatClampNeg) (v.1 0 22).toNatClampNeg = fnF (fun k9 => smF (v.1 3) (v.1 7) (v.1 8) (v.1 16 k9).toNatClampNeg pa.toNatClampNeg) ((k + (-1 : Int32)) + 1).toNatClampNeg from (r7L7.trans (fn_skip (x := k) (y := (k + (-1 : Int32))) (om_b636988172 zn f1L7 z4) (om_8d0be6b499 z11) (g5.symm.trans z10)))), (RT.st exL7 ⟨f1L7, z4, r7, ex5, ⟨b5, e5, g5⟩, z10, rfl⟩), hP, hD, hS, lv_sub hl [0, 1, 2] rfl⟩
