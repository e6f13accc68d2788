theorem dX9_isDigit_0 : decode cX9_isDigit 0 = .ok (.iload_n 0, 1) := by decide +kernel
theorem dX9_isDigit_1 : decode cX9_isDigit 1 = .ok (.bipush 48, 2) := by decide +kernel
theorem dX9_isDigit_3 : decode cX9_isDigit 3 = .ok (.if_icmp .lt 13, 3) := by decide +kernel
theorem dX9_isDigit_16 : decode cX9_isDigit 16 = .ok (.iconst 0, 1) := by decide +kernel
theorem dX9_isDigit_17 : decode cX9_isDigit 17 = .ok (.ireturn, 1) := by decide +kernel
theorem dX9_isDigit_6 : decode cX9_isDigit 6 = .ok (.iload_n 0, 1) := by decide +kernel
theorem dX9_isDigit_7 : decode cX9_isDigit 7 = .ok (.bipush 57, 2) := by decide +kernel
theorem dX9_isDigit_9 : decode cX9_isDigit 9 = .ok (.if_icmp .gt 7, 3) := by decide +kernel
theorem dX9_isDigit_12 : decode cX9_isDigit 12 = .ok (.iconst 1, 1) := by decide +kernel
theorem dX9_isDigit_13 : decode cX9_isDigit 13 = .ok (.goto 4, 3) := by decide +kernel
theorem dX9_isLetter_0 : decode cX9_isLetter 0 = .ok (.iload_n 0, 1) := by decide +kernel
theorem dX9_isLetter_1 : decode cX9_isLetter 1 = .ok (.bipush 97, 2) := by decide +kernel
theorem dX9_isLetter_3 : decode cX9_isLetter 3 = .ok (.if_icmp .lt 9, 3) := by decide +kernel
theorem dX9_isLetter_12 : decode cX9_isLetter 12 = .ok (.iload_n 0, 1) := by decide +kernel
theorem dX9_isLetter_13 : decode cX9_isLetter 13 = .ok (.bipush 65, 2) := by decide +kernel
theorem dX9_isLetter_15 : decode cX9_isLetter 15 = .ok (.if_icmp .lt 9, 3) := by decide +kernel
theorem dX9_isLetter_24 : decode cX9_isLetter 24 = .ok (.iload_n 0, 1) := by decide +kernel
theorem dX9_isLetter_25 : decode cX9_isLetter 25 = .ok (.bipush 95, 2) := by decide +kernel
theorem dX9_isLetter_27 : decode cX9_isLetter 27 = .ok (.if_icmp .ne 7, 3) := by decide +kernel
theorem dX9_isLetter_34 : decode cX9_isLetter 34 = .ok (.iconst 0, 1) := by decide +kernel
theorem dX9_isLetter_35 : decode cX9_isLetter 35 = .ok (.ireturn, 1) := by decide +kernel
theorem dX9_isLetter_18 : decode cX9_isLetter 18 = .ok (.iload_n 0, 1) := by decide +kernel
theorem dX9_isLetter_19 : decode cX9_isLetter 19 = .ok (.bipush 90, 2) := by decide +kernel
theorem dX9_isLetter_21 : decode cX9_isLetter 21 = .ok (.if_icmp .le 9, 3) := by decide +kernel
theorem dX9_isLetter_30 : decode cX9_isLetter 30 = .ok (.iconst 1, 1) := by decide +kernel
theorem dX9_isLetter_31 : decode cX9_isLetter 31 = .ok (.goto 4, 3) := by decide +kernel
theorem dX9_isLetter_6 : decode cX9_isLetter 6 = .ok (.iload_n 0, 1) := by decide +kernel
theorem dX9_isLetter_7 : decode cX9_isLetter 7 = .ok (.bipush 122, 2) := by decide +kernel
theorem dX9_isLetter_9 : decode cX9_isLetter 9 = .ok (.if_icmp .le 21, 3) := by decide +kernel
theorem dX9_isNamePart_0 : decode cX9_isNamePart 0 = .ok (.iload_n 0, 1) := by decide +kernel
theorem dX9_isNamePart_1 : decode cX9_isNamePart 1 = .ok (.bipush 97, 2) := by decide +kernel
theorem dX9_isNamePart_3 : decode cX9_isNamePart 3 = .ok (.if_icmp .lt 9, 3) := by decide +kernel
theorem dX9_isNamePart_12 : decode cX9_isNamePart 12 = .ok (.iload_n 0, 1) := by decide +kernel
theorem dX9_isNamePart_13 : decode cX9_isNamePart 13 = .ok (.bipush 65, 2) := by decide +kernel
theorem dX9_isNamePart_15 : decode cX9_isNamePart 15 = .ok (.if_icmp .lt 9, 3) := by decide +kernel
theorem dX9_isNamePart_24 : decode cX9_isNamePart 24 = .ok (.iload_n 0, 1) := by decide +kernel
theorem dX9_isNamePart_25 : decode cX9_isNamePart 25 = .ok (.bipush 95, 2) := by decide +kernel
theorem dX9_isNamePart_27 : decode cX9_isNamePart 27 = .ok (.if_icmp .eq 15, 3) := by decide +kernel
theorem dX9_isNamePart_30 : decode cX9_isNamePart 30 = .ok (.iload_n 0, 1) := by decide +kernel
theorem dX9_isNamePart_31 : decode cX9_isNamePart 31 = .ok (.bipush 48, 2) := by decide +kernel
theorem dX9_isNamePart_33 : decode cX9_isNamePart 33 = .ok (.if_icmp .lt 13, 3) := by decide +kernel
theorem dX9_isNamePart_46 : decode cX9_isNamePart 46 = .ok (.iconst 0, 1) := by decide +kernel
theorem dX9_isNamePart_47 : decode cX9_isNamePart 47 = .ok (.ireturn, 1) := by decide +kernel
theorem dX9_isNamePart_36 : decode cX9_isNamePart 36 = .ok (.iload_n 0, 1) := by decide +kernel
theorem dX9_isNamePart_37 : decode cX9_isNamePart 37 = .ok (.bipush 57, 2) := by decide +kernel
theorem dX9_isNamePart_39 : decode cX9_isNamePart 39 = .ok (.if_icmp .gt 7, 3) := by decide +kernel
theorem dX9_isNamePart_42 : decode cX9_isNamePart 42 = .ok (.iconst 1, 1) := by decide +kernel
theorem dX9_isNamePart_43 : decode cX9_isNamePart 43 = .ok (.goto 4, 3) := by decide +kernel
theorem dX9_isNamePart_18 : decode cX9_isNamePart 18 = .ok (.iload_n 0, 1) := by decide +kernel
theorem dX9_isNamePart_19 : decode cX9_isNamePart 19 = .ok (.bipush 90, 2) := by decide +kernel
theorem dX9_isNamePart_21 : decode cX9_isNamePart 21 = .ok (.if_icmp .le 21, 3) := by decide +kernel
theorem dX9_isNamePart_6 : decode cX9_isNamePart 6 = .ok (.iload_n 0, 1) := by decide +kernel
theorem dX9_isNamePart_7 : decode cX9_isNamePart 7 = .ok (.bipush 122, 2) := by decide +kernel
theorem dX9_isNamePart_9 : decode cX9_isNamePart 9 = .ok (.if_icmp .le 33, 3) := by decide +kernel
theorem dX9_isSet_0 : decode cX9_isSet 0 = .ok (.iload_n 0, 1) := by decide +kernel
theorem dX9_isSet_1 : decode cX9_isSet 1 = .ok (.bipush 42, 2) := by decide +kernel
theorem dX9_isSet_3 : decode cX9_isSet 3 = .ok (.if_icmp .lt 13, 3) := by decide +kernel
theorem dX9_isSet_16 : decode cX9_isSet 16 = .ok (.iconst 0, 1) := by decide +kernel
theorem dX9_isSet_17 : decode cX9_isSet 17 = .ok (.ireturn, 1) := by decide +kernel
theorem dX9_isSet_6 : decode cX9_isSet 6 = .ok (.iload_n 0, 1) := by decide +kernel
theorem dX9_isSet_7 : decode cX9_isSet 7 = .ok (.bipush 52, 2) := by decide +kernel
theorem dX9_isSet_9 : decode cX9_isSet 9 = .ok (.if_icmp .gt 7, 3) := by decide +kernel
theorem dX9_isSet_12 : decode cX9_isSet 12 = .ok (.iconst 1, 1) := by decide +kernel
theorem dX9_isSet_13 : decode cX9_isSet 13 = .ok (.goto 4, 3) := by decide +kernel
theorem inc_lt {x y : Int32} (h : x.toInt < y.toInt) : (x + (1 : Int32)).toInt = x.toInt + 1 := add_z rfl (by decide) (by have := x.le_toInt; omega) (by have := y.toInt_lt; omega)
theorem i32le (x : Int32) : x.toInt ≤ 2147483647 := by have := x.toInt_lt; omega
theorem mmax_f {x y z : Int32} (h : z = (if x < y then y else x)) : (x.toInt ≤ z.toInt ∧ y.toInt ≤ z.toInt) ∧ (z.toInt = x.toInt ∨ z.toInt = y.toInt) := by
  rw [h]
  by_cases q : x < y
  · rw [if_pos q]; have := Int32.lt_iff_toInt_lt.mp q; omega
  · rw [if_neg q]; have := Int.not_lt.mp (fun k => q (Int32.lt_iff_toInt_lt.mpr k)); omega
theorem mmin_f {x y z : Int32} (h : z = (if y < x then y else x)) : (z.toInt ≤ x.toInt ∧ z.toInt ≤ y.toInt) ∧ (z.toInt = x.toInt ∨ z.toInt = y.toInt) := by
  rw [h]
  by_cases q : y < x
  · rw [if_pos q]; have := Int32.lt_iff_toInt_lt.mp q; omega
  · rw [if_neg q]; have := Int.not_lt.mp (fun k => q (Int32.lt_iff_toInt_lt.mpr k)); omega
theorem tbr_f {T : List Int32} {j : Nat} {z : Int32} (hT : ∀ x ∈ T, 0 ≤ x.toInt ∧ x.toInt ≤ 40) (h : z = T.getD j 0) : 0 ≤ z.toInt ∧ z.toInt ≤ 40 := by
  rw [h, List.getD_eq_getElem?_getD]
  cases e : T[j]? with
  | none => exact (by decide)
  | some a => exact hT a (List.mem_of_getElem? e)
set_option maxHeartbeats 4000000 in
set_option maxRecDepth 100000 in
theorem c_x_X9_isDigit (l : Launch) (dC : Nat → ClassId) (dI : Nat → Nat → Nat) (cI cB cZ cJ cR : ClassId) (tb : Nat → Nat) (sz : Nat) (pa : Int32)  : Met l yX9_isDigit (Cond.code yX9_isDigit cX9_isDigit 1 (some .boolean) :: tw_W) ({ frames := 0, cells := 0, slots := 0, locals := 0 }) (pc_ (dC, dI) (tyS cI cB cZ cJ cR) tb [] sz [.int pa]) (qi_ (dC, dI) [] sz (fun (r : Int32) (u : Unit) => (Q_x_X9_isDigit pa r) ∧ (r = 0 ∨ r = 1) ∧ (0 ≤ r.toInt ∧ r.toInt ≤ 1)) (fun (u : Unit) => [])) 0 0 (va_A [] sz) := by
  refine Met.ofW (cc := cX9_isDigit) (maxL := 1) (ret := (some .boolean)) (by decide) rfl ?_
  intro p e s m args below meth c s₁ B hml hv
  obtain ⟨rfl, hsz, hP, hKK, hD0, hFx⟩ := hv
  have hK := hKK.1
  have hx := B.exec
  have hb := B.bytes
  have hr := B.returns
  have ht : ∀ w ∈ tw_W, w.before _ s = true := fun w h => atoms_spec (ws := Cond.code yX9_isDigit cX9_isDigit 1 (some .boolean) :: tw_W) B.pre w (List.mem_cons_of_mem _ h)
  have hown : s.vm.findClass RX9 = some m.cls := findClass_of_methodNamed B.named
  have hlocks := B.notSynchronized
  subst hsz
  unfold qi_
  have hD := hD0.self (sz := s.heap.size)
  generalize hAe : va_A [] s.heap.size = A at hD hFx ⊢
  have hA : ∀ q : Nat, s.heap.size ≤ q → A q := fun q h => by rw [← hAe]; exact Or.inr h
  have hS : va_S A s.heap s.heap [] := va_S.rf
  have hl := lv_entry ([.int pa]) (n := 1) (Nat.le_of_ble_eq_true rfl)
  rw [lg_entry_eq]
  generalize (lg_sl ([.int pa]) ++ List.replicate (1 - (lg_sl ([.int pa])).length) Slot.unset).toArray = ls at hl ⊢
  have hl : lv_has ls 1 [(0, .int pa)] := hl
  refine lv_iload_n hx hb dX9_isDigit_0 rfl (lv_at hl 0 rfl) ?_
  refine lv_bipush (v := 48) hx hb dX9_isDigit_1 (by decide) ?_
  refine lv_icmp_lt (tgt := 16) hx hb dX9_isDigit_3 (by decide) (fun h1 => ?_) (fun h1 => ?_)
  · have z2 : pa.toInt < (48 : Int) := lt_z rfl (show (48 : Int32).toInt = (48 : Int) by decide) h1
    refine lv_iconst (v := 0) hx hb dX9_isDigit_16 (by decide) ?_
    exact W.zret (v := 0) hx hb hr rfl (fun t ht9 hW => ⟨⟨0, (), rfl, ⟨(Or.inl ⟨z2, rfl⟩), ⟨Or.inl rfl, (by decide)⟩⟩, by rw [ht9]; exact hP, hD⟩, hS.F ht9⟩) hS.2.2 dX9_isDigit_17
  · have z3 : (48 : Int) ≤ pa.toInt := nlt_z rfl (show (48 : Int32).toInt = (48 : Int) by decide) h1
    refine lv_iload_n hx hb dX9_isDigit_6 rfl (lv_at hl 0 rfl) ?_
    refine lv_bipush (v := 57) hx hb dX9_isDigit_7 (by decide) ?_
    refine lv_icmp_gt (tgt := 16) hx hb dX9_isDigit_9 (by decide) (fun h4 => ?_) (fun h4 => ?_)
    · have z5 : (57 : Int) < pa.toInt := lt_z (show (57 : Int32).toInt = (57 : Int) by decide) rfl h4
      refine lv_iconst (v := 0) hx hb dX9_isDigit_16 (by decide) ?_
      exact W.zret (v := 0) hx hb hr rfl (fun t ht9 hW => ⟨⟨0, (), rfl, ⟨(Or.inr (⟨z3, (Or.inl ⟨z5, rfl⟩)⟩)), ⟨Or.inl rfl, (by decide)⟩⟩, by rw [ht9]; exact hP, hD⟩, hS.F ht9⟩) hS.2.2 dX9_isDigit_17
    · have z6 : pa.toInt ≤ (57 : Int) := nlt_z (show (57 : Int32).toInt = (57 : Int) by decide) rfl h4
      refine lv_iconst (v := 1) hx hb dX9_isDigit_12 (by decide) ?_
      refine lv_goto (tgt := 17) hx hb dX9_isDigit_13 (by decide) ?_
      exact W.zret (v := 1) hx hb hr rfl (fun t ht9 hW => ⟨⟨1, (), rfl, ⟨(Or.inr (⟨z3, (Or.inr (⟨z6, rfl⟩))⟩)), ⟨Or.inr rfl, (by decide)⟩⟩, by rw [ht9]; exact hP, hD⟩, hS.F ht9⟩) hS.2.2 dX9_isDigit_17
set_option maxHeartbeats 4000000 in
set_option maxRecDepth 100000 in
theorem c_x_X9_isLetter (l : Launch) (dC : Nat → ClassId) (dI : Nat → Nat → Nat) (cI cB cZ cJ cR : ClassId) (tb : Nat → Nat) (sz : Nat) (pa : Int32)  : Met l yX9_isLetter (Cond.code yX9_isLetter cX9_isLetter 1 (some .boolean) :: tw_W) ({ frames := 0, cells := 0, slots := 0, locals := 0 }) (pc_ (dC, dI) (tyS cI cB cZ cJ cR) tb [] sz [.int pa]) (qi_ (dC, dI) [] sz (fun (r : Int32) (u : Unit) => (Q_x_X9_isLetter pa r) ∧ (r = 0 ∨ r = 1) ∧ (0 ≤ r.toInt ∧ r.toInt ≤ 1)) (fun (u : Unit) => [])) 0 0 (va_A [] sz) := by
  refine Met.ofW (cc := cX9_isLetter) (maxL := 1) (ret := (some .boolean)) (by decide) rfl ?_
  intro p e s m args below meth c s₁ B hml hv
  obtain ⟨rfl, hsz, hP, hKK, hD0, hFx⟩ := hv
  have hK := hKK.1
  have hx := B.exec
  have hb := B.bytes
  have hr := B.returns
  have ht : ∀ w ∈ tw_W, w.before _ s = true := fun w h => atoms_spec (ws := Cond.code yX9_isLetter cX9_isLetter 1 (some .boolean) :: tw_W) B.pre w (List.mem_cons_of_mem _ h)
  have hown : s.vm.findClass RX9 = some m.cls := findClass_of_methodNamed B.named
  have hlocks := B.notSynchronized
  subst hsz
  unfold qi_
  have hD := hD0.self (sz := s.heap.size)
  generalize hAe : va_A [] s.heap.size = A at hD hFx ⊢
  have hA : ∀ q : Nat, s.heap.size ≤ q → A q := fun q h => by rw [← hAe]; exact Or.inr h
  have hS : va_S A s.heap s.heap [] := va_S.rf
  have hl := lv_entry ([.int pa]) (n := 1) (Nat.le_of_ble_eq_true rfl)
  rw [lg_entry_eq]
  generalize (lg_sl ([.int pa]) ++ List.replicate (1 - (lg_sl ([.int pa])).length) Slot.unset).toArray = ls at hl ⊢
  have hl : lv_has ls 1 [(0, .int pa)] := hl
  refine lv_iload_n hx hb dX9_isLetter_0 rfl (lv_at hl 0 rfl) ?_
  refine lv_bipush (v := 97) hx hb dX9_isLetter_1 (by decide) ?_
  refine lv_icmp_lt (tgt := 12) hx hb dX9_isLetter_3 (by decide) (fun h1 => ?_) (fun h1 => ?_)
  · have z2 : pa.toInt < (97 : Int) := lt_z rfl (show (97 : Int32).toInt = (97 : Int) by decide) h1
    refine lv_iload_n hx hb dX9_isLetter_12 rfl (lv_at hl 0 rfl) ?_
    refine lv_bipush (v := 65) hx hb dX9_isLetter_13 (by decide) ?_
    refine lv_icmp_lt (tgt := 24) hx hb dX9_isLetter_15 (by decide) (fun h3 => ?_) (fun h3 => ?_)
    · have z4 : pa.toInt < (65 : Int) := lt_z rfl (show (65 : Int32).toInt = (65 : Int) by decide) h3
      refine lv_iload_n hx hb dX9_isLetter_24 rfl (lv_at hl 0 rfl) ?_
      refine lv_bipush (v := 95) hx hb dX9_isLetter_25 (by decide) ?_
      refine lv_icmp_ne (tgt := 34) hx hb dX9_isLetter_27 (by decide) (fun h5 => ?_) (fun h5 => ?_)
      · have z6 : pa.toInt ≠ (95 : Int) := ne_z rfl (show (95 : Int32).toInt = (95 : Int) by decide) h5
        refine lv_iconst (v := 0) hx hb dX9_isLetter_34 (by decide) ?_
        exact W.zret (v := 0) hx hb hr rfl (fun t ht9 hW => ⟨⟨0, (), rfl, ⟨(Or.inl ⟨z2, (Or.inl ⟨z4, z6, rfl⟩)⟩), ⟨Or.inl rfl, (by decide)⟩⟩, by rw [ht9]; exact hP, hD⟩, hS.F ht9⟩) hS.2.2 dX9_isLetter_35
      · have z7 : pa.toInt = (95 : Int) := eq_z rfl (show (95 : Int32).toInt = (95 : Int) by decide) h5
        exact False.elim (om_125caba8e6 z4 z7)
    · have z8 : (65 : Int) ≤ pa.toInt := nlt_z rfl (show (65 : Int32).toInt = (65 : Int) by decide) h3
      refine lv_iload_n hx hb dX9_isLetter_18 rfl (lv_at hl 0 rfl) ?_
      refine lv_bipush (v := 90) hx hb dX9_isLetter_19 (by decide) ?_
      refine lv_icmp_le (tgt := 30) hx hb dX9_isLetter_21 (by decide) (fun h9 => ?_) (fun h9 => ?_)
      · have z10 : pa.toInt ≤ (90 : Int) := le_z rfl (show (90 : Int32).toInt = (90 : Int) by decide) h9
        refine lv_iconst (v := 1) hx hb dX9_isLetter_30 (by decide) ?_
        refine lv_goto (tgt := 35) hx hb dX9_isLetter_31 (by decide) ?_
        exact W.zret (v := 1) hx hb hr rfl (fun t ht9 hW => ⟨⟨1, (), rfl, ⟨(Or.inl ⟨z2, (Or.inr (⟨z8, (Or.inl ⟨z10, rfl⟩)⟩))⟩), ⟨Or.inr rfl, (by decide)⟩⟩, by rw [ht9]; exact hP, hD⟩, hS.F ht9⟩) hS.2.2 dX9_isLetter_35
      · have z11 : (90 : Int) < pa.toInt := nle_z rfl (show (90 : Int32).toInt = (90 : Int) by decide) h9
        refine lv_iload_n hx hb dX9_isLetter_24 rfl (lv_at hl 0 rfl) ?_
        refine lv_bipush (v := 95) hx hb dX9_isLetter_25 (by decide) ?_
        refine lv_icmp_ne (tgt := 34) hx hb dX9_isLetter_27 (by decide) (fun h12 => ?_) (fun h12 => ?_)
        · have z13 : pa.toInt ≠ (95 : Int) := ne_z rfl (show (95 : Int32).toInt = (95 : Int) by decide) h12
          refine lv_iconst (v := 0) hx hb dX9_isLetter_34 (by decide) ?_
          exact W.zret (v := 0) hx hb hr rfl (fun t ht9 hW => ⟨⟨0, (), rfl, ⟨(Or.inl ⟨z2, (Or.inr (⟨z8, (Or.inr (⟨z11, (Or.inl ⟨z13, rfl⟩)⟩))⟩))⟩), ⟨Or.inl rfl, (by decide)⟩⟩, by rw [ht9]; exact hP, hD⟩, hS.F ht9⟩) hS.2.2 dX9_isLetter_35
        · have z14 : pa.toInt = (95 : Int) := eq_z rfl (show (95 : Int32).toInt = (95 : Int) by decide) h12
          refine lv_iconst (v := 1) hx hb dX9_isLetter_30 (by decide) ?_
          refine lv_goto (tgt := 35) hx hb dX9_isLetter_31 (by decide) ?_
          exact W.zret (v := 1) hx hb hr rfl (fun t ht9 hW => ⟨⟨1, (), rfl, ⟨(Or.inl ⟨z2, (Or.inr (⟨z8, (Or.inr (⟨z11, (Or.inr (⟨z14, rfl⟩))⟩))⟩))⟩), ⟨Or.inr rfl, (by decide)⟩⟩, by rw [ht9]; exact hP, hD⟩, hS.F ht9⟩) hS.2.2 dX9_isLetter_35
  · have z15 : (97 : Int) ≤ pa.toInt := nlt_z rfl (show (97 : Int32).toInt = (97 : Int) by decide) h1
    refine lv_iload_n hx hb dX9_isLetter_6 rfl (lv_at hl 0 rfl) ?_
    refine lv_bipush (v := 122) hx hb dX9_isLetter_7 (by decide) ?_
    refine lv_icmp_le (tgt := 30) hx hb dX9_isLetter_9 (by decide) (fun h16 => ?_) (fun h16 => ?_)
    · have z17 : pa.toInt ≤ (122 : Int) := le_z rfl (show (122 : Int32).toInt = (122 : Int) by decide) h16
      refine lv_iconst (v := 1) hx hb dX9_isLetter_30 (by decide) ?_
      refine lv_goto (tgt := 35) hx hb dX9_isLetter_31 (by decide) ?_
      exact W.zret (v := 1) hx hb hr rfl (fun t ht9 hW => ⟨⟨1, (), rfl, ⟨(Or.inr (⟨z15, (Or.inl ⟨z17, rfl⟩)⟩)), ⟨Or.inr rfl, (by decide)⟩⟩, by rw [ht9]; exact hP, hD⟩, hS.F ht9⟩) hS.2.2 dX9_isLetter_35
    · have z18 : (122 : Int) < pa.toInt := nle_z rfl (show (122 : Int32).toInt = (122 : Int) by decide) h16
      refine lv_iload_n hx hb dX9_isLetter_12 rfl (lv_at hl 0 rfl) ?_
      refine lv_bipush (v := 65) hx hb dX9_isLetter_13 (by decide) ?_
      refine lv_icmp_lt (tgt := 24) hx hb dX9_isLetter_15 (by decide) (fun h19 => ?_) (fun h19 => ?_)
      · have z20 : pa.toInt < (65 : Int) := lt_z rfl (show (65 : Int32).toInt = (65 : Int) by decide) h19
        exact False.elim (om_5710ec9dea z18 z20)
      · have z21 : (65 : Int) ≤ pa.toInt := nlt_z rfl (show (65 : Int32).toInt = (65 : Int) by decide) h19
        refine lv_iload_n hx hb dX9_isLetter_18 rfl (lv_at hl 0 rfl) ?_
        refine lv_bipush (v := 90) hx hb dX9_isLetter_19 (by decide) ?_
        refine lv_icmp_le (tgt := 30) hx hb dX9_isLetter_21 (by decide) (fun h22 => ?_) (fun h22 => ?_)
        · have z23 : pa.toInt ≤ (90 : Int) := le_z rfl (show (90 : Int32).toInt = (90 : Int) by decide) h22
          exact False.elim (om_fd180de3f1 z18 z23)
        · have z24 : (90 : Int) < pa.toInt := nle_z rfl (show (90 : Int32).toInt = (90 : Int) by decide) h22
          refine lv_iload_n hx hb dX9_isLetter_24 rfl (lv_at hl 0 rfl) ?_
          refine lv_bipush (v := 95) hx hb dX9_isLetter_25 (by decide) ?_
          refine lv_icmp_ne (tgt := 34) hx hb dX9_isLetter_27 (by decide) (fun h25 => ?_) (fun h25 => ?_)
          · have z26 : pa.toInt ≠ (95 : Int) := ne_z rfl (show (95 : Int32).toInt = (95 : Int) by decide) h25
            refine lv_iconst (v := 0) hx hb dX9_isLetter_34 (by decide) ?_
            exact W.zret (v := 0) hx hb hr rfl (fun t ht9 hW => ⟨⟨0, (), rfl, ⟨(Or.inr (⟨z15, (Or.inr (⟨z18, z21, z24, z26, rfl⟩))⟩)), ⟨Or.inl rfl, (by decide)⟩⟩, by rw [ht9]; exact hP, hD⟩, hS.F ht9⟩) hS.2.2 dX9_isLetter_35
          · have z27 : pa.toInt = (95 : Int) := eq_z rfl (show (95 : Int32).toInt = (95 : Int) by decide) h25
            exact False.elim (om_ff67b1dfb4 z18 z27)
theorem om_bbb9c2391b {x0 : Int} (h0 : (90 : Int) < x0) (h1 : x0 < (48 : Int)) : False := by omega
theorem om_e1df585d50 {x0 : Int} (h0 : (90 : Int) < x0) (h1 : x0 ≤ (57 : Int)) : False := by omega
theorem om_6b5d4fb6b4 {x0 : Int} (h0 : (122 : Int) < x0) (h1 : x0 < (48 : Int)) : False := by omega
theorem om_88c8c76e6b {x0 : Int} (h0 : (122 : Int) < x0) (h1 : x0 ≤ (57 : Int)) : False := by omega
set_option maxHeartbeats 4000000 in
set_option maxRecDepth 100000 in
theorem c_x_X9_isNamePart (l : Launch) (dC : Nat → ClassId) (dI : Nat → Nat → Nat) (cI cB cZ cJ cR : ClassId) (tb : Nat → Nat) (sz : Nat) (pa : Int32)  : Met l yX9_isNamePart (Cond.code yX9_isNamePart cX9_isNamePart 1 (some .boolean) :: tw_W) ({ frames := 0, cells := 0, slots := 0, locals := 0 }) (pc_ (dC, dI) (tyS cI cB cZ cJ cR) tb [] sz [.int pa]) (qi_ (dC, dI) [] sz (fun (r : Int32) (u : Unit) => (Q_x_X9_isNamePart pa r) ∧ (r = 0 ∨ r = 1) ∧ (0 ≤ r.toInt ∧ r.toInt ≤ 1)) (fun (u : Unit) => [])) 0 0 (va_A [] sz) := by
  refine Met.ofW (cc := cX9_isNamePart) (maxL := 1) (ret := (some .boolean)) (by decide) rfl ?_
  intro p e s m args below meth c s₁ B hml hv
  obtain ⟨rfl, hsz, hP, hKK, hD0, hFx⟩ := hv
  have hK := hKK.1
  have hx := B.exec
  have hb := B.bytes
  have hr := B.returns
  have ht : ∀ w ∈ tw_W, w.before _ s = true := fun w h => atoms_spec (ws := Cond.code yX9_isNamePart cX9_isNamePart 1 (some .boolean) :: tw_W) B.pre w (List.mem_cons_of_mem _ h)
  have hown : s.vm.findClass RX9 = some m.cls := findClass_of_methodNamed B.named
  have hlocks := B.notSynchronized
  subst hsz
  unfold qi_
  have hD := hD0.self (sz := s.heap.size)
  generalize hAe : va_A [] s.heap.size = A at hD hFx ⊢
  have hA : ∀ q : Nat, s.heap.size ≤ q → A q := fun q h => by rw [← hAe]; exact Or.inr h
  have hS : va_S A s.heap s.heap [] := va_S.rf
  have hl := lv_entry ([.int pa]) (n := 1) (Nat.le_of_ble_eq_true rfl)
  rw [lg_entry_eq]
  generalize (lg_sl ([.int pa]) ++ List.replicate (1 - (lg_sl ([.int pa])).length) Slot.unset).toArray = ls at hl ⊢
  have hl : lv_has ls 1 [(0, .int pa)] := hl
  refine lv_iload_n hx hb dX9_isNamePart_0 rfl (lv_at hl 0 rfl) ?_
  refine lv_bipush (v := 97) hx hb dX9_isNamePart_1 (by decide) ?_
  refine lv_icmp_lt (tgt := 12) hx hb dX9_isNamePart_3 (by decide) (fun h1 => ?_) (fun h1 => ?_)
  · have z2 : pa.toInt < (97 : Int) := lt_z rfl (show (97 : Int32).toInt = (97 : Int) by decide) h1
    refine lv_iload_n hx hb dX9_isNamePart_12 rfl (lv_at hl 0 rfl) ?_
    refine lv_bipush (v := 65) hx hb dX9_isNamePart_13 (by decide) ?_
    refine lv_icmp_lt (tgt := 24) hx hb dX9_isNamePart_15 (by decide) (fun h3 => ?_) (fun h3 => ?_)
    · have z4 : pa.toInt < (65 : Int) := lt_z rfl (show (65 : Int32).toInt = (65 : Int) by decide) h3
      refine lv_iload_n hx hb dX9_isNamePart_24 rfl (lv_at hl 0 rfl) ?_
      refine lv_bipush (v := 95) hx hb dX9_isNamePart_25 (by decide) ?_
      refine lv_icmp_eq (tgt := 42) hx hb dX9_isNamePart_27 (by decide) (fun h5 => ?_) (fun h5 => ?_)
      · have z6 : pa.toInt = (95 : Int) := eq_z rfl (show (95 : Int32).toInt = (95 : Int) by decide) h5
        exact False.elim (om_125caba8e6 z4 z6)
      · have z7 : pa.toInt ≠ (95 : Int) := ne_z rfl (show (95 : Int32).toInt = (95 : Int) by decide) h5
        refine lv_iload_n hx hb dX9_isNamePart_30 rfl (lv_at hl 0 rfl) ?_
        refine lv_bipush (v := 48) hx hb dX9_isNamePart_31 (by decide) ?_
        refine lv_icmp_lt (tgt := 46) hx hb dX9_isNamePart_33 (by decide) (fun h8 => ?_) (fun h8 => ?_)
        · have z9 : pa.toInt < (48 : Int) := lt_z rfl (show (48 : Int32).toInt = (48 : Int) by decide) h8
          refine lv_iconst (v := 0) hx hb dX9_isNamePart_46 (by decide) ?_
          exact W.zret (v := 0) hx hb hr rfl (fun t ht9 hW => ⟨⟨0, (), rfl, ⟨(Or.inl ⟨z2, (Or.inl ⟨z4, z7, (Or.inl ⟨z9, rfl⟩)⟩)⟩), ⟨Or.inl rfl, (by decide)⟩⟩, by rw [ht9]; exact hP, hD⟩, hS.F ht9⟩) hS.2.2 dX9_isNamePart_47
        · have z10 : (48 : Int) ≤ pa.toInt := nlt_z rfl (show (48 : Int32).toInt = (48 : Int) by decide) h8
          refine lv_iload_n hx hb dX9_isNamePart_36 rfl (lv_at hl 0 rfl) ?_
          refine lv_bipush (v := 57) hx hb dX9_isNamePart_37 (by decide) ?_
          refine lv_icmp_gt (tgt := 46) hx hb dX9_isNamePart_39 (by decide) (fun h11 => ?_) (fun h11 => ?_)
          · have z12 : (57 : Int) < pa.toInt := lt_z (show (57 : Int32).toInt = (57 : Int) by decide) rfl h11
            refine lv_iconst (v := 0) hx hb dX9_isNamePart_46 (by decide) ?_
            exact W.zret (v := 0) hx hb hr rfl (fun t ht9 hW => ⟨⟨0, (), rfl, ⟨(Or.inl ⟨z2, (Or.inl ⟨z4, z7, (Or.inr (⟨z10, (Or.inl ⟨z12, rfl⟩)⟩))⟩)⟩), ⟨Or.inl rfl, (by decide)⟩⟩, by rw [ht9]; exact hP, hD⟩, hS.F ht9⟩) hS.2.2 dX9_isNamePart_47
          · have z13 : pa.toInt ≤ (57 : Int) := nlt_z (show (57 : Int32).toInt = (57 : Int) by decide) rfl h11
            refine lv_iconst (v := 1) hx hb dX9_isNamePart_42 (by decide) ?_
            refine lv_goto (tgt := 47) hx hb dX9_isNamePart_43 (by decide) ?_
            exact W.zret (v := 1) hx hb hr rfl (fun t ht9 hW => ⟨⟨1, (), rfl, ⟨(Or.inl ⟨z2, (Or.inl ⟨z4, z7, (Or.inr (⟨z10, (Or.inr (⟨z13, rfl⟩))⟩))⟩)⟩), ⟨Or.inr rfl, (by decide)⟩⟩, by rw [ht9]; exact hP, hD⟩, hS.F ht9⟩) hS.2.2 dX9_isNamePart_47
    · have z14 : (65 : Int) ≤ pa.toInt := nlt_z rfl (show (65 : Int32).toInt = (65 : Int) by decide) h3
      refine lv_iload_n hx hb dX9_isNamePart_18 rfl (lv_at hl 0 rfl) ?_
      refine lv_bipush (v := 90) hx hb dX9_isNamePart_19 (by decide) ?_
      refine lv_icmp_le (tgt := 42) hx hb dX9_isNamePart_21 (by decide) (fun h15 => ?_) (fun h15 => ?_)
      · have z16 : pa.toInt ≤ (90 : Int) := le_z rfl (show (90 : Int32).toInt = (90 : Int) by decide) h15
        refine lv_iconst (v := 1) hx hb dX9_isNamePart_42 (by decide) ?_
        refine lv_goto (tgt := 47) hx hb dX9_isNamePart_43 (by decide) ?_
        exact W.zret (v := 1) hx hb hr rfl (fun t ht9 hW => ⟨⟨1, (), rfl, ⟨(Or.inl ⟨z2, (Or.inr (⟨z14, (Or.inl ⟨z16, rfl⟩)⟩))⟩), ⟨Or.inr rfl, (by decide)⟩⟩, by rw [ht9]; exact hP, hD⟩, hS.F ht9⟩) hS.2.2 dX9_isNamePart_47
      · have z17 : (90 : Int) < pa.toInt := nle_z rfl (show (90 : Int32).toInt = (90 : Int) by decide) h15
        refine lv_iload_n hx hb dX9_isNamePart_24 rfl (lv_at hl 0 rfl) ?_
        refine lv_bipush (v := 95) hx hb dX9_isNamePart_25 (by decide) ?_
        refine lv_icmp_eq (tgt := 42) hx hb dX9_isNamePart_27 (by decide) (fun h18 => ?_) (fun h18 => ?_)
        · have z19 : pa.toInt = (95 : Int) := eq_z rfl (show (95 : Int32).toInt = (95 : Int) by decide) h18
          refine lv_iconst (v := 1) hx hb dX9_isNamePart_42 (by decide) ?_
          refine lv_goto (tgt := 47) hx hb dX9_isNamePart_43 (by decide) ?_
          exact W.zret (v := 1) hx hb hr rfl (fun t ht9 hW => ⟨⟨1, (), rfl, ⟨(Or.inl ⟨z2, (Or.inr (⟨z14, (Or.inr (⟨z17, (Or.inl ⟨z19, rfl⟩)⟩))⟩))⟩), ⟨Or.inr rfl, (by decide)⟩⟩, by rw [ht9]; exact hP, hD⟩, hS.F ht9⟩) hS.2.2 dX9_isNamePart_47
        · have z20 : pa.toInt ≠ (95 : Int) := ne_z rfl (show (95 : Int32).toInt = (95 : Int) by decide) h18
          refine lv_iload_n hx hb dX9_isNamePart_30 rfl (lv_at hl 0 rfl) ?_
          refine lv_bipush (v := 48) hx hb dX9_isNamePart_31 (by decide) ?_
          refine lv_icmp_lt (tgt := 46) hx hb dX9_isNamePart_33 (by decide) (fun h21 => ?_) (fun h21 => ?_)
          · have z22 : pa.toInt < (48 : Int) := lt_z rfl (show (48 : Int32).toInt = (48 : Int) by decide) h21
            exact False.elim (om_bbb9c2391b z17 z22)
          · have z23 : (48 : Int) ≤ pa.toInt := nlt_z rfl (show (48 : Int32).toInt = (48 : Int) by decide) h21
            refine lv_iload_n hx hb dX9_isNamePart_36 rfl (lv_at hl 0 rfl) ?_
            refine lv_bipush (v := 57) hx hb dX9_isNamePart_37 (by decide) ?_
            refine lv_icmp_gt (tgt := 46) hx hb dX9_isNamePart_39 (by decide) (fun h24 => ?_) (fun h24 => ?_)
            · have z25 : (57 : Int) < pa.toInt := lt_z (show (57 : Int32).toInt = (57 : Int) by decide) rfl h24
              refine lv_iconst (v := 0) hx hb dX9_isNamePart_46 (by decide) ?_
              exact W.zret (v := 0) hx hb hr rfl (fun t ht9 hW => ⟨⟨0, (), rfl, ⟨(Or.inl ⟨z2, (Or.inr (⟨z14, (Or.inr (⟨z17, (Or.inr (⟨z20, z23, z25, rfl⟩))⟩))⟩))⟩), ⟨Or.inl rfl, (by decide)⟩⟩, by rw [ht9]; exact hP, hD⟩, hS.F ht9⟩) hS.2.2 dX9_isNamePart_47
            · have z26 : pa.toInt ≤ (57 : Int) := nlt_z (show (57 : Int32).toInt = (57 : Int) by decide) rfl h24
              exact False.elim (om_e1df585d50 z17 z26)
  · have z27 : (97 : Int) ≤ pa.toInt := nlt_z rfl (show (97 : Int32).toInt = (97 : Int) by decide) h1
    refine lv_iload_n hx hb dX9_isNamePart_6 rfl (lv_at hl 0 rfl) ?_
    refine lv_bipush (v := 122) hx hb dX9_isNamePart_7 (by decide) ?_
    refine lv_icmp_le (tgt := 42) hx hb dX9_isNamePart_9 (by decide) (fun h28 => ?_) (fun h28 => ?_)
    · have z29 : pa.toInt ≤ (122 : Int) := le_z rfl (show (122 : Int32).toInt = (122 : Int) by decide) h28
      refine lv_iconst (v := 1) hx hb dX9_isNamePart_42 (by decide) ?_
      refine lv_goto (tgt := 47) hx hb dX9_isNamePart_43 (by decide) ?_
      exact W.zret (v := 1) hx hb hr rfl (fun t ht9 hW => ⟨⟨1, (), rfl, ⟨(Or.inr (⟨z27, (Or.inl ⟨z29, rfl⟩)⟩)), ⟨Or.inr rfl, (by decide)⟩⟩, by rw [ht9]; exact hP, hD⟩, hS.F ht9⟩) hS.2.2 dX9_isNamePart_47
    · have z30 : (122 : Int) < pa.toInt := nle_z rfl (show (122 : Int32).toInt = (122 : Int) by decide) h28
      refine lv_iload_n hx hb dX9_isNamePart_12 rfl (lv_at hl 0 rfl) ?_
      refine lv_bipush (v := 65) hx hb dX9_isNamePart_13 (by decide) ?_
      refine lv_icmp_lt (tgt := 24) hx hb dX9_isNamePart_15 (by decide) (fun h31 => ?_) (fun h31 => ?_)
      · have z32 : pa.toInt < (65 : Int) := lt_z rfl (show (65 : Int32).toInt = (65 : Int) by decide) h31
        exact False.elim (om_5710ec9dea z30 z32)
      · have z33 : (65 : Int) ≤ pa.toInt := nlt_z rfl (show (65 : Int32).toInt = (65 : Int) by decide) h31
        refine lv_iload_n hx hb dX9_isNamePart_18 rfl (lv_at hl 0 rfl) ?_
        refine lv_bipush (v := 90) hx hb dX9_isNamePart_19 (by decide) ?_
        refine lv_icmp_le (tgt := 42) hx hb dX9_isNamePart_21 (by decide) (fun h34 => ?_) (fun h34 => ?_)
        · have z35 : pa.toInt ≤ (90 : Int) := le_z rfl (show (90 : Int32).toInt = (90 : Int) by decide) h34
          exact False.elim (om_fd180de3f1 z30 z35)
        · have z36 : (90 : Int) < pa.toInt := nle_z rfl (show (90 : Int32).toInt = (90 : Int) by decide) h34
          refine lv_iload_n hx hb dX9_isNamePart_24 rfl (lv_at hl 0 rfl) ?_
          refine lv_bipush (v := 95) hx hb dX9_isNamePart_25 (by decide) ?_
          refine lv_icmp_eq (tgt := 42) hx hb dX9_isNamePart_27 (by decide) (fun h37 => ?_) (fun h37 => ?_)
          · have z38 : pa.toInt = (95 : Int) := eq_z rfl (show (95 : Int32).toInt = (95 : Int) by decide) h37
            exact False.elim (om_ff67b1dfb4 z30 z38)
          · have z39 : pa.toInt ≠ (95 : Int) := ne_z rfl (show (95 : Int32).toInt = (95 : Int) by decide) h37
            refine lv_iload_n hx hb dX9_isNamePart_30 rfl (lv_at hl 0 rfl) ?_
            refine lv_bipush (v := 48) hx hb dX9_isNamePart_31 (by decide) ?_
            refine lv_icmp_lt (tgt := 46) hx hb dX9_isNamePart_33 (by decide) (fun h40 => ?_) (fun h40 => ?_)
            · have z41 : pa.toInt < (48 : Int) := lt_z rfl (show (48 : Int32).toInt = (48 : Int) by decide) h40
              exact False.elim (om_6b5d4fb6b4 z30 z41)
            · have z42 : (48 : Int) ≤ pa.toInt := nlt_z rfl (show (48 : Int32).toInt = (48 : Int) by decide) h40
              refine lv_iload_n hx hb dX9_isNamePart_36 rfl (lv_at hl 0 rfl) ?_
              refine lv_bipush (v := 57) hx hb dX9_isNamePart_37 (by decide) ?_
              refine lv_icmp_gt (tgt := 46) hx hb dX9_isNamePart_39 (by decide) (fun h43 => ?_) (fun h43 => ?_)
              · have z44 : (57 : Int) < pa.toInt := lt_z (show (57 : Int32).toInt = (57 : Int) by decide) rfl h43
                refine lv_iconst (v := 0) hx hb dX9_isNamePart_46 (by decide) ?_
                exact W.zret (v := 0) hx hb hr rfl (fun t ht9 hW => ⟨⟨0, (), rfl, ⟨(Or.inr (⟨z27, (Or.inr (⟨z30, z33, z36, z39, z42, z44, rfl⟩))⟩)), ⟨Or.inl rfl, (by decide)⟩⟩, by rw [ht9]; exact hP, hD⟩, hS.F ht9⟩) hS.2.2 dX9_isNamePart_47
              · have z45 : pa.toInt ≤ (57 : Int) := nlt_z (show (57 : Int32).toInt = (57 : Int) by decide) rfl h43
                exact False.elim (om_88c8c76e6b z30 z45)
set_option maxHeartbeats 4000000 in
set_option maxRecDepth 100000 in
theorem c_x_X9_isSet (l : Launch) (dC : Nat → ClassId) (dI : Nat → Nat → Nat) (cI cB cZ cJ cR : ClassId) (tb : Nat → Nat) (sz : Nat) (pa : Int32)  : Met l yX9_isSet (Cond.code yX9_isSet cX9_isSet 1 (some .boolean) :: tw_W) ({ frames := 0, cells := 0, slots := 0, locals := 0 }) (pc_ (dC, dI) (tyS cI cB cZ cJ cR) tb [] sz [.int pa]) (qi_ (dC, dI) [] sz (fun (r : Int32) (u : Unit) => (Q_x_X9_isSet pa r) ∧ (r = 0 ∨ r = 1) ∧ (0 ≤ r.toInt ∧ r.toInt ≤ 1)) (fun (u : Unit) => [])) 0 0 (va_A [] sz) := by
  refine Met.ofW (cc := cX9_isSet) (maxL := 1) (ret := (some .boolean)) (by decide) rfl ?_
  intro p e s m args below meth c s₁ B hml hv
  obtain ⟨rfl, hsz, hP, hKK, hD0, hFx⟩ := hv
  have hK := hKK.1
  have hx := B.exec
  have hb := B.bytes
  have hr := B.returns
  have ht : ∀ w ∈ tw_W, w.before _ s = true := fun w h => atoms_spec (ws := Cond.code yX9_isSet cX9_isSet 1 (some .boolean) :: tw_W) B.pre w (List.mem_cons_of_mem _ h)
  have hown : s.vm.findClass RX9 = some m.cls := findClass_of_methodNamed B.named
  have hlocks := B.notSynchronized
  subst hsz
  unfold qi_
  have hD := hD0.self (sz := s.heap.size)
  generalize hAe : va_A [] s.heap.size = A at hD hFx ⊢
  have hA : ∀ q : Nat, s.heap.size ≤ q → A q := fun q h => by rw [← hAe]; exact Or.inr h
  have hS : va_S A s.heap s.heap [] := va_S.rf
  have hl := lv_entry ([.int pa]) (n := 1) (Nat.le_of_ble_eq_true rfl)
  rw [lg_entry_eq]
  generalize (lg_sl ([.int pa]) ++ List.replicate (1 - (lg_sl ([.int pa])).length) Slot.unset).toArray = ls at hl ⊢
  have hl : lv_has ls 1 [(0, .int pa)] := hl
  refine lv_iload_n hx hb dX9_isSet_0 rfl (lv_at hl 0 rfl) ?_
  refine lv_bipush (v := 42) hx hb dX9_isSet_1 (by decide) ?_
  refine lv_icmp_lt (tgt := 16) hx hb dX9_isSet_3 (by decide) (fun h1 => ?_) (fun h1 => ?_)
  · have z2 : pa.toInt < (42 : Int) := lt_z rfl (show (42 : Int32).toInt = (42 : Int) by decide) h1
    refine lv_iconst (v := 0) hx hb dX9_isSet_16 (by decide) ?_
    exact W.zret (v := 0) hx hb hr rfl (fun t ht9 hW => ⟨⟨0, (), rfl, ⟨(Or.inl ⟨z2, rfl⟩), ⟨Or.inl rfl, (by decide)⟩⟩, by rw [ht9]; exact hP, hD⟩, hS.F ht9⟩) hS.2.2 dX9_isSet_17
  · have z3 : (42 : Int) ≤ pa.toInt := nlt_z rfl (show (42 : Int32).toInt = (42 : Int) by decide) h1
    refine lv_iload_n hx hb dX9_isSet_6 rfl (lv_at hl 0 rfl) ?_
    refine lv_bipush (v := 52) hx hb dX9_isSet_7 (by decide) ?_
    refine lv_icmp_gt (tgt := 16) hx hb dX9_isSet_9 (by decide) (fun h4 => ?_) (fun h4 => ?_)
    · have z5 : (52 : Int) < pa.toInt := lt_z (show (52 : Int32).toInt = (52 : Int) by decide) rfl h4
      refine lv_iconst (v := 0) hx hb dX9_isSet_16 (by decide) ?_
      exact W.zret (v := 0) hx hb hr rfl (fun t ht9 hW => ⟨⟨0, (), rfl, ⟨(Or.inr (⟨z3, (Or.inl ⟨z5, rfl⟩)⟩)), ⟨Or.inl rfl, (by decide)⟩⟩, by rw [ht9]; exact hP, hD⟩, hS.F ht9⟩) hS.2.2 dX9_isSet_17
    · have z6 : pa.toInt ≤ (52 : Int) := nlt_z (show (52 : Int32).toInt = (52 : Int) by decide) rfl h4
      refine lv_iconst (v := 1) hx hb dX9_isSet_12 (by decide) ?_
      refine lv_goto (tgt := 17) hx hb dX9_isSet_13 (by decide) ?_
      exact W.zret (v := 1) hx hb hr rfl (fun t ht9 hW => ⟨⟨1, (), rfl, ⟨(Or.inr (⟨z3, (Or.inr (⟨z6, rfl⟩))⟩)), ⟨Or.inr rfl, (by decide)⟩⟩, by rw [ht9]; exact hP, hD⟩, hS.F ht9⟩) hS.2.2 dX9_isSet_17
