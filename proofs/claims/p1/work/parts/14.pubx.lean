theorem dX11_code_0 : decode cX11_code 0 = .ok (.iload_n 1, 1) := by decide +kernel
theorem dX11_code_1 : decode cX11_code 1 = .ok (.ifCond .ge 13, 3) := by decide +kernel
theorem dX11_code_14 : decode cX11_code 14 = .ok (.aload_n 0, 1) := by decide +kernel
theorem dX11_code_15 : decode cX11_code 15 = .ok (.getfield 36, 3) := by decide +kernel
theorem dX11_code_18 : decode cX11_code 18 = .ok (.iload_n 1, 1) := by decide +kernel
theorem dX11_code_19 : decode cX11_code 19 = .ok (.invokevirtual 126, 3) := by decide +kernel
theorem dX7_wordAt_0 : decode cX7_wordAt 0 = .ok (.iload_n 1, 1) := by decide +kernel
theorem dX7_wordAt_1 : decode cX7_wordAt 1 = .ok (.ifCond .lt 29, 3) := by decide +kernel
theorem dX7_wordAt_30 : decode cX7_wordAt 30 = .ok (.iconst 0, 1) := by decide +kernel
theorem dX7_wordAt_31 : decode cX7_wordAt 31 = .ok (.ireturn, 1) := by decide +kernel
theorem dX7_wordAt_4 : decode cX7_wordAt 4 = .ok (.iload_n 1, 1) := by decide +kernel
theorem dX7_wordAt_5 : decode cX7_wordAt 5 = .ok (.aload_n 0, 1) := by decide +kernel
theorem dX7_wordAt_6 : decode cX7_wordAt 6 = .ok (.getfield 54, 3) := by decide +kernel
theorem dX7_wordAt_9 : decode cX7_wordAt 9 = .ok (.if_icmp .ge 21, 3) := by decide +kernel
theorem dX7_wordAt_12 : decode cX7_wordAt 12 = .ok (.iload_n 1, 1) := by decide +kernel
theorem dX7_wordAt_13 : decode cX7_wordAt 13 = .ok (.aload_n 0, 1) := by decide +kernel
theorem dX7_wordAt_14 : decode cX7_wordAt 14 = .ok (.getfield 32, 3) := by decide +kernel
theorem dX7_wordAt_17 : decode cX7_wordAt 17 = .ok (.arraylength, 1) := by decide +kernel
theorem dX7_wordAt_18 : decode cX7_wordAt 18 = .ok (.if_icmp .ge 12, 3) := by decide +kernel
theorem dX7_wordAt_21 : decode cX7_wordAt 21 = .ok (.aload_n 0, 1) := by decide +kernel
theorem dX7_wordAt_22 : decode cX7_wordAt 22 = .ok (.getfield 32, 3) := by decide +kernel
theorem dX7_wordAt_25 : decode cX7_wordAt 25 = .ok (.iload_n 1, 1) := by decide +kernel
theorem dX7_wordAt_26 : decode cX7_wordAt 26 = .ok (.iaload, 1) := by decide +kernel
theorem dX7_wordAt_27 : decode cX7_wordAt 27 = .ok (.goto 4, 3) := by decide +kernel
theorem tw_266 : (.code yX7_wordAt cX7_wordAt 2 (some .int) : Cond) ∈ tw_W := tw_in (by decide +kernel) (by decide +kernel)
theorem tw_267 : ∀ w ∈ ([.methodLink RX11 126 yX7_wordAt, .instanceMethod yX7_wordAt, .selects RX7 yX7_wordAt yX7_wordAt, .initialized RX7] : List Cond), w ∈ tw_W := tw_all (by decide +kernel)
theorem dX11_code_22 : decode cX11_code 22 = .ok (.ireturn, 1) := by decide +kernel
theorem dX11_code_4 : decode cX11_code 4 = .ok (.new 119, 3) := by decide +kernel
theorem dX11_code_7 : decode cX11_code 7 = .ok (.dup, 1) := by decide +kernel
theorem dX11_code_8 : decode cX11_code 8 = .ok (.ldc 121, 2) := by decide +kernel
theorem dX11_code_10 : decode cX11_code 10 = .ok (.invokespecial 123, 3) := by decide +kernel
theorem dX11_code_13 : decode cX11_code 13 = .ok (.athrow, 1) := by decide +kernel
theorem tw_268 : (.classLink RX11 119 "java/lang/IndexOutOfBoundsException" : Cond) ∈ tw_W := tw_in (by decide +kernel) (by decide +kernel)
theorem tw_269 : (.initialized "java/lang/IndexOutOfBoundsException" : Cond) ∈ tw_W := tw_in (by decide +kernel) (by decide +kernel)
theorem xat_0 : ∀ w ∈ (vx_atS RX11 123 "java/lang/IndexOutOfBoundsException" ["java/lang/RuntimeException", "java/lang/Exception"]).filter goodWord, w ∈ tw_W := tw_all (by decide +kernel)
theorem xat_0_n : ∀ w ∈ (vx_atS RX11 123 "java/lang/IndexOutOfBoundsException" ["java/lang/RuntimeException", "java/lang/Exception"]).filter (fun w => !goodWord w), w ∈ ([.castable "java/lang/IndexOutOfBoundsException" "java/lang/IndexOutOfBoundsException", .declares (Bundle.initS "java/lang/RuntimeException"), .declares (Bundle.initS "java/lang/Exception"), .declares (Bundle.initS Bundle.tN)] : List Cond) := by decide +kernel
theorem xat_0_o : ∀ w ∈ Cond.classLink RX11 119 "java/lang/IndexOutOfBoundsException" :: Cond.initialized "java/lang/IndexOutOfBoundsException" :: vx_atS RX11 123 "java/lang/IndexOutOfBoundsException" ["java/lang/RuntimeException", "java/lang/Exception"], vx_ot w = true := by decide +kernel
theorem dX11_find_0 : decode cX11_find 0 = .ok (.iload_n 1, 1) := by decide +kernel
theorem dX11_find_1 : decode cX11_find 1 = .ok (.ifCond .eq 18, 3) := by decide +kernel
theorem dX11_find_19 : decode cX11_find 19 = .ok (.iload_n 1, 1) := by decide +kernel
theorem dX11_find_20 : decode cX11_find 20 = .ok (.ifCond .ne 13, 3) := by decide +kernel
theorem dX11_find_23 : decode cX11_find 23 = .ok (.aload_n 0, 1) := by decide +kernel
theorem dX11_find_24 : decode cX11_find 24 = .ok (.getfield 36, 3) := by decide +kernel
theorem dX11_find_27 : decode cX11_find 27 = .ok (.getfield 142, 3) := by decide +kernel
theorem dX11_find_30 : decode cX11_find 30 = .ok (.goto 10, 3) := by decide +kernel
theorem dX11_find_40 : decode cX11_find 40 = .ok (.istore_n 2, 1) := by decide +kernel
theorem dX11_find_41 : decode cX11_find 41 = .ok (.iconst 0, 1) := by decide +kernel
theorem dX11_find_42 : decode cX11_find 42 = .ok (.istore_n 3, 1) := by decide +kernel
theorem dX11_find_43 : decode cX11_find 43 = .ok (.iload_n 3, 1) := by decide +kernel
theorem dX11_find_44 : decode cX11_find 44 = .ok (.iload_n 2, 1) := by decide +kernel
theorem dX11_find_45 : decode cX11_find 45 = .ok (.if_icmp .ge 58, 3) := by decide +kernel
theorem dX11_find_103 : decode cX11_find 103 = .ok (.iconst (-1), 1) := by decide +kernel
theorem dX11_find_104 : decode cX11_find 104 = .ok (.ireturn, 1) := by decide +kernel
theorem dX11_find_4 : decode cX11_find 4 = .ok (.iload_n 1, 1) := by decide +kernel
theorem dX11_find_5 : decode cX11_find 5 = .ok (.iconst 1, 1) := by decide +kernel
theorem dX11_find_6 : decode cX11_find 6 = .ok (.if_icmp .eq 13, 3) := by decide +kernel
theorem dX11_find_33 : decode cX11_find 33 = .ok (.aload_n 0, 1) := by decide +kernel
theorem dX11_find_34 : decode cX11_find 34 = .ok (.getfield 36, 3) := by decide +kernel
theorem dX11_find_37 : decode cX11_find 37 = .ok (.getfield 145, 3) := by decide +kernel
theorem dX11_find_9 : decode cX11_find 9 = .ok (.new 137, 3) := by decide +kernel
theorem dX11_find_12 : decode cX11_find 12 = .ok (.dup, 1) := by decide +kernel
theorem dX11_find_13 : decode cX11_find 13 = .ok (.ldc 139, 2) := by decide +kernel
theorem dX11_find_15 : decode cX11_find 15 = .ok (.invokespecial 141, 3) := by decide +kernel
theorem dX11_find_18 : decode cX11_find 18 = .ok (.athrow, 1) := by decide +kernel
theorem tw_270 : (.classLink RX11 137 "java/lang/IllegalArgumentException" : Cond) ∈ tw_W := tw_in (by decide +kernel) (by decide +kernel)
theorem tw_271 : (.initialized "java/lang/IllegalArgumentException" : Cond) ∈ tw_W := tw_in (by decide +kernel) (by decide +kernel)
theorem xat_1 : ∀ w ∈ (vx_atS RX11 141 "java/lang/IllegalArgumentException" ["java/lang/RuntimeException", "java/lang/Exception"]).filter goodWord, w ∈ tw_W := tw_all (by decide +kernel)
theorem xat_1_n : ∀ w ∈ (vx_atS RX11 141 "java/lang/IllegalArgumentException" ["java/lang/RuntimeException", "java/lang/Exception"]).filter (fun w => !goodWord w), w ∈ ([.castable "java/lang/IllegalArgumentException" "java/lang/IllegalArgumentException", .declares (Bundle.initS "java/lang/RuntimeException"), .declares (Bundle.initS "java/lang/Exception"), .declares (Bundle.initS Bundle.tN)] : List Cond) := by decide +kernel
theorem xat_1_o : ∀ w ∈ Cond.classLink RX11 137 "java/lang/IllegalArgumentException" :: Cond.initialized "java/lang/IllegalArgumentException" :: vx_atS RX11 141 "java/lang/IllegalArgumentException" ["java/lang/RuntimeException", "java/lang/Exception"], vx_ot w = true := by decide +kernel
theorem dX11_register_0 : decode cX11_register 0 = .ok (.iload_n 1, 1) := by decide +kernel
theorem dX11_register_1 : decode cX11_register 1 = .ok (.ifCond .lt 9, 3) := by decide +kernel
theorem dX11_register_10 : decode cX11_register 10 = .ok (.new 119, 3) := by decide +kernel
theorem dX11_register_13 : decode cX11_register 13 = .ok (.dup, 1) := by decide +kernel
theorem dX11_register_14 : decode cX11_register 14 = .ok (.ldc 178, 2) := by decide +kernel
theorem dX11_register_16 : decode cX11_register 16 = .ok (.invokespecial 123, 3) := by decide +kernel
theorem dX11_register_19 : decode cX11_register 19 = .ok (.athrow, 1) := by decide +kernel
theorem dX11_register_4 : decode cX11_register 4 = .ok (.iload_n 1, 1) := by decide +kernel
theorem dX11_register_5 : decode cX11_register 5 = .ok (.bipush 32, 2) := by decide +kernel
theorem dX11_register_7 : decode cX11_register 7 = .ok (.if_icmp .le 13, 3) := by decide +kernel
theorem dX11_register_20 : decode cX11_register 20 = .ok (.iload_n 1, 1) := by decide +kernel
theorem dX11_register_21 : decode cX11_register 21 = .ok (.bipush 32, 2) := by decide +kernel
theorem dX11_register_23 : decode cX11_register 23 = .ok (.if_icmp .ne 13, 3) := by decide +kernel
theorem dX11_register_36 : decode cX11_register 36 = .ok (.aload_n 0, 1) := by decide +kernel
theorem dX11_register_37 : decode cX11_register 37 = .ok (.getfield 66, 3) := by decide +kernel
theorem dX11_register_40 : decode cX11_register 40 = .ok (.iload_n 1, 1) := by decide +kernel
theorem dX11_register_41 : decode cX11_register 41 = .ok (.invokevirtual 175, 3) := by decide +kernel
theorem tw_272 : ∀ w ∈ ([.methodLink RX11 175 yX6_valueOf, .instanceMethod yX6_valueOf, .selects RX6 yX6_valueOf yX6_valueOf, .initialized RX6] : List Cond), w ∈ tw_W := tw_all (by decide +kernel)
theorem dX11_register_44 : decode cX11_register 44 = .ok (.ireturn, 1) := by decide +kernel
theorem dX11_register_26 : decode cX11_register 26 = .ok (.aload_n 0, 1) := by decide +kernel
theorem dX11_register_27 : decode cX11_register 27 = .ok (.getfield 66, 3) := by decide +kernel
theorem dX11_register_30 : decode cX11_register 30 = .ok (.getfield 180, 3) := by decide +kernel
theorem dX11_register_33 : decode cX11_register 33 = .ok (.goto 11, 3) := by decide +kernel
set_option maxHeartbeats 4000000 in
set_option maxRecDepth 100000 in
theorem c_X7_wordAt (l : Launch) (dC : Nat → ClassId) (dI : Nat → Nat → Nat) (cI cB cZ cJ cR : ClassId) (tb : Nat → Nat) (sz : Nat) (a0_ : Nat) (x0_ : Int32) (a1_ : Nat) (a2_ : Nat) (a3_ : Nat) (a4_ : Nat) (a5_ : Nat) (a6_ : Nat) (a7_ : Nat) (N : Nat) (hf_N_0 : 256 ≤ N) (hf_N_1 : N ≤ 4096) : Met l yX7_wordAt (Cond.code yX7_wordAt cX7_wordAt 2 (some .int) :: tw_W) ({ frames := 0, cells := 0, slots := 0, locals := 0 }) (pc_ (dC, dI) (tyS cI cB cZ cJ cR) tb [(a0_, .inr (10, [.ref a1_, .int 0, .ref a2_, .int 0, .ref a3_, .int 0, .ref a4_, .ref a5_, .ref a6_, .int 0, .ref a7_, .int 2, .int 8])), (a7_, .inl (cI, N, .inl (upd (upd (fun _ => 0) 0 2195) 1 1048691)))] sz [.ref a0_, .int x0_]) (qi_ (dC, dI) [(a0_, .inr (10, [.ref a1_, .int 0, .ref a2_, .int 0, .ref a3_, .int 0, .ref a4_, .ref a5_, .ref a6_, .int 0, .ref a7_, .int 2, .int 8])), (a7_, .inl (cI, N, .inl (upd (upd (fun _ => 0) 0 2195) 1 1048691)))] sz (fun (r : Int32) (u : Unit) => r = (if x0_ < 0 then 0 else (if 2 ≤ x0_ then 0 else (if (nI N) ≤ x0_ then 0 else ((upd (upd (fun _ => 0) 0 2195) 1 1048691) x0_.toNatClampNeg))))) (fun (u : Unit) => [(a0_, .inr (10, [.ref a1_, .int 0, .ref a2_, .int 0, .ref a3_, .int 0, .ref a4_, .ref a5_, .ref a6_, .int 0, .ref a7_, .int 2, .int 8])), (a7_, .inl (cI, N, .inl (upd (upd (fun _ => 0) 0 2195) 1 1048691)))])) 0 0 (va_A [(a0_, .inr (10, [.ref a1_, .int 0, .ref a2_, .int 0, .ref a3_, .int 0, .ref a4_, .ref a5_, .ref a6_, .int 0, .ref a7_, .int 2, .int 8])), (a7_, .inl (cI, N, .inl (upd (upd (fun _ => 0) 0 2195) 1 1048691)))] sz) := by
  refine Met.ofW (cc := cX7_wordAt) (maxL := 2) (ret := (some .int)) (by decide) rfl ?_
  intro p e s m args below meth c s₁ B hml hv
  obtain ⟨rfl, hsz, hP, hKK, hD0, hFx⟩ := hv
  have hK := hKK.1
  have hx := B.exec
  have hb := B.bytes
  have hr := B.returns
  have ht : ∀ w ∈ tw_W, w.before _ s = true := fun w h => atoms_spec (ws := Cond.code yX7_wordAt cX7_wordAt 2 (some .int) :: tw_W) B.pre w (List.mem_cons_of_mem _ h)
  have hown : s.vm.findClass RX7 = some m.cls := findClass_of_methodNamed B.named
  have hlocks := B.notSynchronized
  subst hsz
  unfold qi_
  have hD := hD0.self (sz := s.heap.size)
  generalize hAe : va_A [(a0_, .inr (10, [.ref a1_, .int 0, .ref a2_, .int 0, .ref a3_, .int 0, .ref a4_, .ref a5_, .ref a6_, .int 0, .ref a7_, .int 2, .int 8])), (a7_, .inl (cI, N, .inl (upd (upd (fun _ => 0) 0 2195) 1 1048691)))] s.heap.size = A at hD hFx ⊢
  have hA : ∀ q : Nat, s.heap.size ≤ q → A q := fun q h => by rw [← hAe]; exact Or.inr h
  have hS : va_S A s.heap s.heap [] := va_S.rf
  have hP : va_P (dC, dI) vwCl [(a0_, .inr (10, [.ref a1_, .int 0, .ref a2_, .int 0, .ref a3_, .int 0, .ref a4_, .ref a5_, .ref a6_, .int 0, .ref a7_, .int 2, .int 8])), (a7_, .inl (cI, N, .inl (upd (upd (fun _ => 0) 0 2195) 1 1048691)))] s.heap := hP
  have hl := lv_entry ([.ref a0_, .int x0_]) (n := 2) (Nat.le_of_ble_eq_true rfl)
  rw [lg_entry_eq]
  generalize (lg_sl ([.ref a0_, .int x0_]) ++ List.replicate (2 - (lg_sl ([.ref a0_, .int x0_])).length) Slot.unset).toArray = ls at hl ⊢
  have hl : lv_has ls 2 [(0, .ref a0_), (1, .int x0_)] := hl
  refine lv_iload_n hx hb dX7_wordAt_0 rfl (lv_at hl 1 rfl) ?_
  refine lv_if_lt (tgt := 30) hx hb dX7_wordAt_1 (by decide) (fun h1 => ?_) (fun h1 => ?_)
  · refine lv_iconst (v := 0) hx hb dX7_wordAt_30 (by decide) ?_
    have hP9 := hP.sub (ws' := [(a0_, .inr (10, [.ref a1_, .int 0, .ref a2_, .int 0, .ref a3_, .int 0, .ref a4_, .ref a5_, .ref a6_, .int 0, .ref a7_, .int 2, .int 8])), (a7_, .inl (cI, N, .inl (upd (upd (fun _ => 0) 0 2195) 1 1048691)))]) [0, 1] rfl
    have hD9 := hD.sub (ws' := [(a0_, .inr (10, [.ref a1_, .int 0, .ref a2_, .int 0, .ref a3_, .int 0, .ref a4_, .ref a5_, .ref a6_, .int 0, .ref a7_, .int 2, .int 8])), (a7_, .inl (cI, N, .inl (upd (upd (fun _ => 0) 0 2195) 1 1048691)))]) [0, 1] (by decide) rfl
    refine W.widen (k := 0) (n := 0) (by omega) (by omega) ?_
    exact W.iret (v := 0) hx hb hr (fun t ht9 hW => ⟨⟨0, (), rfl, (by rw [if_pos h1]), by rw [ht9]; exact hP9, hD9⟩, hS.F ht9⟩) hS.2.2 dX7_wordAt_31
  · refine lv_iload_n hx hb dX7_wordAt_4 rfl (lv_at hl 1 rfl) ?_
    refine lv_aload_n hx hb dX7_wordAt_5 rfl (lv_at hl 0 rfl) ?_
    refine va_get (D := (dC, dI)) (ci := 10) (v := .int 2) (C := RX7) (T := TX7) (N := 13) hx hb ht itX7 hown hK hP 0 rfl rfl 11 (by decide) (ht _ tw_170) (fun _ h9 => h9) rfl dX7_wordAt_6 ?_
    refine lv_icmp_ge (tgt := 30) hx hb dX7_wordAt_9 (by decide) (fun h2 => ?_) (fun h2 => ?_)
    · refine lv_iconst (v := 0) hx hb dX7_wordAt_30 (by decide) ?_
      have hP9 := hP.sub (ws' := [(a0_, .inr (10, [.ref a1_, .int 0, .ref a2_, .int 0, .ref a3_, .int 0, .ref a4_, .ref a5_, .ref a6_, .int 0, .ref a7_, .int 2, .int 8])), (a7_, .inl (cI, N, .inl (upd (upd (fun _ => 0) 0 2195) 1 1048691)))]) [0, 1] rfl
      have hD9 := hD.sub (ws' := [(a0_, .inr (10, [.ref a1_, .int 0, .ref a2_, .int 0, .ref a3_, .int 0, .ref a4_, .ref a5_, .ref a6_, .int 0, .ref a7_, .int 2, .int 8])), (a7_, .inl (cI, N, .inl (upd (upd (fun _ => 0) 0 2195) 1 1048691)))]) [0, 1] (by decide) rfl
      refine W.widen (k := 0) (n := 0) (by omega) (by omega) ?_
      exact W.iret (v := 0) hx hb hr (fun t ht9 hW => ⟨⟨0, (), rfl, (by rw [if_neg h1, if_pos h2]), by rw [ht9]; exact hP9, hD9⟩, hS.F ht9⟩) hS.2.2 dX7_wordAt_31
    · refine lv_iload_n hx hb dX7_wordAt_12 rfl (lv_at hl 1 rfl) ?_
      refine lv_aload_n hx hb dX7_wordAt_13 rfl (lv_at hl 0 rfl) ?_
      refine va_get (D := (dC, dI)) (ci := 10) (v := .ref a7_) (C := RX7) (T := TX7) (N := 13) hx hb ht itX7 hown hK hP 0 rfl rfl 10 (by decide) (ht _ tw_11) (fun _ h9 => h9) rfl dX7_wordAt_14 ?_
      refine va_alen (D := (dC, dI)) (v := (nI N)) hx hb hK hP 1 0 rfl rfl rfl dX7_wordAt_17 ?_
      refine lv_icmp_ge (tgt := 30) hx hb dX7_wordAt_18 (by decide) (fun h3 => ?_) (fun h3 => ?_)
      · refine lv_iconst (v := 0) hx hb dX7_wordAt_30 (by decide) ?_
        have hP9 := hP.sub (ws' := [(a0_, .inr (10, [.ref a1_, .int 0, .ref a2_, .int 0, .ref a3_, .int 0, .ref a4_, .ref a5_, .ref a6_, .int 0, .ref a7_, .int 2, .int 8])), (a7_, .inl (cI, N, .inl (upd (upd (fun _ => 0) 0 2195) 1 1048691)))]) [0, 1] rfl
        have hD9 := hD.sub (ws' := [(a0_, .inr (10, [.ref a1_, .int 0, .ref a2_, .int 0, .ref a3_, .int 0, .ref a4_, .ref a5_, .ref a6_, .int 0, .ref a7_, .int 2, .int 8])), (a7_, .inl (cI, N, .inl (upd (upd (fun _ => 0) 0 2195) 1 1048691)))]) [0, 1] (by decide) rfl
        refine W.widen (k := 0) (n := 0) (by omega) (by omega) ?_
        exact W.iret (v := 0) hx hb hr (fun t ht9 hW => ⟨⟨0, (), rfl, (by rw [if_neg h1, if_neg h2, if_pos h3]), by rw [ht9]; exact hP9, hD9⟩, hS.F ht9⟩) hS.2.2 dX7_wordAt_31
      · refine lv_aload_n hx hb dX7_wordAt_21 rfl (lv_at hl 0 rfl) ?_
        refine va_get (D := (dC, dI)) (ci := 10) (v := .ref a7_) (C := RX7) (T := TX7) (N := 13) hx hb ht itX7 hown hK hP 0 rfl rfl 10 (by decide) (ht _ tw_11) (fun _ h9 => h9) rfl dX7_wordAt_22 ?_
        refine lv_iload_n hx hb dX7_wordAt_25 rfl (lv_at hl 1 rfl) ?_
        refine va_iald (D := (dC, dI)) hx hb hK hP 1 0 rfl rfl (vp_in_iff.mpr (by rw [Int32.lt_iff_toInt_lt] at h1; rw [Int32.le_iff_toInt_le] at h2; have : (0 : Int32).toInt = 0 := (by decide); have : (2 : Int32).toInt = 2 := (by decide); constructor <;> omega)) dX7_wordAt_26 ?_
        refine lv_goto (tgt := 31) hx hb dX7_wordAt_27 (by decide) ?_
        have hP9 := hP.sub (ws' := [(a0_, .inr (10, [.ref a1_, .int 0, .ref a2_, .int 0, .ref a3_, .int 0, .ref a4_, .ref a5_, .ref a6_, .int 0, .ref a7_, .int 2, .int 8])), (a7_, .inl (cI, N, .inl (upd (upd (fun _ => 0) 0 2195) 1 1048691)))]) [0, 1] rfl
        have hD9 := hD.sub (ws' := [(a0_, .inr (10, [.ref a1_, .int 0, .ref a2_, .int 0, .ref a3_, .int 0, .ref a4_, .ref a5_, .ref a6_, .int 0, .ref a7_, .int 2, .int 8])), (a7_, .inl (cI, N, .inl (upd (upd (fun _ => 0) 0 2195) 1 1048691)))]) [0, 1] (by decide) rfl
        refine W.widen (k := 0) (n := 0) (by omega) (by omega) ?_
        exact W.iret (v := ((upd (upd (fun _ => 0) 0 2195) 1 1048691) x0_.toNatClampNeg)) hx hb hr (fun t ht9 hW => ⟨⟨((upd (upd (fun _ => 0) 0 2195) 1 1048691) x0_.toNatClampNeg), (), rfl, (by rw [if_neg h1, if_neg h2, if_neg h3]), by rw [ht9]; exact hP9, hD9⟩, hS.F ht9⟩) hS.2.2 dX7_wordAt_31
set_option maxHeartbeats 4000000 in
set_option maxRecDepth 100000 in
/-- X11_code on a new object: it returns or throws -/
theorem c_X11_code (l : Launch) (dC : Nat → ClassId) (dI : Nat → Nat → Nat) (cI cB cZ cJ cR : ClassId) (tb : Nat → Nat) (hst : l.stackTraces = false) (sz : Nat) (h0 : Nat) (pa : Int32) (q1 : Nat) (q9 : Nat) (q18 : Nat) (q27 : Nat) (q42 : Nat) (q2 : Nat) (q45 : Nat) (q50 : Nat) (q5 : Nat) (q17 : Nat) (N : Nat) (q11 : Nat) (q12 : Nat) (q13 : Nat) (q14 : Nat) (q15 : Nat) (q16 : Nat) (hf_N_0 : 256 ≤ N) (hf_N_1 : N ≤ 4096) : vx_Met l yX11_code (Cond.code yX11_code cX11_code 2 (some .int) :: tw_W) ({ frames := 6, cells := 1, slots := 6, locals := 82 }) (pc_ (dC, dI) (tyS cI cB cZ cJ cR) tb [(h0, .inr (14, [.ref q1, .int 0, .ref q9, .ref q18, .ref q27, .ref q42, .int 0, .int (-1), .ref q2, .ref q45, .ref q50, .ref q5])), (q17, .inl (cI, N, .inl (upd (upd (fun _ => 0) 0 2195) 1 1048691))), (q9, .inr (10, [.ref q11, .int 0, .ref q12, .int 0, .ref q13, .int 0, .ref q14, .ref q15, .ref q16, .int 0, .ref q17, .int 2, .int 8]))] sz [.ref h0, .int pa]) (qi_ (dC, dI) [(h0, .inr (14, [.ref q1, .int 0, .ref q9, .ref q18, .ref q27, .ref q42, .int 0, .int (-1), .ref q2, .ref q45, .ref q50, .ref q5])), (q17, .inl (cI, N, .inl (upd (upd (fun _ => 0) 0 2195) 1 1048691))), (q9, .inr (10, [.ref q11, .int 0, .ref q12, .int 0, .ref q13, .int 0, .ref q14, .ref q15, .ref q16, .int 0, .ref q17, .int 2, .int 8]))] sz (fun (r : Int32) (u : Unit) => (0 ≤ pa ∧ r = (if pa < 0 then 0 else (if 2 ≤ pa then 0 else (if (nI N) ≤ pa then 0 else ((upd (upd (fun _ => 0) 0 2195) 1 1048691) pa.toNatClampNeg)))))) (fun (u : Unit) => [])) (qx_ [(h0, .inr (14, [.ref q1, .int 0, .ref q9, .ref q18, .ref q27, .ref q42, .int 0, .int (-1), .ref q2, .ref q45, .ref q50, .ref q5])), (q17, .inl (cI, N, .inl (upd (upd (fun _ => 0) 0 2195) 1 1048691))), (q9, .inr (10, [.ref q11, .int 0, .ref q12, .int 0, .ref q13, .int 0, .ref q14, .ref q15, .ref q16, .int 0, .ref q17, .int 2, .int 8]))] sz (fun E => (¬ (0 ≤ pa) ∧ E = "java/lang/IndexOutOfBoundsException"))) 1 6 (va_A [(h0, .inr (14, [.ref q1, .int 0, .ref q9, .ref q18, .ref q27, .ref q42, .int 0, .int (-1), .ref q2, .ref q45, .ref q50, .ref q5])), (q17, .inl (cI, N, .inl (upd (upd (fun _ => 0) 0 2195) 1 1048691))), (q9, .inr (10, [.ref q11, .int 0, .ref q12, .int 0, .ref q13, .int 0, .ref q14, .ref q15, .ref q16, .int 0, .ref q17, .int 2, .int 8]))] sz) := by
  refine vx_ofW (cc := cX11_code) (maxL := 2) (ret := (some .int)) (by decide) rfl ?_
  intro p e s m args below meth c s₁ B hml hnt hv
  obtain ⟨rfl, hsz, hP, hKK, hD0, hFx⟩ := hv
  have hK := hKK.1
  have hx := B.exec
  have hb := B.bytes
  have hr := B.returns
  have ht : ∀ w ∈ tw_W, w.before _ s = true := fun w h => atoms_spec (ws := Cond.code yX11_code cX11_code 2 (some .int) :: tw_W) B.pre w (List.mem_cons_of_mem _ h)
  have hown : s.vm.findClass RX11 = some m.cls := findClass_of_methodNamed B.named
  have hlocks := B.notSynchronized
  subst hsz
  unfold qi_ qx_
  have hD := hD0.self (sz := s.heap.size)
  generalize hAe : va_A [(h0, .inr (14, [.ref q1, .int 0, .ref q9, .ref q18, .ref q27, .ref q42, .int 0, .int (-1), .ref q2, .ref q45, .ref q50, .ref q5])), (q17, .inl (cI, N, .inl (upd (upd (fun _ => 0) 0 2195) 1 1048691))), (q9, .inr (10, [.ref q11, .int 0, .ref q12, .int 0, .ref q13, .int 0, .ref q14, .ref q15, .ref q16, .int 0, .ref q17, .int 2, .int 8]))] s.heap.size = A at hD hFx ⊢
  have hA : ∀ q : Nat, s.heap.size ≤ q → A q := fun q h => by rw [← hAe]; exact Or.inr h
  have hS : va_S A s.heap s.heap [] := va_S.rf
  have hP : va_P (dC, dI) vwCl [(h0, .inr (14, [.ref q1, .int 0, .ref q9, .ref q18, .ref q27, .ref q42, .int 0, .int (-1), .ref q2, .ref q45, .ref q50, .ref q5])), (q17, .inl (cI, N, .inl (upd (upd (fun _ => 0) 0 2195) 1 1048691))), (q9, .inr (10, [.ref q11, .int 0, .ref q12, .int 0, .ref q13, .int 0, .ref q14, .ref q15, .ref q16, .int 0, .ref q17, .int 2, .int 8]))] s.heap := hP
  have hl := lv_entry ([.ref h0, .int pa]) (n := 2) (Nat.le_of_ble_eq_true rfl)
  rw [lg_entry_eq]
  generalize (lg_sl ([.ref h0, .int pa]) ++ List.replicate (2 - (lg_sl ([.ref h0, .int pa])).length) Slot.unset).toArray = ls at hl ⊢
  have hl : lv_has ls 2 [(0, .ref h0), (1, .int pa)] := hl
  refine lv_iload_n hx hb dX11_code_0 rfl (lv_at hl 1 rfl) ?_
  refine lv_if_ge (tgt := 14) hx hb dX11_code_1 (by decide) (fun h1 => ?_) (fun h1 => ?_)
  · refine lv_aload_n hx hb dX11_code_14 rfl (lv_at hl 0 rfl) ?_
    refine va_get (D := (dC, dI)) (ci := 14) (v := .ref q9) (C := RX11) (T := TX11) (N := 12) hx hb ht itX11 hown hK hP 0 rfl rfl 2 (by decide) (ht _ tw_110) (fun _ h9 => h9) rfl dX11_code_15 ?_
    refine lv_iload_n hx hb dX11_code_18 rfl (lv_at hl 1 rfl) ?_
    refine ca_i (wr := [(h0, .inr (14, [.ref q1, .int 0, .ref q9, .ref q18, .ref q27, .ref q42, .int 0, .int (-1), .ref q2, .ref q45, .ref q50, .ref q5]))]) (rn_V (n := 1) (As := [.int pa]) (rest := []) hx hb hml hown ht hKK hFx hP hD hS hA (c_X7_wordAt l dC dI cI cB cZ cJ cR tb s.heap.size q9 pa q11 q12 q13 q14 q15 q16 q17 N (by omega) (by omega)) tw_266 tw_267 (by decide +kernel) rfl rfl ⟨Nat.le_of_ble_eq_true rfl, Nat.le_of_ble_eq_true rfl⟩ [2, 1] rfl (by decide) rfl rfl rfl rfl hl.1 rfl (Nat.le_of_ble_eq_true rfl) dX11_code_19 ⟨Nat.le_of_ble_eq_true rfl, Nat.le_of_ble_eq_true rfl⟩) hP hD hS hA (isC := [2, 1]) (isR := [0]) rfl rfl (by decide) (by decide) (fun r3 u H locs hw2 hP hD hS => ?_)
    subst hw2
    have hP : va_P (dC, dI) vwCl [(h0, .inr (14, [.ref q1, .int 0, .ref q9, .ref q18, .ref q27, .ref q42, .int 0, .int (-1), .ref q2, .ref q45, .ref q50, .ref q5])), (q9, .inr (10, [.ref q11, .int 0, .ref q12, .int 0, .ref q13, .int 0, .ref q14, .ref q15, .ref q16, .int 0, .ref q17, .int 2, .int 8])), (q17, .inl (cI, N, .inl (upd (upd (fun _ => 0) 0 2195) 1 1048691)))] H := hP
    have hD : va_D A [(h0, .inr (14, [.ref q1, .int 0, .ref q9, .ref q18, .ref q27, .ref q42, .int 0, .int (-1), .ref q2, .ref q45, .ref q50, .ref q5])), (q9, .inr (10, [.ref q11, .int 0, .ref q12, .int 0, .ref q13, .int 0, .ref q14, .ref q15, .ref q16, .int 0, .ref q17, .int 2, .int 8])), (q17, .inl (cI, N, .inl (upd (upd (fun _ => 0) 0 2195) 1 1048691)))] := hD
    refine W.widen (k := 0) (n := 0) (by omega) (by omega) ?_
    have hP9 := hP.sub (ws' := []) [] rfl
    have hD9 := hD.sub (ws' := []) [] (by decide) rfl
    refine W.widen (k := 1) (n := 6) (by omega) (by omega) ?_
    refine vx_ret ?_
    exact W.iret (v := (if pa < 0 then 0 else (if 2 ≤ pa then 0 else (if (nI N) ≤ pa then 0 else ((upd (upd (fun _ => 0) 0 2195) 1 1048691) pa.toNatClampNeg))))) hx hb hr (fun t ht9 hW => ⟨⟨(if pa < 0 then 0 else (if 2 ≤ pa then 0 else (if (nI N) ≤ pa then 0 else ((upd (upd (fun _ => 0) 0 2195) 1 1048691) pa.toNatClampNeg)))), (), rfl, (⟨h1, rfl⟩), by rw [ht9]; exact hP9, hD9⟩, hS.F ht9⟩) hS.2.2 dX11_code_22
  · refine vx_throwS (names := ["java/lang/RuntimeException", "java/lang/Exception"]) (A := A) hx hb hst hown (by decide +kernel) (by decide +kernel) (ht _ tw_268) (ht _ tw_269) (st_ hKK 13 (own := RX11) (idx := 121) (tx := "a word below 0") (n := 13) rfl) (vx_hat (fun w h => ht w (xat_0 w h)) xat_0_n (vx_c (va_Nw.use rfl (hKK.2.2.2.2.2.1 _ (List.mem_of_getElem? (i := 0) rfl))) (vx_c (dcl_0 ht) (vx_c (dcl_1 ht) (vx_c (dcl_2 ht) vx_n))))) xat_0_o hFx.2.2.2.2.1 hFx.2.2.2.2.2.1 hS (by rw [hml]; exact hl.1) dX11_code_4 dX11_code_7 dX11_code_8 dX11_code_10 dX11_code_13 (fun x h9 => (hnt x h9).elim) (Nat.le_of_ble_eq_true rfl) (Nat.le_of_ble_eq_true rfl) (Nat.le_of_ble_eq_true rfl) (Nat.le_of_ble_eq_true rfl) hlocks (fun t9 hv9 hz9 hk9 => ⟨(), trivial, (⟨h1, rfl⟩), ⟨Nat.le_trans hS.1 hz9, fun q h1 h2 => (hk9 q (Nat.lt_of_lt_of_le h1 hS.1)).trans (hS.2.1 q h1 h2)⟩⟩) hS.2.2 (Nat.le_of_ble_eq_true rfl) (Nat.le_of_ble_eq_true rfl)
set_option maxHeartbeats 4000000 in
set_option maxRecDepth 100000 in
/-- X11_find on a new object: it returns or throws -/
theorem c_X11_find (l : Launch) (dC : Nat → ClassId) (dI : Nat → Nat → Nat) (cI cB cZ cJ cR : ClassId) (tb : Nat → Nat) (hst : l.stackTraces = false) (sz : Nat) (h0 : Nat) (pa : Int32) (q1 : Nat) (q9 : Nat) (q18 : Nat) (q27 : Nat) (q42 : Nat) (q2 : Nat) (q45 : Nat) (q50 : Nat) (q5 : Nat) (q11 : Nat) (q12 : Nat) (q13 : Nat) (q14 : Nat) (q15 : Nat) (q16 : Nat) (q17 : Nat)  : vx_Met l yX11_find (Cond.code yX11_find cX11_find 5 (some .int) :: tw_W) ({ frames := 6, cells := 1, slots := 6, locals := 82 }) (pc_ (dC, dI) (tyS cI cB cZ cJ cR) tb [(h0, .inr (14, [.ref q1, .int 0, .ref q9, .ref q18, .ref q27, .ref q42, .int 0, .int (-1), .ref q2, .ref q45, .ref q50, .ref q5])), (q9, .inr (10, [.ref q11, .int 0, .ref q12, .int 0, .ref q13, .int 0, .ref q14, .ref q15, .ref q16, .int 0, .ref q17, .int 2, .int 8]))] sz [.ref h0, .int pa]) (qi_ (dC, dI) [(h0, .inr (14, [.ref q1, .int 0, .ref q9, .ref q18, .ref q27, .ref q42, .int 0, .int (-1), .ref q2, .ref q45, .ref q50, .ref q5])), (q9, .inr (10, [.ref q11, .int 0, .ref q12, .int 0, .ref q13, .int 0, .ref q14, .ref q15, .ref q16, .int 0, .ref q17, .int 2, .int 8]))] sz (fun (r : Int32) (u : Unit) => (pa = 0 ∧ r = (-1)) ∨ (¬ (pa = 0) ∧ pa = 1 ∧ r = (-1))) (fun (u : Unit) => [])) (qx_ [(h0, .inr (14, [.ref q1, .int 0, .ref q9, .ref q18, .ref q27, .ref q42, .int 0, .int (-1), .ref q2, .ref q45, .ref q50, .ref q5])), (q9, .inr (10, [.ref q11, .int 0, .ref q12, .int 0, .ref q13, .int 0, .ref q14, .ref q15, .ref q16, .int 0, .ref q17, .int 2, .int 8]))] sz (fun E => (¬ (pa = 0) ∧ ¬ (pa = 1) ∧ E = "java/lang/IllegalArgumentException"))) 1 6 (va_A [(h0, .inr (14, [.ref q1, .int 0, .ref q9, .ref q18, .ref q27, .ref q42, .int 0, .int (-1), .ref q2, .ref q45, .ref q50, .ref q5])), (q9, .inr (10, [.ref q11, .int 0, .ref q12, .int 0, .ref q13, .int 0, .ref q14, .ref q15, .ref q16, .int 0, .ref q17, .int 2, .int 8]))] sz) := by
  refine vx_ofW (cc := cX11_find) (maxL := 5) (ret := (some .int)) (by decide) rfl ?_
  intro p e s m args below meth c s₁ B hml hnt hv
  obtain ⟨rfl, hsz, hP, hKK, hD0, hFx⟩ := hv
  have hK := hKK.1
  have hx := B.exec
  have hb := B.bytes
  have hr := B.returns
  have ht : ∀ w ∈ tw_W, w.before _ s = true := fun w h => atoms_spec (ws := Cond.code yX11_find cX11_find 5 (some .int) :: tw_W) B.pre w (List.mem_cons_of_mem _ h)
  have hown : s.vm.findClass RX11 = some m.cls := findClass_of_methodNamed B.named
  have hlocks := B.notSynchronized
  subst hsz
  unfold qi_ qx_
  have hD := hD0.self (sz := s.heap.size)
  generalize hAe : va_A [(h0, .inr (14, [.ref q1, .int 0, .ref q9, .ref q18, .ref q27, .ref q42, .int 0, .int (-1), .ref q2, .ref q45, .ref q50, .ref q5])), (q9, .inr (10, [.ref q11, .int 0, .ref q12, .int 0, .ref q13, .int 0, .ref q14, .ref q15, .ref q16, .int 0, .ref q17, .int 2, .int 8]))] s.heap.size = A at hD hFx ⊢
  have hA : ∀ q : Nat, s.heap.size ≤ q → A q := fun q h => by rw [← hAe]; exact Or.inr h
  have hS : va_S A s.heap s.heap [] := va_S.rf
  have hP : va_P (dC, dI) vwCl [(h0, .inr (14, [.ref q1, .int 0, .ref q9, .ref q18, .ref q27, .ref q42, .int 0, .int (-1), .ref q2, .ref q45, .ref q50, .ref q5])), (q9, .inr (10, [.ref q11, .int 0, .ref q12, .int 0, .ref q13, .int 0, .ref q14, .ref q15, .ref q16, .int 0, .ref q17, .int 2, .int 8]))] s.heap := hP
  have hl := lv_entry ([.ref h0, .int pa]) (n := 5) (Nat.le_of_ble_eq_true rfl)
  rw [lg_entry_eq]
  generalize (lg_sl ([.ref h0, .int pa]) ++ List.replicate (5 - (lg_sl ([.ref h0, .int pa])).length) Slot.unset).toArray = ls at hl ⊢
  have hl : lv_has ls 5 [(0, .ref h0), (1, .int pa)] := hl
  refine lv_iload_n hx hb dX11_find_0 rfl (lv_at hl 1 rfl) ?_
  refine lv_if_eq (tgt := 19) hx hb dX11_find_1 (by decide) (fun h1 => ?_) (fun h1 => ?_)
  · refine lv_iload_n hx hb dX11_find_19 rfl (lv_at hl 1 rfl) ?_
    refine lv_if_ne (tgt := 33) hx hb dX11_find_20 (by decide) (fun k2 => False.elim (by rw [← Int32.toInt_inj] at h1; rw [← Int32.toInt_inj] at k2; have : (0 : Int32).toInt = 0 := (by decide); omega)) (fun _ => ?_)
    refine lv_aload_n hx hb dX11_find_23 rfl (lv_at hl 0 rfl) ?_
    refine va_get (D := (dC, dI)) (ci := 14) (v := .ref q9) (C := RX11) (T := TX11) (N := 12) hx hb ht itX11 hown hK hP 0 rfl rfl 2 (by decide) (ht _ tw_110) (fun _ h9 => h9) rfl dX11_find_24 ?_
    refine va_get (D := (dC, dI)) (ci := 10) (v := .int 0) (C := RX7) (T := TX7) (N := 13) hx hb ht itX7 hown hK hP 1 rfl rfl 3 (by decide) (ht _ tw_254) (fun _ h9 => h9) rfl dX11_find_27 ?_
    refine lv_goto (tgt := 40) hx hb dX11_find_30 (by decide) ?_
    refine lv_istore_n (lv' := [(2, .int 0), (0, .ref h0), (1, .int pa)]) hx hb dX11_find_40 rfl hl (by decide) rfl (fun ls hl => ?_)
    refine lv_iconst (v := 0) hx hb dX11_find_41 (by decide) ?_
    refine lv_istore_n (lv' := [(3, .int 0), (2, .int 0), (0, .ref h0), (1, .int pa)]) hx hb dX11_find_42 rfl hl (by decide) rfl (fun ls hl => ?_)
    refine lv_iload_n hx hb dX11_find_43 rfl (lv_at hl 0 rfl) ?_
    refine lv_iload_n hx hb dX11_find_44 rfl (lv_at hl 1 rfl) ?_
    refine lv_icmp_ge (tgt := 103) hx hb dX11_find_45 (by decide) (fun _ => ?_) (fun k3 => absurd k3 (by decide))
    refine lv_iconst (v := -1) hx hb dX11_find_103 (by decide) ?_
    have hP9 := hP.sub (ws' := []) [] rfl
    have hD9 := hD.sub (ws' := []) [] (by decide) rfl
    refine W.widen (k := 1) (n := 6) (by omega) (by omega) ?_
    refine vx_ret ?_
    exact W.iret (v := (-1)) hx hb hr (fun t ht9 hW => ⟨⟨(-1), (), rfl, (Or.inl ⟨h1, rfl⟩), by rw [ht9]; exact hP9, hD9⟩, hS.F ht9⟩) hS.2.2 dX11_find_104
  · refine lv_iload_n hx hb dX11_find_4 rfl (lv_at hl 1 rfl) ?_
    refine lv_iconst (v := 1) hx hb dX11_find_5 (by decide) ?_
    refine lv_icmp_eq (tgt := 19) hx hb dX11_find_6 (by decide) (fun h4 => ?_) (fun h4 => ?_)
    · refine lv_iload_n hx hb dX11_find_19 rfl (lv_at hl 1 rfl) ?_
      refine lv_if_ne (tgt := 33) hx hb dX11_find_20 (by decide) (fun _ => ?_) (fun k5 => False.elim (by rw [← Int32.toInt_inj] at h1; rw [← Int32.toInt_inj] at h4; rw [← Int32.toInt_inj] at k5; have : (0 : Int32).toInt = 0 := (by decide); have : (1 : Int32).toInt = 1 := (by decide); omega))
      refine lv_aload_n hx hb dX11_find_33 rfl (lv_at hl 0 rfl) ?_
      refine va_get (D := (dC, dI)) (ci := 14) (v := .ref q9) (C := RX11) (T := TX11) (N := 12) hx hb ht itX11 hown hK hP 0 rfl rfl 2 (by decide) (ht _ tw_110) (fun _ h9 => h9) rfl dX11_find_34 ?_
      refine va_get (D := (dC, dI)) (ci := 10) (v := .int 0) (C := RX7) (T := TX7) (N := 13) hx hb ht itX7 hown hK hP 1 rfl rfl 5 (by decide) (ht _ tw_255) (fun _ h9 => h9) rfl dX11_find_37 ?_
      refine lv_istore_n (lv' := [(2, .int 0), (0, .ref h0), (1, .int pa)]) hx hb dX11_find_40 rfl hl (by decide) rfl (fun ls hl => ?_)
      refine lv_iconst (v := 0) hx hb dX11_find_41 (by decide) ?_
      refine lv_istore_n (lv' := [(3, .int 0), (2, .int 0), (0, .ref h0), (1, .int pa)]) hx hb dX11_find_42 rfl hl (by decide) rfl (fun ls hl => ?_)
      refine lv_iload_n hx hb dX11_find_43 rfl (lv_at hl 0 rfl) ?_
      refine lv_iload_n hx hb dX11_find_44 rfl (lv_at hl 1 rfl) ?_
      refine lv_icmp_ge (tgt := 103) hx hb dX11_find_45 (by decide) (fun _ => ?_) (fun k6 => absurd k6 (by decide))
      refine lv_iconst (v := -1) hx hb dX11_find_103 (by decide) ?_
      have hP9 := hP.sub (ws' := []) [] rfl
      have hD9 := hD.sub (ws' := []) [] (by decide) rfl
      refine W.widen (k := 1) (n := 6) (by omega) (by omega) ?_
      refine vx_ret ?_
      exact W.iret (v := (-1)) hx hb hr (fun t ht9 hW => ⟨⟨(-1), (), rfl, (Or.inr (⟨h1, h4, rfl⟩)), by rw [ht9]; exact hP9, hD9⟩, hS.F ht9⟩) hS.2.2 dX11_find_104
    · refine vx_throwS (names := ["java/lang/RuntimeException", "java/lang/Exception"]) (A := A) hx hb hst hown (by decide +kernel) (by decide +kernel) (ht _ tw_270) (ht _ tw_271) (st_ hKK 14 (own := RX11) (idx := 139) (tx := "neither functions nor globals") (n := 14) rfl) (vx_hat (fun w h => ht w (xat_1 w h)) xat_1_n (vx_c (va_Nw.use rfl (hKK.2.2.2.2.2.1 _ (List.mem_of_getElem? (i := 1) rfl))) (vx_c (dcl_0 ht) (vx_c (dcl_1 ht) (vx_c (dcl_2 ht) vx_n))))) xat_1_o hFx.2.2.2.2.1 hFx.2.2.2.2.2.1 hS (by rw [hml]; exact hl.1) dX11_find_9 dX11_find_12 dX11_find_13 dX11_find_15 dX11_find_18 (fun x h9 => (hnt x h9).elim) (Nat.le_of_ble_eq_true rfl) (Nat.le_of_ble_eq_true rfl) (Nat.le_of_ble_eq_true rfl) (Nat.le_of_ble_eq_true rfl) hlocks (fun t9 hv9 hz9 hk9 => ⟨(), trivial, (⟨h1, h4, rfl⟩), ⟨Nat.le_trans hS.1 hz9, fun q h1 h2 => (hk9 q (Nat.lt_of_lt_of_le h1 hS.1)).trans (hS.2.1 q h1 h2)⟩⟩) hS.2.2 (Nat.le_of_ble_eq_true rfl) (Nat.le_of_ble_eq_true rfl)
set_option maxHeartbeats 4000000 in
set_option maxRecDepth 100000 in
theorem c_X6_valueOf_2 (l : Launch) (dC : Nat → ClassId) (dI : Nat → Nat → Nat) (cI cB cZ cJ cR : ClassId) (tb : Nat → Nat) (sz : Nat) (a0_ : Nat) (x0_ : Int32) (a1_ : Nat) (a2_ : Nat) (a3_ : Nat) (a4_ : Nat)  : Met l yX6_valueOf (Cond.code yX6_valueOf cX6_valueOf 2 (some .int) :: tw_W) ({ frames := 0, cells := 0, slots := 0, locals := 0 }) (pc_ (dC, dI) (tyS cI cB cZ cJ cR) tb [(a0_, .inr (9, [.ref a1_, .ref a2_, .int 0, .int 0, .int 0, .int 0, .ref a3_, .int 0, .ref a4_])), (a2_, .inl (cI, 32, .inl (fun _ => 0)))] sz [.ref a0_, .int x0_]) (qi_ (dC, dI) [(a0_, .inr (9, [.ref a1_, .ref a2_, .int 0, .int 0, .int 0, .int 0, .ref a3_, .int 0, .ref a4_])), (a2_, .inl (cI, 32, .inl (fun _ => 0)))] sz (fun (r : Int32) (u : Unit) => r = 0) (fun (u : Unit) => [(a0_, .inr (9, [.ref a1_, .ref a2_, .int 0, .int 0, .int 0, .int 0, .ref a3_, .int 0, .ref a4_])), (a2_, .inl (cI, 32, .inl (fun _ => 0)))])) 0 0 (va_A [(a0_, .inr (9, [.ref a1_, .ref a2_, .int 0, .int 0, .int 0, .int 0, .ref a3_, .int 0, .ref a4_])), (a2_, .inl (cI, 32, .inl (fun _ => 0)))] sz) := by
  refine Met.ofW (cc := cX6_valueOf) (maxL := 2) (ret := (some .int)) (by decide) rfl ?_
  intro p e s m args below meth c s₁ B hml hv
  obtain ⟨rfl, hsz, hP, hKK, hD0, hFx⟩ := hv
  have hK := hKK.1
  have hx := B.exec
  have hb := B.bytes
  have hr := B.returns
  have ht : ∀ w ∈ tw_W, w.before _ s = true := fun w h => atoms_spec (ws := Cond.code yX6_valueOf cX6_valueOf 2 (some .int) :: tw_W) B.pre w (List.mem_cons_of_mem _ h)
  have hown : s.vm.findClass RX6 = some m.cls := findClass_of_methodNamed B.named
  have hlocks := B.notSynchronized
  subst hsz
  unfold qi_
  have hD := hD0.self (sz := s.heap.size)
  generalize hAe : va_A [(a0_, .inr (9, [.ref a1_, .ref a2_, .int 0, .int 0, .int 0, .int 0, .ref a3_, .int 0, .ref a4_])), (a2_, .inl (cI, 32, .inl (fun _ => 0)))] s.heap.size = A at hD hFx ⊢
  have hA : ∀ q : Nat, s.heap.size ≤ q → A q := fun q h => by rw [← hAe]; exact Or.inr h
  have hS : va_S A s.heap s.heap [] := va_S.rf
  have hP : va_P (dC, dI) vwCl [(a0_, .inr (9, [.ref a1_, .ref a2_, .int 0, .int 0, .int 0, .int 0, .ref a3_, .int 0, .ref a4_])), (a2_, .inl (cI, 32, .inl (fun _ => 0)))] s.heap := hP
  have hl := lv_entry ([.ref a0_, .int x0_]) (n := 2) (Nat.le_of_ble_eq_true rfl)
  rw [lg_entry_eq]
  generalize (lg_sl ([.ref a0_, .int x0_]) ++ List.replicate (2 - (lg_sl ([.ref a0_, .int x0_])).length) Slot.unset).toArray = ls at hl ⊢
  have hl : lv_has ls 2 [(0, .ref a0_), (1, .int x0_)] := hl
  refine lv_aload_n hx hb dX6_valueOf_0 rfl (lv_at hl 0 rfl) ?_
  refine va_get (D := (dC, dI)) (ci := 9) (v := .ref a2_) (C := RX6) (T := TX6) (N := 9) hx hb ht itX6 hown hK hP 0 rfl rfl 1 (by decide) (ht _ tw_132) (fun _ h9 => h9) rfl dX6_valueOf_1 ?_
  refine lv_iload_n hx hb dX6_valueOf_4 rfl (lv_at hl 1 rfl) ?_
  refine lv_bipush (v := 31) hx hb dX6_valueOf_5 (by decide) ?_
  refine lv_iand hx hb dX6_valueOf_7 ?_
  refine va_iald (D := (dC, dI)) hx hb hK hP 1 0 rfl rfl (pk_andIn x0_ 5 (by decide) (by decide)) dX6_valueOf_8 ?_
  refine tp_i (y := 0) (rfl) ?_
  have hP9 := hP.sub (ws' := [(a0_, .inr (9, [.ref a1_, .ref a2_, .int 0, .int 0, .int 0, .int 0, .ref a3_, .int 0, .ref a4_])), (a2_, .inl (cI, 32, .inl (fun _ => 0)))]) [0, 1] rfl
  have hD9 := hD.sub (ws' := [(a0_, .inr (9, [.ref a1_, .ref a2_, .int 0, .int 0, .int 0, .int 0, .ref a3_, .int 0, .ref a4_])), (a2_, .inl (cI, 32, .inl (fun _ => 0)))]) [0, 1] (by decide) rfl
  refine W.widen (k := 0) (n := 0) (by omega) (by omega) ?_
  exact W.iret (v := 0) hx hb hr (fun t ht9 hW => ⟨⟨0, (), rfl, rfl, by rw [ht9]; exact hP9, hD9⟩, hS.F ht9⟩) hS.2.2 dX6_valueOf_9
set_option maxHeartbeats 4000000 in
set_option maxRecDepth 100000 in
/-- X11_register on a new object: it returns or throws -/
theorem c_X11_register (l : Launch) (dC : Nat → ClassId) (dI : Nat → Nat → Nat) (cI cB cZ cJ cR : ClassId) (tb : Nat → Nat) (hst : l.stackTraces = false) (sz : Nat) (h0 : Nat) (pa : Int32) (q1 : Nat) (q9 : Nat) (q18 : Nat) (q27 : Nat) (q42 : Nat) (q2 : Nat) (q45 : Nat) (q50 : Nat) (q5 : Nat) (q47 : Nat) (q48 : Nat) (q49 : Nat)  : vx_Met l yX11_register (Cond.code yX11_register cX11_register 2 (some .int) :: tw_W) ({ frames := 6, cells := 1, slots := 6, locals := 82 }) (pc_ (dC, dI) (tyS cI cB cZ cJ cR) tb [(h0, .inr (14, [.ref q1, .int 0, .ref q9, .ref q18, .ref q27, .ref q42, .int 0, .int (-1), .ref q2, .ref q45, .ref q50, .ref q5])), (q45, .inr (9, [.ref q47, .ref q48, .int 0, .int 0, .int 0, .int 0, .ref q49, .int 0, .ref q2])), (q48, .inl (cI, 32, .inl (fun _ => 0)))] sz [.ref h0, .int pa]) (qi_ (dC, dI) [(h0, .inr (14, [.ref q1, .int 0, .ref q9, .ref q18, .ref q27, .ref q42, .int 0, .int (-1), .ref q2, .ref q45, .ref q50, .ref q5])), (q45, .inr (9, [.ref q47, .ref q48, .int 0, .int 0, .int 0, .int 0, .ref q49, .int 0, .ref q2])), (q48, .inl (cI, 32, .inl (fun _ => 0)))] sz (fun (r : Int32) (u : Unit) => (¬ (pa < 0) ∧ pa ≤ 32 ∧ ¬ pa = 32 ∧ r = 0) ∨ (¬ (pa < 0) ∧ pa ≤ 32 ∧ pa = 32 ∧ r = 0)) (fun (u : Unit) => [])) (qx_ [(h0, .inr (14, [.ref q1, .int 0, .ref q9, .ref q18, .ref q27, .ref q42, .int 0, .int (-1), .ref q2, .ref q45, .ref q50, .ref q5])), (q45, .inr (9, [.ref q47, .ref q48, .int 0, .int 0, .int 0, .int 0, .ref q49, .int 0, .ref q2])), (q48, .inl (cI, 32, .inl (fun _ => 0)))] sz (fun E => (pa < 0 ∧ E = "java/lang/IndexOutOfBoundsException") ∨ (¬ (pa < 0) ∧ ¬ (pa ≤ 32) ∧ E = "java/lang/IndexOutOfBoundsException"))) 1 6 (va_A [(h0, .inr (14, [.ref q1, .int 0, .ref q9, .ref q18, .ref q27, .ref q42, .int 0, .int (-1), .ref q2, .ref q45, .ref q50, .ref q5])), (q45, .inr (9, [.ref q47, .ref q48, .int 0, .int 0, .int 0, .int 0, .ref q49, .int 0, .ref q2])), (q48, .inl (cI, 32, .inl (fun _ => 0)))] sz) := by
  refine vx_ofW (cc := cX11_register) (maxL := 2) (ret := (some .int)) (by decide) rfl ?_
  intro p e s m args below meth c s₁ B hml hnt hv
  obtain ⟨rfl, hsz, hP, hKK, hD0, hFx⟩ := hv
  have hK := hKK.1
  have hx := B.exec
  have hb := B.bytes
  have hr := B.returns
  have ht : ∀ w ∈ tw_W, w.before _ s = true := fun w h => atoms_spec (ws := Cond.code yX11_register cX11_register 2 (some .int) :: tw_W) B.pre w (List.mem_cons_of_mem _ h)
  have hown : s.vm.findClass RX11 = some m.cls := findClass_of_methodNamed B.named
  have hlocks := B.notSynchronized
  subst hsz
  unfold qi_ qx_
  have hD := hD0.self (sz := s.heap.size)
  generalize hAe : va_A [(h0, .inr (14, [.ref q1, .int 0, .ref q9, .ref q18, .ref q27, .ref q42, .int 0, .int (-1), .ref q2, .ref q45, .ref q50, .ref q5])), (q45, .inr (9, [.ref q47, .ref q48, .int 0, .int 0, .int 0, .int 0, .ref q49, .int 0, .ref q2])), (q48, .inl (cI, 32, .inl (fun _ => 0)))] s.heap.size = A at hD hFx ⊢
  have hA : ∀ q : Nat, s.heap.size ≤ q → A q := fun q h => by rw [← hAe]; exact Or.inr h
  have hS : va_S A s.heap s.heap [] := va_S.rf
  have hP : va_P (dC, dI) vwCl [(h0, .inr (14, [.ref q1, .int 0, .ref q9, .ref q18, .ref q27, .ref q42, .int 0, .int (-1), .ref q2, .ref q45, .ref q50, .ref q5])), (q45, .inr (9, [.ref q47, .ref q48, .int 0, .int 0, .int 0, .int 0, .ref q49, .int 0, .ref q2])), (q48, .inl (cI, 32, .inl (fun _ => 0)))] s.heap := hP
  have hl := lv_entry ([.ref h0, .int pa]) (n := 2) (Nat.le_of_ble_eq_true rfl)
  rw [lg_entry_eq]
  generalize (lg_sl ([.ref h0, .int pa]) ++ List.replicate (2 - (lg_sl ([.ref h0, .int pa])).length) Slot.unset).toArray = ls at hl ⊢
  have hl : lv_has ls 2 [(0, .ref h0), (1, .int pa)] := hl
  refine lv_iload_n hx hb dX11_register_0 rfl (lv_at hl 1 rfl) ?_
  refine lv_if_lt (tgt := 10) hx hb dX11_register_1 (by decide) (fun h1 => ?_) (fun h1 => ?_)
  · refine vx_throwS (names := ["java/lang/RuntimeException", "java/lang/Exception"]) (A := A) hx hb hst hown (by decide +kernel) (by decide +kernel) (ht _ tw_268) (ht _ tw_269) (st_ hKK 16 (own := RX11) (idx := 178) (tx := "no such register") (n := 16) rfl) (vx_hat (fun w h => ht w (xat_0 w h)) xat_0_n (vx_c (va_Nw.use rfl (hKK.2.2.2.2.2.1 _ (List.mem_of_getElem? (i := 0) rfl))) (vx_c (dcl_0 ht) (vx_c (dcl_1 ht) (vx_c (dcl_2 ht) vx_n))))) xat_0_o hFx.2.2.2.2.1 hFx.2.2.2.2.2.1 hS (by rw [hml]; exact hl.1) dX11_register_10 dX11_register_13 dX11_register_14 dX11_register_16 dX11_register_19 (fun x h9 => (hnt x h9).elim) (Nat.le_of_ble_eq_true rfl) (Nat.le_of_ble_eq_true rfl) (Nat.le_of_ble_eq_true rfl) (Nat.le_of_ble_eq_true rfl) hlocks (fun t9 hv9 hz9 hk9 => ⟨(), trivial, (Or.inl ⟨h1, rfl⟩), ⟨Nat.le_trans hS.1 hz9, fun q h1 h2 => (hk9 q (Nat.lt_of_lt_of_le h1 hS.1)).trans (hS.2.1 q h1 h2)⟩⟩) hS.2.2 (Nat.le_of_ble_eq_true rfl) (Nat.le_of_ble_eq_true rfl)
  · refine lv_iload_n hx hb dX11_register_4 rfl (lv_at hl 1 rfl) ?_
    refine lv_bipush (v := 32) hx hb dX11_register_5 (by decide) ?_
    refine lv_icmp_le (tgt := 20) hx hb dX11_register_7 (by decide) (fun h2 => ?_) (fun h2 => ?_)
    · refine lv_iload_n hx hb dX11_register_20 rfl (lv_at hl 1 rfl) ?_
      refine lv_bipush (v := 32) hx hb dX11_register_21 (by decide) ?_
      refine lv_icmp_ne (tgt := 36) hx hb dX11_register_23 (by decide) (fun h3 => ?_) (fun h3 => ?_)
      · refine lv_aload_n hx hb dX11_register_36 rfl (lv_at hl 0 rfl) ?_
        refine va_get (D := (dC, dI)) (ci := 14) (v := .ref q45) (C := RX11) (T := TX11) (N := 12) hx hb ht itX11 hown hK hP 0 rfl rfl 9 (by decide) (ht _ tw_140) (fun _ h9 => h9) rfl dX11_register_37 ?_
        refine lv_iload_n hx hb dX11_register_40 rfl (lv_at hl 1 rfl) ?_
        refine ca_i (wr := [(h0, .inr (14, [.ref q1, .int 0, .ref q9, .ref q18, .ref q27, .ref q42, .int 0, .int (-1), .ref q2, .ref q45, .ref q50, .ref q5]))]) (rn_V (n := 1) (As := [.int pa]) (rest := []) hx hb hml hown ht hKK hFx hP hD hS hA (c_X6_valueOf_2 l dC dI cI cB cZ cJ cR tb s.heap.size q45 pa q47 q48 q49 q2) tw_238 tw_272 (by decide +kernel) rfl rfl ⟨Nat.le_of_ble_eq_true rfl, Nat.le_of_ble_eq_true rfl⟩ [1, 2] rfl (by decide) rfl rfl rfl rfl hl.1 rfl (Nat.le_of_ble_eq_true rfl) dX11_register_41 ⟨Nat.le_of_ble_eq_true rfl, Nat.le_of_ble_eq_true rfl⟩) hP hD hS hA (isC := [1, 2]) (isR := [0]) rfl rfl (by decide) (by decide) (fun r5 u H locs hw4 hP hD hS => ?_)
        subst hw4
        have hP : va_P (dC, dI) vwCl [(h0, .inr (14, [.ref q1, .int 0, .ref q9, .ref q18, .ref q27, .ref q42, .int 0, .int (-1), .ref q2, .ref q45, .ref q50, .ref q5])), (q45, .inr (9, [.ref q47, .ref q48, .int 0, .int 0, .int 0, .int 0, .ref q49, .int 0, .ref q2])), (q48, .inl (cI, 32, .inl (fun _ => 0)))] H := hP
        have hD : va_D A [(h0, .inr (14, [.ref q1, .int 0, .ref q9, .ref q18, .ref q27, .ref q42, .int 0, .int (-1), .ref q2, .ref q45, .ref q50, .ref q5])), (q45, .inr (9, [.ref q47, .ref q48, .int 0, .int 0, .int 0, .int 0, .ref q49, .int 0, .ref q2])), (q48, .inl (cI, 32, .inl (fun _ => 0)))] := hD
        refine W.widen (k := 0) (n := 0) (by omega) (by omega) ?_
        have hP9 := hP.sub (ws' := []) [] rfl
        have hD9 := hD.sub (ws' := []) [] (by decide) rfl
        refine W.widen (k := 1) (n := 6) (by omega) (by omega) ?_
        refine vx_ret ?_
        exact W.iret (v := 0) hx hb hr (fun t ht9 hW => ⟨⟨0, (), rfl, (Or.inl ⟨h1, h2, h3, rfl⟩), by rw [ht9]; exact hP9, hD9⟩, hS.F ht9⟩) hS.2.2 dX11_register_44
      · refine lv_aload_n hx hb dX11_register_26 rfl (lv_at hl 0 rfl) ?_
        refine va_get (D := (dC, dI)) (ci := 14) (v := .ref q45) (C := RX11) (T := TX11) (N := 12) hx hb ht itX11 hown hK hP 0 rfl rfl 9 (by decide) (ht _ tw_140) (fun _ h9 => h9) rfl dX11_register_27 ?_
        refine va_getN (D := (dC, dI)) (ci := 9) (v := .int 0) (C := RX6) (T := TX6) (N := 9) hx hb ht itX6 hown hK hP 1 rfl rfl 2 (by decide) (hKK.fld 9 rfl) (fun _ h9 => h9) rfl dX11_register_30 ?_
        refine lv_goto (tgt := 44) hx hb dX11_register_33 (by decide) ?_
        have hP9 := hP.sub (ws' := []) [] rfl
        have hD9 := hD.sub (ws' := []) [] (by decide) rfl
        refine W.widen (k := 1) (n := 6) (by omega) (by omega) ?_
        refine vx_ret ?_
        exact W.iret (v := 0) hx hb hr (fun t ht9 hW => ⟨⟨0, (), rfl, (Or.inr (⟨h1, h2, h3, rfl⟩)), by rw [ht9]; exact hP9, hD9⟩, hS.F ht9⟩) hS.2.2 dX11_register_44
    · refine vx_throwS (names := ["java/lang/RuntimeException", "java/lang/Exception"]) (A := A) hx hb hst hown (by decide +kernel) (by decide +kernel) (ht _ tw_268) (ht _ tw_269) (st_ hKK 16 (own := RX11) (idx := 178) (tx := "no such register") (n := 16) rfl) (vx_hat (fun w h => ht w (xat_0 w h)) xat_0_n (vx_c (va_Nw.use rfl (hKK.2.2.2.2.2.1 _ (List.mem_of_getElem? (i := 0) rfl))) (vx_c (dcl_0 ht) (vx_c (dcl_1 ht) (vx_c (dcl_2 ht) vx_n))))) xat_0_o hFx.2.2.2.2.1 hFx.2.2.2.2.2.1 hS (by rw [hml]; exact hl.1) dX11_register_10 dX11_register_13 dX11_register_14 dX11_register_16 dX11_register_19 (fun x h9 => (hnt x h9).elim) (Nat.le_of_ble_eq_true rfl) (Nat.le_of_ble_eq_true rfl) (Nat.le_of_ble_eq_true rfl) (Nat.le_of_ble_eq_true rfl) hlocks (fun t9 hv9 hz9 hk9 => ⟨(), trivial, (Or.inr (⟨h1, h2, rfl⟩)), ⟨Nat.le_trans hS.1 hz9, fun q h1 h2 => (hk9 q (Nat.lt_of_lt_of_le h1 hS.1)).trans (hS.2.1 q h1 h2)⟩⟩) hS.2.2 (Nat.le_of_ble_eq_true rfl) (Nat.le_of_ble_eq_true rfl)
