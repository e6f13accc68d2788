theorem dX7_init_0 : decode cX7_init 0 = .ok (.aload_n 0, 1) := by decide +kernel
theorem dX7_init_1 : decode cX7_init 1 = .ok (.invokespecial 3, 3) := by decide +kernel
theorem tw_0 : (.methodLink RX7 3 objectInit : Cond) ∈ tw_W := tw_in (by decide +kernel) (by decide +kernel)
theorem tw_1 : (.instanceMethod objectInit : Cond) ∈ tw_W := tw_in (by decide +kernel) (by decide +kernel)
theorem tw_2 : (.code objectInit ⟨#[0xb1]⟩ 1 none : Cond) ∈ tw_W := tw_in (by decide +kernel) (by decide +kernel)
theorem dX7_init_4 : decode cX7_init 4 = .ok (.aload_n 0, 1) := by decide +kernel
theorem dX7_init_5 : decode cX7_init 5 = .ok (.sipush 4000, 3) := by decide +kernel
theorem dX7_init_8 : decode cX7_init 8 = .ok (.newarray .int, 2) := by decide +kernel
theorem tw_3 : (.arrayClass .int : Cond) ∈ tw_W := tw_in (by decide +kernel) (by decide +kernel)
theorem dX7_init_10 : decode cX7_init 10 = .ok (.putfield 9, 3) := by decide +kernel
theorem tw_4 : (.fieldLink RX7 9 "PocketCompiler$Program" "text" "[I" : Cond) ∈ tw_W := tw_in (by decide +kernel) (by decide +kernel)
theorem itX7 : ∀ w ∈ wsX70, w ∈ tw_W := tw_all (by decide +kernel)
theorem dX7_init_13 : decode cX7_init 13 = .ok (.aload_n 0, 1) := by decide +kernel
theorem dX7_init_14 : decode cX7_init 14 = .ok (.bipush 40, 2) := by decide +kernel
theorem dX7_init_16 : decode cX7_init 16 = .ok (.bipush 6, 2) := by decide +kernel
theorem dX7_init_18 : decode cX7_init 18 = .ok (.multianewarray 15 2, 4) := by decide +kernel
theorem tw_5 : (.classLink RX7 15 "[[I" : Cond) ∈ tw_W := tw_in (by decide +kernel) (by decide +kernel)
theorem dX7_init_22 : decode cX7_init 22 = .ok (.putfield 17, 3) := by decide +kernel
theorem tw_6 : (.fieldLink RX7 17 "PocketCompiler$Program" "functions" "[[I" : Cond) ∈ tw_W := tw_in (by decide +kernel) (by decide +kernel)
theorem dX7_init_25 : decode cX7_init 25 = .ok (.aload_n 0, 1) := by decide +kernel
theorem dX7_init_26 : decode cX7_init 26 = .ok (.bipush 60, 2) := by decide +kernel
theorem dX7_init_28 : decode cX7_init 28 = .ok (.iconst 5, 1) := by decide +kernel
theorem dX7_init_29 : decode cX7_init 29 = .ok (.multianewarray 15 2, 4) := by decide +kernel
theorem dX7_init_33 : decode cX7_init 33 = .ok (.putfield 20, 3) := by decide +kernel
theorem tw_7 : (.fieldLink RX7 20 "PocketCompiler$Program" "globals" "[[I" : Cond) ∈ tw_W := tw_in (by decide +kernel) (by decide +kernel)
theorem dX7_init_36 : decode cX7_init 36 = .ok (.aload_n 0, 1) := by decide +kernel
theorem dX7_init_37 : decode cX7_init 37 = .ok (.sipush 3008, 3) := by decide +kernel
theorem dX7_init_40 : decode cX7_init 40 = .ok (.newarray .int, 2) := by decide +kernel
theorem dX7_init_42 : decode cX7_init 42 = .ok (.putfield 23, 3) := by decide +kernel
theorem tw_8 : (.fieldLink RX7 23 "PocketCompiler$Program" "deeds" "[I" : Cond) ∈ tw_W := tw_in (by decide +kernel) (by decide +kernel)
theorem dX7_init_45 : decode cX7_init 45 = .ok (.aload_n 0, 1) := by decide +kernel
theorem dX7_init_46 : decode cX7_init 46 = .ok (.sipush 3008, 3) := by decide +kernel
theorem dX7_init_49 : decode cX7_init 49 = .ok (.newarray .int, 2) := by decide +kernel
theorem dX7_init_51 : decode cX7_init 51 = .ok (.putfield 26, 3) := by decide +kernel
theorem tw_9 : (.fieldLink RX7 26 "PocketCompiler$Program" "xs" "[I" : Cond) ∈ tw_W := tw_in (by decide +kernel) (by decide +kernel)
theorem dX7_init_54 : decode cX7_init 54 = .ok (.aload_n 0, 1) := by decide +kernel
theorem dX7_init_55 : decode cX7_init 55 = .ok (.sipush 3008, 3) := by decide +kernel
theorem dX7_init_58 : decode cX7_init 58 = .ok (.newarray .int, 2) := by decide +kernel
theorem dX7_init_60 : decode cX7_init 60 = .ok (.putfield 29, 3) := by decide +kernel
theorem tw_10 : (.fieldLink RX7 29 "PocketCompiler$Program" "ys" "[I" : Cond) ∈ tw_W := tw_in (by decide +kernel) (by decide +kernel)
theorem dX7_init_63 : decode cX7_init 63 = .ok (.aload_n 0, 1) := by decide +kernel
theorem dX7_init_64 : decode cX7_init 64 = .ok (.iload_n 1, 1) := by decide +kernel
theorem dX7_init_65 : decode cX7_init 65 = .ok (.newarray .int, 2) := by decide +kernel
theorem dX7_init_67 : decode cX7_init 67 = .ok (.putfield 32, 3) := by decide +kernel
theorem tw_11 : (.fieldLink RX7 32 "PocketCompiler$Program" "words" "[I" : Cond) ∈ tw_W := tw_in (by decide +kernel) (by decide +kernel)
theorem dX7_init_70 : decode cX7_init 70 = .ok (.return_, 1) := by decide +kernel
theorem dX9_init_0 : decode cX9_init 0 = .ok (.aload_n 0, 1) := by decide +kernel
theorem dX9_init_1 : decode cX9_init 1 = .ok (.invokespecial 5, 3) := by decide +kernel
theorem tw_12 : (.methodLink RX9 5 objectInit : Cond) ∈ tw_W := tw_in (by decide +kernel) (by decide +kernel)
theorem dX9_init_4 : decode cX9_init 4 = .ok (.aload_n 0, 1) := by decide +kernel
theorem dX9_init_5 : decode cX9_init 5 = .ok (.sipush 1503, 3) := by decide +kernel
theorem dX9_init_8 : decode cX9_init 8 = .ok (.newarray .int, 2) := by decide +kernel
theorem dX9_init_10 : decode cX9_init 10 = .ok (.putfield 11, 3) := by decide +kernel
theorem tw_13 : (.fieldLink RX9 11 "PocketCompiler$Tokens" "kinds" "[I" : Cond) ∈ tw_W := tw_in (by decide +kernel) (by decide +kernel)
theorem itX9 : ∀ w ∈ wsX90, w ∈ tw_W := tw_all (by decide +kernel)
theorem dX9_init_13 : decode cX9_init 13 = .ok (.aload_n 0, 1) := by decide +kernel
theorem dX9_init_14 : decode cX9_init 14 = .ok (.sipush 1503, 3) := by decide +kernel
theorem dX9_init_17 : decode cX9_init 17 = .ok (.newarray .int, 2) := by decide +kernel
theorem dX9_init_19 : decode cX9_init 19 = .ok (.putfield 15, 3) := by decide +kernel
theorem tw_14 : (.fieldLink RX9 15 "PocketCompiler$Tokens" "places" "[I" : Cond) ∈ tw_W := tw_in (by decide +kernel) (by decide +kernel)
theorem dX9_init_22 : decode cX9_init 22 = .ok (.aload_n 0, 1) := by decide +kernel
theorem dX9_init_23 : decode cX9_init 23 = .ok (.sipush 1503, 3) := by decide +kernel
theorem dX9_init_26 : decode cX9_init 26 = .ok (.newarray .int, 2) := by decide +kernel
theorem dX9_init_28 : decode cX9_init 28 = .ok (.putfield 18, 3) := by decide +kernel
theorem tw_15 : (.fieldLink RX9 18 "PocketCompiler$Tokens" "values" "[I" : Cond) ∈ tw_W := tw_in (by decide +kernel) (by decide +kernel)
theorem dX9_init_31 : decode cX9_init 31 = .ok (.aload_n 0, 1) := by decide +kernel
theorem dX9_init_32 : decode cX9_init 32 = .ok (.aload_n 1, 1) := by decide +kernel
theorem dX9_init_33 : decode cX9_init 33 = .ok (.putfield 21, 3) := by decide +kernel
theorem tw_16 : (.fieldLink RX9 21 "PocketCompiler$Tokens" "source" "LPocketCompiler$Program;" : Cond) ∈ tw_W := tw_in (by decide +kernel) (by decide +kernel)
theorem dX9_init_36 : decode cX9_init 36 = .ok (.return_, 1) := by decide +kernel
theorem dX3_init_0 : decode cX3_init 0 = .ok (.aload_n 0, 1) := by decide +kernel
theorem dX3_init_1 : decode cX3_init 1 = .ok (.invokespecial 3, 3) := by decide +kernel
theorem tw_17 : (.methodLink RX3 3 objectInit : Cond) ∈ tw_W := tw_in (by decide +kernel) (by decide +kernel)
theorem dX3_init_4 : decode cX3_init 4 = .ok (.aload_n 0, 1) := by decide +kernel
theorem dX3_init_5 : decode cX3_init 5 = .ok (.bipush 64, 2) := by decide +kernel
theorem dX3_init_7 : decode cX3_init 7 = .ok (.newarray .int, 2) := by decide +kernel
theorem dX3_init_9 : decode cX3_init 9 = .ok (.putfield 11, 3) := by decide +kernel
theorem tw_18 : (.fieldLink RX3 11 "PocketCompiler$Gifts" "numbers" "[I" : Cond) ∈ tw_W := tw_in (by decide +kernel) (by decide +kernel)
theorem itX3 : ∀ w ∈ wsX30, w ∈ tw_W := tw_all (by decide +kernel)
theorem dX3_init_12 : decode cX3_init 12 = .ok (.return_, 1) := by decide +kernel
set_option maxHeartbeats 4000000 in
set_option maxRecDepth 100000 in
/-- Program(N) -/
theorem c_X7_init (l : Launch) (dC : Nat → ClassId) (dI : Nat → Nat → Nat) (cI cB cZ cJ cR : ClassId) (sz : Nat) (h0 : Nat) (N : Nat) (hf_N_0 : 256 ≤ N) (hf_N_1 : N ≤ 4096) : Met l yX7_init (Cond.code yX7_init cX7_init 2 none :: tw_W) ({ frames := 1, cells := 107, slots := 17760, locals := 12 }) (pc_ (dC, dI) (tyS cI cB cZ cJ cR) [(h0, .inr (10, [.null, .int 0, .null, .int 0, .null, .int 0, .null, .null, .null, .int 0, .null, .int 0, .int 0]))] sz [.ref h0, .int (nI N)]) (qv_ (dC, dI) [(h0, .inr (10, [.null, .int 0, .null, .int 0, .null, .int 0, .null, .null, .null, .int 0, .null, .int 0, .int 0]))] sz (fun (u : Nat × Nat × Nat × Nat × Nat × Nat × Nat) => True) (fun (u : Nat × Nat × Nat × Nat × Nat × Nat × Nat) => [(h0, .inr (10, [.ref u.1, .int 0, .ref u.2.1, .int 0, .ref u.2.2.1, .int 0, .ref u.2.2.2.1, .ref u.2.2.2.2.1, .ref u.2.2.2.2.2.1, .int 0, .ref u.2.2.2.2.2.2, .int 0, .int 0])), (u.1, .inl (cI, 4000, .inl (fun _ => 0))), (u.2.2.2.2.2.2, .inl (cI, N, .inl (fun _ => 0)))])) 107 17760 (va_A [(h0, .inr (10, [.null, .int 0, .null, .int 0, .null, .int 0, .null, .null, .null, .int 0, .null, .int 0, .int 0]))] sz) := by
  refine Met.ofW (cc := cX7_init) (maxL := 2) (ret := none) (by decide) rfl ?_
  intro p e s m args below meth c s₁ B hml hv
  obtain ⟨rfl, hsz, hP, hKK, hD0⟩ := hv
  have hK := hKK.1
  have hx := B.exec
  have hb := B.bytes
  have hr := B.returns
  have ht : ∀ w ∈ tw_W, w.before _ s = true := fun w h => atoms_spec (ws := Cond.code yX7_init cX7_init 2 none :: tw_W) B.pre w (List.mem_cons_of_mem _ h)
  have hown : s.vm.findClass RX7 = some m.cls := findClass_of_methodNamed B.named
  have hlocks := B.notSynchronized
  have hin : meth.name = "<init>" := (name_of_methodNamed B.named B.method).1
  subst hsz
  unfold qv_
  have hD := hD0.self (sz := s.heap.size)
  generalize hAe : va_A [(h0, .inr (10, [.null, .int 0, .null, .int 0, .null, .int 0, .null, .null, .null, .int 0, .null, .int 0, .int 0]))] s.heap.size = A at hD ⊢
  have hA : ∀ q : Nat, s.heap.size ≤ q → A q := fun q h => by rw [← hAe]; exact Or.inr h
  have hS : va_S A s.heap s.heap [] := va_S.rf
  have hP : va_P (dC, dI) vwCl [(h0, .inr (10, [.null, .int 0, .null, .int 0, .null, .int 0, .null, .null, .null, .int 0, .null, .int 0, .int 0]))] s.heap := hP
  have hl := lv_entry ([.ref h0, .int (nI N)]) (n := 2) (Nat.le_of_ble_eq_true rfl)
  rw [lg_entry_eq]
  generalize (lg_sl ([.ref h0, .int (nI N)]) ++ List.replicate (2 - (lg_sl ([.ref h0, .int (nI N)])).length) Slot.unset).toArray = ls at hl ⊢
  have hl : lv_has ls 2 [(0, .ref h0), (1, .int (nI N))] := hl
  refine lv_aload_n hx hb dX7_init_0 rfl (lv_at hl 0 rfl) ?_
  refine W.objInit hx hb hown (ht _ tw_0) (ht _ tw_1) (ht _ tw_2) rfl (by rw [hml]; exact hl.1) rfl dX7_init_1 (Nat.le_of_ble_eq_true rfl) (Nat.le_of_ble_eq_true rfl) ?_
  refine W.eq (g2 := F0 m 4 ls []) rfl ?_
  refine lv_aload_n hx hb dX7_init_4 rfl (lv_at hl 0 rfl) ?_
  refine lv_sipush (v := 4000) hx hb dX7_init_5 (by decide) ?_
  refine va_newE (atype := .int) (ty := .int) (a0 := (4000, .inl (fun _ => 0))) (cE := cI) hx hb (ht _ tw_3) rfl hK hP hD hS hA 0 rfl (fun _ => rfl) (by decide) (by decide) (by decide) (Nat.le_of_ble_eq_true rfl) (Nat.le_of_ble_eq_true rfl) dX7_init_8 (fun q1 H hP hD hS => ?_)
  have hP : va_P (dC, dI) vwCl [(h0, .inr (10, [.null, .int 0, .null, .int 0, .null, .int 0, .null, .null, .null, .int 0, .null, .int 0, .int 0])), (q1, .inl (cI, 4000, .inl (fun _ => 0)))] H := hP
  have hD : va_D A [(h0, .inr (10, [.null, .int 0, .null, .int 0, .null, .int 0, .null, .null, .null, .int 0, .null, .int 0, .int 0])), (q1, .inl (cI, 4000, .inl (fun _ => 0)))] := hD
  refine W.widen (k := 1) (n := 4000) (by omega) (by omega) ?_
  refine va_putF (D := (dC, dI)) (ci := 10) (v := .ref q1) (ty := .array .int) (C := RX7) (T := TX7) (N := 13) hx hb ht itX7 tyX7 tyX7_ok nmX7 hown hK hP hD hS 0 rfl rfl 0 (by decide) (ht _ tw_4) (fun _ h9 => h9) rfl hin rfl (by decide +kernel) rfl rfl (Nat.le_of_ble_eq_true rfl) dX7_init_10 (fun H locs hP hD hS => ?_)
  have hP : va_P (dC, dI) vwCl [(h0, .inr (10, [.ref q1, .int 0, .null, .int 0, .null, .int 0, .null, .null, .null, .int 0, .null, .int 0, .int 0])), (q1, .inl (cI, 4000, .inl (fun _ => 0)))] H := hP
  have hD : va_D A [(h0, .inr (10, [.ref q1, .int 0, .null, .int 0, .null, .int 0, .null, .null, .null, .int 0, .null, .int 0, .int 0])), (q1, .inl (cI, 4000, .inl (fun _ => 0)))] := hD
  refine lv_aload_n hx hb dX7_init_13 rfl (lv_at hl 0 rfl) ?_
  refine lv_bipush (v := 40) hx hb dX7_init_14 (by decide) ?_
  refine lv_bipush (v := 6) hx hb dX7_init_16 (by decide) ?_
  refine va_mnD (N' := 40) (K' := 6) hx hb hown (ht _ tw_5) (ht _ tw_3) hKK 0 rfl hP hD hS hA (by decide) (by decide) (by decide) (by decide) (by decide) (by decide) (Nat.le_of_ble_eq_true rfl) (Nat.le_of_ble_eq_true rfl) dX7_init_18 (fun q2 H hP hD hS => ?_)
  refine W.widen (k := 42) (n := 4280) (by omega) (by omega) ?_
  refine va_putF (D := (dC, dI)) (ci := 10) (v := .ref q2) (ty := .array (.array .int)) (C := RX7) (T := TX7) (N := 13) hx hb ht itX7 tyX7 tyX7_ok nmX7 hown hK hP hD hS 0 rfl rfl 2 (by decide) (ht _ tw_6) (fun _ h9 => h9) rfl hin rfl (by decide +kernel) rfl rfl (Nat.le_of_ble_eq_true rfl) dX7_init_22 (fun H locs hP hD hS => ?_)
  have hP : va_P (dC, dI) vwCl [(h0, .inr (10, [.ref q1, .int 0, .ref q2, .int 0, .null, .int 0, .null, .null, .null, .int 0, .null, .int 0, .int 0])), (q1, .inl (cI, 4000, .inl (fun _ => 0)))] H := hP
  have hD : va_D A [(h0, .inr (10, [.ref q1, .int 0, .ref q2, .int 0, .null, .int 0, .null, .null, .null, .int 0, .null, .int 0, .int 0])), (q1, .inl (cI, 4000, .inl (fun _ => 0)))] := hD
  refine lv_aload_n hx hb dX7_init_25 rfl (lv_at hl 0 rfl) ?_
  refine lv_bipush (v := 60) hx hb dX7_init_26 (by decide) ?_
  refine lv_iconst (v := 5) hx hb dX7_init_28 (by decide) ?_
  refine va_mnD (N' := 60) (K' := 5) hx hb hown (ht _ tw_5) (ht _ tw_3) hKK 0 rfl hP hD hS hA (by decide) (by decide) (by decide) (by decide) (by decide) (by decide) (Nat.le_of_ble_eq_true rfl) (Nat.le_of_ble_eq_true rfl) dX7_init_29 (fun q3 H hP hD hS => ?_)
  refine W.widen (k := 103) (n := 4640) (by omega) (by omega) ?_
  refine va_putF (D := (dC, dI)) (ci := 10) (v := .ref q3) (ty := .array (.array .int)) (C := RX7) (T := TX7) (N := 13) hx hb ht itX7 tyX7 tyX7_ok nmX7 hown hK hP hD hS 0 rfl rfl 4 (by decide) (ht _ tw_7) (fun _ h9 => h9) rfl hin rfl (by decide +kernel) rfl rfl (Nat.le_of_ble_eq_true rfl) dX7_init_33 (fun H locs hP hD hS => ?_)
  have hP : va_P (dC, dI) vwCl [(h0, .inr (10, [.ref q1, .int 0, .ref q2, .int 0, .ref q3, .int 0, .null, .null, .null, .int 0, .null, .int 0, .int 0])), (q1, .inl (cI, 4000, .inl (fun _ => 0)))] H := hP
  have hD : va_D A [(h0, .inr (10, [.ref q1, .int 0, .ref q2, .int 0, .ref q3, .int 0, .null, .null, .null, .int 0, .null, .int 0, .int 0])), (q1, .inl (cI, 4000, .inl (fun _ => 0)))] := hD
  refine lv_aload_n hx hb dX7_init_36 rfl (lv_at hl 0 rfl) ?_
  refine lv_sipush (v := 3008) hx hb dX7_init_37 (by decide) ?_
  refine va_newE (atype := .int) (ty := .int) (a0 := (3008, .inl (fun _ => 0))) (cE := cI) hx hb (ht _ tw_3) rfl hK hP hD hS hA 0 rfl (fun _ => rfl) (by decide) (by decide) (by decide) (Nat.le_of_ble_eq_true rfl) (Nat.le_of_ble_eq_true rfl) dX7_init_40 (fun q4 H hP hD hS => ?_)
  have hP : va_P (dC, dI) vwCl [(h0, .inr (10, [.ref q1, .int 0, .ref q2, .int 0, .ref q3, .int 0, .null, .null, .null, .int 0, .null, .int 0, .int 0])), (q1, .inl (cI, 4000, .inl (fun _ => 0))), (q4, .inl (cI, 3008, .inl (fun _ => 0)))] H := hP
  have hD : va_D A [(h0, .inr (10, [.ref q1, .int 0, .ref q2, .int 0, .ref q3, .int 0, .null, .null, .null, .int 0, .null, .int 0, .int 0])), (q1, .inl (cI, 4000, .inl (fun _ => 0))), (q4, .inl (cI, 3008, .inl (fun _ => 0)))] := hD
  refine W.widen (k := 104) (n := 7648) (by omega) (by omega) ?_
  refine va_putF (D := (dC, dI)) (ci := 10) (v := .ref q4) (ty := .array .int) (C := RX7) (T := TX7) (N := 13) hx hb ht itX7 tyX7 tyX7_ok nmX7 hown hK hP hD hS 0 rfl rfl 6 (by decide) (ht _ tw_8) (fun _ h9 => h9) rfl hin rfl (by decide +kernel) rfl rfl (Nat.le_of_ble_eq_true rfl) dX7_init_42 (fun H locs hP hD hS => ?_)
  have hP : va_P (dC, dI) vwCl [(h0, .inr (10, [.ref q1, .int 0, .ref q2, .int 0, .ref q3, .int 0, .ref q4, .null, .null, .int 0, .null, .int 0, .int 0])), (q1, .inl (cI, 4000, .inl (fun _ => 0))), (q4, .inl (cI, 3008, .inl (fun _ => 0)))] H := hP
  have hD : va_D A [(h0, .inr (10, [.ref q1, .int 0, .ref q2, .int 0, .ref q3, .int 0, .ref q4, .null, .null, .int 0, .null, .int 0, .int 0])), (q1, .inl (cI, 4000, .inl (fun _ => 0))), (q4, .inl (cI, 3008, .inl (fun _ => 0)))] := hD
  refine lv_aload_n hx hb dX7_init_45 rfl (lv_at hl 0 rfl) ?_
  refine lv_sipush (v := 3008) hx hb dX7_init_46 (by decide) ?_
  refine va_newE (atype := .int) (ty := .int) (a0 := (3008, .inl (fun _ => 0))) (cE := cI) hx hb (ht _ tw_3) rfl hK hP hD hS hA 0 rfl (fun _ => rfl) (by decide) (by decide) (by decide) (Nat.le_of_ble_eq_true rfl) (Nat.le_of_ble_eq_true rfl) dX7_init_49 (fun q5 H hP hD hS => ?_)
  have hP : va_P (dC, dI) vwCl [(h0, .inr (10, [.ref q1, .int 0, .ref q2, .int 0, .ref q3, .int 0, .ref q4, .null, .null, .int 0, .null, .int 0, .int 0])), (q1, .inl (cI, 4000, .inl (fun _ => 0))), (q4, .inl (cI, 3008, .inl (fun _ => 0))), (q5, .inl (cI, 3008, .inl (fun _ => 0)))] H := hP
  have hD : va_D A [(h0, .inr (10, [.ref q1, .int 0, .ref q2, .int 0, .ref q3, .int 0, .ref q4, .null, .null, .int 0, .null, .int 0, .int 0])), (q1, .inl (cI, 4000, .inl (fun _ => 0))), (q4, .inl (cI, 3008, .inl (fun _ => 0))), (q5, .inl (cI, 3008, .inl (fun _ => 0)))] := hD
  refine W.widen (k := 105) (n := 10656) (by omega) (by omega) ?_
  refine va_putF (D := (dC, dI)) (ci := 10) (v := .ref q5) (ty := .array .int) (C := RX7) (T := TX7) (N := 13) hx hb ht itX7 tyX7 tyX7_ok nmX7 hown hK hP hD hS 0 rfl rfl 7 (by decide) (ht _ tw_9) (fun _ h9 => h9) rfl hin rfl (by decide +kernel) rfl rfl (Nat.le_of_ble_eq_true rfl) dX7_init_51 (fun H locs hP hD hS => ?_)
  have hP : va_P (dC, dI) vwCl [(h0, .inr (10, [.ref q1, .int 0, .ref q2, .int 0, .ref q3, .int 0, .ref q4, .ref q5, .null, .int 0, .null, .int 0, .int 0])), (q1, .inl (cI, 4000, .inl (fun _ => 0))), (q4, .inl (cI, 3008, .inl (fun _ => 0))), (q5, .inl (cI, 3008, .inl (fun _ => 0)))] H := hP
  have hD : va_D A [(h0, .inr (10, [.ref q1, .int 0, .ref q2, .int 0, .ref q3, .int 0, .ref q4, .ref q5, .null, .int 0, .null, .int 0, .int 0])), (q1, .inl (cI, 4000, .inl (fun _ => 0))), (q4, .inl (cI, 3008, .inl (fun _ => 0))), (q5, .inl (cI, 3008, .inl (fun _ => 0)))] := hD
  refine lv_aload_n hx hb dX7_init_54 rfl (lv_at hl 0 rfl) ?_
  refine lv_sipush (v := 3008) hx hb dX7_init_55 (by decide) ?_
  refine va_newE (atype := .int) (ty := .int) (a0 := (3008, .inl (fun _ => 0))) (cE := cI) hx hb (ht _ tw_3) rfl hK hP hD hS hA 0 rfl (fun _ => rfl) (by decide) (by decide) (by decide) (Nat.le_of_ble_eq_true rfl) (Nat.le_of_ble_eq_true rfl) dX7_init_58 (fun q6 H hP hD hS => ?_)
  have hP : va_P (dC, dI) vwCl [(h0, .inr (10, [.ref q1, .int 0, .ref q2, .int 0, .ref q3, .int 0, .ref q4, .ref q5, .null, .int 0, .null, .int 0, .int 0])), (q1, .inl (cI, 4000, .inl (fun _ => 0))), (q4, .inl (cI, 3008, .inl (fun _ => 0))), (q5, .inl (cI, 3008, .inl (fun _ => 0))), (q6, .inl (cI, 3008, .inl (fun _ => 0)))] H := hP
  have hD : va_D A [(h0, .inr (10, [.ref q1, .int 0, .ref q2, .int 0, .ref q3, .int 0, .ref q4, .ref q5, .null, .int 0, .null, .int 0, .int 0])), (q1, .inl (cI, 4000, .inl (fun _ => 0))), (q4, .inl (cI, 3008, .inl (fun _ => 0))), (q5, .inl (cI, 3008, .inl (fun _ => 0))), (q6, .inl (cI, 3008, .inl (fun _ => 0)))] := hD
  refine W.widen (k := 106) (n := 13664) (by omega) (by omega) ?_
  refine va_putF (D := (dC, dI)) (ci := 10) (v := .ref q6) (ty := .array .int) (C := RX7) (T := TX7) (N := 13) hx hb ht itX7 tyX7 tyX7_ok nmX7 hown hK hP hD hS 0 rfl rfl 8 (by decide) (ht _ tw_10) (fun _ h9 => h9) rfl hin rfl (by decide +kernel) rfl rfl (Nat.le_of_ble_eq_true rfl) dX7_init_60 (fun H locs hP hD hS => ?_)
  have hP : va_P (dC, dI) vwCl [(h0, .inr (10, [.ref q1, .int 0, .ref q2, .int 0, .ref q3, .int 0, .ref q4, .ref q5, .ref q6, .int 0, .null, .int 0, .int 0])), (q1, .inl (cI, 4000, .inl (fun _ => 0))), (q4, .inl (cI, 3008, .inl (fun _ => 0))), (q5, .inl (cI, 3008, .inl (fun _ => 0))), (q6, .inl (cI, 3008, .inl (fun _ => 0)))] H := hP
  have hD : va_D A [(h0, .inr (10, [.ref q1, .int 0, .ref q2, .int 0, .ref q3, .int 0, .ref q4, .ref q5, .ref q6, .int 0, .null, .int 0, .int 0])), (q1, .inl (cI, 4000, .inl (fun _ => 0))), (q4, .inl (cI, 3008, .inl (fun _ => 0))), (q5, .inl (cI, 3008, .inl (fun _ => 0))), (q6, .inl (cI, 3008, .inl (fun _ => 0)))] := hD
  refine lv_aload_n hx hb dX7_init_63 rfl (lv_at hl 0 rfl) ?_
  refine lv_iload_n hx hb dX7_init_64 rfl (lv_at hl 1 rfl) ?_
  refine va_newE (atype := .int) (ty := .int) (a0 := (N, .inl (fun _ => 0))) (cE := cI) hx hb (ht _ tw_3) rfl hK hP hD hS hA 0 rfl (fun _ => rfl) (nI_pos (by omega)) (nI_clamp (by omega)) (show N * 4 ≤ 536870912 by omega) (Nat.le_of_ble_eq_true rfl) (show 13664 + N ≤ 17760 by omega) dX7_init_65 (fun q7 H hP hD hS => ?_)
  have hP : va_P (dC, dI) vwCl [(h0, .inr (10, [.ref q1, .int 0, .ref q2, .int 0, .ref q3, .int 0, .ref q4, .ref q5, .ref q6, .int 0, .null, .int 0, .int 0])), (q1, .inl (cI, 4000, .inl (fun _ => 0))), (q4, .inl (cI, 3008, .inl (fun _ => 0))), (q5, .inl (cI, 3008, .inl (fun _ => 0))), (q6, .inl (cI, 3008, .inl (fun _ => 0))), (q7, .inl (cI, N, .inl (fun _ => 0)))] H := hP
  have hD : va_D A [(h0, .inr (10, [.ref q1, .int 0, .ref q2, .int 0, .ref q3, .int 0, .ref q4, .ref q5, .ref q6, .int 0, .null, .int 0, .int 0])), (q1, .inl (cI, 4000, .inl (fun _ => 0))), (q4, .inl (cI, 3008, .inl (fun _ => 0))), (q5, .inl (cI, 3008, .inl (fun _ => 0))), (q6, .inl (cI, 3008, .inl (fun _ => 0))), (q7, .inl (cI, N, .inl (fun _ => 0)))] := hD
  refine W.widen (k := 107) (n := 17760) (by omega) (by omega) ?_
  refine va_putF (D := (dC, dI)) (ci := 10) (v := .ref q7) (ty := .array .int) (C := RX7) (T := TX7) (N := 13) hx hb ht itX7 tyX7 tyX7_ok nmX7 hown hK hP hD hS 0 rfl rfl 10 (by decide) (ht _ tw_11) (fun _ h9 => h9) rfl hin rfl (by decide +kernel) rfl rfl (Nat.le_of_ble_eq_true rfl) dX7_init_67 (fun H locs hP hD hS => ?_)
  have hP : va_P (dC, dI) vwCl [(h0, .inr (10, [.ref q1, .int 0, .ref q2, .int 0, .ref q3, .int 0, .ref q4, .ref q5, .ref q6, .int 0, .ref q7, .int 0, .int 0])), (q1, .inl (cI, 4000, .inl (fun _ => 0))), (q4, .inl (cI, 3008, .inl (fun _ => 0))), (q5, .inl (cI, 3008, .inl (fun _ => 0))), (q6, .inl (cI, 3008, .inl (fun _ => 0))), (q7, .inl (cI, N, .inl (fun _ => 0)))] H := hP
  have hD : va_D A [(h0, .inr (10, [.ref q1, .int 0, .ref q2, .int 0, .ref q3, .int 0, .ref q4, .ref q5, .ref q6, .int 0, .ref q7, .int 0, .int 0])), (q1, .inl (cI, 4000, .inl (fun _ => 0))), (q4, .inl (cI, 3008, .inl (fun _ => 0))), (q5, .inl (cI, 3008, .inl (fun _ => 0))), (q6, .inl (cI, 3008, .inl (fun _ => 0))), (q7, .inl (cI, N, .inl (fun _ => 0)))] := hD
  have hP9 := hP.sub (ws' := [(h0, .inr (10, [.ref q1, .int 0, .ref q2, .int 0, .ref q3, .int 0, .ref q4, .ref q5, .ref q6, .int 0, .ref q7, .int 0, .int 0])), (q1, .inl (cI, 4000, .inl (fun _ => 0))), (q7, .inl (cI, N, .inl (fun _ => 0)))]) [0, 1, 5] rfl
  have hD9 := hD.sub (ws' := [(h0, .inr (10, [.ref q1, .int 0, .ref q2, .int 0, .ref q3, .int 0, .ref q4, .ref q5, .ref q6, .int 0, .ref q7, .int 0, .int 0])), (q1, .inl (cI, 4000, .inl (fun _ => 0))), (q7, .inl (cI, N, .inl (fun _ => 0)))]) [0, 1, 5] (by decide) rfl
  refine W.widen (k := 107) (n := 17760) (by omega) (by omega) ?_
  exact W.vret hx hb hr (fun t ht9 hW => ⟨⟨(q1, q2, q3, q4, q5, q6, q7), rfl, trivial, by rw [ht9]; exact hP9, hD9⟩, hS.F ht9⟩) hS.2.2 dX7_init_70
set_option maxHeartbeats 4000000 in
set_option maxRecDepth 100000 in
/-- Tokens -/
theorem c_X9_init (l : Launch) (dC : Nat → ClassId) (dI : Nat → Nat → Nat) (cI cB cZ cJ cR : ClassId) (sz : Nat) (h0 : Nat) (h1 : Nat)  : Met l yX9_init (Cond.code yX9_init cX9_init 2 none :: tw_W) ({ frames := 1, cells := 3, slots := 4509, locals := 12 }) (pc_ (dC, dI) (tyS cI cB cZ cJ cR) [(h0, .inr (12, [.null, .null, .null, .null, .int 0, .int 0, .int 0, .int 0, .int 0, .int 0]))] sz [.ref h0, .ref h1]) (qv_ (dC, dI) [(h0, .inr (12, [.null, .null, .null, .null, .int 0, .int 0, .int 0, .int 0, .int 0, .int 0]))] sz (fun (u : Nat × Nat × Nat) => True) (fun (u : Nat × Nat × Nat) => [(h0, .inr (12, [.ref h1, .ref u.1, .ref u.2.1, .ref u.2.2, .int 0, .int 0, .int 0, .int 0, .int 0, .int 0])), (u.1, .inl (cI, 1503, .inl (fun _ => 0))), (u.2.1, .inl (cI, 1503, .inl (fun _ => 0))), (u.2.2, .inl (cI, 1503, .inl (fun _ => 0)))])) 3 4509 (va_A [(h0, .inr (12, [.null, .null, .null, .null, .int 0, .int 0, .int 0, .int 0, .int 0, .int 0]))] sz) := by
  refine Met.ofW (cc := cX9_init) (maxL := 2) (ret := none) (by decide) rfl ?_
  intro p e s m args below meth c s₁ B hml hv
  obtain ⟨rfl, hsz, hP, hKK, hD0⟩ := hv
  have hK := hKK.1
  have hx := B.exec
  have hb := B.bytes
  have hr := B.returns
  have ht : ∀ w ∈ tw_W, w.before _ s = true := fun w h => atoms_spec (ws := Cond.code yX9_init cX9_init 2 none :: tw_W) B.pre w (List.mem_cons_of_mem _ h)
  have hown : s.vm.findClass RX9 = some m.cls := findClass_of_methodNamed B.named
  have hlocks := B.notSynchronized
  have hin : meth.name = "<init>" := (name_of_methodNamed B.named B.method).1
  subst hsz
  unfold qv_
  have hD := hD0.self (sz := s.heap.size)
  generalize hAe : va_A [(h0, .inr (12, [.null, .null, .null, .null, .int 0, .int 0, .int 0, .int 0, .int 0, .int 0]))] s.heap.size = A at hD ⊢
  have hA : ∀ q : Nat, s.heap.size ≤ q → A q := fun q h => by rw [← hAe]; exact Or.inr h
  have hS : va_S A s.heap s.heap [] := va_S.rf
  have hP : va_P (dC, dI) vwCl [(h0, .inr (12, [.null, .null, .null, .null, .int 0, .int 0, .int 0, .int 0, .int 0, .int 0]))] s.heap := hP
  have hl := lv_entry ([.ref h0, .ref h1]) (n := 2) (Nat.le_of_ble_eq_true rfl)
  rw [lg_entry_eq]
  generalize (lg_sl ([.ref h0, .ref h1]) ++ List.replicate (2 - (lg_sl ([.ref h0, .ref h1])).length) Slot.unset).toArray = ls at hl ⊢
  have hl : lv_has ls 2 [(0, .ref h0), (1, .ref h1)] := hl
  refine lv_aload_n hx hb dX9_init_0 rfl (lv_at hl 0 rfl) ?_
  refine W.objInit hx hb hown (ht _ tw_12) (ht _ tw_1) (ht _ tw_2) rfl (by rw [hml]; exact hl.1) rfl dX9_init_1 (Nat.le_of_ble_eq_true rfl) (Nat.le_of_ble_eq_true rfl) ?_
  refine W.eq (g2 := F0 m 4 ls []) rfl ?_
  refine lv_aload_n hx hb dX9_init_4 rfl (lv_at hl 0 rfl) ?_
  refine lv_sipush (v := 1503) hx hb dX9_init_5 (by decide) ?_
  refine va_newE (atype := .int) (ty := .int) (a0 := (1503, .inl (fun _ => 0))) (cE := cI) hx hb (ht _ tw_3) rfl hK hP hD hS hA 0 rfl (fun _ => rfl) (by decide) (by decide) (by decide) (Nat.le_of_ble_eq_true rfl) (Nat.le_of_ble_eq_true rfl) dX9_init_8 (fun q1 H hP hD hS => ?_)
  have hP : va_P (dC, dI) vwCl [(h0, .inr (12, [.null, .null, .null, .null, .int 0, .int 0, .int 0, .int 0, .int 0, .int 0])), (q1, .inl (cI, 1503, .inl (fun _ => 0)))] H := hP
  have hD : va_D A [(h0, .inr (12, [.null, .null, .null, .null, .int 0, .int 0, .int 0, .int 0, .int 0, .int 0])), (q1, .inl (cI, 1503, .inl (fun _ => 0)))] := hD
  refine W.widen (k := 1) (n := 1503) (by omega) (by omega) ?_
  refine va_putF (D := (dC, dI)) (ci := 12) (v := .ref q1) (ty := .array .int) (C := RX9) (T := TX9) (N := 10) hx hb ht itX9 tyX9 tyX9_ok nmX9 hown hK hP hD hS 0 rfl rfl 1 (by decide) (ht _ tw_13) (fun _ h9 => h9) rfl hin rfl (by decide +kernel) rfl rfl (Nat.le_of_ble_eq_true rfl) dX9_init_10 (fun H locs hP hD hS => ?_)
  have hP : va_P (dC, dI) vwCl [(h0, .inr (12, [.null, .ref q1, .null, .null, .int 0, .int 0, .int 0, .int 0, .int 0, .int 0])), (q1, .inl (cI, 1503, .inl (fun _ => 0)))] H := hP
  have hD : va_D A [(h0, .inr (12, [.null, .ref q1, .null, .null, .int 0, .int 0, .int 0, .int 0, .int 0, .int 0])), (q1, .inl (cI, 1503, .inl (fun _ => 0)))] := hD
  refine lv_aload_n hx hb dX9_init_13 rfl (lv_at hl 0 rfl) ?_
  refine lv_sipush (v := 1503) hx hb dX9_init_14 (by decide) ?_
  refine va_newE (atype := .int) (ty := .int) (a0 := (1503, .inl (fun _ => 0))) (cE := cI) hx hb (ht _ tw_3) rfl hK hP hD hS hA 0 rfl (fun _ => rfl) (by decide) (by decide) (by decide) (Nat.le_of_ble_eq_true rfl) (Nat.le_of_ble_eq_true rfl) dX9_init_17 (fun q2 H hP hD hS => ?_)
  have hP : va_P (dC, dI) vwCl [(h0, .inr (12, [.null, .ref q1, .null, .null, .int 0, .int 0, .int 0, .int 0, .int 0, .int 0])), (q1, .inl (cI, 1503, .inl (fun _ => 0))), (q2, .inl (cI, 1503, .inl (fun _ => 0)))] H := hP
  have hD : va_D A [(h0, .inr (12, [.null, .ref q1, .null, .null, .int 0, .int 0, .int 0, .int 0, .int 0, .int 0])), (q1, .inl (cI, 1503, .inl (fun _ => 0))), (q2, .inl (cI, 1503, .inl (fun _ => 0)))] := hD
  refine W.widen (k := 2) (n := 3006) (by omega) (by omega) ?_
  refine va_putF (D := (dC, dI)) (ci := 12) (v := .ref q2) (ty := .array .int) (C := RX9) (T := TX9) (N := 10) hx hb ht itX9 tyX9 tyX9_ok nmX9 hown hK hP hD hS 0 rfl rfl 2 (by decide) (ht _ tw_14) (fun _ h9 => h9) rfl hin rfl (by decide +kernel) rfl rfl (Nat.le_of_ble_eq_true rfl) dX9_init_19 (fun H locs hP hD hS => ?_)
  have hP : va_P (dC, dI) vwCl [(h0, .inr (12, [.null, .ref q1, .ref q2, .null, .int 0, .int 0, .int 0, .int 0, .int 0, .int 0])), (q1, .inl (cI, 1503, .inl (fun _ => 0))), (q2, .inl (cI, 1503, .inl (fun _ => 0)))] H := hP
  have hD : va_D A [(h0, .inr (12, [.null, .ref q1, .ref q2, .null, .int 0, .int 0, .int 0, .int 0, .int 0, .int 0])), (q1, .inl (cI, 1503, .inl (fun _ => 0))), (q2, .inl (cI, 1503, .inl (fun _ => 0)))] := hD
  refine lv_aload_n hx hb dX9_init_22 rfl (lv_at hl 0 rfl) ?_
  refine lv_sipush (v := 1503) hx hb dX9_init_23 (by decide) ?_
  refine va_newE (atype := .int) (ty := .int) (a0 := (1503, .inl (fun _ => 0))) (cE := cI) hx hb (ht _ tw_3) rfl hK hP hD hS hA 0 rfl (fun _ => rfl) (by decide) (by decide) (by decide) (Nat.le_of_ble_eq_true rfl) (Nat.le_of_ble_eq_true rfl) dX9_init_26 (fun q3 H hP hD hS => ?_)
  have hP : va_P (dC, dI) vwCl [(h0, .inr (12, [.null, .ref q1, .ref q2, .null, .int 0, .int 0, .int 0, .int 0, .int 0, .int 0])), (q1, .inl (cI, 1503, .inl (fun _ => 0))), (q2, .inl (cI, 1503, .inl (fun _ => 0))), (q3, .inl (cI, 1503, .inl (fun _ => 0)))] H := hP
  have hD : va_D A [(h0, .inr (12, [.null, .ref q1, .ref q2, .null, .int 0, .int 0, .int 0, .int 0, .int 0, .int 0])), (q1, .inl (cI, 1503, .inl (fun _ => 0))), (q2, .inl (cI, 1503, .inl (fun _ => 0))), (q3, .inl (cI, 1503, .inl (fun _ => 0)))] := hD
  refine W.widen (k := 3) (n := 4509) (by omega) (by omega) ?_
  refine va_putF (D := (dC, dI)) (ci := 12) (v := .ref q3) (ty := .array .int) (C := RX9) (T := TX9) (N := 10) hx hb ht itX9 tyX9 tyX9_ok nmX9 hown hK hP hD hS 0 rfl rfl 3 (by decide) (ht _ tw_15) (fun _ h9 => h9) rfl hin rfl (by decide +kernel) rfl rfl (Nat.le_of_ble_eq_true rfl) dX9_init_28 (fun H locs hP hD hS => ?_)
  have hP : va_P (dC, dI) vwCl [(h0, .inr (12, [.null, .ref q1, .ref q2, .ref q3, .int 0, .int 0, .int 0, .int 0, .int 0, .int 0])), (q1, .inl (cI, 1503, .inl (fun _ => 0))), (q2, .inl (cI, 1503, .inl (fun _ => 0))), (q3, .inl (cI, 1503, .inl (fun _ => 0)))] H := hP
  have hD : va_D A [(h0, .inr (12, [.null, .ref q1, .ref q2, .ref q3, .int 0, .int 0, .int 0, .int 0, .int 0, .int 0])), (q1, .inl (cI, 1503, .inl (fun _ => 0))), (q2, .inl (cI, 1503, .inl (fun _ => 0))), (q3, .inl (cI, 1503, .inl (fun _ => 0)))] := hD
  refine lv_aload_n hx hb dX9_init_31 rfl (lv_at hl 0 rfl) ?_
  refine lv_aload_n hx hb dX9_init_32 rfl (lv_at hl 1 rfl) ?_
  refine va_put (D := (dC, dI)) (ci := 12) (v := .ref h1) (ty := .object "PocketCompiler$Program") (C := RX9) (T := TX9) (N := 10) hx hb ht itX9 tyX9 tyX9_ok nmX9 hown hK hP hD hS 0 rfl rfl 0 (by decide) (ht _ tw_16) (fun _ h9 => h9) rfl (by decide +kernel) rfl rfl (Nat.le_of_ble_eq_true rfl) dX9_init_33 (fun H locs hP hD hS => ?_)
  have hP : va_P (dC, dI) vwCl [(h0, .inr (12, [.ref h1, .ref q1, .ref q2, .ref q3, .int 0, .int 0, .int 0, .int 0, .int 0, .int 0])), (q1, .inl (cI, 1503, .inl (fun _ => 0))), (q2, .inl (cI, 1503, .inl (fun _ => 0))), (q3, .inl (cI, 1503, .inl (fun _ => 0)))] H := hP
  have hD : va_D A [(h0, .inr (12, [.ref h1, .ref q1, .ref q2, .ref q3, .int 0, .int 0, .int 0, .int 0, .int 0, .int 0])), (q1, .inl (cI, 1503, .inl (fun _ => 0))), (q2, .inl (cI, 1503, .inl (fun _ => 0))), (q3, .inl (cI, 1503, .inl (fun _ => 0)))] := hD
  have hP9 := hP.sub (ws' := [(h0, .inr (12, [.ref h1, .ref q1, .ref q2, .ref q3, .int 0, .int 0, .int 0, .int 0, .int 0, .int 0])), (q1, .inl (cI, 1503, .inl (fun _ => 0))), (q2, .inl (cI, 1503, .inl (fun _ => 0))), (q3, .inl (cI, 1503, .inl (fun _ => 0)))]) [0, 1, 2, 3] rfl
  have hD9 := hD.sub (ws' := [(h0, .inr (12, [.ref h1, .ref q1, .ref q2, .ref q3, .int 0, .int 0, .int 0, .int 0, .int 0, .int 0])), (q1, .inl (cI, 1503, .inl (fun _ => 0))), (q2, .inl (cI, 1503, .inl (fun _ => 0))), (q3, .inl (cI, 1503, .inl (fun _ => 0)))]) [0, 1, 2, 3] (by decide) rfl
  refine W.widen (k := 3) (n := 4509) (by omega) (by omega) ?_
  exact W.vret hx hb hr (fun t ht9 hW => ⟨⟨(q1, q2, q3), rfl, trivial, by rw [ht9]; exact hP9, hD9⟩, hS.F ht9⟩) hS.2.2 dX9_init_36
set_option maxHeartbeats 4000000 in
set_option maxRecDepth 100000 in
/-- Gifts -/
theorem c_X3_init (l : Launch) (dC : Nat → ClassId) (dI : Nat → Nat → Nat) (cI cB cZ cJ cR : ClassId) (sz : Nat) (h0 : Nat)  : Met l yX3_init (Cond.code yX3_init cX3_init 1 none :: tw_W) ({ frames := 1, cells := 1, slots := 64, locals := 12 }) (pc_ (dC, dI) (tyS cI cB cZ cJ cR) [(h0, .inr (7, [.null, .int 0, .int 0]))] sz [.ref h0]) (qv_ (dC, dI) [(h0, .inr (7, [.null, .int 0, .int 0]))] sz (fun (u : Nat) => True) (fun (u : Nat) => [(h0, .inr (7, [.ref u, .int 0, .int 0])), (u, .inl (cI, 64, .inl (fun _ => 0)))])) 1 64 (va_A [(h0, .inr (7, [.null, .int 0, .int 0]))] sz) := by
  refine Met.ofW (cc := cX3_init) (maxL := 1) (ret := none) (by decide) rfl ?_
  intro p e s m args below meth c s₁ B hml hv
  obtain ⟨rfl, hsz, hP, hKK, hD0⟩ := hv
  have hK := hKK.1
  have hx := B.exec
  have hb := B.bytes
  have hr := B.returns
  have ht : ∀ w ∈ tw_W, w.before _ s = true := fun w h => atoms_spec (ws := Cond.code yX3_init cX3_init 1 none :: tw_W) B.pre w (List.mem_cons_of_mem _ h)
  have hown : s.vm.findClass RX3 = some m.cls := findClass_of_methodNamed B.named
  have hlocks := B.notSynchronized
  have hin : meth.name = "<init>" := (name_of_methodNamed B.named B.method).1
  subst hsz
  unfold qv_
  have hD := hD0.self (sz := s.heap.size)
  generalize hAe : va_A [(h0, .inr (7, [.null, .int 0, .int 0]))] s.heap.size = A at hD ⊢
  have hA : ∀ q : Nat, s.heap.size ≤ q → A q := fun q h => by rw [← hAe]; exact Or.inr h
  have hS : va_S A s.heap s.heap [] := va_S.rf
  have hP : va_P (dC, dI) vwCl [(h0, .inr (7, [.null, .int 0, .int 0]))] s.heap := hP
  have hl := lv_entry ([.ref h0]) (n := 1) (Nat.le_of_ble_eq_true rfl)
  rw [lg_entry_eq]
  generalize (lg_sl ([.ref h0]) ++ List.replicate (1 - (lg_sl ([.ref h0])).length) Slot.unset).toArray = ls at hl ⊢
  have hl : lv_has ls 1 [(0, .ref h0)] := hl
  refine lv_aload_n hx hb dX3_init_0 rfl (lv_at hl 0 rfl) ?_
  refine W.objInit hx hb hown (ht _ tw_17) (ht _ tw_1) (ht _ tw_2) rfl (by rw [hml]; exact hl.1) rfl dX3_init_1 (Nat.le_of_ble_eq_true rfl) (Nat.le_of_ble_eq_true rfl) ?_
  refine W.eq (g2 := F0 m 4 ls []) rfl ?_
  refine lv_aload_n hx hb dX3_init_4 rfl (lv_at hl 0 rfl) ?_
  refine lv_bipush (v := 64) hx hb dX3_init_5 (by decide) ?_
  refine va_newE (atype := .int) (ty := .int) (a0 := (64, .inl (fun _ => 0))) (cE := cI) hx hb (ht _ tw_3) rfl hK hP hD hS hA 0 rfl (fun _ => rfl) (by decide) (by decide) (by decide) (Nat.le_of_ble_eq_true rfl) (Nat.le_of_ble_eq_true rfl) dX3_init_7 (fun q1 H hP hD hS => ?_)
  have hP : va_P (dC, dI) vwCl [(h0, .inr (7, [.null, .int 0, .int 0])), (q1, .inl (cI, 64, .inl (fun _ => 0)))] H := hP
  have hD : va_D A [(h0, .inr (7, [.null, .int 0, .int 0])), (q1, .inl (cI, 64, .inl (fun _ => 0)))] := hD
  refine W.widen (k := 1) (n := 64) (by omega) (by omega) ?_
  refine va_putF (D := (dC, dI)) (ci := 7) (v := .ref q1) (ty := .array .int) (C := RX3) (T := TX3) (N := 3) hx hb ht itX3 tyX3 tyX3_ok nmX3 hown hK hP hD hS 0 rfl rfl 0 (by decide) (ht _ tw_18) (fun _ h9 => h9) rfl hin rfl (by decide +kernel) rfl rfl (Nat.le_of_ble_eq_true rfl) dX3_init_9 (fun H locs hP hD hS => ?_)
  have hP : va_P (dC, dI) vwCl [(h0, .inr (7, [.ref q1, .int 0, .int 0])), (q1, .inl (cI, 64, .inl (fun _ => 0)))] H := hP
  have hD : va_D A [(h0, .inr (7, [.ref q1, .int 0, .int 0])), (q1, .inl (cI, 64, .inl (fun _ => 0)))] := hD
  have hP9 := hP.sub (ws' := [(h0, .inr (7, [.ref q1, .int 0, .int 0])), (q1, .inl (cI, 64, .inl (fun _ => 0)))]) [0, 1] rfl
  have hD9 := hD.sub (ws' := [(h0, .inr (7, [.ref q1, .int 0, .int 0])), (q1, .inl (cI, 64, .inl (fun _ => 0)))]) [0, 1] (by decide) rfl
  refine W.widen (k := 1) (n := 64) (by omega) (by omega) ?_
  exact W.vret hx hb hr (fun t ht9 hW => ⟨⟨q1, rfl, trivial, by rw [ht9]; exact hP9, hD9⟩, hS.F ht9⟩) hS.2.2 dX3_init_12
