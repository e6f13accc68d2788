theorem dX11_load_0 : decode cX11_load 0 = .ok (.aload_n 0, 1) := by decide +kernel
theorem dX11_load_1 : decode cX11_load 1 = .ok (.getfield 40, 3) := by decide +kernel
theorem tw_966 : (.fieldLink RX11 40 "PocketCompiler" "spare" "LPocketCompiler$Program;" : Cond) ∈ tw_W := tw_in (t8_5 (List.mem_of_getElem? (i := 152) rfl)) rfl
theorem dX11_load_4 : decode cX11_load 4 = .ok (.aload_n 0, 1) := by decide +kernel
theorem dX11_load_5 : decode cX11_load 5 = .ok (.getfield 9, 3) := by decide +kernel
theorem dX11_load_8 : decode cX11_load 8 = .ok (.aload_n 0, 1) := by decide +kernel
theorem dX11_load_9 : decode cX11_load 9 = .ok (.getfield 86, 3) := by decide +kernel
theorem dX11_load_12 : decode cX11_load 12 = .ok (.invokevirtual 92, 3) := by decide +kernel
theorem tw_967 : (.code yX7_copyText cX7_copyText 3 none : Cond) ∈ tw_W := tw_in (t8_5 (List.mem_of_getElem? (i := 206) rfl)) rfl
theorem tw_968 : ∀ w ∈ ([.methodLink RX11 92 yX7_copyText, .instanceMethod yX7_copyText, .selects RX7 yX7_copyText yX7_copyText, .initialized RX7] : List Cond), w ∈ tw_W := al_c (tw_in (t8_5 (List.mem_of_getElem? (i := 203) rfl)) rfl) (al_c (tw_in (t8_5 (List.mem_of_getElem? (i := 204) rfl)) rfl) (al_c (tw_in (t8_5 (List.mem_of_getElem? (i := 205) rfl)) rfl) (al_c (tw_in (t8_1 (List.mem_of_getElem? (i := 8) rfl)) rfl) al_n)))
theorem dX11_load_15 : decode cX11_load 15 = .ok (.aload_n 0, 1) := by decide +kernel
theorem dX11_load_16 : decode cX11_load 16 = .ok (.iconst 0, 1) := by decide +kernel
theorem dX11_load_17 : decode cX11_load 17 = .ok (.putfield 86, 3) := by decide +kernel
theorem dX11_load_20 : decode cX11_load 20 = .ok (.aload_n 0, 1) := by decide +kernel
theorem dX11_load_21 : decode cX11_load 21 = .ok (.iconst 0, 1) := by decide +kernel
theorem dX11_load_22 : decode cX11_load 22 = .ok (.putfield 96, 3) := by decide +kernel
theorem dX11_load_25 : decode cX11_load 25 = .ok (.aload_n 0, 1) := by decide +kernel
theorem dX11_load_26 : decode cX11_load 26 = .ok (.iconst (-1), 1) := by decide +kernel
theorem dX11_load_27 : decode cX11_load 27 = .ok (.putfield 13, 3) := by decide +kernel
theorem dX11_load_30 : decode cX11_load 30 = .ok (.aload_n 0, 1) := by decide +kernel
theorem dX11_load_31 : decode cX11_load 31 = .ok (.getfield 48, 3) := by decide +kernel
theorem tw_969 : (.fieldLink RX11 48 "PocketCompiler" "parser" "LPocketCompiler$Parser;" : Cond) ∈ tw_W := tw_in (t8_5 (List.mem_of_getElem? (i := 153) rfl)) rfl
theorem dX11_load_34 : decode cX11_load 34 = .ok (.aload_n 0, 1) := by decide +kernel
theorem dX11_load_35 : decode cX11_load 35 = .ok (.getfield 40, 3) := by decide +kernel
theorem dX11_load_38 : decode cX11_load 38 = .ok (.invokevirtual 79, 3) := by decide +kernel
theorem tw_970 : (.code yX5_readText cX5_readText 4 none : Cond) ∈ tw_W := tw_in (t8_2 (List.mem_of_getElem? (i := 214) rfl)) rfl
theorem tw_971 : ∀ w ∈ ([.methodLink RX11 79 yX5_readText, .instanceMethod yX5_readText, .selects RX5 yX5_readText yX5_readText, .initialized RX5] : List Cond), w ∈ tw_W := al_c (tw_in (t8_2 (List.mem_of_getElem? (i := 211) rfl)) rfl) (al_c (tw_in (t8_2 (List.mem_of_getElem? (i := 212) rfl)) rfl) (al_c (tw_in (t8_2 (List.mem_of_getElem? (i := 213) rfl)) rfl) (al_c (tw_in (t8_1 (List.mem_of_getElem? (i := 9) rfl)) rfl) al_n)))
theorem tw_972 : (.classLink RX11 99 "java/lang/IllegalStateException" : Cond) ∈ tw_W := tw_in (t8_5 (List.mem_of_getElem? (i := 202) rfl)) rfl
theorem dX11_load_44 : decode cX11_load 44 = .ok (.astore_n 1, 1) := by decide +kernel
theorem dX11_load_45 : decode cX11_load 45 = .ok (.aload_n 0, 1) := by decide +kernel
theorem dX11_load_46 : decode cX11_load 46 = .ok (.aload_n 0, 1) := by decide +kernel
theorem dX11_load_47 : decode cX11_load 47 = .ok (.getfield 48, 3) := by decide +kernel
theorem dX11_load_50 : decode cX11_load 50 = .ok (.getfield 101, 3) := by decide +kernel
theorem dX11_load_53 : decode cX11_load 53 = .ok (.getfield 105, 3) := by decide +kernel
theorem dX11_load_56 : decode cX11_load 56 = .ok (.putfield 96, 3) := by decide +kernel
theorem dX11_load_59 : decode cX11_load 59 = .ok (.aload_n 0, 1) := by decide +kernel
theorem dX11_load_60 : decode cX11_load 60 = .ok (.aload_n 0, 1) := by decide +kernel
theorem dX11_load_61 : decode cX11_load 61 = .ok (.getfield 48, 3) := by decide +kernel
theorem dX11_load_64 : decode cX11_load 64 = .ok (.getfield 101, 3) := by decide +kernel
theorem dX11_load_67 : decode cX11_load 67 = .ok (.getfield 110, 3) := by decide +kernel
theorem dX11_load_70 : decode cX11_load 70 = .ok (.putfield 13, 3) := by decide +kernel
theorem dX11_load_73 : decode cX11_load 73 = .ok (.aload_n 0, 1) := by decide +kernel
theorem dX11_load_74 : decode cX11_load 74 = .ok (.getfield 96, 3) := by decide +kernel
theorem dX11_load_77 : decode cX11_load 77 = .ok (.ifCond .ne 34, 3) := by decide +kernel
theorem dX11_load_111 : decode cX11_load 111 = .ok (.aload_n 0, 1) := by decide +kernel
theorem dX11_load_112 : decode cX11_load 112 = .ok (.getfield 96, 3) := by decide +kernel
theorem dX11_load_115 : decode cX11_load 115 = .ok (.ifCond .ne 28, 3) := by decide +kernel
theorem dX11_load_143 : decode cX11_load 143 = .ok (.aload_n 0, 1) := by decide +kernel
theorem dX11_load_144 : decode cX11_load 144 = .ok (.getfield 96, 3) := by decide +kernel
theorem dX11_load_147 : decode cX11_load 147 = .ok (.ireturn, 1) := by decide +kernel
theorem dX11_load_41 : decode cX11_load 41 = .ok (.goto 32, 3) := by decide +kernel
theorem dX11_load_80 : decode cX11_load 80 = .ok (.aload_n 0, 1) := by decide +kernel
theorem dX11_load_81 : decode cX11_load 81 = .ok (.getfield 57, 3) := by decide +kernel
theorem tw_973 : (.fieldLink RX11 57 "PocketCompiler" "assembler" "LPocketCompiler$Assembler;" : Cond) ∈ tw_W := tw_in (t8_5 (List.mem_of_getElem? (i := 154) rfl)) rfl
theorem dX11_load_84 : decode cX11_load 84 = .ok (.aload_n 0, 1) := by decide +kernel
theorem dX11_load_85 : decode cX11_load 85 = .ok (.getfield 40, 3) := by decide +kernel
theorem dX11_load_88 : decode cX11_load 88 = .ok (.invokevirtual 82, 3) := by decide +kernel
theorem tw_974 : (.code yX0_assemble cX0_assemble 2 (some .boolean) : Cond) ∈ tw_W := tw_in (t8_5 (List.mem_of_getElem? (i := 24) rfl)) rfl
theorem tw_975 : ∀ w ∈ ([.methodLink RX11 82 yX0_assemble, .instanceMethod yX0_assemble, .selects RX0 yX0_assemble yX0_assemble, .initialized RX0] : List Cond), w ∈ tw_W := al_c (tw_in (t8_5 (List.mem_of_getElem? (i := 21) rfl)) rfl) (al_c (tw_in (t8_5 (List.mem_of_getElem? (i := 22) rfl)) rfl) (al_c (tw_in (t8_5 (List.mem_of_getElem? (i := 23) rfl)) rfl) (al_c (tw_in (t8_1 (List.mem_of_getElem? (i := 13) rfl)) rfl) al_n)))
theorem dX11_load_91 : decode cX11_load 91 = .ok (.ifCond .ne 20, 3) := by decide +kernel
theorem dX11_load_118 : decode cX11_load 118 = .ok (.aload_n 0, 1) := by decide +kernel
theorem dX11_load_119 : decode cX11_load 119 = .ok (.getfield 36, 3) := by decide +kernel
theorem dX11_load_122 : decode cX11_load 122 = .ok (.astore_n 1, 1) := by decide +kernel
theorem dX11_load_123 : decode cX11_load 123 = .ok (.aload_n 0, 1) := by decide +kernel
theorem dX11_load_124 : decode cX11_load 124 = .ok (.aload_n 0, 1) := by decide +kernel
theorem dX11_load_125 : decode cX11_load 125 = .ok (.getfield 40, 3) := by decide +kernel
theorem dX11_load_128 : decode cX11_load 128 = .ok (.putfield 36, 3) := by decide +kernel
theorem dX11_load_131 : decode cX11_load 131 = .ok (.aload_n 0, 1) := by decide +kernel
theorem dX11_load_132 : decode cX11_load 132 = .ok (.aload_n 1, 1) := by decide +kernel
theorem dX11_load_133 : decode cX11_load 133 = .ok (.putfield 40, 3) := by decide +kernel
theorem dX11_load_136 : decode cX11_load 136 = .ok (.aload_n 0, 1) := by decide +kernel
theorem dX11_load_137 : decode cX11_load 137 = .ok (.getfield 75, 3) := by decide +kernel
theorem dX11_load_140 : decode cX11_load 140 = .ok (.invokevirtual 116, 3) := by decide +kernel
theorem tw_976 : (.code yX10_drop cX10_drop 1 none : Cond) ∈ tw_W := tw_in (t8_5 (List.mem_of_getElem? (i := 213) rfl)) rfl
theorem tw_977 : ∀ w ∈ ([.methodLink RX11 116 yX10_drop, .instanceMethod yX10_drop, .selects RX10 yX10_drop yX10_drop, .initialized RX10] : List Cond), w ∈ tw_W := al_c (tw_in (t8_5 (List.mem_of_getElem? (i := 210) rfl)) rfl) (al_c (tw_in (t8_5 (List.mem_of_getElem? (i := 211) rfl)) rfl) (al_c (tw_in (t8_5 (List.mem_of_getElem? (i := 212) rfl)) rfl) (al_c (tw_in (t8_1 (List.mem_of_getElem? (i := 15) rfl)) rfl) al_n)))
theorem dX11_load_94 : decode cX11_load 94 = .ok (.aload_n 0, 1) := by decide +kernel
theorem dX11_load_95 : decode cX11_load 95 = .ok (.bipush 7, 2) := by decide +kernel
theorem dX11_load_97 : decode cX11_load 97 = .ok (.putfield 96, 3) := by decide +kernel
theorem dX11_load_100 : decode cX11_load 100 = .ok (.aload_n 0, 1) := by decide +kernel
theorem dX11_load_101 : decode cX11_load 101 = .ok (.aload_n 0, 1) := by decide +kernel
theorem dX11_load_102 : decode cX11_load 102 = .ok (.getfield 40, 3) := by decide +kernel
theorem dX11_load_105 : decode cX11_load 105 = .ok (.getfield 113, 3) := by decide +kernel
theorem tw_978 : (.fieldLink RX11 113 "PocketCompiler$Program" "length" "I" : Cond) ∈ tw_W := tw_in (t8_1 (List.mem_of_getElem? (i := 114) rfl)) rfl
theorem dX11_load_108 : decode cX11_load 108 = .ok (.putfield 13, 3) := by decide +kernel
theorem om_18842d68f1 {x0 : Int} (h0 : x0 ≠ 0) (h1 : x0 = (0 : Int)) : False := by omega
theorem om_40f0ba6dfb {x0 x1 : Int} (h0 : x0 = (0 : Int)) (h1 : x1 = x0) (h2 : x1 ≠ (0 : Int)) : False := by omega
theorem om_9270d1fe37 {x0 x1 x2 : Int} (h0 : x0 = (0 : Int)) (h1 : x1 = x0) (h2 : x2 = x1) : 0 ≤ x2 ∧ x2 ≤ 4000 := by omega
theorem om_69074b5a00 : (7 : Int) ≠ 0 := by omega
set_option maxHeartbeats 4000000 in
set_option maxRecDepth 100000 in
theorem c_x_X11_load (l : Launch) (dC : Nat → ClassId) (dI : Nat → Nat → Nat) (cI cB cZ cJ cR : ClassId) (tb : Nat → Nat) (sz : Nat) (ad : Nat → Nat) (pr : Int32 → Nat) (N : Nat) (L1 L2 : List Nat) (Z : va_W) (v : MS) (ps : Int32) (zNN : (N : Int) ≤ 4096) (hL1 : L1.length = 40) (hL2 : L2.length = 60) (rp : RP v) (hps : pr ps = ad 908) (es393 : (v.1 0 393) = ps) (hst : l.stackTraces = false) : Met l yX11_load (Cond.codeWith yX11_load cX11_load 2 (some .int) [(30, 41, 44, 99)] :: tw_W) ({ frames := 501, cells := 1, slots := 6, locals := 14023 }) (pc_ (dC, dI) (tyS cI cB cZ cJ cR) tb (pW ad pr N cI cR L1 L2 Z v) sz [.ref (ad 909)]) (qi_ (dC, dI) (pW ad pr N cI cR L1 L2 Z v) sz (fun (r : Int32) (u : MS) => FC [300, 304, 305, 306, 307, 308, 309, 310, 312, 313, 314, 315, 317, 321, 326, 327, 331, 332, 333, 334, 337, 338, 339, 340, 341, 342, 361, 373, 375, 377, 381, 383, 384, 391, 392, 393, 396, 397] [0, 301, 302, 303, 311, 316, 318, 319, 320, 324, 325, 336, 372, 378, 379, 380, 382] v u ∧ (Q_x_X11_load L1 L2 N v ps r u) ∧ (0 ≤ (u.1 0 373).toInt ∧ (u.1 0 373).toInt ≤ 4000) ∧ (0 ≤ (u.1 0 391).toInt ∧ (u.1 0 391).toInt ≤ 4000) ∧ ((r.toInt = 0 ∧ (u.1 0 392) = (v.1 0 393) ∧ (u.1 0 393) = (v.1 0 392) ∧ (0 ≤ (u.1 0 381).toInt ∧ (u.1 0 381).toInt ≤ 3008)) ∨ (r.toInt ≠ 0 ∧ (u.1 0 392) = (v.1 0 392) ∧ (u.1 0 393) = (v.1 0 393) ∧ (u.1 0 361) = (v.1 0 361))) ∧ ((u.1 0 391).toInt = 0)) (fun (u : MS) => (pW ad pr N cI cR L1 L2 Z u))) 1 6 (va_A (pW ad pr N cI cR L1 L2 Z v) sz) := by
  refine va_MetW (cc := cX11_load) (maxL := 2) (ret := (some .int)) (by decide) rfl ?_
  intro p e s m args below meth c s₁ B hml hv
  obtain ⟨rfl, hsz, hP, hKK, hD0, hFx⟩ := hv
  have hK := hKK.1
  have hx := B.exec
  have hb := B.bytes
  have hr := B.returns
  have ht : ∀ w ∈ tw_W, w.before _ s = true := fun w h => atoms_spec (ws := Cond.codeWith yX11_load cX11_load 2 (some .int) [(30, 41, 44, 99)] :: tw_W) B.pre w (List.mem_cons_of_mem _ h)
  have htab := vx_table (x := yX11_load) B (atoms_spec (ws := Cond.codeWith yX11_load cX11_load 2 (some .int) [(30, 41, 44, 99)] :: tw_W) B.pre _ List.mem_cons_self)
  have hown : s.vm.findClass RX11 = some m.cls := findClass_of_methodNamed B.named
  have hlocks := B.notSynchronized
  subst hsz
  unfold qi_
  have hD := hD0.self (sz := s.heap.size)
  generalize hAe : va_A (pW ad pr N cI cR L1 L2 Z v) s.heap.size = A at hD hFx ⊢
  have hA : ∀ q : Nat, s.heap.size ≤ q → A q := fun q h => by rw [← hAe]; exact Or.inr h
  have hS : va_S A s.heap s.heap [] := va_S.rf
  have hl := lv_entry ([.ref (ad 909)]) (n := 2) (Nat.le_of_ble_eq_true rfl)
  rw [lg_entry_eq]
  generalize (lg_sl ([.ref (ad 909)]) ++ List.replicate (2 - (lg_sl ([.ref (ad 909)])).length) Slot.unset).toArray = ls at hl ⊢
  have hl : lv_has ls 2 [(0, .ref (ad 909))] := hl
  refine lv_aload_n hx hb dX11_load_0 rfl (lv_at hl 0 rfl) ?_
  refine va_get (D := (dC, dI)) (ci := 14) (fs := oF_X11 ad pr v) (v := .ref (pr (v.1 0 393))) (C := RX11) (T := TX11) (N := 12) hx hb ht itX11 hown hK hP 0 rfl rfl 3 (by decide) (ht _ tw_966) (fun _ h9 => h9) rfl dX11_load_1 ?_
  refine lv_aload_n hx hb dX11_load_4 rfl (lv_at hl 0 rfl) ?_
  refine va_get (D := (dC, dI)) (ci := 14) (fs := oF_X11 ad pr v) (v := .ref (ad 299)) (C := RX11) (T := TX11) (N := 12) hx hb ht itX11 hown hK hP 0 rfl rfl 0 (by decide) (ht _ tw_914) (fun _ h9 => h9) rfl dX11_load_5 ?_
  refine lv_aload_n hx hb dX11_load_8 rfl (lv_at hl 0 rfl) ?_
  refine va_get (D := (dC, dI)) (ci := 14) (fs := oF_X11 ad pr v) (v := .int (v.1 0 391)) (C := RX11) (T := TX11) (N := 12) hx hb ht itX11 hown hK hP 0 rfl rfl 1 (by decide) (ht _ tw_913) (fun _ h9 => h9) rfl dX11_load_9 ?_
  refine W.eq (g2 := F0 m 12 ls [.int (v.1 0 391), .ref (ad 299), .ref (ad 908)]) (by rw [show pr (v.1 0 393) = (ad 908) from (by rw [show (v.1 0 393) = ps from es393]; exact hps)]) ?_
  refine cA_v (rn_Vk (n := 2) (As := [.ref (ad 299), .int (v.1 0 391)]) (rest := []) hx hb hml hown ht hKK hFx hP hD hS hA (c_x_X7_copyText l dC dI cI cB cZ cJ cR tb s.heap.size ad pr N L1 L2 v (v.1 0 391) ) tw_967 tw_968 (by decide +kernel) rfl rfl ⟨Nat.le_of_ble_eq_true rfl, Nat.le_of_ble_eq_true rfl⟩ (ixC (cW ad pr N cI cR L1 L2 v).length) (ixC_map _ _ _) (ixC_nd _) 8 rfl rfl rfl rfl hl.1 rfl (Nat.le_of_ble_eq_true rfl) dX11_load_12 ⟨Nat.le_of_ble_eq_true rfl, Nat.le_of_ble_eq_true rfl⟩) hP hD hS hA (fun u2 H locs hw1 hP hD hS => ?_)
  obtain ⟨fr1, ex1, i3731⟩ := hw1
  refine W.widen (k := 0) (n := 0) (Nat.le_refl _) (Nat.le_refl _) ?_
  have hP := cP_ (pW_up fr1 (by decide)) hP
  have hD := cD_ (pW_up fr1 (by decide)) hD
  refine lv_aload_n hx hb dX11_load_15 rfl (lv_at hl 0 rfl) ?_
  refine lv_iconst (v := 0) hx hb dX11_load_16 (by decide) ?_
  refine va_put (D := (dC, dI)) (ci := 14) (fs := oF_X11 ad pr u2) (v := .int 0) (ty := .int) (C := RX11) (T := TX11) (N := 12) hx hb ht itX11 tyX11 tyX11_ok nmX11 hown hK hP hD hS 0 rfl rfl 1 (by decide) (ht _ tw_913) (fun _ h9 => h9) rfl (by decide +kernel) rfl rfl (Nat.le_of_ble_eq_true rfl) dX11_load_17 (fun H locs hP hD hS => ?_)
  have hP := cP_ (pw_391 ad pr N cI cR L1 L2 Z u2 0) hP
  have hD := cD_ (pw_391 ad pr N cI cR L1 L2 Z u2 0) hD
  refine lv_aload_n hx hb dX11_load_20 rfl (lv_at hl 0 rfl) ?_
  refine lv_iconst (v := 0) hx hb dX11_load_21 (by decide) ?_
  refine va_put (D := (dC, dI)) (ci := 14) (fs := oF_X11 ad pr (wA u2 0 391 0)) (v := .int 0) (ty := .int) (C := RX11) (T := TX11) (N := 12) hx hb ht itX11 tyX11 tyX11_ok nmX11 hown hK hP hD hS 0 rfl rfl 6 (by decide) (ht _ tw_922) (fun _ h9 => h9) rfl (by decide +kernel) rfl rfl (Nat.le_of_ble_eq_true rfl) dX11_load_22 (fun H locs hP hD hS => ?_)
  have hP := cP_ (pw_396 ad pr N cI cR L1 L2 Z (wA u2 0 391 0) 0) hP
  have hD := cD_ (pw_396 ad pr N cI cR L1 L2 Z (wA u2 0 391 0) 0) hD
  refine lv_aload_n hx hb dX11_load_25 rfl (lv_at hl 0 rfl) ?_
  refine lv_iconst (v := -1) hx hb dX11_load_26 (by decide) ?_
  refine va_put (D := (dC, dI)) (ci := 14) (fs := oF_X11 ad pr (wA (wA u2 0 391 0) 0 396 0)) (v := .int (-1)) (ty := .int) (C := RX11) (T := TX11) (N := 12) hx hb ht itX11 tyX11 tyX11_ok nmX11 hown hK hP hD hS 0 rfl rfl 7 (by decide) (ht _ tw_923) (fun _ h9 => h9) rfl (by decide +kernel) rfl rfl (Nat.le_of_ble_eq_true rfl) dX11_load_27 (fun H locs hP hD hS => ?_)
  have hP := cP_ (pw_397 ad pr N cI cR L1 L2 Z (wA (wA u2 0 391 0) 0 396 0) (-1)) hP
  have hD := cD_ (pw_397 ad pr N cI cR L1 L2 Z (wA (wA u2 0 391 0) 0 396 0) (-1)) hD
  refine lv_aload_n hx hb dX11_load_30 rfl (lv_at hl 0 rfl) ?_
  refine va_get (D := (dC, dI)) (ci := 14) (fs := oF_X11 ad pr (wA (wA (wA u2 0 391 0) 0 396 0) 0 397 (-1))) (v := .ref (ad 903)) (C := RX11) (T := TX11) (N := 12) hx hb ht itX11 hown hK hP 0 rfl rfl 4 (by decide) (ht _ tw_969) (fun _ h9 => h9) rfl dX11_load_31 ?_
  refine lv_aload_n hx hb dX11_load_34 rfl (lv_at hl 0 rfl) ?_
  refine va_get (D := (dC, dI)) (ci := 14) (fs := oF_X11 ad pr (wA (wA (wA u2 0 391 0) 0 396 0) 0 397 (-1))) (v := .ref (pr (u2.1 0 393))) (C := RX11) (T := TX11) (N := 12) hx hb ht itX11 hown hK hP 0 rfl rfl 3 (by decide) (ht _ tw_966) (fun _ h9 => h9) rfl dX11_load_35 ?_
  refine W.eq (g2 := F0 m 38 ls [.ref (pr ps), .ref (ad 903)]) (by rw [show (u2.1 0 393) = ps from (Eq.trans (fr1.2.1 393 (by decide)) es393)]) ?_
  refine cAx_v (rx_Vk (n := 1) (As := [.ref (pr ps)]) (rest := []) hx hb hml hown ht hKK hFx hP hD hS hA (c_x_X5_readText l dC dI cI cB cZ cJ cR tb H.size ad pr N L1 L2 (wA (wA (wA u2 0 391 0) 0 396 0) 0 397 (-1)) ps (show L1.length = 40 from hL1) (show L2.length = 60 from hL2) (show RP (wA (wA (wA u2 0 391 0) 0 396 0) 0 397 (-1)) from ((show FC [300, 304, 305, 306, 307, 308, 309, 310, 312, 313, 314, 315, 317, 321, 326, 327, 331, 332, 333, 334, 337, 338, 339, 340, 341, 342, 361, 373, 375, 377, 381, 383, 384, 391, 392, 393, 396, 397] [0, 301, 302, 303, 311, 316, 318, 319, 320, 324, 325, 336, 372, 378, 379, 380, 382] v (wA (wA (wA u2 0 391 0) 0 396 0) 0 397 (-1)) from (FC.f (FC.f (FC.f (FC.tr (FC.rf _) (FC.up fr1 (by decide) (by decide))) 0 (by decide)) 0 (by decide)) (-1) (by decide))).1 rp)) (show pr ps = ad 908 from hps) (show l.stackTraces = false from hst) (show 0 ≤ (u2.1 0 373).toInt ∧ (u2.1 0 373).toInt ≤ 4000 from (om_c74a68af25 i3731))) tw_970 tw_971 (by decide +kernel) rfl rfl ⟨Nat.le_of_ble_eq_true rfl, Nat.le_of_ble_eq_true rfl⟩ (ixC (cW ad pr N cI cR L1 L2 (wA (wA (wA u2 0 391 0) 0 396 0) 0 397 (-1))).length) (ixC_map _ _ _) (ixC_nd _) 3 rfl rfl rfl rfl hl.1 rfl (Nat.le_of_ble_eq_true rfl) dX11_load_38 ⟨Nat.le_of_ble_eq_true rfl, Nat.le_of_ble_eq_true rfl⟩) hP hD hS hA (fun u9 ce9 q9 H locs hx9 hP hD hS hc9 hv9 hf9 => ?_) (fun u5 H locs hw4 hP hD hS => ?_)
  · refine vx_catch (own := RX11) (name := "java/lang/IllegalStateException") hown [] ⟨30, 41, 44, 99⟩ [] (by rw [htab]; rfl) (fun z h9 => by simp at h9) (by decide) (by decide) (ht _ tw_972) (cast_self hf9) hc9 hv9 hf9 ?_
    refine W.eq (g2 := F0 m 44 ls [.ref q9]) rfl ?_
    have fr9x := hx9.1
    have ne9x : (u9.1 0 308).toInt ≠ 0 := hx9.2.1
    have hP := cP_ (pW_up fr9x (by decide)) hP
    have hD := cD_ (pW_up fr9x (by decide)) hD
    refine W.widen (k := 1) (n := 6) (Nat.le_refl _) (Nat.le_refl _) ?_
    refine lv_astore_n (lv' := [(1, .ref q9), (0, .ref (ad 909))]) hx hb dX11_load_44 rfl hl (by decide) rfl (fun ls hl => ?_)
    refine lv_aload_n hx hb dX11_load_45 rfl (lv_at hl 1 rfl) ?_
    refine lv_aload_n hx hb dX11_load_46 rfl (lv_at hl 1 rfl) ?_
    refine va_get (D := (dC, dI)) (ci := 14) (fs := oF_X11 ad pr u9) (v := .ref (ad 903)) (C := RX11) (T := TX11) (N := 12) hx hb ht itX11 hown hK hP 0 rfl rfl 4 (by decide) (ht _ tw_969) (fun _ h9 => h9) rfl dX11_load_47 ?_
    refine va_getN (D := (dC, dI)) (ci := 8) (fs := oF_X5 ad pr u9) (v := .ref (ad 900)) (C := RX5) (T := TX5) (N := 7) hx hb ht itX5 hown hK hP 4 rfl rfl 1 (by decide) (hKK.fl2 8 rfl) (fun _ h9 => h9) rfl dX11_load_50 ?_
    refine va_getN (D := (dC, dI)) (ci := 12) (fs := oF_X9 ad pr u9) (v := .int (u9.1 0 308)) (C := RX9) (T := TX9) (N := 10) hx hb ht itX9 hown hK hP 1 rfl rfl 8 (by decide) (hKK.fl2 1 rfl) (fun _ h9 => h9) rfl dX11_load_53 ?_
    refine va_put (D := (dC, dI)) (ci := 14) (fs := oF_X11 ad pr u9) (v := .int (u9.1 0 308)) (ty := .int) (C := RX11) (T := TX11) (N := 12) hx hb ht itX11 tyX11 tyX11_ok nmX11 hown hK hP hD hS 0 rfl rfl 6 (by decide) (ht _ tw_922) (fun _ h9 => h9) rfl (by decide +kernel) rfl rfl (Nat.le_of_ble_eq_true rfl) dX11_load_56 (fun H locs hP hD hS => ?_)
    have hP := cP_ (pw_396 ad pr N cI cR L1 L2 Z u9 (u9.1 0 308)) hP
    have hD := cD_ (pw_396 ad pr N cI cR L1 L2 Z u9 (u9.1 0 308)) hD
    refine lv_aload_n hx hb dX11_load_59 rfl (lv_at hl 1 rfl) ?_
    refine lv_aload_n hx hb dX11_load_60 rfl (lv_at hl 1 rfl) ?_
    refine va_get (D := (dC, dI)) (ci := 14) (fs := oF_X11 ad pr (wA u9 0 396 (u9.1 0 308))) (v := .ref (ad 903)) (C := RX11) (T := TX11) (N := 12) hx hb ht itX11 hown hK hP 0 rfl rfl 4 (by decide) (ht _ tw_969) (fun _ h9 => h9) rfl dX11_load_61 ?_
    refine va_getN (D := (dC, dI)) (ci := 8) (fs := oF_X5 ad pr (wA u9 0 396 (u9.1 0 308))) (v := .ref (ad 900)) (C := RX5) (T := TX5) (N := 7) hx hb ht itX5 hown hK hP 4 rfl rfl 1 (by decide) (hKK.fl2 8 rfl) (fun _ h9 => h9) rfl dX11_load_64 ?_
    refine va_getN (D := (dC, dI)) (ci := 12) (fs := oF_X9 ad pr (wA u9 0 396 (u9.1 0 308))) (v := .int (u9.1 0 309)) (C := RX9) (T := TX9) (N := 10) hx hb ht itX9 hown hK hP 1 rfl rfl 9 (by decide) (hKK.fl2 2 rfl) (fun _ h9 => h9) rfl dX11_load_67 ?_
    refine va_put (D := (dC, dI)) (ci := 14) (fs := oF_X11 ad pr (wA u9 0 396 (u9.1 0 308))) (v := .int (u9.1 0 309)) (ty := .int) (C := RX11) (T := TX11) (N := 12) hx hb ht itX11 tyX11 tyX11_ok nmX11 hown hK hP hD hS 0 rfl rfl 7 (by decide) (ht _ tw_923) (fun _ h9 => h9) rfl (by decide +kernel) rfl rfl (Nat.le_of_ble_eq_true rfl) dX11_load_70 (fun H locs hP hD hS => ?_)
    have hP := cP_ (pw_397 ad pr N cI cR L1 L2 Z (wA u9 0 396 (u9.1 0 308)) (u9.1 0 309)) hP
    have hD := cD_ (pw_397 ad pr N cI cR L1 L2 Z (wA u9 0 396 (u9.1 0 308)) (u9.1 0 309)) hD
    refine lv_aload_n hx hb dX11_load_73 rfl (lv_at hl 1 rfl) ?_
    refine va_get (D := (dC, dI)) (ci := 14) (fs := oF_X11 ad pr (wA (wA u9 0 396 (u9.1 0 308)) 0 397 (u9.1 0 309))) (v := .int (u9.1 0 308)) (C := RX11) (T := TX11) (N := 12) hx hb ht itX11 hown hK hP 0 rfl rfl 6 (by decide) (ht _ tw_922) (fun _ h9 => h9) rfl dX11_load_74 ?_
    refine lv_if_ne (tgt := 111) hx hb dX11_load_77 (by decide) (fun h7 => ?_) (fun h7 => ?_)
    · have z8 : (u9.1 0 308).toInt ≠ (0 : Int) := ne_z rfl (show (0 : Int32).toInt = (0 : Int) by decide) h7
      refine lv_aload_n hx hb dX11_load_111 rfl (lv_at hl 1 rfl) ?_
      refine va_get (D := (dC, dI)) (ci := 14) (fs := oF_X11 ad pr (wA (wA u9 0 396 (u9.1 0 308)) 0 397 (u9.1 0 309))) (v := .int (u9.1 0 308)) (C := RX11) (T := TX11) (N := 12) hx hb ht itX11 hown hK hP 0 rfl rfl 6 (by decide) (ht _ tw_922) (fun _ h9 => h9) rfl dX11_load_112 ?_
      refine lv_if_ne (tgt := 143) hx hb dX11_load_115 (by decide) (fun h9 => ?_) (fun h9 => ?_)
      · have z10 : (u9.1 0 308).toInt ≠ (0 : Int) := ne_z rfl (show (0 : Int32).toInt = (0 : Int) by decide) h9
        refine lv_aload_n hx hb dX11_load_143 rfl (lv_at hl 1 rfl) ?_
        refine va_get (D := (dC, dI)) (ci := 14) (fs := oF_X11 ad pr (wA (wA u9 0 396 (u9.1 0 308)) 0 397 (u9.1 0 309))) (v := .int (u9.1 0 308)) (C := RX11) (T := TX11) (N := 12) hx hb ht itX11 hown hK hP 0 rfl rfl 6 (by decide) (ht _ tw_922) (fun _ h9 => h9) rfl dX11_load_144 ?_
        have q11 : (u9.1 0 373).toInt = (u2.1 0 373).toInt := congrArg Int32.toInt ((fr9x.2.1 373 (by decide)).trans (show (wA (wA (wA u2 0 391 0) 0 396 0) 0 397 (-1)).1 0 373 = (u2.1 0 373) by rfl))
        have q12 : (u9.1 0 391).toInt = (0 : Int) := congrArg Int32.toInt ((fr9x.2.1 391 (by decide)).trans (show (wA (wA (wA u2 0 391 0) 0 396 0) 0 397 (-1)).1 0 391 = (0 : Int32) by rfl))
        exact W.iret (v := (u9.1 0 308)) hx hb hr (fun t ht9 hW => ⟨⟨(u9.1 0 308), (wA (wA u9 0 396 (u9.1 0 308)) 0 397 (u9.1 0 309)), rfl, ⟨(FC.f (FC.f (FC.tr (FC.f (FC.f (FC.f (FC.tr (FC.rf _) (FC.up fr1 (by decide) (by decide))) 0 (by decide)) 0 (by decide)) (-1) (by decide)) (FC.up fr9x (by decide) (by decide))) (u9.1 0 308) (by decide)) (u9.1 0 309) (by decide)), ⟨u2, ex1, ⟨fr1, i3731⟩, (Or.inl ⟨u9, hx9.2.2, z8, z10, rfl, rfl⟩)⟩, (show 0 ≤ (u9.1 0 373).toInt ∧ (u9.1 0 373).toInt ≤ 4000 from (om_9084c127ed i3731 q11)), (show 0 ≤ (u9.1 0 391).toInt ∧ (u9.1 0 391).toInt ≤ 4000 from (om_9036138b2b q12)), (Or.inr ⟨(show (u9.1 0 308).toInt ≠ 0 from (om_e676661a9a ne9x)), (Eq.trans (fr9x.2.1 392 (by decide)) (fr1.2.1 392 (by decide))), (Eq.trans (fr9x.2.1 393 (by decide)) (fr1.2.1 393 (by decide))), (Eq.trans (fr9x.2.1 361 (by decide)) (fr1.2.1 361 (by decide)))⟩), (show (u9.1 0 391).toInt = 0 from (om_770ca75dd5 q12))⟩, by rw [ht9]; exact hP, hD⟩, hS.F ht9⟩) hS.2.2 dX11_load_147
      · have z13 : (u9.1 0 308).toInt = (0 : Int) := eq_z rfl (show (0 : Int32).toInt = (0 : Int) by decide) h9
        exact False.elim (om_18842d68f1 ne9x z13)
    · have z14 : (u9.1 0 308).toInt = (0 : Int) := eq_z rfl (show (0 : Int32).toInt = (0 : Int) by decide) h7
      exact False.elim (om_18842d68f1 ne9x z14)
  refine W.widen (k := 1) (n := 6) (Nat.le_refl _) (Nat.le_refl _) ?_
  obtain ⟨fr4, ex4, i3044, i3054, i3064, i3214, i3264, i3814⟩ := hw4
  have i3044 : 0 ≤ (u5.1 0 304).toInt ∧ (u5.1 0 304).toInt ≤ 1503 := i3044
  have i3054 : 0 ≤ (u5.1 0 305).toInt ∧ (u5.1 0 305).toInt ≤ 1500 := i3054
  have i3064 : 0 ≤ (u5.1 0 306).toInt ∧ (u5.1 0 306).toInt ≤ 40 := i3064
  have i3214 : 0 ≤ (u5.1 0 321).toInt ∧ (u5.1 0 321).toInt ≤ 501 := i3214
  have i3264 : 0 ≤ (u5.1 0 326).toInt ∧ (u5.1 0 326).toInt ≤ 420 := i3264
  have i3814 : 0 ≤ (u5.1 0 381).toInt ∧ (u5.1 0 381).toInt ≤ 3008 := i3814
  have hP := cP_ (pW_up fr4 (by decide)) hP
  have hD := cD_ (pW_up fr4 (by decide)) hD
  refine lv_goto (tgt := 73) hx hb dX11_load_41 (by decide) ?_
  refine lv_aload_n hx hb dX11_load_73 rfl (lv_at hl 0 rfl) ?_
  refine va_get (D := (dC, dI)) (ci := 14) (fs := oF_X11 ad pr u5) (v := .int (u5.1 0 396)) (C := RX11) (T := TX11) (N := 12) hx hb ht itX11 hown hK hP 0 rfl rfl 6 (by decide) (ht _ tw_922) (fun _ h9 => h9) rfl dX11_load_74 ?_
  refine lv_if_ne (tgt := 111) hx hb dX11_load_77 (by decide) (fun h15 => ?_) (fun h15 => ?_)
  · have z16 : (u5.1 0 396).toInt ≠ (0 : Int) := ne_z rfl (show (0 : Int32).toInt = (0 : Int) by decide) h15
    have q17 : (u5.1 0 396).toInt = (0 : Int) := congrArg Int32.toInt ((fr4.2.1 396 (by decide)).trans (show (wA (wA (wA u2 0 391 0) 0 396 0) 0 397 (-1)).1 0 396 = (0 : Int32) by rfl))
    exact False.elim (om_e92e9f8ce0 q17 z16)
  · have z18 : (u5.1 0 396).toInt = (0 : Int) := eq_z rfl (show (0 : Int32).toInt = (0 : Int) by decide) h15
    refine lv_aload_n hx hb dX11_load_80 rfl (lv_at hl 0 rfl) ?_
    refine va_get (D := (dC, dI)) (ci := 14) (fs := oF_X11 ad pr u5) (v := .ref (ad 904)) (C := RX11) (T := TX11) (N := 12) hx hb ht itX11 hown hK hP 0 rfl rfl 5 (by decide) (ht _ tw_973) (fun _ h9 => h9) rfl dX11_load_81 ?_
    refine lv_aload_n hx hb dX11_load_84 rfl (lv_at hl 0 rfl) ?_
    refine va_get (D := (dC, dI)) (ci := 14) (fs := oF_X11 ad pr u5) (v := .ref (pr (u5.1 0 393))) (C := RX11) (T := TX11) (N := 12) hx hb ht itX11 hown hK hP 0 rfl rfl 3 (by decide) (ht _ tw_966) (fun _ h9 => h9) rfl dX11_load_85 ?_
    refine W.eq (g2 := F0 m 88 ls [.ref (pr ps), .ref (ad 904)]) (by rw [show (u5.1 0 393) = ps from (Eq.trans (fr4.2.1 393 (by decide)) (Eq.trans (fr1.2.1 393 (by decide)) es393))]) ?_
    refine cA_i (rn_Vk (n := 1) (As := [.ref (pr ps)]) (rest := []) hx hb hml hown ht hKK hFx hP hD hS hA (c_x_X0_assemble l dC dI cI cB cZ cJ cR tb H.size ad pr N L1 L2 u5 ps (show 0 ≤ (u5.1 0 381).toInt ∧ (u5.1 0 381).toInt ≤ 3008 from (om_e78eec72e1 i3814)) (show (N : Int) ≤ 4096 from (om_1c2c49c46c zNN)) (show L1.length = 40 from hL1) (show L2.length = 60 from hL2) (show RP u5 from ((show FC [300, 304, 305, 306, 307, 308, 309, 310, 312, 313, 314, 315, 317, 321, 326, 327, 331, 332, 333, 334, 337, 338, 339, 340, 341, 342, 361, 373, 375, 377, 381, 383, 384, 391, 392, 393, 396, 397] [0, 301, 302, 303, 311, 316, 318, 319, 320, 324, 325, 336, 372, 378, 379, 380, 382] v u5 from (FC.tr (FC.f (FC.f (FC.f (FC.tr (FC.rf _) (FC.up fr1 (by decide) (by decide))) 0 (by decide)) 0 (by decide)) (-1) (by decide)) (FC.up fr4 (by decide) (by decide)))).1 rp)) (show pr ps = ad 908 from hps)) tw_974 tw_975 (by decide +kernel) rfl rfl ⟨Nat.le_of_ble_eq_true rfl, Nat.le_of_ble_eq_true rfl⟩ (ixC (cW ad pr N cI cR L1 L2 u5).length) (ixC_map _ _ _) (ixC_nd _) 4 rfl rfl rfl rfl hl.1 rfl (Nat.le_of_ble_eq_true rfl) dX11_load_88 ⟨Nat.le_of_ble_eq_true rfl, Nat.le_of_ble_eq_true rfl⟩) hP hD hS hA (fun r21 u20 H locs hw19 hP hD hS => ?_)
    obtain ⟨fr19, ex19, bz19⟩ := hw19
    have bz19 : r21 = 0 ∨ r21 = 1 := bz19
    refine W.widen (k := 1) (n := 6) (Nat.le_refl _) (Nat.le_refl _) ?_
    have hP := cP_ (pW_up fr19 (by decide)) hP
    have hD := cD_ (pW_up fr19 (by decide)) hD
    refine lv_if_ne (tgt := 111) hx hb dX11_load_91 (by decide) (fun h22 => ?_) (fun h22 => ?_)
    · have z23 : r21.toInt ≠ (0 : Int) := ne_z rfl (show (0 : Int32).toInt = (0 : Int) by decide) h22
      refine lv_aload_n hx hb dX11_load_111 rfl (lv_at hl 0 rfl) ?_
      refine va_get (D := (dC, dI)) (ci := 14) (fs := oF_X11 ad pr u20) (v := .int (u20.1 0 396)) (C := RX11) (T := TX11) (N := 12) hx hb ht itX11 hown hK hP 0 rfl rfl 6 (by decide) (ht _ tw_922) (fun _ h9 => h9) rfl dX11_load_112 ?_
      refine lv_if_ne (tgt := 143) hx hb dX11_load_115 (by decide) (fun h24 => ?_) (fun h24 => ?_)
      · have z25 : (u20.1 0 396).toInt ≠ (0 : Int) := ne_z rfl (show (0 : Int32).toInt = (0 : Int) by decide) h24
        have q26 : (u5.1 0 396).toInt = (0 : Int) := congrArg Int32.toInt ((fr4.2.1 396 (by decide)).trans (show (wA (wA (wA u2 0 391 0) 0 396 0) 0 397 (-1)).1 0 396 = (0 : Int32) by rfl))
        have q27 : (u20.1 0 396).toInt = (u5.1 0 396).toInt := congrArg Int32.toInt ((fr19.2.1 396 (by decide)).trans (show u5.1 0 396 = (u5.1 0 396) by rfl))
        exact False.elim (om_40f0ba6dfb q26 q27 z25)
      · have z28 : (u20.1 0 396).toInt = (0 : Int) := eq_z rfl (show (0 : Int32).toInt = (0 : Int) by decide) h24
        refine lv_aload_n hx hb dX11_load_118 rfl (lv_at hl 0 rfl) ?_
        refine va_get (D := (dC, dI)) (ci := 14) (fs := oF_X11 ad pr u20) (v := .ref (pr (u20.1 0 392))) (C := RX11) (T := TX11) (N := 12) hx hb ht itX11 hown hK hP 0 rfl rfl 2 (by decide) (ht _ tw_924) (fun _ h9 => h9) rfl dX11_load_119 ?_
        refine lv_astore_n (lv' := [(1, .ref (pr (u20.1 0 392))), (0, .ref (ad 909))]) hx hb dX11_load_122 rfl hl (by decide) rfl (fun ls hl => ?_)
        refine lv_aload_n hx hb dX11_load_123 rfl (lv_at hl 1 rfl) ?_
        refine lv_aload_n hx hb dX11_load_124 rfl (lv_at hl 1 rfl) ?_
        refine va_get (D := (dC, dI)) (ci := 14) (fs := oF_X11 ad pr u20) (v := .ref (pr (u20.1 0 393))) (C := RX11) (T := TX11) (N := 12) hx hb ht itX11 hown hK hP 0 rfl rfl 3 (by decide) (ht _ tw_966) (fun _ h9 => h9) rfl dX11_load_125 ?_
        refine va_put (D := (dC, dI)) (ci := 14) (fs := oF_X11 ad pr u20) (v := .ref (pr (u20.1 0 393))) (ty := .object "PocketCompiler$Program") (C := RX11) (T := TX11) (N := 12) hx hb ht itX11 tyX11 tyX11_ok nmX11 hown hK hP hD hS 0 rfl rfl 2 (by decide) (ht _ tw_924) (fun _ h9 => h9) rfl (by decide +kernel) rfl rfl (Nat.le_of_ble_eq_true rfl) dX11_load_128 (fun H locs hP hD hS => ?_)
        have hP := cP_ (pw_392 ad pr N cI cR L1 L2 Z u20 (u20.1 0 393)) hP
        have hD := cD_ (pw_392 ad pr N cI cR L1 L2 Z u20 (u20.1 0 393)) hD
        refine lv_aload_n hx hb dX11_load_131 rfl (lv_at hl 1 rfl) ?_
        refine lv_aload_n hx hb dX11_load_132 rfl (lv_at hl 0 rfl) ?_
        refine va_put (D := (dC, dI)) (ci := 14) (fs := oF_X11 ad pr (wA u20 0 392 (u20.1 0 393))) (v := .ref (pr (u20.1 0 392))) (ty := .object "PocketCompiler$Program") (C := RX11) (T := TX11) (N := 12) hx hb ht itX11 tyX11 tyX11_ok nmX11 hown hK hP hD hS 0 rfl rfl 3 (by decide) (ht _ tw_966) (fun _ h9 => h9) rfl (by decide +kernel) rfl rfl (Nat.le_of_ble_eq_true rfl) dX11_load_133 (fun H locs hP hD hS => ?_)
        have hP := cP_ (pw_393 ad pr N cI cR L1 L2 Z (wA u20 0 392 (u20.1 0 393)) (u20.1 0 392)) hP
        have hD := cD_ (pw_393 ad pr N cI cR L1 L2 Z (wA u20 0 392 (u20.1 0 393)) (u20.1 0 392)) hD
        refine lv_aload_n hx hb dX11_load_136 rfl (lv_at hl 1 rfl) ?_
        refine va_get (D := (dC, dI)) (ci := 14) (fs := oF_X11 ad pr (wA (wA u20 0 392 (u20.1 0 393)) 0 393 (u20.1 0 392))) (v := .ref (ad 907)) (C := RX11) (T := TX11) (N := 12) hx hb ht itX11 hown hK hP 0 rfl rfl 10 (by decide) (ht _ tw_929) (fun _ h9 => h9) rfl dX11_load_137 ?_
        refine cA_v (rn_Vk (n := 0) (As := []) (rest := []) hx hb hml hown ht hKK hFx hP hD hS hA (c_x_X10_drop l dC dI cI cB cZ cJ cR tb H.size ad pr N L1 L2 (wA (wA u20 0 392 (u20.1 0 393)) 0 393 (u20.1 0 392))  ) tw_976 tw_977 (by decide +kernel) rfl rfl ⟨Nat.le_of_ble_eq_true rfl, Nat.le_of_ble_eq_true rfl⟩ (ixC (cW ad pr N cI cR L1 L2 (wA (wA u20 0 392 (u20.1 0 393)) 0 393 (u20.1 0 392))).length) (ixC_map _ _ _) (ixC_nd _) 7 rfl rfl rfl rfl hl.1 rfl (Nat.le_of_ble_eq_true rfl) dX11_load_140 ⟨Nat.le_of_ble_eq_true rfl, Nat.le_of_ble_eq_true rfl⟩) hP hD hS hA (fun u30 H locs hw29 hP hD hS => ?_)
        obtain ⟨fr29, ex29, rs29⟩ := hw29
        have rs29 : RS0 (wA (wA u20 0 392 (u20.1 0 393)) 0 393 (u20.1 0 392)) u30 := rs29
        refine W.widen (k := 1) (n := 6) (Nat.le_refl _) (Nat.le_refl _) ?_
        have hP := cP_ (pW_up fr29 (by decide)) hP
        have hD := cD_ (pW_up fr29 (by decide)) hD
        refine lv_aload_n hx hb dX11_load_143 rfl (lv_at hl 1 rfl) ?_
        refine va_get (D := (dC, dI)) (ci := 14) (fs := oF_X11 ad pr u30) (v := .int (u30.1 0 396)) (C := RX11) (T := TX11) (N := 12) hx hb ht itX11 hown hK hP 0 rfl rfl 6 (by decide) (ht _ tw_922) (fun _ h9 => h9) rfl dX11_load_144 ?_
        have q32 : (u5.1 0 373).toInt = (u2.1 0 373).toInt := congrArg Int32.toInt ((fr4.2.1 373 (by decide)).trans (show (wA (wA (wA u2 0 391 0) 0 396 0) 0 397 (-1)).1 0 373 = (u2.1 0 373) by rfl))
        have q33 : (u20.1 0 373).toInt = (u5.1 0 373).toInt := congrArg Int32.toInt ((fr19.2.1 373 (by decide)).trans (show u5.1 0 373 = (u5.1 0 373) by rfl))
        have q34 : (u30.1 0 373).toInt = (u20.1 0 373).toInt := congrArg Int32.toInt ((fr29.2.1 373 (by decide)).trans (show (wA (wA u20 0 392 (u20.1 0 393)) 0 393 (u20.1 0 392)).1 0 373 = (u20.1 0 373) by rfl))
        have q35 : (u5.1 0 391).toInt = (0 : Int) := congrArg Int32.toInt ((fr4.2.1 391 (by decide)).trans (show (wA (wA (wA u2 0 391 0) 0 396 0) 0 397 (-1)).1 0 391 = (0 : Int32) by rfl))
        have q36 : (u20.1 0 391).toInt = (u5.1 0 391).toInt := congrArg Int32.toInt ((fr19.2.1 391 (by decide)).trans (show u5.1 0 391 = (u5.1 0 391) by rfl))
        have q37 : (u30.1 0 391).toInt = (u20.1 0 391).toInt := congrArg Int32.toInt ((fr29.2.1 391 (by decide)).trans (show (wA (wA u20 0 392 (u20.1 0 393)) 0 393 (u20.1 0 392)).1 0 391 = (u20.1 0 391) by rfl))
        have q38 : (u30.1 0 396).toInt = (u20.1 0 396).toInt := congrArg Int32.toInt ((fr29.2.1 396 (by decide)).trans (show (wA (wA u20 0 392 (u20.1 0 393)) 0 393 (u20.1 0 392)).1 0 396 = (u20.1 0 396) by rfl))
        have q39 : (u20.1 0 381).toInt = (u5.1 0 381).toInt := congrArg Int32.toInt ((fr19.2.1 381 (by decide)).trans (show u5.1 0 381 = (u5.1 0 381) by rfl))
        have q40 : (u30.1 0 381).toInt = (u20.1 0 381).toInt := congrArg Int32.toInt ((fr29.2.1 381 (by decide)).trans (show (wA (wA u20 0 392 (u20.1 0 393)) 0 393 (u20.1 0 392)).1 0 381 = (u20.1 0 381) by rfl))
        exact W.iret (v := (u30.1 0 396)) hx hb hr (fun t ht9 hW => ⟨⟨(u30.1 0 396), u30, rfl, ⟨(FC.tr (FC.f (FC.f (FC.tr (FC.tr (FC.f (FC.f (FC.f (FC.tr (FC.rf _) (FC.up fr1 (by decide) (by decide))) 0 (by decide)) 0 (by decide)) (-1) (by decide)) (FC.up fr4 (by decide) (by decide))) (FC.up fr19 (by decide) (by decide))) (u20.1 0 393) (by decide)) (u20.1 0 392) (by decide)) (FC.up fr29 (by decide) (by decide))), ⟨u2, ex1, ⟨fr1, i3731⟩, (Or.inr (⟨u5, ex4, ⟨fr4, i3044, i3054, i3064, i3214, i3264, i3814⟩, z18, r21, u20, ex19, fr19, (Or.inl ⟨z23, z28, u30, ex29, ⟨fr29, rs29⟩, rfl, rfl⟩)⟩))⟩, (show 0 ≤ (u30.1 0 373).toInt ∧ (u30.1 0 373).toInt ≤ 4000 from (om_282c7f458f i3731 q32 q33 q34)), (show 0 ≤ (u30.1 0 391).toInt ∧ (u30.1 0 391).toInt ≤ 4000 from (om_9270d1fe37 q35 q36 q37)), (Or.inl ⟨(show (u30.1 0 396).toInt = 0 from (om_f275a5f5ea z28 q38)), (Eq.trans (fr29.2.1 392 (by decide)) (Eq.trans (fr19.2.1 393 (by decide)) (Eq.trans (fr4.2.1 393 (by decide)) (fr1.2.1 393 (by decide))))), (Eq.trans (fr29.2.1 393 (by decide)) (Eq.trans (fr19.2.1 392 (by decide)) (Eq.trans (fr4.2.1 392 (by decide)) (fr1.2.1 392 (by decide))))), (show 0 ≤ (u30.1 0 381).toInt ∧ (u30.1 0 381).toInt ≤ 3008 from (om_769192f2a4 i3814 q39 q40))⟩), (show (u30.1 0 391).toInt = 0 from (om_e143c94a04 q35 q36 q37))⟩, by rw [ht9]; exact hP, hD⟩, hS.F ht9⟩) hS.2.2 dX11_load_147
    · have z41 : r21.toInt = (0 : Int) := eq_z rfl (show (0 : Int32).toInt = (0 : Int) by decide) h22
      refine lv_aload_n hx hb dX11_load_94 rfl (lv_at hl 0 rfl) ?_
      refine lv_bipush (v := 7) hx hb dX11_load_95 (by decide) ?_
      refine va_put (D := (dC, dI)) (ci := 14) (fs := oF_X11 ad pr u20) (v := .int 7) (ty := .int) (C := RX11) (T := TX11) (N := 12) hx hb ht itX11 tyX11 tyX11_ok nmX11 hown hK hP hD hS 0 rfl rfl 6 (by decide) (ht _ tw_922) (fun _ h9 => h9) rfl (by decide +kernel) rfl rfl (Nat.le_of_ble_eq_true rfl) dX11_load_97 (fun H locs hP hD hS => ?_)
      have hP := cP_ (pw_396 ad pr N cI cR L1 L2 Z u20 7) hP
      have hD := cD_ (pw_396 ad pr N cI cR L1 L2 Z u20 7) hD
      refine lv_aload_n hx hb dX11_load_100 rfl (lv_at hl 0 rfl) ?_
      refine lv_aload_n hx hb dX11_load_101 rfl (lv_at hl 0 rfl) ?_
      refine va_get (D := (dC, dI)) (ci := 14) (fs := oF_X11 ad pr (wA u20 0 396 7)) (v := .ref (pr (u20.1 0 393))) (C := RX11) (T := TX11) (N := 12) hx hb ht itX11 hown hK hP 0 rfl rfl 3 (by decide) (ht _ tw_966) (fun _ h9 => h9) rfl dX11_load_102 ?_
      refine W.eq (g2 := F0 m 105 ls [.ref (ad 908), .ref (ad 909)]) (by rw [show pr (u20.1 0 393) = (ad 908) from (by rw [show (u20.1 0 393) = ps from (Eq.trans (fr19.2.1 393 (by decide)) (Eq.trans (fr4.2.1 393 (by decide)) (Eq.trans (fr1.2.1 393 (by decide)) es393)))]; exact hps)]) ?_
      refine va_get (D := (dC, dI)) (ci := 10) (fs := oF_X7 ad pr (wA u20 0 396 7)) (v := .int (u20.1 0 373)) (C := RX7) (T := TX7) (N := 13) hx hb ht itX7 hown hK hP 9 rfl rfl 1 (by decide) (ht _ tw_978) (fun _ h9 => h9) rfl dX11_load_105 ?_
      refine va_put (D := (dC, dI)) (ci := 14) (fs := oF_X11 ad pr (wA u20 0 396 7)) (v := .int (u20.1 0 373)) (ty := .int) (C := RX11) (T := TX11) (N := 12) hx hb ht itX11 tyX11 tyX11_ok nmX11 hown hK hP hD hS 0 rfl rfl 7 (by decide) (ht _ tw_923) (fun _ h9 => h9) rfl (by decide +kernel) rfl rfl (Nat.le_of_ble_eq_true rfl) dX11_load_108 (fun H locs hP hD hS => ?_)
      have hP := cP_ (pw_397 ad pr N cI cR L1 L2 Z (wA u20 0 396 7) (u20.1 0 373)) hP
      have hD := cD_ (pw_397 ad pr N cI cR L1 L2 Z (wA u20 0 396 7) (u20.1 0 373)) hD
      refine lv_aload_n hx hb dX11_load_111 rfl (lv_at hl 0 rfl) ?_
      refine va_get (D := (dC, dI)) (ci := 14) (fs := oF_X11 ad pr (wA (wA u20 0 396 7) 0 397 (u20.1 0 373))) (v := .int 7) (C := RX11) (T := TX11) (N := 12) hx hb ht itX11 hown hK hP 0 rfl rfl 6 (by decide) (ht _ tw_922) (fun _ h9 => h9) rfl dX11_load_112 ?_
      refine lv_if_ne (tgt := 143) hx hb dX11_load_115 (by decide) (fun _ => ?_) (fun k42 => absurd k42 (by decide))
      refine lv_aload_n hx hb dX11_load_143 rfl (lv_at hl 0 rfl) ?_
      refine va_get (D := (dC, dI)) (ci := 14) (fs := oF_X11 ad pr (wA (wA u20 0 396 7) 0 397 (u20.1 0 373))) (v := .int 7) (C := RX11) (T := TX11) (N := 12) hx hb ht itX11 hown hK hP 0 rfl rfl 6 (by decide) (ht _ tw_922) (fun _ h9 => h9) rfl dX11_load_144 ?_
      have q43 : (u5.1 0 373).toInt = (u2.1 0 373).toInt := congrArg Int32.toInt ((fr4.2.1 373 (by decide)).trans (show (wA (wA (wA u2 0 391 0) 0 396 0) 0 397 (-1)).1 0 373 = (u2.1 0 373) by rfl))
      have q44 : (u20.1 0 373).toInt = (u5.1 0 373).toInt := congrArg Int32.toInt ((fr19.2.1 373 (by decide)).trans (show u5.1 0 373 = (u5.1 0 373) by rfl))
      have q45 : (u5.1 0 391).toInt = (0 : Int) := congrArg Int32.toInt ((fr4.2.1 391 (by decide)).trans (show (wA (wA (wA u2 0 391 0) 0 396 0) 0 397 (-1)).1 0 391 = (0 : Int32) by rfl))
      have q46 : (u20.1 0 391).toInt = (u5.1 0 391).toInt := congrArg Int32.toInt ((fr19.2.1 391 (by decide)).trans (show u5.1 0 391 = (u5.1 0 391) by rfl))
      exact W.iret (v := 7) hx hb hr (fun t ht9 hW => ⟨⟨7, (wA (wA u20 0 396 7) 0 397 (u20.1 0 373)), rfl, ⟨(FC.f (FC.f (FC.tr (FC.tr (FC.f (FC.f (FC.f (FC.tr (FC.rf _) (FC.up fr1 (by decide) (by decide))) 0 (by decide)) 0 (by decide)) (-1) (by decide)) (FC.up fr4 (by decide) (by decide))) (FC.up fr19 (by decide) (by decide))) 7 (by decide)) (u20.1 0 373) (by decide)), ⟨u2, ex1, ⟨fr1, i3731⟩, (Or.inr (⟨u5, ex4, ⟨fr4, i3044, i3054, i3064, i3214, i3264, i3814⟩, z18, r21, u20, ex19, fr19, (Or.inr (⟨z41, rfl, rfl⟩))⟩))⟩, (show 0 ≤ (u20.1 0 373).toInt ∧ (u20.1 0 373).toInt ≤ 4000 from (om_03cd8767ac i3731 q43 q44)), (show 0 ≤ (u20.1 0 391).toInt ∧ (u20.1 0 391).toInt ≤ 4000 from (om_9f39163f06 q45 q46)), (Or.inr ⟨(show (7 : Int) ≠ 0 from om_69074b5a00), (Eq.trans (fr19.2.1 392 (by decide)) (Eq.trans (fr4.2.1 392 (by decide)) (fr1.2.1 392 (by decide)))), (Eq.trans (fr19.2.1 393 (by decide)) (Eq.trans (fr4.2.1 393 (by decide)) (fr1.2.1 393 (by decide)))), (Eq.trans (fr19.2.1 361 (by decide)) (Eq.trans (fr4.2.1 361 (by decide)) (fr1.2.1 361 (by decide))))⟩), (show (u20.1 0 391).toInt = 0 from (om_f275a5f5ea q45 q46))⟩, by rw [ht9]; exact hP, hD⟩, hS.F ht9⟩) hS.2.2 dX11_load_147
