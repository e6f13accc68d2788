theorem dX13_unlessTrue_0 : decode cX13_unlessTrue 0 = .ok (.aload_n 0, 1) := by decide +kernel
theorem dX13_unlessTrue_1 : decode cX13_unlessTrue 1 = .ok (.iconst 1, 1) := by decide +kernel
theorem dX13_unlessTrue_2 : decode cX13_unlessTrue 2 = .ok (.bipush 10, 2) := by decide +kernel
theorem dX13_unlessTrue_4 : decode cX13_unlessTrue 4 = .ok (.iconst 0, 1) := by decide +kernel
theorem dX13_unlessTrue_5 : decode cX13_unlessTrue 5 = .ok (.bipush 8, 2) := by decide +kernel
theorem dX13_unlessTrue_7 : decode cX13_unlessTrue 7 = .ok (.invokestatic 293, 3) := by decide +kernel
theorem dX13_unlessTrue_10 : decode cX13_unlessTrue 10 = .ok (.invokevirtual 111, 3) := by decide +kernel
theorem dX13_unlessTrue_13 : decode cX13_unlessTrue 13 = .ok (.pop, 1) := by decide +kernel
theorem dX13_unlessTrue_14 : decode cX13_unlessTrue 14 = .ok (.aload_n 0, 1) := by decide +kernel
theorem dX13_unlessTrue_15 : decode cX13_unlessTrue 15 = .ok (.iconst (-1), 1) := by decide +kernel
theorem dX13_unlessTrue_16 : decode cX13_unlessTrue 16 = .ok (.invokevirtual 314, 3) := by decide +kernel
theorem dX13_unlessTrue_19 : decode cX13_unlessTrue 19 = .ok (.istore_n 1, 1) := by decide +kernel
theorem dX13_unlessTrue_20 : decode cX13_unlessTrue 20 = .ok (.aload_n 0, 1) := by decide +kernel
theorem dX13_unlessTrue_21 : decode cX13_unlessTrue 21 = .ok (.aload_n 0, 1) := by decide +kernel
theorem dX13_unlessTrue_22 : decode cX13_unlessTrue 22 = .ok (.bipush 10, 2) := by decide +kernel
theorem dX13_unlessTrue_24 : decode cX13_unlessTrue 24 = .ok (.iconst 0, 1) := by decide +kernel
theorem dX13_unlessTrue_25 : decode cX13_unlessTrue 25 = .ok (.invokevirtual 210, 3) := by decide +kernel
theorem dX13_unlessTrue_28 : decode cX13_unlessTrue 28 = .ok (.putfield 362, 3) := by decide +kernel
theorem tw_138 : (.fieldLink RX13 362 "PocketCompilerModel" "mJump" "I" : Cond) ∈ tw_W := tw_in (by decide +kernel) (by decide +kernel)
theorem dX13_unlessTrue_31 : decode cX13_unlessTrue 31 = .ok (.iload_n 1, 1) := by decide +kernel
theorem dX13_unlessTrue_32 : decode cX13_unlessTrue 32 = .ok (.ireturn, 1) := by decide +kernel
theorem dX13_condition_0 : decode cX13_condition 0 = .ok (.aload_n 0, 1) := by decide +kernel
theorem dX13_condition_1 : decode cX13_condition 1 = .ok (.bipush 40, 2) := by decide +kernel
theorem dX13_condition_3 : decode cX13_condition 3 = .ok (.invokevirtual 281, 3) := by decide +kernel
theorem dX13_condition_6 : decode cX13_condition 6 = .ok (.aload_n 0, 1) := by decide +kernel
theorem dX13_condition_7 : decode cX13_condition 7 = .ok (.invokevirtual 284, 3) := by decide +kernel
theorem dX13_condition_10 : decode cX13_condition 10 = .ok (.aload_n 0, 1) := by decide +kernel
theorem dX13_condition_11 : decode cX13_condition 11 = .ok (.bipush 41, 2) := by decide +kernel
theorem dX13_condition_13 : decode cX13_condition 13 = .ok (.invokevirtual 287, 3) := by decide +kernel
theorem dX13_condition_16 : decode cX13_condition 16 = .ok (.aload_n 0, 1) := by decide +kernel
theorem dX13_condition_17 : decode cX13_condition 17 = .ok (.invokevirtual 359, 3) := by decide +kernel
theorem tw_139 : (.code yX13_unlessTrue cX13_unlessTrue 2 (some .int) : Cond) ∈ tw_W := tw_in (by decide +kernel) (by decide +kernel)
theorem tw_140 : ∀ w ∈ ([.methodLink RX13 359 yX13_unlessTrue, .instanceMethod yX13_unlessTrue, .selects RX13 yX13_unlessTrue yX13_unlessTrue, .initialized RX13] : List Cond), w ∈ tw_W := tw_all (by decide +kernel)
theorem dX13_condition_20 : decode cX13_condition 20 = .ok (.ireturn, 1) := by decide +kernel
theorem dX13_ends_0 : decode cX13_ends 0 = .ok (.aload_n 0, 1) := by decide +kernel
theorem dX13_ends_1 : decode cX13_ends 1 = .ok (.aload_n 0, 1) := by decide +kernel
theorem dX13_ends_2 : decode cX13_ends 2 = .ok (.getfield 413, 3) := by decide +kernel
theorem tw_141 : (.fieldLink RX13 413 "PocketCompilerModel" "breaks" "I" : Cond) ∈ tw_W := tw_in (by decide +kernel) (by decide +kernel)
theorem dX13_ends_5 : decode cX13_ends 5 = .ok (.aload_n 0, 1) := by decide +kernel
theorem dX13_ends_6 : decode cX13_ends 6 = .ok (.getfield 104, 3) := by decide +kernel
theorem dX13_ends_9 : decode cX13_ends 9 = .ok (.invokevirtual 446, 3) := by decide +kernel
theorem tw_142 : (.code yX13_land cX13_land 5 none : Cond) ∈ tw_W := tw_in (by decide +kernel) (by decide +kernel)
theorem tw_143 : ∀ w ∈ ([.methodLink RX13 446 yX13_land, .instanceMethod yX13_land, .selects RX13 yX13_land yX13_land, .initialized RX13] : List Cond), w ∈ tw_W := tw_all (by decide +kernel)
theorem dX13_ends_12 : decode cX13_ends 12 = .ok (.aload_n 0, 1) := by decide +kernel
theorem dX13_ends_13 : decode cX13_ends 13 = .ok (.aload_n 0, 1) := by decide +kernel
theorem dX13_ends_14 : decode cX13_ends 14 = .ok (.getfield 419, 3) := by decide +kernel
theorem tw_144 : (.fieldLink RX13 419 "PocketCompilerModel" "mBreaks" "I" : Cond) ∈ tw_W := tw_in (by decide +kernel) (by decide +kernel)
theorem dX13_ends_17 : decode cX13_ends 17 = .ok (.aload_n 0, 1) := by decide +kernel
theorem dX13_ends_18 : decode cX13_ends 18 = .ok (.getfield 121, 3) := by decide +kernel
theorem dX13_ends_21 : decode cX13_ends 21 = .ok (.invokevirtual 449, 3) := by decide +kernel
theorem tw_145 : (.code yX13_arrive cX13_arrive 5 none : Cond) ∈ tw_W := tw_in (by decide +kernel) (by decide +kernel)
theorem tw_146 : ∀ w ∈ ([.methodLink RX13 449 yX13_arrive, .instanceMethod yX13_arrive, .selects RX13 yX13_arrive yX13_arrive, .initialized RX13] : List Cond), w ∈ tw_W := tw_all (by decide +kernel)
theorem dX13_ends_24 : decode cX13_ends 24 = .ok (.aload_n 0, 1) := by decide +kernel
theorem dX13_ends_25 : decode cX13_ends 25 = .ok (.dup, 1) := by decide +kernel
theorem dX13_ends_26 : decode cX13_ends 26 = .ok (.getfield 410, 3) := by decide +kernel
theorem tw_147 : (.fieldLink RX13 410 "PocketCompilerModel" "loops" "I" : Cond) ∈ tw_W := tw_in (by decide +kernel) (by decide +kernel)
theorem dX13_ends_29 : decode cX13_ends 29 = .ok (.iconst 1, 1) := by decide +kernel
theorem dX13_ends_30 : decode cX13_ends 30 = .ok (.isub, 1) := by decide +kernel
theorem dX13_ends_31 : decode cX13_ends 31 = .ok (.putfield 410, 3) := by decide +kernel
theorem dX13_ends_34 : decode cX13_ends 34 = .ok (.aload_n 0, 1) := by decide +kernel
theorem dX13_ends_35 : decode cX13_ends 35 = .ok (.aload_n 0, 1) := by decide +kernel
theorem dX13_ends_36 : decode cX13_ends 36 = .ok (.getfield 407, 3) := by decide +kernel
theorem tw_148 : (.fieldLink RX13 407 "PocketCompilerModel" "hadBreaks" "[I" : Cond) ∈ tw_W := tw_in (by decide +kernel) (by decide +kernel)
theorem dX13_ends_39 : decode cX13_ends 39 = .ok (.aload_n 0, 1) := by decide +kernel
theorem dX13_ends_40 : decode cX13_ends 40 = .ok (.getfield 410, 3) := by decide +kernel
theorem dX13_ends_43 : decode cX13_ends 43 = .ok (.iaload, 1) := by decide +kernel
theorem dX13_ends_44 : decode cX13_ends 44 = .ok (.putfield 413, 3) := by decide +kernel
theorem dX13_ends_47 : decode cX13_ends 47 = .ok (.aload_n 0, 1) := by decide +kernel
theorem dX13_ends_48 : decode cX13_ends 48 = .ok (.aload_n 0, 1) := by decide +kernel
theorem dX13_ends_49 : decode cX13_ends 49 = .ok (.getfield 416, 3) := by decide +kernel
theorem tw_149 : (.fieldLink RX13 416 "PocketCompilerModel" "hadMBreaks" "[I" : Cond) ∈ tw_W := tw_in (by decide +kernel) (by decide +kernel)
theorem dX13_ends_52 : decode cX13_ends 52 = .ok (.aload_n 0, 1) := by decide +kernel
theorem dX13_ends_53 : decode cX13_ends 53 = .ok (.getfield 410, 3) := by decide +kernel
theorem dX13_ends_56 : decode cX13_ends 56 = .ok (.iaload, 1) := by decide +kernel
theorem dX13_ends_57 : decode cX13_ends 57 = .ok (.putfield 419, 3) := by decide +kernel
theorem dX13_ends_60 : decode cX13_ends 60 = .ok (.aload_n 0, 1) := by decide +kernel
theorem dX13_ends_61 : decode cX13_ends 61 = .ok (.aload_n 0, 1) := by decide +kernel
theorem dX13_ends_62 : decode cX13_ends 62 = .ok (.getfield 422, 3) := by decide +kernel
theorem tw_150 : (.fieldLink RX13 422 "PocketCompilerModel" "hadAgain" "[I" : Cond) ∈ tw_W := tw_in (by decide +kernel) (by decide +kernel)
theorem dX13_ends_65 : decode cX13_ends 65 = .ok (.aload_n 0, 1) := by decide +kernel
theorem dX13_ends_66 : decode cX13_ends 66 = .ok (.getfield 410, 3) := by decide +kernel
theorem dX13_ends_69 : decode cX13_ends 69 = .ok (.iaload, 1) := by decide +kernel
theorem dX13_ends_70 : decode cX13_ends 70 = .ok (.putfield 425, 3) := by decide +kernel
theorem tw_151 : (.fieldLink RX13 425 "PocketCompilerModel" "again" "I" : Cond) ∈ tw_W := tw_in (by decide +kernel) (by decide +kernel)
theorem dX13_ends_73 : decode cX13_ends 73 = .ok (.aload_n 0, 1) := by decide +kernel
theorem dX13_ends_74 : decode cX13_ends 74 = .ok (.aload_n 0, 1) := by decide +kernel
theorem dX13_ends_75 : decode cX13_ends 75 = .ok (.getfield 428, 3) := by decide +kernel
theorem tw_152 : (.fieldLink RX13 428 "PocketCompilerModel" "hadMAgain" "[I" : Cond) ∈ tw_W := tw_in (by decide +kernel) (by decide +kernel)
theorem dX13_ends_78 : decode cX13_ends 78 = .ok (.aload_n 0, 1) := by decide +kernel
theorem dX13_ends_79 : decode cX13_ends 79 = .ok (.getfield 410, 3) := by decide +kernel
theorem dX13_ends_82 : decode cX13_ends 82 = .ok (.iaload, 1) := by decide +kernel
theorem dX13_ends_83 : decode cX13_ends 83 = .ok (.putfield 431, 3) := by decide +kernel
theorem tw_153 : (.fieldLink RX13 431 "PocketCompilerModel" "mAgain" "I" : Cond) ∈ tw_W := tw_in (by decide +kernel) (by decide +kernel)
theorem dX13_ends_86 : decode cX13_ends 86 = .ok (.aload_n 0, 1) := by decide +kernel
theorem dX13_ends_87 : decode cX13_ends 87 = .ok (.aload_n 0, 1) := by decide +kernel
theorem dX13_ends_88 : decode cX13_ends 88 = .ok (.getfield 434, 3) := by decide +kernel
theorem tw_154 : (.fieldLink RX13 434 "PocketCompilerModel" "hadAgains" "[I" : Cond) ∈ tw_W := tw_in (by decide +kernel) (by decide +kernel)
theorem dX13_ends_91 : decode cX13_ends 91 = .ok (.aload_n 0, 1) := by decide +kernel
theorem dX13_ends_92 : decode cX13_ends 92 = .ok (.getfield 410, 3) := by decide +kernel
theorem dX13_ends_95 : decode cX13_ends 95 = .ok (.iaload, 1) := by decide +kernel
theorem dX13_ends_96 : decode cX13_ends 96 = .ok (.putfield 437, 3) := by decide +kernel
theorem tw_155 : (.fieldLink RX13 437 "PocketCompilerModel" "agains" "I" : Cond) ∈ tw_W := tw_in (by decide +kernel) (by decide +kernel)
theorem dX13_ends_99 : decode cX13_ends 99 = .ok (.aload_n 0, 1) := by decide +kernel
theorem dX13_ends_100 : decode cX13_ends 100 = .ok (.aload_n 0, 1) := by decide +kernel
theorem dX13_ends_101 : decode cX13_ends 101 = .ok (.getfield 440, 3) := by decide +kernel
theorem tw_156 : (.fieldLink RX13 440 "PocketCompilerModel" "hadMAgains" "[I" : Cond) ∈ tw_W := tw_in (by decide +kernel) (by decide +kernel)
theorem dX13_ends_104 : decode cX13_ends 104 = .ok (.aload_n 0, 1) := by decide +kernel
theorem dX13_ends_105 : decode cX13_ends 105 = .ok (.getfield 410, 3) := by decide +kernel
theorem dX13_ends_108 : decode cX13_ends 108 = .ok (.iaload, 1) := by decide +kernel
theorem dX13_ends_109 : decode cX13_ends 109 = .ok (.putfield 443, 3) := by decide +kernel
theorem tw_157 : (.fieldLink RX13 443 "PocketCompilerModel" "mAgains" "I" : Cond) ∈ tw_W := tw_in (by decide +kernel) (by decide +kernel)
theorem dX13_ends_112 : decode cX13_ends 112 = .ok (.return_, 1) := by decide +kernel
theorem om_730284716e {x0 x1 : Int} (h0 : x0 = ((x1) + (1 : Int)) + (1 : Int)) : x0 = x1 + 2 := by omega
set_option maxHeartbeats 4000000 in
set_option maxRecDepth 100000 in
theorem c_m_unlessTrue (l : Launch) (dC : Nat → ClassId) (dI : Nat → Nat → Nat) (cI cB cZ cJ cR : ClassId) (tb : Nat → Nat) (sz : Nat) (ad : Nat → Nat) (N : Nat) (v : MS)  (zw : 0 ≤ (v.1 0 12).toInt ∧ (v.1 0 12).toInt ≤ 23980) (zo : 0 ≤ (v.1 0 15).toInt ∧ (v.1 0 15).toInt ≤ 15980) : Met l yX13_unlessTrue (Cond.code yX13_unlessTrue cX13_unlessTrue 2 (some .int) :: tw_W) ({ frames := 2, cells := 0, slots := 0, locals := 42 }) (pc_ (dC, dI) (tyS cI cB cZ cJ cR) tb (mW ad N cI cZ cJ v) sz [.ref (ad 0)]) (qi_ (dC, dI) (mW ad N cI cZ cJ v) sz (fun (r : Int32) (u : MS) => FG [12, 15, 60] [0, 11, 13, 14] v u ∧ ((u.1 0 12).toInt = (v.1 0 12).toInt + 2) ∧ ((u.1 0 15).toInt = (v.1 0 15).toInt + 1) ∧ (r.toInt = (v.1 0 12).toInt + 1) ∧ ((u.1 0 60).toInt = (v.1 0 15).toInt) ∧ (∀ j : Nat, (j : Int) < (v.1 0 12).toInt → (u.1 11) j = (v.1 11) j) ∧ (∀ j : Nat, (j : Int) < (v.1 0 15).toInt → (u.1 13) j = (v.1 13) j) ∧ (∀ j : Nat, (j : Int) < (v.1 0 15).toInt → (u.1 14) j = (v.1 14) j)) (fun (u : MS) => (mW ad N cI cZ cJ u))) 0 0 (va_A (mW ad N cI cZ cJ v) sz) := by
  refine Met.ofW (cc := cX13_unlessTrue) (maxL := 2) (ret := (some .int)) (by decide) rfl ?_
  intro p e s m args below meth c s₁ B hml hv
  obtain ⟨rfl, hsz, hP, hKK, hD0, hFx⟩ := hv
  have hK := hKK.1
  have hx := B.exec
  have hb := B.bytes
  have hr := B.returns
  have ht : ∀ w ∈ tw_W, w.before _ s = true := fun w h => atoms_spec (ws := Cond.code yX13_unlessTrue cX13_unlessTrue 2 (some .int) :: tw_W) B.pre w (List.mem_cons_of_mem _ h)
  have hown : s.vm.findClass RX13 = some m.cls := findClass_of_methodNamed B.named
  have hlocks := B.notSynchronized
  subst hsz
  unfold qi_
  have hD := hD0.self (sz := s.heap.size)
  generalize hAe : va_A (mW ad N cI cZ cJ v) s.heap.size = A at hD hFx ⊢
  have hA : ∀ q : Nat, s.heap.size ≤ q → A q := fun q h => by rw [← hAe]; exact Or.inr h
  have hS : va_S A s.heap s.heap [] := va_S.rf
  have hl := lv_entry ([.ref (ad 0)]) (n := 2) (Nat.le_of_ble_eq_true rfl)
  rw [lg_entry_eq]
  generalize (lg_sl ([.ref (ad 0)]) ++ List.replicate (2 - (lg_sl ([.ref (ad 0)])).length) Slot.unset).toArray = ls at hl ⊢
  have hl : lv_has ls 2 [(0, .ref (ad 0))] := hl
  refine lv_aload_n hx hb dX13_unlessTrue_0 rfl (lv_at hl 0 rfl) ?_
  refine lv_iconst (v := 1) hx hb dX13_unlessTrue_1 (by decide) ?_
  refine lv_bipush (v := 10) hx hb dX13_unlessTrue_2 (by decide) ?_
  refine lv_iconst (v := 0) hx hb dX13_unlessTrue_4 (by decide) ?_
  refine lv_bipush (v := 8) hx hb dX13_unlessTrue_5 (by decide) ?_
  refine cu_s (mW_nd _ _ _ _ _ _) (rn_S (n := 4) (As := [.int 1, .int 10, .int 0, .int 8]) (rest := [.ref (ad 0)]) hx hb hml hown ht hKK hFx hP hD hS hA (c_m_byB l dC dI cI cB cZ cJ cR tb s.heap.size (1 : Int32) (10 : Int32) (0 : Int32) (8 : Int32) ) tw_85 tw_86 (by decide +kernel) rfl rfl ⟨Nat.le_of_ble_eq_true rfl, Nat.le_of_ble_eq_true rfl⟩ [] rfl rfl rfl hl.1 rfl (Nat.le_of_ble_eq_true rfl) dX13_unlessTrue_7 ⟨Nat.le_of_ble_eq_true rfl, Nat.le_of_ble_eq_true rfl⟩) hP hD hS hA (fun r3 H locs hw1 hP hD hS => ?_)
  refine W.widen (k := 0) (n := 0) (Nat.le_refl _) (Nat.le_refl _) ?_
  refine cu_i (rn_V (n := 1) (As := [.int r3]) (rest := []) hx hb hml hown ht hKK hFx hP hD hS hA (c_m_emit l dC dI cI cB cZ cJ cR tb H.size ad N v r3 (show 0 ≤ (v.1 0 12).toInt ∧ (v.1 0 12).toInt < 24000 from (om_bd95b2e5c4 zw))) tw_8 tw_9 (by decide +kernel) rfl rfl ⟨Nat.le_of_ble_eq_true rfl, Nat.le_of_ble_eq_true rfl⟩ (List.range (mW ad N cI cZ cJ v).length) (rg_map _) (mW_nd _ _ _ _ _ _) rfl rfl rfl rfl hl.1 rfl (Nat.le_of_ble_eq_true rfl) dX13_unlessTrue_10 ⟨Nat.le_of_ble_eq_true rfl, Nat.le_of_ble_eq_true rfl⟩) hP hD hS hA (fun r6 u5 H locs hw4 hP hD hS => ?_)
  obtain ⟨rfl, rfl⟩ := hw4
  have z7 : ((v.1 0 12) + (1 : Int32)).toInt = ((v.1 0 12).toInt) + (1 : Int) := add_z rfl (show (1 : Int32).toInt = (1 : Int) by decide) (om_6650f37474 zw) (om_8ddb6642ab zw)
  have hP : va_P (dC, dI) vwCl (mW ad N cI cZ cJ (wA (wA v 11 ((v.1 0 12).toNatClampNeg) r3) 0 12 ((v.1 0 12) + (1 : Int32)))) H := hP
  have hD : va_D A (mW ad N cI cZ cJ (wA (wA v 11 ((v.1 0 12).toNatClampNeg) r3) 0 12 ((v.1 0 12) + (1 : Int32)))) := hD
  refine tp_i (y := (v.1 0 12)) (rfl) ?_
  refine W.widen (k := 0) (n := 0) (Nat.le_refl _) (Nat.le_refl _) ?_
  refine lv_pop hx hb dX13_unlessTrue_13 rfl ?_
  refine lv_aload_n hx hb dX13_unlessTrue_14 rfl (lv_at hl 0 rfl) ?_
  refine lv_iconst (v := -1) hx hb dX13_unlessTrue_15 (by decide) ?_
  refine cu_i (rn_V (n := 1) (As := [.int (-1)]) (rest := []) hx hb hml hown ht hKK hFx hP hD hS hA (c_m_wait l dC dI cI cB cZ cJ cR tb H.size ad N (wA (wA v 11 ((v.1 0 12).toNatClampNeg) r3) 0 12 ((v.1 0 12) + (1 : Int32))) (-1 : Int32) (show 0 ≤ ((v.1 0 12) + (1 : Int32)).toInt ∧ ((v.1 0 12) + (1 : Int32)).toInt < 24000 from (om_d1ed3ade5a zw z7))) tw_122 tw_123 (by decide +kernel) rfl rfl ⟨Nat.le_of_ble_eq_true rfl, Nat.le_of_ble_eq_true rfl⟩ (List.range (mW ad N cI cZ cJ (wA (wA v 11 ((v.1 0 12).toNatClampNeg) r3) 0 12 ((v.1 0 12) + (1 : Int32)))).length) (rg_map _) (mW_nd _ _ _ _ _ _) rfl rfl rfl rfl hl.1 rfl (Nat.le_of_ble_eq_true rfl) dX13_unlessTrue_16 ⟨Nat.le_of_ble_eq_true rfl, Nat.le_of_ble_eq_true rfl⟩) hP hD hS hA (fun r10 u9 H locs hw8 hP hD hS => ?_)
  obtain ⟨rfl, rfl⟩ := hw8
  have z11 : (((v.1 0 12) + (1 : Int32)) + (1 : Int32)).toInt = (((v.1 0 12).toInt) + (1 : Int)) + (1 : Int) := add_z z7 (show (1 : Int32).toInt = (1 : Int) by decide) (om_13df27bb56 zw) (om_d9744998dd zw)
  have hP : va_P (dC, dI) vwCl (mW ad N cI cZ cJ (wA (wA (wA (wA v 11 ((v.1 0 12).toNatClampNeg) r3) 0 12 ((v.1 0 12) + (1 : Int32))) 11 (((v.1 0 12) + (1 : Int32)).toNatClampNeg) (-1 : Int32)) 0 12 (((v.1 0 12) + (1 : Int32)) + (1 : Int32)))) H := hP
  have hD : va_D A (mW ad N cI cZ cJ (wA (wA (wA (wA v 11 ((v.1 0 12).toNatClampNeg) r3) 0 12 ((v.1 0 12) + (1 : Int32))) 11 (((v.1 0 12) + (1 : Int32)).toNatClampNeg) (-1 : Int32)) 0 12 (((v.1 0 12) + (1 : Int32)) + (1 : Int32)))) := hD
  refine tp_i (y := ((v.1 0 12) + (1 : Int32))) (rfl) ?_
  refine W.widen (k := 0) (n := 0) (Nat.le_refl _) (Nat.le_refl _) ?_
  refine lv_istore_n (lv' := [(1, .int ((v.1 0 12) + (1 : Int32))), (0, .ref (ad 0))]) hx hb dX13_unlessTrue_19 rfl hl (by decide) rfl (fun ls hl => ?_)
  refine lv_aload_n hx hb dX13_unlessTrue_20 rfl (lv_at hl 1 rfl) ?_
  refine lv_aload_n hx hb dX13_unlessTrue_21 rfl (lv_at hl 1 rfl) ?_
  refine lv_bipush (v := 10) hx hb dX13_unlessTrue_22 (by decide) ?_
  refine lv_iconst (v := 0) hx hb dX13_unlessTrue_24 (by decide) ?_
  refine cu_i (rn_V (n := 2) (As := [.int 10, .int 0]) (rest := [.ref (ad 0)]) hx hb hml hown ht hKK hFx hP hD hS hA (c_m_say l dC dI cI cB cZ cJ cR tb H.size ad N (wA (wA (wA (wA v 11 ((v.1 0 12).toNatClampNeg) r3) 0 12 ((v.1 0 12) + (1 : Int32))) 11 (((v.1 0 12) + (1 : Int32)).toNatClampNeg) (-1 : Int32)) 0 12 (((v.1 0 12) + (1 : Int32)) + (1 : Int32))) (10 : Int32) (0 : Int32) (show 0 ≤ (v.1 0 15).toInt ∧ (v.1 0 15).toInt < 16000 from (om_434853ee4d zo))) tw_59 tw_60 (by decide +kernel) rfl rfl ⟨Nat.le_of_ble_eq_true rfl, Nat.le_of_ble_eq_true rfl⟩ (List.range (mW ad N cI cZ cJ (wA (wA (wA (wA v 11 ((v.1 0 12).toNatClampNeg) r3) 0 12 ((v.1 0 12) + (1 : Int32))) 11 (((v.1 0 12) + (1 : Int32)).toNatClampNeg) (-1 : Int32)) 0 12 (((v.1 0 12) + (1 : Int32)) + (1 : Int32)))).length) (rg_map _) (mW_nd _ _ _ _ _ _) rfl rfl rfl rfl hl.1 rfl (Nat.le_of_ble_eq_true rfl) dX13_unlessTrue_25 ⟨Nat.le_of_ble_eq_true rfl, Nat.le_of_ble_eq_true rfl⟩) hP hD hS hA (fun r14 u13 H locs hw12 hP hD hS => ?_)
  obtain ⟨rfl, rfl⟩ := hw12
  have z15 : ((v.1 0 15) + (1 : Int32)).toInt = ((v.1 0 15).toInt) + (1 : Int) := add_z rfl (show (1 : Int32).toInt = (1 : Int) by decide) (om_725afa629b zo) (om_58344aeddd zo)
  have hP : va_P (dC, dI) vwCl (mW ad N cI cZ cJ (wA (wA (wA (wA (wA (wA (wA v 11 ((v.1 0 12).toNatClampNeg) r3) 0 12 ((v.1 0 12) + (1 : Int32))) 11 (((v.1 0 12) + (1 : Int32)).toNatClampNeg) (-1 : Int32)) 0 12 (((v.1 0 12) + (1 : Int32)) + (1 : Int32))) 13 ((v.1 0 15).toNatClampNeg) (10 : Int32)) 14 ((v.1 0 15).toNatClampNeg) (0 : Int32)) 0 15 ((v.1 0 15) + (1 : Int32)))) H := hP
  have hD : va_D A (mW ad N cI cZ cJ (wA (wA (wA (wA (wA (wA (wA v 11 ((v.1 0 12).toNatClampNeg) r3) 0 12 ((v.1 0 12) + (1 : Int32))) 11 (((v.1 0 12) + (1 : Int32)).toNatClampNeg) (-1 : Int32)) 0 12 (((v.1 0 12) + (1 : Int32)) + (1 : Int32))) 13 ((v.1 0 15).toNatClampNeg) (10 : Int32)) 14 ((v.1 0 15).toNatClampNeg) (0 : Int32)) 0 15 ((v.1 0 15) + (1 : Int32)))) := hD
  refine tp_i (y := (v.1 0 15)) (rfl) ?_
  refine W.widen (k := 0) (n := 0) (Nat.le_refl _) (Nat.le_refl _) ?_
  refine va_put (D := (dC, dI)) (ci := 16) (fs := mF ad (wA (wA (wA (wA (wA (wA (wA v 11 ((v.1 0 12).toNatClampNeg) r3) 0 12 ((v.1 0 12) + (1 : Int32))) 11 (((v.1 0 12) + (1 : Int32)).toNatClampNeg) (-1 : Int32)) 0 12 (((v.1 0 12) + (1 : Int32)) + (1 : Int32))) 13 ((v.1 0 15).toNatClampNeg) (10 : Int32)) 14 ((v.1 0 15).toNatClampNeg) (0 : Int32)) 0 15 ((v.1 0 15) + (1 : Int32)))) (v := .int (v.1 0 15)) (ty := .int) (C := RX13) (T := TX13) (N := 124) hx hb ht itX13 tyX13 tyX13_ok nmX13 hown hK hP hD hS 0 rfl rfl 60 (by decide) (ht _ tw_138) (fun _ h9 => h9) rfl (by decide +kernel) rfl rfl (Nat.le_of_ble_eq_true rfl) dX13_unlessTrue_28 (fun H locs hP hD hS => ?_)
  have hP := cP_ (mw_60 ad N cI cZ cJ (wA (wA (wA (wA (wA (wA (wA v 11 ((v.1 0 12).toNatClampNeg) r3) 0 12 ((v.1 0 12) + (1 : Int32))) 11 (((v.1 0 12) + (1 : Int32)).toNatClampNeg) (-1 : Int32)) 0 12 (((v.1 0 12) + (1 : Int32)) + (1 : Int32))) 13 ((v.1 0 15).toNatClampNeg) (10 : Int32)) 14 ((v.1 0 15).toNatClampNeg) (0 : Int32)) 0 15 ((v.1 0 15) + (1 : Int32))) (v.1 0 15)) hP
  have hD := cD_ (mw_60 ad N cI cZ cJ (wA (wA (wA (wA (wA (wA (wA v 11 ((v.1 0 12).toNatClampNeg) r3) 0 12 ((v.1 0 12) + (1 : Int32))) 11 (((v.1 0 12) + (1 : Int32)).toNatClampNeg) (-1 : Int32)) 0 12 (((v.1 0 12) + (1 : Int32)) + (1 : Int32))) 13 ((v.1 0 15).toNatClampNeg) (10 : Int32)) 14 ((v.1 0 15).toNatClampNeg) (0 : Int32)) 0 15 ((v.1 0 15) + (1 : Int32))) (v.1 0 15)) hD
  refine lv_iload_n hx hb dX13_unlessTrue_31 rfl (lv_at hl 0 rfl) ?_
  exact W.iret (v := ((v.1 0 12) + (1 : Int32))) hx hb hr (fun t ht9 hW => ⟨⟨((v.1 0 12) + (1 : Int32)), (wA (wA (wA (wA (wA (wA (wA (wA v 11 ((v.1 0 12).toNatClampNeg) r3) 0 12 ((v.1 0 12) + (1 : Int32))) 11 (((v.1 0 12) + (1 : Int32)).toNatClampNeg) (-1 : Int32)) 0 12 (((v.1 0 12) + (1 : Int32)) + (1 : Int32))) 13 ((v.1 0 15).toNatClampNeg) (10 : Int32)) 14 ((v.1 0 15).toNatClampNeg) (0 : Int32)) 0 15 ((v.1 0 15) + (1 : Int32))) 0 60 (v.1 0 15)), rfl, ⟨(FG.f (FG.f (FG.a (FG.a (FG.f (FG.a (FG.f (FG.a (FG.rf _) ((v.1 0 12).toNatClampNeg) r3 (by decide) (by decide)) ((v.1 0 12) + (1 : Int32)) (by decide)) (((v.1 0 12) + (1 : Int32)).toNatClampNeg) (-1 : Int32) (by decide) (by decide)) (((v.1 0 12) + (1 : Int32)) + (1 : Int32)) (by decide)) ((v.1 0 15).toNatClampNeg) (10 : Int32) (by decide) (by decide)) ((v.1 0 15).toNatClampNeg) (0 : Int32) (by decide) (by decide)) ((v.1 0 15) + (1 : Int32)) (by decide)) (v.1 0 15) (by decide)), (show (((v.1 0 12) + (1 : Int32)) + (1 : Int32)).toInt = (v.1 0 12).toInt + 2 from (om_730284716e z11)), (show ((v.1 0 15) + (1 : Int32)).toInt = (v.1 0 15).toInt + 1 from (om_5bccfc38cf z15)), (show ((v.1 0 12) + (1 : Int32)).toInt = (v.1 0 12).toInt + 1 from (om_5bccfc38cf z7)), (show (v.1 0 15).toInt = (v.1 0 15).toInt from om_93d572ac38), (fun (j9 : Nat) hj9 => (Eq.trans (pk_un3 (a := ((v.1 0 12) + (1 : Int32)).toInt) rfl (om_0f6ec7af46 zw z7) (om_56bf42079b z7 hj9)) (pk_un3 (a := (v.1 0 12).toInt) rfl (om_4842074e86 zw) (om_4fe904e9bf hj9)))), (fun (j9 : Nat) hj9 => (pk_un3 (a := (v.1 0 15).toInt) rfl (om_2ab3f6b9f5 zo) (om_4fe904e9bf hj9))), (fun (j9 : Nat) hj9 => (pk_un3 (a := (v.1 0 15).toInt) rfl (om_2ab3f6b9f5 zo) (om_4fe904e9bf hj9)))⟩, by rw [ht9]; exact hP, hD⟩, hS.F ht9⟩) hS.2.2 dX13_unlessTrue_32
theorem om_8ad7cf36bb {n0 : Nat} : 3 + 1 ≤ 40 * n0 + 38 := by omega
theorem om_62cfaacd98 {n0 : Nat} : 8 + (2 + 11) + 62 ≤ 28 * (40 * n0 + 38) := by omega
theorem om_11f4fe22da {x0 x2 : Int} {n1 : Nat} (h0 : 40 ≤ x0 + (n1 : Int)) (h1 : x2 = (x0) + (1 : Int)) : 40 ≤ x2 + (n1 : Int) := by omega
theorem om_2a5fd84d6a {n0 : Nat} : (40 * n0 + 36) + 1 ≤ 40 * n0 + 38 := by omega
theorem om_830029c4b7 {n0 : Nat} : 8 + (1 + 11) + 28 * (40 * n0 + 36) ≤ 28 * (40 * n0 + 38) := by omega
theorem om_06dc733c02 {n0 : Nat} : 8 + (2 + 11) + 64 ≤ 28 * (40 * n0 + 38) := by omega
theorem om_0c05ff7c8a {x0 x1 x2 x3 x4 : Int} (h0 : 0 ≤ x0 ∧ x0 ≤ 15 * x1 + 2) (h1 : x2 = (x1) + (1 : Int)) (h2 : x0 ≤ x3 ∧ x3 - 15 * x4 ≤ x0 - 15 * x2) (h3 : x4 < 1500) : 0 ≤ x3 ∧ x3 ≤ 23980 := by omega
theorem om_2f8631e190 {x0 x1 x2 x3 x4 : Int} (h0 : 0 ≤ x0 ∧ x0 ≤ 10 * x1 + 0) (h1 : x2 = (x1) + (1 : Int)) (h2 : x0 ≤ x3 ∧ x3 - 10 * x4 ≤ x0 - 10 * x2) (h3 : x4 < 1500) : 0 ≤ x3 ∧ x3 ≤ 15980 := by omega
theorem om_c23469c5f5 {n0 : Nat} : 2 + 1 ≤ 40 * n0 + 38 := by omega
theorem om_0f986ac1df {n0 : Nat} : 8 + (2 + 11) + 42 ≤ 28 * (40 * n0 + 38) := by omega
theorem om_fa52c159be {x0 x1 x2 x3 x4 : Int} (h0 : x0 = (x1) + (1 : Int)) (h1 : x0 + 1 ≤ x2 ∧ x2 ≤ 1500) (h2 : x3 = (x2) + (1 : Int)) (h3 : x2 < 1500) (h4 : x4 = x3) : x1 + 1 ≤ x4 ∧ x4 ≤ 1500 := by omega
theorem om_8f6380f094 {x0 x1 x2 x3 x4 x5 x6 x7 : Int} (h0 : x0 = (x1) + (1 : Int)) (h1 : x2 ≤ x3 ∧ x3 - 15 * x4 ≤ x2 - 15 * x0) (h2 : x5 = (x4) + (1 : Int)) (h3 : x6 = x5) (h4 : x7 = x3 + 2) : x2 ≤ x7 ∧ x7 - 15 * x6 + 25 ≤ x2 - 15 * x1 := by omega
theorem om_a583cb4a24 {x0 x1 x2 x3 x4 x5 x6 x7 : Int} (h0 : x0 = (x1) + (1 : Int)) (h1 : x2 ≤ x3 ∧ x3 - 10 * x4 ≤ x2 - 10 * x0) (h2 : x5 = (x4) + (1 : Int)) (h3 : x6 = x5) (h4 : x7 = x3 + 1) : x2 ≤ x7 ∧ x7 - 10 * x6 + 18 ≤ x2 - 10 * x1 := by omega
theorem om_43a7f5a895 {x0 x1 x2 x3 x4 x5 x6 x7 : Int} (h0 : x0 = (x1) + (1 : Int)) (h1 : x2 ≤ x3 ∧ x3 - 15 * x4 ≤ x2 - 15 * x0) (h2 : x5 = (x4) + (1 : Int)) (h3 : x6 = x3) (h4 : x7 = x5) : x2 ≤ x6 ∧ x6 - 15 * x7 ≤ x2 - 15 * x1 := by omega
theorem om_f5fab9fd5e {x0 x1 x2 x3 x4 x5 x6 x7 : Int} (h0 : x0 = (x1) + (1 : Int)) (h1 : x2 ≤ x3 ∧ x3 - 1 * x4 ≤ x2 - 1 * x0) (h2 : x5 = (x4) + (1 : Int)) (h3 : x6 = x3) (h4 : x7 = x5) : x2 ≤ x6 ∧ x6 - 1 * x7 ≤ x2 - 1 * x1 := by omega
theorem om_9b184d8d33 {x0 x1 x2 x3 x4 x5 x6 x7 : Int} (h0 : x0 = (x1) + (1 : Int)) (h1 : x2 = x3 ∧ x4 = x0) (h2 : x5 = (x4) - (1 : Int)) (h3 : x6 = x2) (h4 : x7 = x5) : x6 = x3 ∧ x7 = x1 := by omega
theorem om_4ce2239122 {x0 x1 x2 x3 x4 x5 : Int} (h0 : x0 ≤ x1 ∧ x1 - 15 * x2 ≤ x0 - 15 * x3) (h1 : x4 = x1 + 2) (h2 : x5 = x1 + 1) : x5 + 1 = x4 ∧ x0 ≤ x5 := by omega
theorem om_38fb5029c6 {x0 x1 x2 x3 x4 x5 : Int} (h0 : x0 ≤ x1 ∧ x1 - 10 * x2 ≤ x0 - 10 * x3) (h1 : x4 = x1 + 1) (h2 : x5 = x1) : x5 + 1 = x4 ∧ x0 ≤ x5 := by omega
set_option maxHeartbeats 16000000 in
set_option maxRecDepth 100000 in
theorem c_m_condition (l : Launch) (n : Nat) (dC : Nat → ClassId) (dI : Nat → Nat → Nat) (cI cB cZ cJ cR : ClassId) (tb : Nat → Nat) (sz : Nat) (ad : Nat → Nat) (N : Nat) (v : MS)  (zn : 40 ≤ (v.1 0 48).toInt + (n : Int)) (zt : 0 ≤ (v.1 0 47).toInt ∧ (v.1 0 47).toInt ≤ 1500) (zop : 0 ≤ (v.1 0 48).toInt ∧ (v.1 0 48).toInt ≤ 40) (zkn : 0 ≤ (v.1 0 30).toInt ∧ (v.1 0 30).toInt ≤ 500) (zhi : 0 ≤ (v.1 0 33).toInt ∧ (v.1 0 33).toInt ≤ 500) (zs : 0 ≤ (v.1 0 32).toInt ∧ (v.1 0 30).toInt + (v.1 0 32).toInt ≤ (v.1 0 33).toInt) (zws : 0 ≤ (v.1 0 12).toInt ∧ (v.1 0 12).toInt ≤ 15 * (v.1 0 47).toInt + 2) (zos : 0 ≤ (v.1 0 15).toInt ∧ (v.1 0 15).toInt ≤ 10 * (v.1 0 47).toInt + 0) (zfs : 0 ≤ (v.1 0 43).toInt ∧ (v.1 0 43).toInt ≤ 15 * (v.1 0 47).toInt + 0) (zcs : 0 ≤ (v.1 0 39).toInt ∧ (v.1 0 39).toInt ≤ 1 * (v.1 0 47).toInt + 0) (zgl : 0 ≤ (v.1 0 27).toInt ∧ (v.1 0 27).toInt ≤ 60) (hT : TI v) (a29 : AR 29 0 1500 v) (a23 : AR 23 0 1500 v) (a35 : AR 35 0 1500 v) (a37 : AR 37 0 23999 v) (a38 : AR 38 0 15999 v) (a40 : AR 40 0 23999 v) (fx : FX v) (gf : GF v) : vx_Met l yX13_condition (Cond.code yX13_condition cX13_condition 1 (some .int) :: tw_W) ({ frames := 40 * n + 38, cells := 0, slots := 0, locals := 28 * (40 * n + 38) }) (pc_ (dC, dI) (tyS cI cB cZ cJ cR) tb (mW ad N cI cZ cJ v) sz [.ref (ad 0)]) (qi_ (dC, dI) (mW ad N cI cZ cJ v) sz (fun (r : Int32) (u : MS) => FG [12, 15, 32, 33, 39, 43, 44, 45, 47, 48, 49, 50, 51, 60] [0, 11, 13, 14, 35, 36, 37, 38, 40, 41, 42] v u ∧ ((v.1 0 47).toInt + 1 ≤ (u.1 0 47).toInt ∧ (u.1 0 47).toInt ≤ 1500) ∧ ((v.1 0 12).toInt ≤ (u.1 0 12).toInt ∧ (u.1 0 12).toInt - 15 * (u.1 0 47).toInt + 25 ≤ (v.1 0 12).toInt - 15 * (v.1 0 47).toInt) ∧ ((v.1 0 15).toInt ≤ (u.1 0 15).toInt ∧ (u.1 0 15).toInt - 10 * (u.1 0 47).toInt + 18 ≤ (v.1 0 15).toInt - 10 * (v.1 0 47).toInt) ∧ ((v.1 0 43).toInt ≤ (u.1 0 43).toInt ∧ (u.1 0 43).toInt - 15 * (u.1 0 47).toInt ≤ (v.1 0 43).toInt - 15 * (v.1 0 47).toInt) ∧ ((v.1 0 39).toInt ≤ (u.1 0 39).toInt ∧ (u.1 0 39).toInt - 1 * (u.1 0 47).toInt ≤ (v.1 0 39).toInt - 1 * (v.1 0 47).toInt) ∧ ((u.1 0 32).toInt = (v.1 0 32).toInt ∧ (u.1 0 48).toInt = (v.1 0 48).toInt) ∧ ((v.1 0 33).toInt ≤ (u.1 0 33).toInt ∧ (u.1 0 33).toInt ≤ 500) ∧ (∀ j : Nat, (j : Int) < (v.1 0 12).toInt → (u.1 11) j = (v.1 11) j) ∧ (∀ j : Nat, (j : Int) < (v.1 0 15).toInt → (u.1 13) j = (v.1 13) j) ∧ (∀ j : Nat, (j : Int) < (v.1 0 15).toInt → (u.1 14) j = (v.1 14) j) ∧ (∀ j : Nat, (j : Int) < (v.1 0 39).toInt → (u.1 36) j = (v.1 36) j) ∧ (∀ j : Nat, (j : Int) < (v.1 0 39).toInt → (u.1 38) j = (v.1 38) j) ∧ (AR 35 0 1500 u) ∧ (AR 37 0 23999 u) ∧ (AR 38 0 15999 u) ∧ (AR 40 0 23999 u) ∧ (FX u) ∧ (IV v → IV u) ∧ (r.toInt + 1 = (u.1 0 12).toInt ∧ (v.1 0 12).toInt ≤ r.toInt) ∧ ((u.1 0 60).toInt + 1 = (u.1 0 15).toInt ∧ (v.1 0 15).toInt ≤ (u.1 0 60).toInt)) (fun (u : MS) => (mW ad N cI cZ cJ u))) (qxm (dC, dI) (mW ad N cI cZ cJ v) sz (fun (u : MS) => (mW ad N cI cZ cJ u)) (fun (u : MS) => Fr v u ∧ (IV v → IV u))) 0 0 (va_A (mW ad N cI cZ cJ v) sz) := by
  refine vx_ofW (cc := cX13_condition) (maxL := 1) (ret := (some .int)) (by decide) rfl ?_
  intro p e s m args below meth c s₁ B hml hnt hv
  obtain ⟨rfl, hsz, hP, hKK, hD0, hFx⟩ := hv
  have hK := hKK.1
  have hx := B.exec
  have hb := B.bytes
  have hr := B.returns
  have ht : ∀ w ∈ tw_W, w.before _ s = true := fun w h => atoms_spec (ws := Cond.code yX13_condition cX13_condition 1 (some .int) :: tw_W) B.pre w (List.mem_cons_of_mem _ h)
  have hown : s.vm.findClass RX13 = some m.cls := findClass_of_methodNamed B.named
  have hlocks := B.notSynchronized
  subst hsz
  unfold qi_ qxm
  have hD := hD0.self (sz := s.heap.size)
  generalize hAe : va_A (mW ad N cI cZ cJ v) s.heap.size = A at hD hFx ⊢
  have hA : ∀ q : Nat, s.heap.size ≤ q → A q := fun q h => by rw [← hAe]; exact Or.inr h
  have hS : va_S A s.heap s.heap [] := va_S.rf
  have hl := lv_entry ([.ref (ad 0)]) (n := 1) (Nat.le_of_ble_eq_true rfl)
  rw [lg_entry_eq]
  generalize (lg_sl ([.ref (ad 0)]) ++ List.replicate (1 - (lg_sl ([.ref (ad 0)])).length) Slot.unset).toArray = ls at hl ⊢
  have hl : lv_has ls 1 [(0, .ref (ad 0))] := hl
  refine lv_aload_n hx hb dX13_condition_0 rfl (lv_at hl 0 rfl) ?_
  refine lv_bipush (v := 40) hx hb dX13_condition_1 (by decide) ?_
  refine cux_v (rx_V (n := 1) (As := [.int 40]) (rest := []) hx hb hml hown ht hKK hFx hP hD hS hA (c_m_open l dC dI cI cB cZ cJ cR tb s.heap.size ad N v (40 : Int32) (show 0 ≤ (v.1 0 47).toInt ∧ (v.1 0 47).toInt ≤ 1500 from (om_2fb699b811 zt zfs)) (show 0 ≤ (v.1 0 48).toInt ∧ (v.1 0 48).toInt ≤ 40 from (om_7eaf33e007 zop))) tw_78 tw_79 (by decide +kernel) rfl rfl ⟨show 3 + 1 ≤ 40 * n + 38 from om_8ad7cf36bb, show 8 + (2 + 11) + 62 ≤ 28 * (40 * n + 38) from om_62cfaacd98⟩ (List.range (mW ad N cI cZ cJ v).length) (rg_map _) (mW_nd _ _ _ _ _ _) rfl rfl rfl rfl hl.1 rfl (Nat.le_of_ble_eq_true rfl) dX13_condition_3 ⟨Nat.le_of_ble_eq_true rfl, Nat.le_of_ble_eq_true rfl⟩) hP hD hS hA (fun u9 ce9 q9 H locs hx9 hP hD hS hc9 hv9 hf9 => ?_) (fun u2 H locs hw1 hP hD hS => ?_)
  · exact vx_out (fun x h9 => (hnt x h9).elim) hlocks hc9 hv9 hf9 (fun t9 ht9 hv8 => ⟨u9, ⟨FG.tr (FG.rf _) hx9.1, fun hiv => hx9.2 hiv⟩, ⟨rfl, by rw [ht9]; exact hP, hD⟩, hS.F ht9⟩) hS.2.2 (Nat.le_refl _) (Nat.le_refl _)
  obtain ⟨rfl, a1, b1, c1⟩ := hw1
  have z4 : ((v.1 0 47) + (1 : Int32)).toInt = ((v.1 0 47).toInt) + (1 : Int) := add_z rfl (show (1 : Int32).toInt = (1 : Int) by decide) (om_3eca9b17a5 zws) (om_27eb55d06c zt)
  have z5 : ((v.1 0 48) + (1 : Int32)).toInt = ((v.1 0 48).toInt) + (1 : Int) := add_z rfl (show (1 : Int32).toInt = (1 : Int) by decide) (om_c2418a9965 zop) (om_defb2a7457 zop)
  have hP : va_P (dC, dI) vwCl (mW ad N cI cZ cJ (wA (wA v 0 47 ((v.1 0 47) + (1 : Int32))) 0 48 ((v.1 0 48) + (1 : Int32)))) H := hP
  have hD : va_D A (mW ad N cI cZ cJ (wA (wA v 0 47 ((v.1 0 47) + (1 : Int32))) 0 48 ((v.1 0 48) + (1 : Int32)))) := hD
  refine W.widen (k := 0) (n := 0) (Nat.le_refl _) (Nat.le_refl _) ?_
  refine lv_aload_n hx hb dX13_condition_6 rfl (lv_at hl 0 rfl) ?_
  refine cux_v (rx_V (n := 0) (As := []) (rest := []) hx hb hml hown ht hKK hFx hP hD hS hA ((cx_all l n).1 dC dI cI cB cZ cJ cR tb H.size ad N (wA (wA v 0 47 ((v.1 0 47) + (1 : Int32))) 0 48 ((v.1 0 48) + (1 : Int32)))  (show 40 ≤ ((v.1 0 48) + (1 : Int32)).toInt + (n : Int) from (om_11f4fe22da zn z5)) (show 0 ≤ ((v.1 0 47) + (1 : Int32)).toInt ∧ ((v.1 0 47) + (1 : Int32)).toInt ≤ 1500 from (om_cae3a623a5 zfs z4 a1)) (show 0 ≤ ((v.1 0 48) + (1 : Int32)).toInt ∧ ((v.1 0 48) + (1 : Int32)).toInt ≤ 40 from (om_4c33377394 zop z5 b1)) (show 0 ≤ (v.1 0 30).toInt ∧ (v.1 0 30).toInt ≤ 500 from (om_9861e69da5 zkn)) (show 0 ≤ (v.1 0 33).toInt ∧ (v.1 0 33).toInt ≤ 500 from (om_9861e69da5 zhi)) (show 0 ≤ (v.1 0 32).toInt ∧ (v.1 0 30).toInt + (v.1 0 32).toInt ≤ (v.1 0 33).toInt from (om_f541e4003c zs)) (show 0 ≤ (v.1 0 12).toInt ∧ (v.1 0 12).toInt ≤ 15 * ((v.1 0 47) + (1 : Int32)).toInt + 2 from (om_3894ab1223 zws z4)) (show 0 ≤ (v.1 0 15).toInt ∧ (v.1 0 15).toInt ≤ 10 * ((v.1 0 47) + (1 : Int32)).toInt + 0 from (om_9a74738aa2 zos z4)) (show 0 ≤ (v.1 0 43).toInt ∧ (v.1 0 43).toInt ≤ 15 * ((v.1 0 47) + (1 : Int32)).toInt + 0 from (om_434df26a0f zfs z4)) (show 0 ≤ (v.1 0 39).toInt ∧ (v.1 0 39).toInt ≤ 1 * ((v.1 0 47) + (1 : Int32)).toInt + 0 from (om_3840c96ead zcs z4)) (show 0 ≤ (v.1 0 27).toInt ∧ (v.1 0 27).toInt ≤ 60 from (om_1d2c7ad648 zgl)) (show TI (wA (wA v 0 47 ((v.1 0 47) + (1 : Int32))) 0 48 ((v.1 0 48) + (1 : Int32))) from FG.ti (fl := pfl) (al := pal) (FG.f (FG.f (FG.rf _) ((v.1 0 47) + (1 : Int32)) (by decide)) ((v.1 0 48) + (1 : Int32)) (by decide)) (by decide) (by decide) hT) (show AR 29 0 1500 (wA (wA v 0 47 ((v.1 0 47) + (1 : Int32))) 0 48 ((v.1 0 48) + (1 : Int32))) from (AR.o (AR.o a29 (by decide)) (by decide))) (show AR 23 0 1500 (wA (wA v 0 47 ((v.1 0 47) + (1 : Int32))) 0 48 ((v.1 0 48) + (1 : Int32))) from (AR.o (AR.o a23 (by decide)) (by decide))) (show AR 35 0 1500 (wA (wA v 0 47 ((v.1 0 47) + (1 : Int32))) 0 48 ((v.1 0 48) + (1 : Int32))) from (AR.o (AR.o a35 (by decide)) (by decide))) (show AR 37 0 23999 (wA (wA v 0 47 ((v.1 0 47) + (1 : Int32))) 0 48 ((v.1 0 48) + (1 : Int32))) from (AR.o (AR.o a37 (by decide)) (by decide))) (show AR 38 0 15999 (wA (wA v 0 47 ((v.1 0 47) + (1 : Int32))) 0 48 ((v.1 0 48) + (1 : Int32))) from (AR.o (AR.o a38 (by decide)) (by decide))) (show AR 40 0 23999 (wA (wA v 0 47 ((v.1 0 47) + (1 : Int32))) 0 48 ((v.1 0 48) + (1 : Int32))) from (AR.o (AR.o a40 (by decide)) (by decide))) (show FX (wA (wA v 0 47 ((v.1 0 47) + (1 : Int32))) 0 48 ((v.1 0 48) + (1 : Int32))) from (FX.o (FX.o fx (by decide) (by decide)) (by decide) (by decide))) (show GF (wA (wA v 0 47 ((v.1 0 47) + (1 : Int32))) 0 48 ((v.1 0 48) + (1 : Int32))) from (GF.of (GF.of gf (by decide)) (by decide)))) tw_80 tw_81 (by decide +kernel) rfl rfl ⟨show (40 * n + 36) + 1 ≤ 40 * n + 38 from om_2a5fd84d6a, show 8 + (1 + 11) + 28 * (40 * n + 36) ≤ 28 * (40 * n + 38) from om_830029c4b7⟩ (List.range (mW ad N cI cZ cJ (wA (wA v 0 47 ((v.1 0 47) + (1 : Int32))) 0 48 ((v.1 0 48) + (1 : Int32)))).length) (rg_map _) (mW_nd _ _ _ _ _ _) rfl rfl rfl rfl hl.1 rfl (Nat.le_of_ble_eq_true rfl) dX13_condition_7 ⟨Nat.le_of_ble_eq_true rfl, Nat.le_of_ble_eq_true rfl⟩) hP hD hS hA (fun u9 ce9 q9 H locs hx9 hP hD hS hc9 hv9 hf9 => ?_) (fun u7 H locs hw6 hP hD hS => ?_)
  · exact vx_out (fun x h9 => (hnt x h9).elim) hlocks hc9 hv9 hf9 (fun t9 ht9 hv8 => ⟨u9, ⟨FG.tr (FG.f (FG.f (FG.rf _) ((v.1 0 47) + (1 : Int32)) (by decide)) ((v.1 0 48) + (1 : Int32)) (by decide)) hx9.1, fun hiv => hx9.2 (IV.o (IV.o hiv (by decide)) (by decide))⟩, ⟨rfl, by rw [ht9]; exact hP, hD⟩, hS.F ht9⟩) hS.2.2 (Nat.le_refl _) (Nat.le_refl _)
  obtain ⟨fr6, pt6, pb6, pw6, po6, pf6, pk6, pp6, ph6, kc6, ko6, kg6, k366, k386, a356, a376, a386, a406, fx6, iv6, sg6⟩ := hw6
  have pt6 : ((v.1 0 47) + (1 : Int32)).toInt + 1 ≤ (u7.1 0 47).toInt ∧ (u7.1 0 47).toInt ≤ 1500 := pt6
  have pb6 : (v.1 0 49).toInt ≠ ((v.1 0 47) + (1 : Int32)).toInt := pb6
  have pw6 : (v.1 0 12).toInt ≤ (u7.1 0 12).toInt ∧ (u7.1 0 12).toInt - 15 * (u7.1 0 47).toInt ≤ (v.1 0 12).toInt - 15 * ((v.1 0 47) + (1 : Int32)).toInt := pw6
  have po6 : (v.1 0 15).toInt ≤ (u7.1 0 15).toInt ∧ (u7.1 0 15).toInt - 10 * (u7.1 0 47).toInt ≤ (v.1 0 15).toInt - 10 * ((v.1 0 47) + (1 : Int32)).toInt := po6
  have pf6 : (v.1 0 43).toInt ≤ (u7.1 0 43).toInt ∧ (u7.1 0 43).toInt - 15 * (u7.1 0 47).toInt ≤ (v.1 0 43).toInt - 15 * ((v.1 0 47) + (1 : Int32)).toInt := pf6
  have pk6 : (v.1 0 39).toInt ≤ (u7.1 0 39).toInt ∧ (u7.1 0 39).toInt - 1 * (u7.1 0 47).toInt ≤ (v.1 0 39).toInt - 1 * ((v.1 0 47) + (1 : Int32)).toInt := pk6
  have pp6 : (u7.1 0 32).toInt = (v.1 0 32).toInt ∧ (u7.1 0 48).toInt = ((v.1 0 48) + (1 : Int32)).toInt := pp6
  have ph6 : (v.1 0 33).toInt ≤ (u7.1 0 33).toInt ∧ (u7.1 0 33).toInt ≤ 500 := ph6
  have kc6 : ∀ j : Nat, (j : Int) < (v.1 0 12).toInt → (u7.1 11) j = (v.1 11) j := kc6
  have ko6 : ∀ j : Nat, (j : Int) < (v.1 0 15).toInt → (u7.1 13) j = (v.1 13) j := ko6
  have kg6 : ∀ j : Nat, (j : Int) < (v.1 0 15).toInt → (u7.1 14) j = (v.1 14) j := kg6
  have k366 : ∀ j : Nat, (j : Int) < (v.1 0 39).toInt → (u7.1 36) j = (v.1 36) j := k366
  have k386 : ∀ j : Nat, (j : Int) < (v.1 0 39).toInt → (u7.1 38) j = (v.1 38) j := k386
  have a356 : AR 35 0 1500 u7 := a356
  have a376 : AR 37 0 23999 u7 := a376
  have a386 : AR 38 0 15999 u7 := a386
  have a406 : AR 40 0 23999 u7 := a406
  have fx6 : FX u7 := fx6
  have iv6 : IV (wA (wA v 0 47 ((v.1 0 47) + (1 : Int32))) 0 48 ((v.1 0 48) + (1 : Int32))) → IV u7 := iv6
  have sg6 : SGE (v.1 0 30).toInt (v.1 0 28).toInt (v.1 0 27).toInt (u7.1 13) (u7.1 14) (u7.1 36) (u7.1 38) (v.1 0 15).toNatClampNeg (u7.1 0 15).toNatClampNeg (v.1 0 39).toNatClampNeg (u7.1 0 39).toNatClampNeg [] [false] (1 + (u7.1 0 33).toInt - (v.1 0 30).toInt - (v.1 0 32).toInt) [] := sg6
  refine W.widen (k := 0) (n := 0) (Nat.le_refl _) (Nat.le_refl _) ?_
  refine lv_aload_n hx hb dX13_condition_10 rfl (lv_at hl 0 rfl) ?_
  refine lv_bipush (v := 41) hx hb dX13_condition_11 (by decide) ?_
  refine cux_v (rx_V (n := 1) (As := [.int 41]) (rest := []) hx hb hml hown ht hKK hFx hP hD hS hA (c_m_close l dC dI cI cB cZ cJ cR tb H.size ad N u7 (41 : Int32) (show 0 ≤ (u7.1 0 47).toInt ∧ (u7.1 0 47).toInt ≤ 1500 from (om_f8d5b5379a zfs z4 pt6 pw6)) (show 0 ≤ (u7.1 0 48).toInt ∧ (u7.1 0 48).toInt ≤ 40 from (om_53f619227e zop z5 b1 pp6))) tw_82 tw_83 (by decide +kernel) rfl rfl ⟨show 3 + 1 ≤ 40 * n + 38 from om_8ad7cf36bb, show 8 + (2 + 11) + 64 ≤ 28 * (40 * n + 38) from om_06dc733c02⟩ (List.range (mW ad N cI cZ cJ u7).length) (rg_map _) (mW_nd _ _ _ _ _ _) rfl rfl rfl rfl hl.1 rfl (Nat.le_of_ble_eq_true rfl) dX13_condition_13 ⟨Nat.le_of_ble_eq_true rfl, Nat.le_of_ble_eq_true rfl⟩) hP hD hS hA (fun u9 ce9 q9 H locs hx9 hP hD hS hc9 hv9 hf9 => ?_) (fun u10 H locs hw9 hP hD hS => ?_)
  · exact vx_out (fun x h9 => (hnt x h9).elim) hlocks hc9 hv9 hf9 (fun t9 ht9 hv8 => ⟨u9, ⟨FG.tr (FG.tr (FG.f (FG.f (FG.rf _) ((v.1 0 47) + (1 : Int32)) (by decide)) ((v.1 0 48) + (1 : Int32)) (by decide)) (FG.up fr6 (by decide) (by decide))) hx9.1, fun hiv => hx9.2 (iv6 (IV.o (IV.o hiv (by decide)) (by decide)))⟩, ⟨rfl, by rw [ht9]; exact hP, hD⟩, hS.F ht9⟩) hS.2.2 (Nat.le_refl _) (Nat.le_refl _)
  obtain ⟨rfl, a9, c9⟩ := hw9
  have z12 : ((u7.1 0 47) + (1 : Int32)).toInt = ((u7.1 0 47).toInt) + (1 : Int) := add_z rfl (show (1 : Int32).toInt = (1 : Int) by decide) (om_5ca5acb3cb zws z4 pw6) (om_3c2140d515 pt6)
  have z13 : ((u7.1 0 48) - (1 : Int32)).toInt = ((u7.1 0 48).toInt) - (1 : Int) := sub_z rfl (show (1 : Int32).toInt = (1 : Int) by decide) (om_32962d0667 zop z5 pp6) (om_d0370bb848 z5 b1 pp6)
  have hP : va_P (dC, dI) vwCl (mW ad N cI cZ cJ (wA (wA u7 0 47 ((u7.1 0 47) + (1 : Int32))) 0 48 ((u7.1 0 48) - (1 : Int32)))) H := hP
  have hD : va_D A (mW ad N cI cZ cJ (wA (wA u7 0 47 ((u7.1 0 47) + (1 : Int32))) 0 48 ((u7.1 0 48) - (1 : Int32)))) := hD
  have a9 : (u7.1 0 47).toInt < 1500 := a9
  have c9 : (u7.1 0 49).toInt ≠ (u7.1 0 47).toInt := c9
  refine W.widen (k := 0) (n := 0) (Nat.le_refl _) (Nat.le_refl _) ?_
  refine lv_aload_n hx hb dX13_condition_16 rfl (lv_at hl 0 rfl) ?_
  refine cu_i (rn_V (n := 0) (As := []) (rest := []) hx hb hml hown ht hKK hFx hP hD hS hA (c_m_unlessTrue l dC dI cI cB cZ cJ cR tb H.size ad N (wA (wA u7 0 47 ((u7.1 0 47) + (1 : Int32))) 0 48 ((u7.1 0 48) - (1 : Int32)))  (show 0 ≤ (u7.1 0 12).toInt ∧ (u7.1 0 12).toInt ≤ 23980 from (om_0c05ff7c8a zws z4 pw6 a9)) (show 0 ≤ (u7.1 0 15).toInt ∧ (u7.1 0 15).toInt ≤ 15980 from (om_2f8631e190 zos z4 po6 a9))) tw_139 tw_140 (by decide +kernel) rfl rfl ⟨show 2 + 1 ≤ 40 * n + 38 from om_c23469c5f5, show 8 + (2 + 11) + 42 ≤ 28 * (40 * n + 38) from om_0f986ac1df⟩ (List.range (mW ad N cI cZ cJ (wA (wA u7 0 47 ((u7.1 0 47) + (1 : Int32))) 0 48 ((u7.1 0 48) - (1 : Int32)))).length) (rg_map _) (mW_nd _ _ _ _ _ _) rfl rfl rfl rfl hl.1 rfl (Nat.le_of_ble_eq_true rfl) dX13_condition_17 ⟨Nat.le_of_ble_eq_true rfl, Nat.le_of_ble_eq_true rfl⟩) hP hD hS hA (fun r16 u15 H locs hw14 hP hD hS => ?_)
  obtain ⟨fr14, pw14, po14, pr14, pj14, kc14, ko14, kg14⟩ := hw14
  have pw14 : (u15.1 0 12).toInt = (u7.1 0 12).toInt + 2 := pw14
  have po14 : (u15.1 0 15).toInt = (u7.1 0 15).toInt + 1 := po14
  have pr14 : r16.toInt = (u7.1 0 12).toInt + 1 := pr14
  have pj14 : (u15.1 0 60).toInt = (u7.1 0 15).toInt := pj14
  have kc14 : ∀ j : Nat, (j : Int) < (u7.1 0 12).toInt → (u15.1 11) j = (u7.1 11) j := kc14
  have ko14 : ∀ j : Nat, (j : Int) < (u7.1 0 15).toInt → (u15.1 13) j = (u7.1 13) j := ko14
  have kg14 : ∀ j : Nat, (j : Int) < (u7.1 0 15).toInt → (u15.1 14) j = (u7.1 14) j := kg14
  refine W.widen (k := 0) (n := 0) (Nat.le_refl _) (Nat.le_refl _) ?_
  have q17 : (u15.1 0 47).toInt = ((u7.1 0 47) + (1 : Int32)).toInt := congrArg Int32.toInt ((fr14.2.1 47 (by decide)).trans (show (wA (wA u7 0 47 ((u7.1 0 47) + (1 : Int32))) 0 48 ((u7.1 0 48) - (1 : Int32))).1 0 47 = ((u7.1 0 47) + (1 : Int32)) by rfl))
  have q18 : (u15.1 0 43).toInt = (u7.1 0 43).toInt := congrArg Int32.toInt ((fr14.2.1 43 (by decide)).trans (show (wA (wA u7 0 47 ((u7.1 0 47) + (1 : Int32))) 0 48 ((u7.1 0 48) - (1 : Int32))).1 0 43 = (u7.1 0 43) by rfl))
  have q19 : (u15.1 0 39).toInt = (u7.1 0 39).toInt := congrArg Int32.toInt ((fr14.2.1 39 (by decide)).trans (show (wA (wA u7 0 47 ((u7.1 0 47) + (1 : Int32))) 0 48 ((u7.1 0 48) - (1 : Int32))).1 0 39 = (u7.1 0 39) by rfl))
  have q20 : (u15.1 0 32).toInt = (u7.1 0 32).toInt := congrArg Int32.toInt ((fr14.2.1 32 (by decide)).trans (show (wA (wA u7 0 47 ((u7.1 0 47) + (1 : Int32))) 0 48 ((u7.1 0 48) - (1 : Int32))).1 0 32 = (u7.1 0 32) by rfl))
  have q21 : (u15.1 0 48).toInt = ((u7.1 0 48) - (1 : Int32)).toInt := congrArg Int32.toInt ((fr14.2.1 48 (by decide)).trans (show (wA (wA u7 0 47 ((u7.1 0 47) + (1 : Int32))) 0 48 ((u7.1 0 48) - (1 : Int32))).1 0 48 = ((u7.1 0 48) - (1 : Int32)) by rfl))
  have q22 : (u15.1 0 33).toInt = (u7.1 0 33).toInt := congrArg Int32.toInt ((fr14.2.1 33 (by decide)).trans (show (wA (wA u7 0 47 ((u7.1 0 47) + (1 : Int32))) 0 48 ((u7.1 0 48) - (1 : Int32))).1 0 33 = (u7.1 0 33) by rfl))
  refine vx_ret ?_
  exact W.iret (v := r16) hx hb hr (fun t ht9 hW => ⟨⟨r16, u15, rfl, ⟨(FG.tr (FG.f (FG.f (FG.tr (FG.f (FG.f (FG.rf _) ((v.1 0 47) + (1 : Int32)) (by decide)) ((v.1 0 48) + (1 : Int32)) (by decide)) (FG.up fr6 (by decide) (by decide))) ((u7.1 0 47) + (1 : Int32)) (by decide)) ((u7.1 0 48) - (1 : Int32)) (by decide)) (FG.up fr14 (by decide) (by decide))), (show (v.1 0 47).toInt + 1 ≤ (u15.1 0 47).toInt ∧ (u15.1 0 47).toInt ≤ 1500 from (om_fa52c159be z4 pt6 z12 a9 q17)), (show (v.1 0 12).toInt ≤ (u15.1 0 12).toInt ∧ (u15.1 0 12).toInt - 15 * (u15.1 0 47).toInt + 25 ≤ (v.1 0 12).toInt - 15 * (v.1 0 47).toInt from (om_8f6380f094 z4 pw6 z12 q17 pw14)), (show (v.1 0 15).toInt ≤ (u15.1 0 15).toInt ∧ (u15.1 0 15).toInt - 10 * (u15.1 0 47).toInt + 18 ≤ (v.1 0 15).toInt - 10 * (v.1 0 47).toInt from (om_a583cb4a24 z4 po6 z12 q17 po14)), (show (v.1 0 43).toInt ≤ (u15.1 0 43).toInt ∧ (u15.1 0 43).toInt - 15 * (u15.1 0 47).toInt ≤ (v.1 0 43).toInt - 15 * (v.1 0 47).toInt from (om_43a7f5a895 z4 pf6 z12 q18 q17)), (show (v.1 0 39).toInt ≤ (u15.1 0 39).toInt ∧ (u15.1 0 39).toInt - 1 * (u15.1 0 47).toInt ≤ (v.1 0 39).toInt - 1 * (v.1 0 47).toInt from (om_f5fab9fd5e z4 pk6 z12 q19 q17)), (show (u15.1 0 32).toInt = (v.1 0 32).toInt ∧ (u15.1 0 48).toInt = (v.1 0 48).toInt from (om_9b184d8d33 z5 pp6 z13 q20 q21)), (show (v.1 0 33).toInt ≤ (u15.1 0 33).toInt ∧ (u15.1 0 33).toInt ≤ 500 from (om_06b267353f ph6 q22)), (fun (j9 : Nat) hj9 => (Eq.trans (kc14 j9 (om_e81726c0b3 pw6 hj9)) (kc6 j9 (om_4fe904e9bf hj9)))), (fun (j9 : Nat) hj9 => (Eq.trans (ko14 j9 (om_24f6a8216f po6 hj9)) (ko6 j9 (om_4fe904e9bf hj9)))), (fun (j9 : Nat) hj9 => (Eq.trans (kg14 j9 (om_24f6a8216f po6 hj9)) (kg6 j9 (om_4fe904e9bf hj9)))), (fun (j9 : Nat) hj9 => (Eq.trans (congrFun (fr14.2.2 36 (by decide)) j9) (k366 j9 (om_4fe904e9bf hj9)))), (fun (j9 : Nat) hj9 => (Eq.trans (congrFun (fr14.2.2 38 (by decide)) j9) (k386 j9 (om_4fe904e9bf hj9)))), (show AR 35 0 1500 u15 from AR.fr (fl := [12, 15, 60]) (al := [0, 11, 13, 14]) fr14 (by decide) (AR.o (AR.o a356 (by decide)) (by decide))), (show AR 37 0 23999 u15 from AR.fr (fl := [12, 15, 60]) (al := [0, 11, 13, 14]) fr14 (by decide) (AR.o (AR.o a376 (by decide)) (by decide))), (show AR 38 0 15999 u15 from AR.fr (fl := [12, 15, 60]) (al := [0, 11, 13, 14]) fr14 (by decide) (AR.o (AR.o a386 (by decide)) (by decide))), (show AR 40 0 23999 u15 from AR.fr (fl := [12, 15, 60]) (al := [0, 11, 13, 14]) fr14 (by decide) (AR.o (AR.o a406 (by decide)) (by decide))), (show FX u15 from FX.fr (fl := [12, 15, 60]) (al := [0, 11, 13, 14]) fr14 (by decide) (by decide) (FX.o (FX.o fx6 (by decide) (by decide)) (by decide) (by decide))), (fun hiv => (IV.fr (fl := [12, 15, 60]) (al := [0, 11, 13, 14]) fr14 (by decide) (IV.o (IV.o (iv6 (IV.o (IV.o hiv (by decide)) (by decide))) (by decide)) (by decide)))), (show r16.toInt + 1 = (u15.1 0 12).toInt ∧ (v.1 0 12).toInt ≤ r16.toInt from (om_4ce2239122 pw6 pw14 pr14)), (show (u15.1 0 60).toInt + 1 = (u15.1 0 15).toInt ∧ (v.1 0 15).toInt ≤ (u15.1 0 60).toInt from (om_38fb5029c6 po6 po14 pj14))⟩, by rw [ht9]; exact hP, hD⟩, hS.F ht9⟩) hS.2.2 dX13_condition_20
theorem om_fba2d7fbc8 {x0 : Int} (h0 : 0 ≤ x0 ∧ x0 ≤ 24000) : 0 ≤ x0 ∧ x0 ≤ 24000 := by omega
theorem om_3800f138a1 {x0 x1 : Int} (h0 : 0 ≤ x0 ∧ x0 ≤ 16000) (h1 : x1 = x0) : 0 ≤ x1 ∧ x1 ≤ 16000 := by omega
theorem om_5ac2b07dcd {x0 x1 x2 : Int} (h0 : 1 ≤ x0 ∧ x0 ≤ 41) (h1 : x1 = x0) (h2 : x2 = x1) : -2147483648 ≤ (x2) - (1 : Int) := by omega
theorem om_79d1605087 {x0 x1 x2 : Int} (h0 : 1 ≤ x0 ∧ x0 ≤ 41) (h1 : x1 = x0) (h2 : x2 = x1) : (x2) - (1 : Int) < 2147483648 := by omega
theorem om_b88da65d9c {x0 x1 x2 : Int} (h0 : 1 ≤ x0 ∧ x0 ≤ 41) (h1 : x1 = x0) (h2 : x2 = x1) : 0 ≤ ((x2) - (1 : Int)) := by omega
theorem om_c4c2f0609d {x0 x1 x2 : Int} (h0 : 1 ≤ x0 ∧ x0 ≤ 41) (h1 : x1 = x0) (h2 : x2 = x1) : ((x2) - (1 : Int)) < 42 := by omega
theorem om_c9243297db {x0 x1 x2 x3 : Int} (h0 : x0 = x1) (h1 : x2 = x0) (h2 : x3 = (x2) - (1 : Int)) : x3 = x1 - 1 := by omega
theorem om_82e1c2a82e {x0 : Int} (h0 : 1 ≤ x0 ∧ x0 ≤ 41) : 0 ≤ x0 := by omega
theorem om_2dbe15d076 {x0 x1 x2 x3 : Int} (h0 : 1 ≤ x0 ∧ x0 ≤ 41) (h1 : x1 = x0) (h2 : x2 = x1) (h3 : x3 = (x2) - (1 : Int)) : 0 ≤ x3 := by omega
theorem om_672a7b8765 {x0 x1 x2 x3 : Int} (h0 : x0 = x1) (h1 : x2 = x0) (h2 : x3 = (x2) - (1 : Int)) : 2 * x1 ≤ 2 * x3 + 2 := by omega
set_option maxHeartbeats 4000000 in
set_option maxRecDepth 100000 in
theorem c_m_ends (l : Launch) (dC : Nat → ClassId) (dI : Nat → Nat → Nat) (cI cB cZ cJ cR : ClassId) (tb : Nat → Nat) (sz : Nat) (ad : Nat → Nat) (N : Nat) (v : MS) (lab : Nat → Nat) (labm : Nat → Nat) (lo : Int) (lom : Int) (gi : GI false v lab labm) (zl : 1 ≤ (v.1 0 52).toInt ∧ (v.1 0 52).toInt ≤ 41) (zw : 0 ≤ (v.1 0 12).toInt ∧ (v.1 0 12).toInt ≤ 24000) (zo : 0 ≤ (v.1 0 15).toInt ∧ (v.1 0 15).toInt ≤ 16000) (hlo : ∀ j : Nat, (j : Int) < lo → (lab j : Int) ≤ 2 * (v.1 0 52).toInt) (hlom : ∀ j : Nat, (j : Int) < lom → (labm j : Int) ≤ 2 * (v.1 0 52).toInt) : Met l yX13_ends (Cond.code yX13_ends cX13_ends 1 none :: tw_W) ({ frames := 3, cells := 0, slots := 0, locals := 68 }) (pc_ (dC, dI) (tyS cI cB cZ cJ cR) tb (mW ad N cI cZ cJ v) sz [.ref (ad 0)]) (qv_ (dC, dI) (mW ad N cI cZ cJ v) sz (fun (u : MS) => FG [52, 53, 54, 55, 56, 57, 58] [0, 11, 14] v u ∧ ((u.1 0 52).toInt = (v.1 0 52).toInt - 1) ∧ (∀ j : Nat, (j : Int) < lo → (u.1 11) j = (v.1 11) j) ∧ (∀ j : Nat, (j : Int) < lom → (u.1 14) j = (v.1 14) j) ∧ (GQ u lo lom lab labm)) (fun (u : MS) => (mW ad N cI cZ cJ u))) 0 0 (va_A (mW ad N cI cZ cJ v) sz) := by
  refine Met.ofW (cc := cX13_ends) (maxL := 1) (ret := none) (by decide) rfl ?_
  intro p e s m args below meth c s₁ B hml hv
  obtain ⟨rfl, hsz, hP, hKK, hD0, hFx⟩ := hv
  have hK := hKK.1
  have hx := B.exec
  have hb := B.bytes
  have hr := B.returns
  have ht : ∀ w ∈ tw_W, w.before _ s = true := fun w h => atoms_spec (ws := Cond.code yX13_ends cX13_ends 1 none :: tw_W) B.pre w (List.mem_cons_of_mem _ h)
  have hown : s.vm.findClass RX13 = some m.cls := findClass_of_methodNamed B.named
  have hlocks := B.notSynchronized
  subst hsz
  unfold qv_
  have hD := hD0.self (sz := s.heap.size)
  generalize hAe : va_A (mW ad N cI cZ cJ v) s.heap.size = A at hD hFx ⊢
  have hA : ∀ q : Nat, s.heap.size ≤ q → A q := fun q h => by rw [← hAe]; exact Or.inr h
  have hS : va_S A s.heap s.heap [] := va_S.rf
  have hl := lv_entry ([.ref (ad 0)]) (n := 1) (Nat.le_of_ble_eq_true rfl)
  rw [lg_entry_eq]
  generalize (lg_sl ([.ref (ad 0)]) ++ List.replicate (1 - (lg_sl ([.ref (ad 0)])).length) Slot.unset).toArray = ls at hl ⊢
  have hl : lv_has ls 1 [(0, .ref (ad 0))] := hl
  refine lv_aload_n hx hb dX13_ends_0 rfl (lv_at hl 0 rfl) ?_
  refine lv_aload_n hx hb dX13_ends_1 rfl (lv_at hl 0 rfl) ?_
  refine va_get (D := (dC, dI)) (ci := 16) (fs := mF ad v) (v := .int (v.1 0 53)) (C := RX13) (T := TX13) (N := 124) hx hb ht itX13 hown hK hP 0 rfl rfl 53 (by decide) (ht _ tw_141) (fun _ h9 => h9) rfl dX13_ends_2 ?_
  refine lv_aload_n hx hb dX13_ends_5 rfl (lv_at hl 0 rfl) ?_
  refine va_get (D := (dC, dI)) (ci := 16) (fs := mF ad v) (v := .int (v.1 0 12)) (C := RX13) (T := TX13) (N := 124) hx hb ht itX13 hown hK hP 0 rfl rfl 12 (by decide) (ht _ tw_7) (fun _ h9 => h9) rfl dX13_ends_6 ?_
  refine cu_v (rn_V (n := 2) (As := [.int (v.1 0 53), .int (v.1 0 12)]) (rest := []) hx hb hml hown ht hKK hFx hP hD hS hA (c_m_land l dC dI cI cB cZ cJ cR tb s.heap.size ad N v (v.1 0 53) (v.1 0 12) lab (2 * (v.1 0 52).toNatClampNeg + 1) (show CH (v.1 11) (v.1 0 12).toInt lab from gi.c) (show SL lab (v.1 0 53) (2 * (v.1 0 52).toNatClampNeg + 1) from (gi.sb zl.1)) (show (2 * (v.1 0 52).toNatClampNeg + 1) ≠ 0 from (Nat.succ_ne_zero _)) (show 0 ≤ (v.1 0 12).toInt ∧ (v.1 0 12).toInt ≤ 24000 from (om_fba2d7fbc8 zw))) tw_142 tw_143 (by decide +kernel) rfl rfl ⟨Nat.le_of_ble_eq_true rfl, Nat.le_of_ble_eq_true rfl⟩ (List.range (mW ad N cI cZ cJ v).length) (rg_map _) (mW_nd _ _ _ _ _ _) rfl rfl rfl rfl hl.1 rfl (Nat.le_of_ble_eq_true rfl) dX13_ends_9 ⟨Nat.le_of_ble_eq_true rfl, Nat.le_of_ble_eq_true rfl⟩) hP hD hS hA (fun u2 H locs hw1 hP hD hS => ?_)
  obtain ⟨fr1, kl1⟩ := hw1
  refine W.widen (k := 0) (n := 0) (Nat.le_refl _) (Nat.le_refl _) ?_
  refine lv_aload_n hx hb dX13_ends_12 rfl (lv_at hl 0 rfl) ?_
  refine lv_aload_n hx hb dX13_ends_13 rfl (lv_at hl 0 rfl) ?_
  refine va_get (D := (dC, dI)) (ci := 16) (fs := mF ad u2) (v := .int (u2.1 0 54)) (C := RX13) (T := TX13) (N := 124) hx hb ht itX13 hown hK hP 0 rfl rfl 54 (by decide) (ht _ tw_144) (fun _ h9 => h9) rfl dX13_ends_14 ?_
  refine lv_aload_n hx hb dX13_ends_17 rfl (lv_at hl 0 rfl) ?_
  refine va_get (D := (dC, dI)) (ci := 16) (fs := mF ad u2) (v := .int (u2.1 0 15)) (C := RX13) (T := TX13) (N := 124) hx hb ht itX13 hown hK hP 0 rfl rfl 15 (by decide) (ht _ tw_11) (fun _ h9 => h9) rfl dX13_ends_18 ?_
  have q4 : (u2.1 0 15).toInt = (v.1 0 15).toInt := congrArg Int32.toInt ((fr1.2.1 15 (by decide)).trans (show v.1 0 15 = (v.1 0 15) by rfl))
  refine cu_v (rn_V (n := 2) (As := [.int (u2.1 0 54), .int (u2.1 0 15)]) (rest := []) hx hb hml hown ht hKK hFx hP hD hS hA (c_m_arrive l dC dI cI cB cZ cJ cR tb H.size ad N u2 (u2.1 0 54) (u2.1 0 15) labm (2 * (v.1 0 52).toNatClampNeg + 1) (show CH (u2.1 14) (u2.1 0 15).toInt labm from (gi.m.eq (fr1.2.2 14 (by decide)) (congrArg Int32.toInt (fr1.2.1 15 (by decide))))) (show SL labm (u2.1 0 54) (2 * (v.1 0 52).toNatClampNeg + 1) from ((fr1.2.1 54 (by decide)).symm ▸ gi.smb zl.1)) (show (2 * (v.1 0 52).toNatClampNeg + 1) ≠ 0 from (Nat.succ_ne_zero _)) (show 0 ≤ (u2.1 0 15).toInt ∧ (u2.1 0 15).toInt ≤ 16000 from (om_3800f138a1 zo q4))) tw_145 tw_146 (by decide +kernel) rfl rfl ⟨Nat.le_of_ble_eq_true rfl, Nat.le_of_ble_eq_true rfl⟩ (List.range (mW ad N cI cZ cJ u2).length) (rg_map _) (mW_nd _ _ _ _ _ _) rfl rfl rfl rfl hl.1 rfl (Nat.le_of_ble_eq_true rfl) dX13_ends_21 ⟨Nat.le_of_ble_eq_true rfl, Nat.le_of_ble_eq_true rfl⟩) hP hD hS hA (fun u6 H locs hw5 hP hD hS => ?_)
  obtain ⟨fr5, kl5⟩ := hw5
  have kl5 : ∀ j : Nat, labm j ≠ (2 * (v.1 0 52).toNatClampNeg + 1) → (u6.1 14) j = (u2.1 14) j := kl5
  refine W.widen (k := 0) (n := 0) (Nat.le_refl _) (Nat.le_refl _) ?_
  refine lv_aload_n hx hb dX13_ends_24 rfl (lv_at hl 0 rfl) ?_
  refine lv_dup hx hb dX13_ends_25 rfl ?_
  refine va_get (D := (dC, dI)) (ci := 16) (fs := mF ad u6) (v := .int (u6.1 0 52)) (C := RX13) (T := TX13) (N := 124) hx hb ht itX13 hown hK hP 0 rfl rfl 52 (by decide) (ht _ tw_147) (fun _ h9 => h9) rfl dX13_ends_26 ?_
  refine lv_iconst (v := 1) hx hb dX13_ends_29 (by decide) ?_
  refine lv_isub hx hb dX13_ends_30 ?_
  have q8 : (u2.1 0 52).toInt = (v.1 0 52).toInt := congrArg Int32.toInt ((fr1.2.1 52 (by decide)).trans (show v.1 0 52 = (v.1 0 52) by rfl))
  have q9 : (u6.1 0 52).toInt = (u2.1 0 52).toInt := congrArg Int32.toInt ((fr5.2.1 52 (by decide)).trans (show u2.1 0 52 = (u2.1 0 52) by rfl))
  have z10 : ((u6.1 0 52) - (1 : Int32)).toInt = ((u6.1 0 52).toInt) - (1 : Int) := sub_z rfl (show (1 : Int32).toInt = (1 : Int) by decide) (om_5ac2b07dcd zl q8 q9) (om_79d1605087 zl q8 q9)
  refine va_put (D := (dC, dI)) (ci := 16) (fs := mF ad u6) (v := .int ((u6.1 0 52) - (1 : Int32))) (ty := .int) (C := RX13) (T := TX13) (N := 124) hx hb ht itX13 tyX13 tyX13_ok nmX13 hown hK hP hD hS 0 rfl rfl 52 (by decide) (ht _ tw_147) (fun _ h9 => h9) rfl (by decide +kernel) rfl rfl (Nat.le_of_ble_eq_true rfl) dX13_ends_31 (fun H locs hP hD hS => ?_)
  have hP := cP_ (mw_52 ad N cI cZ cJ u6 ((u6.1 0 52) - (1 : Int32))) hP
  have hD := cD_ (mw_52 ad N cI cZ cJ u6 ((u6.1 0 52) - (1 : Int32))) hD
  refine lv_aload_n hx hb dX13_ends_34 rfl (lv_at hl 0 rfl) ?_
  refine lv_aload_n hx hb dX13_ends_35 rfl (lv_at hl 0 rfl) ?_
  refine va_get (D := (dC, dI)) (ci := 16) (fs := mF ad (wA u6 0 52 ((u6.1 0 52) - (1 : Int32)))) (v := .ref (ad 61)) (C := RX13) (T := TX13) (N := 124) hx hb ht itX13 hown hK hP 0 rfl rfl 61 (by decide) (ht _ tw_148) (fun _ h9 => h9) rfl dX13_ends_36 ?_
  refine lv_aload_n hx hb dX13_ends_39 rfl (lv_at hl 0 rfl) ?_
  refine va_get (D := (dC, dI)) (ci := 16) (fs := mF ad (wA u6 0 52 ((u6.1 0 52) - (1 : Int32)))) (v := .int ((u6.1 0 52) - (1 : Int32))) (C := RX13) (T := TX13) (N := 124) hx hb ht itX13 hown hK hP 0 rfl rfl 52 (by decide) (ht _ tw_147) (fun _ h9 => h9) rfl dX13_ends_40 ?_
  refine va_iald (D := (dC, dI)) (f := (u6.1 61)) hx hb hK hP 29 0 rfl rfl (in_y (a := (((u6.1 0 52).toInt) - (1 : Int))) (b := 42) z10 (om_b88da65d9c zl q8 q9) (om_c4c2f0609d zl q8 q9) rfl) dX13_ends_43 ?_
  refine va_put (D := (dC, dI)) (ci := 16) (fs := mF ad (wA u6 0 52 ((u6.1 0 52) - (1 : Int32)))) (v := .int ((u6.1 61) ((u6.1 0 52) - (1 : Int32)).toNatClampNeg)) (ty := .int) (C := RX13) (T := TX13) (N := 124) hx hb ht itX13 tyX13 tyX13_ok nmX13 hown hK hP hD hS 0 rfl rfl 53 (by decide) (ht _ tw_141) (fun _ h9 => h9) rfl (by decide +kernel) rfl rfl (Nat.le_of_ble_eq_true rfl) dX13_ends_44 (fun H locs hP hD hS => ?_)
  have hP := cP_ (mw_53 ad N cI cZ cJ (wA u6 0 52 ((u6.1 0 52) - (1 : Int32))) ((u6.1 61) ((u6.1 0 52) - (1 : Int32)).toNatClampNeg)) hP
  have hD := cD_ (mw_53 ad N cI cZ cJ (wA u6 0 52 ((u6.1 0 52) - (1 : Int32))) ((u6.1 61) ((u6.1 0 52) - (1 : Int32)).toNatClampNeg)) hD
  refine lv_aload_n hx hb dX13_ends_47 rfl (lv_at hl 0 rfl) ?_
  refine lv_aload_n hx hb dX13_ends_48 rfl (lv_at hl 0 rfl) ?_
  refine va_get (D := (dC, dI)) (ci := 16) (fs := mF ad (wA (wA u6 0 52 ((u6.1 0 52) - (1 : Int32))) 0 53 ((u6.1 61) ((u6.1 0 52) - (1 : Int32)).toNatClampNeg))) (v := .ref (ad 62)) (C := RX13) (T := TX13) (N := 124) hx hb ht itX13 hown hK hP 0 rfl rfl 62 (by decide) (ht _ tw_149) (fun _ h9 => h9) rfl dX13_ends_49 ?_
  refine lv_aload_n hx hb dX13_ends_52 rfl (lv_at hl 0 rfl) ?_
  refine va_get (D := (dC, dI)) (ci := 16) (fs := mF ad (wA (wA u6 0 52 ((u6.1 0 52) - (1 : Int32))) 0 53 ((u6.1 61) ((u6.1 0 52) - (1 : Int32)).toNatClampNeg))) (v := .int ((u6.1 0 52) - (1 : Int32))) (C := RX13) (T := TX13) (N := 124) hx hb ht itX13 hown hK hP 0 rfl rfl 52 (by decide) (ht _ tw_147) (fun _ h9 => h9) rfl dX13_ends_53 ?_
  refine va_iald (D := (dC, dI)) (f := (u6.1 62)) hx hb hK hP 30 0 rfl rfl (in_y (a := (((u6.1 0 52).toInt) - (1 : Int))) (b := 42) z10 (om_b88da65d9c zl q8 q9) (om_c4c2f0609d zl q8 q9) rfl) dX13_ends_56 ?_
  refine va_put (D := (dC, dI)) (ci := 16) (fs := mF ad (wA (wA u6 0 52 ((u6.1 0 52) - (1 : Int32))) 0 53 ((u6.1 61) ((u6.1 0 52) - (1 : Int32)).toNatClampNeg))) (v := .int ((u6.1 62) ((u6.1 0 52) - (1 : Int32)).toNatClampNeg)) (ty := .int) (C := RX13) (T := TX13) (N := 124) hx hb ht itX13 tyX13 tyX13_ok nmX13 hown hK hP hD hS 0 rfl rfl 54 (by decide) (ht _ tw_144) (fun _ h9 => h9) rfl (by decide +kernel) rfl rfl (Nat.le_of_ble_eq_true rfl) dX13_ends_57 (fun H locs hP hD hS => ?_)
  have hP := cP_ (mw_54 ad N cI cZ cJ (wA (wA u6 0 52 ((u6.1 0 52) - (1 : Int32))) 0 53 ((u6.1 61) ((u6.1 0 52) - (1 : Int32)).toNatClampNeg)) ((u6.1 62) ((u6.1 0 52) - (1 : Int32)).toNatClampNeg)) hP
  have hD := cD_ (mw_54 ad N cI cZ cJ (wA (wA u6 0 52 ((u6.1 0 52) - (1 : Int32))) 0 53 ((u6.1 61) ((u6.1 0 52) - (1 : Int32)).toNatClampNeg)) ((u6.1 62) ((u6.1 0 52) - (1 : Int32)).toNatClampNeg)) hD
  refine lv_aload_n hx hb dX13_ends_60 rfl (lv_at hl 0 rfl) ?_
  refine lv_aload_n hx hb dX13_ends_61 rfl (lv_at hl 0 rfl) ?_
  refine va_get (D := (dC, dI)) (ci := 16) (fs := mF ad (wA (wA (wA u6 0 52 ((u6.1 0 52) - (1 : Int32))) 0 53 ((u6.1 61) ((u6.1 0 52) - (1 : Int32)).toNatClampNeg)) 0 54 ((u6.1 62) ((u6.1 0 52) - (1 : Int32)).toNatClampNeg))) (v := .ref (ad 63)) (C := RX13) (T := TX13) (N := 124) hx hb ht itX13 hown hK hP 0 rfl rfl 63 (by decide) (ht _ tw_150) (fun _ h9 => h9) rfl dX13_ends_62 ?_
  refine lv_aload_n hx hb dX13_ends_65 rfl (lv_at hl 0 rfl) ?_
  refine va_get (D := (dC, dI)) (ci := 16) (fs := mF ad (wA (wA (wA u6 0 52 ((u6.1 0 52) - (1 : Int32))) 0 53 ((u6.1 61) ((u6.1 0 52) - (1 : Int32)).toNatClampNeg)) 0 54 ((u6.1 62) ((u6.1 0 52) - (1 : Int32)).toNatClampNeg))) (v := .int ((u6.1 0 52) - (1 : Int32))) (C := RX13) (T := TX13) (N := 124) hx hb ht itX13 hown hK hP 0 rfl rfl 52 (by decide) (ht _ tw_147) (fun _ h9 => h9) rfl dX13_ends_66 ?_
  refine va_iald (D := (dC, dI)) (f := (u6.1 63)) hx hb hK hP 31 0 rfl rfl (in_y (a := (((u6.1 0 52).toInt) - (1 : Int))) (b := 42) z10 (om_b88da65d9c zl q8 q9) (om_c4c2f0609d zl q8 q9) rfl) dX13_ends_69 ?_
  refine va_put (D := (dC, dI)) (ci := 16) (fs := mF ad (wA (wA (wA u6 0 52 ((u6.1 0 52) - (1 : Int32))) 0 53 ((u6.1 61) ((u6.1 0 52) - (1 : Int32)).toNatClampNeg)) 0 54 ((u6.1 62) ((u6.1 0 52) - (1 : Int32)).toNatClampNeg))) (v := .int ((u6.1 63) ((u6.1 0 52) - (1 : Int32)).toNatClampNeg)) (ty := .int) (C := RX13) (T := TX13) (N := 124) hx hb ht itX13 tyX13 tyX13_ok nmX13 hown hK hP hD hS 0 rfl rfl 55 (by decide) (ht _ tw_151) (fun _ h9 => h9) rfl (by decide +kernel) rfl rfl (Nat.le_of_ble_eq_true rfl) dX13_ends_70 (fun H locs hP hD hS => ?_)
  have hP := cP_ (mw_55 ad N cI cZ cJ (wA (wA (wA u6 0 52 ((u6.1 0 52) - (1 : Int32))) 0 53 ((u6.1 61) ((u6.1 0 52) - (1 : Int32)).toNatClampNeg)) 0 54 ((u6.1 62) ((u6.1 0 52) - (1 : Int32)).toNatClampNeg)) ((u6.1 63) ((u6.1 0 52) - (1 : Int32)).toNatClampNeg)) hP
  have hD := cD_ (mw_55 ad N cI cZ cJ (wA (wA (wA u6 0 52 ((u6.1 0 52) - (1 : Int32))) 0 53 ((u6.1 61) ((u6.1 0 52) - (1 : Int32)).toNatClampNeg)) 0 54 ((u6.1 62) ((u6.1 0 52) - (1 : Int32)).toNatClampNeg)) ((u6.1 63) ((u6.1 0 52) - (1 : Int32)).toNatClampNeg)) hD
  refine lv_aload_n hx hb dX13_ends_73 rfl (lv_at hl 0 rfl) ?_
  refine lv_aload_n hx hb dX13_ends_74 rfl (lv_at hl 0 rfl) ?_
  refine va_get (D := (dC, dI)) (ci := 16) (fs := mF ad (wA (wA (wA (wA u6 0 52 ((u6.1 0 52) - (1 : Int32))) 0 53 ((u6.1 61) ((u6.1 0 52) - (1 : Int32)).toNatClampNeg)) 0 54 ((u6.1 62) ((u6.1 0 52) - (1 : Int32)).toNatClampNeg)) 0 55 ((u6.1 63) ((u6.1 0 52) - (1 : Int32)).toNatClampNeg))) (v := .ref (ad 64)) (C := RX13) (T := TX13) (N := 124) hx hb ht itX13 hown hK hP 0 rfl rfl 64 (by decide) (ht _ tw_152) (fun _ h9 => h9) rfl dX13_ends_75 ?_
  refine lv_aload_n hx hb dX13_ends_78 rfl (lv_at hl 0 rfl) ?_
  refine va_get (D := (dC, dI)) (ci := 16) (fs := mF ad (wA (wA (wA (wA u6 0 52 ((u6.1 0 52) - (1 : Int32))) 0 53 ((u6.1 61) ((u6.1 0 52) - (1 : Int32)).toNatClampNeg)) 0 54 ((u6.1 62) ((u6.1 0 52) - (1 : Int32)).toNatClampNeg)) 0 55 ((u6.1 63) ((u6.1 0 52) - (1 : Int32)).toNatClampNeg))) (v := .int ((u6.1 0 52) - (1 : Int32))) (C := RX13) (T := TX13) (N := 124) hx hb ht itX13 hown hK hP 0 rfl rfl 52 (by decide) (ht _ tw_147) (fun _ h9 => h9) rfl dX13_ends_79 ?_
  refine va_iald (D := (dC, dI)) (f := (u6.1 64)) hx hb hK hP 32 0 rfl rfl (in_y (a := (((u6.1 0 52).toInt) - (1 : Int))) (b := 42) z10 (om_b88da65d9c zl q8 q9) (om_c4c2f0609d zl q8 q9) rfl) dX13_ends_82 ?_
  refine va_put (D := (dC, dI)) (ci := 16) (fs := mF ad (wA (wA (wA (wA u6 0 52 ((u6.1 0 52) - (1 : Int32))) 0 53 ((u6.1 61) ((u6.1 0 52) - (1 : Int32)).toNatClampNeg)) 0 54 ((u6.1 62) ((u6.1 0 52) - (1 : Int32)).toNatClampNeg)) 0 55 ((u6.1 63) ((u6.1 0 52) - (1 : Int32)).toNatClampNeg))) (v := .int ((u6.1 64) ((u6.1 0 52) - (1 : Int32)).toNatClampNeg)) (ty := .int) (C := RX13) (T := TX13) (N := 124) hx hb ht itX13 tyX13 tyX13_ok nmX13 hown hK hP hD hS 0 rfl rfl 56 (by decide) (ht _ tw_153) (fun _ h9 => h9) rfl (by decide +kernel) rfl rfl (Nat.le_of_ble_eq_true rfl) dX13_ends_83 (fun H locs hP hD hS => ?_)
  have hP := cP_ (mw_56 ad N cI cZ cJ (wA (wA (wA (wA u6 0 52 ((u6.1 0 52) - (1 : Int32))) 0 53 ((u6.1 61) ((u6.1 0 52) - (1 : Int32)).toNatClampNeg)) 0 54 ((u6.1 62) ((u6.1 0 52) - (1 : Int32)).toNatClampNeg)) 0 55 ((u6.1 63) ((u6.1 0 52) - (1 : Int32)).toNatClampNeg)) ((u6.1 64) ((u6.1 0 52) - (1 : Int32)).toNatClampNeg)) hP
  have hD := cD_ (mw_56 ad N cI cZ cJ (wA (wA (wA (wA u6 0 52 ((u6.1 0 52) - (1 : Int32))) 0 53 ((u6.1 61) ((u6.1 0 52) - (1 : Int32)).toNatClampNeg)) 0 54 ((u6.1 62) ((u6.1 0 52) - (1 : Int32)).toNatClampNeg)) 0 55 ((u6.1 63) ((u6.1 0 52) - (1 : Int32)).toNatClampNeg)) ((u6.1 64) ((u6.1 0 52) - (1 : Int32)).toNatClampNeg)) hD
  refine lv_aload_n hx hb dX13_ends_86 rfl (lv_at hl 0 rfl) ?_
  refine lv_aload_n hx hb dX13_ends_87 rfl (lv_at hl 0 rfl) ?_
  refine va_get (D := (dC, dI)) (ci := 16) (fs := mF ad (wA (wA (wA (wA (wA u6 0 52 ((u6.1 0 52) - (1 : Int32))) 0 53 ((u6.1 61) ((u6.1 0 52) - (1 : Int32)).toNatClampNeg)) 0 54 ((u6.1 62) ((u6.1 0 52) - (1 : Int32)).toNatClampNeg)) 0 55 ((u6.1 63) ((u6.1 0 52) - (1 : Int32)).toNatClampNeg)) 0 56 ((u6.1 64) ((u6.1 0 52) - (1 : Int32)).toNatClampNeg))) (v := .ref (ad 65)) (C := RX13) (T := TX13) (N := 124) hx hb ht itX13 hown hK hP 0 rfl rfl 65 (by decide) (ht _ tw_154) (fun _ h9 => h9) rfl dX13_ends_88 ?_
  refine lv_aload_n hx hb dX13_ends_91 rfl (lv_at hl 0 rfl) ?_
  refine va_get (D := (dC, dI)) (ci := 16) (fs := mF ad (wA (wA (wA (wA (wA u6 0 52 ((u6.1 0 52) - (1 : Int32))) 0 53 ((u6.1 61) ((u6.1 0 52) - (1 : Int32)).toNatClampNeg)) 0 54 ((u6.1 62) ((u6.1 0 52) - (1 : Int32)).toNatClampNeg)) 0 55 ((u6.1 63) ((u6.1 0 52) - (1 : Int32)).toNatClampNeg)) 0 56 ((u6.1 64) ((u6.1 0 52) - (1 : Int32)).toNatClampNeg))) (v := .int ((u6.1 0 52) - (1 : Int32))) (C := RX13) (T := TX13) (N := 124) hx hb ht itX13 hown hK hP 0 rfl rfl 52 (by decide) (ht _ tw_147) (fun _ h9 => h9) rfl dX13_ends_92 ?_
  refine va_iald (D := (dC, dI)) (f := (u6.1 65)) hx hb hK hP 33 0 rfl rfl (in_y (a := (((u6.1 0 52).toInt) - (1 : Int))) (b := 42) z10 (om_b88da65d9c zl q8 q9) (om_c4c2f0609d zl q8 q9) rfl) dX13_ends_95 ?_
  refine va_put (D := (dC, dI)) (ci := 16) (fs := mF ad (wA (wA (wA (wA (wA u6 0 52 ((u6.1 0 52) - (1 : Int32))) 0 53 ((u6.1 61) ((u6.1 0 52) - (1 : Int32)).toNatClampNeg)) 0 54 ((u6.1 62) ((u6.1 0 52) - (1 : Int32)).toNatClampNeg)) 0 55 ((u6.1 63) ((u6.1 0 52) - (1 : Int32)).toNatClampNeg)) 0 56 ((u6.1 64) ((u6.1 0 52) - (1 : Int32)).toNatClampNeg))) (v := .int ((u6.1 65) ((u6.1 0 52) - (1 : Int32)).toNatClampNeg)) (ty := .int) (C := RX13) (T := TX13) (N := 124) hx hb ht itX13 tyX13 tyX13_ok nmX13 hown hK hP hD hS 0 rfl rfl 57 (by decide) (ht _ tw_155) (fun _ h9 => h9) rfl (by decide +kernel) rfl rfl (Nat.le_of_ble_eq_true rfl) dX13_ends_96 (fun H locs hP hD hS => ?_)
  have hP := cP_ (mw_57 ad N cI cZ cJ (wA (wA (wA (wA (wA u6 0 52 ((u6.1 0 52) - (1 : Int32))) 0 53 ((u6.1 61) ((u6.1 0 52) - (1 : Int32)).toNatClampNeg)) 0 54 ((u6.1 62) ((u6.1 0 52) - (1 : Int32)).toNatClampNeg)) 0 55 ((u6.1 63) ((u6.1 0 52) - (1 : Int32)).toNatClampNeg)) 0 56 ((u6.1 64) ((u6.1 0 52) - (1 : Int32)).toNatClampNeg)) ((u6.1 65) ((u6.1 0 52) - (1 : Int32)).toNatClampNeg)) hP
  have hD := cD_ (mw_57 ad N cI cZ cJ (wA (wA (wA (wA (wA u6 0 52 ((u6.1 0 52) - (1 : Int32))) 0 53 ((u6.1 61) ((u6.1 0 52) - (1 : Int32)).toNatClampNeg)) 0 54 ((u6.1 62) ((u6.1 0 52) - (1 : Int32)).toNatClampNeg)) 0 55 ((u6.1 63) ((u6.1 0 52) - (1 : Int32)).toNatClampNeg)) 0 56 ((u6.1 64) ((u6.1 0 52) - (1 : Int32)).toNatClampNeg)) ((u6.1 65) ((u6.1 0 52) - (1 : Int32)).toNatClampNeg)) hD
  refine lv_aload_n hx hb dX13_ends_99 rfl (lv_at hl 0 rfl) ?_
  refine lv_aload_n hx hb dX13_ends_100 rfl (lv_at hl 0 rfl) ?_
  refine va_get (D := (dC, dI)) (ci := 16) (fs := mF ad (wA (wA (wA (wA (wA (wA u6 0 52 ((u6.1 0 52) - (1 : Int32))) 0 53 ((u6.1 61) ((u6.1 0 52) - (1 : Int32)).toNatClampNeg)) 0 54 ((u6.1 62) ((u6.1 0 52) - (1 : Int32)).toNatClampNeg)) 0 55 ((u6.1 63) ((u6.1 0 52) - (1 : Int32)).toNatClampNeg)) 0 56 ((u6.1 64) ((u6.1 0 52) - (1 : Int32)).toNatClampNeg)) 0 57 ((u6.1 65) ((u6.1 0 52) - (1 : Int32)).toNatClampNeg))) (v := .ref (ad 66)) (C := RX13) (T := TX13) (N := 124) hx hb ht itX13 hown hK hP 0 rfl rfl 66 (by decide) (ht _ tw_156) (fun _ h9 => h9) rfl dX13_ends_101 ?_
  refine lv_aload_n hx hb dX13_ends_104 rfl (lv_at hl 0 rfl) ?_
  refine va_get (D := (dC, dI)) (ci := 16) (fs := mF ad (wA (wA (wA (wA (wA (wA u6 0 52 ((u6.1 0 52) - (1 : Int32))) 0 53 ((u6.1 61) ((u6.1 0 52) - (1 : Int32)).toNatClampNeg)) 0 54 ((u6.1 62) ((u6.1 0 52) - (1 : Int32)).toNatClampNeg)) 0 55 ((u6.1 63) ((u6.1 0 52) - (1 : Int32)).toNatClampNeg)) 0 56 ((u6.1 64) ((u6.1 0 52) - (1 : Int32)).toNatClampNeg)) 0 57 ((u6.1 65) ((u6.1 0 52) - (1 : Int32)).toNatClampNeg))) (v := .int ((u6.1 0 52) - (1 : Int32))) (C := RX13) (T := TX13) (N := 124) hx hb ht itX13 hown hK hP 0 rfl rfl 52 (by decide) (ht _ tw_147) (fun _ h9 => h9) rfl dX13_ends_105 ?_
  refine va_iald (D := (dC, dI)) (f := (u6.1 66)) hx hb hK hP 34 0 rfl rfl (in_y (a := (((u6.1 0 52).toInt) - (1 : Int))) (b := 42) z10 (om_b88da65d9c zl q8 q9) (om_c4c2f0609d zl q8 q9) rfl) dX13_ends_108 ?_
  refine va_put (D := (dC, dI)) (ci := 16) (fs := mF ad (wA (wA (wA (wA (wA (wA u6 0 52 ((u6.1 0 52) - (1 : Int32))) 0 53 ((u6.1 61) ((u6.1 0 52) - (1 : Int32)).toNatClampNeg)) 0 54 ((u6.1 62) ((u6.1 0 52) - (1 : Int32)).toNatClampNeg)) 0 55 ((u6.1 63) ((u6.1 0 52) - (1 : Int32)).toNatClampNeg)) 0 56 ((u6.1 64) ((u6.1 0 52) - (1 : Int32)).toNatClampNeg)) 0 57 ((u6.1 65) ((u6.1 0 52) - (1 : Int32)).toNatClampNeg))) (v := .int ((u6.1 66) ((u6.1 0 52) - (1 : Int32)).toNatClampNeg)) (ty := .int) (C := RX13) (T := TX13) (N := 124) hx hb ht itX13 tyX13 tyX13_ok nmX13 hown hK hP hD hS 0 rfl rfl 58 (by decide) (ht _ tw_157) (fun _ h9 => h9) rfl (by decide +kernel) rfl rfl (Nat.le_of_ble_eq_true rfl) dX13_ends_109 (fun H locs hP hD hS => ?_)
  have hP := cP_ (mw_58 ad N cI cZ cJ (wA (wA (wA (wA (wA (wA u6 0 52 ((u6.1 0 52) - (1 : Int32))) 0 53 ((u6.1 61) ((u6.1 0 52) - (1 : Int32)).toNatClampNeg)) 0 54 ((u6.1 62) ((u6.1 0 52) - (1 : Int32)).toNatClampNeg)) 0 55 ((u6.1 63) ((u6.1 0 52) - (1 : Int32)).toNatClampNeg)) 0 56 ((u6.1 64) ((u6.1 0 52) - (1 : Int32)).toNatClampNeg)) 0 57 ((u6.1 65) ((u6.1 0 52) - (1 : Int32)).toNatClampNeg)) ((u6.1 66) ((u6.1 0 52) - (1 : Int32)).toNatClampNeg)) hP
  have hD := cD_ (mw_58 ad N cI cZ cJ (wA (wA (wA (wA (wA (wA u6 0 52 ((u6.1 0 52) - (1 : Int32))) 0 53 ((u6.1 61) ((u6.1 0 52) - (1 : Int32)).toNatClampNeg)) 0 54 ((u6.1 62) ((u6.1 0 52) - (1 : Int32)).toNatClampNeg)) 0 55 ((u6.1 63) ((u6.1 0 52) - (1 : Int32)).toNatClampNeg)) 0 56 ((u6.1 64) ((u6.1 0 52) - (1 : Int32)).toNatClampNeg)) 0 57 ((u6.1 65) ((u6.1 0 52) - (1 : Int32)).toNatClampNeg)) ((u6.1 66) ((u6.1 0 52) - (1 : Int32)).toNatClampNeg)) hD
  exact W.vret hx hb hr (fun t ht9 hW => ⟨⟨(wA (wA (wA (wA (wA (wA (wA u6 0 52 ((u6.1 0 52) - (1 : Int32))) 0 53 ((u6.1 61) ((u6.1 0 52) - (1 : Int32)).toNatClampNeg)) 0 54 ((u6.1 62) ((u6.1 0 52) - (1 : Int32)).toNatClampNeg)) 0 55 ((u6.1 63) ((u6.1 0 52) - (1 : Int32)).toNatClampNeg)) 0 56 ((u6.1 64) ((u6.1 0 52) - (1 : Int32)).toNatClampNeg)) 0 57 ((u6.1 65) ((u6.1 0 52) - (1 : Int32)).toNatClampNeg)) 0 58 ((u6.1 66) ((u6.1 0 52) - (1 : Int32)).toNatClampNeg)), rfl, ⟨(FG.f (FG.f (FG.f (FG.f (FG.f (FG.f (FG.f (FG.tr (FG.tr (FG.rf _) (FG.up fr1 (by decide) (by decide))) (FG.up fr5 (by decide) (by decide))) ((u6.1 0 52) - (1 : Int32)) (by decide)) ((u6.1 61) ((u6.1 0 52) - (1 : Int32)).toNatClampNeg) (by decide)) ((u6.1 62) ((u6.1 0 52) - (1 : Int32)).toNatClampNeg) (by decide)) ((u6.1 63) ((u6.1 0 52) - (1 : Int32)).toNatClampNeg) (by decide)) ((u6.1 64) ((u6.1 0 52) - (1 : Int32)).toNatClampNeg) (by decide)) ((u6.1 65) ((u6.1 0 52) - (1 : Int32)).toNatClampNeg) (by decide)) ((u6.1 66) ((u6.1 0 52) - (1 : Int32)).toNatClampNeg) (by decide)), (show ((u6.1 0 52) - (1 : Int32)).toInt = (v.1 0 52).toInt - 1 from (om_c9243297db q8 q9 z10)), (fun (j9 : Nat) hj9 => (Eq.trans (congrFun (fr5.2.2 11 (by decide)) j9) (kl1 j9 (lab_ne (k := 0) (hlo j9 hj9) (om_82e1c2a82e zl))))), (fun (j9 : Nat) hj9 => (Eq.trans (kl5 j9 (lab_ne (k := 0) (hlom j9 hj9) (om_82e1c2a82e zl))) (congrFun (fr1.2.2 14 (by decide)) j9))), ⟨_, _, GI.pop (u := (wA (wA (wA (wA (wA (wA (wA u6 0 52 ((u6.1 0 52) - (1 : Int32))) 0 53 ((u6.1 61) ((u6.1 0 52) - (1 : Int32)).toNatClampNeg)) 0 54 ((u6.1 62) ((u6.1 0 52) - (1 : Int32)).toNatClampNeg)) 0 55 ((u6.1 63) ((u6.1 0 52) - (1 : Int32)).toNatClampNeg)) 0 56 ((u6.1 64) ((u6.1 0 52) - (1 : Int32)).toNatClampNeg)) 0 57 ((u6.1 65) ((u6.1 0 52) - (1 : Int32)).toNatClampNeg)) 0 58 ((u6.1 66) ((u6.1 0 52) - (1 : Int32)).toNatClampNeg))) (i := ((u6.1 0 52) - (1 : Int32)).toNatClampNeg) gi (by have := nat_z (x := ((u6.1 0 52) - (1 : Int32))) (show 0 ≤ ((u6.1 0 52) - (1 : Int32)).toInt from (om_2dbe15d076 zl q8 q9 z10)); have h9 : ((u6.1 0 52) - (1 : Int32)).toInt = (v.1 0 52).toInt - 1 := (om_c9243297db q8 q9 z10); omega) (show ((u6.1 0 52) - (1 : Int32)).toInt = (v.1 0 52).toInt - 1 from (om_c9243297db q8 q9 z10)) ((fr5.2.1 12 (by decide)).trans (fr1.2.1 12 (by decide))) ((fr5.2.1 15 (by decide)).trans (fr1.2.1 15 (by decide))) ((fr5.2.1 59 (by decide)).trans (fr1.2.1 59 (by decide))) ((fr5.2.2 61 (by decide)).trans (fr1.2.2 61 (by decide))) ((fr5.2.2 62 (by decide)).trans (fr1.2.2 62 (by decide))) ((fr5.2.2 65 (by decide)).trans (fr1.2.2 65 (by decide))) ((fr5.2.2 66 (by decide)).trans (fr1.2.2 66 (by decide))) (congrFun ((fr5.2.2 61 (by decide)).trans (fr1.2.2 61 (by decide))) _) (congrFun ((fr5.2.2 62 (by decide)).trans (fr1.2.2 62 (by decide))) _) (congrFun ((fr5.2.2 65 (by decide)).trans (fr1.2.2 65 (by decide))) _) (congrFun ((fr5.2.2 66 (by decide)).trans (fr1.2.2 66 (by decide))) _) (fun j9 hj9 => (congrFun (fr5.2.2 11 (by decide)) j9).trans (kl1 j9 hj9)) (fun j9 hj9 => (kl5 j9 hj9).trans (congrFun (fr1.2.2 14 (by decide)) j9)), (clr_k (fun j9 hj9 => Int.le_trans (hlo j9 hj9) (show 2 * (v.1 0 52).toInt ≤ 2 * ((u6.1 0 52) - (1 : Int32)).toInt + 2 from (om_672a7b8765 q8 q9 z10)))), (clr_k (fun j9 hj9 => Int.le_trans (hlom j9 hj9) (show 2 * (v.1 0 52).toInt ≤ 2 * ((u6.1 0 52) - (1 : Int32)).toInt + 2 from (om_672a7b8765 q8 q9 z10))))⟩⟩, by rw [ht9]; exact hP, hD⟩, hS.F ht9⟩) hS.2.2 dX13_ends_112
