theorem dX13_named_0 : decode cX13_named 0 = .ok (.aload_n 0, 1) := by decide +kernel
theorem dX13_named_1 : decode cX13_named 1 = .ok (.getfield 137, 3) := by decide +kernel
theorem dX13_named_4 : decode cX13_named 4 = .ok (.istore_n 2, 1) := by decide +kernel
theorem dX13_named_5 : decode cX13_named 5 = .ok (.aload_n 0, 1) := by decide +kernel
theorem dX13_named_6 : decode cX13_named 6 = .ok (.aload_n 0, 1) := by decide +kernel
theorem dX13_named_7 : decode cX13_named 7 = .ok (.getfield 137, 3) := by decide +kernel
theorem dX13_named_10 : decode cX13_named 10 = .ok (.iconst 1, 1) := by decide +kernel
theorem dX13_named_11 : decode cX13_named 11 = .ok (.iadd, 1) := by decide +kernel
theorem dX13_named_12 : decode cX13_named 12 = .ok (.bipush 91, 2) := by decide +kernel
theorem dX13_named_14 : decode cX13_named 14 = .ok (.invokevirtual 144, 3) := by decide +kernel
theorem dX13_named_17 : decode cX13_named 17 = .ok (.istore_n 3, 1) := by decide +kernel
theorem dX13_named_18 : decode cX13_named 18 = .ok (.aload_n 0, 1) := by decide +kernel
theorem dX13_named_19 : decode cX13_named 19 = .ok (.iload_n 2, 1) := by decide +kernel
theorem dX13_named_20 : decode cX13_named 20 = .ok (.invokevirtual 246, 3) := by decide +kernel
theorem tw_98 : (.code yX13_local cX13_local 3 (some .int) : Cond) ∈ tw_W := tw_in (by decide +kernel) (by decide +kernel)
theorem tw_99 : ∀ w ∈ ([.methodLink RX13 246 yX13_local, .instanceMethod yX13_local, .selects RX13 yX13_local yX13_local, .initialized RX13] : List Cond), w ∈ tw_W := tw_all (by decide +kernel)
theorem dX13_named_23 : decode cX13_named 23 = .ok (.istore 4, 2) := by decide +kernel
theorem dX13_named_25 : decode cX13_named 25 = .ok (.iload 4, 2) := by decide +kernel
theorem dX13_named_27 : decode cX13_named 27 = .ok (.ifCond .ge 11, 3) := by decide +kernel
theorem dX13_named_38 : decode cX13_named 38 = .ok (.iconst (-1), 1) := by decide +kernel
theorem dX13_named_39 : decode cX13_named 39 = .ok (.istore 5, 2) := by decide +kernel
theorem dX13_named_41 : decode cX13_named 41 = .ok (.iload 4, 2) := by decide +kernel
theorem dX13_named_43 : decode cX13_named 43 = .ok (.ifCond .ge 8, 3) := by decide +kernel
theorem dX13_named_51 : decode cX13_named 51 = .ok (.iload_n 3, 1) := by decide +kernel
theorem dX13_named_52 : decode cX13_named 52 = .ok (.iload 4, 2) := by decide +kernel
theorem dX13_named_54 : decode cX13_named 54 = .ok (.ifCond .ge 17, 3) := by decide +kernel
theorem dX13_named_71 : decode cX13_named 71 = .ok (.iconst 0, 1) := by decide +kernel
theorem dX13_named_72 : decode cX13_named 72 = .ok (.if_icmp .eq 13, 3) := by decide +kernel
theorem dX13_named_85 : decode cX13_named 85 = .ok (.aload_n 0, 1) := by decide +kernel
theorem dX13_named_86 : decode cX13_named 86 = .ok (.invokevirtual 154, 3) := by decide +kernel
theorem dX13_named_89 : decode cX13_named 89 = .ok (.iload_n 3, 1) := by decide +kernel
theorem dX13_named_90 : decode cX13_named 90 = .ok (.ifCond .eq 9, 3) := by decide +kernel
theorem dX13_named_99 : decode cX13_named 99 = .ok (.iload_n 1, 1) := by decide +kernel
theorem dX13_named_100 : decode cX13_named 100 = .ok (.ifCond .eq 10, 3) := by decide +kernel
theorem dX13_named_110 : decode cX13_named 110 = .ok (.iconst (-1), 1) := by decide +kernel
theorem dX13_named_111 : decode cX13_named 111 = .ok (.istore 6, 2) := by decide +kernel
theorem dX13_named_113 : decode cX13_named 113 = .ok (.iload 6, 2) := by decide +kernel
theorem dX13_named_115 : decode cX13_named 115 = .ok (.iconst (-1), 1) := by decide +kernel
theorem dX13_named_116 : decode cX13_named 116 = .ok (.if_icmp .eq 15, 3) := by decide +kernel
theorem dX13_named_131 : decode cX13_named 131 = .ok (.iload_n 3, 1) := by decide +kernel
theorem dX13_named_132 : decode cX13_named 132 = .ok (.ifCond .eq 33, 3) := by decide +kernel
theorem dX13_named_165 : decode cX13_named 165 = .ok (.aload_n 0, 1) := by decide +kernel
theorem dX13_named_166 : decode cX13_named 166 = .ok (.iload 4, 2) := by decide +kernel
theorem dX13_named_168 : decode cX13_named 168 = .ok (.iload 5, 2) := by decide +kernel
theorem dX13_named_170 : decode cX13_named 170 = .ok (.invokevirtual 268, 3) := by decide +kernel
theorem dX13_named_173 : decode cX13_named 173 = .ok (.iload_n 1, 1) := by decide +kernel
theorem dX13_named_174 : decode cX13_named 174 = .ok (.ifCond .eq 8, 3) := by decide +kernel
theorem dX13_named_182 : decode cX13_named 182 = .ok (.return_, 1) := by decide +kernel
theorem dX13_named_75 : decode cX13_named 75 = .ok (.aload_n 0, 1) := by decide +kernel
theorem dX13_named_76 : decode cX13_named 76 = .ok (.iconst 3, 1) := by decide +kernel
theorem dX13_named_77 : decode cX13_named 77 = .ok (.aload_n 0, 1) := by decide +kernel
theorem dX13_named_78 : decode cX13_named 78 = .ok (.getfield 137, 3) := by decide +kernel
theorem dX13_named_81 : decode cX13_named 81 = .ok (.invokevirtual 140, 3) := by decide +kernel
theorem dX13_named_84 : decode cX13_named 84 = .ok (.athrow, 1) := by decide +kernel
theorem dX13_named_30 : decode cX13_named 30 = .ok (.aload_n 0, 1) := by decide +kernel
theorem dX13_named_31 : decode cX13_named 31 = .ok (.iload_n 2, 1) := by decide +kernel
theorem dX13_named_32 : decode cX13_named 32 = .ok (.invokevirtual 249, 3) := by decide +kernel
theorem tw_100 : (.code yX13_globalOf cX13_globalOf 3 (some .int) : Cond) ∈ tw_W := tw_in (by decide +kernel) (by decide +kernel)
theorem tw_101 : ∀ w ∈ ([.methodLink RX13 249 yX13_globalOf, .instanceMethod yX13_globalOf, .selects RX13 yX13_globalOf yX13_globalOf, .initialized RX13] : List Cond), w ∈ tw_W := tw_all (by decide +kernel)
theorem dX13_named_35 : decode cX13_named 35 = .ok (.goto 4, 3) := by decide +kernel
theorem dX13_named_46 : decode cX13_named 46 = .ok (.iload 5, 2) := by decide +kernel
theorem dX13_named_48 : decode cX13_named 48 = .ok (.ifCond .lt 27, 3) := by decide +kernel
theorem dX13_named_57 : decode cX13_named 57 = .ok (.aload_n 0, 1) := by decide +kernel
theorem dX13_named_58 : decode cX13_named 58 = .ok (.getfield 252, 3) := by decide +kernel
theorem tw_102 : (.fieldLink RX13 252 "PocketCompilerModel" "gRow" "[Z" : Cond) ∈ tw_W := tw_in (by decide +kernel) (by decide +kernel)
theorem dX13_named_61 : decode cX13_named 61 = .ok (.iload 5, 2) := by decide +kernel
theorem dX13_named_63 : decode cX13_named 63 = .ok (.baload, 1) := by decide +kernel
theorem dX13_named_64 : decode cX13_named 64 = .ok (.ifCond .eq 7, 3) := by decide +kernel
theorem dX13_named_67 : decode cX13_named 67 = .ok (.iconst 1, 1) := by decide +kernel
theorem dX13_named_68 : decode cX13_named 68 = .ok (.goto 4, 3) := by decide +kernel
theorem dX13_named_93 : decode cX13_named 93 = .ok (.aload_n 0, 1) := by decide +kernel
theorem dX13_named_94 : decode cX13_named 94 = .ok (.iload 5, 2) := by decide +kernel
theorem dX13_named_96 : decode cX13_named 96 = .ok (.invokevirtual 255, 3) := by decide +kernel
theorem tw_103 : (.code yX13_index cX13_index 3 none : Cond) ∈ tw_W := tw_in (by decide +kernel) (by decide +kernel)
theorem tw_104 : ∀ w ∈ ([.methodLink RX13 255 yX13_index, .instanceMethod yX13_index, .selects RX13 yX13_index yX13_index, .initialized RX13] : List Cond), w ∈ tw_W := tw_all (by decide +kernel)
theorem dX13_named_135 : decode cX13_named 135 = .ok (.aload_n 0, 1) := by decide +kernel
theorem dX13_named_136 : decode cX13_named 136 = .ok (.aload_n 0, 1) := by decide +kernel
theorem dX13_named_137 : decode cX13_named 137 = .ok (.bipush 10, 2) := by decide +kernel
theorem dX13_named_139 : decode cX13_named 139 = .ok (.iconst 0, 1) := by decide +kernel
theorem dX13_named_140 : decode cX13_named 140 = .ok (.bipush 10, 2) := by decide +kernel
theorem dX13_named_142 : decode cX13_named 142 = .ok (.invokestatic 265, 3) := by decide +kernel
theorem dX13_named_145 : decode cX13_named 145 = .ok (.invokevirtual 111, 3) := by decide +kernel
theorem dX13_named_148 : decode cX13_named 148 = .ok (.iload 5, 2) := by decide +kernel
theorem dX13_named_150 : decode cX13_named 150 = .ok (.iconst 1, 1) := by decide +kernel
theorem dX13_named_151 : decode cX13_named 151 = .ok (.invokevirtual 216, 3) := by decide +kernel
theorem dX13_named_154 : decode cX13_named 154 = .ok (.aload_n 0, 1) := by decide +kernel
theorem dX13_named_155 : decode cX13_named 155 = .ok (.bipush 6, 2) := by decide +kernel
theorem dX13_named_157 : decode cX13_named 157 = .ok (.iconst 0, 1) := by decide +kernel
theorem dX13_named_158 : decode cX13_named 158 = .ok (.invokevirtual 210, 3) := by decide +kernel
theorem dX13_named_161 : decode cX13_named 161 = .ok (.pop, 1) := by decide +kernel
theorem dX13_named_162 : decode cX13_named 162 = .ok (.goto 11, 3) := by decide +kernel
set_option maxHeartbeats 16000000 in
set_option maxRecDepth 100000 in
theorem c_m_named0 (l : Launch) (n : Nat) (ihE : ∀ m, n = m + 1 → Cx_expression l m) (dC : Nat → ClassId) (dI : Nat → Nat → Nat) (cI cB cZ cJ cR : ClassId) (tb : Nat → Nat) (sz : Nat) (ad : Nat → Nat) (N : Nat) (v : MS)  (zn : 40 ≤ (v.1 0 48).toInt + (n : Int)) (zt : 0 ≤ (v.1 0 47).toInt ∧ (v.1 0 47).toInt ≤ 1500) (zop : 0 ≤ (v.1 0 48).toInt ∧ (v.1 0 48).toInt ≤ 40) (zkn : 0 ≤ (v.1 0 30).toInt ∧ (v.1 0 30).toInt ≤ 500) (zhi : 0 ≤ (v.1 0 33).toInt ∧ (v.1 0 33).toInt ≤ 500) (zs : 0 ≤ (v.1 0 32).toInt ∧ (v.1 0 30).toInt + (v.1 0 32).toInt ≤ 500) (zws : 0 ≤ (v.1 0 12).toInt ∧ (v.1 0 12).toInt ≤ 15 * (v.1 0 47).toInt + 2) (zos : 0 ≤ (v.1 0 15).toInt ∧ (v.1 0 15).toInt ≤ 10 * (v.1 0 47).toInt + 0) (zfs : 0 ≤ (v.1 0 43).toInt ∧ (v.1 0 43).toInt ≤ 15 * (v.1 0 47).toInt + 0) (zcs : 0 ≤ (v.1 0 39).toInt ∧ (v.1 0 39).toInt ≤ 1 * (v.1 0 47).toInt + 0) (zgl : 0 ≤ (v.1 0 27).toInt ∧ (v.1 0 27).toInt ≤ 60) (hT : TI v) (n29 : NI 29 v) (n23 : NI 23 v) (n35 : NI 35 v) : vx_Met l yX13_named (Cond.code yX13_named cX13_named 7 none :: tw_W) ({ frames := 40 * n + 8, cells := 0, slots := 0, locals := 28 * (40 * n + 8) }) (pc_ (dC, dI) (tyS cI cB cZ cJ cR) tb (mW ad N cI cZ cJ v) sz [.ref (ad 0), .int 0]) (qv_ (dC, dI) (mW ad N cI cZ cJ v) sz (fun (u : MS) => FG [12, 15, 32, 33, 39, 43, 44, 45, 47, 48, 49, 50, 51] [0, 11, 13, 14, 35, 36, 37, 38, 40, 41, 42] v u ∧ ((v.1 0 47).toInt + 1 ≤ (u.1 0 47).toInt ∧ (u.1 0 47).toInt ≤ 1500) ∧ ((v.1 0 49).toInt ≠ (v.1 0 47).toInt) ∧ ((v.1 0 12).toInt ≤ (u.1 0 12).toInt ∧ (u.1 0 12).toInt - 15 * (u.1 0 47).toInt ≤ (v.1 0 12).toInt - 15 * (v.1 0 47).toInt) ∧ ((v.1 0 15).toInt ≤ (u.1 0 15).toInt ∧ (u.1 0 15).toInt - 10 * (u.1 0 47).toInt ≤ (v.1 0 15).toInt - 10 * (v.1 0 47).toInt) ∧ ((v.1 0 43).toInt ≤ (u.1 0 43).toInt ∧ (u.1 0 43).toInt - 15 * (u.1 0 47).toInt ≤ (v.1 0 43).toInt - 15 * (v.1 0 47).toInt) ∧ ((v.1 0 39).toInt ≤ (u.1 0 39).toInt ∧ (u.1 0 39).toInt - 1 * (u.1 0 47).toInt ≤ (v.1 0 39).toInt - 1 * (v.1 0 47).toInt) ∧ ((u.1 0 32).toInt = (v.1 0 32).toInt ∧ (u.1 0 48).toInt = (v.1 0 48).toInt) ∧ ((v.1 0 33).toInt ≤ (u.1 0 33).toInt ∧ (u.1 0 33).toInt ≤ 500) ∧ (∀ j : Nat, (j : Int) < (v.1 0 12).toInt → (u.1 11) j = (v.1 11) j) ∧ (∀ j : Nat, (j : Int) < (v.1 0 15).toInt → (u.1 13) j = (v.1 13) j) ∧ (∀ j : Nat, (j : Int) < (v.1 0 15).toInt → (u.1 14) j = (v.1 14) j) ∧ (NI 35 u)) (fun (u : MS) => (mW ad N cI cZ cJ u))) (qxm (dC, dI) (mW ad N cI cZ cJ v) sz (fun (u : MS) => (mW ad N cI cZ cJ u)) (fun (u : MS) => Fr v u)) 0 0 (va_A (mW ad N cI cZ cJ v) sz) := by
  refine vx_ofW (cc := cX13_named) (maxL := 7) (ret := none) (by decide) rfl ?_
  intro p e s m args below meth c s₁ B hml hnt hv
  obtain ⟨rfl, hsz, hP, hKK, hD0, hFx⟩ := hv
  have hK := hKK.1
  have hx := B.exec
  have hb := B.bytes
  have hr := B.returns
  have ht : ∀ w ∈ tw_W, w.before _ s = true := fun w h => atoms_spec (ws := Cond.code yX13_named cX13_named 7 none :: tw_W) B.pre w (List.mem_cons_of_mem _ h)
  have hown : s.vm.findClass RX13 = some m.cls := findClass_of_methodNamed B.named
  have hlocks := B.notSynchronized
  subst hsz
  unfold qv_ qxm
  have hD := hD0.self (sz := s.heap.size)
  generalize hAe : va_A (mW ad N cI cZ cJ v) s.heap.size = A at hD hFx ⊢
  have hA : ∀ q : Nat, s.heap.size ≤ q → A q := fun q h => by rw [← hAe]; exact Or.inr h
  have hS : va_S A s.heap s.heap [] := va_S.rf
  have hl := lv_entry ([.ref (ad 0), .int 0]) (n := 7) (Nat.le_of_ble_eq_true rfl)
  rw [lg_entry_eq]
  generalize (lg_sl ([.ref (ad 0), .int 0]) ++ List.replicate (7 - (lg_sl ([.ref (ad 0), .int 0])).length) Slot.unset).toArray = ls at hl ⊢
  have hl : lv_has ls 7 [(0, .ref (ad 0)), (1, .int 0)] := hl
  refine lv_aload_n hx hb dX13_named_0 rfl (lv_at hl 0 rfl) ?_
  refine va_get (D := (dC, dI)) (ci := 16) (fs := mF ad v) (v := .int (v.1 0 47)) (C := RX13) (T := TX13) (N := 124) hx hb ht itX13 hown hK hP 0 rfl rfl 47 (by decide) (ht _ tw_24) (fun _ h9 => h9) rfl dX13_named_1 ?_
  refine lv_istore_n (lv' := [(2, .int (v.1 0 47)), (0, .ref (ad 0)), (1, .int 0)]) hx hb dX13_named_4 rfl hl (by decide) rfl (fun ls hl => ?_)
  refine lv_aload_n hx hb dX13_named_5 rfl (lv_at hl 1 rfl) ?_
  refine lv_aload_n hx hb dX13_named_6 rfl (lv_at hl 1 rfl) ?_
  refine va_get (D := (dC, dI)) (ci := 16) (fs := mF ad v) (v := .int (v.1 0 47)) (C := RX13) (T := TX13) (N := 124) hx hb ht itX13 hown hK hP 0 rfl rfl 47 (by decide) (ht _ tw_24) (fun _ h9 => h9) rfl dX13_named_7 ?_
  refine lv_iconst (v := 1) hx hb dX13_named_10 (by decide) ?_
  refine lv_iadd hx hb dX13_named_11 ?_
  have z1 : ((v.1 0 47) + (1 : Int32)).toInt = (v.1 0 47).toInt + 1 := add_z rfl (show (1 : Int32).toInt = 1 by decide) (by omega) (by omega)
  refine lv_bipush (v := 91) hx hb dX13_named_12 (by decide) ?_
  refine cu_i (rn_V (n := 2) (As := [.int ((v.1 0 47) + (1 : Int32)), .int 91]) (rest := []) hx hb hml hown ht hKK hFx hP hD hS hA (c_m_isSign l dC dI cI cB cZ cJ cR tb s.heap.size ad N v ((v.1 0 47) + (1 : Int32)) (91 : Int32) (show 0 ≤ ((v.1 0 47) + (1 : Int32)).toInt ∧ ((v.1 0 47) + (1 : Int32)).toInt < 4002 by omega)) tw_28 tw_29 (by decide +kernel) rfl rfl ⟨by show 0 + 1 ≤ 40 * n + 8; omega, by show 8 + (3 + 11) + 0 ≤ 28 * (40 * n + 8); omega⟩ (List.range (mW ad N cI cZ cJ v).length) (rg_map _) (mW_nd _ _ _ _ _ _) rfl rfl rfl rfl hl.1 rfl (Nat.le_of_ble_eq_true rfl) dX13_named_14 ⟨Nat.le_of_ble_eq_true rfl, Nat.le_of_ble_eq_true rfl⟩) hP hD hS hA (fun r4 u3 H locs hw2 hP hD hS => ?_)
  obtain ⟨rfl, b2⟩ := hw2
  refine W.widen (k := 0) (n := 0) (by omega) (by omega) ?_
  refine lv_istore_n (lv' := [(3, .int r4), (2, .int (v.1 0 47)), (0, .ref (ad 0)), (1, .int 0)]) hx hb dX13_named_17 rfl hl (by decide) rfl (fun ls hl => ?_)
  refine lv_aload_n hx hb dX13_named_18 rfl (lv_at hl 2 rfl) ?_
  refine lv_iload_n hx hb dX13_named_19 rfl (lv_at hl 1 rfl) ?_
  refine cu_i (rn_V (n := 1) (As := [.int (v.1 0 47)]) (rest := []) hx hb hml hown ht hKK hFx hP hD hS hA (c_m_local l dC dI cI cB cZ cJ cR tb H.size ad N v (v.1 0 47) (show 0 ≤ (v.1 0 47).toInt ∧ (v.1 0 47).toInt < 4002 by omega) (show 0 ≤ (v.1 0 30).toInt ∧ (v.1 0 30).toInt ≤ 501 by omega) (FG.ti (fl := pfl) (al := pal) (FG.rf _) (by decide) (by decide) hT) (n29)) tw_98 tw_99 (by decide +kernel) rfl rfl ⟨by show 1 + 1 ≤ 40 * n + 8; omega, by show 8 + (3 + 11) + 25 ≤ 28 * (40 * n + 8); omega⟩ (List.range (mW ad N cI cZ cJ v).length) (rg_map _) (mW_nd _ _ _ _ _ _) rfl rfl rfl rfl hl.1 rfl (Nat.le_of_ble_eq_true rfl) dX13_named_20 ⟨Nat.le_of_ble_eq_true rfl, Nat.le_of_ble_eq_true rfl⟩) hP hD hS hA (fun r7 u6 H locs hw5 hP hD hS => ?_)
  obtain ⟨rfl, a5, b5⟩ := hw5
  refine W.widen (k := 0) (n := 0) (by omega) (by omega) ?_
  refine lv_istore (lv' := [(4, .int r7), (3, .int r4), (2, .int (v.1 0 47)), (0, .ref (ad 0)), (1, .int 0)]) hx hb dX13_named_23 hl (by decide) rfl (fun ls hl => ?_)
  refine lv_iload hx hb dX13_named_25 (lv_at hl 0 rfl) ?_
  refine lv_if_ge (tgt := 38) hx hb dX13_named_27 (by decide) (fun h8 => ?_) (fun h8 => ?_)
  · have z9 : 0 ≤ r7.toInt := le_z (show (0 : Int32).toInt = 0 by decide) rfl h8
    refine lv_iconst (v := -1) hx hb dX13_named_38 (by decide) ?_
    refine lv_istore (lv' := [(5, .int (-1)), (4, .int r7), (3, .int r4), (2, .int (v.1 0 47)), (0, .ref (ad 0)), (1, .int 0)]) hx hb dX13_named_39 hl (by decide) rfl (fun ls hl => ?_)
    refine lv_iload hx hb dX13_named_41 (lv_at hl 1 rfl) ?_
    refine lv_if_ge (tgt := 51) hx hb dX13_named_43 (by decide) (fun h10 => ?_) (fun h10 => ?_)
    · have z11 : 0 ≤ r7.toInt := le_z (show (0 : Int32).toInt = 0 by decide) rfl h10
      refine lv_iload_n hx hb dX13_named_51 rfl (lv_at hl 2 rfl) ?_
      refine lv_iload hx hb dX13_named_52 (lv_at hl 1 rfl) ?_
      refine lv_if_ge (tgt := 71) hx hb dX13_named_54 (by decide) (fun h12 => ?_) (fun h12 => ?_)
      · have z13 : 0 ≤ r7.toInt := le_z (show (0 : Int32).toInt = 0 by decide) rfl h12
        refine lv_iconst (v := 0) hx hb dX13_named_71 (by decide) ?_
        refine lv_icmp_eq (tgt := 85) hx hb dX13_named_72 (by decide) (fun h14 => ?_) (fun h14 => ?_)
        · have z15 : r4.toInt = 0 := eq_z rfl (show (0 : Int32).toInt = 0 by decide) h14
          refine lv_aload_n hx hb dX13_named_85 rfl (lv_at hl 4 rfl) ?_
          refine cux_v (rx_V (n := 0) (As := []) (rest := []) hx hb hml hown ht hKK hFx hP hD hS hA (c_m_take l dC dI cI cB cZ cJ cR tb H.size ad N v  (show 0 ≤ (v.1 0 47).toInt ∧ (v.1 0 47).toInt ≤ 1500 by omega)) tw_32 tw_33 (by decide +kernel) rfl rfl ⟨by show 1 + 1 ≤ 40 * n + 8; omega, by show 8 + (1 + 11) + 22 ≤ 28 * (40 * n + 8); omega⟩ (List.range (mW ad N cI cZ cJ v).length) (rg_map _) (mW_nd _ _ _ _ _ _) rfl rfl rfl rfl hl.1 rfl (Nat.le_of_ble_eq_true rfl) dX13_named_86 ⟨Nat.le_of_ble_eq_true rfl, Nat.le_of_ble_eq_true rfl⟩) hP hD hS hA (fun u9 ce9 q9 H locs hx9 hP hD hS hc9 hv9 hf9 => ?_) (fun u17 H locs hw16 hP hD hS => ?_)
          · exact vx_out (fun x h9 => (hnt x h9).elim) hlocks hc9 hv9 hf9 (fun t9 ht9 hv8 => ⟨u9, (FG.tr (FG.rf _) hx9), ⟨rfl, by rw [ht9]; exact hP, hD⟩, hS.F ht9⟩) hS.2.2 (by omega) (by omega)
          obtain ⟨rfl, a16, b16⟩ := hw16
          have z19 : ((v.1 0 47) + (1 : Int32)).toInt = (v.1 0 47).toInt + 1 := add_z rfl (show (1 : Int32).toInt = 1 by decide) (by omega) (by omega)
          have hP : va_P (dC, dI) vwCl (mW ad N cI cZ cJ (wA v 0 47 ((v.1 0 47) + (1 : Int32)))) H := hP
          have hD : va_D A (mW ad N cI cZ cJ (wA v 0 47 ((v.1 0 47) + (1 : Int32)))) := hD
          refine W.widen (k := 0) (n := 0) (by omega) (by omega) ?_
          refine lv_iload_n hx hb dX13_named_89 rfl (lv_at hl 2 rfl) ?_
          refine lv_if_eq (tgt := 99) hx hb dX13_named_90 (by decide) (fun h20 => ?_) (fun h20 => ?_)
          · have z21 : r4.toInt = 0 := eq_z rfl (show (0 : Int32).toInt = 0 by decide) h20
            refine lv_iload_n hx hb dX13_named_99 rfl (lv_at hl 5 rfl) ?_
            refine lv_if_eq (tgt := 110) hx hb dX13_named_100 (by decide) (fun _ => ?_) (fun k22 => absurd k22 (by decide))
            refine lv_iconst (v := -1) hx hb dX13_named_110 (by decide) ?_
            refine lv_istore (lv' := [(6, .int (-1)), (5, .int (-1)), (4, .int r7), (3, .int r4), (2, .int (v.1 0 47)), (0, .ref (ad 0)), (1, .int 0)]) hx hb dX13_named_111 hl (by decide) rfl (fun ls hl => ?_)
            refine lv_iload hx hb dX13_named_113 (lv_at hl 0 rfl) ?_
            refine lv_iconst (v := -1) hx hb dX13_named_115 (by decide) ?_
            refine lv_icmp_eq (tgt := 131) hx hb dX13_named_116 (by decide) (fun _ => ?_) (fun k23 => absurd k23 (by decide))
            refine lv_iload_n hx hb dX13_named_131 rfl (lv_at hl 3 rfl) ?_
            refine lv_if_eq (tgt := 165) hx hb dX13_named_132 (by decide) (fun h24 => ?_) (fun h24 => ?_)
            · have z25 : r4.toInt = 0 := eq_z rfl (show (0 : Int32).toInt = 0 by decide) h24
              refine lv_aload_n hx hb dX13_named_165 rfl (lv_at hl 5 rfl) ?_
              refine lv_iload hx hb dX13_named_166 (lv_at hl 2 rfl) ?_
              refine lv_iload hx hb dX13_named_168 (lv_at hl 1 rfl) ?_
              refine cu_v (rn_V (n := 2) (As := [.int r7, .int (-1)]) (rest := []) hx hb hml hown ht hKK hFx hP hD hS hA (c_m_fetch l dC dI cI cB cZ cJ cR tb H.size ad N (wA v 0 47 ((v.1 0 47) + (1 : Int32))) r7 (-1 : Int32) (show 0 ≤ (v.1 0 12).toInt ∧ (v.1 0 12).toInt ≤ 23980 by omega) (show 0 ≤ (v.1 0 15).toInt ∧ (v.1 0 15).toInt ≤ 15980 by omega) (show 0 ≤ (v.1 0 43).toInt ∧ (v.1 0 43).toInt ≤ 23980 by omega) (show 0 ≤ r7.toInt ∨ (0 ≤ (-1) ∧ (-1) < 60) by omega)) tw_92 tw_93 (by decide +kernel) rfl rfl ⟨by show 2 + 1 ≤ 40 * n + 8; omega, by show 8 + (3 + 11) + 46 ≤ 28 * (40 * n + 8); omega⟩ (List.range (mW ad N cI cZ cJ (wA v 0 47 ((v.1 0 47) + (1 : Int32)))).length) (rg_map _) (mW_nd _ _ _ _ _ _) rfl rfl rfl rfl hl.1 rfl (Nat.le_of_ble_eq_true rfl) dX13_named_170 ⟨Nat.le_of_ble_eq_true rfl, Nat.le_of_ble_eq_true rfl⟩) hP hD hS hA (fun u27 H locs hw26 hP hD hS => ?_)
              obtain ⟨fr26, pw26, po26, pf26, kc26, ko26, kg26⟩ := hw26
              have q26_2 : (u27.1 0 2).toInt = (v.1 0 2).toInt := congrArg Int32.toInt ((fr26.2.1 2 (by decide)).trans (show (wA v 0 47 ((v.1 0 47) + (1 : Int32))).1 0 2 = (v.1 0 2) by rfl))
              have q26_4 : (u27.1 0 4).toInt = (v.1 0 4).toInt := congrArg Int32.toInt ((fr26.2.1 4 (by decide)).trans (show (wA v 0 47 ((v.1 0 47) + (1 : Int32))).1 0 4 = (v.1 0 4) by rfl))
              have q26_5 : (u27.1 0 5).toInt = (v.1 0 5).toInt := congrArg Int32.toInt ((fr26.2.1 5 (by decide)).trans (show (wA v 0 47 ((v.1 0 47) + (1 : Int32))).1 0 5 = (v.1 0 5) by rfl))
              have q26_22 : (u27.1 0 22).toInt = (v.1 0 22).toInt := congrArg Int32.toInt ((fr26.2.1 22 (by decide)).trans (show (wA v 0 47 ((v.1 0 47) + (1 : Int32))).1 0 22 = (v.1 0 22) by rfl))
              have q26_27 : (u27.1 0 27).toInt = (v.1 0 27).toInt := congrArg Int32.toInt ((fr26.2.1 27 (by decide)).trans (show (wA v 0 47 ((v.1 0 47) + (1 : Int32))).1 0 27 = (v.1 0 27) by rfl))
              have q26_28 : (u27.1 0 28).toInt = (v.1 0 28).toInt := congrArg Int32.toInt ((fr26.2.1 28 (by decide)).trans (show (wA v 0 47 ((v.1 0 47) + (1 : Int32))).1 0 28 = (v.1 0 28) by rfl))
              have q26_30 : (u27.1 0 30).toInt = (v.1 0 30).toInt := congrArg Int32.toInt ((fr26.2.1 30 (by decide)).trans (show (wA v 0 47 ((v.1 0 47) + (1 : Int32))).1 0 30 = (v.1 0 30) by rfl))
              have q26_31 : (u27.1 0 31).toInt = (v.1 0 31).toInt := congrArg Int32.toInt ((fr26.2.1 31 (by decide)).trans (show (wA v 0 47 ((v.1 0 47) + (1 : Int32))).1 0 31 = (v.1 0 31) by rfl))
              have q26_32 : (u27.1 0 32).toInt = (v.1 0 32).toInt := congrArg Int32.toInt ((fr26.2.1 32 (by decide)).trans (show (wA v 0 47 ((v.1 0 47) + (1 : Int32))).1 0 32 = (v.1 0 32) by rfl))
              have q26_33 : (u27.1 0 33).toInt = (v.1 0 33).toInt := congrArg Int32.toInt ((fr26.2.1 33 (by decide)).trans (show (wA v 0 47 ((v.1 0 47) + (1 : Int32))).1 0 33 = (v.1 0 33) by rfl))
              have q26_34 : (u27.1 0 34).toInt = (v.1 0 34).toInt := congrArg Int32.toInt ((fr26.2.1 34 (by decide)).trans (show (wA v 0 47 ((v.1 0 47) + (1 : Int32))).1 0 34 = (v.1 0 34) by rfl))
              have q26_39 : (u27.1 0 39).toInt = (v.1 0 39).toInt := congrArg Int32.toInt ((fr26.2.1 39 (by decide)).trans (show (wA v 0 47 ((v.1 0 47) + (1 : Int32))).1 0 39 = (v.1 0 39) by rfl))
              have q26_47 : (u27.1 0 47).toInt = ((v.1 0 47) + (1 : Int32)).toInt := congrArg Int32.toInt ((fr26.2.1 47 (by decide)).trans (show (wA v 0 47 ((v.1 0 47) + (1 : Int32))).1 0 47 = ((v.1 0 47) + (1 : Int32)) by rfl))
              have q26_48 : (u27.1 0 48).toInt = (v.1 0 48).toInt := congrArg Int32.toInt ((fr26.2.1 48 (by decide)).trans (show (wA v 0 47 ((v.1 0 47) + (1 : Int32))).1 0 48 = (v.1 0 48) by rfl))
              have q26_49 : (u27.1 0 49).toInt = (v.1 0 49).toInt := congrArg Int32.toInt ((fr26.2.1 49 (by decide)).trans (show (wA v 0 47 ((v.1 0 47) + (1 : Int32))).1 0 49 = (v.1 0 49) by rfl))
              have q26_52 : (u27.1 0 52).toInt = (v.1 0 52).toInt := congrArg Int32.toInt ((fr26.2.1 52 (by decide)).trans (show (wA v 0 47 ((v.1 0 47) + (1 : Int32))).1 0 52 = (v.1 0 52) by rfl))
              have pw26 : (v.1 0 12).toInt ≤ (u27.1 0 12).toInt ∧ (u27.1 0 12).toInt ≤ (v.1 0 12).toInt + 2 := pw26
              have po26 : (u27.1 0 15).toInt = (v.1 0 15).toInt + 1 := po26
              have pf26 : (v.1 0 43).toInt ≤ (u27.1 0 43).toInt ∧ (u27.1 0 43).toInt ≤ (v.1 0 43).toInt + 2 := pf26
              have kc26 : ∀ j : Nat, (j : Int) < (v.1 0 12).toInt → (u27.1 11) j = (v.1 11) j := kc26
              have ko26 : ∀ j : Nat, (j : Int) < (v.1 0 15).toInt → (u27.1 13) j = (v.1 13) j := ko26
              have kg26 : ∀ j : Nat, (j : Int) < (v.1 0 15).toInt → (u27.1 14) j = (v.1 14) j := kg26
              refine W.widen (k := 0) (n := 0) (by omega) (by omega) ?_
              refine lv_iload_n hx hb dX13_named_173 rfl (lv_at hl 6 rfl) ?_
              refine lv_if_eq (tgt := 182) hx hb dX13_named_174 (by decide) (fun _ => ?_) (fun k29 => absurd k29 (by decide))
              refine vx_ret ?_
              exact W.vret hx hb hr (fun t ht9 hW => ⟨⟨u27, rfl, ⟨(FG.tr (FG.f (FG.rf _) ((v.1 0 47) + (1 : Int32)) (by decide)) (FG.up fr26 (by decide) (by decide))), (show (v.1 0 47).toInt + 1 ≤ (u27.1 0 47).toInt ∧ (u27.1 0 47).toInt ≤ 1500 by omega), (show (v.1 0 49).toInt ≠ (v.1 0 47).toInt by omega), (show (v.1 0 12).toInt ≤ (u27.1 0 12).toInt ∧ (u27.1 0 12).toInt - 15 * (u27.1 0 47).toInt ≤ (v.1 0 12).toInt - 15 * (v.1 0 47).toInt by omega), (show (v.1 0 15).toInt ≤ (u27.1 0 15).toInt ∧ (u27.1 0 15).toInt - 10 * (u27.1 0 47).toInt ≤ (v.1 0 15).toInt - 10 * (v.1 0 47).toInt by omega), (show (v.1 0 43).toInt ≤ (u27.1 0 43).toInt ∧ (u27.1 0 43).toInt - 15 * (u27.1 0 47).toInt ≤ (v.1 0 43).toInt - 15 * (v.1 0 47).toInt by omega), (show (v.1 0 39).toInt ≤ (u27.1 0 39).toInt ∧ (u27.1 0 39).toInt - 1 * (u27.1 0 47).toInt ≤ (v.1 0 39).toInt - 1 * (v.1 0 47).toInt by omega), (show (u27.1 0 32).toInt = (v.1 0 32).toInt ∧ (u27.1 0 48).toInt = (v.1 0 48).toInt by omega), (show (v.1 0 33).toInt ≤ (u27.1 0 33).toInt ∧ (u27.1 0 33).toInt ≤ 500 by omega), (fun (j9 : Nat) hj9 => (kc26 j9 (by omega))), (fun (j9 : Nat) hj9 => (ko26 j9 (by omega))), (fun (j9 : Nat) hj9 => (kg26 j9 (by omega))), (show NI 35 u27 from NI.fr (fl := [12, 15, 43]) (al := [0, 11, 13, 14, 40, 41, 42]) fr26 (by decide) n35)⟩, by rw [ht9]; exact hP, hD⟩, hS.F ht9⟩) hS.2.2 dX13_named_182
            · have z30 : r4.toInt ≠ 0 := ne_z rfl (show (0 : Int32).toInt = 0 by decide) h24
              exfalso; omega
          · have z31 : r4.toInt ≠ 0 := ne_z rfl (show (0 : Int32).toInt = 0 by decide) h20
            exfalso; omega
        · have z32 : r4.toInt ≠ 0 := ne_z rfl (show (0 : Int32).toInt = 0 by decide) h14
          refine lv_aload_n hx hb dX13_named_75 rfl (lv_at hl 4 rfl) ?_
          refine lv_iconst (v := 3) hx hb dX13_named_76 (by decide) ?_
          refine lv_aload_n hx hb dX13_named_77 rfl (lv_at hl 4 rfl) ?_
          refine va_get (D := (dC, dI)) (ci := 16) (fs := mF ad v) (v := .int (v.1 0 47)) (C := RX13) (T := TX13) (N := 124) hx hb ht itX13 hown hK hP 0 rfl rfl 47 (by decide) (ht _ tw_24) (fun _ h9 => h9) rfl dX13_named_78 ?_
          refine cu_r (rn_V (n := 2) (As := [.int 3, .int (v.1 0 47)]) (rest := []) hx hb hml hown ht hKK hFx hP hD hS hA (c_m_fail l dC dI cI cB cZ cJ cR tb H.size ad N v (3 : Int32) (v.1 0 47) (show 0 ≤ (v.1 0 47).toInt ∧ (v.1 0 47).toInt < 4002 by omega)) tw_25 tw_26 (by decide +kernel) rfl rfl ⟨by show 0 + 1 ≤ 40 * n + 8; omega, by show 8 + (3 + 11) + 0 ≤ 28 * (40 * n + 8); omega⟩ (List.range (mW ad N cI cZ cJ v).length) (rg_map _) (mW_nd _ _ _ _ _ _) rfl rfl rfl rfl hl.1 rfl (Nat.le_of_ble_eq_true rfl) dX13_named_81 ⟨Nat.le_of_ble_eq_true rfl, Nat.le_of_ble_eq_true rfl⟩) hP hD hS hA (fun u34 H locs hw33 hP hD hS => ?_)
          obtain rfl := hw33
          have hP : va_P (dC, dI) vwCl (mW ad N cI cZ cJ (wA (wA v 0 50 (3 : Int32)) 0 51 ((v.1 7) (v.1 0 47).toNatClampNeg))) H := hP
          have hD : va_D A (mW ad N cI cZ cJ (wA (wA v 0 50 (3 : Int32)) 0 51 ((v.1 7) (v.1 0 47).toNatClampNeg))) := hD
          refine W.widen (k := 0) (n := 0) (by omega) (by omega) ?_
          obtain ⟨ce9, hc9, hv9, hf9⟩ := halt_at hK hP
          refine um_athrow hx hb dX13_named_84 ?_
          exact vx_out (fun x h9 => (hnt x h9).elim) hlocks hc9 hv9 hf9 (fun t9 ht9 hv8 => ⟨(wA (wA v 0 50 (3 : Int32)) 0 51 ((v.1 7) (v.1 0 47).toNatClampNeg)), (FG.f (FG.f (FG.rf _) (3 : Int32) (by decide)) ((v.1 7) (v.1 0 47).toNatClampNeg) (by decide)), ⟨rfl, by rw [ht9]; exact hP, hD⟩, hS.F ht9⟩) hS.2.2 (by omega) (by omega)
      · have z36 : r7.toInt < 0 := nle_z (show (0 : Int32).toInt = 0 by decide) rfl h12
        exfalso; omega
    · have z37 : r7.toInt < 0 := nle_z (show (0 : Int32).toInt = 0 by decide) rfl h10
      exfalso; omega
  · have z38 : r7.toInt < 0 := nle_z (show (0 : Int32).toInt = 0 by decide) rfl h8
    refine lv_aload_n hx hb dX13_named_30 rfl (lv_at hl 3 rfl) ?_
    refine lv_iload_n hx hb dX13_named_31 rfl (lv_at hl 2 rfl) ?_
    refine cu_i (rn_V (n := 1) (As := [.int (v.1 0 47)]) (rest := []) hx hb hml hown ht hKK hFx hP hD hS hA (c_m_globalOf l dC dI cI cB cZ cJ cR tb H.size ad N v (v.1 0 47) (show 0 ≤ (v.1 0 47).toInt ∧ (v.1 0 47).toInt < 4002 by omega) (show 0 ≤ (v.1 0 27).toInt ∧ (v.1 0 27).toInt ≤ 60 by omega) (FG.ti (fl := pfl) (al := pal) (FG.rf _) (by decide) (by decide) hT) (n23)) tw_100 tw_101 (by decide +kernel) rfl rfl ⟨by show 1 + 1 ≤ 40 * n + 8; omega, by show 8 + (3 + 11) + 25 ≤ 28 * (40 * n + 8); omega⟩ (List.range (mW ad N cI cZ cJ v).length) (rg_map _) (mW_nd _ _ _ _ _ _) rfl rfl rfl rfl hl.1 rfl (Nat.le_of_ble_eq_true rfl) dX13_named_32 ⟨Nat.le_of_ble_eq_true rfl, Nat.le_of_ble_eq_true rfl⟩) hP hD hS hA (fun r41 u40 H locs hw39 hP hD hS => ?_)
    obtain ⟨rfl, a39, b39⟩ := hw39
    refine W.widen (k := 0) (n := 0) (by omega) (by omega) ?_
    refine lv_goto (tgt := 39) hx hb dX13_named_35 (by decide) ?_
    refine lv_istore (lv' := [(5, .int r41), (4, .int r7), (3, .int r4), (2, .int (v.1 0 47)), (0, .ref (ad 0)), (1, .int 0)]) hx hb dX13_named_39 hl (by decide) rfl (fun ls hl => ?_)
    refine lv_iload hx hb dX13_named_41 (lv_at hl 1 rfl) ?_
    refine lv_if_ge (tgt := 51) hx hb dX13_named_43 (by decide) (fun h42 => ?_) (fun h42 => ?_)
    · have z43 : 0 ≤ r7.toInt := le_z (show (0 : Int32).toInt = 0 by decide) rfl h42
      exfalso; omega
    · have z44 : r7.toInt < 0 := nle_z (show (0 : Int32).toInt = 0 by decide) rfl h42
      refine lv_iload hx hb dX13_named_46 (lv_at hl 0 rfl) ?_
      refine lv_if_lt (tgt := 75) hx hb dX13_named_48 (by decide) (fun h45 => ?_) (fun h45 => ?_)
      · have z46 : r41.toInt < 0 := lt_z rfl (show (0 : Int32).toInt = 0 by decide) h45
        refine lv_aload_n hx hb dX13_named_75 rfl (lv_at hl 4 rfl) ?_
        refine lv_iconst (v := 3) hx hb dX13_named_76 (by decide) ?_
        refine lv_aload_n hx hb dX13_named_77 rfl (lv_at hl 4 rfl) ?_
        refine va_get (D := (dC, dI)) (ci := 16) (fs := mF ad v) (v := .int (v.1 0 47)) (C := RX13) (T := TX13) (N := 124) hx hb ht itX13 hown hK hP 0 rfl rfl 47 (by decide) (ht _ tw_24) (fun _ h9 => h9) rfl dX13_named_78 ?_
        refine cu_r (rn_V (n := 2) (As := [.int 3, .int (v.1 0 47)]) (rest := []) hx hb hml hown ht hKK hFx hP hD hS hA (c_m_fail l dC dI cI cB cZ cJ cR tb H.size ad N v (3 : Int32) (v.1 0 47) (show 0 ≤ (v.1 0 47).toInt ∧ (v.1 0 47).toInt < 4002 by omega)) tw_25 tw_26 (by decide +kernel) rfl rfl ⟨by show 0 + 1 ≤ 40 * n + 8; omega, by show 8 + (3 + 11) + 0 ≤ 28 * (40 * n + 8); omega⟩ (List.range (mW ad N cI cZ cJ v).length) (rg_map _) (mW_nd _ _ _ _ _ _) rfl rfl rfl rfl hl.1 rfl (Nat.le_of_ble_eq_true rfl) dX13_named_81 ⟨Nat.le_of_ble_eq_true rfl, Nat.le_of_ble_eq_true rfl⟩) hP hD hS hA (fun u48 H locs hw47 hP hD hS => ?_)
        obtain rfl := hw47
        have hP : va_P (dC, dI) vwCl (mW ad N cI cZ cJ (wA (wA v 0 50 (3 : Int32)) 0 51 ((v.1 7) (v.1 0 47).toNatClampNeg))) H := hP
        have hD : va_D A (mW ad N cI cZ cJ (wA (wA v 0 50 (3 : Int32)) 0 51 ((v.1 7) (v.1 0 47).toNatClampNeg))) := hD
        refine W.widen (k := 0) (n := 0) (by omega) (by omega) ?_
        obtain ⟨ce9, hc9, hv9, hf9⟩ := halt_at hK hP
        refine um_athrow hx hb dX13_named_84 ?_
        exact vx_out (fun x h9 => (hnt x h9).elim) hlocks hc9 hv9 hf9 (fun t9 ht9 hv8 => ⟨(wA (wA v 0 50 (3 : Int32)) 0 51 ((v.1 7) (v.1 0 47).toNatClampNeg)), (FG.f (FG.f (FG.rf _) (3 : Int32) (by decide)) ((v.1 7) (v.1 0 47).toNatClampNeg) (by decide)), ⟨rfl, by rw [ht9]; exact hP, hD⟩, hS.F ht9⟩) hS.2.2 (by omega) (by omega)
      · have z50 : 0 ≤ r41.toInt := nlt_z rfl (show (0 : Int32).toInt = 0 by decide) h45
        refine lv_iload_n hx hb dX13_named_51 rfl (lv_at hl 2 rfl) ?_
        refine lv_iload hx hb dX13_named_52 (lv_at hl 1 rfl) ?_
        refine lv_if_ge (tgt := 71) hx hb dX13_named_54 (by decide) (fun h51 => ?_) (fun h51 => ?_)
        · have z52 : 0 ≤ r7.toInt := le_z (show (0 : Int32).toInt = 0 by decide) rfl h51
          exfalso; omega
        · have z53 : r7.toInt < 0 := nle_z (show (0 : Int32).toInt = 0 by decide) rfl h51
          refine lv_aload_n hx hb dX13_named_57 rfl (lv_at hl 4 rfl) ?_
          refine va_get (D := (dC, dI)) (ci := 16) (fs := mF ad v) (v := .ref (ad 26)) (C := RX13) (T := TX13) (N := 124) hx hb ht itX13 hown hK hP 0 rfl rfl 26 (by decide) (ht _ tw_102) (fun _ h9 => h9) rfl dX13_named_58 ?_
          refine lv_iload hx hb dX13_named_61 (lv_at hl 0 rfl) ?_
          refine va_zald (D := (dC, dI)) (f := (v.1 26)) hx hb hK hP 20 2 rfl rfl (in_z (a := r41.toInt) rfl (by omega) (by omega)) dX13_named_63 ?_
          refine lv_if_eq (tgt := 71) hx hb dX13_named_64 (by decide) (fun h54 => ?_) (fun h54 => ?_)
          · have z55 : ((v.1 26) r41.toNatClampNeg).toInt = 0 := eq_z rfl (show (0 : Int32).toInt = 0 by decide) h54
            refine lv_iconst (v := 0) hx hb dX13_named_71 (by decide) ?_
            refine lv_icmp_eq (tgt := 85) hx hb dX13_named_72 (by decide) (fun h56 => ?_) (fun h56 => ?_)
            · have z57 : r4.toInt = 0 := eq_z rfl (show (0 : Int32).toInt = 0 by decide) h56
              refine lv_aload_n hx hb dX13_named_85 rfl (lv_at hl 4 rfl) ?_
              refine cux_v (rx_V (n := 0) (As := []) (rest := []) hx hb hml hown ht hKK hFx hP hD hS hA (c_m_take l dC dI cI cB cZ cJ cR tb H.size ad N v  (show 0 ≤ (v.1 0 47).toInt ∧ (v.1 0 47).toInt ≤ 1500 by omega)) tw_32 tw_33 (by decide +kernel) rfl rfl ⟨by show 1 + 1 ≤ 40 * n + 8; omega, by show 8 + (1 + 11) + 22 ≤ 28 * (40 * n + 8); omega⟩ (List.range (mW ad N cI cZ cJ v).length) (rg_map _) (mW_nd _ _ _ _ _ _) rfl rfl rfl rfl hl.1 rfl (Nat.le_of_ble_eq_true rfl) dX13_named_86 ⟨Nat.le_of_ble_eq_true rfl, Nat.le_of_ble_eq_true rfl⟩) hP hD hS hA (fun u9 ce9 q9 H locs hx9 hP hD hS hc9 hv9 hf9 => ?_) (fun u59 H locs hw58 hP hD hS => ?_)
              · exact vx_out (fun x h9 => (hnt x h9).elim) hlocks hc9 hv9 hf9 (fun t9 ht9 hv8 => ⟨u9, (FG.tr (FG.rf _) hx9), ⟨rfl, by rw [ht9]; exact hP, hD⟩, hS.F ht9⟩) hS.2.2 (by omega) (by omega)
              obtain ⟨rfl, a58, b58⟩ := hw58
              have z61 : ((v.1 0 47) + (1 : Int32)).toInt = (v.1 0 47).toInt + 1 := add_z rfl (show (1 : Int32).toInt = 1 by decide) (by omega) (by omega)
              have hP : va_P (dC, dI) vwCl (mW ad N cI cZ cJ (wA v 0 47 ((v.1 0 47) + (1 : Int32)))) H := hP
              have hD : va_D A (mW ad N cI cZ cJ (wA v 0 47 ((v.1 0 47) + (1 : Int32)))) := hD
              refine W.widen (k := 0) (n := 0) (by omega) (by omega) ?_
              refine lv_iload_n hx hb dX13_named_89 rfl (lv_at hl 2 rfl) ?_
              refine lv_if_eq (tgt := 99) hx hb dX13_named_90 (by decide) (fun h62 => ?_) (fun h62 => ?_)
              · have z63 : r4.toInt = 0 := eq_z rfl (show (0 : Int32).toInt = 0 by decide) h62
                refine lv_iload_n hx hb dX13_named_99 rfl (lv_at hl 5 rfl) ?_
                refine lv_if_eq (tgt := 110) hx hb dX13_named_100 (by decide) (fun _ => ?_) (fun k64 => absurd k64 (by decide))
                refine lv_iconst (v := -1) hx hb dX13_named_110 (by decide) ?_
                refine lv_istore (lv' := [(6, .int (-1)), (5, .int r41), (4, .int r7), (3, .int r4), (2, .int (v.1 0 47)), (0, .ref (ad 0)), (1, .int 0)]) hx hb dX13_named_111 hl (by decide) rfl (fun ls hl => ?_)
                refine lv_iload hx hb dX13_named_113 (lv_at hl 0 rfl) ?_
                refine lv_iconst (v := -1) hx hb dX13_named_115 (by decide) ?_
                refine lv_icmp_eq (tgt := 131) hx hb dX13_named_116 (by decide) (fun _ => ?_) (fun k65 => absurd k65 (by decide))
                refine lv_iload_n hx hb dX13_named_131 rfl (lv_at hl 3 rfl) ?_
                refine lv_if_eq (tgt := 165) hx hb dX13_named_132 (by decide) (fun h66 => ?_) (fun h66 => ?_)
                · have z67 : r4.toInt = 0 := eq_z rfl (show (0 : Int32).toInt = 0 by decide) h66
                  refine lv_aload_n hx hb dX13_named_165 rfl (lv_at hl 5 rfl) ?_
                  refine lv_iload hx hb dX13_named_166 (lv_at hl 2 rfl) ?_
                  refine lv_iload hx hb dX13_named_168 (lv_at hl 1 rfl) ?_
                  refine cu_v (rn_V (n := 2) (As := [.int r7, .int r41]) (rest := []) hx hb hml hown ht hKK hFx hP hD hS hA (c_m_fetch l dC dI cI cB cZ cJ cR tb H.size ad N (wA v 0 47 ((v.1 0 47) + (1 : Int32))) r7 r41 (show 0 ≤ (v.1 0 12).toInt ∧ (v.1 0 12).toInt ≤ 23980 by omega) (show 0 ≤ (v.1 0 15).toInt ∧ (v.1 0 15).toInt ≤ 15980 by omega) (show 0 ≤ (v.1 0 43).toInt ∧ (v.1 0 43).toInt ≤ 23980 by omega) (show 0 ≤ r7.toInt ∨ (0 ≤ r41.toInt ∧ r41.toInt < 60) by omega)) tw_92 tw_93 (by decide +kernel) rfl rfl ⟨by show 2 + 1 ≤ 40 * n + 8; omega, by show 8 + (3 + 11) + 46 ≤ 28 * (40 * n + 8); omega⟩ (List.range (mW ad N cI cZ cJ (wA v 0 47 ((v.1 0 47) + (1 : Int32)))).length) (rg_map _) (mW_nd _ _ _ _ _ _) rfl rfl rfl rfl hl.1 rfl (Nat.le_of_ble_eq_true rfl) dX13_named_170 ⟨Nat.le_of_ble_eq_true rfl, Nat.le_of_ble_eq_true rfl⟩) hP hD hS hA (fun u69 H locs hw68 hP hD hS => ?_)
                  obtain ⟨fr68, pw68, po68, pf68, kc68, ko68, kg68⟩ := hw68
                  have q68_2 : (u69.1 0 2).toInt = (v.1 0 2).toInt := congrArg Int32.toInt ((fr68.2.1 2 (by decide)).trans (show (wA v 0 47 ((v.1 0 47) + (1 : Int32))).1 0 2 = (v.1 0 2) by rfl))
                  have q68_4 : (u69.1 0 4).toInt = (v.1 0 4).toInt := congrArg Int32.toInt ((fr68.2.1 4 (by decide)).trans (show (wA v 0 47 ((v.1 0 47) + (1 : Int32))).1 0 4 = (v.1 0 4) by rfl))
                  have q68_5 : (u69.1 0 5).toInt = (v.1 0 5).toInt := congrArg Int32.toInt ((fr68.2.1 5 (by decide)).trans (show (wA v 0 47 ((v.1 0 47) + (1 : Int32))).1 0 5 = (v.1 0 5) by rfl))
                  have q68_22 : (u69.1 0 22).toInt = (v.1 0 22).toInt := congrArg Int32.toInt ((fr68.2.1 22 (by decide)).trans (show (wA v 0 47 ((v.1 0 47) + (1 : Int32))).1 0 22 = (v.1 0 22) by rfl))
                  have q68_27 : (u69.1 0 27).toInt = (v.1 0 27).toInt := congrArg Int32.toInt ((fr68.2.1 27 (by decide)).trans (show (wA v 0 47 ((v.1 0 47) + (1 : Int32))).1 0 27 = (v.1 0 27) by rfl))
                  have q68_28 : (u69.1 0 28).toInt = (v.1 0 28).toInt := congrArg Int32.toInt ((fr68.2.1 28 (by decide)).trans (show (wA v 0 47 ((v.1 0 47) + (1 : Int32))).1 0 28 = (v.1 0 28) by rfl))
                  have q68_30 : (u69.1 0 30).toInt = (v.1 0 30).toInt := congrArg Int32.toInt ((fr68.2.1 30 (by decide)).trans (show (wA v 0 47 ((v.1 0 47) + (1 : Int32))).1 0 30 = (v.1 0 30) by rfl))
                  have q68_31 : (u69.1 0 31).toInt = (v.1 0 31).toInt := congrArg Int32.toInt ((fr68.2.1 31 (by decide)).trans (show (wA v 0 47 ((v.1 0 47) + (1 : Int32))).1 0 31 = (v.1 0 31) by rfl))
                  have q68_32 : (u69.1 0 32).toInt = (v.1 0 32).toInt := congrArg Int32.toInt ((fr68.2.1 32 (by decide)).trans (show (wA v 0 47 ((v.1 0 47) + (1 : Int32))).1 0 32 = (v.1 0 32) by rfl))
                  have q68_33 : (u69.1 0 33).toInt = (v.1 0 33).toInt := congrArg Int32.toInt ((fr68.2.1 33 (by decide)).trans (show (wA v 0 47 ((v.1 0 47) + (1 : Int32))).1 0 33 = (v.1 0 33) by rfl))
                  have q68_34 : (u69.1 0 34).toInt = (v.1 0 34).toInt := congrArg Int32.toInt ((fr68.2.1 34 (by decide)).trans (show (wA v 0 47 ((v.1 0 47) + (1 : Int32))).1 0 34 = (v.1 0 34) by rfl))
                  have q68_39 : (u69.1 0 39).toInt = (v.1 0 39).toInt := congrArg Int32.toInt ((fr68.2.1 39 (by decide)).trans (show (wA v 0 47 ((v.1 0 47) + (1 : Int32))).1 0 39 = (v.1 0 39) by rfl))
                  have q68_47 : (u69.1 0 47).toInt = ((v.1 0 47) + (1 : Int32)).toInt := congrArg Int32.toInt ((fr68.2.1 47 (by decide)).trans (show (wA v 0 47 ((v.1 0 47) + (1 : Int32))).1 0 47 = ((v.1 0 47) + (1 : Int32)) by rfl))
                  have q68_48 : (u69.1 0 48).toInt = (v.1 0 48).toInt := congrArg Int32.toInt ((fr68.2.1 48 (by decide)).trans (show (wA v 0 47 ((v.1 0 47) + (1 : Int32))).1 0 48 = (v.1 0 48) by rfl))
                  have q68_49 : (u69.1 0 49).toInt = (v.1 0 49).toInt := congrArg Int32.toInt ((fr68.2.1 49 (by decide)).trans (show (wA v 0 47 ((v.1 0 47) + (1 : Int32))).1 0 49 = (v.1 0 49) by rfl))
                  have q68_52 : (u69.1 0 52).toInt = (v.1 0 52).toInt := congrArg Int32.toInt ((fr68.2.1 52 (by decide)).trans (show (wA v 0 47 ((v.1 0 47) + (1 : Int32))).1 0 52 = (v.1 0 52) by rfl))
                  have pw68 : (v.1 0 12).toInt ≤ (u69.1 0 12).toInt ∧ (u69.1 0 12).toInt ≤ (v.1 0 12).toInt + 2 := pw68
                  have po68 : (u69.1 0 15).toInt = (v.1 0 15).toInt + 1 := po68
                  have pf68 : (v.1 0 43).toInt ≤ (u69.1 0 43).toInt ∧ (u69.1 0 43).toInt ≤ (v.1 0 43).toInt + 2 := pf68
                  have kc68 : ∀ j : Nat, (j : Int) < (v.1 0 12).toInt → (u69.1 11) j = (v.1 11) j := kc68
                  have ko68 : ∀ j : Nat, (j : Int) < (v.1 0 15).toInt → (u69.1 13) j = (v.1 13) j := ko68
                  have kg68 : ∀ j : Nat, (j : Int) < (v.1 0 15).toInt → (u69.1 14) j = (v.1 14) j := kg68
                  refine W.widen (k := 0) (n := 0) (by omega) (by omega) ?_
                  refine lv_iload_n hx hb dX13_named_173 rfl (lv_at hl 6 rfl) ?_
                  refine lv_if_eq (tgt := 182) hx hb dX13_named_174 (by decide) (fun _ => ?_) (fun k71 => absurd k71 (by decide))
                  refine vx_ret ?_
                  exact W.vret hx hb hr (fun t ht9 hW => ⟨⟨u69, rfl, ⟨(FG.tr (FG.f (FG.rf _) ((v.1 0 47) + (1 : Int32)) (by decide)) (FG.up fr68 (by decide) (by decide))), (show (v.1 0 47).toInt + 1 ≤ (u69.1 0 47).toInt ∧ (u69.1 0 47).toInt ≤ 1500 by omega), (show (v.1 0 49).toInt ≠ (v.1 0 47).toInt by omega), (show (v.1 0 12).toInt ≤ (u69.1 0 12).toInt ∧ (u69.1 0 12).toInt - 15 * (u69.1 0 47).toInt ≤ (v.1 0 12).toInt - 15 * (v.1 0 47).toInt by omega), (show (v.1 0 15).toInt ≤ (u69.1 0 15).toInt ∧ (u69.1 0 15).toInt - 10 * (u69.1 0 47).toInt ≤ (v.1 0 15).toInt - 10 * (v.1 0 47).toInt by omega), (show (v.1 0 43).toInt ≤ (u69.1 0 43).toInt ∧ (u69.1 0 43).toInt - 15 * (u69.1 0 47).toInt ≤ (v.1 0 43).toInt - 15 * (v.1 0 47).toInt by omega), (show (v.1 0 39).toInt ≤ (u69.1 0 39).toInt ∧ (u69.1 0 39).toInt - 1 * (u69.1 0 47).toInt ≤ (v.1 0 39).toInt - 1 * (v.1 0 47).toInt by omega), (show (u69.1 0 32).toInt = (v.1 0 32).toInt ∧ (u69.1 0 48).toInt = (v.1 0 48).toInt by omega), (show (v.1 0 33).toInt ≤ (u69.1 0 33).toInt ∧ (u69.1 0 33).toInt ≤ 500 by omega), (fun (j9 : Nat) hj9 => (kc68 j9 (by omega))), (fun (j9 : Nat) hj9 => (ko68 j9 (by omega))), (fun (j9 : Nat) hj9 => (kg68 j9 (by omega))), (show NI 35 u69 from NI.fr (fl := [12, 15, 43]) (al := [0, 11, 13, 14, 40, 41, 42]) fr68 (by decide) n35)⟩, by rw [ht9]; exact hP, hD⟩, hS.F ht9⟩) hS.2.2 dX13_named_182
                · have z72 : r4.toInt ≠ 0 := ne_z rfl (show (0 : Int32).toInt = 0 by decide) h66
                  exfalso; omega
              · have z73 : r4.toInt ≠ 0 := ne_z rfl (show (0 : Int32).toInt = 0 by decide) h62
                exfalso; omega
            · have z74 : r4.toInt ≠ 0 := ne_z rfl (show (0 : Int32).toInt = 0 by decide) h56
              refine lv_aload_n hx hb dX13_named_75 rfl (lv_at hl 4 rfl) ?_
              refine lv_iconst (v := 3) hx hb dX13_named_76 (by decide) ?_
              refine lv_aload_n hx hb dX13_named_77 rfl (lv_at hl 4 rfl) ?_
              refine va_get (D := (dC, dI)) (ci := 16) (fs := mF ad v) (v := .int (v.1 0 47)) (C := RX13) (T := TX13) (N := 124) hx hb ht itX13 hown hK hP 0 rfl rfl 47 (by decide) (ht _ tw_24) (fun _ h9 => h9) rfl dX13_named_78 ?_
              refine cu_r (rn_V (n := 2) (As := [.int 3, .int (v.1 0 47)]) (rest := []) hx hb hml hown ht hKK hFx hP hD hS hA (c_m_fail l dC dI cI cB cZ cJ cR tb H.size ad N v (3 : Int32) (v.1 0 47) (show 0 ≤ (v.1 0 47).toInt ∧ (v.1 0 47).toInt < 4002 by omega)) tw_25 tw_26 (by decide +kernel) rfl rfl ⟨by show 0 + 1 ≤ 40 * n + 8; omega, by show 8 + (3 + 11) + 0 ≤ 28 * (40 * n + 8); omega⟩ (List.range (mW ad N cI cZ cJ v).length) (rg_map _) (mW_nd _ _ _ _ _ _) rfl rfl rfl rfl hl.1 rfl (Nat.le_of_ble_eq_true rfl) dX13_named_81 ⟨Nat.le_of_ble_eq_true rfl, Nat.le_of_ble_eq_true rfl⟩) hP hD hS hA (fun u76 H locs hw75 hP hD hS => ?_)
              obtain rfl := hw75
              have hP : va_P (dC, dI) vwCl (mW ad N cI cZ cJ (wA (wA v 0 50 (3 : Int32)) 0 51 ((v.1 7) (v.1 0 47).toNatClampNeg))) H := hP
              have hD : va_D A (mW ad N cI cZ cJ (wA (wA v 0 50 (3 : Int32)) 0 51 ((v.1 7) (v.1 0 47).toNatClampNeg))) := hD
              refine W.widen (k := 0) (n := 0) (by omega) (by omega) ?_
              obtain ⟨ce9, hc9, hv9, hf9⟩ := halt_at hK hP
              refine um_athrow hx hb dX13_named_84 ?_
              exact vx_out (fun x h9 => (hnt x h9).elim) hlocks hc9 hv9 hf9 (fun t9 ht9 hv8 => ⟨(wA (wA v 0 50 (3 : Int32)) 0 51 ((v.1 7) (v.1 0 47).toNatClampNeg)), (FG.f (FG.f (FG.rf _) (3 : Int32) (by decide)) ((v.1 7) (v.1 0 47).toNatClampNeg) (by decide)), ⟨rfl, by rw [ht9]; exact hP, hD⟩, hS.F ht9⟩) hS.2.2 (by omega) (by omega)
          · have z78 : ((v.1 26) r41.toNatClampNeg).toInt ≠ 0 := ne_z rfl (show (0 : Int32).toInt = 0 by decide) h54
            refine lv_iconst (v := 1) hx hb dX13_named_67 (by decide) ?_
            refine lv_goto (tgt := 72) hx hb dX13_named_68 (by decide) ?_
            refine lv_icmp_eq (tgt := 85) hx hb dX13_named_72 (by decide) (fun h79 => ?_) (fun h79 => ?_)
            · have z80 : r4.toInt = 1 := eq_z rfl (show (1 : Int32).toInt = 1 by decide) h79
              refine lv_aload_n hx hb dX13_named_85 rfl (lv_at hl 4 rfl) ?_
              refine cux_v (rx_V (n := 0) (As := []) (rest := []) hx hb hml hown ht hKK hFx hP hD hS hA (c_m_take l dC dI cI cB cZ cJ cR tb H.size ad N v  (show 0 ≤ (v.1 0 47).toInt ∧ (v.1 0 47).toInt ≤ 1500 by omega)) tw_32 tw_33 (by decide +kernel) rfl rfl ⟨by show 1 + 1 ≤ 40 * n + 8; omega, by show 8 + (1 + 11) + 22 ≤ 28 * (40 * n + 8); omega⟩ (List.range (mW ad N cI cZ cJ v).length) (rg_map _) (mW_nd _ _ _ _ _ _) rfl rfl rfl rfl hl.1 rfl (Nat.le_of_ble_eq_true rfl) dX13_named_86 ⟨Nat.le_of_ble_eq_true rfl, Nat.le_of_ble_eq_true rfl⟩) hP hD hS hA (fun u9 ce9 q9 H locs hx9 hP hD hS hc9 hv9 hf9 => ?_) (fun u82 H locs hw81 hP hD hS => ?_)
              · exact vx_out (fun x h9 => (hnt x h9).elim) hlocks hc9 hv9 hf9 (fun t9 ht9 hv8 => ⟨u9, (FG.tr (FG.rf _) hx9), ⟨rfl, by rw [ht9]; exact hP, hD⟩, hS.F ht9⟩) hS.2.2 (by omega) (by omega)
              obtain ⟨rfl, a81, b81⟩ := hw81
              have z84 : ((v.1 0 47) + (1 : Int32)).toInt = (v.1 0 47).toInt + 1 := add_z rfl (show (1 : Int32).toInt = 1 by decide) (by omega) (by omega)
              have hP : va_P (dC, dI) vwCl (mW ad N cI cZ cJ (wA v 0 47 ((v.1 0 47) + (1 : Int32)))) H := hP
              have hD : va_D A (mW ad N cI cZ cJ (wA v 0 47 ((v.1 0 47) + (1 : Int32)))) := hD
              refine W.widen (k := 0) (n := 0) (by omega) (by omega) ?_
              refine lv_iload_n hx hb dX13_named_89 rfl (lv_at hl 2 rfl) ?_
              refine lv_if_eq (tgt := 99) hx hb dX13_named_90 (by decide) (fun h85 => ?_) (fun h85 => ?_)
              · have z86 : r4.toInt = 0 := eq_z rfl (show (0 : Int32).toInt = 0 by decide) h85
                exfalso; omega
              · have z87 : r4.toInt ≠ 0 := ne_z rfl (show (0 : Int32).toInt = 0 by decide) h85
                refine lv_aload_n hx hb dX13_named_93 rfl (lv_at hl 4 rfl) ?_
                refine lv_iload hx hb dX13_named_94 (lv_at hl 0 rfl) ?_
                refine cux_v (rx_V (n := 1) (As := [.int r41]) (rest := []) hx hb hml hown ht hKK hFx hP hD hS hA (c_m_index l n ihE dC dI cI cB cZ cJ cR tb H.size ad N (wA v 0 47 ((v.1 0 47) + (1 : Int32))) r41 (show 40 ≤ (v.1 0 48).toInt + (n : Int) by omega) (show 0 ≤ ((v.1 0 47) + (1 : Int32)).toInt ∧ ((v.1 0 47) + (1 : Int32)).toInt ≤ 1500 by omega) (show 0 ≤ (v.1 0 48).toInt ∧ (v.1 0 48).toInt ≤ 40 by omega) (show 0 ≤ (v.1 0 30).toInt ∧ (v.1 0 30).toInt ≤ 500 by omega) (show 0 ≤ (v.1 0 33).toInt ∧ (v.1 0 33).toInt ≤ 500 by omega) (show 0 ≤ (v.1 0 32).toInt ∧ (v.1 0 30).toInt + (v.1 0 32).toInt ≤ 500 by omega) (show 0 ≤ (v.1 0 12).toInt ∧ (v.1 0 12).toInt ≤ 15 * ((v.1 0 47) + (1 : Int32)).toInt + 2 by omega) (show 0 ≤ (v.1 0 15).toInt ∧ (v.1 0 15).toInt ≤ 10 * ((v.1 0 47) + (1 : Int32)).toInt + 0 by omega) (show 0 ≤ (v.1 0 43).toInt ∧ (v.1 0 43).toInt ≤ 15 * ((v.1 0 47) + (1 : Int32)).toInt + 0 by omega) (show 0 ≤ (v.1 0 39).toInt ∧ (v.1 0 39).toInt ≤ 1 * ((v.1 0 47) + (1 : Int32)).toInt + 0 by omega) (show 0 ≤ (v.1 0 27).toInt ∧ (v.1 0 27).toInt ≤ 60 by omega) (FG.ti (fl := pfl) (al := pal) (FG.f (FG.rf _) ((v.1 0 47) + (1 : Int32)) (by decide)) (by decide) (by decide) hT) (n29) (n23) (n35) (show 0 ≤ r41.toInt ∧ r41.toInt < 60 by omega)) tw_103 tw_104 (by decide +kernel) rfl rfl ⟨by show (40 * n + 6) + 1 ≤ 40 * n + 8; omega, by show 8 + (3 + 11) + 28 * (40 * n + 6) ≤ 28 * (40 * n + 8); omega⟩ (List.range (mW ad N cI cZ cJ (wA v 0 47 ((v.1 0 47) + (1 : Int32)))).length) (rg_map _) (mW_nd _ _ _ _ _ _) rfl rfl rfl rfl hl.1 rfl (Nat.le_of_ble_eq_true rfl) dX13_named_96 ⟨Nat.le_of_ble_eq_true rfl, Nat.le_of_ble_eq_true rfl⟩) hP hD hS hA (fun u9 ce9 q9 H locs hx9 hP hD hS hc9 hv9 hf9 => ?_) (fun u89 H locs hw88 hP hD hS => ?_)
                · exact vx_out (fun x h9 => (hnt x h9).elim) hlocks hc9 hv9 hf9 (fun t9 ht9 hv8 => ⟨u9, (FG.tr (FG.f (FG.rf _) ((v.1 0 47) + (1 : Int32)) (by decide)) hx9), ⟨rfl, by rw [ht9]; exact hP, hD⟩, hS.F ht9⟩) hS.2.2 (by omega) (by omega)
                obtain ⟨fr88, pt88, pb88, pw88, po88, pf88, pk88, pp88, ph88, kc88, ko88, kg88, n3588⟩ := hw88
                have q88_2 : (u89.1 0 2).toInt = (v.1 0 2).toInt := congrArg Int32.toInt ((fr88.2.1 2 (by decide)).trans (show (wA v 0 47 ((v.1 0 47) + (1 : Int32))).1 0 2 = (v.1 0 2) by rfl))
                have q88_4 : (u89.1 0 4).toInt = (v.1 0 4).toInt := congrArg Int32.toInt ((fr88.2.1 4 (by decide)).trans (show (wA v 0 47 ((v.1 0 47) + (1 : Int32))).1 0 4 = (v.1 0 4) by rfl))
                have q88_5 : (u89.1 0 5).toInt = (v.1 0 5).toInt := congrArg Int32.toInt ((fr88.2.1 5 (by decide)).trans (show (wA v 0 47 ((v.1 0 47) + (1 : Int32))).1 0 5 = (v.1 0 5) by rfl))
                have q88_22 : (u89.1 0 22).toInt = (v.1 0 22).toInt := congrArg Int32.toInt ((fr88.2.1 22 (by decide)).trans (show (wA v 0 47 ((v.1 0 47) + (1 : Int32))).1 0 22 = (v.1 0 22) by rfl))
                have q88_27 : (u89.1 0 27).toInt = (v.1 0 27).toInt := congrArg Int32.toInt ((fr88.2.1 27 (by decide)).trans (show (wA v 0 47 ((v.1 0 47) + (1 : Int32))).1 0 27 = (v.1 0 27) by rfl))
                have q88_28 : (u89.1 0 28).toInt = (v.1 0 28).toInt := congrArg Int32.toInt ((fr88.2.1 28 (by decide)).trans (show (wA v 0 47 ((v.1 0 47) + (1 : Int32))).1 0 28 = (v.1 0 28) by rfl))
                have q88_30 : (u89.1 0 30).toInt = (v.1 0 30).toInt := congrArg Int32.toInt ((fr88.2.1 30 (by decide)).trans (show (wA v 0 47 ((v.1 0 47) + (1 : Int32))).1 0 30 = (v.1 0 30) by rfl))
                have q88_31 : (u89.1 0 31).toInt = (v.1 0 31).toInt := congrArg Int32.toInt ((fr88.2.1 31 (by decide)).trans (show (wA v 0 47 ((v.1 0 47) + (1 : Int32))).1 0 31 = (v.1 0 31) by rfl))
                have q88_34 : (u89.1 0 34).toInt = (v.1 0 34).toInt := congrArg Int32.toInt ((fr88.2.1 34 (by decide)).trans (show (wA v 0 47 ((v.1 0 47) + (1 : Int32))).1 0 34 = (v.1 0 34) by rfl))
                have q88_52 : (u89.1 0 52).toInt = (v.1 0 52).toInt := congrArg Int32.toInt ((fr88.2.1 52 (by decide)).trans (show (wA v 0 47 ((v.1 0 47) + (1 : Int32))).1 0 52 = (v.1 0 52) by rfl))
                have pt88 : ((v.1 0 47) + (1 : Int32)).toInt + 1 ≤ (u89.1 0 47).toInt ∧ (u89.1 0 47).toInt ≤ 1500 := pt88
                have pb88 : (v.1 0 49).toInt ≠ ((v.1 0 47) + (1 : Int32)).toInt := pb88
                have pw88 : (v.1 0 12).toInt ≤ (u89.1 0 12).toInt ∧ (u89.1 0 12).toInt - 15 * (u89.1 0 47).toInt ≤ (v.1 0 12).toInt - 15 * ((v.1 0 47) + (1 : Int32)).toInt := pw88
                have po88 : (v.1 0 15).toInt ≤ (u89.1 0 15).toInt ∧ (u89.1 0 15).toInt - 10 * (u89.1 0 47).toInt ≤ (v.1 0 15).toInt - 10 * ((v.1 0 47) + (1 : Int32)).toInt := po88
                have pf88 : (v.1 0 43).toInt ≤ (u89.1 0 43).toInt ∧ (u89.1 0 43).toInt - 15 * (u89.1 0 47).toInt ≤ (v.1 0 43).toInt - 15 * ((v.1 0 47) + (1 : Int32)).toInt := pf88
                have pk88 : (v.1 0 39).toInt ≤ (u89.1 0 39).toInt ∧ (u89.1 0 39).toInt - 1 * (u89.1 0 47).toInt ≤ (v.1 0 39).toInt - 1 * ((v.1 0 47) + (1 : Int32)).toInt := pk88
                have pp88 : (u89.1 0 32).toInt = (v.1 0 32).toInt ∧ (u89.1 0 48).toInt = (v.1 0 48).toInt := pp88
                have ph88 : (v.1 0 33).toInt ≤ (u89.1 0 33).toInt ∧ (u89.1 0 33).toInt ≤ 500 := ph88
                have kc88 : ∀ j : Nat, (j : Int) < (v.1 0 12).toInt → (u89.1 11) j = (v.1 11) j := kc88
                have ko88 : ∀ j : Nat, (j : Int) < (v.1 0 15).toInt → (u89.1 13) j = (v.1 13) j := ko88
                have kg88 : ∀ j : Nat, (j : Int) < (v.1 0 15).toInt → (u89.1 14) j = (v.1 14) j := kg88
                have n3588 : NI 35 u89 := n3588
                refine W.widen (k := 0) (n := 0) (by omega) (by omega) ?_
                refine lv_iload_n hx hb dX13_named_99 rfl (lv_at hl 5 rfl) ?_
                refine lv_if_eq (tgt := 110) hx hb dX13_named_100 (by decide) (fun _ => ?_) (fun k91 => absurd k91 (by decide))
                refine lv_iconst (v := -1) hx hb dX13_named_110 (by decide) ?_
                refine lv_istore (lv' := [(6, .int (-1)), (5, .int r41), (4, .int r7), (3, .int r4), (2, .int (v.1 0 47)), (0, .ref (ad 0)), (1, .int 0)]) hx hb dX13_named_111 hl (by decide) rfl (fun ls hl => ?_)
                refine lv_iload hx hb dX13_named_113 (lv_at hl 0 rfl) ?_
                refine lv_iconst (v := -1) hx hb dX13_named_115 (by decide) ?_
                refine lv_icmp_eq (tgt := 131) hx hb dX13_named_116 (by decide) (fun _ => ?_) (fun k92 => absurd k92 (by decide))
                refine lv_iload_n hx hb dX13_named_131 rfl (lv_at hl 3 rfl) ?_
                refine lv_if_eq (tgt := 165) hx hb dX13_named_132 (by decide) (fun h93 => ?_) (fun h93 => ?_)
                · have z94 : r4.toInt = 0 := eq_z rfl (show (0 : Int32).toInt = 0 by decide) h93
                  exfalso; omega
                · have z95 : r4.toInt ≠ 0 := ne_z rfl (show (0 : Int32).toInt = 0 by decide) h93
                  refine lv_aload_n hx hb dX13_named_135 rfl (lv_at hl 5 rfl) ?_
                  refine lv_aload_n hx hb dX13_named_136 rfl (lv_at hl 5 rfl) ?_
                  refine lv_bipush (v := 10) hx hb dX13_named_137 (by decide) ?_
                  refine lv_iconst (v := 0) hx hb dX13_named_139 (by decide) ?_
                  refine lv_bipush (v := 10) hx hb dX13_named_140 (by decide) ?_
                  refine cu_s (mW_nd _ _ _ _ _ _) (rn_S (n := 3) (As := [.int 10, .int 0, .int 10]) (rest := [.ref (ad 0), .ref (ad 0)]) hx hb hml hown ht hKK hFx hP hD hS hA (c_m_lw l dC dI cI cB cZ cJ cR tb H.size (10 : Int32) (0 : Int32) (10 : Int32) ) tw_71 tw_72 (by decide +kernel) rfl rfl ⟨by show 1 + 1 ≤ 40 * n + 8; omega, by show 8 + (3 + 11) + 24 ≤ 28 * (40 * n + 8); omega⟩ [] rfl rfl rfl hl.1 rfl (Nat.le_of_ble_eq_true rfl) dX13_named_142 ⟨Nat.le_of_ble_eq_true rfl, Nat.le_of_ble_eq_true rfl⟩) hP hD hS hA (fun r98 H locs hw96 hP hD hS => ?_)
                  refine W.widen (k := 0) (n := 0) (by omega) (by omega) ?_
                  refine cu_i (rn_V (n := 1) (As := [.int r98]) (rest := [.ref (ad 0)]) hx hb hml hown ht hKK hFx hP hD hS hA (c_m_emit l dC dI cI cB cZ cJ cR tb H.size ad N u89 r98 (show 0 ≤ (u89.1 0 12).toInt ∧ (u89.1 0 12).toInt < 24000 by omega)) tw_8 tw_9 (by decide +kernel) rfl rfl ⟨by show 0 + 1 ≤ 40 * n + 8; omega, by show 8 + (2 + 11) + 0 ≤ 28 * (40 * n + 8); omega⟩ (List.range (mW ad N cI cZ cJ u89).length) (rg_map _) (mW_nd _ _ _ _ _ _) rfl rfl rfl rfl hl.1 rfl (Nat.le_of_ble_eq_true rfl) dX13_named_145 ⟨Nat.le_of_ble_eq_true rfl, Nat.le_of_ble_eq_true rfl⟩) hP hD hS hA (fun r101 u100 H locs hw99 hP hD hS => ?_)
                  obtain ⟨rfl, rfl⟩ := hw99
                  have z102 : ((u89.1 0 12) + (1 : Int32)).toInt = (u89.1 0 12).toInt + 1 := add_z rfl (show (1 : Int32).toInt = 1 by decide) (by omega) (by omega)
                  have hP : va_P (dC, dI) vwCl (mW ad N cI cZ cJ (wA (wA u89 11 ((u89.1 0 12).toNatClampNeg) r98) 0 12 ((u89.1 0 12) + (1 : Int32)))) H := hP
                  have hD : va_D A (mW ad N cI cZ cJ (wA (wA u89 11 ((u89.1 0 12).toNatClampNeg) r98) 0 12 ((u89.1 0 12) + (1 : Int32)))) := hD
                  refine tp_i (y := (u89.1 0 12)) (rfl) ?_
                  refine W.widen (k := 0) (n := 0) (by omega) (by omega) ?_
                  refine lv_iload hx hb dX13_named_148 (lv_at hl 1 rfl) ?_
                  refine lv_iconst (v := 1) hx hb dX13_named_150 (by decide) ?_
                  refine cu_v (rn_V (n := 3) (As := [.int (u89.1 0 12), .int r41, .int 1]) (rest := []) hx hb hml hown ht hKK hFx hP hD hS hA (c_m_fix l dC dI cI cB cZ cJ cR tb H.size ad N (wA (wA u89 11 ((u89.1 0 12).toNatClampNeg) r98) 0 12 ((u89.1 0 12) + (1 : Int32))) (u89.1 0 12) r41 (1 : Int32) (show 0 ≤ (u89.1 0 43).toInt ∧ (u89.1 0 43).toInt < 24000 by omega)) tw_69 tw_70 (by decide +kernel) rfl rfl ⟨by show 0 + 1 ≤ 40 * n + 8; omega, by show 8 + (4 + 11) + 0 ≤ 28 * (40 * n + 8); omega⟩ (List.range (mW ad N cI cZ cJ (wA (wA u89 11 ((u89.1 0 12).toNatClampNeg) r98) 0 12 ((u89.1 0 12) + (1 : Int32)))).length) (rg_map _) (mW_nd _ _ _ _ _ _) rfl rfl rfl rfl hl.1 rfl (Nat.le_of_ble_eq_true rfl) dX13_named_151 ⟨Nat.le_of_ble_eq_true rfl, Nat.le_of_ble_eq_true rfl⟩) hP hD hS hA (fun u104 H locs hw103 hP hD hS => ?_)
                  obtain rfl := hw103
                  have z106 : ((u89.1 0 43) + (1 : Int32)).toInt = (u89.1 0 43).toInt + 1 := add_z rfl (show (1 : Int32).toInt = 1 by decide) (by omega) (by omega)
                  have hP : va_P (dC, dI) vwCl (mW ad N cI cZ cJ (wA (wA (wA (wA (wA (wA u89 11 ((u89.1 0 12).toNatClampNeg) r98) 0 12 ((u89.1 0 12) + (1 : Int32))) 40 ((u89.1 0 43).toNatClampNeg) (u89.1 0 12)) 41 ((u89.1 0 43).toNatClampNeg) r41) 42 ((u89.1 0 43).toNatClampNeg) (1 : Int32)) 0 43 ((u89.1 0 43) + (1 : Int32)))) H := hP
                  have hD : va_D A (mW ad N cI cZ cJ (wA (wA (wA (wA (wA (wA u89 11 ((u89.1 0 12).toNatClampNeg) r98) 0 12 ((u89.1 0 12) + (1 : Int32))) 40 ((u89.1 0 43).toNatClampNeg) (u89.1 0 12)) 41 ((u89.1 0 43).toNatClampNeg) r41) 42 ((u89.1 0 43).toNatClampNeg) (1 : Int32)) 0 43 ((u89.1 0 43) + (1 : Int32)))) := hD
                  refine W.widen (k := 0) (n := 0) (by omega) (by omega) ?_
                  refine lv_aload_n hx hb dX13_named_154 rfl (lv_at hl 5 rfl) ?_
                  refine lv_bipush (v := 6) hx hb dX13_named_155 (by decide) ?_
                  refine lv_iconst (v := 0) hx hb dX13_named_157 (by decide) ?_
                  refine cu_i (rn_V (n := 2) (As := [.int 6, .int 0]) (rest := []) hx hb hml hown ht hKK hFx hP hD hS hA (c_m_say l dC dI cI cB cZ cJ cR tb H.size ad N (wA (wA (wA (wA (wA (wA u89 11 ((u89.1 0 12).toNatClampNeg) r98) 0 12 ((u89.1 0 12) + (1 : Int32))) 40 ((u89.1 0 43).toNatClampNeg) (u89.1 0 12)) 41 ((u89.1 0 43).toNatClampNeg) r41) 42 ((u89.1 0 43).toNatClampNeg) (1 : Int32)) 0 43 ((u89.1 0 43) + (1 : Int32))) (6 : Int32) (0 : Int32) (show 0 ≤ (u89.1 0 15).toInt ∧ (u89.1 0 15).toInt < 16000 by omega)) tw_59 tw_60 (by decide +kernel) rfl rfl ⟨by show 0 + 1 ≤ 40 * n + 8; omega, by show 8 + (3 + 11) + 0 ≤ 28 * (40 * n + 8); omega⟩ (List.range (mW ad N cI cZ cJ (wA (wA (wA (wA (wA (wA u89 11 ((u89.1 0 12).toNatClampNeg) r98) 0 12 ((u89.1 0 12) + (1 : Int32))) 40 ((u89.1 0 43).toNatClampNeg) (u89.1 0 12)) 41 ((u89.1 0 43).toNatClampNeg) r41) 42 ((u89.1 0 43).toNatClampNeg) (1 : Int32)) 0 43 ((u89.1 0 43) + (1 : Int32)))).length) (rg_map _) (mW_nd _ _ _ _ _ _) rfl rfl rfl rfl hl.1 rfl (Nat.le_of_ble_eq_true rfl) dX13_named_158 ⟨Nat.le_of_ble_eq_true rfl, Nat.le_of_ble_eq_true rfl⟩) hP hD hS hA (fun r109 u108 H locs hw107 hP hD hS => ?_)
                  obtain ⟨rfl, rfl⟩ := hw107
                  have z110 : ((u89.1 0 15) + (1 : Int32)).toInt = (u89.1 0 15).toInt + 1 := add_z rfl (show (1 : Int32).toInt = 1 by decide) (by omega) (by omega)
                  have hP : va_P (dC, dI) vwCl (mW ad N cI cZ cJ (wA (wA (wA (wA (wA (wA (wA (wA (wA u89 11 ((u89.1 0 12).toNatClampNeg) r98) 0 12 ((u89.1 0 12) + (1 : Int32))) 40 ((u89.1 0 43).toNatClampNeg) (u89.1 0 12)) 41 ((u89.1 0 43).toNatClampNeg) r41) 42 ((u89.1 0 43).toNatClampNeg) (1 : Int32)) 0 43 ((u89.1 0 43) + (1 : Int32))) 13 ((u89.1 0 15).toNatClampNeg) (6 : Int32)) 14 ((u89.1 0 15).toNatClampNeg) (0 : Int32)) 0 15 ((u89.1 0 15) + (1 : Int32)))) H := hP
                  have hD : va_D A (mW ad N cI cZ cJ (wA (wA (wA (wA (wA (wA (wA (wA (wA u89 11 ((u89.1 0 12).toNatClampNeg) r98) 0 12 ((u89.1 0 12) + (1 : Int32))) 40 ((u89.1 0 43).toNatClampNeg) (u89.1 0 12)) 41 ((u89.1 0 43).toNatClampNeg) r41) 42 ((u89.1 0 43).toNatClampNeg) (1 : Int32)) 0 43 ((u89.1 0 43) + (1 : Int32))) 13 ((u89.1 0 15).toNatClampNeg) (6 : Int32)) 14 ((u89.1 0 15).toNatClampNeg) (0 : Int32)) 0 15 ((u89.1 0 15) + (1 : Int32)))) := hD
                  refine tp_i (y := (u89.1 0 15)) (rfl) ?_
                  refine W.widen (k := 0) (n := 0) (by omega) (by omega) ?_
                  obtain ⟨u111, hu112⟩ : ∃ z, z = (wA (wA (wA (wA (wA (wA (wA (wA (wA u89 11 ((u89.1 0 12).toNatClampNeg) r98) 0 12 ((u89.1 0 12) + (1 : Int32))) 40 ((u89.1 0 43).toNatClampNeg) (u89.1 0 12)) 41 ((u89.1 0 43).toNatClampNeg) r41) 42 ((u89.1 0 43).toNatClampNeg) (1 : Int32)) 0 43 ((u89.1 0 43) + (1 : Int32))) 13 ((u89.1 0 15).toNatClampNeg) (6 : Int32)) 14 ((u89.1 0 15).toNatClampNeg) (0 : Int32)) 0 15 ((u89.1 0 15) + (1 : Int32))) := ⟨_, rfl⟩
                  have fr112 : FG [12, 15, 43] [0, 11, 13, 14, 40, 41, 42] u89 u111 := by rw [hu112]; exact (FG.f (FG.a (FG.a (FG.f (FG.a (FG.a (FG.a (FG.f (FG.a (FG.rf _) ((u89.1 0 12).toNatClampNeg) r98 (by decide) (by decide)) ((u89.1 0 12) + (1 : Int32)) (by decide)) ((u89.1 0 43).toNatClampNeg) (u89.1 0 12) (by decide) (by decide)) ((u89.1 0 43).toNatClampNeg) r41 (by decide) (by decide)) ((u89.1 0 43).toNatClampNeg) (1 : Int32) (by decide) (by decide)) ((u89.1 0 43) + (1 : Int32)) (by decide)) ((u89.1 0 15).toNatClampNeg) (6 : Int32) (by decide) (by decide)) ((u89.1 0 15).toNatClampNeg) (0 : Int32) (by decide) (by decide)) ((u89.1 0 15) + (1 : Int32)) (by decide))
                  have q112_2 : (u111.1 0 2).toInt = (u89.1 0 2).toInt := congrArg Int32.toInt (fr112.2.1 2 (by decide))
                  have q112_4 : (u111.1 0 4).toInt = (u89.1 0 4).toInt := congrArg Int32.toInt (fr112.2.1 4 (by decide))
                  have q112_5 : (u111.1 0 5).toInt = (u89.1 0 5).toInt := congrArg Int32.toInt (fr112.2.1 5 (by decide))
                  have q112_12 : (u111.1 0 12).toInt = ((u89.1 0 12).toInt + 1) := by rw [hu112]; exact (show ((u89.1 0 12) + (1 : Int32)).toInt = ((u89.1 0 12).toInt + 1) from z102)
                  have q112_15 : (u111.1 0 15).toInt = ((u89.1 0 15).toInt + 1) := by rw [hu112]; exact (show ((u89.1 0 15) + (1 : Int32)).toInt = ((u89.1 0 15).toInt + 1) from z110)
                  have q112_22 : (u111.1 0 22).toInt = (u89.1 0 22).toInt := congrArg Int32.toInt (fr112.2.1 22 (by decide))
                  have q112_27 : (u111.1 0 27).toInt = (u89.1 0 27).toInt := congrArg Int32.toInt (fr112.2.1 27 (by decide))
                  have q112_28 : (u111.1 0 28).toInt = (u89.1 0 28).toInt := congrArg Int32.toInt (fr112.2.1 28 (by decide))
                  have q112_30 : (u111.1 0 30).toInt = (u89.1 0 30).toInt := congrArg Int32.toInt (fr112.2.1 30 (by decide))
                  have q112_31 : (u111.1 0 31).toInt = (u89.1 0 31).toInt := congrArg Int32.toInt (fr112.2.1 31 (by decide))
                  have q112_32 : (u111.1 0 32).toInt = (u89.1 0 32).toInt := congrArg Int32.toInt (fr112.2.1 32 (by decide))
                  have q112_33 : (u111.1 0 33).toInt = (u89.1 0 33).toInt := congrArg Int32.toInt (fr112.2.1 33 (by decide))
                  have q112_34 : (u111.1 0 34).toInt = (u89.1 0 34).toInt := congrArg Int32.toInt (fr112.2.1 34 (by decide))
                  have q112_39 : (u111.1 0 39).toInt = (u89.1 0 39).toInt := congrArg Int32.toInt (fr112.2.1 39 (by decide))
                  have q112_43 : (u111.1 0 43).toInt = ((u89.1 0 43).toInt + 1) := by rw [hu112]; exact (show ((u89.1 0 43) + (1 : Int32)).toInt = ((u89.1 0 43).toInt + 1) from z106)
                  have q112_47 : (u111.1 0 47).toInt = (u89.1 0 47).toInt := congrArg Int32.toInt (fr112.2.1 47 (by decide))
                  have q112_48 : (u111.1 0 48).toInt = (u89.1 0 48).toInt := congrArg Int32.toInt (fr112.2.1 48 (by decide))
                  have q112_49 : (u111.1 0 49).toInt = (u89.1 0 49).toInt := congrArg Int32.toInt (fr112.2.1 49 (by decide))
                  have q112_52 : (u111.1 0 52).toInt = (u89.1 0 52).toInt := congrArg Int32.toInt (fr112.2.1 52 (by decide))
                  have kc112 : ∀ j : Nat, (j : Int) < (u89.1 0 12).toInt → (u111.1 11) j = (u89.1 11) j := by rw [hu112]; exact (fun (j9 : Nat) hj9 => (pk_un (by have := cl_z (a := (u89.1 0 12).toInt) rfl (by omega); omega)))
                  have ko112 : ∀ j : Nat, (j : Int) < (u89.1 0 15).toInt → (u111.1 13) j = (u89.1 13) j := by rw [hu112]; exact (fun (j9 : Nat) hj9 => (pk_un (by have := cl_z (a := (u89.1 0 15).toInt) rfl (by omega); omega)))
                  have kg112 : ∀ j : Nat, (j : Int) < (u89.1 0 15).toInt → (u111.1 14) j = (u89.1 14) j := by rw [hu112]; exact (fun (j9 : Nat) hj9 => (pk_un (by have := cl_z (a := (u89.1 0 15).toInt) rfl (by omega); omega)))
                  rw [← hu112] at hP hD
                  refine lv_pop hx hb dX13_named_161 rfl ?_
                  refine lv_goto (tgt := 173) hx hb dX13_named_162 (by decide) ?_
                  refine lv_iload_n hx hb dX13_named_173 rfl (lv_at hl 6 rfl) ?_
                  refine lv_if_eq (tgt := 182) hx hb dX13_named_174 (by decide) (fun _ => ?_) (fun k113 => absurd k113 (by decide))
                  refine vx_ret ?_
                  exact W.vret hx hb hr (fun t ht9 hW => ⟨⟨u111, rfl, ⟨(FG.tr (FG.tr (FG.f (FG.rf _) ((v.1 0 47) + (1 : Int32)) (by decide)) (FG.up fr88 (by decide) (by decide))) (FG.up fr112 (by decide) (by decide))), (show (v.1 0 47).toInt + 1 ≤ (u111.1 0 47).toInt ∧ (u111.1 0 47).toInt ≤ 1500 by omega), (show (v.1 0 49).toInt ≠ (v.1 0 47).toInt by omega), (show (v.1 0 12).toInt ≤ (u111.1 0 12).toInt ∧ (u111.1 0 12).toInt - 15 * (u111.1 0 47).toInt ≤ (v.1 0 12).toInt - 15 * (v.1 0 47).toInt by omega), (show (v.1 0 15).toInt ≤ (u111.1 0 15).toInt ∧ (u111.1 0 15).toInt - 10 * (u111.1 0 47).toInt ≤ (v.1 0 15).toInt - 10 * (v.1 0 47).toInt by omega), (show (v.1 0 43).toInt ≤ (u111.1 0 43).toInt ∧ (u111.1 0 43).toInt - 15 * (u111.1 0 47).toInt ≤ (v.1 0 43).toInt - 15 * (v.1 0 47).toInt by omega), (show (v.1 0 39).toInt ≤ (u111.1 0 39).toInt ∧ (u111.1 0 39).toInt - 1 * (u111.1 0 47).toInt ≤ (v.1 0 39).toInt - 1 * (v.1 0 47).toInt by omega), (show (u111.1 0 32).toInt = (v.1 0 32).toInt ∧ (u111.1 0 48).toInt = (v.1 0 48).toInt by omega), (show (v.1 0 33).toInt ≤ (u111.1 0 33).toInt ∧ (u111.1 0 33).toInt ≤ 500 by omega), (fun (j9 : Nat) hj9 => (Eq.trans (kc112 j9 (by omega)) (kc88 j9 (by omega)))), (fun (j9 : Nat) hj9 => (Eq.trans (ko112 j9 (by omega)) (ko88 j9 (by omega)))), (fun (j9 : Nat) hj9 => (Eq.trans (kg112 j9 (by omega)) (kg88 j9 (by omega)))), (show NI 35 u111 from NI.fr (fl := [12, 15, 43]) (al := [0, 11, 13, 14, 40, 41, 42]) fr112 (by decide) n3588)⟩, by rw [ht9]; exact hP, hD⟩, hS.F ht9⟩) hS.2.2 dX13_named_182
            · have z114 : r4.toInt ≠ 1 := ne_z rfl (show (1 : Int32).toInt = 1 by decide) h79
              refine lv_aload_n hx hb dX13_named_75 rfl (lv_at hl 4 rfl) ?_
              refine lv_iconst (v := 3) hx hb dX13_named_76 (by decide) ?_
              refine lv_aload_n hx hb dX13_named_77 rfl (lv_at hl 4 rfl) ?_
              refine va_get (D := (dC, dI)) (ci := 16) (fs := mF ad v) (v := .int (v.1 0 47)) (C := RX13) (T := TX13) (N := 124) hx hb ht itX13 hown hK hP 0 rfl rfl 47 (by decide) (ht _ tw_24) (fun _ h9 => h9) rfl dX13_named_78 ?_
              refine cu_r (rn_V (n := 2) (As := [.int 3, .int (v.1 0 47)]) (rest := []) hx hb hml hown ht hKK hFx hP hD hS hA (c_m_fail l dC dI cI cB cZ cJ cR tb H.size ad N v (3 : Int32) (v.1 0 47) (show 0 ≤ (v.1 0 47).toInt ∧ (v.1 0 47).toInt < 4002 by omega)) tw_25 tw_26 (by decide +kernel) rfl rfl ⟨by show 0 + 1 ≤ 40 * n + 8; omega, by show 8 + (3 + 11) + 0 ≤ 28 * (40 * n + 8); omega⟩ (List.range (mW ad N cI cZ cJ v).length) (rg_map _) (mW_nd _ _ _ _ _ _) rfl rfl rfl rfl hl.1 rfl (Nat.le_of_ble_eq_true rfl) dX13_named_81 ⟨Nat.le_of_ble_eq_true rfl, Nat.le_of_ble_eq_true rfl⟩) hP hD hS hA (fun u116 H locs hw115 hP hD hS => ?_)
              obtain rfl := hw115
              have hP : va_P (dC, dI) vwCl (mW ad N cI cZ cJ (wA (wA v 0 50 (3 : Int32)) 0 51 ((v.1 7) (v.1 0 47).toNatClampNeg))) H := hP
              have hD : va_D A (mW ad N cI cZ cJ (wA (wA v 0 50 (3 : Int32)) 0 51 ((v.1 7) (v.1 0 47).toNatClampNeg))) := hD
              refine W.widen (k := 0) (n := 0) (by omega) (by omega) ?_
              obtain ⟨ce9, hc9, hv9, hf9⟩ := halt_at hK hP
              refine um_athrow hx hb dX13_named_84 ?_
              exact vx_out (fun x h9 => (hnt x h9).elim) hlocks hc9 hv9 hf9 (fun t9 ht9 hv8 => ⟨(wA (wA v 0 50 (3 : Int32)) 0 51 ((v.1 7) (v.1 0 47).toNatClampNeg)), (FG.f (FG.f (FG.rf _) (3 : Int32) (by decide)) ((v.1 7) (v.1 0 47).toNatClampNeg) (by decide)), ⟨rfl, by rw [ht9]; exact hP, hD⟩, hS.F ht9⟩) hS.2.2 (by omega) (by omega)
