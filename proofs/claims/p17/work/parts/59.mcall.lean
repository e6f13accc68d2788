theorem dX13_call_0 : decode cX13_call 0 = .ok (.aload_n 0, 1) := by decide +kernel
theorem dX13_call_1 : decode cX13_call 1 = .ok (.aload_n 0, 1) := by decide +kernel
theorem dX13_call_2 : decode cX13_call 2 = .ok (.getfield 137, 3) := by decide +kernel
theorem dX13_call_5 : decode cX13_call 5 = .ok (.invokevirtual 246, 3) := by decide +kernel
theorem dX13_call_8 : decode cX13_call 8 = .ok (.ifCond .ge 14, 3) := by decide +kernel
theorem dX13_call_22 : decode cX13_call 22 = .ok (.aload_n 0, 1) := by decide +kernel
theorem dX13_call_23 : decode cX13_call 23 = .ok (.iconst 3, 1) := by decide +kernel
theorem dX13_call_24 : decode cX13_call 24 = .ok (.aload_n 0, 1) := by decide +kernel
theorem dX13_call_25 : decode cX13_call 25 = .ok (.getfield 137, 3) := by decide +kernel
theorem dX13_call_28 : decode cX13_call 28 = .ok (.invokevirtual 140, 3) := by decide +kernel
theorem dX13_call_31 : decode cX13_call 31 = .ok (.athrow, 1) := by decide +kernel
theorem dX13_call_11 : decode cX13_call 11 = .ok (.aload_n 0, 1) := by decide +kernel
theorem dX13_call_12 : decode cX13_call 12 = .ok (.aload_n 0, 1) := by decide +kernel
theorem dX13_call_13 : decode cX13_call 13 = .ok (.getfield 137, 3) := by decide +kernel
theorem dX13_call_16 : decode cX13_call 16 = .ok (.invokevirtual 249, 3) := by decide +kernel
theorem dX13_call_19 : decode cX13_call 19 = .ok (.ifCond .lt 13, 3) := by decide +kernel
theorem dX13_call_32 : decode cX13_call 32 = .ok (.aload_n 0, 1) := by decide +kernel
theorem dX13_call_33 : decode cX13_call 33 = .ok (.getfield 338, 3) := by decide +kernel
theorem tw_105 : (.fieldLink RX13 338 "PocketCompilerModel" "calls" "I" : Cond) ∈ tw_W := tw_in (by decide +kernel) (by decide +kernel)
theorem dX13_call_36 : decode cX13_call 36 = .ok (.istore_n 1, 1) := by decide +kernel
theorem dX13_call_37 : decode cX13_call 37 = .ok (.aload_n 0, 1) := by decide +kernel
theorem dX13_call_38 : decode cX13_call 38 = .ok (.dup, 1) := by decide +kernel
theorem dX13_call_39 : decode cX13_call 39 = .ok (.getfield 338, 3) := by decide +kernel
theorem dX13_call_42 : decode cX13_call 42 = .ok (.iconst 1, 1) := by decide +kernel
theorem dX13_call_43 : decode cX13_call 43 = .ok (.iadd, 1) := by decide +kernel
theorem dX13_call_44 : decode cX13_call 44 = .ok (.putfield 338, 3) := by decide +kernel
theorem dX13_call_47 : decode cX13_call 47 = .ok (.aload_n 0, 1) := by decide +kernel
theorem dX13_call_48 : decode cX13_call 48 = .ok (.getfield 341, 3) := by decide +kernel
theorem tw_106 : (.fieldLink RX13 341 "PocketCompilerModel" "cName" "[I" : Cond) ∈ tw_W := tw_in (by decide +kernel) (by decide +kernel)
theorem dX13_call_51 : decode cX13_call 51 = .ok (.iload_n 1, 1) := by decide +kernel
theorem dX13_call_52 : decode cX13_call 52 = .ok (.aload_n 0, 1) := by decide +kernel
theorem dX13_call_53 : decode cX13_call 53 = .ok (.getfield 137, 3) := by decide +kernel
theorem dX13_call_56 : decode cX13_call 56 = .ok (.iastore, 1) := by decide +kernel
theorem dX13_call_57 : decode cX13_call 57 = .ok (.aload_n 0, 1) := by decide +kernel
theorem dX13_call_58 : decode cX13_call 58 = .ok (.invokevirtual 154, 3) := by decide +kernel
theorem dX13_call_61 : decode cX13_call 61 = .ok (.aload_n 0, 1) := by decide +kernel
theorem dX13_call_62 : decode cX13_call 62 = .ok (.bipush 40, 2) := by decide +kernel
theorem dX13_call_64 : decode cX13_call 64 = .ok (.invokevirtual 281, 3) := by decide +kernel
theorem dX13_call_67 : decode cX13_call 67 = .ok (.iconst 0, 1) := by decide +kernel
theorem dX13_call_68 : decode cX13_call 68 = .ok (.istore_n 2, 1) := by decide +kernel
theorem dX13_call_69 : decode cX13_call 69 = .ok (.aload_n 0, 1) := by decide +kernel
theorem dX13_call_70 : decode cX13_call 70 = .ok (.getfield 171, 3) := by decide +kernel
theorem dX13_call_73 : decode cX13_call 73 = .ok (.aload_n 0, 1) := by decide +kernel
theorem dX13_call_74 : decode cX13_call 74 = .ok (.getfield 174, 3) := by decide +kernel
theorem dX13_call_77 : decode cX13_call 77 = .ok (.iadd, 1) := by decide +kernel
theorem dX13_call_78 : decode cX13_call 78 = .ok (.istore_n 3, 1) := by decide +kernel
theorem dX13_call_79 : decode cX13_call 79 = .ok (.aload_n 0, 1) := by decide +kernel
theorem dX13_call_80 : decode cX13_call 80 = .ok (.bipush 41, 2) := by decide +kernel
theorem dX13_call_82 : decode cX13_call 82 = .ok (.invokevirtual 158, 3) := by decide +kernel
theorem dX13_call_85 : decode cX13_call 85 = .ok (.ifCond .ne 86, 3) := by decide +kernel
theorem dX13_call_171 : decode cX13_call 171 = .ok (.aload_n 0, 1) := by decide +kernel
theorem dX13_call_172 : decode cX13_call 172 = .ok (.bipush 41, 2) := by decide +kernel
theorem dX13_call_174 : decode cX13_call 174 = .ok (.invokevirtual 287, 3) := by decide +kernel
theorem dX13_call_177 : decode cX13_call 177 = .ok (.aload_n 0, 1) := by decide +kernel
theorem dX13_call_178 : decode cX13_call 178 = .ok (.dup, 1) := by decide +kernel
theorem dX13_call_179 : decode cX13_call 179 = .ok (.getfield 174, 3) := by decide +kernel
theorem dX13_call_182 : decode cX13_call 182 = .ok (.iload_n 2, 1) := by decide +kernel
theorem dX13_call_183 : decode cX13_call 183 = .ok (.isub, 1) := by decide +kernel
theorem dX13_call_184 : decode cX13_call 184 = .ok (.putfield 174, 3) := by decide +kernel
theorem dX13_call_187 : decode cX13_call 187 = .ok (.aload_n 0, 1) := by decide +kernel
theorem dX13_call_188 : decode cX13_call 188 = .ok (.getfield 344, 3) := by decide +kernel
theorem tw_107 : (.fieldLink RX13 344 "PocketCompilerModel" "cMany" "[I" : Cond) ∈ tw_W := tw_in (by decide +kernel) (by decide +kernel)
theorem dX13_call_191 : decode cX13_call 191 = .ok (.iload_n 1, 1) := by decide +kernel
theorem dX13_call_192 : decode cX13_call 192 = .ok (.iload_n 2, 1) := by decide +kernel
theorem dX13_call_193 : decode cX13_call 193 = .ok (.iastore, 1) := by decide +kernel
theorem dX13_call_194 : decode cX13_call 194 = .ok (.iload_n 2, 1) := by decide +kernel
theorem dX13_call_195 : decode cX13_call 195 = .ok (.ifCond .le 18, 3) := by decide +kernel
theorem dX13_call_213 : decode cX13_call 213 = .ok (.aload_n 0, 1) := by decide +kernel
theorem dX13_call_214 : decode cX13_call 214 = .ok (.getfield 347, 3) := by decide +kernel
theorem tw_108 : (.fieldLink RX13 347 "PocketCompilerModel" "cWord" "[I" : Cond) ∈ tw_W := tw_in (by decide +kernel) (by decide +kernel)
theorem dX13_call_217 : decode cX13_call 217 = .ok (.iload_n 1, 1) := by decide +kernel
theorem dX13_call_218 : decode cX13_call 218 = .ok (.aload_n 0, 1) := by decide +kernel
theorem dX13_call_219 : decode cX13_call 219 = .ok (.iconst 0, 1) := by decide +kernel
theorem dX13_call_220 : decode cX13_call 220 = .ok (.invokevirtual 111, 3) := by decide +kernel
theorem dX13_call_223 : decode cX13_call 223 = .ok (.iastore, 1) := by decide +kernel
theorem dX13_call_224 : decode cX13_call 224 = .ok (.aload_n 0, 1) := by decide +kernel
theorem dX13_call_225 : decode cX13_call 225 = .ok (.getfield 350, 3) := by decide +kernel
theorem tw_109 : (.fieldLink RX13 350 "PocketCompilerModel" "cOrder" "[I" : Cond) ∈ tw_W := tw_in (by decide +kernel) (by decide +kernel)
theorem dX13_call_228 : decode cX13_call 228 = .ok (.iload_n 1, 1) := by decide +kernel
theorem dX13_call_229 : decode cX13_call 229 = .ok (.aload_n 0, 1) := by decide +kernel
theorem dX13_call_230 : decode cX13_call 230 = .ok (.bipush 14, 2) := by decide +kernel
theorem dX13_call_232 : decode cX13_call 232 = .ok (.iconst 0, 1) := by decide +kernel
theorem dX13_call_233 : decode cX13_call 233 = .ok (.invokevirtual 210, 3) := by decide +kernel
theorem dX13_call_236 : decode cX13_call 236 = .ok (.iastore, 1) := by decide +kernel
theorem dX13_call_237 : decode cX13_call 237 = .ok (.return_, 1) := by decide +kernel
theorem dX13_call_88 : decode cX13_call 88 = .ok (.iconst 1, 1) := by decide +kernel
theorem dX13_call_89 : decode cX13_call 89 = .ok (.istore 4, 2) := by decide +kernel
theorem dX13_call_91 : decode cX13_call 91 = .ok (.iload 4, 2) := by decide +kernel
theorem dX13_call_93 : decode cX13_call 93 = .ok (.ifCond .eq 78, 3) := by decide +kernel
theorem dX13_call_198 : decode cX13_call 198 = .ok (.aload_n 0, 1) := by decide +kernel
theorem dX13_call_199 : decode cX13_call 199 = .ok (.iconst 5, 1) := by decide +kernel
theorem dX13_call_200 : decode cX13_call 200 = .ok (.bipush 8, 2) := by decide +kernel
theorem dX13_call_202 : decode cX13_call 202 = .ok (.iload_n 3, 1) := by decide +kernel
theorem dX13_call_203 : decode cX13_call 203 = .ok (.invokestatic 272, 3) := by decide +kernel
theorem dX13_call_206 : decode cX13_call 206 = .ok (.invokestatic 219, 3) := by decide +kernel
theorem dX13_call_209 : decode cX13_call 209 = .ok (.invokevirtual 111, 3) := by decide +kernel
theorem dX13_call_212 : decode cX13_call 212 = .ok (.pop, 1) := by decide +kernel
theorem dX13_call_96 : decode cX13_call 96 = .ok (.iload_n 2, 1) := by decide +kernel
theorem dX13_call_97 : decode cX13_call 97 = .ok (.bipush 8, 2) := by decide +kernel
theorem dX13_call_99 : decode cX13_call 99 = .ok (.if_icmp .ne 11, 3) := by decide +kernel
theorem dX13_call_110 : decode cX13_call 110 = .ok (.aload_n 0, 1) := by decide +kernel
theorem dX13_call_111 : decode cX13_call 111 = .ok (.iconst 1, 1) := by decide +kernel
theorem dX13_call_112 : decode cX13_call 112 = .ok (.invokevirtual 298, 3) := by decide +kernel
theorem dX13_call_115 : decode cX13_call 115 = .ok (.istore 5, 2) := by decide +kernel
theorem dX13_call_117 : decode cX13_call 117 = .ok (.aload_n 0, 1) := by decide +kernel
theorem dX13_call_118 : decode cX13_call 118 = .ok (.invokevirtual 284, 3) := by decide +kernel
theorem dX13_call_121 : decode cX13_call 121 = .ok (.aload_n 0, 1) := by decide +kernel
theorem dX13_call_122 : decode cX13_call 122 = .ok (.bipush 10, 2) := by decide +kernel
theorem dX13_call_124 : decode cX13_call 124 = .ok (.iload 5, 2) := by decide +kernel
theorem dX13_call_126 : decode cX13_call 126 = .ok (.invokestatic 272, 3) := by decide +kernel
theorem dX13_call_129 : decode cX13_call 129 = .ok (.bipush 8, 2) := by decide +kernel
theorem dX13_call_131 : decode cX13_call 131 = .ok (.invokestatic 278, 3) := by decide +kernel
theorem dX13_call_134 : decode cX13_call 134 = .ok (.invokevirtual 111, 3) := by decide +kernel
theorem dX13_call_137 : decode cX13_call 137 = .ok (.pop, 1) := by decide +kernel
theorem dX13_call_138 : decode cX13_call 138 = .ok (.aload_n 0, 1) := by decide +kernel
theorem dX13_call_139 : decode cX13_call 139 = .ok (.dup, 1) := by decide +kernel
theorem dX13_call_140 : decode cX13_call 140 = .ok (.getfield 174, 3) := by decide +kernel
theorem dX13_call_143 : decode cX13_call 143 = .ok (.iconst 1, 1) := by decide +kernel
theorem dX13_call_144 : decode cX13_call 144 = .ok (.iadd, 1) := by decide +kernel
theorem dX13_call_145 : decode cX13_call 145 = .ok (.putfield 174, 3) := by decide +kernel
theorem dX13_call_148 : decode cX13_call 148 = .ok (.iinc 2 1, 3) := by decide +kernel
theorem dX13_call_151 : decode cX13_call 151 = .ok (.aload_n 0, 1) := by decide +kernel
theorem dX13_call_152 : decode cX13_call 152 = .ok (.bipush 44, 2) := by decide +kernel
theorem dX13_call_154 : decode cX13_call 154 = .ok (.invokevirtual 158, 3) := by decide +kernel
theorem dX13_call_157 : decode cX13_call 157 = .ok (.istore 4, 2) := by decide +kernel
theorem dX13_call_159 : decode cX13_call 159 = .ok (.iload 4, 2) := by decide +kernel
theorem dX13_call_161 : decode cX13_call 161 = .ok (.ifCond .eq 7, 3) := by decide +kernel
theorem dX13_call_168 : decode cX13_call 168 = .ok (.goto (-77), 3) := by decide +kernel
theorem dX13_call_164 : decode cX13_call 164 = .ok (.aload_n 0, 1) := by decide +kernel
theorem dX13_call_165 : decode cX13_call 165 = .ok (.invokevirtual 154, 3) := by decide +kernel
theorem dX13_call_102 : decode cX13_call 102 = .ok (.aload_n 0, 1) := by decide +kernel
theorem dX13_call_103 : decode cX13_call 103 = .ok (.aload_n 0, 1) := by decide +kernel
theorem dX13_call_104 : decode cX13_call 104 = .ok (.getfield 137, 3) := by decide +kernel
theorem dX13_call_107 : decode cX13_call 107 = .ok (.putfield 148, 3) := by decide +kernel
set_option maxHeartbeats 16000000 in
set_option maxRecDepth 100000 in
theorem c_m_call (l : Launch) (n : Nat) (ihE : ∀ m, n = m + 1 → Cx_expression l m) (dC : Nat → ClassId) (dI : Nat → Nat → Nat) (cI cB cZ cJ cR : ClassId) (tb : Nat → Nat) (sz : Nat) (ad : Nat → Nat) (N : Nat) (v : MS)  (zn : 40 ≤ (v.1 0 48).toInt + (n : Int)) (zt : 0 ≤ (v.1 0 47).toInt ∧ (v.1 0 47).toInt ≤ 1500) (zop : 0 ≤ (v.1 0 48).toInt ∧ (v.1 0 48).toInt ≤ 40) (zkn : 0 ≤ (v.1 0 30).toInt ∧ (v.1 0 30).toInt ≤ 500) (zhi : 0 ≤ (v.1 0 33).toInt ∧ (v.1 0 33).toInt ≤ 500) (zs : 0 ≤ (v.1 0 32).toInt ∧ (v.1 0 30).toInt + (v.1 0 32).toInt ≤ 500) (zws : 0 ≤ (v.1 0 12).toInt ∧ (v.1 0 12).toInt ≤ 15 * (v.1 0 47).toInt + 2) (zos : 0 ≤ (v.1 0 15).toInt ∧ (v.1 0 15).toInt ≤ 10 * (v.1 0 47).toInt + 0) (zfs : 0 ≤ (v.1 0 43).toInt ∧ (v.1 0 43).toInt ≤ 15 * (v.1 0 47).toInt + 0) (zcs : 0 ≤ (v.1 0 39).toInt ∧ (v.1 0 39).toInt ≤ 1 * (v.1 0 47).toInt + 0) (zgl : 0 ≤ (v.1 0 27).toInt ∧ (v.1 0 27).toInt ≤ 60) (hT : TI v) (n29 : NI 29 v) (n23 : NI 23 v) (n35 : NI 35 v) : vx_Met l yX13_call (Cond.code yX13_call cX13_call 6 none :: tw_W) ({ frames := 40 * n + 7, cells := 0, slots := 0, locals := 28 * (40 * n + 7) }) (pc_ (dC, dI) (tyS cI cB cZ cJ cR) tb (mW ad N cI cZ cJ v) sz [.ref (ad 0)]) (qv_ (dC, dI) (mW ad N cI cZ cJ v) sz (fun (u : MS) => FG [12, 15, 32, 33, 39, 43, 44, 45, 47, 48, 49, 50, 51] [0, 11, 13, 14, 35, 36, 37, 38, 40, 41, 42] v u ∧ ((v.1 0 47).toInt + 1 ≤ (u.1 0 47).toInt ∧ (u.1 0 47).toInt ≤ 1500) ∧ ((v.1 0 49).toInt ≠ (v.1 0 47).toInt) ∧ ((v.1 0 12).toInt ≤ (u.1 0 12).toInt ∧ (u.1 0 12).toInt - 15 * (u.1 0 47).toInt ≤ (v.1 0 12).toInt - 15 * (v.1 0 47).toInt) ∧ ((v.1 0 15).toInt ≤ (u.1 0 15).toInt ∧ (u.1 0 15).toInt - 10 * (u.1 0 47).toInt ≤ (v.1 0 15).toInt - 10 * (v.1 0 47).toInt) ∧ ((v.1 0 43).toInt ≤ (u.1 0 43).toInt ∧ (u.1 0 43).toInt - 15 * (u.1 0 47).toInt ≤ (v.1 0 43).toInt - 15 * (v.1 0 47).toInt) ∧ ((v.1 0 39).toInt ≤ (u.1 0 39).toInt ∧ (u.1 0 39).toInt - 1 * (u.1 0 47).toInt ≤ (v.1 0 39).toInt - 1 * (v.1 0 47).toInt) ∧ ((u.1 0 32).toInt = (v.1 0 32).toInt ∧ (u.1 0 48).toInt = (v.1 0 48).toInt) ∧ ((v.1 0 33).toInt ≤ (u.1 0 33).toInt ∧ (u.1 0 33).toInt ≤ 500) ∧ (∀ j : Nat, (j : Int) < (v.1 0 12).toInt → (u.1 11) j = (v.1 11) j) ∧ (∀ j : Nat, (j : Int) < (v.1 0 15).toInt → (u.1 13) j = (v.1 13) j) ∧ (∀ j : Nat, (j : Int) < (v.1 0 15).toInt → (u.1 14) j = (v.1 14) j) ∧ (NI 35 u)) (fun (u : MS) => (mW ad N cI cZ cJ u))) (qxm (dC, dI) (mW ad N cI cZ cJ v) sz (fun (u : MS) => (mW ad N cI cZ cJ u)) (fun (u : MS) => Fr v u)) 0 0 (va_A (mW ad N cI cZ cJ v) sz) := by
  refine vx_ofW (cc := cX13_call) (maxL := 6) (ret := none) (by decide) rfl ?_
  intro p e s m args below meth c s₁ B hml hnt hv
  obtain ⟨rfl, hsz, hP, hKK, hD0, hFx⟩ := hv
  have hK := hKK.1
  have hx := B.exec
  have hb := B.bytes
  have hr := B.returns
  have ht : ∀ w ∈ tw_W, w.before _ s = true := fun w h => atoms_spec (ws := Cond.code yX13_call cX13_call 6 none :: tw_W) B.pre w (List.mem_cons_of_mem _ h)
  have hown : s.vm.findClass RX13 = some m.cls := findClass_of_methodNamed B.named
  have hlocks := B.notSynchronized
  subst hsz
  unfold qv_ qxm
  have hD := hD0.self (sz := s.heap.size)
  generalize hAe : va_A (mW ad N cI cZ cJ v) s.heap.size = A at hD hFx ⊢
  have hA : ∀ q : Nat, s.heap.size ≤ q → A q := fun q h => by rw [← hAe]; exact Or.inr h
  have hS : va_S A s.heap s.heap [] := va_S.rf
  have hl := lv_entry ([.ref (ad 0)]) (n := 6) (Nat.le_of_ble_eq_true rfl)
  rw [lg_entry_eq]
  generalize (lg_sl ([.ref (ad 0)]) ++ List.replicate (6 - (lg_sl ([.ref (ad 0)])).length) Slot.unset).toArray = ls at hl ⊢
  have hl : lv_has ls 6 [(0, .ref (ad 0))] := hl
  refine lv_aload_n hx hb dX13_call_0 rfl (lv_at hl 0 rfl) ?_
  refine lv_aload_n hx hb dX13_call_1 rfl (lv_at hl 0 rfl) ?_
  refine va_get (D := (dC, dI)) (ci := 16) (fs := mF ad v) (v := .int (v.1 0 47)) (C := RX13) (T := TX13) (N := 124) hx hb ht itX13 hown hK hP 0 rfl rfl 47 (by decide) (ht _ tw_24) (fun _ h9 => h9) rfl dX13_call_2 ?_
  refine cu_i (rn_V (n := 1) (As := [.int (v.1 0 47)]) (rest := []) hx hb hml hown ht hKK hFx hP hD hS hA (c_m_local l dC dI cI cB cZ cJ cR tb s.heap.size ad N v (v.1 0 47) (show 0 ≤ (v.1 0 47).toInt ∧ (v.1 0 47).toInt < 4002 by omega) (show 0 ≤ (v.1 0 30).toInt ∧ (v.1 0 30).toInt ≤ 501 by omega) (FG.ti (fl := pfl) (al := pal) (FG.rf _) (by decide) (by decide) hT) (n29)) tw_98 tw_99 (by decide +kernel) rfl rfl ⟨by show 1 + 1 ≤ 40 * n + 7; omega, by show 8 + (3 + 11) + 25 ≤ 28 * (40 * n + 7); omega⟩ (List.range (mW ad N cI cZ cJ v).length) (rg_map _) (mW_nd _ _ _ _ _ _) rfl rfl rfl rfl hl.1 rfl (Nat.le_of_ble_eq_true rfl) dX13_call_5 ⟨Nat.le_of_ble_eq_true rfl, Nat.le_of_ble_eq_true rfl⟩) hP hD hS hA (fun r3 u2 H locs hw1 hP hD hS => ?_)
  obtain ⟨rfl, a1, b1⟩ := hw1
  refine W.widen (k := 0) (n := 0) (by omega) (by omega) ?_
  refine lv_if_ge (tgt := 22) hx hb dX13_call_8 (by decide) (fun h4 => ?_) (fun h4 => ?_)
  · have z5 : 0 ≤ r3.toInt := le_z (show (0 : Int32).toInt = 0 by decide) rfl h4
    refine lv_aload_n hx hb dX13_call_22 rfl (lv_at hl 0 rfl) ?_
    refine lv_iconst (v := 3) hx hb dX13_call_23 (by decide) ?_
    refine lv_aload_n hx hb dX13_call_24 rfl (lv_at hl 0 rfl) ?_
    refine va_get (D := (dC, dI)) (ci := 16) (fs := mF ad v) (v := .int (v.1 0 47)) (C := RX13) (T := TX13) (N := 124) hx hb ht itX13 hown hK hP 0 rfl rfl 47 (by decide) (ht _ tw_24) (fun _ h9 => h9) rfl dX13_call_25 ?_
    refine cu_r (rn_V (n := 2) (As := [.int 3, .int (v.1 0 47)]) (rest := []) hx hb hml hown ht hKK hFx hP hD hS hA (c_m_fail l dC dI cI cB cZ cJ cR tb H.size ad N v (3 : Int32) (v.1 0 47) (show 0 ≤ (v.1 0 47).toInt ∧ (v.1 0 47).toInt < 4002 by omega)) tw_25 tw_26 (by decide +kernel) rfl rfl ⟨by show 0 + 1 ≤ 40 * n + 7; omega, by show 8 + (3 + 11) + 0 ≤ 28 * (40 * n + 7); omega⟩ (List.range (mW ad N cI cZ cJ v).length) (rg_map _) (mW_nd _ _ _ _ _ _) rfl rfl rfl rfl hl.1 rfl (Nat.le_of_ble_eq_true rfl) dX13_call_28 ⟨Nat.le_of_ble_eq_true rfl, Nat.le_of_ble_eq_true rfl⟩) hP hD hS hA (fun u7 H locs hw6 hP hD hS => ?_)
    obtain rfl := hw6
    have hP : va_P (dC, dI) vwCl (mW ad N cI cZ cJ (wA (wA v 0 50 (3 : Int32)) 0 51 ((v.1 7) (v.1 0 47).toNatClampNeg))) H := hP
    have hD : va_D A (mW ad N cI cZ cJ (wA (wA v 0 50 (3 : Int32)) 0 51 ((v.1 7) (v.1 0 47).toNatClampNeg))) := hD
    refine W.widen (k := 0) (n := 0) (by omega) (by omega) ?_
    obtain ⟨ce9, hc9, hv9, hf9⟩ := halt_at hK hP
    refine um_athrow hx hb dX13_call_31 ?_
    exact vx_out (fun x h9 => (hnt x h9).elim) hlocks hc9 hv9 hf9 (fun t9 ht9 hv8 => ⟨(wA (wA v 0 50 (3 : Int32)) 0 51 ((v.1 7) (v.1 0 47).toNatClampNeg)), (FG.f (FG.f (FG.rf _) (3 : Int32) (by decide)) ((v.1 7) (v.1 0 47).toNatClampNeg) (by decide)), ⟨rfl, by rw [ht9]; exact hP, hD⟩, hS.F ht9⟩) hS.2.2 (by omega) (by omega)
  · have z9 : r3.toInt < 0 := nle_z (show (0 : Int32).toInt = 0 by decide) rfl h4
    refine lv_aload_n hx hb dX13_call_11 rfl (lv_at hl 0 rfl) ?_
    refine lv_aload_n hx hb dX13_call_12 rfl (lv_at hl 0 rfl) ?_
    refine va_get (D := (dC, dI)) (ci := 16) (fs := mF ad v) (v := .int (v.1 0 47)) (C := RX13) (T := TX13) (N := 124) hx hb ht itX13 hown hK hP 0 rfl rfl 47 (by decide) (ht _ tw_24) (fun _ h9 => h9) rfl dX13_call_13 ?_
    refine cu_i (rn_V (n := 1) (As := [.int (v.1 0 47)]) (rest := []) hx hb hml hown ht hKK hFx hP hD hS hA (c_m_globalOf l dC dI cI cB cZ cJ cR tb H.size ad N v (v.1 0 47) (show 0 ≤ (v.1 0 47).toInt ∧ (v.1 0 47).toInt < 4002 by omega) (show 0 ≤ (v.1 0 27).toInt ∧ (v.1 0 27).toInt ≤ 60 by omega) (FG.ti (fl := pfl) (al := pal) (FG.rf _) (by decide) (by decide) hT) (n23)) tw_100 tw_101 (by decide +kernel) rfl rfl ⟨by show 1 + 1 ≤ 40 * n + 7; omega, by show 8 + (3 + 11) + 25 ≤ 28 * (40 * n + 7); omega⟩ (List.range (mW ad N cI cZ cJ v).length) (rg_map _) (mW_nd _ _ _ _ _ _) rfl rfl rfl rfl hl.1 rfl (Nat.le_of_ble_eq_true rfl) dX13_call_16 ⟨Nat.le_of_ble_eq_true rfl, Nat.le_of_ble_eq_true rfl⟩) hP hD hS hA (fun r12 u11 H locs hw10 hP hD hS => ?_)
    obtain ⟨rfl, a10, b10⟩ := hw10
    refine W.widen (k := 0) (n := 0) (by omega) (by omega) ?_
    refine lv_if_lt (tgt := 32) hx hb dX13_call_19 (by decide) (fun h13 => ?_) (fun h13 => ?_)
    · have z14 : r12.toInt < 0 := lt_z rfl (show (0 : Int32).toInt = 0 by decide) h13
      refine lv_aload_n hx hb dX13_call_32 rfl (lv_at hl 0 rfl) ?_
      refine va_get (D := (dC, dI)) (ci := 16) (fs := mF ad v) (v := .int (v.1 0 39)) (C := RX13) (T := TX13) (N := 124) hx hb ht itX13 hown hK hP 0 rfl rfl 39 (by decide) (ht _ tw_105) (fun _ h9 => h9) rfl dX13_call_33 ?_
      refine lv_istore_n (lv' := [(1, .int (v.1 0 39)), (0, .ref (ad 0))]) hx hb dX13_call_36 rfl hl (by decide) rfl (fun ls hl => ?_)
      refine lv_aload_n hx hb dX13_call_37 rfl (lv_at hl 1 rfl) ?_
      refine lv_dup hx hb dX13_call_38 rfl ?_
      refine va_get (D := (dC, dI)) (ci := 16) (fs := mF ad v) (v := .int (v.1 0 39)) (C := RX13) (T := TX13) (N := 124) hx hb ht itX13 hown hK hP 0 rfl rfl 39 (by decide) (ht _ tw_105) (fun _ h9 => h9) rfl dX13_call_39 ?_
      refine lv_iconst (v := 1) hx hb dX13_call_42 (by decide) ?_
      refine lv_iadd hx hb dX13_call_43 ?_
      have z15 : ((v.1 0 39) + (1 : Int32)).toInt = (v.1 0 39).toInt + 1 := add_z rfl (show (1 : Int32).toInt = 1 by decide) (by omega) (by omega)
      refine va_put (D := (dC, dI)) (ci := 16) (fs := mF ad v) (v := .int ((v.1 0 39) + (1 : Int32))) (ty := .int) (C := RX13) (T := TX13) (N := 124) hx hb ht itX13 tyX13 tyX13_ok nmX13 hown hK hP hD hS 0 rfl rfl 39 (by decide) (ht _ tw_105) (fun _ h9 => h9) rfl (by decide +kernel) rfl rfl (Nat.le_of_ble_eq_true rfl) dX13_call_44 (fun H locs hP hD hS => ?_)
      have hP := cP_ (mw_39 ad N cI cZ cJ v ((v.1 0 39) + (1 : Int32))) hP
      have hD := cD_ (mw_39 ad N cI cZ cJ v ((v.1 0 39) + (1 : Int32))) hD
      refine lv_aload_n hx hb dX13_call_47 rfl (lv_at hl 1 rfl) ?_
      refine va_get (D := (dC, dI)) (ci := 16) (fs := mF ad (wA v 0 39 ((v.1 0 39) + (1 : Int32)))) (v := .ref (ad 35)) (C := RX13) (T := TX13) (N := 124) hx hb ht itX13 hown hK hP 0 rfl rfl 35 (by decide) (ht _ tw_106) (fun _ h9 => h9) rfl dX13_call_48 ?_
      refine lv_iload_n hx hb dX13_call_51 rfl (lv_at hl 0 rfl) ?_
      refine lv_aload_n hx hb dX13_call_52 rfl (lv_at hl 1 rfl) ?_
      refine va_get (D := (dC, dI)) (ci := 16) (fs := mF ad (wA v 0 39 ((v.1 0 39) + (1 : Int32)))) (v := .int (v.1 0 47)) (C := RX13) (T := TX13) (N := 124) hx hb ht itX13 hown hK hP 0 rfl rfl 47 (by decide) (ht _ tw_24) (fun _ h9 => h9) rfl dX13_call_53 ?_
      refine va_iast (D := (dC, dI)) (f := (v.1 35)) hx hb hK hP hD hS 22 0 rfl rfl (in_z (a := (v.1 0 39).toInt) rfl (by omega) (by omega)) dX13_call_56 (fun H locs hP hD hS => ?_)
      have hP := cP_ (ma_35 ad N cI cZ cJ (wA v 0 39 ((v.1 0 39) + (1 : Int32))) ((v.1 0 39).toNatClampNeg) (v.1 0 47)) hP
      have hD := cD_ (ma_35 ad N cI cZ cJ (wA v 0 39 ((v.1 0 39) + (1 : Int32))) ((v.1 0 39).toNatClampNeg) (v.1 0 47)) hD
      refine lv_aload_n hx hb dX13_call_57 rfl (lv_at hl 1 rfl) ?_
      refine cux_v (rx_V (n := 0) (As := []) (rest := []) hx hb hml hown ht hKK hFx hP hD hS hA (c_m_take l dC dI cI cB cZ cJ cR tb H.size ad N (wA (wA v 0 39 ((v.1 0 39) + (1 : Int32))) 35 ((v.1 0 39).toNatClampNeg) (v.1 0 47))  (show 0 ≤ (v.1 0 47).toInt ∧ (v.1 0 47).toInt ≤ 1500 by omega)) tw_32 tw_33 (by decide +kernel) rfl rfl ⟨by show 1 + 1 ≤ 40 * n + 7; omega, by show 8 + (1 + 11) + 22 ≤ 28 * (40 * n + 7); omega⟩ (List.range (mW ad N cI cZ cJ (wA (wA v 0 39 ((v.1 0 39) + (1 : Int32))) 35 ((v.1 0 39).toNatClampNeg) (v.1 0 47))).length) (rg_map _) (mW_nd _ _ _ _ _ _) rfl rfl rfl rfl hl.1 rfl (Nat.le_of_ble_eq_true rfl) dX13_call_58 ⟨Nat.le_of_ble_eq_true rfl, Nat.le_of_ble_eq_true rfl⟩) hP hD hS hA (fun u9 ce9 q9 H locs hx9 hP hD hS hc9 hv9 hf9 => ?_) (fun u17 H locs hw16 hP hD hS => ?_)
      · exact vx_out (fun x h9 => (hnt x h9).elim) hlocks hc9 hv9 hf9 (fun t9 ht9 hv8 => ⟨u9, (FG.tr (FG.a (FG.f (FG.rf _) ((v.1 0 39) + (1 : Int32)) (by decide)) ((v.1 0 39).toNatClampNeg) (v.1 0 47) (by decide) (by decide)) hx9), ⟨rfl, by rw [ht9]; exact hP, hD⟩, hS.F ht9⟩) hS.2.2 (by omega) (by omega)
      obtain ⟨rfl, a16, b16⟩ := hw16
      have z19 : ((v.1 0 47) + (1 : Int32)).toInt = (v.1 0 47).toInt + 1 := add_z rfl (show (1 : Int32).toInt = 1 by decide) (by omega) (by omega)
      have hP : va_P (dC, dI) vwCl (mW ad N cI cZ cJ (wA (wA (wA v 0 39 ((v.1 0 39) + (1 : Int32))) 35 ((v.1 0 39).toNatClampNeg) (v.1 0 47)) 0 47 ((v.1 0 47) + (1 : Int32)))) H := hP
      have hD : va_D A (mW ad N cI cZ cJ (wA (wA (wA v 0 39 ((v.1 0 39) + (1 : Int32))) 35 ((v.1 0 39).toNatClampNeg) (v.1 0 47)) 0 47 ((v.1 0 47) + (1 : Int32)))) := hD
      have a16 : (v.1 0 47).toInt < 1500 := a16
      have b16 : (v.1 0 49).toInt ≠ (v.1 0 47).toInt := b16
      refine W.widen (k := 0) (n := 0) (by omega) (by omega) ?_
      refine lv_aload_n hx hb dX13_call_61 rfl (lv_at hl 1 rfl) ?_
      refine lv_bipush (v := 40) hx hb dX13_call_62 (by decide) ?_
      refine cux_v (rx_V (n := 1) (As := [.int 40]) (rest := []) hx hb hml hown ht hKK hFx hP hD hS hA (c_m_open l dC dI cI cB cZ cJ cR tb H.size ad N (wA (wA (wA v 0 39 ((v.1 0 39) + (1 : Int32))) 35 ((v.1 0 39).toNatClampNeg) (v.1 0 47)) 0 47 ((v.1 0 47) + (1 : Int32))) (40 : Int32) (show 0 ≤ ((v.1 0 47) + (1 : Int32)).toInt ∧ ((v.1 0 47) + (1 : Int32)).toInt ≤ 1500 by omega) (show 0 ≤ (v.1 0 48).toInt ∧ (v.1 0 48).toInt ≤ 40 by omega)) tw_78 tw_79 (by decide +kernel) rfl rfl ⟨by show 3 + 1 ≤ 40 * n + 7; omega, by show 8 + (2 + 11) + 62 ≤ 28 * (40 * n + 7); omega⟩ (List.range (mW ad N cI cZ cJ (wA (wA (wA v 0 39 ((v.1 0 39) + (1 : Int32))) 35 ((v.1 0 39).toNatClampNeg) (v.1 0 47)) 0 47 ((v.1 0 47) + (1 : Int32)))).length) (rg_map _) (mW_nd _ _ _ _ _ _) rfl rfl rfl rfl hl.1 rfl (Nat.le_of_ble_eq_true rfl) dX13_call_64 ⟨Nat.le_of_ble_eq_true rfl, Nat.le_of_ble_eq_true rfl⟩) hP hD hS hA (fun u9 ce9 q9 H locs hx9 hP hD hS hc9 hv9 hf9 => ?_) (fun u21 H locs hw20 hP hD hS => ?_)
      · exact vx_out (fun x h9 => (hnt x h9).elim) hlocks hc9 hv9 hf9 (fun t9 ht9 hv8 => ⟨u9, (FG.tr (FG.f (FG.a (FG.f (FG.rf _) ((v.1 0 39) + (1 : Int32)) (by decide)) ((v.1 0 39).toNatClampNeg) (v.1 0 47) (by decide) (by decide)) ((v.1 0 47) + (1 : Int32)) (by decide)) hx9), ⟨rfl, by rw [ht9]; exact hP, hD⟩, hS.F ht9⟩) hS.2.2 (by omega) (by omega)
      obtain ⟨rfl, a20, b20, c20⟩ := hw20
      have z23 : (((v.1 0 47) + (1 : Int32)) + (1 : Int32)).toInt = ((v.1 0 47).toInt + 1) + 1 := add_z z19 (show (1 : Int32).toInt = 1 by decide) (by omega) (by omega)
      have z24 : ((v.1 0 48) + (1 : Int32)).toInt = (v.1 0 48).toInt + 1 := add_z rfl (show (1 : Int32).toInt = 1 by decide) (by omega) (by omega)
      have hP : va_P (dC, dI) vwCl (mW ad N cI cZ cJ (wA (wA (wA (wA (wA v 0 39 ((v.1 0 39) + (1 : Int32))) 35 ((v.1 0 39).toNatClampNeg) (v.1 0 47)) 0 47 ((v.1 0 47) + (1 : Int32))) 0 47 (((v.1 0 47) + (1 : Int32)) + (1 : Int32))) 0 48 ((v.1 0 48) + (1 : Int32)))) H := hP
      have hD : va_D A (mW ad N cI cZ cJ (wA (wA (wA (wA (wA v 0 39 ((v.1 0 39) + (1 : Int32))) 35 ((v.1 0 39).toNatClampNeg) (v.1 0 47)) 0 47 ((v.1 0 47) + (1 : Int32))) 0 47 (((v.1 0 47) + (1 : Int32)) + (1 : Int32))) 0 48 ((v.1 0 48) + (1 : Int32)))) := hD
      have a20 : ((v.1 0 47) + (1 : Int32)).toInt < 1500 := a20
      have b20 : (v.1 0 48).toInt < 40 := b20
      have c20 : (v.1 0 49).toInt ≠ ((v.1 0 47) + (1 : Int32)).toInt := c20
      refine W.widen (k := 0) (n := 0) (by omega) (by omega) ?_
      refine lv_iconst (v := 0) hx hb dX13_call_67 (by decide) ?_
      refine lv_istore_n (lv' := [(2, .int 0), (1, .int (v.1 0 39)), (0, .ref (ad 0))]) hx hb dX13_call_68 rfl hl (by decide) rfl (fun ls hl => ?_)
      refine lv_aload_n hx hb dX13_call_69 rfl (lv_at hl 2 rfl) ?_
      refine va_get (D := (dC, dI)) (ci := 16) (fs := mF ad (wA (wA (wA (wA (wA v 0 39 ((v.1 0 39) + (1 : Int32))) 35 ((v.1 0 39).toNatClampNeg) (v.1 0 47)) 0 47 ((v.1 0 47) + (1 : Int32))) 0 47 (((v.1 0 47) + (1 : Int32)) + (1 : Int32))) 0 48 ((v.1 0 48) + (1 : Int32)))) (v := .int (v.1 0 30)) (C := RX13) (T := TX13) (N := 124) hx hb ht itX13 hown hK hP 0 rfl rfl 30 (by decide) (ht _ tw_44) (fun _ h9 => h9) rfl dX13_call_70 ?_
      refine lv_aload_n hx hb dX13_call_73 rfl (lv_at hl 2 rfl) ?_
      refine va_get (D := (dC, dI)) (ci := 16) (fs := mF ad (wA (wA (wA (wA (wA v 0 39 ((v.1 0 39) + (1 : Int32))) 35 ((v.1 0 39).toNatClampNeg) (v.1 0 47)) 0 47 ((v.1 0 47) + (1 : Int32))) 0 47 (((v.1 0 47) + (1 : Int32)) + (1 : Int32))) 0 48 ((v.1 0 48) + (1 : Int32)))) (v := .int (v.1 0 32)) (C := RX13) (T := TX13) (N := 124) hx hb ht itX13 hown hK hP 0 rfl rfl 32 (by decide) (ht _ tw_52) (fun _ h9 => h9) rfl dX13_call_74 ?_
      refine lv_iadd hx hb dX13_call_77 ?_
      have z25 : ((v.1 0 30) + (v.1 0 32)).toInt = (v.1 0 30).toInt + ((v.1 0 32).toInt) := add_z rfl rfl (by omega) (by omega)
      refine lv_istore_n (lv' := [(3, .int ((v.1 0 30) + (v.1 0 32))), (2, .int 0), (1, .int (v.1 0 39)), (0, .ref (ad 0))]) hx hb dX13_call_78 rfl hl (by decide) rfl (fun ls hl => ?_)
      refine lv_aload_n hx hb dX13_call_79 rfl (lv_at hl 3 rfl) ?_
      refine lv_bipush (v := 41) hx hb dX13_call_80 (by decide) ?_
      refine cu_i (rn_V (n := 1) (As := [.int 41]) (rest := []) hx hb hml hown ht hKK hFx hP hD hS hA (c_m_is l dC dI cI cB cZ cJ cR tb H.size ad N (wA (wA (wA (wA (wA v 0 39 ((v.1 0 39) + (1 : Int32))) 35 ((v.1 0 39).toNatClampNeg) (v.1 0 47)) 0 47 ((v.1 0 47) + (1 : Int32))) 0 47 (((v.1 0 47) + (1 : Int32)) + (1 : Int32))) 0 48 ((v.1 0 48) + (1 : Int32))) (41 : Int32) (show 0 ≤ (((v.1 0 47) + (1 : Int32)) + (1 : Int32)).toInt ∧ (((v.1 0 47) + (1 : Int32)) + (1 : Int32)).toInt ≤ 1500 by omega)) tw_34 tw_35 (by decide +kernel) rfl rfl ⟨by show 1 + 1 ≤ 40 * n + 7; omega, by show 8 + (2 + 11) + 22 ≤ 28 * (40 * n + 7); omega⟩ (List.range (mW ad N cI cZ cJ (wA (wA (wA (wA (wA v 0 39 ((v.1 0 39) + (1 : Int32))) 35 ((v.1 0 39).toNatClampNeg) (v.1 0 47)) 0 47 ((v.1 0 47) + (1 : Int32))) 0 47 (((v.1 0 47) + (1 : Int32)) + (1 : Int32))) 0 48 ((v.1 0 48) + (1 : Int32)))).length) (rg_map _) (mW_nd _ _ _ _ _ _) rfl rfl rfl rfl hl.1 rfl (Nat.le_of_ble_eq_true rfl) dX13_call_82 ⟨Nat.le_of_ble_eq_true rfl, Nat.le_of_ble_eq_true rfl⟩) hP hD hS hA (fun r28 u27 H locs hw26 hP hD hS => ?_)
      obtain ⟨rfl, b26⟩ := hw26
      have b26 : (r28 = 0 ∨ r28 = 1) := b26
      refine W.widen (k := 0) (n := 0) (by omega) (by omega) ?_
      refine lv_if_ne (tgt := 171) hx hb dX13_call_85 (by decide) (fun h29 => ?_) (fun h29 => ?_)
      · have z30 : r28.toInt ≠ 0 := ne_z rfl (show (0 : Int32).toInt = 0 by decide) h29
        refine lv_aload_n hx hb dX13_call_171 rfl (lv_at hl 3 rfl) ?_
        refine lv_bipush (v := 41) hx hb dX13_call_172 (by decide) ?_
        refine cux_v (rx_V (n := 1) (As := [.int 41]) (rest := []) hx hb hml hown ht hKK hFx hP hD hS hA (c_m_close l dC dI cI cB cZ cJ cR tb H.size ad N (wA (wA (wA (wA (wA v 0 39 ((v.1 0 39) + (1 : Int32))) 35 ((v.1 0 39).toNatClampNeg) (v.1 0 47)) 0 47 ((v.1 0 47) + (1 : Int32))) 0 47 (((v.1 0 47) + (1 : Int32)) + (1 : Int32))) 0 48 ((v.1 0 48) + (1 : Int32))) (41 : Int32) (show 0 ≤ (((v.1 0 47) + (1 : Int32)) + (1 : Int32)).toInt ∧ (((v.1 0 47) + (1 : Int32)) + (1 : Int32)).toInt ≤ 1500 by omega) (show 0 ≤ ((v.1 0 48) + (1 : Int32)).toInt ∧ ((v.1 0 48) + (1 : Int32)).toInt ≤ 40 by omega)) tw_82 tw_83 (by decide +kernel) rfl rfl ⟨by show 3 + 1 ≤ 40 * n + 7; omega, by show 8 + (2 + 11) + 64 ≤ 28 * (40 * n + 7); omega⟩ (List.range (mW ad N cI cZ cJ (wA (wA (wA (wA (wA v 0 39 ((v.1 0 39) + (1 : Int32))) 35 ((v.1 0 39).toNatClampNeg) (v.1 0 47)) 0 47 ((v.1 0 47) + (1 : Int32))) 0 47 (((v.1 0 47) + (1 : Int32)) + (1 : Int32))) 0 48 ((v.1 0 48) + (1 : Int32)))).length) (rg_map _) (mW_nd _ _ _ _ _ _) rfl rfl rfl rfl hl.1 rfl (Nat.le_of_ble_eq_true rfl) dX13_call_174 ⟨Nat.le_of_ble_eq_true rfl, Nat.le_of_ble_eq_true rfl⟩) hP hD hS hA (fun u9 ce9 q9 H locs hx9 hP hD hS hc9 hv9 hf9 => ?_) (fun u32 H locs hw31 hP hD hS => ?_)
        · exact vx_out (fun x h9 => (hnt x h9).elim) hlocks hc9 hv9 hf9 (fun t9 ht9 hv8 => ⟨u9, (FG.tr (FG.f (FG.f (FG.f (FG.a (FG.f (FG.rf _) ((v.1 0 39) + (1 : Int32)) (by decide)) ((v.1 0 39).toNatClampNeg) (v.1 0 47) (by decide) (by decide)) ((v.1 0 47) + (1 : Int32)) (by decide)) (((v.1 0 47) + (1 : Int32)) + (1 : Int32)) (by decide)) ((v.1 0 48) + (1 : Int32)) (by decide)) hx9), ⟨rfl, by rw [ht9]; exact hP, hD⟩, hS.F ht9⟩) hS.2.2 (by omega) (by omega)
        obtain ⟨rfl, a31, c31⟩ := hw31
        have z34 : ((((v.1 0 47) + (1 : Int32)) + (1 : Int32)) + (1 : Int32)).toInt = (((v.1 0 47).toInt + 1) + 1) + 1 := add_z z23 (show (1 : Int32).toInt = 1 by decide) (by omega) (by omega)
        have z35 : (((v.1 0 48) + (1 : Int32)) - (1 : Int32)).toInt = ((v.1 0 48).toInt + 1) - 1 := sub_z z24 (show (1 : Int32).toInt = 1 by decide) (by omega) (by omega)
        have hP : va_P (dC, dI) vwCl (mW ad N cI cZ cJ (wA (wA (wA (wA (wA (wA (wA v 0 39 ((v.1 0 39) + (1 : Int32))) 35 ((v.1 0 39).toNatClampNeg) (v.1 0 47)) 0 47 ((v.1 0 47) + (1 : Int32))) 0 47 (((v.1 0 47) + (1 : Int32)) + (1 : Int32))) 0 48 ((v.1 0 48) + (1 : Int32))) 0 47 ((((v.1 0 47) + (1 : Int32)) + (1 : Int32)) + (1 : Int32))) 0 48 (((v.1 0 48) + (1 : Int32)) - (1 : Int32)))) H := hP
        have hD : va_D A (mW ad N cI cZ cJ (wA (wA (wA (wA (wA (wA (wA v 0 39 ((v.1 0 39) + (1 : Int32))) 35 ((v.1 0 39).toNatClampNeg) (v.1 0 47)) 0 47 ((v.1 0 47) + (1 : Int32))) 0 47 (((v.1 0 47) + (1 : Int32)) + (1 : Int32))) 0 48 ((v.1 0 48) + (1 : Int32))) 0 47 ((((v.1 0 47) + (1 : Int32)) + (1 : Int32)) + (1 : Int32))) 0 48 (((v.1 0 48) + (1 : Int32)) - (1 : Int32)))) := hD
        have a31 : (((v.1 0 47) + (1 : Int32)) + (1 : Int32)).toInt < 1500 := a31
        have c31 : (v.1 0 49).toInt ≠ (((v.1 0 47) + (1 : Int32)) + (1 : Int32)).toInt := c31
        refine W.widen (k := 0) (n := 0) (by omega) (by omega) ?_
        obtain ⟨u36, hu37⟩ : ∃ z, z = (wA (wA (wA (wA (wA (wA (wA v 0 39 ((v.1 0 39) + (1 : Int32))) 35 ((v.1 0 39).toNatClampNeg) (v.1 0 47)) 0 47 ((v.1 0 47) + (1 : Int32))) 0 47 (((v.1 0 47) + (1 : Int32)) + (1 : Int32))) 0 48 ((v.1 0 48) + (1 : Int32))) 0 47 ((((v.1 0 47) + (1 : Int32)) + (1 : Int32)) + (1 : Int32))) 0 48 (((v.1 0 48) + (1 : Int32)) - (1 : Int32))) := ⟨_, rfl⟩
        have fr37 : FG [39, 47, 48] [0, 35] v u36 := by rw [hu37]; exact (FG.f (FG.f (FG.f (FG.f (FG.f (FG.a (FG.f (FG.rf _) ((v.1 0 39) + (1 : Int32)) (by decide)) ((v.1 0 39).toNatClampNeg) (v.1 0 47) (by decide) (by decide)) ((v.1 0 47) + (1 : Int32)) (by decide)) (((v.1 0 47) + (1 : Int32)) + (1 : Int32)) (by decide)) ((v.1 0 48) + (1 : Int32)) (by decide)) ((((v.1 0 47) + (1 : Int32)) + (1 : Int32)) + (1 : Int32)) (by decide)) (((v.1 0 48) + (1 : Int32)) - (1 : Int32)) (by decide))
        have q37_2 : (u36.1 0 2).toInt = (v.1 0 2).toInt := congrArg Int32.toInt (fr37.2.1 2 (by decide))
        have q37_4 : (u36.1 0 4).toInt = (v.1 0 4).toInt := congrArg Int32.toInt (fr37.2.1 4 (by decide))
        have q37_5 : (u36.1 0 5).toInt = (v.1 0 5).toInt := congrArg Int32.toInt (fr37.2.1 5 (by decide))
        have q37_12 : (u36.1 0 12).toInt = (v.1 0 12).toInt := congrArg Int32.toInt (fr37.2.1 12 (by decide))
        have q37_15 : (u36.1 0 15).toInt = (v.1 0 15).toInt := congrArg Int32.toInt (fr37.2.1 15 (by decide))
        have q37_22 : (u36.1 0 22).toInt = (v.1 0 22).toInt := congrArg Int32.toInt (fr37.2.1 22 (by decide))
        have q37_27 : (u36.1 0 27).toInt = (v.1 0 27).toInt := congrArg Int32.toInt (fr37.2.1 27 (by decide))
        have q37_28 : (u36.1 0 28).toInt = (v.1 0 28).toInt := congrArg Int32.toInt (fr37.2.1 28 (by decide))
        have q37_30 : (u36.1 0 30).toInt = (v.1 0 30).toInt := congrArg Int32.toInt (fr37.2.1 30 (by decide))
        have q37_31 : (u36.1 0 31).toInt = (v.1 0 31).toInt := congrArg Int32.toInt (fr37.2.1 31 (by decide))
        have q37_32 : (u36.1 0 32).toInt = (v.1 0 32).toInt := congrArg Int32.toInt (fr37.2.1 32 (by decide))
        have q37_33 : (u36.1 0 33).toInt = (v.1 0 33).toInt := congrArg Int32.toInt (fr37.2.1 33 (by decide))
        have q37_34 : (u36.1 0 34).toInt = (v.1 0 34).toInt := congrArg Int32.toInt (fr37.2.1 34 (by decide))
        have q37_39 : (u36.1 0 39).toInt = ((v.1 0 39).toInt + 1) := by rw [hu37]; exact (show ((v.1 0 39) + (1 : Int32)).toInt = ((v.1 0 39).toInt + 1) from z15)
        have q37_43 : (u36.1 0 43).toInt = (v.1 0 43).toInt := congrArg Int32.toInt (fr37.2.1 43 (by decide))
        have q37_47 : (u36.1 0 47).toInt = ((((v.1 0 47).toInt + 1) + 1) + 1) := by rw [hu37]; exact (show ((((v.1 0 47) + (1 : Int32)) + (1 : Int32)) + (1 : Int32)).toInt = ((((v.1 0 47).toInt + 1) + 1) + 1) from z34)
        have q37_48 : (u36.1 0 48).toInt = (((v.1 0 48).toInt + 1) - 1) := by rw [hu37]; exact (show (((v.1 0 48) + (1 : Int32)) - (1 : Int32)).toInt = (((v.1 0 48).toInt + 1) - 1) from z35)
        have q37_49 : (u36.1 0 49).toInt = (v.1 0 49).toInt := congrArg Int32.toInt (fr37.2.1 49 (by decide))
        have q37_52 : (u36.1 0 52).toInt = (v.1 0 52).toInt := congrArg Int32.toInt (fr37.2.1 52 (by decide))
        have n3537 : NI 35 u36 := by rw [hu37]; exact (NI.w (v := (wA v 0 39 ((v.1 0 39) + (1 : Int32)))) n35 (show 0 ≤ (v.1 0 47).toInt ∧ (v.1 0 47).toInt ≤ 1500 by omega))
        rw [← hu37] at hP hD
        refine lv_aload_n hx hb dX13_call_177 rfl (lv_at hl 3 rfl) ?_
        refine lv_dup hx hb dX13_call_178 rfl ?_
        refine va_get (D := (dC, dI)) (ci := 16) (fs := mF ad u36) (v := .int (u36.1 0 32)) (C := RX13) (T := TX13) (N := 124) hx hb ht itX13 hown hK hP 0 rfl rfl 32 (by decide) (ht _ tw_52) (fun _ h9 => h9) rfl dX13_call_179 ?_
        refine lv_iload_n hx hb dX13_call_182 rfl (lv_at hl 1 rfl) ?_
        refine lv_isub hx hb dX13_call_183 ?_
        have z38 : ((u36.1 0 32) - (0 : Int32)).toInt = (u36.1 0 32).toInt - 0 := sub_z rfl (show (0 : Int32).toInt = 0 by decide) (by omega) (by omega)
        refine va_put (D := (dC, dI)) (ci := 16) (fs := mF ad u36) (v := .int ((u36.1 0 32) - (0 : Int32))) (ty := .int) (C := RX13) (T := TX13) (N := 124) hx hb ht itX13 tyX13 tyX13_ok nmX13 hown hK hP hD hS 0 rfl rfl 32 (by decide) (ht _ tw_52) (fun _ h9 => h9) rfl (by decide +kernel) rfl rfl (Nat.le_of_ble_eq_true rfl) dX13_call_184 (fun H locs hP hD hS => ?_)
        have hP := cP_ (mw_32 ad N cI cZ cJ u36 ((u36.1 0 32) - (0 : Int32))) hP
        have hD := cD_ (mw_32 ad N cI cZ cJ u36 ((u36.1 0 32) - (0 : Int32))) hD
        refine lv_aload_n hx hb dX13_call_187 rfl (lv_at hl 3 rfl) ?_
        refine va_get (D := (dC, dI)) (ci := 16) (fs := mF ad (wA u36 0 32 ((u36.1 0 32) - (0 : Int32)))) (v := .ref (ad 36)) (C := RX13) (T := TX13) (N := 124) hx hb ht itX13 hown hK hP 0 rfl rfl 36 (by decide) (ht _ tw_107) (fun _ h9 => h9) rfl dX13_call_188 ?_
        refine lv_iload_n hx hb dX13_call_191 rfl (lv_at hl 2 rfl) ?_
        refine lv_iload_n hx hb dX13_call_192 rfl (lv_at hl 1 rfl) ?_
        refine va_iast (D := (dC, dI)) (f := (u36.1 36)) hx hb hK hP hD hS 23 0 rfl rfl (in_z (a := (v.1 0 39).toInt) rfl (by omega) (by omega)) dX13_call_193 (fun H locs hP hD hS => ?_)
        have hP := cP_ (ma_36 ad N cI cZ cJ (wA u36 0 32 ((u36.1 0 32) - (0 : Int32))) ((v.1 0 39).toNatClampNeg) 0) hP
        have hD := cD_ (ma_36 ad N cI cZ cJ (wA u36 0 32 ((u36.1 0 32) - (0 : Int32))) ((v.1 0 39).toNatClampNeg) 0) hD
        refine lv_iload_n hx hb dX13_call_194 rfl (lv_at hl 1 rfl) ?_
        refine lv_if_le (tgt := 213) hx hb dX13_call_195 (by decide) (fun _ => ?_) (fun k39 => absurd k39 (by decide))
        refine lv_aload_n hx hb dX13_call_213 rfl (lv_at hl 3 rfl) ?_
        refine va_get (D := (dC, dI)) (ci := 16) (fs := mF ad (wA (wA u36 0 32 ((u36.1 0 32) - (0 : Int32))) 36 ((v.1 0 39).toNatClampNeg) 0)) (v := .ref (ad 37)) (C := RX13) (T := TX13) (N := 124) hx hb ht itX13 hown hK hP 0 rfl rfl 37 (by decide) (ht _ tw_108) (fun _ h9 => h9) rfl dX13_call_214 ?_
        refine lv_iload_n hx hb dX13_call_217 rfl (lv_at hl 2 rfl) ?_
        refine lv_aload_n hx hb dX13_call_218 rfl (lv_at hl 3 rfl) ?_
        refine lv_iconst (v := 0) hx hb dX13_call_219 (by decide) ?_
        refine cu_i (rn_V (n := 1) (As := [.int 0]) (rest := [.int (v.1 0 39), .ref (ad 37)]) hx hb hml hown ht hKK hFx hP hD hS hA (c_m_emit l dC dI cI cB cZ cJ cR tb H.size ad N (wA (wA u36 0 32 ((u36.1 0 32) - (0 : Int32))) 36 ((v.1 0 39).toNatClampNeg) 0) (0 : Int32) (show 0 ≤ (u36.1 0 12).toInt ∧ (u36.1 0 12).toInt < 24000 by omega)) tw_8 tw_9 (by decide +kernel) rfl rfl ⟨by show 0 + 1 ≤ 40 * n + 7; omega, by show 8 + (2 + 11) + 0 ≤ 28 * (40 * n + 7); omega⟩ (List.range (mW ad N cI cZ cJ (wA (wA u36 0 32 ((u36.1 0 32) - (0 : Int32))) 36 ((v.1 0 39).toNatClampNeg) 0)).length) (rg_map _) (mW_nd _ _ _ _ _ _) rfl rfl rfl rfl hl.1 rfl (Nat.le_of_ble_eq_true rfl) dX13_call_220 ⟨Nat.le_of_ble_eq_true rfl, Nat.le_of_ble_eq_true rfl⟩) hP hD hS hA (fun r42 u41 H locs hw40 hP hD hS => ?_)
        obtain ⟨rfl, rfl⟩ := hw40
        have z43 : ((u36.1 0 12) + (1 : Int32)).toInt = (u36.1 0 12).toInt + 1 := add_z rfl (show (1 : Int32).toInt = 1 by decide) (by omega) (by omega)
        have hP : va_P (dC, dI) vwCl (mW ad N cI cZ cJ (wA (wA (wA (wA u36 0 32 ((u36.1 0 32) - (0 : Int32))) 36 ((v.1 0 39).toNatClampNeg) 0) 11 ((u36.1 0 12).toNatClampNeg) (0 : Int32)) 0 12 ((u36.1 0 12) + (1 : Int32)))) H := hP
        have hD : va_D A (mW ad N cI cZ cJ (wA (wA (wA (wA u36 0 32 ((u36.1 0 32) - (0 : Int32))) 36 ((v.1 0 39).toNatClampNeg) 0) 11 ((u36.1 0 12).toNatClampNeg) (0 : Int32)) 0 12 ((u36.1 0 12) + (1 : Int32)))) := hD
        refine tp_i (y := (u36.1 0 12)) (rfl) ?_
        refine W.widen (k := 0) (n := 0) (by omega) (by omega) ?_
        refine va_iast (D := (dC, dI)) (f := (u36.1 37)) hx hb hK hP hD hS 24 0 rfl rfl (in_z (a := (v.1 0 39).toInt) rfl (by omega) (by omega)) dX13_call_223 (fun H locs hP hD hS => ?_)
        have hP := cP_ (ma_37 ad N cI cZ cJ (wA (wA (wA (wA u36 0 32 ((u36.1 0 32) - (0 : Int32))) 36 ((v.1 0 39).toNatClampNeg) 0) 11 ((u36.1 0 12).toNatClampNeg) (0 : Int32)) 0 12 ((u36.1 0 12) + (1 : Int32))) ((v.1 0 39).toNatClampNeg) (u36.1 0 12)) hP
        have hD := cD_ (ma_37 ad N cI cZ cJ (wA (wA (wA (wA u36 0 32 ((u36.1 0 32) - (0 : Int32))) 36 ((v.1 0 39).toNatClampNeg) 0) 11 ((u36.1 0 12).toNatClampNeg) (0 : Int32)) 0 12 ((u36.1 0 12) + (1 : Int32))) ((v.1 0 39).toNatClampNeg) (u36.1 0 12)) hD
        refine lv_aload_n hx hb dX13_call_224 rfl (lv_at hl 3 rfl) ?_
        refine va_get (D := (dC, dI)) (ci := 16) (fs := mF ad (wA (wA (wA (wA (wA u36 0 32 ((u36.1 0 32) - (0 : Int32))) 36 ((v.1 0 39).toNatClampNeg) 0) 11 ((u36.1 0 12).toNatClampNeg) (0 : Int32)) 0 12 ((u36.1 0 12) + (1 : Int32))) 37 ((v.1 0 39).toNatClampNeg) (u36.1 0 12))) (v := .ref (ad 38)) (C := RX13) (T := TX13) (N := 124) hx hb ht itX13 hown hK hP 0 rfl rfl 38 (by decide) (ht _ tw_109) (fun _ h9 => h9) rfl dX13_call_225 ?_
        refine lv_iload_n hx hb dX13_call_228 rfl (lv_at hl 2 rfl) ?_
        refine lv_aload_n hx hb dX13_call_229 rfl (lv_at hl 3 rfl) ?_
        refine lv_bipush (v := 14) hx hb dX13_call_230 (by decide) ?_
        refine lv_iconst (v := 0) hx hb dX13_call_232 (by decide) ?_
        refine cu_i (rn_V (n := 2) (As := [.int 14, .int 0]) (rest := [.int (v.1 0 39), .ref (ad 38)]) hx hb hml hown ht hKK hFx hP hD hS hA (c_m_say l dC dI cI cB cZ cJ cR tb H.size ad N (wA (wA (wA (wA (wA u36 0 32 ((u36.1 0 32) - (0 : Int32))) 36 ((v.1 0 39).toNatClampNeg) 0) 11 ((u36.1 0 12).toNatClampNeg) (0 : Int32)) 0 12 ((u36.1 0 12) + (1 : Int32))) 37 ((v.1 0 39).toNatClampNeg) (u36.1 0 12)) (14 : Int32) (0 : Int32) (show 0 ≤ (u36.1 0 15).toInt ∧ (u36.1 0 15).toInt < 16000 by omega)) tw_59 tw_60 (by decide +kernel) rfl rfl ⟨by show 0 + 1 ≤ 40 * n + 7; omega, by show 8 + (3 + 11) + 0 ≤ 28 * (40 * n + 7); omega⟩ (List.range (mW ad N cI cZ cJ (wA (wA (wA (wA (wA u36 0 32 ((u36.1 0 32) - (0 : Int32))) 36 ((v.1 0 39).toNatClampNeg) 0) 11 ((u36.1 0 12).toNatClampNeg) (0 : Int32)) 0 12 ((u36.1 0 12) + (1 : Int32))) 37 ((v.1 0 39).toNatClampNeg) (u36.1 0 12))).length) (rg_map _) (mW_nd _ _ _ _ _ _) rfl rfl rfl rfl hl.1 rfl (Nat.le_of_ble_eq_true rfl) dX13_call_233 ⟨Nat.le_of_ble_eq_true rfl, Nat.le_of_ble_eq_true rfl⟩) hP hD hS hA (fun r46 u45 H locs hw44 hP hD hS => ?_)
        obtain ⟨rfl, rfl⟩ := hw44
        have z47 : ((u36.1 0 15) + (1 : Int32)).toInt = (u36.1 0 15).toInt + 1 := add_z rfl (show (1 : Int32).toInt = 1 by decide) (by omega) (by omega)
        have hP : va_P (dC, dI) vwCl (mW ad N cI cZ cJ (wA (wA (wA (wA (wA (wA (wA (wA u36 0 32 ((u36.1 0 32) - (0 : Int32))) 36 ((v.1 0 39).toNatClampNeg) 0) 11 ((u36.1 0 12).toNatClampNeg) (0 : Int32)) 0 12 ((u36.1 0 12) + (1 : Int32))) 37 ((v.1 0 39).toNatClampNeg) (u36.1 0 12)) 13 ((u36.1 0 15).toNatClampNeg) (14 : Int32)) 14 ((u36.1 0 15).toNatClampNeg) (0 : Int32)) 0 15 ((u36.1 0 15) + (1 : Int32)))) H := hP
        have hD : va_D A (mW ad N cI cZ cJ (wA (wA (wA (wA (wA (wA (wA (wA u36 0 32 ((u36.1 0 32) - (0 : Int32))) 36 ((v.1 0 39).toNatClampNeg) 0) 11 ((u36.1 0 12).toNatClampNeg) (0 : Int32)) 0 12 ((u36.1 0 12) + (1 : Int32))) 37 ((v.1 0 39).toNatClampNeg) (u36.1 0 12)) 13 ((u36.1 0 15).toNatClampNeg) (14 : Int32)) 14 ((u36.1 0 15).toNatClampNeg) (0 : Int32)) 0 15 ((u36.1 0 15) + (1 : Int32)))) := hD
        refine tp_i (y := (u36.1 0 15)) (rfl) ?_
        refine W.widen (k := 0) (n := 0) (by omega) (by omega) ?_
        obtain ⟨u48, hu49⟩ : ∃ z, z = (wA (wA (wA (wA (wA (wA (wA (wA u36 0 32 ((u36.1 0 32) - (0 : Int32))) 36 ((v.1 0 39).toNatClampNeg) 0) 11 ((u36.1 0 12).toNatClampNeg) (0 : Int32)) 0 12 ((u36.1 0 12) + (1 : Int32))) 37 ((v.1 0 39).toNatClampNeg) (u36.1 0 12)) 13 ((u36.1 0 15).toNatClampNeg) (14 : Int32)) 14 ((u36.1 0 15).toNatClampNeg) (0 : Int32)) 0 15 ((u36.1 0 15) + (1 : Int32))) := ⟨_, rfl⟩
        have fr49 : FG [12, 15, 32] [0, 11, 13, 14, 36, 37] u36 u48 := by rw [hu49]; exact (FG.f (FG.a (FG.a (FG.a (FG.f (FG.a (FG.a (FG.f (FG.rf _) ((u36.1 0 32) - (0 : Int32)) (by decide)) ((v.1 0 39).toNatClampNeg) 0 (by decide) (by decide)) ((u36.1 0 12).toNatClampNeg) (0 : Int32) (by decide) (by decide)) ((u36.1 0 12) + (1 : Int32)) (by decide)) ((v.1 0 39).toNatClampNeg) (u36.1 0 12) (by decide) (by decide)) ((u36.1 0 15).toNatClampNeg) (14 : Int32) (by decide) (by decide)) ((u36.1 0 15).toNatClampNeg) (0 : Int32) (by decide) (by decide)) ((u36.1 0 15) + (1 : Int32)) (by decide))
        have q49_2 : (u48.1 0 2).toInt = (u36.1 0 2).toInt := congrArg Int32.toInt (fr49.2.1 2 (by decide))
        have q49_4 : (u48.1 0 4).toInt = (u36.1 0 4).toInt := congrArg Int32.toInt (fr49.2.1 4 (by decide))
        have q49_5 : (u48.1 0 5).toInt = (u36.1 0 5).toInt := congrArg Int32.toInt (fr49.2.1 5 (by decide))
        have q49_12 : (u48.1 0 12).toInt = ((u36.1 0 12).toInt + 1) := by rw [hu49]; exact (show ((u36.1 0 12) + (1 : Int32)).toInt = ((u36.1 0 12).toInt + 1) from z43)
        have q49_15 : (u48.1 0 15).toInt = ((u36.1 0 15).toInt + 1) := by rw [hu49]; exact (show ((u36.1 0 15) + (1 : Int32)).toInt = ((u36.1 0 15).toInt + 1) from z47)
        have q49_22 : (u48.1 0 22).toInt = (u36.1 0 22).toInt := congrArg Int32.toInt (fr49.2.1 22 (by decide))
        have q49_27 : (u48.1 0 27).toInt = (u36.1 0 27).toInt := congrArg Int32.toInt (fr49.2.1 27 (by decide))
        have q49_28 : (u48.1 0 28).toInt = (u36.1 0 28).toInt := congrArg Int32.toInt (fr49.2.1 28 (by decide))
        have q49_30 : (u48.1 0 30).toInt = (u36.1 0 30).toInt := congrArg Int32.toInt (fr49.2.1 30 (by decide))
        have q49_31 : (u48.1 0 31).toInt = (u36.1 0 31).toInt := congrArg Int32.toInt (fr49.2.1 31 (by decide))
        have q49_32 : (u48.1 0 32).toInt = ((u36.1 0 32).toInt - 0) := by rw [hu49]; exact (show ((u36.1 0 32) - (0 : Int32)).toInt = ((u36.1 0 32).toInt - 0) from z38)
        have q49_33 : (u48.1 0 33).toInt = (u36.1 0 33).toInt := congrArg Int32.toInt (fr49.2.1 33 (by decide))
        have q49_34 : (u48.1 0 34).toInt = (u36.1 0 34).toInt := congrArg Int32.toInt (fr49.2.1 34 (by decide))
        have q49_39 : (u48.1 0 39).toInt = (u36.1 0 39).toInt := congrArg Int32.toInt (fr49.2.1 39 (by decide))
        have q49_43 : (u48.1 0 43).toInt = (u36.1 0 43).toInt := congrArg Int32.toInt (fr49.2.1 43 (by decide))
        have q49_47 : (u48.1 0 47).toInt = (u36.1 0 47).toInt := congrArg Int32.toInt (fr49.2.1 47 (by decide))
        have q49_48 : (u48.1 0 48).toInt = (u36.1 0 48).toInt := congrArg Int32.toInt (fr49.2.1 48 (by decide))
        have q49_49 : (u48.1 0 49).toInt = (u36.1 0 49).toInt := congrArg Int32.toInt (fr49.2.1 49 (by decide))
        have q49_52 : (u48.1 0 52).toInt = (u36.1 0 52).toInt := congrArg Int32.toInt (fr49.2.1 52 (by decide))
        have kc49 : ∀ j : Nat, (j : Int) < (u36.1 0 12).toInt → (u48.1 11) j = (u36.1 11) j := by rw [hu49]; exact (fun (j9 : Nat) hj9 => (pk_un (by have := cl_z (a := (u36.1 0 12).toInt) rfl (by omega); omega)))
        have ko49 : ∀ j : Nat, (j : Int) < (u36.1 0 15).toInt → (u48.1 13) j = (u36.1 13) j := by rw [hu49]; exact (fun (j9 : Nat) hj9 => (pk_un (by have := cl_z (a := (u36.1 0 15).toInt) rfl (by omega); omega)))
        have kg49 : ∀ j : Nat, (j : Int) < (u36.1 0 15).toInt → (u48.1 14) j = (u36.1 14) j := by rw [hu49]; exact (fun (j9 : Nat) hj9 => (pk_un (by have := cl_z (a := (u36.1 0 15).toInt) rfl (by omega); omega)))
        rw [← hu49] at hP hD
        refine va_iast (D := (dC, dI)) (f := (u48.1 38)) hx hb hK hP hD hS 25 0 rfl rfl (in_z (a := (v.1 0 39).toInt) rfl (by omega) (by omega)) dX13_call_236 (fun H locs hP hD hS => ?_)
        have hP := cP_ (ma_38 ad N cI cZ cJ u48 ((v.1 0 39).toNatClampNeg) (u36.1 0 15)) hP
        have hD := cD_ (ma_38 ad N cI cZ cJ u48 ((v.1 0 39).toNatClampNeg) (u36.1 0 15)) hD
        refine vx_ret ?_
        exact W.vret hx hb hr (fun t ht9 hW => ⟨⟨(wA u48 38 ((v.1 0 39).toNatClampNeg) (u36.1 0 15)), rfl, ⟨(FG.a (FG.tr (FG.tr (FG.rf _) (FG.up fr37 (by decide) (by decide))) (FG.up fr49 (by decide) (by decide))) ((v.1 0 39).toNatClampNeg) (u36.1 0 15) (by decide) (by decide)), (show (v.1 0 47).toInt + 1 ≤ (u48.1 0 47).toInt ∧ (u48.1 0 47).toInt ≤ 1500 by omega), (show (v.1 0 49).toInt ≠ (v.1 0 47).toInt by omega), (show (v.1 0 12).toInt ≤ (u48.1 0 12).toInt ∧ (u48.1 0 12).toInt - 15 * (u48.1 0 47).toInt ≤ (v.1 0 12).toInt - 15 * (v.1 0 47).toInt by omega), (show (v.1 0 15).toInt ≤ (u48.1 0 15).toInt ∧ (u48.1 0 15).toInt - 10 * (u48.1 0 47).toInt ≤ (v.1 0 15).toInt - 10 * (v.1 0 47).toInt by omega), (show (v.1 0 43).toInt ≤ (u48.1 0 43).toInt ∧ (u48.1 0 43).toInt - 15 * (u48.1 0 47).toInt ≤ (v.1 0 43).toInt - 15 * (v.1 0 47).toInt by omega), (show (v.1 0 39).toInt ≤ (u48.1 0 39).toInt ∧ (u48.1 0 39).toInt - 1 * (u48.1 0 47).toInt ≤ (v.1 0 39).toInt - 1 * (v.1 0 47).toInt by omega), (show (u48.1 0 32).toInt = (v.1 0 32).toInt ∧ (u48.1 0 48).toInt = (v.1 0 48).toInt by omega), (show (v.1 0 33).toInt ≤ (u48.1 0 33).toInt ∧ (u48.1 0 33).toInt ≤ 500 by omega), (fun (j9 : Nat) hj9 => (Eq.trans (kc49 j9 (by omega)) (congrFun (fr37.2.2 11 (by decide)) j9))), (fun (j9 : Nat) hj9 => (Eq.trans (ko49 j9 (by omega)) (congrFun (fr37.2.2 13 (by decide)) j9))), (fun (j9 : Nat) hj9 => (Eq.trans (kg49 j9 (by omega)) (congrFun (fr37.2.2 14 (by decide)) j9))), (show NI 35 u48 from NI.fr (fl := [12, 15, 32]) (al := [0, 11, 13, 14, 36, 37]) fr49 (by decide) n3537)⟩, by rw [ht9]; exact hP, hD⟩, hS.F ht9⟩) hS.2.2 dX13_call_237
      · have z50 : r28.toInt = 0 := eq_z rfl (show (0 : Int32).toInt = 0 by decide) h29
        refine lv_iconst (v := 1) hx hb dX13_call_88 (by decide) ?_
        refine lv_istore (lv' := [(4, .int 1), (3, .int ((v.1 0 30) + (v.1 0 32))), (2, .int 0), (1, .int (v.1 0 39)), (0, .ref (ad 0))]) hx hb dX13_call_89 hl (by decide) rfl (fun ls hl => ?_)
        refine lpm_ (X := Int32 × Int32 × MS) (P := (fun (x9 : Int32 × Int32 × MS) (H : Heap) (locs : List Loc) (ls : Array Slot) => (FG [12, 15, 32, 33, 39, 43, 44, 45, 47, 48, 49, 50, 51] [0, 11, 13, 14, 35, 36, 37, 38, 40, 41, 42] v x9.2.2) ∧ (0 ≤ x9.1.toInt ∧ x9.1.toInt ≤ 8) ∧ ((v.1 0 47).toInt + 2 ≤ (x9.2.2.1 0 47).toInt ∧ (x9.2.2.1 0 47).toInt ≤ 1500 ∧ (v.1 0 49).toInt ≠ (v.1 0 47).toInt) ∧ ((v.1 0 12).toInt ≤ (x9.2.2.1 0 12).toInt ∧ (x9.2.2.1 0 12).toInt - 15 * (x9.2.2.1 0 47).toInt + 15 ≤ (v.1 0 12).toInt - 15 * (v.1 0 47).toInt) ∧ ((v.1 0 15).toInt ≤ (x9.2.2.1 0 15).toInt ∧ (x9.2.2.1 0 15).toInt - 10 * (x9.2.2.1 0 47).toInt + 10 ≤ (v.1 0 15).toInt - 10 * (v.1 0 47).toInt) ∧ ((v.1 0 43).toInt ≤ (x9.2.2.1 0 43).toInt ∧ (x9.2.2.1 0 43).toInt - 15 * (x9.2.2.1 0 47).toInt + 0 ≤ (v.1 0 43).toInt - 15 * (v.1 0 47).toInt) ∧ ((v.1 0 39).toInt ≤ (x9.2.2.1 0 39).toInt ∧ (x9.2.2.1 0 39).toInt - 1 * (x9.2.2.1 0 47).toInt + 1 ≤ (v.1 0 39).toInt - 1 * (v.1 0 47).toInt) ∧ ((x9.2.2.1 0 32).toInt = (v.1 0 32).toInt + x9.1.toInt ∧ (x9.2.2.1 0 48).toInt = (v.1 0 48).toInt + 1 ∧ (v.1 0 30).toInt + (x9.2.2.1 0 32).toInt ≤ 500) ∧ ((v.1 0 33).toInt ≤ (x9.2.2.1 0 33).toInt ∧ (x9.2.2.1 0 33).toInt ≤ 500) ∧ (∀ j : Nat, (j : Int) < (v.1 0 12).toInt → (x9.2.2.1 11) j = (v.1 11) j) ∧ (∀ j : Nat, (j : Int) < (v.1 0 15).toInt → (x9.2.2.1 13) j = (v.1 13) j) ∧ (∀ j : Nat, (j : Int) < (v.1 0 15).toInt → (x9.2.2.1 14) j = (v.1 14) j) ∧ (NI 35 x9.2.2) ∧ va_P (dC, dI) vwCl (mW ad N cI cZ cJ x9.2.2) H ∧ va_D A (mW ad N cI cZ cJ x9.2.2) ∧ va_S A s.heap H locs ∧ lv_has ls 6 [(4, .int x9.2.1), (3, .int ((v.1 0 30) + (v.1 0 32))), (2, .int x9.1), (1, .int (v.1 0 39)), (0, .ref (ad 0))])) (fun x9 => (1500 - (x9.2.2.1 0 47).toInt).toNat) 91 (fun x9 H locs ls hh ih91 => ?_) (0, 1, (wA (wA (wA (wA (wA v 0 39 ((v.1 0 39) + (1 : Int32))) 35 ((v.1 0 39).toNatClampNeg) (v.1 0 47)) 0 47 ((v.1 0 47) + (1 : Int32))) 0 47 (((v.1 0 47) + (1 : Int32)) + (1 : Int32))) 0 48 ((v.1 0 48) + (1 : Int32)))) _ _ _ ⟨(show FG [12, 15, 32, 33, 39, 43, 44, 45, 47, 48, 49, 50, 51] [0, 11, 13, 14, 35, 36, 37, 38, 40, 41, 42] v (wA (wA (wA (wA (wA v 0 39 ((v.1 0 39) + (1 : Int32))) 35 ((v.1 0 39).toNatClampNeg) (v.1 0 47)) 0 47 ((v.1 0 47) + (1 : Int32))) 0 47 (((v.1 0 47) + (1 : Int32)) + (1 : Int32))) 0 48 ((v.1 0 48) + (1 : Int32))) from (FG.f (FG.f (FG.f (FG.a (FG.f (FG.rf _) ((v.1 0 39) + (1 : Int32)) (by decide)) ((v.1 0 39).toNatClampNeg) (v.1 0 47) (by decide) (by decide)) ((v.1 0 47) + (1 : Int32)) (by decide)) (((v.1 0 47) + (1 : Int32)) + (1 : Int32)) (by decide)) ((v.1 0 48) + (1 : Int32)) (by decide))), (show 0 ≤ 0 ∧ 0 ≤ 8 by omega), (show (v.1 0 47).toInt + 2 ≤ (((v.1 0 47) + (1 : Int32)) + (1 : Int32)).toInt ∧ (((v.1 0 47) + (1 : Int32)) + (1 : Int32)).toInt ≤ 1500 ∧ (v.1 0 49).toInt ≠ (v.1 0 47).toInt by omega), (show (v.1 0 12).toInt ≤ (v.1 0 12).toInt ∧ (v.1 0 12).toInt - 15 * (((v.1 0 47) + (1 : Int32)) + (1 : Int32)).toInt + 15 ≤ (v.1 0 12).toInt - 15 * (v.1 0 47).toInt by omega), (show (v.1 0 15).toInt ≤ (v.1 0 15).toInt ∧ (v.1 0 15).toInt - 10 * (((v.1 0 47) + (1 : Int32)) + (1 : Int32)).toInt + 10 ≤ (v.1 0 15).toInt - 10 * (v.1 0 47).toInt by omega), (show (v.1 0 43).toInt ≤ (v.1 0 43).toInt ∧ (v.1 0 43).toInt - 15 * (((v.1 0 47) + (1 : Int32)) + (1 : Int32)).toInt + 0 ≤ (v.1 0 43).toInt - 15 * (v.1 0 47).toInt by omega), (show (v.1 0 39).toInt ≤ ((v.1 0 39) + (1 : Int32)).toInt ∧ ((v.1 0 39) + (1 : Int32)).toInt - 1 * (((v.1 0 47) + (1 : Int32)) + (1 : Int32)).toInt + 1 ≤ (v.1 0 39).toInt - 1 * (v.1 0 47).toInt by omega), (show (v.1 0 32).toInt = (v.1 0 32).toInt + 0 ∧ ((v.1 0 48) + (1 : Int32)).toInt = (v.1 0 48).toInt + 1 ∧ (v.1 0 30).toInt + (v.1 0 32).toInt ≤ 500 by omega), (show (v.1 0 33).toInt ≤ (v.1 0 33).toInt ∧ (v.1 0 33).toInt ≤ 500 by omega), (show ∀ j : Nat, (j : Int) < (v.1 0 12).toInt → (v.1 11) j = (v.1 11) j from (fun (j9 : Nat) hj9 => rfl)), (show ∀ j : Nat, (j : Int) < (v.1 0 15).toInt → (v.1 13) j = (v.1 13) j from (fun (j9 : Nat) hj9 => rfl)), (show ∀ j : Nat, (j : Int) < (v.1 0 15).toInt → (v.1 14) j = (v.1 14) j from (fun (j9 : Nat) hj9 => rfl)), (show NI 35 (wA (wA (wA (wA (wA v 0 39 ((v.1 0 39) + (1 : Int32))) 35 ((v.1 0 39).toNatClampNeg) (v.1 0 47)) 0 47 ((v.1 0 47) + (1 : Int32))) 0 47 (((v.1 0 47) + (1 : Int32)) + (1 : Int32))) 0 48 ((v.1 0 48) + (1 : Int32))) from (NI.w (v := (wA v 0 39 ((v.1 0 39) + (1 : Int32)))) n35 (show 0 ≤ (v.1 0 47).toInt ∧ (v.1 0 47).toInt ≤ 1500 by omega))), hP, hD, hS, lv_sub hl [0, 1, 2, 3, 4] rfl⟩
        obtain ⟨na, mo, w⟩ := x9
        obtain ⟨fw, l1, l2, l3, l4, l5, l6, l7, l8, kc, ko, kg, n35, hP, hD, hS, hl⟩ := hh
        have fw : FG [12, 15, 32, 33, 39, 43, 44, 45, 47, 48, 49, 50, 51] [0, 11, 13, 14, 35, 36, 37, 38, 40, 41, 42] v w := fw
        have l1 : 0 ≤ na.toInt ∧ na.toInt ≤ 8 := l1
        have l2 : (v.1 0 47).toInt + 2 ≤ (w.1 0 47).toInt ∧ (w.1 0 47).toInt ≤ 1500 ∧ (v.1 0 49).toInt ≠ (v.1 0 47).toInt := l2
        have l3 : (v.1 0 12).toInt ≤ (w.1 0 12).toInt ∧ (w.1 0 12).toInt - 15 * (w.1 0 47).toInt + 15 ≤ (v.1 0 12).toInt - 15 * (v.1 0 47).toInt := l3
        have l4 : (v.1 0 15).toInt ≤ (w.1 0 15).toInt ∧ (w.1 0 15).toInt - 10 * (w.1 0 47).toInt + 10 ≤ (v.1 0 15).toInt - 10 * (v.1 0 47).toInt := l4
        have l5 : (v.1 0 43).toInt ≤ (w.1 0 43).toInt ∧ (w.1 0 43).toInt - 15 * (w.1 0 47).toInt + 0 ≤ (v.1 0 43).toInt - 15 * (v.1 0 47).toInt := l5
        have l6 : (v.1 0 39).toInt ≤ (w.1 0 39).toInt ∧ (w.1 0 39).toInt - 1 * (w.1 0 47).toInt + 1 ≤ (v.1 0 39).toInt - 1 * (v.1 0 47).toInt := l6
        have l7 : (w.1 0 32).toInt = (v.1 0 32).toInt + na.toInt ∧ (w.1 0 48).toInt = (v.1 0 48).toInt + 1 ∧ (v.1 0 30).toInt + (w.1 0 32).toInt ≤ 500 := l7
        have l8 : (v.1 0 33).toInt ≤ (w.1 0 33).toInt ∧ (w.1 0 33).toInt ≤ 500 := l8
        have kc : ∀ j : Nat, (j : Int) < (v.1 0 12).toInt → (w.1 11) j = (v.1 11) j := kc
        have ko : ∀ j : Nat, (j : Int) < (v.1 0 15).toInt → (w.1 13) j = (v.1 13) j := ko
        have kg : ∀ j : Nat, (j : Int) < (v.1 0 15).toInt → (w.1 14) j = (v.1 14) j := kg
        have n35 : NI 35 w := n35
        have hP : va_P (dC, dI) vwCl (mW ad N cI cZ cJ w) H := hP
        have hD : va_D A (mW ad N cI cZ cJ w) := hD
        have hl : lv_has ls 6 [(4, .int mo), (3, .int ((v.1 0 30) + (v.1 0 32))), (2, .int na), (1, .int (v.1 0 39)), (0, .ref (ad 0))] := hl
        have q_2 : (w.1 0 2).toInt = (v.1 0 2).toInt := congrArg Int32.toInt (fw.2.1 2 (by decide))
        have q_4 : (w.1 0 4).toInt = (v.1 0 4).toInt := congrArg Int32.toInt (fw.2.1 4 (by decide))
        have q_5 : (w.1 0 5).toInt = (v.1 0 5).toInt := congrArg Int32.toInt (fw.2.1 5 (by decide))
        have q_22 : (w.1 0 22).toInt = (v.1 0 22).toInt := congrArg Int32.toInt (fw.2.1 22 (by decide))
        have q_27 : (w.1 0 27).toInt = (v.1 0 27).toInt := congrArg Int32.toInt (fw.2.1 27 (by decide))
        have q_28 : (w.1 0 28).toInt = (v.1 0 28).toInt := congrArg Int32.toInt (fw.2.1 28 (by decide))
        have q_30 : (w.1 0 30).toInt = (v.1 0 30).toInt := congrArg Int32.toInt (fw.2.1 30 (by decide))
        have q_31 : (w.1 0 31).toInt = (v.1 0 31).toInt := congrArg Int32.toInt (fw.2.1 31 (by decide))
        have q_34 : (w.1 0 34).toInt = (v.1 0 34).toInt := congrArg Int32.toInt (fw.2.1 34 (by decide))
        have q_52 : (w.1 0 52).toInt = (v.1 0 52).toInt := congrArg Int32.toInt (fw.2.1 52 (by decide))
        refine lv_iload hx hb dX13_call_91 (lv_at hl 0 rfl) ?_
        refine lv_if_eq (tgt := 171) hx hb dX13_call_93 (by decide) (fun h51 => ?_) (fun h51 => ?_)
        · have z52 : mo.toInt = 0 := eq_z rfl (show (0 : Int32).toInt = 0 by decide) h51
          refine lv_aload_n hx hb dX13_call_171 rfl (lv_at hl 4 rfl) ?_
          refine lv_bipush (v := 41) hx hb dX13_call_172 (by decide) ?_
          refine cux_v (rx_V (n := 1) (As := [.int 41]) (rest := []) hx hb hml hown ht hKK hFx hP hD hS hA (c_m_close l dC dI cI cB cZ cJ cR tb H.size ad N w (41 : Int32) (show 0 ≤ (w.1 0 47).toInt ∧ (w.1 0 47).toInt ≤ 1500 by omega) (show 0 ≤ (w.1 0 48).toInt ∧ (w.1 0 48).toInt ≤ 40 by omega)) tw_82 tw_83 (by decide +kernel) rfl rfl ⟨by show 3 + 1 ≤ 40 * n + 7; omega, by show 8 + (2 + 11) + 64 ≤ 28 * (40 * n + 7); omega⟩ (List.range (mW ad N cI cZ cJ w).length) (rg_map _) (mW_nd _ _ _ _ _ _) rfl rfl rfl rfl hl.1 rfl (Nat.le_of_ble_eq_true rfl) dX13_call_174 ⟨Nat.le_of_ble_eq_true rfl, Nat.le_of_ble_eq_true rfl⟩) hP hD hS hA (fun u9 ce9 q9 H locs hx9 hP hD hS hc9 hv9 hf9 => ?_) (fun u54 H locs hw53 hP hD hS => ?_)
          · exact vx_out (fun x h9 => (hnt x h9).elim) hlocks hc9 hv9 hf9 (fun t9 ht9 hv8 => ⟨u9, (FG.tr (FG.tr (FG.rf _) (FG.up fw (by decide) (by decide))) hx9), ⟨rfl, by rw [ht9]; exact hP, hD⟩, hS.F ht9⟩) hS.2.2 (by omega) (by omega)
          obtain ⟨rfl, a53, c53⟩ := hw53
          have z56 : ((w.1 0 47) + (1 : Int32)).toInt = (w.1 0 47).toInt + 1 := add_z rfl (show (1 : Int32).toInt = 1 by decide) (by omega) (by omega)
          have z57 : ((w.1 0 48) - (1 : Int32)).toInt = (w.1 0 48).toInt - 1 := sub_z rfl (show (1 : Int32).toInt = 1 by decide) (by omega) (by omega)
          have hP : va_P (dC, dI) vwCl (mW ad N cI cZ cJ (wA (wA w 0 47 ((w.1 0 47) + (1 : Int32))) 0 48 ((w.1 0 48) - (1 : Int32)))) H := hP
          have hD : va_D A (mW ad N cI cZ cJ (wA (wA w 0 47 ((w.1 0 47) + (1 : Int32))) 0 48 ((w.1 0 48) - (1 : Int32)))) := hD
          have a53 : (w.1 0 47).toInt < 1500 := a53
          have c53 : (w.1 0 49).toInt ≠ (w.1 0 47).toInt := c53
          refine W.widen (k := 0) (n := 0) (by omega) (by omega) ?_
          refine lv_aload_n hx hb dX13_call_177 rfl (lv_at hl 4 rfl) ?_
          refine lv_dup hx hb dX13_call_178 rfl ?_
          refine va_get (D := (dC, dI)) (ci := 16) (fs := mF ad (wA (wA w 0 47 ((w.1 0 47) + (1 : Int32))) 0 48 ((w.1 0 48) - (1 : Int32)))) (v := .int (w.1 0 32)) (C := RX13) (T := TX13) (N := 124) hx hb ht itX13 hown hK hP 0 rfl rfl 32 (by decide) (ht _ tw_52) (fun _ h9 => h9) rfl dX13_call_179 ?_
          refine lv_iload_n hx hb dX13_call_182 rfl (lv_at hl 2 rfl) ?_
          refine lv_isub hx hb dX13_call_183 ?_
          have z58 : ((w.1 0 32) - na).toInt = (w.1 0 32).toInt - na.toInt := sub_z rfl rfl (by omega) (by omega)
          refine va_put (D := (dC, dI)) (ci := 16) (fs := mF ad (wA (wA w 0 47 ((w.1 0 47) + (1 : Int32))) 0 48 ((w.1 0 48) - (1 : Int32)))) (v := .int ((w.1 0 32) - na)) (ty := .int) (C := RX13) (T := TX13) (N := 124) hx hb ht itX13 tyX13 tyX13_ok nmX13 hown hK hP hD hS 0 rfl rfl 32 (by decide) (ht _ tw_52) (fun _ h9 => h9) rfl (by decide +kernel) rfl rfl (Nat.le_of_ble_eq_true rfl) dX13_call_184 (fun H locs hP hD hS => ?_)
          have hP := cP_ (mw_32 ad N cI cZ cJ (wA (wA w 0 47 ((w.1 0 47) + (1 : Int32))) 0 48 ((w.1 0 48) - (1 : Int32))) ((w.1 0 32) - na)) hP
          have hD := cD_ (mw_32 ad N cI cZ cJ (wA (wA w 0 47 ((w.1 0 47) + (1 : Int32))) 0 48 ((w.1 0 48) - (1 : Int32))) ((w.1 0 32) - na)) hD
          refine lv_aload_n hx hb dX13_call_187 rfl (lv_at hl 4 rfl) ?_
          refine va_get (D := (dC, dI)) (ci := 16) (fs := mF ad (wA (wA (wA w 0 47 ((w.1 0 47) + (1 : Int32))) 0 48 ((w.1 0 48) - (1 : Int32))) 0 32 ((w.1 0 32) - na))) (v := .ref (ad 36)) (C := RX13) (T := TX13) (N := 124) hx hb ht itX13 hown hK hP 0 rfl rfl 36 (by decide) (ht _ tw_107) (fun _ h9 => h9) rfl dX13_call_188 ?_
          refine lv_iload_n hx hb dX13_call_191 rfl (lv_at hl 3 rfl) ?_
          refine lv_iload_n hx hb dX13_call_192 rfl (lv_at hl 2 rfl) ?_
          refine va_iast (D := (dC, dI)) (f := (w.1 36)) hx hb hK hP hD hS 23 0 rfl rfl (in_z (a := (v.1 0 39).toInt) rfl (by omega) (by omega)) dX13_call_193 (fun H locs hP hD hS => ?_)
          have hP := cP_ (ma_36 ad N cI cZ cJ (wA (wA (wA w 0 47 ((w.1 0 47) + (1 : Int32))) 0 48 ((w.1 0 48) - (1 : Int32))) 0 32 ((w.1 0 32) - na)) ((v.1 0 39).toNatClampNeg) na) hP
          have hD := cD_ (ma_36 ad N cI cZ cJ (wA (wA (wA w 0 47 ((w.1 0 47) + (1 : Int32))) 0 48 ((w.1 0 48) - (1 : Int32))) 0 32 ((w.1 0 32) - na)) ((v.1 0 39).toNatClampNeg) na) hD
          refine lv_iload_n hx hb dX13_call_194 rfl (lv_at hl 2 rfl) ?_
          refine lv_if_le (tgt := 213) hx hb dX13_call_195 (by decide) (fun h59 => ?_) (fun h59 => ?_)
          · have z60 : na.toInt ≤ 0 := le_z rfl (show (0 : Int32).toInt = 0 by decide) h59
            refine lv_aload_n hx hb dX13_call_213 rfl (lv_at hl 4 rfl) ?_
            refine va_get (D := (dC, dI)) (ci := 16) (fs := mF ad (wA (wA (wA (wA w 0 47 ((w.1 0 47) + (1 : Int32))) 0 48 ((w.1 0 48) - (1 : Int32))) 0 32 ((w.1 0 32) - na)) 36 ((v.1 0 39).toNatClampNeg) na)) (v := .ref (ad 37)) (C := RX13) (T := TX13) (N := 124) hx hb ht itX13 hown hK hP 0 rfl rfl 37 (by decide) (ht _ tw_108) (fun _ h9 => h9) rfl dX13_call_214 ?_
            refine lv_iload_n hx hb dX13_call_217 rfl (lv_at hl 3 rfl) ?_
            refine lv_aload_n hx hb dX13_call_218 rfl (lv_at hl 4 rfl) ?_
            refine lv_iconst (v := 0) hx hb dX13_call_219 (by decide) ?_
            refine cu_i (rn_V (n := 1) (As := [.int 0]) (rest := [.int (v.1 0 39), .ref (ad 37)]) hx hb hml hown ht hKK hFx hP hD hS hA (c_m_emit l dC dI cI cB cZ cJ cR tb H.size ad N (wA (wA (wA (wA w 0 47 ((w.1 0 47) + (1 : Int32))) 0 48 ((w.1 0 48) - (1 : Int32))) 0 32 ((w.1 0 32) - na)) 36 ((v.1 0 39).toNatClampNeg) na) (0 : Int32) (show 0 ≤ (w.1 0 12).toInt ∧ (w.1 0 12).toInt < 24000 by omega)) tw_8 tw_9 (by decide +kernel) rfl rfl ⟨by show 0 + 1 ≤ 40 * n + 7; omega, by show 8 + (2 + 11) + 0 ≤ 28 * (40 * n + 7); omega⟩ (List.range (mW ad N cI cZ cJ (wA (wA (wA (wA w 0 47 ((w.1 0 47) + (1 : Int32))) 0 48 ((w.1 0 48) - (1 : Int32))) 0 32 ((w.1 0 32) - na)) 36 ((v.1 0 39).toNatClampNeg) na)).length) (rg_map _) (mW_nd _ _ _ _ _ _) rfl rfl rfl rfl hl.1 rfl (Nat.le_of_ble_eq_true rfl) dX13_call_220 ⟨Nat.le_of_ble_eq_true rfl, Nat.le_of_ble_eq_true rfl⟩) hP hD hS hA (fun r63 u62 H locs hw61 hP hD hS => ?_)
            obtain ⟨rfl, rfl⟩ := hw61
            have z64 : ((w.1 0 12) + (1 : Int32)).toInt = (w.1 0 12).toInt + 1 := add_z rfl (show (1 : Int32).toInt = 1 by decide) (by omega) (by omega)
            have hP : va_P (dC, dI) vwCl (mW ad N cI cZ cJ (wA (wA (wA (wA (wA (wA w 0 47 ((w.1 0 47) + (1 : Int32))) 0 48 ((w.1 0 48) - (1 : Int32))) 0 32 ((w.1 0 32) - na)) 36 ((v.1 0 39).toNatClampNeg) na) 11 ((w.1 0 12).toNatClampNeg) (0 : Int32)) 0 12 ((w.1 0 12) + (1 : Int32)))) H := hP
            have hD : va_D A (mW ad N cI cZ cJ (wA (wA (wA (wA (wA (wA w 0 47 ((w.1 0 47) + (1 : Int32))) 0 48 ((w.1 0 48) - (1 : Int32))) 0 32 ((w.1 0 32) - na)) 36 ((v.1 0 39).toNatClampNeg) na) 11 ((w.1 0 12).toNatClampNeg) (0 : Int32)) 0 12 ((w.1 0 12) + (1 : Int32)))) := hD
            refine tp_i (y := (w.1 0 12)) (rfl) ?_
            refine W.widen (k := 0) (n := 0) (by omega) (by omega) ?_
            refine va_iast (D := (dC, dI)) (f := (w.1 37)) hx hb hK hP hD hS 24 0 rfl rfl (in_z (a := (v.1 0 39).toInt) rfl (by omega) (by omega)) dX13_call_223 (fun H locs hP hD hS => ?_)
            have hP := cP_ (ma_37 ad N cI cZ cJ (wA (wA (wA (wA (wA (wA w 0 47 ((w.1 0 47) + (1 : Int32))) 0 48 ((w.1 0 48) - (1 : Int32))) 0 32 ((w.1 0 32) - na)) 36 ((v.1 0 39).toNatClampNeg) na) 11 ((w.1 0 12).toNatClampNeg) (0 : Int32)) 0 12 ((w.1 0 12) + (1 : Int32))) ((v.1 0 39).toNatClampNeg) (w.1 0 12)) hP
            have hD := cD_ (ma_37 ad N cI cZ cJ (wA (wA (wA (wA (wA (wA w 0 47 ((w.1 0 47) + (1 : Int32))) 0 48 ((w.1 0 48) - (1 : Int32))) 0 32 ((w.1 0 32) - na)) 36 ((v.1 0 39).toNatClampNeg) na) 11 ((w.1 0 12).toNatClampNeg) (0 : Int32)) 0 12 ((w.1 0 12) + (1 : Int32))) ((v.1 0 39).toNatClampNeg) (w.1 0 12)) hD
            obtain ⟨u65, hu66⟩ : ∃ z, z = (wA (wA (wA (wA (wA (wA (wA w 0 47 ((w.1 0 47) + (1 : Int32))) 0 48 ((w.1 0 48) - (1 : Int32))) 0 32 ((w.1 0 32) - na)) 36 ((v.1 0 39).toNatClampNeg) na) 11 ((w.1 0 12).toNatClampNeg) (0 : Int32)) 0 12 ((w.1 0 12) + (1 : Int32))) 37 ((v.1 0 39).toNatClampNeg) (w.1 0 12)) := ⟨_, rfl⟩
            have fr66 : FG [12, 32, 47, 48] [0, 11, 36, 37] w u65 := by rw [hu66]; exact (FG.a (FG.f (FG.a (FG.a (FG.f (FG.f (FG.f (FG.rf _) ((w.1 0 47) + (1 : Int32)) (by decide)) ((w.1 0 48) - (1 : Int32)) (by decide)) ((w.1 0 32) - na) (by decide)) ((v.1 0 39).toNatClampNeg) na (by decide) (by decide)) ((w.1 0 12).toNatClampNeg) (0 : Int32) (by decide) (by decide)) ((w.1 0 12) + (1 : Int32)) (by decide)) ((v.1 0 39).toNatClampNeg) (w.1 0 12) (by decide) (by decide))
            have q66_2 : (u65.1 0 2).toInt = (w.1 0 2).toInt := congrArg Int32.toInt (fr66.2.1 2 (by decide))
            have q66_4 : (u65.1 0 4).toInt = (w.1 0 4).toInt := congrArg Int32.toInt (fr66.2.1 4 (by decide))
            have q66_5 : (u65.1 0 5).toInt = (w.1 0 5).toInt := congrArg Int32.toInt (fr66.2.1 5 (by decide))
            have q66_12 : (u65.1 0 12).toInt = ((w.1 0 12).toInt + 1) := by rw [hu66]; exact (show ((w.1 0 12) + (1 : Int32)).toInt = ((w.1 0 12).toInt + 1) from z64)
            have q66_15 : (u65.1 0 15).toInt = (w.1 0 15).toInt := congrArg Int32.toInt (fr66.2.1 15 (by decide))
            have q66_22 : (u65.1 0 22).toInt = (w.1 0 22).toInt := congrArg Int32.toInt (fr66.2.1 22 (by decide))
            have q66_27 : (u65.1 0 27).toInt = (w.1 0 27).toInt := congrArg Int32.toInt (fr66.2.1 27 (by decide))
            have q66_28 : (u65.1 0 28).toInt = (w.1 0 28).toInt := congrArg Int32.toInt (fr66.2.1 28 (by decide))
            have q66_30 : (u65.1 0 30).toInt = (w.1 0 30).toInt := congrArg Int32.toInt (fr66.2.1 30 (by decide))
            have q66_31 : (u65.1 0 31).toInt = (w.1 0 31).toInt := congrArg Int32.toInt (fr66.2.1 31 (by decide))
            have q66_32 : (u65.1 0 32).toInt = ((w.1 0 32).toInt - na.toInt) := by rw [hu66]; exact (show ((w.1 0 32) - na).toInt = ((w.1 0 32).toInt - na.toInt) from z58)
            have q66_33 : (u65.1 0 33).toInt = (w.1 0 33).toInt := congrArg Int32.toInt (fr66.2.1 33 (by decide))
            have q66_34 : (u65.1 0 34).toInt = (w.1 0 34).toInt := congrArg Int32.toInt (fr66.2.1 34 (by decide))
            have q66_39 : (u65.1 0 39).toInt = (w.1 0 39).toInt := congrArg Int32.toInt (fr66.2.1 39 (by decide))
            have q66_43 : (u65.1 0 43).toInt = (w.1 0 43).toInt := congrArg Int32.toInt (fr66.2.1 43 (by decide))
            have q66_47 : (u65.1 0 47).toInt = ((w.1 0 47).toInt + 1) := by rw [hu66]; exact (show ((w.1 0 47) + (1 : Int32)).toInt = ((w.1 0 47).toInt + 1) from z56)
            have q66_48 : (u65.1 0 48).toInt = ((w.1 0 48).toInt - 1) := by rw [hu66]; exact (show ((w.1 0 48) - (1 : Int32)).toInt = ((w.1 0 48).toInt - 1) from z57)
            have q66_49 : (u65.1 0 49).toInt = (w.1 0 49).toInt := congrArg Int32.toInt (fr66.2.1 49 (by decide))
            have q66_52 : (u65.1 0 52).toInt = (w.1 0 52).toInt := congrArg Int32.toInt (fr66.2.1 52 (by decide))
            have kc66 : ∀ j : Nat, (j : Int) < (w.1 0 12).toInt → (u65.1 11) j = (w.1 11) j := by rw [hu66]; exact (fun (j9 : Nat) hj9 => (pk_un (by have := cl_z (a := (w.1 0 12).toInt) rfl (by omega); omega)))
            rw [← hu66] at hP hD
            refine lv_aload_n hx hb dX13_call_224 rfl (lv_at hl 4 rfl) ?_
            refine va_get (D := (dC, dI)) (ci := 16) (fs := mF ad u65) (v := .ref (ad 38)) (C := RX13) (T := TX13) (N := 124) hx hb ht itX13 hown hK hP 0 rfl rfl 38 (by decide) (ht _ tw_109) (fun _ h9 => h9) rfl dX13_call_225 ?_
            refine lv_iload_n hx hb dX13_call_228 rfl (lv_at hl 3 rfl) ?_
            refine lv_aload_n hx hb dX13_call_229 rfl (lv_at hl 4 rfl) ?_
            refine lv_bipush (v := 14) hx hb dX13_call_230 (by decide) ?_
            refine lv_iconst (v := 0) hx hb dX13_call_232 (by decide) ?_
            refine cu_i (rn_V (n := 2) (As := [.int 14, .int 0]) (rest := [.int (v.1 0 39), .ref (ad 38)]) hx hb hml hown ht hKK hFx hP hD hS hA (c_m_say l dC dI cI cB cZ cJ cR tb H.size ad N u65 (14 : Int32) (0 : Int32) (show 0 ≤ (u65.1 0 15).toInt ∧ (u65.1 0 15).toInt < 16000 by omega)) tw_59 tw_60 (by decide +kernel) rfl rfl ⟨by show 0 + 1 ≤ 40 * n + 7; omega, by show 8 + (3 + 11) + 0 ≤ 28 * (40 * n + 7); omega⟩ (List.range (mW ad N cI cZ cJ u65).length) (rg_map _) (mW_nd _ _ _ _ _ _) rfl rfl rfl rfl hl.1 rfl (Nat.le_of_ble_eq_true rfl) dX13_call_233 ⟨Nat.le_of_ble_eq_true rfl, Nat.le_of_ble_eq_true rfl⟩) hP hD hS hA (fun r69 u68 H locs hw67 hP hD hS => ?_)
            obtain ⟨rfl, rfl⟩ := hw67
            have z70 : ((u65.1 0 15) + (1 : Int32)).toInt = (u65.1 0 15).toInt + 1 := add_z rfl (show (1 : Int32).toInt = 1 by decide) (by omega) (by omega)
            have hP : va_P (dC, dI) vwCl (mW ad N cI cZ cJ (wA (wA (wA u65 13 ((u65.1 0 15).toNatClampNeg) (14 : Int32)) 14 ((u65.1 0 15).toNatClampNeg) (0 : Int32)) 0 15 ((u65.1 0 15) + (1 : Int32)))) H := hP
            have hD : va_D A (mW ad N cI cZ cJ (wA (wA (wA u65 13 ((u65.1 0 15).toNatClampNeg) (14 : Int32)) 14 ((u65.1 0 15).toNatClampNeg) (0 : Int32)) 0 15 ((u65.1 0 15) + (1 : Int32)))) := hD
            refine tp_i (y := (u65.1 0 15)) (rfl) ?_
            refine W.widen (k := 0) (n := 0) (by omega) (by omega) ?_
            refine va_iast (D := (dC, dI)) (f := (u65.1 38)) hx hb hK hP hD hS 25 0 rfl rfl (in_z (a := (v.1 0 39).toInt) rfl (by omega) (by omega)) dX13_call_236 (fun H locs hP hD hS => ?_)
            have hP := cP_ (ma_38 ad N cI cZ cJ (wA (wA (wA u65 13 ((u65.1 0 15).toNatClampNeg) (14 : Int32)) 14 ((u65.1 0 15).toNatClampNeg) (0 : Int32)) 0 15 ((u65.1 0 15) + (1 : Int32))) ((v.1 0 39).toNatClampNeg) (u65.1 0 15)) hP
            have hD := cD_ (ma_38 ad N cI cZ cJ (wA (wA (wA u65 13 ((u65.1 0 15).toNatClampNeg) (14 : Int32)) 14 ((u65.1 0 15).toNatClampNeg) (0 : Int32)) 0 15 ((u65.1 0 15) + (1 : Int32))) ((v.1 0 39).toNatClampNeg) (u65.1 0 15)) hD
            refine vx_ret ?_
            exact W.vret hx hb hr (fun t ht9 hW => ⟨⟨(wA (wA (wA (wA u65 13 ((u65.1 0 15).toNatClampNeg) (14 : Int32)) 14 ((u65.1 0 15).toNatClampNeg) (0 : Int32)) 0 15 ((u65.1 0 15) + (1 : Int32))) 38 ((v.1 0 39).toNatClampNeg) (u65.1 0 15)), rfl, ⟨(FG.a (FG.f (FG.a (FG.a (FG.tr (FG.tr (FG.rf _) (FG.up fw (by decide) (by decide))) (FG.up fr66 (by decide) (by decide))) ((u65.1 0 15).toNatClampNeg) (14 : Int32) (by decide) (by decide)) ((u65.1 0 15).toNatClampNeg) (0 : Int32) (by decide) (by decide)) ((u65.1 0 15) + (1 : Int32)) (by decide)) ((v.1 0 39).toNatClampNeg) (u65.1 0 15) (by decide) (by decide)), (show (v.1 0 47).toInt + 1 ≤ (u65.1 0 47).toInt ∧ (u65.1 0 47).toInt ≤ 1500 by omega), (show (v.1 0 49).toInt ≠ (v.1 0 47).toInt by omega), (show (v.1 0 12).toInt ≤ (u65.1 0 12).toInt ∧ (u65.1 0 12).toInt - 15 * (u65.1 0 47).toInt ≤ (v.1 0 12).toInt - 15 * (v.1 0 47).toInt by omega), (show (v.1 0 15).toInt ≤ ((u65.1 0 15) + (1 : Int32)).toInt ∧ ((u65.1 0 15) + (1 : Int32)).toInt - 10 * (u65.1 0 47).toInt ≤ (v.1 0 15).toInt - 10 * (v.1 0 47).toInt by omega), (show (v.1 0 43).toInt ≤ (u65.1 0 43).toInt ∧ (u65.1 0 43).toInt - 15 * (u65.1 0 47).toInt ≤ (v.1 0 43).toInt - 15 * (v.1 0 47).toInt by omega), (show (v.1 0 39).toInt ≤ (u65.1 0 39).toInt ∧ (u65.1 0 39).toInt - 1 * (u65.1 0 47).toInt ≤ (v.1 0 39).toInt - 1 * (v.1 0 47).toInt by omega), (show (u65.1 0 32).toInt = (v.1 0 32).toInt ∧ (u65.1 0 48).toInt = (v.1 0 48).toInt by omega), (show (v.1 0 33).toInt ≤ (u65.1 0 33).toInt ∧ (u65.1 0 33).toInt ≤ 500 by omega), (fun (j9 : Nat) hj9 => (Eq.trans (kc66 j9 (by omega)) (kc j9 (by omega)))), (fun (j9 : Nat) hj9 => (Eq.trans (pk_un (by have := cl_z (a := (u65.1 0 15).toInt) rfl (by omega); omega)) (Eq.trans (congrFun (fr66.2.2 13 (by decide)) j9) (ko j9 (by omega))))), (fun (j9 : Nat) hj9 => (Eq.trans (pk_un (by have := cl_z (a := (u65.1 0 15).toInt) rfl (by omega); omega)) (Eq.trans (congrFun (fr66.2.2 14 (by decide)) j9) (kg j9 (by omega))))), (show NI 35 u65 from NI.fr (fl := [12, 32, 47, 48]) (al := [0, 11, 36, 37]) fr66 (by decide) n35)⟩, by rw [ht9]; exact hP, hD⟩, hS.F ht9⟩) hS.2.2 dX13_call_237
          · have z71 : 0 < na.toInt := nle_z rfl (show (0 : Int32).toInt = 0 by decide) h59
            refine lv_aload_n hx hb dX13_call_198 rfl (lv_at hl 4 rfl) ?_
            refine lv_iconst (v := 5) hx hb dX13_call_199 (by decide) ?_
            refine lv_bipush (v := 8) hx hb dX13_call_200 (by decide) ?_
            refine lv_iload_n hx hb dX13_call_202 rfl (lv_at hl 1 rfl) ?_
            refine cu_s (mW_nd _ _ _ _ _ _) (rn_S (n := 1) (As := [.int ((v.1 0 30) + (v.1 0 32))]) (rest := [.int 8, .int 5, .ref (ad 0)]) hx hb hml hown ht hKK hFx hP hD hS hA (c_m_slotAt l dC dI cI cB cZ cJ cR tb H.size ((v.1 0 30) + (v.1 0 32)) ) tw_74 tw_75 (by decide +kernel) rfl rfl ⟨by show 0 + 1 ≤ 40 * n + 7; omega, by show 8 + (1 + 11) + 0 ≤ 28 * (40 * n + 7); omega⟩ [] rfl rfl rfl hl.1 rfl (Nat.le_of_ble_eq_true rfl) dX13_call_203 ⟨Nat.le_of_ble_eq_true rfl, Nat.le_of_ble_eq_true rfl⟩) hP hD hS hA (fun r74 H locs hw72 hP hD hS => ?_)
            refine W.widen (k := 0) (n := 0) (by omega) (by omega) ?_
            refine cu_s (mW_nd _ _ _ _ _ _) (rn_S (n := 3) (As := [.int 5, .int 8, .int r74]) (rest := [.ref (ad 0)]) hx hb hml hown ht hKK hFx hP hD hS hA (c_m_addi l dC dI cI cB cZ cJ cR tb H.size (5 : Int32) (8 : Int32) r74 ) tw_65 tw_66 (by decide +kernel) rfl rfl ⟨by show 1 + 1 ≤ 40 * n + 7; omega, by show 8 + (3 + 11) + 24 ≤ 28 * (40 * n + 7); omega⟩ [] rfl rfl rfl hl.1 rfl (Nat.le_of_ble_eq_true rfl) dX13_call_206 ⟨Nat.le_of_ble_eq_true rfl, Nat.le_of_ble_eq_true rfl⟩) hP hD hS hA (fun r77 H locs hw75 hP hD hS => ?_)
            refine W.widen (k := 0) (n := 0) (by omega) (by omega) ?_
            refine cu_i (rn_V (n := 1) (As := [.int r77]) (rest := []) hx hb hml hown ht hKK hFx hP hD hS hA (c_m_emit l dC dI cI cB cZ cJ cR tb H.size ad N (wA (wA (wA (wA w 0 47 ((w.1 0 47) + (1 : Int32))) 0 48 ((w.1 0 48) - (1 : Int32))) 0 32 ((w.1 0 32) - na)) 36 ((v.1 0 39).toNatClampNeg) na) r77 (show 0 ≤ (w.1 0 12).toInt ∧ (w.1 0 12).toInt < 24000 by omega)) tw_8 tw_9 (by decide +kernel) rfl rfl ⟨by show 0 + 1 ≤ 40 * n + 7; omega, by show 8 + (2 + 11) + 0 ≤ 28 * (40 * n + 7); omega⟩ (List.range (mW ad N cI cZ cJ (wA (wA (wA (wA w 0 47 ((w.1 0 47) + (1 : Int32))) 0 48 ((w.1 0 48) - (1 : Int32))) 0 32 ((w.1 0 32) - na)) 36 ((v.1 0 39).toNatClampNeg) na)).length) (rg_map _) (mW_nd _ _ _ _ _ _) rfl rfl rfl rfl hl.1 rfl (Nat.le_of_ble_eq_true rfl) dX13_call_209 ⟨Nat.le_of_ble_eq_true rfl, Nat.le_of_ble_eq_true rfl⟩) hP hD hS hA (fun r80 u79 H locs hw78 hP hD hS => ?_)
            obtain ⟨rfl, rfl⟩ := hw78
            have z81 : ((w.1 0 12) + (1 : Int32)).toInt = (w.1 0 12).toInt + 1 := add_z rfl (show (1 : Int32).toInt = 1 by decide) (by omega) (by omega)
            have hP : va_P (dC, dI) vwCl (mW ad N cI cZ cJ (wA (wA (wA (wA (wA (wA w 0 47 ((w.1 0 47) + (1 : Int32))) 0 48 ((w.1 0 48) - (1 : Int32))) 0 32 ((w.1 0 32) - na)) 36 ((v.1 0 39).toNatClampNeg) na) 11 ((w.1 0 12).toNatClampNeg) r77) 0 12 ((w.1 0 12) + (1 : Int32)))) H := hP
            have hD : va_D A (mW ad N cI cZ cJ (wA (wA (wA (wA (wA (wA w 0 47 ((w.1 0 47) + (1 : Int32))) 0 48 ((w.1 0 48) - (1 : Int32))) 0 32 ((w.1 0 32) - na)) 36 ((v.1 0 39).toNatClampNeg) na) 11 ((w.1 0 12).toNatClampNeg) r77) 0 12 ((w.1 0 12) + (1 : Int32)))) := hD
            refine tp_i (y := (w.1 0 12)) (rfl) ?_
            refine W.widen (k := 0) (n := 0) (by omega) (by omega) ?_
            refine lv_pop hx hb dX13_call_212 rfl ?_
            refine lv_aload_n hx hb dX13_call_213 rfl (lv_at hl 4 rfl) ?_
            refine va_get (D := (dC, dI)) (ci := 16) (fs := mF ad (wA (wA (wA (wA (wA (wA w 0 47 ((w.1 0 47) + (1 : Int32))) 0 48 ((w.1 0 48) - (1 : Int32))) 0 32 ((w.1 0 32) - na)) 36 ((v.1 0 39).toNatClampNeg) na) 11 ((w.1 0 12).toNatClampNeg) r77) 0 12 ((w.1 0 12) + (1 : Int32)))) (v := .ref (ad 37)) (C := RX13) (T := TX13) (N := 124) hx hb ht itX13 hown hK hP 0 rfl rfl 37 (by decide) (ht _ tw_108) (fun _ h9 => h9) rfl dX13_call_214 ?_
            refine lv_iload_n hx hb dX13_call_217 rfl (lv_at hl 3 rfl) ?_
            refine lv_aload_n hx hb dX13_call_218 rfl (lv_at hl 4 rfl) ?_
            refine lv_iconst (v := 0) hx hb dX13_call_219 (by decide) ?_
            refine cu_i (rn_V (n := 1) (As := [.int 0]) (rest := [.int (v.1 0 39), .ref (ad 37)]) hx hb hml hown ht hKK hFx hP hD hS hA (c_m_emit l dC dI cI cB cZ cJ cR tb H.size ad N (wA (wA (wA (wA (wA (wA w 0 47 ((w.1 0 47) + (1 : Int32))) 0 48 ((w.1 0 48) - (1 : Int32))) 0 32 ((w.1 0 32) - na)) 36 ((v.1 0 39).toNatClampNeg) na) 11 ((w.1 0 12).toNatClampNeg) r77) 0 12 ((w.1 0 12) + (1 : Int32))) (0 : Int32) (show 0 ≤ ((w.1 0 12) + (1 : Int32)).toInt ∧ ((w.1 0 12) + (1 : Int32)).toInt < 24000 by omega)) tw_8 tw_9 (by decide +kernel) rfl rfl ⟨by show 0 + 1 ≤ 40 * n + 7; omega, by show 8 + (2 + 11) + 0 ≤ 28 * (40 * n + 7); omega⟩ (List.range (mW ad N cI cZ cJ (wA (wA (wA (wA (wA (wA w 0 47 ((w.1 0 47) + (1 : Int32))) 0 48 ((w.1 0 48) - (1 : Int32))) 0 32 ((w.1 0 32) - na)) 36 ((v.1 0 39).toNatClampNeg) na) 11 ((w.1 0 12).toNatClampNeg) r77) 0 12 ((w.1 0 12) + (1 : Int32)))).length) (rg_map _) (mW_nd _ _ _ _ _ _) rfl rfl rfl rfl hl.1 rfl (Nat.le_of_ble_eq_true rfl) dX13_call_220 ⟨Nat.le_of_ble_eq_true rfl, Nat.le_of_ble_eq_true rfl⟩) hP hD hS hA (fun r84 u83 H locs hw82 hP hD hS => ?_)
            obtain ⟨rfl, rfl⟩ := hw82
            have z85 : (((w.1 0 12) + (1 : Int32)) + (1 : Int32)).toInt = ((w.1 0 12).toInt + 1) + 1 := add_z z81 (show (1 : Int32).toInt = 1 by decide) (by omega) (by omega)
            have hP : va_P (dC, dI) vwCl (mW ad N cI cZ cJ (wA (wA (wA (wA (wA (wA (wA (wA w 0 47 ((w.1 0 47) + (1 : Int32))) 0 48 ((w.1 0 48) - (1 : Int32))) 0 32 ((w.1 0 32) - na)) 36 ((v.1 0 39).toNatClampNeg) na) 11 ((w.1 0 12).toNatClampNeg) r77) 0 12 ((w.1 0 12) + (1 : Int32))) 11 (((w.1 0 12) + (1 : Int32)).toNatClampNeg) (0 : Int32)) 0 12 (((w.1 0 12) + (1 : Int32)) + (1 : Int32)))) H := hP
            have hD : va_D A (mW ad N cI cZ cJ (wA (wA (wA (wA (wA (wA (wA (wA w 0 47 ((w.1 0 47) + (1 : Int32))) 0 48 ((w.1 0 48) - (1 : Int32))) 0 32 ((w.1 0 32) - na)) 36 ((v.1 0 39).toNatClampNeg) na) 11 ((w.1 0 12).toNatClampNeg) r77) 0 12 ((w.1 0 12) + (1 : Int32))) 11 (((w.1 0 12) + (1 : Int32)).toNatClampNeg) (0 : Int32)) 0 12 (((w.1 0 12) + (1 : Int32)) + (1 : Int32)))) := hD
            refine tp_i (y := ((w.1 0 12) + (1 : Int32))) (rfl) ?_
            refine W.widen (k := 0) (n := 0) (by omega) (by omega) ?_
            obtain ⟨u86, hu87⟩ : ∃ z, z = (wA (wA (wA (wA (wA (wA (wA (wA w 0 47 ((w.1 0 47) + (1 : Int32))) 0 48 ((w.1 0 48) - (1 : Int32))) 0 32 ((w.1 0 32) - na)) 36 ((v.1 0 39).toNatClampNeg) na) 11 ((w.1 0 12).toNatClampNeg) r77) 0 12 ((w.1 0 12) + (1 : Int32))) 11 (((w.1 0 12) + (1 : Int32)).toNatClampNeg) (0 : Int32)) 0 12 (((w.1 0 12) + (1 : Int32)) + (1 : Int32))) := ⟨_, rfl⟩
            have fr87 : FG [12, 32, 47, 48] [0, 11, 36] w u86 := by rw [hu87]; exact (FG.f (FG.a (FG.f (FG.a (FG.a (FG.f (FG.f (FG.f (FG.rf _) ((w.1 0 47) + (1 : Int32)) (by decide)) ((w.1 0 48) - (1 : Int32)) (by decide)) ((w.1 0 32) - na) (by decide)) ((v.1 0 39).toNatClampNeg) na (by decide) (by decide)) ((w.1 0 12).toNatClampNeg) r77 (by decide) (by decide)) ((w.1 0 12) + (1 : Int32)) (by decide)) (((w.1 0 12) + (1 : Int32)).toNatClampNeg) (0 : Int32) (by decide) (by decide)) (((w.1 0 12) + (1 : Int32)) + (1 : Int32)) (by decide))
            have q87_2 : (u86.1 0 2).toInt = (w.1 0 2).toInt := congrArg Int32.toInt (fr87.2.1 2 (by decide))
            have q87_4 : (u86.1 0 4).toInt = (w.1 0 4).toInt := congrArg Int32.toInt (fr87.2.1 4 (by decide))
            have q87_5 : (u86.1 0 5).toInt = (w.1 0 5).toInt := congrArg Int32.toInt (fr87.2.1 5 (by decide))
            have q87_12 : (u86.1 0 12).toInt = (((w.1 0 12).toInt + 1) + 1) := by rw [hu87]; exact (show (((w.1 0 12) + (1 : Int32)) + (1 : Int32)).toInt = (((w.1 0 12).toInt + 1) + 1) from z85)
            have q87_15 : (u86.1 0 15).toInt = (w.1 0 15).toInt := congrArg Int32.toInt (fr87.2.1 15 (by decide))
            have q87_22 : (u86.1 0 22).toInt = (w.1 0 22).toInt := congrArg Int32.toInt (fr87.2.1 22 (by decide))
            have q87_27 : (u86.1 0 27).toInt = (w.1 0 27).toInt := congrArg Int32.toInt (fr87.2.1 27 (by decide))
            have q87_28 : (u86.1 0 28).toInt = (w.1 0 28).toInt := congrArg Int32.toInt (fr87.2.1 28 (by decide))
            have q87_30 : (u86.1 0 30).toInt = (w.1 0 30).toInt := congrArg Int32.toInt (fr87.2.1 30 (by decide))
            have q87_31 : (u86.1 0 31).toInt = (w.1 0 31).toInt := congrArg Int32.toInt (fr87.2.1 31 (by decide))
            have q87_32 : (u86.1 0 32).toInt = ((w.1 0 32).toInt - na.toInt) := by rw [hu87]; exact (show ((w.1 0 32) - na).toInt = ((w.1 0 32).toInt - na.toInt) from z58)
            have q87_33 : (u86.1 0 33).toInt = (w.1 0 33).toInt := congrArg Int32.toInt (fr87.2.1 33 (by decide))
            have q87_34 : (u86.1 0 34).toInt = (w.1 0 34).toInt := congrArg Int32.toInt (fr87.2.1 34 (by decide))
            have q87_39 : (u86.1 0 39).toInt = (w.1 0 39).toInt := congrArg Int32.toInt (fr87.2.1 39 (by decide))
            have q87_43 : (u86.1 0 43).toInt = (w.1 0 43).toInt := congrArg Int32.toInt (fr87.2.1 43 (by decide))
            have q87_47 : (u86.1 0 47).toInt = ((w.1 0 47).toInt + 1) := by rw [hu87]; exact (show ((w.1 0 47) + (1 : Int32)).toInt = ((w.1 0 47).toInt + 1) from z56)
            have q87_48 : (u86.1 0 48).toInt = ((w.1 0 48).toInt - 1) := by rw [hu87]; exact (show ((w.1 0 48) - (1 : Int32)).toInt = ((w.1 0 48).toInt - 1) from z57)
            have q87_49 : (u86.1 0 49).toInt = (w.1 0 49).toInt := congrArg Int32.toInt (fr87.2.1 49 (by decide))
            have q87_52 : (u86.1 0 52).toInt = (w.1 0 52).toInt := congrArg Int32.toInt (fr87.2.1 52 (by decide))
            have kc87 : ∀ j : Nat, (j : Int) < (w.1 0 12).toInt → (u86.1 11) j = (w.1 11) j := by rw [hu87]; exact (fun (j9 : Nat) hj9 => (Eq.trans (pk_un (by have := cl_z (a := ((w.1 0 12) + (1 : Int32)).toInt) rfl (by omega); omega)) (pk_un (by have := cl_z (a := (w.1 0 12).toInt) rfl (by omega); omega))))
            rw [← hu87] at hP hD
            refine va_iast (D := (dC, dI)) (f := (u86.1 37)) hx hb hK hP hD hS 24 0 rfl rfl (in_z (a := (v.1 0 39).toInt) rfl (by omega) (by omega)) dX13_call_223 (fun H locs hP hD hS => ?_)
            have hP := cP_ (ma_37 ad N cI cZ cJ u86 ((v.1 0 39).toNatClampNeg) ((w.1 0 12) + (1 : Int32))) hP
            have hD := cD_ (ma_37 ad N cI cZ cJ u86 ((v.1 0 39).toNatClampNeg) ((w.1 0 12) + (1 : Int32))) hD
            refine lv_aload_n hx hb dX13_call_224 rfl (lv_at hl 4 rfl) ?_
            refine va_get (D := (dC, dI)) (ci := 16) (fs := mF ad (wA u86 37 ((v.1 0 39).toNatClampNeg) ((w.1 0 12) + (1 : Int32)))) (v := .ref (ad 38)) (C := RX13) (T := TX13) (N := 124) hx hb ht itX13 hown hK hP 0 rfl rfl 38 (by decide) (ht _ tw_109) (fun _ h9 => h9) rfl dX13_call_225 ?_
            refine lv_iload_n hx hb dX13_call_228 rfl (lv_at hl 3 rfl) ?_
            refine lv_aload_n hx hb dX13_call_229 rfl (lv_at hl 4 rfl) ?_
            refine lv_bipush (v := 14) hx hb dX13_call_230 (by decide) ?_
            refine lv_iconst (v := 0) hx hb dX13_call_232 (by decide) ?_
            refine cu_i (rn_V (n := 2) (As := [.int 14, .int 0]) (rest := [.int (v.1 0 39), .ref (ad 38)]) hx hb hml hown ht hKK hFx hP hD hS hA (c_m_say l dC dI cI cB cZ cJ cR tb H.size ad N (wA u86 37 ((v.1 0 39).toNatClampNeg) ((w.1 0 12) + (1 : Int32))) (14 : Int32) (0 : Int32) (show 0 ≤ (u86.1 0 15).toInt ∧ (u86.1 0 15).toInt < 16000 by omega)) tw_59 tw_60 (by decide +kernel) rfl rfl ⟨by show 0 + 1 ≤ 40 * n + 7; omega, by show 8 + (3 + 11) + 0 ≤ 28 * (40 * n + 7); omega⟩ (List.range (mW ad N cI cZ cJ (wA u86 37 ((v.1 0 39).toNatClampNeg) ((w.1 0 12) + (1 : Int32)))).length) (rg_map _) (mW_nd _ _ _ _ _ _) rfl rfl rfl rfl hl.1 rfl (Nat.le_of_ble_eq_true rfl) dX13_call_233 ⟨Nat.le_of_ble_eq_true rfl, Nat.le_of_ble_eq_true rfl⟩) hP hD hS hA (fun r90 u89 H locs hw88 hP hD hS => ?_)
            obtain ⟨rfl, rfl⟩ := hw88
            have z91 : ((u86.1 0 15) + (1 : Int32)).toInt = (u86.1 0 15).toInt + 1 := add_z rfl (show (1 : Int32).toInt = 1 by decide) (by omega) (by omega)
            have hP : va_P (dC, dI) vwCl (mW ad N cI cZ cJ (wA (wA (wA (wA u86 37 ((v.1 0 39).toNatClampNeg) ((w.1 0 12) + (1 : Int32))) 13 ((u86.1 0 15).toNatClampNeg) (14 : Int32)) 14 ((u86.1 0 15).toNatClampNeg) (0 : Int32)) 0 15 ((u86.1 0 15) + (1 : Int32)))) H := hP
            have hD : va_D A (mW ad N cI cZ cJ (wA (wA (wA (wA u86 37 ((v.1 0 39).toNatClampNeg) ((w.1 0 12) + (1 : Int32))) 13 ((u86.1 0 15).toNatClampNeg) (14 : Int32)) 14 ((u86.1 0 15).toNatClampNeg) (0 : Int32)) 0 15 ((u86.1 0 15) + (1 : Int32)))) := hD
            refine tp_i (y := (u86.1 0 15)) (rfl) ?_
            refine W.widen (k := 0) (n := 0) (by omega) (by omega) ?_
            refine va_iast (D := (dC, dI)) (f := (u86.1 38)) hx hb hK hP hD hS 25 0 rfl rfl (in_z (a := (v.1 0 39).toInt) rfl (by omega) (by omega)) dX13_call_236 (fun H locs hP hD hS => ?_)
            have hP := cP_ (ma_38 ad N cI cZ cJ (wA (wA (wA (wA u86 37 ((v.1 0 39).toNatClampNeg) ((w.1 0 12) + (1 : Int32))) 13 ((u86.1 0 15).toNatClampNeg) (14 : Int32)) 14 ((u86.1 0 15).toNatClampNeg) (0 : Int32)) 0 15 ((u86.1 0 15) + (1 : Int32))) ((v.1 0 39).toNatClampNeg) (u86.1 0 15)) hP
            have hD := cD_ (ma_38 ad N cI cZ cJ (wA (wA (wA (wA u86 37 ((v.1 0 39).toNatClampNeg) ((w.1 0 12) + (1 : Int32))) 13 ((u86.1 0 15).toNatClampNeg) (14 : Int32)) 14 ((u86.1 0 15).toNatClampNeg) (0 : Int32)) 0 15 ((u86.1 0 15) + (1 : Int32))) ((v.1 0 39).toNatClampNeg) (u86.1 0 15)) hD
            refine vx_ret ?_
            exact W.vret hx hb hr (fun t ht9 hW => ⟨⟨(wA (wA (wA (wA (wA u86 37 ((v.1 0 39).toNatClampNeg) ((w.1 0 12) + (1 : Int32))) 13 ((u86.1 0 15).toNatClampNeg) (14 : Int32)) 14 ((u86.1 0 15).toNatClampNeg) (0 : Int32)) 0 15 ((u86.1 0 15) + (1 : Int32))) 38 ((v.1 0 39).toNatClampNeg) (u86.1 0 15)), rfl, ⟨(FG.a (FG.f (FG.a (FG.a (FG.a (FG.tr (FG.tr (FG.rf _) (FG.up fw (by decide) (by decide))) (FG.up fr87 (by decide) (by decide))) ((v.1 0 39).toNatClampNeg) ((w.1 0 12) + (1 : Int32)) (by decide) (by decide)) ((u86.1 0 15).toNatClampNeg) (14 : Int32) (by decide) (by decide)) ((u86.1 0 15).toNatClampNeg) (0 : Int32) (by decide) (by decide)) ((u86.1 0 15) + (1 : Int32)) (by decide)) ((v.1 0 39).toNatClampNeg) (u86.1 0 15) (by decide) (by decide)), (show (v.1 0 47).toInt + 1 ≤ (u86.1 0 47).toInt ∧ (u86.1 0 47).toInt ≤ 1500 by omega), (show (v.1 0 49).toInt ≠ (v.1 0 47).toInt by omega), (show (v.1 0 12).toInt ≤ (u86.1 0 12).toInt ∧ (u86.1 0 12).toInt - 15 * (u86.1 0 47).toInt ≤ (v.1 0 12).toInt - 15 * (v.1 0 47).toInt by omega), (show (v.1 0 15).toInt ≤ ((u86.1 0 15) + (1 : Int32)).toInt ∧ ((u86.1 0 15) + (1 : Int32)).toInt - 10 * (u86.1 0 47).toInt ≤ (v.1 0 15).toInt - 10 * (v.1 0 47).toInt by omega), (show (v.1 0 43).toInt ≤ (u86.1 0 43).toInt ∧ (u86.1 0 43).toInt - 15 * (u86.1 0 47).toInt ≤ (v.1 0 43).toInt - 15 * (v.1 0 47).toInt by omega), (show (v.1 0 39).toInt ≤ (u86.1 0 39).toInt ∧ (u86.1 0 39).toInt - 1 * (u86.1 0 47).toInt ≤ (v.1 0 39).toInt - 1 * (v.1 0 47).toInt by omega), (show (u86.1 0 32).toInt = (v.1 0 32).toInt ∧ (u86.1 0 48).toInt = (v.1 0 48).toInt by omega), (show (v.1 0 33).toInt ≤ (u86.1 0 33).toInt ∧ (u86.1 0 33).toInt ≤ 500 by omega), (fun (j9 : Nat) hj9 => (Eq.trans (kc87 j9 (by omega)) (kc j9 (by omega)))), (fun (j9 : Nat) hj9 => (Eq.trans (pk_un (by have := cl_z (a := (u86.1 0 15).toInt) rfl (by omega); omega)) (Eq.trans (congrFun (fr87.2.2 13 (by decide)) j9) (ko j9 (by omega))))), (fun (j9 : Nat) hj9 => (Eq.trans (pk_un (by have := cl_z (a := (u86.1 0 15).toInt) rfl (by omega); omega)) (Eq.trans (congrFun (fr87.2.2 14 (by decide)) j9) (kg j9 (by omega))))), (show NI 35 u86 from NI.fr (fl := [12, 32, 47, 48]) (al := [0, 11, 36]) fr87 (by decide) n35)⟩, by rw [ht9]; exact hP, hD⟩, hS.F ht9⟩) hS.2.2 dX13_call_237
        · have z92 : mo.toInt ≠ 0 := ne_z rfl (show (0 : Int32).toInt = 0 by decide) h51
          refine lv_iload_n hx hb dX13_call_96 rfl (lv_at hl 2 rfl) ?_
          refine lv_bipush (v := 8) hx hb dX13_call_97 (by decide) ?_
          refine lv_icmp_ne (tgt := 110) hx hb dX13_call_99 (by decide) (fun h93 => ?_) (fun h93 => ?_)
          · have z94 : na.toInt ≠ 8 := ne_z rfl (show (8 : Int32).toInt = 8 by decide) h93
            refine lv_aload_n hx hb dX13_call_110 rfl (lv_at hl 4 rfl) ?_
            refine lv_iconst (v := 1) hx hb dX13_call_111 (by decide) ?_
            refine cu_i (rn_V (n := 1) (As := [.int 1]) (rest := []) hx hb hml hown ht hKK hFx hP hD hS hA (c_m_slots l dC dI cI cB cZ cJ cR tb H.size ad N w (1 : Int32) (show 0 ≤ (w.1 0 30).toInt ∧ (w.1 0 30).toInt ≤ 500 by omega) (show 0 ≤ (w.1 0 32).toInt ∧ (w.1 0 32).toInt ≤ 2000 by omega) (show 0 ≤ (w.1 0 33).toInt ∧ (w.1 0 33).toInt ≤ 500 by omega) (show 0 ≤ 1 ∧ 1 ≤ 8 by omega)) tw_88 tw_89 (by decide +kernel) rfl rfl ⟨by show 0 + 1 ≤ 40 * n + 7; omega, by show 8 + (3 + 11) + 0 ≤ 28 * (40 * n + 7); omega⟩ (List.range (mW ad N cI cZ cJ w).length) (rg_map _) (mW_nd _ _ _ _ _ _) rfl rfl rfl rfl hl.1 rfl (Nat.le_of_ble_eq_true rfl) dX13_call_112 ⟨Nat.le_of_ble_eq_true rfl, Nat.le_of_ble_eq_true rfl⟩) hP hD hS hA (fun r97 u96 H locs hw95 hP hD hS => ?_)
            obtain ⟨fr95, sr95, sb95, sh95⟩ := hw95
            have q95_2 : (u96.1 0 2).toInt = (w.1 0 2).toInt := congrArg Int32.toInt ((fr95.2.1 2 (by decide)).trans (show w.1 0 2 = (w.1 0 2) by rfl))
            have q95_4 : (u96.1 0 4).toInt = (w.1 0 4).toInt := congrArg Int32.toInt ((fr95.2.1 4 (by decide)).trans (show w.1 0 4 = (w.1 0 4) by rfl))
            have q95_5 : (u96.1 0 5).toInt = (w.1 0 5).toInt := congrArg Int32.toInt ((fr95.2.1 5 (by decide)).trans (show w.1 0 5 = (w.1 0 5) by rfl))
            have q95_12 : (u96.1 0 12).toInt = (w.1 0 12).toInt := congrArg Int32.toInt ((fr95.2.1 12 (by decide)).trans (show w.1 0 12 = (w.1 0 12) by rfl))
            have q95_15 : (u96.1 0 15).toInt = (w.1 0 15).toInt := congrArg Int32.toInt ((fr95.2.1 15 (by decide)).trans (show w.1 0 15 = (w.1 0 15) by rfl))
            have q95_22 : (u96.1 0 22).toInt = (w.1 0 22).toInt := congrArg Int32.toInt ((fr95.2.1 22 (by decide)).trans (show w.1 0 22 = (w.1 0 22) by rfl))
            have q95_27 : (u96.1 0 27).toInt = (w.1 0 27).toInt := congrArg Int32.toInt ((fr95.2.1 27 (by decide)).trans (show w.1 0 27 = (w.1 0 27) by rfl))
            have q95_28 : (u96.1 0 28).toInt = (w.1 0 28).toInt := congrArg Int32.toInt ((fr95.2.1 28 (by decide)).trans (show w.1 0 28 = (w.1 0 28) by rfl))
            have q95_30 : (u96.1 0 30).toInt = (w.1 0 30).toInt := congrArg Int32.toInt ((fr95.2.1 30 (by decide)).trans (show w.1 0 30 = (w.1 0 30) by rfl))
            have q95_31 : (u96.1 0 31).toInt = (w.1 0 31).toInt := congrArg Int32.toInt ((fr95.2.1 31 (by decide)).trans (show w.1 0 31 = (w.1 0 31) by rfl))
            have q95_32 : (u96.1 0 32).toInt = (w.1 0 32).toInt := congrArg Int32.toInt ((fr95.2.1 32 (by decide)).trans (show w.1 0 32 = (w.1 0 32) by rfl))
            have q95_34 : (u96.1 0 34).toInt = (w.1 0 34).toInt := congrArg Int32.toInt ((fr95.2.1 34 (by decide)).trans (show w.1 0 34 = (w.1 0 34) by rfl))
            have q95_39 : (u96.1 0 39).toInt = (w.1 0 39).toInt := congrArg Int32.toInt ((fr95.2.1 39 (by decide)).trans (show w.1 0 39 = (w.1 0 39) by rfl))
            have q95_43 : (u96.1 0 43).toInt = (w.1 0 43).toInt := congrArg Int32.toInt ((fr95.2.1 43 (by decide)).trans (show w.1 0 43 = (w.1 0 43) by rfl))
            have q95_47 : (u96.1 0 47).toInt = (w.1 0 47).toInt := congrArg Int32.toInt ((fr95.2.1 47 (by decide)).trans (show w.1 0 47 = (w.1 0 47) by rfl))
            have q95_48 : (u96.1 0 48).toInt = (w.1 0 48).toInt := congrArg Int32.toInt ((fr95.2.1 48 (by decide)).trans (show w.1 0 48 = (w.1 0 48) by rfl))
            have q95_52 : (u96.1 0 52).toInt = (w.1 0 52).toInt := congrArg Int32.toInt ((fr95.2.1 52 (by decide)).trans (show w.1 0 52 = (w.1 0 52) by rfl))
            have sr95 : r97.toInt = (w.1 0 30).toInt + (w.1 0 32).toInt := sr95
            have sb95 : ((w.1 0 30).toInt + (w.1 0 32).toInt + 1 ≤ (u96.1 0 33).toInt ∧ (u96.1 0 49).toInt = (w.1 0 49).toInt) ∨ (u96.1 0 49).toInt = (w.1 0 47).toInt := sb95
            have sh95 : (w.1 0 33).toInt ≤ (u96.1 0 33).toInt ∧ (u96.1 0 33).toInt ≤ 500 := sh95
            refine W.widen (k := 0) (n := 0) (by omega) (by omega) ?_
            refine lv_istore (lv' := [(5, .int r97), (4, .int mo), (3, .int ((v.1 0 30) + (v.1 0 32))), (2, .int na), (1, .int (v.1 0 39)), (0, .ref (ad 0))]) hx hb dX13_call_115 hl (by decide) rfl (fun ls hl => ?_)
            refine lv_aload_n hx hb dX13_call_117 rfl (lv_at hl 5 rfl) ?_
            obtain ⟨n98, hn99⟩ : ∃ m, n = m + 1 := ⟨n - 1, by omega⟩
            refine cux_v (rx_V (n := 0) (As := []) (rest := []) hx hb hml hown ht hKK hFx hP hD hS hA (ihE n98 hn99 dC dI cI cB cZ cJ cR tb H.size ad N u96  (show 40 ≤ (u96.1 0 48).toInt + (n98 : Int) by omega) (show 0 ≤ (u96.1 0 47).toInt ∧ (u96.1 0 47).toInt ≤ 1500 by omega) (show 0 ≤ (u96.1 0 48).toInt ∧ (u96.1 0 48).toInt ≤ 40 by omega) (show 0 ≤ (u96.1 0 30).toInt ∧ (u96.1 0 30).toInt ≤ 500 by omega) (show 0 ≤ (u96.1 0 33).toInt ∧ (u96.1 0 33).toInt ≤ 500 by omega) (show 0 ≤ (u96.1 0 32).toInt ∧ (u96.1 0 30).toInt + (u96.1 0 32).toInt ≤ 500 by omega) (show 0 ≤ (u96.1 0 12).toInt ∧ (u96.1 0 12).toInt ≤ 15 * (u96.1 0 47).toInt + 2 by omega) (show 0 ≤ (u96.1 0 15).toInt ∧ (u96.1 0 15).toInt ≤ 10 * (u96.1 0 47).toInt + 0 by omega) (show 0 ≤ (u96.1 0 43).toInt ∧ (u96.1 0 43).toInt ≤ 15 * (u96.1 0 47).toInt + 0 by omega) (show 0 ≤ (u96.1 0 39).toInt ∧ (u96.1 0 39).toInt ≤ 1 * (u96.1 0 47).toInt + 0 by omega) (show 0 ≤ (u96.1 0 27).toInt ∧ (u96.1 0 27).toInt ≤ 60 by omega) (FG.ti (fl := pfl) (al := pal) (FG.tr (FG.tr (FG.rf _) (FG.up fw (by decide) (by decide))) (FG.up fr95 (by decide) (by decide))) (by decide) (by decide) hT) ((show NI 29 u96 from NI.fr (fl := [33, 49]) (al := [0]) fr95 (by decide) (show NI 29 w from NI.fr (fl := [12, 15, 32, 33, 39, 43, 44, 45, 47, 48, 49, 50, 51]) (al := [0, 11, 13, 14, 35, 36, 37, 38, 40, 41, 42]) fw (by decide) n29))) ((show NI 23 u96 from NI.fr (fl := [33, 49]) (al := [0]) fr95 (by decide) (show NI 23 w from NI.fr (fl := [12, 15, 32, 33, 39, 43, 44, 45, 47, 48, 49, 50, 51]) (al := [0, 11, 13, 14, 35, 36, 37, 38, 40, 41, 42]) fw (by decide) n23))) ((show NI 35 u96 from NI.fr (fl := [33, 49]) (al := [0]) fr95 (by decide) n35))) tw_80 tw_81 (by decide +kernel) rfl rfl ⟨by show (40 * n98 + 36) + 1 ≤ 40 * n + 7; omega, by show 8 + (1 + 11) + 28 * (40 * n98 + 36) ≤ 28 * (40 * n + 7); omega⟩ (List.range (mW ad N cI cZ cJ u96).length) (rg_map _) (mW_nd _ _ _ _ _ _) rfl rfl rfl rfl hl.1 rfl (Nat.le_of_ble_eq_true rfl) dX13_call_118 ⟨Nat.le_of_ble_eq_true rfl, Nat.le_of_ble_eq_true rfl⟩) hP hD hS hA (fun u9 ce9 q9 H locs hx9 hP hD hS hc9 hv9 hf9 => ?_) (fun u101 H locs hw100 hP hD hS => ?_)
            · exact vx_out (fun x h9 => (hnt x h9).elim) hlocks hc9 hv9 hf9 (fun t9 ht9 hv8 => ⟨u9, (FG.tr (FG.tr (FG.tr (FG.rf _) (FG.up fw (by decide) (by decide))) (FG.up fr95 (by decide) (by decide))) hx9), ⟨rfl, by rw [ht9]; exact hP, hD⟩, hS.F ht9⟩) hS.2.2 (by omega) (by omega)
            obtain ⟨fr100, pt100, pb100, pw100, po100, pf100, pk100, pp100, ph100, kc100, ko100, kg100, n35100⟩ := hw100
            have q100_2 : (u101.1 0 2).toInt = (u96.1 0 2).toInt := congrArg Int32.toInt ((fr100.2.1 2 (by decide)).trans (show u96.1 0 2 = (u96.1 0 2) by rfl))
            have q100_4 : (u101.1 0 4).toInt = (u96.1 0 4).toInt := congrArg Int32.toInt ((fr100.2.1 4 (by decide)).trans (show u96.1 0 4 = (u96.1 0 4) by rfl))
            have q100_5 : (u101.1 0 5).toInt = (u96.1 0 5).toInt := congrArg Int32.toInt ((fr100.2.1 5 (by decide)).trans (show u96.1 0 5 = (u96.1 0 5) by rfl))
            have q100_22 : (u101.1 0 22).toInt = (u96.1 0 22).toInt := congrArg Int32.toInt ((fr100.2.1 22 (by decide)).trans (show u96.1 0 22 = (u96.1 0 22) by rfl))
            have q100_27 : (u101.1 0 27).toInt = (u96.1 0 27).toInt := congrArg Int32.toInt ((fr100.2.1 27 (by decide)).trans (show u96.1 0 27 = (u96.1 0 27) by rfl))
            have q100_28 : (u101.1 0 28).toInt = (u96.1 0 28).toInt := congrArg Int32.toInt ((fr100.2.1 28 (by decide)).trans (show u96.1 0 28 = (u96.1 0 28) by rfl))
            have q100_30 : (u101.1 0 30).toInt = (u96.1 0 30).toInt := congrArg Int32.toInt ((fr100.2.1 30 (by decide)).trans (show u96.1 0 30 = (u96.1 0 30) by rfl))
            have q100_31 : (u101.1 0 31).toInt = (u96.1 0 31).toInt := congrArg Int32.toInt ((fr100.2.1 31 (by decide)).trans (show u96.1 0 31 = (u96.1 0 31) by rfl))
            have q100_34 : (u101.1 0 34).toInt = (u96.1 0 34).toInt := congrArg Int32.toInt ((fr100.2.1 34 (by decide)).trans (show u96.1 0 34 = (u96.1 0 34) by rfl))
            have q100_52 : (u101.1 0 52).toInt = (u96.1 0 52).toInt := congrArg Int32.toInt ((fr100.2.1 52 (by decide)).trans (show u96.1 0 52 = (u96.1 0 52) by rfl))
            have pt100 : (u96.1 0 47).toInt + 1 ≤ (u101.1 0 47).toInt ∧ (u101.1 0 47).toInt ≤ 1500 := pt100
            have pb100 : (u96.1 0 49).toInt ≠ (u96.1 0 47).toInt := pb100
            have pw100 : (u96.1 0 12).toInt ≤ (u101.1 0 12).toInt ∧ (u101.1 0 12).toInt - 15 * (u101.1 0 47).toInt ≤ (u96.1 0 12).toInt - 15 * (u96.1 0 47).toInt := pw100
            have po100 : (u96.1 0 15).toInt ≤ (u101.1 0 15).toInt ∧ (u101.1 0 15).toInt - 10 * (u101.1 0 47).toInt ≤ (u96.1 0 15).toInt - 10 * (u96.1 0 47).toInt := po100
            have pf100 : (u96.1 0 43).toInt ≤ (u101.1 0 43).toInt ∧ (u101.1 0 43).toInt - 15 * (u101.1 0 47).toInt ≤ (u96.1 0 43).toInt - 15 * (u96.1 0 47).toInt := pf100
            have pk100 : (u96.1 0 39).toInt ≤ (u101.1 0 39).toInt ∧ (u101.1 0 39).toInt - 1 * (u101.1 0 47).toInt ≤ (u96.1 0 39).toInt - 1 * (u96.1 0 47).toInt := pk100
            have pp100 : (u101.1 0 32).toInt = (u96.1 0 32).toInt ∧ (u101.1 0 48).toInt = (u96.1 0 48).toInt := pp100
            have ph100 : (u96.1 0 33).toInt ≤ (u101.1 0 33).toInt ∧ (u101.1 0 33).toInt ≤ 500 := ph100
            have kc100 : ∀ j : Nat, (j : Int) < (u96.1 0 12).toInt → (u101.1 11) j = (u96.1 11) j := kc100
            have ko100 : ∀ j : Nat, (j : Int) < (u96.1 0 15).toInt → (u101.1 13) j = (u96.1 13) j := ko100
            have kg100 : ∀ j : Nat, (j : Int) < (u96.1 0 15).toInt → (u101.1 14) j = (u96.1 14) j := kg100
            have n35100 : NI 35 u101 := n35100
            refine W.widen (k := 0) (n := 0) (by omega) (by omega) ?_
            refine lv_aload_n hx hb dX13_call_121 rfl (lv_at hl 5 rfl) ?_
            refine lv_bipush (v := 10) hx hb dX13_call_122 (by decide) ?_
            refine lv_iload hx hb dX13_call_124 (lv_at hl 0 rfl) ?_
            refine cu_s (mW_nd _ _ _ _ _ _) (rn_S (n := 1) (As := [.int r97]) (rest := [.int 10, .ref (ad 0)]) hx hb hml hown ht hKK hFx hP hD hS hA (c_m_slotAt l dC dI cI cB cZ cJ cR tb H.size r97 ) tw_74 tw_75 (by decide +kernel) rfl rfl ⟨by show 0 + 1 ≤ 40 * n + 7; omega, by show 8 + (1 + 11) + 0 ≤ 28 * (40 * n + 7); omega⟩ [] rfl rfl rfl hl.1 rfl (Nat.le_of_ble_eq_true rfl) dX13_call_126 ⟨Nat.le_of_ble_eq_true rfl, Nat.le_of_ble_eq_true rfl⟩) hP hD hS hA (fun r105 H locs hw103 hP hD hS => ?_)
            refine W.widen (k := 0) (n := 0) (by omega) (by omega) ?_
            refine lv_bipush (v := 8) hx hb dX13_call_129 (by decide) ?_
            refine cu_s (mW_nd _ _ _ _ _ _) (rn_S (n := 3) (As := [.int 10, .int r105, .int 8]) (rest := [.ref (ad 0)]) hx hb hml hown ht hKK hFx hP hD hS hA (c_m_sw l dC dI cI cB cZ cJ cR tb H.size (10 : Int32) r105 (8 : Int32) ) tw_76 tw_77 (by decide +kernel) rfl rfl ⟨by show 0 + 1 ≤ 40 * n + 7; omega, by show 8 + (3 + 11) + 0 ≤ 28 * (40 * n + 7); omega⟩ [] rfl rfl rfl hl.1 rfl (Nat.le_of_ble_eq_true rfl) dX13_call_131 ⟨Nat.le_of_ble_eq_true rfl, Nat.le_of_ble_eq_true rfl⟩) hP hD hS hA (fun r108 H locs hw106 hP hD hS => ?_)
            refine W.widen (k := 0) (n := 0) (by omega) (by omega) ?_
            refine cu_i (rn_V (n := 1) (As := [.int r108]) (rest := []) hx hb hml hown ht hKK hFx hP hD hS hA (c_m_emit l dC dI cI cB cZ cJ cR tb H.size ad N u101 r108 (show 0 ≤ (u101.1 0 12).toInt ∧ (u101.1 0 12).toInt < 24000 by omega)) tw_8 tw_9 (by decide +kernel) rfl rfl ⟨by show 0 + 1 ≤ 40 * n + 7; omega, by show 8 + (2 + 11) + 0 ≤ 28 * (40 * n + 7); omega⟩ (List.range (mW ad N cI cZ cJ u101).length) (rg_map _) (mW_nd _ _ _ _ _ _) rfl rfl rfl rfl hl.1 rfl (Nat.le_of_ble_eq_true rfl) dX13_call_134 ⟨Nat.le_of_ble_eq_true rfl, Nat.le_of_ble_eq_true rfl⟩) hP hD hS hA (fun r111 u110 H locs hw109 hP hD hS => ?_)
            obtain ⟨rfl, rfl⟩ := hw109
            have z112 : ((u101.1 0 12) + (1 : Int32)).toInt = (u101.1 0 12).toInt + 1 := add_z rfl (show (1 : Int32).toInt = 1 by decide) (by omega) (by omega)
            have hP : va_P (dC, dI) vwCl (mW ad N cI cZ cJ (wA (wA u101 11 ((u101.1 0 12).toNatClampNeg) r108) 0 12 ((u101.1 0 12) + (1 : Int32)))) H := hP
            have hD : va_D A (mW ad N cI cZ cJ (wA (wA u101 11 ((u101.1 0 12).toNatClampNeg) r108) 0 12 ((u101.1 0 12) + (1 : Int32)))) := hD
            refine tp_i (y := (u101.1 0 12)) (rfl) ?_
            refine W.widen (k := 0) (n := 0) (by omega) (by omega) ?_
            refine lv_pop hx hb dX13_call_137 rfl ?_
            refine lv_aload_n hx hb dX13_call_138 rfl (lv_at hl 5 rfl) ?_
            refine lv_dup hx hb dX13_call_139 rfl ?_
            refine va_get (D := (dC, dI)) (ci := 16) (fs := mF ad (wA (wA u101 11 ((u101.1 0 12).toNatClampNeg) r108) 0 12 ((u101.1 0 12) + (1 : Int32)))) (v := .int (u101.1 0 32)) (C := RX13) (T := TX13) (N := 124) hx hb ht itX13 hown hK hP 0 rfl rfl 32 (by decide) (ht _ tw_52) (fun _ h9 => h9) rfl dX13_call_140 ?_
            refine lv_iconst (v := 1) hx hb dX13_call_143 (by decide) ?_
            refine lv_iadd hx hb dX13_call_144 ?_
            have z113 : ((u101.1 0 32) + (1 : Int32)).toInt = (u101.1 0 32).toInt + 1 := add_z rfl (show (1 : Int32).toInt = 1 by decide) (by omega) (by omega)
            refine va_put (D := (dC, dI)) (ci := 16) (fs := mF ad (wA (wA u101 11 ((u101.1 0 12).toNatClampNeg) r108) 0 12 ((u101.1 0 12) + (1 : Int32)))) (v := .int ((u101.1 0 32) + (1 : Int32))) (ty := .int) (C := RX13) (T := TX13) (N := 124) hx hb ht itX13 tyX13 tyX13_ok nmX13 hown hK hP hD hS 0 rfl rfl 32 (by decide) (ht _ tw_52) (fun _ h9 => h9) rfl (by decide +kernel) rfl rfl (Nat.le_of_ble_eq_true rfl) dX13_call_145 (fun H locs hP hD hS => ?_)
            have hP := cP_ (mw_32 ad N cI cZ cJ (wA (wA u101 11 ((u101.1 0 12).toNatClampNeg) r108) 0 12 ((u101.1 0 12) + (1 : Int32))) ((u101.1 0 32) + (1 : Int32))) hP
            have hD := cD_ (mw_32 ad N cI cZ cJ (wA (wA u101 11 ((u101.1 0 12).toNatClampNeg) r108) 0 12 ((u101.1 0 12) + (1 : Int32))) ((u101.1 0 32) + (1 : Int32))) hD
            refine lv_iinc (v := (na + (1 : Int32))) (lv' := [(2, .int (na + (1 : Int32))), (5, .int r97), (4, .int mo), (3, .int ((v.1 0 30) + (v.1 0 32))), (1, .int (v.1 0 39)), (0, .ref (ad 0))]) hx hb dX13_call_148 hl (k := 3) rfl (rfl) (by decide) rfl (fun ls hl => ?_)
            have z114 : (na + (1 : Int32)).toInt = na.toInt + (1) := add_z rfl (show (1 : Int32).toInt = 1 by decide) (by omega) (by omega)
            refine lv_aload_n hx hb dX13_call_151 rfl (lv_at hl 5 rfl) ?_
            refine lv_bipush (v := 44) hx hb dX13_call_152 (by decide) ?_
            refine cu_i (rn_V (n := 1) (As := [.int 44]) (rest := []) hx hb hml hown ht hKK hFx hP hD hS hA (c_m_is l dC dI cI cB cZ cJ cR tb H.size ad N (wA (wA (wA u101 11 ((u101.1 0 12).toNatClampNeg) r108) 0 12 ((u101.1 0 12) + (1 : Int32))) 0 32 ((u101.1 0 32) + (1 : Int32))) (44 : Int32) (show 0 ≤ (u101.1 0 47).toInt ∧ (u101.1 0 47).toInt ≤ 1500 by omega)) tw_34 tw_35 (by decide +kernel) rfl rfl ⟨by show 1 + 1 ≤ 40 * n + 7; omega, by show 8 + (2 + 11) + 22 ≤ 28 * (40 * n + 7); omega⟩ (List.range (mW ad N cI cZ cJ (wA (wA (wA u101 11 ((u101.1 0 12).toNatClampNeg) r108) 0 12 ((u101.1 0 12) + (1 : Int32))) 0 32 ((u101.1 0 32) + (1 : Int32)))).length) (rg_map _) (mW_nd _ _ _ _ _ _) rfl rfl rfl rfl hl.1 rfl (Nat.le_of_ble_eq_true rfl) dX13_call_154 ⟨Nat.le_of_ble_eq_true rfl, Nat.le_of_ble_eq_true rfl⟩) hP hD hS hA (fun r117 u116 H locs hw115 hP hD hS => ?_)
            obtain ⟨rfl, b115⟩ := hw115
            have b115 : (r117 = 0 ∨ r117 = 1) := b115
            refine W.widen (k := 0) (n := 0) (by omega) (by omega) ?_
            refine lv_istore (lv' := [(4, .int r117), (2, .int (na + (1 : Int32))), (5, .int r97), (3, .int ((v.1 0 30) + (v.1 0 32))), (1, .int (v.1 0 39)), (0, .ref (ad 0))]) hx hb dX13_call_157 hl (by decide) rfl (fun ls hl => ?_)
            refine lv_iload hx hb dX13_call_159 (lv_at hl 0 rfl) ?_
            refine lv_if_eq (tgt := 168) hx hb dX13_call_161 (by decide) (fun h118 => ?_) (fun h118 => ?_)
            · have z119 : r117.toInt = 0 := eq_z rfl (show (0 : Int32).toInt = 0 by decide) h118
              refine lv_goto (tgt := 91) hx hb dX13_call_168 (by decide) ?_
              exact ih91 ((na + (1 : Int32)), r117, (wA (wA (wA u101 11 ((u101.1 0 12).toNatClampNeg) r108) 0 12 ((u101.1 0 12) + (1 : Int32))) 0 32 ((u101.1 0 32) + (1 : Int32)))) _ _ _ (by show (1500 - ((wA (wA (wA u101 11 ((u101.1 0 12).toNatClampNeg) r108) 0 12 ((u101.1 0 12) + (1 : Int32))) 0 32 ((u101.1 0 32) + (1 : Int32))).1 0 47).toInt).toNat < (1500 - (w.1 0 47).toInt).toNat; omega) ⟨(show FG [12, 15, 32, 33, 39, 43, 44, 45, 47, 48, 49, 50, 51] [0, 11, 13, 14, 35, 36, 37, 38, 40, 41, 42] v (wA (wA (wA u101 11 ((u101.1 0 12).toNatClampNeg) r108) 0 12 ((u101.1 0 12) + (1 : Int32))) 0 32 ((u101.1 0 32) + (1 : Int32))) from (FG.f (FG.f (FG.a (FG.tr (FG.tr (FG.tr (FG.rf _) (FG.up fw (by decide) (by decide))) (FG.up fr95 (by decide) (by decide))) (FG.up fr100 (by decide) (by decide))) ((u101.1 0 12).toNatClampNeg) r108 (by decide) (by decide)) ((u101.1 0 12) + (1 : Int32)) (by decide)) ((u101.1 0 32) + (1 : Int32)) (by decide))), (show 0 ≤ (na + (1 : Int32)).toInt ∧ (na + (1 : Int32)).toInt ≤ 8 by omega), (show (v.1 0 47).toInt + 2 ≤ (u101.1 0 47).toInt ∧ (u101.1 0 47).toInt ≤ 1500 ∧ (v.1 0 49).toInt ≠ (v.1 0 47).toInt by omega), (show (v.1 0 12).toInt ≤ ((u101.1 0 12) + (1 : Int32)).toInt ∧ ((u101.1 0 12) + (1 : Int32)).toInt - 15 * (u101.1 0 47).toInt + 15 ≤ (v.1 0 12).toInt - 15 * (v.1 0 47).toInt by omega), (show (v.1 0 15).toInt ≤ (u101.1 0 15).toInt ∧ (u101.1 0 15).toInt - 10 * (u101.1 0 47).toInt + 10 ≤ (v.1 0 15).toInt - 10 * (v.1 0 47).toInt by omega), (show (v.1 0 43).toInt ≤ (u101.1 0 43).toInt ∧ (u101.1 0 43).toInt - 15 * (u101.1 0 47).toInt + 0 ≤ (v.1 0 43).toInt - 15 * (v.1 0 47).toInt by omega), (show (v.1 0 39).toInt ≤ (u101.1 0 39).toInt ∧ (u101.1 0 39).toInt - 1 * (u101.1 0 47).toInt + 1 ≤ (v.1 0 39).toInt - 1 * (v.1 0 47).toInt by omega), (show ((u101.1 0 32) + (1 : Int32)).toInt = (v.1 0 32).toInt + (na + (1 : Int32)).toInt ∧ (u101.1 0 48).toInt = (v.1 0 48).toInt + 1 ∧ (v.1 0 30).toInt + ((u101.1 0 32) + (1 : Int32)).toInt ≤ 500 by omega), (show (v.1 0 33).toInt ≤ (u101.1 0 33).toInt ∧ (u101.1 0 33).toInt ≤ 500 by omega), (show ∀ j : Nat, (j : Int) < (v.1 0 12).toInt → (upd (u101.1 11) ((u101.1 0 12).toNatClampNeg) r108) j = (v.1 11) j from (fun (j9 : Nat) hj9 => (Eq.trans (pk_un (by have := cl_z (a := (u101.1 0 12).toInt) rfl (by omega); omega)) (Eq.trans (kc100 j9 (by omega)) (Eq.trans (congrFun (fr95.2.2 11 (by decide)) j9) (kc j9 (by omega))))))), (show ∀ j : Nat, (j : Int) < (v.1 0 15).toInt → (u101.1 13) j = (v.1 13) j from (fun (j9 : Nat) hj9 => (Eq.trans (ko100 j9 (by omega)) (Eq.trans (congrFun (fr95.2.2 13 (by decide)) j9) (ko j9 (by omega)))))), (show ∀ j : Nat, (j : Int) < (v.1 0 15).toInt → (u101.1 14) j = (v.1 14) j from (fun (j9 : Nat) hj9 => (Eq.trans (kg100 j9 (by omega)) (Eq.trans (congrFun (fr95.2.2 14 (by decide)) j9) (kg j9 (by omega)))))), (show NI 35 (wA (wA (wA u101 11 ((u101.1 0 12).toNatClampNeg) r108) 0 12 ((u101.1 0 12) + (1 : Int32))) 0 32 ((u101.1 0 32) + (1 : Int32))) from n35100), hP, hD, hS, lv_sub hl [0, 3, 1, 4, 5] rfl⟩
            · have z120 : r117.toInt ≠ 0 := ne_z rfl (show (0 : Int32).toInt = 0 by decide) h118
              refine lv_aload_n hx hb dX13_call_164 rfl (lv_at hl 5 rfl) ?_
              refine cux_v (rx_V (n := 0) (As := []) (rest := []) hx hb hml hown ht hKK hFx hP hD hS hA (c_m_take l dC dI cI cB cZ cJ cR tb H.size ad N (wA (wA (wA u101 11 ((u101.1 0 12).toNatClampNeg) r108) 0 12 ((u101.1 0 12) + (1 : Int32))) 0 32 ((u101.1 0 32) + (1 : Int32)))  (show 0 ≤ (u101.1 0 47).toInt ∧ (u101.1 0 47).toInt ≤ 1500 by omega)) tw_32 tw_33 (by decide +kernel) rfl rfl ⟨by show 1 + 1 ≤ 40 * n + 7; omega, by show 8 + (1 + 11) + 22 ≤ 28 * (40 * n + 7); omega⟩ (List.range (mW ad N cI cZ cJ (wA (wA (wA u101 11 ((u101.1 0 12).toNatClampNeg) r108) 0 12 ((u101.1 0 12) + (1 : Int32))) 0 32 ((u101.1 0 32) + (1 : Int32)))).length) (rg_map _) (mW_nd _ _ _ _ _ _) rfl rfl rfl rfl hl.1 rfl (Nat.le_of_ble_eq_true rfl) dX13_call_165 ⟨Nat.le_of_ble_eq_true rfl, Nat.le_of_ble_eq_true rfl⟩) hP hD hS hA (fun u9 ce9 q9 H locs hx9 hP hD hS hc9 hv9 hf9 => ?_) (fun u122 H locs hw121 hP hD hS => ?_)
              · exact vx_out (fun x h9 => (hnt x h9).elim) hlocks hc9 hv9 hf9 (fun t9 ht9 hv8 => ⟨u9, (FG.tr (FG.f (FG.f (FG.a (FG.tr (FG.tr (FG.tr (FG.rf _) (FG.up fw (by decide) (by decide))) (FG.up fr95 (by decide) (by decide))) (FG.up fr100 (by decide) (by decide))) ((u101.1 0 12).toNatClampNeg) r108 (by decide) (by decide)) ((u101.1 0 12) + (1 : Int32)) (by decide)) ((u101.1 0 32) + (1 : Int32)) (by decide)) hx9), ⟨rfl, by rw [ht9]; exact hP, hD⟩, hS.F ht9⟩) hS.2.2 (by omega) (by omega)
              obtain ⟨rfl, a121, b121⟩ := hw121
              have z124 : ((u101.1 0 47) + (1 : Int32)).toInt = (u101.1 0 47).toInt + 1 := add_z rfl (show (1 : Int32).toInt = 1 by decide) (by omega) (by omega)
              have hP : va_P (dC, dI) vwCl (mW ad N cI cZ cJ (wA (wA (wA (wA u101 11 ((u101.1 0 12).toNatClampNeg) r108) 0 12 ((u101.1 0 12) + (1 : Int32))) 0 32 ((u101.1 0 32) + (1 : Int32))) 0 47 ((u101.1 0 47) + (1 : Int32)))) H := hP
              have hD : va_D A (mW ad N cI cZ cJ (wA (wA (wA (wA u101 11 ((u101.1 0 12).toNatClampNeg) r108) 0 12 ((u101.1 0 12) + (1 : Int32))) 0 32 ((u101.1 0 32) + (1 : Int32))) 0 47 ((u101.1 0 47) + (1 : Int32)))) := hD
              have a121 : (u101.1 0 47).toInt < 1500 := a121
              have b121 : (u101.1 0 49).toInt ≠ (u101.1 0 47).toInt := b121
              refine W.widen (k := 0) (n := 0) (by omega) (by omega) ?_
              refine lv_goto (tgt := 91) hx hb dX13_call_168 (by decide) ?_
              exact ih91 ((na + (1 : Int32)), r117, (wA (wA (wA (wA u101 11 ((u101.1 0 12).toNatClampNeg) r108) 0 12 ((u101.1 0 12) + (1 : Int32))) 0 32 ((u101.1 0 32) + (1 : Int32))) 0 47 ((u101.1 0 47) + (1 : Int32)))) _ _ _ (by show (1500 - ((wA (wA (wA (wA u101 11 ((u101.1 0 12).toNatClampNeg) r108) 0 12 ((u101.1 0 12) + (1 : Int32))) 0 32 ((u101.1 0 32) + (1 : Int32))) 0 47 ((u101.1 0 47) + (1 : Int32))).1 0 47).toInt).toNat < (1500 - (w.1 0 47).toInt).toNat; omega) ⟨(show FG [12, 15, 32, 33, 39, 43, 44, 45, 47, 48, 49, 50, 51] [0, 11, 13, 14, 35, 36, 37, 38, 40, 41, 42] v (wA (wA (wA (wA u101 11 ((u101.1 0 12).toNatClampNeg) r108) 0 12 ((u101.1 0 12) + (1 : Int32))) 0 32 ((u101.1 0 32) + (1 : Int32))) 0 47 ((u101.1 0 47) + (1 : Int32))) from (FG.f (FG.f (FG.f (FG.a (FG.tr (FG.tr (FG.tr (FG.rf _) (FG.up fw (by decide) (by decide))) (FG.up fr95 (by decide) (by decide))) (FG.up fr100 (by decide) (by decide))) ((u101.1 0 12).toNatClampNeg) r108 (by decide) (by decide)) ((u101.1 0 12) + (1 : Int32)) (by decide)) ((u101.1 0 32) + (1 : Int32)) (by decide)) ((u101.1 0 47) + (1 : Int32)) (by decide))), (show 0 ≤ (na + (1 : Int32)).toInt ∧ (na + (1 : Int32)).toInt ≤ 8 by omega), (show (v.1 0 47).toInt + 2 ≤ ((u101.1 0 47) + (1 : Int32)).toInt ∧ ((u101.1 0 47) + (1 : Int32)).toInt ≤ 1500 ∧ (v.1 0 49).toInt ≠ (v.1 0 47).toInt by omega), (show (v.1 0 12).toInt ≤ ((u101.1 0 12) + (1 : Int32)).toInt ∧ ((u101.1 0 12) + (1 : Int32)).toInt - 15 * ((u101.1 0 47) + (1 : Int32)).toInt + 15 ≤ (v.1 0 12).toInt - 15 * (v.1 0 47).toInt by omega), (show (v.1 0 15).toInt ≤ (u101.1 0 15).toInt ∧ (u101.1 0 15).toInt - 10 * ((u101.1 0 47) + (1 : Int32)).toInt + 10 ≤ (v.1 0 15).toInt - 10 * (v.1 0 47).toInt by omega), (show (v.1 0 43).toInt ≤ (u101.1 0 43).toInt ∧ (u101.1 0 43).toInt - 15 * ((u101.1 0 47) + (1 : Int32)).toInt + 0 ≤ (v.1 0 43).toInt - 15 * (v.1 0 47).toInt by omega), (show (v.1 0 39).toInt ≤ (u101.1 0 39).toInt ∧ (u101.1 0 39).toInt - 1 * ((u101.1 0 47) + (1 : Int32)).toInt + 1 ≤ (v.1 0 39).toInt - 1 * (v.1 0 47).toInt by omega), (show ((u101.1 0 32) + (1 : Int32)).toInt = (v.1 0 32).toInt + (na + (1 : Int32)).toInt ∧ (u101.1 0 48).toInt = (v.1 0 48).toInt + 1 ∧ (v.1 0 30).toInt + ((u101.1 0 32) + (1 : Int32)).toInt ≤ 500 by omega), (show (v.1 0 33).toInt ≤ (u101.1 0 33).toInt ∧ (u101.1 0 33).toInt ≤ 500 by omega), (show ∀ j : Nat, (j : Int) < (v.1 0 12).toInt → (upd (u101.1 11) ((u101.1 0 12).toNatClampNeg) r108) j = (v.1 11) j from (fun (j9 : Nat) hj9 => (Eq.trans (pk_un (by have := cl_z (a := (u101.1 0 12).toInt) rfl (by omega); omega)) (Eq.trans (kc100 j9 (by omega)) (Eq.trans (congrFun (fr95.2.2 11 (by decide)) j9) (kc j9 (by omega))))))), (show ∀ j : Nat, (j : Int) < (v.1 0 15).toInt → (u101.1 13) j = (v.1 13) j from (fun (j9 : Nat) hj9 => (Eq.trans (ko100 j9 (by omega)) (Eq.trans (congrFun (fr95.2.2 13 (by decide)) j9) (ko j9 (by omega)))))), (show ∀ j : Nat, (j : Int) < (v.1 0 15).toInt → (u101.1 14) j = (v.1 14) j from (fun (j9 : Nat) hj9 => (Eq.trans (kg100 j9 (by omega)) (Eq.trans (congrFun (fr95.2.2 14 (by decide)) j9) (kg j9 (by omega)))))), (show NI 35 (wA (wA (wA (wA u101 11 ((u101.1 0 12).toNatClampNeg) r108) 0 12 ((u101.1 0 12) + (1 : Int32))) 0 32 ((u101.1 0 32) + (1 : Int32))) 0 47 ((u101.1 0 47) + (1 : Int32))) from n35100), hP, hD, hS, lv_sub hl [0, 3, 1, 4, 5] rfl⟩
          · have z125 : na.toInt = 8 := eq_z rfl (show (8 : Int32).toInt = 8 by decide) h93
            refine lv_aload_n hx hb dX13_call_102 rfl (lv_at hl 4 rfl) ?_
            refine lv_aload_n hx hb dX13_call_103 rfl (lv_at hl 4 rfl) ?_
            refine va_get (D := (dC, dI)) (ci := 16) (fs := mF ad w) (v := .int (w.1 0 47)) (C := RX13) (T := TX13) (N := 124) hx hb ht itX13 hown hK hP 0 rfl rfl 47 (by decide) (ht _ tw_24) (fun _ h9 => h9) rfl dX13_call_104 ?_
            refine va_put (D := (dC, dI)) (ci := 16) (fs := mF ad w) (v := .int (w.1 0 47)) (ty := .int) (C := RX13) (T := TX13) (N := 124) hx hb ht itX13 tyX13 tyX13_ok nmX13 hown hK hP hD hS 0 rfl rfl 49 (by decide) (ht _ tw_30) (fun _ h9 => h9) rfl (by decide +kernel) rfl rfl (Nat.le_of_ble_eq_true rfl) dX13_call_107 (fun H locs hP hD hS => ?_)
            have hP := cP_ (mw_49 ad N cI cZ cJ w (w.1 0 47)) hP
            have hD := cD_ (mw_49 ad N cI cZ cJ w (w.1 0 47)) hD
            refine lv_aload_n hx hb dX13_call_110 rfl (lv_at hl 4 rfl) ?_
            refine lv_iconst (v := 1) hx hb dX13_call_111 (by decide) ?_
            refine cu_i (rn_V (n := 1) (As := [.int 1]) (rest := []) hx hb hml hown ht hKK hFx hP hD hS hA (c_m_slots l dC dI cI cB cZ cJ cR tb H.size ad N (wA w 0 49 (w.1 0 47)) (1 : Int32) (show 0 ≤ (w.1 0 30).toInt ∧ (w.1 0 30).toInt ≤ 500 by omega) (show 0 ≤ (w.1 0 32).toInt ∧ (w.1 0 32).toInt ≤ 2000 by omega) (show 0 ≤ (w.1 0 33).toInt ∧ (w.1 0 33).toInt ≤ 500 by omega) (show 0 ≤ 1 ∧ 1 ≤ 8 by omega)) tw_88 tw_89 (by decide +kernel) rfl rfl ⟨by show 0 + 1 ≤ 40 * n + 7; omega, by show 8 + (3 + 11) + 0 ≤ 28 * (40 * n + 7); omega⟩ (List.range (mW ad N cI cZ cJ (wA w 0 49 (w.1 0 47))).length) (rg_map _) (mW_nd _ _ _ _ _ _) rfl rfl rfl rfl hl.1 rfl (Nat.le_of_ble_eq_true rfl) dX13_call_112 ⟨Nat.le_of_ble_eq_true rfl, Nat.le_of_ble_eq_true rfl⟩) hP hD hS hA (fun r128 u127 H locs hw126 hP hD hS => ?_)
            obtain ⟨fr126, sr126, sb126, sh126⟩ := hw126
            have q126_2 : (u127.1 0 2).toInt = (w.1 0 2).toInt := congrArg Int32.toInt ((fr126.2.1 2 (by decide)).trans (show (wA w 0 49 (w.1 0 47)).1 0 2 = (w.1 0 2) by rfl))
            have q126_4 : (u127.1 0 4).toInt = (w.1 0 4).toInt := congrArg Int32.toInt ((fr126.2.1 4 (by decide)).trans (show (wA w 0 49 (w.1 0 47)).1 0 4 = (w.1 0 4) by rfl))
            have q126_5 : (u127.1 0 5).toInt = (w.1 0 5).toInt := congrArg Int32.toInt ((fr126.2.1 5 (by decide)).trans (show (wA w 0 49 (w.1 0 47)).1 0 5 = (w.1 0 5) by rfl))
            have q126_12 : (u127.1 0 12).toInt = (w.1 0 12).toInt := congrArg Int32.toInt ((fr126.2.1 12 (by decide)).trans (show (wA w 0 49 (w.1 0 47)).1 0 12 = (w.1 0 12) by rfl))
            have q126_15 : (u127.1 0 15).toInt = (w.1 0 15).toInt := congrArg Int32.toInt ((fr126.2.1 15 (by decide)).trans (show (wA w 0 49 (w.1 0 47)).1 0 15 = (w.1 0 15) by rfl))
            have q126_22 : (u127.1 0 22).toInt = (w.1 0 22).toInt := congrArg Int32.toInt ((fr126.2.1 22 (by decide)).trans (show (wA w 0 49 (w.1 0 47)).1 0 22 = (w.1 0 22) by rfl))
            have q126_27 : (u127.1 0 27).toInt = (w.1 0 27).toInt := congrArg Int32.toInt ((fr126.2.1 27 (by decide)).trans (show (wA w 0 49 (w.1 0 47)).1 0 27 = (w.1 0 27) by rfl))
            have q126_28 : (u127.1 0 28).toInt = (w.1 0 28).toInt := congrArg Int32.toInt ((fr126.2.1 28 (by decide)).trans (show (wA w 0 49 (w.1 0 47)).1 0 28 = (w.1 0 28) by rfl))
            have q126_30 : (u127.1 0 30).toInt = (w.1 0 30).toInt := congrArg Int32.toInt ((fr126.2.1 30 (by decide)).trans (show (wA w 0 49 (w.1 0 47)).1 0 30 = (w.1 0 30) by rfl))
            have q126_31 : (u127.1 0 31).toInt = (w.1 0 31).toInt := congrArg Int32.toInt ((fr126.2.1 31 (by decide)).trans (show (wA w 0 49 (w.1 0 47)).1 0 31 = (w.1 0 31) by rfl))
            have q126_32 : (u127.1 0 32).toInt = (w.1 0 32).toInt := congrArg Int32.toInt ((fr126.2.1 32 (by decide)).trans (show (wA w 0 49 (w.1 0 47)).1 0 32 = (w.1 0 32) by rfl))
            have q126_34 : (u127.1 0 34).toInt = (w.1 0 34).toInt := congrArg Int32.toInt ((fr126.2.1 34 (by decide)).trans (show (wA w 0 49 (w.1 0 47)).1 0 34 = (w.1 0 34) by rfl))
            have q126_39 : (u127.1 0 39).toInt = (w.1 0 39).toInt := congrArg Int32.toInt ((fr126.2.1 39 (by decide)).trans (show (wA w 0 49 (w.1 0 47)).1 0 39 = (w.1 0 39) by rfl))
            have q126_43 : (u127.1 0 43).toInt = (w.1 0 43).toInt := congrArg Int32.toInt ((fr126.2.1 43 (by decide)).trans (show (wA w 0 49 (w.1 0 47)).1 0 43 = (w.1 0 43) by rfl))
            have q126_47 : (u127.1 0 47).toInt = (w.1 0 47).toInt := congrArg Int32.toInt ((fr126.2.1 47 (by decide)).trans (show (wA w 0 49 (w.1 0 47)).1 0 47 = (w.1 0 47) by rfl))
            have q126_48 : (u127.1 0 48).toInt = (w.1 0 48).toInt := congrArg Int32.toInt ((fr126.2.1 48 (by decide)).trans (show (wA w 0 49 (w.1 0 47)).1 0 48 = (w.1 0 48) by rfl))
            have q126_52 : (u127.1 0 52).toInt = (w.1 0 52).toInt := congrArg Int32.toInt ((fr126.2.1 52 (by decide)).trans (show (wA w 0 49 (w.1 0 47)).1 0 52 = (w.1 0 52) by rfl))
            have sr126 : r128.toInt = (w.1 0 30).toInt + (w.1 0 32).toInt := sr126
            have sb126 : ((w.1 0 30).toInt + (w.1 0 32).toInt + 1 ≤ (u127.1 0 33).toInt ∧ (u127.1 0 49).toInt = (w.1 0 47).toInt) ∨ (u127.1 0 49).toInt = (w.1 0 47).toInt := sb126
            have sh126 : (w.1 0 33).toInt ≤ (u127.1 0 33).toInt ∧ (u127.1 0 33).toInt ≤ 500 := sh126
            refine W.widen (k := 0) (n := 0) (by omega) (by omega) ?_
            refine lv_istore (lv' := [(5, .int r128), (4, .int mo), (3, .int ((v.1 0 30) + (v.1 0 32))), (2, .int na), (1, .int (v.1 0 39)), (0, .ref (ad 0))]) hx hb dX13_call_115 hl (by decide) rfl (fun ls hl => ?_)
            refine lv_aload_n hx hb dX13_call_117 rfl (lv_at hl 5 rfl) ?_
            obtain ⟨n129, hn130⟩ : ∃ m, n = m + 1 := ⟨n - 1, by omega⟩
            refine cux_v (rx_V (n := 0) (As := []) (rest := []) hx hb hml hown ht hKK hFx hP hD hS hA (ihE n129 hn130 dC dI cI cB cZ cJ cR tb H.size ad N u127  (show 40 ≤ (u127.1 0 48).toInt + (n129 : Int) by omega) (show 0 ≤ (u127.1 0 47).toInt ∧ (u127.1 0 47).toInt ≤ 1500 by omega) (show 0 ≤ (u127.1 0 48).toInt ∧ (u127.1 0 48).toInt ≤ 40 by omega) (show 0 ≤ (u127.1 0 30).toInt ∧ (u127.1 0 30).toInt ≤ 500 by omega) (show 0 ≤ (u127.1 0 33).toInt ∧ (u127.1 0 33).toInt ≤ 500 by omega) (show 0 ≤ (u127.1 0 32).toInt ∧ (u127.1 0 30).toInt + (u127.1 0 32).toInt ≤ 500 by omega) (show 0 ≤ (u127.1 0 12).toInt ∧ (u127.1 0 12).toInt ≤ 15 * (u127.1 0 47).toInt + 2 by omega) (show 0 ≤ (u127.1 0 15).toInt ∧ (u127.1 0 15).toInt ≤ 10 * (u127.1 0 47).toInt + 0 by omega) (show 0 ≤ (u127.1 0 43).toInt ∧ (u127.1 0 43).toInt ≤ 15 * (u127.1 0 47).toInt + 0 by omega) (show 0 ≤ (u127.1 0 39).toInt ∧ (u127.1 0 39).toInt ≤ 1 * (u127.1 0 47).toInt + 0 by omega) (show 0 ≤ (u127.1 0 27).toInt ∧ (u127.1 0 27).toInt ≤ 60 by omega) (FG.ti (fl := pfl) (al := pal) (FG.tr (FG.f (FG.tr (FG.rf _) (FG.up fw (by decide) (by decide))) (w.1 0 47) (by decide)) (FG.up fr126 (by decide) (by decide))) (by decide) (by decide) hT) ((show NI 29 u127 from NI.fr (fl := [33, 49]) (al := [0]) fr126 (by decide) (show NI 29 w from NI.fr (fl := [12, 15, 32, 33, 39, 43, 44, 45, 47, 48, 49, 50, 51]) (al := [0, 11, 13, 14, 35, 36, 37, 38, 40, 41, 42]) fw (by decide) n29))) ((show NI 23 u127 from NI.fr (fl := [33, 49]) (al := [0]) fr126 (by decide) (show NI 23 w from NI.fr (fl := [12, 15, 32, 33, 39, 43, 44, 45, 47, 48, 49, 50, 51]) (al := [0, 11, 13, 14, 35, 36, 37, 38, 40, 41, 42]) fw (by decide) n23))) ((show NI 35 u127 from NI.fr (fl := [33, 49]) (al := [0]) fr126 (by decide) n35))) tw_80 tw_81 (by decide +kernel) rfl rfl ⟨by show (40 * n129 + 36) + 1 ≤ 40 * n + 7; omega, by show 8 + (1 + 11) + 28 * (40 * n129 + 36) ≤ 28 * (40 * n + 7); omega⟩ (List.range (mW ad N cI cZ cJ u127).length) (rg_map _) (mW_nd _ _ _ _ _ _) rfl rfl rfl rfl hl.1 rfl (Nat.le_of_ble_eq_true rfl) dX13_call_118 ⟨Nat.le_of_ble_eq_true rfl, Nat.le_of_ble_eq_true rfl⟩) hP hD hS hA (fun u9 ce9 q9 H locs hx9 hP hD hS hc9 hv9 hf9 => ?_) (fun u132 H locs hw131 hP hD hS => ?_)
            · exact vx_out (fun x h9 => (hnt x h9).elim) hlocks hc9 hv9 hf9 (fun t9 ht9 hv8 => ⟨u9, (FG.tr (FG.tr (FG.f (FG.tr (FG.rf _) (FG.up fw (by decide) (by decide))) (w.1 0 47) (by decide)) (FG.up fr126 (by decide) (by decide))) hx9), ⟨rfl, by rw [ht9]; exact hP, hD⟩, hS.F ht9⟩) hS.2.2 (by omega) (by omega)
            obtain ⟨fr131, pt131, pb131, pw131, po131, pf131, pk131, pp131, ph131, kc131, ko131, kg131, n35131⟩ := hw131
            have q131_2 : (u132.1 0 2).toInt = (u127.1 0 2).toInt := congrArg Int32.toInt ((fr131.2.1 2 (by decide)).trans (show u127.1 0 2 = (u127.1 0 2) by rfl))
            have q131_4 : (u132.1 0 4).toInt = (u127.1 0 4).toInt := congrArg Int32.toInt ((fr131.2.1 4 (by decide)).trans (show u127.1 0 4 = (u127.1 0 4) by rfl))
            have q131_5 : (u132.1 0 5).toInt = (u127.1 0 5).toInt := congrArg Int32.toInt ((fr131.2.1 5 (by decide)).trans (show u127.1 0 5 = (u127.1 0 5) by rfl))
            have q131_22 : (u132.1 0 22).toInt = (u127.1 0 22).toInt := congrArg Int32.toInt ((fr131.2.1 22 (by decide)).trans (show u127.1 0 22 = (u127.1 0 22) by rfl))
            have q131_27 : (u132.1 0 27).toInt = (u127.1 0 27).toInt := congrArg Int32.toInt ((fr131.2.1 27 (by decide)).trans (show u127.1 0 27 = (u127.1 0 27) by rfl))
            have q131_28 : (u132.1 0 28).toInt = (u127.1 0 28).toInt := congrArg Int32.toInt ((fr131.2.1 28 (by decide)).trans (show u127.1 0 28 = (u127.1 0 28) by rfl))
            have q131_30 : (u132.1 0 30).toInt = (u127.1 0 30).toInt := congrArg Int32.toInt ((fr131.2.1 30 (by decide)).trans (show u127.1 0 30 = (u127.1 0 30) by rfl))
            have q131_31 : (u132.1 0 31).toInt = (u127.1 0 31).toInt := congrArg Int32.toInt ((fr131.2.1 31 (by decide)).trans (show u127.1 0 31 = (u127.1 0 31) by rfl))
            have q131_34 : (u132.1 0 34).toInt = (u127.1 0 34).toInt := congrArg Int32.toInt ((fr131.2.1 34 (by decide)).trans (show u127.1 0 34 = (u127.1 0 34) by rfl))
            have q131_52 : (u132.1 0 52).toInt = (u127.1 0 52).toInt := congrArg Int32.toInt ((fr131.2.1 52 (by decide)).trans (show u127.1 0 52 = (u127.1 0 52) by rfl))
            have pt131 : (u127.1 0 47).toInt + 1 ≤ (u132.1 0 47).toInt ∧ (u132.1 0 47).toInt ≤ 1500 := pt131
            have pb131 : (u127.1 0 49).toInt ≠ (u127.1 0 47).toInt := pb131
            have pw131 : (u127.1 0 12).toInt ≤ (u132.1 0 12).toInt ∧ (u132.1 0 12).toInt - 15 * (u132.1 0 47).toInt ≤ (u127.1 0 12).toInt - 15 * (u127.1 0 47).toInt := pw131
            have po131 : (u127.1 0 15).toInt ≤ (u132.1 0 15).toInt ∧ (u132.1 0 15).toInt - 10 * (u132.1 0 47).toInt ≤ (u127.1 0 15).toInt - 10 * (u127.1 0 47).toInt := po131
            have pf131 : (u127.1 0 43).toInt ≤ (u132.1 0 43).toInt ∧ (u132.1 0 43).toInt - 15 * (u132.1 0 47).toInt ≤ (u127.1 0 43).toInt - 15 * (u127.1 0 47).toInt := pf131
            have pk131 : (u127.1 0 39).toInt ≤ (u132.1 0 39).toInt ∧ (u132.1 0 39).toInt - 1 * (u132.1 0 47).toInt ≤ (u127.1 0 39).toInt - 1 * (u127.1 0 47).toInt := pk131
            have pp131 : (u132.1 0 32).toInt = (u127.1 0 32).toInt ∧ (u132.1 0 48).toInt = (u127.1 0 48).toInt := pp131
            have ph131 : (u127.1 0 33).toInt ≤ (u132.1 0 33).toInt ∧ (u132.1 0 33).toInt ≤ 500 := ph131
            have kc131 : ∀ j : Nat, (j : Int) < (u127.1 0 12).toInt → (u132.1 11) j = (u127.1 11) j := kc131
            have ko131 : ∀ j : Nat, (j : Int) < (u127.1 0 15).toInt → (u132.1 13) j = (u127.1 13) j := ko131
            have kg131 : ∀ j : Nat, (j : Int) < (u127.1 0 15).toInt → (u132.1 14) j = (u127.1 14) j := kg131
            have n35131 : NI 35 u132 := n35131
            refine W.widen (k := 0) (n := 0) (by omega) (by omega) ?_
            refine lv_aload_n hx hb dX13_call_121 rfl (lv_at hl 5 rfl) ?_
            refine lv_bipush (v := 10) hx hb dX13_call_122 (by decide) ?_
            refine lv_iload hx hb dX13_call_124 (lv_at hl 0 rfl) ?_
            refine cu_s (mW_nd _ _ _ _ _ _) (rn_S (n := 1) (As := [.int r128]) (rest := [.int 10, .ref (ad 0)]) hx hb hml hown ht hKK hFx hP hD hS hA (c_m_slotAt l dC dI cI cB cZ cJ cR tb H.size r128 ) tw_74 tw_75 (by decide +kernel) rfl rfl ⟨by show 0 + 1 ≤ 40 * n + 7; omega, by show 8 + (1 + 11) + 0 ≤ 28 * (40 * n + 7); omega⟩ [] rfl rfl rfl hl.1 rfl (Nat.le_of_ble_eq_true rfl) dX13_call_126 ⟨Nat.le_of_ble_eq_true rfl, Nat.le_of_ble_eq_true rfl⟩) hP hD hS hA (fun r136 H locs hw134 hP hD hS => ?_)
            refine W.widen (k := 0) (n := 0) (by omega) (by omega) ?_
            refine lv_bipush (v := 8) hx hb dX13_call_129 (by decide) ?_
            refine cu_s (mW_nd _ _ _ _ _ _) (rn_S (n := 3) (As := [.int 10, .int r136, .int 8]) (rest := [.ref (ad 0)]) hx hb hml hown ht hKK hFx hP hD hS hA (c_m_sw l dC dI cI cB cZ cJ cR tb H.size (10 : Int32) r136 (8 : Int32) ) tw_76 tw_77 (by decide +kernel) rfl rfl ⟨by show 0 + 1 ≤ 40 * n + 7; omega, by show 8 + (3 + 11) + 0 ≤ 28 * (40 * n + 7); omega⟩ [] rfl rfl rfl hl.1 rfl (Nat.le_of_ble_eq_true rfl) dX13_call_131 ⟨Nat.le_of_ble_eq_true rfl, Nat.le_of_ble_eq_true rfl⟩) hP hD hS hA (fun r139 H locs hw137 hP hD hS => ?_)
            refine W.widen (k := 0) (n := 0) (by omega) (by omega) ?_
            refine cu_i (rn_V (n := 1) (As := [.int r139]) (rest := []) hx hb hml hown ht hKK hFx hP hD hS hA (c_m_emit l dC dI cI cB cZ cJ cR tb H.size ad N u132 r139 (show 0 ≤ (u132.1 0 12).toInt ∧ (u132.1 0 12).toInt < 24000 by omega)) tw_8 tw_9 (by decide +kernel) rfl rfl ⟨by show 0 + 1 ≤ 40 * n + 7; omega, by show 8 + (2 + 11) + 0 ≤ 28 * (40 * n + 7); omega⟩ (List.range (mW ad N cI cZ cJ u132).length) (rg_map _) (mW_nd _ _ _ _ _ _) rfl rfl rfl rfl hl.1 rfl (Nat.le_of_ble_eq_true rfl) dX13_call_134 ⟨Nat.le_of_ble_eq_true rfl, Nat.le_of_ble_eq_true rfl⟩) hP hD hS hA (fun r142 u141 H locs hw140 hP hD hS => ?_)
            obtain ⟨rfl, rfl⟩ := hw140
            have z143 : ((u132.1 0 12) + (1 : Int32)).toInt = (u132.1 0 12).toInt + 1 := add_z rfl (show (1 : Int32).toInt = 1 by decide) (by omega) (by omega)
            have hP : va_P (dC, dI) vwCl (mW ad N cI cZ cJ (wA (wA u132 11 ((u132.1 0 12).toNatClampNeg) r139) 0 12 ((u132.1 0 12) + (1 : Int32)))) H := hP
            have hD : va_D A (mW ad N cI cZ cJ (wA (wA u132 11 ((u132.1 0 12).toNatClampNeg) r139) 0 12 ((u132.1 0 12) + (1 : Int32)))) := hD
            refine tp_i (y := (u132.1 0 12)) (rfl) ?_
            refine W.widen (k := 0) (n := 0) (by omega) (by omega) ?_
            refine lv_pop hx hb dX13_call_137 rfl ?_
            refine lv_aload_n hx hb dX13_call_138 rfl (lv_at hl 5 rfl) ?_
            refine lv_dup hx hb dX13_call_139 rfl ?_
            refine va_get (D := (dC, dI)) (ci := 16) (fs := mF ad (wA (wA u132 11 ((u132.1 0 12).toNatClampNeg) r139) 0 12 ((u132.1 0 12) + (1 : Int32)))) (v := .int (u132.1 0 32)) (C := RX13) (T := TX13) (N := 124) hx hb ht itX13 hown hK hP 0 rfl rfl 32 (by decide) (ht _ tw_52) (fun _ h9 => h9) rfl dX13_call_140 ?_
            refine lv_iconst (v := 1) hx hb dX13_call_143 (by decide) ?_
            refine lv_iadd hx hb dX13_call_144 ?_
            have z144 : ((u132.1 0 32) + (1 : Int32)).toInt = (u132.1 0 32).toInt + 1 := add_z rfl (show (1 : Int32).toInt = 1 by decide) (by omega) (by omega)
            refine va_put (D := (dC, dI)) (ci := 16) (fs := mF ad (wA (wA u132 11 ((u132.1 0 12).toNatClampNeg) r139) 0 12 ((u132.1 0 12) + (1 : Int32)))) (v := .int ((u132.1 0 32) + (1 : Int32))) (ty := .int) (C := RX13) (T := TX13) (N := 124) hx hb ht itX13 tyX13 tyX13_ok nmX13 hown hK hP hD hS 0 rfl rfl 32 (by decide) (ht _ tw_52) (fun _ h9 => h9) rfl (by decide +kernel) rfl rfl (Nat.le_of_ble_eq_true rfl) dX13_call_145 (fun H locs hP hD hS => ?_)
            have hP := cP_ (mw_32 ad N cI cZ cJ (wA (wA u132 11 ((u132.1 0 12).toNatClampNeg) r139) 0 12 ((u132.1 0 12) + (1 : Int32))) ((u132.1 0 32) + (1 : Int32))) hP
            have hD := cD_ (mw_32 ad N cI cZ cJ (wA (wA u132 11 ((u132.1 0 12).toNatClampNeg) r139) 0 12 ((u132.1 0 12) + (1 : Int32))) ((u132.1 0 32) + (1 : Int32))) hD
            refine lv_iinc (v := (na + (1 : Int32))) (lv' := [(2, .int (na + (1 : Int32))), (5, .int r128), (4, .int mo), (3, .int ((v.1 0 30) + (v.1 0 32))), (1, .int (v.1 0 39)), (0, .ref (ad 0))]) hx hb dX13_call_148 hl (k := 3) rfl (rfl) (by decide) rfl (fun ls hl => ?_)
            have z145 : (na + (1 : Int32)).toInt = na.toInt + (1) := add_z rfl (show (1 : Int32).toInt = 1 by decide) (by omega) (by omega)
            refine lv_aload_n hx hb dX13_call_151 rfl (lv_at hl 5 rfl) ?_
            refine lv_bipush (v := 44) hx hb dX13_call_152 (by decide) ?_
            refine cu_i (rn_V (n := 1) (As := [.int 44]) (rest := []) hx hb hml hown ht hKK hFx hP hD hS hA (c_m_is l dC dI cI cB cZ cJ cR tb H.size ad N (wA (wA (wA u132 11 ((u132.1 0 12).toNatClampNeg) r139) 0 12 ((u132.1 0 12) + (1 : Int32))) 0 32 ((u132.1 0 32) + (1 : Int32))) (44 : Int32) (show 0 ≤ (u132.1 0 47).toInt ∧ (u132.1 0 47).toInt ≤ 1500 by omega)) tw_34 tw_35 (by decide +kernel) rfl rfl ⟨by show 1 + 1 ≤ 40 * n + 7; omega, by show 8 + (2 + 11) + 22 ≤ 28 * (40 * n + 7); omega⟩ (List.range (mW ad N cI cZ cJ (wA (wA (wA u132 11 ((u132.1 0 12).toNatClampNeg) r139) 0 12 ((u132.1 0 12) + (1 : Int32))) 0 32 ((u132.1 0 32) + (1 : Int32)))).length) (rg_map _) (mW_nd _ _ _ _ _ _) rfl rfl rfl rfl hl.1 rfl (Nat.le_of_ble_eq_true rfl) dX13_call_154 ⟨Nat.le_of_ble_eq_true rfl, Nat.le_of_ble_eq_true rfl⟩) hP hD hS hA (fun r148 u147 H locs hw146 hP hD hS => ?_)
            obtain ⟨rfl, b146⟩ := hw146
            have b146 : (r148 = 0 ∨ r148 = 1) := b146
            refine W.widen (k := 0) (n := 0) (by omega) (by omega) ?_
            refine lv_istore (lv' := [(4, .int r148), (2, .int (na + (1 : Int32))), (5, .int r128), (3, .int ((v.1 0 30) + (v.1 0 32))), (1, .int (v.1 0 39)), (0, .ref (ad 0))]) hx hb dX13_call_157 hl (by decide) rfl (fun ls hl => ?_)
            refine lv_iload hx hb dX13_call_159 (lv_at hl 0 rfl) ?_
            refine lv_if_eq (tgt := 168) hx hb dX13_call_161 (by decide) (fun h149 => ?_) (fun h149 => ?_)
            · have z150 : r148.toInt = 0 := eq_z rfl (show (0 : Int32).toInt = 0 by decide) h149
              refine lv_goto (tgt := 91) hx hb dX13_call_168 (by decide) ?_
              exact ih91 ((na + (1 : Int32)), r148, (wA (wA (wA u132 11 ((u132.1 0 12).toNatClampNeg) r139) 0 12 ((u132.1 0 12) + (1 : Int32))) 0 32 ((u132.1 0 32) + (1 : Int32)))) _ _ _ (by show (1500 - ((wA (wA (wA u132 11 ((u132.1 0 12).toNatClampNeg) r139) 0 12 ((u132.1 0 12) + (1 : Int32))) 0 32 ((u132.1 0 32) + (1 : Int32))).1 0 47).toInt).toNat < (1500 - (w.1 0 47).toInt).toNat; omega) ⟨(show FG [12, 15, 32, 33, 39, 43, 44, 45, 47, 48, 49, 50, 51] [0, 11, 13, 14, 35, 36, 37, 38, 40, 41, 42] v (wA (wA (wA u132 11 ((u132.1 0 12).toNatClampNeg) r139) 0 12 ((u132.1 0 12) + (1 : Int32))) 0 32 ((u132.1 0 32) + (1 : Int32))) from (FG.f (FG.f (FG.a (FG.tr (FG.tr (FG.f (FG.tr (FG.rf _) (FG.up fw (by decide) (by decide))) (w.1 0 47) (by decide)) (FG.up fr126 (by decide) (by decide))) (FG.up fr131 (by decide) (by decide))) ((u132.1 0 12).toNatClampNeg) r139 (by decide) (by decide)) ((u132.1 0 12) + (1 : Int32)) (by decide)) ((u132.1 0 32) + (1 : Int32)) (by decide))), (show 0 ≤ (na + (1 : Int32)).toInt ∧ (na + (1 : Int32)).toInt ≤ 8 by omega), (show (v.1 0 47).toInt + 2 ≤ (u132.1 0 47).toInt ∧ (u132.1 0 47).toInt ≤ 1500 ∧ (v.1 0 49).toInt ≠ (v.1 0 47).toInt by omega), (show (v.1 0 12).toInt ≤ ((u132.1 0 12) + (1 : Int32)).toInt ∧ ((u132.1 0 12) + (1 : Int32)).toInt - 15 * (u132.1 0 47).toInt + 15 ≤ (v.1 0 12).toInt - 15 * (v.1 0 47).toInt by omega), (show (v.1 0 15).toInt ≤ (u132.1 0 15).toInt ∧ (u132.1 0 15).toInt - 10 * (u132.1 0 47).toInt + 10 ≤ (v.1 0 15).toInt - 10 * (v.1 0 47).toInt by omega), (show (v.1 0 43).toInt ≤ (u132.1 0 43).toInt ∧ (u132.1 0 43).toInt - 15 * (u132.1 0 47).toInt + 0 ≤ (v.1 0 43).toInt - 15 * (v.1 0 47).toInt by omega), (show (v.1 0 39).toInt ≤ (u132.1 0 39).toInt ∧ (u132.1 0 39).toInt - 1 * (u132.1 0 47).toInt + 1 ≤ (v.1 0 39).toInt - 1 * (v.1 0 47).toInt by omega), (show ((u132.1 0 32) + (1 : Int32)).toInt = (v.1 0 32).toInt + (na + (1 : Int32)).toInt ∧ (u132.1 0 48).toInt = (v.1 0 48).toInt + 1 ∧ (v.1 0 30).toInt + ((u132.1 0 32) + (1 : Int32)).toInt ≤ 500 by omega), (show (v.1 0 33).toInt ≤ (u132.1 0 33).toInt ∧ (u132.1 0 33).toInt ≤ 500 by omega), (show ∀ j : Nat, (j : Int) < (v.1 0 12).toInt → (upd (u132.1 11) ((u132.1 0 12).toNatClampNeg) r139) j = (v.1 11) j from (fun (j9 : Nat) hj9 => (Eq.trans (pk_un (by have := cl_z (a := (u132.1 0 12).toInt) rfl (by omega); omega)) (Eq.trans (kc131 j9 (by omega)) (Eq.trans (congrFun (fr126.2.2 11 (by decide)) j9) (kc j9 (by omega))))))), (show ∀ j : Nat, (j : Int) < (v.1 0 15).toInt → (u132.1 13) j = (v.1 13) j from (fun (j9 : Nat) hj9 => (Eq.trans (ko131 j9 (by omega)) (Eq.trans (congrFun (fr126.2.2 13 (by decide)) j9) (ko j9 (by omega)))))), (show ∀ j : Nat, (j : Int) < (v.1 0 15).toInt → (u132.1 14) j = (v.1 14) j from (fun (j9 : Nat) hj9 => (Eq.trans (kg131 j9 (by omega)) (Eq.trans (congrFun (fr126.2.2 14 (by decide)) j9) (kg j9 (by omega)))))), (show NI 35 (wA (wA (wA u132 11 ((u132.1 0 12).toNatClampNeg) r139) 0 12 ((u132.1 0 12) + (1 : Int32))) 0 32 ((u132.1 0 32) + (1 : Int32))) from n35131), hP, hD, hS, lv_sub hl [0, 3, 1, 4, 5] rfl⟩
            · have z151 : r148.toInt ≠ 0 := ne_z rfl (show (0 : Int32).toInt = 0 by decide) h149
              refine lv_aload_n hx hb dX13_call_164 rfl (lv_at hl 5 rfl) ?_
              refine cux_v (rx_V (n := 0) (As := []) (rest := []) hx hb hml hown ht hKK hFx hP hD hS hA (c_m_take l dC dI cI cB cZ cJ cR tb H.size ad N (wA (wA (wA u132 11 ((u132.1 0 12).toNatClampNeg) r139) 0 12 ((u132.1 0 12) + (1 : Int32))) 0 32 ((u132.1 0 32) + (1 : Int32)))  (show 0 ≤ (u132.1 0 47).toInt ∧ (u132.1 0 47).toInt ≤ 1500 by omega)) tw_32 tw_33 (by decide +kernel) rfl rfl ⟨by show 1 + 1 ≤ 40 * n + 7; omega, by show 8 + (1 + 11) + 22 ≤ 28 * (40 * n + 7); omega⟩ (List.range (mW ad N cI cZ cJ (wA (wA (wA u132 11 ((u132.1 0 12).toNatClampNeg) r139) 0 12 ((u132.1 0 12) + (1 : Int32))) 0 32 ((u132.1 0 32) + (1 : Int32)))).length) (rg_map _) (mW_nd _ _ _ _ _ _) rfl rfl rfl rfl hl.1 rfl (Nat.le_of_ble_eq_true rfl) dX13_call_165 ⟨Nat.le_of_ble_eq_true rfl, Nat.le_of_ble_eq_true rfl⟩) hP hD hS hA (fun u9 ce9 q9 H locs hx9 hP hD hS hc9 hv9 hf9 => ?_) (fun u153 H locs hw152 hP hD hS => ?_)
              · exact vx_out (fun x h9 => (hnt x h9).elim) hlocks hc9 hv9 hf9 (fun t9 ht9 hv8 => ⟨u9, (FG.tr (FG.f (FG.f (FG.a (FG.tr (FG.tr (FG.f (FG.tr (FG.rf _) (FG.up fw (by decide) (by decide))) (w.1 0 47) (by decide)) (FG.up fr126 (by decide) (by decide))) (FG.up fr131 (by decide) (by decide))) ((u132.1 0 12).toNatClampNeg) r139 (by decide) (by decide)) ((u132.1 0 12) + (1 : Int32)) (by decide)) ((u132.1 0 32) + (1 : Int32)) (by decide)) hx9), ⟨rfl, by rw [ht9]; exact hP, hD⟩, hS.F ht9⟩) hS.2.2 (by omega) (by omega)
              obtain ⟨rfl, a152, b152⟩ := hw152
              have z155 : ((u132.1 0 47) + (1 : Int32)).toInt = (u132.1 0 47).toInt + 1 := add_z rfl (show (1 : Int32).toInt = 1 by decide) (by omega) (by omega)
              have hP : va_P (dC, dI) vwCl (mW ad N cI cZ cJ (wA (wA (wA (wA u132 11 ((u132.1 0 12).toNatClampNeg) r139) 0 12 ((u132.1 0 12) + (1 : Int32))) 0 32 ((u132.1 0 32) + (1 : Int32))) 0 47 ((u132.1 0 47) + (1 : Int32)))) H := hP
              have hD : va_D A (mW ad N cI cZ cJ (wA (wA (wA (wA u132 11 ((u132.1 0 12).toNatClampNeg) r139) 0 12 ((u132.1 0 12) + (1 : Int32))) 0 32 ((u132.1 0 32) + (1 : Int32))) 0 47 ((u132.1 0 47) + (1 : Int32)))) := hD
              have a152 : (u132.1 0 47).toInt < 1500 := a152
              have b152 : (u132.1 0 49).toInt ≠ (u132.1 0 47).toInt := b152
              refine W.widen (k := 0) (n := 0) (by omega) (by omega) ?_
              refine lv_goto (tgt := 91) hx hb dX13_call_168 (by decide) ?_
              exact ih91 ((na + (1 : Int32)), r148, (wA (wA (wA (wA u132 11 ((u132.1 0 12).toNatClampNeg) r139) 0 12 ((u132.1 0 12) + (1 : Int32))) 0 32 ((u132.1 0 32) + (1 : Int32))) 0 47 ((u132.1 0 47) + (1 : Int32)))) _ _ _ (by show (1500 - ((wA (wA (wA (wA u132 11 ((u132.1 0 12).toNatClampNeg) r139) 0 12 ((u132.1 0 12) + (1 : Int32))) 0 32 ((u132.1 0 32) + (1 : Int32))) 0 47 ((u132.1 0 47) + (1 : Int32))).1 0 47).toInt).toNat < (1500 - (w.1 0 47).toInt).toNat; omega) ⟨(show FG [12, 15, 32, 33, 39, 43, 44, 45, 47, 48, 49, 50, 51] [0, 11, 13, 14, 35, 36, 37, 38, 40, 41, 42] v (wA (wA (wA (wA u132 11 ((u132.1 0 12).toNatClampNeg) r139) 0 12 ((u132.1 0 12) + (1 : Int32))) 0 32 ((u132.1 0 32) + (1 : Int32))) 0 47 ((u132.1 0 47) + (1 : Int32))) from (FG.f (FG.f (FG.f (FG.a (FG.tr (FG.tr (FG.f (FG.tr (FG.rf _) (FG.up fw (by decide) (by decide))) (w.1 0 47) (by decide)) (FG.up fr126 (by decide) (by decide))) (FG.up fr131 (by decide) (by decide))) ((u132.1 0 12).toNatClampNeg) r139 (by decide) (by decide)) ((u132.1 0 12) + (1 : Int32)) (by decide)) ((u132.1 0 32) + (1 : Int32)) (by decide)) ((u132.1 0 47) + (1 : Int32)) (by decide))), (show 0 ≤ (na + (1 : Int32)).toInt ∧ (na + (1 : Int32)).toInt ≤ 8 by omega), (show (v.1 0 47).toInt + 2 ≤ ((u132.1 0 47) + (1 : Int32)).toInt ∧ ((u132.1 0 47) + (1 : Int32)).toInt ≤ 1500 ∧ (v.1 0 49).toInt ≠ (v.1 0 47).toInt by omega), (show (v.1 0 12).toInt ≤ ((u132.1 0 12) + (1 : Int32)).toInt ∧ ((u132.1 0 12) + (1 : Int32)).toInt - 15 * ((u132.1 0 47) + (1 : Int32)).toInt + 15 ≤ (v.1 0 12).toInt - 15 * (v.1 0 47).toInt by omega), (show (v.1 0 15).toInt ≤ (u132.1 0 15).toInt ∧ (u132.1 0 15).toInt - 10 * ((u132.1 0 47) + (1 : Int32)).toInt + 10 ≤ (v.1 0 15).toInt - 10 * (v.1 0 47).toInt by omega), (show (v.1 0 43).toInt ≤ (u132.1 0 43).toInt ∧ (u132.1 0 43).toInt - 15 * ((u132.1 0 47) + (1 : Int32)).toInt + 0 ≤ (v.1 0 43).toInt - 15 * (v.1 0 47).toInt by omega), (show (v.1 0 39).toInt ≤ (u132.1 0 39).toInt ∧ (u132.1 0 39).toInt - 1 * ((u132.1 0 47) + (1 : Int32)).toInt + 1 ≤ (v.1 0 39).toInt - 1 * (v.1 0 47).toInt by omega), (show ((u132.1 0 32) + (1 : Int32)).toInt = (v.1 0 32).toInt + (na + (1 : Int32)).toInt ∧ (u132.1 0 48).toInt = (v.1 0 48).toInt + 1 ∧ (v.1 0 30).toInt + ((u132.1 0 32) + (1 : Int32)).toInt ≤ 500 by omega), (show (v.1 0 33).toInt ≤ (u132.1 0 33).toInt ∧ (u132.1 0 33).toInt ≤ 500 by omega), (show ∀ j : Nat, (j : Int) < (v.1 0 12).toInt → (upd (u132.1 11) ((u132.1 0 12).toNatClampNeg) r139) j = (v.1 11) j from (fun (j9 : Nat) hj9 => (Eq.trans (pk_un (by have := cl_z (a := (u132.1 0 12).toInt) rfl (by omega); omega)) (Eq.trans (kc131 j9 (by omega)) (Eq.trans (congrFun (fr126.2.2 11 (by decide)) j9) (kc j9 (by omega))))))), (show ∀ j : Nat, (j : Int) < (v.1 0 15).toInt → (u132.1 13) j = (v.1 13) j from (fun (j9 : Nat) hj9 => (Eq.trans (ko131 j9 (by omega)) (Eq.trans (congrFun (fr126.2.2 13 (by decide)) j9) (ko j9 (by omega)))))), (show ∀ j : Nat, (j : Int) < (v.1 0 15).toInt → (u132.1 14) j = (v.1 14) j from (fun (j9 : Nat) hj9 => (Eq.trans (kg131 j9 (by omega)) (Eq.trans (congrFun (fr126.2.2 14 (by decide)) j9) (kg j9 (by omega)))))), (show NI 35 (wA (wA (wA (wA u132 11 ((u132.1 0 12).toNatClampNeg) r139) 0 12 ((u132.1 0 12) + (1 : Int32))) 0 32 ((u132.1 0 32) + (1 : Int32))) 0 47 ((u132.1 0 47) + (1 : Int32))) from n35131), hP, hD, hS, lv_sub hl [0, 3, 1, 4, 5] rfl⟩
    · have z156 : 0 ≤ r12.toInt := nlt_z rfl (show (0 : Int32).toInt = 0 by decide) h13
      refine lv_aload_n hx hb dX13_call_22 rfl (lv_at hl 0 rfl) ?_
      refine lv_iconst (v := 3) hx hb dX13_call_23 (by decide) ?_
      refine lv_aload_n hx hb dX13_call_24 rfl (lv_at hl 0 rfl) ?_
      refine va_get (D := (dC, dI)) (ci := 16) (fs := mF ad v) (v := .int (v.1 0 47)) (C := RX13) (T := TX13) (N := 124) hx hb ht itX13 hown hK hP 0 rfl rfl 47 (by decide) (ht _ tw_24) (fun _ h9 => h9) rfl dX13_call_25 ?_
      refine cu_r (rn_V (n := 2) (As := [.int 3, .int (v.1 0 47)]) (rest := []) hx hb hml hown ht hKK hFx hP hD hS hA (c_m_fail l dC dI cI cB cZ cJ cR tb H.size ad N v (3 : Int32) (v.1 0 47) (show 0 ≤ (v.1 0 47).toInt ∧ (v.1 0 47).toInt < 4002 by omega)) tw_25 tw_26 (by decide +kernel) rfl rfl ⟨by show 0 + 1 ≤ 40 * n + 7; omega, by show 8 + (3 + 11) + 0 ≤ 28 * (40 * n + 7); omega⟩ (List.range (mW ad N cI cZ cJ v).length) (rg_map _) (mW_nd _ _ _ _ _ _) rfl rfl rfl rfl hl.1 rfl (Nat.le_of_ble_eq_true rfl) dX13_call_28 ⟨Nat.le_of_ble_eq_true rfl, Nat.le_of_ble_eq_true rfl⟩) hP hD hS hA (fun u158 H locs hw157 hP hD hS => ?_)
      obtain rfl := hw157
      have hP : va_P (dC, dI) vwCl (mW ad N cI cZ cJ (wA (wA v 0 50 (3 : Int32)) 0 51 ((v.1 7) (v.1 0 47).toNatClampNeg))) H := hP
      have hD : va_D A (mW ad N cI cZ cJ (wA (wA v 0 50 (3 : Int32)) 0 51 ((v.1 7) (v.1 0 47).toNatClampNeg))) := hD
      refine W.widen (k := 0) (n := 0) (by omega) (by omega) ?_
      obtain ⟨ce9, hc9, hv9, hf9⟩ := halt_at hK hP
      refine um_athrow hx hb dX13_call_31 ?_
      exact vx_out (fun x h9 => (hnt x h9).elim) hlocks hc9 hv9 hf9 (fun t9 ht9 hv8 => ⟨(wA (wA v 0 50 (3 : Int32)) 0 51 ((v.1 7) (v.1 0 47).toNatClampNeg)), (FG.f (FG.f (FG.rf _) (3 : Int32) (by decide)) ((v.1 7) (v.1 0 47).toNatClampNeg) (by decide)), ⟨rfl, by rw [ht9]; exact hP, hD⟩, hS.F ht9⟩) hS.2.2 (by omega) (by omega)
