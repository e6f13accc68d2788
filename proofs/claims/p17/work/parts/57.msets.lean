theorem dX13_sets_0 : decode cX13_sets 0 = .ok (.iload_n 3, 1) := by decide +kernel
theorem dX13_sets_1 : decode cX13_sets 1 = .ok (.ifCond .eq 7, 3) := by decide +kernel
theorem dX13_sets_8 : decode cX13_sets 8 = .ok (.iconst 0, 1) := by decide +kernel
theorem dX13_sets_9 : decode cX13_sets 9 = .ok (.iload 4, 2) := by decide +kernel
theorem dX13_sets_11 : decode cX13_sets 11 = .ok (.ifCond .ne 7, 3) := by decide +kernel
theorem dX13_sets_18 : decode cX13_sets 18 = .ok (.iconst 1, 1) := by decide +kernel
theorem dX13_sets_19 : decode cX13_sets 19 = .ok (.iadd, 1) := by decide +kernel
theorem dX13_sets_20 : decode cX13_sets 20 = .ok (.istore 5, 2) := by decide +kernel
theorem dX13_sets_22 : decode cX13_sets 22 = .ok (.aload_n 0, 1) := by decide +kernel
theorem dX13_sets_23 : decode cX13_sets 23 = .ok (.iload 5, 2) := by decide +kernel
theorem dX13_sets_25 : decode cX13_sets 25 = .ok (.invokevirtual 298, 3) := by decide +kernel
theorem tw_88 : (.code yX13_slots cX13_slots 3 (some .int) : Cond) ∈ tw_W := tw_in (by decide +kernel) (by decide +kernel)
theorem tw_89 : ∀ w ∈ ([.methodLink RX13 298 yX13_slots, .instanceMethod yX13_slots, .selects RX13 yX13_slots yX13_slots, .initialized RX13] : List Cond), w ∈ tw_W := tw_all (by decide +kernel)
theorem dX13_sets_28 : decode cX13_sets 28 = .ok (.istore 6, 2) := by decide +kernel
theorem dX13_sets_30 : decode cX13_sets 30 = .ok (.iload 6, 2) := by decide +kernel
theorem dX13_sets_32 : decode cX13_sets 32 = .ok (.iload_n 3, 1) := by decide +kernel
theorem dX13_sets_33 : decode cX13_sets 33 = .ok (.ifCond .eq 7, 3) := by decide +kernel
theorem dX13_sets_40 : decode cX13_sets 40 = .ok (.iconst 0, 1) := by decide +kernel
theorem dX13_sets_41 : decode cX13_sets 41 = .ok (.iadd, 1) := by decide +kernel
theorem dX13_sets_42 : decode cX13_sets 42 = .ok (.istore 7, 2) := by decide +kernel
theorem dX13_sets_44 : decode cX13_sets 44 = .ok (.aload_n 0, 1) := by decide +kernel
theorem dX13_sets_45 : decode cX13_sets 45 = .ok (.iload 4, 2) := by decide +kernel
theorem dX13_sets_47 : decode cX13_sets 47 = .ok (.invokevirtual 301, 3) := by decide +kernel
theorem tw_90 : (.code yX13_remember cX13_remember 2 none : Cond) ∈ tw_W := tw_in (by decide +kernel) (by decide +kernel)
theorem tw_91 : ∀ w ∈ ([.methodLink RX13 301 yX13_remember, .instanceMethod yX13_remember, .selects RX13 yX13_remember yX13_remember, .initialized RX13] : List Cond), w ∈ tw_W := tw_all (by decide +kernel)
theorem dX13_sets_50 : decode cX13_sets 50 = .ok (.aload_n 0, 1) := by decide +kernel
theorem dX13_sets_51 : decode cX13_sets 51 = .ok (.invokevirtual 165, 3) := by decide +kernel
theorem dX13_sets_54 : decode cX13_sets 54 = .ok (.iload_n 3, 1) := by decide +kernel
theorem dX13_sets_55 : decode cX13_sets 55 = .ok (.ifCond .eq 72, 3) := by decide +kernel
theorem dX13_sets_127 : decode cX13_sets 127 = .ok (.iload 4, 2) := by decide +kernel
theorem dX13_sets_129 : decode cX13_sets 129 = .ok (.ifCond .eq 9, 3) := by decide +kernel
theorem dX13_sets_132 : decode cX13_sets 132 = .ok (.aload_n 0, 1) := by decide +kernel
theorem dX13_sets_133 : decode cX13_sets 133 = .ok (.iload_n 1, 1) := by decide +kernel
theorem dX13_sets_134 : decode cX13_sets 134 = .ok (.iload_n 2, 1) := by decide +kernel
theorem dX13_sets_135 : decode cX13_sets 135 = .ok (.invokevirtual 268, 3) := by decide +kernel
theorem tw_92 : (.code yX13_fetch cX13_fetch 3 none : Cond) ∈ tw_W := tw_in (by decide +kernel) (by decide +kernel)
theorem tw_93 : ∀ w ∈ ([.methodLink RX13 268 yX13_fetch, .instanceMethod yX13_fetch, .selects RX13 yX13_fetch yX13_fetch, .initialized RX13] : List Cond), w ∈ tw_W := tw_all (by decide +kernel)
theorem dX13_sets_138 : decode cX13_sets 138 = .ok (.iload 4, 2) := by decide +kernel
theorem dX13_sets_140 : decode cX13_sets 140 = .ok (.ifCond .eq 20, 3) := by decide +kernel
theorem dX13_sets_143 : decode cX13_sets 143 = .ok (.aload_n 0, 1) := by decide +kernel
theorem dX13_sets_144 : decode cX13_sets 144 = .ok (.bipush 10, 2) := by decide +kernel
theorem dX13_sets_146 : decode cX13_sets 146 = .ok (.iload 7, 2) := by decide +kernel
theorem dX13_sets_148 : decode cX13_sets 148 = .ok (.invokestatic 272, 3) := by decide +kernel
theorem dX13_sets_151 : decode cX13_sets 151 = .ok (.bipush 8, 2) := by decide +kernel
theorem dX13_sets_153 : decode cX13_sets 153 = .ok (.invokestatic 278, 3) := by decide +kernel
theorem dX13_sets_156 : decode cX13_sets 156 = .ok (.invokevirtual 111, 3) := by decide +kernel
theorem dX13_sets_159 : decode cX13_sets 159 = .ok (.pop, 1) := by decide +kernel
theorem dX13_sets_160 : decode cX13_sets 160 = .ok (.aload_n 0, 1) := by decide +kernel
theorem dX13_sets_161 : decode cX13_sets 161 = .ok (.dup, 1) := by decide +kernel
theorem dX13_sets_162 : decode cX13_sets 162 = .ok (.getfield 174, 3) := by decide +kernel
theorem dX13_sets_165 : decode cX13_sets 165 = .ok (.iload 5, 2) := by decide +kernel
theorem dX13_sets_167 : decode cX13_sets 167 = .ok (.iadd, 1) := by decide +kernel
theorem dX13_sets_168 : decode cX13_sets 168 = .ok (.putfield 174, 3) := by decide +kernel
theorem dX13_sets_171 : decode cX13_sets 171 = .ok (.aload_n 0, 1) := by decide +kernel
theorem dX13_sets_172 : decode cX13_sets 172 = .ok (.invokevirtual 284, 3) := by decide +kernel
theorem dX13_sets_175 : decode cX13_sets 175 = .ok (.aload_n 0, 1) := by decide +kernel
theorem dX13_sets_176 : decode cX13_sets 176 = .ok (.dup, 1) := by decide +kernel
theorem dX13_sets_177 : decode cX13_sets 177 = .ok (.getfield 174, 3) := by decide +kernel
theorem dX13_sets_180 : decode cX13_sets 180 = .ok (.iload 5, 2) := by decide +kernel
theorem dX13_sets_182 : decode cX13_sets 182 = .ok (.isub, 1) := by decide +kernel
theorem dX13_sets_183 : decode cX13_sets 183 = .ok (.putfield 174, 3) := by decide +kernel
theorem dX13_sets_186 : decode cX13_sets 186 = .ok (.iload 4, 2) := by decide +kernel
theorem dX13_sets_188 : decode cX13_sets 188 = .ok (.ifCond .eq 25, 3) := by decide +kernel
theorem dX13_sets_191 : decode cX13_sets 191 = .ok (.aload_n 0, 1) := by decide +kernel
theorem dX13_sets_192 : decode cX13_sets 192 = .ok (.iconst 5, 1) := by decide +kernel
theorem dX13_sets_193 : decode cX13_sets 193 = .ok (.iload 7, 2) := by decide +kernel
theorem dX13_sets_195 : decode cX13_sets 195 = .ok (.invokestatic 272, 3) := by decide +kernel
theorem dX13_sets_198 : decode cX13_sets 198 = .ok (.bipush 8, 2) := by decide +kernel
theorem dX13_sets_200 : decode cX13_sets 200 = .ok (.invokestatic 265, 3) := by decide +kernel
theorem dX13_sets_203 : decode cX13_sets 203 = .ok (.invokevirtual 111, 3) := by decide +kernel
theorem dX13_sets_206 : decode cX13_sets 206 = .ok (.pop, 1) := by decide +kernel
theorem dX13_sets_207 : decode cX13_sets 207 = .ok (.aload_n 0, 1) := by decide +kernel
theorem dX13_sets_208 : decode cX13_sets 208 = .ok (.iload 4, 2) := by decide +kernel
theorem dX13_sets_210 : decode cX13_sets 210 = .ok (.invokevirtual 304, 3) := by decide +kernel
theorem tw_94 : (.code yX13_operate cX13_operate 2 none : Cond) ∈ tw_W := tw_in (by decide +kernel) (by decide +kernel)
theorem tw_95 : ∀ w ∈ ([.methodLink RX13 304 yX13_operate, .instanceMethod yX13_operate, .selects RX13 yX13_operate yX13_operate, .initialized RX13] : List Cond), w ∈ tw_W := tw_all (by decide +kernel)
theorem dX13_sets_213 : decode cX13_sets 213 = .ok (.iload_n 3, 1) := by decide +kernel
theorem dX13_sets_214 : decode cX13_sets 214 = .ok (.ifCond .eq 44, 3) := by decide +kernel
theorem dX13_sets_258 : decode cX13_sets 258 = .ok (.aload_n 0, 1) := by decide +kernel
theorem dX13_sets_259 : decode cX13_sets 259 = .ok (.iload_n 1, 1) := by decide +kernel
theorem dX13_sets_260 : decode cX13_sets 260 = .ok (.iload_n 2, 1) := by decide +kernel
theorem dX13_sets_261 : decode cX13_sets 261 = .ok (.invokevirtual 307, 3) := by decide +kernel
theorem tw_96 : (.code yX13_store cX13_store 3 none : Cond) ∈ tw_W := tw_in (by decide +kernel) (by decide +kernel)
theorem tw_97 : ∀ w ∈ ([.methodLink RX13 307 yX13_store, .instanceMethod yX13_store, .selects RX13 yX13_store yX13_store, .initialized RX13] : List Cond), w ∈ tw_W := tw_all (by decide +kernel)
theorem dX13_sets_264 : decode cX13_sets 264 = .ok (.aload_n 0, 1) := by decide +kernel
theorem dX13_sets_265 : decode cX13_sets 265 = .ok (.dup, 1) := by decide +kernel
theorem dX13_sets_266 : decode cX13_sets 266 = .ok (.getfield 151, 3) := by decide +kernel
theorem dX13_sets_269 : decode cX13_sets 269 = .ok (.iconst 1, 1) := by decide +kernel
theorem dX13_sets_270 : decode cX13_sets 270 = .ok (.isub, 1) := by decide +kernel
theorem dX13_sets_271 : decode cX13_sets 271 = .ok (.putfield 151, 3) := by decide +kernel
theorem dX13_sets_274 : decode cX13_sets 274 = .ok (.return_, 1) := by decide +kernel
theorem dX13_sets_14 : decode cX13_sets 14 = .ok (.iconst 0, 1) := by decide +kernel
theorem dX13_sets_15 : decode cX13_sets 15 = .ok (.goto 4, 3) := by decide +kernel
theorem dX13_sets_4 : decode cX13_sets 4 = .ok (.iconst 1, 1) := by decide +kernel
theorem dX13_sets_5 : decode cX13_sets 5 = .ok (.goto 4, 3) := by decide +kernel
theorem dX13_sets_36 : decode cX13_sets 36 = .ok (.iconst 1, 1) := by decide +kernel
theorem dX13_sets_37 : decode cX13_sets 37 = .ok (.goto 4, 3) := by decide +kernel
theorem dX13_sets_58 : decode cX13_sets 58 = .ok (.aload_n 0, 1) := by decide +kernel
theorem dX13_sets_59 : decode cX13_sets 59 = .ok (.aload_n 0, 1) := by decide +kernel
theorem dX13_sets_60 : decode cX13_sets 60 = .ok (.bipush 10, 2) := by decide +kernel
theorem dX13_sets_62 : decode cX13_sets 62 = .ok (.bipush 10, 2) := by decide +kernel
theorem dX13_sets_64 : decode cX13_sets 64 = .ok (.iconst 0, 1) := by decide +kernel
theorem dX13_sets_65 : decode cX13_sets 65 = .ok (.invokestatic 219, 3) := by decide +kernel
theorem dX13_sets_68 : decode cX13_sets 68 = .ok (.invokevirtual 111, 3) := by decide +kernel
theorem dX13_sets_71 : decode cX13_sets 71 = .ok (.iload_n 2, 1) := by decide +kernel
theorem dX13_sets_72 : decode cX13_sets 72 = .ok (.iconst 3, 1) := by decide +kernel
theorem dX13_sets_73 : decode cX13_sets 73 = .ok (.invokevirtual 216, 3) := by decide +kernel
theorem dX13_sets_76 : decode cX13_sets 76 = .ok (.aload_n 0, 1) := by decide +kernel
theorem dX13_sets_77 : decode cX13_sets 77 = .ok (.bipush 10, 2) := by decide +kernel
theorem dX13_sets_79 : decode cX13_sets 79 = .ok (.iload 6, 2) := by decide +kernel
theorem dX13_sets_81 : decode cX13_sets 81 = .ok (.invokestatic 272, 3) := by decide +kernel
theorem dX13_sets_84 : decode cX13_sets 84 = .ok (.bipush 8, 2) := by decide +kernel
theorem dX13_sets_86 : decode cX13_sets 86 = .ok (.invokestatic 278, 3) := by decide +kernel
theorem dX13_sets_89 : decode cX13_sets 89 = .ok (.invokevirtual 111, 3) := by decide +kernel
theorem dX13_sets_92 : decode cX13_sets 92 = .ok (.pop, 1) := by decide +kernel
theorem dX13_sets_93 : decode cX13_sets 93 = .ok (.iload 4, 2) := by decide +kernel
theorem dX13_sets_95 : decode cX13_sets 95 = .ok (.ifCond .eq 16, 3) := by decide +kernel
theorem dX13_sets_98 : decode cX13_sets 98 = .ok (.aload_n 0, 1) := by decide +kernel
theorem dX13_sets_99 : decode cX13_sets 99 = .ok (.bipush 10, 2) := by decide +kernel
theorem dX13_sets_101 : decode cX13_sets 101 = .ok (.iconst 0, 1) := by decide +kernel
theorem dX13_sets_102 : decode cX13_sets 102 = .ok (.bipush 10, 2) := by decide +kernel
theorem dX13_sets_104 : decode cX13_sets 104 = .ok (.invokestatic 265, 3) := by decide +kernel
theorem dX13_sets_107 : decode cX13_sets 107 = .ok (.invokevirtual 111, 3) := by decide +kernel
theorem dX13_sets_110 : decode cX13_sets 110 = .ok (.pop, 1) := by decide +kernel
theorem dX13_sets_111 : decode cX13_sets 111 = .ok (.iload 4, 2) := by decide +kernel
theorem dX13_sets_113 : decode cX13_sets 113 = .ok (.ifCond .eq 25, 3) := by decide +kernel
theorem dX13_sets_116 : decode cX13_sets 116 = .ok (.aload_n 0, 1) := by decide +kernel
theorem dX13_sets_117 : decode cX13_sets 117 = .ok (.bipush 7, 2) := by decide +kernel
theorem dX13_sets_119 : decode cX13_sets 119 = .ok (.iconst 0, 1) := by decide +kernel
theorem dX13_sets_120 : decode cX13_sets 120 = .ok (.invokevirtual 210, 3) := by decide +kernel
theorem dX13_sets_123 : decode cX13_sets 123 = .ok (.pop, 1) := by decide +kernel
theorem dX13_sets_124 : decode cX13_sets 124 = .ok (.goto 14, 3) := by decide +kernel
theorem dX13_sets_217 : decode cX13_sets 217 = .ok (.aload_n 0, 1) := by decide +kernel
theorem dX13_sets_218 : decode cX13_sets 218 = .ok (.bipush 6, 2) := by decide +kernel
theorem dX13_sets_220 : decode cX13_sets 220 = .ok (.iload 6, 2) := by decide +kernel
theorem dX13_sets_222 : decode cX13_sets 222 = .ok (.invokestatic 272, 3) := by decide +kernel
theorem dX13_sets_225 : decode cX13_sets 225 = .ok (.bipush 8, 2) := by decide +kernel
theorem dX13_sets_227 : decode cX13_sets 227 = .ok (.invokestatic 265, 3) := by decide +kernel
theorem dX13_sets_230 : decode cX13_sets 230 = .ok (.invokevirtual 111, 3) := by decide +kernel
theorem dX13_sets_233 : decode cX13_sets 233 = .ok (.pop, 1) := by decide +kernel
theorem dX13_sets_234 : decode cX13_sets 234 = .ok (.aload_n 0, 1) := by decide +kernel
theorem dX13_sets_235 : decode cX13_sets 235 = .ok (.bipush 10, 2) := by decide +kernel
theorem dX13_sets_237 : decode cX13_sets 237 = .ok (.iconst 0, 1) := by decide +kernel
theorem dX13_sets_238 : decode cX13_sets 238 = .ok (.bipush 6, 2) := by decide +kernel
theorem dX13_sets_240 : decode cX13_sets 240 = .ok (.invokestatic 278, 3) := by decide +kernel
theorem dX13_sets_243 : decode cX13_sets 243 = .ok (.invokevirtual 111, 3) := by decide +kernel
theorem dX13_sets_246 : decode cX13_sets 246 = .ok (.pop, 1) := by decide +kernel
theorem dX13_sets_247 : decode cX13_sets 247 = .ok (.aload_n 0, 1) := by decide +kernel
theorem dX13_sets_248 : decode cX13_sets 248 = .ok (.bipush 8, 2) := by decide +kernel
theorem dX13_sets_250 : decode cX13_sets 250 = .ok (.iconst 0, 1) := by decide +kernel
theorem dX13_sets_251 : decode cX13_sets 251 = .ok (.invokevirtual 210, 3) := by decide +kernel
theorem dX13_sets_254 : decode cX13_sets 254 = .ok (.pop, 1) := by decide +kernel
theorem dX13_sets_255 : decode cX13_sets 255 = .ok (.goto 9, 3) := by decide +kernel
set_option maxHeartbeats 16000000 in
set_option maxRecDepth 100000 in
theorem c_m_sets (l : Launch) (n : Nat) (ihE : ∀ m, n = m + 1 → Cx_expression l m) (dC : Nat → ClassId) (dI : Nat → Nat → Nat) (cI cB cZ cJ cR : ClassId) (tb : Nat → Nat) (sz : Nat) (ad : Nat → Nat) (N : Nat) (v : MS) (pa : Int32) (pb : Int32) (pc1 : Int32) (pd : Int32) (zn : 40 ≤ (v.1 0 48).toInt + (n : Int)) (zt : 0 ≤ (v.1 0 47).toInt ∧ (v.1 0 47).toInt ≤ 1500) (zop : 0 ≤ (v.1 0 48).toInt ∧ (v.1 0 48).toInt ≤ 40) (zkn : 0 ≤ (v.1 0 30).toInt ∧ (v.1 0 30).toInt ≤ 500) (zhi : 0 ≤ (v.1 0 33).toInt ∧ (v.1 0 33).toInt ≤ 500) (zs : 0 ≤ (v.1 0 32).toInt ∧ (v.1 0 30).toInt + (v.1 0 32).toInt ≤ 500) (zws : 0 ≤ (v.1 0 12).toInt ∧ (v.1 0 12).toInt ≤ 15 * (v.1 0 47).toInt + 2) (zos : 0 ≤ (v.1 0 15).toInt ∧ (v.1 0 15).toInt ≤ 10 * (v.1 0 47).toInt + 0) (zfs : 0 ≤ (v.1 0 43).toInt ∧ (v.1 0 43).toInt ≤ 15 * (v.1 0 47).toInt + 0) (zcs : 0 ≤ (v.1 0 39).toInt ∧ (v.1 0 39).toInt ≤ 1 * (v.1 0 47).toInt + 0) (zgl : 0 ≤ (v.1 0 27).toInt ∧ (v.1 0 27).toInt ≤ 60) (hT : TI v) (n29 : NI 29 v) (n23 : NI 23 v) (n35 : NI 35 v) (zg : 0 ≤ pa.toInt ∨ (0 ≤ pb.toInt ∧ pb.toInt < 60)) (zi : pc1.toInt = 0 ∨ (0 ≤ pb.toInt ∧ pb.toInt < 60)) : vx_Met l yX13_sets (Cond.code yX13_sets cX13_sets 8 none :: tw_W) ({ frames := 40 * n + 6, cells := 0, slots := 0, locals := 28 * (40 * n + 6) }) (pc_ (dC, dI) (tyS cI cB cZ cJ cR) tb (mW ad N cI cZ cJ v) sz [.ref (ad 0), .int pa, .int pb, .int pc1, .int pd]) (qv_ (dC, dI) (mW ad N cI cZ cJ v) sz (fun (u : MS) => FG [12, 15, 32, 33, 39, 43, 44, 45, 47, 48, 49, 50, 51] [0, 11, 13, 14, 35, 36, 37, 38, 40, 41, 42] v u ∧ ((v.1 0 47).toInt + 1 ≤ (u.1 0 47).toInt ∧ (u.1 0 47).toInt ≤ 1500) ∧ ((v.1 0 49).toInt ≠ (v.1 0 47).toInt) ∧ ((v.1 0 12).toInt ≤ (u.1 0 12).toInt ∧ (u.1 0 12).toInt - 15 * (u.1 0 47).toInt ≤ (v.1 0 12).toInt - 15 * (v.1 0 47).toInt) ∧ ((v.1 0 15).toInt ≤ (u.1 0 15).toInt ∧ (u.1 0 15).toInt - 10 * (u.1 0 47).toInt ≤ (v.1 0 15).toInt - 10 * (v.1 0 47).toInt) ∧ ((v.1 0 43).toInt ≤ (u.1 0 43).toInt ∧ (u.1 0 43).toInt - 15 * (u.1 0 47).toInt ≤ (v.1 0 43).toInt - 15 * (v.1 0 47).toInt) ∧ ((v.1 0 39).toInt ≤ (u.1 0 39).toInt ∧ (u.1 0 39).toInt - 1 * (u.1 0 47).toInt ≤ (v.1 0 39).toInt - 1 * (v.1 0 47).toInt) ∧ ((u.1 0 32).toInt = (v.1 0 32).toInt ∧ (u.1 0 48).toInt = (v.1 0 48).toInt) ∧ ((v.1 0 33).toInt ≤ (u.1 0 33).toInt ∧ (u.1 0 33).toInt ≤ 500) ∧ (∀ j : Nat, (j : Int) < (v.1 0 12).toInt → (u.1 11) j = (v.1 11) j) ∧ (∀ j : Nat, (j : Int) < (v.1 0 15).toInt → (u.1 13) j = (v.1 13) j) ∧ (∀ j : Nat, (j : Int) < (v.1 0 15).toInt → (u.1 14) j = (v.1 14) j) ∧ (NI 35 u)) (fun (u : MS) => (mW ad N cI cZ cJ u))) (qxm (dC, dI) (mW ad N cI cZ cJ v) sz (fun (u : MS) => (mW ad N cI cZ cJ u)) (fun (u : MS) => Fr v u)) 0 0 (va_A (mW ad N cI cZ cJ v) sz) := by
  refine vx_ofW (cc := cX13_sets) (maxL := 8) (ret := none) (by decide) rfl ?_
  intro p e s m args below meth c s₁ B hml hnt hv
  obtain ⟨rfl, hsz, hP, hKK, hD0, hFx⟩ := hv
  have hK := hKK.1
  have hx := B.exec
  have hb := B.bytes
  have hr := B.returns
  have ht : ∀ w ∈ tw_W, w.before _ s = true := fun w h => atoms_spec (ws := Cond.code yX13_sets cX13_sets 8 none :: tw_W) B.pre w (List.mem_cons_of_mem _ h)
  have hown : s.vm.findClass RX13 = some m.cls := findClass_of_methodNamed B.named
  have hlocks := B.notSynchronized
  subst hsz
  unfold qv_ qxm
  have hD := hD0.self (sz := s.heap.size)
  generalize hAe : va_A (mW ad N cI cZ cJ v) s.heap.size = A at hD hFx ⊢
  have hA : ∀ q : Nat, s.heap.size ≤ q → A q := fun q h => by rw [← hAe]; exact Or.inr h
  have hS : va_S A s.heap s.heap [] := va_S.rf
  have hl := lv_entry ([.ref (ad 0), .int pa, .int pb, .int pc1, .int pd]) (n := 8) (Nat.le_of_ble_eq_true rfl)
  rw [lg_entry_eq]
  generalize (lg_sl ([.ref (ad 0), .int pa, .int pb, .int pc1, .int pd]) ++ List.replicate (8 - (lg_sl ([.ref (ad 0), .int pa, .int pb, .int pc1, .int pd])).length) Slot.unset).toArray = ls at hl ⊢
  have hl : lv_has ls 8 [(0, .ref (ad 0)), (1, .int pa), (2, .int pb), (3, .int pc1), (4, .int pd)] := hl
  refine lv_iload_n hx hb dX13_sets_0 rfl (lv_at hl 3 rfl) ?_
  refine lv_if_eq (tgt := 8) hx hb dX13_sets_1 (by decide) (fun h1 => ?_) (fun h1 => ?_)
  · have z2 : pc1.toInt = 0 := eq_z rfl (show (0 : Int32).toInt = 0 by decide) h1
    refine lv_iconst (v := 0) hx hb dX13_sets_8 (by decide) ?_
    refine lv_iload hx hb dX13_sets_9 (lv_at hl 4 rfl) ?_
    refine lv_if_ne (tgt := 18) hx hb dX13_sets_11 (by decide) (fun h3 => ?_) (fun h3 => ?_)
    · have z4 : pd.toInt ≠ 0 := ne_z rfl (show (0 : Int32).toInt = 0 by decide) h3
      refine lv_iconst (v := 1) hx hb dX13_sets_18 (by decide) ?_
      refine lv_iadd hx hb dX13_sets_19 ?_
      refine tp_i (y := 1) (by decide) ?_
      refine lv_istore (lv' := [(5, .int 1), (0, .ref (ad 0)), (1, .int pa), (2, .int pb), (3, .int pc1), (4, .int pd)]) hx hb dX13_sets_20 hl (by decide) rfl (fun ls hl => ?_)
      refine lv_aload_n hx hb dX13_sets_22 rfl (lv_at hl 1 rfl) ?_
      refine lv_iload hx hb dX13_sets_23 (lv_at hl 0 rfl) ?_
      refine cu_i (rn_V (n := 1) (As := [.int 1]) (rest := []) hx hb hml hown ht hKK hFx hP hD hS hA (c_m_slots l dC dI cI cB cZ cJ cR tb s.heap.size ad N v (1 : Int32) (show 0 ≤ (v.1 0 30).toInt ∧ (v.1 0 30).toInt ≤ 500 by omega) (show 0 ≤ (v.1 0 32).toInt ∧ (v.1 0 32).toInt ≤ 2000 by omega) (show 0 ≤ (v.1 0 33).toInt ∧ (v.1 0 33).toInt ≤ 500 by omega) (show 0 ≤ 1 ∧ 1 ≤ 8 by omega)) tw_88 tw_89 (by decide +kernel) rfl rfl ⟨by show 0 + 1 ≤ 40 * n + 6; omega, by show 8 + (3 + 11) + 0 ≤ 28 * (40 * n + 6); omega⟩ (List.range (mW ad N cI cZ cJ v).length) (rg_map _) (mW_nd _ _ _ _ _ _) rfl rfl rfl rfl hl.1 rfl (Nat.le_of_ble_eq_true rfl) dX13_sets_25 ⟨Nat.le_of_ble_eq_true rfl, Nat.le_of_ble_eq_true rfl⟩) hP hD hS hA (fun r7 u6 H locs hw5 hP hD hS => ?_)
      obtain ⟨fr5, sr5, sb5, sh5⟩ := hw5
      have q5_2 : (u6.1 0 2).toInt = (v.1 0 2).toInt := congrArg Int32.toInt ((fr5.2.1 2 (by decide)).trans (show v.1 0 2 = (v.1 0 2) by rfl))
      have q5_4 : (u6.1 0 4).toInt = (v.1 0 4).toInt := congrArg Int32.toInt ((fr5.2.1 4 (by decide)).trans (show v.1 0 4 = (v.1 0 4) by rfl))
      have q5_5 : (u6.1 0 5).toInt = (v.1 0 5).toInt := congrArg Int32.toInt ((fr5.2.1 5 (by decide)).trans (show v.1 0 5 = (v.1 0 5) by rfl))
      have q5_12 : (u6.1 0 12).toInt = (v.1 0 12).toInt := congrArg Int32.toInt ((fr5.2.1 12 (by decide)).trans (show v.1 0 12 = (v.1 0 12) by rfl))
      have q5_15 : (u6.1 0 15).toInt = (v.1 0 15).toInt := congrArg Int32.toInt ((fr5.2.1 15 (by decide)).trans (show v.1 0 15 = (v.1 0 15) by rfl))
      have q5_22 : (u6.1 0 22).toInt = (v.1 0 22).toInt := congrArg Int32.toInt ((fr5.2.1 22 (by decide)).trans (show v.1 0 22 = (v.1 0 22) by rfl))
      have q5_27 : (u6.1 0 27).toInt = (v.1 0 27).toInt := congrArg Int32.toInt ((fr5.2.1 27 (by decide)).trans (show v.1 0 27 = (v.1 0 27) by rfl))
      have q5_28 : (u6.1 0 28).toInt = (v.1 0 28).toInt := congrArg Int32.toInt ((fr5.2.1 28 (by decide)).trans (show v.1 0 28 = (v.1 0 28) by rfl))
      have q5_30 : (u6.1 0 30).toInt = (v.1 0 30).toInt := congrArg Int32.toInt ((fr5.2.1 30 (by decide)).trans (show v.1 0 30 = (v.1 0 30) by rfl))
      have q5_31 : (u6.1 0 31).toInt = (v.1 0 31).toInt := congrArg Int32.toInt ((fr5.2.1 31 (by decide)).trans (show v.1 0 31 = (v.1 0 31) by rfl))
      have q5_32 : (u6.1 0 32).toInt = (v.1 0 32).toInt := congrArg Int32.toInt ((fr5.2.1 32 (by decide)).trans (show v.1 0 32 = (v.1 0 32) by rfl))
      have q5_34 : (u6.1 0 34).toInt = (v.1 0 34).toInt := congrArg Int32.toInt ((fr5.2.1 34 (by decide)).trans (show v.1 0 34 = (v.1 0 34) by rfl))
      have q5_39 : (u6.1 0 39).toInt = (v.1 0 39).toInt := congrArg Int32.toInt ((fr5.2.1 39 (by decide)).trans (show v.1 0 39 = (v.1 0 39) by rfl))
      have q5_43 : (u6.1 0 43).toInt = (v.1 0 43).toInt := congrArg Int32.toInt ((fr5.2.1 43 (by decide)).trans (show v.1 0 43 = (v.1 0 43) by rfl))
      have q5_47 : (u6.1 0 47).toInt = (v.1 0 47).toInt := congrArg Int32.toInt ((fr5.2.1 47 (by decide)).trans (show v.1 0 47 = (v.1 0 47) by rfl))
      have q5_48 : (u6.1 0 48).toInt = (v.1 0 48).toInt := congrArg Int32.toInt ((fr5.2.1 48 (by decide)).trans (show v.1 0 48 = (v.1 0 48) by rfl))
      have q5_52 : (u6.1 0 52).toInt = (v.1 0 52).toInt := congrArg Int32.toInt ((fr5.2.1 52 (by decide)).trans (show v.1 0 52 = (v.1 0 52) by rfl))
      have sb5 : ((v.1 0 30).toInt + (v.1 0 32).toInt + 1 ≤ (u6.1 0 33).toInt ∧ (u6.1 0 49).toInt = (v.1 0 49).toInt) ∨ (u6.1 0 49).toInt = (v.1 0 47).toInt := sb5
      refine W.widen (k := 0) (n := 0) (by omega) (by omega) ?_
      refine lv_istore (lv' := [(6, .int r7), (5, .int 1), (0, .ref (ad 0)), (1, .int pa), (2, .int pb), (3, .int pc1), (4, .int pd)]) hx hb dX13_sets_28 hl (by decide) rfl (fun ls hl => ?_)
      refine lv_iload hx hb dX13_sets_30 (lv_at hl 0 rfl) ?_
      refine lv_iload_n hx hb dX13_sets_32 rfl (lv_at hl 5 rfl) ?_
      refine lv_if_eq (tgt := 40) hx hb dX13_sets_33 (by decide) (fun h8 => ?_) (fun h8 => ?_)
      · have z9 : pc1.toInt = 0 := eq_z rfl (show (0 : Int32).toInt = 0 by decide) h8
        refine lv_iconst (v := 0) hx hb dX13_sets_40 (by decide) ?_
        refine lv_iadd hx hb dX13_sets_41 ?_
        have z10 : (r7 + (0 : Int32)).toInt = r7.toInt + 0 := add_z rfl (show (0 : Int32).toInt = 0 by decide) (by omega) (by omega)
        refine lv_istore (lv' := [(7, .int (r7 + (0 : Int32))), (6, .int r7), (5, .int 1), (0, .ref (ad 0)), (1, .int pa), (2, .int pb), (3, .int pc1), (4, .int pd)]) hx hb dX13_sets_42 hl (by decide) rfl (fun ls hl => ?_)
        refine lv_aload_n hx hb dX13_sets_44 rfl (lv_at hl 3 rfl) ?_
        refine lv_iload hx hb dX13_sets_45 (lv_at hl 7 rfl) ?_
        refine cu_v (rn_V (n := 1) (As := [.int pd]) (rest := []) hx hb hml hown ht hKK hFx hP hD hS hA (c_m_remember l dC dI cI cB cZ cJ cR tb H.size ad N u6 pd ) tw_90 tw_91 (by decide +kernel) rfl rfl ⟨by show 0 + 1 ≤ 40 * n + 6; omega, by show 8 + (2 + 11) + 0 ≤ 28 * (40 * n + 6); omega⟩ (List.range (mW ad N cI cZ cJ u6).length) (rg_map _) (mW_nd _ _ _ _ _ _) rfl rfl rfl rfl hl.1 rfl (Nat.le_of_ble_eq_true rfl) dX13_sets_47 ⟨Nat.le_of_ble_eq_true rfl, Nat.le_of_ble_eq_true rfl⟩) hP hD hS hA (fun u12 H locs hw11 hP hD hS => ?_)
        have fr11 := hw11
        have q11_2 : (u12.1 0 2).toInt = (u6.1 0 2).toInt := congrArg Int32.toInt ((fr11.2.1 2 (by decide)).trans (show u6.1 0 2 = (u6.1 0 2) by rfl))
        have q11_4 : (u12.1 0 4).toInt = (u6.1 0 4).toInt := congrArg Int32.toInt ((fr11.2.1 4 (by decide)).trans (show u6.1 0 4 = (u6.1 0 4) by rfl))
        have q11_5 : (u12.1 0 5).toInt = (u6.1 0 5).toInt := congrArg Int32.toInt ((fr11.2.1 5 (by decide)).trans (show u6.1 0 5 = (u6.1 0 5) by rfl))
        have q11_12 : (u12.1 0 12).toInt = (u6.1 0 12).toInt := congrArg Int32.toInt ((fr11.2.1 12 (by decide)).trans (show u6.1 0 12 = (u6.1 0 12) by rfl))
        have q11_15 : (u12.1 0 15).toInt = (u6.1 0 15).toInt := congrArg Int32.toInt ((fr11.2.1 15 (by decide)).trans (show u6.1 0 15 = (u6.1 0 15) by rfl))
        have q11_22 : (u12.1 0 22).toInt = (u6.1 0 22).toInt := congrArg Int32.toInt ((fr11.2.1 22 (by decide)).trans (show u6.1 0 22 = (u6.1 0 22) by rfl))
        have q11_27 : (u12.1 0 27).toInt = (u6.1 0 27).toInt := congrArg Int32.toInt ((fr11.2.1 27 (by decide)).trans (show u6.1 0 27 = (u6.1 0 27) by rfl))
        have q11_28 : (u12.1 0 28).toInt = (u6.1 0 28).toInt := congrArg Int32.toInt ((fr11.2.1 28 (by decide)).trans (show u6.1 0 28 = (u6.1 0 28) by rfl))
        have q11_30 : (u12.1 0 30).toInt = (u6.1 0 30).toInt := congrArg Int32.toInt ((fr11.2.1 30 (by decide)).trans (show u6.1 0 30 = (u6.1 0 30) by rfl))
        have q11_31 : (u12.1 0 31).toInt = (u6.1 0 31).toInt := congrArg Int32.toInt ((fr11.2.1 31 (by decide)).trans (show u6.1 0 31 = (u6.1 0 31) by rfl))
        have q11_32 : (u12.1 0 32).toInt = (u6.1 0 32).toInt := congrArg Int32.toInt ((fr11.2.1 32 (by decide)).trans (show u6.1 0 32 = (u6.1 0 32) by rfl))
        have q11_33 : (u12.1 0 33).toInt = (u6.1 0 33).toInt := congrArg Int32.toInt ((fr11.2.1 33 (by decide)).trans (show u6.1 0 33 = (u6.1 0 33) by rfl))
        have q11_34 : (u12.1 0 34).toInt = (u6.1 0 34).toInt := congrArg Int32.toInt ((fr11.2.1 34 (by decide)).trans (show u6.1 0 34 = (u6.1 0 34) by rfl))
        have q11_39 : (u12.1 0 39).toInt = (u6.1 0 39).toInt := congrArg Int32.toInt ((fr11.2.1 39 (by decide)).trans (show u6.1 0 39 = (u6.1 0 39) by rfl))
        have q11_43 : (u12.1 0 43).toInt = (u6.1 0 43).toInt := congrArg Int32.toInt ((fr11.2.1 43 (by decide)).trans (show u6.1 0 43 = (u6.1 0 43) by rfl))
        have q11_47 : (u12.1 0 47).toInt = (u6.1 0 47).toInt := congrArg Int32.toInt ((fr11.2.1 47 (by decide)).trans (show u6.1 0 47 = (u6.1 0 47) by rfl))
        have q11_48 : (u12.1 0 48).toInt = (u6.1 0 48).toInt := congrArg Int32.toInt ((fr11.2.1 48 (by decide)).trans (show u6.1 0 48 = (u6.1 0 48) by rfl))
        have q11_49 : (u12.1 0 49).toInt = (u6.1 0 49).toInt := congrArg Int32.toInt ((fr11.2.1 49 (by decide)).trans (show u6.1 0 49 = (u6.1 0 49) by rfl))
        have q11_52 : (u12.1 0 52).toInt = (u6.1 0 52).toInt := congrArg Int32.toInt ((fr11.2.1 52 (by decide)).trans (show u6.1 0 52 = (u6.1 0 52) by rfl))
        refine W.widen (k := 0) (n := 0) (by omega) (by omega) ?_
        refine lv_aload_n hx hb dX13_sets_50 rfl (lv_at hl 3 rfl) ?_
        refine cux_v (rx_V (n := 0) (As := []) (rest := []) hx hb hml hown ht hKK hFx hP hD hS hA (c_m_opens l dC dI cI cB cZ cJ cR tb H.size ad N u12  (show 0 ≤ (u12.1 0 47).toInt ∧ (u12.1 0 47).toInt ≤ 1500 by omega) (show 0 ≤ (u12.1 0 48).toInt ∧ (u12.1 0 48).toInt ≤ 40 by omega)) tw_38 tw_39 (by decide +kernel) rfl rfl ⟨by show 2 + 1 ≤ 40 * n + 6; omega, by show 8 + (1 + 11) + 42 ≤ 28 * (40 * n + 6); omega⟩ (List.range (mW ad N cI cZ cJ u12).length) (rg_map _) (mW_nd _ _ _ _ _ _) rfl rfl rfl rfl hl.1 rfl (Nat.le_of_ble_eq_true rfl) dX13_sets_51 ⟨Nat.le_of_ble_eq_true rfl, Nat.le_of_ble_eq_true rfl⟩) hP hD hS hA (fun u9 ce9 q9 H locs hx9 hP hD hS hc9 hv9 hf9 => ?_) (fun u15 H locs hw14 hP hD hS => ?_)
        · exact vx_out (fun x h9 => (hnt x h9).elim) hlocks hc9 hv9 hf9 (fun t9 ht9 hv8 => ⟨u9, (FG.tr (FG.tr (FG.tr (FG.rf _) (FG.up fr5 (by decide) (by decide))) (FG.up fr11 (by decide) (by decide))) hx9), ⟨rfl, by rw [ht9]; exact hP, hD⟩, hS.F ht9⟩) hS.2.2 (by omega) (by omega)
        obtain ⟨rfl, a14, b14, c14⟩ := hw14
        have z17 : ((u12.1 0 47) + (1 : Int32)).toInt = (u12.1 0 47).toInt + 1 := add_z rfl (show (1 : Int32).toInt = 1 by decide) (by omega) (by omega)
        have z18 : ((u12.1 0 48) + (1 : Int32)).toInt = (u12.1 0 48).toInt + 1 := add_z rfl (show (1 : Int32).toInt = 1 by decide) (by omega) (by omega)
        have hP : va_P (dC, dI) vwCl (mW ad N cI cZ cJ (wA (wA u12 0 47 ((u12.1 0 47) + (1 : Int32))) 0 48 ((u12.1 0 48) + (1 : Int32)))) H := hP
        have hD : va_D A (mW ad N cI cZ cJ (wA (wA u12 0 47 ((u12.1 0 47) + (1 : Int32))) 0 48 ((u12.1 0 48) + (1 : Int32)))) := hD
        have a14 : (u12.1 0 47).toInt < 1500 := a14
        have b14 : (u12.1 0 48).toInt < 40 := b14
        have c14 : (u12.1 0 49).toInt ≠ (u12.1 0 47).toInt := c14
        refine W.widen (k := 0) (n := 0) (by omega) (by omega) ?_
        refine lv_iload_n hx hb dX13_sets_54 rfl (lv_at hl 6 rfl) ?_
        refine lv_if_eq (tgt := 127) hx hb dX13_sets_55 (by decide) (fun h19 => ?_) (fun h19 => ?_)
        · have z20 : pc1.toInt = 0 := eq_z rfl (show (0 : Int32).toInt = 0 by decide) h19
          refine lv_iload hx hb dX13_sets_127 (lv_at hl 7 rfl) ?_
          refine lv_if_eq (tgt := 138) hx hb dX13_sets_129 (by decide) (fun h21 => ?_) (fun h21 => ?_)
          · have z22 : pd.toInt = 0 := eq_z rfl (show (0 : Int32).toInt = 0 by decide) h21
            exfalso; omega
          · have z23 : pd.toInt ≠ 0 := ne_z rfl (show (0 : Int32).toInt = 0 by decide) h21
            refine lv_aload_n hx hb dX13_sets_132 rfl (lv_at hl 3 rfl) ?_
            refine lv_iload_n hx hb dX13_sets_133 rfl (lv_at hl 4 rfl) ?_
            refine lv_iload_n hx hb dX13_sets_134 rfl (lv_at hl 5 rfl) ?_
            refine cu_v (rn_V (n := 2) (As := [.int pa, .int pb]) (rest := []) hx hb hml hown ht hKK hFx hP hD hS hA (c_m_fetch l dC dI cI cB cZ cJ cR tb H.size ad N (wA (wA u12 0 47 ((u12.1 0 47) + (1 : Int32))) 0 48 ((u12.1 0 48) + (1 : Int32))) pa pb (show 0 ≤ (u12.1 0 12).toInt ∧ (u12.1 0 12).toInt ≤ 23980 by omega) (show 0 ≤ (u12.1 0 15).toInt ∧ (u12.1 0 15).toInt ≤ 15980 by omega) (show 0 ≤ (u12.1 0 43).toInt ∧ (u12.1 0 43).toInt ≤ 23980 by omega) (show 0 ≤ pa.toInt ∨ (0 ≤ pb.toInt ∧ pb.toInt < 60) by omega)) tw_92 tw_93 (by decide +kernel) rfl rfl ⟨by show 2 + 1 ≤ 40 * n + 6; omega, by show 8 + (3 + 11) + 46 ≤ 28 * (40 * n + 6); omega⟩ (List.range (mW ad N cI cZ cJ (wA (wA u12 0 47 ((u12.1 0 47) + (1 : Int32))) 0 48 ((u12.1 0 48) + (1 : Int32)))).length) (rg_map _) (mW_nd _ _ _ _ _ _) rfl rfl rfl rfl hl.1 rfl (Nat.le_of_ble_eq_true rfl) dX13_sets_135 ⟨Nat.le_of_ble_eq_true rfl, Nat.le_of_ble_eq_true rfl⟩) hP hD hS hA (fun u25 H locs hw24 hP hD hS => ?_)
            obtain ⟨fr24, pw24, po24, pf24, kc24, ko24, kg24⟩ := hw24
            have q24_2 : (u25.1 0 2).toInt = (u12.1 0 2).toInt := congrArg Int32.toInt ((fr24.2.1 2 (by decide)).trans (show (wA (wA u12 0 47 ((u12.1 0 47) + (1 : Int32))) 0 48 ((u12.1 0 48) + (1 : Int32))).1 0 2 = (u12.1 0 2) by rfl))
            have q24_4 : (u25.1 0 4).toInt = (u12.1 0 4).toInt := congrArg Int32.toInt ((fr24.2.1 4 (by decide)).trans (show (wA (wA u12 0 47 ((u12.1 0 47) + (1 : Int32))) 0 48 ((u12.1 0 48) + (1 : Int32))).1 0 4 = (u12.1 0 4) by rfl))
            have q24_5 : (u25.1 0 5).toInt = (u12.1 0 5).toInt := congrArg Int32.toInt ((fr24.2.1 5 (by decide)).trans (show (wA (wA u12 0 47 ((u12.1 0 47) + (1 : Int32))) 0 48 ((u12.1 0 48) + (1 : Int32))).1 0 5 = (u12.1 0 5) by rfl))
            have q24_22 : (u25.1 0 22).toInt = (u12.1 0 22).toInt := congrArg Int32.toInt ((fr24.2.1 22 (by decide)).trans (show (wA (wA u12 0 47 ((u12.1 0 47) + (1 : Int32))) 0 48 ((u12.1 0 48) + (1 : Int32))).1 0 22 = (u12.1 0 22) by rfl))
            have q24_27 : (u25.1 0 27).toInt = (u12.1 0 27).toInt := congrArg Int32.toInt ((fr24.2.1 27 (by decide)).trans (show (wA (wA u12 0 47 ((u12.1 0 47) + (1 : Int32))) 0 48 ((u12.1 0 48) + (1 : Int32))).1 0 27 = (u12.1 0 27) by rfl))
            have q24_28 : (u25.1 0 28).toInt = (u12.1 0 28).toInt := congrArg Int32.toInt ((fr24.2.1 28 (by decide)).trans (show (wA (wA u12 0 47 ((u12.1 0 47) + (1 : Int32))) 0 48 ((u12.1 0 48) + (1 : Int32))).1 0 28 = (u12.1 0 28) by rfl))
            have q24_30 : (u25.1 0 30).toInt = (u12.1 0 30).toInt := congrArg Int32.toInt ((fr24.2.1 30 (by decide)).trans (show (wA (wA u12 0 47 ((u12.1 0 47) + (1 : Int32))) 0 48 ((u12.1 0 48) + (1 : Int32))).1 0 30 = (u12.1 0 30) by rfl))
            have q24_31 : (u25.1 0 31).toInt = (u12.1 0 31).toInt := congrArg Int32.toInt ((fr24.2.1 31 (by decide)).trans (show (wA (wA u12 0 47 ((u12.1 0 47) + (1 : Int32))) 0 48 ((u12.1 0 48) + (1 : Int32))).1 0 31 = (u12.1 0 31) by rfl))
            have q24_32 : (u25.1 0 32).toInt = (u12.1 0 32).toInt := congrArg Int32.toInt ((fr24.2.1 32 (by decide)).trans (show (wA (wA u12 0 47 ((u12.1 0 47) + (1 : Int32))) 0 48 ((u12.1 0 48) + (1 : Int32))).1 0 32 = (u12.1 0 32) by rfl))
            have q24_33 : (u25.1 0 33).toInt = (u12.1 0 33).toInt := congrArg Int32.toInt ((fr24.2.1 33 (by decide)).trans (show (wA (wA u12 0 47 ((u12.1 0 47) + (1 : Int32))) 0 48 ((u12.1 0 48) + (1 : Int32))).1 0 33 = (u12.1 0 33) by rfl))
            have q24_34 : (u25.1 0 34).toInt = (u12.1 0 34).toInt := congrArg Int32.toInt ((fr24.2.1 34 (by decide)).trans (show (wA (wA u12 0 47 ((u12.1 0 47) + (1 : Int32))) 0 48 ((u12.1 0 48) + (1 : Int32))).1 0 34 = (u12.1 0 34) by rfl))
            have q24_39 : (u25.1 0 39).toInt = (u12.1 0 39).toInt := congrArg Int32.toInt ((fr24.2.1 39 (by decide)).trans (show (wA (wA u12 0 47 ((u12.1 0 47) + (1 : Int32))) 0 48 ((u12.1 0 48) + (1 : Int32))).1 0 39 = (u12.1 0 39) by rfl))
            have q24_47 : (u25.1 0 47).toInt = ((u12.1 0 47) + (1 : Int32)).toInt := congrArg Int32.toInt ((fr24.2.1 47 (by decide)).trans (show (wA (wA u12 0 47 ((u12.1 0 47) + (1 : Int32))) 0 48 ((u12.1 0 48) + (1 : Int32))).1 0 47 = ((u12.1 0 47) + (1 : Int32)) by rfl))
            have q24_48 : (u25.1 0 48).toInt = ((u12.1 0 48) + (1 : Int32)).toInt := congrArg Int32.toInt ((fr24.2.1 48 (by decide)).trans (show (wA (wA u12 0 47 ((u12.1 0 47) + (1 : Int32))) 0 48 ((u12.1 0 48) + (1 : Int32))).1 0 48 = ((u12.1 0 48) + (1 : Int32)) by rfl))
            have q24_49 : (u25.1 0 49).toInt = (u12.1 0 49).toInt := congrArg Int32.toInt ((fr24.2.1 49 (by decide)).trans (show (wA (wA u12 0 47 ((u12.1 0 47) + (1 : Int32))) 0 48 ((u12.1 0 48) + (1 : Int32))).1 0 49 = (u12.1 0 49) by rfl))
            have q24_52 : (u25.1 0 52).toInt = (u12.1 0 52).toInt := congrArg Int32.toInt ((fr24.2.1 52 (by decide)).trans (show (wA (wA u12 0 47 ((u12.1 0 47) + (1 : Int32))) 0 48 ((u12.1 0 48) + (1 : Int32))).1 0 52 = (u12.1 0 52) by rfl))
            have pw24 : (u12.1 0 12).toInt ≤ (u25.1 0 12).toInt ∧ (u25.1 0 12).toInt ≤ (u12.1 0 12).toInt + 2 := pw24
            have po24 : (u25.1 0 15).toInt = (u12.1 0 15).toInt + 1 := po24
            have pf24 : (u12.1 0 43).toInt ≤ (u25.1 0 43).toInt ∧ (u25.1 0 43).toInt ≤ (u12.1 0 43).toInt + 2 := pf24
            have kc24 : ∀ j : Nat, (j : Int) < (u12.1 0 12).toInt → (u25.1 11) j = (u12.1 11) j := kc24
            have ko24 : ∀ j : Nat, (j : Int) < (u12.1 0 15).toInt → (u25.1 13) j = (u12.1 13) j := ko24
            have kg24 : ∀ j : Nat, (j : Int) < (u12.1 0 15).toInt → (u25.1 14) j = (u12.1 14) j := kg24
            refine W.widen (k := 0) (n := 0) (by omega) (by omega) ?_
            refine lv_iload hx hb dX13_sets_138 (lv_at hl 7 rfl) ?_
            refine lv_if_eq (tgt := 160) hx hb dX13_sets_140 (by decide) (fun h27 => ?_) (fun h27 => ?_)
            · have z28 : pd.toInt = 0 := eq_z rfl (show (0 : Int32).toInt = 0 by decide) h27
              exfalso; omega
            · have z29 : pd.toInt ≠ 0 := ne_z rfl (show (0 : Int32).toInt = 0 by decide) h27
              refine lv_aload_n hx hb dX13_sets_143 rfl (lv_at hl 3 rfl) ?_
              refine lv_bipush (v := 10) hx hb dX13_sets_144 (by decide) ?_
              refine lv_iload hx hb dX13_sets_146 (lv_at hl 0 rfl) ?_
              refine cu_s (mW_nd _ _ _ _ _ _) (rn_S (n := 1) (As := [.int (r7 + (0 : Int32))]) (rest := [.int 10, .ref (ad 0)]) hx hb hml hown ht hKK hFx hP hD hS hA (c_m_slotAt l dC dI cI cB cZ cJ cR tb H.size (r7 + (0 : Int32)) ) tw_74 tw_75 (by decide +kernel) rfl rfl ⟨by show 0 + 1 ≤ 40 * n + 6; omega, by show 8 + (1 + 11) + 0 ≤ 28 * (40 * n + 6); omega⟩ [] rfl rfl rfl hl.1 rfl (Nat.le_of_ble_eq_true rfl) dX13_sets_148 ⟨Nat.le_of_ble_eq_true rfl, Nat.le_of_ble_eq_true rfl⟩) hP hD hS hA (fun r32 H locs hw30 hP hD hS => ?_)
              refine W.widen (k := 0) (n := 0) (by omega) (by omega) ?_
              refine lv_bipush (v := 8) hx hb dX13_sets_151 (by decide) ?_
              refine cu_s (mW_nd _ _ _ _ _ _) (rn_S (n := 3) (As := [.int 10, .int r32, .int 8]) (rest := [.ref (ad 0)]) hx hb hml hown ht hKK hFx hP hD hS hA (c_m_sw l dC dI cI cB cZ cJ cR tb H.size (10 : Int32) r32 (8 : Int32) ) tw_76 tw_77 (by decide +kernel) rfl rfl ⟨by show 0 + 1 ≤ 40 * n + 6; omega, by show 8 + (3 + 11) + 0 ≤ 28 * (40 * n + 6); omega⟩ [] rfl rfl rfl hl.1 rfl (Nat.le_of_ble_eq_true rfl) dX13_sets_153 ⟨Nat.le_of_ble_eq_true rfl, Nat.le_of_ble_eq_true rfl⟩) hP hD hS hA (fun r35 H locs hw33 hP hD hS => ?_)
              refine W.widen (k := 0) (n := 0) (by omega) (by omega) ?_
              refine cu_i (rn_V (n := 1) (As := [.int r35]) (rest := []) hx hb hml hown ht hKK hFx hP hD hS hA (c_m_emit l dC dI cI cB cZ cJ cR tb H.size ad N u25 r35 (show 0 ≤ (u25.1 0 12).toInt ∧ (u25.1 0 12).toInt < 24000 by omega)) tw_8 tw_9 (by decide +kernel) rfl rfl ⟨by show 0 + 1 ≤ 40 * n + 6; omega, by show 8 + (2 + 11) + 0 ≤ 28 * (40 * n + 6); omega⟩ (List.range (mW ad N cI cZ cJ u25).length) (rg_map _) (mW_nd _ _ _ _ _ _) rfl rfl rfl rfl hl.1 rfl (Nat.le_of_ble_eq_true rfl) dX13_sets_156 ⟨Nat.le_of_ble_eq_true rfl, Nat.le_of_ble_eq_true rfl⟩) hP hD hS hA (fun r38 u37 H locs hw36 hP hD hS => ?_)
              obtain ⟨rfl, rfl⟩ := hw36
              have z39 : ((u25.1 0 12) + (1 : Int32)).toInt = (u25.1 0 12).toInt + 1 := add_z rfl (show (1 : Int32).toInt = 1 by decide) (by omega) (by omega)
              have hP : va_P (dC, dI) vwCl (mW ad N cI cZ cJ (wA (wA u25 11 ((u25.1 0 12).toNatClampNeg) r35) 0 12 ((u25.1 0 12) + (1 : Int32)))) H := hP
              have hD : va_D A (mW ad N cI cZ cJ (wA (wA u25 11 ((u25.1 0 12).toNatClampNeg) r35) 0 12 ((u25.1 0 12) + (1 : Int32)))) := hD
              refine tp_i (y := (u25.1 0 12)) (rfl) ?_
              refine W.widen (k := 0) (n := 0) (by omega) (by omega) ?_
              refine lv_pop hx hb dX13_sets_159 rfl ?_
              refine lv_aload_n hx hb dX13_sets_160 rfl (lv_at hl 3 rfl) ?_
              refine lv_dup hx hb dX13_sets_161 rfl ?_
              refine va_get (D := (dC, dI)) (ci := 16) (fs := mF ad (wA (wA u25 11 ((u25.1 0 12).toNatClampNeg) r35) 0 12 ((u25.1 0 12) + (1 : Int32)))) (v := .int (u25.1 0 32)) (C := RX13) (T := TX13) (N := 124) hx hb ht itX13 hown hK hP 0 rfl rfl 32 (by decide) (ht _ tw_52) (fun _ h9 => h9) rfl dX13_sets_162 ?_
              refine lv_iload hx hb dX13_sets_165 (lv_at hl 2 rfl) ?_
              refine lv_iadd hx hb dX13_sets_167 ?_
              have z40 : ((u25.1 0 32) + (1 : Int32)).toInt = (u25.1 0 32).toInt + 1 := add_z rfl (show (1 : Int32).toInt = 1 by decide) (by omega) (by omega)
              refine va_put (D := (dC, dI)) (ci := 16) (fs := mF ad (wA (wA u25 11 ((u25.1 0 12).toNatClampNeg) r35) 0 12 ((u25.1 0 12) + (1 : Int32)))) (v := .int ((u25.1 0 32) + (1 : Int32))) (ty := .int) (C := RX13) (T := TX13) (N := 124) hx hb ht itX13 tyX13 tyX13_ok nmX13 hown hK hP hD hS 0 rfl rfl 32 (by decide) (ht _ tw_52) (fun _ h9 => h9) rfl (by decide +kernel) rfl rfl (Nat.le_of_ble_eq_true rfl) dX13_sets_168 (fun H locs hP hD hS => ?_)
              have hP := cP_ (mw_32 ad N cI cZ cJ (wA (wA u25 11 ((u25.1 0 12).toNatClampNeg) r35) 0 12 ((u25.1 0 12) + (1 : Int32))) ((u25.1 0 32) + (1 : Int32))) hP
              have hD := cD_ (mw_32 ad N cI cZ cJ (wA (wA u25 11 ((u25.1 0 12).toNatClampNeg) r35) 0 12 ((u25.1 0 12) + (1 : Int32))) ((u25.1 0 32) + (1 : Int32))) hD
              refine lv_aload_n hx hb dX13_sets_171 rfl (lv_at hl 3 rfl) ?_
              obtain ⟨n41, hn42⟩ : ∃ m, n = m + 1 := ⟨n - 1, by omega⟩
              refine cux_v (rx_V (n := 0) (As := []) (rest := []) hx hb hml hown ht hKK hFx hP hD hS hA (ihE n41 hn42 dC dI cI cB cZ cJ cR tb H.size ad N (wA (wA (wA u25 11 ((u25.1 0 12).toNatClampNeg) r35) 0 12 ((u25.1 0 12) + (1 : Int32))) 0 32 ((u25.1 0 32) + (1 : Int32)))  (show 40 ≤ (u25.1 0 48).toInt + (n41 : Int) by omega) (show 0 ≤ (u25.1 0 47).toInt ∧ (u25.1 0 47).toInt ≤ 1500 by omega) (show 0 ≤ (u25.1 0 48).toInt ∧ (u25.1 0 48).toInt ≤ 40 by omega) (show 0 ≤ (u25.1 0 30).toInt ∧ (u25.1 0 30).toInt ≤ 500 by omega) (show 0 ≤ (u25.1 0 33).toInt ∧ (u25.1 0 33).toInt ≤ 500 by omega) (show 0 ≤ ((u25.1 0 32) + (1 : Int32)).toInt ∧ (u25.1 0 30).toInt + ((u25.1 0 32) + (1 : Int32)).toInt ≤ 500 by omega) (show 0 ≤ ((u25.1 0 12) + (1 : Int32)).toInt ∧ ((u25.1 0 12) + (1 : Int32)).toInt ≤ 15 * (u25.1 0 47).toInt + 2 by omega) (show 0 ≤ (u25.1 0 15).toInt ∧ (u25.1 0 15).toInt ≤ 10 * (u25.1 0 47).toInt + 0 by omega) (show 0 ≤ (u25.1 0 43).toInt ∧ (u25.1 0 43).toInt ≤ 15 * (u25.1 0 47).toInt + 0 by omega) (show 0 ≤ (u25.1 0 39).toInt ∧ (u25.1 0 39).toInt ≤ 1 * (u25.1 0 47).toInt + 0 by omega) (show 0 ≤ (u25.1 0 27).toInt ∧ (u25.1 0 27).toInt ≤ 60 by omega) (FG.ti (fl := pfl) (al := pal) (FG.f (FG.f (FG.a (FG.tr (FG.f (FG.f (FG.tr (FG.tr (FG.rf _) (FG.up fr5 (by decide) (by decide))) (FG.up fr11 (by decide) (by decide))) ((u12.1 0 47) + (1 : Int32)) (by decide)) ((u12.1 0 48) + (1 : Int32)) (by decide)) (FG.up fr24 (by decide) (by decide))) ((u25.1 0 12).toNatClampNeg) r35 (by decide) (by decide)) ((u25.1 0 12) + (1 : Int32)) (by decide)) ((u25.1 0 32) + (1 : Int32)) (by decide)) (by decide) (by decide) hT) ((show NI 29 u25 from NI.fr (fl := [12, 15, 43]) (al := [0, 11, 13, 14, 40, 41, 42]) fr24 (by decide) (show NI 29 u12 from NI.fr (fl := [44, 45]) (al := [0]) fr11 (by decide) (show NI 29 u6 from NI.fr (fl := [33, 49]) (al := [0]) fr5 (by decide) n29)))) ((show NI 23 u25 from NI.fr (fl := [12, 15, 43]) (al := [0, 11, 13, 14, 40, 41, 42]) fr24 (by decide) (show NI 23 u12 from NI.fr (fl := [44, 45]) (al := [0]) fr11 (by decide) (show NI 23 u6 from NI.fr (fl := [33, 49]) (al := [0]) fr5 (by decide) n23)))) ((show NI 35 u25 from NI.fr (fl := [12, 15, 43]) (al := [0, 11, 13, 14, 40, 41, 42]) fr24 (by decide) (show NI 35 u12 from NI.fr (fl := [44, 45]) (al := [0]) fr11 (by decide) (show NI 35 u6 from NI.fr (fl := [33, 49]) (al := [0]) fr5 (by decide) n35))))) tw_80 tw_81 (by decide +kernel) rfl rfl ⟨by show (40 * n41 + 36) + 1 ≤ 40 * n + 6; omega, by show 8 + (1 + 11) + 28 * (40 * n41 + 36) ≤ 28 * (40 * n + 6); omega⟩ (List.range (mW ad N cI cZ cJ (wA (wA (wA u25 11 ((u25.1 0 12).toNatClampNeg) r35) 0 12 ((u25.1 0 12) + (1 : Int32))) 0 32 ((u25.1 0 32) + (1 : Int32)))).length) (rg_map _) (mW_nd _ _ _ _ _ _) rfl rfl rfl rfl hl.1 rfl (Nat.le_of_ble_eq_true rfl) dX13_sets_172 ⟨Nat.le_of_ble_eq_true rfl, Nat.le_of_ble_eq_true rfl⟩) hP hD hS hA (fun u9 ce9 q9 H locs hx9 hP hD hS hc9 hv9 hf9 => ?_) (fun u44 H locs hw43 hP hD hS => ?_)
              · exact vx_out (fun x h9 => (hnt x h9).elim) hlocks hc9 hv9 hf9 (fun t9 ht9 hv8 => ⟨u9, (FG.tr (FG.f (FG.f (FG.a (FG.tr (FG.f (FG.f (FG.tr (FG.tr (FG.rf _) (FG.up fr5 (by decide) (by decide))) (FG.up fr11 (by decide) (by decide))) ((u12.1 0 47) + (1 : Int32)) (by decide)) ((u12.1 0 48) + (1 : Int32)) (by decide)) (FG.up fr24 (by decide) (by decide))) ((u25.1 0 12).toNatClampNeg) r35 (by decide) (by decide)) ((u25.1 0 12) + (1 : Int32)) (by decide)) ((u25.1 0 32) + (1 : Int32)) (by decide)) hx9), ⟨rfl, by rw [ht9]; exact hP, hD⟩, hS.F ht9⟩) hS.2.2 (by omega) (by omega)
              obtain ⟨fr43, pt43, pb43, pw43, po43, pf43, pk43, pp43, ph43, kc43, ko43, kg43, n3543⟩ := hw43
              have q43_2 : (u44.1 0 2).toInt = (u25.1 0 2).toInt := congrArg Int32.toInt ((fr43.2.1 2 (by decide)).trans (show (wA (wA (wA u25 11 ((u25.1 0 12).toNatClampNeg) r35) 0 12 ((u25.1 0 12) + (1 : Int32))) 0 32 ((u25.1 0 32) + (1 : Int32))).1 0 2 = (u25.1 0 2) by rfl))
              have q43_4 : (u44.1 0 4).toInt = (u25.1 0 4).toInt := congrArg Int32.toInt ((fr43.2.1 4 (by decide)).trans (show (wA (wA (wA u25 11 ((u25.1 0 12).toNatClampNeg) r35) 0 12 ((u25.1 0 12) + (1 : Int32))) 0 32 ((u25.1 0 32) + (1 : Int32))).1 0 4 = (u25.1 0 4) by rfl))
              have q43_5 : (u44.1 0 5).toInt = (u25.1 0 5).toInt := congrArg Int32.toInt ((fr43.2.1 5 (by decide)).trans (show (wA (wA (wA u25 11 ((u25.1 0 12).toNatClampNeg) r35) 0 12 ((u25.1 0 12) + (1 : Int32))) 0 32 ((u25.1 0 32) + (1 : Int32))).1 0 5 = (u25.1 0 5) by rfl))
              have q43_22 : (u44.1 0 22).toInt = (u25.1 0 22).toInt := congrArg Int32.toInt ((fr43.2.1 22 (by decide)).trans (show (wA (wA (wA u25 11 ((u25.1 0 12).toNatClampNeg) r35) 0 12 ((u25.1 0 12) + (1 : Int32))) 0 32 ((u25.1 0 32) + (1 : Int32))).1 0 22 = (u25.1 0 22) by rfl))
              have q43_27 : (u44.1 0 27).toInt = (u25.1 0 27).toInt := congrArg Int32.toInt ((fr43.2.1 27 (by decide)).trans (show (wA (wA (wA u25 11 ((u25.1 0 12).toNatClampNeg) r35) 0 12 ((u25.1 0 12) + (1 : Int32))) 0 32 ((u25.1 0 32) + (1 : Int32))).1 0 27 = (u25.1 0 27) by rfl))
              have q43_28 : (u44.1 0 28).toInt = (u25.1 0 28).toInt := congrArg Int32.toInt ((fr43.2.1 28 (by decide)).trans (show (wA (wA (wA u25 11 ((u25.1 0 12).toNatClampNeg) r35) 0 12 ((u25.1 0 12) + (1 : Int32))) 0 32 ((u25.1 0 32) + (1 : Int32))).1 0 28 = (u25.1 0 28) by rfl))
              have q43_30 : (u44.1 0 30).toInt = (u25.1 0 30).toInt := congrArg Int32.toInt ((fr43.2.1 30 (by decide)).trans (show (wA (wA (wA u25 11 ((u25.1 0 12).toNatClampNeg) r35) 0 12 ((u25.1 0 12) + (1 : Int32))) 0 32 ((u25.1 0 32) + (1 : Int32))).1 0 30 = (u25.1 0 30) by rfl))
              have q43_31 : (u44.1 0 31).toInt = (u25.1 0 31).toInt := congrArg Int32.toInt ((fr43.2.1 31 (by decide)).trans (show (wA (wA (wA u25 11 ((u25.1 0 12).toNatClampNeg) r35) 0 12 ((u25.1 0 12) + (1 : Int32))) 0 32 ((u25.1 0 32) + (1 : Int32))).1 0 31 = (u25.1 0 31) by rfl))
              have q43_34 : (u44.1 0 34).toInt = (u25.1 0 34).toInt := congrArg Int32.toInt ((fr43.2.1 34 (by decide)).trans (show (wA (wA (wA u25 11 ((u25.1 0 12).toNatClampNeg) r35) 0 12 ((u25.1 0 12) + (1 : Int32))) 0 32 ((u25.1 0 32) + (1 : Int32))).1 0 34 = (u25.1 0 34) by rfl))
              have q43_52 : (u44.1 0 52).toInt = (u25.1 0 52).toInt := congrArg Int32.toInt ((fr43.2.1 52 (by decide)).trans (show (wA (wA (wA u25 11 ((u25.1 0 12).toNatClampNeg) r35) 0 12 ((u25.1 0 12) + (1 : Int32))) 0 32 ((u25.1 0 32) + (1 : Int32))).1 0 52 = (u25.1 0 52) by rfl))
              have pt43 : (u25.1 0 47).toInt + 1 ≤ (u44.1 0 47).toInt ∧ (u44.1 0 47).toInt ≤ 1500 := pt43
              have pb43 : (u25.1 0 49).toInt ≠ (u25.1 0 47).toInt := pb43
              have pw43 : ((u25.1 0 12) + (1 : Int32)).toInt ≤ (u44.1 0 12).toInt ∧ (u44.1 0 12).toInt - 15 * (u44.1 0 47).toInt ≤ ((u25.1 0 12) + (1 : Int32)).toInt - 15 * (u25.1 0 47).toInt := pw43
              have po43 : (u25.1 0 15).toInt ≤ (u44.1 0 15).toInt ∧ (u44.1 0 15).toInt - 10 * (u44.1 0 47).toInt ≤ (u25.1 0 15).toInt - 10 * (u25.1 0 47).toInt := po43
              have pf43 : (u25.1 0 43).toInt ≤ (u44.1 0 43).toInt ∧ (u44.1 0 43).toInt - 15 * (u44.1 0 47).toInt ≤ (u25.1 0 43).toInt - 15 * (u25.1 0 47).toInt := pf43
              have pk43 : (u25.1 0 39).toInt ≤ (u44.1 0 39).toInt ∧ (u44.1 0 39).toInt - 1 * (u44.1 0 47).toInt ≤ (u25.1 0 39).toInt - 1 * (u25.1 0 47).toInt := pk43
              have pp43 : (u44.1 0 32).toInt = ((u25.1 0 32) + (1 : Int32)).toInt ∧ (u44.1 0 48).toInt = (u25.1 0 48).toInt := pp43
              have ph43 : (u25.1 0 33).toInt ≤ (u44.1 0 33).toInt ∧ (u44.1 0 33).toInt ≤ 500 := ph43
              have kc43 : ∀ j : Nat, (j : Int) < ((u25.1 0 12) + (1 : Int32)).toInt → (u44.1 11) j = (upd (u25.1 11) ((u25.1 0 12).toNatClampNeg) r35) j := kc43
              have ko43 : ∀ j : Nat, (j : Int) < (u25.1 0 15).toInt → (u44.1 13) j = (u25.1 13) j := ko43
              have kg43 : ∀ j : Nat, (j : Int) < (u25.1 0 15).toInt → (u44.1 14) j = (u25.1 14) j := kg43
              have n3543 : NI 35 u44 := n3543
              refine W.widen (k := 0) (n := 0) (by omega) (by omega) ?_
              refine lv_aload_n hx hb dX13_sets_175 rfl (lv_at hl 3 rfl) ?_
              refine lv_dup hx hb dX13_sets_176 rfl ?_
              refine va_get (D := (dC, dI)) (ci := 16) (fs := mF ad u44) (v := .int (u44.1 0 32)) (C := RX13) (T := TX13) (N := 124) hx hb ht itX13 hown hK hP 0 rfl rfl 32 (by decide) (ht _ tw_52) (fun _ h9 => h9) rfl dX13_sets_177 ?_
              refine lv_iload hx hb dX13_sets_180 (lv_at hl 2 rfl) ?_
              refine lv_isub hx hb dX13_sets_182 ?_
              have z46 : ((u44.1 0 32) - (1 : Int32)).toInt = (u44.1 0 32).toInt - 1 := sub_z rfl (show (1 : Int32).toInt = 1 by decide) (by omega) (by omega)
              refine va_put (D := (dC, dI)) (ci := 16) (fs := mF ad u44) (v := .int ((u44.1 0 32) - (1 : Int32))) (ty := .int) (C := RX13) (T := TX13) (N := 124) hx hb ht itX13 tyX13 tyX13_ok nmX13 hown hK hP hD hS 0 rfl rfl 32 (by decide) (ht _ tw_52) (fun _ h9 => h9) rfl (by decide +kernel) rfl rfl (Nat.le_of_ble_eq_true rfl) dX13_sets_183 (fun H locs hP hD hS => ?_)
              have hP := cP_ (mw_32 ad N cI cZ cJ u44 ((u44.1 0 32) - (1 : Int32))) hP
              have hD := cD_ (mw_32 ad N cI cZ cJ u44 ((u44.1 0 32) - (1 : Int32))) hD
              refine lv_iload hx hb dX13_sets_186 (lv_at hl 7 rfl) ?_
              refine lv_if_eq (tgt := 213) hx hb dX13_sets_188 (by decide) (fun h47 => ?_) (fun h47 => ?_)
              · have z48 : pd.toInt = 0 := eq_z rfl (show (0 : Int32).toInt = 0 by decide) h47
                exfalso; omega
              · have z49 : pd.toInt ≠ 0 := ne_z rfl (show (0 : Int32).toInt = 0 by decide) h47
                refine lv_aload_n hx hb dX13_sets_191 rfl (lv_at hl 3 rfl) ?_
                refine lv_iconst (v := 5) hx hb dX13_sets_192 (by decide) ?_
                refine lv_iload hx hb dX13_sets_193 (lv_at hl 0 rfl) ?_
                refine cu_s (mW_nd _ _ _ _ _ _) (rn_S (n := 1) (As := [.int (r7 + (0 : Int32))]) (rest := [.int 5, .ref (ad 0)]) hx hb hml hown ht hKK hFx hP hD hS hA (c_m_slotAt l dC dI cI cB cZ cJ cR tb H.size (r7 + (0 : Int32)) ) tw_74 tw_75 (by decide +kernel) rfl rfl ⟨by show 0 + 1 ≤ 40 * n + 6; omega, by show 8 + (1 + 11) + 0 ≤ 28 * (40 * n + 6); omega⟩ [] rfl rfl rfl hl.1 rfl (Nat.le_of_ble_eq_true rfl) dX13_sets_195 ⟨Nat.le_of_ble_eq_true rfl, Nat.le_of_ble_eq_true rfl⟩) hP hD hS hA (fun r52 H locs hw50 hP hD hS => ?_)
                refine W.widen (k := 0) (n := 0) (by omega) (by omega) ?_
                refine lv_bipush (v := 8) hx hb dX13_sets_198 (by decide) ?_
                refine cu_s (mW_nd _ _ _ _ _ _) (rn_S (n := 3) (As := [.int 5, .int r52, .int 8]) (rest := [.ref (ad 0)]) hx hb hml hown ht hKK hFx hP hD hS hA (c_m_lw l dC dI cI cB cZ cJ cR tb H.size (5 : Int32) r52 (8 : Int32) ) tw_71 tw_72 (by decide +kernel) rfl rfl ⟨by show 1 + 1 ≤ 40 * n + 6; omega, by show 8 + (3 + 11) + 24 ≤ 28 * (40 * n + 6); omega⟩ [] rfl rfl rfl hl.1 rfl (Nat.le_of_ble_eq_true rfl) dX13_sets_200 ⟨Nat.le_of_ble_eq_true rfl, Nat.le_of_ble_eq_true rfl⟩) hP hD hS hA (fun r55 H locs hw53 hP hD hS => ?_)
                refine W.widen (k := 0) (n := 0) (by omega) (by omega) ?_
                refine cu_i (rn_V (n := 1) (As := [.int r55]) (rest := []) hx hb hml hown ht hKK hFx hP hD hS hA (c_m_emit l dC dI cI cB cZ cJ cR tb H.size ad N (wA u44 0 32 ((u44.1 0 32) - (1 : Int32))) r55 (show 0 ≤ (u44.1 0 12).toInt ∧ (u44.1 0 12).toInt < 24000 by omega)) tw_8 tw_9 (by decide +kernel) rfl rfl ⟨by show 0 + 1 ≤ 40 * n + 6; omega, by show 8 + (2 + 11) + 0 ≤ 28 * (40 * n + 6); omega⟩ (List.range (mW ad N cI cZ cJ (wA u44 0 32 ((u44.1 0 32) - (1 : Int32)))).length) (rg_map _) (mW_nd _ _ _ _ _ _) rfl rfl rfl rfl hl.1 rfl (Nat.le_of_ble_eq_true rfl) dX13_sets_203 ⟨Nat.le_of_ble_eq_true rfl, Nat.le_of_ble_eq_true rfl⟩) hP hD hS hA (fun r58 u57 H locs hw56 hP hD hS => ?_)
                obtain ⟨rfl, rfl⟩ := hw56
                have z59 : ((u44.1 0 12) + (1 : Int32)).toInt = (u44.1 0 12).toInt + 1 := add_z rfl (show (1 : Int32).toInt = 1 by decide) (by omega) (by omega)
                have hP : va_P (dC, dI) vwCl (mW ad N cI cZ cJ (wA (wA (wA u44 0 32 ((u44.1 0 32) - (1 : Int32))) 11 ((u44.1 0 12).toNatClampNeg) r55) 0 12 ((u44.1 0 12) + (1 : Int32)))) H := hP
                have hD : va_D A (mW ad N cI cZ cJ (wA (wA (wA u44 0 32 ((u44.1 0 32) - (1 : Int32))) 11 ((u44.1 0 12).toNatClampNeg) r55) 0 12 ((u44.1 0 12) + (1 : Int32)))) := hD
                refine tp_i (y := (u44.1 0 12)) (rfl) ?_
                refine W.widen (k := 0) (n := 0) (by omega) (by omega) ?_
                refine lv_pop hx hb dX13_sets_206 rfl ?_
                refine lv_aload_n hx hb dX13_sets_207 rfl (lv_at hl 3 rfl) ?_
                refine lv_iload hx hb dX13_sets_208 (lv_at hl 7 rfl) ?_
                refine cu_v (rn_V (n := 1) (As := [.int pd]) (rest := []) hx hb hml hown ht hKK hFx hP hD hS hA (c_m_operate l dC dI cI cB cZ cJ cR tb H.size ad N (wA (wA (wA u44 0 32 ((u44.1 0 32) - (1 : Int32))) 11 ((u44.1 0 12).toNatClampNeg) r55) 0 12 ((u44.1 0 12) + (1 : Int32))) pd (show 0 ≤ ((u44.1 0 12) + (1 : Int32)).toInt ∧ ((u44.1 0 12) + (1 : Int32)).toInt ≤ 23980 by omega) (show 0 ≤ (u44.1 0 15).toInt ∧ (u44.1 0 15).toInt ≤ 15980 by omega) (show 0 ≤ (u44.1 0 43).toInt ∧ (u44.1 0 43).toInt ≤ 23980 by omega)) tw_94 tw_95 (by decide +kernel) rfl rfl ⟨by show 2 + 1 ≤ 40 * n + 6; omega, by show 8 + (2 + 11) + 46 ≤ 28 * (40 * n + 6); omega⟩ (List.range (mW ad N cI cZ cJ (wA (wA (wA u44 0 32 ((u44.1 0 32) - (1 : Int32))) 11 ((u44.1 0 12).toNatClampNeg) r55) 0 12 ((u44.1 0 12) + (1 : Int32)))).length) (rg_map _) (mW_nd _ _ _ _ _ _) rfl rfl rfl rfl hl.1 rfl (Nat.le_of_ble_eq_true rfl) dX13_sets_210 ⟨Nat.le_of_ble_eq_true rfl, Nat.le_of_ble_eq_true rfl⟩) hP hD hS hA (fun u61 H locs hw60 hP hD hS => ?_)
                obtain ⟨fr60, pw60, po60, pf60, kc60, ko60, kg60⟩ := hw60
                have q60_2 : (u61.1 0 2).toInt = (u44.1 0 2).toInt := congrArg Int32.toInt ((fr60.2.1 2 (by decide)).trans (show (wA (wA (wA u44 0 32 ((u44.1 0 32) - (1 : Int32))) 11 ((u44.1 0 12).toNatClampNeg) r55) 0 12 ((u44.1 0 12) + (1 : Int32))).1 0 2 = (u44.1 0 2) by rfl))
                have q60_4 : (u61.1 0 4).toInt = (u44.1 0 4).toInt := congrArg Int32.toInt ((fr60.2.1 4 (by decide)).trans (show (wA (wA (wA u44 0 32 ((u44.1 0 32) - (1 : Int32))) 11 ((u44.1 0 12).toNatClampNeg) r55) 0 12 ((u44.1 0 12) + (1 : Int32))).1 0 4 = (u44.1 0 4) by rfl))
                have q60_5 : (u61.1 0 5).toInt = (u44.1 0 5).toInt := congrArg Int32.toInt ((fr60.2.1 5 (by decide)).trans (show (wA (wA (wA u44 0 32 ((u44.1 0 32) - (1 : Int32))) 11 ((u44.1 0 12).toNatClampNeg) r55) 0 12 ((u44.1 0 12) + (1 : Int32))).1 0 5 = (u44.1 0 5) by rfl))
                have q60_22 : (u61.1 0 22).toInt = (u44.1 0 22).toInt := congrArg Int32.toInt ((fr60.2.1 22 (by decide)).trans (show (wA (wA (wA u44 0 32 ((u44.1 0 32) - (1 : Int32))) 11 ((u44.1 0 12).toNatClampNeg) r55) 0 12 ((u44.1 0 12) + (1 : Int32))).1 0 22 = (u44.1 0 22) by rfl))
                have q60_27 : (u61.1 0 27).toInt = (u44.1 0 27).toInt := congrArg Int32.toInt ((fr60.2.1 27 (by decide)).trans (show (wA (wA (wA u44 0 32 ((u44.1 0 32) - (1 : Int32))) 11 ((u44.1 0 12).toNatClampNeg) r55) 0 12 ((u44.1 0 12) + (1 : Int32))).1 0 27 = (u44.1 0 27) by rfl))
                have q60_28 : (u61.1 0 28).toInt = (u44.1 0 28).toInt := congrArg Int32.toInt ((fr60.2.1 28 (by decide)).trans (show (wA (wA (wA u44 0 32 ((u44.1 0 32) - (1 : Int32))) 11 ((u44.1 0 12).toNatClampNeg) r55) 0 12 ((u44.1 0 12) + (1 : Int32))).1 0 28 = (u44.1 0 28) by rfl))
                have q60_30 : (u61.1 0 30).toInt = (u44.1 0 30).toInt := congrArg Int32.toInt ((fr60.2.1 30 (by decide)).trans (show (wA (wA (wA u44 0 32 ((u44.1 0 32) - (1 : Int32))) 11 ((u44.1 0 12).toNatClampNeg) r55) 0 12 ((u44.1 0 12) + (1 : Int32))).1 0 30 = (u44.1 0 30) by rfl))
                have q60_31 : (u61.1 0 31).toInt = (u44.1 0 31).toInt := congrArg Int32.toInt ((fr60.2.1 31 (by decide)).trans (show (wA (wA (wA u44 0 32 ((u44.1 0 32) - (1 : Int32))) 11 ((u44.1 0 12).toNatClampNeg) r55) 0 12 ((u44.1 0 12) + (1 : Int32))).1 0 31 = (u44.1 0 31) by rfl))
                have q60_32 : (u61.1 0 32).toInt = ((u44.1 0 32) - (1 : Int32)).toInt := congrArg Int32.toInt ((fr60.2.1 32 (by decide)).trans (show (wA (wA (wA u44 0 32 ((u44.1 0 32) - (1 : Int32))) 11 ((u44.1 0 12).toNatClampNeg) r55) 0 12 ((u44.1 0 12) + (1 : Int32))).1 0 32 = ((u44.1 0 32) - (1 : Int32)) by rfl))
                have q60_33 : (u61.1 0 33).toInt = (u44.1 0 33).toInt := congrArg Int32.toInt ((fr60.2.1 33 (by decide)).trans (show (wA (wA (wA u44 0 32 ((u44.1 0 32) - (1 : Int32))) 11 ((u44.1 0 12).toNatClampNeg) r55) 0 12 ((u44.1 0 12) + (1 : Int32))).1 0 33 = (u44.1 0 33) by rfl))
                have q60_34 : (u61.1 0 34).toInt = (u44.1 0 34).toInt := congrArg Int32.toInt ((fr60.2.1 34 (by decide)).trans (show (wA (wA (wA u44 0 32 ((u44.1 0 32) - (1 : Int32))) 11 ((u44.1 0 12).toNatClampNeg) r55) 0 12 ((u44.1 0 12) + (1 : Int32))).1 0 34 = (u44.1 0 34) by rfl))
                have q60_39 : (u61.1 0 39).toInt = (u44.1 0 39).toInt := congrArg Int32.toInt ((fr60.2.1 39 (by decide)).trans (show (wA (wA (wA u44 0 32 ((u44.1 0 32) - (1 : Int32))) 11 ((u44.1 0 12).toNatClampNeg) r55) 0 12 ((u44.1 0 12) + (1 : Int32))).1 0 39 = (u44.1 0 39) by rfl))
                have q60_47 : (u61.1 0 47).toInt = (u44.1 0 47).toInt := congrArg Int32.toInt ((fr60.2.1 47 (by decide)).trans (show (wA (wA (wA u44 0 32 ((u44.1 0 32) - (1 : Int32))) 11 ((u44.1 0 12).toNatClampNeg) r55) 0 12 ((u44.1 0 12) + (1 : Int32))).1 0 47 = (u44.1 0 47) by rfl))
                have q60_48 : (u61.1 0 48).toInt = (u44.1 0 48).toInt := congrArg Int32.toInt ((fr60.2.1 48 (by decide)).trans (show (wA (wA (wA u44 0 32 ((u44.1 0 32) - (1 : Int32))) 11 ((u44.1 0 12).toNatClampNeg) r55) 0 12 ((u44.1 0 12) + (1 : Int32))).1 0 48 = (u44.1 0 48) by rfl))
                have q60_49 : (u61.1 0 49).toInt = (u44.1 0 49).toInt := congrArg Int32.toInt ((fr60.2.1 49 (by decide)).trans (show (wA (wA (wA u44 0 32 ((u44.1 0 32) - (1 : Int32))) 11 ((u44.1 0 12).toNatClampNeg) r55) 0 12 ((u44.1 0 12) + (1 : Int32))).1 0 49 = (u44.1 0 49) by rfl))
                have q60_52 : (u61.1 0 52).toInt = (u44.1 0 52).toInt := congrArg Int32.toInt ((fr60.2.1 52 (by decide)).trans (show (wA (wA (wA u44 0 32 ((u44.1 0 32) - (1 : Int32))) 11 ((u44.1 0 12).toNatClampNeg) r55) 0 12 ((u44.1 0 12) + (1 : Int32))).1 0 52 = (u44.1 0 52) by rfl))
                have pw60 : ((u44.1 0 12) + (1 : Int32)).toInt ≤ (u61.1 0 12).toInt ∧ (u61.1 0 12).toInt ≤ ((u44.1 0 12) + (1 : Int32)).toInt + 3 := pw60
                have po60 : (u61.1 0 15).toInt = (u44.1 0 15).toInt + 1 := po60
                have pf60 : (u44.1 0 43).toInt ≤ (u61.1 0 43).toInt ∧ (u61.1 0 43).toInt ≤ (u44.1 0 43).toInt + 1 := pf60
                have kc60 : ∀ j : Nat, (j : Int) < ((u44.1 0 12) + (1 : Int32)).toInt → (u61.1 11) j = (upd (u44.1 11) ((u44.1 0 12).toNatClampNeg) r55) j := kc60
                have ko60 : ∀ j : Nat, (j : Int) < (u44.1 0 15).toInt → (u61.1 13) j = (u44.1 13) j := ko60
                have kg60 : ∀ j : Nat, (j : Int) < (u44.1 0 15).toInt → (u61.1 14) j = (u44.1 14) j := kg60
                refine W.widen (k := 0) (n := 0) (by omega) (by omega) ?_
                refine lv_iload_n hx hb dX13_sets_213 rfl (lv_at hl 6 rfl) ?_
                refine lv_if_eq (tgt := 258) hx hb dX13_sets_214 (by decide) (fun h63 => ?_) (fun h63 => ?_)
                · have z64 : pc1.toInt = 0 := eq_z rfl (show (0 : Int32).toInt = 0 by decide) h63
                  refine lv_aload_n hx hb dX13_sets_258 rfl (lv_at hl 3 rfl) ?_
                  refine lv_iload_n hx hb dX13_sets_259 rfl (lv_at hl 4 rfl) ?_
                  refine lv_iload_n hx hb dX13_sets_260 rfl (lv_at hl 5 rfl) ?_
                  refine cu_v (rn_V (n := 2) (As := [.int pa, .int pb]) (rest := []) hx hb hml hown ht hKK hFx hP hD hS hA (c_m_store l dC dI cI cB cZ cJ cR tb H.size ad N u61 pa pb (show 0 ≤ (u61.1 0 12).toInt ∧ (u61.1 0 12).toInt ≤ 23980 by omega) (show 0 ≤ (u61.1 0 15).toInt ∧ (u61.1 0 15).toInt ≤ 15980 by omega) (show 0 ≤ (u61.1 0 43).toInt ∧ (u61.1 0 43).toInt ≤ 23980 by omega) (show 0 ≤ pa.toInt ∨ (0 ≤ pb.toInt ∧ pb.toInt < 60) by omega)) tw_96 tw_97 (by decide +kernel) rfl rfl ⟨by show 1 + 1 ≤ 40 * n + 6; omega, by show 8 + (3 + 11) + 23 ≤ 28 * (40 * n + 6); omega⟩ (List.range (mW ad N cI cZ cJ u61).length) (rg_map _) (mW_nd _ _ _ _ _ _) rfl rfl rfl rfl hl.1 rfl (Nat.le_of_ble_eq_true rfl) dX13_sets_261 ⟨Nat.le_of_ble_eq_true rfl, Nat.le_of_ble_eq_true rfl⟩) hP hD hS hA (fun u66 H locs hw65 hP hD hS => ?_)
                  obtain ⟨fr65, pw65, po65, pf65, kc65, ko65, kg65⟩ := hw65
                  have q65_2 : (u66.1 0 2).toInt = (u61.1 0 2).toInt := congrArg Int32.toInt ((fr65.2.1 2 (by decide)).trans (show u61.1 0 2 = (u61.1 0 2) by rfl))
                  have q65_4 : (u66.1 0 4).toInt = (u61.1 0 4).toInt := congrArg Int32.toInt ((fr65.2.1 4 (by decide)).trans (show u61.1 0 4 = (u61.1 0 4) by rfl))
                  have q65_5 : (u66.1 0 5).toInt = (u61.1 0 5).toInt := congrArg Int32.toInt ((fr65.2.1 5 (by decide)).trans (show u61.1 0 5 = (u61.1 0 5) by rfl))
                  have q65_22 : (u66.1 0 22).toInt = (u61.1 0 22).toInt := congrArg Int32.toInt ((fr65.2.1 22 (by decide)).trans (show u61.1 0 22 = (u61.1 0 22) by rfl))
                  have q65_27 : (u66.1 0 27).toInt = (u61.1 0 27).toInt := congrArg Int32.toInt ((fr65.2.1 27 (by decide)).trans (show u61.1 0 27 = (u61.1 0 27) by rfl))
                  have q65_28 : (u66.1 0 28).toInt = (u61.1 0 28).toInt := congrArg Int32.toInt ((fr65.2.1 28 (by decide)).trans (show u61.1 0 28 = (u61.1 0 28) by rfl))
                  have q65_30 : (u66.1 0 30).toInt = (u61.1 0 30).toInt := congrArg Int32.toInt ((fr65.2.1 30 (by decide)).trans (show u61.1 0 30 = (u61.1 0 30) by rfl))
                  have q65_31 : (u66.1 0 31).toInt = (u61.1 0 31).toInt := congrArg Int32.toInt ((fr65.2.1 31 (by decide)).trans (show u61.1 0 31 = (u61.1 0 31) by rfl))
                  have q65_32 : (u66.1 0 32).toInt = (u61.1 0 32).toInt := congrArg Int32.toInt ((fr65.2.1 32 (by decide)).trans (show u61.1 0 32 = (u61.1 0 32) by rfl))
                  have q65_33 : (u66.1 0 33).toInt = (u61.1 0 33).toInt := congrArg Int32.toInt ((fr65.2.1 33 (by decide)).trans (show u61.1 0 33 = (u61.1 0 33) by rfl))
                  have q65_34 : (u66.1 0 34).toInt = (u61.1 0 34).toInt := congrArg Int32.toInt ((fr65.2.1 34 (by decide)).trans (show u61.1 0 34 = (u61.1 0 34) by rfl))
                  have q65_39 : (u66.1 0 39).toInt = (u61.1 0 39).toInt := congrArg Int32.toInt ((fr65.2.1 39 (by decide)).trans (show u61.1 0 39 = (u61.1 0 39) by rfl))
                  have q65_47 : (u66.1 0 47).toInt = (u61.1 0 47).toInt := congrArg Int32.toInt ((fr65.2.1 47 (by decide)).trans (show u61.1 0 47 = (u61.1 0 47) by rfl))
                  have q65_48 : (u66.1 0 48).toInt = (u61.1 0 48).toInt := congrArg Int32.toInt ((fr65.2.1 48 (by decide)).trans (show u61.1 0 48 = (u61.1 0 48) by rfl))
                  have q65_49 : (u66.1 0 49).toInt = (u61.1 0 49).toInt := congrArg Int32.toInt ((fr65.2.1 49 (by decide)).trans (show u61.1 0 49 = (u61.1 0 49) by rfl))
                  have q65_52 : (u66.1 0 52).toInt = (u61.1 0 52).toInt := congrArg Int32.toInt ((fr65.2.1 52 (by decide)).trans (show u61.1 0 52 = (u61.1 0 52) by rfl))
                  have pw65 : (u61.1 0 12).toInt ≤ (u66.1 0 12).toInt ∧ (u66.1 0 12).toInt ≤ (u61.1 0 12).toInt + 2 := pw65
                  have po65 : (u66.1 0 15).toInt = (u61.1 0 15).toInt + 1 := po65
                  have pf65 : (u61.1 0 43).toInt ≤ (u66.1 0 43).toInt ∧ (u66.1 0 43).toInt ≤ (u61.1 0 43).toInt + 2 := pf65
                  have kc65 : ∀ j : Nat, (j : Int) < (u61.1 0 12).toInt → (u66.1 11) j = (u61.1 11) j := kc65
                  have ko65 : ∀ j : Nat, (j : Int) < (u61.1 0 15).toInt → (u66.1 13) j = (u61.1 13) j := ko65
                  have kg65 : ∀ j : Nat, (j : Int) < (u61.1 0 15).toInt → (u66.1 14) j = (u61.1 14) j := kg65
                  refine W.widen (k := 0) (n := 0) (by omega) (by omega) ?_
                  refine lv_aload_n hx hb dX13_sets_264 rfl (lv_at hl 3 rfl) ?_
                  refine lv_dup hx hb dX13_sets_265 rfl ?_
                  refine va_get (D := (dC, dI)) (ci := 16) (fs := mF ad u66) (v := .int (u66.1 0 48)) (C := RX13) (T := TX13) (N := 124) hx hb ht itX13 hown hK hP 0 rfl rfl 48 (by decide) (ht _ tw_31) (fun _ h9 => h9) rfl dX13_sets_266 ?_
                  refine lv_iconst (v := 1) hx hb dX13_sets_269 (by decide) ?_
                  refine lv_isub hx hb dX13_sets_270 ?_
                  have z68 : ((u66.1 0 48) - (1 : Int32)).toInt = (u66.1 0 48).toInt - 1 := sub_z rfl (show (1 : Int32).toInt = 1 by decide) (by omega) (by omega)
                  refine va_put (D := (dC, dI)) (ci := 16) (fs := mF ad u66) (v := .int ((u66.1 0 48) - (1 : Int32))) (ty := .int) (C := RX13) (T := TX13) (N := 124) hx hb ht itX13 tyX13 tyX13_ok nmX13 hown hK hP hD hS 0 rfl rfl 48 (by decide) (ht _ tw_31) (fun _ h9 => h9) rfl (by decide +kernel) rfl rfl (Nat.le_of_ble_eq_true rfl) dX13_sets_271 (fun H locs hP hD hS => ?_)
                  have hP := cP_ (mw_48 ad N cI cZ cJ u66 ((u66.1 0 48) - (1 : Int32))) hP
                  have hD := cD_ (mw_48 ad N cI cZ cJ u66 ((u66.1 0 48) - (1 : Int32))) hD
                  refine vx_ret ?_
                  exact W.vret hx hb hr (fun t ht9 hW => ⟨⟨(wA u66 0 48 ((u66.1 0 48) - (1 : Int32))), rfl, ⟨(FG.f (FG.tr (FG.tr (FG.f (FG.a (FG.f (FG.tr (FG.f (FG.f (FG.a (FG.tr (FG.f (FG.f (FG.tr (FG.tr (FG.rf _) (FG.up fr5 (by decide) (by decide))) (FG.up fr11 (by decide) (by decide))) ((u12.1 0 47) + (1 : Int32)) (by decide)) ((u12.1 0 48) + (1 : Int32)) (by decide)) (FG.up fr24 (by decide) (by decide))) ((u25.1 0 12).toNatClampNeg) r35 (by decide) (by decide)) ((u25.1 0 12) + (1 : Int32)) (by decide)) ((u25.1 0 32) + (1 : Int32)) (by decide)) (FG.up fr43 (by decide) (by decide))) ((u44.1 0 32) - (1 : Int32)) (by decide)) ((u44.1 0 12).toNatClampNeg) r55 (by decide) (by decide)) ((u44.1 0 12) + (1 : Int32)) (by decide)) (FG.up fr60 (by decide) (by decide))) (FG.up fr65 (by decide) (by decide))) ((u66.1 0 48) - (1 : Int32)) (by decide)), (show (v.1 0 47).toInt + 1 ≤ (u66.1 0 47).toInt ∧ (u66.1 0 47).toInt ≤ 1500 by omega), (show (v.1 0 49).toInt ≠ (v.1 0 47).toInt by omega), (show (v.1 0 12).toInt ≤ (u66.1 0 12).toInt ∧ (u66.1 0 12).toInt - 15 * (u66.1 0 47).toInt ≤ (v.1 0 12).toInt - 15 * (v.1 0 47).toInt by omega), (show (v.1 0 15).toInt ≤ (u66.1 0 15).toInt ∧ (u66.1 0 15).toInt - 10 * (u66.1 0 47).toInt ≤ (v.1 0 15).toInt - 10 * (v.1 0 47).toInt by omega), (show (v.1 0 43).toInt ≤ (u66.1 0 43).toInt ∧ (u66.1 0 43).toInt - 15 * (u66.1 0 47).toInt ≤ (v.1 0 43).toInt - 15 * (v.1 0 47).toInt by omega), (show (v.1 0 39).toInt ≤ (u66.1 0 39).toInt ∧ (u66.1 0 39).toInt - 1 * (u66.1 0 47).toInt ≤ (v.1 0 39).toInt - 1 * (v.1 0 47).toInt by omega), (show (u66.1 0 32).toInt = (v.1 0 32).toInt ∧ ((u66.1 0 48) - (1 : Int32)).toInt = (v.1 0 48).toInt by omega), (show (v.1 0 33).toInt ≤ (u66.1 0 33).toInt ∧ (u66.1 0 33).toInt ≤ 500 by omega), (fun (j9 : Nat) hj9 => (Eq.trans (kc65 j9 (by omega)) (Eq.trans (kc60 j9 (by omega)) (Eq.trans (pk_un (by have := cl_z (a := (u44.1 0 12).toInt) rfl (by omega); omega)) (Eq.trans (kc43 j9 (by omega)) (Eq.trans (pk_un (by have := cl_z (a := (u25.1 0 12).toInt) rfl (by omega); omega)) (Eq.trans (kc24 j9 (by omega)) (Eq.trans (congrFun (fr11.2.2 11 (by decide)) j9) (congrFun (fr5.2.2 11 (by decide)) j9))))))))), (fun (j9 : Nat) hj9 => (Eq.trans (ko65 j9 (by omega)) (Eq.trans (ko60 j9 (by omega)) (Eq.trans (ko43 j9 (by omega)) (Eq.trans (ko24 j9 (by omega)) (Eq.trans (congrFun (fr11.2.2 13 (by decide)) j9) (congrFun (fr5.2.2 13 (by decide)) j9))))))), (fun (j9 : Nat) hj9 => (Eq.trans (kg65 j9 (by omega)) (Eq.trans (kg60 j9 (by omega)) (Eq.trans (kg43 j9 (by omega)) (Eq.trans (kg24 j9 (by omega)) (Eq.trans (congrFun (fr11.2.2 14 (by decide)) j9) (congrFun (fr5.2.2 14 (by decide)) j9))))))), (show NI 35 u66 from NI.fr (fl := [12, 15, 43]) (al := [0, 11, 13, 14, 40, 41, 42]) fr65 (by decide) (show NI 35 u61 from NI.fr (fl := [12, 15, 43]) (al := [0, 11, 13, 14, 40, 41, 42]) fr60 (by decide) n3543))⟩, by rw [ht9]; exact hP, hD⟩, hS.F ht9⟩) hS.2.2 dX13_sets_274
                · have z69 : pc1.toInt ≠ 0 := ne_z rfl (show (0 : Int32).toInt = 0 by decide) h63
                  exfalso; omega
        · have z70 : pc1.toInt ≠ 0 := ne_z rfl (show (0 : Int32).toInt = 0 by decide) h19
          exfalso; omega
      · have z71 : pc1.toInt ≠ 0 := ne_z rfl (show (0 : Int32).toInt = 0 by decide) h8
        exfalso; omega
    · have z72 : pd.toInt = 0 := eq_z rfl (show (0 : Int32).toInt = 0 by decide) h3
      refine lv_iconst (v := 0) hx hb dX13_sets_14 (by decide) ?_
      refine lv_goto (tgt := 19) hx hb dX13_sets_15 (by decide) ?_
      refine lv_iadd hx hb dX13_sets_19 ?_
      refine tp_i (y := 0) (by decide) ?_
      refine lv_istore (lv' := [(5, .int 0), (0, .ref (ad 0)), (1, .int pa), (2, .int pb), (3, .int pc1), (4, .int pd)]) hx hb dX13_sets_20 hl (by decide) rfl (fun ls hl => ?_)
      refine lv_aload_n hx hb dX13_sets_22 rfl (lv_at hl 1 rfl) ?_
      refine lv_iload hx hb dX13_sets_23 (lv_at hl 0 rfl) ?_
      refine cu_i (rn_V (n := 1) (As := [.int 0]) (rest := []) hx hb hml hown ht hKK hFx hP hD hS hA (c_m_slots l dC dI cI cB cZ cJ cR tb s.heap.size ad N v (0 : Int32) (show 0 ≤ (v.1 0 30).toInt ∧ (v.1 0 30).toInt ≤ 500 by omega) (show 0 ≤ (v.1 0 32).toInt ∧ (v.1 0 32).toInt ≤ 2000 by omega) (show 0 ≤ (v.1 0 33).toInt ∧ (v.1 0 33).toInt ≤ 500 by omega) (show 0 ≤ 0 ∧ 0 ≤ 8 by omega)) tw_88 tw_89 (by decide +kernel) rfl rfl ⟨by show 0 + 1 ≤ 40 * n + 6; omega, by show 8 + (3 + 11) + 0 ≤ 28 * (40 * n + 6); omega⟩ (List.range (mW ad N cI cZ cJ v).length) (rg_map _) (mW_nd _ _ _ _ _ _) rfl rfl rfl rfl hl.1 rfl (Nat.le_of_ble_eq_true rfl) dX13_sets_25 ⟨Nat.le_of_ble_eq_true rfl, Nat.le_of_ble_eq_true rfl⟩) hP hD hS hA (fun r75 u74 H locs hw73 hP hD hS => ?_)
      obtain ⟨fr73, sr73, sb73, sh73⟩ := hw73
      have q73_2 : (u74.1 0 2).toInt = (v.1 0 2).toInt := congrArg Int32.toInt ((fr73.2.1 2 (by decide)).trans (show v.1 0 2 = (v.1 0 2) by rfl))
      have q73_4 : (u74.1 0 4).toInt = (v.1 0 4).toInt := congrArg Int32.toInt ((fr73.2.1 4 (by decide)).trans (show v.1 0 4 = (v.1 0 4) by rfl))
      have q73_5 : (u74.1 0 5).toInt = (v.1 0 5).toInt := congrArg Int32.toInt ((fr73.2.1 5 (by decide)).trans (show v.1 0 5 = (v.1 0 5) by rfl))
      have q73_12 : (u74.1 0 12).toInt = (v.1 0 12).toInt := congrArg Int32.toInt ((fr73.2.1 12 (by decide)).trans (show v.1 0 12 = (v.1 0 12) by rfl))
      have q73_15 : (u74.1 0 15).toInt = (v.1 0 15).toInt := congrArg Int32.toInt ((fr73.2.1 15 (by decide)).trans (show v.1 0 15 = (v.1 0 15) by rfl))
      have q73_22 : (u74.1 0 22).toInt = (v.1 0 22).toInt := congrArg Int32.toInt ((fr73.2.1 22 (by decide)).trans (show v.1 0 22 = (v.1 0 22) by rfl))
      have q73_27 : (u74.1 0 27).toInt = (v.1 0 27).toInt := congrArg Int32.toInt ((fr73.2.1 27 (by decide)).trans (show v.1 0 27 = (v.1 0 27) by rfl))
      have q73_28 : (u74.1 0 28).toInt = (v.1 0 28).toInt := congrArg Int32.toInt ((fr73.2.1 28 (by decide)).trans (show v.1 0 28 = (v.1 0 28) by rfl))
      have q73_30 : (u74.1 0 30).toInt = (v.1 0 30).toInt := congrArg Int32.toInt ((fr73.2.1 30 (by decide)).trans (show v.1 0 30 = (v.1 0 30) by rfl))
      have q73_31 : (u74.1 0 31).toInt = (v.1 0 31).toInt := congrArg Int32.toInt ((fr73.2.1 31 (by decide)).trans (show v.1 0 31 = (v.1 0 31) by rfl))
      have q73_32 : (u74.1 0 32).toInt = (v.1 0 32).toInt := congrArg Int32.toInt ((fr73.2.1 32 (by decide)).trans (show v.1 0 32 = (v.1 0 32) by rfl))
      have q73_34 : (u74.1 0 34).toInt = (v.1 0 34).toInt := congrArg Int32.toInt ((fr73.2.1 34 (by decide)).trans (show v.1 0 34 = (v.1 0 34) by rfl))
      have q73_39 : (u74.1 0 39).toInt = (v.1 0 39).toInt := congrArg Int32.toInt ((fr73.2.1 39 (by decide)).trans (show v.1 0 39 = (v.1 0 39) by rfl))
      have q73_43 : (u74.1 0 43).toInt = (v.1 0 43).toInt := congrArg Int32.toInt ((fr73.2.1 43 (by decide)).trans (show v.1 0 43 = (v.1 0 43) by rfl))
      have q73_47 : (u74.1 0 47).toInt = (v.1 0 47).toInt := congrArg Int32.toInt ((fr73.2.1 47 (by decide)).trans (show v.1 0 47 = (v.1 0 47) by rfl))
      have q73_48 : (u74.1 0 48).toInt = (v.1 0 48).toInt := congrArg Int32.toInt ((fr73.2.1 48 (by decide)).trans (show v.1 0 48 = (v.1 0 48) by rfl))
      have q73_52 : (u74.1 0 52).toInt = (v.1 0 52).toInt := congrArg Int32.toInt ((fr73.2.1 52 (by decide)).trans (show v.1 0 52 = (v.1 0 52) by rfl))
      have sb73 : ((v.1 0 30).toInt + (v.1 0 32).toInt + 0 ≤ (u74.1 0 33).toInt ∧ (u74.1 0 49).toInt = (v.1 0 49).toInt) ∨ (u74.1 0 49).toInt = (v.1 0 47).toInt := sb73
      refine W.widen (k := 0) (n := 0) (by omega) (by omega) ?_
      refine lv_istore (lv' := [(6, .int r75), (5, .int 0), (0, .ref (ad 0)), (1, .int pa), (2, .int pb), (3, .int pc1), (4, .int pd)]) hx hb dX13_sets_28 hl (by decide) rfl (fun ls hl => ?_)
      refine lv_iload hx hb dX13_sets_30 (lv_at hl 0 rfl) ?_
      refine lv_iload_n hx hb dX13_sets_32 rfl (lv_at hl 5 rfl) ?_
      refine lv_if_eq (tgt := 40) hx hb dX13_sets_33 (by decide) (fun h76 => ?_) (fun h76 => ?_)
      · have z77 : pc1.toInt = 0 := eq_z rfl (show (0 : Int32).toInt = 0 by decide) h76
        refine lv_iconst (v := 0) hx hb dX13_sets_40 (by decide) ?_
        refine lv_iadd hx hb dX13_sets_41 ?_
        have z78 : (r75 + (0 : Int32)).toInt = r75.toInt + 0 := add_z rfl (show (0 : Int32).toInt = 0 by decide) (by omega) (by omega)
        refine lv_istore (lv' := [(7, .int (r75 + (0 : Int32))), (6, .int r75), (5, .int 0), (0, .ref (ad 0)), (1, .int pa), (2, .int pb), (3, .int pc1), (4, .int pd)]) hx hb dX13_sets_42 hl (by decide) rfl (fun ls hl => ?_)
        refine lv_aload_n hx hb dX13_sets_44 rfl (lv_at hl 3 rfl) ?_
        refine lv_iload hx hb dX13_sets_45 (lv_at hl 7 rfl) ?_
        refine cu_v (rn_V (n := 1) (As := [.int pd]) (rest := []) hx hb hml hown ht hKK hFx hP hD hS hA (c_m_remember l dC dI cI cB cZ cJ cR tb H.size ad N u74 pd ) tw_90 tw_91 (by decide +kernel) rfl rfl ⟨by show 0 + 1 ≤ 40 * n + 6; omega, by show 8 + (2 + 11) + 0 ≤ 28 * (40 * n + 6); omega⟩ (List.range (mW ad N cI cZ cJ u74).length) (rg_map _) (mW_nd _ _ _ _ _ _) rfl rfl rfl rfl hl.1 rfl (Nat.le_of_ble_eq_true rfl) dX13_sets_47 ⟨Nat.le_of_ble_eq_true rfl, Nat.le_of_ble_eq_true rfl⟩) hP hD hS hA (fun u80 H locs hw79 hP hD hS => ?_)
        have fr79 := hw79
        have q79_2 : (u80.1 0 2).toInt = (u74.1 0 2).toInt := congrArg Int32.toInt ((fr79.2.1 2 (by decide)).trans (show u74.1 0 2 = (u74.1 0 2) by rfl))
        have q79_4 : (u80.1 0 4).toInt = (u74.1 0 4).toInt := congrArg Int32.toInt ((fr79.2.1 4 (by decide)).trans (show u74.1 0 4 = (u74.1 0 4) by rfl))
        have q79_5 : (u80.1 0 5).toInt = (u74.1 0 5).toInt := congrArg Int32.toInt ((fr79.2.1 5 (by decide)).trans (show u74.1 0 5 = (u74.1 0 5) by rfl))
        have q79_12 : (u80.1 0 12).toInt = (u74.1 0 12).toInt := congrArg Int32.toInt ((fr79.2.1 12 (by decide)).trans (show u74.1 0 12 = (u74.1 0 12) by rfl))
        have q79_15 : (u80.1 0 15).toInt = (u74.1 0 15).toInt := congrArg Int32.toInt ((fr79.2.1 15 (by decide)).trans (show u74.1 0 15 = (u74.1 0 15) by rfl))
        have q79_22 : (u80.1 0 22).toInt = (u74.1 0 22).toInt := congrArg Int32.toInt ((fr79.2.1 22 (by decide)).trans (show u74.1 0 22 = (u74.1 0 22) by rfl))
        have q79_27 : (u80.1 0 27).toInt = (u74.1 0 27).toInt := congrArg Int32.toInt ((fr79.2.1 27 (by decide)).trans (show u74.1 0 27 = (u74.1 0 27) by rfl))
        have q79_28 : (u80.1 0 28).toInt = (u74.1 0 28).toInt := congrArg Int32.toInt ((fr79.2.1 28 (by decide)).trans (show u74.1 0 28 = (u74.1 0 28) by rfl))
        have q79_30 : (u80.1 0 30).toInt = (u74.1 0 30).toInt := congrArg Int32.toInt ((fr79.2.1 30 (by decide)).trans (show u74.1 0 30 = (u74.1 0 30) by rfl))
        have q79_31 : (u80.1 0 31).toInt = (u74.1 0 31).toInt := congrArg Int32.toInt ((fr79.2.1 31 (by decide)).trans (show u74.1 0 31 = (u74.1 0 31) by rfl))
        have q79_32 : (u80.1 0 32).toInt = (u74.1 0 32).toInt := congrArg Int32.toInt ((fr79.2.1 32 (by decide)).trans (show u74.1 0 32 = (u74.1 0 32) by rfl))
        have q79_33 : (u80.1 0 33).toInt = (u74.1 0 33).toInt := congrArg Int32.toInt ((fr79.2.1 33 (by decide)).trans (show u74.1 0 33 = (u74.1 0 33) by rfl))
        have q79_34 : (u80.1 0 34).toInt = (u74.1 0 34).toInt := congrArg Int32.toInt ((fr79.2.1 34 (by decide)).trans (show u74.1 0 34 = (u74.1 0 34) by rfl))
        have q79_39 : (u80.1 0 39).toInt = (u74.1 0 39).toInt := congrArg Int32.toInt ((fr79.2.1 39 (by decide)).trans (show u74.1 0 39 = (u74.1 0 39) by rfl))
        have q79_43 : (u80.1 0 43).toInt = (u74.1 0 43).toInt := congrArg Int32.toInt ((fr79.2.1 43 (by decide)).trans (show u74.1 0 43 = (u74.1 0 43) by rfl))
        have q79_47 : (u80.1 0 47).toInt = (u74.1 0 47).toInt := congrArg Int32.toInt ((fr79.2.1 47 (by decide)).trans (show u74.1 0 47 = (u74.1 0 47) by rfl))
        have q79_48 : (u80.1 0 48).toInt = (u74.1 0 48).toInt := congrArg Int32.toInt ((fr79.2.1 48 (by decide)).trans (show u74.1 0 48 = (u74.1 0 48) by rfl))
        have q79_49 : (u80.1 0 49).toInt = (u74.1 0 49).toInt := congrArg Int32.toInt ((fr79.2.1 49 (by decide)).trans (show u74.1 0 49 = (u74.1 0 49) by rfl))
        have q79_52 : (u80.1 0 52).toInt = (u74.1 0 52).toInt := congrArg Int32.toInt ((fr79.2.1 52 (by decide)).trans (show u74.1 0 52 = (u74.1 0 52) by rfl))
        refine W.widen (k := 0) (n := 0) (by omega) (by omega) ?_
        refine lv_aload_n hx hb dX13_sets_50 rfl (lv_at hl 3 rfl) ?_
        refine cux_v (rx_V (n := 0) (As := []) (rest := []) hx hb hml hown ht hKK hFx hP hD hS hA (c_m_opens l dC dI cI cB cZ cJ cR tb H.size ad N u80  (show 0 ≤ (u80.1 0 47).toInt ∧ (u80.1 0 47).toInt ≤ 1500 by omega) (show 0 ≤ (u80.1 0 48).toInt ∧ (u80.1 0 48).toInt ≤ 40 by omega)) tw_38 tw_39 (by decide +kernel) rfl rfl ⟨by show 2 + 1 ≤ 40 * n + 6; omega, by show 8 + (1 + 11) + 42 ≤ 28 * (40 * n + 6); omega⟩ (List.range (mW ad N cI cZ cJ u80).length) (rg_map _) (mW_nd _ _ _ _ _ _) rfl rfl rfl rfl hl.1 rfl (Nat.le_of_ble_eq_true rfl) dX13_sets_51 ⟨Nat.le_of_ble_eq_true rfl, Nat.le_of_ble_eq_true rfl⟩) hP hD hS hA (fun u9 ce9 q9 H locs hx9 hP hD hS hc9 hv9 hf9 => ?_) (fun u83 H locs hw82 hP hD hS => ?_)
        · exact vx_out (fun x h9 => (hnt x h9).elim) hlocks hc9 hv9 hf9 (fun t9 ht9 hv8 => ⟨u9, (FG.tr (FG.tr (FG.tr (FG.rf _) (FG.up fr73 (by decide) (by decide))) (FG.up fr79 (by decide) (by decide))) hx9), ⟨rfl, by rw [ht9]; exact hP, hD⟩, hS.F ht9⟩) hS.2.2 (by omega) (by omega)
        obtain ⟨rfl, a82, b82, c82⟩ := hw82
        have z85 : ((u80.1 0 47) + (1 : Int32)).toInt = (u80.1 0 47).toInt + 1 := add_z rfl (show (1 : Int32).toInt = 1 by decide) (by omega) (by omega)
        have z86 : ((u80.1 0 48) + (1 : Int32)).toInt = (u80.1 0 48).toInt + 1 := add_z rfl (show (1 : Int32).toInt = 1 by decide) (by omega) (by omega)
        have hP : va_P (dC, dI) vwCl (mW ad N cI cZ cJ (wA (wA u80 0 47 ((u80.1 0 47) + (1 : Int32))) 0 48 ((u80.1 0 48) + (1 : Int32)))) H := hP
        have hD : va_D A (mW ad N cI cZ cJ (wA (wA u80 0 47 ((u80.1 0 47) + (1 : Int32))) 0 48 ((u80.1 0 48) + (1 : Int32)))) := hD
        have a82 : (u80.1 0 47).toInt < 1500 := a82
        have b82 : (u80.1 0 48).toInt < 40 := b82
        have c82 : (u80.1 0 49).toInt ≠ (u80.1 0 47).toInt := c82
        refine W.widen (k := 0) (n := 0) (by omega) (by omega) ?_
        refine lv_iload_n hx hb dX13_sets_54 rfl (lv_at hl 6 rfl) ?_
        refine lv_if_eq (tgt := 127) hx hb dX13_sets_55 (by decide) (fun h87 => ?_) (fun h87 => ?_)
        · have z88 : pc1.toInt = 0 := eq_z rfl (show (0 : Int32).toInt = 0 by decide) h87
          refine lv_iload hx hb dX13_sets_127 (lv_at hl 7 rfl) ?_
          refine lv_if_eq (tgt := 138) hx hb dX13_sets_129 (by decide) (fun h89 => ?_) (fun h89 => ?_)
          · have z90 : pd.toInt = 0 := eq_z rfl (show (0 : Int32).toInt = 0 by decide) h89
            refine lv_iload hx hb dX13_sets_138 (lv_at hl 7 rfl) ?_
            refine lv_if_eq (tgt := 160) hx hb dX13_sets_140 (by decide) (fun h91 => ?_) (fun h91 => ?_)
            · have z92 : pd.toInt = 0 := eq_z rfl (show (0 : Int32).toInt = 0 by decide) h91
              refine lv_aload_n hx hb dX13_sets_160 rfl (lv_at hl 3 rfl) ?_
              refine lv_dup hx hb dX13_sets_161 rfl ?_
              refine va_get (D := (dC, dI)) (ci := 16) (fs := mF ad (wA (wA u80 0 47 ((u80.1 0 47) + (1 : Int32))) 0 48 ((u80.1 0 48) + (1 : Int32)))) (v := .int (u80.1 0 32)) (C := RX13) (T := TX13) (N := 124) hx hb ht itX13 hown hK hP 0 rfl rfl 32 (by decide) (ht _ tw_52) (fun _ h9 => h9) rfl dX13_sets_162 ?_
              refine lv_iload hx hb dX13_sets_165 (lv_at hl 2 rfl) ?_
              refine lv_iadd hx hb dX13_sets_167 ?_
              have z93 : ((u80.1 0 32) + (0 : Int32)).toInt = (u80.1 0 32).toInt + 0 := add_z rfl (show (0 : Int32).toInt = 0 by decide) (by omega) (by omega)
              refine va_put (D := (dC, dI)) (ci := 16) (fs := mF ad (wA (wA u80 0 47 ((u80.1 0 47) + (1 : Int32))) 0 48 ((u80.1 0 48) + (1 : Int32)))) (v := .int ((u80.1 0 32) + (0 : Int32))) (ty := .int) (C := RX13) (T := TX13) (N := 124) hx hb ht itX13 tyX13 tyX13_ok nmX13 hown hK hP hD hS 0 rfl rfl 32 (by decide) (ht _ tw_52) (fun _ h9 => h9) rfl (by decide +kernel) rfl rfl (Nat.le_of_ble_eq_true rfl) dX13_sets_168 (fun H locs hP hD hS => ?_)
              have hP := cP_ (mw_32 ad N cI cZ cJ (wA (wA u80 0 47 ((u80.1 0 47) + (1 : Int32))) 0 48 ((u80.1 0 48) + (1 : Int32))) ((u80.1 0 32) + (0 : Int32))) hP
              have hD := cD_ (mw_32 ad N cI cZ cJ (wA (wA u80 0 47 ((u80.1 0 47) + (1 : Int32))) 0 48 ((u80.1 0 48) + (1 : Int32))) ((u80.1 0 32) + (0 : Int32))) hD
              refine lv_aload_n hx hb dX13_sets_171 rfl (lv_at hl 3 rfl) ?_
              obtain ⟨n94, hn95⟩ : ∃ m, n = m + 1 := ⟨n - 1, by omega⟩
              refine cux_v (rx_V (n := 0) (As := []) (rest := []) hx hb hml hown ht hKK hFx hP hD hS hA (ihE n94 hn95 dC dI cI cB cZ cJ cR tb H.size ad N (wA (wA (wA u80 0 47 ((u80.1 0 47) + (1 : Int32))) 0 48 ((u80.1 0 48) + (1 : Int32))) 0 32 ((u80.1 0 32) + (0 : Int32)))  (show 40 ≤ ((u80.1 0 48) + (1 : Int32)).toInt + (n94 : Int) by omega) (show 0 ≤ ((u80.1 0 47) + (1 : Int32)).toInt ∧ ((u80.1 0 47) + (1 : Int32)).toInt ≤ 1500 by omega) (show 0 ≤ ((u80.1 0 48) + (1 : Int32)).toInt ∧ ((u80.1 0 48) + (1 : Int32)).toInt ≤ 40 by omega) (show 0 ≤ (u80.1 0 30).toInt ∧ (u80.1 0 30).toInt ≤ 500 by omega) (show 0 ≤ (u80.1 0 33).toInt ∧ (u80.1 0 33).toInt ≤ 500 by omega) (show 0 ≤ ((u80.1 0 32) + (0 : Int32)).toInt ∧ (u80.1 0 30).toInt + ((u80.1 0 32) + (0 : Int32)).toInt ≤ 500 by omega) (show 0 ≤ (u80.1 0 12).toInt ∧ (u80.1 0 12).toInt ≤ 15 * ((u80.1 0 47) + (1 : Int32)).toInt + 2 by omega) (show 0 ≤ (u80.1 0 15).toInt ∧ (u80.1 0 15).toInt ≤ 10 * ((u80.1 0 47) + (1 : Int32)).toInt + 0 by omega) (show 0 ≤ (u80.1 0 43).toInt ∧ (u80.1 0 43).toInt ≤ 15 * ((u80.1 0 47) + (1 : Int32)).toInt + 0 by omega) (show 0 ≤ (u80.1 0 39).toInt ∧ (u80.1 0 39).toInt ≤ 1 * ((u80.1 0 47) + (1 : Int32)).toInt + 0 by omega) (show 0 ≤ (u80.1 0 27).toInt ∧ (u80.1 0 27).toInt ≤ 60 by omega) (FG.ti (fl := pfl) (al := pal) (FG.f (FG.f (FG.f (FG.tr (FG.tr (FG.rf _) (FG.up fr73 (by decide) (by decide))) (FG.up fr79 (by decide) (by decide))) ((u80.1 0 47) + (1 : Int32)) (by decide)) ((u80.1 0 48) + (1 : Int32)) (by decide)) ((u80.1 0 32) + (0 : Int32)) (by decide)) (by decide) (by decide) hT) ((show NI 29 u80 from NI.fr (fl := [44, 45]) (al := [0]) fr79 (by decide) (show NI 29 u74 from NI.fr (fl := [33, 49]) (al := [0]) fr73 (by decide) n29))) ((show NI 23 u80 from NI.fr (fl := [44, 45]) (al := [0]) fr79 (by decide) (show NI 23 u74 from NI.fr (fl := [33, 49]) (al := [0]) fr73 (by decide) n23))) ((show NI 35 u80 from NI.fr (fl := [44, 45]) (al := [0]) fr79 (by decide) (show NI 35 u74 from NI.fr (fl := [33, 49]) (al := [0]) fr73 (by decide) n35)))) tw_80 tw_81 (by decide +kernel) rfl rfl ⟨by show (40 * n94 + 36) + 1 ≤ 40 * n + 6; omega, by show 8 + (1 + 11) + 28 * (40 * n94 + 36) ≤ 28 * (40 * n + 6); omega⟩ (List.range (mW ad N cI cZ cJ (wA (wA (wA u80 0 47 ((u80.1 0 47) + (1 : Int32))) 0 48 ((u80.1 0 48) + (1 : Int32))) 0 32 ((u80.1 0 32) + (0 : Int32)))).length) (rg_map _) (mW_nd _ _ _ _ _ _) rfl rfl rfl rfl hl.1 rfl (Nat.le_of_ble_eq_true rfl) dX13_sets_172 ⟨Nat.le_of_ble_eq_true rfl, Nat.le_of_ble_eq_true rfl⟩) hP hD hS hA (fun u9 ce9 q9 H locs hx9 hP hD hS hc9 hv9 hf9 => ?_) (fun u97 H locs hw96 hP hD hS => ?_)
              · exact vx_out (fun x h9 => (hnt x h9).elim) hlocks hc9 hv9 hf9 (fun t9 ht9 hv8 => ⟨u9, (FG.tr (FG.f (FG.f (FG.f (FG.tr (FG.tr (FG.rf _) (FG.up fr73 (by decide) (by decide))) (FG.up fr79 (by decide) (by decide))) ((u80.1 0 47) + (1 : Int32)) (by decide)) ((u80.1 0 48) + (1 : Int32)) (by decide)) ((u80.1 0 32) + (0 : Int32)) (by decide)) hx9), ⟨rfl, by rw [ht9]; exact hP, hD⟩, hS.F ht9⟩) hS.2.2 (by omega) (by omega)
              obtain ⟨fr96, pt96, pb96, pw96, po96, pf96, pk96, pp96, ph96, kc96, ko96, kg96, n3596⟩ := hw96
              have q96_2 : (u97.1 0 2).toInt = (u80.1 0 2).toInt := congrArg Int32.toInt ((fr96.2.1 2 (by decide)).trans (show (wA (wA (wA u80 0 47 ((u80.1 0 47) + (1 : Int32))) 0 48 ((u80.1 0 48) + (1 : Int32))) 0 32 ((u80.1 0 32) + (0 : Int32))).1 0 2 = (u80.1 0 2) by rfl))
              have q96_4 : (u97.1 0 4).toInt = (u80.1 0 4).toInt := congrArg Int32.toInt ((fr96.2.1 4 (by decide)).trans (show (wA (wA (wA u80 0 47 ((u80.1 0 47) + (1 : Int32))) 0 48 ((u80.1 0 48) + (1 : Int32))) 0 32 ((u80.1 0 32) + (0 : Int32))).1 0 4 = (u80.1 0 4) by rfl))
              have q96_5 : (u97.1 0 5).toInt = (u80.1 0 5).toInt := congrArg Int32.toInt ((fr96.2.1 5 (by decide)).trans (show (wA (wA (wA u80 0 47 ((u80.1 0 47) + (1 : Int32))) 0 48 ((u80.1 0 48) + (1 : Int32))) 0 32 ((u80.1 0 32) + (0 : Int32))).1 0 5 = (u80.1 0 5) by rfl))
              have q96_22 : (u97.1 0 22).toInt = (u80.1 0 22).toInt := congrArg Int32.toInt ((fr96.2.1 22 (by decide)).trans (show (wA (wA (wA u80 0 47 ((u80.1 0 47) + (1 : Int32))) 0 48 ((u80.1 0 48) + (1 : Int32))) 0 32 ((u80.1 0 32) + (0 : Int32))).1 0 22 = (u80.1 0 22) by rfl))
              have q96_27 : (u97.1 0 27).toInt = (u80.1 0 27).toInt := congrArg Int32.toInt ((fr96.2.1 27 (by decide)).trans (show (wA (wA (wA u80 0 47 ((u80.1 0 47) + (1 : Int32))) 0 48 ((u80.1 0 48) + (1 : Int32))) 0 32 ((u80.1 0 32) + (0 : Int32))).1 0 27 = (u80.1 0 27) by rfl))
              have q96_28 : (u97.1 0 28).toInt = (u80.1 0 28).toInt := congrArg Int32.toInt ((fr96.2.1 28 (by decide)).trans (show (wA (wA (wA u80 0 47 ((u80.1 0 47) + (1 : Int32))) 0 48 ((u80.1 0 48) + (1 : Int32))) 0 32 ((u80.1 0 32) + (0 : Int32))).1 0 28 = (u80.1 0 28) by rfl))
              have q96_30 : (u97.1 0 30).toInt = (u80.1 0 30).toInt := congrArg Int32.toInt ((fr96.2.1 30 (by decide)).trans (show (wA (wA (wA u80 0 47 ((u80.1 0 47) + (1 : Int32))) 0 48 ((u80.1 0 48) + (1 : Int32))) 0 32 ((u80.1 0 32) + (0 : Int32))).1 0 30 = (u80.1 0 30) by rfl))
              have q96_31 : (u97.1 0 31).toInt = (u80.1 0 31).toInt := congrArg Int32.toInt ((fr96.2.1 31 (by decide)).trans (show (wA (wA (wA u80 0 47 ((u80.1 0 47) + (1 : Int32))) 0 48 ((u80.1 0 48) + (1 : Int32))) 0 32 ((u80.1 0 32) + (0 : Int32))).1 0 31 = (u80.1 0 31) by rfl))
              have q96_34 : (u97.1 0 34).toInt = (u80.1 0 34).toInt := congrArg Int32.toInt ((fr96.2.1 34 (by decide)).trans (show (wA (wA (wA u80 0 47 ((u80.1 0 47) + (1 : Int32))) 0 48 ((u80.1 0 48) + (1 : Int32))) 0 32 ((u80.1 0 32) + (0 : Int32))).1 0 34 = (u80.1 0 34) by rfl))
              have q96_52 : (u97.1 0 52).toInt = (u80.1 0 52).toInt := congrArg Int32.toInt ((fr96.2.1 52 (by decide)).trans (show (wA (wA (wA u80 0 47 ((u80.1 0 47) + (1 : Int32))) 0 48 ((u80.1 0 48) + (1 : Int32))) 0 32 ((u80.1 0 32) + (0 : Int32))).1 0 52 = (u80.1 0 52) by rfl))
              have pt96 : ((u80.1 0 47) + (1 : Int32)).toInt + 1 ≤ (u97.1 0 47).toInt ∧ (u97.1 0 47).toInt ≤ 1500 := pt96
              have pb96 : (u80.1 0 49).toInt ≠ ((u80.1 0 47) + (1 : Int32)).toInt := pb96
              have pw96 : (u80.1 0 12).toInt ≤ (u97.1 0 12).toInt ∧ (u97.1 0 12).toInt - 15 * (u97.1 0 47).toInt ≤ (u80.1 0 12).toInt - 15 * ((u80.1 0 47) + (1 : Int32)).toInt := pw96
              have po96 : (u80.1 0 15).toInt ≤ (u97.1 0 15).toInt ∧ (u97.1 0 15).toInt - 10 * (u97.1 0 47).toInt ≤ (u80.1 0 15).toInt - 10 * ((u80.1 0 47) + (1 : Int32)).toInt := po96
              have pf96 : (u80.1 0 43).toInt ≤ (u97.1 0 43).toInt ∧ (u97.1 0 43).toInt - 15 * (u97.1 0 47).toInt ≤ (u80.1 0 43).toInt - 15 * ((u80.1 0 47) + (1 : Int32)).toInt := pf96
              have pk96 : (u80.1 0 39).toInt ≤ (u97.1 0 39).toInt ∧ (u97.1 0 39).toInt - 1 * (u97.1 0 47).toInt ≤ (u80.1 0 39).toInt - 1 * ((u80.1 0 47) + (1 : Int32)).toInt := pk96
              have pp96 : (u97.1 0 32).toInt = ((u80.1 0 32) + (0 : Int32)).toInt ∧ (u97.1 0 48).toInt = ((u80.1 0 48) + (1 : Int32)).toInt := pp96
              have ph96 : (u80.1 0 33).toInt ≤ (u97.1 0 33).toInt ∧ (u97.1 0 33).toInt ≤ 500 := ph96
              have kc96 : ∀ j : Nat, (j : Int) < (u80.1 0 12).toInt → (u97.1 11) j = (u80.1 11) j := kc96
              have ko96 : ∀ j : Nat, (j : Int) < (u80.1 0 15).toInt → (u97.1 13) j = (u80.1 13) j := ko96
              have kg96 : ∀ j : Nat, (j : Int) < (u80.1 0 15).toInt → (u97.1 14) j = (u80.1 14) j := kg96
              have n3596 : NI 35 u97 := n3596
              refine W.widen (k := 0) (n := 0) (by omega) (by omega) ?_
              refine lv_aload_n hx hb dX13_sets_175 rfl (lv_at hl 3 rfl) ?_
              refine lv_dup hx hb dX13_sets_176 rfl ?_
              refine va_get (D := (dC, dI)) (ci := 16) (fs := mF ad u97) (v := .int (u97.1 0 32)) (C := RX13) (T := TX13) (N := 124) hx hb ht itX13 hown hK hP 0 rfl rfl 32 (by decide) (ht _ tw_52) (fun _ h9 => h9) rfl dX13_sets_177 ?_
              refine lv_iload hx hb dX13_sets_180 (lv_at hl 2 rfl) ?_
              refine lv_isub hx hb dX13_sets_182 ?_
              have z99 : ((u97.1 0 32) - (0 : Int32)).toInt = (u97.1 0 32).toInt - 0 := sub_z rfl (show (0 : Int32).toInt = 0 by decide) (by omega) (by omega)
              refine va_put (D := (dC, dI)) (ci := 16) (fs := mF ad u97) (v := .int ((u97.1 0 32) - (0 : Int32))) (ty := .int) (C := RX13) (T := TX13) (N := 124) hx hb ht itX13 tyX13 tyX13_ok nmX13 hown hK hP hD hS 0 rfl rfl 32 (by decide) (ht _ tw_52) (fun _ h9 => h9) rfl (by decide +kernel) rfl rfl (Nat.le_of_ble_eq_true rfl) dX13_sets_183 (fun H locs hP hD hS => ?_)
              have hP := cP_ (mw_32 ad N cI cZ cJ u97 ((u97.1 0 32) - (0 : Int32))) hP
              have hD := cD_ (mw_32 ad N cI cZ cJ u97 ((u97.1 0 32) - (0 : Int32))) hD
              refine lv_iload hx hb dX13_sets_186 (lv_at hl 7 rfl) ?_
              refine lv_if_eq (tgt := 213) hx hb dX13_sets_188 (by decide) (fun h100 => ?_) (fun h100 => ?_)
              · have z101 : pd.toInt = 0 := eq_z rfl (show (0 : Int32).toInt = 0 by decide) h100
                refine lv_iload_n hx hb dX13_sets_213 rfl (lv_at hl 6 rfl) ?_
                refine lv_if_eq (tgt := 258) hx hb dX13_sets_214 (by decide) (fun h102 => ?_) (fun h102 => ?_)
                · have z103 : pc1.toInt = 0 := eq_z rfl (show (0 : Int32).toInt = 0 by decide) h102
                  refine lv_aload_n hx hb dX13_sets_258 rfl (lv_at hl 3 rfl) ?_
                  refine lv_iload_n hx hb dX13_sets_259 rfl (lv_at hl 4 rfl) ?_
                  refine lv_iload_n hx hb dX13_sets_260 rfl (lv_at hl 5 rfl) ?_
                  refine cu_v (rn_V (n := 2) (As := [.int pa, .int pb]) (rest := []) hx hb hml hown ht hKK hFx hP hD hS hA (c_m_store l dC dI cI cB cZ cJ cR tb H.size ad N (wA u97 0 32 ((u97.1 0 32) - (0 : Int32))) pa pb (show 0 ≤ (u97.1 0 12).toInt ∧ (u97.1 0 12).toInt ≤ 23980 by omega) (show 0 ≤ (u97.1 0 15).toInt ∧ (u97.1 0 15).toInt ≤ 15980 by omega) (show 0 ≤ (u97.1 0 43).toInt ∧ (u97.1 0 43).toInt ≤ 23980 by omega) (show 0 ≤ pa.toInt ∨ (0 ≤ pb.toInt ∧ pb.toInt < 60) by omega)) tw_96 tw_97 (by decide +kernel) rfl rfl ⟨by show 1 + 1 ≤ 40 * n + 6; omega, by show 8 + (3 + 11) + 23 ≤ 28 * (40 * n + 6); omega⟩ (List.range (mW ad N cI cZ cJ (wA u97 0 32 ((u97.1 0 32) - (0 : Int32)))).length) (rg_map _) (mW_nd _ _ _ _ _ _) rfl rfl rfl rfl hl.1 rfl (Nat.le_of_ble_eq_true rfl) dX13_sets_261 ⟨Nat.le_of_ble_eq_true rfl, Nat.le_of_ble_eq_true rfl⟩) hP hD hS hA (fun u105 H locs hw104 hP hD hS => ?_)
                  obtain ⟨fr104, pw104, po104, pf104, kc104, ko104, kg104⟩ := hw104
                  have q104_2 : (u105.1 0 2).toInt = (u97.1 0 2).toInt := congrArg Int32.toInt ((fr104.2.1 2 (by decide)).trans (show (wA u97 0 32 ((u97.1 0 32) - (0 : Int32))).1 0 2 = (u97.1 0 2) by rfl))
                  have q104_4 : (u105.1 0 4).toInt = (u97.1 0 4).toInt := congrArg Int32.toInt ((fr104.2.1 4 (by decide)).trans (show (wA u97 0 32 ((u97.1 0 32) - (0 : Int32))).1 0 4 = (u97.1 0 4) by rfl))
                  have q104_5 : (u105.1 0 5).toInt = (u97.1 0 5).toInt := congrArg Int32.toInt ((fr104.2.1 5 (by decide)).trans (show (wA u97 0 32 ((u97.1 0 32) - (0 : Int32))).1 0 5 = (u97.1 0 5) by rfl))
                  have q104_22 : (u105.1 0 22).toInt = (u97.1 0 22).toInt := congrArg Int32.toInt ((fr104.2.1 22 (by decide)).trans (show (wA u97 0 32 ((u97.1 0 32) - (0 : Int32))).1 0 22 = (u97.1 0 22) by rfl))
                  have q104_27 : (u105.1 0 27).toInt = (u97.1 0 27).toInt := congrArg Int32.toInt ((fr104.2.1 27 (by decide)).trans (show (wA u97 0 32 ((u97.1 0 32) - (0 : Int32))).1 0 27 = (u97.1 0 27) by rfl))
                  have q104_28 : (u105.1 0 28).toInt = (u97.1 0 28).toInt := congrArg Int32.toInt ((fr104.2.1 28 (by decide)).trans (show (wA u97 0 32 ((u97.1 0 32) - (0 : Int32))).1 0 28 = (u97.1 0 28) by rfl))
                  have q104_30 : (u105.1 0 30).toInt = (u97.1 0 30).toInt := congrArg Int32.toInt ((fr104.2.1 30 (by decide)).trans (show (wA u97 0 32 ((u97.1 0 32) - (0 : Int32))).1 0 30 = (u97.1 0 30) by rfl))
                  have q104_31 : (u105.1 0 31).toInt = (u97.1 0 31).toInt := congrArg Int32.toInt ((fr104.2.1 31 (by decide)).trans (show (wA u97 0 32 ((u97.1 0 32) - (0 : Int32))).1 0 31 = (u97.1 0 31) by rfl))
                  have q104_32 : (u105.1 0 32).toInt = ((u97.1 0 32) - (0 : Int32)).toInt := congrArg Int32.toInt ((fr104.2.1 32 (by decide)).trans (show (wA u97 0 32 ((u97.1 0 32) - (0 : Int32))).1 0 32 = ((u97.1 0 32) - (0 : Int32)) by rfl))
                  have q104_33 : (u105.1 0 33).toInt = (u97.1 0 33).toInt := congrArg Int32.toInt ((fr104.2.1 33 (by decide)).trans (show (wA u97 0 32 ((u97.1 0 32) - (0 : Int32))).1 0 33 = (u97.1 0 33) by rfl))
                  have q104_34 : (u105.1 0 34).toInt = (u97.1 0 34).toInt := congrArg Int32.toInt ((fr104.2.1 34 (by decide)).trans (show (wA u97 0 32 ((u97.1 0 32) - (0 : Int32))).1 0 34 = (u97.1 0 34) by rfl))
                  have q104_39 : (u105.1 0 39).toInt = (u97.1 0 39).toInt := congrArg Int32.toInt ((fr104.2.1 39 (by decide)).trans (show (wA u97 0 32 ((u97.1 0 32) - (0 : Int32))).1 0 39 = (u97.1 0 39) by rfl))
                  have q104_47 : (u105.1 0 47).toInt = (u97.1 0 47).toInt := congrArg Int32.toInt ((fr104.2.1 47 (by decide)).trans (show (wA u97 0 32 ((u97.1 0 32) - (0 : Int32))).1 0 47 = (u97.1 0 47) by rfl))
                  have q104_48 : (u105.1 0 48).toInt = (u97.1 0 48).toInt := congrArg Int32.toInt ((fr104.2.1 48 (by decide)).trans (show (wA u97 0 32 ((u97.1 0 32) - (0 : Int32))).1 0 48 = (u97.1 0 48) by rfl))
                  have q104_49 : (u105.1 0 49).toInt = (u97.1 0 49).toInt := congrArg Int32.toInt ((fr104.2.1 49 (by decide)).trans (show (wA u97 0 32 ((u97.1 0 32) - (0 : Int32))).1 0 49 = (u97.1 0 49) by rfl))
                  have q104_52 : (u105.1 0 52).toInt = (u97.1 0 52).toInt := congrArg Int32.toInt ((fr104.2.1 52 (by decide)).trans (show (wA u97 0 32 ((u97.1 0 32) - (0 : Int32))).1 0 52 = (u97.1 0 52) by rfl))
                  have pw104 : (u97.1 0 12).toInt ≤ (u105.1 0 12).toInt ∧ (u105.1 0 12).toInt ≤ (u97.1 0 12).toInt + 2 := pw104
                  have po104 : (u105.1 0 15).toInt = (u97.1 0 15).toInt + 1 := po104
                  have pf104 : (u97.1 0 43).toInt ≤ (u105.1 0 43).toInt ∧ (u105.1 0 43).toInt ≤ (u97.1 0 43).toInt + 2 := pf104
                  have kc104 : ∀ j : Nat, (j : Int) < (u97.1 0 12).toInt → (u105.1 11) j = (u97.1 11) j := kc104
                  have ko104 : ∀ j : Nat, (j : Int) < (u97.1 0 15).toInt → (u105.1 13) j = (u97.1 13) j := ko104
                  have kg104 : ∀ j : Nat, (j : Int) < (u97.1 0 15).toInt → (u105.1 14) j = (u97.1 14) j := kg104
                  refine W.widen (k := 0) (n := 0) (by omega) (by omega) ?_
                  refine lv_aload_n hx hb dX13_sets_264 rfl (lv_at hl 3 rfl) ?_
                  refine lv_dup hx hb dX13_sets_265 rfl ?_
                  refine va_get (D := (dC, dI)) (ci := 16) (fs := mF ad u105) (v := .int (u105.1 0 48)) (C := RX13) (T := TX13) (N := 124) hx hb ht itX13 hown hK hP 0 rfl rfl 48 (by decide) (ht _ tw_31) (fun _ h9 => h9) rfl dX13_sets_266 ?_
                  refine lv_iconst (v := 1) hx hb dX13_sets_269 (by decide) ?_
                  refine lv_isub hx hb dX13_sets_270 ?_
                  have z107 : ((u105.1 0 48) - (1 : Int32)).toInt = (u105.1 0 48).toInt - 1 := sub_z rfl (show (1 : Int32).toInt = 1 by decide) (by omega) (by omega)
                  refine va_put (D := (dC, dI)) (ci := 16) (fs := mF ad u105) (v := .int ((u105.1 0 48) - (1 : Int32))) (ty := .int) (C := RX13) (T := TX13) (N := 124) hx hb ht itX13 tyX13 tyX13_ok nmX13 hown hK hP hD hS 0 rfl rfl 48 (by decide) (ht _ tw_31) (fun _ h9 => h9) rfl (by decide +kernel) rfl rfl (Nat.le_of_ble_eq_true rfl) dX13_sets_271 (fun H locs hP hD hS => ?_)
                  have hP := cP_ (mw_48 ad N cI cZ cJ u105 ((u105.1 0 48) - (1 : Int32))) hP
                  have hD := cD_ (mw_48 ad N cI cZ cJ u105 ((u105.1 0 48) - (1 : Int32))) hD
                  refine vx_ret ?_
                  exact W.vret hx hb hr (fun t ht9 hW => ⟨⟨(wA u105 0 48 ((u105.1 0 48) - (1 : Int32))), rfl, ⟨(FG.f (FG.tr (FG.f (FG.tr (FG.f (FG.f (FG.f (FG.tr (FG.tr (FG.rf _) (FG.up fr73 (by decide) (by decide))) (FG.up fr79 (by decide) (by decide))) ((u80.1 0 47) + (1 : Int32)) (by decide)) ((u80.1 0 48) + (1 : Int32)) (by decide)) ((u80.1 0 32) + (0 : Int32)) (by decide)) (FG.up fr96 (by decide) (by decide))) ((u97.1 0 32) - (0 : Int32)) (by decide)) (FG.up fr104 (by decide) (by decide))) ((u105.1 0 48) - (1 : Int32)) (by decide)), (show (v.1 0 47).toInt + 1 ≤ (u105.1 0 47).toInt ∧ (u105.1 0 47).toInt ≤ 1500 by omega), (show (v.1 0 49).toInt ≠ (v.1 0 47).toInt by omega), (show (v.1 0 12).toInt ≤ (u105.1 0 12).toInt ∧ (u105.1 0 12).toInt - 15 * (u105.1 0 47).toInt ≤ (v.1 0 12).toInt - 15 * (v.1 0 47).toInt by omega), (show (v.1 0 15).toInt ≤ (u105.1 0 15).toInt ∧ (u105.1 0 15).toInt - 10 * (u105.1 0 47).toInt ≤ (v.1 0 15).toInt - 10 * (v.1 0 47).toInt by omega), (show (v.1 0 43).toInt ≤ (u105.1 0 43).toInt ∧ (u105.1 0 43).toInt - 15 * (u105.1 0 47).toInt ≤ (v.1 0 43).toInt - 15 * (v.1 0 47).toInt by omega), (show (v.1 0 39).toInt ≤ (u105.1 0 39).toInt ∧ (u105.1 0 39).toInt - 1 * (u105.1 0 47).toInt ≤ (v.1 0 39).toInt - 1 * (v.1 0 47).toInt by omega), (show (u105.1 0 32).toInt = (v.1 0 32).toInt ∧ ((u105.1 0 48) - (1 : Int32)).toInt = (v.1 0 48).toInt by omega), (show (v.1 0 33).toInt ≤ (u105.1 0 33).toInt ∧ (u105.1 0 33).toInt ≤ 500 by omega), (fun (j9 : Nat) hj9 => (Eq.trans (kc104 j9 (by omega)) (Eq.trans (kc96 j9 (by omega)) (Eq.trans (congrFun (fr79.2.2 11 (by decide)) j9) (congrFun (fr73.2.2 11 (by decide)) j9))))), (fun (j9 : Nat) hj9 => (Eq.trans (ko104 j9 (by omega)) (Eq.trans (ko96 j9 (by omega)) (Eq.trans (congrFun (fr79.2.2 13 (by decide)) j9) (congrFun (fr73.2.2 13 (by decide)) j9))))), (fun (j9 : Nat) hj9 => (Eq.trans (kg104 j9 (by omega)) (Eq.trans (kg96 j9 (by omega)) (Eq.trans (congrFun (fr79.2.2 14 (by decide)) j9) (congrFun (fr73.2.2 14 (by decide)) j9))))), (show NI 35 u105 from NI.fr (fl := [12, 15, 43]) (al := [0, 11, 13, 14, 40, 41, 42]) fr104 (by decide) n3596)⟩, by rw [ht9]; exact hP, hD⟩, hS.F ht9⟩) hS.2.2 dX13_sets_274
                · have z108 : pc1.toInt ≠ 0 := ne_z rfl (show (0 : Int32).toInt = 0 by decide) h102
                  exfalso; omega
              · have z109 : pd.toInt ≠ 0 := ne_z rfl (show (0 : Int32).toInt = 0 by decide) h100
                exfalso; omega
            · have z110 : pd.toInt ≠ 0 := ne_z rfl (show (0 : Int32).toInt = 0 by decide) h91
              exfalso; omega
          · have z111 : pd.toInt ≠ 0 := ne_z rfl (show (0 : Int32).toInt = 0 by decide) h89
            exfalso; omega
        · have z112 : pc1.toInt ≠ 0 := ne_z rfl (show (0 : Int32).toInt = 0 by decide) h87
          exfalso; omega
      · have z113 : pc1.toInt ≠ 0 := ne_z rfl (show (0 : Int32).toInt = 0 by decide) h76
        exfalso; omega
  · have z114 : pc1.toInt ≠ 0 := ne_z rfl (show (0 : Int32).toInt = 0 by decide) h1
    refine lv_iconst (v := 1) hx hb dX13_sets_4 (by decide) ?_
    refine lv_goto (tgt := 9) hx hb dX13_sets_5 (by decide) ?_
    refine lv_iload hx hb dX13_sets_9 (lv_at hl 4 rfl) ?_
    refine lv_if_ne (tgt := 18) hx hb dX13_sets_11 (by decide) (fun h115 => ?_) (fun h115 => ?_)
    · have z116 : pd.toInt ≠ 0 := ne_z rfl (show (0 : Int32).toInt = 0 by decide) h115
      refine lv_iconst (v := 1) hx hb dX13_sets_18 (by decide) ?_
      refine lv_iadd hx hb dX13_sets_19 ?_
      refine tp_i (y := 2) (by decide) ?_
      refine lv_istore (lv' := [(5, .int 2), (0, .ref (ad 0)), (1, .int pa), (2, .int pb), (3, .int pc1), (4, .int pd)]) hx hb dX13_sets_20 hl (by decide) rfl (fun ls hl => ?_)
      refine lv_aload_n hx hb dX13_sets_22 rfl (lv_at hl 1 rfl) ?_
      refine lv_iload hx hb dX13_sets_23 (lv_at hl 0 rfl) ?_
      refine cu_i (rn_V (n := 1) (As := [.int 2]) (rest := []) hx hb hml hown ht hKK hFx hP hD hS hA (c_m_slots l dC dI cI cB cZ cJ cR tb s.heap.size ad N v (2 : Int32) (show 0 ≤ (v.1 0 30).toInt ∧ (v.1 0 30).toInt ≤ 500 by omega) (show 0 ≤ (v.1 0 32).toInt ∧ (v.1 0 32).toInt ≤ 2000 by omega) (show 0 ≤ (v.1 0 33).toInt ∧ (v.1 0 33).toInt ≤ 500 by omega) (show 0 ≤ 2 ∧ 2 ≤ 8 by omega)) tw_88 tw_89 (by decide +kernel) rfl rfl ⟨by show 0 + 1 ≤ 40 * n + 6; omega, by show 8 + (3 + 11) + 0 ≤ 28 * (40 * n + 6); omega⟩ (List.range (mW ad N cI cZ cJ v).length) (rg_map _) (mW_nd _ _ _ _ _ _) rfl rfl rfl rfl hl.1 rfl (Nat.le_of_ble_eq_true rfl) dX13_sets_25 ⟨Nat.le_of_ble_eq_true rfl, Nat.le_of_ble_eq_true rfl⟩) hP hD hS hA (fun r119 u118 H locs hw117 hP hD hS => ?_)
      obtain ⟨fr117, sr117, sb117, sh117⟩ := hw117
      have q117_2 : (u118.1 0 2).toInt = (v.1 0 2).toInt := congrArg Int32.toInt ((fr117.2.1 2 (by decide)).trans (show v.1 0 2 = (v.1 0 2) by rfl))
      have q117_4 : (u118.1 0 4).toInt = (v.1 0 4).toInt := congrArg Int32.toInt ((fr117.2.1 4 (by decide)).trans (show v.1 0 4 = (v.1 0 4) by rfl))
      have q117_5 : (u118.1 0 5).toInt = (v.1 0 5).toInt := congrArg Int32.toInt ((fr117.2.1 5 (by decide)).trans (show v.1 0 5 = (v.1 0 5) by rfl))
      have q117_12 : (u118.1 0 12).toInt = (v.1 0 12).toInt := congrArg Int32.toInt ((fr117.2.1 12 (by decide)).trans (show v.1 0 12 = (v.1 0 12) by rfl))
      have q117_15 : (u118.1 0 15).toInt = (v.1 0 15).toInt := congrArg Int32.toInt ((fr117.2.1 15 (by decide)).trans (show v.1 0 15 = (v.1 0 15) by rfl))
      have q117_22 : (u118.1 0 22).toInt = (v.1 0 22).toInt := congrArg Int32.toInt ((fr117.2.1 22 (by decide)).trans (show v.1 0 22 = (v.1 0 22) by rfl))
      have q117_27 : (u118.1 0 27).toInt = (v.1 0 27).toInt := congrArg Int32.toInt ((fr117.2.1 27 (by decide)).trans (show v.1 0 27 = (v.1 0 27) by rfl))
      have q117_28 : (u118.1 0 28).toInt = (v.1 0 28).toInt := congrArg Int32.toInt ((fr117.2.1 28 (by decide)).trans (show v.1 0 28 = (v.1 0 28) by rfl))
      have q117_30 : (u118.1 0 30).toInt = (v.1 0 30).toInt := congrArg Int32.toInt ((fr117.2.1 30 (by decide)).trans (show v.1 0 30 = (v.1 0 30) by rfl))
      have q117_31 : (u118.1 0 31).toInt = (v.1 0 31).toInt := congrArg Int32.toInt ((fr117.2.1 31 (by decide)).trans (show v.1 0 31 = (v.1 0 31) by rfl))
      have q117_32 : (u118.1 0 32).toInt = (v.1 0 32).toInt := congrArg Int32.toInt ((fr117.2.1 32 (by decide)).trans (show v.1 0 32 = (v.1 0 32) by rfl))
      have q117_34 : (u118.1 0 34).toInt = (v.1 0 34).toInt := congrArg Int32.toInt ((fr117.2.1 34 (by decide)).trans (show v.1 0 34 = (v.1 0 34) by rfl))
      have q117_39 : (u118.1 0 39).toInt = (v.1 0 39).toInt := congrArg Int32.toInt ((fr117.2.1 39 (by decide)).trans (show v.1 0 39 = (v.1 0 39) by rfl))
      have q117_43 : (u118.1 0 43).toInt = (v.1 0 43).toInt := congrArg Int32.toInt ((fr117.2.1 43 (by decide)).trans (show v.1 0 43 = (v.1 0 43) by rfl))
      have q117_47 : (u118.1 0 47).toInt = (v.1 0 47).toInt := congrArg Int32.toInt ((fr117.2.1 47 (by decide)).trans (show v.1 0 47 = (v.1 0 47) by rfl))
      have q117_48 : (u118.1 0 48).toInt = (v.1 0 48).toInt := congrArg Int32.toInt ((fr117.2.1 48 (by decide)).trans (show v.1 0 48 = (v.1 0 48) by rfl))
      have q117_52 : (u118.1 0 52).toInt = (v.1 0 52).toInt := congrArg Int32.toInt ((fr117.2.1 52 (by decide)).trans (show v.1 0 52 = (v.1 0 52) by rfl))
      have sb117 : ((v.1 0 30).toInt + (v.1 0 32).toInt + 2 ≤ (u118.1 0 33).toInt ∧ (u118.1 0 49).toInt = (v.1 0 49).toInt) ∨ (u118.1 0 49).toInt = (v.1 0 47).toInt := sb117
      refine W.widen (k := 0) (n := 0) (by omega) (by omega) ?_
      refine lv_istore (lv' := [(6, .int r119), (5, .int 2), (0, .ref (ad 0)), (1, .int pa), (2, .int pb), (3, .int pc1), (4, .int pd)]) hx hb dX13_sets_28 hl (by decide) rfl (fun ls hl => ?_)
      refine lv_iload hx hb dX13_sets_30 (lv_at hl 0 rfl) ?_
      refine lv_iload_n hx hb dX13_sets_32 rfl (lv_at hl 5 rfl) ?_
      refine lv_if_eq (tgt := 40) hx hb dX13_sets_33 (by decide) (fun h120 => ?_) (fun h120 => ?_)
      · have z121 : pc1.toInt = 0 := eq_z rfl (show (0 : Int32).toInt = 0 by decide) h120
        exfalso; omega
      · have z122 : pc1.toInt ≠ 0 := ne_z rfl (show (0 : Int32).toInt = 0 by decide) h120
        refine lv_iconst (v := 1) hx hb dX13_sets_36 (by decide) ?_
        refine lv_goto (tgt := 41) hx hb dX13_sets_37 (by decide) ?_
        refine lv_iadd hx hb dX13_sets_41 ?_
        have z123 : (r119 + (1 : Int32)).toInt = r119.toInt + 1 := add_z rfl (show (1 : Int32).toInt = 1 by decide) (by omega) (by omega)
        refine lv_istore (lv' := [(7, .int (r119 + (1 : Int32))), (6, .int r119), (5, .int 2), (0, .ref (ad 0)), (1, .int pa), (2, .int pb), (3, .int pc1), (4, .int pd)]) hx hb dX13_sets_42 hl (by decide) rfl (fun ls hl => ?_)
        refine lv_aload_n hx hb dX13_sets_44 rfl (lv_at hl 3 rfl) ?_
        refine lv_iload hx hb dX13_sets_45 (lv_at hl 7 rfl) ?_
        refine cu_v (rn_V (n := 1) (As := [.int pd]) (rest := []) hx hb hml hown ht hKK hFx hP hD hS hA (c_m_remember l dC dI cI cB cZ cJ cR tb H.size ad N u118 pd ) tw_90 tw_91 (by decide +kernel) rfl rfl ⟨by show 0 + 1 ≤ 40 * n + 6; omega, by show 8 + (2 + 11) + 0 ≤ 28 * (40 * n + 6); omega⟩ (List.range (mW ad N cI cZ cJ u118).length) (rg_map _) (mW_nd _ _ _ _ _ _) rfl rfl rfl rfl hl.1 rfl (Nat.le_of_ble_eq_true rfl) dX13_sets_47 ⟨Nat.le_of_ble_eq_true rfl, Nat.le_of_ble_eq_true rfl⟩) hP hD hS hA (fun u125 H locs hw124 hP hD hS => ?_)
        have fr124 := hw124
        have q124_2 : (u125.1 0 2).toInt = (u118.1 0 2).toInt := congrArg Int32.toInt ((fr124.2.1 2 (by decide)).trans (show u118.1 0 2 = (u118.1 0 2) by rfl))
        have q124_4 : (u125.1 0 4).toInt = (u118.1 0 4).toInt := congrArg Int32.toInt ((fr124.2.1 4 (by decide)).trans (show u118.1 0 4 = (u118.1 0 4) by rfl))
        have q124_5 : (u125.1 0 5).toInt = (u118.1 0 5).toInt := congrArg Int32.toInt ((fr124.2.1 5 (by decide)).trans (show u118.1 0 5 = (u118.1 0 5) by rfl))
        have q124_12 : (u125.1 0 12).toInt = (u118.1 0 12).toInt := congrArg Int32.toInt ((fr124.2.1 12 (by decide)).trans (show u118.1 0 12 = (u118.1 0 12) by rfl))
        have q124_15 : (u125.1 0 15).toInt = (u118.1 0 15).toInt := congrArg Int32.toInt ((fr124.2.1 15 (by decide)).trans (show u118.1 0 15 = (u118.1 0 15) by rfl))
        have q124_22 : (u125.1 0 22).toInt = (u118.1 0 22).toInt := congrArg Int32.toInt ((fr124.2.1 22 (by decide)).trans (show u118.1 0 22 = (u118.1 0 22) by rfl))
        have q124_27 : (u125.1 0 27).toInt = (u118.1 0 27).toInt := congrArg Int32.toInt ((fr124.2.1 27 (by decide)).trans (show u118.1 0 27 = (u118.1 0 27) by rfl))
        have q124_28 : (u125.1 0 28).toInt = (u118.1 0 28).toInt := congrArg Int32.toInt ((fr124.2.1 28 (by decide)).trans (show u118.1 0 28 = (u118.1 0 28) by rfl))
        have q124_30 : (u125.1 0 30).toInt = (u118.1 0 30).toInt := congrArg Int32.toInt ((fr124.2.1 30 (by decide)).trans (show u118.1 0 30 = (u118.1 0 30) by rfl))
        have q124_31 : (u125.1 0 31).toInt = (u118.1 0 31).toInt := congrArg Int32.toInt ((fr124.2.1 31 (by decide)).trans (show u118.1 0 31 = (u118.1 0 31) by rfl))
        have q124_32 : (u125.1 0 32).toInt = (u118.1 0 32).toInt := congrArg Int32.toInt ((fr124.2.1 32 (by decide)).trans (show u118.1 0 32 = (u118.1 0 32) by rfl))
        have q124_33 : (u125.1 0 33).toInt = (u118.1 0 33).toInt := congrArg Int32.toInt ((fr124.2.1 33 (by decide)).trans (show u118.1 0 33 = (u118.1 0 33) by rfl))
        have q124_34 : (u125.1 0 34).toInt = (u118.1 0 34).toInt := congrArg Int32.toInt ((fr124.2.1 34 (by decide)).trans (show u118.1 0 34 = (u118.1 0 34) by rfl))
        have q124_39 : (u125.1 0 39).toInt = (u118.1 0 39).toInt := congrArg Int32.toInt ((fr124.2.1 39 (by decide)).trans (show u118.1 0 39 = (u118.1 0 39) by rfl))
        have q124_43 : (u125.1 0 43).toInt = (u118.1 0 43).toInt := congrArg Int32.toInt ((fr124.2.1 43 (by decide)).trans (show u118.1 0 43 = (u118.1 0 43) by rfl))
        have q124_47 : (u125.1 0 47).toInt = (u118.1 0 47).toInt := congrArg Int32.toInt ((fr124.2.1 47 (by decide)).trans (show u118.1 0 47 = (u118.1 0 47) by rfl))
        have q124_48 : (u125.1 0 48).toInt = (u118.1 0 48).toInt := congrArg Int32.toInt ((fr124.2.1 48 (by decide)).trans (show u118.1 0 48 = (u118.1 0 48) by rfl))
        have q124_49 : (u125.1 0 49).toInt = (u118.1 0 49).toInt := congrArg Int32.toInt ((fr124.2.1 49 (by decide)).trans (show u118.1 0 49 = (u118.1 0 49) by rfl))
        have q124_52 : (u125.1 0 52).toInt = (u118.1 0 52).toInt := congrArg Int32.toInt ((fr124.2.1 52 (by decide)).trans (show u118.1 0 52 = (u118.1 0 52) by rfl))
        refine W.widen (k := 0) (n := 0) (by omega) (by omega) ?_
        refine lv_aload_n hx hb dX13_sets_50 rfl (lv_at hl 3 rfl) ?_
        refine cux_v (rx_V (n := 0) (As := []) (rest := []) hx hb hml hown ht hKK hFx hP hD hS hA (c_m_opens l dC dI cI cB cZ cJ cR tb H.size ad N u125  (show 0 ≤ (u125.1 0 47).toInt ∧ (u125.1 0 47).toInt ≤ 1500 by omega) (show 0 ≤ (u125.1 0 48).toInt ∧ (u125.1 0 48).toInt ≤ 40 by omega)) tw_38 tw_39 (by decide +kernel) rfl rfl ⟨by show 2 + 1 ≤ 40 * n + 6; omega, by show 8 + (1 + 11) + 42 ≤ 28 * (40 * n + 6); omega⟩ (List.range (mW ad N cI cZ cJ u125).length) (rg_map _) (mW_nd _ _ _ _ _ _) rfl rfl rfl rfl hl.1 rfl (Nat.le_of_ble_eq_true rfl) dX13_sets_51 ⟨Nat.le_of_ble_eq_true rfl, Nat.le_of_ble_eq_true rfl⟩) hP hD hS hA (fun u9 ce9 q9 H locs hx9 hP hD hS hc9 hv9 hf9 => ?_) (fun u128 H locs hw127 hP hD hS => ?_)
        · exact vx_out (fun x h9 => (hnt x h9).elim) hlocks hc9 hv9 hf9 (fun t9 ht9 hv8 => ⟨u9, (FG.tr (FG.tr (FG.tr (FG.rf _) (FG.up fr117 (by decide) (by decide))) (FG.up fr124 (by decide) (by decide))) hx9), ⟨rfl, by rw [ht9]; exact hP, hD⟩, hS.F ht9⟩) hS.2.2 (by omega) (by omega)
        obtain ⟨rfl, a127, b127, c127⟩ := hw127
        have z130 : ((u125.1 0 47) + (1 : Int32)).toInt = (u125.1 0 47).toInt + 1 := add_z rfl (show (1 : Int32).toInt = 1 by decide) (by omega) (by omega)
        have z131 : ((u125.1 0 48) + (1 : Int32)).toInt = (u125.1 0 48).toInt + 1 := add_z rfl (show (1 : Int32).toInt = 1 by decide) (by omega) (by omega)
        have hP : va_P (dC, dI) vwCl (mW ad N cI cZ cJ (wA (wA u125 0 47 ((u125.1 0 47) + (1 : Int32))) 0 48 ((u125.1 0 48) + (1 : Int32)))) H := hP
        have hD : va_D A (mW ad N cI cZ cJ (wA (wA u125 0 47 ((u125.1 0 47) + (1 : Int32))) 0 48 ((u125.1 0 48) + (1 : Int32)))) := hD
        have a127 : (u125.1 0 47).toInt < 1500 := a127
        have b127 : (u125.1 0 48).toInt < 40 := b127
        have c127 : (u125.1 0 49).toInt ≠ (u125.1 0 47).toInt := c127
        refine W.widen (k := 0) (n := 0) (by omega) (by omega) ?_
        refine lv_iload_n hx hb dX13_sets_54 rfl (lv_at hl 6 rfl) ?_
        refine lv_if_eq (tgt := 127) hx hb dX13_sets_55 (by decide) (fun h132 => ?_) (fun h132 => ?_)
        · have z133 : pc1.toInt = 0 := eq_z rfl (show (0 : Int32).toInt = 0 by decide) h132
          exfalso; omega
        · have z134 : pc1.toInt ≠ 0 := ne_z rfl (show (0 : Int32).toInt = 0 by decide) h132
          refine lv_aload_n hx hb dX13_sets_58 rfl (lv_at hl 3 rfl) ?_
          refine lv_aload_n hx hb dX13_sets_59 rfl (lv_at hl 3 rfl) ?_
          refine lv_bipush (v := 10) hx hb dX13_sets_60 (by decide) ?_
          refine lv_bipush (v := 10) hx hb dX13_sets_62 (by decide) ?_
          refine lv_iconst (v := 0) hx hb dX13_sets_64 (by decide) ?_
          refine cu_s (mW_nd _ _ _ _ _ _) (rn_S (n := 3) (As := [.int 10, .int 10, .int 0]) (rest := [.ref (ad 0), .ref (ad 0)]) hx hb hml hown ht hKK hFx hP hD hS hA (c_m_addi l dC dI cI cB cZ cJ cR tb H.size (10 : Int32) (10 : Int32) (0 : Int32) ) tw_65 tw_66 (by decide +kernel) rfl rfl ⟨by show 1 + 1 ≤ 40 * n + 6; omega, by show 8 + (3 + 11) + 24 ≤ 28 * (40 * n + 6); omega⟩ [] rfl rfl rfl hl.1 rfl (Nat.le_of_ble_eq_true rfl) dX13_sets_65 ⟨Nat.le_of_ble_eq_true rfl, Nat.le_of_ble_eq_true rfl⟩) hP hD hS hA (fun r137 H locs hw135 hP hD hS => ?_)
          refine W.widen (k := 0) (n := 0) (by omega) (by omega) ?_
          refine cu_i (rn_V (n := 1) (As := [.int r137]) (rest := [.ref (ad 0)]) hx hb hml hown ht hKK hFx hP hD hS hA (c_m_emit l dC dI cI cB cZ cJ cR tb H.size ad N (wA (wA u125 0 47 ((u125.1 0 47) + (1 : Int32))) 0 48 ((u125.1 0 48) + (1 : Int32))) r137 (show 0 ≤ (u125.1 0 12).toInt ∧ (u125.1 0 12).toInt < 24000 by omega)) tw_8 tw_9 (by decide +kernel) rfl rfl ⟨by show 0 + 1 ≤ 40 * n + 6; omega, by show 8 + (2 + 11) + 0 ≤ 28 * (40 * n + 6); omega⟩ (List.range (mW ad N cI cZ cJ (wA (wA u125 0 47 ((u125.1 0 47) + (1 : Int32))) 0 48 ((u125.1 0 48) + (1 : Int32)))).length) (rg_map _) (mW_nd _ _ _ _ _ _) rfl rfl rfl rfl hl.1 rfl (Nat.le_of_ble_eq_true rfl) dX13_sets_68 ⟨Nat.le_of_ble_eq_true rfl, Nat.le_of_ble_eq_true rfl⟩) hP hD hS hA (fun r140 u139 H locs hw138 hP hD hS => ?_)
          obtain ⟨rfl, rfl⟩ := hw138
          have z141 : ((u125.1 0 12) + (1 : Int32)).toInt = (u125.1 0 12).toInt + 1 := add_z rfl (show (1 : Int32).toInt = 1 by decide) (by omega) (by omega)
          have hP : va_P (dC, dI) vwCl (mW ad N cI cZ cJ (wA (wA (wA (wA u125 0 47 ((u125.1 0 47) + (1 : Int32))) 0 48 ((u125.1 0 48) + (1 : Int32))) 11 ((u125.1 0 12).toNatClampNeg) r137) 0 12 ((u125.1 0 12) + (1 : Int32)))) H := hP
          have hD : va_D A (mW ad N cI cZ cJ (wA (wA (wA (wA u125 0 47 ((u125.1 0 47) + (1 : Int32))) 0 48 ((u125.1 0 48) + (1 : Int32))) 11 ((u125.1 0 12).toNatClampNeg) r137) 0 12 ((u125.1 0 12) + (1 : Int32)))) := hD
          refine tp_i (y := (u125.1 0 12)) (rfl) ?_
          refine W.widen (k := 0) (n := 0) (by omega) (by omega) ?_
          refine lv_iload_n hx hb dX13_sets_71 rfl (lv_at hl 5 rfl) ?_
          refine lv_iconst (v := 3) hx hb dX13_sets_72 (by decide) ?_
          refine cu_v (rn_V (n := 3) (As := [.int (u125.1 0 12), .int pb, .int 3]) (rest := []) hx hb hml hown ht hKK hFx hP hD hS hA (c_m_fix l dC dI cI cB cZ cJ cR tb H.size ad N (wA (wA (wA (wA u125 0 47 ((u125.1 0 47) + (1 : Int32))) 0 48 ((u125.1 0 48) + (1 : Int32))) 11 ((u125.1 0 12).toNatClampNeg) r137) 0 12 ((u125.1 0 12) + (1 : Int32))) (u125.1 0 12) pb (3 : Int32) (show 0 ≤ (u125.1 0 43).toInt ∧ (u125.1 0 43).toInt < 24000 by omega)) tw_69 tw_70 (by decide +kernel) rfl rfl ⟨by show 0 + 1 ≤ 40 * n + 6; omega, by show 8 + (4 + 11) + 0 ≤ 28 * (40 * n + 6); omega⟩ (List.range (mW ad N cI cZ cJ (wA (wA (wA (wA u125 0 47 ((u125.1 0 47) + (1 : Int32))) 0 48 ((u125.1 0 48) + (1 : Int32))) 11 ((u125.1 0 12).toNatClampNeg) r137) 0 12 ((u125.1 0 12) + (1 : Int32)))).length) (rg_map _) (mW_nd _ _ _ _ _ _) rfl rfl rfl rfl hl.1 rfl (Nat.le_of_ble_eq_true rfl) dX13_sets_73 ⟨Nat.le_of_ble_eq_true rfl, Nat.le_of_ble_eq_true rfl⟩) hP hD hS hA (fun u143 H locs hw142 hP hD hS => ?_)
          obtain rfl := hw142
          have z145 : ((u125.1 0 43) + (1 : Int32)).toInt = (u125.1 0 43).toInt + 1 := add_z rfl (show (1 : Int32).toInt = 1 by decide) (by omega) (by omega)
          have hP : va_P (dC, dI) vwCl (mW ad N cI cZ cJ (wA (wA (wA (wA (wA (wA (wA (wA u125 0 47 ((u125.1 0 47) + (1 : Int32))) 0 48 ((u125.1 0 48) + (1 : Int32))) 11 ((u125.1 0 12).toNatClampNeg) r137) 0 12 ((u125.1 0 12) + (1 : Int32))) 40 ((u125.1 0 43).toNatClampNeg) (u125.1 0 12)) 41 ((u125.1 0 43).toNatClampNeg) pb) 42 ((u125.1 0 43).toNatClampNeg) (3 : Int32)) 0 43 ((u125.1 0 43) + (1 : Int32)))) H := hP
          have hD : va_D A (mW ad N cI cZ cJ (wA (wA (wA (wA (wA (wA (wA (wA u125 0 47 ((u125.1 0 47) + (1 : Int32))) 0 48 ((u125.1 0 48) + (1 : Int32))) 11 ((u125.1 0 12).toNatClampNeg) r137) 0 12 ((u125.1 0 12) + (1 : Int32))) 40 ((u125.1 0 43).toNatClampNeg) (u125.1 0 12)) 41 ((u125.1 0 43).toNatClampNeg) pb) 42 ((u125.1 0 43).toNatClampNeg) (3 : Int32)) 0 43 ((u125.1 0 43) + (1 : Int32)))) := hD
          refine W.widen (k := 0) (n := 0) (by omega) (by omega) ?_
          obtain ⟨u146, hu147⟩ : ∃ z, z = (wA (wA (wA (wA (wA (wA (wA (wA u125 0 47 ((u125.1 0 47) + (1 : Int32))) 0 48 ((u125.1 0 48) + (1 : Int32))) 11 ((u125.1 0 12).toNatClampNeg) r137) 0 12 ((u125.1 0 12) + (1 : Int32))) 40 ((u125.1 0 43).toNatClampNeg) (u125.1 0 12)) 41 ((u125.1 0 43).toNatClampNeg) pb) 42 ((u125.1 0 43).toNatClampNeg) (3 : Int32)) 0 43 ((u125.1 0 43) + (1 : Int32))) := ⟨_, rfl⟩
          have fr147 : FG [12, 43, 47, 48] [0, 11, 40, 41, 42] u125 u146 := by rw [hu147]; exact (FG.f (FG.a (FG.a (FG.a (FG.f (FG.a (FG.f (FG.f (FG.rf _) ((u125.1 0 47) + (1 : Int32)) (by decide)) ((u125.1 0 48) + (1 : Int32)) (by decide)) ((u125.1 0 12).toNatClampNeg) r137 (by decide) (by decide)) ((u125.1 0 12) + (1 : Int32)) (by decide)) ((u125.1 0 43).toNatClampNeg) (u125.1 0 12) (by decide) (by decide)) ((u125.1 0 43).toNatClampNeg) pb (by decide) (by decide)) ((u125.1 0 43).toNatClampNeg) (3 : Int32) (by decide) (by decide)) ((u125.1 0 43) + (1 : Int32)) (by decide))
          have q147_2 : (u146.1 0 2).toInt = (u125.1 0 2).toInt := congrArg Int32.toInt (fr147.2.1 2 (by decide))
          have q147_4 : (u146.1 0 4).toInt = (u125.1 0 4).toInt := congrArg Int32.toInt (fr147.2.1 4 (by decide))
          have q147_5 : (u146.1 0 5).toInt = (u125.1 0 5).toInt := congrArg Int32.toInt (fr147.2.1 5 (by decide))
          have q147_12 : (u146.1 0 12).toInt = ((u125.1 0 12).toInt + 1) := by rw [hu147]; exact (show ((u125.1 0 12) + (1 : Int32)).toInt = ((u125.1 0 12).toInt + 1) from z141)
          have q147_15 : (u146.1 0 15).toInt = (u125.1 0 15).toInt := congrArg Int32.toInt (fr147.2.1 15 (by decide))
          have q147_22 : (u146.1 0 22).toInt = (u125.1 0 22).toInt := congrArg Int32.toInt (fr147.2.1 22 (by decide))
          have q147_27 : (u146.1 0 27).toInt = (u125.1 0 27).toInt := congrArg Int32.toInt (fr147.2.1 27 (by decide))
          have q147_28 : (u146.1 0 28).toInt = (u125.1 0 28).toInt := congrArg Int32.toInt (fr147.2.1 28 (by decide))
          have q147_30 : (u146.1 0 30).toInt = (u125.1 0 30).toInt := congrArg Int32.toInt (fr147.2.1 30 (by decide))
          have q147_31 : (u146.1 0 31).toInt = (u125.1 0 31).toInt := congrArg Int32.toInt (fr147.2.1 31 (by decide))
          have q147_32 : (u146.1 0 32).toInt = (u125.1 0 32).toInt := congrArg Int32.toInt (fr147.2.1 32 (by decide))
          have q147_33 : (u146.1 0 33).toInt = (u125.1 0 33).toInt := congrArg Int32.toInt (fr147.2.1 33 (by decide))
          have q147_34 : (u146.1 0 34).toInt = (u125.1 0 34).toInt := congrArg Int32.toInt (fr147.2.1 34 (by decide))
          have q147_39 : (u146.1 0 39).toInt = (u125.1 0 39).toInt := congrArg Int32.toInt (fr147.2.1 39 (by decide))
          have q147_43 : (u146.1 0 43).toInt = ((u125.1 0 43).toInt + 1) := by rw [hu147]; exact (show ((u125.1 0 43) + (1 : Int32)).toInt = ((u125.1 0 43).toInt + 1) from z145)
          have q147_47 : (u146.1 0 47).toInt = ((u125.1 0 47).toInt + 1) := by rw [hu147]; exact (show ((u125.1 0 47) + (1 : Int32)).toInt = ((u125.1 0 47).toInt + 1) from z130)
          have q147_48 : (u146.1 0 48).toInt = ((u125.1 0 48).toInt + 1) := by rw [hu147]; exact (show ((u125.1 0 48) + (1 : Int32)).toInt = ((u125.1 0 48).toInt + 1) from z131)
          have q147_49 : (u146.1 0 49).toInt = (u125.1 0 49).toInt := congrArg Int32.toInt (fr147.2.1 49 (by decide))
          have q147_52 : (u146.1 0 52).toInt = (u125.1 0 52).toInt := congrArg Int32.toInt (fr147.2.1 52 (by decide))
          have kc147 : ∀ j : Nat, (j : Int) < (u125.1 0 12).toInt → (u146.1 11) j = (u125.1 11) j := by rw [hu147]; exact (fun (j9 : Nat) hj9 => (pk_un (by have := cl_z (a := (u125.1 0 12).toInt) rfl (by omega); omega)))
          rw [← hu147] at hP hD
          refine lv_aload_n hx hb dX13_sets_76 rfl (lv_at hl 3 rfl) ?_
          refine lv_bipush (v := 10) hx hb dX13_sets_77 (by decide) ?_
          refine lv_iload hx hb dX13_sets_79 (lv_at hl 1 rfl) ?_
          refine cu_s (mW_nd _ _ _ _ _ _) (rn_S (n := 1) (As := [.int r119]) (rest := [.int 10, .ref (ad 0)]) hx hb hml hown ht hKK hFx hP hD hS hA (c_m_slotAt l dC dI cI cB cZ cJ cR tb H.size r119 ) tw_74 tw_75 (by decide +kernel) rfl rfl ⟨by show 0 + 1 ≤ 40 * n + 6; omega, by show 8 + (1 + 11) + 0 ≤ 28 * (40 * n + 6); omega⟩ [] rfl rfl rfl hl.1 rfl (Nat.le_of_ble_eq_true rfl) dX13_sets_81 ⟨Nat.le_of_ble_eq_true rfl, Nat.le_of_ble_eq_true rfl⟩) hP hD hS hA (fun r150 H locs hw148 hP hD hS => ?_)
          refine W.widen (k := 0) (n := 0) (by omega) (by omega) ?_
          refine lv_bipush (v := 8) hx hb dX13_sets_84 (by decide) ?_
          refine cu_s (mW_nd _ _ _ _ _ _) (rn_S (n := 3) (As := [.int 10, .int r150, .int 8]) (rest := [.ref (ad 0)]) hx hb hml hown ht hKK hFx hP hD hS hA (c_m_sw l dC dI cI cB cZ cJ cR tb H.size (10 : Int32) r150 (8 : Int32) ) tw_76 tw_77 (by decide +kernel) rfl rfl ⟨by show 0 + 1 ≤ 40 * n + 6; omega, by show 8 + (3 + 11) + 0 ≤ 28 * (40 * n + 6); omega⟩ [] rfl rfl rfl hl.1 rfl (Nat.le_of_ble_eq_true rfl) dX13_sets_86 ⟨Nat.le_of_ble_eq_true rfl, Nat.le_of_ble_eq_true rfl⟩) hP hD hS hA (fun r153 H locs hw151 hP hD hS => ?_)
          refine W.widen (k := 0) (n := 0) (by omega) (by omega) ?_
          refine cu_i (rn_V (n := 1) (As := [.int r153]) (rest := []) hx hb hml hown ht hKK hFx hP hD hS hA (c_m_emit l dC dI cI cB cZ cJ cR tb H.size ad N u146 r153 (show 0 ≤ (u146.1 0 12).toInt ∧ (u146.1 0 12).toInt < 24000 by omega)) tw_8 tw_9 (by decide +kernel) rfl rfl ⟨by show 0 + 1 ≤ 40 * n + 6; omega, by show 8 + (2 + 11) + 0 ≤ 28 * (40 * n + 6); omega⟩ (List.range (mW ad N cI cZ cJ u146).length) (rg_map _) (mW_nd _ _ _ _ _ _) rfl rfl rfl rfl hl.1 rfl (Nat.le_of_ble_eq_true rfl) dX13_sets_89 ⟨Nat.le_of_ble_eq_true rfl, Nat.le_of_ble_eq_true rfl⟩) hP hD hS hA (fun r156 u155 H locs hw154 hP hD hS => ?_)
          obtain ⟨rfl, rfl⟩ := hw154
          have z157 : ((u146.1 0 12) + (1 : Int32)).toInt = (u146.1 0 12).toInt + 1 := add_z rfl (show (1 : Int32).toInt = 1 by decide) (by omega) (by omega)
          have hP : va_P (dC, dI) vwCl (mW ad N cI cZ cJ (wA (wA u146 11 ((u146.1 0 12).toNatClampNeg) r153) 0 12 ((u146.1 0 12) + (1 : Int32)))) H := hP
          have hD : va_D A (mW ad N cI cZ cJ (wA (wA u146 11 ((u146.1 0 12).toNatClampNeg) r153) 0 12 ((u146.1 0 12) + (1 : Int32)))) := hD
          refine tp_i (y := (u146.1 0 12)) (rfl) ?_
          refine W.widen (k := 0) (n := 0) (by omega) (by omega) ?_
          refine lv_pop hx hb dX13_sets_92 rfl ?_
          refine lv_iload hx hb dX13_sets_93 (lv_at hl 7 rfl) ?_
          refine lv_if_eq (tgt := 111) hx hb dX13_sets_95 (by decide) (fun h158 => ?_) (fun h158 => ?_)
          · have z159 : pd.toInt = 0 := eq_z rfl (show (0 : Int32).toInt = 0 by decide) h158
            exfalso; omega
          · have z160 : pd.toInt ≠ 0 := ne_z rfl (show (0 : Int32).toInt = 0 by decide) h158
            refine lv_aload_n hx hb dX13_sets_98 rfl (lv_at hl 3 rfl) ?_
            refine lv_bipush (v := 10) hx hb dX13_sets_99 (by decide) ?_
            refine lv_iconst (v := 0) hx hb dX13_sets_101 (by decide) ?_
            refine lv_bipush (v := 10) hx hb dX13_sets_102 (by decide) ?_
            refine cu_s (mW_nd _ _ _ _ _ _) (rn_S (n := 3) (As := [.int 10, .int 0, .int 10]) (rest := [.ref (ad 0)]) hx hb hml hown ht hKK hFx hP hD hS hA (c_m_lw l dC dI cI cB cZ cJ cR tb H.size (10 : Int32) (0 : Int32) (10 : Int32) ) tw_71 tw_72 (by decide +kernel) rfl rfl ⟨by show 1 + 1 ≤ 40 * n + 6; omega, by show 8 + (3 + 11) + 24 ≤ 28 * (40 * n + 6); omega⟩ [] rfl rfl rfl hl.1 rfl (Nat.le_of_ble_eq_true rfl) dX13_sets_104 ⟨Nat.le_of_ble_eq_true rfl, Nat.le_of_ble_eq_true rfl⟩) hP hD hS hA (fun r163 H locs hw161 hP hD hS => ?_)
            refine W.widen (k := 0) (n := 0) (by omega) (by omega) ?_
            refine cu_i (rn_V (n := 1) (As := [.int r163]) (rest := []) hx hb hml hown ht hKK hFx hP hD hS hA (c_m_emit l dC dI cI cB cZ cJ cR tb H.size ad N (wA (wA u146 11 ((u146.1 0 12).toNatClampNeg) r153) 0 12 ((u146.1 0 12) + (1 : Int32))) r163 (show 0 ≤ ((u146.1 0 12) + (1 : Int32)).toInt ∧ ((u146.1 0 12) + (1 : Int32)).toInt < 24000 by omega)) tw_8 tw_9 (by decide +kernel) rfl rfl ⟨by show 0 + 1 ≤ 40 * n + 6; omega, by show 8 + (2 + 11) + 0 ≤ 28 * (40 * n + 6); omega⟩ (List.range (mW ad N cI cZ cJ (wA (wA u146 11 ((u146.1 0 12).toNatClampNeg) r153) 0 12 ((u146.1 0 12) + (1 : Int32)))).length) (rg_map _) (mW_nd _ _ _ _ _ _) rfl rfl rfl rfl hl.1 rfl (Nat.le_of_ble_eq_true rfl) dX13_sets_107 ⟨Nat.le_of_ble_eq_true rfl, Nat.le_of_ble_eq_true rfl⟩) hP hD hS hA (fun r166 u165 H locs hw164 hP hD hS => ?_)
            obtain ⟨rfl, rfl⟩ := hw164
            have z167 : (((u146.1 0 12) + (1 : Int32)) + (1 : Int32)).toInt = ((u146.1 0 12).toInt + 1) + 1 := add_z z157 (show (1 : Int32).toInt = 1 by decide) (by omega) (by omega)
            have hP : va_P (dC, dI) vwCl (mW ad N cI cZ cJ (wA (wA (wA (wA u146 11 ((u146.1 0 12).toNatClampNeg) r153) 0 12 ((u146.1 0 12) + (1 : Int32))) 11 (((u146.1 0 12) + (1 : Int32)).toNatClampNeg) r163) 0 12 (((u146.1 0 12) + (1 : Int32)) + (1 : Int32)))) H := hP
            have hD : va_D A (mW ad N cI cZ cJ (wA (wA (wA (wA u146 11 ((u146.1 0 12).toNatClampNeg) r153) 0 12 ((u146.1 0 12) + (1 : Int32))) 11 (((u146.1 0 12) + (1 : Int32)).toNatClampNeg) r163) 0 12 (((u146.1 0 12) + (1 : Int32)) + (1 : Int32)))) := hD
            refine tp_i (y := ((u146.1 0 12) + (1 : Int32))) (rfl) ?_
            refine W.widen (k := 0) (n := 0) (by omega) (by omega) ?_
            refine lv_pop hx hb dX13_sets_110 rfl ?_
            refine lv_iload hx hb dX13_sets_111 (lv_at hl 7 rfl) ?_
            refine lv_if_eq (tgt := 138) hx hb dX13_sets_113 (by decide) (fun h168 => ?_) (fun h168 => ?_)
            · have z169 : pd.toInt = 0 := eq_z rfl (show (0 : Int32).toInt = 0 by decide) h168
              exfalso; omega
            · have z170 : pd.toInt ≠ 0 := ne_z rfl (show (0 : Int32).toInt = 0 by decide) h168
              refine lv_aload_n hx hb dX13_sets_116 rfl (lv_at hl 3 rfl) ?_
              refine lv_bipush (v := 7) hx hb dX13_sets_117 (by decide) ?_
              refine lv_iconst (v := 0) hx hb dX13_sets_119 (by decide) ?_
              refine cu_i (rn_V (n := 2) (As := [.int 7, .int 0]) (rest := []) hx hb hml hown ht hKK hFx hP hD hS hA (c_m_say l dC dI cI cB cZ cJ cR tb H.size ad N (wA (wA (wA (wA u146 11 ((u146.1 0 12).toNatClampNeg) r153) 0 12 ((u146.1 0 12) + (1 : Int32))) 11 (((u146.1 0 12) + (1 : Int32)).toNatClampNeg) r163) 0 12 (((u146.1 0 12) + (1 : Int32)) + (1 : Int32))) (7 : Int32) (0 : Int32) (show 0 ≤ (u146.1 0 15).toInt ∧ (u146.1 0 15).toInt < 16000 by omega)) tw_59 tw_60 (by decide +kernel) rfl rfl ⟨by show 0 + 1 ≤ 40 * n + 6; omega, by show 8 + (3 + 11) + 0 ≤ 28 * (40 * n + 6); omega⟩ (List.range (mW ad N cI cZ cJ (wA (wA (wA (wA u146 11 ((u146.1 0 12).toNatClampNeg) r153) 0 12 ((u146.1 0 12) + (1 : Int32))) 11 (((u146.1 0 12) + (1 : Int32)).toNatClampNeg) r163) 0 12 (((u146.1 0 12) + (1 : Int32)) + (1 : Int32)))).length) (rg_map _) (mW_nd _ _ _ _ _ _) rfl rfl rfl rfl hl.1 rfl (Nat.le_of_ble_eq_true rfl) dX13_sets_120 ⟨Nat.le_of_ble_eq_true rfl, Nat.le_of_ble_eq_true rfl⟩) hP hD hS hA (fun r173 u172 H locs hw171 hP hD hS => ?_)
              obtain ⟨rfl, rfl⟩ := hw171
              have z174 : ((u146.1 0 15) + (1 : Int32)).toInt = (u146.1 0 15).toInt + 1 := add_z rfl (show (1 : Int32).toInt = 1 by decide) (by omega) (by omega)
              have hP : va_P (dC, dI) vwCl (mW ad N cI cZ cJ (wA (wA (wA (wA (wA (wA (wA u146 11 ((u146.1 0 12).toNatClampNeg) r153) 0 12 ((u146.1 0 12) + (1 : Int32))) 11 (((u146.1 0 12) + (1 : Int32)).toNatClampNeg) r163) 0 12 (((u146.1 0 12) + (1 : Int32)) + (1 : Int32))) 13 ((u146.1 0 15).toNatClampNeg) (7 : Int32)) 14 ((u146.1 0 15).toNatClampNeg) (0 : Int32)) 0 15 ((u146.1 0 15) + (1 : Int32)))) H := hP
              have hD : va_D A (mW ad N cI cZ cJ (wA (wA (wA (wA (wA (wA (wA u146 11 ((u146.1 0 12).toNatClampNeg) r153) 0 12 ((u146.1 0 12) + (1 : Int32))) 11 (((u146.1 0 12) + (1 : Int32)).toNatClampNeg) r163) 0 12 (((u146.1 0 12) + (1 : Int32)) + (1 : Int32))) 13 ((u146.1 0 15).toNatClampNeg) (7 : Int32)) 14 ((u146.1 0 15).toNatClampNeg) (0 : Int32)) 0 15 ((u146.1 0 15) + (1 : Int32)))) := hD
              refine tp_i (y := (u146.1 0 15)) (rfl) ?_
              refine W.widen (k := 0) (n := 0) (by omega) (by omega) ?_
              obtain ⟨u175, hu176⟩ : ∃ z, z = (wA (wA (wA (wA (wA (wA (wA u146 11 ((u146.1 0 12).toNatClampNeg) r153) 0 12 ((u146.1 0 12) + (1 : Int32))) 11 (((u146.1 0 12) + (1 : Int32)).toNatClampNeg) r163) 0 12 (((u146.1 0 12) + (1 : Int32)) + (1 : Int32))) 13 ((u146.1 0 15).toNatClampNeg) (7 : Int32)) 14 ((u146.1 0 15).toNatClampNeg) (0 : Int32)) 0 15 ((u146.1 0 15) + (1 : Int32))) := ⟨_, rfl⟩
              have fr176 : FG [12, 15] [0, 11, 13, 14] u146 u175 := by rw [hu176]; exact (FG.f (FG.a (FG.a (FG.f (FG.a (FG.f (FG.a (FG.rf _) ((u146.1 0 12).toNatClampNeg) r153 (by decide) (by decide)) ((u146.1 0 12) + (1 : Int32)) (by decide)) (((u146.1 0 12) + (1 : Int32)).toNatClampNeg) r163 (by decide) (by decide)) (((u146.1 0 12) + (1 : Int32)) + (1 : Int32)) (by decide)) ((u146.1 0 15).toNatClampNeg) (7 : Int32) (by decide) (by decide)) ((u146.1 0 15).toNatClampNeg) (0 : Int32) (by decide) (by decide)) ((u146.1 0 15) + (1 : Int32)) (by decide))
              have q176_2 : (u175.1 0 2).toInt = (u146.1 0 2).toInt := congrArg Int32.toInt (fr176.2.1 2 (by decide))
              have q176_4 : (u175.1 0 4).toInt = (u146.1 0 4).toInt := congrArg Int32.toInt (fr176.2.1 4 (by decide))
              have q176_5 : (u175.1 0 5).toInt = (u146.1 0 5).toInt := congrArg Int32.toInt (fr176.2.1 5 (by decide))
              have q176_12 : (u175.1 0 12).toInt = (((u146.1 0 12).toInt + 1) + 1) := by rw [hu176]; exact (show (((u146.1 0 12) + (1 : Int32)) + (1 : Int32)).toInt = (((u146.1 0 12).toInt + 1) + 1) from z167)
              have q176_15 : (u175.1 0 15).toInt = ((u146.1 0 15).toInt + 1) := by rw [hu176]; exact (show ((u146.1 0 15) + (1 : Int32)).toInt = ((u146.1 0 15).toInt + 1) from z174)
              have q176_22 : (u175.1 0 22).toInt = (u146.1 0 22).toInt := congrArg Int32.toInt (fr176.2.1 22 (by decide))
              have q176_27 : (u175.1 0 27).toInt = (u146.1 0 27).toInt := congrArg Int32.toInt (fr176.2.1 27 (by decide))
              have q176_28 : (u175.1 0 28).toInt = (u146.1 0 28).toInt := congrArg Int32.toInt (fr176.2.1 28 (by decide))
              have q176_30 : (u175.1 0 30).toInt = (u146.1 0 30).toInt := congrArg Int32.toInt (fr176.2.1 30 (by decide))
              have q176_31 : (u175.1 0 31).toInt = (u146.1 0 31).toInt := congrArg Int32.toInt (fr176.2.1 31 (by decide))
              have q176_32 : (u175.1 0 32).toInt = (u146.1 0 32).toInt := congrArg Int32.toInt (fr176.2.1 32 (by decide))
              have q176_33 : (u175.1 0 33).toInt = (u146.1 0 33).toInt := congrArg Int32.toInt (fr176.2.1 33 (by decide))
              have q176_34 : (u175.1 0 34).toInt = (u146.1 0 34).toInt := congrArg Int32.toInt (fr176.2.1 34 (by decide))
              have q176_39 : (u175.1 0 39).toInt = (u146.1 0 39).toInt := congrArg Int32.toInt (fr176.2.1 39 (by decide))
              have q176_43 : (u175.1 0 43).toInt = (u146.1 0 43).toInt := congrArg Int32.toInt (fr176.2.1 43 (by decide))
              have q176_47 : (u175.1 0 47).toInt = (u146.1 0 47).toInt := congrArg Int32.toInt (fr176.2.1 47 (by decide))
              have q176_48 : (u175.1 0 48).toInt = (u146.1 0 48).toInt := congrArg Int32.toInt (fr176.2.1 48 (by decide))
              have q176_49 : (u175.1 0 49).toInt = (u146.1 0 49).toInt := congrArg Int32.toInt (fr176.2.1 49 (by decide))
              have q176_52 : (u175.1 0 52).toInt = (u146.1 0 52).toInt := congrArg Int32.toInt (fr176.2.1 52 (by decide))
              have kc176 : ∀ j : Nat, (j : Int) < (u146.1 0 12).toInt → (u175.1 11) j = (u146.1 11) j := by rw [hu176]; exact (fun (j9 : Nat) hj9 => (Eq.trans (pk_un (by have := cl_z (a := ((u146.1 0 12) + (1 : Int32)).toInt) rfl (by omega); omega)) (pk_un (by have := cl_z (a := (u146.1 0 12).toInt) rfl (by omega); omega))))
              have ko176 : ∀ j : Nat, (j : Int) < (u146.1 0 15).toInt → (u175.1 13) j = (u146.1 13) j := by rw [hu176]; exact (fun (j9 : Nat) hj9 => (pk_un (by have := cl_z (a := (u146.1 0 15).toInt) rfl (by omega); omega)))
              have kg176 : ∀ j : Nat, (j : Int) < (u146.1 0 15).toInt → (u175.1 14) j = (u146.1 14) j := by rw [hu176]; exact (fun (j9 : Nat) hj9 => (pk_un (by have := cl_z (a := (u146.1 0 15).toInt) rfl (by omega); omega)))
              rw [← hu176] at hP hD
              refine lv_pop hx hb dX13_sets_123 rfl ?_
              refine lv_goto (tgt := 138) hx hb dX13_sets_124 (by decide) ?_
              refine lv_iload hx hb dX13_sets_138 (lv_at hl 7 rfl) ?_
              refine lv_if_eq (tgt := 160) hx hb dX13_sets_140 (by decide) (fun h177 => ?_) (fun h177 => ?_)
              · have z178 : pd.toInt = 0 := eq_z rfl (show (0 : Int32).toInt = 0 by decide) h177
                exfalso; omega
              · have z179 : pd.toInt ≠ 0 := ne_z rfl (show (0 : Int32).toInt = 0 by decide) h177
                refine lv_aload_n hx hb dX13_sets_143 rfl (lv_at hl 3 rfl) ?_
                refine lv_bipush (v := 10) hx hb dX13_sets_144 (by decide) ?_
                refine lv_iload hx hb dX13_sets_146 (lv_at hl 0 rfl) ?_
                refine cu_s (mW_nd _ _ _ _ _ _) (rn_S (n := 1) (As := [.int (r119 + (1 : Int32))]) (rest := [.int 10, .ref (ad 0)]) hx hb hml hown ht hKK hFx hP hD hS hA (c_m_slotAt l dC dI cI cB cZ cJ cR tb H.size (r119 + (1 : Int32)) ) tw_74 tw_75 (by decide +kernel) rfl rfl ⟨by show 0 + 1 ≤ 40 * n + 6; omega, by show 8 + (1 + 11) + 0 ≤ 28 * (40 * n + 6); omega⟩ [] rfl rfl rfl hl.1 rfl (Nat.le_of_ble_eq_true rfl) dX13_sets_148 ⟨Nat.le_of_ble_eq_true rfl, Nat.le_of_ble_eq_true rfl⟩) hP hD hS hA (fun r182 H locs hw180 hP hD hS => ?_)
                refine W.widen (k := 0) (n := 0) (by omega) (by omega) ?_
                refine lv_bipush (v := 8) hx hb dX13_sets_151 (by decide) ?_
                refine cu_s (mW_nd _ _ _ _ _ _) (rn_S (n := 3) (As := [.int 10, .int r182, .int 8]) (rest := [.ref (ad 0)]) hx hb hml hown ht hKK hFx hP hD hS hA (c_m_sw l dC dI cI cB cZ cJ cR tb H.size (10 : Int32) r182 (8 : Int32) ) tw_76 tw_77 (by decide +kernel) rfl rfl ⟨by show 0 + 1 ≤ 40 * n + 6; omega, by show 8 + (3 + 11) + 0 ≤ 28 * (40 * n + 6); omega⟩ [] rfl rfl rfl hl.1 rfl (Nat.le_of_ble_eq_true rfl) dX13_sets_153 ⟨Nat.le_of_ble_eq_true rfl, Nat.le_of_ble_eq_true rfl⟩) hP hD hS hA (fun r185 H locs hw183 hP hD hS => ?_)
                refine W.widen (k := 0) (n := 0) (by omega) (by omega) ?_
                refine cu_i (rn_V (n := 1) (As := [.int r185]) (rest := []) hx hb hml hown ht hKK hFx hP hD hS hA (c_m_emit l dC dI cI cB cZ cJ cR tb H.size ad N u175 r185 (show 0 ≤ (u175.1 0 12).toInt ∧ (u175.1 0 12).toInt < 24000 by omega)) tw_8 tw_9 (by decide +kernel) rfl rfl ⟨by show 0 + 1 ≤ 40 * n + 6; omega, by show 8 + (2 + 11) + 0 ≤ 28 * (40 * n + 6); omega⟩ (List.range (mW ad N cI cZ cJ u175).length) (rg_map _) (mW_nd _ _ _ _ _ _) rfl rfl rfl rfl hl.1 rfl (Nat.le_of_ble_eq_true rfl) dX13_sets_156 ⟨Nat.le_of_ble_eq_true rfl, Nat.le_of_ble_eq_true rfl⟩) hP hD hS hA (fun r188 u187 H locs hw186 hP hD hS => ?_)
                obtain ⟨rfl, rfl⟩ := hw186
                have z189 : ((u175.1 0 12) + (1 : Int32)).toInt = (u175.1 0 12).toInt + 1 := add_z rfl (show (1 : Int32).toInt = 1 by decide) (by omega) (by omega)
                have hP : va_P (dC, dI) vwCl (mW ad N cI cZ cJ (wA (wA u175 11 ((u175.1 0 12).toNatClampNeg) r185) 0 12 ((u175.1 0 12) + (1 : Int32)))) H := hP
                have hD : va_D A (mW ad N cI cZ cJ (wA (wA u175 11 ((u175.1 0 12).toNatClampNeg) r185) 0 12 ((u175.1 0 12) + (1 : Int32)))) := hD
                refine tp_i (y := (u175.1 0 12)) (rfl) ?_
                refine W.widen (k := 0) (n := 0) (by omega) (by omega) ?_
                refine lv_pop hx hb dX13_sets_159 rfl ?_
                refine lv_aload_n hx hb dX13_sets_160 rfl (lv_at hl 3 rfl) ?_
                refine lv_dup hx hb dX13_sets_161 rfl ?_
                refine va_get (D := (dC, dI)) (ci := 16) (fs := mF ad (wA (wA u175 11 ((u175.1 0 12).toNatClampNeg) r185) 0 12 ((u175.1 0 12) + (1 : Int32)))) (v := .int (u175.1 0 32)) (C := RX13) (T := TX13) (N := 124) hx hb ht itX13 hown hK hP 0 rfl rfl 32 (by decide) (ht _ tw_52) (fun _ h9 => h9) rfl dX13_sets_162 ?_
                refine lv_iload hx hb dX13_sets_165 (lv_at hl 2 rfl) ?_
                refine lv_iadd hx hb dX13_sets_167 ?_
                have z190 : ((u175.1 0 32) + (2 : Int32)).toInt = (u175.1 0 32).toInt + 2 := add_z rfl (show (2 : Int32).toInt = 2 by decide) (by omega) (by omega)
                refine va_put (D := (dC, dI)) (ci := 16) (fs := mF ad (wA (wA u175 11 ((u175.1 0 12).toNatClampNeg) r185) 0 12 ((u175.1 0 12) + (1 : Int32)))) (v := .int ((u175.1 0 32) + (2 : Int32))) (ty := .int) (C := RX13) (T := TX13) (N := 124) hx hb ht itX13 tyX13 tyX13_ok nmX13 hown hK hP hD hS 0 rfl rfl 32 (by decide) (ht _ tw_52) (fun _ h9 => h9) rfl (by decide +kernel) rfl rfl (Nat.le_of_ble_eq_true rfl) dX13_sets_168 (fun H locs hP hD hS => ?_)
                have hP := cP_ (mw_32 ad N cI cZ cJ (wA (wA u175 11 ((u175.1 0 12).toNatClampNeg) r185) 0 12 ((u175.1 0 12) + (1 : Int32))) ((u175.1 0 32) + (2 : Int32))) hP
                have hD := cD_ (mw_32 ad N cI cZ cJ (wA (wA u175 11 ((u175.1 0 12).toNatClampNeg) r185) 0 12 ((u175.1 0 12) + (1 : Int32))) ((u175.1 0 32) + (2 : Int32))) hD
                refine lv_aload_n hx hb dX13_sets_171 rfl (lv_at hl 3 rfl) ?_
                obtain ⟨n191, hn192⟩ : ∃ m, n = m + 1 := ⟨n - 1, by omega⟩
                refine cux_v (rx_V (n := 0) (As := []) (rest := []) hx hb hml hown ht hKK hFx hP hD hS hA (ihE n191 hn192 dC dI cI cB cZ cJ cR tb H.size ad N (wA (wA (wA u175 11 ((u175.1 0 12).toNatClampNeg) r185) 0 12 ((u175.1 0 12) + (1 : Int32))) 0 32 ((u175.1 0 32) + (2 : Int32)))  (show 40 ≤ (u175.1 0 48).toInt + (n191 : Int) by omega) (show 0 ≤ (u175.1 0 47).toInt ∧ (u175.1 0 47).toInt ≤ 1500 by omega) (show 0 ≤ (u175.1 0 48).toInt ∧ (u175.1 0 48).toInt ≤ 40 by omega) (show 0 ≤ (u175.1 0 30).toInt ∧ (u175.1 0 30).toInt ≤ 500 by omega) (show 0 ≤ (u175.1 0 33).toInt ∧ (u175.1 0 33).toInt ≤ 500 by omega) (show 0 ≤ ((u175.1 0 32) + (2 : Int32)).toInt ∧ (u175.1 0 30).toInt + ((u175.1 0 32) + (2 : Int32)).toInt ≤ 500 by omega) (show 0 ≤ ((u175.1 0 12) + (1 : Int32)).toInt ∧ ((u175.1 0 12) + (1 : Int32)).toInt ≤ 15 * (u175.1 0 47).toInt + 2 by omega) (show 0 ≤ (u175.1 0 15).toInt ∧ (u175.1 0 15).toInt ≤ 10 * (u175.1 0 47).toInt + 0 by omega) (show 0 ≤ (u175.1 0 43).toInt ∧ (u175.1 0 43).toInt ≤ 15 * (u175.1 0 47).toInt + 0 by omega) (show 0 ≤ (u175.1 0 39).toInt ∧ (u175.1 0 39).toInt ≤ 1 * (u175.1 0 47).toInt + 0 by omega) (show 0 ≤ (u175.1 0 27).toInt ∧ (u175.1 0 27).toInt ≤ 60 by omega) (FG.ti (fl := pfl) (al := pal) (FG.f (FG.f (FG.a (FG.tr (FG.tr (FG.tr (FG.tr (FG.rf _) (FG.up fr117 (by decide) (by decide))) (FG.up fr124 (by decide) (by decide))) (FG.up fr147 (by decide) (by decide))) (FG.up fr176 (by decide) (by decide))) ((u175.1 0 12).toNatClampNeg) r185 (by decide) (by decide)) ((u175.1 0 12) + (1 : Int32)) (by decide)) ((u175.1 0 32) + (2 : Int32)) (by decide)) (by decide) (by decide) hT) ((show NI 29 u175 from NI.fr (fl := [12, 15]) (al := [0, 11, 13, 14]) fr176 (by decide) (show NI 29 u146 from NI.fr (fl := [12, 43, 47, 48]) (al := [0, 11, 40, 41, 42]) fr147 (by decide) (show NI 29 u125 from NI.fr (fl := [44, 45]) (al := [0]) fr124 (by decide) (show NI 29 u118 from NI.fr (fl := [33, 49]) (al := [0]) fr117 (by decide) n29))))) ((show NI 23 u175 from NI.fr (fl := [12, 15]) (al := [0, 11, 13, 14]) fr176 (by decide) (show NI 23 u146 from NI.fr (fl := [12, 43, 47, 48]) (al := [0, 11, 40, 41, 42]) fr147 (by decide) (show NI 23 u125 from NI.fr (fl := [44, 45]) (al := [0]) fr124 (by decide) (show NI 23 u118 from NI.fr (fl := [33, 49]) (al := [0]) fr117 (by decide) n23))))) ((show NI 35 u175 from NI.fr (fl := [12, 15]) (al := [0, 11, 13, 14]) fr176 (by decide) (show NI 35 u146 from NI.fr (fl := [12, 43, 47, 48]) (al := [0, 11, 40, 41, 42]) fr147 (by decide) (show NI 35 u125 from NI.fr (fl := [44, 45]) (al := [0]) fr124 (by decide) (show NI 35 u118 from NI.fr (fl := [33, 49]) (al := [0]) fr117 (by decide) n35)))))) tw_80 tw_81 (by decide +kernel) rfl rfl ⟨by show (40 * n191 + 36) + 1 ≤ 40 * n + 6; omega, by show 8 + (1 + 11) + 28 * (40 * n191 + 36) ≤ 28 * (40 * n + 6); omega⟩ (List.range (mW ad N cI cZ cJ (wA (wA (wA u175 11 ((u175.1 0 12).toNatClampNeg) r185) 0 12 ((u175.1 0 12) + (1 : Int32))) 0 32 ((u175.1 0 32) + (2 : Int32)))).length) (rg_map _) (mW_nd _ _ _ _ _ _) rfl rfl rfl rfl hl.1 rfl (Nat.le_of_ble_eq_true rfl) dX13_sets_172 ⟨Nat.le_of_ble_eq_true rfl, Nat.le_of_ble_eq_true rfl⟩) hP hD hS hA (fun u9 ce9 q9 H locs hx9 hP hD hS hc9 hv9 hf9 => ?_) (fun u194 H locs hw193 hP hD hS => ?_)
                · exact vx_out (fun x h9 => (hnt x h9).elim) hlocks hc9 hv9 hf9 (fun t9 ht9 hv8 => ⟨u9, (FG.tr (FG.f (FG.f (FG.a (FG.tr (FG.tr (FG.tr (FG.tr (FG.rf _) (FG.up fr117 (by decide) (by decide))) (FG.up fr124 (by decide) (by decide))) (FG.up fr147 (by decide) (by decide))) (FG.up fr176 (by decide) (by decide))) ((u175.1 0 12).toNatClampNeg) r185 (by decide) (by decide)) ((u175.1 0 12) + (1 : Int32)) (by decide)) ((u175.1 0 32) + (2 : Int32)) (by decide)) hx9), ⟨rfl, by rw [ht9]; exact hP, hD⟩, hS.F ht9⟩) hS.2.2 (by omega) (by omega)
                obtain ⟨fr193, pt193, pb193, pw193, po193, pf193, pk193, pp193, ph193, kc193, ko193, kg193, n35193⟩ := hw193
                have q193_2 : (u194.1 0 2).toInt = (u175.1 0 2).toInt := congrArg Int32.toInt ((fr193.2.1 2 (by decide)).trans (show (wA (wA (wA u175 11 ((u175.1 0 12).toNatClampNeg) r185) 0 12 ((u175.1 0 12) + (1 : Int32))) 0 32 ((u175.1 0 32) + (2 : Int32))).1 0 2 = (u175.1 0 2) by rfl))
                have q193_4 : (u194.1 0 4).toInt = (u175.1 0 4).toInt := congrArg Int32.toInt ((fr193.2.1 4 (by decide)).trans (show (wA (wA (wA u175 11 ((u175.1 0 12).toNatClampNeg) r185) 0 12 ((u175.1 0 12) + (1 : Int32))) 0 32 ((u175.1 0 32) + (2 : Int32))).1 0 4 = (u175.1 0 4) by rfl))
                have q193_5 : (u194.1 0 5).toInt = (u175.1 0 5).toInt := congrArg Int32.toInt ((fr193.2.1 5 (by decide)).trans (show (wA (wA (wA u175 11 ((u175.1 0 12).toNatClampNeg) r185) 0 12 ((u175.1 0 12) + (1 : Int32))) 0 32 ((u175.1 0 32) + (2 : Int32))).1 0 5 = (u175.1 0 5) by rfl))
                have q193_22 : (u194.1 0 22).toInt = (u175.1 0 22).toInt := congrArg Int32.toInt ((fr193.2.1 22 (by decide)).trans (show (wA (wA (wA u175 11 ((u175.1 0 12).toNatClampNeg) r185) 0 12 ((u175.1 0 12) + (1 : Int32))) 0 32 ((u175.1 0 32) + (2 : Int32))).1 0 22 = (u175.1 0 22) by rfl))
                have q193_27 : (u194.1 0 27).toInt = (u175.1 0 27).toInt := congrArg Int32.toInt ((fr193.2.1 27 (by decide)).trans (show (wA (wA (wA u175 11 ((u175.1 0 12).toNatClampNeg) r185) 0 12 ((u175.1 0 12) + (1 : Int32))) 0 32 ((u175.1 0 32) + (2 : Int32))).1 0 27 = (u175.1 0 27) by rfl))
                have q193_28 : (u194.1 0 28).toInt = (u175.1 0 28).toInt := congrArg Int32.toInt ((fr193.2.1 28 (by decide)).trans (show (wA (wA (wA u175 11 ((u175.1 0 12).toNatClampNeg) r185) 0 12 ((u175.1 0 12) + (1 : Int32))) 0 32 ((u175.1 0 32) + (2 : Int32))).1 0 28 = (u175.1 0 28) by rfl))
                have q193_30 : (u194.1 0 30).toInt = (u175.1 0 30).toInt := congrArg Int32.toInt ((fr193.2.1 30 (by decide)).trans (show (wA (wA (wA u175 11 ((u175.1 0 12).toNatClampNeg) r185) 0 12 ((u175.1 0 12) + (1 : Int32))) 0 32 ((u175.1 0 32) + (2 : Int32))).1 0 30 = (u175.1 0 30) by rfl))
                have q193_31 : (u194.1 0 31).toInt = (u175.1 0 31).toInt := congrArg Int32.toInt ((fr193.2.1 31 (by decide)).trans (show (wA (wA (wA u175 11 ((u175.1 0 12).toNatClampNeg) r185) 0 12 ((u175.1 0 12) + (1 : Int32))) 0 32 ((u175.1 0 32) + (2 : Int32))).1 0 31 = (u175.1 0 31) by rfl))
                have q193_34 : (u194.1 0 34).toInt = (u175.1 0 34).toInt := congrArg Int32.toInt ((fr193.2.1 34 (by decide)).trans (show (wA (wA (wA u175 11 ((u175.1 0 12).toNatClampNeg) r185) 0 12 ((u175.1 0 12) + (1 : Int32))) 0 32 ((u175.1 0 32) + (2 : Int32))).1 0 34 = (u175.1 0 34) by rfl))
                have q193_52 : (u194.1 0 52).toInt = (u175.1 0 52).toInt := congrArg Int32.toInt ((fr193.2.1 52 (by decide)).trans (show (wA (wA (wA u175 11 ((u175.1 0 12).toNatClampNeg) r185) 0 12 ((u175.1 0 12) + (1 : Int32))) 0 32 ((u175.1 0 32) + (2 : Int32))).1 0 52 = (u175.1 0 52) by rfl))
                have pt193 : (u175.1 0 47).toInt + 1 ≤ (u194.1 0 47).toInt ∧ (u194.1 0 47).toInt ≤ 1500 := pt193
                have pb193 : (u175.1 0 49).toInt ≠ (u175.1 0 47).toInt := pb193
                have pw193 : ((u175.1 0 12) + (1 : Int32)).toInt ≤ (u194.1 0 12).toInt ∧ (u194.1 0 12).toInt - 15 * (u194.1 0 47).toInt ≤ ((u175.1 0 12) + (1 : Int32)).toInt - 15 * (u175.1 0 47).toInt := pw193
                have po193 : (u175.1 0 15).toInt ≤ (u194.1 0 15).toInt ∧ (u194.1 0 15).toInt - 10 * (u194.1 0 47).toInt ≤ (u175.1 0 15).toInt - 10 * (u175.1 0 47).toInt := po193
                have pf193 : (u175.1 0 43).toInt ≤ (u194.1 0 43).toInt ∧ (u194.1 0 43).toInt - 15 * (u194.1 0 47).toInt ≤ (u175.1 0 43).toInt - 15 * (u175.1 0 47).toInt := pf193
                have pk193 : (u175.1 0 39).toInt ≤ (u194.1 0 39).toInt ∧ (u194.1 0 39).toInt - 1 * (u194.1 0 47).toInt ≤ (u175.1 0 39).toInt - 1 * (u175.1 0 47).toInt := pk193
                have pp193 : (u194.1 0 32).toInt = ((u175.1 0 32) + (2 : Int32)).toInt ∧ (u194.1 0 48).toInt = (u175.1 0 48).toInt := pp193
                have ph193 : (u175.1 0 33).toInt ≤ (u194.1 0 33).toInt ∧ (u194.1 0 33).toInt ≤ 500 := ph193
                have kc193 : ∀ j : Nat, (j : Int) < ((u175.1 0 12) + (1 : Int32)).toInt → (u194.1 11) j = (upd (u175.1 11) ((u175.1 0 12).toNatClampNeg) r185) j := kc193
                have ko193 : ∀ j : Nat, (j : Int) < (u175.1 0 15).toInt → (u194.1 13) j = (u175.1 13) j := ko193
                have kg193 : ∀ j : Nat, (j : Int) < (u175.1 0 15).toInt → (u194.1 14) j = (u175.1 14) j := kg193
                have n35193 : NI 35 u194 := n35193
                refine W.widen (k := 0) (n := 0) (by omega) (by omega) ?_
                refine lv_aload_n hx hb dX13_sets_175 rfl (lv_at hl 3 rfl) ?_
                refine lv_dup hx hb dX13_sets_176 rfl ?_
                refine va_get (D := (dC, dI)) (ci := 16) (fs := mF ad u194) (v := .int (u194.1 0 32)) (C := RX13) (T := TX13) (N := 124) hx hb ht itX13 hown hK hP 0 rfl rfl 32 (by decide) (ht _ tw_52) (fun _ h9 => h9) rfl dX13_sets_177 ?_
                refine lv_iload hx hb dX13_sets_180 (lv_at hl 2 rfl) ?_
                refine lv_isub hx hb dX13_sets_182 ?_
                have z196 : ((u194.1 0 32) - (2 : Int32)).toInt = (u194.1 0 32).toInt - 2 := sub_z rfl (show (2 : Int32).toInt = 2 by decide) (by omega) (by omega)
                refine va_put (D := (dC, dI)) (ci := 16) (fs := mF ad u194) (v := .int ((u194.1 0 32) - (2 : Int32))) (ty := .int) (C := RX13) (T := TX13) (N := 124) hx hb ht itX13 tyX13 tyX13_ok nmX13 hown hK hP hD hS 0 rfl rfl 32 (by decide) (ht _ tw_52) (fun _ h9 => h9) rfl (by decide +kernel) rfl rfl (Nat.le_of_ble_eq_true rfl) dX13_sets_183 (fun H locs hP hD hS => ?_)
                have hP := cP_ (mw_32 ad N cI cZ cJ u194 ((u194.1 0 32) - (2 : Int32))) hP
                have hD := cD_ (mw_32 ad N cI cZ cJ u194 ((u194.1 0 32) - (2 : Int32))) hD
                refine lv_iload hx hb dX13_sets_186 (lv_at hl 7 rfl) ?_
                refine lv_if_eq (tgt := 213) hx hb dX13_sets_188 (by decide) (fun h197 => ?_) (fun h197 => ?_)
                · have z198 : pd.toInt = 0 := eq_z rfl (show (0 : Int32).toInt = 0 by decide) h197
                  exfalso; omega
                · have z199 : pd.toInt ≠ 0 := ne_z rfl (show (0 : Int32).toInt = 0 by decide) h197
                  refine lv_aload_n hx hb dX13_sets_191 rfl (lv_at hl 3 rfl) ?_
                  refine lv_iconst (v := 5) hx hb dX13_sets_192 (by decide) ?_
                  refine lv_iload hx hb dX13_sets_193 (lv_at hl 0 rfl) ?_
                  refine cu_s (mW_nd _ _ _ _ _ _) (rn_S (n := 1) (As := [.int (r119 + (1 : Int32))]) (rest := [.int 5, .ref (ad 0)]) hx hb hml hown ht hKK hFx hP hD hS hA (c_m_slotAt l dC dI cI cB cZ cJ cR tb H.size (r119 + (1 : Int32)) ) tw_74 tw_75 (by decide +kernel) rfl rfl ⟨by show 0 + 1 ≤ 40 * n + 6; omega, by show 8 + (1 + 11) + 0 ≤ 28 * (40 * n + 6); omega⟩ [] rfl rfl rfl hl.1 rfl (Nat.le_of_ble_eq_true rfl) dX13_sets_195 ⟨Nat.le_of_ble_eq_true rfl, Nat.le_of_ble_eq_true rfl⟩) hP hD hS hA (fun r202 H locs hw200 hP hD hS => ?_)
                  refine W.widen (k := 0) (n := 0) (by omega) (by omega) ?_
                  refine lv_bipush (v := 8) hx hb dX13_sets_198 (by decide) ?_
                  refine cu_s (mW_nd _ _ _ _ _ _) (rn_S (n := 3) (As := [.int 5, .int r202, .int 8]) (rest := [.ref (ad 0)]) hx hb hml hown ht hKK hFx hP hD hS hA (c_m_lw l dC dI cI cB cZ cJ cR tb H.size (5 : Int32) r202 (8 : Int32) ) tw_71 tw_72 (by decide +kernel) rfl rfl ⟨by show 1 + 1 ≤ 40 * n + 6; omega, by show 8 + (3 + 11) + 24 ≤ 28 * (40 * n + 6); omega⟩ [] rfl rfl rfl hl.1 rfl (Nat.le_of_ble_eq_true rfl) dX13_sets_200 ⟨Nat.le_of_ble_eq_true rfl, Nat.le_of_ble_eq_true rfl⟩) hP hD hS hA (fun r205 H locs hw203 hP hD hS => ?_)
                  refine W.widen (k := 0) (n := 0) (by omega) (by omega) ?_
                  refine cu_i (rn_V (n := 1) (As := [.int r205]) (rest := []) hx hb hml hown ht hKK hFx hP hD hS hA (c_m_emit l dC dI cI cB cZ cJ cR tb H.size ad N (wA u194 0 32 ((u194.1 0 32) - (2 : Int32))) r205 (show 0 ≤ (u194.1 0 12).toInt ∧ (u194.1 0 12).toInt < 24000 by omega)) tw_8 tw_9 (by decide +kernel) rfl rfl ⟨by show 0 + 1 ≤ 40 * n + 6; omega, by show 8 + (2 + 11) + 0 ≤ 28 * (40 * n + 6); omega⟩ (List.range (mW ad N cI cZ cJ (wA u194 0 32 ((u194.1 0 32) - (2 : Int32)))).length) (rg_map _) (mW_nd _ _ _ _ _ _) rfl rfl rfl rfl hl.1 rfl (Nat.le_of_ble_eq_true rfl) dX13_sets_203 ⟨Nat.le_of_ble_eq_true rfl, Nat.le_of_ble_eq_true rfl⟩) hP hD hS hA (fun r208 u207 H locs hw206 hP hD hS => ?_)
                  obtain ⟨rfl, rfl⟩ := hw206
                  have z209 : ((u194.1 0 12) + (1 : Int32)).toInt = (u194.1 0 12).toInt + 1 := add_z rfl (show (1 : Int32).toInt = 1 by decide) (by omega) (by omega)
                  have hP : va_P (dC, dI) vwCl (mW ad N cI cZ cJ (wA (wA (wA u194 0 32 ((u194.1 0 32) - (2 : Int32))) 11 ((u194.1 0 12).toNatClampNeg) r205) 0 12 ((u194.1 0 12) + (1 : Int32)))) H := hP
                  have hD : va_D A (mW ad N cI cZ cJ (wA (wA (wA u194 0 32 ((u194.1 0 32) - (2 : Int32))) 11 ((u194.1 0 12).toNatClampNeg) r205) 0 12 ((u194.1 0 12) + (1 : Int32)))) := hD
                  refine tp_i (y := (u194.1 0 12)) (rfl) ?_
                  refine W.widen (k := 0) (n := 0) (by omega) (by omega) ?_
                  refine lv_pop hx hb dX13_sets_206 rfl ?_
                  refine lv_aload_n hx hb dX13_sets_207 rfl (lv_at hl 3 rfl) ?_
                  refine lv_iload hx hb dX13_sets_208 (lv_at hl 7 rfl) ?_
                  refine cu_v (rn_V (n := 1) (As := [.int pd]) (rest := []) hx hb hml hown ht hKK hFx hP hD hS hA (c_m_operate l dC dI cI cB cZ cJ cR tb H.size ad N (wA (wA (wA u194 0 32 ((u194.1 0 32) - (2 : Int32))) 11 ((u194.1 0 12).toNatClampNeg) r205) 0 12 ((u194.1 0 12) + (1 : Int32))) pd (show 0 ≤ ((u194.1 0 12) + (1 : Int32)).toInt ∧ ((u194.1 0 12) + (1 : Int32)).toInt ≤ 23980 by omega) (show 0 ≤ (u194.1 0 15).toInt ∧ (u194.1 0 15).toInt ≤ 15980 by omega) (show 0 ≤ (u194.1 0 43).toInt ∧ (u194.1 0 43).toInt ≤ 23980 by omega)) tw_94 tw_95 (by decide +kernel) rfl rfl ⟨by show 2 + 1 ≤ 40 * n + 6; omega, by show 8 + (2 + 11) + 46 ≤ 28 * (40 * n + 6); omega⟩ (List.range (mW ad N cI cZ cJ (wA (wA (wA u194 0 32 ((u194.1 0 32) - (2 : Int32))) 11 ((u194.1 0 12).toNatClampNeg) r205) 0 12 ((u194.1 0 12) + (1 : Int32)))).length) (rg_map _) (mW_nd _ _ _ _ _ _) rfl rfl rfl rfl hl.1 rfl (Nat.le_of_ble_eq_true rfl) dX13_sets_210 ⟨Nat.le_of_ble_eq_true rfl, Nat.le_of_ble_eq_true rfl⟩) hP hD hS hA (fun u211 H locs hw210 hP hD hS => ?_)
                  obtain ⟨fr210, pw210, po210, pf210, kc210, ko210, kg210⟩ := hw210
                  have q210_2 : (u211.1 0 2).toInt = (u194.1 0 2).toInt := congrArg Int32.toInt ((fr210.2.1 2 (by decide)).trans (show (wA (wA (wA u194 0 32 ((u194.1 0 32) - (2 : Int32))) 11 ((u194.1 0 12).toNatClampNeg) r205) 0 12 ((u194.1 0 12) + (1 : Int32))).1 0 2 = (u194.1 0 2) by rfl))
                  have q210_4 : (u211.1 0 4).toInt = (u194.1 0 4).toInt := congrArg Int32.toInt ((fr210.2.1 4 (by decide)).trans (show (wA (wA (wA u194 0 32 ((u194.1 0 32) - (2 : Int32))) 11 ((u194.1 0 12).toNatClampNeg) r205) 0 12 ((u194.1 0 12) + (1 : Int32))).1 0 4 = (u194.1 0 4) by rfl))
                  have q210_5 : (u211.1 0 5).toInt = (u194.1 0 5).toInt := congrArg Int32.toInt ((fr210.2.1 5 (by decide)).trans (show (wA (wA (wA u194 0 32 ((u194.1 0 32) - (2 : Int32))) 11 ((u194.1 0 12).toNatClampNeg) r205) 0 12 ((u194.1 0 12) + (1 : Int32))).1 0 5 = (u194.1 0 5) by rfl))
                  have q210_22 : (u211.1 0 22).toInt = (u194.1 0 22).toInt := congrArg Int32.toInt ((fr210.2.1 22 (by decide)).trans (show (wA (wA (wA u194 0 32 ((u194.1 0 32) - (2 : Int32))) 11 ((u194.1 0 12).toNatClampNeg) r205) 0 12 ((u194.1 0 12) + (1 : Int32))).1 0 22 = (u194.1 0 22) by rfl))
                  have q210_27 : (u211.1 0 27).toInt = (u194.1 0 27).toInt := congrArg Int32.toInt ((fr210.2.1 27 (by decide)).trans (show (wA (wA (wA u194 0 32 ((u194.1 0 32) - (2 : Int32))) 11 ((u194.1 0 12).toNatClampNeg) r205) 0 12 ((u194.1 0 12) + (1 : Int32))).1 0 27 = (u194.1 0 27) by rfl))
                  have q210_28 : (u211.1 0 28).toInt = (u194.1 0 28).toInt := congrArg Int32.toInt ((fr210.2.1 28 (by decide)).trans (show (wA (wA (wA u194 0 32 ((u194.1 0 32) - (2 : Int32))) 11 ((u194.1 0 12).toNatClampNeg) r205) 0 12 ((u194.1 0 12) + (1 : Int32))).1 0 28 = (u194.1 0 28) by rfl))
                  have q210_30 : (u211.1 0 30).toInt = (u194.1 0 30).toInt := congrArg Int32.toInt ((fr210.2.1 30 (by decide)).trans (show (wA (wA (wA u194 0 32 ((u194.1 0 32) - (2 : Int32))) 11 ((u194.1 0 12).toNatClampNeg) r205) 0 12 ((u194.1 0 12) + (1 : Int32))).1 0 30 = (u194.1 0 30) by rfl))
                  have q210_31 : (u211.1 0 31).toInt = (u194.1 0 31).toInt := congrArg Int32.toInt ((fr210.2.1 31 (by decide)).trans (show (wA (wA (wA u194 0 32 ((u194.1 0 32) - (2 : Int32))) 11 ((u194.1 0 12).toNatClampNeg) r205) 0 12 ((u194.1 0 12) + (1 : Int32))).1 0 31 = (u194.1 0 31) by rfl))
                  have q210_32 : (u211.1 0 32).toInt = ((u194.1 0 32) - (2 : Int32)).toInt := congrArg Int32.toInt ((fr210.2.1 32 (by decide)).trans (show (wA (wA (wA u194 0 32 ((u194.1 0 32) - (2 : Int32))) 11 ((u194.1 0 12).toNatClampNeg) r205) 0 12 ((u194.1 0 12) + (1 : Int32))).1 0 32 = ((u194.1 0 32) - (2 : Int32)) by rfl))
                  have q210_33 : (u211.1 0 33).toInt = (u194.1 0 33).toInt := congrArg Int32.toInt ((fr210.2.1 33 (by decide)).trans (show (wA (wA (wA u194 0 32 ((u194.1 0 32) - (2 : Int32))) 11 ((u194.1 0 12).toNatClampNeg) r205) 0 12 ((u194.1 0 12) + (1 : Int32))).1 0 33 = (u194.1 0 33) by rfl))
                  have q210_34 : (u211.1 0 34).toInt = (u194.1 0 34).toInt := congrArg Int32.toInt ((fr210.2.1 34 (by decide)).trans (show (wA (wA (wA u194 0 32 ((u194.1 0 32) - (2 : Int32))) 11 ((u194.1 0 12).toNatClampNeg) r205) 0 12 ((u194.1 0 12) + (1 : Int32))).1 0 34 = (u194.1 0 34) by rfl))
                  have q210_39 : (u211.1 0 39).toInt = (u194.1 0 39).toInt := congrArg Int32.toInt ((fr210.2.1 39 (by decide)).trans (show (wA (wA (wA u194 0 32 ((u194.1 0 32) - (2 : Int32))) 11 ((u194.1 0 12).toNatClampNeg) r205) 0 12 ((u194.1 0 12) + (1 : Int32))).1 0 39 = (u194.1 0 39) by rfl))
                  have q210_47 : (u211.1 0 47).toInt = (u194.1 0 47).toInt := congrArg Int32.toInt ((fr210.2.1 47 (by decide)).trans (show (wA (wA (wA u194 0 32 ((u194.1 0 32) - (2 : Int32))) 11 ((u194.1 0 12).toNatClampNeg) r205) 0 12 ((u194.1 0 12) + (1 : Int32))).1 0 47 = (u194.1 0 47) by rfl))
                  have q210_48 : (u211.1 0 48).toInt = (u194.1 0 48).toInt := congrArg Int32.toInt ((fr210.2.1 48 (by decide)).trans (show (wA (wA (wA u194 0 32 ((u194.1 0 32) - (2 : Int32))) 11 ((u194.1 0 12).toNatClampNeg) r205) 0 12 ((u194.1 0 12) + (1 : Int32))).1 0 48 = (u194.1 0 48) by rfl))
                  have q210_49 : (u211.1 0 49).toInt = (u194.1 0 49).toInt := congrArg Int32.toInt ((fr210.2.1 49 (by decide)).trans (show (wA (wA (wA u194 0 32 ((u194.1 0 32) - (2 : Int32))) 11 ((u194.1 0 12).toNatClampNeg) r205) 0 12 ((u194.1 0 12) + (1 : Int32))).1 0 49 = (u194.1 0 49) by rfl))
                  have q210_52 : (u211.1 0 52).toInt = (u194.1 0 52).toInt := congrArg Int32.toInt ((fr210.2.1 52 (by decide)).trans (show (wA (wA (wA u194 0 32 ((u194.1 0 32) - (2 : Int32))) 11 ((u194.1 0 12).toNatClampNeg) r205) 0 12 ((u194.1 0 12) + (1 : Int32))).1 0 52 = (u194.1 0 52) by rfl))
                  have pw210 : ((u194.1 0 12) + (1 : Int32)).toInt ≤ (u211.1 0 12).toInt ∧ (u211.1 0 12).toInt ≤ ((u194.1 0 12) + (1 : Int32)).toInt + 3 := pw210
                  have po210 : (u211.1 0 15).toInt = (u194.1 0 15).toInt + 1 := po210
                  have pf210 : (u194.1 0 43).toInt ≤ (u211.1 0 43).toInt ∧ (u211.1 0 43).toInt ≤ (u194.1 0 43).toInt + 1 := pf210
                  have kc210 : ∀ j : Nat, (j : Int) < ((u194.1 0 12) + (1 : Int32)).toInt → (u211.1 11) j = (upd (u194.1 11) ((u194.1 0 12).toNatClampNeg) r205) j := kc210
                  have ko210 : ∀ j : Nat, (j : Int) < (u194.1 0 15).toInt → (u211.1 13) j = (u194.1 13) j := ko210
                  have kg210 : ∀ j : Nat, (j : Int) < (u194.1 0 15).toInt → (u211.1 14) j = (u194.1 14) j := kg210
                  refine W.widen (k := 0) (n := 0) (by omega) (by omega) ?_
                  refine lv_iload_n hx hb dX13_sets_213 rfl (lv_at hl 6 rfl) ?_
                  refine lv_if_eq (tgt := 258) hx hb dX13_sets_214 (by decide) (fun h213 => ?_) (fun h213 => ?_)
                  · have z214 : pc1.toInt = 0 := eq_z rfl (show (0 : Int32).toInt = 0 by decide) h213
                    exfalso; omega
                  · have z215 : pc1.toInt ≠ 0 := ne_z rfl (show (0 : Int32).toInt = 0 by decide) h213
                    refine lv_aload_n hx hb dX13_sets_217 rfl (lv_at hl 3 rfl) ?_
                    refine lv_bipush (v := 6) hx hb dX13_sets_218 (by decide) ?_
                    refine lv_iload hx hb dX13_sets_220 (lv_at hl 1 rfl) ?_
                    refine cu_s (mW_nd _ _ _ _ _ _) (rn_S (n := 1) (As := [.int r119]) (rest := [.int 6, .ref (ad 0)]) hx hb hml hown ht hKK hFx hP hD hS hA (c_m_slotAt l dC dI cI cB cZ cJ cR tb H.size r119 ) tw_74 tw_75 (by decide +kernel) rfl rfl ⟨by show 0 + 1 ≤ 40 * n + 6; omega, by show 8 + (1 + 11) + 0 ≤ 28 * (40 * n + 6); omega⟩ [] rfl rfl rfl hl.1 rfl (Nat.le_of_ble_eq_true rfl) dX13_sets_222 ⟨Nat.le_of_ble_eq_true rfl, Nat.le_of_ble_eq_true rfl⟩) hP hD hS hA (fun r218 H locs hw216 hP hD hS => ?_)
                    refine W.widen (k := 0) (n := 0) (by omega) (by omega) ?_
                    refine lv_bipush (v := 8) hx hb dX13_sets_225 (by decide) ?_
                    refine cu_s (mW_nd _ _ _ _ _ _) (rn_S (n := 3) (As := [.int 6, .int r218, .int 8]) (rest := [.ref (ad 0)]) hx hb hml hown ht hKK hFx hP hD hS hA (c_m_lw l dC dI cI cB cZ cJ cR tb H.size (6 : Int32) r218 (8 : Int32) ) tw_71 tw_72 (by decide +kernel) rfl rfl ⟨by show 1 + 1 ≤ 40 * n + 6; omega, by show 8 + (3 + 11) + 24 ≤ 28 * (40 * n + 6); omega⟩ [] rfl rfl rfl hl.1 rfl (Nat.le_of_ble_eq_true rfl) dX13_sets_227 ⟨Nat.le_of_ble_eq_true rfl, Nat.le_of_ble_eq_true rfl⟩) hP hD hS hA (fun r221 H locs hw219 hP hD hS => ?_)
                    refine W.widen (k := 0) (n := 0) (by omega) (by omega) ?_
                    refine cu_i (rn_V (n := 1) (As := [.int r221]) (rest := []) hx hb hml hown ht hKK hFx hP hD hS hA (c_m_emit l dC dI cI cB cZ cJ cR tb H.size ad N u211 r221 (show 0 ≤ (u211.1 0 12).toInt ∧ (u211.1 0 12).toInt < 24000 by omega)) tw_8 tw_9 (by decide +kernel) rfl rfl ⟨by show 0 + 1 ≤ 40 * n + 6; omega, by show 8 + (2 + 11) + 0 ≤ 28 * (40 * n + 6); omega⟩ (List.range (mW ad N cI cZ cJ u211).length) (rg_map _) (mW_nd _ _ _ _ _ _) rfl rfl rfl rfl hl.1 rfl (Nat.le_of_ble_eq_true rfl) dX13_sets_230 ⟨Nat.le_of_ble_eq_true rfl, Nat.le_of_ble_eq_true rfl⟩) hP hD hS hA (fun r224 u223 H locs hw222 hP hD hS => ?_)
                    obtain ⟨rfl, rfl⟩ := hw222
                    have z225 : ((u211.1 0 12) + (1 : Int32)).toInt = (u211.1 0 12).toInt + 1 := add_z rfl (show (1 : Int32).toInt = 1 by decide) (by omega) (by omega)
                    have hP : va_P (dC, dI) vwCl (mW ad N cI cZ cJ (wA (wA u211 11 ((u211.1 0 12).toNatClampNeg) r221) 0 12 ((u211.1 0 12) + (1 : Int32)))) H := hP
                    have hD : va_D A (mW ad N cI cZ cJ (wA (wA u211 11 ((u211.1 0 12).toNatClampNeg) r221) 0 12 ((u211.1 0 12) + (1 : Int32)))) := hD
                    refine tp_i (y := (u211.1 0 12)) (rfl) ?_
                    refine W.widen (k := 0) (n := 0) (by omega) (by omega) ?_
                    refine lv_pop hx hb dX13_sets_233 rfl ?_
                    refine lv_aload_n hx hb dX13_sets_234 rfl (lv_at hl 3 rfl) ?_
                    refine lv_bipush (v := 10) hx hb dX13_sets_235 (by decide) ?_
                    refine lv_iconst (v := 0) hx hb dX13_sets_237 (by decide) ?_
                    refine lv_bipush (v := 6) hx hb dX13_sets_238 (by decide) ?_
                    refine cu_s (mW_nd _ _ _ _ _ _) (rn_S (n := 3) (As := [.int 10, .int 0, .int 6]) (rest := [.ref (ad 0)]) hx hb hml hown ht hKK hFx hP hD hS hA (c_m_sw l dC dI cI cB cZ cJ cR tb H.size (10 : Int32) (0 : Int32) (6 : Int32) ) tw_76 tw_77 (by decide +kernel) rfl rfl ⟨by show 0 + 1 ≤ 40 * n + 6; omega, by show 8 + (3 + 11) + 0 ≤ 28 * (40 * n + 6); omega⟩ [] rfl rfl rfl hl.1 rfl (Nat.le_of_ble_eq_true rfl) dX13_sets_240 ⟨Nat.le_of_ble_eq_true rfl, Nat.le_of_ble_eq_true rfl⟩) hP hD hS hA (fun r228 H locs hw226 hP hD hS => ?_)
                    refine W.widen (k := 0) (n := 0) (by omega) (by omega) ?_
                    refine cu_i (rn_V (n := 1) (As := [.int r228]) (rest := []) hx hb hml hown ht hKK hFx hP hD hS hA (c_m_emit l dC dI cI cB cZ cJ cR tb H.size ad N (wA (wA u211 11 ((u211.1 0 12).toNatClampNeg) r221) 0 12 ((u211.1 0 12) + (1 : Int32))) r228 (show 0 ≤ ((u211.1 0 12) + (1 : Int32)).toInt ∧ ((u211.1 0 12) + (1 : Int32)).toInt < 24000 by omega)) tw_8 tw_9 (by decide +kernel) rfl rfl ⟨by show 0 + 1 ≤ 40 * n + 6; omega, by show 8 + (2 + 11) + 0 ≤ 28 * (40 * n + 6); omega⟩ (List.range (mW ad N cI cZ cJ (wA (wA u211 11 ((u211.1 0 12).toNatClampNeg) r221) 0 12 ((u211.1 0 12) + (1 : Int32)))).length) (rg_map _) (mW_nd _ _ _ _ _ _) rfl rfl rfl rfl hl.1 rfl (Nat.le_of_ble_eq_true rfl) dX13_sets_243 ⟨Nat.le_of_ble_eq_true rfl, Nat.le_of_ble_eq_true rfl⟩) hP hD hS hA (fun r231 u230 H locs hw229 hP hD hS => ?_)
                    obtain ⟨rfl, rfl⟩ := hw229
                    have z232 : (((u211.1 0 12) + (1 : Int32)) + (1 : Int32)).toInt = ((u211.1 0 12).toInt + 1) + 1 := add_z z225 (show (1 : Int32).toInt = 1 by decide) (by omega) (by omega)
                    have hP : va_P (dC, dI) vwCl (mW ad N cI cZ cJ (wA (wA (wA (wA u211 11 ((u211.1 0 12).toNatClampNeg) r221) 0 12 ((u211.1 0 12) + (1 : Int32))) 11 (((u211.1 0 12) + (1 : Int32)).toNatClampNeg) r228) 0 12 (((u211.1 0 12) + (1 : Int32)) + (1 : Int32)))) H := hP
                    have hD : va_D A (mW ad N cI cZ cJ (wA (wA (wA (wA u211 11 ((u211.1 0 12).toNatClampNeg) r221) 0 12 ((u211.1 0 12) + (1 : Int32))) 11 (((u211.1 0 12) + (1 : Int32)).toNatClampNeg) r228) 0 12 (((u211.1 0 12) + (1 : Int32)) + (1 : Int32)))) := hD
                    refine tp_i (y := ((u211.1 0 12) + (1 : Int32))) (rfl) ?_
                    refine W.widen (k := 0) (n := 0) (by omega) (by omega) ?_
                    refine lv_pop hx hb dX13_sets_246 rfl ?_
                    refine lv_aload_n hx hb dX13_sets_247 rfl (lv_at hl 3 rfl) ?_
                    refine lv_bipush (v := 8) hx hb dX13_sets_248 (by decide) ?_
                    refine lv_iconst (v := 0) hx hb dX13_sets_250 (by decide) ?_
                    refine cu_i (rn_V (n := 2) (As := [.int 8, .int 0]) (rest := []) hx hb hml hown ht hKK hFx hP hD hS hA (c_m_say l dC dI cI cB cZ cJ cR tb H.size ad N (wA (wA (wA (wA u211 11 ((u211.1 0 12).toNatClampNeg) r221) 0 12 ((u211.1 0 12) + (1 : Int32))) 11 (((u211.1 0 12) + (1 : Int32)).toNatClampNeg) r228) 0 12 (((u211.1 0 12) + (1 : Int32)) + (1 : Int32))) (8 : Int32) (0 : Int32) (show 0 ≤ (u211.1 0 15).toInt ∧ (u211.1 0 15).toInt < 16000 by omega)) tw_59 tw_60 (by decide +kernel) rfl rfl ⟨by show 0 + 1 ≤ 40 * n + 6; omega, by show 8 + (3 + 11) + 0 ≤ 28 * (40 * n + 6); omega⟩ (List.range (mW ad N cI cZ cJ (wA (wA (wA (wA u211 11 ((u211.1 0 12).toNatClampNeg) r221) 0 12 ((u211.1 0 12) + (1 : Int32))) 11 (((u211.1 0 12) + (1 : Int32)).toNatClampNeg) r228) 0 12 (((u211.1 0 12) + (1 : Int32)) + (1 : Int32)))).length) (rg_map _) (mW_nd _ _ _ _ _ _) rfl rfl rfl rfl hl.1 rfl (Nat.le_of_ble_eq_true rfl) dX13_sets_251 ⟨Nat.le_of_ble_eq_true rfl, Nat.le_of_ble_eq_true rfl⟩) hP hD hS hA (fun r235 u234 H locs hw233 hP hD hS => ?_)
                    obtain ⟨rfl, rfl⟩ := hw233
                    have z236 : ((u211.1 0 15) + (1 : Int32)).toInt = (u211.1 0 15).toInt + 1 := add_z rfl (show (1 : Int32).toInt = 1 by decide) (by omega) (by omega)
                    have hP : va_P (dC, dI) vwCl (mW ad N cI cZ cJ (wA (wA (wA (wA (wA (wA (wA u211 11 ((u211.1 0 12).toNatClampNeg) r221) 0 12 ((u211.1 0 12) + (1 : Int32))) 11 (((u211.1 0 12) + (1 : Int32)).toNatClampNeg) r228) 0 12 (((u211.1 0 12) + (1 : Int32)) + (1 : Int32))) 13 ((u211.1 0 15).toNatClampNeg) (8 : Int32)) 14 ((u211.1 0 15).toNatClampNeg) (0 : Int32)) 0 15 ((u211.1 0 15) + (1 : Int32)))) H := hP
                    have hD : va_D A (mW ad N cI cZ cJ (wA (wA (wA (wA (wA (wA (wA u211 11 ((u211.1 0 12).toNatClampNeg) r221) 0 12 ((u211.1 0 12) + (1 : Int32))) 11 (((u211.1 0 12) + (1 : Int32)).toNatClampNeg) r228) 0 12 (((u211.1 0 12) + (1 : Int32)) + (1 : Int32))) 13 ((u211.1 0 15).toNatClampNeg) (8 : Int32)) 14 ((u211.1 0 15).toNatClampNeg) (0 : Int32)) 0 15 ((u211.1 0 15) + (1 : Int32)))) := hD
                    refine tp_i (y := (u211.1 0 15)) (rfl) ?_
                    refine W.widen (k := 0) (n := 0) (by omega) (by omega) ?_
                    obtain ⟨u237, hu238⟩ : ∃ z, z = (wA (wA (wA (wA (wA (wA (wA u211 11 ((u211.1 0 12).toNatClampNeg) r221) 0 12 ((u211.1 0 12) + (1 : Int32))) 11 (((u211.1 0 12) + (1 : Int32)).toNatClampNeg) r228) 0 12 (((u211.1 0 12) + (1 : Int32)) + (1 : Int32))) 13 ((u211.1 0 15).toNatClampNeg) (8 : Int32)) 14 ((u211.1 0 15).toNatClampNeg) (0 : Int32)) 0 15 ((u211.1 0 15) + (1 : Int32))) := ⟨_, rfl⟩
                    have fr238 : FG [12, 15] [0, 11, 13, 14] u211 u237 := by rw [hu238]; exact (FG.f (FG.a (FG.a (FG.f (FG.a (FG.f (FG.a (FG.rf _) ((u211.1 0 12).toNatClampNeg) r221 (by decide) (by decide)) ((u211.1 0 12) + (1 : Int32)) (by decide)) (((u211.1 0 12) + (1 : Int32)).toNatClampNeg) r228 (by decide) (by decide)) (((u211.1 0 12) + (1 : Int32)) + (1 : Int32)) (by decide)) ((u211.1 0 15).toNatClampNeg) (8 : Int32) (by decide) (by decide)) ((u211.1 0 15).toNatClampNeg) (0 : Int32) (by decide) (by decide)) ((u211.1 0 15) + (1 : Int32)) (by decide))
                    have q238_2 : (u237.1 0 2).toInt = (u211.1 0 2).toInt := congrArg Int32.toInt (fr238.2.1 2 (by decide))
                    have q238_4 : (u237.1 0 4).toInt = (u211.1 0 4).toInt := congrArg Int32.toInt (fr238.2.1 4 (by decide))
                    have q238_5 : (u237.1 0 5).toInt = (u211.1 0 5).toInt := congrArg Int32.toInt (fr238.2.1 5 (by decide))
                    have q238_12 : (u237.1 0 12).toInt = (((u211.1 0 12).toInt + 1) + 1) := by rw [hu238]; exact (show (((u211.1 0 12) + (1 : Int32)) + (1 : Int32)).toInt = (((u211.1 0 12).toInt + 1) + 1) from z232)
                    have q238_15 : (u237.1 0 15).toInt = ((u211.1 0 15).toInt + 1) := by rw [hu238]; exact (show ((u211.1 0 15) + (1 : Int32)).toInt = ((u211.1 0 15).toInt + 1) from z236)
                    have q238_22 : (u237.1 0 22).toInt = (u211.1 0 22).toInt := congrArg Int32.toInt (fr238.2.1 22 (by decide))
                    have q238_27 : (u237.1 0 27).toInt = (u211.1 0 27).toInt := congrArg Int32.toInt (fr238.2.1 27 (by decide))
                    have q238_28 : (u237.1 0 28).toInt = (u211.1 0 28).toInt := congrArg Int32.toInt (fr238.2.1 28 (by decide))
                    have q238_30 : (u237.1 0 30).toInt = (u211.1 0 30).toInt := congrArg Int32.toInt (fr238.2.1 30 (by decide))
                    have q238_31 : (u237.1 0 31).toInt = (u211.1 0 31).toInt := congrArg Int32.toInt (fr238.2.1 31 (by decide))
                    have q238_32 : (u237.1 0 32).toInt = (u211.1 0 32).toInt := congrArg Int32.toInt (fr238.2.1 32 (by decide))
                    have q238_33 : (u237.1 0 33).toInt = (u211.1 0 33).toInt := congrArg Int32.toInt (fr238.2.1 33 (by decide))
                    have q238_34 : (u237.1 0 34).toInt = (u211.1 0 34).toInt := congrArg Int32.toInt (fr238.2.1 34 (by decide))
                    have q238_39 : (u237.1 0 39).toInt = (u211.1 0 39).toInt := congrArg Int32.toInt (fr238.2.1 39 (by decide))
                    have q238_43 : (u237.1 0 43).toInt = (u211.1 0 43).toInt := congrArg Int32.toInt (fr238.2.1 43 (by decide))
                    have q238_47 : (u237.1 0 47).toInt = (u211.1 0 47).toInt := congrArg Int32.toInt (fr238.2.1 47 (by decide))
                    have q238_48 : (u237.1 0 48).toInt = (u211.1 0 48).toInt := congrArg Int32.toInt (fr238.2.1 48 (by decide))
                    have q238_49 : (u237.1 0 49).toInt = (u211.1 0 49).toInt := congrArg Int32.toInt (fr238.2.1 49 (by decide))
                    have q238_52 : (u237.1 0 52).toInt = (u211.1 0 52).toInt := congrArg Int32.toInt (fr238.2.1 52 (by decide))
                    have kc238 : ∀ j : Nat, (j : Int) < (u211.1 0 12).toInt → (u237.1 11) j = (u211.1 11) j := by rw [hu238]; exact (fun (j9 : Nat) hj9 => (Eq.trans (pk_un (by have := cl_z (a := ((u211.1 0 12) + (1 : Int32)).toInt) rfl (by omega); omega)) (pk_un (by have := cl_z (a := (u211.1 0 12).toInt) rfl (by omega); omega))))
                    have ko238 : ∀ j : Nat, (j : Int) < (u211.1 0 15).toInt → (u237.1 13) j = (u211.1 13) j := by rw [hu238]; exact (fun (j9 : Nat) hj9 => (pk_un (by have := cl_z (a := (u211.1 0 15).toInt) rfl (by omega); omega)))
                    have kg238 : ∀ j : Nat, (j : Int) < (u211.1 0 15).toInt → (u237.1 14) j = (u211.1 14) j := by rw [hu238]; exact (fun (j9 : Nat) hj9 => (pk_un (by have := cl_z (a := (u211.1 0 15).toInt) rfl (by omega); omega)))
                    rw [← hu238] at hP hD
                    refine lv_pop hx hb dX13_sets_254 rfl ?_
                    refine lv_goto (tgt := 264) hx hb dX13_sets_255 (by decide) ?_
                    refine lv_aload_n hx hb dX13_sets_264 rfl (lv_at hl 3 rfl) ?_
                    refine lv_dup hx hb dX13_sets_265 rfl ?_
                    refine va_get (D := (dC, dI)) (ci := 16) (fs := mF ad u237) (v := .int (u237.1 0 48)) (C := RX13) (T := TX13) (N := 124) hx hb ht itX13 hown hK hP 0 rfl rfl 48 (by decide) (ht _ tw_31) (fun _ h9 => h9) rfl dX13_sets_266 ?_
                    refine lv_iconst (v := 1) hx hb dX13_sets_269 (by decide) ?_
                    refine lv_isub hx hb dX13_sets_270 ?_
                    have z239 : ((u237.1 0 48) - (1 : Int32)).toInt = (u237.1 0 48).toInt - 1 := sub_z rfl (show (1 : Int32).toInt = 1 by decide) (by omega) (by omega)
                    refine va_put (D := (dC, dI)) (ci := 16) (fs := mF ad u237) (v := .int ((u237.1 0 48) - (1 : Int32))) (ty := .int) (C := RX13) (T := TX13) (N := 124) hx hb ht itX13 tyX13 tyX13_ok nmX13 hown hK hP hD hS 0 rfl rfl 48 (by decide) (ht _ tw_31) (fun _ h9 => h9) rfl (by decide +kernel) rfl rfl (Nat.le_of_ble_eq_true rfl) dX13_sets_271 (fun H locs hP hD hS => ?_)
                    have hP := cP_ (mw_48 ad N cI cZ cJ u237 ((u237.1 0 48) - (1 : Int32))) hP
                    have hD := cD_ (mw_48 ad N cI cZ cJ u237 ((u237.1 0 48) - (1 : Int32))) hD
                    refine vx_ret ?_
                    exact W.vret hx hb hr (fun t ht9 hW => ⟨⟨(wA u237 0 48 ((u237.1 0 48) - (1 : Int32))), rfl, ⟨(FG.f (FG.tr (FG.tr (FG.f (FG.a (FG.f (FG.tr (FG.f (FG.f (FG.a (FG.tr (FG.tr (FG.tr (FG.tr (FG.rf _) (FG.up fr117 (by decide) (by decide))) (FG.up fr124 (by decide) (by decide))) (FG.up fr147 (by decide) (by decide))) (FG.up fr176 (by decide) (by decide))) ((u175.1 0 12).toNatClampNeg) r185 (by decide) (by decide)) ((u175.1 0 12) + (1 : Int32)) (by decide)) ((u175.1 0 32) + (2 : Int32)) (by decide)) (FG.up fr193 (by decide) (by decide))) ((u194.1 0 32) - (2 : Int32)) (by decide)) ((u194.1 0 12).toNatClampNeg) r205 (by decide) (by decide)) ((u194.1 0 12) + (1 : Int32)) (by decide)) (FG.up fr210 (by decide) (by decide))) (FG.up fr238 (by decide) (by decide))) ((u237.1 0 48) - (1 : Int32)) (by decide)), (show (v.1 0 47).toInt + 1 ≤ (u237.1 0 47).toInt ∧ (u237.1 0 47).toInt ≤ 1500 by omega), (show (v.1 0 49).toInt ≠ (v.1 0 47).toInt by omega), (show (v.1 0 12).toInt ≤ (u237.1 0 12).toInt ∧ (u237.1 0 12).toInt - 15 * (u237.1 0 47).toInt ≤ (v.1 0 12).toInt - 15 * (v.1 0 47).toInt by omega), (show (v.1 0 15).toInt ≤ (u237.1 0 15).toInt ∧ (u237.1 0 15).toInt - 10 * (u237.1 0 47).toInt ≤ (v.1 0 15).toInt - 10 * (v.1 0 47).toInt by omega), (show (v.1 0 43).toInt ≤ (u237.1 0 43).toInt ∧ (u237.1 0 43).toInt - 15 * (u237.1 0 47).toInt ≤ (v.1 0 43).toInt - 15 * (v.1 0 47).toInt by omega), (show (v.1 0 39).toInt ≤ (u237.1 0 39).toInt ∧ (u237.1 0 39).toInt - 1 * (u237.1 0 47).toInt ≤ (v.1 0 39).toInt - 1 * (v.1 0 47).toInt by omega), (show (u237.1 0 32).toInt = (v.1 0 32).toInt ∧ ((u237.1 0 48) - (1 : Int32)).toInt = (v.1 0 48).toInt by omega), (show (v.1 0 33).toInt ≤ (u237.1 0 33).toInt ∧ (u237.1 0 33).toInt ≤ 500 by omega), (fun (j9 : Nat) hj9 => (Eq.trans (kc238 j9 (by omega)) (Eq.trans (kc210 j9 (by omega)) (Eq.trans (pk_un (by have := cl_z (a := (u194.1 0 12).toInt) rfl (by omega); omega)) (Eq.trans (kc193 j9 (by omega)) (Eq.trans (pk_un (by have := cl_z (a := (u175.1 0 12).toInt) rfl (by omega); omega)) (Eq.trans (kc176 j9 (by omega)) (Eq.trans (kc147 j9 (by omega)) (Eq.trans (congrFun (fr124.2.2 11 (by decide)) j9) (congrFun (fr117.2.2 11 (by decide)) j9)))))))))), (fun (j9 : Nat) hj9 => (Eq.trans (ko238 j9 (by omega)) (Eq.trans (ko210 j9 (by omega)) (Eq.trans (ko193 j9 (by omega)) (Eq.trans (ko176 j9 (by omega)) (Eq.trans (congrFun (fr147.2.2 13 (by decide)) j9) (Eq.trans (congrFun (fr124.2.2 13 (by decide)) j9) (congrFun (fr117.2.2 13 (by decide)) j9)))))))), (fun (j9 : Nat) hj9 => (Eq.trans (kg238 j9 (by omega)) (Eq.trans (kg210 j9 (by omega)) (Eq.trans (kg193 j9 (by omega)) (Eq.trans (kg176 j9 (by omega)) (Eq.trans (congrFun (fr147.2.2 14 (by decide)) j9) (Eq.trans (congrFun (fr124.2.2 14 (by decide)) j9) (congrFun (fr117.2.2 14 (by decide)) j9)))))))), (show NI 35 u237 from NI.fr (fl := [12, 15]) (al := [0, 11, 13, 14]) fr238 (by decide) (show NI 35 u211 from NI.fr (fl := [12, 15, 43]) (al := [0, 11, 13, 14, 40, 41, 42]) fr210 (by decide) n35193))⟩, by rw [ht9]; exact hP, hD⟩, hS.F ht9⟩) hS.2.2 dX13_sets_274
    · have z240 : pd.toInt = 0 := eq_z rfl (show (0 : Int32).toInt = 0 by decide) h115
      refine lv_iconst (v := 0) hx hb dX13_sets_14 (by decide) ?_
      refine lv_goto (tgt := 19) hx hb dX13_sets_15 (by decide) ?_
      refine lv_iadd hx hb dX13_sets_19 ?_
      refine tp_i (y := 1) (by decide) ?_
      refine lv_istore (lv' := [(5, .int 1), (0, .ref (ad 0)), (1, .int pa), (2, .int pb), (3, .int pc1), (4, .int pd)]) hx hb dX13_sets_20 hl (by decide) rfl (fun ls hl => ?_)
      refine lv_aload_n hx hb dX13_sets_22 rfl (lv_at hl 1 rfl) ?_
      refine lv_iload hx hb dX13_sets_23 (lv_at hl 0 rfl) ?_
      refine cu_i (rn_V (n := 1) (As := [.int 1]) (rest := []) hx hb hml hown ht hKK hFx hP hD hS hA (c_m_slots l dC dI cI cB cZ cJ cR tb s.heap.size ad N v (1 : Int32) (show 0 ≤ (v.1 0 30).toInt ∧ (v.1 0 30).toInt ≤ 500 by omega) (show 0 ≤ (v.1 0 32).toInt ∧ (v.1 0 32).toInt ≤ 2000 by omega) (show 0 ≤ (v.1 0 33).toInt ∧ (v.1 0 33).toInt ≤ 500 by omega) (show 0 ≤ 1 ∧ 1 ≤ 8 by omega)) tw_88 tw_89 (by decide +kernel) rfl rfl ⟨by show 0 + 1 ≤ 40 * n + 6; omega, by show 8 + (3 + 11) + 0 ≤ 28 * (40 * n + 6); omega⟩ (List.range (mW ad N cI cZ cJ v).length) (rg_map _) (mW_nd _ _ _ _ _ _) rfl rfl rfl rfl hl.1 rfl (Nat.le_of_ble_eq_true rfl) dX13_sets_25 ⟨Nat.le_of_ble_eq_true rfl, Nat.le_of_ble_eq_true rfl⟩) hP hD hS hA (fun r243 u242 H locs hw241 hP hD hS => ?_)
      obtain ⟨fr241, sr241, sb241, sh241⟩ := hw241
      have q241_2 : (u242.1 0 2).toInt = (v.1 0 2).toInt := congrArg Int32.toInt ((fr241.2.1 2 (by decide)).trans (show v.1 0 2 = (v.1 0 2) by rfl))
      have q241_4 : (u242.1 0 4).toInt = (v.1 0 4).toInt := congrArg Int32.toInt ((fr241.2.1 4 (by decide)).trans (show v.1 0 4 = (v.1 0 4) by rfl))
      have q241_5 : (u242.1 0 5).toInt = (v.1 0 5).toInt := congrArg Int32.toInt ((fr241.2.1 5 (by decide)).trans (show v.1 0 5 = (v.1 0 5) by rfl))
      have q241_12 : (u242.1 0 12).toInt = (v.1 0 12).toInt := congrArg Int32.toInt ((fr241.2.1 12 (by decide)).trans (show v.1 0 12 = (v.1 0 12) by rfl))
      have q241_15 : (u242.1 0 15).toInt = (v.1 0 15).toInt := congrArg Int32.toInt ((fr241.2.1 15 (by decide)).trans (show v.1 0 15 = (v.1 0 15) by rfl))
      have q241_22 : (u242.1 0 22).toInt = (v.1 0 22).toInt := congrArg Int32.toInt ((fr241.2.1 22 (by decide)).trans (show v.1 0 22 = (v.1 0 22) by rfl))
      have q241_27 : (u242.1 0 27).toInt = (v.1 0 27).toInt := congrArg Int32.toInt ((fr241.2.1 27 (by decide)).trans (show v.1 0 27 = (v.1 0 27) by rfl))
      have q241_28 : (u242.1 0 28).toInt = (v.1 0 28).toInt := congrArg Int32.toInt ((fr241.2.1 28 (by decide)).trans (show v.1 0 28 = (v.1 0 28) by rfl))
      have q241_30 : (u242.1 0 30).toInt = (v.1 0 30).toInt := congrArg Int32.toInt ((fr241.2.1 30 (by decide)).trans (show v.1 0 30 = (v.1 0 30) by rfl))
      have q241_31 : (u242.1 0 31).toInt = (v.1 0 31).toInt := congrArg Int32.toInt ((fr241.2.1 31 (by decide)).trans (show v.1 0 31 = (v.1 0 31) by rfl))
      have q241_32 : (u242.1 0 32).toInt = (v.1 0 32).toInt := congrArg Int32.toInt ((fr241.2.1 32 (by decide)).trans (show v.1 0 32 = (v.1 0 32) by rfl))
      have q241_34 : (u242.1 0 34).toInt = (v.1 0 34).toInt := congrArg Int32.toInt ((fr241.2.1 34 (by decide)).trans (show v.1 0 34 = (v.1 0 34) by rfl))
      have q241_39 : (u242.1 0 39).toInt = (v.1 0 39).toInt := congrArg Int32.toInt ((fr241.2.1 39 (by decide)).trans (show v.1 0 39 = (v.1 0 39) by rfl))
      have q241_43 : (u242.1 0 43).toInt = (v.1 0 43).toInt := congrArg Int32.toInt ((fr241.2.1 43 (by decide)).trans (show v.1 0 43 = (v.1 0 43) by rfl))
      have q241_47 : (u242.1 0 47).toInt = (v.1 0 47).toInt := congrArg Int32.toInt ((fr241.2.1 47 (by decide)).trans (show v.1 0 47 = (v.1 0 47) by rfl))
      have q241_48 : (u242.1 0 48).toInt = (v.1 0 48).toInt := congrArg Int32.toInt ((fr241.2.1 48 (by decide)).trans (show v.1 0 48 = (v.1 0 48) by rfl))
      have q241_52 : (u242.1 0 52).toInt = (v.1 0 52).toInt := congrArg Int32.toInt ((fr241.2.1 52 (by decide)).trans (show v.1 0 52 = (v.1 0 52) by rfl))
      have sb241 : ((v.1 0 30).toInt + (v.1 0 32).toInt + 1 ≤ (u242.1 0 33).toInt ∧ (u242.1 0 49).toInt = (v.1 0 49).toInt) ∨ (u242.1 0 49).toInt = (v.1 0 47).toInt := sb241
      refine W.widen (k := 0) (n := 0) (by omega) (by omega) ?_
      refine lv_istore (lv' := [(6, .int r243), (5, .int 1), (0, .ref (ad 0)), (1, .int pa), (2, .int pb), (3, .int pc1), (4, .int pd)]) hx hb dX13_sets_28 hl (by decide) rfl (fun ls hl => ?_)
      refine lv_iload hx hb dX13_sets_30 (lv_at hl 0 rfl) ?_
      refine lv_iload_n hx hb dX13_sets_32 rfl (lv_at hl 5 rfl) ?_
      refine lv_if_eq (tgt := 40) hx hb dX13_sets_33 (by decide) (fun h244 => ?_) (fun h244 => ?_)
      · have z245 : pc1.toInt = 0 := eq_z rfl (show (0 : Int32).toInt = 0 by decide) h244
        exfalso; omega
      · have z246 : pc1.toInt ≠ 0 := ne_z rfl (show (0 : Int32).toInt = 0 by decide) h244
        refine lv_iconst (v := 1) hx hb dX13_sets_36 (by decide) ?_
        refine lv_goto (tgt := 41) hx hb dX13_sets_37 (by decide) ?_
        refine lv_iadd hx hb dX13_sets_41 ?_
        have z247 : (r243 + (1 : Int32)).toInt = r243.toInt + 1 := add_z rfl (show (1 : Int32).toInt = 1 by decide) (by omega) (by omega)
        refine lv_istore (lv' := [(7, .int (r243 + (1 : Int32))), (6, .int r243), (5, .int 1), (0, .ref (ad 0)), (1, .int pa), (2, .int pb), (3, .int pc1), (4, .int pd)]) hx hb dX13_sets_42 hl (by decide) rfl (fun ls hl => ?_)
        refine lv_aload_n hx hb dX13_sets_44 rfl (lv_at hl 3 rfl) ?_
        refine lv_iload hx hb dX13_sets_45 (lv_at hl 7 rfl) ?_
        refine cu_v (rn_V (n := 1) (As := [.int pd]) (rest := []) hx hb hml hown ht hKK hFx hP hD hS hA (c_m_remember l dC dI cI cB cZ cJ cR tb H.size ad N u242 pd ) tw_90 tw_91 (by decide +kernel) rfl rfl ⟨by show 0 + 1 ≤ 40 * n + 6; omega, by show 8 + (2 + 11) + 0 ≤ 28 * (40 * n + 6); omega⟩ (List.range (mW ad N cI cZ cJ u242).length) (rg_map _) (mW_nd _ _ _ _ _ _) rfl rfl rfl rfl hl.1 rfl (Nat.le_of_ble_eq_true rfl) dX13_sets_47 ⟨Nat.le_of_ble_eq_true rfl, Nat.le_of_ble_eq_true rfl⟩) hP hD hS hA (fun u249 H locs hw248 hP hD hS => ?_)
        have fr248 := hw248
        have q248_2 : (u249.1 0 2).toInt = (u242.1 0 2).toInt := congrArg Int32.toInt ((fr248.2.1 2 (by decide)).trans (show u242.1 0 2 = (u242.1 0 2) by rfl))
        have q248_4 : (u249.1 0 4).toInt = (u242.1 0 4).toInt := congrArg Int32.toInt ((fr248.2.1 4 (by decide)).trans (show u242.1 0 4 = (u242.1 0 4) by rfl))
        have q248_5 : (u249.1 0 5).toInt = (u242.1 0 5).toInt := congrArg Int32.toInt ((fr248.2.1 5 (by decide)).trans (show u242.1 0 5 = (u242.1 0 5) by rfl))
        have q248_12 : (u249.1 0 12).toInt = (u242.1 0 12).toInt := congrArg Int32.toInt ((fr248.2.1 12 (by decide)).trans (show u242.1 0 12 = (u242.1 0 12) by rfl))
        have q248_15 : (u249.1 0 15).toInt = (u242.1 0 15).toInt := congrArg Int32.toInt ((fr248.2.1 15 (by decide)).trans (show u242.1 0 15 = (u242.1 0 15) by rfl))
        have q248_22 : (u249.1 0 22).toInt = (u242.1 0 22).toInt := congrArg Int32.toInt ((fr248.2.1 22 (by decide)).trans (show u242.1 0 22 = (u242.1 0 22) by rfl))
        have q248_27 : (u249.1 0 27).toInt = (u242.1 0 27).toInt := congrArg Int32.toInt ((fr248.2.1 27 (by decide)).trans (show u242.1 0 27 = (u242.1 0 27) by rfl))
        have q248_28 : (u249.1 0 28).toInt = (u242.1 0 28).toInt := congrArg Int32.toInt ((fr248.2.1 28 (by decide)).trans (show u242.1 0 28 = (u242.1 0 28) by rfl))
        have q248_30 : (u249.1 0 30).toInt = (u242.1 0 30).toInt := congrArg Int32.toInt ((fr248.2.1 30 (by decide)).trans (show u242.1 0 30 = (u242.1 0 30) by rfl))
        have q248_31 : (u249.1 0 31).toInt = (u242.1 0 31).toInt := congrArg Int32.toInt ((fr248.2.1 31 (by decide)).trans (show u242.1 0 31 = (u242.1 0 31) by rfl))
        have q248_32 : (u249.1 0 32).toInt = (u242.1 0 32).toInt := congrArg Int32.toInt ((fr248.2.1 32 (by decide)).trans (show u242.1 0 32 = (u242.1 0 32) by rfl))
        have q248_33 : (u249.1 0 33).toInt = (u242.1 0 33).toInt := congrArg Int32.toInt ((fr248.2.1 33 (by decide)).trans (show u242.1 0 33 = (u242.1 0 33) by rfl))
        have q248_34 : (u249.1 0 34).toInt = (u242.1 0 34).toInt := congrArg Int32.toInt ((fr248.2.1 34 (by decide)).trans (show u242.1 0 34 = (u242.1 0 34) by rfl))
        have q248_39 : (u249.1 0 39).toInt = (u242.1 0 39).toInt := congrArg Int32.toInt ((fr248.2.1 39 (by decide)).trans (show u242.1 0 39 = (u242.1 0 39) by rfl))
        have q248_43 : (u249.1 0 43).toInt = (u242.1 0 43).toInt := congrArg Int32.toInt ((fr248.2.1 43 (by decide)).trans (show u242.1 0 43 = (u242.1 0 43) by rfl))
        have q248_47 : (u249.1 0 47).toInt = (u242.1 0 47).toInt := congrArg Int32.toInt ((fr248.2.1 47 (by decide)).trans (show u242.1 0 47 = (u242.1 0 47) by rfl))
        have q248_48 : (u249.1 0 48).toInt = (u242.1 0 48).toInt := congrArg Int32.toInt ((fr248.2.1 48 (by decide)).trans (show u242.1 0 48 = (u242.1 0 48) by rfl))
        have q248_49 : (u249.1 0 49).toInt = (u242.1 0 49).toInt := congrArg Int32.toInt ((fr248.2.1 49 (by decide)).trans (show u242.1 0 49 = (u242.1 0 49) by rfl))
        have q248_52 : (u249.1 0 52).toInt = (u242.1 0 52).toInt := congrArg Int32.toInt ((fr248.2.1 52 (by decide)).trans (show u242.1 0 52 = (u242.1 0 52) by rfl))
        refine W.widen (k := 0) (n := 0) (by omega) (by omega) ?_
        refine lv_aload_n hx hb dX13_sets_50 rfl (lv_at hl 3 rfl) ?_
        refine cux_v (rx_V (n := 0) (As := []) (rest := []) hx hb hml hown ht hKK hFx hP hD hS hA (c_m_opens l dC dI cI cB cZ cJ cR tb H.size ad N u249  (show 0 ≤ (u249.1 0 47).toInt ∧ (u249.1 0 47).toInt ≤ 1500 by omega) (show 0 ≤ (u249.1 0 48).toInt ∧ (u249.1 0 48).toInt ≤ 40 by omega)) tw_38 tw_39 (by decide +kernel) rfl rfl ⟨by show 2 + 1 ≤ 40 * n + 6; omega, by show 8 + (1 + 11) + 42 ≤ 28 * (40 * n + 6); omega⟩ (List.range (mW ad N cI cZ cJ u249).length) (rg_map _) (mW_nd _ _ _ _ _ _) rfl rfl rfl rfl hl.1 rfl (Nat.le_of_ble_eq_true rfl) dX13_sets_51 ⟨Nat.le_of_ble_eq_true rfl, Nat.le_of_ble_eq_true rfl⟩) hP hD hS hA (fun u9 ce9 q9 H locs hx9 hP hD hS hc9 hv9 hf9 => ?_) (fun u252 H locs hw251 hP hD hS => ?_)
        · exact vx_out (fun x h9 => (hnt x h9).elim) hlocks hc9 hv9 hf9 (fun t9 ht9 hv8 => ⟨u9, (FG.tr (FG.tr (FG.tr (FG.rf _) (FG.up fr241 (by decide) (by decide))) (FG.up fr248 (by decide) (by decide))) hx9), ⟨rfl, by rw [ht9]; exact hP, hD⟩, hS.F ht9⟩) hS.2.2 (by omega) (by omega)
        obtain ⟨rfl, a251, b251, c251⟩ := hw251
        have z254 : ((u249.1 0 47) + (1 : Int32)).toInt = (u249.1 0 47).toInt + 1 := add_z rfl (show (1 : Int32).toInt = 1 by decide) (by omega) (by omega)
        have z255 : ((u249.1 0 48) + (1 : Int32)).toInt = (u249.1 0 48).toInt + 1 := add_z rfl (show (1 : Int32).toInt = 1 by decide) (by omega) (by omega)
        have hP : va_P (dC, dI) vwCl (mW ad N cI cZ cJ (wA (wA u249 0 47 ((u249.1 0 47) + (1 : Int32))) 0 48 ((u249.1 0 48) + (1 : Int32)))) H := hP
        have hD : va_D A (mW ad N cI cZ cJ (wA (wA u249 0 47 ((u249.1 0 47) + (1 : Int32))) 0 48 ((u249.1 0 48) + (1 : Int32)))) := hD
        have a251 : (u249.1 0 47).toInt < 1500 := a251
        have b251 : (u249.1 0 48).toInt < 40 := b251
        have c251 : (u249.1 0 49).toInt ≠ (u249.1 0 47).toInt := c251
        refine W.widen (k := 0) (n := 0) (by omega) (by omega) ?_
        refine lv_iload_n hx hb dX13_sets_54 rfl (lv_at hl 6 rfl) ?_
        refine lv_if_eq (tgt := 127) hx hb dX13_sets_55 (by decide) (fun h256 => ?_) (fun h256 => ?_)
        · have z257 : pc1.toInt = 0 := eq_z rfl (show (0 : Int32).toInt = 0 by decide) h256
          exfalso; omega
        · have z258 : pc1.toInt ≠ 0 := ne_z rfl (show (0 : Int32).toInt = 0 by decide) h256
          refine lv_aload_n hx hb dX13_sets_58 rfl (lv_at hl 3 rfl) ?_
          refine lv_aload_n hx hb dX13_sets_59 rfl (lv_at hl 3 rfl) ?_
          refine lv_bipush (v := 10) hx hb dX13_sets_60 (by decide) ?_
          refine lv_bipush (v := 10) hx hb dX13_sets_62 (by decide) ?_
          refine lv_iconst (v := 0) hx hb dX13_sets_64 (by decide) ?_
          refine cu_s (mW_nd _ _ _ _ _ _) (rn_S (n := 3) (As := [.int 10, .int 10, .int 0]) (rest := [.ref (ad 0), .ref (ad 0)]) hx hb hml hown ht hKK hFx hP hD hS hA (c_m_addi l dC dI cI cB cZ cJ cR tb H.size (10 : Int32) (10 : Int32) (0 : Int32) ) tw_65 tw_66 (by decide +kernel) rfl rfl ⟨by show 1 + 1 ≤ 40 * n + 6; omega, by show 8 + (3 + 11) + 24 ≤ 28 * (40 * n + 6); omega⟩ [] rfl rfl rfl hl.1 rfl (Nat.le_of_ble_eq_true rfl) dX13_sets_65 ⟨Nat.le_of_ble_eq_true rfl, Nat.le_of_ble_eq_true rfl⟩) hP hD hS hA (fun r261 H locs hw259 hP hD hS => ?_)
          refine W.widen (k := 0) (n := 0) (by omega) (by omega) ?_
          refine cu_i (rn_V (n := 1) (As := [.int r261]) (rest := [.ref (ad 0)]) hx hb hml hown ht hKK hFx hP hD hS hA (c_m_emit l dC dI cI cB cZ cJ cR tb H.size ad N (wA (wA u249 0 47 ((u249.1 0 47) + (1 : Int32))) 0 48 ((u249.1 0 48) + (1 : Int32))) r261 (show 0 ≤ (u249.1 0 12).toInt ∧ (u249.1 0 12).toInt < 24000 by omega)) tw_8 tw_9 (by decide +kernel) rfl rfl ⟨by show 0 + 1 ≤ 40 * n + 6; omega, by show 8 + (2 + 11) + 0 ≤ 28 * (40 * n + 6); omega⟩ (List.range (mW ad N cI cZ cJ (wA (wA u249 0 47 ((u249.1 0 47) + (1 : Int32))) 0 48 ((u249.1 0 48) + (1 : Int32)))).length) (rg_map _) (mW_nd _ _ _ _ _ _) rfl rfl rfl rfl hl.1 rfl (Nat.le_of_ble_eq_true rfl) dX13_sets_68 ⟨Nat.le_of_ble_eq_true rfl, Nat.le_of_ble_eq_true rfl⟩) hP hD hS hA (fun r264 u263 H locs hw262 hP hD hS => ?_)
          obtain ⟨rfl, rfl⟩ := hw262
          have z265 : ((u249.1 0 12) + (1 : Int32)).toInt = (u249.1 0 12).toInt + 1 := add_z rfl (show (1 : Int32).toInt = 1 by decide) (by omega) (by omega)
          have hP : va_P (dC, dI) vwCl (mW ad N cI cZ cJ (wA (wA (wA (wA u249 0 47 ((u249.1 0 47) + (1 : Int32))) 0 48 ((u249.1 0 48) + (1 : Int32))) 11 ((u249.1 0 12).toNatClampNeg) r261) 0 12 ((u249.1 0 12) + (1 : Int32)))) H := hP
          have hD : va_D A (mW ad N cI cZ cJ (wA (wA (wA (wA u249 0 47 ((u249.1 0 47) + (1 : Int32))) 0 48 ((u249.1 0 48) + (1 : Int32))) 11 ((u249.1 0 12).toNatClampNeg) r261) 0 12 ((u249.1 0 12) + (1 : Int32)))) := hD
          refine tp_i (y := (u249.1 0 12)) (rfl) ?_
          refine W.widen (k := 0) (n := 0) (by omega) (by omega) ?_
          refine lv_iload_n hx hb dX13_sets_71 rfl (lv_at hl 5 rfl) ?_
          refine lv_iconst (v := 3) hx hb dX13_sets_72 (by decide) ?_
          refine cu_v (rn_V (n := 3) (As := [.int (u249.1 0 12), .int pb, .int 3]) (rest := []) hx hb hml hown ht hKK hFx hP hD hS hA (c_m_fix l dC dI cI cB cZ cJ cR tb H.size ad N (wA (wA (wA (wA u249 0 47 ((u249.1 0 47) + (1 : Int32))) 0 48 ((u249.1 0 48) + (1 : Int32))) 11 ((u249.1 0 12).toNatClampNeg) r261) 0 12 ((u249.1 0 12) + (1 : Int32))) (u249.1 0 12) pb (3 : Int32) (show 0 ≤ (u249.1 0 43).toInt ∧ (u249.1 0 43).toInt < 24000 by omega)) tw_69 tw_70 (by decide +kernel) rfl rfl ⟨by show 0 + 1 ≤ 40 * n + 6; omega, by show 8 + (4 + 11) + 0 ≤ 28 * (40 * n + 6); omega⟩ (List.range (mW ad N cI cZ cJ (wA (wA (wA (wA u249 0 47 ((u249.1 0 47) + (1 : Int32))) 0 48 ((u249.1 0 48) + (1 : Int32))) 11 ((u249.1 0 12).toNatClampNeg) r261) 0 12 ((u249.1 0 12) + (1 : Int32)))).length) (rg_map _) (mW_nd _ _ _ _ _ _) rfl rfl rfl rfl hl.1 rfl (Nat.le_of_ble_eq_true rfl) dX13_sets_73 ⟨Nat.le_of_ble_eq_true rfl, Nat.le_of_ble_eq_true rfl⟩) hP hD hS hA (fun u267 H locs hw266 hP hD hS => ?_)
          obtain rfl := hw266
          have z269 : ((u249.1 0 43) + (1 : Int32)).toInt = (u249.1 0 43).toInt + 1 := add_z rfl (show (1 : Int32).toInt = 1 by decide) (by omega) (by omega)
          have hP : va_P (dC, dI) vwCl (mW ad N cI cZ cJ (wA (wA (wA (wA (wA (wA (wA (wA u249 0 47 ((u249.1 0 47) + (1 : Int32))) 0 48 ((u249.1 0 48) + (1 : Int32))) 11 ((u249.1 0 12).toNatClampNeg) r261) 0 12 ((u249.1 0 12) + (1 : Int32))) 40 ((u249.1 0 43).toNatClampNeg) (u249.1 0 12)) 41 ((u249.1 0 43).toNatClampNeg) pb) 42 ((u249.1 0 43).toNatClampNeg) (3 : Int32)) 0 43 ((u249.1 0 43) + (1 : Int32)))) H := hP
          have hD : va_D A (mW ad N cI cZ cJ (wA (wA (wA (wA (wA (wA (wA (wA u249 0 47 ((u249.1 0 47) + (1 : Int32))) 0 48 ((u249.1 0 48) + (1 : Int32))) 11 ((u249.1 0 12).toNatClampNeg) r261) 0 12 ((u249.1 0 12) + (1 : Int32))) 40 ((u249.1 0 43).toNatClampNeg) (u249.1 0 12)) 41 ((u249.1 0 43).toNatClampNeg) pb) 42 ((u249.1 0 43).toNatClampNeg) (3 : Int32)) 0 43 ((u249.1 0 43) + (1 : Int32)))) := hD
          refine W.widen (k := 0) (n := 0) (by omega) (by omega) ?_
          obtain ⟨u270, hu271⟩ : ∃ z, z = (wA (wA (wA (wA (wA (wA (wA (wA u249 0 47 ((u249.1 0 47) + (1 : Int32))) 0 48 ((u249.1 0 48) + (1 : Int32))) 11 ((u249.1 0 12).toNatClampNeg) r261) 0 12 ((u249.1 0 12) + (1 : Int32))) 40 ((u249.1 0 43).toNatClampNeg) (u249.1 0 12)) 41 ((u249.1 0 43).toNatClampNeg) pb) 42 ((u249.1 0 43).toNatClampNeg) (3 : Int32)) 0 43 ((u249.1 0 43) + (1 : Int32))) := ⟨_, rfl⟩
          have fr271 : FG [12, 43, 47, 48] [0, 11, 40, 41, 42] u249 u270 := by rw [hu271]; exact (FG.f (FG.a (FG.a (FG.a (FG.f (FG.a (FG.f (FG.f (FG.rf _) ((u249.1 0 47) + (1 : Int32)) (by decide)) ((u249.1 0 48) + (1 : Int32)) (by decide)) ((u249.1 0 12).toNatClampNeg) r261 (by decide) (by decide)) ((u249.1 0 12) + (1 : Int32)) (by decide)) ((u249.1 0 43).toNatClampNeg) (u249.1 0 12) (by decide) (by decide)) ((u249.1 0 43).toNatClampNeg) pb (by decide) (by decide)) ((u249.1 0 43).toNatClampNeg) (3 : Int32) (by decide) (by decide)) ((u249.1 0 43) + (1 : Int32)) (by decide))
          have q271_2 : (u270.1 0 2).toInt = (u249.1 0 2).toInt := congrArg Int32.toInt (fr271.2.1 2 (by decide))
          have q271_4 : (u270.1 0 4).toInt = (u249.1 0 4).toInt := congrArg Int32.toInt (fr271.2.1 4 (by decide))
          have q271_5 : (u270.1 0 5).toInt = (u249.1 0 5).toInt := congrArg Int32.toInt (fr271.2.1 5 (by decide))
          have q271_12 : (u270.1 0 12).toInt = ((u249.1 0 12).toInt + 1) := by rw [hu271]; exact (show ((u249.1 0 12) + (1 : Int32)).toInt = ((u249.1 0 12).toInt + 1) from z265)
          have q271_15 : (u270.1 0 15).toInt = (u249.1 0 15).toInt := congrArg Int32.toInt (fr271.2.1 15 (by decide))
          have q271_22 : (u270.1 0 22).toInt = (u249.1 0 22).toInt := congrArg Int32.toInt (fr271.2.1 22 (by decide))
          have q271_27 : (u270.1 0 27).toInt = (u249.1 0 27).toInt := congrArg Int32.toInt (fr271.2.1 27 (by decide))
          have q271_28 : (u270.1 0 28).toInt = (u249.1 0 28).toInt := congrArg Int32.toInt (fr271.2.1 28 (by decide))
          have q271_30 : (u270.1 0 30).toInt = (u249.1 0 30).toInt := congrArg Int32.toInt (fr271.2.1 30 (by decide))
          have q271_31 : (u270.1 0 31).toInt = (u249.1 0 31).toInt := congrArg Int32.toInt (fr271.2.1 31 (by decide))
          have q271_32 : (u270.1 0 32).toInt = (u249.1 0 32).toInt := congrArg Int32.toInt (fr271.2.1 32 (by decide))
          have q271_33 : (u270.1 0 33).toInt = (u249.1 0 33).toInt := congrArg Int32.toInt (fr271.2.1 33 (by decide))
          have q271_34 : (u270.1 0 34).toInt = (u249.1 0 34).toInt := congrArg Int32.toInt (fr271.2.1 34 (by decide))
          have q271_39 : (u270.1 0 39).toInt = (u249.1 0 39).toInt := congrArg Int32.toInt (fr271.2.1 39 (by decide))
          have q271_43 : (u270.1 0 43).toInt = ((u249.1 0 43).toInt + 1) := by rw [hu271]; exact (show ((u249.1 0 43) + (1 : Int32)).toInt = ((u249.1 0 43).toInt + 1) from z269)
          have q271_47 : (u270.1 0 47).toInt = ((u249.1 0 47).toInt + 1) := by rw [hu271]; exact (show ((u249.1 0 47) + (1 : Int32)).toInt = ((u249.1 0 47).toInt + 1) from z254)
          have q271_48 : (u270.1 0 48).toInt = ((u249.1 0 48).toInt + 1) := by rw [hu271]; exact (show ((u249.1 0 48) + (1 : Int32)).toInt = ((u249.1 0 48).toInt + 1) from z255)
          have q271_49 : (u270.1 0 49).toInt = (u249.1 0 49).toInt := congrArg Int32.toInt (fr271.2.1 49 (by decide))
          have q271_52 : (u270.1 0 52).toInt = (u249.1 0 52).toInt := congrArg Int32.toInt (fr271.2.1 52 (by decide))
          have kc271 : ∀ j : Nat, (j : Int) < (u249.1 0 12).toInt → (u270.1 11) j = (u249.1 11) j := by rw [hu271]; exact (fun (j9 : Nat) hj9 => (pk_un (by have := cl_z (a := (u249.1 0 12).toInt) rfl (by omega); omega)))
          rw [← hu271] at hP hD
          refine lv_aload_n hx hb dX13_sets_76 rfl (lv_at hl 3 rfl) ?_
          refine lv_bipush (v := 10) hx hb dX13_sets_77 (by decide) ?_
          refine lv_iload hx hb dX13_sets_79 (lv_at hl 1 rfl) ?_
          refine cu_s (mW_nd _ _ _ _ _ _) (rn_S (n := 1) (As := [.int r243]) (rest := [.int 10, .ref (ad 0)]) hx hb hml hown ht hKK hFx hP hD hS hA (c_m_slotAt l dC dI cI cB cZ cJ cR tb H.size r243 ) tw_74 tw_75 (by decide +kernel) rfl rfl ⟨by show 0 + 1 ≤ 40 * n + 6; omega, by show 8 + (1 + 11) + 0 ≤ 28 * (40 * n + 6); omega⟩ [] rfl rfl rfl hl.1 rfl (Nat.le_of_ble_eq_true rfl) dX13_sets_81 ⟨Nat.le_of_ble_eq_true rfl, Nat.le_of_ble_eq_true rfl⟩) hP hD hS hA (fun r274 H locs hw272 hP hD hS => ?_)
          refine W.widen (k := 0) (n := 0) (by omega) (by omega) ?_
          refine lv_bipush (v := 8) hx hb dX13_sets_84 (by decide) ?_
          refine cu_s (mW_nd _ _ _ _ _ _) (rn_S (n := 3) (As := [.int 10, .int r274, .int 8]) (rest := [.ref (ad 0)]) hx hb hml hown ht hKK hFx hP hD hS hA (c_m_sw l dC dI cI cB cZ cJ cR tb H.size (10 : Int32) r274 (8 : Int32) ) tw_76 tw_77 (by decide +kernel) rfl rfl ⟨by show 0 + 1 ≤ 40 * n + 6; omega, by show 8 + (3 + 11) + 0 ≤ 28 * (40 * n + 6); omega⟩ [] rfl rfl rfl hl.1 rfl (Nat.le_of_ble_eq_true rfl) dX13_sets_86 ⟨Nat.le_of_ble_eq_true rfl, Nat.le_of_ble_eq_true rfl⟩) hP hD hS hA (fun r277 H locs hw275 hP hD hS => ?_)
          refine W.widen (k := 0) (n := 0) (by omega) (by omega) ?_
          refine cu_i (rn_V (n := 1) (As := [.int r277]) (rest := []) hx hb hml hown ht hKK hFx hP hD hS hA (c_m_emit l dC dI cI cB cZ cJ cR tb H.size ad N u270 r277 (show 0 ≤ (u270.1 0 12).toInt ∧ (u270.1 0 12).toInt < 24000 by omega)) tw_8 tw_9 (by decide +kernel) rfl rfl ⟨by show 0 + 1 ≤ 40 * n + 6; omega, by show 8 + (2 + 11) + 0 ≤ 28 * (40 * n + 6); omega⟩ (List.range (mW ad N cI cZ cJ u270).length) (rg_map _) (mW_nd _ _ _ _ _ _) rfl rfl rfl rfl hl.1 rfl (Nat.le_of_ble_eq_true rfl) dX13_sets_89 ⟨Nat.le_of_ble_eq_true rfl, Nat.le_of_ble_eq_true rfl⟩) hP hD hS hA (fun r280 u279 H locs hw278 hP hD hS => ?_)
          obtain ⟨rfl, rfl⟩ := hw278
          have z281 : ((u270.1 0 12) + (1 : Int32)).toInt = (u270.1 0 12).toInt + 1 := add_z rfl (show (1 : Int32).toInt = 1 by decide) (by omega) (by omega)
          have hP : va_P (dC, dI) vwCl (mW ad N cI cZ cJ (wA (wA u270 11 ((u270.1 0 12).toNatClampNeg) r277) 0 12 ((u270.1 0 12) + (1 : Int32)))) H := hP
          have hD : va_D A (mW ad N cI cZ cJ (wA (wA u270 11 ((u270.1 0 12).toNatClampNeg) r277) 0 12 ((u270.1 0 12) + (1 : Int32)))) := hD
          refine tp_i (y := (u270.1 0 12)) (rfl) ?_
          refine W.widen (k := 0) (n := 0) (by omega) (by omega) ?_
          refine lv_pop hx hb dX13_sets_92 rfl ?_
          refine lv_iload hx hb dX13_sets_93 (lv_at hl 7 rfl) ?_
          refine lv_if_eq (tgt := 111) hx hb dX13_sets_95 (by decide) (fun h282 => ?_) (fun h282 => ?_)
          · have z283 : pd.toInt = 0 := eq_z rfl (show (0 : Int32).toInt = 0 by decide) h282
            refine lv_iload hx hb dX13_sets_111 (lv_at hl 7 rfl) ?_
            refine lv_if_eq (tgt := 138) hx hb dX13_sets_113 (by decide) (fun h284 => ?_) (fun h284 => ?_)
            · have z285 : pd.toInt = 0 := eq_z rfl (show (0 : Int32).toInt = 0 by decide) h284
              refine lv_iload hx hb dX13_sets_138 (lv_at hl 7 rfl) ?_
              refine lv_if_eq (tgt := 160) hx hb dX13_sets_140 (by decide) (fun h286 => ?_) (fun h286 => ?_)
              · have z287 : pd.toInt = 0 := eq_z rfl (show (0 : Int32).toInt = 0 by decide) h286
                refine lv_aload_n hx hb dX13_sets_160 rfl (lv_at hl 3 rfl) ?_
                refine lv_dup hx hb dX13_sets_161 rfl ?_
                refine va_get (D := (dC, dI)) (ci := 16) (fs := mF ad (wA (wA u270 11 ((u270.1 0 12).toNatClampNeg) r277) 0 12 ((u270.1 0 12) + (1 : Int32)))) (v := .int (u270.1 0 32)) (C := RX13) (T := TX13) (N := 124) hx hb ht itX13 hown hK hP 0 rfl rfl 32 (by decide) (ht _ tw_52) (fun _ h9 => h9) rfl dX13_sets_162 ?_
                refine lv_iload hx hb dX13_sets_165 (lv_at hl 2 rfl) ?_
                refine lv_iadd hx hb dX13_sets_167 ?_
                have z288 : ((u270.1 0 32) + (1 : Int32)).toInt = (u270.1 0 32).toInt + 1 := add_z rfl (show (1 : Int32).toInt = 1 by decide) (by omega) (by omega)
                refine va_put (D := (dC, dI)) (ci := 16) (fs := mF ad (wA (wA u270 11 ((u270.1 0 12).toNatClampNeg) r277) 0 12 ((u270.1 0 12) + (1 : Int32)))) (v := .int ((u270.1 0 32) + (1 : Int32))) (ty := .int) (C := RX13) (T := TX13) (N := 124) hx hb ht itX13 tyX13 tyX13_ok nmX13 hown hK hP hD hS 0 rfl rfl 32 (by decide) (ht _ tw_52) (fun _ h9 => h9) rfl (by decide +kernel) rfl rfl (Nat.le_of_ble_eq_true rfl) dX13_sets_168 (fun H locs hP hD hS => ?_)
                have hP := cP_ (mw_32 ad N cI cZ cJ (wA (wA u270 11 ((u270.1 0 12).toNatClampNeg) r277) 0 12 ((u270.1 0 12) + (1 : Int32))) ((u270.1 0 32) + (1 : Int32))) hP
                have hD := cD_ (mw_32 ad N cI cZ cJ (wA (wA u270 11 ((u270.1 0 12).toNatClampNeg) r277) 0 12 ((u270.1 0 12) + (1 : Int32))) ((u270.1 0 32) + (1 : Int32))) hD
                refine lv_aload_n hx hb dX13_sets_171 rfl (lv_at hl 3 rfl) ?_
                obtain ⟨n289, hn290⟩ : ∃ m, n = m + 1 := ⟨n - 1, by omega⟩
                refine cux_v (rx_V (n := 0) (As := []) (rest := []) hx hb hml hown ht hKK hFx hP hD hS hA (ihE n289 hn290 dC dI cI cB cZ cJ cR tb H.size ad N (wA (wA (wA u270 11 ((u270.1 0 12).toNatClampNeg) r277) 0 12 ((u270.1 0 12) + (1 : Int32))) 0 32 ((u270.1 0 32) + (1 : Int32)))  (show 40 ≤ (u270.1 0 48).toInt + (n289 : Int) by omega) (show 0 ≤ (u270.1 0 47).toInt ∧ (u270.1 0 47).toInt ≤ 1500 by omega) (show 0 ≤ (u270.1 0 48).toInt ∧ (u270.1 0 48).toInt ≤ 40 by omega) (show 0 ≤ (u270.1 0 30).toInt ∧ (u270.1 0 30).toInt ≤ 500 by omega) (show 0 ≤ (u270.1 0 33).toInt ∧ (u270.1 0 33).toInt ≤ 500 by omega) (show 0 ≤ ((u270.1 0 32) + (1 : Int32)).toInt ∧ (u270.1 0 30).toInt + ((u270.1 0 32) + (1 : Int32)).toInt ≤ 500 by omega) (show 0 ≤ ((u270.1 0 12) + (1 : Int32)).toInt ∧ ((u270.1 0 12) + (1 : Int32)).toInt ≤ 15 * (u270.1 0 47).toInt + 2 by omega) (show 0 ≤ (u270.1 0 15).toInt ∧ (u270.1 0 15).toInt ≤ 10 * (u270.1 0 47).toInt + 0 by omega) (show 0 ≤ (u270.1 0 43).toInt ∧ (u270.1 0 43).toInt ≤ 15 * (u270.1 0 47).toInt + 0 by omega) (show 0 ≤ (u270.1 0 39).toInt ∧ (u270.1 0 39).toInt ≤ 1 * (u270.1 0 47).toInt + 0 by omega) (show 0 ≤ (u270.1 0 27).toInt ∧ (u270.1 0 27).toInt ≤ 60 by omega) (FG.ti (fl := pfl) (al := pal) (FG.f (FG.f (FG.a (FG.tr (FG.tr (FG.tr (FG.rf _) (FG.up fr241 (by decide) (by decide))) (FG.up fr248 (by decide) (by decide))) (FG.up fr271 (by decide) (by decide))) ((u270.1 0 12).toNatClampNeg) r277 (by decide) (by decide)) ((u270.1 0 12) + (1 : Int32)) (by decide)) ((u270.1 0 32) + (1 : Int32)) (by decide)) (by decide) (by decide) hT) ((show NI 29 u270 from NI.fr (fl := [12, 43, 47, 48]) (al := [0, 11, 40, 41, 42]) fr271 (by decide) (show NI 29 u249 from NI.fr (fl := [44, 45]) (al := [0]) fr248 (by decide) (show NI 29 u242 from NI.fr (fl := [33, 49]) (al := [0]) fr241 (by decide) n29)))) ((show NI 23 u270 from NI.fr (fl := [12, 43, 47, 48]) (al := [0, 11, 40, 41, 42]) fr271 (by decide) (show NI 23 u249 from NI.fr (fl := [44, 45]) (al := [0]) fr248 (by decide) (show NI 23 u242 from NI.fr (fl := [33, 49]) (al := [0]) fr241 (by decide) n23)))) ((show NI 35 u270 from NI.fr (fl := [12, 43, 47, 48]) (al := [0, 11, 40, 41, 42]) fr271 (by decide) (show NI 35 u249 from NI.fr (fl := [44, 45]) (al := [0]) fr248 (by decide) (show NI 35 u242 from NI.fr (fl := [33, 49]) (al := [0]) fr241 (by decide) n35))))) tw_80 tw_81 (by decide +kernel) rfl rfl ⟨by show (40 * n289 + 36) + 1 ≤ 40 * n + 6; omega, by show 8 + (1 + 11) + 28 * (40 * n289 + 36) ≤ 28 * (40 * n + 6); omega⟩ (List.range (mW ad N cI cZ cJ (wA (wA (wA u270 11 ((u270.1 0 12).toNatClampNeg) r277) 0 12 ((u270.1 0 12) + (1 : Int32))) 0 32 ((u270.1 0 32) + (1 : Int32)))).length) (rg_map _) (mW_nd _ _ _ _ _ _) rfl rfl rfl rfl hl.1 rfl (Nat.le_of_ble_eq_true rfl) dX13_sets_172 ⟨Nat.le_of_ble_eq_true rfl, Nat.le_of_ble_eq_true rfl⟩) hP hD hS hA (fun u9 ce9 q9 H locs hx9 hP hD hS hc9 hv9 hf9 => ?_) (fun u292 H locs hw291 hP hD hS => ?_)
                · exact vx_out (fun x h9 => (hnt x h9).elim) hlocks hc9 hv9 hf9 (fun t9 ht9 hv8 => ⟨u9, (FG.tr (FG.f (FG.f (FG.a (FG.tr (FG.tr (FG.tr (FG.rf _) (FG.up fr241 (by decide) (by decide))) (FG.up fr248 (by decide) (by decide))) (FG.up fr271 (by decide) (by decide))) ((u270.1 0 12).toNatClampNeg) r277 (by decide) (by decide)) ((u270.1 0 12) + (1 : Int32)) (by decide)) ((u270.1 0 32) + (1 : Int32)) (by decide)) hx9), ⟨rfl, by rw [ht9]; exact hP, hD⟩, hS.F ht9⟩) hS.2.2 (by omega) (by omega)
                obtain ⟨fr291, pt291, pb291, pw291, po291, pf291, pk291, pp291, ph291, kc291, ko291, kg291, n35291⟩ := hw291
                have q291_2 : (u292.1 0 2).toInt = (u270.1 0 2).toInt := congrArg Int32.toInt ((fr291.2.1 2 (by decide)).trans (show (wA (wA (wA u270 11 ((u270.1 0 12).toNatClampNeg) r277) 0 12 ((u270.1 0 12) + (1 : Int32))) 0 32 ((u270.1 0 32) + (1 : Int32))).1 0 2 = (u270.1 0 2) by rfl))
                have q291_4 : (u292.1 0 4).toInt = (u270.1 0 4).toInt := congrArg Int32.toInt ((fr291.2.1 4 (by decide)).trans (show (wA (wA (wA u270 11 ((u270.1 0 12).toNatClampNeg) r277) 0 12 ((u270.1 0 12) + (1 : Int32))) 0 32 ((u270.1 0 32) + (1 : Int32))).1 0 4 = (u270.1 0 4) by rfl))
                have q291_5 : (u292.1 0 5).toInt = (u270.1 0 5).toInt := congrArg Int32.toInt ((fr291.2.1 5 (by decide)).trans (show (wA (wA (wA u270 11 ((u270.1 0 12).toNatClampNeg) r277) 0 12 ((u270.1 0 12) + (1 : Int32))) 0 32 ((u270.1 0 32) + (1 : Int32))).1 0 5 = (u270.1 0 5) by rfl))
                have q291_22 : (u292.1 0 22).toInt = (u270.1 0 22).toInt := congrArg Int32.toInt ((fr291.2.1 22 (by decide)).trans (show (wA (wA (wA u270 11 ((u270.1 0 12).toNatClampNeg) r277) 0 12 ((u270.1 0 12) + (1 : Int32))) 0 32 ((u270.1 0 32) + (1 : Int32))).1 0 22 = (u270.1 0 22) by rfl))
                have q291_27 : (u292.1 0 27).toInt = (u270.1 0 27).toInt := congrArg Int32.toInt ((fr291.2.1 27 (by decide)).trans (show (wA (wA (wA u270 11 ((u270.1 0 12).toNatClampNeg) r277) 0 12 ((u270.1 0 12) + (1 : Int32))) 0 32 ((u270.1 0 32) + (1 : Int32))).1 0 27 = (u270.1 0 27) by rfl))
                have q291_28 : (u292.1 0 28).toInt = (u270.1 0 28).toInt := congrArg Int32.toInt ((fr291.2.1 28 (by decide)).trans (show (wA (wA (wA u270 11 ((u270.1 0 12).toNatClampNeg) r277) 0 12 ((u270.1 0 12) + (1 : Int32))) 0 32 ((u270.1 0 32) + (1 : Int32))).1 0 28 = (u270.1 0 28) by rfl))
                have q291_30 : (u292.1 0 30).toInt = (u270.1 0 30).toInt := congrArg Int32.toInt ((fr291.2.1 30 (by decide)).trans (show (wA (wA (wA u270 11 ((u270.1 0 12).toNatClampNeg) r277) 0 12 ((u270.1 0 12) + (1 : Int32))) 0 32 ((u270.1 0 32) + (1 : Int32))).1 0 30 = (u270.1 0 30) by rfl))
                have q291_31 : (u292.1 0 31).toInt = (u270.1 0 31).toInt := congrArg Int32.toInt ((fr291.2.1 31 (by decide)).trans (show (wA (wA (wA u270 11 ((u270.1 0 12).toNatClampNeg) r277) 0 12 ((u270.1 0 12) + (1 : Int32))) 0 32 ((u270.1 0 32) + (1 : Int32))).1 0 31 = (u270.1 0 31) by rfl))
                have q291_34 : (u292.1 0 34).toInt = (u270.1 0 34).toInt := congrArg Int32.toInt ((fr291.2.1 34 (by decide)).trans (show (wA (wA (wA u270 11 ((u270.1 0 12).toNatClampNeg) r277) 0 12 ((u270.1 0 12) + (1 : Int32))) 0 32 ((u270.1 0 32) + (1 : Int32))).1 0 34 = (u270.1 0 34) by rfl))
                have q291_52 : (u292.1 0 52).toInt = (u270.1 0 52).toInt := congrArg Int32.toInt ((fr291.2.1 52 (by decide)).trans (show (wA (wA (wA u270 11 ((u270.1 0 12).toNatClampNeg) r277) 0 12 ((u270.1 0 12) + (1 : Int32))) 0 32 ((u270.1 0 32) + (1 : Int32))).1 0 52 = (u270.1 0 52) by rfl))
                have pt291 : (u270.1 0 47).toInt + 1 ≤ (u292.1 0 47).toInt ∧ (u292.1 0 47).toInt ≤ 1500 := pt291
                have pb291 : (u270.1 0 49).toInt ≠ (u270.1 0 47).toInt := pb291
                have pw291 : ((u270.1 0 12) + (1 : Int32)).toInt ≤ (u292.1 0 12).toInt ∧ (u292.1 0 12).toInt - 15 * (u292.1 0 47).toInt ≤ ((u270.1 0 12) + (1 : Int32)).toInt - 15 * (u270.1 0 47).toInt := pw291
                have po291 : (u270.1 0 15).toInt ≤ (u292.1 0 15).toInt ∧ (u292.1 0 15).toInt - 10 * (u292.1 0 47).toInt ≤ (u270.1 0 15).toInt - 10 * (u270.1 0 47).toInt := po291
                have pf291 : (u270.1 0 43).toInt ≤ (u292.1 0 43).toInt ∧ (u292.1 0 43).toInt - 15 * (u292.1 0 47).toInt ≤ (u270.1 0 43).toInt - 15 * (u270.1 0 47).toInt := pf291
                have pk291 : (u270.1 0 39).toInt ≤ (u292.1 0 39).toInt ∧ (u292.1 0 39).toInt - 1 * (u292.1 0 47).toInt ≤ (u270.1 0 39).toInt - 1 * (u270.1 0 47).toInt := pk291
                have pp291 : (u292.1 0 32).toInt = ((u270.1 0 32) + (1 : Int32)).toInt ∧ (u292.1 0 48).toInt = (u270.1 0 48).toInt := pp291
                have ph291 : (u270.1 0 33).toInt ≤ (u292.1 0 33).toInt ∧ (u292.1 0 33).toInt ≤ 500 := ph291
                have kc291 : ∀ j : Nat, (j : Int) < ((u270.1 0 12) + (1 : Int32)).toInt → (u292.1 11) j = (upd (u270.1 11) ((u270.1 0 12).toNatClampNeg) r277) j := kc291
                have ko291 : ∀ j : Nat, (j : Int) < (u270.1 0 15).toInt → (u292.1 13) j = (u270.1 13) j := ko291
                have kg291 : ∀ j : Nat, (j : Int) < (u270.1 0 15).toInt → (u292.1 14) j = (u270.1 14) j := kg291
                have n35291 : NI 35 u292 := n35291
                refine W.widen (k := 0) (n := 0) (by omega) (by omega) ?_
                refine lv_aload_n hx hb dX13_sets_175 rfl (lv_at hl 3 rfl) ?_
                refine lv_dup hx hb dX13_sets_176 rfl ?_
                refine va_get (D := (dC, dI)) (ci := 16) (fs := mF ad u292) (v := .int (u292.1 0 32)) (C := RX13) (T := TX13) (N := 124) hx hb ht itX13 hown hK hP 0 rfl rfl 32 (by decide) (ht _ tw_52) (fun _ h9 => h9) rfl dX13_sets_177 ?_
                refine lv_iload hx hb dX13_sets_180 (lv_at hl 2 rfl) ?_
                refine lv_isub hx hb dX13_sets_182 ?_
                have z294 : ((u292.1 0 32) - (1 : Int32)).toInt = (u292.1 0 32).toInt - 1 := sub_z rfl (show (1 : Int32).toInt = 1 by decide) (by omega) (by omega)
                refine va_put (D := (dC, dI)) (ci := 16) (fs := mF ad u292) (v := .int ((u292.1 0 32) - (1 : Int32))) (ty := .int) (C := RX13) (T := TX13) (N := 124) hx hb ht itX13 tyX13 tyX13_ok nmX13 hown hK hP hD hS 0 rfl rfl 32 (by decide) (ht _ tw_52) (fun _ h9 => h9) rfl (by decide +kernel) rfl rfl (Nat.le_of_ble_eq_true rfl) dX13_sets_183 (fun H locs hP hD hS => ?_)
                have hP := cP_ (mw_32 ad N cI cZ cJ u292 ((u292.1 0 32) - (1 : Int32))) hP
                have hD := cD_ (mw_32 ad N cI cZ cJ u292 ((u292.1 0 32) - (1 : Int32))) hD
                refine lv_iload hx hb dX13_sets_186 (lv_at hl 7 rfl) ?_
                refine lv_if_eq (tgt := 213) hx hb dX13_sets_188 (by decide) (fun h295 => ?_) (fun h295 => ?_)
                · have z296 : pd.toInt = 0 := eq_z rfl (show (0 : Int32).toInt = 0 by decide) h295
                  refine lv_iload_n hx hb dX13_sets_213 rfl (lv_at hl 6 rfl) ?_
                  refine lv_if_eq (tgt := 258) hx hb dX13_sets_214 (by decide) (fun h297 => ?_) (fun h297 => ?_)
                  · have z298 : pc1.toInt = 0 := eq_z rfl (show (0 : Int32).toInt = 0 by decide) h297
                    exfalso; omega
                  · have z299 : pc1.toInt ≠ 0 := ne_z rfl (show (0 : Int32).toInt = 0 by decide) h297
                    refine lv_aload_n hx hb dX13_sets_217 rfl (lv_at hl 3 rfl) ?_
                    refine lv_bipush (v := 6) hx hb dX13_sets_218 (by decide) ?_
                    refine lv_iload hx hb dX13_sets_220 (lv_at hl 1 rfl) ?_
                    refine cu_s (mW_nd _ _ _ _ _ _) (rn_S (n := 1) (As := [.int r243]) (rest := [.int 6, .ref (ad 0)]) hx hb hml hown ht hKK hFx hP hD hS hA (c_m_slotAt l dC dI cI cB cZ cJ cR tb H.size r243 ) tw_74 tw_75 (by decide +kernel) rfl rfl ⟨by show 0 + 1 ≤ 40 * n + 6; omega, by show 8 + (1 + 11) + 0 ≤ 28 * (40 * n + 6); omega⟩ [] rfl rfl rfl hl.1 rfl (Nat.le_of_ble_eq_true rfl) dX13_sets_222 ⟨Nat.le_of_ble_eq_true rfl, Nat.le_of_ble_eq_true rfl⟩) hP hD hS hA (fun r302 H locs hw300 hP hD hS => ?_)
                    refine W.widen (k := 0) (n := 0) (by omega) (by omega) ?_
                    refine lv_bipush (v := 8) hx hb dX13_sets_225 (by decide) ?_
                    refine cu_s (mW_nd _ _ _ _ _ _) (rn_S (n := 3) (As := [.int 6, .int r302, .int 8]) (rest := [.ref (ad 0)]) hx hb hml hown ht hKK hFx hP hD hS hA (c_m_lw l dC dI cI cB cZ cJ cR tb H.size (6 : Int32) r302 (8 : Int32) ) tw_71 tw_72 (by decide +kernel) rfl rfl ⟨by show 1 + 1 ≤ 40 * n + 6; omega, by show 8 + (3 + 11) + 24 ≤ 28 * (40 * n + 6); omega⟩ [] rfl rfl rfl hl.1 rfl (Nat.le_of_ble_eq_true rfl) dX13_sets_227 ⟨Nat.le_of_ble_eq_true rfl, Nat.le_of_ble_eq_true rfl⟩) hP hD hS hA (fun r305 H locs hw303 hP hD hS => ?_)
                    refine W.widen (k := 0) (n := 0) (by omega) (by omega) ?_
                    refine cu_i (rn_V (n := 1) (As := [.int r305]) (rest := []) hx hb hml hown ht hKK hFx hP hD hS hA (c_m_emit l dC dI cI cB cZ cJ cR tb H.size ad N (wA u292 0 32 ((u292.1 0 32) - (1 : Int32))) r305 (show 0 ≤ (u292.1 0 12).toInt ∧ (u292.1 0 12).toInt < 24000 by omega)) tw_8 tw_9 (by decide +kernel) rfl rfl ⟨by show 0 + 1 ≤ 40 * n + 6; omega, by show 8 + (2 + 11) + 0 ≤ 28 * (40 * n + 6); omega⟩ (List.range (mW ad N cI cZ cJ (wA u292 0 32 ((u292.1 0 32) - (1 : Int32)))).length) (rg_map _) (mW_nd _ _ _ _ _ _) rfl rfl rfl rfl hl.1 rfl (Nat.le_of_ble_eq_true rfl) dX13_sets_230 ⟨Nat.le_of_ble_eq_true rfl, Nat.le_of_ble_eq_true rfl⟩) hP hD hS hA (fun r308 u307 H locs hw306 hP hD hS => ?_)
                    obtain ⟨rfl, rfl⟩ := hw306
                    have z309 : ((u292.1 0 12) + (1 : Int32)).toInt = (u292.1 0 12).toInt + 1 := add_z rfl (show (1 : Int32).toInt = 1 by decide) (by omega) (by omega)
                    have hP : va_P (dC, dI) vwCl (mW ad N cI cZ cJ (wA (wA (wA u292 0 32 ((u292.1 0 32) - (1 : Int32))) 11 ((u292.1 0 12).toNatClampNeg) r305) 0 12 ((u292.1 0 12) + (1 : Int32)))) H := hP
                    have hD : va_D A (mW ad N cI cZ cJ (wA (wA (wA u292 0 32 ((u292.1 0 32) - (1 : Int32))) 11 ((u292.1 0 12).toNatClampNeg) r305) 0 12 ((u292.1 0 12) + (1 : Int32)))) := hD
                    refine tp_i (y := (u292.1 0 12)) (rfl) ?_
                    refine W.widen (k := 0) (n := 0) (by omega) (by omega) ?_
                    refine lv_pop hx hb dX13_sets_233 rfl ?_
                    refine lv_aload_n hx hb dX13_sets_234 rfl (lv_at hl 3 rfl) ?_
                    refine lv_bipush (v := 10) hx hb dX13_sets_235 (by decide) ?_
                    refine lv_iconst (v := 0) hx hb dX13_sets_237 (by decide) ?_
                    refine lv_bipush (v := 6) hx hb dX13_sets_238 (by decide) ?_
                    refine cu_s (mW_nd _ _ _ _ _ _) (rn_S (n := 3) (As := [.int 10, .int 0, .int 6]) (rest := [.ref (ad 0)]) hx hb hml hown ht hKK hFx hP hD hS hA (c_m_sw l dC dI cI cB cZ cJ cR tb H.size (10 : Int32) (0 : Int32) (6 : Int32) ) tw_76 tw_77 (by decide +kernel) rfl rfl ⟨by show 0 + 1 ≤ 40 * n + 6; omega, by show 8 + (3 + 11) + 0 ≤ 28 * (40 * n + 6); omega⟩ [] rfl rfl rfl hl.1 rfl (Nat.le_of_ble_eq_true rfl) dX13_sets_240 ⟨Nat.le_of_ble_eq_true rfl, Nat.le_of_ble_eq_true rfl⟩) hP hD hS hA (fun r312 H locs hw310 hP hD hS => ?_)
                    refine W.widen (k := 0) (n := 0) (by omega) (by omega) ?_
                    refine cu_i (rn_V (n := 1) (As := [.int r312]) (rest := []) hx hb hml hown ht hKK hFx hP hD hS hA (c_m_emit l dC dI cI cB cZ cJ cR tb H.size ad N (wA (wA (wA u292 0 32 ((u292.1 0 32) - (1 : Int32))) 11 ((u292.1 0 12).toNatClampNeg) r305) 0 12 ((u292.1 0 12) + (1 : Int32))) r312 (show 0 ≤ ((u292.1 0 12) + (1 : Int32)).toInt ∧ ((u292.1 0 12) + (1 : Int32)).toInt < 24000 by omega)) tw_8 tw_9 (by decide +kernel) rfl rfl ⟨by show 0 + 1 ≤ 40 * n + 6; omega, by show 8 + (2 + 11) + 0 ≤ 28 * (40 * n + 6); omega⟩ (List.range (mW ad N cI cZ cJ (wA (wA (wA u292 0 32 ((u292.1 0 32) - (1 : Int32))) 11 ((u292.1 0 12).toNatClampNeg) r305) 0 12 ((u292.1 0 12) + (1 : Int32)))).length) (rg_map _) (mW_nd _ _ _ _ _ _) rfl rfl rfl rfl hl.1 rfl (Nat.le_of_ble_eq_true rfl) dX13_sets_243 ⟨Nat.le_of_ble_eq_true rfl, Nat.le_of_ble_eq_true rfl⟩) hP hD hS hA (fun r315 u314 H locs hw313 hP hD hS => ?_)
                    obtain ⟨rfl, rfl⟩ := hw313
                    have z316 : (((u292.1 0 12) + (1 : Int32)) + (1 : Int32)).toInt = ((u292.1 0 12).toInt + 1) + 1 := add_z z309 (show (1 : Int32).toInt = 1 by decide) (by omega) (by omega)
                    have hP : va_P (dC, dI) vwCl (mW ad N cI cZ cJ (wA (wA (wA (wA (wA u292 0 32 ((u292.1 0 32) - (1 : Int32))) 11 ((u292.1 0 12).toNatClampNeg) r305) 0 12 ((u292.1 0 12) + (1 : Int32))) 11 (((u292.1 0 12) + (1 : Int32)).toNatClampNeg) r312) 0 12 (((u292.1 0 12) + (1 : Int32)) + (1 : Int32)))) H := hP
                    have hD : va_D A (mW ad N cI cZ cJ (wA (wA (wA (wA (wA u292 0 32 ((u292.1 0 32) - (1 : Int32))) 11 ((u292.1 0 12).toNatClampNeg) r305) 0 12 ((u292.1 0 12) + (1 : Int32))) 11 (((u292.1 0 12) + (1 : Int32)).toNatClampNeg) r312) 0 12 (((u292.1 0 12) + (1 : Int32)) + (1 : Int32)))) := hD
                    refine tp_i (y := ((u292.1 0 12) + (1 : Int32))) (rfl) ?_
                    refine W.widen (k := 0) (n := 0) (by omega) (by omega) ?_
                    refine lv_pop hx hb dX13_sets_246 rfl ?_
                    refine lv_aload_n hx hb dX13_sets_247 rfl (lv_at hl 3 rfl) ?_
                    refine lv_bipush (v := 8) hx hb dX13_sets_248 (by decide) ?_
                    refine lv_iconst (v := 0) hx hb dX13_sets_250 (by decide) ?_
                    refine cu_i (rn_V (n := 2) (As := [.int 8, .int 0]) (rest := []) hx hb hml hown ht hKK hFx hP hD hS hA (c_m_say l dC dI cI cB cZ cJ cR tb H.size ad N (wA (wA (wA (wA (wA u292 0 32 ((u292.1 0 32) - (1 : Int32))) 11 ((u292.1 0 12).toNatClampNeg) r305) 0 12 ((u292.1 0 12) + (1 : Int32))) 11 (((u292.1 0 12) + (1 : Int32)).toNatClampNeg) r312) 0 12 (((u292.1 0 12) + (1 : Int32)) + (1 : Int32))) (8 : Int32) (0 : Int32) (show 0 ≤ (u292.1 0 15).toInt ∧ (u292.1 0 15).toInt < 16000 by omega)) tw_59 tw_60 (by decide +kernel) rfl rfl ⟨by show 0 + 1 ≤ 40 * n + 6; omega, by show 8 + (3 + 11) + 0 ≤ 28 * (40 * n + 6); omega⟩ (List.range (mW ad N cI cZ cJ (wA (wA (wA (wA (wA u292 0 32 ((u292.1 0 32) - (1 : Int32))) 11 ((u292.1 0 12).toNatClampNeg) r305) 0 12 ((u292.1 0 12) + (1 : Int32))) 11 (((u292.1 0 12) + (1 : Int32)).toNatClampNeg) r312) 0 12 (((u292.1 0 12) + (1 : Int32)) + (1 : Int32)))).length) (rg_map _) (mW_nd _ _ _ _ _ _) rfl rfl rfl rfl hl.1 rfl (Nat.le_of_ble_eq_true rfl) dX13_sets_251 ⟨Nat.le_of_ble_eq_true rfl, Nat.le_of_ble_eq_true rfl⟩) hP hD hS hA (fun r319 u318 H locs hw317 hP hD hS => ?_)
                    obtain ⟨rfl, rfl⟩ := hw317
                    have z320 : ((u292.1 0 15) + (1 : Int32)).toInt = (u292.1 0 15).toInt + 1 := add_z rfl (show (1 : Int32).toInt = 1 by decide) (by omega) (by omega)
                    have hP : va_P (dC, dI) vwCl (mW ad N cI cZ cJ (wA (wA (wA (wA (wA (wA (wA (wA u292 0 32 ((u292.1 0 32) - (1 : Int32))) 11 ((u292.1 0 12).toNatClampNeg) r305) 0 12 ((u292.1 0 12) + (1 : Int32))) 11 (((u292.1 0 12) + (1 : Int32)).toNatClampNeg) r312) 0 12 (((u292.1 0 12) + (1 : Int32)) + (1 : Int32))) 13 ((u292.1 0 15).toNatClampNeg) (8 : Int32)) 14 ((u292.1 0 15).toNatClampNeg) (0 : Int32)) 0 15 ((u292.1 0 15) + (1 : Int32)))) H := hP
                    have hD : va_D A (mW ad N cI cZ cJ (wA (wA (wA (wA (wA (wA (wA (wA u292 0 32 ((u292.1 0 32) - (1 : Int32))) 11 ((u292.1 0 12).toNatClampNeg) r305) 0 12 ((u292.1 0 12) + (1 : Int32))) 11 (((u292.1 0 12) + (1 : Int32)).toNatClampNeg) r312) 0 12 (((u292.1 0 12) + (1 : Int32)) + (1 : Int32))) 13 ((u292.1 0 15).toNatClampNeg) (8 : Int32)) 14 ((u292.1 0 15).toNatClampNeg) (0 : Int32)) 0 15 ((u292.1 0 15) + (1 : Int32)))) := hD
                    refine tp_i (y := (u292.1 0 15)) (rfl) ?_
                    refine W.widen (k := 0) (n := 0) (by omega) (by omega) ?_
                    obtain ⟨u321, hu322⟩ : ∃ z, z = (wA (wA (wA (wA (wA (wA (wA (wA u292 0 32 ((u292.1 0 32) - (1 : Int32))) 11 ((u292.1 0 12).toNatClampNeg) r305) 0 12 ((u292.1 0 12) + (1 : Int32))) 11 (((u292.1 0 12) + (1 : Int32)).toNatClampNeg) r312) 0 12 (((u292.1 0 12) + (1 : Int32)) + (1 : Int32))) 13 ((u292.1 0 15).toNatClampNeg) (8 : Int32)) 14 ((u292.1 0 15).toNatClampNeg) (0 : Int32)) 0 15 ((u292.1 0 15) + (1 : Int32))) := ⟨_, rfl⟩
                    have fr322 : FG [12, 15, 32] [0, 11, 13, 14] u292 u321 := by rw [hu322]; exact (FG.f (FG.a (FG.a (FG.f (FG.a (FG.f (FG.a (FG.f (FG.rf _) ((u292.1 0 32) - (1 : Int32)) (by decide)) ((u292.1 0 12).toNatClampNeg) r305 (by decide) (by decide)) ((u292.1 0 12) + (1 : Int32)) (by decide)) (((u292.1 0 12) + (1 : Int32)).toNatClampNeg) r312 (by decide) (by decide)) (((u292.1 0 12) + (1 : Int32)) + (1 : Int32)) (by decide)) ((u292.1 0 15).toNatClampNeg) (8 : Int32) (by decide) (by decide)) ((u292.1 0 15).toNatClampNeg) (0 : Int32) (by decide) (by decide)) ((u292.1 0 15) + (1 : Int32)) (by decide))
                    have q322_2 : (u321.1 0 2).toInt = (u292.1 0 2).toInt := congrArg Int32.toInt (fr322.2.1 2 (by decide))
                    have q322_4 : (u321.1 0 4).toInt = (u292.1 0 4).toInt := congrArg Int32.toInt (fr322.2.1 4 (by decide))
                    have q322_5 : (u321.1 0 5).toInt = (u292.1 0 5).toInt := congrArg Int32.toInt (fr322.2.1 5 (by decide))
                    have q322_12 : (u321.1 0 12).toInt = (((u292.1 0 12).toInt + 1) + 1) := by rw [hu322]; exact (show (((u292.1 0 12) + (1 : Int32)) + (1 : Int32)).toInt = (((u292.1 0 12).toInt + 1) + 1) from z316)
                    have q322_15 : (u321.1 0 15).toInt = ((u292.1 0 15).toInt + 1) := by rw [hu322]; exact (show ((u292.1 0 15) + (1 : Int32)).toInt = ((u292.1 0 15).toInt + 1) from z320)
                    have q322_22 : (u321.1 0 22).toInt = (u292.1 0 22).toInt := congrArg Int32.toInt (fr322.2.1 22 (by decide))
                    have q322_27 : (u321.1 0 27).toInt = (u292.1 0 27).toInt := congrArg Int32.toInt (fr322.2.1 27 (by decide))
                    have q322_28 : (u321.1 0 28).toInt = (u292.1 0 28).toInt := congrArg Int32.toInt (fr322.2.1 28 (by decide))
                    have q322_30 : (u321.1 0 30).toInt = (u292.1 0 30).toInt := congrArg Int32.toInt (fr322.2.1 30 (by decide))
                    have q322_31 : (u321.1 0 31).toInt = (u292.1 0 31).toInt := congrArg Int32.toInt (fr322.2.1 31 (by decide))
                    have q322_32 : (u321.1 0 32).toInt = ((u292.1 0 32).toInt - 1) := by rw [hu322]; exact (show ((u292.1 0 32) - (1 : Int32)).toInt = ((u292.1 0 32).toInt - 1) from z294)
                    have q322_33 : (u321.1 0 33).toInt = (u292.1 0 33).toInt := congrArg Int32.toInt (fr322.2.1 33 (by decide))
                    have q322_34 : (u321.1 0 34).toInt = (u292.1 0 34).toInt := congrArg Int32.toInt (fr322.2.1 34 (by decide))
                    have q322_39 : (u321.1 0 39).toInt = (u292.1 0 39).toInt := congrArg Int32.toInt (fr322.2.1 39 (by decide))
                    have q322_43 : (u321.1 0 43).toInt = (u292.1 0 43).toInt := congrArg Int32.toInt (fr322.2.1 43 (by decide))
                    have q322_47 : (u321.1 0 47).toInt = (u292.1 0 47).toInt := congrArg Int32.toInt (fr322.2.1 47 (by decide))
                    have q322_48 : (u321.1 0 48).toInt = (u292.1 0 48).toInt := congrArg Int32.toInt (fr322.2.1 48 (by decide))
                    have q322_49 : (u321.1 0 49).toInt = (u292.1 0 49).toInt := congrArg Int32.toInt (fr322.2.1 49 (by decide))
                    have q322_52 : (u321.1 0 52).toInt = (u292.1 0 52).toInt := congrArg Int32.toInt (fr322.2.1 52 (by decide))
                    have kc322 : ∀ j : Nat, (j : Int) < (u292.1 0 12).toInt → (u321.1 11) j = (u292.1 11) j := by rw [hu322]; exact (fun (j9 : Nat) hj9 => (Eq.trans (pk_un (by have := cl_z (a := ((u292.1 0 12) + (1 : Int32)).toInt) rfl (by omega); omega)) (pk_un (by have := cl_z (a := (u292.1 0 12).toInt) rfl (by omega); omega))))
                    have ko322 : ∀ j : Nat, (j : Int) < (u292.1 0 15).toInt → (u321.1 13) j = (u292.1 13) j := by rw [hu322]; exact (fun (j9 : Nat) hj9 => (pk_un (by have := cl_z (a := (u292.1 0 15).toInt) rfl (by omega); omega)))
                    have kg322 : ∀ j : Nat, (j : Int) < (u292.1 0 15).toInt → (u321.1 14) j = (u292.1 14) j := by rw [hu322]; exact (fun (j9 : Nat) hj9 => (pk_un (by have := cl_z (a := (u292.1 0 15).toInt) rfl (by omega); omega)))
                    rw [← hu322] at hP hD
                    refine lv_pop hx hb dX13_sets_254 rfl ?_
                    refine lv_goto (tgt := 264) hx hb dX13_sets_255 (by decide) ?_
                    refine lv_aload_n hx hb dX13_sets_264 rfl (lv_at hl 3 rfl) ?_
                    refine lv_dup hx hb dX13_sets_265 rfl ?_
                    refine va_get (D := (dC, dI)) (ci := 16) (fs := mF ad u321) (v := .int (u321.1 0 48)) (C := RX13) (T := TX13) (N := 124) hx hb ht itX13 hown hK hP 0 rfl rfl 48 (by decide) (ht _ tw_31) (fun _ h9 => h9) rfl dX13_sets_266 ?_
                    refine lv_iconst (v := 1) hx hb dX13_sets_269 (by decide) ?_
                    refine lv_isub hx hb dX13_sets_270 ?_
                    have z323 : ((u321.1 0 48) - (1 : Int32)).toInt = (u321.1 0 48).toInt - 1 := sub_z rfl (show (1 : Int32).toInt = 1 by decide) (by omega) (by omega)
                    refine va_put (D := (dC, dI)) (ci := 16) (fs := mF ad u321) (v := .int ((u321.1 0 48) - (1 : Int32))) (ty := .int) (C := RX13) (T := TX13) (N := 124) hx hb ht itX13 tyX13 tyX13_ok nmX13 hown hK hP hD hS 0 rfl rfl 48 (by decide) (ht _ tw_31) (fun _ h9 => h9) rfl (by decide +kernel) rfl rfl (Nat.le_of_ble_eq_true rfl) dX13_sets_271 (fun H locs hP hD hS => ?_)
                    have hP := cP_ (mw_48 ad N cI cZ cJ u321 ((u321.1 0 48) - (1 : Int32))) hP
                    have hD := cD_ (mw_48 ad N cI cZ cJ u321 ((u321.1 0 48) - (1 : Int32))) hD
                    refine vx_ret ?_
                    exact W.vret hx hb hr (fun t ht9 hW => ⟨⟨(wA u321 0 48 ((u321.1 0 48) - (1 : Int32))), rfl, ⟨(FG.f (FG.tr (FG.tr (FG.f (FG.f (FG.a (FG.tr (FG.tr (FG.tr (FG.rf _) (FG.up fr241 (by decide) (by decide))) (FG.up fr248 (by decide) (by decide))) (FG.up fr271 (by decide) (by decide))) ((u270.1 0 12).toNatClampNeg) r277 (by decide) (by decide)) ((u270.1 0 12) + (1 : Int32)) (by decide)) ((u270.1 0 32) + (1 : Int32)) (by decide)) (FG.up fr291 (by decide) (by decide))) (FG.up fr322 (by decide) (by decide))) ((u321.1 0 48) - (1 : Int32)) (by decide)), (show (v.1 0 47).toInt + 1 ≤ (u321.1 0 47).toInt ∧ (u321.1 0 47).toInt ≤ 1500 by omega), (show (v.1 0 49).toInt ≠ (v.1 0 47).toInt by omega), (show (v.1 0 12).toInt ≤ (u321.1 0 12).toInt ∧ (u321.1 0 12).toInt - 15 * (u321.1 0 47).toInt ≤ (v.1 0 12).toInt - 15 * (v.1 0 47).toInt by omega), (show (v.1 0 15).toInt ≤ (u321.1 0 15).toInt ∧ (u321.1 0 15).toInt - 10 * (u321.1 0 47).toInt ≤ (v.1 0 15).toInt - 10 * (v.1 0 47).toInt by omega), (show (v.1 0 43).toInt ≤ (u321.1 0 43).toInt ∧ (u321.1 0 43).toInt - 15 * (u321.1 0 47).toInt ≤ (v.1 0 43).toInt - 15 * (v.1 0 47).toInt by omega), (show (v.1 0 39).toInt ≤ (u321.1 0 39).toInt ∧ (u321.1 0 39).toInt - 1 * (u321.1 0 47).toInt ≤ (v.1 0 39).toInt - 1 * (v.1 0 47).toInt by omega), (show (u321.1 0 32).toInt = (v.1 0 32).toInt ∧ ((u321.1 0 48) - (1 : Int32)).toInt = (v.1 0 48).toInt by omega), (show (v.1 0 33).toInt ≤ (u321.1 0 33).toInt ∧ (u321.1 0 33).toInt ≤ 500 by omega), (fun (j9 : Nat) hj9 => (Eq.trans (kc322 j9 (by omega)) (Eq.trans (kc291 j9 (by omega)) (Eq.trans (pk_un (by have := cl_z (a := (u270.1 0 12).toInt) rfl (by omega); omega)) (Eq.trans (kc271 j9 (by omega)) (Eq.trans (congrFun (fr248.2.2 11 (by decide)) j9) (congrFun (fr241.2.2 11 (by decide)) j9))))))), (fun (j9 : Nat) hj9 => (Eq.trans (ko322 j9 (by omega)) (Eq.trans (ko291 j9 (by omega)) (Eq.trans (congrFun (fr271.2.2 13 (by decide)) j9) (Eq.trans (congrFun (fr248.2.2 13 (by decide)) j9) (congrFun (fr241.2.2 13 (by decide)) j9)))))), (fun (j9 : Nat) hj9 => (Eq.trans (kg322 j9 (by omega)) (Eq.trans (kg291 j9 (by omega)) (Eq.trans (congrFun (fr271.2.2 14 (by decide)) j9) (Eq.trans (congrFun (fr248.2.2 14 (by decide)) j9) (congrFun (fr241.2.2 14 (by decide)) j9)))))), (show NI 35 u321 from NI.fr (fl := [12, 15, 32]) (al := [0, 11, 13, 14]) fr322 (by decide) n35291)⟩, by rw [ht9]; exact hP, hD⟩, hS.F ht9⟩) hS.2.2 dX13_sets_274
                · have z324 : pd.toInt ≠ 0 := ne_z rfl (show (0 : Int32).toInt = 0 by decide) h295
                  exfalso; omega
              · have z325 : pd.toInt ≠ 0 := ne_z rfl (show (0 : Int32).toInt = 0 by decide) h286
                exfalso; omega
            · have z326 : pd.toInt ≠ 0 := ne_z rfl (show (0 : Int32).toInt = 0 by decide) h284
              exfalso; omega
          · have z327 : pd.toInt ≠ 0 := ne_z rfl (show (0 : Int32).toInt = 0 by decide) h282
            exfalso; omega
