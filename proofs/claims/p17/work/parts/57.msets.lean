theorem dX13_sets_0 : decode cX13_sets 0 = .ok (.iload_n 3, 1) := by decide +kernel
theorem dX13_sets_1 : decode cX13_sets 1 = .ok (.ifCond .eq 7, 3) := by decide +kernel
theorem dX13_sets_8 : decode cX13_sets 8 = .ok (.iconst 0, 1) := by decide +kernel
theorem dX13_sets_9 : decode cX13_sets 9 = .ok (.iload 4, 2) := by decide +kernel
theorem dX13_sets_11 : decode cX13_sets 11 = .ok (.ifCond .ne 7, 3) := by decide +kernel
theorem dX13_sets_18 : decode cX13_sets 18 = .ok (.iconst 1, 1) := by decide +kernel
theorem dX13_sets_19 : decode cX13_sets 19 = .ok (.iadd, 1) := by decide +kernel
theorem dX13_sets_20 : decode cX13_sets 20 = .ok (.istore 5, 2) := by decide +kernel
theorem dX13_sets_22 : decode cX13_sets 22 = .ok (.aload_n 0, 1) := by decide +kernel
theorem dX13_sets_23 : decode cX13_sets 23 = .ok (.iload 5, 2) := by decide +kernel
theorem dX13_sets_25 : decode cX13_sets 25 = .ok (.invokevirtual 298, 3) := by decide +kernel
theorem tw_88 : (.code yX13_slots cX13_slots 3 (some .int) : Cond) ∈ tw_W := tw_in (by decide +kernel) (by decide +kernel)
theorem tw_89 : ∀ w ∈ ([.methodLink RX13 298 yX13_slots, .instanceMethod yX13_slots, .selects RX13 yX13_slots yX13_slots, .initialized RX13] : List Cond), w ∈ tw_W := tw_all (by decide +kernel)
theorem dX13_sets_28 : decode cX13_sets 28 = .ok (.istore 6, 2) := by decide +kernel
theorem dX13_sets_30 : decode cX13_sets 30 = .ok (.iload 6, 2) := by decide +kernel
theorem dX13_sets_32 : decode cX13_sets 32 = .ok (.iload_n 3, 1) := by decide +kernel
theorem dX13_sets_33 : decode cX13_sets 33 = .ok (.ifCond .eq 7, 3) := by decide +kernel
theorem dX13_sets_40 : decode cX13_sets 40 = .ok (.iconst 0, 1) := by decide +kernel
theorem dX13_sets_41 : decode cX13_sets 41 = .ok (.iadd, 1) := by decide +kernel
theorem dX13_sets_42 : decode cX13_sets 42 = .ok (.istore 7, 2) := by decide +kernel
theorem dX13_sets_44 : decode cX13_sets 44 = .ok (.aload_n 0, 1) := by decide +kernel
theorem dX13_sets_45 : decode cX13_sets 45 = .ok (.iload 4, 2) := by decide +kernel
theorem dX13_sets_47 : decode cX13_sets 47 = .ok (.invokevirtual 301, 3) := by decide +kernel
theorem tw_90 : (.code yX13_remember cX13_remember 2 none : Cond) ∈ tw_W := tw_in (by decide +kernel) (by decide +kernel)
theorem tw_91 : ∀ w ∈ ([.methodLink RX13 301 yX13_remember, .instanceMethod yX13_remember, .selects RX13 yX13_remember yX13_remember, .initialized RX13] : List Cond), w ∈ tw_W := tw_all (by decide +kernel)
theorem dX13_sets_50 : decode cX13_sets 50 = .ok (.aload_n 0, 1) := by decide +kernel
theorem dX13_sets_51 : decode cX13_sets 51 = .ok (.invokevirtual 165, 3) := by decide +kernel
theorem dX13_sets_54 : decode cX13_sets 54 = .ok (.iload_n 3, 1) := by decide +kernel
theorem dX13_sets_55 : decode cX13_sets 55 = .ok (.ifCond .eq 72, 3) := by decide +kernel
theorem dX13_sets_127 : decode cX13_sets 127 = .ok (.iload 4, 2) := by decide +kernel
theorem dX13_sets_129 : decode cX13_sets 129 = .ok (.ifCond .eq 9, 3) := by decide +kernel
theorem dX13_sets_132 : decode cX13_sets 132 = .ok (.aload_n 0, 1) := by decide +kernel
theorem dX13_sets_133 : decode cX13_sets 133 = .ok (.iload_n 1, 1) := by decide +kernel
theorem dX13_sets_134 : decode cX13_sets 134 = .ok (.iload_n 2, 1) := by decide +kernel
theorem dX13_sets_135 : decode cX13_sets 135 = .ok (.invokevirtual 268, 3) := by decide +kernel
theorem tw_92 : (.code yX13_fetch cX13_fetch 3 none : Cond) ∈ tw_W := tw_in (by decide +kernel) (by decide +kernel)
theorem tw_93 : ∀ w ∈ ([.methodLink RX13 268 yX13_fetch, .instanceMethod yX13_fetch, .selects RX13 yX13_fetch yX13_fetch, .initialized RX13] : List Cond), w ∈ tw_W := tw_all (by decide +kernel)
theorem dX13_sets_138 : decode cX13_sets 138 = .ok (.iload 4, 2) := by decide +kernel
theorem dX13_sets_140 : decode cX13_sets 140 = .ok (.ifCond .eq 20, 3) := by decide +kernel
theorem dX13_sets_143 : decode cX13_sets 143 = .ok (.aload_n 0, 1) := by decide +kernel
theorem dX13_sets_144 : decode cX13_sets 144 = .ok (.bipush 10, 2) := by decide +kernel
theorem dX13_sets_146 : decode cX13_sets 146 = .ok (.iload 7, 2) := by decide +kernel
theorem dX13_sets_148 : decode cX13_sets 148 = .ok (.invokestatic 272, 3) := by decide +kernel
theorem dX13_sets_151 : decode cX13_sets 151 = .ok (.bipush 8, 2) := by decide +kernel
theorem dX13_sets_153 : decode cX13_sets 153 = .ok (.invokestatic 278, 3) := by decide +kernel
theorem dX13_sets_156 : decode cX13_sets 156 = .ok (.invokevirtual 111, 3) := by decide +kernel
theorem dX13_sets_159 : decode cX13_sets 159 = .ok (.pop, 1) := by decide +kernel
theorem dX13_sets_160 : decode cX13_sets 160 = .ok (.aload_n 0, 1) := by decide +kernel
theorem dX13_sets_161 : decode cX13_sets 161 = .ok (.dup, 1) := by decide +kernel
theorem dX13_sets_162 : decode cX13_sets 162 = .ok (.getfield 174, 3) := by decide +kernel
theorem dX13_sets_165 : decode cX13_sets 165 = .ok (.iload 5, 2) := by decide +kernel
theorem dX13_sets_167 : decode cX13_sets 167 = .ok (.iadd, 1) := by decide +kernel
theorem dX13_sets_168 : decode cX13_sets 168 = .ok (.putfield 174, 3) := by decide +kernel
theorem dX13_sets_171 : decode cX13_sets 171 = .ok (.aload_n 0, 1) := by decide +kernel
theorem dX13_sets_172 : decode cX13_sets 172 = .ok (.invokevirtual 284, 3) := by decide +kernel
theorem dX13_sets_175 : decode cX13_sets 175 = .ok (.aload_n 0, 1) := by decide +kernel
theorem dX13_sets_176 : decode cX13_sets 176 = .ok (.dup, 1) := by decide +kernel
theorem dX13_sets_177 : decode cX13_sets 177 = .ok (.getfield 174, 3) := by decide +kernel
theorem dX13_sets_180 : decode cX13_sets 180 = .ok (.iload 5, 2) := by decide +kernel
theorem dX13_sets_182 : decode cX13_sets 182 = .ok (.isub, 1) := by decide +kernel
theorem dX13_sets_183 : decode cX13_sets 183 = .ok (.putfield 174, 3) := by decide +kernel
theorem dX13_sets_186 : decode cX13_sets 186 = .ok (.iload 4, 2) := by decide +kernel
theorem dX13_sets_188 : decode cX13_sets 188 = .ok (.ifCond .eq 25, 3) := by decide +kernel
theorem dX13_sets_191 : decode cX13_sets 191 = .ok (.aload_n 0, 1) := by decide +kernel
theorem dX13_sets_192 : decode cX13_sets 192 = .ok (.iconst 5, 1) := by decide +kernel
theorem dX13_sets_193 : decode cX13_sets 193 = .ok (.iload 7, 2) := by decide +kernel
theorem dX13_sets_195 : decode cX13_sets 195 = .ok (.invokestatic 272, 3) := by decide +kernel
theorem dX13_sets_198 : decode cX13_sets 198 = .ok (.bipush 8, 2) := by decide +kernel
theorem dX13_sets_200 : decode cX13_sets 200 = .ok (.invokestatic 265, 3) := by decide +kernel
theorem dX13_sets_203 : decode cX13_sets 203 = .ok (.invokevirtual 111, 3) := by decide +kernel
theorem dX13_sets_206 : decode cX13_sets 206 = .ok (.pop, 1) := by decide +kernel
theorem dX13_sets_207 : decode cX13_sets 207 = .ok (.aload_n 0, 1) := by decide +kernel
theorem dX13_sets_208 : decode cX13_sets 208 = .ok (.iload 4, 2) := by decide +kernel
theorem dX13_sets_210 : decode cX13_sets 210 = .ok (.invokevirtual 304, 3) := by decide +kernel
theorem tw_94 : (.code yX13_operate cX13_operate 2 none : Cond) ∈ tw_W := tw_in (by decide +kernel) (by decide +kernel)
theorem tw_95 : ∀ w ∈ ([.methodLink RX13 304 yX13_operate, .instanceMethod yX13_operate, .selects RX13 yX13_operate yX13_operate, .initialized RX13] : List Cond), w ∈ tw_W := tw_all (by decide +kernel)
theorem dX13_sets_213 : decode cX13_sets 213 = .ok (.iload_n 3, 1) := by decide +kernel
theorem dX13_sets_214 : decode cX13_sets 214 = .ok (.ifCond .eq 44, 3) := by decide +kernel
theorem dX13_sets_258 : decode cX13_sets 258 = .ok (.aload_n 0, 1) := by decide +kernel
theorem dX13_sets_259 : decode cX13_sets 259 = .ok (.iload_n 1, 1) := by decide +kernel
theorem dX13_sets_260 : decode cX13_sets 260 = .ok (.iload_n 2, 1) := by decide +kernel
theorem dX13_sets_261 : decode cX13_sets 261 = .ok (.invokevirtual 307, 3) := by decide +kernel
theorem tw_96 : (.code yX13_store cX13_store 3 none : Cond) ∈ tw_W := tw_in (by decide +kernel) (by decide +kernel)
theorem tw_97 : ∀ w ∈ ([.methodLink RX13 307 yX13_store, .instanceMethod yX13_store, .selects RX13 yX13_store yX13_store, .initialized RX13] : List Cond), w ∈ tw_W := tw_all (by decide +kernel)
theorem dX13_sets_264 : decode cX13_sets 264 = .ok (.aload_n 0, 1) := by decide +kernel
theorem dX13_sets_265 : decode cX13_sets 265 = .ok (.dup, 1) := by decide +kernel
theorem dX13_sets_266 : decode cX13_sets 266 = .ok (.getfield 151, 3) := by decide +kernel
theorem dX13_sets_269 : decode cX13_sets 269 = .ok (.iconst 1, 1) := by decide +kernel
theorem dX13_sets_270 : decode cX13_sets 270 = .ok (.isub, 1) := by decide +kernel
theorem dX13_sets_271 : decode cX13_sets 271 = .ok (.putfield 151, 3) := by decide +kernel
theorem dX13_sets_274 : decode cX13_sets 274 = .ok (.return_, 1) := by decide +kernel
theorem dX13_sets_14 : decode cX13_sets 14 = .ok (.iconst 0, 1) := by decide +kernel
theorem dX13_sets_15 : decode cX13_sets 15 = .ok (.goto 4, 3) := by decide +kernel
theorem dX13_sets_4 : decode cX13_sets 4 = .ok (.iconst 1, 1) := by decide +kernel
theorem dX13_sets_5 : decode cX13_sets 5 = .ok (.goto 4, 3) := by decide +kernel
theorem dX13_sets_36 : decode cX13_sets 36 = .ok (.iconst 1, 1) := by decide +kernel
theorem dX13_sets_37 : decode cX13_sets 37 = .ok (.goto 4, 3) := by decide +kernel
theorem dX13_sets_58 : decode cX13_sets 58 = .ok (.aload_n 0, 1) := by decide +kernel
theorem dX13_sets_59 : decode cX13_sets 59 = .ok (.aload_n 0, 1) := by decide +kernel
theorem dX13_sets_60 : decode cX13_sets 60 = .ok (.bipush 10, 2) := by decide +kernel
theorem dX13_sets_62 : decode cX13_sets 62 = .ok (.bipush 10, 2) := by decide +kernel
theorem dX13_sets_64 : decode cX13_sets 64 = .ok (.iconst 0, 1) := by decide +kernel
theorem dX13_sets_65 : decode cX13_sets 65 = .ok (.invokestatic 219, 3) := by decide +kernel
theorem dX13_sets_68 : decode cX13_sets 68 = .ok (.invokevirtual 111, 3) := by decide +kernel
theorem dX13_sets_71 : decode cX13_sets 71 = .ok (.iload_n 2, 1) := by decide +kernel
theorem dX13_sets_72 : decode cX13_sets 72 = .ok (.iconst 3, 1) := by decide +kernel
theorem dX13_sets_73 : decode cX13_sets 73 = .ok (.invokevirtual 216, 3) := by decide +kernel
theorem dX13_sets_76 : decode cX13_sets 76 = .ok (.aload_n 0, 1) := by decide +kernel
theorem dX13_sets_77 : decode cX13_sets 77 = .ok (.bipush 10, 2) := by decide +kernel
theorem dX13_sets_79 : decode cX13_sets 79 = .ok (.iload 6, 2) := by decide +kernel
theorem dX13_sets_81 : decode cX13_sets 81 = .ok (.invokestatic 272, 3) := by decide +kernel
theorem dX13_sets_84 : decode cX13_sets 84 = .ok (.bipush 8, 2) := by decide +kernel
theorem dX13_sets_86 : decode cX13_sets 86 = .ok (.invokestatic 278, 3) := by decide +kernel
theorem dX13_sets_89 : decode cX13_sets 89 = .ok (.invokevirtual 111, 3) := by decide +kernel
theorem dX13_sets_92 : decode cX13_sets 92 = .ok (.pop, 1) := by decide +kernel
theorem dX13_sets_93 : decode cX13_sets 93 = .ok (.iload 4, 2) := by decide +kernel
theorem dX13_sets_95 : decode cX13_sets 95 = .ok (.ifCond .eq 16, 3) := by decide +kernel
theorem dX13_sets_98 : decode cX13_sets 98 = .ok (.aload_n 0, 1) := by decide +kernel
theorem dX13_sets_99 : decode cX13_sets 99 = .ok (.bipush 10, 2) := by decide +kernel
theorem dX13_sets_101 : decode cX13_sets 101 = .ok (.iconst 0, 1) := by decide +kernel
theorem dX13_sets_102 : decode cX13_sets 102 = .ok (.bipush 10, 2) := by decide +kernel
theorem dX13_sets_104 : decode cX13_sets 104 = .ok (.invokestatic 265, 3) := by decide +kernel
theorem dX13_sets_107 : decode cX13_sets 107 = .ok (.invokevirtual 111, 3) := by decide +kernel
theorem dX13_sets_110 : decode cX13_sets 110 = .ok (.pop, 1) := by decide +kernel
theorem dX13_sets_111 : decode cX13_sets 111 = .ok (.iload 4, 2) := by decide +kernel
theorem dX13_sets_113 : decode cX13_sets 113 = .ok (.ifCond .eq 25, 3) := by decide +kernel
theorem dX13_sets_116 : decode cX13_sets 116 = .ok (.aload_n 0, 1) := by decide +kernel
theorem dX13_sets_117 : decode cX13_sets 117 = .ok (.bipush 7, 2) := by decide +kernel
theorem dX13_sets_119 : decode cX13_sets 119 = .ok (.iconst 0, 1) := by decide +kernel
theorem dX13_sets_120 : decode cX13_sets 120 = .ok (.invokevirtual 210, 3) := by decide +kernel
theorem dX13_sets_123 : decode cX13_sets 123 = .ok (.pop, 1) := by decide +kernel
theorem dX13_sets_124 : decode cX13_sets 124 = .ok (.goto 14, 3) := by decide +kernel
theorem dX13_sets_217 : decode cX13_sets 217 = .ok (.aload_n 0, 1) := by decide +kernel
theorem dX13_sets_218 : decode cX13_sets 218 = .ok (.bipush 6, 2) := by decide +kernel
theorem dX13_sets_220 : decode cX13_sets 220 = .ok (.iload 6, 2) := by decide +kernel
theorem dX13_sets_222 : decode cX13_sets 222 = .ok (.invokestatic 272, 3) := by decide +kernel
theorem dX13_sets_225 : decode cX13_sets 225 = .ok (.bipush 8, 2) := by decide +kernel
theorem dX13_sets_227 : decode cX13_sets 227 = .ok (.invokestatic 265, 3) := by decide +kernel
theorem dX13_sets_230 : decode cX13_sets 230 = .ok (.invokevirtual 111, 3) := by decide +kernel
theorem dX13_sets_233 : decode cX13_sets 233 = .ok (.pop, 1) := by decide +kernel
theorem dX13_sets_234 : decode cX13_sets 234 = .ok (.aload_n 0, 1) := by decide +kernel
theorem dX13_sets_235 : decode cX13_sets 235 = .ok (.bipush 10, 2) := by decide +kernel
theorem dX13_sets_237 : decode cX13_sets 237 = .ok (.iconst 0, 1) := by decide +kernel
theorem dX13_sets_238 : decode cX13_sets 238 = .ok (.bipush 6, 2) := by decide +kernel
theorem dX13_sets_240 : decode cX13_sets 240 = .ok (.invokestatic 278, 3) := by decide +kernel
theorem dX13_sets_243 : decode cX13_sets 243 = .ok (.invokevirtual 111, 3) := by decide +kernel
theorem dX13_sets_246 : decode cX13_sets 246 = .ok (.pop, 1) := by decide +kernel
theorem dX13_sets_247 : decode cX13_sets 247 = .ok (.aload_n 0, 1) := by decide +kernel
theorem dX13_sets_248 : decode cX13_sets 248 = .ok (.bipush 8, 2) := by decide +kernel
theorem dX13_sets_250 : decode cX13_sets 250 = .ok (.iconst 0, 1) := by decide +kernel
theorem dX13_sets_251 : decode cX13_sets 251 = .ok (.invokevirtual 210, 3) := by decide +kernel
theorem dX13_sets_254 : decode cX13_sets 254 = .ok (.pop, 1) := by decide +kernel
theorem dX13_sets_255 : decode cX13_sets 255 = .ok (.goto 9, 3) := by decide +kernel
theorem om_ce871d329a {x0 x1 : Int} (h0 : 0 ≤ x0 ∧ x0 ≤ 500) (h1 : 0 ≤ x1 ∧ x0 + x1 ≤ 500) : 0 ≤ x1 ∧ x1 ≤ 2000 := by omega
theorem om_9f427a292a : 0 ≤ 1 ∧ 1 ≤ 8 := by omega
theorem om_7480f1d756 {x0 x1 x2 : Int} (h0 : 0 ≤ x0 ∧ x0 ≤ 500) (h1 : 0 ≤ x1 ∧ x0 + x1 ≤ 500) (h2 : x2 = x0 + x1) : -2147483648 ≤ x2 + 0 := by omega
theorem om_f880433be5 {x0 x1 x2 : Int} (h0 : 0 ≤ x0 ∧ x1 + x0 ≤ 500) (h1 : x2 = x1 + x0) : x2 + 0 < 2147483648 := by omega
theorem om_5fecd403fd {x0 x1 x2 x3 : Int} (h0 : 0 ≤ x0 ∧ x0 ≤ 1500) (h1 : 0 ≤ x1 ∧ x1 ≤ 15 * x0 + 0) (h2 : x2 = x0) (h3 : x3 = x2) : 0 ≤ x3 ∧ x3 ≤ 1500 := by omega
theorem om_68f540929a {x0 x1 x2 : Int} (h0 : 0 ≤ x0 ∧ x0 ≤ 40) (h1 : x1 = x0) (h2 : x2 = x1) : 0 ≤ x2 ∧ x2 ≤ 40 := by omega
theorem om_0978fa5f20 {n0 : Nat} : 2 + 1 ≤ 40 * n0 + 6 := by omega
theorem om_294f7df5f2 {n0 : Nat} : 8 + (1 + 11) + 42 ≤ 28 * (40 * n0 + 6) := by omega
theorem om_29681806c1 {x0 x1 x2 : Int} (h0 : x0 = x1) (h1 : x2 = x0) : -2147483648 ≤ (x2) + 1 := by omega
theorem om_d17f6a6aca {x0 x1 x2 : Int} (h0 : 0 ≤ x0 ∧ x0 ≤ 1500) (h1 : x1 = x0) (h2 : x2 = x1) : (x2) + 1 < 2147483648 := by omega
theorem om_fbac2a78d1 {x0 x1 x2 : Int} (h0 : 0 ≤ x0 ∧ x0 ≤ 40) (h1 : x1 = x0) (h2 : x2 = x1) : -2147483648 ≤ (x2) + 1 := by omega
theorem om_241463b4b2 {x0 x1 x2 : Int} (h0 : 0 ≤ x0 ∧ x0 ≤ 40) (h1 : x1 = x0) (h2 : x2 = x1) : (x2) + 1 < 2147483648 := by omega
theorem om_09bd01a305 {x0 : Int} (h0 : x0 ≠ 0) (h1 : x0 = 0) : False := by omega
theorem om_52f71fb3a8 {x0 x1 x2 x3 : Int} (h0 : 0 ≤ x0 ∧ x0 ≤ 1500) (h1 : 0 ≤ x1 ∧ x1 ≤ 15 * x0 + 2) (h2 : x2 = x1) (h3 : x3 = x2) : 0 ≤ x3 ∧ x3 ≤ 23980 := by omega
theorem om_a7c71214a0 {x0 x1 x2 x3 : Int} (h0 : 0 ≤ x0 ∧ x0 ≤ 1500) (h1 : 0 ≤ x1 ∧ x1 ≤ 10 * x0 + 0) (h2 : x2 = x1) (h3 : x3 = x2) : 0 ≤ x3 ∧ x3 ≤ 15980 := by omega
theorem om_a2ff1aaf14 {x0 x1 x2 x3 : Int} (h0 : 0 ≤ x0 ∧ x0 ≤ 1500) (h1 : 0 ≤ x1 ∧ x1 ≤ 15 * x0 + 0) (h2 : x2 = x1) (h3 : x3 = x2) : 0 ≤ x3 ∧ x3 ≤ 23980 := by omega
theorem om_7cbb2eb25c {x0 x1 : Int} (h0 : 0 ≤ x0 ∨ (0 ≤ x1 ∧ x1 < 60)) : 0 ≤ x0 ∨ (0 ≤ x1 ∧ x1 < 60) := by omega
theorem om_4e9227252f {n0 : Nat} : 8 + (3 + 11) + 46 ≤ 28 * (40 * n0 + 6) := by omega
theorem om_9db55c6b2d {x0 x1 x2 x3 x4 : Int} (h0 : 0 ≤ x0 ∧ x0 ≤ 1500) (h1 : 0 ≤ x1 ∧ x1 ≤ 15 * x0 + 2) (h2 : x2 = x1) (h3 : x3 = x2) (h4 : x3 ≤ x4 ∧ x4 ≤ x3 + 2) : 0 ≤ x4 ∧ x4 < 24000 := by omega
theorem om_54b1c4c975 {x0 x1 x2 x3 x4 : Int} (h0 : 0 ≤ x0 ∧ x0 ≤ 15 * x1 + 2) (h1 : x2 = x0) (h2 : x3 = x2) (h3 : x3 ≤ x4 ∧ x4 ≤ x3 + 2) : -2147483648 ≤ (x4) + 1 := by omega
theorem om_c6e1874fcf {x0 x1 x2 x3 x4 : Int} (h0 : 0 ≤ x0 ∧ x0 ≤ 1500) (h1 : 0 ≤ x1 ∧ x1 ≤ 15 * x0 + 2) (h2 : x2 = x1) (h3 : x3 = x2) (h4 : x3 ≤ x4 ∧ x4 ≤ x3 + 2) : (x4) + 1 < 2147483648 := by omega
theorem om_42f7e3e398 {x0 x1 x2 x3 x4 : Int} (h0 : 0 ≤ x0 ∧ x1 + x0 ≤ 500) (h1 : x2 = x0) (h2 : x3 = x2) (h3 : x4 = x3) : -2147483648 ≤ (x4) + 1 := by omega
theorem om_c342783a8a {x0 x1 x2 x3 x4 : Int} (h0 : 0 ≤ x0 ∧ x0 ≤ 500) (h1 : 0 ≤ x1 ∧ x0 + x1 ≤ 500) (h2 : x2 = x1) (h3 : x3 = x2) (h4 : x4 = x3) : (x4) + 1 < 2147483648 := by omega
theorem om_f9013cab6d {x0 x2 x3 : Int} {n1 : Nat} (h0 : 40 ≤ x0 + (n1 : Int)) (h1 : x2 = x0) (h2 : x3 = x2) (h3 : x3 < 40) : 1 ≤ (n1 : Int) := by omega
theorem om_03ab3bcbd6 {x0 x2 x3 x4 x5 : Int} {n1 n6 : Nat} (h0 : 40 ≤ x0 + (n1 : Int)) (h1 : x2 = x0) (h2 : x3 = x2) (h3 : x4 = (x3) + 1) (h4 : x5 = x4) (h5 : n1 = n6 + 1) : 40 ≤ x5 + (n6 : Int) := by omega
theorem om_5ab85dfdfa {x0 x1 x2 x3 x4 x5 : Int} (h0 : 0 ≤ x0 ∧ x0 ≤ 15 * x1 + 0) (h1 : x2 = x1) (h2 : x3 = x2) (h3 : x4 = (x3) + 1) (h4 : x3 < 1500) (h5 : x5 = x4) : 0 ≤ x5 ∧ x5 ≤ 1500 := by omega
theorem om_c73200f2a3 {x0 x1 x2 x3 x4 : Int} (h0 : 0 ≤ x0 ∧ x0 ≤ 40) (h1 : x1 = x0) (h2 : x2 = x1) (h3 : x3 = (x2) + 1) (h4 : x2 < 40) (h5 : x4 = x3) : 0 ≤ x4 ∧ x4 ≤ 40 := by omega
theorem om_a369f3fea6 {x0 x1 x2 x3 : Int} (h0 : 0 ≤ x0 ∧ x0 ≤ 500) (h1 : x1 = x0) (h2 : x2 = x1) (h3 : x3 = x2) : 0 ≤ x3 ∧ x3 ≤ 500 := by omega
theorem om_50fe633fd5 {x0 x1 x2 x3 : Int} (h0 : 0 ≤ x0 ∧ x0 ≤ 500) (h1 : x0 ≤ x1 ∧ x1 ≤ 500) (h2 : x2 = x1) (h3 : x3 = x2) : 0 ≤ x3 ∧ x3 ≤ 500 := by omega
theorem om_4064dde58e {x0 x1 x2 x3 x4 x5 x6 x7 x8 x9 x10 x11 x12 x13 x14 x15 x16 : Int} (h0 : 0 ≤ x0 ∧ x1 + x0 ≤ 500) (h1 : x2 = x1) (h2 : x3 = x0) (h3 : x4 = x5) (h4 : (x1 + x0 + 1 ≤ x6 ∧ x7 = x8) ∨ x7 = x5) (h5 : x9 ≤ x6 ∧ x6 ≤ 500) (h6 : x10 = x2) (h7 : x11 = x3) (h8 : x12 = x4) (h9 : x13 = x7) (h10 : x13 ≠ x12) (h11 : x14 = x10) (h12 : x15 = x11) (h13 : x16 = (x15) + 1) : 0 ≤ x16 ∧ x14 + x16 ≤ 500 := by omega
theorem om_bdc2355df9 {x0 x1 x2 x3 x4 x5 x6 x7 x8 x9 : Int} (h0 : 0 ≤ x0 ∧ x0 ≤ 15 * x1 + 2) (h1 : x2 = x0) (h2 : x3 = x1) (h3 : x4 = x2) (h4 : x5 = x3) (h5 : x6 = (x5) + 1) (h6 : x7 = x6) (h7 : x4 ≤ x8 ∧ x8 ≤ x4 + 2) (h8 : x9 = (x8) + 1) : 0 ≤ x9 ∧ x9 ≤ 15 * x7 + 2 := by omega
theorem om_6bec2597f8 {x0 x1 x2 x3 x4 x5 x6 x7 x8 : Int} (h0 : 0 ≤ x0 ∧ x0 ≤ 10 * x1 + 0) (h1 : x2 = x0) (h2 : x3 = x1) (h3 : x4 = x2) (h4 : x5 = x3) (h5 : x6 = (x5) + 1) (h6 : x7 = x6) (h7 : x8 = x4 + 1) : 0 ≤ x8 ∧ x8 ≤ 10 * x7 + 0 := by omega
theorem om_fb09a08332 {x0 x1 x2 x3 x4 x5 x6 x7 x8 : Int} (h0 : 0 ≤ x0 ∧ x0 ≤ 15 * x1 + 0) (h1 : x2 = x0) (h2 : x3 = x1) (h3 : x4 = x2) (h4 : x5 = x3) (h5 : x6 = (x5) + 1) (h6 : x7 = x6) (h7 : x4 ≤ x8 ∧ x8 ≤ x4 + 2) : 0 ≤ x8 ∧ x8 ≤ 15 * x7 + 0 := by omega
theorem om_2226641632 {x0 x1 x2 x3 x4 x5 x6 x7 x8 : Int} (h0 : 0 ≤ x0 ∧ x0 ≤ 1 * x1 + 0) (h1 : x2 = x0) (h2 : x3 = x1) (h3 : x4 = x2) (h4 : x5 = x3) (h5 : x6 = (x5) + 1) (h6 : x7 = x4) (h7 : x8 = x6) : 0 ≤ x7 ∧ x7 ≤ 1 * x8 + 0 := by omega
theorem om_243ce53172 {x0 x1 x2 x3 : Int} (h0 : 0 ≤ x0 ∧ x0 ≤ 60) (h1 : x1 = x0) (h2 : x2 = x1) (h3 : x3 = x2) : 0 ≤ x3 ∧ x3 ≤ 60 := by omega
theorem om_f361f995c0 {x0 x1 x2 x3 x4 x5 x6 x7 x8 : Int} (h0 : 0 ≤ x0 ∧ x1 + x0 ≤ 500) (h1 : x2 = x0) (h2 : x3 = x2) (h3 : x4 = x3) (h4 : x5 = (x4) + 1) (h5 : x6 = x5 ∧ x7 = x8) : -2147483648 ≤ (x6) - 1 := by omega
theorem om_6e26541cb6 {x0 x1 x2 x3 x4 x5 x6 x7 x8 : Int} (h0 : 0 ≤ x0 ∧ x0 ≤ 500) (h1 : 0 ≤ x1 ∧ x0 + x1 ≤ 500) (h2 : x2 = x1) (h3 : x3 = x2) (h4 : x4 = x3) (h5 : x5 = (x4) + 1) (h6 : x6 = x5 ∧ x7 = x8) : (x6) - 1 < 2147483648 := by omega
theorem om_19f24fe7b4 {x0 x1 x2 x3 x4 x5 x6 x7 x8 x9 x10 x11 : Int} (h0 : 0 ≤ x0 ∧ x0 ≤ 15 * x1 + 2) (h1 : x2 = x0) (h2 : x3 = x1) (h3 : x4 = x2) (h4 : x5 = x3) (h5 : x6 = (x5) + 1) (h6 : x7 = x6) (h7 : x4 ≤ x8 ∧ x8 ≤ x4 + 2) (h8 : x9 = (x8) + 1) (h9 : x7 + 1 ≤ x10 ∧ x10 ≤ 1500) (h10 : x9 ≤ x11 ∧ x11 - 15 * x10 ≤ x9 - 15 * x7) : 0 ≤ x11 ∧ x11 < 24000 := by omega
theorem om_1b11521d1c {x0 x1 x2 x3 x4 x5 x6 x7 x8 : Int} (h0 : 0 ≤ x0 ∧ x0 ≤ 15 * x1 + 2) (h1 : x2 = x0) (h2 : x3 = x2) (h3 : x3 ≤ x4 ∧ x4 ≤ x3 + 2) (h4 : x5 = (x4) + 1) (h5 : x5 ≤ x6 ∧ x6 - 15 * x7 ≤ x5 - 15 * x8) : -2147483648 ≤ (x6) + 1 := by omega
theorem om_907309c565 {x0 x1 x2 x3 x4 x5 x6 x7 x8 x9 x10 x11 : Int} (h0 : 0 ≤ x0 ∧ x0 ≤ 15 * x1 + 2) (h1 : x2 = x0) (h2 : x3 = x1) (h3 : x4 = x2) (h4 : x5 = x3) (h5 : x6 = (x5) + 1) (h6 : x7 = x6) (h7 : x4 ≤ x8 ∧ x8 ≤ x4 + 2) (h8 : x9 = (x8) + 1) (h9 : x7 + 1 ≤ x10 ∧ x10 ≤ 1500) (h10 : x9 ≤ x11 ∧ x11 - 15 * x10 ≤ x9 - 15 * x7) : (x11) + 1 < 2147483648 := by omega
theorem om_5638965a87 {x0 x1 x2 x3 x4 x5 x6 x7 x8 x9 x10 x11 x12 : Int} (h0 : 0 ≤ x0 ∧ x0 ≤ 15 * x1 + 2) (h1 : x2 = x0) (h2 : x3 = x1) (h3 : x4 = x2) (h4 : x5 = x3) (h5 : x6 = (x5) + 1) (h6 : x7 = x6) (h7 : x4 ≤ x8 ∧ x8 ≤ x4 + 2) (h8 : x9 = (x8) + 1) (h9 : x7 + 1 ≤ x10 ∧ x10 ≤ 1500) (h10 : x9 ≤ x11 ∧ x11 - 15 * x10 ≤ x9 - 15 * x7) (h11 : x12 = (x11) + 1) : 0 ≤ x12 ∧ x12 ≤ 23980 := by omega
theorem om_92435a0932 {x0 x1 x2 x3 x4 x5 x6 x7 x8 x9 x10 : Int} (h0 : 0 ≤ x0 ∧ x0 ≤ 10 * x1 + 0) (h1 : x2 = x0) (h2 : x3 = x1) (h3 : x4 = x2) (h4 : x5 = x3) (h5 : x6 = (x5) + 1) (h6 : x7 = x6) (h7 : x8 = x4 + 1) (h8 : x7 + 1 ≤ x9 ∧ x9 ≤ 1500) (h9 : x8 ≤ x10 ∧ x10 - 10 * x9 ≤ x8 - 10 * x7) : 0 ≤ x10 ∧ x10 ≤ 15980 := by omega
theorem om_df8d163336 {x0 x1 x2 x3 x4 x5 x6 x7 x8 x9 x10 : Int} (h0 : 0 ≤ x0 ∧ x0 ≤ 15 * x1 + 0) (h1 : x2 = x0) (h2 : x3 = x1) (h3 : x4 = x2) (h4 : x5 = x3) (h5 : x6 = (x5) + 1) (h6 : x7 = x6) (h7 : x4 ≤ x8 ∧ x8 ≤ x4 + 2) (h8 : x7 + 1 ≤ x9 ∧ x9 ≤ 1500) (h9 : x8 ≤ x10 ∧ x10 - 15 * x9 ≤ x8 - 15 * x7) : 0 ≤ x10 ∧ x10 ≤ 23980 := by omega
theorem om_12ff8109f0 {n0 : Nat} : 8 + (2 + 11) + 46 ≤ 28 * (40 * n0 + 6) := by omega
theorem om_e95251626b {x0 x1 x2 x3 x4 x5 x6 x7 x8 x9 x10 x11 x12 x13 : Int} (h0 : 0 ≤ x0 ∧ x0 ≤ 15 * x1 + 2) (h1 : x2 = x0) (h2 : x3 = x1) (h3 : x4 = x2) (h4 : x5 = x3) (h5 : x6 = (x5) + 1) (h6 : x7 = x6) (h7 : x4 ≤ x8 ∧ x8 ≤ x4 + 2) (h8 : x9 = (x8) + 1) (h9 : x7 + 1 ≤ x10 ∧ x10 ≤ 1500) (h10 : x9 ≤ x11 ∧ x11 - 15 * x10 ≤ x9 - 15 * x7) (h11 : x12 = (x11) + 1) (h12 : x12 ≤ x13 ∧ x13 ≤ x12 + 3) : 0 ≤ x13 ∧ x13 ≤ 23980 := by omega
theorem om_98cf02f0b0 {x0 x1 x2 x3 x4 x5 x6 x7 x8 x9 x10 x11 : Int} (h0 : 0 ≤ x0 ∧ x0 ≤ 10 * x1 + 0) (h1 : x2 = x0) (h2 : x3 = x1) (h3 : x4 = x2) (h4 : x5 = x3) (h5 : x6 = (x5) + 1) (h6 : x7 = x6) (h7 : x8 = x4 + 1) (h8 : x7 + 1 ≤ x9 ∧ x9 ≤ 1500) (h9 : x8 ≤ x10 ∧ x10 - 10 * x9 ≤ x8 - 10 * x7) (h10 : x11 = x10 + 1) : 0 ≤ x11 ∧ x11 ≤ 15980 := by omega
theorem om_d568e8d59f {x0 x1 x2 x3 x4 x5 x6 x7 x8 x9 x10 x11 : Int} (h0 : 0 ≤ x0 ∧ x0 ≤ 15 * x1 + 0) (h1 : x2 = x0) (h2 : x3 = x1) (h3 : x4 = x2) (h4 : x5 = x3) (h5 : x6 = (x5) + 1) (h6 : x7 = x6) (h7 : x4 ≤ x8 ∧ x8 ≤ x4 + 2) (h8 : x7 + 1 ≤ x9 ∧ x9 ≤ 1500) (h9 : x8 ≤ x10 ∧ x10 - 15 * x9 ≤ x8 - 15 * x7) (h10 : x10 ≤ x11 ∧ x11 ≤ x10 + 1) : 0 ≤ x11 ∧ x11 ≤ 23980 := by omega
theorem om_944ba89137 {n0 : Nat} : 8 + (3 + 11) + 23 ≤ 28 * (40 * n0 + 6) := by omega
theorem om_f32613313a {x0 x1 x2 x3 x4 x5 x6 x7 x8 x9 : Int} (h0 : 0 ≤ x0 ∧ x0 ≤ 40) (h1 : x1 = x0) (h2 : x2 = x1) (h3 : x3 = (x2) + 1) (h4 : x4 = x3) (h5 : x5 = x6 ∧ x7 = x4) (h6 : x8 = x7) (h7 : x9 = x8) : -2147483648 ≤ (x9) - 1 := by omega
theorem om_47748e4d6f {x0 x1 x2 x3 x4 x5 x6 x7 : Int} (h0 : x0 = (x1) + 1) (h1 : x1 < 40) (h2 : x2 = x0) (h3 : x3 = x4 ∧ x5 = x2) (h4 : x6 = x5) (h5 : x7 = x6) : (x7) - 1 < 2147483648 := by omega
theorem om_aa78113bbf {x0 x1 x2 x3 x4 x5 x6 x7 : Int} (h0 : x0 = x1) (h1 : x2 = x0) (h2 : x3 = (x2) + 1) (h3 : x4 = x3) (h4 : x4 + 1 ≤ x5 ∧ x5 ≤ 1500) (h5 : x6 = x5) (h6 : x7 = x6) : x1 + 1 ≤ x7 ∧ x7 ≤ 1500 := by omega
theorem om_7800e6afe5 {x0 x1 x2 x3 x4 x5 x6 x7 x8 : Int} (h0 : x0 = x1) (h1 : (x2 + x3 + 1 ≤ x4 ∧ x5 = x6) ∨ x5 = x1) (h2 : x7 = x0) (h3 : x8 = x5) (h4 : x8 ≠ x7) : x6 ≠ x1 := by omega
theorem om_f4f891ea73 {x0 x1 x2 x3 x4 x5 x6 x7 x8 x9 x10 x11 x12 x13 x14 x15 x16 : Int} (h0 : x0 = x1) (h1 : x2 = x3) (h2 : x4 = x0) (h3 : x5 = x2) (h4 : x6 = (x5) + 1) (h5 : x7 = x6) (h6 : x4 ≤ x8 ∧ x8 ≤ x4 + 2) (h7 : x9 = (x8) + 1) (h8 : x9 ≤ x10 ∧ x10 - 15 * x11 ≤ x9 - 15 * x7) (h9 : x12 = (x10) + 1) (h10 : x13 = x11) (h11 : x12 ≤ x14 ∧ x14 ≤ x12 + 3) (h12 : x15 = x13) (h13 : x14 ≤ x16 ∧ x16 ≤ x14 + 2) : x1 ≤ x16 ∧ x16 - 15 * x15 ≤ x1 - 15 * x3 := by omega
theorem om_f4094be2e0 {x0 x1 x2 x3 x4 x5 x6 x7 x8 x9 x10 x11 x12 x13 x14 : Int} (h0 : x0 = x1) (h1 : x2 = x3) (h2 : x4 = x0) (h3 : x5 = x2) (h4 : x6 = (x5) + 1) (h5 : x7 = x6) (h6 : x8 = x4 + 1) (h7 : x8 ≤ x9 ∧ x9 - 10 * x10 ≤ x8 - 10 * x7) (h8 : x11 = x10) (h9 : x12 = x9 + 1) (h10 : x13 = x11) (h11 : x14 = x12 + 1) : x1 ≤ x14 ∧ x14 - 10 * x13 ≤ x1 - 10 * x3 := by omega
theorem om_3be6bef26c {x0 x1 x2 x3 x4 x5 x6 x7 x8 x9 x10 x11 x12 x13 x14 : Int} (h0 : x0 = x1) (h1 : x2 = x3) (h2 : x4 = x0) (h3 : x5 = x2) (h4 : x6 = (x5) + 1) (h5 : x7 = x6) (h6 : x4 ≤ x8 ∧ x8 ≤ x4 + 2) (h7 : x8 ≤ x9 ∧ x9 - 15 * x10 ≤ x8 - 15 * x7) (h8 : x11 = x10) (h9 : x9 ≤ x12 ∧ x12 ≤ x9 + 1) (h10 : x13 = x11) (h11 : x12 ≤ x14 ∧ x14 ≤ x12 + 2) : x1 ≤ x14 ∧ x14 - 15 * x13 ≤ x1 - 15 * x3 := by omega
theorem om_7042716fb1 {x0 x1 x2 x3 x4 x5 x6 x7 x8 x9 x10 x11 x12 x13 x14 : Int} (h0 : x0 = x1) (h1 : x2 = x3) (h2 : x4 = x0) (h3 : x5 = x2) (h4 : x6 = (x5) + 1) (h5 : x7 = x4) (h6 : x8 = x6) (h7 : x7 ≤ x9 ∧ x9 - 1 * x10 ≤ x7 - 1 * x8) (h8 : x11 = x9) (h9 : x12 = x10) (h10 : x13 = x11) (h11 : x14 = x12) : x1 ≤ x13 ∧ x13 - 1 * x14 ≤ x1 - 1 * x3 := by omega
theorem om_560fb45af1 {x0 x1 x2 x3 x4 x5 x6 x7 x8 x9 x10 x11 x12 x13 x14 x15 x16 x17 : Int} (h0 : x0 = x1) (h1 : x2 = x3) (h2 : x4 = x0) (h3 : x5 = x2) (h4 : x6 = (x5) + 1) (h5 : x7 = x4) (h6 : x8 = x6) (h7 : x9 = (x7) + 1) (h8 : x10 = x9 ∧ x11 = x8) (h9 : x12 = (x10) - 1) (h10 : x13 = x12) (h11 : x14 = x11) (h12 : x15 = x13) (h13 : x16 = x14) (h14 : x17 = (x16) - 1) : x15 = x1 ∧ x17 = x3 := by omega
theorem om_6671181df8 {x0 x1 x2 x3 x4 x5 x6 : Int} (h0 : x0 ≤ x1 ∧ x1 ≤ 500) (h1 : x2 = x1) (h2 : x3 = x2) (h3 : x3 ≤ x4 ∧ x4 ≤ 500) (h4 : x5 = x4) (h5 : x6 = x5) : x0 ≤ x6 ∧ x6 ≤ 500 := by omega
theorem om_ef3caf7b9c {x0 x1 x2 x3 x4 x5 x6 x7 x8 x9 : Int} {n10 : Nat} (h0 : x0 = x1) (h1 : x2 = x0) (h2 : x2 ≤ x3 ∧ x3 ≤ x2 + 2) (h3 : x4 = (x3) + 1) (h4 : x4 ≤ x5 ∧ x5 - 15 * x6 ≤ x4 - 15 * x7) (h5 : x8 = (x5) + 1) (h6 : x8 ≤ x9 ∧ x9 ≤ x8 + 3) (h7 : (n10 : Int) < x1) : (n10 : Int) < x9 := by omega
theorem om_44dd0e4095 {x0 x1 x2 x3 x4 x5 x6 x7 x8 : Int} {n9 : Nat} (h0 : x0 = x1) (h1 : x2 = x0) (h2 : x2 ≤ x3 ∧ x3 ≤ x2 + 2) (h3 : x4 = (x3) + 1) (h4 : x4 ≤ x5 ∧ x5 - 15 * x6 ≤ x4 - 15 * x7) (h5 : x8 = (x5) + 1) (h6 : (n9 : Int) < x1) : (n9 : Int) < x8 := by omega
theorem om_5b1ab3a0a1 {x0 x1 x2 x3 x4 x5 x6 x7 x8 : Int} (h0 : 0 ≤ x0 ∧ x0 ≤ 15 * x1 + 2) (h1 : x2 = x0) (h2 : x3 = x2) (h3 : x3 ≤ x4 ∧ x4 ≤ x3 + 2) (h4 : x5 = (x4) + 1) (h5 : x5 ≤ x6 ∧ x6 - 15 * x7 ≤ x5 - 15 * x8) : 0 ≤ x6 := by omega
theorem om_1bdd43a6b2 {x0 x1 x2 x3 x4 x5 x6 x7 : Int} {n8 : Nat} (h0 : x0 = x1) (h1 : x2 = x0) (h2 : x2 ≤ x3 ∧ x3 ≤ x2 + 2) (h3 : x4 = (x3) + 1) (h4 : x4 ≤ x5 ∧ x5 - 15 * x6 ≤ x4 - 15 * x7) (h5 : (n8 : Int) < x1) : (n8 : Int) < x5 := by omega
theorem om_8f6b8c3407 {x0 x1 x2 x3 x4 : Int} {n5 : Nat} (h0 : x0 = x1) (h1 : x2 = x0) (h2 : x2 ≤ x3 ∧ x3 ≤ x2 + 2) (h3 : x4 = (x3) + 1) (h4 : (n5 : Int) < x1) : (n5 : Int) < x4 := by omega
theorem om_bfb3dc1977 {x0 x1 x2 x3 x4 : Int} (h0 : 0 ≤ x0 ∧ x0 ≤ 15 * x1 + 2) (h1 : x2 = x0) (h2 : x3 = x2) (h3 : x3 ≤ x4 ∧ x4 ≤ x3 + 2) : 0 ≤ x4 := by omega
theorem om_03e94caca0 {x0 x1 x2 x3 : Int} {n4 : Nat} (h0 : x0 = x1) (h1 : x2 = x0) (h2 : x2 ≤ x3 ∧ x3 ≤ x2 + 2) (h3 : (n4 : Int) < x1) : (n4 : Int) < x3 := by omega
theorem om_2a5d4a8f22 {x0 x1 x2 : Int} {n3 : Nat} (h0 : x0 = x1) (h1 : x2 = x0) (h2 : (n3 : Int) < x1) : (n3 : Int) < x2 := by omega
theorem om_6d45c60592 {x0 x1 x2 x3 x4 x5 x6 x7 : Int} {n8 : Nat} (h0 : x0 = x1) (h1 : x2 = x0) (h2 : x3 = x2 + 1) (h3 : x3 ≤ x4 ∧ x4 - 10 * x5 ≤ x3 - 10 * x6) (h4 : x7 = x4 + 1) (h5 : (n8 : Int) < x1) : (n8 : Int) < x7 := by omega
theorem om_0a7f6ba696 {x0 x1 x2 x3 x4 x5 x6 : Int} {n7 : Nat} (h0 : x0 = x1) (h1 : x2 = x0) (h2 : x3 = x2 + 1) (h3 : x3 ≤ x4 ∧ x4 - 10 * x5 ≤ x3 - 10 * x6) (h4 : (n7 : Int) < x1) : (n7 : Int) < x4 := by omega
theorem om_c85825db7e {x0 x1 x2 x3 : Int} {n4 : Nat} (h0 : x0 = x1) (h1 : x2 = x0) (h2 : x3 = x2 + 1) (h3 : (n4 : Int) < x1) : (n4 : Int) < x3 := by omega
theorem om_6c0c040bc6 {x0 : Int} (h0 : x0 = 0) (h1 : x0 ≠ 0) : False := by omega
theorem om_f57f4cdc86 : 0 ≤ 0 ∧ 0 ≤ 8 := by omega
theorem om_c49b494007 {x0 x1 x2 x3 : Int} (h0 : 0 ≤ x0 ∧ x1 + x0 ≤ 500) (h1 : x2 = x0) (h2 : x3 = x2) : -2147483648 ≤ (x3) + 0 := by omega
theorem om_fa53b9f188 {x0 x1 x2 x3 : Int} (h0 : 0 ≤ x0 ∧ x0 ≤ 500) (h1 : 0 ≤ x1 ∧ x0 + x1 ≤ 500) (h2 : x2 = x1) (h3 : x3 = x2) : (x3) + 0 < 2147483648 := by omega
theorem om_2260131d5a {x0 x2 x3 x4 : Int} {n1 n5 : Nat} (h0 : 40 ≤ x0 + (n1 : Int)) (h1 : x2 = x0) (h2 : x3 = x2) (h3 : x4 = (x3) + 1) (h4 : n1 = n5 + 1) : 40 ≤ x4 + (n5 : Int) := by omega
theorem om_f03d39746c {x0 x1 x2 x3 x4 : Int} (h0 : 0 ≤ x0 ∧ x0 ≤ 15 * x1 + 0) (h1 : x2 = x1) (h2 : x3 = x2) (h3 : x4 = (x3) + 1) (h4 : x3 < 1500) : 0 ≤ x4 ∧ x4 ≤ 1500 := by omega
theorem om_bb1043a59e {x0 x1 x2 x3 : Int} (h0 : 0 ≤ x0 ∧ x0 ≤ 40) (h1 : x1 = x0) (h2 : x2 = x1) (h3 : x3 = (x2) + 1) (h4 : x2 < 40) : 0 ≤ x3 ∧ x3 ≤ 40 := by omega
theorem om_8a5975ec21 {x0 x1 x2 : Int} (h0 : 0 ≤ x0 ∧ x0 ≤ 500) (h1 : x1 = x0) (h2 : x2 = x1) : 0 ≤ x2 ∧ x2 ≤ 500 := by omega
theorem om_ed1d2e34eb {x0 x1 x2 : Int} (h0 : 0 ≤ x0 ∧ x0 ≤ 500) (h1 : x0 ≤ x1 ∧ x1 ≤ 500) (h2 : x2 = x1) : 0 ≤ x2 ∧ x2 ≤ 500 := by omega
theorem om_34de977382 {x0 x1 x2 x3 x4 x5 x6 : Int} (h0 : 0 ≤ x0 ∧ x1 + x0 ≤ 500) (h1 : x2 = x1) (h2 : x3 = x0) (h3 : x4 = x2) (h4 : x5 = x3) (h5 : x6 = (x5) + 0) : 0 ≤ x6 ∧ x4 + x6 ≤ 500 := by omega
theorem om_0bca677672 {x0 x1 x2 x3 x4 x5 x6 : Int} (h0 : 0 ≤ x0 ∧ x0 ≤ 15 * x1 + 2) (h1 : x2 = x0) (h2 : x3 = x1) (h3 : x4 = x2) (h4 : x5 = x3) (h5 : x6 = (x5) + 1) : 0 ≤ x4 ∧ x4 ≤ 15 * x6 + 2 := by omega
theorem om_b9be4e1a33 {x0 x1 x2 x3 x4 x5 x6 : Int} (h0 : 0 ≤ x0 ∧ x0 ≤ 10 * x1 + 0) (h1 : x2 = x0) (h2 : x3 = x1) (h3 : x4 = x2) (h4 : x5 = x3) (h5 : x6 = (x5) + 1) : 0 ≤ x4 ∧ x4 ≤ 10 * x6 + 0 := by omega
theorem om_8cfbc266de {x0 x1 x2 x3 x4 x5 x6 : Int} (h0 : 0 ≤ x0 ∧ x0 ≤ 15 * x1 + 0) (h1 : x2 = x0) (h2 : x3 = x1) (h3 : x4 = x2) (h4 : x5 = x3) (h5 : x6 = (x5) + 1) : 0 ≤ x4 ∧ x4 ≤ 15 * x6 + 0 := by omega
theorem om_09dc7ecfa6 {x0 x1 x2 x3 x4 x5 x6 : Int} (h0 : 0 ≤ x0 ∧ x0 ≤ 1 * x1 + 0) (h1 : x2 = x0) (h2 : x3 = x1) (h3 : x4 = x2) (h4 : x5 = x3) (h5 : x6 = (x5) + 1) : 0 ≤ x4 ∧ x4 ≤ 1 * x6 + 0 := by omega
theorem om_439c5576c5 {x0 x1 x2 : Int} (h0 : 0 ≤ x0 ∧ x0 ≤ 60) (h1 : x1 = x0) (h2 : x2 = x1) : 0 ≤ x2 ∧ x2 ≤ 60 := by omega
theorem om_8e343b24a2 {x0 x1 x2 x3 x4 x5 x6 x7 : Int} (h0 : 0 ≤ x0 ∧ x1 + x0 ≤ 500) (h1 : x2 = x0) (h2 : x3 = x2) (h3 : x4 = (x3) + 0) (h4 : x5 = x4 ∧ x6 = x7) : -2147483648 ≤ (x5) - 0 := by omega
theorem om_df1de976ff {x0 x1 x2 x3 x4 x5 x6 x7 : Int} (h0 : 0 ≤ x0 ∧ x0 ≤ 500) (h1 : 0 ≤ x1 ∧ x0 + x1 ≤ 500) (h2 : x2 = x1) (h3 : x3 = x2) (h4 : x4 = (x3) + 0) (h5 : x5 = x4 ∧ x6 = x7) : (x5) - 0 < 2147483648 := by omega
theorem om_47016d82a9 {x0 x1 x2 x3 x4 x5 x6 x7 x8 : Int} (h0 : 0 ≤ x0 ∧ x0 ≤ 15 * x1 + 2) (h1 : x2 = x0) (h2 : x3 = x1) (h3 : x4 = x2) (h4 : x5 = x3) (h5 : x6 = (x5) + 1) (h6 : x6 + 1 ≤ x7 ∧ x7 ≤ 1500) (h7 : x4 ≤ x8 ∧ x8 - 15 * x7 ≤ x4 - 15 * x6) : 0 ≤ x8 ∧ x8 ≤ 23980 := by omega
theorem om_2668e39c4d {x0 x1 x2 x3 x4 x5 x6 x7 x8 : Int} (h0 : 0 ≤ x0 ∧ x0 ≤ 10 * x1 + 0) (h1 : x2 = x0) (h2 : x3 = x1) (h3 : x4 = x2) (h4 : x5 = x3) (h5 : x6 = (x5) + 1) (h6 : x6 + 1 ≤ x7 ∧ x7 ≤ 1500) (h7 : x4 ≤ x8 ∧ x8 - 10 * x7 ≤ x4 - 10 * x6) : 0 ≤ x8 ∧ x8 ≤ 15980 := by omega
theorem om_42fc6b61e3 {x0 x1 x2 x3 x4 x5 x6 x7 x8 : Int} (h0 : 0 ≤ x0 ∧ x0 ≤ 15 * x1 + 0) (h1 : x2 = x0) (h2 : x3 = x1) (h3 : x4 = x2) (h4 : x5 = x3) (h5 : x6 = (x5) + 1) (h6 : x6 + 1 ≤ x7 ∧ x7 ≤ 1500) (h7 : x4 ≤ x8 ∧ x8 - 15 * x7 ≤ x4 - 15 * x6) : 0 ≤ x8 ∧ x8 ≤ 23980 := by omega
theorem om_cdf0cc6270 {x0 x1 x2 x3 x4 x5 x6 x7 : Int} (h0 : 0 ≤ x0 ∧ x0 ≤ 40) (h1 : x1 = x0) (h2 : x2 = x1) (h3 : x3 = (x2) + 1) (h4 : x4 = x5 ∧ x6 = x3) (h5 : x7 = x6) : -2147483648 ≤ (x7) - 1 := by omega
theorem om_d8c7ff786d {x0 x1 x2 x3 x4 x5 : Int} (h0 : x0 = (x1) + 1) (h1 : x1 < 40) (h2 : x2 = x3 ∧ x4 = x0) (h3 : x5 = x4) : (x5) - 1 < 2147483648 := by omega
theorem om_0ad34686ec {x0 x1 x2 x3 x4 x5 : Int} (h0 : x0 = x1) (h1 : x2 = x0) (h2 : x3 = (x2) + 1) (h3 : x3 + 1 ≤ x4 ∧ x4 ≤ 1500) (h4 : x5 = x4) : x1 + 1 ≤ x5 ∧ x5 ≤ 1500 := by omega
theorem om_7c3a19dead {x0 x1 x2 x3 x4 x5 x6 x7 x8 : Int} (h0 : x0 = x1) (h1 : (x2 + x3 + 0 ≤ x4 ∧ x5 = x6) ∨ x5 = x1) (h2 : x7 = x0) (h3 : x8 = x5) (h4 : x8 ≠ x7) : x6 ≠ x1 := by omega
theorem om_e7581ffbf0 {x0 x1 x2 x3 x4 x5 x6 x7 x8 x9 x10 : Int} (h0 : x0 = x1) (h1 : x2 = x3) (h2 : x4 = x0) (h3 : x5 = x2) (h4 : x6 = (x5) + 1) (h5 : x4 ≤ x7 ∧ x7 - 15 * x8 ≤ x4 - 15 * x6) (h6 : x9 = x8) (h7 : x7 ≤ x10 ∧ x10 ≤ x7 + 2) : x1 ≤ x10 ∧ x10 - 15 * x9 ≤ x1 - 15 * x3 := by omega
theorem om_0befc91bba {x0 x1 x2 x3 x4 x5 x6 x7 x8 x9 x10 : Int} (h0 : x0 = x1) (h1 : x2 = x3) (h2 : x4 = x0) (h3 : x5 = x2) (h4 : x6 = (x5) + 1) (h5 : x4 ≤ x7 ∧ x7 - 10 * x8 ≤ x4 - 10 * x6) (h6 : x9 = x8) (h7 : x10 = x7 + 1) : x1 ≤ x10 ∧ x10 - 10 * x9 ≤ x1 - 10 * x3 := by omega
theorem om_f74db28794 {x0 x1 x2 x3 x4 x5 x6 x7 x8 x9 x10 : Int} (h0 : x0 = x1) (h1 : x2 = x3) (h2 : x4 = x0) (h3 : x5 = x2) (h4 : x6 = (x5) + 1) (h5 : x4 ≤ x7 ∧ x7 - 1 * x8 ≤ x4 - 1 * x6) (h6 : x9 = x7) (h7 : x10 = x8) : x1 ≤ x9 ∧ x9 - 1 * x10 ≤ x1 - 1 * x3 := by omega
theorem om_24d9d82af2 {x0 x1 x2 x3 x4 x5 x6 x7 x8 x9 x10 x11 x12 x13 : Int} (h0 : x0 = x1) (h1 : x2 = x3) (h2 : x4 = x0) (h3 : x5 = x2) (h4 : x6 = (x5) + 1) (h5 : x7 = (x4) + 0) (h6 : x8 = x7 ∧ x9 = x6) (h7 : x10 = (x8) - 0) (h8 : x11 = x10) (h9 : x12 = x9) (h10 : x13 = (x12) - 1) : x11 = x1 ∧ x13 = x3 := by omega
theorem om_ed439b6ae5 {x0 x1 x2 x3 x4 : Int} (h0 : x0 ≤ x1 ∧ x1 ≤ 500) (h1 : x2 = x1) (h2 : x2 ≤ x3 ∧ x3 ≤ 500) (h3 : x4 = x3) : x0 ≤ x4 ∧ x4 ≤ 500 := by omega
theorem om_9920fc6a44 {x0 x1 x2 x3 x4 x5 : Int} {n6 : Nat} (h0 : x0 = x1) (h1 : x2 = x0) (h2 : x2 ≤ x3 ∧ x3 - 15 * x4 ≤ x2 - 15 * x5) (h3 : (n6 : Int) < x1) : (n6 : Int) < x3 := by omega
theorem om_7747af74f1 {x0 x1 x2 x3 x4 x5 : Int} {n6 : Nat} (h0 : x0 = x1) (h1 : x2 = x0) (h2 : x2 ≤ x3 ∧ x3 - 10 * x4 ≤ x2 - 10 * x5) (h3 : (n6 : Int) < x1) : (n6 : Int) < x3 := by omega
theorem om_05f30fd168 : 0 ≤ 2 ∧ 2 ≤ 8 := by omega
theorem om_b8e454be0b {x0 x1 x2 : Int} (h0 : 0 ≤ x0 ∧ x0 ≤ 500) (h1 : 0 ≤ x1 ∧ x0 + x1 ≤ 500) (h2 : x2 = x0 + x1) : -2147483648 ≤ x2 + 1 := by omega
theorem om_8e5bf4a8b8 {x0 x1 x2 : Int} (h0 : 0 ≤ x0 ∧ x1 + x0 ≤ 500) (h1 : x2 = x1 + x0) : x2 + 1 < 2147483648 := by omega
theorem om_b8c65df586 {x0 x1 x2 x3 : Int} (h0 : 0 ≤ x0 ∧ x0 ≤ 1500) (h1 : 0 ≤ x1 ∧ x1 ≤ 15 * x0 + 2) (h2 : x2 = x1) (h3 : x3 = x2) : 0 ≤ x3 ∧ x3 < 24000 := by omega
theorem om_53475c3cd5 {x0 x1 x2 x3 : Int} (h0 : 0 ≤ x0 ∧ x0 ≤ 15 * x1 + 2) (h1 : x2 = x0) (h2 : x3 = x2) : -2147483648 ≤ (x3) + 1 := by omega
theorem om_37dc27837e {x0 x1 x2 x3 : Int} (h0 : 0 ≤ x0 ∧ x0 ≤ 1500) (h1 : 0 ≤ x1 ∧ x1 ≤ 15 * x0 + 2) (h2 : x2 = x1) (h3 : x3 = x2) : (x3) + 1 < 2147483648 := by omega
theorem om_8eb384b5c0 {x0 x1 x2 x3 : Int} (h0 : 0 ≤ x0 ∧ x0 ≤ 1500) (h1 : 0 ≤ x1 ∧ x1 ≤ 15 * x0 + 0) (h2 : x2 = x1) (h3 : x3 = x2) : 0 ≤ x3 ∧ x3 < 24000 := by omega
theorem om_5feb126984 {x0 x1 x2 x3 : Int} (h0 : 0 ≤ x0 ∧ x0 ≤ 15 * x1 + 0) (h1 : x2 = x0) (h2 : x3 = x2) : -2147483648 ≤ (x3) + 1 := by omega
theorem om_2700bf36d0 {x0 x1 x2 x3 : Int} (h0 : 0 ≤ x0 ∧ x0 ≤ 1500) (h1 : 0 ≤ x1 ∧ x1 ≤ 15 * x0 + 0) (h2 : x2 = x1) (h3 : x3 = x2) : (x3) + 1 < 2147483648 := by omega
theorem om_e597dbbf39 {x0 x1 x2 x3 : Int} (h0 : 0 ≤ x0 ∧ x0 ≤ 15 * x1 + 2) (h1 : x2 = x0) (h2 : x3 = x2) : 0 ≤ x3 := by omega
theorem om_34546aaaa8 {x0 x1 x2 x3 x4 : Int} (h0 : 0 ≤ x0 ∧ x0 ≤ 1500) (h1 : 0 ≤ x1 ∧ x1 ≤ 15 * x0 + 2) (h2 : x2 = x1) (h3 : x3 = x2) (h4 : x4 = ((x3) + 1)) : 0 ≤ x4 ∧ x4 < 24000 := by omega
theorem om_2438459d85 {x0 x1 x2 x3 x4 : Int} (h0 : 0 ≤ x0 ∧ x0 ≤ 15 * x1 + 2) (h1 : x2 = x0) (h2 : x3 = x2) (h3 : x4 = ((x3) + 1)) : -2147483648 ≤ (x4) + 1 := by omega
theorem om_cdbe6c3cf1 {x0 x1 x2 x3 x4 : Int} (h0 : 0 ≤ x0 ∧ x0 ≤ 1500) (h1 : 0 ≤ x1 ∧ x1 ≤ 15 * x0 + 2) (h2 : x2 = x1) (h3 : x3 = x2) (h4 : x4 = ((x3) + 1)) : (x4) + 1 < 2147483648 := by omega
theorem om_f4db401c06 {x0 x1 x2 x3 x4 x5 : Int} (h0 : 0 ≤ x0 ∧ x0 ≤ 1500) (h1 : 0 ≤ x1 ∧ x1 ≤ 15 * x0 + 2) (h2 : x2 = x1) (h3 : x3 = x2) (h4 : x4 = ((x3) + 1)) (h5 : x5 = (x4) + 1) : 0 ≤ x5 ∧ x5 < 24000 := by omega
theorem om_793d132cd0 {x0 x1 x2 x3 x4 : Int} (h0 : 0 ≤ x0 ∧ x0 ≤ 15 * x1 + 2) (h1 : x2 = x0) (h2 : x3 = x2) (h3 : x4 = ((x3) + 1)) : -2147483648 ≤ ((x4) + 1) + 1 := by omega
theorem om_3e7a6ea439 {x0 x1 x2 x3 x4 : Int} (h0 : 0 ≤ x0 ∧ x0 ≤ 1500) (h1 : 0 ≤ x1 ∧ x1 ≤ 15 * x0 + 2) (h2 : x2 = x1) (h3 : x3 = x2) (h4 : x4 = ((x3) + 1)) : ((x4) + 1) + 1 < 2147483648 := by omega
theorem om_a4a20ef6fd {x0 x1 x2 x3 x4 : Int} (h0 : 0 ≤ x0 ∧ x0 ≤ 1500) (h1 : 0 ≤ x1 ∧ x1 ≤ 10 * x0 + 0) (h2 : x2 = x1) (h3 : x3 = x2) (h4 : x4 = x3) : 0 ≤ x4 ∧ x4 < 16000 := by omega
theorem om_8194030f6b {x0 x1 x2 x3 x4 : Int} (h0 : 0 ≤ x0 ∧ x0 ≤ 10 * x1 + 0) (h1 : x2 = x0) (h2 : x3 = x2) (h3 : x4 = x3) : -2147483648 ≤ (x4) + 1 := by omega
theorem om_03b7b0d272 {x0 x1 x2 x3 x4 : Int} (h0 : 0 ≤ x0 ∧ x0 ≤ 1500) (h1 : 0 ≤ x1 ∧ x1 ≤ 10 * x0 + 0) (h2 : x2 = x1) (h3 : x3 = x2) (h4 : x4 = x3) : (x4) + 1 < 2147483648 := by omega
theorem om_bebdfe850b {x0 x1 x2 x3 x4 x5 : Int} (h0 : 0 ≤ x0 ∧ x0 ≤ 15 * x1 + 2) (h1 : x2 = x0) (h2 : x3 = x2) (h3 : x4 = ((x3) + 1)) (h4 : x5 = (x4) + 1) : 0 ≤ x5 := by omega
theorem om_72f7fe8055 {x0 x1 x2 x3 x4 : Int} {n5 : Nat} (h0 : x0 = x1) (h1 : x2 = x0) (h2 : x3 = ((x2) + 1)) (h3 : x4 = (x3) + 1) (h4 : (n5 : Int) < x1) : (n5 : Int) < x4 := by omega
theorem om_523ac8eba4 {x0 x1 x2 x3 x4 : Int} (h0 : 0 ≤ x0 ∧ x0 ≤ 15 * x1 + 2) (h1 : x2 = x0) (h2 : x3 = x2) (h3 : x4 = ((x3) + 1)) : 0 ≤ x4 := by omega
theorem om_925bfe73b8 {x0 x1 x2 x3 : Int} {n4 : Nat} (h0 : x0 = x1) (h1 : x2 = x0) (h2 : x3 = ((x2) + 1)) (h3 : (n4 : Int) < x1) : (n4 : Int) < x3 := by omega
theorem om_9db91f104b {x0 x1 x2 x3 x4 : Int} (h0 : 0 ≤ x0 ∧ x0 ≤ 10 * x1 + 0) (h1 : x2 = x0) (h2 : x3 = x2) (h3 : x4 = x3) : 0 ≤ x4 := by omega
theorem om_ea2b772ec2 {x0 x1 x2 x3 : Int} {n4 : Nat} (h0 : x0 = x1) (h1 : x2 = x0) (h2 : x3 = x2) (h3 : (n4 : Int) < x1) : (n4 : Int) < x3 := by omega
theorem om_63a865b2b0 {x0 x1 x2 x3 x4 x5 : Int} (h0 : 0 ≤ x0 ∧ x0 ≤ 1500) (h1 : 0 ≤ x1 ∧ x1 ≤ 15 * x0 + 2) (h2 : x2 = x1) (h3 : x3 = x2) (h4 : x4 = ((x3) + 1)) (h5 : x5 = (((x4) + 1) + 1)) : 0 ≤ x5 ∧ x5 < 24000 := by omega
theorem om_cf25f73a5d {x0 x1 x2 x3 x4 x5 : Int} (h0 : 0 ≤ x0 ∧ x0 ≤ 15 * x1 + 2) (h1 : x2 = x0) (h2 : x3 = x2) (h3 : x4 = ((x3) + 1)) (h4 : x5 = (((x4) + 1) + 1)) : -2147483648 ≤ (x5) + 1 := by omega
theorem om_47178ecb97 {x0 x1 x2 x3 x4 x5 : Int} (h0 : 0 ≤ x0 ∧ x0 ≤ 1500) (h1 : 0 ≤ x1 ∧ x1 ≤ 15 * x0 + 2) (h2 : x2 = x1) (h3 : x3 = x2) (h4 : x4 = ((x3) + 1)) (h5 : x5 = (((x4) + 1) + 1)) : (x5) + 1 < 2147483648 := by omega
theorem om_cd919eb955 {x0 x1 x2 x3 x4 x5 : Int} (h0 : 0 ≤ x0 ∧ x1 + x0 ≤ 500) (h1 : x2 = x0) (h2 : x3 = x2) (h3 : x4 = x3) (h4 : x5 = x4) : -2147483648 ≤ (x5) + 2 := by omega
theorem om_d9bc31ecd8 {x0 x1 x2 x3 x4 x5 : Int} (h0 : 0 ≤ x0 ∧ x0 ≤ 500) (h1 : 0 ≤ x1 ∧ x0 + x1 ≤ 500) (h2 : x2 = x1) (h3 : x3 = x2) (h4 : x4 = x3) (h5 : x5 = x4) : (x5) + 2 < 2147483648 := by omega
theorem om_aa93ba60ee {x0 x2 x3 x4 x5 : Int} {n1 n6 : Nat} (h0 : 40 ≤ x0 + (n1 : Int)) (h1 : x2 = x0) (h2 : x3 = x2) (h3 : x4 = ((x3) + 1)) (h4 : x5 = x4) (h5 : n1 = n6 + 1) : 40 ≤ x5 + (n6 : Int) := by omega
theorem om_7ce81a9a68 {x0 x1 x2 x3 x4 x5 : Int} (h0 : 0 ≤ x0 ∧ x0 ≤ 15 * x1 + 0) (h1 : x2 = x1) (h2 : x3 = x2) (h3 : x3 < 1500) (h4 : x4 = ((x3) + 1)) (h5 : x5 = x4) : 0 ≤ x5 ∧ x5 ≤ 1500 := by omega
theorem om_a0cc62e86a {x0 x1 x2 x3 x4 : Int} (h0 : 0 ≤ x0 ∧ x0 ≤ 40) (h1 : x1 = x0) (h2 : x2 = x1) (h3 : x2 < 40) (h4 : x3 = ((x2) + 1)) (h5 : x4 = x3) : 0 ≤ x4 ∧ x4 ≤ 40 := by omega
theorem om_31e0c91fb9 {x0 x1 x2 x3 x4 : Int} (h0 : 0 ≤ x0 ∧ x0 ≤ 500) (h1 : x1 = x0) (h2 : x2 = x1) (h3 : x3 = x2) (h4 : x4 = x3) : 0 ≤ x4 ∧ x4 ≤ 500 := by omega
theorem om_41a9977466 {x0 x1 x2 x3 x4 : Int} (h0 : 0 ≤ x0 ∧ x0 ≤ 500) (h1 : x0 ≤ x1 ∧ x1 ≤ 500) (h2 : x2 = x1) (h3 : x3 = x2) (h4 : x4 = x3) : 0 ≤ x4 ∧ x4 ≤ 500 := by omega
theorem om_9bbb666feb {x0 x1 x2 x3 x4 x5 x6 x7 x8 x9 x10 x11 x12 x13 x14 x15 x16 x17 x18 : Int} (h0 : 0 ≤ x0 ∧ x1 + x0 ≤ 500) (h1 : x2 = x1) (h2 : x3 = x0) (h3 : x4 = x5) (h4 : (x1 + x0 + 2 ≤ x6 ∧ x7 = x8) ∨ x7 = x5) (h5 : x9 ≤ x6 ∧ x6 ≤ 500) (h6 : x10 = x2) (h7 : x11 = x3) (h8 : x12 = x4) (h9 : x13 = x7) (h10 : x13 ≠ x12) (h11 : x14 = x10) (h12 : x15 = x11) (h13 : x16 = x14) (h14 : x17 = x15) (h15 : x18 = (x17) + 2) : 0 ≤ x18 ∧ x16 + x18 ≤ 500 := by omega
theorem om_031cdb2a67 {x0 x1 x2 x3 x4 x5 x6 x7 x8 x9 x10 : Int} (h0 : 0 ≤ x0 ∧ x0 ≤ 15 * x1 + 2) (h1 : x2 = x0) (h2 : x3 = x1) (h3 : x4 = x2) (h4 : x5 = x3) (h5 : x6 = ((x4) + 1)) (h6 : x7 = ((x5) + 1)) (h7 : x8 = (((x6) + 1) + 1)) (h8 : x9 = x7) (h9 : x10 = (x8) + 1) : 0 ≤ x10 ∧ x10 ≤ 15 * x9 + 2 := by omega
theorem om_231e83f727 {x0 x1 x2 x3 x4 x5 x6 x7 x8 x9 : Int} (h0 : 0 ≤ x0 ∧ x0 ≤ 10 * x1 + 0) (h1 : x2 = x0) (h2 : x3 = x1) (h3 : x4 = x2) (h4 : x5 = x3) (h5 : x6 = x4) (h6 : x7 = ((x5) + 1)) (h7 : x8 = ((x6) + 1)) (h8 : x9 = x7) : 0 ≤ x8 ∧ x8 ≤ 10 * x9 + 0 := by omega
theorem om_a4bf09ff5c {x0 x1 x2 x3 x4 x5 x6 x7 x8 x9 : Int} (h0 : 0 ≤ x0 ∧ x0 ≤ 15 * x1 + 0) (h1 : x2 = x0) (h2 : x3 = x1) (h3 : x4 = x2) (h4 : x5 = x3) (h5 : x6 = ((x4) + 1)) (h6 : x7 = ((x5) + 1)) (h7 : x8 = x6) (h8 : x9 = x7) : 0 ≤ x8 ∧ x8 ≤ 15 * x9 + 0 := by omega
theorem om_5c3b0f08cc {x0 x1 x2 x3 x4 x5 x6 x7 x8 x9 : Int} (h0 : 0 ≤ x0 ∧ x0 ≤ 1 * x1 + 0) (h1 : x2 = x0) (h2 : x3 = x1) (h3 : x4 = x2) (h4 : x5 = x3) (h5 : x6 = x4) (h6 : x7 = ((x5) + 1)) (h7 : x8 = x6) (h8 : x9 = x7) : 0 ≤ x8 ∧ x8 ≤ 1 * x9 + 0 := by omega
theorem om_36df6ebd11 {x0 x1 x2 x3 x4 : Int} (h0 : 0 ≤ x0 ∧ x0 ≤ 60) (h1 : x1 = x0) (h2 : x2 = x1) (h3 : x3 = x2) (h4 : x4 = x3) : 0 ≤ x4 ∧ x4 ≤ 60 := by omega
theorem om_d37f2d34ee {x0 x1 x2 x3 x4 x5 x6 x7 x8 x9 : Int} (h0 : 0 ≤ x0 ∧ x1 + x0 ≤ 500) (h1 : x2 = x0) (h2 : x3 = x2) (h3 : x4 = x3) (h4 : x5 = x4) (h5 : x6 = (x5) + 2) (h6 : x7 = x6 ∧ x8 = x9) : -2147483648 ≤ (x7) - 2 := by omega
theorem om_e45d87bc93 {x0 x1 x2 x3 x4 x5 x6 x7 x8 x9 : Int} (h0 : 0 ≤ x0 ∧ x0 ≤ 500) (h1 : 0 ≤ x1 ∧ x0 + x1 ≤ 500) (h2 : x2 = x1) (h3 : x3 = x2) (h4 : x4 = x3) (h5 : x5 = x4) (h6 : x6 = (x5) + 2) (h7 : x7 = x6 ∧ x8 = x9) : (x7) - 2 < 2147483648 := by omega
theorem om_8ff9bd6225 {x0 x1 x2 x3 x4 x5 x6 x7 x8 x9 x10 x11 x12 : Int} (h0 : 0 ≤ x0 ∧ x0 ≤ 15 * x1 + 2) (h1 : x2 = x0) (h2 : x3 = x1) (h3 : x4 = x2) (h4 : x5 = x3) (h5 : x6 = ((x4) + 1)) (h6 : x7 = ((x5) + 1)) (h7 : x8 = (((x6) + 1) + 1)) (h8 : x9 = x7) (h9 : x10 = (x8) + 1) (h10 : x9 + 1 ≤ x11 ∧ x11 ≤ 1500) (h11 : x10 ≤ x12 ∧ x12 - 15 * x11 ≤ x10 - 15 * x9) : 0 ≤ x12 ∧ x12 < 24000 := by omega
theorem om_f5446464c5 {x0 x1 x2 x3 x4 x5 x6 x7 x8 x9 : Int} (h0 : 0 ≤ x0 ∧ x0 ≤ 15 * x1 + 2) (h1 : x2 = x0) (h2 : x3 = x2) (h3 : x4 = ((x3) + 1)) (h4 : x5 = (((x4) + 1) + 1)) (h5 : x6 = (x5) + 1) (h6 : x6 ≤ x7 ∧ x7 - 15 * x8 ≤ x6 - 15 * x9) : -2147483648 ≤ (x7) + 1 := by omega
theorem om_8f8944ae1c {x0 x1 x2 x3 x4 x5 x6 x7 x8 x9 x10 x11 x12 : Int} (h0 : 0 ≤ x0 ∧ x0 ≤ 15 * x1 + 2) (h1 : x2 = x0) (h2 : x3 = x1) (h3 : x4 = x2) (h4 : x5 = x3) (h5 : x6 = ((x4) + 1)) (h6 : x7 = ((x5) + 1)) (h7 : x8 = (((x6) + 1) + 1)) (h8 : x9 = x7) (h9 : x10 = (x8) + 1) (h10 : x9 + 1 ≤ x11 ∧ x11 ≤ 1500) (h11 : x10 ≤ x12 ∧ x12 - 15 * x11 ≤ x10 - 15 * x9) : (x12) + 1 < 2147483648 := by omega
theorem om_68d192cea1 {x0 x1 x2 x3 x4 x5 x6 x7 x8 x9 x10 x11 x12 x13 : Int} (h0 : 0 ≤ x0 ∧ x0 ≤ 15 * x1 + 2) (h1 : x2 = x0) (h2 : x3 = x1) (h3 : x4 = x2) (h4 : x5 = x3) (h5 : x6 = ((x4) + 1)) (h6 : x7 = ((x5) + 1)) (h7 : x8 = (((x6) + 1) + 1)) (h8 : x9 = x7) (h9 : x10 = (x8) + 1) (h10 : x9 + 1 ≤ x11 ∧ x11 ≤ 1500) (h11 : x10 ≤ x12 ∧ x12 - 15 * x11 ≤ x10 - 15 * x9) (h12 : x13 = (x12) + 1) : 0 ≤ x13 ∧ x13 ≤ 23980 := by omega
theorem om_1c0d5ac0ce {x0 x1 x2 x3 x4 x5 x6 x7 x8 x9 x10 x11 : Int} (h0 : 0 ≤ x0 ∧ x0 ≤ 10 * x1 + 0) (h1 : x2 = x0) (h2 : x3 = x1) (h3 : x4 = x2) (h4 : x5 = x3) (h5 : x6 = x4) (h6 : x7 = ((x5) + 1)) (h7 : x8 = ((x6) + 1)) (h8 : x9 = x7) (h9 : x9 + 1 ≤ x10 ∧ x10 ≤ 1500) (h10 : x8 ≤ x11 ∧ x11 - 10 * x10 ≤ x8 - 10 * x9) : 0 ≤ x11 ∧ x11 ≤ 15980 := by omega
theorem om_2375508e53 {x0 x1 x2 x3 x4 x5 x6 x7 x8 x9 x10 x11 : Int} (h0 : 0 ≤ x0 ∧ x0 ≤ 15 * x1 + 0) (h1 : x2 = x0) (h2 : x3 = x1) (h3 : x4 = x2) (h4 : x5 = x3) (h5 : x6 = ((x4) + 1)) (h6 : x7 = ((x5) + 1)) (h7 : x8 = x6) (h8 : x9 = x7) (h9 : x9 + 1 ≤ x10 ∧ x10 ≤ 1500) (h10 : x8 ≤ x11 ∧ x11 - 15 * x10 ≤ x8 - 15 * x9) : 0 ≤ x11 ∧ x11 ≤ 23980 := by omega
theorem om_b6f2eac47d {x0 x1 x2 x3 x4 x5 x6 x7 x8 x9 x10 x11 x12 x13 x14 : Int} (h0 : 0 ≤ x0 ∧ x0 ≤ 15 * x1 + 2) (h1 : x2 = x0) (h2 : x3 = x1) (h3 : x4 = x2) (h4 : x5 = x3) (h5 : x6 = ((x4) + 1)) (h6 : x7 = ((x5) + 1)) (h7 : x8 = (((x6) + 1) + 1)) (h8 : x9 = x7) (h9 : x10 = (x8) + 1) (h10 : x9 + 1 ≤ x11 ∧ x11 ≤ 1500) (h11 : x10 ≤ x12 ∧ x12 - 15 * x11 ≤ x10 - 15 * x9) (h12 : x13 = (x12) + 1) (h13 : x13 ≤ x14 ∧ x14 ≤ x13 + 3) : 0 ≤ x14 ∧ x14 < 24000 := by omega
theorem om_3de7bba961 {x0 x1 x2 x3 x4 x5 x6 x7 x8 x9 x10 x11 : Int} (h0 : 0 ≤ x0 ∧ x0 ≤ 15 * x1 + 2) (h1 : x2 = x0) (h2 : x3 = x2) (h3 : x4 = ((x3) + 1)) (h4 : x5 = (((x4) + 1) + 1)) (h5 : x6 = (x5) + 1) (h6 : x6 ≤ x7 ∧ x7 - 15 * x8 ≤ x6 - 15 * x9) (h7 : x10 = (x7) + 1) (h8 : x10 ≤ x11 ∧ x11 ≤ x10 + 3) : -2147483648 ≤ (x11) + 1 := by omega
theorem om_4254f8dc8b {x0 x1 x2 x3 x4 x5 x6 x7 x8 x9 x10 x11 x12 x13 x14 : Int} (h0 : 0 ≤ x0 ∧ x0 ≤ 15 * x1 + 2) (h1 : x2 = x0) (h2 : x3 = x1) (h3 : x4 = x2) (h4 : x5 = x3) (h5 : x6 = ((x4) + 1)) (h6 : x7 = ((x5) + 1)) (h7 : x8 = (((x6) + 1) + 1)) (h8 : x9 = x7) (h9 : x10 = (x8) + 1) (h10 : x9 + 1 ≤ x11 ∧ x11 ≤ 1500) (h11 : x10 ≤ x12 ∧ x12 - 15 * x11 ≤ x10 - 15 * x9) (h12 : x13 = (x12) + 1) (h13 : x13 ≤ x14 ∧ x14 ≤ x13 + 3) : (x14) + 1 < 2147483648 := by omega
theorem om_f3306244c5 {x0 x1 x2 x3 x4 x5 x6 x7 x8 x9 x10 x11 x12 x13 x14 x15 : Int} (h0 : 0 ≤ x0 ∧ x0 ≤ 15 * x1 + 2) (h1 : x2 = x0) (h2 : x3 = x1) (h3 : x4 = x2) (h4 : x5 = x3) (h5 : x6 = ((x4) + 1)) (h6 : x7 = ((x5) + 1)) (h7 : x8 = (((x6) + 1) + 1)) (h8 : x9 = x7) (h9 : x10 = (x8) + 1) (h10 : x9 + 1 ≤ x11 ∧ x11 ≤ 1500) (h11 : x10 ≤ x12 ∧ x12 - 15 * x11 ≤ x10 - 15 * x9) (h12 : x13 = (x12) + 1) (h13 : x13 ≤ x14 ∧ x14 ≤ x13 + 3) (h14 : x15 = (x14) + 1) : 0 ≤ x15 ∧ x15 < 24000 := by omega
theorem om_ed09ffd06b {x0 x1 x2 x3 x4 x5 x6 x7 x8 x9 x10 x11 : Int} (h0 : 0 ≤ x0 ∧ x0 ≤ 15 * x1 + 2) (h1 : x2 = x0) (h2 : x3 = x2) (h3 : x4 = ((x3) + 1)) (h4 : x5 = (((x4) + 1) + 1)) (h5 : x6 = (x5) + 1) (h6 : x6 ≤ x7 ∧ x7 - 15 * x8 ≤ x6 - 15 * x9) (h7 : x10 = (x7) + 1) (h8 : x10 ≤ x11 ∧ x11 ≤ x10 + 3) : -2147483648 ≤ ((x11) + 1) + 1 := by omega
theorem om_07e8890137 {x0 x1 x2 x3 x4 x5 x6 x7 x8 x9 x10 x11 x12 x13 x14 : Int} (h0 : 0 ≤ x0 ∧ x0 ≤ 15 * x1 + 2) (h1 : x2 = x0) (h2 : x3 = x1) (h3 : x4 = x2) (h4 : x5 = x3) (h5 : x6 = ((x4) + 1)) (h6 : x7 = ((x5) + 1)) (h7 : x8 = (((x6) + 1) + 1)) (h8 : x9 = x7) (h9 : x10 = (x8) + 1) (h10 : x9 + 1 ≤ x11 ∧ x11 ≤ 1500) (h11 : x10 ≤ x12 ∧ x12 - 15 * x11 ≤ x10 - 15 * x9) (h12 : x13 = (x12) + 1) (h13 : x13 ≤ x14 ∧ x14 ≤ x13 + 3) : ((x14) + 1) + 1 < 2147483648 := by omega
theorem om_cb7a67b165 {x0 x1 x2 x3 x4 x5 x6 x7 x8 x9 x10 x11 x12 : Int} (h0 : 0 ≤ x0 ∧ x0 ≤ 10 * x1 + 0) (h1 : x2 = x0) (h2 : x3 = x1) (h3 : x4 = x2) (h4 : x5 = x3) (h5 : x6 = x4) (h6 : x7 = ((x5) + 1)) (h7 : x8 = ((x6) + 1)) (h8 : x9 = x7) (h9 : x9 + 1 ≤ x10 ∧ x10 ≤ 1500) (h10 : x8 ≤ x11 ∧ x11 - 10 * x10 ≤ x8 - 10 * x9) (h11 : x12 = x11 + 1) : 0 ≤ x12 ∧ x12 < 16000 := by omega
theorem om_6330fd09cc {x0 x1 x2 x3 x4 x5 x6 x7 x8 x9 : Int} (h0 : 0 ≤ x0 ∧ x0 ≤ 10 * x1 + 0) (h1 : x2 = x0) (h2 : x3 = x2) (h3 : x4 = x3) (h4 : x5 = ((x4) + 1)) (h5 : x5 ≤ x6 ∧ x6 - 10 * x7 ≤ x5 - 10 * x8) (h6 : x9 = x6 + 1) : -2147483648 ≤ (x9) + 1 := by omega
theorem om_e025864402 {x0 x1 x2 x3 x4 x5 x6 x7 x8 x9 x10 x11 x12 : Int} (h0 : 0 ≤ x0 ∧ x0 ≤ 10 * x1 + 0) (h1 : x2 = x0) (h2 : x3 = x1) (h3 : x4 = x2) (h4 : x5 = x3) (h5 : x6 = x4) (h6 : x7 = ((x5) + 1)) (h7 : x8 = ((x6) + 1)) (h8 : x9 = x7) (h9 : x9 + 1 ≤ x10 ∧ x10 ≤ 1500) (h10 : x8 ≤ x11 ∧ x11 - 10 * x10 ≤ x8 - 10 * x9) (h11 : x12 = x11 + 1) : (x12) + 1 < 2147483648 := by omega
theorem om_9fb68188e9 {x0 x1 x2 x3 x4 x5 x6 x7 x8 x9 x10 x11 x12 : Int} (h0 : 0 ≤ x0 ∧ x0 ≤ 15 * x1 + 2) (h1 : x2 = x0) (h2 : x3 = x2) (h3 : x4 = ((x3) + 1)) (h4 : x5 = (((x4) + 1) + 1)) (h5 : x6 = (x5) + 1) (h6 : x6 ≤ x7 ∧ x7 - 15 * x8 ≤ x6 - 15 * x9) (h7 : x10 = (x7) + 1) (h8 : x10 ≤ x11 ∧ x11 ≤ x10 + 3) (h9 : x12 = (x11) + 1) : 0 ≤ x12 := by omega
theorem om_85ae993d24 {x0 x1 x2 x3 x4 x5 x6 x7 x8 x9 x10 x11 : Int} {n12 : Nat} (h0 : x0 = x1) (h1 : x2 = x0) (h2 : x3 = ((x2) + 1)) (h3 : x4 = (((x3) + 1) + 1)) (h4 : x5 = (x4) + 1) (h5 : x5 ≤ x6 ∧ x6 - 15 * x7 ≤ x5 - 15 * x8) (h6 : x9 = (x6) + 1) (h7 : x9 ≤ x10 ∧ x10 ≤ x9 + 3) (h8 : x11 = (x10) + 1) (h9 : (n12 : Int) < x1) : (n12 : Int) < x11 := by omega
theorem om_4cdd29136f {x0 x1 x2 x3 x4 x5 x6 x7 x8 x9 x10 x11 : Int} (h0 : 0 ≤ x0 ∧ x0 ≤ 15 * x1 + 2) (h1 : x2 = x0) (h2 : x3 = x2) (h3 : x4 = ((x3) + 1)) (h4 : x5 = (((x4) + 1) + 1)) (h5 : x6 = (x5) + 1) (h6 : x6 ≤ x7 ∧ x7 - 15 * x8 ≤ x6 - 15 * x9) (h7 : x10 = (x7) + 1) (h8 : x10 ≤ x11 ∧ x11 ≤ x10 + 3) : 0 ≤ x11 := by omega
theorem om_80c8c87a4a {x0 x1 x2 x3 x4 x5 x6 x7 x8 x9 x10 : Int} {n11 : Nat} (h0 : x0 = x1) (h1 : x2 = x0) (h2 : x3 = ((x2) + 1)) (h3 : x4 = (((x3) + 1) + 1)) (h4 : x5 = (x4) + 1) (h5 : x5 ≤ x6 ∧ x6 - 15 * x7 ≤ x5 - 15 * x8) (h6 : x9 = (x6) + 1) (h7 : x9 ≤ x10 ∧ x10 ≤ x9 + 3) (h8 : (n11 : Int) < x1) : (n11 : Int) < x10 := by omega
theorem om_169de0e561 {x0 x1 x2 x3 x4 x5 x6 x7 x8 x9 : Int} {n10 : Nat} (h0 : x0 = x1) (h1 : x2 = x0) (h2 : x3 = ((x2) + 1)) (h3 : x4 = (((x3) + 1) + 1)) (h4 : x5 = (x4) + 1) (h5 : x5 ≤ x6 ∧ x6 - 15 * x7 ≤ x5 - 15 * x8) (h6 : x9 = (x6) + 1) (h7 : (n10 : Int) < x1) : (n10 : Int) < x9 := by omega
theorem om_3c70fa9427 {x0 x1 x2 x3 x4 x5 x6 x7 x8 x9 : Int} (h0 : 0 ≤ x0 ∧ x0 ≤ 15 * x1 + 2) (h1 : x2 = x0) (h2 : x3 = x2) (h3 : x4 = ((x3) + 1)) (h4 : x5 = (((x4) + 1) + 1)) (h5 : x6 = (x5) + 1) (h6 : x6 ≤ x7 ∧ x7 - 15 * x8 ≤ x6 - 15 * x9) : 0 ≤ x7 := by omega
theorem om_d245c60d5b {x0 x1 x2 x3 x4 x5 x6 x7 x8 : Int} {n9 : Nat} (h0 : x0 = x1) (h1 : x2 = x0) (h2 : x3 = ((x2) + 1)) (h3 : x4 = (((x3) + 1) + 1)) (h4 : x5 = (x4) + 1) (h5 : x5 ≤ x6 ∧ x6 - 15 * x7 ≤ x5 - 15 * x8) (h6 : (n9 : Int) < x1) : (n9 : Int) < x6 := by omega
theorem om_47de812a56 {x0 x1 x2 x3 x4 x5 : Int} {n6 : Nat} (h0 : x0 = x1) (h1 : x2 = x0) (h2 : x3 = ((x2) + 1)) (h3 : x4 = (((x3) + 1) + 1)) (h4 : x5 = (x4) + 1) (h5 : (n6 : Int) < x1) : (n6 : Int) < x5 := by omega
theorem om_537b4d4977 {x0 x1 x2 x3 x4 x5 : Int} (h0 : 0 ≤ x0 ∧ x0 ≤ 15 * x1 + 2) (h1 : x2 = x0) (h2 : x3 = x2) (h3 : x4 = ((x3) + 1)) (h4 : x5 = (((x4) + 1) + 1)) : 0 ≤ x5 := by omega
theorem om_d6c45f30cb {x0 x1 x2 x3 x4 : Int} {n5 : Nat} (h0 : x0 = x1) (h1 : x2 = x0) (h2 : x3 = ((x2) + 1)) (h3 : x4 = (((x3) + 1) + 1)) (h4 : (n5 : Int) < x1) : (n5 : Int) < x4 := by omega
theorem om_792eb33b5b {x0 x1 x2 x3 x4 x5 x6 x7 x8 x9 : Int} (h0 : 0 ≤ x0 ∧ x0 ≤ 10 * x1 + 0) (h1 : x2 = x0) (h2 : x3 = x2) (h3 : x4 = x3) (h4 : x5 = ((x4) + 1)) (h5 : x5 ≤ x6 ∧ x6 - 10 * x7 ≤ x5 - 10 * x8) (h6 : x9 = x6 + 1) : 0 ≤ x9 := by omega
theorem om_001e895624 {x0 x1 x2 x3 x4 x5 x6 x7 x8 : Int} {n9 : Nat} (h0 : x0 = x1) (h1 : x2 = x0) (h2 : x3 = x2) (h3 : x4 = ((x3) + 1)) (h4 : x4 ≤ x5 ∧ x5 - 10 * x6 ≤ x4 - 10 * x7) (h5 : x8 = x5 + 1) (h6 : (n9 : Int) < x1) : (n9 : Int) < x8 := by omega
theorem om_361a029ac7 {x0 x1 x2 x3 x4 x5 x6 x7 : Int} {n8 : Nat} (h0 : x0 = x1) (h1 : x2 = x0) (h2 : x3 = x2) (h3 : x4 = ((x3) + 1)) (h4 : x4 ≤ x5 ∧ x5 - 10 * x6 ≤ x4 - 10 * x7) (h5 : (n8 : Int) < x1) : (n8 : Int) < x5 := by omega
theorem om_306f373bbf {x0 x1 x2 x3 x4 : Int} {n5 : Nat} (h0 : x0 = x1) (h1 : x2 = x0) (h2 : x3 = x2) (h3 : x4 = ((x3) + 1)) (h4 : (n5 : Int) < x1) : (n5 : Int) < x4 := by omega
theorem om_11fd618bcd {x0 x1 x2 x3 x4 x5 x6 x7 x8 x9 : Int} (h0 : 0 ≤ x0 ∧ x0 ≤ 40) (h1 : x1 = x0) (h2 : x2 = x1) (h3 : x3 = ((x2) + 1)) (h4 : x4 = x3) (h5 : x5 = x6 ∧ x7 = x4) (h6 : x8 = x7) (h7 : x9 = x8) : -2147483648 ≤ (x9) - 1 := by omega
theorem om_36cb9c06ee {x0 x1 x2 x3 x4 x5 x6 x7 : Int} (h0 : x0 < 40) (h1 : x1 = ((x0) + 1)) (h2 : x2 = x1) (h3 : x3 = x4 ∧ x5 = x2) (h4 : x6 = x5) (h5 : x7 = x6) : (x7) - 1 < 2147483648 := by omega
theorem om_74d9d85a04 {x0 x1 x2 x3 x4 x5 x6 x7 : Int} (h0 : x0 = x1) (h1 : x2 = x0) (h2 : x3 = ((x2) + 1)) (h3 : x4 = x3) (h4 : x4 + 1 ≤ x5 ∧ x5 ≤ 1500) (h5 : x6 = x5) (h6 : x7 = x6) : x1 + 1 ≤ x7 ∧ x7 ≤ 1500 := by omega
theorem om_49d18ca4ce {x0 x1 x2 x3 x4 x5 x6 x7 x8 : Int} (h0 : x0 = x1) (h1 : (x2 + x3 + 2 ≤ x4 ∧ x5 = x6) ∨ x5 = x1) (h2 : x7 = x0) (h3 : x8 = x5) (h4 : x8 ≠ x7) : x6 ≠ x1 := by omega
theorem om_744bd65ea7 {x0 x1 x2 x3 x4 x5 x6 x7 x8 x9 x10 x11 x12 x13 x14 x15 x16 x17 : Int} (h0 : x0 = x1) (h1 : x2 = x3) (h2 : x4 = x0) (h3 : x5 = x2) (h4 : x6 = ((x4) + 1)) (h5 : x7 = ((x5) + 1)) (h6 : x8 = (((x6) + 1) + 1)) (h7 : x9 = x7) (h8 : x10 = (x8) + 1) (h9 : x10 ≤ x11 ∧ x11 - 15 * x12 ≤ x10 - 15 * x9) (h10 : x13 = (x11) + 1) (h11 : x14 = x12) (h12 : x13 ≤ x15 ∧ x15 ≤ x13 + 3) (h13 : x16 = (((x15) + 1) + 1)) (h14 : x17 = x14) : x1 ≤ x16 ∧ x16 - 15 * x17 ≤ x1 - 15 * x3 := by omega
theorem om_28a6c0901e {x0 x1 x2 x3 x4 x5 x6 x7 x8 x9 x10 x11 x12 x13 x14 x15 : Int} (h0 : x0 = x1) (h1 : x2 = x3) (h2 : x4 = x0) (h3 : x5 = x2) (h4 : x6 = x4) (h5 : x7 = ((x5) + 1)) (h6 : x8 = ((x6) + 1)) (h7 : x9 = x7) (h8 : x8 ≤ x10 ∧ x10 - 10 * x11 ≤ x8 - 10 * x9) (h9 : x12 = x11) (h10 : x13 = x10 + 1) (h11 : x14 = ((x13) + 1)) (h12 : x15 = x12) : x1 ≤ x14 ∧ x14 - 10 * x15 ≤ x1 - 10 * x3 := by omega
theorem om_1682117186 {x0 x1 x2 x3 x4 x5 x6 x7 x8 x9 x10 x11 x12 x13 x14 x15 : Int} (h0 : x0 = x1) (h1 : x2 = x3) (h2 : x4 = x0) (h3 : x5 = x2) (h4 : x6 = ((x4) + 1)) (h5 : x7 = ((x5) + 1)) (h6 : x8 = x6) (h7 : x9 = x7) (h8 : x8 ≤ x10 ∧ x10 - 15 * x11 ≤ x8 - 15 * x9) (h9 : x12 = x11) (h10 : x10 ≤ x13 ∧ x13 ≤ x10 + 1) (h11 : x14 = x13) (h12 : x15 = x12) : x1 ≤ x14 ∧ x14 - 15 * x15 ≤ x1 - 15 * x3 := by omega
theorem om_42b0c5ce3c {x0 x1 x2 x3 x4 x5 x6 x7 x8 x9 x10 x11 x12 x13 x14 x15 : Int} (h0 : x0 = x1) (h1 : x2 = x3) (h2 : x4 = x0) (h3 : x5 = x2) (h4 : x6 = x4) (h5 : x7 = ((x5) + 1)) (h6 : x8 = x6) (h7 : x9 = x7) (h8 : x8 ≤ x10 ∧ x10 - 1 * x11 ≤ x8 - 1 * x9) (h9 : x12 = x10) (h10 : x13 = x11) (h11 : x14 = x12) (h12 : x15 = x13) : x1 ≤ x14 ∧ x14 - 1 * x15 ≤ x1 - 1 * x3 := by omega
theorem om_1db41ba0d3 {x0 x1 x2 x3 x4 x5 x6 x7 x8 x9 x10 x11 x12 x13 x14 x15 x16 x17 x18 : Int} (h0 : x0 = x1) (h1 : x2 = x3) (h2 : x4 = x0) (h3 : x5 = x2) (h4 : x6 = x4) (h5 : x7 = ((x5) + 1)) (h6 : x8 = x6) (h7 : x9 = x7) (h8 : x10 = (x8) + 2) (h9 : x11 = x10 ∧ x12 = x9) (h10 : x13 = (x11) - 2) (h11 : x14 = x13) (h12 : x15 = x12) (h13 : x16 = x14) (h14 : x17 = x15) (h15 : x18 = (x17) - 1) : x16 = x1 ∧ x18 = x3 := by omega
theorem om_39137765dd {x0 x1 x2 x3 x4 x5 x6 x7 : Int} (h0 : x0 ≤ x1 ∧ x1 ≤ 500) (h1 : x2 = x1) (h2 : x3 = x2) (h3 : x4 = x3) (h4 : x4 ≤ x5 ∧ x5 ≤ 500) (h5 : x6 = x5) (h6 : x7 = x6) : x0 ≤ x7 ∧ x7 ≤ 500 := by omega
theorem om_19ac1174f8 {x0 x2 x3 x4 : Int} {n1 n5 : Nat} (h0 : 40 ≤ x0 + (n1 : Int)) (h1 : x2 = x0) (h2 : x3 = x2) (h3 : x4 = ((x3) + 1)) (h4 : n1 = n5 + 1) : 40 ≤ x4 + (n5 : Int) := by omega
theorem om_89d3a5a707 {x0 x1 x2 x3 x4 : Int} (h0 : 0 ≤ x0 ∧ x0 ≤ 15 * x1 + 0) (h1 : x2 = x1) (h2 : x3 = x2) (h3 : x3 < 1500) (h4 : x4 = ((x3) + 1)) : 0 ≤ x4 ∧ x4 ≤ 1500 := by omega
theorem om_d615026097 {x0 x1 x2 x3 : Int} (h0 : 0 ≤ x0 ∧ x0 ≤ 40) (h1 : x1 = x0) (h2 : x2 = x1) (h3 : x2 < 40) (h4 : x3 = ((x2) + 1)) : 0 ≤ x3 ∧ x3 ≤ 40 := by omega
theorem om_9d6e3a5972 {x0 x1 x2 x3 x4 x5 x6 x7 x8 : Int} (h0 : 0 ≤ x0 ∧ x0 ≤ 15 * x1 + 2) (h1 : x2 = x0) (h2 : x3 = x1) (h3 : x4 = x2) (h4 : x5 = x3) (h5 : x6 = ((x4) + 1)) (h6 : x7 = ((x5) + 1)) (h7 : x8 = (x6) + 1) : 0 ≤ x8 ∧ x8 ≤ 15 * x7 + 2 := by omega
theorem om_717e94baf5 {x0 x1 x2 x3 x4 x5 x6 x7 : Int} (h0 : 0 ≤ x0 ∧ x0 ≤ 10 * x1 + 0) (h1 : x2 = x0) (h2 : x3 = x1) (h3 : x4 = x2) (h4 : x5 = x3) (h5 : x6 = x4) (h6 : x7 = ((x5) + 1)) : 0 ≤ x6 ∧ x6 ≤ 10 * x7 + 0 := by omega
theorem om_3ff84f5b14 {x0 x1 x2 x3 x4 x5 x6 x7 : Int} (h0 : 0 ≤ x0 ∧ x0 ≤ 15 * x1 + 0) (h1 : x2 = x0) (h2 : x3 = x1) (h3 : x4 = x2) (h4 : x5 = x3) (h5 : x6 = ((x4) + 1)) (h6 : x7 = ((x5) + 1)) : 0 ≤ x6 ∧ x6 ≤ 15 * x7 + 0 := by omega
theorem om_085c97aba1 {x0 x1 x2 x3 x4 x5 x6 x7 : Int} (h0 : 0 ≤ x0 ∧ x0 ≤ 1 * x1 + 0) (h1 : x2 = x0) (h2 : x3 = x1) (h3 : x4 = x2) (h4 : x5 = x3) (h5 : x6 = x4) (h6 : x7 = ((x5) + 1)) : 0 ≤ x6 ∧ x6 ≤ 1 * x7 + 0 := by omega
theorem om_e8cfdc50e4 {x0 x1 x2 x3 x4 x5 x6 x7 x8 x9 x10 : Int} (h0 : 0 ≤ x0 ∧ x0 ≤ 15 * x1 + 2) (h1 : x2 = x0) (h2 : x3 = x1) (h3 : x4 = x2) (h4 : x5 = x3) (h5 : x6 = ((x4) + 1)) (h6 : x7 = ((x5) + 1)) (h7 : x8 = (x6) + 1) (h8 : x7 + 1 ≤ x9 ∧ x9 ≤ 1500) (h9 : x8 ≤ x10 ∧ x10 - 15 * x9 ≤ x8 - 15 * x7) : 0 ≤ x10 ∧ x10 < 24000 := by omega
theorem om_4469a7a86b {x0 x1 x2 x3 x4 x5 x6 x7 x8 : Int} (h0 : 0 ≤ x0 ∧ x0 ≤ 15 * x1 + 2) (h1 : x2 = x0) (h2 : x3 = x2) (h3 : x4 = ((x3) + 1)) (h4 : x5 = (x4) + 1) (h5 : x5 ≤ x6 ∧ x6 - 15 * x7 ≤ x5 - 15 * x8) : -2147483648 ≤ (x6) + 1 := by omega
theorem om_847e1b4093 {x0 x1 x2 x3 x4 x5 x6 x7 x8 x9 x10 : Int} (h0 : 0 ≤ x0 ∧ x0 ≤ 15 * x1 + 2) (h1 : x2 = x0) (h2 : x3 = x1) (h3 : x4 = x2) (h4 : x5 = x3) (h5 : x6 = ((x4) + 1)) (h6 : x7 = ((x5) + 1)) (h7 : x8 = (x6) + 1) (h8 : x7 + 1 ≤ x9 ∧ x9 ≤ 1500) (h9 : x8 ≤ x10 ∧ x10 - 15 * x9 ≤ x8 - 15 * x7) : (x10) + 1 < 2147483648 := by omega
theorem om_c283648cec {x0 x1 x2 x3 x4 x5 x6 x7 x8 x9 x10 x11 : Int} (h0 : 0 ≤ x0 ∧ x0 ≤ 15 * x1 + 2) (h1 : x2 = x0) (h2 : x3 = x1) (h3 : x4 = x2) (h4 : x5 = x3) (h5 : x6 = ((x4) + 1)) (h6 : x7 = ((x5) + 1)) (h7 : x8 = (x6) + 1) (h8 : x7 + 1 ≤ x9 ∧ x9 ≤ 1500) (h9 : x8 ≤ x10 ∧ x10 - 15 * x9 ≤ x8 - 15 * x7) (h10 : x11 = (x10) + 1) : 0 ≤ x11 ∧ x11 < 24000 := by omega
theorem om_718459d190 {x0 x1 x2 x3 x4 x5 x6 x7 x8 : Int} (h0 : 0 ≤ x0 ∧ x0 ≤ 15 * x1 + 2) (h1 : x2 = x0) (h2 : x3 = x2) (h3 : x4 = ((x3) + 1)) (h4 : x5 = (x4) + 1) (h5 : x5 ≤ x6 ∧ x6 - 15 * x7 ≤ x5 - 15 * x8) : -2147483648 ≤ ((x6) + 1) + 1 := by omega
theorem om_e63f7f2bb8 {x0 x1 x2 x3 x4 x5 x6 x7 x8 x9 x10 : Int} (h0 : 0 ≤ x0 ∧ x0 ≤ 15 * x1 + 2) (h1 : x2 = x0) (h2 : x3 = x1) (h3 : x4 = x2) (h4 : x5 = x3) (h5 : x6 = ((x4) + 1)) (h6 : x7 = ((x5) + 1)) (h7 : x8 = (x6) + 1) (h8 : x7 + 1 ≤ x9 ∧ x9 ≤ 1500) (h9 : x8 ≤ x10 ∧ x10 - 15 * x9 ≤ x8 - 15 * x7) : ((x10) + 1) + 1 < 2147483648 := by omega
theorem om_fa713f4282 {x0 x1 x2 x3 x4 x5 x6 x7 x8 x9 : Int} (h0 : 0 ≤ x0 ∧ x0 ≤ 10 * x1 + 0) (h1 : x2 = x0) (h2 : x3 = x1) (h3 : x4 = x2) (h4 : x5 = x3) (h5 : x6 = x4) (h6 : x7 = ((x5) + 1)) (h7 : x7 + 1 ≤ x8 ∧ x8 ≤ 1500) (h8 : x6 ≤ x9 ∧ x9 - 10 * x8 ≤ x6 - 10 * x7) : 0 ≤ x9 ∧ x9 < 16000 := by omega
theorem om_f60991243c {x0 x1 x2 x3 x4 x5 x6 x7 : Int} (h0 : 0 ≤ x0 ∧ x0 ≤ 10 * x1 + 0) (h1 : x2 = x0) (h2 : x3 = x2) (h3 : x4 = x3) (h4 : x4 ≤ x5 ∧ x5 - 10 * x6 ≤ x4 - 10 * x7) : -2147483648 ≤ (x5) + 1 := by omega
theorem om_be77dd0a8b {x0 x1 x2 x3 x4 x5 x6 x7 x8 x9 : Int} (h0 : 0 ≤ x0 ∧ x0 ≤ 10 * x1 + 0) (h1 : x2 = x0) (h2 : x3 = x1) (h3 : x4 = x2) (h4 : x5 = x3) (h5 : x6 = x4) (h6 : x7 = ((x5) + 1)) (h7 : x7 + 1 ≤ x8 ∧ x8 ≤ 1500) (h8 : x6 ≤ x9 ∧ x9 - 10 * x8 ≤ x6 - 10 * x7) : (x9) + 1 < 2147483648 := by omega
theorem om_2629539833 {x0 x1 x2 x3 x4 x5 x6 x7 x8 x9 : Int} (h0 : 0 ≤ x0 ∧ x0 ≤ 15 * x1 + 2) (h1 : x2 = x0) (h2 : x3 = x2) (h3 : x4 = ((x3) + 1)) (h4 : x5 = (x4) + 1) (h5 : x5 ≤ x6 ∧ x6 - 15 * x7 ≤ x5 - 15 * x8) (h6 : x9 = (x6) + 1) : 0 ≤ x9 := by omega
theorem om_79545c1057 {x0 x1 x2 x3 x4 x5 x6 x7 x8 : Int} {n9 : Nat} (h0 : x0 = x1) (h1 : x2 = x0) (h2 : x3 = ((x2) + 1)) (h3 : x4 = (x3) + 1) (h4 : x4 ≤ x5 ∧ x5 - 15 * x6 ≤ x4 - 15 * x7) (h5 : x8 = (x5) + 1) (h6 : (n9 : Int) < x1) : (n9 : Int) < x8 := by omega
theorem om_4816151ae0 {x0 x1 x2 x3 x4 x5 x6 x7 x8 : Int} (h0 : 0 ≤ x0 ∧ x0 ≤ 15 * x1 + 2) (h1 : x2 = x0) (h2 : x3 = x2) (h3 : x4 = ((x3) + 1)) (h4 : x5 = (x4) + 1) (h5 : x5 ≤ x6 ∧ x6 - 15 * x7 ≤ x5 - 15 * x8) : 0 ≤ x6 := by omega
theorem om_9021ccbd68 {x0 x1 x2 x3 x4 x5 x6 x7 : Int} {n8 : Nat} (h0 : x0 = x1) (h1 : x2 = x0) (h2 : x3 = ((x2) + 1)) (h3 : x4 = (x3) + 1) (h4 : x4 ≤ x5 ∧ x5 - 15 * x6 ≤ x4 - 15 * x7) (h5 : (n8 : Int) < x1) : (n8 : Int) < x5 := by omega
theorem om_f7130cfae7 {x0 x1 x2 x3 x4 x5 x6 x7 : Int} (h0 : 0 ≤ x0 ∧ x0 ≤ 10 * x1 + 0) (h1 : x2 = x0) (h2 : x3 = x2) (h3 : x4 = x3) (h4 : x4 ≤ x5 ∧ x5 - 10 * x6 ≤ x4 - 10 * x7) : 0 ≤ x5 := by omega
theorem om_59d2ce1b94 {x0 x1 x2 x3 x4 x5 x6 : Int} {n7 : Nat} (h0 : x0 = x1) (h1 : x2 = x0) (h2 : x3 = x2) (h3 : x3 ≤ x4 ∧ x4 - 10 * x5 ≤ x3 - 10 * x6) (h4 : (n7 : Int) < x1) : (n7 : Int) < x4 := by omega
theorem om_3b7e1f9c21 {x0 x1 x2 x3 x4 x5 x6 x7 : Int} (h0 : 0 ≤ x0 ∧ x0 ≤ 40) (h1 : x1 = x0) (h2 : x2 = x1) (h3 : x3 = ((x2) + 1)) (h4 : x4 = x5 ∧ x6 = x3) (h5 : x7 = x6) : -2147483648 ≤ (x7) - 1 := by omega
theorem om_40562f0631 {x0 x1 x2 x3 x4 x5 : Int} (h0 : x0 < 40) (h1 : x1 = ((x0) + 1)) (h2 : x2 = x3 ∧ x4 = x1) (h3 : x5 = x4) : (x5) - 1 < 2147483648 := by omega
theorem om_8ef373c47d {x0 x1 x2 x3 x4 x5 : Int} (h0 : x0 = x1) (h1 : x2 = x0) (h2 : x3 = ((x2) + 1)) (h3 : x3 + 1 ≤ x4 ∧ x4 ≤ 1500) (h4 : x5 = x4) : x1 + 1 ≤ x5 ∧ x5 ≤ 1500 := by omega
theorem om_c44fddca14 {x0 x1 x2 x3 x4 x5 x6 x7 x8 x9 x10 x11 x12 : Int} (h0 : x0 = x1) (h1 : x2 = x3) (h2 : x4 = x0) (h3 : x5 = x2) (h4 : x6 = ((x4) + 1)) (h5 : x7 = ((x5) + 1)) (h6 : x8 = (x6) + 1) (h7 : x8 ≤ x9 ∧ x9 - 15 * x10 ≤ x8 - 15 * x7) (h8 : x11 = (((x9) + 1) + 1)) (h9 : x12 = x10) : x1 ≤ x11 ∧ x11 - 15 * x12 ≤ x1 - 15 * x3 := by omega
theorem om_04ff0c7bff {x0 x1 x2 x3 x4 x5 x6 x7 x8 x9 x10 x11 : Int} (h0 : x0 = x1) (h1 : x2 = x3) (h2 : x4 = x0) (h3 : x5 = x2) (h4 : x6 = x4) (h5 : x7 = ((x5) + 1)) (h6 : x6 ≤ x8 ∧ x8 - 10 * x9 ≤ x6 - 10 * x7) (h7 : x10 = ((x8) + 1)) (h8 : x11 = x9) : x1 ≤ x10 ∧ x10 - 10 * x11 ≤ x1 - 10 * x3 := by omega
theorem om_3da5a9f2ff {x0 x1 x2 x3 x4 x5 x6 x7 x8 x9 x10 x11 : Int} (h0 : x0 = x1) (h1 : x2 = x3) (h2 : x4 = x0) (h3 : x5 = x2) (h4 : x6 = ((x4) + 1)) (h5 : x7 = ((x5) + 1)) (h6 : x6 ≤ x8 ∧ x8 - 15 * x9 ≤ x6 - 15 * x7) (h7 : x10 = x8) (h8 : x11 = x9) : x1 ≤ x10 ∧ x10 - 15 * x11 ≤ x1 - 15 * x3 := by omega
theorem om_2573453ea3 {x0 x1 x2 x3 x4 x5 x6 x7 x8 x9 x10 x11 : Int} (h0 : x0 = x1) (h1 : x2 = x3) (h2 : x4 = x0) (h3 : x5 = x2) (h4 : x6 = x4) (h5 : x7 = ((x5) + 1)) (h6 : x6 ≤ x8 ∧ x8 - 1 * x9 ≤ x6 - 1 * x7) (h7 : x10 = x8) (h8 : x11 = x9) : x1 ≤ x10 ∧ x10 - 1 * x11 ≤ x1 - 1 * x3 := by omega
theorem om_cca87e3ce4 {x0 x1 x2 x3 x4 x5 x6 x7 x8 x9 x10 x11 x12 x13 : Int} (h0 : x0 = x1) (h1 : x2 = x3) (h2 : x4 = x0) (h3 : x5 = x2) (h4 : x6 = x4) (h5 : x7 = ((x5) + 1)) (h6 : x8 = (x6) + 1) (h7 : x9 = x8 ∧ x10 = x7) (h8 : x11 = ((x9) - 1)) (h9 : x12 = x10) (h10 : x13 = (x12) - 1) : x11 = x1 ∧ x13 = x3 := by omega
theorem om_8e26302c24 {x0 x1 x2 x3 x4 x5 : Int} (h0 : x0 ≤ x1 ∧ x1 ≤ 500) (h1 : x2 = x1) (h2 : x3 = x2) (h3 : x3 ≤ x4 ∧ x4 ≤ 500) (h4 : x5 = x4) : x0 ≤ x5 ∧ x5 ≤ 500 := by omega
set_option maxHeartbeats 16000000 in
set_option maxRecDepth 100000 in
theorem c_m_sets (l : Launch) (n : Nat) (ihE : ∀ m, n = m + 1 → Cx_expression l m) (dC : Nat → ClassId) (dI : Nat → Nat → Nat) (cI cB cZ cJ cR : ClassId) (tb : Nat → Nat) (sz : Nat) (ad : Nat → Nat) (N : Nat) (v : MS) (pa : Int32) (pb : Int32) (pc1 : Int32) (pd : Int32) (zn : 40 ≤ (v.1 0 48).toInt + (n : Int)) (zt : 0 ≤ (v.1 0 47).toInt ∧ (v.1 0 47).toInt ≤ 1500) (zop : 0 ≤ (v.1 0 48).toInt ∧ (v.1 0 48).toInt ≤ 40) (zkn : 0 ≤ (v.1 0 30).toInt ∧ (v.1 0 30).toInt ≤ 500) (zhi : 0 ≤ (v.1 0 33).toInt ∧ (v.1 0 33).toInt ≤ 500) (zs : 0 ≤ (v.1 0 32).toInt ∧ (v.1 0 30).toInt + (v.1 0 32).toInt ≤ 500) (zws : 0 ≤ (v.1 0 12).toInt ∧ (v.1 0 12).toInt ≤ 15 * (v.1 0 47).toInt + 2) (zos : 0 ≤ (v.1 0 15).toInt ∧ (v.1 0 15).toInt ≤ 10 * (v.1 0 47).toInt + 0) (zfs : 0 ≤ (v.1 0 43).toInt ∧ (v.1 0 43).toInt ≤ 15 * (v.1 0 47).toInt + 0) (zcs : 0 ≤ (v.1 0 39).toInt ∧ (v.1 0 39).toInt ≤ 1 * (v.1 0 47).toInt + 0) (zgl : 0 ≤ (v.1 0 27).toInt ∧ (v.1 0 27).toInt ≤ 60) (hT : TI v) (n29 : NI 29 v) (n23 : NI 23 v) (n35 : NI 35 v) (zg : 0 ≤ pa.toInt ∨ (0 ≤ pb.toInt ∧ pb.toInt < 60)) (zi : pc1.toInt = 0 ∨ (0 ≤ pb.toInt ∧ pb.toInt < 60)) : vx_Met l yX13_sets (Cond.code yX13_sets cX13_sets 8 none :: tw_W) ({ frames := 40 * n + 6, cells := 0, slots := 0, locals := 28 * (40 * n + 6) }) (pc_ (dC, dI) (tyS cI cB cZ cJ cR) tb (mW ad N cI cZ cJ v) sz [.ref (ad 0), .int pa, .int pb, .int pc1, .int pd]) (qv_ (dC, dI) (mW ad N cI cZ cJ v) sz (fun (u : MS) => FG [12, 15, 32, 33, 39, 43, 44, 45, 47, 48, 49, 50, 51] [0, 11, 13, 14, 35, 36, 37, 38, 40, 41, 42] v u ∧ ((v.1 0 47).toInt + 1 ≤ (u.1 0 47).toInt ∧ (u.1 0 47).toInt ≤ 1500) ∧ ((v.1 0 49).toInt ≠ (v.1 0 47).toInt) ∧ ((v.1 0 12).toInt ≤ (u.1 0 12).toInt ∧ (u.1 0 12).toInt - 15 * (u.1 0 47).toInt ≤ (v.1 0 12).toInt - 15 * (v.1 0 47).toInt) ∧ ((v.1 0 15).toInt ≤ (u.1 0 15).toInt ∧ (u.1 0 15).toInt - 10 * (u.1 0 47).toInt ≤ (v.1 0 15).toInt - 10 * (v.1 0 47).toInt) ∧ ((v.1 0 43).toInt ≤ (u.1 0 43).toInt ∧ (u.1 0 43).toInt - 15 * (u.1 0 47).toInt ≤ (v.1 0 43).toInt - 15 * (v.1 0 47).toInt) ∧ ((v.1 0 39).toInt ≤ (u.1 0 39).toInt ∧ (u.1 0 39).toInt - 1 * (u.1 0 47).toInt ≤ (v.1 0 39).toInt - 1 * (v.1 0 47).toInt) ∧ ((u.1 0 32).toInt = (v.1 0 32).toInt ∧ (u.1 0 48).toInt = (v.1 0 48).toInt) ∧ ((v.1 0 33).toInt ≤ (u.1 0 33).toInt ∧ (u.1 0 33).toInt ≤ 500) ∧ (∀ j : Nat, (j : Int) < (v.1 0 12).toInt → (u.1 11) j = (v.1 11) j) ∧ (∀ j : Nat, (j : Int) < (v.1 0 15).toInt → (u.1 13) j = (v.1 13) j) ∧ (∀ j : Nat, (j : Int) < (v.1 0 15).toInt → (u.1 14) j = (v.1 14) j) ∧ (NI 35 u)) (fun (u : MS) => (mW ad N cI cZ cJ u))) (qxm (dC, dI) (mW ad N cI cZ cJ v) sz (fun (u : MS) => (mW ad N cI cZ cJ u)) (fun (u : MS) => Fr v u)) 0 0 (va_A (mW ad N cI cZ cJ v) sz) := by
  refine vx_ofW (cc := cX13_sets) (maxL := 8) (ret := none) (by decide) rfl ?_
  intro p e s m args below meth c s₁ B hml hnt hv
  obtain ⟨rfl, hsz, hP, hKK, hD0, hFx⟩ := hv
  have hK := hKK.1
  have hx := B.exec
  have hb := B.bytes
  have hr := B.returns
  have ht : ∀ w ∈ tw_W, w.before _ s = true := fun w h => atoms_spec (ws := Cond.code yX13_sets cX13_sets 8 none :: tw_W) B.pre w (List.mem_cons_of_mem _ h)
  have hown : s.vm.findClass RX13 = some m.cls := findClass_of_methodNamed B.named
  have hlocks := B.notSynchronized
  subst hsz
  unfold qv_ qxm
  have hD := hD0.self (sz := s.heap.size)
  generalize hAe : va_A (mW ad N cI cZ cJ v) s.heap.size = A at hD hFx ⊢
  have hA : ∀ q : Nat, s.heap.size ≤ q → A q := fun q h => by rw [← hAe]; exact Or.inr h
  have hS : va_S A s.heap s.heap [] := va_S.rf
  have hl := lv_entry ([.ref (ad 0), .int pa, .int pb, .int pc1, .int pd]) (n := 8) (Nat.le_of_ble_eq_true rfl)
  rw [lg_entry_eq]
  generalize (lg_sl ([.ref (ad 0), .int pa, .int pb, .int pc1, .int pd]) ++ List.replicate (8 - (lg_sl ([.ref (ad 0), .int pa, .int pb, .int pc1, .int pd])).length) Slot.unset).toArray = ls at hl ⊢
  have hl : lv_has ls 8 [(0, .ref (ad 0)), (1, .int pa), (2, .int pb), (3, .int pc1), (4, .int pd)] := hl
  refine lv_iload_n hx hb dX13_sets_0 rfl (lv_at hl 3 rfl) ?_
  refine lv_if_eq (tgt := 8) hx hb dX13_sets_1 (by decide) (fun h1 => ?_) (fun h1 => ?_)
  · have z2 : pc1.toInt = 0 := eq_z rfl (show (0 : Int32).toInt = 0 by decide) h1
    refine lv_iconst (v := 0) hx hb dX13_sets_8 (by decide) ?_
    refine lv_iload hx hb dX13_sets_9 (lv_at hl 4 rfl) ?_
    refine lv_if_ne (tgt := 18) hx hb dX13_sets_11 (by decide) (fun h3 => ?_) (fun h3 => ?_)
    · have z4 : pd.toInt ≠ 0 := ne_z rfl (show (0 : Int32).toInt = 0 by decide) h3
      refine lv_iconst (v := 1) hx hb dX13_sets_18 (by decide) ?_
      refine lv_iadd hx hb dX13_sets_19 ?_
      refine tp_i (y := 1) (by decide) ?_
      refine lv_istore (lv' := [(5, .int 1), (0, .ref (ad 0)), (1, .int pa), (2, .int pb), (3, .int pc1), (4, .int pd)]) hx hb dX13_sets_20 hl (by decide) rfl (fun ls hl => ?_)
      refine lv_aload_n hx hb dX13_sets_22 rfl (lv_at hl 1 rfl) ?_
      refine lv_iload hx hb dX13_sets_23 (lv_at hl 0 rfl) ?_
      refine cu_i (rn_V (n := 1) (As := [.int 1]) (rest := []) hx hb hml hown ht hKK hFx hP hD hS hA (c_m_slots l dC dI cI cB cZ cJ cR tb s.heap.size ad N v (1 : Int32) (show 0 ≤ (v.1 0 30).toInt ∧ (v.1 0 30).toInt ≤ 500 from (om_9861e69da5 zkn)) (show 0 ≤ (v.1 0 32).toInt ∧ (v.1 0 32).toInt ≤ 2000 from (om_ce871d329a zkn zs)) (show 0 ≤ (v.1 0 33).toInt ∧ (v.1 0 33).toInt ≤ 500 from (om_9861e69da5 zhi)) (show 0 ≤ 1 ∧ 1 ≤ 8 from om_9f427a292a)) tw_88 tw_89 (by decide +kernel) rfl rfl ⟨show 0 + 1 ≤ 40 * n + 6 from om_19dfed8989, show 8 + (3 + 11) + 0 ≤ 28 * (40 * n + 6) from om_bc89bc7b20⟩ (List.range (mW ad N cI cZ cJ v).length) (rg_map _) (mW_nd _ _ _ _ _ _) rfl rfl rfl rfl hl.1 rfl (Nat.le_of_ble_eq_true rfl) dX13_sets_25 ⟨Nat.le_of_ble_eq_true rfl, Nat.le_of_ble_eq_true rfl⟩) hP hD hS hA (fun r7 u6 H locs hw5 hP hD hS => ?_)
      obtain ⟨fr5, sr5, sb5, sh5⟩ := hw5
      have sb5 : ((v.1 0 30).toInt + (v.1 0 32).toInt + 1 ≤ (u6.1 0 33).toInt ∧ (u6.1 0 49).toInt = (v.1 0 49).toInt) ∨ (u6.1 0 49).toInt = (v.1 0 47).toInt := sb5
      refine W.widen (k := 0) (n := 0) (Nat.le_refl _) (Nat.le_refl _) ?_
      refine lv_istore (lv' := [(6, .int r7), (5, .int 1), (0, .ref (ad 0)), (1, .int pa), (2, .int pb), (3, .int pc1), (4, .int pd)]) hx hb dX13_sets_28 hl (by decide) rfl (fun ls hl => ?_)
      refine lv_iload hx hb dX13_sets_30 (lv_at hl 0 rfl) ?_
      refine lv_iload_n hx hb dX13_sets_32 rfl (lv_at hl 5 rfl) ?_
      refine lv_if_eq (tgt := 40) hx hb dX13_sets_33 (by decide) (fun h8 => ?_) (fun h8 => ?_)
      · have z9 : pc1.toInt = 0 := eq_z rfl (show (0 : Int32).toInt = 0 by decide) h8
        refine lv_iconst (v := 0) hx hb dX13_sets_40 (by decide) ?_
        refine lv_iadd hx hb dX13_sets_41 ?_
        have z10 : (r7 + (0 : Int32)).toInt = r7.toInt + 0 := add_z rfl (show (0 : Int32).toInt = 0 by decide) (om_7480f1d756 zkn zs sr5) (om_f880433be5 zs sr5)
        refine lv_istore (lv' := [(7, .int (r7 + (0 : Int32))), (6, .int r7), (5, .int 1), (0, .ref (ad 0)), (1, .int pa), (2, .int pb), (3, .int pc1), (4, .int pd)]) hx hb dX13_sets_42 hl (by decide) rfl (fun ls hl => ?_)
        refine lv_aload_n hx hb dX13_sets_44 rfl (lv_at hl 3 rfl) ?_
        refine lv_iload hx hb dX13_sets_45 (lv_at hl 7 rfl) ?_
        refine cu_v (rn_V (n := 1) (As := [.int pd]) (rest := []) hx hb hml hown ht hKK hFx hP hD hS hA (c_m_remember l dC dI cI cB cZ cJ cR tb H.size ad N u6 pd ) tw_90 tw_91 (by decide +kernel) rfl rfl ⟨show 0 + 1 ≤ 40 * n + 6 from om_19dfed8989, show 8 + (2 + 11) + 0 ≤ 28 * (40 * n + 6) from om_37bd887971⟩ (List.range (mW ad N cI cZ cJ u6).length) (rg_map _) (mW_nd _ _ _ _ _ _) rfl rfl rfl rfl hl.1 rfl (Nat.le_of_ble_eq_true rfl) dX13_sets_47 ⟨Nat.le_of_ble_eq_true rfl, Nat.le_of_ble_eq_true rfl⟩) hP hD hS hA (fun u12 H locs hw11 hP hD hS => ?_)
        have fr11 := hw11
        refine W.widen (k := 0) (n := 0) (Nat.le_refl _) (Nat.le_refl _) ?_
        refine lv_aload_n hx hb dX13_sets_50 rfl (lv_at hl 3 rfl) ?_
        have q14 : (u6.1 0 47).toInt = (v.1 0 47).toInt := congrArg Int32.toInt ((fr5.2.1 47 (by decide)).trans (show v.1 0 47 = (v.1 0 47) by rfl))
        have q15 : (u12.1 0 47).toInt = (u6.1 0 47).toInt := congrArg Int32.toInt ((fr11.2.1 47 (by decide)).trans (show u6.1 0 47 = (u6.1 0 47) by rfl))
        have q16 : (u6.1 0 48).toInt = (v.1 0 48).toInt := congrArg Int32.toInt ((fr5.2.1 48 (by decide)).trans (show v.1 0 48 = (v.1 0 48) by rfl))
        have q17 : (u12.1 0 48).toInt = (u6.1 0 48).toInt := congrArg Int32.toInt ((fr11.2.1 48 (by decide)).trans (show u6.1 0 48 = (u6.1 0 48) by rfl))
        refine cux_v (rx_V (n := 0) (As := []) (rest := []) hx hb hml hown ht hKK hFx hP hD hS hA (c_m_opens l dC dI cI cB cZ cJ cR tb H.size ad N u12  (show 0 ≤ (u12.1 0 47).toInt ∧ (u12.1 0 47).toInt ≤ 1500 from (om_5fecd403fd zt zfs q14 q15)) (show 0 ≤ (u12.1 0 48).toInt ∧ (u12.1 0 48).toInt ≤ 40 from (om_68f540929a zop q16 q17))) tw_38 tw_39 (by decide +kernel) rfl rfl ⟨show 2 + 1 ≤ 40 * n + 6 from om_0978fa5f20, show 8 + (1 + 11) + 42 ≤ 28 * (40 * n + 6) from om_294f7df5f2⟩ (List.range (mW ad N cI cZ cJ u12).length) (rg_map _) (mW_nd _ _ _ _ _ _) rfl rfl rfl rfl hl.1 rfl (Nat.le_of_ble_eq_true rfl) dX13_sets_51 ⟨Nat.le_of_ble_eq_true rfl, Nat.le_of_ble_eq_true rfl⟩) hP hD hS hA (fun u9 ce9 q9 H locs hx9 hP hD hS hc9 hv9 hf9 => ?_) (fun u19 H locs hw18 hP hD hS => ?_)
        · exact vx_out (fun x h9 => (hnt x h9).elim) hlocks hc9 hv9 hf9 (fun t9 ht9 hv8 => ⟨u9, (FG.tr (FG.tr (FG.tr (FG.rf _) (FG.up fr5 (by decide) (by decide))) (FG.up fr11 (by decide) (by decide))) hx9), ⟨rfl, by rw [ht9]; exact hP, hD⟩, hS.F ht9⟩) hS.2.2 (Nat.le_refl _) (Nat.le_refl _)
        obtain ⟨rfl, a18, b18, c18⟩ := hw18
        have z21 : ((u12.1 0 47) + (1 : Int32)).toInt = ((u12.1 0 47).toInt) + 1 := add_z rfl (show (1 : Int32).toInt = 1 by decide) (om_29681806c1 q14 q15) (om_d17f6a6aca zt q14 q15)
        have z22 : ((u12.1 0 48) + (1 : Int32)).toInt = ((u12.1 0 48).toInt) + 1 := add_z rfl (show (1 : Int32).toInt = 1 by decide) (om_fbac2a78d1 zop q16 q17) (om_241463b4b2 zop q16 q17)
        have hP : va_P (dC, dI) vwCl (mW ad N cI cZ cJ (wA (wA u12 0 47 ((u12.1 0 47) + (1 : Int32))) 0 48 ((u12.1 0 48) + (1 : Int32)))) H := hP
        have hD : va_D A (mW ad N cI cZ cJ (wA (wA u12 0 47 ((u12.1 0 47) + (1 : Int32))) 0 48 ((u12.1 0 48) + (1 : Int32)))) := hD
        have a18 : (u12.1 0 47).toInt < 1500 := a18
        have b18 : (u12.1 0 48).toInt < 40 := b18
        have c18 : (u12.1 0 49).toInt ≠ (u12.1 0 47).toInt := c18
        refine W.widen (k := 0) (n := 0) (Nat.le_refl _) (Nat.le_refl _) ?_
        refine lv_iload_n hx hb dX13_sets_54 rfl (lv_at hl 6 rfl) ?_
        refine lv_if_eq (tgt := 127) hx hb dX13_sets_55 (by decide) (fun h23 => ?_) (fun h23 => ?_)
        · have z24 : pc1.toInt = 0 := eq_z rfl (show (0 : Int32).toInt = 0 by decide) h23
          refine lv_iload hx hb dX13_sets_127 (lv_at hl 7 rfl) ?_
          refine lv_if_eq (tgt := 138) hx hb dX13_sets_129 (by decide) (fun h25 => ?_) (fun h25 => ?_)
          · have z26 : pd.toInt = 0 := eq_z rfl (show (0 : Int32).toInt = 0 by decide) h25
            exact False.elim (om_09bd01a305 z4 z26)
          · have z27 : pd.toInt ≠ 0 := ne_z rfl (show (0 : Int32).toInt = 0 by decide) h25
            refine lv_aload_n hx hb dX13_sets_132 rfl (lv_at hl 3 rfl) ?_
            refine lv_iload_n hx hb dX13_sets_133 rfl (lv_at hl 4 rfl) ?_
            refine lv_iload_n hx hb dX13_sets_134 rfl (lv_at hl 5 rfl) ?_
            have q28 : (u6.1 0 12).toInt = (v.1 0 12).toInt := congrArg Int32.toInt ((fr5.2.1 12 (by decide)).trans (show v.1 0 12 = (v.1 0 12) by rfl))
            have q29 : (u12.1 0 12).toInt = (u6.1 0 12).toInt := congrArg Int32.toInt ((fr11.2.1 12 (by decide)).trans (show u6.1 0 12 = (u6.1 0 12) by rfl))
            have q30 : (u6.1 0 15).toInt = (v.1 0 15).toInt := congrArg Int32.toInt ((fr5.2.1 15 (by decide)).trans (show v.1 0 15 = (v.1 0 15) by rfl))
            have q31 : (u12.1 0 15).toInt = (u6.1 0 15).toInt := congrArg Int32.toInt ((fr11.2.1 15 (by decide)).trans (show u6.1 0 15 = (u6.1 0 15) by rfl))
            have q32 : (u6.1 0 43).toInt = (v.1 0 43).toInt := congrArg Int32.toInt ((fr5.2.1 43 (by decide)).trans (show v.1 0 43 = (v.1 0 43) by rfl))
            have q33 : (u12.1 0 43).toInt = (u6.1 0 43).toInt := congrArg Int32.toInt ((fr11.2.1 43 (by decide)).trans (show u6.1 0 43 = (u6.1 0 43) by rfl))
            refine cu_v (rn_V (n := 2) (As := [.int pa, .int pb]) (rest := []) hx hb hml hown ht hKK hFx hP hD hS hA (c_m_fetch l dC dI cI cB cZ cJ cR tb H.size ad N (wA (wA u12 0 47 ((u12.1 0 47) + (1 : Int32))) 0 48 ((u12.1 0 48) + (1 : Int32))) pa pb (show 0 ≤ (u12.1 0 12).toInt ∧ (u12.1 0 12).toInt ≤ 23980 from (om_52f71fb3a8 zt zws q28 q29)) (show 0 ≤ (u12.1 0 15).toInt ∧ (u12.1 0 15).toInt ≤ 15980 from (om_a7c71214a0 zt zos q30 q31)) (show 0 ≤ (u12.1 0 43).toInt ∧ (u12.1 0 43).toInt ≤ 23980 from (om_a2ff1aaf14 zt zfs q32 q33)) (show 0 ≤ pa.toInt ∨ (0 ≤ pb.toInt ∧ pb.toInt < 60) from (om_7cbb2eb25c zg))) tw_92 tw_93 (by decide +kernel) rfl rfl ⟨show 2 + 1 ≤ 40 * n + 6 from om_0978fa5f20, show 8 + (3 + 11) + 46 ≤ 28 * (40 * n + 6) from om_4e9227252f⟩ (List.range (mW ad N cI cZ cJ (wA (wA u12 0 47 ((u12.1 0 47) + (1 : Int32))) 0 48 ((u12.1 0 48) + (1 : Int32)))).length) (rg_map _) (mW_nd _ _ _ _ _ _) rfl rfl rfl rfl hl.1 rfl (Nat.le_of_ble_eq_true rfl) dX13_sets_135 ⟨Nat.le_of_ble_eq_true rfl, Nat.le_of_ble_eq_true rfl⟩) hP hD hS hA (fun u35 H locs hw34 hP hD hS => ?_)
            obtain ⟨fr34, pw34, po34, pf34, kc34, ko34, kg34⟩ := hw34
            have pw34 : (u12.1 0 12).toInt ≤ (u35.1 0 12).toInt ∧ (u35.1 0 12).toInt ≤ (u12.1 0 12).toInt + 2 := pw34
            have po34 : (u35.1 0 15).toInt = (u12.1 0 15).toInt + 1 := po34
            have pf34 : (u12.1 0 43).toInt ≤ (u35.1 0 43).toInt ∧ (u35.1 0 43).toInt ≤ (u12.1 0 43).toInt + 2 := pf34
            have kc34 : ∀ j : Nat, (j : Int) < (u12.1 0 12).toInt → (u35.1 11) j = (u12.1 11) j := kc34
            have ko34 : ∀ j : Nat, (j : Int) < (u12.1 0 15).toInt → (u35.1 13) j = (u12.1 13) j := ko34
            have kg34 : ∀ j : Nat, (j : Int) < (u12.1 0 15).toInt → (u35.1 14) j = (u12.1 14) j := kg34
            refine W.widen (k := 0) (n := 0) (Nat.le_refl _) (Nat.le_refl _) ?_
            refine lv_iload hx hb dX13_sets_138 (lv_at hl 7 rfl) ?_
            refine lv_if_eq (tgt := 160) hx hb dX13_sets_140 (by decide) (fun h37 => ?_) (fun h37 => ?_)
            · have z38 : pd.toInt = 0 := eq_z rfl (show (0 : Int32).toInt = 0 by decide) h37
              exact False.elim (om_09bd01a305 z4 z38)
            · have z39 : pd.toInt ≠ 0 := ne_z rfl (show (0 : Int32).toInt = 0 by decide) h37
              refine lv_aload_n hx hb dX13_sets_143 rfl (lv_at hl 3 rfl) ?_
              refine lv_bipush (v := 10) hx hb dX13_sets_144 (by decide) ?_
              refine lv_iload hx hb dX13_sets_146 (lv_at hl 0 rfl) ?_
              refine cu_s (mW_nd _ _ _ _ _ _) (rn_S (n := 1) (As := [.int (r7 + (0 : Int32))]) (rest := [.int 10, .ref (ad 0)]) hx hb hml hown ht hKK hFx hP hD hS hA (c_m_slotAt l dC dI cI cB cZ cJ cR tb H.size (r7 + (0 : Int32)) ) tw_74 tw_75 (by decide +kernel) rfl rfl ⟨show 0 + 1 ≤ 40 * n + 6 from om_19dfed8989, show 8 + (1 + 11) + 0 ≤ 28 * (40 * n + 6) from om_213884e4e8⟩ [] rfl rfl rfl hl.1 rfl (Nat.le_of_ble_eq_true rfl) dX13_sets_148 ⟨Nat.le_of_ble_eq_true rfl, Nat.le_of_ble_eq_true rfl⟩) hP hD hS hA (fun r42 H locs hw40 hP hD hS => ?_)
              refine W.widen (k := 0) (n := 0) (Nat.le_refl _) (Nat.le_refl _) ?_
              refine lv_bipush (v := 8) hx hb dX13_sets_151 (by decide) ?_
              refine cu_s (mW_nd _ _ _ _ _ _) (rn_S (n := 3) (As := [.int 10, .int r42, .int 8]) (rest := [.ref (ad 0)]) hx hb hml hown ht hKK hFx hP hD hS hA (c_m_sw l dC dI cI cB cZ cJ cR tb H.size (10 : Int32) r42 (8 : Int32) ) tw_76 tw_77 (by decide +kernel) rfl rfl ⟨show 0 + 1 ≤ 40 * n + 6 from om_19dfed8989, show 8 + (3 + 11) + 0 ≤ 28 * (40 * n + 6) from om_bc89bc7b20⟩ [] rfl rfl rfl hl.1 rfl (Nat.le_of_ble_eq_true rfl) dX13_sets_153 ⟨Nat.le_of_ble_eq_true rfl, Nat.le_of_ble_eq_true rfl⟩) hP hD hS hA (fun r45 H locs hw43 hP hD hS => ?_)
              refine W.widen (k := 0) (n := 0) (Nat.le_refl _) (Nat.le_refl _) ?_
              refine cu_i (rn_V (n := 1) (As := [.int r45]) (rest := []) hx hb hml hown ht hKK hFx hP hD hS hA (c_m_emit l dC dI cI cB cZ cJ cR tb H.size ad N u35 r45 (show 0 ≤ (u35.1 0 12).toInt ∧ (u35.1 0 12).toInt < 24000 from (om_9db55c6b2d zt zws q28 q29 pw34))) tw_8 tw_9 (by decide +kernel) rfl rfl ⟨show 0 + 1 ≤ 40 * n + 6 from om_19dfed8989, show 8 + (2 + 11) + 0 ≤ 28 * (40 * n + 6) from om_37bd887971⟩ (List.range (mW ad N cI cZ cJ u35).length) (rg_map _) (mW_nd _ _ _ _ _ _) rfl rfl rfl rfl hl.1 rfl (Nat.le_of_ble_eq_true rfl) dX13_sets_156 ⟨Nat.le_of_ble_eq_true rfl, Nat.le_of_ble_eq_true rfl⟩) hP hD hS hA (fun r48 u47 H locs hw46 hP hD hS => ?_)
              obtain ⟨rfl, rfl⟩ := hw46
              have z49 : ((u35.1 0 12) + (1 : Int32)).toInt = ((u35.1 0 12).toInt) + 1 := add_z rfl (show (1 : Int32).toInt = 1 by decide) (om_54b1c4c975 zws q28 q29 pw34) (om_c6e1874fcf zt zws q28 q29 pw34)
              have hP : va_P (dC, dI) vwCl (mW ad N cI cZ cJ (wA (wA u35 11 ((u35.1 0 12).toNatClampNeg) r45) 0 12 ((u35.1 0 12) + (1 : Int32)))) H := hP
              have hD : va_D A (mW ad N cI cZ cJ (wA (wA u35 11 ((u35.1 0 12).toNatClampNeg) r45) 0 12 ((u35.1 0 12) + (1 : Int32)))) := hD
              refine tp_i (y := (u35.1 0 12)) (rfl) ?_
              refine W.widen (k := 0) (n := 0) (Nat.le_refl _) (Nat.le_refl _) ?_
              refine lv_pop hx hb dX13_sets_159 rfl ?_
              refine lv_aload_n hx hb dX13_sets_160 rfl (lv_at hl 3 rfl) ?_
              refine lv_dup hx hb dX13_sets_161 rfl ?_
              refine va_get (D := (dC, dI)) (ci := 16) (fs := mF ad (wA (wA u35 11 ((u35.1 0 12).toNatClampNeg) r45) 0 12 ((u35.1 0 12) + (1 : Int32)))) (v := .int (u35.1 0 32)) (C := RX13) (T := TX13) (N := 124) hx hb ht itX13 hown hK hP 0 rfl rfl 32 (by decide) (ht _ tw_52) (fun _ h9 => h9) rfl dX13_sets_162 ?_
              refine lv_iload hx hb dX13_sets_165 (lv_at hl 2 rfl) ?_
              refine lv_iadd hx hb dX13_sets_167 ?_
              have q50 : (u6.1 0 32).toInt = (v.1 0 32).toInt := congrArg Int32.toInt ((fr5.2.1 32 (by decide)).trans (show v.1 0 32 = (v.1 0 32) by rfl))
              have q51 : (u12.1 0 32).toInt = (u6.1 0 32).toInt := congrArg Int32.toInt ((fr11.2.1 32 (by decide)).trans (show u6.1 0 32 = (u6.1 0 32) by rfl))
              have q52 : (u35.1 0 32).toInt = (u12.1 0 32).toInt := congrArg Int32.toInt ((fr34.2.1 32 (by decide)).trans (show (wA (wA u12 0 47 ((u12.1 0 47) + (1 : Int32))) 0 48 ((u12.1 0 48) + (1 : Int32))).1 0 32 = (u12.1 0 32) by rfl))
              have z53 : ((u35.1 0 32) + (1 : Int32)).toInt = ((u35.1 0 32).toInt) + 1 := add_z rfl (show (1 : Int32).toInt = 1 by decide) (om_42f7e3e398 zs q50 q51 q52) (om_c342783a8a zkn zs q50 q51 q52)
              refine va_put (D := (dC, dI)) (ci := 16) (fs := mF ad (wA (wA u35 11 ((u35.1 0 12).toNatClampNeg) r45) 0 12 ((u35.1 0 12) + (1 : Int32)))) (v := .int ((u35.1 0 32) + (1 : Int32))) (ty := .int) (C := RX13) (T := TX13) (N := 124) hx hb ht itX13 tyX13 tyX13_ok nmX13 hown hK hP hD hS 0 rfl rfl 32 (by decide) (ht _ tw_52) (fun _ h9 => h9) rfl (by decide +kernel) rfl rfl (Nat.le_of_ble_eq_true rfl) dX13_sets_168 (fun H locs hP hD hS => ?_)
              have hP := cP_ (mw_32 ad N cI cZ cJ (wA (wA u35 11 ((u35.1 0 12).toNatClampNeg) r45) 0 12 ((u35.1 0 12) + (1 : Int32))) ((u35.1 0 32) + (1 : Int32))) hP
              have hD := cD_ (mw_32 ad N cI cZ cJ (wA (wA u35 11 ((u35.1 0 12).toNatClampNeg) r45) 0 12 ((u35.1 0 12) + (1 : Int32))) ((u35.1 0 32) + (1 : Int32))) hD
              refine lv_aload_n hx hb dX13_sets_171 rfl (lv_at hl 3 rfl) ?_
              obtain ⟨n54, hn55⟩ : ∃ m, n = m + 1 := ex_z (om_f9013cab6d zn q16 q17 b18)
              have q56 : (u35.1 0 48).toInt = ((u12.1 0 48) + (1 : Int32)).toInt := congrArg Int32.toInt ((fr34.2.1 48 (by decide)).trans (show (wA (wA u12 0 47 ((u12.1 0 47) + (1 : Int32))) 0 48 ((u12.1 0 48) + (1 : Int32))).1 0 48 = ((u12.1 0 48) + (1 : Int32)) by rfl))
              have q57 : (u35.1 0 47).toInt = ((u12.1 0 47) + (1 : Int32)).toInt := congrArg Int32.toInt ((fr34.2.1 47 (by decide)).trans (show (wA (wA u12 0 47 ((u12.1 0 47) + (1 : Int32))) 0 48 ((u12.1 0 48) + (1 : Int32))).1 0 47 = ((u12.1 0 47) + (1 : Int32)) by rfl))
              have q58 : (u6.1 0 30).toInt = (v.1 0 30).toInt := congrArg Int32.toInt ((fr5.2.1 30 (by decide)).trans (show v.1 0 30 = (v.1 0 30) by rfl))
              have q59 : (u12.1 0 30).toInt = (u6.1 0 30).toInt := congrArg Int32.toInt ((fr11.2.1 30 (by decide)).trans (show u6.1 0 30 = (u6.1 0 30) by rfl))
              have q60 : (u35.1 0 30).toInt = (u12.1 0 30).toInt := congrArg Int32.toInt ((fr34.2.1 30 (by decide)).trans (show (wA (wA u12 0 47 ((u12.1 0 47) + (1 : Int32))) 0 48 ((u12.1 0 48) + (1 : Int32))).1 0 30 = (u12.1 0 30) by rfl))
              have q61 : (u12.1 0 33).toInt = (u6.1 0 33).toInt := congrArg Int32.toInt ((fr11.2.1 33 (by decide)).trans (show u6.1 0 33 = (u6.1 0 33) by rfl))
              have q62 : (u35.1 0 33).toInt = (u12.1 0 33).toInt := congrArg Int32.toInt ((fr34.2.1 33 (by decide)).trans (show (wA (wA u12 0 47 ((u12.1 0 47) + (1 : Int32))) 0 48 ((u12.1 0 48) + (1 : Int32))).1 0 33 = (u12.1 0 33) by rfl))
              have q63 : (u12.1 0 49).toInt = (u6.1 0 49).toInt := congrArg Int32.toInt ((fr11.2.1 49 (by decide)).trans (show u6.1 0 49 = (u6.1 0 49) by rfl))
              have q64 : (u6.1 0 39).toInt = (v.1 0 39).toInt := congrArg Int32.toInt ((fr5.2.1 39 (by decide)).trans (show v.1 0 39 = (v.1 0 39) by rfl))
              have q65 : (u12.1 0 39).toInt = (u6.1 0 39).toInt := congrArg Int32.toInt ((fr11.2.1 39 (by decide)).trans (show u6.1 0 39 = (u6.1 0 39) by rfl))
              have q66 : (u35.1 0 39).toInt = (u12.1 0 39).toInt := congrArg Int32.toInt ((fr34.2.1 39 (by decide)).trans (show (wA (wA u12 0 47 ((u12.1 0 47) + (1 : Int32))) 0 48 ((u12.1 0 48) + (1 : Int32))).1 0 39 = (u12.1 0 39) by rfl))
              have q67 : (u6.1 0 27).toInt = (v.1 0 27).toInt := congrArg Int32.toInt ((fr5.2.1 27 (by decide)).trans (show v.1 0 27 = (v.1 0 27) by rfl))
              have q68 : (u12.1 0 27).toInt = (u6.1 0 27).toInt := congrArg Int32.toInt ((fr11.2.1 27 (by decide)).trans (show u6.1 0 27 = (u6.1 0 27) by rfl))
              have q69 : (u35.1 0 27).toInt = (u12.1 0 27).toInt := congrArg Int32.toInt ((fr34.2.1 27 (by decide)).trans (show (wA (wA u12 0 47 ((u12.1 0 47) + (1 : Int32))) 0 48 ((u12.1 0 48) + (1 : Int32))).1 0 27 = (u12.1 0 27) by rfl))
              refine cux_v (rx_V (n := 0) (As := []) (rest := []) hx hb hml hown ht hKK hFx hP hD hS hA (ihE n54 hn55 dC dI cI cB cZ cJ cR tb H.size ad N (wA (wA (wA u35 11 ((u35.1 0 12).toNatClampNeg) r45) 0 12 ((u35.1 0 12) + (1 : Int32))) 0 32 ((u35.1 0 32) + (1 : Int32)))  (show 40 ≤ (u35.1 0 48).toInt + (n54 : Int) from (om_03ab3bcbd6 zn q16 q17 z22 q56 hn55)) (show 0 ≤ (u35.1 0 47).toInt ∧ (u35.1 0 47).toInt ≤ 1500 from (om_5ab85dfdfa zfs q14 q15 z21 a18 q57)) (show 0 ≤ (u35.1 0 48).toInt ∧ (u35.1 0 48).toInt ≤ 40 from (om_c73200f2a3 zop q16 q17 z22 b18 q56)) (show 0 ≤ (u35.1 0 30).toInt ∧ (u35.1 0 30).toInt ≤ 500 from (om_a369f3fea6 zkn q58 q59 q60)) (show 0 ≤ (u35.1 0 33).toInt ∧ (u35.1 0 33).toInt ≤ 500 from (om_50fe633fd5 zhi sh5 q61 q62)) (show 0 ≤ ((u35.1 0 32) + (1 : Int32)).toInt ∧ (u35.1 0 30).toInt + ((u35.1 0 32) + (1 : Int32)).toInt ≤ 500 from (om_4064dde58e zs q58 q50 q14 sb5 sh5 q59 q51 q15 q63 c18 q60 q52 z53)) (show 0 ≤ ((u35.1 0 12) + (1 : Int32)).toInt ∧ ((u35.1 0 12) + (1 : Int32)).toInt ≤ 15 * (u35.1 0 47).toInt + 2 from (om_bdc2355df9 zws q28 q14 q29 q15 z21 q57 pw34 z49)) (show 0 ≤ (u35.1 0 15).toInt ∧ (u35.1 0 15).toInt ≤ 10 * (u35.1 0 47).toInt + 0 from (om_6bec2597f8 zos q30 q14 q31 q15 z21 q57 po34)) (show 0 ≤ (u35.1 0 43).toInt ∧ (u35.1 0 43).toInt ≤ 15 * (u35.1 0 47).toInt + 0 from (om_fb09a08332 zfs q32 q14 q33 q15 z21 q57 pf34)) (show 0 ≤ (u35.1 0 39).toInt ∧ (u35.1 0 39).toInt ≤ 1 * (u35.1 0 47).toInt + 0 from (om_2226641632 zcs q64 q14 q65 q15 z21 q66 q57)) (show 0 ≤ (u35.1 0 27).toInt ∧ (u35.1 0 27).toInt ≤ 60 from (om_243ce53172 zgl q67 q68 q69)) (FG.ti (fl := pfl) (al := pal) (FG.f (FG.f (FG.a (FG.tr (FG.f (FG.f (FG.tr (FG.tr (FG.rf _) (FG.up fr5 (by decide) (by decide))) (FG.up fr11 (by decide) (by decide))) ((u12.1 0 47) + (1 : Int32)) (by decide)) ((u12.1 0 48) + (1 : Int32)) (by decide)) (FG.up fr34 (by decide) (by decide))) ((u35.1 0 12).toNatClampNeg) r45 (by decide) (by decide)) ((u35.1 0 12) + (1 : Int32)) (by decide)) ((u35.1 0 32) + (1 : Int32)) (by decide)) (by decide) (by decide) hT) ((show NI 29 u35 from NI.fr (fl := [12, 15, 43]) (al := [0, 11, 13, 14, 40, 41, 42]) fr34 (by decide) (show NI 29 u12 from NI.fr (fl := [44, 45]) (al := [0]) fr11 (by decide) (show NI 29 u6 from NI.fr (fl := [33, 49]) (al := [0]) fr5 (by decide) n29)))) ((show NI 23 u35 from NI.fr (fl := [12, 15, 43]) (al := [0, 11, 13, 14, 40, 41, 42]) fr34 (by decide) (show NI 23 u12 from NI.fr (fl := [44, 45]) (al := [0]) fr11 (by decide) (show NI 23 u6 from NI.fr (fl := [33, 49]) (al := [0]) fr5 (by decide) n23)))) ((show NI 35 u35 from NI.fr (fl := [12, 15, 43]) (al := [0, 11, 13, 14, 40, 41, 42]) fr34 (by decide) (show NI 35 u12 from NI.fr (fl := [44, 45]) (al := [0]) fr11 (by decide) (show NI 35 u6 from NI.fr (fl := [33, 49]) (al := [0]) fr5 (by decide) n35))))) tw_80 tw_81 (by decide +kernel) rfl rfl ⟨show (40 * n54 + 36) + 1 ≤ 40 * n + 6 from (om_a8c331ff68 hn55), show 8 + (1 + 11) + 28 * (40 * n54 + 36) ≤ 28 * (40 * n + 6) from (om_93090b8001 hn55)⟩ (List.range (mW ad N cI cZ cJ (wA (wA (wA u35 11 ((u35.1 0 12).toNatClampNeg) r45) 0 12 ((u35.1 0 12) + (1 : Int32))) 0 32 ((u35.1 0 32) + (1 : Int32)))).length) (rg_map _) (mW_nd _ _ _ _ _ _) rfl rfl rfl rfl hl.1 rfl (Nat.le_of_ble_eq_true rfl) dX13_sets_172 ⟨Nat.le_of_ble_eq_true rfl, Nat.le_of_ble_eq_true rfl⟩) hP hD hS hA (fun u9 ce9 q9 H locs hx9 hP hD hS hc9 hv9 hf9 => ?_) (fun u71 H locs hw70 hP hD hS => ?_)
              · exact vx_out (fun x h9 => (hnt x h9).elim) hlocks hc9 hv9 hf9 (fun t9 ht9 hv8 => ⟨u9, (FG.tr (FG.f (FG.f (FG.a (FG.tr (FG.f (FG.f (FG.tr (FG.tr (FG.rf _) (FG.up fr5 (by decide) (by decide))) (FG.up fr11 (by decide) (by decide))) ((u12.1 0 47) + (1 : Int32)) (by decide)) ((u12.1 0 48) + (1 : Int32)) (by decide)) (FG.up fr34 (by decide) (by decide))) ((u35.1 0 12).toNatClampNeg) r45 (by decide) (by decide)) ((u35.1 0 12) + (1 : Int32)) (by decide)) ((u35.1 0 32) + (1 : Int32)) (by decide)) hx9), ⟨rfl, by rw [ht9]; exact hP, hD⟩, hS.F ht9⟩) hS.2.2 (Nat.le_refl _) (Nat.le_refl _)
              obtain ⟨fr70, pt70, pb70, pw70, po70, pf70, pk70, pp70, ph70, kc70, ko70, kg70, n3570⟩ := hw70
              have pt70 : (u35.1 0 47).toInt + 1 ≤ (u71.1 0 47).toInt ∧ (u71.1 0 47).toInt ≤ 1500 := pt70
              have pb70 : (u35.1 0 49).toInt ≠ (u35.1 0 47).toInt := pb70
              have pw70 : ((u35.1 0 12) + (1 : Int32)).toInt ≤ (u71.1 0 12).toInt ∧ (u71.1 0 12).toInt - 15 * (u71.1 0 47).toInt ≤ ((u35.1 0 12) + (1 : Int32)).toInt - 15 * (u35.1 0 47).toInt := pw70
              have po70 : (u35.1 0 15).toInt ≤ (u71.1 0 15).toInt ∧ (u71.1 0 15).toInt - 10 * (u71.1 0 47).toInt ≤ (u35.1 0 15).toInt - 10 * (u35.1 0 47).toInt := po70
              have pf70 : (u35.1 0 43).toInt ≤ (u71.1 0 43).toInt ∧ (u71.1 0 43).toInt - 15 * (u71.1 0 47).toInt ≤ (u35.1 0 43).toInt - 15 * (u35.1 0 47).toInt := pf70
              have pk70 : (u35.1 0 39).toInt ≤ (u71.1 0 39).toInt ∧ (u71.1 0 39).toInt - 1 * (u71.1 0 47).toInt ≤ (u35.1 0 39).toInt - 1 * (u35.1 0 47).toInt := pk70
              have pp70 : (u71.1 0 32).toInt = ((u35.1 0 32) + (1 : Int32)).toInt ∧ (u71.1 0 48).toInt = (u35.1 0 48).toInt := pp70
              have ph70 : (u35.1 0 33).toInt ≤ (u71.1 0 33).toInt ∧ (u71.1 0 33).toInt ≤ 500 := ph70
              have kc70 : ∀ j : Nat, (j : Int) < ((u35.1 0 12) + (1 : Int32)).toInt → (u71.1 11) j = (upd (u35.1 11) ((u35.1 0 12).toNatClampNeg) r45) j := kc70
              have ko70 : ∀ j : Nat, (j : Int) < (u35.1 0 15).toInt → (u71.1 13) j = (u35.1 13) j := ko70
              have kg70 : ∀ j : Nat, (j : Int) < (u35.1 0 15).toInt → (u71.1 14) j = (u35.1 14) j := kg70
              have n3570 : NI 35 u71 := n3570
              refine W.widen (k := 0) (n := 0) (Nat.le_refl _) (Nat.le_refl _) ?_
              refine lv_aload_n hx hb dX13_sets_175 rfl (lv_at hl 3 rfl) ?_
              refine lv_dup hx hb dX13_sets_176 rfl ?_
              refine va_get (D := (dC, dI)) (ci := 16) (fs := mF ad u71) (v := .int (u71.1 0 32)) (C := RX13) (T := TX13) (N := 124) hx hb ht itX13 hown hK hP 0 rfl rfl 32 (by decide) (ht _ tw_52) (fun _ h9 => h9) rfl dX13_sets_177 ?_
              refine lv_iload hx hb dX13_sets_180 (lv_at hl 2 rfl) ?_
              refine lv_isub hx hb dX13_sets_182 ?_
              have z73 : ((u71.1 0 32) - (1 : Int32)).toInt = ((u71.1 0 32).toInt) - 1 := sub_z rfl (show (1 : Int32).toInt = 1 by decide) (om_f361f995c0 zs q50 q51 q52 z53 pp70) (om_6e26541cb6 zkn zs q50 q51 q52 z53 pp70)
              refine va_put (D := (dC, dI)) (ci := 16) (fs := mF ad u71) (v := .int ((u71.1 0 32) - (1 : Int32))) (ty := .int) (C := RX13) (T := TX13) (N := 124) hx hb ht itX13 tyX13 tyX13_ok nmX13 hown hK hP hD hS 0 rfl rfl 32 (by decide) (ht _ tw_52) (fun _ h9 => h9) rfl (by decide +kernel) rfl rfl (Nat.le_of_ble_eq_true rfl) dX13_sets_183 (fun H locs hP hD hS => ?_)
              have hP := cP_ (mw_32 ad N cI cZ cJ u71 ((u71.1 0 32) - (1 : Int32))) hP
              have hD := cD_ (mw_32 ad N cI cZ cJ u71 ((u71.1 0 32) - (1 : Int32))) hD
              refine lv_iload hx hb dX13_sets_186 (lv_at hl 7 rfl) ?_
              refine lv_if_eq (tgt := 213) hx hb dX13_sets_188 (by decide) (fun h74 => ?_) (fun h74 => ?_)
              · have z75 : pd.toInt = 0 := eq_z rfl (show (0 : Int32).toInt = 0 by decide) h74
                exact False.elim (om_09bd01a305 z4 z75)
              · have z76 : pd.toInt ≠ 0 := ne_z rfl (show (0 : Int32).toInt = 0 by decide) h74
                refine lv_aload_n hx hb dX13_sets_191 rfl (lv_at hl 3 rfl) ?_
                refine lv_iconst (v := 5) hx hb dX13_sets_192 (by decide) ?_
                refine lv_iload hx hb dX13_sets_193 (lv_at hl 0 rfl) ?_
                refine cu_s (mW_nd _ _ _ _ _ _) (rn_S (n := 1) (As := [.int (r7 + (0 : Int32))]) (rest := [.int 5, .ref (ad 0)]) hx hb hml hown ht hKK hFx hP hD hS hA (c_m_slotAt l dC dI cI cB cZ cJ cR tb H.size (r7 + (0 : Int32)) ) tw_74 tw_75 (by decide +kernel) rfl rfl ⟨show 0 + 1 ≤ 40 * n + 6 from om_19dfed8989, show 8 + (1 + 11) + 0 ≤ 28 * (40 * n + 6) from om_213884e4e8⟩ [] rfl rfl rfl hl.1 rfl (Nat.le_of_ble_eq_true rfl) dX13_sets_195 ⟨Nat.le_of_ble_eq_true rfl, Nat.le_of_ble_eq_true rfl⟩) hP hD hS hA (fun r79 H locs hw77 hP hD hS => ?_)
                refine W.widen (k := 0) (n := 0) (Nat.le_refl _) (Nat.le_refl _) ?_
                refine lv_bipush (v := 8) hx hb dX13_sets_198 (by decide) ?_
                refine cu_s (mW_nd _ _ _ _ _ _) (rn_S (n := 3) (As := [.int 5, .int r79, .int 8]) (rest := [.ref (ad 0)]) hx hb hml hown ht hKK hFx hP hD hS hA (c_m_lw l dC dI cI cB cZ cJ cR tb H.size (5 : Int32) r79 (8 : Int32) ) tw_71 tw_72 (by decide +kernel) rfl rfl ⟨show 1 + 1 ≤ 40 * n + 6 from om_aa70640b3b, show 8 + (3 + 11) + 24 ≤ 28 * (40 * n + 6) from om_6539950522⟩ [] rfl rfl rfl hl.1 rfl (Nat.le_of_ble_eq_true rfl) dX13_sets_200 ⟨Nat.le_of_ble_eq_true rfl, Nat.le_of_ble_eq_true rfl⟩) hP hD hS hA (fun r82 H locs hw80 hP hD hS => ?_)
                refine W.widen (k := 0) (n := 0) (Nat.le_refl _) (Nat.le_refl _) ?_
                refine cu_i (rn_V (n := 1) (As := [.int r82]) (rest := []) hx hb hml hown ht hKK hFx hP hD hS hA (c_m_emit l dC dI cI cB cZ cJ cR tb H.size ad N (wA u71 0 32 ((u71.1 0 32) - (1 : Int32))) r82 (show 0 ≤ (u71.1 0 12).toInt ∧ (u71.1 0 12).toInt < 24000 from (om_19f24fe7b4 zws q28 q14 q29 q15 z21 q57 pw34 z49 pt70 pw70))) tw_8 tw_9 (by decide +kernel) rfl rfl ⟨show 0 + 1 ≤ 40 * n + 6 from om_19dfed8989, show 8 + (2 + 11) + 0 ≤ 28 * (40 * n + 6) from om_37bd887971⟩ (List.range (mW ad N cI cZ cJ (wA u71 0 32 ((u71.1 0 32) - (1 : Int32)))).length) (rg_map _) (mW_nd _ _ _ _ _ _) rfl rfl rfl rfl hl.1 rfl (Nat.le_of_ble_eq_true rfl) dX13_sets_203 ⟨Nat.le_of_ble_eq_true rfl, Nat.le_of_ble_eq_true rfl⟩) hP hD hS hA (fun r85 u84 H locs hw83 hP hD hS => ?_)
                obtain ⟨rfl, rfl⟩ := hw83
                have z86 : ((u71.1 0 12) + (1 : Int32)).toInt = ((u71.1 0 12).toInt) + 1 := add_z rfl (show (1 : Int32).toInt = 1 by decide) (om_1b11521d1c zws q28 q29 pw34 z49 pw70) (om_907309c565 zws q28 q14 q29 q15 z21 q57 pw34 z49 pt70 pw70)
                have hP : va_P (dC, dI) vwCl (mW ad N cI cZ cJ (wA (wA (wA u71 0 32 ((u71.1 0 32) - (1 : Int32))) 11 ((u71.1 0 12).toNatClampNeg) r82) 0 12 ((u71.1 0 12) + (1 : Int32)))) H := hP
                have hD : va_D A (mW ad N cI cZ cJ (wA (wA (wA u71 0 32 ((u71.1 0 32) - (1 : Int32))) 11 ((u71.1 0 12).toNatClampNeg) r82) 0 12 ((u71.1 0 12) + (1 : Int32)))) := hD
                refine tp_i (y := (u71.1 0 12)) (rfl) ?_
                refine W.widen (k := 0) (n := 0) (Nat.le_refl _) (Nat.le_refl _) ?_
                refine lv_pop hx hb dX13_sets_206 rfl ?_
                refine lv_aload_n hx hb dX13_sets_207 rfl (lv_at hl 3 rfl) ?_
                refine lv_iload hx hb dX13_sets_208 (lv_at hl 7 rfl) ?_
                refine cu_v (rn_V (n := 1) (As := [.int pd]) (rest := []) hx hb hml hown ht hKK hFx hP hD hS hA (c_m_operate l dC dI cI cB cZ cJ cR tb H.size ad N (wA (wA (wA u71 0 32 ((u71.1 0 32) - (1 : Int32))) 11 ((u71.1 0 12).toNatClampNeg) r82) 0 12 ((u71.1 0 12) + (1 : Int32))) pd (show 0 ≤ ((u71.1 0 12) + (1 : Int32)).toInt ∧ ((u71.1 0 12) + (1 : Int32)).toInt ≤ 23980 from (om_5638965a87 zws q28 q14 q29 q15 z21 q57 pw34 z49 pt70 pw70 z86)) (show 0 ≤ (u71.1 0 15).toInt ∧ (u71.1 0 15).toInt ≤ 15980 from (om_92435a0932 zos q30 q14 q31 q15 z21 q57 po34 pt70 po70)) (show 0 ≤ (u71.1 0 43).toInt ∧ (u71.1 0 43).toInt ≤ 23980 from (om_df8d163336 zfs q32 q14 q33 q15 z21 q57 pf34 pt70 pf70))) tw_94 tw_95 (by decide +kernel) rfl rfl ⟨show 2 + 1 ≤ 40 * n + 6 from om_0978fa5f20, show 8 + (2 + 11) + 46 ≤ 28 * (40 * n + 6) from om_12ff8109f0⟩ (List.range (mW ad N cI cZ cJ (wA (wA (wA u71 0 32 ((u71.1 0 32) - (1 : Int32))) 11 ((u71.1 0 12).toNatClampNeg) r82) 0 12 ((u71.1 0 12) + (1 : Int32)))).length) (rg_map _) (mW_nd _ _ _ _ _ _) rfl rfl rfl rfl hl.1 rfl (Nat.le_of_ble_eq_true rfl) dX13_sets_210 ⟨Nat.le_of_ble_eq_true rfl, Nat.le_of_ble_eq_true rfl⟩) hP hD hS hA (fun u88 H locs hw87 hP hD hS => ?_)
                obtain ⟨fr87, pw87, po87, pf87, kc87, ko87, kg87⟩ := hw87
                have pw87 : ((u71.1 0 12) + (1 : Int32)).toInt ≤ (u88.1 0 12).toInt ∧ (u88.1 0 12).toInt ≤ ((u71.1 0 12) + (1 : Int32)).toInt + 3 := pw87
                have po87 : (u88.1 0 15).toInt = (u71.1 0 15).toInt + 1 := po87
                have pf87 : (u71.1 0 43).toInt ≤ (u88.1 0 43).toInt ∧ (u88.1 0 43).toInt ≤ (u71.1 0 43).toInt + 1 := pf87
                have kc87 : ∀ j : Nat, (j : Int) < ((u71.1 0 12) + (1 : Int32)).toInt → (u88.1 11) j = (upd (u71.1 11) ((u71.1 0 12).toNatClampNeg) r82) j := kc87
                have ko87 : ∀ j : Nat, (j : Int) < (u71.1 0 15).toInt → (u88.1 13) j = (u71.1 13) j := ko87
                have kg87 : ∀ j : Nat, (j : Int) < (u71.1 0 15).toInt → (u88.1 14) j = (u71.1 14) j := kg87
                refine W.widen (k := 0) (n := 0) (Nat.le_refl _) (Nat.le_refl _) ?_
                refine lv_iload_n hx hb dX13_sets_213 rfl (lv_at hl 6 rfl) ?_
                refine lv_if_eq (tgt := 258) hx hb dX13_sets_214 (by decide) (fun h90 => ?_) (fun h90 => ?_)
                · have z91 : pc1.toInt = 0 := eq_z rfl (show (0 : Int32).toInt = 0 by decide) h90
                  refine lv_aload_n hx hb dX13_sets_258 rfl (lv_at hl 3 rfl) ?_
                  refine lv_iload_n hx hb dX13_sets_259 rfl (lv_at hl 4 rfl) ?_
                  refine lv_iload_n hx hb dX13_sets_260 rfl (lv_at hl 5 rfl) ?_
                  refine cu_v (rn_V (n := 2) (As := [.int pa, .int pb]) (rest := []) hx hb hml hown ht hKK hFx hP hD hS hA (c_m_store l dC dI cI cB cZ cJ cR tb H.size ad N u88 pa pb (show 0 ≤ (u88.1 0 12).toInt ∧ (u88.1 0 12).toInt ≤ 23980 from (om_e95251626b zws q28 q14 q29 q15 z21 q57 pw34 z49 pt70 pw70 z86 pw87)) (show 0 ≤ (u88.1 0 15).toInt ∧ (u88.1 0 15).toInt ≤ 15980 from (om_98cf02f0b0 zos q30 q14 q31 q15 z21 q57 po34 pt70 po70 po87)) (show 0 ≤ (u88.1 0 43).toInt ∧ (u88.1 0 43).toInt ≤ 23980 from (om_d568e8d59f zfs q32 q14 q33 q15 z21 q57 pf34 pt70 pf70 pf87)) (show 0 ≤ pa.toInt ∨ (0 ≤ pb.toInt ∧ pb.toInt < 60) from (om_7cbb2eb25c zg))) tw_96 tw_97 (by decide +kernel) rfl rfl ⟨show 1 + 1 ≤ 40 * n + 6 from om_aa70640b3b, show 8 + (3 + 11) + 23 ≤ 28 * (40 * n + 6) from om_944ba89137⟩ (List.range (mW ad N cI cZ cJ u88).length) (rg_map _) (mW_nd _ _ _ _ _ _) rfl rfl rfl rfl hl.1 rfl (Nat.le_of_ble_eq_true rfl) dX13_sets_261 ⟨Nat.le_of_ble_eq_true rfl, Nat.le_of_ble_eq_true rfl⟩) hP hD hS hA (fun u93 H locs hw92 hP hD hS => ?_)
                  obtain ⟨fr92, pw92, po92, pf92, kc92, ko92, kg92⟩ := hw92
                  have pw92 : (u88.1 0 12).toInt ≤ (u93.1 0 12).toInt ∧ (u93.1 0 12).toInt ≤ (u88.1 0 12).toInt + 2 := pw92
                  have po92 : (u93.1 0 15).toInt = (u88.1 0 15).toInt + 1 := po92
                  have pf92 : (u88.1 0 43).toInt ≤ (u93.1 0 43).toInt ∧ (u93.1 0 43).toInt ≤ (u88.1 0 43).toInt + 2 := pf92
                  have kc92 : ∀ j : Nat, (j : Int) < (u88.1 0 12).toInt → (u93.1 11) j = (u88.1 11) j := kc92
                  have ko92 : ∀ j : Nat, (j : Int) < (u88.1 0 15).toInt → (u93.1 13) j = (u88.1 13) j := ko92
                  have kg92 : ∀ j : Nat, (j : Int) < (u88.1 0 15).toInt → (u93.1 14) j = (u88.1 14) j := kg92
                  refine W.widen (k := 0) (n := 0) (Nat.le_refl _) (Nat.le_refl _) ?_
                  refine lv_aload_n hx hb dX13_sets_264 rfl (lv_at hl 3 rfl) ?_
                  refine lv_dup hx hb dX13_sets_265 rfl ?_
                  refine va_get (D := (dC, dI)) (ci := 16) (fs := mF ad u93) (v := .int (u93.1 0 48)) (C := RX13) (T := TX13) (N := 124) hx hb ht itX13 hown hK hP 0 rfl rfl 48 (by decide) (ht _ tw_31) (fun _ h9 => h9) rfl dX13_sets_266 ?_
                  refine lv_iconst (v := 1) hx hb dX13_sets_269 (by decide) ?_
                  refine lv_isub hx hb dX13_sets_270 ?_
                  have q95 : (u88.1 0 48).toInt = (u71.1 0 48).toInt := congrArg Int32.toInt ((fr87.2.1 48 (by decide)).trans (show (wA (wA (wA u71 0 32 ((u71.1 0 32) - (1 : Int32))) 11 ((u71.1 0 12).toNatClampNeg) r82) 0 12 ((u71.1 0 12) + (1 : Int32))).1 0 48 = (u71.1 0 48) by rfl))
                  have q96 : (u93.1 0 48).toInt = (u88.1 0 48).toInt := congrArg Int32.toInt ((fr92.2.1 48 (by decide)).trans (show u88.1 0 48 = (u88.1 0 48) by rfl))
                  have z97 : ((u93.1 0 48) - (1 : Int32)).toInt = ((u93.1 0 48).toInt) - 1 := sub_z rfl (show (1 : Int32).toInt = 1 by decide) (om_f32613313a zop q16 q17 z22 q56 pp70 q95 q96) (om_47748e4d6f z22 b18 q56 pp70 q95 q96)
                  refine va_put (D := (dC, dI)) (ci := 16) (fs := mF ad u93) (v := .int ((u93.1 0 48) - (1 : Int32))) (ty := .int) (C := RX13) (T := TX13) (N := 124) hx hb ht itX13 tyX13 tyX13_ok nmX13 hown hK hP hD hS 0 rfl rfl 48 (by decide) (ht _ tw_31) (fun _ h9 => h9) rfl (by decide +kernel) rfl rfl (Nat.le_of_ble_eq_true rfl) dX13_sets_271 (fun H locs hP hD hS => ?_)
                  have hP := cP_ (mw_48 ad N cI cZ cJ u93 ((u93.1 0 48) - (1 : Int32))) hP
                  have hD := cD_ (mw_48 ad N cI cZ cJ u93 ((u93.1 0 48) - (1 : Int32))) hD
                  have q98 : (u88.1 0 47).toInt = (u71.1 0 47).toInt := congrArg Int32.toInt ((fr87.2.1 47 (by decide)).trans (show (wA (wA (wA u71 0 32 ((u71.1 0 32) - (1 : Int32))) 11 ((u71.1 0 12).toNatClampNeg) r82) 0 12 ((u71.1 0 12) + (1 : Int32))).1 0 47 = (u71.1 0 47) by rfl))
                  have q99 : (u93.1 0 47).toInt = (u88.1 0 47).toInt := congrArg Int32.toInt ((fr92.2.1 47 (by decide)).trans (show u88.1 0 47 = (u88.1 0 47) by rfl))
                  have q100 : (u88.1 0 39).toInt = (u71.1 0 39).toInt := congrArg Int32.toInt ((fr87.2.1 39 (by decide)).trans (show (wA (wA (wA u71 0 32 ((u71.1 0 32) - (1 : Int32))) 11 ((u71.1 0 12).toNatClampNeg) r82) 0 12 ((u71.1 0 12) + (1 : Int32))).1 0 39 = (u71.1 0 39) by rfl))
                  have q101 : (u93.1 0 39).toInt = (u88.1 0 39).toInt := congrArg Int32.toInt ((fr92.2.1 39 (by decide)).trans (show u88.1 0 39 = (u88.1 0 39) by rfl))
                  have q102 : (u88.1 0 32).toInt = ((u71.1 0 32) - (1 : Int32)).toInt := congrArg Int32.toInt ((fr87.2.1 32 (by decide)).trans (show (wA (wA (wA u71 0 32 ((u71.1 0 32) - (1 : Int32))) 11 ((u71.1 0 12).toNatClampNeg) r82) 0 12 ((u71.1 0 12) + (1 : Int32))).1 0 32 = ((u71.1 0 32) - (1 : Int32)) by rfl))
                  have q103 : (u93.1 0 32).toInt = (u88.1 0 32).toInt := congrArg Int32.toInt ((fr92.2.1 32 (by decide)).trans (show u88.1 0 32 = (u88.1 0 32) by rfl))
                  have q104 : (u88.1 0 33).toInt = (u71.1 0 33).toInt := congrArg Int32.toInt ((fr87.2.1 33 (by decide)).trans (show (wA (wA (wA u71 0 32 ((u71.1 0 32) - (1 : Int32))) 11 ((u71.1 0 12).toNatClampNeg) r82) 0 12 ((u71.1 0 12) + (1 : Int32))).1 0 33 = (u71.1 0 33) by rfl))
                  have q105 : (u93.1 0 33).toInt = (u88.1 0 33).toInt := congrArg Int32.toInt ((fr92.2.1 33 (by decide)).trans (show u88.1 0 33 = (u88.1 0 33) by rfl))
                  refine vx_ret ?_
                  exact W.vret hx hb hr (fun t ht9 hW => ⟨⟨(wA u93 0 48 ((u93.1 0 48) - (1 : Int32))), rfl, ⟨(FG.f (FG.tr (FG.tr (FG.f (FG.a (FG.f (FG.tr (FG.f (FG.f (FG.a (FG.tr (FG.f (FG.f (FG.tr (FG.tr (FG.rf _) (FG.up fr5 (by decide) (by decide))) (FG.up fr11 (by decide) (by decide))) ((u12.1 0 47) + (1 : Int32)) (by decide)) ((u12.1 0 48) + (1 : Int32)) (by decide)) (FG.up fr34 (by decide) (by decide))) ((u35.1 0 12).toNatClampNeg) r45 (by decide) (by decide)) ((u35.1 0 12) + (1 : Int32)) (by decide)) ((u35.1 0 32) + (1 : Int32)) (by decide)) (FG.up fr70 (by decide) (by decide))) ((u71.1 0 32) - (1 : Int32)) (by decide)) ((u71.1 0 12).toNatClampNeg) r82 (by decide) (by decide)) ((u71.1 0 12) + (1 : Int32)) (by decide)) (FG.up fr87 (by decide) (by decide))) (FG.up fr92 (by decide) (by decide))) ((u93.1 0 48) - (1 : Int32)) (by decide)), (show (v.1 0 47).toInt + 1 ≤ (u93.1 0 47).toInt ∧ (u93.1 0 47).toInt ≤ 1500 from (om_aa78113bbf q14 q15 z21 q57 pt70 q98 q99)), (show (v.1 0 49).toInt ≠ (v.1 0 47).toInt from (om_7800e6afe5 q14 sb5 q15 q63 c18)), (show (v.1 0 12).toInt ≤ (u93.1 0 12).toInt ∧ (u93.1 0 12).toInt - 15 * (u93.1 0 47).toInt ≤ (v.1 0 12).toInt - 15 * (v.1 0 47).toInt from (om_f4f891ea73 q28 q14 q29 q15 z21 q57 pw34 z49 pw70 z86 q98 pw87 q99 pw92)), (show (v.1 0 15).toInt ≤ (u93.1 0 15).toInt ∧ (u93.1 0 15).toInt - 10 * (u93.1 0 47).toInt ≤ (v.1 0 15).toInt - 10 * (v.1 0 47).toInt from (om_f4094be2e0 q30 q14 q31 q15 z21 q57 po34 po70 q98 po87 q99 po92)), (show (v.1 0 43).toInt ≤ (u93.1 0 43).toInt ∧ (u93.1 0 43).toInt - 15 * (u93.1 0 47).toInt ≤ (v.1 0 43).toInt - 15 * (v.1 0 47).toInt from (om_3be6bef26c q32 q14 q33 q15 z21 q57 pf34 pf70 q98 pf87 q99 pf92)), (show (v.1 0 39).toInt ≤ (u93.1 0 39).toInt ∧ (u93.1 0 39).toInt - 1 * (u93.1 0 47).toInt ≤ (v.1 0 39).toInt - 1 * (v.1 0 47).toInt from (om_7042716fb1 q64 q14 q65 q15 z21 q66 q57 pk70 q100 q98 q101 q99)), (show (u93.1 0 32).toInt = (v.1 0 32).toInt ∧ ((u93.1 0 48) - (1 : Int32)).toInt = (v.1 0 48).toInt from (om_560fb45af1 q50 q16 q51 q17 z22 q52 q56 z53 pp70 z73 q102 q95 q103 q96 z97)), (show (v.1 0 33).toInt ≤ (u93.1 0 33).toInt ∧ (u93.1 0 33).toInt ≤ 500 from (om_6671181df8 sh5 q61 q62 ph70 q104 q105)), (fun (j9 : Nat) hj9 => (Eq.trans (kc92 j9 (om_ef3caf7b9c q28 q29 pw34 z49 pw70 z86 pw87 hj9)) (Eq.trans (kc87 j9 (om_44dd0e4095 q28 q29 pw34 z49 pw70 z86 hj9)) (Eq.trans (pk_un3 (a := (u71.1 0 12).toInt) rfl (om_5b1ab3a0a1 zws q28 q29 pw34 z49 pw70) (om_1bdd43a6b2 q28 q29 pw34 z49 pw70 hj9)) (Eq.trans (kc70 j9 (om_8f6b8c3407 q28 q29 pw34 z49 hj9)) (Eq.trans (pk_un3 (a := (u35.1 0 12).toInt) rfl (om_bfb3dc1977 zws q28 q29 pw34) (om_03e94caca0 q28 q29 pw34 hj9)) (Eq.trans (kc34 j9 (om_2a5d4a8f22 q28 q29 hj9)) (Eq.trans (congrFun (fr11.2.2 11 (by decide)) j9) (congrFun (fr5.2.2 11 (by decide)) j9))))))))), (fun (j9 : Nat) hj9 => (Eq.trans (ko92 j9 (om_6d45c60592 q30 q31 po34 po70 po87 hj9)) (Eq.trans (ko87 j9 (om_0a7f6ba696 q30 q31 po34 po70 hj9)) (Eq.trans (ko70 j9 (om_c85825db7e q30 q31 po34 hj9)) (Eq.trans (ko34 j9 (om_2a5d4a8f22 q30 q31 hj9)) (Eq.trans (congrFun (fr11.2.2 13 (by decide)) j9) (congrFun (fr5.2.2 13 (by decide)) j9))))))), (fun (j9 : Nat) hj9 => (Eq.trans (kg92 j9 (om_6d45c60592 q30 q31 po34 po70 po87 hj9)) (Eq.trans (kg87 j9 (om_0a7f6ba696 q30 q31 po34 po70 hj9)) (Eq.trans (kg70 j9 (om_c85825db7e q30 q31 po34 hj9)) (Eq.trans (kg34 j9 (om_2a5d4a8f22 q30 q31 hj9)) (Eq.trans (congrFun (fr11.2.2 14 (by decide)) j9) (congrFun (fr5.2.2 14 (by decide)) j9))))))), (show NI 35 u93 from NI.fr (fl := [12, 15, 43]) (al := [0, 11, 13, 14, 40, 41, 42]) fr92 (by decide) (show NI 35 u88 from NI.fr (fl := [12, 15, 43]) (al := [0, 11, 13, 14, 40, 41, 42]) fr87 (by decide) n3570))⟩, by rw [ht9]; exact hP, hD⟩, hS.F ht9⟩) hS.2.2 dX13_sets_274
                · have z106 : pc1.toInt ≠ 0 := ne_z rfl (show (0 : Int32).toInt = 0 by decide) h90
                  exact False.elim (om_6c0c040bc6 z2 z106)
        · have z107 : pc1.toInt ≠ 0 := ne_z rfl (show (0 : Int32).toInt = 0 by decide) h23
          exact False.elim (om_6c0c040bc6 z2 z107)
      · have z108 : pc1.toInt ≠ 0 := ne_z rfl (show (0 : Int32).toInt = 0 by decide) h8
        exact False.elim (om_6c0c040bc6 z2 z108)
    · have z109 : pd.toInt = 0 := eq_z rfl (show (0 : Int32).toInt = 0 by decide) h3
      refine lv_iconst (v := 0) hx hb dX13_sets_14 (by decide) ?_
      refine lv_goto (tgt := 19) hx hb dX13_sets_15 (by decide) ?_
      refine lv_iadd hx hb dX13_sets_19 ?_
      refine tp_i (y := 0) (by decide) ?_
      refine lv_istore (lv' := [(5, .int 0), (0, .ref (ad 0)), (1, .int pa), (2, .int pb), (3, .int pc1), (4, .int pd)]) hx hb dX13_sets_20 hl (by decide) rfl (fun ls hl => ?_)
      refine lv_aload_n hx hb dX13_sets_22 rfl (lv_at hl 1 rfl) ?_
      refine lv_iload hx hb dX13_sets_23 (lv_at hl 0 rfl) ?_
      refine cu_i (rn_V (n := 1) (As := [.int 0]) (rest := []) hx hb hml hown ht hKK hFx hP hD hS hA (c_m_slots l dC dI cI cB cZ cJ cR tb s.heap.size ad N v (0 : Int32) (show 0 ≤ (v.1 0 30).toInt ∧ (v.1 0 30).toInt ≤ 500 from (om_9861e69da5 zkn)) (show 0 ≤ (v.1 0 32).toInt ∧ (v.1 0 32).toInt ≤ 2000 from (om_ce871d329a zkn zs)) (show 0 ≤ (v.1 0 33).toInt ∧ (v.1 0 33).toInt ≤ 500 from (om_9861e69da5 zhi)) (show 0 ≤ 0 ∧ 0 ≤ 8 from om_f57f4cdc86)) tw_88 tw_89 (by decide +kernel) rfl rfl ⟨show 0 + 1 ≤ 40 * n + 6 from om_19dfed8989, show 8 + (3 + 11) + 0 ≤ 28 * (40 * n + 6) from om_bc89bc7b20⟩ (List.range (mW ad N cI cZ cJ v).length) (rg_map _) (mW_nd _ _ _ _ _ _) rfl rfl rfl rfl hl.1 rfl (Nat.le_of_ble_eq_true rfl) dX13_sets_25 ⟨Nat.le_of_ble_eq_true rfl, Nat.le_of_ble_eq_true rfl⟩) hP hD hS hA (fun r112 u111 H locs hw110 hP hD hS => ?_)
      obtain ⟨fr110, sr110, sb110, sh110⟩ := hw110
      have sb110 : ((v.1 0 30).toInt + (v.1 0 32).toInt + 0 ≤ (u111.1 0 33).toInt ∧ (u111.1 0 49).toInt = (v.1 0 49).toInt) ∨ (u111.1 0 49).toInt = (v.1 0 47).toInt := sb110
      refine W.widen (k := 0) (n := 0) (Nat.le_refl _) (Nat.le_refl _) ?_
      refine lv_istore (lv' := [(6, .int r112), (5, .int 0), (0, .ref (ad 0)), (1, .int pa), (2, .int pb), (3, .int pc1), (4, .int pd)]) hx hb dX13_sets_28 hl (by decide) rfl (fun ls hl => ?_)
      refine lv_iload hx hb dX13_sets_30 (lv_at hl 0 rfl) ?_
      refine lv_iload_n hx hb dX13_sets_32 rfl (lv_at hl 5 rfl) ?_
      refine lv_if_eq (tgt := 40) hx hb dX13_sets_33 (by decide) (fun h113 => ?_) (fun h113 => ?_)
      · have z114 : pc1.toInt = 0 := eq_z rfl (show (0 : Int32).toInt = 0 by decide) h113
        refine lv_iconst (v := 0) hx hb dX13_sets_40 (by decide) ?_
        refine lv_iadd hx hb dX13_sets_41 ?_
        have z115 : (r112 + (0 : Int32)).toInt = r112.toInt + 0 := add_z rfl (show (0 : Int32).toInt = 0 by decide) (om_7480f1d756 zkn zs sr110) (om_f880433be5 zs sr110)
        refine lv_istore (lv' := [(7, .int (r112 + (0 : Int32))), (6, .int r112), (5, .int 0), (0, .ref (ad 0)), (1, .int pa), (2, .int pb), (3, .int pc1), (4, .int pd)]) hx hb dX13_sets_42 hl (by decide) rfl (fun ls hl => ?_)
        refine lv_aload_n hx hb dX13_sets_44 rfl (lv_at hl 3 rfl) ?_
        refine lv_iload hx hb dX13_sets_45 (lv_at hl 7 rfl) ?_
        refine cu_v (rn_V (n := 1) (As := [.int pd]) (rest := []) hx hb hml hown ht hKK hFx hP hD hS hA (c_m_remember l dC dI cI cB cZ cJ cR tb H.size ad N u111 pd ) tw_90 tw_91 (by decide +kernel) rfl rfl ⟨show 0 + 1 ≤ 40 * n + 6 from om_19dfed8989, show 8 + (2 + 11) + 0 ≤ 28 * (40 * n + 6) from om_37bd887971⟩ (List.range (mW ad N cI cZ cJ u111).length) (rg_map _) (mW_nd _ _ _ _ _ _) rfl rfl rfl rfl hl.1 rfl (Nat.le_of_ble_eq_true rfl) dX13_sets_47 ⟨Nat.le_of_ble_eq_true rfl, Nat.le_of_ble_eq_true rfl⟩) hP hD hS hA (fun u117 H locs hw116 hP hD hS => ?_)
        have fr116 := hw116
        refine W.widen (k := 0) (n := 0) (Nat.le_refl _) (Nat.le_refl _) ?_
        refine lv_aload_n hx hb dX13_sets_50 rfl (lv_at hl 3 rfl) ?_
        have q119 : (u111.1 0 47).toInt = (v.1 0 47).toInt := congrArg Int32.toInt ((fr110.2.1 47 (by decide)).trans (show v.1 0 47 = (v.1 0 47) by rfl))
        have q120 : (u117.1 0 47).toInt = (u111.1 0 47).toInt := congrArg Int32.toInt ((fr116.2.1 47 (by decide)).trans (show u111.1 0 47 = (u111.1 0 47) by rfl))
        have q121 : (u111.1 0 48).toInt = (v.1 0 48).toInt := congrArg Int32.toInt ((fr110.2.1 48 (by decide)).trans (show v.1 0 48 = (v.1 0 48) by rfl))
        have q122 : (u117.1 0 48).toInt = (u111.1 0 48).toInt := congrArg Int32.toInt ((fr116.2.1 48 (by decide)).trans (show u111.1 0 48 = (u111.1 0 48) by rfl))
        refine cux_v (rx_V (n := 0) (As := []) (rest := []) hx hb hml hown ht hKK hFx hP hD hS hA (c_m_opens l dC dI cI cB cZ cJ cR tb H.size ad N u117  (show 0 ≤ (u117.1 0 47).toInt ∧ (u117.1 0 47).toInt ≤ 1500 from (om_5fecd403fd zt zfs q119 q120)) (show 0 ≤ (u117.1 0 48).toInt ∧ (u117.1 0 48).toInt ≤ 40 from (om_68f540929a zop q121 q122))) tw_38 tw_39 (by decide +kernel) rfl rfl ⟨show 2 + 1 ≤ 40 * n + 6 from om_0978fa5f20, show 8 + (1 + 11) + 42 ≤ 28 * (40 * n + 6) from om_294f7df5f2⟩ (List.range (mW ad N cI cZ cJ u117).length) (rg_map _) (mW_nd _ _ _ _ _ _) rfl rfl rfl rfl hl.1 rfl (Nat.le_of_ble_eq_true rfl) dX13_sets_51 ⟨Nat.le_of_ble_eq_true rfl, Nat.le_of_ble_eq_true rfl⟩) hP hD hS hA (fun u9 ce9 q9 H locs hx9 hP hD hS hc9 hv9 hf9 => ?_) (fun u124 H locs hw123 hP hD hS => ?_)
        · exact vx_out (fun x h9 => (hnt x h9).elim) hlocks hc9 hv9 hf9 (fun t9 ht9 hv8 => ⟨u9, (FG.tr (FG.tr (FG.tr (FG.rf _) (FG.up fr110 (by decide) (by decide))) (FG.up fr116 (by decide) (by decide))) hx9), ⟨rfl, by rw [ht9]; exact hP, hD⟩, hS.F ht9⟩) hS.2.2 (Nat.le_refl _) (Nat.le_refl _)
        obtain ⟨rfl, a123, b123, c123⟩ := hw123
        have z126 : ((u117.1 0 47) + (1 : Int32)).toInt = ((u117.1 0 47).toInt) + 1 := add_z rfl (show (1 : Int32).toInt = 1 by decide) (om_29681806c1 q119 q120) (om_d17f6a6aca zt q119 q120)
        have z127 : ((u117.1 0 48) + (1 : Int32)).toInt = ((u117.1 0 48).toInt) + 1 := add_z rfl (show (1 : Int32).toInt = 1 by decide) (om_fbac2a78d1 zop q121 q122) (om_241463b4b2 zop q121 q122)
        have hP : va_P (dC, dI) vwCl (mW ad N cI cZ cJ (wA (wA u117 0 47 ((u117.1 0 47) + (1 : Int32))) 0 48 ((u117.1 0 48) + (1 : Int32)))) H := hP
        have hD : va_D A (mW ad N cI cZ cJ (wA (wA u117 0 47 ((u117.1 0 47) + (1 : Int32))) 0 48 ((u117.1 0 48) + (1 : Int32)))) := hD
        have a123 : (u117.1 0 47).toInt < 1500 := a123
        have b123 : (u117.1 0 48).toInt < 40 := b123
        have c123 : (u117.1 0 49).toInt ≠ (u117.1 0 47).toInt := c123
        refine W.widen (k := 0) (n := 0) (Nat.le_refl _) (Nat.le_refl _) ?_
        refine lv_iload_n hx hb dX13_sets_54 rfl (lv_at hl 6 rfl) ?_
        refine lv_if_eq (tgt := 127) hx hb dX13_sets_55 (by decide) (fun h128 => ?_) (fun h128 => ?_)
        · have z129 : pc1.toInt = 0 := eq_z rfl (show (0 : Int32).toInt = 0 by decide) h128
          refine lv_iload hx hb dX13_sets_127 (lv_at hl 7 rfl) ?_
          refine lv_if_eq (tgt := 138) hx hb dX13_sets_129 (by decide) (fun h130 => ?_) (fun h130 => ?_)
          · have z131 : pd.toInt = 0 := eq_z rfl (show (0 : Int32).toInt = 0 by decide) h130
            refine lv_iload hx hb dX13_sets_138 (lv_at hl 7 rfl) ?_
            refine lv_if_eq (tgt := 160) hx hb dX13_sets_140 (by decide) (fun h132 => ?_) (fun h132 => ?_)
            · have z133 : pd.toInt = 0 := eq_z rfl (show (0 : Int32).toInt = 0 by decide) h132
              refine lv_aload_n hx hb dX13_sets_160 rfl (lv_at hl 3 rfl) ?_
              refine lv_dup hx hb dX13_sets_161 rfl ?_
              refine va_get (D := (dC, dI)) (ci := 16) (fs := mF ad (wA (wA u117 0 47 ((u117.1 0 47) + (1 : Int32))) 0 48 ((u117.1 0 48) + (1 : Int32)))) (v := .int (u117.1 0 32)) (C := RX13) (T := TX13) (N := 124) hx hb ht itX13 hown hK hP 0 rfl rfl 32 (by decide) (ht _ tw_52) (fun _ h9 => h9) rfl dX13_sets_162 ?_
              refine lv_iload hx hb dX13_sets_165 (lv_at hl 2 rfl) ?_
              refine lv_iadd hx hb dX13_sets_167 ?_
              have q134 : (u111.1 0 32).toInt = (v.1 0 32).toInt := congrArg Int32.toInt ((fr110.2.1 32 (by decide)).trans (show v.1 0 32 = (v.1 0 32) by rfl))
              have q135 : (u117.1 0 32).toInt = (u111.1 0 32).toInt := congrArg Int32.toInt ((fr116.2.1 32 (by decide)).trans (show u111.1 0 32 = (u111.1 0 32) by rfl))
              have z136 : ((u117.1 0 32) + (0 : Int32)).toInt = ((u117.1 0 32).toInt) + 0 := add_z rfl (show (0 : Int32).toInt = 0 by decide) (om_c49b494007 zs q134 q135) (om_fa53b9f188 zkn zs q134 q135)
              refine va_put (D := (dC, dI)) (ci := 16) (fs := mF ad (wA (wA u117 0 47 ((u117.1 0 47) + (1 : Int32))) 0 48 ((u117.1 0 48) + (1 : Int32)))) (v := .int ((u117.1 0 32) + (0 : Int32))) (ty := .int) (C := RX13) (T := TX13) (N := 124) hx hb ht itX13 tyX13 tyX13_ok nmX13 hown hK hP hD hS 0 rfl rfl 32 (by decide) (ht _ tw_52) (fun _ h9 => h9) rfl (by decide +kernel) rfl rfl (Nat.le_of_ble_eq_true rfl) dX13_sets_168 (fun H locs hP hD hS => ?_)
              have hP := cP_ (mw_32 ad N cI cZ cJ (wA (wA u117 0 47 ((u117.1 0 47) + (1 : Int32))) 0 48 ((u117.1 0 48) + (1 : Int32))) ((u117.1 0 32) + (0 : Int32))) hP
              have hD := cD_ (mw_32 ad N cI cZ cJ (wA (wA u117 0 47 ((u117.1 0 47) + (1 : Int32))) 0 48 ((u117.1 0 48) + (1 : Int32))) ((u117.1 0 32) + (0 : Int32))) hD
              refine lv_aload_n hx hb dX13_sets_171 rfl (lv_at hl 3 rfl) ?_
              obtain ⟨n137, hn138⟩ : ∃ m, n = m + 1 := ex_z (om_f9013cab6d zn q121 q122 b123)
              have q139 : (u111.1 0 30).toInt = (v.1 0 30).toInt := congrArg Int32.toInt ((fr110.2.1 30 (by decide)).trans (show v.1 0 30 = (v.1 0 30) by rfl))
              have q140 : (u117.1 0 30).toInt = (u111.1 0 30).toInt := congrArg Int32.toInt ((fr116.2.1 30 (by decide)).trans (show u111.1 0 30 = (u111.1 0 30) by rfl))
              have q141 : (u117.1 0 33).toInt = (u111.1 0 33).toInt := congrArg Int32.toInt ((fr116.2.1 33 (by decide)).trans (show u111.1 0 33 = (u111.1 0 33) by rfl))
              have q142 : (u111.1 0 12).toInt = (v.1 0 12).toInt := congrArg Int32.toInt ((fr110.2.1 12 (by decide)).trans (show v.1 0 12 = (v.1 0 12) by rfl))
              have q143 : (u117.1 0 12).toInt = (u111.1 0 12).toInt := congrArg Int32.toInt ((fr116.2.1 12 (by decide)).trans (show u111.1 0 12 = (u111.1 0 12) by rfl))
              have q144 : (u111.1 0 15).toInt = (v.1 0 15).toInt := congrArg Int32.toInt ((fr110.2.1 15 (by decide)).trans (show v.1 0 15 = (v.1 0 15) by rfl))
              have q145 : (u117.1 0 15).toInt = (u111.1 0 15).toInt := congrArg Int32.toInt ((fr116.2.1 15 (by decide)).trans (show u111.1 0 15 = (u111.1 0 15) by rfl))
              have q146 : (u111.1 0 43).toInt = (v.1 0 43).toInt := congrArg Int32.toInt ((fr110.2.1 43 (by decide)).trans (show v.1 0 43 = (v.1 0 43) by rfl))
              have q147 : (u117.1 0 43).toInt = (u111.1 0 43).toInt := congrArg Int32.toInt ((fr116.2.1 43 (by decide)).trans (show u111.1 0 43 = (u111.1 0 43) by rfl))
              have q148 : (u111.1 0 39).toInt = (v.1 0 39).toInt := congrArg Int32.toInt ((fr110.2.1 39 (by decide)).trans (show v.1 0 39 = (v.1 0 39) by rfl))
              have q149 : (u117.1 0 39).toInt = (u111.1 0 39).toInt := congrArg Int32.toInt ((fr116.2.1 39 (by decide)).trans (show u111.1 0 39 = (u111.1 0 39) by rfl))
              have q150 : (u111.1 0 27).toInt = (v.1 0 27).toInt := congrArg Int32.toInt ((fr110.2.1 27 (by decide)).trans (show v.1 0 27 = (v.1 0 27) by rfl))
              have q151 : (u117.1 0 27).toInt = (u111.1 0 27).toInt := congrArg Int32.toInt ((fr116.2.1 27 (by decide)).trans (show u111.1 0 27 = (u111.1 0 27) by rfl))
              refine cux_v (rx_V (n := 0) (As := []) (rest := []) hx hb hml hown ht hKK hFx hP hD hS hA (ihE n137 hn138 dC dI cI cB cZ cJ cR tb H.size ad N (wA (wA (wA u117 0 47 ((u117.1 0 47) + (1 : Int32))) 0 48 ((u117.1 0 48) + (1 : Int32))) 0 32 ((u117.1 0 32) + (0 : Int32)))  (show 40 ≤ ((u117.1 0 48) + (1 : Int32)).toInt + (n137 : Int) from (om_2260131d5a zn q121 q122 z127 hn138)) (show 0 ≤ ((u117.1 0 47) + (1 : Int32)).toInt ∧ ((u117.1 0 47) + (1 : Int32)).toInt ≤ 1500 from (om_f03d39746c zfs q119 q120 z126 a123)) (show 0 ≤ ((u117.1 0 48) + (1 : Int32)).toInt ∧ ((u117.1 0 48) + (1 : Int32)).toInt ≤ 40 from (om_bb1043a59e zop q121 q122 z127 b123)) (show 0 ≤ (u117.1 0 30).toInt ∧ (u117.1 0 30).toInt ≤ 500 from (om_8a5975ec21 zkn q139 q140)) (show 0 ≤ (u117.1 0 33).toInt ∧ (u117.1 0 33).toInt ≤ 500 from (om_ed1d2e34eb zhi sh110 q141)) (show 0 ≤ ((u117.1 0 32) + (0 : Int32)).toInt ∧ (u117.1 0 30).toInt + ((u117.1 0 32) + (0 : Int32)).toInt ≤ 500 from (om_34de977382 zs q139 q134 q140 q135 z136)) (show 0 ≤ (u117.1 0 12).toInt ∧ (u117.1 0 12).toInt ≤ 15 * ((u117.1 0 47) + (1 : Int32)).toInt + 2 from (om_0bca677672 zws q142 q119 q143 q120 z126)) (show 0 ≤ (u117.1 0 15).toInt ∧ (u117.1 0 15).toInt ≤ 10 * ((u117.1 0 47) + (1 : Int32)).toInt + 0 from (om_b9be4e1a33 zos q144 q119 q145 q120 z126)) (show 0 ≤ (u117.1 0 43).toInt ∧ (u117.1 0 43).toInt ≤ 15 * ((u117.1 0 47) + (1 : Int32)).toInt + 0 from (om_8cfbc266de zfs q146 q119 q147 q120 z126)) (show 0 ≤ (u117.1 0 39).toInt ∧ (u117.1 0 39).toInt ≤ 1 * ((u117.1 0 47) + (1 : Int32)).toInt + 0 from (om_09dc7ecfa6 zcs q148 q119 q149 q120 z126)) (show 0 ≤ (u117.1 0 27).toInt ∧ (u117.1 0 27).toInt ≤ 60 from (om_439c5576c5 zgl q150 q151)) (FG.ti (fl := pfl) (al := pal) (FG.f (FG.f (FG.f (FG.tr (FG.tr (FG.rf _) (FG.up fr110 (by decide) (by decide))) (FG.up fr116 (by decide) (by decide))) ((u117.1 0 47) + (1 : Int32)) (by decide)) ((u117.1 0 48) + (1 : Int32)) (by decide)) ((u117.1 0 32) + (0 : Int32)) (by decide)) (by decide) (by decide) hT) ((show NI 29 u117 from NI.fr (fl := [44, 45]) (al := [0]) fr116 (by decide) (show NI 29 u111 from NI.fr (fl := [33, 49]) (al := [0]) fr110 (by decide) n29))) ((show NI 23 u117 from NI.fr (fl := [44, 45]) (al := [0]) fr116 (by decide) (show NI 23 u111 from NI.fr (fl := [33, 49]) (al := [0]) fr110 (by decide) n23))) ((show NI 35 u117 from NI.fr (fl := [44, 45]) (al := [0]) fr116 (by decide) (show NI 35 u111 from NI.fr (fl := [33, 49]) (al := [0]) fr110 (by decide) n35)))) tw_80 tw_81 (by decide +kernel) rfl rfl ⟨show (40 * n137 + 36) + 1 ≤ 40 * n + 6 from (om_a8c331ff68 hn138), show 8 + (1 + 11) + 28 * (40 * n137 + 36) ≤ 28 * (40 * n + 6) from (om_93090b8001 hn138)⟩ (List.range (mW ad N cI cZ cJ (wA (wA (wA u117 0 47 ((u117.1 0 47) + (1 : Int32))) 0 48 ((u117.1 0 48) + (1 : Int32))) 0 32 ((u117.1 0 32) + (0 : Int32)))).length) (rg_map _) (mW_nd _ _ _ _ _ _) rfl rfl rfl rfl hl.1 rfl (Nat.le_of_ble_eq_true rfl) dX13_sets_172 ⟨Nat.le_of_ble_eq_true rfl, Nat.le_of_ble_eq_true rfl⟩) hP hD hS hA (fun u9 ce9 q9 H locs hx9 hP hD hS hc9 hv9 hf9 => ?_) (fun u153 H locs hw152 hP hD hS => ?_)
              · exact vx_out (fun x h9 => (hnt x h9).elim) hlocks hc9 hv9 hf9 (fun t9 ht9 hv8 => ⟨u9, (FG.tr (FG.f (FG.f (FG.f (FG.tr (FG.tr (FG.rf _) (FG.up fr110 (by decide) (by decide))) (FG.up fr116 (by decide) (by decide))) ((u117.1 0 47) + (1 : Int32)) (by decide)) ((u117.1 0 48) + (1 : Int32)) (by decide)) ((u117.1 0 32) + (0 : Int32)) (by decide)) hx9), ⟨rfl, by rw [ht9]; exact hP, hD⟩, hS.F ht9⟩) hS.2.2 (Nat.le_refl _) (Nat.le_refl _)
              obtain ⟨fr152, pt152, pb152, pw152, po152, pf152, pk152, pp152, ph152, kc152, ko152, kg152, n35152⟩ := hw152
              have pt152 : ((u117.1 0 47) + (1 : Int32)).toInt + 1 ≤ (u153.1 0 47).toInt ∧ (u153.1 0 47).toInt ≤ 1500 := pt152
              have pb152 : (u117.1 0 49).toInt ≠ ((u117.1 0 47) + (1 : Int32)).toInt := pb152
              have pw152 : (u117.1 0 12).toInt ≤ (u153.1 0 12).toInt ∧ (u153.1 0 12).toInt - 15 * (u153.1 0 47).toInt ≤ (u117.1 0 12).toInt - 15 * ((u117.1 0 47) + (1 : Int32)).toInt := pw152
              have po152 : (u117.1 0 15).toInt ≤ (u153.1 0 15).toInt ∧ (u153.1 0 15).toInt - 10 * (u153.1 0 47).toInt ≤ (u117.1 0 15).toInt - 10 * ((u117.1 0 47) + (1 : Int32)).toInt := po152
              have pf152 : (u117.1 0 43).toInt ≤ (u153.1 0 43).toInt ∧ (u153.1 0 43).toInt - 15 * (u153.1 0 47).toInt ≤ (u117.1 0 43).toInt - 15 * ((u117.1 0 47) + (1 : Int32)).toInt := pf152
              have pk152 : (u117.1 0 39).toInt ≤ (u153.1 0 39).toInt ∧ (u153.1 0 39).toInt - 1 * (u153.1 0 47).toInt ≤ (u117.1 0 39).toInt - 1 * ((u117.1 0 47) + (1 : Int32)).toInt := pk152
              have pp152 : (u153.1 0 32).toInt = ((u117.1 0 32) + (0 : Int32)).toInt ∧ (u153.1 0 48).toInt = ((u117.1 0 48) + (1 : Int32)).toInt := pp152
              have ph152 : (u117.1 0 33).toInt ≤ (u153.1 0 33).toInt ∧ (u153.1 0 33).toInt ≤ 500 := ph152
              have kc152 : ∀ j : Nat, (j : Int) < (u117.1 0 12).toInt → (u153.1 11) j = (u117.1 11) j := kc152
              have ko152 : ∀ j : Nat, (j : Int) < (u117.1 0 15).toInt → (u153.1 13) j = (u117.1 13) j := ko152
              have kg152 : ∀ j : Nat, (j : Int) < (u117.1 0 15).toInt → (u153.1 14) j = (u117.1 14) j := kg152
              have n35152 : NI 35 u153 := n35152
              refine W.widen (k := 0) (n := 0) (Nat.le_refl _) (Nat.le_refl _) ?_
              refine lv_aload_n hx hb dX13_sets_175 rfl (lv_at hl 3 rfl) ?_
              refine lv_dup hx hb dX13_sets_176 rfl ?_
              refine va_get (D := (dC, dI)) (ci := 16) (fs := mF ad u153) (v := .int (u153.1 0 32)) (C := RX13) (T := TX13) (N := 124) hx hb ht itX13 hown hK hP 0 rfl rfl 32 (by decide) (ht _ tw_52) (fun _ h9 => h9) rfl dX13_sets_177 ?_
              refine lv_iload hx hb dX13_sets_180 (lv_at hl 2 rfl) ?_
              refine lv_isub hx hb dX13_sets_182 ?_
              have z155 : ((u153.1 0 32) - (0 : Int32)).toInt = ((u153.1 0 32).toInt) - 0 := sub_z rfl (show (0 : Int32).toInt = 0 by decide) (om_8e343b24a2 zs q134 q135 z136 pp152) (om_df1de976ff zkn zs q134 q135 z136 pp152)
              refine va_put (D := (dC, dI)) (ci := 16) (fs := mF ad u153) (v := .int ((u153.1 0 32) - (0 : Int32))) (ty := .int) (C := RX13) (T := TX13) (N := 124) hx hb ht itX13 tyX13 tyX13_ok nmX13 hown hK hP hD hS 0 rfl rfl 32 (by decide) (ht _ tw_52) (fun _ h9 => h9) rfl (by decide +kernel) rfl rfl (Nat.le_of_ble_eq_true rfl) dX13_sets_183 (fun H locs hP hD hS => ?_)
              have hP := cP_ (mw_32 ad N cI cZ cJ u153 ((u153.1 0 32) - (0 : Int32))) hP
              have hD := cD_ (mw_32 ad N cI cZ cJ u153 ((u153.1 0 32) - (0 : Int32))) hD
              refine lv_iload hx hb dX13_sets_186 (lv_at hl 7 rfl) ?_
              refine lv_if_eq (tgt := 213) hx hb dX13_sets_188 (by decide) (fun h156 => ?_) (fun h156 => ?_)
              · have z157 : pd.toInt = 0 := eq_z rfl (show (0 : Int32).toInt = 0 by decide) h156
                refine lv_iload_n hx hb dX13_sets_213 rfl (lv_at hl 6 rfl) ?_
                refine lv_if_eq (tgt := 258) hx hb dX13_sets_214 (by decide) (fun h158 => ?_) (fun h158 => ?_)
                · have z159 : pc1.toInt = 0 := eq_z rfl (show (0 : Int32).toInt = 0 by decide) h158
                  refine lv_aload_n hx hb dX13_sets_258 rfl (lv_at hl 3 rfl) ?_
                  refine lv_iload_n hx hb dX13_sets_259 rfl (lv_at hl 4 rfl) ?_
                  refine lv_iload_n hx hb dX13_sets_260 rfl (lv_at hl 5 rfl) ?_
                  refine cu_v (rn_V (n := 2) (As := [.int pa, .int pb]) (rest := []) hx hb hml hown ht hKK hFx hP hD hS hA (c_m_store l dC dI cI cB cZ cJ cR tb H.size ad N (wA u153 0 32 ((u153.1 0 32) - (0 : Int32))) pa pb (show 0 ≤ (u153.1 0 12).toInt ∧ (u153.1 0 12).toInt ≤ 23980 from (om_47016d82a9 zws q142 q119 q143 q120 z126 pt152 pw152)) (show 0 ≤ (u153.1 0 15).toInt ∧ (u153.1 0 15).toInt ≤ 15980 from (om_2668e39c4d zos q144 q119 q145 q120 z126 pt152 po152)) (show 0 ≤ (u153.1 0 43).toInt ∧ (u153.1 0 43).toInt ≤ 23980 from (om_42fc6b61e3 zfs q146 q119 q147 q120 z126 pt152 pf152)) (show 0 ≤ pa.toInt ∨ (0 ≤ pb.toInt ∧ pb.toInt < 60) from (om_7cbb2eb25c zg))) tw_96 tw_97 (by decide +kernel) rfl rfl ⟨show 1 + 1 ≤ 40 * n + 6 from om_aa70640b3b, show 8 + (3 + 11) + 23 ≤ 28 * (40 * n + 6) from om_944ba89137⟩ (List.range (mW ad N cI cZ cJ (wA u153 0 32 ((u153.1 0 32) - (0 : Int32)))).length) (rg_map _) (mW_nd _ _ _ _ _ _) rfl rfl rfl rfl hl.1 rfl (Nat.le_of_ble_eq_true rfl) dX13_sets_261 ⟨Nat.le_of_ble_eq_true rfl, Nat.le_of_ble_eq_true rfl⟩) hP hD hS hA (fun u161 H locs hw160 hP hD hS => ?_)
                  obtain ⟨fr160, pw160, po160, pf160, kc160, ko160, kg160⟩ := hw160
                  have pw160 : (u153.1 0 12).toInt ≤ (u161.1 0 12).toInt ∧ (u161.1 0 12).toInt ≤ (u153.1 0 12).toInt + 2 := pw160
                  have po160 : (u161.1 0 15).toInt = (u153.1 0 15).toInt + 1 := po160
                  have pf160 : (u153.1 0 43).toInt ≤ (u161.1 0 43).toInt ∧ (u161.1 0 43).toInt ≤ (u153.1 0 43).toInt + 2 := pf160
                  have kc160 : ∀ j : Nat, (j : Int) < (u153.1 0 12).toInt → (u161.1 11) j = (u153.1 11) j := kc160
                  have ko160 : ∀ j : Nat, (j : Int) < (u153.1 0 15).toInt → (u161.1 13) j = (u153.1 13) j := ko160
                  have kg160 : ∀ j : Nat, (j : Int) < (u153.1 0 15).toInt → (u161.1 14) j = (u153.1 14) j := kg160
                  refine W.widen (k := 0) (n := 0) (Nat.le_refl _) (Nat.le_refl _) ?_
                  refine lv_aload_n hx hb dX13_sets_264 rfl (lv_at hl 3 rfl) ?_
                  refine lv_dup hx hb dX13_sets_265 rfl ?_
                  refine va_get (D := (dC, dI)) (ci := 16) (fs := mF ad u161) (v := .int (u161.1 0 48)) (C := RX13) (T := TX13) (N := 124) hx hb ht itX13 hown hK hP 0 rfl rfl 48 (by decide) (ht _ tw_31) (fun _ h9 => h9) rfl dX13_sets_266 ?_
                  refine lv_iconst (v := 1) hx hb dX13_sets_269 (by decide) ?_
                  refine lv_isub hx hb dX13_sets_270 ?_
                  have q163 : (u161.1 0 48).toInt = (u153.1 0 48).toInt := congrArg Int32.toInt ((fr160.2.1 48 (by decide)).trans (show (wA u153 0 32 ((u153.1 0 32) - (0 : Int32))).1 0 48 = (u153.1 0 48) by rfl))
                  have z164 : ((u161.1 0 48) - (1 : Int32)).toInt = ((u161.1 0 48).toInt) - 1 := sub_z rfl (show (1 : Int32).toInt = 1 by decide) (om_cdf0cc6270 zop q121 q122 z127 pp152 q163) (om_d8c7ff786d z127 b123 pp152 q163)
                  refine va_put (D := (dC, dI)) (ci := 16) (fs := mF ad u161) (v := .int ((u161.1 0 48) - (1 : Int32))) (ty := .int) (C := RX13) (T := TX13) (N := 124) hx hb ht itX13 tyX13 tyX13_ok nmX13 hown hK hP hD hS 0 rfl rfl 48 (by decide) (ht _ tw_31) (fun _ h9 => h9) rfl (by decide +kernel) rfl rfl (Nat.le_of_ble_eq_true rfl) dX13_sets_271 (fun H locs hP hD hS => ?_)
                  have hP := cP_ (mw_48 ad N cI cZ cJ u161 ((u161.1 0 48) - (1 : Int32))) hP
                  have hD := cD_ (mw_48 ad N cI cZ cJ u161 ((u161.1 0 48) - (1 : Int32))) hD
                  have q165 : (u161.1 0 47).toInt = (u153.1 0 47).toInt := congrArg Int32.toInt ((fr160.2.1 47 (by decide)).trans (show (wA u153 0 32 ((u153.1 0 32) - (0 : Int32))).1 0 47 = (u153.1 0 47) by rfl))
                  have q166 : (u117.1 0 49).toInt = (u111.1 0 49).toInt := congrArg Int32.toInt ((fr116.2.1 49 (by decide)).trans (show u111.1 0 49 = (u111.1 0 49) by rfl))
                  have q167 : (u161.1 0 39).toInt = (u153.1 0 39).toInt := congrArg Int32.toInt ((fr160.2.1 39 (by decide)).trans (show (wA u153 0 32 ((u153.1 0 32) - (0 : Int32))).1 0 39 = (u153.1 0 39) by rfl))
                  have q168 : (u161.1 0 32).toInt = ((u153.1 0 32) - (0 : Int32)).toInt := congrArg Int32.toInt ((fr160.2.1 32 (by decide)).trans (show (wA u153 0 32 ((u153.1 0 32) - (0 : Int32))).1 0 32 = ((u153.1 0 32) - (0 : Int32)) by rfl))
                  have q169 : (u161.1 0 33).toInt = (u153.1 0 33).toInt := congrArg Int32.toInt ((fr160.2.1 33 (by decide)).trans (show (wA u153 0 32 ((u153.1 0 32) - (0 : Int32))).1 0 33 = (u153.1 0 33) by rfl))
                  refine vx_ret ?_
                  exact W.vret hx hb hr (fun t ht9 hW => ⟨⟨(wA u161 0 48 ((u161.1 0 48) - (1 : Int32))), rfl, ⟨(FG.f (FG.tr (FG.f (FG.tr (FG.f (FG.f (FG.f (FG.tr (FG.tr (FG.rf _) (FG.up fr110 (by decide) (by decide))) (FG.up fr116 (by decide) (by decide))) ((u117.1 0 47) + (1 : Int32)) (by decide)) ((u117.1 0 48) + (1 : Int32)) (by decide)) ((u117.1 0 32) + (0 : Int32)) (by decide)) (FG.up fr152 (by decide) (by decide))) ((u153.1 0 32) - (0 : Int32)) (by decide)) (FG.up fr160 (by decide) (by decide))) ((u161.1 0 48) - (1 : Int32)) (by decide)), (show (v.1 0 47).toInt + 1 ≤ (u161.1 0 47).toInt ∧ (u161.1 0 47).toInt ≤ 1500 from (om_0ad34686ec q119 q120 z126 pt152 q165)), (show (v.1 0 49).toInt ≠ (v.1 0 47).toInt from (om_7c3a19dead q119 sb110 q120 q166 c123)), (show (v.1 0 12).toInt ≤ (u161.1 0 12).toInt ∧ (u161.1 0 12).toInt - 15 * (u161.1 0 47).toInt ≤ (v.1 0 12).toInt - 15 * (v.1 0 47).toInt from (om_e7581ffbf0 q142 q119 q143 q120 z126 pw152 q165 pw160)), (show (v.1 0 15).toInt ≤ (u161.1 0 15).toInt ∧ (u161.1 0 15).toInt - 10 * (u161.1 0 47).toInt ≤ (v.1 0 15).toInt - 10 * (v.1 0 47).toInt from (om_0befc91bba q144 q119 q145 q120 z126 po152 q165 po160)), (show (v.1 0 43).toInt ≤ (u161.1 0 43).toInt ∧ (u161.1 0 43).toInt - 15 * (u161.1 0 47).toInt ≤ (v.1 0 43).toInt - 15 * (v.1 0 47).toInt from (om_e7581ffbf0 q146 q119 q147 q120 z126 pf152 q165 pf160)), (show (v.1 0 39).toInt ≤ (u161.1 0 39).toInt ∧ (u161.1 0 39).toInt - 1 * (u161.1 0 47).toInt ≤ (v.1 0 39).toInt - 1 * (v.1 0 47).toInt from (om_f74db28794 q148 q119 q149 q120 z126 pk152 q167 q165)), (show (u161.1 0 32).toInt = (v.1 0 32).toInt ∧ ((u161.1 0 48) - (1 : Int32)).toInt = (v.1 0 48).toInt from (om_24d9d82af2 q134 q121 q135 q122 z127 z136 pp152 z155 q168 q163 z164)), (show (v.1 0 33).toInt ≤ (u161.1 0 33).toInt ∧ (u161.1 0 33).toInt ≤ 500 from (om_ed439b6ae5 sh110 q141 ph152 q169)), (fun (j9 : Nat) hj9 => (Eq.trans (kc160 j9 (om_9920fc6a44 q142 q143 pw152 hj9)) (Eq.trans (kc152 j9 (om_2a5d4a8f22 q142 q143 hj9)) (Eq.trans (congrFun (fr116.2.2 11 (by decide)) j9) (congrFun (fr110.2.2 11 (by decide)) j9))))), (fun (j9 : Nat) hj9 => (Eq.trans (ko160 j9 (om_7747af74f1 q144 q145 po152 hj9)) (Eq.trans (ko152 j9 (om_2a5d4a8f22 q144 q145 hj9)) (Eq.trans (congrFun (fr116.2.2 13 (by decide)) j9) (congrFun (fr110.2.2 13 (by decide)) j9))))), (fun (j9 : Nat) hj9 => (Eq.trans (kg160 j9 (om_7747af74f1 q144 q145 po152 hj9)) (Eq.trans (kg152 j9 (om_2a5d4a8f22 q144 q145 hj9)) (Eq.trans (congrFun (fr116.2.2 14 (by decide)) j9) (congrFun (fr110.2.2 14 (by decide)) j9))))), (show NI 35 u161 from NI.fr (fl := [12, 15, 43]) (al := [0, 11, 13, 14, 40, 41, 42]) fr160 (by decide) n35152)⟩, by rw [ht9]; exact hP, hD⟩, hS.F ht9⟩) hS.2.2 dX13_sets_274
                · have z170 : pc1.toInt ≠ 0 := ne_z rfl (show (0 : Int32).toInt = 0 by decide) h158
                  exact False.elim (om_6c0c040bc6 z2 z170)
              · have z171 : pd.toInt ≠ 0 := ne_z rfl (show (0 : Int32).toInt = 0 by decide) h156
                exact False.elim (om_6c0c040bc6 z109 z171)
            · have z172 : pd.toInt ≠ 0 := ne_z rfl (show (0 : Int32).toInt = 0 by decide) h132
              exact False.elim (om_6c0c040bc6 z109 z172)
          · have z173 : pd.toInt ≠ 0 := ne_z rfl (show (0 : Int32).toInt = 0 by decide) h130
            exact False.elim (om_6c0c040bc6 z109 z173)
        · have z174 : pc1.toInt ≠ 0 := ne_z rfl (show (0 : Int32).toInt = 0 by decide) h128
          exact False.elim (om_6c0c040bc6 z2 z174)
      · have z175 : pc1.toInt ≠ 0 := ne_z rfl (show (0 : Int32).toInt = 0 by decide) h113
        exact False.elim (om_6c0c040bc6 z2 z175)
  · have z176 : pc1.toInt ≠ 0 := ne_z rfl (show (0 : Int32).toInt = 0 by decide) h1
    refine lv_iconst (v := 1) hx hb dX13_sets_4 (by decide) ?_
    refine lv_goto (tgt := 9) hx hb dX13_sets_5 (by decide) ?_
    refine lv_iload hx hb dX13_sets_9 (lv_at hl 4 rfl) ?_
    refine lv_if_ne (tgt := 18) hx hb dX13_sets_11 (by decide) (fun h177 => ?_) (fun h177 => ?_)
    · have z178 : pd.toInt ≠ 0 := ne_z rfl (show (0 : Int32).toInt = 0 by decide) h177
      refine lv_iconst (v := 1) hx hb dX13_sets_18 (by decide) ?_
      refine lv_iadd hx hb dX13_sets_19 ?_
      refine tp_i (y := 2) (by decide) ?_
      refine lv_istore (lv' := [(5, .int 2), (0, .ref (ad 0)), (1, .int pa), (2, .int pb), (3, .int pc1), (4, .int pd)]) hx hb dX13_sets_20 hl (by decide) rfl (fun ls hl => ?_)
      refine lv_aload_n hx hb dX13_sets_22 rfl (lv_at hl 1 rfl) ?_
      refine lv_iload hx hb dX13_sets_23 (lv_at hl 0 rfl) ?_
      refine cu_i (rn_V (n := 1) (As := [.int 2]) (rest := []) hx hb hml hown ht hKK hFx hP hD hS hA (c_m_slots l dC dI cI cB cZ cJ cR tb s.heap.size ad N v (2 : Int32) (show 0 ≤ (v.1 0 30).toInt ∧ (v.1 0 30).toInt ≤ 500 from (om_9861e69da5 zkn)) (show 0 ≤ (v.1 0 32).toInt ∧ (v.1 0 32).toInt ≤ 2000 from (om_ce871d329a zkn zs)) (show 0 ≤ (v.1 0 33).toInt ∧ (v.1 0 33).toInt ≤ 500 from (om_9861e69da5 zhi)) (show 0 ≤ 2 ∧ 2 ≤ 8 from om_05f30fd168)) tw_88 tw_89 (by decide +kernel) rfl rfl ⟨show 0 + 1 ≤ 40 * n + 6 from om_19dfed8989, show 8 + (3 + 11) + 0 ≤ 28 * (40 * n + 6) from om_bc89bc7b20⟩ (List.range (mW ad N cI cZ cJ v).length) (rg_map _) (mW_nd _ _ _ _ _ _) rfl rfl rfl rfl hl.1 rfl (Nat.le_of_ble_eq_true rfl) dX13_sets_25 ⟨Nat.le_of_ble_eq_true rfl, Nat.le_of_ble_eq_true rfl⟩) hP hD hS hA (fun r181 u180 H locs hw179 hP hD hS => ?_)
      obtain ⟨fr179, sr179, sb179, sh179⟩ := hw179
      have sb179 : ((v.1 0 30).toInt + (v.1 0 32).toInt + 2 ≤ (u180.1 0 33).toInt ∧ (u180.1 0 49).toInt = (v.1 0 49).toInt) ∨ (u180.1 0 49).toInt = (v.1 0 47).toInt := sb179
      refine W.widen (k := 0) (n := 0) (Nat.le_refl _) (Nat.le_refl _) ?_
      refine lv_istore (lv' := [(6, .int r181), (5, .int 2), (0, .ref (ad 0)), (1, .int pa), (2, .int pb), (3, .int pc1), (4, .int pd)]) hx hb dX13_sets_28 hl (by decide) rfl (fun ls hl => ?_)
      refine lv_iload hx hb dX13_sets_30 (lv_at hl 0 rfl) ?_
      refine lv_iload_n hx hb dX13_sets_32 rfl (lv_at hl 5 rfl) ?_
      refine lv_if_eq (tgt := 40) hx hb dX13_sets_33 (by decide) (fun h182 => ?_) (fun h182 => ?_)
      · have z183 : pc1.toInt = 0 := eq_z rfl (show (0 : Int32).toInt = 0 by decide) h182
        exact False.elim (om_09bd01a305 z176 z183)
      · have z184 : pc1.toInt ≠ 0 := ne_z rfl (show (0 : Int32).toInt = 0 by decide) h182
        refine lv_iconst (v := 1) hx hb dX13_sets_36 (by decide) ?_
        refine lv_goto (tgt := 41) hx hb dX13_sets_37 (by decide) ?_
        refine lv_iadd hx hb dX13_sets_41 ?_
        have z185 : (r181 + (1 : Int32)).toInt = r181.toInt + 1 := add_z rfl (show (1 : Int32).toInt = 1 by decide) (om_b8e454be0b zkn zs sr179) (om_8e5bf4a8b8 zs sr179)
        refine lv_istore (lv' := [(7, .int (r181 + (1 : Int32))), (6, .int r181), (5, .int 2), (0, .ref (ad 0)), (1, .int pa), (2, .int pb), (3, .int pc1), (4, .int pd)]) hx hb dX13_sets_42 hl (by decide) rfl (fun ls hl => ?_)
        refine lv_aload_n hx hb dX13_sets_44 rfl (lv_at hl 3 rfl) ?_
        refine lv_iload hx hb dX13_sets_45 (lv_at hl 7 rfl) ?_
        refine cu_v (rn_V (n := 1) (As := [.int pd]) (rest := []) hx hb hml hown ht hKK hFx hP hD hS hA (c_m_remember l dC dI cI cB cZ cJ cR tb H.size ad N u180 pd ) tw_90 tw_91 (by decide +kernel) rfl rfl ⟨show 0 + 1 ≤ 40 * n + 6 from om_19dfed8989, show 8 + (2 + 11) + 0 ≤ 28 * (40 * n + 6) from om_37bd887971⟩ (List.range (mW ad N cI cZ cJ u180).length) (rg_map _) (mW_nd _ _ _ _ _ _) rfl rfl rfl rfl hl.1 rfl (Nat.le_of_ble_eq_true rfl) dX13_sets_47 ⟨Nat.le_of_ble_eq_true rfl, Nat.le_of_ble_eq_true rfl⟩) hP hD hS hA (fun u187 H locs hw186 hP hD hS => ?_)
        have fr186 := hw186
        refine W.widen (k := 0) (n := 0) (Nat.le_refl _) (Nat.le_refl _) ?_
        refine lv_aload_n hx hb dX13_sets_50 rfl (lv_at hl 3 rfl) ?_
        have q189 : (u180.1 0 47).toInt = (v.1 0 47).toInt := congrArg Int32.toInt ((fr179.2.1 47 (by decide)).trans (show v.1 0 47 = (v.1 0 47) by rfl))
        have q190 : (u187.1 0 47).toInt = (u180.1 0 47).toInt := congrArg Int32.toInt ((fr186.2.1 47 (by decide)).trans (show u180.1 0 47 = (u180.1 0 47) by rfl))
        have q191 : (u180.1 0 48).toInt = (v.1 0 48).toInt := congrArg Int32.toInt ((fr179.2.1 48 (by decide)).trans (show v.1 0 48 = (v.1 0 48) by rfl))
        have q192 : (u187.1 0 48).toInt = (u180.1 0 48).toInt := congrArg Int32.toInt ((fr186.2.1 48 (by decide)).trans (show u180.1 0 48 = (u180.1 0 48) by rfl))
        refine cux_v (rx_V (n := 0) (As := []) (rest := []) hx hb hml hown ht hKK hFx hP hD hS hA (c_m_opens l dC dI cI cB cZ cJ cR tb H.size ad N u187  (show 0 ≤ (u187.1 0 47).toInt ∧ (u187.1 0 47).toInt ≤ 1500 from (om_5fecd403fd zt zfs q189 q190)) (show 0 ≤ (u187.1 0 48).toInt ∧ (u187.1 0 48).toInt ≤ 40 from (om_68f540929a zop q191 q192))) tw_38 tw_39 (by decide +kernel) rfl rfl ⟨show 2 + 1 ≤ 40 * n + 6 from om_0978fa5f20, show 8 + (1 + 11) + 42 ≤ 28 * (40 * n + 6) from om_294f7df5f2⟩ (List.range (mW ad N cI cZ cJ u187).length) (rg_map _) (mW_nd _ _ _ _ _ _) rfl rfl rfl rfl hl.1 rfl (Nat.le_of_ble_eq_true rfl) dX13_sets_51 ⟨Nat.le_of_ble_eq_true rfl, Nat.le_of_ble_eq_true rfl⟩) hP hD hS hA (fun u9 ce9 q9 H locs hx9 hP hD hS hc9 hv9 hf9 => ?_) (fun u194 H locs hw193 hP hD hS => ?_)
        · exact vx_out (fun x h9 => (hnt x h9).elim) hlocks hc9 hv9 hf9 (fun t9 ht9 hv8 => ⟨u9, (FG.tr (FG.tr (FG.tr (FG.rf _) (FG.up fr179 (by decide) (by decide))) (FG.up fr186 (by decide) (by decide))) hx9), ⟨rfl, by rw [ht9]; exact hP, hD⟩, hS.F ht9⟩) hS.2.2 (Nat.le_refl _) (Nat.le_refl _)
        obtain ⟨rfl, a193, b193, c193⟩ := hw193
        have z196 : ((u187.1 0 47) + (1 : Int32)).toInt = ((u187.1 0 47).toInt) + 1 := add_z rfl (show (1 : Int32).toInt = 1 by decide) (om_29681806c1 q189 q190) (om_d17f6a6aca zt q189 q190)
        have z197 : ((u187.1 0 48) + (1 : Int32)).toInt = ((u187.1 0 48).toInt) + 1 := add_z rfl (show (1 : Int32).toInt = 1 by decide) (om_fbac2a78d1 zop q191 q192) (om_241463b4b2 zop q191 q192)
        have hP : va_P (dC, dI) vwCl (mW ad N cI cZ cJ (wA (wA u187 0 47 ((u187.1 0 47) + (1 : Int32))) 0 48 ((u187.1 0 48) + (1 : Int32)))) H := hP
        have hD : va_D A (mW ad N cI cZ cJ (wA (wA u187 0 47 ((u187.1 0 47) + (1 : Int32))) 0 48 ((u187.1 0 48) + (1 : Int32)))) := hD
        have a193 : (u187.1 0 47).toInt < 1500 := a193
        have b193 : (u187.1 0 48).toInt < 40 := b193
        have c193 : (u187.1 0 49).toInt ≠ (u187.1 0 47).toInt := c193
        refine W.widen (k := 0) (n := 0) (Nat.le_refl _) (Nat.le_refl _) ?_
        refine lv_iload_n hx hb dX13_sets_54 rfl (lv_at hl 6 rfl) ?_
        refine lv_if_eq (tgt := 127) hx hb dX13_sets_55 (by decide) (fun h198 => ?_) (fun h198 => ?_)
        · have z199 : pc1.toInt = 0 := eq_z rfl (show (0 : Int32).toInt = 0 by decide) h198
          exact False.elim (om_09bd01a305 z176 z199)
        · have z200 : pc1.toInt ≠ 0 := ne_z rfl (show (0 : Int32).toInt = 0 by decide) h198
          refine lv_aload_n hx hb dX13_sets_58 rfl (lv_at hl 3 rfl) ?_
          refine lv_aload_n hx hb dX13_sets_59 rfl (lv_at hl 3 rfl) ?_
          refine lv_bipush (v := 10) hx hb dX13_sets_60 (by decide) ?_
          refine lv_bipush (v := 10) hx hb dX13_sets_62 (by decide) ?_
          refine lv_iconst (v := 0) hx hb dX13_sets_64 (by decide) ?_
          refine cu_s (mW_nd _ _ _ _ _ _) (rn_S (n := 3) (As := [.int 10, .int 10, .int 0]) (rest := [.ref (ad 0), .ref (ad 0)]) hx hb hml hown ht hKK hFx hP hD hS hA (c_m_addi l dC dI cI cB cZ cJ cR tb H.size (10 : Int32) (10 : Int32) (0 : Int32) ) tw_65 tw_66 (by decide +kernel) rfl rfl ⟨show 1 + 1 ≤ 40 * n + 6 from om_aa70640b3b, show 8 + (3 + 11) + 24 ≤ 28 * (40 * n + 6) from om_6539950522⟩ [] rfl rfl rfl hl.1 rfl (Nat.le_of_ble_eq_true rfl) dX13_sets_65 ⟨Nat.le_of_ble_eq_true rfl, Nat.le_of_ble_eq_true rfl⟩) hP hD hS hA (fun r203 H locs hw201 hP hD hS => ?_)
          refine W.widen (k := 0) (n := 0) (Nat.le_refl _) (Nat.le_refl _) ?_
          have q204 : (u180.1 0 12).toInt = (v.1 0 12).toInt := congrArg Int32.toInt ((fr179.2.1 12 (by decide)).trans (show v.1 0 12 = (v.1 0 12) by rfl))
          have q205 : (u187.1 0 12).toInt = (u180.1 0 12).toInt := congrArg Int32.toInt ((fr186.2.1 12 (by decide)).trans (show u180.1 0 12 = (u180.1 0 12) by rfl))
          refine cu_i (rn_V (n := 1) (As := [.int r203]) (rest := [.ref (ad 0)]) hx hb hml hown ht hKK hFx hP hD hS hA (c_m_emit l dC dI cI cB cZ cJ cR tb H.size ad N (wA (wA u187 0 47 ((u187.1 0 47) + (1 : Int32))) 0 48 ((u187.1 0 48) + (1 : Int32))) r203 (show 0 ≤ (u187.1 0 12).toInt ∧ (u187.1 0 12).toInt < 24000 from (om_b8c65df586 zt zws q204 q205))) tw_8 tw_9 (by decide +kernel) rfl rfl ⟨show 0 + 1 ≤ 40 * n + 6 from om_19dfed8989, show 8 + (2 + 11) + 0 ≤ 28 * (40 * n + 6) from om_37bd887971⟩ (List.range (mW ad N cI cZ cJ (wA (wA u187 0 47 ((u187.1 0 47) + (1 : Int32))) 0 48 ((u187.1 0 48) + (1 : Int32)))).length) (rg_map _) (mW_nd _ _ _ _ _ _) rfl rfl rfl rfl hl.1 rfl (Nat.le_of_ble_eq_true rfl) dX13_sets_68 ⟨Nat.le_of_ble_eq_true rfl, Nat.le_of_ble_eq_true rfl⟩) hP hD hS hA (fun r208 u207 H locs hw206 hP hD hS => ?_)
          obtain ⟨rfl, rfl⟩ := hw206
          have z209 : ((u187.1 0 12) + (1 : Int32)).toInt = ((u187.1 0 12).toInt) + 1 := add_z rfl (show (1 : Int32).toInt = 1 by decide) (om_53475c3cd5 zws q204 q205) (om_37dc27837e zt zws q204 q205)
          have hP : va_P (dC, dI) vwCl (mW ad N cI cZ cJ (wA (wA (wA (wA u187 0 47 ((u187.1 0 47) + (1 : Int32))) 0 48 ((u187.1 0 48) + (1 : Int32))) 11 ((u187.1 0 12).toNatClampNeg) r203) 0 12 ((u187.1 0 12) + (1 : Int32)))) H := hP
          have hD : va_D A (mW ad N cI cZ cJ (wA (wA (wA (wA u187 0 47 ((u187.1 0 47) + (1 : Int32))) 0 48 ((u187.1 0 48) + (1 : Int32))) 11 ((u187.1 0 12).toNatClampNeg) r203) 0 12 ((u187.1 0 12) + (1 : Int32)))) := hD
          refine tp_i (y := (u187.1 0 12)) (rfl) ?_
          refine W.widen (k := 0) (n := 0) (Nat.le_refl _) (Nat.le_refl _) ?_
          refine lv_iload_n hx hb dX13_sets_71 rfl (lv_at hl 5 rfl) ?_
          refine lv_iconst (v := 3) hx hb dX13_sets_72 (by decide) ?_
          have q210 : (u180.1 0 43).toInt = (v.1 0 43).toInt := congrArg Int32.toInt ((fr179.2.1 43 (by decide)).trans (show v.1 0 43 = (v.1 0 43) by rfl))
          have q211 : (u187.1 0 43).toInt = (u180.1 0 43).toInt := congrArg Int32.toInt ((fr186.2.1 43 (by decide)).trans (show u180.1 0 43 = (u180.1 0 43) by rfl))
          refine cu_v (rn_V (n := 3) (As := [.int (u187.1 0 12), .int pb, .int 3]) (rest := []) hx hb hml hown ht hKK hFx hP hD hS hA (c_m_fix l dC dI cI cB cZ cJ cR tb H.size ad N (wA (wA (wA (wA u187 0 47 ((u187.1 0 47) + (1 : Int32))) 0 48 ((u187.1 0 48) + (1 : Int32))) 11 ((u187.1 0 12).toNatClampNeg) r203) 0 12 ((u187.1 0 12) + (1 : Int32))) (u187.1 0 12) pb (3 : Int32) (show 0 ≤ (u187.1 0 43).toInt ∧ (u187.1 0 43).toInt < 24000 from (om_8eb384b5c0 zt zfs q210 q211))) tw_69 tw_70 (by decide +kernel) rfl rfl ⟨show 0 + 1 ≤ 40 * n + 6 from om_19dfed8989, show 8 + (4 + 11) + 0 ≤ 28 * (40 * n + 6) from om_651bdf9b58⟩ (List.range (mW ad N cI cZ cJ (wA (wA (wA (wA u187 0 47 ((u187.1 0 47) + (1 : Int32))) 0 48 ((u187.1 0 48) + (1 : Int32))) 11 ((u187.1 0 12).toNatClampNeg) r203) 0 12 ((u187.1 0 12) + (1 : Int32)))).length) (rg_map _) (mW_nd _ _ _ _ _ _) rfl rfl rfl rfl hl.1 rfl (Nat.le_of_ble_eq_true rfl) dX13_sets_73 ⟨Nat.le_of_ble_eq_true rfl, Nat.le_of_ble_eq_true rfl⟩) hP hD hS hA (fun u213 H locs hw212 hP hD hS => ?_)
          obtain rfl := hw212
          have z215 : ((u187.1 0 43) + (1 : Int32)).toInt = ((u187.1 0 43).toInt) + 1 := add_z rfl (show (1 : Int32).toInt = 1 by decide) (om_5feb126984 zfs q210 q211) (om_2700bf36d0 zt zfs q210 q211)
          have hP : va_P (dC, dI) vwCl (mW ad N cI cZ cJ (wA (wA (wA (wA (wA (wA (wA (wA u187 0 47 ((u187.1 0 47) + (1 : Int32))) 0 48 ((u187.1 0 48) + (1 : Int32))) 11 ((u187.1 0 12).toNatClampNeg) r203) 0 12 ((u187.1 0 12) + (1 : Int32))) 40 ((u187.1 0 43).toNatClampNeg) (u187.1 0 12)) 41 ((u187.1 0 43).toNatClampNeg) pb) 42 ((u187.1 0 43).toNatClampNeg) (3 : Int32)) 0 43 ((u187.1 0 43) + (1 : Int32)))) H := hP
          have hD : va_D A (mW ad N cI cZ cJ (wA (wA (wA (wA (wA (wA (wA (wA u187 0 47 ((u187.1 0 47) + (1 : Int32))) 0 48 ((u187.1 0 48) + (1 : Int32))) 11 ((u187.1 0 12).toNatClampNeg) r203) 0 12 ((u187.1 0 12) + (1 : Int32))) 40 ((u187.1 0 43).toNatClampNeg) (u187.1 0 12)) 41 ((u187.1 0 43).toNatClampNeg) pb) 42 ((u187.1 0 43).toNatClampNeg) (3 : Int32)) 0 43 ((u187.1 0 43) + (1 : Int32)))) := hD
          refine W.widen (k := 0) (n := 0) (Nat.le_refl _) (Nat.le_refl _) ?_
          obtain ⟨u216, hu217⟩ : ∃ z, z = (wA (wA (wA (wA (wA (wA (wA (wA u187 0 47 ((u187.1 0 47) + (1 : Int32))) 0 48 ((u187.1 0 48) + (1 : Int32))) 11 ((u187.1 0 12).toNatClampNeg) r203) 0 12 ((u187.1 0 12) + (1 : Int32))) 40 ((u187.1 0 43).toNatClampNeg) (u187.1 0 12)) 41 ((u187.1 0 43).toNatClampNeg) pb) 42 ((u187.1 0 43).toNatClampNeg) (3 : Int32)) 0 43 ((u187.1 0 43) + (1 : Int32))) := ⟨_, rfl⟩
          have fr217 : FG [12, 43, 47, 48] [0, 11, 40, 41, 42] u187 u216 := by rw [hu217]; exact (FG.f (FG.a (FG.a (FG.a (FG.f (FG.a (FG.f (FG.f (FG.rf _) ((u187.1 0 47) + (1 : Int32)) (by decide)) ((u187.1 0 48) + (1 : Int32)) (by decide)) ((u187.1 0 12).toNatClampNeg) r203 (by decide) (by decide)) ((u187.1 0 12) + (1 : Int32)) (by decide)) ((u187.1 0 43).toNatClampNeg) (u187.1 0 12) (by decide) (by decide)) ((u187.1 0 43).toNatClampNeg) pb (by decide) (by decide)) ((u187.1 0 43).toNatClampNeg) (3 : Int32) (by decide) (by decide)) ((u187.1 0 43) + (1 : Int32)) (by decide))
          have kc217 : ∀ j : Nat, (j : Int) < (v.1 0 12).toInt → (u216.1 11) j = (v.1 11) j := by rw [hu217]; exact (fun (j9 : Nat) hj9 => (Eq.trans (pk_un3 (a := (u187.1 0 12).toInt) rfl (om_e597dbbf39 zws q204 q205) (om_2a5d4a8f22 q204 q205 hj9)) (Eq.trans (congrFun (fr186.2.2 11 (by decide)) j9) (congrFun (fr179.2.2 11 (by decide)) j9))))
          rw [← hu217] at hP hD
          refine lv_aload_n hx hb dX13_sets_76 rfl (lv_at hl 3 rfl) ?_
          refine lv_bipush (v := 10) hx hb dX13_sets_77 (by decide) ?_
          refine lv_iload hx hb dX13_sets_79 (lv_at hl 1 rfl) ?_
          refine cu_s (mW_nd _ _ _ _ _ _) (rn_S (n := 1) (As := [.int r181]) (rest := [.int 10, .ref (ad 0)]) hx hb hml hown ht hKK hFx hP hD hS hA (c_m_slotAt l dC dI cI cB cZ cJ cR tb H.size r181 ) tw_74 tw_75 (by decide +kernel) rfl rfl ⟨show 0 + 1 ≤ 40 * n + 6 from om_19dfed8989, show 8 + (1 + 11) + 0 ≤ 28 * (40 * n + 6) from om_213884e4e8⟩ [] rfl rfl rfl hl.1 rfl (Nat.le_of_ble_eq_true rfl) dX13_sets_81 ⟨Nat.le_of_ble_eq_true rfl, Nat.le_of_ble_eq_true rfl⟩) hP hD hS hA (fun r220 H locs hw218 hP hD hS => ?_)
          refine W.widen (k := 0) (n := 0) (Nat.le_refl _) (Nat.le_refl _) ?_
          refine lv_bipush (v := 8) hx hb dX13_sets_84 (by decide) ?_
          refine cu_s (mW_nd _ _ _ _ _ _) (rn_S (n := 3) (As := [.int 10, .int r220, .int 8]) (rest := [.ref (ad 0)]) hx hb hml hown ht hKK hFx hP hD hS hA (c_m_sw l dC dI cI cB cZ cJ cR tb H.size (10 : Int32) r220 (8 : Int32) ) tw_76 tw_77 (by decide +kernel) rfl rfl ⟨show 0 + 1 ≤ 40 * n + 6 from om_19dfed8989, show 8 + (3 + 11) + 0 ≤ 28 * (40 * n + 6) from om_bc89bc7b20⟩ [] rfl rfl rfl hl.1 rfl (Nat.le_of_ble_eq_true rfl) dX13_sets_86 ⟨Nat.le_of_ble_eq_true rfl, Nat.le_of_ble_eq_true rfl⟩) hP hD hS hA (fun r223 H locs hw221 hP hD hS => ?_)
          refine W.widen (k := 0) (n := 0) (Nat.le_refl _) (Nat.le_refl _) ?_
          have q224 : (u216.1 0 12).toInt = (((u187.1 0 12).toInt) + 1) := by rw [hu217]; exact (show ((u187.1 0 12) + (1 : Int32)).toInt = (((u187.1 0 12).toInt) + 1) from z209)
          refine cu_i (rn_V (n := 1) (As := [.int r223]) (rest := []) hx hb hml hown ht hKK hFx hP hD hS hA (c_m_emit l dC dI cI cB cZ cJ cR tb H.size ad N u216 r223 (show 0 ≤ (u216.1 0 12).toInt ∧ (u216.1 0 12).toInt < 24000 from (om_34546aaaa8 zt zws q204 q205 q224))) tw_8 tw_9 (by decide +kernel) rfl rfl ⟨show 0 + 1 ≤ 40 * n + 6 from om_19dfed8989, show 8 + (2 + 11) + 0 ≤ 28 * (40 * n + 6) from om_37bd887971⟩ (List.range (mW ad N cI cZ cJ u216).length) (rg_map _) (mW_nd _ _ _ _ _ _) rfl rfl rfl rfl hl.1 rfl (Nat.le_of_ble_eq_true rfl) dX13_sets_89 ⟨Nat.le_of_ble_eq_true rfl, Nat.le_of_ble_eq_true rfl⟩) hP hD hS hA (fun r227 u226 H locs hw225 hP hD hS => ?_)
          obtain ⟨rfl, rfl⟩ := hw225
          have z228 : ((u216.1 0 12) + (1 : Int32)).toInt = ((u216.1 0 12).toInt) + 1 := add_z rfl (show (1 : Int32).toInt = 1 by decide) (om_2438459d85 zws q204 q205 q224) (om_cdbe6c3cf1 zt zws q204 q205 q224)
          have hP : va_P (dC, dI) vwCl (mW ad N cI cZ cJ (wA (wA u216 11 ((u216.1 0 12).toNatClampNeg) r223) 0 12 ((u216.1 0 12) + (1 : Int32)))) H := hP
          have hD : va_D A (mW ad N cI cZ cJ (wA (wA u216 11 ((u216.1 0 12).toNatClampNeg) r223) 0 12 ((u216.1 0 12) + (1 : Int32)))) := hD
          refine tp_i (y := (u216.1 0 12)) (rfl) ?_
          refine W.widen (k := 0) (n := 0) (Nat.le_refl _) (Nat.le_refl _) ?_
          refine lv_pop hx hb dX13_sets_92 rfl ?_
          refine lv_iload hx hb dX13_sets_93 (lv_at hl 7 rfl) ?_
          refine lv_if_eq (tgt := 111) hx hb dX13_sets_95 (by decide) (fun h229 => ?_) (fun h229 => ?_)
          · have z230 : pd.toInt = 0 := eq_z rfl (show (0 : Int32).toInt = 0 by decide) h229
            exact False.elim (om_09bd01a305 z178 z230)
          · have z231 : pd.toInt ≠ 0 := ne_z rfl (show (0 : Int32).toInt = 0 by decide) h229
            refine lv_aload_n hx hb dX13_sets_98 rfl (lv_at hl 3 rfl) ?_
            refine lv_bipush (v := 10) hx hb dX13_sets_99 (by decide) ?_
            refine lv_iconst (v := 0) hx hb dX13_sets_101 (by decide) ?_
            refine lv_bipush (v := 10) hx hb dX13_sets_102 (by decide) ?_
            refine cu_s (mW_nd _ _ _ _ _ _) (rn_S (n := 3) (As := [.int 10, .int 0, .int 10]) (rest := [.ref (ad 0)]) hx hb hml hown ht hKK hFx hP hD hS hA (c_m_lw l dC dI cI cB cZ cJ cR tb H.size (10 : Int32) (0 : Int32) (10 : Int32) ) tw_71 tw_72 (by decide +kernel) rfl rfl ⟨show 1 + 1 ≤ 40 * n + 6 from om_aa70640b3b, show 8 + (3 + 11) + 24 ≤ 28 * (40 * n + 6) from om_6539950522⟩ [] rfl rfl rfl hl.1 rfl (Nat.le_of_ble_eq_true rfl) dX13_sets_104 ⟨Nat.le_of_ble_eq_true rfl, Nat.le_of_ble_eq_true rfl⟩) hP hD hS hA (fun r234 H locs hw232 hP hD hS => ?_)
            refine W.widen (k := 0) (n := 0) (Nat.le_refl _) (Nat.le_refl _) ?_
            refine cu_i (rn_V (n := 1) (As := [.int r234]) (rest := []) hx hb hml hown ht hKK hFx hP hD hS hA (c_m_emit l dC dI cI cB cZ cJ cR tb H.size ad N (wA (wA u216 11 ((u216.1 0 12).toNatClampNeg) r223) 0 12 ((u216.1 0 12) + (1 : Int32))) r234 (show 0 ≤ ((u216.1 0 12) + (1 : Int32)).toInt ∧ ((u216.1 0 12) + (1 : Int32)).toInt < 24000 from (om_f4db401c06 zt zws q204 q205 q224 z228))) tw_8 tw_9 (by decide +kernel) rfl rfl ⟨show 0 + 1 ≤ 40 * n + 6 from om_19dfed8989, show 8 + (2 + 11) + 0 ≤ 28 * (40 * n + 6) from om_37bd887971⟩ (List.range (mW ad N cI cZ cJ (wA (wA u216 11 ((u216.1 0 12).toNatClampNeg) r223) 0 12 ((u216.1 0 12) + (1 : Int32)))).length) (rg_map _) (mW_nd _ _ _ _ _ _) rfl rfl rfl rfl hl.1 rfl (Nat.le_of_ble_eq_true rfl) dX13_sets_107 ⟨Nat.le_of_ble_eq_true rfl, Nat.le_of_ble_eq_true rfl⟩) hP hD hS hA (fun r237 u236 H locs hw235 hP hD hS => ?_)
            obtain ⟨rfl, rfl⟩ := hw235
            have z238 : (((u216.1 0 12) + (1 : Int32)) + (1 : Int32)).toInt = (((u216.1 0 12).toInt) + 1) + 1 := add_z z228 (show (1 : Int32).toInt = 1 by decide) (om_793d132cd0 zws q204 q205 q224) (om_3e7a6ea439 zt zws q204 q205 q224)
            have hP : va_P (dC, dI) vwCl (mW ad N cI cZ cJ (wA (wA (wA (wA u216 11 ((u216.1 0 12).toNatClampNeg) r223) 0 12 ((u216.1 0 12) + (1 : Int32))) 11 (((u216.1 0 12) + (1 : Int32)).toNatClampNeg) r234) 0 12 (((u216.1 0 12) + (1 : Int32)) + (1 : Int32)))) H := hP
            have hD : va_D A (mW ad N cI cZ cJ (wA (wA (wA (wA u216 11 ((u216.1 0 12).toNatClampNeg) r223) 0 12 ((u216.1 0 12) + (1 : Int32))) 11 (((u216.1 0 12) + (1 : Int32)).toNatClampNeg) r234) 0 12 (((u216.1 0 12) + (1 : Int32)) + (1 : Int32)))) := hD
            refine tp_i (y := ((u216.1 0 12) + (1 : Int32))) (rfl) ?_
            refine W.widen (k := 0) (n := 0) (Nat.le_refl _) (Nat.le_refl _) ?_
            refine lv_pop hx hb dX13_sets_110 rfl ?_
            refine lv_iload hx hb dX13_sets_111 (lv_at hl 7 rfl) ?_
            refine lv_if_eq (tgt := 138) hx hb dX13_sets_113 (by decide) (fun h239 => ?_) (fun h239 => ?_)
            · have z240 : pd.toInt = 0 := eq_z rfl (show (0 : Int32).toInt = 0 by decide) h239
              exact False.elim (om_09bd01a305 z178 z240)
            · have z241 : pd.toInt ≠ 0 := ne_z rfl (show (0 : Int32).toInt = 0 by decide) h239
              refine lv_aload_n hx hb dX13_sets_116 rfl (lv_at hl 3 rfl) ?_
              refine lv_bipush (v := 7) hx hb dX13_sets_117 (by decide) ?_
              refine lv_iconst (v := 0) hx hb dX13_sets_119 (by decide) ?_
              have q242 : (u180.1 0 15).toInt = (v.1 0 15).toInt := congrArg Int32.toInt ((fr179.2.1 15 (by decide)).trans (show v.1 0 15 = (v.1 0 15) by rfl))
              have q243 : (u187.1 0 15).toInt = (u180.1 0 15).toInt := congrArg Int32.toInt ((fr186.2.1 15 (by decide)).trans (show u180.1 0 15 = (u180.1 0 15) by rfl))
              have q244 : (u216.1 0 15).toInt = (u187.1 0 15).toInt := congrArg Int32.toInt (fr217.2.1 15 (by decide))
              refine cu_i (rn_V (n := 2) (As := [.int 7, .int 0]) (rest := []) hx hb hml hown ht hKK hFx hP hD hS hA (c_m_say l dC dI cI cB cZ cJ cR tb H.size ad N (wA (wA (wA (wA u216 11 ((u216.1 0 12).toNatClampNeg) r223) 0 12 ((u216.1 0 12) + (1 : Int32))) 11 (((u216.1 0 12) + (1 : Int32)).toNatClampNeg) r234) 0 12 (((u216.1 0 12) + (1 : Int32)) + (1 : Int32))) (7 : Int32) (0 : Int32) (show 0 ≤ (u216.1 0 15).toInt ∧ (u216.1 0 15).toInt < 16000 from (om_a4a20ef6fd zt zos q242 q243 q244))) tw_59 tw_60 (by decide +kernel) rfl rfl ⟨show 0 + 1 ≤ 40 * n + 6 from om_19dfed8989, show 8 + (3 + 11) + 0 ≤ 28 * (40 * n + 6) from om_bc89bc7b20⟩ (List.range (mW ad N cI cZ cJ (wA (wA (wA (wA u216 11 ((u216.1 0 12).toNatClampNeg) r223) 0 12 ((u216.1 0 12) + (1 : Int32))) 11 (((u216.1 0 12) + (1 : Int32)).toNatClampNeg) r234) 0 12 (((u216.1 0 12) + (1 : Int32)) + (1 : Int32)))).length) (rg_map _) (mW_nd _ _ _ _ _ _) rfl rfl rfl rfl hl.1 rfl (Nat.le_of_ble_eq_true rfl) dX13_sets_120 ⟨Nat.le_of_ble_eq_true rfl, Nat.le_of_ble_eq_true rfl⟩) hP hD hS hA (fun r247 u246 H locs hw245 hP hD hS => ?_)
              obtain ⟨rfl, rfl⟩ := hw245
              have z248 : ((u216.1 0 15) + (1 : Int32)).toInt = ((u216.1 0 15).toInt) + 1 := add_z rfl (show (1 : Int32).toInt = 1 by decide) (om_8194030f6b zos q242 q243 q244) (om_03b7b0d272 zt zos q242 q243 q244)
              have hP : va_P (dC, dI) vwCl (mW ad N cI cZ cJ (wA (wA (wA (wA (wA (wA (wA u216 11 ((u216.1 0 12).toNatClampNeg) r223) 0 12 ((u216.1 0 12) + (1 : Int32))) 11 (((u216.1 0 12) + (1 : Int32)).toNatClampNeg) r234) 0 12 (((u216.1 0 12) + (1 : Int32)) + (1 : Int32))) 13 ((u216.1 0 15).toNatClampNeg) (7 : Int32)) 14 ((u216.1 0 15).toNatClampNeg) (0 : Int32)) 0 15 ((u216.1 0 15) + (1 : Int32)))) H := hP
              have hD : va_D A (mW ad N cI cZ cJ (wA (wA (wA (wA (wA (wA (wA u216 11 ((u216.1 0 12).toNatClampNeg) r223) 0 12 ((u216.1 0 12) + (1 : Int32))) 11 (((u216.1 0 12) + (1 : Int32)).toNatClampNeg) r234) 0 12 (((u216.1 0 12) + (1 : Int32)) + (1 : Int32))) 13 ((u216.1 0 15).toNatClampNeg) (7 : Int32)) 14 ((u216.1 0 15).toNatClampNeg) (0 : Int32)) 0 15 ((u216.1 0 15) + (1 : Int32)))) := hD
              refine tp_i (y := (u216.1 0 15)) (rfl) ?_
              refine W.widen (k := 0) (n := 0) (Nat.le_refl _) (Nat.le_refl _) ?_
              obtain ⟨u249, hu250⟩ : ∃ z, z = (wA (wA (wA (wA (wA (wA (wA u216 11 ((u216.1 0 12).toNatClampNeg) r223) 0 12 ((u216.1 0 12) + (1 : Int32))) 11 (((u216.1 0 12) + (1 : Int32)).toNatClampNeg) r234) 0 12 (((u216.1 0 12) + (1 : Int32)) + (1 : Int32))) 13 ((u216.1 0 15).toNatClampNeg) (7 : Int32)) 14 ((u216.1 0 15).toNatClampNeg) (0 : Int32)) 0 15 ((u216.1 0 15) + (1 : Int32))) := ⟨_, rfl⟩
              have fr250 : FG [12, 15] [0, 11, 13, 14] u216 u249 := by rw [hu250]; exact (FG.f (FG.a (FG.a (FG.f (FG.a (FG.f (FG.a (FG.rf _) ((u216.1 0 12).toNatClampNeg) r223 (by decide) (by decide)) ((u216.1 0 12) + (1 : Int32)) (by decide)) (((u216.1 0 12) + (1 : Int32)).toNatClampNeg) r234 (by decide) (by decide)) (((u216.1 0 12) + (1 : Int32)) + (1 : Int32)) (by decide)) ((u216.1 0 15).toNatClampNeg) (7 : Int32) (by decide) (by decide)) ((u216.1 0 15).toNatClampNeg) (0 : Int32) (by decide) (by decide)) ((u216.1 0 15) + (1 : Int32)) (by decide))
              have kc250 : ∀ j : Nat, (j : Int) < (v.1 0 12).toInt → (u249.1 11) j = (v.1 11) j := by rw [hu250]; exact (fun (j9 : Nat) hj9 => (Eq.trans (pk_un3 (a := ((u216.1 0 12) + (1 : Int32)).toInt) rfl (om_bebdfe850b zws q204 q205 q224 z228) (om_72f7fe8055 q204 q205 q224 z228 hj9)) (Eq.trans (pk_un3 (a := (u216.1 0 12).toInt) rfl (om_523ac8eba4 zws q204 q205 q224) (om_925bfe73b8 q204 q205 q224 hj9)) (kc217 j9 hj9))))
              have ko250 : ∀ j : Nat, (j : Int) < (v.1 0 15).toInt → (u249.1 13) j = (v.1 13) j := by rw [hu250]; exact (fun (j9 : Nat) hj9 => (Eq.trans (pk_un3 (a := (u216.1 0 15).toInt) rfl (om_9db91f104b zos q242 q243 q244) (om_ea2b772ec2 q242 q243 q244 hj9)) (Eq.trans (congrFun (fr217.2.2 13 (by decide)) j9) (Eq.trans (congrFun (fr186.2.2 13 (by decide)) j9) (congrFun (fr179.2.2 13 (by decide)) j9)))))
              have kg250 : ∀ j : Nat, (j : Int) < (v.1 0 15).toInt → (u249.1 14) j = (v.1 14) j := by rw [hu250]; exact (fun (j9 : Nat) hj9 => (Eq.trans (pk_un3 (a := (u216.1 0 15).toInt) rfl (om_9db91f104b zos q242 q243 q244) (om_ea2b772ec2 q242 q243 q244 hj9)) (Eq.trans (congrFun (fr217.2.2 14 (by decide)) j9) (Eq.trans (congrFun (fr186.2.2 14 (by decide)) j9) (congrFun (fr179.2.2 14 (by decide)) j9)))))
              rw [← hu250] at hP hD
              refine lv_pop hx hb dX13_sets_123 rfl ?_
              refine lv_goto (tgt := 138) hx hb dX13_sets_124 (by decide) ?_
              refine lv_iload hx hb dX13_sets_138 (lv_at hl 7 rfl) ?_
              refine lv_if_eq (tgt := 160) hx hb dX13_sets_140 (by decide) (fun h251 => ?_) (fun h251 => ?_)
              · have z252 : pd.toInt = 0 := eq_z rfl (show (0 : Int32).toInt = 0 by decide) h251
                exact False.elim (om_09bd01a305 z178 z252)
              · have z253 : pd.toInt ≠ 0 := ne_z rfl (show (0 : Int32).toInt = 0 by decide) h251
                refine lv_aload_n hx hb dX13_sets_143 rfl (lv_at hl 3 rfl) ?_
                refine lv_bipush (v := 10) hx hb dX13_sets_144 (by decide) ?_
                refine lv_iload hx hb dX13_sets_146 (lv_at hl 0 rfl) ?_
                refine cu_s (mW_nd _ _ _ _ _ _) (rn_S (n := 1) (As := [.int (r181 + (1 : Int32))]) (rest := [.int 10, .ref (ad 0)]) hx hb hml hown ht hKK hFx hP hD hS hA (c_m_slotAt l dC dI cI cB cZ cJ cR tb H.size (r181 + (1 : Int32)) ) tw_74 tw_75 (by decide +kernel) rfl rfl ⟨show 0 + 1 ≤ 40 * n + 6 from om_19dfed8989, show 8 + (1 + 11) + 0 ≤ 28 * (40 * n + 6) from om_213884e4e8⟩ [] rfl rfl rfl hl.1 rfl (Nat.le_of_ble_eq_true rfl) dX13_sets_148 ⟨Nat.le_of_ble_eq_true rfl, Nat.le_of_ble_eq_true rfl⟩) hP hD hS hA (fun r256 H locs hw254 hP hD hS => ?_)
                refine W.widen (k := 0) (n := 0) (Nat.le_refl _) (Nat.le_refl _) ?_
                refine lv_bipush (v := 8) hx hb dX13_sets_151 (by decide) ?_
                refine cu_s (mW_nd _ _ _ _ _ _) (rn_S (n := 3) (As := [.int 10, .int r256, .int 8]) (rest := [.ref (ad 0)]) hx hb hml hown ht hKK hFx hP hD hS hA (c_m_sw l dC dI cI cB cZ cJ cR tb H.size (10 : Int32) r256 (8 : Int32) ) tw_76 tw_77 (by decide +kernel) rfl rfl ⟨show 0 + 1 ≤ 40 * n + 6 from om_19dfed8989, show 8 + (3 + 11) + 0 ≤ 28 * (40 * n + 6) from om_bc89bc7b20⟩ [] rfl rfl rfl hl.1 rfl (Nat.le_of_ble_eq_true rfl) dX13_sets_153 ⟨Nat.le_of_ble_eq_true rfl, Nat.le_of_ble_eq_true rfl⟩) hP hD hS hA (fun r259 H locs hw257 hP hD hS => ?_)
                refine W.widen (k := 0) (n := 0) (Nat.le_refl _) (Nat.le_refl _) ?_
                have q260 : (u249.1 0 12).toInt = ((((u216.1 0 12).toInt) + 1) + 1) := by rw [hu250]; exact (show (((u216.1 0 12) + (1 : Int32)) + (1 : Int32)).toInt = ((((u216.1 0 12).toInt) + 1) + 1) from z238)
                refine cu_i (rn_V (n := 1) (As := [.int r259]) (rest := []) hx hb hml hown ht hKK hFx hP hD hS hA (c_m_emit l dC dI cI cB cZ cJ cR tb H.size ad N u249 r259 (show 0 ≤ (u249.1 0 12).toInt ∧ (u249.1 0 12).toInt < 24000 from (om_63a865b2b0 zt zws q204 q205 q224 q260))) tw_8 tw_9 (by decide +kernel) rfl rfl ⟨show 0 + 1 ≤ 40 * n + 6 from om_19dfed8989, show 8 + (2 + 11) + 0 ≤ 28 * (40 * n + 6) from om_37bd887971⟩ (List.range (mW ad N cI cZ cJ u249).length) (rg_map _) (mW_nd _ _ _ _ _ _) rfl rfl rfl rfl hl.1 rfl (Nat.le_of_ble_eq_true rfl) dX13_sets_156 ⟨Nat.le_of_ble_eq_true rfl, Nat.le_of_ble_eq_true rfl⟩) hP hD hS hA (fun r263 u262 H locs hw261 hP hD hS => ?_)
                obtain ⟨rfl, rfl⟩ := hw261
                have z264 : ((u249.1 0 12) + (1 : Int32)).toInt = ((u249.1 0 12).toInt) + 1 := add_z rfl (show (1 : Int32).toInt = 1 by decide) (om_cf25f73a5d zws q204 q205 q224 q260) (om_47178ecb97 zt zws q204 q205 q224 q260)
                have hP : va_P (dC, dI) vwCl (mW ad N cI cZ cJ (wA (wA u249 11 ((u249.1 0 12).toNatClampNeg) r259) 0 12 ((u249.1 0 12) + (1 : Int32)))) H := hP
                have hD : va_D A (mW ad N cI cZ cJ (wA (wA u249 11 ((u249.1 0 12).toNatClampNeg) r259) 0 12 ((u249.1 0 12) + (1 : Int32)))) := hD
                refine tp_i (y := (u249.1 0 12)) (rfl) ?_
                refine W.widen (k := 0) (n := 0) (Nat.le_refl _) (Nat.le_refl _) ?_
                refine lv_pop hx hb dX13_sets_159 rfl ?_
                refine lv_aload_n hx hb dX13_sets_160 rfl (lv_at hl 3 rfl) ?_
                refine lv_dup hx hb dX13_sets_161 rfl ?_
                refine va_get (D := (dC, dI)) (ci := 16) (fs := mF ad (wA (wA u249 11 ((u249.1 0 12).toNatClampNeg) r259) 0 12 ((u249.1 0 12) + (1 : Int32)))) (v := .int (u249.1 0 32)) (C := RX13) (T := TX13) (N := 124) hx hb ht itX13 hown hK hP 0 rfl rfl 32 (by decide) (ht _ tw_52) (fun _ h9 => h9) rfl dX13_sets_162 ?_
                refine lv_iload hx hb dX13_sets_165 (lv_at hl 2 rfl) ?_
                refine lv_iadd hx hb dX13_sets_167 ?_
                have q265 : (u180.1 0 32).toInt = (v.1 0 32).toInt := congrArg Int32.toInt ((fr179.2.1 32 (by decide)).trans (show v.1 0 32 = (v.1 0 32) by rfl))
                have q266 : (u187.1 0 32).toInt = (u180.1 0 32).toInt := congrArg Int32.toInt ((fr186.2.1 32 (by decide)).trans (show u180.1 0 32 = (u180.1 0 32) by rfl))
                have q267 : (u216.1 0 32).toInt = (u187.1 0 32).toInt := congrArg Int32.toInt (fr217.2.1 32 (by decide))
                have q268 : (u249.1 0 32).toInt = (u216.1 0 32).toInt := congrArg Int32.toInt (fr250.2.1 32 (by decide))
                have z269 : ((u249.1 0 32) + (2 : Int32)).toInt = ((u249.1 0 32).toInt) + 2 := add_z rfl (show (2 : Int32).toInt = 2 by decide) (om_cd919eb955 zs q265 q266 q267 q268) (om_d9bc31ecd8 zkn zs q265 q266 q267 q268)
                refine va_put (D := (dC, dI)) (ci := 16) (fs := mF ad (wA (wA u249 11 ((u249.1 0 12).toNatClampNeg) r259) 0 12 ((u249.1 0 12) + (1 : Int32)))) (v := .int ((u249.1 0 32) + (2 : Int32))) (ty := .int) (C := RX13) (T := TX13) (N := 124) hx hb ht itX13 tyX13 tyX13_ok nmX13 hown hK hP hD hS 0 rfl rfl 32 (by decide) (ht _ tw_52) (fun _ h9 => h9) rfl (by decide +kernel) rfl rfl (Nat.le_of_ble_eq_true rfl) dX13_sets_168 (fun H locs hP hD hS => ?_)
                have hP := cP_ (mw_32 ad N cI cZ cJ (wA (wA u249 11 ((u249.1 0 12).toNatClampNeg) r259) 0 12 ((u249.1 0 12) + (1 : Int32))) ((u249.1 0 32) + (2 : Int32))) hP
                have hD := cD_ (mw_32 ad N cI cZ cJ (wA (wA u249 11 ((u249.1 0 12).toNatClampNeg) r259) 0 12 ((u249.1 0 12) + (1 : Int32))) ((u249.1 0 32) + (2 : Int32))) hD
                refine lv_aload_n hx hb dX13_sets_171 rfl (lv_at hl 3 rfl) ?_
                obtain ⟨n270, hn271⟩ : ∃ m, n = m + 1 := ex_z (om_f9013cab6d zn q191 q192 b193)
                have q272 : (u216.1 0 48).toInt = (((u187.1 0 48).toInt) + 1) := by rw [hu217]; exact (show ((u187.1 0 48) + (1 : Int32)).toInt = (((u187.1 0 48).toInt) + 1) from z197)
                have q273 : (u249.1 0 48).toInt = (u216.1 0 48).toInt := congrArg Int32.toInt (fr250.2.1 48 (by decide))
                have q274 : (u216.1 0 47).toInt = (((u187.1 0 47).toInt) + 1) := by rw [hu217]; exact (show ((u187.1 0 47) + (1 : Int32)).toInt = (((u187.1 0 47).toInt) + 1) from z196)
                have q275 : (u249.1 0 47).toInt = (u216.1 0 47).toInt := congrArg Int32.toInt (fr250.2.1 47 (by decide))
                have q276 : (u180.1 0 30).toInt = (v.1 0 30).toInt := congrArg Int32.toInt ((fr179.2.1 30 (by decide)).trans (show v.1 0 30 = (v.1 0 30) by rfl))
                have q277 : (u187.1 0 30).toInt = (u180.1 0 30).toInt := congrArg Int32.toInt ((fr186.2.1 30 (by decide)).trans (show u180.1 0 30 = (u180.1 0 30) by rfl))
                have q278 : (u216.1 0 30).toInt = (u187.1 0 30).toInt := congrArg Int32.toInt (fr217.2.1 30 (by decide))
                have q279 : (u249.1 0 30).toInt = (u216.1 0 30).toInt := congrArg Int32.toInt (fr250.2.1 30 (by decide))
                have q280 : (u187.1 0 33).toInt = (u180.1 0 33).toInt := congrArg Int32.toInt ((fr186.2.1 33 (by decide)).trans (show u180.1 0 33 = (u180.1 0 33) by rfl))
                have q281 : (u216.1 0 33).toInt = (u187.1 0 33).toInt := congrArg Int32.toInt (fr217.2.1 33 (by decide))
                have q282 : (u249.1 0 33).toInt = (u216.1 0 33).toInt := congrArg Int32.toInt (fr250.2.1 33 (by decide))
                have q283 : (u187.1 0 49).toInt = (u180.1 0 49).toInt := congrArg Int32.toInt ((fr186.2.1 49 (by decide)).trans (show u180.1 0 49 = (u180.1 0 49) by rfl))
                have q284 : (u249.1 0 15).toInt = (((u216.1 0 15).toInt) + 1) := by rw [hu250]; exact (show ((u216.1 0 15) + (1 : Int32)).toInt = (((u216.1 0 15).toInt) + 1) from z248)
                have q285 : (u216.1 0 43).toInt = (((u187.1 0 43).toInt) + 1) := by rw [hu217]; exact (show ((u187.1 0 43) + (1 : Int32)).toInt = (((u187.1 0 43).toInt) + 1) from z215)
                have q286 : (u249.1 0 43).toInt = (u216.1 0 43).toInt := congrArg Int32.toInt (fr250.2.1 43 (by decide))
                have q287 : (u180.1 0 39).toInt = (v.1 0 39).toInt := congrArg Int32.toInt ((fr179.2.1 39 (by decide)).trans (show v.1 0 39 = (v.1 0 39) by rfl))
                have q288 : (u187.1 0 39).toInt = (u180.1 0 39).toInt := congrArg Int32.toInt ((fr186.2.1 39 (by decide)).trans (show u180.1 0 39 = (u180.1 0 39) by rfl))
                have q289 : (u216.1 0 39).toInt = (u187.1 0 39).toInt := congrArg Int32.toInt (fr217.2.1 39 (by decide))
                have q290 : (u249.1 0 39).toInt = (u216.1 0 39).toInt := congrArg Int32.toInt (fr250.2.1 39 (by decide))
                have q291 : (u180.1 0 27).toInt = (v.1 0 27).toInt := congrArg Int32.toInt ((fr179.2.1 27 (by decide)).trans (show v.1 0 27 = (v.1 0 27) by rfl))
                have q292 : (u187.1 0 27).toInt = (u180.1 0 27).toInt := congrArg Int32.toInt ((fr186.2.1 27 (by decide)).trans (show u180.1 0 27 = (u180.1 0 27) by rfl))
                have q293 : (u216.1 0 27).toInt = (u187.1 0 27).toInt := congrArg Int32.toInt (fr217.2.1 27 (by decide))
                have q294 : (u249.1 0 27).toInt = (u216.1 0 27).toInt := congrArg Int32.toInt (fr250.2.1 27 (by decide))
                refine cux_v (rx_V (n := 0) (As := []) (rest := []) hx hb hml hown ht hKK hFx hP hD hS hA (ihE n270 hn271 dC dI cI cB cZ cJ cR tb H.size ad N (wA (wA (wA u249 11 ((u249.1 0 12).toNatClampNeg) r259) 0 12 ((u249.1 0 12) + (1 : Int32))) 0 32 ((u249.1 0 32) + (2 : Int32)))  (show 40 ≤ (u249.1 0 48).toInt + (n270 : Int) from (om_aa93ba60ee zn q191 q192 q272 q273 hn271)) (show 0 ≤ (u249.1 0 47).toInt ∧ (u249.1 0 47).toInt ≤ 1500 from (om_7ce81a9a68 zfs q189 q190 a193 q274 q275)) (show 0 ≤ (u249.1 0 48).toInt ∧ (u249.1 0 48).toInt ≤ 40 from (om_a0cc62e86a zop q191 q192 b193 q272 q273)) (show 0 ≤ (u249.1 0 30).toInt ∧ (u249.1 0 30).toInt ≤ 500 from (om_31e0c91fb9 zkn q276 q277 q278 q279)) (show 0 ≤ (u249.1 0 33).toInt ∧ (u249.1 0 33).toInt ≤ 500 from (om_41a9977466 zhi sh179 q280 q281 q282)) (show 0 ≤ ((u249.1 0 32) + (2 : Int32)).toInt ∧ (u249.1 0 30).toInt + ((u249.1 0 32) + (2 : Int32)).toInt ≤ 500 from (om_9bbb666feb zs q276 q265 q189 sb179 sh179 q277 q266 q190 q283 c193 q278 q267 q279 q268 z269)) (show 0 ≤ ((u249.1 0 12) + (1 : Int32)).toInt ∧ ((u249.1 0 12) + (1 : Int32)).toInt ≤ 15 * (u249.1 0 47).toInt + 2 from (om_031cdb2a67 zws q204 q189 q205 q190 q224 q274 q260 q275 z264)) (show 0 ≤ (u249.1 0 15).toInt ∧ (u249.1 0 15).toInt ≤ 10 * (u249.1 0 47).toInt + 0 from (om_231e83f727 zos q242 q189 q243 q190 q244 q274 q284 q275)) (show 0 ≤ (u249.1 0 43).toInt ∧ (u249.1 0 43).toInt ≤ 15 * (u249.1 0 47).toInt + 0 from (om_a4bf09ff5c zfs q210 q189 q211 q190 q285 q274 q286 q275)) (show 0 ≤ (u249.1 0 39).toInt ∧ (u249.1 0 39).toInt ≤ 1 * (u249.1 0 47).toInt + 0 from (om_5c3b0f08cc zcs q287 q189 q288 q190 q289 q274 q290 q275)) (show 0 ≤ (u249.1 0 27).toInt ∧ (u249.1 0 27).toInt ≤ 60 from (om_36df6ebd11 zgl q291 q292 q293 q294)) (FG.ti (fl := pfl) (al := pal) (FG.f (FG.f (FG.a (FG.tr (FG.tr (FG.tr (FG.tr (FG.rf _) (FG.up fr179 (by decide) (by decide))) (FG.up fr186 (by decide) (by decide))) (FG.up fr217 (by decide) (by decide))) (FG.up fr250 (by decide) (by decide))) ((u249.1 0 12).toNatClampNeg) r259 (by decide) (by decide)) ((u249.1 0 12) + (1 : Int32)) (by decide)) ((u249.1 0 32) + (2 : Int32)) (by decide)) (by decide) (by decide) hT) ((show NI 29 u249 from NI.fr (fl := [12, 15]) (al := [0, 11, 13, 14]) fr250 (by decide) (show NI 29 u216 from NI.fr (fl := [12, 43, 47, 48]) (al := [0, 11, 40, 41, 42]) fr217 (by decide) (show NI 29 u187 from NI.fr (fl := [44, 45]) (al := [0]) fr186 (by decide) (show NI 29 u180 from NI.fr (fl := [33, 49]) (al := [0]) fr179 (by decide) n29))))) ((show NI 23 u249 from NI.fr (fl := [12, 15]) (al := [0, 11, 13, 14]) fr250 (by decide) (show NI 23 u216 from NI.fr (fl := [12, 43, 47, 48]) (al := [0, 11, 40, 41, 42]) fr217 (by decide) (show NI 23 u187 from NI.fr (fl := [44, 45]) (al := [0]) fr186 (by decide) (show NI 23 u180 from NI.fr (fl := [33, 49]) (al := [0]) fr179 (by decide) n23))))) ((show NI 35 u249 from NI.fr (fl := [12, 15]) (al := [0, 11, 13, 14]) fr250 (by decide) (show NI 35 u216 from NI.fr (fl := [12, 43, 47, 48]) (al := [0, 11, 40, 41, 42]) fr217 (by decide) (show NI 35 u187 from NI.fr (fl := [44, 45]) (al := [0]) fr186 (by decide) (show NI 35 u180 from NI.fr (fl := [33, 49]) (al := [0]) fr179 (by decide) n35)))))) tw_80 tw_81 (by decide +kernel) rfl rfl ⟨show (40 * n270 + 36) + 1 ≤ 40 * n + 6 from (om_a8c331ff68 hn271), show 8 + (1 + 11) + 28 * (40 * n270 + 36) ≤ 28 * (40 * n + 6) from (om_93090b8001 hn271)⟩ (List.range (mW ad N cI cZ cJ (wA (wA (wA u249 11 ((u249.1 0 12).toNatClampNeg) r259) 0 12 ((u249.1 0 12) + (1 : Int32))) 0 32 ((u249.1 0 32) + (2 : Int32)))).length) (rg_map _) (mW_nd _ _ _ _ _ _) rfl rfl rfl rfl hl.1 rfl (Nat.le_of_ble_eq_true rfl) dX13_sets_172 ⟨Nat.le_of_ble_eq_true rfl, Nat.le_of_ble_eq_true rfl⟩) hP hD hS hA (fun u9 ce9 q9 H locs hx9 hP hD hS hc9 hv9 hf9 => ?_) (fun u296 H locs hw295 hP hD hS => ?_)
                · exact vx_out (fun x h9 => (hnt x h9).elim) hlocks hc9 hv9 hf9 (fun t9 ht9 hv8 => ⟨u9, (FG.tr (FG.f (FG.f (FG.a (FG.tr (FG.tr (FG.tr (FG.tr (FG.rf _) (FG.up fr179 (by decide) (by decide))) (FG.up fr186 (by decide) (by decide))) (FG.up fr217 (by decide) (by decide))) (FG.up fr250 (by decide) (by decide))) ((u249.1 0 12).toNatClampNeg) r259 (by decide) (by decide)) ((u249.1 0 12) + (1 : Int32)) (by decide)) ((u249.1 0 32) + (2 : Int32)) (by decide)) hx9), ⟨rfl, by rw [ht9]; exact hP, hD⟩, hS.F ht9⟩) hS.2.2 (Nat.le_refl _) (Nat.le_refl _)
                obtain ⟨fr295, pt295, pb295, pw295, po295, pf295, pk295, pp295, ph295, kc295, ko295, kg295, n35295⟩ := hw295
                have pt295 : (u249.1 0 47).toInt + 1 ≤ (u296.1 0 47).toInt ∧ (u296.1 0 47).toInt ≤ 1500 := pt295
                have pb295 : (u249.1 0 49).toInt ≠ (u249.1 0 47).toInt := pb295
                have pw295 : ((u249.1 0 12) + (1 : Int32)).toInt ≤ (u296.1 0 12).toInt ∧ (u296.1 0 12).toInt - 15 * (u296.1 0 47).toInt ≤ ((u249.1 0 12) + (1 : Int32)).toInt - 15 * (u249.1 0 47).toInt := pw295
                have po295 : (u249.1 0 15).toInt ≤ (u296.1 0 15).toInt ∧ (u296.1 0 15).toInt - 10 * (u296.1 0 47).toInt ≤ (u249.1 0 15).toInt - 10 * (u249.1 0 47).toInt := po295
                have pf295 : (u249.1 0 43).toInt ≤ (u296.1 0 43).toInt ∧ (u296.1 0 43).toInt - 15 * (u296.1 0 47).toInt ≤ (u249.1 0 43).toInt - 15 * (u249.1 0 47).toInt := pf295
                have pk295 : (u249.1 0 39).toInt ≤ (u296.1 0 39).toInt ∧ (u296.1 0 39).toInt - 1 * (u296.1 0 47).toInt ≤ (u249.1 0 39).toInt - 1 * (u249.1 0 47).toInt := pk295
                have pp295 : (u296.1 0 32).toInt = ((u249.1 0 32) + (2 : Int32)).toInt ∧ (u296.1 0 48).toInt = (u249.1 0 48).toInt := pp295
                have ph295 : (u249.1 0 33).toInt ≤ (u296.1 0 33).toInt ∧ (u296.1 0 33).toInt ≤ 500 := ph295
                have kc295 : ∀ j : Nat, (j : Int) < ((u249.1 0 12) + (1 : Int32)).toInt → (u296.1 11) j = (upd (u249.1 11) ((u249.1 0 12).toNatClampNeg) r259) j := kc295
                have ko295 : ∀ j : Nat, (j : Int) < (u249.1 0 15).toInt → (u296.1 13) j = (u249.1 13) j := ko295
                have kg295 : ∀ j : Nat, (j : Int) < (u249.1 0 15).toInt → (u296.1 14) j = (u249.1 14) j := kg295
                have n35295 : NI 35 u296 := n35295
                refine W.widen (k := 0) (n := 0) (Nat.le_refl _) (Nat.le_refl _) ?_
                refine lv_aload_n hx hb dX13_sets_175 rfl (lv_at hl 3 rfl) ?_
                refine lv_dup hx hb dX13_sets_176 rfl ?_
                refine va_get (D := (dC, dI)) (ci := 16) (fs := mF ad u296) (v := .int (u296.1 0 32)) (C := RX13) (T := TX13) (N := 124) hx hb ht itX13 hown hK hP 0 rfl rfl 32 (by decide) (ht _ tw_52) (fun _ h9 => h9) rfl dX13_sets_177 ?_
                refine lv_iload hx hb dX13_sets_180 (lv_at hl 2 rfl) ?_
                refine lv_isub hx hb dX13_sets_182 ?_
                have z298 : ((u296.1 0 32) - (2 : Int32)).toInt = ((u296.1 0 32).toInt) - 2 := sub_z rfl (show (2 : Int32).toInt = 2 by decide) (om_d37f2d34ee zs q265 q266 q267 q268 z269 pp295) (om_e45d87bc93 zkn zs q265 q266 q267 q268 z269 pp295)
                refine va_put (D := (dC, dI)) (ci := 16) (fs := mF ad u296) (v := .int ((u296.1 0 32) - (2 : Int32))) (ty := .int) (C := RX13) (T := TX13) (N := 124) hx hb ht itX13 tyX13 tyX13_ok nmX13 hown hK hP hD hS 0 rfl rfl 32 (by decide) (ht _ tw_52) (fun _ h9 => h9) rfl (by decide +kernel) rfl rfl (Nat.le_of_ble_eq_true rfl) dX13_sets_183 (fun H locs hP hD hS => ?_)
                have hP := cP_ (mw_32 ad N cI cZ cJ u296 ((u296.1 0 32) - (2 : Int32))) hP
                have hD := cD_ (mw_32 ad N cI cZ cJ u296 ((u296.1 0 32) - (2 : Int32))) hD
                refine lv_iload hx hb dX13_sets_186 (lv_at hl 7 rfl) ?_
                refine lv_if_eq (tgt := 213) hx hb dX13_sets_188 (by decide) (fun h299 => ?_) (fun h299 => ?_)
                · have z300 : pd.toInt = 0 := eq_z rfl (show (0 : Int32).toInt = 0 by decide) h299
                  exact False.elim (om_09bd01a305 z178 z300)
                · have z301 : pd.toInt ≠ 0 := ne_z rfl (show (0 : Int32).toInt = 0 by decide) h299
                  refine lv_aload_n hx hb dX13_sets_191 rfl (lv_at hl 3 rfl) ?_
                  refine lv_iconst (v := 5) hx hb dX13_sets_192 (by decide) ?_
                  refine lv_iload hx hb dX13_sets_193 (lv_at hl 0 rfl) ?_
                  refine cu_s (mW_nd _ _ _ _ _ _) (rn_S (n := 1) (As := [.int (r181 + (1 : Int32))]) (rest := [.int 5, .ref (ad 0)]) hx hb hml hown ht hKK hFx hP hD hS hA (c_m_slotAt l dC dI cI cB cZ cJ cR tb H.size (r181 + (1 : Int32)) ) tw_74 tw_75 (by decide +kernel) rfl rfl ⟨show 0 + 1 ≤ 40 * n + 6 from om_19dfed8989, show 8 + (1 + 11) + 0 ≤ 28 * (40 * n + 6) from om_213884e4e8⟩ [] rfl rfl rfl hl.1 rfl (Nat.le_of_ble_eq_true rfl) dX13_sets_195 ⟨Nat.le_of_ble_eq_true rfl, Nat.le_of_ble_eq_true rfl⟩) hP hD hS hA (fun r304 H locs hw302 hP hD hS => ?_)
                  refine W.widen (k := 0) (n := 0) (Nat.le_refl _) (Nat.le_refl _) ?_
                  refine lv_bipush (v := 8) hx hb dX13_sets_198 (by decide) ?_
                  refine cu_s (mW_nd _ _ _ _ _ _) (rn_S (n := 3) (As := [.int 5, .int r304, .int 8]) (rest := [.ref (ad 0)]) hx hb hml hown ht hKK hFx hP hD hS hA (c_m_lw l dC dI cI cB cZ cJ cR tb H.size (5 : Int32) r304 (8 : Int32) ) tw_71 tw_72 (by decide +kernel) rfl rfl ⟨show 1 + 1 ≤ 40 * n + 6 from om_aa70640b3b, show 8 + (3 + 11) + 24 ≤ 28 * (40 * n + 6) from om_6539950522⟩ [] rfl rfl rfl hl.1 rfl (Nat.le_of_ble_eq_true rfl) dX13_sets_200 ⟨Nat.le_of_ble_eq_true rfl, Nat.le_of_ble_eq_true rfl⟩) hP hD hS hA (fun r307 H locs hw305 hP hD hS => ?_)
                  refine W.widen (k := 0) (n := 0) (Nat.le_refl _) (Nat.le_refl _) ?_
                  refine cu_i (rn_V (n := 1) (As := [.int r307]) (rest := []) hx hb hml hown ht hKK hFx hP hD hS hA (c_m_emit l dC dI cI cB cZ cJ cR tb H.size ad N (wA u296 0 32 ((u296.1 0 32) - (2 : Int32))) r307 (show 0 ≤ (u296.1 0 12).toInt ∧ (u296.1 0 12).toInt < 24000 from (om_8ff9bd6225 zws q204 q189 q205 q190 q224 q274 q260 q275 z264 pt295 pw295))) tw_8 tw_9 (by decide +kernel) rfl rfl ⟨show 0 + 1 ≤ 40 * n + 6 from om_19dfed8989, show 8 + (2 + 11) + 0 ≤ 28 * (40 * n + 6) from om_37bd887971⟩ (List.range (mW ad N cI cZ cJ (wA u296 0 32 ((u296.1 0 32) - (2 : Int32)))).length) (rg_map _) (mW_nd _ _ _ _ _ _) rfl rfl rfl rfl hl.1 rfl (Nat.le_of_ble_eq_true rfl) dX13_sets_203 ⟨Nat.le_of_ble_eq_true rfl, Nat.le_of_ble_eq_true rfl⟩) hP hD hS hA (fun r310 u309 H locs hw308 hP hD hS => ?_)
                  obtain ⟨rfl, rfl⟩ := hw308
                  have z311 : ((u296.1 0 12) + (1 : Int32)).toInt = ((u296.1 0 12).toInt) + 1 := add_z rfl (show (1 : Int32).toInt = 1 by decide) (om_f5446464c5 zws q204 q205 q224 q260 z264 pw295) (om_8f8944ae1c zws q204 q189 q205 q190 q224 q274 q260 q275 z264 pt295 pw295)
                  have hP : va_P (dC, dI) vwCl (mW ad N cI cZ cJ (wA (wA (wA u296 0 32 ((u296.1 0 32) - (2 : Int32))) 11 ((u296.1 0 12).toNatClampNeg) r307) 0 12 ((u296.1 0 12) + (1 : Int32)))) H := hP
                  have hD : va_D A (mW ad N cI cZ cJ (wA (wA (wA u296 0 32 ((u296.1 0 32) - (2 : Int32))) 11 ((u296.1 0 12).toNatClampNeg) r307) 0 12 ((u296.1 0 12) + (1 : Int32)))) := hD
                  refine tp_i (y := (u296.1 0 12)) (rfl) ?_
                  refine W.widen (k := 0) (n := 0) (Nat.le_refl _) (Nat.le_refl _) ?_
                  refine lv_pop hx hb dX13_sets_206 rfl ?_
                  refine lv_aload_n hx hb dX13_sets_207 rfl (lv_at hl 3 rfl) ?_
                  refine lv_iload hx hb dX13_sets_208 (lv_at hl 7 rfl) ?_
                  refine cu_v (rn_V (n := 1) (As := [.int pd]) (rest := []) hx hb hml hown ht hKK hFx hP hD hS hA (c_m_operate l dC dI cI cB cZ cJ cR tb H.size ad N (wA (wA (wA u296 0 32 ((u296.1 0 32) - (2 : Int32))) 11 ((u296.1 0 12).toNatClampNeg) r307) 0 12 ((u296.1 0 12) + (1 : Int32))) pd (show 0 ≤ ((u296.1 0 12) + (1 : Int32)).toInt ∧ ((u296.1 0 12) + (1 : Int32)).toInt ≤ 23980 from (om_68d192cea1 zws q204 q189 q205 q190 q224 q274 q260 q275 z264 pt295 pw295 z311)) (show 0 ≤ (u296.1 0 15).toInt ∧ (u296.1 0 15).toInt ≤ 15980 from (om_1c0d5ac0ce zos q242 q189 q243 q190 q244 q274 q284 q275 pt295 po295)) (show 0 ≤ (u296.1 0 43).toInt ∧ (u296.1 0 43).toInt ≤ 23980 from (om_2375508e53 zfs q210 q189 q211 q190 q285 q274 q286 q275 pt295 pf295))) tw_94 tw_95 (by decide +kernel) rfl rfl ⟨show 2 + 1 ≤ 40 * n + 6 from om_0978fa5f20, show 8 + (2 + 11) + 46 ≤ 28 * (40 * n + 6) from om_12ff8109f0⟩ (List.range (mW ad N cI cZ cJ (wA (wA (wA u296 0 32 ((u296.1 0 32) - (2 : Int32))) 11 ((u296.1 0 12).toNatClampNeg) r307) 0 12 ((u296.1 0 12) + (1 : Int32)))).length) (rg_map _) (mW_nd _ _ _ _ _ _) rfl rfl rfl rfl hl.1 rfl (Nat.le_of_ble_eq_true rfl) dX13_sets_210 ⟨Nat.le_of_ble_eq_true rfl, Nat.le_of_ble_eq_true rfl⟩) hP hD hS hA (fun u313 H locs hw312 hP hD hS => ?_)
                  obtain ⟨fr312, pw312, po312, pf312, kc312, ko312, kg312⟩ := hw312
                  have pw312 : ((u296.1 0 12) + (1 : Int32)).toInt ≤ (u313.1 0 12).toInt ∧ (u313.1 0 12).toInt ≤ ((u296.1 0 12) + (1 : Int32)).toInt + 3 := pw312
                  have po312 : (u313.1 0 15).toInt = (u296.1 0 15).toInt + 1 := po312
                  have pf312 : (u296.1 0 43).toInt ≤ (u313.1 0 43).toInt ∧ (u313.1 0 43).toInt ≤ (u296.1 0 43).toInt + 1 := pf312
                  have kc312 : ∀ j : Nat, (j : Int) < ((u296.1 0 12) + (1 : Int32)).toInt → (u313.1 11) j = (upd (u296.1 11) ((u296.1 0 12).toNatClampNeg) r307) j := kc312
                  have ko312 : ∀ j : Nat, (j : Int) < (u296.1 0 15).toInt → (u313.1 13) j = (u296.1 13) j := ko312
                  have kg312 : ∀ j : Nat, (j : Int) < (u296.1 0 15).toInt → (u313.1 14) j = (u296.1 14) j := kg312
                  refine W.widen (k := 0) (n := 0) (Nat.le_refl _) (Nat.le_refl _) ?_
                  refine lv_iload_n hx hb dX13_sets_213 rfl (lv_at hl 6 rfl) ?_
                  refine lv_if_eq (tgt := 258) hx hb dX13_sets_214 (by decide) (fun h315 => ?_) (fun h315 => ?_)
                  · have z316 : pc1.toInt = 0 := eq_z rfl (show (0 : Int32).toInt = 0 by decide) h315
                    exact False.elim (om_09bd01a305 z176 z316)
                  · have z317 : pc1.toInt ≠ 0 := ne_z rfl (show (0 : Int32).toInt = 0 by decide) h315
                    refine lv_aload_n hx hb dX13_sets_217 rfl (lv_at hl 3 rfl) ?_
                    refine lv_bipush (v := 6) hx hb dX13_sets_218 (by decide) ?_
                    refine lv_iload hx hb dX13_sets_220 (lv_at hl 1 rfl) ?_
                    refine cu_s (mW_nd _ _ _ _ _ _) (rn_S (n := 1) (As := [.int r181]) (rest := [.int 6, .ref (ad 0)]) hx hb hml hown ht hKK hFx hP hD hS hA (c_m_slotAt l dC dI cI cB cZ cJ cR tb H.size r181 ) tw_74 tw_75 (by decide +kernel) rfl rfl ⟨show 0 + 1 ≤ 40 * n + 6 from om_19dfed8989, show 8 + (1 + 11) + 0 ≤ 28 * (40 * n + 6) from om_213884e4e8⟩ [] rfl rfl rfl hl.1 rfl (Nat.le_of_ble_eq_true rfl) dX13_sets_222 ⟨Nat.le_of_ble_eq_true rfl, Nat.le_of_ble_eq_true rfl⟩) hP hD hS hA (fun r320 H locs hw318 hP hD hS => ?_)
                    refine W.widen (k := 0) (n := 0) (Nat.le_refl _) (Nat.le_refl _) ?_
                    refine lv_bipush (v := 8) hx hb dX13_sets_225 (by decide) ?_
                    refine cu_s (mW_nd _ _ _ _ _ _) (rn_S (n := 3) (As := [.int 6, .int r320, .int 8]) (rest := [.ref (ad 0)]) hx hb hml hown ht hKK hFx hP hD hS hA (c_m_lw l dC dI cI cB cZ cJ cR tb H.size (6 : Int32) r320 (8 : Int32) ) tw_71 tw_72 (by decide +kernel) rfl rfl ⟨show 1 + 1 ≤ 40 * n + 6 from om_aa70640b3b, show 8 + (3 + 11) + 24 ≤ 28 * (40 * n + 6) from om_6539950522⟩ [] rfl rfl rfl hl.1 rfl (Nat.le_of_ble_eq_true rfl) dX13_sets_227 ⟨Nat.le_of_ble_eq_true rfl, Nat.le_of_ble_eq_true rfl⟩) hP hD hS hA (fun r323 H locs hw321 hP hD hS => ?_)
                    refine W.widen (k := 0) (n := 0) (Nat.le_refl _) (Nat.le_refl _) ?_
                    refine cu_i (rn_V (n := 1) (As := [.int r323]) (rest := []) hx hb hml hown ht hKK hFx hP hD hS hA (c_m_emit l dC dI cI cB cZ cJ cR tb H.size ad N u313 r323 (show 0 ≤ (u313.1 0 12).toInt ∧ (u313.1 0 12).toInt < 24000 from (om_b6f2eac47d zws q204 q189 q205 q190 q224 q274 q260 q275 z264 pt295 pw295 z311 pw312))) tw_8 tw_9 (by decide +kernel) rfl rfl ⟨show 0 + 1 ≤ 40 * n + 6 from om_19dfed8989, show 8 + (2 + 11) + 0 ≤ 28 * (40 * n + 6) from om_37bd887971⟩ (List.range (mW ad N cI cZ cJ u313).length) (rg_map _) (mW_nd _ _ _ _ _ _) rfl rfl rfl rfl hl.1 rfl (Nat.le_of_ble_eq_true rfl) dX13_sets_230 ⟨Nat.le_of_ble_eq_true rfl, Nat.le_of_ble_eq_true rfl⟩) hP hD hS hA (fun r326 u325 H locs hw324 hP hD hS => ?_)
                    obtain ⟨rfl, rfl⟩ := hw324
                    have z327 : ((u313.1 0 12) + (1 : Int32)).toInt = ((u313.1 0 12).toInt) + 1 := add_z rfl (show (1 : Int32).toInt = 1 by decide) (om_3de7bba961 zws q204 q205 q224 q260 z264 pw295 z311 pw312) (om_4254f8dc8b zws q204 q189 q205 q190 q224 q274 q260 q275 z264 pt295 pw295 z311 pw312)
                    have hP : va_P (dC, dI) vwCl (mW ad N cI cZ cJ (wA (wA u313 11 ((u313.1 0 12).toNatClampNeg) r323) 0 12 ((u313.1 0 12) + (1 : Int32)))) H := hP
                    have hD : va_D A (mW ad N cI cZ cJ (wA (wA u313 11 ((u313.1 0 12).toNatClampNeg) r323) 0 12 ((u313.1 0 12) + (1 : Int32)))) := hD
                    refine tp_i (y := (u313.1 0 12)) (rfl) ?_
                    refine W.widen (k := 0) (n := 0) (Nat.le_refl _) (Nat.le_refl _) ?_
                    refine lv_pop hx hb dX13_sets_233 rfl ?_
                    refine lv_aload_n hx hb dX13_sets_234 rfl (lv_at hl 3 rfl) ?_
                    refine lv_bipush (v := 10) hx hb dX13_sets_235 (by decide) ?_
                    refine lv_iconst (v := 0) hx hb dX13_sets_237 (by decide) ?_
                    refine lv_bipush (v := 6) hx hb dX13_sets_238 (by decide) ?_
                    refine cu_s (mW_nd _ _ _ _ _ _) (rn_S (n := 3) (As := [.int 10, .int 0, .int 6]) (rest := [.ref (ad 0)]) hx hb hml hown ht hKK hFx hP hD hS hA (c_m_sw l dC dI cI cB cZ cJ cR tb H.size (10 : Int32) (0 : Int32) (6 : Int32) ) tw_76 tw_77 (by decide +kernel) rfl rfl ⟨show 0 + 1 ≤ 40 * n + 6 from om_19dfed8989, show 8 + (3 + 11) + 0 ≤ 28 * (40 * n + 6) from om_bc89bc7b20⟩ [] rfl rfl rfl hl.1 rfl (Nat.le_of_ble_eq_true rfl) dX13_sets_240 ⟨Nat.le_of_ble_eq_true rfl, Nat.le_of_ble_eq_true rfl⟩) hP hD hS hA (fun r330 H locs hw328 hP hD hS => ?_)
                    refine W.widen (k := 0) (n := 0) (Nat.le_refl _) (Nat.le_refl _) ?_
                    refine cu_i (rn_V (n := 1) (As := [.int r330]) (rest := []) hx hb hml hown ht hKK hFx hP hD hS hA (c_m_emit l dC dI cI cB cZ cJ cR tb H.size ad N (wA (wA u313 11 ((u313.1 0 12).toNatClampNeg) r323) 0 12 ((u313.1 0 12) + (1 : Int32))) r330 (show 0 ≤ ((u313.1 0 12) + (1 : Int32)).toInt ∧ ((u313.1 0 12) + (1 : Int32)).toInt < 24000 from (om_f3306244c5 zws q204 q189 q205 q190 q224 q274 q260 q275 z264 pt295 pw295 z311 pw312 z327))) tw_8 tw_9 (by decide +kernel) rfl rfl ⟨show 0 + 1 ≤ 40 * n + 6 from om_19dfed8989, show 8 + (2 + 11) + 0 ≤ 28 * (40 * n + 6) from om_37bd887971⟩ (List.range (mW ad N cI cZ cJ (wA (wA u313 11 ((u313.1 0 12).toNatClampNeg) r323) 0 12 ((u313.1 0 12) + (1 : Int32)))).length) (rg_map _) (mW_nd _ _ _ _ _ _) rfl rfl rfl rfl hl.1 rfl (Nat.le_of_ble_eq_true rfl) dX13_sets_243 ⟨Nat.le_of_ble_eq_true rfl, Nat.le_of_ble_eq_true rfl⟩) hP hD hS hA (fun r333 u332 H locs hw331 hP hD hS => ?_)
                    obtain ⟨rfl, rfl⟩ := hw331
                    have z334 : (((u313.1 0 12) + (1 : Int32)) + (1 : Int32)).toInt = (((u313.1 0 12).toInt) + 1) + 1 := add_z z327 (show (1 : Int32).toInt = 1 by decide) (om_ed09ffd06b zws q204 q205 q224 q260 z264 pw295 z311 pw312) (om_07e8890137 zws q204 q189 q205 q190 q224 q274 q260 q275 z264 pt295 pw295 z311 pw312)
                    have hP : va_P (dC, dI) vwCl (mW ad N cI cZ cJ (wA (wA (wA (wA u313 11 ((u313.1 0 12).toNatClampNeg) r323) 0 12 ((u313.1 0 12) + (1 : Int32))) 11 (((u313.1 0 12) + (1 : Int32)).toNatClampNeg) r330) 0 12 (((u313.1 0 12) + (1 : Int32)) + (1 : Int32)))) H := hP
                    have hD : va_D A (mW ad N cI cZ cJ (wA (wA (wA (wA u313 11 ((u313.1 0 12).toNatClampNeg) r323) 0 12 ((u313.1 0 12) + (1 : Int32))) 11 (((u313.1 0 12) + (1 : Int32)).toNatClampNeg) r330) 0 12 (((u313.1 0 12) + (1 : Int32)) + (1 : Int32)))) := hD
                    refine tp_i (y := ((u313.1 0 12) + (1 : Int32))) (rfl) ?_
                    refine W.widen (k := 0) (n := 0) (Nat.le_refl _) (Nat.le_refl _) ?_
                    refine lv_pop hx hb dX13_sets_246 rfl ?_
                    refine lv_aload_n hx hb dX13_sets_247 rfl (lv_at hl 3 rfl) ?_
                    refine lv_bipush (v := 8) hx hb dX13_sets_248 (by decide) ?_
                    refine lv_iconst (v := 0) hx hb dX13_sets_250 (by decide) ?_
                    refine cu_i (rn_V (n := 2) (As := [.int 8, .int 0]) (rest := []) hx hb hml hown ht hKK hFx hP hD hS hA (c_m_say l dC dI cI cB cZ cJ cR tb H.size ad N (wA (wA (wA (wA u313 11 ((u313.1 0 12).toNatClampNeg) r323) 0 12 ((u313.1 0 12) + (1 : Int32))) 11 (((u313.1 0 12) + (1 : Int32)).toNatClampNeg) r330) 0 12 (((u313.1 0 12) + (1 : Int32)) + (1 : Int32))) (8 : Int32) (0 : Int32) (show 0 ≤ (u313.1 0 15).toInt ∧ (u313.1 0 15).toInt < 16000 from (om_cb7a67b165 zos q242 q189 q243 q190 q244 q274 q284 q275 pt295 po295 po312))) tw_59 tw_60 (by decide +kernel) rfl rfl ⟨show 0 + 1 ≤ 40 * n + 6 from om_19dfed8989, show 8 + (3 + 11) + 0 ≤ 28 * (40 * n + 6) from om_bc89bc7b20⟩ (List.range (mW ad N cI cZ cJ (wA (wA (wA (wA u313 11 ((u313.1 0 12).toNatClampNeg) r323) 0 12 ((u313.1 0 12) + (1 : Int32))) 11 (((u313.1 0 12) + (1 : Int32)).toNatClampNeg) r330) 0 12 (((u313.1 0 12) + (1 : Int32)) + (1 : Int32)))).length) (rg_map _) (mW_nd _ _ _ _ _ _) rfl rfl rfl rfl hl.1 rfl (Nat.le_of_ble_eq_true rfl) dX13_sets_251 ⟨Nat.le_of_ble_eq_true rfl, Nat.le_of_ble_eq_true rfl⟩) hP hD hS hA (fun r337 u336 H locs hw335 hP hD hS => ?_)
                    obtain ⟨rfl, rfl⟩ := hw335
                    have z338 : ((u313.1 0 15) + (1 : Int32)).toInt = ((u313.1 0 15).toInt) + 1 := add_z rfl (show (1 : Int32).toInt = 1 by decide) (om_6330fd09cc zos q242 q243 q244 q284 po295 po312) (om_e025864402 zos q242 q189 q243 q190 q244 q274 q284 q275 pt295 po295 po312)
                    have hP : va_P (dC, dI) vwCl (mW ad N cI cZ cJ (wA (wA (wA (wA (wA (wA (wA u313 11 ((u313.1 0 12).toNatClampNeg) r323) 0 12 ((u313.1 0 12) + (1 : Int32))) 11 (((u313.1 0 12) + (1 : Int32)).toNatClampNeg) r330) 0 12 (((u313.1 0 12) + (1 : Int32)) + (1 : Int32))) 13 ((u313.1 0 15).toNatClampNeg) (8 : Int32)) 14 ((u313.1 0 15).toNatClampNeg) (0 : Int32)) 0 15 ((u313.1 0 15) + (1 : Int32)))) H := hP
                    have hD : va_D A (mW ad N cI cZ cJ (wA (wA (wA (wA (wA (wA (wA u313 11 ((u313.1 0 12).toNatClampNeg) r323) 0 12 ((u313.1 0 12) + (1 : Int32))) 11 (((u313.1 0 12) + (1 : Int32)).toNatClampNeg) r330) 0 12 (((u313.1 0 12) + (1 : Int32)) + (1 : Int32))) 13 ((u313.1 0 15).toNatClampNeg) (8 : Int32)) 14 ((u313.1 0 15).toNatClampNeg) (0 : Int32)) 0 15 ((u313.1 0 15) + (1 : Int32)))) := hD
                    refine tp_i (y := (u313.1 0 15)) (rfl) ?_
                    refine W.widen (k := 0) (n := 0) (Nat.le_refl _) (Nat.le_refl _) ?_
                    obtain ⟨u339, hu340⟩ : ∃ z, z = (wA (wA (wA (wA (wA (wA (wA u313 11 ((u313.1 0 12).toNatClampNeg) r323) 0 12 ((u313.1 0 12) + (1 : Int32))) 11 (((u313.1 0 12) + (1 : Int32)).toNatClampNeg) r330) 0 12 (((u313.1 0 12) + (1 : Int32)) + (1 : Int32))) 13 ((u313.1 0 15).toNatClampNeg) (8 : Int32)) 14 ((u313.1 0 15).toNatClampNeg) (0 : Int32)) 0 15 ((u313.1 0 15) + (1 : Int32))) := ⟨_, rfl⟩
                    have fr340 : FG [12, 15] [0, 11, 13, 14] u313 u339 := by rw [hu340]; exact (FG.f (FG.a (FG.a (FG.f (FG.a (FG.f (FG.a (FG.rf _) ((u313.1 0 12).toNatClampNeg) r323 (by decide) (by decide)) ((u313.1 0 12) + (1 : Int32)) (by decide)) (((u313.1 0 12) + (1 : Int32)).toNatClampNeg) r330 (by decide) (by decide)) (((u313.1 0 12) + (1 : Int32)) + (1 : Int32)) (by decide)) ((u313.1 0 15).toNatClampNeg) (8 : Int32) (by decide) (by decide)) ((u313.1 0 15).toNatClampNeg) (0 : Int32) (by decide) (by decide)) ((u313.1 0 15) + (1 : Int32)) (by decide))
                    have kc340 : ∀ j : Nat, (j : Int) < (v.1 0 12).toInt → (u339.1 11) j = (v.1 11) j := by rw [hu340]; exact (fun (j9 : Nat) hj9 => (Eq.trans (pk_un3 (a := ((u313.1 0 12) + (1 : Int32)).toInt) rfl (om_9fb68188e9 zws q204 q205 q224 q260 z264 pw295 z311 pw312 z327) (om_85ae993d24 q204 q205 q224 q260 z264 pw295 z311 pw312 z327 hj9)) (Eq.trans (pk_un3 (a := (u313.1 0 12).toInt) rfl (om_4cdd29136f zws q204 q205 q224 q260 z264 pw295 z311 pw312) (om_80c8c87a4a q204 q205 q224 q260 z264 pw295 z311 pw312 hj9)) (Eq.trans (kc312 j9 (om_169de0e561 q204 q205 q224 q260 z264 pw295 z311 hj9)) (Eq.trans (pk_un3 (a := (u296.1 0 12).toInt) rfl (om_3c70fa9427 zws q204 q205 q224 q260 z264 pw295) (om_d245c60d5b q204 q205 q224 q260 z264 pw295 hj9)) (Eq.trans (kc295 j9 (om_47de812a56 q204 q205 q224 q260 z264 hj9)) (Eq.trans (pk_un3 (a := (u249.1 0 12).toInt) rfl (om_537b4d4977 zws q204 q205 q224 q260) (om_d6c45f30cb q204 q205 q224 q260 hj9)) (kc250 j9 hj9))))))))
                    have ko340 : ∀ j : Nat, (j : Int) < (v.1 0 15).toInt → (u339.1 13) j = (v.1 13) j := by rw [hu340]; exact (fun (j9 : Nat) hj9 => (Eq.trans (pk_un3 (a := (u313.1 0 15).toInt) rfl (om_792eb33b5b zos q242 q243 q244 q284 po295 po312) (om_001e895624 q242 q243 q244 q284 po295 po312 hj9)) (Eq.trans (ko312 j9 (om_361a029ac7 q242 q243 q244 q284 po295 hj9)) (Eq.trans (ko295 j9 (om_306f373bbf q242 q243 q244 q284 hj9)) (ko250 j9 hj9)))))
                    have kg340 : ∀ j : Nat, (j : Int) < (v.1 0 15).toInt → (u339.1 14) j = (v.1 14) j := by rw [hu340]; exact (fun (j9 : Nat) hj9 => (Eq.trans (pk_un3 (a := (u313.1 0 15).toInt) rfl (om_792eb33b5b zos q242 q243 q244 q284 po295 po312) (om_001e895624 q242 q243 q244 q284 po295 po312 hj9)) (Eq.trans (kg312 j9 (om_361a029ac7 q242 q243 q244 q284 po295 hj9)) (Eq.trans (kg295 j9 (om_306f373bbf q242 q243 q244 q284 hj9)) (kg250 j9 hj9)))))
                    rw [← hu340] at hP hD
                    refine lv_pop hx hb dX13_sets_254 rfl ?_
                    refine lv_goto (tgt := 264) hx hb dX13_sets_255 (by decide) ?_
                    refine lv_aload_n hx hb dX13_sets_264 rfl (lv_at hl 3 rfl) ?_
                    refine lv_dup hx hb dX13_sets_265 rfl ?_
                    refine va_get (D := (dC, dI)) (ci := 16) (fs := mF ad u339) (v := .int (u339.1 0 48)) (C := RX13) (T := TX13) (N := 124) hx hb ht itX13 hown hK hP 0 rfl rfl 48 (by decide) (ht _ tw_31) (fun _ h9 => h9) rfl dX13_sets_266 ?_
                    refine lv_iconst (v := 1) hx hb dX13_sets_269 (by decide) ?_
                    refine lv_isub hx hb dX13_sets_270 ?_
                    have q341 : (u313.1 0 48).toInt = (u296.1 0 48).toInt := congrArg Int32.toInt ((fr312.2.1 48 (by decide)).trans (show (wA (wA (wA u296 0 32 ((u296.1 0 32) - (2 : Int32))) 11 ((u296.1 0 12).toNatClampNeg) r307) 0 12 ((u296.1 0 12) + (1 : Int32))).1 0 48 = (u296.1 0 48) by rfl))
                    have q342 : (u339.1 0 48).toInt = (u313.1 0 48).toInt := congrArg Int32.toInt (fr340.2.1 48 (by decide))
                    have z343 : ((u339.1 0 48) - (1 : Int32)).toInt = ((u339.1 0 48).toInt) - 1 := sub_z rfl (show (1 : Int32).toInt = 1 by decide) (om_11fd618bcd zop q191 q192 q272 q273 pp295 q341 q342) (om_36cb9c06ee b193 q272 q273 pp295 q341 q342)
                    refine va_put (D := (dC, dI)) (ci := 16) (fs := mF ad u339) (v := .int ((u339.1 0 48) - (1 : Int32))) (ty := .int) (C := RX13) (T := TX13) (N := 124) hx hb ht itX13 tyX13 tyX13_ok nmX13 hown hK hP hD hS 0 rfl rfl 48 (by decide) (ht _ tw_31) (fun _ h9 => h9) rfl (by decide +kernel) rfl rfl (Nat.le_of_ble_eq_true rfl) dX13_sets_271 (fun H locs hP hD hS => ?_)
                    have hP := cP_ (mw_48 ad N cI cZ cJ u339 ((u339.1 0 48) - (1 : Int32))) hP
                    have hD := cD_ (mw_48 ad N cI cZ cJ u339 ((u339.1 0 48) - (1 : Int32))) hD
                    have q344 : (u313.1 0 47).toInt = (u296.1 0 47).toInt := congrArg Int32.toInt ((fr312.2.1 47 (by decide)).trans (show (wA (wA (wA u296 0 32 ((u296.1 0 32) - (2 : Int32))) 11 ((u296.1 0 12).toNatClampNeg) r307) 0 12 ((u296.1 0 12) + (1 : Int32))).1 0 47 = (u296.1 0 47) by rfl))
                    have q345 : (u339.1 0 47).toInt = (u313.1 0 47).toInt := congrArg Int32.toInt (fr340.2.1 47 (by decide))
                    have q346 : (u339.1 0 12).toInt = ((((u313.1 0 12).toInt) + 1) + 1) := by rw [hu340]; exact (show (((u313.1 0 12) + (1 : Int32)) + (1 : Int32)).toInt = ((((u313.1 0 12).toInt) + 1) + 1) from z334)
                    have q347 : (u339.1 0 15).toInt = (((u313.1 0 15).toInt) + 1) := by rw [hu340]; exact (show ((u313.1 0 15) + (1 : Int32)).toInt = (((u313.1 0 15).toInt) + 1) from z338)
                    have q348 : (u339.1 0 43).toInt = (u313.1 0 43).toInt := congrArg Int32.toInt (fr340.2.1 43 (by decide))
                    have q349 : (u313.1 0 39).toInt = (u296.1 0 39).toInt := congrArg Int32.toInt ((fr312.2.1 39 (by decide)).trans (show (wA (wA (wA u296 0 32 ((u296.1 0 32) - (2 : Int32))) 11 ((u296.1 0 12).toNatClampNeg) r307) 0 12 ((u296.1 0 12) + (1 : Int32))).1 0 39 = (u296.1 0 39) by rfl))
                    have q350 : (u339.1 0 39).toInt = (u313.1 0 39).toInt := congrArg Int32.toInt (fr340.2.1 39 (by decide))
                    have q351 : (u313.1 0 32).toInt = ((u296.1 0 32) - (2 : Int32)).toInt := congrArg Int32.toInt ((fr312.2.1 32 (by decide)).trans (show (wA (wA (wA u296 0 32 ((u296.1 0 32) - (2 : Int32))) 11 ((u296.1 0 12).toNatClampNeg) r307) 0 12 ((u296.1 0 12) + (1 : Int32))).1 0 32 = ((u296.1 0 32) - (2 : Int32)) by rfl))
                    have q352 : (u339.1 0 32).toInt = (u313.1 0 32).toInt := congrArg Int32.toInt (fr340.2.1 32 (by decide))
                    have q353 : (u313.1 0 33).toInt = (u296.1 0 33).toInt := congrArg Int32.toInt ((fr312.2.1 33 (by decide)).trans (show (wA (wA (wA u296 0 32 ((u296.1 0 32) - (2 : Int32))) 11 ((u296.1 0 12).toNatClampNeg) r307) 0 12 ((u296.1 0 12) + (1 : Int32))).1 0 33 = (u296.1 0 33) by rfl))
                    have q354 : (u339.1 0 33).toInt = (u313.1 0 33).toInt := congrArg Int32.toInt (fr340.2.1 33 (by decide))
                    refine vx_ret ?_
                    exact W.vret hx hb hr (fun t ht9 hW => ⟨⟨(wA u339 0 48 ((u339.1 0 48) - (1 : Int32))), rfl, ⟨(FG.f (FG.tr (FG.tr (FG.f (FG.a (FG.f (FG.tr (FG.f (FG.f (FG.a (FG.tr (FG.tr (FG.tr (FG.tr (FG.rf _) (FG.up fr179 (by decide) (by decide))) (FG.up fr186 (by decide) (by decide))) (FG.up fr217 (by decide) (by decide))) (FG.up fr250 (by decide) (by decide))) ((u249.1 0 12).toNatClampNeg) r259 (by decide) (by decide)) ((u249.1 0 12) + (1 : Int32)) (by decide)) ((u249.1 0 32) + (2 : Int32)) (by decide)) (FG.up fr295 (by decide) (by decide))) ((u296.1 0 32) - (2 : Int32)) (by decide)) ((u296.1 0 12).toNatClampNeg) r307 (by decide) (by decide)) ((u296.1 0 12) + (1 : Int32)) (by decide)) (FG.up fr312 (by decide) (by decide))) (FG.up fr340 (by decide) (by decide))) ((u339.1 0 48) - (1 : Int32)) (by decide)), (show (v.1 0 47).toInt + 1 ≤ (u339.1 0 47).toInt ∧ (u339.1 0 47).toInt ≤ 1500 from (om_74d9d85a04 q189 q190 q274 q275 pt295 q344 q345)), (show (v.1 0 49).toInt ≠ (v.1 0 47).toInt from (om_49d18ca4ce q189 sb179 q190 q283 c193)), (show (v.1 0 12).toInt ≤ (u339.1 0 12).toInt ∧ (u339.1 0 12).toInt - 15 * (u339.1 0 47).toInt ≤ (v.1 0 12).toInt - 15 * (v.1 0 47).toInt from (om_744bd65ea7 q204 q189 q205 q190 q224 q274 q260 q275 z264 pw295 z311 q344 pw312 q346 q345)), (show (v.1 0 15).toInt ≤ (u339.1 0 15).toInt ∧ (u339.1 0 15).toInt - 10 * (u339.1 0 47).toInt ≤ (v.1 0 15).toInt - 10 * (v.1 0 47).toInt from (om_28a6c0901e q242 q189 q243 q190 q244 q274 q284 q275 po295 q344 po312 q347 q345)), (show (v.1 0 43).toInt ≤ (u339.1 0 43).toInt ∧ (u339.1 0 43).toInt - 15 * (u339.1 0 47).toInt ≤ (v.1 0 43).toInt - 15 * (v.1 0 47).toInt from (om_1682117186 q210 q189 q211 q190 q285 q274 q286 q275 pf295 q344 pf312 q348 q345)), (show (v.1 0 39).toInt ≤ (u339.1 0 39).toInt ∧ (u339.1 0 39).toInt - 1 * (u339.1 0 47).toInt ≤ (v.1 0 39).toInt - 1 * (v.1 0 47).toInt from (om_42b0c5ce3c q287 q189 q288 q190 q289 q274 q290 q275 pk295 q349 q344 q350 q345)), (show (u339.1 0 32).toInt = (v.1 0 32).toInt ∧ ((u339.1 0 48) - (1 : Int32)).toInt = (v.1 0 48).toInt from (om_1db41ba0d3 q265 q191 q266 q192 q267 q272 q268 q273 z269 pp295 z298 q351 q341 q352 q342 z343)), (show (v.1 0 33).toInt ≤ (u339.1 0 33).toInt ∧ (u339.1 0 33).toInt ≤ 500 from (om_39137765dd sh179 q280 q281 q282 ph295 q353 q354)), (fun (j9 : Nat) hj9 => (kc340 j9 hj9)), (fun (j9 : Nat) hj9 => (ko340 j9 hj9)), (fun (j9 : Nat) hj9 => (kg340 j9 hj9)), (show NI 35 u339 from NI.fr (fl := [12, 15]) (al := [0, 11, 13, 14]) fr340 (by decide) (show NI 35 u313 from NI.fr (fl := [12, 15, 43]) (al := [0, 11, 13, 14, 40, 41, 42]) fr312 (by decide) n35295))⟩, by rw [ht9]; exact hP, hD⟩, hS.F ht9⟩) hS.2.2 dX13_sets_274
    · have z355 : pd.toInt = 0 := eq_z rfl (show (0 : Int32).toInt = 0 by decide) h177
      refine lv_iconst (v := 0) hx hb dX13_sets_14 (by decide) ?_
      refine lv_goto (tgt := 19) hx hb dX13_sets_15 (by decide) ?_
      refine lv_iadd hx hb dX13_sets_19 ?_
      refine tp_i (y := 1) (by decide) ?_
      refine lv_istore (lv' := [(5, .int 1), (0, .ref (ad 0)), (1, .int pa), (2, .int pb), (3, .int pc1), (4, .int pd)]) hx hb dX13_sets_20 hl (by decide) rfl (fun ls hl => ?_)
      refine lv_aload_n hx hb dX13_sets_22 rfl (lv_at hl 1 rfl) ?_
      refine lv_iload hx hb dX13_sets_23 (lv_at hl 0 rfl) ?_
      refine cu_i (rn_V (n := 1) (As := [.int 1]) (rest := []) hx hb hml hown ht hKK hFx hP hD hS hA (c_m_slots l dC dI cI cB cZ cJ cR tb s.heap.size ad N v (1 : Int32) (show 0 ≤ (v.1 0 30).toInt ∧ (v.1 0 30).toInt ≤ 500 from (om_9861e69da5 zkn)) (show 0 ≤ (v.1 0 32).toInt ∧ (v.1 0 32).toInt ≤ 2000 from (om_ce871d329a zkn zs)) (show 0 ≤ (v.1 0 33).toInt ∧ (v.1 0 33).toInt ≤ 500 from (om_9861e69da5 zhi)) (show 0 ≤ 1 ∧ 1 ≤ 8 from om_9f427a292a)) tw_88 tw_89 (by decide +kernel) rfl rfl ⟨show 0 + 1 ≤ 40 * n + 6 from om_19dfed8989, show 8 + (3 + 11) + 0 ≤ 28 * (40 * n + 6) from om_bc89bc7b20⟩ (List.range (mW ad N cI cZ cJ v).length) (rg_map _) (mW_nd _ _ _ _ _ _) rfl rfl rfl rfl hl.1 rfl (Nat.le_of_ble_eq_true rfl) dX13_sets_25 ⟨Nat.le_of_ble_eq_true rfl, Nat.le_of_ble_eq_true rfl⟩) hP hD hS hA (fun r358 u357 H locs hw356 hP hD hS => ?_)
      obtain ⟨fr356, sr356, sb356, sh356⟩ := hw356
      have sb356 : ((v.1 0 30).toInt + (v.1 0 32).toInt + 1 ≤ (u357.1 0 33).toInt ∧ (u357.1 0 49).toInt = (v.1 0 49).toInt) ∨ (u357.1 0 49).toInt = (v.1 0 47).toInt := sb356
      refine W.widen (k := 0) (n := 0) (Nat.le_refl _) (Nat.le_refl _) ?_
      refine lv_istore (lv' := [(6, .int r358), (5, .int 1), (0, .ref (ad 0)), (1, .int pa), (2, .int pb), (3, .int pc1), (4, .int pd)]) hx hb dX13_sets_28 hl (by decide) rfl (fun ls hl => ?_)
      refine lv_iload hx hb dX13_sets_30 (lv_at hl 0 rfl) ?_
      refine lv_iload_n hx hb dX13_sets_32 rfl (lv_at hl 5 rfl) ?_
      refine lv_if_eq (tgt := 40) hx hb dX13_sets_33 (by decide) (fun h359 => ?_) (fun h359 => ?_)
      · have z360 : pc1.toInt = 0 := eq_z rfl (show (0 : Int32).toInt = 0 by decide) h359
        exact False.elim (om_09bd01a305 z176 z360)
      · have z361 : pc1.toInt ≠ 0 := ne_z rfl (show (0 : Int32).toInt = 0 by decide) h359
        refine lv_iconst (v := 1) hx hb dX13_sets_36 (by decide) ?_
        refine lv_goto (tgt := 41) hx hb dX13_sets_37 (by decide) ?_
        refine lv_iadd hx hb dX13_sets_41 ?_
        have z362 : (r358 + (1 : Int32)).toInt = r358.toInt + 1 := add_z rfl (show (1 : Int32).toInt = 1 by decide) (om_b8e454be0b zkn zs sr356) (om_8e5bf4a8b8 zs sr356)
        refine lv_istore (lv' := [(7, .int (r358 + (1 : Int32))), (6, .int r358), (5, .int 1), (0, .ref (ad 0)), (1, .int pa), (2, .int pb), (3, .int pc1), (4, .int pd)]) hx hb dX13_sets_42 hl (by decide) rfl (fun ls hl => ?_)
        refine lv_aload_n hx hb dX13_sets_44 rfl (lv_at hl 3 rfl) ?_
        refine lv_iload hx hb dX13_sets_45 (lv_at hl 7 rfl) ?_
        refine cu_v (rn_V (n := 1) (As := [.int pd]) (rest := []) hx hb hml hown ht hKK hFx hP hD hS hA (c_m_remember l dC dI cI cB cZ cJ cR tb H.size ad N u357 pd ) tw_90 tw_91 (by decide +kernel) rfl rfl ⟨show 0 + 1 ≤ 40 * n + 6 from om_19dfed8989, show 8 + (2 + 11) + 0 ≤ 28 * (40 * n + 6) from om_37bd887971⟩ (List.range (mW ad N cI cZ cJ u357).length) (rg_map _) (mW_nd _ _ _ _ _ _) rfl rfl rfl rfl hl.1 rfl (Nat.le_of_ble_eq_true rfl) dX13_sets_47 ⟨Nat.le_of_ble_eq_true rfl, Nat.le_of_ble_eq_true rfl⟩) hP hD hS hA (fun u364 H locs hw363 hP hD hS => ?_)
        have fr363 := hw363
        refine W.widen (k := 0) (n := 0) (Nat.le_refl _) (Nat.le_refl _) ?_
        refine lv_aload_n hx hb dX13_sets_50 rfl (lv_at hl 3 rfl) ?_
        have q366 : (u357.1 0 47).toInt = (v.1 0 47).toInt := congrArg Int32.toInt ((fr356.2.1 47 (by decide)).trans (show v.1 0 47 = (v.1 0 47) by rfl))
        have q367 : (u364.1 0 47).toInt = (u357.1 0 47).toInt := congrArg Int32.toInt ((fr363.2.1 47 (by decide)).trans (show u357.1 0 47 = (u357.1 0 47) by rfl))
        have q368 : (u357.1 0 48).toInt = (v.1 0 48).toInt := congrArg Int32.toInt ((fr356.2.1 48 (by decide)).trans (show v.1 0 48 = (v.1 0 48) by rfl))
        have q369 : (u364.1 0 48).toInt = (u357.1 0 48).toInt := congrArg Int32.toInt ((fr363.2.1 48 (by decide)).trans (show u357.1 0 48 = (u357.1 0 48) by rfl))
        refine cux_v (rx_V (n := 0) (As := []) (rest := []) hx hb hml hown ht hKK hFx hP hD hS hA (c_m_opens l dC dI cI cB cZ cJ cR tb H.size ad N u364  (show 0 ≤ (u364.1 0 47).toInt ∧ (u364.1 0 47).toInt ≤ 1500 from (om_5fecd403fd zt zfs q366 q367)) (show 0 ≤ (u364.1 0 48).toInt ∧ (u364.1 0 48).toInt ≤ 40 from (om_68f540929a zop q368 q369))) tw_38 tw_39 (by decide +kernel) rfl rfl ⟨show 2 + 1 ≤ 40 * n + 6 from om_0978fa5f20, show 8 + (1 + 11) + 42 ≤ 28 * (40 * n + 6) from om_294f7df5f2⟩ (List.range (mW ad N cI cZ cJ u364).length) (rg_map _) (mW_nd _ _ _ _ _ _) rfl rfl rfl rfl hl.1 rfl (Nat.le_of_ble_eq_true rfl) dX13_sets_51 ⟨Nat.le_of_ble_eq_true rfl, Nat.le_of_ble_eq_true rfl⟩) hP hD hS hA (fun u9 ce9 q9 H locs hx9 hP hD hS hc9 hv9 hf9 => ?_) (fun u371 H locs hw370 hP hD hS => ?_)
        · exact vx_out (fun x h9 => (hnt x h9).elim) hlocks hc9 hv9 hf9 (fun t9 ht9 hv8 => ⟨u9, (FG.tr (FG.tr (FG.tr (FG.rf _) (FG.up fr356 (by decide) (by decide))) (FG.up fr363 (by decide) (by decide))) hx9), ⟨rfl, by rw [ht9]; exact hP, hD⟩, hS.F ht9⟩) hS.2.2 (Nat.le_refl _) (Nat.le_refl _)
        obtain ⟨rfl, a370, b370, c370⟩ := hw370
        have z373 : ((u364.1 0 47) + (1 : Int32)).toInt = ((u364.1 0 47).toInt) + 1 := add_z rfl (show (1 : Int32).toInt = 1 by decide) (om_29681806c1 q366 q367) (om_d17f6a6aca zt q366 q367)
        have z374 : ((u364.1 0 48) + (1 : Int32)).toInt = ((u364.1 0 48).toInt) + 1 := add_z rfl (show (1 : Int32).toInt = 1 by decide) (om_fbac2a78d1 zop q368 q369) (om_241463b4b2 zop q368 q369)
        have hP : va_P (dC, dI) vwCl (mW ad N cI cZ cJ (wA (wA u364 0 47 ((u364.1 0 47) + (1 : Int32))) 0 48 ((u364.1 0 48) + (1 : Int32)))) H := hP
        have hD : va_D A (mW ad N cI cZ cJ (wA (wA u364 0 47 ((u364.1 0 47) + (1 : Int32))) 0 48 ((u364.1 0 48) + (1 : Int32)))) := hD
        have a370 : (u364.1 0 47).toInt < 1500 := a370
        have b370 : (u364.1 0 48).toInt < 40 := b370
        have c370 : (u364.1 0 49).toInt ≠ (u364.1 0 47).toInt := c370
        refine W.widen (k := 0) (n := 0) (Nat.le_refl _) (Nat.le_refl _) ?_
        refine lv_iload_n hx hb dX13_sets_54 rfl (lv_at hl 6 rfl) ?_
        refine lv_if_eq (tgt := 127) hx hb dX13_sets_55 (by decide) (fun h375 => ?_) (fun h375 => ?_)
        · have z376 : pc1.toInt = 0 := eq_z rfl (show (0 : Int32).toInt = 0 by decide) h375
          exact False.elim (om_09bd01a305 z176 z376)
        · have z377 : pc1.toInt ≠ 0 := ne_z rfl (show (0 : Int32).toInt = 0 by decide) h375
          refine lv_aload_n hx hb dX13_sets_58 rfl (lv_at hl 3 rfl) ?_
          refine lv_aload_n hx hb dX13_sets_59 rfl (lv_at hl 3 rfl) ?_
          refine lv_bipush (v := 10) hx hb dX13_sets_60 (by decide) ?_
          refine lv_bipush (v := 10) hx hb dX13_sets_62 (by decide) ?_
          refine lv_iconst (v := 0) hx hb dX13_sets_64 (by decide) ?_
          refine cu_s (mW_nd _ _ _ _ _ _) (rn_S (n := 3) (As := [.int 10, .int 10, .int 0]) (rest := [.ref (ad 0), .ref (ad 0)]) hx hb hml hown ht hKK hFx hP hD hS hA (c_m_addi l dC dI cI cB cZ cJ cR tb H.size (10 : Int32) (10 : Int32) (0 : Int32) ) tw_65 tw_66 (by decide +kernel) rfl rfl ⟨show 1 + 1 ≤ 40 * n + 6 from om_aa70640b3b, show 8 + (3 + 11) + 24 ≤ 28 * (40 * n + 6) from om_6539950522⟩ [] rfl rfl rfl hl.1 rfl (Nat.le_of_ble_eq_true rfl) dX13_sets_65 ⟨Nat.le_of_ble_eq_true rfl, Nat.le_of_ble_eq_true rfl⟩) hP hD hS hA (fun r380 H locs hw378 hP hD hS => ?_)
          refine W.widen (k := 0) (n := 0) (Nat.le_refl _) (Nat.le_refl _) ?_
          have q381 : (u357.1 0 12).toInt = (v.1 0 12).toInt := congrArg Int32.toInt ((fr356.2.1 12 (by decide)).trans (show v.1 0 12 = (v.1 0 12) by rfl))
          have q382 : (u364.1 0 12).toInt = (u357.1 0 12).toInt := congrArg Int32.toInt ((fr363.2.1 12 (by decide)).trans (show u357.1 0 12 = (u357.1 0 12) by rfl))
          refine cu_i (rn_V (n := 1) (As := [.int r380]) (rest := [.ref (ad 0)]) hx hb hml hown ht hKK hFx hP hD hS hA (c_m_emit l dC dI cI cB cZ cJ cR tb H.size ad N (wA (wA u364 0 47 ((u364.1 0 47) + (1 : Int32))) 0 48 ((u364.1 0 48) + (1 : Int32))) r380 (show 0 ≤ (u364.1 0 12).toInt ∧ (u364.1 0 12).toInt < 24000 from (om_b8c65df586 zt zws q381 q382))) tw_8 tw_9 (by decide +kernel) rfl rfl ⟨show 0 + 1 ≤ 40 * n + 6 from om_19dfed8989, show 8 + (2 + 11) + 0 ≤ 28 * (40 * n + 6) from om_37bd887971⟩ (List.range (mW ad N cI cZ cJ (wA (wA u364 0 47 ((u364.1 0 47) + (1 : Int32))) 0 48 ((u364.1 0 48) + (1 : Int32)))).length) (rg_map _) (mW_nd _ _ _ _ _ _) rfl rfl rfl rfl hl.1 rfl (Nat.le_of_ble_eq_true rfl) dX13_sets_68 ⟨Nat.le_of_ble_eq_true rfl, Nat.le_of_ble_eq_true rfl⟩) hP hD hS hA (fun r385 u384 H locs hw383 hP hD hS => ?_)
          obtain ⟨rfl, rfl⟩ := hw383
          have z386 : ((u364.1 0 12) + (1 : Int32)).toInt = ((u364.1 0 12).toInt) + 1 := add_z rfl (show (1 : Int32).toInt = 1 by decide) (om_53475c3cd5 zws q381 q382) (om_37dc27837e zt zws q381 q382)
          have hP : va_P (dC, dI) vwCl (mW ad N cI cZ cJ (wA (wA (wA (wA u364 0 47 ((u364.1 0 47) + (1 : Int32))) 0 48 ((u364.1 0 48) + (1 : Int32))) 11 ((u364.1 0 12).toNatClampNeg) r380) 0 12 ((u364.1 0 12) + (1 : Int32)))) H := hP
          have hD : va_D A (mW ad N cI cZ cJ (wA (wA (wA (wA u364 0 47 ((u364.1 0 47) + (1 : Int32))) 0 48 ((u364.1 0 48) + (1 : Int32))) 11 ((u364.1 0 12).toNatClampNeg) r380) 0 12 ((u364.1 0 12) + (1 : Int32)))) := hD
          refine tp_i (y := (u364.1 0 12)) (rfl) ?_
          refine W.widen (k := 0) (n := 0) (Nat.le_refl _) (Nat.le_refl _) ?_
          refine lv_iload_n hx hb dX13_sets_71 rfl (lv_at hl 5 rfl) ?_
          refine lv_iconst (v := 3) hx hb dX13_sets_72 (by decide) ?_
          have q387 : (u357.1 0 43).toInt = (v.1 0 43).toInt := congrArg Int32.toInt ((fr356.2.1 43 (by decide)).trans (show v.1 0 43 = (v.1 0 43) by rfl))
          have q388 : (u364.1 0 43).toInt = (u357.1 0 43).toInt := congrArg Int32.toInt ((fr363.2.1 43 (by decide)).trans (show u357.1 0 43 = (u357.1 0 43) by rfl))
          refine cu_v (rn_V (n := 3) (As := [.int (u364.1 0 12), .int pb, .int 3]) (rest := []) hx hb hml hown ht hKK hFx hP hD hS hA (c_m_fix l dC dI cI cB cZ cJ cR tb H.size ad N (wA (wA (wA (wA u364 0 47 ((u364.1 0 47) + (1 : Int32))) 0 48 ((u364.1 0 48) + (1 : Int32))) 11 ((u364.1 0 12).toNatClampNeg) r380) 0 12 ((u364.1 0 12) + (1 : Int32))) (u364.1 0 12) pb (3 : Int32) (show 0 ≤ (u364.1 0 43).toInt ∧ (u364.1 0 43).toInt < 24000 from (om_8eb384b5c0 zt zfs q387 q388))) tw_69 tw_70 (by decide +kernel) rfl rfl ⟨show 0 + 1 ≤ 40 * n + 6 from om_19dfed8989, show 8 + (4 + 11) + 0 ≤ 28 * (40 * n + 6) from om_651bdf9b58⟩ (List.range (mW ad N cI cZ cJ (wA (wA (wA (wA u364 0 47 ((u364.1 0 47) + (1 : Int32))) 0 48 ((u364.1 0 48) + (1 : Int32))) 11 ((u364.1 0 12).toNatClampNeg) r380) 0 12 ((u364.1 0 12) + (1 : Int32)))).length) (rg_map _) (mW_nd _ _ _ _ _ _) rfl rfl rfl rfl hl.1 rfl (Nat.le_of_ble_eq_true rfl) dX13_sets_73 ⟨Nat.le_of_ble_eq_true rfl, Nat.le_of_ble_eq_true rfl⟩) hP hD hS hA (fun u390 H locs hw389 hP hD hS => ?_)
          obtain rfl := hw389
          have z392 : ((u364.1 0 43) + (1 : Int32)).toInt = ((u364.1 0 43).toInt) + 1 := add_z rfl (show (1 : Int32).toInt = 1 by decide) (om_5feb126984 zfs q387 q388) (om_2700bf36d0 zt zfs q387 q388)
          have hP : va_P (dC, dI) vwCl (mW ad N cI cZ cJ (wA (wA (wA (wA (wA (wA (wA (wA u364 0 47 ((u364.1 0 47) + (1 : Int32))) 0 48 ((u364.1 0 48) + (1 : Int32))) 11 ((u364.1 0 12).toNatClampNeg) r380) 0 12 ((u364.1 0 12) + (1 : Int32))) 40 ((u364.1 0 43).toNatClampNeg) (u364.1 0 12)) 41 ((u364.1 0 43).toNatClampNeg) pb) 42 ((u364.1 0 43).toNatClampNeg) (3 : Int32)) 0 43 ((u364.1 0 43) + (1 : Int32)))) H := hP
          have hD : va_D A (mW ad N cI cZ cJ (wA (wA (wA (wA (wA (wA (wA (wA u364 0 47 ((u364.1 0 47) + (1 : Int32))) 0 48 ((u364.1 0 48) + (1 : Int32))) 11 ((u364.1 0 12).toNatClampNeg) r380) 0 12 ((u364.1 0 12) + (1 : Int32))) 40 ((u364.1 0 43).toNatClampNeg) (u364.1 0 12)) 41 ((u364.1 0 43).toNatClampNeg) pb) 42 ((u364.1 0 43).toNatClampNeg) (3 : Int32)) 0 43 ((u364.1 0 43) + (1 : Int32)))) := hD
          refine W.widen (k := 0) (n := 0) (Nat.le_refl _) (Nat.le_refl _) ?_
          obtain ⟨u393, hu394⟩ : ∃ z, z = (wA (wA (wA (wA (wA (wA (wA (wA u364 0 47 ((u364.1 0 47) + (1 : Int32))) 0 48 ((u364.1 0 48) + (1 : Int32))) 11 ((u364.1 0 12).toNatClampNeg) r380) 0 12 ((u364.1 0 12) + (1 : Int32))) 40 ((u364.1 0 43).toNatClampNeg) (u364.1 0 12)) 41 ((u364.1 0 43).toNatClampNeg) pb) 42 ((u364.1 0 43).toNatClampNeg) (3 : Int32)) 0 43 ((u364.1 0 43) + (1 : Int32))) := ⟨_, rfl⟩
          have fr394 : FG [12, 43, 47, 48] [0, 11, 40, 41, 42] u364 u393 := by rw [hu394]; exact (FG.f (FG.a (FG.a (FG.a (FG.f (FG.a (FG.f (FG.f (FG.rf _) ((u364.1 0 47) + (1 : Int32)) (by decide)) ((u364.1 0 48) + (1 : Int32)) (by decide)) ((u364.1 0 12).toNatClampNeg) r380 (by decide) (by decide)) ((u364.1 0 12) + (1 : Int32)) (by decide)) ((u364.1 0 43).toNatClampNeg) (u364.1 0 12) (by decide) (by decide)) ((u364.1 0 43).toNatClampNeg) pb (by decide) (by decide)) ((u364.1 0 43).toNatClampNeg) (3 : Int32) (by decide) (by decide)) ((u364.1 0 43) + (1 : Int32)) (by decide))
          have kc394 : ∀ j : Nat, (j : Int) < (v.1 0 12).toInt → (u393.1 11) j = (v.1 11) j := by rw [hu394]; exact (fun (j9 : Nat) hj9 => (Eq.trans (pk_un3 (a := (u364.1 0 12).toInt) rfl (om_e597dbbf39 zws q381 q382) (om_2a5d4a8f22 q381 q382 hj9)) (Eq.trans (congrFun (fr363.2.2 11 (by decide)) j9) (congrFun (fr356.2.2 11 (by decide)) j9))))
          rw [← hu394] at hP hD
          refine lv_aload_n hx hb dX13_sets_76 rfl (lv_at hl 3 rfl) ?_
          refine lv_bipush (v := 10) hx hb dX13_sets_77 (by decide) ?_
          refine lv_iload hx hb dX13_sets_79 (lv_at hl 1 rfl) ?_
          refine cu_s (mW_nd _ _ _ _ _ _) (rn_S (n := 1) (As := [.int r358]) (rest := [.int 10, .ref (ad 0)]) hx hb hml hown ht hKK hFx hP hD hS hA (c_m_slotAt l dC dI cI cB cZ cJ cR tb H.size r358 ) tw_74 tw_75 (by decide +kernel) rfl rfl ⟨show 0 + 1 ≤ 40 * n + 6 from om_19dfed8989, show 8 + (1 + 11) + 0 ≤ 28 * (40 * n + 6) from om_213884e4e8⟩ [] rfl rfl rfl hl.1 rfl (Nat.le_of_ble_eq_true rfl) dX13_sets_81 ⟨Nat.le_of_ble_eq_true rfl, Nat.le_of_ble_eq_true rfl⟩) hP hD hS hA (fun r397 H locs hw395 hP hD hS => ?_)
          refine W.widen (k := 0) (n := 0) (Nat.le_refl _) (Nat.le_refl _) ?_
          refine lv_bipush (v := 8) hx hb dX13_sets_84 (by decide) ?_
          refine cu_s (mW_nd _ _ _ _ _ _) (rn_S (n := 3) (As := [.int 10, .int r397, .int 8]) (rest := [.ref (ad 0)]) hx hb hml hown ht hKK hFx hP hD hS hA (c_m_sw l dC dI cI cB cZ cJ cR tb H.size (10 : Int32) r397 (8 : Int32) ) tw_76 tw_77 (by decide +kernel) rfl rfl ⟨show 0 + 1 ≤ 40 * n + 6 from om_19dfed8989, show 8 + (3 + 11) + 0 ≤ 28 * (40 * n + 6) from om_bc89bc7b20⟩ [] rfl rfl rfl hl.1 rfl (Nat.le_of_ble_eq_true rfl) dX13_sets_86 ⟨Nat.le_of_ble_eq_true rfl, Nat.le_of_ble_eq_true rfl⟩) hP hD hS hA (fun r400 H locs hw398 hP hD hS => ?_)
          refine W.widen (k := 0) (n := 0) (Nat.le_refl _) (Nat.le_refl _) ?_
          have q401 : (u393.1 0 12).toInt = (((u364.1 0 12).toInt) + 1) := by rw [hu394]; exact (show ((u364.1 0 12) + (1 : Int32)).toInt = (((u364.1 0 12).toInt) + 1) from z386)
          refine cu_i (rn_V (n := 1) (As := [.int r400]) (rest := []) hx hb hml hown ht hKK hFx hP hD hS hA (c_m_emit l dC dI cI cB cZ cJ cR tb H.size ad N u393 r400 (show 0 ≤ (u393.1 0 12).toInt ∧ (u393.1 0 12).toInt < 24000 from (om_34546aaaa8 zt zws q381 q382 q401))) tw_8 tw_9 (by decide +kernel) rfl rfl ⟨show 0 + 1 ≤ 40 * n + 6 from om_19dfed8989, show 8 + (2 + 11) + 0 ≤ 28 * (40 * n + 6) from om_37bd887971⟩ (List.range (mW ad N cI cZ cJ u393).length) (rg_map _) (mW_nd _ _ _ _ _ _) rfl rfl rfl rfl hl.1 rfl (Nat.le_of_ble_eq_true rfl) dX13_sets_89 ⟨Nat.le_of_ble_eq_true rfl, Nat.le_of_ble_eq_true rfl⟩) hP hD hS hA (fun r404 u403 H locs hw402 hP hD hS => ?_)
          obtain ⟨rfl, rfl⟩ := hw402
          have z405 : ((u393.1 0 12) + (1 : Int32)).toInt = ((u393.1 0 12).toInt) + 1 := add_z rfl (show (1 : Int32).toInt = 1 by decide) (om_2438459d85 zws q381 q382 q401) (om_cdbe6c3cf1 zt zws q381 q382 q401)
          have hP : va_P (dC, dI) vwCl (mW ad N cI cZ cJ (wA (wA u393 11 ((u393.1 0 12).toNatClampNeg) r400) 0 12 ((u393.1 0 12) + (1 : Int32)))) H := hP
          have hD : va_D A (mW ad N cI cZ cJ (wA (wA u393 11 ((u393.1 0 12).toNatClampNeg) r400) 0 12 ((u393.1 0 12) + (1 : Int32)))) := hD
          refine tp_i (y := (u393.1 0 12)) (rfl) ?_
          refine W.widen (k := 0) (n := 0) (Nat.le_refl _) (Nat.le_refl _) ?_
          refine lv_pop hx hb dX13_sets_92 rfl ?_
          refine lv_iload hx hb dX13_sets_93 (lv_at hl 7 rfl) ?_
          refine lv_if_eq (tgt := 111) hx hb dX13_sets_95 (by decide) (fun h406 => ?_) (fun h406 => ?_)
          · have z407 : pd.toInt = 0 := eq_z rfl (show (0 : Int32).toInt = 0 by decide) h406
            refine lv_iload hx hb dX13_sets_111 (lv_at hl 7 rfl) ?_
            refine lv_if_eq (tgt := 138) hx hb dX13_sets_113 (by decide) (fun h408 => ?_) (fun h408 => ?_)
            · have z409 : pd.toInt = 0 := eq_z rfl (show (0 : Int32).toInt = 0 by decide) h408
              refine lv_iload hx hb dX13_sets_138 (lv_at hl 7 rfl) ?_
              refine lv_if_eq (tgt := 160) hx hb dX13_sets_140 (by decide) (fun h410 => ?_) (fun h410 => ?_)
              · have z411 : pd.toInt = 0 := eq_z rfl (show (0 : Int32).toInt = 0 by decide) h410
                refine lv_aload_n hx hb dX13_sets_160 rfl (lv_at hl 3 rfl) ?_
                refine lv_dup hx hb dX13_sets_161 rfl ?_
                refine va_get (D := (dC, dI)) (ci := 16) (fs := mF ad (wA (wA u393 11 ((u393.1 0 12).toNatClampNeg) r400) 0 12 ((u393.1 0 12) + (1 : Int32)))) (v := .int (u393.1 0 32)) (C := RX13) (T := TX13) (N := 124) hx hb ht itX13 hown hK hP 0 rfl rfl 32 (by decide) (ht _ tw_52) (fun _ h9 => h9) rfl dX13_sets_162 ?_
                refine lv_iload hx hb dX13_sets_165 (lv_at hl 2 rfl) ?_
                refine lv_iadd hx hb dX13_sets_167 ?_
                have q412 : (u357.1 0 32).toInt = (v.1 0 32).toInt := congrArg Int32.toInt ((fr356.2.1 32 (by decide)).trans (show v.1 0 32 = (v.1 0 32) by rfl))
                have q413 : (u364.1 0 32).toInt = (u357.1 0 32).toInt := congrArg Int32.toInt ((fr363.2.1 32 (by decide)).trans (show u357.1 0 32 = (u357.1 0 32) by rfl))
                have q414 : (u393.1 0 32).toInt = (u364.1 0 32).toInt := congrArg Int32.toInt (fr394.2.1 32 (by decide))
                have z415 : ((u393.1 0 32) + (1 : Int32)).toInt = ((u393.1 0 32).toInt) + 1 := add_z rfl (show (1 : Int32).toInt = 1 by decide) (om_42f7e3e398 zs q412 q413 q414) (om_c342783a8a zkn zs q412 q413 q414)
                refine va_put (D := (dC, dI)) (ci := 16) (fs := mF ad (wA (wA u393 11 ((u393.1 0 12).toNatClampNeg) r400) 0 12 ((u393.1 0 12) + (1 : Int32)))) (v := .int ((u393.1 0 32) + (1 : Int32))) (ty := .int) (C := RX13) (T := TX13) (N := 124) hx hb ht itX13 tyX13 tyX13_ok nmX13 hown hK hP hD hS 0 rfl rfl 32 (by decide) (ht _ tw_52) (fun _ h9 => h9) rfl (by decide +kernel) rfl rfl (Nat.le_of_ble_eq_true rfl) dX13_sets_168 (fun H locs hP hD hS => ?_)
                have hP := cP_ (mw_32 ad N cI cZ cJ (wA (wA u393 11 ((u393.1 0 12).toNatClampNeg) r400) 0 12 ((u393.1 0 12) + (1 : Int32))) ((u393.1 0 32) + (1 : Int32))) hP
                have hD := cD_ (mw_32 ad N cI cZ cJ (wA (wA u393 11 ((u393.1 0 12).toNatClampNeg) r400) 0 12 ((u393.1 0 12) + (1 : Int32))) ((u393.1 0 32) + (1 : Int32))) hD
                refine lv_aload_n hx hb dX13_sets_171 rfl (lv_at hl 3 rfl) ?_
                obtain ⟨n416, hn417⟩ : ∃ m, n = m + 1 := ex_z (om_f9013cab6d zn q368 q369 b370)
                have q418 : (u393.1 0 48).toInt = (((u364.1 0 48).toInt) + 1) := by rw [hu394]; exact (show ((u364.1 0 48) + (1 : Int32)).toInt = (((u364.1 0 48).toInt) + 1) from z374)
                have q419 : (u393.1 0 47).toInt = (((u364.1 0 47).toInt) + 1) := by rw [hu394]; exact (show ((u364.1 0 47) + (1 : Int32)).toInt = (((u364.1 0 47).toInt) + 1) from z373)
                have q420 : (u357.1 0 30).toInt = (v.1 0 30).toInt := congrArg Int32.toInt ((fr356.2.1 30 (by decide)).trans (show v.1 0 30 = (v.1 0 30) by rfl))
                have q421 : (u364.1 0 30).toInt = (u357.1 0 30).toInt := congrArg Int32.toInt ((fr363.2.1 30 (by decide)).trans (show u357.1 0 30 = (u357.1 0 30) by rfl))
                have q422 : (u393.1 0 30).toInt = (u364.1 0 30).toInt := congrArg Int32.toInt (fr394.2.1 30 (by decide))
                have q423 : (u364.1 0 33).toInt = (u357.1 0 33).toInt := congrArg Int32.toInt ((fr363.2.1 33 (by decide)).trans (show u357.1 0 33 = (u357.1 0 33) by rfl))
                have q424 : (u393.1 0 33).toInt = (u364.1 0 33).toInt := congrArg Int32.toInt (fr394.2.1 33 (by decide))
                have q425 : (u364.1 0 49).toInt = (u357.1 0 49).toInt := congrArg Int32.toInt ((fr363.2.1 49 (by decide)).trans (show u357.1 0 49 = (u357.1 0 49) by rfl))
                have q426 : (u357.1 0 15).toInt = (v.1 0 15).toInt := congrArg Int32.toInt ((fr356.2.1 15 (by decide)).trans (show v.1 0 15 = (v.1 0 15) by rfl))
                have q427 : (u364.1 0 15).toInt = (u357.1 0 15).toInt := congrArg Int32.toInt ((fr363.2.1 15 (by decide)).trans (show u357.1 0 15 = (u357.1 0 15) by rfl))
                have q428 : (u393.1 0 15).toInt = (u364.1 0 15).toInt := congrArg Int32.toInt (fr394.2.1 15 (by decide))
                have q429 : (u393.1 0 43).toInt = (((u364.1 0 43).toInt) + 1) := by rw [hu394]; exact (show ((u364.1 0 43) + (1 : Int32)).toInt = (((u364.1 0 43).toInt) + 1) from z392)
                have q430 : (u357.1 0 39).toInt = (v.1 0 39).toInt := congrArg Int32.toInt ((fr356.2.1 39 (by decide)).trans (show v.1 0 39 = (v.1 0 39) by rfl))
                have q431 : (u364.1 0 39).toInt = (u357.1 0 39).toInt := congrArg Int32.toInt ((fr363.2.1 39 (by decide)).trans (show u357.1 0 39 = (u357.1 0 39) by rfl))
                have q432 : (u393.1 0 39).toInt = (u364.1 0 39).toInt := congrArg Int32.toInt (fr394.2.1 39 (by decide))
                have q433 : (u357.1 0 27).toInt = (v.1 0 27).toInt := congrArg Int32.toInt ((fr356.2.1 27 (by decide)).trans (show v.1 0 27 = (v.1 0 27) by rfl))
                have q434 : (u364.1 0 27).toInt = (u357.1 0 27).toInt := congrArg Int32.toInt ((fr363.2.1 27 (by decide)).trans (show u357.1 0 27 = (u357.1 0 27) by rfl))
                have q435 : (u393.1 0 27).toInt = (u364.1 0 27).toInt := congrArg Int32.toInt (fr394.2.1 27 (by decide))
                refine cux_v (rx_V (n := 0) (As := []) (rest := []) hx hb hml hown ht hKK hFx hP hD hS hA (ihE n416 hn417 dC dI cI cB cZ cJ cR tb H.size ad N (wA (wA (wA u393 11 ((u393.1 0 12).toNatClampNeg) r400) 0 12 ((u393.1 0 12) + (1 : Int32))) 0 32 ((u393.1 0 32) + (1 : Int32)))  (show 40 ≤ (u393.1 0 48).toInt + (n416 : Int) from (om_19ac1174f8 zn q368 q369 q418 hn417)) (show 0 ≤ (u393.1 0 47).toInt ∧ (u393.1 0 47).toInt ≤ 1500 from (om_89d3a5a707 zfs q366 q367 a370 q419)) (show 0 ≤ (u393.1 0 48).toInt ∧ (u393.1 0 48).toInt ≤ 40 from (om_d615026097 zop q368 q369 b370 q418)) (show 0 ≤ (u393.1 0 30).toInt ∧ (u393.1 0 30).toInt ≤ 500 from (om_a369f3fea6 zkn q420 q421 q422)) (show 0 ≤ (u393.1 0 33).toInt ∧ (u393.1 0 33).toInt ≤ 500 from (om_50fe633fd5 zhi sh356 q423 q424)) (show 0 ≤ ((u393.1 0 32) + (1 : Int32)).toInt ∧ (u393.1 0 30).toInt + ((u393.1 0 32) + (1 : Int32)).toInt ≤ 500 from (om_4064dde58e zs q420 q412 q366 sb356 sh356 q421 q413 q367 q425 c370 q422 q414 z415)) (show 0 ≤ ((u393.1 0 12) + (1 : Int32)).toInt ∧ ((u393.1 0 12) + (1 : Int32)).toInt ≤ 15 * (u393.1 0 47).toInt + 2 from (om_9d6e3a5972 zws q381 q366 q382 q367 q401 q419 z405)) (show 0 ≤ (u393.1 0 15).toInt ∧ (u393.1 0 15).toInt ≤ 10 * (u393.1 0 47).toInt + 0 from (om_717e94baf5 zos q426 q366 q427 q367 q428 q419)) (show 0 ≤ (u393.1 0 43).toInt ∧ (u393.1 0 43).toInt ≤ 15 * (u393.1 0 47).toInt + 0 from (om_3ff84f5b14 zfs q387 q366 q388 q367 q429 q419)) (show 0 ≤ (u393.1 0 39).toInt ∧ (u393.1 0 39).toInt ≤ 1 * (u393.1 0 47).toInt + 0 from (om_085c97aba1 zcs q430 q366 q431 q367 q432 q419)) (show 0 ≤ (u393.1 0 27).toInt ∧ (u393.1 0 27).toInt ≤ 60 from (om_243ce53172 zgl q433 q434 q435)) (FG.ti (fl := pfl) (al := pal) (FG.f (FG.f (FG.a (FG.tr (FG.tr (FG.tr (FG.rf _) (FG.up fr356 (by decide) (by decide))) (FG.up fr363 (by decide) (by decide))) (FG.up fr394 (by decide) (by decide))) ((u393.1 0 12).toNatClampNeg) r400 (by decide) (by decide)) ((u393.1 0 12) + (1 : Int32)) (by decide)) ((u393.1 0 32) + (1 : Int32)) (by decide)) (by decide) (by decide) hT) ((show NI 29 u393 from NI.fr (fl := [12, 43, 47, 48]) (al := [0, 11, 40, 41, 42]) fr394 (by decide) (show NI 29 u364 from NI.fr (fl := [44, 45]) (al := [0]) fr363 (by decide) (show NI 29 u357 from NI.fr (fl := [33, 49]) (al := [0]) fr356 (by decide) n29)))) ((show NI 23 u393 from NI.fr (fl := [12, 43, 47, 48]) (al := [0, 11, 40, 41, 42]) fr394 (by decide) (show NI 23 u364 from NI.fr (fl := [44, 45]) (al := [0]) fr363 (by decide) (show NI 23 u357 from NI.fr (fl := [33, 49]) (al := [0]) fr356 (by decide) n23)))) ((show NI 35 u393 from NI.fr (fl := [12, 43, 47, 48]) (al := [0, 11, 40, 41, 42]) fr394 (by decide) (show NI 35 u364 from NI.fr (fl := [44, 45]) (al := [0]) fr363 (by decide) (show NI 35 u357 from NI.fr (fl := [33, 49]) (al := [0]) fr356 (by decide) n35))))) tw_80 tw_81 (by decide +kernel) rfl rfl ⟨show (40 * n416 + 36) + 1 ≤ 40 * n + 6 from (om_a8c331ff68 hn417), show 8 + (1 + 11) + 28 * (40 * n416 + 36) ≤ 28 * (40 * n + 6) from (om_93090b8001 hn417)⟩ (List.range (mW ad N cI cZ cJ (wA (wA (wA u393 11 ((u393.1 0 12).toNatClampNeg) r400) 0 12 ((u393.1 0 12) + (1 : Int32))) 0 32 ((u393.1 0 32) + (1 : Int32)))).length) (rg_map _) (mW_nd _ _ _ _ _ _) rfl rfl rfl rfl hl.1 rfl (Nat.le_of_ble_eq_true rfl) dX13_sets_172 ⟨Nat.le_of_ble_eq_true rfl, Nat.le_of_ble_eq_true rfl⟩) hP hD hS hA (fun u9 ce9 q9 H locs hx9 hP hD hS hc9 hv9 hf9 => ?_) (fun u437 H locs hw436 hP hD hS => ?_)
                · exact vx_out (fun x h9 => (hnt x h9).elim) hlocks hc9 hv9 hf9 (fun t9 ht9 hv8 => ⟨u9, (FG.tr (FG.f (FG.f (FG.a (FG.tr (FG.tr (FG.tr (FG.rf _) (FG.up fr356 (by decide) (by decide))) (FG.up fr363 (by decide) (by decide))) (FG.up fr394 (by decide) (by decide))) ((u393.1 0 12).toNatClampNeg) r400 (by decide) (by decide)) ((u393.1 0 12) + (1 : Int32)) (by decide)) ((u393.1 0 32) + (1 : Int32)) (by decide)) hx9), ⟨rfl, by rw [ht9]; exact hP, hD⟩, hS.F ht9⟩) hS.2.2 (Nat.le_refl _) (Nat.le_refl _)
                obtain ⟨fr436, pt436, pb436, pw436, po436, pf436, pk436, pp436, ph436, kc436, ko436, kg436, n35436⟩ := hw436
                have pt436 : (u393.1 0 47).toInt + 1 ≤ (u437.1 0 47).toInt ∧ (u437.1 0 47).toInt ≤ 1500 := pt436
                have pb436 : (u393.1 0 49).toInt ≠ (u393.1 0 47).toInt := pb436
                have pw436 : ((u393.1 0 12) + (1 : Int32)).toInt ≤ (u437.1 0 12).toInt ∧ (u437.1 0 12).toInt - 15 * (u437.1 0 47).toInt ≤ ((u393.1 0 12) + (1 : Int32)).toInt - 15 * (u393.1 0 47).toInt := pw436
                have po436 : (u393.1 0 15).toInt ≤ (u437.1 0 15).toInt ∧ (u437.1 0 15).toInt - 10 * (u437.1 0 47).toInt ≤ (u393.1 0 15).toInt - 10 * (u393.1 0 47).toInt := po436
                have pf436 : (u393.1 0 43).toInt ≤ (u437.1 0 43).toInt ∧ (u437.1 0 43).toInt - 15 * (u437.1 0 47).toInt ≤ (u393.1 0 43).toInt - 15 * (u393.1 0 47).toInt := pf436
                have pk436 : (u393.1 0 39).toInt ≤ (u437.1 0 39).toInt ∧ (u437.1 0 39).toInt - 1 * (u437.1 0 47).toInt ≤ (u393.1 0 39).toInt - 1 * (u393.1 0 47).toInt := pk436
                have pp436 : (u437.1 0 32).toInt = ((u393.1 0 32) + (1 : Int32)).toInt ∧ (u437.1 0 48).toInt = (u393.1 0 48).toInt := pp436
                have ph436 : (u393.1 0 33).toInt ≤ (u437.1 0 33).toInt ∧ (u437.1 0 33).toInt ≤ 500 := ph436
                have kc436 : ∀ j : Nat, (j : Int) < ((u393.1 0 12) + (1 : Int32)).toInt → (u437.1 11) j = (upd (u393.1 11) ((u393.1 0 12).toNatClampNeg) r400) j := kc436
                have ko436 : ∀ j : Nat, (j : Int) < (u393.1 0 15).toInt → (u437.1 13) j = (u393.1 13) j := ko436
                have kg436 : ∀ j : Nat, (j : Int) < (u393.1 0 15).toInt → (u437.1 14) j = (u393.1 14) j := kg436
                have n35436 : NI 35 u437 := n35436
                refine W.widen (k := 0) (n := 0) (Nat.le_refl _) (Nat.le_refl _) ?_
                refine lv_aload_n hx hb dX13_sets_175 rfl (lv_at hl 3 rfl) ?_
                refine lv_dup hx hb dX13_sets_176 rfl ?_
                refine va_get (D := (dC, dI)) (ci := 16) (fs := mF ad u437) (v := .int (u437.1 0 32)) (C := RX13) (T := TX13) (N := 124) hx hb ht itX13 hown hK hP 0 rfl rfl 32 (by decide) (ht _ tw_52) (fun _ h9 => h9) rfl dX13_sets_177 ?_
                refine lv_iload hx hb dX13_sets_180 (lv_at hl 2 rfl) ?_
                refine lv_isub hx hb dX13_sets_182 ?_
                have z439 : ((u437.1 0 32) - (1 : Int32)).toInt = ((u437.1 0 32).toInt) - 1 := sub_z rfl (show (1 : Int32).toInt = 1 by decide) (om_f361f995c0 zs q412 q413 q414 z415 pp436) (om_6e26541cb6 zkn zs q412 q413 q414 z415 pp436)
                refine va_put (D := (dC, dI)) (ci := 16) (fs := mF ad u437) (v := .int ((u437.1 0 32) - (1 : Int32))) (ty := .int) (C := RX13) (T := TX13) (N := 124) hx hb ht itX13 tyX13 tyX13_ok nmX13 hown hK hP hD hS 0 rfl rfl 32 (by decide) (ht _ tw_52) (fun _ h9 => h9) rfl (by decide +kernel) rfl rfl (Nat.le_of_ble_eq_true rfl) dX13_sets_183 (fun H locs hP hD hS => ?_)
                have hP := cP_ (mw_32 ad N cI cZ cJ u437 ((u437.1 0 32) - (1 : Int32))) hP
                have hD := cD_ (mw_32 ad N cI cZ cJ u437 ((u437.1 0 32) - (1 : Int32))) hD
                refine lv_iload hx hb dX13_sets_186 (lv_at hl 7 rfl) ?_
                refine lv_if_eq (tgt := 213) hx hb dX13_sets_188 (by decide) (fun h440 => ?_) (fun h440 => ?_)
                · have z441 : pd.toInt = 0 := eq_z rfl (show (0 : Int32).toInt = 0 by decide) h440
                  refine lv_iload_n hx hb dX13_sets_213 rfl (lv_at hl 6 rfl) ?_
                  refine lv_if_eq (tgt := 258) hx hb dX13_sets_214 (by decide) (fun h442 => ?_) (fun h442 => ?_)
                  · have z443 : pc1.toInt = 0 := eq_z rfl (show (0 : Int32).toInt = 0 by decide) h442
                    exact False.elim (om_09bd01a305 z176 z443)
                  · have z444 : pc1.toInt ≠ 0 := ne_z rfl (show (0 : Int32).toInt = 0 by decide) h442
                    refine lv_aload_n hx hb dX13_sets_217 rfl (lv_at hl 3 rfl) ?_
                    refine lv_bipush (v := 6) hx hb dX13_sets_218 (by decide) ?_
                    refine lv_iload hx hb dX13_sets_220 (lv_at hl 1 rfl) ?_
                    refine cu_s (mW_nd _ _ _ _ _ _) (rn_S (n := 1) (As := [.int r358]) (rest := [.int 6, .ref (ad 0)]) hx hb hml hown ht hKK hFx hP hD hS hA (c_m_slotAt l dC dI cI cB cZ cJ cR tb H.size r358 ) tw_74 tw_75 (by decide +kernel) rfl rfl ⟨show 0 + 1 ≤ 40 * n + 6 from om_19dfed8989, show 8 + (1 + 11) + 0 ≤ 28 * (40 * n + 6) from om_213884e4e8⟩ [] rfl rfl rfl hl.1 rfl (Nat.le_of_ble_eq_true rfl) dX13_sets_222 ⟨Nat.le_of_ble_eq_true rfl, Nat.le_of_ble_eq_true rfl⟩) hP hD hS hA (fun r447 H locs hw445 hP hD hS => ?_)
                    refine W.widen (k := 0) (n := 0) (Nat.le_refl _) (Nat.le_refl _) ?_
                    refine lv_bipush (v := 8) hx hb dX13_sets_225 (by decide) ?_
                    refine cu_s (mW_nd _ _ _ _ _ _) (rn_S (n := 3) (As := [.int 6, .int r447, .int 8]) (rest := [.ref (ad 0)]) hx hb hml hown ht hKK hFx hP hD hS hA (c_m_lw l dC dI cI cB cZ cJ cR tb H.size (6 : Int32) r447 (8 : Int32) ) tw_71 tw_72 (by decide +kernel) rfl rfl ⟨show 1 + 1 ≤ 40 * n + 6 from om_aa70640b3b, show 8 + (3 + 11) + 24 ≤ 28 * (40 * n + 6) from om_6539950522⟩ [] rfl rfl rfl hl.1 rfl (Nat.le_of_ble_eq_true rfl) dX13_sets_227 ⟨Nat.le_of_ble_eq_true rfl, Nat.le_of_ble_eq_true rfl⟩) hP hD hS hA (fun r450 H locs hw448 hP hD hS => ?_)
                    refine W.widen (k := 0) (n := 0) (Nat.le_refl _) (Nat.le_refl _) ?_
                    refine cu_i (rn_V (n := 1) (As := [.int r450]) (rest := []) hx hb hml hown ht hKK hFx hP hD hS hA (c_m_emit l dC dI cI cB cZ cJ cR tb H.size ad N (wA u437 0 32 ((u437.1 0 32) - (1 : Int32))) r450 (show 0 ≤ (u437.1 0 12).toInt ∧ (u437.1 0 12).toInt < 24000 from (om_e8cfdc50e4 zws q381 q366 q382 q367 q401 q419 z405 pt436 pw436))) tw_8 tw_9 (by decide +kernel) rfl rfl ⟨show 0 + 1 ≤ 40 * n + 6 from om_19dfed8989, show 8 + (2 + 11) + 0 ≤ 28 * (40 * n + 6) from om_37bd887971⟩ (List.range (mW ad N cI cZ cJ (wA u437 0 32 ((u437.1 0 32) - (1 : Int32)))).length) (rg_map _) (mW_nd _ _ _ _ _ _) rfl rfl rfl rfl hl.1 rfl (Nat.le_of_ble_eq_true rfl) dX13_sets_230 ⟨Nat.le_of_ble_eq_true rfl, Nat.le_of_ble_eq_true rfl⟩) hP hD hS hA (fun r453 u452 H locs hw451 hP hD hS => ?_)
                    obtain ⟨rfl, rfl⟩ := hw451
                    have z454 : ((u437.1 0 12) + (1 : Int32)).toInt = ((u437.1 0 12).toInt) + 1 := add_z rfl (show (1 : Int32).toInt = 1 by decide) (om_4469a7a86b zws q381 q382 q401 z405 pw436) (om_847e1b4093 zws q381 q366 q382 q367 q401 q419 z405 pt436 pw436)
                    have hP : va_P (dC, dI) vwCl (mW ad N cI cZ cJ (wA (wA (wA u437 0 32 ((u437.1 0 32) - (1 : Int32))) 11 ((u437.1 0 12).toNatClampNeg) r450) 0 12 ((u437.1 0 12) + (1 : Int32)))) H := hP
                    have hD : va_D A (mW ad N cI cZ cJ (wA (wA (wA u437 0 32 ((u437.1 0 32) - (1 : Int32))) 11 ((u437.1 0 12).toNatClampNeg) r450) 0 12 ((u437.1 0 12) + (1 : Int32)))) := hD
                    refine tp_i (y := (u437.1 0 12)) (rfl) ?_
                    refine W.widen (k := 0) (n := 0) (Nat.le_refl _) (Nat.le_refl _) ?_
                    refine lv_pop hx hb dX13_sets_233 rfl ?_
                    refine lv_aload_n hx hb dX13_sets_234 rfl (lv_at hl 3 rfl) ?_
                    refine lv_bipush (v := 10) hx hb dX13_sets_235 (by decide) ?_
                    refine lv_iconst (v := 0) hx hb dX13_sets_237 (by decide) ?_
                    refine lv_bipush (v := 6) hx hb dX13_sets_238 (by decide) ?_
                    refine cu_s (mW_nd _ _ _ _ _ _) (rn_S (n := 3) (As := [.int 10, .int 0, .int 6]) (rest := [.ref (ad 0)]) hx hb hml hown ht hKK hFx hP hD hS hA (c_m_sw l dC dI cI cB cZ cJ cR tb H.size (10 : Int32) (0 : Int32) (6 : Int32) ) tw_76 tw_77 (by decide +kernel) rfl rfl ⟨show 0 + 1 ≤ 40 * n + 6 from om_19dfed8989, show 8 + (3 + 11) + 0 ≤ 28 * (40 * n + 6) from om_bc89bc7b20⟩ [] rfl rfl rfl hl.1 rfl (Nat.le_of_ble_eq_true rfl) dX13_sets_240 ⟨Nat.le_of_ble_eq_true rfl, Nat.le_of_ble_eq_true rfl⟩) hP hD hS hA (fun r457 H locs hw455 hP hD hS => ?_)
                    refine W.widen (k := 0) (n := 0) (Nat.le_refl _) (Nat.le_refl _) ?_
                    refine cu_i (rn_V (n := 1) (As := [.int r457]) (rest := []) hx hb hml hown ht hKK hFx hP hD hS hA (c_m_emit l dC dI cI cB cZ cJ cR tb H.size ad N (wA (wA (wA u437 0 32 ((u437.1 0 32) - (1 : Int32))) 11 ((u437.1 0 12).toNatClampNeg) r450) 0 12 ((u437.1 0 12) + (1 : Int32))) r457 (show 0 ≤ ((u437.1 0 12) + (1 : Int32)).toInt ∧ ((u437.1 0 12) + (1 : Int32)).toInt < 24000 from (om_c283648cec zws q381 q366 q382 q367 q401 q419 z405 pt436 pw436 z454))) tw_8 tw_9 (by decide +kernel) rfl rfl ⟨show 0 + 1 ≤ 40 * n + 6 from om_19dfed8989, show 8 + (2 + 11) + 0 ≤ 28 * (40 * n + 6) from om_37bd887971⟩ (List.range (mW ad N cI cZ cJ (wA (wA (wA u437 0 32 ((u437.1 0 32) - (1 : Int32))) 11 ((u437.1 0 12).toNatClampNeg) r450) 0 12 ((u437.1 0 12) + (1 : Int32)))).length) (rg_map _) (mW_nd _ _ _ _ _ _) rfl rfl rfl rfl hl.1 rfl (Nat.le_of_ble_eq_true rfl) dX13_sets_243 ⟨Nat.le_of_ble_eq_true rfl, Nat.le_of_ble_eq_true rfl⟩) hP hD hS hA (fun r460 u459 H locs hw458 hP hD hS => ?_)
                    obtain ⟨rfl, rfl⟩ := hw458
                    have z461 : (((u437.1 0 12) + (1 : Int32)) + (1 : Int32)).toInt = (((u437.1 0 12).toInt) + 1) + 1 := add_z z454 (show (1 : Int32).toInt = 1 by decide) (om_718459d190 zws q381 q382 q401 z405 pw436) (om_e63f7f2bb8 zws q381 q366 q382 q367 q401 q419 z405 pt436 pw436)
                    have hP : va_P (dC, dI) vwCl (mW ad N cI cZ cJ (wA (wA (wA (wA (wA u437 0 32 ((u437.1 0 32) - (1 : Int32))) 11 ((u437.1 0 12).toNatClampNeg) r450) 0 12 ((u437.1 0 12) + (1 : Int32))) 11 (((u437.1 0 12) + (1 : Int32)).toNatClampNeg) r457) 0 12 (((u437.1 0 12) + (1 : Int32)) + (1 : Int32)))) H := hP
                    have hD : va_D A (mW ad N cI cZ cJ (wA (wA (wA (wA (wA u437 0 32 ((u437.1 0 32) - (1 : Int32))) 11 ((u437.1 0 12).toNatClampNeg) r450) 0 12 ((u437.1 0 12) + (1 : Int32))) 11 (((u437.1 0 12) + (1 : Int32)).toNatClampNeg) r457) 0 12 (((u437.1 0 12) + (1 : Int32)) + (1 : Int32)))) := hD
                    refine tp_i (y := ((u437.1 0 12) + (1 : Int32))) (rfl) ?_
                    refine W.widen (k := 0) (n := 0) (Nat.le_refl _) (Nat.le_refl _) ?_
                    refine lv_pop hx hb dX13_sets_246 rfl ?_
                    refine lv_aload_n hx hb dX13_sets_247 rfl (lv_at hl 3 rfl) ?_
                    refine lv_bipush (v := 8) hx hb dX13_sets_248 (by decide) ?_
                    refine lv_iconst (v := 0) hx hb dX13_sets_250 (by decide) ?_
                    refine cu_i (rn_V (n := 2) (As := [.int 8, .int 0]) (rest := []) hx hb hml hown ht hKK hFx hP hD hS hA (c_m_say l dC dI cI cB cZ cJ cR tb H.size ad N (wA (wA (wA (wA (wA u437 0 32 ((u437.1 0 32) - (1 : Int32))) 11 ((u437.1 0 12).toNatClampNeg) r450) 0 12 ((u437.1 0 12) + (1 : Int32))) 11 (((u437.1 0 12) + (1 : Int32)).toNatClampNeg) r457) 0 12 (((u437.1 0 12) + (1 : Int32)) + (1 : Int32))) (8 : Int32) (0 : Int32) (show 0 ≤ (u437.1 0 15).toInt ∧ (u437.1 0 15).toInt < 16000 from (om_fa713f4282 zos q426 q366 q427 q367 q428 q419 pt436 po436))) tw_59 tw_60 (by decide +kernel) rfl rfl ⟨show 0 + 1 ≤ 40 * n + 6 from om_19dfed8989, show 8 + (3 + 11) + 0 ≤ 28 * (40 * n + 6) from om_bc89bc7b20⟩ (List.range (mW ad N cI cZ cJ (wA (wA (wA (wA (wA u437 0 32 ((u437.1 0 32) - (1 : Int32))) 11 ((u437.1 0 12).toNatClampNeg) r450) 0 12 ((u437.1 0 12) + (1 : Int32))) 11 (((u437.1 0 12) + (1 : Int32)).toNatClampNeg) r457) 0 12 (((u437.1 0 12) + (1 : Int32)) + (1 : Int32)))).length) (rg_map _) (mW_nd _ _ _ _ _ _) rfl rfl rfl rfl hl.1 rfl (Nat.le_of_ble_eq_true rfl) dX13_sets_251 ⟨Nat.le_of_ble_eq_true rfl, Nat.le_of_ble_eq_true rfl⟩) hP hD hS hA (fun r464 u463 H locs hw462 hP hD hS => ?_)
                    obtain ⟨rfl, rfl⟩ := hw462
                    have z465 : ((u437.1 0 15) + (1 : Int32)).toInt = ((u437.1 0 15).toInt) + 1 := add_z rfl (show (1 : Int32).toInt = 1 by decide) (om_f60991243c zos q426 q427 q428 po436) (om_be77dd0a8b zos q426 q366 q427 q367 q428 q419 pt436 po436)
                    have hP : va_P (dC, dI) vwCl (mW ad N cI cZ cJ (wA (wA (wA (wA (wA (wA (wA (wA u437 0 32 ((u437.1 0 32) - (1 : Int32))) 11 ((u437.1 0 12).toNatClampNeg) r450) 0 12 ((u437.1 0 12) + (1 : Int32))) 11 (((u437.1 0 12) + (1 : Int32)).toNatClampNeg) r457) 0 12 (((u437.1 0 12) + (1 : Int32)) + (1 : Int32))) 13 ((u437.1 0 15).toNatClampNeg) (8 : Int32)) 14 ((u437.1 0 15).toNatClampNeg) (0 : Int32)) 0 15 ((u437.1 0 15) + (1 : Int32)))) H := hP
                    have hD : va_D A (mW ad N cI cZ cJ (wA (wA (wA (wA (wA (wA (wA (wA u437 0 32 ((u437.1 0 32) - (1 : Int32))) 11 ((u437.1 0 12).toNatClampNeg) r450) 0 12 ((u437.1 0 12) + (1 : Int32))) 11 (((u437.1 0 12) + (1 : Int32)).toNatClampNeg) r457) 0 12 (((u437.1 0 12) + (1 : Int32)) + (1 : Int32))) 13 ((u437.1 0 15).toNatClampNeg) (8 : Int32)) 14 ((u437.1 0 15).toNatClampNeg) (0 : Int32)) 0 15 ((u437.1 0 15) + (1 : Int32)))) := hD
                    refine tp_i (y := (u437.1 0 15)) (rfl) ?_
                    refine W.widen (k := 0) (n := 0) (Nat.le_refl _) (Nat.le_refl _) ?_
                    obtain ⟨u466, hu467⟩ : ∃ z, z = (wA (wA (wA (wA (wA (wA (wA (wA u437 0 32 ((u437.1 0 32) - (1 : Int32))) 11 ((u437.1 0 12).toNatClampNeg) r450) 0 12 ((u437.1 0 12) + (1 : Int32))) 11 (((u437.1 0 12) + (1 : Int32)).toNatClampNeg) r457) 0 12 (((u437.1 0 12) + (1 : Int32)) + (1 : Int32))) 13 ((u437.1 0 15).toNatClampNeg) (8 : Int32)) 14 ((u437.1 0 15).toNatClampNeg) (0 : Int32)) 0 15 ((u437.1 0 15) + (1 : Int32))) := ⟨_, rfl⟩
                    have fr467 : FG [12, 15, 32] [0, 11, 13, 14] u437 u466 := by rw [hu467]; exact (FG.f (FG.a (FG.a (FG.f (FG.a (FG.f (FG.a (FG.f (FG.rf _) ((u437.1 0 32) - (1 : Int32)) (by decide)) ((u437.1 0 12).toNatClampNeg) r450 (by decide) (by decide)) ((u437.1 0 12) + (1 : Int32)) (by decide)) (((u437.1 0 12) + (1 : Int32)).toNatClampNeg) r457 (by decide) (by decide)) (((u437.1 0 12) + (1 : Int32)) + (1 : Int32)) (by decide)) ((u437.1 0 15).toNatClampNeg) (8 : Int32) (by decide) (by decide)) ((u437.1 0 15).toNatClampNeg) (0 : Int32) (by decide) (by decide)) ((u437.1 0 15) + (1 : Int32)) (by decide))
                    have kc467 : ∀ j : Nat, (j : Int) < (v.1 0 12).toInt → (u466.1 11) j = (v.1 11) j := by rw [hu467]; exact (fun (j9 : Nat) hj9 => (Eq.trans (pk_un3 (a := ((u437.1 0 12) + (1 : Int32)).toInt) rfl (om_2629539833 zws q381 q382 q401 z405 pw436 z454) (om_79545c1057 q381 q382 q401 z405 pw436 z454 hj9)) (Eq.trans (pk_un3 (a := (u437.1 0 12).toInt) rfl (om_4816151ae0 zws q381 q382 q401 z405 pw436) (om_9021ccbd68 q381 q382 q401 z405 pw436 hj9)) (Eq.trans (kc436 j9 (om_72f7fe8055 q381 q382 q401 z405 hj9)) (Eq.trans (pk_un3 (a := (u393.1 0 12).toInt) rfl (om_523ac8eba4 zws q381 q382 q401) (om_925bfe73b8 q381 q382 q401 hj9)) (kc394 j9 hj9))))))
                    have ko467 : ∀ j : Nat, (j : Int) < (v.1 0 15).toInt → (u466.1 13) j = (v.1 13) j := by rw [hu467]; exact (fun (j9 : Nat) hj9 => (Eq.trans (pk_un3 (a := (u437.1 0 15).toInt) rfl (om_f7130cfae7 zos q426 q427 q428 po436) (om_59d2ce1b94 q426 q427 q428 po436 hj9)) (Eq.trans (ko436 j9 (om_ea2b772ec2 q426 q427 q428 hj9)) (Eq.trans (congrFun (fr394.2.2 13 (by decide)) j9) (Eq.trans (congrFun (fr363.2.2 13 (by decide)) j9) (congrFun (fr356.2.2 13 (by decide)) j9))))))
                    have kg467 : ∀ j : Nat, (j : Int) < (v.1 0 15).toInt → (u466.1 14) j = (v.1 14) j := by rw [hu467]; exact (fun (j9 : Nat) hj9 => (Eq.trans (pk_un3 (a := (u437.1 0 15).toInt) rfl (om_f7130cfae7 zos q426 q427 q428 po436) (om_59d2ce1b94 q426 q427 q428 po436 hj9)) (Eq.trans (kg436 j9 (om_ea2b772ec2 q426 q427 q428 hj9)) (Eq.trans (congrFun (fr394.2.2 14 (by decide)) j9) (Eq.trans (congrFun (fr363.2.2 14 (by decide)) j9) (congrFun (fr356.2.2 14 (by decide)) j9))))))
                    rw [← hu467] at hP hD
                    refine lv_pop hx hb dX13_sets_254 rfl ?_
                    refine lv_goto (tgt := 264) hx hb dX13_sets_255 (by decide) ?_
                    refine lv_aload_n hx hb dX13_sets_264 rfl (lv_at hl 3 rfl) ?_
                    refine lv_dup hx hb dX13_sets_265 rfl ?_
                    refine va_get (D := (dC, dI)) (ci := 16) (fs := mF ad u466) (v := .int (u466.1 0 48)) (C := RX13) (T := TX13) (N := 124) hx hb ht itX13 hown hK hP 0 rfl rfl 48 (by decide) (ht _ tw_31) (fun _ h9 => h9) rfl dX13_sets_266 ?_
                    refine lv_iconst (v := 1) hx hb dX13_sets_269 (by decide) ?_
                    refine lv_isub hx hb dX13_sets_270 ?_
                    have q468 : (u466.1 0 48).toInt = (u437.1 0 48).toInt := congrArg Int32.toInt (fr467.2.1 48 (by decide))
                    have z469 : ((u466.1 0 48) - (1 : Int32)).toInt = ((u466.1 0 48).toInt) - 1 := sub_z rfl (show (1 : Int32).toInt = 1 by decide) (om_3b7e1f9c21 zop q368 q369 q418 pp436 q468) (om_40562f0631 b370 q418 pp436 q468)
                    refine va_put (D := (dC, dI)) (ci := 16) (fs := mF ad u466) (v := .int ((u466.1 0 48) - (1 : Int32))) (ty := .int) (C := RX13) (T := TX13) (N := 124) hx hb ht itX13 tyX13 tyX13_ok nmX13 hown hK hP hD hS 0 rfl rfl 48 (by decide) (ht _ tw_31) (fun _ h9 => h9) rfl (by decide +kernel) rfl rfl (Nat.le_of_ble_eq_true rfl) dX13_sets_271 (fun H locs hP hD hS => ?_)
                    have hP := cP_ (mw_48 ad N cI cZ cJ u466 ((u466.1 0 48) - (1 : Int32))) hP
                    have hD := cD_ (mw_48 ad N cI cZ cJ u466 ((u466.1 0 48) - (1 : Int32))) hD
                    have q470 : (u466.1 0 47).toInt = (u437.1 0 47).toInt := congrArg Int32.toInt (fr467.2.1 47 (by decide))
                    have q471 : (u466.1 0 12).toInt = ((((u437.1 0 12).toInt) + 1) + 1) := by rw [hu467]; exact (show (((u437.1 0 12) + (1 : Int32)) + (1 : Int32)).toInt = ((((u437.1 0 12).toInt) + 1) + 1) from z461)
                    have q472 : (u466.1 0 15).toInt = (((u437.1 0 15).toInt) + 1) := by rw [hu467]; exact (show ((u437.1 0 15) + (1 : Int32)).toInt = (((u437.1 0 15).toInt) + 1) from z465)
                    have q473 : (u466.1 0 43).toInt = (u437.1 0 43).toInt := congrArg Int32.toInt (fr467.2.1 43 (by decide))
                    have q474 : (u466.1 0 39).toInt = (u437.1 0 39).toInt := congrArg Int32.toInt (fr467.2.1 39 (by decide))
                    have q475 : (u466.1 0 32).toInt = (((u437.1 0 32).toInt) - 1) := by rw [hu467]; exact (show ((u437.1 0 32) - (1 : Int32)).toInt = (((u437.1 0 32).toInt) - 1) from z439)
                    have q476 : (u466.1 0 33).toInt = (u437.1 0 33).toInt := congrArg Int32.toInt (fr467.2.1 33 (by decide))
                    refine vx_ret ?_
                    exact W.vret hx hb hr (fun t ht9 hW => ⟨⟨(wA u466 0 48 ((u466.1 0 48) - (1 : Int32))), rfl, ⟨(FG.f (FG.tr (FG.tr (FG.f (FG.f (FG.a (FG.tr (FG.tr (FG.tr (FG.rf _) (FG.up fr356 (by decide) (by decide))) (FG.up fr363 (by decide) (by decide))) (FG.up fr394 (by decide) (by decide))) ((u393.1 0 12).toNatClampNeg) r400 (by decide) (by decide)) ((u393.1 0 12) + (1 : Int32)) (by decide)) ((u393.1 0 32) + (1 : Int32)) (by decide)) (FG.up fr436 (by decide) (by decide))) (FG.up fr467 (by decide) (by decide))) ((u466.1 0 48) - (1 : Int32)) (by decide)), (show (v.1 0 47).toInt + 1 ≤ (u466.1 0 47).toInt ∧ (u466.1 0 47).toInt ≤ 1500 from (om_8ef373c47d q366 q367 q419 pt436 q470)), (show (v.1 0 49).toInt ≠ (v.1 0 47).toInt from (om_7800e6afe5 q366 sb356 q367 q425 c370)), (show (v.1 0 12).toInt ≤ (u466.1 0 12).toInt ∧ (u466.1 0 12).toInt - 15 * (u466.1 0 47).toInt ≤ (v.1 0 12).toInt - 15 * (v.1 0 47).toInt from (om_c44fddca14 q381 q366 q382 q367 q401 q419 z405 pw436 q471 q470)), (show (v.1 0 15).toInt ≤ (u466.1 0 15).toInt ∧ (u466.1 0 15).toInt - 10 * (u466.1 0 47).toInt ≤ (v.1 0 15).toInt - 10 * (v.1 0 47).toInt from (om_04ff0c7bff q426 q366 q427 q367 q428 q419 po436 q472 q470)), (show (v.1 0 43).toInt ≤ (u466.1 0 43).toInt ∧ (u466.1 0 43).toInt - 15 * (u466.1 0 47).toInt ≤ (v.1 0 43).toInt - 15 * (v.1 0 47).toInt from (om_3da5a9f2ff q387 q366 q388 q367 q429 q419 pf436 q473 q470)), (show (v.1 0 39).toInt ≤ (u466.1 0 39).toInt ∧ (u466.1 0 39).toInt - 1 * (u466.1 0 47).toInt ≤ (v.1 0 39).toInt - 1 * (v.1 0 47).toInt from (om_2573453ea3 q430 q366 q431 q367 q432 q419 pk436 q474 q470)), (show (u466.1 0 32).toInt = (v.1 0 32).toInt ∧ ((u466.1 0 48) - (1 : Int32)).toInt = (v.1 0 48).toInt from (om_cca87e3ce4 q412 q368 q413 q369 q414 q418 z415 pp436 q475 q468 z469)), (show (v.1 0 33).toInt ≤ (u466.1 0 33).toInt ∧ (u466.1 0 33).toInt ≤ 500 from (om_8e26302c24 sh356 q423 q424 ph436 q476)), (fun (j9 : Nat) hj9 => (kc467 j9 hj9)), (fun (j9 : Nat) hj9 => (ko467 j9 hj9)), (fun (j9 : Nat) hj9 => (kg467 j9 hj9)), (show NI 35 u466 from NI.fr (fl := [12, 15, 32]) (al := [0, 11, 13, 14]) fr467 (by decide) n35436)⟩, by rw [ht9]; exact hP, hD⟩, hS.F ht9⟩) hS.2.2 dX13_sets_274
                · have z477 : pd.toInt ≠ 0 := ne_z rfl (show (0 : Int32).toInt = 0 by decide) h440
                  exact False.elim (om_6c0c040bc6 z355 z477)
              · have z478 : pd.toInt ≠ 0 := ne_z rfl (show (0 : Int32).toInt = 0 by decide) h410
                exact False.elim (om_6c0c040bc6 z355 z478)
            · have z479 : pd.toInt ≠ 0 := ne_z rfl (show (0 : Int32).toInt = 0 by decide) h408
              exact False.elim (om_6c0c040bc6 z355 z479)
          · have z480 : pd.toInt ≠ 0 := ne_z rfl (show (0 : Int32).toInt = 0 by decide) h406
            exact False.elim (om_6c0c040bc6 z355 z480)
