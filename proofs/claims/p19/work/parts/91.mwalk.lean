theorem dX13_walk_0 : decode cX13_walk 0 = .ok (.aload_n 0, 1) := by decide +kernel
theorem dX13_walk_1 : decode cX13_walk 1 = .ok (.iconst 0, 1) := by decide +kernel
theorem dX13_walk_2 : decode cX13_walk 2 = .ok (.putfield 137, 3) := by decide +kernel
theorem dX13_walk_5 : decode cX13_walk 5 = .ok (.aload_n 0, 1) := by decide +kernel
theorem dX13_walk_6 : decode cX13_walk 6 = .ok (.iconst 0, 1) := by decide +kernel
theorem dX13_walk_7 : decode cX13_walk 7 = .ok (.putfield 151, 3) := by decide +kernel
theorem dX13_walk_10 : decode cX13_walk 10 = .ok (.aload_n 0, 1) := by decide +kernel
theorem dX13_walk_11 : decode cX13_walk 11 = .ok (.iconst (-1), 1) := by decide +kernel
theorem dX13_walk_12 : decode cX13_walk 12 = .ok (.putfield 148, 3) := by decide +kernel
theorem dX13_walk_15 : decode cX13_walk 15 = .ok (.aload_n 0, 1) := by decide +kernel
theorem dX13_walk_16 : decode cX13_walk 16 = .ok (.iconst 0, 1) := by decide +kernel
theorem dX13_walk_17 : decode cX13_walk 17 = .ok (.putfield 104, 3) := by decide +kernel
theorem dX13_walk_20 : decode cX13_walk 20 = .ok (.aload_n 0, 1) := by decide +kernel
theorem dX13_walk_21 : decode cX13_walk 21 = .ok (.iconst 0, 1) := by decide +kernel
theorem dX13_walk_22 : decode cX13_walk 22 = .ok (.putfield 121, 3) := by decide +kernel
theorem dX13_walk_25 : decode cX13_walk 25 = .ok (.aload_n 0, 1) := by decide +kernel
theorem dX13_walk_26 : decode cX13_walk 26 = .ok (.iconst 0, 1) := by decide +kernel
theorem dX13_walk_27 : decode cX13_walk 27 = .ok (.putfield 192, 3) := by decide +kernel
theorem dX13_walk_30 : decode cX13_walk 30 = .ok (.aload_n 0, 1) := by decide +kernel
theorem dX13_walk_31 : decode cX13_walk 31 = .ok (.iconst 0, 1) := by decide +kernel
theorem dX13_walk_32 : decode cX13_walk 32 = .ok (.putfield 186, 3) := by decide +kernel
theorem dX13_walk_35 : decode cX13_walk 35 = .ok (.aload_n 0, 1) := by decide +kernel
theorem dX13_walk_36 : decode cX13_walk 36 = .ok (.iconst 0, 1) := by decide +kernel
theorem dX13_walk_37 : decode cX13_walk 37 = .ok (.putfield 463, 3) := by decide +kernel
theorem dX13_walk_40 : decode cX13_walk 40 = .ok (.aload_n 0, 1) := by decide +kernel
theorem dX13_walk_41 : decode cX13_walk 41 = .ok (.iconst 0, 1) := by decide +kernel
theorem dX13_walk_42 : decode cX13_walk 42 = .ok (.putfield 338, 3) := by decide +kernel
theorem dX13_walk_45 : decode cX13_walk 45 = .ok (.aload_n 0, 1) := by decide +kernel
theorem dX13_walk_46 : decode cX13_walk 46 = .ok (.iconst 0, 1) := by decide +kernel
theorem dX13_walk_47 : decode cX13_walk 47 = .ok (.putfield 201, 3) := by decide +kernel
theorem dX13_walk_50 : decode cX13_walk 50 = .ok (.aload_n 0, 1) := by decide +kernel
theorem dX13_walk_51 : decode cX13_walk 51 = .ok (.iconst 0, 1) := by decide +kernel
theorem dX13_walk_52 : decode cX13_walk 52 = .ok (.putfield 232, 3) := by decide +kernel
theorem dX13_walk_55 : decode cX13_walk 55 = .ok (.aload_n 0, 1) := by decide +kernel
theorem dX13_walk_56 : decode cX13_walk 56 = .ok (.iconst 0, 1) := by decide +kernel
theorem dX13_walk_57 : decode cX13_walk 57 = .ok (.putfield 236, 3) := by decide +kernel
theorem dX13_walk_60 : decode cX13_walk 60 = .ok (.aload_n 0, 1) := by decide +kernel
theorem dX13_walk_61 : decode cX13_walk 61 = .ok (.bipush 17, 2) := by decide +kernel
theorem dX13_walk_63 : decode cX13_walk 63 = .ok (.iconst 0, 1) := by decide +kernel
theorem dX13_walk_64 : decode cX13_walk 64 = .ok (.iconst 0, 1) := by decide +kernel
theorem dX13_walk_65 : decode cX13_walk 65 = .ok (.invokestatic 219, 3) := by decide +kernel
theorem dX13_walk_68 : decode cX13_walk 68 = .ok (.invokevirtual 111, 3) := by decide +kernel
theorem dX13_walk_71 : decode cX13_walk 71 = .ok (.pop, 1) := by decide +kernel
theorem dX13_walk_72 : decode cX13_walk 72 = .ok (.aload_n 0, 1) := by decide +kernel
theorem dX13_walk_73 : decode cX13_walk 73 = .ok (.ldc_w 297, 3) := by decide +kernel
theorem dX13_walk_76 : decode cX13_walk 76 = .ok (.invokevirtual 111, 3) := by decide +kernel
theorem dX13_walk_79 : decode cX13_walk 79 = .ok (.pop, 1) := by decide +kernel
theorem dX13_walk_80 : decode cX13_walk 80 = .ok (.aload_n 0, 1) := by decide +kernel
theorem dX13_walk_81 : decode cX13_walk 81 = .ok (.getfield 41, 3) := by decide +kernel
theorem dX13_walk_84 : decode cX13_walk 84 = .ok (.aload_n 0, 1) := by decide +kernel
theorem dX13_walk_85 : decode cX13_walk 85 = .ok (.getfield 137, 3) := by decide +kernel
theorem dX13_walk_88 : decode cX13_walk 88 = .ok (.iaload, 1) := by decide +kernel
theorem dX13_walk_89 : decode cX13_walk 89 = .ok (.ifCond .eq 10, 3) := by decide +kernel
theorem dX13_walk_99 : decode cX13_walk 99 = .ok (.iconst 0, 1) := by decide +kernel
theorem dX13_walk_100 : decode cX13_walk 100 = .ok (.istore_n 1, 1) := by decide +kernel
theorem dX13_walk_101 : decode cX13_walk 101 = .ok (.iload_n 1, 1) := by decide +kernel
theorem dX13_walk_102 : decode cX13_walk 102 = .ok (.aload_n 0, 1) := by decide +kernel
theorem dX13_walk_103 : decode cX13_walk 103 = .ok (.getfield 338, 3) := by decide +kernel
theorem dX13_walk_106 : decode cX13_walk 106 = .ok (.if_icmp .ge 63, 3) := by decide +kernel
theorem dX13_walk_169 : decode cX13_walk 169 = .ok (.iconst 0, 1) := by decide +kernel
theorem dX13_walk_170 : decode cX13_walk 170 = .ok (.istore_n 1, 1) := by decide +kernel
theorem dX13_walk_171 : decode cX13_walk 171 = .ok (.iload_n 1, 1) := by decide +kernel
theorem dX13_walk_172 : decode cX13_walk 172 = .ok (.aload_n 0, 1) := by decide +kernel
theorem dX13_walk_173 : decode cX13_walk 173 = .ok (.getfield 338, 3) := by decide +kernel
theorem dX13_walk_176 : decode cX13_walk 176 = .ok (.if_icmp .ge 49, 3) := by decide +kernel
theorem dX13_walk_225 : decode cX13_walk 225 = .ok (.aload_n 0, 1) := by decide +kernel
theorem dX13_walk_226 : decode cX13_walk 226 = .ok (.getfield 232, 3) := by decide +kernel
theorem dX13_walk_229 : decode cX13_walk 229 = .ok (.ifCond .eq 7, 3) := by decide +kernel
theorem dX13_walk_236 : decode cX13_walk 236 = .ok (.aload_n 0, 1) := by decide +kernel
theorem dX13_walk_237 : decode cX13_walk 237 = .ok (.getfield 236, 3) := by decide +kernel
theorem dX13_walk_240 : decode cX13_walk 240 = .ok (.ifCond .eq 7, 3) := by decide +kernel
theorem dX13_walk_247 : decode cX13_walk 247 = .ok (.aload_n 0, 1) := by decide +kernel
theorem dX13_walk_248 : decode cX13_walk 248 = .ok (.iconst 4, 1) := by decide +kernel
theorem dX13_walk_249 : decode cX13_walk 249 = .ok (.aload_n 0, 1) := by decide +kernel
theorem dX13_walk_250 : decode cX13_walk 250 = .ok (.getfield 104, 3) := by decide +kernel
theorem dX13_walk_253 : decode cX13_walk 253 = .ok (.aload_n 0, 1) := by decide +kernel
theorem dX13_walk_254 : decode cX13_walk 254 = .ok (.getfield 463, 3) := by decide +kernel
theorem dX13_walk_257 : decode cX13_walk 257 = .ok (.iadd, 1) := by decide +kernel
theorem dX13_walk_258 : decode cX13_walk 258 = .ok (.imul, 1) := by decide +kernel
theorem dX13_walk_259 : decode cX13_walk 259 = .ok (.putfield 490, 3) := by decide +kernel
theorem dX13_walk_262 : decode cX13_walk 262 = .ok (.aload_n 0, 1) := by decide +kernel
theorem dX13_walk_263 : decode cX13_walk 263 = .ok (.getfield 490, 3) := by decide +kernel
theorem dX13_walk_266 : decode cX13_walk 266 = .ok (.bipush 64, 2) := by decide +kernel
theorem dX13_walk_268 : decode cX13_walk 268 = .ok (.iadd, 1) := by decide +kernel
theorem dX13_walk_269 : decode cX13_walk 269 = .ok (.iconst 4, 1) := by decide +kernel
theorem dX13_walk_270 : decode cX13_walk 270 = .ok (.aload_n 0, 1) := by decide +kernel
theorem dX13_walk_271 : decode cX13_walk 271 = .ok (.getfield 502, 3) := by decide +kernel
theorem dX13_walk_274 : decode cX13_walk 274 = .ok (.arraylength, 1) := by decide +kernel
theorem dX13_walk_275 : decode cX13_walk 275 = .ok (.imul, 1) := by decide +kernel
theorem dX13_walk_276 : decode cX13_walk 276 = .ok (.if_icmp .le 14, 3) := by decide +kernel
theorem dX13_walk_290 : decode cX13_walk 290 = .ok (.aload_n 0, 1) := by decide +kernel
theorem dX13_walk_291 : decode cX13_walk 291 = .ok (.invokevirtual 505, 3) := by decide +kernel
theorem tw_317 : (.code yX13_addresses cX13_addresses 4 none : Cond) ∈ tw_W := tw_in (by decide +kernel) (by decide +kernel)
theorem tw_318 : ∀ w ∈ ([.methodLink RX13 505 yX13_addresses, .instanceMethod yX13_addresses, .selects RX13 yX13_addresses yX13_addresses, .initialized RX13] : List Cond), w ∈ tw_W := tw_all (by decide +kernel)
theorem dX13_walk_294 : decode cX13_walk 294 = .ok (.return_, 1) := by decide +kernel
theorem dX13_walk_279 : decode cX13_walk 279 = .ok (.aload_n 0, 1) := by decide +kernel
theorem dX13_walk_280 : decode cX13_walk 280 = .ok (.bipush 7, 2) := by decide +kernel
theorem dX13_walk_282 : decode cX13_walk 282 = .ok (.aload_n 0, 1) := by decide +kernel
theorem dX13_walk_283 : decode cX13_walk 283 = .ok (.getfield 137, 3) := by decide +kernel
theorem dX13_walk_286 : decode cX13_walk 286 = .ok (.invokevirtual 140, 3) := by decide +kernel
theorem dX13_walk_289 : decode cX13_walk 289 = .ok (.athrow, 1) := by decide +kernel
theorem dX13_walk_243 : decode cX13_walk 243 = .ok (.aload_n 0, 1) := by decide +kernel
theorem dX13_walk_244 : decode cX13_walk 244 = .ok (.invokevirtual 499, 3) := by decide +kernel
theorem tw_319 : (.code yX13_dividing cX13_dividing 1 none : Cond) ∈ tw_W := tw_in (by decide +kernel) (by decide +kernel)
theorem tw_320 : ∀ w ∈ ([.methodLink RX13 499 yX13_dividing, .instanceMethod yX13_dividing, .selects RX13 yX13_dividing yX13_dividing, .initialized RX13] : List Cond), w ∈ tw_W := tw_all (by decide +kernel)
theorem dX13_walk_232 : decode cX13_walk 232 = .ok (.aload_n 0, 1) := by decide +kernel
theorem dX13_walk_233 : decode cX13_walk 233 = .ok (.invokevirtual 496, 3) := by decide +kernel
theorem tw_321 : (.code yX13_multiplying cX13_multiplying 2 none : Cond) ∈ tw_W := tw_in (by decide +kernel) (by decide +kernel)
theorem tw_322 : ∀ w ∈ ([.methodLink RX13 496 yX13_multiplying, .instanceMethod yX13_multiplying, .selects RX13 yX13_multiplying yX13_multiplying, .initialized RX13] : List Cond), w ∈ tw_W := tw_all (by decide +kernel)
theorem dX13_walk_179 : decode cX13_walk 179 = .ok (.aload_n 0, 1) := by decide +kernel
theorem dX13_walk_180 : decode cX13_walk 180 = .ok (.aload_n 0, 1) := by decide +kernel
theorem dX13_walk_181 : decode cX13_walk 181 = .ok (.getfield 341, 3) := by decide +kernel
theorem dX13_walk_184 : decode cX13_walk 184 = .ok (.iload_n 1, 1) := by decide +kernel
theorem dX13_walk_185 : decode cX13_walk 185 = .ok (.iaload, 1) := by decide +kernel
theorem dX13_walk_186 : decode cX13_walk 186 = .ok (.invokevirtual 455, 3) := by decide +kernel
theorem dX13_walk_189 : decode cX13_walk 189 = .ok (.istore_n 2, 1) := by decide +kernel
theorem dX13_walk_190 : decode cX13_walk 190 = .ok (.aload_n 0, 1) := by decide +kernel
theorem dX13_walk_191 : decode cX13_walk 191 = .ok (.aload_n 0, 1) := by decide +kernel
theorem dX13_walk_192 : decode cX13_walk 192 = .ok (.getfield 347, 3) := by decide +kernel
theorem dX13_walk_195 : decode cX13_walk 195 = .ok (.iload_n 1, 1) := by decide +kernel
theorem dX13_walk_196 : decode cX13_walk 196 = .ok (.iaload, 1) := by decide +kernel
theorem dX13_walk_197 : decode cX13_walk 197 = .ok (.iconst 1, 1) := by decide +kernel
theorem dX13_walk_198 : decode cX13_walk 198 = .ok (.aload_n 0, 1) := by decide +kernel
theorem dX13_walk_199 : decode cX13_walk 199 = .ok (.getfield 469, 3) := by decide +kernel
theorem dX13_walk_202 : decode cX13_walk 202 = .ok (.iload_n 2, 1) := by decide +kernel
theorem dX13_walk_203 : decode cX13_walk 203 = .ok (.iaload, 1) := by decide +kernel
theorem dX13_walk_204 : decode cX13_walk 204 = .ok (.invokevirtual 114, 3) := by decide +kernel
theorem dX13_walk_207 : decode cX13_walk 207 = .ok (.aload_n 0, 1) := by decide +kernel
theorem dX13_walk_208 : decode cX13_walk 208 = .ok (.getfield 124, 3) := by decide +kernel
theorem dX13_walk_211 : decode cX13_walk 211 = .ok (.aload_n 0, 1) := by decide +kernel
theorem dX13_walk_212 : decode cX13_walk 212 = .ok (.getfield 350, 3) := by decide +kernel
theorem dX13_walk_215 : decode cX13_walk 215 = .ok (.iload_n 1, 1) := by decide +kernel
theorem dX13_walk_216 : decode cX13_walk 216 = .ok (.iaload, 1) := by decide +kernel
theorem dX13_walk_217 : decode cX13_walk 217 = .ok (.iload_n 2, 1) := by decide +kernel
theorem dX13_walk_218 : decode cX13_walk 218 = .ok (.iastore, 1) := by decide +kernel
theorem dX13_walk_219 : decode cX13_walk 219 = .ok (.iinc 1 1, 3) := by decide +kernel
theorem dX13_walk_222 : decode cX13_walk 222 = .ok (.goto (-51), 3) := by decide +kernel
theorem dX13_walk_109 : decode cX13_walk 109 = .ok (.aload_n 0, 1) := by decide +kernel
theorem dX13_walk_110 : decode cX13_walk 110 = .ok (.aload_n 0, 1) := by decide +kernel
theorem dX13_walk_111 : decode cX13_walk 111 = .ok (.getfield 341, 3) := by decide +kernel
theorem dX13_walk_114 : decode cX13_walk 114 = .ok (.iload_n 1, 1) := by decide +kernel
theorem dX13_walk_115 : decode cX13_walk 115 = .ok (.iaload, 1) := by decide +kernel
theorem dX13_walk_116 : decode cX13_walk 116 = .ok (.invokevirtual 455, 3) := by decide +kernel
theorem dX13_walk_119 : decode cX13_walk 119 = .ok (.istore_n 2, 1) := by decide +kernel
theorem dX13_walk_120 : decode cX13_walk 120 = .ok (.iload_n 2, 1) := by decide +kernel
theorem dX13_walk_121 : decode cX13_walk 121 = .ok (.ifCond .ge 15, 3) := by decide +kernel
theorem dX13_walk_136 : decode cX13_walk 136 = .ok (.aload_n 0, 1) := by decide +kernel
theorem dX13_walk_137 : decode cX13_walk 137 = .ok (.getfield 466, 3) := by decide +kernel
theorem dX13_walk_140 : decode cX13_walk 140 = .ok (.iload_n 2, 1) := by decide +kernel
theorem dX13_walk_141 : decode cX13_walk 141 = .ok (.iaload, 1) := by decide +kernel
theorem dX13_walk_142 : decode cX13_walk 142 = .ok (.aload_n 0, 1) := by decide +kernel
theorem dX13_walk_143 : decode cX13_walk 143 = .ok (.getfield 344, 3) := by decide +kernel
theorem dX13_walk_146 : decode cX13_walk 146 = .ok (.iload_n 1, 1) := by decide +kernel
theorem dX13_walk_147 : decode cX13_walk 147 = .ok (.iaload, 1) := by decide +kernel
theorem dX13_walk_148 : decode cX13_walk 148 = .ok (.if_icmp .eq 15, 3) := by decide +kernel
theorem dX13_walk_163 : decode cX13_walk 163 = .ok (.iinc 1 1, 3) := by decide +kernel
theorem dX13_walk_166 : decode cX13_walk 166 = .ok (.goto (-65), 3) := by decide +kernel
theorem dX13_walk_151 : decode cX13_walk 151 = .ok (.aload_n 0, 1) := by decide +kernel
theorem dX13_walk_152 : decode cX13_walk 152 = .ok (.iconst 4, 1) := by decide +kernel
theorem dX13_walk_153 : decode cX13_walk 153 = .ok (.aload_n 0, 1) := by decide +kernel
theorem dX13_walk_154 : decode cX13_walk 154 = .ok (.getfield 341, 3) := by decide +kernel
theorem dX13_walk_157 : decode cX13_walk 157 = .ok (.iload_n 1, 1) := by decide +kernel
theorem dX13_walk_158 : decode cX13_walk 158 = .ok (.iaload, 1) := by decide +kernel
theorem dX13_walk_159 : decode cX13_walk 159 = .ok (.invokevirtual 140, 3) := by decide +kernel
theorem dX13_walk_162 : decode cX13_walk 162 = .ok (.athrow, 1) := by decide +kernel
theorem dX13_walk_124 : decode cX13_walk 124 = .ok (.aload_n 0, 1) := by decide +kernel
theorem dX13_walk_125 : decode cX13_walk 125 = .ok (.iconst 3, 1) := by decide +kernel
theorem dX13_walk_126 : decode cX13_walk 126 = .ok (.aload_n 0, 1) := by decide +kernel
theorem dX13_walk_127 : decode cX13_walk 127 = .ok (.getfield 341, 3) := by decide +kernel
theorem dX13_walk_130 : decode cX13_walk 130 = .ok (.iload_n 1, 1) := by decide +kernel
theorem dX13_walk_131 : decode cX13_walk 131 = .ok (.iaload, 1) := by decide +kernel
theorem dX13_walk_132 : decode cX13_walk 132 = .ok (.invokevirtual 140, 3) := by decide +kernel
theorem dX13_walk_135 : decode cX13_walk 135 = .ok (.athrow, 1) := by decide +kernel
theorem dX13_walk_92 : decode cX13_walk 92 = .ok (.aload_n 0, 1) := by decide +kernel
theorem dX13_walk_93 : decode cX13_walk 93 = .ok (.invokevirtual 493, 3) := by decide +kernel
theorem tw_323 : (.code yX13_item cX13_item 5 none : Cond) ∈ tw_W := tw_in (by decide +kernel) (by decide +kernel)
theorem tw_324 : ∀ w ∈ ([.methodLink RX13 493 yX13_item, .instanceMethod yX13_item, .selects RX13 yX13_item yX13_item, .initialized RX13] : List Cond), w ∈ tw_W := tw_all (by decide +kernel)
theorem dX13_walk_96 : decode cX13_walk 96 = .ok (.goto (-16), 3) := by decide +kernel
theorem om_f9f1b061a5 : 1 + 1 ≤ 1664 := by omega
theorem om_5067697b29 : 8 + (3 + 11) + 24 ≤ 28 * (1664) := by omega
theorem om_e39b81f845 {x0 : Int} (h0 : x0 = (0 : Int)) : 0 ≤ x0 ∧ x0 < 24000 := by omega
theorem om_9487016820 : 0 + 1 ≤ 1664 := by omega
theorem om_77f02031ef : 8 + (2 + 11) + 0 ≤ 28 * (1664) := by omega
theorem om_ecc4735e39 {x0 : Int} (h0 : x0 = (0 : Int)) : -2147483648 ≤ (x0) + (1 : Int) := by omega
theorem om_0854866980 {x0 : Int} (h0 : x0 = (0 : Int)) : (x0) + (1 : Int) < 2147483648 := by omega
theorem om_643678c928 {x0 x1 : Int} (h0 : x0 = (0 : Int)) (h1 : x1 = ((x0) + (1 : Int))) : 0 ≤ x1 ∧ x1 < 24000 := by omega
theorem om_ef25c8eb69 {x0 x1 : Int} (h0 : x0 = (0 : Int)) (h1 : x1 = ((x0) + (1 : Int))) : -2147483648 ≤ (x1) + (1 : Int) := by omega
theorem om_7343d2f581 {x0 x1 : Int} (h0 : x0 = (0 : Int)) (h1 : x1 = ((x0) + (1 : Int))) : (x1) + (1 : Int) < 2147483648 := by omega
theorem om_f951bd2403 {x0 x1 : Int} (h0 : x0 = (0 : Int)) (h1 : x1 = x0) : x1 ≤ 0 := by omega
theorem om_f275a5f5ea {x0 x1 : Int} (h0 : x0 = (0 : Int)) (h1 : x1 = x0) : x1 = 0 := by omega
theorem om_770ca75dd5 {x0 : Int} (h0 : x0 = (0 : Int)) : x0 = 0 := by omega
theorem om_568954a174 {x0 x1 : Int} (h0 : x0 = (0 : Int)) (h1 : x1 = x0) : 0 ≤ x1 ∧ x1 ≤ 1500 := by omega
theorem om_bac1b28346 {x0 x1 x2 x3 x4 : Int} (h0 : x0 = (0 : Int)) (h1 : x1 = (0 : Int)) (h2 : x2 = ((x0) + (1 : Int))) (h3 : x3 = x1) (h4 : x4 = (x2) + (1 : Int)) : 0 ≤ x4 ∧ x4 ≤ 15 * x3 + 2 := by omega
theorem om_292bd0bbe7 {x0 x1 x2 x3 : Int} (h0 : x0 = (0 : Int)) (h1 : x1 = (0 : Int)) (h2 : x2 = x0) (h3 : x3 = x1) : 0 ≤ x2 ∧ x2 ≤ 10 * x3 + 0 := by omega
theorem om_03207a06ee {x0 x1 x2 : Int} (h0 : x0 = (0 : Int)) (h1 : x1 = (0 : Int)) (h2 : x2 = x0) : 0 ≤ x1 ∧ x1 ≤ 15 * x2 + 0 := by omega
theorem om_600bb3c0fa {x0 x1 x2 : Int} (h0 : x0 = (0 : Int)) (h1 : x1 = (0 : Int)) (h2 : x2 = x0) : 0 ≤ x1 ∧ x1 ≤ 1 * x2 + 0 := by omega
theorem om_d3584fc8d3 {x0 x1 : Int} (h0 : x0 = (0 : Int)) (h1 : x1 = x0) : 0 ≤ x1 ∧ x1 ≤ 60 := by omega
theorem om_4d0e1459e0 {x0 x1 : Int} (h0 : x0 = (0 : Int)) (h1 : x1 = x0) : 0 ≤ x1 ∧ x1 ≤ 40 := by omega
theorem om_c43a62151c {x0 x1 x2 : Int} (h0 : x0 = (0 : Int)) (h1 : x1 = x0) (h2 : x2 = (0 : Int)) : 0 ≤ x2 ∧ x2 ≤ 1000 * x1 := by omega
theorem om_c63289abb5 {x0 x1 : Int} (h0 : 0 ≤ x0 ∧ x0 ≤ 1 * x1 + 0) : 0 ≤ (0 : Int) ∧ (0 : Int) ≤ x0 := by omega
theorem om_5f1f1dae2f {x0 x1 x2 x3 x4 x5 : Int} (h0 : 0 ≤ x0 ∧ x0 ≤ 15 * x1 + 2) (h1 : 0 ≤ x2 ∧ x2 ≤ 1000 * x3) (h2 : x4 = x0) (h3 : x5 = x2) : -2147483648 ≤ (x4) + (x5) := by omega
theorem om_2ef4bac26f {x0 x1 x2 x3 x4 x5 : Int} (h0 : 0 ≤ x0 ∧ x0 ≤ 1500) (h1 : 0 ≤ x1 ∧ x1 ≤ 15 * x0 + 2) (h2 : 0 ≤ x2 ∧ x2 ≤ 60) (h3 : 0 ≤ x3 ∧ x3 ≤ 1000 * x2) (h4 : x4 = x1) (h5 : x5 = x3) : (x4) + (x5) < 2147483648 := by omega
theorem om_fae2021ffc {x0 x1 x2 x3 x4 x5 : Int} (h0 : 0 ≤ x0 ∧ x0 ≤ 15 * x1 + 2) (h1 : 0 ≤ x2 ∧ x2 ≤ 1000 * x3) (h2 : x4 = x0) (h3 : x5 = x2) : -2147483648 ≤ (4 : Int) * ((x4) + (x5)) := by omega
theorem om_0345243984 {x0 x1 x2 x3 x4 x5 : Int} (h0 : 0 ≤ x0 ∧ x0 ≤ 1500) (h1 : 0 ≤ x1 ∧ x1 ≤ 15 * x0 + 2) (h2 : 0 ≤ x2 ∧ x2 ≤ 60) (h3 : 0 ≤ x3 ∧ x3 ≤ 1000 * x2) (h4 : x4 = x1) (h5 : x5 = x3) : (4 : Int) * ((x4) + (x5)) < 2147483648 := by omega
theorem om_13786f5a9d {x0 x1 x2 x3 x4 x5 : Int} (h0 : 0 ≤ x0 ∧ x0 ≤ 15 * x1 + 2) (h1 : 0 ≤ x2 ∧ x2 ≤ 1000 * x3) (h2 : x4 = x0) (h3 : x5 = x2) : -2147483648 ≤ ((4 : Int) * ((x4) + (x5))) + (64 : Int) := by omega
theorem om_fefddc7fb1 {x0 x1 x2 x3 x4 x5 : Int} (h0 : 0 ≤ x0 ∧ x0 ≤ 1500) (h1 : 0 ≤ x1 ∧ x1 ≤ 15 * x0 + 2) (h2 : 0 ≤ x2 ∧ x2 ≤ 60) (h3 : 0 ≤ x3 ∧ x3 ≤ 1000 * x2) (h4 : x4 = x1) (h5 : x5 = x3) : ((4 : Int) * ((x4) + (x5))) + (64 : Int) < 2147483648 := by omega
theorem om_5f2e43e78a {x1 x2 x3 x4 x5 x6 x7 : Int} {n0 : Nat} (h0 : (256 : Int) ≤ (n0 : Int) ∧ (n0 : Int) ≤ 4096) (h1 : 0 ≤ x1 ∧ x1 ≤ 15 * x2 + 2) (h2 : 0 ≤ x3 ∧ x3 ≤ 1000 * x4) (h3 : x5 = x1) (h4 : x6 = x3) (h5 : x7 = (n0 : Int)) (h6 : (((4 : Int) * ((x5) + (x6))) + (64 : Int)) ≤ ((4 : Int) * (x7))) : 0 ≤ x5 ∧ x5 ≤ 24000 := by omega
theorem om_296aff0492 {x0 x1 x2 : Int} (h0 : 0 ≤ x0 ∧ x0 ≤ 1500) (h1 : 0 ≤ x1 ∧ x1 ≤ 15 * x0 + 0) (h2 : x2 = x1) : 0 ≤ x2 ∧ x2 ≤ 24000 := by omega
theorem om_c85d008903 : 2 + 1 ≤ 1664 := by omega
theorem om_ca3544fdd9 : 8 + (4 + 11) + 46 ≤ 28 * (1664) := by omega
theorem om_7d78b70e0d {x1 x2 x3 x4 x5 x6 x7 x8 x9 x10 x11 x12 x13 x14 x15 x16 x17 x18 x19 : Int} {n0 : Nat} (h0 : (256 : Int) ≤ (n0 : Int) ∧ (n0 : Int) ≤ 4096) (h1 : 0 ≤ x1 ∧ x1 ≤ 1500) (h2 : 0 ≤ x2 ∧ x2 ≤ 15 * x1 + 2) (h3 : 0 ≤ x3 ∧ x3 ≤ 10 * x1 + 0) (h4 : 0 ≤ x4 ∧ x4 ≤ 60) (h5 : 0 ≤ x5 ∧ x5 ≤ 40) (h6 : 0 ≤ x6 ∧ x6 ≤ 1000 * x4) (h7 : x7 = x2) (h8 : x8 = x3) (h9 : x9 = x5) (h10 : x10 = x4) (h11 : x11 = x6) (h12 : x12 = (4 : Int) * ((x7) + (x11))) (h13 : x13 = (n0 : Int)) (h14 : (((4 : Int) * ((x7) + (x11))) + (64 : Int)) ≤ ((4 : Int) * (x13))) (h15 : x14 = x7) (h16 : x15 = x8) (h17 : x16 = x9) (h18 : x17 = x10) (h19 : x18 = x11) (h20 : x19 = x12) : 0 ≤ x14 ∧ x14 ≤ 24000 ∧ 0 ≤ x15 ∧ x15 ≤ 16000 ∧ 0 ≤ x16 ∧ x16 ≤ 40 ∧ 0 ≤ x17 ∧ x17 ≤ 60 ∧ 0 ≤ x18 ∧ x18 ≤ 4096 ∧ 0 ≤ x19 ∧ x19 + 64 ≤ 4 * (n0 : Int) := by omega
theorem om_e6a323412f {x0 x1 x2 : Int} (h0 : 0 ≤ x0 ∧ x0 ≤ x1) (h1 : x2 = x1) (h2 : x2 ≤ x0) : x0 = x1 := by omega
theorem om_99338c14df {x0 x1 x2 : Int} (h0 : x0 ≤ x1) (h1 : 0 ≤ x2 ∧ x2 ≤ x0) : x2 ≤ x1 := by omega
theorem om_be16799e6a {x0 x1 x2 : Int} (h0 : 0 ≤ x0 ∧ x0 ≤ 1500) (h1 : 0 ≤ x1 ∧ x1 ≤ 15 * x0 + 0) (h2 : x2 = x0) : 0 ≤ x2 ∧ x2 < 4002 := by omega
theorem om_0b7ae4ecc7 : 8 + (3 + 11) + 0 ≤ 28 * (1664) := by omega
theorem om_7dddaed1b5 {x0 x1 x2 : Int} (h0 : 0 ≤ x0 ∧ x0 ≤ 1500) (h1 : 0 ≤ x1 ∧ x1 ≤ 15 * x0 + 2) (h2 : x2 = x1) : 0 ≤ x2 ∧ x2 ≤ 23950 := by omega
theorem om_edc850ecee : 8 + (1 + 11) + 46 ≤ 28 * (1664) := by omega
theorem om_9511b52176 {x0 x1 x2 x3 x4 x5 x6 x7 : Int} (h0 : 0 ≤ x0 ∧ x0 ≤ 15 * x1 + 2) (h1 : 0 ≤ x2 ∧ x2 ≤ 1000 * x3) (h2 : x4 = x0) (h3 : x5 = x2) (h4 : x6 = x5) (h5 : x7 = x4 + 26) : -2147483648 ≤ (x7) + (x6) := by omega
theorem om_7568692923 {x0 x1 x2 x3 x4 x5 x6 x7 : Int} (h0 : 0 ≤ x0 ∧ x0 ≤ 1500) (h1 : 0 ≤ x1 ∧ x1 ≤ 15 * x0 + 2) (h2 : 0 ≤ x2 ∧ x2 ≤ 60) (h3 : 0 ≤ x3 ∧ x3 ≤ 1000 * x2) (h4 : x4 = x1) (h5 : x5 = x3) (h6 : x6 = x5) (h7 : x7 = x4 + 26) : (x7) + (x6) < 2147483648 := by omega
theorem om_bc22f84e9d {x0 x1 x2 x3 x4 x5 x6 x7 : Int} (h0 : 0 ≤ x0 ∧ x0 ≤ 15 * x1 + 2) (h1 : 0 ≤ x2 ∧ x2 ≤ 1000 * x3) (h2 : x4 = x0) (h3 : x5 = x2) (h4 : x6 = x5) (h5 : x7 = x4 + 26) : -2147483648 ≤ (4 : Int) * ((x7) + (x6)) := by omega
theorem om_7a98e30c2d {x0 x1 x2 x3 x4 x5 x6 x7 : Int} (h0 : 0 ≤ x0 ∧ x0 ≤ 1500) (h1 : 0 ≤ x1 ∧ x1 ≤ 15 * x0 + 2) (h2 : 0 ≤ x2 ∧ x2 ≤ 60) (h3 : 0 ≤ x3 ∧ x3 ≤ 1000 * x2) (h4 : x4 = x1) (h5 : x5 = x3) (h6 : x6 = x5) (h7 : x7 = x4 + 26) : (4 : Int) * ((x7) + (x6)) < 2147483648 := by omega
theorem om_0f6ad757c0 {x0 x1 x2 x3 x4 x5 x6 x7 : Int} (h0 : 0 ≤ x0 ∧ x0 ≤ 15 * x1 + 2) (h1 : 0 ≤ x2 ∧ x2 ≤ 1000 * x3) (h2 : x4 = x0) (h3 : x5 = x2) (h4 : x6 = x5) (h5 : x7 = x4 + 26) : -2147483648 ≤ ((4 : Int) * ((x7) + (x6))) + (64 : Int) := by omega
theorem om_8416c7c6c4 {x0 x1 x2 x3 x4 x5 x6 x7 : Int} (h0 : 0 ≤ x0 ∧ x0 ≤ 1500) (h1 : 0 ≤ x1 ∧ x1 ≤ 15 * x0 + 2) (h2 : 0 ≤ x2 ∧ x2 ≤ 60) (h3 : 0 ≤ x3 ∧ x3 ≤ 1000 * x2) (h4 : x4 = x1) (h5 : x5 = x3) (h6 : x6 = x5) (h7 : x7 = x4 + 26) : ((4 : Int) * ((x7) + (x6))) + (64 : Int) < 2147483648 := by omega
theorem om_b2c04394f7 {x1 x2 x3 x4 x5 x6 x7 x8 x9 : Int} {n0 : Nat} (h0 : (256 : Int) ≤ (n0 : Int) ∧ (n0 : Int) ≤ 4096) (h1 : 0 ≤ x1 ∧ x1 ≤ 15 * x2 + 2) (h2 : 0 ≤ x3 ∧ x3 ≤ 1000 * x4) (h3 : x5 = x1) (h4 : x6 = x3) (h5 : x7 = x6) (h6 : x8 = x5 + 26) (h7 : x9 = (n0 : Int)) (h8 : (((4 : Int) * ((x8) + (x7))) + (64 : Int)) ≤ ((4 : Int) * (x9))) : 0 ≤ x8 ∧ x8 ≤ 24000 := by omega
theorem om_fe9e5267dc {x0 x1 x2 x3 : Int} (h0 : 0 ≤ x0 ∧ x0 ≤ 1500) (h1 : 0 ≤ x1 ∧ x1 ≤ 15 * x0 + 0) (h2 : x2 = x1) (h3 : x3 = x2) : 0 ≤ x3 ∧ x3 ≤ 24000 := by omega
theorem om_f351021c5f {x1 x2 x3 x4 x5 x6 x7 x8 x9 x10 x11 x12 x13 x14 x15 x16 x17 x18 x19 x20 x21 x22 x23 x24 : Int} {n0 : Nat} (h0 : (256 : Int) ≤ (n0 : Int) ∧ (n0 : Int) ≤ 4096) (h1 : 0 ≤ x1 ∧ x1 ≤ 1500) (h2 : 0 ≤ x2 ∧ x2 ≤ 15 * x1 + 2) (h3 : 0 ≤ x3 ∧ x3 ≤ 10 * x1 + 0) (h4 : 0 ≤ x4 ∧ x4 ≤ 60) (h5 : 0 ≤ x5 ∧ x5 ≤ 40) (h6 : 0 ≤ x6 ∧ x6 ≤ 1000 * x4) (h7 : x7 = x2) (h8 : x8 = x3) (h9 : x9 = x5) (h10 : x10 = x4) (h11 : x11 = x6) (h12 : x12 = x8) (h13 : x13 = x9) (h14 : x14 = x10) (h15 : x15 = x11) (h16 : x16 = x7 + 26) (h17 : x17 = (4 : Int) * ((x16) + (x15))) (h18 : x18 = (n0 : Int)) (h19 : (((4 : Int) * ((x16) + (x15))) + (64 : Int)) ≤ ((4 : Int) * (x18))) (h20 : x19 = x16) (h21 : x20 = x12) (h22 : x21 = x13) (h23 : x22 = x14) (h24 : x23 = x15) (h25 : x24 = x17) : 0 ≤ x19 ∧ x19 ≤ 24000 ∧ 0 ≤ x20 ∧ x20 ≤ 16000 ∧ 0 ≤ x21 ∧ x21 ≤ 40 ∧ 0 ≤ x22 ∧ x22 ≤ 60 ∧ 0 ≤ x23 ∧ x23 ≤ 4096 ∧ 0 ≤ x24 ∧ x24 + 64 ≤ 4 * (n0 : Int) := by omega
theorem om_a484ee19eb {x0 x1 x2 x3 : Int} (h0 : 0 ≤ x0 ∧ x0 ≤ 1500) (h1 : 0 ≤ x1 ∧ x1 ≤ 15 * x0 + 0) (h2 : x2 = x0) (h3 : x3 = x2) : 0 ≤ x3 ∧ x3 < 4002 := by omega
theorem om_1f4780f029 : 8 + (2 + 11) + 46 ≤ 28 * (1664) := by omega
theorem om_e3f82623a0 {x0 x1 x2 x3 x4 x5 x6 x7 : Int} (h0 : 0 ≤ x0 ∧ x0 ≤ 15 * x1 + 2) (h1 : 0 ≤ x2 ∧ x2 ≤ 1000 * x3) (h2 : x4 = x0) (h3 : x5 = x2) (h4 : x6 = x5) (h5 : x7 = x4 + 10) : -2147483648 ≤ (x7) + (x6) := by omega
theorem om_9d9bb3caac {x0 x1 x2 x3 x4 x5 x6 x7 : Int} (h0 : 0 ≤ x0 ∧ x0 ≤ 1500) (h1 : 0 ≤ x1 ∧ x1 ≤ 15 * x0 + 2) (h2 : 0 ≤ x2 ∧ x2 ≤ 60) (h3 : 0 ≤ x3 ∧ x3 ≤ 1000 * x2) (h4 : x4 = x1) (h5 : x5 = x3) (h6 : x6 = x5) (h7 : x7 = x4 + 10) : (x7) + (x6) < 2147483648 := by omega
theorem om_0e66946cb4 {x0 x1 x2 x3 x4 x5 x6 x7 : Int} (h0 : 0 ≤ x0 ∧ x0 ≤ 15 * x1 + 2) (h1 : 0 ≤ x2 ∧ x2 ≤ 1000 * x3) (h2 : x4 = x0) (h3 : x5 = x2) (h4 : x6 = x5) (h5 : x7 = x4 + 10) : -2147483648 ≤ (4 : Int) * ((x7) + (x6)) := by omega
theorem om_c9f77f9d4b {x0 x1 x2 x3 x4 x5 x6 x7 : Int} (h0 : 0 ≤ x0 ∧ x0 ≤ 1500) (h1 : 0 ≤ x1 ∧ x1 ≤ 15 * x0 + 2) (h2 : 0 ≤ x2 ∧ x2 ≤ 60) (h3 : 0 ≤ x3 ∧ x3 ≤ 1000 * x2) (h4 : x4 = x1) (h5 : x5 = x3) (h6 : x6 = x5) (h7 : x7 = x4 + 10) : (4 : Int) * ((x7) + (x6)) < 2147483648 := by omega
theorem om_74f89cf34c {x0 x1 x2 x3 x4 x5 x6 x7 : Int} (h0 : 0 ≤ x0 ∧ x0 ≤ 15 * x1 + 2) (h1 : 0 ≤ x2 ∧ x2 ≤ 1000 * x3) (h2 : x4 = x0) (h3 : x5 = x2) (h4 : x6 = x5) (h5 : x7 = x4 + 10) : -2147483648 ≤ ((4 : Int) * ((x7) + (x6))) + (64 : Int) := by omega
theorem om_ca5774d678 {x0 x1 x2 x3 x4 x5 x6 x7 : Int} (h0 : 0 ≤ x0 ∧ x0 ≤ 1500) (h1 : 0 ≤ x1 ∧ x1 ≤ 15 * x0 + 2) (h2 : 0 ≤ x2 ∧ x2 ≤ 60) (h3 : 0 ≤ x3 ∧ x3 ≤ 1000 * x2) (h4 : x4 = x1) (h5 : x5 = x3) (h6 : x6 = x5) (h7 : x7 = x4 + 10) : ((4 : Int) * ((x7) + (x6))) + (64 : Int) < 2147483648 := by omega
theorem om_17a4325441 {x1 x2 x3 x4 x5 x6 x7 x8 x9 : Int} {n0 : Nat} (h0 : (256 : Int) ≤ (n0 : Int) ∧ (n0 : Int) ≤ 4096) (h1 : 0 ≤ x1 ∧ x1 ≤ 15 * x2 + 2) (h2 : 0 ≤ x3 ∧ x3 ≤ 1000 * x4) (h3 : x5 = x1) (h4 : x6 = x3) (h5 : x7 = x6) (h6 : x8 = x5 + 10) (h7 : x9 = (n0 : Int)) (h8 : (((4 : Int) * ((x8) + (x7))) + (64 : Int)) ≤ ((4 : Int) * (x9))) : 0 ≤ x8 ∧ x8 ≤ 24000 := by omega
theorem om_0d6cba3ed3 {x1 x2 x3 x4 x5 x6 x7 x8 x9 x10 x11 x12 x13 x14 x15 x16 x17 x18 x19 x20 x21 x22 x23 x24 : Int} {n0 : Nat} (h0 : (256 : Int) ≤ (n0 : Int) ∧ (n0 : Int) ≤ 4096) (h1 : 0 ≤ x1 ∧ x1 ≤ 1500) (h2 : 0 ≤ x2 ∧ x2 ≤ 15 * x1 + 2) (h3 : 0 ≤ x3 ∧ x3 ≤ 10 * x1 + 0) (h4 : 0 ≤ x4 ∧ x4 ≤ 60) (h5 : 0 ≤ x5 ∧ x5 ≤ 40) (h6 : 0 ≤ x6 ∧ x6 ≤ 1000 * x4) (h7 : x7 = x2) (h8 : x8 = x3) (h9 : x9 = x5) (h10 : x10 = x4) (h11 : x11 = x6) (h12 : x12 = x8) (h13 : x13 = x9) (h14 : x14 = x10) (h15 : x15 = x11) (h16 : x16 = x7 + 10) (h17 : x17 = (4 : Int) * ((x16) + (x15))) (h18 : x18 = (n0 : Int)) (h19 : (((4 : Int) * ((x16) + (x15))) + (64 : Int)) ≤ ((4 : Int) * (x18))) (h20 : x19 = x16) (h21 : x20 = x12) (h22 : x21 = x13) (h23 : x22 = x14) (h24 : x23 = x15) (h25 : x24 = x17) : 0 ≤ x19 ∧ x19 ≤ 24000 ∧ 0 ≤ x20 ∧ x20 ≤ 16000 ∧ 0 ≤ x21 ∧ x21 ≤ 40 ∧ 0 ≤ x22 ∧ x22 ≤ 60 ∧ 0 ≤ x23 ∧ x23 ≤ 4096 ∧ 0 ≤ x24 ∧ x24 + 64 ≤ 4 * (n0 : Int) := by omega
theorem om_04283d784f {x0 x1 x2 x3 : Int} (h0 : 0 ≤ x0 ∧ x0 ≤ 1500) (h1 : 0 ≤ x1 ∧ x1 ≤ 15 * x0 + 2) (h2 : x2 = x1) (h3 : x3 = x2 + 10) : 0 ≤ x3 ∧ x3 ≤ 23950 := by omega
theorem om_f7037ec1d1 {x0 x1 x2 x3 x4 x5 x6 x7 x8 x9 : Int} (h0 : 0 ≤ x0 ∧ x0 ≤ 15 * x1 + 2) (h1 : 0 ≤ x2 ∧ x2 ≤ 1000 * x3) (h2 : x4 = x0) (h3 : x5 = x2) (h4 : x6 = x5) (h5 : x7 = x4 + 10) (h6 : x8 = x6) (h7 : x9 = x7 + 26) : -2147483648 ≤ (x9) + (x8) := by omega
theorem om_2950846155 {x0 x1 x2 x3 x4 x5 x6 x7 x8 x9 : Int} (h0 : 0 ≤ x0 ∧ x0 ≤ 1500) (h1 : 0 ≤ x1 ∧ x1 ≤ 15 * x0 + 2) (h2 : 0 ≤ x2 ∧ x2 ≤ 60) (h3 : 0 ≤ x3 ∧ x3 ≤ 1000 * x2) (h4 : x4 = x1) (h5 : x5 = x3) (h6 : x6 = x5) (h7 : x7 = x4 + 10) (h8 : x8 = x6) (h9 : x9 = x7 + 26) : (x9) + (x8) < 2147483648 := by omega
theorem om_8589859c3a {x0 x1 x2 x3 x4 x5 x6 x7 x8 x9 : Int} (h0 : 0 ≤ x0 ∧ x0 ≤ 15 * x1 + 2) (h1 : 0 ≤ x2 ∧ x2 ≤ 1000 * x3) (h2 : x4 = x0) (h3 : x5 = x2) (h4 : x6 = x5) (h5 : x7 = x4 + 10) (h6 : x8 = x6) (h7 : x9 = x7 + 26) : -2147483648 ≤ (4 : Int) * ((x9) + (x8)) := by omega
theorem om_a3c20b68b7 {x0 x1 x2 x3 x4 x5 x6 x7 x8 x9 : Int} (h0 : 0 ≤ x0 ∧ x0 ≤ 1500) (h1 : 0 ≤ x1 ∧ x1 ≤ 15 * x0 + 2) (h2 : 0 ≤ x2 ∧ x2 ≤ 60) (h3 : 0 ≤ x3 ∧ x3 ≤ 1000 * x2) (h4 : x4 = x1) (h5 : x5 = x3) (h6 : x6 = x5) (h7 : x7 = x4 + 10) (h8 : x8 = x6) (h9 : x9 = x7 + 26) : (4 : Int) * ((x9) + (x8)) < 2147483648 := by omega
theorem om_4a15b2943a {x0 x1 x2 x3 x4 x5 x6 x7 x8 x9 : Int} (h0 : 0 ≤ x0 ∧ x0 ≤ 15 * x1 + 2) (h1 : 0 ≤ x2 ∧ x2 ≤ 1000 * x3) (h2 : x4 = x0) (h3 : x5 = x2) (h4 : x6 = x5) (h5 : x7 = x4 + 10) (h6 : x8 = x6) (h7 : x9 = x7 + 26) : -2147483648 ≤ ((4 : Int) * ((x9) + (x8))) + (64 : Int) := by omega
theorem om_2cdfe9e40d {x0 x1 x2 x3 x4 x5 x6 x7 x8 x9 : Int} (h0 : 0 ≤ x0 ∧ x0 ≤ 1500) (h1 : 0 ≤ x1 ∧ x1 ≤ 15 * x0 + 2) (h2 : 0 ≤ x2 ∧ x2 ≤ 60) (h3 : 0 ≤ x3 ∧ x3 ≤ 1000 * x2) (h4 : x4 = x1) (h5 : x5 = x3) (h6 : x6 = x5) (h7 : x7 = x4 + 10) (h8 : x8 = x6) (h9 : x9 = x7 + 26) : ((4 : Int) * ((x9) + (x8))) + (64 : Int) < 2147483648 := by omega
theorem om_1233daa01e {x1 x2 x3 x4 x5 x6 x7 x8 x9 x10 x11 : Int} {n0 : Nat} (h0 : (256 : Int) ≤ (n0 : Int) ∧ (n0 : Int) ≤ 4096) (h1 : 0 ≤ x1 ∧ x1 ≤ 15 * x2 + 2) (h2 : 0 ≤ x3 ∧ x3 ≤ 1000 * x4) (h3 : x5 = x1) (h4 : x6 = x3) (h5 : x7 = x6) (h6 : x8 = x5 + 10) (h7 : x9 = x7) (h8 : x10 = x8 + 26) (h9 : x11 = (n0 : Int)) (h10 : (((4 : Int) * ((x10) + (x9))) + (64 : Int)) ≤ ((4 : Int) * (x11))) : 0 ≤ x10 ∧ x10 ≤ 24000 := by omega
theorem om_b6ae5a6d21 {x0 x1 x2 x3 x4 : Int} (h0 : 0 ≤ x0 ∧ x0 ≤ 1500) (h1 : 0 ≤ x1 ∧ x1 ≤ 15 * x0 + 0) (h2 : x2 = x1) (h3 : x3 = x2) (h4 : x4 = x3) : 0 ≤ x4 ∧ x4 ≤ 24000 := by omega
theorem om_91b0537b40 {x0 x1 x2 x3 : Int} (h0 : 0 ≤ x0 ∧ x0 ≤ 40) (h1 : x1 = x0) (h2 : x2 = x1) (h3 : x3 = x2) : 0 ≤ x3 ∧ x3 ≤ 40 := by omega
theorem om_d493edb7ca {x1 x2 x3 x4 x5 x6 x7 x8 x9 x10 x11 x12 x13 x14 x15 x16 x17 x18 x19 x20 x21 x22 x23 x24 x25 x26 x27 x28 x29 : Int} {n0 : Nat} (h0 : (256 : Int) ≤ (n0 : Int) ∧ (n0 : Int) ≤ 4096) (h1 : 0 ≤ x1 ∧ x1 ≤ 1500) (h2 : 0 ≤ x2 ∧ x2 ≤ 15 * x1 + 2) (h3 : 0 ≤ x3 ∧ x3 ≤ 10 * x1 + 0) (h4 : 0 ≤ x4 ∧ x4 ≤ 60) (h5 : 0 ≤ x5 ∧ x5 ≤ 40) (h6 : 0 ≤ x6 ∧ x6 ≤ 1000 * x4) (h7 : x7 = x2) (h8 : x8 = x3) (h9 : x9 = x5) (h10 : x10 = x4) (h11 : x11 = x6) (h12 : x12 = x8) (h13 : x13 = x9) (h14 : x14 = x10) (h15 : x15 = x11) (h16 : x16 = x7 + 10) (h17 : x17 = x12) (h18 : x18 = x13) (h19 : x19 = x14) (h20 : x20 = x15) (h21 : x21 = x16 + 26) (h22 : x22 = (4 : Int) * ((x21) + (x20))) (h23 : x23 = (n0 : Int)) (h24 : (((4 : Int) * ((x21) + (x20))) + (64 : Int)) ≤ ((4 : Int) * (x23))) (h25 : x24 = x21) (h26 : x25 = x17) (h27 : x26 = x18) (h28 : x27 = x19) (h29 : x28 = x20) (h30 : x29 = x22) : 0 ≤ x24 ∧ x24 ≤ 24000 ∧ 0 ≤ x25 ∧ x25 ≤ 16000 ∧ 0 ≤ x26 ∧ x26 ≤ 40 ∧ 0 ≤ x27 ∧ x27 ≤ 60 ∧ 0 ≤ x28 ∧ x28 ≤ 4096 ∧ 0 ≤ x29 ∧ x29 + 64 ≤ 4 * (n0 : Int) := by omega
theorem om_c646560808 {x0 x1 x2 x3 x4 : Int} (h0 : 0 ≤ x0 ∧ x0 ≤ 1500) (h1 : 0 ≤ x1 ∧ x1 ≤ 15 * x0 + 0) (h2 : x2 = x0) (h3 : x3 = x2) (h4 : x4 = x3) : 0 ≤ x4 ∧ x4 < 4002 := by omega
theorem om_c56ba5dd0c {x0 x1 x2 : Int} (h0 : 0 ≤ x0 ∧ x0 ≤ 1500) (h1 : 0 ≤ x1 ∧ x1 ≤ 1 * x0 + 0) (h2 : 0 ≤ x2 ∧ x2 ≤ x1) : x2 < 4000 := by omega
theorem om_1aa8cdefa7 : 8 + (3 + 11) + 25 ≤ 28 * (1664) := by omega
theorem om_fc70f634b1 {x0 x1 x2 x3 : Int} (h0 : x0 ≤ x1) (h1 : x2 = x0) (h2 : x3 < x2) : x3 < x1 := by omega
theorem om_d75bb56449 {x0 x1 x2 : Int} (h0 : 0 ≤ x0 ∧ x0 ≤ 40) (h1 : x1 = x0) (h2 : (-1 ≤ x2 ∧ x2 < x1)) : x2 < 40 := by omega
theorem om_e436e66882 : 8 + (4 + 11) + 21 ≤ 28 * (1664) := by omega
theorem om_d2acdb7723 {x0 : Int} (h0 : 0 ≤ x0 ∧ x0 ≤ 15999) : 0 ≤ x0 := by omega
theorem om_6b2b87dc27 {x0 : Int} (h0 : 0 ≤ x0 ∧ x0 ≤ 15999) : x0 < 16000 := by omega
theorem om_246d65362b {x0 x1 x2 : Int} (h0 : 0 ≤ x0 ∧ x0 ≤ 1500) (h1 : 0 ≤ x1 ∧ x1 ≤ 1 * x0 + 0) (h2 : 0 ≤ x2 ∧ x2 ≤ x1) : x2 + (1 : Int) < 2147483648 := by omega
theorem om_ee8dcabd52 {x0 x1 x2 : Int} (h0 : 0 ≤ x0 ∧ x0 ≤ 1500) (h1 : 0 ≤ x1 ∧ x1 ≤ 1 * x0 + 0) (h2 : 0 ≤ x2 ∧ x2 ≤ x1) : 0 < 4000 - x2 := by omega
theorem om_3f7bfc3542 {x0 x1 x2 : Int} (h0 : 0 ≤ x0 ∧ x0 ≤ 1500) (h1 : 0 ≤ x1 ∧ x1 ≤ 1 * x0 + 0) (h2 : x2 < x1) : x2 < 4000 := by omega
theorem om_affe9280ad {x0 x1 : Int} (h0 : 0 ≤ x0 ∧ x0 ≤ 40) (h1 : (-1 ≤ x1 ∧ x1 < x0)) : x1 < 40 := by omega
theorem om_f230003a74 {x0 x1 : Int} (h0 : (-1 ≤ x0 ∧ x0 < x1)) : x0 < x1 := by omega
theorem om_13255d373d {x0 x1 x2 : Int} (h0 : 0 ≤ x0 ∧ x0 ≤ 1500) (h1 : 0 ≤ x1 ∧ x1 ≤ 1 * x0 + 0) (h2 : x2 < x1) : 0 < 4000 - x2 := by omega
theorem om_f25046c0df {x0 x1 : Int} (h0 : 0 ≤ x0 ∧ x0 ≤ 1000 * x1) : 0 ≤ x0 ∧ x0 ≤ 1000 * x1 := by omega
theorem om_5a0db5099d : (1662) + 1 ≤ 1664 := by omega
theorem om_1ba0e235a4 : 8 + (5 + 11) + 28 * (1662) ≤ 28 * (1664) := by omega
theorem om_a0b98009fe {x0 x1 x2 x3 : Int} (h0 : 0 ≤ x0 ∧ x0 ≤ 15 * x1 + 2) (h1 : x0 ≤ x2 ∧ x2 - 15 * x3 ≤ x0 - 15 * x1) : 0 ≤ x2 ∧ x2 ≤ 15 * x3 + 2 := by omega
theorem om_39ff1133a1 {x0 x1 x2 x3 : Int} (h0 : 0 ≤ x0 ∧ x0 ≤ 10 * x1 + 0) (h1 : x0 ≤ x2 ∧ x2 - 10 * x3 ≤ x0 - 10 * x1) : 0 ≤ x2 ∧ x2 ≤ 10 * x3 + 0 := by omega
theorem om_c718dbd3ec {x0 x1 x2 : Int} (h0 : 0 ≤ x0 ∧ x0 ≤ 60 ∧ 0 ≤ x1 ∧ x1 ≤ 40 ∧ 0 ≤ x2 ∧ x2 ≤ 1000 * x0) : 0 ≤ x0 ∧ x0 ≤ 60 := by omega
theorem om_215b2c1e2f {x0 x1 x2 : Int} (h0 : 0 ≤ x0 ∧ x0 ≤ 60 ∧ 0 ≤ x1 ∧ x1 ≤ 40 ∧ 0 ≤ x2 ∧ x2 ≤ 1000 * x0) : 0 ≤ x1 ∧ x1 ≤ 40 := by omega
theorem om_06ac333f7e {x0 x1 x2 : Int} (h0 : 0 ≤ x0 ∧ x0 ≤ 60 ∧ 0 ≤ x1 ∧ x1 ≤ 40 ∧ 0 ≤ x2 ∧ x2 ≤ 1000 * x0) : 0 ≤ x2 ∧ x2 ≤ 1000 * x0 := by omega
set_option maxHeartbeats 16000000 in
set_option maxRecDepth 100000 in
theorem c_m_walk (l : Launch) (dC : Nat → ClassId) (dI : Nat → Nat → Nat) (cI cB cZ cJ cR : ClassId) (tb : Nat → Nat) (sz : Nat) (ad : Nat → Nat) (N : Nat) (v : MS)  (zN : (256 : Int) ≤ (N : Int) ∧ (N : Int) ≤ 4096) (hT : TI v) (a16 : AR 16 0 1500 v) (a17 : AR 17 0 8 v) (a18 : AR 18 0 2008 v) (a19 : AR 19 0 23900 v) (a20 : AR 20 0 15999 v) (a21 : AR 21 0 500 v) (a23 : AR 23 0 1500 v) (a24 : AR 24 0 1000 v) (a25 : AR 25 0 60000 v) (a29 : AR 29 0 1500 v) (a35 : AR 35 0 1500 v) (a37 : AR 37 0 23999 v) (a38 : AR 38 0 15999 v) (a40 : AR 40 0 23999 v) (fx : FX v) : vx_Met l yX13_walk (Cond.code yX13_walk cX13_walk 3 none :: tw_W) ({ frames := 1664, cells := 0, slots := 0, locals := 28 * (1664) }) (pc_ (dC, dI) (tyS cI cB cZ cJ cR) tb (mW ad N cI cZ cJ v) sz [.ref (ad 0)]) (qv_ (dC, dI) (mW ad N cI cZ cJ v) sz (fun (u : MS) => Fr v u ∧ (0 ≤ (u.1 0 12).toInt ∧ (u.1 0 12).toInt ≤ 24000 ∧ 0 ≤ (u.1 0 15).toInt ∧ (u.1 0 15).toInt ≤ 16000 ∧ 0 ≤ (u.1 0 22).toInt ∧ (u.1 0 22).toInt ≤ 40 ∧ 0 ≤ (u.1 0 27).toInt ∧ (u.1 0 27).toInt ≤ 60 ∧ 0 ≤ (u.1 0 28).toInt ∧ (u.1 0 28).toInt ≤ 4096 ∧ 0 ≤ (u.1 0 69).toInt ∧ (u.1 0 69).toInt + 64 ≤ 4 * (N : Int)) ∧ (AR 16 0 1500 u) ∧ (AR 17 0 8 u) ∧ (AR 18 0 2008 u) ∧ (AR 19 0 23900 u) ∧ (AR 20 0 15999 u) ∧ (AR 21 0 500 u) ∧ (AR 23 0 1500 u) ∧ (AR 24 0 1000 u) ∧ (AR 25 0 60000 u) ∧ (AR 29 0 1500 u) ∧ (AR 35 0 1500 u) ∧ (AR 37 0 23999 u) ∧ (AR 38 0 15999 u) ∧ (AR 40 0 23999 u) ∧ (FX u) ∧ (GF u) ∧ (PG2 u) ∧ (IV v → IV u)) (fun (u : MS) => (mW ad N cI cZ cJ u))) (qxm (dC, dI) (mW ad N cI cZ cJ v) sz (fun (u : MS) => (mW ad N cI cZ cJ u)) (fun (u : MS) => Fr v u ∧ (IV v → IV u))) 0 0 (va_A (mW ad N cI cZ cJ v) sz) := by
  refine vx_ofW (cc := cX13_walk) (maxL := 3) (ret := none) (by decide) rfl ?_
  intro p e s m args below meth c s₁ B hml hnt hv
  obtain ⟨rfl, hsz, hP, hKK, hD0, hFx⟩ := hv
  have hK := hKK.1
  have hx := B.exec
  have hb := B.bytes
  have hr := B.returns
  have ht : ∀ w ∈ tw_W, w.before _ s = true := fun w h => atoms_spec (ws := Cond.code yX13_walk cX13_walk 3 none :: tw_W) B.pre w (List.mem_cons_of_mem _ h)
  have hown : s.vm.findClass RX13 = some m.cls := findClass_of_methodNamed B.named
  have hlocks := B.notSynchronized
  subst hsz
  unfold qv_ qxm
  have hD := hD0.self (sz := s.heap.size)
  generalize hAe : va_A (mW ad N cI cZ cJ v) s.heap.size = A at hD hFx ⊢
  have hA : ∀ q : Nat, s.heap.size ≤ q → A q := fun q h => by rw [← hAe]; exact Or.inr h
  have hS : va_S A s.heap s.heap [] := va_S.rf
  have hl := lv_entry ([.ref (ad 0)]) (n := 3) (Nat.le_of_ble_eq_true rfl)
  rw [lg_entry_eq]
  generalize (lg_sl ([.ref (ad 0)]) ++ List.replicate (3 - (lg_sl ([.ref (ad 0)])).length) Slot.unset).toArray = ls at hl ⊢
  have hl : lv_has ls 3 [(0, .ref (ad 0))] := hl
  refine lv_aload_n hx hb dX13_walk_0 rfl (lv_at hl 0 rfl) ?_
  refine lv_iconst (v := 0) hx hb dX13_walk_1 (by decide) ?_
  refine va_put (D := (dC, dI)) (ci := 16) (fs := mF ad v) (v := .int 0) (ty := .int) (C := RX13) (T := TX13) (N := 124) hx hb ht itX13 tyX13 tyX13_ok nmX13 hown hK hP hD hS 0 rfl rfl 47 (by decide) (ht _ tw_24) (fun _ h9 => h9) rfl (by decide +kernel) rfl rfl (Nat.le_of_ble_eq_true rfl) dX13_walk_2 (fun H locs hP hD hS => ?_)
  have hP := cP_ (mw_47 ad N cI cZ cJ v 0) hP
  have hD := cD_ (mw_47 ad N cI cZ cJ v 0) hD
  refine lv_aload_n hx hb dX13_walk_5 rfl (lv_at hl 0 rfl) ?_
  refine lv_iconst (v := 0) hx hb dX13_walk_6 (by decide) ?_
  refine va_put (D := (dC, dI)) (ci := 16) (fs := mF ad (wA v 0 47 0)) (v := .int 0) (ty := .int) (C := RX13) (T := TX13) (N := 124) hx hb ht itX13 tyX13 tyX13_ok nmX13 hown hK hP hD hS 0 rfl rfl 48 (by decide) (ht _ tw_31) (fun _ h9 => h9) rfl (by decide +kernel) rfl rfl (Nat.le_of_ble_eq_true rfl) dX13_walk_7 (fun H locs hP hD hS => ?_)
  have hP := cP_ (mw_48 ad N cI cZ cJ (wA v 0 47 0) 0) hP
  have hD := cD_ (mw_48 ad N cI cZ cJ (wA v 0 47 0) 0) hD
  refine lv_aload_n hx hb dX13_walk_10 rfl (lv_at hl 0 rfl) ?_
  refine lv_iconst (v := -1) hx hb dX13_walk_11 (by decide) ?_
  refine va_put (D := (dC, dI)) (ci := 16) (fs := mF ad (wA (wA v 0 47 0) 0 48 0)) (v := .int (-1)) (ty := .int) (C := RX13) (T := TX13) (N := 124) hx hb ht itX13 tyX13 tyX13_ok nmX13 hown hK hP hD hS 0 rfl rfl 49 (by decide) (ht _ tw_30) (fun _ h9 => h9) rfl (by decide +kernel) rfl rfl (Nat.le_of_ble_eq_true rfl) dX13_walk_12 (fun H locs hP hD hS => ?_)
  have hP := cP_ (mw_49 ad N cI cZ cJ (wA (wA v 0 47 0) 0 48 0) (-1)) hP
  have hD := cD_ (mw_49 ad N cI cZ cJ (wA (wA v 0 47 0) 0 48 0) (-1)) hD
  refine lv_aload_n hx hb dX13_walk_15 rfl (lv_at hl 0 rfl) ?_
  refine lv_iconst (v := 0) hx hb dX13_walk_16 (by decide) ?_
  refine va_put (D := (dC, dI)) (ci := 16) (fs := mF ad (wA (wA (wA v 0 47 0) 0 48 0) 0 49 (-1))) (v := .int 0) (ty := .int) (C := RX13) (T := TX13) (N := 124) hx hb ht itX13 tyX13 tyX13_ok nmX13 hown hK hP hD hS 0 rfl rfl 12 (by decide) (ht _ tw_7) (fun _ h9 => h9) rfl (by decide +kernel) rfl rfl (Nat.le_of_ble_eq_true rfl) dX13_walk_17 (fun H locs hP hD hS => ?_)
  have hP := cP_ (mw_12 ad N cI cZ cJ (wA (wA (wA v 0 47 0) 0 48 0) 0 49 (-1)) 0) hP
  have hD := cD_ (mw_12 ad N cI cZ cJ (wA (wA (wA v 0 47 0) 0 48 0) 0 49 (-1)) 0) hD
  refine lv_aload_n hx hb dX13_walk_20 rfl (lv_at hl 0 rfl) ?_
  refine lv_iconst (v := 0) hx hb dX13_walk_21 (by decide) ?_
  refine va_put (D := (dC, dI)) (ci := 16) (fs := mF ad (wA (wA (wA (wA v 0 47 0) 0 48 0) 0 49 (-1)) 0 12 0)) (v := .int 0) (ty := .int) (C := RX13) (T := TX13) (N := 124) hx hb ht itX13 tyX13 tyX13_ok nmX13 hown hK hP hD hS 0 rfl rfl 15 (by decide) (ht _ tw_11) (fun _ h9 => h9) rfl (by decide +kernel) rfl rfl (Nat.le_of_ble_eq_true rfl) dX13_walk_22 (fun H locs hP hD hS => ?_)
  have hP := cP_ (mw_15 ad N cI cZ cJ (wA (wA (wA (wA v 0 47 0) 0 48 0) 0 49 (-1)) 0 12 0) 0) hP
  have hD := cD_ (mw_15 ad N cI cZ cJ (wA (wA (wA (wA v 0 47 0) 0 48 0) 0 49 (-1)) 0 12 0) 0) hD
  refine lv_aload_n hx hb dX13_walk_25 rfl (lv_at hl 0 rfl) ?_
  refine lv_iconst (v := 0) hx hb dX13_walk_26 (by decide) ?_
  refine va_put (D := (dC, dI)) (ci := 16) (fs := mF ad (wA (wA (wA (wA (wA v 0 47 0) 0 48 0) 0 49 (-1)) 0 12 0) 0 15 0)) (v := .int 0) (ty := .int) (C := RX13) (T := TX13) (N := 124) hx hb ht itX13 tyX13 tyX13_ok nmX13 hown hK hP hD hS 0 rfl rfl 22 (by decide) (ht _ tw_50) (fun _ h9 => h9) rfl (by decide +kernel) rfl rfl (Nat.le_of_ble_eq_true rfl) dX13_walk_27 (fun H locs hP hD hS => ?_)
  have hP := cP_ (mw_22 ad N cI cZ cJ (wA (wA (wA (wA (wA v 0 47 0) 0 48 0) 0 49 (-1)) 0 12 0) 0 15 0) 0) hP
  have hD := cD_ (mw_22 ad N cI cZ cJ (wA (wA (wA (wA (wA v 0 47 0) 0 48 0) 0 49 (-1)) 0 12 0) 0 15 0) 0) hD
  refine lv_aload_n hx hb dX13_walk_30 rfl (lv_at hl 0 rfl) ?_
  refine lv_iconst (v := 0) hx hb dX13_walk_31 (by decide) ?_
  refine va_put (D := (dC, dI)) (ci := 16) (fs := mF ad (wA (wA (wA (wA (wA (wA v 0 47 0) 0 48 0) 0 49 (-1)) 0 12 0) 0 15 0) 0 22 0)) (v := .int 0) (ty := .int) (C := RX13) (T := TX13) (N := 124) hx hb ht itX13 tyX13 tyX13_ok nmX13 hown hK hP hD hS 0 rfl rfl 27 (by decide) (ht _ tw_48) (fun _ h9 => h9) rfl (by decide +kernel) rfl rfl (Nat.le_of_ble_eq_true rfl) dX13_walk_32 (fun H locs hP hD hS => ?_)
  have hP := cP_ (mw_27 ad N cI cZ cJ (wA (wA (wA (wA (wA (wA v 0 47 0) 0 48 0) 0 49 (-1)) 0 12 0) 0 15 0) 0 22 0) 0) hP
  have hD := cD_ (mw_27 ad N cI cZ cJ (wA (wA (wA (wA (wA (wA v 0 47 0) 0 48 0) 0 49 (-1)) 0 12 0) 0 15 0) 0 22 0) 0) hD
  obtain ⟨u1, hu2⟩ : ∃ z, z = (wA (wA (wA (wA (wA (wA (wA v 0 47 0) 0 48 0) 0 49 (-1)) 0 12 0) 0 15 0) 0 22 0) 0 27 0) := ⟨_, rfl⟩
  have fr2 : FG [12, 15, 22, 27, 47, 48, 49] [0] v u1 := by rw [hu2]; exact (FG.f (FG.f (FG.f (FG.f (FG.f (FG.f (FG.f (FG.rf _) 0 (by decide)) 0 (by decide)) (-1) (by decide)) 0 (by decide)) 0 (by decide)) 0 (by decide)) 0 (by decide))
  rw [← hu2] at hP hD
  refine lv_aload_n hx hb dX13_walk_35 rfl (lv_at hl 0 rfl) ?_
  refine lv_iconst (v := 0) hx hb dX13_walk_36 (by decide) ?_
  refine va_put (D := (dC, dI)) (ci := 16) (fs := mF ad u1) (v := .int 0) (ty := .int) (C := RX13) (T := TX13) (N := 124) hx hb ht itX13 tyX13 tyX13_ok nmX13 hown hK hP hD hS 0 rfl rfl 28 (by decide) (ht _ tw_198) (fun _ h9 => h9) rfl (by decide +kernel) rfl rfl (Nat.le_of_ble_eq_true rfl) dX13_walk_37 (fun H locs hP hD hS => ?_)
  have hP := cP_ (mw_28 ad N cI cZ cJ u1 0) hP
  have hD := cD_ (mw_28 ad N cI cZ cJ u1 0) hD
  refine lv_aload_n hx hb dX13_walk_40 rfl (lv_at hl 0 rfl) ?_
  refine lv_iconst (v := 0) hx hb dX13_walk_41 (by decide) ?_
  refine va_put (D := (dC, dI)) (ci := 16) (fs := mF ad (wA u1 0 28 0)) (v := .int 0) (ty := .int) (C := RX13) (T := TX13) (N := 124) hx hb ht itX13 tyX13 tyX13_ok nmX13 hown hK hP hD hS 0 rfl rfl 39 (by decide) (ht _ tw_105) (fun _ h9 => h9) rfl (by decide +kernel) rfl rfl (Nat.le_of_ble_eq_true rfl) dX13_walk_42 (fun H locs hP hD hS => ?_)
  have hP := cP_ (mw_39 ad N cI cZ cJ (wA u1 0 28 0) 0) hP
  have hD := cD_ (mw_39 ad N cI cZ cJ (wA u1 0 28 0) 0) hD
  refine lv_aload_n hx hb dX13_walk_45 rfl (lv_at hl 0 rfl) ?_
  refine lv_iconst (v := 0) hx hb dX13_walk_46 (by decide) ?_
  refine va_put (D := (dC, dI)) (ci := 16) (fs := mF ad (wA (wA u1 0 28 0) 0 39 0)) (v := .int 0) (ty := .int) (C := RX13) (T := TX13) (N := 124) hx hb ht itX13 tyX13 tyX13_ok nmX13 hown hK hP hD hS 0 rfl rfl 43 (by decide) (ht _ tw_14) (fun _ h9 => h9) rfl (by decide +kernel) rfl rfl (Nat.le_of_ble_eq_true rfl) dX13_walk_47 (fun H locs hP hD hS => ?_)
  have hP := cP_ (mw_43 ad N cI cZ cJ (wA (wA u1 0 28 0) 0 39 0) 0) hP
  have hD := cD_ (mw_43 ad N cI cZ cJ (wA (wA u1 0 28 0) 0 39 0) 0) hD
  refine lv_aload_n hx hb dX13_walk_50 rfl (lv_at hl 0 rfl) ?_
  refine lv_iconst (v := 0) hx hb dX13_walk_51 (by decide) ?_
  refine va_put (D := (dC, dI)) (ci := 16) (fs := mF ad (wA (wA (wA u1 0 28 0) 0 39 0) 0 43 0)) (v := .int 0) (ty := .boolean) (C := RX13) (T := TX13) (N := 124) hx hb ht itX13 tyX13 tyX13_ok nmX13 hown hK hP hD hS 0 rfl rfl 44 (by decide) (ht _ tw_54) (fun _ h9 => h9) rfl (by decide +kernel) rfl rfl (Nat.le_of_ble_eq_true rfl) dX13_walk_52 (fun H locs hP hD hS => ?_)
  have hP := cP_ (mw_44 ad N cI cZ cJ (wA (wA (wA u1 0 28 0) 0 39 0) 0 43 0) 0) hP
  have hD := cD_ (mw_44 ad N cI cZ cJ (wA (wA (wA u1 0 28 0) 0 39 0) 0 43 0) 0) hD
  refine lv_aload_n hx hb dX13_walk_55 rfl (lv_at hl 0 rfl) ?_
  refine lv_iconst (v := 0) hx hb dX13_walk_56 (by decide) ?_
  refine va_put (D := (dC, dI)) (ci := 16) (fs := mF ad (wA (wA (wA (wA u1 0 28 0) 0 39 0) 0 43 0) 0 44 0)) (v := .int 0) (ty := .boolean) (C := RX13) (T := TX13) (N := 124) hx hb ht itX13 tyX13 tyX13_ok nmX13 hown hK hP hD hS 0 rfl rfl 45 (by decide) (ht _ tw_55) (fun _ h9 => h9) rfl (by decide +kernel) rfl rfl (Nat.le_of_ble_eq_true rfl) dX13_walk_57 (fun H locs hP hD hS => ?_)
  have hP := cP_ (mw_45 ad N cI cZ cJ (wA (wA (wA (wA u1 0 28 0) 0 39 0) 0 43 0) 0 44 0) 0) hP
  have hD := cD_ (mw_45 ad N cI cZ cJ (wA (wA (wA (wA u1 0 28 0) 0 39 0) 0 43 0) 0 44 0) 0) hD
  refine lv_aload_n hx hb dX13_walk_60 rfl (lv_at hl 0 rfl) ?_
  refine lv_bipush (v := 17) hx hb dX13_walk_61 (by decide) ?_
  refine lv_iconst (v := 0) hx hb dX13_walk_63 (by decide) ?_
  refine lv_iconst (v := 0) hx hb dX13_walk_64 (by decide) ?_
  refine cu_s (mW_nd _ _ _ _ _ _) (rn_S (n := 3) (As := [.int 17, .int 0, .int 0]) (rest := [.ref (ad 0)]) hx hb hml hown ht hKK hFx hP hD hS hA (c_m_addi l dC dI cI cB cZ cJ cR tb H.size (17 : Int32) (0 : Int32) (0 : Int32) ) tw_65 tw_66 (by decide +kernel) rfl rfl ⟨show 1 + 1 ≤ 1664 from om_f9f1b061a5, show 8 + (3 + 11) + 24 ≤ 28 * (1664) from om_5067697b29⟩ [] rfl rfl rfl hl.1 rfl (Nat.le_of_ble_eq_true rfl) dX13_walk_65 ⟨Nat.le_of_ble_eq_true rfl, Nat.le_of_ble_eq_true rfl⟩) hP hD hS hA (fun r5 H locs hw3 hP hD hS => ?_)
  refine W.widen (k := 0) (n := 0) (Nat.le_refl _) (Nat.le_refl _) ?_
  have q6 : (u1.1 0 12).toInt = (0 : Int) := by rw [hu2]; exact (show (0 : Int32).toInt = (0 : Int) from (show (0 : Int32).toInt = (0 : Int) by decide))
  refine cu_i (rn_V (n := 1) (As := [.int r5]) (rest := []) hx hb hml hown ht hKK hFx hP hD hS hA (c_m_emit l dC dI cI cB cZ cJ cR tb H.size ad N (wA (wA (wA (wA (wA u1 0 28 0) 0 39 0) 0 43 0) 0 44 0) 0 45 0) r5 (show 0 ≤ (u1.1 0 12).toInt ∧ (u1.1 0 12).toInt < 24000 from (om_e39b81f845 q6))) tw_8 tw_9 (by decide +kernel) rfl rfl ⟨show 0 + 1 ≤ 1664 from om_9487016820, show 8 + (2 + 11) + 0 ≤ 28 * (1664) from om_77f02031ef⟩ (List.range (mW ad N cI cZ cJ (wA (wA (wA (wA (wA u1 0 28 0) 0 39 0) 0 43 0) 0 44 0) 0 45 0)).length) (rg_map _) (mW_nd _ _ _ _ _ _) rfl rfl rfl rfl hl.1 rfl (Nat.le_of_ble_eq_true rfl) dX13_walk_68 ⟨Nat.le_of_ble_eq_true rfl, Nat.le_of_ble_eq_true rfl⟩) hP hD hS hA (fun r9 u8 H locs hw7 hP hD hS => ?_)
  obtain ⟨rfl, rfl⟩ := hw7
  have z10 : ((u1.1 0 12) + (1 : Int32)).toInt = ((u1.1 0 12).toInt) + (1 : Int) := add_z rfl (show (1 : Int32).toInt = (1 : Int) by decide) (om_ecc4735e39 q6) (om_0854866980 q6)
  have hP : va_P (dC, dI) vwCl (mW ad N cI cZ cJ (wA (wA (wA (wA (wA (wA (wA u1 0 28 0) 0 39 0) 0 43 0) 0 44 0) 0 45 0) 11 ((u1.1 0 12).toNatClampNeg) r5) 0 12 ((u1.1 0 12) + (1 : Int32)))) H := hP
  have hD : va_D A (mW ad N cI cZ cJ (wA (wA (wA (wA (wA (wA (wA u1 0 28 0) 0 39 0) 0 43 0) 0 44 0) 0 45 0) 11 ((u1.1 0 12).toNatClampNeg) r5) 0 12 ((u1.1 0 12) + (1 : Int32)))) := hD
  refine tp_i (y := (u1.1 0 12)) (rfl) ?_
  refine W.widen (k := 0) (n := 0) (Nat.le_refl _) (Nat.le_refl _) ?_
  obtain ⟨u11, hu12⟩ : ∃ z, z = (wA (wA (wA (wA (wA (wA (wA u1 0 28 0) 0 39 0) 0 43 0) 0 44 0) 0 45 0) 11 ((u1.1 0 12).toNatClampNeg) r5) 0 12 ((u1.1 0 12) + (1 : Int32))) := ⟨_, rfl⟩
  have fr12 : FG [12, 28, 39, 43, 44, 45] [0, 11] u1 u11 := by rw [hu12]; exact (FG.f (FG.a (FG.f (FG.f (FG.f (FG.f (FG.f (FG.rf _) 0 (by decide)) 0 (by decide)) 0 (by decide)) 0 (by decide)) 0 (by decide)) ((u1.1 0 12).toNatClampNeg) r5 (by decide) (by decide)) ((u1.1 0 12) + (1 : Int32)) (by decide))
  rw [← hu12] at hP hD
  refine lv_pop hx hb dX13_walk_71 rfl ?_
  refine lv_aload_n hx hb dX13_walk_72 rfl (lv_at hl 0 rfl) ?_
  refine lv_ldcw (v := 1048691) hx hb hown (ht _ tw_87) dX13_walk_73 ?_
  have q13 : (u11.1 0 12).toInt = (((u1.1 0 12).toInt) + (1 : Int)) := by rw [hu12]; exact (show ((u1.1 0 12) + (1 : Int32)).toInt = (((u1.1 0 12).toInt) + (1 : Int)) from z10)
  refine cu_i (rn_V (n := 1) (As := [.int 1048691]) (rest := []) hx hb hml hown ht hKK hFx hP hD hS hA (c_m_emit l dC dI cI cB cZ cJ cR tb H.size ad N u11 (1048691 : Int32) (show 0 ≤ (u11.1 0 12).toInt ∧ (u11.1 0 12).toInt < 24000 from (om_643678c928 q6 q13))) tw_8 tw_9 (by decide +kernel) rfl rfl ⟨show 0 + 1 ≤ 1664 from om_9487016820, show 8 + (2 + 11) + 0 ≤ 28 * (1664) from om_77f02031ef⟩ (List.range (mW ad N cI cZ cJ u11).length) (rg_map _) (mW_nd _ _ _ _ _ _) rfl rfl rfl rfl hl.1 rfl (Nat.le_of_ble_eq_true rfl) dX13_walk_76 ⟨Nat.le_of_ble_eq_true rfl, Nat.le_of_ble_eq_true rfl⟩) hP hD hS hA (fun r16 u15 H locs hw14 hP hD hS => ?_)
  obtain ⟨rfl, rfl⟩ := hw14
  have z17 : ((u11.1 0 12) + (1 : Int32)).toInt = ((u11.1 0 12).toInt) + (1 : Int) := add_z rfl (show (1 : Int32).toInt = (1 : Int) by decide) (om_ef25c8eb69 q6 q13) (om_7343d2f581 q6 q13)
  have hP : va_P (dC, dI) vwCl (mW ad N cI cZ cJ (wA (wA u11 11 ((u11.1 0 12).toNatClampNeg) (1048691 : Int32)) 0 12 ((u11.1 0 12) + (1 : Int32)))) H := hP
  have hD : va_D A (mW ad N cI cZ cJ (wA (wA u11 11 ((u11.1 0 12).toNatClampNeg) (1048691 : Int32)) 0 12 ((u11.1 0 12) + (1 : Int32)))) := hD
  refine tp_i (y := (u11.1 0 12)) (rfl) ?_
  refine W.widen (k := 0) (n := 0) (Nat.le_refl _) (Nat.le_refl _) ?_
  refine lv_pop hx hb dX13_walk_79 rfl ?_
  have q18 : (u1.1 0 27).toInt = (0 : Int) := by rw [hu2]; exact (show (0 : Int32).toInt = (0 : Int) from (show (0 : Int32).toInt = (0 : Int) by decide))
  have q19 : (u11.1 0 27).toInt = (u1.1 0 27).toInt := congrArg Int32.toInt (fr12.2.1 27 (by decide))
  have q20 : (u1.1 0 22).toInt = (0 : Int) := by rw [hu2]; exact (show (0 : Int32).toInt = (0 : Int) from (show (0 : Int32).toInt = (0 : Int) by decide))
  have q21 : (u11.1 0 22).toInt = (u1.1 0 22).toInt := congrArg Int32.toInt (fr12.2.1 22 (by decide))
  have q22 : (u11.1 0 39).toInt = (0 : Int) := by rw [hu12]; exact (show (0 : Int32).toInt = (0 : Int) from (show (0 : Int32).toInt = (0 : Int) by decide))
  have q23 : (u1.1 0 47).toInt = (0 : Int) := by rw [hu2]; exact (show (0 : Int32).toInt = (0 : Int) from (show (0 : Int32).toInt = (0 : Int) by decide))
  have q24 : (u11.1 0 47).toInt = (u1.1 0 47).toInt := congrArg Int32.toInt (fr12.2.1 47 (by decide))
  have q25 : (u1.1 0 48).toInt = (0 : Int) := by rw [hu2]; exact (show (0 : Int32).toInt = (0 : Int) from (show (0 : Int32).toInt = (0 : Int) by decide))
  have q26 : (u11.1 0 48).toInt = (u1.1 0 48).toInt := congrArg Int32.toInt (fr12.2.1 48 (by decide))
  have q27 : (u1.1 0 15).toInt = (0 : Int) := by rw [hu2]; exact (show (0 : Int32).toInt = (0 : Int) from (show (0 : Int32).toInt = (0 : Int) by decide))
  have q28 : (u11.1 0 15).toInt = (u1.1 0 15).toInt := congrArg Int32.toInt (fr12.2.1 15 (by decide))
  have q29 : (u11.1 0 43).toInt = (0 : Int) := by rw [hu12]; exact (show (0 : Int32).toInt = (0 : Int) from (show (0 : Int32).toInt = (0 : Int) by decide))
  have q30 : (u11.1 0 28).toInt = (0 : Int) := by rw [hu12]; exact (show (0 : Int32).toInt = (0 : Int) from (show (0 : Int32).toInt = (0 : Int) by decide))
  refine lpm_ (X := MS) (P := (fun (x9 : MS) (H : Heap) (locs : List Loc) (ls : Array Slot) => (Fr v x9) ∧ (0 ≤ (x9.1 0 47).toInt ∧ (x9.1 0 47).toInt ≤ 1500) ∧ ((x9.1 0 48).toInt = 0) ∧ (0 ≤ (x9.1 0 12).toInt ∧ (x9.1 0 12).toInt ≤ 15 * (x9.1 0 47).toInt + 2) ∧ (0 ≤ (x9.1 0 15).toInt ∧ (x9.1 0 15).toInt ≤ 10 * (x9.1 0 47).toInt + 0) ∧ (0 ≤ (x9.1 0 43).toInt ∧ (x9.1 0 43).toInt ≤ 15 * (x9.1 0 47).toInt + 0) ∧ (0 ≤ (x9.1 0 39).toInt ∧ (x9.1 0 39).toInt ≤ 1 * (x9.1 0 47).toInt + 0) ∧ (0 ≤ (x9.1 0 27).toInt ∧ (x9.1 0 27).toInt ≤ 60) ∧ (0 ≤ (x9.1 0 22).toInt ∧ (x9.1 0 22).toInt ≤ 40) ∧ (0 ≤ (x9.1 0 28).toInt ∧ (x9.1 0 28).toInt ≤ 1000 * (x9.1 0 27).toInt) ∧ (AR 16 0 1500 x9) ∧ (AR 17 0 8 x9) ∧ (AR 18 0 2008 x9) ∧ (AR 19 0 23900 x9) ∧ (AR 20 0 15999 x9) ∧ (AR 21 0 500 x9) ∧ (AR 23 0 1500 x9) ∧ (AR 24 0 1000 x9) ∧ (AR 25 0 60000 x9) ∧ (AR 29 0 1500 x9) ∧ (AR 35 0 1500 x9) ∧ (AR 37 0 23999 x9) ∧ (AR 38 0 15999 x9) ∧ (AR 40 0 23999 x9) ∧ (FX x9) ∧ (GF x9) ∧ (PG x9) ∧ (IV v → IV x9) ∧ va_P (dC, dI) vwCl (mW ad N cI cZ cJ x9) H ∧ va_D A (mW ad N cI cZ cJ x9) ∧ va_S A s.heap H locs ∧ lv_has ls 3 [(0, .ref (ad 0))])) (fun x9 => (1500 - (x9.1 0 47).toInt).toNat) 80 (fun w80 H locs ls hh ih80 => ?_) (wA (wA u11 11 ((u11.1 0 12).toNatClampNeg) (1048691 : Int32)) 0 12 ((u11.1 0 12) + (1 : Int32))) _ _ _ ⟨(show Fr v (wA (wA u11 11 ((u11.1 0 12).toNatClampNeg) (1048691 : Int32)) 0 12 ((u11.1 0 12) + (1 : Int32))) from (FG.f (FG.a (FG.tr (FG.tr (FG.rf _) (FG.up fr2 (by decide) (by decide))) (FG.up fr12 (by decide) (by decide))) ((u11.1 0 12).toNatClampNeg) (1048691 : Int32) (by decide) (by decide)) ((u11.1 0 12) + (1 : Int32)) (by decide))), (show 0 ≤ (u11.1 0 47).toInt ∧ (u11.1 0 47).toInt ≤ 1500 from (om_568954a174 q23 q24)), (show (u11.1 0 48).toInt = 0 from (om_f275a5f5ea q25 q26)), (show 0 ≤ ((u11.1 0 12) + (1 : Int32)).toInt ∧ ((u11.1 0 12) + (1 : Int32)).toInt ≤ 15 * (u11.1 0 47).toInt + 2 from (om_bac1b28346 q6 q23 q13 q24 z17)), (show 0 ≤ (u11.1 0 15).toInt ∧ (u11.1 0 15).toInt ≤ 10 * (u11.1 0 47).toInt + 0 from (om_292bd0bbe7 q27 q23 q28 q24)), (show 0 ≤ (u11.1 0 43).toInt ∧ (u11.1 0 43).toInt ≤ 15 * (u11.1 0 47).toInt + 0 from (om_03207a06ee q23 q29 q24)), (show 0 ≤ (u11.1 0 39).toInt ∧ (u11.1 0 39).toInt ≤ 1 * (u11.1 0 47).toInt + 0 from (om_600bb3c0fa q23 q22 q24)), (show 0 ≤ (u11.1 0 27).toInt ∧ (u11.1 0 27).toInt ≤ 60 from (om_d3584fc8d3 q18 q19)), (show 0 ≤ (u11.1 0 22).toInt ∧ (u11.1 0 22).toInt ≤ 40 from (om_4d0e1459e0 q20 q21)), (show 0 ≤ (u11.1 0 28).toInt ∧ (u11.1 0 28).toInt ≤ 1000 * (u11.1 0 27).toInt from (om_c43a62151c q18 q19 q30)), (show AR 16 0 1500 (wA (wA u11 11 ((u11.1 0 12).toNatClampNeg) (1048691 : Int32)) 0 12 ((u11.1 0 12) + (1 : Int32))) from (AR.o (AR.o (show AR 16 0 1500 u11 from AR.fr (fl := [12, 28, 39, 43, 44, 45]) (al := [0, 11]) fr12 (by decide) (show AR 16 0 1500 u1 from AR.fr (fl := [12, 15, 22, 27, 47, 48, 49]) (al := [0]) fr2 (by decide) a16)) (by decide)) (by decide))), (show AR 17 0 8 (wA (wA u11 11 ((u11.1 0 12).toNatClampNeg) (1048691 : Int32)) 0 12 ((u11.1 0 12) + (1 : Int32))) from (AR.o (AR.o (show AR 17 0 8 u11 from AR.fr (fl := [12, 28, 39, 43, 44, 45]) (al := [0, 11]) fr12 (by decide) (show AR 17 0 8 u1 from AR.fr (fl := [12, 15, 22, 27, 47, 48, 49]) (al := [0]) fr2 (by decide) a17)) (by decide)) (by decide))), (show AR 18 0 2008 (wA (wA u11 11 ((u11.1 0 12).toNatClampNeg) (1048691 : Int32)) 0 12 ((u11.1 0 12) + (1 : Int32))) from (AR.o (AR.o (show AR 18 0 2008 u11 from AR.fr (fl := [12, 28, 39, 43, 44, 45]) (al := [0, 11]) fr12 (by decide) (show AR 18 0 2008 u1 from AR.fr (fl := [12, 15, 22, 27, 47, 48, 49]) (al := [0]) fr2 (by decide) a18)) (by decide)) (by decide))), (show AR 19 0 23900 (wA (wA u11 11 ((u11.1 0 12).toNatClampNeg) (1048691 : Int32)) 0 12 ((u11.1 0 12) + (1 : Int32))) from (AR.o (AR.o (show AR 19 0 23900 u11 from AR.fr (fl := [12, 28, 39, 43, 44, 45]) (al := [0, 11]) fr12 (by decide) (show AR 19 0 23900 u1 from AR.fr (fl := [12, 15, 22, 27, 47, 48, 49]) (al := [0]) fr2 (by decide) a19)) (by decide)) (by decide))), (show AR 20 0 15999 (wA (wA u11 11 ((u11.1 0 12).toNatClampNeg) (1048691 : Int32)) 0 12 ((u11.1 0 12) + (1 : Int32))) from (AR.o (AR.o (show AR 20 0 15999 u11 from AR.fr (fl := [12, 28, 39, 43, 44, 45]) (al := [0, 11]) fr12 (by decide) (show AR 20 0 15999 u1 from AR.fr (fl := [12, 15, 22, 27, 47, 48, 49]) (al := [0]) fr2 (by decide) a20)) (by decide)) (by decide))), (show AR 21 0 500 (wA (wA u11 11 ((u11.1 0 12).toNatClampNeg) (1048691 : Int32)) 0 12 ((u11.1 0 12) + (1 : Int32))) from (AR.o (AR.o (show AR 21 0 500 u11 from AR.fr (fl := [12, 28, 39, 43, 44, 45]) (al := [0, 11]) fr12 (by decide) (show AR 21 0 500 u1 from AR.fr (fl := [12, 15, 22, 27, 47, 48, 49]) (al := [0]) fr2 (by decide) a21)) (by decide)) (by decide))), (show AR 23 0 1500 (wA (wA u11 11 ((u11.1 0 12).toNatClampNeg) (1048691 : Int32)) 0 12 ((u11.1 0 12) + (1 : Int32))) from (AR.o (AR.o (show AR 23 0 1500 u11 from AR.fr (fl := [12, 28, 39, 43, 44, 45]) (al := [0, 11]) fr12 (by decide) (show AR 23 0 1500 u1 from AR.fr (fl := [12, 15, 22, 27, 47, 48, 49]) (al := [0]) fr2 (by decide) a23)) (by decide)) (by decide))), (show AR 24 0 1000 (wA (wA u11 11 ((u11.1 0 12).toNatClampNeg) (1048691 : Int32)) 0 12 ((u11.1 0 12) + (1 : Int32))) from (AR.o (AR.o (show AR 24 0 1000 u11 from AR.fr (fl := [12, 28, 39, 43, 44, 45]) (al := [0, 11]) fr12 (by decide) (show AR 24 0 1000 u1 from AR.fr (fl := [12, 15, 22, 27, 47, 48, 49]) (al := [0]) fr2 (by decide) a24)) (by decide)) (by decide))), (show AR 25 0 60000 (wA (wA u11 11 ((u11.1 0 12).toNatClampNeg) (1048691 : Int32)) 0 12 ((u11.1 0 12) + (1 : Int32))) from (AR.o (AR.o (show AR 25 0 60000 u11 from AR.fr (fl := [12, 28, 39, 43, 44, 45]) (al := [0, 11]) fr12 (by decide) (show AR 25 0 60000 u1 from AR.fr (fl := [12, 15, 22, 27, 47, 48, 49]) (al := [0]) fr2 (by decide) a25)) (by decide)) (by decide))), (show AR 29 0 1500 (wA (wA u11 11 ((u11.1 0 12).toNatClampNeg) (1048691 : Int32)) 0 12 ((u11.1 0 12) + (1 : Int32))) from (AR.o (AR.o (show AR 29 0 1500 u11 from AR.fr (fl := [12, 28, 39, 43, 44, 45]) (al := [0, 11]) fr12 (by decide) (show AR 29 0 1500 u1 from AR.fr (fl := [12, 15, 22, 27, 47, 48, 49]) (al := [0]) fr2 (by decide) a29)) (by decide)) (by decide))), (show AR 35 0 1500 (wA (wA u11 11 ((u11.1 0 12).toNatClampNeg) (1048691 : Int32)) 0 12 ((u11.1 0 12) + (1 : Int32))) from (AR.o (AR.o (show AR 35 0 1500 u11 from AR.fr (fl := [12, 28, 39, 43, 44, 45]) (al := [0, 11]) fr12 (by decide) (show AR 35 0 1500 u1 from AR.fr (fl := [12, 15, 22, 27, 47, 48, 49]) (al := [0]) fr2 (by decide) a35)) (by decide)) (by decide))), (show AR 37 0 23999 (wA (wA u11 11 ((u11.1 0 12).toNatClampNeg) (1048691 : Int32)) 0 12 ((u11.1 0 12) + (1 : Int32))) from (AR.o (AR.o (show AR 37 0 23999 u11 from AR.fr (fl := [12, 28, 39, 43, 44, 45]) (al := [0, 11]) fr12 (by decide) (show AR 37 0 23999 u1 from AR.fr (fl := [12, 15, 22, 27, 47, 48, 49]) (al := [0]) fr2 (by decide) a37)) (by decide)) (by decide))), (show AR 38 0 15999 (wA (wA u11 11 ((u11.1 0 12).toNatClampNeg) (1048691 : Int32)) 0 12 ((u11.1 0 12) + (1 : Int32))) from (AR.o (AR.o (show AR 38 0 15999 u11 from AR.fr (fl := [12, 28, 39, 43, 44, 45]) (al := [0, 11]) fr12 (by decide) (show AR 38 0 15999 u1 from AR.fr (fl := [12, 15, 22, 27, 47, 48, 49]) (al := [0]) fr2 (by decide) a38)) (by decide)) (by decide))), (show AR 40 0 23999 (wA (wA u11 11 ((u11.1 0 12).toNatClampNeg) (1048691 : Int32)) 0 12 ((u11.1 0 12) + (1 : Int32))) from (AR.o (AR.o (show AR 40 0 23999 u11 from AR.fr (fl := [12, 28, 39, 43, 44, 45]) (al := [0, 11]) fr12 (by decide) (show AR 40 0 23999 u1 from AR.fr (fl := [12, 15, 22, 27, 47, 48, 49]) (al := [0]) fr2 (by decide) a40)) (by decide)) (by decide))), (show FX (wA (wA u11 11 ((u11.1 0 12).toNatClampNeg) (1048691 : Int32)) 0 12 ((u11.1 0 12) + (1 : Int32))) from (FX.o (FX.o (show FX u11 from FX.fr (fl := [12, 28, 39, 43, 44, 45]) (al := [0, 11]) fr12 (by decide) (by decide) (show FX u1 from FX.fr (fl := [12, 15, 22, 27, 47, 48, 49]) (al := [0]) fr2 (by decide) (by decide) fx)) (by decide) (by decide)) (by decide) (by decide))), (show GF (wA (wA u11 11 ((u11.1 0 12).toNatClampNeg) (1048691 : Int32)) 0 12 ((u11.1 0 12) + (1 : Int32))) from (GF.nil (show (u11.1 0 27).toInt ≤ 0 from (om_f951bd2403 q18 q19)))), (show PG (wA (wA u11 11 ((u11.1 0 12).toNatClampNeg) (1048691 : Int32)) 0 12 ((u11.1 0 12) + (1 : Int32))) from (PG.new (show (u11.1 0 22).toInt = 0 from (om_f275a5f5ea q20 q21)) (show (u11.1 0 39).toInt = 0 from (om_770ca75dd5 q22)))), (show IV v → IV (wA (wA u11 11 ((u11.1 0 12).toNatClampNeg) (1048691 : Int32)) 0 12 ((u11.1 0 12) + (1 : Int32))) from (fun hiv => (IV.o (IV.o (IV.fr (fl := [12, 28, 39, 43, 44, 45]) (al := [0, 11]) fr12 (by decide) (IV.fr (fl := [12, 15, 22, 27, 47, 48, 49]) (al := [0]) fr2 (by decide) hiv)) (by decide)) (by decide)))), hP, hD, hS, lv_sub hl [0] rfl⟩
  obtain ⟨fwL80, ztL80, zopL80, zwsL80, zosL80, zfsL80, zcsL80, zglL80, zfnL80, znuL80, a16L80, a17L80, a18L80, a19L80, a20L80, a21L80, a23L80, a24L80, a25L80, a29L80, a35L80, a37L80, a38L80, a40L80, fxL80, gfL80, pgL80, ivL80, hP, hD, hS, hl⟩ := hh
  have fwL80 : Fr v w80 := fwL80
  have ztL80 : 0 ≤ (w80.1 0 47).toInt ∧ (w80.1 0 47).toInt ≤ 1500 := ztL80
  have zopL80 : (w80.1 0 48).toInt = 0 := zopL80
  have zwsL80 : 0 ≤ (w80.1 0 12).toInt ∧ (w80.1 0 12).toInt ≤ 15 * (w80.1 0 47).toInt + 2 := zwsL80
  have zosL80 : 0 ≤ (w80.1 0 15).toInt ∧ (w80.1 0 15).toInt ≤ 10 * (w80.1 0 47).toInt + 0 := zosL80
  have zfsL80 : 0 ≤ (w80.1 0 43).toInt ∧ (w80.1 0 43).toInt ≤ 15 * (w80.1 0 47).toInt + 0 := zfsL80
  have zcsL80 : 0 ≤ (w80.1 0 39).toInt ∧ (w80.1 0 39).toInt ≤ 1 * (w80.1 0 47).toInt + 0 := zcsL80
  have zglL80 : 0 ≤ (w80.1 0 27).toInt ∧ (w80.1 0 27).toInt ≤ 60 := zglL80
  have zfnL80 : 0 ≤ (w80.1 0 22).toInt ∧ (w80.1 0 22).toInt ≤ 40 := zfnL80
  have znuL80 : 0 ≤ (w80.1 0 28).toInt ∧ (w80.1 0 28).toInt ≤ 1000 * (w80.1 0 27).toInt := znuL80
  have a16L80 : AR 16 0 1500 w80 := a16L80
  have a17L80 : AR 17 0 8 w80 := a17L80
  have a18L80 : AR 18 0 2008 w80 := a18L80
  have a19L80 : AR 19 0 23900 w80 := a19L80
  have a20L80 : AR 20 0 15999 w80 := a20L80
  have a21L80 : AR 21 0 500 w80 := a21L80
  have a23L80 : AR 23 0 1500 w80 := a23L80
  have a24L80 : AR 24 0 1000 w80 := a24L80
  have a25L80 : AR 25 0 60000 w80 := a25L80
  have a29L80 : AR 29 0 1500 w80 := a29L80
  have a35L80 : AR 35 0 1500 w80 := a35L80
  have a37L80 : AR 37 0 23999 w80 := a37L80
  have a38L80 : AR 38 0 15999 w80 := a38L80
  have a40L80 : AR 40 0 23999 w80 := a40L80
  have fxL80 : FX w80 := fxL80
  have gfL80 : GF w80 := gfL80
  have pgL80 : PG w80 := pgL80
  have ivL80 : IV v → IV w80 := ivL80
  have hP : va_P (dC, dI) vwCl (mW ad N cI cZ cJ w80) H := hP
  have hD : va_D A (mW ad N cI cZ cJ w80) := hD
  have hl : lv_has ls 3 [(0, .ref (ad 0))] := hl
  refine lv_aload_n hx hb dX13_walk_80 rfl (lv_at hl 0 rfl) ?_
  refine va_get (D := (dC, dI)) (ci := 16) (fs := mF ad w80) (v := .ref (ad 6)) (C := RX13) (T := TX13) (N := 124) hx hb ht itX13 hown hK hP 0 rfl rfl 6 (by decide) (ht _ tw_23) (fun _ h9 => h9) rfl dX13_walk_81 ?_
  refine lv_aload_n hx hb dX13_walk_84 rfl (lv_at hl 0 rfl) ?_
  refine va_get (D := (dC, dI)) (ci := 16) (fs := mF ad w80) (v := .int (w80.1 0 47)) (C := RX13) (T := TX13) (N := 124) hx hb ht itX13 hown hK hP 0 rfl rfl 47 (by decide) (ht _ tw_24) (fun _ h9 => h9) rfl dX13_walk_85 ?_
  refine va_iald (D := (dC, dI)) (f := (w80.1 6)) hx hb hK hP 3 0 rfl rfl (in_y (a := (w80.1 0 47).toInt) (b := 4002) rfl (om_e33521859d zfsL80) (om_449eb7e9bb ztL80) rfl) dX13_walk_88 ?_
  refine lv_if_eq (tgt := 99) hx hb dX13_walk_89 (by decide) (fun h31 => ?_) (fun h31 => ?_)
  · have z32 : ((w80.1 6) (w80.1 0 47).toNatClampNeg).toInt = (0 : Int) := eq_z rfl (show (0 : Int32).toInt = (0 : Int) by decide) h31
    refine lv_iconst (v := 0) hx hb dX13_walk_99 (by decide) ?_
    refine lv_istore_n (lv' := [(1, .int 0), (0, .ref (ad 0))]) hx hb dX13_walk_100 rfl hl (by decide) rfl (fun ls hl => ?_)
    refine lpm_ (X := Int32) (P := (fun (x9 : Int32) (H : Heap) (locs : List Loc) (ls : Array Slot) => (0 ≤ x9.toInt ∧ x9.toInt ≤ (w80.1 0 39).toInt) ∧ (∀ c : Nat, (c : Int) < x9.toInt → CK w80 c) ∧ va_P (dC, dI) vwCl (mW ad N cI cZ cJ w80) H ∧ va_D A (mW ad N cI cZ cJ w80) ∧ va_S A s.heap H locs ∧ lv_has ls 3 [(1, .int x9), (0, .ref (ad 0))])) (fun x9 => (4000 - x9.toInt).toNat) 101 (fun ka H locs ls hh ih101 => ?_) 0 _ _ _ ⟨(show 0 ≤ (0 : Int) ∧ (0 : Int) ≤ (w80.1 0 39).toInt from (om_c63289abb5 zcsL80)), (show ∀ c : Nat, (c : Int) < (0 : Int) → CK w80 c from (fun c9 h9 => by omega)), hP, hD, hS, lv_sub hl [0, 1] rfl⟩
    obtain ⟨f1L101, ckL101, hP, hD, hS, hl⟩ := hh
    have f1L101 : 0 ≤ ka.toInt ∧ ka.toInt ≤ (w80.1 0 39).toInt := f1L101
    have ckL101 : ∀ c : Nat, (c : Int) < ka.toInt → CK w80 c := ckL101
    have hl : lv_has ls 3 [(1, .int ka), (0, .ref (ad 0))] := hl
    refine lv_iload_n hx hb dX13_walk_101 rfl (lv_at hl 0 rfl) ?_
    refine lv_aload_n hx hb dX13_walk_102 rfl (lv_at hl 1 rfl) ?_
    refine va_get (D := (dC, dI)) (ci := 16) (fs := mF ad w80) (v := .int (w80.1 0 39)) (C := RX13) (T := TX13) (N := 124) hx hb ht itX13 hown hK hP 0 rfl rfl 39 (by decide) (ht _ tw_105) (fun _ h9 => h9) rfl dX13_walk_103 ?_
    refine lv_icmp_ge (tgt := 169) hx hb dX13_walk_106 (by decide) (fun h33 => ?_) (fun h33 => ?_)
    · have z34 : (w80.1 0 39).toInt ≤ ka.toInt := le_z rfl rfl h33
      refine lv_iconst (v := 0) hx hb dX13_walk_169 (by decide) ?_
      refine lv_istore_n (lv' := [(1, .int 0), (0, .ref (ad 0))]) hx hb dX13_walk_170 rfl hl (by decide) rfl (fun ls hl => ?_)
      refine lpm_ (X := Int32 × MS) (P := (fun (x9 : Int32 × MS) (H : Heap) (locs : List Loc) (ls : Array Slot) => (FG [] [11, 14] w80 x9.2) ∧ (0 ≤ x9.1.toInt ∧ x9.1.toInt ≤ (w80.1 0 39).toInt) ∧ (RW w80 (x9.2.1 14) x9.1) ∧ va_P (dC, dI) vwCl (mW ad N cI cZ cJ x9.2) H ∧ va_D A (mW ad N cI cZ cJ x9.2) ∧ va_S A s.heap H locs ∧ lv_has ls 3 [(1, .int x9.1), (0, .ref (ad 0))])) (fun x9 => (4000 - x9.1.toInt).toNat) 171 (fun x9 H locs ls hh ih171 => ?_) (0, w80) _ _ _ ⟨(show FG [] [11, 14] w80 w80 from (FG.rf _)), (show 0 ≤ (0 : Int) ∧ (0 : Int) ≤ (w80.1 0 39).toInt from (om_c63289abb5 zcsL80)), (show RW w80 (w80.1 14) (0 : Int32) from (RW.nil (by decide))), hP, hD, hS, lv_sub hl [0, 1] rfl⟩
      obtain ⟨kb, w171⟩ := x9
      obtain ⟨fwL171, e1L171, rwL171, hP, hD, hS, hl⟩ := hh
      have fwL171 : FG [] [11, 14] w80 w171 := fwL171
      have e1L171 : 0 ≤ kb.toInt ∧ kb.toInt ≤ (w80.1 0 39).toInt := e1L171
      have rwL171 : RW w80 (w171.1 14) kb := rwL171
      have hP : va_P (dC, dI) vwCl (mW ad N cI cZ cJ w171) H := hP
      have hD : va_D A (mW ad N cI cZ cJ w171) := hD
      have hl : lv_has ls 3 [(1, .int kb), (0, .ref (ad 0))] := hl
      refine lv_iload_n hx hb dX13_walk_171 rfl (lv_at hl 0 rfl) ?_
      refine lv_aload_n hx hb dX13_walk_172 rfl (lv_at hl 1 rfl) ?_
      refine va_get (D := (dC, dI)) (ci := 16) (fs := mF ad w171) (v := .int (w171.1 0 39)) (C := RX13) (T := TX13) (N := 124) hx hb ht itX13 hown hK hP 0 rfl rfl 39 (by decide) (ht _ tw_105) (fun _ h9 => h9) rfl dX13_walk_173 ?_
      refine lv_icmp_ge (tgt := 225) hx hb dX13_walk_176 (by decide) (fun h35 => ?_) (fun h35 => ?_)
      · have z36 : (w171.1 0 39).toInt ≤ kb.toInt := le_z rfl rfl h35
        refine lv_aload_n hx hb dX13_walk_225 rfl (lv_at hl 1 rfl) ?_
        refine va_get (D := (dC, dI)) (ci := 16) (fs := mF ad w171) (v := .int (w171.1 0 44)) (C := RX13) (T := TX13) (N := 124) hx hb ht itX13 hown hK hP 0 rfl rfl 44 (by decide) (ht _ tw_54) (fun _ h9 => h9) rfl dX13_walk_226 ?_
        refine lv_if_eq (tgt := 236) hx hb dX13_walk_229 (by decide) (fun h37 => ?_) (fun h37 => ?_)
        · have z38 : (w171.1 0 44).toInt = (0 : Int) := eq_z rfl (show (0 : Int32).toInt = (0 : Int) by decide) h37
          refine lv_aload_n hx hb dX13_walk_236 rfl (lv_at hl 1 rfl) ?_
          refine va_get (D := (dC, dI)) (ci := 16) (fs := mF ad w171) (v := .int (w171.1 0 45)) (C := RX13) (T := TX13) (N := 124) hx hb ht itX13 hown hK hP 0 rfl rfl 45 (by decide) (ht _ tw_55) (fun _ h9 => h9) rfl dX13_walk_237 ?_
          refine lv_if_eq (tgt := 247) hx hb dX13_walk_240 (by decide) (fun h39 => ?_) (fun h39 => ?_)
          · have z40 : (w171.1 0 45).toInt = (0 : Int) := eq_z rfl (show (0 : Int32).toInt = (0 : Int) by decide) h39
            refine lv_aload_n hx hb dX13_walk_247 rfl (lv_at hl 1 rfl) ?_
            refine lv_iconst (v := 4) hx hb dX13_walk_248 (by decide) ?_
            refine lv_aload_n hx hb dX13_walk_249 rfl (lv_at hl 1 rfl) ?_
            refine va_get (D := (dC, dI)) (ci := 16) (fs := mF ad w171) (v := .int (w171.1 0 12)) (C := RX13) (T := TX13) (N := 124) hx hb ht itX13 hown hK hP 0 rfl rfl 12 (by decide) (ht _ tw_7) (fun _ h9 => h9) rfl dX13_walk_250 ?_
            refine lv_aload_n hx hb dX13_walk_253 rfl (lv_at hl 1 rfl) ?_
            refine va_get (D := (dC, dI)) (ci := 16) (fs := mF ad w171) (v := .int (w171.1 0 28)) (C := RX13) (T := TX13) (N := 124) hx hb ht itX13 hown hK hP 0 rfl rfl 28 (by decide) (ht _ tw_198) (fun _ h9 => h9) rfl dX13_walk_254 ?_
            refine lv_iadd hx hb dX13_walk_257 ?_
            have q41 : (w171.1 0 12).toInt = (w80.1 0 12).toInt := congrArg Int32.toInt ((fwL171.2.1 12 (by decide)).trans (show w80.1 0 12 = (w80.1 0 12) by rfl))
            have q42 : (w171.1 0 28).toInt = (w80.1 0 28).toInt := congrArg Int32.toInt ((fwL171.2.1 28 (by decide)).trans (show w80.1 0 28 = (w80.1 0 28) by rfl))
            have z43 : ((w171.1 0 12) + (w171.1 0 28)).toInt = ((w171.1 0 12).toInt) + ((w171.1 0 28).toInt) := add_z rfl rfl (om_5f1f1dae2f zwsL80 znuL80 q41 q42) (om_2ef4bac26f ztL80 zwsL80 zglL80 znuL80 q41 q42)
            refine lv_imul hx hb dX13_walk_258 ?_
            have z44 : ((4 : Int32) * ((w171.1 0 12) + (w171.1 0 28))).toInt = (4 : Int) * (((w171.1 0 12).toInt) + ((w171.1 0 28).toInt)) := mul_z (show (4 : Int32).toInt = (4 : Int) by decide) z43 (om_fae2021ffc zwsL80 znuL80 q41 q42) (om_0345243984 ztL80 zwsL80 zglL80 znuL80 q41 q42)
            refine va_put (D := (dC, dI)) (ci := 16) (fs := mF ad w171) (v := .int ((4 : Int32) * ((w171.1 0 12) + (w171.1 0 28)))) (ty := .int) (C := RX13) (T := TX13) (N := 124) hx hb ht itX13 tyX13 tyX13_ok nmX13 hown hK hP hD hS 0 rfl rfl 69 (by decide) (ht _ tw_204) (fun _ h9 => h9) rfl (by decide +kernel) rfl rfl (Nat.le_of_ble_eq_true rfl) dX13_walk_259 (fun H locs hP hD hS => ?_)
            have hP := cP_ (mw_69 ad N cI cZ cJ w171 ((4 : Int32) * ((w171.1 0 12) + (w171.1 0 28)))) hP
            have hD := cD_ (mw_69 ad N cI cZ cJ w171 ((4 : Int32) * ((w171.1 0 12) + (w171.1 0 28)))) hD
            refine lv_aload_n hx hb dX13_walk_262 rfl (lv_at hl 1 rfl) ?_
            refine va_get (D := (dC, dI)) (ci := 16) (fs := mF ad (wA w171 0 69 ((4 : Int32) * ((w171.1 0 12) + (w171.1 0 28))))) (v := .int ((4 : Int32) * ((w171.1 0 12) + (w171.1 0 28)))) (C := RX13) (T := TX13) (N := 124) hx hb ht itX13 hown hK hP 0 rfl rfl 69 (by decide) (ht _ tw_204) (fun _ h9 => h9) rfl dX13_walk_263 ?_
            refine lv_bipush (v := 64) hx hb dX13_walk_266 (by decide) ?_
            refine lv_iadd hx hb dX13_walk_268 ?_
            have z45 : (((4 : Int32) * ((w171.1 0 12) + (w171.1 0 28))) + (64 : Int32)).toInt = ((4 : Int) * (((w171.1 0 12).toInt) + ((w171.1 0 28).toInt))) + (64 : Int) := add_z z44 (show (64 : Int32).toInt = (64 : Int) by decide) (om_13786f5a9d zwsL80 znuL80 q41 q42) (om_fefddc7fb1 ztL80 zwsL80 zglL80 znuL80 q41 q42)
            refine lv_iconst (v := 4) hx hb dX13_walk_269 (by decide) ?_
            refine lv_aload_n hx hb dX13_walk_270 rfl (lv_at hl 1 rfl) ?_
            refine va_get (D := (dC, dI)) (ci := 16) (fs := mF ad (wA w171 0 69 ((4 : Int32) * ((w171.1 0 12) + (w171.1 0 28))))) (v := .ref (ad 96)) (C := RX13) (T := TX13) (N := 124) hx hb ht itX13 hown hK hP 0 rfl rfl 96 (by decide) (ht _ tw_207) (fun _ h9 => h9) rfl dX13_walk_271 ?_
            refine va_alen (D := (dC, dI)) (v := (nI N)) hx hb hK hP 52 0 rfl rfl rfl dX13_walk_274 ?_
            have zN46 : (nI N).toInt = (N : Int) := nI_N (by have := (om_a85b825e17 zN); omega)
            refine lv_imul hx hb dX13_walk_275 ?_
            have z47 : ((4 : Int32) * (nI N)).toInt = (4 : Int) * ((nI N).toInt) := mul_z (show (4 : Int32).toInt = (4 : Int) by decide) rfl (om_41196de75d zN46) (om_160da4e2a4 zN zN46)
            refine lv_icmp_le (tgt := 290) hx hb dX13_walk_276 (by decide) (fun h48 => ?_) (fun h48 => ?_)
            · have z49 : (((4 : Int) * (((w171.1 0 12).toInt) + ((w171.1 0 28).toInt))) + (64 : Int)) ≤ ((4 : Int) * ((nI N).toInt)) := le_z z45 z47 h48
              refine lv_aload_n hx hb dX13_walk_290 rfl (lv_at hl 1 rfl) ?_
              have q50 : (w171.1 0 43).toInt = (w80.1 0 43).toInt := congrArg Int32.toInt ((fwL171.2.1 43 (by decide)).trans (show w80.1 0 43 = (w80.1 0 43) by rfl))
              have q51 : (w171.1 0 22).toInt = (w80.1 0 22).toInt := congrArg Int32.toInt ((fwL171.2.1 22 (by decide)).trans (show w80.1 0 22 = (w80.1 0 22) by rfl))
              refine cu_v (rn_V (n := 0) (As := []) (rest := []) hx hb hml hown ht hKK hFx hP hD hS hA (c_m_addresses l dC dI cI cB cZ cJ cR tb H.size ad N (wA w171 0 69 ((4 : Int32) * ((w171.1 0 12) + (w171.1 0 28))))  (show 0 ≤ (w171.1 0 12).toInt ∧ (w171.1 0 12).toInt ≤ 24000 from (om_5f2e43e78a zN zwsL80 znuL80 q41 q42 zN46 z49)) (show 0 ≤ (w171.1 0 43).toInt ∧ (w171.1 0 43).toInt ≤ 24000 from (om_296aff0492 ztL80 zfsL80 q50)) (show 0 ≤ (w171.1 0 22).toInt ∧ (w171.1 0 22).toInt ≤ 40 from (om_99e115f631 zfnL80 q51)) (show AR 19 0 23900 (wA w171 0 69 ((4 : Int32) * ((w171.1 0 12) + (w171.1 0 28)))) from (AR.o (show AR 19 0 23900 w171 from AR.fr (fl := []) (al := [11, 14]) fwL171 (by decide) a19L80) (by decide))) (show AR 25 0 60000 (wA w171 0 69 ((4 : Int32) * ((w171.1 0 12) + (w171.1 0 28)))) from (AR.o (show AR 25 0 60000 w171 from AR.fr (fl := []) (al := [11, 14]) fwL171 (by decide) a25L80) (by decide))) (show AR 40 0 23999 (wA w171 0 69 ((4 : Int32) * ((w171.1 0 12) + (w171.1 0 28)))) from (AR.o (show AR 40 0 23999 w171 from AR.fr (fl := []) (al := [11, 14]) fwL171 (by decide) a40L80) (by decide))) (show FX (wA w171 0 69 ((4 : Int32) * ((w171.1 0 12) + (w171.1 0 28)))) from (FX.o (show FX w171 from FX.fr (fl := []) (al := [11, 14]) fwL171 (by decide) (by decide) fxL80) (by decide) (by decide)))) tw_317 tw_318 (by decide +kernel) rfl rfl ⟨show 2 + 1 ≤ 1664 from om_c85d008903, show 8 + (4 + 11) + 46 ≤ 28 * (1664) from om_ca3544fdd9⟩ (List.range (mW ad N cI cZ cJ (wA w171 0 69 ((4 : Int32) * ((w171.1 0 12) + (w171.1 0 28))))).length) (rg_map _) (mW_nd _ _ _ _ _ _) rfl rfl rfl rfl hl.1 rfl (Nat.le_of_ble_eq_true rfl) dX13_walk_291 ⟨Nat.le_of_ble_eq_true rfl, Nat.le_of_ble_eq_true rfl⟩) hP hD hS hA (fun u53 H locs hw52 hP hD hS => ?_)
              have fr52 := hw52
              refine W.widen (k := 0) (n := 0) (Nat.le_refl _) (Nat.le_refl _) ?_
              have q55 : (w171.1 0 15).toInt = (w80.1 0 15).toInt := congrArg Int32.toInt ((fwL171.2.1 15 (by decide)).trans (show w80.1 0 15 = (w80.1 0 15) by rfl))
              have q56 : (w171.1 0 27).toInt = (w80.1 0 27).toInt := congrArg Int32.toInt ((fwL171.2.1 27 (by decide)).trans (show w80.1 0 27 = (w80.1 0 27) by rfl))
              have q57 : (u53.1 0 12).toInt = (w171.1 0 12).toInt := congrArg Int32.toInt ((fr52.2.1 12 (by decide)).trans (show (wA w171 0 69 ((4 : Int32) * ((w171.1 0 12) + (w171.1 0 28)))).1 0 12 = (w171.1 0 12) by rfl))
              have q58 : (u53.1 0 15).toInt = (w171.1 0 15).toInt := congrArg Int32.toInt ((fr52.2.1 15 (by decide)).trans (show (wA w171 0 69 ((4 : Int32) * ((w171.1 0 12) + (w171.1 0 28)))).1 0 15 = (w171.1 0 15) by rfl))
              have q59 : (u53.1 0 22).toInt = (w171.1 0 22).toInt := congrArg Int32.toInt ((fr52.2.1 22 (by decide)).trans (show (wA w171 0 69 ((4 : Int32) * ((w171.1 0 12) + (w171.1 0 28)))).1 0 22 = (w171.1 0 22) by rfl))
              have q60 : (u53.1 0 27).toInt = (w171.1 0 27).toInt := congrArg Int32.toInt ((fr52.2.1 27 (by decide)).trans (show (wA w171 0 69 ((4 : Int32) * ((w171.1 0 12) + (w171.1 0 28)))).1 0 27 = (w171.1 0 27) by rfl))
              have q61 : (u53.1 0 28).toInt = (w171.1 0 28).toInt := congrArg Int32.toInt ((fr52.2.1 28 (by decide)).trans (show (wA w171 0 69 ((4 : Int32) * ((w171.1 0 12) + (w171.1 0 28)))).1 0 28 = (w171.1 0 28) by rfl))
              have q62 : (u53.1 0 69).toInt = ((4 : Int32) * ((w171.1 0 12) + (w171.1 0 28))).toInt := congrArg Int32.toInt ((fr52.2.1 69 (by decide)).trans (show (wA w171 0 69 ((4 : Int32) * ((w171.1 0 12) + (w171.1 0 28)))).1 0 69 = ((4 : Int32) * ((w171.1 0 12) + (w171.1 0 28))) by rfl))
              have q63 : (w171.1 0 39).toInt = (w80.1 0 39).toInt := congrArg Int32.toInt ((fwL171.2.1 39 (by decide)).trans (show w80.1 0 39 = (w80.1 0 39) by rfl))
              refine vx_ret ?_
              exact W.vret hx hb hr (fun t ht9 hW => ⟨⟨u53, rfl, ⟨(FG.tr (FG.f (FG.tr (FG.tr (FG.rf _) (FG.up fwL80 (by decide) (by decide))) (FG.up fwL171 (by decide) (by decide))) ((4 : Int32) * ((w171.1 0 12) + (w171.1 0 28))) (by decide)) (FG.up fr52 (by decide) (by decide))), (show 0 ≤ (u53.1 0 12).toInt ∧ (u53.1 0 12).toInt ≤ 24000 ∧ 0 ≤ (u53.1 0 15).toInt ∧ (u53.1 0 15).toInt ≤ 16000 ∧ 0 ≤ (u53.1 0 22).toInt ∧ (u53.1 0 22).toInt ≤ 40 ∧ 0 ≤ (u53.1 0 27).toInt ∧ (u53.1 0 27).toInt ≤ 60 ∧ 0 ≤ (u53.1 0 28).toInt ∧ (u53.1 0 28).toInt ≤ 4096 ∧ 0 ≤ (u53.1 0 69).toInt ∧ (u53.1 0 69).toInt + 64 ≤ 4 * (N : Int) from (om_7d78b70e0d zN ztL80 zwsL80 zosL80 zglL80 zfnL80 znuL80 q41 q55 q51 q56 q42 z44 zN46 z49 q57 q58 q59 q60 q61 q62)), (show AR 16 0 1500 u53 from AR.fr (fl := []) (al := [11]) fr52 (by decide) (AR.o (show AR 16 0 1500 w171 from AR.fr (fl := []) (al := [11, 14]) fwL171 (by decide) a16L80) (by decide))), (show AR 17 0 8 u53 from AR.fr (fl := []) (al := [11]) fr52 (by decide) (AR.o (show AR 17 0 8 w171 from AR.fr (fl := []) (al := [11, 14]) fwL171 (by decide) a17L80) (by decide))), (show AR 18 0 2008 u53 from AR.fr (fl := []) (al := [11]) fr52 (by decide) (AR.o (show AR 18 0 2008 w171 from AR.fr (fl := []) (al := [11, 14]) fwL171 (by decide) a18L80) (by decide))), (show AR 19 0 23900 u53 from AR.fr (fl := []) (al := [11]) fr52 (by decide) (AR.o (show AR 19 0 23900 w171 from AR.fr (fl := []) (al := [11, 14]) fwL171 (by decide) a19L80) (by decide))), (show AR 20 0 15999 u53 from AR.fr (fl := []) (al := [11]) fr52 (by decide) (AR.o (show AR 20 0 15999 w171 from AR.fr (fl := []) (al := [11, 14]) fwL171 (by decide) a20L80) (by decide))), (show AR 21 0 500 u53 from AR.fr (fl := []) (al := [11]) fr52 (by decide) (AR.o (show AR 21 0 500 w171 from AR.fr (fl := []) (al := [11, 14]) fwL171 (by decide) a21L80) (by decide))), (show AR 23 0 1500 u53 from AR.fr (fl := []) (al := [11]) fr52 (by decide) (AR.o (show AR 23 0 1500 w171 from AR.fr (fl := []) (al := [11, 14]) fwL171 (by decide) a23L80) (by decide))), (show AR 24 0 1000 u53 from AR.fr (fl := []) (al := [11]) fr52 (by decide) (AR.o (show AR 24 0 1000 w171 from AR.fr (fl := []) (al := [11, 14]) fwL171 (by decide) a24L80) (by decide))), (show AR 25 0 60000 u53 from AR.fr (fl := []) (al := [11]) fr52 (by decide) (AR.o (show AR 25 0 60000 w171 from AR.fr (fl := []) (al := [11, 14]) fwL171 (by decide) a25L80) (by decide))), (show AR 29 0 1500 u53 from AR.fr (fl := []) (al := [11]) fr52 (by decide) (AR.o (show AR 29 0 1500 w171 from AR.fr (fl := []) (al := [11, 14]) fwL171 (by decide) a29L80) (by decide))), (show AR 35 0 1500 u53 from AR.fr (fl := []) (al := [11]) fr52 (by decide) (AR.o (show AR 35 0 1500 w171 from AR.fr (fl := []) (al := [11, 14]) fwL171 (by decide) a35L80) (by decide))), (show AR 37 0 23999 u53 from AR.fr (fl := []) (al := [11]) fr52 (by decide) (AR.o (show AR 37 0 23999 w171 from AR.fr (fl := []) (al := [11, 14]) fwL171 (by decide) a37L80) (by decide))), (show AR 38 0 15999 u53 from AR.fr (fl := []) (al := [11]) fr52 (by decide) (AR.o (show AR 38 0 15999 w171 from AR.fr (fl := []) (al := [11, 14]) fwL171 (by decide) a38L80) (by decide))), (show AR 40 0 23999 u53 from AR.fr (fl := []) (al := [11]) fr52 (by decide) (AR.o (show AR 40 0 23999 w171 from AR.fr (fl := []) (al := [11, 14]) fwL171 (by decide) a40L80) (by decide))), (show FX u53 from FX.fr (fl := []) (al := [11]) fr52 (by decide) (by decide) (FX.o (show FX w171 from FX.fr (fl := []) (al := [11, 14]) fwL171 (by decide) (by decide) fxL80) (by decide) (by decide))), (GF.fr (fl := []) (al := [11]) fr52 (by decide) (by decide) (GF.of (GF.fr (fl := []) (al := [11, 14]) fwL171 (by decide) (by decide) gfL80) (by decide))), (PG.two (v := w80) (w := u53) (k := kb) pgL80 (show kb.toInt = (w80.1 0 39).toInt from (om_e6a323412f e1L171 q63 z36)) (fun c9 h9 => ckL101 c9 (Int.lt_of_lt_of_le h9 (show kb.toInt ≤ ka.toInt from (om_99338c14df z34 e1L171)))) (by rw [show (u53).1 14 = w171.1 14 from (fr52.2.2 14 (by decide))]; exact rwL171) (fun k9 h9 => by rcases mem4 h9 with rfl | rfl | rfl | rfl <;> first | exact (show (u53).1 0 15 = w80.1 0 15 from (Eq.trans (fr52.2.1 15 (by decide)) (fwL171.2.1 15 (by decide)))) | exact (show (u53).1 0 22 = w80.1 0 22 from (Eq.trans (fr52.2.1 22 (by decide)) (fwL171.2.1 22 (by decide)))) | exact (show (u53).1 0 27 = w80.1 0 27 from (Eq.trans (fr52.2.1 27 (by decide)) (fwL171.2.1 27 (by decide)))) | exact (show (u53).1 0 28 = w80.1 0 28 from (Eq.trans (fr52.2.1 28 (by decide)) (fwL171.2.1 28 (by decide))))) (fun k9 h9 => by rcases mem5 h9 with rfl | rfl | rfl | rfl | rfl <;> first | exact (show (u53).1 13 = w80.1 13 from (Eq.trans (fr52.2.2 13 (by decide)) (fwL171.2.2 13 (by decide)))) | exact (show (u53).1 17 = w80.1 17 from (Eq.trans (fr52.2.2 17 (by decide)) (fwL171.2.2 17 (by decide)))) | exact (show (u53).1 18 = w80.1 18 from (Eq.trans (fr52.2.2 18 (by decide)) (fwL171.2.2 18 (by decide)))) | exact (show (u53).1 20 = w80.1 20 from (Eq.trans (fr52.2.2 20 (by decide)) (fwL171.2.2 20 (by decide)))) | exact (show (u53).1 21 = w80.1 21 from (Eq.trans (fr52.2.2 21 (by decide)) (fwL171.2.2 21 (by decide)))))), (fun hiv => (IV.fr (fl := []) (al := [11]) fr52 (by decide) (IV.o (IV.fr (fl := []) (al := [11, 14]) fwL171 (by decide) (ivL80 hiv)) (by decide))))⟩, by rw [ht9]; exact hP, hD⟩, hS.F ht9⟩) hS.2.2 dX13_walk_294
            · have z64 : ((4 : Int) * ((nI N).toInt)) < (((4 : Int) * (((w171.1 0 12).toInt) + ((w171.1 0 28).toInt))) + (64 : Int)) := nle_z z45 z47 h48
              refine lv_aload_n hx hb dX13_walk_279 rfl (lv_at hl 1 rfl) ?_
              refine lv_bipush (v := 7) hx hb dX13_walk_280 (by decide) ?_
              refine lv_aload_n hx hb dX13_walk_282 rfl (lv_at hl 1 rfl) ?_
              refine va_get (D := (dC, dI)) (ci := 16) (fs := mF ad (wA w171 0 69 ((4 : Int32) * ((w171.1 0 12) + (w171.1 0 28))))) (v := .int (w171.1 0 47)) (C := RX13) (T := TX13) (N := 124) hx hb ht itX13 hown hK hP 0 rfl rfl 47 (by decide) (ht _ tw_24) (fun _ h9 => h9) rfl dX13_walk_283 ?_
              have q65 : (w171.1 0 47).toInt = (w80.1 0 47).toInt := congrArg Int32.toInt ((fwL171.2.1 47 (by decide)).trans (show w80.1 0 47 = (w80.1 0 47) by rfl))
              refine cu_r (rn_V (n := 2) (As := [.int 7, .int (w171.1 0 47)]) (rest := []) hx hb hml hown ht hKK hFx hP hD hS hA (c_m_fail l dC dI cI cB cZ cJ cR tb H.size ad N (wA w171 0 69 ((4 : Int32) * ((w171.1 0 12) + (w171.1 0 28)))) (7 : Int32) (w171.1 0 47) (show 0 ≤ (w171.1 0 47).toInt ∧ (w171.1 0 47).toInt < 4002 from (om_be16799e6a ztL80 zfsL80 q65))) tw_25 tw_26 (by decide +kernel) rfl rfl ⟨show 0 + 1 ≤ 1664 from om_9487016820, show 8 + (3 + 11) + 0 ≤ 28 * (1664) from om_0b7ae4ecc7⟩ (List.range (mW ad N cI cZ cJ (wA w171 0 69 ((4 : Int32) * ((w171.1 0 12) + (w171.1 0 28))))).length) (rg_map _) (mW_nd _ _ _ _ _ _) rfl rfl rfl rfl hl.1 rfl (Nat.le_of_ble_eq_true rfl) dX13_walk_286 ⟨Nat.le_of_ble_eq_true rfl, Nat.le_of_ble_eq_true rfl⟩) hP hD hS hA (fun u67 H locs hw66 hP hD hS => ?_)
              obtain rfl := hw66
              have hP : va_P (dC, dI) vwCl (mW ad N cI cZ cJ (wA (wA (wA w171 0 69 ((4 : Int32) * ((w171.1 0 12) + (w171.1 0 28)))) 0 50 (7 : Int32)) 0 51 ((w171.1 7) (w171.1 0 47).toNatClampNeg))) H := hP
              have hD : va_D A (mW ad N cI cZ cJ (wA (wA (wA w171 0 69 ((4 : Int32) * ((w171.1 0 12) + (w171.1 0 28)))) 0 50 (7 : Int32)) 0 51 ((w171.1 7) (w171.1 0 47).toNatClampNeg))) := hD
              refine W.widen (k := 0) (n := 0) (Nat.le_refl _) (Nat.le_refl _) ?_
              obtain ⟨ce9, hc9, hv9, hf9⟩ := halt_at hK hP
              refine um_athrow hx hb dX13_walk_289 ?_
              exact vx_out (fun x h9 => (hnt x h9).elim) hlocks hc9 hv9 hf9 (fun t9 ht9 hv8 => ⟨(wA (wA (wA w171 0 69 ((4 : Int32) * ((w171.1 0 12) + (w171.1 0 28)))) 0 50 (7 : Int32)) 0 51 ((w171.1 7) (w171.1 0 47).toNatClampNeg)), ⟨(FG.f (FG.f (FG.f (FG.tr (FG.tr (FG.rf _) (FG.up fwL80 (by decide) (by decide))) (FG.up fwL171 (by decide) (by decide))) ((4 : Int32) * ((w171.1 0 12) + (w171.1 0 28))) (by decide)) (7 : Int32) (by decide)) ((w171.1 7) (w171.1 0 47).toNatClampNeg) (by decide)), fun hiv => (IV.o (IV.o (IV.o (IV.fr (fl := []) (al := [11, 14]) fwL171 (by decide) (ivL80 hiv)) (by decide)) (by decide)) (by decide))⟩, ⟨rfl, by rw [ht9]; exact hP, hD⟩, hS.F ht9⟩) hS.2.2 (Nat.le_refl _) (Nat.le_refl _)
          · have z69 : (w171.1 0 45).toInt ≠ (0 : Int) := ne_z rfl (show (0 : Int32).toInt = (0 : Int) by decide) h39
            refine lv_aload_n hx hb dX13_walk_243 rfl (lv_at hl 1 rfl) ?_
            have q70 : (w171.1 0 12).toInt = (w80.1 0 12).toInt := congrArg Int32.toInt ((fwL171.2.1 12 (by decide)).trans (show w80.1 0 12 = (w80.1 0 12) by rfl))
            refine cu_v (rn_V (n := 0) (As := []) (rest := []) hx hb hml hown ht hKK hFx hP hD hS hA (c_m_dividing l dC dI cI cB cZ cJ cR tb H.size ad N w171  (show 0 ≤ (w171.1 0 12).toInt ∧ (w171.1 0 12).toInt ≤ 23950 from (om_7dddaed1b5 ztL80 zwsL80 q70))) tw_319 tw_320 (by decide +kernel) rfl rfl ⟨show 2 + 1 ≤ 1664 from om_c85d008903, show 8 + (1 + 11) + 46 ≤ 28 * (1664) from om_edc850ecee⟩ (List.range (mW ad N cI cZ cJ w171).length) (rg_map _) (mW_nd _ _ _ _ _ _) rfl rfl rfl rfl hl.1 rfl (Nat.le_of_ble_eq_true rfl) dX13_walk_244 ⟨Nat.le_of_ble_eq_true rfl, Nat.le_of_ble_eq_true rfl⟩) hP hD hS hA (fun u72 H locs hw71 hP hD hS => ?_)
            obtain ⟨fr71, pw71⟩ := hw71
            have pw71 : (u72.1 0 12).toInt = (w171.1 0 12).toInt + 26 := pw71
            refine W.widen (k := 0) (n := 0) (Nat.le_refl _) (Nat.le_refl _) ?_
            refine lv_aload_n hx hb dX13_walk_247 rfl (lv_at hl 1 rfl) ?_
            refine lv_iconst (v := 4) hx hb dX13_walk_248 (by decide) ?_
            refine lv_aload_n hx hb dX13_walk_249 rfl (lv_at hl 1 rfl) ?_
            refine va_get (D := (dC, dI)) (ci := 16) (fs := mF ad u72) (v := .int (u72.1 0 12)) (C := RX13) (T := TX13) (N := 124) hx hb ht itX13 hown hK hP 0 rfl rfl 12 (by decide) (ht _ tw_7) (fun _ h9 => h9) rfl dX13_walk_250 ?_
            refine lv_aload_n hx hb dX13_walk_253 rfl (lv_at hl 1 rfl) ?_
            refine va_get (D := (dC, dI)) (ci := 16) (fs := mF ad u72) (v := .int (u72.1 0 28)) (C := RX13) (T := TX13) (N := 124) hx hb ht itX13 hown hK hP 0 rfl rfl 28 (by decide) (ht _ tw_198) (fun _ h9 => h9) rfl dX13_walk_254 ?_
            refine lv_iadd hx hb dX13_walk_257 ?_
            have q74 : (w171.1 0 28).toInt = (w80.1 0 28).toInt := congrArg Int32.toInt ((fwL171.2.1 28 (by decide)).trans (show w80.1 0 28 = (w80.1 0 28) by rfl))
            have q75 : (u72.1 0 28).toInt = (w171.1 0 28).toInt := congrArg Int32.toInt ((fr71.2.1 28 (by decide)).trans (show w171.1 0 28 = (w171.1 0 28) by rfl))
            have z76 : ((u72.1 0 12) + (u72.1 0 28)).toInt = ((u72.1 0 12).toInt) + ((u72.1 0 28).toInt) := add_z rfl rfl (om_9511b52176 zwsL80 znuL80 q70 q74 q75 pw71) (om_7568692923 ztL80 zwsL80 zglL80 znuL80 q70 q74 q75 pw71)
            refine lv_imul hx hb dX13_walk_258 ?_
            have z77 : ((4 : Int32) * ((u72.1 0 12) + (u72.1 0 28))).toInt = (4 : Int) * (((u72.1 0 12).toInt) + ((u72.1 0 28).toInt)) := mul_z (show (4 : Int32).toInt = (4 : Int) by decide) z76 (om_bc22f84e9d zwsL80 znuL80 q70 q74 q75 pw71) (om_7a98e30c2d ztL80 zwsL80 zglL80 znuL80 q70 q74 q75 pw71)
            refine va_put (D := (dC, dI)) (ci := 16) (fs := mF ad u72) (v := .int ((4 : Int32) * ((u72.1 0 12) + (u72.1 0 28)))) (ty := .int) (C := RX13) (T := TX13) (N := 124) hx hb ht itX13 tyX13 tyX13_ok nmX13 hown hK hP hD hS 0 rfl rfl 69 (by decide) (ht _ tw_204) (fun _ h9 => h9) rfl (by decide +kernel) rfl rfl (Nat.le_of_ble_eq_true rfl) dX13_walk_259 (fun H locs hP hD hS => ?_)
            have hP := cP_ (mw_69 ad N cI cZ cJ u72 ((4 : Int32) * ((u72.1 0 12) + (u72.1 0 28)))) hP
            have hD := cD_ (mw_69 ad N cI cZ cJ u72 ((4 : Int32) * ((u72.1 0 12) + (u72.1 0 28)))) hD
            refine lv_aload_n hx hb dX13_walk_262 rfl (lv_at hl 1 rfl) ?_
            refine va_get (D := (dC, dI)) (ci := 16) (fs := mF ad (wA u72 0 69 ((4 : Int32) * ((u72.1 0 12) + (u72.1 0 28))))) (v := .int ((4 : Int32) * ((u72.1 0 12) + (u72.1 0 28)))) (C := RX13) (T := TX13) (N := 124) hx hb ht itX13 hown hK hP 0 rfl rfl 69 (by decide) (ht _ tw_204) (fun _ h9 => h9) rfl dX13_walk_263 ?_
            refine lv_bipush (v := 64) hx hb dX13_walk_266 (by decide) ?_
            refine lv_iadd hx hb dX13_walk_268 ?_
            have z78 : (((4 : Int32) * ((u72.1 0 12) + (u72.1 0 28))) + (64 : Int32)).toInt = ((4 : Int) * (((u72.1 0 12).toInt) + ((u72.1 0 28).toInt))) + (64 : Int) := add_z z77 (show (64 : Int32).toInt = (64 : Int) by decide) (om_0f6ad757c0 zwsL80 znuL80 q70 q74 q75 pw71) (om_8416c7c6c4 ztL80 zwsL80 zglL80 znuL80 q70 q74 q75 pw71)
            refine lv_iconst (v := 4) hx hb dX13_walk_269 (by decide) ?_
            refine lv_aload_n hx hb dX13_walk_270 rfl (lv_at hl 1 rfl) ?_
            refine va_get (D := (dC, dI)) (ci := 16) (fs := mF ad (wA u72 0 69 ((4 : Int32) * ((u72.1 0 12) + (u72.1 0 28))))) (v := .ref (ad 96)) (C := RX13) (T := TX13) (N := 124) hx hb ht itX13 hown hK hP 0 rfl rfl 96 (by decide) (ht _ tw_207) (fun _ h9 => h9) rfl dX13_walk_271 ?_
            refine va_alen (D := (dC, dI)) (v := (nI N)) hx hb hK hP 52 0 rfl rfl rfl dX13_walk_274 ?_
            have zN79 : (nI N).toInt = (N : Int) := nI_N (by have := (om_a85b825e17 zN); omega)
            refine lv_imul hx hb dX13_walk_275 ?_
            have z80 : ((4 : Int32) * (nI N)).toInt = (4 : Int) * ((nI N).toInt) := mul_z (show (4 : Int32).toInt = (4 : Int) by decide) rfl (om_41196de75d zN79) (om_160da4e2a4 zN zN79)
            refine lv_icmp_le (tgt := 290) hx hb dX13_walk_276 (by decide) (fun h81 => ?_) (fun h81 => ?_)
            · have z82 : (((4 : Int) * (((u72.1 0 12).toInt) + ((u72.1 0 28).toInt))) + (64 : Int)) ≤ ((4 : Int) * ((nI N).toInt)) := le_z z78 z80 h81
              refine lv_aload_n hx hb dX13_walk_290 rfl (lv_at hl 1 rfl) ?_
              have q83 : (w171.1 0 43).toInt = (w80.1 0 43).toInt := congrArg Int32.toInt ((fwL171.2.1 43 (by decide)).trans (show w80.1 0 43 = (w80.1 0 43) by rfl))
              have q84 : (u72.1 0 43).toInt = (w171.1 0 43).toInt := congrArg Int32.toInt ((fr71.2.1 43 (by decide)).trans (show w171.1 0 43 = (w171.1 0 43) by rfl))
              have q85 : (w171.1 0 22).toInt = (w80.1 0 22).toInt := congrArg Int32.toInt ((fwL171.2.1 22 (by decide)).trans (show w80.1 0 22 = (w80.1 0 22) by rfl))
              have q86 : (u72.1 0 22).toInt = (w171.1 0 22).toInt := congrArg Int32.toInt ((fr71.2.1 22 (by decide)).trans (show w171.1 0 22 = (w171.1 0 22) by rfl))
              refine cu_v (rn_V (n := 0) (As := []) (rest := []) hx hb hml hown ht hKK hFx hP hD hS hA (c_m_addresses l dC dI cI cB cZ cJ cR tb H.size ad N (wA u72 0 69 ((4 : Int32) * ((u72.1 0 12) + (u72.1 0 28))))  (show 0 ≤ (u72.1 0 12).toInt ∧ (u72.1 0 12).toInt ≤ 24000 from (om_b2c04394f7 zN zwsL80 znuL80 q70 q74 q75 pw71 zN79 z82)) (show 0 ≤ (u72.1 0 43).toInt ∧ (u72.1 0 43).toInt ≤ 24000 from (om_fe9e5267dc ztL80 zfsL80 q83 q84)) (show 0 ≤ (u72.1 0 22).toInt ∧ (u72.1 0 22).toInt ≤ 40 from (om_68f540929a zfnL80 q85 q86)) (show AR 19 0 23900 (wA u72 0 69 ((4 : Int32) * ((u72.1 0 12) + (u72.1 0 28)))) from (AR.o (show AR 19 0 23900 u72 from AR.fr (fl := [12, 68]) (al := [0, 11]) fr71 (by decide) (show AR 19 0 23900 w171 from AR.fr (fl := []) (al := [11, 14]) fwL171 (by decide) a19L80)) (by decide))) (show AR 25 0 60000 (wA u72 0 69 ((4 : Int32) * ((u72.1 0 12) + (u72.1 0 28)))) from (AR.o (show AR 25 0 60000 u72 from AR.fr (fl := [12, 68]) (al := [0, 11]) fr71 (by decide) (show AR 25 0 60000 w171 from AR.fr (fl := []) (al := [11, 14]) fwL171 (by decide) a25L80)) (by decide))) (show AR 40 0 23999 (wA u72 0 69 ((4 : Int32) * ((u72.1 0 12) + (u72.1 0 28)))) from (AR.o (show AR 40 0 23999 u72 from AR.fr (fl := [12, 68]) (al := [0, 11]) fr71 (by decide) (show AR 40 0 23999 w171 from AR.fr (fl := []) (al := [11, 14]) fwL171 (by decide) a40L80)) (by decide))) (show FX (wA u72 0 69 ((4 : Int32) * ((u72.1 0 12) + (u72.1 0 28)))) from (FX.o (show FX u72 from FX.fr (fl := [12, 68]) (al := [0, 11]) fr71 (by decide) (by decide) (show FX w171 from FX.fr (fl := []) (al := [11, 14]) fwL171 (by decide) (by decide) fxL80)) (by decide) (by decide)))) tw_317 tw_318 (by decide +kernel) rfl rfl ⟨show 2 + 1 ≤ 1664 from om_c85d008903, show 8 + (4 + 11) + 46 ≤ 28 * (1664) from om_ca3544fdd9⟩ (List.range (mW ad N cI cZ cJ (wA u72 0 69 ((4 : Int32) * ((u72.1 0 12) + (u72.1 0 28))))).length) (rg_map _) (mW_nd _ _ _ _ _ _) rfl rfl rfl rfl hl.1 rfl (Nat.le_of_ble_eq_true rfl) dX13_walk_291 ⟨Nat.le_of_ble_eq_true rfl, Nat.le_of_ble_eq_true rfl⟩) hP hD hS hA (fun u88 H locs hw87 hP hD hS => ?_)
              have fr87 := hw87
              refine W.widen (k := 0) (n := 0) (Nat.le_refl _) (Nat.le_refl _) ?_
              have q90 : (w171.1 0 15).toInt = (w80.1 0 15).toInt := congrArg Int32.toInt ((fwL171.2.1 15 (by decide)).trans (show w80.1 0 15 = (w80.1 0 15) by rfl))
              have q91 : (w171.1 0 27).toInt = (w80.1 0 27).toInt := congrArg Int32.toInt ((fwL171.2.1 27 (by decide)).trans (show w80.1 0 27 = (w80.1 0 27) by rfl))
              have q92 : (u72.1 0 15).toInt = (w171.1 0 15).toInt := congrArg Int32.toInt ((fr71.2.1 15 (by decide)).trans (show w171.1 0 15 = (w171.1 0 15) by rfl))
              have q93 : (u72.1 0 27).toInt = (w171.1 0 27).toInt := congrArg Int32.toInt ((fr71.2.1 27 (by decide)).trans (show w171.1 0 27 = (w171.1 0 27) by rfl))
              have q94 : (u88.1 0 12).toInt = (u72.1 0 12).toInt := congrArg Int32.toInt ((fr87.2.1 12 (by decide)).trans (show (wA u72 0 69 ((4 : Int32) * ((u72.1 0 12) + (u72.1 0 28)))).1 0 12 = (u72.1 0 12) by rfl))
              have q95 : (u88.1 0 15).toInt = (u72.1 0 15).toInt := congrArg Int32.toInt ((fr87.2.1 15 (by decide)).trans (show (wA u72 0 69 ((4 : Int32) * ((u72.1 0 12) + (u72.1 0 28)))).1 0 15 = (u72.1 0 15) by rfl))
              have q96 : (u88.1 0 22).toInt = (u72.1 0 22).toInt := congrArg Int32.toInt ((fr87.2.1 22 (by decide)).trans (show (wA u72 0 69 ((4 : Int32) * ((u72.1 0 12) + (u72.1 0 28)))).1 0 22 = (u72.1 0 22) by rfl))
              have q97 : (u88.1 0 27).toInt = (u72.1 0 27).toInt := congrArg Int32.toInt ((fr87.2.1 27 (by decide)).trans (show (wA u72 0 69 ((4 : Int32) * ((u72.1 0 12) + (u72.1 0 28)))).1 0 27 = (u72.1 0 27) by rfl))
              have q98 : (u88.1 0 28).toInt = (u72.1 0 28).toInt := congrArg Int32.toInt ((fr87.2.1 28 (by decide)).trans (show (wA u72 0 69 ((4 : Int32) * ((u72.1 0 12) + (u72.1 0 28)))).1 0 28 = (u72.1 0 28) by rfl))
              have q99 : (u88.1 0 69).toInt = ((4 : Int32) * ((u72.1 0 12) + (u72.1 0 28))).toInt := congrArg Int32.toInt ((fr87.2.1 69 (by decide)).trans (show (wA u72 0 69 ((4 : Int32) * ((u72.1 0 12) + (u72.1 0 28)))).1 0 69 = ((4 : Int32) * ((u72.1 0 12) + (u72.1 0 28))) by rfl))
              have q100 : (w171.1 0 39).toInt = (w80.1 0 39).toInt := congrArg Int32.toInt ((fwL171.2.1 39 (by decide)).trans (show w80.1 0 39 = (w80.1 0 39) by rfl))
              refine vx_ret ?_
              exact W.vret hx hb hr (fun t ht9 hW => ⟨⟨u88, rfl, ⟨(FG.tr (FG.f (FG.tr (FG.tr (FG.tr (FG.rf _) (FG.up fwL80 (by decide) (by decide))) (FG.up fwL171 (by decide) (by decide))) (FG.up fr71 (by decide) (by decide))) ((4 : Int32) * ((u72.1 0 12) + (u72.1 0 28))) (by decide)) (FG.up fr87 (by decide) (by decide))), (show 0 ≤ (u88.1 0 12).toInt ∧ (u88.1 0 12).toInt ≤ 24000 ∧ 0 ≤ (u88.1 0 15).toInt ∧ (u88.1 0 15).toInt ≤ 16000 ∧ 0 ≤ (u88.1 0 22).toInt ∧ (u88.1 0 22).toInt ≤ 40 ∧ 0 ≤ (u88.1 0 27).toInt ∧ (u88.1 0 27).toInt ≤ 60 ∧ 0 ≤ (u88.1 0 28).toInt ∧ (u88.1 0 28).toInt ≤ 4096 ∧ 0 ≤ (u88.1 0 69).toInt ∧ (u88.1 0 69).toInt + 64 ≤ 4 * (N : Int) from (om_f351021c5f zN ztL80 zwsL80 zosL80 zglL80 zfnL80 znuL80 q70 q90 q85 q91 q74 q92 q86 q93 q75 pw71 z77 zN79 z82 q94 q95 q96 q97 q98 q99)), (show AR 16 0 1500 u88 from AR.fr (fl := []) (al := [11]) fr87 (by decide) (AR.o (show AR 16 0 1500 u72 from AR.fr (fl := [12, 68]) (al := [0, 11]) fr71 (by decide) (show AR 16 0 1500 w171 from AR.fr (fl := []) (al := [11, 14]) fwL171 (by decide) a16L80)) (by decide))), (show AR 17 0 8 u88 from AR.fr (fl := []) (al := [11]) fr87 (by decide) (AR.o (show AR 17 0 8 u72 from AR.fr (fl := [12, 68]) (al := [0, 11]) fr71 (by decide) (show AR 17 0 8 w171 from AR.fr (fl := []) (al := [11, 14]) fwL171 (by decide) a17L80)) (by decide))), (show AR 18 0 2008 u88 from AR.fr (fl := []) (al := [11]) fr87 (by decide) (AR.o (show AR 18 0 2008 u72 from AR.fr (fl := [12, 68]) (al := [0, 11]) fr71 (by decide) (show AR 18 0 2008 w171 from AR.fr (fl := []) (al := [11, 14]) fwL171 (by decide) a18L80)) (by decide))), (show AR 19 0 23900 u88 from AR.fr (fl := []) (al := [11]) fr87 (by decide) (AR.o (show AR 19 0 23900 u72 from AR.fr (fl := [12, 68]) (al := [0, 11]) fr71 (by decide) (show AR 19 0 23900 w171 from AR.fr (fl := []) (al := [11, 14]) fwL171 (by decide) a19L80)) (by decide))), (show AR 20 0 15999 u88 from AR.fr (fl := []) (al := [11]) fr87 (by decide) (AR.o (show AR 20 0 15999 u72 from AR.fr (fl := [12, 68]) (al := [0, 11]) fr71 (by decide) (show AR 20 0 15999 w171 from AR.fr (fl := []) (al := [11, 14]) fwL171 (by decide) a20L80)) (by decide))), (show AR 21 0 500 u88 from AR.fr (fl := []) (al := [11]) fr87 (by decide) (AR.o (show AR 21 0 500 u72 from AR.fr (fl := [12, 68]) (al := [0, 11]) fr71 (by decide) (show AR 21 0 500 w171 from AR.fr (fl := []) (al := [11, 14]) fwL171 (by decide) a21L80)) (by decide))), (show AR 23 0 1500 u88 from AR.fr (fl := []) (al := [11]) fr87 (by decide) (AR.o (show AR 23 0 1500 u72 from AR.fr (fl := [12, 68]) (al := [0, 11]) fr71 (by decide) (show AR 23 0 1500 w171 from AR.fr (fl := []) (al := [11, 14]) fwL171 (by decide) a23L80)) (by decide))), (show AR 24 0 1000 u88 from AR.fr (fl := []) (al := [11]) fr87 (by decide) (AR.o (show AR 24 0 1000 u72 from AR.fr (fl := [12, 68]) (al := [0, 11]) fr71 (by decide) (show AR 24 0 1000 w171 from AR.fr (fl := []) (al := [11, 14]) fwL171 (by decide) a24L80)) (by decide))), (show AR 25 0 60000 u88 from AR.fr (fl := []) (al := [11]) fr87 (by decide) (AR.o (show AR 25 0 60000 u72 from AR.fr (fl := [12, 68]) (al := [0, 11]) fr71 (by decide) (show AR 25 0 60000 w171 from AR.fr (fl := []) (al := [11, 14]) fwL171 (by decide) a25L80)) (by decide))), (show AR 29 0 1500 u88 from AR.fr (fl := []) (al := [11]) fr87 (by decide) (AR.o (show AR 29 0 1500 u72 from AR.fr (fl := [12, 68]) (al := [0, 11]) fr71 (by decide) (show AR 29 0 1500 w171 from AR.fr (fl := []) (al := [11, 14]) fwL171 (by decide) a29L80)) (by decide))), (show AR 35 0 1500 u88 from AR.fr (fl := []) (al := [11]) fr87 (by decide) (AR.o (show AR 35 0 1500 u72 from AR.fr (fl := [12, 68]) (al := [0, 11]) fr71 (by decide) (show AR 35 0 1500 w171 from AR.fr (fl := []) (al := [11, 14]) fwL171 (by decide) a35L80)) (by decide))), (show AR 37 0 23999 u88 from AR.fr (fl := []) (al := [11]) fr87 (by decide) (AR.o (show AR 37 0 23999 u72 from AR.fr (fl := [12, 68]) (al := [0, 11]) fr71 (by decide) (show AR 37 0 23999 w171 from AR.fr (fl := []) (al := [11, 14]) fwL171 (by decide) a37L80)) (by decide))), (show AR 38 0 15999 u88 from AR.fr (fl := []) (al := [11]) fr87 (by decide) (AR.o (show AR 38 0 15999 u72 from AR.fr (fl := [12, 68]) (al := [0, 11]) fr71 (by decide) (show AR 38 0 15999 w171 from AR.fr (fl := []) (al := [11, 14]) fwL171 (by decide) a38L80)) (by decide))), (show AR 40 0 23999 u88 from AR.fr (fl := []) (al := [11]) fr87 (by decide) (AR.o (show AR 40 0 23999 u72 from AR.fr (fl := [12, 68]) (al := [0, 11]) fr71 (by decide) (show AR 40 0 23999 w171 from AR.fr (fl := []) (al := [11, 14]) fwL171 (by decide) a40L80)) (by decide))), (show FX u88 from FX.fr (fl := []) (al := [11]) fr87 (by decide) (by decide) (FX.o (show FX u72 from FX.fr (fl := [12, 68]) (al := [0, 11]) fr71 (by decide) (by decide) (show FX w171 from FX.fr (fl := []) (al := [11, 14]) fwL171 (by decide) (by decide) fxL80)) (by decide) (by decide))), (GF.fr (fl := []) (al := [11]) fr87 (by decide) (by decide) (GF.of (GF.fr (fl := [12, 68]) (al := [0, 11]) fr71 (by decide) (by decide) (GF.fr (fl := []) (al := [11, 14]) fwL171 (by decide) (by decide) gfL80)) (by decide))), (PG.two (v := w80) (w := u88) (k := kb) pgL80 (show kb.toInt = (w80.1 0 39).toInt from (om_e6a323412f e1L171 q100 z36)) (fun c9 h9 => ckL101 c9 (Int.lt_of_lt_of_le h9 (show kb.toInt ≤ ka.toInt from (om_99338c14df z34 e1L171)))) (by rw [show (u88).1 14 = w171.1 14 from (Eq.trans (fr87.2.2 14 (by decide)) (fr71.2.2 14 (by decide)))]; exact rwL171) (fun k9 h9 => by rcases mem4 h9 with rfl | rfl | rfl | rfl <;> first | exact (show (u88).1 0 15 = w80.1 0 15 from (Eq.trans (fr87.2.1 15 (by decide)) (Eq.trans (fr71.2.1 15 (by decide)) (fwL171.2.1 15 (by decide))))) | exact (show (u88).1 0 22 = w80.1 0 22 from (Eq.trans (fr87.2.1 22 (by decide)) (Eq.trans (fr71.2.1 22 (by decide)) (fwL171.2.1 22 (by decide))))) | exact (show (u88).1 0 27 = w80.1 0 27 from (Eq.trans (fr87.2.1 27 (by decide)) (Eq.trans (fr71.2.1 27 (by decide)) (fwL171.2.1 27 (by decide))))) | exact (show (u88).1 0 28 = w80.1 0 28 from (Eq.trans (fr87.2.1 28 (by decide)) (Eq.trans (fr71.2.1 28 (by decide)) (fwL171.2.1 28 (by decide)))))) (fun k9 h9 => by rcases mem5 h9 with rfl | rfl | rfl | rfl | rfl <;> first | exact (show (u88).1 13 = w80.1 13 from (Eq.trans (fr87.2.2 13 (by decide)) (Eq.trans (fr71.2.2 13 (by decide)) (fwL171.2.2 13 (by decide))))) | exact (show (u88).1 17 = w80.1 17 from (Eq.trans (fr87.2.2 17 (by decide)) (Eq.trans (fr71.2.2 17 (by decide)) (fwL171.2.2 17 (by decide))))) | exact (show (u88).1 18 = w80.1 18 from (Eq.trans (fr87.2.2 18 (by decide)) (Eq.trans (fr71.2.2 18 (by decide)) (fwL171.2.2 18 (by decide))))) | exact (show (u88).1 20 = w80.1 20 from (Eq.trans (fr87.2.2 20 (by decide)) (Eq.trans (fr71.2.2 20 (by decide)) (fwL171.2.2 20 (by decide))))) | exact (show (u88).1 21 = w80.1 21 from (Eq.trans (fr87.2.2 21 (by decide)) (Eq.trans (fr71.2.2 21 (by decide)) (fwL171.2.2 21 (by decide))))))), (fun hiv => (IV.fr (fl := []) (al := [11]) fr87 (by decide) (IV.o (IV.fr (fl := [12, 68]) (al := [0, 11]) fr71 (by decide) (IV.fr (fl := []) (al := [11, 14]) fwL171 (by decide) (ivL80 hiv))) (by decide))))⟩, by rw [ht9]; exact hP, hD⟩, hS.F ht9⟩) hS.2.2 dX13_walk_294
            · have z101 : ((4 : Int) * ((nI N).toInt)) < (((4 : Int) * (((u72.1 0 12).toInt) + ((u72.1 0 28).toInt))) + (64 : Int)) := nle_z z78 z80 h81
              refine lv_aload_n hx hb dX13_walk_279 rfl (lv_at hl 1 rfl) ?_
              refine lv_bipush (v := 7) hx hb dX13_walk_280 (by decide) ?_
              refine lv_aload_n hx hb dX13_walk_282 rfl (lv_at hl 1 rfl) ?_
              refine va_get (D := (dC, dI)) (ci := 16) (fs := mF ad (wA u72 0 69 ((4 : Int32) * ((u72.1 0 12) + (u72.1 0 28))))) (v := .int (u72.1 0 47)) (C := RX13) (T := TX13) (N := 124) hx hb ht itX13 hown hK hP 0 rfl rfl 47 (by decide) (ht _ tw_24) (fun _ h9 => h9) rfl dX13_walk_283 ?_
              have q102 : (w171.1 0 47).toInt = (w80.1 0 47).toInt := congrArg Int32.toInt ((fwL171.2.1 47 (by decide)).trans (show w80.1 0 47 = (w80.1 0 47) by rfl))
              have q103 : (u72.1 0 47).toInt = (w171.1 0 47).toInt := congrArg Int32.toInt ((fr71.2.1 47 (by decide)).trans (show w171.1 0 47 = (w171.1 0 47) by rfl))
              refine cu_r (rn_V (n := 2) (As := [.int 7, .int (u72.1 0 47)]) (rest := []) hx hb hml hown ht hKK hFx hP hD hS hA (c_m_fail l dC dI cI cB cZ cJ cR tb H.size ad N (wA u72 0 69 ((4 : Int32) * ((u72.1 0 12) + (u72.1 0 28)))) (7 : Int32) (u72.1 0 47) (show 0 ≤ (u72.1 0 47).toInt ∧ (u72.1 0 47).toInt < 4002 from (om_a484ee19eb ztL80 zfsL80 q102 q103))) tw_25 tw_26 (by decide +kernel) rfl rfl ⟨show 0 + 1 ≤ 1664 from om_9487016820, show 8 + (3 + 11) + 0 ≤ 28 * (1664) from om_0b7ae4ecc7⟩ (List.range (mW ad N cI cZ cJ (wA u72 0 69 ((4 : Int32) * ((u72.1 0 12) + (u72.1 0 28))))).length) (rg_map _) (mW_nd _ _ _ _ _ _) rfl rfl rfl rfl hl.1 rfl (Nat.le_of_ble_eq_true rfl) dX13_walk_286 ⟨Nat.le_of_ble_eq_true rfl, Nat.le_of_ble_eq_true rfl⟩) hP hD hS hA (fun u105 H locs hw104 hP hD hS => ?_)
              obtain rfl := hw104
              have hP : va_P (dC, dI) vwCl (mW ad N cI cZ cJ (wA (wA (wA u72 0 69 ((4 : Int32) * ((u72.1 0 12) + (u72.1 0 28)))) 0 50 (7 : Int32)) 0 51 ((u72.1 7) (u72.1 0 47).toNatClampNeg))) H := hP
              have hD : va_D A (mW ad N cI cZ cJ (wA (wA (wA u72 0 69 ((4 : Int32) * ((u72.1 0 12) + (u72.1 0 28)))) 0 50 (7 : Int32)) 0 51 ((u72.1 7) (u72.1 0 47).toNatClampNeg))) := hD
              refine W.widen (k := 0) (n := 0) (Nat.le_refl _) (Nat.le_refl _) ?_
              obtain ⟨ce9, hc9, hv9, hf9⟩ := halt_at hK hP
              refine um_athrow hx hb dX13_walk_289 ?_
              exact vx_out (fun x h9 => (hnt x h9).elim) hlocks hc9 hv9 hf9 (fun t9 ht9 hv8 => ⟨(wA (wA (wA u72 0 69 ((4 : Int32) * ((u72.1 0 12) + (u72.1 0 28)))) 0 50 (7 : Int32)) 0 51 ((u72.1 7) (u72.1 0 47).toNatClampNeg)), ⟨(FG.f (FG.f (FG.f (FG.tr (FG.tr (FG.tr (FG.rf _) (FG.up fwL80 (by decide) (by decide))) (FG.up fwL171 (by decide) (by decide))) (FG.up fr71 (by decide) (by decide))) ((4 : Int32) * ((u72.1 0 12) + (u72.1 0 28))) (by decide)) (7 : Int32) (by decide)) ((u72.1 7) (u72.1 0 47).toNatClampNeg) (by decide)), fun hiv => (IV.o (IV.o (IV.o (IV.fr (fl := [12, 68]) (al := [0, 11]) fr71 (by decide) (IV.fr (fl := []) (al := [11, 14]) fwL171 (by decide) (ivL80 hiv))) (by decide)) (by decide)) (by decide))⟩, ⟨rfl, by rw [ht9]; exact hP, hD⟩, hS.F ht9⟩) hS.2.2 (Nat.le_refl _) (Nat.le_refl _)
        · have z107 : (w171.1 0 44).toInt ≠ (0 : Int) := ne_z rfl (show (0 : Int32).toInt = (0 : Int) by decide) h37
          refine lv_aload_n hx hb dX13_walk_232 rfl (lv_at hl 1 rfl) ?_
          have q108 : (w171.1 0 12).toInt = (w80.1 0 12).toInt := congrArg Int32.toInt ((fwL171.2.1 12 (by decide)).trans (show w80.1 0 12 = (w80.1 0 12) by rfl))
          refine cu_v (rn_V (n := 0) (As := []) (rest := []) hx hb hml hown ht hKK hFx hP hD hS hA (c_m_multiplying l dC dI cI cB cZ cJ cR tb H.size ad N w171  (show 0 ≤ (w171.1 0 12).toInt ∧ (w171.1 0 12).toInt ≤ 23950 from (om_7dddaed1b5 ztL80 zwsL80 q108))) tw_321 tw_322 (by decide +kernel) rfl rfl ⟨show 2 + 1 ≤ 1664 from om_c85d008903, show 8 + (2 + 11) + 46 ≤ 28 * (1664) from om_1f4780f029⟩ (List.range (mW ad N cI cZ cJ w171).length) (rg_map _) (mW_nd _ _ _ _ _ _) rfl rfl rfl rfl hl.1 rfl (Nat.le_of_ble_eq_true rfl) dX13_walk_233 ⟨Nat.le_of_ble_eq_true rfl, Nat.le_of_ble_eq_true rfl⟩) hP hD hS hA (fun u110 H locs hw109 hP hD hS => ?_)
          obtain ⟨fr109, pw109⟩ := hw109
          have pw109 : (u110.1 0 12).toInt = (w171.1 0 12).toInt + 10 := pw109
          refine W.widen (k := 0) (n := 0) (Nat.le_refl _) (Nat.le_refl _) ?_
          refine lv_aload_n hx hb dX13_walk_236 rfl (lv_at hl 1 rfl) ?_
          refine va_get (D := (dC, dI)) (ci := 16) (fs := mF ad u110) (v := .int (u110.1 0 45)) (C := RX13) (T := TX13) (N := 124) hx hb ht itX13 hown hK hP 0 rfl rfl 45 (by decide) (ht _ tw_55) (fun _ h9 => h9) rfl dX13_walk_237 ?_
          refine lv_if_eq (tgt := 247) hx hb dX13_walk_240 (by decide) (fun h112 => ?_) (fun h112 => ?_)
          · have z113 : (u110.1 0 45).toInt = (0 : Int) := eq_z rfl (show (0 : Int32).toInt = (0 : Int) by decide) h112
            refine lv_aload_n hx hb dX13_walk_247 rfl (lv_at hl 1 rfl) ?_
            refine lv_iconst (v := 4) hx hb dX13_walk_248 (by decide) ?_
            refine lv_aload_n hx hb dX13_walk_249 rfl (lv_at hl 1 rfl) ?_
            refine va_get (D := (dC, dI)) (ci := 16) (fs := mF ad u110) (v := .int (u110.1 0 12)) (C := RX13) (T := TX13) (N := 124) hx hb ht itX13 hown hK hP 0 rfl rfl 12 (by decide) (ht _ tw_7) (fun _ h9 => h9) rfl dX13_walk_250 ?_
            refine lv_aload_n hx hb dX13_walk_253 rfl (lv_at hl 1 rfl) ?_
            refine va_get (D := (dC, dI)) (ci := 16) (fs := mF ad u110) (v := .int (u110.1 0 28)) (C := RX13) (T := TX13) (N := 124) hx hb ht itX13 hown hK hP 0 rfl rfl 28 (by decide) (ht _ tw_198) (fun _ h9 => h9) rfl dX13_walk_254 ?_
            refine lv_iadd hx hb dX13_walk_257 ?_
            have q114 : (w171.1 0 28).toInt = (w80.1 0 28).toInt := congrArg Int32.toInt ((fwL171.2.1 28 (by decide)).trans (show w80.1 0 28 = (w80.1 0 28) by rfl))
            have q115 : (u110.1 0 28).toInt = (w171.1 0 28).toInt := congrArg Int32.toInt ((fr109.2.1 28 (by decide)).trans (show w171.1 0 28 = (w171.1 0 28) by rfl))
            have z116 : ((u110.1 0 12) + (u110.1 0 28)).toInt = ((u110.1 0 12).toInt) + ((u110.1 0 28).toInt) := add_z rfl rfl (om_e3f82623a0 zwsL80 znuL80 q108 q114 q115 pw109) (om_9d9bb3caac ztL80 zwsL80 zglL80 znuL80 q108 q114 q115 pw109)
            refine lv_imul hx hb dX13_walk_258 ?_
            have z117 : ((4 : Int32) * ((u110.1 0 12) + (u110.1 0 28))).toInt = (4 : Int) * (((u110.1 0 12).toInt) + ((u110.1 0 28).toInt)) := mul_z (show (4 : Int32).toInt = (4 : Int) by decide) z116 (om_0e66946cb4 zwsL80 znuL80 q108 q114 q115 pw109) (om_c9f77f9d4b ztL80 zwsL80 zglL80 znuL80 q108 q114 q115 pw109)
            refine va_put (D := (dC, dI)) (ci := 16) (fs := mF ad u110) (v := .int ((4 : Int32) * ((u110.1 0 12) + (u110.1 0 28)))) (ty := .int) (C := RX13) (T := TX13) (N := 124) hx hb ht itX13 tyX13 tyX13_ok nmX13 hown hK hP hD hS 0 rfl rfl 69 (by decide) (ht _ tw_204) (fun _ h9 => h9) rfl (by decide +kernel) rfl rfl (Nat.le_of_ble_eq_true rfl) dX13_walk_259 (fun H locs hP hD hS => ?_)
            have hP := cP_ (mw_69 ad N cI cZ cJ u110 ((4 : Int32) * ((u110.1 0 12) + (u110.1 0 28)))) hP
            have hD := cD_ (mw_69 ad N cI cZ cJ u110 ((4 : Int32) * ((u110.1 0 12) + (u110.1 0 28)))) hD
            refine lv_aload_n hx hb dX13_walk_262 rfl (lv_at hl 1 rfl) ?_
            refine va_get (D := (dC, dI)) (ci := 16) (fs := mF ad (wA u110 0 69 ((4 : Int32) * ((u110.1 0 12) + (u110.1 0 28))))) (v := .int ((4 : Int32) * ((u110.1 0 12) + (u110.1 0 28)))) (C := RX13) (T := TX13) (N := 124) hx hb ht itX13 hown hK hP 0 rfl rfl 69 (by decide) (ht _ tw_204) (fun _ h9 => h9) rfl dX13_walk_263 ?_
            refine lv_bipush (v := 64) hx hb dX13_walk_266 (by decide) ?_
            refine lv_iadd hx hb dX13_walk_268 ?_
            have z118 : (((4 : Int32) * ((u110.1 0 12) + (u110.1 0 28))) + (64 : Int32)).toInt = ((4 : Int) * (((u110.1 0 12).toInt) + ((u110.1 0 28).toInt))) + (64 : Int) := add_z z117 (show (64 : Int32).toInt = (64 : Int) by decide) (om_74f89cf34c zwsL80 znuL80 q108 q114 q115 pw109) (om_ca5774d678 ztL80 zwsL80 zglL80 znuL80 q108 q114 q115 pw109)
            refine lv_iconst (v := 4) hx hb dX13_walk_269 (by decide) ?_
            refine lv_aload_n hx hb dX13_walk_270 rfl (lv_at hl 1 rfl) ?_
            refine va_get (D := (dC, dI)) (ci := 16) (fs := mF ad (wA u110 0 69 ((4 : Int32) * ((u110.1 0 12) + (u110.1 0 28))))) (v := .ref (ad 96)) (C := RX13) (T := TX13) (N := 124) hx hb ht itX13 hown hK hP 0 rfl rfl 96 (by decide) (ht _ tw_207) (fun _ h9 => h9) rfl dX13_walk_271 ?_
            refine va_alen (D := (dC, dI)) (v := (nI N)) hx hb hK hP 52 0 rfl rfl rfl dX13_walk_274 ?_
            have zN119 : (nI N).toInt = (N : Int) := nI_N (by have := (om_a85b825e17 zN); omega)
            refine lv_imul hx hb dX13_walk_275 ?_
            have z120 : ((4 : Int32) * (nI N)).toInt = (4 : Int) * ((nI N).toInt) := mul_z (show (4 : Int32).toInt = (4 : Int) by decide) rfl (om_41196de75d zN119) (om_160da4e2a4 zN zN119)
            refine lv_icmp_le (tgt := 290) hx hb dX13_walk_276 (by decide) (fun h121 => ?_) (fun h121 => ?_)
            · have z122 : (((4 : Int) * (((u110.1 0 12).toInt) + ((u110.1 0 28).toInt))) + (64 : Int)) ≤ ((4 : Int) * ((nI N).toInt)) := le_z z118 z120 h121
              refine lv_aload_n hx hb dX13_walk_290 rfl (lv_at hl 1 rfl) ?_
              have q123 : (w171.1 0 43).toInt = (w80.1 0 43).toInt := congrArg Int32.toInt ((fwL171.2.1 43 (by decide)).trans (show w80.1 0 43 = (w80.1 0 43) by rfl))
              have q124 : (u110.1 0 43).toInt = (w171.1 0 43).toInt := congrArg Int32.toInt ((fr109.2.1 43 (by decide)).trans (show w171.1 0 43 = (w171.1 0 43) by rfl))
              have q125 : (w171.1 0 22).toInt = (w80.1 0 22).toInt := congrArg Int32.toInt ((fwL171.2.1 22 (by decide)).trans (show w80.1 0 22 = (w80.1 0 22) by rfl))
              have q126 : (u110.1 0 22).toInt = (w171.1 0 22).toInt := congrArg Int32.toInt ((fr109.2.1 22 (by decide)).trans (show w171.1 0 22 = (w171.1 0 22) by rfl))
              refine cu_v (rn_V (n := 0) (As := []) (rest := []) hx hb hml hown ht hKK hFx hP hD hS hA (c_m_addresses l dC dI cI cB cZ cJ cR tb H.size ad N (wA u110 0 69 ((4 : Int32) * ((u110.1 0 12) + (u110.1 0 28))))  (show 0 ≤ (u110.1 0 12).toInt ∧ (u110.1 0 12).toInt ≤ 24000 from (om_17a4325441 zN zwsL80 znuL80 q108 q114 q115 pw109 zN119 z122)) (show 0 ≤ (u110.1 0 43).toInt ∧ (u110.1 0 43).toInt ≤ 24000 from (om_fe9e5267dc ztL80 zfsL80 q123 q124)) (show 0 ≤ (u110.1 0 22).toInt ∧ (u110.1 0 22).toInt ≤ 40 from (om_68f540929a zfnL80 q125 q126)) (show AR 19 0 23900 (wA u110 0 69 ((4 : Int32) * ((u110.1 0 12) + (u110.1 0 28)))) from (AR.o (show AR 19 0 23900 u110 from AR.fr (fl := [12, 67]) (al := [0, 11]) fr109 (by decide) (show AR 19 0 23900 w171 from AR.fr (fl := []) (al := [11, 14]) fwL171 (by decide) a19L80)) (by decide))) (show AR 25 0 60000 (wA u110 0 69 ((4 : Int32) * ((u110.1 0 12) + (u110.1 0 28)))) from (AR.o (show AR 25 0 60000 u110 from AR.fr (fl := [12, 67]) (al := [0, 11]) fr109 (by decide) (show AR 25 0 60000 w171 from AR.fr (fl := []) (al := [11, 14]) fwL171 (by decide) a25L80)) (by decide))) (show AR 40 0 23999 (wA u110 0 69 ((4 : Int32) * ((u110.1 0 12) + (u110.1 0 28)))) from (AR.o (show AR 40 0 23999 u110 from AR.fr (fl := [12, 67]) (al := [0, 11]) fr109 (by decide) (show AR 40 0 23999 w171 from AR.fr (fl := []) (al := [11, 14]) fwL171 (by decide) a40L80)) (by decide))) (show FX (wA u110 0 69 ((4 : Int32) * ((u110.1 0 12) + (u110.1 0 28)))) from (FX.o (show FX u110 from FX.fr (fl := [12, 67]) (al := [0, 11]) fr109 (by decide) (by decide) (show FX w171 from FX.fr (fl := []) (al := [11, 14]) fwL171 (by decide) (by decide) fxL80)) (by decide) (by decide)))) tw_317 tw_318 (by decide +kernel) rfl rfl ⟨show 2 + 1 ≤ 1664 from om_c85d008903, show 8 + (4 + 11) + 46 ≤ 28 * (1664) from om_ca3544fdd9⟩ (List.range (mW ad N cI cZ cJ (wA u110 0 69 ((4 : Int32) * ((u110.1 0 12) + (u110.1 0 28))))).length) (rg_map _) (mW_nd _ _ _ _ _ _) rfl rfl rfl rfl hl.1 rfl (Nat.le_of_ble_eq_true rfl) dX13_walk_291 ⟨Nat.le_of_ble_eq_true rfl, Nat.le_of_ble_eq_true rfl⟩) hP hD hS hA (fun u128 H locs hw127 hP hD hS => ?_)
              have fr127 := hw127
              refine W.widen (k := 0) (n := 0) (Nat.le_refl _) (Nat.le_refl _) ?_
              have q130 : (w171.1 0 15).toInt = (w80.1 0 15).toInt := congrArg Int32.toInt ((fwL171.2.1 15 (by decide)).trans (show w80.1 0 15 = (w80.1 0 15) by rfl))
              have q131 : (w171.1 0 27).toInt = (w80.1 0 27).toInt := congrArg Int32.toInt ((fwL171.2.1 27 (by decide)).trans (show w80.1 0 27 = (w80.1 0 27) by rfl))
              have q132 : (u110.1 0 15).toInt = (w171.1 0 15).toInt := congrArg Int32.toInt ((fr109.2.1 15 (by decide)).trans (show w171.1 0 15 = (w171.1 0 15) by rfl))
              have q133 : (u110.1 0 27).toInt = (w171.1 0 27).toInt := congrArg Int32.toInt ((fr109.2.1 27 (by decide)).trans (show w171.1 0 27 = (w171.1 0 27) by rfl))
              have q134 : (u128.1 0 12).toInt = (u110.1 0 12).toInt := congrArg Int32.toInt ((fr127.2.1 12 (by decide)).trans (show (wA u110 0 69 ((4 : Int32) * ((u110.1 0 12) + (u110.1 0 28)))).1 0 12 = (u110.1 0 12) by rfl))
              have q135 : (u128.1 0 15).toInt = (u110.1 0 15).toInt := congrArg Int32.toInt ((fr127.2.1 15 (by decide)).trans (show (wA u110 0 69 ((4 : Int32) * ((u110.1 0 12) + (u110.1 0 28)))).1 0 15 = (u110.1 0 15) by rfl))
              have q136 : (u128.1 0 22).toInt = (u110.1 0 22).toInt := congrArg Int32.toInt ((fr127.2.1 22 (by decide)).trans (show (wA u110 0 69 ((4 : Int32) * ((u110.1 0 12) + (u110.1 0 28)))).1 0 22 = (u110.1 0 22) by rfl))
              have q137 : (u128.1 0 27).toInt = (u110.1 0 27).toInt := congrArg Int32.toInt ((fr127.2.1 27 (by decide)).trans (show (wA u110 0 69 ((4 : Int32) * ((u110.1 0 12) + (u110.1 0 28)))).1 0 27 = (u110.1 0 27) by rfl))
              have q138 : (u128.1 0 28).toInt = (u110.1 0 28).toInt := congrArg Int32.toInt ((fr127.2.1 28 (by decide)).trans (show (wA u110 0 69 ((4 : Int32) * ((u110.1 0 12) + (u110.1 0 28)))).1 0 28 = (u110.1 0 28) by rfl))
              have q139 : (u128.1 0 69).toInt = ((4 : Int32) * ((u110.1 0 12) + (u110.1 0 28))).toInt := congrArg Int32.toInt ((fr127.2.1 69 (by decide)).trans (show (wA u110 0 69 ((4 : Int32) * ((u110.1 0 12) + (u110.1 0 28)))).1 0 69 = ((4 : Int32) * ((u110.1 0 12) + (u110.1 0 28))) by rfl))
              have q140 : (w171.1 0 39).toInt = (w80.1 0 39).toInt := congrArg Int32.toInt ((fwL171.2.1 39 (by decide)).trans (show w80.1 0 39 = (w80.1 0 39) by rfl))
              refine vx_ret ?_
              exact W.vret hx hb hr (fun t ht9 hW => ⟨⟨u128, rfl, ⟨(FG.tr (FG.f (FG.tr (FG.tr (FG.tr (FG.rf _) (FG.up fwL80 (by decide) (by decide))) (FG.up fwL171 (by decide) (by decide))) (FG.up fr109 (by decide) (by decide))) ((4 : Int32) * ((u110.1 0 12) + (u110.1 0 28))) (by decide)) (FG.up fr127 (by decide) (by decide))), (show 0 ≤ (u128.1 0 12).toInt ∧ (u128.1 0 12).toInt ≤ 24000 ∧ 0 ≤ (u128.1 0 15).toInt ∧ (u128.1 0 15).toInt ≤ 16000 ∧ 0 ≤ (u128.1 0 22).toInt ∧ (u128.1 0 22).toInt ≤ 40 ∧ 0 ≤ (u128.1 0 27).toInt ∧ (u128.1 0 27).toInt ≤ 60 ∧ 0 ≤ (u128.1 0 28).toInt ∧ (u128.1 0 28).toInt ≤ 4096 ∧ 0 ≤ (u128.1 0 69).toInt ∧ (u128.1 0 69).toInt + 64 ≤ 4 * (N : Int) from (om_0d6cba3ed3 zN ztL80 zwsL80 zosL80 zglL80 zfnL80 znuL80 q108 q130 q125 q131 q114 q132 q126 q133 q115 pw109 z117 zN119 z122 q134 q135 q136 q137 q138 q139)), (show AR 16 0 1500 u128 from AR.fr (fl := []) (al := [11]) fr127 (by decide) (AR.o (show AR 16 0 1500 u110 from AR.fr (fl := [12, 67]) (al := [0, 11]) fr109 (by decide) (show AR 16 0 1500 w171 from AR.fr (fl := []) (al := [11, 14]) fwL171 (by decide) a16L80)) (by decide))), (show AR 17 0 8 u128 from AR.fr (fl := []) (al := [11]) fr127 (by decide) (AR.o (show AR 17 0 8 u110 from AR.fr (fl := [12, 67]) (al := [0, 11]) fr109 (by decide) (show AR 17 0 8 w171 from AR.fr (fl := []) (al := [11, 14]) fwL171 (by decide) a17L80)) (by decide))), (show AR 18 0 2008 u128 from AR.fr (fl := []) (al := [11]) fr127 (by decide) (AR.o (show AR 18 0 2008 u110 from AR.fr (fl := [12, 67]) (al := [0, 11]) fr109 (by decide) (show AR 18 0 2008 w171 from AR.fr (fl := []) (al := [11, 14]) fwL171 (by decide) a18L80)) (by decide))), (show AR 19 0 23900 u128 from AR.fr (fl := []) (al := [11]) fr127 (by decide) (AR.o (show AR 19 0 23900 u110 from AR.fr (fl := [12, 67]) (al := [0, 11]) fr109 (by decide) (show AR 19 0 23900 w171 from AR.fr (fl := []) (al := [11, 14]) fwL171 (by decide) a19L80)) (by decide))), (show AR 20 0 15999 u128 from AR.fr (fl := []) (al := [11]) fr127 (by decide) (AR.o (show AR 20 0 15999 u110 from AR.fr (fl := [12, 67]) (al := [0, 11]) fr109 (by decide) (show AR 20 0 15999 w171 from AR.fr (fl := []) (al := [11, 14]) fwL171 (by decide) a20L80)) (by decide))), (show AR 21 0 500 u128 from AR.fr (fl := []) (al := [11]) fr127 (by decide) (AR.o (show AR 21 0 500 u110 from AR.fr (fl := [12, 67]) (al := [0, 11]) fr109 (by decide) (show AR 21 0 500 w171 from AR.fr (fl := []) (al := [11, 14]) fwL171 (by decide) a21L80)) (by decide))), (show AR 23 0 1500 u128 from AR.fr (fl := []) (al := [11]) fr127 (by decide) (AR.o (show AR 23 0 1500 u110 from AR.fr (fl := [12, 67]) (al := [0, 11]) fr109 (by decide) (show AR 23 0 1500 w171 from AR.fr (fl := []) (al := [11, 14]) fwL171 (by decide) a23L80)) (by decide))), (show AR 24 0 1000 u128 from AR.fr (fl := []) (al := [11]) fr127 (by decide) (AR.o (show AR 24 0 1000 u110 from AR.fr (fl := [12, 67]) (al := [0, 11]) fr109 (by decide) (show AR 24 0 1000 w171 from AR.fr (fl := []) (al := [11, 14]) fwL171 (by decide) a24L80)) (by decide))), (show AR 25 0 60000 u128 from AR.fr (fl := []) (al := [11]) fr127 (by decide) (AR.o (show AR 25 0 60000 u110 from AR.fr (fl := [12, 67]) (al := [0, 11]) fr109 (by decide) (show AR 25 0 60000 w171 from AR.fr (fl := []) (al := [11, 14]) fwL171 (by decide) a25L80)) (by decide))), (show AR 29 0 1500 u128 from AR.fr (fl := []) (al := [11]) fr127 (by decide) (AR.o (show AR 29 0 1500 u110 from AR.fr (fl := [12, 67]) (al := [0, 11]) fr109 (by decide) (show AR 29 0 1500 w171 from AR.fr (fl := []) (al := [11, 14]) fwL171 (by decide) a29L80)) (by decide))), (show AR 35 0 1500 u128 from AR.fr (fl := []) (al := [11]) fr127 (by decide) (AR.o (show AR 35 0 1500 u110 from AR.fr (fl := [12, 67]) (al := [0, 11]) fr109 (by decide) (show AR 35 0 1500 w171 from AR.fr (fl := []) (al := [11, 14]) fwL171 (by decide) a35L80)) (by decide))), (show AR 37 0 23999 u128 from AR.fr (fl := []) (al := [11]) fr127 (by decide) (AR.o (show AR 37 0 23999 u110 from AR.fr (fl := [12, 67]) (al := [0, 11]) fr109 (by decide) (show AR 37 0 23999 w171 from AR.fr (fl := []) (al := [11, 14]) fwL171 (by decide) a37L80)) (by decide))), (show AR 38 0 15999 u128 from AR.fr (fl := []) (al := [11]) fr127 (by decide) (AR.o (show AR 38 0 15999 u110 from AR.fr (fl := [12, 67]) (al := [0, 11]) fr109 (by decide) (show AR 38 0 15999 w171 from AR.fr (fl := []) (al := [11, 14]) fwL171 (by decide) a38L80)) (by decide))), (show AR 40 0 23999 u128 from AR.fr (fl := []) (al := [11]) fr127 (by decide) (AR.o (show AR 40 0 23999 u110 from AR.fr (fl := [12, 67]) (al := [0, 11]) fr109 (by decide) (show AR 40 0 23999 w171 from AR.fr (fl := []) (al := [11, 14]) fwL171 (by decide) a40L80)) (by decide))), (show FX u128 from FX.fr (fl := []) (al := [11]) fr127 (by decide) (by decide) (FX.o (show FX u110 from FX.fr (fl := [12, 67]) (al := [0, 11]) fr109 (by decide) (by decide) (show FX w171 from FX.fr (fl := []) (al := [11, 14]) fwL171 (by decide) (by decide) fxL80)) (by decide) (by decide))), (GF.fr (fl := []) (al := [11]) fr127 (by decide) (by decide) (GF.of (GF.fr (fl := [12, 67]) (al := [0, 11]) fr109 (by decide) (by decide) (GF.fr (fl := []) (al := [11, 14]) fwL171 (by decide) (by decide) gfL80)) (by decide))), (PG.two (v := w80) (w := u128) (k := kb) pgL80 (show kb.toInt = (w80.1 0 39).toInt from (om_e6a323412f e1L171 q140 z36)) (fun c9 h9 => ckL101 c9 (Int.lt_of_lt_of_le h9 (show kb.toInt ≤ ka.toInt from (om_99338c14df z34 e1L171)))) (by rw [show (u128).1 14 = w171.1 14 from (Eq.trans (fr127.2.2 14 (by decide)) (fr109.2.2 14 (by decide)))]; exact rwL171) (fun k9 h9 => by rcases mem4 h9 with rfl | rfl | rfl | rfl <;> first | exact (show (u128).1 0 15 = w80.1 0 15 from (Eq.trans (fr127.2.1 15 (by decide)) (Eq.trans (fr109.2.1 15 (by decide)) (fwL171.2.1 15 (by decide))))) | exact (show (u128).1 0 22 = w80.1 0 22 from (Eq.trans (fr127.2.1 22 (by decide)) (Eq.trans (fr109.2.1 22 (by decide)) (fwL171.2.1 22 (by decide))))) | exact (show (u128).1 0 27 = w80.1 0 27 from (Eq.trans (fr127.2.1 27 (by decide)) (Eq.trans (fr109.2.1 27 (by decide)) (fwL171.2.1 27 (by decide))))) | exact (show (u128).1 0 28 = w80.1 0 28 from (Eq.trans (fr127.2.1 28 (by decide)) (Eq.trans (fr109.2.1 28 (by decide)) (fwL171.2.1 28 (by decide)))))) (fun k9 h9 => by rcases mem5 h9 with rfl | rfl | rfl | rfl | rfl <;> first | exact (show (u128).1 13 = w80.1 13 from (Eq.trans (fr127.2.2 13 (by decide)) (Eq.trans (fr109.2.2 13 (by decide)) (fwL171.2.2 13 (by decide))))) | exact (show (u128).1 17 = w80.1 17 from (Eq.trans (fr127.2.2 17 (by decide)) (Eq.trans (fr109.2.2 17 (by decide)) (fwL171.2.2 17 (by decide))))) | exact (show (u128).1 18 = w80.1 18 from (Eq.trans (fr127.2.2 18 (by decide)) (Eq.trans (fr109.2.2 18 (by decide)) (fwL171.2.2 18 (by decide))))) | exact (show (u128).1 20 = w80.1 20 from (Eq.trans (fr127.2.2 20 (by decide)) (Eq.trans (fr109.2.2 20 (by decide)) (fwL171.2.2 20 (by decide))))) | exact (show (u128).1 21 = w80.1 21 from (Eq.trans (fr127.2.2 21 (by decide)) (Eq.trans (fr109.2.2 21 (by decide)) (fwL171.2.2 21 (by decide))))))), (fun hiv => (IV.fr (fl := []) (al := [11]) fr127 (by decide) (IV.o (IV.fr (fl := [12, 67]) (al := [0, 11]) fr109 (by decide) (IV.fr (fl := []) (al := [11, 14]) fwL171 (by decide) (ivL80 hiv))) (by decide))))⟩, by rw [ht9]; exact hP, hD⟩, hS.F ht9⟩) hS.2.2 dX13_walk_294
            · have z141 : ((4 : Int) * ((nI N).toInt)) < (((4 : Int) * (((u110.1 0 12).toInt) + ((u110.1 0 28).toInt))) + (64 : Int)) := nle_z z118 z120 h121
              refine lv_aload_n hx hb dX13_walk_279 rfl (lv_at hl 1 rfl) ?_
              refine lv_bipush (v := 7) hx hb dX13_walk_280 (by decide) ?_
              refine lv_aload_n hx hb dX13_walk_282 rfl (lv_at hl 1 rfl) ?_
              refine va_get (D := (dC, dI)) (ci := 16) (fs := mF ad (wA u110 0 69 ((4 : Int32) * ((u110.1 0 12) + (u110.1 0 28))))) (v := .int (u110.1 0 47)) (C := RX13) (T := TX13) (N := 124) hx hb ht itX13 hown hK hP 0 rfl rfl 47 (by decide) (ht _ tw_24) (fun _ h9 => h9) rfl dX13_walk_283 ?_
              have q142 : (w171.1 0 47).toInt = (w80.1 0 47).toInt := congrArg Int32.toInt ((fwL171.2.1 47 (by decide)).trans (show w80.1 0 47 = (w80.1 0 47) by rfl))
              have q143 : (u110.1 0 47).toInt = (w171.1 0 47).toInt := congrArg Int32.toInt ((fr109.2.1 47 (by decide)).trans (show w171.1 0 47 = (w171.1 0 47) by rfl))
              refine cu_r (rn_V (n := 2) (As := [.int 7, .int (u110.1 0 47)]) (rest := []) hx hb hml hown ht hKK hFx hP hD hS hA (c_m_fail l dC dI cI cB cZ cJ cR tb H.size ad N (wA u110 0 69 ((4 : Int32) * ((u110.1 0 12) + (u110.1 0 28)))) (7 : Int32) (u110.1 0 47) (show 0 ≤ (u110.1 0 47).toInt ∧ (u110.1 0 47).toInt < 4002 from (om_a484ee19eb ztL80 zfsL80 q142 q143))) tw_25 tw_26 (by decide +kernel) rfl rfl ⟨show 0 + 1 ≤ 1664 from om_9487016820, show 8 + (3 + 11) + 0 ≤ 28 * (1664) from om_0b7ae4ecc7⟩ (List.range (mW ad N cI cZ cJ (wA u110 0 69 ((4 : Int32) * ((u110.1 0 12) + (u110.1 0 28))))).length) (rg_map _) (mW_nd _ _ _ _ _ _) rfl rfl rfl rfl hl.1 rfl (Nat.le_of_ble_eq_true rfl) dX13_walk_286 ⟨Nat.le_of_ble_eq_true rfl, Nat.le_of_ble_eq_true rfl⟩) hP hD hS hA (fun u145 H locs hw144 hP hD hS => ?_)
              obtain rfl := hw144
              have hP : va_P (dC, dI) vwCl (mW ad N cI cZ cJ (wA (wA (wA u110 0 69 ((4 : Int32) * ((u110.1 0 12) + (u110.1 0 28)))) 0 50 (7 : Int32)) 0 51 ((u110.1 7) (u110.1 0 47).toNatClampNeg))) H := hP
              have hD : va_D A (mW ad N cI cZ cJ (wA (wA (wA u110 0 69 ((4 : Int32) * ((u110.1 0 12) + (u110.1 0 28)))) 0 50 (7 : Int32)) 0 51 ((u110.1 7) (u110.1 0 47).toNatClampNeg))) := hD
              refine W.widen (k := 0) (n := 0) (Nat.le_refl _) (Nat.le_refl _) ?_
              obtain ⟨ce9, hc9, hv9, hf9⟩ := halt_at hK hP
              refine um_athrow hx hb dX13_walk_289 ?_
              exact vx_out (fun x h9 => (hnt x h9).elim) hlocks hc9 hv9 hf9 (fun t9 ht9 hv8 => ⟨(wA (wA (wA u110 0 69 ((4 : Int32) * ((u110.1 0 12) + (u110.1 0 28)))) 0 50 (7 : Int32)) 0 51 ((u110.1 7) (u110.1 0 47).toNatClampNeg)), ⟨(FG.f (FG.f (FG.f (FG.tr (FG.tr (FG.tr (FG.rf _) (FG.up fwL80 (by decide) (by decide))) (FG.up fwL171 (by decide) (by decide))) (FG.up fr109 (by decide) (by decide))) ((4 : Int32) * ((u110.1 0 12) + (u110.1 0 28))) (by decide)) (7 : Int32) (by decide)) ((u110.1 7) (u110.1 0 47).toNatClampNeg) (by decide)), fun hiv => (IV.o (IV.o (IV.o (IV.fr (fl := [12, 67]) (al := [0, 11]) fr109 (by decide) (IV.fr (fl := []) (al := [11, 14]) fwL171 (by decide) (ivL80 hiv))) (by decide)) (by decide)) (by decide))⟩, ⟨rfl, by rw [ht9]; exact hP, hD⟩, hS.F ht9⟩) hS.2.2 (Nat.le_refl _) (Nat.le_refl _)
          · have z147 : (u110.1 0 45).toInt ≠ (0 : Int) := ne_z rfl (show (0 : Int32).toInt = (0 : Int) by decide) h112
            refine lv_aload_n hx hb dX13_walk_243 rfl (lv_at hl 1 rfl) ?_
            refine cu_v (rn_V (n := 0) (As := []) (rest := []) hx hb hml hown ht hKK hFx hP hD hS hA (c_m_dividing l dC dI cI cB cZ cJ cR tb H.size ad N u110  (show 0 ≤ (u110.1 0 12).toInt ∧ (u110.1 0 12).toInt ≤ 23950 from (om_04283d784f ztL80 zwsL80 q108 pw109))) tw_319 tw_320 (by decide +kernel) rfl rfl ⟨show 2 + 1 ≤ 1664 from om_c85d008903, show 8 + (1 + 11) + 46 ≤ 28 * (1664) from om_edc850ecee⟩ (List.range (mW ad N cI cZ cJ u110).length) (rg_map _) (mW_nd _ _ _ _ _ _) rfl rfl rfl rfl hl.1 rfl (Nat.le_of_ble_eq_true rfl) dX13_walk_244 ⟨Nat.le_of_ble_eq_true rfl, Nat.le_of_ble_eq_true rfl⟩) hP hD hS hA (fun u149 H locs hw148 hP hD hS => ?_)
            obtain ⟨fr148, pw148⟩ := hw148
            have pw148 : (u149.1 0 12).toInt = (u110.1 0 12).toInt + 26 := pw148
            refine W.widen (k := 0) (n := 0) (Nat.le_refl _) (Nat.le_refl _) ?_
            refine lv_aload_n hx hb dX13_walk_247 rfl (lv_at hl 1 rfl) ?_
            refine lv_iconst (v := 4) hx hb dX13_walk_248 (by decide) ?_
            refine lv_aload_n hx hb dX13_walk_249 rfl (lv_at hl 1 rfl) ?_
            refine va_get (D := (dC, dI)) (ci := 16) (fs := mF ad u149) (v := .int (u149.1 0 12)) (C := RX13) (T := TX13) (N := 124) hx hb ht itX13 hown hK hP 0 rfl rfl 12 (by decide) (ht _ tw_7) (fun _ h9 => h9) rfl dX13_walk_250 ?_
            refine lv_aload_n hx hb dX13_walk_253 rfl (lv_at hl 1 rfl) ?_
            refine va_get (D := (dC, dI)) (ci := 16) (fs := mF ad u149) (v := .int (u149.1 0 28)) (C := RX13) (T := TX13) (N := 124) hx hb ht itX13 hown hK hP 0 rfl rfl 28 (by decide) (ht _ tw_198) (fun _ h9 => h9) rfl dX13_walk_254 ?_
            refine lv_iadd hx hb dX13_walk_257 ?_
            have q151 : (w171.1 0 28).toInt = (w80.1 0 28).toInt := congrArg Int32.toInt ((fwL171.2.1 28 (by decide)).trans (show w80.1 0 28 = (w80.1 0 28) by rfl))
            have q152 : (u110.1 0 28).toInt = (w171.1 0 28).toInt := congrArg Int32.toInt ((fr109.2.1 28 (by decide)).trans (show w171.1 0 28 = (w171.1 0 28) by rfl))
            have q153 : (u149.1 0 28).toInt = (u110.1 0 28).toInt := congrArg Int32.toInt ((fr148.2.1 28 (by decide)).trans (show u110.1 0 28 = (u110.1 0 28) by rfl))
            have z154 : ((u149.1 0 12) + (u149.1 0 28)).toInt = ((u149.1 0 12).toInt) + ((u149.1 0 28).toInt) := add_z rfl rfl (om_f7037ec1d1 zwsL80 znuL80 q108 q151 q152 pw109 q153 pw148) (om_2950846155 ztL80 zwsL80 zglL80 znuL80 q108 q151 q152 pw109 q153 pw148)
            refine lv_imul hx hb dX13_walk_258 ?_
            have z155 : ((4 : Int32) * ((u149.1 0 12) + (u149.1 0 28))).toInt = (4 : Int) * (((u149.1 0 12).toInt) + ((u149.1 0 28).toInt)) := mul_z (show (4 : Int32).toInt = (4 : Int) by decide) z154 (om_8589859c3a zwsL80 znuL80 q108 q151 q152 pw109 q153 pw148) (om_a3c20b68b7 ztL80 zwsL80 zglL80 znuL80 q108 q151 q152 pw109 q153 pw148)
            refine va_put (D := (dC, dI)) (ci := 16) (fs := mF ad u149) (v := .int ((4 : Int32) * ((u149.1 0 12) + (u149.1 0 28)))) (ty := .int) (C := RX13) (T := TX13) (N := 124) hx hb ht itX13 tyX13 tyX13_ok nmX13 hown hK hP hD hS 0 rfl rfl 69 (by decide) (ht _ tw_204) (fun _ h9 => h9) rfl (by decide +kernel) rfl rfl (Nat.le_of_ble_eq_true rfl) dX13_walk_259 (fun H locs hP hD hS => ?_)
            have hP := cP_ (mw_69 ad N cI cZ cJ u149 ((4 : Int32) * ((u149.1 0 12) + (u149.1 0 28)))) hP
            have hD := cD_ (mw_69 ad N cI cZ cJ u149 ((4 : Int32) * ((u149.1 0 12) + (u149.1 0 28)))) hD
            refine lv_aload_n hx hb dX13_walk_262 rfl (lv_at hl 1 rfl) ?_
            refine va_get (D := (dC, dI)) (ci := 16) (fs := mF ad (wA u149 0 69 ((4 : Int32) * ((u149.1 0 12) + (u149.1 0 28))))) (v := .int ((4 : Int32) * ((u149.1 0 12) + (u149.1 0 28)))) (C := RX13) (T := TX13) (N := 124) hx hb ht itX13 hown hK hP 0 rfl rfl 69 (by decide) (ht _ tw_204) (fun _ h9 => h9) rfl dX13_walk_263 ?_
            refine lv_bipush (v := 64) hx hb dX13_walk_266 (by decide) ?_
            refine lv_iadd hx hb dX13_walk_268 ?_
            have z156 : (((4 : Int32) * ((u149.1 0 12) + (u149.1 0 28))) + (64 : Int32)).toInt = ((4 : Int) * (((u149.1 0 12).toInt) + ((u149.1 0 28).toInt))) + (64 : Int) := add_z z155 (show (64 : Int32).toInt = (64 : Int) by decide) (om_4a15b2943a zwsL80 znuL80 q108 q151 q152 pw109 q153 pw148) (om_2cdfe9e40d ztL80 zwsL80 zglL80 znuL80 q108 q151 q152 pw109 q153 pw148)
            refine lv_iconst (v := 4) hx hb dX13_walk_269 (by decide) ?_
            refine lv_aload_n hx hb dX13_walk_270 rfl (lv_at hl 1 rfl) ?_
            refine va_get (D := (dC, dI)) (ci := 16) (fs := mF ad (wA u149 0 69 ((4 : Int32) * ((u149.1 0 12) + (u149.1 0 28))))) (v := .ref (ad 96)) (C := RX13) (T := TX13) (N := 124) hx hb ht itX13 hown hK hP 0 rfl rfl 96 (by decide) (ht _ tw_207) (fun _ h9 => h9) rfl dX13_walk_271 ?_
            refine va_alen (D := (dC, dI)) (v := (nI N)) hx hb hK hP 52 0 rfl rfl rfl dX13_walk_274 ?_
            have zN157 : (nI N).toInt = (N : Int) := nI_N (by have := (om_a85b825e17 zN); omega)
            refine lv_imul hx hb dX13_walk_275 ?_
            have z158 : ((4 : Int32) * (nI N)).toInt = (4 : Int) * ((nI N).toInt) := mul_z (show (4 : Int32).toInt = (4 : Int) by decide) rfl (om_41196de75d zN157) (om_160da4e2a4 zN zN157)
            refine lv_icmp_le (tgt := 290) hx hb dX13_walk_276 (by decide) (fun h159 => ?_) (fun h159 => ?_)
            · have z160 : (((4 : Int) * (((u149.1 0 12).toInt) + ((u149.1 0 28).toInt))) + (64 : Int)) ≤ ((4 : Int) * ((nI N).toInt)) := le_z z156 z158 h159
              refine lv_aload_n hx hb dX13_walk_290 rfl (lv_at hl 1 rfl) ?_
              have q161 : (w171.1 0 43).toInt = (w80.1 0 43).toInt := congrArg Int32.toInt ((fwL171.2.1 43 (by decide)).trans (show w80.1 0 43 = (w80.1 0 43) by rfl))
              have q162 : (u110.1 0 43).toInt = (w171.1 0 43).toInt := congrArg Int32.toInt ((fr109.2.1 43 (by decide)).trans (show w171.1 0 43 = (w171.1 0 43) by rfl))
              have q163 : (u149.1 0 43).toInt = (u110.1 0 43).toInt := congrArg Int32.toInt ((fr148.2.1 43 (by decide)).trans (show u110.1 0 43 = (u110.1 0 43) by rfl))
              have q164 : (w171.1 0 22).toInt = (w80.1 0 22).toInt := congrArg Int32.toInt ((fwL171.2.1 22 (by decide)).trans (show w80.1 0 22 = (w80.1 0 22) by rfl))
              have q165 : (u110.1 0 22).toInt = (w171.1 0 22).toInt := congrArg Int32.toInt ((fr109.2.1 22 (by decide)).trans (show w171.1 0 22 = (w171.1 0 22) by rfl))
              have q166 : (u149.1 0 22).toInt = (u110.1 0 22).toInt := congrArg Int32.toInt ((fr148.2.1 22 (by decide)).trans (show u110.1 0 22 = (u110.1 0 22) by rfl))
              refine cu_v (rn_V (n := 0) (As := []) (rest := []) hx hb hml hown ht hKK hFx hP hD hS hA (c_m_addresses l dC dI cI cB cZ cJ cR tb H.size ad N (wA u149 0 69 ((4 : Int32) * ((u149.1 0 12) + (u149.1 0 28))))  (show 0 ≤ (u149.1 0 12).toInt ∧ (u149.1 0 12).toInt ≤ 24000 from (om_1233daa01e zN zwsL80 znuL80 q108 q151 q152 pw109 q153 pw148 zN157 z160)) (show 0 ≤ (u149.1 0 43).toInt ∧ (u149.1 0 43).toInt ≤ 24000 from (om_b6ae5a6d21 ztL80 zfsL80 q161 q162 q163)) (show 0 ≤ (u149.1 0 22).toInt ∧ (u149.1 0 22).toInt ≤ 40 from (om_91b0537b40 zfnL80 q164 q165 q166)) (show AR 19 0 23900 (wA u149 0 69 ((4 : Int32) * ((u149.1 0 12) + (u149.1 0 28)))) from (AR.o (show AR 19 0 23900 u149 from AR.fr (fl := [12, 68]) (al := [0, 11]) fr148 (by decide) (show AR 19 0 23900 u110 from AR.fr (fl := [12, 67]) (al := [0, 11]) fr109 (by decide) (show AR 19 0 23900 w171 from AR.fr (fl := []) (al := [11, 14]) fwL171 (by decide) a19L80))) (by decide))) (show AR 25 0 60000 (wA u149 0 69 ((4 : Int32) * ((u149.1 0 12) + (u149.1 0 28)))) from (AR.o (show AR 25 0 60000 u149 from AR.fr (fl := [12, 68]) (al := [0, 11]) fr148 (by decide) (show AR 25 0 60000 u110 from AR.fr (fl := [12, 67]) (al := [0, 11]) fr109 (by decide) (show AR 25 0 60000 w171 from AR.fr (fl := []) (al := [11, 14]) fwL171 (by decide) a25L80))) (by decide))) (show AR 40 0 23999 (wA u149 0 69 ((4 : Int32) * ((u149.1 0 12) + (u149.1 0 28)))) from (AR.o (show AR 40 0 23999 u149 from AR.fr (fl := [12, 68]) (al := [0, 11]) fr148 (by decide) (show AR 40 0 23999 u110 from AR.fr (fl := [12, 67]) (al := [0, 11]) fr109 (by decide) (show AR 40 0 23999 w171 from AR.fr (fl := []) (al := [11, 14]) fwL171 (by decide) a40L80))) (by decide))) (show FX (wA u149 0 69 ((4 : Int32) * ((u149.1 0 12) + (u149.1 0 28)))) from (FX.o (show FX u149 from FX.fr (fl := [12, 68]) (al := [0, 11]) fr148 (by decide) (by decide) (show FX u110 from FX.fr (fl := [12, 67]) (al := [0, 11]) fr109 (by decide) (by decide) (show FX w171 from FX.fr (fl := []) (al := [11, 14]) fwL171 (by decide) (by decide) fxL80))) (by decide) (by decide)))) tw_317 tw_318 (by decide +kernel) rfl rfl ⟨show 2 + 1 ≤ 1664 from om_c85d008903, show 8 + (4 + 11) + 46 ≤ 28 * (1664) from om_ca3544fdd9⟩ (List.range (mW ad N cI cZ cJ (wA u149 0 69 ((4 : Int32) * ((u149.1 0 12) + (u149.1 0 28))))).length) (rg_map _) (mW_nd _ _ _ _ _ _) rfl rfl rfl rfl hl.1 rfl (Nat.le_of_ble_eq_true rfl) dX13_walk_291 ⟨Nat.le_of_ble_eq_true rfl, Nat.le_of_ble_eq_true rfl⟩) hP hD hS hA (fun u168 H locs hw167 hP hD hS => ?_)
              have fr167 := hw167
              refine W.widen (k := 0) (n := 0) (Nat.le_refl _) (Nat.le_refl _) ?_
              have q170 : (w171.1 0 15).toInt = (w80.1 0 15).toInt := congrArg Int32.toInt ((fwL171.2.1 15 (by decide)).trans (show w80.1 0 15 = (w80.1 0 15) by rfl))
              have q171 : (w171.1 0 27).toInt = (w80.1 0 27).toInt := congrArg Int32.toInt ((fwL171.2.1 27 (by decide)).trans (show w80.1 0 27 = (w80.1 0 27) by rfl))
              have q172 : (u110.1 0 15).toInt = (w171.1 0 15).toInt := congrArg Int32.toInt ((fr109.2.1 15 (by decide)).trans (show w171.1 0 15 = (w171.1 0 15) by rfl))
              have q173 : (u110.1 0 27).toInt = (w171.1 0 27).toInt := congrArg Int32.toInt ((fr109.2.1 27 (by decide)).trans (show w171.1 0 27 = (w171.1 0 27) by rfl))
              have q174 : (u149.1 0 15).toInt = (u110.1 0 15).toInt := congrArg Int32.toInt ((fr148.2.1 15 (by decide)).trans (show u110.1 0 15 = (u110.1 0 15) by rfl))
              have q175 : (u149.1 0 27).toInt = (u110.1 0 27).toInt := congrArg Int32.toInt ((fr148.2.1 27 (by decide)).trans (show u110.1 0 27 = (u110.1 0 27) by rfl))
              have q176 : (u168.1 0 12).toInt = (u149.1 0 12).toInt := congrArg Int32.toInt ((fr167.2.1 12 (by decide)).trans (show (wA u149 0 69 ((4 : Int32) * ((u149.1 0 12) + (u149.1 0 28)))).1 0 12 = (u149.1 0 12) by rfl))
              have q177 : (u168.1 0 15).toInt = (u149.1 0 15).toInt := congrArg Int32.toInt ((fr167.2.1 15 (by decide)).trans (show (wA u149 0 69 ((4 : Int32) * ((u149.1 0 12) + (u149.1 0 28)))).1 0 15 = (u149.1 0 15) by rfl))
              have q178 : (u168.1 0 22).toInt = (u149.1 0 22).toInt := congrArg Int32.toInt ((fr167.2.1 22 (by decide)).trans (show (wA u149 0 69 ((4 : Int32) * ((u149.1 0 12) + (u149.1 0 28)))).1 0 22 = (u149.1 0 22) by rfl))
              have q179 : (u168.1 0 27).toInt = (u149.1 0 27).toInt := congrArg Int32.toInt ((fr167.2.1 27 (by decide)).trans (show (wA u149 0 69 ((4 : Int32) * ((u149.1 0 12) + (u149.1 0 28)))).1 0 27 = (u149.1 0 27) by rfl))
              have q180 : (u168.1 0 28).toInt = (u149.1 0 28).toInt := congrArg Int32.toInt ((fr167.2.1 28 (by decide)).trans (show (wA u149 0 69 ((4 : Int32) * ((u149.1 0 12) + (u149.1 0 28)))).1 0 28 = (u149.1 0 28) by rfl))
              have q181 : (u168.1 0 69).toInt = ((4 : Int32) * ((u149.1 0 12) + (u149.1 0 28))).toInt := congrArg Int32.toInt ((fr167.2.1 69 (by decide)).trans (show (wA u149 0 69 ((4 : Int32) * ((u149.1 0 12) + (u149.1 0 28)))).1 0 69 = ((4 : Int32) * ((u149.1 0 12) + (u149.1 0 28))) by rfl))
              have q182 : (w171.1 0 39).toInt = (w80.1 0 39).toInt := congrArg Int32.toInt ((fwL171.2.1 39 (by decide)).trans (show w80.1 0 39 = (w80.1 0 39) by rfl))
              refine vx_ret ?_
              exact W.vret hx hb hr (fun t ht9 hW => ⟨⟨u168, rfl, ⟨(FG.tr (FG.f (FG.tr (FG.tr (FG.tr (FG.tr (FG.rf _) (FG.up fwL80 (by decide) (by decide))) (FG.up fwL171 (by decide) (by decide))) (FG.up fr109 (by decide) (by decide))) (FG.up fr148 (by decide) (by decide))) ((4 : Int32) * ((u149.1 0 12) + (u149.1 0 28))) (by decide)) (FG.up fr167 (by decide) (by decide))), (show 0 ≤ (u168.1 0 12).toInt ∧ (u168.1 0 12).toInt ≤ 24000 ∧ 0 ≤ (u168.1 0 15).toInt ∧ (u168.1 0 15).toInt ≤ 16000 ∧ 0 ≤ (u168.1 0 22).toInt ∧ (u168.1 0 22).toInt ≤ 40 ∧ 0 ≤ (u168.1 0 27).toInt ∧ (u168.1 0 27).toInt ≤ 60 ∧ 0 ≤ (u168.1 0 28).toInt ∧ (u168.1 0 28).toInt ≤ 4096 ∧ 0 ≤ (u168.1 0 69).toInt ∧ (u168.1 0 69).toInt + 64 ≤ 4 * (N : Int) from (om_d493edb7ca zN ztL80 zwsL80 zosL80 zglL80 zfnL80 znuL80 q108 q170 q164 q171 q151 q172 q165 q173 q152 pw109 q174 q166 q175 q153 pw148 z155 zN157 z160 q176 q177 q178 q179 q180 q181)), (show AR 16 0 1500 u168 from AR.fr (fl := []) (al := [11]) fr167 (by decide) (AR.o (show AR 16 0 1500 u149 from AR.fr (fl := [12, 68]) (al := [0, 11]) fr148 (by decide) (show AR 16 0 1500 u110 from AR.fr (fl := [12, 67]) (al := [0, 11]) fr109 (by decide) (show AR 16 0 1500 w171 from AR.fr (fl := []) (al := [11, 14]) fwL171 (by decide) a16L80))) (by decide))), (show AR 17 0 8 u168 from AR.fr (fl := []) (al := [11]) fr167 (by decide) (AR.o (show AR 17 0 8 u149 from AR.fr (fl := [12, 68]) (al := [0, 11]) fr148 (by decide) (show AR 17 0 8 u110 from AR.fr (fl := [12, 67]) (al := [0, 11]) fr109 (by decide) (show AR 17 0 8 w171 from AR.fr (fl := []) (al := [11, 14]) fwL171 (by decide) a17L80))) (by decide))), (show AR 18 0 2008 u168 from AR.fr (fl := []) (al := [11]) fr167 (by decide) (AR.o (show AR 18 0 2008 u149 from AR.fr (fl := [12, 68]) (al := [0, 11]) fr148 (by decide) (show AR 18 0 2008 u110 from AR.fr (fl := [12, 67]) (al := [0, 11]) fr109 (by decide) (show AR 18 0 2008 w171 from AR.fr (fl := []) (al := [11, 14]) fwL171 (by decide) a18L80))) (by decide))), (show AR 19 0 23900 u168 from AR.fr (fl := []) (al := [11]) fr167 (by decide) (AR.o (show AR 19 0 23900 u149 from AR.fr (fl := [12, 68]) (al := [0, 11]) fr148 (by decide) (show AR 19 0 23900 u110 from AR.fr (fl := [12, 67]) (al := [0, 11]) fr109 (by decide) (show AR 19 0 23900 w171 from AR.fr (fl := []) (al := [11, 14]) fwL171 (by decide) a19L80))) (by decide))), (show AR 20 0 15999 u168 from AR.fr (fl := []) (al := [11]) fr167 (by decide) (AR.o (show AR 20 0 15999 u149 from AR.fr (fl := [12, 68]) (al := [0, 11]) fr148 (by decide) (show AR 20 0 15999 u110 from AR.fr (fl := [12, 67]) (al := [0, 11]) fr109 (by decide) (show AR 20 0 15999 w171 from AR.fr (fl := []) (al := [11, 14]) fwL171 (by decide) a20L80))) (by decide))), (show AR 21 0 500 u168 from AR.fr (fl := []) (al := [11]) fr167 (by decide) (AR.o (show AR 21 0 500 u149 from AR.fr (fl := [12, 68]) (al := [0, 11]) fr148 (by decide) (show AR 21 0 500 u110 from AR.fr (fl := [12, 67]) (al := [0, 11]) fr109 (by decide) (show AR 21 0 500 w171 from AR.fr (fl := []) (al := [11, 14]) fwL171 (by decide) a21L80))) (by decide))), (show AR 23 0 1500 u168 from AR.fr (fl := []) (al := [11]) fr167 (by decide) (AR.o (show AR 23 0 1500 u149 from AR.fr (fl := [12, 68]) (al := [0, 11]) fr148 (by decide) (show AR 23 0 1500 u110 from AR.fr (fl := [12, 67]) (al := [0, 11]) fr109 (by decide) (show AR 23 0 1500 w171 from AR.fr (fl := []) (al := [11, 14]) fwL171 (by decide) a23L80))) (by decide))), (show AR 24 0 1000 u168 from AR.fr (fl := []) (al := [11]) fr167 (by decide) (AR.o (show AR 24 0 1000 u149 from AR.fr (fl := [12, 68]) (al := [0, 11]) fr148 (by decide) (show AR 24 0 1000 u110 from AR.fr (fl := [12, 67]) (al := [0, 11]) fr109 (by decide) (show AR 24 0 1000 w171 from AR.fr (fl := []) (al := [11, 14]) fwL171 (by decide) a24L80))) (by decide))), (show AR 25 0 60000 u168 from AR.fr (fl := []) (al := [11]) fr167 (by decide) (AR.o (show AR 25 0 60000 u149 from AR.fr (fl := [12, 68]) (al := [0, 11]) fr148 (by decide) (show AR 25 0 60000 u110 from AR.fr (fl := [12, 67]) (al := [0, 11]) fr109 (by decide) (show AR 25 0 60000 w171 from AR.fr (fl := []) (al := [11, 14]) fwL171 (by decide) a25L80))) (by decide))), (show AR 29 0 1500 u168 from AR.fr (fl := []) (al := [11]) fr167 (by decide) (AR.o (show AR 29 0 1500 u149 from AR.fr (fl := [12, 68]) (al := [0, 11]) fr148 (by decide) (show AR 29 0 1500 u110 from AR.fr (fl := [12, 67]) (al := [0, 11]) fr109 (by decide) (show AR 29 0 1500 w171 from AR.fr (fl := []) (al := [11, 14]) fwL171 (by decide) a29L80))) (by decide))), (show AR 35 0 1500 u168 from AR.fr (fl := []) (al := [11]) fr167 (by decide) (AR.o (show AR 35 0 1500 u149 from AR.fr (fl := [12, 68]) (al := [0, 11]) fr148 (by decide) (show AR 35 0 1500 u110 from AR.fr (fl := [12, 67]) (al := [0, 11]) fr109 (by decide) (show AR 35 0 1500 w171 from AR.fr (fl := []) (al := [11, 14]) fwL171 (by decide) a35L80))) (by decide))), (show AR 37 0 23999 u168 from AR.fr (fl := []) (al := [11]) fr167 (by decide) (AR.o (show AR 37 0 23999 u149 from AR.fr (fl := [12, 68]) (al := [0, 11]) fr148 (by decide) (show AR 37 0 23999 u110 from AR.fr (fl := [12, 67]) (al := [0, 11]) fr109 (by decide) (show AR 37 0 23999 w171 from AR.fr (fl := []) (al := [11, 14]) fwL171 (by decide) a37L80))) (by decide))), (show AR 38 0 15999 u168 from AR.fr (fl := []) (al := [11]) fr167 (by decide) (AR.o (show AR 38 0 15999 u149 from AR.fr (fl := [12, 68]) (al := [0, 11]) fr148 (by decide) (show AR 38 0 15999 u110 from AR.fr (fl := [12, 67]) (al := [0, 11]) fr109 (by decide) (show AR 38 0 15999 w171 from AR.fr (fl := []) (al := [11, 14]) fwL171 (by decide) a38L80))) (by decide))), (show AR 40 0 23999 u168 from AR.fr (fl := []) (al := [11]) fr167 (by decide) (AR.o (show AR 40 0 23999 u149 from AR.fr (fl := [12, 68]) (al := [0, 11]) fr148 (by decide) (show AR 40 0 23999 u110 from AR.fr (fl := [12, 67]) (al := [0, 11]) fr109 (by decide) (show AR 40 0 23999 w171 from AR.fr (fl := []) (al := [11, 14]) fwL171 (by decide) a40L80))) (by decide))), (show FX u168 from FX.fr (fl := []) (al := [11]) fr167 (by decide) (by decide) (FX.o (show FX u149 from FX.fr (fl := [12, 68]) (al := [0, 11]) fr148 (by decide) (by decide) (show FX u110 from FX.fr (fl := [12, 67]) (al := [0, 11]) fr109 (by decide) (by decide) (show FX w171 from FX.fr (fl := []) (al := [11, 14]) fwL171 (by decide) (by decide) fxL80))) (by decide) (by decide))), (GF.fr (fl := []) (al := [11]) fr167 (by decide) (by decide) (GF.of (GF.fr (fl := [12, 68]) (al := [0, 11]) fr148 (by decide) (by decide) (GF.fr (fl := [12, 67]) (al := [0, 11]) fr109 (by decide) (by decide) (GF.fr (fl := []) (al := [11, 14]) fwL171 (by decide) (by decide) gfL80))) (by decide))), (PG.two (v := w80) (w := u168) (k := kb) pgL80 (show kb.toInt = (w80.1 0 39).toInt from (om_e6a323412f e1L171 q182 z36)) (fun c9 h9 => ckL101 c9 (Int.lt_of_lt_of_le h9 (show kb.toInt ≤ ka.toInt from (om_99338c14df z34 e1L171)))) (by rw [show (u168).1 14 = w171.1 14 from (Eq.trans (fr167.2.2 14 (by decide)) (Eq.trans (fr148.2.2 14 (by decide)) (fr109.2.2 14 (by decide))))]; exact rwL171) (fun k9 h9 => by rcases mem4 h9 with rfl | rfl | rfl | rfl <;> first | exact (show (u168).1 0 15 = w80.1 0 15 from (Eq.trans (fr167.2.1 15 (by decide)) (Eq.trans (fr148.2.1 15 (by decide)) (Eq.trans (fr109.2.1 15 (by decide)) (fwL171.2.1 15 (by decide)))))) | exact (show (u168).1 0 22 = w80.1 0 22 from (Eq.trans (fr167.2.1 22 (by decide)) (Eq.trans (fr148.2.1 22 (by decide)) (Eq.trans (fr109.2.1 22 (by decide)) (fwL171.2.1 22 (by decide)))))) | exact (show (u168).1 0 27 = w80.1 0 27 from (Eq.trans (fr167.2.1 27 (by decide)) (Eq.trans (fr148.2.1 27 (by decide)) (Eq.trans (fr109.2.1 27 (by decide)) (fwL171.2.1 27 (by decide)))))) | exact (show (u168).1 0 28 = w80.1 0 28 from (Eq.trans (fr167.2.1 28 (by decide)) (Eq.trans (fr148.2.1 28 (by decide)) (Eq.trans (fr109.2.1 28 (by decide)) (fwL171.2.1 28 (by decide))))))) (fun k9 h9 => by rcases mem5 h9 with rfl | rfl | rfl | rfl | rfl <;> first | exact (show (u168).1 13 = w80.1 13 from (Eq.trans (fr167.2.2 13 (by decide)) (Eq.trans (fr148.2.2 13 (by decide)) (Eq.trans (fr109.2.2 13 (by decide)) (fwL171.2.2 13 (by decide)))))) | exact (show (u168).1 17 = w80.1 17 from (Eq.trans (fr167.2.2 17 (by decide)) (Eq.trans (fr148.2.2 17 (by decide)) (Eq.trans (fr109.2.2 17 (by decide)) (fwL171.2.2 17 (by decide)))))) | exact (show (u168).1 18 = w80.1 18 from (Eq.trans (fr167.2.2 18 (by decide)) (Eq.trans (fr148.2.2 18 (by decide)) (Eq.trans (fr109.2.2 18 (by decide)) (fwL171.2.2 18 (by decide)))))) | exact (show (u168).1 20 = w80.1 20 from (Eq.trans (fr167.2.2 20 (by decide)) (Eq.trans (fr148.2.2 20 (by decide)) (Eq.trans (fr109.2.2 20 (by decide)) (fwL171.2.2 20 (by decide)))))) | exact (show (u168).1 21 = w80.1 21 from (Eq.trans (fr167.2.2 21 (by decide)) (Eq.trans (fr148.2.2 21 (by decide)) (Eq.trans (fr109.2.2 21 (by decide)) (fwL171.2.2 21 (by decide)))))))), (fun hiv => (IV.fr (fl := []) (al := [11]) fr167 (by decide) (IV.o (IV.fr (fl := [12, 68]) (al := [0, 11]) fr148 (by decide) (IV.fr (fl := [12, 67]) (al := [0, 11]) fr109 (by decide) (IV.fr (fl := []) (al := [11, 14]) fwL171 (by decide) (ivL80 hiv)))) (by decide))))⟩, by rw [ht9]; exact hP, hD⟩, hS.F ht9⟩) hS.2.2 dX13_walk_294
            · have z183 : ((4 : Int) * ((nI N).toInt)) < (((4 : Int) * (((u149.1 0 12).toInt) + ((u149.1 0 28).toInt))) + (64 : Int)) := nle_z z156 z158 h159
              refine lv_aload_n hx hb dX13_walk_279 rfl (lv_at hl 1 rfl) ?_
              refine lv_bipush (v := 7) hx hb dX13_walk_280 (by decide) ?_
              refine lv_aload_n hx hb dX13_walk_282 rfl (lv_at hl 1 rfl) ?_
              refine va_get (D := (dC, dI)) (ci := 16) (fs := mF ad (wA u149 0 69 ((4 : Int32) * ((u149.1 0 12) + (u149.1 0 28))))) (v := .int (u149.1 0 47)) (C := RX13) (T := TX13) (N := 124) hx hb ht itX13 hown hK hP 0 rfl rfl 47 (by decide) (ht _ tw_24) (fun _ h9 => h9) rfl dX13_walk_283 ?_
              have q184 : (w171.1 0 47).toInt = (w80.1 0 47).toInt := congrArg Int32.toInt ((fwL171.2.1 47 (by decide)).trans (show w80.1 0 47 = (w80.1 0 47) by rfl))
              have q185 : (u110.1 0 47).toInt = (w171.1 0 47).toInt := congrArg Int32.toInt ((fr109.2.1 47 (by decide)).trans (show w171.1 0 47 = (w171.1 0 47) by rfl))
              have q186 : (u149.1 0 47).toInt = (u110.1 0 47).toInt := congrArg Int32.toInt ((fr148.2.1 47 (by decide)).trans (show u110.1 0 47 = (u110.1 0 47) by rfl))
              refine cu_r (rn_V (n := 2) (As := [.int 7, .int (u149.1 0 47)]) (rest := []) hx hb hml hown ht hKK hFx hP hD hS hA (c_m_fail l dC dI cI cB cZ cJ cR tb H.size ad N (wA u149 0 69 ((4 : Int32) * ((u149.1 0 12) + (u149.1 0 28)))) (7 : Int32) (u149.1 0 47) (show 0 ≤ (u149.1 0 47).toInt ∧ (u149.1 0 47).toInt < 4002 from (om_c646560808 ztL80 zfsL80 q184 q185 q186))) tw_25 tw_26 (by decide +kernel) rfl rfl ⟨show 0 + 1 ≤ 1664 from om_9487016820, show 8 + (3 + 11) + 0 ≤ 28 * (1664) from om_0b7ae4ecc7⟩ (List.range (mW ad N cI cZ cJ (wA u149 0 69 ((4 : Int32) * ((u149.1 0 12) + (u149.1 0 28))))).length) (rg_map _) (mW_nd _ _ _ _ _ _) rfl rfl rfl rfl hl.1 rfl (Nat.le_of_ble_eq_true rfl) dX13_walk_286 ⟨Nat.le_of_ble_eq_true rfl, Nat.le_of_ble_eq_true rfl⟩) hP hD hS hA (fun u188 H locs hw187 hP hD hS => ?_)
              obtain rfl := hw187
              have hP : va_P (dC, dI) vwCl (mW ad N cI cZ cJ (wA (wA (wA u149 0 69 ((4 : Int32) * ((u149.1 0 12) + (u149.1 0 28)))) 0 50 (7 : Int32)) 0 51 ((u149.1 7) (u149.1 0 47).toNatClampNeg))) H := hP
              have hD : va_D A (mW ad N cI cZ cJ (wA (wA (wA u149 0 69 ((4 : Int32) * ((u149.1 0 12) + (u149.1 0 28)))) 0 50 (7 : Int32)) 0 51 ((u149.1 7) (u149.1 0 47).toNatClampNeg))) := hD
              refine W.widen (k := 0) (n := 0) (Nat.le_refl _) (Nat.le_refl _) ?_
              obtain ⟨ce9, hc9, hv9, hf9⟩ := halt_at hK hP
              refine um_athrow hx hb dX13_walk_289 ?_
              exact vx_out (fun x h9 => (hnt x h9).elim) hlocks hc9 hv9 hf9 (fun t9 ht9 hv8 => ⟨(wA (wA (wA u149 0 69 ((4 : Int32) * ((u149.1 0 12) + (u149.1 0 28)))) 0 50 (7 : Int32)) 0 51 ((u149.1 7) (u149.1 0 47).toNatClampNeg)), ⟨(FG.f (FG.f (FG.f (FG.tr (FG.tr (FG.tr (FG.tr (FG.rf _) (FG.up fwL80 (by decide) (by decide))) (FG.up fwL171 (by decide) (by decide))) (FG.up fr109 (by decide) (by decide))) (FG.up fr148 (by decide) (by decide))) ((4 : Int32) * ((u149.1 0 12) + (u149.1 0 28))) (by decide)) (7 : Int32) (by decide)) ((u149.1 7) (u149.1 0 47).toNatClampNeg) (by decide)), fun hiv => (IV.o (IV.o (IV.o (IV.fr (fl := [12, 68]) (al := [0, 11]) fr148 (by decide) (IV.fr (fl := [12, 67]) (al := [0, 11]) fr109 (by decide) (IV.fr (fl := []) (al := [11, 14]) fwL171 (by decide) (ivL80 hiv)))) (by decide)) (by decide)) (by decide))⟩, ⟨rfl, by rw [ht9]; exact hP, hD⟩, hS.F ht9⟩) hS.2.2 (Nat.le_refl _) (Nat.le_refl _)
      · have z190 : kb.toInt < (w171.1 0 39).toInt := nle_z rfl rfl h35
        refine lv_aload_n hx hb dX13_walk_179 rfl (lv_at hl 1 rfl) ?_
        refine lv_aload_n hx hb dX13_walk_180 rfl (lv_at hl 1 rfl) ?_
        refine va_get (D := (dC, dI)) (ci := 16) (fs := mF ad w171) (v := .ref (ad 35)) (C := RX13) (T := TX13) (N := 124) hx hb ht itX13 hown hK hP 0 rfl rfl 35 (by decide) (ht _ tw_106) (fun _ h9 => h9) rfl dX13_walk_181 ?_
        refine lv_iload_n hx hb dX13_walk_184 rfl (lv_at hl 0 rfl) ?_
        refine va_iald (D := (dC, dI)) (f := (w171.1 35)) hx hb hK hP 22 0 rfl rfl (in_y (a := kb.toInt) (b := 4000) rfl (om_ac00129bfc e1L171) (om_c56ba5dd0c ztL80 zcsL80 e1L171) rfl) dX13_walk_185 ?_
        have q191 : 0 ≤ ((w171.1 35) kb.toNatClampNeg).toInt ∧ ((w171.1 35) kb.toNatClampNeg).toInt ≤ 1500 := (show AR 35 0 1500 w171 from (show AR 35 0 1500 w171 from AR.fr (fl := []) (al := [11, 14]) fwL171 (by decide) a35L80)) kb.toNatClampNeg
        have q192 : (w171.1 0 22).toInt = (w80.1 0 22).toInt := congrArg Int32.toInt ((fwL171.2.1 22 (by decide)).trans (show w80.1 0 22 = (w80.1 0 22) by rfl))
        refine cu_i (rn_V (n := 1) (As := [.int ((w171.1 35) kb.toNatClampNeg)]) (rest := []) hx hb hml hown ht hKK hFx hP hD hS hA (c_m_functionOf2 l dC dI cI cB cZ cJ cR tb H.size ad N w171 ((w171.1 35) kb.toNatClampNeg) (show 0 ≤ ((w171.1 35) kb.toNatClampNeg).toInt ∧ ((w171.1 35) kb.toNatClampNeg).toInt < 4002 from (om_5c36fd3f9e q191)) (show 0 ≤ (w171.1 0 22).toInt ∧ (w171.1 0 22).toInt ≤ 40 from (om_99e115f631 zfnL80 q192)) (show TI w171 from FG.ti (fl := pfl) (al := pal) (FG.tr (FG.tr (FG.rf _) (FG.up fwL80 (by decide) (by decide))) (FG.up fwL171 (by decide) (by decide))) (by decide) (by decide) hT) (show AR 16 0 1500 w171 from (show AR 16 0 1500 w171 from AR.fr (fl := []) (al := [11, 14]) fwL171 (by decide) a16L80))) tw_196 tw_197 (by decide +kernel) rfl rfl ⟨show 1 + 1 ≤ 1664 from om_f9f1b061a5, show 8 + (3 + 11) + 25 ≤ 28 * (1664) from om_1aa8cdefa7⟩ (List.range (mW ad N cI cZ cJ w171).length) (rg_map _) (mW_nd _ _ _ _ _ _) rfl rfl rfl rfl hl.1 rfl (Nat.le_of_ble_eq_true rfl) dX13_walk_186 ⟨Nat.le_of_ble_eq_true rfl, Nat.le_of_ble_eq_true rfl⟩) hP hD hS hA (fun r195 u194 H locs hw193 hP hD hS => ?_)
        obtain ⟨rfl, a193, g193⟩ := hw193
        have a193 : (-1 ≤ r195.toInt ∧ r195.toInt < (w171.1 0 22).toInt) := a193
        have g193 : r195 = fnF (fun k9 => smF (w171.1 3) (w171.1 7) (w171.1 8) ((w171.1 16) k9).toNatClampNeg ((w171.1 35) kb.toNatClampNeg).toNatClampNeg) (w171.1 0 22).toNatClampNeg := g193
        have ef9 : r195 = FNv w80 kb.toNatClampNeg := (show r195 = FNv w171 kb.toNatClampNeg from g193).trans (FNv.fr fwL171 (by decide) (by decide) _)
        have q197 : (w171.1 0 39).toInt = (w80.1 0 39).toInt := congrArg Int32.toInt ((fwL171.2.1 39 (by decide)).trans (show w80.1 0 39 = (w80.1 0 39) by rfl))
        have z196 : 0 ≤ r195.toInt := by rw [ef9]; exact (ckL101 _ (natlt (om_ac00129bfc e1L171) (om_fc70f634b1 z34 q197 z190))).1
        refine W.widen (k := 0) (n := 0) (Nat.le_refl _) (Nat.le_refl _) ?_
        refine lv_istore_n (lv' := [(2, .int r195), (1, .int kb), (0, .ref (ad 0))]) hx hb dX13_walk_189 rfl hl (by decide) rfl (fun ls hl => ?_)
        refine lv_aload_n hx hb dX13_walk_190 rfl (lv_at hl 2 rfl) ?_
        refine lv_aload_n hx hb dX13_walk_191 rfl (lv_at hl 2 rfl) ?_
        refine va_get (D := (dC, dI)) (ci := 16) (fs := mF ad w171) (v := .ref (ad 37)) (C := RX13) (T := TX13) (N := 124) hx hb ht itX13 hown hK hP 0 rfl rfl 37 (by decide) (ht _ tw_108) (fun _ h9 => h9) rfl dX13_walk_192 ?_
        refine lv_iload_n hx hb dX13_walk_195 rfl (lv_at hl 1 rfl) ?_
        refine va_iald (D := (dC, dI)) (f := (w171.1 37)) hx hb hK hP 24 0 rfl rfl (in_y (a := kb.toInt) (b := 4000) rfl (om_ac00129bfc e1L171) (om_c56ba5dd0c ztL80 zcsL80 e1L171) rfl) dX13_walk_196 ?_
        refine lv_iconst (v := 1) hx hb dX13_walk_197 (by decide) ?_
        refine lv_aload_n hx hb dX13_walk_198 rfl (lv_at hl 2 rfl) ?_
        refine va_get (D := (dC, dI)) (ci := 16) (fs := mF ad w171) (v := .ref (ad 19)) (C := RX13) (T := TX13) (N := 124) hx hb ht itX13 hown hK hP 0 rfl rfl 19 (by decide) (ht _ tw_190) (fun _ h9 => h9) rfl dX13_walk_199 ?_
        refine lv_iload_n hx hb dX13_walk_202 rfl (lv_at hl 0 rfl) ?_
        refine va_iald (D := (dC, dI)) (f := (w171.1 19)) hx hb hK hP 14 0 rfl rfl (in_y (a := r195.toInt) (b := 40) rfl (om_e4afbc3aeb z196) (om_d75bb56449 zfnL80 q192 a193) rfl) dX13_walk_203 ?_
        have q198 : 0 ≤ ((w171.1 37) kb.toNatClampNeg).toInt ∧ ((w171.1 37) kb.toNatClampNeg).toInt ≤ 23999 := (show AR 37 0 23999 w171 from (show AR 37 0 23999 w171 from AR.fr (fl := []) (al := [11, 14]) fwL171 (by decide) a37L80)) kb.toNatClampNeg
        refine cu_v (rn_V (n := 3) (As := [.int ((w171.1 37) kb.toNatClampNeg), .int 1, .int ((w171.1 19) r195.toNatClampNeg)]) (rest := []) hx hb hml hown ht hKK hFx hP hD hS hA (c_m_jump l dC dI cI cB cZ cJ cR tb H.size ad N w171 ((w171.1 37) kb.toNatClampNeg) (1 : Int32) ((w171.1 19) r195.toNatClampNeg) (show 0 ≤ ((w171.1 37) kb.toNatClampNeg).toInt ∧ ((w171.1 37) kb.toNatClampNeg).toInt < 24000 from (om_ed5baa895c q198))) tw_126 tw_127 (by decide +kernel) rfl rfl ⟨show 1 + 1 ≤ 1664 from om_f9f1b061a5, show 8 + (4 + 11) + 21 ≤ 28 * (1664) from om_e436e66882⟩ (List.range (mW ad N cI cZ cJ w171).length) (rg_map _) (mW_nd _ _ _ _ _ _) rfl rfl rfl rfl hl.1 rfl (Nat.le_of_ble_eq_true rfl) dX13_walk_204 ⟨Nat.le_of_ble_eq_true rfl, Nat.le_of_ble_eq_true rfl⟩) hP hD hS hA (fun u200 H locs hw199 hP hD hS => ?_)
        obtain ⟨x202, rfl⟩ := hw199
        have hP : va_P (dC, dI) vwCl (mW ad N cI cZ cJ (wA w171 11 (((w171.1 37) kb.toNatClampNeg).toNatClampNeg) x202)) H := hP
        have hD : va_D A (mW ad N cI cZ cJ (wA w171 11 (((w171.1 37) kb.toNatClampNeg).toNatClampNeg) x202)) := hD
        refine W.widen (k := 0) (n := 0) (Nat.le_refl _) (Nat.le_refl _) ?_
        refine lv_aload_n hx hb dX13_walk_207 rfl (lv_at hl 2 rfl) ?_
        refine va_get (D := (dC, dI)) (ci := 16) (fs := mF ad (wA w171 11 (((w171.1 37) kb.toNatClampNeg).toNatClampNeg) x202)) (v := .ref (ad 14)) (C := RX13) (T := TX13) (N := 124) hx hb ht itX13 hown hK hP 0 rfl rfl 14 (by decide) (ht _ tw_12) (fun _ h9 => h9) rfl dX13_walk_208 ?_
        refine lv_aload_n hx hb dX13_walk_211 rfl (lv_at hl 2 rfl) ?_
        refine va_get (D := (dC, dI)) (ci := 16) (fs := mF ad (wA w171 11 (((w171.1 37) kb.toNatClampNeg).toNatClampNeg) x202)) (v := .ref (ad 38)) (C := RX13) (T := TX13) (N := 124) hx hb ht itX13 hown hK hP 0 rfl rfl 38 (by decide) (ht _ tw_109) (fun _ h9 => h9) rfl dX13_walk_212 ?_
        refine lv_iload_n hx hb dX13_walk_215 rfl (lv_at hl 1 rfl) ?_
        refine va_iald (D := (dC, dI)) (f := (w171.1 38)) hx hb hK hP 25 0 rfl rfl (in_y (a := kb.toInt) (b := 4000) rfl (om_ac00129bfc e1L171) (om_c56ba5dd0c ztL80 zcsL80 e1L171) rfl) dX13_walk_216 ?_
        refine lv_iload_n hx hb dX13_walk_217 rfl (lv_at hl 0 rfl) ?_
        have q203 : 0 ≤ ((w171.1 38) kb.toNatClampNeg).toInt ∧ ((w171.1 38) kb.toNatClampNeg).toInt ≤ 15999 := (show AR 38 0 15999 (wA w171 11 (((w171.1 37) kb.toNatClampNeg).toNatClampNeg) x202) from (AR.o (show AR 38 0 15999 w171 from AR.fr (fl := []) (al := [11, 14]) fwL171 (by decide) a38L80) (by decide))) kb.toNatClampNeg
        refine va_iast (D := (dC, dI)) (f := (w171.1 14)) hx hb hK hP hD hS 10 0 rfl rfl (in_y (a := ((w171.1 38) kb.toNatClampNeg).toInt) (b := 16000) rfl (om_d2acdb7723 q203) (om_6b2b87dc27 q203) rfl) dX13_walk_218 (fun H locs hP hD hS => ?_)
        have hP := cP_ (ma_14 ad N cI cZ cJ (wA w171 11 (((w171.1 37) kb.toNatClampNeg).toNatClampNeg) x202) (((w171.1 38) kb.toNatClampNeg).toNatClampNeg) r195) hP
        have hD := cD_ (ma_14 ad N cI cZ cJ (wA w171 11 (((w171.1 37) kb.toNatClampNeg).toNatClampNeg) x202) (((w171.1 38) kb.toNatClampNeg).toNatClampNeg) r195) hD
        refine lv_iinc (v := (kb + (1 : Int32))) (lv' := [(1, .int (kb + (1 : Int32))), (2, .int r195), (0, .ref (ad 0))]) hx hb dX13_walk_219 hl (k := 1) rfl (rfl) (by decide) rfl (fun ls hl => ?_)
        have z204 : (kb + (1 : Int32)).toInt = kb.toInt + (1 : Int) := add_z rfl (show (1 : Int32).toInt = (1 : Int) by decide) (om_a8944c555e e1L171) (om_246d65362b ztL80 zcsL80 e1L171)
        refine lv_goto (tgt := 171) hx hb dX13_walk_222 (by decide) ?_
        exact ih171 ((kb + (1 : Int32)), (wA (wA w171 11 (((w171.1 37) kb.toNatClampNeg).toNatClampNeg) x202) 14 (((w171.1 38) kb.toNatClampNeg).toNatClampNeg) r195)) _ _ _ (show (4000 - (kb + (1 : Int32)).toInt).toNat < (4000 - kb.toInt).toNat from tn_z (om_f25e8122ae z204) (om_ee8dcabd52 ztL80 zcsL80 e1L171)) ⟨(show FG [] [11, 14] w80 (wA (wA w171 11 (((w171.1 37) kb.toNatClampNeg).toNatClampNeg) x202) 14 (((w171.1 38) kb.toNatClampNeg).toNatClampNeg) r195) from (FG.a (FG.a (FG.tr (FG.rf _) (FG.up fwL171 (by decide) (by decide))) (((w171.1 37) kb.toNatClampNeg).toNatClampNeg) x202 (by decide) (by decide)) (((w171.1 38) kb.toNatClampNeg).toNatClampNeg) r195 (by decide) (by decide))), (show 0 ≤ (kb + (1 : Int32)).toInt ∧ (kb + (1 : Int32)).toInt ≤ (w80.1 0 39).toInt from (om_fc66311bc4 e1L171 q197 z190 z204)), (show RW w80 (upd (w171.1 14) (((w171.1 38) kb.toNatClampNeg).toNatClampNeg) r195) (kb + (1 : Int32)) from (RW.step (i := ((w171.1 38) kb.toNatClampNeg)) (x := r195) rwL171 (show 0 ≤ kb.toInt from (om_ac00129bfc e1L171)) (show (kb + (1 : Int32)).toInt = kb.toInt + 1 from (om_b19948bd4f z204)) (congrFun (fwL171.2.2 38 (by decide)) _) (show 0 ≤ ((w171.1 38) kb.toNatClampNeg).toInt from (om_d2acdb7723 q203)) ef9)), hP, hD, hS, lv_sub hl [0, 2] rfl⟩
    · have z205 : ka.toInt < (w80.1 0 39).toInt := nle_z rfl rfl h33
      refine lv_aload_n hx hb dX13_walk_109 rfl (lv_at hl 1 rfl) ?_
      refine lv_aload_n hx hb dX13_walk_110 rfl (lv_at hl 1 rfl) ?_
      refine va_get (D := (dC, dI)) (ci := 16) (fs := mF ad w80) (v := .ref (ad 35)) (C := RX13) (T := TX13) (N := 124) hx hb ht itX13 hown hK hP 0 rfl rfl 35 (by decide) (ht _ tw_106) (fun _ h9 => h9) rfl dX13_walk_111 ?_
      refine lv_iload_n hx hb dX13_walk_114 rfl (lv_at hl 0 rfl) ?_
      refine va_iald (D := (dC, dI)) (f := (w80.1 35)) hx hb hK hP 22 0 rfl rfl (in_y (a := ka.toInt) (b := 4000) rfl (om_ac00129bfc f1L101) (om_3f7bfc3542 ztL80 zcsL80 z205) rfl) dX13_walk_115 ?_
      have q206 : 0 ≤ ((w80.1 35) ka.toNatClampNeg).toInt ∧ ((w80.1 35) ka.toNatClampNeg).toInt ≤ 1500 := (show AR 35 0 1500 w80 from a35L80) ka.toNatClampNeg
      refine cu_i (rn_V (n := 1) (As := [.int ((w80.1 35) ka.toNatClampNeg)]) (rest := []) hx hb hml hown ht hKK hFx hP hD hS hA (c_m_functionOf2 l dC dI cI cB cZ cJ cR tb H.size ad N w80 ((w80.1 35) ka.toNatClampNeg) (show 0 ≤ ((w80.1 35) ka.toNatClampNeg).toInt ∧ ((w80.1 35) ka.toNatClampNeg).toInt < 4002 from (om_5c36fd3f9e q206)) (show 0 ≤ (w80.1 0 22).toInt ∧ (w80.1 0 22).toInt ≤ 40 from (om_7eaf33e007 zfnL80)) (show TI w80 from FG.ti (fl := pfl) (al := pal) (FG.tr (FG.rf _) (FG.up fwL80 (by decide) (by decide))) (by decide) (by decide) hT) (show AR 16 0 1500 w80 from a16L80)) tw_196 tw_197 (by decide +kernel) rfl rfl ⟨show 1 + 1 ≤ 1664 from om_f9f1b061a5, show 8 + (3 + 11) + 25 ≤ 28 * (1664) from om_1aa8cdefa7⟩ (List.range (mW ad N cI cZ cJ w80).length) (rg_map _) (mW_nd _ _ _ _ _ _) rfl rfl rfl rfl hl.1 rfl (Nat.le_of_ble_eq_true rfl) dX13_walk_116 ⟨Nat.le_of_ble_eq_true rfl, Nat.le_of_ble_eq_true rfl⟩) hP hD hS hA (fun r209 u208 H locs hw207 hP hD hS => ?_)
      obtain ⟨rfl, a207, g207⟩ := hw207
      have a207 : (-1 ≤ r209.toInt ∧ r209.toInt < (w80.1 0 22).toInt) := a207
      have g207 : r209 = fnF (fun k9 => smF (w80.1 3) (w80.1 7) (w80.1 8) ((w80.1 16) k9).toNatClampNeg ((w80.1 35) ka.toNatClampNeg).toNatClampNeg) (w80.1 0 22).toNatClampNeg := g207
      refine W.widen (k := 0) (n := 0) (Nat.le_refl _) (Nat.le_refl _) ?_
      refine lv_istore_n (lv' := [(2, .int r209), (1, .int ka), (0, .ref (ad 0))]) hx hb dX13_walk_119 rfl hl (by decide) rfl (fun ls hl => ?_)
      refine lv_iload_n hx hb dX13_walk_120 rfl (lv_at hl 0 rfl) ?_
      refine lv_if_ge (tgt := 136) hx hb dX13_walk_121 (by decide) (fun h210 => ?_) (fun h210 => ?_)
      · have z211 : (0 : Int) ≤ r209.toInt := le_z (show (0 : Int32).toInt = (0 : Int) by decide) rfl h210
        refine lv_aload_n hx hb dX13_walk_136 rfl (lv_at hl 2 rfl) ?_
        refine va_get (D := (dC, dI)) (ci := 16) (fs := mF ad w80) (v := .ref (ad 17)) (C := RX13) (T := TX13) (N := 124) hx hb ht itX13 hown hK hP 0 rfl rfl 17 (by decide) (ht _ tw_189) (fun _ h9 => h9) rfl dX13_walk_137 ?_
        refine lv_iload_n hx hb dX13_walk_140 rfl (lv_at hl 0 rfl) ?_
        refine va_iald (D := (dC, dI)) (f := (w80.1 17)) hx hb hK hP 12 0 rfl rfl (in_y (a := r209.toInt) (b := 40) rfl (om_51058f7f87 z211) (om_affe9280ad zfnL80 a207) rfl) dX13_walk_141 ?_
        refine lv_aload_n hx hb dX13_walk_142 rfl (lv_at hl 2 rfl) ?_
        refine va_get (D := (dC, dI)) (ci := 16) (fs := mF ad w80) (v := .ref (ad 36)) (C := RX13) (T := TX13) (N := 124) hx hb ht itX13 hown hK hP 0 rfl rfl 36 (by decide) (ht _ tw_107) (fun _ h9 => h9) rfl dX13_walk_143 ?_
        refine lv_iload_n hx hb dX13_walk_146 rfl (lv_at hl 1 rfl) ?_
        refine va_iald (D := (dC, dI)) (f := (w80.1 36)) hx hb hK hP 23 0 rfl rfl (in_y (a := ka.toInt) (b := 4000) rfl (om_ac00129bfc f1L101) (om_3f7bfc3542 ztL80 zcsL80 z205) rfl) dX13_walk_147 ?_
        refine lv_icmp_eq (tgt := 163) hx hb dX13_walk_148 (by decide) (fun h212 => ?_) (fun h212 => ?_)
        · have z213 : ((w80.1 17) r209.toNatClampNeg).toInt = ((w80.1 36) ka.toNatClampNeg).toInt := eq_z rfl rfl h212
          refine lv_iinc (v := (ka + (1 : Int32))) (lv' := [(1, .int (ka + (1 : Int32))), (2, .int r209), (0, .ref (ad 0))]) hx hb dX13_walk_163 hl (k := 1) rfl (rfl) (by decide) rfl (fun ls hl => ?_)
          have z214 : (ka + (1 : Int32)).toInt = ka.toInt + (1 : Int) := add_z rfl (show (1 : Int32).toInt = (1 : Int) by decide) (om_a8944c555e f1L101) (om_246d65362b ztL80 zcsL80 f1L101)
          refine lv_goto (tgt := 101) hx hb dX13_walk_166 (by decide) ?_
          exact ih101 (ka + (1 : Int32)) _ _ _ (show (4000 - (ka + (1 : Int32)).toInt).toNat < (4000 - ka.toInt).toNat from tn_z (om_f25e8122ae z214) (om_13255d373d ztL80 zcsL80 z205)) ⟨(show 0 ≤ (ka + (1 : Int32)).toInt ∧ (ka + (1 : Int32)).toInt ≤ (w80.1 0 39).toInt from (om_ca7f7afb18 f1L101 z205 z214)), (show ∀ c : Nat, (c : Int) < (ka + (1 : Int32)).toInt → CK w80 c from (ck_step ckL101 (show 0 ≤ ka.toInt from (om_ac00129bfc f1L101)) (show (ka + (1 : Int32)).toInt = ka.toInt + 1 from (om_b19948bd4f z214)) (ck_mk (r := r209) (show r209 = FNv w80 ka.toNatClampNeg from g207) (show 0 ≤ r209.toInt from (om_51058f7f87 z211)) (show r209.toInt < (w80.1 0 22).toInt from (om_f230003a74 a207)) (show ((w80.1 17) r209.toNatClampNeg).toInt = ((w80.1 36) ka.toNatClampNeg).toInt from (om_5049cbdce5 z213))))), hP, hD, hS, lv_sub hl [0, 2] rfl⟩
        · have z215 : ((w80.1 17) r209.toNatClampNeg).toInt ≠ ((w80.1 36) ka.toNatClampNeg).toInt := ne_z rfl rfl h212
          refine lv_aload_n hx hb dX13_walk_151 rfl (lv_at hl 2 rfl) ?_
          refine lv_iconst (v := 4) hx hb dX13_walk_152 (by decide) ?_
          refine lv_aload_n hx hb dX13_walk_153 rfl (lv_at hl 2 rfl) ?_
          refine va_get (D := (dC, dI)) (ci := 16) (fs := mF ad w80) (v := .ref (ad 35)) (C := RX13) (T := TX13) (N := 124) hx hb ht itX13 hown hK hP 0 rfl rfl 35 (by decide) (ht _ tw_106) (fun _ h9 => h9) rfl dX13_walk_154 ?_
          refine lv_iload_n hx hb dX13_walk_157 rfl (lv_at hl 1 rfl) ?_
          refine va_iald (D := (dC, dI)) (f := (w80.1 35)) hx hb hK hP 22 0 rfl rfl (in_y (a := ka.toInt) (b := 4000) rfl (om_ac00129bfc f1L101) (om_3f7bfc3542 ztL80 zcsL80 z205) rfl) dX13_walk_158 ?_
          refine cu_r (rn_V (n := 2) (As := [.int 4, .int ((w80.1 35) ka.toNatClampNeg)]) (rest := []) hx hb hml hown ht hKK hFx hP hD hS hA (c_m_fail l dC dI cI cB cZ cJ cR tb H.size ad N w80 (4 : Int32) ((w80.1 35) ka.toNatClampNeg) (show 0 ≤ ((w80.1 35) ka.toNatClampNeg).toInt ∧ ((w80.1 35) ka.toNatClampNeg).toInt < 4002 from (om_5c36fd3f9e q206))) tw_25 tw_26 (by decide +kernel) rfl rfl ⟨show 0 + 1 ≤ 1664 from om_9487016820, show 8 + (3 + 11) + 0 ≤ 28 * (1664) from om_0b7ae4ecc7⟩ (List.range (mW ad N cI cZ cJ w80).length) (rg_map _) (mW_nd _ _ _ _ _ _) rfl rfl rfl rfl hl.1 rfl (Nat.le_of_ble_eq_true rfl) dX13_walk_159 ⟨Nat.le_of_ble_eq_true rfl, Nat.le_of_ble_eq_true rfl⟩) hP hD hS hA (fun u217 H locs hw216 hP hD hS => ?_)
          obtain rfl := hw216
          have hP : va_P (dC, dI) vwCl (mW ad N cI cZ cJ (wA (wA w80 0 50 (4 : Int32)) 0 51 ((w80.1 7) ((w80.1 35) ka.toNatClampNeg).toNatClampNeg))) H := hP
          have hD : va_D A (mW ad N cI cZ cJ (wA (wA w80 0 50 (4 : Int32)) 0 51 ((w80.1 7) ((w80.1 35) ka.toNatClampNeg).toNatClampNeg))) := hD
          refine W.widen (k := 0) (n := 0) (Nat.le_refl _) (Nat.le_refl _) ?_
          obtain ⟨ce9, hc9, hv9, hf9⟩ := halt_at hK hP
          refine um_athrow hx hb dX13_walk_162 ?_
          exact vx_out (fun x h9 => (hnt x h9).elim) hlocks hc9 hv9 hf9 (fun t9 ht9 hv8 => ⟨(wA (wA w80 0 50 (4 : Int32)) 0 51 ((w80.1 7) ((w80.1 35) ka.toNatClampNeg).toNatClampNeg)), ⟨(FG.f (FG.f (FG.tr (FG.rf _) (FG.up fwL80 (by decide) (by decide))) (4 : Int32) (by decide)) ((w80.1 7) ((w80.1 35) ka.toNatClampNeg).toNatClampNeg) (by decide)), fun hiv => (IV.o (IV.o (ivL80 hiv) (by decide)) (by decide))⟩, ⟨rfl, by rw [ht9]; exact hP, hD⟩, hS.F ht9⟩) hS.2.2 (Nat.le_refl _) (Nat.le_refl _)
      · have z219 : r209.toInt < (0 : Int) := nle_z (show (0 : Int32).toInt = (0 : Int) by decide) rfl h210
        refine lv_aload_n hx hb dX13_walk_124 rfl (lv_at hl 2 rfl) ?_
        refine lv_iconst (v := 3) hx hb dX13_walk_125 (by decide) ?_
        refine lv_aload_n hx hb dX13_walk_126 rfl (lv_at hl 2 rfl) ?_
        refine va_get (D := (dC, dI)) (ci := 16) (fs := mF ad w80) (v := .ref (ad 35)) (C := RX13) (T := TX13) (N := 124) hx hb ht itX13 hown hK hP 0 rfl rfl 35 (by decide) (ht _ tw_106) (fun _ h9 => h9) rfl dX13_walk_127 ?_
        refine lv_iload_n hx hb dX13_walk_130 rfl (lv_at hl 1 rfl) ?_
        refine va_iald (D := (dC, dI)) (f := (w80.1 35)) hx hb hK hP 22 0 rfl rfl (in_y (a := ka.toInt) (b := 4000) rfl (om_ac00129bfc f1L101) (om_3f7bfc3542 ztL80 zcsL80 z205) rfl) dX13_walk_131 ?_
        refine cu_r (rn_V (n := 2) (As := [.int 3, .int ((w80.1 35) ka.toNatClampNeg)]) (rest := []) hx hb hml hown ht hKK hFx hP hD hS hA (c_m_fail l dC dI cI cB cZ cJ cR tb H.size ad N w80 (3 : Int32) ((w80.1 35) ka.toNatClampNeg) (show 0 ≤ ((w80.1 35) ka.toNatClampNeg).toInt ∧ ((w80.1 35) ka.toNatClampNeg).toInt < 4002 from (om_5c36fd3f9e q206))) tw_25 tw_26 (by decide +kernel) rfl rfl ⟨show 0 + 1 ≤ 1664 from om_9487016820, show 8 + (3 + 11) + 0 ≤ 28 * (1664) from om_0b7ae4ecc7⟩ (List.range (mW ad N cI cZ cJ w80).length) (rg_map _) (mW_nd _ _ _ _ _ _) rfl rfl rfl rfl hl.1 rfl (Nat.le_of_ble_eq_true rfl) dX13_walk_132 ⟨Nat.le_of_ble_eq_true rfl, Nat.le_of_ble_eq_true rfl⟩) hP hD hS hA (fun u221 H locs hw220 hP hD hS => ?_)
        obtain rfl := hw220
        have hP : va_P (dC, dI) vwCl (mW ad N cI cZ cJ (wA (wA w80 0 50 (3 : Int32)) 0 51 ((w80.1 7) ((w80.1 35) ka.toNatClampNeg).toNatClampNeg))) H := hP
        have hD : va_D A (mW ad N cI cZ cJ (wA (wA w80 0 50 (3 : Int32)) 0 51 ((w80.1 7) ((w80.1 35) ka.toNatClampNeg).toNatClampNeg))) := hD
        refine W.widen (k := 0) (n := 0) (Nat.le_refl _) (Nat.le_refl _) ?_
        obtain ⟨ce9, hc9, hv9, hf9⟩ := halt_at hK hP
        refine um_athrow hx hb dX13_walk_135 ?_
        exact vx_out (fun x h9 => (hnt x h9).elim) hlocks hc9 hv9 hf9 (fun t9 ht9 hv8 => ⟨(wA (wA w80 0 50 (3 : Int32)) 0 51 ((w80.1 7) ((w80.1 35) ka.toNatClampNeg).toNatClampNeg)), ⟨(FG.f (FG.f (FG.tr (FG.rf _) (FG.up fwL80 (by decide) (by decide))) (3 : Int32) (by decide)) ((w80.1 7) ((w80.1 35) ka.toNatClampNeg).toNatClampNeg) (by decide)), fun hiv => (IV.o (IV.o (ivL80 hiv) (by decide)) (by decide))⟩, ⟨rfl, by rw [ht9]; exact hP, hD⟩, hS.F ht9⟩) hS.2.2 (Nat.le_refl _) (Nat.le_refl _)
  · have z223 : ((w80.1 6) (w80.1 0 47).toNatClampNeg).toInt ≠ (0 : Int) := ne_z rfl (show (0 : Int32).toInt = (0 : Int) by decide) h31
    refine lv_aload_n hx hb dX13_walk_92 rfl (lv_at hl 0 rfl) ?_
    refine cux_v (rx_V (n := 0) (As := []) (rest := []) hx hb hml hown ht hKK hFx hP hD hS hA (c_m_item l dC dI cI cB cZ cJ cR tb H.size ad N w80  (show 0 ≤ (w80.1 0 47).toInt ∧ (w80.1 0 47).toInt ≤ 1500 from (om_2fb699b811 ztL80 zfsL80)) (show (w80.1 0 48).toInt = 0 from (om_0659e01c57 zopL80)) (show 0 ≤ (w80.1 0 12).toInt ∧ (w80.1 0 12).toInt ≤ 15 * (w80.1 0 47).toInt + 2 from (om_0093b55d27 zwsL80)) (show 0 ≤ (w80.1 0 15).toInt ∧ (w80.1 0 15).toInt ≤ 10 * (w80.1 0 47).toInt + 0 from (om_f99dd47f94 zosL80)) (show 0 ≤ (w80.1 0 43).toInt ∧ (w80.1 0 43).toInt ≤ 15 * (w80.1 0 47).toInt + 0 from (om_116b0ae668 zfsL80)) (show 0 ≤ (w80.1 0 39).toInt ∧ (w80.1 0 39).toInt ≤ 1 * (w80.1 0 47).toInt + 0 from (om_081ea48693 zcsL80)) (show 0 ≤ (w80.1 0 27).toInt ∧ (w80.1 0 27).toInt ≤ 60 from (om_fa78443bc8 zglL80 znuL80)) (show 0 ≤ (w80.1 0 22).toInt ∧ (w80.1 0 22).toInt ≤ 40 from (om_7eaf33e007 zfnL80)) (show 0 ≤ (w80.1 0 28).toInt ∧ (w80.1 0 28).toInt ≤ 1000 * (w80.1 0 27).toInt from (om_f25046c0df znuL80)) (show TI w80 from FG.ti (fl := pfl) (al := pal) (FG.tr (FG.rf _) (FG.up fwL80 (by decide) (by decide))) (by decide) (by decide) hT) (show AR 16 0 1500 w80 from a16L80) (show AR 17 0 8 w80 from a17L80) (show AR 18 0 2008 w80 from a18L80) (show AR 19 0 23900 w80 from a19L80) (show AR 20 0 15999 w80 from a20L80) (show AR 21 0 500 w80 from a21L80) (show AR 23 0 1500 w80 from a23L80) (show AR 24 0 1000 w80 from a24L80) (show AR 25 0 60000 w80 from a25L80) (show AR 29 0 1500 w80 from a29L80) (show AR 35 0 1500 w80 from a35L80) (show AR 37 0 23999 w80 from a37L80) (show AR 38 0 15999 w80 from a38L80) (show AR 40 0 23999 w80 from a40L80) (show FX w80 from fxL80) (show GF w80 from gfL80) (show PG w80 from pgL80)) tw_323 tw_324 (by decide +kernel) rfl rfl ⟨show (1662) + 1 ≤ 1664 from om_5a0db5099d, show 8 + (5 + 11) + 28 * (1662) ≤ 28 * (1664) from om_1ba0e235a4⟩ (List.range (mW ad N cI cZ cJ w80).length) (rg_map _) (mW_nd _ _ _ _ _ _) rfl rfl rfl rfl hl.1 rfl (Nat.le_of_ble_eq_true rfl) dX13_walk_93 ⟨Nat.le_of_ble_eq_true rfl, Nat.le_of_ble_eq_true rfl⟩) hP hD hS hA (fun u9 ce9 q9 H locs hx9 hP hD hS hc9 hv9 hf9 => ?_) (fun u225 H locs hw224 hP hD hS => ?_)
    · exact vx_out (fun x h9 => (hnt x h9).elim) hlocks hc9 hv9 hf9 (fun t9 ht9 hv8 => ⟨u9, ⟨FG.tr (FG.tr (FG.rf _) (FG.up fwL80 (by decide) (by decide))) hx9.1, fun hiv => hx9.2 (ivL80 hiv)⟩, ⟨rfl, by rw [ht9]; exact hP, hD⟩, hS.F ht9⟩) hS.2.2 (Nat.le_refl _) (Nat.le_refl _)
    obtain ⟨fr224, pt224, pp224, pw224, po224, pf224, pk224, pg224, a16224, a17224, a18224, a19224, a20224, a21224, a23224, a24224, a25224, a29224, a35224, a37224, a38224, a40224, fx224, gf224, pq224, iv224⟩ := hw224
    have pt224 : (w80.1 0 47).toInt + 1 ≤ (u225.1 0 47).toInt ∧ (u225.1 0 47).toInt ≤ 1500 := pt224
    have pp224 : (u225.1 0 48).toInt = 0 := pp224
    have pw224 : (w80.1 0 12).toInt ≤ (u225.1 0 12).toInt ∧ (u225.1 0 12).toInt - 15 * (u225.1 0 47).toInt ≤ (w80.1 0 12).toInt - 15 * (w80.1 0 47).toInt := pw224
    have po224 : (w80.1 0 15).toInt ≤ (u225.1 0 15).toInt ∧ (u225.1 0 15).toInt - 10 * (u225.1 0 47).toInt ≤ (w80.1 0 15).toInt - 10 * (w80.1 0 47).toInt := po224
    have pf224 : (w80.1 0 43).toInt ≤ (u225.1 0 43).toInt ∧ (u225.1 0 43).toInt - 15 * (u225.1 0 47).toInt ≤ (w80.1 0 43).toInt - 15 * (w80.1 0 47).toInt := pf224
    have pk224 : (w80.1 0 39).toInt ≤ (u225.1 0 39).toInt ∧ (u225.1 0 39).toInt - 1 * (u225.1 0 47).toInt ≤ (w80.1 0 39).toInt - 1 * (w80.1 0 47).toInt := pk224
    have pg224 : 0 ≤ (u225.1 0 27).toInt ∧ (u225.1 0 27).toInt ≤ 60 ∧ 0 ≤ (u225.1 0 22).toInt ∧ (u225.1 0 22).toInt ≤ 40 ∧ 0 ≤ (u225.1 0 28).toInt ∧ (u225.1 0 28).toInt ≤ 1000 * (u225.1 0 27).toInt := pg224
    have a16224 : AR 16 0 1500 u225 := a16224
    have a17224 : AR 17 0 8 u225 := a17224
    have a18224 : AR 18 0 2008 u225 := a18224
    have a19224 : AR 19 0 23900 u225 := a19224
    have a20224 : AR 20 0 15999 u225 := a20224
    have a21224 : AR 21 0 500 u225 := a21224
    have a23224 : AR 23 0 1500 u225 := a23224
    have a24224 : AR 24 0 1000 u225 := a24224
    have a25224 : AR 25 0 60000 u225 := a25224
    have a29224 : AR 29 0 1500 u225 := a29224
    have a35224 : AR 35 0 1500 u225 := a35224
    have a37224 : AR 37 0 23999 u225 := a37224
    have a38224 : AR 38 0 15999 u225 := a38224
    have a40224 : AR 40 0 23999 u225 := a40224
    have fx224 : FX u225 := fx224
    have gf224 : GF u225 := gf224
    have pq224 : PG u225 := pq224
    have iv224 : IV w80 → IV u225 := iv224
    refine W.widen (k := 0) (n := 0) (Nat.le_refl _) (Nat.le_refl _) ?_
    refine lv_goto (tgt := 80) hx hb dX13_walk_96 (by decide) ?_
    exact ih80 u225 _ _ _ (show (1500 - (u225.1 0 47).toInt).toNat < (1500 - (w80.1 0 47).toInt).toNat from tn_z (om_d13a67caa6 pt224) (om_71815dc006 pt224)) ⟨(show Fr v u225 from (FG.tr (FG.tr (FG.rf _) (FG.up fwL80 (by decide) (by decide))) (FG.up fr224 (by decide) (by decide)))), (show 0 ≤ (u225.1 0 47).toInt ∧ (u225.1 0 47).toInt ≤ 1500 from (om_9fffe33c79 zfsL80 pt224 pw224)), (show (u225.1 0 48).toInt = 0 from (om_0659e01c57 pp224)), (show 0 ≤ (u225.1 0 12).toInt ∧ (u225.1 0 12).toInt ≤ 15 * (u225.1 0 47).toInt + 2 from (om_a0b98009fe zwsL80 pw224)), (show 0 ≤ (u225.1 0 15).toInt ∧ (u225.1 0 15).toInt ≤ 10 * (u225.1 0 47).toInt + 0 from (om_39ff1133a1 zosL80 po224)), (show 0 ≤ (u225.1 0 43).toInt ∧ (u225.1 0 43).toInt ≤ 15 * (u225.1 0 47).toInt + 0 from (om_dd466cfb49 zfsL80 pf224)), (show 0 ≤ (u225.1 0 39).toInt ∧ (u225.1 0 39).toInt ≤ 1 * (u225.1 0 47).toInt + 0 from (om_ecb466e919 zcsL80 pk224)), (show 0 ≤ (u225.1 0 27).toInt ∧ (u225.1 0 27).toInt ≤ 60 from (om_c718dbd3ec pg224)), (show 0 ≤ (u225.1 0 22).toInt ∧ (u225.1 0 22).toInt ≤ 40 from (om_215b2c1e2f pg224)), (show 0 ≤ (u225.1 0 28).toInt ∧ (u225.1 0 28).toInt ≤ 1000 * (u225.1 0 27).toInt from (om_06ac333f7e pg224)), (show AR 16 0 1500 u225 from a16224), (show AR 17 0 8 u225 from a17224), (show AR 18 0 2008 u225 from a18224), (show AR 19 0 23900 u225 from a19224), (show AR 20 0 15999 u225 from a20224), (show AR 21 0 500 u225 from a21224), (show AR 23 0 1500 u225 from a23224), (show AR 24 0 1000 u225 from a24224), (show AR 25 0 60000 u225 from a25224), (show AR 29 0 1500 u225 from a29224), (show AR 35 0 1500 u225 from a35224), (show AR 37 0 23999 u225 from a37224), (show AR 38 0 15999 u225 from a38224), (show AR 40 0 23999 u225 from a40224), (show FX u225 from fx224), (show GF u225 from gf224), (show PG u225 from pq224), (show IV v → IV u225 from (fun hiv => (iv224 (ivL80 hiv)))), hP, hD, hS, lv_sub hl [0] rfl⟩
