theorem dX13_operand_0 : decode cX13_operand 0 = .ok (.aload_n 0, 1) := by decide +kernel
theorem dX13_operand_1 : decode cX13_operand 1 = .ok (.getfield 41, 3) := by decide +kernel
theorem dX13_operand_4 : decode cX13_operand 4 = .ok (.aload_n 0, 1) := by decide +kernel
theorem dX13_operand_5 : decode cX13_operand 5 = .ok (.getfield 137, 3) := by decide +kernel
theorem dX13_operand_8 : decode cX13_operand 8 = .ok (.iaload, 1) := by decide +kernel
theorem dX13_operand_9 : decode cX13_operand 9 = .ok (.iconst 4, 1) := by decide +kernel
theorem dX13_operand_10 : decode cX13_operand 10 = .ok (.if_icmp .eq 17, 3) := by decide +kernel
theorem dX13_operand_27 : decode cX13_operand 27 = .ok (.aload_n 0, 1) := by decide +kernel
theorem dX13_operand_28 : decode cX13_operand 28 = .ok (.getfield 41, 3) := by decide +kernel
theorem dX13_operand_31 : decode cX13_operand 31 = .ok (.aload_n 0, 1) := by decide +kernel
theorem dX13_operand_32 : decode cX13_operand 32 = .ok (.getfield 137, 3) := by decide +kernel
theorem dX13_operand_35 : decode cX13_operand 35 = .ok (.iaload, 1) := by decide +kernel
theorem dX13_operand_36 : decode cX13_operand 36 = .ok (.iconst 4, 1) := by decide +kernel
theorem dX13_operand_37 : decode cX13_operand 37 = .ok (.if_icmp .ne 39, 3) := by decide +kernel
theorem dX13_operand_40 : decode cX13_operand 40 = .ok (.aload_n 0, 1) := by decide +kernel
theorem dX13_operand_41 : decode cX13_operand 41 = .ok (.getfield 74, 3) := by decide +kernel
theorem tw_110 : (.fieldLink RX13 74 "PocketCompilerModel" "digits" "[Z" : Cond) ∈ tw_W := tw_in (by decide +kernel) (by decide +kernel)
theorem dX13_operand_44 : decode cX13_operand 44 = .ok (.aload_n 0, 1) := by decide +kernel
theorem dX13_operand_45 : decode cX13_operand 45 = .ok (.getfield 137, 3) := by decide +kernel
theorem dX13_operand_48 : decode cX13_operand 48 = .ok (.baload, 1) := by decide +kernel
theorem dX13_operand_49 : decode cX13_operand 49 = .ok (.ifCond .eq 27, 3) := by decide +kernel
theorem dX13_operand_76 : decode cX13_operand 76 = .ok (.aload_n 0, 1) := by decide +kernel
theorem dX13_operand_77 : decode cX13_operand 77 = .ok (.getfield 56, 3) := by decide +kernel
theorem dX13_operand_80 : decode cX13_operand 80 = .ok (.aload_n 0, 1) := by decide +kernel
theorem dX13_operand_81 : decode cX13_operand 81 = .ok (.getfield 137, 3) := by decide +kernel
theorem dX13_operand_84 : decode cX13_operand 84 = .ok (.laload, 1) := by decide +kernel
theorem dX13_operand_85 : decode cX13_operand 85 = .ok (.l2i, 1) := by decide +kernel
theorem dX13_operand_86 : decode cX13_operand 86 = .ok (.istore_n 1, 1) := by decide +kernel
theorem dX13_operand_87 : decode cX13_operand 87 = .ok (.aload_n 0, 1) := by decide +kernel
theorem dX13_operand_88 : decode cX13_operand 88 = .ok (.invokevirtual 154, 3) := by decide +kernel
theorem dX13_operand_91 : decode cX13_operand 91 = .ok (.aload_n 0, 1) := by decide +kernel
theorem dX13_operand_92 : decode cX13_operand 92 = .ok (.iload_n 1, 1) := by decide +kernel
theorem dX13_operand_93 : decode cX13_operand 93 = .ok (.invokevirtual 329, 3) := by decide +kernel
theorem tw_111 : (.code yX13_loads cX13_loads 2 none : Cond) ∈ tw_W := tw_in (by decide +kernel) (by decide +kernel)
theorem tw_112 : ∀ w ∈ ([.methodLink RX13 329 yX13_loads, .instanceMethod yX13_loads, .selects RX13 yX13_loads yX13_loads, .initialized RX13] : List Cond), w ∈ tw_W := tw_all (by decide +kernel)
theorem dX13_operand_96 : decode cX13_operand 96 = .ok (.goto 290, 3) := by decide +kernel
theorem dX13_operand_386 : decode cX13_operand 386 = .ok (.return_, 1) := by decide +kernel
theorem dX13_operand_52 : decode cX13_operand 52 = .ok (.aload_n 0, 1) := by decide +kernel
theorem dX13_operand_53 : decode cX13_operand 53 = .ok (.getfield 56, 3) := by decide +kernel
theorem dX13_operand_56 : decode cX13_operand 56 = .ok (.aload_n 0, 1) := by decide +kernel
theorem dX13_operand_57 : decode cX13_operand 57 = .ok (.getfield 137, 3) := by decide +kernel
theorem dX13_operand_60 : decode cX13_operand 60 = .ok (.laload, 1) := by decide +kernel
theorem dX13_operand_61 : decode cX13_operand 61 = .ok (.ldc2_w 327, 3) := by decide +kernel
theorem tw_113 : (.constantLong RX13 327 (2147483647) : Cond) ∈ tw_W := tw_in (by decide +kernel) (by decide +kernel)
theorem dX13_operand_64 : decode cX13_operand 64 = .ok (.lcmp, 1) := by decide +kernel
theorem dX13_operand_65 : decode cX13_operand 65 = .ok (.ifCond .le 11, 3) := by decide +kernel
theorem dX13_operand_68 : decode cX13_operand 68 = .ok (.aload_n 0, 1) := by decide +kernel
theorem dX13_operand_69 : decode cX13_operand 69 = .ok (.aload_n 0, 1) := by decide +kernel
theorem dX13_operand_70 : decode cX13_operand 70 = .ok (.getfield 137, 3) := by decide +kernel
theorem dX13_operand_73 : decode cX13_operand 73 = .ok (.putfield 148, 3) := by decide +kernel
theorem dX13_operand_13 : decode cX13_operand 13 = .ok (.aload_n 0, 1) := by decide +kernel
theorem dX13_operand_14 : decode cX13_operand 14 = .ok (.getfield 41, 3) := by decide +kernel
theorem dX13_operand_17 : decode cX13_operand 17 = .ok (.aload_n 0, 1) := by decide +kernel
theorem dX13_operand_18 : decode cX13_operand 18 = .ok (.getfield 137, 3) := by decide +kernel
theorem dX13_operand_21 : decode cX13_operand 21 = .ok (.iaload, 1) := by decide +kernel
theorem dX13_operand_22 : decode cX13_operand 22 = .ok (.bipush 6, 2) := by decide +kernel
theorem dX13_operand_24 : decode cX13_operand 24 = .ok (.if_icmp .ne 75, 3) := by decide +kernel
theorem dX13_operand_99 : decode cX13_operand 99 = .ok (.aload_n 0, 1) := by decide +kernel
theorem dX13_operand_100 : decode cX13_operand 100 = .ok (.bipush 45, 2) := by decide +kernel
theorem dX13_operand_102 : decode cX13_operand 102 = .ok (.invokevirtual 158, 3) := by decide +kernel
theorem dX13_operand_105 : decode cX13_operand 105 = .ok (.ifCond .ne 21, 3) := by decide +kernel
theorem dX13_operand_126 : decode cX13_operand 126 = .ok (.aload_n 0, 1) := by decide +kernel
theorem dX13_operand_127 : decode cX13_operand 127 = .ok (.getfield 56, 3) := by decide +kernel
theorem dX13_operand_130 : decode cX13_operand 130 = .ok (.aload_n 0, 1) := by decide +kernel
theorem dX13_operand_131 : decode cX13_operand 131 = .ok (.getfield 137, 3) := by decide +kernel
theorem dX13_operand_134 : decode cX13_operand 134 = .ok (.laload, 1) := by decide +kernel
theorem dX13_operand_135 : decode cX13_operand 135 = .ok (.l2i, 1) := by decide +kernel
theorem dX13_operand_136 : decode cX13_operand 136 = .ok (.istore_n 1, 1) := by decide +kernel
theorem dX13_operand_137 : decode cX13_operand 137 = .ok (.aload_n 0, 1) := by decide +kernel
theorem dX13_operand_138 : decode cX13_operand 138 = .ok (.invokevirtual 165, 3) := by decide +kernel
theorem dX13_operand_141 : decode cX13_operand 141 = .ok (.aload_n 0, 1) := by decide +kernel
theorem dX13_operand_142 : decode cX13_operand 142 = .ok (.invokevirtual 317, 3) := by decide +kernel
theorem tw_114 : (.code yX13_operand cX13_operand 2 none : Cond) ∈ tw_W := tw_in (by decide +kernel) (by decide +kernel)
theorem tw_115 : ∀ w ∈ ([.methodLink RX13 317 yX13_operand, .instanceMethod yX13_operand, .selects RX13 yX13_operand yX13_operand, .initialized RX13] : List Cond), w ∈ tw_W := tw_all (by decide +kernel)
theorem dX13_operand_145 : decode cX13_operand 145 = .ok (.aload_n 0, 1) := by decide +kernel
theorem dX13_operand_146 : decode cX13_operand 146 = .ok (.dup, 1) := by decide +kernel
theorem dX13_operand_147 : decode cX13_operand 147 = .ok (.getfield 151, 3) := by decide +kernel
theorem dX13_operand_150 : decode cX13_operand 150 = .ok (.iconst 1, 1) := by decide +kernel
theorem dX13_operand_151 : decode cX13_operand 151 = .ok (.isub, 1) := by decide +kernel
theorem dX13_operand_152 : decode cX13_operand 152 = .ok (.putfield 151, 3) := by decide +kernel
theorem dX13_operand_155 : decode cX13_operand 155 = .ok (.aload_n 0, 1) := by decide +kernel
theorem dX13_operand_156 : decode cX13_operand 156 = .ok (.iload_n 1, 1) := by decide +kernel
theorem dX13_operand_157 : decode cX13_operand 157 = .ok (.bipush 45, 2) := by decide +kernel
theorem dX13_operand_159 : decode cX13_operand 159 = .ok (.if_icmp .ne 17, 3) := by decide +kernel
theorem dX13_operand_176 : decode cX13_operand 176 = .ok (.iload_n 1, 1) := by decide +kernel
theorem dX13_operand_177 : decode cX13_operand 177 = .ok (.bipush 33, 2) := by decide +kernel
theorem dX13_operand_179 : decode cX13_operand 179 = .ok (.if_icmp .ne 17, 3) := by decide +kernel
theorem dX13_operand_196 : decode cX13_operand 196 = .ok (.bipush 19, 2) := by decide +kernel
theorem dX13_operand_198 : decode cX13_operand 198 = .ok (.iconst 4, 1) := by decide +kernel
theorem dX13_operand_199 : decode cX13_operand 199 = .ok (.bipush 10, 2) := by decide +kernel
theorem dX13_operand_201 : decode cX13_operand 201 = .ok (.bipush 10, 2) := by decide +kernel
theorem dX13_operand_203 : decode cX13_operand 203 = .ok (.iconst (-1), 1) := by decide +kernel
theorem dX13_operand_204 : decode cX13_operand 204 = .ok (.invokestatic 97, 3) := by decide +kernel
theorem dX13_operand_207 : decode cX13_operand 207 = .ok (.invokevirtual 111, 3) := by decide +kernel
theorem dX13_operand_210 : decode cX13_operand 210 = .ok (.pop, 1) := by decide +kernel
theorem dX13_operand_211 : decode cX13_operand 211 = .ok (.aload_n 0, 1) := by decide +kernel
theorem dX13_operand_212 : decode cX13_operand 212 = .ok (.iload_n 1, 1) := by decide +kernel
theorem dX13_operand_213 : decode cX13_operand 213 = .ok (.bipush 45, 2) := by decide +kernel
theorem dX13_operand_215 : decode cX13_operand 215 = .ok (.if_icmp .ne 8, 3) := by decide +kernel
theorem dX13_operand_223 : decode cX13_operand 223 = .ok (.iload_n 1, 1) := by decide +kernel
theorem dX13_operand_224 : decode cX13_operand 224 = .ok (.bipush 33, 2) := by decide +kernel
theorem dX13_operand_226 : decode cX13_operand 226 = .ok (.if_icmp .ne 8, 3) := by decide +kernel
theorem dX13_operand_234 : decode cX13_operand 234 = .ok (.bipush 20, 2) := by decide +kernel
theorem dX13_operand_236 : decode cX13_operand 236 = .ok (.iconst 0, 1) := by decide +kernel
theorem dX13_operand_237 : decode cX13_operand 237 = .ok (.invokevirtual 210, 3) := by decide +kernel
theorem dX13_operand_240 : decode cX13_operand 240 = .ok (.pop, 1) := by decide +kernel
theorem dX13_operand_241 : decode cX13_operand 241 = .ok (.goto 145, 3) := by decide +kernel
theorem dX13_operand_182 : decode cX13_operand 182 = .ok (.bipush 19, 2) := by decide +kernel
theorem dX13_operand_184 : decode cX13_operand 184 = .ok (.iconst 3, 1) := by decide +kernel
theorem dX13_operand_185 : decode cX13_operand 185 = .ok (.bipush 10, 2) := by decide +kernel
theorem dX13_operand_187 : decode cX13_operand 187 = .ok (.bipush 10, 2) := by decide +kernel
theorem dX13_operand_189 : decode cX13_operand 189 = .ok (.iconst 1, 1) := by decide +kernel
theorem dX13_operand_190 : decode cX13_operand 190 = .ok (.invokestatic 97, 3) := by decide +kernel
theorem dX13_operand_193 : decode cX13_operand 193 = .ok (.goto 14, 3) := by decide +kernel
theorem dX13_operand_229 : decode cX13_operand 229 = .ok (.bipush 19, 2) := by decide +kernel
theorem dX13_operand_231 : decode cX13_operand 231 = .ok (.goto 5, 3) := by decide +kernel
theorem dX13_operand_162 : decode cX13_operand 162 = .ok (.bipush 32, 2) := by decide +kernel
theorem dX13_operand_164 : decode cX13_operand 164 = .ok (.iconst 0, 1) := by decide +kernel
theorem dX13_operand_165 : decode cX13_operand 165 = .ok (.bipush 10, 2) := by decide +kernel
theorem dX13_operand_167 : decode cX13_operand 167 = .ok (.iconst 0, 1) := by decide +kernel
theorem dX13_operand_168 : decode cX13_operand 168 = .ok (.bipush 10, 2) := by decide +kernel
theorem dX13_operand_170 : decode cX13_operand 170 = .ok (.invokestatic 213, 3) := by decide +kernel
theorem dX13_operand_173 : decode cX13_operand 173 = .ok (.goto 34, 3) := by decide +kernel
theorem dX13_operand_218 : decode cX13_operand 218 = .ok (.bipush 18, 2) := by decide +kernel
theorem dX13_operand_220 : decode cX13_operand 220 = .ok (.goto 16, 3) := by decide +kernel
theorem dX13_operand_108 : decode cX13_operand 108 = .ok (.aload_n 0, 1) := by decide +kernel
theorem dX13_operand_109 : decode cX13_operand 109 = .ok (.bipush 33, 2) := by decide +kernel
theorem dX13_operand_111 : decode cX13_operand 111 = .ok (.invokevirtual 158, 3) := by decide +kernel
theorem dX13_operand_114 : decode cX13_operand 114 = .ok (.ifCond .ne 12, 3) := by decide +kernel
theorem dX13_operand_117 : decode cX13_operand 117 = .ok (.aload_n 0, 1) := by decide +kernel
theorem dX13_operand_118 : decode cX13_operand 118 = .ok (.bipush 126, 2) := by decide +kernel
theorem dX13_operand_120 : decode cX13_operand 120 = .ok (.invokevirtual 158, 3) := by decide +kernel
theorem dX13_operand_123 : decode cX13_operand 123 = .ok (.ifCond .eq 121, 3) := by decide +kernel
theorem dX13_operand_244 : decode cX13_operand 244 = .ok (.aload_n 0, 1) := by decide +kernel
theorem dX13_operand_245 : decode cX13_operand 245 = .ok (.bipush 40, 2) := by decide +kernel
theorem dX13_operand_247 : decode cX13_operand 247 = .ok (.invokevirtual 158, 3) := by decide +kernel
theorem dX13_operand_250 : decode cX13_operand 250 = .ok (.ifCond .eq 20, 3) := by decide +kernel
theorem dX13_operand_270 : decode cX13_operand 270 = .ok (.aload_n 0, 1) := by decide +kernel
theorem dX13_operand_271 : decode cX13_operand 271 = .ok (.bipush 10, 2) := by decide +kernel
theorem dX13_operand_273 : decode cX13_operand 273 = .ok (.invokevirtual 332, 3) := by decide +kernel
theorem tw_116 : (.code yX13_isKey cX13_isKey 2 (some .boolean) : Cond) ∈ tw_W := tw_in (by decide +kernel) (by decide +kernel)
theorem tw_117 : ∀ w ∈ ([.methodLink RX13 332 yX13_isKey, .instanceMethod yX13_isKey, .selects RX13 yX13_isKey yX13_isKey, .initialized RX13] : List Cond), w ∈ tw_W := tw_all (by decide +kernel)
theorem dX13_operand_276 : decode cX13_operand 276 = .ok (.ifCond .eq 49, 3) := by decide +kernel
theorem dX13_operand_325 : decode cX13_operand 325 = .ok (.aload_n 0, 1) := by decide +kernel
theorem dX13_operand_326 : decode cX13_operand 326 = .ok (.getfield 41, 3) := by decide +kernel
theorem dX13_operand_329 : decode cX13_operand 329 = .ok (.aload_n 0, 1) := by decide +kernel
theorem dX13_operand_330 : decode cX13_operand 330 = .ok (.getfield 137, 3) := by decide +kernel
theorem dX13_operand_333 : decode cX13_operand 333 = .ok (.iaload, 1) := by decide +kernel
theorem dX13_operand_334 : decode cX13_operand 334 = .ok (.iconst 2, 1) := by decide +kernel
theorem dX13_operand_335 : decode cX13_operand 335 = .ok (.if_icmp .ne 25, 3) := by decide +kernel
theorem dX13_operand_360 : decode cX13_operand 360 = .ok (.aload_n 0, 1) := by decide +kernel
theorem dX13_operand_361 : decode cX13_operand 361 = .ok (.getfield 41, 3) := by decide +kernel
theorem dX13_operand_364 : decode cX13_operand 364 = .ok (.aload_n 0, 1) := by decide +kernel
theorem dX13_operand_365 : decode cX13_operand 365 = .ok (.getfield 137, 3) := by decide +kernel
theorem dX13_operand_368 : decode cX13_operand 368 = .ok (.iaload, 1) := by decide +kernel
theorem dX13_operand_369 : decode cX13_operand 369 = .ok (.iconst 2, 1) := by decide +kernel
theorem dX13_operand_370 : decode cX13_operand 370 = .ok (.if_icmp .ne 11, 3) := by decide +kernel
theorem dX13_operand_381 : decode cX13_operand 381 = .ok (.aload_n 0, 1) := by decide +kernel
theorem dX13_operand_382 : decode cX13_operand 382 = .ok (.invokevirtual 161, 3) := by decide +kernel
theorem dX13_operand_385 : decode cX13_operand 385 = .ok (.athrow, 1) := by decide +kernel
theorem dX13_operand_338 : decode cX13_operand 338 = .ok (.aload_n 0, 1) := by decide +kernel
theorem dX13_operand_339 : decode cX13_operand 339 = .ok (.aload_n 0, 1) := by decide +kernel
theorem dX13_operand_340 : decode cX13_operand 340 = .ok (.getfield 137, 3) := by decide +kernel
theorem dX13_operand_343 : decode cX13_operand 343 = .ok (.iconst 1, 1) := by decide +kernel
theorem dX13_operand_344 : decode cX13_operand 344 = .ok (.iadd, 1) := by decide +kernel
theorem dX13_operand_345 : decode cX13_operand 345 = .ok (.bipush 40, 2) := by decide +kernel
theorem dX13_operand_347 : decode cX13_operand 347 = .ok (.invokevirtual 144, 3) := by decide +kernel
theorem dX13_operand_350 : decode cX13_operand 350 = .ok (.ifCond .eq 10, 3) := by decide +kernel
theorem dX13_operand_373 : decode cX13_operand 373 = .ok (.aload_n 0, 1) := by decide +kernel
theorem dX13_operand_374 : decode cX13_operand 374 = .ok (.iconst 0, 1) := by decide +kernel
theorem dX13_operand_375 : decode cX13_operand 375 = .ok (.invokevirtual 239, 3) := by decide +kernel
theorem tw_118 : (.code yX13_named cX13_named 7 none : Cond) ∈ tw_W := tw_in (by decide +kernel) (by decide +kernel)
theorem tw_119 : ∀ w ∈ ([.methodLink RX13 239 yX13_named, .instanceMethod yX13_named, .selects RX13 yX13_named yX13_named, .initialized RX13] : List Cond), w ∈ tw_W := tw_all (by decide +kernel)
theorem dX13_operand_378 : decode cX13_operand 378 = .ok (.goto 8, 3) := by decide +kernel
theorem dX13_operand_353 : decode cX13_operand 353 = .ok (.aload_n 0, 1) := by decide +kernel
theorem dX13_operand_354 : decode cX13_operand 354 = .ok (.invokevirtual 335, 3) := by decide +kernel
theorem tw_120 : (.code yX13_call cX13_call 6 none : Cond) ∈ tw_W := tw_in (by decide +kernel) (by decide +kernel)
theorem tw_121 : ∀ w ∈ ([.methodLink RX13 335 yX13_call, .instanceMethod yX13_call, .selects RX13 yX13_call yX13_call, .initialized RX13] : List Cond), w ∈ tw_W := tw_all (by decide +kernel)
theorem dX13_operand_357 : decode cX13_operand 357 = .ok (.goto 29, 3) := by decide +kernel
theorem dX13_operand_279 : decode cX13_operand 279 = .ok (.aload_n 0, 1) := by decide +kernel
theorem dX13_operand_280 : decode cX13_operand 280 = .ok (.invokevirtual 154, 3) := by decide +kernel
theorem dX13_operand_283 : decode cX13_operand 283 = .ok (.aload_n 0, 1) := by decide +kernel
theorem dX13_operand_284 : decode cX13_operand 284 = .ok (.bipush 40, 2) := by decide +kernel
theorem dX13_operand_286 : decode cX13_operand 286 = .ok (.invokevirtual 281, 3) := by decide +kernel
theorem dX13_operand_289 : decode cX13_operand 289 = .ok (.aload_n 0, 1) := by decide +kernel
theorem dX13_operand_290 : decode cX13_operand 290 = .ok (.bipush 41, 2) := by decide +kernel
theorem dX13_operand_292 : decode cX13_operand 292 = .ok (.invokevirtual 287, 3) := by decide +kernel
theorem dX13_operand_295 : decode cX13_operand 295 = .ok (.aload_n 0, 1) := by decide +kernel
theorem dX13_operand_296 : decode cX13_operand 296 = .ok (.bipush 17, 2) := by decide +kernel
theorem dX13_operand_298 : decode cX13_operand 298 = .ok (.iconst 0, 1) := by decide +kernel
theorem dX13_operand_299 : decode cX13_operand 299 = .ok (.iconst 2, 1) := by decide +kernel
theorem dX13_operand_300 : decode cX13_operand 300 = .ok (.invokestatic 219, 3) := by decide +kernel
theorem dX13_operand_303 : decode cX13_operand 303 = .ok (.invokevirtual 111, 3) := by decide +kernel
theorem dX13_operand_306 : decode cX13_operand 306 = .ok (.pop, 1) := by decide +kernel
theorem dX13_operand_307 : decode cX13_operand 307 = .ok (.aload_n 0, 1) := by decide +kernel
theorem dX13_operand_308 : decode cX13_operand 308 = .ok (.bipush 115, 2) := by decide +kernel
theorem dX13_operand_310 : decode cX13_operand 310 = .ok (.invokevirtual 111, 3) := by decide +kernel
theorem dX13_operand_313 : decode cX13_operand 313 = .ok (.pop, 1) := by decide +kernel
theorem dX13_operand_314 : decode cX13_operand 314 = .ok (.aload_n 0, 1) := by decide +kernel
theorem dX13_operand_315 : decode cX13_operand 315 = .ok (.bipush 17, 2) := by decide +kernel
theorem dX13_operand_317 : decode cX13_operand 317 = .ok (.iconst 0, 1) := by decide +kernel
theorem dX13_operand_318 : decode cX13_operand 318 = .ok (.invokevirtual 210, 3) := by decide +kernel
theorem dX13_operand_321 : decode cX13_operand 321 = .ok (.pop, 1) := by decide +kernel
theorem dX13_operand_322 : decode cX13_operand 322 = .ok (.goto 64, 3) := by decide +kernel
theorem dX13_operand_253 : decode cX13_operand 253 = .ok (.aload_n 0, 1) := by decide +kernel
theorem dX13_operand_254 : decode cX13_operand 254 = .ok (.invokevirtual 165, 3) := by decide +kernel
theorem dX13_operand_257 : decode cX13_operand 257 = .ok (.aload_n 0, 1) := by decide +kernel
theorem dX13_operand_258 : decode cX13_operand 258 = .ok (.invokevirtual 284, 3) := by decide +kernel
theorem dX13_operand_261 : decode cX13_operand 261 = .ok (.aload_n 0, 1) := by decide +kernel
theorem dX13_operand_262 : decode cX13_operand 262 = .ok (.bipush 41, 2) := by decide +kernel
theorem dX13_operand_264 : decode cX13_operand 264 = .ok (.invokevirtual 287, 3) := by decide +kernel
theorem dX13_operand_267 : decode cX13_operand 267 = .ok (.goto 119, 3) := by decide +kernel
def Cx_operand (l : Launch) (n : Nat) : Prop := ∀ (dC : Nat → ClassId) (dI : Nat → Nat → Nat) (cI cB cZ cJ cR : ClassId) (tb : Nat → Nat) (sz : Nat) (ad : Nat → Nat) (N : Nat) (v : MS)  (zn : 40 ≤ (v.1 0 48).toInt + (n : Int)) (zt : 0 ≤ (v.1 0 47).toInt ∧ (v.1 0 47).toInt ≤ 1500) (zop : 0 ≤ (v.1 0 48).toInt ∧ (v.1 0 48).toInt ≤ 40) (zkn : 0 ≤ (v.1 0 30).toInt ∧ (v.1 0 30).toInt ≤ 500) (zhi : 0 ≤ (v.1 0 33).toInt ∧ (v.1 0 33).toInt ≤ 500) (zs : 0 ≤ (v.1 0 32).toInt ∧ (v.1 0 30).toInt + (v.1 0 32).toInt ≤ 500) (zws : 0 ≤ (v.1 0 12).toInt ∧ (v.1 0 12).toInt ≤ 15 * (v.1 0 47).toInt + 2) (zos : 0 ≤ (v.1 0 15).toInt ∧ (v.1 0 15).toInt ≤ 10 * (v.1 0 47).toInt + 0) (zfs : 0 ≤ (v.1 0 43).toInt ∧ (v.1 0 43).toInt ≤ 15 * (v.1 0 47).toInt + 0) (zcs : 0 ≤ (v.1 0 39).toInt ∧ (v.1 0 39).toInt ≤ 1 * (v.1 0 47).toInt + 0) (zgl : 0 ≤ (v.1 0 27).toInt ∧ (v.1 0 27).toInt ≤ 60) (hT : TI v) (n29 : NI 29 v) (n23 : NI 23 v) (n35 : NI 35 v), vx_Met l yX13_operand (Cond.code yX13_operand cX13_operand 2 none :: tw_W) ({ frames := 40 * n + 9, cells := 0, slots := 0, locals := 28 * (40 * n + 9) }) (pc_ (dC, dI) (tyS cI cB cZ cJ cR) tb (mW ad N cI cZ cJ v) sz [.ref (ad 0)]) (qv_ (dC, dI) (mW ad N cI cZ cJ v) sz (fun (u : MS) => FG [12, 15, 32, 33, 39, 43, 44, 45, 47, 48, 49, 50, 51] [0, 11, 13, 14, 35, 36, 37, 38, 40, 41, 42] v u ∧ ((v.1 0 47).toInt + 1 ≤ (u.1 0 47).toInt ∧ (u.1 0 47).toInt ≤ 1500) ∧ ((v.1 0 49).toInt ≠ (v.1 0 47).toInt) ∧ ((v.1 0 12).toInt ≤ (u.1 0 12).toInt ∧ (u.1 0 12).toInt - 15 * (u.1 0 47).toInt ≤ (v.1 0 12).toInt - 15 * (v.1 0 47).toInt) ∧ ((v.1 0 15).toInt ≤ (u.1 0 15).toInt ∧ (u.1 0 15).toInt - 10 * (u.1 0 47).toInt ≤ (v.1 0 15).toInt - 10 * (v.1 0 47).toInt) ∧ ((v.1 0 43).toInt ≤ (u.1 0 43).toInt ∧ (u.1 0 43).toInt - 15 * (u.1 0 47).toInt ≤ (v.1 0 43).toInt - 15 * (v.1 0 47).toInt) ∧ ((v.1 0 39).toInt ≤ (u.1 0 39).toInt ∧ (u.1 0 39).toInt - 1 * (u.1 0 47).toInt ≤ (v.1 0 39).toInt - 1 * (v.1 0 47).toInt) ∧ ((u.1 0 32).toInt = (v.1 0 32).toInt ∧ (u.1 0 48).toInt = (v.1 0 48).toInt) ∧ ((v.1 0 33).toInt ≤ (u.1 0 33).toInt ∧ (u.1 0 33).toInt ≤ 500) ∧ (∀ j : Nat, (j : Int) < (v.1 0 12).toInt → (u.1 11) j = (v.1 11) j) ∧ (∀ j : Nat, (j : Int) < (v.1 0 15).toInt → (u.1 13) j = (v.1 13) j) ∧ (∀ j : Nat, (j : Int) < (v.1 0 15).toInt → (u.1 14) j = (v.1 14) j) ∧ (NI 35 u)) (fun (u : MS) => (mW ad N cI cZ cJ u))) (qxm (dC, dI) (mW ad N cI cZ cJ v) sz (fun (u : MS) => (mW ad N cI cZ cJ u)) (fun (u : MS) => Fr v u)) 0 0 (va_A (mW ad N cI cZ cJ v) sz)
set_option maxHeartbeats 16000000 in
set_option maxRecDepth 100000 in
theorem c_m_operand (l : Launch) (n : Nat) (ihE : ∀ m, n = m + 1 → Cx_expression l m) (ihO : ∀ m, n = m + 1 → Cx_operand l m) (dC : Nat → ClassId) (dI : Nat → Nat → Nat) (cI cB cZ cJ cR : ClassId) (tb : Nat → Nat) (sz : Nat) (ad : Nat → Nat) (N : Nat) (v : MS)  (zn : 40 ≤ (v.1 0 48).toInt + (n : Int)) (zt : 0 ≤ (v.1 0 47).toInt ∧ (v.1 0 47).toInt ≤ 1500) (zop : 0 ≤ (v.1 0 48).toInt ∧ (v.1 0 48).toInt ≤ 40) (zkn : 0 ≤ (v.1 0 30).toInt ∧ (v.1 0 30).toInt ≤ 500) (zhi : 0 ≤ (v.1 0 33).toInt ∧ (v.1 0 33).toInt ≤ 500) (zs : 0 ≤ (v.1 0 32).toInt ∧ (v.1 0 30).toInt + (v.1 0 32).toInt ≤ 500) (zws : 0 ≤ (v.1 0 12).toInt ∧ (v.1 0 12).toInt ≤ 15 * (v.1 0 47).toInt + 2) (zos : 0 ≤ (v.1 0 15).toInt ∧ (v.1 0 15).toInt ≤ 10 * (v.1 0 47).toInt + 0) (zfs : 0 ≤ (v.1 0 43).toInt ∧ (v.1 0 43).toInt ≤ 15 * (v.1 0 47).toInt + 0) (zcs : 0 ≤ (v.1 0 39).toInt ∧ (v.1 0 39).toInt ≤ 1 * (v.1 0 47).toInt + 0) (zgl : 0 ≤ (v.1 0 27).toInt ∧ (v.1 0 27).toInt ≤ 60) (hT : TI v) (n29 : NI 29 v) (n23 : NI 23 v) (n35 : NI 35 v) : vx_Met l yX13_operand (Cond.code yX13_operand cX13_operand 2 none :: tw_W) ({ frames := 40 * n + 9, cells := 0, slots := 0, locals := 28 * (40 * n + 9) }) (pc_ (dC, dI) (tyS cI cB cZ cJ cR) tb (mW ad N cI cZ cJ v) sz [.ref (ad 0)]) (qv_ (dC, dI) (mW ad N cI cZ cJ v) sz (fun (u : MS) => FG [12, 15, 32, 33, 39, 43, 44, 45, 47, 48, 49, 50, 51] [0, 11, 13, 14, 35, 36, 37, 38, 40, 41, 42] v u ∧ ((v.1 0 47).toInt + 1 ≤ (u.1 0 47).toInt ∧ (u.1 0 47).toInt ≤ 1500) ∧ ((v.1 0 49).toInt ≠ (v.1 0 47).toInt) ∧ ((v.1 0 12).toInt ≤ (u.1 0 12).toInt ∧ (u.1 0 12).toInt - 15 * (u.1 0 47).toInt ≤ (v.1 0 12).toInt - 15 * (v.1 0 47).toInt) ∧ ((v.1 0 15).toInt ≤ (u.1 0 15).toInt ∧ (u.1 0 15).toInt - 10 * (u.1 0 47).toInt ≤ (v.1 0 15).toInt - 10 * (v.1 0 47).toInt) ∧ ((v.1 0 43).toInt ≤ (u.1 0 43).toInt ∧ (u.1 0 43).toInt - 15 * (u.1 0 47).toInt ≤ (v.1 0 43).toInt - 15 * (v.1 0 47).toInt) ∧ ((v.1 0 39).toInt ≤ (u.1 0 39).toInt ∧ (u.1 0 39).toInt - 1 * (u.1 0 47).toInt ≤ (v.1 0 39).toInt - 1 * (v.1 0 47).toInt) ∧ ((u.1 0 32).toInt = (v.1 0 32).toInt ∧ (u.1 0 48).toInt = (v.1 0 48).toInt) ∧ ((v.1 0 33).toInt ≤ (u.1 0 33).toInt ∧ (u.1 0 33).toInt ≤ 500) ∧ (∀ j : Nat, (j : Int) < (v.1 0 12).toInt → (u.1 11) j = (v.1 11) j) ∧ (∀ j : Nat, (j : Int) < (v.1 0 15).toInt → (u.1 13) j = (v.1 13) j) ∧ (∀ j : Nat, (j : Int) < (v.1 0 15).toInt → (u.1 14) j = (v.1 14) j) ∧ (NI 35 u)) (fun (u : MS) => (mW ad N cI cZ cJ u))) (qxm (dC, dI) (mW ad N cI cZ cJ v) sz (fun (u : MS) => (mW ad N cI cZ cJ u)) (fun (u : MS) => Fr v u)) 0 0 (va_A (mW ad N cI cZ cJ v) sz) := by
  refine vx_ofW (cc := cX13_operand) (maxL := 2) (ret := none) (by decide) rfl ?_
  intro p e s m args below meth c s₁ B hml hnt hv
  obtain ⟨rfl, hsz, hP, hKK, hD0, hFx⟩ := hv
  have hK := hKK.1
  have hx := B.exec
  have hb := B.bytes
  have hr := B.returns
  have ht : ∀ w ∈ tw_W, w.before _ s = true := fun w h => atoms_spec (ws := Cond.code yX13_operand cX13_operand 2 none :: tw_W) B.pre w (List.mem_cons_of_mem _ h)
  have hown : s.vm.findClass RX13 = some m.cls := findClass_of_methodNamed B.named
  have hlocks := B.notSynchronized
  subst hsz
  unfold qv_ qxm
  have hD := hD0.self (sz := s.heap.size)
  generalize hAe : va_A (mW ad N cI cZ cJ v) s.heap.size = A at hD hFx ⊢
  have hA : ∀ q : Nat, s.heap.size ≤ q → A q := fun q h => by rw [← hAe]; exact Or.inr h
  have hS : va_S A s.heap s.heap [] := va_S.rf
  have hl := lv_entry ([.ref (ad 0)]) (n := 2) (Nat.le_of_ble_eq_true rfl)
  rw [lg_entry_eq]
  generalize (lg_sl ([.ref (ad 0)]) ++ List.replicate (2 - (lg_sl ([.ref (ad 0)])).length) Slot.unset).toArray = ls at hl ⊢
  have hl : lv_has ls 2 [(0, .ref (ad 0))] := hl
  refine lv_aload_n hx hb dX13_operand_0 rfl (lv_at hl 0 rfl) ?_
  refine va_get (D := (dC, dI)) (ci := 16) (fs := mF ad v) (v := .ref (ad 6)) (C := RX13) (T := TX13) (N := 124) hx hb ht itX13 hown hK hP 0 rfl rfl 6 (by decide) (ht _ tw_23) (fun _ h9 => h9) rfl dX13_operand_1 ?_
  refine lv_aload_n hx hb dX13_operand_4 rfl (lv_at hl 0 rfl) ?_
  refine va_get (D := (dC, dI)) (ci := 16) (fs := mF ad v) (v := .int (v.1 0 47)) (C := RX13) (T := TX13) (N := 124) hx hb ht itX13 hown hK hP 0 rfl rfl 47 (by decide) (ht _ tw_24) (fun _ h9 => h9) rfl dX13_operand_5 ?_
  refine va_iald (D := (dC, dI)) (f := (v.1 6)) hx hb hK hP 3 0 rfl rfl (in_z (a := (v.1 0 47).toInt) rfl (by omega) (by omega)) dX13_operand_8 ?_
  refine lv_iconst (v := 4) hx hb dX13_operand_9 (by decide) ?_
  refine lv_icmp_eq (tgt := 27) hx hb dX13_operand_10 (by decide) (fun h1 => ?_) (fun h1 => ?_)
  · have z2 : ((v.1 6) (v.1 0 47).toNatClampNeg).toInt = 4 := eq_z rfl (show (4 : Int32).toInt = 4 by decide) h1
    refine lv_aload_n hx hb dX13_operand_27 rfl (lv_at hl 0 rfl) ?_
    refine va_get (D := (dC, dI)) (ci := 16) (fs := mF ad v) (v := .ref (ad 6)) (C := RX13) (T := TX13) (N := 124) hx hb ht itX13 hown hK hP 0 rfl rfl 6 (by decide) (ht _ tw_23) (fun _ h9 => h9) rfl dX13_operand_28 ?_
    refine lv_aload_n hx hb dX13_operand_31 rfl (lv_at hl 0 rfl) ?_
    refine va_get (D := (dC, dI)) (ci := 16) (fs := mF ad v) (v := .int (v.1 0 47)) (C := RX13) (T := TX13) (N := 124) hx hb ht itX13 hown hK hP 0 rfl rfl 47 (by decide) (ht _ tw_24) (fun _ h9 => h9) rfl dX13_operand_32 ?_
    refine va_iald (D := (dC, dI)) (f := (v.1 6)) hx hb hK hP 3 0 rfl rfl (in_z (a := (v.1 0 47).toInt) rfl (by omega) (by omega)) dX13_operand_35 ?_
    refine lv_iconst (v := 4) hx hb dX13_operand_36 (by decide) ?_
    refine lv_icmp_ne (tgt := 76) hx hb dX13_operand_37 (by decide) (fun h3 => ?_) (fun h3 => ?_)
    · have z4 : ((v.1 6) (v.1 0 47).toNatClampNeg).toInt ≠ 4 := ne_z rfl (show (4 : Int32).toInt = 4 by decide) h3
      exfalso; omega
    · have z5 : ((v.1 6) (v.1 0 47).toNatClampNeg).toInt = 4 := eq_z rfl (show (4 : Int32).toInt = 4 by decide) h3
      refine lv_aload_n hx hb dX13_operand_40 rfl (lv_at hl 0 rfl) ?_
      refine va_get (D := (dC, dI)) (ci := 16) (fs := mF ad v) (v := .ref (ad 10)) (C := RX13) (T := TX13) (N := 124) hx hb ht itX13 hown hK hP 0 rfl rfl 10 (by decide) (ht _ tw_110) (fun _ h9 => h9) rfl dX13_operand_41 ?_
      refine lv_aload_n hx hb dX13_operand_44 rfl (lv_at hl 0 rfl) ?_
      refine va_get (D := (dC, dI)) (ci := 16) (fs := mF ad v) (v := .int (v.1 0 47)) (C := RX13) (T := TX13) (N := 124) hx hb ht itX13 hown hK hP 0 rfl rfl 47 (by decide) (ht _ tw_24) (fun _ h9 => h9) rfl dX13_operand_45 ?_
      refine va_zald (D := (dC, dI)) (f := (v.1 10)) hx hb hK hP 7 2 rfl rfl (in_z (a := (v.1 0 47).toInt) rfl (by omega) (by omega)) dX13_operand_48 ?_
      refine lv_if_eq (tgt := 76) hx hb dX13_operand_49 (by decide) (fun h6 => ?_) (fun h6 => ?_)
      · have z7 : ((v.1 10) (v.1 0 47).toNatClampNeg).toInt = 0 := eq_z rfl (show (0 : Int32).toInt = 0 by decide) h6
        refine lv_aload_n hx hb dX13_operand_76 rfl (lv_at hl 0 rfl) ?_
        refine va_get (D := (dC, dI)) (ci := 16) (fs := mF ad v) (v := .ref (ad 9)) (C := RX13) (T := TX13) (N := 124) hx hb ht itX13 hown hK hP 0 rfl rfl 9 (by decide) (ht _ tw_27) (fun _ h9 => h9) rfl dX13_operand_77 ?_
        refine lv_aload_n hx hb dX13_operand_80 rfl (lv_at hl 0 rfl) ?_
        refine va_get (D := (dC, dI)) (ci := 16) (fs := mF ad v) (v := .int (v.1 0 47)) (C := RX13) (T := TX13) (N := 124) hx hb ht itX13 hown hK hP 0 rfl rfl 47 (by decide) (ht _ tw_24) (fun _ h9 => h9) rfl dX13_operand_81 ?_
        refine va_lald (D := (dC, dI)) (f := v.2) hx hb hK hP 6 3 rfl rfl (in_z (a := (v.1 0 47).toInt) rfl (by omega) (by omega)) dX13_operand_84 ?_
        refine lv_l2i hx hb dX13_operand_85 rfl ?_
        refine lv_istore_n (lv' := [(1, .int ((v.2 (v.1 0 47).toNatClampNeg).toInt32)), (0, .ref (ad 0))]) hx hb dX13_operand_86 rfl hl (by decide) rfl (fun ls hl => ?_)
        refine lv_aload_n hx hb dX13_operand_87 rfl (lv_at hl 1 rfl) ?_
        refine cux_v (rx_V (n := 0) (As := []) (rest := []) hx hb hml hown ht hKK hFx hP hD hS hA (c_m_take l dC dI cI cB cZ cJ cR tb s.heap.size ad N v  (show 0 ≤ (v.1 0 47).toInt ∧ (v.1 0 47).toInt ≤ 1500 by omega)) tw_32 tw_33 (by decide +kernel) rfl rfl ⟨by show 1 + 1 ≤ 40 * n + 9; omega, by show 8 + (1 + 11) + 22 ≤ 28 * (40 * n + 9); omega⟩ (List.range (mW ad N cI cZ cJ v).length) (rg_map _) (mW_nd _ _ _ _ _ _) rfl rfl rfl rfl hl.1 rfl (Nat.le_of_ble_eq_true rfl) dX13_operand_88 ⟨Nat.le_of_ble_eq_true rfl, Nat.le_of_ble_eq_true rfl⟩) hP hD hS hA (fun u9 ce9 q9 H locs hx9 hP hD hS hc9 hv9 hf9 => ?_) (fun u9 H locs hw8 hP hD hS => ?_)
        · exact vx_out (fun x h9 => (hnt x h9).elim) hlocks hc9 hv9 hf9 (fun t9 ht9 hv8 => ⟨u9, (FG.tr (FG.rf _) hx9), ⟨rfl, by rw [ht9]; exact hP, hD⟩, hS.F ht9⟩) hS.2.2 (by omega) (by omega)
        obtain ⟨rfl, a8, b8⟩ := hw8
        have z11 : ((v.1 0 47) + (1 : Int32)).toInt = (v.1 0 47).toInt + 1 := add_z rfl (show (1 : Int32).toInt = 1 by decide) (by omega) (by omega)
        have hP : va_P (dC, dI) vwCl (mW ad N cI cZ cJ (wA v 0 47 ((v.1 0 47) + (1 : Int32)))) H := hP
        have hD : va_D A (mW ad N cI cZ cJ (wA v 0 47 ((v.1 0 47) + (1 : Int32)))) := hD
        refine W.widen (k := 0) (n := 0) (by omega) (by omega) ?_
        refine lv_aload_n hx hb dX13_operand_91 rfl (lv_at hl 1 rfl) ?_
        refine lv_iload_n hx hb dX13_operand_92 rfl (lv_at hl 0 rfl) ?_
        refine cu_v (rn_V (n := 1) (As := [.int ((v.2 (v.1 0 47).toNatClampNeg).toInt32)]) (rest := []) hx hb hml hown ht hKK hFx hP hD hS hA (c_m_loads l dC dI cI cB cZ cJ cR tb H.size ad N (wA v 0 47 ((v.1 0 47) + (1 : Int32))) ((v.2 (v.1 0 47).toNatClampNeg).toInt32) (show 0 ≤ (v.1 0 12).toInt ∧ (v.1 0 12).toInt ≤ 23980 by omega) (show 0 ≤ (v.1 0 15).toInt ∧ (v.1 0 15).toInt ≤ 15980 by omega)) tw_111 tw_112 (by decide +kernel) rfl rfl ⟨by show 2 + 1 ≤ 40 * n + 9; omega, by show 8 + (2 + 11) + 46 ≤ 28 * (40 * n + 9); omega⟩ (List.range (mW ad N cI cZ cJ (wA v 0 47 ((v.1 0 47) + (1 : Int32)))).length) (rg_map _) (mW_nd _ _ _ _ _ _) rfl rfl rfl rfl hl.1 rfl (Nat.le_of_ble_eq_true rfl) dX13_operand_93 ⟨Nat.le_of_ble_eq_true rfl, Nat.le_of_ble_eq_true rfl⟩) hP hD hS hA (fun u13 H locs hw12 hP hD hS => ?_)
        obtain ⟨fr12, pw12, po12, kc12, ko12, kg12⟩ := hw12
        have q12_2 : (u13.1 0 2).toInt = (v.1 0 2).toInt := congrArg Int32.toInt ((fr12.2.1 2 (by decide)).trans (show (wA v 0 47 ((v.1 0 47) + (1 : Int32))).1 0 2 = (v.1 0 2) by rfl))
        have q12_4 : (u13.1 0 4).toInt = (v.1 0 4).toInt := congrArg Int32.toInt ((fr12.2.1 4 (by decide)).trans (show (wA v 0 47 ((v.1 0 47) + (1 : Int32))).1 0 4 = (v.1 0 4) by rfl))
        have q12_5 : (u13.1 0 5).toInt = (v.1 0 5).toInt := congrArg Int32.toInt ((fr12.2.1 5 (by decide)).trans (show (wA v 0 47 ((v.1 0 47) + (1 : Int32))).1 0 5 = (v.1 0 5) by rfl))
        have q12_22 : (u13.1 0 22).toInt = (v.1 0 22).toInt := congrArg Int32.toInt ((fr12.2.1 22 (by decide)).trans (show (wA v 0 47 ((v.1 0 47) + (1 : Int32))).1 0 22 = (v.1 0 22) by rfl))
        have q12_27 : (u13.1 0 27).toInt = (v.1 0 27).toInt := congrArg Int32.toInt ((fr12.2.1 27 (by decide)).trans (show (wA v 0 47 ((v.1 0 47) + (1 : Int32))).1 0 27 = (v.1 0 27) by rfl))
        have q12_28 : (u13.1 0 28).toInt = (v.1 0 28).toInt := congrArg Int32.toInt ((fr12.2.1 28 (by decide)).trans (show (wA v 0 47 ((v.1 0 47) + (1 : Int32))).1 0 28 = (v.1 0 28) by rfl))
        have q12_30 : (u13.1 0 30).toInt = (v.1 0 30).toInt := congrArg Int32.toInt ((fr12.2.1 30 (by decide)).trans (show (wA v 0 47 ((v.1 0 47) + (1 : Int32))).1 0 30 = (v.1 0 30) by rfl))
        have q12_31 : (u13.1 0 31).toInt = (v.1 0 31).toInt := congrArg Int32.toInt ((fr12.2.1 31 (by decide)).trans (show (wA v 0 47 ((v.1 0 47) + (1 : Int32))).1 0 31 = (v.1 0 31) by rfl))
        have q12_32 : (u13.1 0 32).toInt = (v.1 0 32).toInt := congrArg Int32.toInt ((fr12.2.1 32 (by decide)).trans (show (wA v 0 47 ((v.1 0 47) + (1 : Int32))).1 0 32 = (v.1 0 32) by rfl))
        have q12_33 : (u13.1 0 33).toInt = (v.1 0 33).toInt := congrArg Int32.toInt ((fr12.2.1 33 (by decide)).trans (show (wA v 0 47 ((v.1 0 47) + (1 : Int32))).1 0 33 = (v.1 0 33) by rfl))
        have q12_34 : (u13.1 0 34).toInt = (v.1 0 34).toInt := congrArg Int32.toInt ((fr12.2.1 34 (by decide)).trans (show (wA v 0 47 ((v.1 0 47) + (1 : Int32))).1 0 34 = (v.1 0 34) by rfl))
        have q12_39 : (u13.1 0 39).toInt = (v.1 0 39).toInt := congrArg Int32.toInt ((fr12.2.1 39 (by decide)).trans (show (wA v 0 47 ((v.1 0 47) + (1 : Int32))).1 0 39 = (v.1 0 39) by rfl))
        have q12_43 : (u13.1 0 43).toInt = (v.1 0 43).toInt := congrArg Int32.toInt ((fr12.2.1 43 (by decide)).trans (show (wA v 0 47 ((v.1 0 47) + (1 : Int32))).1 0 43 = (v.1 0 43) by rfl))
        have q12_47 : (u13.1 0 47).toInt = ((v.1 0 47) + (1 : Int32)).toInt := congrArg Int32.toInt ((fr12.2.1 47 (by decide)).trans (show (wA v 0 47 ((v.1 0 47) + (1 : Int32))).1 0 47 = ((v.1 0 47) + (1 : Int32)) by rfl))
        have q12_48 : (u13.1 0 48).toInt = (v.1 0 48).toInt := congrArg Int32.toInt ((fr12.2.1 48 (by decide)).trans (show (wA v 0 47 ((v.1 0 47) + (1 : Int32))).1 0 48 = (v.1 0 48) by rfl))
        have q12_49 : (u13.1 0 49).toInt = (v.1 0 49).toInt := congrArg Int32.toInt ((fr12.2.1 49 (by decide)).trans (show (wA v 0 47 ((v.1 0 47) + (1 : Int32))).1 0 49 = (v.1 0 49) by rfl))
        have q12_52 : (u13.1 0 52).toInt = (v.1 0 52).toInt := congrArg Int32.toInt ((fr12.2.1 52 (by decide)).trans (show (wA v 0 47 ((v.1 0 47) + (1 : Int32))).1 0 52 = (v.1 0 52) by rfl))
        have pw12 : (v.1 0 12).toInt ≤ (u13.1 0 12).toInt ∧ (u13.1 0 12).toInt ≤ (v.1 0 12).toInt + 2 := pw12
        have po12 : (u13.1 0 15).toInt = (v.1 0 15).toInt + 1 := po12
        have kc12 : ∀ j : Nat, (j : Int) < (v.1 0 12).toInt → (u13.1 11) j = (v.1 11) j := kc12
        have ko12 : ∀ j : Nat, (j : Int) < (v.1 0 15).toInt → (u13.1 13) j = (v.1 13) j := ko12
        have kg12 : ∀ j : Nat, (j : Int) < (v.1 0 15).toInt → (u13.1 14) j = (v.1 14) j := kg12
        refine W.widen (k := 0) (n := 0) (by omega) (by omega) ?_
        refine lv_goto (tgt := 386) hx hb dX13_operand_96 (by decide) ?_
        refine vx_ret ?_
        exact W.vret hx hb hr (fun t ht9 hW => ⟨⟨u13, rfl, ⟨(FG.tr (FG.f (FG.rf _) ((v.1 0 47) + (1 : Int32)) (by decide)) (FG.up fr12 (by decide) (by decide))), (show (v.1 0 47).toInt + 1 ≤ (u13.1 0 47).toInt ∧ (u13.1 0 47).toInt ≤ 1500 by omega), (show (v.1 0 49).toInt ≠ (v.1 0 47).toInt by omega), (show (v.1 0 12).toInt ≤ (u13.1 0 12).toInt ∧ (u13.1 0 12).toInt - 15 * (u13.1 0 47).toInt ≤ (v.1 0 12).toInt - 15 * (v.1 0 47).toInt by omega), (show (v.1 0 15).toInt ≤ (u13.1 0 15).toInt ∧ (u13.1 0 15).toInt - 10 * (u13.1 0 47).toInt ≤ (v.1 0 15).toInt - 10 * (v.1 0 47).toInt by omega), (show (v.1 0 43).toInt ≤ (u13.1 0 43).toInt ∧ (u13.1 0 43).toInt - 15 * (u13.1 0 47).toInt ≤ (v.1 0 43).toInt - 15 * (v.1 0 47).toInt by omega), (show (v.1 0 39).toInt ≤ (u13.1 0 39).toInt ∧ (u13.1 0 39).toInt - 1 * (u13.1 0 47).toInt ≤ (v.1 0 39).toInt - 1 * (v.1 0 47).toInt by omega), (show (u13.1 0 32).toInt = (v.1 0 32).toInt ∧ (u13.1 0 48).toInt = (v.1 0 48).toInt by omega), (show (v.1 0 33).toInt ≤ (u13.1 0 33).toInt ∧ (u13.1 0 33).toInt ≤ 500 by omega), (fun (j9 : Nat) hj9 => (kc12 j9 (by omega))), (fun (j9 : Nat) hj9 => (ko12 j9 (by omega))), (fun (j9 : Nat) hj9 => (kg12 j9 (by omega))), (show NI 35 u13 from NI.fr (fl := [12, 15]) (al := [0, 11, 13, 14]) fr12 (by decide) n35)⟩, by rw [ht9]; exact hP, hD⟩, hS.F ht9⟩) hS.2.2 dX13_operand_386
      · have z15 : ((v.1 10) (v.1 0 47).toNatClampNeg).toInt ≠ 0 := ne_z rfl (show (0 : Int32).toInt = 0 by decide) h6
        refine lv_aload_n hx hb dX13_operand_52 rfl (lv_at hl 0 rfl) ?_
        refine va_get (D := (dC, dI)) (ci := 16) (fs := mF ad v) (v := .ref (ad 9)) (C := RX13) (T := TX13) (N := 124) hx hb ht itX13 hown hK hP 0 rfl rfl 9 (by decide) (ht _ tw_27) (fun _ h9 => h9) rfl dX13_operand_53 ?_
        refine lv_aload_n hx hb dX13_operand_56 rfl (lv_at hl 0 rfl) ?_
        refine va_get (D := (dC, dI)) (ci := 16) (fs := mF ad v) (v := .int (v.1 0 47)) (C := RX13) (T := TX13) (N := 124) hx hb ht itX13 hown hK hP 0 rfl rfl 47 (by decide) (ht _ tw_24) (fun _ h9 => h9) rfl dX13_operand_57 ?_
        refine va_lald (D := (dC, dI)) (f := v.2) hx hb hK hP 6 3 rfl rfl (in_z (a := (v.1 0 47).toInt) rfl (by omega) (by omega)) dX13_operand_60 ?_
        refine lv_ldc2 (v := 2147483647) hx hb hown (ht _ tw_113) dX13_operand_61 ?_
        refine W.lcmp hx hb dX13_operand_64 ?_
        refine lv_if_le (tgt := 76) hx hb dX13_operand_65 (by decide) (fun h16 => ?_) (fun h16 => ?_)
        · have z17 : (lg_cmp (v.2 (v.1 0 47).toNatClampNeg) (2147483647 : Int64)).toInt ≤ 0 := le_z rfl (show (0 : Int32).toInt = 0 by decide) h16
          refine lv_aload_n hx hb dX13_operand_76 rfl (lv_at hl 0 rfl) ?_
          refine va_get (D := (dC, dI)) (ci := 16) (fs := mF ad v) (v := .ref (ad 9)) (C := RX13) (T := TX13) (N := 124) hx hb ht itX13 hown hK hP 0 rfl rfl 9 (by decide) (ht _ tw_27) (fun _ h9 => h9) rfl dX13_operand_77 ?_
          refine lv_aload_n hx hb dX13_operand_80 rfl (lv_at hl 0 rfl) ?_
          refine va_get (D := (dC, dI)) (ci := 16) (fs := mF ad v) (v := .int (v.1 0 47)) (C := RX13) (T := TX13) (N := 124) hx hb ht itX13 hown hK hP 0 rfl rfl 47 (by decide) (ht _ tw_24) (fun _ h9 => h9) rfl dX13_operand_81 ?_
          refine va_lald (D := (dC, dI)) (f := v.2) hx hb hK hP 6 3 rfl rfl (in_z (a := (v.1 0 47).toInt) rfl (by omega) (by omega)) dX13_operand_84 ?_
          refine lv_l2i hx hb dX13_operand_85 rfl ?_
          refine lv_istore_n (lv' := [(1, .int ((v.2 (v.1 0 47).toNatClampNeg).toInt32)), (0, .ref (ad 0))]) hx hb dX13_operand_86 rfl hl (by decide) rfl (fun ls hl => ?_)
          refine lv_aload_n hx hb dX13_operand_87 rfl (lv_at hl 1 rfl) ?_
          refine cux_v (rx_V (n := 0) (As := []) (rest := []) hx hb hml hown ht hKK hFx hP hD hS hA (c_m_take l dC dI cI cB cZ cJ cR tb s.heap.size ad N v  (show 0 ≤ (v.1 0 47).toInt ∧ (v.1 0 47).toInt ≤ 1500 by omega)) tw_32 tw_33 (by decide +kernel) rfl rfl ⟨by show 1 + 1 ≤ 40 * n + 9; omega, by show 8 + (1 + 11) + 22 ≤ 28 * (40 * n + 9); omega⟩ (List.range (mW ad N cI cZ cJ v).length) (rg_map _) (mW_nd _ _ _ _ _ _) rfl rfl rfl rfl hl.1 rfl (Nat.le_of_ble_eq_true rfl) dX13_operand_88 ⟨Nat.le_of_ble_eq_true rfl, Nat.le_of_ble_eq_true rfl⟩) hP hD hS hA (fun u9 ce9 q9 H locs hx9 hP hD hS hc9 hv9 hf9 => ?_) (fun u19 H locs hw18 hP hD hS => ?_)
          · exact vx_out (fun x h9 => (hnt x h9).elim) hlocks hc9 hv9 hf9 (fun t9 ht9 hv8 => ⟨u9, (FG.tr (FG.rf _) hx9), ⟨rfl, by rw [ht9]; exact hP, hD⟩, hS.F ht9⟩) hS.2.2 (by omega) (by omega)
          obtain ⟨rfl, a18, b18⟩ := hw18
          have z21 : ((v.1 0 47) + (1 : Int32)).toInt = (v.1 0 47).toInt + 1 := add_z rfl (show (1 : Int32).toInt = 1 by decide) (by omega) (by omega)
          have hP : va_P (dC, dI) vwCl (mW ad N cI cZ cJ (wA v 0 47 ((v.1 0 47) + (1 : Int32)))) H := hP
          have hD : va_D A (mW ad N cI cZ cJ (wA v 0 47 ((v.1 0 47) + (1 : Int32)))) := hD
          refine W.widen (k := 0) (n := 0) (by omega) (by omega) ?_
          refine lv_aload_n hx hb dX13_operand_91 rfl (lv_at hl 1 rfl) ?_
          refine lv_iload_n hx hb dX13_operand_92 rfl (lv_at hl 0 rfl) ?_
          refine cu_v (rn_V (n := 1) (As := [.int ((v.2 (v.1 0 47).toNatClampNeg).toInt32)]) (rest := []) hx hb hml hown ht hKK hFx hP hD hS hA (c_m_loads l dC dI cI cB cZ cJ cR tb H.size ad N (wA v 0 47 ((v.1 0 47) + (1 : Int32))) ((v.2 (v.1 0 47).toNatClampNeg).toInt32) (show 0 ≤ (v.1 0 12).toInt ∧ (v.1 0 12).toInt ≤ 23980 by omega) (show 0 ≤ (v.1 0 15).toInt ∧ (v.1 0 15).toInt ≤ 15980 by omega)) tw_111 tw_112 (by decide +kernel) rfl rfl ⟨by show 2 + 1 ≤ 40 * n + 9; omega, by show 8 + (2 + 11) + 46 ≤ 28 * (40 * n + 9); omega⟩ (List.range (mW ad N cI cZ cJ (wA v 0 47 ((v.1 0 47) + (1 : Int32)))).length) (rg_map _) (mW_nd _ _ _ _ _ _) rfl rfl rfl rfl hl.1 rfl (Nat.le_of_ble_eq_true rfl) dX13_operand_93 ⟨Nat.le_of_ble_eq_true rfl, Nat.le_of_ble_eq_true rfl⟩) hP hD hS hA (fun u23 H locs hw22 hP hD hS => ?_)
          obtain ⟨fr22, pw22, po22, kc22, ko22, kg22⟩ := hw22
          have q22_2 : (u23.1 0 2).toInt = (v.1 0 2).toInt := congrArg Int32.toInt ((fr22.2.1 2 (by decide)).trans (show (wA v 0 47 ((v.1 0 47) + (1 : Int32))).1 0 2 = (v.1 0 2) by rfl))
          have q22_4 : (u23.1 0 4).toInt = (v.1 0 4).toInt := congrArg Int32.toInt ((fr22.2.1 4 (by decide)).trans (show (wA v 0 47 ((v.1 0 47) + (1 : Int32))).1 0 4 = (v.1 0 4) by rfl))
          have q22_5 : (u23.1 0 5).toInt = (v.1 0 5).toInt := congrArg Int32.toInt ((fr22.2.1 5 (by decide)).trans (show (wA v 0 47 ((v.1 0 47) + (1 : Int32))).1 0 5 = (v.1 0 5) by rfl))
          have q22_22 : (u23.1 0 22).toInt = (v.1 0 22).toInt := congrArg Int32.toInt ((fr22.2.1 22 (by decide)).trans (show (wA v 0 47 ((v.1 0 47) + (1 : Int32))).1 0 22 = (v.1 0 22) by rfl))
          have q22_27 : (u23.1 0 27).toInt = (v.1 0 27).toInt := congrArg Int32.toInt ((fr22.2.1 27 (by decide)).trans (show (wA v 0 47 ((v.1 0 47) + (1 : Int32))).1 0 27 = (v.1 0 27) by rfl))
          have q22_28 : (u23.1 0 28).toInt = (v.1 0 28).toInt := congrArg Int32.toInt ((fr22.2.1 28 (by decide)).trans (show (wA v 0 47 ((v.1 0 47) + (1 : Int32))).1 0 28 = (v.1 0 28) by rfl))
          have q22_30 : (u23.1 0 30).toInt = (v.1 0 30).toInt := congrArg Int32.toInt ((fr22.2.1 30 (by decide)).trans (show (wA v 0 47 ((v.1 0 47) + (1 : Int32))).1 0 30 = (v.1 0 30) by rfl))
          have q22_31 : (u23.1 0 31).toInt = (v.1 0 31).toInt := congrArg Int32.toInt ((fr22.2.1 31 (by decide)).trans (show (wA v 0 47 ((v.1 0 47) + (1 : Int32))).1 0 31 = (v.1 0 31) by rfl))
          have q22_32 : (u23.1 0 32).toInt = (v.1 0 32).toInt := congrArg Int32.toInt ((fr22.2.1 32 (by decide)).trans (show (wA v 0 47 ((v.1 0 47) + (1 : Int32))).1 0 32 = (v.1 0 32) by rfl))
          have q22_33 : (u23.1 0 33).toInt = (v.1 0 33).toInt := congrArg Int32.toInt ((fr22.2.1 33 (by decide)).trans (show (wA v 0 47 ((v.1 0 47) + (1 : Int32))).1 0 33 = (v.1 0 33) by rfl))
          have q22_34 : (u23.1 0 34).toInt = (v.1 0 34).toInt := congrArg Int32.toInt ((fr22.2.1 34 (by decide)).trans (show (wA v 0 47 ((v.1 0 47) + (1 : Int32))).1 0 34 = (v.1 0 34) by rfl))
          have q22_39 : (u23.1 0 39).toInt = (v.1 0 39).toInt := congrArg Int32.toInt ((fr22.2.1 39 (by decide)).trans (show (wA v 0 47 ((v.1 0 47) + (1 : Int32))).1 0 39 = (v.1 0 39) by rfl))
          have q22_43 : (u23.1 0 43).toInt = (v.1 0 43).toInt := congrArg Int32.toInt ((fr22.2.1 43 (by decide)).trans (show (wA v 0 47 ((v.1 0 47) + (1 : Int32))).1 0 43 = (v.1 0 43) by rfl))
          have q22_47 : (u23.1 0 47).toInt = ((v.1 0 47) + (1 : Int32)).toInt := congrArg Int32.toInt ((fr22.2.1 47 (by decide)).trans (show (wA v 0 47 ((v.1 0 47) + (1 : Int32))).1 0 47 = ((v.1 0 47) + (1 : Int32)) by rfl))
          have q22_48 : (u23.1 0 48).toInt = (v.1 0 48).toInt := congrArg Int32.toInt ((fr22.2.1 48 (by decide)).trans (show (wA v 0 47 ((v.1 0 47) + (1 : Int32))).1 0 48 = (v.1 0 48) by rfl))
          have q22_49 : (u23.1 0 49).toInt = (v.1 0 49).toInt := congrArg Int32.toInt ((fr22.2.1 49 (by decide)).trans (show (wA v 0 47 ((v.1 0 47) + (1 : Int32))).1 0 49 = (v.1 0 49) by rfl))
          have q22_52 : (u23.1 0 52).toInt = (v.1 0 52).toInt := congrArg Int32.toInt ((fr22.2.1 52 (by decide)).trans (show (wA v 0 47 ((v.1 0 47) + (1 : Int32))).1 0 52 = (v.1 0 52) by rfl))
          have pw22 : (v.1 0 12).toInt ≤ (u23.1 0 12).toInt ∧ (u23.1 0 12).toInt ≤ (v.1 0 12).toInt + 2 := pw22
          have po22 : (u23.1 0 15).toInt = (v.1 0 15).toInt + 1 := po22
          have kc22 : ∀ j : Nat, (j : Int) < (v.1 0 12).toInt → (u23.1 11) j = (v.1 11) j := kc22
          have ko22 : ∀ j : Nat, (j : Int) < (v.1 0 15).toInt → (u23.1 13) j = (v.1 13) j := ko22
          have kg22 : ∀ j : Nat, (j : Int) < (v.1 0 15).toInt → (u23.1 14) j = (v.1 14) j := kg22
          refine W.widen (k := 0) (n := 0) (by omega) (by omega) ?_
          refine lv_goto (tgt := 386) hx hb dX13_operand_96 (by decide) ?_
          refine vx_ret ?_
          exact W.vret hx hb hr (fun t ht9 hW => ⟨⟨u23, rfl, ⟨(FG.tr (FG.f (FG.rf _) ((v.1 0 47) + (1 : Int32)) (by decide)) (FG.up fr22 (by decide) (by decide))), (show (v.1 0 47).toInt + 1 ≤ (u23.1 0 47).toInt ∧ (u23.1 0 47).toInt ≤ 1500 by omega), (show (v.1 0 49).toInt ≠ (v.1 0 47).toInt by omega), (show (v.1 0 12).toInt ≤ (u23.1 0 12).toInt ∧ (u23.1 0 12).toInt - 15 * (u23.1 0 47).toInt ≤ (v.1 0 12).toInt - 15 * (v.1 0 47).toInt by omega), (show (v.1 0 15).toInt ≤ (u23.1 0 15).toInt ∧ (u23.1 0 15).toInt - 10 * (u23.1 0 47).toInt ≤ (v.1 0 15).toInt - 10 * (v.1 0 47).toInt by omega), (show (v.1 0 43).toInt ≤ (u23.1 0 43).toInt ∧ (u23.1 0 43).toInt - 15 * (u23.1 0 47).toInt ≤ (v.1 0 43).toInt - 15 * (v.1 0 47).toInt by omega), (show (v.1 0 39).toInt ≤ (u23.1 0 39).toInt ∧ (u23.1 0 39).toInt - 1 * (u23.1 0 47).toInt ≤ (v.1 0 39).toInt - 1 * (v.1 0 47).toInt by omega), (show (u23.1 0 32).toInt = (v.1 0 32).toInt ∧ (u23.1 0 48).toInt = (v.1 0 48).toInt by omega), (show (v.1 0 33).toInt ≤ (u23.1 0 33).toInt ∧ (u23.1 0 33).toInt ≤ 500 by omega), (fun (j9 : Nat) hj9 => (kc22 j9 (by omega))), (fun (j9 : Nat) hj9 => (ko22 j9 (by omega))), (fun (j9 : Nat) hj9 => (kg22 j9 (by omega))), (show NI 35 u23 from NI.fr (fl := [12, 15]) (al := [0, 11, 13, 14]) fr22 (by decide) n35)⟩, by rw [ht9]; exact hP, hD⟩, hS.F ht9⟩) hS.2.2 dX13_operand_386
        · have z25 : 0 < (lg_cmp (v.2 (v.1 0 47).toNatClampNeg) (2147483647 : Int64)).toInt := nle_z rfl (show (0 : Int32).toInt = 0 by decide) h16
          refine lv_aload_n hx hb dX13_operand_68 rfl (lv_at hl 0 rfl) ?_
          refine lv_aload_n hx hb dX13_operand_69 rfl (lv_at hl 0 rfl) ?_
          refine va_get (D := (dC, dI)) (ci := 16) (fs := mF ad v) (v := .int (v.1 0 47)) (C := RX13) (T := TX13) (N := 124) hx hb ht itX13 hown hK hP 0 rfl rfl 47 (by decide) (ht _ tw_24) (fun _ h9 => h9) rfl dX13_operand_70 ?_
          refine va_put (D := (dC, dI)) (ci := 16) (fs := mF ad v) (v := .int (v.1 0 47)) (ty := .int) (C := RX13) (T := TX13) (N := 124) hx hb ht itX13 tyX13 tyX13_ok nmX13 hown hK hP hD hS 0 rfl rfl 49 (by decide) (ht _ tw_30) (fun _ h9 => h9) rfl (by decide +kernel) rfl rfl (Nat.le_of_ble_eq_true rfl) dX13_operand_73 (fun H locs hP hD hS => ?_)
          have hP := cP_ (mw_49 ad N cI cZ cJ v (v.1 0 47)) hP
          have hD := cD_ (mw_49 ad N cI cZ cJ v (v.1 0 47)) hD
          refine lv_aload_n hx hb dX13_operand_76 rfl (lv_at hl 0 rfl) ?_
          refine va_get (D := (dC, dI)) (ci := 16) (fs := mF ad (wA v 0 49 (v.1 0 47))) (v := .ref (ad 9)) (C := RX13) (T := TX13) (N := 124) hx hb ht itX13 hown hK hP 0 rfl rfl 9 (by decide) (ht _ tw_27) (fun _ h9 => h9) rfl dX13_operand_77 ?_
          refine lv_aload_n hx hb dX13_operand_80 rfl (lv_at hl 0 rfl) ?_
          refine va_get (D := (dC, dI)) (ci := 16) (fs := mF ad (wA v 0 49 (v.1 0 47))) (v := .int (v.1 0 47)) (C := RX13) (T := TX13) (N := 124) hx hb ht itX13 hown hK hP 0 rfl rfl 47 (by decide) (ht _ tw_24) (fun _ h9 => h9) rfl dX13_operand_81 ?_
          refine va_lald (D := (dC, dI)) (f := v.2) hx hb hK hP 6 3 rfl rfl (in_z (a := (v.1 0 47).toInt) rfl (by omega) (by omega)) dX13_operand_84 ?_
          refine lv_l2i hx hb dX13_operand_85 rfl ?_
          refine lv_istore_n (lv' := [(1, .int ((v.2 (v.1 0 47).toNatClampNeg).toInt32)), (0, .ref (ad 0))]) hx hb dX13_operand_86 rfl hl (by decide) rfl (fun ls hl => ?_)
          refine lv_aload_n hx hb dX13_operand_87 rfl (lv_at hl 1 rfl) ?_
          refine cux_v (rx_V (n := 0) (As := []) (rest := []) hx hb hml hown ht hKK hFx hP hD hS hA (c_m_take l dC dI cI cB cZ cJ cR tb H.size ad N (wA v 0 49 (v.1 0 47))  (show 0 ≤ (v.1 0 47).toInt ∧ (v.1 0 47).toInt ≤ 1500 by omega)) tw_32 tw_33 (by decide +kernel) rfl rfl ⟨by show 1 + 1 ≤ 40 * n + 9; omega, by show 8 + (1 + 11) + 22 ≤ 28 * (40 * n + 9); omega⟩ (List.range (mW ad N cI cZ cJ (wA v 0 49 (v.1 0 47))).length) (rg_map _) (mW_nd _ _ _ _ _ _) rfl rfl rfl rfl hl.1 rfl (Nat.le_of_ble_eq_true rfl) dX13_operand_88 ⟨Nat.le_of_ble_eq_true rfl, Nat.le_of_ble_eq_true rfl⟩) hP hD hS hA (fun u9 ce9 q9 H locs hx9 hP hD hS hc9 hv9 hf9 => ?_) (fun u27 H locs hw26 hP hD hS => ?_)
          · exact vx_out (fun x h9 => (hnt x h9).elim) hlocks hc9 hv9 hf9 (fun t9 ht9 hv8 => ⟨u9, (FG.tr (FG.f (FG.rf _) (v.1 0 47) (by decide)) hx9), ⟨rfl, by rw [ht9]; exact hP, hD⟩, hS.F ht9⟩) hS.2.2 (by omega) (by omega)
          obtain ⟨rfl, a26, b26⟩ := hw26
          have z29 : ((v.1 0 47) + (1 : Int32)).toInt = (v.1 0 47).toInt + 1 := add_z rfl (show (1 : Int32).toInt = 1 by decide) (by omega) (by omega)
          have hP : va_P (dC, dI) vwCl (mW ad N cI cZ cJ (wA (wA v 0 49 (v.1 0 47)) 0 47 ((v.1 0 47) + (1 : Int32)))) H := hP
          have hD : va_D A (mW ad N cI cZ cJ (wA (wA v 0 49 (v.1 0 47)) 0 47 ((v.1 0 47) + (1 : Int32)))) := hD
          have a26 : (v.1 0 47).toInt < 1500 := a26
          have b26 : (v.1 0 47).toInt ≠ (v.1 0 47).toInt := b26
          refine W.widen (k := 0) (n := 0) (by omega) (by omega) ?_
          refine lv_aload_n hx hb dX13_operand_91 rfl (lv_at hl 1 rfl) ?_
          refine lv_iload_n hx hb dX13_operand_92 rfl (lv_at hl 0 rfl) ?_
          refine cu_v (rn_V (n := 1) (As := [.int ((v.2 (v.1 0 47).toNatClampNeg).toInt32)]) (rest := []) hx hb hml hown ht hKK hFx hP hD hS hA (c_m_loads l dC dI cI cB cZ cJ cR tb H.size ad N (wA (wA v 0 49 (v.1 0 47)) 0 47 ((v.1 0 47) + (1 : Int32))) ((v.2 (v.1 0 47).toNatClampNeg).toInt32) (show 0 ≤ (v.1 0 12).toInt ∧ (v.1 0 12).toInt ≤ 23980 by omega) (show 0 ≤ (v.1 0 15).toInt ∧ (v.1 0 15).toInt ≤ 15980 by omega)) tw_111 tw_112 (by decide +kernel) rfl rfl ⟨by show 2 + 1 ≤ 40 * n + 9; omega, by show 8 + (2 + 11) + 46 ≤ 28 * (40 * n + 9); omega⟩ (List.range (mW ad N cI cZ cJ (wA (wA v 0 49 (v.1 0 47)) 0 47 ((v.1 0 47) + (1 : Int32)))).length) (rg_map _) (mW_nd _ _ _ _ _ _) rfl rfl rfl rfl hl.1 rfl (Nat.le_of_ble_eq_true rfl) dX13_operand_93 ⟨Nat.le_of_ble_eq_true rfl, Nat.le_of_ble_eq_true rfl⟩) hP hD hS hA (fun u31 H locs hw30 hP hD hS => ?_)
          obtain ⟨fr30, pw30, po30, kc30, ko30, kg30⟩ := hw30
          have q30_2 : (u31.1 0 2).toInt = (v.1 0 2).toInt := congrArg Int32.toInt ((fr30.2.1 2 (by decide)).trans (show (wA (wA v 0 49 (v.1 0 47)) 0 47 ((v.1 0 47) + (1 : Int32))).1 0 2 = (v.1 0 2) by rfl))
          have q30_4 : (u31.1 0 4).toInt = (v.1 0 4).toInt := congrArg Int32.toInt ((fr30.2.1 4 (by decide)).trans (show (wA (wA v 0 49 (v.1 0 47)) 0 47 ((v.1 0 47) + (1 : Int32))).1 0 4 = (v.1 0 4) by rfl))
          have q30_5 : (u31.1 0 5).toInt = (v.1 0 5).toInt := congrArg Int32.toInt ((fr30.2.1 5 (by decide)).trans (show (wA (wA v 0 49 (v.1 0 47)) 0 47 ((v.1 0 47) + (1 : Int32))).1 0 5 = (v.1 0 5) by rfl))
          have q30_22 : (u31.1 0 22).toInt = (v.1 0 22).toInt := congrArg Int32.toInt ((fr30.2.1 22 (by decide)).trans (show (wA (wA v 0 49 (v.1 0 47)) 0 47 ((v.1 0 47) + (1 : Int32))).1 0 22 = (v.1 0 22) by rfl))
          have q30_27 : (u31.1 0 27).toInt = (v.1 0 27).toInt := congrArg Int32.toInt ((fr30.2.1 27 (by decide)).trans (show (wA (wA v 0 49 (v.1 0 47)) 0 47 ((v.1 0 47) + (1 : Int32))).1 0 27 = (v.1 0 27) by rfl))
          have q30_28 : (u31.1 0 28).toInt = (v.1 0 28).toInt := congrArg Int32.toInt ((fr30.2.1 28 (by decide)).trans (show (wA (wA v 0 49 (v.1 0 47)) 0 47 ((v.1 0 47) + (1 : Int32))).1 0 28 = (v.1 0 28) by rfl))
          have q30_30 : (u31.1 0 30).toInt = (v.1 0 30).toInt := congrArg Int32.toInt ((fr30.2.1 30 (by decide)).trans (show (wA (wA v 0 49 (v.1 0 47)) 0 47 ((v.1 0 47) + (1 : Int32))).1 0 30 = (v.1 0 30) by rfl))
          have q30_31 : (u31.1 0 31).toInt = (v.1 0 31).toInt := congrArg Int32.toInt ((fr30.2.1 31 (by decide)).trans (show (wA (wA v 0 49 (v.1 0 47)) 0 47 ((v.1 0 47) + (1 : Int32))).1 0 31 = (v.1 0 31) by rfl))
          have q30_32 : (u31.1 0 32).toInt = (v.1 0 32).toInt := congrArg Int32.toInt ((fr30.2.1 32 (by decide)).trans (show (wA (wA v 0 49 (v.1 0 47)) 0 47 ((v.1 0 47) + (1 : Int32))).1 0 32 = (v.1 0 32) by rfl))
          have q30_33 : (u31.1 0 33).toInt = (v.1 0 33).toInt := congrArg Int32.toInt ((fr30.2.1 33 (by decide)).trans (show (wA (wA v 0 49 (v.1 0 47)) 0 47 ((v.1 0 47) + (1 : Int32))).1 0 33 = (v.1 0 33) by rfl))
          have q30_34 : (u31.1 0 34).toInt = (v.1 0 34).toInt := congrArg Int32.toInt ((fr30.2.1 34 (by decide)).trans (show (wA (wA v 0 49 (v.1 0 47)) 0 47 ((v.1 0 47) + (1 : Int32))).1 0 34 = (v.1 0 34) by rfl))
          have q30_39 : (u31.1 0 39).toInt = (v.1 0 39).toInt := congrArg Int32.toInt ((fr30.2.1 39 (by decide)).trans (show (wA (wA v 0 49 (v.1 0 47)) 0 47 ((v.1 0 47) + (1 : Int32))).1 0 39 = (v.1 0 39) by rfl))
          have q30_43 : (u31.1 0 43).toInt = (v.1 0 43).toInt := congrArg Int32.toInt ((fr30.2.1 43 (by decide)).trans (show (wA (wA v 0 49 (v.1 0 47)) 0 47 ((v.1 0 47) + (1 : Int32))).1 0 43 = (v.1 0 43) by rfl))
          have q30_47 : (u31.1 0 47).toInt = ((v.1 0 47) + (1 : Int32)).toInt := congrArg Int32.toInt ((fr30.2.1 47 (by decide)).trans (show (wA (wA v 0 49 (v.1 0 47)) 0 47 ((v.1 0 47) + (1 : Int32))).1 0 47 = ((v.1 0 47) + (1 : Int32)) by rfl))
          have q30_48 : (u31.1 0 48).toInt = (v.1 0 48).toInt := congrArg Int32.toInt ((fr30.2.1 48 (by decide)).trans (show (wA (wA v 0 49 (v.1 0 47)) 0 47 ((v.1 0 47) + (1 : Int32))).1 0 48 = (v.1 0 48) by rfl))
          have q30_49 : (u31.1 0 49).toInt = (v.1 0 47).toInt := congrArg Int32.toInt ((fr30.2.1 49 (by decide)).trans (show (wA (wA v 0 49 (v.1 0 47)) 0 47 ((v.1 0 47) + (1 : Int32))).1 0 49 = (v.1 0 47) by rfl))
          have q30_52 : (u31.1 0 52).toInt = (v.1 0 52).toInt := congrArg Int32.toInt ((fr30.2.1 52 (by decide)).trans (show (wA (wA v 0 49 (v.1 0 47)) 0 47 ((v.1 0 47) + (1 : Int32))).1 0 52 = (v.1 0 52) by rfl))
          have pw30 : (v.1 0 12).toInt ≤ (u31.1 0 12).toInt ∧ (u31.1 0 12).toInt ≤ (v.1 0 12).toInt + 2 := pw30
          have po30 : (u31.1 0 15).toInt = (v.1 0 15).toInt + 1 := po30
          have kc30 : ∀ j : Nat, (j : Int) < (v.1 0 12).toInt → (u31.1 11) j = (v.1 11) j := kc30
          have ko30 : ∀ j : Nat, (j : Int) < (v.1 0 15).toInt → (u31.1 13) j = (v.1 13) j := ko30
          have kg30 : ∀ j : Nat, (j : Int) < (v.1 0 15).toInt → (u31.1 14) j = (v.1 14) j := kg30
          refine W.widen (k := 0) (n := 0) (by omega) (by omega) ?_
          refine lv_goto (tgt := 386) hx hb dX13_operand_96 (by decide) ?_
          refine vx_ret ?_
          exact W.vret hx hb hr (fun t ht9 hW => ⟨⟨u31, rfl, ⟨(FG.tr (FG.f (FG.f (FG.rf _) (v.1 0 47) (by decide)) ((v.1 0 47) + (1 : Int32)) (by decide)) (FG.up fr30 (by decide) (by decide))), (show (v.1 0 47).toInt + 1 ≤ (u31.1 0 47).toInt ∧ (u31.1 0 47).toInt ≤ 1500 by omega), (show (v.1 0 49).toInt ≠ (v.1 0 47).toInt by omega), (show (v.1 0 12).toInt ≤ (u31.1 0 12).toInt ∧ (u31.1 0 12).toInt - 15 * (u31.1 0 47).toInt ≤ (v.1 0 12).toInt - 15 * (v.1 0 47).toInt by omega), (show (v.1 0 15).toInt ≤ (u31.1 0 15).toInt ∧ (u31.1 0 15).toInt - 10 * (u31.1 0 47).toInt ≤ (v.1 0 15).toInt - 10 * (v.1 0 47).toInt by omega), (show (v.1 0 43).toInt ≤ (u31.1 0 43).toInt ∧ (u31.1 0 43).toInt - 15 * (u31.1 0 47).toInt ≤ (v.1 0 43).toInt - 15 * (v.1 0 47).toInt by omega), (show (v.1 0 39).toInt ≤ (u31.1 0 39).toInt ∧ (u31.1 0 39).toInt - 1 * (u31.1 0 47).toInt ≤ (v.1 0 39).toInt - 1 * (v.1 0 47).toInt by omega), (show (u31.1 0 32).toInt = (v.1 0 32).toInt ∧ (u31.1 0 48).toInt = (v.1 0 48).toInt by omega), (show (v.1 0 33).toInt ≤ (u31.1 0 33).toInt ∧ (u31.1 0 33).toInt ≤ 500 by omega), (fun (j9 : Nat) hj9 => (kc30 j9 (by omega))), (fun (j9 : Nat) hj9 => (ko30 j9 (by omega))), (fun (j9 : Nat) hj9 => (kg30 j9 (by omega))), (show NI 35 u31 from NI.fr (fl := [12, 15]) (al := [0, 11, 13, 14]) fr30 (by decide) n35)⟩, by rw [ht9]; exact hP, hD⟩, hS.F ht9⟩) hS.2.2 dX13_operand_386
  · have z33 : ((v.1 6) (v.1 0 47).toNatClampNeg).toInt ≠ 4 := ne_z rfl (show (4 : Int32).toInt = 4 by decide) h1
    refine lv_aload_n hx hb dX13_operand_13 rfl (lv_at hl 0 rfl) ?_
    refine va_get (D := (dC, dI)) (ci := 16) (fs := mF ad v) (v := .ref (ad 6)) (C := RX13) (T := TX13) (N := 124) hx hb ht itX13 hown hK hP 0 rfl rfl 6 (by decide) (ht _ tw_23) (fun _ h9 => h9) rfl dX13_operand_14 ?_
    refine lv_aload_n hx hb dX13_operand_17 rfl (lv_at hl 0 rfl) ?_
    refine va_get (D := (dC, dI)) (ci := 16) (fs := mF ad v) (v := .int (v.1 0 47)) (C := RX13) (T := TX13) (N := 124) hx hb ht itX13 hown hK hP 0 rfl rfl 47 (by decide) (ht _ tw_24) (fun _ h9 => h9) rfl dX13_operand_18 ?_
    refine va_iald (D := (dC, dI)) (f := (v.1 6)) hx hb hK hP 3 0 rfl rfl (in_z (a := (v.1 0 47).toInt) rfl (by omega) (by omega)) dX13_operand_21 ?_
    refine lv_bipush (v := 6) hx hb dX13_operand_22 (by decide) ?_
    refine lv_icmp_ne (tgt := 99) hx hb dX13_operand_24 (by decide) (fun h34 => ?_) (fun h34 => ?_)
    · have z35 : ((v.1 6) (v.1 0 47).toNatClampNeg).toInt ≠ 6 := ne_z rfl (show (6 : Int32).toInt = 6 by decide) h34
      refine lv_aload_n hx hb dX13_operand_99 rfl (lv_at hl 0 rfl) ?_
      refine lv_bipush (v := 45) hx hb dX13_operand_100 (by decide) ?_
      refine cu_i (rn_V (n := 1) (As := [.int 45]) (rest := []) hx hb hml hown ht hKK hFx hP hD hS hA (c_m_is l dC dI cI cB cZ cJ cR tb s.heap.size ad N v (45 : Int32) (show 0 ≤ (v.1 0 47).toInt ∧ (v.1 0 47).toInt ≤ 1500 by omega)) tw_34 tw_35 (by decide +kernel) rfl rfl ⟨by show 1 + 1 ≤ 40 * n + 9; omega, by show 8 + (2 + 11) + 22 ≤ 28 * (40 * n + 9); omega⟩ (List.range (mW ad N cI cZ cJ v).length) (rg_map _) (mW_nd _ _ _ _ _ _) rfl rfl rfl rfl hl.1 rfl (Nat.le_of_ble_eq_true rfl) dX13_operand_102 ⟨Nat.le_of_ble_eq_true rfl, Nat.le_of_ble_eq_true rfl⟩) hP hD hS hA (fun r38 u37 H locs hw36 hP hD hS => ?_)
      obtain ⟨rfl, b36⟩ := hw36
      refine W.widen (k := 0) (n := 0) (by omega) (by omega) ?_
      refine lv_if_ne (tgt := 126) hx hb dX13_operand_105 (by decide) (fun h39 => ?_) (fun h39 => ?_)
      · have z40 : r38.toInt ≠ 0 := ne_z rfl (show (0 : Int32).toInt = 0 by decide) h39
        refine lv_aload_n hx hb dX13_operand_126 rfl (lv_at hl 0 rfl) ?_
        refine va_get (D := (dC, dI)) (ci := 16) (fs := mF ad v) (v := .ref (ad 9)) (C := RX13) (T := TX13) (N := 124) hx hb ht itX13 hown hK hP 0 rfl rfl 9 (by decide) (ht _ tw_27) (fun _ h9 => h9) rfl dX13_operand_127 ?_
        refine lv_aload_n hx hb dX13_operand_130 rfl (lv_at hl 0 rfl) ?_
        refine va_get (D := (dC, dI)) (ci := 16) (fs := mF ad v) (v := .int (v.1 0 47)) (C := RX13) (T := TX13) (N := 124) hx hb ht itX13 hown hK hP 0 rfl rfl 47 (by decide) (ht _ tw_24) (fun _ h9 => h9) rfl dX13_operand_131 ?_
        refine va_lald (D := (dC, dI)) (f := v.2) hx hb hK hP 6 3 rfl rfl (in_z (a := (v.1 0 47).toInt) rfl (by omega) (by omega)) dX13_operand_134 ?_
        refine lv_l2i hx hb dX13_operand_135 rfl ?_
        refine lv_istore_n (lv' := [(1, .int ((v.2 (v.1 0 47).toNatClampNeg).toInt32)), (0, .ref (ad 0))]) hx hb dX13_operand_136 rfl hl (by decide) rfl (fun ls hl => ?_)
        refine lv_aload_n hx hb dX13_operand_137 rfl (lv_at hl 1 rfl) ?_
        refine cux_v (rx_V (n := 0) (As := []) (rest := []) hx hb hml hown ht hKK hFx hP hD hS hA (c_m_opens l dC dI cI cB cZ cJ cR tb H.size ad N v  (show 0 ≤ (v.1 0 47).toInt ∧ (v.1 0 47).toInt ≤ 1500 by omega) (show 0 ≤ (v.1 0 48).toInt ∧ (v.1 0 48).toInt ≤ 40 by omega)) tw_38 tw_39 (by decide +kernel) rfl rfl ⟨by show 2 + 1 ≤ 40 * n + 9; omega, by show 8 + (1 + 11) + 42 ≤ 28 * (40 * n + 9); omega⟩ (List.range (mW ad N cI cZ cJ v).length) (rg_map _) (mW_nd _ _ _ _ _ _) rfl rfl rfl rfl hl.1 rfl (Nat.le_of_ble_eq_true rfl) dX13_operand_138 ⟨Nat.le_of_ble_eq_true rfl, Nat.le_of_ble_eq_true rfl⟩) hP hD hS hA (fun u9 ce9 q9 H locs hx9 hP hD hS hc9 hv9 hf9 => ?_) (fun u42 H locs hw41 hP hD hS => ?_)
        · exact vx_out (fun x h9 => (hnt x h9).elim) hlocks hc9 hv9 hf9 (fun t9 ht9 hv8 => ⟨u9, (FG.tr (FG.rf _) hx9), ⟨rfl, by rw [ht9]; exact hP, hD⟩, hS.F ht9⟩) hS.2.2 (by omega) (by omega)
        obtain ⟨rfl, a41, b41, c41⟩ := hw41
        have z44 : ((v.1 0 47) + (1 : Int32)).toInt = (v.1 0 47).toInt + 1 := add_z rfl (show (1 : Int32).toInt = 1 by decide) (by omega) (by omega)
        have z45 : ((v.1 0 48) + (1 : Int32)).toInt = (v.1 0 48).toInt + 1 := add_z rfl (show (1 : Int32).toInt = 1 by decide) (by omega) (by omega)
        have hP : va_P (dC, dI) vwCl (mW ad N cI cZ cJ (wA (wA v 0 47 ((v.1 0 47) + (1 : Int32))) 0 48 ((v.1 0 48) + (1 : Int32)))) H := hP
        have hD : va_D A (mW ad N cI cZ cJ (wA (wA v 0 47 ((v.1 0 47) + (1 : Int32))) 0 48 ((v.1 0 48) + (1 : Int32)))) := hD
        refine W.widen (k := 0) (n := 0) (by omega) (by omega) ?_
        refine lv_aload_n hx hb dX13_operand_141 rfl (lv_at hl 1 rfl) ?_
        obtain ⟨n46, hn47⟩ : ∃ m, n = m + 1 := ⟨n - 1, by omega⟩
        refine cux_v (rx_V (n := 0) (As := []) (rest := []) hx hb hml hown ht hKK hFx hP hD hS hA (ihO n46 hn47 dC dI cI cB cZ cJ cR tb H.size ad N (wA (wA v 0 47 ((v.1 0 47) + (1 : Int32))) 0 48 ((v.1 0 48) + (1 : Int32)))  (show 40 ≤ ((v.1 0 48) + (1 : Int32)).toInt + (n46 : Int) by omega) (show 0 ≤ ((v.1 0 47) + (1 : Int32)).toInt ∧ ((v.1 0 47) + (1 : Int32)).toInt ≤ 1500 by omega) (show 0 ≤ ((v.1 0 48) + (1 : Int32)).toInt ∧ ((v.1 0 48) + (1 : Int32)).toInt ≤ 40 by omega) (show 0 ≤ (v.1 0 30).toInt ∧ (v.1 0 30).toInt ≤ 500 by omega) (show 0 ≤ (v.1 0 33).toInt ∧ (v.1 0 33).toInt ≤ 500 by omega) (show 0 ≤ (v.1 0 32).toInt ∧ (v.1 0 30).toInt + (v.1 0 32).toInt ≤ 500 by omega) (show 0 ≤ (v.1 0 12).toInt ∧ (v.1 0 12).toInt ≤ 15 * ((v.1 0 47) + (1 : Int32)).toInt + 2 by omega) (show 0 ≤ (v.1 0 15).toInt ∧ (v.1 0 15).toInt ≤ 10 * ((v.1 0 47) + (1 : Int32)).toInt + 0 by omega) (show 0 ≤ (v.1 0 43).toInt ∧ (v.1 0 43).toInt ≤ 15 * ((v.1 0 47) + (1 : Int32)).toInt + 0 by omega) (show 0 ≤ (v.1 0 39).toInt ∧ (v.1 0 39).toInt ≤ 1 * ((v.1 0 47) + (1 : Int32)).toInt + 0 by omega) (show 0 ≤ (v.1 0 27).toInt ∧ (v.1 0 27).toInt ≤ 60 by omega) (FG.ti (fl := pfl) (al := pal) (FG.f (FG.f (FG.rf _) ((v.1 0 47) + (1 : Int32)) (by decide)) ((v.1 0 48) + (1 : Int32)) (by decide)) (by decide) (by decide) hT) (n29) (n23) (n35)) tw_114 tw_115 (by decide +kernel) rfl rfl ⟨by show (40 * n46 + 9) + 1 ≤ 40 * n + 9; omega, by show 8 + (2 + 11) + 28 * (40 * n46 + 9) ≤ 28 * (40 * n + 9); omega⟩ (List.range (mW ad N cI cZ cJ (wA (wA v 0 47 ((v.1 0 47) + (1 : Int32))) 0 48 ((v.1 0 48) + (1 : Int32)))).length) (rg_map _) (mW_nd _ _ _ _ _ _) rfl rfl rfl rfl hl.1 rfl (Nat.le_of_ble_eq_true rfl) dX13_operand_142 ⟨Nat.le_of_ble_eq_true rfl, Nat.le_of_ble_eq_true rfl⟩) hP hD hS hA (fun u9 ce9 q9 H locs hx9 hP hD hS hc9 hv9 hf9 => ?_) (fun u49 H locs hw48 hP hD hS => ?_)
        · exact vx_out (fun x h9 => (hnt x h9).elim) hlocks hc9 hv9 hf9 (fun t9 ht9 hv8 => ⟨u9, (FG.tr (FG.f (FG.f (FG.rf _) ((v.1 0 47) + (1 : Int32)) (by decide)) ((v.1 0 48) + (1 : Int32)) (by decide)) hx9), ⟨rfl, by rw [ht9]; exact hP, hD⟩, hS.F ht9⟩) hS.2.2 (by omega) (by omega)
        obtain ⟨fr48, pt48, pb48, pw48, po48, pf48, pk48, pp48, ph48, kc48, ko48, kg48, n3548⟩ := hw48
        have q48_2 : (u49.1 0 2).toInt = (v.1 0 2).toInt := congrArg Int32.toInt ((fr48.2.1 2 (by decide)).trans (show (wA (wA v 0 47 ((v.1 0 47) + (1 : Int32))) 0 48 ((v.1 0 48) + (1 : Int32))).1 0 2 = (v.1 0 2) by rfl))
        have q48_4 : (u49.1 0 4).toInt = (v.1 0 4).toInt := congrArg Int32.toInt ((fr48.2.1 4 (by decide)).trans (show (wA (wA v 0 47 ((v.1 0 47) + (1 : Int32))) 0 48 ((v.1 0 48) + (1 : Int32))).1 0 4 = (v.1 0 4) by rfl))
        have q48_5 : (u49.1 0 5).toInt = (v.1 0 5).toInt := congrArg Int32.toInt ((fr48.2.1 5 (by decide)).trans (show (wA (wA v 0 47 ((v.1 0 47) + (1 : Int32))) 0 48 ((v.1 0 48) + (1 : Int32))).1 0 5 = (v.1 0 5) by rfl))
        have q48_22 : (u49.1 0 22).toInt = (v.1 0 22).toInt := congrArg Int32.toInt ((fr48.2.1 22 (by decide)).trans (show (wA (wA v 0 47 ((v.1 0 47) + (1 : Int32))) 0 48 ((v.1 0 48) + (1 : Int32))).1 0 22 = (v.1 0 22) by rfl))
        have q48_27 : (u49.1 0 27).toInt = (v.1 0 27).toInt := congrArg Int32.toInt ((fr48.2.1 27 (by decide)).trans (show (wA (wA v 0 47 ((v.1 0 47) + (1 : Int32))) 0 48 ((v.1 0 48) + (1 : Int32))).1 0 27 = (v.1 0 27) by rfl))
        have q48_28 : (u49.1 0 28).toInt = (v.1 0 28).toInt := congrArg Int32.toInt ((fr48.2.1 28 (by decide)).trans (show (wA (wA v 0 47 ((v.1 0 47) + (1 : Int32))) 0 48 ((v.1 0 48) + (1 : Int32))).1 0 28 = (v.1 0 28) by rfl))
        have q48_30 : (u49.1 0 30).toInt = (v.1 0 30).toInt := congrArg Int32.toInt ((fr48.2.1 30 (by decide)).trans (show (wA (wA v 0 47 ((v.1 0 47) + (1 : Int32))) 0 48 ((v.1 0 48) + (1 : Int32))).1 0 30 = (v.1 0 30) by rfl))
        have q48_31 : (u49.1 0 31).toInt = (v.1 0 31).toInt := congrArg Int32.toInt ((fr48.2.1 31 (by decide)).trans (show (wA (wA v 0 47 ((v.1 0 47) + (1 : Int32))) 0 48 ((v.1 0 48) + (1 : Int32))).1 0 31 = (v.1 0 31) by rfl))
        have q48_34 : (u49.1 0 34).toInt = (v.1 0 34).toInt := congrArg Int32.toInt ((fr48.2.1 34 (by decide)).trans (show (wA (wA v 0 47 ((v.1 0 47) + (1 : Int32))) 0 48 ((v.1 0 48) + (1 : Int32))).1 0 34 = (v.1 0 34) by rfl))
        have q48_52 : (u49.1 0 52).toInt = (v.1 0 52).toInt := congrArg Int32.toInt ((fr48.2.1 52 (by decide)).trans (show (wA (wA v 0 47 ((v.1 0 47) + (1 : Int32))) 0 48 ((v.1 0 48) + (1 : Int32))).1 0 52 = (v.1 0 52) by rfl))
        have pt48 : ((v.1 0 47) + (1 : Int32)).toInt + 1 ≤ (u49.1 0 47).toInt ∧ (u49.1 0 47).toInt ≤ 1500 := pt48
        have pb48 : (v.1 0 49).toInt ≠ ((v.1 0 47) + (1 : Int32)).toInt := pb48
        have pw48 : (v.1 0 12).toInt ≤ (u49.1 0 12).toInt ∧ (u49.1 0 12).toInt - 15 * (u49.1 0 47).toInt ≤ (v.1 0 12).toInt - 15 * ((v.1 0 47) + (1 : Int32)).toInt := pw48
        have po48 : (v.1 0 15).toInt ≤ (u49.1 0 15).toInt ∧ (u49.1 0 15).toInt - 10 * (u49.1 0 47).toInt ≤ (v.1 0 15).toInt - 10 * ((v.1 0 47) + (1 : Int32)).toInt := po48
        have pf48 : (v.1 0 43).toInt ≤ (u49.1 0 43).toInt ∧ (u49.1 0 43).toInt - 15 * (u49.1 0 47).toInt ≤ (v.1 0 43).toInt - 15 * ((v.1 0 47) + (1 : Int32)).toInt := pf48
        have pk48 : (v.1 0 39).toInt ≤ (u49.1 0 39).toInt ∧ (u49.1 0 39).toInt - 1 * (u49.1 0 47).toInt ≤ (v.1 0 39).toInt - 1 * ((v.1 0 47) + (1 : Int32)).toInt := pk48
        have pp48 : (u49.1 0 32).toInt = (v.1 0 32).toInt ∧ (u49.1 0 48).toInt = ((v.1 0 48) + (1 : Int32)).toInt := pp48
        have ph48 : (v.1 0 33).toInt ≤ (u49.1 0 33).toInt ∧ (u49.1 0 33).toInt ≤ 500 := ph48
        have kc48 : ∀ j : Nat, (j : Int) < (v.1 0 12).toInt → (u49.1 11) j = (v.1 11) j := kc48
        have ko48 : ∀ j : Nat, (j : Int) < (v.1 0 15).toInt → (u49.1 13) j = (v.1 13) j := ko48
        have kg48 : ∀ j : Nat, (j : Int) < (v.1 0 15).toInt → (u49.1 14) j = (v.1 14) j := kg48
        have n3548 : NI 35 u49 := n3548
        refine W.widen (k := 0) (n := 0) (by omega) (by omega) ?_
        refine lv_aload_n hx hb dX13_operand_145 rfl (lv_at hl 1 rfl) ?_
        refine lv_dup hx hb dX13_operand_146 rfl ?_
        refine va_get (D := (dC, dI)) (ci := 16) (fs := mF ad u49) (v := .int (u49.1 0 48)) (C := RX13) (T := TX13) (N := 124) hx hb ht itX13 hown hK hP 0 rfl rfl 48 (by decide) (ht _ tw_31) (fun _ h9 => h9) rfl dX13_operand_147 ?_
        refine lv_iconst (v := 1) hx hb dX13_operand_150 (by decide) ?_
        refine lv_isub hx hb dX13_operand_151 ?_
        have z51 : ((u49.1 0 48) - (1 : Int32)).toInt = (u49.1 0 48).toInt - 1 := sub_z rfl (show (1 : Int32).toInt = 1 by decide) (by omega) (by omega)
        refine va_put (D := (dC, dI)) (ci := 16) (fs := mF ad u49) (v := .int ((u49.1 0 48) - (1 : Int32))) (ty := .int) (C := RX13) (T := TX13) (N := 124) hx hb ht itX13 tyX13 tyX13_ok nmX13 hown hK hP hD hS 0 rfl rfl 48 (by decide) (ht _ tw_31) (fun _ h9 => h9) rfl (by decide +kernel) rfl rfl (Nat.le_of_ble_eq_true rfl) dX13_operand_152 (fun H locs hP hD hS => ?_)
        have hP := cP_ (mw_48 ad N cI cZ cJ u49 ((u49.1 0 48) - (1 : Int32))) hP
        have hD := cD_ (mw_48 ad N cI cZ cJ u49 ((u49.1 0 48) - (1 : Int32))) hD
        refine lv_aload_n hx hb dX13_operand_155 rfl (lv_at hl 1 rfl) ?_
        refine lv_iload_n hx hb dX13_operand_156 rfl (lv_at hl 0 rfl) ?_
        refine lv_bipush (v := 45) hx hb dX13_operand_157 (by decide) ?_
        refine lv_icmp_ne (tgt := 176) hx hb dX13_operand_159 (by decide) (fun h52 => ?_) (fun h52 => ?_)
        · have z53 : ((v.2 (v.1 0 47).toNatClampNeg).toInt32).toInt ≠ 45 := ne_z rfl (show (45 : Int32).toInt = 45 by decide) h52
          refine lv_iload_n hx hb dX13_operand_176 rfl (lv_at hl 0 rfl) ?_
          refine lv_bipush (v := 33) hx hb dX13_operand_177 (by decide) ?_
          refine lv_icmp_ne (tgt := 196) hx hb dX13_operand_179 (by decide) (fun h54 => ?_) (fun h54 => ?_)
          · have z55 : ((v.2 (v.1 0 47).toNatClampNeg).toInt32).toInt ≠ 33 := ne_z rfl (show (33 : Int32).toInt = 33 by decide) h54
            refine lv_bipush (v := 19) hx hb dX13_operand_196 (by decide) ?_
            refine lv_iconst (v := 4) hx hb dX13_operand_198 (by decide) ?_
            refine lv_bipush (v := 10) hx hb dX13_operand_199 (by decide) ?_
            refine lv_bipush (v := 10) hx hb dX13_operand_201 (by decide) ?_
            refine lv_iconst (v := -1) hx hb dX13_operand_203 (by decide) ?_
            refine cu_s (mW_nd _ _ _ _ _ _) (rn_S (n := 5) (As := [.int 19, .int 4, .int 10, .int 10, .int (-1)]) (rest := [.ref (ad 0)]) hx hb hml hown ht hKK hFx hP hD hS hA (c_m_byI l dC dI cI cB cZ cJ cR tb H.size (19 : Int32) (4 : Int32) (10 : Int32) (10 : Int32) (-1 : Int32) ) tw_2 tw_3 (by decide +kernel) rfl rfl ⟨by show 0 + 1 ≤ 40 * n + 9; omega, by show 8 + (5 + 11) + 0 ≤ 28 * (40 * n + 9); omega⟩ [] rfl rfl rfl hl.1 rfl (Nat.le_of_ble_eq_true rfl) dX13_operand_204 ⟨Nat.le_of_ble_eq_true rfl, Nat.le_of_ble_eq_true rfl⟩) hP hD hS hA (fun r58 H locs hw56 hP hD hS => ?_)
            refine W.widen (k := 0) (n := 0) (by omega) (by omega) ?_
            refine cu_i (rn_V (n := 1) (As := [.int r58]) (rest := []) hx hb hml hown ht hKK hFx hP hD hS hA (c_m_emit l dC dI cI cB cZ cJ cR tb H.size ad N (wA u49 0 48 ((u49.1 0 48) - (1 : Int32))) r58 (show 0 ≤ (u49.1 0 12).toInt ∧ (u49.1 0 12).toInt < 24000 by omega)) tw_8 tw_9 (by decide +kernel) rfl rfl ⟨by show 0 + 1 ≤ 40 * n + 9; omega, by show 8 + (2 + 11) + 0 ≤ 28 * (40 * n + 9); omega⟩ (List.range (mW ad N cI cZ cJ (wA u49 0 48 ((u49.1 0 48) - (1 : Int32)))).length) (rg_map _) (mW_nd _ _ _ _ _ _) rfl rfl rfl rfl hl.1 rfl (Nat.le_of_ble_eq_true rfl) dX13_operand_207 ⟨Nat.le_of_ble_eq_true rfl, Nat.le_of_ble_eq_true rfl⟩) hP hD hS hA (fun r61 u60 H locs hw59 hP hD hS => ?_)
            obtain ⟨rfl, rfl⟩ := hw59
            have z62 : ((u49.1 0 12) + (1 : Int32)).toInt = (u49.1 0 12).toInt + 1 := add_z rfl (show (1 : Int32).toInt = 1 by decide) (by omega) (by omega)
            have hP : va_P (dC, dI) vwCl (mW ad N cI cZ cJ (wA (wA (wA u49 0 48 ((u49.1 0 48) - (1 : Int32))) 11 ((u49.1 0 12).toNatClampNeg) r58) 0 12 ((u49.1 0 12) + (1 : Int32)))) H := hP
            have hD : va_D A (mW ad N cI cZ cJ (wA (wA (wA u49 0 48 ((u49.1 0 48) - (1 : Int32))) 11 ((u49.1 0 12).toNatClampNeg) r58) 0 12 ((u49.1 0 12) + (1 : Int32)))) := hD
            refine tp_i (y := (u49.1 0 12)) (rfl) ?_
            refine W.widen (k := 0) (n := 0) (by omega) (by omega) ?_
            refine lv_pop hx hb dX13_operand_210 rfl ?_
            refine lv_aload_n hx hb dX13_operand_211 rfl (lv_at hl 1 rfl) ?_
            refine lv_iload_n hx hb dX13_operand_212 rfl (lv_at hl 0 rfl) ?_
            refine lv_bipush (v := 45) hx hb dX13_operand_213 (by decide) ?_
            refine lv_icmp_ne (tgt := 223) hx hb dX13_operand_215 (by decide) (fun h63 => ?_) (fun h63 => ?_)
            · have z64 : ((v.2 (v.1 0 47).toNatClampNeg).toInt32).toInt ≠ 45 := ne_z rfl (show (45 : Int32).toInt = 45 by decide) h63
              refine lv_iload_n hx hb dX13_operand_223 rfl (lv_at hl 0 rfl) ?_
              refine lv_bipush (v := 33) hx hb dX13_operand_224 (by decide) ?_
              refine lv_icmp_ne (tgt := 234) hx hb dX13_operand_226 (by decide) (fun h65 => ?_) (fun h65 => ?_)
              · have z66 : ((v.2 (v.1 0 47).toNatClampNeg).toInt32).toInt ≠ 33 := ne_z rfl (show (33 : Int32).toInt = 33 by decide) h65
                refine lv_bipush (v := 20) hx hb dX13_operand_234 (by decide) ?_
                refine lv_iconst (v := 0) hx hb dX13_operand_236 (by decide) ?_
                refine cu_i (rn_V (n := 2) (As := [.int 20, .int 0]) (rest := []) hx hb hml hown ht hKK hFx hP hD hS hA (c_m_say l dC dI cI cB cZ cJ cR tb H.size ad N (wA (wA (wA u49 0 48 ((u49.1 0 48) - (1 : Int32))) 11 ((u49.1 0 12).toNatClampNeg) r58) 0 12 ((u49.1 0 12) + (1 : Int32))) (20 : Int32) (0 : Int32) (show 0 ≤ (u49.1 0 15).toInt ∧ (u49.1 0 15).toInt < 16000 by omega)) tw_59 tw_60 (by decide +kernel) rfl rfl ⟨by show 0 + 1 ≤ 40 * n + 9; omega, by show 8 + (3 + 11) + 0 ≤ 28 * (40 * n + 9); omega⟩ (List.range (mW ad N cI cZ cJ (wA (wA (wA u49 0 48 ((u49.1 0 48) - (1 : Int32))) 11 ((u49.1 0 12).toNatClampNeg) r58) 0 12 ((u49.1 0 12) + (1 : Int32)))).length) (rg_map _) (mW_nd _ _ _ _ _ _) rfl rfl rfl rfl hl.1 rfl (Nat.le_of_ble_eq_true rfl) dX13_operand_237 ⟨Nat.le_of_ble_eq_true rfl, Nat.le_of_ble_eq_true rfl⟩) hP hD hS hA (fun r69 u68 H locs hw67 hP hD hS => ?_)
                obtain ⟨rfl, rfl⟩ := hw67
                have z70 : ((u49.1 0 15) + (1 : Int32)).toInt = (u49.1 0 15).toInt + 1 := add_z rfl (show (1 : Int32).toInt = 1 by decide) (by omega) (by omega)
                have hP : va_P (dC, dI) vwCl (mW ad N cI cZ cJ (wA (wA (wA (wA (wA (wA u49 0 48 ((u49.1 0 48) - (1 : Int32))) 11 ((u49.1 0 12).toNatClampNeg) r58) 0 12 ((u49.1 0 12) + (1 : Int32))) 13 ((u49.1 0 15).toNatClampNeg) (20 : Int32)) 14 ((u49.1 0 15).toNatClampNeg) (0 : Int32)) 0 15 ((u49.1 0 15) + (1 : Int32)))) H := hP
                have hD : va_D A (mW ad N cI cZ cJ (wA (wA (wA (wA (wA (wA u49 0 48 ((u49.1 0 48) - (1 : Int32))) 11 ((u49.1 0 12).toNatClampNeg) r58) 0 12 ((u49.1 0 12) + (1 : Int32))) 13 ((u49.1 0 15).toNatClampNeg) (20 : Int32)) 14 ((u49.1 0 15).toNatClampNeg) (0 : Int32)) 0 15 ((u49.1 0 15) + (1 : Int32)))) := hD
                refine tp_i (y := (u49.1 0 15)) (rfl) ?_
                refine W.widen (k := 0) (n := 0) (by omega) (by omega) ?_
                refine lv_pop hx hb dX13_operand_240 rfl ?_
                refine lv_goto (tgt := 386) hx hb dX13_operand_241 (by decide) ?_
                refine vx_ret ?_
                exact W.vret hx hb hr (fun t ht9 hW => ⟨⟨(wA (wA (wA (wA (wA (wA u49 0 48 ((u49.1 0 48) - (1 : Int32))) 11 ((u49.1 0 12).toNatClampNeg) r58) 0 12 ((u49.1 0 12) + (1 : Int32))) 13 ((u49.1 0 15).toNatClampNeg) (20 : Int32)) 14 ((u49.1 0 15).toNatClampNeg) (0 : Int32)) 0 15 ((u49.1 0 15) + (1 : Int32))), rfl, ⟨(FG.f (FG.a (FG.a (FG.f (FG.a (FG.f (FG.tr (FG.f (FG.f (FG.rf _) ((v.1 0 47) + (1 : Int32)) (by decide)) ((v.1 0 48) + (1 : Int32)) (by decide)) (FG.up fr48 (by decide) (by decide))) ((u49.1 0 48) - (1 : Int32)) (by decide)) ((u49.1 0 12).toNatClampNeg) r58 (by decide) (by decide)) ((u49.1 0 12) + (1 : Int32)) (by decide)) ((u49.1 0 15).toNatClampNeg) (20 : Int32) (by decide) (by decide)) ((u49.1 0 15).toNatClampNeg) (0 : Int32) (by decide) (by decide)) ((u49.1 0 15) + (1 : Int32)) (by decide)), (show (v.1 0 47).toInt + 1 ≤ (u49.1 0 47).toInt ∧ (u49.1 0 47).toInt ≤ 1500 by omega), (show (v.1 0 49).toInt ≠ (v.1 0 47).toInt by omega), (show (v.1 0 12).toInt ≤ ((u49.1 0 12) + (1 : Int32)).toInt ∧ ((u49.1 0 12) + (1 : Int32)).toInt - 15 * (u49.1 0 47).toInt ≤ (v.1 0 12).toInt - 15 * (v.1 0 47).toInt by omega), (show (v.1 0 15).toInt ≤ ((u49.1 0 15) + (1 : Int32)).toInt ∧ ((u49.1 0 15) + (1 : Int32)).toInt - 10 * (u49.1 0 47).toInt ≤ (v.1 0 15).toInt - 10 * (v.1 0 47).toInt by omega), (show (v.1 0 43).toInt ≤ (u49.1 0 43).toInt ∧ (u49.1 0 43).toInt - 15 * (u49.1 0 47).toInt ≤ (v.1 0 43).toInt - 15 * (v.1 0 47).toInt by omega), (show (v.1 0 39).toInt ≤ (u49.1 0 39).toInt ∧ (u49.1 0 39).toInt - 1 * (u49.1 0 47).toInt ≤ (v.1 0 39).toInt - 1 * (v.1 0 47).toInt by omega), (show (u49.1 0 32).toInt = (v.1 0 32).toInt ∧ ((u49.1 0 48) - (1 : Int32)).toInt = (v.1 0 48).toInt by omega), (show (v.1 0 33).toInt ≤ (u49.1 0 33).toInt ∧ (u49.1 0 33).toInt ≤ 500 by omega), (fun (j9 : Nat) hj9 => (Eq.trans (pk_un (by have := cl_z (a := (u49.1 0 12).toInt) rfl (by omega); omega)) (kc48 j9 (by omega)))), (fun (j9 : Nat) hj9 => (Eq.trans (pk_un (by have := cl_z (a := (u49.1 0 15).toInt) rfl (by omega); omega)) (ko48 j9 (by omega)))), (fun (j9 : Nat) hj9 => (Eq.trans (pk_un (by have := cl_z (a := (u49.1 0 15).toInt) rfl (by omega); omega)) (kg48 j9 (by omega)))), n3548⟩, by rw [ht9]; exact hP, hD⟩, hS.F ht9⟩) hS.2.2 dX13_operand_386
              · have z71 : ((v.2 (v.1 0 47).toNatClampNeg).toInt32).toInt = 33 := eq_z rfl (show (33 : Int32).toInt = 33 by decide) h65
                exfalso; omega
            · have z72 : ((v.2 (v.1 0 47).toNatClampNeg).toInt32).toInt = 45 := eq_z rfl (show (45 : Int32).toInt = 45 by decide) h63
              exfalso; omega
          · have z73 : ((v.2 (v.1 0 47).toNatClampNeg).toInt32).toInt = 33 := eq_z rfl (show (33 : Int32).toInt = 33 by decide) h54
            refine lv_bipush (v := 19) hx hb dX13_operand_182 (by decide) ?_
            refine lv_iconst (v := 3) hx hb dX13_operand_184 (by decide) ?_
            refine lv_bipush (v := 10) hx hb dX13_operand_185 (by decide) ?_
            refine lv_bipush (v := 10) hx hb dX13_operand_187 (by decide) ?_
            refine lv_iconst (v := 1) hx hb dX13_operand_189 (by decide) ?_
            refine cu_s (mW_nd _ _ _ _ _ _) (rn_S (n := 5) (As := [.int 19, .int 3, .int 10, .int 10, .int 1]) (rest := [.ref (ad 0)]) hx hb hml hown ht hKK hFx hP hD hS hA (c_m_byI l dC dI cI cB cZ cJ cR tb H.size (19 : Int32) (3 : Int32) (10 : Int32) (10 : Int32) (1 : Int32) ) tw_2 tw_3 (by decide +kernel) rfl rfl ⟨by show 0 + 1 ≤ 40 * n + 9; omega, by show 8 + (5 + 11) + 0 ≤ 28 * (40 * n + 9); omega⟩ [] rfl rfl rfl hl.1 rfl (Nat.le_of_ble_eq_true rfl) dX13_operand_190 ⟨Nat.le_of_ble_eq_true rfl, Nat.le_of_ble_eq_true rfl⟩) hP hD hS hA (fun r76 H locs hw74 hP hD hS => ?_)
            refine W.widen (k := 0) (n := 0) (by omega) (by omega) ?_
            refine lv_goto (tgt := 207) hx hb dX13_operand_193 (by decide) ?_
            refine cu_i (rn_V (n := 1) (As := [.int r76]) (rest := []) hx hb hml hown ht hKK hFx hP hD hS hA (c_m_emit l dC dI cI cB cZ cJ cR tb H.size ad N (wA u49 0 48 ((u49.1 0 48) - (1 : Int32))) r76 (show 0 ≤ (u49.1 0 12).toInt ∧ (u49.1 0 12).toInt < 24000 by omega)) tw_8 tw_9 (by decide +kernel) rfl rfl ⟨by show 0 + 1 ≤ 40 * n + 9; omega, by show 8 + (2 + 11) + 0 ≤ 28 * (40 * n + 9); omega⟩ (List.range (mW ad N cI cZ cJ (wA u49 0 48 ((u49.1 0 48) - (1 : Int32)))).length) (rg_map _) (mW_nd _ _ _ _ _ _) rfl rfl rfl rfl hl.1 rfl (Nat.le_of_ble_eq_true rfl) dX13_operand_207 ⟨Nat.le_of_ble_eq_true rfl, Nat.le_of_ble_eq_true rfl⟩) hP hD hS hA (fun r79 u78 H locs hw77 hP hD hS => ?_)
            obtain ⟨rfl, rfl⟩ := hw77
            have z80 : ((u49.1 0 12) + (1 : Int32)).toInt = (u49.1 0 12).toInt + 1 := add_z rfl (show (1 : Int32).toInt = 1 by decide) (by omega) (by omega)
            have hP : va_P (dC, dI) vwCl (mW ad N cI cZ cJ (wA (wA (wA u49 0 48 ((u49.1 0 48) - (1 : Int32))) 11 ((u49.1 0 12).toNatClampNeg) r76) 0 12 ((u49.1 0 12) + (1 : Int32)))) H := hP
            have hD : va_D A (mW ad N cI cZ cJ (wA (wA (wA u49 0 48 ((u49.1 0 48) - (1 : Int32))) 11 ((u49.1 0 12).toNatClampNeg) r76) 0 12 ((u49.1 0 12) + (1 : Int32)))) := hD
            refine tp_i (y := (u49.1 0 12)) (rfl) ?_
            refine W.widen (k := 0) (n := 0) (by omega) (by omega) ?_
            refine lv_pop hx hb dX13_operand_210 rfl ?_
            refine lv_aload_n hx hb dX13_operand_211 rfl (lv_at hl 1 rfl) ?_
            refine lv_iload_n hx hb dX13_operand_212 rfl (lv_at hl 0 rfl) ?_
            refine lv_bipush (v := 45) hx hb dX13_operand_213 (by decide) ?_
            refine lv_icmp_ne (tgt := 223) hx hb dX13_operand_215 (by decide) (fun h81 => ?_) (fun h81 => ?_)
            · have z82 : ((v.2 (v.1 0 47).toNatClampNeg).toInt32).toInt ≠ 45 := ne_z rfl (show (45 : Int32).toInt = 45 by decide) h81
              refine lv_iload_n hx hb dX13_operand_223 rfl (lv_at hl 0 rfl) ?_
              refine lv_bipush (v := 33) hx hb dX13_operand_224 (by decide) ?_
              refine lv_icmp_ne (tgt := 234) hx hb dX13_operand_226 (by decide) (fun h83 => ?_) (fun h83 => ?_)
              · have z84 : ((v.2 (v.1 0 47).toNatClampNeg).toInt32).toInt ≠ 33 := ne_z rfl (show (33 : Int32).toInt = 33 by decide) h83
                exfalso; omega
              · have z85 : ((v.2 (v.1 0 47).toNatClampNeg).toInt32).toInt = 33 := eq_z rfl (show (33 : Int32).toInt = 33 by decide) h83
                refine lv_bipush (v := 19) hx hb dX13_operand_229 (by decide) ?_
                refine lv_goto (tgt := 236) hx hb dX13_operand_231 (by decide) ?_
                refine lv_iconst (v := 0) hx hb dX13_operand_236 (by decide) ?_
                refine cu_i (rn_V (n := 2) (As := [.int 19, .int 0]) (rest := []) hx hb hml hown ht hKK hFx hP hD hS hA (c_m_say l dC dI cI cB cZ cJ cR tb H.size ad N (wA (wA (wA u49 0 48 ((u49.1 0 48) - (1 : Int32))) 11 ((u49.1 0 12).toNatClampNeg) r76) 0 12 ((u49.1 0 12) + (1 : Int32))) (19 : Int32) (0 : Int32) (show 0 ≤ (u49.1 0 15).toInt ∧ (u49.1 0 15).toInt < 16000 by omega)) tw_59 tw_60 (by decide +kernel) rfl rfl ⟨by show 0 + 1 ≤ 40 * n + 9; omega, by show 8 + (3 + 11) + 0 ≤ 28 * (40 * n + 9); omega⟩ (List.range (mW ad N cI cZ cJ (wA (wA (wA u49 0 48 ((u49.1 0 48) - (1 : Int32))) 11 ((u49.1 0 12).toNatClampNeg) r76) 0 12 ((u49.1 0 12) + (1 : Int32)))).length) (rg_map _) (mW_nd _ _ _ _ _ _) rfl rfl rfl rfl hl.1 rfl (Nat.le_of_ble_eq_true rfl) dX13_operand_237 ⟨Nat.le_of_ble_eq_true rfl, Nat.le_of_ble_eq_true rfl⟩) hP hD hS hA (fun r88 u87 H locs hw86 hP hD hS => ?_)
                obtain ⟨rfl, rfl⟩ := hw86
                have z89 : ((u49.1 0 15) + (1 : Int32)).toInt = (u49.1 0 15).toInt + 1 := add_z rfl (show (1 : Int32).toInt = 1 by decide) (by omega) (by omega)
                have hP : va_P (dC, dI) vwCl (mW ad N cI cZ cJ (wA (wA (wA (wA (wA (wA u49 0 48 ((u49.1 0 48) - (1 : Int32))) 11 ((u49.1 0 12).toNatClampNeg) r76) 0 12 ((u49.1 0 12) + (1 : Int32))) 13 ((u49.1 0 15).toNatClampNeg) (19 : Int32)) 14 ((u49.1 0 15).toNatClampNeg) (0 : Int32)) 0 15 ((u49.1 0 15) + (1 : Int32)))) H := hP
                have hD : va_D A (mW ad N cI cZ cJ (wA (wA (wA (wA (wA (wA u49 0 48 ((u49.1 0 48) - (1 : Int32))) 11 ((u49.1 0 12).toNatClampNeg) r76) 0 12 ((u49.1 0 12) + (1 : Int32))) 13 ((u49.1 0 15).toNatClampNeg) (19 : Int32)) 14 ((u49.1 0 15).toNatClampNeg) (0 : Int32)) 0 15 ((u49.1 0 15) + (1 : Int32)))) := hD
                refine tp_i (y := (u49.1 0 15)) (rfl) ?_
                refine W.widen (k := 0) (n := 0) (by omega) (by omega) ?_
                refine lv_pop hx hb dX13_operand_240 rfl ?_
                refine lv_goto (tgt := 386) hx hb dX13_operand_241 (by decide) ?_
                refine vx_ret ?_
                exact W.vret hx hb hr (fun t ht9 hW => ⟨⟨(wA (wA (wA (wA (wA (wA u49 0 48 ((u49.1 0 48) - (1 : Int32))) 11 ((u49.1 0 12).toNatClampNeg) r76) 0 12 ((u49.1 0 12) + (1 : Int32))) 13 ((u49.1 0 15).toNatClampNeg) (19 : Int32)) 14 ((u49.1 0 15).toNatClampNeg) (0 : Int32)) 0 15 ((u49.1 0 15) + (1 : Int32))), rfl, ⟨(FG.f (FG.a (FG.a (FG.f (FG.a (FG.f (FG.tr (FG.f (FG.f (FG.rf _) ((v.1 0 47) + (1 : Int32)) (by decide)) ((v.1 0 48) + (1 : Int32)) (by decide)) (FG.up fr48 (by decide) (by decide))) ((u49.1 0 48) - (1 : Int32)) (by decide)) ((u49.1 0 12).toNatClampNeg) r76 (by decide) (by decide)) ((u49.1 0 12) + (1 : Int32)) (by decide)) ((u49.1 0 15).toNatClampNeg) (19 : Int32) (by decide) (by decide)) ((u49.1 0 15).toNatClampNeg) (0 : Int32) (by decide) (by decide)) ((u49.1 0 15) + (1 : Int32)) (by decide)), (show (v.1 0 47).toInt + 1 ≤ (u49.1 0 47).toInt ∧ (u49.1 0 47).toInt ≤ 1500 by omega), (show (v.1 0 49).toInt ≠ (v.1 0 47).toInt by omega), (show (v.1 0 12).toInt ≤ ((u49.1 0 12) + (1 : Int32)).toInt ∧ ((u49.1 0 12) + (1 : Int32)).toInt - 15 * (u49.1 0 47).toInt ≤ (v.1 0 12).toInt - 15 * (v.1 0 47).toInt by omega), (show (v.1 0 15).toInt ≤ ((u49.1 0 15) + (1 : Int32)).toInt ∧ ((u49.1 0 15) + (1 : Int32)).toInt - 10 * (u49.1 0 47).toInt ≤ (v.1 0 15).toInt - 10 * (v.1 0 47).toInt by omega), (show (v.1 0 43).toInt ≤ (u49.1 0 43).toInt ∧ (u49.1 0 43).toInt - 15 * (u49.1 0 47).toInt ≤ (v.1 0 43).toInt - 15 * (v.1 0 47).toInt by omega), (show (v.1 0 39).toInt ≤ (u49.1 0 39).toInt ∧ (u49.1 0 39).toInt - 1 * (u49.1 0 47).toInt ≤ (v.1 0 39).toInt - 1 * (v.1 0 47).toInt by omega), (show (u49.1 0 32).toInt = (v.1 0 32).toInt ∧ ((u49.1 0 48) - (1 : Int32)).toInt = (v.1 0 48).toInt by omega), (show (v.1 0 33).toInt ≤ (u49.1 0 33).toInt ∧ (u49.1 0 33).toInt ≤ 500 by omega), (fun (j9 : Nat) hj9 => (Eq.trans (pk_un (by have := cl_z (a := (u49.1 0 12).toInt) rfl (by omega); omega)) (kc48 j9 (by omega)))), (fun (j9 : Nat) hj9 => (Eq.trans (pk_un (by have := cl_z (a := (u49.1 0 15).toInt) rfl (by omega); omega)) (ko48 j9 (by omega)))), (fun (j9 : Nat) hj9 => (Eq.trans (pk_un (by have := cl_z (a := (u49.1 0 15).toInt) rfl (by omega); omega)) (kg48 j9 (by omega)))), n3548⟩, by rw [ht9]; exact hP, hD⟩, hS.F ht9⟩) hS.2.2 dX13_operand_386
            · have z90 : ((v.2 (v.1 0 47).toNatClampNeg).toInt32).toInt = 45 := eq_z rfl (show (45 : Int32).toInt = 45 by decide) h81
              exfalso; omega
        · have z91 : ((v.2 (v.1 0 47).toNatClampNeg).toInt32).toInt = 45 := eq_z rfl (show (45 : Int32).toInt = 45 by decide) h52
          refine lv_bipush (v := 32) hx hb dX13_operand_162 (by decide) ?_
          refine lv_iconst (v := 0) hx hb dX13_operand_164 (by decide) ?_
          refine lv_bipush (v := 10) hx hb dX13_operand_165 (by decide) ?_
          refine lv_iconst (v := 0) hx hb dX13_operand_167 (by decide) ?_
          refine lv_bipush (v := 10) hx hb dX13_operand_168 (by decide) ?_
          refine cu_s (mW_nd _ _ _ _ _ _) (rn_S (n := 5) (As := [.int 32, .int 0, .int 10, .int 0, .int 10]) (rest := [.ref (ad 0)]) hx hb hml hown ht hKK hFx hP hD hS hA (c_m_byR l dC dI cI cB cZ cJ cR tb H.size (32 : Int32) (0 : Int32) (10 : Int32) (0 : Int32) (10 : Int32) ) tw_67 tw_68 (by decide +kernel) rfl rfl ⟨by show 0 + 1 ≤ 40 * n + 9; omega, by show 8 + (5 + 11) + 0 ≤ 28 * (40 * n + 9); omega⟩ [] rfl rfl rfl hl.1 rfl (Nat.le_of_ble_eq_true rfl) dX13_operand_170 ⟨Nat.le_of_ble_eq_true rfl, Nat.le_of_ble_eq_true rfl⟩) hP hD hS hA (fun r94 H locs hw92 hP hD hS => ?_)
          refine W.widen (k := 0) (n := 0) (by omega) (by omega) ?_
          refine lv_goto (tgt := 207) hx hb dX13_operand_173 (by decide) ?_
          refine cu_i (rn_V (n := 1) (As := [.int r94]) (rest := []) hx hb hml hown ht hKK hFx hP hD hS hA (c_m_emit l dC dI cI cB cZ cJ cR tb H.size ad N (wA u49 0 48 ((u49.1 0 48) - (1 : Int32))) r94 (show 0 ≤ (u49.1 0 12).toInt ∧ (u49.1 0 12).toInt < 24000 by omega)) tw_8 tw_9 (by decide +kernel) rfl rfl ⟨by show 0 + 1 ≤ 40 * n + 9; omega, by show 8 + (2 + 11) + 0 ≤ 28 * (40 * n + 9); omega⟩ (List.range (mW ad N cI cZ cJ (wA u49 0 48 ((u49.1 0 48) - (1 : Int32)))).length) (rg_map _) (mW_nd _ _ _ _ _ _) rfl rfl rfl rfl hl.1 rfl (Nat.le_of_ble_eq_true rfl) dX13_operand_207 ⟨Nat.le_of_ble_eq_true rfl, Nat.le_of_ble_eq_true rfl⟩) hP hD hS hA (fun r97 u96 H locs hw95 hP hD hS => ?_)
          obtain ⟨rfl, rfl⟩ := hw95
          have z98 : ((u49.1 0 12) + (1 : Int32)).toInt = (u49.1 0 12).toInt + 1 := add_z rfl (show (1 : Int32).toInt = 1 by decide) (by omega) (by omega)
          have hP : va_P (dC, dI) vwCl (mW ad N cI cZ cJ (wA (wA (wA u49 0 48 ((u49.1 0 48) - (1 : Int32))) 11 ((u49.1 0 12).toNatClampNeg) r94) 0 12 ((u49.1 0 12) + (1 : Int32)))) H := hP
          have hD : va_D A (mW ad N cI cZ cJ (wA (wA (wA u49 0 48 ((u49.1 0 48) - (1 : Int32))) 11 ((u49.1 0 12).toNatClampNeg) r94) 0 12 ((u49.1 0 12) + (1 : Int32)))) := hD
          refine tp_i (y := (u49.1 0 12)) (rfl) ?_
          refine W.widen (k := 0) (n := 0) (by omega) (by omega) ?_
          refine lv_pop hx hb dX13_operand_210 rfl ?_
          refine lv_aload_n hx hb dX13_operand_211 rfl (lv_at hl 1 rfl) ?_
          refine lv_iload_n hx hb dX13_operand_212 rfl (lv_at hl 0 rfl) ?_
          refine lv_bipush (v := 45) hx hb dX13_operand_213 (by decide) ?_
          refine lv_icmp_ne (tgt := 223) hx hb dX13_operand_215 (by decide) (fun h99 => ?_) (fun h99 => ?_)
          · have z100 : ((v.2 (v.1 0 47).toNatClampNeg).toInt32).toInt ≠ 45 := ne_z rfl (show (45 : Int32).toInt = 45 by decide) h99
            exfalso; omega
          · have z101 : ((v.2 (v.1 0 47).toNatClampNeg).toInt32).toInt = 45 := eq_z rfl (show (45 : Int32).toInt = 45 by decide) h99
            refine lv_bipush (v := 18) hx hb dX13_operand_218 (by decide) ?_
            refine lv_goto (tgt := 236) hx hb dX13_operand_220 (by decide) ?_
            refine lv_iconst (v := 0) hx hb dX13_operand_236 (by decide) ?_
            refine cu_i (rn_V (n := 2) (As := [.int 18, .int 0]) (rest := []) hx hb hml hown ht hKK hFx hP hD hS hA (c_m_say l dC dI cI cB cZ cJ cR tb H.size ad N (wA (wA (wA u49 0 48 ((u49.1 0 48) - (1 : Int32))) 11 ((u49.1 0 12).toNatClampNeg) r94) 0 12 ((u49.1 0 12) + (1 : Int32))) (18 : Int32) (0 : Int32) (show 0 ≤ (u49.1 0 15).toInt ∧ (u49.1 0 15).toInt < 16000 by omega)) tw_59 tw_60 (by decide +kernel) rfl rfl ⟨by show 0 + 1 ≤ 40 * n + 9; omega, by show 8 + (3 + 11) + 0 ≤ 28 * (40 * n + 9); omega⟩ (List.range (mW ad N cI cZ cJ (wA (wA (wA u49 0 48 ((u49.1 0 48) - (1 : Int32))) 11 ((u49.1 0 12).toNatClampNeg) r94) 0 12 ((u49.1 0 12) + (1 : Int32)))).length) (rg_map _) (mW_nd _ _ _ _ _ _) rfl rfl rfl rfl hl.1 rfl (Nat.le_of_ble_eq_true rfl) dX13_operand_237 ⟨Nat.le_of_ble_eq_true rfl, Nat.le_of_ble_eq_true rfl⟩) hP hD hS hA (fun r104 u103 H locs hw102 hP hD hS => ?_)
            obtain ⟨rfl, rfl⟩ := hw102
            have z105 : ((u49.1 0 15) + (1 : Int32)).toInt = (u49.1 0 15).toInt + 1 := add_z rfl (show (1 : Int32).toInt = 1 by decide) (by omega) (by omega)
            have hP : va_P (dC, dI) vwCl (mW ad N cI cZ cJ (wA (wA (wA (wA (wA (wA u49 0 48 ((u49.1 0 48) - (1 : Int32))) 11 ((u49.1 0 12).toNatClampNeg) r94) 0 12 ((u49.1 0 12) + (1 : Int32))) 13 ((u49.1 0 15).toNatClampNeg) (18 : Int32)) 14 ((u49.1 0 15).toNatClampNeg) (0 : Int32)) 0 15 ((u49.1 0 15) + (1 : Int32)))) H := hP
            have hD : va_D A (mW ad N cI cZ cJ (wA (wA (wA (wA (wA (wA u49 0 48 ((u49.1 0 48) - (1 : Int32))) 11 ((u49.1 0 12).toNatClampNeg) r94) 0 12 ((u49.1 0 12) + (1 : Int32))) 13 ((u49.1 0 15).toNatClampNeg) (18 : Int32)) 14 ((u49.1 0 15).toNatClampNeg) (0 : Int32)) 0 15 ((u49.1 0 15) + (1 : Int32)))) := hD
            refine tp_i (y := (u49.1 0 15)) (rfl) ?_
            refine W.widen (k := 0) (n := 0) (by omega) (by omega) ?_
            refine lv_pop hx hb dX13_operand_240 rfl ?_
            refine lv_goto (tgt := 386) hx hb dX13_operand_241 (by decide) ?_
            refine vx_ret ?_
            exact W.vret hx hb hr (fun t ht9 hW => ⟨⟨(wA (wA (wA (wA (wA (wA u49 0 48 ((u49.1 0 48) - (1 : Int32))) 11 ((u49.1 0 12).toNatClampNeg) r94) 0 12 ((u49.1 0 12) + (1 : Int32))) 13 ((u49.1 0 15).toNatClampNeg) (18 : Int32)) 14 ((u49.1 0 15).toNatClampNeg) (0 : Int32)) 0 15 ((u49.1 0 15) + (1 : Int32))), rfl, ⟨(FG.f (FG.a (FG.a (FG.f (FG.a (FG.f (FG.tr (FG.f (FG.f (FG.rf _) ((v.1 0 47) + (1 : Int32)) (by decide)) ((v.1 0 48) + (1 : Int32)) (by decide)) (FG.up fr48 (by decide) (by decide))) ((u49.1 0 48) - (1 : Int32)) (by decide)) ((u49.1 0 12).toNatClampNeg) r94 (by decide) (by decide)) ((u49.1 0 12) + (1 : Int32)) (by decide)) ((u49.1 0 15).toNatClampNeg) (18 : Int32) (by decide) (by decide)) ((u49.1 0 15).toNatClampNeg) (0 : Int32) (by decide) (by decide)) ((u49.1 0 15) + (1 : Int32)) (by decide)), (show (v.1 0 47).toInt + 1 ≤ (u49.1 0 47).toInt ∧ (u49.1 0 47).toInt ≤ 1500 by omega), (show (v.1 0 49).toInt ≠ (v.1 0 47).toInt by omega), (show (v.1 0 12).toInt ≤ ((u49.1 0 12) + (1 : Int32)).toInt ∧ ((u49.1 0 12) + (1 : Int32)).toInt - 15 * (u49.1 0 47).toInt ≤ (v.1 0 12).toInt - 15 * (v.1 0 47).toInt by omega), (show (v.1 0 15).toInt ≤ ((u49.1 0 15) + (1 : Int32)).toInt ∧ ((u49.1 0 15) + (1 : Int32)).toInt - 10 * (u49.1 0 47).toInt ≤ (v.1 0 15).toInt - 10 * (v.1 0 47).toInt by omega), (show (v.1 0 43).toInt ≤ (u49.1 0 43).toInt ∧ (u49.1 0 43).toInt - 15 * (u49.1 0 47).toInt ≤ (v.1 0 43).toInt - 15 * (v.1 0 47).toInt by omega), (show (v.1 0 39).toInt ≤ (u49.1 0 39).toInt ∧ (u49.1 0 39).toInt - 1 * (u49.1 0 47).toInt ≤ (v.1 0 39).toInt - 1 * (v.1 0 47).toInt by omega), (show (u49.1 0 32).toInt = (v.1 0 32).toInt ∧ ((u49.1 0 48) - (1 : Int32)).toInt = (v.1 0 48).toInt by omega), (show (v.1 0 33).toInt ≤ (u49.1 0 33).toInt ∧ (u49.1 0 33).toInt ≤ 500 by omega), (fun (j9 : Nat) hj9 => (Eq.trans (pk_un (by have := cl_z (a := (u49.1 0 12).toInt) rfl (by omega); omega)) (kc48 j9 (by omega)))), (fun (j9 : Nat) hj9 => (Eq.trans (pk_un (by have := cl_z (a := (u49.1 0 15).toInt) rfl (by omega); omega)) (ko48 j9 (by omega)))), (fun (j9 : Nat) hj9 => (Eq.trans (pk_un (by have := cl_z (a := (u49.1 0 15).toInt) rfl (by omega); omega)) (kg48 j9 (by omega)))), n3548⟩, by rw [ht9]; exact hP, hD⟩, hS.F ht9⟩) hS.2.2 dX13_operand_386
      · have z106 : r38.toInt = 0 := eq_z rfl (show (0 : Int32).toInt = 0 by decide) h39
        refine lv_aload_n hx hb dX13_operand_108 rfl (lv_at hl 0 rfl) ?_
        refine lv_bipush (v := 33) hx hb dX13_operand_109 (by decide) ?_
        refine cu_i (rn_V (n := 1) (As := [.int 33]) (rest := []) hx hb hml hown ht hKK hFx hP hD hS hA (c_m_is l dC dI cI cB cZ cJ cR tb H.size ad N v (33 : Int32) (show 0 ≤ (v.1 0 47).toInt ∧ (v.1 0 47).toInt ≤ 1500 by omega)) tw_34 tw_35 (by decide +kernel) rfl rfl ⟨by show 1 + 1 ≤ 40 * n + 9; omega, by show 8 + (2 + 11) + 22 ≤ 28 * (40 * n + 9); omega⟩ (List.range (mW ad N cI cZ cJ v).length) (rg_map _) (mW_nd _ _ _ _ _ _) rfl rfl rfl rfl hl.1 rfl (Nat.le_of_ble_eq_true rfl) dX13_operand_111 ⟨Nat.le_of_ble_eq_true rfl, Nat.le_of_ble_eq_true rfl⟩) hP hD hS hA (fun r109 u108 H locs hw107 hP hD hS => ?_)
        obtain ⟨rfl, b107⟩ := hw107
        refine W.widen (k := 0) (n := 0) (by omega) (by omega) ?_
        refine lv_if_ne (tgt := 126) hx hb dX13_operand_114 (by decide) (fun h110 => ?_) (fun h110 => ?_)
        · have z111 : r109.toInt ≠ 0 := ne_z rfl (show (0 : Int32).toInt = 0 by decide) h110
          refine lv_aload_n hx hb dX13_operand_126 rfl (lv_at hl 0 rfl) ?_
          refine va_get (D := (dC, dI)) (ci := 16) (fs := mF ad v) (v := .ref (ad 9)) (C := RX13) (T := TX13) (N := 124) hx hb ht itX13 hown hK hP 0 rfl rfl 9 (by decide) (ht _ tw_27) (fun _ h9 => h9) rfl dX13_operand_127 ?_
          refine lv_aload_n hx hb dX13_operand_130 rfl (lv_at hl 0 rfl) ?_
          refine va_get (D := (dC, dI)) (ci := 16) (fs := mF ad v) (v := .int (v.1 0 47)) (C := RX13) (T := TX13) (N := 124) hx hb ht itX13 hown hK hP 0 rfl rfl 47 (by decide) (ht _ tw_24) (fun _ h9 => h9) rfl dX13_operand_131 ?_
          refine va_lald (D := (dC, dI)) (f := v.2) hx hb hK hP 6 3 rfl rfl (in_z (a := (v.1 0 47).toInt) rfl (by omega) (by omega)) dX13_operand_134 ?_
          refine lv_l2i hx hb dX13_operand_135 rfl ?_
          refine lv_istore_n (lv' := [(1, .int ((v.2 (v.1 0 47).toNatClampNeg).toInt32)), (0, .ref (ad 0))]) hx hb dX13_operand_136 rfl hl (by decide) rfl (fun ls hl => ?_)
          refine lv_aload_n hx hb dX13_operand_137 rfl (lv_at hl 1 rfl) ?_
          refine cux_v (rx_V (n := 0) (As := []) (rest := []) hx hb hml hown ht hKK hFx hP hD hS hA (c_m_opens l dC dI cI cB cZ cJ cR tb H.size ad N v  (show 0 ≤ (v.1 0 47).toInt ∧ (v.1 0 47).toInt ≤ 1500 by omega) (show 0 ≤ (v.1 0 48).toInt ∧ (v.1 0 48).toInt ≤ 40 by omega)) tw_38 tw_39 (by decide +kernel) rfl rfl ⟨by show 2 + 1 ≤ 40 * n + 9; omega, by show 8 + (1 + 11) + 42 ≤ 28 * (40 * n + 9); omega⟩ (List.range (mW ad N cI cZ cJ v).length) (rg_map _) (mW_nd _ _ _ _ _ _) rfl rfl rfl rfl hl.1 rfl (Nat.le_of_ble_eq_true rfl) dX13_operand_138 ⟨Nat.le_of_ble_eq_true rfl, Nat.le_of_ble_eq_true rfl⟩) hP hD hS hA (fun u9 ce9 q9 H locs hx9 hP hD hS hc9 hv9 hf9 => ?_) (fun u113 H locs hw112 hP hD hS => ?_)
          · exact vx_out (fun x h9 => (hnt x h9).elim) hlocks hc9 hv9 hf9 (fun t9 ht9 hv8 => ⟨u9, (FG.tr (FG.rf _) hx9), ⟨rfl, by rw [ht9]; exact hP, hD⟩, hS.F ht9⟩) hS.2.2 (by omega) (by omega)
          obtain ⟨rfl, a112, b112, c112⟩ := hw112
          have z115 : ((v.1 0 47) + (1 : Int32)).toInt = (v.1 0 47).toInt + 1 := add_z rfl (show (1 : Int32).toInt = 1 by decide) (by omega) (by omega)
          have z116 : ((v.1 0 48) + (1 : Int32)).toInt = (v.1 0 48).toInt + 1 := add_z rfl (show (1 : Int32).toInt = 1 by decide) (by omega) (by omega)
          have hP : va_P (dC, dI) vwCl (mW ad N cI cZ cJ (wA (wA v 0 47 ((v.1 0 47) + (1 : Int32))) 0 48 ((v.1 0 48) + (1 : Int32)))) H := hP
          have hD : va_D A (mW ad N cI cZ cJ (wA (wA v 0 47 ((v.1 0 47) + (1 : Int32))) 0 48 ((v.1 0 48) + (1 : Int32)))) := hD
          refine W.widen (k := 0) (n := 0) (by omega) (by omega) ?_
          refine lv_aload_n hx hb dX13_operand_141 rfl (lv_at hl 1 rfl) ?_
          obtain ⟨n117, hn118⟩ : ∃ m, n = m + 1 := ⟨n - 1, by omega⟩
          refine cux_v (rx_V (n := 0) (As := []) (rest := []) hx hb hml hown ht hKK hFx hP hD hS hA (ihO n117 hn118 dC dI cI cB cZ cJ cR tb H.size ad N (wA (wA v 0 47 ((v.1 0 47) + (1 : Int32))) 0 48 ((v.1 0 48) + (1 : Int32)))  (show 40 ≤ ((v.1 0 48) + (1 : Int32)).toInt + (n117 : Int) by omega) (show 0 ≤ ((v.1 0 47) + (1 : Int32)).toInt ∧ ((v.1 0 47) + (1 : Int32)).toInt ≤ 1500 by omega) (show 0 ≤ ((v.1 0 48) + (1 : Int32)).toInt ∧ ((v.1 0 48) + (1 : Int32)).toInt ≤ 40 by omega) (show 0 ≤ (v.1 0 30).toInt ∧ (v.1 0 30).toInt ≤ 500 by omega) (show 0 ≤ (v.1 0 33).toInt ∧ (v.1 0 33).toInt ≤ 500 by omega) (show 0 ≤ (v.1 0 32).toInt ∧ (v.1 0 30).toInt + (v.1 0 32).toInt ≤ 500 by omega) (show 0 ≤ (v.1 0 12).toInt ∧ (v.1 0 12).toInt ≤ 15 * ((v.1 0 47) + (1 : Int32)).toInt + 2 by omega) (show 0 ≤ (v.1 0 15).toInt ∧ (v.1 0 15).toInt ≤ 10 * ((v.1 0 47) + (1 : Int32)).toInt + 0 by omega) (show 0 ≤ (v.1 0 43).toInt ∧ (v.1 0 43).toInt ≤ 15 * ((v.1 0 47) + (1 : Int32)).toInt + 0 by omega) (show 0 ≤ (v.1 0 39).toInt ∧ (v.1 0 39).toInt ≤ 1 * ((v.1 0 47) + (1 : Int32)).toInt + 0 by omega) (show 0 ≤ (v.1 0 27).toInt ∧ (v.1 0 27).toInt ≤ 60 by omega) (FG.ti (fl := pfl) (al := pal) (FG.f (FG.f (FG.rf _) ((v.1 0 47) + (1 : Int32)) (by decide)) ((v.1 0 48) + (1 : Int32)) (by decide)) (by decide) (by decide) hT) (n29) (n23) (n35)) tw_114 tw_115 (by decide +kernel) rfl rfl ⟨by show (40 * n117 + 9) + 1 ≤ 40 * n + 9; omega, by show 8 + (2 + 11) + 28 * (40 * n117 + 9) ≤ 28 * (40 * n + 9); omega⟩ (List.range (mW ad N cI cZ cJ (wA (wA v 0 47 ((v.1 0 47) + (1 : Int32))) 0 48 ((v.1 0 48) + (1 : Int32)))).length) (rg_map _) (mW_nd _ _ _ _ _ _) rfl rfl rfl rfl hl.1 rfl (Nat.le_of_ble_eq_true rfl) dX13_operand_142 ⟨Nat.le_of_ble_eq_true rfl, Nat.le_of_ble_eq_true rfl⟩) hP hD hS hA (fun u9 ce9 q9 H locs hx9 hP hD hS hc9 hv9 hf9 => ?_) (fun u120 H locs hw119 hP hD hS => ?_)
          · exact vx_out (fun x h9 => (hnt x h9).elim) hlocks hc9 hv9 hf9 (fun t9 ht9 hv8 => ⟨u9, (FG.tr (FG.f (FG.f (FG.rf _) ((v.1 0 47) + (1 : Int32)) (by decide)) ((v.1 0 48) + (1 : Int32)) (by decide)) hx9), ⟨rfl, by rw [ht9]; exact hP, hD⟩, hS.F ht9⟩) hS.2.2 (by omega) (by omega)
          obtain ⟨fr119, pt119, pb119, pw119, po119, pf119, pk119, pp119, ph119, kc119, ko119, kg119, n35119⟩ := hw119
          have q119_2 : (u120.1 0 2).toInt = (v.1 0 2).toInt := congrArg Int32.toInt ((fr119.2.1 2 (by decide)).trans (show (wA (wA v 0 47 ((v.1 0 47) + (1 : Int32))) 0 48 ((v.1 0 48) + (1 : Int32))).1 0 2 = (v.1 0 2) by rfl))
          have q119_4 : (u120.1 0 4).toInt = (v.1 0 4).toInt := congrArg Int32.toInt ((fr119.2.1 4 (by decide)).trans (show (wA (wA v 0 47 ((v.1 0 47) + (1 : Int32))) 0 48 ((v.1 0 48) + (1 : Int32))).1 0 4 = (v.1 0 4) by rfl))
          have q119_5 : (u120.1 0 5).toInt = (v.1 0 5).toInt := congrArg Int32.toInt ((fr119.2.1 5 (by decide)).trans (show (wA (wA v 0 47 ((v.1 0 47) + (1 : Int32))) 0 48 ((v.1 0 48) + (1 : Int32))).1 0 5 = (v.1 0 5) by rfl))
          have q119_22 : (u120.1 0 22).toInt = (v.1 0 22).toInt := congrArg Int32.toInt ((fr119.2.1 22 (by decide)).trans (show (wA (wA v 0 47 ((v.1 0 47) + (1 : Int32))) 0 48 ((v.1 0 48) + (1 : Int32))).1 0 22 = (v.1 0 22) by rfl))
          have q119_27 : (u120.1 0 27).toInt = (v.1 0 27).toInt := congrArg Int32.toInt ((fr119.2.1 27 (by decide)).trans (show (wA (wA v 0 47 ((v.1 0 47) + (1 : Int32))) 0 48 ((v.1 0 48) + (1 : Int32))).1 0 27 = (v.1 0 27) by rfl))
          have q119_28 : (u120.1 0 28).toInt = (v.1 0 28).toInt := congrArg Int32.toInt ((fr119.2.1 28 (by decide)).trans (show (wA (wA v 0 47 ((v.1 0 47) + (1 : Int32))) 0 48 ((v.1 0 48) + (1 : Int32))).1 0 28 = (v.1 0 28) by rfl))
          have q119_30 : (u120.1 0 30).toInt = (v.1 0 30).toInt := congrArg Int32.toInt ((fr119.2.1 30 (by decide)).trans (show (wA (wA v 0 47 ((v.1 0 47) + (1 : Int32))) 0 48 ((v.1 0 48) + (1 : Int32))).1 0 30 = (v.1 0 30) by rfl))
          have q119_31 : (u120.1 0 31).toInt = (v.1 0 31).toInt := congrArg Int32.toInt ((fr119.2.1 31 (by decide)).trans (show (wA (wA v 0 47 ((v.1 0 47) + (1 : Int32))) 0 48 ((v.1 0 48) + (1 : Int32))).1 0 31 = (v.1 0 31) by rfl))
          have q119_34 : (u120.1 0 34).toInt = (v.1 0 34).toInt := congrArg Int32.toInt ((fr119.2.1 34 (by decide)).trans (show (wA (wA v 0 47 ((v.1 0 47) + (1 : Int32))) 0 48 ((v.1 0 48) + (1 : Int32))).1 0 34 = (v.1 0 34) by rfl))
          have q119_52 : (u120.1 0 52).toInt = (v.1 0 52).toInt := congrArg Int32.toInt ((fr119.2.1 52 (by decide)).trans (show (wA (wA v 0 47 ((v.1 0 47) + (1 : Int32))) 0 48 ((v.1 0 48) + (1 : Int32))).1 0 52 = (v.1 0 52) by rfl))
          have pt119 : ((v.1 0 47) + (1 : Int32)).toInt + 1 ≤ (u120.1 0 47).toInt ∧ (u120.1 0 47).toInt ≤ 1500 := pt119
          have pb119 : (v.1 0 49).toInt ≠ ((v.1 0 47) + (1 : Int32)).toInt := pb119
          have pw119 : (v.1 0 12).toInt ≤ (u120.1 0 12).toInt ∧ (u120.1 0 12).toInt - 15 * (u120.1 0 47).toInt ≤ (v.1 0 12).toInt - 15 * ((v.1 0 47) + (1 : Int32)).toInt := pw119
          have po119 : (v.1 0 15).toInt ≤ (u120.1 0 15).toInt ∧ (u120.1 0 15).toInt - 10 * (u120.1 0 47).toInt ≤ (v.1 0 15).toInt - 10 * ((v.1 0 47) + (1 : Int32)).toInt := po119
          have pf119 : (v.1 0 43).toInt ≤ (u120.1 0 43).toInt ∧ (u120.1 0 43).toInt - 15 * (u120.1 0 47).toInt ≤ (v.1 0 43).toInt - 15 * ((v.1 0 47) + (1 : Int32)).toInt := pf119
          have pk119 : (v.1 0 39).toInt ≤ (u120.1 0 39).toInt ∧ (u120.1 0 39).toInt - 1 * (u120.1 0 47).toInt ≤ (v.1 0 39).toInt - 1 * ((v.1 0 47) + (1 : Int32)).toInt := pk119
          have pp119 : (u120.1 0 32).toInt = (v.1 0 32).toInt ∧ (u120.1 0 48).toInt = ((v.1 0 48) + (1 : Int32)).toInt := pp119
          have ph119 : (v.1 0 33).toInt ≤ (u120.1 0 33).toInt ∧ (u120.1 0 33).toInt ≤ 500 := ph119
          have kc119 : ∀ j : Nat, (j : Int) < (v.1 0 12).toInt → (u120.1 11) j = (v.1 11) j := kc119
          have ko119 : ∀ j : Nat, (j : Int) < (v.1 0 15).toInt → (u120.1 13) j = (v.1 13) j := ko119
          have kg119 : ∀ j : Nat, (j : Int) < (v.1 0 15).toInt → (u120.1 14) j = (v.1 14) j := kg119
          have n35119 : NI 35 u120 := n35119
          refine W.widen (k := 0) (n := 0) (by omega) (by omega) ?_
          refine lv_aload_n hx hb dX13_operand_145 rfl (lv_at hl 1 rfl) ?_
          refine lv_dup hx hb dX13_operand_146 rfl ?_
          refine va_get (D := (dC, dI)) (ci := 16) (fs := mF ad u120) (v := .int (u120.1 0 48)) (C := RX13) (T := TX13) (N := 124) hx hb ht itX13 hown hK hP 0 rfl rfl 48 (by decide) (ht _ tw_31) (fun _ h9 => h9) rfl dX13_operand_147 ?_
          refine lv_iconst (v := 1) hx hb dX13_operand_150 (by decide) ?_
          refine lv_isub hx hb dX13_operand_151 ?_
          have z122 : ((u120.1 0 48) - (1 : Int32)).toInt = (u120.1 0 48).toInt - 1 := sub_z rfl (show (1 : Int32).toInt = 1 by decide) (by omega) (by omega)
          refine va_put (D := (dC, dI)) (ci := 16) (fs := mF ad u120) (v := .int ((u120.1 0 48) - (1 : Int32))) (ty := .int) (C := RX13) (T := TX13) (N := 124) hx hb ht itX13 tyX13 tyX13_ok nmX13 hown hK hP hD hS 0 rfl rfl 48 (by decide) (ht _ tw_31) (fun _ h9 => h9) rfl (by decide +kernel) rfl rfl (Nat.le_of_ble_eq_true rfl) dX13_operand_152 (fun H locs hP hD hS => ?_)
          have hP := cP_ (mw_48 ad N cI cZ cJ u120 ((u120.1 0 48) - (1 : Int32))) hP
          have hD := cD_ (mw_48 ad N cI cZ cJ u120 ((u120.1 0 48) - (1 : Int32))) hD
          refine lv_aload_n hx hb dX13_operand_155 rfl (lv_at hl 1 rfl) ?_
          refine lv_iload_n hx hb dX13_operand_156 rfl (lv_at hl 0 rfl) ?_
          refine lv_bipush (v := 45) hx hb dX13_operand_157 (by decide) ?_
          refine lv_icmp_ne (tgt := 176) hx hb dX13_operand_159 (by decide) (fun h123 => ?_) (fun h123 => ?_)
          · have z124 : ((v.2 (v.1 0 47).toNatClampNeg).toInt32).toInt ≠ 45 := ne_z rfl (show (45 : Int32).toInt = 45 by decide) h123
            refine lv_iload_n hx hb dX13_operand_176 rfl (lv_at hl 0 rfl) ?_
            refine lv_bipush (v := 33) hx hb dX13_operand_177 (by decide) ?_
            refine lv_icmp_ne (tgt := 196) hx hb dX13_operand_179 (by decide) (fun h125 => ?_) (fun h125 => ?_)
            · have z126 : ((v.2 (v.1 0 47).toNatClampNeg).toInt32).toInt ≠ 33 := ne_z rfl (show (33 : Int32).toInt = 33 by decide) h125
              refine lv_bipush (v := 19) hx hb dX13_operand_196 (by decide) ?_
              refine lv_iconst (v := 4) hx hb dX13_operand_198 (by decide) ?_
              refine lv_bipush (v := 10) hx hb dX13_operand_199 (by decide) ?_
              refine lv_bipush (v := 10) hx hb dX13_operand_201 (by decide) ?_
              refine lv_iconst (v := -1) hx hb dX13_operand_203 (by decide) ?_
              refine cu_s (mW_nd _ _ _ _ _ _) (rn_S (n := 5) (As := [.int 19, .int 4, .int 10, .int 10, .int (-1)]) (rest := [.ref (ad 0)]) hx hb hml hown ht hKK hFx hP hD hS hA (c_m_byI l dC dI cI cB cZ cJ cR tb H.size (19 : Int32) (4 : Int32) (10 : Int32) (10 : Int32) (-1 : Int32) ) tw_2 tw_3 (by decide +kernel) rfl rfl ⟨by show 0 + 1 ≤ 40 * n + 9; omega, by show 8 + (5 + 11) + 0 ≤ 28 * (40 * n + 9); omega⟩ [] rfl rfl rfl hl.1 rfl (Nat.le_of_ble_eq_true rfl) dX13_operand_204 ⟨Nat.le_of_ble_eq_true rfl, Nat.le_of_ble_eq_true rfl⟩) hP hD hS hA (fun r129 H locs hw127 hP hD hS => ?_)
              refine W.widen (k := 0) (n := 0) (by omega) (by omega) ?_
              refine cu_i (rn_V (n := 1) (As := [.int r129]) (rest := []) hx hb hml hown ht hKK hFx hP hD hS hA (c_m_emit l dC dI cI cB cZ cJ cR tb H.size ad N (wA u120 0 48 ((u120.1 0 48) - (1 : Int32))) r129 (show 0 ≤ (u120.1 0 12).toInt ∧ (u120.1 0 12).toInt < 24000 by omega)) tw_8 tw_9 (by decide +kernel) rfl rfl ⟨by show 0 + 1 ≤ 40 * n + 9; omega, by show 8 + (2 + 11) + 0 ≤ 28 * (40 * n + 9); omega⟩ (List.range (mW ad N cI cZ cJ (wA u120 0 48 ((u120.1 0 48) - (1 : Int32)))).length) (rg_map _) (mW_nd _ _ _ _ _ _) rfl rfl rfl rfl hl.1 rfl (Nat.le_of_ble_eq_true rfl) dX13_operand_207 ⟨Nat.le_of_ble_eq_true rfl, Nat.le_of_ble_eq_true rfl⟩) hP hD hS hA (fun r132 u131 H locs hw130 hP hD hS => ?_)
              obtain ⟨rfl, rfl⟩ := hw130
              have z133 : ((u120.1 0 12) + (1 : Int32)).toInt = (u120.1 0 12).toInt + 1 := add_z rfl (show (1 : Int32).toInt = 1 by decide) (by omega) (by omega)
              have hP : va_P (dC, dI) vwCl (mW ad N cI cZ cJ (wA (wA (wA u120 0 48 ((u120.1 0 48) - (1 : Int32))) 11 ((u120.1 0 12).toNatClampNeg) r129) 0 12 ((u120.1 0 12) + (1 : Int32)))) H := hP
              have hD : va_D A (mW ad N cI cZ cJ (wA (wA (wA u120 0 48 ((u120.1 0 48) - (1 : Int32))) 11 ((u120.1 0 12).toNatClampNeg) r129) 0 12 ((u120.1 0 12) + (1 : Int32)))) := hD
              refine tp_i (y := (u120.1 0 12)) (rfl) ?_
              refine W.widen (k := 0) (n := 0) (by omega) (by omega) ?_
              refine lv_pop hx hb dX13_operand_210 rfl ?_
              refine lv_aload_n hx hb dX13_operand_211 rfl (lv_at hl 1 rfl) ?_
              refine lv_iload_n hx hb dX13_operand_212 rfl (lv_at hl 0 rfl) ?_
              refine lv_bipush (v := 45) hx hb dX13_operand_213 (by decide) ?_
              refine lv_icmp_ne (tgt := 223) hx hb dX13_operand_215 (by decide) (fun h134 => ?_) (fun h134 => ?_)
              · have z135 : ((v.2 (v.1 0 47).toNatClampNeg).toInt32).toInt ≠ 45 := ne_z rfl (show (45 : Int32).toInt = 45 by decide) h134
                refine lv_iload_n hx hb dX13_operand_223 rfl (lv_at hl 0 rfl) ?_
                refine lv_bipush (v := 33) hx hb dX13_operand_224 (by decide) ?_
                refine lv_icmp_ne (tgt := 234) hx hb dX13_operand_226 (by decide) (fun h136 => ?_) (fun h136 => ?_)
                · have z137 : ((v.2 (v.1 0 47).toNatClampNeg).toInt32).toInt ≠ 33 := ne_z rfl (show (33 : Int32).toInt = 33 by decide) h136
                  refine lv_bipush (v := 20) hx hb dX13_operand_234 (by decide) ?_
                  refine lv_iconst (v := 0) hx hb dX13_operand_236 (by decide) ?_
                  refine cu_i (rn_V (n := 2) (As := [.int 20, .int 0]) (rest := []) hx hb hml hown ht hKK hFx hP hD hS hA (c_m_say l dC dI cI cB cZ cJ cR tb H.size ad N (wA (wA (wA u120 0 48 ((u120.1 0 48) - (1 : Int32))) 11 ((u120.1 0 12).toNatClampNeg) r129) 0 12 ((u120.1 0 12) + (1 : Int32))) (20 : Int32) (0 : Int32) (show 0 ≤ (u120.1 0 15).toInt ∧ (u120.1 0 15).toInt < 16000 by omega)) tw_59 tw_60 (by decide +kernel) rfl rfl ⟨by show 0 + 1 ≤ 40 * n + 9; omega, by show 8 + (3 + 11) + 0 ≤ 28 * (40 * n + 9); omega⟩ (List.range (mW ad N cI cZ cJ (wA (wA (wA u120 0 48 ((u120.1 0 48) - (1 : Int32))) 11 ((u120.1 0 12).toNatClampNeg) r129) 0 12 ((u120.1 0 12) + (1 : Int32)))).length) (rg_map _) (mW_nd _ _ _ _ _ _) rfl rfl rfl rfl hl.1 rfl (Nat.le_of_ble_eq_true rfl) dX13_operand_237 ⟨Nat.le_of_ble_eq_true rfl, Nat.le_of_ble_eq_true rfl⟩) hP hD hS hA (fun r140 u139 H locs hw138 hP hD hS => ?_)
                  obtain ⟨rfl, rfl⟩ := hw138
                  have z141 : ((u120.1 0 15) + (1 : Int32)).toInt = (u120.1 0 15).toInt + 1 := add_z rfl (show (1 : Int32).toInt = 1 by decide) (by omega) (by omega)
                  have hP : va_P (dC, dI) vwCl (mW ad N cI cZ cJ (wA (wA (wA (wA (wA (wA u120 0 48 ((u120.1 0 48) - (1 : Int32))) 11 ((u120.1 0 12).toNatClampNeg) r129) 0 12 ((u120.1 0 12) + (1 : Int32))) 13 ((u120.1 0 15).toNatClampNeg) (20 : Int32)) 14 ((u120.1 0 15).toNatClampNeg) (0 : Int32)) 0 15 ((u120.1 0 15) + (1 : Int32)))) H := hP
                  have hD : va_D A (mW ad N cI cZ cJ (wA (wA (wA (wA (wA (wA u120 0 48 ((u120.1 0 48) - (1 : Int32))) 11 ((u120.1 0 12).toNatClampNeg) r129) 0 12 ((u120.1 0 12) + (1 : Int32))) 13 ((u120.1 0 15).toNatClampNeg) (20 : Int32)) 14 ((u120.1 0 15).toNatClampNeg) (0 : Int32)) 0 15 ((u120.1 0 15) + (1 : Int32)))) := hD
                  refine tp_i (y := (u120.1 0 15)) (rfl) ?_
                  refine W.widen (k := 0) (n := 0) (by omega) (by omega) ?_
                  refine lv_pop hx hb dX13_operand_240 rfl ?_
                  refine lv_goto (tgt := 386) hx hb dX13_operand_241 (by decide) ?_
                  refine vx_ret ?_
                  exact W.vret hx hb hr (fun t ht9 hW => ⟨⟨(wA (wA (wA (wA (wA (wA u120 0 48 ((u120.1 0 48) - (1 : Int32))) 11 ((u120.1 0 12).toNatClampNeg) r129) 0 12 ((u120.1 0 12) + (1 : Int32))) 13 ((u120.1 0 15).toNatClampNeg) (20 : Int32)) 14 ((u120.1 0 15).toNatClampNeg) (0 : Int32)) 0 15 ((u120.1 0 15) + (1 : Int32))), rfl, ⟨(FG.f (FG.a (FG.a (FG.f (FG.a (FG.f (FG.tr (FG.f (FG.f (FG.rf _) ((v.1 0 47) + (1 : Int32)) (by decide)) ((v.1 0 48) + (1 : Int32)) (by decide)) (FG.up fr119 (by decide) (by decide))) ((u120.1 0 48) - (1 : Int32)) (by decide)) ((u120.1 0 12).toNatClampNeg) r129 (by decide) (by decide)) ((u120.1 0 12) + (1 : Int32)) (by decide)) ((u120.1 0 15).toNatClampNeg) (20 : Int32) (by decide) (by decide)) ((u120.1 0 15).toNatClampNeg) (0 : Int32) (by decide) (by decide)) ((u120.1 0 15) + (1 : Int32)) (by decide)), (show (v.1 0 47).toInt + 1 ≤ (u120.1 0 47).toInt ∧ (u120.1 0 47).toInt ≤ 1500 by omega), (show (v.1 0 49).toInt ≠ (v.1 0 47).toInt by omega), (show (v.1 0 12).toInt ≤ ((u120.1 0 12) + (1 : Int32)).toInt ∧ ((u120.1 0 12) + (1 : Int32)).toInt - 15 * (u120.1 0 47).toInt ≤ (v.1 0 12).toInt - 15 * (v.1 0 47).toInt by omega), (show (v.1 0 15).toInt ≤ ((u120.1 0 15) + (1 : Int32)).toInt ∧ ((u120.1 0 15) + (1 : Int32)).toInt - 10 * (u120.1 0 47).toInt ≤ (v.1 0 15).toInt - 10 * (v.1 0 47).toInt by omega), (show (v.1 0 43).toInt ≤ (u120.1 0 43).toInt ∧ (u120.1 0 43).toInt - 15 * (u120.1 0 47).toInt ≤ (v.1 0 43).toInt - 15 * (v.1 0 47).toInt by omega), (show (v.1 0 39).toInt ≤ (u120.1 0 39).toInt ∧ (u120.1 0 39).toInt - 1 * (u120.1 0 47).toInt ≤ (v.1 0 39).toInt - 1 * (v.1 0 47).toInt by omega), (show (u120.1 0 32).toInt = (v.1 0 32).toInt ∧ ((u120.1 0 48) - (1 : Int32)).toInt = (v.1 0 48).toInt by omega), (show (v.1 0 33).toInt ≤ (u120.1 0 33).toInt ∧ (u120.1 0 33).toInt ≤ 500 by omega), (fun (j9 : Nat) hj9 => (Eq.trans (pk_un (by have := cl_z (a := (u120.1 0 12).toInt) rfl (by omega); omega)) (kc119 j9 (by omega)))), (fun (j9 : Nat) hj9 => (Eq.trans (pk_un (by have := cl_z (a := (u120.1 0 15).toInt) rfl (by omega); omega)) (ko119 j9 (by omega)))), (fun (j9 : Nat) hj9 => (Eq.trans (pk_un (by have := cl_z (a := (u120.1 0 15).toInt) rfl (by omega); omega)) (kg119 j9 (by omega)))), n35119⟩, by rw [ht9]; exact hP, hD⟩, hS.F ht9⟩) hS.2.2 dX13_operand_386
                · have z142 : ((v.2 (v.1 0 47).toNatClampNeg).toInt32).toInt = 33 := eq_z rfl (show (33 : Int32).toInt = 33 by decide) h136
                  exfalso; omega
              · have z143 : ((v.2 (v.1 0 47).toNatClampNeg).toInt32).toInt = 45 := eq_z rfl (show (45 : Int32).toInt = 45 by decide) h134
                exfalso; omega
            · have z144 : ((v.2 (v.1 0 47).toNatClampNeg).toInt32).toInt = 33 := eq_z rfl (show (33 : Int32).toInt = 33 by decide) h125
              refine lv_bipush (v := 19) hx hb dX13_operand_182 (by decide) ?_
              refine lv_iconst (v := 3) hx hb dX13_operand_184 (by decide) ?_
              refine lv_bipush (v := 10) hx hb dX13_operand_185 (by decide) ?_
              refine lv_bipush (v := 10) hx hb dX13_operand_187 (by decide) ?_
              refine lv_iconst (v := 1) hx hb dX13_operand_189 (by decide) ?_
              refine cu_s (mW_nd _ _ _ _ _ _) (rn_S (n := 5) (As := [.int 19, .int 3, .int 10, .int 10, .int 1]) (rest := [.ref (ad 0)]) hx hb hml hown ht hKK hFx hP hD hS hA (c_m_byI l dC dI cI cB cZ cJ cR tb H.size (19 : Int32) (3 : Int32) (10 : Int32) (10 : Int32) (1 : Int32) ) tw_2 tw_3 (by decide +kernel) rfl rfl ⟨by show 0 + 1 ≤ 40 * n + 9; omega, by show 8 + (5 + 11) + 0 ≤ 28 * (40 * n + 9); omega⟩ [] rfl rfl rfl hl.1 rfl (Nat.le_of_ble_eq_true rfl) dX13_operand_190 ⟨Nat.le_of_ble_eq_true rfl, Nat.le_of_ble_eq_true rfl⟩) hP hD hS hA (fun r147 H locs hw145 hP hD hS => ?_)
              refine W.widen (k := 0) (n := 0) (by omega) (by omega) ?_
              refine lv_goto (tgt := 207) hx hb dX13_operand_193 (by decide) ?_
              refine cu_i (rn_V (n := 1) (As := [.int r147]) (rest := []) hx hb hml hown ht hKK hFx hP hD hS hA (c_m_emit l dC dI cI cB cZ cJ cR tb H.size ad N (wA u120 0 48 ((u120.1 0 48) - (1 : Int32))) r147 (show 0 ≤ (u120.1 0 12).toInt ∧ (u120.1 0 12).toInt < 24000 by omega)) tw_8 tw_9 (by decide +kernel) rfl rfl ⟨by show 0 + 1 ≤ 40 * n + 9; omega, by show 8 + (2 + 11) + 0 ≤ 28 * (40 * n + 9); omega⟩ (List.range (mW ad N cI cZ cJ (wA u120 0 48 ((u120.1 0 48) - (1 : Int32)))).length) (rg_map _) (mW_nd _ _ _ _ _ _) rfl rfl rfl rfl hl.1 rfl (Nat.le_of_ble_eq_true rfl) dX13_operand_207 ⟨Nat.le_of_ble_eq_true rfl, Nat.le_of_ble_eq_true rfl⟩) hP hD hS hA (fun r150 u149 H locs hw148 hP hD hS => ?_)
              obtain ⟨rfl, rfl⟩ := hw148
              have z151 : ((u120.1 0 12) + (1 : Int32)).toInt = (u120.1 0 12).toInt + 1 := add_z rfl (show (1 : Int32).toInt = 1 by decide) (by omega) (by omega)
              have hP : va_P (dC, dI) vwCl (mW ad N cI cZ cJ (wA (wA (wA u120 0 48 ((u120.1 0 48) - (1 : Int32))) 11 ((u120.1 0 12).toNatClampNeg) r147) 0 12 ((u120.1 0 12) + (1 : Int32)))) H := hP
              have hD : va_D A (mW ad N cI cZ cJ (wA (wA (wA u120 0 48 ((u120.1 0 48) - (1 : Int32))) 11 ((u120.1 0 12).toNatClampNeg) r147) 0 12 ((u120.1 0 12) + (1 : Int32)))) := hD
              refine tp_i (y := (u120.1 0 12)) (rfl) ?_
              refine W.widen (k := 0) (n := 0) (by omega) (by omega) ?_
              refine lv_pop hx hb dX13_operand_210 rfl ?_
              refine lv_aload_n hx hb dX13_operand_211 rfl (lv_at hl 1 rfl) ?_
              refine lv_iload_n hx hb dX13_operand_212 rfl (lv_at hl 0 rfl) ?_
              refine lv_bipush (v := 45) hx hb dX13_operand_213 (by decide) ?_
              refine lv_icmp_ne (tgt := 223) hx hb dX13_operand_215 (by decide) (fun h152 => ?_) (fun h152 => ?_)
              · have z153 : ((v.2 (v.1 0 47).toNatClampNeg).toInt32).toInt ≠ 45 := ne_z rfl (show (45 : Int32).toInt = 45 by decide) h152
                refine lv_iload_n hx hb dX13_operand_223 rfl (lv_at hl 0 rfl) ?_
                refine lv_bipush (v := 33) hx hb dX13_operand_224 (by decide) ?_
                refine lv_icmp_ne (tgt := 234) hx hb dX13_operand_226 (by decide) (fun h154 => ?_) (fun h154 => ?_)
                · have z155 : ((v.2 (v.1 0 47).toNatClampNeg).toInt32).toInt ≠ 33 := ne_z rfl (show (33 : Int32).toInt = 33 by decide) h154
                  exfalso; omega
                · have z156 : ((v.2 (v.1 0 47).toNatClampNeg).toInt32).toInt = 33 := eq_z rfl (show (33 : Int32).toInt = 33 by decide) h154
                  refine lv_bipush (v := 19) hx hb dX13_operand_229 (by decide) ?_
                  refine lv_goto (tgt := 236) hx hb dX13_operand_231 (by decide) ?_
                  refine lv_iconst (v := 0) hx hb dX13_operand_236 (by decide) ?_
                  refine cu_i (rn_V (n := 2) (As := [.int 19, .int 0]) (rest := []) hx hb hml hown ht hKK hFx hP hD hS hA (c_m_say l dC dI cI cB cZ cJ cR tb H.size ad N (wA (wA (wA u120 0 48 ((u120.1 0 48) - (1 : Int32))) 11 ((u120.1 0 12).toNatClampNeg) r147) 0 12 ((u120.1 0 12) + (1 : Int32))) (19 : Int32) (0 : Int32) (show 0 ≤ (u120.1 0 15).toInt ∧ (u120.1 0 15).toInt < 16000 by omega)) tw_59 tw_60 (by decide +kernel) rfl rfl ⟨by show 0 + 1 ≤ 40 * n + 9; omega, by show 8 + (3 + 11) + 0 ≤ 28 * (40 * n + 9); omega⟩ (List.range (mW ad N cI cZ cJ (wA (wA (wA u120 0 48 ((u120.1 0 48) - (1 : Int32))) 11 ((u120.1 0 12).toNatClampNeg) r147) 0 12 ((u120.1 0 12) + (1 : Int32)))).length) (rg_map _) (mW_nd _ _ _ _ _ _) rfl rfl rfl rfl hl.1 rfl (Nat.le_of_ble_eq_true rfl) dX13_operand_237 ⟨Nat.le_of_ble_eq_true rfl, Nat.le_of_ble_eq_true rfl⟩) hP hD hS hA (fun r159 u158 H locs hw157 hP hD hS => ?_)
                  obtain ⟨rfl, rfl⟩ := hw157
                  have z160 : ((u120.1 0 15) + (1 : Int32)).toInt = (u120.1 0 15).toInt + 1 := add_z rfl (show (1 : Int32).toInt = 1 by decide) (by omega) (by omega)
                  have hP : va_P (dC, dI) vwCl (mW ad N cI cZ cJ (wA (wA (wA (wA (wA (wA u120 0 48 ((u120.1 0 48) - (1 : Int32))) 11 ((u120.1 0 12).toNatClampNeg) r147) 0 12 ((u120.1 0 12) + (1 : Int32))) 13 ((u120.1 0 15).toNatClampNeg) (19 : Int32)) 14 ((u120.1 0 15).toNatClampNeg) (0 : Int32)) 0 15 ((u120.1 0 15) + (1 : Int32)))) H := hP
                  have hD : va_D A (mW ad N cI cZ cJ (wA (wA (wA (wA (wA (wA u120 0 48 ((u120.1 0 48) - (1 : Int32))) 11 ((u120.1 0 12).toNatClampNeg) r147) 0 12 ((u120.1 0 12) + (1 : Int32))) 13 ((u120.1 0 15).toNatClampNeg) (19 : Int32)) 14 ((u120.1 0 15).toNatClampNeg) (0 : Int32)) 0 15 ((u120.1 0 15) + (1 : Int32)))) := hD
                  refine tp_i (y := (u120.1 0 15)) (rfl) ?_
                  refine W.widen (k := 0) (n := 0) (by omega) (by omega) ?_
                  refine lv_pop hx hb dX13_operand_240 rfl ?_
                  refine lv_goto (tgt := 386) hx hb dX13_operand_241 (by decide) ?_
                  refine vx_ret ?_
                  exact W.vret hx hb hr (fun t ht9 hW => ⟨⟨(wA (wA (wA (wA (wA (wA u120 0 48 ((u120.1 0 48) - (1 : Int32))) 11 ((u120.1 0 12).toNatClampNeg) r147) 0 12 ((u120.1 0 12) + (1 : Int32))) 13 ((u120.1 0 15).toNatClampNeg) (19 : Int32)) 14 ((u120.1 0 15).toNatClampNeg) (0 : Int32)) 0 15 ((u120.1 0 15) + (1 : Int32))), rfl, ⟨(FG.f (FG.a (FG.a (FG.f (FG.a (FG.f (FG.tr (FG.f (FG.f (FG.rf _) ((v.1 0 47) + (1 : Int32)) (by decide)) ((v.1 0 48) + (1 : Int32)) (by decide)) (FG.up fr119 (by decide) (by decide))) ((u120.1 0 48) - (1 : Int32)) (by decide)) ((u120.1 0 12).toNatClampNeg) r147 (by decide) (by decide)) ((u120.1 0 12) + (1 : Int32)) (by decide)) ((u120.1 0 15).toNatClampNeg) (19 : Int32) (by decide) (by decide)) ((u120.1 0 15).toNatClampNeg) (0 : Int32) (by decide) (by decide)) ((u120.1 0 15) + (1 : Int32)) (by decide)), (show (v.1 0 47).toInt + 1 ≤ (u120.1 0 47).toInt ∧ (u120.1 0 47).toInt ≤ 1500 by omega), (show (v.1 0 49).toInt ≠ (v.1 0 47).toInt by omega), (show (v.1 0 12).toInt ≤ ((u120.1 0 12) + (1 : Int32)).toInt ∧ ((u120.1 0 12) + (1 : Int32)).toInt - 15 * (u120.1 0 47).toInt ≤ (v.1 0 12).toInt - 15 * (v.1 0 47).toInt by omega), (show (v.1 0 15).toInt ≤ ((u120.1 0 15) + (1 : Int32)).toInt ∧ ((u120.1 0 15) + (1 : Int32)).toInt - 10 * (u120.1 0 47).toInt ≤ (v.1 0 15).toInt - 10 * (v.1 0 47).toInt by omega), (show (v.1 0 43).toInt ≤ (u120.1 0 43).toInt ∧ (u120.1 0 43).toInt - 15 * (u120.1 0 47).toInt ≤ (v.1 0 43).toInt - 15 * (v.1 0 47).toInt by omega), (show (v.1 0 39).toInt ≤ (u120.1 0 39).toInt ∧ (u120.1 0 39).toInt - 1 * (u120.1 0 47).toInt ≤ (v.1 0 39).toInt - 1 * (v.1 0 47).toInt by omega), (show (u120.1 0 32).toInt = (v.1 0 32).toInt ∧ ((u120.1 0 48) - (1 : Int32)).toInt = (v.1 0 48).toInt by omega), (show (v.1 0 33).toInt ≤ (u120.1 0 33).toInt ∧ (u120.1 0 33).toInt ≤ 500 by omega), (fun (j9 : Nat) hj9 => (Eq.trans (pk_un (by have := cl_z (a := (u120.1 0 12).toInt) rfl (by omega); omega)) (kc119 j9 (by omega)))), (fun (j9 : Nat) hj9 => (Eq.trans (pk_un (by have := cl_z (a := (u120.1 0 15).toInt) rfl (by omega); omega)) (ko119 j9 (by omega)))), (fun (j9 : Nat) hj9 => (Eq.trans (pk_un (by have := cl_z (a := (u120.1 0 15).toInt) rfl (by omega); omega)) (kg119 j9 (by omega)))), n35119⟩, by rw [ht9]; exact hP, hD⟩, hS.F ht9⟩) hS.2.2 dX13_operand_386
              · have z161 : ((v.2 (v.1 0 47).toNatClampNeg).toInt32).toInt = 45 := eq_z rfl (show (45 : Int32).toInt = 45 by decide) h152
                exfalso; omega
          · have z162 : ((v.2 (v.1 0 47).toNatClampNeg).toInt32).toInt = 45 := eq_z rfl (show (45 : Int32).toInt = 45 by decide) h123
            refine lv_bipush (v := 32) hx hb dX13_operand_162 (by decide) ?_
            refine lv_iconst (v := 0) hx hb dX13_operand_164 (by decide) ?_
            refine lv_bipush (v := 10) hx hb dX13_operand_165 (by decide) ?_
            refine lv_iconst (v := 0) hx hb dX13_operand_167 (by decide) ?_
            refine lv_bipush (v := 10) hx hb dX13_operand_168 (by decide) ?_
            refine cu_s (mW_nd _ _ _ _ _ _) (rn_S (n := 5) (As := [.int 32, .int 0, .int 10, .int 0, .int 10]) (rest := [.ref (ad 0)]) hx hb hml hown ht hKK hFx hP hD hS hA (c_m_byR l dC dI cI cB cZ cJ cR tb H.size (32 : Int32) (0 : Int32) (10 : Int32) (0 : Int32) (10 : Int32) ) tw_67 tw_68 (by decide +kernel) rfl rfl ⟨by show 0 + 1 ≤ 40 * n + 9; omega, by show 8 + (5 + 11) + 0 ≤ 28 * (40 * n + 9); omega⟩ [] rfl rfl rfl hl.1 rfl (Nat.le_of_ble_eq_true rfl) dX13_operand_170 ⟨Nat.le_of_ble_eq_true rfl, Nat.le_of_ble_eq_true rfl⟩) hP hD hS hA (fun r165 H locs hw163 hP hD hS => ?_)
            refine W.widen (k := 0) (n := 0) (by omega) (by omega) ?_
            refine lv_goto (tgt := 207) hx hb dX13_operand_173 (by decide) ?_
            refine cu_i (rn_V (n := 1) (As := [.int r165]) (rest := []) hx hb hml hown ht hKK hFx hP hD hS hA (c_m_emit l dC dI cI cB cZ cJ cR tb H.size ad N (wA u120 0 48 ((u120.1 0 48) - (1 : Int32))) r165 (show 0 ≤ (u120.1 0 12).toInt ∧ (u120.1 0 12).toInt < 24000 by omega)) tw_8 tw_9 (by decide +kernel) rfl rfl ⟨by show 0 + 1 ≤ 40 * n + 9; omega, by show 8 + (2 + 11) + 0 ≤ 28 * (40 * n + 9); omega⟩ (List.range (mW ad N cI cZ cJ (wA u120 0 48 ((u120.1 0 48) - (1 : Int32)))).length) (rg_map _) (mW_nd _ _ _ _ _ _) rfl rfl rfl rfl hl.1 rfl (Nat.le_of_ble_eq_true rfl) dX13_operand_207 ⟨Nat.le_of_ble_eq_true rfl, Nat.le_of_ble_eq_true rfl⟩) hP hD hS hA (fun r168 u167 H locs hw166 hP hD hS => ?_)
            obtain ⟨rfl, rfl⟩ := hw166
            have z169 : ((u120.1 0 12) + (1 : Int32)).toInt = (u120.1 0 12).toInt + 1 := add_z rfl (show (1 : Int32).toInt = 1 by decide) (by omega) (by omega)
            have hP : va_P (dC, dI) vwCl (mW ad N cI cZ cJ (wA (wA (wA u120 0 48 ((u120.1 0 48) - (1 : Int32))) 11 ((u120.1 0 12).toNatClampNeg) r165) 0 12 ((u120.1 0 12) + (1 : Int32)))) H := hP
            have hD : va_D A (mW ad N cI cZ cJ (wA (wA (wA u120 0 48 ((u120.1 0 48) - (1 : Int32))) 11 ((u120.1 0 12).toNatClampNeg) r165) 0 12 ((u120.1 0 12) + (1 : Int32)))) := hD
            refine tp_i (y := (u120.1 0 12)) (rfl) ?_
            refine W.widen (k := 0) (n := 0) (by omega) (by omega) ?_
            refine lv_pop hx hb dX13_operand_210 rfl ?_
            refine lv_aload_n hx hb dX13_operand_211 rfl (lv_at hl 1 rfl) ?_
            refine lv_iload_n hx hb dX13_operand_212 rfl (lv_at hl 0 rfl) ?_
            refine lv_bipush (v := 45) hx hb dX13_operand_213 (by decide) ?_
            refine lv_icmp_ne (tgt := 223) hx hb dX13_operand_215 (by decide) (fun h170 => ?_) (fun h170 => ?_)
            · have z171 : ((v.2 (v.1 0 47).toNatClampNeg).toInt32).toInt ≠ 45 := ne_z rfl (show (45 : Int32).toInt = 45 by decide) h170
              exfalso; omega
            · have z172 : ((v.2 (v.1 0 47).toNatClampNeg).toInt32).toInt = 45 := eq_z rfl (show (45 : Int32).toInt = 45 by decide) h170
              refine lv_bipush (v := 18) hx hb dX13_operand_218 (by decide) ?_
              refine lv_goto (tgt := 236) hx hb dX13_operand_220 (by decide) ?_
              refine lv_iconst (v := 0) hx hb dX13_operand_236 (by decide) ?_
              refine cu_i (rn_V (n := 2) (As := [.int 18, .int 0]) (rest := []) hx hb hml hown ht hKK hFx hP hD hS hA (c_m_say l dC dI cI cB cZ cJ cR tb H.size ad N (wA (wA (wA u120 0 48 ((u120.1 0 48) - (1 : Int32))) 11 ((u120.1 0 12).toNatClampNeg) r165) 0 12 ((u120.1 0 12) + (1 : Int32))) (18 : Int32) (0 : Int32) (show 0 ≤ (u120.1 0 15).toInt ∧ (u120.1 0 15).toInt < 16000 by omega)) tw_59 tw_60 (by decide +kernel) rfl rfl ⟨by show 0 + 1 ≤ 40 * n + 9; omega, by show 8 + (3 + 11) + 0 ≤ 28 * (40 * n + 9); omega⟩ (List.range (mW ad N cI cZ cJ (wA (wA (wA u120 0 48 ((u120.1 0 48) - (1 : Int32))) 11 ((u120.1 0 12).toNatClampNeg) r165) 0 12 ((u120.1 0 12) + (1 : Int32)))).length) (rg_map _) (mW_nd _ _ _ _ _ _) rfl rfl rfl rfl hl.1 rfl (Nat.le_of_ble_eq_true rfl) dX13_operand_237 ⟨Nat.le_of_ble_eq_true rfl, Nat.le_of_ble_eq_true rfl⟩) hP hD hS hA (fun r175 u174 H locs hw173 hP hD hS => ?_)
              obtain ⟨rfl, rfl⟩ := hw173
              have z176 : ((u120.1 0 15) + (1 : Int32)).toInt = (u120.1 0 15).toInt + 1 := add_z rfl (show (1 : Int32).toInt = 1 by decide) (by omega) (by omega)
              have hP : va_P (dC, dI) vwCl (mW ad N cI cZ cJ (wA (wA (wA (wA (wA (wA u120 0 48 ((u120.1 0 48) - (1 : Int32))) 11 ((u120.1 0 12).toNatClampNeg) r165) 0 12 ((u120.1 0 12) + (1 : Int32))) 13 ((u120.1 0 15).toNatClampNeg) (18 : Int32)) 14 ((u120.1 0 15).toNatClampNeg) (0 : Int32)) 0 15 ((u120.1 0 15) + (1 : Int32)))) H := hP
              have hD : va_D A (mW ad N cI cZ cJ (wA (wA (wA (wA (wA (wA u120 0 48 ((u120.1 0 48) - (1 : Int32))) 11 ((u120.1 0 12).toNatClampNeg) r165) 0 12 ((u120.1 0 12) + (1 : Int32))) 13 ((u120.1 0 15).toNatClampNeg) (18 : Int32)) 14 ((u120.1 0 15).toNatClampNeg) (0 : Int32)) 0 15 ((u120.1 0 15) + (1 : Int32)))) := hD
              refine tp_i (y := (u120.1 0 15)) (rfl) ?_
              refine W.widen (k := 0) (n := 0) (by omega) (by omega) ?_
              refine lv_pop hx hb dX13_operand_240 rfl ?_
              refine lv_goto (tgt := 386) hx hb dX13_operand_241 (by decide) ?_
              refine vx_ret ?_
              exact W.vret hx hb hr (fun t ht9 hW => ⟨⟨(wA (wA (wA (wA (wA (wA u120 0 48 ((u120.1 0 48) - (1 : Int32))) 11 ((u120.1 0 12).toNatClampNeg) r165) 0 12 ((u120.1 0 12) + (1 : Int32))) 13 ((u120.1 0 15).toNatClampNeg) (18 : Int32)) 14 ((u120.1 0 15).toNatClampNeg) (0 : Int32)) 0 15 ((u120.1 0 15) + (1 : Int32))), rfl, ⟨(FG.f (FG.a (FG.a (FG.f (FG.a (FG.f (FG.tr (FG.f (FG.f (FG.rf _) ((v.1 0 47) + (1 : Int32)) (by decide)) ((v.1 0 48) + (1 : Int32)) (by decide)) (FG.up fr119 (by decide) (by decide))) ((u120.1 0 48) - (1 : Int32)) (by decide)) ((u120.1 0 12).toNatClampNeg) r165 (by decide) (by decide)) ((u120.1 0 12) + (1 : Int32)) (by decide)) ((u120.1 0 15).toNatClampNeg) (18 : Int32) (by decide) (by decide)) ((u120.1 0 15).toNatClampNeg) (0 : Int32) (by decide) (by decide)) ((u120.1 0 15) + (1 : Int32)) (by decide)), (show (v.1 0 47).toInt + 1 ≤ (u120.1 0 47).toInt ∧ (u120.1 0 47).toInt ≤ 1500 by omega), (show (v.1 0 49).toInt ≠ (v.1 0 47).toInt by omega), (show (v.1 0 12).toInt ≤ ((u120.1 0 12) + (1 : Int32)).toInt ∧ ((u120.1 0 12) + (1 : Int32)).toInt - 15 * (u120.1 0 47).toInt ≤ (v.1 0 12).toInt - 15 * (v.1 0 47).toInt by omega), (show (v.1 0 15).toInt ≤ ((u120.1 0 15) + (1 : Int32)).toInt ∧ ((u120.1 0 15) + (1 : Int32)).toInt - 10 * (u120.1 0 47).toInt ≤ (v.1 0 15).toInt - 10 * (v.1 0 47).toInt by omega), (show (v.1 0 43).toInt ≤ (u120.1 0 43).toInt ∧ (u120.1 0 43).toInt - 15 * (u120.1 0 47).toInt ≤ (v.1 0 43).toInt - 15 * (v.1 0 47).toInt by omega), (show (v.1 0 39).toInt ≤ (u120.1 0 39).toInt ∧ (u120.1 0 39).toInt - 1 * (u120.1 0 47).toInt ≤ (v.1 0 39).toInt - 1 * (v.1 0 47).toInt by omega), (show (u120.1 0 32).toInt = (v.1 0 32).toInt ∧ ((u120.1 0 48) - (1 : Int32)).toInt = (v.1 0 48).toInt by omega), (show (v.1 0 33).toInt ≤ (u120.1 0 33).toInt ∧ (u120.1 0 33).toInt ≤ 500 by omega), (fun (j9 : Nat) hj9 => (Eq.trans (pk_un (by have := cl_z (a := (u120.1 0 12).toInt) rfl (by omega); omega)) (kc119 j9 (by omega)))), (fun (j9 : Nat) hj9 => (Eq.trans (pk_un (by have := cl_z (a := (u120.1 0 15).toInt) rfl (by omega); omega)) (ko119 j9 (by omega)))), (fun (j9 : Nat) hj9 => (Eq.trans (pk_un (by have := cl_z (a := (u120.1 0 15).toInt) rfl (by omega); omega)) (kg119 j9 (by omega)))), n35119⟩, by rw [ht9]; exact hP, hD⟩, hS.F ht9⟩) hS.2.2 dX13_operand_386
        · have z177 : r109.toInt = 0 := eq_z rfl (show (0 : Int32).toInt = 0 by decide) h110
          refine lv_aload_n hx hb dX13_operand_117 rfl (lv_at hl 0 rfl) ?_
          refine lv_bipush (v := 126) hx hb dX13_operand_118 (by decide) ?_
          refine cu_i (rn_V (n := 1) (As := [.int 126]) (rest := []) hx hb hml hown ht hKK hFx hP hD hS hA (c_m_is l dC dI cI cB cZ cJ cR tb H.size ad N v (126 : Int32) (show 0 ≤ (v.1 0 47).toInt ∧ (v.1 0 47).toInt ≤ 1500 by omega)) tw_34 tw_35 (by decide +kernel) rfl rfl ⟨by show 1 + 1 ≤ 40 * n + 9; omega, by show 8 + (2 + 11) + 22 ≤ 28 * (40 * n + 9); omega⟩ (List.range (mW ad N cI cZ cJ v).length) (rg_map _) (mW_nd _ _ _ _ _ _) rfl rfl rfl rfl hl.1 rfl (Nat.le_of_ble_eq_true rfl) dX13_operand_120 ⟨Nat.le_of_ble_eq_true rfl, Nat.le_of_ble_eq_true rfl⟩) hP hD hS hA (fun r180 u179 H locs hw178 hP hD hS => ?_)
          obtain ⟨rfl, b178⟩ := hw178
          refine W.widen (k := 0) (n := 0) (by omega) (by omega) ?_
          refine lv_if_eq (tgt := 244) hx hb dX13_operand_123 (by decide) (fun h181 => ?_) (fun h181 => ?_)
          · have z182 : r180.toInt = 0 := eq_z rfl (show (0 : Int32).toInt = 0 by decide) h181
            refine lv_aload_n hx hb dX13_operand_244 rfl (lv_at hl 0 rfl) ?_
            refine lv_bipush (v := 40) hx hb dX13_operand_245 (by decide) ?_
            refine cu_i (rn_V (n := 1) (As := [.int 40]) (rest := []) hx hb hml hown ht hKK hFx hP hD hS hA (c_m_is l dC dI cI cB cZ cJ cR tb H.size ad N v (40 : Int32) (show 0 ≤ (v.1 0 47).toInt ∧ (v.1 0 47).toInt ≤ 1500 by omega)) tw_34 tw_35 (by decide +kernel) rfl rfl ⟨by show 1 + 1 ≤ 40 * n + 9; omega, by show 8 + (2 + 11) + 22 ≤ 28 * (40 * n + 9); omega⟩ (List.range (mW ad N cI cZ cJ v).length) (rg_map _) (mW_nd _ _ _ _ _ _) rfl rfl rfl rfl hl.1 rfl (Nat.le_of_ble_eq_true rfl) dX13_operand_247 ⟨Nat.le_of_ble_eq_true rfl, Nat.le_of_ble_eq_true rfl⟩) hP hD hS hA (fun r185 u184 H locs hw183 hP hD hS => ?_)
            obtain ⟨rfl, b183⟩ := hw183
            refine W.widen (k := 0) (n := 0) (by omega) (by omega) ?_
            refine lv_if_eq (tgt := 270) hx hb dX13_operand_250 (by decide) (fun h186 => ?_) (fun h186 => ?_)
            · have z187 : r185.toInt = 0 := eq_z rfl (show (0 : Int32).toInt = 0 by decide) h186
              refine lv_aload_n hx hb dX13_operand_270 rfl (lv_at hl 0 rfl) ?_
              refine lv_bipush (v := 10) hx hb dX13_operand_271 (by decide) ?_
              refine cu_i (rn_V (n := 1) (As := [.int 10]) (rest := []) hx hb hml hown ht hKK hFx hP hD hS hA (c_m_isKey l dC dI cI cB cZ cJ cR tb H.size ad N v (10 : Int32) (show 0 ≤ (v.1 0 47).toInt ∧ (v.1 0 47).toInt ≤ 1500 by omega)) tw_116 tw_117 (by decide +kernel) rfl rfl ⟨by show 0 + 1 ≤ 40 * n + 9; omega, by show 8 + (2 + 11) + 0 ≤ 28 * (40 * n + 9); omega⟩ (List.range (mW ad N cI cZ cJ v).length) (rg_map _) (mW_nd _ _ _ _ _ _) rfl rfl rfl rfl hl.1 rfl (Nat.le_of_ble_eq_true rfl) dX13_operand_273 ⟨Nat.le_of_ble_eq_true rfl, Nat.le_of_ble_eq_true rfl⟩) hP hD hS hA (fun r190 u189 H locs hw188 hP hD hS => ?_)
              obtain ⟨rfl, b188⟩ := hw188
              refine W.widen (k := 0) (n := 0) (by omega) (by omega) ?_
              refine lv_if_eq (tgt := 325) hx hb dX13_operand_276 (by decide) (fun h191 => ?_) (fun h191 => ?_)
              · have z192 : r190.toInt = 0 := eq_z rfl (show (0 : Int32).toInt = 0 by decide) h191
                refine lv_aload_n hx hb dX13_operand_325 rfl (lv_at hl 0 rfl) ?_
                refine va_get (D := (dC, dI)) (ci := 16) (fs := mF ad v) (v := .ref (ad 6)) (C := RX13) (T := TX13) (N := 124) hx hb ht itX13 hown hK hP 0 rfl rfl 6 (by decide) (ht _ tw_23) (fun _ h9 => h9) rfl dX13_operand_326 ?_
                refine lv_aload_n hx hb dX13_operand_329 rfl (lv_at hl 0 rfl) ?_
                refine va_get (D := (dC, dI)) (ci := 16) (fs := mF ad v) (v := .int (v.1 0 47)) (C := RX13) (T := TX13) (N := 124) hx hb ht itX13 hown hK hP 0 rfl rfl 47 (by decide) (ht _ tw_24) (fun _ h9 => h9) rfl dX13_operand_330 ?_
                refine va_iald (D := (dC, dI)) (f := (v.1 6)) hx hb hK hP 3 0 rfl rfl (in_z (a := (v.1 0 47).toInt) rfl (by omega) (by omega)) dX13_operand_333 ?_
                refine lv_iconst (v := 2) hx hb dX13_operand_334 (by decide) ?_
                refine lv_icmp_ne (tgt := 360) hx hb dX13_operand_335 (by decide) (fun h193 => ?_) (fun h193 => ?_)
                · have z194 : ((v.1 6) (v.1 0 47).toNatClampNeg).toInt ≠ 2 := ne_z rfl (show (2 : Int32).toInt = 2 by decide) h193
                  refine lv_aload_n hx hb dX13_operand_360 rfl (lv_at hl 0 rfl) ?_
                  refine va_get (D := (dC, dI)) (ci := 16) (fs := mF ad v) (v := .ref (ad 6)) (C := RX13) (T := TX13) (N := 124) hx hb ht itX13 hown hK hP 0 rfl rfl 6 (by decide) (ht _ tw_23) (fun _ h9 => h9) rfl dX13_operand_361 ?_
                  refine lv_aload_n hx hb dX13_operand_364 rfl (lv_at hl 0 rfl) ?_
                  refine va_get (D := (dC, dI)) (ci := 16) (fs := mF ad v) (v := .int (v.1 0 47)) (C := RX13) (T := TX13) (N := 124) hx hb ht itX13 hown hK hP 0 rfl rfl 47 (by decide) (ht _ tw_24) (fun _ h9 => h9) rfl dX13_operand_365 ?_
                  refine va_iald (D := (dC, dI)) (f := (v.1 6)) hx hb hK hP 3 0 rfl rfl (in_z (a := (v.1 0 47).toInt) rfl (by omega) (by omega)) dX13_operand_368 ?_
                  refine lv_iconst (v := 2) hx hb dX13_operand_369 (by decide) ?_
                  refine lv_icmp_ne (tgt := 381) hx hb dX13_operand_370 (by decide) (fun h195 => ?_) (fun h195 => ?_)
                  · have z196 : ((v.1 6) (v.1 0 47).toNatClampNeg).toInt ≠ 2 := ne_z rfl (show (2 : Int32).toInt = 2 by decide) h195
                    refine lv_aload_n hx hb dX13_operand_381 rfl (lv_at hl 0 rfl) ?_
                    refine cu_r (rn_V (n := 0) (As := []) (rest := []) hx hb hml hown ht hKK hFx hP hD hS hA (c_m_bad l dC dI cI cB cZ cJ cR tb H.size ad N v  (show 0 ≤ (v.1 0 47).toInt ∧ (v.1 0 47).toInt ≤ 1500 by omega)) tw_36 tw_37 (by decide +kernel) rfl rfl ⟨by show 1 + 1 ≤ 40 * n + 9; omega, by show 8 + (1 + 11) + 22 ≤ 28 * (40 * n + 9); omega⟩ (List.range (mW ad N cI cZ cJ v).length) (rg_map _) (mW_nd _ _ _ _ _ _) rfl rfl rfl rfl hl.1 rfl (Nat.le_of_ble_eq_true rfl) dX13_operand_382 ⟨Nat.le_of_ble_eq_true rfl, Nat.le_of_ble_eq_true rfl⟩) hP hD hS hA (fun u198 H locs hw197 hP hD hS => ?_)
                    have fr197 := hw197
                    have q197_2 : (u198.1 0 2).toInt = (v.1 0 2).toInt := congrArg Int32.toInt ((fr197.2.1 2 (by decide)).trans (show v.1 0 2 = (v.1 0 2) by rfl))
                    have q197_4 : (u198.1 0 4).toInt = (v.1 0 4).toInt := congrArg Int32.toInt ((fr197.2.1 4 (by decide)).trans (show v.1 0 4 = (v.1 0 4) by rfl))
                    refine W.widen (k := 0) (n := 0) (by omega) (by omega) ?_
                    obtain ⟨ce9, hc9, hv9, hf9⟩ := halt_at hK hP
                    refine um_athrow hx hb dX13_operand_385 ?_
                    exact vx_out (fun x h9 => (hnt x h9).elim) hlocks hc9 hv9 hf9 (fun t9 ht9 hv8 => ⟨u198, (FG.tr (FG.rf _) (FG.up fr197 (by decide) (by decide))), ⟨rfl, by rw [ht9]; exact hP, hD⟩, hS.F ht9⟩) hS.2.2 (by omega) (by omega)
                  · have z200 : ((v.1 6) (v.1 0 47).toNatClampNeg).toInt = 2 := eq_z rfl (show (2 : Int32).toInt = 2 by decide) h195
                    exfalso; omega
                · have z201 : ((v.1 6) (v.1 0 47).toNatClampNeg).toInt = 2 := eq_z rfl (show (2 : Int32).toInt = 2 by decide) h193
                  refine lv_aload_n hx hb dX13_operand_338 rfl (lv_at hl 0 rfl) ?_
                  refine lv_aload_n hx hb dX13_operand_339 rfl (lv_at hl 0 rfl) ?_
                  refine va_get (D := (dC, dI)) (ci := 16) (fs := mF ad v) (v := .int (v.1 0 47)) (C := RX13) (T := TX13) (N := 124) hx hb ht itX13 hown hK hP 0 rfl rfl 47 (by decide) (ht _ tw_24) (fun _ h9 => h9) rfl dX13_operand_340 ?_
                  refine lv_iconst (v := 1) hx hb dX13_operand_343 (by decide) ?_
                  refine lv_iadd hx hb dX13_operand_344 ?_
                  have z202 : ((v.1 0 47) + (1 : Int32)).toInt = (v.1 0 47).toInt + 1 := add_z rfl (show (1 : Int32).toInt = 1 by decide) (by omega) (by omega)
                  refine lv_bipush (v := 40) hx hb dX13_operand_345 (by decide) ?_
                  refine cu_i (rn_V (n := 2) (As := [.int ((v.1 0 47) + (1 : Int32)), .int 40]) (rest := []) hx hb hml hown ht hKK hFx hP hD hS hA (c_m_isSign l dC dI cI cB cZ cJ cR tb H.size ad N v ((v.1 0 47) + (1 : Int32)) (40 : Int32) (show 0 ≤ ((v.1 0 47) + (1 : Int32)).toInt ∧ ((v.1 0 47) + (1 : Int32)).toInt < 4002 by omega)) tw_28 tw_29 (by decide +kernel) rfl rfl ⟨by show 0 + 1 ≤ 40 * n + 9; omega, by show 8 + (3 + 11) + 0 ≤ 28 * (40 * n + 9); omega⟩ (List.range (mW ad N cI cZ cJ v).length) (rg_map _) (mW_nd _ _ _ _ _ _) rfl rfl rfl rfl hl.1 rfl (Nat.le_of_ble_eq_true rfl) dX13_operand_347 ⟨Nat.le_of_ble_eq_true rfl, Nat.le_of_ble_eq_true rfl⟩) hP hD hS hA (fun r205 u204 H locs hw203 hP hD hS => ?_)
                  obtain ⟨rfl, b203⟩ := hw203
                  refine W.widen (k := 0) (n := 0) (by omega) (by omega) ?_
                  refine lv_if_eq (tgt := 360) hx hb dX13_operand_350 (by decide) (fun h206 => ?_) (fun h206 => ?_)
                  · have z207 : r205.toInt = 0 := eq_z rfl (show (0 : Int32).toInt = 0 by decide) h206
                    refine lv_aload_n hx hb dX13_operand_360 rfl (lv_at hl 0 rfl) ?_
                    refine va_get (D := (dC, dI)) (ci := 16) (fs := mF ad v) (v := .ref (ad 6)) (C := RX13) (T := TX13) (N := 124) hx hb ht itX13 hown hK hP 0 rfl rfl 6 (by decide) (ht _ tw_23) (fun _ h9 => h9) rfl dX13_operand_361 ?_
                    refine lv_aload_n hx hb dX13_operand_364 rfl (lv_at hl 0 rfl) ?_
                    refine va_get (D := (dC, dI)) (ci := 16) (fs := mF ad v) (v := .int (v.1 0 47)) (C := RX13) (T := TX13) (N := 124) hx hb ht itX13 hown hK hP 0 rfl rfl 47 (by decide) (ht _ tw_24) (fun _ h9 => h9) rfl dX13_operand_365 ?_
                    refine va_iald (D := (dC, dI)) (f := (v.1 6)) hx hb hK hP 3 0 rfl rfl (in_z (a := (v.1 0 47).toInt) rfl (by omega) (by omega)) dX13_operand_368 ?_
                    refine lv_iconst (v := 2) hx hb dX13_operand_369 (by decide) ?_
                    refine lv_icmp_ne (tgt := 381) hx hb dX13_operand_370 (by decide) (fun h208 => ?_) (fun h208 => ?_)
                    · have z209 : ((v.1 6) (v.1 0 47).toNatClampNeg).toInt ≠ 2 := ne_z rfl (show (2 : Int32).toInt = 2 by decide) h208
                      exfalso; omega
                    · have z210 : ((v.1 6) (v.1 0 47).toNatClampNeg).toInt = 2 := eq_z rfl (show (2 : Int32).toInt = 2 by decide) h208
                      refine lv_aload_n hx hb dX13_operand_373 rfl (lv_at hl 0 rfl) ?_
                      refine lv_iconst (v := 0) hx hb dX13_operand_374 (by decide) ?_
                      refine cux_v (rx_V (n := 1) (As := [.int 0]) (rest := []) hx hb hml hown ht hKK hFx hP hD hS hA (c_m_named0 l n ihE dC dI cI cB cZ cJ cR tb H.size ad N v  (show 40 ≤ (v.1 0 48).toInt + (n : Int) by omega) (show 0 ≤ (v.1 0 47).toInt ∧ (v.1 0 47).toInt ≤ 1500 by omega) (show 0 ≤ (v.1 0 48).toInt ∧ (v.1 0 48).toInt ≤ 40 by omega) (show 0 ≤ (v.1 0 30).toInt ∧ (v.1 0 30).toInt ≤ 500 by omega) (show 0 ≤ (v.1 0 33).toInt ∧ (v.1 0 33).toInt ≤ 500 by omega) (show 0 ≤ (v.1 0 32).toInt ∧ (v.1 0 30).toInt + (v.1 0 32).toInt ≤ 500 by omega) (show 0 ≤ (v.1 0 12).toInt ∧ (v.1 0 12).toInt ≤ 15 * (v.1 0 47).toInt + 2 by omega) (show 0 ≤ (v.1 0 15).toInt ∧ (v.1 0 15).toInt ≤ 10 * (v.1 0 47).toInt + 0 by omega) (show 0 ≤ (v.1 0 43).toInt ∧ (v.1 0 43).toInt ≤ 15 * (v.1 0 47).toInt + 0 by omega) (show 0 ≤ (v.1 0 39).toInt ∧ (v.1 0 39).toInt ≤ 1 * (v.1 0 47).toInt + 0 by omega) (show 0 ≤ (v.1 0 27).toInt ∧ (v.1 0 27).toInt ≤ 60 by omega) (FG.ti (fl := pfl) (al := pal) (FG.rf _) (by decide) (by decide) hT) (n29) (n23) (n35)) tw_118 tw_119 (by decide +kernel) rfl rfl ⟨by show (40 * n + 8) + 1 ≤ 40 * n + 9; omega, by show 8 + (7 + 11) + 28 * (40 * n + 8) ≤ 28 * (40 * n + 9); omega⟩ (List.range (mW ad N cI cZ cJ v).length) (rg_map _) (mW_nd _ _ _ _ _ _) rfl rfl rfl rfl hl.1 rfl (Nat.le_of_ble_eq_true rfl) dX13_operand_375 ⟨Nat.le_of_ble_eq_true rfl, Nat.le_of_ble_eq_true rfl⟩) hP hD hS hA (fun u9 ce9 q9 H locs hx9 hP hD hS hc9 hv9 hf9 => ?_) (fun u212 H locs hw211 hP hD hS => ?_)
                      · exact vx_out (fun x h9 => (hnt x h9).elim) hlocks hc9 hv9 hf9 (fun t9 ht9 hv8 => ⟨u9, (FG.tr (FG.rf _) hx9), ⟨rfl, by rw [ht9]; exact hP, hD⟩, hS.F ht9⟩) hS.2.2 (by omega) (by omega)
                      obtain ⟨fr211, pt211, pb211, pw211, po211, pf211, pk211, pp211, ph211, kc211, ko211, kg211, n35211⟩ := hw211
                      have q211_2 : (u212.1 0 2).toInt = (v.1 0 2).toInt := congrArg Int32.toInt ((fr211.2.1 2 (by decide)).trans (show v.1 0 2 = (v.1 0 2) by rfl))
                      have q211_4 : (u212.1 0 4).toInt = (v.1 0 4).toInt := congrArg Int32.toInt ((fr211.2.1 4 (by decide)).trans (show v.1 0 4 = (v.1 0 4) by rfl))
                      have q211_5 : (u212.1 0 5).toInt = (v.1 0 5).toInt := congrArg Int32.toInt ((fr211.2.1 5 (by decide)).trans (show v.1 0 5 = (v.1 0 5) by rfl))
                      have q211_22 : (u212.1 0 22).toInt = (v.1 0 22).toInt := congrArg Int32.toInt ((fr211.2.1 22 (by decide)).trans (show v.1 0 22 = (v.1 0 22) by rfl))
                      have q211_27 : (u212.1 0 27).toInt = (v.1 0 27).toInt := congrArg Int32.toInt ((fr211.2.1 27 (by decide)).trans (show v.1 0 27 = (v.1 0 27) by rfl))
                      have q211_28 : (u212.1 0 28).toInt = (v.1 0 28).toInt := congrArg Int32.toInt ((fr211.2.1 28 (by decide)).trans (show v.1 0 28 = (v.1 0 28) by rfl))
                      have q211_30 : (u212.1 0 30).toInt = (v.1 0 30).toInt := congrArg Int32.toInt ((fr211.2.1 30 (by decide)).trans (show v.1 0 30 = (v.1 0 30) by rfl))
                      have q211_31 : (u212.1 0 31).toInt = (v.1 0 31).toInt := congrArg Int32.toInt ((fr211.2.1 31 (by decide)).trans (show v.1 0 31 = (v.1 0 31) by rfl))
                      have q211_34 : (u212.1 0 34).toInt = (v.1 0 34).toInt := congrArg Int32.toInt ((fr211.2.1 34 (by decide)).trans (show v.1 0 34 = (v.1 0 34) by rfl))
                      have q211_52 : (u212.1 0 52).toInt = (v.1 0 52).toInt := congrArg Int32.toInt ((fr211.2.1 52 (by decide)).trans (show v.1 0 52 = (v.1 0 52) by rfl))
                      refine W.widen (k := 0) (n := 0) (by omega) (by omega) ?_
                      refine lv_goto (tgt := 386) hx hb dX13_operand_378 (by decide) ?_
                      refine vx_ret ?_
                      exact W.vret hx hb hr (fun t ht9 hW => ⟨⟨u212, rfl, ⟨(FG.tr (FG.rf _) (FG.up fr211 (by decide) (by decide))), (show (v.1 0 47).toInt + 1 ≤ (u212.1 0 47).toInt ∧ (u212.1 0 47).toInt ≤ 1500 by omega), (show (v.1 0 49).toInt ≠ (v.1 0 47).toInt by omega), (show (v.1 0 12).toInt ≤ (u212.1 0 12).toInt ∧ (u212.1 0 12).toInt - 15 * (u212.1 0 47).toInt ≤ (v.1 0 12).toInt - 15 * (v.1 0 47).toInt by omega), (show (v.1 0 15).toInt ≤ (u212.1 0 15).toInt ∧ (u212.1 0 15).toInt - 10 * (u212.1 0 47).toInt ≤ (v.1 0 15).toInt - 10 * (v.1 0 47).toInt by omega), (show (v.1 0 43).toInt ≤ (u212.1 0 43).toInt ∧ (u212.1 0 43).toInt - 15 * (u212.1 0 47).toInt ≤ (v.1 0 43).toInt - 15 * (v.1 0 47).toInt by omega), (show (v.1 0 39).toInt ≤ (u212.1 0 39).toInt ∧ (u212.1 0 39).toInt - 1 * (u212.1 0 47).toInt ≤ (v.1 0 39).toInt - 1 * (v.1 0 47).toInt by omega), (show (u212.1 0 32).toInt = (v.1 0 32).toInt ∧ (u212.1 0 48).toInt = (v.1 0 48).toInt by omega), (show (v.1 0 33).toInt ≤ (u212.1 0 33).toInt ∧ (u212.1 0 33).toInt ≤ 500 by omega), (fun (j9 : Nat) hj9 => (kc211 j9 (by omega))), (fun (j9 : Nat) hj9 => (ko211 j9 (by omega))), (fun (j9 : Nat) hj9 => (kg211 j9 (by omega))), n35211⟩, by rw [ht9]; exact hP, hD⟩, hS.F ht9⟩) hS.2.2 dX13_operand_386
                  · have z214 : r205.toInt ≠ 0 := ne_z rfl (show (0 : Int32).toInt = 0 by decide) h206
                    refine lv_aload_n hx hb dX13_operand_353 rfl (lv_at hl 0 rfl) ?_
                    refine cux_v (rx_V (n := 0) (As := []) (rest := []) hx hb hml hown ht hKK hFx hP hD hS hA (c_m_call l n ihE dC dI cI cB cZ cJ cR tb H.size ad N v  (show 40 ≤ (v.1 0 48).toInt + (n : Int) by omega) (show 0 ≤ (v.1 0 47).toInt ∧ (v.1 0 47).toInt ≤ 1500 by omega) (show 0 ≤ (v.1 0 48).toInt ∧ (v.1 0 48).toInt ≤ 40 by omega) (show 0 ≤ (v.1 0 30).toInt ∧ (v.1 0 30).toInt ≤ 500 by omega) (show 0 ≤ (v.1 0 33).toInt ∧ (v.1 0 33).toInt ≤ 500 by omega) (show 0 ≤ (v.1 0 32).toInt ∧ (v.1 0 30).toInt + (v.1 0 32).toInt ≤ 500 by omega) (show 0 ≤ (v.1 0 12).toInt ∧ (v.1 0 12).toInt ≤ 15 * (v.1 0 47).toInt + 2 by omega) (show 0 ≤ (v.1 0 15).toInt ∧ (v.1 0 15).toInt ≤ 10 * (v.1 0 47).toInt + 0 by omega) (show 0 ≤ (v.1 0 43).toInt ∧ (v.1 0 43).toInt ≤ 15 * (v.1 0 47).toInt + 0 by omega) (show 0 ≤ (v.1 0 39).toInt ∧ (v.1 0 39).toInt ≤ 1 * (v.1 0 47).toInt + 0 by omega) (show 0 ≤ (v.1 0 27).toInt ∧ (v.1 0 27).toInt ≤ 60 by omega) (FG.ti (fl := pfl) (al := pal) (FG.rf _) (by decide) (by decide) hT) (n29) (n23) (n35)) tw_120 tw_121 (by decide +kernel) rfl rfl ⟨by show (40 * n + 7) + 1 ≤ 40 * n + 9; omega, by show 8 + (6 + 11) + 28 * (40 * n + 7) ≤ 28 * (40 * n + 9); omega⟩ (List.range (mW ad N cI cZ cJ v).length) (rg_map _) (mW_nd _ _ _ _ _ _) rfl rfl rfl rfl hl.1 rfl (Nat.le_of_ble_eq_true rfl) dX13_operand_354 ⟨Nat.le_of_ble_eq_true rfl, Nat.le_of_ble_eq_true rfl⟩) hP hD hS hA (fun u9 ce9 q9 H locs hx9 hP hD hS hc9 hv9 hf9 => ?_) (fun u216 H locs hw215 hP hD hS => ?_)
                    · exact vx_out (fun x h9 => (hnt x h9).elim) hlocks hc9 hv9 hf9 (fun t9 ht9 hv8 => ⟨u9, (FG.tr (FG.rf _) hx9), ⟨rfl, by rw [ht9]; exact hP, hD⟩, hS.F ht9⟩) hS.2.2 (by omega) (by omega)
                    obtain ⟨fr215, pt215, pb215, pw215, po215, pf215, pk215, pp215, ph215, kc215, ko215, kg215, n35215⟩ := hw215
                    have q215_2 : (u216.1 0 2).toInt = (v.1 0 2).toInt := congrArg Int32.toInt ((fr215.2.1 2 (by decide)).trans (show v.1 0 2 = (v.1 0 2) by rfl))
                    have q215_4 : (u216.1 0 4).toInt = (v.1 0 4).toInt := congrArg Int32.toInt ((fr215.2.1 4 (by decide)).trans (show v.1 0 4 = (v.1 0 4) by rfl))
                    have q215_5 : (u216.1 0 5).toInt = (v.1 0 5).toInt := congrArg Int32.toInt ((fr215.2.1 5 (by decide)).trans (show v.1 0 5 = (v.1 0 5) by rfl))
                    have q215_22 : (u216.1 0 22).toInt = (v.1 0 22).toInt := congrArg Int32.toInt ((fr215.2.1 22 (by decide)).trans (show v.1 0 22 = (v.1 0 22) by rfl))
                    have q215_27 : (u216.1 0 27).toInt = (v.1 0 27).toInt := congrArg Int32.toInt ((fr215.2.1 27 (by decide)).trans (show v.1 0 27 = (v.1 0 27) by rfl))
                    have q215_28 : (u216.1 0 28).toInt = (v.1 0 28).toInt := congrArg Int32.toInt ((fr215.2.1 28 (by decide)).trans (show v.1 0 28 = (v.1 0 28) by rfl))
                    have q215_30 : (u216.1 0 30).toInt = (v.1 0 30).toInt := congrArg Int32.toInt ((fr215.2.1 30 (by decide)).trans (show v.1 0 30 = (v.1 0 30) by rfl))
                    have q215_31 : (u216.1 0 31).toInt = (v.1 0 31).toInt := congrArg Int32.toInt ((fr215.2.1 31 (by decide)).trans (show v.1 0 31 = (v.1 0 31) by rfl))
                    have q215_34 : (u216.1 0 34).toInt = (v.1 0 34).toInt := congrArg Int32.toInt ((fr215.2.1 34 (by decide)).trans (show v.1 0 34 = (v.1 0 34) by rfl))
                    have q215_52 : (u216.1 0 52).toInt = (v.1 0 52).toInt := congrArg Int32.toInt ((fr215.2.1 52 (by decide)).trans (show v.1 0 52 = (v.1 0 52) by rfl))
                    refine W.widen (k := 0) (n := 0) (by omega) (by omega) ?_
                    refine lv_goto (tgt := 386) hx hb dX13_operand_357 (by decide) ?_
                    refine vx_ret ?_
                    exact W.vret hx hb hr (fun t ht9 hW => ⟨⟨u216, rfl, ⟨(FG.tr (FG.rf _) (FG.up fr215 (by decide) (by decide))), (show (v.1 0 47).toInt + 1 ≤ (u216.1 0 47).toInt ∧ (u216.1 0 47).toInt ≤ 1500 by omega), (show (v.1 0 49).toInt ≠ (v.1 0 47).toInt by omega), (show (v.1 0 12).toInt ≤ (u216.1 0 12).toInt ∧ (u216.1 0 12).toInt - 15 * (u216.1 0 47).toInt ≤ (v.1 0 12).toInt - 15 * (v.1 0 47).toInt by omega), (show (v.1 0 15).toInt ≤ (u216.1 0 15).toInt ∧ (u216.1 0 15).toInt - 10 * (u216.1 0 47).toInt ≤ (v.1 0 15).toInt - 10 * (v.1 0 47).toInt by omega), (show (v.1 0 43).toInt ≤ (u216.1 0 43).toInt ∧ (u216.1 0 43).toInt - 15 * (u216.1 0 47).toInt ≤ (v.1 0 43).toInt - 15 * (v.1 0 47).toInt by omega), (show (v.1 0 39).toInt ≤ (u216.1 0 39).toInt ∧ (u216.1 0 39).toInt - 1 * (u216.1 0 47).toInt ≤ (v.1 0 39).toInt - 1 * (v.1 0 47).toInt by omega), (show (u216.1 0 32).toInt = (v.1 0 32).toInt ∧ (u216.1 0 48).toInt = (v.1 0 48).toInt by omega), (show (v.1 0 33).toInt ≤ (u216.1 0 33).toInt ∧ (u216.1 0 33).toInt ≤ 500 by omega), (fun (j9 : Nat) hj9 => (kc215 j9 (by omega))), (fun (j9 : Nat) hj9 => (ko215 j9 (by omega))), (fun (j9 : Nat) hj9 => (kg215 j9 (by omega))), n35215⟩, by rw [ht9]; exact hP, hD⟩, hS.F ht9⟩) hS.2.2 dX13_operand_386
              · have z218 : r190.toInt ≠ 0 := ne_z rfl (show (0 : Int32).toInt = 0 by decide) h191
                refine lv_aload_n hx hb dX13_operand_279 rfl (lv_at hl 0 rfl) ?_
                refine cux_v (rx_V (n := 0) (As := []) (rest := []) hx hb hml hown ht hKK hFx hP hD hS hA (c_m_take l dC dI cI cB cZ cJ cR tb H.size ad N v  (show 0 ≤ (v.1 0 47).toInt ∧ (v.1 0 47).toInt ≤ 1500 by omega)) tw_32 tw_33 (by decide +kernel) rfl rfl ⟨by show 1 + 1 ≤ 40 * n + 9; omega, by show 8 + (1 + 11) + 22 ≤ 28 * (40 * n + 9); omega⟩ (List.range (mW ad N cI cZ cJ v).length) (rg_map _) (mW_nd _ _ _ _ _ _) rfl rfl rfl rfl hl.1 rfl (Nat.le_of_ble_eq_true rfl) dX13_operand_280 ⟨Nat.le_of_ble_eq_true rfl, Nat.le_of_ble_eq_true rfl⟩) hP hD hS hA (fun u9 ce9 q9 H locs hx9 hP hD hS hc9 hv9 hf9 => ?_) (fun u220 H locs hw219 hP hD hS => ?_)
                · exact vx_out (fun x h9 => (hnt x h9).elim) hlocks hc9 hv9 hf9 (fun t9 ht9 hv8 => ⟨u9, (FG.tr (FG.rf _) hx9), ⟨rfl, by rw [ht9]; exact hP, hD⟩, hS.F ht9⟩) hS.2.2 (by omega) (by omega)
                obtain ⟨rfl, a219, b219⟩ := hw219
                have z222 : ((v.1 0 47) + (1 : Int32)).toInt = (v.1 0 47).toInt + 1 := add_z rfl (show (1 : Int32).toInt = 1 by decide) (by omega) (by omega)
                have hP : va_P (dC, dI) vwCl (mW ad N cI cZ cJ (wA v 0 47 ((v.1 0 47) + (1 : Int32)))) H := hP
                have hD : va_D A (mW ad N cI cZ cJ (wA v 0 47 ((v.1 0 47) + (1 : Int32)))) := hD
                refine W.widen (k := 0) (n := 0) (by omega) (by omega) ?_
                refine lv_aload_n hx hb dX13_operand_283 rfl (lv_at hl 0 rfl) ?_
                refine lv_bipush (v := 40) hx hb dX13_operand_284 (by decide) ?_
                refine cux_v (rx_V (n := 1) (As := [.int 40]) (rest := []) hx hb hml hown ht hKK hFx hP hD hS hA (c_m_open l dC dI cI cB cZ cJ cR tb H.size ad N (wA v 0 47 ((v.1 0 47) + (1 : Int32))) (40 : Int32) (show 0 ≤ ((v.1 0 47) + (1 : Int32)).toInt ∧ ((v.1 0 47) + (1 : Int32)).toInt ≤ 1500 by omega) (show 0 ≤ (v.1 0 48).toInt ∧ (v.1 0 48).toInt ≤ 40 by omega)) tw_78 tw_79 (by decide +kernel) rfl rfl ⟨by show 3 + 1 ≤ 40 * n + 9; omega, by show 8 + (2 + 11) + 62 ≤ 28 * (40 * n + 9); omega⟩ (List.range (mW ad N cI cZ cJ (wA v 0 47 ((v.1 0 47) + (1 : Int32)))).length) (rg_map _) (mW_nd _ _ _ _ _ _) rfl rfl rfl rfl hl.1 rfl (Nat.le_of_ble_eq_true rfl) dX13_operand_286 ⟨Nat.le_of_ble_eq_true rfl, Nat.le_of_ble_eq_true rfl⟩) hP hD hS hA (fun u9 ce9 q9 H locs hx9 hP hD hS hc9 hv9 hf9 => ?_) (fun u224 H locs hw223 hP hD hS => ?_)
                · exact vx_out (fun x h9 => (hnt x h9).elim) hlocks hc9 hv9 hf9 (fun t9 ht9 hv8 => ⟨u9, (FG.tr (FG.f (FG.rf _) ((v.1 0 47) + (1 : Int32)) (by decide)) hx9), ⟨rfl, by rw [ht9]; exact hP, hD⟩, hS.F ht9⟩) hS.2.2 (by omega) (by omega)
                obtain ⟨rfl, a223, b223, c223⟩ := hw223
                have z226 : (((v.1 0 47) + (1 : Int32)) + (1 : Int32)).toInt = ((v.1 0 47).toInt + 1) + 1 := add_z z222 (show (1 : Int32).toInt = 1 by decide) (by omega) (by omega)
                have z227 : ((v.1 0 48) + (1 : Int32)).toInt = (v.1 0 48).toInt + 1 := add_z rfl (show (1 : Int32).toInt = 1 by decide) (by omega) (by omega)
                have hP : va_P (dC, dI) vwCl (mW ad N cI cZ cJ (wA (wA (wA v 0 47 ((v.1 0 47) + (1 : Int32))) 0 47 (((v.1 0 47) + (1 : Int32)) + (1 : Int32))) 0 48 ((v.1 0 48) + (1 : Int32)))) H := hP
                have hD : va_D A (mW ad N cI cZ cJ (wA (wA (wA v 0 47 ((v.1 0 47) + (1 : Int32))) 0 47 (((v.1 0 47) + (1 : Int32)) + (1 : Int32))) 0 48 ((v.1 0 48) + (1 : Int32)))) := hD
                have a223 : ((v.1 0 47) + (1 : Int32)).toInt < 1500 := a223
                have b223 : (v.1 0 48).toInt < 40 := b223
                have c223 : (v.1 0 49).toInt ≠ ((v.1 0 47) + (1 : Int32)).toInt := c223
                refine W.widen (k := 0) (n := 0) (by omega) (by omega) ?_
                refine lv_aload_n hx hb dX13_operand_289 rfl (lv_at hl 0 rfl) ?_
                refine lv_bipush (v := 41) hx hb dX13_operand_290 (by decide) ?_
                refine cux_v (rx_V (n := 1) (As := [.int 41]) (rest := []) hx hb hml hown ht hKK hFx hP hD hS hA (c_m_close l dC dI cI cB cZ cJ cR tb H.size ad N (wA (wA (wA v 0 47 ((v.1 0 47) + (1 : Int32))) 0 47 (((v.1 0 47) + (1 : Int32)) + (1 : Int32))) 0 48 ((v.1 0 48) + (1 : Int32))) (41 : Int32) (show 0 ≤ (((v.1 0 47) + (1 : Int32)) + (1 : Int32)).toInt ∧ (((v.1 0 47) + (1 : Int32)) + (1 : Int32)).toInt ≤ 1500 by omega) (show 0 ≤ ((v.1 0 48) + (1 : Int32)).toInt ∧ ((v.1 0 48) + (1 : Int32)).toInt ≤ 40 by omega)) tw_82 tw_83 (by decide +kernel) rfl rfl ⟨by show 3 + 1 ≤ 40 * n + 9; omega, by show 8 + (2 + 11) + 64 ≤ 28 * (40 * n + 9); omega⟩ (List.range (mW ad N cI cZ cJ (wA (wA (wA v 0 47 ((v.1 0 47) + (1 : Int32))) 0 47 (((v.1 0 47) + (1 : Int32)) + (1 : Int32))) 0 48 ((v.1 0 48) + (1 : Int32)))).length) (rg_map _) (mW_nd _ _ _ _ _ _) rfl rfl rfl rfl hl.1 rfl (Nat.le_of_ble_eq_true rfl) dX13_operand_292 ⟨Nat.le_of_ble_eq_true rfl, Nat.le_of_ble_eq_true rfl⟩) hP hD hS hA (fun u9 ce9 q9 H locs hx9 hP hD hS hc9 hv9 hf9 => ?_) (fun u229 H locs hw228 hP hD hS => ?_)
                · exact vx_out (fun x h9 => (hnt x h9).elim) hlocks hc9 hv9 hf9 (fun t9 ht9 hv8 => ⟨u9, (FG.tr (FG.f (FG.f (FG.f (FG.rf _) ((v.1 0 47) + (1 : Int32)) (by decide)) (((v.1 0 47) + (1 : Int32)) + (1 : Int32)) (by decide)) ((v.1 0 48) + (1 : Int32)) (by decide)) hx9), ⟨rfl, by rw [ht9]; exact hP, hD⟩, hS.F ht9⟩) hS.2.2 (by omega) (by omega)
                obtain ⟨rfl, a228, c228⟩ := hw228
                have z231 : ((((v.1 0 47) + (1 : Int32)) + (1 : Int32)) + (1 : Int32)).toInt = (((v.1 0 47).toInt + 1) + 1) + 1 := add_z z226 (show (1 : Int32).toInt = 1 by decide) (by omega) (by omega)
                have z232 : (((v.1 0 48) + (1 : Int32)) - (1 : Int32)).toInt = ((v.1 0 48).toInt + 1) - 1 := sub_z z227 (show (1 : Int32).toInt = 1 by decide) (by omega) (by omega)
                have hP : va_P (dC, dI) vwCl (mW ad N cI cZ cJ (wA (wA (wA (wA (wA v 0 47 ((v.1 0 47) + (1 : Int32))) 0 47 (((v.1 0 47) + (1 : Int32)) + (1 : Int32))) 0 48 ((v.1 0 48) + (1 : Int32))) 0 47 ((((v.1 0 47) + (1 : Int32)) + (1 : Int32)) + (1 : Int32))) 0 48 (((v.1 0 48) + (1 : Int32)) - (1 : Int32)))) H := hP
                have hD : va_D A (mW ad N cI cZ cJ (wA (wA (wA (wA (wA v 0 47 ((v.1 0 47) + (1 : Int32))) 0 47 (((v.1 0 47) + (1 : Int32)) + (1 : Int32))) 0 48 ((v.1 0 48) + (1 : Int32))) 0 47 ((((v.1 0 47) + (1 : Int32)) + (1 : Int32)) + (1 : Int32))) 0 48 (((v.1 0 48) + (1 : Int32)) - (1 : Int32)))) := hD
                have a228 : (((v.1 0 47) + (1 : Int32)) + (1 : Int32)).toInt < 1500 := a228
                have c228 : (v.1 0 49).toInt ≠ (((v.1 0 47) + (1 : Int32)) + (1 : Int32)).toInt := c228
                refine W.widen (k := 0) (n := 0) (by omega) (by omega) ?_
                refine lv_aload_n hx hb dX13_operand_295 rfl (lv_at hl 0 rfl) ?_
                refine lv_bipush (v := 17) hx hb dX13_operand_296 (by decide) ?_
                refine lv_iconst (v := 0) hx hb dX13_operand_298 (by decide) ?_
                refine lv_iconst (v := 2) hx hb dX13_operand_299 (by decide) ?_
                refine cu_s (mW_nd _ _ _ _ _ _) (rn_S (n := 3) (As := [.int 17, .int 0, .int 2]) (rest := [.ref (ad 0)]) hx hb hml hown ht hKK hFx hP hD hS hA (c_m_addi l dC dI cI cB cZ cJ cR tb H.size (17 : Int32) (0 : Int32) (2 : Int32) ) tw_65 tw_66 (by decide +kernel) rfl rfl ⟨by show 1 + 1 ≤ 40 * n + 9; omega, by show 8 + (3 + 11) + 24 ≤ 28 * (40 * n + 9); omega⟩ [] rfl rfl rfl hl.1 rfl (Nat.le_of_ble_eq_true rfl) dX13_operand_300 ⟨Nat.le_of_ble_eq_true rfl, Nat.le_of_ble_eq_true rfl⟩) hP hD hS hA (fun r235 H locs hw233 hP hD hS => ?_)
                refine W.widen (k := 0) (n := 0) (by omega) (by omega) ?_
                refine cu_i (rn_V (n := 1) (As := [.int r235]) (rest := []) hx hb hml hown ht hKK hFx hP hD hS hA (c_m_emit l dC dI cI cB cZ cJ cR tb H.size ad N (wA (wA (wA (wA (wA v 0 47 ((v.1 0 47) + (1 : Int32))) 0 47 (((v.1 0 47) + (1 : Int32)) + (1 : Int32))) 0 48 ((v.1 0 48) + (1 : Int32))) 0 47 ((((v.1 0 47) + (1 : Int32)) + (1 : Int32)) + (1 : Int32))) 0 48 (((v.1 0 48) + (1 : Int32)) - (1 : Int32))) r235 (show 0 ≤ (v.1 0 12).toInt ∧ (v.1 0 12).toInt < 24000 by omega)) tw_8 tw_9 (by decide +kernel) rfl rfl ⟨by show 0 + 1 ≤ 40 * n + 9; omega, by show 8 + (2 + 11) + 0 ≤ 28 * (40 * n + 9); omega⟩ (List.range (mW ad N cI cZ cJ (wA (wA (wA (wA (wA v 0 47 ((v.1 0 47) + (1 : Int32))) 0 47 (((v.1 0 47) + (1 : Int32)) + (1 : Int32))) 0 48 ((v.1 0 48) + (1 : Int32))) 0 47 ((((v.1 0 47) + (1 : Int32)) + (1 : Int32)) + (1 : Int32))) 0 48 (((v.1 0 48) + (1 : Int32)) - (1 : Int32)))).length) (rg_map _) (mW_nd _ _ _ _ _ _) rfl rfl rfl rfl hl.1 rfl (Nat.le_of_ble_eq_true rfl) dX13_operand_303 ⟨Nat.le_of_ble_eq_true rfl, Nat.le_of_ble_eq_true rfl⟩) hP hD hS hA (fun r238 u237 H locs hw236 hP hD hS => ?_)
                obtain ⟨rfl, rfl⟩ := hw236
                have z239 : ((v.1 0 12) + (1 : Int32)).toInt = (v.1 0 12).toInt + 1 := add_z rfl (show (1 : Int32).toInt = 1 by decide) (by omega) (by omega)
                have hP : va_P (dC, dI) vwCl (mW ad N cI cZ cJ (wA (wA (wA (wA (wA (wA (wA v 0 47 ((v.1 0 47) + (1 : Int32))) 0 47 (((v.1 0 47) + (1 : Int32)) + (1 : Int32))) 0 48 ((v.1 0 48) + (1 : Int32))) 0 47 ((((v.1 0 47) + (1 : Int32)) + (1 : Int32)) + (1 : Int32))) 0 48 (((v.1 0 48) + (1 : Int32)) - (1 : Int32))) 11 ((v.1 0 12).toNatClampNeg) r235) 0 12 ((v.1 0 12) + (1 : Int32)))) H := hP
                have hD : va_D A (mW ad N cI cZ cJ (wA (wA (wA (wA (wA (wA (wA v 0 47 ((v.1 0 47) + (1 : Int32))) 0 47 (((v.1 0 47) + (1 : Int32)) + (1 : Int32))) 0 48 ((v.1 0 48) + (1 : Int32))) 0 47 ((((v.1 0 47) + (1 : Int32)) + (1 : Int32)) + (1 : Int32))) 0 48 (((v.1 0 48) + (1 : Int32)) - (1 : Int32))) 11 ((v.1 0 12).toNatClampNeg) r235) 0 12 ((v.1 0 12) + (1 : Int32)))) := hD
                refine tp_i (y := (v.1 0 12)) (rfl) ?_
                refine W.widen (k := 0) (n := 0) (by omega) (by omega) ?_
                obtain ⟨u240, hu241⟩ : ∃ z, z = (wA (wA (wA (wA (wA (wA (wA v 0 47 ((v.1 0 47) + (1 : Int32))) 0 47 (((v.1 0 47) + (1 : Int32)) + (1 : Int32))) 0 48 ((v.1 0 48) + (1 : Int32))) 0 47 ((((v.1 0 47) + (1 : Int32)) + (1 : Int32)) + (1 : Int32))) 0 48 (((v.1 0 48) + (1 : Int32)) - (1 : Int32))) 11 ((v.1 0 12).toNatClampNeg) r235) 0 12 ((v.1 0 12) + (1 : Int32))) := ⟨_, rfl⟩
                have fr241 : FG [12, 47, 48] [0, 11] v u240 := by rw [hu241]; exact (FG.f (FG.a (FG.f (FG.f (FG.f (FG.f (FG.f (FG.rf _) ((v.1 0 47) + (1 : Int32)) (by decide)) (((v.1 0 47) + (1 : Int32)) + (1 : Int32)) (by decide)) ((v.1 0 48) + (1 : Int32)) (by decide)) ((((v.1 0 47) + (1 : Int32)) + (1 : Int32)) + (1 : Int32)) (by decide)) (((v.1 0 48) + (1 : Int32)) - (1 : Int32)) (by decide)) ((v.1 0 12).toNatClampNeg) r235 (by decide) (by decide)) ((v.1 0 12) + (1 : Int32)) (by decide))
                have q241_2 : (u240.1 0 2).toInt = (v.1 0 2).toInt := congrArg Int32.toInt (fr241.2.1 2 (by decide))
                have q241_4 : (u240.1 0 4).toInt = (v.1 0 4).toInt := congrArg Int32.toInt (fr241.2.1 4 (by decide))
                have q241_5 : (u240.1 0 5).toInt = (v.1 0 5).toInt := congrArg Int32.toInt (fr241.2.1 5 (by decide))
                have q241_12 : (u240.1 0 12).toInt = ((v.1 0 12).toInt + 1) := by rw [hu241]; exact (show ((v.1 0 12) + (1 : Int32)).toInt = ((v.1 0 12).toInt + 1) from z239)
                have q241_15 : (u240.1 0 15).toInt = (v.1 0 15).toInt := congrArg Int32.toInt (fr241.2.1 15 (by decide))
                have q241_22 : (u240.1 0 22).toInt = (v.1 0 22).toInt := congrArg Int32.toInt (fr241.2.1 22 (by decide))
                have q241_27 : (u240.1 0 27).toInt = (v.1 0 27).toInt := congrArg Int32.toInt (fr241.2.1 27 (by decide))
                have q241_28 : (u240.1 0 28).toInt = (v.1 0 28).toInt := congrArg Int32.toInt (fr241.2.1 28 (by decide))
                have q241_30 : (u240.1 0 30).toInt = (v.1 0 30).toInt := congrArg Int32.toInt (fr241.2.1 30 (by decide))
                have q241_31 : (u240.1 0 31).toInt = (v.1 0 31).toInt := congrArg Int32.toInt (fr241.2.1 31 (by decide))
                have q241_32 : (u240.1 0 32).toInt = (v.1 0 32).toInt := congrArg Int32.toInt (fr241.2.1 32 (by decide))
                have q241_33 : (u240.1 0 33).toInt = (v.1 0 33).toInt := congrArg Int32.toInt (fr241.2.1 33 (by decide))
                have q241_34 : (u240.1 0 34).toInt = (v.1 0 34).toInt := congrArg Int32.toInt (fr241.2.1 34 (by decide))
                have q241_39 : (u240.1 0 39).toInt = (v.1 0 39).toInt := congrArg Int32.toInt (fr241.2.1 39 (by decide))
                have q241_43 : (u240.1 0 43).toInt = (v.1 0 43).toInt := congrArg Int32.toInt (fr241.2.1 43 (by decide))
                have q241_47 : (u240.1 0 47).toInt = ((((v.1 0 47).toInt + 1) + 1) + 1) := by rw [hu241]; exact (show ((((v.1 0 47) + (1 : Int32)) + (1 : Int32)) + (1 : Int32)).toInt = ((((v.1 0 47).toInt + 1) + 1) + 1) from z231)
                have q241_48 : (u240.1 0 48).toInt = (((v.1 0 48).toInt + 1) - 1) := by rw [hu241]; exact (show (((v.1 0 48) + (1 : Int32)) - (1 : Int32)).toInt = (((v.1 0 48).toInt + 1) - 1) from z232)
                have q241_49 : (u240.1 0 49).toInt = (v.1 0 49).toInt := congrArg Int32.toInt (fr241.2.1 49 (by decide))
                have q241_52 : (u240.1 0 52).toInt = (v.1 0 52).toInt := congrArg Int32.toInt (fr241.2.1 52 (by decide))
                have kc241 : ∀ j : Nat, (j : Int) < (v.1 0 12).toInt → (u240.1 11) j = (v.1 11) j := by rw [hu241]; exact (fun (j9 : Nat) hj9 => (pk_un (by have := cl_z (a := (v.1 0 12).toInt) rfl (by omega); omega)))
                rw [← hu241] at hP hD
                refine lv_pop hx hb dX13_operand_306 rfl ?_
                refine lv_aload_n hx hb dX13_operand_307 rfl (lv_at hl 0 rfl) ?_
                refine lv_bipush (v := 115) hx hb dX13_operand_308 (by decide) ?_
                refine cu_i (rn_V (n := 1) (As := [.int 115]) (rest := []) hx hb hml hown ht hKK hFx hP hD hS hA (c_m_emit l dC dI cI cB cZ cJ cR tb H.size ad N u240 (115 : Int32) (show 0 ≤ (u240.1 0 12).toInt ∧ (u240.1 0 12).toInt < 24000 by omega)) tw_8 tw_9 (by decide +kernel) rfl rfl ⟨by show 0 + 1 ≤ 40 * n + 9; omega, by show 8 + (2 + 11) + 0 ≤ 28 * (40 * n + 9); omega⟩ (List.range (mW ad N cI cZ cJ u240).length) (rg_map _) (mW_nd _ _ _ _ _ _) rfl rfl rfl rfl hl.1 rfl (Nat.le_of_ble_eq_true rfl) dX13_operand_310 ⟨Nat.le_of_ble_eq_true rfl, Nat.le_of_ble_eq_true rfl⟩) hP hD hS hA (fun r244 u243 H locs hw242 hP hD hS => ?_)
                obtain ⟨rfl, rfl⟩ := hw242
                have z245 : ((u240.1 0 12) + (1 : Int32)).toInt = (u240.1 0 12).toInt + 1 := add_z rfl (show (1 : Int32).toInt = 1 by decide) (by omega) (by omega)
                have hP : va_P (dC, dI) vwCl (mW ad N cI cZ cJ (wA (wA u240 11 ((u240.1 0 12).toNatClampNeg) (115 : Int32)) 0 12 ((u240.1 0 12) + (1 : Int32)))) H := hP
                have hD : va_D A (mW ad N cI cZ cJ (wA (wA u240 11 ((u240.1 0 12).toNatClampNeg) (115 : Int32)) 0 12 ((u240.1 0 12) + (1 : Int32)))) := hD
                refine tp_i (y := (u240.1 0 12)) (rfl) ?_
                refine W.widen (k := 0) (n := 0) (by omega) (by omega) ?_
                refine lv_pop hx hb dX13_operand_313 rfl ?_
                refine lv_aload_n hx hb dX13_operand_314 rfl (lv_at hl 0 rfl) ?_
                refine lv_bipush (v := 17) hx hb dX13_operand_315 (by decide) ?_
                refine lv_iconst (v := 0) hx hb dX13_operand_317 (by decide) ?_
                refine cu_i (rn_V (n := 2) (As := [.int 17, .int 0]) (rest := []) hx hb hml hown ht hKK hFx hP hD hS hA (c_m_say l dC dI cI cB cZ cJ cR tb H.size ad N (wA (wA u240 11 ((u240.1 0 12).toNatClampNeg) (115 : Int32)) 0 12 ((u240.1 0 12) + (1 : Int32))) (17 : Int32) (0 : Int32) (show 0 ≤ (u240.1 0 15).toInt ∧ (u240.1 0 15).toInt < 16000 by omega)) tw_59 tw_60 (by decide +kernel) rfl rfl ⟨by show 0 + 1 ≤ 40 * n + 9; omega, by show 8 + (3 + 11) + 0 ≤ 28 * (40 * n + 9); omega⟩ (List.range (mW ad N cI cZ cJ (wA (wA u240 11 ((u240.1 0 12).toNatClampNeg) (115 : Int32)) 0 12 ((u240.1 0 12) + (1 : Int32)))).length) (rg_map _) (mW_nd _ _ _ _ _ _) rfl rfl rfl rfl hl.1 rfl (Nat.le_of_ble_eq_true rfl) dX13_operand_318 ⟨Nat.le_of_ble_eq_true rfl, Nat.le_of_ble_eq_true rfl⟩) hP hD hS hA (fun r248 u247 H locs hw246 hP hD hS => ?_)
                obtain ⟨rfl, rfl⟩ := hw246
                have z249 : ((u240.1 0 15) + (1 : Int32)).toInt = (u240.1 0 15).toInt + 1 := add_z rfl (show (1 : Int32).toInt = 1 by decide) (by omega) (by omega)
                have hP : va_P (dC, dI) vwCl (mW ad N cI cZ cJ (wA (wA (wA (wA (wA u240 11 ((u240.1 0 12).toNatClampNeg) (115 : Int32)) 0 12 ((u240.1 0 12) + (1 : Int32))) 13 ((u240.1 0 15).toNatClampNeg) (17 : Int32)) 14 ((u240.1 0 15).toNatClampNeg) (0 : Int32)) 0 15 ((u240.1 0 15) + (1 : Int32)))) H := hP
                have hD : va_D A (mW ad N cI cZ cJ (wA (wA (wA (wA (wA u240 11 ((u240.1 0 12).toNatClampNeg) (115 : Int32)) 0 12 ((u240.1 0 12) + (1 : Int32))) 13 ((u240.1 0 15).toNatClampNeg) (17 : Int32)) 14 ((u240.1 0 15).toNatClampNeg) (0 : Int32)) 0 15 ((u240.1 0 15) + (1 : Int32)))) := hD
                refine tp_i (y := (u240.1 0 15)) (rfl) ?_
                refine W.widen (k := 0) (n := 0) (by omega) (by omega) ?_
                refine lv_pop hx hb dX13_operand_321 rfl ?_
                refine lv_goto (tgt := 386) hx hb dX13_operand_322 (by decide) ?_
                refine vx_ret ?_
                exact W.vret hx hb hr (fun t ht9 hW => ⟨⟨(wA (wA (wA (wA (wA u240 11 ((u240.1 0 12).toNatClampNeg) (115 : Int32)) 0 12 ((u240.1 0 12) + (1 : Int32))) 13 ((u240.1 0 15).toNatClampNeg) (17 : Int32)) 14 ((u240.1 0 15).toNatClampNeg) (0 : Int32)) 0 15 ((u240.1 0 15) + (1 : Int32))), rfl, ⟨(FG.f (FG.a (FG.a (FG.f (FG.a (FG.tr (FG.rf _) (FG.up fr241 (by decide) (by decide))) ((u240.1 0 12).toNatClampNeg) (115 : Int32) (by decide) (by decide)) ((u240.1 0 12) + (1 : Int32)) (by decide)) ((u240.1 0 15).toNatClampNeg) (17 : Int32) (by decide) (by decide)) ((u240.1 0 15).toNatClampNeg) (0 : Int32) (by decide) (by decide)) ((u240.1 0 15) + (1 : Int32)) (by decide)), (show (v.1 0 47).toInt + 1 ≤ (u240.1 0 47).toInt ∧ (u240.1 0 47).toInt ≤ 1500 by omega), (show (v.1 0 49).toInt ≠ (v.1 0 47).toInt by omega), (show (v.1 0 12).toInt ≤ ((u240.1 0 12) + (1 : Int32)).toInt ∧ ((u240.1 0 12) + (1 : Int32)).toInt - 15 * (u240.1 0 47).toInt ≤ (v.1 0 12).toInt - 15 * (v.1 0 47).toInt by omega), (show (v.1 0 15).toInt ≤ ((u240.1 0 15) + (1 : Int32)).toInt ∧ ((u240.1 0 15) + (1 : Int32)).toInt - 10 * (u240.1 0 47).toInt ≤ (v.1 0 15).toInt - 10 * (v.1 0 47).toInt by omega), (show (v.1 0 43).toInt ≤ (u240.1 0 43).toInt ∧ (u240.1 0 43).toInt - 15 * (u240.1 0 47).toInt ≤ (v.1 0 43).toInt - 15 * (v.1 0 47).toInt by omega), (show (v.1 0 39).toInt ≤ (u240.1 0 39).toInt ∧ (u240.1 0 39).toInt - 1 * (u240.1 0 47).toInt ≤ (v.1 0 39).toInt - 1 * (v.1 0 47).toInt by omega), (show (u240.1 0 32).toInt = (v.1 0 32).toInt ∧ (u240.1 0 48).toInt = (v.1 0 48).toInt by omega), (show (v.1 0 33).toInt ≤ (u240.1 0 33).toInt ∧ (u240.1 0 33).toInt ≤ 500 by omega), (fun (j9 : Nat) hj9 => (Eq.trans (pk_un (by have := cl_z (a := (u240.1 0 12).toInt) rfl (by omega); omega)) (kc241 j9 (by omega)))), (fun (j9 : Nat) hj9 => (Eq.trans (pk_un (by have := cl_z (a := (u240.1 0 15).toInt) rfl (by omega); omega)) (congrFun (fr241.2.2 13 (by decide)) j9))), (fun (j9 : Nat) hj9 => (Eq.trans (pk_un (by have := cl_z (a := (u240.1 0 15).toInt) rfl (by omega); omega)) (congrFun (fr241.2.2 14 (by decide)) j9))), (show NI 35 u240 from NI.fr (fl := [12, 47, 48]) (al := [0, 11]) fr241 (by decide) n35)⟩, by rw [ht9]; exact hP, hD⟩, hS.F ht9⟩) hS.2.2 dX13_operand_386
            · have z250 : r185.toInt ≠ 0 := ne_z rfl (show (0 : Int32).toInt = 0 by decide) h186
              refine lv_aload_n hx hb dX13_operand_253 rfl (lv_at hl 0 rfl) ?_
              refine cux_v (rx_V (n := 0) (As := []) (rest := []) hx hb hml hown ht hKK hFx hP hD hS hA (c_m_opens l dC dI cI cB cZ cJ cR tb H.size ad N v  (show 0 ≤ (v.1 0 47).toInt ∧ (v.1 0 47).toInt ≤ 1500 by omega) (show 0 ≤ (v.1 0 48).toInt ∧ (v.1 0 48).toInt ≤ 40 by omega)) tw_38 tw_39 (by decide +kernel) rfl rfl ⟨by show 2 + 1 ≤ 40 * n + 9; omega, by show 8 + (1 + 11) + 42 ≤ 28 * (40 * n + 9); omega⟩ (List.range (mW ad N cI cZ cJ v).length) (rg_map _) (mW_nd _ _ _ _ _ _) rfl rfl rfl rfl hl.1 rfl (Nat.le_of_ble_eq_true rfl) dX13_operand_254 ⟨Nat.le_of_ble_eq_true rfl, Nat.le_of_ble_eq_true rfl⟩) hP hD hS hA (fun u9 ce9 q9 H locs hx9 hP hD hS hc9 hv9 hf9 => ?_) (fun u252 H locs hw251 hP hD hS => ?_)
              · exact vx_out (fun x h9 => (hnt x h9).elim) hlocks hc9 hv9 hf9 (fun t9 ht9 hv8 => ⟨u9, (FG.tr (FG.rf _) hx9), ⟨rfl, by rw [ht9]; exact hP, hD⟩, hS.F ht9⟩) hS.2.2 (by omega) (by omega)
              obtain ⟨rfl, a251, b251, c251⟩ := hw251
              have z254 : ((v.1 0 47) + (1 : Int32)).toInt = (v.1 0 47).toInt + 1 := add_z rfl (show (1 : Int32).toInt = 1 by decide) (by omega) (by omega)
              have z255 : ((v.1 0 48) + (1 : Int32)).toInt = (v.1 0 48).toInt + 1 := add_z rfl (show (1 : Int32).toInt = 1 by decide) (by omega) (by omega)
              have hP : va_P (dC, dI) vwCl (mW ad N cI cZ cJ (wA (wA v 0 47 ((v.1 0 47) + (1 : Int32))) 0 48 ((v.1 0 48) + (1 : Int32)))) H := hP
              have hD : va_D A (mW ad N cI cZ cJ (wA (wA v 0 47 ((v.1 0 47) + (1 : Int32))) 0 48 ((v.1 0 48) + (1 : Int32)))) := hD
              refine W.widen (k := 0) (n := 0) (by omega) (by omega) ?_
              refine lv_aload_n hx hb dX13_operand_257 rfl (lv_at hl 0 rfl) ?_
              obtain ⟨n256, hn257⟩ : ∃ m, n = m + 1 := ⟨n - 1, by omega⟩
              refine cux_v (rx_V (n := 0) (As := []) (rest := []) hx hb hml hown ht hKK hFx hP hD hS hA (ihE n256 hn257 dC dI cI cB cZ cJ cR tb H.size ad N (wA (wA v 0 47 ((v.1 0 47) + (1 : Int32))) 0 48 ((v.1 0 48) + (1 : Int32)))  (show 40 ≤ ((v.1 0 48) + (1 : Int32)).toInt + (n256 : Int) by omega) (show 0 ≤ ((v.1 0 47) + (1 : Int32)).toInt ∧ ((v.1 0 47) + (1 : Int32)).toInt ≤ 1500 by omega) (show 0 ≤ ((v.1 0 48) + (1 : Int32)).toInt ∧ ((v.1 0 48) + (1 : Int32)).toInt ≤ 40 by omega) (show 0 ≤ (v.1 0 30).toInt ∧ (v.1 0 30).toInt ≤ 500 by omega) (show 0 ≤ (v.1 0 33).toInt ∧ (v.1 0 33).toInt ≤ 500 by omega) (show 0 ≤ (v.1 0 32).toInt ∧ (v.1 0 30).toInt + (v.1 0 32).toInt ≤ 500 by omega) (show 0 ≤ (v.1 0 12).toInt ∧ (v.1 0 12).toInt ≤ 15 * ((v.1 0 47) + (1 : Int32)).toInt + 2 by omega) (show 0 ≤ (v.1 0 15).toInt ∧ (v.1 0 15).toInt ≤ 10 * ((v.1 0 47) + (1 : Int32)).toInt + 0 by omega) (show 0 ≤ (v.1 0 43).toInt ∧ (v.1 0 43).toInt ≤ 15 * ((v.1 0 47) + (1 : Int32)).toInt + 0 by omega) (show 0 ≤ (v.1 0 39).toInt ∧ (v.1 0 39).toInt ≤ 1 * ((v.1 0 47) + (1 : Int32)).toInt + 0 by omega) (show 0 ≤ (v.1 0 27).toInt ∧ (v.1 0 27).toInt ≤ 60 by omega) (FG.ti (fl := pfl) (al := pal) (FG.f (FG.f (FG.rf _) ((v.1 0 47) + (1 : Int32)) (by decide)) ((v.1 0 48) + (1 : Int32)) (by decide)) (by decide) (by decide) hT) (n29) (n23) (n35)) tw_80 tw_81 (by decide +kernel) rfl rfl ⟨by show (40 * n256 + 36) + 1 ≤ 40 * n + 9; omega, by show 8 + (1 + 11) + 28 * (40 * n256 + 36) ≤ 28 * (40 * n + 9); omega⟩ (List.range (mW ad N cI cZ cJ (wA (wA v 0 47 ((v.1 0 47) + (1 : Int32))) 0 48 ((v.1 0 48) + (1 : Int32)))).length) (rg_map _) (mW_nd _ _ _ _ _ _) rfl rfl rfl rfl hl.1 rfl (Nat.le_of_ble_eq_true rfl) dX13_operand_258 ⟨Nat.le_of_ble_eq_true rfl, Nat.le_of_ble_eq_true rfl⟩) hP hD hS hA (fun u9 ce9 q9 H locs hx9 hP hD hS hc9 hv9 hf9 => ?_) (fun u259 H locs hw258 hP hD hS => ?_)
              · exact vx_out (fun x h9 => (hnt x h9).elim) hlocks hc9 hv9 hf9 (fun t9 ht9 hv8 => ⟨u9, (FG.tr (FG.f (FG.f (FG.rf _) ((v.1 0 47) + (1 : Int32)) (by decide)) ((v.1 0 48) + (1 : Int32)) (by decide)) hx9), ⟨rfl, by rw [ht9]; exact hP, hD⟩, hS.F ht9⟩) hS.2.2 (by omega) (by omega)
              obtain ⟨fr258, pt258, pb258, pw258, po258, pf258, pk258, pp258, ph258, kc258, ko258, kg258, n35258⟩ := hw258
              have q258_2 : (u259.1 0 2).toInt = (v.1 0 2).toInt := congrArg Int32.toInt ((fr258.2.1 2 (by decide)).trans (show (wA (wA v 0 47 ((v.1 0 47) + (1 : Int32))) 0 48 ((v.1 0 48) + (1 : Int32))).1 0 2 = (v.1 0 2) by rfl))
              have q258_4 : (u259.1 0 4).toInt = (v.1 0 4).toInt := congrArg Int32.toInt ((fr258.2.1 4 (by decide)).trans (show (wA (wA v 0 47 ((v.1 0 47) + (1 : Int32))) 0 48 ((v.1 0 48) + (1 : Int32))).1 0 4 = (v.1 0 4) by rfl))
              have q258_5 : (u259.1 0 5).toInt = (v.1 0 5).toInt := congrArg Int32.toInt ((fr258.2.1 5 (by decide)).trans (show (wA (wA v 0 47 ((v.1 0 47) + (1 : Int32))) 0 48 ((v.1 0 48) + (1 : Int32))).1 0 5 = (v.1 0 5) by rfl))
              have q258_22 : (u259.1 0 22).toInt = (v.1 0 22).toInt := congrArg Int32.toInt ((fr258.2.1 22 (by decide)).trans (show (wA (wA v 0 47 ((v.1 0 47) + (1 : Int32))) 0 48 ((v.1 0 48) + (1 : Int32))).1 0 22 = (v.1 0 22) by rfl))
              have q258_27 : (u259.1 0 27).toInt = (v.1 0 27).toInt := congrArg Int32.toInt ((fr258.2.1 27 (by decide)).trans (show (wA (wA v 0 47 ((v.1 0 47) + (1 : Int32))) 0 48 ((v.1 0 48) + (1 : Int32))).1 0 27 = (v.1 0 27) by rfl))
              have q258_28 : (u259.1 0 28).toInt = (v.1 0 28).toInt := congrArg Int32.toInt ((fr258.2.1 28 (by decide)).trans (show (wA (wA v 0 47 ((v.1 0 47) + (1 : Int32))) 0 48 ((v.1 0 48) + (1 : Int32))).1 0 28 = (v.1 0 28) by rfl))
              have q258_30 : (u259.1 0 30).toInt = (v.1 0 30).toInt := congrArg Int32.toInt ((fr258.2.1 30 (by decide)).trans (show (wA (wA v 0 47 ((v.1 0 47) + (1 : Int32))) 0 48 ((v.1 0 48) + (1 : Int32))).1 0 30 = (v.1 0 30) by rfl))
              have q258_31 : (u259.1 0 31).toInt = (v.1 0 31).toInt := congrArg Int32.toInt ((fr258.2.1 31 (by decide)).trans (show (wA (wA v 0 47 ((v.1 0 47) + (1 : Int32))) 0 48 ((v.1 0 48) + (1 : Int32))).1 0 31 = (v.1 0 31) by rfl))
              have q258_34 : (u259.1 0 34).toInt = (v.1 0 34).toInt := congrArg Int32.toInt ((fr258.2.1 34 (by decide)).trans (show (wA (wA v 0 47 ((v.1 0 47) + (1 : Int32))) 0 48 ((v.1 0 48) + (1 : Int32))).1 0 34 = (v.1 0 34) by rfl))
              have q258_52 : (u259.1 0 52).toInt = (v.1 0 52).toInt := congrArg Int32.toInt ((fr258.2.1 52 (by decide)).trans (show (wA (wA v 0 47 ((v.1 0 47) + (1 : Int32))) 0 48 ((v.1 0 48) + (1 : Int32))).1 0 52 = (v.1 0 52) by rfl))
              have pt258 : ((v.1 0 47) + (1 : Int32)).toInt + 1 ≤ (u259.1 0 47).toInt ∧ (u259.1 0 47).toInt ≤ 1500 := pt258
              have pb258 : (v.1 0 49).toInt ≠ ((v.1 0 47) + (1 : Int32)).toInt := pb258
              have pw258 : (v.1 0 12).toInt ≤ (u259.1 0 12).toInt ∧ (u259.1 0 12).toInt - 15 * (u259.1 0 47).toInt ≤ (v.1 0 12).toInt - 15 * ((v.1 0 47) + (1 : Int32)).toInt := pw258
              have po258 : (v.1 0 15).toInt ≤ (u259.1 0 15).toInt ∧ (u259.1 0 15).toInt - 10 * (u259.1 0 47).toInt ≤ (v.1 0 15).toInt - 10 * ((v.1 0 47) + (1 : Int32)).toInt := po258
              have pf258 : (v.1 0 43).toInt ≤ (u259.1 0 43).toInt ∧ (u259.1 0 43).toInt - 15 * (u259.1 0 47).toInt ≤ (v.1 0 43).toInt - 15 * ((v.1 0 47) + (1 : Int32)).toInt := pf258
              have pk258 : (v.1 0 39).toInt ≤ (u259.1 0 39).toInt ∧ (u259.1 0 39).toInt - 1 * (u259.1 0 47).toInt ≤ (v.1 0 39).toInt - 1 * ((v.1 0 47) + (1 : Int32)).toInt := pk258
              have pp258 : (u259.1 0 32).toInt = (v.1 0 32).toInt ∧ (u259.1 0 48).toInt = ((v.1 0 48) + (1 : Int32)).toInt := pp258
              have ph258 : (v.1 0 33).toInt ≤ (u259.1 0 33).toInt ∧ (u259.1 0 33).toInt ≤ 500 := ph258
              have kc258 : ∀ j : Nat, (j : Int) < (v.1 0 12).toInt → (u259.1 11) j = (v.1 11) j := kc258
              have ko258 : ∀ j : Nat, (j : Int) < (v.1 0 15).toInt → (u259.1 13) j = (v.1 13) j := ko258
              have kg258 : ∀ j : Nat, (j : Int) < (v.1 0 15).toInt → (u259.1 14) j = (v.1 14) j := kg258
              have n35258 : NI 35 u259 := n35258
              refine W.widen (k := 0) (n := 0) (by omega) (by omega) ?_
              refine lv_aload_n hx hb dX13_operand_261 rfl (lv_at hl 0 rfl) ?_
              refine lv_bipush (v := 41) hx hb dX13_operand_262 (by decide) ?_
              refine cux_v (rx_V (n := 1) (As := [.int 41]) (rest := []) hx hb hml hown ht hKK hFx hP hD hS hA (c_m_close l dC dI cI cB cZ cJ cR tb H.size ad N u259 (41 : Int32) (show 0 ≤ (u259.1 0 47).toInt ∧ (u259.1 0 47).toInt ≤ 1500 by omega) (show 0 ≤ (u259.1 0 48).toInt ∧ (u259.1 0 48).toInt ≤ 40 by omega)) tw_82 tw_83 (by decide +kernel) rfl rfl ⟨by show 3 + 1 ≤ 40 * n + 9; omega, by show 8 + (2 + 11) + 64 ≤ 28 * (40 * n + 9); omega⟩ (List.range (mW ad N cI cZ cJ u259).length) (rg_map _) (mW_nd _ _ _ _ _ _) rfl rfl rfl rfl hl.1 rfl (Nat.le_of_ble_eq_true rfl) dX13_operand_264 ⟨Nat.le_of_ble_eq_true rfl, Nat.le_of_ble_eq_true rfl⟩) hP hD hS hA (fun u9 ce9 q9 H locs hx9 hP hD hS hc9 hv9 hf9 => ?_) (fun u262 H locs hw261 hP hD hS => ?_)
              · exact vx_out (fun x h9 => (hnt x h9).elim) hlocks hc9 hv9 hf9 (fun t9 ht9 hv8 => ⟨u9, (FG.tr (FG.tr (FG.f (FG.f (FG.rf _) ((v.1 0 47) + (1 : Int32)) (by decide)) ((v.1 0 48) + (1 : Int32)) (by decide)) (FG.up fr258 (by decide) (by decide))) hx9), ⟨rfl, by rw [ht9]; exact hP, hD⟩, hS.F ht9⟩) hS.2.2 (by omega) (by omega)
              obtain ⟨rfl, a261, c261⟩ := hw261
              have z264 : ((u259.1 0 47) + (1 : Int32)).toInt = (u259.1 0 47).toInt + 1 := add_z rfl (show (1 : Int32).toInt = 1 by decide) (by omega) (by omega)
              have z265 : ((u259.1 0 48) - (1 : Int32)).toInt = (u259.1 0 48).toInt - 1 := sub_z rfl (show (1 : Int32).toInt = 1 by decide) (by omega) (by omega)
              have hP : va_P (dC, dI) vwCl (mW ad N cI cZ cJ (wA (wA u259 0 47 ((u259.1 0 47) + (1 : Int32))) 0 48 ((u259.1 0 48) - (1 : Int32)))) H := hP
              have hD : va_D A (mW ad N cI cZ cJ (wA (wA u259 0 47 ((u259.1 0 47) + (1 : Int32))) 0 48 ((u259.1 0 48) - (1 : Int32)))) := hD
              have a261 : (u259.1 0 47).toInt < 1500 := a261
              have c261 : (u259.1 0 49).toInt ≠ (u259.1 0 47).toInt := c261
              refine W.widen (k := 0) (n := 0) (by omega) (by omega) ?_
              refine lv_goto (tgt := 386) hx hb dX13_operand_267 (by decide) ?_
              refine vx_ret ?_
              exact W.vret hx hb hr (fun t ht9 hW => ⟨⟨(wA (wA u259 0 47 ((u259.1 0 47) + (1 : Int32))) 0 48 ((u259.1 0 48) - (1 : Int32))), rfl, ⟨(FG.f (FG.f (FG.tr (FG.f (FG.f (FG.rf _) ((v.1 0 47) + (1 : Int32)) (by decide)) ((v.1 0 48) + (1 : Int32)) (by decide)) (FG.up fr258 (by decide) (by decide))) ((u259.1 0 47) + (1 : Int32)) (by decide)) ((u259.1 0 48) - (1 : Int32)) (by decide)), (show (v.1 0 47).toInt + 1 ≤ ((u259.1 0 47) + (1 : Int32)).toInt ∧ ((u259.1 0 47) + (1 : Int32)).toInt ≤ 1500 by omega), (show (v.1 0 49).toInt ≠ (v.1 0 47).toInt by omega), (show (v.1 0 12).toInt ≤ (u259.1 0 12).toInt ∧ (u259.1 0 12).toInt - 15 * ((u259.1 0 47) + (1 : Int32)).toInt ≤ (v.1 0 12).toInt - 15 * (v.1 0 47).toInt by omega), (show (v.1 0 15).toInt ≤ (u259.1 0 15).toInt ∧ (u259.1 0 15).toInt - 10 * ((u259.1 0 47) + (1 : Int32)).toInt ≤ (v.1 0 15).toInt - 10 * (v.1 0 47).toInt by omega), (show (v.1 0 43).toInt ≤ (u259.1 0 43).toInt ∧ (u259.1 0 43).toInt - 15 * ((u259.1 0 47) + (1 : Int32)).toInt ≤ (v.1 0 43).toInt - 15 * (v.1 0 47).toInt by omega), (show (v.1 0 39).toInt ≤ (u259.1 0 39).toInt ∧ (u259.1 0 39).toInt - 1 * ((u259.1 0 47) + (1 : Int32)).toInt ≤ (v.1 0 39).toInt - 1 * (v.1 0 47).toInt by omega), (show (u259.1 0 32).toInt = (v.1 0 32).toInt ∧ ((u259.1 0 48) - (1 : Int32)).toInt = (v.1 0 48).toInt by omega), (show (v.1 0 33).toInt ≤ (u259.1 0 33).toInt ∧ (u259.1 0 33).toInt ≤ 500 by omega), (fun (j9 : Nat) hj9 => (kc258 j9 (by omega))), (fun (j9 : Nat) hj9 => (ko258 j9 (by omega))), (fun (j9 : Nat) hj9 => (kg258 j9 (by omega))), n35258⟩, by rw [ht9]; exact hP, hD⟩, hS.F ht9⟩) hS.2.2 dX13_operand_386
          · have z266 : r180.toInt ≠ 0 := ne_z rfl (show (0 : Int32).toInt = 0 by decide) h181
            refine lv_aload_n hx hb dX13_operand_126 rfl (lv_at hl 0 rfl) ?_
            refine va_get (D := (dC, dI)) (ci := 16) (fs := mF ad v) (v := .ref (ad 9)) (C := RX13) (T := TX13) (N := 124) hx hb ht itX13 hown hK hP 0 rfl rfl 9 (by decide) (ht _ tw_27) (fun _ h9 => h9) rfl dX13_operand_127 ?_
            refine lv_aload_n hx hb dX13_operand_130 rfl (lv_at hl 0 rfl) ?_
            refine va_get (D := (dC, dI)) (ci := 16) (fs := mF ad v) (v := .int (v.1 0 47)) (C := RX13) (T := TX13) (N := 124) hx hb ht itX13 hown hK hP 0 rfl rfl 47 (by decide) (ht _ tw_24) (fun _ h9 => h9) rfl dX13_operand_131 ?_
            refine va_lald (D := (dC, dI)) (f := v.2) hx hb hK hP 6 3 rfl rfl (in_z (a := (v.1 0 47).toInt) rfl (by omega) (by omega)) dX13_operand_134 ?_
            refine lv_l2i hx hb dX13_operand_135 rfl ?_
            refine lv_istore_n (lv' := [(1, .int ((v.2 (v.1 0 47).toNatClampNeg).toInt32)), (0, .ref (ad 0))]) hx hb dX13_operand_136 rfl hl (by decide) rfl (fun ls hl => ?_)
            refine lv_aload_n hx hb dX13_operand_137 rfl (lv_at hl 1 rfl) ?_
            refine cux_v (rx_V (n := 0) (As := []) (rest := []) hx hb hml hown ht hKK hFx hP hD hS hA (c_m_opens l dC dI cI cB cZ cJ cR tb H.size ad N v  (show 0 ≤ (v.1 0 47).toInt ∧ (v.1 0 47).toInt ≤ 1500 by omega) (show 0 ≤ (v.1 0 48).toInt ∧ (v.1 0 48).toInt ≤ 40 by omega)) tw_38 tw_39 (by decide +kernel) rfl rfl ⟨by show 2 + 1 ≤ 40 * n + 9; omega, by show 8 + (1 + 11) + 42 ≤ 28 * (40 * n + 9); omega⟩ (List.range (mW ad N cI cZ cJ v).length) (rg_map _) (mW_nd _ _ _ _ _ _) rfl rfl rfl rfl hl.1 rfl (Nat.le_of_ble_eq_true rfl) dX13_operand_138 ⟨Nat.le_of_ble_eq_true rfl, Nat.le_of_ble_eq_true rfl⟩) hP hD hS hA (fun u9 ce9 q9 H locs hx9 hP hD hS hc9 hv9 hf9 => ?_) (fun u268 H locs hw267 hP hD hS => ?_)
            · exact vx_out (fun x h9 => (hnt x h9).elim) hlocks hc9 hv9 hf9 (fun t9 ht9 hv8 => ⟨u9, (FG.tr (FG.rf _) hx9), ⟨rfl, by rw [ht9]; exact hP, hD⟩, hS.F ht9⟩) hS.2.2 (by omega) (by omega)
            obtain ⟨rfl, a267, b267, c267⟩ := hw267
            have z270 : ((v.1 0 47) + (1 : Int32)).toInt = (v.1 0 47).toInt + 1 := add_z rfl (show (1 : Int32).toInt = 1 by decide) (by omega) (by omega)
            have z271 : ((v.1 0 48) + (1 : Int32)).toInt = (v.1 0 48).toInt + 1 := add_z rfl (show (1 : Int32).toInt = 1 by decide) (by omega) (by omega)
            have hP : va_P (dC, dI) vwCl (mW ad N cI cZ cJ (wA (wA v 0 47 ((v.1 0 47) + (1 : Int32))) 0 48 ((v.1 0 48) + (1 : Int32)))) H := hP
            have hD : va_D A (mW ad N cI cZ cJ (wA (wA v 0 47 ((v.1 0 47) + (1 : Int32))) 0 48 ((v.1 0 48) + (1 : Int32)))) := hD
            refine W.widen (k := 0) (n := 0) (by omega) (by omega) ?_
            refine lv_aload_n hx hb dX13_operand_141 rfl (lv_at hl 1 rfl) ?_
            obtain ⟨n272, hn273⟩ : ∃ m, n = m + 1 := ⟨n - 1, by omega⟩
            refine cux_v (rx_V (n := 0) (As := []) (rest := []) hx hb hml hown ht hKK hFx hP hD hS hA (ihO n272 hn273 dC dI cI cB cZ cJ cR tb H.size ad N (wA (wA v 0 47 ((v.1 0 47) + (1 : Int32))) 0 48 ((v.1 0 48) + (1 : Int32)))  (show 40 ≤ ((v.1 0 48) + (1 : Int32)).toInt + (n272 : Int) by omega) (show 0 ≤ ((v.1 0 47) + (1 : Int32)).toInt ∧ ((v.1 0 47) + (1 : Int32)).toInt ≤ 1500 by omega) (show 0 ≤ ((v.1 0 48) + (1 : Int32)).toInt ∧ ((v.1 0 48) + (1 : Int32)).toInt ≤ 40 by omega) (show 0 ≤ (v.1 0 30).toInt ∧ (v.1 0 30).toInt ≤ 500 by omega) (show 0 ≤ (v.1 0 33).toInt ∧ (v.1 0 33).toInt ≤ 500 by omega) (show 0 ≤ (v.1 0 32).toInt ∧ (v.1 0 30).toInt + (v.1 0 32).toInt ≤ 500 by omega) (show 0 ≤ (v.1 0 12).toInt ∧ (v.1 0 12).toInt ≤ 15 * ((v.1 0 47) + (1 : Int32)).toInt + 2 by omega) (show 0 ≤ (v.1 0 15).toInt ∧ (v.1 0 15).toInt ≤ 10 * ((v.1 0 47) + (1 : Int32)).toInt + 0 by omega) (show 0 ≤ (v.1 0 43).toInt ∧ (v.1 0 43).toInt ≤ 15 * ((v.1 0 47) + (1 : Int32)).toInt + 0 by omega) (show 0 ≤ (v.1 0 39).toInt ∧ (v.1 0 39).toInt ≤ 1 * ((v.1 0 47) + (1 : Int32)).toInt + 0 by omega) (show 0 ≤ (v.1 0 27).toInt ∧ (v.1 0 27).toInt ≤ 60 by omega) (FG.ti (fl := pfl) (al := pal) (FG.f (FG.f (FG.rf _) ((v.1 0 47) + (1 : Int32)) (by decide)) ((v.1 0 48) + (1 : Int32)) (by decide)) (by decide) (by decide) hT) (n29) (n23) (n35)) tw_114 tw_115 (by decide +kernel) rfl rfl ⟨by show (40 * n272 + 9) + 1 ≤ 40 * n + 9; omega, by show 8 + (2 + 11) + 28 * (40 * n272 + 9) ≤ 28 * (40 * n + 9); omega⟩ (List.range (mW ad N cI cZ cJ (wA (wA v 0 47 ((v.1 0 47) + (1 : Int32))) 0 48 ((v.1 0 48) + (1 : Int32)))).length) (rg_map _) (mW_nd _ _ _ _ _ _) rfl rfl rfl rfl hl.1 rfl (Nat.le_of_ble_eq_true rfl) dX13_operand_142 ⟨Nat.le_of_ble_eq_true rfl, Nat.le_of_ble_eq_true rfl⟩) hP hD hS hA (fun u9 ce9 q9 H locs hx9 hP hD hS hc9 hv9 hf9 => ?_) (fun u275 H locs hw274 hP hD hS => ?_)
            · exact vx_out (fun x h9 => (hnt x h9).elim) hlocks hc9 hv9 hf9 (fun t9 ht9 hv8 => ⟨u9, (FG.tr (FG.f (FG.f (FG.rf _) ((v.1 0 47) + (1 : Int32)) (by decide)) ((v.1 0 48) + (1 : Int32)) (by decide)) hx9), ⟨rfl, by rw [ht9]; exact hP, hD⟩, hS.F ht9⟩) hS.2.2 (by omega) (by omega)
            obtain ⟨fr274, pt274, pb274, pw274, po274, pf274, pk274, pp274, ph274, kc274, ko274, kg274, n35274⟩ := hw274
            have q274_2 : (u275.1 0 2).toInt = (v.1 0 2).toInt := congrArg Int32.toInt ((fr274.2.1 2 (by decide)).trans (show (wA (wA v 0 47 ((v.1 0 47) + (1 : Int32))) 0 48 ((v.1 0 48) + (1 : Int32))).1 0 2 = (v.1 0 2) by rfl))
            have q274_4 : (u275.1 0 4).toInt = (v.1 0 4).toInt := congrArg Int32.toInt ((fr274.2.1 4 (by decide)).trans (show (wA (wA v 0 47 ((v.1 0 47) + (1 : Int32))) 0 48 ((v.1 0 48) + (1 : Int32))).1 0 4 = (v.1 0 4) by rfl))
            have q274_5 : (u275.1 0 5).toInt = (v.1 0 5).toInt := congrArg Int32.toInt ((fr274.2.1 5 (by decide)).trans (show (wA (wA v 0 47 ((v.1 0 47) + (1 : Int32))) 0 48 ((v.1 0 48) + (1 : Int32))).1 0 5 = (v.1 0 5) by rfl))
            have q274_22 : (u275.1 0 22).toInt = (v.1 0 22).toInt := congrArg Int32.toInt ((fr274.2.1 22 (by decide)).trans (show (wA (wA v 0 47 ((v.1 0 47) + (1 : Int32))) 0 48 ((v.1 0 48) + (1 : Int32))).1 0 22 = (v.1 0 22) by rfl))
            have q274_27 : (u275.1 0 27).toInt = (v.1 0 27).toInt := congrArg Int32.toInt ((fr274.2.1 27 (by decide)).trans (show (wA (wA v 0 47 ((v.1 0 47) + (1 : Int32))) 0 48 ((v.1 0 48) + (1 : Int32))).1 0 27 = (v.1 0 27) by rfl))
            have q274_28 : (u275.1 0 28).toInt = (v.1 0 28).toInt := congrArg Int32.toInt ((fr274.2.1 28 (by decide)).trans (show (wA (wA v 0 47 ((v.1 0 47) + (1 : Int32))) 0 48 ((v.1 0 48) + (1 : Int32))).1 0 28 = (v.1 0 28) by rfl))
            have q274_30 : (u275.1 0 30).toInt = (v.1 0 30).toInt := congrArg Int32.toInt ((fr274.2.1 30 (by decide)).trans (show (wA (wA v 0 47 ((v.1 0 47) + (1 : Int32))) 0 48 ((v.1 0 48) + (1 : Int32))).1 0 30 = (v.1 0 30) by rfl))
            have q274_31 : (u275.1 0 31).toInt = (v.1 0 31).toInt := congrArg Int32.toInt ((fr274.2.1 31 (by decide)).trans (show (wA (wA v 0 47 ((v.1 0 47) + (1 : Int32))) 0 48 ((v.1 0 48) + (1 : Int32))).1 0 31 = (v.1 0 31) by rfl))
            have q274_34 : (u275.1 0 34).toInt = (v.1 0 34).toInt := congrArg Int32.toInt ((fr274.2.1 34 (by decide)).trans (show (wA (wA v 0 47 ((v.1 0 47) + (1 : Int32))) 0 48 ((v.1 0 48) + (1 : Int32))).1 0 34 = (v.1 0 34) by rfl))
            have q274_52 : (u275.1 0 52).toInt = (v.1 0 52).toInt := congrArg Int32.toInt ((fr274.2.1 52 (by decide)).trans (show (wA (wA v 0 47 ((v.1 0 47) + (1 : Int32))) 0 48 ((v.1 0 48) + (1 : Int32))).1 0 52 = (v.1 0 52) by rfl))
            have pt274 : ((v.1 0 47) + (1 : Int32)).toInt + 1 ≤ (u275.1 0 47).toInt ∧ (u275.1 0 47).toInt ≤ 1500 := pt274
            have pb274 : (v.1 0 49).toInt ≠ ((v.1 0 47) + (1 : Int32)).toInt := pb274
            have pw274 : (v.1 0 12).toInt ≤ (u275.1 0 12).toInt ∧ (u275.1 0 12).toInt - 15 * (u275.1 0 47).toInt ≤ (v.1 0 12).toInt - 15 * ((v.1 0 47) + (1 : Int32)).toInt := pw274
            have po274 : (v.1 0 15).toInt ≤ (u275.1 0 15).toInt ∧ (u275.1 0 15).toInt - 10 * (u275.1 0 47).toInt ≤ (v.1 0 15).toInt - 10 * ((v.1 0 47) + (1 : Int32)).toInt := po274
            have pf274 : (v.1 0 43).toInt ≤ (u275.1 0 43).toInt ∧ (u275.1 0 43).toInt - 15 * (u275.1 0 47).toInt ≤ (v.1 0 43).toInt - 15 * ((v.1 0 47) + (1 : Int32)).toInt := pf274
            have pk274 : (v.1 0 39).toInt ≤ (u275.1 0 39).toInt ∧ (u275.1 0 39).toInt - 1 * (u275.1 0 47).toInt ≤ (v.1 0 39).toInt - 1 * ((v.1 0 47) + (1 : Int32)).toInt := pk274
            have pp274 : (u275.1 0 32).toInt = (v.1 0 32).toInt ∧ (u275.1 0 48).toInt = ((v.1 0 48) + (1 : Int32)).toInt := pp274
            have ph274 : (v.1 0 33).toInt ≤ (u275.1 0 33).toInt ∧ (u275.1 0 33).toInt ≤ 500 := ph274
            have kc274 : ∀ j : Nat, (j : Int) < (v.1 0 12).toInt → (u275.1 11) j = (v.1 11) j := kc274
            have ko274 : ∀ j : Nat, (j : Int) < (v.1 0 15).toInt → (u275.1 13) j = (v.1 13) j := ko274
            have kg274 : ∀ j : Nat, (j : Int) < (v.1 0 15).toInt → (u275.1 14) j = (v.1 14) j := kg274
            have n35274 : NI 35 u275 := n35274
            refine W.widen (k := 0) (n := 0) (by omega) (by omega) ?_
            refine lv_aload_n hx hb dX13_operand_145 rfl (lv_at hl 1 rfl) ?_
            refine lv_dup hx hb dX13_operand_146 rfl ?_
            refine va_get (D := (dC, dI)) (ci := 16) (fs := mF ad u275) (v := .int (u275.1 0 48)) (C := RX13) (T := TX13) (N := 124) hx hb ht itX13 hown hK hP 0 rfl rfl 48 (by decide) (ht _ tw_31) (fun _ h9 => h9) rfl dX13_operand_147 ?_
            refine lv_iconst (v := 1) hx hb dX13_operand_150 (by decide) ?_
            refine lv_isub hx hb dX13_operand_151 ?_
            have z277 : ((u275.1 0 48) - (1 : Int32)).toInt = (u275.1 0 48).toInt - 1 := sub_z rfl (show (1 : Int32).toInt = 1 by decide) (by omega) (by omega)
            refine va_put (D := (dC, dI)) (ci := 16) (fs := mF ad u275) (v := .int ((u275.1 0 48) - (1 : Int32))) (ty := .int) (C := RX13) (T := TX13) (N := 124) hx hb ht itX13 tyX13 tyX13_ok nmX13 hown hK hP hD hS 0 rfl rfl 48 (by decide) (ht _ tw_31) (fun _ h9 => h9) rfl (by decide +kernel) rfl rfl (Nat.le_of_ble_eq_true rfl) dX13_operand_152 (fun H locs hP hD hS => ?_)
            have hP := cP_ (mw_48 ad N cI cZ cJ u275 ((u275.1 0 48) - (1 : Int32))) hP
            have hD := cD_ (mw_48 ad N cI cZ cJ u275 ((u275.1 0 48) - (1 : Int32))) hD
            refine lv_aload_n hx hb dX13_operand_155 rfl (lv_at hl 1 rfl) ?_
            refine lv_iload_n hx hb dX13_operand_156 rfl (lv_at hl 0 rfl) ?_
            refine lv_bipush (v := 45) hx hb dX13_operand_157 (by decide) ?_
            refine lv_icmp_ne (tgt := 176) hx hb dX13_operand_159 (by decide) (fun h278 => ?_) (fun h278 => ?_)
            · have z279 : ((v.2 (v.1 0 47).toNatClampNeg).toInt32).toInt ≠ 45 := ne_z rfl (show (45 : Int32).toInt = 45 by decide) h278
              refine lv_iload_n hx hb dX13_operand_176 rfl (lv_at hl 0 rfl) ?_
              refine lv_bipush (v := 33) hx hb dX13_operand_177 (by decide) ?_
              refine lv_icmp_ne (tgt := 196) hx hb dX13_operand_179 (by decide) (fun h280 => ?_) (fun h280 => ?_)
              · have z281 : ((v.2 (v.1 0 47).toNatClampNeg).toInt32).toInt ≠ 33 := ne_z rfl (show (33 : Int32).toInt = 33 by decide) h280
                refine lv_bipush (v := 19) hx hb dX13_operand_196 (by decide) ?_
                refine lv_iconst (v := 4) hx hb dX13_operand_198 (by decide) ?_
                refine lv_bipush (v := 10) hx hb dX13_operand_199 (by decide) ?_
                refine lv_bipush (v := 10) hx hb dX13_operand_201 (by decide) ?_
                refine lv_iconst (v := -1) hx hb dX13_operand_203 (by decide) ?_
                refine cu_s (mW_nd _ _ _ _ _ _) (rn_S (n := 5) (As := [.int 19, .int 4, .int 10, .int 10, .int (-1)]) (rest := [.ref (ad 0)]) hx hb hml hown ht hKK hFx hP hD hS hA (c_m_byI l dC dI cI cB cZ cJ cR tb H.size (19 : Int32) (4 : Int32) (10 : Int32) (10 : Int32) (-1 : Int32) ) tw_2 tw_3 (by decide +kernel) rfl rfl ⟨by show 0 + 1 ≤ 40 * n + 9; omega, by show 8 + (5 + 11) + 0 ≤ 28 * (40 * n + 9); omega⟩ [] rfl rfl rfl hl.1 rfl (Nat.le_of_ble_eq_true rfl) dX13_operand_204 ⟨Nat.le_of_ble_eq_true rfl, Nat.le_of_ble_eq_true rfl⟩) hP hD hS hA (fun r284 H locs hw282 hP hD hS => ?_)
                refine W.widen (k := 0) (n := 0) (by omega) (by omega) ?_
                refine cu_i (rn_V (n := 1) (As := [.int r284]) (rest := []) hx hb hml hown ht hKK hFx hP hD hS hA (c_m_emit l dC dI cI cB cZ cJ cR tb H.size ad N (wA u275 0 48 ((u275.1 0 48) - (1 : Int32))) r284 (show 0 ≤ (u275.1 0 12).toInt ∧ (u275.1 0 12).toInt < 24000 by omega)) tw_8 tw_9 (by decide +kernel) rfl rfl ⟨by show 0 + 1 ≤ 40 * n + 9; omega, by show 8 + (2 + 11) + 0 ≤ 28 * (40 * n + 9); omega⟩ (List.range (mW ad N cI cZ cJ (wA u275 0 48 ((u275.1 0 48) - (1 : Int32)))).length) (rg_map _) (mW_nd _ _ _ _ _ _) rfl rfl rfl rfl hl.1 rfl (Nat.le_of_ble_eq_true rfl) dX13_operand_207 ⟨Nat.le_of_ble_eq_true rfl, Nat.le_of_ble_eq_true rfl⟩) hP hD hS hA (fun r287 u286 H locs hw285 hP hD hS => ?_)
                obtain ⟨rfl, rfl⟩ := hw285
                have z288 : ((u275.1 0 12) + (1 : Int32)).toInt = (u275.1 0 12).toInt + 1 := add_z rfl (show (1 : Int32).toInt = 1 by decide) (by omega) (by omega)
                have hP : va_P (dC, dI) vwCl (mW ad N cI cZ cJ (wA (wA (wA u275 0 48 ((u275.1 0 48) - (1 : Int32))) 11 ((u275.1 0 12).toNatClampNeg) r284) 0 12 ((u275.1 0 12) + (1 : Int32)))) H := hP
                have hD : va_D A (mW ad N cI cZ cJ (wA (wA (wA u275 0 48 ((u275.1 0 48) - (1 : Int32))) 11 ((u275.1 0 12).toNatClampNeg) r284) 0 12 ((u275.1 0 12) + (1 : Int32)))) := hD
                refine tp_i (y := (u275.1 0 12)) (rfl) ?_
                refine W.widen (k := 0) (n := 0) (by omega) (by omega) ?_
                refine lv_pop hx hb dX13_operand_210 rfl ?_
                refine lv_aload_n hx hb dX13_operand_211 rfl (lv_at hl 1 rfl) ?_
                refine lv_iload_n hx hb dX13_operand_212 rfl (lv_at hl 0 rfl) ?_
                refine lv_bipush (v := 45) hx hb dX13_operand_213 (by decide) ?_
                refine lv_icmp_ne (tgt := 223) hx hb dX13_operand_215 (by decide) (fun h289 => ?_) (fun h289 => ?_)
                · have z290 : ((v.2 (v.1 0 47).toNatClampNeg).toInt32).toInt ≠ 45 := ne_z rfl (show (45 : Int32).toInt = 45 by decide) h289
                  refine lv_iload_n hx hb dX13_operand_223 rfl (lv_at hl 0 rfl) ?_
                  refine lv_bipush (v := 33) hx hb dX13_operand_224 (by decide) ?_
                  refine lv_icmp_ne (tgt := 234) hx hb dX13_operand_226 (by decide) (fun h291 => ?_) (fun h291 => ?_)
                  · have z292 : ((v.2 (v.1 0 47).toNatClampNeg).toInt32).toInt ≠ 33 := ne_z rfl (show (33 : Int32).toInt = 33 by decide) h291
                    refine lv_bipush (v := 20) hx hb dX13_operand_234 (by decide) ?_
                    refine lv_iconst (v := 0) hx hb dX13_operand_236 (by decide) ?_
                    refine cu_i (rn_V (n := 2) (As := [.int 20, .int 0]) (rest := []) hx hb hml hown ht hKK hFx hP hD hS hA (c_m_say l dC dI cI cB cZ cJ cR tb H.size ad N (wA (wA (wA u275 0 48 ((u275.1 0 48) - (1 : Int32))) 11 ((u275.1 0 12).toNatClampNeg) r284) 0 12 ((u275.1 0 12) + (1 : Int32))) (20 : Int32) (0 : Int32) (show 0 ≤ (u275.1 0 15).toInt ∧ (u275.1 0 15).toInt < 16000 by omega)) tw_59 tw_60 (by decide +kernel) rfl rfl ⟨by show 0 + 1 ≤ 40 * n + 9; omega, by show 8 + (3 + 11) + 0 ≤ 28 * (40 * n + 9); omega⟩ (List.range (mW ad N cI cZ cJ (wA (wA (wA u275 0 48 ((u275.1 0 48) - (1 : Int32))) 11 ((u275.1 0 12).toNatClampNeg) r284) 0 12 ((u275.1 0 12) + (1 : Int32)))).length) (rg_map _) (mW_nd _ _ _ _ _ _) rfl rfl rfl rfl hl.1 rfl (Nat.le_of_ble_eq_true rfl) dX13_operand_237 ⟨Nat.le_of_ble_eq_true rfl, Nat.le_of_ble_eq_true rfl⟩) hP hD hS hA (fun r295 u294 H locs hw293 hP hD hS => ?_)
                    obtain ⟨rfl, rfl⟩ := hw293
                    have z296 : ((u275.1 0 15) + (1 : Int32)).toInt = (u275.1 0 15).toInt + 1 := add_z rfl (show (1 : Int32).toInt = 1 by decide) (by omega) (by omega)
                    have hP : va_P (dC, dI) vwCl (mW ad N cI cZ cJ (wA (wA (wA (wA (wA (wA u275 0 48 ((u275.1 0 48) - (1 : Int32))) 11 ((u275.1 0 12).toNatClampNeg) r284) 0 12 ((u275.1 0 12) + (1 : Int32))) 13 ((u275.1 0 15).toNatClampNeg) (20 : Int32)) 14 ((u275.1 0 15).toNatClampNeg) (0 : Int32)) 0 15 ((u275.1 0 15) + (1 : Int32)))) H := hP
                    have hD : va_D A (mW ad N cI cZ cJ (wA (wA (wA (wA (wA (wA u275 0 48 ((u275.1 0 48) - (1 : Int32))) 11 ((u275.1 0 12).toNatClampNeg) r284) 0 12 ((u275.1 0 12) + (1 : Int32))) 13 ((u275.1 0 15).toNatClampNeg) (20 : Int32)) 14 ((u275.1 0 15).toNatClampNeg) (0 : Int32)) 0 15 ((u275.1 0 15) + (1 : Int32)))) := hD
                    refine tp_i (y := (u275.1 0 15)) (rfl) ?_
                    refine W.widen (k := 0) (n := 0) (by omega) (by omega) ?_
                    refine lv_pop hx hb dX13_operand_240 rfl ?_
                    refine lv_goto (tgt := 386) hx hb dX13_operand_241 (by decide) ?_
                    refine vx_ret ?_
                    exact W.vret hx hb hr (fun t ht9 hW => ⟨⟨(wA (wA (wA (wA (wA (wA u275 0 48 ((u275.1 0 48) - (1 : Int32))) 11 ((u275.1 0 12).toNatClampNeg) r284) 0 12 ((u275.1 0 12) + (1 : Int32))) 13 ((u275.1 0 15).toNatClampNeg) (20 : Int32)) 14 ((u275.1 0 15).toNatClampNeg) (0 : Int32)) 0 15 ((u275.1 0 15) + (1 : Int32))), rfl, ⟨(FG.f (FG.a (FG.a (FG.f (FG.a (FG.f (FG.tr (FG.f (FG.f (FG.rf _) ((v.1 0 47) + (1 : Int32)) (by decide)) ((v.1 0 48) + (1 : Int32)) (by decide)) (FG.up fr274 (by decide) (by decide))) ((u275.1 0 48) - (1 : Int32)) (by decide)) ((u275.1 0 12).toNatClampNeg) r284 (by decide) (by decide)) ((u275.1 0 12) + (1 : Int32)) (by decide)) ((u275.1 0 15).toNatClampNeg) (20 : Int32) (by decide) (by decide)) ((u275.1 0 15).toNatClampNeg) (0 : Int32) (by decide) (by decide)) ((u275.1 0 15) + (1 : Int32)) (by decide)), (show (v.1 0 47).toInt + 1 ≤ (u275.1 0 47).toInt ∧ (u275.1 0 47).toInt ≤ 1500 by omega), (show (v.1 0 49).toInt ≠ (v.1 0 47).toInt by omega), (show (v.1 0 12).toInt ≤ ((u275.1 0 12) + (1 : Int32)).toInt ∧ ((u275.1 0 12) + (1 : Int32)).toInt - 15 * (u275.1 0 47).toInt ≤ (v.1 0 12).toInt - 15 * (v.1 0 47).toInt by omega), (show (v.1 0 15).toInt ≤ ((u275.1 0 15) + (1 : Int32)).toInt ∧ ((u275.1 0 15) + (1 : Int32)).toInt - 10 * (u275.1 0 47).toInt ≤ (v.1 0 15).toInt - 10 * (v.1 0 47).toInt by omega), (show (v.1 0 43).toInt ≤ (u275.1 0 43).toInt ∧ (u275.1 0 43).toInt - 15 * (u275.1 0 47).toInt ≤ (v.1 0 43).toInt - 15 * (v.1 0 47).toInt by omega), (show (v.1 0 39).toInt ≤ (u275.1 0 39).toInt ∧ (u275.1 0 39).toInt - 1 * (u275.1 0 47).toInt ≤ (v.1 0 39).toInt - 1 * (v.1 0 47).toInt by omega), (show (u275.1 0 32).toInt = (v.1 0 32).toInt ∧ ((u275.1 0 48) - (1 : Int32)).toInt = (v.1 0 48).toInt by omega), (show (v.1 0 33).toInt ≤ (u275.1 0 33).toInt ∧ (u275.1 0 33).toInt ≤ 500 by omega), (fun (j9 : Nat) hj9 => (Eq.trans (pk_un (by have := cl_z (a := (u275.1 0 12).toInt) rfl (by omega); omega)) (kc274 j9 (by omega)))), (fun (j9 : Nat) hj9 => (Eq.trans (pk_un (by have := cl_z (a := (u275.1 0 15).toInt) rfl (by omega); omega)) (ko274 j9 (by omega)))), (fun (j9 : Nat) hj9 => (Eq.trans (pk_un (by have := cl_z (a := (u275.1 0 15).toInt) rfl (by omega); omega)) (kg274 j9 (by omega)))), n35274⟩, by rw [ht9]; exact hP, hD⟩, hS.F ht9⟩) hS.2.2 dX13_operand_386
                  · have z297 : ((v.2 (v.1 0 47).toNatClampNeg).toInt32).toInt = 33 := eq_z rfl (show (33 : Int32).toInt = 33 by decide) h291
                    exfalso; omega
                · have z298 : ((v.2 (v.1 0 47).toNatClampNeg).toInt32).toInt = 45 := eq_z rfl (show (45 : Int32).toInt = 45 by decide) h289
                  exfalso; omega
              · have z299 : ((v.2 (v.1 0 47).toNatClampNeg).toInt32).toInt = 33 := eq_z rfl (show (33 : Int32).toInt = 33 by decide) h280
                refine lv_bipush (v := 19) hx hb dX13_operand_182 (by decide) ?_
                refine lv_iconst (v := 3) hx hb dX13_operand_184 (by decide) ?_
                refine lv_bipush (v := 10) hx hb dX13_operand_185 (by decide) ?_
                refine lv_bipush (v := 10) hx hb dX13_operand_187 (by decide) ?_
                refine lv_iconst (v := 1) hx hb dX13_operand_189 (by decide) ?_
                refine cu_s (mW_nd _ _ _ _ _ _) (rn_S (n := 5) (As := [.int 19, .int 3, .int 10, .int 10, .int 1]) (rest := [.ref (ad 0)]) hx hb hml hown ht hKK hFx hP hD hS hA (c_m_byI l dC dI cI cB cZ cJ cR tb H.size (19 : Int32) (3 : Int32) (10 : Int32) (10 : Int32) (1 : Int32) ) tw_2 tw_3 (by decide +kernel) rfl rfl ⟨by show 0 + 1 ≤ 40 * n + 9; omega, by show 8 + (5 + 11) + 0 ≤ 28 * (40 * n + 9); omega⟩ [] rfl rfl rfl hl.1 rfl (Nat.le_of_ble_eq_true rfl) dX13_operand_190 ⟨Nat.le_of_ble_eq_true rfl, Nat.le_of_ble_eq_true rfl⟩) hP hD hS hA (fun r302 H locs hw300 hP hD hS => ?_)
                refine W.widen (k := 0) (n := 0) (by omega) (by omega) ?_
                refine lv_goto (tgt := 207) hx hb dX13_operand_193 (by decide) ?_
                refine cu_i (rn_V (n := 1) (As := [.int r302]) (rest := []) hx hb hml hown ht hKK hFx hP hD hS hA (c_m_emit l dC dI cI cB cZ cJ cR tb H.size ad N (wA u275 0 48 ((u275.1 0 48) - (1 : Int32))) r302 (show 0 ≤ (u275.1 0 12).toInt ∧ (u275.1 0 12).toInt < 24000 by omega)) tw_8 tw_9 (by decide +kernel) rfl rfl ⟨by show 0 + 1 ≤ 40 * n + 9; omega, by show 8 + (2 + 11) + 0 ≤ 28 * (40 * n + 9); omega⟩ (List.range (mW ad N cI cZ cJ (wA u275 0 48 ((u275.1 0 48) - (1 : Int32)))).length) (rg_map _) (mW_nd _ _ _ _ _ _) rfl rfl rfl rfl hl.1 rfl (Nat.le_of_ble_eq_true rfl) dX13_operand_207 ⟨Nat.le_of_ble_eq_true rfl, Nat.le_of_ble_eq_true rfl⟩) hP hD hS hA (fun r305 u304 H locs hw303 hP hD hS => ?_)
                obtain ⟨rfl, rfl⟩ := hw303
                have z306 : ((u275.1 0 12) + (1 : Int32)).toInt = (u275.1 0 12).toInt + 1 := add_z rfl (show (1 : Int32).toInt = 1 by decide) (by omega) (by omega)
                have hP : va_P (dC, dI) vwCl (mW ad N cI cZ cJ (wA (wA (wA u275 0 48 ((u275.1 0 48) - (1 : Int32))) 11 ((u275.1 0 12).toNatClampNeg) r302) 0 12 ((u275.1 0 12) + (1 : Int32)))) H := hP
                have hD : va_D A (mW ad N cI cZ cJ (wA (wA (wA u275 0 48 ((u275.1 0 48) - (1 : Int32))) 11 ((u275.1 0 12).toNatClampNeg) r302) 0 12 ((u275.1 0 12) + (1 : Int32)))) := hD
                refine tp_i (y := (u275.1 0 12)) (rfl) ?_
                refine W.widen (k := 0) (n := 0) (by omega) (by omega) ?_
                refine lv_pop hx hb dX13_operand_210 rfl ?_
                refine lv_aload_n hx hb dX13_operand_211 rfl (lv_at hl 1 rfl) ?_
                refine lv_iload_n hx hb dX13_operand_212 rfl (lv_at hl 0 rfl) ?_
                refine lv_bipush (v := 45) hx hb dX13_operand_213 (by decide) ?_
                refine lv_icmp_ne (tgt := 223) hx hb dX13_operand_215 (by decide) (fun h307 => ?_) (fun h307 => ?_)
                · have z308 : ((v.2 (v.1 0 47).toNatClampNeg).toInt32).toInt ≠ 45 := ne_z rfl (show (45 : Int32).toInt = 45 by decide) h307
                  refine lv_iload_n hx hb dX13_operand_223 rfl (lv_at hl 0 rfl) ?_
                  refine lv_bipush (v := 33) hx hb dX13_operand_224 (by decide) ?_
                  refine lv_icmp_ne (tgt := 234) hx hb dX13_operand_226 (by decide) (fun h309 => ?_) (fun h309 => ?_)
                  · have z310 : ((v.2 (v.1 0 47).toNatClampNeg).toInt32).toInt ≠ 33 := ne_z rfl (show (33 : Int32).toInt = 33 by decide) h309
                    exfalso; omega
                  · have z311 : ((v.2 (v.1 0 47).toNatClampNeg).toInt32).toInt = 33 := eq_z rfl (show (33 : Int32).toInt = 33 by decide) h309
                    refine lv_bipush (v := 19) hx hb dX13_operand_229 (by decide) ?_
                    refine lv_goto (tgt := 236) hx hb dX13_operand_231 (by decide) ?_
                    refine lv_iconst (v := 0) hx hb dX13_operand_236 (by decide) ?_
                    refine cu_i (rn_V (n := 2) (As := [.int 19, .int 0]) (rest := []) hx hb hml hown ht hKK hFx hP hD hS hA (c_m_say l dC dI cI cB cZ cJ cR tb H.size ad N (wA (wA (wA u275 0 48 ((u275.1 0 48) - (1 : Int32))) 11 ((u275.1 0 12).toNatClampNeg) r302) 0 12 ((u275.1 0 12) + (1 : Int32))) (19 : Int32) (0 : Int32) (show 0 ≤ (u275.1 0 15).toInt ∧ (u275.1 0 15).toInt < 16000 by omega)) tw_59 tw_60 (by decide +kernel) rfl rfl ⟨by show 0 + 1 ≤ 40 * n + 9; omega, by show 8 + (3 + 11) + 0 ≤ 28 * (40 * n + 9); omega⟩ (List.range (mW ad N cI cZ cJ (wA (wA (wA u275 0 48 ((u275.1 0 48) - (1 : Int32))) 11 ((u275.1 0 12).toNatClampNeg) r302) 0 12 ((u275.1 0 12) + (1 : Int32)))).length) (rg_map _) (mW_nd _ _ _ _ _ _) rfl rfl rfl rfl hl.1 rfl (Nat.le_of_ble_eq_true rfl) dX13_operand_237 ⟨Nat.le_of_ble_eq_true rfl, Nat.le_of_ble_eq_true rfl⟩) hP hD hS hA (fun r314 u313 H locs hw312 hP hD hS => ?_)
                    obtain ⟨rfl, rfl⟩ := hw312
                    have z315 : ((u275.1 0 15) + (1 : Int32)).toInt = (u275.1 0 15).toInt + 1 := add_z rfl (show (1 : Int32).toInt = 1 by decide) (by omega) (by omega)
                    have hP : va_P (dC, dI) vwCl (mW ad N cI cZ cJ (wA (wA (wA (wA (wA (wA u275 0 48 ((u275.1 0 48) - (1 : Int32))) 11 ((u275.1 0 12).toNatClampNeg) r302) 0 12 ((u275.1 0 12) + (1 : Int32))) 13 ((u275.1 0 15).toNatClampNeg) (19 : Int32)) 14 ((u275.1 0 15).toNatClampNeg) (0 : Int32)) 0 15 ((u275.1 0 15) + (1 : Int32)))) H := hP
                    have hD : va_D A (mW ad N cI cZ cJ (wA (wA (wA (wA (wA (wA u275 0 48 ((u275.1 0 48) - (1 : Int32))) 11 ((u275.1 0 12).toNatClampNeg) r302) 0 12 ((u275.1 0 12) + (1 : Int32))) 13 ((u275.1 0 15).toNatClampNeg) (19 : Int32)) 14 ((u275.1 0 15).toNatClampNeg) (0 : Int32)) 0 15 ((u275.1 0 15) + (1 : Int32)))) := hD
                    refine tp_i (y := (u275.1 0 15)) (rfl) ?_
                    refine W.widen (k := 0) (n := 0) (by omega) (by omega) ?_
                    refine lv_pop hx hb dX13_operand_240 rfl ?_
                    refine lv_goto (tgt := 386) hx hb dX13_operand_241 (by decide) ?_
                    refine vx_ret ?_
                    exact W.vret hx hb hr (fun t ht9 hW => ⟨⟨(wA (wA (wA (wA (wA (wA u275 0 48 ((u275.1 0 48) - (1 : Int32))) 11 ((u275.1 0 12).toNatClampNeg) r302) 0 12 ((u275.1 0 12) + (1 : Int32))) 13 ((u275.1 0 15).toNatClampNeg) (19 : Int32)) 14 ((u275.1 0 15).toNatClampNeg) (0 : Int32)) 0 15 ((u275.1 0 15) + (1 : Int32))), rfl, ⟨(FG.f (FG.a (FG.a (FG.f (FG.a (FG.f (FG.tr (FG.f (FG.f (FG.rf _) ((v.1 0 47) + (1 : Int32)) (by decide)) ((v.1 0 48) + (1 : Int32)) (by decide)) (FG.up fr274 (by decide) (by decide))) ((u275.1 0 48) - (1 : Int32)) (by decide)) ((u275.1 0 12).toNatClampNeg) r302 (by decide) (by decide)) ((u275.1 0 12) + (1 : Int32)) (by decide)) ((u275.1 0 15).toNatClampNeg) (19 : Int32) (by decide) (by decide)) ((u275.1 0 15).toNatClampNeg) (0 : Int32) (by decide) (by decide)) ((u275.1 0 15) + (1 : Int32)) (by decide)), (show (v.1 0 47).toInt + 1 ≤ (u275.1 0 47).toInt ∧ (u275.1 0 47).toInt ≤ 1500 by omega), (show (v.1 0 49).toInt ≠ (v.1 0 47).toInt by omega), (show (v.1 0 12).toInt ≤ ((u275.1 0 12) + (1 : Int32)).toInt ∧ ((u275.1 0 12) + (1 : Int32)).toInt - 15 * (u275.1 0 47).toInt ≤ (v.1 0 12).toInt - 15 * (v.1 0 47).toInt by omega), (show (v.1 0 15).toInt ≤ ((u275.1 0 15) + (1 : Int32)).toInt ∧ ((u275.1 0 15) + (1 : Int32)).toInt - 10 * (u275.1 0 47).toInt ≤ (v.1 0 15).toInt - 10 * (v.1 0 47).toInt by omega), (show (v.1 0 43).toInt ≤ (u275.1 0 43).toInt ∧ (u275.1 0 43).toInt - 15 * (u275.1 0 47).toInt ≤ (v.1 0 43).toInt - 15 * (v.1 0 47).toInt by omega), (show (v.1 0 39).toInt ≤ (u275.1 0 39).toInt ∧ (u275.1 0 39).toInt - 1 * (u275.1 0 47).toInt ≤ (v.1 0 39).toInt - 1 * (v.1 0 47).toInt by omega), (show (u275.1 0 32).toInt = (v.1 0 32).toInt ∧ ((u275.1 0 48) - (1 : Int32)).toInt = (v.1 0 48).toInt by omega), (show (v.1 0 33).toInt ≤ (u275.1 0 33).toInt ∧ (u275.1 0 33).toInt ≤ 500 by omega), (fun (j9 : Nat) hj9 => (Eq.trans (pk_un (by have := cl_z (a := (u275.1 0 12).toInt) rfl (by omega); omega)) (kc274 j9 (by omega)))), (fun (j9 : Nat) hj9 => (Eq.trans (pk_un (by have := cl_z (a := (u275.1 0 15).toInt) rfl (by omega); omega)) (ko274 j9 (by omega)))), (fun (j9 : Nat) hj9 => (Eq.trans (pk_un (by have := cl_z (a := (u275.1 0 15).toInt) rfl (by omega); omega)) (kg274 j9 (by omega)))), n35274⟩, by rw [ht9]; exact hP, hD⟩, hS.F ht9⟩) hS.2.2 dX13_operand_386
                · have z316 : ((v.2 (v.1 0 47).toNatClampNeg).toInt32).toInt = 45 := eq_z rfl (show (45 : Int32).toInt = 45 by decide) h307
                  exfalso; omega
            · have z317 : ((v.2 (v.1 0 47).toNatClampNeg).toInt32).toInt = 45 := eq_z rfl (show (45 : Int32).toInt = 45 by decide) h278
              refine lv_bipush (v := 32) hx hb dX13_operand_162 (by decide) ?_
              refine lv_iconst (v := 0) hx hb dX13_operand_164 (by decide) ?_
              refine lv_bipush (v := 10) hx hb dX13_operand_165 (by decide) ?_
              refine lv_iconst (v := 0) hx hb dX13_operand_167 (by decide) ?_
              refine lv_bipush (v := 10) hx hb dX13_operand_168 (by decide) ?_
              refine cu_s (mW_nd _ _ _ _ _ _) (rn_S (n := 5) (As := [.int 32, .int 0, .int 10, .int 0, .int 10]) (rest := [.ref (ad 0)]) hx hb hml hown ht hKK hFx hP hD hS hA (c_m_byR l dC dI cI cB cZ cJ cR tb H.size (32 : Int32) (0 : Int32) (10 : Int32) (0 : Int32) (10 : Int32) ) tw_67 tw_68 (by decide +kernel) rfl rfl ⟨by show 0 + 1 ≤ 40 * n + 9; omega, by show 8 + (5 + 11) + 0 ≤ 28 * (40 * n + 9); omega⟩ [] rfl rfl rfl hl.1 rfl (Nat.le_of_ble_eq_true rfl) dX13_operand_170 ⟨Nat.le_of_ble_eq_true rfl, Nat.le_of_ble_eq_true rfl⟩) hP hD hS hA (fun r320 H locs hw318 hP hD hS => ?_)
              refine W.widen (k := 0) (n := 0) (by omega) (by omega) ?_
              refine lv_goto (tgt := 207) hx hb dX13_operand_173 (by decide) ?_
              refine cu_i (rn_V (n := 1) (As := [.int r320]) (rest := []) hx hb hml hown ht hKK hFx hP hD hS hA (c_m_emit l dC dI cI cB cZ cJ cR tb H.size ad N (wA u275 0 48 ((u275.1 0 48) - (1 : Int32))) r320 (show 0 ≤ (u275.1 0 12).toInt ∧ (u275.1 0 12).toInt < 24000 by omega)) tw_8 tw_9 (by decide +kernel) rfl rfl ⟨by show 0 + 1 ≤ 40 * n + 9; omega, by show 8 + (2 + 11) + 0 ≤ 28 * (40 * n + 9); omega⟩ (List.range (mW ad N cI cZ cJ (wA u275 0 48 ((u275.1 0 48) - (1 : Int32)))).length) (rg_map _) (mW_nd _ _ _ _ _ _) rfl rfl rfl rfl hl.1 rfl (Nat.le_of_ble_eq_true rfl) dX13_operand_207 ⟨Nat.le_of_ble_eq_true rfl, Nat.le_of_ble_eq_true rfl⟩) hP hD hS hA (fun r323 u322 H locs hw321 hP hD hS => ?_)
              obtain ⟨rfl, rfl⟩ := hw321
              have z324 : ((u275.1 0 12) + (1 : Int32)).toInt = (u275.1 0 12).toInt + 1 := add_z rfl (show (1 : Int32).toInt = 1 by decide) (by omega) (by omega)
              have hP : va_P (dC, dI) vwCl (mW ad N cI cZ cJ (wA (wA (wA u275 0 48 ((u275.1 0 48) - (1 : Int32))) 11 ((u275.1 0 12).toNatClampNeg) r320) 0 12 ((u275.1 0 12) + (1 : Int32)))) H := hP
              have hD : va_D A (mW ad N cI cZ cJ (wA (wA (wA u275 0 48 ((u275.1 0 48) - (1 : Int32))) 11 ((u275.1 0 12).toNatClampNeg) r320) 0 12 ((u275.1 0 12) + (1 : Int32)))) := hD
              refine tp_i (y := (u275.1 0 12)) (rfl) ?_
              refine W.widen (k := 0) (n := 0) (by omega) (by omega) ?_
              refine lv_pop hx hb dX13_operand_210 rfl ?_
              refine lv_aload_n hx hb dX13_operand_211 rfl (lv_at hl 1 rfl) ?_
              refine lv_iload_n hx hb dX13_operand_212 rfl (lv_at hl 0 rfl) ?_
              refine lv_bipush (v := 45) hx hb dX13_operand_213 (by decide) ?_
              refine lv_icmp_ne (tgt := 223) hx hb dX13_operand_215 (by decide) (fun h325 => ?_) (fun h325 => ?_)
              · have z326 : ((v.2 (v.1 0 47).toNatClampNeg).toInt32).toInt ≠ 45 := ne_z rfl (show (45 : Int32).toInt = 45 by decide) h325
                exfalso; omega
              · have z327 : ((v.2 (v.1 0 47).toNatClampNeg).toInt32).toInt = 45 := eq_z rfl (show (45 : Int32).toInt = 45 by decide) h325
                refine lv_bipush (v := 18) hx hb dX13_operand_218 (by decide) ?_
                refine lv_goto (tgt := 236) hx hb dX13_operand_220 (by decide) ?_
                refine lv_iconst (v := 0) hx hb dX13_operand_236 (by decide) ?_
                refine cu_i (rn_V (n := 2) (As := [.int 18, .int 0]) (rest := []) hx hb hml hown ht hKK hFx hP hD hS hA (c_m_say l dC dI cI cB cZ cJ cR tb H.size ad N (wA (wA (wA u275 0 48 ((u275.1 0 48) - (1 : Int32))) 11 ((u275.1 0 12).toNatClampNeg) r320) 0 12 ((u275.1 0 12) + (1 : Int32))) (18 : Int32) (0 : Int32) (show 0 ≤ (u275.1 0 15).toInt ∧ (u275.1 0 15).toInt < 16000 by omega)) tw_59 tw_60 (by decide +kernel) rfl rfl ⟨by show 0 + 1 ≤ 40 * n + 9; omega, by show 8 + (3 + 11) + 0 ≤ 28 * (40 * n + 9); omega⟩ (List.range (mW ad N cI cZ cJ (wA (wA (wA u275 0 48 ((u275.1 0 48) - (1 : Int32))) 11 ((u275.1 0 12).toNatClampNeg) r320) 0 12 ((u275.1 0 12) + (1 : Int32)))).length) (rg_map _) (mW_nd _ _ _ _ _ _) rfl rfl rfl rfl hl.1 rfl (Nat.le_of_ble_eq_true rfl) dX13_operand_237 ⟨Nat.le_of_ble_eq_true rfl, Nat.le_of_ble_eq_true rfl⟩) hP hD hS hA (fun r330 u329 H locs hw328 hP hD hS => ?_)
                obtain ⟨rfl, rfl⟩ := hw328
                have z331 : ((u275.1 0 15) + (1 : Int32)).toInt = (u275.1 0 15).toInt + 1 := add_z rfl (show (1 : Int32).toInt = 1 by decide) (by omega) (by omega)
                have hP : va_P (dC, dI) vwCl (mW ad N cI cZ cJ (wA (wA (wA (wA (wA (wA u275 0 48 ((u275.1 0 48) - (1 : Int32))) 11 ((u275.1 0 12).toNatClampNeg) r320) 0 12 ((u275.1 0 12) + (1 : Int32))) 13 ((u275.1 0 15).toNatClampNeg) (18 : Int32)) 14 ((u275.1 0 15).toNatClampNeg) (0 : Int32)) 0 15 ((u275.1 0 15) + (1 : Int32)))) H := hP
                have hD : va_D A (mW ad N cI cZ cJ (wA (wA (wA (wA (wA (wA u275 0 48 ((u275.1 0 48) - (1 : Int32))) 11 ((u275.1 0 12).toNatClampNeg) r320) 0 12 ((u275.1 0 12) + (1 : Int32))) 13 ((u275.1 0 15).toNatClampNeg) (18 : Int32)) 14 ((u275.1 0 15).toNatClampNeg) (0 : Int32)) 0 15 ((u275.1 0 15) + (1 : Int32)))) := hD
                refine tp_i (y := (u275.1 0 15)) (rfl) ?_
                refine W.widen (k := 0) (n := 0) (by omega) (by omega) ?_
                refine lv_pop hx hb dX13_operand_240 rfl ?_
                refine lv_goto (tgt := 386) hx hb dX13_operand_241 (by decide) ?_
                refine vx_ret ?_
                exact W.vret hx hb hr (fun t ht9 hW => ⟨⟨(wA (wA (wA (wA (wA (wA u275 0 48 ((u275.1 0 48) - (1 : Int32))) 11 ((u275.1 0 12).toNatClampNeg) r320) 0 12 ((u275.1 0 12) + (1 : Int32))) 13 ((u275.1 0 15).toNatClampNeg) (18 : Int32)) 14 ((u275.1 0 15).toNatClampNeg) (0 : Int32)) 0 15 ((u275.1 0 15) + (1 : Int32))), rfl, ⟨(FG.f (FG.a (FG.a (FG.f (FG.a (FG.f (FG.tr (FG.f (FG.f (FG.rf _) ((v.1 0 47) + (1 : Int32)) (by decide)) ((v.1 0 48) + (1 : Int32)) (by decide)) (FG.up fr274 (by decide) (by decide))) ((u275.1 0 48) - (1 : Int32)) (by decide)) ((u275.1 0 12).toNatClampNeg) r320 (by decide) (by decide)) ((u275.1 0 12) + (1 : Int32)) (by decide)) ((u275.1 0 15).toNatClampNeg) (18 : Int32) (by decide) (by decide)) ((u275.1 0 15).toNatClampNeg) (0 : Int32) (by decide) (by decide)) ((u275.1 0 15) + (1 : Int32)) (by decide)), (show (v.1 0 47).toInt + 1 ≤ (u275.1 0 47).toInt ∧ (u275.1 0 47).toInt ≤ 1500 by omega), (show (v.1 0 49).toInt ≠ (v.1 0 47).toInt by omega), (show (v.1 0 12).toInt ≤ ((u275.1 0 12) + (1 : Int32)).toInt ∧ ((u275.1 0 12) + (1 : Int32)).toInt - 15 * (u275.1 0 47).toInt ≤ (v.1 0 12).toInt - 15 * (v.1 0 47).toInt by omega), (show (v.1 0 15).toInt ≤ ((u275.1 0 15) + (1 : Int32)).toInt ∧ ((u275.1 0 15) + (1 : Int32)).toInt - 10 * (u275.1 0 47).toInt ≤ (v.1 0 15).toInt - 10 * (v.1 0 47).toInt by omega), (show (v.1 0 43).toInt ≤ (u275.1 0 43).toInt ∧ (u275.1 0 43).toInt - 15 * (u275.1 0 47).toInt ≤ (v.1 0 43).toInt - 15 * (v.1 0 47).toInt by omega), (show (v.1 0 39).toInt ≤ (u275.1 0 39).toInt ∧ (u275.1 0 39).toInt - 1 * (u275.1 0 47).toInt ≤ (v.1 0 39).toInt - 1 * (v.1 0 47).toInt by omega), (show (u275.1 0 32).toInt = (v.1 0 32).toInt ∧ ((u275.1 0 48) - (1 : Int32)).toInt = (v.1 0 48).toInt by omega), (show (v.1 0 33).toInt ≤ (u275.1 0 33).toInt ∧ (u275.1 0 33).toInt ≤ 500 by omega), (fun (j9 : Nat) hj9 => (Eq.trans (pk_un (by have := cl_z (a := (u275.1 0 12).toInt) rfl (by omega); omega)) (kc274 j9 (by omega)))), (fun (j9 : Nat) hj9 => (Eq.trans (pk_un (by have := cl_z (a := (u275.1 0 15).toInt) rfl (by omega); omega)) (ko274 j9 (by omega)))), (fun (j9 : Nat) hj9 => (Eq.trans (pk_un (by have := cl_z (a := (u275.1 0 15).toInt) rfl (by omega); omega)) (kg274 j9 (by omega)))), n35274⟩, by rw [ht9]; exact hP, hD⟩, hS.F ht9⟩) hS.2.2 dX13_operand_386
    · have z332 : ((v.1 6) (v.1 0 47).toNatClampNeg).toInt = 6 := eq_z rfl (show (6 : Int32).toInt = 6 by decide) h34
      refine lv_aload_n hx hb dX13_operand_27 rfl (lv_at hl 0 rfl) ?_
      refine va_get (D := (dC, dI)) (ci := 16) (fs := mF ad v) (v := .ref (ad 6)) (C := RX13) (T := TX13) (N := 124) hx hb ht itX13 hown hK hP 0 rfl rfl 6 (by decide) (ht _ tw_23) (fun _ h9 => h9) rfl dX13_operand_28 ?_
      refine lv_aload_n hx hb dX13_operand_31 rfl (lv_at hl 0 rfl) ?_
      refine va_get (D := (dC, dI)) (ci := 16) (fs := mF ad v) (v := .int (v.1 0 47)) (C := RX13) (T := TX13) (N := 124) hx hb ht itX13 hown hK hP 0 rfl rfl 47 (by decide) (ht _ tw_24) (fun _ h9 => h9) rfl dX13_operand_32 ?_
      refine va_iald (D := (dC, dI)) (f := (v.1 6)) hx hb hK hP 3 0 rfl rfl (in_z (a := (v.1 0 47).toInt) rfl (by omega) (by omega)) dX13_operand_35 ?_
      refine lv_iconst (v := 4) hx hb dX13_operand_36 (by decide) ?_
      refine lv_icmp_ne (tgt := 76) hx hb dX13_operand_37 (by decide) (fun h333 => ?_) (fun h333 => ?_)
      · have z334 : ((v.1 6) (v.1 0 47).toNatClampNeg).toInt ≠ 4 := ne_z rfl (show (4 : Int32).toInt = 4 by decide) h333
        refine lv_aload_n hx hb dX13_operand_76 rfl (lv_at hl 0 rfl) ?_
        refine va_get (D := (dC, dI)) (ci := 16) (fs := mF ad v) (v := .ref (ad 9)) (C := RX13) (T := TX13) (N := 124) hx hb ht itX13 hown hK hP 0 rfl rfl 9 (by decide) (ht _ tw_27) (fun _ h9 => h9) rfl dX13_operand_77 ?_
        refine lv_aload_n hx hb dX13_operand_80 rfl (lv_at hl 0 rfl) ?_
        refine va_get (D := (dC, dI)) (ci := 16) (fs := mF ad v) (v := .int (v.1 0 47)) (C := RX13) (T := TX13) (N := 124) hx hb ht itX13 hown hK hP 0 rfl rfl 47 (by decide) (ht _ tw_24) (fun _ h9 => h9) rfl dX13_operand_81 ?_
        refine va_lald (D := (dC, dI)) (f := v.2) hx hb hK hP 6 3 rfl rfl (in_z (a := (v.1 0 47).toInt) rfl (by omega) (by omega)) dX13_operand_84 ?_
        refine lv_l2i hx hb dX13_operand_85 rfl ?_
        refine lv_istore_n (lv' := [(1, .int ((v.2 (v.1 0 47).toNatClampNeg).toInt32)), (0, .ref (ad 0))]) hx hb dX13_operand_86 rfl hl (by decide) rfl (fun ls hl => ?_)
        refine lv_aload_n hx hb dX13_operand_87 rfl (lv_at hl 1 rfl) ?_
        refine cux_v (rx_V (n := 0) (As := []) (rest := []) hx hb hml hown ht hKK hFx hP hD hS hA (c_m_take l dC dI cI cB cZ cJ cR tb s.heap.size ad N v  (show 0 ≤ (v.1 0 47).toInt ∧ (v.1 0 47).toInt ≤ 1500 by omega)) tw_32 tw_33 (by decide +kernel) rfl rfl ⟨by show 1 + 1 ≤ 40 * n + 9; omega, by show 8 + (1 + 11) + 22 ≤ 28 * (40 * n + 9); omega⟩ (List.range (mW ad N cI cZ cJ v).length) (rg_map _) (mW_nd _ _ _ _ _ _) rfl rfl rfl rfl hl.1 rfl (Nat.le_of_ble_eq_true rfl) dX13_operand_88 ⟨Nat.le_of_ble_eq_true rfl, Nat.le_of_ble_eq_true rfl⟩) hP hD hS hA (fun u9 ce9 q9 H locs hx9 hP hD hS hc9 hv9 hf9 => ?_) (fun u336 H locs hw335 hP hD hS => ?_)
        · exact vx_out (fun x h9 => (hnt x h9).elim) hlocks hc9 hv9 hf9 (fun t9 ht9 hv8 => ⟨u9, (FG.tr (FG.rf _) hx9), ⟨rfl, by rw [ht9]; exact hP, hD⟩, hS.F ht9⟩) hS.2.2 (by omega) (by omega)
        obtain ⟨rfl, a335, b335⟩ := hw335
        have z338 : ((v.1 0 47) + (1 : Int32)).toInt = (v.1 0 47).toInt + 1 := add_z rfl (show (1 : Int32).toInt = 1 by decide) (by omega) (by omega)
        have hP : va_P (dC, dI) vwCl (mW ad N cI cZ cJ (wA v 0 47 ((v.1 0 47) + (1 : Int32)))) H := hP
        have hD : va_D A (mW ad N cI cZ cJ (wA v 0 47 ((v.1 0 47) + (1 : Int32)))) := hD
        refine W.widen (k := 0) (n := 0) (by omega) (by omega) ?_
        refine lv_aload_n hx hb dX13_operand_91 rfl (lv_at hl 1 rfl) ?_
        refine lv_iload_n hx hb dX13_operand_92 rfl (lv_at hl 0 rfl) ?_
        refine cu_v (rn_V (n := 1) (As := [.int ((v.2 (v.1 0 47).toNatClampNeg).toInt32)]) (rest := []) hx hb hml hown ht hKK hFx hP hD hS hA (c_m_loads l dC dI cI cB cZ cJ cR tb H.size ad N (wA v 0 47 ((v.1 0 47) + (1 : Int32))) ((v.2 (v.1 0 47).toNatClampNeg).toInt32) (show 0 ≤ (v.1 0 12).toInt ∧ (v.1 0 12).toInt ≤ 23980 by omega) (show 0 ≤ (v.1 0 15).toInt ∧ (v.1 0 15).toInt ≤ 15980 by omega)) tw_111 tw_112 (by decide +kernel) rfl rfl ⟨by show 2 + 1 ≤ 40 * n + 9; omega, by show 8 + (2 + 11) + 46 ≤ 28 * (40 * n + 9); omega⟩ (List.range (mW ad N cI cZ cJ (wA v 0 47 ((v.1 0 47) + (1 : Int32)))).length) (rg_map _) (mW_nd _ _ _ _ _ _) rfl rfl rfl rfl hl.1 rfl (Nat.le_of_ble_eq_true rfl) dX13_operand_93 ⟨Nat.le_of_ble_eq_true rfl, Nat.le_of_ble_eq_true rfl⟩) hP hD hS hA (fun u340 H locs hw339 hP hD hS => ?_)
        obtain ⟨fr339, pw339, po339, kc339, ko339, kg339⟩ := hw339
        have q339_2 : (u340.1 0 2).toInt = (v.1 0 2).toInt := congrArg Int32.toInt ((fr339.2.1 2 (by decide)).trans (show (wA v 0 47 ((v.1 0 47) + (1 : Int32))).1 0 2 = (v.1 0 2) by rfl))
        have q339_4 : (u340.1 0 4).toInt = (v.1 0 4).toInt := congrArg Int32.toInt ((fr339.2.1 4 (by decide)).trans (show (wA v 0 47 ((v.1 0 47) + (1 : Int32))).1 0 4 = (v.1 0 4) by rfl))
        have q339_5 : (u340.1 0 5).toInt = (v.1 0 5).toInt := congrArg Int32.toInt ((fr339.2.1 5 (by decide)).trans (show (wA v 0 47 ((v.1 0 47) + (1 : Int32))).1 0 5 = (v.1 0 5) by rfl))
        have q339_22 : (u340.1 0 22).toInt = (v.1 0 22).toInt := congrArg Int32.toInt ((fr339.2.1 22 (by decide)).trans (show (wA v 0 47 ((v.1 0 47) + (1 : Int32))).1 0 22 = (v.1 0 22) by rfl))
        have q339_27 : (u340.1 0 27).toInt = (v.1 0 27).toInt := congrArg Int32.toInt ((fr339.2.1 27 (by decide)).trans (show (wA v 0 47 ((v.1 0 47) + (1 : Int32))).1 0 27 = (v.1 0 27) by rfl))
        have q339_28 : (u340.1 0 28).toInt = (v.1 0 28).toInt := congrArg Int32.toInt ((fr339.2.1 28 (by decide)).trans (show (wA v 0 47 ((v.1 0 47) + (1 : Int32))).1 0 28 = (v.1 0 28) by rfl))
        have q339_30 : (u340.1 0 30).toInt = (v.1 0 30).toInt := congrArg Int32.toInt ((fr339.2.1 30 (by decide)).trans (show (wA v 0 47 ((v.1 0 47) + (1 : Int32))).1 0 30 = (v.1 0 30) by rfl))
        have q339_31 : (u340.1 0 31).toInt = (v.1 0 31).toInt := congrArg Int32.toInt ((fr339.2.1 31 (by decide)).trans (show (wA v 0 47 ((v.1 0 47) + (1 : Int32))).1 0 31 = (v.1 0 31) by rfl))
        have q339_32 : (u340.1 0 32).toInt = (v.1 0 32).toInt := congrArg Int32.toInt ((fr339.2.1 32 (by decide)).trans (show (wA v 0 47 ((v.1 0 47) + (1 : Int32))).1 0 32 = (v.1 0 32) by rfl))
        have q339_33 : (u340.1 0 33).toInt = (v.1 0 33).toInt := congrArg Int32.toInt ((fr339.2.1 33 (by decide)).trans (show (wA v 0 47 ((v.1 0 47) + (1 : Int32))).1 0 33 = (v.1 0 33) by rfl))
        have q339_34 : (u340.1 0 34).toInt = (v.1 0 34).toInt := congrArg Int32.toInt ((fr339.2.1 34 (by decide)).trans (show (wA v 0 47 ((v.1 0 47) + (1 : Int32))).1 0 34 = (v.1 0 34) by rfl))
        have q339_39 : (u340.1 0 39).toInt = (v.1 0 39).toInt := congrArg Int32.toInt ((fr339.2.1 39 (by decide)).trans (show (wA v 0 47 ((v.1 0 47) + (1 : Int32))).1 0 39 = (v.1 0 39) by rfl))
        have q339_43 : (u340.1 0 43).toInt = (v.1 0 43).toInt := congrArg Int32.toInt ((fr339.2.1 43 (by decide)).trans (show (wA v 0 47 ((v.1 0 47) + (1 : Int32))).1 0 43 = (v.1 0 43) by rfl))
        have q339_47 : (u340.1 0 47).toInt = ((v.1 0 47) + (1 : Int32)).toInt := congrArg Int32.toInt ((fr339.2.1 47 (by decide)).trans (show (wA v 0 47 ((v.1 0 47) + (1 : Int32))).1 0 47 = ((v.1 0 47) + (1 : Int32)) by rfl))
        have q339_48 : (u340.1 0 48).toInt = (v.1 0 48).toInt := congrArg Int32.toInt ((fr339.2.1 48 (by decide)).trans (show (wA v 0 47 ((v.1 0 47) + (1 : Int32))).1 0 48 = (v.1 0 48) by rfl))
        have q339_49 : (u340.1 0 49).toInt = (v.1 0 49).toInt := congrArg Int32.toInt ((fr339.2.1 49 (by decide)).trans (show (wA v 0 47 ((v.1 0 47) + (1 : Int32))).1 0 49 = (v.1 0 49) by rfl))
        have q339_52 : (u340.1 0 52).toInt = (v.1 0 52).toInt := congrArg Int32.toInt ((fr339.2.1 52 (by decide)).trans (show (wA v 0 47 ((v.1 0 47) + (1 : Int32))).1 0 52 = (v.1 0 52) by rfl))
        have pw339 : (v.1 0 12).toInt ≤ (u340.1 0 12).toInt ∧ (u340.1 0 12).toInt ≤ (v.1 0 12).toInt + 2 := pw339
        have po339 : (u340.1 0 15).toInt = (v.1 0 15).toInt + 1 := po339
        have kc339 : ∀ j : Nat, (j : Int) < (v.1 0 12).toInt → (u340.1 11) j = (v.1 11) j := kc339
        have ko339 : ∀ j : Nat, (j : Int) < (v.1 0 15).toInt → (u340.1 13) j = (v.1 13) j := ko339
        have kg339 : ∀ j : Nat, (j : Int) < (v.1 0 15).toInt → (u340.1 14) j = (v.1 14) j := kg339
        refine W.widen (k := 0) (n := 0) (by omega) (by omega) ?_
        refine lv_goto (tgt := 386) hx hb dX13_operand_96 (by decide) ?_
        refine vx_ret ?_
        exact W.vret hx hb hr (fun t ht9 hW => ⟨⟨u340, rfl, ⟨(FG.tr (FG.f (FG.rf _) ((v.1 0 47) + (1 : Int32)) (by decide)) (FG.up fr339 (by decide) (by decide))), (show (v.1 0 47).toInt + 1 ≤ (u340.1 0 47).toInt ∧ (u340.1 0 47).toInt ≤ 1500 by omega), (show (v.1 0 49).toInt ≠ (v.1 0 47).toInt by omega), (show (v.1 0 12).toInt ≤ (u340.1 0 12).toInt ∧ (u340.1 0 12).toInt - 15 * (u340.1 0 47).toInt ≤ (v.1 0 12).toInt - 15 * (v.1 0 47).toInt by omega), (show (v.1 0 15).toInt ≤ (u340.1 0 15).toInt ∧ (u340.1 0 15).toInt - 10 * (u340.1 0 47).toInt ≤ (v.1 0 15).toInt - 10 * (v.1 0 47).toInt by omega), (show (v.1 0 43).toInt ≤ (u340.1 0 43).toInt ∧ (u340.1 0 43).toInt - 15 * (u340.1 0 47).toInt ≤ (v.1 0 43).toInt - 15 * (v.1 0 47).toInt by omega), (show (v.1 0 39).toInt ≤ (u340.1 0 39).toInt ∧ (u340.1 0 39).toInt - 1 * (u340.1 0 47).toInt ≤ (v.1 0 39).toInt - 1 * (v.1 0 47).toInt by omega), (show (u340.1 0 32).toInt = (v.1 0 32).toInt ∧ (u340.1 0 48).toInt = (v.1 0 48).toInt by omega), (show (v.1 0 33).toInt ≤ (u340.1 0 33).toInt ∧ (u340.1 0 33).toInt ≤ 500 by omega), (fun (j9 : Nat) hj9 => (kc339 j9 (by omega))), (fun (j9 : Nat) hj9 => (ko339 j9 (by omega))), (fun (j9 : Nat) hj9 => (kg339 j9 (by omega))), (show NI 35 u340 from NI.fr (fl := [12, 15]) (al := [0, 11, 13, 14]) fr339 (by decide) n35)⟩, by rw [ht9]; exact hP, hD⟩, hS.F ht9⟩) hS.2.2 dX13_operand_386
      · have z342 : ((v.1 6) (v.1 0 47).toNatClampNeg).toInt = 4 := eq_z rfl (show (4 : Int32).toInt = 4 by decide) h333
        exfalso; omega
