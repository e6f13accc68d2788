theorem dX13_operand_0 : decode cX13_operand 0 = .ok (.aload_n 0, 1) := by decide +kernel
theorem dX13_operand_1 : decode cX13_operand 1 = .ok (.getfield 41, 3) := by decide +kernel
theorem dX13_operand_4 : decode cX13_operand 4 = .ok (.aload_n 0, 1) := by decide +kernel
theorem dX13_operand_5 : decode cX13_operand 5 = .ok (.getfield 137, 3) := by decide +kernel
theorem dX13_operand_8 : decode cX13_operand 8 = .ok (.iaload, 1) := by decide +kernel
theorem dX13_operand_9 : decode cX13_operand 9 = .ok (.iconst 4, 1) := by decide +kernel
theorem dX13_operand_10 : decode cX13_operand 10 = .ok (.if_icmp .eq 17, 3) := by decide +kernel
theorem dX13_operand_27 : decode cX13_operand 27 = .ok (.aload_n 0, 1) := by decide +kernel
theorem dX13_operand_28 : decode cX13_operand 28 = .ok (.getfield 41, 3) := by decide +kernel
theorem dX13_operand_31 : decode cX13_operand 31 = .ok (.aload_n 0, 1) := by decide +kernel
theorem dX13_operand_32 : decode cX13_operand 32 = .ok (.getfield 137, 3) := by decide +kernel
theorem dX13_operand_35 : decode cX13_operand 35 = .ok (.iaload, 1) := by decide +kernel
theorem dX13_operand_36 : decode cX13_operand 36 = .ok (.iconst 4, 1) := by decide +kernel
theorem dX13_operand_37 : decode cX13_operand 37 = .ok (.if_icmp .ne 39, 3) := by decide +kernel
theorem dX13_operand_40 : decode cX13_operand 40 = .ok (.aload_n 0, 1) := by decide +kernel
theorem dX13_operand_41 : decode cX13_operand 41 = .ok (.getfield 74, 3) := by decide +kernel
theorem tw_110 : (.fieldLink RX13 74 "PocketCompilerModel" "digits" "[Z" : Cond) ∈ tw_W := tw_in (by decide +kernel) (by decide +kernel)
theorem dX13_operand_44 : decode cX13_operand 44 = .ok (.aload_n 0, 1) := by decide +kernel
theorem dX13_operand_45 : decode cX13_operand 45 = .ok (.getfield 137, 3) := by decide +kernel
theorem dX13_operand_48 : decode cX13_operand 48 = .ok (.baload, 1) := by decide +kernel
theorem dX13_operand_49 : decode cX13_operand 49 = .ok (.ifCond .eq 27, 3) := by decide +kernel
theorem dX13_operand_76 : decode cX13_operand 76 = .ok (.aload_n 0, 1) := by decide +kernel
theorem dX13_operand_77 : decode cX13_operand 77 = .ok (.getfield 56, 3) := by decide +kernel
theorem dX13_operand_80 : decode cX13_operand 80 = .ok (.aload_n 0, 1) := by decide +kernel
theorem dX13_operand_81 : decode cX13_operand 81 = .ok (.getfield 137, 3) := by decide +kernel
theorem dX13_operand_84 : decode cX13_operand 84 = .ok (.laload, 1) := by decide +kernel
theorem dX13_operand_85 : decode cX13_operand 85 = .ok (.l2i, 1) := by decide +kernel
theorem dX13_operand_86 : decode cX13_operand 86 = .ok (.istore_n 1, 1) := by decide +kernel
theorem dX13_operand_87 : decode cX13_operand 87 = .ok (.aload_n 0, 1) := by decide +kernel
theorem dX13_operand_88 : decode cX13_operand 88 = .ok (.invokevirtual 154, 3) := by decide +kernel
theorem dX13_operand_91 : decode cX13_operand 91 = .ok (.aload_n 0, 1) := by decide +kernel
theorem dX13_operand_92 : decode cX13_operand 92 = .ok (.iload_n 1, 1) := by decide +kernel
theorem dX13_operand_93 : decode cX13_operand 93 = .ok (.invokevirtual 329, 3) := by decide +kernel
theorem tw_111 : (.code yX13_loads cX13_loads 2 none : Cond) ∈ tw_W := tw_in (by decide +kernel) (by decide +kernel)
theorem tw_112 : ∀ w ∈ ([.methodLink RX13 329 yX13_loads, .instanceMethod yX13_loads, .selects RX13 yX13_loads yX13_loads, .initialized RX13] : List Cond), w ∈ tw_W := tw_all (by decide +kernel)
theorem dX13_operand_96 : decode cX13_operand 96 = .ok (.goto 290, 3) := by decide +kernel
theorem dX13_operand_386 : decode cX13_operand 386 = .ok (.return_, 1) := by decide +kernel
theorem dX13_operand_52 : decode cX13_operand 52 = .ok (.aload_n 0, 1) := by decide +kernel
theorem dX13_operand_53 : decode cX13_operand 53 = .ok (.getfield 56, 3) := by decide +kernel
theorem dX13_operand_56 : decode cX13_operand 56 = .ok (.aload_n 0, 1) := by decide +kernel
theorem dX13_operand_57 : decode cX13_operand 57 = .ok (.getfield 137, 3) := by decide +kernel
theorem dX13_operand_60 : decode cX13_operand 60 = .ok (.laload, 1) := by decide +kernel
theorem dX13_operand_61 : decode cX13_operand 61 = .ok (.ldc2_w 327, 3) := by decide +kernel
theorem tw_113 : (.constantLong RX13 327 (2147483647) : Cond) ∈ tw_W := tw_in (by decide +kernel) (by decide +kernel)
theorem dX13_operand_64 : decode cX13_operand 64 = .ok (.lcmp, 1) := by decide +kernel
theorem dX13_operand_65 : decode cX13_operand 65 = .ok (.ifCond .le 11, 3) := by decide +kernel
theorem dX13_operand_68 : decode cX13_operand 68 = .ok (.aload_n 0, 1) := by decide +kernel
theorem dX13_operand_69 : decode cX13_operand 69 = .ok (.aload_n 0, 1) := by decide +kernel
theorem dX13_operand_70 : decode cX13_operand 70 = .ok (.getfield 137, 3) := by decide +kernel
theorem dX13_operand_73 : decode cX13_operand 73 = .ok (.putfield 148, 3) := by decide +kernel
theorem dX13_operand_13 : decode cX13_operand 13 = .ok (.aload_n 0, 1) := by decide +kernel
theorem dX13_operand_14 : decode cX13_operand 14 = .ok (.getfield 41, 3) := by decide +kernel
theorem dX13_operand_17 : decode cX13_operand 17 = .ok (.aload_n 0, 1) := by decide +kernel
theorem dX13_operand_18 : decode cX13_operand 18 = .ok (.getfield 137, 3) := by decide +kernel
theorem dX13_operand_21 : decode cX13_operand 21 = .ok (.iaload, 1) := by decide +kernel
theorem dX13_operand_22 : decode cX13_operand 22 = .ok (.bipush 6, 2) := by decide +kernel
theorem dX13_operand_24 : decode cX13_operand 24 = .ok (.if_icmp .ne 75, 3) := by decide +kernel
theorem dX13_operand_99 : decode cX13_operand 99 = .ok (.aload_n 0, 1) := by decide +kernel
theorem dX13_operand_100 : decode cX13_operand 100 = .ok (.bipush 45, 2) := by decide +kernel
theorem dX13_operand_102 : decode cX13_operand 102 = .ok (.invokevirtual 158, 3) := by decide +kernel
theorem dX13_operand_105 : decode cX13_operand 105 = .ok (.ifCond .ne 21, 3) := by decide +kernel
theorem dX13_operand_126 : decode cX13_operand 126 = .ok (.aload_n 0, 1) := by decide +kernel
theorem dX13_operand_127 : decode cX13_operand 127 = .ok (.getfield 56, 3) := by decide +kernel
theorem dX13_operand_130 : decode cX13_operand 130 = .ok (.aload_n 0, 1) := by decide +kernel
theorem dX13_operand_131 : decode cX13_operand 131 = .ok (.getfield 137, 3) := by decide +kernel
theorem dX13_operand_134 : decode cX13_operand 134 = .ok (.laload, 1) := by decide +kernel
theorem dX13_operand_135 : decode cX13_operand 135 = .ok (.l2i, 1) := by decide +kernel
theorem dX13_operand_136 : decode cX13_operand 136 = .ok (.istore_n 1, 1) := by decide +kernel
theorem dX13_operand_137 : decode cX13_operand 137 = .ok (.aload_n 0, 1) := by decide +kernel
theorem dX13_operand_138 : decode cX13_operand 138 = .ok (.invokevirtual 165, 3) := by decide +kernel
theorem dX13_operand_141 : decode cX13_operand 141 = .ok (.aload_n 0, 1) := by decide +kernel
theorem dX13_operand_142 : decode cX13_operand 142 = .ok (.invokevirtual 317, 3) := by decide +kernel
theorem tw_114 : (.code yX13_operand cX13_operand 2 none : Cond) ∈ tw_W := tw_in (by decide +kernel) (by decide +kernel)
theorem tw_115 : ∀ w ∈ ([.methodLink RX13 317 yX13_operand, .instanceMethod yX13_operand, .selects RX13 yX13_operand yX13_operand, .initialized RX13] : List Cond), w ∈ tw_W := tw_all (by decide +kernel)
theorem dX13_operand_145 : decode cX13_operand 145 = .ok (.aload_n 0, 1) := by decide +kernel
theorem dX13_operand_146 : decode cX13_operand 146 = .ok (.dup, 1) := by decide +kernel
theorem dX13_operand_147 : decode cX13_operand 147 = .ok (.getfield 151, 3) := by decide +kernel
theorem dX13_operand_150 : decode cX13_operand 150 = .ok (.iconst 1, 1) := by decide +kernel
theorem dX13_operand_151 : decode cX13_operand 151 = .ok (.isub, 1) := by decide +kernel
theorem dX13_operand_152 : decode cX13_operand 152 = .ok (.putfield 151, 3) := by decide +kernel
theorem dX13_operand_155 : decode cX13_operand 155 = .ok (.aload_n 0, 1) := by decide +kernel
theorem dX13_operand_156 : decode cX13_operand 156 = .ok (.iload_n 1, 1) := by decide +kernel
theorem dX13_operand_157 : decode cX13_operand 157 = .ok (.bipush 45, 2) := by decide +kernel
theorem dX13_operand_159 : decode cX13_operand 159 = .ok (.if_icmp .ne 17, 3) := by decide +kernel
theorem dX13_operand_176 : decode cX13_operand 176 = .ok (.iload_n 1, 1) := by decide +kernel
theorem dX13_operand_177 : decode cX13_operand 177 = .ok (.bipush 33, 2) := by decide +kernel
theorem dX13_operand_179 : decode cX13_operand 179 = .ok (.if_icmp .ne 17, 3) := by decide +kernel
theorem dX13_operand_196 : decode cX13_operand 196 = .ok (.bipush 19, 2) := by decide +kernel
theorem dX13_operand_198 : decode cX13_operand 198 = .ok (.iconst 4, 1) := by decide +kernel
theorem dX13_operand_199 : decode cX13_operand 199 = .ok (.bipush 10, 2) := by decide +kernel
theorem dX13_operand_201 : decode cX13_operand 201 = .ok (.bipush 10, 2) := by decide +kernel
theorem dX13_operand_203 : decode cX13_operand 203 = .ok (.iconst (-1), 1) := by decide +kernel
theorem dX13_operand_204 : decode cX13_operand 204 = .ok (.invokestatic 97, 3) := by decide +kernel
theorem dX13_operand_207 : decode cX13_operand 207 = .ok (.invokevirtual 111, 3) := by decide +kernel
theorem dX13_operand_210 : decode cX13_operand 210 = .ok (.pop, 1) := by decide +kernel
theorem dX13_operand_211 : decode cX13_operand 211 = .ok (.aload_n 0, 1) := by decide +kernel
theorem dX13_operand_212 : decode cX13_operand 212 = .ok (.iload_n 1, 1) := by decide +kernel
theorem dX13_operand_213 : decode cX13_operand 213 = .ok (.bipush 45, 2) := by decide +kernel
theorem dX13_operand_215 : decode cX13_operand 215 = .ok (.if_icmp .ne 8, 3) := by decide +kernel
theorem dX13_operand_223 : decode cX13_operand 223 = .ok (.iload_n 1, 1) := by decide +kernel
theorem dX13_operand_224 : decode cX13_operand 224 = .ok (.bipush 33, 2) := by decide +kernel
theorem dX13_operand_226 : decode cX13_operand 226 = .ok (.if_icmp .ne 8, 3) := by decide +kernel
theorem dX13_operand_234 : decode cX13_operand 234 = .ok (.bipush 20, 2) := by decide +kernel
theorem dX13_operand_236 : decode cX13_operand 236 = .ok (.iconst 0, 1) := by decide +kernel
theorem dX13_operand_237 : decode cX13_operand 237 = .ok (.invokevirtual 210, 3) := by decide +kernel
theorem dX13_operand_240 : decode cX13_operand 240 = .ok (.pop, 1) := by decide +kernel
theorem dX13_operand_241 : decode cX13_operand 241 = .ok (.goto 145, 3) := by decide +kernel
theorem dX13_operand_182 : decode cX13_operand 182 = .ok (.bipush 19, 2) := by decide +kernel
theorem dX13_operand_184 : decode cX13_operand 184 = .ok (.iconst 3, 1) := by decide +kernel
theorem dX13_operand_185 : decode cX13_operand 185 = .ok (.bipush 10, 2) := by decide +kernel
theorem dX13_operand_187 : decode cX13_operand 187 = .ok (.bipush 10, 2) := by decide +kernel
theorem dX13_operand_189 : decode cX13_operand 189 = .ok (.iconst 1, 1) := by decide +kernel
theorem dX13_operand_190 : decode cX13_operand 190 = .ok (.invokestatic 97, 3) := by decide +kernel
theorem dX13_operand_193 : decode cX13_operand 193 = .ok (.goto 14, 3) := by decide +kernel
theorem dX13_operand_229 : decode cX13_operand 229 = .ok (.bipush 19, 2) := by decide +kernel
theorem dX13_operand_231 : decode cX13_operand 231 = .ok (.goto 5, 3) := by decide +kernel
theorem dX13_operand_162 : decode cX13_operand 162 = .ok (.bipush 32, 2) := by decide +kernel
theorem dX13_operand_164 : decode cX13_operand 164 = .ok (.iconst 0, 1) := by decide +kernel
theorem dX13_operand_165 : decode cX13_operand 165 = .ok (.bipush 10, 2) := by decide +kernel
theorem dX13_operand_167 : decode cX13_operand 167 = .ok (.iconst 0, 1) := by decide +kernel
theorem dX13_operand_168 : decode cX13_operand 168 = .ok (.bipush 10, 2) := by decide +kernel
theorem dX13_operand_170 : decode cX13_operand 170 = .ok (.invokestatic 213, 3) := by decide +kernel
theorem dX13_operand_173 : decode cX13_operand 173 = .ok (.goto 34, 3) := by decide +kernel
theorem dX13_operand_218 : decode cX13_operand 218 = .ok (.bipush 18, 2) := by decide +kernel
theorem dX13_operand_220 : decode cX13_operand 220 = .ok (.goto 16, 3) := by decide +kernel
theorem dX13_operand_108 : decode cX13_operand 108 = .ok (.aload_n 0, 1) := by decide +kernel
theorem dX13_operand_109 : decode cX13_operand 109 = .ok (.bipush 33, 2) := by decide +kernel
theorem dX13_operand_111 : decode cX13_operand 111 = .ok (.invokevirtual 158, 3) := by decide +kernel
theorem dX13_operand_114 : decode cX13_operand 114 = .ok (.ifCond .ne 12, 3) := by decide +kernel
theorem dX13_operand_117 : decode cX13_operand 117 = .ok (.aload_n 0, 1) := by decide +kernel
theorem dX13_operand_118 : decode cX13_operand 118 = .ok (.bipush 126, 2) := by decide +kernel
theorem dX13_operand_120 : decode cX13_operand 120 = .ok (.invokevirtual 158, 3) := by decide +kernel
theorem dX13_operand_123 : decode cX13_operand 123 = .ok (.ifCond .eq 121, 3) := by decide +kernel
theorem dX13_operand_244 : decode cX13_operand 244 = .ok (.aload_n 0, 1) := by decide +kernel
theorem dX13_operand_245 : decode cX13_operand 245 = .ok (.bipush 40, 2) := by decide +kernel
theorem dX13_operand_247 : decode cX13_operand 247 = .ok (.invokevirtual 158, 3) := by decide +kernel
theorem dX13_operand_250 : decode cX13_operand 250 = .ok (.ifCond .eq 20, 3) := by decide +kernel
theorem dX13_operand_270 : decode cX13_operand 270 = .ok (.aload_n 0, 1) := by decide +kernel
theorem dX13_operand_271 : decode cX13_operand 271 = .ok (.bipush 10, 2) := by decide +kernel
theorem dX13_operand_273 : decode cX13_operand 273 = .ok (.invokevirtual 332, 3) := by decide +kernel
theorem tw_116 : (.code yX13_isKey cX13_isKey 2 (some .boolean) : Cond) ∈ tw_W := tw_in (by decide +kernel) (by decide +kernel)
theorem tw_117 : ∀ w ∈ ([.methodLink RX13 332 yX13_isKey, .instanceMethod yX13_isKey, .selects RX13 yX13_isKey yX13_isKey, .initialized RX13] : List Cond), w ∈ tw_W := tw_all (by decide +kernel)
theorem dX13_operand_276 : decode cX13_operand 276 = .ok (.ifCond .eq 49, 3) := by decide +kernel
theorem dX13_operand_325 : decode cX13_operand 325 = .ok (.aload_n 0, 1) := by decide +kernel
theorem dX13_operand_326 : decode cX13_operand 326 = .ok (.getfield 41, 3) := by decide +kernel
theorem dX13_operand_329 : decode cX13_operand 329 = .ok (.aload_n 0, 1) := by decide +kernel
theorem dX13_operand_330 : decode cX13_operand 330 = .ok (.getfield 137, 3) := by decide +kernel
theorem dX13_operand_333 : decode cX13_operand 333 = .ok (.iaload, 1) := by decide +kernel
theorem dX13_operand_334 : decode cX13_operand 334 = .ok (.iconst 2, 1) := by decide +kernel
theorem dX13_operand_335 : decode cX13_operand 335 = .ok (.if_icmp .ne 25, 3) := by decide +kernel
theorem dX13_operand_360 : decode cX13_operand 360 = .ok (.aload_n 0, 1) := by decide +kernel
theorem dX13_operand_361 : decode cX13_operand 361 = .ok (.getfield 41, 3) := by decide +kernel
theorem dX13_operand_364 : decode cX13_operand 364 = .ok (.aload_n 0, 1) := by decide +kernel
theorem dX13_operand_365 : decode cX13_operand 365 = .ok (.getfield 137, 3) := by decide +kernel
theorem dX13_operand_368 : decode cX13_operand 368 = .ok (.iaload, 1) := by decide +kernel
theorem dX13_operand_369 : decode cX13_operand 369 = .ok (.iconst 2, 1) := by decide +kernel
theorem dX13_operand_370 : decode cX13_operand 370 = .ok (.if_icmp .ne 11, 3) := by decide +kernel
theorem dX13_operand_381 : decode cX13_operand 381 = .ok (.aload_n 0, 1) := by decide +kernel
theorem dX13_operand_382 : decode cX13_operand 382 = .ok (.invokevirtual 161, 3) := by decide +kernel
theorem dX13_operand_385 : decode cX13_operand 385 = .ok (.athrow, 1) := by decide +kernel
theorem dX13_operand_338 : decode cX13_operand 338 = .ok (.aload_n 0, 1) := by decide +kernel
theorem dX13_operand_339 : decode cX13_operand 339 = .ok (.aload_n 0, 1) := by decide +kernel
theorem dX13_operand_340 : decode cX13_operand 340 = .ok (.getfield 137, 3) := by decide +kernel
theorem dX13_operand_343 : decode cX13_operand 343 = .ok (.iconst 1, 1) := by decide +kernel
theorem dX13_operand_344 : decode cX13_operand 344 = .ok (.iadd, 1) := by decide +kernel
theorem dX13_operand_345 : decode cX13_operand 345 = .ok (.bipush 40, 2) := by decide +kernel
theorem dX13_operand_347 : decode cX13_operand 347 = .ok (.invokevirtual 144, 3) := by decide +kernel
theorem dX13_operand_350 : decode cX13_operand 350 = .ok (.ifCond .eq 10, 3) := by decide +kernel
theorem dX13_operand_373 : decode cX13_operand 373 = .ok (.aload_n 0, 1) := by decide +kernel
theorem dX13_operand_374 : decode cX13_operand 374 = .ok (.iconst 0, 1) := by decide +kernel
theorem dX13_operand_375 : decode cX13_operand 375 = .ok (.invokevirtual 239, 3) := by decide +kernel
theorem tw_118 : (.code yX13_named cX13_named 7 none : Cond) ∈ tw_W := tw_in (by decide +kernel) (by decide +kernel)
theorem tw_119 : ∀ w ∈ ([.methodLink RX13 239 yX13_named, .instanceMethod yX13_named, .selects RX13 yX13_named yX13_named, .initialized RX13] : List Cond), w ∈ tw_W := tw_all (by decide +kernel)
theorem dX13_operand_378 : decode cX13_operand 378 = .ok (.goto 8, 3) := by decide +kernel
theorem dX13_operand_353 : decode cX13_operand 353 = .ok (.aload_n 0, 1) := by decide +kernel
theorem dX13_operand_354 : decode cX13_operand 354 = .ok (.invokevirtual 335, 3) := by decide +kernel
theorem tw_120 : (.code yX13_call cX13_call 6 none : Cond) ∈ tw_W := tw_in (by decide +kernel) (by decide +kernel)
theorem tw_121 : ∀ w ∈ ([.methodLink RX13 335 yX13_call, .instanceMethod yX13_call, .selects RX13 yX13_call yX13_call, .initialized RX13] : List Cond), w ∈ tw_W := tw_all (by decide +kernel)
theorem dX13_operand_357 : decode cX13_operand 357 = .ok (.goto 29, 3) := by decide +kernel
theorem dX13_operand_279 : decode cX13_operand 279 = .ok (.aload_n 0, 1) := by decide +kernel
theorem dX13_operand_280 : decode cX13_operand 280 = .ok (.invokevirtual 154, 3) := by decide +kernel
theorem dX13_operand_283 : decode cX13_operand 283 = .ok (.aload_n 0, 1) := by decide +kernel
theorem dX13_operand_284 : decode cX13_operand 284 = .ok (.bipush 40, 2) := by decide +kernel
theorem dX13_operand_286 : decode cX13_operand 286 = .ok (.invokevirtual 281, 3) := by decide +kernel
theorem dX13_operand_289 : decode cX13_operand 289 = .ok (.aload_n 0, 1) := by decide +kernel
theorem dX13_operand_290 : decode cX13_operand 290 = .ok (.bipush 41, 2) := by decide +kernel
theorem dX13_operand_292 : decode cX13_operand 292 = .ok (.invokevirtual 287, 3) := by decide +kernel
theorem dX13_operand_295 : decode cX13_operand 295 = .ok (.aload_n 0, 1) := by decide +kernel
theorem dX13_operand_296 : decode cX13_operand 296 = .ok (.bipush 17, 2) := by decide +kernel
theorem dX13_operand_298 : decode cX13_operand 298 = .ok (.iconst 0, 1) := by decide +kernel
theorem dX13_operand_299 : decode cX13_operand 299 = .ok (.iconst 2, 1) := by decide +kernel
theorem dX13_operand_300 : decode cX13_operand 300 = .ok (.invokestatic 219, 3) := by decide +kernel
theorem dX13_operand_303 : decode cX13_operand 303 = .ok (.invokevirtual 111, 3) := by decide +kernel
theorem dX13_operand_306 : decode cX13_operand 306 = .ok (.pop, 1) := by decide +kernel
theorem dX13_operand_307 : decode cX13_operand 307 = .ok (.aload_n 0, 1) := by decide +kernel
theorem dX13_operand_308 : decode cX13_operand 308 = .ok (.bipush 115, 2) := by decide +kernel
theorem dX13_operand_310 : decode cX13_operand 310 = .ok (.invokevirtual 111, 3) := by decide +kernel
theorem dX13_operand_313 : decode cX13_operand 313 = .ok (.pop, 1) := by decide +kernel
theorem dX13_operand_314 : decode cX13_operand 314 = .ok (.aload_n 0, 1) := by decide +kernel
theorem dX13_operand_315 : decode cX13_operand 315 = .ok (.bipush 17, 2) := by decide +kernel
theorem dX13_operand_317 : decode cX13_operand 317 = .ok (.iconst 0, 1) := by decide +kernel
theorem dX13_operand_318 : decode cX13_operand 318 = .ok (.invokevirtual 210, 3) := by decide +kernel
theorem dX13_operand_321 : decode cX13_operand 321 = .ok (.pop, 1) := by decide +kernel
theorem dX13_operand_322 : decode cX13_operand 322 = .ok (.goto 64, 3) := by decide +kernel
theorem dX13_operand_253 : decode cX13_operand 253 = .ok (.aload_n 0, 1) := by decide +kernel
theorem dX13_operand_254 : decode cX13_operand 254 = .ok (.invokevirtual 165, 3) := by decide +kernel
theorem dX13_operand_257 : decode cX13_operand 257 = .ok (.aload_n 0, 1) := by decide +kernel
theorem dX13_operand_258 : decode cX13_operand 258 = .ok (.invokevirtual 284, 3) := by decide +kernel
theorem dX13_operand_261 : decode cX13_operand 261 = .ok (.aload_n 0, 1) := by decide +kernel
theorem dX13_operand_262 : decode cX13_operand 262 = .ok (.bipush 41, 2) := by decide +kernel
theorem dX13_operand_264 : decode cX13_operand 264 = .ok (.invokevirtual 287, 3) := by decide +kernel
theorem dX13_operand_267 : decode cX13_operand 267 = .ok (.goto 119, 3) := by decide +kernel
def Cx_operand (l : Launch) (n : Nat) : Prop := ∀ (dC : Nat → ClassId) (dI : Nat → Nat → Nat) (cI cB cZ cJ cR : ClassId) (tb : Nat → Nat) (sz : Nat) (ad : Nat → Nat) (N : Nat) (v : MS)  (zn : 40 ≤ (v.1 0 48).toInt + (n : Int)) (zt : 0 ≤ (v.1 0 47).toInt ∧ (v.1 0 47).toInt ≤ 1500) (zop : 0 ≤ (v.1 0 48).toInt ∧ (v.1 0 48).toInt ≤ 40) (zkn : 0 ≤ (v.1 0 30).toInt ∧ (v.1 0 30).toInt ≤ 500) (zhi : 0 ≤ (v.1 0 33).toInt ∧ (v.1 0 33).toInt ≤ 500) (zs : 0 ≤ (v.1 0 32).toInt ∧ (v.1 0 30).toInt + (v.1 0 32).toInt ≤ (v.1 0 33).toInt) (zws : 0 ≤ (v.1 0 12).toInt ∧ (v.1 0 12).toInt ≤ 15 * (v.1 0 47).toInt + 2) (zos : 0 ≤ (v.1 0 15).toInt ∧ (v.1 0 15).toInt ≤ 10 * (v.1 0 47).toInt + 0) (zfs : 0 ≤ (v.1 0 43).toInt ∧ (v.1 0 43).toInt ≤ 15 * (v.1 0 47).toInt + 0) (zcs : 0 ≤ (v.1 0 39).toInt ∧ (v.1 0 39).toInt ≤ 1 * (v.1 0 47).toInt + 0) (zgl : 0 ≤ (v.1 0 27).toInt ∧ (v.1 0 27).toInt ≤ 60) (hT : TI v) (a29 : AR 29 0 1500 v) (a23 : AR 23 0 1500 v) (a35 : AR 35 0 1500 v) (a37 : AR 37 0 23999 v) (a38 : AR 38 0 15999 v) (a40 : AR 40 0 23999 v) (fx : FX v), vx_Met l yX13_operand (Cond.code yX13_operand cX13_operand 2 none :: tw_W) ({ frames := 40 * n + 9, cells := 0, slots := 0, locals := 28 * (40 * n + 9) }) (pc_ (dC, dI) (tyS cI cB cZ cJ cR) tb (mW ad N cI cZ cJ v) sz [.ref (ad 0)]) (qv_ (dC, dI) (mW ad N cI cZ cJ v) sz (fun (u : MS) => FG [12, 15, 32, 33, 39, 43, 44, 45, 47, 48, 49, 50, 51] [0, 11, 13, 14, 35, 36, 37, 38, 40, 41, 42] v u ∧ ((v.1 0 47).toInt + 1 ≤ (u.1 0 47).toInt ∧ (u.1 0 47).toInt ≤ 1500) ∧ ((v.1 0 49).toInt ≠ (v.1 0 47).toInt) ∧ ((v.1 0 12).toInt ≤ (u.1 0 12).toInt ∧ (u.1 0 12).toInt - 15 * (u.1 0 47).toInt ≤ (v.1 0 12).toInt - 15 * (v.1 0 47).toInt) ∧ ((v.1 0 15).toInt ≤ (u.1 0 15).toInt ∧ (u.1 0 15).toInt - 10 * (u.1 0 47).toInt ≤ (v.1 0 15).toInt - 10 * (v.1 0 47).toInt) ∧ ((v.1 0 43).toInt ≤ (u.1 0 43).toInt ∧ (u.1 0 43).toInt - 15 * (u.1 0 47).toInt ≤ (v.1 0 43).toInt - 15 * (v.1 0 47).toInt) ∧ ((v.1 0 39).toInt ≤ (u.1 0 39).toInt ∧ (u.1 0 39).toInt - 1 * (u.1 0 47).toInt ≤ (v.1 0 39).toInt - 1 * (v.1 0 47).toInt) ∧ ((u.1 0 32).toInt = (v.1 0 32).toInt ∧ (u.1 0 48).toInt = (v.1 0 48).toInt) ∧ ((v.1 0 33).toInt ≤ (u.1 0 33).toInt ∧ (u.1 0 33).toInt ≤ 500) ∧ (∀ j : Nat, (j : Int) < (v.1 0 12).toInt → (u.1 11) j = (v.1 11) j) ∧ (∀ j : Nat, (j : Int) < (v.1 0 15).toInt → (u.1 13) j = (v.1 13) j) ∧ (∀ j : Nat, (j : Int) < (v.1 0 15).toInt → (u.1 14) j = (v.1 14) j) ∧ (AR 35 0 1500 u) ∧ (AR 37 0 23999 u) ∧ (AR 38 0 15999 u) ∧ (AR 40 0 23999 u) ∧ (FX u)) (fun (u : MS) => (mW ad N cI cZ cJ u))) (qxm (dC, dI) (mW ad N cI cZ cJ v) sz (fun (u : MS) => (mW ad N cI cZ cJ u)) (fun (u : MS) => Fr v u)) 0 0 (va_A (mW ad N cI cZ cJ v) sz)
theorem om_e33521859d {x0 x1 : Int} (h0 : 0 ≤ x0 ∧ x0 ≤ 15 * x1 + 0) : 0 ≤ x1 := by omega
theorem om_6315528109 {x0 : Int} (h0 : x0 = (4 : Int)) (h1 : x0 ≠ (4 : Int)) : False := by omega
theorem om_dc0ef911ca {n0 : Nat} : 1 + 1 ≤ 40 * n0 + 9 := by omega
theorem om_1a3684fcd8 {n0 : Nat} : 8 + (1 + 11) + 22 ≤ 28 * (40 * n0 + 9) := by omega
theorem om_86eef57ede {n0 : Nat} : 2 + 1 ≤ 40 * n0 + 9 := by omega
theorem om_a3475e87b5 {n0 : Nat} : 8 + (2 + 11) + 46 ≤ 28 * (40 * n0 + 9) := by omega
theorem om_8eec673951 {x0 x1 x2 x3 x4 : Int} (h0 : x0 = (x1) + (1 : Int)) (h1 : x2 = x3) (h2 : x4 = x0) : x3 ≤ x2 ∧ x2 - 15 * x4 ≤ x3 - 15 * x1 := by omega
theorem om_114df80471 {x0 x1 : Int} (h0 : x0 ≠ x0) : x1 ≠ x0 := by omega
theorem om_8685d0996a {n0 : Nat} : 8 + (2 + 11) + 22 ≤ 28 * (40 * n0 + 9) := by omega
theorem om_750cfefb29 {n0 : Nat} : 8 + (1 + 11) + 42 ≤ 28 * (40 * n0 + 9) := by omega
theorem om_d13994734d {n0 n1 : Nat} (h0 : n0 = n1 + 1) : (40 * n1 + 9) + 1 ≤ 40 * n0 + 9 := by omega
theorem om_7349e8fe6d {n0 n1 : Nat} (h0 : n0 = n1 + 1) : 8 + (2 + 11) + 28 * (40 * n1 + 9) ≤ 28 * (40 * n0 + 9) := by omega
theorem om_fd17f2e70e {n0 : Nat} : 0 + 1 ≤ 40 * n0 + 9 := by omega
theorem om_4dd6cddcce {n0 : Nat} : 8 + (5 + 11) + 0 ≤ 28 * (40 * n0 + 9) := by omega
theorem om_4229287154 {n0 : Nat} : 8 + (2 + 11) + 0 ≤ 28 * (40 * n0 + 9) := by omega
theorem om_ab4ad5e078 {x0 x1 x2 x3 x4 : Int} (h0 : 0 ≤ x0 ∧ x0 ≤ 10 * x1 + 0) (h1 : x2 = (x1) + (1 : Int)) (h2 : x2 + 1 ≤ x3 ∧ x3 ≤ 1500) (h3 : x0 ≤ x4 ∧ x4 - 10 * x3 ≤ x0 - 10 * x2) : 0 ≤ x4 ∧ x4 < 16000 := by omega
theorem om_e79917e237 {n0 : Nat} : 8 + (3 + 11) + 0 ≤ 28 * (40 * n0 + 9) := by omega
theorem om_436cd0d872 {x0 x1 x2 x3 x4 : Int} (h0 : 0 ≤ x0 ∧ x0 ≤ 10 * x1 + 0) (h1 : x0 ≤ x2 ∧ x2 - 10 * x3 ≤ x0 - 10 * x4) : -2147483648 ≤ (x2) + (1 : Int) := by omega
theorem om_4b3fea160f {x0 x1 x2 x3 x4 : Int} (h0 : 0 ≤ x0 ∧ x0 ≤ 10 * x1 + 0) (h1 : x2 = (x1) + (1 : Int)) (h2 : x2 + 1 ≤ x3 ∧ x3 ≤ 1500) (h3 : x0 ≤ x4 ∧ x4 - 10 * x3 ≤ x0 - 10 * x2) : (x4) + (1 : Int) < 2147483648 := by omega
theorem om_ff8aa832bb {x0 x1 x2 : Int} (h0 : x0 = (x1) + (1 : Int)) (h1 : x0 + 1 ≤ x2 ∧ x2 ≤ 1500) : x1 + 1 ≤ x2 ∧ x2 ≤ 1500 := by omega
theorem om_7d9f5eca64 {x0 x1 x2 x3 x4 x5 : Int} (h0 : x0 = (x1) + (1 : Int)) (h1 : x2 ≤ x3 ∧ x3 - 15 * x4 ≤ x2 - 15 * x0) (h2 : x5 = (x3) + (1 : Int)) : x2 ≤ x5 ∧ x5 - 15 * x4 ≤ x2 - 15 * x1 := by omega
theorem om_e3c4ffe5ce {x0 x1 x2 x3 x4 x5 : Int} (h0 : x0 = (x1) + (1 : Int)) (h1 : x2 ≤ x3 ∧ x3 - 10 * x4 ≤ x2 - 10 * x0) (h2 : x5 = (x3) + (1 : Int)) : x2 ≤ x5 ∧ x5 - 10 * x4 ≤ x2 - 10 * x1 := by omega
theorem om_48209a9386 {x0 x1 x2 x3 x4 : Int} (h0 : x0 = (x1) + (1 : Int)) (h1 : x2 ≤ x3 ∧ x3 - 15 * x4 ≤ x2 - 15 * x0) : x2 ≤ x3 ∧ x3 - 15 * x4 ≤ x2 - 15 * x1 := by omega
theorem om_df731194be {x0 x1 x2 x3 x4 : Int} (h0 : x0 = (x1) + (1 : Int)) (h1 : x2 ≤ x3 ∧ x3 - 1 * x4 ≤ x2 - 1 * x0) : x2 ≤ x3 ∧ x3 - 1 * x4 ≤ x2 - 1 * x1 := by omega
theorem om_4a47b03b7f {x0 x1 x2 x3 x4 x5 : Int} (h0 : x0 = (x1) + (1 : Int)) (h1 : x2 = x3 ∧ x4 = x0) (h2 : x5 = (x4) - (1 : Int)) : x2 = x3 ∧ x5 = x1 := by omega
theorem om_6bc0cea141 {x0 x1 : Int} (h0 : x0 ≤ x1 ∧ x1 ≤ 500) : x0 ≤ x1 ∧ x1 ≤ 500 := by omega
theorem om_4b760a59ba {x0 x1 x2 x3 x4 : Int} (h0 : 0 ≤ x0 ∧ x0 ≤ 10 * x1 + 0) (h1 : x0 ≤ x2 ∧ x2 - 10 * x3 ≤ x0 - 10 * x4) : 0 ≤ x2 := by omega
theorem om_24f6a8216f {x0 x1 x2 x3 : Int} {n4 : Nat} (h0 : x0 ≤ x1 ∧ x1 - 10 * x2 ≤ x0 - 10 * x3) (h1 : (n4 : Int) < x0) : (n4 : Int) < x1 := by omega
theorem om_9d9908e07d {x0 : Int} (h0 : x0 ≠ (33 : Int)) (h1 : x0 = (33 : Int)) : False := by omega
theorem om_aab5508d07 {x0 : Int} (h0 : x0 ≠ (45 : Int)) (h1 : x0 = (45 : Int)) : False := by omega
theorem om_abbf94d96b {x0 : Int} (h0 : x0 = (33 : Int)) (h1 : x0 ≠ (33 : Int)) : False := by omega
theorem om_ac897fe355 {x0 : Int} (h0 : x0 = (33 : Int)) (h1 : x0 = (45 : Int)) : False := by omega
theorem om_bdc7d89919 {x0 : Int} (h0 : x0 = (45 : Int)) (h1 : x0 ≠ (45 : Int)) : False := by omega
theorem om_a9523442bb {x0 : Int} (h0 : x0 ≠ (2 : Int)) (h1 : x0 = (2 : Int)) : False := by omega
theorem om_6555dba5b7 {x0 : Int} (h0 : x0 = (2 : Int)) (h1 : x0 ≠ (2 : Int)) : False := by omega
theorem om_0093b55d27 {x0 x1 : Int} (h0 : 0 ≤ x0 ∧ x0 ≤ 15 * x1 + 2) : 0 ≤ x0 ∧ x0 ≤ 15 * x1 + 2 := by omega
theorem om_f99dd47f94 {x0 x1 : Int} (h0 : 0 ≤ x0 ∧ x0 ≤ 10 * x1 + 0) : 0 ≤ x0 ∧ x0 ≤ 10 * x1 + 0 := by omega
theorem om_116b0ae668 {x0 x1 : Int} (h0 : 0 ≤ x0 ∧ x0 ≤ 15 * x1 + 0) : 0 ≤ x0 ∧ x0 ≤ 15 * x1 + 0 := by omega
theorem om_081ea48693 {x0 x1 : Int} (h0 : 0 ≤ x0 ∧ x0 ≤ 1 * x1 + 0) : 0 ≤ x0 ∧ x0 ≤ 1 * x1 + 0 := by omega
theorem om_b0a4404262 {n0 : Nat} : (40 * n0 + 8) + 1 ≤ 40 * n0 + 9 := by omega
theorem om_0c05ba7e9c {n0 : Nat} : 8 + (7 + 11) + 28 * (40 * n0 + 8) ≤ 28 * (40 * n0 + 9) := by omega
theorem om_d90a70a533 {x0 x1 : Int} (h0 : x0 + 1 ≤ x1 ∧ x1 ≤ 1500) : x0 + 1 ≤ x1 ∧ x1 ≤ 1500 := by omega
theorem om_bd8d9916e4 {x0 x1 x2 x3 : Int} (h0 : x0 ≤ x1 ∧ x1 - 15 * x2 ≤ x0 - 15 * x3) : x0 ≤ x1 ∧ x1 - 15 * x2 ≤ x0 - 15 * x3 := by omega
theorem om_75227e8328 {x0 x1 x2 x3 : Int} (h0 : x0 ≤ x1 ∧ x1 - 10 * x2 ≤ x0 - 10 * x3) : x0 ≤ x1 ∧ x1 - 10 * x2 ≤ x0 - 10 * x3 := by omega
theorem om_da0fc15040 {x0 x1 x2 x3 : Int} (h0 : x0 ≤ x1 ∧ x1 - 1 * x2 ≤ x0 - 1 * x3) : x0 ≤ x1 ∧ x1 - 1 * x2 ≤ x0 - 1 * x3 := by omega
theorem om_d31db81a70 {x0 x1 x2 x3 : Int} (h0 : x0 = x1 ∧ x2 = x3) : x0 = x1 ∧ x2 = x3 := by omega
theorem om_dbb8b0dcf0 {n0 : Nat} : (40 * n0 + 7) + 1 ≤ 40 * n0 + 9 := by omega
theorem om_fd2fd97cdd {n0 : Nat} : 8 + (6 + 11) + 28 * (40 * n0 + 7) ≤ 28 * (40 * n0 + 9) := by omega
theorem om_6d05018a6e {n0 : Nat} : 3 + 1 ≤ 40 * n0 + 9 := by omega
theorem om_7cb4f31a39 {n0 : Nat} : 8 + (2 + 11) + 62 ≤ 28 * (40 * n0 + 9) := by omega
theorem om_fd9c2c6c65 {n0 : Nat} : 8 + (2 + 11) + 64 ≤ 28 * (40 * n0 + 9) := by omega
theorem om_62edcb27da {n0 : Nat} : 8 + (3 + 11) + 24 ≤ 28 * (40 * n0 + 9) := by omega
theorem om_b806649874 {x0 x1 : Int} (h0 : 0 ≤ x0 ∧ x0 ≤ 15 * x1 + 2) (h1 : x1 < 1500) : 0 ≤ x0 ∧ x0 < 24000 := by omega
theorem om_d6bdde0b99 {x0 x1 : Int} (h0 : 0 ≤ x0 ∧ x0 ≤ 15 * x1 + 2) : -2147483648 ≤ (x0) + (1 : Int) := by omega
theorem om_1b214d5a41 {x0 x1 : Int} (h0 : 0 ≤ x0 ∧ x0 ≤ 15 * x1 + 2) (h1 : x1 < 1500) : (x0) + (1 : Int) < 2147483648 := by omega
theorem om_124c434723 {x0 x1 : Int} (h0 : 0 ≤ x0 ∧ x0 ≤ 15 * x1 + 2) : 0 ≤ x0 := by omega
theorem om_fa1b810ce7 {x0 x1 x2 : Int} (h0 : 0 ≤ x0 ∧ x0 ≤ 15 * x1 + 2) (h1 : x1 < 1500) (h2 : x2 = ((x0) + (1 : Int))) : 0 ≤ x2 ∧ x2 < 24000 := by omega
theorem om_65cf0f3418 {x0 x1 x2 : Int} (h0 : 0 ≤ x0 ∧ x0 ≤ 15 * x1 + 2) (h1 : x2 = ((x0) + (1 : Int))) : -2147483648 ≤ (x2) + (1 : Int) := by omega
theorem om_d9342d4a0b {x0 x1 x2 : Int} (h0 : 0 ≤ x0 ∧ x0 ≤ 15 * x1 + 2) (h1 : x1 < 1500) (h2 : x2 = ((x0) + (1 : Int))) : (x2) + (1 : Int) < 2147483648 := by omega
theorem om_6570133be4 {x0 x1 x2 : Int} (h0 : x0 = ((x1) + (1 : Int)) + (1 : Int)) (h1 : x0 < 1500) (h2 : x2 = ((((x1) + (1 : Int)) + (1 : Int)) + (1 : Int))) : x1 + 1 ≤ x2 ∧ x2 ≤ 1500 := by omega
theorem om_4902d2b3ad {x0 x1 x2 x3 x4 : Int} (h0 : x0 = ((x1) + (1 : Int))) (h1 : x2 = ((((x3) + (1 : Int)) + (1 : Int)) + (1 : Int))) (h2 : x4 = (x0) + (1 : Int)) : x1 ≤ x4 ∧ x4 - 15 * x2 ≤ x1 - 15 * x3 := by omega
theorem om_b8d1f5abe6 {x0 x1 x2 x3 x4 : Int} (h0 : x0 = x1) (h1 : x2 = ((((x3) + (1 : Int)) + (1 : Int)) + (1 : Int))) (h2 : x4 = (x0) + (1 : Int)) : x1 ≤ x4 ∧ x4 - 10 * x2 ≤ x1 - 10 * x3 := by omega
theorem om_dd965030e3 {x0 x1 x2 x3 : Int} (h0 : x0 = x1) (h1 : x2 = ((((x3) + (1 : Int)) + (1 : Int)) + (1 : Int))) : x1 ≤ x0 ∧ x0 - 15 * x2 ≤ x1 - 15 * x3 := by omega
theorem om_60c0be4d9c {x0 x1 x2 x3 : Int} (h0 : x0 = x1) (h1 : x2 = ((((x3) + (1 : Int)) + (1 : Int)) + (1 : Int))) : x1 ≤ x0 ∧ x0 - 1 * x2 ≤ x1 - 1 * x3 := by omega
theorem om_5f0879c10a {x0 x1 x2 x3 : Int} (h0 : x0 = x1) (h1 : x2 = (((x3) + (1 : Int)) - (1 : Int))) : x0 = x1 ∧ x2 = x3 := by omega
theorem om_87b637de41 {x0 x1 x2 : Int} (h0 : 0 ≤ x0 ∧ x0 ≤ 15 * x1 + 2) (h1 : x2 = ((x0) + (1 : Int))) : 0 ≤ x2 := by omega
theorem om_caf7b1eac4 {x0 x1 : Int} {n2 : Nat} (h0 : x0 = ((x1) + (1 : Int))) (h1 : (n2 : Int) < x1) : (n2 : Int) < x0 := by omega
theorem om_4dfbc8dfb8 {n0 n1 : Nat} (h0 : n0 = n1 + 1) : (40 * n1 + 36) + 1 ≤ 40 * n0 + 9 := by omega
theorem om_553a1ca9ee {n0 n1 : Nat} (h0 : n0 = n1 + 1) : 8 + (1 + 11) + 28 * (40 * n1 + 36) ≤ 28 * (40 * n0 + 9) := by omega
theorem om_05d8e7cb47 {x0 x1 x2 x3 : Int} (h0 : x0 = (x1) + (1 : Int)) (h1 : x0 + 1 ≤ x2 ∧ x2 ≤ 1500) (h2 : x3 = (x2) + (1 : Int)) (h3 : x2 < 1500) : x1 + 1 ≤ x3 ∧ x3 ≤ 1500 := by omega
theorem om_dbf5486fb7 {x0 x1 x2 x3 x4 x5 : Int} (h0 : x0 = (x1) + (1 : Int)) (h1 : x2 ≤ x3 ∧ x3 - 15 * x4 ≤ x2 - 15 * x0) (h2 : x5 = (x4) + (1 : Int)) : x2 ≤ x3 ∧ x3 - 15 * x5 ≤ x2 - 15 * x1 := by omega
theorem om_1011bbd17d {x0 x1 x2 x3 x4 x5 : Int} (h0 : x0 = (x1) + (1 : Int)) (h1 : x2 ≤ x3 ∧ x3 - 10 * x4 ≤ x2 - 10 * x0) (h2 : x5 = (x4) + (1 : Int)) : x2 ≤ x3 ∧ x3 - 10 * x5 ≤ x2 - 10 * x1 := by omega
theorem om_5332a23ecb {x0 x1 x2 x3 x4 x5 : Int} (h0 : x0 = (x1) + (1 : Int)) (h1 : x2 ≤ x3 ∧ x3 - 1 * x4 ≤ x2 - 1 * x0) (h2 : x5 = (x4) + (1 : Int)) : x2 ≤ x3 ∧ x3 - 1 * x5 ≤ x2 - 1 * x1 := by omega
theorem om_75afaa67ab {x0 : Int} (h0 : x0 = (6 : Int)) (h1 : x0 = (4 : Int)) : False := by omega
set_option maxHeartbeats 16000000 in
set_option maxRecDepth 100000 in
theorem c_m_operand (l : Launch) (n : Nat) (ihE : ∀ m, n = m + 1 → Cx_expression l m) (ihO : ∀ m, n = m + 1 → Cx_operand l m) (dC : Nat → ClassId) (dI : Nat → Nat → Nat) (cI cB cZ cJ cR : ClassId) (tb : Nat → Nat) (sz : Nat) (ad : Nat → Nat) (N : Nat) (v : MS)  (zn : 40 ≤ (v.1 0 48).toInt + (n : Int)) (zt : 0 ≤ (v.1 0 47).toInt ∧ (v.1 0 47).toInt ≤ 1500) (zop : 0 ≤ (v.1 0 48).toInt ∧ (v.1 0 48).toInt ≤ 40) (zkn : 0 ≤ (v.1 0 30).toInt ∧ (v.1 0 30).toInt ≤ 500) (zhi : 0 ≤ (v.1 0 33).toInt ∧ (v.1 0 33).toInt ≤ 500) (zs : 0 ≤ (v.1 0 32).toInt ∧ (v.1 0 30).toInt + (v.1 0 32).toInt ≤ (v.1 0 33).toInt) (zws : 0 ≤ (v.1 0 12).toInt ∧ (v.1 0 12).toInt ≤ 15 * (v.1 0 47).toInt + 2) (zos : 0 ≤ (v.1 0 15).toInt ∧ (v.1 0 15).toInt ≤ 10 * (v.1 0 47).toInt + 0) (zfs : 0 ≤ (v.1 0 43).toInt ∧ (v.1 0 43).toInt ≤ 15 * (v.1 0 47).toInt + 0) (zcs : 0 ≤ (v.1 0 39).toInt ∧ (v.1 0 39).toInt ≤ 1 * (v.1 0 47).toInt + 0) (zgl : 0 ≤ (v.1 0 27).toInt ∧ (v.1 0 27).toInt ≤ 60) (hT : TI v) (a29 : AR 29 0 1500 v) (a23 : AR 23 0 1500 v) (a35 : AR 35 0 1500 v) (a37 : AR 37 0 23999 v) (a38 : AR 38 0 15999 v) (a40 : AR 40 0 23999 v) (fx : FX v) : vx_Met l yX13_operand (Cond.code yX13_operand cX13_operand 2 none :: tw_W) ({ frames := 40 * n + 9, cells := 0, slots := 0, locals := 28 * (40 * n + 9) }) (pc_ (dC, dI) (tyS cI cB cZ cJ cR) tb (mW ad N cI cZ cJ v) sz [.ref (ad 0)]) (qv_ (dC, dI) (mW ad N cI cZ cJ v) sz (fun (u : MS) => FG [12, 15, 32, 33, 39, 43, 44, 45, 47, 48, 49, 50, 51] [0, 11, 13, 14, 35, 36, 37, 38, 40, 41, 42] v u ∧ ((v.1 0 47).toInt + 1 ≤ (u.1 0 47).toInt ∧ (u.1 0 47).toInt ≤ 1500) ∧ ((v.1 0 49).toInt ≠ (v.1 0 47).toInt) ∧ ((v.1 0 12).toInt ≤ (u.1 0 12).toInt ∧ (u.1 0 12).toInt - 15 * (u.1 0 47).toInt ≤ (v.1 0 12).toInt - 15 * (v.1 0 47).toInt) ∧ ((v.1 0 15).toInt ≤ (u.1 0 15).toInt ∧ (u.1 0 15).toInt - 10 * (u.1 0 47).toInt ≤ (v.1 0 15).toInt - 10 * (v.1 0 47).toInt) ∧ ((v.1 0 43).toInt ≤ (u.1 0 43).toInt ∧ (u.1 0 43).toInt - 15 * (u.1 0 47).toInt ≤ (v.1 0 43).toInt - 15 * (v.1 0 47).toInt) ∧ ((v.1 0 39).toInt ≤ (u.1 0 39).toInt ∧ (u.1 0 39).toInt - 1 * (u.1 0 47).toInt ≤ (v.1 0 39).toInt - 1 * (v.1 0 47).toInt) ∧ ((u.1 0 32).toInt = (v.1 0 32).toInt ∧ (u.1 0 48).toInt = (v.1 0 48).toInt) ∧ ((v.1 0 33).toInt ≤ (u.1 0 33).toInt ∧ (u.1 0 33).toInt ≤ 500) ∧ (∀ j : Nat, (j : Int) < (v.1 0 12).toInt → (u.1 11) j = (v.1 11) j) ∧ (∀ j : Nat, (j : Int) < (v.1 0 15).toInt → (u.1 13) j = (v.1 13) j) ∧ (∀ j : Nat, (j : Int) < (v.1 0 15).toInt → (u.1 14) j = (v.1 14) j) ∧ (AR 35 0 1500 u) ∧ (AR 37 0 23999 u) ∧ (AR 38 0 15999 u) ∧ (AR 40 0 23999 u) ∧ (FX u)) (fun (u : MS) => (mW ad N cI cZ cJ u))) (qxm (dC, dI) (mW ad N cI cZ cJ v) sz (fun (u : MS) => (mW ad N cI cZ cJ u)) (fun (u : MS) => Fr v u)) 0 0 (va_A (mW ad N cI cZ cJ v) sz) := by
  refine vx_ofW (cc := cX13_operand) (maxL := 2) (ret := none) (by decide) rfl ?_
  intro p e s m args below meth c s₁ B hml hnt hv
  obtain ⟨rfl, hsz, hP, hKK, hD0, hFx⟩ := hv
  have hK := hKK.1
  have hx := B.exec
  have hb := B.bytes
  have hr := B.returns
  have ht : ∀ w ∈ tw_W, w.before _ s = true := fun w h => atoms_spec (ws := Cond.code yX13_operand cX13_operand 2 none :: tw_W) B.pre w (List.mem_cons_of_mem _ h)
  have hown : s.vm.findClass RX13 = some m.cls := findClass_of_methodNamed B.named
  have hlocks := B.notSynchronized
  subst hsz
  unfold qv_ qxm
  have hD := hD0.self (sz := s.heap.size)
  generalize hAe : va_A (mW ad N cI cZ cJ v) s.heap.size = A at hD hFx ⊢
  have hA : ∀ q : Nat, s.heap.size ≤ q → A q := fun q h => by rw [← hAe]; exact Or.inr h
  have hS : va_S A s.heap s.heap [] := va_S.rf
  have hl := lv_entry ([.ref (ad 0)]) (n := 2) (Nat.le_of_ble_eq_true rfl)
  rw [lg_entry_eq]
  generalize (lg_sl ([.ref (ad 0)]) ++ List.replicate (2 - (lg_sl ([.ref (ad 0)])).length) Slot.unset).toArray = ls at hl ⊢
  have hl : lv_has ls 2 [(0, .ref (ad 0))] := hl
  refine lv_aload_n hx hb dX13_operand_0 rfl (lv_at hl 0 rfl) ?_
  refine va_get (D := (dC, dI)) (ci := 16) (fs := mF ad v) (v := .ref (ad 6)) (C := RX13) (T := TX13) (N := 124) hx hb ht itX13 hown hK hP 0 rfl rfl 6 (by decide) (ht _ tw_23) (fun _ h9 => h9) rfl dX13_operand_1 ?_
  refine lv_aload_n hx hb dX13_operand_4 rfl (lv_at hl 0 rfl) ?_
  refine va_get (D := (dC, dI)) (ci := 16) (fs := mF ad v) (v := .int (v.1 0 47)) (C := RX13) (T := TX13) (N := 124) hx hb ht itX13 hown hK hP 0 rfl rfl 47 (by decide) (ht _ tw_24) (fun _ h9 => h9) rfl dX13_operand_5 ?_
  refine va_iald (D := (dC, dI)) (f := (v.1 6)) hx hb hK hP 3 0 rfl rfl (in_y (a := (v.1 0 47).toInt) (b := 4002) rfl (om_e33521859d zfs) (om_449eb7e9bb zt) rfl) dX13_operand_8 ?_
  refine lv_iconst (v := 4) hx hb dX13_operand_9 (by decide) ?_
  refine lv_icmp_eq (tgt := 27) hx hb dX13_operand_10 (by decide) (fun h1 => ?_) (fun h1 => ?_)
  · have z2 : ((v.1 6) (v.1 0 47).toNatClampNeg).toInt = (4 : Int) := eq_z rfl (show (4 : Int32).toInt = (4 : Int) by decide) h1
    refine lv_aload_n hx hb dX13_operand_27 rfl (lv_at hl 0 rfl) ?_
    refine va_get (D := (dC, dI)) (ci := 16) (fs := mF ad v) (v := .ref (ad 6)) (C := RX13) (T := TX13) (N := 124) hx hb ht itX13 hown hK hP 0 rfl rfl 6 (by decide) (ht _ tw_23) (fun _ h9 => h9) rfl dX13_operand_28 ?_
    refine lv_aload_n hx hb dX13_operand_31 rfl (lv_at hl 0 rfl) ?_
    refine va_get (D := (dC, dI)) (ci := 16) (fs := mF ad v) (v := .int (v.1 0 47)) (C := RX13) (T := TX13) (N := 124) hx hb ht itX13 hown hK hP 0 rfl rfl 47 (by decide) (ht _ tw_24) (fun _ h9 => h9) rfl dX13_operand_32 ?_
    refine va_iald (D := (dC, dI)) (f := (v.1 6)) hx hb hK hP 3 0 rfl rfl (in_y (a := (v.1 0 47).toInt) (b := 4002) rfl (om_e33521859d zfs) (om_449eb7e9bb zt) rfl) dX13_operand_35 ?_
    refine lv_iconst (v := 4) hx hb dX13_operand_36 (by decide) ?_
    refine lv_icmp_ne (tgt := 76) hx hb dX13_operand_37 (by decide) (fun h3 => ?_) (fun h3 => ?_)
    · have z4 : ((v.1 6) (v.1 0 47).toNatClampNeg).toInt ≠ (4 : Int) := ne_z rfl (show (4 : Int32).toInt = (4 : Int) by decide) h3
      exact False.elim (om_6315528109 z2 z4)
    · have z5 : ((v.1 6) (v.1 0 47).toNatClampNeg).toInt = (4 : Int) := eq_z rfl (show (4 : Int32).toInt = (4 : Int) by decide) h3
      refine lv_aload_n hx hb dX13_operand_40 rfl (lv_at hl 0 rfl) ?_
      refine va_get (D := (dC, dI)) (ci := 16) (fs := mF ad v) (v := .ref (ad 10)) (C := RX13) (T := TX13) (N := 124) hx hb ht itX13 hown hK hP 0 rfl rfl 10 (by decide) (ht _ tw_110) (fun _ h9 => h9) rfl dX13_operand_41 ?_
      refine lv_aload_n hx hb dX13_operand_44 rfl (lv_at hl 0 rfl) ?_
      refine va_get (D := (dC, dI)) (ci := 16) (fs := mF ad v) (v := .int (v.1 0 47)) (C := RX13) (T := TX13) (N := 124) hx hb ht itX13 hown hK hP 0 rfl rfl 47 (by decide) (ht _ tw_24) (fun _ h9 => h9) rfl dX13_operand_45 ?_
      refine va_zald (D := (dC, dI)) (f := (v.1 10)) hx hb hK hP 7 2 rfl rfl (in_y (a := (v.1 0 47).toInt) (b := 4002) rfl (om_e33521859d zfs) (om_449eb7e9bb zt) rfl) dX13_operand_48 ?_
      refine lv_if_eq (tgt := 76) hx hb dX13_operand_49 (by decide) (fun h6 => ?_) (fun h6 => ?_)
      · have z7 : ((v.1 10) (v.1 0 47).toNatClampNeg).toInt = (0 : Int) := eq_z rfl (show (0 : Int32).toInt = (0 : Int) by decide) h6
        refine lv_aload_n hx hb dX13_operand_76 rfl (lv_at hl 0 rfl) ?_
        refine va_get (D := (dC, dI)) (ci := 16) (fs := mF ad v) (v := .ref (ad 9)) (C := RX13) (T := TX13) (N := 124) hx hb ht itX13 hown hK hP 0 rfl rfl 9 (by decide) (ht _ tw_27) (fun _ h9 => h9) rfl dX13_operand_77 ?_
        refine lv_aload_n hx hb dX13_operand_80 rfl (lv_at hl 0 rfl) ?_
        refine va_get (D := (dC, dI)) (ci := 16) (fs := mF ad v) (v := .int (v.1 0 47)) (C := RX13) (T := TX13) (N := 124) hx hb ht itX13 hown hK hP 0 rfl rfl 47 (by decide) (ht _ tw_24) (fun _ h9 => h9) rfl dX13_operand_81 ?_
        refine va_lald (D := (dC, dI)) (f := v.2) hx hb hK hP 6 3 rfl rfl (in_y (a := (v.1 0 47).toInt) (b := 4002) rfl (om_e33521859d zfs) (om_449eb7e9bb zt) rfl) dX13_operand_84 ?_
        refine lv_l2i hx hb dX13_operand_85 rfl ?_
        refine lv_istore_n (lv' := [(1, .int ((v.2 (v.1 0 47).toNatClampNeg).toInt32)), (0, .ref (ad 0))]) hx hb dX13_operand_86 rfl hl (by decide) rfl (fun ls hl => ?_)
        refine lv_aload_n hx hb dX13_operand_87 rfl (lv_at hl 1 rfl) ?_
        refine cux_v (rx_V (n := 0) (As := []) (rest := []) hx hb hml hown ht hKK hFx hP hD hS hA (c_m_take l dC dI cI cB cZ cJ cR tb s.heap.size ad N v  (show 0 ≤ (v.1 0 47).toInt ∧ (v.1 0 47).toInt ≤ 1500 from (om_2fb699b811 zt zfs))) tw_32 tw_33 (by decide +kernel) rfl rfl ⟨show 1 + 1 ≤ 40 * n + 9 from om_dc0ef911ca, show 8 + (1 + 11) + 22 ≤ 28 * (40 * n + 9) from om_1a3684fcd8⟩ (List.range (mW ad N cI cZ cJ v).length) (rg_map _) (mW_nd _ _ _ _ _ _) rfl rfl rfl rfl hl.1 rfl (Nat.le_of_ble_eq_true rfl) dX13_operand_88 ⟨Nat.le_of_ble_eq_true rfl, Nat.le_of_ble_eq_true rfl⟩) hP hD hS hA (fun u9 ce9 q9 H locs hx9 hP hD hS hc9 hv9 hf9 => ?_) (fun u9 H locs hw8 hP hD hS => ?_)
        · exact vx_out (fun x h9 => (hnt x h9).elim) hlocks hc9 hv9 hf9 (fun t9 ht9 hv8 => ⟨u9, (FG.tr (FG.rf _) hx9), ⟨rfl, by rw [ht9]; exact hP, hD⟩, hS.F ht9⟩) hS.2.2 (Nat.le_refl _) (Nat.le_refl _)
        obtain ⟨rfl, a8, b8⟩ := hw8
        have z11 : ((v.1 0 47) + (1 : Int32)).toInt = ((v.1 0 47).toInt) + (1 : Int) := add_z rfl (show (1 : Int32).toInt = (1 : Int) by decide) (om_3eca9b17a5 zws) (om_27eb55d06c zt)
        have hP : va_P (dC, dI) vwCl (mW ad N cI cZ cJ (wA v 0 47 ((v.1 0 47) + (1 : Int32)))) H := hP
        have hD : va_D A (mW ad N cI cZ cJ (wA v 0 47 ((v.1 0 47) + (1 : Int32)))) := hD
        refine W.widen (k := 0) (n := 0) (Nat.le_refl _) (Nat.le_refl _) ?_
        refine lv_aload_n hx hb dX13_operand_91 rfl (lv_at hl 1 rfl) ?_
        refine lv_iload_n hx hb dX13_operand_92 rfl (lv_at hl 0 rfl) ?_
        refine cu_v (rn_V (n := 1) (As := [.int ((v.2 (v.1 0 47).toNatClampNeg).toInt32)]) (rest := []) hx hb hml hown ht hKK hFx hP hD hS hA (c_m_loads l dC dI cI cB cZ cJ cR tb H.size ad N (wA v 0 47 ((v.1 0 47) + (1 : Int32))) ((v.2 (v.1 0 47).toNatClampNeg).toInt32) (show 0 ≤ (v.1 0 12).toInt ∧ (v.1 0 12).toInt ≤ 23980 from (om_2fbbc6575c zws a8)) (show 0 ≤ (v.1 0 15).toInt ∧ (v.1 0 15).toInt ≤ 15980 from (om_1b8bc4dd59 zos a8))) tw_111 tw_112 (by decide +kernel) rfl rfl ⟨show 2 + 1 ≤ 40 * n + 9 from om_86eef57ede, show 8 + (2 + 11) + 46 ≤ 28 * (40 * n + 9) from om_a3475e87b5⟩ (List.range (mW ad N cI cZ cJ (wA v 0 47 ((v.1 0 47) + (1 : Int32)))).length) (rg_map _) (mW_nd _ _ _ _ _ _) rfl rfl rfl rfl hl.1 rfl (Nat.le_of_ble_eq_true rfl) dX13_operand_93 ⟨Nat.le_of_ble_eq_true rfl, Nat.le_of_ble_eq_true rfl⟩) hP hD hS hA (fun u13 H locs hw12 hP hD hS => ?_)
        obtain ⟨fr12, pw12, po12, kc12, ko12, kg12⟩ := hw12
        have pw12 : (v.1 0 12).toInt ≤ (u13.1 0 12).toInt ∧ (u13.1 0 12).toInt ≤ (v.1 0 12).toInt + 2 := pw12
        have po12 : (u13.1 0 15).toInt = (v.1 0 15).toInt + 1 := po12
        have kc12 : ∀ j : Nat, (j : Int) < (v.1 0 12).toInt → (u13.1 11) j = (v.1 11) j := kc12
        have ko12 : ∀ j : Nat, (j : Int) < (v.1 0 15).toInt → (u13.1 13) j = (v.1 13) j := ko12
        have kg12 : ∀ j : Nat, (j : Int) < (v.1 0 15).toInt → (u13.1 14) j = (v.1 14) j := kg12
        refine W.widen (k := 0) (n := 0) (Nat.le_refl _) (Nat.le_refl _) ?_
        refine lv_goto (tgt := 386) hx hb dX13_operand_96 (by decide) ?_
        have q15 : (u13.1 0 47).toInt = ((v.1 0 47) + (1 : Int32)).toInt := congrArg Int32.toInt ((fr12.2.1 47 (by decide)).trans (show (wA v 0 47 ((v.1 0 47) + (1 : Int32))).1 0 47 = ((v.1 0 47) + (1 : Int32)) by rfl))
        have q16 : (u13.1 0 43).toInt = (v.1 0 43).toInt := congrArg Int32.toInt ((fr12.2.1 43 (by decide)).trans (show (wA v 0 47 ((v.1 0 47) + (1 : Int32))).1 0 43 = (v.1 0 43) by rfl))
        have q17 : (u13.1 0 39).toInt = (v.1 0 39).toInt := congrArg Int32.toInt ((fr12.2.1 39 (by decide)).trans (show (wA v 0 47 ((v.1 0 47) + (1 : Int32))).1 0 39 = (v.1 0 39) by rfl))
        have q18 : (u13.1 0 32).toInt = (v.1 0 32).toInt := congrArg Int32.toInt ((fr12.2.1 32 (by decide)).trans (show (wA v 0 47 ((v.1 0 47) + (1 : Int32))).1 0 32 = (v.1 0 32) by rfl))
        have q19 : (u13.1 0 48).toInt = (v.1 0 48).toInt := congrArg Int32.toInt ((fr12.2.1 48 (by decide)).trans (show (wA v 0 47 ((v.1 0 47) + (1 : Int32))).1 0 48 = (v.1 0 48) by rfl))
        have q20 : (u13.1 0 33).toInt = (v.1 0 33).toInt := congrArg Int32.toInt ((fr12.2.1 33 (by decide)).trans (show (wA v 0 47 ((v.1 0 47) + (1 : Int32))).1 0 33 = (v.1 0 33) by rfl))
        refine vx_ret ?_
        exact W.vret hx hb hr (fun t ht9 hW => ⟨⟨u13, rfl, ⟨(FG.tr (FG.f (FG.rf _) ((v.1 0 47) + (1 : Int32)) (by decide)) (FG.up fr12 (by decide) (by decide))), (show (v.1 0 47).toInt + 1 ≤ (u13.1 0 47).toInt ∧ (u13.1 0 47).toInt ≤ 1500 from (om_413e830c37 z11 a8 q15)), (show (v.1 0 49).toInt ≠ (v.1 0 47).toInt from (om_32294a9ce4 b8)), (show (v.1 0 12).toInt ≤ (u13.1 0 12).toInt ∧ (u13.1 0 12).toInt - 15 * (u13.1 0 47).toInt ≤ (v.1 0 12).toInt - 15 * (v.1 0 47).toInt from (om_ed0943c3b0 z11 q15 pw12)), (show (v.1 0 15).toInt ≤ (u13.1 0 15).toInt ∧ (u13.1 0 15).toInt - 10 * (u13.1 0 47).toInt ≤ (v.1 0 15).toInt - 10 * (v.1 0 47).toInt from (om_4820e362bc z11 q15 po12)), (show (v.1 0 43).toInt ≤ (u13.1 0 43).toInt ∧ (u13.1 0 43).toInt - 15 * (u13.1 0 47).toInt ≤ (v.1 0 43).toInt - 15 * (v.1 0 47).toInt from (om_8eec673951 z11 q16 q15)), (show (v.1 0 39).toInt ≤ (u13.1 0 39).toInt ∧ (u13.1 0 39).toInt - 1 * (u13.1 0 47).toInt ≤ (v.1 0 39).toInt - 1 * (v.1 0 47).toInt from (om_6a648d8dbc z11 q17 q15)), (show (u13.1 0 32).toInt = (v.1 0 32).toInt ∧ (u13.1 0 48).toInt = (v.1 0 48).toInt from (om_d5149004fa q18 q19)), (show (v.1 0 33).toInt ≤ (u13.1 0 33).toInt ∧ (u13.1 0 33).toInt ≤ 500 from (om_bc6fc57d17 zhi q20)), (fun (j9 : Nat) hj9 => (kc12 j9 (om_4fe904e9bf hj9))), (fun (j9 : Nat) hj9 => (ko12 j9 (om_4fe904e9bf hj9))), (fun (j9 : Nat) hj9 => (kg12 j9 (om_4fe904e9bf hj9))), (show AR 35 0 1500 u13 from AR.fr (fl := [12, 15]) (al := [0, 11, 13, 14]) fr12 (by decide) (AR.o a35 (by decide))), (show AR 37 0 23999 u13 from AR.fr (fl := [12, 15]) (al := [0, 11, 13, 14]) fr12 (by decide) (AR.o a37 (by decide))), (show AR 38 0 15999 u13 from AR.fr (fl := [12, 15]) (al := [0, 11, 13, 14]) fr12 (by decide) (AR.o a38 (by decide))), (show AR 40 0 23999 u13 from AR.fr (fl := [12, 15]) (al := [0, 11, 13, 14]) fr12 (by decide) (AR.o a40 (by decide))), (show FX u13 from FX.fr (fl := [12, 15]) (al := [0, 11, 13, 14]) fr12 (by decide) (by decide) (FX.o fx (by decide) (by decide)))⟩, by rw [ht9]; exact hP, hD⟩, hS.F ht9⟩) hS.2.2 dX13_operand_386
      · have z21 : ((v.1 10) (v.1 0 47).toNatClampNeg).toInt ≠ (0 : Int) := ne_z rfl (show (0 : Int32).toInt = (0 : Int) by decide) h6
        refine lv_aload_n hx hb dX13_operand_52 rfl (lv_at hl 0 rfl) ?_
        refine va_get (D := (dC, dI)) (ci := 16) (fs := mF ad v) (v := .ref (ad 9)) (C := RX13) (T := TX13) (N := 124) hx hb ht itX13 hown hK hP 0 rfl rfl 9 (by decide) (ht _ tw_27) (fun _ h9 => h9) rfl dX13_operand_53 ?_
        refine lv_aload_n hx hb dX13_operand_56 rfl (lv_at hl 0 rfl) ?_
        refine va_get (D := (dC, dI)) (ci := 16) (fs := mF ad v) (v := .int (v.1 0 47)) (C := RX13) (T := TX13) (N := 124) hx hb ht itX13 hown hK hP 0 rfl rfl 47 (by decide) (ht _ tw_24) (fun _ h9 => h9) rfl dX13_operand_57 ?_
        refine va_lald (D := (dC, dI)) (f := v.2) hx hb hK hP 6 3 rfl rfl (in_y (a := (v.1 0 47).toInt) (b := 4002) rfl (om_e33521859d zfs) (om_449eb7e9bb zt) rfl) dX13_operand_60 ?_
        refine lv_ldc2 (v := 2147483647) hx hb hown (ht _ tw_113) dX13_operand_61 ?_
        refine W.lcmp hx hb dX13_operand_64 ?_
        refine lv_if_le (tgt := 76) hx hb dX13_operand_65 (by decide) (fun h22 => ?_) (fun h22 => ?_)
        · have z23 : (lg_cmp (v.2 (v.1 0 47).toNatClampNeg) (2147483647 : Int64)).toInt ≤ (0 : Int) := le_z rfl (show (0 : Int32).toInt = (0 : Int) by decide) h22
          refine lv_aload_n hx hb dX13_operand_76 rfl (lv_at hl 0 rfl) ?_
          refine va_get (D := (dC, dI)) (ci := 16) (fs := mF ad v) (v := .ref (ad 9)) (C := RX13) (T := TX13) (N := 124) hx hb ht itX13 hown hK hP 0 rfl rfl 9 (by decide) (ht _ tw_27) (fun _ h9 => h9) rfl dX13_operand_77 ?_
          refine lv_aload_n hx hb dX13_operand_80 rfl (lv_at hl 0 rfl) ?_
          refine va_get (D := (dC, dI)) (ci := 16) (fs := mF ad v) (v := .int (v.1 0 47)) (C := RX13) (T := TX13) (N := 124) hx hb ht itX13 hown hK hP 0 rfl rfl 47 (by decide) (ht _ tw_24) (fun _ h9 => h9) rfl dX13_operand_81 ?_
          refine va_lald (D := (dC, dI)) (f := v.2) hx hb hK hP 6 3 rfl rfl (in_y (a := (v.1 0 47).toInt) (b := 4002) rfl (om_e33521859d zfs) (om_449eb7e9bb zt) rfl) dX13_operand_84 ?_
          refine lv_l2i hx hb dX13_operand_85 rfl ?_
          refine lv_istore_n (lv' := [(1, .int ((v.2 (v.1 0 47).toNatClampNeg).toInt32)), (0, .ref (ad 0))]) hx hb dX13_operand_86 rfl hl (by decide) rfl (fun ls hl => ?_)
          refine lv_aload_n hx hb dX13_operand_87 rfl (lv_at hl 1 rfl) ?_
          refine cux_v (rx_V (n := 0) (As := []) (rest := []) hx hb hml hown ht hKK hFx hP hD hS hA (c_m_take l dC dI cI cB cZ cJ cR tb s.heap.size ad N v  (show 0 ≤ (v.1 0 47).toInt ∧ (v.1 0 47).toInt ≤ 1500 from (om_2fb699b811 zt zfs))) tw_32 tw_33 (by decide +kernel) rfl rfl ⟨show 1 + 1 ≤ 40 * n + 9 from om_dc0ef911ca, show 8 + (1 + 11) + 22 ≤ 28 * (40 * n + 9) from om_1a3684fcd8⟩ (List.range (mW ad N cI cZ cJ v).length) (rg_map _) (mW_nd _ _ _ _ _ _) rfl rfl rfl rfl hl.1 rfl (Nat.le_of_ble_eq_true rfl) dX13_operand_88 ⟨Nat.le_of_ble_eq_true rfl, Nat.le_of_ble_eq_true rfl⟩) hP hD hS hA (fun u9 ce9 q9 H locs hx9 hP hD hS hc9 hv9 hf9 => ?_) (fun u25 H locs hw24 hP hD hS => ?_)
          · exact vx_out (fun x h9 => (hnt x h9).elim) hlocks hc9 hv9 hf9 (fun t9 ht9 hv8 => ⟨u9, (FG.tr (FG.rf _) hx9), ⟨rfl, by rw [ht9]; exact hP, hD⟩, hS.F ht9⟩) hS.2.2 (Nat.le_refl _) (Nat.le_refl _)
          obtain ⟨rfl, a24, b24⟩ := hw24
          have z27 : ((v.1 0 47) + (1 : Int32)).toInt = ((v.1 0 47).toInt) + (1 : Int) := add_z rfl (show (1 : Int32).toInt = (1 : Int) by decide) (om_3eca9b17a5 zws) (om_27eb55d06c zt)
          have hP : va_P (dC, dI) vwCl (mW ad N cI cZ cJ (wA v 0 47 ((v.1 0 47) + (1 : Int32)))) H := hP
          have hD : va_D A (mW ad N cI cZ cJ (wA v 0 47 ((v.1 0 47) + (1 : Int32)))) := hD
          refine W.widen (k := 0) (n := 0) (Nat.le_refl _) (Nat.le_refl _) ?_
          refine lv_aload_n hx hb dX13_operand_91 rfl (lv_at hl 1 rfl) ?_
          refine lv_iload_n hx hb dX13_operand_92 rfl (lv_at hl 0 rfl) ?_
          refine cu_v (rn_V (n := 1) (As := [.int ((v.2 (v.1 0 47).toNatClampNeg).toInt32)]) (rest := []) hx hb hml hown ht hKK hFx hP hD hS hA (c_m_loads l dC dI cI cB cZ cJ cR tb H.size ad N (wA v 0 47 ((v.1 0 47) + (1 : Int32))) ((v.2 (v.1 0 47).toNatClampNeg).toInt32) (show 0 ≤ (v.1 0 12).toInt ∧ (v.1 0 12).toInt ≤ 23980 from (om_2fbbc6575c zws a24)) (show 0 ≤ (v.1 0 15).toInt ∧ (v.1 0 15).toInt ≤ 15980 from (om_1b8bc4dd59 zos a24))) tw_111 tw_112 (by decide +kernel) rfl rfl ⟨show 2 + 1 ≤ 40 * n + 9 from om_86eef57ede, show 8 + (2 + 11) + 46 ≤ 28 * (40 * n + 9) from om_a3475e87b5⟩ (List.range (mW ad N cI cZ cJ (wA v 0 47 ((v.1 0 47) + (1 : Int32)))).length) (rg_map _) (mW_nd _ _ _ _ _ _) rfl rfl rfl rfl hl.1 rfl (Nat.le_of_ble_eq_true rfl) dX13_operand_93 ⟨Nat.le_of_ble_eq_true rfl, Nat.le_of_ble_eq_true rfl⟩) hP hD hS hA (fun u29 H locs hw28 hP hD hS => ?_)
          obtain ⟨fr28, pw28, po28, kc28, ko28, kg28⟩ := hw28
          have pw28 : (v.1 0 12).toInt ≤ (u29.1 0 12).toInt ∧ (u29.1 0 12).toInt ≤ (v.1 0 12).toInt + 2 := pw28
          have po28 : (u29.1 0 15).toInt = (v.1 0 15).toInt + 1 := po28
          have kc28 : ∀ j : Nat, (j : Int) < (v.1 0 12).toInt → (u29.1 11) j = (v.1 11) j := kc28
          have ko28 : ∀ j : Nat, (j : Int) < (v.1 0 15).toInt → (u29.1 13) j = (v.1 13) j := ko28
          have kg28 : ∀ j : Nat, (j : Int) < (v.1 0 15).toInt → (u29.1 14) j = (v.1 14) j := kg28
          refine W.widen (k := 0) (n := 0) (Nat.le_refl _) (Nat.le_refl _) ?_
          refine lv_goto (tgt := 386) hx hb dX13_operand_96 (by decide) ?_
          have q31 : (u29.1 0 47).toInt = ((v.1 0 47) + (1 : Int32)).toInt := congrArg Int32.toInt ((fr28.2.1 47 (by decide)).trans (show (wA v 0 47 ((v.1 0 47) + (1 : Int32))).1 0 47 = ((v.1 0 47) + (1 : Int32)) by rfl))
          have q32 : (u29.1 0 43).toInt = (v.1 0 43).toInt := congrArg Int32.toInt ((fr28.2.1 43 (by decide)).trans (show (wA v 0 47 ((v.1 0 47) + (1 : Int32))).1 0 43 = (v.1 0 43) by rfl))
          have q33 : (u29.1 0 39).toInt = (v.1 0 39).toInt := congrArg Int32.toInt ((fr28.2.1 39 (by decide)).trans (show (wA v 0 47 ((v.1 0 47) + (1 : Int32))).1 0 39 = (v.1 0 39) by rfl))
          have q34 : (u29.1 0 32).toInt = (v.1 0 32).toInt := congrArg Int32.toInt ((fr28.2.1 32 (by decide)).trans (show (wA v 0 47 ((v.1 0 47) + (1 : Int32))).1 0 32 = (v.1 0 32) by rfl))
          have q35 : (u29.1 0 48).toInt = (v.1 0 48).toInt := congrArg Int32.toInt ((fr28.2.1 48 (by decide)).trans (show (wA v 0 47 ((v.1 0 47) + (1 : Int32))).1 0 48 = (v.1 0 48) by rfl))
          have q36 : (u29.1 0 33).toInt = (v.1 0 33).toInt := congrArg Int32.toInt ((fr28.2.1 33 (by decide)).trans (show (wA v 0 47 ((v.1 0 47) + (1 : Int32))).1 0 33 = (v.1 0 33) by rfl))
          refine vx_ret ?_
          exact W.vret hx hb hr (fun t ht9 hW => ⟨⟨u29, rfl, ⟨(FG.tr (FG.f (FG.rf _) ((v.1 0 47) + (1 : Int32)) (by decide)) (FG.up fr28 (by decide) (by decide))), (show (v.1 0 47).toInt + 1 ≤ (u29.1 0 47).toInt ∧ (u29.1 0 47).toInt ≤ 1500 from (om_413e830c37 z27 a24 q31)), (show (v.1 0 49).toInt ≠ (v.1 0 47).toInt from (om_32294a9ce4 b24)), (show (v.1 0 12).toInt ≤ (u29.1 0 12).toInt ∧ (u29.1 0 12).toInt - 15 * (u29.1 0 47).toInt ≤ (v.1 0 12).toInt - 15 * (v.1 0 47).toInt from (om_ed0943c3b0 z27 q31 pw28)), (show (v.1 0 15).toInt ≤ (u29.1 0 15).toInt ∧ (u29.1 0 15).toInt - 10 * (u29.1 0 47).toInt ≤ (v.1 0 15).toInt - 10 * (v.1 0 47).toInt from (om_4820e362bc z27 q31 po28)), (show (v.1 0 43).toInt ≤ (u29.1 0 43).toInt ∧ (u29.1 0 43).toInt - 15 * (u29.1 0 47).toInt ≤ (v.1 0 43).toInt - 15 * (v.1 0 47).toInt from (om_8eec673951 z27 q32 q31)), (show (v.1 0 39).toInt ≤ (u29.1 0 39).toInt ∧ (u29.1 0 39).toInt - 1 * (u29.1 0 47).toInt ≤ (v.1 0 39).toInt - 1 * (v.1 0 47).toInt from (om_6a648d8dbc z27 q33 q31)), (show (u29.1 0 32).toInt = (v.1 0 32).toInt ∧ (u29.1 0 48).toInt = (v.1 0 48).toInt from (om_d5149004fa q34 q35)), (show (v.1 0 33).toInt ≤ (u29.1 0 33).toInt ∧ (u29.1 0 33).toInt ≤ 500 from (om_bc6fc57d17 zhi q36)), (fun (j9 : Nat) hj9 => (kc28 j9 (om_4fe904e9bf hj9))), (fun (j9 : Nat) hj9 => (ko28 j9 (om_4fe904e9bf hj9))), (fun (j9 : Nat) hj9 => (kg28 j9 (om_4fe904e9bf hj9))), (show AR 35 0 1500 u29 from AR.fr (fl := [12, 15]) (al := [0, 11, 13, 14]) fr28 (by decide) (AR.o a35 (by decide))), (show AR 37 0 23999 u29 from AR.fr (fl := [12, 15]) (al := [0, 11, 13, 14]) fr28 (by decide) (AR.o a37 (by decide))), (show AR 38 0 15999 u29 from AR.fr (fl := [12, 15]) (al := [0, 11, 13, 14]) fr28 (by decide) (AR.o a38 (by decide))), (show AR 40 0 23999 u29 from AR.fr (fl := [12, 15]) (al := [0, 11, 13, 14]) fr28 (by decide) (AR.o a40 (by decide))), (show FX u29 from FX.fr (fl := [12, 15]) (al := [0, 11, 13, 14]) fr28 (by decide) (by decide) (FX.o fx (by decide) (by decide)))⟩, by rw [ht9]; exact hP, hD⟩, hS.F ht9⟩) hS.2.2 dX13_operand_386
        · have z37 : (0 : Int) < (lg_cmp (v.2 (v.1 0 47).toNatClampNeg) (2147483647 : Int64)).toInt := nle_z rfl (show (0 : Int32).toInt = (0 : Int) by decide) h22
          refine lv_aload_n hx hb dX13_operand_68 rfl (lv_at hl 0 rfl) ?_
          refine lv_aload_n hx hb dX13_operand_69 rfl (lv_at hl 0 rfl) ?_
          refine va_get (D := (dC, dI)) (ci := 16) (fs := mF ad v) (v := .int (v.1 0 47)) (C := RX13) (T := TX13) (N := 124) hx hb ht itX13 hown hK hP 0 rfl rfl 47 (by decide) (ht _ tw_24) (fun _ h9 => h9) rfl dX13_operand_70 ?_
          refine va_put (D := (dC, dI)) (ci := 16) (fs := mF ad v) (v := .int (v.1 0 47)) (ty := .int) (C := RX13) (T := TX13) (N := 124) hx hb ht itX13 tyX13 tyX13_ok nmX13 hown hK hP hD hS 0 rfl rfl 49 (by decide) (ht _ tw_30) (fun _ h9 => h9) rfl (by decide +kernel) rfl rfl (Nat.le_of_ble_eq_true rfl) dX13_operand_73 (fun H locs hP hD hS => ?_)
          have hP := cP_ (mw_49 ad N cI cZ cJ v (v.1 0 47)) hP
          have hD := cD_ (mw_49 ad N cI cZ cJ v (v.1 0 47)) hD
          refine lv_aload_n hx hb dX13_operand_76 rfl (lv_at hl 0 rfl) ?_
          refine va_get (D := (dC, dI)) (ci := 16) (fs := mF ad (wA v 0 49 (v.1 0 47))) (v := .ref (ad 9)) (C := RX13) (T := TX13) (N := 124) hx hb ht itX13 hown hK hP 0 rfl rfl 9 (by decide) (ht _ tw_27) (fun _ h9 => h9) rfl dX13_operand_77 ?_
          refine lv_aload_n hx hb dX13_operand_80 rfl (lv_at hl 0 rfl) ?_
          refine va_get (D := (dC, dI)) (ci := 16) (fs := mF ad (wA v 0 49 (v.1 0 47))) (v := .int (v.1 0 47)) (C := RX13) (T := TX13) (N := 124) hx hb ht itX13 hown hK hP 0 rfl rfl 47 (by decide) (ht _ tw_24) (fun _ h9 => h9) rfl dX13_operand_81 ?_
          refine va_lald (D := (dC, dI)) (f := v.2) hx hb hK hP 6 3 rfl rfl (in_y (a := (v.1 0 47).toInt) (b := 4002) rfl (om_e33521859d zfs) (om_449eb7e9bb zt) rfl) dX13_operand_84 ?_
          refine lv_l2i hx hb dX13_operand_85 rfl ?_
          refine lv_istore_n (lv' := [(1, .int ((v.2 (v.1 0 47).toNatClampNeg).toInt32)), (0, .ref (ad 0))]) hx hb dX13_operand_86 rfl hl (by decide) rfl (fun ls hl => ?_)
          refine lv_aload_n hx hb dX13_operand_87 rfl (lv_at hl 1 rfl) ?_
          refine cux_v (rx_V (n := 0) (As := []) (rest := []) hx hb hml hown ht hKK hFx hP hD hS hA (c_m_take l dC dI cI cB cZ cJ cR tb H.size ad N (wA v 0 49 (v.1 0 47))  (show 0 ≤ (v.1 0 47).toInt ∧ (v.1 0 47).toInt ≤ 1500 from (om_2fb699b811 zt zfs))) tw_32 tw_33 (by decide +kernel) rfl rfl ⟨show 1 + 1 ≤ 40 * n + 9 from om_dc0ef911ca, show 8 + (1 + 11) + 22 ≤ 28 * (40 * n + 9) from om_1a3684fcd8⟩ (List.range (mW ad N cI cZ cJ (wA v 0 49 (v.1 0 47))).length) (rg_map _) (mW_nd _ _ _ _ _ _) rfl rfl rfl rfl hl.1 rfl (Nat.le_of_ble_eq_true rfl) dX13_operand_88 ⟨Nat.le_of_ble_eq_true rfl, Nat.le_of_ble_eq_true rfl⟩) hP hD hS hA (fun u9 ce9 q9 H locs hx9 hP hD hS hc9 hv9 hf9 => ?_) (fun u39 H locs hw38 hP hD hS => ?_)
          · exact vx_out (fun x h9 => (hnt x h9).elim) hlocks hc9 hv9 hf9 (fun t9 ht9 hv8 => ⟨u9, (FG.tr (FG.f (FG.rf _) (v.1 0 47) (by decide)) hx9), ⟨rfl, by rw [ht9]; exact hP, hD⟩, hS.F ht9⟩) hS.2.2 (Nat.le_refl _) (Nat.le_refl _)
          obtain ⟨rfl, a38, b38⟩ := hw38
          have z41 : ((v.1 0 47) + (1 : Int32)).toInt = ((v.1 0 47).toInt) + (1 : Int) := add_z rfl (show (1 : Int32).toInt = (1 : Int) by decide) (om_3eca9b17a5 zws) (om_27eb55d06c zt)
          have hP : va_P (dC, dI) vwCl (mW ad N cI cZ cJ (wA (wA v 0 49 (v.1 0 47)) 0 47 ((v.1 0 47) + (1 : Int32)))) H := hP
          have hD : va_D A (mW ad N cI cZ cJ (wA (wA v 0 49 (v.1 0 47)) 0 47 ((v.1 0 47) + (1 : Int32)))) := hD
          have a38 : (v.1 0 47).toInt < 1500 := a38
          have b38 : (v.1 0 47).toInt ≠ (v.1 0 47).toInt := b38
          refine W.widen (k := 0) (n := 0) (Nat.le_refl _) (Nat.le_refl _) ?_
          refine lv_aload_n hx hb dX13_operand_91 rfl (lv_at hl 1 rfl) ?_
          refine lv_iload_n hx hb dX13_operand_92 rfl (lv_at hl 0 rfl) ?_
          refine cu_v (rn_V (n := 1) (As := [.int ((v.2 (v.1 0 47).toNatClampNeg).toInt32)]) (rest := []) hx hb hml hown ht hKK hFx hP hD hS hA (c_m_loads l dC dI cI cB cZ cJ cR tb H.size ad N (wA (wA v 0 49 (v.1 0 47)) 0 47 ((v.1 0 47) + (1 : Int32))) ((v.2 (v.1 0 47).toNatClampNeg).toInt32) (show 0 ≤ (v.1 0 12).toInt ∧ (v.1 0 12).toInt ≤ 23980 from (om_2fbbc6575c zws a38)) (show 0 ≤ (v.1 0 15).toInt ∧ (v.1 0 15).toInt ≤ 15980 from (om_1b8bc4dd59 zos a38))) tw_111 tw_112 (by decide +kernel) rfl rfl ⟨show 2 + 1 ≤ 40 * n + 9 from om_86eef57ede, show 8 + (2 + 11) + 46 ≤ 28 * (40 * n + 9) from om_a3475e87b5⟩ (List.range (mW ad N cI cZ cJ (wA (wA v 0 49 (v.1 0 47)) 0 47 ((v.1 0 47) + (1 : Int32)))).length) (rg_map _) (mW_nd _ _ _ _ _ _) rfl rfl rfl rfl hl.1 rfl (Nat.le_of_ble_eq_true rfl) dX13_operand_93 ⟨Nat.le_of_ble_eq_true rfl, Nat.le_of_ble_eq_true rfl⟩) hP hD hS hA (fun u43 H locs hw42 hP hD hS => ?_)
          obtain ⟨fr42, pw42, po42, kc42, ko42, kg42⟩ := hw42
          have pw42 : (v.1 0 12).toInt ≤ (u43.1 0 12).toInt ∧ (u43.1 0 12).toInt ≤ (v.1 0 12).toInt + 2 := pw42
          have po42 : (u43.1 0 15).toInt = (v.1 0 15).toInt + 1 := po42
          have kc42 : ∀ j : Nat, (j : Int) < (v.1 0 12).toInt → (u43.1 11) j = (v.1 11) j := kc42
          have ko42 : ∀ j : Nat, (j : Int) < (v.1 0 15).toInt → (u43.1 13) j = (v.1 13) j := ko42
          have kg42 : ∀ j : Nat, (j : Int) < (v.1 0 15).toInt → (u43.1 14) j = (v.1 14) j := kg42
          refine W.widen (k := 0) (n := 0) (Nat.le_refl _) (Nat.le_refl _) ?_
          refine lv_goto (tgt := 386) hx hb dX13_operand_96 (by decide) ?_
          have q45 : (u43.1 0 47).toInt = ((v.1 0 47) + (1 : Int32)).toInt := congrArg Int32.toInt ((fr42.2.1 47 (by decide)).trans (show (wA (wA v 0 49 (v.1 0 47)) 0 47 ((v.1 0 47) + (1 : Int32))).1 0 47 = ((v.1 0 47) + (1 : Int32)) by rfl))
          have q46 : (u43.1 0 43).toInt = (v.1 0 43).toInt := congrArg Int32.toInt ((fr42.2.1 43 (by decide)).trans (show (wA (wA v 0 49 (v.1 0 47)) 0 47 ((v.1 0 47) + (1 : Int32))).1 0 43 = (v.1 0 43) by rfl))
          have q47 : (u43.1 0 39).toInt = (v.1 0 39).toInt := congrArg Int32.toInt ((fr42.2.1 39 (by decide)).trans (show (wA (wA v 0 49 (v.1 0 47)) 0 47 ((v.1 0 47) + (1 : Int32))).1 0 39 = (v.1 0 39) by rfl))
          have q48 : (u43.1 0 32).toInt = (v.1 0 32).toInt := congrArg Int32.toInt ((fr42.2.1 32 (by decide)).trans (show (wA (wA v 0 49 (v.1 0 47)) 0 47 ((v.1 0 47) + (1 : Int32))).1 0 32 = (v.1 0 32) by rfl))
          have q49 : (u43.1 0 48).toInt = (v.1 0 48).toInt := congrArg Int32.toInt ((fr42.2.1 48 (by decide)).trans (show (wA (wA v 0 49 (v.1 0 47)) 0 47 ((v.1 0 47) + (1 : Int32))).1 0 48 = (v.1 0 48) by rfl))
          have q50 : (u43.1 0 33).toInt = (v.1 0 33).toInt := congrArg Int32.toInt ((fr42.2.1 33 (by decide)).trans (show (wA (wA v 0 49 (v.1 0 47)) 0 47 ((v.1 0 47) + (1 : Int32))).1 0 33 = (v.1 0 33) by rfl))
          refine vx_ret ?_
          exact W.vret hx hb hr (fun t ht9 hW => ⟨⟨u43, rfl, ⟨(FG.tr (FG.f (FG.f (FG.rf _) (v.1 0 47) (by decide)) ((v.1 0 47) + (1 : Int32)) (by decide)) (FG.up fr42 (by decide) (by decide))), (show (v.1 0 47).toInt + 1 ≤ (u43.1 0 47).toInt ∧ (u43.1 0 47).toInt ≤ 1500 from (om_413e830c37 z41 a38 q45)), (show (v.1 0 49).toInt ≠ (v.1 0 47).toInt from (om_114df80471 b38)), (show (v.1 0 12).toInt ≤ (u43.1 0 12).toInt ∧ (u43.1 0 12).toInt - 15 * (u43.1 0 47).toInt ≤ (v.1 0 12).toInt - 15 * (v.1 0 47).toInt from (om_ed0943c3b0 z41 q45 pw42)), (show (v.1 0 15).toInt ≤ (u43.1 0 15).toInt ∧ (u43.1 0 15).toInt - 10 * (u43.1 0 47).toInt ≤ (v.1 0 15).toInt - 10 * (v.1 0 47).toInt from (om_4820e362bc z41 q45 po42)), (show (v.1 0 43).toInt ≤ (u43.1 0 43).toInt ∧ (u43.1 0 43).toInt - 15 * (u43.1 0 47).toInt ≤ (v.1 0 43).toInt - 15 * (v.1 0 47).toInt from (om_8eec673951 z41 q46 q45)), (show (v.1 0 39).toInt ≤ (u43.1 0 39).toInt ∧ (u43.1 0 39).toInt - 1 * (u43.1 0 47).toInt ≤ (v.1 0 39).toInt - 1 * (v.1 0 47).toInt from (om_6a648d8dbc z41 q47 q45)), (show (u43.1 0 32).toInt = (v.1 0 32).toInt ∧ (u43.1 0 48).toInt = (v.1 0 48).toInt from (om_d5149004fa q48 q49)), (show (v.1 0 33).toInt ≤ (u43.1 0 33).toInt ∧ (u43.1 0 33).toInt ≤ 500 from (om_bc6fc57d17 zhi q50)), (fun (j9 : Nat) hj9 => (kc42 j9 (om_4fe904e9bf hj9))), (fun (j9 : Nat) hj9 => (ko42 j9 (om_4fe904e9bf hj9))), (fun (j9 : Nat) hj9 => (kg42 j9 (om_4fe904e9bf hj9))), (show AR 35 0 1500 u43 from AR.fr (fl := [12, 15]) (al := [0, 11, 13, 14]) fr42 (by decide) (AR.o (AR.o a35 (by decide)) (by decide))), (show AR 37 0 23999 u43 from AR.fr (fl := [12, 15]) (al := [0, 11, 13, 14]) fr42 (by decide) (AR.o (AR.o a37 (by decide)) (by decide))), (show AR 38 0 15999 u43 from AR.fr (fl := [12, 15]) (al := [0, 11, 13, 14]) fr42 (by decide) (AR.o (AR.o a38 (by decide)) (by decide))), (show AR 40 0 23999 u43 from AR.fr (fl := [12, 15]) (al := [0, 11, 13, 14]) fr42 (by decide) (AR.o (AR.o a40 (by decide)) (by decide))), (show FX u43 from FX.fr (fl := [12, 15]) (al := [0, 11, 13, 14]) fr42 (by decide) (by decide) (FX.o (FX.o fx (by decide) (by decide)) (by decide) (by decide)))⟩, by rw [ht9]; exact hP, hD⟩, hS.F ht9⟩) hS.2.2 dX13_operand_386
  · have z51 : ((v.1 6) (v.1 0 47).toNatClampNeg).toInt ≠ (4 : Int) := ne_z rfl (show (4 : Int32).toInt = (4 : Int) by decide) h1
    refine lv_aload_n hx hb dX13_operand_13 rfl (lv_at hl 0 rfl) ?_
    refine va_get (D := (dC, dI)) (ci := 16) (fs := mF ad v) (v := .ref (ad 6)) (C := RX13) (T := TX13) (N := 124) hx hb ht itX13 hown hK hP 0 rfl rfl 6 (by decide) (ht _ tw_23) (fun _ h9 => h9) rfl dX13_operand_14 ?_
    refine lv_aload_n hx hb dX13_operand_17 rfl (lv_at hl 0 rfl) ?_
    refine va_get (D := (dC, dI)) (ci := 16) (fs := mF ad v) (v := .int (v.1 0 47)) (C := RX13) (T := TX13) (N := 124) hx hb ht itX13 hown hK hP 0 rfl rfl 47 (by decide) (ht _ tw_24) (fun _ h9 => h9) rfl dX13_operand_18 ?_
    refine va_iald (D := (dC, dI)) (f := (v.1 6)) hx hb hK hP 3 0 rfl rfl (in_y (a := (v.1 0 47).toInt) (b := 4002) rfl (om_e33521859d zfs) (om_449eb7e9bb zt) rfl) dX13_operand_21 ?_
    refine lv_bipush (v := 6) hx hb dX13_operand_22 (by decide) ?_
    refine lv_icmp_ne (tgt := 99) hx hb dX13_operand_24 (by decide) (fun h52 => ?_) (fun h52 => ?_)
    · have z53 : ((v.1 6) (v.1 0 47).toNatClampNeg).toInt ≠ (6 : Int) := ne_z rfl (show (6 : Int32).toInt = (6 : Int) by decide) h52
      refine lv_aload_n hx hb dX13_operand_99 rfl (lv_at hl 0 rfl) ?_
      refine lv_bipush (v := 45) hx hb dX13_operand_100 (by decide) ?_
      refine cu_i (rn_V (n := 1) (As := [.int 45]) (rest := []) hx hb hml hown ht hKK hFx hP hD hS hA (c_m_is l dC dI cI cB cZ cJ cR tb s.heap.size ad N v (45 : Int32) (show 0 ≤ (v.1 0 47).toInt ∧ (v.1 0 47).toInt ≤ 1500 from (om_2fb699b811 zt zfs))) tw_34 tw_35 (by decide +kernel) rfl rfl ⟨show 1 + 1 ≤ 40 * n + 9 from om_dc0ef911ca, show 8 + (2 + 11) + 22 ≤ 28 * (40 * n + 9) from om_8685d0996a⟩ (List.range (mW ad N cI cZ cJ v).length) (rg_map _) (mW_nd _ _ _ _ _ _) rfl rfl rfl rfl hl.1 rfl (Nat.le_of_ble_eq_true rfl) dX13_operand_102 ⟨Nat.le_of_ble_eq_true rfl, Nat.le_of_ble_eq_true rfl⟩) hP hD hS hA (fun r56 u55 H locs hw54 hP hD hS => ?_)
      obtain ⟨rfl, b54, e54⟩ := hw54
      refine W.widen (k := 0) (n := 0) (Nat.le_refl _) (Nat.le_refl _) ?_
      refine lv_if_ne (tgt := 126) hx hb dX13_operand_105 (by decide) (fun h57 => ?_) (fun h57 => ?_)
      · have z58 : r56.toInt ≠ (0 : Int) := ne_z rfl (show (0 : Int32).toInt = (0 : Int) by decide) h57
        refine lv_aload_n hx hb dX13_operand_126 rfl (lv_at hl 0 rfl) ?_
        refine va_get (D := (dC, dI)) (ci := 16) (fs := mF ad v) (v := .ref (ad 9)) (C := RX13) (T := TX13) (N := 124) hx hb ht itX13 hown hK hP 0 rfl rfl 9 (by decide) (ht _ tw_27) (fun _ h9 => h9) rfl dX13_operand_127 ?_
        refine lv_aload_n hx hb dX13_operand_130 rfl (lv_at hl 0 rfl) ?_
        refine va_get (D := (dC, dI)) (ci := 16) (fs := mF ad v) (v := .int (v.1 0 47)) (C := RX13) (T := TX13) (N := 124) hx hb ht itX13 hown hK hP 0 rfl rfl 47 (by decide) (ht _ tw_24) (fun _ h9 => h9) rfl dX13_operand_131 ?_
        refine va_lald (D := (dC, dI)) (f := v.2) hx hb hK hP 6 3 rfl rfl (in_y (a := (v.1 0 47).toInt) (b := 4002) rfl (om_e33521859d zfs) (om_449eb7e9bb zt) rfl) dX13_operand_134 ?_
        refine lv_l2i hx hb dX13_operand_135 rfl ?_
        refine lv_istore_n (lv' := [(1, .int ((v.2 (v.1 0 47).toNatClampNeg).toInt32)), (0, .ref (ad 0))]) hx hb dX13_operand_136 rfl hl (by decide) rfl (fun ls hl => ?_)
        refine lv_aload_n hx hb dX13_operand_137 rfl (lv_at hl 1 rfl) ?_
        refine cux_v (rx_V (n := 0) (As := []) (rest := []) hx hb hml hown ht hKK hFx hP hD hS hA (c_m_opens l dC dI cI cB cZ cJ cR tb H.size ad N v  (show 0 ≤ (v.1 0 47).toInt ∧ (v.1 0 47).toInt ≤ 1500 from (om_2fb699b811 zt zfs)) (show 0 ≤ (v.1 0 48).toInt ∧ (v.1 0 48).toInt ≤ 40 from (om_7eaf33e007 zop))) tw_38 tw_39 (by decide +kernel) rfl rfl ⟨show 2 + 1 ≤ 40 * n + 9 from om_86eef57ede, show 8 + (1 + 11) + 42 ≤ 28 * (40 * n + 9) from om_750cfefb29⟩ (List.range (mW ad N cI cZ cJ v).length) (rg_map _) (mW_nd _ _ _ _ _ _) rfl rfl rfl rfl hl.1 rfl (Nat.le_of_ble_eq_true rfl) dX13_operand_138 ⟨Nat.le_of_ble_eq_true rfl, Nat.le_of_ble_eq_true rfl⟩) hP hD hS hA (fun u9 ce9 q9 H locs hx9 hP hD hS hc9 hv9 hf9 => ?_) (fun u60 H locs hw59 hP hD hS => ?_)
        · exact vx_out (fun x h9 => (hnt x h9).elim) hlocks hc9 hv9 hf9 (fun t9 ht9 hv8 => ⟨u9, (FG.tr (FG.rf _) hx9), ⟨rfl, by rw [ht9]; exact hP, hD⟩, hS.F ht9⟩) hS.2.2 (Nat.le_refl _) (Nat.le_refl _)
        obtain ⟨rfl, a59, b59, c59⟩ := hw59
        have z62 : ((v.1 0 47) + (1 : Int32)).toInt = ((v.1 0 47).toInt) + (1 : Int) := add_z rfl (show (1 : Int32).toInt = (1 : Int) by decide) (om_3eca9b17a5 zws) (om_27eb55d06c zt)
        have z63 : ((v.1 0 48) + (1 : Int32)).toInt = ((v.1 0 48).toInt) + (1 : Int) := add_z rfl (show (1 : Int32).toInt = (1 : Int) by decide) (om_c2418a9965 zop) (om_defb2a7457 zop)
        have hP : va_P (dC, dI) vwCl (mW ad N cI cZ cJ (wA (wA v 0 47 ((v.1 0 47) + (1 : Int32))) 0 48 ((v.1 0 48) + (1 : Int32)))) H := hP
        have hD : va_D A (mW ad N cI cZ cJ (wA (wA v 0 47 ((v.1 0 47) + (1 : Int32))) 0 48 ((v.1 0 48) + (1 : Int32)))) := hD
        refine W.widen (k := 0) (n := 0) (Nat.le_refl _) (Nat.le_refl _) ?_
        refine lv_aload_n hx hb dX13_operand_141 rfl (lv_at hl 1 rfl) ?_
        obtain ⟨n64, hn65⟩ : ∃ m, n = m + 1 := ex_z (om_78b28660f8 zn b59)
        refine cux_v (rx_V (n := 0) (As := []) (rest := []) hx hb hml hown ht hKK hFx hP hD hS hA (ihO n64 hn65 dC dI cI cB cZ cJ cR tb H.size ad N (wA (wA v 0 47 ((v.1 0 47) + (1 : Int32))) 0 48 ((v.1 0 48) + (1 : Int32)))  (show 40 ≤ ((v.1 0 48) + (1 : Int32)).toInt + (n64 : Int) from (om_43cb5bce6b zn z63 hn65)) (show 0 ≤ ((v.1 0 47) + (1 : Int32)).toInt ∧ ((v.1 0 47) + (1 : Int32)).toInt ≤ 1500 from (om_cae3a623a5 zfs z62 a59)) (show 0 ≤ ((v.1 0 48) + (1 : Int32)).toInt ∧ ((v.1 0 48) + (1 : Int32)).toInt ≤ 40 from (om_4c33377394 zop z63 b59)) (show 0 ≤ (v.1 0 30).toInt ∧ (v.1 0 30).toInt ≤ 500 from (om_9861e69da5 zkn)) (show 0 ≤ (v.1 0 33).toInt ∧ (v.1 0 33).toInt ≤ 500 from (om_9861e69da5 zhi)) (show 0 ≤ (v.1 0 32).toInt ∧ (v.1 0 30).toInt + (v.1 0 32).toInt ≤ (v.1 0 33).toInt from (om_f541e4003c zs)) (show 0 ≤ (v.1 0 12).toInt ∧ (v.1 0 12).toInt ≤ 15 * ((v.1 0 47) + (1 : Int32)).toInt + 2 from (om_3894ab1223 zws z62)) (show 0 ≤ (v.1 0 15).toInt ∧ (v.1 0 15).toInt ≤ 10 * ((v.1 0 47) + (1 : Int32)).toInt + 0 from (om_9a74738aa2 zos z62)) (show 0 ≤ (v.1 0 43).toInt ∧ (v.1 0 43).toInt ≤ 15 * ((v.1 0 47) + (1 : Int32)).toInt + 0 from (om_434df26a0f zfs z62)) (show 0 ≤ (v.1 0 39).toInt ∧ (v.1 0 39).toInt ≤ 1 * ((v.1 0 47) + (1 : Int32)).toInt + 0 from (om_3840c96ead zcs z62)) (show 0 ≤ (v.1 0 27).toInt ∧ (v.1 0 27).toInt ≤ 60 from (om_1d2c7ad648 zgl)) (show TI (wA (wA v 0 47 ((v.1 0 47) + (1 : Int32))) 0 48 ((v.1 0 48) + (1 : Int32))) from FG.ti (fl := pfl) (al := pal) (FG.f (FG.f (FG.rf _) ((v.1 0 47) + (1 : Int32)) (by decide)) ((v.1 0 48) + (1 : Int32)) (by decide)) (by decide) (by decide) hT) (show AR 29 0 1500 (wA (wA v 0 47 ((v.1 0 47) + (1 : Int32))) 0 48 ((v.1 0 48) + (1 : Int32))) from (AR.o (AR.o a29 (by decide)) (by decide))) (show AR 23 0 1500 (wA (wA v 0 47 ((v.1 0 47) + (1 : Int32))) 0 48 ((v.1 0 48) + (1 : Int32))) from (AR.o (AR.o a23 (by decide)) (by decide))) (show AR 35 0 1500 (wA (wA v 0 47 ((v.1 0 47) + (1 : Int32))) 0 48 ((v.1 0 48) + (1 : Int32))) from (AR.o (AR.o a35 (by decide)) (by decide))) (show AR 37 0 23999 (wA (wA v 0 47 ((v.1 0 47) + (1 : Int32))) 0 48 ((v.1 0 48) + (1 : Int32))) from (AR.o (AR.o a37 (by decide)) (by decide))) (show AR 38 0 15999 (wA (wA v 0 47 ((v.1 0 47) + (1 : Int32))) 0 48 ((v.1 0 48) + (1 : Int32))) from (AR.o (AR.o a38 (by decide)) (by decide))) (show AR 40 0 23999 (wA (wA v 0 47 ((v.1 0 47) + (1 : Int32))) 0 48 ((v.1 0 48) + (1 : Int32))) from (AR.o (AR.o a40 (by decide)) (by decide))) (show FX (wA (wA v 0 47 ((v.1 0 47) + (1 : Int32))) 0 48 ((v.1 0 48) + (1 : Int32))) from (FX.o (FX.o fx (by decide) (by decide)) (by decide) (by decide)))) tw_114 tw_115 (by decide +kernel) rfl rfl ⟨show (40 * n64 + 9) + 1 ≤ 40 * n + 9 from (om_d13994734d hn65), show 8 + (2 + 11) + 28 * (40 * n64 + 9) ≤ 28 * (40 * n + 9) from (om_7349e8fe6d hn65)⟩ (List.range (mW ad N cI cZ cJ (wA (wA v 0 47 ((v.1 0 47) + (1 : Int32))) 0 48 ((v.1 0 48) + (1 : Int32)))).length) (rg_map _) (mW_nd _ _ _ _ _ _) rfl rfl rfl rfl hl.1 rfl (Nat.le_of_ble_eq_true rfl) dX13_operand_142 ⟨Nat.le_of_ble_eq_true rfl, Nat.le_of_ble_eq_true rfl⟩) hP hD hS hA (fun u9 ce9 q9 H locs hx9 hP hD hS hc9 hv9 hf9 => ?_) (fun u67 H locs hw66 hP hD hS => ?_)
        · exact vx_out (fun x h9 => (hnt x h9).elim) hlocks hc9 hv9 hf9 (fun t9 ht9 hv8 => ⟨u9, (FG.tr (FG.f (FG.f (FG.rf _) ((v.1 0 47) + (1 : Int32)) (by decide)) ((v.1 0 48) + (1 : Int32)) (by decide)) hx9), ⟨rfl, by rw [ht9]; exact hP, hD⟩, hS.F ht9⟩) hS.2.2 (Nat.le_refl _) (Nat.le_refl _)
        obtain ⟨fr66, pt66, pb66, pw66, po66, pf66, pk66, pp66, ph66, kc66, ko66, kg66, a3566, a3766, a3866, a4066, fx66⟩ := hw66
        have pt66 : ((v.1 0 47) + (1 : Int32)).toInt + 1 ≤ (u67.1 0 47).toInt ∧ (u67.1 0 47).toInt ≤ 1500 := pt66
        have pb66 : (v.1 0 49).toInt ≠ ((v.1 0 47) + (1 : Int32)).toInt := pb66
        have pw66 : (v.1 0 12).toInt ≤ (u67.1 0 12).toInt ∧ (u67.1 0 12).toInt - 15 * (u67.1 0 47).toInt ≤ (v.1 0 12).toInt - 15 * ((v.1 0 47) + (1 : Int32)).toInt := pw66
        have po66 : (v.1 0 15).toInt ≤ (u67.1 0 15).toInt ∧ (u67.1 0 15).toInt - 10 * (u67.1 0 47).toInt ≤ (v.1 0 15).toInt - 10 * ((v.1 0 47) + (1 : Int32)).toInt := po66
        have pf66 : (v.1 0 43).toInt ≤ (u67.1 0 43).toInt ∧ (u67.1 0 43).toInt - 15 * (u67.1 0 47).toInt ≤ (v.1 0 43).toInt - 15 * ((v.1 0 47) + (1 : Int32)).toInt := pf66
        have pk66 : (v.1 0 39).toInt ≤ (u67.1 0 39).toInt ∧ (u67.1 0 39).toInt - 1 * (u67.1 0 47).toInt ≤ (v.1 0 39).toInt - 1 * ((v.1 0 47) + (1 : Int32)).toInt := pk66
        have pp66 : (u67.1 0 32).toInt = (v.1 0 32).toInt ∧ (u67.1 0 48).toInt = ((v.1 0 48) + (1 : Int32)).toInt := pp66
        have ph66 : (v.1 0 33).toInt ≤ (u67.1 0 33).toInt ∧ (u67.1 0 33).toInt ≤ 500 := ph66
        have kc66 : ∀ j : Nat, (j : Int) < (v.1 0 12).toInt → (u67.1 11) j = (v.1 11) j := kc66
        have ko66 : ∀ j : Nat, (j : Int) < (v.1 0 15).toInt → (u67.1 13) j = (v.1 13) j := ko66
        have kg66 : ∀ j : Nat, (j : Int) < (v.1 0 15).toInt → (u67.1 14) j = (v.1 14) j := kg66
        have a3566 : AR 35 0 1500 u67 := a3566
        have a3766 : AR 37 0 23999 u67 := a3766
        have a3866 : AR 38 0 15999 u67 := a3866
        have a4066 : AR 40 0 23999 u67 := a4066
        have fx66 : FX u67 := fx66
        refine W.widen (k := 0) (n := 0) (Nat.le_refl _) (Nat.le_refl _) ?_
        refine lv_aload_n hx hb dX13_operand_145 rfl (lv_at hl 1 rfl) ?_
        refine lv_dup hx hb dX13_operand_146 rfl ?_
        refine va_get (D := (dC, dI)) (ci := 16) (fs := mF ad u67) (v := .int (u67.1 0 48)) (C := RX13) (T := TX13) (N := 124) hx hb ht itX13 hown hK hP 0 rfl rfl 48 (by decide) (ht _ tw_31) (fun _ h9 => h9) rfl dX13_operand_147 ?_
        refine lv_iconst (v := 1) hx hb dX13_operand_150 (by decide) ?_
        refine lv_isub hx hb dX13_operand_151 ?_
        have z69 : ((u67.1 0 48) - (1 : Int32)).toInt = ((u67.1 0 48).toInt) - (1 : Int) := sub_z rfl (show (1 : Int32).toInt = (1 : Int) by decide) (om_32962d0667 zop z63 pp66) (om_d0370bb848 z63 b59 pp66)
        refine va_put (D := (dC, dI)) (ci := 16) (fs := mF ad u67) (v := .int ((u67.1 0 48) - (1 : Int32))) (ty := .int) (C := RX13) (T := TX13) (N := 124) hx hb ht itX13 tyX13 tyX13_ok nmX13 hown hK hP hD hS 0 rfl rfl 48 (by decide) (ht _ tw_31) (fun _ h9 => h9) rfl (by decide +kernel) rfl rfl (Nat.le_of_ble_eq_true rfl) dX13_operand_152 (fun H locs hP hD hS => ?_)
        have hP := cP_ (mw_48 ad N cI cZ cJ u67 ((u67.1 0 48) - (1 : Int32))) hP
        have hD := cD_ (mw_48 ad N cI cZ cJ u67 ((u67.1 0 48) - (1 : Int32))) hD
        refine lv_aload_n hx hb dX13_operand_155 rfl (lv_at hl 1 rfl) ?_
        refine lv_iload_n hx hb dX13_operand_156 rfl (lv_at hl 0 rfl) ?_
        refine lv_bipush (v := 45) hx hb dX13_operand_157 (by decide) ?_
        refine lv_icmp_ne (tgt := 176) hx hb dX13_operand_159 (by decide) (fun h70 => ?_) (fun h70 => ?_)
        · have z71 : ((v.2 (v.1 0 47).toNatClampNeg).toInt32).toInt ≠ (45 : Int) := ne_z rfl (show (45 : Int32).toInt = (45 : Int) by decide) h70
          refine lv_iload_n hx hb dX13_operand_176 rfl (lv_at hl 0 rfl) ?_
          refine lv_bipush (v := 33) hx hb dX13_operand_177 (by decide) ?_
          refine lv_icmp_ne (tgt := 196) hx hb dX13_operand_179 (by decide) (fun h72 => ?_) (fun h72 => ?_)
          · have z73 : ((v.2 (v.1 0 47).toNatClampNeg).toInt32).toInt ≠ (33 : Int) := ne_z rfl (show (33 : Int32).toInt = (33 : Int) by decide) h72
            refine lv_bipush (v := 19) hx hb dX13_operand_196 (by decide) ?_
            refine lv_iconst (v := 4) hx hb dX13_operand_198 (by decide) ?_
            refine lv_bipush (v := 10) hx hb dX13_operand_199 (by decide) ?_
            refine lv_bipush (v := 10) hx hb dX13_operand_201 (by decide) ?_
            refine lv_iconst (v := -1) hx hb dX13_operand_203 (by decide) ?_
            refine cu_s (mW_nd _ _ _ _ _ _) (rn_S (n := 5) (As := [.int 19, .int 4, .int 10, .int 10, .int (-1)]) (rest := [.ref (ad 0)]) hx hb hml hown ht hKK hFx hP hD hS hA (c_m_byI l dC dI cI cB cZ cJ cR tb H.size (19 : Int32) (4 : Int32) (10 : Int32) (10 : Int32) (-1 : Int32) ) tw_2 tw_3 (by decide +kernel) rfl rfl ⟨show 0 + 1 ≤ 40 * n + 9 from om_fd17f2e70e, show 8 + (5 + 11) + 0 ≤ 28 * (40 * n + 9) from om_4dd6cddcce⟩ [] rfl rfl rfl hl.1 rfl (Nat.le_of_ble_eq_true rfl) dX13_operand_204 ⟨Nat.le_of_ble_eq_true rfl, Nat.le_of_ble_eq_true rfl⟩) hP hD hS hA (fun r76 H locs hw74 hP hD hS => ?_)
            refine W.widen (k := 0) (n := 0) (Nat.le_refl _) (Nat.le_refl _) ?_
            refine cu_i (rn_V (n := 1) (As := [.int r76]) (rest := []) hx hb hml hown ht hKK hFx hP hD hS hA (c_m_emit l dC dI cI cB cZ cJ cR tb H.size ad N (wA u67 0 48 ((u67.1 0 48) - (1 : Int32))) r76 (show 0 ≤ (u67.1 0 12).toInt ∧ (u67.1 0 12).toInt < 24000 from (om_6ad570a484 zws z62 pt66 pw66))) tw_8 tw_9 (by decide +kernel) rfl rfl ⟨show 0 + 1 ≤ 40 * n + 9 from om_fd17f2e70e, show 8 + (2 + 11) + 0 ≤ 28 * (40 * n + 9) from om_4229287154⟩ (List.range (mW ad N cI cZ cJ (wA u67 0 48 ((u67.1 0 48) - (1 : Int32)))).length) (rg_map _) (mW_nd _ _ _ _ _ _) rfl rfl rfl rfl hl.1 rfl (Nat.le_of_ble_eq_true rfl) dX13_operand_207 ⟨Nat.le_of_ble_eq_true rfl, Nat.le_of_ble_eq_true rfl⟩) hP hD hS hA (fun r79 u78 H locs hw77 hP hD hS => ?_)
            obtain ⟨rfl, rfl⟩ := hw77
            have z80 : ((u67.1 0 12) + (1 : Int32)).toInt = ((u67.1 0 12).toInt) + (1 : Int) := add_z rfl (show (1 : Int32).toInt = (1 : Int) by decide) (om_6ad47c49ef zws pw66) (om_99b5e8925f zws z62 pt66 pw66)
            have hP : va_P (dC, dI) vwCl (mW ad N cI cZ cJ (wA (wA (wA u67 0 48 ((u67.1 0 48) - (1 : Int32))) 11 ((u67.1 0 12).toNatClampNeg) r76) 0 12 ((u67.1 0 12) + (1 : Int32)))) H := hP
            have hD : va_D A (mW ad N cI cZ cJ (wA (wA (wA u67 0 48 ((u67.1 0 48) - (1 : Int32))) 11 ((u67.1 0 12).toNatClampNeg) r76) 0 12 ((u67.1 0 12) + (1 : Int32)))) := hD
            refine tp_i (y := (u67.1 0 12)) (rfl) ?_
            refine W.widen (k := 0) (n := 0) (Nat.le_refl _) (Nat.le_refl _) ?_
            refine lv_pop hx hb dX13_operand_210 rfl ?_
            refine lv_aload_n hx hb dX13_operand_211 rfl (lv_at hl 1 rfl) ?_
            refine lv_iload_n hx hb dX13_operand_212 rfl (lv_at hl 0 rfl) ?_
            refine lv_bipush (v := 45) hx hb dX13_operand_213 (by decide) ?_
            refine lv_icmp_ne (tgt := 223) hx hb dX13_operand_215 (by decide) (fun h81 => ?_) (fun h81 => ?_)
            · have z82 : ((v.2 (v.1 0 47).toNatClampNeg).toInt32).toInt ≠ (45 : Int) := ne_z rfl (show (45 : Int32).toInt = (45 : Int) by decide) h81
              refine lv_iload_n hx hb dX13_operand_223 rfl (lv_at hl 0 rfl) ?_
              refine lv_bipush (v := 33) hx hb dX13_operand_224 (by decide) ?_
              refine lv_icmp_ne (tgt := 234) hx hb dX13_operand_226 (by decide) (fun h83 => ?_) (fun h83 => ?_)
              · have z84 : ((v.2 (v.1 0 47).toNatClampNeg).toInt32).toInt ≠ (33 : Int) := ne_z rfl (show (33 : Int32).toInt = (33 : Int) by decide) h83
                refine lv_bipush (v := 20) hx hb dX13_operand_234 (by decide) ?_
                refine lv_iconst (v := 0) hx hb dX13_operand_236 (by decide) ?_
                refine cu_i (rn_V (n := 2) (As := [.int 20, .int 0]) (rest := []) hx hb hml hown ht hKK hFx hP hD hS hA (c_m_say l dC dI cI cB cZ cJ cR tb H.size ad N (wA (wA (wA u67 0 48 ((u67.1 0 48) - (1 : Int32))) 11 ((u67.1 0 12).toNatClampNeg) r76) 0 12 ((u67.1 0 12) + (1 : Int32))) (20 : Int32) (0 : Int32) (show 0 ≤ (u67.1 0 15).toInt ∧ (u67.1 0 15).toInt < 16000 from (om_ab4ad5e078 zos z62 pt66 po66))) tw_59 tw_60 (by decide +kernel) rfl rfl ⟨show 0 + 1 ≤ 40 * n + 9 from om_fd17f2e70e, show 8 + (3 + 11) + 0 ≤ 28 * (40 * n + 9) from om_e79917e237⟩ (List.range (mW ad N cI cZ cJ (wA (wA (wA u67 0 48 ((u67.1 0 48) - (1 : Int32))) 11 ((u67.1 0 12).toNatClampNeg) r76) 0 12 ((u67.1 0 12) + (1 : Int32)))).length) (rg_map _) (mW_nd _ _ _ _ _ _) rfl rfl rfl rfl hl.1 rfl (Nat.le_of_ble_eq_true rfl) dX13_operand_237 ⟨Nat.le_of_ble_eq_true rfl, Nat.le_of_ble_eq_true rfl⟩) hP hD hS hA (fun r87 u86 H locs hw85 hP hD hS => ?_)
                obtain ⟨rfl, rfl⟩ := hw85
                have z88 : ((u67.1 0 15) + (1 : Int32)).toInt = ((u67.1 0 15).toInt) + (1 : Int) := add_z rfl (show (1 : Int32).toInt = (1 : Int) by decide) (om_436cd0d872 zos po66) (om_4b3fea160f zos z62 pt66 po66)
                have hP : va_P (dC, dI) vwCl (mW ad N cI cZ cJ (wA (wA (wA (wA (wA (wA u67 0 48 ((u67.1 0 48) - (1 : Int32))) 11 ((u67.1 0 12).toNatClampNeg) r76) 0 12 ((u67.1 0 12) + (1 : Int32))) 13 ((u67.1 0 15).toNatClampNeg) (20 : Int32)) 14 ((u67.1 0 15).toNatClampNeg) (0 : Int32)) 0 15 ((u67.1 0 15) + (1 : Int32)))) H := hP
                have hD : va_D A (mW ad N cI cZ cJ (wA (wA (wA (wA (wA (wA u67 0 48 ((u67.1 0 48) - (1 : Int32))) 11 ((u67.1 0 12).toNatClampNeg) r76) 0 12 ((u67.1 0 12) + (1 : Int32))) 13 ((u67.1 0 15).toNatClampNeg) (20 : Int32)) 14 ((u67.1 0 15).toNatClampNeg) (0 : Int32)) 0 15 ((u67.1 0 15) + (1 : Int32)))) := hD
                refine tp_i (y := (u67.1 0 15)) (rfl) ?_
                refine W.widen (k := 0) (n := 0) (Nat.le_refl _) (Nat.le_refl _) ?_
                refine lv_pop hx hb dX13_operand_240 rfl ?_
                refine lv_goto (tgt := 386) hx hb dX13_operand_241 (by decide) ?_
                refine vx_ret ?_
                exact W.vret hx hb hr (fun t ht9 hW => ⟨⟨(wA (wA (wA (wA (wA (wA u67 0 48 ((u67.1 0 48) - (1 : Int32))) 11 ((u67.1 0 12).toNatClampNeg) r76) 0 12 ((u67.1 0 12) + (1 : Int32))) 13 ((u67.1 0 15).toNatClampNeg) (20 : Int32)) 14 ((u67.1 0 15).toNatClampNeg) (0 : Int32)) 0 15 ((u67.1 0 15) + (1 : Int32))), rfl, ⟨(FG.f (FG.a (FG.a (FG.f (FG.a (FG.f (FG.tr (FG.f (FG.f (FG.rf _) ((v.1 0 47) + (1 : Int32)) (by decide)) ((v.1 0 48) + (1 : Int32)) (by decide)) (FG.up fr66 (by decide) (by decide))) ((u67.1 0 48) - (1 : Int32)) (by decide)) ((u67.1 0 12).toNatClampNeg) r76 (by decide) (by decide)) ((u67.1 0 12) + (1 : Int32)) (by decide)) ((u67.1 0 15).toNatClampNeg) (20 : Int32) (by decide) (by decide)) ((u67.1 0 15).toNatClampNeg) (0 : Int32) (by decide) (by decide)) ((u67.1 0 15) + (1 : Int32)) (by decide)), (show (v.1 0 47).toInt + 1 ≤ (u67.1 0 47).toInt ∧ (u67.1 0 47).toInt ≤ 1500 from (om_ff8aa832bb z62 pt66)), (show (v.1 0 49).toInt ≠ (v.1 0 47).toInt from (om_32294a9ce4 c59)), (show (v.1 0 12).toInt ≤ ((u67.1 0 12) + (1 : Int32)).toInt ∧ ((u67.1 0 12) + (1 : Int32)).toInt - 15 * (u67.1 0 47).toInt ≤ (v.1 0 12).toInt - 15 * (v.1 0 47).toInt from (om_7d9f5eca64 z62 pw66 z80)), (show (v.1 0 15).toInt ≤ ((u67.1 0 15) + (1 : Int32)).toInt ∧ ((u67.1 0 15) + (1 : Int32)).toInt - 10 * (u67.1 0 47).toInt ≤ (v.1 0 15).toInt - 10 * (v.1 0 47).toInt from (om_e3c4ffe5ce z62 po66 z88)), (show (v.1 0 43).toInt ≤ (u67.1 0 43).toInt ∧ (u67.1 0 43).toInt - 15 * (u67.1 0 47).toInt ≤ (v.1 0 43).toInt - 15 * (v.1 0 47).toInt from (om_48209a9386 z62 pf66)), (show (v.1 0 39).toInt ≤ (u67.1 0 39).toInt ∧ (u67.1 0 39).toInt - 1 * (u67.1 0 47).toInt ≤ (v.1 0 39).toInt - 1 * (v.1 0 47).toInt from (om_df731194be z62 pk66)), (show (u67.1 0 32).toInt = (v.1 0 32).toInt ∧ ((u67.1 0 48) - (1 : Int32)).toInt = (v.1 0 48).toInt from (om_4a47b03b7f z63 pp66 z69)), (show (v.1 0 33).toInt ≤ (u67.1 0 33).toInt ∧ (u67.1 0 33).toInt ≤ 500 from (om_6bc0cea141 ph66)), (fun (j9 : Nat) hj9 => (Eq.trans (pk_un3 (a := (u67.1 0 12).toInt) rfl (om_1ce1b92b31 zws pw66) (om_e81726c0b3 pw66 hj9)) (kc66 j9 (om_4fe904e9bf hj9)))), (fun (j9 : Nat) hj9 => (Eq.trans (pk_un3 (a := (u67.1 0 15).toInt) rfl (om_4b760a59ba zos po66) (om_24f6a8216f po66 hj9)) (ko66 j9 (om_4fe904e9bf hj9)))), (fun (j9 : Nat) hj9 => (Eq.trans (pk_un3 (a := (u67.1 0 15).toInt) rfl (om_4b760a59ba zos po66) (om_24f6a8216f po66 hj9)) (kg66 j9 (om_4fe904e9bf hj9)))), (AR.o (AR.o (AR.o (AR.o (AR.o (AR.o a3566 (by decide)) (by decide)) (by decide)) (by decide)) (by decide)) (by decide)), (AR.o (AR.o (AR.o (AR.o (AR.o (AR.o a3766 (by decide)) (by decide)) (by decide)) (by decide)) (by decide)) (by decide)), (AR.o (AR.o (AR.o (AR.o (AR.o (AR.o a3866 (by decide)) (by decide)) (by decide)) (by decide)) (by decide)) (by decide)), (AR.o (AR.o (AR.o (AR.o (AR.o (AR.o a4066 (by decide)) (by decide)) (by decide)) (by decide)) (by decide)) (by decide)), (FX.o (FX.o (FX.o (FX.o (FX.o (FX.o fx66 (by decide) (by decide)) (by decide) (by decide)) (by decide) (by decide)) (by decide) (by decide)) (by decide) (by decide)) (by decide) (by decide))⟩, by rw [ht9]; exact hP, hD⟩, hS.F ht9⟩) hS.2.2 dX13_operand_386
              · have z89 : ((v.2 (v.1 0 47).toNatClampNeg).toInt32).toInt = (33 : Int) := eq_z rfl (show (33 : Int32).toInt = (33 : Int) by decide) h83
                exact False.elim (om_9d9908e07d z73 z89)
            · have z90 : ((v.2 (v.1 0 47).toNatClampNeg).toInt32).toInt = (45 : Int) := eq_z rfl (show (45 : Int32).toInt = (45 : Int) by decide) h81
              exact False.elim (om_aab5508d07 z71 z90)
          · have z91 : ((v.2 (v.1 0 47).toNatClampNeg).toInt32).toInt = (33 : Int) := eq_z rfl (show (33 : Int32).toInt = (33 : Int) by decide) h72
            refine lv_bipush (v := 19) hx hb dX13_operand_182 (by decide) ?_
            refine lv_iconst (v := 3) hx hb dX13_operand_184 (by decide) ?_
            refine lv_bipush (v := 10) hx hb dX13_operand_185 (by decide) ?_
            refine lv_bipush (v := 10) hx hb dX13_operand_187 (by decide) ?_
            refine lv_iconst (v := 1) hx hb dX13_operand_189 (by decide) ?_
            refine cu_s (mW_nd _ _ _ _ _ _) (rn_S (n := 5) (As := [.int 19, .int 3, .int 10, .int 10, .int 1]) (rest := [.ref (ad 0)]) hx hb hml hown ht hKK hFx hP hD hS hA (c_m_byI l dC dI cI cB cZ cJ cR tb H.size (19 : Int32) (3 : Int32) (10 : Int32) (10 : Int32) (1 : Int32) ) tw_2 tw_3 (by decide +kernel) rfl rfl ⟨show 0 + 1 ≤ 40 * n + 9 from om_fd17f2e70e, show 8 + (5 + 11) + 0 ≤ 28 * (40 * n + 9) from om_4dd6cddcce⟩ [] rfl rfl rfl hl.1 rfl (Nat.le_of_ble_eq_true rfl) dX13_operand_190 ⟨Nat.le_of_ble_eq_true rfl, Nat.le_of_ble_eq_true rfl⟩) hP hD hS hA (fun r94 H locs hw92 hP hD hS => ?_)
            refine W.widen (k := 0) (n := 0) (Nat.le_refl _) (Nat.le_refl _) ?_
            refine lv_goto (tgt := 207) hx hb dX13_operand_193 (by decide) ?_
            refine cu_i (rn_V (n := 1) (As := [.int r94]) (rest := []) hx hb hml hown ht hKK hFx hP hD hS hA (c_m_emit l dC dI cI cB cZ cJ cR tb H.size ad N (wA u67 0 48 ((u67.1 0 48) - (1 : Int32))) r94 (show 0 ≤ (u67.1 0 12).toInt ∧ (u67.1 0 12).toInt < 24000 from (om_6ad570a484 zws z62 pt66 pw66))) tw_8 tw_9 (by decide +kernel) rfl rfl ⟨show 0 + 1 ≤ 40 * n + 9 from om_fd17f2e70e, show 8 + (2 + 11) + 0 ≤ 28 * (40 * n + 9) from om_4229287154⟩ (List.range (mW ad N cI cZ cJ (wA u67 0 48 ((u67.1 0 48) - (1 : Int32)))).length) (rg_map _) (mW_nd _ _ _ _ _ _) rfl rfl rfl rfl hl.1 rfl (Nat.le_of_ble_eq_true rfl) dX13_operand_207 ⟨Nat.le_of_ble_eq_true rfl, Nat.le_of_ble_eq_true rfl⟩) hP hD hS hA (fun r97 u96 H locs hw95 hP hD hS => ?_)
            obtain ⟨rfl, rfl⟩ := hw95
            have z98 : ((u67.1 0 12) + (1 : Int32)).toInt = ((u67.1 0 12).toInt) + (1 : Int) := add_z rfl (show (1 : Int32).toInt = (1 : Int) by decide) (om_6ad47c49ef zws pw66) (om_99b5e8925f zws z62 pt66 pw66)
            have hP : va_P (dC, dI) vwCl (mW ad N cI cZ cJ (wA (wA (wA u67 0 48 ((u67.1 0 48) - (1 : Int32))) 11 ((u67.1 0 12).toNatClampNeg) r94) 0 12 ((u67.1 0 12) + (1 : Int32)))) H := hP
            have hD : va_D A (mW ad N cI cZ cJ (wA (wA (wA u67 0 48 ((u67.1 0 48) - (1 : Int32))) 11 ((u67.1 0 12).toNatClampNeg) r94) 0 12 ((u67.1 0 12) + (1 : Int32)))) := hD
            refine tp_i (y := (u67.1 0 12)) (rfl) ?_
            refine W.widen (k := 0) (n := 0) (Nat.le_refl _) (Nat.le_refl _) ?_
            refine lv_pop hx hb dX13_operand_210 rfl ?_
            refine lv_aload_n hx hb dX13_operand_211 rfl (lv_at hl 1 rfl) ?_
            refine lv_iload_n hx hb dX13_operand_212 rfl (lv_at hl 0 rfl) ?_
            refine lv_bipush (v := 45) hx hb dX13_operand_213 (by decide) ?_
            refine lv_icmp_ne (tgt := 223) hx hb dX13_operand_215 (by decide) (fun h99 => ?_) (fun h99 => ?_)
            · have z100 : ((v.2 (v.1 0 47).toNatClampNeg).toInt32).toInt ≠ (45 : Int) := ne_z rfl (show (45 : Int32).toInt = (45 : Int) by decide) h99
              refine lv_iload_n hx hb dX13_operand_223 rfl (lv_at hl 0 rfl) ?_
              refine lv_bipush (v := 33) hx hb dX13_operand_224 (by decide) ?_
              refine lv_icmp_ne (tgt := 234) hx hb dX13_operand_226 (by decide) (fun h101 => ?_) (fun h101 => ?_)
              · have z102 : ((v.2 (v.1 0 47).toNatClampNeg).toInt32).toInt ≠ (33 : Int) := ne_z rfl (show (33 : Int32).toInt = (33 : Int) by decide) h101
                exact False.elim (om_abbf94d96b z91 z102)
              · have z103 : ((v.2 (v.1 0 47).toNatClampNeg).toInt32).toInt = (33 : Int) := eq_z rfl (show (33 : Int32).toInt = (33 : Int) by decide) h101
                refine lv_bipush (v := 19) hx hb dX13_operand_229 (by decide) ?_
                refine lv_goto (tgt := 236) hx hb dX13_operand_231 (by decide) ?_
                refine lv_iconst (v := 0) hx hb dX13_operand_236 (by decide) ?_
                refine cu_i (rn_V (n := 2) (As := [.int 19, .int 0]) (rest := []) hx hb hml hown ht hKK hFx hP hD hS hA (c_m_say l dC dI cI cB cZ cJ cR tb H.size ad N (wA (wA (wA u67 0 48 ((u67.1 0 48) - (1 : Int32))) 11 ((u67.1 0 12).toNatClampNeg) r94) 0 12 ((u67.1 0 12) + (1 : Int32))) (19 : Int32) (0 : Int32) (show 0 ≤ (u67.1 0 15).toInt ∧ (u67.1 0 15).toInt < 16000 from (om_ab4ad5e078 zos z62 pt66 po66))) tw_59 tw_60 (by decide +kernel) rfl rfl ⟨show 0 + 1 ≤ 40 * n + 9 from om_fd17f2e70e, show 8 + (3 + 11) + 0 ≤ 28 * (40 * n + 9) from om_e79917e237⟩ (List.range (mW ad N cI cZ cJ (wA (wA (wA u67 0 48 ((u67.1 0 48) - (1 : Int32))) 11 ((u67.1 0 12).toNatClampNeg) r94) 0 12 ((u67.1 0 12) + (1 : Int32)))).length) (rg_map _) (mW_nd _ _ _ _ _ _) rfl rfl rfl rfl hl.1 rfl (Nat.le_of_ble_eq_true rfl) dX13_operand_237 ⟨Nat.le_of_ble_eq_true rfl, Nat.le_of_ble_eq_true rfl⟩) hP hD hS hA (fun r106 u105 H locs hw104 hP hD hS => ?_)
                obtain ⟨rfl, rfl⟩ := hw104
                have z107 : ((u67.1 0 15) + (1 : Int32)).toInt = ((u67.1 0 15).toInt) + (1 : Int) := add_z rfl (show (1 : Int32).toInt = (1 : Int) by decide) (om_436cd0d872 zos po66) (om_4b3fea160f zos z62 pt66 po66)
                have hP : va_P (dC, dI) vwCl (mW ad N cI cZ cJ (wA (wA (wA (wA (wA (wA u67 0 48 ((u67.1 0 48) - (1 : Int32))) 11 ((u67.1 0 12).toNatClampNeg) r94) 0 12 ((u67.1 0 12) + (1 : Int32))) 13 ((u67.1 0 15).toNatClampNeg) (19 : Int32)) 14 ((u67.1 0 15).toNatClampNeg) (0 : Int32)) 0 15 ((u67.1 0 15) + (1 : Int32)))) H := hP
                have hD : va_D A (mW ad N cI cZ cJ (wA (wA (wA (wA (wA (wA u67 0 48 ((u67.1 0 48) - (1 : Int32))) 11 ((u67.1 0 12).toNatClampNeg) r94) 0 12 ((u67.1 0 12) + (1 : Int32))) 13 ((u67.1 0 15).toNatClampNeg) (19 : Int32)) 14 ((u67.1 0 15).toNatClampNeg) (0 : Int32)) 0 15 ((u67.1 0 15) + (1 : Int32)))) := hD
                refine tp_i (y := (u67.1 0 15)) (rfl) ?_
                refine W.widen (k := 0) (n := 0) (Nat.le_refl _) (Nat.le_refl _) ?_
                refine lv_pop hx hb dX13_operand_240 rfl ?_
                refine lv_goto (tgt := 386) hx hb dX13_operand_241 (by decide) ?_
                refine vx_ret ?_
                exact W.vret hx hb hr (fun t ht9 hW => ⟨⟨(wA (wA (wA (wA (wA (wA u67 0 48 ((u67.1 0 48) - (1 : Int32))) 11 ((u67.1 0 12).toNatClampNeg) r94) 0 12 ((u67.1 0 12) + (1 : Int32))) 13 ((u67.1 0 15).toNatClampNeg) (19 : Int32)) 14 ((u67.1 0 15).toNatClampNeg) (0 : Int32)) 0 15 ((u67.1 0 15) + (1 : Int32))), rfl, ⟨(FG.f (FG.a (FG.a (FG.f (FG.a (FG.f (FG.tr (FG.f (FG.f (FG.rf _) ((v.1 0 47) + (1 : Int32)) (by decide)) ((v.1 0 48) + (1 : Int32)) (by decide)) (FG.up fr66 (by decide) (by decide))) ((u67.1 0 48) - (1 : Int32)) (by decide)) ((u67.1 0 12).toNatClampNeg) r94 (by decide) (by decide)) ((u67.1 0 12) + (1 : Int32)) (by decide)) ((u67.1 0 15).toNatClampNeg) (19 : Int32) (by decide) (by decide)) ((u67.1 0 15).toNatClampNeg) (0 : Int32) (by decide) (by decide)) ((u67.1 0 15) + (1 : Int32)) (by decide)), (show (v.1 0 47).toInt + 1 ≤ (u67.1 0 47).toInt ∧ (u67.1 0 47).toInt ≤ 1500 from (om_ff8aa832bb z62 pt66)), (show (v.1 0 49).toInt ≠ (v.1 0 47).toInt from (om_32294a9ce4 c59)), (show (v.1 0 12).toInt ≤ ((u67.1 0 12) + (1 : Int32)).toInt ∧ ((u67.1 0 12) + (1 : Int32)).toInt - 15 * (u67.1 0 47).toInt ≤ (v.1 0 12).toInt - 15 * (v.1 0 47).toInt from (om_7d9f5eca64 z62 pw66 z98)), (show (v.1 0 15).toInt ≤ ((u67.1 0 15) + (1 : Int32)).toInt ∧ ((u67.1 0 15) + (1 : Int32)).toInt - 10 * (u67.1 0 47).toInt ≤ (v.1 0 15).toInt - 10 * (v.1 0 47).toInt from (om_e3c4ffe5ce z62 po66 z107)), (show (v.1 0 43).toInt ≤ (u67.1 0 43).toInt ∧ (u67.1 0 43).toInt - 15 * (u67.1 0 47).toInt ≤ (v.1 0 43).toInt - 15 * (v.1 0 47).toInt from (om_48209a9386 z62 pf66)), (show (v.1 0 39).toInt ≤ (u67.1 0 39).toInt ∧ (u67.1 0 39).toInt - 1 * (u67.1 0 47).toInt ≤ (v.1 0 39).toInt - 1 * (v.1 0 47).toInt from (om_df731194be z62 pk66)), (show (u67.1 0 32).toInt = (v.1 0 32).toInt ∧ ((u67.1 0 48) - (1 : Int32)).toInt = (v.1 0 48).toInt from (om_4a47b03b7f z63 pp66 z69)), (show (v.1 0 33).toInt ≤ (u67.1 0 33).toInt ∧ (u67.1 0 33).toInt ≤ 500 from (om_6bc0cea141 ph66)), (fun (j9 : Nat) hj9 => (Eq.trans (pk_un3 (a := (u67.1 0 12).toInt) rfl (om_1ce1b92b31 zws pw66) (om_e81726c0b3 pw66 hj9)) (kc66 j9 (om_4fe904e9bf hj9)))), (fun (j9 : Nat) hj9 => (Eq.trans (pk_un3 (a := (u67.1 0 15).toInt) rfl (om_4b760a59ba zos po66) (om_24f6a8216f po66 hj9)) (ko66 j9 (om_4fe904e9bf hj9)))), (fun (j9 : Nat) hj9 => (Eq.trans (pk_un3 (a := (u67.1 0 15).toInt) rfl (om_4b760a59ba zos po66) (om_24f6a8216f po66 hj9)) (kg66 j9 (om_4fe904e9bf hj9)))), (AR.o (AR.o (AR.o (AR.o (AR.o (AR.o a3566 (by decide)) (by decide)) (by decide)) (by decide)) (by decide)) (by decide)), (AR.o (AR.o (AR.o (AR.o (AR.o (AR.o a3766 (by decide)) (by decide)) (by decide)) (by decide)) (by decide)) (by decide)), (AR.o (AR.o (AR.o (AR.o (AR.o (AR.o a3866 (by decide)) (by decide)) (by decide)) (by decide)) (by decide)) (by decide)), (AR.o (AR.o (AR.o (AR.o (AR.o (AR.o a4066 (by decide)) (by decide)) (by decide)) (by decide)) (by decide)) (by decide)), (FX.o (FX.o (FX.o (FX.o (FX.o (FX.o fx66 (by decide) (by decide)) (by decide) (by decide)) (by decide) (by decide)) (by decide) (by decide)) (by decide) (by decide)) (by decide) (by decide))⟩, by rw [ht9]; exact hP, hD⟩, hS.F ht9⟩) hS.2.2 dX13_operand_386
            · have z108 : ((v.2 (v.1 0 47).toNatClampNeg).toInt32).toInt = (45 : Int) := eq_z rfl (show (45 : Int32).toInt = (45 : Int) by decide) h99
              exact False.elim (om_ac897fe355 z91 z108)
        · have z109 : ((v.2 (v.1 0 47).toNatClampNeg).toInt32).toInt = (45 : Int) := eq_z rfl (show (45 : Int32).toInt = (45 : Int) by decide) h70
          refine lv_bipush (v := 32) hx hb dX13_operand_162 (by decide) ?_
          refine lv_iconst (v := 0) hx hb dX13_operand_164 (by decide) ?_
          refine lv_bipush (v := 10) hx hb dX13_operand_165 (by decide) ?_
          refine lv_iconst (v := 0) hx hb dX13_operand_167 (by decide) ?_
          refine lv_bipush (v := 10) hx hb dX13_operand_168 (by decide) ?_
          refine cu_s (mW_nd _ _ _ _ _ _) (rn_S (n := 5) (As := [.int 32, .int 0, .int 10, .int 0, .int 10]) (rest := [.ref (ad 0)]) hx hb hml hown ht hKK hFx hP hD hS hA (c_m_byR l dC dI cI cB cZ cJ cR tb H.size (32 : Int32) (0 : Int32) (10 : Int32) (0 : Int32) (10 : Int32) ) tw_67 tw_68 (by decide +kernel) rfl rfl ⟨show 0 + 1 ≤ 40 * n + 9 from om_fd17f2e70e, show 8 + (5 + 11) + 0 ≤ 28 * (40 * n + 9) from om_4dd6cddcce⟩ [] rfl rfl rfl hl.1 rfl (Nat.le_of_ble_eq_true rfl) dX13_operand_170 ⟨Nat.le_of_ble_eq_true rfl, Nat.le_of_ble_eq_true rfl⟩) hP hD hS hA (fun r112 H locs hw110 hP hD hS => ?_)
          refine W.widen (k := 0) (n := 0) (Nat.le_refl _) (Nat.le_refl _) ?_
          refine lv_goto (tgt := 207) hx hb dX13_operand_173 (by decide) ?_
          refine cu_i (rn_V (n := 1) (As := [.int r112]) (rest := []) hx hb hml hown ht hKK hFx hP hD hS hA (c_m_emit l dC dI cI cB cZ cJ cR tb H.size ad N (wA u67 0 48 ((u67.1 0 48) - (1 : Int32))) r112 (show 0 ≤ (u67.1 0 12).toInt ∧ (u67.1 0 12).toInt < 24000 from (om_6ad570a484 zws z62 pt66 pw66))) tw_8 tw_9 (by decide +kernel) rfl rfl ⟨show 0 + 1 ≤ 40 * n + 9 from om_fd17f2e70e, show 8 + (2 + 11) + 0 ≤ 28 * (40 * n + 9) from om_4229287154⟩ (List.range (mW ad N cI cZ cJ (wA u67 0 48 ((u67.1 0 48) - (1 : Int32)))).length) (rg_map _) (mW_nd _ _ _ _ _ _) rfl rfl rfl rfl hl.1 rfl (Nat.le_of_ble_eq_true rfl) dX13_operand_207 ⟨Nat.le_of_ble_eq_true rfl, Nat.le_of_ble_eq_true rfl⟩) hP hD hS hA (fun r115 u114 H locs hw113 hP hD hS => ?_)
          obtain ⟨rfl, rfl⟩ := hw113
          have z116 : ((u67.1 0 12) + (1 : Int32)).toInt = ((u67.1 0 12).toInt) + (1 : Int) := add_z rfl (show (1 : Int32).toInt = (1 : Int) by decide) (om_6ad47c49ef zws pw66) (om_99b5e8925f zws z62 pt66 pw66)
          have hP : va_P (dC, dI) vwCl (mW ad N cI cZ cJ (wA (wA (wA u67 0 48 ((u67.1 0 48) - (1 : Int32))) 11 ((u67.1 0 12).toNatClampNeg) r112) 0 12 ((u67.1 0 12) + (1 : Int32)))) H := hP
          have hD : va_D A (mW ad N cI cZ cJ (wA (wA (wA u67 0 48 ((u67.1 0 48) - (1 : Int32))) 11 ((u67.1 0 12).toNatClampNeg) r112) 0 12 ((u67.1 0 12) + (1 : Int32)))) := hD
          refine tp_i (y := (u67.1 0 12)) (rfl) ?_
          refine W.widen (k := 0) (n := 0) (Nat.le_refl _) (Nat.le_refl _) ?_
          refine lv_pop hx hb dX13_operand_210 rfl ?_
          refine lv_aload_n hx hb dX13_operand_211 rfl (lv_at hl 1 rfl) ?_
          refine lv_iload_n hx hb dX13_operand_212 rfl (lv_at hl 0 rfl) ?_
          refine lv_bipush (v := 45) hx hb dX13_operand_213 (by decide) ?_
          refine lv_icmp_ne (tgt := 223) hx hb dX13_operand_215 (by decide) (fun h117 => ?_) (fun h117 => ?_)
          · have z118 : ((v.2 (v.1 0 47).toNatClampNeg).toInt32).toInt ≠ (45 : Int) := ne_z rfl (show (45 : Int32).toInt = (45 : Int) by decide) h117
            exact False.elim (om_bdc7d89919 z109 z118)
          · have z119 : ((v.2 (v.1 0 47).toNatClampNeg).toInt32).toInt = (45 : Int) := eq_z rfl (show (45 : Int32).toInt = (45 : Int) by decide) h117
            refine lv_bipush (v := 18) hx hb dX13_operand_218 (by decide) ?_
            refine lv_goto (tgt := 236) hx hb dX13_operand_220 (by decide) ?_
            refine lv_iconst (v := 0) hx hb dX13_operand_236 (by decide) ?_
            refine cu_i (rn_V (n := 2) (As := [.int 18, .int 0]) (rest := []) hx hb hml hown ht hKK hFx hP hD hS hA (c_m_say l dC dI cI cB cZ cJ cR tb H.size ad N (wA (wA (wA u67 0 48 ((u67.1 0 48) - (1 : Int32))) 11 ((u67.1 0 12).toNatClampNeg) r112) 0 12 ((u67.1 0 12) + (1 : Int32))) (18 : Int32) (0 : Int32) (show 0 ≤ (u67.1 0 15).toInt ∧ (u67.1 0 15).toInt < 16000 from (om_ab4ad5e078 zos z62 pt66 po66))) tw_59 tw_60 (by decide +kernel) rfl rfl ⟨show 0 + 1 ≤ 40 * n + 9 from om_fd17f2e70e, show 8 + (3 + 11) + 0 ≤ 28 * (40 * n + 9) from om_e79917e237⟩ (List.range (mW ad N cI cZ cJ (wA (wA (wA u67 0 48 ((u67.1 0 48) - (1 : Int32))) 11 ((u67.1 0 12).toNatClampNeg) r112) 0 12 ((u67.1 0 12) + (1 : Int32)))).length) (rg_map _) (mW_nd _ _ _ _ _ _) rfl rfl rfl rfl hl.1 rfl (Nat.le_of_ble_eq_true rfl) dX13_operand_237 ⟨Nat.le_of_ble_eq_true rfl, Nat.le_of_ble_eq_true rfl⟩) hP hD hS hA (fun r122 u121 H locs hw120 hP hD hS => ?_)
            obtain ⟨rfl, rfl⟩ := hw120
            have z123 : ((u67.1 0 15) + (1 : Int32)).toInt = ((u67.1 0 15).toInt) + (1 : Int) := add_z rfl (show (1 : Int32).toInt = (1 : Int) by decide) (om_436cd0d872 zos po66) (om_4b3fea160f zos z62 pt66 po66)
            have hP : va_P (dC, dI) vwCl (mW ad N cI cZ cJ (wA (wA (wA (wA (wA (wA u67 0 48 ((u67.1 0 48) - (1 : Int32))) 11 ((u67.1 0 12).toNatClampNeg) r112) 0 12 ((u67.1 0 12) + (1 : Int32))) 13 ((u67.1 0 15).toNatClampNeg) (18 : Int32)) 14 ((u67.1 0 15).toNatClampNeg) (0 : Int32)) 0 15 ((u67.1 0 15) + (1 : Int32)))) H := hP
            have hD : va_D A (mW ad N cI cZ cJ (wA (wA (wA (wA (wA (wA u67 0 48 ((u67.1 0 48) - (1 : Int32))) 11 ((u67.1 0 12).toNatClampNeg) r112) 0 12 ((u67.1 0 12) + (1 : Int32))) 13 ((u67.1 0 15).toNatClampNeg) (18 : Int32)) 14 ((u67.1 0 15).toNatClampNeg) (0 : Int32)) 0 15 ((u67.1 0 15) + (1 : Int32)))) := hD
            refine tp_i (y := (u67.1 0 15)) (rfl) ?_
            refine W.widen (k := 0) (n := 0) (Nat.le_refl _) (Nat.le_refl _) ?_
            refine lv_pop hx hb dX13_operand_240 rfl ?_
            refine lv_goto (tgt := 386) hx hb dX13_operand_241 (by decide) ?_
            refine vx_ret ?_
            exact W.vret hx hb hr (fun t ht9 hW => ⟨⟨(wA (wA (wA (wA (wA (wA u67 0 48 ((u67.1 0 48) - (1 : Int32))) 11 ((u67.1 0 12).toNatClampNeg) r112) 0 12 ((u67.1 0 12) + (1 : Int32))) 13 ((u67.1 0 15).toNatClampNeg) (18 : Int32)) 14 ((u67.1 0 15).toNatClampNeg) (0 : Int32)) 0 15 ((u67.1 0 15) + (1 : Int32))), rfl, ⟨(FG.f (FG.a (FG.a (FG.f (FG.a (FG.f (FG.tr (FG.f (FG.f (FG.rf _) ((v.1 0 47) + (1 : Int32)) (by decide)) ((v.1 0 48) + (1 : Int32)) (by decide)) (FG.up fr66 (by decide) (by decide))) ((u67.1 0 48) - (1 : Int32)) (by decide)) ((u67.1 0 12).toNatClampNeg) r112 (by decide) (by decide)) ((u67.1 0 12) + (1 : Int32)) (by decide)) ((u67.1 0 15).toNatClampNeg) (18 : Int32) (by decide) (by decide)) ((u67.1 0 15).toNatClampNeg) (0 : Int32) (by decide) (by decide)) ((u67.1 0 15) + (1 : Int32)) (by decide)), (show (v.1 0 47).toInt + 1 ≤ (u67.1 0 47).toInt ∧ (u67.1 0 47).toInt ≤ 1500 from (om_ff8aa832bb z62 pt66)), (show (v.1 0 49).toInt ≠ (v.1 0 47).toInt from (om_32294a9ce4 c59)), (show (v.1 0 12).toInt ≤ ((u67.1 0 12) + (1 : Int32)).toInt ∧ ((u67.1 0 12) + (1 : Int32)).toInt - 15 * (u67.1 0 47).toInt ≤ (v.1 0 12).toInt - 15 * (v.1 0 47).toInt from (om_7d9f5eca64 z62 pw66 z116)), (show (v.1 0 15).toInt ≤ ((u67.1 0 15) + (1 : Int32)).toInt ∧ ((u67.1 0 15) + (1 : Int32)).toInt - 10 * (u67.1 0 47).toInt ≤ (v.1 0 15).toInt - 10 * (v.1 0 47).toInt from (om_e3c4ffe5ce z62 po66 z123)), (show (v.1 0 43).toInt ≤ (u67.1 0 43).toInt ∧ (u67.1 0 43).toInt - 15 * (u67.1 0 47).toInt ≤ (v.1 0 43).toInt - 15 * (v.1 0 47).toInt from (om_48209a9386 z62 pf66)), (show (v.1 0 39).toInt ≤ (u67.1 0 39).toInt ∧ (u67.1 0 39).toInt - 1 * (u67.1 0 47).toInt ≤ (v.1 0 39).toInt - 1 * (v.1 0 47).toInt from (om_df731194be z62 pk66)), (show (u67.1 0 32).toInt = (v.1 0 32).toInt ∧ ((u67.1 0 48) - (1 : Int32)).toInt = (v.1 0 48).toInt from (om_4a47b03b7f z63 pp66 z69)), (show (v.1 0 33).toInt ≤ (u67.1 0 33).toInt ∧ (u67.1 0 33).toInt ≤ 500 from (om_6bc0cea141 ph66)), (fun (j9 : Nat) hj9 => (Eq.trans (pk_un3 (a := (u67.1 0 12).toInt) rfl (om_1ce1b92b31 zws pw66) (om_e81726c0b3 pw66 hj9)) (kc66 j9 (om_4fe904e9bf hj9)))), (fun (j9 : Nat) hj9 => (Eq.trans (pk_un3 (a := (u67.1 0 15).toInt) rfl (om_4b760a59ba zos po66) (om_24f6a8216f po66 hj9)) (ko66 j9 (om_4fe904e9bf hj9)))), (fun (j9 : Nat) hj9 => (Eq.trans (pk_un3 (a := (u67.1 0 15).toInt) rfl (om_4b760a59ba zos po66) (om_24f6a8216f po66 hj9)) (kg66 j9 (om_4fe904e9bf hj9)))), (AR.o (AR.o (AR.o (AR.o (AR.o (AR.o a3566 (by decide)) (by decide)) (by decide)) (by decide)) (by decide)) (by decide)), (AR.o (AR.o (AR.o (AR.o (AR.o (AR.o a3766 (by decide)) (by decide)) (by decide)) (by decide)) (by decide)) (by decide)), (AR.o (AR.o (AR.o (AR.o (AR.o (AR.o a3866 (by decide)) (by decide)) (by decide)) (by decide)) (by decide)) (by decide)), (AR.o (AR.o (AR.o (AR.o (AR.o (AR.o a4066 (by decide)) (by decide)) (by decide)) (by decide)) (by decide)) (by decide)), (FX.o (FX.o (FX.o (FX.o (FX.o (FX.o fx66 (by decide) (by decide)) (by decide) (by decide)) (by decide) (by decide)) (by decide) (by decide)) (by decide) (by decide)) (by decide) (by decide))⟩, by rw [ht9]; exact hP, hD⟩, hS.F ht9⟩) hS.2.2 dX13_operand_386
      · have z124 : r56.toInt = (0 : Int) := eq_z rfl (show (0 : Int32).toInt = (0 : Int) by decide) h57
        refine lv_aload_n hx hb dX13_operand_108 rfl (lv_at hl 0 rfl) ?_
        refine lv_bipush (v := 33) hx hb dX13_operand_109 (by decide) ?_
        refine cu_i (rn_V (n := 1) (As := [.int 33]) (rest := []) hx hb hml hown ht hKK hFx hP hD hS hA (c_m_is l dC dI cI cB cZ cJ cR tb H.size ad N v (33 : Int32) (show 0 ≤ (v.1 0 47).toInt ∧ (v.1 0 47).toInt ≤ 1500 from (om_2fb699b811 zt zfs))) tw_34 tw_35 (by decide +kernel) rfl rfl ⟨show 1 + 1 ≤ 40 * n + 9 from om_dc0ef911ca, show 8 + (2 + 11) + 22 ≤ 28 * (40 * n + 9) from om_8685d0996a⟩ (List.range (mW ad N cI cZ cJ v).length) (rg_map _) (mW_nd _ _ _ _ _ _) rfl rfl rfl rfl hl.1 rfl (Nat.le_of_ble_eq_true rfl) dX13_operand_111 ⟨Nat.le_of_ble_eq_true rfl, Nat.le_of_ble_eq_true rfl⟩) hP hD hS hA (fun r127 u126 H locs hw125 hP hD hS => ?_)
        obtain ⟨rfl, b125, e125⟩ := hw125
        refine W.widen (k := 0) (n := 0) (Nat.le_refl _) (Nat.le_refl _) ?_
        refine lv_if_ne (tgt := 126) hx hb dX13_operand_114 (by decide) (fun h128 => ?_) (fun h128 => ?_)
        · have z129 : r127.toInt ≠ (0 : Int) := ne_z rfl (show (0 : Int32).toInt = (0 : Int) by decide) h128
          refine lv_aload_n hx hb dX13_operand_126 rfl (lv_at hl 0 rfl) ?_
          refine va_get (D := (dC, dI)) (ci := 16) (fs := mF ad v) (v := .ref (ad 9)) (C := RX13) (T := TX13) (N := 124) hx hb ht itX13 hown hK hP 0 rfl rfl 9 (by decide) (ht _ tw_27) (fun _ h9 => h9) rfl dX13_operand_127 ?_
          refine lv_aload_n hx hb dX13_operand_130 rfl (lv_at hl 0 rfl) ?_
          refine va_get (D := (dC, dI)) (ci := 16) (fs := mF ad v) (v := .int (v.1 0 47)) (C := RX13) (T := TX13) (N := 124) hx hb ht itX13 hown hK hP 0 rfl rfl 47 (by decide) (ht _ tw_24) (fun _ h9 => h9) rfl dX13_operand_131 ?_
          refine va_lald (D := (dC, dI)) (f := v.2) hx hb hK hP 6 3 rfl rfl (in_y (a := (v.1 0 47).toInt) (b := 4002) rfl (om_e33521859d zfs) (om_449eb7e9bb zt) rfl) dX13_operand_134 ?_
          refine lv_l2i hx hb dX13_operand_135 rfl ?_
          refine lv_istore_n (lv' := [(1, .int ((v.2 (v.1 0 47).toNatClampNeg).toInt32)), (0, .ref (ad 0))]) hx hb dX13_operand_136 rfl hl (by decide) rfl (fun ls hl => ?_)
          refine lv_aload_n hx hb dX13_operand_137 rfl (lv_at hl 1 rfl) ?_
          refine cux_v (rx_V (n := 0) (As := []) (rest := []) hx hb hml hown ht hKK hFx hP hD hS hA (c_m_opens l dC dI cI cB cZ cJ cR tb H.size ad N v  (show 0 ≤ (v.1 0 47).toInt ∧ (v.1 0 47).toInt ≤ 1500 from (om_2fb699b811 zt zfs)) (show 0 ≤ (v.1 0 48).toInt ∧ (v.1 0 48).toInt ≤ 40 from (om_7eaf33e007 zop))) tw_38 tw_39 (by decide +kernel) rfl rfl ⟨show 2 + 1 ≤ 40 * n + 9 from om_86eef57ede, show 8 + (1 + 11) + 42 ≤ 28 * (40 * n + 9) from om_750cfefb29⟩ (List.range (mW ad N cI cZ cJ v).length) (rg_map _) (mW_nd _ _ _ _ _ _) rfl rfl rfl rfl hl.1 rfl (Nat.le_of_ble_eq_true rfl) dX13_operand_138 ⟨Nat.le_of_ble_eq_true rfl, Nat.le_of_ble_eq_true rfl⟩) hP hD hS hA (fun u9 ce9 q9 H locs hx9 hP hD hS hc9 hv9 hf9 => ?_) (fun u131 H locs hw130 hP hD hS => ?_)
          · exact vx_out (fun x h9 => (hnt x h9).elim) hlocks hc9 hv9 hf9 (fun t9 ht9 hv8 => ⟨u9, (FG.tr (FG.rf _) hx9), ⟨rfl, by rw [ht9]; exact hP, hD⟩, hS.F ht9⟩) hS.2.2 (Nat.le_refl _) (Nat.le_refl _)
          obtain ⟨rfl, a130, b130, c130⟩ := hw130
          have z133 : ((v.1 0 47) + (1 : Int32)).toInt = ((v.1 0 47).toInt) + (1 : Int) := add_z rfl (show (1 : Int32).toInt = (1 : Int) by decide) (om_3eca9b17a5 zws) (om_27eb55d06c zt)
          have z134 : ((v.1 0 48) + (1 : Int32)).toInt = ((v.1 0 48).toInt) + (1 : Int) := add_z rfl (show (1 : Int32).toInt = (1 : Int) by decide) (om_c2418a9965 zop) (om_defb2a7457 zop)
          have hP : va_P (dC, dI) vwCl (mW ad N cI cZ cJ (wA (wA v 0 47 ((v.1 0 47) + (1 : Int32))) 0 48 ((v.1 0 48) + (1 : Int32)))) H := hP
          have hD : va_D A (mW ad N cI cZ cJ (wA (wA v 0 47 ((v.1 0 47) + (1 : Int32))) 0 48 ((v.1 0 48) + (1 : Int32)))) := hD
          refine W.widen (k := 0) (n := 0) (Nat.le_refl _) (Nat.le_refl _) ?_
          refine lv_aload_n hx hb dX13_operand_141 rfl (lv_at hl 1 rfl) ?_
          obtain ⟨n135, hn136⟩ : ∃ m, n = m + 1 := ex_z (om_78b28660f8 zn b130)
          refine cux_v (rx_V (n := 0) (As := []) (rest := []) hx hb hml hown ht hKK hFx hP hD hS hA (ihO n135 hn136 dC dI cI cB cZ cJ cR tb H.size ad N (wA (wA v 0 47 ((v.1 0 47) + (1 : Int32))) 0 48 ((v.1 0 48) + (1 : Int32)))  (show 40 ≤ ((v.1 0 48) + (1 : Int32)).toInt + (n135 : Int) from (om_43cb5bce6b zn z134 hn136)) (show 0 ≤ ((v.1 0 47) + (1 : Int32)).toInt ∧ ((v.1 0 47) + (1 : Int32)).toInt ≤ 1500 from (om_cae3a623a5 zfs z133 a130)) (show 0 ≤ ((v.1 0 48) + (1 : Int32)).toInt ∧ ((v.1 0 48) + (1 : Int32)).toInt ≤ 40 from (om_4c33377394 zop z134 b130)) (show 0 ≤ (v.1 0 30).toInt ∧ (v.1 0 30).toInt ≤ 500 from (om_9861e69da5 zkn)) (show 0 ≤ (v.1 0 33).toInt ∧ (v.1 0 33).toInt ≤ 500 from (om_9861e69da5 zhi)) (show 0 ≤ (v.1 0 32).toInt ∧ (v.1 0 30).toInt + (v.1 0 32).toInt ≤ (v.1 0 33).toInt from (om_f541e4003c zs)) (show 0 ≤ (v.1 0 12).toInt ∧ (v.1 0 12).toInt ≤ 15 * ((v.1 0 47) + (1 : Int32)).toInt + 2 from (om_3894ab1223 zws z133)) (show 0 ≤ (v.1 0 15).toInt ∧ (v.1 0 15).toInt ≤ 10 * ((v.1 0 47) + (1 : Int32)).toInt + 0 from (om_9a74738aa2 zos z133)) (show 0 ≤ (v.1 0 43).toInt ∧ (v.1 0 43).toInt ≤ 15 * ((v.1 0 47) + (1 : Int32)).toInt + 0 from (om_434df26a0f zfs z133)) (show 0 ≤ (v.1 0 39).toInt ∧ (v.1 0 39).toInt ≤ 1 * ((v.1 0 47) + (1 : Int32)).toInt + 0 from (om_3840c96ead zcs z133)) (show 0 ≤ (v.1 0 27).toInt ∧ (v.1 0 27).toInt ≤ 60 from (om_1d2c7ad648 zgl)) (show TI (wA (wA v 0 47 ((v.1 0 47) + (1 : Int32))) 0 48 ((v.1 0 48) + (1 : Int32))) from FG.ti (fl := pfl) (al := pal) (FG.f (FG.f (FG.rf _) ((v.1 0 47) + (1 : Int32)) (by decide)) ((v.1 0 48) + (1 : Int32)) (by decide)) (by decide) (by decide) hT) (show AR 29 0 1500 (wA (wA v 0 47 ((v.1 0 47) + (1 : Int32))) 0 48 ((v.1 0 48) + (1 : Int32))) from (AR.o (AR.o a29 (by decide)) (by decide))) (show AR 23 0 1500 (wA (wA v 0 47 ((v.1 0 47) + (1 : Int32))) 0 48 ((v.1 0 48) + (1 : Int32))) from (AR.o (AR.o a23 (by decide)) (by decide))) (show AR 35 0 1500 (wA (wA v 0 47 ((v.1 0 47) + (1 : Int32))) 0 48 ((v.1 0 48) + (1 : Int32))) from (AR.o (AR.o a35 (by decide)) (by decide))) (show AR 37 0 23999 (wA (wA v 0 47 ((v.1 0 47) + (1 : Int32))) 0 48 ((v.1 0 48) + (1 : Int32))) from (AR.o (AR.o a37 (by decide)) (by decide))) (show AR 38 0 15999 (wA (wA v 0 47 ((v.1 0 47) + (1 : Int32))) 0 48 ((v.1 0 48) + (1 : Int32))) from (AR.o (AR.o a38 (by decide)) (by decide))) (show AR 40 0 23999 (wA (wA v 0 47 ((v.1 0 47) + (1 : Int32))) 0 48 ((v.1 0 48) + (1 : Int32))) from (AR.o (AR.o a40 (by decide)) (by decide))) (show FX (wA (wA v 0 47 ((v.1 0 47) + (1 : Int32))) 0 48 ((v.1 0 48) + (1 : Int32))) from (FX.o (FX.o fx (by decide) (by decide)) (by decide) (by decide)))) tw_114 tw_115 (by decide +kernel) rfl rfl ⟨show (40 * n135 + 9) + 1 ≤ 40 * n + 9 from (om_d13994734d hn136), show 8 + (2 + 11) + 28 * (40 * n135 + 9) ≤ 28 * (40 * n + 9) from (om_7349e8fe6d hn136)⟩ (List.range (mW ad N cI cZ cJ (wA (wA v 0 47 ((v.1 0 47) + (1 : Int32))) 0 48 ((v.1 0 48) + (1 : Int32)))).length) (rg_map _) (mW_nd _ _ _ _ _ _) rfl rfl rfl rfl hl.1 rfl (Nat.le_of_ble_eq_true rfl) dX13_operand_142 ⟨Nat.le_of_ble_eq_true rfl, Nat.le_of_ble_eq_true rfl⟩) hP hD hS hA (fun u9 ce9 q9 H locs hx9 hP hD hS hc9 hv9 hf9 => ?_) (fun u138 H locs hw137 hP hD hS => ?_)
          · exact vx_out (fun x h9 => (hnt x h9).elim) hlocks hc9 hv9 hf9 (fun t9 ht9 hv8 => ⟨u9, (FG.tr (FG.f (FG.f (FG.rf _) ((v.1 0 47) + (1 : Int32)) (by decide)) ((v.1 0 48) + (1 : Int32)) (by decide)) hx9), ⟨rfl, by rw [ht9]; exact hP, hD⟩, hS.F ht9⟩) hS.2.2 (Nat.le_refl _) (Nat.le_refl _)
          obtain ⟨fr137, pt137, pb137, pw137, po137, pf137, pk137, pp137, ph137, kc137, ko137, kg137, a35137, a37137, a38137, a40137, fx137⟩ := hw137
          have pt137 : ((v.1 0 47) + (1 : Int32)).toInt + 1 ≤ (u138.1 0 47).toInt ∧ (u138.1 0 47).toInt ≤ 1500 := pt137
          have pb137 : (v.1 0 49).toInt ≠ ((v.1 0 47) + (1 : Int32)).toInt := pb137
          have pw137 : (v.1 0 12).toInt ≤ (u138.1 0 12).toInt ∧ (u138.1 0 12).toInt - 15 * (u138.1 0 47).toInt ≤ (v.1 0 12).toInt - 15 * ((v.1 0 47) + (1 : Int32)).toInt := pw137
          have po137 : (v.1 0 15).toInt ≤ (u138.1 0 15).toInt ∧ (u138.1 0 15).toInt - 10 * (u138.1 0 47).toInt ≤ (v.1 0 15).toInt - 10 * ((v.1 0 47) + (1 : Int32)).toInt := po137
          have pf137 : (v.1 0 43).toInt ≤ (u138.1 0 43).toInt ∧ (u138.1 0 43).toInt - 15 * (u138.1 0 47).toInt ≤ (v.1 0 43).toInt - 15 * ((v.1 0 47) + (1 : Int32)).toInt := pf137
          have pk137 : (v.1 0 39).toInt ≤ (u138.1 0 39).toInt ∧ (u138.1 0 39).toInt - 1 * (u138.1 0 47).toInt ≤ (v.1 0 39).toInt - 1 * ((v.1 0 47) + (1 : Int32)).toInt := pk137
          have pp137 : (u138.1 0 32).toInt = (v.1 0 32).toInt ∧ (u138.1 0 48).toInt = ((v.1 0 48) + (1 : Int32)).toInt := pp137
          have ph137 : (v.1 0 33).toInt ≤ (u138.1 0 33).toInt ∧ (u138.1 0 33).toInt ≤ 500 := ph137
          have kc137 : ∀ j : Nat, (j : Int) < (v.1 0 12).toInt → (u138.1 11) j = (v.1 11) j := kc137
          have ko137 : ∀ j : Nat, (j : Int) < (v.1 0 15).toInt → (u138.1 13) j = (v.1 13) j := ko137
          have kg137 : ∀ j : Nat, (j : Int) < (v.1 0 15).toInt → (u138.1 14) j = (v.1 14) j := kg137
          have a35137 : AR 35 0 1500 u138 := a35137
          have a37137 : AR 37 0 23999 u138 := a37137
          have a38137 : AR 38 0 15999 u138 := a38137
          have a40137 : AR 40 0 23999 u138 := a40137
          have fx137 : FX u138 := fx137
          refine W.widen (k := 0) (n := 0) (Nat.le_refl _) (Nat.le_refl _) ?_
          refine lv_aload_n hx hb dX13_operand_145 rfl (lv_at hl 1 rfl) ?_
          refine lv_dup hx hb dX13_operand_146 rfl ?_
          refine va_get (D := (dC, dI)) (ci := 16) (fs := mF ad u138) (v := .int (u138.1 0 48)) (C := RX13) (T := TX13) (N := 124) hx hb ht itX13 hown hK hP 0 rfl rfl 48 (by decide) (ht _ tw_31) (fun _ h9 => h9) rfl dX13_operand_147 ?_
          refine lv_iconst (v := 1) hx hb dX13_operand_150 (by decide) ?_
          refine lv_isub hx hb dX13_operand_151 ?_
          have z140 : ((u138.1 0 48) - (1 : Int32)).toInt = ((u138.1 0 48).toInt) - (1 : Int) := sub_z rfl (show (1 : Int32).toInt = (1 : Int) by decide) (om_32962d0667 zop z134 pp137) (om_d0370bb848 z134 b130 pp137)
          refine va_put (D := (dC, dI)) (ci := 16) (fs := mF ad u138) (v := .int ((u138.1 0 48) - (1 : Int32))) (ty := .int) (C := RX13) (T := TX13) (N := 124) hx hb ht itX13 tyX13 tyX13_ok nmX13 hown hK hP hD hS 0 rfl rfl 48 (by decide) (ht _ tw_31) (fun _ h9 => h9) rfl (by decide +kernel) rfl rfl (Nat.le_of_ble_eq_true rfl) dX13_operand_152 (fun H locs hP hD hS => ?_)
          have hP := cP_ (mw_48 ad N cI cZ cJ u138 ((u138.1 0 48) - (1 : Int32))) hP
          have hD := cD_ (mw_48 ad N cI cZ cJ u138 ((u138.1 0 48) - (1 : Int32))) hD
          refine lv_aload_n hx hb dX13_operand_155 rfl (lv_at hl 1 rfl) ?_
          refine lv_iload_n hx hb dX13_operand_156 rfl (lv_at hl 0 rfl) ?_
          refine lv_bipush (v := 45) hx hb dX13_operand_157 (by decide) ?_
          refine lv_icmp_ne (tgt := 176) hx hb dX13_operand_159 (by decide) (fun h141 => ?_) (fun h141 => ?_)
          · have z142 : ((v.2 (v.1 0 47).toNatClampNeg).toInt32).toInt ≠ (45 : Int) := ne_z rfl (show (45 : Int32).toInt = (45 : Int) by decide) h141
            refine lv_iload_n hx hb dX13_operand_176 rfl (lv_at hl 0 rfl) ?_
            refine lv_bipush (v := 33) hx hb dX13_operand_177 (by decide) ?_
            refine lv_icmp_ne (tgt := 196) hx hb dX13_operand_179 (by decide) (fun h143 => ?_) (fun h143 => ?_)
            · have z144 : ((v.2 (v.1 0 47).toNatClampNeg).toInt32).toInt ≠ (33 : Int) := ne_z rfl (show (33 : Int32).toInt = (33 : Int) by decide) h143
              refine lv_bipush (v := 19) hx hb dX13_operand_196 (by decide) ?_
              refine lv_iconst (v := 4) hx hb dX13_operand_198 (by decide) ?_
              refine lv_bipush (v := 10) hx hb dX13_operand_199 (by decide) ?_
              refine lv_bipush (v := 10) hx hb dX13_operand_201 (by decide) ?_
              refine lv_iconst (v := -1) hx hb dX13_operand_203 (by decide) ?_
              refine cu_s (mW_nd _ _ _ _ _ _) (rn_S (n := 5) (As := [.int 19, .int 4, .int 10, .int 10, .int (-1)]) (rest := [.ref (ad 0)]) hx hb hml hown ht hKK hFx hP hD hS hA (c_m_byI l dC dI cI cB cZ cJ cR tb H.size (19 : Int32) (4 : Int32) (10 : Int32) (10 : Int32) (-1 : Int32) ) tw_2 tw_3 (by decide +kernel) rfl rfl ⟨show 0 + 1 ≤ 40 * n + 9 from om_fd17f2e70e, show 8 + (5 + 11) + 0 ≤ 28 * (40 * n + 9) from om_4dd6cddcce⟩ [] rfl rfl rfl hl.1 rfl (Nat.le_of_ble_eq_true rfl) dX13_operand_204 ⟨Nat.le_of_ble_eq_true rfl, Nat.le_of_ble_eq_true rfl⟩) hP hD hS hA (fun r147 H locs hw145 hP hD hS => ?_)
              refine W.widen (k := 0) (n := 0) (Nat.le_refl _) (Nat.le_refl _) ?_
              refine cu_i (rn_V (n := 1) (As := [.int r147]) (rest := []) hx hb hml hown ht hKK hFx hP hD hS hA (c_m_emit l dC dI cI cB cZ cJ cR tb H.size ad N (wA u138 0 48 ((u138.1 0 48) - (1 : Int32))) r147 (show 0 ≤ (u138.1 0 12).toInt ∧ (u138.1 0 12).toInt < 24000 from (om_6ad570a484 zws z133 pt137 pw137))) tw_8 tw_9 (by decide +kernel) rfl rfl ⟨show 0 + 1 ≤ 40 * n + 9 from om_fd17f2e70e, show 8 + (2 + 11) + 0 ≤ 28 * (40 * n + 9) from om_4229287154⟩ (List.range (mW ad N cI cZ cJ (wA u138 0 48 ((u138.1 0 48) - (1 : Int32)))).length) (rg_map _) (mW_nd _ _ _ _ _ _) rfl rfl rfl rfl hl.1 rfl (Nat.le_of_ble_eq_true rfl) dX13_operand_207 ⟨Nat.le_of_ble_eq_true rfl, Nat.le_of_ble_eq_true rfl⟩) hP hD hS hA (fun r150 u149 H locs hw148 hP hD hS => ?_)
              obtain ⟨rfl, rfl⟩ := hw148
              have z151 : ((u138.1 0 12) + (1 : Int32)).toInt = ((u138.1 0 12).toInt) + (1 : Int) := add_z rfl (show (1 : Int32).toInt = (1 : Int) by decide) (om_6ad47c49ef zws pw137) (om_99b5e8925f zws z133 pt137 pw137)
              have hP : va_P (dC, dI) vwCl (mW ad N cI cZ cJ (wA (wA (wA u138 0 48 ((u138.1 0 48) - (1 : Int32))) 11 ((u138.1 0 12).toNatClampNeg) r147) 0 12 ((u138.1 0 12) + (1 : Int32)))) H := hP
              have hD : va_D A (mW ad N cI cZ cJ (wA (wA (wA u138 0 48 ((u138.1 0 48) - (1 : Int32))) 11 ((u138.1 0 12).toNatClampNeg) r147) 0 12 ((u138.1 0 12) + (1 : Int32)))) := hD
              refine tp_i (y := (u138.1 0 12)) (rfl) ?_
              refine W.widen (k := 0) (n := 0) (Nat.le_refl _) (Nat.le_refl _) ?_
              refine lv_pop hx hb dX13_operand_210 rfl ?_
              refine lv_aload_n hx hb dX13_operand_211 rfl (lv_at hl 1 rfl) ?_
              refine lv_iload_n hx hb dX13_operand_212 rfl (lv_at hl 0 rfl) ?_
              refine lv_bipush (v := 45) hx hb dX13_operand_213 (by decide) ?_
              refine lv_icmp_ne (tgt := 223) hx hb dX13_operand_215 (by decide) (fun h152 => ?_) (fun h152 => ?_)
              · have z153 : ((v.2 (v.1 0 47).toNatClampNeg).toInt32).toInt ≠ (45 : Int) := ne_z rfl (show (45 : Int32).toInt = (45 : Int) by decide) h152
                refine lv_iload_n hx hb dX13_operand_223 rfl (lv_at hl 0 rfl) ?_
                refine lv_bipush (v := 33) hx hb dX13_operand_224 (by decide) ?_
                refine lv_icmp_ne (tgt := 234) hx hb dX13_operand_226 (by decide) (fun h154 => ?_) (fun h154 => ?_)
                · have z155 : ((v.2 (v.1 0 47).toNatClampNeg).toInt32).toInt ≠ (33 : Int) := ne_z rfl (show (33 : Int32).toInt = (33 : Int) by decide) h154
                  refine lv_bipush (v := 20) hx hb dX13_operand_234 (by decide) ?_
                  refine lv_iconst (v := 0) hx hb dX13_operand_236 (by decide) ?_
                  refine cu_i (rn_V (n := 2) (As := [.int 20, .int 0]) (rest := []) hx hb hml hown ht hKK hFx hP hD hS hA (c_m_say l dC dI cI cB cZ cJ cR tb H.size ad N (wA (wA (wA u138 0 48 ((u138.1 0 48) - (1 : Int32))) 11 ((u138.1 0 12).toNatClampNeg) r147) 0 12 ((u138.1 0 12) + (1 : Int32))) (20 : Int32) (0 : Int32) (show 0 ≤ (u138.1 0 15).toInt ∧ (u138.1 0 15).toInt < 16000 from (om_ab4ad5e078 zos z133 pt137 po137))) tw_59 tw_60 (by decide +kernel) rfl rfl ⟨show 0 + 1 ≤ 40 * n + 9 from om_fd17f2e70e, show 8 + (3 + 11) + 0 ≤ 28 * (40 * n + 9) from om_e79917e237⟩ (List.range (mW ad N cI cZ cJ (wA (wA (wA u138 0 48 ((u138.1 0 48) - (1 : Int32))) 11 ((u138.1 0 12).toNatClampNeg) r147) 0 12 ((u138.1 0 12) + (1 : Int32)))).length) (rg_map _) (mW_nd _ _ _ _ _ _) rfl rfl rfl rfl hl.1 rfl (Nat.le_of_ble_eq_true rfl) dX13_operand_237 ⟨Nat.le_of_ble_eq_true rfl, Nat.le_of_ble_eq_true rfl⟩) hP hD hS hA (fun r158 u157 H locs hw156 hP hD hS => ?_)
                  obtain ⟨rfl, rfl⟩ := hw156
                  have z159 : ((u138.1 0 15) + (1 : Int32)).toInt = ((u138.1 0 15).toInt) + (1 : Int) := add_z rfl (show (1 : Int32).toInt = (1 : Int) by decide) (om_436cd0d872 zos po137) (om_4b3fea160f zos z133 pt137 po137)
                  have hP : va_P (dC, dI) vwCl (mW ad N cI cZ cJ (wA (wA (wA (wA (wA (wA u138 0 48 ((u138.1 0 48) - (1 : Int32))) 11 ((u138.1 0 12).toNatClampNeg) r147) 0 12 ((u138.1 0 12) + (1 : Int32))) 13 ((u138.1 0 15).toNatClampNeg) (20 : Int32)) 14 ((u138.1 0 15).toNatClampNeg) (0 : Int32)) 0 15 ((u138.1 0 15) + (1 : Int32)))) H := hP
                  have hD : va_D A (mW ad N cI cZ cJ (wA (wA (wA (wA (wA (wA u138 0 48 ((u138.1 0 48) - (1 : Int32))) 11 ((u138.1 0 12).toNatClampNeg) r147) 0 12 ((u138.1 0 12) + (1 : Int32))) 13 ((u138.1 0 15).toNatClampNeg) (20 : Int32)) 14 ((u138.1 0 15).toNatClampNeg) (0 : Int32)) 0 15 ((u138.1 0 15) + (1 : Int32)))) := hD
                  refine tp_i (y := (u138.1 0 15)) (rfl) ?_
                  refine W.widen (k := 0) (n := 0) (Nat.le_refl _) (Nat.le_refl _) ?_
                  refine lv_pop hx hb dX13_operand_240 rfl ?_
                  refine lv_goto (tgt := 386) hx hb dX13_operand_241 (by decide) ?_
                  refine vx_ret ?_
                  exact W.vret hx hb hr (fun t ht9 hW => ⟨⟨(wA (wA (wA (wA (wA (wA u138 0 48 ((u138.1 0 48) - (1 : Int32))) 11 ((u138.1 0 12).toNatClampNeg) r147) 0 12 ((u138.1 0 12) + (1 : Int32))) 13 ((u138.1 0 15).toNatClampNeg) (20 : Int32)) 14 ((u138.1 0 15).toNatClampNeg) (0 : Int32)) 0 15 ((u138.1 0 15) + (1 : Int32))), rfl, ⟨(FG.f (FG.a (FG.a (FG.f (FG.a (FG.f (FG.tr (FG.f (FG.f (FG.rf _) ((v.1 0 47) + (1 : Int32)) (by decide)) ((v.1 0 48) + (1 : Int32)) (by decide)) (FG.up fr137 (by decide) (by decide))) ((u138.1 0 48) - (1 : Int32)) (by decide)) ((u138.1 0 12).toNatClampNeg) r147 (by decide) (by decide)) ((u138.1 0 12) + (1 : Int32)) (by decide)) ((u138.1 0 15).toNatClampNeg) (20 : Int32) (by decide) (by decide)) ((u138.1 0 15).toNatClampNeg) (0 : Int32) (by decide) (by decide)) ((u138.1 0 15) + (1 : Int32)) (by decide)), (show (v.1 0 47).toInt + 1 ≤ (u138.1 0 47).toInt ∧ (u138.1 0 47).toInt ≤ 1500 from (om_ff8aa832bb z133 pt137)), (show (v.1 0 49).toInt ≠ (v.1 0 47).toInt from (om_32294a9ce4 c130)), (show (v.1 0 12).toInt ≤ ((u138.1 0 12) + (1 : Int32)).toInt ∧ ((u138.1 0 12) + (1 : Int32)).toInt - 15 * (u138.1 0 47).toInt ≤ (v.1 0 12).toInt - 15 * (v.1 0 47).toInt from (om_7d9f5eca64 z133 pw137 z151)), (show (v.1 0 15).toInt ≤ ((u138.1 0 15) + (1 : Int32)).toInt ∧ ((u138.1 0 15) + (1 : Int32)).toInt - 10 * (u138.1 0 47).toInt ≤ (v.1 0 15).toInt - 10 * (v.1 0 47).toInt from (om_e3c4ffe5ce z133 po137 z159)), (show (v.1 0 43).toInt ≤ (u138.1 0 43).toInt ∧ (u138.1 0 43).toInt - 15 * (u138.1 0 47).toInt ≤ (v.1 0 43).toInt - 15 * (v.1 0 47).toInt from (om_48209a9386 z133 pf137)), (show (v.1 0 39).toInt ≤ (u138.1 0 39).toInt ∧ (u138.1 0 39).toInt - 1 * (u138.1 0 47).toInt ≤ (v.1 0 39).toInt - 1 * (v.1 0 47).toInt from (om_df731194be z133 pk137)), (show (u138.1 0 32).toInt = (v.1 0 32).toInt ∧ ((u138.1 0 48) - (1 : Int32)).toInt = (v.1 0 48).toInt from (om_4a47b03b7f z134 pp137 z140)), (show (v.1 0 33).toInt ≤ (u138.1 0 33).toInt ∧ (u138.1 0 33).toInt ≤ 500 from (om_6bc0cea141 ph137)), (fun (j9 : Nat) hj9 => (Eq.trans (pk_un3 (a := (u138.1 0 12).toInt) rfl (om_1ce1b92b31 zws pw137) (om_e81726c0b3 pw137 hj9)) (kc137 j9 (om_4fe904e9bf hj9)))), (fun (j9 : Nat) hj9 => (Eq.trans (pk_un3 (a := (u138.1 0 15).toInt) rfl (om_4b760a59ba zos po137) (om_24f6a8216f po137 hj9)) (ko137 j9 (om_4fe904e9bf hj9)))), (fun (j9 : Nat) hj9 => (Eq.trans (pk_un3 (a := (u138.1 0 15).toInt) rfl (om_4b760a59ba zos po137) (om_24f6a8216f po137 hj9)) (kg137 j9 (om_4fe904e9bf hj9)))), (AR.o (AR.o (AR.o (AR.o (AR.o (AR.o a35137 (by decide)) (by decide)) (by decide)) (by decide)) (by decide)) (by decide)), (AR.o (AR.o (AR.o (AR.o (AR.o (AR.o a37137 (by decide)) (by decide)) (by decide)) (by decide)) (by decide)) (by decide)), (AR.o (AR.o (AR.o (AR.o (AR.o (AR.o a38137 (by decide)) (by decide)) (by decide)) (by decide)) (by decide)) (by decide)), (AR.o (AR.o (AR.o (AR.o (AR.o (AR.o a40137 (by decide)) (by decide)) (by decide)) (by decide)) (by decide)) (by decide)), (FX.o (FX.o (FX.o (FX.o (FX.o (FX.o fx137 (by decide) (by decide)) (by decide) (by decide)) (by decide) (by decide)) (by decide) (by decide)) (by decide) (by decide)) (by decide) (by decide))⟩, by rw [ht9]; exact hP, hD⟩, hS.F ht9⟩) hS.2.2 dX13_operand_386
                · have z160 : ((v.2 (v.1 0 47).toNatClampNeg).toInt32).toInt = (33 : Int) := eq_z rfl (show (33 : Int32).toInt = (33 : Int) by decide) h154
                  exact False.elim (om_9d9908e07d z144 z160)
              · have z161 : ((v.2 (v.1 0 47).toNatClampNeg).toInt32).toInt = (45 : Int) := eq_z rfl (show (45 : Int32).toInt = (45 : Int) by decide) h152
                exact False.elim (om_aab5508d07 z142 z161)
            · have z162 : ((v.2 (v.1 0 47).toNatClampNeg).toInt32).toInt = (33 : Int) := eq_z rfl (show (33 : Int32).toInt = (33 : Int) by decide) h143
              refine lv_bipush (v := 19) hx hb dX13_operand_182 (by decide) ?_
              refine lv_iconst (v := 3) hx hb dX13_operand_184 (by decide) ?_
              refine lv_bipush (v := 10) hx hb dX13_operand_185 (by decide) ?_
              refine lv_bipush (v := 10) hx hb dX13_operand_187 (by decide) ?_
              refine lv_iconst (v := 1) hx hb dX13_operand_189 (by decide) ?_
              refine cu_s (mW_nd _ _ _ _ _ _) (rn_S (n := 5) (As := [.int 19, .int 3, .int 10, .int 10, .int 1]) (rest := [.ref (ad 0)]) hx hb hml hown ht hKK hFx hP hD hS hA (c_m_byI l dC dI cI cB cZ cJ cR tb H.size (19 : Int32) (3 : Int32) (10 : Int32) (10 : Int32) (1 : Int32) ) tw_2 tw_3 (by decide +kernel) rfl rfl ⟨show 0 + 1 ≤ 40 * n + 9 from om_fd17f2e70e, show 8 + (5 + 11) + 0 ≤ 28 * (40 * n + 9) from om_4dd6cddcce⟩ [] rfl rfl rfl hl.1 rfl (Nat.le_of_ble_eq_true rfl) dX13_operand_190 ⟨Nat.le_of_ble_eq_true rfl, Nat.le_of_ble_eq_true rfl⟩) hP hD hS hA (fun r165 H locs hw163 hP hD hS => ?_)
              refine W.widen (k := 0) (n := 0) (Nat.le_refl _) (Nat.le_refl _) ?_
              refine lv_goto (tgt := 207) hx hb dX13_operand_193 (by decide) ?_
              refine cu_i (rn_V (n := 1) (As := [.int r165]) (rest := []) hx hb hml hown ht hKK hFx hP hD hS hA (c_m_emit l dC dI cI cB cZ cJ cR tb H.size ad N (wA u138 0 48 ((u138.1 0 48) - (1 : Int32))) r165 (show 0 ≤ (u138.1 0 12).toInt ∧ (u138.1 0 12).toInt < 24000 from (om_6ad570a484 zws z133 pt137 pw137))) tw_8 tw_9 (by decide +kernel) rfl rfl ⟨show 0 + 1 ≤ 40 * n + 9 from om_fd17f2e70e, show 8 + (2 + 11) + 0 ≤ 28 * (40 * n + 9) from om_4229287154⟩ (List.range (mW ad N cI cZ cJ (wA u138 0 48 ((u138.1 0 48) - (1 : Int32)))).length) (rg_map _) (mW_nd _ _ _ _ _ _) rfl rfl rfl rfl hl.1 rfl (Nat.le_of_ble_eq_true rfl) dX13_operand_207 ⟨Nat.le_of_ble_eq_true rfl, Nat.le_of_ble_eq_true rfl⟩) hP hD hS hA (fun r168 u167 H locs hw166 hP hD hS => ?_)
              obtain ⟨rfl, rfl⟩ := hw166
              have z169 : ((u138.1 0 12) + (1 : Int32)).toInt = ((u138.1 0 12).toInt) + (1 : Int) := add_z rfl (show (1 : Int32).toInt = (1 : Int) by decide) (om_6ad47c49ef zws pw137) (om_99b5e8925f zws z133 pt137 pw137)
              have hP : va_P (dC, dI) vwCl (mW ad N cI cZ cJ (wA (wA (wA u138 0 48 ((u138.1 0 48) - (1 : Int32))) 11 ((u138.1 0 12).toNatClampNeg) r165) 0 12 ((u138.1 0 12) + (1 : Int32)))) H := hP
              have hD : va_D A (mW ad N cI cZ cJ (wA (wA (wA u138 0 48 ((u138.1 0 48) - (1 : Int32))) 11 ((u138.1 0 12).toNatClampNeg) r165) 0 12 ((u138.1 0 12) + (1 : Int32)))) := hD
              refine tp_i (y := (u138.1 0 12)) (rfl) ?_
              refine W.widen (k := 0) (n := 0) (Nat.le_refl _) (Nat.le_refl _) ?_
              refine lv_pop hx hb dX13_operand_210 rfl ?_
              refine lv_aload_n hx hb dX13_operand_211 rfl (lv_at hl 1 rfl) ?_
              refine lv_iload_n hx hb dX13_operand_212 rfl (lv_at hl 0 rfl) ?_
              refine lv_bipush (v := 45) hx hb dX13_operand_213 (by decide) ?_
              refine lv_icmp_ne (tgt := 223) hx hb dX13_operand_215 (by decide) (fun h170 => ?_) (fun h170 => ?_)
              · have z171 : ((v.2 (v.1 0 47).toNatClampNeg).toInt32).toInt ≠ (45 : Int) := ne_z rfl (show (45 : Int32).toInt = (45 : Int) by decide) h170
                refine lv_iload_n hx hb dX13_operand_223 rfl (lv_at hl 0 rfl) ?_
                refine lv_bipush (v := 33) hx hb dX13_operand_224 (by decide) ?_
                refine lv_icmp_ne (tgt := 234) hx hb dX13_operand_226 (by decide) (fun h172 => ?_) (fun h172 => ?_)
                · have z173 : ((v.2 (v.1 0 47).toNatClampNeg).toInt32).toInt ≠ (33 : Int) := ne_z rfl (show (33 : Int32).toInt = (33 : Int) by decide) h172
                  exact False.elim (om_abbf94d96b z162 z173)
                · have z174 : ((v.2 (v.1 0 47).toNatClampNeg).toInt32).toInt = (33 : Int) := eq_z rfl (show (33 : Int32).toInt = (33 : Int) by decide) h172
                  refine lv_bipush (v := 19) hx hb dX13_operand_229 (by decide) ?_
                  refine lv_goto (tgt := 236) hx hb dX13_operand_231 (by decide) ?_
                  refine lv_iconst (v := 0) hx hb dX13_operand_236 (by decide) ?_
                  refine cu_i (rn_V (n := 2) (As := [.int 19, .int 0]) (rest := []) hx hb hml hown ht hKK hFx hP hD hS hA (c_m_say l dC dI cI cB cZ cJ cR tb H.size ad N (wA (wA (wA u138 0 48 ((u138.1 0 48) - (1 : Int32))) 11 ((u138.1 0 12).toNatClampNeg) r165) 0 12 ((u138.1 0 12) + (1 : Int32))) (19 : Int32) (0 : Int32) (show 0 ≤ (u138.1 0 15).toInt ∧ (u138.1 0 15).toInt < 16000 from (om_ab4ad5e078 zos z133 pt137 po137))) tw_59 tw_60 (by decide +kernel) rfl rfl ⟨show 0 + 1 ≤ 40 * n + 9 from om_fd17f2e70e, show 8 + (3 + 11) + 0 ≤ 28 * (40 * n + 9) from om_e79917e237⟩ (List.range (mW ad N cI cZ cJ (wA (wA (wA u138 0 48 ((u138.1 0 48) - (1 : Int32))) 11 ((u138.1 0 12).toNatClampNeg) r165) 0 12 ((u138.1 0 12) + (1 : Int32)))).length) (rg_map _) (mW_nd _ _ _ _ _ _) rfl rfl rfl rfl hl.1 rfl (Nat.le_of_ble_eq_true rfl) dX13_operand_237 ⟨Nat.le_of_ble_eq_true rfl, Nat.le_of_ble_eq_true rfl⟩) hP hD hS hA (fun r177 u176 H locs hw175 hP hD hS => ?_)
                  obtain ⟨rfl, rfl⟩ := hw175
                  have z178 : ((u138.1 0 15) + (1 : Int32)).toInt = ((u138.1 0 15).toInt) + (1 : Int) := add_z rfl (show (1 : Int32).toInt = (1 : Int) by decide) (om_436cd0d872 zos po137) (om_4b3fea160f zos z133 pt137 po137)
                  have hP : va_P (dC, dI) vwCl (mW ad N cI cZ cJ (wA (wA (wA (wA (wA (wA u138 0 48 ((u138.1 0 48) - (1 : Int32))) 11 ((u138.1 0 12).toNatClampNeg) r165) 0 12 ((u138.1 0 12) + (1 : Int32))) 13 ((u138.1 0 15).toNatClampNeg) (19 : Int32)) 14 ((u138.1 0 15).toNatClampNeg) (0 : Int32)) 0 15 ((u138.1 0 15) + (1 : Int32)))) H := hP
                  have hD : va_D A (mW ad N cI cZ cJ (wA (wA (wA (wA (wA (wA u138 0 48 ((u138.1 0 48) - (1 : Int32))) 11 ((u138.1 0 12).toNatClampNeg) r165) 0 12 ((u138.1 0 12) + (1 : Int32))) 13 ((u138.1 0 15).toNatClampNeg) (19 : Int32)) 14 ((u138.1 0 15).toNatClampNeg) (0 : Int32)) 0 15 ((u138.1 0 15) + (1 : Int32)))) := hD
                  refine tp_i (y := (u138.1 0 15)) (rfl) ?_
                  refine W.widen (k := 0) (n := 0) (Nat.le_refl _) (Nat.le_refl _) ?_
                  refine lv_pop hx hb dX13_operand_240 rfl ?_
                  refine lv_goto (tgt := 386) hx hb dX13_operand_241 (by decide) ?_
                  refine vx_ret ?_
                  exact W.vret hx hb hr (fun t ht9 hW => ⟨⟨(wA (wA (wA (wA (wA (wA u138 0 48 ((u138.1 0 48) - (1 : Int32))) 11 ((u138.1 0 12).toNatClampNeg) r165) 0 12 ((u138.1 0 12) + (1 : Int32))) 13 ((u138.1 0 15).toNatClampNeg) (19 : Int32)) 14 ((u138.1 0 15).toNatClampNeg) (0 : Int32)) 0 15 ((u138.1 0 15) + (1 : Int32))), rfl, ⟨(FG.f (FG.a (FG.a (FG.f (FG.a (FG.f (FG.tr (FG.f (FG.f (FG.rf _) ((v.1 0 47) + (1 : Int32)) (by decide)) ((v.1 0 48) + (1 : Int32)) (by decide)) (FG.up fr137 (by decide) (by decide))) ((u138.1 0 48) - (1 : Int32)) (by decide)) ((u138.1 0 12).toNatClampNeg) r165 (by decide) (by decide)) ((u138.1 0 12) + (1 : Int32)) (by decide)) ((u138.1 0 15).toNatClampNeg) (19 : Int32) (by decide) (by decide)) ((u138.1 0 15).toNatClampNeg) (0 : Int32) (by decide) (by decide)) ((u138.1 0 15) + (1 : Int32)) (by decide)), (show (v.1 0 47).toInt + 1 ≤ (u138.1 0 47).toInt ∧ (u138.1 0 47).toInt ≤ 1500 from (om_ff8aa832bb z133 pt137)), (show (v.1 0 49).toInt ≠ (v.1 0 47).toInt from (om_32294a9ce4 c130)), (show (v.1 0 12).toInt ≤ ((u138.1 0 12) + (1 : Int32)).toInt ∧ ((u138.1 0 12) + (1 : Int32)).toInt - 15 * (u138.1 0 47).toInt ≤ (v.1 0 12).toInt - 15 * (v.1 0 47).toInt from (om_7d9f5eca64 z133 pw137 z169)), (show (v.1 0 15).toInt ≤ ((u138.1 0 15) + (1 : Int32)).toInt ∧ ((u138.1 0 15) + (1 : Int32)).toInt - 10 * (u138.1 0 47).toInt ≤ (v.1 0 15).toInt - 10 * (v.1 0 47).toInt from (om_e3c4ffe5ce z133 po137 z178)), (show (v.1 0 43).toInt ≤ (u138.1 0 43).toInt ∧ (u138.1 0 43).toInt - 15 * (u138.1 0 47).toInt ≤ (v.1 0 43).toInt - 15 * (v.1 0 47).toInt from (om_48209a9386 z133 pf137)), (show (v.1 0 39).toInt ≤ (u138.1 0 39).toInt ∧ (u138.1 0 39).toInt - 1 * (u138.1 0 47).toInt ≤ (v.1 0 39).toInt - 1 * (v.1 0 47).toInt from (om_df731194be z133 pk137)), (show (u138.1 0 32).toInt = (v.1 0 32).toInt ∧ ((u138.1 0 48) - (1 : Int32)).toInt = (v.1 0 48).toInt from (om_4a47b03b7f z134 pp137 z140)), (show (v.1 0 33).toInt ≤ (u138.1 0 33).toInt ∧ (u138.1 0 33).toInt ≤ 500 from (om_6bc0cea141 ph137)), (fun (j9 : Nat) hj9 => (Eq.trans (pk_un3 (a := (u138.1 0 12).toInt) rfl (om_1ce1b92b31 zws pw137) (om_e81726c0b3 pw137 hj9)) (kc137 j9 (om_4fe904e9bf hj9)))), (fun (j9 : Nat) hj9 => (Eq.trans (pk_un3 (a := (u138.1 0 15).toInt) rfl (om_4b760a59ba zos po137) (om_24f6a8216f po137 hj9)) (ko137 j9 (om_4fe904e9bf hj9)))), (fun (j9 : Nat) hj9 => (Eq.trans (pk_un3 (a := (u138.1 0 15).toInt) rfl (om_4b760a59ba zos po137) (om_24f6a8216f po137 hj9)) (kg137 j9 (om_4fe904e9bf hj9)))), (AR.o (AR.o (AR.o (AR.o (AR.o (AR.o a35137 (by decide)) (by decide)) (by decide)) (by decide)) (by decide)) (by decide)), (AR.o (AR.o (AR.o (AR.o (AR.o (AR.o a37137 (by decide)) (by decide)) (by decide)) (by decide)) (by decide)) (by decide)), (AR.o (AR.o (AR.o (AR.o (AR.o (AR.o a38137 (by decide)) (by decide)) (by decide)) (by decide)) (by decide)) (by decide)), (AR.o (AR.o (AR.o (AR.o (AR.o (AR.o a40137 (by decide)) (by decide)) (by decide)) (by decide)) (by decide)) (by decide)), (FX.o (FX.o (FX.o (FX.o (FX.o (FX.o fx137 (by decide) (by decide)) (by decide) (by decide)) (by decide) (by decide)) (by decide) (by decide)) (by decide) (by decide)) (by decide) (by decide))⟩, by rw [ht9]; exact hP, hD⟩, hS.F ht9⟩) hS.2.2 dX13_operand_386
              · have z179 : ((v.2 (v.1 0 47).toNatClampNeg).toInt32).toInt = (45 : Int) := eq_z rfl (show (45 : Int32).toInt = (45 : Int) by decide) h170
                exact False.elim (om_ac897fe355 z162 z179)
          · have z180 : ((v.2 (v.1 0 47).toNatClampNeg).toInt32).toInt = (45 : Int) := eq_z rfl (show (45 : Int32).toInt = (45 : Int) by decide) h141
            refine lv_bipush (v := 32) hx hb dX13_operand_162 (by decide) ?_
            refine lv_iconst (v := 0) hx hb dX13_operand_164 (by decide) ?_
            refine lv_bipush (v := 10) hx hb dX13_operand_165 (by decide) ?_
            refine lv_iconst (v := 0) hx hb dX13_operand_167 (by decide) ?_
            refine lv_bipush (v := 10) hx hb dX13_operand_168 (by decide) ?_
            refine cu_s (mW_nd _ _ _ _ _ _) (rn_S (n := 5) (As := [.int 32, .int 0, .int 10, .int 0, .int 10]) (rest := [.ref (ad 0)]) hx hb hml hown ht hKK hFx hP hD hS hA (c_m_byR l dC dI cI cB cZ cJ cR tb H.size (32 : Int32) (0 : Int32) (10 : Int32) (0 : Int32) (10 : Int32) ) tw_67 tw_68 (by decide +kernel) rfl rfl ⟨show 0 + 1 ≤ 40 * n + 9 from om_fd17f2e70e, show 8 + (5 + 11) + 0 ≤ 28 * (40 * n + 9) from om_4dd6cddcce⟩ [] rfl rfl rfl hl.1 rfl (Nat.le_of_ble_eq_true rfl) dX13_operand_170 ⟨Nat.le_of_ble_eq_true rfl, Nat.le_of_ble_eq_true rfl⟩) hP hD hS hA (fun r183 H locs hw181 hP hD hS => ?_)
            refine W.widen (k := 0) (n := 0) (Nat.le_refl _) (Nat.le_refl _) ?_
            refine lv_goto (tgt := 207) hx hb dX13_operand_173 (by decide) ?_
            refine cu_i (rn_V (n := 1) (As := [.int r183]) (rest := []) hx hb hml hown ht hKK hFx hP hD hS hA (c_m_emit l dC dI cI cB cZ cJ cR tb H.size ad N (wA u138 0 48 ((u138.1 0 48) - (1 : Int32))) r183 (show 0 ≤ (u138.1 0 12).toInt ∧ (u138.1 0 12).toInt < 24000 from (om_6ad570a484 zws z133 pt137 pw137))) tw_8 tw_9 (by decide +kernel) rfl rfl ⟨show 0 + 1 ≤ 40 * n + 9 from om_fd17f2e70e, show 8 + (2 + 11) + 0 ≤ 28 * (40 * n + 9) from om_4229287154⟩ (List.range (mW ad N cI cZ cJ (wA u138 0 48 ((u138.1 0 48) - (1 : Int32)))).length) (rg_map _) (mW_nd _ _ _ _ _ _) rfl rfl rfl rfl hl.1 rfl (Nat.le_of_ble_eq_true rfl) dX13_operand_207 ⟨Nat.le_of_ble_eq_true rfl, Nat.le_of_ble_eq_true rfl⟩) hP hD hS hA (fun r186 u185 H locs hw184 hP hD hS => ?_)
            obtain ⟨rfl, rfl⟩ := hw184
            have z187 : ((u138.1 0 12) + (1 : Int32)).toInt = ((u138.1 0 12).toInt) + (1 : Int) := add_z rfl (show (1 : Int32).toInt = (1 : Int) by decide) (om_6ad47c49ef zws pw137) (om_99b5e8925f zws z133 pt137 pw137)
            have hP : va_P (dC, dI) vwCl (mW ad N cI cZ cJ (wA (wA (wA u138 0 48 ((u138.1 0 48) - (1 : Int32))) 11 ((u138.1 0 12).toNatClampNeg) r183) 0 12 ((u138.1 0 12) + (1 : Int32)))) H := hP
            have hD : va_D A (mW ad N cI cZ cJ (wA (wA (wA u138 0 48 ((u138.1 0 48) - (1 : Int32))) 11 ((u138.1 0 12).toNatClampNeg) r183) 0 12 ((u138.1 0 12) + (1 : Int32)))) := hD
            refine tp_i (y := (u138.1 0 12)) (rfl) ?_
            refine W.widen (k := 0) (n := 0) (Nat.le_refl _) (Nat.le_refl _) ?_
            refine lv_pop hx hb dX13_operand_210 rfl ?_
            refine lv_aload_n hx hb dX13_operand_211 rfl (lv_at hl 1 rfl) ?_
            refine lv_iload_n hx hb dX13_operand_212 rfl (lv_at hl 0 rfl) ?_
            refine lv_bipush (v := 45) hx hb dX13_operand_213 (by decide) ?_
            refine lv_icmp_ne (tgt := 223) hx hb dX13_operand_215 (by decide) (fun h188 => ?_) (fun h188 => ?_)
            · have z189 : ((v.2 (v.1 0 47).toNatClampNeg).toInt32).toInt ≠ (45 : Int) := ne_z rfl (show (45 : Int32).toInt = (45 : Int) by decide) h188
              exact False.elim (om_bdc7d89919 z180 z189)
            · have z190 : ((v.2 (v.1 0 47).toNatClampNeg).toInt32).toInt = (45 : Int) := eq_z rfl (show (45 : Int32).toInt = (45 : Int) by decide) h188
              refine lv_bipush (v := 18) hx hb dX13_operand_218 (by decide) ?_
              refine lv_goto (tgt := 236) hx hb dX13_operand_220 (by decide) ?_
              refine lv_iconst (v := 0) hx hb dX13_operand_236 (by decide) ?_
              refine cu_i (rn_V (n := 2) (As := [.int 18, .int 0]) (rest := []) hx hb hml hown ht hKK hFx hP hD hS hA (c_m_say l dC dI cI cB cZ cJ cR tb H.size ad N (wA (wA (wA u138 0 48 ((u138.1 0 48) - (1 : Int32))) 11 ((u138.1 0 12).toNatClampNeg) r183) 0 12 ((u138.1 0 12) + (1 : Int32))) (18 : Int32) (0 : Int32) (show 0 ≤ (u138.1 0 15).toInt ∧ (u138.1 0 15).toInt < 16000 from (om_ab4ad5e078 zos z133 pt137 po137))) tw_59 tw_60 (by decide +kernel) rfl rfl ⟨show 0 + 1 ≤ 40 * n + 9 from om_fd17f2e70e, show 8 + (3 + 11) + 0 ≤ 28 * (40 * n + 9) from om_e79917e237⟩ (List.range (mW ad N cI cZ cJ (wA (wA (wA u138 0 48 ((u138.1 0 48) - (1 : Int32))) 11 ((u138.1 0 12).toNatClampNeg) r183) 0 12 ((u138.1 0 12) + (1 : Int32)))).length) (rg_map _) (mW_nd _ _ _ _ _ _) rfl rfl rfl rfl hl.1 rfl (Nat.le_of_ble_eq_true rfl) dX13_operand_237 ⟨Nat.le_of_ble_eq_true rfl, Nat.le_of_ble_eq_true rfl⟩) hP hD hS hA (fun r193 u192 H locs hw191 hP hD hS => ?_)
              obtain ⟨rfl, rfl⟩ := hw191
              have z194 : ((u138.1 0 15) + (1 : Int32)).toInt = ((u138.1 0 15).toInt) + (1 : Int) := add_z rfl (show (1 : Int32).toInt = (1 : Int) by decide) (om_436cd0d872 zos po137) (om_4b3fea160f zos z133 pt137 po137)
              have hP : va_P (dC, dI) vwCl (mW ad N cI cZ cJ (wA (wA (wA (wA (wA (wA u138 0 48 ((u138.1 0 48) - (1 : Int32))) 11 ((u138.1 0 12).toNatClampNeg) r183) 0 12 ((u138.1 0 12) + (1 : Int32))) 13 ((u138.1 0 15).toNatClampNeg) (18 : Int32)) 14 ((u138.1 0 15).toNatClampNeg) (0 : Int32)) 0 15 ((u138.1 0 15) + (1 : Int32)))) H := hP
              have hD : va_D A (mW ad N cI cZ cJ (wA (wA (wA (wA (wA (wA u138 0 48 ((u138.1 0 48) - (1 : Int32))) 11 ((u138.1 0 12).toNatClampNeg) r183) 0 12 ((u138.1 0 12) + (1 : Int32))) 13 ((u138.1 0 15).toNatClampNeg) (18 : Int32)) 14 ((u138.1 0 15).toNatClampNeg) (0 : Int32)) 0 15 ((u138.1 0 15) + (1 : Int32)))) := hD
              refine tp_i (y := (u138.1 0 15)) (rfl) ?_
              refine W.widen (k := 0) (n := 0) (Nat.le_refl _) (Nat.le_refl _) ?_
              refine lv_pop hx hb dX13_operand_240 rfl ?_
              refine lv_goto (tgt := 386) hx hb dX13_operand_241 (by decide) ?_
              refine vx_ret ?_
              exact W.vret hx hb hr (fun t ht9 hW => ⟨⟨(wA (wA (wA (wA (wA (wA u138 0 48 ((u138.1 0 48) - (1 : Int32))) 11 ((u138.1 0 12).toNatClampNeg) r183) 0 12 ((u138.1 0 12) + (1 : Int32))) 13 ((u138.1 0 15).toNatClampNeg) (18 : Int32)) 14 ((u138.1 0 15).toNatClampNeg) (0 : Int32)) 0 15 ((u138.1 0 15) + (1 : Int32))), rfl, ⟨(FG.f (FG.a (FG.a (FG.f (FG.a (FG.f (FG.tr (FG.f (FG.f (FG.rf _) ((v.1 0 47) + (1 : Int32)) (by decide)) ((v.1 0 48) + (1 : Int32)) (by decide)) (FG.up fr137 (by decide) (by decide))) ((u138.1 0 48) - (1 : Int32)) (by decide)) ((u138.1 0 12).toNatClampNeg) r183 (by decide) (by decide)) ((u138.1 0 12) + (1 : Int32)) (by decide)) ((u138.1 0 15).toNatClampNeg) (18 : Int32) (by decide) (by decide)) ((u138.1 0 15).toNatClampNeg) (0 : Int32) (by decide) (by decide)) ((u138.1 0 15) + (1 : Int32)) (by decide)), (show (v.1 0 47).toInt + 1 ≤ (u138.1 0 47).toInt ∧ (u138.1 0 47).toInt ≤ 1500 from (om_ff8aa832bb z133 pt137)), (show (v.1 0 49).toInt ≠ (v.1 0 47).toInt from (om_32294a9ce4 c130)), (show (v.1 0 12).toInt ≤ ((u138.1 0 12) + (1 : Int32)).toInt ∧ ((u138.1 0 12) + (1 : Int32)).toInt - 15 * (u138.1 0 47).toInt ≤ (v.1 0 12).toInt - 15 * (v.1 0 47).toInt from (om_7d9f5eca64 z133 pw137 z187)), (show (v.1 0 15).toInt ≤ ((u138.1 0 15) + (1 : Int32)).toInt ∧ ((u138.1 0 15) + (1 : Int32)).toInt - 10 * (u138.1 0 47).toInt ≤ (v.1 0 15).toInt - 10 * (v.1 0 47).toInt from (om_e3c4ffe5ce z133 po137 z194)), (show (v.1 0 43).toInt ≤ (u138.1 0 43).toInt ∧ (u138.1 0 43).toInt - 15 * (u138.1 0 47).toInt ≤ (v.1 0 43).toInt - 15 * (v.1 0 47).toInt from (om_48209a9386 z133 pf137)), (show (v.1 0 39).toInt ≤ (u138.1 0 39).toInt ∧ (u138.1 0 39).toInt - 1 * (u138.1 0 47).toInt ≤ (v.1 0 39).toInt - 1 * (v.1 0 47).toInt from (om_df731194be z133 pk137)), (show (u138.1 0 32).toInt = (v.1 0 32).toInt ∧ ((u138.1 0 48) - (1 : Int32)).toInt = (v.1 0 48).toInt from (om_4a47b03b7f z134 pp137 z140)), (show (v.1 0 33).toInt ≤ (u138.1 0 33).toInt ∧ (u138.1 0 33).toInt ≤ 500 from (om_6bc0cea141 ph137)), (fun (j9 : Nat) hj9 => (Eq.trans (pk_un3 (a := (u138.1 0 12).toInt) rfl (om_1ce1b92b31 zws pw137) (om_e81726c0b3 pw137 hj9)) (kc137 j9 (om_4fe904e9bf hj9)))), (fun (j9 : Nat) hj9 => (Eq.trans (pk_un3 (a := (u138.1 0 15).toInt) rfl (om_4b760a59ba zos po137) (om_24f6a8216f po137 hj9)) (ko137 j9 (om_4fe904e9bf hj9)))), (fun (j9 : Nat) hj9 => (Eq.trans (pk_un3 (a := (u138.1 0 15).toInt) rfl (om_4b760a59ba zos po137) (om_24f6a8216f po137 hj9)) (kg137 j9 (om_4fe904e9bf hj9)))), (AR.o (AR.o (AR.o (AR.o (AR.o (AR.o a35137 (by decide)) (by decide)) (by decide)) (by decide)) (by decide)) (by decide)), (AR.o (AR.o (AR.o (AR.o (AR.o (AR.o a37137 (by decide)) (by decide)) (by decide)) (by decide)) (by decide)) (by decide)), (AR.o (AR.o (AR.o (AR.o (AR.o (AR.o a38137 (by decide)) (by decide)) (by decide)) (by decide)) (by decide)) (by decide)), (AR.o (AR.o (AR.o (AR.o (AR.o (AR.o a40137 (by decide)) (by decide)) (by decide)) (by decide)) (by decide)) (by decide)), (FX.o (FX.o (FX.o (FX.o (FX.o (FX.o fx137 (by decide) (by decide)) (by decide) (by decide)) (by decide) (by decide)) (by decide) (by decide)) (by decide) (by decide)) (by decide) (by decide))⟩, by rw [ht9]; exact hP, hD⟩, hS.F ht9⟩) hS.2.2 dX13_operand_386
        · have z195 : r127.toInt = (0 : Int) := eq_z rfl (show (0 : Int32).toInt = (0 : Int) by decide) h128
          refine lv_aload_n hx hb dX13_operand_117 rfl (lv_at hl 0 rfl) ?_
          refine lv_bipush (v := 126) hx hb dX13_operand_118 (by decide) ?_
          refine cu_i (rn_V (n := 1) (As := [.int 126]) (rest := []) hx hb hml hown ht hKK hFx hP hD hS hA (c_m_is l dC dI cI cB cZ cJ cR tb H.size ad N v (126 : Int32) (show 0 ≤ (v.1 0 47).toInt ∧ (v.1 0 47).toInt ≤ 1500 from (om_2fb699b811 zt zfs))) tw_34 tw_35 (by decide +kernel) rfl rfl ⟨show 1 + 1 ≤ 40 * n + 9 from om_dc0ef911ca, show 8 + (2 + 11) + 22 ≤ 28 * (40 * n + 9) from om_8685d0996a⟩ (List.range (mW ad N cI cZ cJ v).length) (rg_map _) (mW_nd _ _ _ _ _ _) rfl rfl rfl rfl hl.1 rfl (Nat.le_of_ble_eq_true rfl) dX13_operand_120 ⟨Nat.le_of_ble_eq_true rfl, Nat.le_of_ble_eq_true rfl⟩) hP hD hS hA (fun r198 u197 H locs hw196 hP hD hS => ?_)
          obtain ⟨rfl, b196, e196⟩ := hw196
          refine W.widen (k := 0) (n := 0) (Nat.le_refl _) (Nat.le_refl _) ?_
          refine lv_if_eq (tgt := 244) hx hb dX13_operand_123 (by decide) (fun h199 => ?_) (fun h199 => ?_)
          · have z200 : r198.toInt = (0 : Int) := eq_z rfl (show (0 : Int32).toInt = (0 : Int) by decide) h199
            refine lv_aload_n hx hb dX13_operand_244 rfl (lv_at hl 0 rfl) ?_
            refine lv_bipush (v := 40) hx hb dX13_operand_245 (by decide) ?_
            refine cu_i (rn_V (n := 1) (As := [.int 40]) (rest := []) hx hb hml hown ht hKK hFx hP hD hS hA (c_m_is l dC dI cI cB cZ cJ cR tb H.size ad N v (40 : Int32) (show 0 ≤ (v.1 0 47).toInt ∧ (v.1 0 47).toInt ≤ 1500 from (om_2fb699b811 zt zfs))) tw_34 tw_35 (by decide +kernel) rfl rfl ⟨show 1 + 1 ≤ 40 * n + 9 from om_dc0ef911ca, show 8 + (2 + 11) + 22 ≤ 28 * (40 * n + 9) from om_8685d0996a⟩ (List.range (mW ad N cI cZ cJ v).length) (rg_map _) (mW_nd _ _ _ _ _ _) rfl rfl rfl rfl hl.1 rfl (Nat.le_of_ble_eq_true rfl) dX13_operand_247 ⟨Nat.le_of_ble_eq_true rfl, Nat.le_of_ble_eq_true rfl⟩) hP hD hS hA (fun r203 u202 H locs hw201 hP hD hS => ?_)
            obtain ⟨rfl, b201, e201⟩ := hw201
            refine W.widen (k := 0) (n := 0) (Nat.le_refl _) (Nat.le_refl _) ?_
            refine lv_if_eq (tgt := 270) hx hb dX13_operand_250 (by decide) (fun h204 => ?_) (fun h204 => ?_)
            · have z205 : r203.toInt = (0 : Int) := eq_z rfl (show (0 : Int32).toInt = (0 : Int) by decide) h204
              refine lv_aload_n hx hb dX13_operand_270 rfl (lv_at hl 0 rfl) ?_
              refine lv_bipush (v := 10) hx hb dX13_operand_271 (by decide) ?_
              refine cu_i (rn_V (n := 1) (As := [.int 10]) (rest := []) hx hb hml hown ht hKK hFx hP hD hS hA (c_m_isKey l dC dI cI cB cZ cJ cR tb H.size ad N v (10 : Int32) (show 0 ≤ (v.1 0 47).toInt ∧ (v.1 0 47).toInt ≤ 1500 from (om_2fb699b811 zt zfs))) tw_116 tw_117 (by decide +kernel) rfl rfl ⟨show 0 + 1 ≤ 40 * n + 9 from om_fd17f2e70e, show 8 + (2 + 11) + 0 ≤ 28 * (40 * n + 9) from om_4229287154⟩ (List.range (mW ad N cI cZ cJ v).length) (rg_map _) (mW_nd _ _ _ _ _ _) rfl rfl rfl rfl hl.1 rfl (Nat.le_of_ble_eq_true rfl) dX13_operand_273 ⟨Nat.le_of_ble_eq_true rfl, Nat.le_of_ble_eq_true rfl⟩) hP hD hS hA (fun r208 u207 H locs hw206 hP hD hS => ?_)
              obtain ⟨rfl, b206, e206⟩ := hw206
              refine W.widen (k := 0) (n := 0) (Nat.le_refl _) (Nat.le_refl _) ?_
              refine lv_if_eq (tgt := 325) hx hb dX13_operand_276 (by decide) (fun h209 => ?_) (fun h209 => ?_)
              · have z210 : r208.toInt = (0 : Int) := eq_z rfl (show (0 : Int32).toInt = (0 : Int) by decide) h209
                refine lv_aload_n hx hb dX13_operand_325 rfl (lv_at hl 0 rfl) ?_
                refine va_get (D := (dC, dI)) (ci := 16) (fs := mF ad v) (v := .ref (ad 6)) (C := RX13) (T := TX13) (N := 124) hx hb ht itX13 hown hK hP 0 rfl rfl 6 (by decide) (ht _ tw_23) (fun _ h9 => h9) rfl dX13_operand_326 ?_
                refine lv_aload_n hx hb dX13_operand_329 rfl (lv_at hl 0 rfl) ?_
                refine va_get (D := (dC, dI)) (ci := 16) (fs := mF ad v) (v := .int (v.1 0 47)) (C := RX13) (T := TX13) (N := 124) hx hb ht itX13 hown hK hP 0 rfl rfl 47 (by decide) (ht _ tw_24) (fun _ h9 => h9) rfl dX13_operand_330 ?_
                refine va_iald (D := (dC, dI)) (f := (v.1 6)) hx hb hK hP 3 0 rfl rfl (in_y (a := (v.1 0 47).toInt) (b := 4002) rfl (om_e33521859d zfs) (om_449eb7e9bb zt) rfl) dX13_operand_333 ?_
                refine lv_iconst (v := 2) hx hb dX13_operand_334 (by decide) ?_
                refine lv_icmp_ne (tgt := 360) hx hb dX13_operand_335 (by decide) (fun h211 => ?_) (fun h211 => ?_)
                · have z212 : ((v.1 6) (v.1 0 47).toNatClampNeg).toInt ≠ (2 : Int) := ne_z rfl (show (2 : Int32).toInt = (2 : Int) by decide) h211
                  refine lv_aload_n hx hb dX13_operand_360 rfl (lv_at hl 0 rfl) ?_
                  refine va_get (D := (dC, dI)) (ci := 16) (fs := mF ad v) (v := .ref (ad 6)) (C := RX13) (T := TX13) (N := 124) hx hb ht itX13 hown hK hP 0 rfl rfl 6 (by decide) (ht _ tw_23) (fun _ h9 => h9) rfl dX13_operand_361 ?_
                  refine lv_aload_n hx hb dX13_operand_364 rfl (lv_at hl 0 rfl) ?_
                  refine va_get (D := (dC, dI)) (ci := 16) (fs := mF ad v) (v := .int (v.1 0 47)) (C := RX13) (T := TX13) (N := 124) hx hb ht itX13 hown hK hP 0 rfl rfl 47 (by decide) (ht _ tw_24) (fun _ h9 => h9) rfl dX13_operand_365 ?_
                  refine va_iald (D := (dC, dI)) (f := (v.1 6)) hx hb hK hP 3 0 rfl rfl (in_y (a := (v.1 0 47).toInt) (b := 4002) rfl (om_e33521859d zfs) (om_449eb7e9bb zt) rfl) dX13_operand_368 ?_
                  refine lv_iconst (v := 2) hx hb dX13_operand_369 (by decide) ?_
                  refine lv_icmp_ne (tgt := 381) hx hb dX13_operand_370 (by decide) (fun h213 => ?_) (fun h213 => ?_)
                  · have z214 : ((v.1 6) (v.1 0 47).toNatClampNeg).toInt ≠ (2 : Int) := ne_z rfl (show (2 : Int32).toInt = (2 : Int) by decide) h213
                    refine lv_aload_n hx hb dX13_operand_381 rfl (lv_at hl 0 rfl) ?_
                    refine cu_r (rn_V (n := 0) (As := []) (rest := []) hx hb hml hown ht hKK hFx hP hD hS hA (c_m_bad l dC dI cI cB cZ cJ cR tb H.size ad N v  (show 0 ≤ (v.1 0 47).toInt ∧ (v.1 0 47).toInt ≤ 1500 from (om_2fb699b811 zt zfs))) tw_36 tw_37 (by decide +kernel) rfl rfl ⟨show 1 + 1 ≤ 40 * n + 9 from om_dc0ef911ca, show 8 + (1 + 11) + 22 ≤ 28 * (40 * n + 9) from om_1a3684fcd8⟩ (List.range (mW ad N cI cZ cJ v).length) (rg_map _) (mW_nd _ _ _ _ _ _) rfl rfl rfl rfl hl.1 rfl (Nat.le_of_ble_eq_true rfl) dX13_operand_382 ⟨Nat.le_of_ble_eq_true rfl, Nat.le_of_ble_eq_true rfl⟩) hP hD hS hA (fun u216 H locs hw215 hP hD hS => ?_)
                    have fr215 := hw215
                    refine W.widen (k := 0) (n := 0) (Nat.le_refl _) (Nat.le_refl _) ?_
                    obtain ⟨ce9, hc9, hv9, hf9⟩ := halt_at hK hP
                    refine um_athrow hx hb dX13_operand_385 ?_
                    exact vx_out (fun x h9 => (hnt x h9).elim) hlocks hc9 hv9 hf9 (fun t9 ht9 hv8 => ⟨u216, (FG.tr (FG.rf _) (FG.up fr215 (by decide) (by decide))), ⟨rfl, by rw [ht9]; exact hP, hD⟩, hS.F ht9⟩) hS.2.2 (Nat.le_refl _) (Nat.le_refl _)
                  · have z218 : ((v.1 6) (v.1 0 47).toNatClampNeg).toInt = (2 : Int) := eq_z rfl (show (2 : Int32).toInt = (2 : Int) by decide) h213
                    exact False.elim (om_a9523442bb z212 z218)
                · have z219 : ((v.1 6) (v.1 0 47).toNatClampNeg).toInt = (2 : Int) := eq_z rfl (show (2 : Int32).toInt = (2 : Int) by decide) h211
                  refine lv_aload_n hx hb dX13_operand_338 rfl (lv_at hl 0 rfl) ?_
                  refine lv_aload_n hx hb dX13_operand_339 rfl (lv_at hl 0 rfl) ?_
                  refine va_get (D := (dC, dI)) (ci := 16) (fs := mF ad v) (v := .int (v.1 0 47)) (C := RX13) (T := TX13) (N := 124) hx hb ht itX13 hown hK hP 0 rfl rfl 47 (by decide) (ht _ tw_24) (fun _ h9 => h9) rfl dX13_operand_340 ?_
                  refine lv_iconst (v := 1) hx hb dX13_operand_343 (by decide) ?_
                  refine lv_iadd hx hb dX13_operand_344 ?_
                  have z220 : ((v.1 0 47) + (1 : Int32)).toInt = ((v.1 0 47).toInt) + (1 : Int) := add_z rfl (show (1 : Int32).toInt = (1 : Int) by decide) (om_3eca9b17a5 zws) (om_27eb55d06c zt)
                  refine lv_bipush (v := 40) hx hb dX13_operand_345 (by decide) ?_
                  refine cu_i (rn_V (n := 2) (As := [.int ((v.1 0 47) + (1 : Int32)), .int 40]) (rest := []) hx hb hml hown ht hKK hFx hP hD hS hA (c_m_isSign l dC dI cI cB cZ cJ cR tb H.size ad N v ((v.1 0 47) + (1 : Int32)) (40 : Int32) (show 0 ≤ ((v.1 0 47) + (1 : Int32)).toInt ∧ ((v.1 0 47) + (1 : Int32)).toInt < 4002 from (om_6662b95370 zt zfs z220))) tw_28 tw_29 (by decide +kernel) rfl rfl ⟨show 0 + 1 ≤ 40 * n + 9 from om_fd17f2e70e, show 8 + (3 + 11) + 0 ≤ 28 * (40 * n + 9) from om_e79917e237⟩ (List.range (mW ad N cI cZ cJ v).length) (rg_map _) (mW_nd _ _ _ _ _ _) rfl rfl rfl rfl hl.1 rfl (Nat.le_of_ble_eq_true rfl) dX13_operand_347 ⟨Nat.le_of_ble_eq_true rfl, Nat.le_of_ble_eq_true rfl⟩) hP hD hS hA (fun r223 u222 H locs hw221 hP hD hS => ?_)
                  obtain ⟨rfl, b221, e221⟩ := hw221
                  refine W.widen (k := 0) (n := 0) (Nat.le_refl _) (Nat.le_refl _) ?_
                  refine lv_if_eq (tgt := 360) hx hb dX13_operand_350 (by decide) (fun h224 => ?_) (fun h224 => ?_)
                  · have z225 : r223.toInt = (0 : Int) := eq_z rfl (show (0 : Int32).toInt = (0 : Int) by decide) h224
                    refine lv_aload_n hx hb dX13_operand_360 rfl (lv_at hl 0 rfl) ?_
                    refine va_get (D := (dC, dI)) (ci := 16) (fs := mF ad v) (v := .ref (ad 6)) (C := RX13) (T := TX13) (N := 124) hx hb ht itX13 hown hK hP 0 rfl rfl 6 (by decide) (ht _ tw_23) (fun _ h9 => h9) rfl dX13_operand_361 ?_
                    refine lv_aload_n hx hb dX13_operand_364 rfl (lv_at hl 0 rfl) ?_
                    refine va_get (D := (dC, dI)) (ci := 16) (fs := mF ad v) (v := .int (v.1 0 47)) (C := RX13) (T := TX13) (N := 124) hx hb ht itX13 hown hK hP 0 rfl rfl 47 (by decide) (ht _ tw_24) (fun _ h9 => h9) rfl dX13_operand_365 ?_
                    refine va_iald (D := (dC, dI)) (f := (v.1 6)) hx hb hK hP 3 0 rfl rfl (in_y (a := (v.1 0 47).toInt) (b := 4002) rfl (om_e33521859d zfs) (om_449eb7e9bb zt) rfl) dX13_operand_368 ?_
                    refine lv_iconst (v := 2) hx hb dX13_operand_369 (by decide) ?_
                    refine lv_icmp_ne (tgt := 381) hx hb dX13_operand_370 (by decide) (fun h226 => ?_) (fun h226 => ?_)
                    · have z227 : ((v.1 6) (v.1 0 47).toNatClampNeg).toInt ≠ (2 : Int) := ne_z rfl (show (2 : Int32).toInt = (2 : Int) by decide) h226
                      exact False.elim (om_6555dba5b7 z219 z227)
                    · have z228 : ((v.1 6) (v.1 0 47).toNatClampNeg).toInt = (2 : Int) := eq_z rfl (show (2 : Int32).toInt = (2 : Int) by decide) h226
                      refine lv_aload_n hx hb dX13_operand_373 rfl (lv_at hl 0 rfl) ?_
                      refine lv_iconst (v := 0) hx hb dX13_operand_374 (by decide) ?_
                      refine cux_v (rx_V (n := 1) (As := [.int 0]) (rest := []) hx hb hml hown ht hKK hFx hP hD hS hA (c_m_named0 l n ihE dC dI cI cB cZ cJ cR tb H.size ad N v  (show 40 ≤ (v.1 0 48).toInt + (n : Int) from (om_a9150ae9b6 zn)) (show 0 ≤ (v.1 0 47).toInt ∧ (v.1 0 47).toInt ≤ 1500 from (om_2fb699b811 zt zfs)) (show 0 ≤ (v.1 0 48).toInt ∧ (v.1 0 48).toInt ≤ 40 from (om_7eaf33e007 zop)) (show 0 ≤ (v.1 0 30).toInt ∧ (v.1 0 30).toInt ≤ 500 from (om_9861e69da5 zkn)) (show 0 ≤ (v.1 0 33).toInt ∧ (v.1 0 33).toInt ≤ 500 from (om_9861e69da5 zhi)) (show 0 ≤ (v.1 0 32).toInt ∧ (v.1 0 30).toInt + (v.1 0 32).toInt ≤ (v.1 0 33).toInt from (om_f541e4003c zs)) (show 0 ≤ (v.1 0 12).toInt ∧ (v.1 0 12).toInt ≤ 15 * (v.1 0 47).toInt + 2 from (om_0093b55d27 zws)) (show 0 ≤ (v.1 0 15).toInt ∧ (v.1 0 15).toInt ≤ 10 * (v.1 0 47).toInt + 0 from (om_f99dd47f94 zos)) (show 0 ≤ (v.1 0 43).toInt ∧ (v.1 0 43).toInt ≤ 15 * (v.1 0 47).toInt + 0 from (om_116b0ae668 zfs)) (show 0 ≤ (v.1 0 39).toInt ∧ (v.1 0 39).toInt ≤ 1 * (v.1 0 47).toInt + 0 from (om_081ea48693 zcs)) (show 0 ≤ (v.1 0 27).toInt ∧ (v.1 0 27).toInt ≤ 60 from (om_1d2c7ad648 zgl)) (show TI v from FG.ti (fl := pfl) (al := pal) (FG.rf _) (by decide) (by decide) hT) (show AR 29 0 1500 v from a29) (show AR 23 0 1500 v from a23) (show AR 35 0 1500 v from a35) (show AR 37 0 23999 v from a37) (show AR 38 0 15999 v from a38) (show AR 40 0 23999 v from a40) (show FX v from fx)) tw_118 tw_119 (by decide +kernel) rfl rfl ⟨show (40 * n + 8) + 1 ≤ 40 * n + 9 from om_b0a4404262, show 8 + (7 + 11) + 28 * (40 * n + 8) ≤ 28 * (40 * n + 9) from om_0c05ba7e9c⟩ (List.range (mW ad N cI cZ cJ v).length) (rg_map _) (mW_nd _ _ _ _ _ _) rfl rfl rfl rfl hl.1 rfl (Nat.le_of_ble_eq_true rfl) dX13_operand_375 ⟨Nat.le_of_ble_eq_true rfl, Nat.le_of_ble_eq_true rfl⟩) hP hD hS hA (fun u9 ce9 q9 H locs hx9 hP hD hS hc9 hv9 hf9 => ?_) (fun u230 H locs hw229 hP hD hS => ?_)
                      · exact vx_out (fun x h9 => (hnt x h9).elim) hlocks hc9 hv9 hf9 (fun t9 ht9 hv8 => ⟨u9, (FG.tr (FG.rf _) hx9), ⟨rfl, by rw [ht9]; exact hP, hD⟩, hS.F ht9⟩) hS.2.2 (Nat.le_refl _) (Nat.le_refl _)
                      obtain ⟨fr229, pt229, pb229, pw229, po229, pf229, pk229, pp229, ph229, kc229, ko229, kg229, a35229, a37229, a38229, a40229, fx229⟩ := hw229
                      refine W.widen (k := 0) (n := 0) (Nat.le_refl _) (Nat.le_refl _) ?_
                      refine lv_goto (tgt := 386) hx hb dX13_operand_378 (by decide) ?_
                      refine vx_ret ?_
                      exact W.vret hx hb hr (fun t ht9 hW => ⟨⟨u230, rfl, ⟨(FG.tr (FG.rf _) (FG.up fr229 (by decide) (by decide))), (show (v.1 0 47).toInt + 1 ≤ (u230.1 0 47).toInt ∧ (u230.1 0 47).toInt ≤ 1500 from (om_d90a70a533 pt229)), (show (v.1 0 49).toInt ≠ (v.1 0 47).toInt from (om_32294a9ce4 pb229)), (show (v.1 0 12).toInt ≤ (u230.1 0 12).toInt ∧ (u230.1 0 12).toInt - 15 * (u230.1 0 47).toInt ≤ (v.1 0 12).toInt - 15 * (v.1 0 47).toInt from (om_bd8d9916e4 pw229)), (show (v.1 0 15).toInt ≤ (u230.1 0 15).toInt ∧ (u230.1 0 15).toInt - 10 * (u230.1 0 47).toInt ≤ (v.1 0 15).toInt - 10 * (v.1 0 47).toInt from (om_75227e8328 po229)), (show (v.1 0 43).toInt ≤ (u230.1 0 43).toInt ∧ (u230.1 0 43).toInt - 15 * (u230.1 0 47).toInt ≤ (v.1 0 43).toInt - 15 * (v.1 0 47).toInt from (om_bd8d9916e4 pf229)), (show (v.1 0 39).toInt ≤ (u230.1 0 39).toInt ∧ (u230.1 0 39).toInt - 1 * (u230.1 0 47).toInt ≤ (v.1 0 39).toInt - 1 * (v.1 0 47).toInt from (om_da0fc15040 pk229)), (show (u230.1 0 32).toInt = (v.1 0 32).toInt ∧ (u230.1 0 48).toInt = (v.1 0 48).toInt from (om_d31db81a70 pp229)), (show (v.1 0 33).toInt ≤ (u230.1 0 33).toInt ∧ (u230.1 0 33).toInt ≤ 500 from (om_6bc0cea141 ph229)), (fun (j9 : Nat) hj9 => (kc229 j9 (om_4fe904e9bf hj9))), (fun (j9 : Nat) hj9 => (ko229 j9 (om_4fe904e9bf hj9))), (fun (j9 : Nat) hj9 => (kg229 j9 (om_4fe904e9bf hj9))), a35229, a37229, a38229, a40229, fx229⟩, by rw [ht9]; exact hP, hD⟩, hS.F ht9⟩) hS.2.2 dX13_operand_386
                  · have z232 : r223.toInt ≠ (0 : Int) := ne_z rfl (show (0 : Int32).toInt = (0 : Int) by decide) h224
                    refine lv_aload_n hx hb dX13_operand_353 rfl (lv_at hl 0 rfl) ?_
                    refine cux_v (rx_V (n := 0) (As := []) (rest := []) hx hb hml hown ht hKK hFx hP hD hS hA (c_m_call l n ihE dC dI cI cB cZ cJ cR tb H.size ad N v  (show 40 ≤ (v.1 0 48).toInt + (n : Int) from (om_a9150ae9b6 zn)) (show 0 ≤ (v.1 0 47).toInt ∧ (v.1 0 47).toInt ≤ 1500 from (om_2fb699b811 zt zfs)) (show 0 ≤ (v.1 0 48).toInt ∧ (v.1 0 48).toInt ≤ 40 from (om_7eaf33e007 zop)) (show 0 ≤ (v.1 0 30).toInt ∧ (v.1 0 30).toInt ≤ 500 from (om_9861e69da5 zkn)) (show 0 ≤ (v.1 0 33).toInt ∧ (v.1 0 33).toInt ≤ 500 from (om_9861e69da5 zhi)) (show 0 ≤ (v.1 0 32).toInt ∧ (v.1 0 30).toInt + (v.1 0 32).toInt ≤ (v.1 0 33).toInt from (om_f541e4003c zs)) (show 0 ≤ (v.1 0 12).toInt ∧ (v.1 0 12).toInt ≤ 15 * (v.1 0 47).toInt + 2 from (om_0093b55d27 zws)) (show 0 ≤ (v.1 0 15).toInt ∧ (v.1 0 15).toInt ≤ 10 * (v.1 0 47).toInt + 0 from (om_f99dd47f94 zos)) (show 0 ≤ (v.1 0 43).toInt ∧ (v.1 0 43).toInt ≤ 15 * (v.1 0 47).toInt + 0 from (om_116b0ae668 zfs)) (show 0 ≤ (v.1 0 39).toInt ∧ (v.1 0 39).toInt ≤ 1 * (v.1 0 47).toInt + 0 from (om_081ea48693 zcs)) (show 0 ≤ (v.1 0 27).toInt ∧ (v.1 0 27).toInt ≤ 60 from (om_1d2c7ad648 zgl)) (show TI v from FG.ti (fl := pfl) (al := pal) (FG.rf _) (by decide) (by decide) hT) (show AR 29 0 1500 v from a29) (show AR 23 0 1500 v from a23) (show AR 35 0 1500 v from a35) (show AR 37 0 23999 v from a37) (show AR 38 0 15999 v from a38) (show AR 40 0 23999 v from a40) (show FX v from fx)) tw_120 tw_121 (by decide +kernel) rfl rfl ⟨show (40 * n + 7) + 1 ≤ 40 * n + 9 from om_dbb8b0dcf0, show 8 + (6 + 11) + 28 * (40 * n + 7) ≤ 28 * (40 * n + 9) from om_fd2fd97cdd⟩ (List.range (mW ad N cI cZ cJ v).length) (rg_map _) (mW_nd _ _ _ _ _ _) rfl rfl rfl rfl hl.1 rfl (Nat.le_of_ble_eq_true rfl) dX13_operand_354 ⟨Nat.le_of_ble_eq_true rfl, Nat.le_of_ble_eq_true rfl⟩) hP hD hS hA (fun u9 ce9 q9 H locs hx9 hP hD hS hc9 hv9 hf9 => ?_) (fun u234 H locs hw233 hP hD hS => ?_)
                    · exact vx_out (fun x h9 => (hnt x h9).elim) hlocks hc9 hv9 hf9 (fun t9 ht9 hv8 => ⟨u9, (FG.tr (FG.rf _) hx9), ⟨rfl, by rw [ht9]; exact hP, hD⟩, hS.F ht9⟩) hS.2.2 (Nat.le_refl _) (Nat.le_refl _)
                    obtain ⟨fr233, pt233, pb233, pw233, po233, pf233, pk233, pp233, ph233, kc233, ko233, kg233, a35233, a37233, a38233, a40233, fx233⟩ := hw233
                    refine W.widen (k := 0) (n := 0) (Nat.le_refl _) (Nat.le_refl _) ?_
                    refine lv_goto (tgt := 386) hx hb dX13_operand_357 (by decide) ?_
                    refine vx_ret ?_
                    exact W.vret hx hb hr (fun t ht9 hW => ⟨⟨u234, rfl, ⟨(FG.tr (FG.rf _) (FG.up fr233 (by decide) (by decide))), (show (v.1 0 47).toInt + 1 ≤ (u234.1 0 47).toInt ∧ (u234.1 0 47).toInt ≤ 1500 from (om_d90a70a533 pt233)), (show (v.1 0 49).toInt ≠ (v.1 0 47).toInt from (om_32294a9ce4 pb233)), (show (v.1 0 12).toInt ≤ (u234.1 0 12).toInt ∧ (u234.1 0 12).toInt - 15 * (u234.1 0 47).toInt ≤ (v.1 0 12).toInt - 15 * (v.1 0 47).toInt from (om_bd8d9916e4 pw233)), (show (v.1 0 15).toInt ≤ (u234.1 0 15).toInt ∧ (u234.1 0 15).toInt - 10 * (u234.1 0 47).toInt ≤ (v.1 0 15).toInt - 10 * (v.1 0 47).toInt from (om_75227e8328 po233)), (show (v.1 0 43).toInt ≤ (u234.1 0 43).toInt ∧ (u234.1 0 43).toInt - 15 * (u234.1 0 47).toInt ≤ (v.1 0 43).toInt - 15 * (v.1 0 47).toInt from (om_bd8d9916e4 pf233)), (show (v.1 0 39).toInt ≤ (u234.1 0 39).toInt ∧ (u234.1 0 39).toInt - 1 * (u234.1 0 47).toInt ≤ (v.1 0 39).toInt - 1 * (v.1 0 47).toInt from (om_da0fc15040 pk233)), (show (u234.1 0 32).toInt = (v.1 0 32).toInt ∧ (u234.1 0 48).toInt = (v.1 0 48).toInt from (om_d31db81a70 pp233)), (show (v.1 0 33).toInt ≤ (u234.1 0 33).toInt ∧ (u234.1 0 33).toInt ≤ 500 from (om_6bc0cea141 ph233)), (fun (j9 : Nat) hj9 => (kc233 j9 (om_4fe904e9bf hj9))), (fun (j9 : Nat) hj9 => (ko233 j9 (om_4fe904e9bf hj9))), (fun (j9 : Nat) hj9 => (kg233 j9 (om_4fe904e9bf hj9))), a35233, a37233, a38233, a40233, fx233⟩, by rw [ht9]; exact hP, hD⟩, hS.F ht9⟩) hS.2.2 dX13_operand_386
              · have z236 : r208.toInt ≠ (0 : Int) := ne_z rfl (show (0 : Int32).toInt = (0 : Int) by decide) h209
                refine lv_aload_n hx hb dX13_operand_279 rfl (lv_at hl 0 rfl) ?_
                refine cux_v (rx_V (n := 0) (As := []) (rest := []) hx hb hml hown ht hKK hFx hP hD hS hA (c_m_take l dC dI cI cB cZ cJ cR tb H.size ad N v  (show 0 ≤ (v.1 0 47).toInt ∧ (v.1 0 47).toInt ≤ 1500 from (om_2fb699b811 zt zfs))) tw_32 tw_33 (by decide +kernel) rfl rfl ⟨show 1 + 1 ≤ 40 * n + 9 from om_dc0ef911ca, show 8 + (1 + 11) + 22 ≤ 28 * (40 * n + 9) from om_1a3684fcd8⟩ (List.range (mW ad N cI cZ cJ v).length) (rg_map _) (mW_nd _ _ _ _ _ _) rfl rfl rfl rfl hl.1 rfl (Nat.le_of_ble_eq_true rfl) dX13_operand_280 ⟨Nat.le_of_ble_eq_true rfl, Nat.le_of_ble_eq_true rfl⟩) hP hD hS hA (fun u9 ce9 q9 H locs hx9 hP hD hS hc9 hv9 hf9 => ?_) (fun u238 H locs hw237 hP hD hS => ?_)
                · exact vx_out (fun x h9 => (hnt x h9).elim) hlocks hc9 hv9 hf9 (fun t9 ht9 hv8 => ⟨u9, (FG.tr (FG.rf _) hx9), ⟨rfl, by rw [ht9]; exact hP, hD⟩, hS.F ht9⟩) hS.2.2 (Nat.le_refl _) (Nat.le_refl _)
                obtain ⟨rfl, a237, b237⟩ := hw237
                have z240 : ((v.1 0 47) + (1 : Int32)).toInt = ((v.1 0 47).toInt) + (1 : Int) := add_z rfl (show (1 : Int32).toInt = (1 : Int) by decide) (om_3eca9b17a5 zws) (om_27eb55d06c zt)
                have hP : va_P (dC, dI) vwCl (mW ad N cI cZ cJ (wA v 0 47 ((v.1 0 47) + (1 : Int32)))) H := hP
                have hD : va_D A (mW ad N cI cZ cJ (wA v 0 47 ((v.1 0 47) + (1 : Int32)))) := hD
                refine W.widen (k := 0) (n := 0) (Nat.le_refl _) (Nat.le_refl _) ?_
                refine lv_aload_n hx hb dX13_operand_283 rfl (lv_at hl 0 rfl) ?_
                refine lv_bipush (v := 40) hx hb dX13_operand_284 (by decide) ?_
                refine cux_v (rx_V (n := 1) (As := [.int 40]) (rest := []) hx hb hml hown ht hKK hFx hP hD hS hA (c_m_open l dC dI cI cB cZ cJ cR tb H.size ad N (wA v 0 47 ((v.1 0 47) + (1 : Int32))) (40 : Int32) (show 0 ≤ ((v.1 0 47) + (1 : Int32)).toInt ∧ ((v.1 0 47) + (1 : Int32)).toInt ≤ 1500 from (om_cae3a623a5 zfs z240 a237)) (show 0 ≤ (v.1 0 48).toInt ∧ (v.1 0 48).toInt ≤ 40 from (om_7eaf33e007 zop))) tw_78 tw_79 (by decide +kernel) rfl rfl ⟨show 3 + 1 ≤ 40 * n + 9 from om_6d05018a6e, show 8 + (2 + 11) + 62 ≤ 28 * (40 * n + 9) from om_7cb4f31a39⟩ (List.range (mW ad N cI cZ cJ (wA v 0 47 ((v.1 0 47) + (1 : Int32)))).length) (rg_map _) (mW_nd _ _ _ _ _ _) rfl rfl rfl rfl hl.1 rfl (Nat.le_of_ble_eq_true rfl) dX13_operand_286 ⟨Nat.le_of_ble_eq_true rfl, Nat.le_of_ble_eq_true rfl⟩) hP hD hS hA (fun u9 ce9 q9 H locs hx9 hP hD hS hc9 hv9 hf9 => ?_) (fun u242 H locs hw241 hP hD hS => ?_)
                · exact vx_out (fun x h9 => (hnt x h9).elim) hlocks hc9 hv9 hf9 (fun t9 ht9 hv8 => ⟨u9, (FG.tr (FG.f (FG.rf _) ((v.1 0 47) + (1 : Int32)) (by decide)) hx9), ⟨rfl, by rw [ht9]; exact hP, hD⟩, hS.F ht9⟩) hS.2.2 (Nat.le_refl _) (Nat.le_refl _)
                obtain ⟨rfl, a241, b241, c241⟩ := hw241
                have z244 : (((v.1 0 47) + (1 : Int32)) + (1 : Int32)).toInt = (((v.1 0 47).toInt) + (1 : Int)) + (1 : Int) := add_z z240 (show (1 : Int32).toInt = (1 : Int) by decide) (om_bf509aca85 zws) (om_d3d214a01e zt)
                have z245 : ((v.1 0 48) + (1 : Int32)).toInt = ((v.1 0 48).toInt) + (1 : Int) := add_z rfl (show (1 : Int32).toInt = (1 : Int) by decide) (om_c2418a9965 zop) (om_defb2a7457 zop)
                have hP : va_P (dC, dI) vwCl (mW ad N cI cZ cJ (wA (wA (wA v 0 47 ((v.1 0 47) + (1 : Int32))) 0 47 (((v.1 0 47) + (1 : Int32)) + (1 : Int32))) 0 48 ((v.1 0 48) + (1 : Int32)))) H := hP
                have hD : va_D A (mW ad N cI cZ cJ (wA (wA (wA v 0 47 ((v.1 0 47) + (1 : Int32))) 0 47 (((v.1 0 47) + (1 : Int32)) + (1 : Int32))) 0 48 ((v.1 0 48) + (1 : Int32)))) := hD
                have a241 : ((v.1 0 47) + (1 : Int32)).toInt < 1500 := a241
                have b241 : (v.1 0 48).toInt < 40 := b241
                have c241 : (v.1 0 49).toInt ≠ ((v.1 0 47) + (1 : Int32)).toInt := c241
                refine W.widen (k := 0) (n := 0) (Nat.le_refl _) (Nat.le_refl _) ?_
                refine lv_aload_n hx hb dX13_operand_289 rfl (lv_at hl 0 rfl) ?_
                refine lv_bipush (v := 41) hx hb dX13_operand_290 (by decide) ?_
                refine cux_v (rx_V (n := 1) (As := [.int 41]) (rest := []) hx hb hml hown ht hKK hFx hP hD hS hA (c_m_close l dC dI cI cB cZ cJ cR tb H.size ad N (wA (wA (wA v 0 47 ((v.1 0 47) + (1 : Int32))) 0 47 (((v.1 0 47) + (1 : Int32)) + (1 : Int32))) 0 48 ((v.1 0 48) + (1 : Int32))) (41 : Int32) (show 0 ≤ (((v.1 0 47) + (1 : Int32)) + (1 : Int32)).toInt ∧ (((v.1 0 47) + (1 : Int32)) + (1 : Int32)).toInt ≤ 1500 from (om_203286a623 zfs z240 z244 a241)) (show 0 ≤ ((v.1 0 48) + (1 : Int32)).toInt ∧ ((v.1 0 48) + (1 : Int32)).toInt ≤ 40 from (om_4c33377394 zop z245 b241))) tw_82 tw_83 (by decide +kernel) rfl rfl ⟨show 3 + 1 ≤ 40 * n + 9 from om_6d05018a6e, show 8 + (2 + 11) + 64 ≤ 28 * (40 * n + 9) from om_fd9c2c6c65⟩ (List.range (mW ad N cI cZ cJ (wA (wA (wA v 0 47 ((v.1 0 47) + (1 : Int32))) 0 47 (((v.1 0 47) + (1 : Int32)) + (1 : Int32))) 0 48 ((v.1 0 48) + (1 : Int32)))).length) (rg_map _) (mW_nd _ _ _ _ _ _) rfl rfl rfl rfl hl.1 rfl (Nat.le_of_ble_eq_true rfl) dX13_operand_292 ⟨Nat.le_of_ble_eq_true rfl, Nat.le_of_ble_eq_true rfl⟩) hP hD hS hA (fun u9 ce9 q9 H locs hx9 hP hD hS hc9 hv9 hf9 => ?_) (fun u247 H locs hw246 hP hD hS => ?_)
                · exact vx_out (fun x h9 => (hnt x h9).elim) hlocks hc9 hv9 hf9 (fun t9 ht9 hv8 => ⟨u9, (FG.tr (FG.f (FG.f (FG.f (FG.rf _) ((v.1 0 47) + (1 : Int32)) (by decide)) (((v.1 0 47) + (1 : Int32)) + (1 : Int32)) (by decide)) ((v.1 0 48) + (1 : Int32)) (by decide)) hx9), ⟨rfl, by rw [ht9]; exact hP, hD⟩, hS.F ht9⟩) hS.2.2 (Nat.le_refl _) (Nat.le_refl _)
                obtain ⟨rfl, a246, c246⟩ := hw246
                have z249 : ((((v.1 0 47) + (1 : Int32)) + (1 : Int32)) + (1 : Int32)).toInt = ((((v.1 0 47).toInt) + (1 : Int)) + (1 : Int)) + (1 : Int) := add_z z244 (show (1 : Int32).toInt = (1 : Int) by decide) (om_dc5e9547b8 zws) (om_69409caa7f zt)
                have z250 : (((v.1 0 48) + (1 : Int32)) - (1 : Int32)).toInt = (((v.1 0 48).toInt) + (1 : Int)) - (1 : Int) := sub_z z245 (show (1 : Int32).toInt = (1 : Int) by decide) (om_ceed1187a8 zop) (om_31c940eb65 zop)
                have hP : va_P (dC, dI) vwCl (mW ad N cI cZ cJ (wA (wA (wA (wA (wA v 0 47 ((v.1 0 47) + (1 : Int32))) 0 47 (((v.1 0 47) + (1 : Int32)) + (1 : Int32))) 0 48 ((v.1 0 48) + (1 : Int32))) 0 47 ((((v.1 0 47) + (1 : Int32)) + (1 : Int32)) + (1 : Int32))) 0 48 (((v.1 0 48) + (1 : Int32)) - (1 : Int32)))) H := hP
                have hD : va_D A (mW ad N cI cZ cJ (wA (wA (wA (wA (wA v 0 47 ((v.1 0 47) + (1 : Int32))) 0 47 (((v.1 0 47) + (1 : Int32)) + (1 : Int32))) 0 48 ((v.1 0 48) + (1 : Int32))) 0 47 ((((v.1 0 47) + (1 : Int32)) + (1 : Int32)) + (1 : Int32))) 0 48 (((v.1 0 48) + (1 : Int32)) - (1 : Int32)))) := hD
                have a246 : (((v.1 0 47) + (1 : Int32)) + (1 : Int32)).toInt < 1500 := a246
                have c246 : (v.1 0 49).toInt ≠ (((v.1 0 47) + (1 : Int32)) + (1 : Int32)).toInt := c246
                refine W.widen (k := 0) (n := 0) (Nat.le_refl _) (Nat.le_refl _) ?_
                refine lv_aload_n hx hb dX13_operand_295 rfl (lv_at hl 0 rfl) ?_
                refine lv_bipush (v := 17) hx hb dX13_operand_296 (by decide) ?_
                refine lv_iconst (v := 0) hx hb dX13_operand_298 (by decide) ?_
                refine lv_iconst (v := 2) hx hb dX13_operand_299 (by decide) ?_
                refine cu_s (mW_nd _ _ _ _ _ _) (rn_S (n := 3) (As := [.int 17, .int 0, .int 2]) (rest := [.ref (ad 0)]) hx hb hml hown ht hKK hFx hP hD hS hA (c_m_addi l dC dI cI cB cZ cJ cR tb H.size (17 : Int32) (0 : Int32) (2 : Int32) ) tw_65 tw_66 (by decide +kernel) rfl rfl ⟨show 1 + 1 ≤ 40 * n + 9 from om_dc0ef911ca, show 8 + (3 + 11) + 24 ≤ 28 * (40 * n + 9) from om_62edcb27da⟩ [] rfl rfl rfl hl.1 rfl (Nat.le_of_ble_eq_true rfl) dX13_operand_300 ⟨Nat.le_of_ble_eq_true rfl, Nat.le_of_ble_eq_true rfl⟩) hP hD hS hA (fun r253 H locs hw251 hP hD hS => ?_)
                refine W.widen (k := 0) (n := 0) (Nat.le_refl _) (Nat.le_refl _) ?_
                refine cu_i (rn_V (n := 1) (As := [.int r253]) (rest := []) hx hb hml hown ht hKK hFx hP hD hS hA (c_m_emit l dC dI cI cB cZ cJ cR tb H.size ad N (wA (wA (wA (wA (wA v 0 47 ((v.1 0 47) + (1 : Int32))) 0 47 (((v.1 0 47) + (1 : Int32)) + (1 : Int32))) 0 48 ((v.1 0 48) + (1 : Int32))) 0 47 ((((v.1 0 47) + (1 : Int32)) + (1 : Int32)) + (1 : Int32))) 0 48 (((v.1 0 48) + (1 : Int32)) - (1 : Int32))) r253 (show 0 ≤ (v.1 0 12).toInt ∧ (v.1 0 12).toInt < 24000 from (om_b806649874 zws a237))) tw_8 tw_9 (by decide +kernel) rfl rfl ⟨show 0 + 1 ≤ 40 * n + 9 from om_fd17f2e70e, show 8 + (2 + 11) + 0 ≤ 28 * (40 * n + 9) from om_4229287154⟩ (List.range (mW ad N cI cZ cJ (wA (wA (wA (wA (wA v 0 47 ((v.1 0 47) + (1 : Int32))) 0 47 (((v.1 0 47) + (1 : Int32)) + (1 : Int32))) 0 48 ((v.1 0 48) + (1 : Int32))) 0 47 ((((v.1 0 47) + (1 : Int32)) + (1 : Int32)) + (1 : Int32))) 0 48 (((v.1 0 48) + (1 : Int32)) - (1 : Int32)))).length) (rg_map _) (mW_nd _ _ _ _ _ _) rfl rfl rfl rfl hl.1 rfl (Nat.le_of_ble_eq_true rfl) dX13_operand_303 ⟨Nat.le_of_ble_eq_true rfl, Nat.le_of_ble_eq_true rfl⟩) hP hD hS hA (fun r256 u255 H locs hw254 hP hD hS => ?_)
                obtain ⟨rfl, rfl⟩ := hw254
                have z257 : ((v.1 0 12) + (1 : Int32)).toInt = ((v.1 0 12).toInt) + (1 : Int) := add_z rfl (show (1 : Int32).toInt = (1 : Int) by decide) (om_d6bdde0b99 zws) (om_1b214d5a41 zws a237)
                have hP : va_P (dC, dI) vwCl (mW ad N cI cZ cJ (wA (wA (wA (wA (wA (wA (wA v 0 47 ((v.1 0 47) + (1 : Int32))) 0 47 (((v.1 0 47) + (1 : Int32)) + (1 : Int32))) 0 48 ((v.1 0 48) + (1 : Int32))) 0 47 ((((v.1 0 47) + (1 : Int32)) + (1 : Int32)) + (1 : Int32))) 0 48 (((v.1 0 48) + (1 : Int32)) - (1 : Int32))) 11 ((v.1 0 12).toNatClampNeg) r253) 0 12 ((v.1 0 12) + (1 : Int32)))) H := hP
                have hD : va_D A (mW ad N cI cZ cJ (wA (wA (wA (wA (wA (wA (wA v 0 47 ((v.1 0 47) + (1 : Int32))) 0 47 (((v.1 0 47) + (1 : Int32)) + (1 : Int32))) 0 48 ((v.1 0 48) + (1 : Int32))) 0 47 ((((v.1 0 47) + (1 : Int32)) + (1 : Int32)) + (1 : Int32))) 0 48 (((v.1 0 48) + (1 : Int32)) - (1 : Int32))) 11 ((v.1 0 12).toNatClampNeg) r253) 0 12 ((v.1 0 12) + (1 : Int32)))) := hD
                refine tp_i (y := (v.1 0 12)) (rfl) ?_
                refine W.widen (k := 0) (n := 0) (Nat.le_refl _) (Nat.le_refl _) ?_
                obtain ⟨u258, hu259⟩ : ∃ z, z = (wA (wA (wA (wA (wA (wA (wA v 0 47 ((v.1 0 47) + (1 : Int32))) 0 47 (((v.1 0 47) + (1 : Int32)) + (1 : Int32))) 0 48 ((v.1 0 48) + (1 : Int32))) 0 47 ((((v.1 0 47) + (1 : Int32)) + (1 : Int32)) + (1 : Int32))) 0 48 (((v.1 0 48) + (1 : Int32)) - (1 : Int32))) 11 ((v.1 0 12).toNatClampNeg) r253) 0 12 ((v.1 0 12) + (1 : Int32))) := ⟨_, rfl⟩
                have fr259 : FG [12, 47, 48] [0, 11] v u258 := by rw [hu259]; exact (FG.f (FG.a (FG.f (FG.f (FG.f (FG.f (FG.f (FG.rf _) ((v.1 0 47) + (1 : Int32)) (by decide)) (((v.1 0 47) + (1 : Int32)) + (1 : Int32)) (by decide)) ((v.1 0 48) + (1 : Int32)) (by decide)) ((((v.1 0 47) + (1 : Int32)) + (1 : Int32)) + (1 : Int32)) (by decide)) (((v.1 0 48) + (1 : Int32)) - (1 : Int32)) (by decide)) ((v.1 0 12).toNatClampNeg) r253 (by decide) (by decide)) ((v.1 0 12) + (1 : Int32)) (by decide))
                have kc259 : ∀ j : Nat, (j : Int) < (v.1 0 12).toInt → (u258.1 11) j = (v.1 11) j := by rw [hu259]; exact (fun (j9 : Nat) hj9 => (pk_un3 (a := (v.1 0 12).toInt) rfl (om_124c434723 zws) (om_4fe904e9bf hj9)))
                rw [← hu259] at hP hD
                refine lv_pop hx hb dX13_operand_306 rfl ?_
                refine lv_aload_n hx hb dX13_operand_307 rfl (lv_at hl 0 rfl) ?_
                refine lv_bipush (v := 115) hx hb dX13_operand_308 (by decide) ?_
                have q260 : (u258.1 0 12).toInt = (((v.1 0 12).toInt) + (1 : Int)) := by rw [hu259]; exact (show ((v.1 0 12) + (1 : Int32)).toInt = (((v.1 0 12).toInt) + (1 : Int)) from z257)
                refine cu_i (rn_V (n := 1) (As := [.int 115]) (rest := []) hx hb hml hown ht hKK hFx hP hD hS hA (c_m_emit l dC dI cI cB cZ cJ cR tb H.size ad N u258 (115 : Int32) (show 0 ≤ (u258.1 0 12).toInt ∧ (u258.1 0 12).toInt < 24000 from (om_fa1b810ce7 zws a237 q260))) tw_8 tw_9 (by decide +kernel) rfl rfl ⟨show 0 + 1 ≤ 40 * n + 9 from om_fd17f2e70e, show 8 + (2 + 11) + 0 ≤ 28 * (40 * n + 9) from om_4229287154⟩ (List.range (mW ad N cI cZ cJ u258).length) (rg_map _) (mW_nd _ _ _ _ _ _) rfl rfl rfl rfl hl.1 rfl (Nat.le_of_ble_eq_true rfl) dX13_operand_310 ⟨Nat.le_of_ble_eq_true rfl, Nat.le_of_ble_eq_true rfl⟩) hP hD hS hA (fun r263 u262 H locs hw261 hP hD hS => ?_)
                obtain ⟨rfl, rfl⟩ := hw261
                have z264 : ((u258.1 0 12) + (1 : Int32)).toInt = ((u258.1 0 12).toInt) + (1 : Int) := add_z rfl (show (1 : Int32).toInt = (1 : Int) by decide) (om_65cf0f3418 zws q260) (om_d9342d4a0b zws a237 q260)
                have hP : va_P (dC, dI) vwCl (mW ad N cI cZ cJ (wA (wA u258 11 ((u258.1 0 12).toNatClampNeg) (115 : Int32)) 0 12 ((u258.1 0 12) + (1 : Int32)))) H := hP
                have hD : va_D A (mW ad N cI cZ cJ (wA (wA u258 11 ((u258.1 0 12).toNatClampNeg) (115 : Int32)) 0 12 ((u258.1 0 12) + (1 : Int32)))) := hD
                refine tp_i (y := (u258.1 0 12)) (rfl) ?_
                refine W.widen (k := 0) (n := 0) (Nat.le_refl _) (Nat.le_refl _) ?_
                refine lv_pop hx hb dX13_operand_313 rfl ?_
                refine lv_aload_n hx hb dX13_operand_314 rfl (lv_at hl 0 rfl) ?_
                refine lv_bipush (v := 17) hx hb dX13_operand_315 (by decide) ?_
                refine lv_iconst (v := 0) hx hb dX13_operand_317 (by decide) ?_
                have q265 : (u258.1 0 15).toInt = (v.1 0 15).toInt := congrArg Int32.toInt (fr259.2.1 15 (by decide))
                refine cu_i (rn_V (n := 2) (As := [.int 17, .int 0]) (rest := []) hx hb hml hown ht hKK hFx hP hD hS hA (c_m_say l dC dI cI cB cZ cJ cR tb H.size ad N (wA (wA u258 11 ((u258.1 0 12).toNatClampNeg) (115 : Int32)) 0 12 ((u258.1 0 12) + (1 : Int32))) (17 : Int32) (0 : Int32) (show 0 ≤ (u258.1 0 15).toInt ∧ (u258.1 0 15).toInt < 16000 from (om_3d37f463d2 zos a237 q265))) tw_59 tw_60 (by decide +kernel) rfl rfl ⟨show 0 + 1 ≤ 40 * n + 9 from om_fd17f2e70e, show 8 + (3 + 11) + 0 ≤ 28 * (40 * n + 9) from om_e79917e237⟩ (List.range (mW ad N cI cZ cJ (wA (wA u258 11 ((u258.1 0 12).toNatClampNeg) (115 : Int32)) 0 12 ((u258.1 0 12) + (1 : Int32)))).length) (rg_map _) (mW_nd _ _ _ _ _ _) rfl rfl rfl rfl hl.1 rfl (Nat.le_of_ble_eq_true rfl) dX13_operand_318 ⟨Nat.le_of_ble_eq_true rfl, Nat.le_of_ble_eq_true rfl⟩) hP hD hS hA (fun r268 u267 H locs hw266 hP hD hS => ?_)
                obtain ⟨rfl, rfl⟩ := hw266
                have z269 : ((u258.1 0 15) + (1 : Int32)).toInt = ((u258.1 0 15).toInt) + (1 : Int) := add_z rfl (show (1 : Int32).toInt = (1 : Int) by decide) (om_b712bdc5c1 zos q265) (om_54f628431c zos a237 q265)
                have hP : va_P (dC, dI) vwCl (mW ad N cI cZ cJ (wA (wA (wA (wA (wA u258 11 ((u258.1 0 12).toNatClampNeg) (115 : Int32)) 0 12 ((u258.1 0 12) + (1 : Int32))) 13 ((u258.1 0 15).toNatClampNeg) (17 : Int32)) 14 ((u258.1 0 15).toNatClampNeg) (0 : Int32)) 0 15 ((u258.1 0 15) + (1 : Int32)))) H := hP
                have hD : va_D A (mW ad N cI cZ cJ (wA (wA (wA (wA (wA u258 11 ((u258.1 0 12).toNatClampNeg) (115 : Int32)) 0 12 ((u258.1 0 12) + (1 : Int32))) 13 ((u258.1 0 15).toNatClampNeg) (17 : Int32)) 14 ((u258.1 0 15).toNatClampNeg) (0 : Int32)) 0 15 ((u258.1 0 15) + (1 : Int32)))) := hD
                refine tp_i (y := (u258.1 0 15)) (rfl) ?_
                refine W.widen (k := 0) (n := 0) (Nat.le_refl _) (Nat.le_refl _) ?_
                refine lv_pop hx hb dX13_operand_321 rfl ?_
                refine lv_goto (tgt := 386) hx hb dX13_operand_322 (by decide) ?_
                have q270 : (u258.1 0 47).toInt = (((((v.1 0 47).toInt) + (1 : Int)) + (1 : Int)) + (1 : Int)) := by rw [hu259]; exact (show ((((v.1 0 47) + (1 : Int32)) + (1 : Int32)) + (1 : Int32)).toInt = (((((v.1 0 47).toInt) + (1 : Int)) + (1 : Int)) + (1 : Int)) from z249)
                have q271 : (u258.1 0 43).toInt = (v.1 0 43).toInt := congrArg Int32.toInt (fr259.2.1 43 (by decide))
                have q272 : (u258.1 0 39).toInt = (v.1 0 39).toInt := congrArg Int32.toInt (fr259.2.1 39 (by decide))
                have q273 : (u258.1 0 32).toInt = (v.1 0 32).toInt := congrArg Int32.toInt (fr259.2.1 32 (by decide))
                have q274 : (u258.1 0 48).toInt = ((((v.1 0 48).toInt) + (1 : Int)) - (1 : Int)) := by rw [hu259]; exact (show (((v.1 0 48) + (1 : Int32)) - (1 : Int32)).toInt = ((((v.1 0 48).toInt) + (1 : Int)) - (1 : Int)) from z250)
                have q275 : (u258.1 0 33).toInt = (v.1 0 33).toInt := congrArg Int32.toInt (fr259.2.1 33 (by decide))
                refine vx_ret ?_
                exact W.vret hx hb hr (fun t ht9 hW => ⟨⟨(wA (wA (wA (wA (wA u258 11 ((u258.1 0 12).toNatClampNeg) (115 : Int32)) 0 12 ((u258.1 0 12) + (1 : Int32))) 13 ((u258.1 0 15).toNatClampNeg) (17 : Int32)) 14 ((u258.1 0 15).toNatClampNeg) (0 : Int32)) 0 15 ((u258.1 0 15) + (1 : Int32))), rfl, ⟨(FG.f (FG.a (FG.a (FG.f (FG.a (FG.tr (FG.rf _) (FG.up fr259 (by decide) (by decide))) ((u258.1 0 12).toNatClampNeg) (115 : Int32) (by decide) (by decide)) ((u258.1 0 12) + (1 : Int32)) (by decide)) ((u258.1 0 15).toNatClampNeg) (17 : Int32) (by decide) (by decide)) ((u258.1 0 15).toNatClampNeg) (0 : Int32) (by decide) (by decide)) ((u258.1 0 15) + (1 : Int32)) (by decide)), (show (v.1 0 47).toInt + 1 ≤ (u258.1 0 47).toInt ∧ (u258.1 0 47).toInt ≤ 1500 from (om_6570133be4 z244 a246 q270)), (show (v.1 0 49).toInt ≠ (v.1 0 47).toInt from (om_32294a9ce4 b237)), (show (v.1 0 12).toInt ≤ ((u258.1 0 12) + (1 : Int32)).toInt ∧ ((u258.1 0 12) + (1 : Int32)).toInt - 15 * (u258.1 0 47).toInt ≤ (v.1 0 12).toInt - 15 * (v.1 0 47).toInt from (om_4902d2b3ad q260 q270 z264)), (show (v.1 0 15).toInt ≤ ((u258.1 0 15) + (1 : Int32)).toInt ∧ ((u258.1 0 15) + (1 : Int32)).toInt - 10 * (u258.1 0 47).toInt ≤ (v.1 0 15).toInt - 10 * (v.1 0 47).toInt from (om_b8d1f5abe6 q265 q270 z269)), (show (v.1 0 43).toInt ≤ (u258.1 0 43).toInt ∧ (u258.1 0 43).toInt - 15 * (u258.1 0 47).toInt ≤ (v.1 0 43).toInt - 15 * (v.1 0 47).toInt from (om_dd965030e3 q271 q270)), (show (v.1 0 39).toInt ≤ (u258.1 0 39).toInt ∧ (u258.1 0 39).toInt - 1 * (u258.1 0 47).toInt ≤ (v.1 0 39).toInt - 1 * (v.1 0 47).toInt from (om_60c0be4d9c q272 q270)), (show (u258.1 0 32).toInt = (v.1 0 32).toInt ∧ (u258.1 0 48).toInt = (v.1 0 48).toInt from (om_5f0879c10a q273 q274)), (show (v.1 0 33).toInt ≤ (u258.1 0 33).toInt ∧ (u258.1 0 33).toInt ≤ 500 from (om_bc6fc57d17 zhi q275)), (fun (j9 : Nat) hj9 => (Eq.trans (pk_un3 (a := (u258.1 0 12).toInt) rfl (om_87b637de41 zws q260) (om_caf7b1eac4 q260 hj9)) (kc259 j9 hj9))), (fun (j9 : Nat) hj9 => (Eq.trans (pk_un3 (a := (u258.1 0 15).toInt) rfl (om_f5f3e836e2 zos q265) (om_7a9921a7e5 q265 hj9)) (congrFun (fr259.2.2 13 (by decide)) j9))), (fun (j9 : Nat) hj9 => (Eq.trans (pk_un3 (a := (u258.1 0 15).toInt) rfl (om_f5f3e836e2 zos q265) (om_7a9921a7e5 q265 hj9)) (congrFun (fr259.2.2 14 (by decide)) j9))), (AR.o (AR.o (AR.o (AR.o (AR.o (show AR 35 0 1500 u258 from AR.fr (fl := [12, 47, 48]) (al := [0, 11]) fr259 (by decide) a35) (by decide)) (by decide)) (by decide)) (by decide)) (by decide)), (AR.o (AR.o (AR.o (AR.o (AR.o (show AR 37 0 23999 u258 from AR.fr (fl := [12, 47, 48]) (al := [0, 11]) fr259 (by decide) a37) (by decide)) (by decide)) (by decide)) (by decide)) (by decide)), (AR.o (AR.o (AR.o (AR.o (AR.o (show AR 38 0 15999 u258 from AR.fr (fl := [12, 47, 48]) (al := [0, 11]) fr259 (by decide) a38) (by decide)) (by decide)) (by decide)) (by decide)) (by decide)), (AR.o (AR.o (AR.o (AR.o (AR.o (show AR 40 0 23999 u258 from AR.fr (fl := [12, 47, 48]) (al := [0, 11]) fr259 (by decide) a40) (by decide)) (by decide)) (by decide)) (by decide)) (by decide)), (FX.o (FX.o (FX.o (FX.o (FX.o (show FX u258 from FX.fr (fl := [12, 47, 48]) (al := [0, 11]) fr259 (by decide) (by decide) fx) (by decide) (by decide)) (by decide) (by decide)) (by decide) (by decide)) (by decide) (by decide)) (by decide) (by decide))⟩, by rw [ht9]; exact hP, hD⟩, hS.F ht9⟩) hS.2.2 dX13_operand_386
            · have z276 : r203.toInt ≠ (0 : Int) := ne_z rfl (show (0 : Int32).toInt = (0 : Int) by decide) h204
              refine lv_aload_n hx hb dX13_operand_253 rfl (lv_at hl 0 rfl) ?_
              refine cux_v (rx_V (n := 0) (As := []) (rest := []) hx hb hml hown ht hKK hFx hP hD hS hA (c_m_opens l dC dI cI cB cZ cJ cR tb H.size ad N v  (show 0 ≤ (v.1 0 47).toInt ∧ (v.1 0 47).toInt ≤ 1500 from (om_2fb699b811 zt zfs)) (show 0 ≤ (v.1 0 48).toInt ∧ (v.1 0 48).toInt ≤ 40 from (om_7eaf33e007 zop))) tw_38 tw_39 (by decide +kernel) rfl rfl ⟨show 2 + 1 ≤ 40 * n + 9 from om_86eef57ede, show 8 + (1 + 11) + 42 ≤ 28 * (40 * n + 9) from om_750cfefb29⟩ (List.range (mW ad N cI cZ cJ v).length) (rg_map _) (mW_nd _ _ _ _ _ _) rfl rfl rfl rfl hl.1 rfl (Nat.le_of_ble_eq_true rfl) dX13_operand_254 ⟨Nat.le_of_ble_eq_true rfl, Nat.le_of_ble_eq_true rfl⟩) hP hD hS hA (fun u9 ce9 q9 H locs hx9 hP hD hS hc9 hv9 hf9 => ?_) (fun u278 H locs hw277 hP hD hS => ?_)
              · exact vx_out (fun x h9 => (hnt x h9).elim) hlocks hc9 hv9 hf9 (fun t9 ht9 hv8 => ⟨u9, (FG.tr (FG.rf _) hx9), ⟨rfl, by rw [ht9]; exact hP, hD⟩, hS.F ht9⟩) hS.2.2 (Nat.le_refl _) (Nat.le_refl _)
              obtain ⟨rfl, a277, b277, c277⟩ := hw277
              have z280 : ((v.1 0 47) + (1 : Int32)).toInt = ((v.1 0 47).toInt) + (1 : Int) := add_z rfl (show (1 : Int32).toInt = (1 : Int) by decide) (om_3eca9b17a5 zws) (om_27eb55d06c zt)
              have z281 : ((v.1 0 48) + (1 : Int32)).toInt = ((v.1 0 48).toInt) + (1 : Int) := add_z rfl (show (1 : Int32).toInt = (1 : Int) by decide) (om_c2418a9965 zop) (om_defb2a7457 zop)
              have hP : va_P (dC, dI) vwCl (mW ad N cI cZ cJ (wA (wA v 0 47 ((v.1 0 47) + (1 : Int32))) 0 48 ((v.1 0 48) + (1 : Int32)))) H := hP
              have hD : va_D A (mW ad N cI cZ cJ (wA (wA v 0 47 ((v.1 0 47) + (1 : Int32))) 0 48 ((v.1 0 48) + (1 : Int32)))) := hD
              refine W.widen (k := 0) (n := 0) (Nat.le_refl _) (Nat.le_refl _) ?_
              refine lv_aload_n hx hb dX13_operand_257 rfl (lv_at hl 0 rfl) ?_
              obtain ⟨n282, hn283⟩ : ∃ m, n = m + 1 := ex_z (om_78b28660f8 zn b277)
              refine cux_v (rx_V (n := 0) (As := []) (rest := []) hx hb hml hown ht hKK hFx hP hD hS hA (ihE n282 hn283 dC dI cI cB cZ cJ cR tb H.size ad N (wA (wA v 0 47 ((v.1 0 47) + (1 : Int32))) 0 48 ((v.1 0 48) + (1 : Int32)))  (show 40 ≤ ((v.1 0 48) + (1 : Int32)).toInt + (n282 : Int) from (om_43cb5bce6b zn z281 hn283)) (show 0 ≤ ((v.1 0 47) + (1 : Int32)).toInt ∧ ((v.1 0 47) + (1 : Int32)).toInt ≤ 1500 from (om_cae3a623a5 zfs z280 a277)) (show 0 ≤ ((v.1 0 48) + (1 : Int32)).toInt ∧ ((v.1 0 48) + (1 : Int32)).toInt ≤ 40 from (om_4c33377394 zop z281 b277)) (show 0 ≤ (v.1 0 30).toInt ∧ (v.1 0 30).toInt ≤ 500 from (om_9861e69da5 zkn)) (show 0 ≤ (v.1 0 33).toInt ∧ (v.1 0 33).toInt ≤ 500 from (om_9861e69da5 zhi)) (show 0 ≤ (v.1 0 32).toInt ∧ (v.1 0 30).toInt + (v.1 0 32).toInt ≤ (v.1 0 33).toInt from (om_f541e4003c zs)) (show 0 ≤ (v.1 0 12).toInt ∧ (v.1 0 12).toInt ≤ 15 * ((v.1 0 47) + (1 : Int32)).toInt + 2 from (om_3894ab1223 zws z280)) (show 0 ≤ (v.1 0 15).toInt ∧ (v.1 0 15).toInt ≤ 10 * ((v.1 0 47) + (1 : Int32)).toInt + 0 from (om_9a74738aa2 zos z280)) (show 0 ≤ (v.1 0 43).toInt ∧ (v.1 0 43).toInt ≤ 15 * ((v.1 0 47) + (1 : Int32)).toInt + 0 from (om_434df26a0f zfs z280)) (show 0 ≤ (v.1 0 39).toInt ∧ (v.1 0 39).toInt ≤ 1 * ((v.1 0 47) + (1 : Int32)).toInt + 0 from (om_3840c96ead zcs z280)) (show 0 ≤ (v.1 0 27).toInt ∧ (v.1 0 27).toInt ≤ 60 from (om_1d2c7ad648 zgl)) (show TI (wA (wA v 0 47 ((v.1 0 47) + (1 : Int32))) 0 48 ((v.1 0 48) + (1 : Int32))) from FG.ti (fl := pfl) (al := pal) (FG.f (FG.f (FG.rf _) ((v.1 0 47) + (1 : Int32)) (by decide)) ((v.1 0 48) + (1 : Int32)) (by decide)) (by decide) (by decide) hT) (show AR 29 0 1500 (wA (wA v 0 47 ((v.1 0 47) + (1 : Int32))) 0 48 ((v.1 0 48) + (1 : Int32))) from (AR.o (AR.o a29 (by decide)) (by decide))) (show AR 23 0 1500 (wA (wA v 0 47 ((v.1 0 47) + (1 : Int32))) 0 48 ((v.1 0 48) + (1 : Int32))) from (AR.o (AR.o a23 (by decide)) (by decide))) (show AR 35 0 1500 (wA (wA v 0 47 ((v.1 0 47) + (1 : Int32))) 0 48 ((v.1 0 48) + (1 : Int32))) from (AR.o (AR.o a35 (by decide)) (by decide))) (show AR 37 0 23999 (wA (wA v 0 47 ((v.1 0 47) + (1 : Int32))) 0 48 ((v.1 0 48) + (1 : Int32))) from (AR.o (AR.o a37 (by decide)) (by decide))) (show AR 38 0 15999 (wA (wA v 0 47 ((v.1 0 47) + (1 : Int32))) 0 48 ((v.1 0 48) + (1 : Int32))) from (AR.o (AR.o a38 (by decide)) (by decide))) (show AR 40 0 23999 (wA (wA v 0 47 ((v.1 0 47) + (1 : Int32))) 0 48 ((v.1 0 48) + (1 : Int32))) from (AR.o (AR.o a40 (by decide)) (by decide))) (show FX (wA (wA v 0 47 ((v.1 0 47) + (1 : Int32))) 0 48 ((v.1 0 48) + (1 : Int32))) from (FX.o (FX.o fx (by decide) (by decide)) (by decide) (by decide)))) tw_80 tw_81 (by decide +kernel) rfl rfl ⟨show (40 * n282 + 36) + 1 ≤ 40 * n + 9 from (om_4dfbc8dfb8 hn283), show 8 + (1 + 11) + 28 * (40 * n282 + 36) ≤ 28 * (40 * n + 9) from (om_553a1ca9ee hn283)⟩ (List.range (mW ad N cI cZ cJ (wA (wA v 0 47 ((v.1 0 47) + (1 : Int32))) 0 48 ((v.1 0 48) + (1 : Int32)))).length) (rg_map _) (mW_nd _ _ _ _ _ _) rfl rfl rfl rfl hl.1 rfl (Nat.le_of_ble_eq_true rfl) dX13_operand_258 ⟨Nat.le_of_ble_eq_true rfl, Nat.le_of_ble_eq_true rfl⟩) hP hD hS hA (fun u9 ce9 q9 H locs hx9 hP hD hS hc9 hv9 hf9 => ?_) (fun u285 H locs hw284 hP hD hS => ?_)
              · exact vx_out (fun x h9 => (hnt x h9).elim) hlocks hc9 hv9 hf9 (fun t9 ht9 hv8 => ⟨u9, (FG.tr (FG.f (FG.f (FG.rf _) ((v.1 0 47) + (1 : Int32)) (by decide)) ((v.1 0 48) + (1 : Int32)) (by decide)) hx9), ⟨rfl, by rw [ht9]; exact hP, hD⟩, hS.F ht9⟩) hS.2.2 (Nat.le_refl _) (Nat.le_refl _)
              obtain ⟨fr284, pt284, pb284, pw284, po284, pf284, pk284, pp284, ph284, kc284, ko284, kg284, a35284, a37284, a38284, a40284, fx284⟩ := hw284
              have pt284 : ((v.1 0 47) + (1 : Int32)).toInt + 1 ≤ (u285.1 0 47).toInt ∧ (u285.1 0 47).toInt ≤ 1500 := pt284
              have pb284 : (v.1 0 49).toInt ≠ ((v.1 0 47) + (1 : Int32)).toInt := pb284
              have pw284 : (v.1 0 12).toInt ≤ (u285.1 0 12).toInt ∧ (u285.1 0 12).toInt - 15 * (u285.1 0 47).toInt ≤ (v.1 0 12).toInt - 15 * ((v.1 0 47) + (1 : Int32)).toInt := pw284
              have po284 : (v.1 0 15).toInt ≤ (u285.1 0 15).toInt ∧ (u285.1 0 15).toInt - 10 * (u285.1 0 47).toInt ≤ (v.1 0 15).toInt - 10 * ((v.1 0 47) + (1 : Int32)).toInt := po284
              have pf284 : (v.1 0 43).toInt ≤ (u285.1 0 43).toInt ∧ (u285.1 0 43).toInt - 15 * (u285.1 0 47).toInt ≤ (v.1 0 43).toInt - 15 * ((v.1 0 47) + (1 : Int32)).toInt := pf284
              have pk284 : (v.1 0 39).toInt ≤ (u285.1 0 39).toInt ∧ (u285.1 0 39).toInt - 1 * (u285.1 0 47).toInt ≤ (v.1 0 39).toInt - 1 * ((v.1 0 47) + (1 : Int32)).toInt := pk284
              have pp284 : (u285.1 0 32).toInt = (v.1 0 32).toInt ∧ (u285.1 0 48).toInt = ((v.1 0 48) + (1 : Int32)).toInt := pp284
              have ph284 : (v.1 0 33).toInt ≤ (u285.1 0 33).toInt ∧ (u285.1 0 33).toInt ≤ 500 := ph284
              have kc284 : ∀ j : Nat, (j : Int) < (v.1 0 12).toInt → (u285.1 11) j = (v.1 11) j := kc284
              have ko284 : ∀ j : Nat, (j : Int) < (v.1 0 15).toInt → (u285.1 13) j = (v.1 13) j := ko284
              have kg284 : ∀ j : Nat, (j : Int) < (v.1 0 15).toInt → (u285.1 14) j = (v.1 14) j := kg284
              have a35284 : AR 35 0 1500 u285 := a35284
              have a37284 : AR 37 0 23999 u285 := a37284
              have a38284 : AR 38 0 15999 u285 := a38284
              have a40284 : AR 40 0 23999 u285 := a40284
              have fx284 : FX u285 := fx284
              refine W.widen (k := 0) (n := 0) (Nat.le_refl _) (Nat.le_refl _) ?_
              refine lv_aload_n hx hb dX13_operand_261 rfl (lv_at hl 0 rfl) ?_
              refine lv_bipush (v := 41) hx hb dX13_operand_262 (by decide) ?_
              refine cux_v (rx_V (n := 1) (As := [.int 41]) (rest := []) hx hb hml hown ht hKK hFx hP hD hS hA (c_m_close l dC dI cI cB cZ cJ cR tb H.size ad N u285 (41 : Int32) (show 0 ≤ (u285.1 0 47).toInt ∧ (u285.1 0 47).toInt ≤ 1500 from (om_f8d5b5379a zfs z280 pt284 pw284)) (show 0 ≤ (u285.1 0 48).toInt ∧ (u285.1 0 48).toInt ≤ 40 from (om_53f619227e zop z281 b277 pp284))) tw_82 tw_83 (by decide +kernel) rfl rfl ⟨show 3 + 1 ≤ 40 * n + 9 from om_6d05018a6e, show 8 + (2 + 11) + 64 ≤ 28 * (40 * n + 9) from om_fd9c2c6c65⟩ (List.range (mW ad N cI cZ cJ u285).length) (rg_map _) (mW_nd _ _ _ _ _ _) rfl rfl rfl rfl hl.1 rfl (Nat.le_of_ble_eq_true rfl) dX13_operand_264 ⟨Nat.le_of_ble_eq_true rfl, Nat.le_of_ble_eq_true rfl⟩) hP hD hS hA (fun u9 ce9 q9 H locs hx9 hP hD hS hc9 hv9 hf9 => ?_) (fun u288 H locs hw287 hP hD hS => ?_)
              · exact vx_out (fun x h9 => (hnt x h9).elim) hlocks hc9 hv9 hf9 (fun t9 ht9 hv8 => ⟨u9, (FG.tr (FG.tr (FG.f (FG.f (FG.rf _) ((v.1 0 47) + (1 : Int32)) (by decide)) ((v.1 0 48) + (1 : Int32)) (by decide)) (FG.up fr284 (by decide) (by decide))) hx9), ⟨rfl, by rw [ht9]; exact hP, hD⟩, hS.F ht9⟩) hS.2.2 (Nat.le_refl _) (Nat.le_refl _)
              obtain ⟨rfl, a287, c287⟩ := hw287
              have z290 : ((u285.1 0 47) + (1 : Int32)).toInt = ((u285.1 0 47).toInt) + (1 : Int) := add_z rfl (show (1 : Int32).toInt = (1 : Int) by decide) (om_5ca5acb3cb zws z280 pw284) (om_3c2140d515 pt284)
              have z291 : ((u285.1 0 48) - (1 : Int32)).toInt = ((u285.1 0 48).toInt) - (1 : Int) := sub_z rfl (show (1 : Int32).toInt = (1 : Int) by decide) (om_32962d0667 zop z281 pp284) (om_d0370bb848 z281 b277 pp284)
              have hP : va_P (dC, dI) vwCl (mW ad N cI cZ cJ (wA (wA u285 0 47 ((u285.1 0 47) + (1 : Int32))) 0 48 ((u285.1 0 48) - (1 : Int32)))) H := hP
              have hD : va_D A (mW ad N cI cZ cJ (wA (wA u285 0 47 ((u285.1 0 47) + (1 : Int32))) 0 48 ((u285.1 0 48) - (1 : Int32)))) := hD
              have a287 : (u285.1 0 47).toInt < 1500 := a287
              have c287 : (u285.1 0 49).toInt ≠ (u285.1 0 47).toInt := c287
              refine W.widen (k := 0) (n := 0) (Nat.le_refl _) (Nat.le_refl _) ?_
              refine lv_goto (tgt := 386) hx hb dX13_operand_267 (by decide) ?_
              refine vx_ret ?_
              exact W.vret hx hb hr (fun t ht9 hW => ⟨⟨(wA (wA u285 0 47 ((u285.1 0 47) + (1 : Int32))) 0 48 ((u285.1 0 48) - (1 : Int32))), rfl, ⟨(FG.f (FG.f (FG.tr (FG.f (FG.f (FG.rf _) ((v.1 0 47) + (1 : Int32)) (by decide)) ((v.1 0 48) + (1 : Int32)) (by decide)) (FG.up fr284 (by decide) (by decide))) ((u285.1 0 47) + (1 : Int32)) (by decide)) ((u285.1 0 48) - (1 : Int32)) (by decide)), (show (v.1 0 47).toInt + 1 ≤ ((u285.1 0 47) + (1 : Int32)).toInt ∧ ((u285.1 0 47) + (1 : Int32)).toInt ≤ 1500 from (om_05d8e7cb47 z280 pt284 z290 a287)), (show (v.1 0 49).toInt ≠ (v.1 0 47).toInt from (om_32294a9ce4 c277)), (show (v.1 0 12).toInt ≤ (u285.1 0 12).toInt ∧ (u285.1 0 12).toInt - 15 * ((u285.1 0 47) + (1 : Int32)).toInt ≤ (v.1 0 12).toInt - 15 * (v.1 0 47).toInt from (om_dbf5486fb7 z280 pw284 z290)), (show (v.1 0 15).toInt ≤ (u285.1 0 15).toInt ∧ (u285.1 0 15).toInt - 10 * ((u285.1 0 47) + (1 : Int32)).toInt ≤ (v.1 0 15).toInt - 10 * (v.1 0 47).toInt from (om_1011bbd17d z280 po284 z290)), (show (v.1 0 43).toInt ≤ (u285.1 0 43).toInt ∧ (u285.1 0 43).toInt - 15 * ((u285.1 0 47) + (1 : Int32)).toInt ≤ (v.1 0 43).toInt - 15 * (v.1 0 47).toInt from (om_dbf5486fb7 z280 pf284 z290)), (show (v.1 0 39).toInt ≤ (u285.1 0 39).toInt ∧ (u285.1 0 39).toInt - 1 * ((u285.1 0 47) + (1 : Int32)).toInt ≤ (v.1 0 39).toInt - 1 * (v.1 0 47).toInt from (om_5332a23ecb z280 pk284 z290)), (show (u285.1 0 32).toInt = (v.1 0 32).toInt ∧ ((u285.1 0 48) - (1 : Int32)).toInt = (v.1 0 48).toInt from (om_4a47b03b7f z281 pp284 z291)), (show (v.1 0 33).toInt ≤ (u285.1 0 33).toInt ∧ (u285.1 0 33).toInt ≤ 500 from (om_6bc0cea141 ph284)), (fun (j9 : Nat) hj9 => (kc284 j9 (om_4fe904e9bf hj9))), (fun (j9 : Nat) hj9 => (ko284 j9 (om_4fe904e9bf hj9))), (fun (j9 : Nat) hj9 => (kg284 j9 (om_4fe904e9bf hj9))), (AR.o (AR.o a35284 (by decide)) (by decide)), (AR.o (AR.o a37284 (by decide)) (by decide)), (AR.o (AR.o a38284 (by decide)) (by decide)), (AR.o (AR.o a40284 (by decide)) (by decide)), (FX.o (FX.o fx284 (by decide) (by decide)) (by decide) (by decide))⟩, by rw [ht9]; exact hP, hD⟩, hS.F ht9⟩) hS.2.2 dX13_operand_386
          · have z292 : r198.toInt ≠ (0 : Int) := ne_z rfl (show (0 : Int32).toInt = (0 : Int) by decide) h199
            refine lv_aload_n hx hb dX13_operand_126 rfl (lv_at hl 0 rfl) ?_
            refine va_get (D := (dC, dI)) (ci := 16) (fs := mF ad v) (v := .ref (ad 9)) (C := RX13) (T := TX13) (N := 124) hx hb ht itX13 hown hK hP 0 rfl rfl 9 (by decide) (ht _ tw_27) (fun _ h9 => h9) rfl dX13_operand_127 ?_
            refine lv_aload_n hx hb dX13_operand_130 rfl (lv_at hl 0 rfl) ?_
            refine va_get (D := (dC, dI)) (ci := 16) (fs := mF ad v) (v := .int (v.1 0 47)) (C := RX13) (T := TX13) (N := 124) hx hb ht itX13 hown hK hP 0 rfl rfl 47 (by decide) (ht _ tw_24) (fun _ h9 => h9) rfl dX13_operand_131 ?_
            refine va_lald (D := (dC, dI)) (f := v.2) hx hb hK hP 6 3 rfl rfl (in_y (a := (v.1 0 47).toInt) (b := 4002) rfl (om_e33521859d zfs) (om_449eb7e9bb zt) rfl) dX13_operand_134 ?_
            refine lv_l2i hx hb dX13_operand_135 rfl ?_
            refine lv_istore_n (lv' := [(1, .int ((v.2 (v.1 0 47).toNatClampNeg).toInt32)), (0, .ref (ad 0))]) hx hb dX13_operand_136 rfl hl (by decide) rfl (fun ls hl => ?_)
            refine lv_aload_n hx hb dX13_operand_137 rfl (lv_at hl 1 rfl) ?_
            refine cux_v (rx_V (n := 0) (As := []) (rest := []) hx hb hml hown ht hKK hFx hP hD hS hA (c_m_opens l dC dI cI cB cZ cJ cR tb H.size ad N v  (show 0 ≤ (v.1 0 47).toInt ∧ (v.1 0 47).toInt ≤ 1500 from (om_2fb699b811 zt zfs)) (show 0 ≤ (v.1 0 48).toInt ∧ (v.1 0 48).toInt ≤ 40 from (om_7eaf33e007 zop))) tw_38 tw_39 (by decide +kernel) rfl rfl ⟨show 2 + 1 ≤ 40 * n + 9 from om_86eef57ede, show 8 + (1 + 11) + 42 ≤ 28 * (40 * n + 9) from om_750cfefb29⟩ (List.range (mW ad N cI cZ cJ v).length) (rg_map _) (mW_nd _ _ _ _ _ _) rfl rfl rfl rfl hl.1 rfl (Nat.le_of_ble_eq_true rfl) dX13_operand_138 ⟨Nat.le_of_ble_eq_true rfl, Nat.le_of_ble_eq_true rfl⟩) hP hD hS hA (fun u9 ce9 q9 H locs hx9 hP hD hS hc9 hv9 hf9 => ?_) (fun u294 H locs hw293 hP hD hS => ?_)
            · exact vx_out (fun x h9 => (hnt x h9).elim) hlocks hc9 hv9 hf9 (fun t9 ht9 hv8 => ⟨u9, (FG.tr (FG.rf _) hx9), ⟨rfl, by rw [ht9]; exact hP, hD⟩, hS.F ht9⟩) hS.2.2 (Nat.le_refl _) (Nat.le_refl _)
            obtain ⟨rfl, a293, b293, c293⟩ := hw293
            have z296 : ((v.1 0 47) + (1 : Int32)).toInt = ((v.1 0 47).toInt) + (1 : Int) := add_z rfl (show (1 : Int32).toInt = (1 : Int) by decide) (om_3eca9b17a5 zws) (om_27eb55d06c zt)
            have z297 : ((v.1 0 48) + (1 : Int32)).toInt = ((v.1 0 48).toInt) + (1 : Int) := add_z rfl (show (1 : Int32).toInt = (1 : Int) by decide) (om_c2418a9965 zop) (om_defb2a7457 zop)
            have hP : va_P (dC, dI) vwCl (mW ad N cI cZ cJ (wA (wA v 0 47 ((v.1 0 47) + (1 : Int32))) 0 48 ((v.1 0 48) + (1 : Int32)))) H := hP
            have hD : va_D A (mW ad N cI cZ cJ (wA (wA v 0 47 ((v.1 0 47) + (1 : Int32))) 0 48 ((v.1 0 48) + (1 : Int32)))) := hD
            refine W.widen (k := 0) (n := 0) (Nat.le_refl _) (Nat.le_refl _) ?_
            refine lv_aload_n hx hb dX13_operand_141 rfl (lv_at hl 1 rfl) ?_
            obtain ⟨n298, hn299⟩ : ∃ m, n = m + 1 := ex_z (om_78b28660f8 zn b293)
            refine cux_v (rx_V (n := 0) (As := []) (rest := []) hx hb hml hown ht hKK hFx hP hD hS hA (ihO n298 hn299 dC dI cI cB cZ cJ cR tb H.size ad N (wA (wA v 0 47 ((v.1 0 47) + (1 : Int32))) 0 48 ((v.1 0 48) + (1 : Int32)))  (show 40 ≤ ((v.1 0 48) + (1 : Int32)).toInt + (n298 : Int) from (om_43cb5bce6b zn z297 hn299)) (show 0 ≤ ((v.1 0 47) + (1 : Int32)).toInt ∧ ((v.1 0 47) + (1 : Int32)).toInt ≤ 1500 from (om_cae3a623a5 zfs z296 a293)) (show 0 ≤ ((v.1 0 48) + (1 : Int32)).toInt ∧ ((v.1 0 48) + (1 : Int32)).toInt ≤ 40 from (om_4c33377394 zop z297 b293)) (show 0 ≤ (v.1 0 30).toInt ∧ (v.1 0 30).toInt ≤ 500 from (om_9861e69da5 zkn)) (show 0 ≤ (v.1 0 33).toInt ∧ (v.1 0 33).toInt ≤ 500 from (om_9861e69da5 zhi)) (show 0 ≤ (v.1 0 32).toInt ∧ (v.1 0 30).toInt + (v.1 0 32).toInt ≤ (v.1 0 33).toInt from (om_f541e4003c zs)) (show 0 ≤ (v.1 0 12).toInt ∧ (v.1 0 12).toInt ≤ 15 * ((v.1 0 47) + (1 : Int32)).toInt + 2 from (om_3894ab1223 zws z296)) (show 0 ≤ (v.1 0 15).toInt ∧ (v.1 0 15).toInt ≤ 10 * ((v.1 0 47) + (1 : Int32)).toInt + 0 from (om_9a74738aa2 zos z296)) (show 0 ≤ (v.1 0 43).toInt ∧ (v.1 0 43).toInt ≤ 15 * ((v.1 0 47) + (1 : Int32)).toInt + 0 from (om_434df26a0f zfs z296)) (show 0 ≤ (v.1 0 39).toInt ∧ (v.1 0 39).toInt ≤ 1 * ((v.1 0 47) + (1 : Int32)).toInt + 0 from (om_3840c96ead zcs z296)) (show 0 ≤ (v.1 0 27).toInt ∧ (v.1 0 27).toInt ≤ 60 from (om_1d2c7ad648 zgl)) (show TI (wA (wA v 0 47 ((v.1 0 47) + (1 : Int32))) 0 48 ((v.1 0 48) + (1 : Int32))) from FG.ti (fl := pfl) (al := pal) (FG.f (FG.f (FG.rf _) ((v.1 0 47) + (1 : Int32)) (by decide)) ((v.1 0 48) + (1 : Int32)) (by decide)) (by decide) (by decide) hT) (show AR 29 0 1500 (wA (wA v 0 47 ((v.1 0 47) + (1 : Int32))) 0 48 ((v.1 0 48) + (1 : Int32))) from (AR.o (AR.o a29 (by decide)) (by decide))) (show AR 23 0 1500 (wA (wA v 0 47 ((v.1 0 47) + (1 : Int32))) 0 48 ((v.1 0 48) + (1 : Int32))) from (AR.o (AR.o a23 (by decide)) (by decide))) (show AR 35 0 1500 (wA (wA v 0 47 ((v.1 0 47) + (1 : Int32))) 0 48 ((v.1 0 48) + (1 : Int32))) from (AR.o (AR.o a35 (by decide)) (by decide))) (show AR 37 0 23999 (wA (wA v 0 47 ((v.1 0 47) + (1 : Int32))) 0 48 ((v.1 0 48) + (1 : Int32))) from (AR.o (AR.o a37 (by decide)) (by decide))) (show AR 38 0 15999 (wA (wA v 0 47 ((v.1 0 47) + (1 : Int32))) 0 48 ((v.1 0 48) + (1 : Int32))) from (AR.o (AR.o a38 (by decide)) (by decide))) (show AR 40 0 23999 (wA (wA v 0 47 ((v.1 0 47) + (1 : Int32))) 0 48 ((v.1 0 48) + (1 : Int32))) from (AR.o (AR.o a40 (by decide)) (by decide))) (show FX (wA (wA v 0 47 ((v.1 0 47) + (1 : Int32))) 0 48 ((v.1 0 48) + (1 : Int32))) from (FX.o (FX.o fx (by decide) (by decide)) (by decide) (by decide)))) tw_114 tw_115 (by decide +kernel) rfl rfl ⟨show (40 * n298 + 9) + 1 ≤ 40 * n + 9 from (om_d13994734d hn299), show 8 + (2 + 11) + 28 * (40 * n298 + 9) ≤ 28 * (40 * n + 9) from (om_7349e8fe6d hn299)⟩ (List.range (mW ad N cI cZ cJ (wA (wA v 0 47 ((v.1 0 47) + (1 : Int32))) 0 48 ((v.1 0 48) + (1 : Int32)))).length) (rg_map _) (mW_nd _ _ _ _ _ _) rfl rfl rfl rfl hl.1 rfl (Nat.le_of_ble_eq_true rfl) dX13_operand_142 ⟨Nat.le_of_ble_eq_true rfl, Nat.le_of_ble_eq_true rfl⟩) hP hD hS hA (fun u9 ce9 q9 H locs hx9 hP hD hS hc9 hv9 hf9 => ?_) (fun u301 H locs hw300 hP hD hS => ?_)
            · exact vx_out (fun x h9 => (hnt x h9).elim) hlocks hc9 hv9 hf9 (fun t9 ht9 hv8 => ⟨u9, (FG.tr (FG.f (FG.f (FG.rf _) ((v.1 0 47) + (1 : Int32)) (by decide)) ((v.1 0 48) + (1 : Int32)) (by decide)) hx9), ⟨rfl, by rw [ht9]; exact hP, hD⟩, hS.F ht9⟩) hS.2.2 (Nat.le_refl _) (Nat.le_refl _)
            obtain ⟨fr300, pt300, pb300, pw300, po300, pf300, pk300, pp300, ph300, kc300, ko300, kg300, a35300, a37300, a38300, a40300, fx300⟩ := hw300
            have pt300 : ((v.1 0 47) + (1 : Int32)).toInt + 1 ≤ (u301.1 0 47).toInt ∧ (u301.1 0 47).toInt ≤ 1500 := pt300
            have pb300 : (v.1 0 49).toInt ≠ ((v.1 0 47) + (1 : Int32)).toInt := pb300
            have pw300 : (v.1 0 12).toInt ≤ (u301.1 0 12).toInt ∧ (u301.1 0 12).toInt - 15 * (u301.1 0 47).toInt ≤ (v.1 0 12).toInt - 15 * ((v.1 0 47) + (1 : Int32)).toInt := pw300
            have po300 : (v.1 0 15).toInt ≤ (u301.1 0 15).toInt ∧ (u301.1 0 15).toInt - 10 * (u301.1 0 47).toInt ≤ (v.1 0 15).toInt - 10 * ((v.1 0 47) + (1 : Int32)).toInt := po300
            have pf300 : (v.1 0 43).toInt ≤ (u301.1 0 43).toInt ∧ (u301.1 0 43).toInt - 15 * (u301.1 0 47).toInt ≤ (v.1 0 43).toInt - 15 * ((v.1 0 47) + (1 : Int32)).toInt := pf300
            have pk300 : (v.1 0 39).toInt ≤ (u301.1 0 39).toInt ∧ (u301.1 0 39).toInt - 1 * (u301.1 0 47).toInt ≤ (v.1 0 39).toInt - 1 * ((v.1 0 47) + (1 : Int32)).toInt := pk300
            have pp300 : (u301.1 0 32).toInt = (v.1 0 32).toInt ∧ (u301.1 0 48).toInt = ((v.1 0 48) + (1 : Int32)).toInt := pp300
            have ph300 : (v.1 0 33).toInt ≤ (u301.1 0 33).toInt ∧ (u301.1 0 33).toInt ≤ 500 := ph300
            have kc300 : ∀ j : Nat, (j : Int) < (v.1 0 12).toInt → (u301.1 11) j = (v.1 11) j := kc300
            have ko300 : ∀ j : Nat, (j : Int) < (v.1 0 15).toInt → (u301.1 13) j = (v.1 13) j := ko300
            have kg300 : ∀ j : Nat, (j : Int) < (v.1 0 15).toInt → (u301.1 14) j = (v.1 14) j := kg300
            have a35300 : AR 35 0 1500 u301 := a35300
            have a37300 : AR 37 0 23999 u301 := a37300
            have a38300 : AR 38 0 15999 u301 := a38300
            have a40300 : AR 40 0 23999 u301 := a40300
            have fx300 : FX u301 := fx300
            refine W.widen (k := 0) (n := 0) (Nat.le_refl _) (Nat.le_refl _) ?_
            refine lv_aload_n hx hb dX13_operand_145 rfl (lv_at hl 1 rfl) ?_
            refine lv_dup hx hb dX13_operand_146 rfl ?_
            refine va_get (D := (dC, dI)) (ci := 16) (fs := mF ad u301) (v := .int (u301.1 0 48)) (C := RX13) (T := TX13) (N := 124) hx hb ht itX13 hown hK hP 0 rfl rfl 48 (by decide) (ht _ tw_31) (fun _ h9 => h9) rfl dX13_operand_147 ?_
            refine lv_iconst (v := 1) hx hb dX13_operand_150 (by decide) ?_
            refine lv_isub hx hb dX13_operand_151 ?_
            have z303 : ((u301.1 0 48) - (1 : Int32)).toInt = ((u301.1 0 48).toInt) - (1 : Int) := sub_z rfl (show (1 : Int32).toInt = (1 : Int) by decide) (om_32962d0667 zop z297 pp300) (om_d0370bb848 z297 b293 pp300)
            refine va_put (D := (dC, dI)) (ci := 16) (fs := mF ad u301) (v := .int ((u301.1 0 48) - (1 : Int32))) (ty := .int) (C := RX13) (T := TX13) (N := 124) hx hb ht itX13 tyX13 tyX13_ok nmX13 hown hK hP hD hS 0 rfl rfl 48 (by decide) (ht _ tw_31) (fun _ h9 => h9) rfl (by decide +kernel) rfl rfl (Nat.le_of_ble_eq_true rfl) dX13_operand_152 (fun H locs hP hD hS => ?_)
            have hP := cP_ (mw_48 ad N cI cZ cJ u301 ((u301.1 0 48) - (1 : Int32))) hP
            have hD := cD_ (mw_48 ad N cI cZ cJ u301 ((u301.1 0 48) - (1 : Int32))) hD
            refine lv_aload_n hx hb dX13_operand_155 rfl (lv_at hl 1 rfl) ?_
            refine lv_iload_n hx hb dX13_operand_156 rfl (lv_at hl 0 rfl) ?_
            refine lv_bipush (v := 45) hx hb dX13_operand_157 (by decide) ?_
            refine lv_icmp_ne (tgt := 176) hx hb dX13_operand_159 (by decide) (fun h304 => ?_) (fun h304 => ?_)
            · have z305 : ((v.2 (v.1 0 47).toNatClampNeg).toInt32).toInt ≠ (45 : Int) := ne_z rfl (show (45 : Int32).toInt = (45 : Int) by decide) h304
              refine lv_iload_n hx hb dX13_operand_176 rfl (lv_at hl 0 rfl) ?_
              refine lv_bipush (v := 33) hx hb dX13_operand_177 (by decide) ?_
              refine lv_icmp_ne (tgt := 196) hx hb dX13_operand_179 (by decide) (fun h306 => ?_) (fun h306 => ?_)
              · have z307 : ((v.2 (v.1 0 47).toNatClampNeg).toInt32).toInt ≠ (33 : Int) := ne_z rfl (show (33 : Int32).toInt = (33 : Int) by decide) h306
                refine lv_bipush (v := 19) hx hb dX13_operand_196 (by decide) ?_
                refine lv_iconst (v := 4) hx hb dX13_operand_198 (by decide) ?_
                refine lv_bipush (v := 10) hx hb dX13_operand_199 (by decide) ?_
                refine lv_bipush (v := 10) hx hb dX13_operand_201 (by decide) ?_
                refine lv_iconst (v := -1) hx hb dX13_operand_203 (by decide) ?_
                refine cu_s (mW_nd _ _ _ _ _ _) (rn_S (n := 5) (As := [.int 19, .int 4, .int 10, .int 10, .int (-1)]) (rest := [.ref (ad 0)]) hx hb hml hown ht hKK hFx hP hD hS hA (c_m_byI l dC dI cI cB cZ cJ cR tb H.size (19 : Int32) (4 : Int32) (10 : Int32) (10 : Int32) (-1 : Int32) ) tw_2 tw_3 (by decide +kernel) rfl rfl ⟨show 0 + 1 ≤ 40 * n + 9 from om_fd17f2e70e, show 8 + (5 + 11) + 0 ≤ 28 * (40 * n + 9) from om_4dd6cddcce⟩ [] rfl rfl rfl hl.1 rfl (Nat.le_of_ble_eq_true rfl) dX13_operand_204 ⟨Nat.le_of_ble_eq_true rfl, Nat.le_of_ble_eq_true rfl⟩) hP hD hS hA (fun r310 H locs hw308 hP hD hS => ?_)
                refine W.widen (k := 0) (n := 0) (Nat.le_refl _) (Nat.le_refl _) ?_
                refine cu_i (rn_V (n := 1) (As := [.int r310]) (rest := []) hx hb hml hown ht hKK hFx hP hD hS hA (c_m_emit l dC dI cI cB cZ cJ cR tb H.size ad N (wA u301 0 48 ((u301.1 0 48) - (1 : Int32))) r310 (show 0 ≤ (u301.1 0 12).toInt ∧ (u301.1 0 12).toInt < 24000 from (om_6ad570a484 zws z296 pt300 pw300))) tw_8 tw_9 (by decide +kernel) rfl rfl ⟨show 0 + 1 ≤ 40 * n + 9 from om_fd17f2e70e, show 8 + (2 + 11) + 0 ≤ 28 * (40 * n + 9) from om_4229287154⟩ (List.range (mW ad N cI cZ cJ (wA u301 0 48 ((u301.1 0 48) - (1 : Int32)))).length) (rg_map _) (mW_nd _ _ _ _ _ _) rfl rfl rfl rfl hl.1 rfl (Nat.le_of_ble_eq_true rfl) dX13_operand_207 ⟨Nat.le_of_ble_eq_true rfl, Nat.le_of_ble_eq_true rfl⟩) hP hD hS hA (fun r313 u312 H locs hw311 hP hD hS => ?_)
                obtain ⟨rfl, rfl⟩ := hw311
                have z314 : ((u301.1 0 12) + (1 : Int32)).toInt = ((u301.1 0 12).toInt) + (1 : Int) := add_z rfl (show (1 : Int32).toInt = (1 : Int) by decide) (om_6ad47c49ef zws pw300) (om_99b5e8925f zws z296 pt300 pw300)
                have hP : va_P (dC, dI) vwCl (mW ad N cI cZ cJ (wA (wA (wA u301 0 48 ((u301.1 0 48) - (1 : Int32))) 11 ((u301.1 0 12).toNatClampNeg) r310) 0 12 ((u301.1 0 12) + (1 : Int32)))) H := hP
                have hD : va_D A (mW ad N cI cZ cJ (wA (wA (wA u301 0 48 ((u301.1 0 48) - (1 : Int32))) 11 ((u301.1 0 12).toNatClampNeg) r310) 0 12 ((u301.1 0 12) + (1 : Int32)))) := hD
                refine tp_i (y := (u301.1 0 12)) (rfl) ?_
                refine W.widen (k := 0) (n := 0) (Nat.le_refl _) (Nat.le_refl _) ?_
                refine lv_pop hx hb dX13_operand_210 rfl ?_
                refine lv_aload_n hx hb dX13_operand_211 rfl (lv_at hl 1 rfl) ?_
                refine lv_iload_n hx hb dX13_operand_212 rfl (lv_at hl 0 rfl) ?_
                refine lv_bipush (v := 45) hx hb dX13_operand_213 (by decide) ?_
                refine lv_icmp_ne (tgt := 223) hx hb dX13_operand_215 (by decide) (fun h315 => ?_) (fun h315 => ?_)
                · have z316 : ((v.2 (v.1 0 47).toNatClampNeg).toInt32).toInt ≠ (45 : Int) := ne_z rfl (show (45 : Int32).toInt = (45 : Int) by decide) h315
                  refine lv_iload_n hx hb dX13_operand_223 rfl (lv_at hl 0 rfl) ?_
                  refine lv_bipush (v := 33) hx hb dX13_operand_224 (by decide) ?_
                  refine lv_icmp_ne (tgt := 234) hx hb dX13_operand_226 (by decide) (fun h317 => ?_) (fun h317 => ?_)
                  · have z318 : ((v.2 (v.1 0 47).toNatClampNeg).toInt32).toInt ≠ (33 : Int) := ne_z rfl (show (33 : Int32).toInt = (33 : Int) by decide) h317
                    refine lv_bipush (v := 20) hx hb dX13_operand_234 (by decide) ?_
                    refine lv_iconst (v := 0) hx hb dX13_operand_236 (by decide) ?_
                    refine cu_i (rn_V (n := 2) (As := [.int 20, .int 0]) (rest := []) hx hb hml hown ht hKK hFx hP hD hS hA (c_m_say l dC dI cI cB cZ cJ cR tb H.size ad N (wA (wA (wA u301 0 48 ((u301.1 0 48) - (1 : Int32))) 11 ((u301.1 0 12).toNatClampNeg) r310) 0 12 ((u301.1 0 12) + (1 : Int32))) (20 : Int32) (0 : Int32) (show 0 ≤ (u301.1 0 15).toInt ∧ (u301.1 0 15).toInt < 16000 from (om_ab4ad5e078 zos z296 pt300 po300))) tw_59 tw_60 (by decide +kernel) rfl rfl ⟨show 0 + 1 ≤ 40 * n + 9 from om_fd17f2e70e, show 8 + (3 + 11) + 0 ≤ 28 * (40 * n + 9) from om_e79917e237⟩ (List.range (mW ad N cI cZ cJ (wA (wA (wA u301 0 48 ((u301.1 0 48) - (1 : Int32))) 11 ((u301.1 0 12).toNatClampNeg) r310) 0 12 ((u301.1 0 12) + (1 : Int32)))).length) (rg_map _) (mW_nd _ _ _ _ _ _) rfl rfl rfl rfl hl.1 rfl (Nat.le_of_ble_eq_true rfl) dX13_operand_237 ⟨Nat.le_of_ble_eq_true rfl, Nat.le_of_ble_eq_true rfl⟩) hP hD hS hA (fun r321 u320 H locs hw319 hP hD hS => ?_)
                    obtain ⟨rfl, rfl⟩ := hw319
                    have z322 : ((u301.1 0 15) + (1 : Int32)).toInt = ((u301.1 0 15).toInt) + (1 : Int) := add_z rfl (show (1 : Int32).toInt = (1 : Int) by decide) (om_436cd0d872 zos po300) (om_4b3fea160f zos z296 pt300 po300)
                    have hP : va_P (dC, dI) vwCl (mW ad N cI cZ cJ (wA (wA (wA (wA (wA (wA u301 0 48 ((u301.1 0 48) - (1 : Int32))) 11 ((u301.1 0 12).toNatClampNeg) r310) 0 12 ((u301.1 0 12) + (1 : Int32))) 13 ((u301.1 0 15).toNatClampNeg) (20 : Int32)) 14 ((u301.1 0 15).toNatClampNeg) (0 : Int32)) 0 15 ((u301.1 0 15) + (1 : Int32)))) H := hP
                    have hD : va_D A (mW ad N cI cZ cJ (wA (wA (wA (wA (wA (wA u301 0 48 ((u301.1 0 48) - (1 : Int32))) 11 ((u301.1 0 12).toNatClampNeg) r310) 0 12 ((u301.1 0 12) + (1 : Int32))) 13 ((u301.1 0 15).toNatClampNeg) (20 : Int32)) 14 ((u301.1 0 15).toNatClampNeg) (0 : Int32)) 0 15 ((u301.1 0 15) + (1 : Int32)))) := hD
                    refine tp_i (y := (u301.1 0 15)) (rfl) ?_
                    refine W.widen (k := 0) (n := 0) (Nat.le_refl _) (Nat.le_refl _) ?_
                    refine lv_pop hx hb dX13_operand_240 rfl ?_
                    refine lv_goto (tgt := 386) hx hb dX13_operand_241 (by decide) ?_
                    refine vx_ret ?_
                    exact W.vret hx hb hr (fun t ht9 hW => ⟨⟨(wA (wA (wA (wA (wA (wA u301 0 48 ((u301.1 0 48) - (1 : Int32))) 11 ((u301.1 0 12).toNatClampNeg) r310) 0 12 ((u301.1 0 12) + (1 : Int32))) 13 ((u301.1 0 15).toNatClampNeg) (20 : Int32)) 14 ((u301.1 0 15).toNatClampNeg) (0 : Int32)) 0 15 ((u301.1 0 15) + (1 : Int32))), rfl, ⟨(FG.f (FG.a (FG.a (FG.f (FG.a (FG.f (FG.tr (FG.f (FG.f (FG.rf _) ((v.1 0 47) + (1 : Int32)) (by decide)) ((v.1 0 48) + (1 : Int32)) (by decide)) (FG.up fr300 (by decide) (by decide))) ((u301.1 0 48) - (1 : Int32)) (by decide)) ((u301.1 0 12).toNatClampNeg) r310 (by decide) (by decide)) ((u301.1 0 12) + (1 : Int32)) (by decide)) ((u301.1 0 15).toNatClampNeg) (20 : Int32) (by decide) (by decide)) ((u301.1 0 15).toNatClampNeg) (0 : Int32) (by decide) (by decide)) ((u301.1 0 15) + (1 : Int32)) (by decide)), (show (v.1 0 47).toInt + 1 ≤ (u301.1 0 47).toInt ∧ (u301.1 0 47).toInt ≤ 1500 from (om_ff8aa832bb z296 pt300)), (show (v.1 0 49).toInt ≠ (v.1 0 47).toInt from (om_32294a9ce4 c293)), (show (v.1 0 12).toInt ≤ ((u301.1 0 12) + (1 : Int32)).toInt ∧ ((u301.1 0 12) + (1 : Int32)).toInt - 15 * (u301.1 0 47).toInt ≤ (v.1 0 12).toInt - 15 * (v.1 0 47).toInt from (om_7d9f5eca64 z296 pw300 z314)), (show (v.1 0 15).toInt ≤ ((u301.1 0 15) + (1 : Int32)).toInt ∧ ((u301.1 0 15) + (1 : Int32)).toInt - 10 * (u301.1 0 47).toInt ≤ (v.1 0 15).toInt - 10 * (v.1 0 47).toInt from (om_e3c4ffe5ce z296 po300 z322)), (show (v.1 0 43).toInt ≤ (u301.1 0 43).toInt ∧ (u301.1 0 43).toInt - 15 * (u301.1 0 47).toInt ≤ (v.1 0 43).toInt - 15 * (v.1 0 47).toInt from (om_48209a9386 z296 pf300)), (show (v.1 0 39).toInt ≤ (u301.1 0 39).toInt ∧ (u301.1 0 39).toInt - 1 * (u301.1 0 47).toInt ≤ (v.1 0 39).toInt - 1 * (v.1 0 47).toInt from (om_df731194be z296 pk300)), (show (u301.1 0 32).toInt = (v.1 0 32).toInt ∧ ((u301.1 0 48) - (1 : Int32)).toInt = (v.1 0 48).toInt from (om_4a47b03b7f z297 pp300 z303)), (show (v.1 0 33).toInt ≤ (u301.1 0 33).toInt ∧ (u301.1 0 33).toInt ≤ 500 from (om_6bc0cea141 ph300)), (fun (j9 : Nat) hj9 => (Eq.trans (pk_un3 (a := (u301.1 0 12).toInt) rfl (om_1ce1b92b31 zws pw300) (om_e81726c0b3 pw300 hj9)) (kc300 j9 (om_4fe904e9bf hj9)))), (fun (j9 : Nat) hj9 => (Eq.trans (pk_un3 (a := (u301.1 0 15).toInt) rfl (om_4b760a59ba zos po300) (om_24f6a8216f po300 hj9)) (ko300 j9 (om_4fe904e9bf hj9)))), (fun (j9 : Nat) hj9 => (Eq.trans (pk_un3 (a := (u301.1 0 15).toInt) rfl (om_4b760a59ba zos po300) (om_24f6a8216f po300 hj9)) (kg300 j9 (om_4fe904e9bf hj9)))), (AR.o (AR.o (AR.o (AR.o (AR.o (AR.o a35300 (by decide)) (by decide)) (by decide)) (by decide)) (by decide)) (by decide)), (AR.o (AR.o (AR.o (AR.o (AR.o (AR.o a37300 (by decide)) (by decide)) (by decide)) (by decide)) (by decide)) (by decide)), (AR.o (AR.o (AR.o (AR.o (AR.o (AR.o a38300 (by decide)) (by decide)) (by decide)) (by decide)) (by decide)) (by decide)), (AR.o (AR.o (AR.o (AR.o (AR.o (AR.o a40300 (by decide)) (by decide)) (by decide)) (by decide)) (by decide)) (by decide)), (FX.o (FX.o (FX.o (FX.o (FX.o (FX.o fx300 (by decide) (by decide)) (by decide) (by decide)) (by decide) (by decide)) (by decide) (by decide)) (by decide) (by decide)) (by decide) (by decide))⟩, by rw [ht9]; exact hP, hD⟩, hS.F ht9⟩) hS.2.2 dX13_operand_386
                  · have z323 : ((v.2 (v.1 0 47).toNatClampNeg).toInt32).toInt = (33 : Int) := eq_z rfl (show (33 : Int32).toInt = (33 : Int) by decide) h317
                    exact False.elim (om_9d9908e07d z307 z323)
                · have z324 : ((v.2 (v.1 0 47).toNatClampNeg).toInt32).toInt = (45 : Int) := eq_z rfl (show (45 : Int32).toInt = (45 : Int) by decide) h315
                  exact False.elim (om_aab5508d07 z305 z324)
              · have z325 : ((v.2 (v.1 0 47).toNatClampNeg).toInt32).toInt = (33 : Int) := eq_z rfl (show (33 : Int32).toInt = (33 : Int) by decide) h306
                refine lv_bipush (v := 19) hx hb dX13_operand_182 (by decide) ?_
                refine lv_iconst (v := 3) hx hb dX13_operand_184 (by decide) ?_
                refine lv_bipush (v := 10) hx hb dX13_operand_185 (by decide) ?_
                refine lv_bipush (v := 10) hx hb dX13_operand_187 (by decide) ?_
                refine lv_iconst (v := 1) hx hb dX13_operand_189 (by decide) ?_
                refine cu_s (mW_nd _ _ _ _ _ _) (rn_S (n := 5) (As := [.int 19, .int 3, .int 10, .int 10, .int 1]) (rest := [.ref (ad 0)]) hx hb hml hown ht hKK hFx hP hD hS hA (c_m_byI l dC dI cI cB cZ cJ cR tb H.size (19 : Int32) (3 : Int32) (10 : Int32) (10 : Int32) (1 : Int32) ) tw_2 tw_3 (by decide +kernel) rfl rfl ⟨show 0 + 1 ≤ 40 * n + 9 from om_fd17f2e70e, show 8 + (5 + 11) + 0 ≤ 28 * (40 * n + 9) from om_4dd6cddcce⟩ [] rfl rfl rfl hl.1 rfl (Nat.le_of_ble_eq_true rfl) dX13_operand_190 ⟨Nat.le_of_ble_eq_true rfl, Nat.le_of_ble_eq_true rfl⟩) hP hD hS hA (fun r328 H locs hw326 hP hD hS => ?_)
                refine W.widen (k := 0) (n := 0) (Nat.le_refl _) (Nat.le_refl _) ?_
                refine lv_goto (tgt := 207) hx hb dX13_operand_193 (by decide) ?_
                refine cu_i (rn_V (n := 1) (As := [.int r328]) (rest := []) hx hb hml hown ht hKK hFx hP hD hS hA (c_m_emit l dC dI cI cB cZ cJ cR tb H.size ad N (wA u301 0 48 ((u301.1 0 48) - (1 : Int32))) r328 (show 0 ≤ (u301.1 0 12).toInt ∧ (u301.1 0 12).toInt < 24000 from (om_6ad570a484 zws z296 pt300 pw300))) tw_8 tw_9 (by decide +kernel) rfl rfl ⟨show 0 + 1 ≤ 40 * n + 9 from om_fd17f2e70e, show 8 + (2 + 11) + 0 ≤ 28 * (40 * n + 9) from om_4229287154⟩ (List.range (mW ad N cI cZ cJ (wA u301 0 48 ((u301.1 0 48) - (1 : Int32)))).length) (rg_map _) (mW_nd _ _ _ _ _ _) rfl rfl rfl rfl hl.1 rfl (Nat.le_of_ble_eq_true rfl) dX13_operand_207 ⟨Nat.le_of_ble_eq_true rfl, Nat.le_of_ble_eq_true rfl⟩) hP hD hS hA (fun r331 u330 H locs hw329 hP hD hS => ?_)
                obtain ⟨rfl, rfl⟩ := hw329
                have z332 : ((u301.1 0 12) + (1 : Int32)).toInt = ((u301.1 0 12).toInt) + (1 : Int) := add_z rfl (show (1 : Int32).toInt = (1 : Int) by decide) (om_6ad47c49ef zws pw300) (om_99b5e8925f zws z296 pt300 pw300)
                have hP : va_P (dC, dI) vwCl (mW ad N cI cZ cJ (wA (wA (wA u301 0 48 ((u301.1 0 48) - (1 : Int32))) 11 ((u301.1 0 12).toNatClampNeg) r328) 0 12 ((u301.1 0 12) + (1 : Int32)))) H := hP
                have hD : va_D A (mW ad N cI cZ cJ (wA (wA (wA u301 0 48 ((u301.1 0 48) - (1 : Int32))) 11 ((u301.1 0 12).toNatClampNeg) r328) 0 12 ((u301.1 0 12) + (1 : Int32)))) := hD
                refine tp_i (y := (u301.1 0 12)) (rfl) ?_
                refine W.widen (k := 0) (n := 0) (Nat.le_refl _) (Nat.le_refl _) ?_
                refine lv_pop hx hb dX13_operand_210 rfl ?_
                refine lv_aload_n hx hb dX13_operand_211 rfl (lv_at hl 1 rfl) ?_
                refine lv_iload_n hx hb dX13_operand_212 rfl (lv_at hl 0 rfl) ?_
                refine lv_bipush (v := 45) hx hb dX13_operand_213 (by decide) ?_
                refine lv_icmp_ne (tgt := 223) hx hb dX13_operand_215 (by decide) (fun h333 => ?_) (fun h333 => ?_)
                · have z334 : ((v.2 (v.1 0 47).toNatClampNeg).toInt32).toInt ≠ (45 : Int) := ne_z rfl (show (45 : Int32).toInt = (45 : Int) by decide) h333
                  refine lv_iload_n hx hb dX13_operand_223 rfl (lv_at hl 0 rfl) ?_
                  refine lv_bipush (v := 33) hx hb dX13_operand_224 (by decide) ?_
                  refine lv_icmp_ne (tgt := 234) hx hb dX13_operand_226 (by decide) (fun h335 => ?_) (fun h335 => ?_)
                  · have z336 : ((v.2 (v.1 0 47).toNatClampNeg).toInt32).toInt ≠ (33 : Int) := ne_z rfl (show (33 : Int32).toInt = (33 : Int) by decide) h335
                    exact False.elim (om_abbf94d96b z325 z336)
                  · have z337 : ((v.2 (v.1 0 47).toNatClampNeg).toInt32).toInt = (33 : Int) := eq_z rfl (show (33 : Int32).toInt = (33 : Int) by decide) h335
                    refine lv_bipush (v := 19) hx hb dX13_operand_229 (by decide) ?_
                    refine lv_goto (tgt := 236) hx hb dX13_operand_231 (by decide) ?_
                    refine lv_iconst (v := 0) hx hb dX13_operand_236 (by decide) ?_
                    refine cu_i (rn_V (n := 2) (As := [.int 19, .int 0]) (rest := []) hx hb hml hown ht hKK hFx hP hD hS hA (c_m_say l dC dI cI cB cZ cJ cR tb H.size ad N (wA (wA (wA u301 0 48 ((u301.1 0 48) - (1 : Int32))) 11 ((u301.1 0 12).toNatClampNeg) r328) 0 12 ((u301.1 0 12) + (1 : Int32))) (19 : Int32) (0 : Int32) (show 0 ≤ (u301.1 0 15).toInt ∧ (u301.1 0 15).toInt < 16000 from (om_ab4ad5e078 zos z296 pt300 po300))) tw_59 tw_60 (by decide +kernel) rfl rfl ⟨show 0 + 1 ≤ 40 * n + 9 from om_fd17f2e70e, show 8 + (3 + 11) + 0 ≤ 28 * (40 * n + 9) from om_e79917e237⟩ (List.range (mW ad N cI cZ cJ (wA (wA (wA u301 0 48 ((u301.1 0 48) - (1 : Int32))) 11 ((u301.1 0 12).toNatClampNeg) r328) 0 12 ((u301.1 0 12) + (1 : Int32)))).length) (rg_map _) (mW_nd _ _ _ _ _ _) rfl rfl rfl rfl hl.1 rfl (Nat.le_of_ble_eq_true rfl) dX13_operand_237 ⟨Nat.le_of_ble_eq_true rfl, Nat.le_of_ble_eq_true rfl⟩) hP hD hS hA (fun r340 u339 H locs hw338 hP hD hS => ?_)
                    obtain ⟨rfl, rfl⟩ := hw338
                    have z341 : ((u301.1 0 15) + (1 : Int32)).toInt = ((u301.1 0 15).toInt) + (1 : Int) := add_z rfl (show (1 : Int32).toInt = (1 : Int) by decide) (om_436cd0d872 zos po300) (om_4b3fea160f zos z296 pt300 po300)
                    have hP : va_P (dC, dI) vwCl (mW ad N cI cZ cJ (wA (wA (wA (wA (wA (wA u301 0 48 ((u301.1 0 48) - (1 : Int32))) 11 ((u301.1 0 12).toNatClampNeg) r328) 0 12 ((u301.1 0 12) + (1 : Int32))) 13 ((u301.1 0 15).toNatClampNeg) (19 : Int32)) 14 ((u301.1 0 15).toNatClampNeg) (0 : Int32)) 0 15 ((u301.1 0 15) + (1 : Int32)))) H := hP
                    have hD : va_D A (mW ad N cI cZ cJ (wA (wA (wA (wA (wA (wA u301 0 48 ((u301.1 0 48) - (1 : Int32))) 11 ((u301.1 0 12).toNatClampNeg) r328) 0 12 ((u301.1 0 12) + (1 : Int32))) 13 ((u301.1 0 15).toNatClampNeg) (19 : Int32)) 14 ((u301.1 0 15).toNatClampNeg) (0 : Int32)) 0 15 ((u301.1 0 15) + (1 : Int32)))) := hD
                    refine tp_i (y := (u301.1 0 15)) (rfl) ?_
                    refine W.widen (k := 0) (n := 0) (Nat.le_refl _) (Nat.le_refl _) ?_
                    refine lv_pop hx hb dX13_operand_240 rfl ?_
                    refine lv_goto (tgt := 386) hx hb dX13_operand_241 (by decide) ?_
                    refine vx_ret ?_
                    exact W.vret hx hb hr (fun t ht9 hW => ⟨⟨(wA (wA (wA (wA (wA (wA u301 0 48 ((u301.1 0 48) - (1 : Int32))) 11 ((u301.1 0 12).toNatClampNeg) r328) 0 12 ((u301.1 0 12) + (1 : Int32))) 13 ((u301.1 0 15).toNatClampNeg) (19 : Int32)) 14 ((u301.1 0 15).toNatClampNeg) (0 : Int32)) 0 15 ((u301.1 0 15) + (1 : Int32))), rfl, ⟨(FG.f (FG.a (FG.a (FG.f (FG.a (FG.f (FG.tr (FG.f (FG.f (FG.rf _) ((v.1 0 47) + (1 : Int32)) (by decide)) ((v.1 0 48) + (1 : Int32)) (by decide)) (FG.up fr300 (by decide) (by decide))) ((u301.1 0 48) - (1 : Int32)) (by decide)) ((u301.1 0 12).toNatClampNeg) r328 (by decide) (by decide)) ((u301.1 0 12) + (1 : Int32)) (by decide)) ((u301.1 0 15).toNatClampNeg) (19 : Int32) (by decide) (by decide)) ((u301.1 0 15).toNatClampNeg) (0 : Int32) (by decide) (by decide)) ((u301.1 0 15) + (1 : Int32)) (by decide)), (show (v.1 0 47).toInt + 1 ≤ (u301.1 0 47).toInt ∧ (u301.1 0 47).toInt ≤ 1500 from (om_ff8aa832bb z296 pt300)), (show (v.1 0 49).toInt ≠ (v.1 0 47).toInt from (om_32294a9ce4 c293)), (show (v.1 0 12).toInt ≤ ((u301.1 0 12) + (1 : Int32)).toInt ∧ ((u301.1 0 12) + (1 : Int32)).toInt - 15 * (u301.1 0 47).toInt ≤ (v.1 0 12).toInt - 15 * (v.1 0 47).toInt from (om_7d9f5eca64 z296 pw300 z332)), (show (v.1 0 15).toInt ≤ ((u301.1 0 15) + (1 : Int32)).toInt ∧ ((u301.1 0 15) + (1 : Int32)).toInt - 10 * (u301.1 0 47).toInt ≤ (v.1 0 15).toInt - 10 * (v.1 0 47).toInt from (om_e3c4ffe5ce z296 po300 z341)), (show (v.1 0 43).toInt ≤ (u301.1 0 43).toInt ∧ (u301.1 0 43).toInt - 15 * (u301.1 0 47).toInt ≤ (v.1 0 43).toInt - 15 * (v.1 0 47).toInt from (om_48209a9386 z296 pf300)), (show (v.1 0 39).toInt ≤ (u301.1 0 39).toInt ∧ (u301.1 0 39).toInt - 1 * (u301.1 0 47).toInt ≤ (v.1 0 39).toInt - 1 * (v.1 0 47).toInt from (om_df731194be z296 pk300)), (show (u301.1 0 32).toInt = (v.1 0 32).toInt ∧ ((u301.1 0 48) - (1 : Int32)).toInt = (v.1 0 48).toInt from (om_4a47b03b7f z297 pp300 z303)), (show (v.1 0 33).toInt ≤ (u301.1 0 33).toInt ∧ (u301.1 0 33).toInt ≤ 500 from (om_6bc0cea141 ph300)), (fun (j9 : Nat) hj9 => (Eq.trans (pk_un3 (a := (u301.1 0 12).toInt) rfl (om_1ce1b92b31 zws pw300) (om_e81726c0b3 pw300 hj9)) (kc300 j9 (om_4fe904e9bf hj9)))), (fun (j9 : Nat) hj9 => (Eq.trans (pk_un3 (a := (u301.1 0 15).toInt) rfl (om_4b760a59ba zos po300) (om_24f6a8216f po300 hj9)) (ko300 j9 (om_4fe904e9bf hj9)))), (fun (j9 : Nat) hj9 => (Eq.trans (pk_un3 (a := (u301.1 0 15).toInt) rfl (om_4b760a59ba zos po300) (om_24f6a8216f po300 hj9)) (kg300 j9 (om_4fe904e9bf hj9)))), (AR.o (AR.o (AR.o (AR.o (AR.o (AR.o a35300 (by decide)) (by decide)) (by decide)) (by decide)) (by decide)) (by decide)), (AR.o (AR.o (AR.o (AR.o (AR.o (AR.o a37300 (by decide)) (by decide)) (by decide)) (by decide)) (by decide)) (by decide)), (AR.o (AR.o (AR.o (AR.o (AR.o (AR.o a38300 (by decide)) (by decide)) (by decide)) (by decide)) (by decide)) (by decide)), (AR.o (AR.o (AR.o (AR.o (AR.o (AR.o a40300 (by decide)) (by decide)) (by decide)) (by decide)) (by decide)) (by decide)), (FX.o (FX.o (FX.o (FX.o (FX.o (FX.o fx300 (by decide) (by decide)) (by decide) (by decide)) (by decide) (by decide)) (by decide) (by decide)) (by decide) (by decide)) (by decide) (by decide))⟩, by rw [ht9]; exact hP, hD⟩, hS.F ht9⟩) hS.2.2 dX13_operand_386
                · have z342 : ((v.2 (v.1 0 47).toNatClampNeg).toInt32).toInt = (45 : Int) := eq_z rfl (show (45 : Int32).toInt = (45 : Int) by decide) h333
                  exact False.elim (om_ac897fe355 z325 z342)
            · have z343 : ((v.2 (v.1 0 47).toNatClampNeg).toInt32).toInt = (45 : Int) := eq_z rfl (show (45 : Int32).toInt = (45 : Int) by decide) h304
              refine lv_bipush (v := 32) hx hb dX13_operand_162 (by decide) ?_
              refine lv_iconst (v := 0) hx hb dX13_operand_164 (by decide) ?_
              refine lv_bipush (v := 10) hx hb dX13_operand_165 (by decide) ?_
              refine lv_iconst (v := 0) hx hb dX13_operand_167 (by decide) ?_
              refine lv_bipush (v := 10) hx hb dX13_operand_168 (by decide) ?_
              refine cu_s (mW_nd _ _ _ _ _ _) (rn_S (n := 5) (As := [.int 32, .int 0, .int 10, .int 0, .int 10]) (rest := [.ref (ad 0)]) hx hb hml hown ht hKK hFx hP hD hS hA (c_m_byR l dC dI cI cB cZ cJ cR tb H.size (32 : Int32) (0 : Int32) (10 : Int32) (0 : Int32) (10 : Int32) ) tw_67 tw_68 (by decide +kernel) rfl rfl ⟨show 0 + 1 ≤ 40 * n + 9 from om_fd17f2e70e, show 8 + (5 + 11) + 0 ≤ 28 * (40 * n + 9) from om_4dd6cddcce⟩ [] rfl rfl rfl hl.1 rfl (Nat.le_of_ble_eq_true rfl) dX13_operand_170 ⟨Nat.le_of_ble_eq_true rfl, Nat.le_of_ble_eq_true rfl⟩) hP hD hS hA (fun r346 H locs hw344 hP hD hS => ?_)
              refine W.widen (k := 0) (n := 0) (Nat.le_refl _) (Nat.le_refl _) ?_
              refine lv_goto (tgt := 207) hx hb dX13_operand_173 (by decide) ?_
              refine cu_i (rn_V (n := 1) (As := [.int r346]) (rest := []) hx hb hml hown ht hKK hFx hP hD hS hA (c_m_emit l dC dI cI cB cZ cJ cR tb H.size ad N (wA u301 0 48 ((u301.1 0 48) - (1 : Int32))) r346 (show 0 ≤ (u301.1 0 12).toInt ∧ (u301.1 0 12).toInt < 24000 from (om_6ad570a484 zws z296 pt300 pw300))) tw_8 tw_9 (by decide +kernel) rfl rfl ⟨show 0 + 1 ≤ 40 * n + 9 from om_fd17f2e70e, show 8 + (2 + 11) + 0 ≤ 28 * (40 * n + 9) from om_4229287154⟩ (List.range (mW ad N cI cZ cJ (wA u301 0 48 ((u301.1 0 48) - (1 : Int32)))).length) (rg_map _) (mW_nd _ _ _ _ _ _) rfl rfl rfl rfl hl.1 rfl (Nat.le_of_ble_eq_true rfl) dX13_operand_207 ⟨Nat.le_of_ble_eq_true rfl, Nat.le_of_ble_eq_true rfl⟩) hP hD hS hA (fun r349 u348 H locs hw347 hP hD hS => ?_)
              obtain ⟨rfl, rfl⟩ := hw347
              have z350 : ((u301.1 0 12) + (1 : Int32)).toInt = ((u301.1 0 12).toInt) + (1 : Int) := add_z rfl (show (1 : Int32).toInt = (1 : Int) by decide) (om_6ad47c49ef zws pw300) (om_99b5e8925f zws z296 pt300 pw300)
              have hP : va_P (dC, dI) vwCl (mW ad N cI cZ cJ (wA (wA (wA u301 0 48 ((u301.1 0 48) - (1 : Int32))) 11 ((u301.1 0 12).toNatClampNeg) r346) 0 12 ((u301.1 0 12) + (1 : Int32)))) H := hP
              have hD : va_D A (mW ad N cI cZ cJ (wA (wA (wA u301 0 48 ((u301.1 0 48) - (1 : Int32))) 11 ((u301.1 0 12).toNatClampNeg) r346) 0 12 ((u301.1 0 12) + (1 : Int32)))) := hD
              refine tp_i (y := (u301.1 0 12)) (rfl) ?_
              refine W.widen (k := 0) (n := 0) (Nat.le_refl _) (Nat.le_refl _) ?_
              refine lv_pop hx hb dX13_operand_210 rfl ?_
              refine lv_aload_n hx hb dX13_operand_211 rfl (lv_at hl 1 rfl) ?_
              refine lv_iload_n hx hb dX13_operand_212 rfl (lv_at hl 0 rfl) ?_
              refine lv_bipush (v := 45) hx hb dX13_operand_213 (by decide) ?_
              refine lv_icmp_ne (tgt := 223) hx hb dX13_operand_215 (by decide) (fun h351 => ?_) (fun h351 => ?_)
              · have z352 : ((v.2 (v.1 0 47).toNatClampNeg).toInt32).toInt ≠ (45 : Int) := ne_z rfl (show (45 : Int32).toInt = (45 : Int) by decide) h351
                exact False.elim (om_bdc7d89919 z343 z352)
              · have z353 : ((v.2 (v.1 0 47).toNatClampNeg).toInt32).toInt = (45 : Int) := eq_z rfl (show (45 : Int32).toInt = (45 : Int) by decide) h351
                refine lv_bipush (v := 18) hx hb dX13_operand_218 (by decide) ?_
                refine lv_goto (tgt := 236) hx hb dX13_operand_220 (by decide) ?_
                refine lv_iconst (v := 0) hx hb dX13_operand_236 (by decide) ?_
                refine cu_i (rn_V (n := 2) (As := [.int 18, .int 0]) (rest := []) hx hb hml hown ht hKK hFx hP hD hS hA (c_m_say l dC dI cI cB cZ cJ cR tb H.size ad N (wA (wA (wA u301 0 48 ((u301.1 0 48) - (1 : Int32))) 11 ((u301.1 0 12).toNatClampNeg) r346) 0 12 ((u301.1 0 12) + (1 : Int32))) (18 : Int32) (0 : Int32) (show 0 ≤ (u301.1 0 15).toInt ∧ (u301.1 0 15).toInt < 16000 from (om_ab4ad5e078 zos z296 pt300 po300))) tw_59 tw_60 (by decide +kernel) rfl rfl ⟨show 0 + 1 ≤ 40 * n + 9 from om_fd17f2e70e, show 8 + (3 + 11) + 0 ≤ 28 * (40 * n + 9) from om_e79917e237⟩ (List.range (mW ad N cI cZ cJ (wA (wA (wA u301 0 48 ((u301.1 0 48) - (1 : Int32))) 11 ((u301.1 0 12).toNatClampNeg) r346) 0 12 ((u301.1 0 12) + (1 : Int32)))).length) (rg_map _) (mW_nd _ _ _ _ _ _) rfl rfl rfl rfl hl.1 rfl (Nat.le_of_ble_eq_true rfl) dX13_operand_237 ⟨Nat.le_of_ble_eq_true rfl, Nat.le_of_ble_eq_true rfl⟩) hP hD hS hA (fun r356 u355 H locs hw354 hP hD hS => ?_)
                obtain ⟨rfl, rfl⟩ := hw354
                have z357 : ((u301.1 0 15) + (1 : Int32)).toInt = ((u301.1 0 15).toInt) + (1 : Int) := add_z rfl (show (1 : Int32).toInt = (1 : Int) by decide) (om_436cd0d872 zos po300) (om_4b3fea160f zos z296 pt300 po300)
                have hP : va_P (dC, dI) vwCl (mW ad N cI cZ cJ (wA (wA (wA (wA (wA (wA u301 0 48 ((u301.1 0 48) - (1 : Int32))) 11 ((u301.1 0 12).toNatClampNeg) r346) 0 12 ((u301.1 0 12) + (1 : Int32))) 13 ((u301.1 0 15).toNatClampNeg) (18 : Int32)) 14 ((u301.1 0 15).toNatClampNeg) (0 : Int32)) 0 15 ((u301.1 0 15) + (1 : Int32)))) H := hP
                have hD : va_D A (mW ad N cI cZ cJ (wA (wA (wA (wA (wA (wA u301 0 48 ((u301.1 0 48) - (1 : Int32))) 11 ((u301.1 0 12).toNatClampNeg) r346) 0 12 ((u301.1 0 12) + (1 : Int32))) 13 ((u301.1 0 15).toNatClampNeg) (18 : Int32)) 14 ((u301.1 0 15).toNatClampNeg) (0 : Int32)) 0 15 ((u301.1 0 15) + (1 : Int32)))) := hD
                refine tp_i (y := (u301.1 0 15)) (rfl) ?_
                refine W.widen (k := 0) (n := 0) (Nat.le_refl _) (Nat.le_refl _) ?_
                refine lv_pop hx hb dX13_operand_240 rfl ?_
                refine lv_goto (tgt := 386) hx hb dX13_operand_241 (by decide) ?_
                refine vx_ret ?_
                exact W.vret hx hb hr (fun t ht9 hW => ⟨⟨(wA (wA (wA (wA (wA (wA u301 0 48 ((u301.1 0 48) - (1 : Int32))) 11 ((u301.1 0 12).toNatClampNeg) r346) 0 12 ((u301.1 0 12) + (1 : Int32))) 13 ((u301.1 0 15).toNatClampNeg) (18 : Int32)) 14 ((u301.1 0 15).toNatClampNeg) (0 : Int32)) 0 15 ((u301.1 0 15) + (1 : Int32))), rfl, ⟨(FG.f (FG.a (FG.a (FG.f (FG.a (FG.f (FG.tr (FG.f (FG.f (FG.rf _) ((v.1 0 47) + (1 : Int32)) (by decide)) ((v.1 0 48) + (1 : Int32)) (by decide)) (FG.up fr300 (by decide) (by decide))) ((u301.1 0 48) - (1 : Int32)) (by decide)) ((u301.1 0 12).toNatClampNeg) r346 (by decide) (by decide)) ((u301.1 0 12) + (1 : Int32)) (by decide)) ((u301.1 0 15).toNatClampNeg) (18 : Int32) (by decide) (by decide)) ((u301.1 0 15).toNatClampNeg) (0 : Int32) (by decide) (by decide)) ((u301.1 0 15) + (1 : Int32)) (by decide)), (show (v.1 0 47).toInt + 1 ≤ (u301.1 0 47).toInt ∧ (u301.1 0 47).toInt ≤ 1500 from (om_ff8aa832bb z296 pt300)), (show (v.1 0 49).toInt ≠ (v.1 0 47).toInt from (om_32294a9ce4 c293)), (show (v.1 0 12).toInt ≤ ((u301.1 0 12) + (1 : Int32)).toInt ∧ ((u301.1 0 12) + (1 : Int32)).toInt - 15 * (u301.1 0 47).toInt ≤ (v.1 0 12).toInt - 15 * (v.1 0 47).toInt from (om_7d9f5eca64 z296 pw300 z350)), (show (v.1 0 15).toInt ≤ ((u301.1 0 15) + (1 : Int32)).toInt ∧ ((u301.1 0 15) + (1 : Int32)).toInt - 10 * (u301.1 0 47).toInt ≤ (v.1 0 15).toInt - 10 * (v.1 0 47).toInt from (om_e3c4ffe5ce z296 po300 z357)), (show (v.1 0 43).toInt ≤ (u301.1 0 43).toInt ∧ (u301.1 0 43).toInt - 15 * (u301.1 0 47).toInt ≤ (v.1 0 43).toInt - 15 * (v.1 0 47).toInt from (om_48209a9386 z296 pf300)), (show (v.1 0 39).toInt ≤ (u301.1 0 39).toInt ∧ (u301.1 0 39).toInt - 1 * (u301.1 0 47).toInt ≤ (v.1 0 39).toInt - 1 * (v.1 0 47).toInt from (om_df731194be z296 pk300)), (show (u301.1 0 32).toInt = (v.1 0 32).toInt ∧ ((u301.1 0 48) - (1 : Int32)).toInt = (v.1 0 48).toInt from (om_4a47b03b7f z297 pp300 z303)), (show (v.1 0 33).toInt ≤ (u301.1 0 33).toInt ∧ (u301.1 0 33).toInt ≤ 500 from (om_6bc0cea141 ph300)), (fun (j9 : Nat) hj9 => (Eq.trans (pk_un3 (a := (u301.1 0 12).toInt) rfl (om_1ce1b92b31 zws pw300) (om_e81726c0b3 pw300 hj9)) (kc300 j9 (om_4fe904e9bf hj9)))), (fun (j9 : Nat) hj9 => (Eq.trans (pk_un3 (a := (u301.1 0 15).toInt) rfl (om_4b760a59ba zos po300) (om_24f6a8216f po300 hj9)) (ko300 j9 (om_4fe904e9bf hj9)))), (fun (j9 : Nat) hj9 => (Eq.trans (pk_un3 (a := (u301.1 0 15).toInt) rfl (om_4b760a59ba zos po300) (om_24f6a8216f po300 hj9)) (kg300 j9 (om_4fe904e9bf hj9)))), (AR.o (AR.o (AR.o (AR.o (AR.o (AR.o a35300 (by decide)) (by decide)) (by decide)) (by decide)) (by decide)) (by decide)), (AR.o (AR.o (AR.o (AR.o (AR.o (AR.o a37300 (by decide)) (by decide)) (by decide)) (by decide)) (by decide)) (by decide)), (AR.o (AR.o (AR.o (AR.o (AR.o (AR.o a38300 (by decide)) (by decide)) (by decide)) (by decide)) (by decide)) (by decide)), (AR.o (AR.o (AR.o (AR.o (AR.o (AR.o a40300 (by decide)) (by decide)) (by decide)) (by decide)) (by decide)) (by decide)), (FX.o (FX.o (FX.o (FX.o (FX.o (FX.o fx300 (by decide) (by decide)) (by decide) (by decide)) (by decide) (by decide)) (by decide) (by decide)) (by decide) (by decide)) (by decide) (by decide))⟩, by rw [ht9]; exact hP, hD⟩, hS.F ht9⟩) hS.2.2 dX13_operand_386
    · have z358 : ((v.1 6) (v.1 0 47).toNatClampNeg).toInt = (6 : Int) := eq_z rfl (show (6 : Int32).toInt = (6 : Int) by decide) h52
      refine lv_aload_n hx hb dX13_operand_27 rfl (lv_at hl 0 rfl) ?_
      refine va_get (D := (dC, dI)) (ci := 16) (fs := mF ad v) (v := .ref (ad 6)) (C := RX13) (T := TX13) (N := 124) hx hb ht itX13 hown hK hP 0 rfl rfl 6 (by decide) (ht _ tw_23) (fun _ h9 => h9) rfl dX13_operand_28 ?_
      refine lv_aload_n hx hb dX13_operand_31 rfl (lv_at hl 0 rfl) ?_
      refine va_get (D := (dC, dI)) (ci := 16) (fs := mF ad v) (v := .int (v.1 0 47)) (C := RX13) (T := TX13) (N := 124) hx hb ht itX13 hown hK hP 0 rfl rfl 47 (by decide) (ht _ tw_24) (fun _ h9 => h9) rfl dX13_operand_32 ?_
      refine va_iald (D := (dC, dI)) (f := (v.1 6)) hx hb hK hP 3 0 rfl rfl (in_y (a := (v.1 0 47).toInt) (b := 4002) rfl (om_e33521859d zfs) (om_449eb7e9bb zt) rfl) dX13_operand_35 ?_
      refine lv_iconst (v := 4) hx hb dX13_operand_36 (by decide) ?_
      refine lv_icmp_ne (tgt := 76) hx hb dX13_operand_37 (by decide) (fun h359 => ?_) (fun h359 => ?_)
      · have z360 : ((v.1 6) (v.1 0 47).toNatClampNeg).toInt ≠ (4 : Int) := ne_z rfl (show (4 : Int32).toInt = (4 : Int) by decide) h359
        refine lv_aload_n hx hb dX13_operand_76 rfl (lv_at hl 0 rfl) ?_
        refine va_get (D := (dC, dI)) (ci := 16) (fs := mF ad v) (v := .ref (ad 9)) (C := RX13) (T := TX13) (N := 124) hx hb ht itX13 hown hK hP 0 rfl rfl 9 (by decide) (ht _ tw_27) (fun _ h9 => h9) rfl dX13_operand_77 ?_
        refine lv_aload_n hx hb dX13_operand_80 rfl (lv_at hl 0 rfl) ?_
        refine va_get (D := (dC, dI)) (ci := 16) (fs := mF ad v) (v := .int (v.1 0 47)) (C := RX13) (T := TX13) (N := 124) hx hb ht itX13 hown hK hP 0 rfl rfl 47 (by decide) (ht _ tw_24) (fun _ h9 => h9) rfl dX13_operand_81 ?_
        refine va_lald (D := (dC, dI)) (f := v.2) hx hb hK hP 6 3 rfl rfl (in_y (a := (v.1 0 47).toInt) (b := 4002) rfl (om_e33521859d zfs) (om_449eb7e9bb zt) rfl) dX13_operand_84 ?_
        refine lv_l2i hx hb dX13_operand_85 rfl ?_
        refine lv_istore_n (lv' := [(1, .int ((v.2 (v.1 0 47).toNatClampNeg).toInt32)), (0, .ref (ad 0))]) hx hb dX13_operand_86 rfl hl (by decide) rfl (fun ls hl => ?_)
        refine lv_aload_n hx hb dX13_operand_87 rfl (lv_at hl 1 rfl) ?_
        refine cux_v (rx_V (n := 0) (As := []) (rest := []) hx hb hml hown ht hKK hFx hP hD hS hA (c_m_take l dC dI cI cB cZ cJ cR tb s.heap.size ad N v  (show 0 ≤ (v.1 0 47).toInt ∧ (v.1 0 47).toInt ≤ 1500 from (om_2fb699b811 zt zfs))) tw_32 tw_33 (by decide +kernel) rfl rfl ⟨show 1 + 1 ≤ 40 * n + 9 from om_dc0ef911ca, show 8 + (1 + 11) + 22 ≤ 28 * (40 * n + 9) from om_1a3684fcd8⟩ (List.range (mW ad N cI cZ cJ v).length) (rg_map _) (mW_nd _ _ _ _ _ _) rfl rfl rfl rfl hl.1 rfl (Nat.le_of_ble_eq_true rfl) dX13_operand_88 ⟨Nat.le_of_ble_eq_true rfl, Nat.le_of_ble_eq_true rfl⟩) hP hD hS hA (fun u9 ce9 q9 H locs hx9 hP hD hS hc9 hv9 hf9 => ?_) (fun u362 H locs hw361 hP hD hS => ?_)
        · exact vx_out (fun x h9 => (hnt x h9).elim) hlocks hc9 hv9 hf9 (fun t9 ht9 hv8 => ⟨u9, (FG.tr (FG.rf _) hx9), ⟨rfl, by rw [ht9]; exact hP, hD⟩, hS.F ht9⟩) hS.2.2 (Nat.le_refl _) (Nat.le_refl _)
        obtain ⟨rfl, a361, b361⟩ := hw361
        have z364 : ((v.1 0 47) + (1 : Int32)).toInt = ((v.1 0 47).toInt) + (1 : Int) := add_z rfl (show (1 : Int32).toInt = (1 : Int) by decide) (om_3eca9b17a5 zws) (om_27eb55d06c zt)
        have hP : va_P (dC, dI) vwCl (mW ad N cI cZ cJ (wA v 0 47 ((v.1 0 47) + (1 : Int32)))) H := hP
        have hD : va_D A (mW ad N cI cZ cJ (wA v 0 47 ((v.1 0 47) + (1 : Int32)))) := hD
        refine W.widen (k := 0) (n := 0) (Nat.le_refl _) (Nat.le_refl _) ?_
        refine lv_aload_n hx hb dX13_operand_91 rfl (lv_at hl 1 rfl) ?_
        refine lv_iload_n hx hb dX13_operand_92 rfl (lv_at hl 0 rfl) ?_
        refine cu_v (rn_V (n := 1) (As := [.int ((v.2 (v.1 0 47).toNatClampNeg).toInt32)]) (rest := []) hx hb hml hown ht hKK hFx hP hD hS hA (c_m_loads l dC dI cI cB cZ cJ cR tb H.size ad N (wA v 0 47 ((v.1 0 47) + (1 : Int32))) ((v.2 (v.1 0 47).toNatClampNeg).toInt32) (show 0 ≤ (v.1 0 12).toInt ∧ (v.1 0 12).toInt ≤ 23980 from (om_2fbbc6575c zws a361)) (show 0 ≤ (v.1 0 15).toInt ∧ (v.1 0 15).toInt ≤ 15980 from (om_1b8bc4dd59 zos a361))) tw_111 tw_112 (by decide +kernel) rfl rfl ⟨show 2 + 1 ≤ 40 * n + 9 from om_86eef57ede, show 8 + (2 + 11) + 46 ≤ 28 * (40 * n + 9) from om_a3475e87b5⟩ (List.range (mW ad N cI cZ cJ (wA v 0 47 ((v.1 0 47) + (1 : Int32)))).length) (rg_map _) (mW_nd _ _ _ _ _ _) rfl rfl rfl rfl hl.1 rfl (Nat.le_of_ble_eq_true rfl) dX13_operand_93 ⟨Nat.le_of_ble_eq_true rfl, Nat.le_of_ble_eq_true rfl⟩) hP hD hS hA (fun u366 H locs hw365 hP hD hS => ?_)
        obtain ⟨fr365, pw365, po365, kc365, ko365, kg365⟩ := hw365
        have pw365 : (v.1 0 12).toInt ≤ (u366.1 0 12).toInt ∧ (u366.1 0 12).toInt ≤ (v.1 0 12).toInt + 2 := pw365
        have po365 : (u366.1 0 15).toInt = (v.1 0 15).toInt + 1 := po365
        have kc365 : ∀ j : Nat, (j : Int) < (v.1 0 12).toInt → (u366.1 11) j = (v.1 11) j := kc365
        have ko365 : ∀ j : Nat, (j : Int) < (v.1 0 15).toInt → (u366.1 13) j = (v.1 13) j := ko365
        have kg365 : ∀ j : Nat, (j : Int) < (v.1 0 15).toInt → (u366.1 14) j = (v.1 14) j := kg365
        refine W.widen (k := 0) (n := 0) (Nat.le_refl _) (Nat.le_refl _) ?_
        refine lv_goto (tgt := 386) hx hb dX13_operand_96 (by decide) ?_
        have q368 : (u366.1 0 47).toInt = ((v.1 0 47) + (1 : Int32)).toInt := congrArg Int32.toInt ((fr365.2.1 47 (by decide)).trans (show (wA v 0 47 ((v.1 0 47) + (1 : Int32))).1 0 47 = ((v.1 0 47) + (1 : Int32)) by rfl))
        have q369 : (u366.1 0 43).toInt = (v.1 0 43).toInt := congrArg Int32.toInt ((fr365.2.1 43 (by decide)).trans (show (wA v 0 47 ((v.1 0 47) + (1 : Int32))).1 0 43 = (v.1 0 43) by rfl))
        have q370 : (u366.1 0 39).toInt = (v.1 0 39).toInt := congrArg Int32.toInt ((fr365.2.1 39 (by decide)).trans (show (wA v 0 47 ((v.1 0 47) + (1 : Int32))).1 0 39 = (v.1 0 39) by rfl))
        have q371 : (u366.1 0 32).toInt = (v.1 0 32).toInt := congrArg Int32.toInt ((fr365.2.1 32 (by decide)).trans (show (wA v 0 47 ((v.1 0 47) + (1 : Int32))).1 0 32 = (v.1 0 32) by rfl))
        have q372 : (u366.1 0 48).toInt = (v.1 0 48).toInt := congrArg Int32.toInt ((fr365.2.1 48 (by decide)).trans (show (wA v 0 47 ((v.1 0 47) + (1 : Int32))).1 0 48 = (v.1 0 48) by rfl))
        have q373 : (u366.1 0 33).toInt = (v.1 0 33).toInt := congrArg Int32.toInt ((fr365.2.1 33 (by decide)).trans (show (wA v 0 47 ((v.1 0 47) + (1 : Int32))).1 0 33 = (v.1 0 33) by rfl))
        refine vx_ret ?_
        exact W.vret hx hb hr (fun t ht9 hW => ⟨⟨u366, rfl, ⟨(FG.tr (FG.f (FG.rf _) ((v.1 0 47) + (1 : Int32)) (by decide)) (FG.up fr365 (by decide) (by decide))), (show (v.1 0 47).toInt + 1 ≤ (u366.1 0 47).toInt ∧ (u366.1 0 47).toInt ≤ 1500 from (om_413e830c37 z364 a361 q368)), (show (v.1 0 49).toInt ≠ (v.1 0 47).toInt from (om_32294a9ce4 b361)), (show (v.1 0 12).toInt ≤ (u366.1 0 12).toInt ∧ (u366.1 0 12).toInt - 15 * (u366.1 0 47).toInt ≤ (v.1 0 12).toInt - 15 * (v.1 0 47).toInt from (om_ed0943c3b0 z364 q368 pw365)), (show (v.1 0 15).toInt ≤ (u366.1 0 15).toInt ∧ (u366.1 0 15).toInt - 10 * (u366.1 0 47).toInt ≤ (v.1 0 15).toInt - 10 * (v.1 0 47).toInt from (om_4820e362bc z364 q368 po365)), (show (v.1 0 43).toInt ≤ (u366.1 0 43).toInt ∧ (u366.1 0 43).toInt - 15 * (u366.1 0 47).toInt ≤ (v.1 0 43).toInt - 15 * (v.1 0 47).toInt from (om_8eec673951 z364 q369 q368)), (show (v.1 0 39).toInt ≤ (u366.1 0 39).toInt ∧ (u366.1 0 39).toInt - 1 * (u366.1 0 47).toInt ≤ (v.1 0 39).toInt - 1 * (v.1 0 47).toInt from (om_6a648d8dbc z364 q370 q368)), (show (u366.1 0 32).toInt = (v.1 0 32).toInt ∧ (u366.1 0 48).toInt = (v.1 0 48).toInt from (om_d5149004fa q371 q372)), (show (v.1 0 33).toInt ≤ (u366.1 0 33).toInt ∧ (u366.1 0 33).toInt ≤ 500 from (om_bc6fc57d17 zhi q373)), (fun (j9 : Nat) hj9 => (kc365 j9 (om_4fe904e9bf hj9))), (fun (j9 : Nat) hj9 => (ko365 j9 (om_4fe904e9bf hj9))), (fun (j9 : Nat) hj9 => (kg365 j9 (om_4fe904e9bf hj9))), (show AR 35 0 1500 u366 from AR.fr (fl := [12, 15]) (al := [0, 11, 13, 14]) fr365 (by decide) (AR.o a35 (by decide))), (show AR 37 0 23999 u366 from AR.fr (fl := [12, 15]) (al := [0, 11, 13, 14]) fr365 (by decide) (AR.o a37 (by decide))), (show AR 38 0 15999 u366 from AR.fr (fl := [12, 15]) (al := [0, 11, 13, 14]) fr365 (by decide) (AR.o a38 (by decide))), (show AR 40 0 23999 u366 from AR.fr (fl := [12, 15]) (al := [0, 11, 13, 14]) fr365 (by decide) (AR.o a40 (by decide))), (show FX u366 from FX.fr (fl := [12, 15]) (al := [0, 11, 13, 14]) fr365 (by decide) (by decide) (FX.o fx (by decide) (by decide)))⟩, by rw [ht9]; exact hP, hD⟩, hS.F ht9⟩) hS.2.2 dX13_operand_386
      · have z374 : ((v.1 6) (v.1 0 47).toNatClampNeg).toInt = (4 : Int) := eq_z rfl (show (4 : Int32).toInt = (4 : Int) by decide) h359
        exact False.elim (om_75afaa67ab z358 z374)
