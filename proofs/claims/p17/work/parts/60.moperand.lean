theorem dX13_operand_0 : decode cX13_operand 0 = .ok (.aload_n 0, 1) := by decide +kernel
theorem dX13_operand_1 : decode cX13_operand 1 = .ok (.getfield 41, 3) := by decide +kernel
theorem dX13_operand_4 : decode cX13_operand 4 = .ok (.aload_n 0, 1) := by decide +kernel
theorem dX13_operand_5 : decode cX13_operand 5 = .ok (.getfield 137, 3) := by decide +kernel
theorem dX13_operand_8 : decode cX13_operand 8 = .ok (.iaload, 1) := by decide +kernel
theorem dX13_operand_9 : decode cX13_operand 9 = .ok (.iconst 4, 1) := by decide +kernel
theorem dX13_operand_10 : decode cX13_operand 10 = .ok (.if_icmp .eq 17, 3) := by decide +kernel
theorem dX13_operand_27 : decode cX13_operand 27 = .ok (.aload_n 0, 1) := by decide +kernel
theorem dX13_operand_28 : decode cX13_operand 28 = .ok (.getfield 41, 3) := by decide +kernel
theorem dX13_operand_31 : decode cX13_operand 31 = .ok (.aload_n 0, 1) := by decide +kernel
theorem dX13_operand_32 : decode cX13_operand 32 = .ok (.getfield 137, 3) := by decide +kernel
theorem dX13_operand_35 : decode cX13_operand 35 = .ok (.iaload, 1) := by decide +kernel
theorem dX13_operand_36 : decode cX13_operand 36 = .ok (.iconst 4, 1) := by decide +kernel
theorem dX13_operand_37 : decode cX13_operand 37 = .ok (.if_icmp .ne 39, 3) := by decide +kernel
theorem dX13_operand_40 : decode cX13_operand 40 = .ok (.aload_n 0, 1) := by decide +kernel
theorem dX13_operand_41 : decode cX13_operand 41 = .ok (.getfield 74, 3) := by decide +kernel
theorem tw_110 : (.fieldLink RX13 74 "PocketCompilerModel" "digits" "[Z" : Cond) ∈ tw_W := tw_in (by decide +kernel) (by decide +kernel)
theorem dX13_operand_44 : decode cX13_operand 44 = .ok (.aload_n 0, 1) := by decide +kernel
theorem dX13_operand_45 : decode cX13_operand 45 = .ok (.getfield 137, 3) := by decide +kernel
theorem dX13_operand_48 : decode cX13_operand 48 = .ok (.baload, 1) := by decide +kernel
theorem dX13_operand_49 : decode cX13_operand 49 = .ok (.ifCond .eq 27, 3) := by decide +kernel
theorem dX13_operand_76 : decode cX13_operand 76 = .ok (.aload_n 0, 1) := by decide +kernel
theorem dX13_operand_77 : decode cX13_operand 77 = .ok (.getfield 56, 3) := by decide +kernel
theorem dX13_operand_80 : decode cX13_operand 80 = .ok (.aload_n 0, 1) := by decide +kernel
theorem dX13_operand_81 : decode cX13_operand 81 = .ok (.getfield 137, 3) := by decide +kernel
theorem dX13_operand_84 : decode cX13_operand 84 = .ok (.laload, 1) := by decide +kernel
theorem dX13_operand_85 : decode cX13_operand 85 = .ok (.l2i, 1) := by decide +kernel
theorem dX13_operand_86 : decode cX13_operand 86 = .ok (.istore_n 1, 1) := by decide +kernel
theorem dX13_operand_87 : decode cX13_operand 87 = .ok (.aload_n 0, 1) := by decide +kernel
theorem dX13_operand_88 : decode cX13_operand 88 = .ok (.invokevirtual 154, 3) := by decide +kernel
theorem dX13_operand_91 : decode cX13_operand 91 = .ok (.aload_n 0, 1) := by decide +kernel
theorem dX13_operand_92 : decode cX13_operand 92 = .ok (.iload_n 1, 1) := by decide +kernel
theorem dX13_operand_93 : decode cX13_operand 93 = .ok (.invokevirtual 329, 3) := by decide +kernel
theorem tw_111 : (.code yX13_loads cX13_loads 2 none : Cond) ∈ tw_W := tw_in (by decide +kernel) (by decide +kernel)
theorem tw_112 : ∀ w ∈ ([.methodLink RX13 329 yX13_loads, .instanceMethod yX13_loads, .selects RX13 yX13_loads yX13_loads, .initialized RX13] : List Cond), w ∈ tw_W := tw_all (by decide +kernel)
theorem dX13_operand_96 : decode cX13_operand 96 = .ok (.goto 290, 3) := by decide +kernel
theorem dX13_operand_386 : decode cX13_operand 386 = .ok (.return_, 1) := by decide +kernel
theorem dX13_operand_52 : decode cX13_operand 52 = .ok (.aload_n 0, 1) := by decide +kernel
theorem dX13_operand_53 : decode cX13_operand 53 = .ok (.getfield 56, 3) := by decide +kernel
theorem dX13_operand_56 : decode cX13_operand 56 = .ok (.aload_n 0, 1) := by decide +kernel
theorem dX13_operand_57 : decode cX13_operand 57 = .ok (.getfield 137, 3) := by decide +kernel
theorem dX13_operand_60 : decode cX13_operand 60 = .ok (.laload, 1) := by decide +kernel
theorem dX13_operand_61 : decode cX13_operand 61 = .ok (.ldc2_w 327, 3) := by decide +kernel
theorem tw_113 : (.constantLong RX13 327 (2147483647) : Cond) ∈ tw_W := tw_in (by decide +kernel) (by decide +kernel)
theorem dX13_operand_64 : decode cX13_operand 64 = .ok (.lcmp, 1) := by decide +kernel
theorem dX13_operand_65 : decode cX13_operand 65 = .ok (.ifCond .le 11, 3) := by decide +kernel
theorem dX13_operand_68 : decode cX13_operand 68 = .ok (.aload_n 0, 1) := by decide +kernel
theorem dX13_operand_69 : decode cX13_operand 69 = .ok (.aload_n 0, 1) := by decide +kernel
theorem dX13_operand_70 : decode cX13_operand 70 = .ok (.getfield 137, 3) := by decide +kernel
theorem dX13_operand_73 : decode cX13_operand 73 = .ok (.putfield 148, 3) := by decide +kernel
theorem dX13_operand_13 : decode cX13_operand 13 = .ok (.aload_n 0, 1) := by decide +kernel
theorem dX13_operand_14 : decode cX13_operand 14 = .ok (.getfield 41, 3) := by decide +kernel
theorem dX13_operand_17 : decode cX13_operand 17 = .ok (.aload_n 0, 1) := by decide +kernel
theorem dX13_operand_18 : decode cX13_operand 18 = .ok (.getfield 137, 3) := by decide +kernel
theorem dX13_operand_21 : decode cX13_operand 21 = .ok (.iaload, 1) := by decide +kernel
theorem dX13_operand_22 : decode cX13_operand 22 = .ok (.bipush 6, 2) := by decide +kernel
theorem dX13_operand_24 : decode cX13_operand 24 = .ok (.if_icmp .ne 75, 3) := by decide +kernel
theorem dX13_operand_99 : decode cX13_operand 99 = .ok (.aload_n 0, 1) := by decide +kernel
theorem dX13_operand_100 : decode cX13_operand 100 = .ok (.bipush 45, 2) := by decide +kernel
theorem dX13_operand_102 : decode cX13_operand 102 = .ok (.invokevirtual 158, 3) := by decide +kernel
theorem dX13_operand_105 : decode cX13_operand 105 = .ok (.ifCond .ne 21, 3) := by decide +kernel
theorem dX13_operand_126 : decode cX13_operand 126 = .ok (.aload_n 0, 1) := by decide +kernel
theorem dX13_operand_127 : decode cX13_operand 127 = .ok (.getfield 56, 3) := by decide +kernel
theorem dX13_operand_130 : decode cX13_operand 130 = .ok (.aload_n 0, 1) := by decide +kernel
theorem dX13_operand_131 : decode cX13_operand 131 = .ok (.getfield 137, 3) := by decide +kernel
theorem dX13_operand_134 : decode cX13_operand 134 = .ok (.laload, 1) := by decide +kernel
theorem dX13_operand_135 : decode cX13_operand 135 = .ok (.l2i, 1) := by decide +kernel
theorem dX13_operand_136 : decode cX13_operand 136 = .ok (.istore_n 1, 1) := by decide +kernel
theorem dX13_operand_137 : decode cX13_operand 137 = .ok (.aload_n 0, 1) := by decide +kernel
theorem dX13_operand_138 : decode cX13_operand 138 = .ok (.invokevirtual 165, 3) := by decide +kernel
theorem dX13_operand_141 : decode cX13_operand 141 = .ok (.aload_n 0, 1) := by decide +kernel
theorem dX13_operand_142 : decode cX13_operand 142 = .ok (.invokevirtual 317, 3) := by decide +kernel
theorem tw_114 : (.code yX13_operand cX13_operand 2 none : Cond) ∈ tw_W := tw_in (by decide +kernel) (by decide +kernel)
theorem tw_115 : ∀ w ∈ ([.methodLink RX13 317 yX13_operand, .instanceMethod yX13_operand, .selects RX13 yX13_operand yX13_operand, .initialized RX13] : List Cond), w ∈ tw_W := tw_all (by decide +kernel)
theorem dX13_operand_145 : decode cX13_operand 145 = .ok (.aload_n 0, 1) := by decide +kernel
theorem dX13_operand_146 : decode cX13_operand 146 = .ok (.dup, 1) := by decide +kernel
theorem dX13_operand_147 : decode cX13_operand 147 = .ok (.getfield 151, 3) := by decide +kernel
theorem dX13_operand_150 : decode cX13_operand 150 = .ok (.iconst 1, 1) := by decide +kernel
theorem dX13_operand_151 : decode cX13_operand 151 = .ok (.isub, 1) := by decide +kernel
theorem dX13_operand_152 : decode cX13_operand 152 = .ok (.putfield 151, 3) := by decide +kernel
theorem dX13_operand_155 : decode cX13_operand 155 = .ok (.aload_n 0, 1) := by decide +kernel
theorem dX13_operand_156 : decode cX13_operand 156 = .ok (.iload_n 1, 1) := by decide +kernel
theorem dX13_operand_157 : decode cX13_operand 157 = .ok (.bipush 45, 2) := by decide +kernel
theorem dX13_operand_159 : decode cX13_operand 159 = .ok (.if_icmp .ne 17, 3) := by decide +kernel
theorem dX13_operand_176 : decode cX13_operand 176 = .ok (.iload_n 1, 1) := by decide +kernel
theorem dX13_operand_177 : decode cX13_operand 177 = .ok (.bipush 33, 2) := by decide +kernel
theorem dX13_operand_179 : decode cX13_operand 179 = .ok (.if_icmp .ne 17, 3) := by decide +kernel
theorem dX13_operand_196 : decode cX13_operand 196 = .ok (.bipush 19, 2) := by decide +kernel
theorem dX13_operand_198 : decode cX13_operand 198 = .ok (.iconst 4, 1) := by decide +kernel
theorem dX13_operand_199 : decode cX13_operand 199 = .ok (.bipush 10, 2) := by decide +kernel
theorem dX13_operand_201 : decode cX13_operand 201 = .ok (.bipush 10, 2) := by decide +kernel
theorem dX13_operand_203 : decode cX13_operand 203 = .ok (.iconst (-1), 1) := by decide +kernel
theorem dX13_operand_204 : decode cX13_operand 204 = .ok (.invokestatic 97, 3) := by decide +kernel
theorem dX13_operand_207 : decode cX13_operand 207 = .ok (.invokevirtual 111, 3) := by decide +kernel
theorem dX13_operand_210 : decode cX13_operand 210 = .ok (.pop, 1) := by decide +kernel
theorem dX13_operand_211 : decode cX13_operand 211 = .ok (.aload_n 0, 1) := by decide +kernel
theorem dX13_operand_212 : decode cX13_operand 212 = .ok (.iload_n 1, 1) := by decide +kernel
theorem dX13_operand_213 : decode cX13_operand 213 = .ok (.bipush 45, 2) := by decide +kernel
theorem dX13_operand_215 : decode cX13_operand 215 = .ok (.if_icmp .ne 8, 3) := by decide +kernel
theorem dX13_operand_223 : decode cX13_operand 223 = .ok (.iload_n 1, 1) := by decide +kernel
theorem dX13_operand_224 : decode cX13_operand 224 = .ok (.bipush 33, 2) := by decide +kernel
theorem dX13_operand_226 : decode cX13_operand 226 = .ok (.if_icmp .ne 8, 3) := by decide +kernel
theorem dX13_operand_234 : decode cX13_operand 234 = .ok (.bipush 20, 2) := by decide +kernel
theorem dX13_operand_236 : decode cX13_operand 236 = .ok (.iconst 0, 1) := by decide +kernel
theorem dX13_operand_237 : decode cX13_operand 237 = .ok (.invokevirtual 210, 3) := by decide +kernel
theorem dX13_operand_240 : decode cX13_operand 240 = .ok (.pop, 1) := by decide +kernel
theorem dX13_operand_241 : decode cX13_operand 241 = .ok (.goto 145, 3) := by decide +kernel
theorem dX13_operand_182 : decode cX13_operand 182 = .ok (.bipush 19, 2) := by decide +kernel
theorem dX13_operand_184 : decode cX13_operand 184 = .ok (.iconst 3, 1) := by decide +kernel
theorem dX13_operand_185 : decode cX13_operand 185 = .ok (.bipush 10, 2) := by decide +kernel
theorem dX13_operand_187 : decode cX13_operand 187 = .ok (.bipush 10, 2) := by decide +kernel
theorem dX13_operand_189 : decode cX13_operand 189 = .ok (.iconst 1, 1) := by decide +kernel
theorem dX13_operand_190 : decode cX13_operand 190 = .ok (.invokestatic 97, 3) := by decide +kernel
theorem dX13_operand_193 : decode cX13_operand 193 = .ok (.goto 14, 3) := by decide +kernel
theorem dX13_operand_229 : decode cX13_operand 229 = .ok (.bipush 19, 2) := by decide +kernel
theorem dX13_operand_231 : decode cX13_operand 231 = .ok (.goto 5, 3) := by decide +kernel
theorem dX13_operand_162 : decode cX13_operand 162 = .ok (.bipush 32, 2) := by decide +kernel
theorem dX13_operand_164 : decode cX13_operand 164 = .ok (.iconst 0, 1) := by decide +kernel
theorem dX13_operand_165 : decode cX13_operand 165 = .ok (.bipush 10, 2) := by decide +kernel
theorem dX13_operand_167 : decode cX13_operand 167 = .ok (.iconst 0, 1) := by decide +kernel
theorem dX13_operand_168 : decode cX13_operand 168 = .ok (.bipush 10, 2) := by decide +kernel
theorem dX13_operand_170 : decode cX13_operand 170 = .ok (.invokestatic 213, 3) := by decide +kernel
theorem dX13_operand_173 : decode cX13_operand 173 = .ok (.goto 34, 3) := by decide +kernel
theorem dX13_operand_218 : decode cX13_operand 218 = .ok (.bipush 18, 2) := by decide +kernel
theorem dX13_operand_220 : decode cX13_operand 220 = .ok (.goto 16, 3) := by decide +kernel
theorem dX13_operand_108 : decode cX13_operand 108 = .ok (.aload_n 0, 1) := by decide +kernel
theorem dX13_operand_109 : decode cX13_operand 109 = .ok (.bipush 33, 2) := by decide +kernel
theorem dX13_operand_111 : decode cX13_operand 111 = .ok (.invokevirtual 158, 3) := by decide +kernel
theorem dX13_operand_114 : decode cX13_operand 114 = .ok (.ifCond .ne 12, 3) := by decide +kernel
theorem dX13_operand_117 : decode cX13_operand 117 = .ok (.aload_n 0, 1) := by decide +kernel
theorem dX13_operand_118 : decode cX13_operand 118 = .ok (.bipush 126, 2) := by decide +kernel
theorem dX13_operand_120 : decode cX13_operand 120 = .ok (.invokevirtual 158, 3) := by decide +kernel
theorem dX13_operand_123 : decode cX13_operand 123 = .ok (.ifCond .eq 121, 3) := by decide +kernel
theorem dX13_operand_244 : decode cX13_operand 244 = .ok (.aload_n 0, 1) := by decide +kernel
theorem dX13_operand_245 : decode cX13_operand 245 = .ok (.bipush 40, 2) := by decide +kernel
theorem dX13_operand_247 : decode cX13_operand 247 = .ok (.invokevirtual 158, 3) := by decide +kernel
theorem dX13_operand_250 : decode cX13_operand 250 = .ok (.ifCond .eq 20, 3) := by decide +kernel
theorem dX13_operand_270 : decode cX13_operand 270 = .ok (.aload_n 0, 1) := by decide +kernel
theorem dX13_operand_271 : decode cX13_operand 271 = .ok (.bipush 10, 2) := by decide +kernel
theorem dX13_operand_273 : decode cX13_operand 273 = .ok (.invokevirtual 332, 3) := by decide +kernel
theorem tw_116 : (.code yX13_isKey cX13_isKey 2 (some .boolean) : Cond) ∈ tw_W := tw_in (by decide +kernel) (by decide +kernel)
theorem tw_117 : ∀ w ∈ ([.methodLink RX13 332 yX13_isKey, .instanceMethod yX13_isKey, .selects RX13 yX13_isKey yX13_isKey, .initialized RX13] : List Cond), w ∈ tw_W := tw_all (by decide +kernel)
theorem dX13_operand_276 : decode cX13_operand 276 = .ok (.ifCond .eq 49, 3) := by decide +kernel
theorem dX13_operand_325 : decode cX13_operand 325 = .ok (.aload_n 0, 1) := by decide +kernel
theorem dX13_operand_326 : decode cX13_operand 326 = .ok (.getfield 41, 3) := by decide +kernel
theorem dX13_operand_329 : decode cX13_operand 329 = .ok (.aload_n 0, 1) := by decide +kernel
theorem dX13_operand_330 : decode cX13_operand 330 = .ok (.getfield 137, 3) := by decide +kernel
theorem dX13_operand_333 : decode cX13_operand 333 = .ok (.iaload, 1) := by decide +kernel
theorem dX13_operand_334 : decode cX13_operand 334 = .ok (.iconst 2, 1) := by decide +kernel
theorem dX13_operand_335 : decode cX13_operand 335 = .ok (.if_icmp .ne 25, 3) := by decide +kernel
theorem dX13_operand_360 : decode cX13_operand 360 = .ok (.aload_n 0, 1) := by decide +kernel
theorem dX13_operand_361 : decode cX13_operand 361 = .ok (.getfield 41, 3) := by decide +kernel
theorem dX13_operand_364 : decode cX13_operand 364 = .ok (.aload_n 0, 1) := by decide +kernel
theorem dX13_operand_365 : decode cX13_operand 365 = .ok (.getfield 137, 3) := by decide +kernel
theorem dX13_operand_368 : decode cX13_operand 368 = .ok (.iaload, 1) := by decide +kernel
theorem dX13_operand_369 : decode cX13_operand 369 = .ok (.iconst 2, 1) := by decide +kernel
theorem dX13_operand_370 : decode cX13_operand 370 = .ok (.if_icmp .ne 11, 3) := by decide +kernel
theorem dX13_operand_381 : decode cX13_operand 381 = .ok (.aload_n 0, 1) := by decide +kernel
theorem dX13_operand_382 : decode cX13_operand 382 = .ok (.invokevirtual 161, 3) := by decide +kernel
theorem dX13_operand_385 : decode cX13_operand 385 = .ok (.athrow, 1) := by decide +kernel
theorem dX13_operand_338 : decode cX13_operand 338 = .ok (.aload_n 0, 1) := by decide +kernel
theorem dX13_operand_339 : decode cX13_operand 339 = .ok (.aload_n 0, 1) := by decide +kernel
theorem dX13_operand_340 : decode cX13_operand 340 = .ok (.getfield 137, 3) := by decide +kernel
theorem dX13_operand_343 : decode cX13_operand 343 = .ok (.iconst 1, 1) := by decide +kernel
theorem dX13_operand_344 : decode cX13_operand 344 = .ok (.iadd, 1) := by decide +kernel
theorem dX13_operand_345 : decode cX13_operand 345 = .ok (.bipush 40, 2) := by decide +kernel
theorem dX13_operand_347 : decode cX13_operand 347 = .ok (.invokevirtual 144, 3) := by decide +kernel
theorem dX13_operand_350 : decode cX13_operand 350 = .ok (.ifCond .eq 10, 3) := by decide +kernel
theorem dX13_operand_373 : decode cX13_operand 373 = .ok (.aload_n 0, 1) := by decide +kernel
theorem dX13_operand_374 : decode cX13_operand 374 = .ok (.iconst 0, 1) := by decide +kernel
theorem dX13_operand_375 : decode cX13_operand 375 = .ok (.invokevirtual 239, 3) := by decide +kernel
theorem tw_118 : (.code yX13_named cX13_named 7 none : Cond) ∈ tw_W := tw_in (by decide +kernel) (by decide +kernel)
theorem tw_119 : ∀ w ∈ ([.methodLink RX13 239 yX13_named, .instanceMethod yX13_named, .selects RX13 yX13_named yX13_named, .initialized RX13] : List Cond), w ∈ tw_W := tw_all (by decide +kernel)
theorem dX13_operand_378 : decode cX13_operand 378 = .ok (.goto 8, 3) := by decide +kernel
theorem dX13_operand_353 : decode cX13_operand 353 = .ok (.aload_n 0, 1) := by decide +kernel
theorem dX13_operand_354 : decode cX13_operand 354 = .ok (.invokevirtual 335, 3) := by decide +kernel
theorem tw_120 : (.code yX13_call cX13_call 6 none : Cond) ∈ tw_W := tw_in (by decide +kernel) (by decide +kernel)
theorem tw_121 : ∀ w ∈ ([.methodLink RX13 335 yX13_call, .instanceMethod yX13_call, .selects RX13 yX13_call yX13_call, .initialized RX13] : List Cond), w ∈ tw_W := tw_all (by decide +kernel)
theorem dX13_operand_357 : decode cX13_operand 357 = .ok (.goto 29, 3) := by decide +kernel
theorem dX13_operand_279 : decode cX13_operand 279 = .ok (.aload_n 0, 1) := by decide +kernel
theorem dX13_operand_280 : decode cX13_operand 280 = .ok (.invokevirtual 154, 3) := by decide +kernel
theorem dX13_operand_283 : decode cX13_operand 283 = .ok (.aload_n 0, 1) := by decide +kernel
theorem dX13_operand_284 : decode cX13_operand 284 = .ok (.bipush 40, 2) := by decide +kernel
theorem dX13_operand_286 : decode cX13_operand 286 = .ok (.invokevirtual 281, 3) := by decide +kernel
theorem dX13_operand_289 : decode cX13_operand 289 = .ok (.aload_n 0, 1) := by decide +kernel
theorem dX13_operand_290 : decode cX13_operand 290 = .ok (.bipush 41, 2) := by decide +kernel
theorem dX13_operand_292 : decode cX13_operand 292 = .ok (.invokevirtual 287, 3) := by decide +kernel
theorem dX13_operand_295 : decode cX13_operand 295 = .ok (.aload_n 0, 1) := by decide +kernel
theorem dX13_operand_296 : decode cX13_operand 296 = .ok (.bipush 17, 2) := by decide +kernel
theorem dX13_operand_298 : decode cX13_operand 298 = .ok (.iconst 0, 1) := by decide +kernel
theorem dX13_operand_299 : decode cX13_operand 299 = .ok (.iconst 2, 1) := by decide +kernel
theorem dX13_operand_300 : decode cX13_operand 300 = .ok (.invokestatic 219, 3) := by decide +kernel
theorem dX13_operand_303 : decode cX13_operand 303 = .ok (.invokevirtual 111, 3) := by decide +kernel
theorem dX13_operand_306 : decode cX13_operand 306 = .ok (.pop, 1) := by decide +kernel
theorem dX13_operand_307 : decode cX13_operand 307 = .ok (.aload_n 0, 1) := by decide +kernel
theorem dX13_operand_308 : decode cX13_operand 308 = .ok (.bipush 115, 2) := by decide +kernel
theorem dX13_operand_310 : decode cX13_operand 310 = .ok (.invokevirtual 111, 3) := by decide +kernel
theorem dX13_operand_313 : decode cX13_operand 313 = .ok (.pop, 1) := by decide +kernel
theorem dX13_operand_314 : decode cX13_operand 314 = .ok (.aload_n 0, 1) := by decide +kernel
theorem dX13_operand_315 : decode cX13_operand 315 = .ok (.bipush 17, 2) := by decide +kernel
theorem dX13_operand_317 : decode cX13_operand 317 = .ok (.iconst 0, 1) := by decide +kernel
theorem dX13_operand_318 : decode cX13_operand 318 = .ok (.invokevirtual 210, 3) := by decide +kernel
theorem dX13_operand_321 : decode cX13_operand 321 = .ok (.pop, 1) := by decide +kernel
theorem dX13_operand_322 : decode cX13_operand 322 = .ok (.goto 64, 3) := by decide +kernel
theorem dX13_operand_253 : decode cX13_operand 253 = .ok (.aload_n 0, 1) := by decide +kernel
theorem dX13_operand_254 : decode cX13_operand 254 = .ok (.invokevirtual 165, 3) := by decide +kernel
theorem dX13_operand_257 : decode cX13_operand 257 = .ok (.aload_n 0, 1) := by decide +kernel
theorem dX13_operand_258 : decode cX13_operand 258 = .ok (.invokevirtual 284, 3) := by decide +kernel
theorem dX13_operand_261 : decode cX13_operand 261 = .ok (.aload_n 0, 1) := by decide +kernel
theorem dX13_operand_262 : decode cX13_operand 262 = .ok (.bipush 41, 2) := by decide +kernel
theorem dX13_operand_264 : decode cX13_operand 264 = .ok (.invokevirtual 287, 3) := by decide +kernel
theorem dX13_operand_267 : decode cX13_operand 267 = .ok (.goto 119, 3) := by decide +kernel
def Cx_operand (l : Launch) (n : Nat) : Prop := ∀ (dC : Nat → ClassId) (dI : Nat → Nat → Nat) (cI cB cZ cJ cR : ClassId) (tb : Nat → Nat) (sz : Nat) (ad : Nat → Nat) (N : Nat) (v : MS)  (zn : 40 ≤ (v.1 0 48).toInt + (n : Int)) (zt : 0 ≤ (v.1 0 47).toInt ∧ (v.1 0 47).toInt ≤ 1500) (zop : 0 ≤ (v.1 0 48).toInt ∧ (v.1 0 48).toInt ≤ 40) (zkn : 0 ≤ (v.1 0 30).toInt ∧ (v.1 0 30).toInt ≤ 500) (zhi : 0 ≤ (v.1 0 33).toInt ∧ (v.1 0 33).toInt ≤ 500) (zs : 0 ≤ (v.1 0 32).toInt ∧ (v.1 0 30).toInt + (v.1 0 32).toInt ≤ (v.1 0 33).toInt) (zws : 0 ≤ (v.1 0 12).toInt ∧ (v.1 0 12).toInt ≤ 15 * (v.1 0 47).toInt + 2) (zos : 0 ≤ (v.1 0 15).toInt ∧ (v.1 0 15).toInt ≤ 10 * (v.1 0 47).toInt + 0) (zfs : 0 ≤ (v.1 0 43).toInt ∧ (v.1 0 43).toInt ≤ 15 * (v.1 0 47).toInt + 0) (zcs : 0 ≤ (v.1 0 39).toInt ∧ (v.1 0 39).toInt ≤ 1 * (v.1 0 47).toInt + 0) (zgl : 0 ≤ (v.1 0 27).toInt ∧ (v.1 0 27).toInt ≤ 60) (hT : TI v) (a29 : AR 29 0 1500 v) (a23 : AR 23 0 1500 v) (a35 : AR 35 0 1500 v) (a37 : AR 37 0 23999 v) (a38 : AR 38 0 15999 v) (a40 : AR 40 0 23999 v) (fx : FX v), vx_Met l yX13_operand (Cond.code yX13_operand cX13_operand 2 none :: tw_W) ({ frames := 40 * n + 9, cells := 0, slots := 0, locals := 28 * (40 * n + 9) }) (pc_ (dC, dI) (tyS cI cB cZ cJ cR) tb (mW ad N cI cZ cJ v) sz [.ref (ad 0)]) (qv_ (dC, dI) (mW ad N cI cZ cJ v) sz (fun (u : MS) => FG [12, 15, 32, 33, 39, 43, 44, 45, 47, 48, 49, 50, 51] [0, 11, 13, 14, 35, 36, 37, 38, 40, 41, 42] v u ∧ ((v.1 0 47).toInt + 1 ≤ (u.1 0 47).toInt ∧ (u.1 0 47).toInt ≤ 1500) ∧ ((v.1 0 49).toInt ≠ (v.1 0 47).toInt) ∧ ((v.1 0 12).toInt ≤ (u.1 0 12).toInt ∧ (u.1 0 12).toInt - 15 * (u.1 0 47).toInt ≤ (v.1 0 12).toInt - 15 * (v.1 0 47).toInt) ∧ ((v.1 0 15).toInt ≤ (u.1 0 15).toInt ∧ (u.1 0 15).toInt - 10 * (u.1 0 47).toInt ≤ (v.1 0 15).toInt - 10 * (v.1 0 47).toInt) ∧ ((v.1 0 43).toInt ≤ (u.1 0 43).toInt ∧ (u.1 0 43).toInt - 15 * (u.1 0 47).toInt ≤ (v.1 0 43).toInt - 15 * (v.1 0 47).toInt) ∧ ((v.1 0 39).toInt ≤ (u.1 0 39).toInt ∧ (u.1 0 39).toInt - 1 * (u.1 0 47).toInt ≤ (v.1 0 39).toInt - 1 * (v.1 0 47).toInt) ∧ ((u.1 0 32).toInt = (v.1 0 32).toInt ∧ (u.1 0 48).toInt = (v.1 0 48).toInt) ∧ ((v.1 0 33).toInt ≤ (u.1 0 33).toInt ∧ (u.1 0 33).toInt ≤ 500) ∧ (∀ j : Nat, (j : Int) < (v.1 0 12).toInt → (u.1 11) j = (v.1 11) j) ∧ (∀ j : Nat, (j : Int) < (v.1 0 15).toInt → (u.1 13) j = (v.1 13) j) ∧ (∀ j : Nat, (j : Int) < (v.1 0 15).toInt → (u.1 14) j = (v.1 14) j) ∧ (AR 35 0 1500 u) ∧ (AR 37 0 23999 u) ∧ (AR 38 0 15999 u) ∧ (AR 40 0 23999 u) ∧ (FX u)) (fun (u : MS) => (mW ad N cI cZ cJ u))) (qxm (dC, dI) (mW ad N cI cZ cJ v) sz (fun (u : MS) => (mW ad N cI cZ cJ u)) (fun (u : MS) => Fr v u)) 0 0 (va_A (mW ad N cI cZ cJ v) sz)
theorem om_e33521859d {x0 x1 : Int} (h0 : 0 ≤ x0 ∧ x0 ≤ 15 * x1 + 0) : 0 ≤ x1 := by omega
theorem om_6315528109 {x0 : Int} (h0 : x0 = (4 : Int)) (h1 : x0 ≠ (4 : Int)) : False := by omega
theorem om_dc0ef911ca {n0 : Nat} : 1 + 1 ≤ 40 * n0 + 9 := by omega
theorem om_1a3684fcd8 {n0 : Nat} : 8 + (1 + 11) + 22 ≤ 28 * (40 * n0 + 9) := by omega
theorem om_86eef57ede {n0 : Nat} : 2 + 1 ≤ 40 * n0 + 9 := by omega
theorem om_a3475e87b5 {n0 : Nat} : 8 + (2 + 11) + 46 ≤ 28 * (40 * n0 + 9) := by omega
theorem om_8eec673951 {x0 x1 x2 x3 x4 : Int} (h0 : x0 = (x1) + (1 : Int)) (h1 : x2 = x3) (h2 : x4 = x0) : x3 ≤ x2 ∧ x2 - 15 * x4 ≤ x3 - 15 * x1 := by omega
theorem om_114df80471 {x0 x1 : Int} (h0 : x0 ≠ x0) : x1 ≠ x0 := by omega
theorem om_8685d0996a {n0 : Nat} : 8 + (2 + 11) + 22 ≤ 28 * (40 * n0 + 9) := by omega
theorem om_750cfefb29 {n0 : Nat} : 8 + (1 + 11) + 42 ≤ 28 * (40 * n0 + 9) := by omega
theorem om_d13994734d {n0 n1 : Nat} (h0 : n0 = n1 + 1) : (40 * n1 + 9) + 1 ≤ 40 * n0 + 9 := by omega
theorem om_7349e8fe6d {n0 n1 : Nat} (h0 : n0 = n1 + 1) : 8 + (2 + 11) + 28 * (40 * n1 + 9) ≤ 28 * (40 * n0 + 9) := by omega
theorem om_fd17f2e70e {n0 : Nat} : 0 + 1 ≤ 40 * n0 + 9 := by omega
theorem om_4dd6cddcce {n0 : Nat} : 8 + (5 + 11) + 0 ≤ 28 * (40 * n0 + 9) := by omega
theorem om_4229287154 {n0 : Nat} : 8 + (2 + 11) + 0 ≤ 28 * (40 * n0 + 9) := by omega
theorem om_ab4ad5e078 {x0 x1 x2 x3 x4 : Int} (h0 : 0 ≤ x0 ∧ x0 ≤ 10 * x1 + 0) (h1 : x2 = (x1) + (1 : Int)) (h2 : x2 + 1 ≤ x3 ∧ x3 ≤ 1500) (h3 : x0 ≤ x4 ∧ x4 - 10 * x3 ≤ x0 - 10 * x2) : 0 ≤ x4 ∧ x4 < 16000 := by omega
theorem om_e79917e237 {n0 : Nat} : 8 + (3 + 11) + 0 ≤ 28 * (40 * n0 + 9) := by omega
theorem om_436cd0d872 {x0 x1 x2 x3 x4 : Int} (h0 : 0 ≤ x0 ∧ x0 ≤ 10 * x1 + 0) (h1 : x0 ≤ x2 ∧ x2 - 10 * x3 ≤ x0 - 10 * x4) : -2147483648 ≤ (x2) + (1 : Int) := by omega
theorem om_4b3fea160f {x0 x1 x2 x3 x4 : Int} (h0 : 0 ≤ x0 ∧ x0 ≤ 10 * x1 + 0) (h1 : x2 = (x1) + (1 : Int)) (h2 : x2 + 1 ≤ x3 ∧ x3 ≤ 1500) (h3 : x0 ≤ x4 ∧ x4 - 10 * x3 ≤ x0 - 10 * x2) : (x4) + (1 : Int) < 2147483648 := by omega
theorem om_ff8aa832bb {x0 x1 x2 : Int} (h0 : x0 = (x1) + (1 : Int)) (h1 : x0 + 1 ≤ x2 ∧ x2 ≤ 1500) : x1 + 1 ≤ x2 ∧ x2 ≤ 1500 := by omega
theorem om_7d9f5eca64 {x0 x1 x2 x3 x4 x5 : Int} (h0 : x0 = (x1) + (1 : Int)) (h1 : x2 ≤ x3 ∧ x3 - 15 * x4 ≤ x2 - 15 * x0) (h2 : x5 = (x3) + (1 : Int)) : x2 ≤ x5 ∧ x5 - 15 * x4 ≤ x2 - 15 * x1 := by omega
theorem om_e3c4ffe5ce {x0 x1 x2 x3 x4 x5 : Int} (h0 : x0 = (x1) + (1 : Int)) (h1 : x2 ≤ x3 ∧ x3 - 10 * x4 ≤ x2 - 10 * x0) (h2 : x5 = (x3) + (1 : Int)) : x2 ≤ x5 ∧ x5 - 10 * x4 ≤ x2 - 10 * x1 := by omega
theorem om_48209a9386 {x0 x1 x2 x3 x4 : Int} (h0 : x0 = (x1) + (1 : Int)) (h1 : x2 ≤ x3 ∧ x3 - 15 * x4 ≤ x2 - 15 * x0) : x2 ≤ x3 ∧ x3 - 15 * x4 ≤ x2 - 15 * x1 := by omega
theorem om_df731194be {x0 x1 x2 x3 x4 : Int} (h0 : x0 = (x1) + (1 : Int)) (h1 : x2 ≤ x3 ∧ x3 - 1 * x4 ≤ x2 - 1 * x0) : x2 ≤ x3 ∧ x3 - 1 * x4 ≤ x2 - 1 * x1 := by omega
theorem om_4a47b03b7f {x0 x1 x2 x3 x4 x5 : Int} (h0 : x0 = (x1) + (1 : Int)) (h1 : x2 = x3 ∧ x4 = x0) (h2 : x5 = (x4) - (1 : Int)) : x2 = x3 ∧ x5 = x1 := by omega
theorem om_6bc0cea141 {x0 x1 : Int} (h0 : x0 ≤ x1 ∧ x1 ≤ 500) : x0 ≤ x1 ∧ x1 ≤ 500 := by omega
theorem om_4b760a59ba {x0 x1 x2 x3 x4 : Int} (h0 : 0 ≤ x0 ∧ x0 ≤ 10 * x1 + 0) (h1 : x0 ≤ x2 ∧ x2 - 10 * x3 ≤ x0 - 10 * x4) : 0 ≤ x2 := by omega
theorem om_24f6a8216f {x0 x1 x2 x3 : Int} {n4 : Nat} (h0 : x0 ≤ x1 ∧ x1 - 10 * x2 ≤ x0 - 10 * x3) (h1 : (n4 : Int) < x0) : (n4 : Int) < x1 := by omega
theorem om_9d9908e07d {x0 : Int} (h0 : x0 ≠ (33 : Int)) (h1 : x0 = (33 : Int)) : False := by omega
theorem om_aab5508d07 {x0 : Int} (h0 : x0 ≠ (45 : Int)) (h1 : x0 = (45 : Int)) : False := by omega
theorem om_abbf94d96b {x0 : Int} (h0 : x0 = (33 : Int)) (h1 : x0 ≠ (33 : Int)) : False := by omega
theorem om_ac897fe355 {x0 : Int} (h0 : x0 = (33 : Int)) (h1 : x0 = (45 : Int)) : False := by omega
theorem om_bdc7d89919 {x0 : Int} (h0 : x0 = (45 : Int)) (h1 : x0 ≠ (45 : Int)) : False := by omega
theorem om_a9523442bb {x0 : Int} (h0 : x0 ≠ (2 : Int)) (h1 : x0 = (2 : Int)) : False := by omega
theorem om_6555dba5b7 {x0 : Int} (h0 : x0 = (2 : Int)) (h1 : x0 ≠ (2 : Int)) : False := by omega
theorem om_0093b55d27 {x0 x1 : Int} (h0 : 0 ≤ x0 ∧ x0 ≤ 15 * x1 + 2) : 0 ≤ x0 ∧ x0 ≤ 15 * x1 + 2 := by omega
theorem om_f99dd47f94 {x0 x1 : Int} (h0 : 0 ≤ x0 ∧ x0 ≤ 10 * x1 + 0) : 0 ≤ x0 ∧ x0 ≤ 10 * x1 + 0 := by omega
theorem om_116b0ae668 {x0 x1 : Int} (h0 : 0 ≤ x0 ∧ x0 ≤ 15 * x1 + 0) : 0 ≤ x0 ∧ x0 ≤ 15 * x1 + 0 := by omega
theorem om_081ea48693 {x0 x1 : Int} (h0 : 0 ≤ x0 ∧ x0 ≤ 1 * x1 + 0) : 0 ≤ x0 ∧ x0 ≤ 1 * x1 + 0 := by omega
theorem om_b0a4404262 {n0 : Nat} : (40 * n0 + 8) + 1 ≤ 40 * n0 + 9 := by omega
theorem om_0c05ba7e9c {n0 : Nat} : 8 + (7 + 11) + 28 * (40 * n0 + 8) ≤ 28 * (40 * n0 + 9) := by omega
theorem om_d90a70a533 {x0 x1 : Int} (h0 : x0 + 1 ≤ x1 ∧ x1 ≤ 1500) : x0 + 1 ≤ x1 ∧ x1 ≤ 1500 := by omega
theorem om_bd8d9916e4 {x0 x1 x2 x3 : Int} (h0 : x0 ≤ x1 ∧ x1 - 15 * x2 ≤ x0 - 15 * x3) : x0 ≤ x1 ∧ x1 - 15 * x2 ≤ x0 - 15 * x3 := by omega
theorem om_75227e8328 {x0 x1 x2 x3 : Int} (h0 : x0 ≤ x1 ∧ x1 - 10 * x2 ≤ x0 - 10 * x3) : x0 ≤ x1 ∧ x1 - 10 * x2 ≤ x0 - 10 * x3 := by omega
theorem om_da0fc15040 {x0 x1 x2 x3 : Int} (h0 : x0 ≤ x1 ∧ x1 - 1 * x2 ≤ x0 - 1 * x3) : x0 ≤ x1 ∧ x1 - 1 * x2 ≤ x0 - 1 * x3 := by omega
theorem om_d31db81a70 {x0 x1 x2 x3 : Int} (h0 : x0 = x1 ∧ x2 = x3) : x0 = x1 ∧ x2 = x3 := by omega
theorem om_dbb8b0dcf0 {n0 : Nat} : (40 * n0 + 7) + 1 ≤ 40 * n0 + 9 := by omega
theorem om_fd2fd97cdd {n0 : Nat} : 8 + (6 + 11) + 28 * (40 * n0 + 7) ≤ 28 * (40 * n0 + 9) := by omega
theorem om_6d05018a6e {n0 : Nat} : 3 + 1 ≤ 40 * n0 + 9 := by omega
theorem om_7cb4f31a39 {n0 : Nat} : 8 + (2 + 11) + 62 ≤ 28 * (40 * n0 + 9) := by omega
theorem om_fd9c2c6c65 {n0 : Nat} : 8 + (2 + 11) + 64 ≤ 28 * (40 * n0 + 9) := by omega
theorem om_62edcb27da {n0 : Nat} : 8 + (3 + 11) + 24 ≤ 28 * (40 * n0 + 9) := by omega
theorem om_b806649874 {x0 x1 : Int} (h0 : 0 ≤ x0 ∧ x0 ≤ 15 * x1 + 2) (h1 : x1 < 1500) : 0 ≤ x0 ∧ x0 < 24000 := by omega
theorem om_d6bdde0b99 {x0 x1 : Int} (h0 : 0 ≤ x0 ∧ x0 ≤ 15 * x1 + 2) : -2147483648 ≤ (x0) + (1 : Int) := by omega
theorem om_1b214d5a41 {x0 x1 : Int} (h0 : 0 ≤ x0 ∧ x0 ≤ 15 * x1 + 2) (h1 : x1 < 1500) : (x0) + (1 : Int) < 2147483648 := by omega
theorem om_124c434723 {x0 x1 : Int} (h0 : 0 ≤ x0 ∧ x0 ≤ 15 * x1 + 2) : 0 ≤ x0 := by omega
theorem om_fa1b810ce7 {x0 x1 x2 : Int} (h0 : 0 ≤ x0 ∧ x0 ≤ 15 * x1 + 2) (h1 : x1 < 1500) (h2 : x2 = ((x0) + (1 : Int))) : 0 ≤ x2 ∧ x2 < 24000 := by omega
theorem om_65cf0f3418 {x0 x1 x2 : Int} (h0 : 0 ≤ x0 ∧ x0 ≤ 15 * x1 + 2) (h1 : x2 = ((x0) + (1 : Int))) : -2147483648 ≤ (x2) + (1 : Int) := by omega
theorem om_d9342d4a0b {x0 x1 x2 : Int} (h0 : 0 ≤ x0 ∧ x0 ≤ 15 * x1 + 2) (h1 : x1 < 1500) (h2 : x2 = ((x0) + (1 : Int))) : (x2) + (1 : Int) < 2147483648 := by omega
theorem om_6570133be4 {x0 x1 x2 : Int} (h0 : x0 = ((x1) + (1 : Int)) + (1 : Int)) (h1 : x0 < 1500) (h2 : x2 = ((((x1) + (1 : Int)) + (1 : Int)) + (1 : Int))) : x1 + 1 ≤ x2 ∧ x2 ≤ 1500 := by omega
theorem om_4902d2b3ad {x0 x1 x2 x3 x4 : Int} (h0 : x0 = ((x1) + (1 : Int))) (h1 : x2 = ((((x3) + (1 : Int)) + (1 : Int)) + (1 : Int))) (h2 : x4 = (x0) + (1 : Int)) : x1 ≤ x4 ∧ x4 - 15 * x2 ≤ x1 - 15 * x3 := by omega
theorem om_b8d1f5abe6 {x0 x1 x2 x3 x4 : Int} (h0 : x0 = x1) (h1 : x2 = ((((x3) + (1 : Int)) + (1 : Int)) + (1 : Int))) (h2 : x4 = (x0) + (1 : Int)) : x1 ≤ x4 ∧ x4 - 10 * x2 ≤ x1 - 10 * x3 := by omega
theorem om_dd965030e3 {x0 x1 x2 x3 : Int} (h0 : x0 = x1) (h1 : x2 = ((((x3) + (1 : Int)) + (1 : Int)) + (1 : Int))) : x1 ≤ x0 ∧ x0 - 15 * x2 ≤ x1 - 15 * x3 := by omega
theorem om_60c0be4d9c {x0 x1 x2 x3 : Int} (h0 : x0 = x1) (h1 : x2 = ((((x3) + (1 : Int)) + (1 : Int)) + (1 : Int))) : x1 ≤ x0 ∧ x0 - 1 * x2 ≤ x1 - 1 * x3 := by omega
theorem om_5f0879c10a {x0 x1 x2 x3 : Int} (h0 : x0 = x1) (h1 : x2 = (((x3) + (1 : Int)) - (1 : Int))) : x0 = x1 ∧ x2 = x3 := by omega
theorem om_87b637de41 {x0 x1 x2 : Int} (h0 : 0 ≤ x0 ∧ x0 ≤ 15 * x1 + 2) (h1 : x2 = ((x0) + (1 : Int))) : 0 ≤ x2 := by omega
theorem om_caf7b1eac4 {x0 x1 : Int} {n2 : Nat} (h0 : x0 = ((x1) + (1 : Int))) (h1 : (n2 : Int) < x1) : (n2 : Int) < x0 := by omega
theorem om_4dfbc8dfb8 {n0 n1 : Nat} (h0 : n0 = n1 + 1) : (40 * n1 + 36) + 1 ≤ 40 * n0 + 9 := by omega
theorem om_553a1ca9ee {n0 n1 : Nat} (h0 : n0 = n1 + 1) : 8 + (1 + 11) + 28 * (40 * n1 + 36) ≤ 28 * (40 * n0 + 9) := by omega
theorem om_05d8e7cb47 {x0 x1 x2 x3 : Int} (h0 : x0 = (x1) + (1 : Int)) (h1 : x0 + 1 ≤ x2 ∧ x2 ≤ 1500) (h2 : x3 = (x2) + (1 : Int)) (h3 : x2 < 1500) : x1 + 1 ≤ x3 ∧ x3 ≤ 1500 := by omega
theorem om_dbf5486fb7 {x0 x1 x2 x3 x4 x5 : Int} (h0 : x0 = (x1) + (1 : Int)) (h1 : x2 ≤ x3 ∧ x3 - 15 * x4 ≤ x2 - 15 * x0) (h2 : x5 = (x4) + (1 : Int)) : x2 ≤ x3 ∧ x3 - 15 * x5 ≤ x2 - 15 * x1 := by omega
theorem om_1011bbd17d {x0 x1 x2 x3 x4 x5 : Int} (h0 : x0 = (x1) + (1 : Int)) (h1 : x2 ≤ x3 ∧ x3 - 10 * x4 ≤ x2 - 10 * x0) (h2 : x5 = (x4) + (1 : Int)) : x2 ≤ x3 ∧ x3 - 10 * x5 ≤ x2 - 10 * x1 := by omega
theorem om_5332a23ecb {x0 x1 x2 x3 x4 x5 : Int} (h0 : x0 = (x1) + (1 : Int)) (h1 : x2 ≤ x3 ∧ x3 - 1 * x4 ≤ x2 - 1 * x0) (h2 : x5 = (x4) + (1 : Int)) : x2 ≤ x3 ∧ x3 - 1 * x5 ≤ x2 - 1 * x1 := by omega
theorem om_75afaa67ab {x0 : Int} (h0 : x0 = (6 : Int)) (h1 : x0 = (4 : Int)) : False := by omega
set_option maxHeartbeats 16000000 in
set_option maxRecDepth 100000 in
theorem c_m_operand (l : Launch) (n : Nat) (ihE : ∀ m, n = m + 1 → Cx_expression l m) (ihO : ∀ m, n = m + 1 → Cx_operand l m) (dC : Nat → ClassId) (dI : Nat → Nat → Nat) (cI cB cZ cJ cR : ClassId) (tb : Nat → Nat) (sz : Nat) (ad : Nat → Nat) (N : Nat) (v : MS)  (zn : 40 ≤ (v.1 0 48).toInt + (n : Int)) (zt : 0 ≤ (v.1 0 47).toInt ∧ (v.1 0 47).toInt ≤ 1500) (zop : 0 ≤ (v.1 0 48).toInt ∧ (v.1 0 48).toInt ≤ 40) (zkn : 0 ≤ (v.1 0 30).toInt ∧ (v.1 0 30).toInt ≤ 500) (zhi : 0 ≤ (v.1 0 33).toInt ∧ (v.1 0 33).toInt ≤ 500) (zs : 0 ≤ (v.1 0 32).toInt ∧ (v.1 0 30).toInt + (v.1 0 32).toInt ≤ (v.1 0 33).toInt) (zws : 0 ≤ (v.1 0 12).toInt ∧ (v.1 0 12).toInt ≤ 15 * (v.1 0 47).toInt + 2) (zos : 0 ≤ (v.1 0 15).toInt ∧ (v.1 0 15).toInt ≤ 10 * (v.1 0 47).toInt + 0) (zfs : 0 ≤ (v.1 0 43).toInt ∧ (v.1 0 43).toInt ≤ 15 * (v.1 0 47).toInt + 0) (zcs : 0 ≤ (v.1 0 39).toInt ∧ (v.1 0 39).toInt ≤ 1 * (v.1 0 47).toInt + 0) (zgl : 0 ≤ (v.1 0 27).toInt ∧ (v.1 0 27).toInt ≤ 60) (hT : TI v) (a29 : AR 29 0 1500 v) (a23 : AR 23 0 1500 v) (a35 : AR 35 0 1500 v) (a37 : AR 37 0 23999 v) (a38 : AR 38 0 15999 v) (a40 : AR 40 0 23999 v) (fx : FX v) : vx_Met l yX13_operand (Cond.code yX13_operand cX13_operand 2 none :: tw_W) ({ frames := 40 * n + 9, cells := 0, slots := 0, locals := 28 * (40 * n + 9) }) (pc_ (dC, dI) (tyS cI cB cZ cJ cR) tb (mW ad N cI cZ cJ v) sz [.ref (ad 0)]) (qv_ (dC, dI) (mW ad N cI cZ cJ v) sz (fun (u : MS) => FG [12, 15, 32, 33, 39, 43, 44, 45, 47, 48, 49, 50, 51] [0, 11, 13, 14, 35, 36, 37, 38, 40, 41, 42] v u ∧ ((v.1 0 47).toInt + 1 ≤ (u.1 0 47).toInt ∧ (u.1 0 47).toInt ≤ 1500) ∧ ((v.1 0 49).toInt ≠ (v.1 0 47).toInt) ∧ ((v.1 0 12).toInt ≤ (u.1 0 12).toInt ∧ (u.1 0 12).toInt - 15 * (u.1 0 47).toInt ≤ (v.1 0 12).toInt - 15 * (v.1 0 47).toInt) ∧ ((v.1 0 15).toInt ≤ (u.1 0 15).toInt ∧ (u.1 0 15).toInt - 10 * (u.1 0 47).toInt ≤ (v.1 0 15).toInt - 10 * (v.1 0 47).toInt) ∧ ((v.1 0 43).toInt ≤ (u.1 0 43).toInt ∧ (u.1 0 43).toInt - 15 * (u.1 0 47).toInt ≤ (v.1 0 43).toInt - 15 * (v.1 0 47).toInt) ∧ ((v.1 0 39).toInt ≤ (u.1 0 39).toInt ∧ (u.1 0 39).toInt - 1 * (u.1 0 47).toInt ≤ (v.1 0 39).toInt - 1 * (v.1 0 47).toInt) ∧ ((u.1 0 32).toInt = (v.1 0 32).toInt ∧ (u.1 0 48).toInt = (v.1 0 48).toInt) ∧ ((v.1 0 33).toInt ≤ (u.1 0 33).toInt ∧ (u.1 0 33).toInt ≤ 500) ∧ (∀ j : Nat, (j : Int) < (v.1 0 12).toInt → (u.1 11) j = (v.1 11) j) ∧ (∀ j : Nat, (j : Int) < (v.1 0 15).toInt → (u.1 13) j = (v.1 13) j) ∧ (∀ j : Nat, (j : Int) < (v.1 0 15).toInt → (u.1 14) j = (v.1 14) j) ∧ (AR 35 0 1500 u) ∧ (AR 37 0 23999 u) ∧ (AR 38 0 15999 u) ∧ (AR 40 0 23999 u) ∧ (FX u)) (fun (u : MS) => (mW ad N cI cZ cJ u))) (qxm (dC, dI) (mW ad N cI cZ cJ v) sz (fun (u : MS) => (mW ad N cI cZ cJ u)) (fun (u : MS) => Fr v u)) 0 0 (va_A (mW ad N cI cZ cJ v) sz) := by
  refine vx_ofW (cc := cX13_operand) (maxL := 2) (ret := none) (by decide) rfl ?_
  intro p e s m args below meth c s₁ B hml hnt hv
  obtain ⟨rfl, hsz, hP, hKK, hD0, hFx⟩ := hv
  have hK := hKK.1
  have hx := B.exec
  have hb := B.bytes
  have hr := B.returns
  have ht : ∀ w ∈ tw_W, w.before _ s = true := fun w h => atoms_spec (ws := Cond.code yX13_operand cX13_operand 2 none :: tw_W) B.pre w (List.mem_cons_of_mem _ h)
  have hown : s.vm.findClass RX13 = some m.cls := findClass_of_methodNamed B.named
  have hlocks := B.notSynchronized
  subst hsz
  unfold qv_ qxm
  have hD := hD0.self (sz := s.heap.size)
  generalize hAe : va_A (mW ad N cI cZ cJ v) s.heap.size = A at hD hFx ⊢
  have hA : ∀ q : Nat, s.heap.size ≤ q → A q := fun q h => by rw [← hAe]; exact Or.inr h
  have hS : va_S A s.heap s.heap [] := va_S.rf
  have hl := lv_entry ([.ref (ad 0)]) (n := 2) (Nat.le_of_ble_eq_true rfl)
  rw [lg_entry_eq]
  generalize (lg_sl ([.ref (ad 0)]) ++ List.replicate (2 - (lg_sl ([.ref (ad 0)])).length) Slot.unset).toArray = ls at hl ⊢
  have hl : lv_has ls 2 [(0, .ref (ad 0))] := hl
  refine lv_aload_n hx hb dX13_operand_0 rfl (lv_at hl 0 rfl) ?_
  refine va_get (D := (dC, dI)) (ci := 16) (fs := mF ad v) (v := .ref (ad 6)) (C := RX13) (T := TX13) (N := 124) hx hb ht itX13 hown hK hP 0 rfl rfl 6 (by decide) (ht _ tw_23) (fun _ h9 => h9) rfl dX13_operand_1 ?_
  refine lv_aload_n hx hb dX13_operand_4 rfl (lv_at hl 0 rfl) ?_
  refine va_get (D := (dC, dI)) (ci := 16) (fs := mF ad v) (v := .int (v.1 0 47)) (C := RX13) (T := TX13) (N := 124) hx hb ht itX13 hown hK hP 0 rfl rfl 47 (by decide) (ht _ tw_24) (fun _ h9 => h9) rfl dX13_operand_5 ?_
  refine va_iald (D := (dC, dI)) (f := (v.1 6)) hx hb hK hP 3 0 rfl rfl (in_y (a := (v.1 0 47).toInt) (b := 4002) rfl (om_e33521859d zfs) (om_449eb7e9bb zt) rfl) dX13_operand_8 ?_
  refine lv_iconst (v := 4) hx hb dX13_operand_9 (by decide) ?_
  refine lv_icmp_eq (tgt := 27) hx hb dX13_operand_10 (by decide) (fun h1 => ?_) (fun h1 => ?_)
  · have z2 : ((v.1 6) (v.1 0 47).toNatClampNeg).toInt = (4 : Int) := eq_z rfl (show (4 : Int32).toInt = (4 : Int) by decide) h1
    refine lv_aload_n hx hb dX13_operand_27 rfl (lv_at hl 0 rfl) ?_
    refine va_get (D := (dC, dI)) (ci := 16) (fs := mF ad v) (v := .ref (ad 6)) (C := RX13) (T := TX13) (N := 124) hx hb ht itX13 hown hK hP 0 rfl rfl 6 (by decide) (ht _ tw_23) (fun _ h9 => h9) rfl dX13_operand_28 ?_
    refine lv_aload_n hx hb dX13_operand_31 rfl (lv_at hl 0 rfl) ?_
    refine va_get (D := (dC, dI)) (ci := 16) (fs := mF ad v) (v := .int (v.1 0 47)) (C := RX13) (T := TX13) (N := 124) hx hb ht itX13 hown hK hP 0 rfl rfl 47 (by decide) (ht _ tw_24) (fun _ h9 => h9) rfl dX13_operand_32 ?_
    refine va_iald (D := (dC, dI)) (f := (v.1 6)) hx hb hK hP 3 0 rfl rfl (in_y (a := (v.1 0 47).toInt) (b := 4002) rfl (om_e33521859d zfs) (om_449eb7e9bb zt) rfl) dX13_operand_35 ?_
    refine lv_iconst (v := 4) hx hb dX13_operand_36 (by decide) ?_
    refine lv_icmp_ne (tgt := 76) hx hb dX13_operand_37 (by decide) (fun h3 => ?_) (fun h3 => ?_)
    · have z4 : ((v.1 6) (v.1 0 47).toNatClampNeg).toInt ≠ (4 : Int) := ne_z rfl (show (4 : Int32).toInt = (4 : Int) by decide) h3
      exact False.elim (om_6315528109 z2 z4)
    · have z5 : ((v.1 6) (v.1 0 47).toNatClampNeg).toInt = (4 : Int) := eq_z rfl (show (4 : Int32).toInt = (4 : Int) by decide) h3
      refine lv_aload_n hx hb dX13_operand_40 rfl (lv_at hl 0 rfl) ?_
      refine va_get (D := (dC, dI)) (ci := 16) (fs := mF ad v) (v := .ref (ad 10)) (C := RX13) (T := TX13) (N := 124) hx hb ht itX13 hown hK hP 0 rfl rfl 10 (by decide) (ht _ tw_110) (fun _ h9 => h9) rfl dX13_operand_41 ?_
      refine lv_aload_n hx hb dX13_operand_44 rfl (lv_at hl 0 rfl) ?_
      refine va_get (D := (dC, dI)) (ci := 16) (fs := mF ad v) (v := .int (v.1 0 47)) (C := RX13) (T := TX13) (N := 124) hx hb ht itX13 hown hK hP 0 rfl rfl 47 (by decide) (ht _ tw_24) (fun _ h9 => h9) rfl dX13_operand_45 ?_
      refine va_zald (D := (dC, dI)) (f := (v.1 10)) hx hb hK hP 7 2 rfl rfl (in_y (a := (v.1 0 47).toInt) (b := 4002) rfl (om_e33521859d zfs) (om_449eb7e9bb zt) rfl) dX13_operand_48 ?_
      refine lv_if_eq (tgt := 76) hx hb dX13_operand_49 (by decide) (fun h6 => ?_) (fun h6 => ?_)
      · have z7 : ((v.1 10) (v.1 0 47).toNatClampNeg).toInt = (0 : Int) := eq_z rfl (show (0 : Int32).toInt = (0 : Int) by decide) h6
        refine lv_aload_n hx hb dX13_operand_76 rfl (lv_at hl 0 rfl) ?_
        refine va_get (D := (dC, dI)) (ci := 16) (fs := mF ad v) (v := .ref (ad 9)) (C := RX13) (T := TX13) (N := 124) hx hb ht itX13 hown hK hP 0 rfl rfl 9 (by decide) (ht _ tw_27) (fun _ h9 => h9) rfl dX13_operand_77 ?_
        refine lv_aload_n hx hb dX13_operand_80 rfl (lv_at hl 0 rfl) ?_
        refine va_get (D := (dC, dI)) (ci := 16) (fs := mF ad v) (v := .int (v.1 0 47)) (C := RX13) (T := TX13) (N := 124) hx hb ht itX13 hown hK hP 0 rfl rfl 47 (by decide) (ht _ tw_24) (fun _ h9 => h9) rfl dX13_operand_81 ?_
        refine va_lald (D := (dC, dI)) (f := v.2) hx hb hK hP 6 3 rfl rfl (in_y (a := (v.1 0 47).toInt) (b := 4002) rfl (om_e33521859d zfs) (om_449eb7e9bb zt) rfl) dX13_operand_84 ?_
        refine lv_l2i hx hb dX13_operand_85 rfl ?_
        refine lv_istore_n (lv' := [(1, .int ((v.2 (v.1 0 47).toNatClampNeg).toInt32)), (0, .ref (ad 0))]) hx hb dX13_operand_86 rfl hl (by decide) rfl (fun ls hl => ?_)
        refine lv_aload_n hx hb dX13_operand_87 rfl (lv_at hl 1 rfl) ?_
        refine cux_v (rx_V (n := 0) (As := []) (rest := []) hx hb hml hown ht hKK hFx hP hD hS hA (c_m_take l dC dI cI cB cZ cJ cR tb s.heap.size ad N v  (show 0 ≤ (v.1 0 47).toInt ∧ (v.1 0 47).toInt ≤ 1500 from (om_2fb699b811 zt zfs))) tw_32 tw_33 (by decide +kernel) rfl rfl ⟨show 1 + 1 ≤ 40 * n + 9 from om_dc0ef911ca, show 8 + (1 + 11) + 22 ≤ 28 * (40 * n + 9) from om_1a3684fcd8⟩ (List.range (mW ad N cI cZ cJ v).length) (rg_map _) (mW_nd _ _ _ _ _ _) rfl rfl rfl rfl hl.1 rfl (Nat.le_of_ble_eq_true rfl) dX13_operand_88 ⟨Nat.le_of_ble_eq_true rfl, Nat.le_of_ble_eq_true rfl⟩) hP hD hS hA (fun u9 ce9 q9 H locs hx9 hP hD hS hc9 hv9 hf9 => ?_) (fun u9 H locs hw8 hP hD hS => ?_)
        · exact vx_out (fun x h9 => (hnt x h9).elim) hlocks hc9 hv9 hf9 (fun t9 ht9 hv8 => ⟨u9, (FG.tr (FG.rf _) hx9), ⟨rfl, by rw [ht9]; exact hP, hD⟩, hS.F ht9⟩) hS.2.2 (Nat.le_refl _) (Nat.le_refl _)
        obtain ⟨rfl, a8, b8⟩ := hw8
        have z11 : ((v.1 0 47) + (1 : Int32)).toInt = ((v.1 0 47).toInt) + (1 : Int) := add_z rfl (show (1 : Int32).toInt = (1 : Int) by decide) (om_3eca9b17a5 zws) (om_27eb55d06c zt)
        have hP : va_P (dC, dI) vwCl (mW ad N cI cZ cJ (wA v 0 47 ((v.1 0 47) + (1 : Int32)))) H := hP
        have hD : va_D A (mW ad N cI cZ cJ (wA v 0 47 ((v.1 0 47) + (1 : Int32)))) := hD
        refine W.widen (k := 0) (n := 0) (Nat.le_refl _) (Nat.le_refl _) ?_
        refine lv_aload_n hx hb dX13_operand_91 rfl (lv_at hl 1 rfl) ?_
        refine lv_iload_n hx hb dX13_operand_92 rfl (lv_at hl 0 rfl) ?_
        refine cu_v (rn_V (n := 1) (As := [.int ((v.2 (v.1 0 47).toNatClampNeg).toInt32)]) (rest := []) hx hb hml hown ht hKK hFx hP hD hS hA (c_m_loads l dC dI cI cB cZ cJ cR tb H.size ad N (wA v 0 47 ((v.1 0 47) + (1 : Int32))) ((v.2 (v.1 0 47).toNatClampNeg).toInt32) (show 0 ≤ (v.1 0 12).toInt ∧ (v.1 0 12).toInt ≤ 23980 from (om_2fbbc6575c zws a8)) (show 0 ≤ (v.1 0 15).toInt ∧ (v.1 0 15).toInt ≤ 15980 from (om_1b8bc4dd59 zos a8))) tw_111 tw_112 (by decide +kernel) rfl rfl ⟨show 2 + 1 ≤ 40 * n + 9 from om_86eef57ede, show 8 + (2 + 11) + 46 ≤ 28 * (40 * n + 9) from om_a3475e87b5⟩ (List.range (mW ad N cI cZ cJ (wA v 0 47 ((v.1 0 47) + (1 : Int32)))).length) (rg_map _) (mW_nd _ _ _ _ _ _) rfl rfl rfl rfl hl.1 rfl (Nat.le_of_ble_eq_true rfl) dX13_operand_93 ⟨Nat.le_of_ble_eq_true rfl, Nat.le_of_ble_eq_true rfl⟩) hP hD hS hA (fun u13 H locs hw12 hP hD hS => ?_)
        obtain ⟨fr12, pw12, po12, kc12, ko12, kg12⟩ := hw12
        have pw12 : (v.1 0 12).toInt ≤ (u13.1 0 12).toInt ∧ (u13.1 0 12).toInt ≤ (v.1 0 12).toInt + 2 := pw12
        have po12 : (u13.1 0 15).toInt = (v.1 0 15).toInt + 1 := po12
        have kc12 : ∀ j : Nat, (j : Int) < (v.1 0 12).toInt → (u13.1 11) j = (v.1 11) j := kc12
        have ko12 : ∀ j : Nat, (j : Int) < (v.1 0 15).toInt → (u13.1 13) j = (v.1 13) j := ko12
        have kg12 : ∀ j : Nat, (j : Int) < (v.1 0 15).toInt → (u13.1 14) j = (v.1 14) j := kg12
        refine W.widen (k := 0) (n := 0) (Nat.le_refl _) (Nat.le_refl _) ?_
        refine lv_goto (tgt := 386) hx hb dX13_operand_96 (by decide) ?_
        have q15 : (u13.1 0 47).toInt = ((v.1 0 47) + (1 : Int32)).toInt := congrArg Int32.toInt ((fr12.2.1 47 (by decide)).trans (show (wA v 0 47 ((v.1 0 47) + (1 : Int32))).1 0 47 = ((v.1 0 47) + (1 : Int32)) by rfl))
        have q16 : (u13.1 0 43).toInt = (v.1 0 43).toInt := congrArg Int32.toInt ((fr12.2.1 43 (by decide)).trans (show (wA v 0 47 ((v.1 0 47) + (1 : Int32))).1 0 43 = (v.1 0 43) by rfl))
        have q17 : (u13.1 0 39).toInt = (v.1 0 39).toInt := congrArg Int32.toInt ((fr12.2.1 39 (by decide)).trans (show (wA v 0 47 ((v.1 0 47) + (1 : Int32))).1 0 39 = (v.1 0 39) by rfl))
        have q18 : (u13.1 0 32).toInt = (v.1 0 32).toInt := congrArg Int32.toInt ((fr12.2.1 32 (by decide)).trans (show (wA v 0 47 ((v.1 0 47) + (1 : Int32))).1 0 32 = (v.1 0 32) by rfl))
        have q19 : (u13.1 0 48).toInt = (v.1 0 48).toInt := congrArg Int32.toInt ((fr12.2.1 48 (by decide)).trans (show (wA v 0 47 ((v.1 0 47) + (1 : Int32))).1 0 48 = (v.1 0 48) by rfl))
        have q20 : (u13.1 0 33).toInt = (v.1 0 33).toInt := congrArg Int32.toInt ((fr12.2.1 33 (by decide)).trans (show (wA v 0 47 ((v.1 0 47) + (1 : Int32))).1 0 33 = (v.1 0 33) by rfl))
        refine vx_ret ?_
        exact W.vret hx hb hr (fun t ht9 hW => ⟨⟨u13, rfl, ⟨(FG.tr (FG.f (FG.rf _) ((v.1 0 47) + (1 : Int32)) (by decide)) (FG.up fr12 (by decide) (by decide))), (show (v.1 0 47).toInt + 1 ≤ (u13.1 0 47).toInt ∧ (u13.1 0 47).toInt ≤ 1500 from (om_413e830c37 z11 a8 q15)), (show (v.1 0 49).toInt ≠ (v.1 0 47).toInt from (om_32294a9ce4 b8)), (show (v.1 0 12).toInt ≤ (u13.1 0 12).toInt ∧ (u13.1 0 12).toInt - 15 * (u13.1 0 47).toInt ≤ (v.1 0 12).toInt - 15 * (v.1 0 47).toInt from (om_ed0943c3b0 z11 q15 pw12)), (show (v.1 0 15).toInt ≤ (u13.1 0 15).toInt ∧ (u13.1 0 15).toInt - 10 * (u13.1 0 47).toInt ≤ (v.1 0 15).toInt - 10 * (v.1 0 47).toInt from (om_4820e362bc z11 q15 po12)), (show (v.1 0 43).toInt ≤ (u13.1 0 43).toInt ∧ (u13.1 0 43).toInt - 15 * (u13.1 0 47).toInt ≤ (v.1 0 43).toInt - 15 * (v.1 0 47).toInt from (om_8eec673951 z11 q16 q15)), (show (v.1 0 39).toInt ≤ (u13.1 0 39).toInt ∧ (u13.1 0 39).toInt - 1 * (u13.1 0 47).toInt ≤ (v.1 0 39).toInt - 1 * (v.1 0 47).toInt from (om_6a648d8dbc z11 q17 q15)), (show (u13.1 0 32).toInt = (v.1 0 32).toInt ∧ (u13.1 0 48).toInt = (v.1 0 48).toInt from (om_d5149004fa q18 q19)), (show (v.1 0 33).toInt ≤ (u13.1 0 33).toInt ∧ (u13.1 0 33).toInt ≤ 500 from (om_bc6fc57d17 zhi q20)), (fun (j9 : Nat) hj9 => (kc12 j9 (om_4fe904e9bf hj9))), (fun (j9 : Nat) hj9 => (ko12 j9 (om_4fe904e9bf hj9))), (fun (j9 : Nat) hj9 => (kg12 j9 (om_4fe904e9bf hj9))), (show AR 35 0 1500 u13 from AR.fr (fl := [12, 15]) (al := [0, 11, 13, 14]) fr12 (by decide) (AR.o a35 (by decide))), (show AR 37 0 23999 u13 from AR.fr (fl := [12, 15]) (al := [0, 11, 13, 14]) fr12 (by decide) (AR.o a37 (by decide))), (show AR 38 0 15999 u13 from AR.fr (fl := [12, 15]) (al := [0, 11, 13, 14]) fr12 (by decide) (AR.o a38 (by decide))), (show AR 40 0 23999 u13 from AR.fr (fl := [12, 15]) (al := [0, 11, 13, 14]) fr12 (by decide) (AR.o a40 (by decide))), (show FX u13 from FX.fr (fl := [12, 15]) (al := [0, 11, 13, 14]) fr12 (by decide) (by decide) (FX.o fx (by decide) (by decide)))⟩, by rw [ht9]; exact hP, hD⟩, hS.F ht9⟩) hS.2.2 dX13_operand_386
      · have z21 : ((v.1 10) (v.1 0 47).toNatClampNeg).toInt ≠ (0 : Int) := ne_z rfl (show (0 : Int32).toInt = (0 : Int) by decide) h6
        refine lv_aload_n hx hb dX13_operand_52 rfl (lv_at hl 0 rfl) ?_
        refine va_get (D := (dC, dI)) (ci := 16) (fs := mF ad v) (v := .ref (ad 9)) (C := RX13) (T := TX13) (N := 124) hx hb ht itX13 hown hK hP 0 rfl rfl 9 (by decide) (ht _ tw_27) (fun _ h9 => h9) rfl dX13_operand_53 ?_
        refine lv_aload_n hx hb dX13_operand_56 rfl (lv_at hl 0 rfl) ?_
        refine va_get (D := (dC, dI)) (ci := 16) (fs := mF ad v) (v := .int (v.1 0 47)) (C := RX13) (T := TX13) (N := 124) hx hb ht itX13 hown hK hP 0 rfl rfl 47 (by decide) (ht _ tw_24) (fun _ h9 => h9) rfl dX13_operand_57 ?_
        refine va_lald (D := (dC, dI)) (f := v.2) hx hb hK hP 6 3 rfl rfl (in_y (a := (v.1 0 47).toInt) (b := 4002) rfl (om_e33521859d zfs) (om_449eb7e9bb zt) rfl) dX13_operand_60 ?_
        refine lv_ldc2 (v := 2147483647) hx hb hown (ht _ tw_113) dX13_operand_61 ?_
        refine W.lcmp hx hb dX13_operand_64 ?_
        refine lv_if_le (tgt := 76) hx hb dX13_operand_65 (by decide) (fun h22 => ?_) (fun h22 => ?_)
        · have z23 : (lg_cmp (v.2 (v.1 0 47).toNatClampNeg) (2147483647 : Int64)).toInt ≤ (0 : Int) := le_z rfl (show (0 : Int32).toInt = (0 : Int) by decide) h22
          refine lv_aload_n hx hb dX13_operand_76 rfl (lv_at hl 0 rfl) ?_
          refine va_get (D := (dC, dI)) (ci := 16) (fs := mF ad v) (v := .ref (ad 9)) (C := RX13) (T := TX13) (N := 124) hx hb ht itX13 hown hK hP 0 rfl rfl 9 (by decide) (ht _ tw_27) (fun _ h9 => h9) rfl dX13_operand_77 ?_
          refine lv_aload_n hx hb dX13_operand_80 rfl (lv_at hl 0 rfl) ?_
          refine va_get (D := (dC, dI)) (ci := 16) (fs := mF ad v) (v := .int (v.1 0 47)) (C := RX13) (T := TX13) (N := 124) hx hb ht itX13 hown hK hP 0 rfl rfl 47 (by decide) (ht _ tw_24) (fun _ h9 => h9) rfl dX13_operand_81 ?_
          refine va_lald (D := (dC, dI)) (f := v.2) hx hb hK hP 6 3 rfl rfl (in_y (a := (v.1 0 47).toInt) (b := 4002) rfl (om_e33521859d zfs) (om_449eb7e9bb zt) rfl) dX13_operand_84 ?_
          refine lv_l2i hx hb dX13_operand_85 rfl ?_
          refine lv_istore_n (lv' := [(1, .int ((v.2 (v.1 0 47).toNatClampNeg).toInt32)), (0, .ref (ad 0))]) hx hb dX13_operand_86 rfl hl (by decide) rfl (fun ls hl => ?_)
          refine lv_aload_n hx hb dX13_operand_87 rfl (lv_at hl 1 rfl) ?_
          refine cux_v (rx_V (n := 0) (As := []) (rest := []) hx hb hml hown ht hKK hFx hP hD hS hA (c_m_take l dC dI cI cB cZ cJ cR tb s.heap.size ad N v  (show 0 ≤ (v.1 0 47).toInt ∧ (v.1 0 47).toInt ≤ 1500 from (om_2fb699b811 zt zfs))) tw_32 tw_33 (by decide +kernel) rfl rfl ⟨show 1 + 1 ≤ 40 * n + 9 from om_dc0ef911ca, show 8 + (1 + 11) + 22 ≤ 28 * (40 * n + 9) from om_1a3684fcd8⟩ (List.range (mW ad N cI cZ cJ v).length) (rg_map _) (mW_nd _ _ _ _ _ _) rfl rfl rfl rfl hl.1 rfl (Nat.le_of_ble_eq_true rfl) dX13_operand_88 ⟨Nat.le_of_ble_eq_true rfl, Nat.le_of_ble_eq_true rfl⟩) hP hD hS hA (fun u9 ce9 q9 H locs hx9 hP hD hS hc9 hv9 hf9 => ?_) (fun u25 H locs hw24 hP hD hS => ?_)
          · exact vx_out (fun x h9 => (hnt x h9).elim) hlocks hc9 hv9 hf9 (fun t9 ht9 hv8 => ⟨u9, (FG.tr (FG.rf _) hx9), ⟨rfl, by rw [ht9]; exact hP, hD⟩, hS.F ht9⟩) hS.2.2 (Nat.le_refl _) (Nat.le_refl _)
          obtain ⟨rfl, a24, b24⟩ := hw24
          have z27 : ((v.1 0 47) + (1 : Int32)).toInt = ((v.1 0 47).toInt) + (1 : Int) := add_z rfl (show (1 : Int32).toInt = (1 : Int) by decide) (om_3eca9b17a5 zws) (om_27eb55d06c zt)
          have hP : va_P (dC, dI) vwCl (mW ad N cI cZ cJ (wA v 0 47 ((v.1 0 47) + (1 : Int32)))) H := hP
          have hD : va_D A (mW ad N cI cZ cJ (wA v 0 47 ((v.1 0 47) + (1 : Int32)))) := hD
          refine W.widen (k := 0) (n := 0) (Nat.le_refl _) (Nat.le_refl _) ?_
          refine lv_aload_n hx hb dX13_operand_91 rfl (lv_at hl 1 rfl) ?_
          refine lv_iload_n hx hb dX13_operand_92 rfl (lv_at hl 0 rfl) ?_
          refine cu_v (rn_V (n := 1) (As := [.int ((v.2 (v.1 0 47).toNatClampNeg).toInt32)]) (rest := []) hx hb hml hown ht hKK hFx hP hD hS hA (c_m_loads l dC dI cI cB cZ cJ cR tb H.size ad N (wA v 0 47 ((v.1 0 47) + (1 : Int32))) ((v.2 (v.1 0 47).toNatClampNeg).toInt32) (show 0 ≤ (v.1 0 12).toInt ∧ (v.1 0 12).toInt ≤ 23980 from (om_2fbbc6575c zws a24)) (show 0 ≤ (v.1 0 15).toInt ∧ (v.1 0 15).toInt ≤ 15980 from (om_1b8bc4dd59 zos a24))) tw_111 tw_112 (by decide +kernel) rfl rfl ⟨show 2 + 1 ≤ 40 * n + 9 from om_86eef57ede, show 8 + (2 + 11) + 46 ≤ 28 * (40 * n + 9) from om_a3475e87b5⟩ (List.range (mW ad N cI cZ cJ (wA v 0 47 ((v.1 0 47) + (1 : Int32)))).length) (rg_map _) (mW_nd _ _ _ _ _ _) rfl rfl rfl rfl hl.1 rfl (Nat.le_of_ble_eq_true rfl) dX13_operand_93 ⟨Nat.le_of_ble_eq_true rfl, Nat.le_of_ble_eq_true rfl⟩) hP hD hS hA (fun u29 H locs hw28 hP hD hS => ?_)
          obtain ⟨fr28, pw28, po28, kc28, ko28, kg28⟩ := hw28
          have pw28 : (v.1 0 12).toInt ≤ (u29.1 0 12).toInt ∧ (u29.1 0 12).toInt ≤ (v.1 0 12).toInt + 2 := pw28
          have po28 : (u29.1 0 15).toInt = (v.1 0 15).toInt + 1 := po28
          have kc28 : ∀ j : Nat, (j : Int) < (v.1 0 12).toInt → (u29.1 11) j = (v.1 11) j := kc28
          have ko28 : ∀ j : Nat, (j : Int) < (v.1 0 15).toInt → (u29.1 13) j = (v.1 13) j := ko28
          have kg28 : ∀ j : Nat, (j : Int) < (v.1 0 15).toInt → (u29.1 14) j = (v.1 14) j := kg28
          refine W.widen (k := 0) (n := 0) (Nat.le_refl _) (Nat.le_refl _) ?_
          refine lv_goto (tgt := 386) hx hb dX13_operand_96 (by decide) ?_
          have q31 : (u29.1 0 47).toInt = ((v.1 0 47) + (1 : Int32)).toInt := congrArg Int32.toInt ((fr28.2.1 47 (by decide)).trans (show (wA v 0 47 ((v.1 0 47) + (1 : Int32))).1 0 47 = ((v.1 0 47) + (1 : Int32)) by rfl))
          have q32 : (u29.1 0 43).toInt = (v.1 0 43).toInt := congrArg Int32.toInt ((fr28.2.1 43 (by decide)).trans (show (wA v 0 47 ((v.1 0 47) + (1 : Int32))).1 0 43 = (v.1 0 43) by rfl))
          have q33 : (u29.1 0 39).toInt = (v.1 0 39).toInt := congrArg Int32.toInt ((fr28.2.1 39 (by decide)).trans (show (wA v 0 47 ((v.1 0 47) + (1 : Int32))).1 0 39 = (v.1 0 39) by rfl))
          have q34 : (u29.1 0 32).toInt = (v.1 0 32).toInt := congrArg Int32.toInt ((fr28.2.1 32 (by decide)).trans (show (wA v 0 47 ((v.1 0 47) + (1 : Int32))).1 0 32 = (v.1 0 32) by rfl))
          have q35 : (u29.1 0 48).toInt = (v.1 0 48).toInt := congrArg Int32.toInt ((fr28.2.1 48 (by decide)).trans (show (wA v 0 47 ((v.1 0 47) + (1 : Int32))).1 0 48 = (v.1 0 48) by rfl))
          have q36 : (u29.1 0 33).toInt = (v.1 0 33).toInt := congrArg Int32.toInt ((fr28.2.1 33 (by decide)).trans (show (wA v 0 47 ((v.1 0 47) + (1 : Int32))).1 0 33 = (v.1 0 33) by rfl))
          refine vx_ret ?_
          exact W.vret hx hb hr (fun t ht9 hW => ⟨⟨u29, rfl, ⟨(FG.tr (FG.f (FG.rf _) ((v.1 0 47) + (1 : Int32)) (by decide)) (FG.up fr28 (by decide) (by decide))), (show (v.1 0 47).toInt + 1 ≤ (u29.1 0 47).toInt ∧ (u29.1 0 47).toInt ≤ 1500 from (om_413e830c37 z27 a24 q31)), (show (v.1 0 49).toInt ≠ (v.1 0 47).toInt from (om_32294a9ce4 b24)), (show (v.1 0 12).toInt ≤ (u29.1 0 12).toInt ∧ (u29.1 0 12).toInt - 15 * (u29.1 0 47).toInt ≤ (v.1 0 12).toInt - 15 * (v.1 0 47).toInt from (om_ed0943c3b0 z27 q31 pw28)), (show (v.1 0 15).toInt ≤ (u29.1 0 15).toInt ∧ (u29.1 0 15).toInt - 10 * (u29.1 0 47).toInt ≤ (v.1 0 15).toInt - 10 * (v.1 0 47).toInt from (om_4820e362bc z27 q31 po28)), (show (v.1 0 43).toInt ≤ (u29.1 0 43).toInt ∧ (u29.1 0 43).toInt - 15 * (u29.1 0 47).toInt ≤ (v.1 0 43).toInt - 15 * (v.1 0 47).toInt from (om_8eec673951 z27 q32 q31)), (show (v.1 0 39).toInt ≤ (u29.1 0 39).toInt ∧ (u29.1 0 39).toInt - 1 * (u29.1 0 47).toInt ≤ (v.1 0 39).toInt - 1 * (v.1 0 47).toInt from (om_6a648d8dbc z27 q33 q31)), (show (u29.1 0 32).toInt = (v.1 0 32).toInt ∧ (u29.1 0 48).toInt = (v.1 0 48).toInt from (om_d5149004fa q34 q35)), (show (v.1 0 33).toInt ≤ (u29.1 0 33).toInt ∧ (u29.1 0 33).toInt ≤ 500 from (om_bc6fc57d17 zhi q36)), (fun (j9 : Nat) hj9 => (kc28 j9 (om_4fe904e9bf hj9))), (fun (j9 : Nat) hj9 => (ko28 j9 (om_4fe904e9bf hj9))), (fun (j9 : Nat) hj9 => (kg28 j9 (om_4fe904e9bf hj9))), (show AR 35 0 1500 u29 from AR.fr (fl := [12, 15]) (al := [0, 11, 13, 14]) fr28 (by decide) (AR.o a35 (by decide))), (show AR 37 0 23999 u29 from AR.fr (fl := [12, 15]) (al := [0, 11, 13, 14]) fr28 (by decide) (AR.o a37 (by decide))), (show AR 38 0 15999 u29 from AR.fr (fl := [12, 15]) (al := [0, 11, 13, 14]) fr28 (by decide) (AR.o a38 (by decide))), (show AR 40 0 23999 u29 from AR.fr (fl := [12, 15]) (al := [0, 11, 13, 14]) fr28 (by decide) (AR.o a40 (by decide))), (show FX u29 from FX.fr (fl := [12, 15]) (al := [0, 11, 13, 14]) fr28 (by decide) (by decide) (FX.o fx (by decide) (by decide)))⟩, by rw [ht9]; exact hP, hD⟩, hS.F ht9⟩) hS.2.2 dX13_operand_386
        · have z37 : (0 : Int) < (lg_cmp (v.2 (v.1 0 47).toNatClampNeg) (2147483647 : Int64)).toInt := nle_z rfl (show (0 : Int32).toInt = (0 : Int) by decide) h22
          refine lv_aload_n hx hb dX13_operand_68 rfl (lv_at hl 0 rfl) ?_
          refine lv_aload_n hx hb dX13_operand_69 rfl (lv_at hl 0 rfl) ?_
          refine va_get (D := (dC, dI)) (ci := 16) (fs := mF ad v) (v := .int (v.1 0 47)) (C := RX13) (T := TX13) (N := 124) hx hb ht itX13 hown hK hP 0 rfl rfl 47 (by decide) (ht _ tw_24) (fun _ h9 => h9) rfl dX13_operand_70 ?_
          refine va_put (D := (dC, dI)) (ci := 16) (fs := mF ad v) (v := .int (v.1 0 47)) (ty := .int) (C := RX13) (T := TX13) (N := 124) hx hb ht itX13 tyX13 tyX13_ok nmX13 hown hK hP hD hS 0 rfl rfl 49 (by decide) (ht _ tw_30) (fun _ h9 => h9) rfl (by decide +kernel) rfl rfl (Nat.le_of_ble_eq_true rfl) dX13_operand_73 (fun H locs hP hD hS => ?_)
          have hP := cP_ (mw_49 ad N cI cZ cJ v (v.1 0 47)) hP
          have hD := cD_ (mw_49 ad N cI cZ cJ v (v.1 0 47)) hD
          refine lv_aload_n hx hb dX13_operand_76 rfl (lv_at hl 0 rfl) ?_
          refine va_get (D := (dC, dI)) (ci := 16) (fs := mF ad (wA v 0 49 (v.1 0 47))) (v := .ref (ad 9)) (C := RX13) (T := TX13) (N := 124) hx hb ht itX13 hown hK hP 0 rfl rfl 9 (by decide) (ht _ tw_27) (fun _ h9 => h9) rfl dX13_operand_77 ?_
          refine lv_aload_n hx hb dX13_operand_80 rfl (lv_at hl 0 rfl) ?_
          refine va_get (D := (dC, dI)) (ci := 16) (fs := mF ad (wA v 0 49 (v.1 0 47))) (v := .int (v.1 0 47)) (C := RX13) (T := TX13) (N := 124) hx hb ht itX13 hown hK hP 0 rfl rfl 47 (by decide) (ht _ tw_24) (fun _ h9 => h9) rfl dX13_operand_81 ?_
          refine va_lald (D := (dC, dI)) (f := v.2) hx hb hK hP 6 3 rfl rfl (in_y (a := (v.1 0 47).toInt) (b := 4002) rfl (om_e33521859d zfs) (om_449eb7e9bb zt) rfl) dX13_operand_84 ?_
          refine lv_l2i hx hb dX13_operand_85 rfl ?_
          refine lv_istore_n (lv' := [(1, .int ((v.2 (v.1 0 47).toNatClampNeg).toInt32)), (0, .ref (ad 0))]) hx hb dX13_operand_86 rfl hl (by decide) rfl (fun ls hl => ?_)
          refine lv_aload_n hx hb dX13_operand_87 rfl (lv_at hl 1 rfl) ?_
          refine cux_v (rx_V (n := 0) (As := []) (rest := []) hx hb hml hown ht hKK hFx hP hD hS hA (c_m_take l dC dI cI cB cZ cJ cR tb H.size ad N (wA v 0 49 (v.1 0 47))  (show 0 ≤ (v.1 0 47).toInt ∧ (v.1 0 47).toInt ≤ 1500 from (om_2fb699b811 zt zfs))) tw_32 tw_33 (by decide +kernel) rfl rfl ⟨show 1 + 1 ≤ 40 * n + 9 from om_dc0ef911ca, show 8 + (1 + 11) + 22 ≤ 28 * (40 * n + 9) from om_1a3684fcd8⟩ (List.range (mW ad N cI cZ cJ (wA v 0 49 (v.1 0 47))).length) (rg_map _) (mW_nd _ _ _ _ _ _) rfl rfl rfl rfl hl.1 rfl (Nat.le_of_ble_eq_true rfl) dX13_operand_88 ⟨Nat.le_of_ble_eq_true rfl, Nat.le_of_ble_eq_true rfl⟩) hP hD hS hA (fun u9 ce9 q9 H locs hx9 hP hD hS hc9 hv9 hf9 => ?_) (fun u40 H locs hw39 hP hD hS => ?_)
          · exact vx_out (fun x h9 => (hnt x h9).elim) hlocks hc9 hv9 hf9 (fun t9 ht9 hv8 => ⟨u9, (FG.tr (FG.f (FG.rf _) (v.1 0 47) (by decide)) hx9), ⟨rfl, by rw [ht9]; exact hP, hD⟩, hS.F ht9⟩) hS.2.2 (Nat.le_refl _) (Nat.le_refl _)
          obtain ⟨rfl, a39, b39⟩ := hw39
          have z42 : ((v.1 0 47) + (1 : Int32)).toInt = ((v.1 0 47).toInt) + (1 : Int) := add_z rfl (show (1 : Int32).toInt = (1 : Int) by decide) (om_3eca9b17a5 zws) (om_27eb55d06c zt)
          have hP : va_P (dC, dI) vwCl (mW ad N cI cZ cJ (wA (wA v 0 49 (v.1 0 47)) 0 47 ((v.1 0 47) + (1 : Int32)))) H := hP
          have hD : va_D A (mW ad N cI cZ cJ (wA (wA v 0 49 (v.1 0 47)) 0 47 ((v.1 0 47) + (1 : Int32)))) := hD
          have a39 : (v.1 0 47).toInt < 1500 := a39
          have b39 : (v.1 0 47).toInt ≠ (v.1 0 47).toInt := b39
          refine W.widen (k := 0) (n := 0) (Nat.le_refl _) (Nat.le_refl _) ?_
          refine lv_aload_n hx hb dX13_operand_91 rfl (lv_at hl 1 rfl) ?_
          refine lv_iload_n hx hb dX13_operand_92 rfl (lv_at hl 0 rfl) ?_
          refine cu_v (rn_V (n := 1) (As := [.int ((v.2 (v.1 0 47).toNatClampNeg).toInt32)]) (rest := []) hx hb hml hown ht hKK hFx hP hD hS hA (c_m_loads l dC dI cI cB cZ cJ cR tb H.size ad N (wA (wA v 0 49 (v.1 0 47)) 0 47 ((v.1 0 47) + (1 : Int32))) ((v.2 (v.1 0 47).toNatClampNeg).toInt32) (show 0 ≤ (v.1 0 12).toInt ∧ (v.1 0 12).toInt ≤ 23980 from (om_2fbbc6575c zws a39)) (show 0 ≤ (v.1 0 15).toInt ∧ (v.1 0 15).toInt ≤ 15980 from (om_1b8bc4dd59 zos a39))) tw_111 tw_112 (by decide +kernel) rfl rfl ⟨show 2 + 1 ≤ 40 * n + 9 from om_86eef57ede, show 8 + (2 + 11) + 46 ≤ 28 * (40 * n + 9) from om_a3475e87b5⟩ (List.range (mW ad N cI cZ cJ (wA (wA v 0 49 (v.1 0 47)) 0 47 ((v.1 0 47) + (1 : Int32)))).length) (rg_map _) (mW_nd _ _ _ _ _ _) rfl rfl rfl rfl hl.1 rfl (Nat.le_of_ble_eq_true rfl) dX13_operand_93 ⟨Nat.le_of_ble_eq_true rfl, Nat.le_of_ble_eq_true rfl⟩) hP hD hS hA (fun u44 H locs hw43 hP hD hS => ?_)
          obtain ⟨fr43, pw43, po43, kc43, ko43, kg43⟩ := hw43
          have pw43 : (v.1 0 12).toInt ≤ (u44.1 0 12).toInt ∧ (u44.1 0 12).toInt ≤ (v.1 0 12).toInt + 2 := pw43
          have po43 : (u44.1 0 15).toInt = (v.1 0 15).toInt + 1 := po43
          have kc43 : ∀ j : Nat, (j : Int) < (v.1 0 12).toInt → (u44.1 11) j = (v.1 11) j := kc43
          have ko43 : ∀ j : Nat, (j : Int) < (v.1 0 15).toInt → (u44.1 13) j = (v.1 13) j := ko43
          have kg43 : ∀ j : Nat, (j : Int) < (v.1 0 15).toInt → (u44.1 14) j = (v.1 14) j := kg43
          refine W.widen (k := 0) (n := 0) (Nat.le_refl _) (Nat.le_refl _) ?_
          refine lv_goto (tgt := 386) hx hb dX13_operand_96 (by decide) ?_
          have q46 : (u44.1 0 47).toInt = ((v.1 0 47) + (1 : Int32)).toInt := congrArg Int32.toInt ((fr43.2.1 47 (by decide)).trans (show (wA (wA v 0 49 (v.1 0 47)) 0 47 ((v.1 0 47) + (1 : Int32))).1 0 47 = ((v.1 0 47) + (1 : Int32)) by rfl))
          have q47 : (u44.1 0 43).toInt = (v.1 0 43).toInt := congrArg Int32.toInt ((fr43.2.1 43 (by decide)).trans (show (wA (wA v 0 49 (v.1 0 47)) 0 47 ((v.1 0 47) + (1 : Int32))).1 0 43 = (v.1 0 43) by rfl))
          have q48 : (u44.1 0 39).toInt = (v.1 0 39).toInt := congrArg Int32.toInt ((fr43.2.1 39 (by decide)).trans (show (wA (wA v 0 49 (v.1 0 47)) 0 47 ((v.1 0 47) + (1 : Int32))).1 0 39 = (v.1 0 39) by rfl))
          have q49 : (u44.1 0 32).toInt = (v.1 0 32).toInt := congrArg Int32.toInt ((fr43.2.1 32 (by decide)).trans (show (wA (wA v 0 49 (v.1 0 47)) 0 47 ((v.1 0 47) + (1 : Int32))).1 0 32 = (v.1 0 32) by rfl))
          have q50 : (u44.1 0 48).toInt = (v.1 0 48).toInt := congrArg Int32.toInt ((fr43.2.1 48 (by decide)).trans (show (wA (wA v 0 49 (v.1 0 47)) 0 47 ((v.1 0 47) + (1 : Int32))).1 0 48 = (v.1 0 48) by rfl))
          have q51 : (u44.1 0 33).toInt = (v.1 0 33).toInt := congrArg Int32.toInt ((fr43.2.1 33 (by decide)).trans (show (wA (wA v 0 49 (v.1 0 47)) 0 47 ((v.1 0 47) + (1 : Int32))).1 0 33 = (v.1 0 33) by rfl))
          refine vx_ret ?_
          exact W.vret hx hb hr (fun t ht9 hW => ⟨⟨u44, rfl, ⟨(FG.tr (FG.f (FG.f (FG.rf _) (v.1 0 47) (by decide)) ((v.1 0 47) + (1 : Int32)) (by decide)) (FG.up fr43 (by decide) (by decide))), (show (v.1 0 47).toInt + 1 ≤ (u44.1 0 47).toInt ∧ (u44.1 0 47).toInt ≤ 1500 from (om_413e830c37 z42 a39 q46)), (show (v.1 0 49).toInt ≠ (v.1 0 47).toInt from (om_114df80471 b39)), (show (v.1 0 12).toInt ≤ (u44.1 0 12).toInt ∧ (u44.1 0 12).toInt - 15 * (u44.1 0 47).toInt ≤ (v.1 0 12).toInt - 15 * (v.1 0 47).toInt from (om_ed0943c3b0 z42 q46 pw43)), (show (v.1 0 15).toInt ≤ (u44.1 0 15).toInt ∧ (u44.1 0 15).toInt - 10 * (u44.1 0 47).toInt ≤ (v.1 0 15).toInt - 10 * (v.1 0 47).toInt from (om_4820e362bc z42 q46 po43)), (show (v.1 0 43).toInt ≤ (u44.1 0 43).toInt ∧ (u44.1 0 43).toInt - 15 * (u44.1 0 47).toInt ≤ (v.1 0 43).toInt - 15 * (v.1 0 47).toInt from (om_8eec673951 z42 q47 q46)), (show (v.1 0 39).toInt ≤ (u44.1 0 39).toInt ∧ (u44.1 0 39).toInt - 1 * (u44.1 0 47).toInt ≤ (v.1 0 39).toInt - 1 * (v.1 0 47).toInt from (om_6a648d8dbc z42 q48 q46)), (show (u44.1 0 32).toInt = (v.1 0 32).toInt ∧ (u44.1 0 48).toInt = (v.1 0 48).toInt from (om_d5149004fa q49 q50)), (show (v.1 0 33).toInt ≤ (u44.1 0 33).toInt ∧ (u44.1 0 33).toInt ≤ 500 from (om_bc6fc57d17 zhi q51)), (fun (j9 : Nat) hj9 => (kc43 j9 (om_4fe904e9bf hj9))), (fun (j9 : Nat) hj9 => (ko43 j9 (om_4fe904e9bf hj9))), (fun (j9 : Nat) hj9 => (kg43 j9 (om_4fe904e9bf hj9))), (show AR 35 0 1500 u44 from AR.fr (fl := [12, 15]) (al := [0, 11, 13, 14]) fr43 (by decide) (AR.o (AR.o a35 (by decide)) (by decide))), (show AR 37 0 23999 u44 from AR.fr (fl := [12, 15]) (al := [0, 11, 13, 14]) fr43 (by decide) (AR.o (AR.o a37 (by decide)) (by decide))), (show AR 38 0 15999 u44 from AR.fr (fl := [12, 15]) (al := [0, 11, 13, 14]) fr43 (by decide) (AR.o (AR.o a38 (by decide)) (by decide))), (show AR 40 0 23999 u44 from AR.fr (fl := [12, 15]) (al := [0, 11, 13, 14]) fr43 (by decide) (AR.o (AR.o a40 (by decide)) (by decide))), (show FX u44 from FX.fr (fl := [12, 15]) (al := [0, 11, 13, 14]) fr43 (by decide) (by decide) (FX.o (FX.o fx (by decide) (by decide)) (by decide) (by decide)))⟩, by rw [ht9]; exact hP, hD⟩, hS.F ht9⟩) hS.2.2 dX13_operand_386
  · have z52 : ((v.1 6) (v.1 0 47).toNatClampNeg).toInt ≠ (4 : Int) := ne_z rfl (show (4 : Int32).toInt = (4 : Int) by decide) h1
    refine lv_aload_n hx hb dX13_operand_13 rfl (lv_at hl 0 rfl) ?_
    refine va_get (D := (dC, dI)) (ci := 16) (fs := mF ad v) (v := .ref (ad 6)) (C := RX13) (T := TX13) (N := 124) hx hb ht itX13 hown hK hP 0 rfl rfl 6 (by decide) (ht _ tw_23) (fun _ h9 => h9) rfl dX13_operand_14 ?_
    refine lv_aload_n hx hb dX13_operand_17 rfl (lv_at hl 0 rfl) ?_
    refine va_get (D := (dC, dI)) (ci := 16) (fs := mF ad v) (v := .int (v.1 0 47)) (C := RX13) (T := TX13) (N := 124) hx hb ht itX13 hown hK hP 0 rfl rfl 47 (by decide) (ht _ tw_24) (fun _ h9 => h9) rfl dX13_operand_18 ?_
    refine va_iald (D := (dC, dI)) (f := (v.1 6)) hx hb hK hP 3 0 rfl rfl (in_y (a := (v.1 0 47).toInt) (b := 4002) rfl (om_e33521859d zfs) (om_449eb7e9bb zt) rfl) dX13_operand_21 ?_
    refine lv_bipush (v := 6) hx hb dX13_operand_22 (by decide) ?_
    refine lv_icmp_ne (tgt := 99) hx hb dX13_operand_24 (by decide) (fun h53 => ?_) (fun h53 => ?_)
    · have z54 : ((v.1 6) (v.1 0 47).toNatClampNeg).toInt ≠ (6 : Int) := ne_z rfl (show (6 : Int32).toInt = (6 : Int) by decide) h53
      refine lv_aload_n hx hb dX13_operand_99 rfl (lv_at hl 0 rfl) ?_
      refine lv_bipush (v := 45) hx hb dX13_operand_100 (by decide) ?_
      refine cu_i (rn_V (n := 1) (As := [.int 45]) (rest := []) hx hb hml hown ht hKK hFx hP hD hS hA (c_m_is l dC dI cI cB cZ cJ cR tb s.heap.size ad N v (45 : Int32) (show 0 ≤ (v.1 0 47).toInt ∧ (v.1 0 47).toInt ≤ 1500 from (om_2fb699b811 zt zfs))) tw_34 tw_35 (by decide +kernel) rfl rfl ⟨show 1 + 1 ≤ 40 * n + 9 from om_dc0ef911ca, show 8 + (2 + 11) + 22 ≤ 28 * (40 * n + 9) from om_8685d0996a⟩ (List.range (mW ad N cI cZ cJ v).length) (rg_map _) (mW_nd _ _ _ _ _ _) rfl rfl rfl rfl hl.1 rfl (Nat.le_of_ble_eq_true rfl) dX13_operand_102 ⟨Nat.le_of_ble_eq_true rfl, Nat.le_of_ble_eq_true rfl⟩) hP hD hS hA (fun r57 u56 H locs hw55 hP hD hS => ?_)
      obtain ⟨rfl, b55, e55⟩ := hw55
      refine W.widen (k := 0) (n := 0) (Nat.le_refl _) (Nat.le_refl _) ?_
      refine lv_if_ne (tgt := 126) hx hb dX13_operand_105 (by decide) (fun h58 => ?_) (fun h58 => ?_)
      · have z59 : r57.toInt ≠ (0 : Int) := ne_z rfl (show (0 : Int32).toInt = (0 : Int) by decide) h58
        refine lv_aload_n hx hb dX13_operand_126 rfl (lv_at hl 0 rfl) ?_
        refine va_get (D := (dC, dI)) (ci := 16) (fs := mF ad v) (v := .ref (ad 9)) (C := RX13) (T := TX13) (N := 124) hx hb ht itX13 hown hK hP 0 rfl rfl 9 (by decide) (ht _ tw_27) (fun _ h9 => h9) rfl dX13_operand_127 ?_
        refine lv_aload_n hx hb dX13_operand_130 rfl (lv_at hl 0 rfl) ?_
        refine va_get (D := (dC, dI)) (ci := 16) (fs := mF ad v) (v := .int (v.1 0 47)) (C := RX13) (T := TX13) (N := 124) hx hb ht itX13 hown hK hP 0 rfl rfl 47 (by decide) (ht _ tw_24) (fun _ h9 => h9) rfl dX13_operand_131 ?_
        refine va_lald (D := (dC, dI)) (f := v.2) hx hb hK hP 6 3 rfl rfl (in_y (a := (v.1 0 47).toInt) (b := 4002) rfl (om_e33521859d zfs) (om_449eb7e9bb zt) rfl) dX13_operand_134 ?_
        refine lv_l2i hx hb dX13_operand_135 rfl ?_
        refine lv_istore_n (lv' := [(1, .int ((v.2 (v.1 0 47).toNatClampNeg).toInt32)), (0, .ref (ad 0))]) hx hb dX13_operand_136 rfl hl (by decide) rfl (fun ls hl => ?_)
        refine lv_aload_n hx hb dX13_operand_137 rfl (lv_at hl 1 rfl) ?_
        refine cux_v (rx_V (n := 0) (As := []) (rest := []) hx hb hml hown ht hKK hFx hP hD hS hA (c_m_opens l dC dI cI cB cZ cJ cR tb H.size ad N v  (show 0 ≤ (v.1 0 47).toInt ∧ (v.1 0 47).toInt ≤ 1500 from (om_2fb699b811 zt zfs)) (show 0 ≤ (v.1 0 48).toInt ∧ (v.1 0 48).toInt ≤ 40 from (om_7eaf33e007 zop))) tw_38 tw_39 (by decide +kernel) rfl rfl ⟨show 2 + 1 ≤ 40 * n + 9 from om_86eef57ede, show 8 + (1 + 11) + 42 ≤ 28 * (40 * n + 9) from om_750cfefb29⟩ (List.range (mW ad N cI cZ cJ v).length) (rg_map _) (mW_nd _ _ _ _ _ _) rfl rfl rfl rfl hl.1 rfl (Nat.le_of_ble_eq_true rfl) dX13_operand_138 ⟨Nat.le_of_ble_eq_true rfl, Nat.le_of_ble_eq_true rfl⟩) hP hD hS hA (fun u9 ce9 q9 H locs hx9 hP hD hS hc9 hv9 hf9 => ?_) (fun u61 H locs hw60 hP hD hS => ?_)
        · exact vx_out (fun x h9 => (hnt x h9).elim) hlocks hc9 hv9 hf9 (fun t9 ht9 hv8 => ⟨u9, (FG.tr (FG.rf _) hx9), ⟨rfl, by rw [ht9]; exact hP, hD⟩, hS.F ht9⟩) hS.2.2 (Nat.le_refl _) (Nat.le_refl _)
        obtain ⟨rfl, a60, b60, c60⟩ := hw60
        have z63 : ((v.1 0 47) + (1 : Int32)).toInt = ((v.1 0 47).toInt) + (1 : Int) := add_z rfl (show (1 : Int32).toInt = (1 : Int) by decide) (om_3eca9b17a5 zws) (om_27eb55d06c zt)
        have z64 : ((v.1 0 48) + (1 : Int32)).toInt = ((v.1 0 48).toInt) + (1 : Int) := add_z rfl (show (1 : Int32).toInt = (1 : Int) by decide) (om_c2418a9965 zop) (om_defb2a7457 zop)
        have hP : va_P (dC, dI) vwCl (mW ad N cI cZ cJ (wA (wA v 0 47 ((v.1 0 47) + (1 : Int32))) 0 48 ((v.1 0 48) + (1 : Int32)))) H := hP
        have hD : va_D A (mW ad N cI cZ cJ (wA (wA v 0 47 ((v.1 0 47) + (1 : Int32))) 0 48 ((v.1 0 48) + (1 : Int32)))) := hD
        refine W.widen (k := 0) (n := 0) (Nat.le_refl _) (Nat.le_refl _) ?_
        refine lv_aload_n hx hb dX13_operand_141 rfl (lv_at hl 1 rfl) ?_
        obtain ⟨n65, hn66⟩ : ∃ m, n = m + 1 := ex_z (om_78b28660f8 zn b60)
        refine cux_v (rx_V (n := 0) (As := []) (rest := []) hx hb hml hown ht hKK hFx hP hD hS hA (ihO n65 hn66 dC dI cI cB cZ cJ cR tb H.size ad N (wA (wA v 0 47 ((v.1 0 47) + (1 : Int32))) 0 48 ((v.1 0 48) + (1 : Int32)))  (show 40 ≤ ((v.1 0 48) + (1 : Int32)).toInt + (n65 : Int) from (om_43cb5bce6b zn z64 hn66)) (show 0 ≤ ((v.1 0 47) + (1 : Int32)).toInt ∧ ((v.1 0 47) + (1 : Int32)).toInt ≤ 1500 from (om_cae3a623a5 zfs z63 a60)) (show 0 ≤ ((v.1 0 48) + (1 : Int32)).toInt ∧ ((v.1 0 48) + (1 : Int32)).toInt ≤ 40 from (om_4c33377394 zop z64 b60)) (show 0 ≤ (v.1 0 30).toInt ∧ (v.1 0 30).toInt ≤ 500 from (om_9861e69da5 zkn)) (show 0 ≤ (v.1 0 33).toInt ∧ (v.1 0 33).toInt ≤ 500 from (om_9861e69da5 zhi)) (show 0 ≤ (v.1 0 32).toInt ∧ (v.1 0 30).toInt + (v.1 0 32).toInt ≤ (v.1 0 33).toInt from (om_f541e4003c zs)) (show 0 ≤ (v.1 0 12).toInt ∧ (v.1 0 12).toInt ≤ 15 * ((v.1 0 47) + (1 : Int32)).toInt + 2 from (om_3894ab1223 zws z63)) (show 0 ≤ (v.1 0 15).toInt ∧ (v.1 0 15).toInt ≤ 10 * ((v.1 0 47) + (1 : Int32)).toInt + 0 from (om_9a74738aa2 zos z63)) (show 0 ≤ (v.1 0 43).toInt ∧ (v.1 0 43).toInt ≤ 15 * ((v.1 0 47) + (1 : Int32)).toInt + 0 from (om_434df26a0f zfs z63)) (show 0 ≤ (v.1 0 39).toInt ∧ (v.1 0 39).toInt ≤ 1 * ((v.1 0 47) + (1 : Int32)).toInt + 0 from (om_3840c96ead zcs z63)) (show 0 ≤ (v.1 0 27).toInt ∧ (v.1 0 27).toInt ≤ 60 from (om_1d2c7ad648 zgl)) (show TI (wA (wA v 0 47 ((v.1 0 47) + (1 : Int32))) 0 48 ((v.1 0 48) + (1 : Int32))) from FG.ti (fl := pfl) (al := pal) (FG.f (FG.f (FG.rf _) ((v.1 0 47) + (1 : Int32)) (by decide)) ((v.1 0 48) + (1 : Int32)) (by decide)) (by decide) (by decide) hT) (show AR 29 0 1500 (wA (wA v 0 47 ((v.1 0 47) + (1 : Int32))) 0 48 ((v.1 0 48) + (1 : Int32))) from (AR.o (AR.o a29 (by decide)) (by decide))) (show AR 23 0 1500 (wA (wA v 0 47 ((v.1 0 47) + (1 : Int32))) 0 48 ((v.1 0 48) + (1 : Int32))) from (AR.o (AR.o a23 (by decide)) (by decide))) (show AR 35 0 1500 (wA (wA v 0 47 ((v.1 0 47) + (1 : Int32))) 0 48 ((v.1 0 48) + (1 : Int32))) from (AR.o (AR.o a35 (by decide)) (by decide))) (show AR 37 0 23999 (wA (wA v 0 47 ((v.1 0 47) + (1 : Int32))) 0 48 ((v.1 0 48) + (1 : Int32))) from (AR.o (AR.o a37 (by decide)) (by decide))) (show AR 38 0 15999 (wA (wA v 0 47 ((v.1 0 47) + (1 : Int32))) 0 48 ((v.1 0 48) + (1 : Int32))) from (AR.o (AR.o a38 (by decide)) (by decide))) (show AR 40 0 23999 (wA (wA v 0 47 ((v.1 0 47) + (1 : Int32))) 0 48 ((v.1 0 48) + (1 : Int32))) from (AR.o (AR.o a40 (by decide)) (by decide))) (show FX (wA (wA v 0 47 ((v.1 0 47) + (1 : Int32))) 0 48 ((v.1 0 48) + (1 : Int32))) from (FX.o (FX.o fx (by decide) (by decide)) (by decide) (by decide)))) tw_114 tw_115 (by decide +kernel) rfl rfl ⟨show (40 * n65 + 9) + 1 ≤ 40 * n + 9 from (om_d13994734d hn66), show 8 + (2 + 11) + 28 * (40 * n65 + 9) ≤ 28 * (40 * n + 9) from (om_7349e8fe6d hn66)⟩ (List.range (mW ad N cI cZ cJ (wA (wA v 0 47 ((v.1 0 47) + (1 : Int32))) 0 48 ((v.1 0 48) + (1 : Int32)))).length) (rg_map _) (mW_nd _ _ _ _ _ _) rfl rfl rfl rfl hl.1 rfl (Nat.le_of_ble_eq_true rfl) dX13_operand_142 ⟨Nat.le_of_ble_eq_true rfl, Nat.le_of_ble_eq_true rfl⟩) hP hD hS hA (fun u9 ce9 q9 H locs hx9 hP hD hS hc9 hv9 hf9 => ?_) (fun u68 H locs hw67 hP hD hS => ?_)
        · exact vx_out (fun x h9 => (hnt x h9).elim) hlocks hc9 hv9 hf9 (fun t9 ht9 hv8 => ⟨u9, (FG.tr (FG.f (FG.f (FG.rf _) ((v.1 0 47) + (1 : Int32)) (by decide)) ((v.1 0 48) + (1 : Int32)) (by decide)) hx9), ⟨rfl, by rw [ht9]; exact hP, hD⟩, hS.F ht9⟩) hS.2.2 (Nat.le_refl _) (Nat.le_refl _)
        obtain ⟨fr67, pt67, pb67, pw67, po67, pf67, pk67, pp67, ph67, kc67, ko67, kg67, a3567, a3767, a3867, a4067, fx67⟩ := hw67
        have pt67 : ((v.1 0 47) + (1 : Int32)).toInt + 1 ≤ (u68.1 0 47).toInt ∧ (u68.1 0 47).toInt ≤ 1500 := pt67
        have pb67 : (v.1 0 49).toInt ≠ ((v.1 0 47) + (1 : Int32)).toInt := pb67
        have pw67 : (v.1 0 12).toInt ≤ (u68.1 0 12).toInt ∧ (u68.1 0 12).toInt - 15 * (u68.1 0 47).toInt ≤ (v.1 0 12).toInt - 15 * ((v.1 0 47) + (1 : Int32)).toInt := pw67
        have po67 : (v.1 0 15).toInt ≤ (u68.1 0 15).toInt ∧ (u68.1 0 15).toInt - 10 * (u68.1 0 47).toInt ≤ (v.1 0 15).toInt - 10 * ((v.1 0 47) + (1 : Int32)).toInt := po67
        have pf67 : (v.1 0 43).toInt ≤ (u68.1 0 43).toInt ∧ (u68.1 0 43).toInt - 15 * (u68.1 0 47).toInt ≤ (v.1 0 43).toInt - 15 * ((v.1 0 47) + (1 : Int32)).toInt := pf67
        have pk67 : (v.1 0 39).toInt ≤ (u68.1 0 39).toInt ∧ (u68.1 0 39).toInt - 1 * (u68.1 0 47).toInt ≤ (v.1 0 39).toInt - 1 * ((v.1 0 47) + (1 : Int32)).toInt := pk67
        have pp67 : (u68.1 0 32).toInt = (v.1 0 32).toInt ∧ (u68.1 0 48).toInt = ((v.1 0 48) + (1 : Int32)).toInt := pp67
        have ph67 : (v.1 0 33).toInt ≤ (u68.1 0 33).toInt ∧ (u68.1 0 33).toInt ≤ 500 := ph67
        have kc67 : ∀ j : Nat, (j : Int) < (v.1 0 12).toInt → (u68.1 11) j = (v.1 11) j := kc67
        have ko67 : ∀ j : Nat, (j : Int) < (v.1 0 15).toInt → (u68.1 13) j = (v.1 13) j := ko67
        have kg67 : ∀ j : Nat, (j : Int) < (v.1 0 15).toInt → (u68.1 14) j = (v.1 14) j := kg67
        have a3567 : AR 35 0 1500 u68 := a3567
        have a3767 : AR 37 0 23999 u68 := a3767
        have a3867 : AR 38 0 15999 u68 := a3867
        have a4067 : AR 40 0 23999 u68 := a4067
        have fx67 : FX u68 := fx67
        refine W.widen (k := 0) (n := 0) (Nat.le_refl _) (Nat.le_refl _) ?_
        refine lv_aload_n hx hb dX13_operand_145 rfl (lv_at hl 1 rfl) ?_
        refine lv_dup hx hb dX13_operand_146 rfl ?_
        refine va_get (D := (dC, dI)) (ci := 16) (fs := mF ad u68) (v := .int (u68.1 0 48)) (C := RX13) (T := TX13) (N := 124) hx hb ht itX13 hown hK hP 0 rfl rfl 48 (by decide) (ht _ tw_31) (fun _ h9 => h9) rfl dX13_operand_147 ?_
        refine lv_iconst (v := 1) hx hb dX13_operand_150 (by decide) ?_
        refine lv_isub hx hb dX13_operand_151 ?_
        have z70 : ((u68.1 0 48) - (1 : Int32)).toInt = ((u68.1 0 48).toInt) - (1 : Int) := sub_z rfl (show (1 : Int32).toInt = (1 : Int) by decide) (om_32962d0667 zop z64 pp67) (om_d0370bb848 z64 b60 pp67)
        refine va_put (D := (dC, dI)) (ci := 16) (fs := mF ad u68) (v := .int ((u68.1 0 48) - (1 : Int32))) (ty := .int) (C := RX13) (T := TX13) (N := 124) hx hb ht itX13 tyX13 tyX13_ok nmX13 hown hK hP hD hS 0 rfl rfl 48 (by decide) (ht _ tw_31) (fun _ h9 => h9) rfl (by decide +kernel) rfl rfl (Nat.le_of_ble_eq_true rfl) dX13_operand_152 (fun H locs hP hD hS => ?_)
        have hP := cP_ (mw_48 ad N cI cZ cJ u68 ((u68.1 0 48) - (1 : Int32))) hP
        have hD := cD_ (mw_48 ad N cI cZ cJ u68 ((u68.1 0 48) - (1 : Int32))) hD
        refine lv_aload_n hx hb dX13_operand_155 rfl (lv_at hl 1 rfl) ?_
        refine lv_iload_n hx hb dX13_operand_156 rfl (lv_at hl 0 rfl) ?_
        refine lv_bipush (v := 45) hx hb dX13_operand_157 (by decide) ?_
        refine lv_icmp_ne (tgt := 176) hx hb dX13_operand_159 (by decide) (fun h71 => ?_) (fun h71 => ?_)
        · have z72 : ((v.2 (v.1 0 47).toNatClampNeg).toInt32).toInt ≠ (45 : Int) := ne_z rfl (show (45 : Int32).toInt = (45 : Int) by decide) h71
          refine lv_iload_n hx hb dX13_operand_176 rfl (lv_at hl 0 rfl) ?_
          refine lv_bipush (v := 33) hx hb dX13_operand_177 (by decide) ?_
          refine lv_icmp_ne (tgt := 196) hx hb dX13_operand_179 (by decide) (fun h73 => ?_) (fun h73 => ?_)
          · have z74 : ((v.2 (v.1 0 47).toNatClampNeg).toInt32).toInt ≠ (33 : Int) := ne_z rfl (show (33 : Int32).toInt = (33 : Int) by decide) h73
            refine lv_bipush (v := 19) hx hb dX13_operand_196 (by decide) ?_
            refine lv_iconst (v := 4) hx hb dX13_operand_198 (by decide) ?_
            refine lv_bipush (v := 10) hx hb dX13_operand_199 (by decide) ?_
            refine lv_bipush (v := 10) hx hb dX13_operand_201 (by decide) ?_
            refine lv_iconst (v := -1) hx hb dX13_operand_203 (by decide) ?_
            refine cu_s (mW_nd _ _ _ _ _ _) (rn_S (n := 5) (As := [.int 19, .int 4, .int 10, .int 10, .int (-1)]) (rest := [.ref (ad 0)]) hx hb hml hown ht hKK hFx hP hD hS hA (c_m_byI l dC dI cI cB cZ cJ cR tb H.size (19 : Int32) (4 : Int32) (10 : Int32) (10 : Int32) (-1 : Int32) ) tw_2 tw_3 (by decide +kernel) rfl rfl ⟨show 0 + 1 ≤ 40 * n + 9 from om_fd17f2e70e, show 8 + (5 + 11) + 0 ≤ 28 * (40 * n + 9) from om_4dd6cddcce⟩ [] rfl rfl rfl hl.1 rfl (Nat.le_of_ble_eq_true rfl) dX13_operand_204 ⟨Nat.le_of_ble_eq_true rfl, Nat.le_of_ble_eq_true rfl⟩) hP hD hS hA (fun r77 H locs hw75 hP hD hS => ?_)
            refine W.widen (k := 0) (n := 0) (Nat.le_refl _) (Nat.le_refl _) ?_
            refine cu_i (rn_V (n := 1) (As := [.int r77]) (rest := []) hx hb hml hown ht hKK hFx hP hD hS hA (c_m_emit l dC dI cI cB cZ cJ cR tb H.size ad N (wA u68 0 48 ((u68.1 0 48) - (1 : Int32))) r77 (show 0 ≤ (u68.1 0 12).toInt ∧ (u68.1 0 12).toInt < 24000 from (om_6ad570a484 zws z63 pt67 pw67))) tw_8 tw_9 (by decide +kernel) rfl rfl ⟨show 0 + 1 ≤ 40 * n + 9 from om_fd17f2e70e, show 8 + (2 + 11) + 0 ≤ 28 * (40 * n + 9) from om_4229287154⟩ (List.range (mW ad N cI cZ cJ (wA u68 0 48 ((u68.1 0 48) - (1 : Int32)))).length) (rg_map _) (mW_nd _ _ _ _ _ _) rfl rfl rfl rfl hl.1 rfl (Nat.le_of_ble_eq_true rfl) dX13_operand_207 ⟨Nat.le_of_ble_eq_true rfl, Nat.le_of_ble_eq_true rfl⟩) hP hD hS hA (fun r80 u79 H locs hw78 hP hD hS => ?_)
            obtain ⟨rfl, rfl⟩ := hw78
            have z81 : ((u68.1 0 12) + (1 : Int32)).toInt = ((u68.1 0 12).toInt) + (1 : Int) := add_z rfl (show (1 : Int32).toInt = (1 : Int) by decide) (om_6ad47c49ef zws pw67) (om_99b5e8925f zws z63 pt67 pw67)
            have hP : va_P (dC, dI) vwCl (mW ad N cI cZ cJ (wA (wA (wA u68 0 48 ((u68.1 0 48) - (1 : Int32))) 11 ((u68.1 0 12).toNatClampNeg) r77) 0 12 ((u68.1 0 12) + (1 : Int32)))) H := hP
            have hD : va_D A (mW ad N cI cZ cJ (wA (wA (wA u68 0 48 ((u68.1 0 48) - (1 : Int32))) 11 ((u68.1 0 12).toNatClampNeg) r77) 0 12 ((u68.1 0 12) + (1 : Int32)))) := hD
            refine tp_i (y := (u68.1 0 12)) (rfl) ?_
            refine W.widen (k := 0) (n := 0) (Nat.le_refl _) (Nat.le_refl _) ?_
            refine lv_pop hx hb dX13_operand_210 rfl ?_
            refine lv_aload_n hx hb dX13_operand_211 rfl (lv_at hl 1 rfl) ?_
            refine lv_iload_n hx hb dX13_operand_212 rfl (lv_at hl 0 rfl) ?_
            refine lv_bipush (v := 45) hx hb dX13_operand_213 (by decide) ?_
            refine lv_icmp_ne (tgt := 223) hx hb dX13_operand_215 (by decide) (fun h82 => ?_) (fun h82 => ?_)
            · have z83 : ((v.2 (v.1 0 47).toNatClampNeg).toInt32).toInt ≠ (45 : Int) := ne_z rfl (show (45 : Int32).toInt = (45 : Int) by decide) h82
              refine lv_iload_n hx hb dX13_operand_223 rfl (lv_at hl 0 rfl) ?_
              refine lv_bipush (v := 33) hx hb dX13_operand_224 (by decide) ?_
              refine lv_icmp_ne (tgt := 234) hx hb dX13_operand_226 (by decide) (fun h84 => ?_) (fun h84 => ?_)
              · have z85 : ((v.2 (v.1 0 47).toNatClampNeg).toInt32).toInt ≠ (33 : Int) := ne_z rfl (show (33 : Int32).toInt = (33 : Int) by decide) h84
                refine lv_bipush (v := 20) hx hb dX13_operand_234 (by decide) ?_
                refine lv_iconst (v := 0) hx hb dX13_operand_236 (by decide) ?_
                refine cu_i (rn_V (n := 2) (As := [.int 20, .int 0]) (rest := []) hx hb hml hown ht hKK hFx hP hD hS hA (c_m_say l dC dI cI cB cZ cJ cR tb H.size ad N (wA (wA (wA u68 0 48 ((u68.1 0 48) - (1 : Int32))) 11 ((u68.1 0 12).toNatClampNeg) r77) 0 12 ((u68.1 0 12) + (1 : Int32))) (20 : Int32) (0 : Int32) (show 0 ≤ (u68.1 0 15).toInt ∧ (u68.1 0 15).toInt < 16000 from (om_ab4ad5e078 zos z63 pt67 po67))) tw_59 tw_60 (by decide +kernel) rfl rfl ⟨show 0 + 1 ≤ 40 * n + 9 from om_fd17f2e70e, show 8 + (3 + 11) + 0 ≤ 28 * (40 * n + 9) from om_e79917e237⟩ (List.range (mW ad N cI cZ cJ (wA (wA (wA u68 0 48 ((u68.1 0 48) - (1 : Int32))) 11 ((u68.1 0 12).toNatClampNeg) r77) 0 12 ((u68.1 0 12) + (1 : Int32)))).length) (rg_map _) (mW_nd _ _ _ _ _ _) rfl rfl rfl rfl hl.1 rfl (Nat.le_of_ble_eq_true rfl) dX13_operand_237 ⟨Nat.le_of_ble_eq_true rfl, Nat.le_of_ble_eq_true rfl⟩) hP hD hS hA (fun r88 u87 H locs hw86 hP hD hS => ?_)
                obtain ⟨rfl, rfl⟩ := hw86
                have z89 : ((u68.1 0 15) + (1 : Int32)).toInt = ((u68.1 0 15).toInt) + (1 : Int) := add_z rfl (show (1 : Int32).toInt = (1 : Int) by decide) (om_436cd0d872 zos po67) (om_4b3fea160f zos z63 pt67 po67)
                have hP : va_P (dC, dI) vwCl (mW ad N cI cZ cJ (wA (wA (wA (wA (wA (wA u68 0 48 ((u68.1 0 48) - (1 : Int32))) 11 ((u68.1 0 12).toNatClampNeg) r77) 0 12 ((u68.1 0 12) + (1 : Int32))) 13 ((u68.1 0 15).toNatClampNeg) (20 : Int32)) 14 ((u68.1 0 15).toNatClampNeg) (0 : Int32)) 0 15 ((u68.1 0 15) + (1 : Int32)))) H := hP
                have hD : va_D A (mW ad N cI cZ cJ (wA (wA (wA (wA (wA (wA u68 0 48 ((u68.1 0 48) - (1 : Int32))) 11 ((u68.1 0 12).toNatClampNeg) r77) 0 12 ((u68.1 0 12) + (1 : Int32))) 13 ((u68.1 0 15).toNatClampNeg) (20 : Int32)) 14 ((u68.1 0 15).toNatClampNeg) (0 : Int32)) 0 15 ((u68.1 0 15) + (1 : Int32)))) := hD
                refine tp_i (y := (u68.1 0 15)) (rfl) ?_
                refine W.widen (k := 0) (n := 0) (Nat.le_refl _) (Nat.le_refl _) ?_
                refine lv_pop hx hb dX13_operand_240 rfl ?_
                refine lv_goto (tgt := 386) hx hb dX13_operand_241 (by decide) ?_
                refine vx_ret ?_
                exact W.vret hx hb hr (fun t ht9 hW => ⟨⟨(wA (wA (wA (wA (wA (wA u68 0 48 ((u68.1 0 48) - (1 : Int32))) 11 ((u68.1 0 12).toNatClampNeg) r77) 0 12 ((u68.1 0 12) + (1 : Int32))) 13 ((u68.1 0 15).toNatClampNeg) (20 : Int32)) 14 ((u68.1 0 15).toNatClampNeg) (0 : Int32)) 0 15 ((u68.1 0 15) + (1 : Int32))), rfl, ⟨(FG.f (FG.a (FG.a (FG.f (FG.a (FG.f (FG.tr (FG.f (FG.f (FG.rf _) ((v.1 0 47) + (1 : Int32)) (by decide)) ((v.1 0 48) + (1 : Int32)) (by decide)) (FG.up fr67 (by decide) (by decide))) ((u68.1 0 48) - (1 : Int32)) (by decide)) ((u68.1 0 12).toNatClampNeg) r77 (by decide) (by decide)) ((u68.1 0 12) + (1 : Int32)) (by decide)) ((u68.1 0 15).toNatClampNeg) (20 : Int32) (by decide) (by decide)) ((u68.1 0 15).toNatClampNeg) (0 : Int32) (by decide) (by decide)) ((u68.1 0 15) + (1 : Int32)) (by decide)), (show (v.1 0 47).toInt + 1 ≤ (u68.1 0 47).toInt ∧ (u68.1 0 47).toInt ≤ 1500 from (om_ff8aa832bb z63 pt67)), (show (v.1 0 49).toInt ≠ (v.1 0 47).toInt from (om_32294a9ce4 c60)), (show (v.1 0 12).toInt ≤ ((u68.1 0 12) + (1 : Int32)).toInt ∧ ((u68.1 0 12) + (1 : Int32)).toInt - 15 * (u68.1 0 47).toInt ≤ (v.1 0 12).toInt - 15 * (v.1 0 47).toInt from (om_7d9f5eca64 z63 pw67 z81)), (show (v.1 0 15).toInt ≤ ((u68.1 0 15) + (1 : Int32)).toInt ∧ ((u68.1 0 15) + (1 : Int32)).toInt - 10 * (u68.1 0 47).toInt ≤ (v.1 0 15).toInt - 10 * (v.1 0 47).toInt from (om_e3c4ffe5ce z63 po67 z89)), (show (v.1 0 43).toInt ≤ (u68.1 0 43).toInt ∧ (u68.1 0 43).toInt - 15 * (u68.1 0 47).toInt ≤ (v.1 0 43).toInt - 15 * (v.1 0 47).toInt from (om_48209a9386 z63 pf67)), (show (v.1 0 39).toInt ≤ (u68.1 0 39).toInt ∧ (u68.1 0 39).toInt - 1 * (u68.1 0 47).toInt ≤ (v.1 0 39).toInt - 1 * (v.1 0 47).toInt from (om_df731194be z63 pk67)), (show (u68.1 0 32).toInt = (v.1 0 32).toInt ∧ ((u68.1 0 48) - (1 : Int32)).toInt = (v.1 0 48).toInt from (om_4a47b03b7f z64 pp67 z70)), (show (v.1 0 33).toInt ≤ (u68.1 0 33).toInt ∧ (u68.1 0 33).toInt ≤ 500 from (om_6bc0cea141 ph67)), (fun (j9 : Nat) hj9 => (Eq.trans (pk_un3 (a := (u68.1 0 12).toInt) rfl (om_1ce1b92b31 zws pw67) (om_e81726c0b3 pw67 hj9)) (kc67 j9 (om_4fe904e9bf hj9)))), (fun (j9 : Nat) hj9 => (Eq.trans (pk_un3 (a := (u68.1 0 15).toInt) rfl (om_4b760a59ba zos po67) (om_24f6a8216f po67 hj9)) (ko67 j9 (om_4fe904e9bf hj9)))), (fun (j9 : Nat) hj9 => (Eq.trans (pk_un3 (a := (u68.1 0 15).toInt) rfl (om_4b760a59ba zos po67) (om_24f6a8216f po67 hj9)) (kg67 j9 (om_4fe904e9bf hj9)))), (AR.o (AR.o (AR.o (AR.o (AR.o (AR.o a3567 (by decide)) (by decide)) (by decide)) (by decide)) (by decide)) (by decide)), (AR.o (AR.o (AR.o (AR.o (AR.o (AR.o a3767 (by decide)) (by decide)) (by decide)) (by decide)) (by decide)) (by decide)), (AR.o (AR.o (AR.o (AR.o (AR.o (AR.o a3867 (by decide)) (by decide)) (by decide)) (by decide)) (by decide)) (by decide)), (AR.o (AR.o (AR.o (AR.o (AR.o (AR.o a4067 (by decide)) (by decide)) (by decide)) (by decide)) (by decide)) (by decide)), (FX.o (FX.o (FX.o (FX.o (FX.o (FX.o fx67 (by decide) (by decide)) (by decide) (by decide)) (by decide) (by decide)) (by decide) (by decide)) (by decide) (by decide)) (by decide) (by decide))⟩, by rw [ht9]; exact hP, hD⟩, hS.F ht9⟩) hS.2.2 dX13_operand_386
              · have z90 : ((v.2 (v.1 0 47).toNatClampNeg).toInt32).toInt = (33 : Int) := eq_z rfl (show (33 : Int32).toInt = (33 : Int) by decide) h84
                exact False.elim (om_9d9908e07d z74 z90)
            · have z91 : ((v.2 (v.1 0 47).toNatClampNeg).toInt32).toInt = (45 : Int) := eq_z rfl (show (45 : Int32).toInt = (45 : Int) by decide) h82
              exact False.elim (om_aab5508d07 z72 z91)
          · have z92 : ((v.2 (v.1 0 47).toNatClampNeg).toInt32).toInt = (33 : Int) := eq_z rfl (show (33 : Int32).toInt = (33 : Int) by decide) h73
            refine lv_bipush (v := 19) hx hb dX13_operand_182 (by decide) ?_
            refine lv_iconst (v := 3) hx hb dX13_operand_184 (by decide) ?_
            refine lv_bipush (v := 10) hx hb dX13_operand_185 (by decide) ?_
            refine lv_bipush (v := 10) hx hb dX13_operand_187 (by decide) ?_
            refine lv_iconst (v := 1) hx hb dX13_operand_189 (by decide) ?_
            refine cu_s (mW_nd _ _ _ _ _ _) (rn_S (n := 5) (As := [.int 19, .int 3, .int 10, .int 10, .int 1]) (rest := [.ref (ad 0)]) hx hb hml hown ht hKK hFx hP hD hS hA (c_m_byI l dC dI cI cB cZ cJ cR tb H.size (19 : Int32) (3 : Int32) (10 : Int32) (10 : Int32) (1 : Int32) ) tw_2 tw_3 (by decide +kernel) rfl rfl ⟨show 0 + 1 ≤ 40 * n + 9 from om_fd17f2e70e, show 8 + (5 + 11) + 0 ≤ 28 * (40 * n + 9) from om_4dd6cddcce⟩ [] rfl rfl rfl hl.1 rfl (Nat.le_of_ble_eq_true rfl) dX13_operand_190 ⟨Nat.le_of_ble_eq_true rfl, Nat.le_of_ble_eq_true rfl⟩) hP hD hS hA (fun r95 H locs hw93 hP hD hS => ?_)
            refine W.widen (k := 0) (n := 0) (Nat.le_refl _) (Nat.le_refl _) ?_
            refine lv_goto (tgt := 207) hx hb dX13_operand_193 (by decide) ?_
            refine cu_i (rn_V (n := 1) (As := [.int r95]) (rest := []) hx hb hml hown ht hKK hFx hP hD hS hA (c_m_emit l dC dI cI cB cZ cJ cR tb H.size ad N (wA u68 0 48 ((u68.1 0 48) - (1 : Int32))) r95 (show 0 ≤ (u68.1 0 12).toInt ∧ (u68.1 0 12).toInt < 24000 from (om_6ad570a484 zws z63 pt67 pw67))) tw_8 tw_9 (by decide +kernel) rfl rfl ⟨show 0 + 1 ≤ 40 * n + 9 from om_fd17f2e70e, show 8 + (2 + 11) + 0 ≤ 28 * (40 * n + 9) from om_4229287154⟩ (List.range (mW ad N cI cZ cJ (wA u68 0 48 ((u68.1 0 48) - (1 : Int32)))).length) (rg_map _) (mW_nd _ _ _ _ _ _) rfl rfl rfl rfl hl.1 rfl (Nat.le_of_ble_eq_true rfl) dX13_operand_207 ⟨Nat.le_of_ble_eq_true rfl, Nat.le_of_ble_eq_true rfl⟩) hP hD hS hA (fun r98 u97 H locs hw96 hP hD hS => ?_)
            obtain ⟨rfl, rfl⟩ := hw96
            have z99 : ((u68.1 0 12) + (1 : Int32)).toInt = ((u68.1 0 12).toInt) + (1 : Int) := add_z rfl (show (1 : Int32).toInt = (1 : Int) by decide) (om_6ad47c49ef zws pw67) (om_99b5e8925f zws z63 pt67 pw67)
            have hP : va_P (dC, dI) vwCl (mW ad N cI cZ cJ (wA (wA (wA u68 0 48 ((u68.1 0 48) - (1 : Int32))) 11 ((u68.1 0 12).toNatClampNeg) r95) 0 12 ((u68.1 0 12) + (1 : Int32)))) H := hP
            have hD : va_D A (mW ad N cI cZ cJ (wA (wA (wA u68 0 48 ((u68.1 0 48) - (1 : Int32))) 11 ((u68.1 0 12).toNatClampNeg) r95) 0 12 ((u68.1 0 12) + (1 : Int32)))) := hD
            refine tp_i (y := (u68.1 0 12)) (rfl) ?_
            refine W.widen (k := 0) (n := 0) (Nat.le_refl _) (Nat.le_refl _) ?_
            refine lv_pop hx hb dX13_operand_210 rfl ?_
            refine lv_aload_n hx hb dX13_operand_211 rfl (lv_at hl 1 rfl) ?_
            refine lv_iload_n hx hb dX13_operand_212 rfl (lv_at hl 0 rfl) ?_
            refine lv_bipush (v := 45) hx hb dX13_operand_213 (by decide) ?_
            refine lv_icmp_ne (tgt := 223) hx hb dX13_operand_215 (by decide) (fun h100 => ?_) (fun h100 => ?_)
            · have z101 : ((v.2 (v.1 0 47).toNatClampNeg).toInt32).toInt ≠ (45 : Int) := ne_z rfl (show (45 : Int32).toInt = (45 : Int) by decide) h100
              refine lv_iload_n hx hb dX13_operand_223 rfl (lv_at hl 0 rfl) ?_
              refine lv_bipush (v := 33) hx hb dX13_operand_224 (by decide) ?_
              refine lv_icmp_ne (tgt := 234) hx hb dX13_operand_226 (by decide) (fun h102 => ?_) (fun h102 => ?_)
              · have z103 : ((v.2 (v.1 0 47).toNatClampNeg).toInt32).toInt ≠ (33 : Int) := ne_z rfl (show (33 : Int32).toInt = (33 : Int) by decide) h102
                exact False.elim (om_abbf94d96b z92 z103)
              · have z104 : ((v.2 (v.1 0 47).toNatClampNeg).toInt32).toInt = (33 : Int) := eq_z rfl (show (33 : Int32).toInt = (33 : Int) by decide) h102
                refine lv_bipush (v := 19) hx hb dX13_operand_229 (by decide) ?_
                refine lv_goto (tgt := 236) hx hb dX13_operand_231 (by decide) ?_
                refine lv_iconst (v := 0) hx hb dX13_operand_236 (by decide) ?_
                refine cu_i (rn_V (n := 2) (As := [.int 19, .int 0]) (rest := []) hx hb hml hown ht hKK hFx hP hD hS hA (c_m_say l dC dI cI cB cZ cJ cR tb H.size ad N (wA (wA (wA u68 0 48 ((u68.1 0 48) - (1 : Int32))) 11 ((u68.1 0 12).toNatClampNeg) r95) 0 12 ((u68.1 0 12) + (1 : Int32))) (19 : Int32) (0 : Int32) (show 0 ≤ (u68.1 0 15).toInt ∧ (u68.1 0 15).toInt < 16000 from (om_ab4ad5e078 zos z63 pt67 po67))) tw_59 tw_60 (by decide +kernel) rfl rfl ⟨show 0 + 1 ≤ 40 * n + 9 from om_fd17f2e70e, show 8 + (3 + 11) + 0 ≤ 28 * (40 * n + 9) from om_e79917e237⟩ (List.range (mW ad N cI cZ cJ (wA (wA (wA u68 0 48 ((u68.1 0 48) - (1 : Int32))) 11 ((u68.1 0 12).toNatClampNeg) r95) 0 12 ((u68.1 0 12) + (1 : Int32)))).length) (rg_map _) (mW_nd _ _ _ _ _ _) rfl rfl rfl rfl hl.1 rfl (Nat.le_of_ble_eq_true rfl) dX13_operand_237 ⟨Nat.le_of_ble_eq_true rfl, Nat.le_of_ble_eq_true rfl⟩) hP hD hS hA (fun r107 u106 H locs hw105 hP hD hS => ?_)
                obtain ⟨rfl, rfl⟩ := hw105
                have z108 : ((u68.1 0 15) + (1 : Int32)).toInt = ((u68.1 0 15).toInt) + (1 : Int) := add_z rfl (show (1 : Int32).toInt = (1 : Int) by decide) (om_436cd0d872 zos po67) (om_4b3fea160f zos z63 pt67 po67)
                have hP : va_P (dC, dI) vwCl (mW ad N cI cZ cJ (wA (wA (wA (wA (wA (wA u68 0 48 ((u68.1 0 48) - (1 : Int32))) 11 ((u68.1 0 12).toNatClampNeg) r95) 0 12 ((u68.1 0 12) + (1 : Int32))) 13 ((u68.1 0 15).toNatClampNeg) (19 : Int32)) 14 ((u68.1 0 15).toNatClampNeg) (0 : Int32)) 0 15 ((u68.1 0 15) + (1 : Int32)))) H := hP
                have hD : va_D A (mW ad N cI cZ cJ (wA (wA (wA (wA (wA (wA u68 0 48 ((u68.1 0 48) - (1 : Int32))) 11 ((u68.1 0 12).toNatClampNeg) r95) 0 12 ((u68.1 0 12) + (1 : Int32))) 13 ((u68.1 0 15).toNatClampNeg) (19 : Int32)) 14 ((u68.1 0 15).toNatClampNeg) (0 : Int32)) 0 15 ((u68.1 0 15) + (1 : Int32)))) := hD
                refine tp_i (y := (u68.1 0 15)) (rfl) ?_
                refine W.widen (k := 0) (n := 0) (Nat.le_refl _) (Nat.le_refl _) ?_
                refine lv_pop hx hb dX13_operand_240 rfl ?_
                refine lv_goto (tgt := 386) hx hb dX13_operand_241 (by decide) ?_
                refine vx_ret ?_
                exact W.vret hx hb hr (fun t ht9 hW => ⟨⟨(wA (wA (wA (wA (wA (wA u68 0 48 ((u68.1 0 48) - (1 : Int32))) 11 ((u68.1 0 12).toNatClampNeg) r95) 0 12 ((u68.1 0 12) + (1 : Int32))) 13 ((u68.1 0 15).toNatClampNeg) (19 : Int32)) 14 ((u68.1 0 15).toNatClampNeg) (0 : Int32)) 0 15 ((u68.1 0 15) + (1 : Int32))), rfl, ⟨(FG.f (FG.a (FG.a (FG.f (FG.a (FG.f (FG.tr (FG.f (FG.f (FG.rf _) ((v.1 0 47) + (1 : Int32)) (by decide)) ((v.1 0 48) + (1 : Int32)) (by decide)) (FG.up fr67 (by decide) (by decide))) ((u68.1 0 48) - (1 : Int32)) (by decide)) ((u68.1 0 12).toNatClampNeg) r95 (by decide) (by decide)) ((u68.1 0 12) + (1 : Int32)) (by decide)) ((u68.1 0 15).toNatClampNeg) (19 : Int32) (by decide) (by decide)) ((u68.1 0 15).toNatClampNeg) (0 : Int32) (by decide) (by decide)) ((u68.1 0 15) + (1 : Int32)) (by decide)), (show (v.1 0 47).toInt + 1 ≤ (u68.1 0 47).toInt ∧ (u68.1 0 47).toInt ≤ 1500 from (om_ff8aa832bb z63 pt67)), (show (v.1 0 49).toInt ≠ (v.1 0 47).toInt from (om_32294a9ce4 c60)), (show (v.1 0 12).toInt ≤ ((u68.1 0 12) + (1 : Int32)).toInt ∧ ((u68.1 0 12) + (1 : Int32)).toInt - 15 * (u68.1 0 47).toInt ≤ (v.1 0 12).toInt - 15 * (v.1 0 47).toInt from (om_7d9f5eca64 z63 pw67 z99)), (show (v.1 0 15).toInt ≤ ((u68.1 0 15) + (1 : Int32)).toInt ∧ ((u68.1 0 15) + (1 : Int32)).toInt - 10 * (u68.1 0 47).toInt ≤ (v.1 0 15).toInt - 10 * (v.1 0 47).toInt from (om_e3c4ffe5ce z63 po67 z108)), (show (v.1 0 43).toInt ≤ (u68.1 0 43).toInt ∧ (u68.1 0 43).toInt - 15 * (u68.1 0 47).toInt ≤ (v.1 0 43).toInt - 15 * (v.1 0 47).toInt from (om_48209a9386 z63 pf67)), (show (v.1 0 39).toInt ≤ (u68.1 0 39).toInt ∧ (u68.1 0 39).toInt - 1 * (u68.1 0 47).toInt ≤ (v.1 0 39).toInt - 1 * (v.1 0 47).toInt from (om_df731194be z63 pk67)), (show (u68.1 0 32).toInt = (v.1 0 32).toInt ∧ ((u68.1 0 48) - (1 : Int32)).toInt = (v.1 0 48).toInt from (om_4a47b03b7f z64 pp67 z70)), (show (v.1 0 33).toInt ≤ (u68.1 0 33).toInt ∧ (u68.1 0 33).toInt ≤ 500 from (om_6bc0cea141 ph67)), (fun (j9 : Nat) hj9 => (Eq.trans (pk_un3 (a := (u68.1 0 12).toInt) rfl (om_1ce1b92b31 zws pw67) (om_e81726c0b3 pw67 hj9)) (kc67 j9 (om_4fe904e9bf hj9)))), (fun (j9 : Nat) hj9 => (Eq.trans (pk_un3 (a := (u68.1 0 15).toInt) rfl (om_4b760a59ba zos po67) (om_24f6a8216f po67 hj9)) (ko67 j9 (om_4fe904e9bf hj9)))), (fun (j9 : Nat) hj9 => (Eq.trans (pk_un3 (a := (u68.1 0 15).toInt) rfl (om_4b760a59ba zos po67) (om_24f6a8216f po67 hj9)) (kg67 j9 (om_4fe904e9bf hj9)))), (AR.o (AR.o (AR.o (AR.o (AR.o (AR.o a3567 (by decide)) (by decide)) (by decide)) (by decide)) (by decide)) (by decide)), (AR.o (AR.o (AR.o (AR.o (AR.o (AR.o a3767 (by decide)) (by decide)) (by decide)) (by decide)) (by decide)) (by decide)), (AR.o (AR.o (AR.o (AR.o (AR.o (AR.o a3867 (by decide)) (by decide)) (by decide)) (by decide)) (by decide)) (by decide)), (AR.o (AR.o (AR.o (AR.o (AR.o (AR.o a4067 (by decide)) (by decide)) (by decide)) (by decide)) (by decide)) (by decide)), (FX.o (FX.o (FX.o (FX.o (FX.o (FX.o fx67 (by decide) (by decide)) (by decide) (by decide)) (by decide) (by decide)) (by decide) (by decide)) (by decide) (by decide)) (by decide) (by decide))⟩, by rw [ht9]; exact hP, hD⟩, hS.F ht9⟩) hS.2.2 dX13_operand_386
            · have z109 : ((v.2 (v.1 0 47).toNatClampNeg).toInt32).toInt = (45 : Int) := eq_z rfl (show (45 : Int32).toInt = (45 : Int) by decide) h100
              exact False.elim (om_ac897fe355 z92 z109)
        · have z110 : ((v.2 (v.1 0 47).toNatClampNeg).toInt32).toInt = (45 : Int) := eq_z rfl (show (45 : Int32).toInt = (45 : Int) by decide) h71
          refine lv_bipush (v := 32) hx hb dX13_operand_162 (by decide) ?_
          refine lv_iconst (v := 0) hx hb dX13_operand_164 (by decide) ?_
          refine lv_bipush (v := 10) hx hb dX13_operand_165 (by decide) ?_
          refine lv_iconst (v := 0) hx hb dX13_operand_167 (by decide) ?_
          refine lv_bipush (v := 10) hx hb dX13_operand_168 (by decide) ?_
          refine cu_s (mW_nd _ _ _ _ _ _) (rn_S (n := 5) (As := [.int 32, .int 0, .int 10, .int 0, .int 10]) (rest := [.ref (ad 0)]) hx hb hml hown ht hKK hFx hP hD hS hA (c_m_byR l dC dI cI cB cZ cJ cR tb H.size (32 : Int32) (0 : Int32) (10 : Int32) (0 : Int32) (10 : Int32) ) tw_67 tw_68 (by decide +kernel) rfl rfl ⟨show 0 + 1 ≤ 40 * n + 9 from om_fd17f2e70e, show 8 + (5 + 11) + 0 ≤ 28 * (40 * n + 9) from om_4dd6cddcce⟩ [] rfl rfl rfl hl.1 rfl (Nat.le_of_ble_eq_true rfl) dX13_operand_170 ⟨Nat.le_of_ble_eq_true rfl, Nat.le_of_ble_eq_true rfl⟩) hP hD hS hA (fun r113 H locs hw111 hP hD hS => ?_)
          refine W.widen (k := 0) (n := 0) (Nat.le_refl _) (Nat.le_refl _) ?_
          refine lv_goto (tgt := 207) hx hb dX13_operand_173 (by decide) ?_
          refine cu_i (rn_V (n := 1) (As := [.int r113]) (rest := []) hx hb hml hown ht hKK hFx hP hD hS hA (c_m_emit l dC dI cI cB cZ cJ cR tb H.size ad N (wA u68 0 48 ((u68.1 0 48) - (1 : Int32))) r113 (show 0 ≤ (u68.1 0 12).toInt ∧ (u68.1 0 12).toInt < 24000 from (om_6ad570a484 zws z63 pt67 pw67))) tw_8 tw_9 (by decide +kernel) rfl rfl ⟨show 0 + 1 ≤ 40 * n + 9 from om_fd17f2e70e, show 8 + (2 + 11) + 0 ≤ 28 * (40 * n + 9) from om_4229287154⟩ (List.range (mW ad N cI cZ cJ (wA u68 0 48 ((u68.1 0 48) - (1 : Int32)))).length) (rg_map _) (mW_nd _ _ _ _ _ _) rfl rfl rfl rfl hl.1 rfl (Nat.le_of_ble_eq_true rfl) dX13_operand_207 ⟨Nat.le_of_ble_eq_true rfl, Nat.le_of_ble_eq_true rfl⟩) hP hD hS hA (fun r116 u115 H locs hw114 hP hD hS => ?_)
          obtain ⟨rfl, rfl⟩ := hw114
          have z117 : ((u68.1 0 12) + (1 : Int32)).toInt = ((u68.1 0 12).toInt) + (1 : Int) := add_z rfl (show (1 : Int32).toInt = (1 : Int) by decide) (om_6ad47c49ef zws pw67) (om_99b5e8925f zws z63 pt67 pw67)
          have hP : va_P (dC, dI) vwCl (mW ad N cI cZ cJ (wA (wA (wA u68 0 48 ((u68.1 0 48) - (1 : Int32))) 11 ((u68.1 0 12).toNatClampNeg) r113) 0 12 ((u68.1 0 12) + (1 : Int32)))) H := hP
          have hD : va_D A (mW ad N cI cZ cJ (wA (wA (wA u68 0 48 ((u68.1 0 48) - (1 : Int32))) 11 ((u68.1 0 12).toNatClampNeg) r113) 0 12 ((u68.1 0 12) + (1 : Int32)))) := hD
          refine tp_i (y := (u68.1 0 12)) (rfl) ?_
          refine W.widen (k := 0) (n := 0) (Nat.le_refl _) (Nat.le_refl _) ?_
          refine lv_pop hx hb dX13_operand_210 rfl ?_
          refine lv_aload_n hx hb dX13_operand_211 rfl (lv_at hl 1 rfl) ?_
          refine lv_iload_n hx hb dX13_operand_212 rfl (lv_at hl 0 rfl) ?_
          refine lv_bipush (v := 45) hx hb dX13_operand_213 (by decide) ?_
          refine lv_icmp_ne (tgt := 223) hx hb dX13_operand_215 (by decide) (fun h118 => ?_) (fun h118 => ?_)
          · have z119 : ((v.2 (v.1 0 47).toNatClampNeg).toInt32).toInt ≠ (45 : Int) := ne_z rfl (show (45 : Int32).toInt = (45 : Int) by decide) h118
            exact False.elim (om_bdc7d89919 z110 z119)
          · have z120 : ((v.2 (v.1 0 47).toNatClampNeg).toInt32).toInt = (45 : Int) := eq_z rfl (show (45 : Int32).toInt = (45 : Int) by decide) h118
            refine lv_bipush (v := 18) hx hb dX13_operand_218 (by decide) ?_
            refine lv_goto (tgt := 236) hx hb dX13_operand_220 (by decide) ?_
            refine lv_iconst (v := 0) hx hb dX13_operand_236 (by decide) ?_
            refine cu_i (rn_V (n := 2) (As := [.int 18, .int 0]) (rest := []) hx hb hml hown ht hKK hFx hP hD hS hA (c_m_say l dC dI cI cB cZ cJ cR tb H.size ad N (wA (wA (wA u68 0 48 ((u68.1 0 48) - (1 : Int32))) 11 ((u68.1 0 12).toNatClampNeg) r113) 0 12 ((u68.1 0 12) + (1 : Int32))) (18 : Int32) (0 : Int32) (show 0 ≤ (u68.1 0 15).toInt ∧ (u68.1 0 15).toInt < 16000 from (om_ab4ad5e078 zos z63 pt67 po67))) tw_59 tw_60 (by decide +kernel) rfl rfl ⟨show 0 + 1 ≤ 40 * n + 9 from om_fd17f2e70e, show 8 + (3 + 11) + 0 ≤ 28 * (40 * n + 9) from om_e79917e237⟩ (List.range (mW ad N cI cZ cJ (wA (wA (wA u68 0 48 ((u68.1 0 48) - (1 : Int32))) 11 ((u68.1 0 12).toNatClampNeg) r113) 0 12 ((u68.1 0 12) + (1 : Int32)))).length) (rg_map _) (mW_nd _ _ _ _ _ _) rfl rfl rfl rfl hl.1 rfl (Nat.le_of_ble_eq_true rfl) dX13_operand_237 ⟨Nat.le_of_ble_eq_true rfl, Nat.le_of_ble_eq_true rfl⟩) hP hD hS hA (fun r123 u122 H locs hw121 hP hD hS => ?_)
            obtain ⟨rfl, rfl⟩ := hw121
            have z124 : ((u68.1 0 15) + (1 : Int32)).toInt = ((u68.1 0 15).toInt) + (1 : Int) := add_z rfl (show (1 : Int32).toInt = (1 : Int) by decide) (om_436cd0d872 zos po67) (om_4b3fea160f zos z63 pt67 po67)
            have hP : va_P (dC, dI) vwCl (mW ad N cI cZ cJ (wA (wA (wA (wA (wA (wA u68 0 48 ((u68.1 0 48) - (1 : Int32))) 11 ((u68.1 0 12).toNatClampNeg) r113) 0 12 ((u68.1 0 12) + (1 : Int32))) 13 ((u68.1 0 15).toNatClampNeg) (18 : Int32)) 14 ((u68.1 0 15).toNatClampNeg) (0 : Int32)) 0 15 ((u68.1 0 15) + (1 : Int32)))) H := hP
            have hD : va_D A (mW ad N cI cZ cJ (wA (wA (wA (wA (wA (wA u68 0 48 ((u68.1 0 48) - (1 : Int32))) 11 ((u68.1 0 12).toNatClampNeg) r113) 0 12 ((u68.1 0 12) + (1 : Int32))) 13 ((u68.1 0 15).toNatClampNeg) (18 : Int32)) 14 ((u68.1 0 15).toNatClampNeg) (0 : Int32)) 0 15 ((u68.1 0 15) + (1 : Int32)))) := hD
            refine tp_i (y := (u68.1 0 15)) (rfl) ?_
            refine W.widen (k := 0) (n := 0) (Nat.le_refl _) (Nat.le_refl _) ?_
            refine lv_pop hx hb dX13_operand_240 rfl ?_
            refine lv_goto (tgt := 386) hx hb dX13_operand_241 (by decide) ?_
            refine vx_ret ?_
            exact W.vret hx hb hr (fun t ht9 hW => ⟨⟨(wA (wA (wA (wA (wA (wA u68 0 48 ((u68.1 0 48) - (1 : Int32))) 11 ((u68.1 0 12).toNatClampNeg) r113) 0 12 ((u68.1 0 12) + (1 : Int32))) 13 ((u68.1 0 15).toNatClampNeg) (18 : Int32)) 14 ((u68.1 0 15).toNatClampNeg) (0 : Int32)) 0 15 ((u68.1 0 15) + (1 : Int32))), rfl, ⟨(FG.f (FG.a (FG.a (FG.f (FG.a (FG.f (FG.tr (FG.f (FG.f (FG.rf _) ((v.1 0 47) + (1 : Int32)) (by decide)) ((v.1 0 48) + (1 : Int32)) (by decide)) (FG.up fr67 (by decide) (by decide))) ((u68.1 0 48) - (1 : Int32)) (by decide)) ((u68.1 0 12).toNatClampNeg) r113 (by decide) (by decide)) ((u68.1 0 12) + (1 : Int32)) (by decide)) ((u68.1 0 15).toNatClampNeg) (18 : Int32) (by decide) (by decide)) ((u68.1 0 15).toNatClampNeg) (0 : Int32) (by decide) (by decide)) ((u68.1 0 15) + (1 : Int32)) (by decide)), (show (v.1 0 47).toInt + 1 ≤ (u68.1 0 47).toInt ∧ (u68.1 0 47).toInt ≤ 1500 from (om_ff8aa832bb z63 pt67)), (show (v.1 0 49).toInt ≠ (v.1 0 47).toInt from (om_32294a9ce4 c60)), (show (v.1 0 12).toInt ≤ ((u68.1 0 12) + (1 : Int32)).toInt ∧ ((u68.1 0 12) + (1 : Int32)).toInt - 15 * (u68.1 0 47).toInt ≤ (v.1 0 12).toInt - 15 * (v.1 0 47).toInt from (om_7d9f5eca64 z63 pw67 z117)), (show (v.1 0 15).toInt ≤ ((u68.1 0 15) + (1 : Int32)).toInt ∧ ((u68.1 0 15) + (1 : Int32)).toInt - 10 * (u68.1 0 47).toInt ≤ (v.1 0 15).toInt - 10 * (v.1 0 47).toInt from (om_e3c4ffe5ce z63 po67 z124)), (show (v.1 0 43).toInt ≤ (u68.1 0 43).toInt ∧ (u68.1 0 43).toInt - 15 * (u68.1 0 47).toInt ≤ (v.1 0 43).toInt - 15 * (v.1 0 47).toInt from (om_48209a9386 z63 pf67)), (show (v.1 0 39).toInt ≤ (u68.1 0 39).toInt ∧ (u68.1 0 39).toInt - 1 * (u68.1 0 47).toInt ≤ (v.1 0 39).toInt - 1 * (v.1 0 47).toInt from (om_df731194be z63 pk67)), (show (u68.1 0 32).toInt = (v.1 0 32).toInt ∧ ((u68.1 0 48) - (1 : Int32)).toInt = (v.1 0 48).toInt from (om_4a47b03b7f z64 pp67 z70)), (show (v.1 0 33).toInt ≤ (u68.1 0 33).toInt ∧ (u68.1 0 33).toInt ≤ 500 from (om_6bc0cea141 ph67)), (fun (j9 : Nat) hj9 => (Eq.trans (pk_un3 (a := (u68.1 0 12).toInt) rfl (om_1ce1b92b31 zws pw67) (om_e81726c0b3 pw67 hj9)) (kc67 j9 (om_4fe904e9bf hj9)))), (fun (j9 : Nat) hj9 => (Eq.trans (pk_un3 (a := (u68.1 0 15).toInt) rfl (om_4b760a59ba zos po67) (om_24f6a8216f po67 hj9)) (ko67 j9 (om_4fe904e9bf hj9)))), (fun (j9 : Nat) hj9 => (Eq.trans (pk_un3 (a := (u68.1 0 15).toInt) rfl (om_4b760a59ba zos po67) (om_24f6a8216f po67 hj9)) (kg67 j9 (om_4fe904e9bf hj9)))), (AR.o (AR.o (AR.o (AR.o (AR.o (AR.o a3567 (by decide)) (by decide)) (by decide)) (by decide)) (by decide)) (by decide)), (AR.o (AR.o (AR.o (AR.o (AR.o (AR.o a3767 (by decide)) (by decide)) (by decide)) (by decide)) (by decide)) (by decide)), (AR.o (AR.o (AR.o (AR.o (AR.o (AR.o a3867 (by decide)) (by decide)) (by decide)) (by decide)) (by decide)) (by decide)), (AR.o (AR.o (AR.o (AR.o (AR.o (AR.o a4067 (by decide)) (by decide)) (by decide)) (by decide)) (by decide)) (by decide)), (FX.o (FX.o (FX.o (FX.o (FX.o (FX.o fx67 (by decide) (by decide)) (by decide) (by decide)) (by decide) (by decide)) (by decide) (by decide)) (by decide) (by decide)) (by decide) (by decide))⟩, by rw [ht9]; exact hP, hD⟩, hS.F ht9⟩) hS.2.2 dX13_operand_386
      · have z125 : r57.toInt = (0 : Int) := eq_z rfl (show (0 : Int32).toInt = (0 : Int) by decide) h58
        refine lv_aload_n hx hb dX13_operand_108 rfl (lv_at hl 0 rfl) ?_
        refine lv_bipush (v := 33) hx hb dX13_operand_109 (by decide) ?_
        refine cu_i (rn_V (n := 1) (As := [.int 33]) (rest := []) hx hb hml hown ht hKK hFx hP hD hS hA (c_m_is l dC dI cI cB cZ cJ cR tb H.size ad N v (33 : Int32) (show 0 ≤ (v.1 0 47).toInt ∧ (v.1 0 47).toInt ≤ 1500 from (om_2fb699b811 zt zfs))) tw_34 tw_35 (by decide +kernel) rfl rfl ⟨show 1 + 1 ≤ 40 * n + 9 from om_dc0ef911ca, show 8 + (2 + 11) + 22 ≤ 28 * (40 * n + 9) from om_8685d0996a⟩ (List.range (mW ad N cI cZ cJ v).length) (rg_map _) (mW_nd _ _ _ _ _ _) rfl rfl rfl rfl hl.1 rfl (Nat.le_of_ble_eq_true rfl) dX13_operand_111 ⟨Nat.le_of_ble_eq_true rfl, Nat.le_of_ble_eq_true rfl⟩) hP hD hS hA (fun r128 u127 H locs hw126 hP hD hS => ?_)
        obtain ⟨rfl, b126, e126⟩ := hw126
        refine W.widen (k := 0) (n := 0) (Nat.le_refl _) (Nat.le_refl _) ?_
        refine lv_if_ne (tgt := 126) hx hb dX13_operand_114 (by decide) (fun h129 => ?_) (fun h129 => ?_)
        · have z130 : r128.toInt ≠ (0 : Int) := ne_z rfl (show (0 : Int32).toInt = (0 : Int) by decide) h129
          refine lv_aload_n hx hb dX13_operand_126 rfl (lv_at hl 0 rfl) ?_
          refine va_get (D := (dC, dI)) (ci := 16) (fs := mF ad v) (v := .ref (ad 9)) (C := RX13) (T := TX13) (N := 124) hx hb ht itX13 hown hK hP 0 rfl rfl 9 (by decide) (ht _ tw_27) (fun _ h9 => h9) rfl dX13_operand_127 ?_
          refine lv_aload_n hx hb dX13_operand_130 rfl (lv_at hl 0 rfl) ?_
          refine va_get (D := (dC, dI)) (ci := 16) (fs := mF ad v) (v := .int (v.1 0 47)) (C := RX13) (T := TX13) (N := 124) hx hb ht itX13 hown hK hP 0 rfl rfl 47 (by decide) (ht _ tw_24) (fun _ h9 => h9) rfl dX13_operand_131 ?_
          refine va_lald (D := (dC, dI)) (f := v.2) hx hb hK hP 6 3 rfl rfl (in_y (a := (v.1 0 47).toInt) (b := 4002) rfl (om_e33521859d zfs) (om_449eb7e9bb zt) rfl) dX13_operand_134 ?_
          refine lv_l2i hx hb dX13_operand_135 rfl ?_
          refine lv_istore_n (lv' := [(1, .int ((v.2 (v.1 0 47).toNatClampNeg).toInt32)), (0, .ref (ad 0))]) hx hb dX13_operand_136 rfl hl (by decide) rfl (fun ls hl => ?_)
          refine lv_aload_n hx hb dX13_operand_137 rfl (lv_at hl 1 rfl) ?_
          refine cux_v (rx_V (n := 0) (As := []) (rest := []) hx hb hml hown ht hKK hFx hP hD hS hA (c_m_opens l dC dI cI cB cZ cJ cR tb H.size ad N v  (show 0 ≤ (v.1 0 47).toInt ∧ (v.1 0 47).toInt ≤ 1500 from (om_2fb699b811 zt zfs)) (show 0 ≤ (v.1 0 48).toInt ∧ (v.1 0 48).toInt ≤ 40 from (om_7eaf33e007 zop))) tw_38 tw_39 (by decide +kernel) rfl rfl ⟨show 2 + 1 ≤ 40 * n + 9 from om_86eef57ede, show 8 + (1 + 11) + 42 ≤ 28 * (40 * n + 9) from om_750cfefb29⟩ (List.range (mW ad N cI cZ cJ v).length) (rg_map _) (mW_nd _ _ _ _ _ _) rfl rfl rfl rfl hl.1 rfl (Nat.le_of_ble_eq_true rfl) dX13_operand_138 ⟨Nat.le_of_ble_eq_true rfl, Nat.le_of_ble_eq_true rfl⟩) hP hD hS hA (fun u9 ce9 q9 H locs hx9 hP hD hS hc9 hv9 hf9 => ?_) (fun u132 H locs hw131 hP hD hS => ?_)
          · exact vx_out (fun x h9 => (hnt x h9).elim) hlocks hc9 hv9 hf9 (fun t9 ht9 hv8 => ⟨u9, (FG.tr (FG.rf _) hx9), ⟨rfl, by rw [ht9]; exact hP, hD⟩, hS.F ht9⟩) hS.2.2 (Nat.le_refl _) (Nat.le_refl _)
          obtain ⟨rfl, a131, b131, c131⟩ := hw131
          have z134 : ((v.1 0 47) + (1 : Int32)).toInt = ((v.1 0 47).toInt) + (1 : Int) := add_z rfl (show (1 : Int32).toInt = (1 : Int) by decide) (om_3eca9b17a5 zws) (om_27eb55d06c zt)
          have z135 : ((v.1 0 48) + (1 : Int32)).toInt = ((v.1 0 48).toInt) + (1 : Int) := add_z rfl (show (1 : Int32).toInt = (1 : Int) by decide) (om_c2418a9965 zop) (om_defb2a7457 zop)
          have hP : va_P (dC, dI) vwCl (mW ad N cI cZ cJ (wA (wA v 0 47 ((v.1 0 47) + (1 : Int32))) 0 48 ((v.1 0 48) + (1 : Int32)))) H := hP
          have hD : va_D A (mW ad N cI cZ cJ (wA (wA v 0 47 ((v.1 0 47) + (1 : Int32))) 0 48 ((v.1 0 48) + (1 : Int32)))) := hD
          refine W.widen (k := 0) (n := 0) (Nat.le_refl _) (Nat.le_refl _) ?_
          refine lv_aload_n hx hb dX13_operand_141 rfl (lv_at hl 1 rfl) ?_
          obtain ⟨n136, hn137⟩ : ∃ m, n = m + 1 := ex_z (om_78b28660f8 zn b131)
          refine cux_v (rx_V (n := 0) (As := []) (rest := []) hx hb hml hown ht hKK hFx hP hD hS hA (ihO n136 hn137 dC dI cI cB cZ cJ cR tb H.size ad N (wA (wA v 0 47 ((v.1 0 47) + (1 : Int32))) 0 48 ((v.1 0 48) + (1 : Int32)))  (show 40 ≤ ((v.1 0 48) + (1 : Int32)).toInt + (n136 : Int) from (om_43cb5bce6b zn z135 hn137)) (show 0 ≤ ((v.1 0 47) + (1 : Int32)).toInt ∧ ((v.1 0 47) + (1 : Int32)).toInt ≤ 1500 from (om_cae3a623a5 zfs z134 a131)) (show 0 ≤ ((v.1 0 48) + (1 : Int32)).toInt ∧ ((v.1 0 48) + (1 : Int32)).toInt ≤ 40 from (om_4c33377394 zop z135 b131)) (show 0 ≤ (v.1 0 30).toInt ∧ (v.1 0 30).toInt ≤ 500 from (om_9861e69da5 zkn)) (show 0 ≤ (v.1 0 33).toInt ∧ (v.1 0 33).toInt ≤ 500 from (om_9861e69da5 zhi)) (show 0 ≤ (v.1 0 32).toInt ∧ (v.1 0 30).toInt + (v.1 0 32).toInt ≤ (v.1 0 33).toInt from (om_f541e4003c zs)) (show 0 ≤ (v.1 0 12).toInt ∧ (v.1 0 12).toInt ≤ 15 * ((v.1 0 47) + (1 : Int32)).toInt + 2 from (om_3894ab1223 zws z134)) (show 0 ≤ (v.1 0 15).toInt ∧ (v.1 0 15).toInt ≤ 10 * ((v.1 0 47) + (1 : Int32)).toInt + 0 from (om_9a74738aa2 zos z134)) (show 0 ≤ (v.1 0 43).toInt ∧ (v.1 0 43).toInt ≤ 15 * ((v.1 0 47) + (1 : Int32)).toInt + 0 from (om_434df26a0f zfs z134)) (show 0 ≤ (v.1 0 39).toInt ∧ (v.1 0 39).toInt ≤ 1 * ((v.1 0 47) + (1 : Int32)).toInt + 0 from (om_3840c96ead zcs z134)) (show 0 ≤ (v.1 0 27).toInt ∧ (v.1 0 27).toInt ≤ 60 from (om_1d2c7ad648 zgl)) (show TI (wA (wA v 0 47 ((v.1 0 47) + (1 : Int32))) 0 48 ((v.1 0 48) + (1 : Int32))) from FG.ti (fl := pfl) (al := pal) (FG.f (FG.f (FG.rf _) ((v.1 0 47) + (1 : Int32)) (by decide)) ((v.1 0 48) + (1 : Int32)) (by decide)) (by decide) (by decide) hT) (show AR 29 0 1500 (wA (wA v 0 47 ((v.1 0 47) + (1 : Int32))) 0 48 ((v.1 0 48) + (1 : Int32))) from (AR.o (AR.o a29 (by decide)) (by decide))) (show AR 23 0 1500 (wA (wA v 0 47 ((v.1 0 47) + (1 : Int32))) 0 48 ((v.1 0 48) + (1 : Int32))) from (AR.o (AR.o a23 (by decide)) (by decide))) (show AR 35 0 1500 (wA (wA v 0 47 ((v.1 0 47) + (1 : Int32))) 0 48 ((v.1 0 48) + (1 : Int32))) from (AR.o (AR.o a35 (by decide)) (by decide))) (show AR 37 0 23999 (wA (wA v 0 47 ((v.1 0 47) + (1 : Int32))) 0 48 ((v.1 0 48) + (1 : Int32))) from (AR.o (AR.o a37 (by decide)) (by decide))) (show AR 38 0 15999 (wA (wA v 0 47 ((v.1 0 47) + (1 : Int32))) 0 48 ((v.1 0 48) + (1 : Int32))) from (AR.o (AR.o a38 (by decide)) (by decide))) (show AR 40 0 23999 (wA (wA v 0 47 ((v.1 0 47) + (1 : Int32))) 0 48 ((v.1 0 48) + (1 : Int32))) from (AR.o (AR.o a40 (by decide)) (by decide))) (show FX (wA (wA v 0 47 ((v.1 0 47) + (1 : Int32))) 0 48 ((v.1 0 48) + (1 : Int32))) from (FX.o (FX.o fx (by decide) (by decide)) (by decide) (by decide)))) tw_114 tw_115 (by decide +kernel) rfl rfl ⟨show (40 * n136 + 9) + 1 ≤ 40 * n + 9 from (om_d13994734d hn137), show 8 + (2 + 11) + 28 * (40 * n136 + 9) ≤ 28 * (40 * n + 9) from (om_7349e8fe6d hn137)⟩ (List.range (mW ad N cI cZ cJ (wA (wA v 0 47 ((v.1 0 47) + (1 : Int32))) 0 48 ((v.1 0 48) + (1 : Int32)))).length) (rg_map _) (mW_nd _ _ _ _ _ _) rfl rfl rfl rfl hl.1 rfl (Nat.le_of_ble_eq_true rfl) dX13_operand_142 ⟨Nat.le_of_ble_eq_true rfl, Nat.le_of_ble_eq_true rfl⟩) hP hD hS hA (fun u9 ce9 q9 H locs hx9 hP hD hS hc9 hv9 hf9 => ?_) (fun u139 H locs hw138 hP hD hS => ?_)
          · exact vx_out (fun x h9 => (hnt x h9).elim) hlocks hc9 hv9 hf9 (fun t9 ht9 hv8 => ⟨u9, (FG.tr (FG.f (FG.f (FG.rf _) ((v.1 0 47) + (1 : Int32)) (by decide)) ((v.1 0 48) + (1 : Int32)) (by decide)) hx9), ⟨rfl, by rw [ht9]; exact hP, hD⟩, hS.F ht9⟩) hS.2.2 (Nat.le_refl _) (Nat.le_refl _)
          obtain ⟨fr138, pt138, pb138, pw138, po138, pf138, pk138, pp138, ph138, kc138, ko138, kg138, a35138, a37138, a38138, a40138, fx138⟩ := hw138
          have pt138 : ((v.1 0 47) + (1 : Int32)).toInt + 1 ≤ (u139.1 0 47).toInt ∧ (u139.1 0 47).toInt ≤ 1500 := pt138
          have pb138 : (v.1 0 49).toInt ≠ ((v.1 0 47) + (1 : Int32)).toInt := pb138
          have pw138 : (v.1 0 12).toInt ≤ (u139.1 0 12).toInt ∧ (u139.1 0 12).toInt - 15 * (u139.1 0 47).toInt ≤ (v.1 0 12).toInt - 15 * ((v.1 0 47) + (1 : Int32)).toInt := pw138
          have po138 : (v.1 0 15).toInt ≤ (u139.1 0 15).toInt ∧ (u139.1 0 15).toInt - 10 * (u139.1 0 47).toInt ≤ (v.1 0 15).toInt - 10 * ((v.1 0 47) + (1 : Int32)).toInt := po138
          have pf138 : (v.1 0 43).toInt ≤ (u139.1 0 43).toInt ∧ (u139.1 0 43).toInt - 15 * (u139.1 0 47).toInt ≤ (v.1 0 43).toInt - 15 * ((v.1 0 47) + (1 : Int32)).toInt := pf138
          have pk138 : (v.1 0 39).toInt ≤ (u139.1 0 39).toInt ∧ (u139.1 0 39).toInt - 1 * (u139.1 0 47).toInt ≤ (v.1 0 39).toInt - 1 * ((v.1 0 47) + (1 : Int32)).toInt := pk138
          have pp138 : (u139.1 0 32).toInt = (v.1 0 32).toInt ∧ (u139.1 0 48).toInt = ((v.1 0 48) + (1 : Int32)).toInt := pp138
          have ph138 : (v.1 0 33).toInt ≤ (u139.1 0 33).toInt ∧ (u139.1 0 33).toInt ≤ 500 := ph138
          have kc138 : ∀ j : Nat, (j : Int) < (v.1 0 12).toInt → (u139.1 11) j = (v.1 11) j := kc138
          have ko138 : ∀ j : Nat, (j : Int) < (v.1 0 15).toInt → (u139.1 13) j = (v.1 13) j := ko138
          have kg138 : ∀ j : Nat, (j : Int) < (v.1 0 15).toInt → (u139.1 14) j = (v.1 14) j := kg138
          have a35138 : AR 35 0 1500 u139 := a35138
          have a37138 : AR 37 0 23999 u139 := a37138
          have a38138 : AR 38 0 15999 u139 := a38138
          have a40138 : AR 40 0 23999 u139 := a40138
          have fx138 : FX u139 := fx138
          refine W.widen (k := 0) (n := 0) (Nat.le_refl _) (Nat.le_refl _) ?_
          refine lv_aload_n hx hb dX13_operand_145 rfl (lv_at hl 1 rfl) ?_
          refine lv_dup hx hb dX13_operand_146 rfl ?_
          refine va_get (D := (dC, dI)) (ci := 16) (fs := mF ad u139) (v := .int (u139.1 0 48)) (C := RX13) (T := TX13) (N := 124) hx hb ht itX13 hown hK hP 0 rfl rfl 48 (by decide) (ht _ tw_31) (fun _ h9 => h9) rfl dX13_operand_147 ?_
          refine lv_iconst (v := 1) hx hb dX13_operand_150 (by decide) ?_
          refine lv_isub hx hb dX13_operand_151 ?_
          have z141 : ((u139.1 0 48) - (1 : Int32)).toInt = ((u139.1 0 48).toInt) - (1 : Int) := sub_z rfl (show (1 : Int32).toInt = (1 : Int) by decide) (om_32962d0667 zop z135 pp138) (om_d0370bb848 z135 b131 pp138)
          refine va_put (D := (dC, dI)) (ci := 16) (fs := mF ad u139) (v := .int ((u139.1 0 48) - (1 : Int32))) (ty := .int) (C := RX13) (T := TX13) (N := 124) hx hb ht itX13 tyX13 tyX13_ok nmX13 hown hK hP hD hS 0 rfl rfl 48 (by decide) (ht _ tw_31) (fun _ h9 => h9) rfl (by decide +kernel) rfl rfl (Nat.le_of_ble_eq_true rfl) dX13_operand_152 (fun H locs hP hD hS => ?_)
          have hP := cP_ (mw_48 ad N cI cZ cJ u139 ((u139.1 0 48) - (1 : Int32))) hP
          have hD := cD_ (mw_48 ad N cI cZ cJ u139 ((u139.1 0 48) - (1 : Int32))) hD
          refine lv_aload_n hx hb dX13_operand_155 rfl (lv_at hl 1 rfl) ?_
          refine lv_iload_n hx hb dX13_operand_156 rfl (lv_at hl 0 rfl) ?_
          refine lv_bipush (v := 45) hx hb dX13_operand_157 (by decide) ?_
          refine lv_icmp_ne (tgt := 176) hx hb dX13_operand_159 (by decide) (fun h142 => ?_) (fun h142 => ?_)
          · have z143 : ((v.2 (v.1 0 47).toNatClampNeg).toInt32).toInt ≠ (45 : Int) := ne_z rfl (show (45 : Int32).toInt = (45 : Int) by decide) h142
            refine lv_iload_n hx hb dX13_operand_176 rfl (lv_at hl 0 rfl) ?_
            refine lv_bipush (v := 33) hx hb dX13_operand_177 (by decide) ?_
            refine lv_icmp_ne (tgt := 196) hx hb dX13_operand_179 (by decide) (fun h144 => ?_) (fun h144 => ?_)
            · have z145 : ((v.2 (v.1 0 47).toNatClampNeg).toInt32).toInt ≠ (33 : Int) := ne_z rfl (show (33 : Int32).toInt = (33 : Int) by decide) h144
              refine lv_bipush (v := 19) hx hb dX13_operand_196 (by decide) ?_
              refine lv_iconst (v := 4) hx hb dX13_operand_198 (by decide) ?_
              refine lv_bipush (v := 10) hx hb dX13_operand_199 (by decide) ?_
              refine lv_bipush (v := 10) hx hb dX13_operand_201 (by decide) ?_
              refine lv_iconst (v := -1) hx hb dX13_operand_203 (by decide) ?_
              refine cu_s (mW_nd _ _ _ _ _ _) (rn_S (n := 5) (As := [.int 19, .int 4, .int 10, .int 10, .int (-1)]) (rest := [.ref (ad 0)]) hx hb hml hown ht hKK hFx hP hD hS hA (c_m_byI l dC dI cI cB cZ cJ cR tb H.size (19 : Int32) (4 : Int32) (10 : Int32) (10 : Int32) (-1 : Int32) ) tw_2 tw_3 (by decide +kernel) rfl rfl ⟨show 0 + 1 ≤ 40 * n + 9 from om_fd17f2e70e, show 8 + (5 + 11) + 0 ≤ 28 * (40 * n + 9) from om_4dd6cddcce⟩ [] rfl rfl rfl hl.1 rfl (Nat.le_of_ble_eq_true rfl) dX13_operand_204 ⟨Nat.le_of_ble_eq_true rfl, Nat.le_of_ble_eq_true rfl⟩) hP hD hS hA (fun r148 H locs hw146 hP hD hS => ?_)
              refine W.widen (k := 0) (n := 0) (Nat.le_refl _) (Nat.le_refl _) ?_
              refine cu_i (rn_V (n := 1) (As := [.int r148]) (rest := []) hx hb hml hown ht hKK hFx hP hD hS hA (c_m_emit l dC dI cI cB cZ cJ cR tb H.size ad N (wA u139 0 48 ((u139.1 0 48) - (1 : Int32))) r148 (show 0 ≤ (u139.1 0 12).toInt ∧ (u139.1 0 12).toInt < 24000 from (om_6ad570a484 zws z134 pt138 pw138))) tw_8 tw_9 (by decide +kernel) rfl rfl ⟨show 0 + 1 ≤ 40 * n + 9 from om_fd17f2e70e, show 8 + (2 + 11) + 0 ≤ 28 * (40 * n + 9) from om_4229287154⟩ (List.range (mW ad N cI cZ cJ (wA u139 0 48 ((u139.1 0 48) - (1 : Int32)))).length) (rg_map _) (mW_nd _ _ _ _ _ _) rfl rfl rfl rfl hl.1 rfl (Nat.le_of_ble_eq_true rfl) dX13_operand_207 ⟨Nat.le_of_ble_eq_true rfl, Nat.le_of_ble_eq_true rfl⟩) hP hD hS hA (fun r151 u150 H locs hw149 hP hD hS => ?_)
              obtain ⟨rfl, rfl⟩ := hw149
              have z152 : ((u139.1 0 12) + (1 : Int32)).toInt = ((u139.1 0 12).toInt) + (1 : Int) := add_z rfl (show (1 : Int32).toInt = (1 : Int) by decide) (om_6ad47c49ef zws pw138) (om_99b5e8925f zws z134 pt138 pw138)
              have hP : va_P (dC, dI) vwCl (mW ad N cI cZ cJ (wA (wA (wA u139 0 48 ((u139.1 0 48) - (1 : Int32))) 11 ((u139.1 0 12).toNatClampNeg) r148) 0 12 ((u139.1 0 12) + (1 : Int32)))) H := hP
              have hD : va_D A (mW ad N cI cZ cJ (wA (wA (wA u139 0 48 ((u139.1 0 48) - (1 : Int32))) 11 ((u139.1 0 12).toNatClampNeg) r148) 0 12 ((u139.1 0 12) + (1 : Int32)))) := hD
              refine tp_i (y := (u139.1 0 12)) (rfl) ?_
              refine W.widen (k := 0) (n := 0) (Nat.le_refl _) (Nat.le_refl _) ?_
              refine lv_pop hx hb dX13_operand_210 rfl ?_
              refine lv_aload_n hx hb dX13_operand_211 rfl (lv_at hl 1 rfl) ?_
              refine lv_iload_n hx hb dX13_operand_212 rfl (lv_at hl 0 rfl) ?_
              refine lv_bipush (v := 45) hx hb dX13_operand_213 (by decide) ?_
              refine lv_icmp_ne (tgt := 223) hx hb dX13_operand_215 (by decide) (fun h153 => ?_) (fun h153 => ?_)
              · have z154 : ((v.2 (v.1 0 47).toNatClampNeg).toInt32).toInt ≠ (45 : Int) := ne_z rfl (show (45 : Int32).toInt = (45 : Int) by decide) h153
                refine lv_iload_n hx hb dX13_operand_223 rfl (lv_at hl 0 rfl) ?_
                refine lv_bipush (v := 33) hx hb dX13_operand_224 (by decide) ?_
                refine lv_icmp_ne (tgt := 234) hx hb dX13_operand_226 (by decide) (fun h155 => ?_) (fun h155 => ?_)
                · have z156 : ((v.2 (v.1 0 47).toNatClampNeg).toInt32).toInt ≠ (33 : Int) := ne_z rfl (show (33 : Int32).toInt = (33 : Int) by decide) h155
                  refine lv_bipush (v := 20) hx hb dX13_operand_234 (by decide) ?_
                  refine lv_iconst (v := 0) hx hb dX13_operand_236 (by decide) ?_
                  refine cu_i (rn_V (n := 2) (As := [.int 20, .int 0]) (rest := []) hx hb hml hown ht hKK hFx hP hD hS hA (c_m_say l dC dI cI cB cZ cJ cR tb H.size ad N (wA (wA (wA u139 0 48 ((u139.1 0 48) - (1 : Int32))) 11 ((u139.1 0 12).toNatClampNeg) r148) 0 12 ((u139.1 0 12) + (1 : Int32))) (20 : Int32) (0 : Int32) (show 0 ≤ (u139.1 0 15).toInt ∧ (u139.1 0 15).toInt < 16000 from (om_ab4ad5e078 zos z134 pt138 po138))) tw_59 tw_60 (by decide +kernel) rfl rfl ⟨show 0 + 1 ≤ 40 * n + 9 from om_fd17f2e70e, show 8 + (3 + 11) + 0 ≤ 28 * (40 * n + 9) from om_e79917e237⟩ (List.range (mW ad N cI cZ cJ (wA (wA (wA u139 0 48 ((u139.1 0 48) - (1 : Int32))) 11 ((u139.1 0 12).toNatClampNeg) r148) 0 12 ((u139.1 0 12) + (1 : Int32)))).length) (rg_map _) (mW_nd _ _ _ _ _ _) rfl rfl rfl rfl hl.1 rfl (Nat.le_of_ble_eq_true rfl) dX13_operand_237 ⟨Nat.le_of_ble_eq_true rfl, Nat.le_of_ble_eq_true rfl⟩) hP hD hS hA (fun r159 u158 H locs hw157 hP hD hS => ?_)
                  obtain ⟨rfl, rfl⟩ := hw157
                  have z160 : ((u139.1 0 15) + (1 : Int32)).toInt = ((u139.1 0 15).toInt) + (1 : Int) := add_z rfl (show (1 : Int32).toInt = (1 : Int) by decide) (om_436cd0d872 zos po138) (om_4b3fea160f zos z134 pt138 po138)
                  have hP : va_P (dC, dI) vwCl (mW ad N cI cZ cJ (wA (wA (wA (wA (wA (wA u139 0 48 ((u139.1 0 48) - (1 : Int32))) 11 ((u139.1 0 12).toNatClampNeg) r148) 0 12 ((u139.1 0 12) + (1 : Int32))) 13 ((u139.1 0 15).toNatClampNeg) (20 : Int32)) 14 ((u139.1 0 15).toNatClampNeg) (0 : Int32)) 0 15 ((u139.1 0 15) + (1 : Int32)))) H := hP
                  have hD : va_D A (mW ad N cI cZ cJ (wA (wA (wA (wA (wA (wA u139 0 48 ((u139.1 0 48) - (1 : Int32))) 11 ((u139.1 0 12).toNatClampNeg) r148) 0 12 ((u139.1 0 12) + (1 : Int32))) 13 ((u139.1 0 15).toNatClampNeg) (20 : Int32)) 14 ((u139.1 0 15).toNatClampNeg) (0 : Int32)) 0 15 ((u139.1 0 15) + (1 : Int32)))) := hD
                  refine tp_i (y := (u139.1 0 15)) (rfl) ?_
                  refine W.widen (k := 0) (n := 0) (Nat.le_refl _) (Nat.le_refl _) ?_
                  refine lv_pop hx hb dX13_operand_240 rfl ?_
                  refine lv_goto (tgt := 386) hx hb dX13_operand_241 (by decide) ?_
                  refine vx_ret ?_
                  exact W.vret hx hb hr (fun t ht9 hW => ⟨⟨(wA (wA (wA (wA (wA (wA u139 0 48 ((u139.1 0 48) - (1 : Int32))) 11 ((u139.1 0 12).toNatClampNeg) r148) 0 12 ((u139.1 0 12) + (1 : Int32))) 13 ((u139.1 0 15).toNatClampNeg) (20 : Int32)) 14 ((u139.1 0 15).toNatClampNeg) (0 : Int32)) 0 15 ((u139.1 0 15) + (1 : Int32))), rfl, ⟨(FG.f (FG.a (FG.a (FG.f (FG.a (FG.f (FG.tr (FG.f (FG.f (FG.rf _) ((v.1 0 47) + (1 : Int32)) (by decide)) ((v.1 0 48) + (1 : Int32)) (by decide)) (FG.up fr138 (by decide) (by decide))) ((u139.1 0 48) - (1 : Int32)) (by decide)) ((u139.1 0 12).toNatClampNeg) r148 (by decide) (by decide)) ((u139.1 0 12) + (1 : Int32)) (by decide)) ((u139.1 0 15).toNatClampNeg) (20 : Int32) (by decide) (by decide)) ((u139.1 0 15).toNatClampNeg) (0 : Int32) (by decide) (by decide)) ((u139.1 0 15) + (1 : Int32)) (by decide)), (show (v.1 0 47).toInt + 1 ≤ (u139.1 0 47).toInt ∧ (u139.1 0 47).toInt ≤ 1500 from (om_ff8aa832bb z134 pt138)), (show (v.1 0 49).toInt ≠ (v.1 0 47).toInt from (om_32294a9ce4 c131)), (show (v.1 0 12).toInt ≤ ((u139.1 0 12) + (1 : Int32)).toInt ∧ ((u139.1 0 12) + (1 : Int32)).toInt - 15 * (u139.1 0 47).toInt ≤ (v.1 0 12).toInt - 15 * (v.1 0 47).toInt from (om_7d9f5eca64 z134 pw138 z152)), (show (v.1 0 15).toInt ≤ ((u139.1 0 15) + (1 : Int32)).toInt ∧ ((u139.1 0 15) + (1 : Int32)).toInt - 10 * (u139.1 0 47).toInt ≤ (v.1 0 15).toInt - 10 * (v.1 0 47).toInt from (om_e3c4ffe5ce z134 po138 z160)), (show (v.1 0 43).toInt ≤ (u139.1 0 43).toInt ∧ (u139.1 0 43).toInt - 15 * (u139.1 0 47).toInt ≤ (v.1 0 43).toInt - 15 * (v.1 0 47).toInt from (om_48209a9386 z134 pf138)), (show (v.1 0 39).toInt ≤ (u139.1 0 39).toInt ∧ (u139.1 0 39).toInt - 1 * (u139.1 0 47).toInt ≤ (v.1 0 39).toInt - 1 * (v.1 0 47).toInt from (om_df731194be z134 pk138)), (show (u139.1 0 32).toInt = (v.1 0 32).toInt ∧ ((u139.1 0 48) - (1 : Int32)).toInt = (v.1 0 48).toInt from (om_4a47b03b7f z135 pp138 z141)), (show (v.1 0 33).toInt ≤ (u139.1 0 33).toInt ∧ (u139.1 0 33).toInt ≤ 500 from (om_6bc0cea141 ph138)), (fun (j9 : Nat) hj9 => (Eq.trans (pk_un3 (a := (u139.1 0 12).toInt) rfl (om_1ce1b92b31 zws pw138) (om_e81726c0b3 pw138 hj9)) (kc138 j9 (om_4fe904e9bf hj9)))), (fun (j9 : Nat) hj9 => (Eq.trans (pk_un3 (a := (u139.1 0 15).toInt) rfl (om_4b760a59ba zos po138) (om_24f6a8216f po138 hj9)) (ko138 j9 (om_4fe904e9bf hj9)))), (fun (j9 : Nat) hj9 => (Eq.trans (pk_un3 (a := (u139.1 0 15).toInt) rfl (om_4b760a59ba zos po138) (om_24f6a8216f po138 hj9)) (kg138 j9 (om_4fe904e9bf hj9)))), (AR.o (AR.o (AR.o (AR.o (AR.o (AR.o a35138 (by decide)) (by decide)) (by decide)) (by decide)) (by decide)) (by decide)), (AR.o (AR.o (AR.o (AR.o (AR.o (AR.o a37138 (by decide)) (by decide)) (by decide)) (by decide)) (by decide)) (by decide)), (AR.o (AR.o (AR.o (AR.o (AR.o (AR.o a38138 (by decide)) (by decide)) (by decide)) (by decide)) (by decide)) (by decide)), (AR.o (AR.o (AR.o (AR.o (AR.o (AR.o a40138 (by decide)) (by decide)) (by decide)) (by decide)) (by decide)) (by decide)), (FX.o (FX.o (FX.o (FX.o (FX.o (FX.o fx138 (by decide) (by decide)) (by decide) (by decide)) (by decide) (by decide)) (by decide) (by decide)) (by decide) (by decide)) (by decide) (by decide))⟩, by rw [ht9]; exact hP, hD⟩, hS.F ht9⟩) hS.2.2 dX13_operand_386
                · have z161 : ((v.2 (v.1 0 47).toNatClampNeg).toInt32).toInt = (33 : Int) := eq_z rfl (show (33 : Int32).toInt = (33 : Int) by decide) h155
                  exact False.elim (om_9d9908e07d z145 z161)
              · have z162 : ((v.2 (v.1 0 47).toNatClampNeg).toInt32).toInt = (45 : Int) := eq_z rfl (show (45 : Int32).toInt = (45 : Int) by decide) h153
                exact False.elim (om_aab5508d07 z143 z162)
            · have z163 : ((v.2 (v.1 0 47).toNatClampNeg).toInt32).toInt = (33 : Int) := eq_z rfl (show (33 : Int32).toInt = (33 : Int) by decide) h144
              refine lv_bipush (v := 19) hx hb dX13_operand_182 (by decide) ?_
              refine lv_iconst (v := 3) hx hb dX13_operand_184 (by decide) ?_
              refine lv_bipush (v := 10) hx hb dX13_operand_185 (by decide) ?_
              refine lv_bipush (v := 10) hx hb dX13_operand_187 (by decide) ?_
              refine lv_iconst (v := 1) hx hb dX13_operand_189 (by decide) ?_
              refine cu_s (mW_nd _ _ _ _ _ _) (rn_S (n := 5) (As := [.int 19, .int 3, .int 10, .int 10, .int 1]) (rest := [.ref (ad 0)]) hx hb hml hown ht hKK hFx hP hD hS hA (c_m_byI l dC dI cI cB cZ cJ cR tb H.size (19 : Int32) (3 : Int32) (10 : Int32) (10 : Int32) (1 : Int32) ) tw_2 tw_3 (by decide +kernel) rfl rfl ⟨show 0 + 1 ≤ 40 * n + 9 from om_fd17f2e70e, show 8 + (5 + 11) + 0 ≤ 28 * (40 * n + 9) from om_4dd6cddcce⟩ [] rfl rfl rfl hl.1 rfl (Nat.le_of_ble_eq_true rfl) dX13_operand_190 ⟨Nat.le_of_ble_eq_true rfl, Nat.le_of_ble_eq_true rfl⟩) hP hD hS hA (fun r166 H locs hw164 hP hD hS => ?_)
              refine W.widen (k := 0) (n := 0) (Nat.le_refl _) (Nat.le_refl _) ?_
              refine lv_goto (tgt := 207) hx hb dX13_operand_193 (by decide) ?_
              refine cu_i (rn_V (n := 1) (As := [.int r166]) (rest := []) hx hb hml hown ht hKK hFx hP hD hS hA (c_m_emit l dC dI cI cB cZ cJ cR tb H.size ad N (wA u139 0 48 ((u139.1 0 48) - (1 : Int32))) r166 (show 0 ≤ (u139.1 0 12).toInt ∧ (u139.1 0 12).toInt < 24000 from (om_6ad570a484 zws z134 pt138 pw138))) tw_8 tw_9 (by decide +kernel) rfl rfl ⟨show 0 + 1 ≤ 40 * n + 9 from om_fd17f2e70e, show 8 + (2 + 11) + 0 ≤ 28 * (40 * n + 9) from om_4229287154⟩ (List.range (mW ad N cI cZ cJ (wA u139 0 48 ((u139.1 0 48) - (1 : Int32)))).length) (rg_map _) (mW_nd _ _ _ _ _ _) rfl rfl rfl rfl hl.1 rfl (Nat.le_of_ble_eq_true rfl) dX13_operand_207 ⟨Nat.le_of_ble_eq_true rfl, Nat.le_of_ble_eq_true rfl⟩) hP hD hS hA (fun r169 u168 H locs hw167 hP hD hS => ?_)
              obtain ⟨rfl, rfl⟩ := hw167
              have z170 : ((u139.1 0 12) + (1 : Int32)).toInt = ((u139.1 0 12).toInt) + (1 : Int) := add_z rfl (show (1 : Int32).toInt = (1 : Int) by decide) (om_6ad47c49ef zws pw138) (om_99b5e8925f zws z134 pt138 pw138)
              have hP : va_P (dC, dI) vwCl (mW ad N cI cZ cJ (wA (wA (wA u139 0 48 ((u139.1 0 48) - (1 : Int32))) 11 ((u139.1 0 12).toNatClampNeg) r166) 0 12 ((u139.1 0 12) + (1 : Int32)))) H := hP
              have hD : va_D A (mW ad N cI cZ cJ (wA (wA (wA u139 0 48 ((u139.1 0 48) - (1 : Int32))) 11 ((u139.1 0 12).toNatClampNeg) r166) 0 12 ((u139.1 0 12) + (1 : Int32)))) := hD
              refine tp_i (y := (u139.1 0 12)) (rfl) ?_
              refine W.widen (k := 0) (n := 0) (Nat.le_refl _) (Nat.le_refl _) ?_
              refine lv_pop hx hb dX13_operand_210 rfl ?_
              refine lv_aload_n hx hb dX13_operand_211 rfl (lv_at hl 1 rfl) ?_
              refine lv_iload_n hx hb dX13_operand_212 rfl (lv_at hl 0 rfl) ?_
              refine lv_bipush (v := 45) hx hb dX13_operand_213 (by decide) ?_
              refine lv_icmp_ne (tgt := 223) hx hb dX13_operand_215 (by decide) (fun h171 => ?_) (fun h171 => ?_)
              · have z172 : ((v.2 (v.1 0 47).toNatClampNeg).toInt32).toInt ≠ (45 : Int) := ne_z rfl (show (45 : Int32).toInt = (45 : Int) by decide) h171
                refine lv_iload_n hx hb dX13_operand_223 rfl (lv_at hl 0 rfl) ?_
                refine lv_bipush (v := 33) hx hb dX13_operand_224 (by decide) ?_
                refine lv_icmp_ne (tgt := 234) hx hb dX13_operand_226 (by decide) (fun h173 => ?_) (fun h173 => ?_)
                · have z174 : ((v.2 (v.1 0 47).toNatClampNeg).toInt32).toInt ≠ (33 : Int) := ne_z rfl (show (33 : Int32).toInt = (33 : Int) by decide) h173
                  exact False.elim (om_abbf94d96b z163 z174)
                · have z175 : ((v.2 (v.1 0 47).toNatClampNeg).toInt32).toInt = (33 : Int) := eq_z rfl (show (33 : Int32).toInt = (33 : Int) by decide) h173
                  refine lv_bipush (v := 19) hx hb dX13_operand_229 (by decide) ?_
                  refine lv_goto (tgt := 236) hx hb dX13_operand_231 (by decide) ?_
                  refine lv_iconst (v := 0) hx hb dX13_operand_236 (by decide) ?_
                  refine cu_i (rn_V (n := 2) (As := [.int 19, .int 0]) (rest := []) hx hb hml hown ht hKK hFx hP hD hS hA (c_m_say l dC dI cI cB cZ cJ cR tb H.size ad N (wA (wA (wA u139 0 48 ((u139.1 0 48) - (1 : Int32))) 11 ((u139.1 0 12).toNatClampNeg) r166) 0 12 ((u139.1 0 12) + (1 : Int32))) (19 : Int32) (0 : Int32) (show 0 ≤ (u139.1 0 15).toInt ∧ (u139.1 0 15).toInt < 16000 from (om_ab4ad5e078 zos z134 pt138 po138))) tw_59 tw_60 (by decide +kernel) rfl rfl ⟨show 0 + 1 ≤ 40 * n + 9 from om_fd17f2e70e, show 8 + (3 + 11) + 0 ≤ 28 * (40 * n + 9) from om_e79917e237⟩ (List.range (mW ad N cI cZ cJ (wA (wA (wA u139 0 48 ((u139.1 0 48) - (1 : Int32))) 11 ((u139.1 0 12).toNatClampNeg) r166) 0 12 ((u139.1 0 12) + (1 : Int32)))).length) (rg_map _) (mW_nd _ _ _ _ _ _) rfl rfl rfl rfl hl.1 rfl (Nat.le_of_ble_eq_true rfl) dX13_operand_237 ⟨Nat.le_of_ble_eq_true rfl, Nat.le_of_ble_eq_true rfl⟩) hP hD hS hA (fun r178 u177 H locs hw176 hP hD hS => ?_)
                  obtain ⟨rfl, rfl⟩ := hw176
                  have z179 : ((u139.1 0 15) + (1 : Int32)).toInt = ((u139.1 0 15).toInt) + (1 : Int) := add_z rfl (show (1 : Int32).toInt = (1 : Int) by decide) (om_436cd0d872 zos po138) (om_4b3fea160f zos z134 pt138 po138)
                  have hP : va_P (dC, dI) vwCl (mW ad N cI cZ cJ (wA (wA (wA (wA (wA (wA u139 0 48 ((u139.1 0 48) - (1 : Int32))) 11 ((u139.1 0 12).toNatClampNeg) r166) 0 12 ((u139.1 0 12) + (1 : Int32))) 13 ((u139.1 0 15).toNatClampNeg) (19 : Int32)) 14 ((u139.1 0 15).toNatClampNeg) (0 : Int32)) 0 15 ((u139.1 0 15) + (1 : Int32)))) H := hP
                  have hD : va_D A (mW ad N cI cZ cJ (wA (wA (wA (wA (wA (wA u139 0 48 ((u139.1 0 48) - (1 : Int32))) 11 ((u139.1 0 12).toNatClampNeg) r166) 0 12 ((u139.1 0 12) + (1 : Int32))) 13 ((u139.1 0 15).toNatClampNeg) (19 : Int32)) 14 ((u139.1 0 15).toNatClampNeg) (0 : Int32)) 0 15 ((u139.1 0 15) + (1 : Int32)))) := hD
                  refine tp_i (y := (u139.1 0 15)) (rfl) ?_
                  refine W.widen (k := 0) (n := 0) (Nat.le_refl _) (Nat.le_refl _) ?_
                  refine lv_pop hx hb dX13_operand_240 rfl ?_
                  refine lv_goto (tgt := 386) hx hb dX13_operand_241 (by decide) ?_
                  refine vx_ret ?_
                  exact W.vret hx hb hr (fun t ht9 hW => ⟨⟨(wA (wA (wA (wA (wA (wA u139 0 48 ((u139.1 0 48) - (1 : Int32))) 11 ((u139.1 0 12).toNatClampNeg) r166) 0 12 ((u139.1 0 12) + (1 : Int32))) 13 ((u139.1 0 15).toNatClampNeg) (19 : Int32)) 14 ((u139.1 0 15).toNatClampNeg) (0 : Int32)) 0 15 ((u139.1 0 15) + (1 : Int32))), rfl, ⟨(FG.f (FG.a (FG.a (FG.f (FG.a (FG.f (FG.tr (FG.f (FG.f (FG.rf _) ((v.1 0 47) + (1 : Int32)) (by decide)) ((v.1 0 48) + (1 : Int32)) (by decide)) (FG.up fr138 (by decide) (by decide))) ((u139.1 0 48) - (1 : Int32)) (by decide)) ((u139.1 0 12).toNatClampNeg) r166 (by decide) (by decide)) ((u139.1 0 12) + (1 : Int32)) (by decide)) ((u139.1 0 15).toNatClampNeg) (19 : Int32) (by decide) (by decide)) ((u139.1 0 15).toNatClampNeg) (0 : Int32) (by decide) (by decide)) ((u139.1 0 15) + (1 : Int32)) (by decide)), (show (v.1 0 47).toInt + 1 ≤ (u139.1 0 47).toInt ∧ (u139.1 0 47).toInt ≤ 1500 from (om_ff8aa832bb z134 pt138)), (show (v.1 0 49).toInt ≠ (v.1 0 47).toInt from (om_32294a9ce4 c131)), (show (v.1 0 12).toInt ≤ ((u139.1 0 12) + (1 : Int32)).toInt ∧ ((u139.1 0 12) + (1 : Int32)).toInt - 15 * (u139.1 0 47).toInt ≤ (v.1 0 12).toInt - 15 * (v.1 0 47).toInt from (om_7d9f5eca64 z134 pw138 z170)), (show (v.1 0 15).toInt ≤ ((u139.1 0 15) + (1 : Int32)).toInt ∧ ((u139.1 0 15) + (1 : Int32)).toInt - 10 * (u139.1 0 47).toInt ≤ (v.1 0 15).toInt - 10 * (v.1 0 47).toInt from (om_e3c4ffe5ce z134 po138 z179)), (show (v.1 0 43).toInt ≤ (u139.1 0 43).toInt ∧ (u139.1 0 43).toInt - 15 * (u139.1 0 47).toInt ≤ (v.1 0 43).toInt - 15 * (v.1 0 47).toInt from (om_48209a9386 z134 pf138)), (show (v.1 0 39).toInt ≤ (u139.1 0 39).toInt ∧ (u139.1 0 39).toInt - 1 * (u139.1 0 47).toInt ≤ (v.1 0 39).toInt - 1 * (v.1 0 47).toInt from (om_df731194be z134 pk138)), (show (u139.1 0 32).toInt = (v.1 0 32).toInt ∧ ((u139.1 0 48) - (1 : Int32)).toInt = (v.1 0 48).toInt from (om_4a47b03b7f z135 pp138 z141)), (show (v.1 0 33).toInt ≤ (u139.1 0 33).toInt ∧ (u139.1 0 33).toInt ≤ 500 from (om_6bc0cea141 ph138)), (fun (j9 : Nat) hj9 => (Eq.trans (pk_un3 (a := (u139.1 0 12).toInt) rfl (om_1ce1b92b31 zws pw138) (om_e81726c0b3 pw138 hj9)) (kc138 j9 (om_4fe904e9bf hj9)))), (fun (j9 : Nat) hj9 => (Eq.trans (pk_un3 (a := (u139.1 0 15).toInt) rfl (om_4b760a59ba zos po138) (om_24f6a8216f po138 hj9)) (ko138 j9 (om_4fe904e9bf hj9)))), (fun (j9 : Nat) hj9 => (Eq.trans (pk_un3 (a := (u139.1 0 15).toInt) rfl (om_4b760a59ba zos po138) (om_24f6a8216f po138 hj9)) (kg138 j9 (om_4fe904e9bf hj9)))), (AR.o (AR.o (AR.o (AR.o (AR.o (AR.o a35138 (by decide)) (by decide)) (by decide)) (by decide)) (by decide)) (by decide)), (AR.o (AR.o (AR.o (AR.o (AR.o (AR.o a37138 (by decide)) (by decide)) (by decide)) (by decide)) (by decide)) (by decide)), (AR.o (AR.o (AR.o (AR.o (AR.o (AR.o a38138 (by decide)) (by decide)) (by decide)) (by decide)) (by decide)) (by decide)), (AR.o (AR.o (AR.o (AR.o (AR.o (AR.o a40138 (by decide)) (by decide)) (by decide)) (by decide)) (by decide)) (by decide)), (FX.o (FX.o (FX.o (FX.o (FX.o (FX.o fx138 (by decide) (by decide)) (by decide) (by decide)) (by decide) (by decide)) (by decide) (by decide)) (by decide) (by decide)) (by decide) (by decide))⟩, by rw [ht9]; exact hP, hD⟩, hS.F ht9⟩) hS.2.2 dX13_operand_386
              · have z180 : ((v.2 (v.1 0 47).toNatClampNeg).toInt32).toInt = (45 : Int) := eq_z rfl (show (45 : Int32).toInt = (45 : Int) by decide) h171
                exact False.elim (om_ac897fe355 z163 z180)
          · have z181 : ((v.2 (v.1 0 47).toNatClampNeg).toInt32).toInt = (45 : Int) := eq_z rfl (show (45 : Int32).toInt = (45 : Int) by decide) h142
            refine lv_bipush (v := 32) hx hb dX13_operand_162 (by decide) ?_
            refine lv_iconst (v := 0) hx hb dX13_operand_164 (by decide) ?_
            refine lv_bipush (v := 10) hx hb dX13_operand_165 (by decide) ?_
            refine lv_iconst (v := 0) hx hb dX13_operand_167 (by decide) ?_
            refine lv_bipush (v := 10) hx hb dX13_operand_168 (by decide) ?_
            refine cu_s (mW_nd _ _ _ _ _ _) (rn_S (n := 5) (As := [.int 32, .int 0, .int 10, .int 0, .int 10]) (rest := [.ref (ad 0)]) hx hb hml hown ht hKK hFx hP hD hS hA (c_m_byR l dC dI cI cB cZ cJ cR tb H.size (32 : Int32) (0 : Int32) (10 : Int32) (0 : Int32) (10 : Int32) ) tw_67 tw_68 (by decide +kernel) rfl rfl ⟨show 0 + 1 ≤ 40 * n + 9 from om_fd17f2e70e, show 8 + (5 + 11) + 0 ≤ 28 * (40 * n + 9) from om_4dd6cddcce⟩ [] rfl rfl rfl hl.1 rfl (Nat.le_of_ble_eq_true rfl) dX13_operand_170 ⟨Nat.le_of_ble_eq_true rfl, Nat.le_of_ble_eq_true rfl⟩) hP hD hS hA (fun r184 H locs hw182 hP hD hS => ?_)
            refine W.widen (k := 0) (n := 0) (Nat.le_refl _) (Nat.le_refl _) ?_
            refine lv_goto (tgt := 207) hx hb dX13_operand_173 (by decide) ?_
            refine cu_i (rn_V (n := 1) (As := [.int r184]) (rest := []) hx hb hml hown ht hKK hFx hP hD hS hA (c_m_emit l dC dI cI cB cZ cJ cR tb H.size ad N (wA u139 0 48 ((u139.1 0 48) - (1 : Int32))) r184 (show 0 ≤ (u139.1 0 12).toInt ∧ (u139.1 0 12).toInt < 24000 from (om_6ad570a484 zws z134 pt138 pw138))) tw_8 tw_9 (by decide +kernel) rfl rfl ⟨show 0 + 1 ≤ 40 * n + 9 from om_fd17f2e70e, show 8 + (2 + 11) + 0 ≤ 28 * (40 * n + 9) from om_4229287154⟩ (List.range (mW ad N cI cZ cJ (wA u139 0 48 ((u139.1 0 48) - (1 : Int32)))).length) (rg_map _) (mW_nd _ _ _ _ _ _) rfl rfl rfl rfl hl.1 rfl (Nat.le_of_ble_eq_true rfl) dX13_operand_207 ⟨Nat.le_of_ble_eq_true rfl, Nat.le_of_ble_eq_true rfl⟩) hP hD hS hA (fun r187 u186 H locs hw185 hP hD hS => ?_)
            obtain ⟨rfl, rfl⟩ := hw185
            have z188 : ((u139.1 0 12) + (1 : Int32)).toInt = ((u139.1 0 12).toInt) + (1 : Int) := add_z rfl (show (1 : Int32).toInt = (1 : Int) by decide) (om_6ad47c49ef zws pw138) (om_99b5e8925f zws z134 pt138 pw138)
            have hP : va_P (dC, dI) vwCl (mW ad N cI cZ cJ (wA (wA (wA u139 0 48 ((u139.1 0 48) - (1 : Int32))) 11 ((u139.1 0 12).toNatClampNeg) r184) 0 12 ((u139.1 0 12) + (1 : Int32)))) H := hP
            have hD : va_D A (mW ad N cI cZ cJ (wA (wA (wA u139 0 48 ((u139.1 0 48) - (1 : Int32))) 11 ((u139.1 0 12).toNatClampNeg) r184) 0 12 ((u139.1 0 12) + (1 : Int32)))) := hD
            refine tp_i (y := (u139.1 0 12)) (rfl) ?_
            refine W.widen (k := 0) (n := 0) (Nat.le_refl _) (Nat.le_refl _) ?_
            refine lv_pop hx hb dX13_operand_210 rfl ?_
            refine lv_aload_n hx hb dX13_operand_211 rfl (lv_at hl 1 rfl) ?_
            refine lv_iload_n hx hb dX13_operand_212 rfl (lv_at hl 0 rfl) ?_
            refine lv_bipush (v := 45) hx hb dX13_operand_213 (by decide) ?_
            refine lv_icmp_ne (tgt := 223) hx hb dX13_operand_215 (by decide) (fun h189 => ?_) (fun h189 => ?_)
            · have z190 : ((v.2 (v.1 0 47).toNatClampNeg).toInt32).toInt ≠ (45 : Int) := ne_z rfl (show (45 : Int32).toInt = (45 : Int) by decide) h189
              exact False.elim (om_bdc7d89919 z181 z190)
            · have z191 : ((v.2 (v.1 0 47).toNatClampNeg).toInt32).toInt = (45 : Int) := eq_z rfl (show (45 : Int32).toInt = (45 : Int) by decide) h189
              refine lv_bipush (v := 18) hx hb dX13_operand_218 (by decide) ?_
              refine lv_goto (tgt := 236) hx hb dX13_operand_220 (by decide) ?_
              refine lv_iconst (v := 0) hx hb dX13_operand_236 (by decide) ?_
              refine cu_i (rn_V (n := 2) (As := [.int 18, .int 0]) (rest := []) hx hb hml hown ht hKK hFx hP hD hS hA (c_m_say l dC dI cI cB cZ cJ cR tb H.size ad N (wA (wA (wA u139 0 48 ((u139.1 0 48) - (1 : Int32))) 11 ((u139.1 0 12).toNatClampNeg) r184) 0 12 ((u139.1 0 12) + (1 : Int32))) (18 : Int32) (0 : Int32) (show 0 ≤ (u139.1 0 15).toInt ∧ (u139.1 0 15).toInt < 16000 from (om_ab4ad5e078 zos z134 pt138 po138))) tw_59 tw_60 (by decide +kernel) rfl rfl ⟨show 0 + 1 ≤ 40 * n + 9 from om_fd17f2e70e, show 8 + (3 + 11) + 0 ≤ 28 * (40 * n + 9) from om_e79917e237⟩ (List.range (mW ad N cI cZ cJ (wA (wA (wA u139 0 48 ((u139.1 0 48) - (1 : Int32))) 11 ((u139.1 0 12).toNatClampNeg) r184) 0 12 ((u139.1 0 12) + (1 : Int32)))).length) (rg_map _) (mW_nd _ _ _ _ _ _) rfl rfl rfl rfl hl.1 rfl (Nat.le_of_ble_eq_true rfl) dX13_operand_237 ⟨Nat.le_of_ble_eq_true rfl, Nat.le_of_ble_eq_true rfl⟩) hP hD hS hA (fun r194 u193 H locs hw192 hP hD hS => ?_)
              obtain ⟨rfl, rfl⟩ := hw192
              have z195 : ((u139.1 0 15) + (1 : Int32)).toInt = ((u139.1 0 15).toInt) + (1 : Int) := add_z rfl (show (1 : Int32).toInt = (1 : Int) by decide) (om_436cd0d872 zos po138) (om_4b3fea160f zos z134 pt138 po138)
              have hP : va_P (dC, dI) vwCl (mW ad N cI cZ cJ (wA (wA (wA (wA (wA (wA u139 0 48 ((u139.1 0 48) - (1 : Int32))) 11 ((u139.1 0 12).toNatClampNeg) r184) 0 12 ((u139.1 0 12) + (1 : Int32))) 13 ((u139.1 0 15).toNatClampNeg) (18 : Int32)) 14 ((u139.1 0 15).toNatClampNeg) (0 : Int32)) 0 15 ((u139.1 0 15) + (1 : Int32)))) H := hP
              have hD : va_D A (mW ad N cI cZ cJ (wA (wA (wA (wA (wA (wA u139 0 48 ((u139.1 0 48) - (1 : Int32))) 11 ((u139.1 0 12).toNatClampNeg) r184) 0 12 ((u139.1 0 12) + (1 : Int32))) 13 ((u139.1 0 15).toNatClampNeg) (18 : Int32)) 14 ((u139.1 0 15).toNatClampNeg) (0 : Int32)) 0 15 ((u139.1 0 15) + (1 : Int32)))) := hD
              refine tp_i (y := (u139.1 0 15)) (rfl) ?_
              refine W.widen (k := 0) (n := 0) (Nat.le_refl _) (Nat.le_refl _) ?_
              refine lv_pop hx hb dX13_operand_240 rfl ?_
              refine lv_goto (tgt := 386) hx hb dX13_operand_241 (by decide) ?_
              refine vx_ret ?_
              exact W.vret hx hb hr (fun t ht9 hW => ⟨⟨(wA (wA (wA (wA (wA (wA u139 0 48 ((u139.1 0 48) - (1 : Int32))) 11 ((u139.1 0 12).toNatClampNeg) r184) 0 12 ((u139.1 0 12) + (1 : Int32))) 13 ((u139.1 0 15).toNatClampNeg) (18 : Int32)) 14 ((u139.1 0 15).toNatClampNeg) (0 : Int32)) 0 15 ((u139.1 0 15) + (1 : Int32))), rfl, ⟨(FG.f (FG.a (FG.a (FG.f (FG.a (FG.f (FG.tr (FG.f (FG.f (FG.rf _) ((v.1 0 47) + (1 : Int32)) (by decide)) ((v.1 0 48) + (1 : Int32)) (by decide)) (FG.up fr138 (by decide) (by decide))) ((u139.1 0 48) - (1 : Int32)) (by decide)) ((u139.1 0 12).toNatClampNeg) r184 (by decide) (by decide)) ((u139.1 0 12) + (1 : Int32)) (by decide)) ((u139.1 0 15).toNatClampNeg) (18 : Int32) (by decide) (by decide)) ((u139.1 0 15).toNatClampNeg) (0 : Int32) (by decide) (by decide)) ((u139.1 0 15) + (1 : Int32)) (by decide)), (show (v.1 0 47).toInt + 1 ≤ (u139.1 0 47).toInt ∧ (u139.1 0 47).toInt ≤ 1500 from (om_ff8aa832bb z134 pt138)), (show (v.1 0 49).toInt ≠ (v.1 0 47).toInt from (om_32294a9ce4 c131)), (show (v.1 0 12).toInt ≤ ((u139.1 0 12) + (1 : Int32)).toInt ∧ ((u139.1 0 12) + (1 : Int32)).toInt - 15 * (u139.1 0 47).toInt ≤ (v.1 0 12).toInt - 15 * (v.1 0 47).toInt from (om_7d9f5eca64 z134 pw138 z188)), (show (v.1 0 15).toInt ≤ ((u139.1 0 15) + (1 : Int32)).toInt ∧ ((u139.1 0 15) + (1 : Int32)).toInt - 10 * (u139.1 0 47).toInt ≤ (v.1 0 15).toInt - 10 * (v.1 0 47).toInt from (om_e3c4ffe5ce z134 po138 z195)), (show (v.1 0 43).toInt ≤ (u139.1 0 43).toInt ∧ (u139.1 0 43).toInt - 15 * (u139.1 0 47).toInt ≤ (v.1 0 43).toInt - 15 * (v.1 0 47).toInt from (om_48209a9386 z134 pf138)), (show (v.1 0 39).toInt ≤ (u139.1 0 39).toInt ∧ (u139.1 0 39).toInt - 1 * (u139.1 0 47).toInt ≤ (v.1 0 39).toInt - 1 * (v.1 0 47).toInt from (om_df731194be z134 pk138)), (show (u139.1 0 32).toInt = (v.1 0 32).toInt ∧ ((u139.1 0 48) - (1 : Int32)).toInt = (v.1 0 48).toInt from (om_4a47b03b7f z135 pp138 z141)), (show (v.1 0 33).toInt ≤ (u139.1 0 33).toInt ∧ (u139.1 0 33).toInt ≤ 500 from (om_6bc0cea141 ph138)), (fun (j9 : Nat) hj9 => (Eq.trans (pk_un3 (a := (u139.1 0 12).toInt) rfl (om_1ce1b92b31 zws pw138) (om_e81726c0b3 pw138 hj9)) (kc138 j9 (om_4fe904e9bf hj9)))), (fun (j9 : Nat) hj9 => (Eq.trans (pk_un3 (a := (u139.1 0 15).toInt) rfl (om_4b760a59ba zos po138) (om_24f6a8216f po138 hj9)) (ko138 j9 (om_4fe904e9bf hj9)))), (fun (j9 : Nat) hj9 => (Eq.trans (pk_un3 (a := (u139.1 0 15).toInt) rfl (om_4b760a59ba zos po138) (om_24f6a8216f po138 hj9)) (kg138 j9 (om_4fe904e9bf hj9)))), (AR.o (AR.o (AR.o (AR.o (AR.o (AR.o a35138 (by decide)) (by decide)) (by decide)) (by decide)) (by decide)) (by decide)), (AR.o (AR.o (AR.o (AR.o (AR.o (AR.o a37138 (by decide)) (by decide)) (by decide)) (by decide)) (by decide)) (by decide)), (AR.o (AR.o (AR.o (AR.o (AR.o (AR.o a38138 (by decide)) (by decide)) (by decide)) (by decide)) (by decide)) (by decide)), (AR.o (AR.o (AR.o (AR.o (AR.o (AR.o a40138 (by decide)) (by decide)) (by decide)) (by decide)) (by decide)) (by decide)), (FX.o (FX.o (FX.o (FX.o (FX.o (FX.o fx138 (by decide) (by decide)) (by decide) (by decide)) (by decide) (by decide)) (by decide) (by decide)) (by decide) (by decide)) (by decide) (by decide))⟩, by rw [ht9]; exact hP, hD⟩, hS.F ht9⟩) hS.2.2 dX13_operand_386
        · have z196 : r128.toInt = (0 : Int) := eq_z rfl (show (0 : Int32).toInt = (0 : Int) by decide) h129
          refine lv_aload_n hx hb dX13_operand_117 rfl (lv_at hl 0 rfl) ?_
          refine lv_bipush (v := 126) hx hb dX13_operand_118 (by decide) ?_
          refine cu_i (rn_V (n := 1) (As := [.int 126]) (rest := []) hx hb hml hown ht hKK hFx hP hD hS hA (c_m_is l dC dI cI cB cZ cJ cR tb H.size ad N v (126 : Int32) (show 0 ≤ (v.1 0 47).toInt ∧ (v.1 0 47).toInt ≤ 1500 from (om_2fb699b811 zt zfs))) tw_34 tw_35 (by decide +kernel) rfl rfl ⟨show 1 + 1 ≤ 40 * n + 9 from om_dc0ef911ca, show 8 + (2 + 11) + 22 ≤ 28 * (40 * n + 9) from om_8685d0996a⟩ (List.range (mW ad N cI cZ cJ v).length) (rg_map _) (mW_nd _ _ _ _ _ _) rfl rfl rfl rfl hl.1 rfl (Nat.le_of_ble_eq_true rfl) dX13_operand_120 ⟨Nat.le_of_ble_eq_true rfl, Nat.le_of_ble_eq_true rfl⟩) hP hD hS hA (fun r199 u198 H locs hw197 hP hD hS => ?_)
          obtain ⟨rfl, b197, e197⟩ := hw197
          refine W.widen (k := 0) (n := 0) (Nat.le_refl _) (Nat.le_refl _) ?_
          refine lv_if_eq (tgt := 244) hx hb dX13_operand_123 (by decide) (fun h200 => ?_) (fun h200 => ?_)
          · have z201 : r199.toInt = (0 : Int) := eq_z rfl (show (0 : Int32).toInt = (0 : Int) by decide) h200
            refine lv_aload_n hx hb dX13_operand_244 rfl (lv_at hl 0 rfl) ?_
            refine lv_bipush (v := 40) hx hb dX13_operand_245 (by decide) ?_
            refine cu_i (rn_V (n := 1) (As := [.int 40]) (rest := []) hx hb hml hown ht hKK hFx hP hD hS hA (c_m_is l dC dI cI cB cZ cJ cR tb H.size ad N v (40 : Int32) (show 0 ≤ (v.1 0 47).toInt ∧ (v.1 0 47).toInt ≤ 1500 from (om_2fb699b811 zt zfs))) tw_34 tw_35 (by decide +kernel) rfl rfl ⟨show 1 + 1 ≤ 40 * n + 9 from om_dc0ef911ca, show 8 + (2 + 11) + 22 ≤ 28 * (40 * n + 9) from om_8685d0996a⟩ (List.range (mW ad N cI cZ cJ v).length) (rg_map _) (mW_nd _ _ _ _ _ _) rfl rfl rfl rfl hl.1 rfl (Nat.le_of_ble_eq_true rfl) dX13_operand_247 ⟨Nat.le_of_ble_eq_true rfl, Nat.le_of_ble_eq_true rfl⟩) hP hD hS hA (fun r204 u203 H locs hw202 hP hD hS => ?_)
            obtain ⟨rfl, b202, e202⟩ := hw202
            refine W.widen (k := 0) (n := 0) (Nat.le_refl _) (Nat.le_refl _) ?_
            refine lv_if_eq (tgt := 270) hx hb dX13_operand_250 (by decide) (fun h205 => ?_) (fun h205 => ?_)
            · have z206 : r204.toInt = (0 : Int) := eq_z rfl (show (0 : Int32).toInt = (0 : Int) by decide) h205
              refine lv_aload_n hx hb dX13_operand_270 rfl (lv_at hl 0 rfl) ?_
              refine lv_bipush (v := 10) hx hb dX13_operand_271 (by decide) ?_
              refine cu_i (rn_V (n := 1) (As := [.int 10]) (rest := []) hx hb hml hown ht hKK hFx hP hD hS hA (c_m_isKey l dC dI cI cB cZ cJ cR tb H.size ad N v (10 : Int32) (show 0 ≤ (v.1 0 47).toInt ∧ (v.1 0 47).toInt ≤ 1500 from (om_2fb699b811 zt zfs))) tw_116 tw_117 (by decide +kernel) rfl rfl ⟨show 0 + 1 ≤ 40 * n + 9 from om_fd17f2e70e, show 8 + (2 + 11) + 0 ≤ 28 * (40 * n + 9) from om_4229287154⟩ (List.range (mW ad N cI cZ cJ v).length) (rg_map _) (mW_nd _ _ _ _ _ _) rfl rfl rfl rfl hl.1 rfl (Nat.le_of_ble_eq_true rfl) dX13_operand_273 ⟨Nat.le_of_ble_eq_true rfl, Nat.le_of_ble_eq_true rfl⟩) hP hD hS hA (fun r209 u208 H locs hw207 hP hD hS => ?_)
              obtain ⟨rfl, b207, e207⟩ := hw207
              refine W.widen (k := 0) (n := 0) (Nat.le_refl _) (Nat.le_refl _) ?_
              refine lv_if_eq (tgt := 325) hx hb dX13_operand_276 (by decide) (fun h210 => ?_) (fun h210 => ?_)
              · have z211 : r209.toInt = (0 : Int) := eq_z rfl (show (0 : Int32).toInt = (0 : Int) by decide) h210
                refine lv_aload_n hx hb dX13_operand_325 rfl (lv_at hl 0 rfl) ?_
                refine va_get (D := (dC, dI)) (ci := 16) (fs := mF ad v) (v := .ref (ad 6)) (C := RX13) (T := TX13) (N := 124) hx hb ht itX13 hown hK hP 0 rfl rfl 6 (by decide) (ht _ tw_23) (fun _ h9 => h9) rfl dX13_operand_326 ?_
                refine lv_aload_n hx hb dX13_operand_329 rfl (lv_at hl 0 rfl) ?_
                refine va_get (D := (dC, dI)) (ci := 16) (fs := mF ad v) (v := .int (v.1 0 47)) (C := RX13) (T := TX13) (N := 124) hx hb ht itX13 hown hK hP 0 rfl rfl 47 (by decide) (ht _ tw_24) (fun _ h9 => h9) rfl dX13_operand_330 ?_
                refine va_iald (D := (dC, dI)) (f := (v.1 6)) hx hb hK hP 3 0 rfl rfl (in_y (a := (v.1 0 47).toInt) (b := 4002) rfl (om_e33521859d zfs) (om_449eb7e9bb zt) rfl) dX13_operand_333 ?_
                refine lv_iconst (v := 2) hx hb dX13_operand_334 (by decide) ?_
                refine lv_icmp_ne (tgt := 360) hx hb dX13_operand_335 (by decide) (fun h212 => ?_) (fun h212 => ?_)
                · have z213 : ((v.1 6) (v.1 0 47).toNatClampNeg).toInt ≠ (2 : Int) := ne_z rfl (show (2 : Int32).toInt = (2 : Int) by decide) h212
                  refine lv_aload_n hx hb dX13_operand_360 rfl (lv_at hl 0 rfl) ?_
                  refine va_get (D := (dC, dI)) (ci := 16) (fs := mF ad v) (v := .ref (ad 6)) (C := RX13) (T := TX13) (N := 124) hx hb ht itX13 hown hK hP 0 rfl rfl 6 (by decide) (ht _ tw_23) (fun _ h9 => h9) rfl dX13_operand_361 ?_
                  refine lv_aload_n hx hb dX13_operand_364 rfl (lv_at hl 0 rfl) ?_
                  refine va_get (D := (dC, dI)) (ci := 16) (fs := mF ad v) (v := .int (v.1 0 47)) (C := RX13) (T := TX13) (N := 124) hx hb ht itX13 hown hK hP 0 rfl rfl 47 (by decide) (ht _ tw_24) (fun _ h9 => h9) rfl dX13_operand_365 ?_
                  refine va_iald (D := (dC, dI)) (f := (v.1 6)) hx hb hK hP 3 0 rfl rfl (in_y (a := (v.1 0 47).toInt) (b := 4002) rfl (om_e33521859d zfs) (om_449eb7e9bb zt) rfl) dX13_operand_368 ?_
                  refine lv_iconst (v := 2) hx hb dX13_operand_369 (by decide) ?_
                  refine lv_icmp_ne (tgt := 381) hx hb dX13_operand_370 (by decide) (fun h214 => ?_) (fun h214 => ?_)
                  · have z215 : ((v.1 6) (v.1 0 47).toNatClampNeg).toInt ≠ (2 : Int) := ne_z rfl (show (2 : Int32).toInt = (2 : Int) by decide) h214
                    refine lv_aload_n hx hb dX13_operand_381 rfl (lv_at hl 0 rfl) ?_
                    refine cu_r (rn_V (n := 0) (As := []) (rest := []) hx hb hml hown ht hKK hFx hP hD hS hA (c_m_bad l dC dI cI cB cZ cJ cR tb H.size ad N v  (show 0 ≤ (v.1 0 47).toInt ∧ (v.1 0 47).toInt ≤ 1500 from (om_2fb699b811 zt zfs))) tw_36 tw_37 (by decide +kernel) rfl rfl ⟨show 1 + 1 ≤ 40 * n + 9 from om_dc0ef911ca, show 8 + (1 + 11) + 22 ≤ 28 * (40 * n + 9) from om_1a3684fcd8⟩ (List.range (mW ad N cI cZ cJ v).length) (rg_map _) (mW_nd _ _ _ _ _ _) rfl rfl rfl rfl hl.1 rfl (Nat.le_of_ble_eq_true rfl) dX13_operand_382 ⟨Nat.le_of_ble_eq_true rfl, Nat.le_of_ble_eq_true rfl⟩) hP hD hS hA (fun u217 H locs hw216 hP hD hS => ?_)
                    have fr216 := hw216
                    refine W.widen (k := 0) (n := 0) (Nat.le_refl _) (Nat.le_refl _) ?_
                    obtain ⟨ce9, hc9, hv9, hf9⟩ := halt_at hK hP
                    refine um_athrow hx hb dX13_operand_385 ?_
                    exact vx_out (fun x h9 => (hnt x h9).elim) hlocks hc9 hv9 hf9 (fun t9 ht9 hv8 => ⟨u217, (FG.tr (FG.rf _) (FG.up fr216 (by decide) (by decide))), ⟨rfl, by rw [ht9]; exact hP, hD⟩, hS.F ht9⟩) hS.2.2 (Nat.le_refl _) (Nat.le_refl _)
                  · have z219 : ((v.1 6) (v.1 0 47).toNatClampNeg).toInt = (2 : Int) := eq_z rfl (show (2 : Int32).toInt = (2 : Int) by decide) h214
                    exact False.elim (om_a9523442bb z213 z219)
                · have z220 : ((v.1 6) (v.1 0 47).toNatClampNeg).toInt = (2 : Int) := eq_z rfl (show (2 : Int32).toInt = (2 : Int) by decide) h212
                  refine lv_aload_n hx hb dX13_operand_338 rfl (lv_at hl 0 rfl) ?_
                  refine lv_aload_n hx hb dX13_operand_339 rfl (lv_at hl 0 rfl) ?_
                  refine va_get (D := (dC, dI)) (ci := 16) (fs := mF ad v) (v := .int (v.1 0 47)) (C := RX13) (T := TX13) (N := 124) hx hb ht itX13 hown hK hP 0 rfl rfl 47 (by decide) (ht _ tw_24) (fun _ h9 => h9) rfl dX13_operand_340 ?_
                  refine lv_iconst (v := 1) hx hb dX13_operand_343 (by decide) ?_
                  refine lv_iadd hx hb dX13_operand_344 ?_
                  have z221 : ((v.1 0 47) + (1 : Int32)).toInt = ((v.1 0 47).toInt) + (1 : Int) := add_z rfl (show (1 : Int32).toInt = (1 : Int) by decide) (om_3eca9b17a5 zws) (om_27eb55d06c zt)
                  refine lv_bipush (v := 40) hx hb dX13_operand_345 (by decide) ?_
                  refine cu_i (rn_V (n := 2) (As := [.int ((v.1 0 47) + (1 : Int32)), .int 40]) (rest := []) hx hb hml hown ht hKK hFx hP hD hS hA (c_m_isSign l dC dI cI cB cZ cJ cR tb H.size ad N v ((v.1 0 47) + (1 : Int32)) (40 : Int32) (show 0 ≤ ((v.1 0 47) + (1 : Int32)).toInt ∧ ((v.1 0 47) + (1 : Int32)).toInt < 4002 from (om_6662b95370 zt zfs z221))) tw_28 tw_29 (by decide +kernel) rfl rfl ⟨show 0 + 1 ≤ 40 * n + 9 from om_fd17f2e70e, show 8 + (3 + 11) + 0 ≤ 28 * (40 * n + 9) from om_e79917e237⟩ (List.range (mW ad N cI cZ cJ v).length) (rg_map _) (mW_nd _ _ _ _ _ _) rfl rfl rfl rfl hl.1 rfl (Nat.le_of_ble_eq_true rfl) dX13_operand_347 ⟨Nat.le_of_ble_eq_true rfl, Nat.le_of_ble_eq_true rfl⟩) hP hD hS hA (fun r224 u223 H locs hw222 hP hD hS => ?_)
                  obtain ⟨rfl, b222, e222⟩ := hw222
                  refine W.widen (k := 0) (n := 0) (Nat.le_refl _) (Nat.le_refl _) ?_
                  refine lv_if_eq (tgt := 360) hx hb dX13_operand_350 (by decide) (fun h225 => ?_) (fun h225 => ?_)
                  · have z226 : r224.toInt = (0 : Int) := eq_z rfl (show (0 : Int32).toInt = (0 : Int) by decide) h225
                    refine lv_aload_n hx hb dX13_operand_360 rfl (lv_at hl 0 rfl) ?_
                    refine va_get (D := (dC, dI)) (ci := 16) (fs := mF ad v) (v := .ref (ad 6)) (C := RX13) (T := TX13) (N := 124) hx hb ht itX13 hown hK hP 0 rfl rfl 6 (by decide) (ht _ tw_23) (fun _ h9 => h9) rfl dX13_operand_361 ?_
                    refine lv_aload_n hx hb dX13_operand_364 rfl (lv_at hl 0 rfl) ?_
                    refine va_get (D := (dC, dI)) (ci := 16) (fs := mF ad v) (v := .int (v.1 0 47)) (C := RX13) (T := TX13) (N := 124) hx hb ht itX13 hown hK hP 0 rfl rfl 47 (by decide) (ht _ tw_24) (fun _ h9 => h9) rfl dX13_operand_365 ?_
                    refine va_iald (D := (dC, dI)) (f := (v.1 6)) hx hb hK hP 3 0 rfl rfl (in_y (a := (v.1 0 47).toInt) (b := 4002) rfl (om_e33521859d zfs) (om_449eb7e9bb zt) rfl) dX13_operand_368 ?_
                    refine lv_iconst (v := 2) hx hb dX13_operand_369 (by decide) ?_
                    refine lv_icmp_ne (tgt := 381) hx hb dX13_operand_370 (by decide) (fun h227 => ?_) (fun h227 => ?_)
                    · have z228 : ((v.1 6) (v.1 0 47).toNatClampNeg).toInt ≠ (2 : Int) := ne_z rfl (show (2 : Int32).toInt = (2 : Int) by decide) h227
                      exact False.elim (om_6555dba5b7 z220 z228)
                    · have z229 : ((v.1 6) (v.1 0 47).toNatClampNeg).toInt = (2 : Int) := eq_z rfl (show (2 : Int32).toInt = (2 : Int) by decide) h227
                      refine lv_aload_n hx hb dX13_operand_373 rfl (lv_at hl 0 rfl) ?_
                      refine lv_iconst (v := 0) hx hb dX13_operand_374 (by decide) ?_
                      refine cux_v (rx_V (n := 1) (As := [.int 0]) (rest := []) hx hb hml hown ht hKK hFx hP hD hS hA (c_m_named0 l n ihE dC dI cI cB cZ cJ cR tb H.size ad N v  (show 40 ≤ (v.1 0 48).toInt + (n : Int) from (om_a9150ae9b6 zn)) (show 0 ≤ (v.1 0 47).toInt ∧ (v.1 0 47).toInt ≤ 1500 from (om_2fb699b811 zt zfs)) (show 0 ≤ (v.1 0 48).toInt ∧ (v.1 0 48).toInt ≤ 40 from (om_7eaf33e007 zop)) (show 0 ≤ (v.1 0 30).toInt ∧ (v.1 0 30).toInt ≤ 500 from (om_9861e69da5 zkn)) (show 0 ≤ (v.1 0 33).toInt ∧ (v.1 0 33).toInt ≤ 500 from (om_9861e69da5 zhi)) (show 0 ≤ (v.1 0 32).toInt ∧ (v.1 0 30).toInt + (v.1 0 32).toInt ≤ (v.1 0 33).toInt from (om_f541e4003c zs)) (show 0 ≤ (v.1 0 12).toInt ∧ (v.1 0 12).toInt ≤ 15 * (v.1 0 47).toInt + 2 from (om_0093b55d27 zws)) (show 0 ≤ (v.1 0 15).toInt ∧ (v.1 0 15).toInt ≤ 10 * (v.1 0 47).toInt + 0 from (om_f99dd47f94 zos)) (show 0 ≤ (v.1 0 43).toInt ∧ (v.1 0 43).toInt ≤ 15 * (v.1 0 47).toInt + 0 from (om_116b0ae668 zfs)) (show 0 ≤ (v.1 0 39).toInt ∧ (v.1 0 39).toInt ≤ 1 * (v.1 0 47).toInt + 0 from (om_081ea48693 zcs)) (show 0 ≤ (v.1 0 27).toInt ∧ (v.1 0 27).toInt ≤ 60 from (om_1d2c7ad648 zgl)) (show TI v from FG.ti (fl := pfl) (al := pal) (FG.rf _) (by decide) (by decide) hT) (show AR 29 0 1500 v from a29) (show AR 23 0 1500 v from a23) (show AR 35 0 1500 v from a35) (show AR 37 0 23999 v from a37) (show AR 38 0 15999 v from a38) (show AR 40 0 23999 v from a40) (show FX v from fx)) tw_118 tw_119 (by decide +kernel) rfl rfl ⟨show (40 * n + 8) + 1 ≤ 40 * n + 9 from om_b0a4404262, show 8 + (7 + 11) + 28 * (40 * n + 8) ≤ 28 * (40 * n + 9) from om_0c05ba7e9c⟩ (List.range (mW ad N cI cZ cJ v).length) (rg_map _) (mW_nd _ _ _ _ _ _) rfl rfl rfl rfl hl.1 rfl (Nat.le_of_ble_eq_true rfl) dX13_operand_375 ⟨Nat.le_of_ble_eq_true rfl, Nat.le_of_ble_eq_true rfl⟩) hP hD hS hA (fun u9 ce9 q9 H locs hx9 hP hD hS hc9 hv9 hf9 => ?_) (fun u231 H locs hw230 hP hD hS => ?_)
                      · exact vx_out (fun x h9 => (hnt x h9).elim) hlocks hc9 hv9 hf9 (fun t9 ht9 hv8 => ⟨u9, (FG.tr (FG.rf _) hx9), ⟨rfl, by rw [ht9]; exact hP, hD⟩, hS.F ht9⟩) hS.2.2 (Nat.le_refl _) (Nat.le_refl _)
                      obtain ⟨fr230, pt230, pb230, pw230, po230, pf230, pk230, pp230, ph230, kc230, ko230, kg230, a35230, a37230, a38230, a40230, fx230⟩ := hw230
                      refine W.widen (k := 0) (n := 0) (Nat.le_refl _) (Nat.le_refl _) ?_
                      refine lv_goto (tgt := 386) hx hb dX13_operand_378 (by decide) ?_
                      refine vx_ret ?_
                      exact W.vret hx hb hr (fun t ht9 hW => ⟨⟨u231, rfl, ⟨(FG.tr (FG.rf _) (FG.up fr230 (by decide) (by decide))), (show (v.1 0 47).toInt + 1 ≤ (u231.1 0 47).toInt ∧ (u231.1 0 47).toInt ≤ 1500 from (om_d90a70a533 pt230)), (show (v.1 0 49).toInt ≠ (v.1 0 47).toInt from (om_32294a9ce4 pb230)), (show (v.1 0 12).toInt ≤ (u231.1 0 12).toInt ∧ (u231.1 0 12).toInt - 15 * (u231.1 0 47).toInt ≤ (v.1 0 12).toInt - 15 * (v.1 0 47).toInt from (om_bd8d9916e4 pw230)), (show (v.1 0 15).toInt ≤ (u231.1 0 15).toInt ∧ (u231.1 0 15).toInt - 10 * (u231.1 0 47).toInt ≤ (v.1 0 15).toInt - 10 * (v.1 0 47).toInt from (om_75227e8328 po230)), (show (v.1 0 43).toInt ≤ (u231.1 0 43).toInt ∧ (u231.1 0 43).toInt - 15 * (u231.1 0 47).toInt ≤ (v.1 0 43).toInt - 15 * (v.1 0 47).toInt from (om_bd8d9916e4 pf230)), (show (v.1 0 39).toInt ≤ (u231.1 0 39).toInt ∧ (u231.1 0 39).toInt - 1 * (u231.1 0 47).toInt ≤ (v.1 0 39).toInt - 1 * (v.1 0 47).toInt from (om_da0fc15040 pk230)), (show (u231.1 0 32).toInt = (v.1 0 32).toInt ∧ (u231.1 0 48).toInt = (v.1 0 48).toInt from (om_d31db81a70 pp230)), (show (v.1 0 33).toInt ≤ (u231.1 0 33).toInt ∧ (u231.1 0 33).toInt ≤ 500 from (om_6bc0cea141 ph230)), (fun (j9 : Nat) hj9 => (kc230 j9 (om_4fe904e9bf hj9))), (fun (j9 : Nat) hj9 => (ko230 j9 (om_4fe904e9bf hj9))), (fun (j9 : Nat) hj9 => (kg230 j9 (om_4fe904e9bf hj9))), a35230, a37230, a38230, a40230, fx230⟩, by rw [ht9]; exact hP, hD⟩, hS.F ht9⟩) hS.2.2 dX13_operand_386
                  · have z233 : r224.toInt ≠ (0 : Int) := ne_z rfl (show (0 : Int32).toInt = (0 : Int) by decide) h225
                    refine lv_aload_n hx hb dX13_operand_353 rfl (lv_at hl 0 rfl) ?_
                    refine cux_v (rx_V (n := 0) (As := []) (rest := []) hx hb hml hown ht hKK hFx hP hD hS hA (c_m_call l n ihE dC dI cI cB cZ cJ cR tb H.size ad N v  (show 40 ≤ (v.1 0 48).toInt + (n : Int) from (om_a9150ae9b6 zn)) (show 0 ≤ (v.1 0 47).toInt ∧ (v.1 0 47).toInt ≤ 1500 from (om_2fb699b811 zt zfs)) (show 0 ≤ (v.1 0 48).toInt ∧ (v.1 0 48).toInt ≤ 40 from (om_7eaf33e007 zop)) (show 0 ≤ (v.1 0 30).toInt ∧ (v.1 0 30).toInt ≤ 500 from (om_9861e69da5 zkn)) (show 0 ≤ (v.1 0 33).toInt ∧ (v.1 0 33).toInt ≤ 500 from (om_9861e69da5 zhi)) (show 0 ≤ (v.1 0 32).toInt ∧ (v.1 0 30).toInt + (v.1 0 32).toInt ≤ (v.1 0 33).toInt from (om_f541e4003c zs)) (show 0 ≤ (v.1 0 12).toInt ∧ (v.1 0 12).toInt ≤ 15 * (v.1 0 47).toInt + 2 from (om_0093b55d27 zws)) (show 0 ≤ (v.1 0 15).toInt ∧ (v.1 0 15).toInt ≤ 10 * (v.1 0 47).toInt + 0 from (om_f99dd47f94 zos)) (show 0 ≤ (v.1 0 43).toInt ∧ (v.1 0 43).toInt ≤ 15 * (v.1 0 47).toInt + 0 from (om_116b0ae668 zfs)) (show 0 ≤ (v.1 0 39).toInt ∧ (v.1 0 39).toInt ≤ 1 * (v.1 0 47).toInt + 0 from (om_081ea48693 zcs)) (show 0 ≤ (v.1 0 27).toInt ∧ (v.1 0 27).toInt ≤ 60 from (om_1d2c7ad648 zgl)) (show TI v from FG.ti (fl := pfl) (al := pal) (FG.rf _) (by decide) (by decide) hT) (show AR 29 0 1500 v from a29) (show AR 23 0 1500 v from a23) (show AR 35 0 1500 v from a35) (show AR 37 0 23999 v from a37) (show AR 38 0 15999 v from a38) (show AR 40 0 23999 v from a40) (show FX v from fx)) tw_120 tw_121 (by decide +kernel) rfl rfl ⟨show (40 * n + 7) + 1 ≤ 40 * n + 9 from om_dbb8b0dcf0, show 8 + (6 + 11) + 28 * (40 * n + 7) ≤ 28 * (40 * n + 9) from om_fd2fd97cdd⟩ (List.range (mW ad N cI cZ cJ v).length) (rg_map _) (mW_nd _ _ _ _ _ _) rfl rfl rfl rfl hl.1 rfl (Nat.le_of_ble_eq_true rfl) dX13_operand_354 ⟨Nat.le_of_ble_eq_true rfl, Nat.le_of_ble_eq_true rfl⟩) hP hD hS hA (fun u9 ce9 q9 H locs hx9 hP hD hS hc9 hv9 hf9 => ?_) (fun u235 H locs hw234 hP hD hS => ?_)
                    · exact vx_out (fun x h9 => (hnt x h9).elim) hlocks hc9 hv9 hf9 (fun t9 ht9 hv8 => ⟨u9, (FG.tr (FG.rf _) hx9), ⟨rfl, by rw [ht9]; exact hP, hD⟩, hS.F ht9⟩) hS.2.2 (Nat.le_refl _) (Nat.le_refl _)
                    obtain ⟨fr234, pt234, pb234, pw234, po234, pf234, pk234, pp234, ph234, kc234, ko234, kg234, a35234, a37234, a38234, a40234, fx234⟩ := hw234
                    refine W.widen (k := 0) (n := 0) (Nat.le_refl _) (Nat.le_refl _) ?_
                    refine lv_goto (tgt := 386) hx hb dX13_operand_357 (by decide) ?_
                    refine vx_ret ?_
                    exact W.vret hx hb hr (fun t ht9 hW => ⟨⟨u235, rfl, ⟨(FG.tr (FG.rf _) (FG.up fr234 (by decide) (by decide))), (show (v.1 0 47).toInt + 1 ≤ (u235.1 0 47).toInt ∧ (u235.1 0 47).toInt ≤ 1500 from (om_d90a70a533 pt234)), (show (v.1 0 49).toInt ≠ (v.1 0 47).toInt from (om_32294a9ce4 pb234)), (show (v.1 0 12).toInt ≤ (u235.1 0 12).toInt ∧ (u235.1 0 12).toInt - 15 * (u235.1 0 47).toInt ≤ (v.1 0 12).toInt - 15 * (v.1 0 47).toInt from (om_bd8d9916e4 pw234)), (show (v.1 0 15).toInt ≤ (u235.1 0 15).toInt ∧ (u235.1 0 15).toInt - 10 * (u235.1 0 47).toInt ≤ (v.1 0 15).toInt - 10 * (v.1 0 47).toInt from (om_75227e8328 po234)), (show (v.1 0 43).toInt ≤ (u235.1 0 43).toInt ∧ (u235.1 0 43).toInt - 15 * (u235.1 0 47).toInt ≤ (v.1 0 43).toInt - 15 * (v.1 0 47).toInt from (om_bd8d9916e4 pf234)), (show (v.1 0 39).toInt ≤ (u235.1 0 39).toInt ∧ (u235.1 0 39).toInt - 1 * (u235.1 0 47).toInt ≤ (v.1 0 39).toInt - 1 * (v.1 0 47).toInt from (om_da0fc15040 pk234)), (show (u235.1 0 32).toInt = (v.1 0 32).toInt ∧ (u235.1 0 48).toInt = (v.1 0 48).toInt from (om_d31db81a70 pp234)), (show (v.1 0 33).toInt ≤ (u235.1 0 33).toInt ∧ (u235.1 0 33).toInt ≤ 500 from (om_6bc0cea141 ph234)), (fun (j9 : Nat) hj9 => (kc234 j9 (om_4fe904e9bf hj9))), (fun (j9 : Nat) hj9 => (ko234 j9 (om_4fe904e9bf hj9))), (fun (j9 : Nat) hj9 => (kg234 j9 (om_4fe904e9bf hj9))), a35234, a37234, a38234, a40234, fx234⟩, by rw [ht9]; exact hP, hD⟩, hS.F ht9⟩) hS.2.2 dX13_operand_386
              · have z237 : r209.toInt ≠ (0 : Int) := ne_z rfl (show (0 : Int32).toInt = (0 : Int) by decide) h210
                refine lv_aload_n hx hb dX13_operand_279 rfl (lv_at hl 0 rfl) ?_
                refine cux_v (rx_V (n := 0) (As := []) (rest := []) hx hb hml hown ht hKK hFx hP hD hS hA (c_m_take l dC dI cI cB cZ cJ cR tb H.size ad N v  (show 0 ≤ (v.1 0 47).toInt ∧ (v.1 0 47).toInt ≤ 1500 from (om_2fb699b811 zt zfs))) tw_32 tw_33 (by decide +kernel) rfl rfl ⟨show 1 + 1 ≤ 40 * n + 9 from om_dc0ef911ca, show 8 + (1 + 11) + 22 ≤ 28 * (40 * n + 9) from om_1a3684fcd8⟩ (List.range (mW ad N cI cZ cJ v).length) (rg_map _) (mW_nd _ _ _ _ _ _) rfl rfl rfl rfl hl.1 rfl (Nat.le_of_ble_eq_true rfl) dX13_operand_280 ⟨Nat.le_of_ble_eq_true rfl, Nat.le_of_ble_eq_true rfl⟩) hP hD hS hA (fun u9 ce9 q9 H locs hx9 hP hD hS hc9 hv9 hf9 => ?_) (fun u239 H locs hw238 hP hD hS => ?_)
                · exact vx_out (fun x h9 => (hnt x h9).elim) hlocks hc9 hv9 hf9 (fun t9 ht9 hv8 => ⟨u9, (FG.tr (FG.rf _) hx9), ⟨rfl, by rw [ht9]; exact hP, hD⟩, hS.F ht9⟩) hS.2.2 (Nat.le_refl _) (Nat.le_refl _)
                obtain ⟨rfl, a238, b238⟩ := hw238
                have z241 : ((v.1 0 47) + (1 : Int32)).toInt = ((v.1 0 47).toInt) + (1 : Int) := add_z rfl (show (1 : Int32).toInt = (1 : Int) by decide) (om_3eca9b17a5 zws) (om_27eb55d06c zt)
                have hP : va_P (dC, dI) vwCl (mW ad N cI cZ cJ (wA v 0 47 ((v.1 0 47) + (1 : Int32)))) H := hP
                have hD : va_D A (mW ad N cI cZ cJ (wA v 0 47 ((v.1 0 47) + (1 : Int32)))) := hD
                refine W.widen (k := 0) (n := 0) (Nat.le_refl _) (Nat.le_refl _) ?_
                refine lv_aload_n hx hb dX13_operand_283 rfl (lv_at hl 0 rfl) ?_
                refine lv_bipush (v := 40) hx hb dX13_operand_284 (by decide) ?_
                refine cux_v (rx_V (n := 1) (As := [.int 40]) (rest := []) hx hb hml hown ht hKK hFx hP hD hS hA (c_m_open l dC dI cI cB cZ cJ cR tb H.size ad N (wA v 0 47 ((v.1 0 47) + (1 : Int32))) (40 : Int32) (show 0 ≤ ((v.1 0 47) + (1 : Int32)).toInt ∧ ((v.1 0 47) + (1 : Int32)).toInt ≤ 1500 from (om_cae3a623a5 zfs z241 a238)) (show 0 ≤ (v.1 0 48).toInt ∧ (v.1 0 48).toInt ≤ 40 from (om_7eaf33e007 zop))) tw_78 tw_79 (by decide +kernel) rfl rfl ⟨show 3 + 1 ≤ 40 * n + 9 from om_6d05018a6e, show 8 + (2 + 11) + 62 ≤ 28 * (40 * n + 9) from om_7cb4f31a39⟩ (List.range (mW ad N cI cZ cJ (wA v 0 47 ((v.1 0 47) + (1 : Int32)))).length) (rg_map _) (mW_nd _ _ _ _ _ _) rfl rfl rfl rfl hl.1 rfl (Nat.le_of_ble_eq_true rfl) dX13_operand_286 ⟨Nat.le_of_ble_eq_true rfl, Nat.le_of_ble_eq_true rfl⟩) hP hD hS hA (fun u9 ce9 q9 H locs hx9 hP hD hS hc9 hv9 hf9 => ?_) (fun u243 H locs hw242 hP hD hS => ?_)
                · exact vx_out (fun x h9 => (hnt x h9).elim) hlocks hc9 hv9 hf9 (fun t9 ht9 hv8 => ⟨u9, (FG.tr (FG.f (FG.rf _) ((v.1 0 47) + (1 : Int32)) (by decide)) hx9), ⟨rfl, by rw [ht9]; exact hP, hD⟩, hS.F ht9⟩) hS.2.2 (Nat.le_refl _) (Nat.le_refl _)
                obtain ⟨rfl, a242, b242, c242⟩ := hw242
                have z245 : (((v.1 0 47) + (1 : Int32)) + (1 : Int32)).toInt = (((v.1 0 47).toInt) + (1 : Int)) + (1 : Int) := add_z z241 (show (1 : Int32).toInt = (1 : Int) by decide) (om_bf509aca85 zws) (om_d3d214a01e zt)
                have z246 : ((v.1 0 48) + (1 : Int32)).toInt = ((v.1 0 48).toInt) + (1 : Int) := add_z rfl (show (1 : Int32).toInt = (1 : Int) by decide) (om_c2418a9965 zop) (om_defb2a7457 zop)
                have hP : va_P (dC, dI) vwCl (mW ad N cI cZ cJ (wA (wA (wA v 0 47 ((v.1 0 47) + (1 : Int32))) 0 47 (((v.1 0 47) + (1 : Int32)) + (1 : Int32))) 0 48 ((v.1 0 48) + (1 : Int32)))) H := hP
                have hD : va_D A (mW ad N cI cZ cJ (wA (wA (wA v 0 47 ((v.1 0 47) + (1 : Int32))) 0 47 (((v.1 0 47) + (1 : Int32)) + (1 : Int32))) 0 48 ((v.1 0 48) + (1 : Int32)))) := hD
                have a242 : ((v.1 0 47) + (1 : Int32)).toInt < 1500 := a242
                have b242 : (v.1 0 48).toInt < 40 := b242
                have c242 : (v.1 0 49).toInt ≠ ((v.1 0 47) + (1 : Int32)).toInt := c242
                refine W.widen (k := 0) (n := 0) (Nat.le_refl _) (Nat.le_refl _) ?_
                refine lv_aload_n hx hb dX13_operand_289 rfl (lv_at hl 0 rfl) ?_
                refine lv_bipush (v := 41) hx hb dX13_operand_290 (by decide) ?_
                refine cux_v (rx_V (n := 1) (As := [.int 41]) (rest := []) hx hb hml hown ht hKK hFx hP hD hS hA (c_m_close l dC dI cI cB cZ cJ cR tb H.size ad N (wA (wA (wA v 0 47 ((v.1 0 47) + (1 : Int32))) 0 47 (((v.1 0 47) + (1 : Int32)) + (1 : Int32))) 0 48 ((v.1 0 48) + (1 : Int32))) (41 : Int32) (show 0 ≤ (((v.1 0 47) + (1 : Int32)) + (1 : Int32)).toInt ∧ (((v.1 0 47) + (1 : Int32)) + (1 : Int32)).toInt ≤ 1500 from (om_203286a623 zfs z241 z245 a242)) (show 0 ≤ ((v.1 0 48) + (1 : Int32)).toInt ∧ ((v.1 0 48) + (1 : Int32)).toInt ≤ 40 from (om_4c33377394 zop z246 b242))) tw_82 tw_83 (by decide +kernel) rfl rfl ⟨show 3 + 1 ≤ 40 * n + 9 from om_6d05018a6e, show 8 + (2 + 11) + 64 ≤ 28 * (40 * n + 9) from om_fd9c2c6c65⟩ (List.range (mW ad N cI cZ cJ (wA (wA (wA v 0 47 ((v.1 0 47) + (1 : Int32))) 0 47 (((v.1 0 47) + (1 : Int32)) + (1 : Int32))) 0 48 ((v.1 0 48) + (1 : Int32)))).length) (rg_map _) (mW_nd _ _ _ _ _ _) rfl rfl rfl rfl hl.1 rfl (Nat.le_of_ble_eq_true rfl) dX13_operand_292 ⟨Nat.le_of_ble_eq_true rfl, Nat.le_of_ble_eq_true rfl⟩) hP hD hS hA (fun u9 ce9 q9 H locs hx9 hP hD hS hc9 hv9 hf9 => ?_) (fun u248 H locs hw247 hP hD hS => ?_)
                · exact vx_out (fun x h9 => (hnt x h9).elim) hlocks hc9 hv9 hf9 (fun t9 ht9 hv8 => ⟨u9, (FG.tr (FG.f (FG.f (FG.f (FG.rf _) ((v.1 0 47) + (1 : Int32)) (by decide)) (((v.1 0 47) + (1 : Int32)) + (1 : Int32)) (by decide)) ((v.1 0 48) + (1 : Int32)) (by decide)) hx9), ⟨rfl, by rw [ht9]; exact hP, hD⟩, hS.F ht9⟩) hS.2.2 (Nat.le_refl _) (Nat.le_refl _)
                obtain ⟨rfl, a247, c247⟩ := hw247
                have z250 : ((((v.1 0 47) + (1 : Int32)) + (1 : Int32)) + (1 : Int32)).toInt = ((((v.1 0 47).toInt) + (1 : Int)) + (1 : Int)) + (1 : Int) := add_z z245 (show (1 : Int32).toInt = (1 : Int) by decide) (om_dc5e9547b8 zws) (om_69409caa7f zt)
                have z251 : (((v.1 0 48) + (1 : Int32)) - (1 : Int32)).toInt = (((v.1 0 48).toInt) + (1 : Int)) - (1 : Int) := sub_z z246 (show (1 : Int32).toInt = (1 : Int) by decide) (om_ceed1187a8 zop) (om_31c940eb65 zop)
                have hP : va_P (dC, dI) vwCl (mW ad N cI cZ cJ (wA (wA (wA (wA (wA v 0 47 ((v.1 0 47) + (1 : Int32))) 0 47 (((v.1 0 47) + (1 : Int32)) + (1 : Int32))) 0 48 ((v.1 0 48) + (1 : Int32))) 0 47 ((((v.1 0 47) + (1 : Int32)) + (1 : Int32)) + (1 : Int32))) 0 48 (((v.1 0 48) + (1 : Int32)) - (1 : Int32)))) H := hP
                have hD : va_D A (mW ad N cI cZ cJ (wA (wA (wA (wA (wA v 0 47 ((v.1 0 47) + (1 : Int32))) 0 47 (((v.1 0 47) + (1 : Int32)) + (1 : Int32))) 0 48 ((v.1 0 48) + (1 : Int32))) 0 47 ((((v.1 0 47) + (1 : Int32)) + (1 : Int32)) + (1 : Int32))) 0 48 (((v.1 0 48) + (1 : Int32)) - (1 : Int32)))) := hD
                have a247 : (((v.1 0 47) + (1 : Int32)) + (1 : Int32)).toInt < 1500 := a247
                have c247 : (v.1 0 49).toInt ≠ (((v.1 0 47) + (1 : Int32)) + (1 : Int32)).toInt := c247
                refine W.widen (k := 0) (n := 0) (Nat.le_refl _) (Nat.le_refl _) ?_
                refine lv_aload_n hx hb dX13_operand_295 rfl (lv_at hl 0 rfl) ?_
                refine lv_bipush (v := 17) hx hb dX13_operand_296 (by decide) ?_
                refine lv_iconst (v := 0) hx hb dX13_operand_298 (by decide) ?_
                refine lv_iconst (v := 2) hx hb dX13_operand_299 (by decide) ?_
                refine cu_s (mW_nd _ _ _ _ _ _) (rn_S (n := 3) (As := [.int 17, .int 0, .int 2]) (rest := [.ref (ad 0)]) hx hb hml hown ht hKK hFx hP hD hS hA (c_m_addi l dC dI cI cB cZ cJ cR tb H.size (17 : Int32) (0 : Int32) (2 : Int32) ) tw_65 tw_66 (by decide +kernel) rfl rfl ⟨show 1 + 1 ≤ 40 * n + 9 from om_dc0ef911ca, show 8 + (3 + 11) + 24 ≤ 28 * (40 * n + 9) from om_62edcb27da⟩ [] rfl rfl rfl hl.1 rfl (Nat.le_of_ble_eq_true rfl) dX13_operand_300 ⟨Nat.le_of_ble_eq_true rfl, Nat.le_of_ble_eq_true rfl⟩) hP hD hS hA (fun r254 H locs hw252 hP hD hS => ?_)
                refine W.widen (k := 0) (n := 0) (Nat.le_refl _) (Nat.le_refl _) ?_
                refine cu_i (rn_V (n := 1) (As := [.int r254]) (rest := []) hx hb hml hown ht hKK hFx hP hD hS hA (c_m_emit l dC dI cI cB cZ cJ cR tb H.size ad N (wA (wA (wA (wA (wA v 0 47 ((v.1 0 47) + (1 : Int32))) 0 47 (((v.1 0 47) + (1 : Int32)) + (1 : Int32))) 0 48 ((v.1 0 48) + (1 : Int32))) 0 47 ((((v.1 0 47) + (1 : Int32)) + (1 : Int32)) + (1 : Int32))) 0 48 (((v.1 0 48) + (1 : Int32)) - (1 : Int32))) r254 (show 0 ≤ (v.1 0 12).toInt ∧ (v.1 0 12).toInt < 24000 from (om_b806649874 zws a238))) tw_8 tw_9 (by decide +kernel) rfl rfl ⟨show 0 + 1 ≤ 40 * n + 9 from om_fd17f2e70e, show 8 + (2 + 11) + 0 ≤ 28 * (40 * n + 9) from om_4229287154⟩ (List.range (mW ad N cI cZ cJ (wA (wA (wA (wA (wA v 0 47 ((v.1 0 47) + (1 : Int32))) 0 47 (((v.1 0 47) + (1 : Int32)) + (1 : Int32))) 0 48 ((v.1 0 48) + (1 : Int32))) 0 47 ((((v.1 0 47) + (1 : Int32)) + (1 : Int32)) + (1 : Int32))) 0 48 (((v.1 0 48) + (1 : Int32)) - (1 : Int32)))).length) (rg_map _) (mW_nd _ _ _ _ _ _) rfl rfl rfl rfl hl.1 rfl (Nat.le_of_ble_eq_true rfl) dX13_operand_303 ⟨Nat.le_of_ble_eq_true rfl, Nat.le_of_ble_eq_true rfl⟩) hP hD hS hA (fun r257 u256 H locs hw255 hP hD hS => ?_)
                obtain ⟨rfl, rfl⟩ := hw255
                have z258 : ((v.1 0 12) + (1 : Int32)).toInt = ((v.1 0 12).toInt) + (1 : Int) := add_z rfl (show (1 : Int32).toInt = (1 : Int) by decide) (om_d6bdde0b99 zws) (om_1b214d5a41 zws a238)
                have hP : va_P (dC, dI) vwCl (mW ad N cI cZ cJ (wA (wA (wA (wA (wA (wA (wA v 0 47 ((v.1 0 47) + (1 : Int32))) 0 47 (((v.1 0 47) + (1 : Int32)) + (1 : Int32))) 0 48 ((v.1 0 48) + (1 : Int32))) 0 47 ((((v.1 0 47) + (1 : Int32)) + (1 : Int32)) + (1 : Int32))) 0 48 (((v.1 0 48) + (1 : Int32)) - (1 : Int32))) 11 ((v.1 0 12).toNatClampNeg) r254) 0 12 ((v.1 0 12) + (1 : Int32)))) H := hP
                have hD : va_D A (mW ad N cI cZ cJ (wA (wA (wA (wA (wA (wA (wA v 0 47 ((v.1 0 47) + (1 : Int32))) 0 47 (((v.1 0 47) + (1 : Int32)) + (1 : Int32))) 0 48 ((v.1 0 48) + (1 : Int32))) 0 47 ((((v.1 0 47) + (1 : Int32)) + (1 : Int32)) + (1 : Int32))) 0 48 (((v.1 0 48) + (1 : Int32)) - (1 : Int32))) 11 ((v.1 0 12).toNatClampNeg) r254) 0 12 ((v.1 0 12) + (1 : Int32)))) := hD
                refine tp_i (y := (v.1 0 12)) (rfl) ?_
                refine W.widen (k := 0) (n := 0) (Nat.le_refl _) (Nat.le_refl _) ?_
                obtain ⟨u259, hu260⟩ : ∃ z, z = (wA (wA (wA (wA (wA (wA (wA v 0 47 ((v.1 0 47) + (1 : Int32))) 0 47 (((v.1 0 47) + (1 : Int32)) + (1 : Int32))) 0 48 ((v.1 0 48) + (1 : Int32))) 0 47 ((((v.1 0 47) + (1 : Int32)) + (1 : Int32)) + (1 : Int32))) 0 48 (((v.1 0 48) + (1 : Int32)) - (1 : Int32))) 11 ((v.1 0 12).toNatClampNeg) r254) 0 12 ((v.1 0 12) + (1 : Int32))) := ⟨_, rfl⟩
                have fr260 : FG [12, 47, 48] [0, 11] v u259 := by rw [hu260]; exact (FG.f (FG.a (FG.f (FG.f (FG.f (FG.f (FG.f (FG.rf _) ((v.1 0 47) + (1 : Int32)) (by decide)) (((v.1 0 47) + (1 : Int32)) + (1 : Int32)) (by decide)) ((v.1 0 48) + (1 : Int32)) (by decide)) ((((v.1 0 47) + (1 : Int32)) + (1 : Int32)) + (1 : Int32)) (by decide)) (((v.1 0 48) + (1 : Int32)) - (1 : Int32)) (by decide)) ((v.1 0 12).toNatClampNeg) r254 (by decide) (by decide)) ((v.1 0 12) + (1 : Int32)) (by decide))
                have kc260 : ∀ j : Nat, (j : Int) < (v.1 0 12).toInt → (u259.1 11) j = (v.1 11) j := by rw [hu260]; exact (fun (j9 : Nat) hj9 => (pk_un3 (a := (v.1 0 12).toInt) rfl (om_124c434723 zws) (om_4fe904e9bf hj9)))
                rw [← hu260] at hP hD
                refine lv_pop hx hb dX13_operand_306 rfl ?_
                refine lv_aload_n hx hb dX13_operand_307 rfl (lv_at hl 0 rfl) ?_
                refine lv_bipush (v := 115) hx hb dX13_operand_308 (by decide) ?_
                have q261 : (u259.1 0 12).toInt = (((v.1 0 12).toInt) + (1 : Int)) := by rw [hu260]; exact (show ((v.1 0 12) + (1 : Int32)).toInt = (((v.1 0 12).toInt) + (1 : Int)) from z258)
                refine cu_i (rn_V (n := 1) (As := [.int 115]) (rest := []) hx hb hml hown ht hKK hFx hP hD hS hA (c_m_emit l dC dI cI cB cZ cJ cR tb H.size ad N u259 (115 : Int32) (show 0 ≤ (u259.1 0 12).toInt ∧ (u259.1 0 12).toInt < 24000 from (om_fa1b810ce7 zws a238 q261))) tw_8 tw_9 (by decide +kernel) rfl rfl ⟨show 0 + 1 ≤ 40 * n + 9 from om_fd17f2e70e, show 8 + (2 + 11) + 0 ≤ 28 * (40 * n + 9) from om_4229287154⟩ (List.range (mW ad N cI cZ cJ u259).length) (rg_map _) (mW_nd _ _ _ _ _ _) rfl rfl rfl rfl hl.1 rfl (Nat.le_of_ble_eq_true rfl) dX13_operand_310 ⟨Nat.le_of_ble_eq_true rfl, Nat.le_of_ble_eq_true rfl⟩) hP hD hS hA (fun r264 u263 H locs hw262 hP hD hS => ?_)
                obtain ⟨rfl, rfl⟩ := hw262
                have z265 : ((u259.1 0 12) + (1 : Int32)).toInt = ((u259.1 0 12).toInt) + (1 : Int) := add_z rfl (show (1 : Int32).toInt = (1 : Int) by decide) (om_65cf0f3418 zws q261) (om_d9342d4a0b zws a238 q261)
                have hP : va_P (dC, dI) vwCl (mW ad N cI cZ cJ (wA (wA u259 11 ((u259.1 0 12).toNatClampNeg) (115 : Int32)) 0 12 ((u259.1 0 12) + (1 : Int32)))) H := hP
                have hD : va_D A (mW ad N cI cZ cJ (wA (wA u259 11 ((u259.1 0 12).toNatClampNeg) (115 : Int32)) 0 12 ((u259.1 0 12) + (1 : Int32)))) := hD
                refine tp_i (y := (u259.1 0 12)) (rfl) ?_
                refine W.widen (k := 0) (n := 0) (Nat.le_refl _) (Nat.le_refl _) ?_
                refine lv_pop hx hb dX13_operand_313 rfl ?_
                refine lv_aload_n hx hb dX13_operand_314 rfl (lv_at hl 0 rfl) ?_
                refine lv_bipush (v := 17) hx hb dX13_operand_315 (by decide) ?_
                refine lv_iconst (v := 0) hx hb dX13_operand_317 (by decide) ?_
                have q266 : (u259.1 0 15).toInt = (v.1 0 15).toInt := congrArg Int32.toInt (fr260.2.1 15 (by decide))
                refine cu_i (rn_V (n := 2) (As := [.int 17, .int 0]) (rest := []) hx hb hml hown ht hKK hFx hP hD hS hA (c_m_say l dC dI cI cB cZ cJ cR tb H.size ad N (wA (wA u259 11 ((u259.1 0 12).toNatClampNeg) (115 : Int32)) 0 12 ((u259.1 0 12) + (1 : Int32))) (17 : Int32) (0 : Int32) (show 0 ≤ (u259.1 0 15).toInt ∧ (u259.1 0 15).toInt < 16000 from (om_3d37f463d2 zos a238 q266))) tw_59 tw_60 (by decide +kernel) rfl rfl ⟨show 0 + 1 ≤ 40 * n + 9 from om_fd17f2e70e, show 8 + (3 + 11) + 0 ≤ 28 * (40 * n + 9) from om_e79917e237⟩ (List.range (mW ad N cI cZ cJ (wA (wA u259 11 ((u259.1 0 12).toNatClampNeg) (115 : Int32)) 0 12 ((u259.1 0 12) + (1 : Int32)))).length) (rg_map _) (mW_nd _ _ _ _ _ _) rfl rfl rfl rfl hl.1 rfl (Nat.le_of_ble_eq_true rfl) dX13_operand_318 ⟨Nat.le_of_ble_eq_true rfl, Nat.le_of_ble_eq_true rfl⟩) hP hD hS hA (fun r269 u268 H locs hw267 hP hD hS => ?_)
                obtain ⟨rfl, rfl⟩ := hw267
                have z270 : ((u259.1 0 15) + (1 : Int32)).toInt = ((u259.1 0 15).toInt) + (1 : Int) := add_z rfl (show (1 : Int32).toInt = (1 : Int) by decide) (om_b712bdc5c1 zos q266) (om_54f628431c zos a238 q266)
                have hP : va_P (dC, dI) vwCl (mW ad N cI cZ cJ (wA (wA (wA (wA (wA u259 11 ((u259.1 0 12).toNatClampNeg) (115 : Int32)) 0 12 ((u259.1 0 12) + (1 : Int32))) 13 ((u259.1 0 15).toNatClampNeg) (17 : Int32)) 14 ((u259.1 0 15).toNatClampNeg) (0 : Int32)) 0 15 ((u259.1 0 15) + (1 : Int32)))) H := hP
                have hD : va_D A (mW ad N cI cZ cJ (wA (wA (wA (wA (wA u259 11 ((u259.1 0 12).toNatClampNeg) (115 : Int32)) 0 12 ((u259.1 0 12) + (1 : Int32))) 13 ((u259.1 0 15).toNatClampNeg) (17 : Int32)) 14 ((u259.1 0 15).toNatClampNeg) (0 : Int32)) 0 15 ((u259.1 0 15) + (1 : Int32)))) := hD
                refine tp_i (y := (u259.1 0 15)) (rfl) ?_
                refine W.widen (k := 0) (n := 0) (Nat.le_refl _) (Nat.le_refl _) ?_
                refine lv_pop hx hb dX13_operand_321 rfl ?_
                refine lv_goto (tgt := 386) hx hb dX13_operand_322 (by decide) ?_
                have q271 : (u259.1 0 47).toInt = (((((v.1 0 47).toInt) + (1 : Int)) + (1 : Int)) + (1 : Int)) := by rw [hu260]; exact (show ((((v.1 0 47) + (1 : Int32)) + (1 : Int32)) + (1 : Int32)).toInt = (((((v.1 0 47).toInt) + (1 : Int)) + (1 : Int)) + (1 : Int)) from z250)
                have q272 : (u259.1 0 43).toInt = (v.1 0 43).toInt := congrArg Int32.toInt (fr260.2.1 43 (by decide))
                have q273 : (u259.1 0 39).toInt = (v.1 0 39).toInt := congrArg Int32.toInt (fr260.2.1 39 (by decide))
                have q274 : (u259.1 0 32).toInt = (v.1 0 32).toInt := congrArg Int32.toInt (fr260.2.1 32 (by decide))
                have q275 : (u259.1 0 48).toInt = ((((v.1 0 48).toInt) + (1 : Int)) - (1 : Int)) := by rw [hu260]; exact (show (((v.1 0 48) + (1 : Int32)) - (1 : Int32)).toInt = ((((v.1 0 48).toInt) + (1 : Int)) - (1 : Int)) from z251)
                have q276 : (u259.1 0 33).toInt = (v.1 0 33).toInt := congrArg Int32.toInt (fr260.2.1 33 (by decide))
                refine vx_ret ?_
                exact W.vret hx hb hr (fun t ht9 hW => ⟨⟨(wA (wA (wA (wA (wA u259 11 ((u259.1 0 12).toNatClampNeg) (115 : Int32)) 0 12 ((u259.1 0 12) + (1 : Int32))) 13 ((u259.1 0 15).toNatClampNeg) (17 : Int32)) 14 ((u259.1 0 15).toNatClampNeg) (0 : Int32)) 0 15 ((u259.1 0 15) + (1 : Int32))), rfl, ⟨(FG.f (FG.a (FG.a (FG.f (FG.a (FG.tr (FG.rf _) (FG.up fr260 (by decide) (by decide))) ((u259.1 0 12).toNatClampNeg) (115 : Int32) (by decide) (by decide)) ((u259.1 0 12) + (1 : Int32)) (by decide)) ((u259.1 0 15).toNatClampNeg) (17 : Int32) (by decide) (by decide)) ((u259.1 0 15).toNatClampNeg) (0 : Int32) (by decide) (by decide)) ((u259.1 0 15) + (1 : Int32)) (by decide)), (show (v.1 0 47).toInt + 1 ≤ (u259.1 0 47).toInt ∧ (u259.1 0 47).toInt ≤ 1500 from (om_6570133be4 z245 a247 q271)), (show (v.1 0 49).toInt ≠ (v.1 0 47).toInt from (om_32294a9ce4 b238)), (show (v.1 0 12).toInt ≤ ((u259.1 0 12) + (1 : Int32)).toInt ∧ ((u259.1 0 12) + (1 : Int32)).toInt - 15 * (u259.1 0 47).toInt ≤ (v.1 0 12).toInt - 15 * (v.1 0 47).toInt from (om_4902d2b3ad q261 q271 z265)), (show (v.1 0 15).toInt ≤ ((u259.1 0 15) + (1 : Int32)).toInt ∧ ((u259.1 0 15) + (1 : Int32)).toInt - 10 * (u259.1 0 47).toInt ≤ (v.1 0 15).toInt - 10 * (v.1 0 47).toInt from (om_b8d1f5abe6 q266 q271 z270)), (show (v.1 0 43).toInt ≤ (u259.1 0 43).toInt ∧ (u259.1 0 43).toInt - 15 * (u259.1 0 47).toInt ≤ (v.1 0 43).toInt - 15 * (v.1 0 47).toInt from (om_dd965030e3 q272 q271)), (show (v.1 0 39).toInt ≤ (u259.1 0 39).toInt ∧ (u259.1 0 39).toInt - 1 * (u259.1 0 47).toInt ≤ (v.1 0 39).toInt - 1 * (v.1 0 47).toInt from (om_60c0be4d9c q273 q271)), (show (u259.1 0 32).toInt = (v.1 0 32).toInt ∧ (u259.1 0 48).toInt = (v.1 0 48).toInt from (om_5f0879c10a q274 q275)), (show (v.1 0 33).toInt ≤ (u259.1 0 33).toInt ∧ (u259.1 0 33).toInt ≤ 500 from (om_bc6fc57d17 zhi q276)), (fun (j9 : Nat) hj9 => (Eq.trans (pk_un3 (a := (u259.1 0 12).toInt) rfl (om_87b637de41 zws q261) (om_caf7b1eac4 q261 hj9)) (kc260 j9 hj9))), (fun (j9 : Nat) hj9 => (Eq.trans (pk_un3 (a := (u259.1 0 15).toInt) rfl (om_f5f3e836e2 zos q266) (om_7a9921a7e5 q266 hj9)) (congrFun (fr260.2.2 13 (by decide)) j9))), (fun (j9 : Nat) hj9 => (Eq.trans (pk_un3 (a := (u259.1 0 15).toInt) rfl (om_f5f3e836e2 zos q266) (om_7a9921a7e5 q266 hj9)) (congrFun (fr260.2.2 14 (by decide)) j9))), (AR.o (AR.o (AR.o (AR.o (AR.o (show AR 35 0 1500 u259 from AR.fr (fl := [12, 47, 48]) (al := [0, 11]) fr260 (by decide) a35) (by decide)) (by decide)) (by decide)) (by decide)) (by decide)), (AR.o (AR.o (AR.o (AR.o (AR.o (show AR 37 0 23999 u259 from AR.fr (fl := [12, 47, 48]) (al := [0, 11]) fr260 (by decide) a37) (by decide)) (by decide)) (by decide)) (by decide)) (by decide)), (AR.o (AR.o (AR.o (AR.o (AR.o (show AR 38 0 15999 u259 from AR.fr (fl := [12, 47, 48]) (al := [0, 11]) fr260 (by decide) a38) (by decide)) (by decide)) (by decide)) (by decide)) (by decide)), (AR.o (AR.o (AR.o (AR.o (AR.o (show AR 40 0 23999 u259 from AR.fr (fl := [12, 47, 48]) (al := [0, 11]) fr260 (by decide) a40) (by decide)) (by decide)) (by decide)) (by decide)) (by decide)), (FX.o (FX.o (FX.o (FX.o (FX.o (show FX u259 from FX.fr (fl := [12, 47, 48]) (al := [0, 11]) fr260 (by decide) (by decide) fx) (by decide) (by decide)) (by decide) (by decide)) (by decide) (by decide)) (by decide) (by decide)) (by decide) (by decide))⟩, by rw [ht9]; exact hP, hD⟩, hS.F ht9⟩) hS.2.2 dX13_operand_386
            · have z277 : r204.toInt ≠ (0 : Int) := ne_z rfl (show (0 : Int32).toInt = (0 : Int) by decide) h205
              refine lv_aload_n hx hb dX13_operand_253 rfl (lv_at hl 0 rfl) ?_
              refine cux_v (rx_V (n := 0) (As := []) (rest := []) hx hb hml hown ht hKK hFx hP hD hS hA (c_m_opens l dC dI cI cB cZ cJ cR tb H.size ad N v  (show 0 ≤ (v.1 0 47).toInt ∧ (v.1 0 47).toInt ≤ 1500 from (om_2fb699b811 zt zfs)) (show 0 ≤ (v.1 0 48).toInt ∧ (v.1 0 48).toInt ≤ 40 from (om_7eaf33e007 zop))) tw_38 tw_39 (by decide +kernel) rfl rfl ⟨show 2 + 1 ≤ 40 * n + 9 from om_86eef57ede, show 8 + (1 + 11) + 42 ≤ 28 * (40 * n + 9) from om_750cfefb29⟩ (List.range (mW ad N cI cZ cJ v).length) (rg_map _) (mW_nd _ _ _ _ _ _) rfl rfl rfl rfl hl.1 rfl (Nat.le_of_ble_eq_true rfl) dX13_operand_254 ⟨Nat.le_of_ble_eq_true rfl, Nat.le_of_ble_eq_true rfl⟩) hP hD hS hA (fun u9 ce9 q9 H locs hx9 hP hD hS hc9 hv9 hf9 => ?_) (fun u279 H locs hw278 hP hD hS => ?_)
              · exact vx_out (fun x h9 => (hnt x h9).elim) hlocks hc9 hv9 hf9 (fun t9 ht9 hv8 => ⟨u9, (FG.tr (FG.rf _) hx9), ⟨rfl, by rw [ht9]; exact hP, hD⟩, hS.F ht9⟩) hS.2.2 (Nat.le_refl _) (Nat.le_refl _)
              obtain ⟨rfl, a278, b278, c278⟩ := hw278
              have z281 : ((v.1 0 47) + (1 : Int32)).toInt = ((v.1 0 47).toInt) + (1 : Int) := add_z rfl (show (1 : Int32).toInt = (1 : Int) by decide) (om_3eca9b17a5 zws) (om_27eb55d06c zt)
              have z282 : ((v.1 0 48) + (1 : Int32)).toInt = ((v.1 0 48).toInt) + (1 : Int) := add_z rfl (show (1 : Int32).toInt = (1 : Int) by decide) (om_c2418a9965 zop) (om_defb2a7457 zop)
              have hP : va_P (dC, dI) vwCl (mW ad N cI cZ cJ (wA (wA v 0 47 ((v.1 0 47) + (1 : Int32))) 0 48 ((v.1 0 48) + (1 : Int32)))) H := hP
              have hD : va_D A (mW ad N cI cZ cJ (wA (wA v 0 47 ((v.1 0 47) + (1 : Int32))) 0 48 ((v.1 0 48) + (1 : Int32)))) := hD
              refine W.widen (k := 0) (n := 0) (Nat.le_refl _) (Nat.le_refl _) ?_
              refine lv_aload_n hx hb dX13_operand_257 rfl (lv_at hl 0 rfl) ?_
              obtain ⟨n283, hn284⟩ : ∃ m, n = m + 1 := ex_z (om_78b28660f8 zn b278)
              refine cux_v (rx_V (n := 0) (As := []) (rest := []) hx hb hml hown ht hKK hFx hP hD hS hA (ihE n283 hn284 dC dI cI cB cZ cJ cR tb H.size ad N (wA (wA v 0 47 ((v.1 0 47) + (1 : Int32))) 0 48 ((v.1 0 48) + (1 : Int32)))  (show 40 ≤ ((v.1 0 48) + (1 : Int32)).toInt + (n283 : Int) from (om_43cb5bce6b zn z282 hn284)) (show 0 ≤ ((v.1 0 47) + (1 : Int32)).toInt ∧ ((v.1 0 47) + (1 : Int32)).toInt ≤ 1500 from (om_cae3a623a5 zfs z281 a278)) (show 0 ≤ ((v.1 0 48) + (1 : Int32)).toInt ∧ ((v.1 0 48) + (1 : Int32)).toInt ≤ 40 from (om_4c33377394 zop z282 b278)) (show 0 ≤ (v.1 0 30).toInt ∧ (v.1 0 30).toInt ≤ 500 from (om_9861e69da5 zkn)) (show 0 ≤ (v.1 0 33).toInt ∧ (v.1 0 33).toInt ≤ 500 from (om_9861e69da5 zhi)) (show 0 ≤ (v.1 0 32).toInt ∧ (v.1 0 30).toInt + (v.1 0 32).toInt ≤ (v.1 0 33).toInt from (om_f541e4003c zs)) (show 0 ≤ (v.1 0 12).toInt ∧ (v.1 0 12).toInt ≤ 15 * ((v.1 0 47) + (1 : Int32)).toInt + 2 from (om_3894ab1223 zws z281)) (show 0 ≤ (v.1 0 15).toInt ∧ (v.1 0 15).toInt ≤ 10 * ((v.1 0 47) + (1 : Int32)).toInt + 0 from (om_9a74738aa2 zos z281)) (show 0 ≤ (v.1 0 43).toInt ∧ (v.1 0 43).toInt ≤ 15 * ((v.1 0 47) + (1 : Int32)).toInt + 0 from (om_434df26a0f zfs z281)) (show 0 ≤ (v.1 0 39).toInt ∧ (v.1 0 39).toInt ≤ 1 * ((v.1 0 47) + (1 : Int32)).toInt + 0 from (om_3840c96ead zcs z281)) (show 0 ≤ (v.1 0 27).toInt ∧ (v.1 0 27).toInt ≤ 60 from (om_1d2c7ad648 zgl)) (show TI (wA (wA v 0 47 ((v.1 0 47) + (1 : Int32))) 0 48 ((v.1 0 48) + (1 : Int32))) from FG.ti (fl := pfl) (al := pal) (FG.f (FG.f (FG.rf _) ((v.1 0 47) + (1 : Int32)) (by decide)) ((v.1 0 48) + (1 : Int32)) (by decide)) (by decide) (by decide) hT) (show AR 29 0 1500 (wA (wA v 0 47 ((v.1 0 47) + (1 : Int32))) 0 48 ((v.1 0 48) + (1 : Int32))) from (AR.o (AR.o a29 (by decide)) (by decide))) (show AR 23 0 1500 (wA (wA v 0 47 ((v.1 0 47) + (1 : Int32))) 0 48 ((v.1 0 48) + (1 : Int32))) from (AR.o (AR.o a23 (by decide)) (by decide))) (show AR 35 0 1500 (wA (wA v 0 47 ((v.1 0 47) + (1 : Int32))) 0 48 ((v.1 0 48) + (1 : Int32))) from (AR.o (AR.o a35 (by decide)) (by decide))) (show AR 37 0 23999 (wA (wA v 0 47 ((v.1 0 47) + (1 : Int32))) 0 48 ((v.1 0 48) + (1 : Int32))) from (AR.o (AR.o a37 (by decide)) (by decide))) (show AR 38 0 15999 (wA (wA v 0 47 ((v.1 0 47) + (1 : Int32))) 0 48 ((v.1 0 48) + (1 : Int32))) from (AR.o (AR.o a38 (by decide)) (by decide))) (show AR 40 0 23999 (wA (wA v 0 47 ((v.1 0 47) + (1 : Int32))) 0 48 ((v.1 0 48) + (1 : Int32))) from (AR.o (AR.o a40 (by decide)) (by decide))) (show FX (wA (wA v 0 47 ((v.1 0 47) + (1 : Int32))) 0 48 ((v.1 0 48) + (1 : Int32))) from (FX.o (FX.o fx (by decide) (by decide)) (by decide) (by decide)))) tw_80 tw_81 (by decide +kernel) rfl rfl ⟨show (40 * n283 + 36) + 1 ≤ 40 * n + 9 from (om_4dfbc8dfb8 hn284), show 8 + (1 + 11) + 28 * (40 * n283 + 36) ≤ 28 * (40 * n + 9) from (om_553a1ca9ee hn284)⟩ (List.range (mW ad N cI cZ cJ (wA (wA v 0 47 ((v.1 0 47) + (1 : Int32))) 0 48 ((v.1 0 48) + (1 : Int32)))).length) (rg_map _) (mW_nd _ _ _ _ _ _) rfl rfl rfl rfl hl.1 rfl (Nat.le_of_ble_eq_true rfl) dX13_operand_258 ⟨Nat.le_of_ble_eq_true rfl, Nat.le_of_ble_eq_true rfl⟩) hP hD hS hA (fun u9 ce9 q9 H locs hx9 hP hD hS hc9 hv9 hf9 => ?_) (fun u286 H locs hw285 hP hD hS => ?_)
              · exact vx_out (fun x h9 => (hnt x h9).elim) hlocks hc9 hv9 hf9 (fun t9 ht9 hv8 => ⟨u9, (FG.tr (FG.f (FG.f (FG.rf _) ((v.1 0 47) + (1 : Int32)) (by decide)) ((v.1 0 48) + (1 : Int32)) (by decide)) hx9), ⟨rfl, by rw [ht9]; exact hP, hD⟩, hS.F ht9⟩) hS.2.2 (Nat.le_refl _) (Nat.le_refl _)
              obtain ⟨fr285, pt285, pb285, pw285, po285, pf285, pk285, pp285, ph285, kc285, ko285, kg285, a35285, a37285, a38285, a40285, fx285⟩ := hw285
              have pt285 : ((v.1 0 47) + (1 : Int32)).toInt + 1 ≤ (u286.1 0 47).toInt ∧ (u286.1 0 47).toInt ≤ 1500 := pt285
              have pb285 : (v.1 0 49).toInt ≠ ((v.1 0 47) + (1 : Int32)).toInt := pb285
              have pw285 : (v.1 0 12).toInt ≤ (u286.1 0 12).toInt ∧ (u286.1 0 12).toInt - 15 * (u286.1 0 47).toInt ≤ (v.1 0 12).toInt - 15 * ((v.1 0 47) + (1 : Int32)).toInt := pw285
              have po285 : (v.1 0 15).toInt ≤ (u286.1 0 15).toInt ∧ (u286.1 0 15).toInt - 10 * (u286.1 0 47).toInt ≤ (v.1 0 15).toInt - 10 * ((v.1 0 47) + (1 : Int32)).toInt := po285
              have pf285 : (v.1 0 43).toInt ≤ (u286.1 0 43).toInt ∧ (u286.1 0 43).toInt - 15 * (u286.1 0 47).toInt ≤ (v.1 0 43).toInt - 15 * ((v.1 0 47) + (1 : Int32)).toInt := pf285
              have pk285 : (v.1 0 39).toInt ≤ (u286.1 0 39).toInt ∧ (u286.1 0 39).toInt - 1 * (u286.1 0 47).toInt ≤ (v.1 0 39).toInt - 1 * ((v.1 0 47) + (1 : Int32)).toInt := pk285
              have pp285 : (u286.1 0 32).toInt = (v.1 0 32).toInt ∧ (u286.1 0 48).toInt = ((v.1 0 48) + (1 : Int32)).toInt := pp285
              have ph285 : (v.1 0 33).toInt ≤ (u286.1 0 33).toInt ∧ (u286.1 0 33).toInt ≤ 500 := ph285
              have kc285 : ∀ j : Nat, (j : Int) < (v.1 0 12).toInt → (u286.1 11) j = (v.1 11) j := kc285
              have ko285 : ∀ j : Nat, (j : Int) < (v.1 0 15).toInt → (u286.1 13) j = (v.1 13) j := ko285
              have kg285 : ∀ j : Nat, (j : Int) < (v.1 0 15).toInt → (u286.1 14) j = (v.1 14) j := kg285
              have a35285 : AR 35 0 1500 u286 := a35285
              have a37285 : AR 37 0 23999 u286 := a37285
              have a38285 : AR 38 0 15999 u286 := a38285
              have a40285 : AR 40 0 23999 u286 := a40285
              have fx285 : FX u286 := fx285
              refine W.widen (k := 0) (n := 0) (Nat.le_refl _) (Nat.le_refl _) ?_
              refine lv_aload_n hx hb dX13_operand_261 rfl (lv_at hl 0 rfl) ?_
              refine lv_bipush (v := 41) hx hb dX13_operand_262 (by decide) ?_
              refine cux_v (rx_V (n := 1) (As := [.int 41]) (rest := []) hx hb hml hown ht hKK hFx hP hD hS hA (c_m_close l dC dI cI cB cZ cJ cR tb H.size ad N u286 (41 : Int32) (show 0 ≤ (u286.1 0 47).toInt ∧ (u286.1 0 47).toInt ≤ 1500 from (om_f8d5b5379a zfs z281 pt285 pw285)) (show 0 ≤ (u286.1 0 48).toInt ∧ (u286.1 0 48).toInt ≤ 40 from (om_53f619227e zop z282 b278 pp285))) tw_82 tw_83 (by decide +kernel) rfl rfl ⟨show 3 + 1 ≤ 40 * n + 9 from om_6d05018a6e, show 8 + (2 + 11) + 64 ≤ 28 * (40 * n + 9) from om_fd9c2c6c65⟩ (List.range (mW ad N cI cZ cJ u286).length) (rg_map _) (mW_nd _ _ _ _ _ _) rfl rfl rfl rfl hl.1 rfl (Nat.le_of_ble_eq_true rfl) dX13_operand_264 ⟨Nat.le_of_ble_eq_true rfl, Nat.le_of_ble_eq_true rfl⟩) hP hD hS hA (fun u9 ce9 q9 H locs hx9 hP hD hS hc9 hv9 hf9 => ?_) (fun u289 H locs hw288 hP hD hS => ?_)
              · exact vx_out (fun x h9 => (hnt x h9).elim) hlocks hc9 hv9 hf9 (fun t9 ht9 hv8 => ⟨u9, (FG.tr (FG.tr (FG.f (FG.f (FG.rf _) ((v.1 0 47) + (1 : Int32)) (by decide)) ((v.1 0 48) + (1 : Int32)) (by decide)) (FG.up fr285 (by decide) (by decide))) hx9), ⟨rfl, by rw [ht9]; exact hP, hD⟩, hS.F ht9⟩) hS.2.2 (Nat.le_refl _) (Nat.le_refl _)
              obtain ⟨rfl, a288, c288⟩ := hw288
              have z291 : ((u286.1 0 47) + (1 : Int32)).toInt = ((u286.1 0 47).toInt) + (1 : Int) := add_z rfl (show (1 : Int32).toInt = (1 : Int) by decide) (om_5ca5acb3cb zws z281 pw285) (om_3c2140d515 pt285)
              have z292 : ((u286.1 0 48) - (1 : Int32)).toInt = ((u286.1 0 48).toInt) - (1 : Int) := sub_z rfl (show (1 : Int32).toInt = (1 : Int) by decide) (om_32962d0667 zop z282 pp285) (om_d0370bb848 z282 b278 pp285)
              have hP : va_P (dC, dI) vwCl (mW ad N cI cZ cJ (wA (wA u286 0 47 ((u286.1 0 47) + (1 : Int32))) 0 48 ((u286.1 0 48) - (1 : Int32)))) H := hP
              have hD : va_D A (mW ad N cI cZ cJ (wA (wA u286 0 47 ((u286.1 0 47) + (1 : Int32))) 0 48 ((u286.1 0 48) - (1 : Int32)))) := hD
              have a288 : (u286.1 0 47).toInt < 1500 := a288
              have c288 : (u286.1 0 49).toInt ≠ (u286.1 0 47).toInt := c288
              refine W.widen (k := 0) (n := 0) (Nat.le_refl _) (Nat.le_refl _) ?_
              refine lv_goto (tgt := 386) hx hb dX13_operand_267 (by decide) ?_
              refine vx_ret ?_
              exact W.vret hx hb hr (fun t ht9 hW => ⟨⟨(wA (wA u286 0 47 ((u286.1 0 47) + (1 : Int32))) 0 48 ((u286.1 0 48) - (1 : Int32))), rfl, ⟨(FG.f (FG.f (FG.tr (FG.f (FG.f (FG.rf _) ((v.1 0 47) + (1 : Int32)) (by decide)) ((v.1 0 48) + (1 : Int32)) (by decide)) (FG.up fr285 (by decide) (by decide))) ((u286.1 0 47) + (1 : Int32)) (by decide)) ((u286.1 0 48) - (1 : Int32)) (by decide)), (show (v.1 0 47).toInt + 1 ≤ ((u286.1 0 47) + (1 : Int32)).toInt ∧ ((u286.1 0 47) + (1 : Int32)).toInt ≤ 1500 from (om_05d8e7cb47 z281 pt285 z291 a288)), (show (v.1 0 49).toInt ≠ (v.1 0 47).toInt from (om_32294a9ce4 c278)), (show (v.1 0 12).toInt ≤ (u286.1 0 12).toInt ∧ (u286.1 0 12).toInt - 15 * ((u286.1 0 47) + (1 : Int32)).toInt ≤ (v.1 0 12).toInt - 15 * (v.1 0 47).toInt from (om_dbf5486fb7 z281 pw285 z291)), (show (v.1 0 15).toInt ≤ (u286.1 0 15).toInt ∧ (u286.1 0 15).toInt - 10 * ((u286.1 0 47) + (1 : Int32)).toInt ≤ (v.1 0 15).toInt - 10 * (v.1 0 47).toInt from (om_1011bbd17d z281 po285 z291)), (show (v.1 0 43).toInt ≤ (u286.1 0 43).toInt ∧ (u286.1 0 43).toInt - 15 * ((u286.1 0 47) + (1 : Int32)).toInt ≤ (v.1 0 43).toInt - 15 * (v.1 0 47).toInt from (om_dbf5486fb7 z281 pf285 z291)), (show (v.1 0 39).toInt ≤ (u286.1 0 39).toInt ∧ (u286.1 0 39).toInt - 1 * ((u286.1 0 47) + (1 : Int32)).toInt ≤ (v.1 0 39).toInt - 1 * (v.1 0 47).toInt from (om_5332a23ecb z281 pk285 z291)), (show (u286.1 0 32).toInt = (v.1 0 32).toInt ∧ ((u286.1 0 48) - (1 : Int32)).toInt = (v.1 0 48).toInt from (om_4a47b03b7f z282 pp285 z292)), (show (v.1 0 33).toInt ≤ (u286.1 0 33).toInt ∧ (u286.1 0 33).toInt ≤ 500 from (om_6bc0cea141 ph285)), (fun (j9 : Nat) hj9 => (kc285 j9 (om_4fe904e9bf hj9))), (fun (j9 : Nat) hj9 => (ko285 j9 (om_4fe904e9bf hj9))), (fun (j9 : Nat) hj9 => (kg285 j9 (om_4fe904e9bf hj9))), (AR.o (AR.o a35285 (by decide)) (by decide)), (AR.o (AR.o a37285 (by decide)) (by decide)), (AR.o (AR.o a38285 (by decide)) (by decide)), (AR.o (AR.o a40285 (by decide)) (by decide)), (FX.o (FX.o fx285 (by decide) (by decide)) (by decide) (by decide))⟩, by rw [ht9]; exact hP, hD⟩, hS.F ht9⟩) hS.2.2 dX13_operand_386
          · have z293 : r199.toInt ≠ (0 : Int) := ne_z rfl (show (0 : Int32).toInt = (0 : Int) by decide) h200
            refine lv_aload_n hx hb dX13_operand_126 rfl (lv_at hl 0 rfl) ?_
            refine va_get (D := (dC, dI)) (ci := 16) (fs := mF ad v) (v := .ref (ad 9)) (C := RX13) (T := TX13) (N := 124) hx hb ht itX13 hown hK hP 0 rfl rfl 9 (by decide) (ht _ tw_27) (fun _ h9 => h9) rfl dX13_operand_127 ?_
            refine lv_aload_n hx hb dX13_operand_130 rfl (lv_at hl 0 rfl) ?_
            refine va_get (D := (dC, dI)) (ci := 16) (fs := mF ad v) (v := .int (v.1 0 47)) (C := RX13) (T := TX13) (N := 124) hx hb ht itX13 hown hK hP 0 rfl rfl 47 (by decide) (ht _ tw_24) (fun _ h9 => h9) rfl dX13_operand_131 ?_
            refine va_lald (D := (dC, dI)) (f := v.2) hx hb hK hP 6 3 rfl rfl (in_y (a := (v.1 0 47).toInt) (b := 4002) rfl (om_e33521859d zfs) (om_449eb7e9bb zt) rfl) dX13_operand_134 ?_
            refine lv_l2i hx hb dX13_operand_135 rfl ?_
            refine lv_istore_n (lv' := [(1, .int ((v.2 (v.1 0 47).toNatClampNeg).toInt32)), (0, .ref (ad 0))]) hx hb dX13_operand_136 rfl hl (by decide) rfl (fun ls hl => ?_)
            refine lv_aload_n hx hb dX13_operand_137 rfl (lv_at hl 1 rfl) ?_
            refine cux_v (rx_V (n := 0) (As := []) (rest := []) hx hb hml hown ht hKK hFx hP hD hS hA (c_m_opens l dC dI cI cB cZ cJ cR tb H.size ad N v  (show 0 ≤ (v.1 0 47).toInt ∧ (v.1 0 47).toInt ≤ 1500 from (om_2fb699b811 zt zfs)) (show 0 ≤ (v.1 0 48).toInt ∧ (v.1 0 48).toInt ≤ 40 from (om_7eaf33e007 zop))) tw_38 tw_39 (by decide +kernel) rfl rfl ⟨show 2 + 1 ≤ 40 * n + 9 from om_86eef57ede, show 8 + (1 + 11) + 42 ≤ 28 * (40 * n + 9) from om_750cfefb29⟩ (List.range (mW ad N cI cZ cJ v).length) (rg_map _) (mW_nd _ _ _ _ _ _) rfl rfl rfl rfl hl.1 rfl (Nat.le_of_ble_eq_true rfl) dX13_operand_138 ⟨Nat.le_of_ble_eq_true rfl, Nat.le_of_ble_eq_true rfl⟩) hP hD hS hA (fun u9 ce9 q9 H locs hx9 hP hD hS hc9 hv9 hf9 => ?_) (fun u295 H locs hw294 hP hD hS => ?_)
            · exact vx_out (fun x h9 => (hnt x h9).elim) hlocks hc9 hv9 hf9 (fun t9 ht9 hv8 => ⟨u9, (FG.tr (FG.rf _) hx9), ⟨rfl, by rw [ht9]; exact hP, hD⟩, hS.F ht9⟩) hS.2.2 (Nat.le_refl _) (Nat.le_refl _)
            obtain ⟨rfl, a294, b294, c294⟩ := hw294
            have z297 : ((v.1 0 47) + (1 : Int32)).toInt = ((v.1 0 47).toInt) + (1 : Int) := add_z rfl (show (1 : Int32).toInt = (1 : Int) by decide) (om_3eca9b17a5 zws) (om_27eb55d06c zt)
            have z298 : ((v.1 0 48) + (1 : Int32)).toInt = ((v.1 0 48).toInt) + (1 : Int) := add_z rfl (show (1 : Int32).toInt = (1 : Int) by decide) (om_c2418a9965 zop) (om_defb2a7457 zop)
            have hP : va_P (dC, dI) vwCl (mW ad N cI cZ cJ (wA (wA v 0 47 ((v.1 0 47) + (1 : Int32))) 0 48 ((v.1 0 48) + (1 : Int32)))) H := hP
            have hD : va_D A (mW ad N cI cZ cJ (wA (wA v 0 47 ((v.1 0 47) + (1 : Int32))) 0 48 ((v.1 0 48) + (1 : Int32)))) := hD
            refine W.widen (k := 0) (n := 0) (Nat.le_refl _) (Nat.le_refl _) ?_
            refine lv_aload_n hx hb dX13_operand_141 rfl (lv_at hl 1 rfl) ?_
            obtain ⟨n299, hn300⟩ : ∃ m, n = m + 1 := ex_z (om_78b28660f8 zn b294)
            refine cux_v (rx_V (n := 0) (As := []) (rest := []) hx hb hml hown ht hKK hFx hP hD hS hA (ihO n299 hn300 dC dI cI cB cZ cJ cR tb H.size ad N (wA (wA v 0 47 ((v.1 0 47) + (1 : Int32))) 0 48 ((v.1 0 48) + (1 : Int32)))  (show 40 ≤ ((v.1 0 48) + (1 : Int32)).toInt + (n299 : Int) from (om_43cb5bce6b zn z298 hn300)) (show 0 ≤ ((v.1 0 47) + (1 : Int32)).toInt ∧ ((v.1 0 47) + (1 : Int32)).toInt ≤ 1500 from (om_cae3a623a5 zfs z297 a294)) (show 0 ≤ ((v.1 0 48) + (1 : Int32)).toInt ∧ ((v.1 0 48) + (1 : Int32)).toInt ≤ 40 from (om_4c33377394 zop z298 b294)) (show 0 ≤ (v.1 0 30).toInt ∧ (v.1 0 30).toInt ≤ 500 from (om_9861e69da5 zkn)) (show 0 ≤ (v.1 0 33).toInt ∧ (v.1 0 33).toInt ≤ 500 from (om_9861e69da5 zhi)) (show 0 ≤ (v.1 0 32).toInt ∧ (v.1 0 30).toInt + (v.1 0 32).toInt ≤ (v.1 0 33).toInt from (om_f541e4003c zs)) (show 0 ≤ (v.1 0 12).toInt ∧ (v.1 0 12).toInt ≤ 15 * ((v.1 0 47) + (1 : Int32)).toInt + 2 from (om_3894ab1223 zws z297)) (show 0 ≤ (v.1 0 15).toInt ∧ (v.1 0 15).toInt ≤ 10 * ((v.1 0 47) + (1 : Int32)).toInt + 0 from (om_9a74738aa2 zos z297)) (show 0 ≤ (v.1 0 43).toInt ∧ (v.1 0 43).toInt ≤ 15 * ((v.1 0 47) + (1 : Int32)).toInt + 0 from (om_434df26a0f zfs z297)) (show 0 ≤ (v.1 0 39).toInt ∧ (v.1 0 39).toInt ≤ 1 * ((v.1 0 47) + (1 : Int32)).toInt + 0 from (om_3840c96ead zcs z297)) (show 0 ≤ (v.1 0 27).toInt ∧ (v.1 0 27).toInt ≤ 60 from (om_1d2c7ad648 zgl)) (show TI (wA (wA v 0 47 ((v.1 0 47) + (1 : Int32))) 0 48 ((v.1 0 48) + (1 : Int32))) from FG.ti (fl := pfl) (al := pal) (FG.f (FG.f (FG.rf _) ((v.1 0 47) + (1 : Int32)) (by decide)) ((v.1 0 48) + (1 : Int32)) (by decide)) (by decide) (by decide) hT) (show AR 29 0 1500 (wA (wA v 0 47 ((v.1 0 47) + (1 : Int32))) 0 48 ((v.1 0 48) + (1 : Int32))) from (AR.o (AR.o a29 (by decide)) (by decide))) (show AR 23 0 1500 (wA (wA v 0 47 ((v.1 0 47) + (1 : Int32))) 0 48 ((v.1 0 48) + (1 : Int32))) from (AR.o (AR.o a23 (by decide)) (by decide))) (show AR 35 0 1500 (wA (wA v 0 47 ((v.1 0 47) + (1 : Int32))) 0 48 ((v.1 0 48) + (1 : Int32))) from (AR.o (AR.o a35 (by decide)) (by decide))) (show AR 37 0 23999 (wA (wA v 0 47 ((v.1 0 47) + (1 : Int32))) 0 48 ((v.1 0 48) + (1 : Int32))) from (AR.o (AR.o a37 (by decide)) (by decide))) (show AR 38 0 15999 (wA (wA v 0 47 ((v.1 0 47) + (1 : Int32))) 0 48 ((v.1 0 48) + (1 : Int32))) from (AR.o (AR.o a38 (by decide)) (by decide))) (show AR 40 0 23999 (wA (wA v 0 47 ((v.1 0 47) + (1 : Int32))) 0 48 ((v.1 0 48) + (1 : Int32))) from (AR.o (AR.o a40 (by decide)) (by decide))) (show FX (wA (wA v 0 47 ((v.1 0 47) + (1 : Int32))) 0 48 ((v.1 0 48) + (1 : Int32))) from (FX.o (FX.o fx (by decide) (by decide)) (by decide) (by decide)))) tw_114 tw_115 (by decide +kernel) rfl rfl ⟨show (40 * n299 + 9) + 1 ≤ 40 * n + 9 from (om_d13994734d hn300), show 8 + (2 + 11) + 28 * (40 * n299 + 9) ≤ 28 * (40 * n + 9) from (om_7349e8fe6d hn300)⟩ (List.range (mW ad N cI cZ cJ (wA (wA v 0 47 ((v.1 0 47) + (1 : Int32))) 0 48 ((v.1 0 48) + (1 : Int32)))).length) (rg_map _) (mW_nd _ _ _ _ _ _) rfl rfl rfl rfl hl.1 rfl (Nat.le_of_ble_eq_true rfl) dX13_operand_142 ⟨Nat.le_of_ble_eq_true rfl, Nat.le_of_ble_eq_true rfl⟩) hP hD hS hA (fun u9 ce9 q9 H locs hx9 hP hD hS hc9 hv9 hf9 => ?_) (fun u302 H locs hw301 hP hD hS => ?_)
            · exact vx_out (fun x h9 => (hnt x h9).elim) hlocks hc9 hv9 hf9 (fun t9 ht9 hv8 => ⟨u9, (FG.tr (FG.f (FG.f (FG.rf _) ((v.1 0 47) + (1 : Int32)) (by decide)) ((v.1 0 48) + (1 : Int32)) (by decide)) hx9), ⟨rfl, by rw [ht9]; exact hP, hD⟩, hS.F ht9⟩) hS.2.2 (Nat.le_refl _) (Nat.le_refl _)
            obtain ⟨fr301, pt301, pb301, pw301, po301, pf301, pk301, pp301, ph301, kc301, ko301, kg301, a35301, a37301, a38301, a40301, fx301⟩ := hw301
            have pt301 : ((v.1 0 47) + (1 : Int32)).toInt + 1 ≤ (u302.1 0 47).toInt ∧ (u302.1 0 47).toInt ≤ 1500 := pt301
            have pb301 : (v.1 0 49).toInt ≠ ((v.1 0 47) + (1 : Int32)).toInt := pb301
            have pw301 : (v.1 0 12).toInt ≤ (u302.1 0 12).toInt ∧ (u302.1 0 12).toInt - 15 * (u302.1 0 47).toInt ≤ (v.1 0 12).toInt - 15 * ((v.1 0 47) + (1 : Int32)).toInt := pw301
            have po301 : (v.1 0 15).toInt ≤ (u302.1 0 15).toInt ∧ (u302.1 0 15).toInt - 10 * (u302.1 0 47).toInt ≤ (v.1 0 15).toInt - 10 * ((v.1 0 47) + (1 : Int32)).toInt := po301
            have pf301 : (v.1 0 43).toInt ≤ (u302.1 0 43).toInt ∧ (u302.1 0 43).toInt - 15 * (u302.1 0 47).toInt ≤ (v.1 0 43).toInt - 15 * ((v.1 0 47) + (1 : Int32)).toInt := pf301
            have pk301 : (v.1 0 39).toInt ≤ (u302.1 0 39).toInt ∧ (u302.1 0 39).toInt - 1 * (u302.1 0 47).toInt ≤ (v.1 0 39).toInt - 1 * ((v.1 0 47) + (1 : Int32)).toInt := pk301
            have pp301 : (u302.1 0 32).toInt = (v.1 0 32).toInt ∧ (u302.1 0 48).toInt = ((v.1 0 48) + (1 : Int32)).toInt := pp301
            have ph301 : (v.1 0 33).toInt ≤ (u302.1 0 33).toInt ∧ (u302.1 0 33).toInt ≤ 500 := ph301
            have kc301 : ∀ j : Nat, (j : Int) < (v.1 0 12).toInt → (u302.1 11) j = (v.1 11) j := kc301
            have ko301 : ∀ j : Nat, (j : Int) < (v.1 0 15).toInt → (u302.1 13) j = (v.1 13) j := ko301
            have kg301 : ∀ j : Nat, (j : Int) < (v.1 0 15).toInt → (u302.1 14) j = (v.1 14) j := kg301
            have a35301 : AR 35 0 1500 u302 := a35301
            have a37301 : AR 37 0 23999 u302 := a37301
            have a38301 : AR 38 0 15999 u302 := a38301
            have a40301 : AR 40 0 23999 u302 := a40301
            have fx301 : FX u302 := fx301
            refine W.widen (k := 0) (n := 0) (Nat.le_refl _) (Nat.le_refl _) ?_
            refine lv_aload_n hx hb dX13_operand_145 rfl (lv_at hl 1 rfl) ?_
            refine lv_dup hx hb dX13_operand_146 rfl ?_
            refine va_get (D := (dC, dI)) (ci := 16) (fs := mF ad u302) (v := .int (u302.1 0 48)) (C := RX13) (T := TX13) (N := 124) hx hb ht itX13 hown hK hP 0 rfl rfl 48 (by decide) (ht _ tw_31) (fun _ h9 => h9) rfl dX13_operand_147 ?_
            refine lv_iconst (v := 1) hx hb dX13_operand_150 (by decide) ?_
            refine lv_isub hx hb dX13_operand_151 ?_
            have z304 : ((u302.1 0 48) - (1 : Int32)).toInt = ((u302.1 0 48).toInt) - (1 : Int) := sub_z rfl (show (1 : Int32).toInt = (1 : Int) by decide) (om_32962d0667 zop z298 pp301) (om_d0370bb848 z298 b294 pp301)
            refine va_put (D := (dC, dI)) (ci := 16) (fs := mF ad u302) (v := .int ((u302.1 0 48) - (1 : Int32))) (ty := .int) (C := RX13) (T := TX13) (N := 124) hx hb ht itX13 tyX13 tyX13_ok nmX13 hown hK hP hD hS 0 rfl rfl 48 (by decide) (ht _ tw_31) (fun _ h9 => h9) rfl (by decide +kernel) rfl rfl (Nat.le_of_ble_eq_true rfl) dX13_operand_152 (fun H locs hP hD hS => ?_)
            have hP := cP_ (mw_48 ad N cI cZ cJ u302 ((u302.1 0 48) - (1 : Int32))) hP
            have hD := cD_ (mw_48 ad N cI cZ cJ u302 ((u302.1 0 48) - (1 : Int32))) hD
            refine lv_aload_n hx hb dX13_operand_155 rfl (lv_at hl 1 rfl) ?_
            refine lv_iload_n hx hb dX13_operand_156 rfl (lv_at hl 0 rfl) ?_
            refine lv_bipush (v := 45) hx hb dX13_operand_157 (by decide) ?_
            refine lv_icmp_ne (tgt := 176) hx hb dX13_operand_159 (by decide) (fun h305 => ?_) (fun h305 => ?_)
            · have z306 : ((v.2 (v.1 0 47).toNatClampNeg).toInt32).toInt ≠ (45 : Int) := ne_z rfl (show (45 : Int32).toInt = (45 : Int) by decide) h305
              refine lv_iload_n hx hb dX13_operand_176 rfl (lv_at hl 0 rfl) ?_
              refine lv_bipush (v := 33) hx hb dX13_operand_177 (by decide) ?_
              refine lv_icmp_ne (tgt := 196) hx hb dX13_operand_179 (by decide) (fun h307 => ?_) (fun h307 => ?_)
              · have z308 : ((v.2 (v.1 0 47).toNatClampNeg).toInt32).toInt ≠ (33 : Int) := ne_z rfl (show (33 : Int32).toInt = (33 : Int) by decide) h307
                refine lv_bipush (v := 19) hx hb dX13_operand_196 (by decide) ?_
                refine lv_iconst (v := 4) hx hb dX13_operand_198 (by decide) ?_
                refine lv_bipush (v := 10) hx hb dX13_operand_199 (by decide) ?_
                refine lv_bipush (v := 10) hx hb dX13_operand_201 (by decide) ?_
                refine lv_iconst (v := -1) hx hb dX13_operand_203 (by decide) ?_
                refine cu_s (mW_nd _ _ _ _ _ _) (rn_S (n := 5) (As := [.int 19, .int 4, .int 10, .int 10, .int (-1)]) (rest := [.ref (ad 0)]) hx hb hml hown ht hKK hFx hP hD hS hA (c_m_byI l dC dI cI cB cZ cJ cR tb H.size (19 : Int32) (4 : Int32) (10 : Int32) (10 : Int32) (-1 : Int32) ) tw_2 tw_3 (by decide +kernel) rfl rfl ⟨show 0 + 1 ≤ 40 * n + 9 from om_fd17f2e70e, show 8 + (5 + 11) + 0 ≤ 28 * (40 * n + 9) from om_4dd6cddcce⟩ [] rfl rfl rfl hl.1 rfl (Nat.le_of_ble_eq_true rfl) dX13_operand_204 ⟨Nat.le_of_ble_eq_true rfl, Nat.le_of_ble_eq_true rfl⟩) hP hD hS hA (fun r311 H locs hw309 hP hD hS => ?_)
                refine W.widen (k := 0) (n := 0) (Nat.le_refl _) (Nat.le_refl _) ?_
                refine cu_i (rn_V (n := 1) (As := [.int r311]) (rest := []) hx hb hml hown ht hKK hFx hP hD hS hA (c_m_emit l dC dI cI cB cZ cJ cR tb H.size ad N (wA u302 0 48 ((u302.1 0 48) - (1 : Int32))) r311 (show 0 ≤ (u302.1 0 12).toInt ∧ (u302.1 0 12).toInt < 24000 from (om_6ad570a484 zws z297 pt301 pw301))) tw_8 tw_9 (by decide +kernel) rfl rfl ⟨show 0 + 1 ≤ 40 * n + 9 from om_fd17f2e70e, show 8 + (2 + 11) + 0 ≤ 28 * (40 * n + 9) from om_4229287154⟩ (List.range (mW ad N cI cZ cJ (wA u302 0 48 ((u302.1 0 48) - (1 : Int32)))).length) (rg_map _) (mW_nd _ _ _ _ _ _) rfl rfl rfl rfl hl.1 rfl (Nat.le_of_ble_eq_true rfl) dX13_operand_207 ⟨Nat.le_of_ble_eq_true rfl, Nat.le_of_ble_eq_true rfl⟩) hP hD hS hA (fun r314 u313 H locs hw312 hP hD hS => ?_)
                obtain ⟨rfl, rfl⟩ := hw312
                have z315 : ((u302.1 0 12) + (1 : Int32)).toInt = ((u302.1 0 12).toInt) + (1 : Int) := add_z rfl (show (1 : Int32).toInt = (1 : Int) by decide) (om_6ad47c49ef zws pw301) (om_99b5e8925f zws z297 pt301 pw301)
                have hP : va_P (dC, dI) vwCl (mW ad N cI cZ cJ (wA (wA (wA u302 0 48 ((u302.1 0 48) - (1 : Int32))) 11 ((u302.1 0 12).toNatClampNeg) r311) 0 12 ((u302.1 0 12) + (1 : Int32)))) H := hP
                have hD : va_D A (mW ad N cI cZ cJ (wA (wA (wA u302 0 48 ((u302.1 0 48) - (1 : Int32))) 11 ((u302.1 0 12).toNatClampNeg) r311) 0 12 ((u302.1 0 12) + (1 : Int32)))) := hD
                refine tp_i (y := (u302.1 0 12)) (rfl) ?_
                refine W.widen (k := 0) (n := 0) (Nat.le_refl _) (Nat.le_refl _) ?_
                refine lv_pop hx hb dX13_operand_210 rfl ?_
                refine lv_aload_n hx hb dX13_operand_211 rfl (lv_at hl 1 rfl) ?_
                refine lv_iload_n hx hb dX13_operand_212 rfl (lv_at hl 0 rfl) ?_
                refine lv_bipush (v := 45) hx hb dX13_operand_213 (by decide) ?_
                refine lv_icmp_ne (tgt := 223) hx hb dX13_operand_215 (by decide) (fun h316 => ?_) (fun h316 => ?_)
                · have z317 : ((v.2 (v.1 0 47).toNatClampNeg).toInt32).toInt ≠ (45 : Int) := ne_z rfl (show (45 : Int32).toInt = (45 : Int) by decide) h316
                  refine lv_iload_n hx hb dX13_operand_223 rfl (lv_at hl 0 rfl) ?_
                  refine lv_bipush (v := 33) hx hb dX13_operand_224 (by decide) ?_
                  refine lv_icmp_ne (tgt := 234) hx hb dX13_operand_226 (by decide) (fun h318 => ?_) (fun h318 => ?_)
                  · have z319 : ((v.2 (v.1 0 47).toNatClampNeg).toInt32).toInt ≠ (33 : Int) := ne_z rfl (show (33 : Int32).toInt = (33 : Int) by decide) h318
                    refine lv_bipush (v := 20) hx hb dX13_operand_234 (by decide) ?_
                    refine lv_iconst (v := 0) hx hb dX13_operand_236 (by decide) ?_
                    refine cu_i (rn_V (n := 2) (As := [.int 20, .int 0]) (rest := []) hx hb hml hown ht hKK hFx hP hD hS hA (c_m_say l dC dI cI cB cZ cJ cR tb H.size ad N (wA (wA (wA u302 0 48 ((u302.1 0 48) - (1 : Int32))) 11 ((u302.1 0 12).toNatClampNeg) r311) 0 12 ((u302.1 0 12) + (1 : Int32))) (20 : Int32) (0 : Int32) (show 0 ≤ (u302.1 0 15).toInt ∧ (u302.1 0 15).toInt < 16000 from (om_ab4ad5e078 zos z297 pt301 po301))) tw_59 tw_60 (by decide +kernel) rfl rfl ⟨show 0 + 1 ≤ 40 * n + 9 from om_fd17f2e70e, show 8 + (3 + 11) + 0 ≤ 28 * (40 * n + 9) from om_e79917e237⟩ (List.range (mW ad N cI cZ cJ (wA (wA (wA u302 0 48 ((u302.1 0 48) - (1 : Int32))) 11 ((u302.1 0 12).toNatClampNeg) r311) 0 12 ((u302.1 0 12) + (1 : Int32)))).length) (rg_map _) (mW_nd _ _ _ _ _ _) rfl rfl rfl rfl hl.1 rfl (Nat.le_of_ble_eq_true rfl) dX13_operand_237 ⟨Nat.le_of_ble_eq_true rfl, Nat.le_of_ble_eq_true rfl⟩) hP hD hS hA (fun r322 u321 H locs hw320 hP hD hS => ?_)
                    obtain ⟨rfl, rfl⟩ := hw320
                    have z323 : ((u302.1 0 15) + (1 : Int32)).toInt = ((u302.1 0 15).toInt) + (1 : Int) := add_z rfl (show (1 : Int32).toInt = (1 : Int) by decide) (om_436cd0d872 zos po301) (om_4b3fea160f zos z297 pt301 po301)
                    have hP : va_P (dC, dI) vwCl (mW ad N cI cZ cJ (wA (wA (wA (wA (wA (wA u302 0 48 ((u302.1 0 48) - (1 : Int32))) 11 ((u302.1 0 12).toNatClampNeg) r311) 0 12 ((u302.1 0 12) + (1 : Int32))) 13 ((u302.1 0 15).toNatClampNeg) (20 : Int32)) 14 ((u302.1 0 15).toNatClampNeg) (0 : Int32)) 0 15 ((u302.1 0 15) + (1 : Int32)))) H := hP
                    have hD : va_D A (mW ad N cI cZ cJ (wA (wA (wA (wA (wA (wA u302 0 48 ((u302.1 0 48) - (1 : Int32))) 11 ((u302.1 0 12).toNatClampNeg) r311) 0 12 ((u302.1 0 12) + (1 : Int32))) 13 ((u302.1 0 15).toNatClampNeg) (20 : Int32)) 14 ((u302.1 0 15).toNatClampNeg) (0 : Int32)) 0 15 ((u302.1 0 15) + (1 : Int32)))) := hD
                    refine tp_i (y := (u302.1 0 15)) (rfl) ?_
                    refine W.widen (k := 0) (n := 0) (Nat.le_refl _) (Nat.le_refl _) ?_
                    refine lv_pop hx hb dX13_operand_240 rfl ?_
                    refine lv_goto (tgt := 386) hx hb dX13_operand_241 (by decide) ?_
                    refine vx_ret ?_
                    exact W.vret hx hb hr (fun t ht9 hW => ⟨⟨(wA (wA (wA (wA (wA (wA u302 0 48 ((u302.1 0 48) - (1 : Int32))) 11 ((u302.1 0 12).toNatClampNeg) r311) 0 12 ((u302.1 0 12) + (1 : Int32))) 13 ((u302.1 0 15).toNatClampNeg) (20 : Int32)) 14 ((u302.1 0 15).toNatClampNeg) (0 : Int32)) 0 15 ((u302.1 0 15) + (1 : Int32))), rfl, ⟨(FG.f (FG.a (FG.a (FG.f (FG.a (FG.f (FG.tr (FG.f (FG.f (FG.rf _) ((v.1 0 47) + (1 : Int32)) (by decide)) ((v.1 0 48) + (1 : Int32)) (by decide)) (FG.up fr301 (by decide) (by decide))) ((u302.1 0 48) - (1 : Int32)) (by decide)) ((u302.1 0 12).toNatClampNeg) r311 (by decide) (by decide)) ((u302.1 0 12) + (1 : Int32)) (by decide)) ((u302.1 0 15).toNatClampNeg) (20 : Int32) (by decide) (by decide)) ((u302.1 0 15).toNatClampNeg) (0 : Int32) (by decide) (by decide)) ((u302.1 0 15) + (1 : Int32)) (by decide)), (show (v.1 0 47).toInt + 1 ≤ (u302.1 0 47).toInt ∧ (u302.1 0 47).toInt ≤ 1500 from (om_ff8aa832bb z297 pt301)), (show (v.1 0 49).toInt ≠ (v.1 0 47).toInt from (om_32294a9ce4 c294)), (show (v.1 0 12).toInt ≤ ((u302.1 0 12) + (1 : Int32)).toInt ∧ ((u302.1 0 12) + (1 : Int32)).toInt - 15 * (u302.1 0 47).toInt ≤ (v.1 0 12).toInt - 15 * (v.1 0 47).toInt from (om_7d9f5eca64 z297 pw301 z315)), (show (v.1 0 15).toInt ≤ ((u302.1 0 15) + (1 : Int32)).toInt ∧ ((u302.1 0 15) + (1 : Int32)).toInt - 10 * (u302.1 0 47).toInt ≤ (v.1 0 15).toInt - 10 * (v.1 0 47).toInt from (om_e3c4ffe5ce z297 po301 z323)), (show (v.1 0 43).toInt ≤ (u302.1 0 43).toInt ∧ (u302.1 0 43).toInt - 15 * (u302.1 0 47).toInt ≤ (v.1 0 43).toInt - 15 * (v.1 0 47).toInt from (om_48209a9386 z297 pf301)), (show (v.1 0 39).toInt ≤ (u302.1 0 39).toInt ∧ (u302.1 0 39).toInt - 1 * (u302.1 0 47).toInt ≤ (v.1 0 39).toInt - 1 * (v.1 0 47).toInt from (om_df731194be z297 pk301)), (show (u302.1 0 32).toInt = (v.1 0 32).toInt ∧ ((u302.1 0 48) - (1 : Int32)).toInt = (v.1 0 48).toInt from (om_4a47b03b7f z298 pp301 z304)), (show (v.1 0 33).toInt ≤ (u302.1 0 33).toInt ∧ (u302.1 0 33).toInt ≤ 500 from (om_6bc0cea141 ph301)), (fun (j9 : Nat) hj9 => (Eq.trans (pk_un3 (a := (u302.1 0 12).toInt) rfl (om_1ce1b92b31 zws pw301) (om_e81726c0b3 pw301 hj9)) (kc301 j9 (om_4fe904e9bf hj9)))), (fun (j9 : Nat) hj9 => (Eq.trans (pk_un3 (a := (u302.1 0 15).toInt) rfl (om_4b760a59ba zos po301) (om_24f6a8216f po301 hj9)) (ko301 j9 (om_4fe904e9bf hj9)))), (fun (j9 : Nat) hj9 => (Eq.trans (pk_un3 (a := (u302.1 0 15).toInt) rfl (om_4b760a59ba zos po301) (om_24f6a8216f po301 hj9)) (kg301 j9 (om_4fe904e9bf hj9)))), (AR.o (AR.o (AR.o (AR.o (AR.o (AR.o a35301 (by decide)) (by decide)) (by decide)) (by decide)) (by decide)) (by decide)), (AR.o (AR.o (AR.o (AR.o (AR.o (AR.o a37301 (by decide)) (by decide)) (by decide)) (by decide)) (by decide)) (by decide)), (AR.o (AR.o (AR.o (AR.o (AR.o (AR.o a38301 (by decide)) (by decide)) (by decide)) (by decide)) (by decide)) (by decide)), (AR.o (AR.o (AR.o (AR.o (AR.o (AR.o a40301 (by decide)) (by decide)) (by decide)) (by decide)) (by decide)) (by decide)), (FX.o (FX.o (FX.o (FX.o (FX.o (FX.o fx301 (by decide) (by decide)) (by decide) (by decide)) (by decide) (by decide)) (by decide) (by decide)) (by decide) (by decide)) (by decide) (by decide))⟩, by rw [ht9]; exact hP, hD⟩, hS.F ht9⟩) hS.2.2 dX13_operand_386
                  · have z324 : ((v.2 (v.1 0 47).toNatClampNeg).toInt32).toInt = (33 : Int) := eq_z rfl (show (33 : Int32).toInt = (33 : Int) by decide) h318
                    exact False.elim (om_9d9908e07d z308 z324)
                · have z325 : ((v.2 (v.1 0 47).toNatClampNeg).toInt32).toInt = (45 : Int) := eq_z rfl (show (45 : Int32).toInt = (45 : Int) by decide) h316
                  exact False.elim (om_aab5508d07 z306 z325)
              · have z326 : ((v.2 (v.1 0 47).toNatClampNeg).toInt32).toInt = (33 : Int) := eq_z rfl (show (33 : Int32).toInt = (33 : Int) by decide) h307
                refine lv_bipush (v := 19) hx hb dX13_operand_182 (by decide) ?_
                refine lv_iconst (v := 3) hx hb dX13_operand_184 (by decide) ?_
                refine lv_bipush (v := 10) hx hb dX13_operand_185 (by decide) ?_
                refine lv_bipush (v := 10) hx hb dX13_operand_187 (by decide) ?_
                refine lv_iconst (v := 1) hx hb dX13_operand_189 (by decide) ?_
                refine cu_s (mW_nd _ _ _ _ _ _) (rn_S (n := 5) (As := [.int 19, .int 3, .int 10, .int 10, .int 1]) (rest := [.ref (ad 0)]) hx hb hml hown ht hKK hFx hP hD hS hA (c_m_byI l dC dI cI cB cZ cJ cR tb H.size (19 : Int32) (3 : Int32) (10 : Int32) (10 : Int32) (1 : Int32) ) tw_2 tw_3 (by decide +kernel) rfl rfl ⟨show 0 + 1 ≤ 40 * n + 9 from om_fd17f2e70e, show 8 + (5 + 11) + 0 ≤ 28 * (40 * n + 9) from om_4dd6cddcce⟩ [] rfl rfl rfl hl.1 rfl (Nat.le_of_ble_eq_true rfl) dX13_operand_190 ⟨Nat.le_of_ble_eq_true rfl, Nat.le_of_ble_eq_true rfl⟩) hP hD hS hA (fun r329 H locs hw327 hP hD hS => ?_)
                refine W.widen (k := 0) (n := 0) (Nat.le_refl _) (Nat.le_refl _) ?_
                refine lv_goto (tgt := 207) hx hb dX13_operand_193 (by decide) ?_
                refine cu_i (rn_V (n := 1) (As := [.int r329]) (rest := []) hx hb hml hown ht hKK hFx hP hD hS hA (c_m_emit l dC dI cI cB cZ cJ cR tb H.size ad N (wA u302 0 48 ((u302.1 0 48) - (1 : Int32))) r329 (show 0 ≤ (u302.1 0 12).toInt ∧ (u302.1 0 12).toInt < 24000 from (om_6ad570a484 zws z297 pt301 pw301))) tw_8 tw_9 (by decide +kernel) rfl rfl ⟨show 0 + 1 ≤ 40 * n + 9 from om_fd17f2e70e, show 8 + (2 + 11) + 0 ≤ 28 * (40 * n + 9) from om_4229287154⟩ (List.range (mW ad N cI cZ cJ (wA u302 0 48 ((u302.1 0 48) - (1 : Int32)))).length) (rg_map _) (mW_nd _ _ _ _ _ _) rfl rfl rfl rfl hl.1 rfl (Nat.le_of_ble_eq_true rfl) dX13_operand_207 ⟨Nat.le_of_ble_eq_true rfl, Nat.le_of_ble_eq_true rfl⟩) hP hD hS hA (fun r332 u331 H locs hw330 hP hD hS => ?_)
                obtain ⟨rfl, rfl⟩ := hw330
                have z333 : ((u302.1 0 12) + (1 : Int32)).toInt = ((u302.1 0 12).toInt) + (1 : Int) := add_z rfl (show (1 : Int32).toInt = (1 : Int) by decide) (om_6ad47c49ef zws pw301) (om_99b5e8925f zws z297 pt301 pw301)
                have hP : va_P (dC, dI) vwCl (mW ad N cI cZ cJ (wA (wA (wA u302 0 48 ((u302.1 0 48) - (1 : Int32))) 11 ((u302.1 0 12).toNatClampNeg) r329) 0 12 ((u302.1 0 12) + (1 : Int32)))) H := hP
                have hD : va_D A (mW ad N cI cZ cJ (wA (wA (wA u302 0 48 ((u302.1 0 48) - (1 : Int32))) 11 ((u302.1 0 12).toNatClampNeg) r329) 0 12 ((u302.1 0 12) + (1 : Int32)))) := hD
                refine tp_i (y := (u302.1 0 12)) (rfl) ?_
                refine W.widen (k := 0) (n := 0) (Nat.le_refl _) (Nat.le_refl _) ?_
                refine lv_pop hx hb dX13_operand_210 rfl ?_
                refine lv_aload_n hx hb dX13_operand_211 rfl (lv_at hl 1 rfl) ?_
                refine lv_iload_n hx hb dX13_operand_212 rfl (lv_at hl 0 rfl) ?_
                refine lv_bipush (v := 45) hx hb dX13_operand_213 (by decide) ?_
                refine lv_icmp_ne (tgt := 223) hx hb dX13_operand_215 (by decide) (fun h334 => ?_) (fun h334 => ?_)
                · have z335 : ((v.2 (v.1 0 47).toNatClampNeg).toInt32).toInt ≠ (45 : Int) := ne_z rfl (show (45 : Int32).toInt = (45 : Int) by decide) h334
                  refine lv_iload_n hx hb dX13_operand_223 rfl (lv_at hl 0 rfl) ?_
                  refine lv_bipush (v := 33) hx hb dX13_operand_224 (by decide) ?_
                  refine lv_icmp_ne (tgt := 234) hx hb dX13_operand_226 (by decide) (fun h336 => ?_) (fun h336 => ?_)
                  · have z337 : ((v.2 (v.1 0 47).toNatClampNeg).toInt32).toInt ≠ (33 : Int) := ne_z rfl (show (33 : Int32).toInt = (33 : Int) by decide) h336
                    exact False.elim (om_abbf94d96b z326 z337)
                  · have z338 : ((v.2 (v.1 0 47).toNatClampNeg).toInt32).toInt = (33 : Int) := eq_z rfl (show (33 : Int32).toInt = (33 : Int) by decide) h336
                    refine lv_bipush (v := 19) hx hb dX13_operand_229 (by decide) ?_
                    refine lv_goto (tgt := 236) hx hb dX13_operand_231 (by decide) ?_
                    refine lv_iconst (v := 0) hx hb dX13_operand_236 (by decide) ?_
                    refine cu_i (rn_V (n := 2) (As := [.int 19, .int 0]) (rest := []) hx hb hml hown ht hKK hFx hP hD hS hA (c_m_say l dC dI cI cB cZ cJ cR tb H.size ad N (wA (wA (wA u302 0 48 ((u302.1 0 48) - (1 : Int32))) 11 ((u302.1 0 12).toNatClampNeg) r329) 0 12 ((u302.1 0 12) + (1 : Int32))) (19 : Int32) (0 : Int32) (show 0 ≤ (u302.1 0 15).toInt ∧ (u302.1 0 15).toInt < 16000 from (om_ab4ad5e078 zos z297 pt301 po301))) tw_59 tw_60 (by decide +kernel) rfl rfl ⟨show 0 + 1 ≤ 40 * n + 9 from om_fd17f2e70e, show 8 + (3 + 11) + 0 ≤ 28 * (40 * n + 9) from om_e79917e237⟩ (List.range (mW ad N cI cZ cJ (wA (wA (wA u302 0 48 ((u302.1 0 48) - (1 : Int32))) 11 ((u302.1 0 12).toNatClampNeg) r329) 0 12 ((u302.1 0 12) + (1 : Int32)))).length) (rg_map _) (mW_nd _ _ _ _ _ _) rfl rfl rfl rfl hl.1 rfl (Nat.le_of_ble_eq_true rfl) dX13_operand_237 ⟨Nat.le_of_ble_eq_true rfl, Nat.le_of_ble_eq_true rfl⟩) hP hD hS hA (fun r341 u340 H locs hw339 hP hD hS => ?_)
                    obtain ⟨rfl, rfl⟩ := hw339
                    have z342 : ((u302.1 0 15) + (1 : Int32)).toInt = ((u302.1 0 15).toInt) + (1 : Int) := add_z rfl (show (1 : Int32).toInt = (1 : Int) by decide) (om_436cd0d872 zos po301) (om_4b3fea160f zos z297 pt301 po301)
                    have hP : va_P (dC, dI) vwCl (mW ad N cI cZ cJ (wA (wA (wA (wA (wA (wA u302 0 48 ((u302.1 0 48) - (1 : Int32))) 11 ((u302.1 0 12).toNatClampNeg) r329) 0 12 ((u302.1 0 12) + (1 : Int32))) 13 ((u302.1 0 15).toNatClampNeg) (19 : Int32)) 14 ((u302.1 0 15).toNatClampNeg) (0 : Int32)) 0 15 ((u302.1 0 15) + (1 : Int32)))) H := hP
                    have hD : va_D A (mW ad N cI cZ cJ (wA (wA (wA (wA (wA (wA u302 0 48 ((u302.1 0 48) - (1 : Int32))) 11 ((u302.1 0 12).toNatClampNeg) r329) 0 12 ((u302.1 0 12) + (1 : Int32))) 13 ((u302.1 0 15).toNatClampNeg) (19 : Int32)) 14 ((u302.1 0 15).toNatClampNeg) (0 : Int32)) 0 15 ((u302.1 0 15) + (1 : Int32)))) := hD
                    refine tp_i (y := (u302.1 0 15)) (rfl) ?_
                    refine W.widen (k := 0) (n := 0) (Nat.le_refl _) (Nat.le_refl _) ?_
                    refine lv_pop hx hb dX13_operand_240 rfl ?_
                    refine lv_goto (tgt := 386) hx hb dX13_operand_241 (by decide) ?_
                    refine vx_ret ?_
                    exact W.vret hx hb hr (fun t ht9 hW => ⟨⟨(wA (wA (wA (wA (wA (wA u302 0 48 ((u302.1 0 48) - (1 : Int32))) 11 ((u302.1 0 12).toNatClampNeg) r329) 0 12 ((u302.1 0 12) + (1 : Int32))) 13 ((u302.1 0 15).toNatClampNeg) (19 : Int32)) 14 ((u302.1 0 15).toNatClampNeg) (0 : Int32)) 0 15 ((u302.1 0 15) + (1 : Int32))), rfl, ⟨(FG.f (FG.a (FG.a (FG.f (FG.a (FG.f (FG.tr (FG.f (FG.f (FG.rf _) ((v.1 0 47) + (1 : Int32)) (by decide)) ((v.1 0 48) + (1 : Int32)) (by decide)) (FG.up fr301 (by decide) (by decide))) ((u302.1 0 48) - (1 : Int32)) (by decide)) ((u302.1 0 12).toNatClampNeg) r329 (by decide) (by decide)) ((u302.1 0 12) + (1 : Int32)) (by decide)) ((u302.1 0 15).toNatClampNeg) (19 : Int32) (by decide) (by decide)) ((u302.1 0 15).toNatClampNeg) (0 : Int32) (by decide) (by decide)) ((u302.1 0 15) + (1 : Int32)) (by decide)), (show (v.1 0 47).toInt + 1 ≤ (u302.1 0 47).toInt ∧ (u302.1 0 47).toInt ≤ 1500 from (om_ff8aa832bb z297 pt301)), (show (v.1 0 49).toInt ≠ (v.1 0 47).toInt from (om_32294a9ce4 c294)), (show (v.1 0 12).toInt ≤ ((u302.1 0 12) + (1 : Int32)).toInt ∧ ((u302.1 0 12) + (1 : Int32)).toInt - 15 * (u302.1 0 47).toInt ≤ (v.1 0 12).toInt - 15 * (v.1 0 47).toInt from (om_7d9f5eca64 z297 pw301 z333)), (show (v.1 0 15).toInt ≤ ((u302.1 0 15) + (1 : Int32)).toInt ∧ ((u302.1 0 15) + (1 : Int32)).toInt - 10 * (u302.1 0 47).toInt ≤ (v.1 0 15).toInt - 10 * (v.1 0 47).toInt from (om_e3c4ffe5ce z297 po301 z342)), (show (v.1 0 43).toInt ≤ (u302.1 0 43).toInt ∧ (u302.1 0 43).toInt - 15 * (u302.1 0 47).toInt ≤ (v.1 0 43).toInt - 15 * (v.1 0 47).toInt from (om_48209a9386 z297 pf301)), (show (v.1 0 39).toInt ≤ (u302.1 0 39).toInt ∧ (u302.1 0 39).toInt - 1 * (u302.1 0 47).toInt ≤ (v.1 0 39).toInt - 1 * (v.1 0 47).toInt from (om_df731194be z297 pk301)), (show (u302.1 0 32).toInt = (v.1 0 32).toInt ∧ ((u302.1 0 48) - (1 : Int32)).toInt = (v.1 0 48).toInt from (om_4a47b03b7f z298 pp301 z304)), (show (v.1 0 33).toInt ≤ (u302.1 0 33).toInt ∧ (u302.1 0 33).toInt ≤ 500 from (om_6bc0cea141 ph301)), (fun (j9 : Nat) hj9 => (Eq.trans (pk_un3 (a := (u302.1 0 12).toInt) rfl (om_1ce1b92b31 zws pw301) (om_e81726c0b3 pw301 hj9)) (kc301 j9 (om_4fe904e9bf hj9)))), (fun (j9 : Nat) hj9 => (Eq.trans (pk_un3 (a := (u302.1 0 15).toInt) rfl (om_4b760a59ba zos po301) (om_24f6a8216f po301 hj9)) (ko301 j9 (om_4fe904e9bf hj9)))), (fun (j9 : Nat) hj9 => (Eq.trans (pk_un3 (a := (u302.1 0 15).toInt) rfl (om_4b760a59ba zos po301) (om_24f6a8216f po301 hj9)) (kg301 j9 (om_4fe904e9bf hj9)))), (AR.o (AR.o (AR.o (AR.o (AR.o (AR.o a35301 (by decide)) (by decide)) (by decide)) (by decide)) (by decide)) (by decide)), (AR.o (AR.o (AR.o (AR.o (AR.o (AR.o a37301 (by decide)) (by decide)) (by decide)) (by decide)) (by decide)) (by decide)), (AR.o (AR.o (AR.o (AR.o (AR.o (AR.o a38301 (by decide)) (by decide)) (by decide)) (by decide)) (by decide)) (by decide)), (AR.o (AR.o (AR.o (AR.o (AR.o (AR.o a40301 (by decide)) (by decide)) (by decide)) (by decide)) (by decide)) (by decide)), (FX.o (FX.o (FX.o (FX.o (FX.o (FX.o fx301 (by decide) (by decide)) (by decide) (by decide)) (by decide) (by decide)) (by decide) (by decide)) (by decide) (by decide)) (by decide) (by decide))⟩, by rw [ht9]; exact hP, hD⟩, hS.F ht9⟩) hS.2.2 dX13_operand_386
                · have z343 : ((v.2 (v.1 0 47).toNatClampNeg).toInt32).toInt = (45 : Int) := eq_z rfl (show (45 : Int32).toInt = (45 : Int) by decide) h334
                  exact False.elim (om_ac897fe355 z326 z343)
            · have z344 : ((v.2 (v.1 0 47).toNatClampNeg).toInt32).toInt = (45 : Int) := eq_z rfl (show (45 : Int32).toInt = (45 : Int) by decide) h305
              refine lv_bipush (v := 32) hx hb dX13_operand_162 (by decide) ?_
              refine lv_iconst (v := 0) hx hb dX13_operand_164 (by decide) ?_
              refine lv_bipush (v := 10) hx hb dX13_operand_165 (by decide) ?_
              refine lv_iconst (v := 0) hx hb dX13_operand_167 (by decide) ?_
              refine lv_bipush (v := 10) hx hb dX13_operand_168 (by decide) ?_
              refine cu_s (mW_nd _ _ _ _ _ _) (rn_S (n := 5) (As := [.int 32, .int 0, .int 10, .int 0, .int 10]) (rest := [.ref (ad 0)]) hx hb hml hown ht hKK hFx hP hD hS hA (c_m_byR l dC dI cI cB cZ cJ cR tb H.size (32 : Int32) (0 : Int32) (10 : Int32) (0 : Int32) (10 : Int32) ) tw_67 tw_68 (by decide +kernel) rfl rfl ⟨show 0 + 1 ≤ 40 * n + 9 from om_fd17f2e70e, show 8 + (5 + 11) + 0 ≤ 28 * (40 * n + 9) from om_4dd6cddcce⟩ [] rfl rfl rfl hl.1 rfl (Nat.le_of_ble_eq_true rfl) dX13_operand_170 ⟨Nat.le_of_ble_eq_true rfl, Nat.le_of_ble_eq_true rfl⟩) hP hD hS hA (fun r347 H locs hw345 hP hD hS => ?_)
              refine W.widen (k := 0) (n := 0) (Nat.le_refl _) (Nat.le_refl _) ?_
              refine lv_goto (tgt := 207) hx hb dX13_operand_173 (by decide) ?_
              refine cu_i (rn_V (n := 1) (As := [.int r347]) (rest := []) hx hb hml hown ht hKK hFx hP hD hS hA (c_m_emit l dC dI cI cB cZ cJ cR tb H.size ad N (wA u302 0 48 ((u302.1 0 48) - (1 : Int32))) r347 (show 0 ≤ (u302.1 0 12).toInt ∧ (u302.1 0 12).toInt < 24000 from (om_6ad570a484 zws z297 pt301 pw301))) tw_8 tw_9 (by decide +kernel) rfl rfl ⟨show 0 + 1 ≤ 40 * n + 9 from om_fd17f2e70e, show 8 + (2 + 11) + 0 ≤ 28 * (40 * n + 9) from om_4229287154⟩ (List.range (mW ad N cI cZ cJ (wA u302 0 48 ((u302.1 0 48) - (1 : Int32)))).length) (rg_map _) (mW_nd _ _ _ _ _ _) rfl rfl rfl rfl hl.1 rfl (Nat.le_of_ble_eq_true rfl) dX13_operand_207 ⟨Nat.le_of_ble_eq_true rfl, Nat.le_of_ble_eq_true rfl⟩) hP hD hS hA (fun r350 u349 H locs hw348 hP hD hS => ?_)
              obtain ⟨rfl, rfl⟩ := hw348
              have z351 : ((u302.1 0 12) + (1 : Int32)).toInt = ((u302.1 0 12).toInt) + (1 : Int) := add_z rfl (show (1 : Int32).toInt = (1 : Int) by decide) (om_6ad47c49ef zws pw301) (om_99b5e8925f zws z297 pt301 pw301)
              have hP : va_P (dC, dI) vwCl (mW ad N cI cZ cJ (wA (wA (wA u302 0 48 ((u302.1 0 48) - (1 : Int32))) 11 ((u302.1 0 12).toNatClampNeg) r347) 0 12 ((u302.1 0 12) + (1 : Int32)))) H := hP
              have hD : va_D A (mW ad N cI cZ cJ (wA (wA (wA u302 0 48 ((u302.1 0 48) - (1 : Int32))) 11 ((u302.1 0 12).toNatClampNeg) r347) 0 12 ((u302.1 0 12) + (1 : Int32)))) := hD
              refine tp_i (y := (u302.1 0 12)) (rfl) ?_
              refine W.widen (k := 0) (n := 0) (Nat.le_refl _) (Nat.le_refl _) ?_
              refine lv_pop hx hb dX13_operand_210 rfl ?_
              refine lv_aload_n hx hb dX13_operand_211 rfl (lv_at hl 1 rfl) ?_
              refine lv_iload_n hx hb dX13_operand_212 rfl (lv_at hl 0 rfl) ?_
              refine lv_bipush (v := 45) hx hb dX13_operand_213 (by decide) ?_
              refine lv_icmp_ne (tgt := 223) hx hb dX13_operand_215 (by decide) (fun h352 => ?_) (fun h352 => ?_)
              · have z353 : ((v.2 (v.1 0 47).toNatClampNeg).toInt32).toInt ≠ (45 : Int) := ne_z rfl (show (45 : Int32).toInt = (45 : Int) by decide) h352
                exact False.elim (om_bdc7d89919 z344 z353)
              · have z354 : ((v.2 (v.1 0 47).toNatClampNeg).toInt32).toInt = (45 : Int) := eq_z rfl (show (45 : Int32).toInt = (45 : Int) by decide) h352
                refine lv_bipush (v := 18) hx hb dX13_operand_218 (by decide) ?_
                refine lv_goto (tgt := 236) hx hb dX13_operand_220 (by decide) ?_
                refine lv_iconst (v := 0) hx hb dX13_operand_236 (by decide) ?_
                refine cu_i (rn_V (n := 2) (As := [.int 18, .int 0]) (rest := []) hx hb hml hown ht hKK hFx hP hD hS hA (c_m_say l dC dI cI cB cZ cJ cR tb H.size ad N (wA (wA (wA u302 0 48 ((u302.1 0 48) - (1 : Int32))) 11 ((u302.1 0 12).toNatClampNeg) r347) 0 12 ((u302.1 0 12) + (1 : Int32))) (18 : Int32) (0 : Int32) (show 0 ≤ (u302.1 0 15).toInt ∧ (u302.1 0 15).toInt < 16000 from (om_ab4ad5e078 zos z297 pt301 po301))) tw_59 tw_60 (by decide +kernel) rfl rfl ⟨show 0 + 1 ≤ 40 * n + 9 from om_fd17f2e70e, show 8 + (3 + 11) + 0 ≤ 28 * (40 * n + 9) from om_e79917e237⟩ (List.range (mW ad N cI cZ cJ (wA (wA (wA u302 0 48 ((u302.1 0 48) - (1 : Int32))) 11 ((u302.1 0 12).toNatClampNeg) r347) 0 12 ((u302.1 0 12) + (1 : Int32)))).length) (rg_map _) (mW_nd _ _ _ _ _ _) rfl rfl rfl rfl hl.1 rfl (Nat.le_of_ble_eq_true rfl) dX13_operand_237 ⟨Nat.le_of_ble_eq_true rfl, Nat.le_of_ble_eq_true rfl⟩) hP hD hS hA (fun r357 u356 H locs hw355 hP hD hS => ?_)
                obtain ⟨rfl, rfl⟩ := hw355
                have z358 : ((u302.1 0 15) + (1 : Int32)).toInt = ((u302.1 0 15).toInt) + (1 : Int) := add_z rfl (show (1 : Int32).toInt = (1 : Int) by decide) (om_436cd0d872 zos po301) (om_4b3fea160f zos z297 pt301 po301)
                have hP : va_P (dC, dI) vwCl (mW ad N cI cZ cJ (wA (wA (wA (wA (wA (wA u302 0 48 ((u302.1 0 48) - (1 : Int32))) 11 ((u302.1 0 12).toNatClampNeg) r347) 0 12 ((u302.1 0 12) + (1 : Int32))) 13 ((u302.1 0 15).toNatClampNeg) (18 : Int32)) 14 ((u302.1 0 15).toNatClampNeg) (0 : Int32)) 0 15 ((u302.1 0 15) + (1 : Int32)))) H := hP
                have hD : va_D A (mW ad N cI cZ cJ (wA (wA (wA (wA (wA (wA u302 0 48 ((u302.1 0 48) - (1 : Int32))) 11 ((u302.1 0 12).toNatClampNeg) r347) 0 12 ((u302.1 0 12) + (1 : Int32))) 13 ((u302.1 0 15).toNatClampNeg) (18 : Int32)) 14 ((u302.1 0 15).toNatClampNeg) (0 : Int32)) 0 15 ((u302.1 0 15) + (1 : Int32)))) := hD
                refine tp_i (y := (u302.1 0 15)) (rfl) ?_
                refine W.widen (k := 0) (n := 0) (Nat.le_refl _) (Nat.le_refl _) ?_
                refine lv_pop hx hb dX13_operand_240 rfl ?_
                refine lv_goto (tgt := 386) hx hb dX13_operand_241 (by decide) ?_
                refine vx_ret ?_
                exact W.vret hx hb hr (fun t ht9 hW => ⟨⟨(wA (wA (wA (wA (wA (wA u302 0 48 ((u302.1 0 48) - (1 : Int32))) 11 ((u302.1 0 12).toNatClampNeg) r347) 0 12 ((u302.1 0 12) + (1 : Int32))) 13 ((u302.1 0 15).toNatClampNeg) (18 : Int32)) 14 ((u302.1 0 15).toNatClampNeg) (0 : Int32)) 0 15 ((u302.1 0 15) + (1 : Int32))), rfl, ⟨(FG.f (FG.a (FG.a (FG.f (FG.a (FG.f (FG.tr (FG.f (FG.f (FG.rf _) ((v.1 0 47) + (1 : Int32)) (by decide)) ((v.1 0 48) + (1 : Int32)) (by decide)) (FG.up fr301 (by decide) (by decide))) ((u302.1 0 48) - (1 : Int32)) (by decide)) ((u302.1 0 12).toNatClampNeg) r347 (by decide) (by decide)) ((u302.1 0 12) + (1 : Int32)) (by decide)) ((u302.1 0 15).toNatClampNeg) (18 : Int32) (by decide) (by decide)) ((u302.1 0 15).toNatClampNeg) (0 : Int32) (by decide) (by decide)) ((u302.1 0 15) + (1 : Int32)) (by decide)), (show (v.1 0 47).toInt + 1 ≤ (u302.1 0 47).toInt ∧ (u302.1 0 47).toInt ≤ 1500 from (om_ff8aa832bb z297 pt301)), (show (v.1 0 49).toInt ≠ (v.1 0 47).toInt from (om_32294a9ce4 c294)), (show (v.1 0 12).toInt ≤ ((u302.1 0 12) + (1 : Int32)).toInt ∧ ((u302.1 0 12) + (1 : Int32)).toInt - 15 * (u302.1 0 47).toInt ≤ (v.1 0 12).toInt - 15 * (v.1 0 47).toInt from (om_7d9f5eca64 z297 pw301 z351)), (show (v.1 0 15).toInt ≤ ((u302.1 0 15) + (1 : Int32)).toInt ∧ ((u302.1 0 15) + (1 : Int32)).toInt - 10 * (u302.1 0 47).toInt ≤ (v.1 0 15).toInt - 10 * (v.1 0 47).toInt from (om_e3c4ffe5ce z297 po301 z358)), (show (v.1 0 43).toInt ≤ (u302.1 0 43).toInt ∧ (u302.1 0 43).toInt - 15 * (u302.1 0 47).toInt ≤ (v.1 0 43).toInt - 15 * (v.1 0 47).toInt from (om_48209a9386 z297 pf301)), (show (v.1 0 39).toInt ≤ (u302.1 0 39).toInt ∧ (u302.1 0 39).toInt - 1 * (u302.1 0 47).toInt ≤ (v.1 0 39).toInt - 1 * (v.1 0 47).toInt from (om_df731194be z297 pk301)), (show (u302.1 0 32).toInt = (v.1 0 32).toInt ∧ ((u302.1 0 48) - (1 : Int32)).toInt = (v.1 0 48).toInt from (om_4a47b03b7f z298 pp301 z304)), (show (v.1 0 33).toInt ≤ (u302.1 0 33).toInt ∧ (u302.1 0 33).toInt ≤ 500 from (om_6bc0cea141 ph301)), (fun (j9 : Nat) hj9 => (Eq.trans (pk_un3 (a := (u302.1 0 12).toInt) rfl (om_1ce1b92b31 zws pw301) (om_e81726c0b3 pw301 hj9)) (kc301 j9 (om_4fe904e9bf hj9)))), (fun (j9 : Nat) hj9 => (Eq.trans (pk_un3 (a := (u302.1 0 15).toInt) rfl (om_4b760a59ba zos po301) (om_24f6a8216f po301 hj9)) (ko301 j9 (om_4fe904e9bf hj9)))), (fun (j9 : Nat) hj9 => (Eq.trans (pk_un3 (a := (u302.1 0 15).toInt) rfl (om_4b760a59ba zos po301) (om_24f6a8216f po301 hj9)) (kg301 j9 (om_4fe904e9bf hj9)))), (AR.o (AR.o (AR.o (AR.o (AR.o (AR.o a35301 (by decide)) (by decide)) (by decide)) (by decide)) (by decide)) (by decide)), (AR.o (AR.o (AR.o (AR.o (AR.o (AR.o a37301 (by decide)) (by decide)) (by decide)) (by decide)) (by decide)) (by decide)), (AR.o (AR.o (AR.o (AR.o (AR.o (AR.o a38301 (by decide)) (by decide)) (by decide)) (by decide)) (by decide)) (by decide)), (AR.o (AR.o (AR.o (AR.o (AR.o (AR.o a40301 (by decide)) (by decide)) (by decide)) (by decide)) (by decide)) (by decide)), (FX.o (FX.o (FX.o (FX.o (FX.o (FX.o fx301 (by decide) (by decide)) (by decide) (by decide)) (by decide) (by decide)) (by decide) (by decide)) (by decide) (by decide)) (by decide) (by decide))⟩, by rw [ht9]; exact hP, hD⟩, hS.F ht9⟩) hS.2.2 dX13_operand_386
    · have z359 : ((v.1 6) (v.1 0 47).toNatClampNeg).toInt = (6 : Int) := eq_z rfl (show (6 : Int32).toInt = (6 : Int) by decide) h53
      refine lv_aload_n hx hb dX13_operand_27 rfl (lv_at hl 0 rfl) ?_
      refine va_get (D := (dC, dI)) (ci := 16) (fs := mF ad v) (v := .ref (ad 6)) (C := RX13) (T := TX13) (N := 124) hx hb ht itX13 hown hK hP 0 rfl rfl 6 (by decide) (ht _ tw_23) (fun _ h9 => h9) rfl dX13_operand_28 ?_
      refine lv_aload_n hx hb dX13_operand_31 rfl (lv_at hl 0 rfl) ?_
      refine va_get (D := (dC, dI)) (ci := 16) (fs := mF ad v) (v := .int (v.1 0 47)) (C := RX13) (T := TX13) (N := 124) hx hb ht itX13 hown hK hP 0 rfl rfl 47 (by decide) (ht _ tw_24) (fun _ h9 => h9) rfl dX13_operand_32 ?_
      refine va_iald (D := (dC, dI)) (f := (v.1 6)) hx hb hK hP 3 0 rfl rfl (in_y (a := (v.1 0 47).toInt) (b := 4002) rfl (om_e33521859d zfs) (om_449eb7e9bb zt) rfl) dX13_operand_35 ?_
      refine lv_iconst (v := 4) hx hb dX13_operand_36 (by decide) ?_
      refine lv_icmp_ne (tgt := 76) hx hb dX13_operand_37 (by decide) (fun h360 => ?_) (fun h360 => ?_)
      · have z361 : ((v.1 6) (v.1 0 47).toNatClampNeg).toInt ≠ (4 : Int) := ne_z rfl (show (4 : Int32).toInt = (4 : Int) by decide) h360
        refine lv_aload_n hx hb dX13_operand_76 rfl (lv_at hl 0 rfl) ?_
        refine va_get (D := (dC, dI)) (ci := 16) (fs := mF ad v) (v := .ref (ad 9)) (C := RX13) (T := TX13) (N := 124) hx hb ht itX13 hown hK hP 0 rfl rfl 9 (by decide) (ht _ tw_27) (fun _ h9 => h9) rfl dX13_operand_77 ?_
        refine lv_aload_n hx hb dX13_operand_80 rfl (lv_at hl 0 rfl) ?_
        refine va_get (D := (dC, dI)) (ci := 16) (fs := mF ad v) (v := .int (v.1 0 47)) (C := RX13) (T := TX13) (N := 124) hx hb ht itX13 hown hK hP 0 rfl rfl 47 (by decide) (ht _ tw_24) (fun _ h9 => h9) rfl dX13_operand_81 ?_
        refine va_lald (D := (dC, dI)) (f := v.2) hx hb hK hP 6 3 rfl rfl (in_y (a := (v.1 0 47).toInt) (b := 4002) rfl (om_e33521859d zfs) (om_449eb7e9bb zt) rfl) dX13_operand_84 ?_
        refine lv_l2i hx hb dX13_operand_85 rfl ?_
        refine lv_istore_n (lv' := [(1, .int ((v.2 (v.1 0 47).toNatClampNeg).toInt32)), (0, .ref (ad 0))]) hx hb dX13_operand_86 rfl hl (by decide) rfl (fun ls hl => ?_)
        refine lv_aload_n hx hb dX13_operand_87 rfl (lv_at hl 1 rfl) ?_
        refine cux_v (rx_V (n := 0) (As := []) (rest := []) hx hb hml hown ht hKK hFx hP hD hS hA (c_m_take l dC dI cI cB cZ cJ cR tb s.heap.size ad N v  (show 0 ≤ (v.1 0 47).toInt ∧ (v.1 0 47).toInt ≤ 1500 from (om_2fb699b811 zt zfs))) tw_32 tw_33 (by decide +kernel) rfl rfl ⟨show 1 + 1 ≤ 40 * n + 9 from om_dc0ef911ca, show 8 + (1 + 11) + 22 ≤ 28 * (40 * n + 9) from om_1a3684fcd8⟩ (List.range (mW ad N cI cZ cJ v).length) (rg_map _) (mW_nd _ _ _ _ _ _) rfl rfl rfl rfl hl.1 rfl (Nat.le_of_ble_eq_true rfl) dX13_operand_88 ⟨Nat.le_of_ble_eq_true rfl, Nat.le_of_ble_eq_true rfl⟩) hP hD hS hA (fun u9 ce9 q9 H locs hx9 hP hD hS hc9 hv9 hf9 => ?_) (fun u363 H locs hw362 hP hD hS => ?_)
        · exact vx_out (fun x h9 => (hnt x h9).elim) hlocks hc9 hv9 hf9 (fun t9 ht9 hv8 => ⟨u9, (FG.tr (FG.rf _) hx9), ⟨rfl, by rw [ht9]; exact hP, hD⟩, hS.F ht9⟩) hS.2.2 (Nat.le_refl _) (Nat.le_refl _)
        obtain ⟨rfl, a362, b362⟩ := hw362
        have z365 : ((v.1 0 47) + (1 : Int32)).toInt = ((v.1 0 47).toInt) + (1 : Int) := add_z rfl (show (1 : Int32).toInt = (1 : Int) by decide) (om_3eca9b17a5 zws) (om_27eb55d06c zt)
        have hP : va_P (dC, dI) vwCl (mW ad N cI cZ cJ (wA v 0 47 ((v.1 0 47) + (1 : Int32)))) H := hP
        have hD : va_D A (mW ad N cI cZ cJ (wA v 0 47 ((v.1 0 47) + (1 : Int32)))) := hD
        refine W.widen (k := 0) (n := 0) (Nat.le_refl _) (Nat.le_refl _) ?_
        refine lv_aload_n hx hb dX13_operand_91 rfl (lv_at hl 1 rfl) ?_
        refine lv_iload_n hx hb dX13_operand_92 rfl (lv_at hl 0 rfl) ?_
        refine cu_v (rn_V (n := 1) (As := [.int ((v.2 (v.1 0 47).toNatClampNeg).toInt32)]) (rest := []) hx hb hml hown ht hKK hFx hP hD hS hA (c_m_loads l dC dI cI cB cZ cJ cR tb H.size ad N (wA v 0 47 ((v.1 0 47) + (1 : Int32))) ((v.2 (v.1 0 47).toNatClampNeg).toInt32) (show 0 ≤ (v.1 0 12).toInt ∧ (v.1 0 12).toInt ≤ 23980 from (om_2fbbc6575c zws a362)) (show 0 ≤ (v.1 0 15).toInt ∧ (v.1 0 15).toInt ≤ 15980 from (om_1b8bc4dd59 zos a362))) tw_111 tw_112 (by decide +kernel) rfl rfl ⟨show 2 + 1 ≤ 40 * n + 9 from om_86eef57ede, show 8 + (2 + 11) + 46 ≤ 28 * (40 * n + 9) from om_a3475e87b5⟩ (List.range (mW ad N cI cZ cJ (wA v 0 47 ((v.1 0 47) + (1 : Int32)))).length) (rg_map _) (mW_nd _ _ _ _ _ _) rfl rfl rfl rfl hl.1 rfl (Nat.le_of_ble_eq_true rfl) dX13_operand_93 ⟨Nat.le_of_ble_eq_true rfl, Nat.le_of_ble_eq_true rfl⟩) hP hD hS hA (fun u367 H locs hw366 hP hD hS => ?_)
        obtain ⟨fr366, pw366, po366, kc366, ko366, kg366⟩ := hw366
        have pw366 : (v.1 0 12).toInt ≤ (u367.1 0 12).toInt ∧ (u367.1 0 12).toInt ≤ (v.1 0 12).toInt + 2 := pw366
        have po366 : (u367.1 0 15).toInt = (v.1 0 15).toInt + 1 := po366
        have kc366 : ∀ j : Nat, (j : Int) < (v.1 0 12).toInt → (u367.1 11) j = (v.1 11) j := kc366
        have ko366 : ∀ j : Nat, (j : Int) < (v.1 0 15).toInt → (u367.1 13) j = (v.1 13) j := ko366
        have kg366 : ∀ j : Nat, (j : Int) < (v.1 0 15).toInt → (u367.1 14) j = (v.1 14) j := kg366
        refine W.widen (k := 0) (n := 0) (Nat.le_refl _) (Nat.le_refl _) ?_
        refine lv_goto (tgt := 386) hx hb dX13_operand_96 (by decide) ?_
        have q369 : (u367.1 0 47).toInt = ((v.1 0 47) + (1 : Int32)).toInt := congrArg Int32.toInt ((fr366.2.1 47 (by decide)).trans (show (wA v 0 47 ((v.1 0 47) + (1 : Int32))).1 0 47 = ((v.1 0 47) + (1 : Int32)) by rfl))
        have q370 : (u367.1 0 43).toInt = (v.1 0 43).toInt := congrArg Int32.toInt ((fr366.2.1 43 (by decide)).trans (show (wA v 0 47 ((v.1 0 47) + (1 : Int32))).1 0 43 = (v.1 0 43) by rfl))
        have q371 : (u367.1 0 39).toInt = (v.1 0 39).toInt := congrArg Int32.toInt ((fr366.2.1 39 (by decide)).trans (show (wA v 0 47 ((v.1 0 47) + (1 : Int32))).1 0 39 = (v.1 0 39) by rfl))
        have q372 : (u367.1 0 32).toInt = (v.1 0 32).toInt := congrArg Int32.toInt ((fr366.2.1 32 (by decide)).trans (show (wA v 0 47 ((v.1 0 47) + (1 : Int32))).1 0 32 = (v.1 0 32) by rfl))
        have q373 : (u367.1 0 48).toInt = (v.1 0 48).toInt := congrArg Int32.toInt ((fr366.2.1 48 (by decide)).trans (show (wA v 0 47 ((v.1 0 47) + (1 : Int32))).1 0 48 = (v.1 0 48) by rfl))
        have q374 : (u367.1 0 33).toInt = (v.1 0 33).toInt := congrArg Int32.toInt ((fr366.2.1 33 (by decide)).trans (show (wA v 0 47 ((v.1 0 47) + (1 : Int32))).1 0 33 = (v.1 0 33) by rfl))
        refine vx_ret ?_
        exact W.vret hx hb hr (fun t ht9 hW => ⟨⟨u367, rfl, ⟨(FG.tr (FG.f (FG.rf _) ((v.1 0 47) + (1 : Int32)) (by decide)) (FG.up fr366 (by decide) (by decide))), (show (v.1 0 47).toInt + 1 ≤ (u367.1 0 47).toInt ∧ (u367.1 0 47).toInt ≤ 1500 from (om_413e830c37 z365 a362 q369)), (show (v.1 0 49).toInt ≠ (v.1 0 47).toInt from (om_32294a9ce4 b362)), (show (v.1 0 12).toInt ≤ (u367.1 0 12).toInt ∧ (u367.1 0 12).toInt - 15 * (u367.1 0 47).toInt ≤ (v.1 0 12).toInt - 15 * (v.1 0 47).toInt from (om_ed0943c3b0 z365 q369 pw366)), (show (v.1 0 15).toInt ≤ (u367.1 0 15).toInt ∧ (u367.1 0 15).toInt - 10 * (u367.1 0 47).toInt ≤ (v.1 0 15).toInt - 10 * (v.1 0 47).toInt from (om_4820e362bc z365 q369 po366)), (show (v.1 0 43).toInt ≤ (u367.1 0 43).toInt ∧ (u367.1 0 43).toInt - 15 * (u367.1 0 47).toInt ≤ (v.1 0 43).toInt - 15 * (v.1 0 47).toInt from (om_8eec673951 z365 q370 q369)), (show (v.1 0 39).toInt ≤ (u367.1 0 39).toInt ∧ (u367.1 0 39).toInt - 1 * (u367.1 0 47).toInt ≤ (v.1 0 39).toInt - 1 * (v.1 0 47).toInt from (om_6a648d8dbc z365 q371 q369)), (show (u367.1 0 32).toInt = (v.1 0 32).toInt ∧ (u367.1 0 48).toInt = (v.1 0 48).toInt from (om_d5149004fa q372 q373)), (show (v.1 0 33).toInt ≤ (u367.1 0 33).toInt ∧ (u367.1 0 33).toInt ≤ 500 from (om_bc6fc57d17 zhi q374)), (fun (j9 : Nat) hj9 => (kc366 j9 (om_4fe904e9bf hj9))), (fun (j9 : Nat) hj9 => (ko366 j9 (om_4fe904e9bf hj9))), (fun (j9 : Nat) hj9 => (kg366 j9 (om_4fe904e9bf hj9))), (show AR 35 0 1500 u367 from AR.fr (fl := [12, 15]) (al := [0, 11, 13, 14]) fr366 (by decide) (AR.o a35 (by decide))), (show AR 37 0 23999 u367 from AR.fr (fl := [12, 15]) (al := [0, 11, 13, 14]) fr366 (by decide) (AR.o a37 (by decide))), (show AR 38 0 15999 u367 from AR.fr (fl := [12, 15]) (al := [0, 11, 13, 14]) fr366 (by decide) (AR.o a38 (by decide))), (show AR 40 0 23999 u367 from AR.fr (fl := [12, 15]) (al := [0, 11, 13, 14]) fr366 (by decide) (AR.o a40 (by decide))), (show FX u367 from FX.fr (fl := [12, 15]) (al := [0, 11, 13, 14]) fr366 (by decide) (by decide) (FX.o fx (by decide) (by decide)))⟩, by rw [ht9]; exact hP, hD⟩, hS.F ht9⟩) hS.2.2 dX13_operand_386
      · have z375 : ((v.1 6) (v.1 0 47).toNatClampNeg).toInt = (4 : Int) := eq_z rfl (show (4 : Int32).toInt = (4 : Int) by decide) h360
        exact False.elim (om_75afaa67ab z359 z375)
