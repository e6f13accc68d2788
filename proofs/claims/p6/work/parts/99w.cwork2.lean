theorem dX10_putHand_0 : decode cX10_putHand 0 = .ok (.aload_n 0, 1) := by decide +kernel
theorem dX10_putHand_1 : decode cX10_putHand 1 = .ok (.getfield 49, 3) := by decide +kernel
theorem dX10_putHand_4 : decode cX10_putHand 4 = .ok (.sipush 200, 3) := by decide +kernel
theorem dX10_putHand_7 : decode cX10_putHand 7 = .ok (.if_icmp .ge 16, 3) := by decide +kernel
theorem dX10_putHand_23 : decode cX10_putHand 23 = .ok (.aload_n 0, 1) := by decide +kernel
theorem dX10_putHand_24 : decode cX10_putHand 24 = .ok (.dup, 1) := by decide +kernel
theorem dX10_putHand_25 : decode cX10_putHand 25 = .ok (.getfield 49, 3) := by decide +kernel
theorem dX10_putHand_28 : decode cX10_putHand 28 = .ok (.iconst 1, 1) := by decide +kernel
theorem dX10_putHand_29 : decode cX10_putHand 29 = .ok (.iadd, 1) := by decide +kernel
theorem dX10_putHand_30 : decode cX10_putHand 30 = .ok (.putfield 49, 3) := by decide +kernel
theorem dX10_putHand_33 : decode cX10_putHand 33 = .ok (.return_, 1) := by decide +kernel
theorem dX10_putHand_10 : decode cX10_putHand 10 = .ok (.aload_n 0, 1) := by decide +kernel
theorem dX10_putHand_11 : decode cX10_putHand 11 = .ok (.getfield 9, 3) := by decide +kernel
theorem tw_886 : (.fieldLink RX10 9 "PocketCompiler$Worker" "puts" "[I" : Cond) ∈ tw_W := tw_in (t8_2 (List.mem_of_getElem? (i := 161) rfl)) rfl
theorem dX10_putHand_14 : decode cX10_putHand 14 = .ok (.aload_n 0, 1) := by decide +kernel
theorem dX10_putHand_15 : decode cX10_putHand 15 = .ok (.getfield 49, 3) := by decide +kernel
theorem dX10_putHand_18 : decode cX10_putHand 18 = .ok (.aload_n 0, 1) := by decide +kernel
theorem dX10_putHand_19 : decode cX10_putHand 19 = .ok (.getfield 40, 3) := by decide +kernel
theorem dX10_putHand_22 : decode cX10_putHand 22 = .ok (.iastore, 1) := by decide +kernel
theorem dX10_doDeed_0 : decode cX10_doDeed 0 = .ok (.aload_n 0, 1) := by decide +kernel
theorem dX10_doDeed_1 : decode cX10_doDeed 1 = .ok (.getfield 108, 3) := by decide +kernel
theorem dX10_doDeed_4 : decode cX10_doDeed 4 = .ok (.ifCond .lt 27, 3) := by decide +kernel
theorem dX10_doDeed_31 : decode cX10_doDeed 31 = .ok (.aload_n 0, 1) := by decide +kernel
theorem dX10_doDeed_32 : decode cX10_doDeed 32 = .ok (.iconst 4, 1) := by decide +kernel
theorem dX10_doDeed_33 : decode cX10_doDeed 33 = .ok (.putfield 37, 3) := by decide +kernel
theorem dX10_doDeed_36 : decode cX10_doDeed 36 = .ok (.return_, 1) := by decide +kernel
theorem dX10_doDeed_7 : decode cX10_doDeed 7 = .ok (.aload_n 0, 1) := by decide +kernel
theorem dX10_doDeed_8 : decode cX10_doDeed 8 = .ok (.getfield 108, 3) := by decide +kernel
theorem dX10_doDeed_11 : decode cX10_doDeed 11 = .ok (.aload_n 0, 1) := by decide +kernel
theorem dX10_doDeed_12 : decode cX10_doDeed 12 = .ok (.getfield 15, 3) := by decide +kernel
theorem dX10_doDeed_15 : decode cX10_doDeed 15 = .ok (.getfield 111, 3) := by decide +kernel
theorem tw_887 : (.fieldLink RX10 111 "PocketCompiler$Program" "deedCount" "I" : Cond) ∈ tw_W := tw_in (t8_1 (List.mem_of_getElem? (i := 141) rfl)) rfl
theorem dX10_doDeed_18 : decode cX10_doDeed 18 = .ok (.if_icmp .ge 13, 3) := by decide +kernel
theorem dX10_doDeed_21 : decode cX10_doDeed 21 = .ok (.aload_n 0, 1) := by decide +kernel
theorem dX10_doDeed_22 : decode cX10_doDeed 22 = .ok (.getfield 108, 3) := by decide +kernel
theorem dX10_doDeed_25 : decode cX10_doDeed 25 = .ok (.sipush 3008, 3) := by decide +kernel
theorem dX10_doDeed_28 : decode cX10_doDeed 28 = .ok (.if_icmp .lt 9, 3) := by decide +kernel
theorem dX10_doDeed_37 : decode cX10_doDeed 37 = .ok (.aload_n 0, 1) := by decide +kernel
theorem dX10_doDeed_38 : decode cX10_doDeed 38 = .ok (.getfield 15, 3) := by decide +kernel
theorem dX10_doDeed_41 : decode cX10_doDeed 41 = .ok (.getfield 114, 3) := by decide +kernel
theorem tw_888 : (.fieldLink RX10 114 "PocketCompiler$Program" "deeds" "[I" : Cond) ∈ tw_W := tw_in (t8_1 (List.mem_of_getElem? (i := 128) rfl)) rfl
theorem dX10_doDeed_44 : decode cX10_doDeed 44 = .ok (.aload_n 0, 1) := by decide +kernel
theorem dX10_doDeed_45 : decode cX10_doDeed 45 = .ok (.getfield 108, 3) := by decide +kernel
theorem dX10_doDeed_48 : decode cX10_doDeed 48 = .ok (.iaload, 1) := by decide +kernel
theorem dX10_doDeed_49 : decode cX10_doDeed 49 = .ok (.istore_n 1, 1) := by decide +kernel
theorem dX10_doDeed_50 : decode cX10_doDeed 50 = .ok (.aload_n 0, 1) := by decide +kernel
theorem dX10_doDeed_51 : decode cX10_doDeed 51 = .ok (.getfield 15, 3) := by decide +kernel
theorem dX10_doDeed_54 : decode cX10_doDeed 54 = .ok (.getfield 117, 3) := by decide +kernel
theorem tw_889 : (.fieldLink RX10 117 "PocketCompiler$Program" "xs" "[I" : Cond) ∈ tw_W := tw_in (t8_1 (List.mem_of_getElem? (i := 132) rfl)) rfl
theorem dX10_doDeed_57 : decode cX10_doDeed 57 = .ok (.aload_n 0, 1) := by decide +kernel
theorem dX10_doDeed_58 : decode cX10_doDeed 58 = .ok (.getfield 108, 3) := by decide +kernel
theorem dX10_doDeed_61 : decode cX10_doDeed 61 = .ok (.iaload, 1) := by decide +kernel
theorem dX10_doDeed_62 : decode cX10_doDeed 62 = .ok (.istore_n 2, 1) := by decide +kernel
theorem dX10_doDeed_63 : decode cX10_doDeed 63 = .ok (.aload_n 0, 1) := by decide +kernel
theorem dX10_doDeed_64 : decode cX10_doDeed 64 = .ok (.getfield 15, 3) := by decide +kernel
theorem dX10_doDeed_67 : decode cX10_doDeed 67 = .ok (.getfield 120, 3) := by decide +kernel
theorem tw_890 : (.fieldLink RX10 120 "PocketCompiler$Program" "ys" "[I" : Cond) ∈ tw_W := tw_in (t8_1 (List.mem_of_getElem? (i := 136) rfl)) rfl
theorem dX10_doDeed_70 : decode cX10_doDeed 70 = .ok (.aload_n 0, 1) := by decide +kernel
theorem dX10_doDeed_71 : decode cX10_doDeed 71 = .ok (.getfield 108, 3) := by decide +kernel
theorem dX10_doDeed_74 : decode cX10_doDeed 74 = .ok (.iaload, 1) := by decide +kernel
theorem dX10_doDeed_75 : decode cX10_doDeed 75 = .ok (.istore_n 3, 1) := by decide +kernel
theorem dX10_doDeed_76 : decode cX10_doDeed 76 = .ok (.aload_n 0, 1) := by decide +kernel
theorem dX10_doDeed_77 : decode cX10_doDeed 77 = .ok (.dup, 1) := by decide +kernel
theorem dX10_doDeed_78 : decode cX10_doDeed 78 = .ok (.getfield 108, 3) := by decide +kernel
theorem dX10_doDeed_81 : decode cX10_doDeed 81 = .ok (.iconst 1, 1) := by decide +kernel
theorem dX10_doDeed_82 : decode cX10_doDeed 82 = .ok (.iadd, 1) := by decide +kernel
theorem dX10_doDeed_83 : decode cX10_doDeed 83 = .ok (.putfield 108, 3) := by decide +kernel
theorem dX10_doDeed_86 : decode cX10_doDeed 86 = .ok (.iload_n 1, 1) := by decide +kernel
theorem dX10_doDeed_87 : decode cX10_doDeed 87 = .ok (.tableswitch 275 1 24 #[109, 116, 124, 136, 275, 275, 275, 275, 275, 275, 275, 148, 160, 179, 192, 275, 275, 275, 275, 211, 224, 233, 240, 268], 109) := by decide +kernel
theorem dX10_doDeed_196 : decode cX10_doDeed 196 = .ok (.aload_n 0, 1) := by decide +kernel
theorem dX10_doDeed_197 : decode cX10_doDeed 197 = .ok (.invokevirtual 123, 3) := by decide +kernel
theorem tw_891 : (.code yX10_leaveFunction cX10_leaveFunction 2 none : Cond) ∈ tw_W := tw_in (t8_8 (List.mem_of_getElem? (i := 193) rfl)) rfl
theorem tw_892 : ∀ w ∈ ([.methodLink RX10 123 yX10_leaveFunction, .instanceMethod yX10_leaveFunction, .selects RX10 yX10_leaveFunction yX10_leaveFunction, .initialized RX10] : List Cond), w ∈ tw_W := al_c (tw_in (t8_8 (List.mem_of_getElem? (i := 190) rfl)) rfl) (al_c (tw_in (t8_8 (List.mem_of_getElem? (i := 192) rfl)) rfl) (al_c (tw_in (t7_7 (q := (yX10_leaveFunction, 17)) (List.mem_of_getElem? (i := 1) rfl)) rfl) (al_c (tw_in (t8_1 (List.mem_of_getElem? (i := 15) rfl)) rfl) al_n)))
theorem dX10_doDeed_200 : decode cX10_doDeed 200 = .ok (.goto 190, 3) := by decide +kernel
theorem dX10_doDeed_390 : decode cX10_doDeed 390 = .ok (.return_, 1) := by decide +kernel
theorem dX10_doDeed_203 : decode cX10_doDeed 203 = .ok (.aload_n 0, 1) := by decide +kernel
theorem dX10_doDeed_204 : decode cX10_doDeed 204 = .ok (.iload_n 2, 1) := by decide +kernel
theorem dX10_doDeed_205 : decode cX10_doDeed 205 = .ok (.putfield 40, 3) := by decide +kernel
theorem dX10_doDeed_208 : decode cX10_doDeed 208 = .ok (.goto 182, 3) := by decide +kernel
theorem dX10_doDeed_211 : decode cX10_doDeed 211 = .ok (.aload_n 0, 1) := by decide +kernel
theorem dX10_doDeed_212 : decode cX10_doDeed 212 = .ok (.aload_n 0, 1) := by decide +kernel
theorem dX10_doDeed_213 : decode cX10_doDeed 213 = .ok (.iload_n 2, 1) := by decide +kernel
theorem dX10_doDeed_214 : decode cX10_doDeed 214 = .ok (.invokevirtual 126, 3) := by decide +kernel
theorem dX10_doDeed_217 : decode cX10_doDeed 217 = .ok (.putfield 40, 3) := by decide +kernel
theorem dX10_doDeed_220 : decode cX10_doDeed 220 = .ok (.goto 170, 3) := by decide +kernel
theorem dX10_doDeed_223 : decode cX10_doDeed 223 = .ok (.aload_n 0, 1) := by decide +kernel
theorem dX10_doDeed_224 : decode cX10_doDeed 224 = .ok (.iload_n 2, 1) := by decide +kernel
theorem dX10_doDeed_225 : decode cX10_doDeed 225 = .ok (.aload_n 0, 1) := by decide +kernel
theorem dX10_doDeed_226 : decode cX10_doDeed 226 = .ok (.getfield 40, 3) := by decide +kernel
theorem dX10_doDeed_229 : decode cX10_doDeed 229 = .ok (.invokevirtual 90, 3) := by decide +kernel
theorem dX10_doDeed_232 : decode cX10_doDeed 232 = .ok (.goto 158, 3) := by decide +kernel
theorem dX10_doDeed_362 : decode cX10_doDeed 362 = .ok (.iload_n 1, 1) := by decide +kernel
theorem dX10_doDeed_363 : decode cX10_doDeed 363 = .ok (.bipush 16, 2) := by decide +kernel
theorem dX10_doDeed_365 : decode cX10_doDeed 365 = .ok (.if_icmp .lt 18, 3) := by decide +kernel
theorem dX10_doDeed_383 : decode cX10_doDeed 383 = .ok (.aload_n 0, 1) := by decide +kernel
theorem dX10_doDeed_384 : decode cX10_doDeed 384 = .ok (.iload_n 1, 1) := by decide +kernel
theorem dX10_doDeed_385 : decode cX10_doDeed 385 = .ok (.iload_n 2, 1) := by decide +kernel
theorem dX10_doDeed_386 : decode cX10_doDeed 386 = .ok (.iload_n 3, 1) := by decide +kernel
theorem dX10_doDeed_387 : decode cX10_doDeed 387 = .ok (.invokevirtual 146, 3) := by decide +kernel
theorem tw_893 : (.code yX10_doPlace cX10_doPlace 4 none : Cond) ∈ tw_W := tw_in (t8_8 (List.mem_of_getElem? (i := 229) rfl)) rfl
theorem tw_894 : ∀ w ∈ ([.methodLink RX10 146 yX10_doPlace, .instanceMethod yX10_doPlace, .selects RX10 yX10_doPlace yX10_doPlace, .initialized RX10] : List Cond), w ∈ tw_W := al_c (tw_in (t8_8 (List.mem_of_getElem? (i := 226) rfl)) rfl) (al_c (tw_in (t8_8 (List.mem_of_getElem? (i := 228) rfl)) rfl) (al_c (tw_in (t7_7 (q := (yX10_doPlace, 17)) (List.mem_of_getElem? (i := 9) rfl)) rfl) (al_c (tw_in (t8_1 (List.mem_of_getElem? (i := 15) rfl)) rfl) al_n)))
theorem dX10_doDeed_235 : decode cX10_doDeed 235 = .ok (.aload_n 0, 1) := by decide +kernel
theorem dX10_doDeed_236 : decode cX10_doDeed 236 = .ok (.aload_n 0, 1) := by decide +kernel
theorem dX10_doDeed_237 : decode cX10_doDeed 237 = .ok (.getfield 40, 3) := by decide +kernel
theorem dX10_doDeed_240 : decode cX10_doDeed 240 = .ok (.ineg, 1) := by decide +kernel
theorem dX10_doDeed_241 : decode cX10_doDeed 241 = .ok (.putfield 40, 3) := by decide +kernel
theorem dX10_doDeed_244 : decode cX10_doDeed 244 = .ok (.goto 146, 3) := by decide +kernel
theorem dX10_doDeed_247 : decode cX10_doDeed 247 = .ok (.aload_n 0, 1) := by decide +kernel
theorem dX10_doDeed_248 : decode cX10_doDeed 248 = .ok (.aload_n 0, 1) := by decide +kernel
theorem dX10_doDeed_249 : decode cX10_doDeed 249 = .ok (.getfield 40, 3) := by decide +kernel
theorem dX10_doDeed_252 : decode cX10_doDeed 252 = .ok (.ifCond .ne 7, 3) := by decide +kernel
theorem dX10_doDeed_259 : decode cX10_doDeed 259 = .ok (.iconst 0, 1) := by decide +kernel
theorem dX10_doDeed_260 : decode cX10_doDeed 260 = .ok (.putfield 40, 3) := by decide +kernel
theorem dX10_doDeed_263 : decode cX10_doDeed 263 = .ok (.goto 127, 3) := by decide +kernel
theorem dX10_doDeed_255 : decode cX10_doDeed 255 = .ok (.iconst 1, 1) := by decide +kernel
theorem dX10_doDeed_256 : decode cX10_doDeed 256 = .ok (.goto 4, 3) := by decide +kernel
theorem dX10_doDeed_266 : decode cX10_doDeed 266 = .ok (.aload_n 0, 1) := by decide +kernel
theorem dX10_doDeed_267 : decode cX10_doDeed 267 = .ok (.aload_n 0, 1) := by decide +kernel
theorem dX10_doDeed_268 : decode cX10_doDeed 268 = .ok (.getfield 40, 3) := by decide +kernel
theorem dX10_doDeed_271 : decode cX10_doDeed 271 = .ok (.iconst (-1), 1) := by decide +kernel
theorem dX10_doDeed_272 : decode cX10_doDeed 272 = .ok (.ixor, 1) := by decide +kernel
theorem dX10_doDeed_273 : decode cX10_doDeed 273 = .ok (.putfield 40, 3) := by decide +kernel
theorem dX10_doDeed_276 : decode cX10_doDeed 276 = .ok (.goto 114, 3) := by decide +kernel
theorem dX10_doDeed_279 : decode cX10_doDeed 279 = .ok (.aload_n 0, 1) := by decide +kernel
theorem dX10_doDeed_280 : decode cX10_doDeed 280 = .ok (.aload_n 0, 1) := by decide +kernel
theorem dX10_doDeed_281 : decode cX10_doDeed 281 = .ok (.getfield 40, 3) := by decide +kernel
theorem dX10_doDeed_284 : decode cX10_doDeed 284 = .ok (.ifCond .eq 7, 3) := by decide +kernel
theorem dX10_doDeed_291 : decode cX10_doDeed 291 = .ok (.iconst 0, 1) := by decide +kernel
theorem dX10_doDeed_292 : decode cX10_doDeed 292 = .ok (.putfield 40, 3) := by decide +kernel
theorem dX10_doDeed_295 : decode cX10_doDeed 295 = .ok (.goto 95, 3) := by decide +kernel
theorem dX10_doDeed_287 : decode cX10_doDeed 287 = .ok (.iconst 1, 1) := by decide +kernel
theorem dX10_doDeed_288 : decode cX10_doDeed 288 = .ok (.goto 4, 3) := by decide +kernel
theorem dX10_doDeed_368 : decode cX10_doDeed 368 = .ok (.iload_n 1, 1) := by decide +kernel
theorem dX10_doDeed_369 : decode cX10_doDeed 369 = .ok (.bipush 19, 2) := by decide +kernel
theorem dX10_doDeed_371 : decode cX10_doDeed 371 = .ok (.if_icmp .gt 12, 3) := by decide +kernel
theorem dX10_doDeed_374 : decode cX10_doDeed 374 = .ok (.aload_n 0, 1) := by decide +kernel
theorem dX10_doDeed_375 : decode cX10_doDeed 375 = .ok (.iload_n 1, 1) := by decide +kernel
theorem dX10_doDeed_376 : decode cX10_doDeed 376 = .ok (.iload_n 2, 1) := by decide +kernel
theorem dX10_doDeed_377 : decode cX10_doDeed 377 = .ok (.invokevirtual 143, 3) := by decide +kernel
theorem tw_895 : (.code yX10_doJump cX10_doJump 4 none : Cond) ∈ tw_W := tw_in (t8_8 (List.mem_of_getElem? (i := 225) rfl)) rfl
theorem tw_896 : ∀ w ∈ ([.methodLink RX10 143 yX10_doJump, .instanceMethod yX10_doJump, .selects RX10 yX10_doJump yX10_doJump, .initialized RX10] : List Cond), w ∈ tw_W := al_c (tw_in (t8_8 (List.mem_of_getElem? (i := 222) rfl)) rfl) (al_c (tw_in (t8_8 (List.mem_of_getElem? (i := 224) rfl)) rfl) (al_c (tw_in (t7_7 (q := (yX10_doJump, 17)) (List.mem_of_getElem? (i := 8) rfl)) rfl) (al_c (tw_in (t8_1 (List.mem_of_getElem? (i := 15) rfl)) rfl) al_n)))
theorem dX10_doDeed_380 : decode cX10_doDeed 380 = .ok (.goto 10, 3) := by decide +kernel
theorem dX10_doDeed_298 : decode cX10_doDeed 298 = .ok (.aload_n 0, 1) := by decide +kernel
theorem dX10_doDeed_299 : decode cX10_doDeed 299 = .ok (.iload_n 2, 1) := by decide +kernel
theorem dX10_doDeed_300 : decode cX10_doDeed 300 = .ok (.aload_n 0, 1) := by decide +kernel
theorem dX10_doDeed_301 : decode cX10_doDeed 301 = .ok (.iload_n 3, 1) := by decide +kernel
theorem dX10_doDeed_302 : decode cX10_doDeed 302 = .ok (.invokevirtual 126, 3) := by decide +kernel
theorem dX10_doDeed_305 : decode cX10_doDeed 305 = .ok (.invokevirtual 129, 3) := by decide +kernel
theorem tw_897 : (.code yX10_join cX10_join 3 none : Cond) ∈ tw_W := tw_in (t8_8 (List.mem_of_getElem? (i := 205) rfl)) rfl
theorem tw_898 : ∀ w ∈ ([.methodLink RX10 129 yX10_join, .instanceMethod yX10_join, .selects RX10 yX10_join yX10_join, .initialized RX10] : List Cond), w ∈ tw_W := al_c (tw_in (t8_8 (List.mem_of_getElem? (i := 202) rfl)) rfl) (al_c (tw_in (t8_8 (List.mem_of_getElem? (i := 204) rfl)) rfl) (al_c (tw_in (t7_7 (q := (yX10_join, 17)) (List.mem_of_getElem? (i := 4) rfl)) rfl) (al_c (tw_in (t8_1 (List.mem_of_getElem? (i := 15) rfl)) rfl) al_n)))
theorem dX10_doDeed_308 : decode cX10_doDeed 308 = .ok (.goto 82, 3) := by decide +kernel
theorem dX10_doDeed_311 : decode cX10_doDeed 311 = .ok (.aload_n 0, 1) := by decide +kernel
theorem dX10_doDeed_312 : decode cX10_doDeed 312 = .ok (.iload_n 2, 1) := by decide +kernel
theorem dX10_doDeed_313 : decode cX10_doDeed 313 = .ok (.iload_n 3, 1) := by decide +kernel
theorem dX10_doDeed_314 : decode cX10_doDeed 314 = .ok (.invokevirtual 132, 3) := by decide +kernel
theorem tw_899 : (.code yX10_callFunction cX10_callFunction 5 none : Cond) ∈ tw_W := tw_in (t8_8 (List.mem_of_getElem? (i := 216) rfl)) rfl
theorem tw_900 : ∀ w ∈ ([.methodLink RX10 132 yX10_callFunction, .instanceMethod yX10_callFunction, .selects RX10 yX10_callFunction yX10_callFunction, .initialized RX10] : List Cond), w ∈ tw_W := al_c (tw_in (t8_8 (List.mem_of_getElem? (i := 213) rfl)) rfl) (al_c (tw_in (t8_8 (List.mem_of_getElem? (i := 215) rfl)) rfl) (al_c (tw_in (t7_7 (q := (yX10_callFunction, 17)) (List.mem_of_getElem? (i := 6) rfl)) rfl) (al_c (tw_in (t8_1 (List.mem_of_getElem? (i := 15) rfl)) rfl) al_n)))
theorem dX10_doDeed_317 : decode cX10_doDeed 317 = .ok (.goto 73, 3) := by decide +kernel
theorem dX10_doDeed_320 : decode cX10_doDeed 320 = .ok (.aload_n 0, 1) := by decide +kernel
theorem dX10_doDeed_321 : decode cX10_doDeed 321 = .ok (.invokevirtual 135, 3) := by decide +kernel
theorem tw_901 : (.code yX10_putHand cX10_putHand 1 none : Cond) ∈ tw_W := tw_in (t8_8 (List.mem_of_getElem? (i := 220) rfl)) rfl
theorem tw_902 : ∀ w ∈ ([.methodLink RX10 135 yX10_putHand, .instanceMethod yX10_putHand, .selects RX10 yX10_putHand yX10_putHand, .initialized RX10] : List Cond), w ∈ tw_W := al_c (tw_in (t8_8 (List.mem_of_getElem? (i := 217) rfl)) rfl) (al_c (tw_in (t8_8 (List.mem_of_getElem? (i := 219) rfl)) rfl) (al_c (tw_in (t7_7 (q := (yX10_putHand, 17)) (List.mem_of_getElem? (i := 7) rfl)) rfl) (al_c (tw_in (t8_1 (List.mem_of_getElem? (i := 15) rfl)) rfl) al_n)))
theorem dX10_doDeed_324 : decode cX10_doDeed 324 = .ok (.goto 66, 3) := by decide +kernel
theorem dX10_doDeed_327 : decode cX10_doDeed 327 = .ok (.aload_n 0, 1) := by decide +kernel
theorem dX10_doDeed_328 : decode cX10_doDeed 328 = .ok (.aload_n 0, 1) := by decide +kernel
theorem dX10_doDeed_329 : decode cX10_doDeed 329 = .ok (.getfield 19, 3) := by decide +kernel
theorem tw_903 : (.fieldLink RX10 19 "PocketCompiler$Worker" "gifts" "LPocketCompiler$Gifts;" : Cond) ∈ tw_W := tw_in (t8_2 (List.mem_of_getElem? (i := 157) rfl)) rfl
theorem dX10_doDeed_332 : decode cX10_doDeed 332 = .ok (.aload_n 0, 1) := by decide +kernel
theorem dX10_doDeed_333 : decode cX10_doDeed 333 = .ok (.getfield 52, 3) := by decide +kernel
theorem dX10_doDeed_336 : decode cX10_doDeed 336 = .ok (.invokevirtual 138, 3) := by decide +kernel
theorem tw_904 : ∀ w ∈ ([.methodLink RX10 138 yX3_numberAt, .instanceMethod yX3_numberAt, .selects RX3 yX3_numberAt yX3_numberAt, .initialized RX3] : List Cond), w ∈ tw_W := al_c (tw_in (t8_8 (List.mem_of_getElem? (i := 221) rfl)) rfl) (al_c (tw_in (t8_6 (List.mem_of_getElem? (i := 140) rfl)) rfl) (al_c (tw_in (t8_6 (List.mem_of_getElem? (i := 141) rfl)) rfl) (al_c (tw_in (t8_1 (List.mem_of_getElem? (i := 2) rfl)) rfl) al_n)))
theorem dX10_doDeed_339 : decode cX10_doDeed 339 = .ok (.putfield 40, 3) := by decide +kernel
theorem dX10_doDeed_342 : decode cX10_doDeed 342 = .ok (.aload_n 0, 1) := by decide +kernel
theorem dX10_doDeed_343 : decode cX10_doDeed 343 = .ok (.dup, 1) := by decide +kernel
theorem dX10_doDeed_344 : decode cX10_doDeed 344 = .ok (.getfield 52, 3) := by decide +kernel
theorem dX10_doDeed_347 : decode cX10_doDeed 347 = .ok (.iconst 1, 1) := by decide +kernel
theorem dX10_doDeed_348 : decode cX10_doDeed 348 = .ok (.iadd, 1) := by decide +kernel
theorem dX10_doDeed_349 : decode cX10_doDeed 349 = .ok (.putfield 52, 3) := by decide +kernel
theorem dX10_doDeed_352 : decode cX10_doDeed 352 = .ok (.goto 38, 3) := by decide +kernel
theorem dX10_doDeed_355 : decode cX10_doDeed 355 = .ok (.aload_n 0, 1) := by decide +kernel
theorem dX10_doDeed_356 : decode cX10_doDeed 356 = .ok (.invokevirtual 100, 3) := by decide +kernel
theorem dX10_doDeed_359 : decode cX10_doDeed 359 = .ok (.goto 31, 3) := by decide +kernel
theorem dX10_perform_0 : decode cX10_perform 0 = .ok (.aload_n 0, 1) := by decide +kernel
theorem dX10_perform_1 : decode cX10_perform 1 = .ok (.getfield 15, 3) := by decide +kernel
theorem dX10_perform_4 : decode cX10_perform 4 = .ok (.iload_n 1, 1) := by decide +kernel
theorem dX10_perform_5 : decode cX10_perform 5 = .ok (.iconst 0, 1) := by decide +kernel
theorem dX10_perform_6 : decode cX10_perform 6 = .ok (.invokevirtual 83, 3) := by decide +kernel
theorem dX10_perform_9 : decode cX10_perform 9 = .ok (.istore 4, 2) := by decide +kernel
theorem dX10_perform_11 : decode cX10_perform 11 = .ok (.aload_n 0, 1) := by decide +kernel
theorem dX10_perform_12 : decode cX10_perform 12 = .ok (.iload_n 1, 1) := by decide +kernel
theorem dX10_perform_13 : decode cX10_perform 13 = .ok (.iconst (-1), 1) := by decide +kernel
theorem dX10_perform_14 : decode cX10_perform 14 = .ok (.invokevirtual 87, 3) := by decide +kernel
theorem dX10_perform_17 : decode cX10_perform 17 = .ok (.aload_n 0, 1) := by decide +kernel
theorem dX10_perform_18 : decode cX10_perform 18 = .ok (.getfield 37, 3) := by decide +kernel
theorem dX10_perform_21 : decode cX10_perform 21 = .ok (.iconst (-1), 1) := by decide +kernel
theorem dX10_perform_22 : decode cX10_perform 22 = .ok (.if_icmp .ne 14, 3) := by decide +kernel
theorem dX10_perform_36 : decode cX10_perform 36 = .ok (.aload_n 0, 1) := by decide +kernel
theorem dX10_perform_37 : decode cX10_perform 37 = .ok (.getfield 37, 3) := by decide +kernel
theorem dX10_perform_40 : decode cX10_perform 40 = .ok (.iconst (-1), 1) := by decide +kernel
theorem dX10_perform_41 : decode cX10_perform 41 = .ok (.if_icmp .ne 15, 3) := by decide +kernel
theorem dX10_perform_56 : decode cX10_perform 56 = .ok (.iconst 0, 1) := by decide +kernel
theorem dX10_perform_57 : decode cX10_perform 57 = .ok (.istore 5, 2) := by decide +kernel
theorem dX10_perform_59 : decode cX10_perform 59 = .ok (.iload 5, 2) := by decide +kernel
theorem dX10_perform_61 : decode cX10_perform 61 = .ok (.ldc 93, 2) := by decide +kernel
theorem tw_905 : (.constant RX10 93 (1000000000) : Cond) ∈ tw_W := tw_in (t8_8 (List.mem_of_getElem? (i := 185) rfl)) rfl
theorem dX10_perform_63 : decode cX10_perform 63 = .ok (.if_icmp .ge 21, 3) := by decide +kernel
theorem dX10_perform_84 : decode cX10_perform 84 = .ok (.aload_n 0, 1) := by decide +kernel
theorem dX10_perform_85 : decode cX10_perform 85 = .ok (.getfield 37, 3) := by decide +kernel
theorem dX10_perform_88 : decode cX10_perform 88 = .ok (.ireturn, 1) := by decide +kernel
theorem dX10_perform_66 : decode cX10_perform 66 = .ok (.aload_n 0, 1) := by decide +kernel
theorem dX10_perform_67 : decode cX10_perform 67 = .ok (.getfield 37, 3) := by decide +kernel
theorem dX10_perform_70 : decode cX10_perform 70 = .ok (.iconst (-1), 1) := by decide +kernel
theorem dX10_perform_71 : decode cX10_perform 71 = .ok (.if_icmp .ne 13, 3) := by decide +kernel
theorem dX10_perform_74 : decode cX10_perform 74 = .ok (.aload_n 0, 1) := by decide +kernel
theorem dX10_perform_75 : decode cX10_perform 75 = .ok (.invokevirtual 94, 3) := by decide +kernel
theorem tw_906 : (.code yX10_doDeed cX10_doDeed 4 none : Cond) ∈ tw_W := tw_in (t8_8 (List.mem_of_getElem? (i := 189) rfl)) rfl
theorem tw_907 : ∀ w ∈ ([.methodLink RX10 94 yX10_doDeed, .instanceMethod yX10_doDeed, .selects RX10 yX10_doDeed yX10_doDeed, .initialized RX10] : List Cond), w ∈ tw_W := al_c (tw_in (t8_8 (List.mem_of_getElem? (i := 186) rfl)) rfl) (al_c (tw_in (t8_8 (List.mem_of_getElem? (i := 188) rfl)) rfl) (al_c (tw_in (t7_7 (q := (yX10_doDeed, 17)) (List.mem_of_getElem? (i := 0) rfl)) rfl) (al_c (tw_in (t8_1 (List.mem_of_getElem? (i := 15) rfl)) rfl) al_n)))
theorem dX10_perform_78 : decode cX10_perform 78 = .ok (.iinc 5 1, 3) := by decide +kernel
theorem dX10_perform_81 : decode cX10_perform 81 = .ok (.goto (-22), 3) := by decide +kernel
theorem dX10_perform_25 : decode cX10_perform 25 = .ok (.iload 4, 2) := by decide +kernel
theorem dX10_perform_27 : decode cX10_perform 27 = .ok (.ifCond .le 9, 3) := by decide +kernel
theorem dX10_perform_44 : decode cX10_perform 44 = .ok (.iload 4, 2) := by decide +kernel
theorem dX10_perform_46 : decode cX10_perform 46 = .ok (.iconst 1, 1) := by decide +kernel
theorem dX10_perform_47 : decode cX10_perform 47 = .ok (.if_icmp .le 9, 3) := by decide +kernel
theorem dX10_perform_30 : decode cX10_perform 30 = .ok (.aload_n 0, 1) := by decide +kernel
theorem dX10_perform_31 : decode cX10_perform 31 = .ok (.iconst 0, 1) := by decide +kernel
theorem dX10_perform_32 : decode cX10_perform 32 = .ok (.iload_n 2, 1) := by decide +kernel
theorem dX10_perform_33 : decode cX10_perform 33 = .ok (.invokevirtual 90, 3) := by decide +kernel
theorem dX10_perform_50 : decode cX10_perform 50 = .ok (.aload_n 0, 1) := by decide +kernel
theorem dX10_perform_51 : decode cX10_perform 51 = .ok (.iconst 1, 1) := by decide +kernel
theorem dX10_perform_52 : decode cX10_perform 52 = .ok (.iload_n 3, 1) := by decide +kernel
theorem dX10_perform_53 : decode cX10_perform 53 = .ok (.invokevirtual 90, 3) := by decide +kernel
set_option maxHeartbeats 4000000 in
set_option maxRecDepth 100000 in
theorem c_x_X10_putHand (l : Launch) (dC : Nat → ClassId) (dI : Nat → Nat → Nat) (cI cB cZ cJ cR : ClassId) (tb : Nat → Nat) (sz : Nat) (ad : Nat → Nat) (pr : Int32 → Nat) (N : Nat) (L1 L2 : List Nat) (v : MS)  (zq : 0 ≤ (v.1 0 370).toInt ∧ (v.1 0 370).toInt ≤ 2000000000) : Met l yX10_putHand (Cond.code yX10_putHand cX10_putHand 1 none :: tw_W) ({ frames := 0, cells := 0, slots := 0, locals := 0 }) (pc_ (dC, dI) (tyS cI cB cZ cJ cR) tb (cW ad pr N cI cR L1 L2 v) sz [.ref (ad 907)]) (qv_ (dC, dI) (cW ad pr N cI cR L1 L2 v) sz (fun (u : MS) => FC [370] [0, 360] v u ∧ (Q_x_X10_putHand L1 L2 v u) ∧ ((v.1 0 370).toInt ≤ (u.1 0 370).toInt ∧ (u.1 0 370).toInt ≤ (v.1 0 370).toInt + 1) ∧ (RS0 v u)) (fun (u : MS) => (cW ad pr N cI cR L1 L2 u))) 0 0 (va_A (cW ad pr N cI cR L1 L2 v) sz) := by
  refine Met.ofW (cc := cX10_putHand) (maxL := 1) (ret := none) (by decide) rfl ?_
  intro p e s m args below meth c s₁ B hml hv
  obtain ⟨rfl, hsz, hP, hKK, hD0, hFx⟩ := hv
  have hK := hKK.1
  have hx := B.exec
  have hb := B.bytes
  have hr := B.returns
  have ht : ∀ w ∈ tw_W, w.before _ s = true := fun w h => atoms_spec (ws := Cond.code yX10_putHand cX10_putHand 1 none :: tw_W) B.pre w (List.mem_cons_of_mem _ h)
  have hown : s.vm.findClass RX10 = some m.cls := findClass_of_methodNamed B.named
  have hlocks := B.notSynchronized
  subst hsz
  unfold qv_
  have hD := hD0.self (sz := s.heap.size)
  generalize hAe : va_A (cW ad pr N cI cR L1 L2 v) s.heap.size = A at hD hFx ⊢
  have hA : ∀ q : Nat, s.heap.size ≤ q → A q := fun q h => by rw [← hAe]; exact Or.inr h
  have hS : va_S A s.heap s.heap [] := va_S.rf
  have hl := lv_entry ([.ref (ad 907)]) (n := 1) (Nat.le_of_ble_eq_true rfl)
  rw [lg_entry_eq]
  generalize (lg_sl ([.ref (ad 907)]) ++ List.replicate (1 - (lg_sl ([.ref (ad 907)])).length) Slot.unset).toArray = ls at hl ⊢
  have hl : lv_has ls 1 [(0, .ref (ad 907))] := hl
  refine lv_aload_n hx hb dX10_putHand_0 rfl (lv_at hl 0 rfl) ?_
  refine va_get (D := (dC, dI)) (ci := 13) (fs := oF_X10 ad pr v) (v := .int (v.1 0 370)) (C := RX10) (T := TX10) (N := 17) hx hb ht itX10 hown hK hP 7 rfl rfl 15 (by decide) (ht _ tw_845) (fun _ h9 => h9) rfl dX10_putHand_1 ?_
  refine lv_sipush (v := 200) hx hb dX10_putHand_4 (by decide) ?_
  refine lv_icmp_ge (tgt := 23) hx hb dX10_putHand_7 (by decide) (fun h1 => ?_) (fun h1 => ?_)
  · have z2 : (200 : Int) ≤ (v.1 0 370).toInt := le_z (show (200 : Int32).toInt = (200 : Int) by decide) rfl h1
    refine lv_aload_n hx hb dX10_putHand_23 rfl (lv_at hl 0 rfl) ?_
    refine lv_dup hx hb dX10_putHand_24 rfl ?_
    refine va_get (D := (dC, dI)) (ci := 13) (fs := oF_X10 ad pr v) (v := .int (v.1 0 370)) (C := RX10) (T := TX10) (N := 17) hx hb ht itX10 hown hK hP 7 rfl rfl 15 (by decide) (ht _ tw_845) (fun _ h9 => h9) rfl dX10_putHand_25 ?_
    refine lv_iconst (v := 1) hx hb dX10_putHand_28 (by decide) ?_
    refine lv_iadd hx hb dX10_putHand_29 ?_
    have z3 : ((v.1 0 370) + (1 : Int32)).toInt = ((v.1 0 370).toInt) + (1 : Int) := add_z rfl (show (1 : Int32).toInt = (1 : Int) by decide) (om_b65f4561e5 z2) (om_62e6f89c45 zq)
    refine va_put (D := (dC, dI)) (ci := 13) (fs := oF_X10 ad pr v) (v := .int ((v.1 0 370) + (1 : Int32))) (ty := .int) (C := RX10) (T := TX10) (N := 17) hx hb ht itX10 tyX10 tyX10_ok nmX10 hown hK hP hD hS 7 rfl rfl 15 (by decide) (ht _ tw_845) (fun _ h9 => h9) rfl (by decide +kernel) rfl rfl (Nat.le_of_ble_eq_true rfl) dX10_putHand_30 (fun H locs hP hD hS => ?_)
    have hP := cP_ (cw_370 ad pr N cI cR L1 L2 v ((v.1 0 370) + (1 : Int32))) hP
    have hD := cD_ (cw_370 ad pr N cI cR L1 L2 v ((v.1 0 370) + (1 : Int32))) hD
    exact W.vret hx hb hr (fun t ht9 hW => ⟨⟨(wA v 0 370 ((v.1 0 370) + (1 : Int32))), rfl, ⟨(FC.f (FC.rf _) ((v.1 0 370) + (1 : Int32)) (by decide)), ⟨zq, (Or.inl ⟨z2, rfl⟩)⟩, (show (v.1 0 370).toInt ≤ ((v.1 0 370) + (1 : Int32)).toInt ∧ ((v.1 0 370) + (1 : Int32)).toInt ≤ (v.1 0 370).toInt + 1 from (om_18ed0e1cae z3)), (RS0.w RS0.rf (by decide))⟩, by rw [ht9]; exact hP, hD⟩, hS.F ht9⟩) hS.2.2 dX10_putHand_33
  · have z4 : (v.1 0 370).toInt < (200 : Int) := nle_z (show (200 : Int32).toInt = (200 : Int) by decide) rfl h1
    refine lv_aload_n hx hb dX10_putHand_10 rfl (lv_at hl 0 rfl) ?_
    refine va_get (D := (dC, dI)) (ci := 13) (fs := oF_X10 ad pr v) (v := .ref (ad 360)) (C := RX10) (T := TX10) (N := 17) hx hb ht itX10 hown hK hP 7 rfl rfl 5 (by decide) (ht _ tw_886) (fun _ h9 => h9) rfl dX10_putHand_11 ?_
    refine lv_aload_n hx hb dX10_putHand_14 rfl (lv_at hl 0 rfl) ?_
    refine va_get (D := (dC, dI)) (ci := 13) (fs := oF_X10 ad pr v) (v := .int (v.1 0 370)) (C := RX10) (T := TX10) (N := 17) hx hb ht itX10 hown hK hP 7 rfl rfl 15 (by decide) (ht _ tw_845) (fun _ h9 => h9) rfl dX10_putHand_15 ?_
    refine lv_aload_n hx hb dX10_putHand_18 rfl (lv_at hl 0 rfl) ?_
    refine va_get (D := (dC, dI)) (ci := 13) (fs := oF_X10 ad pr v) (v := .int (v.1 0 363)) (C := RX10) (T := TX10) (N := 17) hx hb ht itX10 hown hK hP 7 rfl rfl 8 (by decide) (ht _ tw_842) (fun _ h9 => h9) rfl dX10_putHand_19 ?_
    refine va_iast (D := (dC, dI)) (f := (v.1 360)) hx hb hK hP hD hS 27 0 rfl rfl (in_y (a := (v.1 0 370).toInt) (b := 200) rfl (om_360a6008fd zq) (om_2a12793f64 z4) rfl) dX10_putHand_22 (fun H locs hP hD hS => ?_)
    have hP := cP_ (cq_360 ad pr N cI cR L1 L2 v ((v.1 0 370).toNatClampNeg) (v.1 0 363)) hP
    have hD := cD_ (cq_360 ad pr N cI cR L1 L2 v ((v.1 0 370).toNatClampNeg) (v.1 0 363)) hD
    refine lv_aload_n hx hb dX10_putHand_23 rfl (lv_at hl 0 rfl) ?_
    refine lv_dup hx hb dX10_putHand_24 rfl ?_
    refine va_get (D := (dC, dI)) (ci := 13) (fs := oF_X10 ad pr (wA v 360 ((v.1 0 370).toNatClampNeg) (v.1 0 363))) (v := .int (v.1 0 370)) (C := RX10) (T := TX10) (N := 17) hx hb ht itX10 hown hK hP 7 rfl rfl 15 (by decide) (ht _ tw_845) (fun _ h9 => h9) rfl dX10_putHand_25 ?_
    refine lv_iconst (v := 1) hx hb dX10_putHand_28 (by decide) ?_
    refine lv_iadd hx hb dX10_putHand_29 ?_
    have z5 : ((v.1 0 370) + (1 : Int32)).toInt = ((v.1 0 370).toInt) + (1 : Int) := add_z rfl (show (1 : Int32).toInt = (1 : Int) by decide) (om_3eeef40734 zq) (om_62e6f89c45 zq)
    refine va_put (D := (dC, dI)) (ci := 13) (fs := oF_X10 ad pr (wA v 360 ((v.1 0 370).toNatClampNeg) (v.1 0 363))) (v := .int ((v.1 0 370) + (1 : Int32))) (ty := .int) (C := RX10) (T := TX10) (N := 17) hx hb ht itX10 tyX10 tyX10_ok nmX10 hown hK hP hD hS 7 rfl rfl 15 (by decide) (ht _ tw_845) (fun _ h9 => h9) rfl (by decide +kernel) rfl rfl (Nat.le_of_ble_eq_true rfl) dX10_putHand_30 (fun H locs hP hD hS => ?_)
    have hP := cP_ (cw_370 ad pr N cI cR L1 L2 (wA v 360 ((v.1 0 370).toNatClampNeg) (v.1 0 363)) ((v.1 0 370) + (1 : Int32))) hP
    have hD := cD_ (cw_370 ad pr N cI cR L1 L2 (wA v 360 ((v.1 0 370).toNatClampNeg) (v.1 0 363)) ((v.1 0 370) + (1 : Int32))) hD
    exact W.vret hx hb hr (fun t ht9 hW => ⟨⟨(wA (wA v 360 ((v.1 0 370).toNatClampNeg) (v.1 0 363)) 0 370 ((v.1 0 370) + (1 : Int32))), rfl, ⟨(FC.f (FC.a (FC.rf _) ((v.1 0 370).toNatClampNeg) (v.1 0 363) (by decide) (by decide)) ((v.1 0 370) + (1 : Int32)) (by decide)), ⟨zq, (Or.inr (⟨z4, rfl⟩))⟩, (show (v.1 0 370).toInt ≤ ((v.1 0 370) + (1 : Int32)).toInt ∧ ((v.1 0 370) + (1 : Int32)).toInt ≤ (v.1 0 370).toInt + 1 from (om_18ed0e1cae z5)), (RS0.w (RS0.w RS0.rf (by decide)) (by decide))⟩, by rw [ht9]; exact hP, hD⟩, hS.F ht9⟩) hS.2.2 dX10_putHand_33
theorem om_f21f355841 {x0 x1 : Int} (h0 : 0 ≤ x0 ∧ x0 ≤ 3008) (h1 : x1 < x0) (h2 : (3008 : Int) ≤ x1) : False := by omega
set_option maxHeartbeats 4000000 in
set_option maxRecDepth 100000 in
theorem c_x_X10_doDeed (l : Launch) (dC : Nat → ClassId) (dI : Nat → Nat → Nat) (cI cB cZ cJ cR : ClassId) (tb : Nat → Nat) (sz : Nat) (ad : Nat → Nat) (pr : Int32 → Nat) (N : Nat) (L1 L2 : List Nat) (v : MS) (ps : Int32) (z344 : 0 ≤ (v.1 0 344).toInt ∧ (v.1 0 344).toInt ≤ 64) (z381 : 0 ≤ (v.1 0 381).toInt ∧ (v.1 0 381).toInt ≤ 3008) (zNN : (N : Int) ≤ 4096) (hL1 : L1.length = 40) (hL2 : L2.length = 60) (rp : RP v) (hps : pr ps = ad 908) (es355 : (v.1 0 355) = ps) (zq : 0 ≤ (v.1 0 370).toInt ∧ (v.1 0 370).toInt ≤ 2000000000) : Met l yX10_doDeed (Cond.code yX10_doDeed cX10_doDeed 4 none :: tw_W) ({ frames := 4, cells := 0, slots := 0, locals := 87 }) (pc_ (dC, dI) (tyS cI cB cZ cJ cR) tb (cW ad pr N cI cR L1 L2 v) sz [.ref (ad 907)]) (qv_ (dC, dI) (cW ad pr N cI cR L1 L2 v) sz (fun (u : MS) => FC [362, 363, 364, 365, 366, 368, 369, 370, 371] [0, 358, 359, 360] v u ∧ (Q_x_X10_doDeed L1 L2 N v u) ∧ ((v.1 0 370).toInt ≤ (u.1 0 370).toInt ∧ (u.1 0 370).toInt ≤ (v.1 0 370).toInt + 1) ∧ (RS0 v u)) (fun (u : MS) => (cW ad pr N cI cR L1 L2 u))) 0 0 (va_A (cW ad pr N cI cR L1 L2 v) sz) := by
  refine Met.ofW (cc := cX10_doDeed) (maxL := 4) (ret := none) (by decide) rfl ?_
  intro p e s m args below meth c s₁ B hml hv
  obtain ⟨rfl, hsz, hP, hKK, hD0, hFx⟩ := hv
  have hK := hKK.1
  have hx := B.exec
  have hb := B.bytes
  have hr := B.returns
  have ht : ∀ w ∈ tw_W, w.before _ s = true := fun w h => atoms_spec (ws := Cond.code yX10_doDeed cX10_doDeed 4 none :: tw_W) B.pre w (List.mem_cons_of_mem _ h)
  have hown : s.vm.findClass RX10 = some m.cls := findClass_of_methodNamed B.named
  have hlocks := B.notSynchronized
  subst hsz
  unfold qv_
  have hD := hD0.self (sz := s.heap.size)
  generalize hAe : va_A (cW ad pr N cI cR L1 L2 v) s.heap.size = A at hD hFx ⊢
  have hA : ∀ q : Nat, s.heap.size ≤ q → A q := fun q h => by rw [← hAe]; exact Or.inr h
  have hS : va_S A s.heap s.heap [] := va_S.rf
  have hl := lv_entry ([.ref (ad 907)]) (n := 4) (Nat.le_of_ble_eq_true rfl)
  rw [lg_entry_eq]
  generalize (lg_sl ([.ref (ad 907)]) ++ List.replicate (4 - (lg_sl ([.ref (ad 907)])).length) Slot.unset).toArray = ls at hl ⊢
  have hl : lv_has ls 4 [(0, .ref (ad 907))] := hl
  refine lv_aload_n hx hb dX10_doDeed_0 rfl (lv_at hl 0 rfl) ?_
  refine va_get (D := (dC, dI)) (ci := 13) (fs := oF_X10 ad pr v) (v := .int (v.1 0 364)) (C := RX10) (T := TX10) (N := 17) hx hb ht itX10 hown hK hP 7 rfl rfl 9 (by decide) (ht _ tw_865) (fun _ h9 => h9) rfl dX10_doDeed_1 ?_
  refine lv_if_lt (tgt := 31) hx hb dX10_doDeed_4 (by decide) (fun h1 => ?_) (fun h1 => ?_)
  · have z2 : (v.1 0 364).toInt < (0 : Int) := lt_z rfl (show (0 : Int32).toInt = (0 : Int) by decide) h1
    refine lv_aload_n hx hb dX10_doDeed_31 rfl (lv_at hl 0 rfl) ?_
    refine lv_iconst (v := 4) hx hb dX10_doDeed_32 (by decide) ?_
    refine va_put (D := (dC, dI)) (ci := 13) (fs := oF_X10 ad pr v) (v := .int 4) (ty := .int) (C := RX10) (T := TX10) (N := 17) hx hb ht itX10 tyX10 tyX10_ok nmX10 hown hK hP hD hS 7 rfl rfl 7 (by decide) (ht _ tw_841) (fun _ h9 => h9) rfl (by decide +kernel) rfl rfl (Nat.le_of_ble_eq_true rfl) dX10_doDeed_33 (fun H locs hP hD hS => ?_)
    have hP := cP_ (cw_362 ad pr N cI cR L1 L2 v 4) hP
    have hD := cD_ (cw_362 ad pr N cI cR L1 L2 v 4) hD
    exact W.vret hx hb hr (fun t ht9 hW => ⟨⟨(wA v 0 362 4), rfl, ⟨(FC.f (FC.rf _) 4 (by decide)), ⟨z344, z381, zq, (Or.inl ⟨z2, rfl⟩)⟩, (show (v.1 0 370).toInt ≤ (v.1 0 370).toInt ∧ (v.1 0 370).toInt ≤ (v.1 0 370).toInt + 1 from om_b79dd2a91d), (RS0.w RS0.rf (by decide))⟩, by rw [ht9]; exact hP, hD⟩, hS.F ht9⟩) hS.2.2 dX10_doDeed_36
  · have z3 : (0 : Int) ≤ (v.1 0 364).toInt := nlt_z rfl (show (0 : Int32).toInt = (0 : Int) by decide) h1
    refine lv_aload_n hx hb dX10_doDeed_7 rfl (lv_at hl 0 rfl) ?_
    refine va_get (D := (dC, dI)) (ci := 13) (fs := oF_X10 ad pr v) (v := .int (v.1 0 364)) (C := RX10) (T := TX10) (N := 17) hx hb ht itX10 hown hK hP 7 rfl rfl 9 (by decide) (ht _ tw_865) (fun _ h9 => h9) rfl dX10_doDeed_8 ?_
    refine lv_aload_n hx hb dX10_doDeed_11 rfl (lv_at hl 0 rfl) ?_
    refine va_get (D := (dC, dI)) (ci := 13) (fs := oF_X10 ad pr v) (v := .ref (pr (v.1 0 355))) (C := RX10) (T := TX10) (N := 17) hx hb ht itX10 hown hK hP 7 rfl rfl 0 (by decide) (ht _ tw_857) (fun _ h9 => h9) rfl dX10_doDeed_12 ?_
    refine W.eq (g2 := F0 m 15 ls [.ref (ad 908), .int (v.1 0 364)]) (by rw [show pr (v.1 0 355) = (ad 908) from (by rw [show (v.1 0 355) = ps from es355]; exact hps)]) ?_
    refine va_get (D := (dC, dI)) (ci := 10) (fs := oF_X7 ad pr v) (v := .int (v.1 0 381)) (C := RX7) (T := TX7) (N := 13) hx hb ht itX7 hown hK hP 8 rfl rfl 9 (by decide) (ht _ tw_887) (fun _ h9 => h9) rfl dX10_doDeed_15 ?_
    refine lv_icmp_ge (tgt := 31) hx hb dX10_doDeed_18 (by decide) (fun h4 => ?_) (fun h4 => ?_)
    · have z5 : (v.1 0 381).toInt ≤ (v.1 0 364).toInt := le_z rfl rfl h4
      refine lv_aload_n hx hb dX10_doDeed_31 rfl (lv_at hl 0 rfl) ?_
      refine lv_iconst (v := 4) hx hb dX10_doDeed_32 (by decide) ?_
      refine va_put (D := (dC, dI)) (ci := 13) (fs := oF_X10 ad pr v) (v := .int 4) (ty := .int) (C := RX10) (T := TX10) (N := 17) hx hb ht itX10 tyX10 tyX10_ok nmX10 hown hK hP hD hS 7 rfl rfl 7 (by decide) (ht _ tw_841) (fun _ h9 => h9) rfl (by decide +kernel) rfl rfl (Nat.le_of_ble_eq_true rfl) dX10_doDeed_33 (fun H locs hP hD hS => ?_)
      have hP := cP_ (cw_362 ad pr N cI cR L1 L2 v 4) hP
      have hD := cD_ (cw_362 ad pr N cI cR L1 L2 v 4) hD
      exact W.vret hx hb hr (fun t ht9 hW => ⟨⟨(wA v 0 362 4), rfl, ⟨(FC.f (FC.rf _) 4 (by decide)), ⟨z344, z381, zq, (Or.inr (⟨z3, (Or.inl ⟨z5, rfl⟩)⟩))⟩, (show (v.1 0 370).toInt ≤ (v.1 0 370).toInt ∧ (v.1 0 370).toInt ≤ (v.1 0 370).toInt + 1 from om_b79dd2a91d), (RS0.w RS0.rf (by decide))⟩, by rw [ht9]; exact hP, hD⟩, hS.F ht9⟩) hS.2.2 dX10_doDeed_36
    · have z6 : (v.1 0 364).toInt < (v.1 0 381).toInt := nle_z rfl rfl h4
      refine lv_aload_n hx hb dX10_doDeed_21 rfl (lv_at hl 0 rfl) ?_
      refine va_get (D := (dC, dI)) (ci := 13) (fs := oF_X10 ad pr v) (v := .int (v.1 0 364)) (C := RX10) (T := TX10) (N := 17) hx hb ht itX10 hown hK hP 7 rfl rfl 9 (by decide) (ht _ tw_865) (fun _ h9 => h9) rfl dX10_doDeed_22 ?_
      refine lv_sipush (v := 3008) hx hb dX10_doDeed_25 (by decide) ?_
      refine lv_icmp_lt (tgt := 37) hx hb dX10_doDeed_28 (by decide) (fun h7 => ?_) (fun h7 => ?_)
      · have z8 : (v.1 0 364).toInt < (3008 : Int) := lt_z rfl (show (3008 : Int32).toInt = (3008 : Int) by decide) h7
        refine lv_aload_n hx hb dX10_doDeed_37 rfl (lv_at hl 0 rfl) ?_
        refine va_get (D := (dC, dI)) (ci := 13) (fs := oF_X10 ad pr v) (v := .ref (pr (v.1 0 355))) (C := RX10) (T := TX10) (N := 17) hx hb ht itX10 hown hK hP 7 rfl rfl 0 (by decide) (ht _ tw_857) (fun _ h9 => h9) rfl dX10_doDeed_38 ?_
        refine W.eq (g2 := F0 m 41 ls [.ref (ad 908)]) (by rw [show pr (v.1 0 355) = (ad 908) from (by rw [show (v.1 0 355) = ps from es355]; exact hps)]) ?_
        refine va_get (D := (dC, dI)) (ci := 10) (fs := oF_X7 ad pr v) (v := .ref (ad 378)) (C := RX7) (T := TX7) (N := 13) hx hb ht itX7 hown hK hP 8 rfl rfl 6 (by decide) (ht _ tw_888) (fun _ h9 => h9) rfl dX10_doDeed_41 ?_
        refine lv_aload_n hx hb dX10_doDeed_44 rfl (lv_at hl 0 rfl) ?_
        refine va_get (D := (dC, dI)) (ci := 13) (fs := oF_X10 ad pr v) (v := .int (v.1 0 364)) (C := RX10) (T := TX10) (N := 17) hx hb ht itX10 hown hK hP 7 rfl rfl 9 (by decide) (ht _ tw_865) (fun _ h9 => h9) rfl dX10_doDeed_45 ?_
        refine va_iald (D := (dC, dI)) (f := (v.1 378)) hx hb hK hP 29 0 rfl rfl (in_y (a := (v.1 0 364).toInt) (b := 3008) rfl (om_51058f7f87 z3) (om_f17a454137 z8) rfl) dX10_doDeed_48 ?_
        refine lv_istore_n (lv' := [(1, .int ((v.1 378) (v.1 0 364).toNatClampNeg)), (0, .ref (ad 907))]) hx hb dX10_doDeed_49 rfl hl (by decide) rfl (fun ls hl => ?_)
        refine lv_aload_n hx hb dX10_doDeed_50 rfl (lv_at hl 1 rfl) ?_
        refine va_get (D := (dC, dI)) (ci := 13) (fs := oF_X10 ad pr v) (v := .ref (pr (v.1 0 355))) (C := RX10) (T := TX10) (N := 17) hx hb ht itX10 hown hK hP 7 rfl rfl 0 (by decide) (ht _ tw_857) (fun _ h9 => h9) rfl dX10_doDeed_51 ?_
        refine W.eq (g2 := F0 m 54 ls [.ref (ad 908)]) (by rw [show pr (v.1 0 355) = (ad 908) from (by rw [show (v.1 0 355) = ps from es355]; exact hps)]) ?_
        refine va_get (D := (dC, dI)) (ci := 10) (fs := oF_X7 ad pr v) (v := .ref (ad 379)) (C := RX7) (T := TX7) (N := 13) hx hb ht itX7 hown hK hP 8 rfl rfl 7 (by decide) (ht _ tw_889) (fun _ h9 => h9) rfl dX10_doDeed_54 ?_
        refine lv_aload_n hx hb dX10_doDeed_57 rfl (lv_at hl 1 rfl) ?_
        refine va_get (D := (dC, dI)) (ci := 13) (fs := oF_X10 ad pr v) (v := .int (v.1 0 364)) (C := RX10) (T := TX10) (N := 17) hx hb ht itX10 hown hK hP 7 rfl rfl 9 (by decide) (ht _ tw_865) (fun _ h9 => h9) rfl dX10_doDeed_58 ?_
        refine va_iald (D := (dC, dI)) (f := (v.1 379)) hx hb hK hP 30 0 rfl rfl (in_y (a := (v.1 0 364).toInt) (b := 3008) rfl (om_51058f7f87 z3) (om_f17a454137 z8) rfl) dX10_doDeed_61 ?_
        refine lv_istore_n (lv' := [(2, .int ((v.1 379) (v.1 0 364).toNatClampNeg)), (1, .int ((v.1 378) (v.1 0 364).toNatClampNeg)), (0, .ref (ad 907))]) hx hb dX10_doDeed_62 rfl hl (by decide) rfl (fun ls hl => ?_)
        refine lv_aload_n hx hb dX10_doDeed_63 rfl (lv_at hl 2 rfl) ?_
        refine va_get (D := (dC, dI)) (ci := 13) (fs := oF_X10 ad pr v) (v := .ref (pr (v.1 0 355))) (C := RX10) (T := TX10) (N := 17) hx hb ht itX10 hown hK hP 7 rfl rfl 0 (by decide) (ht _ tw_857) (fun _ h9 => h9) rfl dX10_doDeed_64 ?_
        refine W.eq (g2 := F0 m 67 ls [.ref (ad 908)]) (by rw [show pr (v.1 0 355) = (ad 908) from (by rw [show (v.1 0 355) = ps from es355]; exact hps)]) ?_
        refine va_get (D := (dC, dI)) (ci := 10) (fs := oF_X7 ad pr v) (v := .ref (ad 380)) (C := RX7) (T := TX7) (N := 13) hx hb ht itX7 hown hK hP 8 rfl rfl 8 (by decide) (ht _ tw_890) (fun _ h9 => h9) rfl dX10_doDeed_67 ?_
        refine lv_aload_n hx hb dX10_doDeed_70 rfl (lv_at hl 2 rfl) ?_
        refine va_get (D := (dC, dI)) (ci := 13) (fs := oF_X10 ad pr v) (v := .int (v.1 0 364)) (C := RX10) (T := TX10) (N := 17) hx hb ht itX10 hown hK hP 7 rfl rfl 9 (by decide) (ht _ tw_865) (fun _ h9 => h9) rfl dX10_doDeed_71 ?_
        refine va_iald (D := (dC, dI)) (f := (v.1 380)) hx hb hK hP 31 0 rfl rfl (in_y (a := (v.1 0 364).toInt) (b := 3008) rfl (om_51058f7f87 z3) (om_f17a454137 z8) rfl) dX10_doDeed_74 ?_
        refine lv_istore_n (lv' := [(3, .int ((v.1 380) (v.1 0 364).toNatClampNeg)), (2, .int ((v.1 379) (v.1 0 364).toNatClampNeg)), (1, .int ((v.1 378) (v.1 0 364).toNatClampNeg)), (0, .ref (ad 907))]) hx hb dX10_doDeed_75 rfl hl (by decide) rfl (fun ls hl => ?_)
        refine lv_aload_n hx hb dX10_doDeed_76 rfl (lv_at hl 3 rfl) ?_
        refine lv_dup hx hb dX10_doDeed_77 rfl ?_
        refine va_get (D := (dC, dI)) (ci := 13) (fs := oF_X10 ad pr v) (v := .int (v.1 0 364)) (C := RX10) (T := TX10) (N := 17) hx hb ht itX10 hown hK hP 7 rfl rfl 9 (by decide) (ht _ tw_865) (fun _ h9 => h9) rfl dX10_doDeed_78 ?_
        refine lv_iconst (v := 1) hx hb dX10_doDeed_81 (by decide) ?_
        refine lv_iadd hx hb dX10_doDeed_82 ?_
        have z9 : ((v.1 0 364) + (1 : Int32)).toInt = (v.1 0 364).toInt + 1 := inc_lt z6
        refine va_put (D := (dC, dI)) (ci := 13) (fs := oF_X10 ad pr v) (v := .int ((v.1 0 364) + (1 : Int32))) (ty := .int) (C := RX10) (T := TX10) (N := 17) hx hb ht itX10 tyX10 tyX10_ok nmX10 hown hK hP hD hS 7 rfl rfl 9 (by decide) (ht _ tw_865) (fun _ h9 => h9) rfl (by decide +kernel) rfl rfl (Nat.le_of_ble_eq_true rfl) dX10_doDeed_83 (fun H locs hP hD hS => ?_)
        have hP := cP_ (cw_364 ad pr N cI cR L1 L2 v ((v.1 0 364) + (1 : Int32))) hP
        have hD := cD_ (cw_364 ad pr N cI cR L1 L2 v ((v.1 0 364) + (1 : Int32))) hD
        refine lv_iload_n hx hb dX10_doDeed_86 rfl (lv_at hl 2 rfl) ?_
        by_cases h10 : ((v.1 378) (v.1 0 364).toNatClampNeg) = 1
        · refine lv_tableIn (off := 109) (tgt := 196) hx hb dX10_doDeed_87 (by rw [h10]; decide) (by rw [h10]; decide) (by rw [h10]; decide) (by decide) ?_
          have z11 : ((v.1 378) (v.1 0 364).toNatClampNeg).toInt = (1 : Int) := eq_z rfl (show (1 : Int32).toInt = (1 : Int) by decide) h10
          refine lv_aload_n hx hb dX10_doDeed_196 rfl (lv_at hl 3 rfl) ?_
          refine cu_v (rn_Vk (n := 0) (As := []) (rest := []) hx hb hml hown ht hKK hFx hP hD hS hA (c_x_X10_leaveFunction l dC dI cI cB cZ cJ cR tb H.size ad pr N L1 L2 (wA v 0 364 ((v.1 0 364) + (1 : Int32)))  (show (N : Int) ≤ 4096 from (om_1c2c49c46c zNN))) tw_891 tw_892 (by decide +kernel) rfl rfl ⟨Nat.le_of_ble_eq_true rfl, Nat.le_of_ble_eq_true rfl⟩ (List.range (cW ad pr N cI cR L1 L2 (wA v 0 364 ((v.1 0 364) + (1 : Int32)))).length) (rg_map _) (nd_range _) 7 rfl rfl rfl rfl hl.1 rfl (Nat.le_of_ble_eq_true rfl) dX10_doDeed_197 ⟨Nat.le_of_ble_eq_true rfl, Nat.le_of_ble_eq_true rfl⟩) hP hD hS hA (fun u13 H locs hw12 hP hD hS => ?_)
          obtain ⟨fr12, ex12, rs12⟩ := hw12
          have rs12 : RS0 (wA v 0 364 ((v.1 0 364) + (1 : Int32))) u13 := rs12
          refine W.widen (k := 0) (n := 0) (Nat.le_refl _) (Nat.le_refl _) ?_
          refine lv_goto (tgt := 390) hx hb dX10_doDeed_200 (by decide) ?_
          have q15 : (u13.1 0 370).toInt = (v.1 0 370).toInt := congrArg Int32.toInt ((fr12.2.1 370 (by decide)).trans (show (wA v 0 364 ((v.1 0 364) + (1 : Int32))).1 0 370 = (v.1 0 370) by rfl))
          exact W.vret hx hb hr (fun t ht9 hW => ⟨⟨u13, rfl, ⟨(FC.tr (FC.f (FC.rf _) ((v.1 0 364) + (1 : Int32)) (by decide)) (FC.up fr12 (by decide) (by decide))), ⟨z344, z381, zq, (Or.inr (⟨z3, (Or.inr (⟨z6, z8, (Or.inl ⟨h10, u13, ex12, ⟨fr12, rs12⟩, rfl⟩)⟩))⟩))⟩, (show (v.1 0 370).toInt ≤ (u13.1 0 370).toInt ∧ (u13.1 0 370).toInt ≤ (v.1 0 370).toInt + 1 from (om_a5ca429bbe q15)), (RS0.tr (show RS0 v (wA v 0 364 ((v.1 0 364) + (1 : Int32))) from (RS0.w RS0.rf (by decide))) rs12)⟩, by rw [ht9]; exact hP, hD⟩, hS.F ht9⟩) hS.2.2 dX10_doDeed_390
        ·
          have z16 : ((v.1 378) (v.1 0 364).toNatClampNeg).toInt ≠ (1 : Int) := ne_z rfl (show (1 : Int32).toInt = (1 : Int) by decide) h10
          by_cases h17 : ((v.1 378) (v.1 0 364).toNatClampNeg) = 2
          · refine lv_tableIn (off := 116) (tgt := 203) hx hb dX10_doDeed_87 (by rw [h17]; decide) (by rw [h17]; decide) (by rw [h17]; decide) (by decide) ?_
            have z18 : ((v.1 378) (v.1 0 364).toNatClampNeg).toInt = (2 : Int) := eq_z rfl (show (2 : Int32).toInt = (2 : Int) by decide) h17
            refine lv_aload_n hx hb dX10_doDeed_203 rfl (lv_at hl 3 rfl) ?_
            refine lv_iload_n hx hb dX10_doDeed_204 rfl (lv_at hl 1 rfl) ?_
            refine va_put (D := (dC, dI)) (ci := 13) (fs := oF_X10 ad pr (wA v 0 364 ((v.1 0 364) + (1 : Int32)))) (v := .int ((v.1 379) (v.1 0 364).toNatClampNeg)) (ty := .int) (C := RX10) (T := TX10) (N := 17) hx hb ht itX10 tyX10 tyX10_ok nmX10 hown hK hP hD hS 7 rfl rfl 8 (by decide) (ht _ tw_842) (fun _ h9 => h9) rfl (by decide +kernel) rfl rfl (Nat.le_of_ble_eq_true rfl) dX10_doDeed_205 (fun H locs hP hD hS => ?_)
            have hP := cP_ (cw_363 ad pr N cI cR L1 L2 (wA v 0 364 ((v.1 0 364) + (1 : Int32))) ((v.1 379) (v.1 0 364).toNatClampNeg)) hP
            have hD := cD_ (cw_363 ad pr N cI cR L1 L2 (wA v 0 364 ((v.1 0 364) + (1 : Int32))) ((v.1 379) (v.1 0 364).toNatClampNeg)) hD
            refine lv_goto (tgt := 390) hx hb dX10_doDeed_208 (by decide) ?_
            exact W.vret hx hb hr (fun t ht9 hW => ⟨⟨(wA (wA v 0 364 ((v.1 0 364) + (1 : Int32))) 0 363 ((v.1 379) (v.1 0 364).toNatClampNeg)), rfl, ⟨(FC.f (FC.f (FC.rf _) ((v.1 0 364) + (1 : Int32)) (by decide)) ((v.1 379) (v.1 0 364).toNatClampNeg) (by decide)), ⟨z344, z381, zq, (Or.inr (⟨z3, (Or.inr (⟨z6, z8, (Or.inr (⟨h10, (Or.inl ⟨h17, rfl⟩)⟩))⟩))⟩))⟩, (show (v.1 0 370).toInt ≤ (v.1 0 370).toInt ∧ (v.1 0 370).toInt ≤ (v.1 0 370).toInt + 1 from om_b79dd2a91d), (RS0.w (RS0.w RS0.rf (by decide)) (by decide))⟩, by rw [ht9]; exact hP, hD⟩, hS.F ht9⟩) hS.2.2 dX10_doDeed_390
          ·
            have z19 : ((v.1 378) (v.1 0 364).toNatClampNeg).toInt ≠ (2 : Int) := ne_z rfl (show (2 : Int32).toInt = (2 : Int) by decide) h17
            by_cases h20 : ((v.1 378) (v.1 0 364).toNatClampNeg) = 3
            · refine lv_tableIn (off := 124) (tgt := 211) hx hb dX10_doDeed_87 (by rw [h20]; decide) (by rw [h20]; decide) (by rw [h20]; decide) (by decide) ?_
              have z21 : ((v.1 378) (v.1 0 364).toNatClampNeg).toInt = (3 : Int) := eq_z rfl (show (3 : Int32).toInt = (3 : Int) by decide) h20
              refine lv_aload_n hx hb dX10_doDeed_211 rfl (lv_at hl 3 rfl) ?_
              refine lv_aload_n hx hb dX10_doDeed_212 rfl (lv_at hl 3 rfl) ?_
              refine lv_iload_n hx hb dX10_doDeed_213 rfl (lv_at hl 1 rfl) ?_
              refine cu_i (rn_Vk (n := 1) (As := [.int ((v.1 379) (v.1 0 364).toNatClampNeg)]) (rest := [.ref (ad 907)]) hx hb hml hown ht hKK hFx hP hD hS hA (c_x_X10_slotAt l dC dI cI cB cZ cJ cR tb H.size ad pr N L1 L2 (wA v 0 364 ((v.1 0 364) + (1 : Int32))) ((v.1 379) (v.1 0 364).toNatClampNeg) (show (N : Int) ≤ 4096 from (om_1c2c49c46c zNN))) tw_884 tw_885 (by decide +kernel) rfl rfl ⟨Nat.le_of_ble_eq_true rfl, Nat.le_of_ble_eq_true rfl⟩ (List.range (cW ad pr N cI cR L1 L2 (wA v 0 364 ((v.1 0 364) + (1 : Int32)))).length) (rg_map _) (nd_range _) 7 rfl rfl rfl rfl hl.1 rfl (Nat.le_of_ble_eq_true rfl) dX10_doDeed_214 ⟨Nat.le_of_ble_eq_true rfl, Nat.le_of_ble_eq_true rfl⟩) hP hD hS hA (fun r24 u23 H locs hw22 hP hD hS => ?_)
              obtain ⟨rfl, ex22⟩ := hw22
              refine W.widen (k := 0) (n := 0) (Nat.le_refl _) (Nat.le_refl _) ?_
              refine va_put (D := (dC, dI)) (ci := 13) (fs := oF_X10 ad pr (wA v 0 364 ((v.1 0 364) + (1 : Int32)))) (v := .int r24) (ty := .int) (C := RX10) (T := TX10) (N := 17) hx hb ht itX10 tyX10 tyX10_ok nmX10 hown hK hP hD hS 7 rfl rfl 8 (by decide) (ht _ tw_842) (fun _ h9 => h9) rfl (by decide +kernel) rfl rfl (Nat.le_of_ble_eq_true rfl) dX10_doDeed_217 (fun H locs hP hD hS => ?_)
              have hP := cP_ (cw_363 ad pr N cI cR L1 L2 (wA v 0 364 ((v.1 0 364) + (1 : Int32))) r24) hP
              have hD := cD_ (cw_363 ad pr N cI cR L1 L2 (wA v 0 364 ((v.1 0 364) + (1 : Int32))) r24) hD
              refine lv_goto (tgt := 390) hx hb dX10_doDeed_220 (by decide) ?_
              exact W.vret hx hb hr (fun t ht9 hW => ⟨⟨(wA (wA v 0 364 ((v.1 0 364) + (1 : Int32))) 0 363 r24), rfl, ⟨(FC.f (FC.f (FC.rf _) ((v.1 0 364) + (1 : Int32)) (by decide)) r24 (by decide)), ⟨z344, z381, zq, (Or.inr (⟨z3, (Or.inr (⟨z6, z8, (Or.inr (⟨h10, (Or.inr (⟨h17, (Or.inl ⟨h20, r24, ex22, rfl⟩)⟩))⟩))⟩))⟩))⟩, (show (v.1 0 370).toInt ≤ (v.1 0 370).toInt ∧ (v.1 0 370).toInt ≤ (v.1 0 370).toInt + 1 from om_b79dd2a91d), (RS0.w (RS0.w RS0.rf (by decide)) (by decide))⟩, by rw [ht9]; exact hP, hD⟩, hS.F ht9⟩) hS.2.2 dX10_doDeed_390
            ·
              have z25 : ((v.1 378) (v.1 0 364).toNatClampNeg).toInt ≠ (3 : Int) := ne_z rfl (show (3 : Int32).toInt = (3 : Int) by decide) h20
              by_cases h26 : ((v.1 378) (v.1 0 364).toNatClampNeg) = 4
              · refine lv_tableIn (off := 136) (tgt := 223) hx hb dX10_doDeed_87 (by rw [h26]; decide) (by rw [h26]; decide) (by rw [h26]; decide) (by decide) ?_
                have z27 : ((v.1 378) (v.1 0 364).toNatClampNeg).toInt = (4 : Int) := eq_z rfl (show (4 : Int32).toInt = (4 : Int) by decide) h26
                refine lv_aload_n hx hb dX10_doDeed_223 rfl (lv_at hl 3 rfl) ?_
                refine lv_iload_n hx hb dX10_doDeed_224 rfl (lv_at hl 1 rfl) ?_
                refine lv_aload_n hx hb dX10_doDeed_225 rfl (lv_at hl 3 rfl) ?_
                refine va_get (D := (dC, dI)) (ci := 13) (fs := oF_X10 ad pr (wA v 0 364 ((v.1 0 364) + (1 : Int32)))) (v := .int (v.1 0 363)) (C := RX10) (T := TX10) (N := 17) hx hb ht itX10 hown hK hP 7 rfl rfl 8 (by decide) (ht _ tw_842) (fun _ h9 => h9) rfl dX10_doDeed_226 ?_
                refine cu_v (rn_Vk (n := 2) (As := [.int ((v.1 379) (v.1 0 364).toNatClampNeg), .int (v.1 0 363)]) (rest := []) hx hb hml hown ht hKK hFx hP hD hS hA (c_x_X10_changeSlot l dC dI cI cB cZ cJ cR tb H.size ad pr N L1 L2 (wA v 0 364 ((v.1 0 364) + (1 : Int32))) ((v.1 379) (v.1 0 364).toNatClampNeg) (v.1 0 363) (show (N : Int) ≤ 4096 from (om_1c2c49c46c zNN))) tw_869 tw_870 (by decide +kernel) rfl rfl ⟨Nat.le_of_ble_eq_true rfl, Nat.le_of_ble_eq_true rfl⟩ (List.range (cW ad pr N cI cR L1 L2 (wA v 0 364 ((v.1 0 364) + (1 : Int32)))).length) (rg_map _) (nd_range _) 7 rfl rfl rfl rfl hl.1 rfl (Nat.le_of_ble_eq_true rfl) dX10_doDeed_229 ⟨Nat.le_of_ble_eq_true rfl, Nat.le_of_ble_eq_true rfl⟩) hP hD hS hA (fun u29 H locs hw28 hP hD hS => ?_)
                obtain ⟨fr28, ex28, rs28⟩ := hw28
                have rs28 : RS0 (wA v 0 364 ((v.1 0 364) + (1 : Int32))) u29 := rs28
                refine W.widen (k := 0) (n := 0) (Nat.le_refl _) (Nat.le_refl _) ?_
                refine lv_goto (tgt := 390) hx hb dX10_doDeed_232 (by decide) ?_
                have q31 : (u29.1 0 370).toInt = (v.1 0 370).toInt := congrArg Int32.toInt ((fr28.2.1 370 (by decide)).trans (show (wA v 0 364 ((v.1 0 364) + (1 : Int32))).1 0 370 = (v.1 0 370) by rfl))
                exact W.vret hx hb hr (fun t ht9 hW => ⟨⟨u29, rfl, ⟨(FC.tr (FC.f (FC.rf _) ((v.1 0 364) + (1 : Int32)) (by decide)) (FC.up fr28 (by decide) (by decide))), ⟨z344, z381, zq, (Or.inr (⟨z3, (Or.inr (⟨z6, z8, (Or.inr (⟨h10, (Or.inr (⟨h17, (Or.inr (⟨h20, (Or.inl ⟨h26, u29, ex28, ⟨fr28, rs28⟩, rfl⟩)⟩))⟩))⟩))⟩))⟩))⟩, (show (v.1 0 370).toInt ≤ (u29.1 0 370).toInt ∧ (u29.1 0 370).toInt ≤ (v.1 0 370).toInt + 1 from (om_a5ca429bbe q31)), (RS0.tr (show RS0 v (wA v 0 364 ((v.1 0 364) + (1 : Int32))) from (RS0.w RS0.rf (by decide))) rs28)⟩, by rw [ht9]; exact hP, hD⟩, hS.F ht9⟩) hS.2.2 dX10_doDeed_390
              ·
                have z32 : ((v.1 378) (v.1 0 364).toNatClampNeg).toInt ≠ (4 : Int) := ne_z rfl (show (4 : Int32).toInt = (4 : Int) by decide) h26
                by_cases h33 : ((v.1 378) (v.1 0 364).toNatClampNeg) = 5
                · refine lv_tableIn (off := 275) (tgt := 362) hx hb dX10_doDeed_87 (by rw [h33]; decide) (by rw [h33]; decide) (by rw [h33]; decide) (by decide) ?_
                  have z34 : ((v.1 378) (v.1 0 364).toNatClampNeg).toInt = (5 : Int) := eq_z rfl (show (5 : Int32).toInt = (5 : Int) by decide) h33
                  refine lv_iload_n hx hb dX10_doDeed_362 rfl (lv_at hl 2 rfl) ?_
                  refine lv_bipush (v := 16) hx hb dX10_doDeed_363 (by decide) ?_
                  refine lv_icmp_lt (tgt := 383) hx hb dX10_doDeed_365 (by decide) (fun h35 => ?_) (fun h35 => ?_)
                  · have z36 : ((v.1 378) (v.1 0 364).toNatClampNeg).toInt < (16 : Int) := lt_z rfl (show (16 : Int32).toInt = (16 : Int) by decide) h35
                    refine lv_aload_n hx hb dX10_doDeed_383 rfl (lv_at hl 3 rfl) ?_
                    refine lv_iload_n hx hb dX10_doDeed_384 rfl (lv_at hl 2 rfl) ?_
                    refine lv_iload_n hx hb dX10_doDeed_385 rfl (lv_at hl 1 rfl) ?_
                    refine lv_iload_n hx hb dX10_doDeed_386 rfl (lv_at hl 0 rfl) ?_
                    refine cu_v (rn_Vk (n := 3) (As := [.int ((v.1 378) (v.1 0 364).toNatClampNeg), .int ((v.1 379) (v.1 0 364).toNatClampNeg), .int ((v.1 380) (v.1 0 364).toNatClampNeg)]) (rest := []) hx hb hml hown ht hKK hFx hP hD hS hA (c_x_X10_doPlace l dC dI cI cB cZ cJ cR tb H.size ad pr N L1 L2 (wA v 0 364 ((v.1 0 364) + (1 : Int32))) ((v.1 378) (v.1 0 364).toNatClampNeg) ((v.1 379) (v.1 0 364).toNatClampNeg) ((v.1 380) (v.1 0 364).toNatClampNeg) ps (show (N : Int) ≤ 4096 from (om_1c2c49c46c zNN)) (show L1.length = 40 from hL1) (show L2.length = 60 from hL2) (show RP (wA v 0 364 ((v.1 0 364) + (1 : Int32))) from ((show FC [362, 363, 364, 365, 366, 368, 369, 370, 371] [0, 358, 359, 360] v (wA v 0 364 ((v.1 0 364) + (1 : Int32))) from (FC.f (FC.rf _) ((v.1 0 364) + (1 : Int32)) (by decide))).1 rp)) (show pr ps = ad 908 from hps) (show (v.1 0 355) = ps from es355)) tw_893 tw_894 (by decide +kernel) rfl rfl ⟨Nat.le_of_ble_eq_true rfl, Nat.le_of_ble_eq_true rfl⟩ (List.range (cW ad pr N cI cR L1 L2 (wA v 0 364 ((v.1 0 364) + (1 : Int32)))).length) (rg_map _) (nd_range _) 7 rfl rfl rfl rfl hl.1 rfl (Nat.le_of_ble_eq_true rfl) dX10_doDeed_387 ⟨Nat.le_of_ble_eq_true rfl, Nat.le_of_ble_eq_true rfl⟩) hP hD hS hA (fun u38 H locs hw37 hP hD hS => ?_)
                    obtain ⟨fr37, ex37, rs37⟩ := hw37
                    have rs37 : RS0 (wA v 0 364 ((v.1 0 364) + (1 : Int32))) u38 := rs37
                    refine W.widen (k := 0) (n := 0) (Nat.le_refl _) (Nat.le_refl _) ?_
                    have q40 : (u38.1 0 370).toInt = (v.1 0 370).toInt := congrArg Int32.toInt ((fr37.2.1 370 (by decide)).trans (show (wA v 0 364 ((v.1 0 364) + (1 : Int32))).1 0 370 = (v.1 0 370) by rfl))
                    exact W.vret hx hb hr (fun t ht9 hW => ⟨⟨u38, rfl, ⟨(FC.tr (FC.f (FC.rf _) ((v.1 0 364) + (1 : Int32)) (by decide)) (FC.up fr37 (by decide) (by decide))), ⟨z344, z381, zq, (Or.inr (⟨z3, (Or.inr (⟨z6, z8, (Or.inr (⟨h10, (Or.inr (⟨h17, (Or.inr (⟨h20, (Or.inr (⟨h26, (Or.inl ⟨h33, z36, u38, ex37, ⟨fr37, rs37⟩, rfl⟩)⟩))⟩))⟩))⟩))⟩))⟩))⟩, (show (v.1 0 370).toInt ≤ (u38.1 0 370).toInt ∧ (u38.1 0 370).toInt ≤ (v.1 0 370).toInt + 1 from (om_a5ca429bbe q40)), (RS0.tr (show RS0 v (wA v 0 364 ((v.1 0 364) + (1 : Int32))) from (RS0.w RS0.rf (by decide))) rs37)⟩, by rw [ht9]; exact hP, hD⟩, hS.F ht9⟩) hS.2.2 dX10_doDeed_390
                  · have z41 : (16 : Int) ≤ ((v.1 378) (v.1 0 364).toNatClampNeg).toInt := nlt_z rfl (show (16 : Int32).toInt = (16 : Int) by decide) h35
                    exact False.elim (om_ea562c44b5 z34 z41)
                ·
                  have z42 : ((v.1 378) (v.1 0 364).toNatClampNeg).toInt ≠ (5 : Int) := ne_z rfl (show (5 : Int32).toInt = (5 : Int) by decide) h33
                  by_cases h43 : ((v.1 378) (v.1 0 364).toNatClampNeg) = 6
                  · refine lv_tableIn (off := 275) (tgt := 362) hx hb dX10_doDeed_87 (by rw [h43]; decide) (by rw [h43]; decide) (by rw [h43]; decide) (by decide) ?_
                    have z44 : ((v.1 378) (v.1 0 364).toNatClampNeg).toInt = (6 : Int) := eq_z rfl (show (6 : Int32).toInt = (6 : Int) by decide) h43
                    refine lv_iload_n hx hb dX10_doDeed_362 rfl (lv_at hl 2 rfl) ?_
                    refine lv_bipush (v := 16) hx hb dX10_doDeed_363 (by decide) ?_
                    refine lv_icmp_lt (tgt := 383) hx hb dX10_doDeed_365 (by decide) (fun h45 => ?_) (fun h45 => ?_)
                    · have z46 : ((v.1 378) (v.1 0 364).toNatClampNeg).toInt < (16 : Int) := lt_z rfl (show (16 : Int32).toInt = (16 : Int) by decide) h45
                      refine lv_aload_n hx hb dX10_doDeed_383 rfl (lv_at hl 3 rfl) ?_
                      refine lv_iload_n hx hb dX10_doDeed_384 rfl (lv_at hl 2 rfl) ?_
                      refine lv_iload_n hx hb dX10_doDeed_385 rfl (lv_at hl 1 rfl) ?_
                      refine lv_iload_n hx hb dX10_doDeed_386 rfl (lv_at hl 0 rfl) ?_
                      refine cu_v (rn_Vk (n := 3) (As := [.int ((v.1 378) (v.1 0 364).toNatClampNeg), .int ((v.1 379) (v.1 0 364).toNatClampNeg), .int ((v.1 380) (v.1 0 364).toNatClampNeg)]) (rest := []) hx hb hml hown ht hKK hFx hP hD hS hA (c_x_X10_doPlace l dC dI cI cB cZ cJ cR tb H.size ad pr N L1 L2 (wA v 0 364 ((v.1 0 364) + (1 : Int32))) ((v.1 378) (v.1 0 364).toNatClampNeg) ((v.1 379) (v.1 0 364).toNatClampNeg) ((v.1 380) (v.1 0 364).toNatClampNeg) ps (show (N : Int) ≤ 4096 from (om_1c2c49c46c zNN)) (show L1.length = 40 from hL1) (show L2.length = 60 from hL2) (show RP (wA v 0 364 ((v.1 0 364) + (1 : Int32))) from ((show FC [362, 363, 364, 365, 366, 368, 369, 370, 371] [0, 358, 359, 360] v (wA v 0 364 ((v.1 0 364) + (1 : Int32))) from (FC.f (FC.rf _) ((v.1 0 364) + (1 : Int32)) (by decide))).1 rp)) (show pr ps = ad 908 from hps) (show (v.1 0 355) = ps from es355)) tw_893 tw_894 (by decide +kernel) rfl rfl ⟨Nat.le_of_ble_eq_true rfl, Nat.le_of_ble_eq_true rfl⟩ (List.range (cW ad pr N cI cR L1 L2 (wA v 0 364 ((v.1 0 364) + (1 : Int32)))).length) (rg_map _) (nd_range _) 7 rfl rfl rfl rfl hl.1 rfl (Nat.le_of_ble_eq_true rfl) dX10_doDeed_387 ⟨Nat.le_of_ble_eq_true rfl, Nat.le_of_ble_eq_true rfl⟩) hP hD hS hA (fun u48 H locs hw47 hP hD hS => ?_)
                      obtain ⟨fr47, ex47, rs47⟩ := hw47
                      have rs47 : RS0 (wA v 0 364 ((v.1 0 364) + (1 : Int32))) u48 := rs47
                      refine W.widen (k := 0) (n := 0) (Nat.le_refl _) (Nat.le_refl _) ?_
                      have q50 : (u48.1 0 370).toInt = (v.1 0 370).toInt := congrArg Int32.toInt ((fr47.2.1 370 (by decide)).trans (show (wA v 0 364 ((v.1 0 364) + (1 : Int32))).1 0 370 = (v.1 0 370) by rfl))
                      exact W.vret hx hb hr (fun t ht9 hW => ⟨⟨u48, rfl, ⟨(FC.tr (FC.f (FC.rf _) ((v.1 0 364) + (1 : Int32)) (by decide)) (FC.up fr47 (by decide) (by decide))), ⟨z344, z381, zq, (Or.inr (⟨z3, (Or.inr (⟨z6, z8, (Or.inr (⟨h10, (Or.inr (⟨h17, (Or.inr (⟨h20, (Or.inr (⟨h26, (Or.inr (⟨h33, (Or.inl ⟨h43, z46, u48, ex47, ⟨fr47, rs47⟩, rfl⟩)⟩))⟩))⟩))⟩))⟩))⟩))⟩))⟩, (show (v.1 0 370).toInt ≤ (u48.1 0 370).toInt ∧ (u48.1 0 370).toInt ≤ (v.1 0 370).toInt + 1 from (om_a5ca429bbe q50)), (RS0.tr (show RS0 v (wA v 0 364 ((v.1 0 364) + (1 : Int32))) from (RS0.w RS0.rf (by decide))) rs47)⟩, by rw [ht9]; exact hP, hD⟩, hS.F ht9⟩) hS.2.2 dX10_doDeed_390
                    · have z51 : (16 : Int) ≤ ((v.1 378) (v.1 0 364).toNatClampNeg).toInt := nlt_z rfl (show (16 : Int32).toInt = (16 : Int) by decide) h45
                      exact False.elim (om_ccec5dd36d z44 z51)
                  ·
                    have z52 : ((v.1 378) (v.1 0 364).toNatClampNeg).toInt ≠ (6 : Int) := ne_z rfl (show (6 : Int32).toInt = (6 : Int) by decide) h43
                    by_cases h53 : ((v.1 378) (v.1 0 364).toNatClampNeg) = 7
                    · refine lv_tableIn (off := 275) (tgt := 362) hx hb dX10_doDeed_87 (by rw [h53]; decide) (by rw [h53]; decide) (by rw [h53]; decide) (by decide) ?_
                      have z54 : ((v.1 378) (v.1 0 364).toNatClampNeg).toInt = (7 : Int) := eq_z rfl (show (7 : Int32).toInt = (7 : Int) by decide) h53
                      refine lv_iload_n hx hb dX10_doDeed_362 rfl (lv_at hl 2 rfl) ?_
                      refine lv_bipush (v := 16) hx hb dX10_doDeed_363 (by decide) ?_
                      refine lv_icmp_lt (tgt := 383) hx hb dX10_doDeed_365 (by decide) (fun h55 => ?_) (fun h55 => ?_)
                      · have z56 : ((v.1 378) (v.1 0 364).toNatClampNeg).toInt < (16 : Int) := lt_z rfl (show (16 : Int32).toInt = (16 : Int) by decide) h55
                        refine lv_aload_n hx hb dX10_doDeed_383 rfl (lv_at hl 3 rfl) ?_
                        refine lv_iload_n hx hb dX10_doDeed_384 rfl (lv_at hl 2 rfl) ?_
                        refine lv_iload_n hx hb dX10_doDeed_385 rfl (lv_at hl 1 rfl) ?_
                        refine lv_iload_n hx hb dX10_doDeed_386 rfl (lv_at hl 0 rfl) ?_
                        refine cu_v (rn_Vk (n := 3) (As := [.int ((v.1 378) (v.1 0 364).toNatClampNeg), .int ((v.1 379) (v.1 0 364).toNatClampNeg), .int ((v.1 380) (v.1 0 364).toNatClampNeg)]) (rest := []) hx hb hml hown ht hKK hFx hP hD hS hA (c_x_X10_doPlace l dC dI cI cB cZ cJ cR tb H.size ad pr N L1 L2 (wA v 0 364 ((v.1 0 364) + (1 : Int32))) ((v.1 378) (v.1 0 364).toNatClampNeg) ((v.1 379) (v.1 0 364).toNatClampNeg) ((v.1 380) (v.1 0 364).toNatClampNeg) ps (show (N : Int) ≤ 4096 from (om_1c2c49c46c zNN)) (show L1.length = 40 from hL1) (show L2.length = 60 from hL2) (show RP (wA v 0 364 ((v.1 0 364) + (1 : Int32))) from ((show FC [362, 363, 364, 365, 366, 368, 369, 370, 371] [0, 358, 359, 360] v (wA v 0 364 ((v.1 0 364) + (1 : Int32))) from (FC.f (FC.rf _) ((v.1 0 364) + (1 : Int32)) (by decide))).1 rp)) (show pr ps = ad 908 from hps) (show (v.1 0 355) = ps from es355)) tw_893 tw_894 (by decide +kernel) rfl rfl ⟨Nat.le_of_ble_eq_true rfl, Nat.le_of_ble_eq_true rfl⟩ (List.range (cW ad pr N cI cR L1 L2 (wA v 0 364 ((v.1 0 364) + (1 : Int32)))).length) (rg_map _) (nd_range _) 7 rfl rfl rfl rfl hl.1 rfl (Nat.le_of_ble_eq_true rfl) dX10_doDeed_387 ⟨Nat.le_of_ble_eq_true rfl, Nat.le_of_ble_eq_true rfl⟩) hP hD hS hA (fun u58 H locs hw57 hP hD hS => ?_)
                        obtain ⟨fr57, ex57, rs57⟩ := hw57
                        have rs57 : RS0 (wA v 0 364 ((v.1 0 364) + (1 : Int32))) u58 := rs57
                        refine W.widen (k := 0) (n := 0) (Nat.le_refl _) (Nat.le_refl _) ?_
                        have q60 : (u58.1 0 370).toInt = (v.1 0 370).toInt := congrArg Int32.toInt ((fr57.2.1 370 (by decide)).trans (show (wA v 0 364 ((v.1 0 364) + (1 : Int32))).1 0 370 = (v.1 0 370) by rfl))
                        exact W.vret hx hb hr (fun t ht9 hW => ⟨⟨u58, rfl, ⟨(FC.tr (FC.f (FC.rf _) ((v.1 0 364) + (1 : Int32)) (by decide)) (FC.up fr57 (by decide) (by decide))), ⟨z344, z381, zq, (Or.inr (⟨z3, (Or.inr (⟨z6, z8, (Or.inr (⟨h10, (Or.inr (⟨h17, (Or.inr (⟨h20, (Or.inr (⟨h26, (Or.inr (⟨h33, (Or.inr (⟨h43, (Or.inl ⟨h53, z56, u58, ex57, ⟨fr57, rs57⟩, rfl⟩)⟩))⟩))⟩))⟩))⟩))⟩))⟩))⟩))⟩, (show (v.1 0 370).toInt ≤ (u58.1 0 370).toInt ∧ (u58.1 0 370).toInt ≤ (v.1 0 370).toInt + 1 from (om_a5ca429bbe q60)), (RS0.tr (show RS0 v (wA v 0 364 ((v.1 0 364) + (1 : Int32))) from (RS0.w RS0.rf (by decide))) rs57)⟩, by rw [ht9]; exact hP, hD⟩, hS.F ht9⟩) hS.2.2 dX10_doDeed_390
                      · have z61 : (16 : Int) ≤ ((v.1 378) (v.1 0 364).toNatClampNeg).toInt := nlt_z rfl (show (16 : Int32).toInt = (16 : Int) by decide) h55
                        exact False.elim (om_5ddccff482 z54 z61)
                    ·
                      have z62 : ((v.1 378) (v.1 0 364).toNatClampNeg).toInt ≠ (7 : Int) := ne_z rfl (show (7 : Int32).toInt = (7 : Int) by decide) h53
                      by_cases h63 : ((v.1 378) (v.1 0 364).toNatClampNeg) = 8
                      · refine lv_tableIn (off := 275) (tgt := 362) hx hb dX10_doDeed_87 (by rw [h63]; decide) (by rw [h63]; decide) (by rw [h63]; decide) (by decide) ?_
                        have z64 : ((v.1 378) (v.1 0 364).toNatClampNeg).toInt = (8 : Int) := eq_z rfl (show (8 : Int32).toInt = (8 : Int) by decide) h63
                        refine lv_iload_n hx hb dX10_doDeed_362 rfl (lv_at hl 2 rfl) ?_
                        refine lv_bipush (v := 16) hx hb dX10_doDeed_363 (by decide) ?_
                        refine lv_icmp_lt (tgt := 383) hx hb dX10_doDeed_365 (by decide) (fun h65 => ?_) (fun h65 => ?_)
                        · have z66 : ((v.1 378) (v.1 0 364).toNatClampNeg).toInt < (16 : Int) := lt_z rfl (show (16 : Int32).toInt = (16 : Int) by decide) h65
                          refine lv_aload_n hx hb dX10_doDeed_383 rfl (lv_at hl 3 rfl) ?_
                          refine lv_iload_n hx hb dX10_doDeed_384 rfl (lv_at hl 2 rfl) ?_
                          refine lv_iload_n hx hb dX10_doDeed_385 rfl (lv_at hl 1 rfl) ?_
                          refine lv_iload_n hx hb dX10_doDeed_386 rfl (lv_at hl 0 rfl) ?_
                          refine cu_v (rn_Vk (n := 3) (As := [.int ((v.1 378) (v.1 0 364).toNatClampNeg), .int ((v.1 379) (v.1 0 364).toNatClampNeg), .int ((v.1 380) (v.1 0 364).toNatClampNeg)]) (rest := []) hx hb hml hown ht hKK hFx hP hD hS hA (c_x_X10_doPlace l dC dI cI cB cZ cJ cR tb H.size ad pr N L1 L2 (wA v 0 364 ((v.1 0 364) + (1 : Int32))) ((v.1 378) (v.1 0 364).toNatClampNeg) ((v.1 379) (v.1 0 364).toNatClampNeg) ((v.1 380) (v.1 0 364).toNatClampNeg) ps (show (N : Int) ≤ 4096 from (om_1c2c49c46c zNN)) (show L1.length = 40 from hL1) (show L2.length = 60 from hL2) (show RP (wA v 0 364 ((v.1 0 364) + (1 : Int32))) from ((show FC [362, 363, 364, 365, 366, 368, 369, 370, 371] [0, 358, 359, 360] v (wA v 0 364 ((v.1 0 364) + (1 : Int32))) from (FC.f (FC.rf _) ((v.1 0 364) + (1 : Int32)) (by decide))).1 rp)) (show pr ps = ad 908 from hps) (show (v.1 0 355) = ps from es355)) tw_893 tw_894 (by decide +kernel) rfl rfl ⟨Nat.le_of_ble_eq_true rfl, Nat.le_of_ble_eq_true rfl⟩ (List.range (cW ad pr N cI cR L1 L2 (wA v 0 364 ((v.1 0 364) + (1 : Int32)))).length) (rg_map _) (nd_range _) 7 rfl rfl rfl rfl hl.1 rfl (Nat.le_of_ble_eq_true rfl) dX10_doDeed_387 ⟨Nat.le_of_ble_eq_true rfl, Nat.le_of_ble_eq_true rfl⟩) hP hD hS hA (fun u68 H locs hw67 hP hD hS => ?_)
                          obtain ⟨fr67, ex67, rs67⟩ := hw67
                          have rs67 : RS0 (wA v 0 364 ((v.1 0 364) + (1 : Int32))) u68 := rs67
                          refine W.widen (k := 0) (n := 0) (Nat.le_refl _) (Nat.le_refl _) ?_
                          have q70 : (u68.1 0 370).toInt = (v.1 0 370).toInt := congrArg Int32.toInt ((fr67.2.1 370 (by decide)).trans (show (wA v 0 364 ((v.1 0 364) + (1 : Int32))).1 0 370 = (v.1 0 370) by rfl))
                          exact W.vret hx hb hr (fun t ht9 hW => ⟨⟨u68, rfl, ⟨(FC.tr (FC.f (FC.rf _) ((v.1 0 364) + (1 : Int32)) (by decide)) (FC.up fr67 (by decide) (by decide))), ⟨z344, z381, zq, (Or.inr (⟨z3, (Or.inr (⟨z6, z8, (Or.inr (⟨h10, (Or.inr (⟨h17, (Or.inr (⟨h20, (Or.inr (⟨h26, (Or.inr (⟨h33, (Or.inr (⟨h43, (Or.inr (⟨h53, (Or.inl ⟨h63, z66, u68, ex67, ⟨fr67, rs67⟩, rfl⟩)⟩))⟩))⟩))⟩))⟩))⟩))⟩))⟩))⟩))⟩, (show (v.1 0 370).toInt ≤ (u68.1 0 370).toInt ∧ (u68.1 0 370).toInt ≤ (v.1 0 370).toInt + 1 from (om_a5ca429bbe q70)), (RS0.tr (show RS0 v (wA v 0 364 ((v.1 0 364) + (1 : Int32))) from (RS0.w RS0.rf (by decide))) rs67)⟩, by rw [ht9]; exact hP, hD⟩, hS.F ht9⟩) hS.2.2 dX10_doDeed_390
                        · have z71 : (16 : Int) ≤ ((v.1 378) (v.1 0 364).toNatClampNeg).toInt := nlt_z rfl (show (16 : Int32).toInt = (16 : Int) by decide) h65
                          exact False.elim (om_7ce245830a z64 z71)
                      ·
                        have z72 : ((v.1 378) (v.1 0 364).toNatClampNeg).toInt ≠ (8 : Int) := ne_z rfl (show (8 : Int32).toInt = (8 : Int) by decide) h63
                        by_cases h73 : ((v.1 378) (v.1 0 364).toNatClampNeg) = 9
                        · refine lv_tableIn (off := 275) (tgt := 362) hx hb dX10_doDeed_87 (by rw [h73]; decide) (by rw [h73]; decide) (by rw [h73]; decide) (by decide) ?_
                          have z74 : ((v.1 378) (v.1 0 364).toNatClampNeg).toInt = (9 : Int) := eq_z rfl (show (9 : Int32).toInt = (9 : Int) by decide) h73
                          refine lv_iload_n hx hb dX10_doDeed_362 rfl (lv_at hl 2 rfl) ?_
                          refine lv_bipush (v := 16) hx hb dX10_doDeed_363 (by decide) ?_
                          refine lv_icmp_lt (tgt := 383) hx hb dX10_doDeed_365 (by decide) (fun h75 => ?_) (fun h75 => ?_)
                          · have z76 : ((v.1 378) (v.1 0 364).toNatClampNeg).toInt < (16 : Int) := lt_z rfl (show (16 : Int32).toInt = (16 : Int) by decide) h75
                            refine lv_aload_n hx hb dX10_doDeed_383 rfl (lv_at hl 3 rfl) ?_
                            refine lv_iload_n hx hb dX10_doDeed_384 rfl (lv_at hl 2 rfl) ?_
                            refine lv_iload_n hx hb dX10_doDeed_385 rfl (lv_at hl 1 rfl) ?_
                            refine lv_iload_n hx hb dX10_doDeed_386 rfl (lv_at hl 0 rfl) ?_
                            refine cu_v (rn_Vk (n := 3) (As := [.int ((v.1 378) (v.1 0 364).toNatClampNeg), .int ((v.1 379) (v.1 0 364).toNatClampNeg), .int ((v.1 380) (v.1 0 364).toNatClampNeg)]) (rest := []) hx hb hml hown ht hKK hFx hP hD hS hA (c_x_X10_doPlace l dC dI cI cB cZ cJ cR tb H.size ad pr N L1 L2 (wA v 0 364 ((v.1 0 364) + (1 : Int32))) ((v.1 378) (v.1 0 364).toNatClampNeg) ((v.1 379) (v.1 0 364).toNatClampNeg) ((v.1 380) (v.1 0 364).toNatClampNeg) ps (show (N : Int) ≤ 4096 from (om_1c2c49c46c zNN)) (show L1.length = 40 from hL1) (show L2.length = 60 from hL2) (show RP (wA v 0 364 ((v.1 0 364) + (1 : Int32))) from ((show FC [362, 363, 364, 365, 366, 368, 369, 370, 371] [0, 358, 359, 360] v (wA v 0 364 ((v.1 0 364) + (1 : Int32))) from (FC.f (FC.rf _) ((v.1 0 364) + (1 : Int32)) (by decide))).1 rp)) (show pr ps = ad 908 from hps) (show (v.1 0 355) = ps from es355)) tw_893 tw_894 (by decide +kernel) rfl rfl ⟨Nat.le_of_ble_eq_true rfl, Nat.le_of_ble_eq_true rfl⟩ (List.range (cW ad pr N cI cR L1 L2 (wA v 0 364 ((v.1 0 364) + (1 : Int32)))).length) (rg_map _) (nd_range _) 7 rfl rfl rfl rfl hl.1 rfl (Nat.le_of_ble_eq_true rfl) dX10_doDeed_387 ⟨Nat.le_of_ble_eq_true rfl, Nat.le_of_ble_eq_true rfl⟩) hP hD hS hA (fun u78 H locs hw77 hP hD hS => ?_)
                            obtain ⟨fr77, ex77, rs77⟩ := hw77
                            have rs77 : RS0 (wA v 0 364 ((v.1 0 364) + (1 : Int32))) u78 := rs77
                            refine W.widen (k := 0) (n := 0) (Nat.le_refl _) (Nat.le_refl _) ?_
                            have q80 : (u78.1 0 370).toInt = (v.1 0 370).toInt := congrArg Int32.toInt ((fr77.2.1 370 (by decide)).trans (show (wA v 0 364 ((v.1 0 364) + (1 : Int32))).1 0 370 = (v.1 0 370) by rfl))
                            exact W.vret hx hb hr (fun t ht9 hW => ⟨⟨u78, rfl, ⟨(FC.tr (FC.f (FC.rf _) ((v.1 0 364) + (1 : Int32)) (by decide)) (FC.up fr77 (by decide) (by decide))), ⟨z344, z381, zq, (Or.inr (⟨z3, (Or.inr (⟨z6, z8, (Or.inr (⟨h10, (Or.inr (⟨h17, (Or.inr (⟨h20, (Or.inr (⟨h26, (Or.inr (⟨h33, (Or.inr (⟨h43, (Or.inr (⟨h53, (Or.inr (⟨h63, (Or.inl ⟨h73, z76, u78, ex77, ⟨fr77, rs77⟩, rfl⟩)⟩))⟩))⟩))⟩))⟩))⟩))⟩))⟩))⟩))⟩))⟩, (show (v.1 0 370).toInt ≤ (u78.1 0 370).toInt ∧ (u78.1 0 370).toInt ≤ (v.1 0 370).toInt + 1 from (om_a5ca429bbe q80)), (RS0.tr (show RS0 v (wA v 0 364 ((v.1 0 364) + (1 : Int32))) from (RS0.w RS0.rf (by decide))) rs77)⟩, by rw [ht9]; exact hP, hD⟩, hS.F ht9⟩) hS.2.2 dX10_doDeed_390
                          · have z81 : (16 : Int) ≤ ((v.1 378) (v.1 0 364).toNatClampNeg).toInt := nlt_z rfl (show (16 : Int32).toInt = (16 : Int) by decide) h75
                            exact False.elim (om_6f7e2c324b z74 z81)
                        ·
                          have z82 : ((v.1 378) (v.1 0 364).toNatClampNeg).toInt ≠ (9 : Int) := ne_z rfl (show (9 : Int32).toInt = (9 : Int) by decide) h73
                          by_cases h83 : ((v.1 378) (v.1 0 364).toNatClampNeg) = 10
                          · refine lv_tableIn (off := 275) (tgt := 362) hx hb dX10_doDeed_87 (by rw [h83]; decide) (by rw [h83]; decide) (by rw [h83]; decide) (by decide) ?_
                            have z84 : ((v.1 378) (v.1 0 364).toNatClampNeg).toInt = (10 : Int) := eq_z rfl (show (10 : Int32).toInt = (10 : Int) by decide) h83
                            refine lv_iload_n hx hb dX10_doDeed_362 rfl (lv_at hl 2 rfl) ?_
                            refine lv_bipush (v := 16) hx hb dX10_doDeed_363 (by decide) ?_
                            refine lv_icmp_lt (tgt := 383) hx hb dX10_doDeed_365 (by decide) (fun h85 => ?_) (fun h85 => ?_)
                            · have z86 : ((v.1 378) (v.1 0 364).toNatClampNeg).toInt < (16 : Int) := lt_z rfl (show (16 : Int32).toInt = (16 : Int) by decide) h85
                              refine lv_aload_n hx hb dX10_doDeed_383 rfl (lv_at hl 3 rfl) ?_
                              refine lv_iload_n hx hb dX10_doDeed_384 rfl (lv_at hl 2 rfl) ?_
                              refine lv_iload_n hx hb dX10_doDeed_385 rfl (lv_at hl 1 rfl) ?_
                              refine lv_iload_n hx hb dX10_doDeed_386 rfl (lv_at hl 0 rfl) ?_
                              refine cu_v (rn_Vk (n := 3) (As := [.int ((v.1 378) (v.1 0 364).toNatClampNeg), .int ((v.1 379) (v.1 0 364).toNatClampNeg), .int ((v.1 380) (v.1 0 364).toNatClampNeg)]) (rest := []) hx hb hml hown ht hKK hFx hP hD hS hA (c_x_X10_doPlace l dC dI cI cB cZ cJ cR tb H.size ad pr N L1 L2 (wA v 0 364 ((v.1 0 364) + (1 : Int32))) ((v.1 378) (v.1 0 364).toNatClampNeg) ((v.1 379) (v.1 0 364).toNatClampNeg) ((v.1 380) (v.1 0 364).toNatClampNeg) ps (show (N : Int) ≤ 4096 from (om_1c2c49c46c zNN)) (show L1.length = 40 from hL1) (show L2.length = 60 from hL2) (show RP (wA v 0 364 ((v.1 0 364) + (1 : Int32))) from ((show FC [362, 363, 364, 365, 366, 368, 369, 370, 371] [0, 358, 359, 360] v (wA v 0 364 ((v.1 0 364) + (1 : Int32))) from (FC.f (FC.rf _) ((v.1 0 364) + (1 : Int32)) (by decide))).1 rp)) (show pr ps = ad 908 from hps) (show (v.1 0 355) = ps from es355)) tw_893 tw_894 (by decide +kernel) rfl rfl ⟨Nat.le_of_ble_eq_true rfl, Nat.le_of_ble_eq_true rfl⟩ (List.range (cW ad pr N cI cR L1 L2 (wA v 0 364 ((v.1 0 364) + (1 : Int32)))).length) (rg_map _) (nd_range _) 7 rfl rfl rfl rfl hl.1 rfl (Nat.le_of_ble_eq_true rfl) dX10_doDeed_387 ⟨Nat.le_of_ble_eq_true rfl, Nat.le_of_ble_eq_true rfl⟩) hP hD hS hA (fun u88 H locs hw87 hP hD hS => ?_)
                              obtain ⟨fr87, ex87, rs87⟩ := hw87
                              have rs87 : RS0 (wA v 0 364 ((v.1 0 364) + (1 : Int32))) u88 := rs87
                              refine W.widen (k := 0) (n := 0) (Nat.le_refl _) (Nat.le_refl _) ?_
                              have q90 : (u88.1 0 370).toInt = (v.1 0 370).toInt := congrArg Int32.toInt ((fr87.2.1 370 (by decide)).trans (show (wA v 0 364 ((v.1 0 364) + (1 : Int32))).1 0 370 = (v.1 0 370) by rfl))
                              exact W.vret hx hb hr (fun t ht9 hW => ⟨⟨u88, rfl, ⟨(FC.tr (FC.f (FC.rf _) ((v.1 0 364) + (1 : Int32)) (by decide)) (FC.up fr87 (by decide) (by decide))), ⟨z344, z381, zq, (Or.inr (⟨z3, (Or.inr (⟨z6, z8, (Or.inr (⟨h10, (Or.inr (⟨h17, (Or.inr (⟨h20, (Or.inr (⟨h26, (Or.inr (⟨h33, (Or.inr (⟨h43, (Or.inr (⟨h53, (Or.inr (⟨h63, (Or.inr (⟨h73, (Or.inl ⟨h83, z86, u88, ex87, ⟨fr87, rs87⟩, rfl⟩)⟩))⟩))⟩))⟩))⟩))⟩))⟩))⟩))⟩))⟩))⟩))⟩, (show (v.1 0 370).toInt ≤ (u88.1 0 370).toInt ∧ (u88.1 0 370).toInt ≤ (v.1 0 370).toInt + 1 from (om_a5ca429bbe q90)), (RS0.tr (show RS0 v (wA v 0 364 ((v.1 0 364) + (1 : Int32))) from (RS0.w RS0.rf (by decide))) rs87)⟩, by rw [ht9]; exact hP, hD⟩, hS.F ht9⟩) hS.2.2 dX10_doDeed_390
                            · have z91 : (16 : Int) ≤ ((v.1 378) (v.1 0 364).toNatClampNeg).toInt := nlt_z rfl (show (16 : Int32).toInt = (16 : Int) by decide) h85
                              exact False.elim (om_78bceb068f z84 z91)
                          ·
                            have z92 : ((v.1 378) (v.1 0 364).toNatClampNeg).toInt ≠ (10 : Int) := ne_z rfl (show (10 : Int32).toInt = (10 : Int) by decide) h83
                            by_cases h93 : ((v.1 378) (v.1 0 364).toNatClampNeg) = 11
                            · refine lv_tableIn (off := 275) (tgt := 362) hx hb dX10_doDeed_87 (by rw [h93]; decide) (by rw [h93]; decide) (by rw [h93]; decide) (by decide) ?_
                              have z94 : ((v.1 378) (v.1 0 364).toNatClampNeg).toInt = (11 : Int) := eq_z rfl (show (11 : Int32).toInt = (11 : Int) by decide) h93
                              refine lv_iload_n hx hb dX10_doDeed_362 rfl (lv_at hl 2 rfl) ?_
                              refine lv_bipush (v := 16) hx hb dX10_doDeed_363 (by decide) ?_
                              refine lv_icmp_lt (tgt := 383) hx hb dX10_doDeed_365 (by decide) (fun h95 => ?_) (fun h95 => ?_)
                              · have z96 : ((v.1 378) (v.1 0 364).toNatClampNeg).toInt < (16 : Int) := lt_z rfl (show (16 : Int32).toInt = (16 : Int) by decide) h95
                                refine lv_aload_n hx hb dX10_doDeed_383 rfl (lv_at hl 3 rfl) ?_
                                refine lv_iload_n hx hb dX10_doDeed_384 rfl (lv_at hl 2 rfl) ?_
                                refine lv_iload_n hx hb dX10_doDeed_385 rfl (lv_at hl 1 rfl) ?_
                                refine lv_iload_n hx hb dX10_doDeed_386 rfl (lv_at hl 0 rfl) ?_
                                refine cu_v (rn_Vk (n := 3) (As := [.int ((v.1 378) (v.1 0 364).toNatClampNeg), .int ((v.1 379) (v.1 0 364).toNatClampNeg), .int ((v.1 380) (v.1 0 364).toNatClampNeg)]) (rest := []) hx hb hml hown ht hKK hFx hP hD hS hA (c_x_X10_doPlace l dC dI cI cB cZ cJ cR tb H.size ad pr N L1 L2 (wA v 0 364 ((v.1 0 364) + (1 : Int32))) ((v.1 378) (v.1 0 364).toNatClampNeg) ((v.1 379) (v.1 0 364).toNatClampNeg) ((v.1 380) (v.1 0 364).toNatClampNeg) ps (show (N : Int) ≤ 4096 from (om_1c2c49c46c zNN)) (show L1.length = 40 from hL1) (show L2.length = 60 from hL2) (show RP (wA v 0 364 ((v.1 0 364) + (1 : Int32))) from ((show FC [362, 363, 364, 365, 366, 368, 369, 370, 371] [0, 358, 359, 360] v (wA v 0 364 ((v.1 0 364) + (1 : Int32))) from (FC.f (FC.rf _) ((v.1 0 364) + (1 : Int32)) (by decide))).1 rp)) (show pr ps = ad 908 from hps) (show (v.1 0 355) = ps from es355)) tw_893 tw_894 (by decide +kernel) rfl rfl ⟨Nat.le_of_ble_eq_true rfl, Nat.le_of_ble_eq_true rfl⟩ (List.range (cW ad pr N cI cR L1 L2 (wA v 0 364 ((v.1 0 364) + (1 : Int32)))).length) (rg_map _) (nd_range _) 7 rfl rfl rfl rfl hl.1 rfl (Nat.le_of_ble_eq_true rfl) dX10_doDeed_387 ⟨Nat.le_of_ble_eq_true rfl, Nat.le_of_ble_eq_true rfl⟩) hP hD hS hA (fun u98 H locs hw97 hP hD hS => ?_)
                                obtain ⟨fr97, ex97, rs97⟩ := hw97
                                have rs97 : RS0 (wA v 0 364 ((v.1 0 364) + (1 : Int32))) u98 := rs97
                                refine W.widen (k := 0) (n := 0) (Nat.le_refl _) (Nat.le_refl _) ?_
                                have q100 : (u98.1 0 370).toInt = (v.1 0 370).toInt := congrArg Int32.toInt ((fr97.2.1 370 (by decide)).trans (show (wA v 0 364 ((v.1 0 364) + (1 : Int32))).1 0 370 = (v.1 0 370) by rfl))
                                exact W.vret hx hb hr (fun t ht9 hW => ⟨⟨u98, rfl, ⟨(FC.tr (FC.f (FC.rf _) ((v.1 0 364) + (1 : Int32)) (by decide)) (FC.up fr97 (by decide) (by decide))), ⟨z344, z381, zq, (Or.inr (⟨z3, (Or.inr (⟨z6, z8, (Or.inr (⟨h10, (Or.inr (⟨h17, (Or.inr (⟨h20, (Or.inr (⟨h26, (Or.inr (⟨h33, (Or.inr (⟨h43, (Or.inr (⟨h53, (Or.inr (⟨h63, (Or.inr (⟨h73, (Or.inr (⟨h83, (Or.inl ⟨h93, z96, u98, ex97, ⟨fr97, rs97⟩, rfl⟩)⟩))⟩))⟩))⟩))⟩))⟩))⟩))⟩))⟩))⟩))⟩))⟩))⟩, (show (v.1 0 370).toInt ≤ (u98.1 0 370).toInt ∧ (u98.1 0 370).toInt ≤ (v.1 0 370).toInt + 1 from (om_a5ca429bbe q100)), (RS0.tr (show RS0 v (wA v 0 364 ((v.1 0 364) + (1 : Int32))) from (RS0.w RS0.rf (by decide))) rs97)⟩, by rw [ht9]; exact hP, hD⟩, hS.F ht9⟩) hS.2.2 dX10_doDeed_390
                              · have z101 : (16 : Int) ≤ ((v.1 378) (v.1 0 364).toNatClampNeg).toInt := nlt_z rfl (show (16 : Int32).toInt = (16 : Int) by decide) h95
                                exact False.elim (om_d51d4e690a z94 z101)
                            ·
                              have z102 : ((v.1 378) (v.1 0 364).toNatClampNeg).toInt ≠ (11 : Int) := ne_z rfl (show (11 : Int32).toInt = (11 : Int) by decide) h93
                              by_cases h103 : ((v.1 378) (v.1 0 364).toNatClampNeg) = 12
                              · refine lv_tableIn (off := 148) (tgt := 235) hx hb dX10_doDeed_87 (by rw [h103]; decide) (by rw [h103]; decide) (by rw [h103]; decide) (by decide) ?_
                                have z104 : ((v.1 378) (v.1 0 364).toNatClampNeg).toInt = (12 : Int) := eq_z rfl (show (12 : Int32).toInt = (12 : Int) by decide) h103
                                refine lv_aload_n hx hb dX10_doDeed_235 rfl (lv_at hl 3 rfl) ?_
                                refine lv_aload_n hx hb dX10_doDeed_236 rfl (lv_at hl 3 rfl) ?_
                                refine va_get (D := (dC, dI)) (ci := 13) (fs := oF_X10 ad pr (wA v 0 364 ((v.1 0 364) + (1 : Int32)))) (v := .int (v.1 0 363)) (C := RX10) (T := TX10) (N := 17) hx hb ht itX10 hown hK hP 7 rfl rfl 8 (by decide) (ht _ tw_842) (fun _ h9 => h9) rfl dX10_doDeed_237 ?_
                                refine lv_ineg hx hb dX10_doDeed_240 ?_
                                refine va_put (D := (dC, dI)) (ci := 13) (fs := oF_X10 ad pr (wA v 0 364 ((v.1 0 364) + (1 : Int32)))) (v := .int (-(v.1 0 363))) (ty := .int) (C := RX10) (T := TX10) (N := 17) hx hb ht itX10 tyX10 tyX10_ok nmX10 hown hK hP hD hS 7 rfl rfl 8 (by decide) (ht _ tw_842) (fun _ h9 => h9) rfl (by decide +kernel) rfl rfl (Nat.le_of_ble_eq_true rfl) dX10_doDeed_241 (fun H locs hP hD hS => ?_)
                                have hP := cP_ (cw_363 ad pr N cI cR L1 L2 (wA v 0 364 ((v.1 0 364) + (1 : Int32))) (-(v.1 0 363))) hP
                                have hD := cD_ (cw_363 ad pr N cI cR L1 L2 (wA v 0 364 ((v.1 0 364) + (1 : Int32))) (-(v.1 0 363))) hD
                                refine lv_goto (tgt := 390) hx hb dX10_doDeed_244 (by decide) ?_
                                exact W.vret hx hb hr (fun t ht9 hW => ⟨⟨(wA (wA v 0 364 ((v.1 0 364) + (1 : Int32))) 0 363 (-(v.1 0 363))), rfl, ⟨(FC.f (FC.f (FC.rf _) ((v.1 0 364) + (1 : Int32)) (by decide)) (-(v.1 0 363)) (by decide)), ⟨z344, z381, zq, (Or.inr (⟨z3, (Or.inr (⟨z6, z8, (Or.inr (⟨h10, (Or.inr (⟨h17, (Or.inr (⟨h20, (Or.inr (⟨h26, (Or.inr (⟨h33, (Or.inr (⟨h43, (Or.inr (⟨h53, (Or.inr (⟨h63, (Or.inr (⟨h73, (Or.inr (⟨h83, (Or.inr (⟨h93, (Or.inl ⟨h103, rfl⟩)⟩))⟩))⟩))⟩))⟩))⟩))⟩))⟩))⟩))⟩))⟩))⟩))⟩))⟩, (show (v.1 0 370).toInt ≤ (v.1 0 370).toInt ∧ (v.1 0 370).toInt ≤ (v.1 0 370).toInt + 1 from om_b79dd2a91d), (RS0.w (RS0.w RS0.rf (by decide)) (by decide))⟩, by rw [ht9]; exact hP, hD⟩, hS.F ht9⟩) hS.2.2 dX10_doDeed_390
                              ·
                                have z105 : ((v.1 378) (v.1 0 364).toNatClampNeg).toInt ≠ (12 : Int) := ne_z rfl (show (12 : Int32).toInt = (12 : Int) by decide) h103
                                by_cases h106 : ((v.1 378) (v.1 0 364).toNatClampNeg) = 13
                                · refine lv_tableIn (off := 160) (tgt := 247) hx hb dX10_doDeed_87 (by rw [h106]; decide) (by rw [h106]; decide) (by rw [h106]; decide) (by decide) ?_
                                  have z107 : ((v.1 378) (v.1 0 364).toNatClampNeg).toInt = (13 : Int) := eq_z rfl (show (13 : Int32).toInt = (13 : Int) by decide) h106
                                  refine lv_aload_n hx hb dX10_doDeed_247 rfl (lv_at hl 3 rfl) ?_
                                  refine lv_aload_n hx hb dX10_doDeed_248 rfl (lv_at hl 3 rfl) ?_
                                  refine va_get (D := (dC, dI)) (ci := 13) (fs := oF_X10 ad pr (wA v 0 364 ((v.1 0 364) + (1 : Int32)))) (v := .int (v.1 0 363)) (C := RX10) (T := TX10) (N := 17) hx hb ht itX10 hown hK hP 7 rfl rfl 8 (by decide) (ht _ tw_842) (fun _ h9 => h9) rfl dX10_doDeed_249 ?_
                                  refine lv_if_ne (tgt := 259) hx hb dX10_doDeed_252 (by decide) (fun h108 => ?_) (fun h108 => ?_)
                                  · have z109 : (v.1 0 363).toInt ≠ (0 : Int) := ne_z rfl (show (0 : Int32).toInt = (0 : Int) by decide) h108
                                    refine lv_iconst (v := 0) hx hb dX10_doDeed_259 (by decide) ?_
                                    refine va_put (D := (dC, dI)) (ci := 13) (fs := oF_X10 ad pr (wA v 0 364 ((v.1 0 364) + (1 : Int32)))) (v := .int 0) (ty := .int) (C := RX10) (T := TX10) (N := 17) hx hb ht itX10 tyX10 tyX10_ok nmX10 hown hK hP hD hS 7 rfl rfl 8 (by decide) (ht _ tw_842) (fun _ h9 => h9) rfl (by decide +kernel) rfl rfl (Nat.le_of_ble_eq_true rfl) dX10_doDeed_260 (fun H locs hP hD hS => ?_)
                                    have hP := cP_ (cw_363 ad pr N cI cR L1 L2 (wA v 0 364 ((v.1 0 364) + (1 : Int32))) 0) hP
                                    have hD := cD_ (cw_363 ad pr N cI cR L1 L2 (wA v 0 364 ((v.1 0 364) + (1 : Int32))) 0) hD
                                    refine lv_goto (tgt := 390) hx hb dX10_doDeed_263 (by decide) ?_
                                    exact W.vret hx hb hr (fun t ht9 hW => ⟨⟨(wA (wA v 0 364 ((v.1 0 364) + (1 : Int32))) 0 363 0), rfl, ⟨(FC.f (FC.f (FC.rf _) ((v.1 0 364) + (1 : Int32)) (by decide)) 0 (by decide)), ⟨z344, z381, zq, (Or.inr (⟨z3, (Or.inr (⟨z6, z8, (Or.inr (⟨h10, (Or.inr (⟨h17, (Or.inr (⟨h20, (Or.inr (⟨h26, (Or.inr (⟨h33, (Or.inr (⟨h43, (Or.inr (⟨h53, (Or.inr (⟨h63, (Or.inr (⟨h73, (Or.inr (⟨h83, (Or.inr (⟨h93, (Or.inr (⟨h103, (Or.inl ⟨h106, (Or.inl ⟨z109, rfl⟩)⟩)⟩))⟩))⟩))⟩))⟩))⟩))⟩))⟩))⟩))⟩))⟩))⟩))⟩))⟩))⟩, (show (v.1 0 370).toInt ≤ (v.1 0 370).toInt ∧ (v.1 0 370).toInt ≤ (v.1 0 370).toInt + 1 from om_b79dd2a91d), (RS0.w (RS0.w RS0.rf (by decide)) (by decide))⟩, by rw [ht9]; exact hP, hD⟩, hS.F ht9⟩) hS.2.2 dX10_doDeed_390
                                  · have z110 : (v.1 0 363).toInt = (0 : Int) := eq_z rfl (show (0 : Int32).toInt = (0 : Int) by decide) h108
                                    refine lv_iconst (v := 1) hx hb dX10_doDeed_255 (by decide) ?_
                                    refine lv_goto (tgt := 260) hx hb dX10_doDeed_256 (by decide) ?_
                                    refine va_put (D := (dC, dI)) (ci := 13) (fs := oF_X10 ad pr (wA v 0 364 ((v.1 0 364) + (1 : Int32)))) (v := .int 1) (ty := .int) (C := RX10) (T := TX10) (N := 17) hx hb ht itX10 tyX10 tyX10_ok nmX10 hown hK hP hD hS 7 rfl rfl 8 (by decide) (ht _ tw_842) (fun _ h9 => h9) rfl (by decide +kernel) rfl rfl (Nat.le_of_ble_eq_true rfl) dX10_doDeed_260 (fun H locs hP hD hS => ?_)
                                    have hP := cP_ (cw_363 ad pr N cI cR L1 L2 (wA v 0 364 ((v.1 0 364) + (1 : Int32))) 1) hP
                                    have hD := cD_ (cw_363 ad pr N cI cR L1 L2 (wA v 0 364 ((v.1 0 364) + (1 : Int32))) 1) hD
                                    refine lv_goto (tgt := 390) hx hb dX10_doDeed_263 (by decide) ?_
                                    exact W.vret hx hb hr (fun t ht9 hW => ⟨⟨(wA (wA v 0 364 ((v.1 0 364) + (1 : Int32))) 0 363 1), rfl, ⟨(FC.f (FC.f (FC.rf _) ((v.1 0 364) + (1 : Int32)) (by decide)) 1 (by decide)), ⟨z344, z381, zq, (Or.inr (⟨z3, (Or.inr (⟨z6, z8, (Or.inr (⟨h10, (Or.inr (⟨h17, (Or.inr (⟨h20, (Or.inr (⟨h26, (Or.inr (⟨h33, (Or.inr (⟨h43, (Or.inr (⟨h53, (Or.inr (⟨h63, (Or.inr (⟨h73, (Or.inr (⟨h83, (Or.inr (⟨h93, (Or.inr (⟨h103, (Or.inl ⟨h106, (Or.inr (⟨z110, rfl⟩))⟩)⟩))⟩))⟩))⟩))⟩))⟩))⟩))⟩))⟩))⟩))⟩))⟩))⟩))⟩))⟩, (show (v.1 0 370).toInt ≤ (v.1 0 370).toInt ∧ (v.1 0 370).toInt ≤ (v.1 0 370).toInt + 1 from om_b79dd2a91d), (RS0.w (RS0.w RS0.rf (by decide)) (by decide))⟩, by rw [ht9]; exact hP, hD⟩, hS.F ht9⟩) hS.2.2 dX10_doDeed_390
                                ·
                                  have z111 : ((v.1 378) (v.1 0 364).toNatClampNeg).toInt ≠ (13 : Int) := ne_z rfl (show (13 : Int32).toInt = (13 : Int) by decide) h106
                                  by_cases h112 : ((v.1 378) (v.1 0 364).toNatClampNeg) = 14
                                  · refine lv_tableIn (off := 179) (tgt := 266) hx hb dX10_doDeed_87 (by rw [h112]; decide) (by rw [h112]; decide) (by rw [h112]; decide) (by decide) ?_
                                    have z113 : ((v.1 378) (v.1 0 364).toNatClampNeg).toInt = (14 : Int) := eq_z rfl (show (14 : Int32).toInt = (14 : Int) by decide) h112
                                    refine lv_aload_n hx hb dX10_doDeed_266 rfl (lv_at hl 3 rfl) ?_
                                    refine lv_aload_n hx hb dX10_doDeed_267 rfl (lv_at hl 3 rfl) ?_
                                    refine va_get (D := (dC, dI)) (ci := 13) (fs := oF_X10 ad pr (wA v 0 364 ((v.1 0 364) + (1 : Int32)))) (v := .int (v.1 0 363)) (C := RX10) (T := TX10) (N := 17) hx hb ht itX10 hown hK hP 7 rfl rfl 8 (by decide) (ht _ tw_842) (fun _ h9 => h9) rfl dX10_doDeed_268 ?_
                                    refine lv_iconst (v := -1) hx hb dX10_doDeed_271 (by decide) ?_
                                    refine lv_ixor hx hb dX10_doDeed_272 ?_
                                    refine va_put (D := (dC, dI)) (ci := 13) (fs := oF_X10 ad pr (wA v 0 364 ((v.1 0 364) + (1 : Int32)))) (v := .int ((v.1 0 363) ^^^ ((-1) : Int32))) (ty := .int) (C := RX10) (T := TX10) (N := 17) hx hb ht itX10 tyX10 tyX10_ok nmX10 hown hK hP hD hS 7 rfl rfl 8 (by decide) (ht _ tw_842) (fun _ h9 => h9) rfl (by decide +kernel) rfl rfl (Nat.le_of_ble_eq_true rfl) dX10_doDeed_273 (fun H locs hP hD hS => ?_)
                                    have hP := cP_ (cw_363 ad pr N cI cR L1 L2 (wA v 0 364 ((v.1 0 364) + (1 : Int32))) ((v.1 0 363) ^^^ ((-1) : Int32))) hP
                                    have hD := cD_ (cw_363 ad pr N cI cR L1 L2 (wA v 0 364 ((v.1 0 364) + (1 : Int32))) ((v.1 0 363) ^^^ ((-1) : Int32))) hD
                                    refine lv_goto (tgt := 390) hx hb dX10_doDeed_276 (by decide) ?_
                                    exact W.vret hx hb hr (fun t ht9 hW => ⟨⟨(wA (wA v 0 364 ((v.1 0 364) + (1 : Int32))) 0 363 ((v.1 0 363) ^^^ ((-1) : Int32))), rfl, ⟨(FC.f (FC.f (FC.rf _) ((v.1 0 364) + (1 : Int32)) (by decide)) ((v.1 0 363) ^^^ ((-1) : Int32)) (by decide)), ⟨z344, z381, zq, (Or.inr (⟨z3, (Or.inr (⟨z6, z8, (Or.inr (⟨h10, (Or.inr (⟨h17, (Or.inr (⟨h20, (Or.inr (⟨h26, (Or.inr (⟨h33, (Or.inr (⟨h43, (Or.inr (⟨h53, (Or.inr (⟨h63, (Or.inr (⟨h73, (Or.inr (⟨h83, (Or.inr (⟨h93, (Or.inr (⟨h103, (Or.inr (⟨h106, (Or.inl ⟨h112, rfl⟩)⟩))⟩))⟩))⟩))⟩))⟩))⟩))⟩))⟩))⟩))⟩))⟩))⟩))⟩))⟩))⟩, (show (v.1 0 370).toInt ≤ (v.1 0 370).toInt ∧ (v.1 0 370).toInt ≤ (v.1 0 370).toInt + 1 from om_b79dd2a91d), (RS0.w (RS0.w RS0.rf (by decide)) (by decide))⟩, by rw [ht9]; exact hP, hD⟩, hS.F ht9⟩) hS.2.2 dX10_doDeed_390
                                  ·
                                    have z114 : ((v.1 378) (v.1 0 364).toNatClampNeg).toInt ≠ (14 : Int) := ne_z rfl (show (14 : Int32).toInt = (14 : Int) by decide) h112
                                    by_cases h115 : ((v.1 378) (v.1 0 364).toNatClampNeg) = 15
                                    · refine lv_tableIn (off := 192) (tgt := 279) hx hb dX10_doDeed_87 (by rw [h115]; decide) (by rw [h115]; decide) (by rw [h115]; decide) (by decide) ?_
                                      have z116 : ((v.1 378) (v.1 0 364).toNatClampNeg).toInt = (15 : Int) := eq_z rfl (show (15 : Int32).toInt = (15 : Int) by decide) h115
                                      refine lv_aload_n hx hb dX10_doDeed_279 rfl (lv_at hl 3 rfl) ?_
                                      refine lv_aload_n hx hb dX10_doDeed_280 rfl (lv_at hl 3 rfl) ?_
                                      refine va_get (D := (dC, dI)) (ci := 13) (fs := oF_X10 ad pr (wA v 0 364 ((v.1 0 364) + (1 : Int32)))) (v := .int (v.1 0 363)) (C := RX10) (T := TX10) (N := 17) hx hb ht itX10 hown hK hP 7 rfl rfl 8 (by decide) (ht _ tw_842) (fun _ h9 => h9) rfl dX10_doDeed_281 ?_
                                      refine lv_if_eq (tgt := 291) hx hb dX10_doDeed_284 (by decide) (fun h117 => ?_) (fun h117 => ?_)
                                      · have z118 : (v.1 0 363).toInt = (0 : Int) := eq_z rfl (show (0 : Int32).toInt = (0 : Int) by decide) h117
                                        refine lv_iconst (v := 0) hx hb dX10_doDeed_291 (by decide) ?_
                                        refine va_put (D := (dC, dI)) (ci := 13) (fs := oF_X10 ad pr (wA v 0 364 ((v.1 0 364) + (1 : Int32)))) (v := .int 0) (ty := .int) (C := RX10) (T := TX10) (N := 17) hx hb ht itX10 tyX10 tyX10_ok nmX10 hown hK hP hD hS 7 rfl rfl 8 (by decide) (ht _ tw_842) (fun _ h9 => h9) rfl (by decide +kernel) rfl rfl (Nat.le_of_ble_eq_true rfl) dX10_doDeed_292 (fun H locs hP hD hS => ?_)
                                        have hP := cP_ (cw_363 ad pr N cI cR L1 L2 (wA v 0 364 ((v.1 0 364) + (1 : Int32))) 0) hP
                                        have hD := cD_ (cw_363 ad pr N cI cR L1 L2 (wA v 0 364 ((v.1 0 364) + (1 : Int32))) 0) hD
                                        refine lv_goto (tgt := 390) hx hb dX10_doDeed_295 (by decide) ?_
                                        exact W.vret hx hb hr (fun t ht9 hW => ⟨⟨(wA (wA v 0 364 ((v.1 0 364) + (1 : Int32))) 0 363 0), rfl, ⟨(FC.f (FC.f (FC.rf _) ((v.1 0 364) + (1 : Int32)) (by decide)) 0 (by decide)), ⟨z344, z381, zq, (Or.inr (⟨z3, (Or.inr (⟨z6, z8, (Or.inr (⟨h10, (Or.inr (⟨h17, (Or.inr (⟨h20, (Or.inr (⟨h26, (Or.inr (⟨h33, (Or.inr (⟨h43, (Or.inr (⟨h53, (Or.inr (⟨h63, (Or.inr (⟨h73, (Or.inr (⟨h83, (Or.inr (⟨h93, (Or.inr (⟨h103, (Or.inr (⟨h106, (Or.inr (⟨h112, (Or.inl ⟨h115, (Or.inl ⟨z118, rfl⟩)⟩)⟩))⟩))⟩))⟩))⟩))⟩))⟩))⟩))⟩))⟩))⟩))⟩))⟩))⟩))⟩))⟩))⟩, (show (v.1 0 370).toInt ≤ (v.1 0 370).toInt ∧ (v.1 0 370).toInt ≤ (v.1 0 370).toInt + 1 from om_b79dd2a91d), (RS0.w (RS0.w RS0.rf (by decide)) (by decide))⟩, by rw [ht9]; exact hP, hD⟩, hS.F ht9⟩) hS.2.2 dX10_doDeed_390
                                      · have z119 : (v.1 0 363).toInt ≠ (0 : Int) := ne_z rfl (show (0 : Int32).toInt = (0 : Int) by decide) h117
                                        refine lv_iconst (v := 1) hx hb dX10_doDeed_287 (by decide) ?_
                                        refine lv_goto (tgt := 292) hx hb dX10_doDeed_288 (by decide) ?_
                                        refine va_put (D := (dC, dI)) (ci := 13) (fs := oF_X10 ad pr (wA v 0 364 ((v.1 0 364) + (1 : Int32)))) (v := .int 1) (ty := .int) (C := RX10) (T := TX10) (N := 17) hx hb ht itX10 tyX10 tyX10_ok nmX10 hown hK hP hD hS 7 rfl rfl 8 (by decide) (ht _ tw_842) (fun _ h9 => h9) rfl (by decide +kernel) rfl rfl (Nat.le_of_ble_eq_true rfl) dX10_doDeed_292 (fun H locs hP hD hS => ?_)
                                        have hP := cP_ (cw_363 ad pr N cI cR L1 L2 (wA v 0 364 ((v.1 0 364) + (1 : Int32))) 1) hP
                                        have hD := cD_ (cw_363 ad pr N cI cR L1 L2 (wA v 0 364 ((v.1 0 364) + (1 : Int32))) 1) hD
                                        refine lv_goto (tgt := 390) hx hb dX10_doDeed_295 (by decide) ?_
                                        exact W.vret hx hb hr (fun t ht9 hW => ⟨⟨(wA (wA v 0 364 ((v.1 0 364) + (1 : Int32))) 0 363 1), rfl, ⟨(FC.f (FC.f (FC.rf _) ((v.1 0 364) + (1 : Int32)) (by decide)) 1 (by decide)), ⟨z344, z381, zq, (Or.inr (⟨z3, (Or.inr (⟨z6, z8, (Or.inr (⟨h10, (Or.inr (⟨h17, (Or.inr (⟨h20, (Or.inr (⟨h26, (Or.inr (⟨h33, (Or.inr (⟨h43, (Or.inr (⟨h53, (Or.inr (⟨h63, (Or.inr (⟨h73, (Or.inr (⟨h83, (Or.inr (⟨h93, (Or.inr (⟨h103, (Or.inr (⟨h106, (Or.inr (⟨h112, (Or.inl ⟨h115, (Or.inr (⟨z119, rfl⟩))⟩)⟩))⟩))⟩))⟩))⟩))⟩))⟩))⟩))⟩))⟩))⟩))⟩))⟩))⟩))⟩))⟩))⟩, (show (v.1 0 370).toInt ≤ (v.1 0 370).toInt ∧ (v.1 0 370).toInt ≤ (v.1 0 370).toInt + 1 from om_b79dd2a91d), (RS0.w (RS0.w RS0.rf (by decide)) (by decide))⟩, by rw [ht9]; exact hP, hD⟩, hS.F ht9⟩) hS.2.2 dX10_doDeed_390
                                    ·
                                      have z120 : ((v.1 378) (v.1 0 364).toNatClampNeg).toInt ≠ (15 : Int) := ne_z rfl (show (15 : Int32).toInt = (15 : Int) by decide) h115
                                      by_cases h121 : ((v.1 378) (v.1 0 364).toNatClampNeg) = 16
                                      · refine lv_tableIn (off := 275) (tgt := 362) hx hb dX10_doDeed_87 (by rw [h121]; decide) (by rw [h121]; decide) (by rw [h121]; decide) (by decide) ?_
                                        have z122 : ((v.1 378) (v.1 0 364).toNatClampNeg).toInt = (16 : Int) := eq_z rfl (show (16 : Int32).toInt = (16 : Int) by decide) h121
                                        refine lv_iload_n hx hb dX10_doDeed_362 rfl (lv_at hl 2 rfl) ?_
                                        refine lv_bipush (v := 16) hx hb dX10_doDeed_363 (by decide) ?_
                                        refine lv_icmp_lt (tgt := 383) hx hb dX10_doDeed_365 (by decide) (fun h123 => ?_) (fun h123 => ?_)
                                        · have z124 : ((v.1 378) (v.1 0 364).toNatClampNeg).toInt < (16 : Int) := lt_z rfl (show (16 : Int32).toInt = (16 : Int) by decide) h123
                                          exact False.elim (om_e6288c86a2 z122 z124)
                                        · have z125 : (16 : Int) ≤ ((v.1 378) (v.1 0 364).toNatClampNeg).toInt := nlt_z rfl (show (16 : Int32).toInt = (16 : Int) by decide) h123
                                          refine lv_iload_n hx hb dX10_doDeed_368 rfl (lv_at hl 2 rfl) ?_
                                          refine lv_bipush (v := 19) hx hb dX10_doDeed_369 (by decide) ?_
                                          refine lv_icmp_gt (tgt := 383) hx hb dX10_doDeed_371 (by decide) (fun h126 => ?_) (fun h126 => ?_)
                                          · have z127 : (19 : Int) < ((v.1 378) (v.1 0 364).toNatClampNeg).toInt := lt_z (show (19 : Int32).toInt = (19 : Int) by decide) rfl h126
                                            exact False.elim (om_9801215178 z122 z127)
                                          · have z128 : ((v.1 378) (v.1 0 364).toNatClampNeg).toInt ≤ (19 : Int) := nlt_z (show (19 : Int32).toInt = (19 : Int) by decide) rfl h126
                                            refine lv_aload_n hx hb dX10_doDeed_374 rfl (lv_at hl 3 rfl) ?_
                                            refine lv_iload_n hx hb dX10_doDeed_375 rfl (lv_at hl 2 rfl) ?_
                                            refine lv_iload_n hx hb dX10_doDeed_376 rfl (lv_at hl 1 rfl) ?_
                                            refine cu_v (rn_Vk (n := 2) (As := [.int ((v.1 378) (v.1 0 364).toNatClampNeg), .int ((v.1 379) (v.1 0 364).toNatClampNeg)]) (rest := []) hx hb hml hown ht hKK hFx hP hD hS hA (c_x_X10_doJump l dC dI cI cB cZ cJ cR tb H.size ad pr N L1 L2 (wA v 0 364 ((v.1 0 364) + (1 : Int32))) ((v.1 378) (v.1 0 364).toNatClampNeg) ((v.1 379) (v.1 0 364).toNatClampNeg) ) tw_895 tw_896 (by decide +kernel) rfl rfl ⟨Nat.le_of_ble_eq_true rfl, Nat.le_of_ble_eq_true rfl⟩ (List.range (cW ad pr N cI cR L1 L2 (wA v 0 364 ((v.1 0 364) + (1 : Int32)))).length) (rg_map _) (nd_range _) 7 rfl rfl rfl rfl hl.1 rfl (Nat.le_of_ble_eq_true rfl) dX10_doDeed_377 ⟨Nat.le_of_ble_eq_true rfl, Nat.le_of_ble_eq_true rfl⟩) hP hD hS hA (fun u130 H locs hw129 hP hD hS => ?_)
                                            obtain ⟨fr129, ex129, rs129⟩ := hw129
                                            have rs129 : RS0 (wA v 0 364 ((v.1 0 364) + (1 : Int32))) u130 := rs129
                                            refine W.widen (k := 0) (n := 0) (Nat.le_refl _) (Nat.le_refl _) ?_
                                            refine lv_goto (tgt := 390) hx hb dX10_doDeed_380 (by decide) ?_
                                            have q132 : (u130.1 0 370).toInt = (v.1 0 370).toInt := congrArg Int32.toInt ((fr129.2.1 370 (by decide)).trans (show (wA v 0 364 ((v.1 0 364) + (1 : Int32))).1 0 370 = (v.1 0 370) by rfl))
                                            exact W.vret hx hb hr (fun t ht9 hW => ⟨⟨u130, rfl, ⟨(FC.tr (FC.f (FC.rf _) ((v.1 0 364) + (1 : Int32)) (by decide)) (FC.up fr129 (by decide) (by decide))), ⟨z344, z381, zq, (Or.inr (⟨z3, (Or.inr (⟨z6, z8, (Or.inr (⟨h10, (Or.inr (⟨h17, (Or.inr (⟨h20, (Or.inr (⟨h26, (Or.inr (⟨h33, (Or.inr (⟨h43, (Or.inr (⟨h53, (Or.inr (⟨h63, (Or.inr (⟨h73, (Or.inr (⟨h83, (Or.inr (⟨h93, (Or.inr (⟨h103, (Or.inr (⟨h106, (Or.inr (⟨h112, (Or.inr (⟨h115, (Or.inl ⟨h121, z125, z128, u130, ex129, ⟨fr129, rs129⟩, rfl⟩)⟩))⟩))⟩))⟩))⟩))⟩))⟩))⟩))⟩))⟩))⟩))⟩))⟩))⟩))⟩))⟩))⟩))⟩, (show (v.1 0 370).toInt ≤ (u130.1 0 370).toInt ∧ (u130.1 0 370).toInt ≤ (v.1 0 370).toInt + 1 from (om_a5ca429bbe q132)), (RS0.tr (show RS0 v (wA v 0 364 ((v.1 0 364) + (1 : Int32))) from (RS0.w RS0.rf (by decide))) rs129)⟩, by rw [ht9]; exact hP, hD⟩, hS.F ht9⟩) hS.2.2 dX10_doDeed_390
                                      ·
                                        have z133 : ((v.1 378) (v.1 0 364).toNatClampNeg).toInt ≠ (16 : Int) := ne_z rfl (show (16 : Int32).toInt = (16 : Int) by decide) h121
                                        by_cases h134 : ((v.1 378) (v.1 0 364).toNatClampNeg) = 17
                                        · refine lv_tableIn (off := 275) (tgt := 362) hx hb dX10_doDeed_87 (by rw [h134]; decide) (by rw [h134]; decide) (by rw [h134]; decide) (by decide) ?_
                                          have z135 : ((v.1 378) (v.1 0 364).toNatClampNeg).toInt = (17 : Int) := eq_z rfl (show (17 : Int32).toInt = (17 : Int) by decide) h134
                                          refine lv_iload_n hx hb dX10_doDeed_362 rfl (lv_at hl 2 rfl) ?_
                                          refine lv_bipush (v := 16) hx hb dX10_doDeed_363 (by decide) ?_
                                          refine lv_icmp_lt (tgt := 383) hx hb dX10_doDeed_365 (by decide) (fun h136 => ?_) (fun h136 => ?_)
                                          · have z137 : ((v.1 378) (v.1 0 364).toNatClampNeg).toInt < (16 : Int) := lt_z rfl (show (16 : Int32).toInt = (16 : Int) by decide) h136
                                            exact False.elim (om_9a661fad95 z135 z137)
                                          · have z138 : (16 : Int) ≤ ((v.1 378) (v.1 0 364).toNatClampNeg).toInt := nlt_z rfl (show (16 : Int32).toInt = (16 : Int) by decide) h136
                                            refine lv_iload_n hx hb dX10_doDeed_368 rfl (lv_at hl 2 rfl) ?_
                                            refine lv_bipush (v := 19) hx hb dX10_doDeed_369 (by decide) ?_
                                            refine lv_icmp_gt (tgt := 383) hx hb dX10_doDeed_371 (by decide) (fun h139 => ?_) (fun h139 => ?_)
                                            · have z140 : (19 : Int) < ((v.1 378) (v.1 0 364).toNatClampNeg).toInt := lt_z (show (19 : Int32).toInt = (19 : Int) by decide) rfl h139
                                              exact False.elim (om_c11640bd4d z135 z140)
                                            · have z141 : ((v.1 378) (v.1 0 364).toNatClampNeg).toInt ≤ (19 : Int) := nlt_z (show (19 : Int32).toInt = (19 : Int) by decide) rfl h139
                                              refine lv_aload_n hx hb dX10_doDeed_374 rfl (lv_at hl 3 rfl) ?_
                                              refine lv_iload_n hx hb dX10_doDeed_375 rfl (lv_at hl 2 rfl) ?_
                                              refine lv_iload_n hx hb dX10_doDeed_376 rfl (lv_at hl 1 rfl) ?_
                                              refine cu_v (rn_Vk (n := 2) (As := [.int ((v.1 378) (v.1 0 364).toNatClampNeg), .int ((v.1 379) (v.1 0 364).toNatClampNeg)]) (rest := []) hx hb hml hown ht hKK hFx hP hD hS hA (c_x_X10_doJump l dC dI cI cB cZ cJ cR tb H.size ad pr N L1 L2 (wA v 0 364 ((v.1 0 364) + (1 : Int32))) ((v.1 378) (v.1 0 364).toNatClampNeg) ((v.1 379) (v.1 0 364).toNatClampNeg) ) tw_895 tw_896 (by decide +kernel) rfl rfl ⟨Nat.le_of_ble_eq_true rfl, Nat.le_of_ble_eq_true rfl⟩ (List.range (cW ad pr N cI cR L1 L2 (wA v 0 364 ((v.1 0 364) + (1 : Int32)))).length) (rg_map _) (nd_range _) 7 rfl rfl rfl rfl hl.1 rfl (Nat.le_of_ble_eq_true rfl) dX10_doDeed_377 ⟨Nat.le_of_ble_eq_true rfl, Nat.le_of_ble_eq_true rfl⟩) hP hD hS hA (fun u143 H locs hw142 hP hD hS => ?_)
                                              obtain ⟨fr142, ex142, rs142⟩ := hw142
                                              have rs142 : RS0 (wA v 0 364 ((v.1 0 364) + (1 : Int32))) u143 := rs142
                                              refine W.widen (k := 0) (n := 0) (Nat.le_refl _) (Nat.le_refl _) ?_
                                              refine lv_goto (tgt := 390) hx hb dX10_doDeed_380 (by decide) ?_
                                              have q145 : (u143.1 0 370).toInt = (v.1 0 370).toInt := congrArg Int32.toInt ((fr142.2.1 370 (by decide)).trans (show (wA v 0 364 ((v.1 0 364) + (1 : Int32))).1 0 370 = (v.1 0 370) by rfl))
                                              exact W.vret hx hb hr (fun t ht9 hW => ⟨⟨u143, rfl, ⟨(FC.tr (FC.f (FC.rf _) ((v.1 0 364) + (1 : Int32)) (by decide)) (FC.up fr142 (by decide) (by decide))), ⟨z344, z381, zq, (Or.inr (⟨z3, (Or.inr (⟨z6, z8, (Or.inr (⟨h10, (Or.inr (⟨h17, (Or.inr (⟨h20, (Or.inr (⟨h26, (Or.inr (⟨h33, (Or.inr (⟨h43, (Or.inr (⟨h53, (Or.inr (⟨h63, (Or.inr (⟨h73, (Or.inr (⟨h83, (Or.inr (⟨h93, (Or.inr (⟨h103, (Or.inr (⟨h106, (Or.inr (⟨h112, (Or.inr (⟨h115, (Or.inr (⟨h121, (Or.inl ⟨h134, z138, z141, u143, ex142, ⟨fr142, rs142⟩, rfl⟩)⟩))⟩))⟩))⟩))⟩))⟩))⟩))⟩))⟩))⟩))⟩))⟩))⟩))⟩))⟩))⟩))⟩))⟩))⟩, (show (v.1 0 370).toInt ≤ (u143.1 0 370).toInt ∧ (u143.1 0 370).toInt ≤ (v.1 0 370).toInt + 1 from (om_a5ca429bbe q145)), (RS0.tr (show RS0 v (wA v 0 364 ((v.1 0 364) + (1 : Int32))) from (RS0.w RS0.rf (by decide))) rs142)⟩, by rw [ht9]; exact hP, hD⟩, hS.F ht9⟩) hS.2.2 dX10_doDeed_390
                                        ·
                                          have z146 : ((v.1 378) (v.1 0 364).toNatClampNeg).toInt ≠ (17 : Int) := ne_z rfl (show (17 : Int32).toInt = (17 : Int) by decide) h134
                                          by_cases h147 : ((v.1 378) (v.1 0 364).toNatClampNeg) = 18
                                          · refine lv_tableIn (off := 275) (tgt := 362) hx hb dX10_doDeed_87 (by rw [h147]; decide) (by rw [h147]; decide) (by rw [h147]; decide) (by decide) ?_
                                            have z148 : ((v.1 378) (v.1 0 364).toNatClampNeg).toInt = (18 : Int) := eq_z rfl (show (18 : Int32).toInt = (18 : Int) by decide) h147
                                            refine lv_iload_n hx hb dX10_doDeed_362 rfl (lv_at hl 2 rfl) ?_
                                            refine lv_bipush (v := 16) hx hb dX10_doDeed_363 (by decide) ?_
                                            refine lv_icmp_lt (tgt := 383) hx hb dX10_doDeed_365 (by decide) (fun h149 => ?_) (fun h149 => ?_)
                                            · have z150 : ((v.1 378) (v.1 0 364).toNatClampNeg).toInt < (16 : Int) := lt_z rfl (show (16 : Int32).toInt = (16 : Int) by decide) h149
                                              exact False.elim (om_059abc5c88 z148 z150)
                                            · have z151 : (16 : Int) ≤ ((v.1 378) (v.1 0 364).toNatClampNeg).toInt := nlt_z rfl (show (16 : Int32).toInt = (16 : Int) by decide) h149
                                              refine lv_iload_n hx hb dX10_doDeed_368 rfl (lv_at hl 2 rfl) ?_
                                              refine lv_bipush (v := 19) hx hb dX10_doDeed_369 (by decide) ?_
                                              refine lv_icmp_gt (tgt := 383) hx hb dX10_doDeed_371 (by decide) (fun h152 => ?_) (fun h152 => ?_)
                                              · have z153 : (19 : Int) < ((v.1 378) (v.1 0 364).toNatClampNeg).toInt := lt_z (show (19 : Int32).toInt = (19 : Int) by decide) rfl h152
                                                exact False.elim (om_32767137a2 z148 z153)
                                              · have z154 : ((v.1 378) (v.1 0 364).toNatClampNeg).toInt ≤ (19 : Int) := nlt_z (show (19 : Int32).toInt = (19 : Int) by decide) rfl h152
                                                refine lv_aload_n hx hb dX10_doDeed_374 rfl (lv_at hl 3 rfl) ?_
                                                refine lv_iload_n hx hb dX10_doDeed_375 rfl (lv_at hl 2 rfl) ?_
                                                refine lv_iload_n hx hb dX10_doDeed_376 rfl (lv_at hl 1 rfl) ?_
                                                refine cu_v (rn_Vk (n := 2) (As := [.int ((v.1 378) (v.1 0 364).toNatClampNeg), .int ((v.1 379) (v.1 0 364).toNatClampNeg)]) (rest := []) hx hb hml hown ht hKK hFx hP hD hS hA (c_x_X10_doJump l dC dI cI cB cZ cJ cR tb H.size ad pr N L1 L2 (wA v 0 364 ((v.1 0 364) + (1 : Int32))) ((v.1 378) (v.1 0 364).toNatClampNeg) ((v.1 379) (v.1 0 364).toNatClampNeg) ) tw_895 tw_896 (by decide +kernel) rfl rfl ⟨Nat.le_of_ble_eq_true rfl, Nat.le_of_ble_eq_true rfl⟩ (List.range (cW ad pr N cI cR L1 L2 (wA v 0 364 ((v.1 0 364) + (1 : Int32)))).length) (rg_map _) (nd_range _) 7 rfl rfl rfl rfl hl.1 rfl (Nat.le_of_ble_eq_true rfl) dX10_doDeed_377 ⟨Nat.le_of_ble_eq_true rfl, Nat.le_of_ble_eq_true rfl⟩) hP hD hS hA (fun u156 H locs hw155 hP hD hS => ?_)
                                                obtain ⟨fr155, ex155, rs155⟩ := hw155
                                                have rs155 : RS0 (wA v 0 364 ((v.1 0 364) + (1 : Int32))) u156 := rs155
                                                refine W.widen (k := 0) (n := 0) (Nat.le_refl _) (Nat.le_refl _) ?_
                                                refine lv_goto (tgt := 390) hx hb dX10_doDeed_380 (by decide) ?_
                                                have q158 : (u156.1 0 370).toInt = (v.1 0 370).toInt := congrArg Int32.toInt ((fr155.2.1 370 (by decide)).trans (show (wA v 0 364 ((v.1 0 364) + (1 : Int32))).1 0 370 = (v.1 0 370) by rfl))
                                                exact W.vret hx hb hr (fun t ht9 hW => ⟨⟨u156, rfl, ⟨(FC.tr (FC.f (FC.rf _) ((v.1 0 364) + (1 : Int32)) (by decide)) (FC.up fr155 (by decide) (by decide))), ⟨z344, z381, zq, (Or.inr (⟨z3, (Or.inr (⟨z6, z8, (Or.inr (⟨h10, (Or.inr (⟨h17, (Or.inr (⟨h20, (Or.inr (⟨h26, (Or.inr (⟨h33, (Or.inr (⟨h43, (Or.inr (⟨h53, (Or.inr (⟨h63, (Or.inr (⟨h73, (Or.inr (⟨h83, (Or.inr (⟨h93, (Or.inr (⟨h103, (Or.inr (⟨h106, (Or.inr (⟨h112, (Or.inr (⟨h115, (Or.inr (⟨h121, (Or.inr (⟨h134, (Or.inl ⟨h147, z151, z154, u156, ex155, ⟨fr155, rs155⟩, rfl⟩)⟩))⟩))⟩))⟩))⟩))⟩))⟩))⟩))⟩))⟩))⟩))⟩))⟩))⟩))⟩))⟩))⟩))⟩))⟩))⟩, (show (v.1 0 370).toInt ≤ (u156.1 0 370).toInt ∧ (u156.1 0 370).toInt ≤ (v.1 0 370).toInt + 1 from (om_a5ca429bbe q158)), (RS0.tr (show RS0 v (wA v 0 364 ((v.1 0 364) + (1 : Int32))) from (RS0.w RS0.rf (by decide))) rs155)⟩, by rw [ht9]; exact hP, hD⟩, hS.F ht9⟩) hS.2.2 dX10_doDeed_390
                                          ·
                                            have z159 : ((v.1 378) (v.1 0 364).toNatClampNeg).toInt ≠ (18 : Int) := ne_z rfl (show (18 : Int32).toInt = (18 : Int) by decide) h147
                                            by_cases h160 : ((v.1 378) (v.1 0 364).toNatClampNeg) = 19
                                            · refine lv_tableIn (off := 275) (tgt := 362) hx hb dX10_doDeed_87 (by rw [h160]; decide) (by rw [h160]; decide) (by rw [h160]; decide) (by decide) ?_
                                              have z161 : ((v.1 378) (v.1 0 364).toNatClampNeg).toInt = (19 : Int) := eq_z rfl (show (19 : Int32).toInt = (19 : Int) by decide) h160
                                              refine lv_iload_n hx hb dX10_doDeed_362 rfl (lv_at hl 2 rfl) ?_
                                              refine lv_bipush (v := 16) hx hb dX10_doDeed_363 (by decide) ?_
                                              refine lv_icmp_lt (tgt := 383) hx hb dX10_doDeed_365 (by decide) (fun h162 => ?_) (fun h162 => ?_)
                                              · have z163 : ((v.1 378) (v.1 0 364).toNatClampNeg).toInt < (16 : Int) := lt_z rfl (show (16 : Int32).toInt = (16 : Int) by decide) h162
                                                exact False.elim (om_01bcc9030d z161 z163)
                                              · have z164 : (16 : Int) ≤ ((v.1 378) (v.1 0 364).toNatClampNeg).toInt := nlt_z rfl (show (16 : Int32).toInt = (16 : Int) by decide) h162
                                                refine lv_iload_n hx hb dX10_doDeed_368 rfl (lv_at hl 2 rfl) ?_
                                                refine lv_bipush (v := 19) hx hb dX10_doDeed_369 (by decide) ?_
                                                refine lv_icmp_gt (tgt := 383) hx hb dX10_doDeed_371 (by decide) (fun h165 => ?_) (fun h165 => ?_)
                                                · have z166 : (19 : Int) < ((v.1 378) (v.1 0 364).toNatClampNeg).toInt := lt_z (show (19 : Int32).toInt = (19 : Int) by decide) rfl h165
                                                  exact False.elim (om_49dede4d93 z161 z166)
                                                · have z167 : ((v.1 378) (v.1 0 364).toNatClampNeg).toInt ≤ (19 : Int) := nlt_z (show (19 : Int32).toInt = (19 : Int) by decide) rfl h165
                                                  refine lv_aload_n hx hb dX10_doDeed_374 rfl (lv_at hl 3 rfl) ?_
                                                  refine lv_iload_n hx hb dX10_doDeed_375 rfl (lv_at hl 2 rfl) ?_
                                                  refine lv_iload_n hx hb dX10_doDeed_376 rfl (lv_at hl 1 rfl) ?_
                                                  refine cu_v (rn_Vk (n := 2) (As := [.int ((v.1 378) (v.1 0 364).toNatClampNeg), .int ((v.1 379) (v.1 0 364).toNatClampNeg)]) (rest := []) hx hb hml hown ht hKK hFx hP hD hS hA (c_x_X10_doJump l dC dI cI cB cZ cJ cR tb H.size ad pr N L1 L2 (wA v 0 364 ((v.1 0 364) + (1 : Int32))) ((v.1 378) (v.1 0 364).toNatClampNeg) ((v.1 379) (v.1 0 364).toNatClampNeg) ) tw_895 tw_896 (by decide +kernel) rfl rfl ⟨Nat.le_of_ble_eq_true rfl, Nat.le_of_ble_eq_true rfl⟩ (List.range (cW ad pr N cI cR L1 L2 (wA v 0 364 ((v.1 0 364) + (1 : Int32)))).length) (rg_map _) (nd_range _) 7 rfl rfl rfl rfl hl.1 rfl (Nat.le_of_ble_eq_true rfl) dX10_doDeed_377 ⟨Nat.le_of_ble_eq_true rfl, Nat.le_of_ble_eq_true rfl⟩) hP hD hS hA (fun u169 H locs hw168 hP hD hS => ?_)
                                                  obtain ⟨fr168, ex168, rs168⟩ := hw168
                                                  have rs168 : RS0 (wA v 0 364 ((v.1 0 364) + (1 : Int32))) u169 := rs168
                                                  refine W.widen (k := 0) (n := 0) (Nat.le_refl _) (Nat.le_refl _) ?_
                                                  refine lv_goto (tgt := 390) hx hb dX10_doDeed_380 (by decide) ?_
                                                  have q171 : (u169.1 0 370).toInt = (v.1 0 370).toInt := congrArg Int32.toInt ((fr168.2.1 370 (by decide)).trans (show (wA v 0 364 ((v.1 0 364) + (1 : Int32))).1 0 370 = (v.1 0 370) by rfl))
                                                  exact W.vret hx hb hr (fun t ht9 hW => ⟨⟨u169, rfl, ⟨(FC.tr (FC.f (FC.rf _) ((v.1 0 364) + (1 : Int32)) (by decide)) (FC.up fr168 (by decide) (by decide))), ⟨z344, z381, zq, (Or.inr (⟨z3, (Or.inr (⟨z6, z8, (Or.inr (⟨h10, (Or.inr (⟨h17, (Or.inr (⟨h20, (Or.inr (⟨h26, (Or.inr (⟨h33, (Or.inr (⟨h43, (Or.inr (⟨h53, (Or.inr (⟨h63, (Or.inr (⟨h73, (Or.inr (⟨h83, (Or.inr (⟨h93, (Or.inr (⟨h103, (Or.inr (⟨h106, (Or.inr (⟨h112, (Or.inr (⟨h115, (Or.inr (⟨h121, (Or.inr (⟨h134, (Or.inr (⟨h147, (Or.inl ⟨h160, z164, z167, u169, ex168, ⟨fr168, rs168⟩, rfl⟩)⟩))⟩))⟩))⟩))⟩))⟩))⟩))⟩))⟩))⟩))⟩))⟩))⟩))⟩))⟩))⟩))⟩))⟩))⟩))⟩))⟩, (show (v.1 0 370).toInt ≤ (u169.1 0 370).toInt ∧ (u169.1 0 370).toInt ≤ (v.1 0 370).toInt + 1 from (om_a5ca429bbe q171)), (RS0.tr (show RS0 v (wA v 0 364 ((v.1 0 364) + (1 : Int32))) from (RS0.w RS0.rf (by decide))) rs168)⟩, by rw [ht9]; exact hP, hD⟩, hS.F ht9⟩) hS.2.2 dX10_doDeed_390
                                            ·
                                              have z172 : ((v.1 378) (v.1 0 364).toNatClampNeg).toInt ≠ (19 : Int) := ne_z rfl (show (19 : Int32).toInt = (19 : Int) by decide) h160
                                              by_cases h173 : ((v.1 378) (v.1 0 364).toNatClampNeg) = 20
                                              · refine lv_tableIn (off := 211) (tgt := 298) hx hb dX10_doDeed_87 (by rw [h173]; decide) (by rw [h173]; decide) (by rw [h173]; decide) (by decide) ?_
                                                have z174 : ((v.1 378) (v.1 0 364).toNatClampNeg).toInt = (20 : Int) := eq_z rfl (show (20 : Int32).toInt = (20 : Int) by decide) h173
                                                refine lv_aload_n hx hb dX10_doDeed_298 rfl (lv_at hl 3 rfl) ?_
                                                refine lv_iload_n hx hb dX10_doDeed_299 rfl (lv_at hl 1 rfl) ?_
                                                refine lv_aload_n hx hb dX10_doDeed_300 rfl (lv_at hl 3 rfl) ?_
                                                refine lv_iload_n hx hb dX10_doDeed_301 rfl (lv_at hl 0 rfl) ?_
                                                refine cu_i (rn_Vk (n := 1) (As := [.int ((v.1 380) (v.1 0 364).toNatClampNeg)]) (rest := [.int ((v.1 379) (v.1 0 364).toNatClampNeg), .ref (ad 907)]) hx hb hml hown ht hKK hFx hP hD hS hA (c_x_X10_slotAt l dC dI cI cB cZ cJ cR tb H.size ad pr N L1 L2 (wA v 0 364 ((v.1 0 364) + (1 : Int32))) ((v.1 380) (v.1 0 364).toNatClampNeg) (show (N : Int) ≤ 4096 from (om_1c2c49c46c zNN))) tw_884 tw_885 (by decide +kernel) rfl rfl ⟨Nat.le_of_ble_eq_true rfl, Nat.le_of_ble_eq_true rfl⟩ (List.range (cW ad pr N cI cR L1 L2 (wA v 0 364 ((v.1 0 364) + (1 : Int32)))).length) (rg_map _) (nd_range _) 7 rfl rfl rfl rfl hl.1 rfl (Nat.le_of_ble_eq_true rfl) dX10_doDeed_302 ⟨Nat.le_of_ble_eq_true rfl, Nat.le_of_ble_eq_true rfl⟩) hP hD hS hA (fun r177 u176 H locs hw175 hP hD hS => ?_)
                                                obtain ⟨rfl, ex175⟩ := hw175
                                                refine W.widen (k := 0) (n := 0) (Nat.le_refl _) (Nat.le_refl _) ?_
                                                refine cu_v (rn_Vk (n := 2) (As := [.int ((v.1 379) (v.1 0 364).toNatClampNeg), .int r177]) (rest := []) hx hb hml hown ht hKK hFx hP hD hS hA (c_x_X10_join l dC dI cI cB cZ cJ cR tb H.size ad pr N L1 L2 (wA v 0 364 ((v.1 0 364) + (1 : Int32))) ((v.1 379) (v.1 0 364).toNatClampNeg) r177 ) tw_897 tw_898 (by decide +kernel) rfl rfl ⟨Nat.le_of_ble_eq_true rfl, Nat.le_of_ble_eq_true rfl⟩ (List.range (cW ad pr N cI cR L1 L2 (wA v 0 364 ((v.1 0 364) + (1 : Int32)))).length) (rg_map _) (nd_range _) 7 rfl rfl rfl rfl hl.1 rfl (Nat.le_of_ble_eq_true rfl) dX10_doDeed_305 ⟨Nat.le_of_ble_eq_true rfl, Nat.le_of_ble_eq_true rfl⟩) hP hD hS hA (fun u179 H locs hw178 hP hD hS => ?_)
                                                obtain ⟨fr178, ex178, rs178⟩ := hw178
                                                have rs178 : RS0 (wA v 0 364 ((v.1 0 364) + (1 : Int32))) u179 := rs178
                                                refine W.widen (k := 0) (n := 0) (Nat.le_refl _) (Nat.le_refl _) ?_
                                                refine lv_goto (tgt := 390) hx hb dX10_doDeed_308 (by decide) ?_
                                                have q181 : (u179.1 0 370).toInt = (v.1 0 370).toInt := congrArg Int32.toInt ((fr178.2.1 370 (by decide)).trans (show (wA v 0 364 ((v.1 0 364) + (1 : Int32))).1 0 370 = (v.1 0 370) by rfl))
                                                exact W.vret hx hb hr (fun t ht9 hW => ⟨⟨u179, rfl, ⟨(FC.tr (FC.f (FC.rf _) ((v.1 0 364) + (1 : Int32)) (by decide)) (FC.up fr178 (by decide) (by decide))), ⟨z344, z381, zq, (Or.inr (⟨z3, (Or.inr (⟨z6, z8, (Or.inr (⟨h10, (Or.inr (⟨h17, (Or.inr (⟨h20, (Or.inr (⟨h26, (Or.inr (⟨h33, (Or.inr (⟨h43, (Or.inr (⟨h53, (Or.inr (⟨h63, (Or.inr (⟨h73, (Or.inr (⟨h83, (Or.inr (⟨h93, (Or.inr (⟨h103, (Or.inr (⟨h106, (Or.inr (⟨h112, (Or.inr (⟨h115, (Or.inr (⟨h121, (Or.inr (⟨h134, (Or.inr (⟨h147, (Or.inr (⟨h160, (Or.inl ⟨h173, r177, ex175, u179, ex178, ⟨fr178, rs178⟩, rfl⟩)⟩))⟩))⟩))⟩))⟩))⟩))⟩))⟩))⟩))⟩))⟩))⟩))⟩))⟩))⟩))⟩))⟩))⟩))⟩))⟩))⟩))⟩, (show (v.1 0 370).toInt ≤ (u179.1 0 370).toInt ∧ (u179.1 0 370).toInt ≤ (v.1 0 370).toInt + 1 from (om_a5ca429bbe q181)), (RS0.tr (show RS0 v (wA v 0 364 ((v.1 0 364) + (1 : Int32))) from (RS0.w RS0.rf (by decide))) rs178)⟩, by rw [ht9]; exact hP, hD⟩, hS.F ht9⟩) hS.2.2 dX10_doDeed_390
                                              ·
                                                have z182 : ((v.1 378) (v.1 0 364).toNatClampNeg).toInt ≠ (20 : Int) := ne_z rfl (show (20 : Int32).toInt = (20 : Int) by decide) h173
                                                by_cases h183 : ((v.1 378) (v.1 0 364).toNatClampNeg) = 21
                                                · refine lv_tableIn (off := 224) (tgt := 311) hx hb dX10_doDeed_87 (by rw [h183]; decide) (by rw [h183]; decide) (by rw [h183]; decide) (by decide) ?_
                                                  have z184 : ((v.1 378) (v.1 0 364).toNatClampNeg).toInt = (21 : Int) := eq_z rfl (show (21 : Int32).toInt = (21 : Int) by decide) h183
                                                  refine lv_aload_n hx hb dX10_doDeed_311 rfl (lv_at hl 3 rfl) ?_
                                                  refine lv_iload_n hx hb dX10_doDeed_312 rfl (lv_at hl 1 rfl) ?_
                                                  refine lv_iload_n hx hb dX10_doDeed_313 rfl (lv_at hl 0 rfl) ?_
                                                  refine cu_v (rn_Vk (n := 2) (As := [.int ((v.1 379) (v.1 0 364).toNatClampNeg), .int ((v.1 380) (v.1 0 364).toNatClampNeg)]) (rest := []) hx hb hml hown ht hKK hFx hP hD hS hA (c_x_X10_callFunction l dC dI cI cB cZ cJ cR tb H.size ad pr N L1 L2 (wA v 0 364 ((v.1 0 364) + (1 : Int32))) ((v.1 379) (v.1 0 364).toNatClampNeg) ((v.1 380) (v.1 0 364).toNatClampNeg) ps (show (N : Int) ≤ 4096 from (om_1c2c49c46c zNN)) (show L1.length = 40 from hL1) (show L2.length = 60 from hL2) (show RP (wA v 0 364 ((v.1 0 364) + (1 : Int32))) from ((show FC [362, 363, 364, 365, 366, 368, 369, 370, 371] [0, 358, 359, 360] v (wA v 0 364 ((v.1 0 364) + (1 : Int32))) from (FC.f (FC.rf _) ((v.1 0 364) + (1 : Int32)) (by decide))).1 rp)) (show pr ps = ad 908 from hps) (show (v.1 0 355) = ps from es355)) tw_899 tw_900 (by decide +kernel) rfl rfl ⟨Nat.le_of_ble_eq_true rfl, Nat.le_of_ble_eq_true rfl⟩ (List.range (cW ad pr N cI cR L1 L2 (wA v 0 364 ((v.1 0 364) + (1 : Int32)))).length) (rg_map _) (nd_range _) 7 rfl rfl rfl rfl hl.1 rfl (Nat.le_of_ble_eq_true rfl) dX10_doDeed_314 ⟨Nat.le_of_ble_eq_true rfl, Nat.le_of_ble_eq_true rfl⟩) hP hD hS hA (fun u186 H locs hw185 hP hD hS => ?_)
                                                  obtain ⟨fr185, ex185, rs185⟩ := hw185
                                                  have rs185 : RS0 (wA v 0 364 ((v.1 0 364) + (1 : Int32))) u186 := rs185
                                                  refine W.widen (k := 0) (n := 0) (Nat.le_refl _) (Nat.le_refl _) ?_
                                                  refine lv_goto (tgt := 390) hx hb dX10_doDeed_317 (by decide) ?_
                                                  have q188 : (u186.1 0 370).toInt = (v.1 0 370).toInt := congrArg Int32.toInt ((fr185.2.1 370 (by decide)).trans (show (wA v 0 364 ((v.1 0 364) + (1 : Int32))).1 0 370 = (v.1 0 370) by rfl))
                                                  exact W.vret hx hb hr (fun t ht9 hW => ⟨⟨u186, rfl, ⟨(FC.tr (FC.f (FC.rf _) ((v.1 0 364) + (1 : Int32)) (by decide)) (FC.up fr185 (by decide) (by decide))), ⟨z344, z381, zq, (Or.inr (⟨z3, (Or.inr (⟨z6, z8, (Or.inr (⟨h10, (Or.inr (⟨h17, (Or.inr (⟨h20, (Or.inr (⟨h26, (Or.inr (⟨h33, (Or.inr (⟨h43, (Or.inr (⟨h53, (Or.inr (⟨h63, (Or.inr (⟨h73, (Or.inr (⟨h83, (Or.inr (⟨h93, (Or.inr (⟨h103, (Or.inr (⟨h106, (Or.inr (⟨h112, (Or.inr (⟨h115, (Or.inr (⟨h121, (Or.inr (⟨h134, (Or.inr (⟨h147, (Or.inr (⟨h160, (Or.inr (⟨h173, (Or.inl ⟨h183, u186, ex185, ⟨fr185, rs185⟩, rfl⟩)⟩))⟩))⟩))⟩))⟩))⟩))⟩))⟩))⟩))⟩))⟩))⟩))⟩))⟩))⟩))⟩))⟩))⟩))⟩))⟩))⟩))⟩))⟩, (show (v.1 0 370).toInt ≤ (u186.1 0 370).toInt ∧ (u186.1 0 370).toInt ≤ (v.1 0 370).toInt + 1 from (om_a5ca429bbe q188)), (RS0.tr (show RS0 v (wA v 0 364 ((v.1 0 364) + (1 : Int32))) from (RS0.w RS0.rf (by decide))) rs185)⟩, by rw [ht9]; exact hP, hD⟩, hS.F ht9⟩) hS.2.2 dX10_doDeed_390
                                                ·
                                                  have z189 : ((v.1 378) (v.1 0 364).toNatClampNeg).toInt ≠ (21 : Int) := ne_z rfl (show (21 : Int32).toInt = (21 : Int) by decide) h183
                                                  by_cases h190 : ((v.1 378) (v.1 0 364).toNatClampNeg) = 22
                                                  · refine lv_tableIn (off := 233) (tgt := 320) hx hb dX10_doDeed_87 (by rw [h190]; decide) (by rw [h190]; decide) (by rw [h190]; decide) (by decide) ?_
                                                    have z191 : ((v.1 378) (v.1 0 364).toNatClampNeg).toInt = (22 : Int) := eq_z rfl (show (22 : Int32).toInt = (22 : Int) by decide) h190
                                                    refine lv_aload_n hx hb dX10_doDeed_320 rfl (lv_at hl 3 rfl) ?_
                                                    refine cu_v (rn_Vk (n := 0) (As := []) (rest := []) hx hb hml hown ht hKK hFx hP hD hS hA (c_x_X10_putHand l dC dI cI cB cZ cJ cR tb H.size ad pr N L1 L2 (wA v 0 364 ((v.1 0 364) + (1 : Int32)))  (show 0 ≤ (v.1 0 370).toInt ∧ (v.1 0 370).toInt ≤ 2000000000 from (om_2956d0ba8e zq))) tw_901 tw_902 (by decide +kernel) rfl rfl ⟨Nat.le_of_ble_eq_true rfl, Nat.le_of_ble_eq_true rfl⟩ (List.range (cW ad pr N cI cR L1 L2 (wA v 0 364 ((v.1 0 364) + (1 : Int32)))).length) (rg_map _) (nd_range _) 7 rfl rfl rfl rfl hl.1 rfl (Nat.le_of_ble_eq_true rfl) dX10_doDeed_321 ⟨Nat.le_of_ble_eq_true rfl, Nat.le_of_ble_eq_true rfl⟩) hP hD hS hA (fun u193 H locs hw192 hP hD hS => ?_)
                                                    obtain ⟨fr192, ex192, pq192, rs192⟩ := hw192
                                                    have pq192 : (v.1 0 370).toInt ≤ (u193.1 0 370).toInt ∧ (u193.1 0 370).toInt ≤ (v.1 0 370).toInt + 1 := pq192
                                                    have rs192 : RS0 (wA v 0 364 ((v.1 0 364) + (1 : Int32))) u193 := rs192
                                                    refine W.widen (k := 0) (n := 0) (Nat.le_refl _) (Nat.le_refl _) ?_
                                                    refine lv_goto (tgt := 390) hx hb dX10_doDeed_324 (by decide) ?_
                                                    exact W.vret hx hb hr (fun t ht9 hW => ⟨⟨u193, rfl, ⟨(FC.tr (FC.f (FC.rf _) ((v.1 0 364) + (1 : Int32)) (by decide)) (FC.up fr192 (by decide) (by decide))), ⟨z344, z381, zq, (Or.inr (⟨z3, (Or.inr (⟨z6, z8, (Or.inr (⟨h10, (Or.inr (⟨h17, (Or.inr (⟨h20, (Or.inr (⟨h26, (Or.inr (⟨h33, (Or.inr (⟨h43, (Or.inr (⟨h53, (Or.inr (⟨h63, (Or.inr (⟨h73, (Or.inr (⟨h83, (Or.inr (⟨h93, (Or.inr (⟨h103, (Or.inr (⟨h106, (Or.inr (⟨h112, (Or.inr (⟨h115, (Or.inr (⟨h121, (Or.inr (⟨h134, (Or.inr (⟨h147, (Or.inr (⟨h160, (Or.inr (⟨h173, (Or.inr (⟨h183, (Or.inl ⟨h190, u193, ex192, ⟨fr192, pq192, rs192⟩, rfl⟩)⟩))⟩))⟩))⟩))⟩))⟩))⟩))⟩))⟩))⟩))⟩))⟩))⟩))⟩))⟩))⟩))⟩))⟩))⟩))⟩))⟩))⟩))⟩))⟩, (show (v.1 0 370).toInt ≤ (u193.1 0 370).toInt ∧ (u193.1 0 370).toInt ≤ (v.1 0 370).toInt + 1 from (om_e79f107f26 pq192)), (RS0.tr (show RS0 v (wA v 0 364 ((v.1 0 364) + (1 : Int32))) from (RS0.w RS0.rf (by decide))) rs192)⟩, by rw [ht9]; exact hP, hD⟩, hS.F ht9⟩) hS.2.2 dX10_doDeed_390
                                                  ·
                                                    have z195 : ((v.1 378) (v.1 0 364).toNatClampNeg).toInt ≠ (22 : Int) := ne_z rfl (show (22 : Int32).toInt = (22 : Int) by decide) h190
                                                    by_cases h196 : ((v.1 378) (v.1 0 364).toNatClampNeg) = 23
                                                    · refine lv_tableIn (off := 240) (tgt := 327) hx hb dX10_doDeed_87 (by rw [h196]; decide) (by rw [h196]; decide) (by rw [h196]; decide) (by decide) ?_
                                                      have z197 : ((v.1 378) (v.1 0 364).toNatClampNeg).toInt = (23 : Int) := eq_z rfl (show (23 : Int32).toInt = (23 : Int) by decide) h196
                                                      refine lv_aload_n hx hb dX10_doDeed_327 rfl (lv_at hl 3 rfl) ?_
                                                      refine lv_aload_n hx hb dX10_doDeed_328 rfl (lv_at hl 3 rfl) ?_
                                                      refine va_get (D := (dC, dI)) (ci := 13) (fs := oF_X10 ad pr (wA v 0 364 ((v.1 0 364) + (1 : Int32)))) (v := .ref (ad 905)) (C := RX10) (T := TX10) (N := 17) hx hb ht itX10 hown hK hP 7 rfl rfl 1 (by decide) (ht _ tw_903) (fun _ h9 => h9) rfl dX10_doDeed_329 ?_
                                                      refine lv_aload_n hx hb dX10_doDeed_332 rfl (lv_at hl 3 rfl) ?_
                                                      refine va_get (D := (dC, dI)) (ci := 13) (fs := oF_X10 ad pr (wA v 0 364 ((v.1 0 364) + (1 : Int32)))) (v := .int (v.1 0 371)) (C := RX10) (T := TX10) (N := 17) hx hb ht itX10 hown hK hP 7 rfl rfl 16 (by decide) (ht _ tw_846) (fun _ h9 => h9) rfl dX10_doDeed_333 ?_
                                                      refine cu_i (rn_Vk (n := 1) (As := [.int (v.1 0 371)]) (rest := [.ref (ad 907)]) hx hb hml hown ht hKK hFx hP hD hS hA (c_x_X3_numberAt l dC dI cI cB cZ cJ cR tb H.size ad pr N L1 L2 (wA v 0 364 ((v.1 0 364) + (1 : Int32))) (v.1 0 371) (show 0 ≤ (v.1 0 344).toInt ∧ (v.1 0 344).toInt ≤ 64 from (om_0522002ca7 z344))) tw_757 tw_904 (by decide +kernel) rfl rfl ⟨Nat.le_of_ble_eq_true rfl, Nat.le_of_ble_eq_true rfl⟩ (List.range (cW ad pr N cI cR L1 L2 (wA v 0 364 ((v.1 0 364) + (1 : Int32)))).length) (rg_map _) (nd_range _) 5 rfl rfl rfl rfl hl.1 rfl (Nat.le_of_ble_eq_true rfl) dX10_doDeed_336 ⟨Nat.le_of_ble_eq_true rfl, Nat.le_of_ble_eq_true rfl⟩) hP hD hS hA (fun r200 u199 H locs hw198 hP hD hS => ?_)
                                                      obtain ⟨rfl, ex198⟩ := hw198
                                                      refine W.widen (k := 0) (n := 0) (Nat.le_refl _) (Nat.le_refl _) ?_
                                                      refine va_put (D := (dC, dI)) (ci := 13) (fs := oF_X10 ad pr (wA v 0 364 ((v.1 0 364) + (1 : Int32)))) (v := .int r200) (ty := .int) (C := RX10) (T := TX10) (N := 17) hx hb ht itX10 tyX10 tyX10_ok nmX10 hown hK hP hD hS 7 rfl rfl 8 (by decide) (ht _ tw_842) (fun _ h9 => h9) rfl (by decide +kernel) rfl rfl (Nat.le_of_ble_eq_true rfl) dX10_doDeed_339 (fun H locs hP hD hS => ?_)
                                                      have hP := cP_ (cw_363 ad pr N cI cR L1 L2 (wA v 0 364 ((v.1 0 364) + (1 : Int32))) r200) hP
                                                      have hD := cD_ (cw_363 ad pr N cI cR L1 L2 (wA v 0 364 ((v.1 0 364) + (1 : Int32))) r200) hD
                                                      refine lv_aload_n hx hb dX10_doDeed_342 rfl (lv_at hl 3 rfl) ?_
                                                      refine lv_dup hx hb dX10_doDeed_343 rfl ?_
                                                      refine va_get (D := (dC, dI)) (ci := 13) (fs := oF_X10 ad pr (wA (wA v 0 364 ((v.1 0 364) + (1 : Int32))) 0 363 r200)) (v := .int (v.1 0 371)) (C := RX10) (T := TX10) (N := 17) hx hb ht itX10 hown hK hP 7 rfl rfl 16 (by decide) (ht _ tw_846) (fun _ h9 => h9) rfl dX10_doDeed_344 ?_
                                                      refine lv_iconst (v := 1) hx hb dX10_doDeed_347 (by decide) ?_
                                                      refine lv_iadd hx hb dX10_doDeed_348 ?_
                                                      refine va_put (D := (dC, dI)) (ci := 13) (fs := oF_X10 ad pr (wA (wA v 0 364 ((v.1 0 364) + (1 : Int32))) 0 363 r200)) (v := .int ((v.1 0 371) + (1 : Int32))) (ty := .int) (C := RX10) (T := TX10) (N := 17) hx hb ht itX10 tyX10 tyX10_ok nmX10 hown hK hP hD hS 7 rfl rfl 16 (by decide) (ht _ tw_846) (fun _ h9 => h9) rfl (by decide +kernel) rfl rfl (Nat.le_of_ble_eq_true rfl) dX10_doDeed_349 (fun H locs hP hD hS => ?_)
                                                      have hP := cP_ (cw_371 ad pr N cI cR L1 L2 (wA (wA v 0 364 ((v.1 0 364) + (1 : Int32))) 0 363 r200) ((v.1 0 371) + (1 : Int32))) hP
                                                      have hD := cD_ (cw_371 ad pr N cI cR L1 L2 (wA (wA v 0 364 ((v.1 0 364) + (1 : Int32))) 0 363 r200) ((v.1 0 371) + (1 : Int32))) hD
                                                      refine lv_goto (tgt := 390) hx hb dX10_doDeed_352 (by decide) ?_
                                                      exact W.vret hx hb hr (fun t ht9 hW => ⟨⟨(wA (wA (wA v 0 364 ((v.1 0 364) + (1 : Int32))) 0 363 r200) 0 371 ((v.1 0 371) + (1 : Int32))), rfl, ⟨(FC.f (FC.f (FC.f (FC.rf _) ((v.1 0 364) + (1 : Int32)) (by decide)) r200 (by decide)) ((v.1 0 371) + (1 : Int32)) (by decide)), ⟨z344, z381, zq, (Or.inr (⟨z3, (Or.inr (⟨z6, z8, (Or.inr (⟨h10, (Or.inr (⟨h17, (Or.inr (⟨h20, (Or.inr (⟨h26, (Or.inr (⟨h33, (Or.inr (⟨h43, (Or.inr (⟨h53, (Or.inr (⟨h63, (Or.inr (⟨h73, (Or.inr (⟨h83, (Or.inr (⟨h93, (Or.inr (⟨h103, (Or.inr (⟨h106, (Or.inr (⟨h112, (Or.inr (⟨h115, (Or.inr (⟨h121, (Or.inr (⟨h134, (Or.inr (⟨h147, (Or.inr (⟨h160, (Or.inr (⟨h173, (Or.inr (⟨h183, (Or.inr (⟨h190, (Or.inl ⟨h196, r200, ex198, rfl⟩)⟩))⟩))⟩))⟩))⟩))⟩))⟩))⟩))⟩))⟩))⟩))⟩))⟩))⟩))⟩))⟩))⟩))⟩))⟩))⟩))⟩))⟩))⟩))⟩))⟩, (show (v.1 0 370).toInt ≤ (v.1 0 370).toInt ∧ (v.1 0 370).toInt ≤ (v.1 0 370).toInt + 1 from om_b79dd2a91d), (RS0.w (RS0.w (RS0.w RS0.rf (by decide)) (by decide)) (by decide))⟩, by rw [ht9]; exact hP, hD⟩, hS.F ht9⟩) hS.2.2 dX10_doDeed_390
                                                    ·
                                                      have z201 : ((v.1 378) (v.1 0 364).toNatClampNeg).toInt ≠ (23 : Int) := ne_z rfl (show (23 : Int32).toInt = (23 : Int) by decide) h196
                                                      by_cases h202 : ((v.1 378) (v.1 0 364).toNatClampNeg) = 24
                                                      · refine lv_tableIn (off := 268) (tgt := 355) hx hb dX10_doDeed_87 (by rw [h202]; decide) (by rw [h202]; decide) (by rw [h202]; decide) (by decide) ?_
                                                        have z203 : ((v.1 378) (v.1 0 364).toNatClampNeg).toInt = (24 : Int) := eq_z rfl (show (24 : Int32).toInt = (24 : Int) by decide) h202
                                                        refine lv_aload_n hx hb dX10_doDeed_355 rfl (lv_at hl 3 rfl) ?_
                                                        refine cu_v (rn_Vk (n := 0) (As := []) (rest := []) hx hb hml hown ht hKK hFx hP hD hS hA (c_x_X10_takeTurn l dC dI cI cB cZ cJ cR tb H.size ad pr N L1 L2 (wA v 0 364 ((v.1 0 364) + (1 : Int32)))  ) tw_862 tw_863 (by decide +kernel) rfl rfl ⟨Nat.le_of_ble_eq_true rfl, Nat.le_of_ble_eq_true rfl⟩ (List.range (cW ad pr N cI cR L1 L2 (wA v 0 364 ((v.1 0 364) + (1 : Int32)))).length) (rg_map _) (nd_range _) 7 rfl rfl rfl rfl hl.1 rfl (Nat.le_of_ble_eq_true rfl) dX10_doDeed_356 ⟨Nat.le_of_ble_eq_true rfl, Nat.le_of_ble_eq_true rfl⟩) hP hD hS hA (fun u205 H locs hw204 hP hD hS => ?_)
                                                        obtain ⟨fr204, ex204, rs204⟩ := hw204
                                                        have rs204 : RS0 (wA v 0 364 ((v.1 0 364) + (1 : Int32))) u205 := rs204
                                                        refine W.widen (k := 0) (n := 0) (Nat.le_refl _) (Nat.le_refl _) ?_
                                                        refine lv_goto (tgt := 390) hx hb dX10_doDeed_359 (by decide) ?_
                                                        have q207 : (u205.1 0 370).toInt = (v.1 0 370).toInt := congrArg Int32.toInt ((fr204.2.1 370 (by decide)).trans (show (wA v 0 364 ((v.1 0 364) + (1 : Int32))).1 0 370 = (v.1 0 370) by rfl))
                                                        exact W.vret hx hb hr (fun t ht9 hW => ⟨⟨u205, rfl, ⟨(FC.tr (FC.f (FC.rf _) ((v.1 0 364) + (1 : Int32)) (by decide)) (FC.up fr204 (by decide) (by decide))), ⟨z344, z381, zq, (Or.inr (⟨z3, (Or.inr (⟨z6, z8, (Or.inr (⟨h10, (Or.inr (⟨h17, (Or.inr (⟨h20, (Or.inr (⟨h26, (Or.inr (⟨h33, (Or.inr (⟨h43, (Or.inr (⟨h53, (Or.inr (⟨h63, (Or.inr (⟨h73, (Or.inr (⟨h83, (Or.inr (⟨h93, (Or.inr (⟨h103, (Or.inr (⟨h106, (Or.inr (⟨h112, (Or.inr (⟨h115, (Or.inr (⟨h121, (Or.inr (⟨h134, (Or.inr (⟨h147, (Or.inr (⟨h160, (Or.inr (⟨h173, (Or.inr (⟨h183, (Or.inr (⟨h190, (Or.inr (⟨h196, (Or.inl ⟨h202, u205, ex204, ⟨fr204, rs204⟩, rfl⟩)⟩))⟩))⟩))⟩))⟩))⟩))⟩))⟩))⟩))⟩))⟩))⟩))⟩))⟩))⟩))⟩))⟩))⟩))⟩))⟩))⟩))⟩))⟩))⟩))⟩))⟩, (show (v.1 0 370).toInt ≤ (u205.1 0 370).toInt ∧ (u205.1 0 370).toInt ≤ (v.1 0 370).toInt + 1 from (om_a5ca429bbe q207)), (RS0.tr (show RS0 v (wA v 0 364 ((v.1 0 364) + (1 : Int32))) from (RS0.w RS0.rf (by decide))) rs204)⟩, by rw [ht9]; exact hP, hD⟩, hS.F ht9⟩) hS.2.2 dX10_doDeed_390
                                                      ·
                                                        have z208 : ((v.1 378) (v.1 0 364).toNatClampNeg).toInt ≠ (24 : Int) := ne_z rfl (show (24 : Int32).toInt = (24 : Int) by decide) h202
                                                        refine lv_tableOut (tgt := 362) hx hb dX10_doDeed_87 (by have := lv_neT h10 (a := 1) (by decide); have := lv_neT h17 (a := 2) (by decide); have := lv_neT h20 (a := 3) (by decide); have := lv_neT h26 (a := 4) (by decide); have := lv_neT h33 (a := 5) (by decide); have := lv_neT h43 (a := 6) (by decide); have := lv_neT h53 (a := 7) (by decide); have := lv_neT h63 (a := 8) (by decide); have := lv_neT h73 (a := 9) (by decide); have := lv_neT h83 (a := 10) (by decide); have := lv_neT h93 (a := 11) (by decide); have := lv_neT h103 (a := 12) (by decide); have := lv_neT h106 (a := 13) (by decide); have := lv_neT h112 (a := 14) (by decide); have := lv_neT h115 (a := 15) (by decide); have := lv_neT h121 (a := 16) (by decide); have := lv_neT h134 (a := 17) (by decide); have := lv_neT h147 (a := 18) (by decide); have := lv_neT h160 (a := 19) (by decide); have := lv_neT h173 (a := 20) (by decide); have := lv_neT h183 (a := 21) (by decide); have := lv_neT h190 (a := 22) (by decide); have := lv_neT h196 (a := 23) (by decide); have := lv_neT h202 (a := 24) (by decide); omega) (by decide) ?_
                                                        refine lv_iload_n hx hb dX10_doDeed_362 rfl (lv_at hl 2 rfl) ?_
                                                        refine lv_bipush (v := 16) hx hb dX10_doDeed_363 (by decide) ?_
                                                        refine lv_icmp_lt (tgt := 383) hx hb dX10_doDeed_365 (by decide) (fun h209 => ?_) (fun h209 => ?_)
                                                        · have z210 : ((v.1 378) (v.1 0 364).toNatClampNeg).toInt < (16 : Int) := lt_z rfl (show (16 : Int32).toInt = (16 : Int) by decide) h209
                                                          refine lv_aload_n hx hb dX10_doDeed_383 rfl (lv_at hl 3 rfl) ?_
                                                          refine lv_iload_n hx hb dX10_doDeed_384 rfl (lv_at hl 2 rfl) ?_
                                                          refine lv_iload_n hx hb dX10_doDeed_385 rfl (lv_at hl 1 rfl) ?_
                                                          refine lv_iload_n hx hb dX10_doDeed_386 rfl (lv_at hl 0 rfl) ?_
                                                          refine cu_v (rn_Vk (n := 3) (As := [.int ((v.1 378) (v.1 0 364).toNatClampNeg), .int ((v.1 379) (v.1 0 364).toNatClampNeg), .int ((v.1 380) (v.1 0 364).toNatClampNeg)]) (rest := []) hx hb hml hown ht hKK hFx hP hD hS hA (c_x_X10_doPlace l dC dI cI cB cZ cJ cR tb H.size ad pr N L1 L2 (wA v 0 364 ((v.1 0 364) + (1 : Int32))) ((v.1 378) (v.1 0 364).toNatClampNeg) ((v.1 379) (v.1 0 364).toNatClampNeg) ((v.1 380) (v.1 0 364).toNatClampNeg) ps (show (N : Int) ≤ 4096 from (om_1c2c49c46c zNN)) (show L1.length = 40 from hL1) (show L2.length = 60 from hL2) (show RP (wA v 0 364 ((v.1 0 364) + (1 : Int32))) from ((show FC [362, 363, 364, 365, 366, 368, 369, 370, 371] [0, 358, 359, 360] v (wA v 0 364 ((v.1 0 364) + (1 : Int32))) from (FC.f (FC.rf _) ((v.1 0 364) + (1 : Int32)) (by decide))).1 rp)) (show pr ps = ad 908 from hps) (show (v.1 0 355) = ps from es355)) tw_893 tw_894 (by decide +kernel) rfl rfl ⟨Nat.le_of_ble_eq_true rfl, Nat.le_of_ble_eq_true rfl⟩ (List.range (cW ad pr N cI cR L1 L2 (wA v 0 364 ((v.1 0 364) + (1 : Int32)))).length) (rg_map _) (nd_range _) 7 rfl rfl rfl rfl hl.1 rfl (Nat.le_of_ble_eq_true rfl) dX10_doDeed_387 ⟨Nat.le_of_ble_eq_true rfl, Nat.le_of_ble_eq_true rfl⟩) hP hD hS hA (fun u212 H locs hw211 hP hD hS => ?_)
                                                          obtain ⟨fr211, ex211, rs211⟩ := hw211
                                                          have rs211 : RS0 (wA v 0 364 ((v.1 0 364) + (1 : Int32))) u212 := rs211
                                                          refine W.widen (k := 0) (n := 0) (Nat.le_refl _) (Nat.le_refl _) ?_
                                                          have q214 : (u212.1 0 370).toInt = (v.1 0 370).toInt := congrArg Int32.toInt ((fr211.2.1 370 (by decide)).trans (show (wA v 0 364 ((v.1 0 364) + (1 : Int32))).1 0 370 = (v.1 0 370) by rfl))
                                                          exact W.vret hx hb hr (fun t ht9 hW => ⟨⟨u212, rfl, ⟨(FC.tr (FC.f (FC.rf _) ((v.1 0 364) + (1 : Int32)) (by decide)) (FC.up fr211 (by decide) (by decide))), ⟨z344, z381, zq, (Or.inr (⟨z3, (Or.inr (⟨z6, z8, (Or.inr (⟨h10, (Or.inr (⟨h17, (Or.inr (⟨h20, (Or.inr (⟨h26, (Or.inr (⟨h33, (Or.inr (⟨h43, (Or.inr (⟨h53, (Or.inr (⟨h63, (Or.inr (⟨h73, (Or.inr (⟨h83, (Or.inr (⟨h93, (Or.inr (⟨h103, (Or.inr (⟨h106, (Or.inr (⟨h112, (Or.inr (⟨h115, (Or.inr (⟨h121, (Or.inr (⟨h134, (Or.inr (⟨h147, (Or.inr (⟨h160, (Or.inr (⟨h173, (Or.inr (⟨h183, (Or.inr (⟨h190, (Or.inr (⟨h196, (Or.inr (⟨h202, (Or.inl ⟨z210, u212, ex211, ⟨fr211, rs211⟩, rfl⟩)⟩))⟩))⟩))⟩))⟩))⟩))⟩))⟩))⟩))⟩))⟩))⟩))⟩))⟩))⟩))⟩))⟩))⟩))⟩))⟩))⟩))⟩))⟩))⟩))⟩))⟩))⟩, (show (v.1 0 370).toInt ≤ (u212.1 0 370).toInt ∧ (u212.1 0 370).toInt ≤ (v.1 0 370).toInt + 1 from (om_a5ca429bbe q214)), (RS0.tr (show RS0 v (wA v 0 364 ((v.1 0 364) + (1 : Int32))) from (RS0.w RS0.rf (by decide))) rs211)⟩, by rw [ht9]; exact hP, hD⟩, hS.F ht9⟩) hS.2.2 dX10_doDeed_390
                                                        · have z215 : (16 : Int) ≤ ((v.1 378) (v.1 0 364).toNatClampNeg).toInt := nlt_z rfl (show (16 : Int32).toInt = (16 : Int) by decide) h209
                                                          refine lv_iload_n hx hb dX10_doDeed_368 rfl (lv_at hl 2 rfl) ?_
                                                          refine lv_bipush (v := 19) hx hb dX10_doDeed_369 (by decide) ?_
                                                          refine lv_icmp_gt (tgt := 383) hx hb dX10_doDeed_371 (by decide) (fun h216 => ?_) (fun h216 => ?_)
                                                          · have z217 : (19 : Int) < ((v.1 378) (v.1 0 364).toNatClampNeg).toInt := lt_z (show (19 : Int32).toInt = (19 : Int) by decide) rfl h216
                                                            refine lv_aload_n hx hb dX10_doDeed_383 rfl (lv_at hl 3 rfl) ?_
                                                            refine lv_iload_n hx hb dX10_doDeed_384 rfl (lv_at hl 2 rfl) ?_
                                                            refine lv_iload_n hx hb dX10_doDeed_385 rfl (lv_at hl 1 rfl) ?_
                                                            refine lv_iload_n hx hb dX10_doDeed_386 rfl (lv_at hl 0 rfl) ?_
                                                            refine cu_v (rn_Vk (n := 3) (As := [.int ((v.1 378) (v.1 0 364).toNatClampNeg), .int ((v.1 379) (v.1 0 364).toNatClampNeg), .int ((v.1 380) (v.1 0 364).toNatClampNeg)]) (rest := []) hx hb hml hown ht hKK hFx hP hD hS hA (c_x_X10_doPlace l dC dI cI cB cZ cJ cR tb H.size ad pr N L1 L2 (wA v 0 364 ((v.1 0 364) + (1 : Int32))) ((v.1 378) (v.1 0 364).toNatClampNeg) ((v.1 379) (v.1 0 364).toNatClampNeg) ((v.1 380) (v.1 0 364).toNatClampNeg) ps (show (N : Int) ≤ 4096 from (om_1c2c49c46c zNN)) (show L1.length = 40 from hL1) (show L2.length = 60 from hL2) (show RP (wA v 0 364 ((v.1 0 364) + (1 : Int32))) from ((show FC [362, 363, 364, 365, 366, 368, 369, 370, 371] [0, 358, 359, 360] v (wA v 0 364 ((v.1 0 364) + (1 : Int32))) from (FC.f (FC.rf _) ((v.1 0 364) + (1 : Int32)) (by decide))).1 rp)) (show pr ps = ad 908 from hps) (show (v.1 0 355) = ps from es355)) tw_893 tw_894 (by decide +kernel) rfl rfl ⟨Nat.le_of_ble_eq_true rfl, Nat.le_of_ble_eq_true rfl⟩ (List.range (cW ad pr N cI cR L1 L2 (wA v 0 364 ((v.1 0 364) + (1 : Int32)))).length) (rg_map _) (nd_range _) 7 rfl rfl rfl rfl hl.1 rfl (Nat.le_of_ble_eq_true rfl) dX10_doDeed_387 ⟨Nat.le_of_ble_eq_true rfl, Nat.le_of_ble_eq_true rfl⟩) hP hD hS hA (fun u219 H locs hw218 hP hD hS => ?_)
                                                            obtain ⟨fr218, ex218, rs218⟩ := hw218
                                                            have rs218 : RS0 (wA v 0 364 ((v.1 0 364) + (1 : Int32))) u219 := rs218
                                                            refine W.widen (k := 0) (n := 0) (Nat.le_refl _) (Nat.le_refl _) ?_
                                                            have q221 : (u219.1 0 370).toInt = (v.1 0 370).toInt := congrArg Int32.toInt ((fr218.2.1 370 (by decide)).trans (show (wA v 0 364 ((v.1 0 364) + (1 : Int32))).1 0 370 = (v.1 0 370) by rfl))
                                                            exact W.vret hx hb hr (fun t ht9 hW => ⟨⟨u219, rfl, ⟨(FC.tr (FC.f (FC.rf _) ((v.1 0 364) + (1 : Int32)) (by decide)) (FC.up fr218 (by decide) (by decide))), ⟨z344, z381, zq, (Or.inr (⟨z3, (Or.inr (⟨z6, z8, (Or.inr (⟨h10, (Or.inr (⟨h17, (Or.inr (⟨h20, (Or.inr (⟨h26, (Or.inr (⟨h33, (Or.inr (⟨h43, (Or.inr (⟨h53, (Or.inr (⟨h63, (Or.inr (⟨h73, (Or.inr (⟨h83, (Or.inr (⟨h93, (Or.inr (⟨h103, (Or.inr (⟨h106, (Or.inr (⟨h112, (Or.inr (⟨h115, (Or.inr (⟨h121, (Or.inr (⟨h134, (Or.inr (⟨h147, (Or.inr (⟨h160, (Or.inr (⟨h173, (Or.inr (⟨h183, (Or.inr (⟨h190, (Or.inr (⟨h196, (Or.inr (⟨h202, (Or.inr (⟨z215, z217, u219, ex218, ⟨fr218, rs218⟩, rfl⟩))⟩))⟩))⟩))⟩))⟩))⟩))⟩))⟩))⟩))⟩))⟩))⟩))⟩))⟩))⟩))⟩))⟩))⟩))⟩))⟩))⟩))⟩))⟩))⟩))⟩))⟩))⟩, (show (v.1 0 370).toInt ≤ (u219.1 0 370).toInt ∧ (u219.1 0 370).toInt ≤ (v.1 0 370).toInt + 1 from (om_a5ca429bbe q221)), (RS0.tr (show RS0 v (wA v 0 364 ((v.1 0 364) + (1 : Int32))) from (RS0.w RS0.rf (by decide))) rs218)⟩, by rw [ht9]; exact hP, hD⟩, hS.F ht9⟩) hS.2.2 dX10_doDeed_390
                                                          · have z222 : ((v.1 378) (v.1 0 364).toNatClampNeg).toInt ≤ (19 : Int) := nlt_z (show (19 : Int32).toInt = (19 : Int) by decide) rfl h216
                                                            exact False.elim (om_2b3160bd27 z133 z146 z159 z172 z215 z222)
      · have z223 : (3008 : Int) ≤ (v.1 0 364).toInt := nlt_z rfl (show (3008 : Int32).toInt = (3008 : Int) by decide) h7
        exact False.elim (om_f21f355841 z381 z6 z223)
theorem om_3e56993bfa {x0 x1 : Int} (h0 : x0 = 0) (h1 : x1 = x0) : 0 ≤ x1 ∧ x1 ≤ (0 : Int) := by omega
theorem om_98a34c67f0 {x0 x1 : Int} (h0 : 0 ≤ x0 ∧ x0 ≤ x1) (h1 : x1 < (1000000000 : Int)) : 0 ≤ x0 ∧ x0 ≤ 2000000000 := by omega
theorem om_c595b71814 {x0 : Int} (h0 : x0 < (1000000000 : Int)) : x0 + (1 : Int) < 2147483648 := by omega
theorem om_51ca2e586f {x0 x1 x2 x3 : Int} (h0 : 0 ≤ x0 ∧ x0 ≤ x1) (h1 : x0 ≤ x2 ∧ x2 ≤ x0 + 1) (h2 : x3 = x1 + (1 : Int)) : 0 ≤ x2 ∧ x2 ≤ x3 := by omega
theorem om_ec700fe931 {x0 x1 : Int} (h0 : x0 = x1 + (1 : Int)) : 1000000000 - x0 < 1000000000 - x1 := by omega
theorem om_7fa9811d07 {x0 : Int} (h0 : x0 < (1000000000 : Int)) : 0 < 1000000000 - x0 := by omega
theorem om_bb97178e3b {x0 : Int} (h0 : x0 ≠ (-1 : Int)) (h1 : x0 = (-1 : Int)) : False := by omega
theorem om_5020c36e37 {x0 : Int} (h0 : x0 = (-1 : Int)) (h1 : x0 ≠ (-1 : Int)) : False := by omega
theorem om_0b4c9cb999 {x0 x1 x2 : Int} (h0 : x0 = 0) (h1 : x1 = x0) (h2 : x2 = x1) : 0 ≤ x2 ∧ x2 ≤ (0 : Int) := by omega
theorem om_81f27d0566 {x0 x1 x2 x3 : Int} (h0 : x0 = 0) (h1 : x1 = x0) (h2 : x2 = x1) (h3 : x3 = x2) : 0 ≤ x3 ∧ x3 ≤ (0 : Int) := by omega
set_option maxHeartbeats 4000000 in
set_option maxRecDepth 100000 in
theorem c_x_X10_perform (l : Launch) (dC : Nat → ClassId) (dI : Nat → Nat → Nat) (cI cB cZ cJ cR : ClassId) (tb : Nat → Nat) (sz : Nat) (ad : Nat → Nat) (pr : Int32 → Nat) (N : Nat) (L1 L2 : List Nat) (v : MS) (pa : Int32) (pb : Int32) (pc1 : Int32) (ps : Int32) (z344 : 0 ≤ (v.1 0 344).toInt ∧ (v.1 0 344).toInt ≤ 64) (z381 : 0 ≤ (v.1 0 381).toInt ∧ (v.1 0 381).toInt ≤ 3008) (zNN : (N : Int) ≤ 4096) (hL1 : L1.length = 40) (hL2 : L2.length = 60) (rp : RP v) (hps : pr ps = ad 908) (es355 : (v.1 0 355) = ps) (zq : (v.1 0 370).toInt = 0) : Met l yX10_perform (Cond.code yX10_perform cX10_perform 6 (some .int) :: tw_W) ({ frames := 5, cells := 0, slots := 0, locals := 110 }) (pc_ (dC, dI) (tyS cI cB cZ cJ cR) tb (cW ad pr N cI cR L1 L2 v) sz [.ref (ad 907), .int pa, .int pb, .int pc1]) (qi_ (dC, dI) (cW ad pr N cI cR L1 L2 v) sz (fun (r : Int32) (u : MS) => FC [362, 363, 364, 365, 366, 368, 369, 370, 371] [0, 358, 359, 360] v u ∧ (Q_x_X10_perform L1 L2 N v pa pb pc1 r u) ∧ (RS0 v u)) (fun (u : MS) => (cW ad pr N cI cR L1 L2 u))) 0 0 (va_A (cW ad pr N cI cR L1 L2 v) sz) := by
  refine Met.ofW (cc := cX10_perform) (maxL := 6) (ret := (some .int)) (by decide) rfl ?_
  intro p e s m args below meth c s₁ B hml hv
  obtain ⟨rfl, hsz, hP, hKK, hD0, hFx⟩ := hv
  have hK := hKK.1
  have hx := B.exec
  have hb := B.bytes
  have hr := B.returns
  have ht : ∀ w ∈ tw_W, w.before _ s = true := fun w h => atoms_spec (ws := Cond.code yX10_perform cX10_perform 6 (some .int) :: tw_W) B.pre w (List.mem_cons_of_mem _ h)
  have hown : s.vm.findClass RX10 = some m.cls := findClass_of_methodNamed B.named
  have hlocks := B.notSynchronized
  subst hsz
  unfold qi_
  have hD := hD0.self (sz := s.heap.size)
  generalize hAe : va_A (cW ad pr N cI cR L1 L2 v) s.heap.size = A at hD hFx ⊢
  have hA : ∀ q : Nat, s.heap.size ≤ q → A q := fun q h => by rw [← hAe]; exact Or.inr h
  have hS : va_S A s.heap s.heap [] := va_S.rf
  have hl := lv_entry ([.ref (ad 907), .int pa, .int pb, .int pc1]) (n := 6) (Nat.le_of_ble_eq_true rfl)
  rw [lg_entry_eq]
  generalize (lg_sl ([.ref (ad 907), .int pa, .int pb, .int pc1]) ++ List.replicate (6 - (lg_sl ([.ref (ad 907), .int pa, .int pb, .int pc1])).length) Slot.unset).toArray = ls at hl ⊢
  have hl : lv_has ls 6 [(0, .ref (ad 907)), (1, .int pa), (2, .int pb), (3, .int pc1)] := hl
  refine lv_aload_n hx hb dX10_perform_0 rfl (lv_at hl 0 rfl) ?_
  refine va_get (D := (dC, dI)) (ci := 13) (fs := oF_X10 ad pr v) (v := .ref (pr (v.1 0 355))) (C := RX10) (T := TX10) (N := 17) hx hb ht itX10 hown hK hP 7 rfl rfl 0 (by decide) (ht _ tw_857) (fun _ h9 => h9) rfl dX10_perform_1 ?_
  refine lv_iload_n hx hb dX10_perform_4 rfl (lv_at hl 1 rfl) ?_
  refine lv_iconst (v := 0) hx hb dX10_perform_5 (by decide) ?_
  refine W.eq (g2 := F0 m 6 ls [.int 0, .int pa, .ref (ad 908)]) (by rw [show pr (v.1 0 355) = (ad 908) from (by rw [show (v.1 0 355) = ps from es355]; exact hps)]) ?_
  refine cu_i (rn_Vk (n := 2) (As := [.int pa, .int 0]) (rest := []) hx hb hml hown ht hKK hFx hP hD hS hA (c_x_X7_functionFact l dC dI cI cB cZ cJ cR tb s.heap.size ad pr N L1 L2 v pa (0 : Int32) (show L1.length = 40 from hL1) (show L2.length = 60 from hL2) (show RP v from rp)) tw_398 tw_858 (by decide +kernel) rfl rfl ⟨Nat.le_of_ble_eq_true rfl, Nat.le_of_ble_eq_true rfl⟩ (List.range (cW ad pr N cI cR L1 L2 v).length) (rg_map _) (nd_range _) 8 rfl rfl rfl rfl hl.1 rfl (Nat.le_of_ble_eq_true rfl) dX10_perform_6 ⟨Nat.le_of_ble_eq_true rfl, Nat.le_of_ble_eq_true rfl⟩) hP hD hS hA (fun r3 u2 H locs hw1 hP hD hS => ?_)
  obtain ⟨rfl, ex1, c1, d1⟩ := hw1
  have c1 : ((0 : Int) ≠ 0 ∨ r3.toInt ≤ 1000) := c1
  refine W.widen (k := 0) (n := 0) (Nat.le_refl _) (Nat.le_refl _) ?_
  refine lv_istore (lv' := [(4, .int r3), (0, .ref (ad 907)), (1, .int pa), (2, .int pb), (3, .int pc1)]) hx hb dX10_perform_9 hl (by decide) rfl (fun ls hl => ?_)
  refine lv_aload_n hx hb dX10_perform_11 rfl (lv_at hl 1 rfl) ?_
  refine lv_iload_n hx hb dX10_perform_12 rfl (lv_at hl 2 rfl) ?_
  refine lv_iconst (v := -1) hx hb dX10_perform_13 (by decide) ?_
  refine cu_v (rn_Vk (n := 2) (As := [.int pa, .int (-1)]) (rest := []) hx hb hml hown ht hKK hFx hP hD hS hA (c_x_X10_enter l dC dI cI cB cZ cJ cR tb H.size ad pr N L1 L2 v pa (-1 : Int32) ps (show (N : Int) ≤ 4096 from (om_1c2c49c46c zNN)) (show L1.length = 40 from hL1) (show L2.length = 60 from hL2) (show RP v from rp) (show pr ps = ad 908 from hps) (show (v.1 0 355) = ps from es355)) tw_867 tw_868 (by decide +kernel) rfl rfl ⟨Nat.le_of_ble_eq_true rfl, Nat.le_of_ble_eq_true rfl⟩ (List.range (cW ad pr N cI cR L1 L2 v).length) (rg_map _) (nd_range _) 7 rfl rfl rfl rfl hl.1 rfl (Nat.le_of_ble_eq_true rfl) dX10_perform_14 ⟨Nat.le_of_ble_eq_true rfl, Nat.le_of_ble_eq_true rfl⟩) hP hD hS hA (fun u5 H locs hw4 hP hD hS => ?_)
  obtain ⟨fr4, ex4, rs4⟩ := hw4
  refine W.widen (k := 0) (n := 0) (Nat.le_refl _) (Nat.le_refl _) ?_
  refine lv_aload_n hx hb dX10_perform_17 rfl (lv_at hl 1 rfl) ?_
  refine va_get (D := (dC, dI)) (ci := 13) (fs := oF_X10 ad pr u5) (v := .int (u5.1 0 362)) (C := RX10) (T := TX10) (N := 17) hx hb ht itX10 hown hK hP 7 rfl rfl 7 (by decide) (ht _ tw_841) (fun _ h9 => h9) rfl dX10_perform_18 ?_
  refine lv_iconst (v := -1) hx hb dX10_perform_21 (by decide) ?_
  refine lv_icmp_ne (tgt := 36) hx hb dX10_perform_22 (by decide) (fun h7 => ?_) (fun h7 => ?_)
  · have z8 : (u5.1 0 362).toInt ≠ (-1 : Int) := ne_z rfl (show ((-1) : Int32).toInt = (-1 : Int) by decide) h7
    refine lv_aload_n hx hb dX10_perform_36 rfl (lv_at hl 1 rfl) ?_
    refine va_get (D := (dC, dI)) (ci := 13) (fs := oF_X10 ad pr u5) (v := .int (u5.1 0 362)) (C := RX10) (T := TX10) (N := 17) hx hb ht itX10 hown hK hP 7 rfl rfl 7 (by decide) (ht _ tw_841) (fun _ h9 => h9) rfl dX10_perform_37 ?_
    refine lv_iconst (v := -1) hx hb dX10_perform_40 (by decide) ?_
    refine lv_icmp_ne (tgt := 56) hx hb dX10_perform_41 (by decide) (fun h9 => ?_) (fun h9 => ?_)
    · have z10 : (u5.1 0 362).toInt ≠ (-1 : Int) := ne_z rfl (show ((-1) : Int32).toInt = (-1 : Int) by decide) h9
      refine lv_iconst (v := 0) hx hb dX10_perform_56 (by decide) ?_
      refine lv_istore (lv' := [(5, .int 0), (4, .int r3), (0, .ref (ad 907)), (1, .int pa), (2, .int pb), (3, .int pc1)]) hx hb dX10_perform_57 hl (by decide) rfl (fun ls hl => ?_)
      have q11 : (u5.1 0 370).toInt = (v.1 0 370).toInt := congrArg Int32.toInt ((fr4.2.1 370 (by decide)).trans (show v.1 0 370 = (v.1 0 370) by rfl))
      refine lpm_ (X := Int32 × MS) (P := (fun (x9 : Int32 × MS) (H : Heap) (locs : List Loc) (ls : Array Slot) => (FC [362, 363, 364, 365, 366, 368, 369, 370, 371] [0, 358, 359, 360] v x9.2) ∧ (0 ≤ x9.1.toInt) ∧ (0 ≤ (x9.2.1 0 370).toInt ∧ (x9.2.1 0 370).toInt ≤ x9.1.toInt) ∧ (RS0 v x9.2) ∧ (RT (Q_x_X10_perform_L0 L1 L2 N v) (0, u5) (x9.1, x9.2)) ∧ va_P (dC, dI) vwCl (cW ad pr N cI cR L1 L2 x9.2) H ∧ va_D A (cW ad pr N cI cR L1 L2 x9.2) ∧ va_S A s.heap H locs ∧ lv_has ls 6 [(5, .int x9.1), (4, .int r3), (0, .ref (ad 907)), (1, .int pa), (2, .int pb), (3, .int pc1)])) (fun x9 => (1000000000 - x9.1.toInt).toNat) 59 (fun x9 H locs ls hh ih59 => ?_) (0, u5) _ _ _ ⟨(show FC [362, 363, 364, 365, 366, 368, 369, 370, 371] [0, 358, 359, 360] v u5 from (FC.tr (FC.rf _) (FC.up fr4 (by decide) (by decide)))), (show 0 ≤ (0 : Int) from om_342087eeda), (show 0 ≤ (u5.1 0 370).toInt ∧ (u5.1 0 370).toInt ≤ (0 : Int) from (om_3e56993bfa zq q11)), (show RS0 v u5 from (RS0.tr RS0.rf rs4)), RT.rf, hP, hD, hS, lv_sub hl [0, 1, 2, 3, 4, 5] rfl⟩
      obtain ⟨ka, w59⟩ := x9
      obtain ⟨fwL59, f1L59, f2L59, rsL59, exL59, hP, hD, hS, hl⟩ := hh
      have fwL59 : FC [362, 363, 364, 365, 366, 368, 369, 370, 371] [0, 358, 359, 360] v w59 := fwL59
      have f1L59 : 0 ≤ ka.toInt := f1L59
      have f2L59 : 0 ≤ (w59.1 0 370).toInt ∧ (w59.1 0 370).toInt ≤ ka.toInt := f2L59
      have rsL59 : RS0 v w59 := rsL59
      have hP : va_P (dC, dI) vwCl (cW ad pr N cI cR L1 L2 w59) H := hP
      have hD : va_D A (cW ad pr N cI cR L1 L2 w59) := hD
      have hl : lv_has ls 6 [(5, .int ka), (4, .int r3), (0, .ref (ad 907)), (1, .int pa), (2, .int pb), (3, .int pc1)] := hl
      refine lv_iload hx hb dX10_perform_59 (lv_at hl 0 rfl) ?_
      refine lv_ldc (v := 1000000000) hx hb hown (ht _ tw_905) dX10_perform_61 ?_
      refine lv_icmp_ge (tgt := 84) hx hb dX10_perform_63 (by decide) (fun h12 => ?_) (fun h12 => ?_)
      · have z13 : (1000000000 : Int) ≤ ka.toInt := le_z (show (1000000000 : Int32).toInt = (1000000000 : Int) by decide) rfl h12
        refine lv_aload_n hx hb dX10_perform_84 rfl (lv_at hl 2 rfl) ?_
        refine va_get (D := (dC, dI)) (ci := 13) (fs := oF_X10 ad pr w59) (v := .int (w59.1 0 362)) (C := RX10) (T := TX10) (N := 17) hx hb ht itX10 hown hK hP 7 rfl rfl 7 (by decide) (ht _ tw_841) (fun _ h9 => h9) rfl dX10_perform_85 ?_
        exact W.iret (v := (w59.1 0 362)) hx hb hr (fun t ht9 hW => ⟨⟨(w59.1 0 362), w59, rfl, ⟨(FC.tr (FC.rf _) (FC.up fwL59 (by decide) (by decide))), ⟨z344, z381, zq, r3, ex1, ⟨c1, d1⟩, u5, ex4, ⟨fr4, rs4⟩, (Or.inl ⟨z8, z10, ka, w59, exL59, fwL59, f1L59, f2L59, rsL59, (Or.inl ⟨z13, rfl, rfl⟩)⟩)⟩, (RS0.tr RS0.rf rsL59)⟩, by rw [ht9]; exact hP, hD⟩, hS.F ht9⟩) hS.2.2 dX10_perform_88
      · have z14 : ka.toInt < (1000000000 : Int) := nle_z (show (1000000000 : Int32).toInt = (1000000000 : Int) by decide) rfl h12
        refine lv_aload_n hx hb dX10_perform_66 rfl (lv_at hl 2 rfl) ?_
        refine va_get (D := (dC, dI)) (ci := 13) (fs := oF_X10 ad pr w59) (v := .int (w59.1 0 362)) (C := RX10) (T := TX10) (N := 17) hx hb ht itX10 hown hK hP 7 rfl rfl 7 (by decide) (ht _ tw_841) (fun _ h9 => h9) rfl dX10_perform_67 ?_
        refine lv_iconst (v := -1) hx hb dX10_perform_70 (by decide) ?_
        refine lv_icmp_ne (tgt := 84) hx hb dX10_perform_71 (by decide) (fun h15 => ?_) (fun h15 => ?_)
        · have z16 : (w59.1 0 362).toInt ≠ (-1 : Int) := ne_z rfl (show ((-1) : Int32).toInt = (-1 : Int) by decide) h15
          refine lv_aload_n hx hb dX10_perform_84 rfl (lv_at hl 2 rfl) ?_
          refine va_get (D := (dC, dI)) (ci := 13) (fs := oF_X10 ad pr w59) (v := .int (w59.1 0 362)) (C := RX10) (T := TX10) (N := 17) hx hb ht itX10 hown hK hP 7 rfl rfl 7 (by decide) (ht _ tw_841) (fun _ h9 => h9) rfl dX10_perform_85 ?_
          exact W.iret (v := (w59.1 0 362)) hx hb hr (fun t ht9 hW => ⟨⟨(w59.1 0 362), w59, rfl, ⟨(FC.tr (FC.rf _) (FC.up fwL59 (by decide) (by decide))), ⟨z344, z381, zq, r3, ex1, ⟨c1, d1⟩, u5, ex4, ⟨fr4, rs4⟩, (Or.inl ⟨z8, z10, ka, w59, exL59, fwL59, f1L59, f2L59, rsL59, (Or.inr (⟨z14, z16, rfl, rfl⟩))⟩)⟩, (RS0.tr RS0.rf rsL59)⟩, by rw [ht9]; exact hP, hD⟩, hS.F ht9⟩) hS.2.2 dX10_perform_88
        · have z17 : (w59.1 0 362).toInt = (-1 : Int) := eq_z rfl (show ((-1) : Int32).toInt = (-1 : Int) by decide) h15
          refine lv_aload_n hx hb dX10_perform_74 rfl (lv_at hl 2 rfl) ?_
          have q18 : (w59.1 0 344).toInt = (v.1 0 344).toInt := congrArg Int32.toInt ((fwL59.2.1 344 (by decide)).trans (show v.1 0 344 = (v.1 0 344) by rfl))
          have q19 : (w59.1 0 381).toInt = (v.1 0 381).toInt := congrArg Int32.toInt ((fwL59.2.1 381 (by decide)).trans (show v.1 0 381 = (v.1 0 381) by rfl))
          refine cu_v (rn_Vk (n := 0) (As := []) (rest := []) hx hb hml hown ht hKK hFx hP hD hS hA (c_x_X10_doDeed l dC dI cI cB cZ cJ cR tb H.size ad pr N L1 L2 w59 ps (show 0 ≤ (w59.1 0 344).toInt ∧ (w59.1 0 344).toInt ≤ 64 from (om_4eb3e36267 z344 q18)) (show 0 ≤ (w59.1 0 381).toInt ∧ (w59.1 0 381).toInt ≤ 3008 from (om_6e4eb11ad3 z381 q19)) (show (N : Int) ≤ 4096 from (om_1c2c49c46c zNN)) (show L1.length = 40 from hL1) (show L2.length = 60 from hL2) (show RP w59 from ((show FC [362, 363, 364, 365, 366, 368, 369, 370, 371] [0, 358, 359, 360] v w59 from (FC.tr (FC.rf _) (FC.up fwL59 (by decide) (by decide)))).1 rp)) (show pr ps = ad 908 from hps) (show (w59.1 0 355) = ps from (Eq.trans (fwL59.2.1 355 (by decide)) es355)) (show 0 ≤ (w59.1 0 370).toInt ∧ (w59.1 0 370).toInt ≤ 2000000000 from (om_98a34c67f0 f2L59 z14))) tw_906 tw_907 (by decide +kernel) rfl rfl ⟨Nat.le_of_ble_eq_true rfl, Nat.le_of_ble_eq_true rfl⟩ (List.range (cW ad pr N cI cR L1 L2 w59).length) (rg_map _) (nd_range _) 7 rfl rfl rfl rfl hl.1 rfl (Nat.le_of_ble_eq_true rfl) dX10_perform_75 ⟨Nat.le_of_ble_eq_true rfl, Nat.le_of_ble_eq_true rfl⟩) hP hD hS hA (fun u21 H locs hw20 hP hD hS => ?_)
          obtain ⟨fr20, ex20, pq20, rs20⟩ := hw20
          have pq20 : (w59.1 0 370).toInt ≤ (u21.1 0 370).toInt ∧ (u21.1 0 370).toInt ≤ (w59.1 0 370).toInt + 1 := pq20
          have rs20 : RS0 w59 u21 := rs20
          refine W.widen (k := 0) (n := 0) (Nat.le_refl _) (Nat.le_refl _) ?_
          refine lv_iinc (v := (ka + (1 : Int32))) (lv' := [(5, .int (ka + (1 : Int32))), (4, .int r3), (0, .ref (ad 907)), (1, .int pa), (2, .int pb), (3, .int pc1)]) hx hb dX10_perform_78 hl (k := 0) rfl (rfl) (by decide) rfl (fun ls hl => ?_)
          have z23 : (ka + (1 : Int32)).toInt = ka.toInt + (1 : Int) := add_z rfl (show (1 : Int32).toInt = (1 : Int) by decide) (om_d64a792b2e f1L59) (om_c595b71814 z14)
          refine lv_goto (tgt := 59) hx hb dX10_perform_81 (by decide) ?_
          exact ih59 ((ka + (1 : Int32)), u21) _ _ _ (show (1000000000 - (ka + (1 : Int32)).toInt).toNat < (1000000000 - ka.toInt).toNat from tn_z (om_ec700fe931 z23) (om_7fa9811d07 z14)) ⟨(show FC [362, 363, 364, 365, 366, 368, 369, 370, 371] [0, 358, 359, 360] v u21 from (FC.tr (FC.tr (FC.rf _) (FC.up fwL59 (by decide) (by decide))) (FC.up fr20 (by decide) (by decide)))), (show 0 ≤ (ka + (1 : Int32)).toInt from (om_d99f09c756 f1L59 z23)), (show 0 ≤ (u21.1 0 370).toInt ∧ (u21.1 0 370).toInt ≤ (ka + (1 : Int32)).toInt from (om_51ca2e586f f2L59 pq20 z23)), (show RS0 v u21 from (RS0.tr (RS0.tr RS0.rf rsL59) rs20)), (RT.st exL59 ⟨fwL59, f1L59, f2L59, rsL59, z14, z17, u21, ex20, ⟨fr20, pq20, rs20⟩, rfl⟩), hP, hD, hS, lv_sub hl [0, 1, 2, 3, 4, 5] rfl⟩
    · have z24 : (u5.1 0 362).toInt = (-1 : Int) := eq_z rfl (show ((-1) : Int32).toInt = (-1 : Int) by decide) h9
      exact False.elim (om_bb97178e3b z8 z24)
  · have z25 : (u5.1 0 362).toInt = (-1 : Int) := eq_z rfl (show ((-1) : Int32).toInt = (-1 : Int) by decide) h7
    refine lv_iload hx hb dX10_perform_25 (lv_at hl 0 rfl) ?_
    refine lv_if_le (tgt := 36) hx hb dX10_perform_27 (by decide) (fun h26 => ?_) (fun h26 => ?_)
    · have z27 : r3.toInt ≤ (0 : Int) := le_z rfl (show (0 : Int32).toInt = (0 : Int) by decide) h26
      refine lv_aload_n hx hb dX10_perform_36 rfl (lv_at hl 1 rfl) ?_
      refine va_get (D := (dC, dI)) (ci := 13) (fs := oF_X10 ad pr u5) (v := .int (u5.1 0 362)) (C := RX10) (T := TX10) (N := 17) hx hb ht itX10 hown hK hP 7 rfl rfl 7 (by decide) (ht _ tw_841) (fun _ h9 => h9) rfl dX10_perform_37 ?_
      refine lv_iconst (v := -1) hx hb dX10_perform_40 (by decide) ?_
      refine lv_icmp_ne (tgt := 56) hx hb dX10_perform_41 (by decide) (fun h28 => ?_) (fun h28 => ?_)
      · have z29 : (u5.1 0 362).toInt ≠ (-1 : Int) := ne_z rfl (show ((-1) : Int32).toInt = (-1 : Int) by decide) h28
        exact False.elim (om_5020c36e37 z25 z29)
      · have z30 : (u5.1 0 362).toInt = (-1 : Int) := eq_z rfl (show ((-1) : Int32).toInt = (-1 : Int) by decide) h28
        refine lv_iload hx hb dX10_perform_44 (lv_at hl 0 rfl) ?_
        refine lv_iconst (v := 1) hx hb dX10_perform_46 (by decide) ?_
        refine lv_icmp_le (tgt := 56) hx hb dX10_perform_47 (by decide) (fun h31 => ?_) (fun h31 => ?_)
        · have z32 : r3.toInt ≤ (1 : Int) := le_z rfl (show (1 : Int32).toInt = (1 : Int) by decide) h31
          refine lv_iconst (v := 0) hx hb dX10_perform_56 (by decide) ?_
          refine lv_istore (lv' := [(5, .int 0), (4, .int r3), (0, .ref (ad 907)), (1, .int pa), (2, .int pb), (3, .int pc1)]) hx hb dX10_perform_57 hl (by decide) rfl (fun ls hl => ?_)
          have q33 : (u5.1 0 370).toInt = (v.1 0 370).toInt := congrArg Int32.toInt ((fr4.2.1 370 (by decide)).trans (show v.1 0 370 = (v.1 0 370) by rfl))
          refine lpm_ (X := Int32 × MS) (P := (fun (x9 : Int32 × MS) (H : Heap) (locs : List Loc) (ls : Array Slot) => (FC [362, 363, 364, 365, 366, 368, 369, 370, 371] [0, 358, 359, 360] v x9.2) ∧ (0 ≤ x9.1.toInt) ∧ (0 ≤ (x9.2.1 0 370).toInt ∧ (x9.2.1 0 370).toInt ≤ x9.1.toInt) ∧ (RS0 v x9.2) ∧ (RT (Q_x_X10_perform_L1 L1 L2 N v) (0, u5) (x9.1, x9.2)) ∧ va_P (dC, dI) vwCl (cW ad pr N cI cR L1 L2 x9.2) H ∧ va_D A (cW ad pr N cI cR L1 L2 x9.2) ∧ va_S A s.heap H locs ∧ lv_has ls 6 [(5, .int x9.1), (4, .int r3), (0, .ref (ad 907)), (1, .int pa), (2, .int pb), (3, .int pc1)])) (fun x9 => (1000000000 - x9.1.toInt).toNat) 59 (fun x9 H locs ls hh ih59 => ?_) (0, u5) _ _ _ ⟨(show FC [362, 363, 364, 365, 366, 368, 369, 370, 371] [0, 358, 359, 360] v u5 from (FC.tr (FC.rf _) (FC.up fr4 (by decide) (by decide)))), (show 0 ≤ (0 : Int) from om_342087eeda), (show 0 ≤ (u5.1 0 370).toInt ∧ (u5.1 0 370).toInt ≤ (0 : Int) from (om_3e56993bfa zq q33)), (show RS0 v u5 from (RS0.tr RS0.rf rs4)), RT.rf, hP, hD, hS, lv_sub hl [0, 1, 2, 3, 4, 5] rfl⟩
          obtain ⟨ka, w59⟩ := x9
          obtain ⟨fwL59, f1L59, f2L59, rsL59, exL59, hP, hD, hS, hl⟩ := hh
          have fwL59 : FC [362, 363, 364, 365, 366, 368, 369, 370, 371] [0, 358, 359, 360] v w59 := fwL59
          have f1L59 : 0 ≤ ka.toInt := f1L59
          have f2L59 : 0 ≤ (w59.1 0 370).toInt ∧ (w59.1 0 370).toInt ≤ ka.toInt := f2L59
          have rsL59 : RS0 v w59 := rsL59
          have hP : va_P (dC, dI) vwCl (cW ad pr N cI cR L1 L2 w59) H := hP
          have hD : va_D A (cW ad pr N cI cR L1 L2 w59) := hD
          have hl : lv_has ls 6 [(5, .int ka), (4, .int r3), (0, .ref (ad 907)), (1, .int pa), (2, .int pb), (3, .int pc1)] := hl
          refine lv_iload hx hb dX10_perform_59 (lv_at hl 0 rfl) ?_
          refine lv_ldc (v := 1000000000) hx hb hown (ht _ tw_905) dX10_perform_61 ?_
          refine lv_icmp_ge (tgt := 84) hx hb dX10_perform_63 (by decide) (fun h34 => ?_) (fun h34 => ?_)
          · have z35 : (1000000000 : Int) ≤ ka.toInt := le_z (show (1000000000 : Int32).toInt = (1000000000 : Int) by decide) rfl h34
            refine lv_aload_n hx hb dX10_perform_84 rfl (lv_at hl 2 rfl) ?_
            refine va_get (D := (dC, dI)) (ci := 13) (fs := oF_X10 ad pr w59) (v := .int (w59.1 0 362)) (C := RX10) (T := TX10) (N := 17) hx hb ht itX10 hown hK hP 7 rfl rfl 7 (by decide) (ht _ tw_841) (fun _ h9 => h9) rfl dX10_perform_85 ?_
            exact W.iret (v := (w59.1 0 362)) hx hb hr (fun t ht9 hW => ⟨⟨(w59.1 0 362), w59, rfl, ⟨(FC.tr (FC.rf _) (FC.up fwL59 (by decide) (by decide))), ⟨z344, z381, zq, r3, ex1, ⟨c1, d1⟩, u5, ex4, ⟨fr4, rs4⟩, (Or.inr (⟨z25, (Or.inl ⟨z27, z30, z32, ka, w59, exL59, fwL59, f1L59, f2L59, rsL59, (Or.inl ⟨z35, rfl, rfl⟩)⟩)⟩))⟩, (RS0.tr RS0.rf rsL59)⟩, by rw [ht9]; exact hP, hD⟩, hS.F ht9⟩) hS.2.2 dX10_perform_88
          · have z36 : ka.toInt < (1000000000 : Int) := nle_z (show (1000000000 : Int32).toInt = (1000000000 : Int) by decide) rfl h34
            refine lv_aload_n hx hb dX10_perform_66 rfl (lv_at hl 2 rfl) ?_
            refine va_get (D := (dC, dI)) (ci := 13) (fs := oF_X10 ad pr w59) (v := .int (w59.1 0 362)) (C := RX10) (T := TX10) (N := 17) hx hb ht itX10 hown hK hP 7 rfl rfl 7 (by decide) (ht _ tw_841) (fun _ h9 => h9) rfl dX10_perform_67 ?_
            refine lv_iconst (v := -1) hx hb dX10_perform_70 (by decide) ?_
            refine lv_icmp_ne (tgt := 84) hx hb dX10_perform_71 (by decide) (fun h37 => ?_) (fun h37 => ?_)
            · have z38 : (w59.1 0 362).toInt ≠ (-1 : Int) := ne_z rfl (show ((-1) : Int32).toInt = (-1 : Int) by decide) h37
              refine lv_aload_n hx hb dX10_perform_84 rfl (lv_at hl 2 rfl) ?_
              refine va_get (D := (dC, dI)) (ci := 13) (fs := oF_X10 ad pr w59) (v := .int (w59.1 0 362)) (C := RX10) (T := TX10) (N := 17) hx hb ht itX10 hown hK hP 7 rfl rfl 7 (by decide) (ht _ tw_841) (fun _ h9 => h9) rfl dX10_perform_85 ?_
              exact W.iret (v := (w59.1 0 362)) hx hb hr (fun t ht9 hW => ⟨⟨(w59.1 0 362), w59, rfl, ⟨(FC.tr (FC.rf _) (FC.up fwL59 (by decide) (by decide))), ⟨z344, z381, zq, r3, ex1, ⟨c1, d1⟩, u5, ex4, ⟨fr4, rs4⟩, (Or.inr (⟨z25, (Or.inl ⟨z27, z30, z32, ka, w59, exL59, fwL59, f1L59, f2L59, rsL59, (Or.inr (⟨z36, z38, rfl, rfl⟩))⟩)⟩))⟩, (RS0.tr RS0.rf rsL59)⟩, by rw [ht9]; exact hP, hD⟩, hS.F ht9⟩) hS.2.2 dX10_perform_88
            · have z39 : (w59.1 0 362).toInt = (-1 : Int) := eq_z rfl (show ((-1) : Int32).toInt = (-1 : Int) by decide) h37
              refine lv_aload_n hx hb dX10_perform_74 rfl (lv_at hl 2 rfl) ?_
              have q40 : (w59.1 0 344).toInt = (v.1 0 344).toInt := congrArg Int32.toInt ((fwL59.2.1 344 (by decide)).trans (show v.1 0 344 = (v.1 0 344) by rfl))
              have q41 : (w59.1 0 381).toInt = (v.1 0 381).toInt := congrArg Int32.toInt ((fwL59.2.1 381 (by decide)).trans (show v.1 0 381 = (v.1 0 381) by rfl))
              refine cu_v (rn_Vk (n := 0) (As := []) (rest := []) hx hb hml hown ht hKK hFx hP hD hS hA (c_x_X10_doDeed l dC dI cI cB cZ cJ cR tb H.size ad pr N L1 L2 w59 ps (show 0 ≤ (w59.1 0 344).toInt ∧ (w59.1 0 344).toInt ≤ 64 from (om_4eb3e36267 z344 q40)) (show 0 ≤ (w59.1 0 381).toInt ∧ (w59.1 0 381).toInt ≤ 3008 from (om_6e4eb11ad3 z381 q41)) (show (N : Int) ≤ 4096 from (om_1c2c49c46c zNN)) (show L1.length = 40 from hL1) (show L2.length = 60 from hL2) (show RP w59 from ((show FC [362, 363, 364, 365, 366, 368, 369, 370, 371] [0, 358, 359, 360] v w59 from (FC.tr (FC.rf _) (FC.up fwL59 (by decide) (by decide)))).1 rp)) (show pr ps = ad 908 from hps) (show (w59.1 0 355) = ps from (Eq.trans (fwL59.2.1 355 (by decide)) es355)) (show 0 ≤ (w59.1 0 370).toInt ∧ (w59.1 0 370).toInt ≤ 2000000000 from (om_98a34c67f0 f2L59 z36))) tw_906 tw_907 (by decide +kernel) rfl rfl ⟨Nat.le_of_ble_eq_true rfl, Nat.le_of_ble_eq_true rfl⟩ (List.range (cW ad pr N cI cR L1 L2 w59).length) (rg_map _) (nd_range _) 7 rfl rfl rfl rfl hl.1 rfl (Nat.le_of_ble_eq_true rfl) dX10_perform_75 ⟨Nat.le_of_ble_eq_true rfl, Nat.le_of_ble_eq_true rfl⟩) hP hD hS hA (fun u43 H locs hw42 hP hD hS => ?_)
              obtain ⟨fr42, ex42, pq42, rs42⟩ := hw42
              have pq42 : (w59.1 0 370).toInt ≤ (u43.1 0 370).toInt ∧ (u43.1 0 370).toInt ≤ (w59.1 0 370).toInt + 1 := pq42
              have rs42 : RS0 w59 u43 := rs42
              refine W.widen (k := 0) (n := 0) (Nat.le_refl _) (Nat.le_refl _) ?_
              refine lv_iinc (v := (ka + (1 : Int32))) (lv' := [(5, .int (ka + (1 : Int32))), (4, .int r3), (0, .ref (ad 907)), (1, .int pa), (2, .int pb), (3, .int pc1)]) hx hb dX10_perform_78 hl (k := 0) rfl (rfl) (by decide) rfl (fun ls hl => ?_)
              have z45 : (ka + (1 : Int32)).toInt = ka.toInt + (1 : Int) := add_z rfl (show (1 : Int32).toInt = (1 : Int) by decide) (om_d64a792b2e f1L59) (om_c595b71814 z36)
              refine lv_goto (tgt := 59) hx hb dX10_perform_81 (by decide) ?_
              exact ih59 ((ka + (1 : Int32)), u43) _ _ _ (show (1000000000 - (ka + (1 : Int32)).toInt).toNat < (1000000000 - ka.toInt).toNat from tn_z (om_ec700fe931 z45) (om_7fa9811d07 z36)) ⟨(show FC [362, 363, 364, 365, 366, 368, 369, 370, 371] [0, 358, 359, 360] v u43 from (FC.tr (FC.tr (FC.rf _) (FC.up fwL59 (by decide) (by decide))) (FC.up fr42 (by decide) (by decide)))), (show 0 ≤ (ka + (1 : Int32)).toInt from (om_d99f09c756 f1L59 z45)), (show 0 ≤ (u43.1 0 370).toInt ∧ (u43.1 0 370).toInt ≤ (ka + (1 : Int32)).toInt from (om_51ca2e586f f2L59 pq42 z45)), (show RS0 v u43 from (RS0.tr (RS0.tr RS0.rf rsL59) rs42)), (RT.st exL59 ⟨fwL59, f1L59, f2L59, rsL59, z36, z39, u43, ex42, ⟨fr42, pq42, rs42⟩, rfl⟩), hP, hD, hS, lv_sub hl [0, 1, 2, 3, 4, 5] rfl⟩
        · have z46 : (1 : Int) < r3.toInt := nle_z rfl (show (1 : Int32).toInt = (1 : Int) by decide) h31
          exact False.elim (om_49d00272e1 z27 z46)
    · have z47 : (0 : Int) < r3.toInt := nle_z rfl (show (0 : Int32).toInt = (0 : Int) by decide) h26
      refine lv_aload_n hx hb dX10_perform_30 rfl (lv_at hl 1 rfl) ?_
      refine lv_iconst (v := 0) hx hb dX10_perform_31 (by decide) ?_
      refine lv_iload_n hx hb dX10_perform_32 rfl (lv_at hl 3 rfl) ?_
      refine cu_v (rn_Vk (n := 2) (As := [.int 0, .int pb]) (rest := []) hx hb hml hown ht hKK hFx hP hD hS hA (c_x_X10_changeSlot l dC dI cI cB cZ cJ cR tb H.size ad pr N L1 L2 u5 (0 : Int32) pb (show (N : Int) ≤ 4096 from (om_1c2c49c46c zNN))) tw_869 tw_870 (by decide +kernel) rfl rfl ⟨Nat.le_of_ble_eq_true rfl, Nat.le_of_ble_eq_true rfl⟩ (List.range (cW ad pr N cI cR L1 L2 u5).length) (rg_map _) (nd_range _) 7 rfl rfl rfl rfl hl.1 rfl (Nat.le_of_ble_eq_true rfl) dX10_perform_33 ⟨Nat.le_of_ble_eq_true rfl, Nat.le_of_ble_eq_true rfl⟩) hP hD hS hA (fun u49 H locs hw48 hP hD hS => ?_)
      obtain ⟨fr48, ex48, rs48⟩ := hw48
      have rs48 : RS0 u5 u49 := rs48
      refine W.widen (k := 0) (n := 0) (Nat.le_refl _) (Nat.le_refl _) ?_
      refine lv_aload_n hx hb dX10_perform_36 rfl (lv_at hl 1 rfl) ?_
      refine va_get (D := (dC, dI)) (ci := 13) (fs := oF_X10 ad pr u49) (v := .int (u49.1 0 362)) (C := RX10) (T := TX10) (N := 17) hx hb ht itX10 hown hK hP 7 rfl rfl 7 (by decide) (ht _ tw_841) (fun _ h9 => h9) rfl dX10_perform_37 ?_
      refine lv_iconst (v := -1) hx hb dX10_perform_40 (by decide) ?_
      refine lv_icmp_ne (tgt := 56) hx hb dX10_perform_41 (by decide) (fun h51 => ?_) (fun h51 => ?_)
      · have z52 : (u49.1 0 362).toInt ≠ (-1 : Int) := ne_z rfl (show ((-1) : Int32).toInt = (-1 : Int) by decide) h51
        refine lv_iconst (v := 0) hx hb dX10_perform_56 (by decide) ?_
        refine lv_istore (lv' := [(5, .int 0), (4, .int r3), (0, .ref (ad 907)), (1, .int pa), (2, .int pb), (3, .int pc1)]) hx hb dX10_perform_57 hl (by decide) rfl (fun ls hl => ?_)
        have q53 : (u5.1 0 370).toInt = (v.1 0 370).toInt := congrArg Int32.toInt ((fr4.2.1 370 (by decide)).trans (show v.1 0 370 = (v.1 0 370) by rfl))
        have q54 : (u49.1 0 370).toInt = (u5.1 0 370).toInt := congrArg Int32.toInt ((fr48.2.1 370 (by decide)).trans (show u5.1 0 370 = (u5.1 0 370) by rfl))
        refine lpm_ (X := Int32 × MS) (P := (fun (x9 : Int32 × MS) (H : Heap) (locs : List Loc) (ls : Array Slot) => (FC [362, 363, 364, 365, 366, 368, 369, 370, 371] [0, 358, 359, 360] v x9.2) ∧ (0 ≤ x9.1.toInt) ∧ (0 ≤ (x9.2.1 0 370).toInt ∧ (x9.2.1 0 370).toInt ≤ x9.1.toInt) ∧ (RS0 v x9.2) ∧ (RT (Q_x_X10_perform_L2 L1 L2 N v) (0, u49) (x9.1, x9.2)) ∧ va_P (dC, dI) vwCl (cW ad pr N cI cR L1 L2 x9.2) H ∧ va_D A (cW ad pr N cI cR L1 L2 x9.2) ∧ va_S A s.heap H locs ∧ lv_has ls 6 [(5, .int x9.1), (4, .int r3), (0, .ref (ad 907)), (1, .int pa), (2, .int pb), (3, .int pc1)])) (fun x9 => (1000000000 - x9.1.toInt).toNat) 59 (fun x9 H locs ls hh ih59 => ?_) (0, u49) _ _ _ ⟨(show FC [362, 363, 364, 365, 366, 368, 369, 370, 371] [0, 358, 359, 360] v u49 from (FC.tr (FC.tr (FC.rf _) (FC.up fr4 (by decide) (by decide))) (FC.up fr48 (by decide) (by decide)))), (show 0 ≤ (0 : Int) from om_342087eeda), (show 0 ≤ (u49.1 0 370).toInt ∧ (u49.1 0 370).toInt ≤ (0 : Int) from (om_0b4c9cb999 zq q53 q54)), (show RS0 v u49 from (RS0.tr (RS0.tr RS0.rf rs4) rs48)), RT.rf, hP, hD, hS, lv_sub hl [0, 1, 2, 3, 4, 5] rfl⟩
        obtain ⟨ka, w59⟩ := x9
        obtain ⟨fwL59, f1L59, f2L59, rsL59, exL59, hP, hD, hS, hl⟩ := hh
        have fwL59 : FC [362, 363, 364, 365, 366, 368, 369, 370, 371] [0, 358, 359, 360] v w59 := fwL59
        have f1L59 : 0 ≤ ka.toInt := f1L59
        have f2L59 : 0 ≤ (w59.1 0 370).toInt ∧ (w59.1 0 370).toInt ≤ ka.toInt := f2L59
        have rsL59 : RS0 v w59 := rsL59
        have hP : va_P (dC, dI) vwCl (cW ad pr N cI cR L1 L2 w59) H := hP
        have hD : va_D A (cW ad pr N cI cR L1 L2 w59) := hD
        have hl : lv_has ls 6 [(5, .int ka), (4, .int r3), (0, .ref (ad 907)), (1, .int pa), (2, .int pb), (3, .int pc1)] := hl
        refine lv_iload hx hb dX10_perform_59 (lv_at hl 0 rfl) ?_
        refine lv_ldc (v := 1000000000) hx hb hown (ht _ tw_905) dX10_perform_61 ?_
        refine lv_icmp_ge (tgt := 84) hx hb dX10_perform_63 (by decide) (fun h55 => ?_) (fun h55 => ?_)
        · have z56 : (1000000000 : Int) ≤ ka.toInt := le_z (show (1000000000 : Int32).toInt = (1000000000 : Int) by decide) rfl h55
          refine lv_aload_n hx hb dX10_perform_84 rfl (lv_at hl 2 rfl) ?_
          refine va_get (D := (dC, dI)) (ci := 13) (fs := oF_X10 ad pr w59) (v := .int (w59.1 0 362)) (C := RX10) (T := TX10) (N := 17) hx hb ht itX10 hown hK hP 7 rfl rfl 7 (by decide) (ht _ tw_841) (fun _ h9 => h9) rfl dX10_perform_85 ?_
          exact W.iret (v := (w59.1 0 362)) hx hb hr (fun t ht9 hW => ⟨⟨(w59.1 0 362), w59, rfl, ⟨(FC.tr (FC.rf _) (FC.up fwL59 (by decide) (by decide))), ⟨z344, z381, zq, r3, ex1, ⟨c1, d1⟩, u5, ex4, ⟨fr4, rs4⟩, (Or.inr (⟨z25, (Or.inr (⟨z47, u49, ex48, ⟨fr48, rs48⟩, (Or.inl ⟨z52, ka, w59, exL59, fwL59, f1L59, f2L59, rsL59, (Or.inl ⟨z56, rfl, rfl⟩)⟩)⟩))⟩))⟩, (RS0.tr RS0.rf rsL59)⟩, by rw [ht9]; exact hP, hD⟩, hS.F ht9⟩) hS.2.2 dX10_perform_88
        · have z57 : ka.toInt < (1000000000 : Int) := nle_z (show (1000000000 : Int32).toInt = (1000000000 : Int) by decide) rfl h55
          refine lv_aload_n hx hb dX10_perform_66 rfl (lv_at hl 2 rfl) ?_
          refine va_get (D := (dC, dI)) (ci := 13) (fs := oF_X10 ad pr w59) (v := .int (w59.1 0 362)) (C := RX10) (T := TX10) (N := 17) hx hb ht itX10 hown hK hP 7 rfl rfl 7 (by decide) (ht _ tw_841) (fun _ h9 => h9) rfl dX10_perform_67 ?_
          refine lv_iconst (v := -1) hx hb dX10_perform_70 (by decide) ?_
          refine lv_icmp_ne (tgt := 84) hx hb dX10_perform_71 (by decide) (fun h58 => ?_) (fun h58 => ?_)
          · have z59 : (w59.1 0 362).toInt ≠ (-1 : Int) := ne_z rfl (show ((-1) : Int32).toInt = (-1 : Int) by decide) h58
            refine lv_aload_n hx hb dX10_perform_84 rfl (lv_at hl 2 rfl) ?_
            refine va_get (D := (dC, dI)) (ci := 13) (fs := oF_X10 ad pr w59) (v := .int (w59.1 0 362)) (C := RX10) (T := TX10) (N := 17) hx hb ht itX10 hown hK hP 7 rfl rfl 7 (by decide) (ht _ tw_841) (fun _ h9 => h9) rfl dX10_perform_85 ?_
            exact W.iret (v := (w59.1 0 362)) hx hb hr (fun t ht9 hW => ⟨⟨(w59.1 0 362), w59, rfl, ⟨(FC.tr (FC.rf _) (FC.up fwL59 (by decide) (by decide))), ⟨z344, z381, zq, r3, ex1, ⟨c1, d1⟩, u5, ex4, ⟨fr4, rs4⟩, (Or.inr (⟨z25, (Or.inr (⟨z47, u49, ex48, ⟨fr48, rs48⟩, (Or.inl ⟨z52, ka, w59, exL59, fwL59, f1L59, f2L59, rsL59, (Or.inr (⟨z57, z59, rfl, rfl⟩))⟩)⟩))⟩))⟩, (RS0.tr RS0.rf rsL59)⟩, by rw [ht9]; exact hP, hD⟩, hS.F ht9⟩) hS.2.2 dX10_perform_88
          · have z60 : (w59.1 0 362).toInt = (-1 : Int) := eq_z rfl (show ((-1) : Int32).toInt = (-1 : Int) by decide) h58
            refine lv_aload_n hx hb dX10_perform_74 rfl (lv_at hl 2 rfl) ?_
            have q61 : (w59.1 0 344).toInt = (v.1 0 344).toInt := congrArg Int32.toInt ((fwL59.2.1 344 (by decide)).trans (show v.1 0 344 = (v.1 0 344) by rfl))
            have q62 : (w59.1 0 381).toInt = (v.1 0 381).toInt := congrArg Int32.toInt ((fwL59.2.1 381 (by decide)).trans (show v.1 0 381 = (v.1 0 381) by rfl))
            refine cu_v (rn_Vk (n := 0) (As := []) (rest := []) hx hb hml hown ht hKK hFx hP hD hS hA (c_x_X10_doDeed l dC dI cI cB cZ cJ cR tb H.size ad pr N L1 L2 w59 ps (show 0 ≤ (w59.1 0 344).toInt ∧ (w59.1 0 344).toInt ≤ 64 from (om_4eb3e36267 z344 q61)) (show 0 ≤ (w59.1 0 381).toInt ∧ (w59.1 0 381).toInt ≤ 3008 from (om_6e4eb11ad3 z381 q62)) (show (N : Int) ≤ 4096 from (om_1c2c49c46c zNN)) (show L1.length = 40 from hL1) (show L2.length = 60 from hL2) (show RP w59 from ((show FC [362, 363, 364, 365, 366, 368, 369, 370, 371] [0, 358, 359, 360] v w59 from (FC.tr (FC.rf _) (FC.up fwL59 (by decide) (by decide)))).1 rp)) (show pr ps = ad 908 from hps) (show (w59.1 0 355) = ps from (Eq.trans (fwL59.2.1 355 (by decide)) es355)) (show 0 ≤ (w59.1 0 370).toInt ∧ (w59.1 0 370).toInt ≤ 2000000000 from (om_98a34c67f0 f2L59 z57))) tw_906 tw_907 (by decide +kernel) rfl rfl ⟨Nat.le_of_ble_eq_true rfl, Nat.le_of_ble_eq_true rfl⟩ (List.range (cW ad pr N cI cR L1 L2 w59).length) (rg_map _) (nd_range _) 7 rfl rfl rfl rfl hl.1 rfl (Nat.le_of_ble_eq_true rfl) dX10_perform_75 ⟨Nat.le_of_ble_eq_true rfl, Nat.le_of_ble_eq_true rfl⟩) hP hD hS hA (fun u64 H locs hw63 hP hD hS => ?_)
            obtain ⟨fr63, ex63, pq63, rs63⟩ := hw63
            have pq63 : (w59.1 0 370).toInt ≤ (u64.1 0 370).toInt ∧ (u64.1 0 370).toInt ≤ (w59.1 0 370).toInt + 1 := pq63
            have rs63 : RS0 w59 u64 := rs63
            refine W.widen (k := 0) (n := 0) (Nat.le_refl _) (Nat.le_refl _) ?_
            refine lv_iinc (v := (ka + (1 : Int32))) (lv' := [(5, .int (ka + (1 : Int32))), (4, .int r3), (0, .ref (ad 907)), (1, .int pa), (2, .int pb), (3, .int pc1)]) hx hb dX10_perform_78 hl (k := 0) rfl (rfl) (by decide) rfl (fun ls hl => ?_)
            have z66 : (ka + (1 : Int32)).toInt = ka.toInt + (1 : Int) := add_z rfl (show (1 : Int32).toInt = (1 : Int) by decide) (om_d64a792b2e f1L59) (om_c595b71814 z57)
            refine lv_goto (tgt := 59) hx hb dX10_perform_81 (by decide) ?_
            exact ih59 ((ka + (1 : Int32)), u64) _ _ _ (show (1000000000 - (ka + (1 : Int32)).toInt).toNat < (1000000000 - ka.toInt).toNat from tn_z (om_ec700fe931 z66) (om_7fa9811d07 z57)) ⟨(show FC [362, 363, 364, 365, 366, 368, 369, 370, 371] [0, 358, 359, 360] v u64 from (FC.tr (FC.tr (FC.rf _) (FC.up fwL59 (by decide) (by decide))) (FC.up fr63 (by decide) (by decide)))), (show 0 ≤ (ka + (1 : Int32)).toInt from (om_d99f09c756 f1L59 z66)), (show 0 ≤ (u64.1 0 370).toInt ∧ (u64.1 0 370).toInt ≤ (ka + (1 : Int32)).toInt from (om_51ca2e586f f2L59 pq63 z66)), (show RS0 v u64 from (RS0.tr (RS0.tr RS0.rf rsL59) rs63)), (RT.st exL59 ⟨fwL59, f1L59, f2L59, rsL59, z57, z60, u64, ex63, ⟨fr63, pq63, rs63⟩, rfl⟩), hP, hD, hS, lv_sub hl [0, 1, 2, 3, 4, 5] rfl⟩
      · have z67 : (u49.1 0 362).toInt = (-1 : Int) := eq_z rfl (show ((-1) : Int32).toInt = (-1 : Int) by decide) h51
        refine lv_iload hx hb dX10_perform_44 (lv_at hl 0 rfl) ?_
        refine lv_iconst (v := 1) hx hb dX10_perform_46 (by decide) ?_
        refine lv_icmp_le (tgt := 56) hx hb dX10_perform_47 (by decide) (fun h68 => ?_) (fun h68 => ?_)
        · have z69 : r3.toInt ≤ (1 : Int) := le_z rfl (show (1 : Int32).toInt = (1 : Int) by decide) h68
          refine lv_iconst (v := 0) hx hb dX10_perform_56 (by decide) ?_
          refine lv_istore (lv' := [(5, .int 0), (4, .int r3), (0, .ref (ad 907)), (1, .int pa), (2, .int pb), (3, .int pc1)]) hx hb dX10_perform_57 hl (by decide) rfl (fun ls hl => ?_)
          have q70 : (u5.1 0 370).toInt = (v.1 0 370).toInt := congrArg Int32.toInt ((fr4.2.1 370 (by decide)).trans (show v.1 0 370 = (v.1 0 370) by rfl))
          have q71 : (u49.1 0 370).toInt = (u5.1 0 370).toInt := congrArg Int32.toInt ((fr48.2.1 370 (by decide)).trans (show u5.1 0 370 = (u5.1 0 370) by rfl))
          refine lpm_ (X := Int32 × MS) (P := (fun (x9 : Int32 × MS) (H : Heap) (locs : List Loc) (ls : Array Slot) => (FC [362, 363, 364, 365, 366, 368, 369, 370, 371] [0, 358, 359, 360] v x9.2) ∧ (0 ≤ x9.1.toInt) ∧ (0 ≤ (x9.2.1 0 370).toInt ∧ (x9.2.1 0 370).toInt ≤ x9.1.toInt) ∧ (RS0 v x9.2) ∧ (RT (Q_x_X10_perform_L3 L1 L2 N v) (0, u49) (x9.1, x9.2)) ∧ va_P (dC, dI) vwCl (cW ad pr N cI cR L1 L2 x9.2) H ∧ va_D A (cW ad pr N cI cR L1 L2 x9.2) ∧ va_S A s.heap H locs ∧ lv_has ls 6 [(5, .int x9.1), (4, .int r3), (0, .ref (ad 907)), (1, .int pa), (2, .int pb), (3, .int pc1)])) (fun x9 => (1000000000 - x9.1.toInt).toNat) 59 (fun x9 H locs ls hh ih59 => ?_) (0, u49) _ _ _ ⟨(show FC [362, 363, 364, 365, 366, 368, 369, 370, 371] [0, 358, 359, 360] v u49 from (FC.tr (FC.tr (FC.rf _) (FC.up fr4 (by decide) (by decide))) (FC.up fr48 (by decide) (by decide)))), (show 0 ≤ (0 : Int) from om_342087eeda), (show 0 ≤ (u49.1 0 370).toInt ∧ (u49.1 0 370).toInt ≤ (0 : Int) from (om_0b4c9cb999 zq q70 q71)), (show RS0 v u49 from (RS0.tr (RS0.tr RS0.rf rs4) rs48)), RT.rf, hP, hD, hS, lv_sub hl [0, 1, 2, 3, 4, 5] rfl⟩
          obtain ⟨ka, w59⟩ := x9
          obtain ⟨fwL59, f1L59, f2L59, rsL59, exL59, hP, hD, hS, hl⟩ := hh
          have fwL59 : FC [362, 363, 364, 365, 366, 368, 369, 370, 371] [0, 358, 359, 360] v w59 := fwL59
          have f1L59 : 0 ≤ ka.toInt := f1L59
          have f2L59 : 0 ≤ (w59.1 0 370).toInt ∧ (w59.1 0 370).toInt ≤ ka.toInt := f2L59
          have rsL59 : RS0 v w59 := rsL59
          have hP : va_P (dC, dI) vwCl (cW ad pr N cI cR L1 L2 w59) H := hP
          have hD : va_D A (cW ad pr N cI cR L1 L2 w59) := hD
          have hl : lv_has ls 6 [(5, .int ka), (4, .int r3), (0, .ref (ad 907)), (1, .int pa), (2, .int pb), (3, .int pc1)] := hl
          refine lv_iload hx hb dX10_perform_59 (lv_at hl 0 rfl) ?_
          refine lv_ldc (v := 1000000000) hx hb hown (ht _ tw_905) dX10_perform_61 ?_
          refine lv_icmp_ge (tgt := 84) hx hb dX10_perform_63 (by decide) (fun h72 => ?_) (fun h72 => ?_)
          · have z73 : (1000000000 : Int) ≤ ka.toInt := le_z (show (1000000000 : Int32).toInt = (1000000000 : Int) by decide) rfl h72
            refine lv_aload_n hx hb dX10_perform_84 rfl (lv_at hl 2 rfl) ?_
            refine va_get (D := (dC, dI)) (ci := 13) (fs := oF_X10 ad pr w59) (v := .int (w59.1 0 362)) (C := RX10) (T := TX10) (N := 17) hx hb ht itX10 hown hK hP 7 rfl rfl 7 (by decide) (ht _ tw_841) (fun _ h9 => h9) rfl dX10_perform_85 ?_
            exact W.iret (v := (w59.1 0 362)) hx hb hr (fun t ht9 hW => ⟨⟨(w59.1 0 362), w59, rfl, ⟨(FC.tr (FC.rf _) (FC.up fwL59 (by decide) (by decide))), ⟨z344, z381, zq, r3, ex1, ⟨c1, d1⟩, u5, ex4, ⟨fr4, rs4⟩, (Or.inr (⟨z25, (Or.inr (⟨z47, u49, ex48, ⟨fr48, rs48⟩, (Or.inr (⟨z67, (Or.inl ⟨z69, ka, w59, exL59, fwL59, f1L59, f2L59, rsL59, (Or.inl ⟨z73, rfl, rfl⟩)⟩)⟩))⟩))⟩))⟩, (RS0.tr RS0.rf rsL59)⟩, by rw [ht9]; exact hP, hD⟩, hS.F ht9⟩) hS.2.2 dX10_perform_88
          · have z74 : ka.toInt < (1000000000 : Int) := nle_z (show (1000000000 : Int32).toInt = (1000000000 : Int) by decide) rfl h72
            refine lv_aload_n hx hb dX10_perform_66 rfl (lv_at hl 2 rfl) ?_
            refine va_get (D := (dC, dI)) (ci := 13) (fs := oF_X10 ad pr w59) (v := .int (w59.1 0 362)) (C := RX10) (T := TX10) (N := 17) hx hb ht itX10 hown hK hP 7 rfl rfl 7 (by decide) (ht _ tw_841) (fun _ h9 => h9) rfl dX10_perform_67 ?_
            refine lv_iconst (v := -1) hx hb dX10_perform_70 (by decide) ?_
            refine lv_icmp_ne (tgt := 84) hx hb dX10_perform_71 (by decide) (fun h75 => ?_) (fun h75 => ?_)
            · have z76 : (w59.1 0 362).toInt ≠ (-1 : Int) := ne_z rfl (show ((-1) : Int32).toInt = (-1 : Int) by decide) h75
              refine lv_aload_n hx hb dX10_perform_84 rfl (lv_at hl 2 rfl) ?_
              refine va_get (D := (dC, dI)) (ci := 13) (fs := oF_X10 ad pr w59) (v := .int (w59.1 0 362)) (C := RX10) (T := TX10) (N := 17) hx hb ht itX10 hown hK hP 7 rfl rfl 7 (by decide) (ht _ tw_841) (fun _ h9 => h9) rfl dX10_perform_85 ?_
              exact W.iret (v := (w59.1 0 362)) hx hb hr (fun t ht9 hW => ⟨⟨(w59.1 0 362), w59, rfl, ⟨(FC.tr (FC.rf _) (FC.up fwL59 (by decide) (by decide))), ⟨z344, z381, zq, r3, ex1, ⟨c1, d1⟩, u5, ex4, ⟨fr4, rs4⟩, (Or.inr (⟨z25, (Or.inr (⟨z47, u49, ex48, ⟨fr48, rs48⟩, (Or.inr (⟨z67, (Or.inl ⟨z69, ka, w59, exL59, fwL59, f1L59, f2L59, rsL59, (Or.inr (⟨z74, z76, rfl, rfl⟩))⟩)⟩))⟩))⟩))⟩, (RS0.tr RS0.rf rsL59)⟩, by rw [ht9]; exact hP, hD⟩, hS.F ht9⟩) hS.2.2 dX10_perform_88
            · have z77 : (w59.1 0 362).toInt = (-1 : Int) := eq_z rfl (show ((-1) : Int32).toInt = (-1 : Int) by decide) h75
              refine lv_aload_n hx hb dX10_perform_74 rfl (lv_at hl 2 rfl) ?_
              have q78 : (w59.1 0 344).toInt = (v.1 0 344).toInt := congrArg Int32.toInt ((fwL59.2.1 344 (by decide)).trans (show v.1 0 344 = (v.1 0 344) by rfl))
              have q79 : (w59.1 0 381).toInt = (v.1 0 381).toInt := congrArg Int32.toInt ((fwL59.2.1 381 (by decide)).trans (show v.1 0 381 = (v.1 0 381) by rfl))
              refine cu_v (rn_Vk (n := 0) (As := []) (rest := []) hx hb hml hown ht hKK hFx hP hD hS hA (c_x_X10_doDeed l dC dI cI cB cZ cJ cR tb H.size ad pr N L1 L2 w59 ps (show 0 ≤ (w59.1 0 344).toInt ∧ (w59.1 0 344).toInt ≤ 64 from (om_4eb3e36267 z344 q78)) (show 0 ≤ (w59.1 0 381).toInt ∧ (w59.1 0 381).toInt ≤ 3008 from (om_6e4eb11ad3 z381 q79)) (show (N : Int) ≤ 4096 from (om_1c2c49c46c zNN)) (show L1.length = 40 from hL1) (show L2.length = 60 from hL2) (show RP w59 from ((show FC [362, 363, 364, 365, 366, 368, 369, 370, 371] [0, 358, 359, 360] v w59 from (FC.tr (FC.rf _) (FC.up fwL59 (by decide) (by decide)))).1 rp)) (show pr ps = ad 908 from hps) (show (w59.1 0 355) = ps from (Eq.trans (fwL59.2.1 355 (by decide)) es355)) (show 0 ≤ (w59.1 0 370).toInt ∧ (w59.1 0 370).toInt ≤ 2000000000 from (om_98a34c67f0 f2L59 z74))) tw_906 tw_907 (by decide +kernel) rfl rfl ⟨Nat.le_of_ble_eq_true rfl, Nat.le_of_ble_eq_true rfl⟩ (List.range (cW ad pr N cI cR L1 L2 w59).length) (rg_map _) (nd_range _) 7 rfl rfl rfl rfl hl.1 rfl (Nat.le_of_ble_eq_true rfl) dX10_perform_75 ⟨Nat.le_of_ble_eq_true rfl, Nat.le_of_ble_eq_true rfl⟩) hP hD hS hA (fun u81 H locs hw80 hP hD hS => ?_)
              obtain ⟨fr80, ex80, pq80, rs80⟩ := hw80
              have pq80 : (w59.1 0 370).toInt ≤ (u81.1 0 370).toInt ∧ (u81.1 0 370).toInt ≤ (w59.1 0 370).toInt + 1 := pq80
              have rs80 : RS0 w59 u81 := rs80
              refine W.widen (k := 0) (n := 0) (Nat.le_refl _) (Nat.le_refl _) ?_
              refine lv_iinc (v := (ka + (1 : Int32))) (lv' := [(5, .int (ka + (1 : Int32))), (4, .int r3), (0, .ref (ad 907)), (1, .int pa), (2, .int pb), (3, .int pc1)]) hx hb dX10_perform_78 hl (k := 0) rfl (rfl) (by decide) rfl (fun ls hl => ?_)
              have z83 : (ka + (1 : Int32)).toInt = ka.toInt + (1 : Int) := add_z rfl (show (1 : Int32).toInt = (1 : Int) by decide) (om_d64a792b2e f1L59) (om_c595b71814 z74)
              refine lv_goto (tgt := 59) hx hb dX10_perform_81 (by decide) ?_
              exact ih59 ((ka + (1 : Int32)), u81) _ _ _ (show (1000000000 - (ka + (1 : Int32)).toInt).toNat < (1000000000 - ka.toInt).toNat from tn_z (om_ec700fe931 z83) (om_7fa9811d07 z74)) ⟨(show FC [362, 363, 364, 365, 366, 368, 369, 370, 371] [0, 358, 359, 360] v u81 from (FC.tr (FC.tr (FC.rf _) (FC.up fwL59 (by decide) (by decide))) (FC.up fr80 (by decide) (by decide)))), (show 0 ≤ (ka + (1 : Int32)).toInt from (om_d99f09c756 f1L59 z83)), (show 0 ≤ (u81.1 0 370).toInt ∧ (u81.1 0 370).toInt ≤ (ka + (1 : Int32)).toInt from (om_51ca2e586f f2L59 pq80 z83)), (show RS0 v u81 from (RS0.tr (RS0.tr RS0.rf rsL59) rs80)), (RT.st exL59 ⟨fwL59, f1L59, f2L59, rsL59, z74, z77, u81, ex80, ⟨fr80, pq80, rs80⟩, rfl⟩), hP, hD, hS, lv_sub hl [0, 1, 2, 3, 4, 5] rfl⟩
        · have z84 : (1 : Int) < r3.toInt := nle_z rfl (show (1 : Int32).toInt = (1 : Int) by decide) h68
          refine lv_aload_n hx hb dX10_perform_50 rfl (lv_at hl 1 rfl) ?_
          refine lv_iconst (v := 1) hx hb dX10_perform_51 (by decide) ?_
          refine lv_iload_n hx hb dX10_perform_52 rfl (lv_at hl 4 rfl) ?_
          refine cu_v (rn_Vk (n := 2) (As := [.int 1, .int pc1]) (rest := []) hx hb hml hown ht hKK hFx hP hD hS hA (c_x_X10_changeSlot l dC dI cI cB cZ cJ cR tb H.size ad pr N L1 L2 u49 (1 : Int32) pc1 (show (N : Int) ≤ 4096 from (om_1c2c49c46c zNN))) tw_869 tw_870 (by decide +kernel) rfl rfl ⟨Nat.le_of_ble_eq_true rfl, Nat.le_of_ble_eq_true rfl⟩ (List.range (cW ad pr N cI cR L1 L2 u49).length) (rg_map _) (nd_range _) 7 rfl rfl rfl rfl hl.1 rfl (Nat.le_of_ble_eq_true rfl) dX10_perform_53 ⟨Nat.le_of_ble_eq_true rfl, Nat.le_of_ble_eq_true rfl⟩) hP hD hS hA (fun u86 H locs hw85 hP hD hS => ?_)
          obtain ⟨fr85, ex85, rs85⟩ := hw85
          have rs85 : RS0 u49 u86 := rs85
          refine W.widen (k := 0) (n := 0) (Nat.le_refl _) (Nat.le_refl _) ?_
          refine lv_iconst (v := 0) hx hb dX10_perform_56 (by decide) ?_
          refine lv_istore (lv' := [(5, .int 0), (4, .int r3), (0, .ref (ad 907)), (1, .int pa), (2, .int pb), (3, .int pc1)]) hx hb dX10_perform_57 hl (by decide) rfl (fun ls hl => ?_)
          have q88 : (u5.1 0 370).toInt = (v.1 0 370).toInt := congrArg Int32.toInt ((fr4.2.1 370 (by decide)).trans (show v.1 0 370 = (v.1 0 370) by rfl))
          have q89 : (u49.1 0 370).toInt = (u5.1 0 370).toInt := congrArg Int32.toInt ((fr48.2.1 370 (by decide)).trans (show u5.1 0 370 = (u5.1 0 370) by rfl))
          have q90 : (u86.1 0 370).toInt = (u49.1 0 370).toInt := congrArg Int32.toInt ((fr85.2.1 370 (by decide)).trans (show u49.1 0 370 = (u49.1 0 370) by rfl))
          refine lpm_ (X := Int32 × MS) (P := (fun (x9 : Int32 × MS) (H : Heap) (locs : List Loc) (ls : Array Slot) => (FC [362, 363, 364, 365, 366, 368, 369, 370, 371] [0, 358, 359, 360] v x9.2) ∧ (0 ≤ x9.1.toInt) ∧ (0 ≤ (x9.2.1 0 370).toInt ∧ (x9.2.1 0 370).toInt ≤ x9.1.toInt) ∧ (RS0 v x9.2) ∧ (RT (Q_x_X10_perform_L4 L1 L2 N v) (0, u86) (x9.1, x9.2)) ∧ va_P (dC, dI) vwCl (cW ad pr N cI cR L1 L2 x9.2) H ∧ va_D A (cW ad pr N cI cR L1 L2 x9.2) ∧ va_S A s.heap H locs ∧ lv_has ls 6 [(5, .int x9.1), (4, .int r3), (0, .ref (ad 907)), (1, .int pa), (2, .int pb), (3, .int pc1)])) (fun x9 => (1000000000 - x9.1.toInt).toNat) 59 (fun x9 H locs ls hh ih59 => ?_) (0, u86) _ _ _ ⟨(show FC [362, 363, 364, 365, 366, 368, 369, 370, 371] [0, 358, 359, 360] v u86 from (FC.tr (FC.tr (FC.tr (FC.rf _) (FC.up fr4 (by decide) (by decide))) (FC.up fr48 (by decide) (by decide))) (FC.up fr85 (by decide) (by decide)))), (show 0 ≤ (0 : Int) from om_342087eeda), (show 0 ≤ (u86.1 0 370).toInt ∧ (u86.1 0 370).toInt ≤ (0 : Int) from (om_81f27d0566 zq q88 q89 q90)), (show RS0 v u86 from (RS0.tr (RS0.tr (RS0.tr RS0.rf rs4) rs48) rs85)), RT.rf, hP, hD, hS, lv_sub hl [0, 1, 2, 3, 4, 5] rfl⟩
          obtain ⟨ka, w59⟩ := x9
          obtain ⟨fwL59, f1L59, f2L59, rsL59, exL59, hP, hD, hS, hl⟩ := hh
          have fwL59 : FC [362, 363, 364, 365, 366, 368, 369, 370, 371] [0, 358, 359, 360] v w59 := fwL59
          have f1L59 : 0 ≤ ka.toInt := f1L59
          have f2L59 : 0 ≤ (w59.1 0 370).toInt ∧ (w59.1 0 370).toInt ≤ ka.toInt := f2L59
          have rsL59 : RS0 v w59 := rsL59
          have hP : va_P (dC, dI) vwCl (cW ad pr N cI cR L1 L2 w59) H := hP
          have hD : va_D A (cW ad pr N cI cR L1 L2 w59) := hD
          have hl : lv_has ls 6 [(5, .int ka), (4, .int r3), (0, .ref (ad 907)), (1, .int pa), (2, .int pb), (3, .int pc1)] := hl
          refine lv_iload hx hb dX10_perform_59 (lv_at hl 0 rfl) ?_
          refine lv_ldc (v := 1000000000) hx hb hown (ht _ tw_905) dX10_perform_61 ?_
          refine lv_icmp_ge (tgt := 84) hx hb dX10_perform_63 (by decide) (fun h91 => ?_) (fun h91 => ?_)
          · have z92 : (1000000000 : Int) ≤ ka.toInt := le_z (show (1000000000 : Int32).toInt = (1000000000 : Int) by decide) rfl h91
            refine lv_aload_n hx hb dX10_perform_84 rfl (lv_at hl 2 rfl) ?_
            refine va_get (D := (dC, dI)) (ci := 13) (fs := oF_X10 ad pr w59) (v := .int (w59.1 0 362)) (C := RX10) (T := TX10) (N := 17) hx hb ht itX10 hown hK hP 7 rfl rfl 7 (by decide) (ht _ tw_841) (fun _ h9 => h9) rfl dX10_perform_85 ?_
            exact W.iret (v := (w59.1 0 362)) hx hb hr (fun t ht9 hW => ⟨⟨(w59.1 0 362), w59, rfl, ⟨(FC.tr (FC.rf _) (FC.up fwL59 (by decide) (by decide))), ⟨z344, z381, zq, r3, ex1, ⟨c1, d1⟩, u5, ex4, ⟨fr4, rs4⟩, (Or.inr (⟨z25, (Or.inr (⟨z47, u49, ex48, ⟨fr48, rs48⟩, (Or.inr (⟨z67, (Or.inr (⟨z84, u86, ex85, ⟨fr85, rs85⟩, ka, w59, exL59, fwL59, f1L59, f2L59, rsL59, (Or.inl ⟨z92, rfl, rfl⟩)⟩))⟩))⟩))⟩))⟩, (RS0.tr RS0.rf rsL59)⟩, by rw [ht9]; exact hP, hD⟩, hS.F ht9⟩) hS.2.2 dX10_perform_88
          · have z93 : ka.toInt < (1000000000 : Int) := nle_z (show (1000000000 : Int32).toInt = (1000000000 : Int) by decide) rfl h91
            refine lv_aload_n hx hb dX10_perform_66 rfl (lv_at hl 2 rfl) ?_
            refine va_get (D := (dC, dI)) (ci := 13) (fs := oF_X10 ad pr w59) (v := .int (w59.1 0 362)) (C := RX10) (T := TX10) (N := 17) hx hb ht itX10 hown hK hP 7 rfl rfl 7 (by decide) (ht _ tw_841) (fun _ h9 => h9) rfl dX10_perform_67 ?_
            refine lv_iconst (v := -1) hx hb dX10_perform_70 (by decide) ?_
            refine lv_icmp_ne (tgt := 84) hx hb dX10_perform_71 (by decide) (fun h94 => ?_) (fun h94 => ?_)
            · have z95 : (w59.1 0 362).toInt ≠ (-1 : Int) := ne_z rfl (show ((-1) : Int32).toInt = (-1 : Int) by decide) h94
              refine lv_aload_n hx hb dX10_perform_84 rfl (lv_at hl 2 rfl) ?_
              refine va_get (D := (dC, dI)) (ci := 13) (fs := oF_X10 ad pr w59) (v := .int (w59.1 0 362)) (C := RX10) (T := TX10) (N := 17) hx hb ht itX10 hown hK hP 7 rfl rfl 7 (by decide) (ht _ tw_841) (fun _ h9 => h9) rfl dX10_perform_85 ?_
              exact W.iret (v := (w59.1 0 362)) hx hb hr (fun t ht9 hW => ⟨⟨(w59.1 0 362), w59, rfl, ⟨(FC.tr (FC.rf _) (FC.up fwL59 (by decide) (by decide))), ⟨z344, z381, zq, r3, ex1, ⟨c1, d1⟩, u5, ex4, ⟨fr4, rs4⟩, (Or.inr (⟨z25, (Or.inr (⟨z47, u49, ex48, ⟨fr48, rs48⟩, (Or.inr (⟨z67, (Or.inr (⟨z84, u86, ex85, ⟨fr85, rs85⟩, ka, w59, exL59, fwL59, f1L59, f2L59, rsL59, (Or.inr (⟨z93, z95, rfl, rfl⟩))⟩))⟩))⟩))⟩))⟩, (RS0.tr RS0.rf rsL59)⟩, by rw [ht9]; exact hP, hD⟩, hS.F ht9⟩) hS.2.2 dX10_perform_88
            · have z96 : (w59.1 0 362).toInt = (-1 : Int) := eq_z rfl (show ((-1) : Int32).toInt = (-1 : Int) by decide) h94
              refine lv_aload_n hx hb dX10_perform_74 rfl (lv_at hl 2 rfl) ?_
              have q97 : (w59.1 0 344).toInt = (v.1 0 344).toInt := congrArg Int32.toInt ((fwL59.2.1 344 (by decide)).trans (show v.1 0 344 = (v.1 0 344) by rfl))
              have q98 : (w59.1 0 381).toInt = (v.1 0 381).toInt := congrArg Int32.toInt ((fwL59.2.1 381 (by decide)).trans (show v.1 0 381 = (v.1 0 381) by rfl))
              refine cu_v (rn_Vk (n := 0) (As := []) (rest := []) hx hb hml hown ht hKK hFx hP hD hS hA (c_x_X10_doDeed l dC dI cI cB cZ cJ cR tb H.size ad pr N L1 L2 w59 ps (show 0 ≤ (w59.1 0 344).toInt ∧ (w59.1 0 344).toInt ≤ 64 from (om_4eb3e36267 z344 q97)) (show 0 ≤ (w59.1 0 381).toInt ∧ (w59.1 0 381).toInt ≤ 3008 from (om_6e4eb11ad3 z381 q98)) (show (N : Int) ≤ 4096 from (om_1c2c49c46c zNN)) (show L1.length = 40 from hL1) (show L2.length = 60 from hL2) (show RP w59 from ((show FC [362, 363, 364, 365, 366, 368, 369, 370, 371] [0, 358, 359, 360] v w59 from (FC.tr (FC.rf _) (FC.up fwL59 (by decide) (by decide)))).1 rp)) (show pr ps = ad 908 from hps) (show (w59.1 0 355) = ps from (Eq.trans (fwL59.2.1 355 (by decide)) es355)) (show 0 ≤ (w59.1 0 370).toInt ∧ (w59.1 0 370).toInt ≤ 2000000000 from (om_98a34c67f0 f2L59 z93))) tw_906 tw_907 (by decide +kernel) rfl rfl ⟨Nat.le_of_ble_eq_true rfl, Nat.le_of_ble_eq_true rfl⟩ (List.range (cW ad pr N cI cR L1 L2 w59).length) (rg_map _) (nd_range _) 7 rfl rfl rfl rfl hl.1 rfl (Nat.le_of_ble_eq_true rfl) dX10_perform_75 ⟨Nat.le_of_ble_eq_true rfl, Nat.le_of_ble_eq_true rfl⟩) hP hD hS hA (fun u100 H locs hw99 hP hD hS => ?_)
              obtain ⟨fr99, ex99, pq99, rs99⟩ := hw99
              have pq99 : (w59.1 0 370).toInt ≤ (u100.1 0 370).toInt ∧ (u100.1 0 370).toInt ≤ (w59.1 0 370).toInt + 1 := pq99
              have rs99 : RS0 w59 u100 := rs99
              refine W.widen (k := 0) (n := 0) (Nat.le_refl _) (Nat.le_refl _) ?_
              refine lv_iinc (v := (ka + (1 : Int32))) (lv' := [(5, .int (ka + (1 : Int32))), (4, .int r3), (0, .ref (ad 907)), (1, .int pa), (2, .int pb), (3, .int pc1)]) hx hb dX10_perform_78 hl (k := 0) rfl (rfl) (by decide) rfl (fun ls hl => ?_)
              have z102 : (ka + (1 : Int32)).toInt = ka.toInt + (1 : Int) := add_z rfl (show (1 : Int32).toInt = (1 : Int) by decide) (om_d64a792b2e f1L59) (om_c595b71814 z93)
              refine lv_goto (tgt := 59) hx hb dX10_perform_81 (by decide) ?_
              exact ih59 ((ka + (1 : Int32)), u100) _ _ _ (show (1000000000 - (ka + (1 : Int32)).toInt).toNat < (1000000000 - ka.toInt).toNat from tn_z (om_ec700fe931 z102) (om_7fa9811d07 z93)) ⟨(show FC [362, 363, 364, 365, 366, 368, 369, 370, 371] [0, 358, 359, 360] v u100 from (FC.tr (FC.tr (FC.rf _) (FC.up fwL59 (by decide) (by decide))) (FC.up fr99 (by decide) (by decide)))), (show 0 ≤ (ka + (1 : Int32)).toInt from (om_d99f09c756 f1L59 z102)), (show 0 ≤ (u100.1 0 370).toInt ∧ (u100.1 0 370).toInt ≤ (ka + (1 : Int32)).toInt from (om_51ca2e586f f2L59 pq99 z102)), (show RS0 v u100 from (RS0.tr (RS0.tr RS0.rf rsL59) rs99)), (RT.st exL59 ⟨fwL59, f1L59, f2L59, rsL59, z93, z96, u100, ex99, ⟨fr99, pq99, rs99⟩, rfl⟩), hP, hD, hS, lv_sub hl [0, 1, 2, 3, 4, 5] rfl⟩
