theorem dX13_calls_0 : decode cX13_calls 0 = .ok (.iload_n 1, 1) := by decide +kernel
theorem dX13_calls_1 : decode cX13_calls 1 = .ok (.ldc_w 297, 3) := by decide +kernel
theorem dX13_calls_4 : decode cX13_calls 4 = .ok (.if_icmp .ne 11, 3) := by decide +kernel
theorem dX13_calls_15 : decode cX13_calls 15 = .ok (.iload_n 1, 1) := by decide +kernel
theorem dX13_calls_16 : decode cX13_calls 16 = .ok (.bipush 115, 2) := by decide +kernel
theorem dX13_calls_18 : decode cX13_calls 18 = .ok (.if_icmp .ne 115, 3) := by decide +kernel
theorem dX13_calls_133 : decode cX13_calls 133 = .ok (.aload_n 0, 1) := by decide +kernel
theorem dX13_calls_134 : decode cX13_calls 134 = .ok (.iconst 2, 1) := by decide +kernel
theorem dX13_calls_135 : decode cX13_calls 135 = .ok (.putfield 636, 3) := by decide +kernel
theorem dX13_calls_138 : decode cX13_calls 138 = .ok (.return_, 1) := by decide +kernel
theorem dX13_calls_21 : decode cX13_calls 21 = .ok (.aload_n 0, 1) := by decide +kernel
theorem dX13_calls_22 : decode cX13_calls 22 = .ok (.getfield 570, 3) := by decide +kernel
theorem dX13_calls_25 : decode cX13_calls 25 = .ok (.bipush 17, 2) := by decide +kernel
theorem dX13_calls_27 : decode cX13_calls 27 = .ok (.iaload, 1) := by decide +kernel
theorem dX13_calls_28 : decode cX13_calls 28 = .ok (.iconst 1, 1) := by decide +kernel
theorem dX13_calls_29 : decode cX13_calls 29 = .ok (.if_icmp .ne 39, 3) := by decide +kernel
theorem dX13_calls_68 : decode cX13_calls 68 = .ok (.aload_n 0, 1) := by decide +kernel
theorem dX13_calls_69 : decode cX13_calls 69 = .ok (.getfield 570, 3) := by decide +kernel
theorem dX13_calls_72 : decode cX13_calls 72 = .ok (.bipush 17, 2) := by decide +kernel
theorem dX13_calls_74 : decode cX13_calls 74 = .ok (.iaload, 1) := by decide +kernel
theorem dX13_calls_75 : decode cX13_calls 75 = .ok (.iconst 2, 1) := by decide +kernel
theorem dX13_calls_76 : decode cX13_calls 76 = .ok (.if_icmp .ne 44, 3) := by decide +kernel
theorem dX13_calls_120 : decode cX13_calls 120 = .ok (.aload_n 0, 1) := by decide +kernel
theorem dX13_calls_121 : decode cX13_calls 121 = .ok (.dup, 1) := by decide +kernel
theorem dX13_calls_122 : decode cX13_calls 122 = .ok (.getfield 633, 3) := by decide +kernel
theorem dX13_calls_125 : decode cX13_calls 125 = .ok (.iconst 4, 1) := by decide +kernel
theorem dX13_calls_126 : decode cX13_calls 126 = .ok (.iadd, 1) := by decide +kernel
theorem dX13_calls_127 : decode cX13_calls 127 = .ok (.putfield 633, 3) := by decide +kernel
theorem dX13_calls_130 : decode cX13_calls 130 = .ok (.goto 8, 3) := by decide +kernel
theorem dX13_calls_79 : decode cX13_calls 79 = .ok (.aload_n 0, 1) := by decide +kernel
theorem dX13_calls_80 : decode cX13_calls 80 = .ok (.getfield 570, 3) := by decide +kernel
theorem dX13_calls_83 : decode cX13_calls 83 = .ok (.bipush 10, 2) := by decide +kernel
theorem dX13_calls_85 : decode cX13_calls 85 = .ok (.aload_n 0, 1) := by decide +kernel
theorem dX13_calls_86 : decode cX13_calls 86 = .ok (.getfield 645, 3) := by decide +kernel
theorem tw_224 : (.fieldLink RX13 645 "PocketCompilerModel" "used" "I" : Cond) ∈ tw_W := tw_in (t8_11 (List.mem_of_getElem? (i := 12) rfl)) rfl
theorem dX13_calls_89 : decode cX13_calls 89 = .ok (.aload_n 0, 1) := by decide +kernel
theorem dX13_calls_90 : decode cX13_calls 90 = .ok (.getfield 630, 3) := by decide +kernel
theorem tw_225 : (.fieldLink RX13 630 "PocketCompilerModel" "givenMany" "I" : Cond) ∈ tw_W := tw_in (t8_11 (List.mem_of_getElem? (i := 11) rfl)) rfl
theorem dX13_calls_93 : decode cX13_calls 93 = .ok (.if_icmp .ge 15, 3) := by decide +kernel
theorem dX13_calls_108 : decode cX13_calls 108 = .ok (.iconst 0, 1) := by decide +kernel
theorem dX13_calls_109 : decode cX13_calls 109 = .ok (.iastore, 1) := by decide +kernel
theorem dX13_calls_110 : decode cX13_calls 110 = .ok (.aload_n 0, 1) := by decide +kernel
theorem dX13_calls_111 : decode cX13_calls 111 = .ok (.dup, 1) := by decide +kernel
theorem dX13_calls_112 : decode cX13_calls 112 = .ok (.getfield 645, 3) := by decide +kernel
theorem dX13_calls_115 : decode cX13_calls 115 = .ok (.iconst 1, 1) := by decide +kernel
theorem dX13_calls_116 : decode cX13_calls 116 = .ok (.iadd, 1) := by decide +kernel
theorem dX13_calls_117 : decode cX13_calls 117 = .ok (.putfield 645, 3) := by decide +kernel
theorem dX13_calls_96 : decode cX13_calls 96 = .ok (.aload_n 0, 1) := by decide +kernel
theorem dX13_calls_97 : decode cX13_calls 97 = .ok (.getfield 567, 3) := by decide +kernel
theorem tw_226 : (.fieldLink RX13 567 "PocketCompilerModel" "given" "[I" : Cond) ∈ tw_W := tw_in (t8_11 (List.mem_of_getElem? (i := 10) rfl)) rfl
theorem dX13_calls_100 : decode cX13_calls 100 = .ok (.aload_n 0, 1) := by decide +kernel
theorem dX13_calls_101 : decode cX13_calls 101 = .ok (.getfield 645, 3) := by decide +kernel
theorem dX13_calls_104 : decode cX13_calls 104 = .ok (.iaload, 1) := by decide +kernel
theorem dX13_calls_105 : decode cX13_calls 105 = .ok (.goto 4, 3) := by decide +kernel
theorem dX13_calls_32 : decode cX13_calls 32 = .ok (.aload_n 0, 1) := by decide +kernel
theorem dX13_calls_33 : decode cX13_calls 33 = .ok (.getfield 642, 3) := by decide +kernel
theorem tw_227 : (.fieldLink RX13 642 "PocketCompilerModel" "putMany" "I" : Cond) ∈ tw_W := tw_in (t8_11 (List.mem_of_getElem? (i := 19) rfl)) rfl
theorem dX13_calls_36 : decode cX13_calls 36 = .ok (.sipush 200, 3) := by decide +kernel
theorem dX13_calls_39 : decode cX13_calls 39 = .ok (.if_icmp .ge 19, 3) := by decide +kernel
theorem dX13_calls_58 : decode cX13_calls 58 = .ok (.aload_n 0, 1) := by decide +kernel
theorem dX13_calls_59 : decode cX13_calls 59 = .ok (.dup, 1) := by decide +kernel
theorem dX13_calls_60 : decode cX13_calls 60 = .ok (.getfield 642, 3) := by decide +kernel
theorem dX13_calls_63 : decode cX13_calls 63 = .ok (.iconst 1, 1) := by decide +kernel
theorem dX13_calls_64 : decode cX13_calls 64 = .ok (.iadd, 1) := by decide +kernel
theorem dX13_calls_65 : decode cX13_calls 65 = .ok (.putfield 642, 3) := by decide +kernel
theorem dX13_calls_42 : decode cX13_calls 42 = .ok (.aload_n 0, 1) := by decide +kernel
theorem dX13_calls_43 : decode cX13_calls 43 = .ok (.getfield 573, 3) := by decide +kernel
theorem tw_228 : (.fieldLink RX13 573 "PocketCompilerModel" "puts" "[I" : Cond) ∈ tw_W := tw_in (t8_11 (List.mem_of_getElem? (i := 18) rfl)) rfl
theorem dX13_calls_46 : decode cX13_calls 46 = .ok (.aload_n 0, 1) := by decide +kernel
theorem dX13_calls_47 : decode cX13_calls 47 = .ok (.getfield 642, 3) := by decide +kernel
theorem dX13_calls_50 : decode cX13_calls 50 = .ok (.aload_n 0, 1) := by decide +kernel
theorem dX13_calls_51 : decode cX13_calls 51 = .ok (.getfield 570, 3) := by decide +kernel
theorem dX13_calls_54 : decode cX13_calls 54 = .ok (.bipush 10, 2) := by decide +kernel
theorem dX13_calls_56 : decode cX13_calls 56 = .ok (.iaload, 1) := by decide +kernel
theorem dX13_calls_57 : decode cX13_calls 57 = .ok (.iastore, 1) := by decide +kernel
theorem dX13_calls_7 : decode cX13_calls 7 = .ok (.aload_n 0, 1) := by decide +kernel
theorem dX13_calls_8 : decode cX13_calls 8 = .ok (.iconst 1, 1) := by decide +kernel
theorem dX13_calls_9 : decode cX13_calls 9 = .ok (.putfield 636, 3) := by decide +kernel
theorem dX13_calls_12 : decode cX13_calls 12 = .ok (.goto 126, 3) := by decide +kernel
theorem dX13_doStep_0 : decode cX13_doStep 0 = .ok (.aload_n 0, 1) := by decide +kernel
theorem dX13_doStep_1 : decode cX13_doStep 1 = .ok (.dup, 1) := by decide +kernel
theorem dX13_doStep_2 : decode cX13_doStep 2 = .ok (.getfield 639, 3) := by decide +kernel
theorem tw_229 : (.fieldLink RX13 639 "PocketCompilerModel" "steps" "I" : Cond) ∈ tw_W := tw_in (t8_11 (List.mem_of_getElem? (i := 17) rfl)) rfl
theorem dX13_doStep_5 : decode cX13_doStep 5 = .ok (.iconst 1, 1) := by decide +kernel
theorem dX13_doStep_6 : decode cX13_doStep 6 = .ok (.iadd, 1) := by decide +kernel
theorem dX13_doStep_7 : decode cX13_doStep 7 = .ok (.putfield 639, 3) := by decide +kernel
theorem dX13_doStep_10 : decode cX13_doStep 10 = .ok (.aload_n 0, 1) := by decide +kernel
theorem dX13_doStep_11 : decode cX13_doStep 11 = .ok (.getfield 633, 3) := by decide +kernel
theorem dX13_doStep_14 : decode cX13_doStep 14 = .ok (.iconst 3, 1) := by decide +kernel
theorem dX13_doStep_15 : decode cX13_doStep 15 = .ok (.iand, 1) := by decide +kernel
theorem dX13_doStep_16 : decode cX13_doStep 16 = .ok (.ifCond .ne 15, 3) := by decide +kernel
theorem dX13_doStep_31 : decode cX13_doStep 31 = .ok (.aload_n 0, 1) := by decide +kernel
theorem dX13_doStep_32 : decode cX13_doStep 32 = .ok (.iconst 3, 1) := by decide +kernel
theorem dX13_doStep_33 : decode cX13_doStep 33 = .ok (.putfield 636, 3) := by decide +kernel
theorem dX13_doStep_36 : decode cX13_doStep 36 = .ok (.return_, 1) := by decide +kernel
theorem dX13_doStep_19 : decode cX13_doStep 19 = .ok (.aload_n 0, 1) := by decide +kernel
theorem dX13_doStep_20 : decode cX13_doStep 20 = .ok (.aload_n 0, 1) := by decide +kernel
theorem dX13_doStep_21 : decode cX13_doStep 21 = .ok (.getfield 633, 3) := by decide +kernel
theorem dX13_doStep_24 : decode cX13_doStep 24 = .ok (.iconst 4, 1) := by decide +kernel
theorem dX13_doStep_25 : decode cX13_doStep 25 = .ok (.invokevirtual 656, 3) := by decide +kernel
theorem dX13_doStep_28 : decode cX13_doStep 28 = .ok (.ifCond .ne 9, 3) := by decide +kernel
theorem dX13_doStep_37 : decode cX13_doStep 37 = .ok (.aload_n 0, 1) := by decide +kernel
theorem dX13_doStep_38 : decode cX13_doStep 38 = .ok (.getfield 502, 3) := by decide +kernel
theorem dX13_doStep_41 : decode cX13_doStep 41 = .ok (.aload_n 0, 1) := by decide +kernel
theorem dX13_doStep_42 : decode cX13_doStep 42 = .ok (.getfield 633, 3) := by decide +kernel
theorem dX13_doStep_45 : decode cX13_doStep 45 = .ok (.iconst 2, 1) := by decide +kernel
theorem dX13_doStep_46 : decode cX13_doStep 46 = .ok (.ishr, 1) := by decide +kernel
theorem dX13_doStep_47 : decode cX13_doStep 47 = .ok (.iaload, 1) := by decide +kernel
theorem dX13_doStep_48 : decode cX13_doStep 48 = .ok (.istore_n 1, 1) := by decide +kernel
theorem dX13_doStep_49 : decode cX13_doStep 49 = .ok (.iload_n 1, 1) := by decide +kernel
theorem dX13_doStep_50 : decode cX13_doStep 50 = .ok (.bipush 7, 2) := by decide +kernel
theorem dX13_doStep_52 : decode cX13_doStep 52 = .ok (.ishr, 1) := by decide +kernel
theorem dX13_doStep_53 : decode cX13_doStep 53 = .ok (.bipush 31, 2) := by decide +kernel
theorem dX13_doStep_55 : decode cX13_doStep 55 = .ok (.iand, 1) := by decide +kernel
theorem dX13_doStep_56 : decode cX13_doStep 56 = .ok (.istore_n 2, 1) := by decide +kernel
theorem dX13_doStep_57 : decode cX13_doStep 57 = .ok (.iload_n 1, 1) := by decide +kernel
theorem dX13_doStep_58 : decode cX13_doStep 58 = .ok (.bipush 12, 2) := by decide +kernel
theorem dX13_doStep_60 : decode cX13_doStep 60 = .ok (.ishr, 1) := by decide +kernel
theorem dX13_doStep_61 : decode cX13_doStep 61 = .ok (.bipush 7, 2) := by decide +kernel
theorem dX13_doStep_63 : decode cX13_doStep 63 = .ok (.iand, 1) := by decide +kernel
theorem dX13_doStep_64 : decode cX13_doStep 64 = .ok (.istore_n 3, 1) := by decide +kernel
theorem dX13_doStep_65 : decode cX13_doStep 65 = .ok (.aload_n 0, 1) := by decide +kernel
theorem dX13_doStep_66 : decode cX13_doStep 66 = .ok (.getfield 570, 3) := by decide +kernel
theorem dX13_doStep_69 : decode cX13_doStep 69 = .ok (.iload_n 1, 1) := by decide +kernel
theorem dX13_doStep_70 : decode cX13_doStep 70 = .ok (.bipush 15, 2) := by decide +kernel
theorem dX13_doStep_72 : decode cX13_doStep 72 = .ok (.ishr, 1) := by decide +kernel
theorem dX13_doStep_73 : decode cX13_doStep 73 = .ok (.bipush 31, 2) := by decide +kernel
theorem dX13_doStep_75 : decode cX13_doStep 75 = .ok (.iand, 1) := by decide +kernel
theorem dX13_doStep_76 : decode cX13_doStep 76 = .ok (.iaload, 1) := by decide +kernel
theorem dX13_doStep_77 : decode cX13_doStep 77 = .ok (.istore 4, 2) := by decide +kernel
theorem dX13_doStep_79 : decode cX13_doStep 79 = .ok (.aload_n 0, 1) := by decide +kernel
theorem dX13_doStep_80 : decode cX13_doStep 80 = .ok (.getfield 570, 3) := by decide +kernel
theorem dX13_doStep_83 : decode cX13_doStep 83 = .ok (.iload_n 1, 1) := by decide +kernel
theorem dX13_doStep_84 : decode cX13_doStep 84 = .ok (.bipush 20, 2) := by decide +kernel
theorem dX13_doStep_86 : decode cX13_doStep 86 = .ok (.ishr, 1) := by decide +kernel
theorem dX13_doStep_87 : decode cX13_doStep 87 = .ok (.bipush 31, 2) := by decide +kernel
theorem dX13_doStep_89 : decode cX13_doStep 89 = .ok (.iand, 1) := by decide +kernel
theorem dX13_doStep_90 : decode cX13_doStep 90 = .ok (.iaload, 1) := by decide +kernel
theorem dX13_doStep_91 : decode cX13_doStep 91 = .ok (.istore 5, 2) := by decide +kernel
theorem dX13_doStep_93 : decode cX13_doStep 93 = .ok (.iload_n 1, 1) := by decide +kernel
theorem dX13_doStep_94 : decode cX13_doStep 94 = .ok (.bipush 127, 2) := by decide +kernel
theorem dX13_doStep_96 : decode cX13_doStep 96 = .ok (.iand, 1) := by decide +kernel
theorem dX13_doStep_97 : decode cX13_doStep 97 = .ok (.lookupswitch 271 #[(3, 182), (15, 246), (19, 220), (23, 104), (35, 199), (51, 232), (55, 91), (99, 169), (103, 139), (111, 122)], 91) := by decide +kernel
theorem dX13_doStep_279 : decode cX13_doStep 279 = .ok (.aload_n 0, 1) := by decide +kernel
theorem dX13_doStep_280 : decode cX13_doStep 280 = .ok (.iload_n 1, 1) := by decide +kernel
theorem dX13_doStep_281 : decode cX13_doStep 281 = .ok (.iload_n 2, 1) := by decide +kernel
theorem dX13_doStep_282 : decode cX13_doStep 282 = .ok (.iload_n 3, 1) := by decide +kernel
theorem dX13_doStep_283 : decode cX13_doStep 283 = .ok (.iload 4, 2) := by decide +kernel
theorem dX13_doStep_285 : decode cX13_doStep 285 = .ok (.iload_n 1, 1) := by decide +kernel
theorem dX13_doStep_286 : decode cX13_doStep 286 = .ok (.bipush 20, 2) := by decide +kernel
theorem dX13_doStep_288 : decode cX13_doStep 288 = .ok (.ishr, 1) := by decide +kernel
theorem dX13_doStep_289 : decode cX13_doStep 289 = .ok (.iadd, 1) := by decide +kernel
theorem dX13_doStep_290 : decode cX13_doStep 290 = .ok (.invokevirtual 672, 3) := by decide +kernel
theorem tw_230 : (.code yX13_reads cX13_reads 8 none : Cond) ∈ tw_W := tw_in (t8_12 (List.mem_of_getElem? (i := 126) rfl)) rfl
theorem tw_231 : ∀ w ∈ ([.methodLink RX13 672 yX13_reads, .instanceMethod yX13_reads, .selects RX13 yX13_reads yX13_reads, .initialized RX13] : List Cond), w ∈ tw_W := al_c (tw_in (t8_12 (List.mem_of_getElem? (i := 123) rfl)) rfl) (al_c (tw_in (t8_12 (List.mem_of_getElem? (i := 125) rfl)) rfl) (al_c (tw_in (t7_12 (q := (yX13_reads, 124)) (List.mem_of_getElem? (i := 6) rfl)) rfl) (al_c (tw_in (t8_1 (List.mem_of_getElem? (i := 23) rfl)) rfl) al_n)))
theorem dX13_doStep_293 : decode cX13_doStep 293 = .ok (.goto 80, 3) := by decide +kernel
theorem dX13_doStep_373 : decode cX13_doStep 373 = .ok (.return_, 1) := by decide +kernel
theorem dX13_doStep_343 : decode cX13_doStep 343 = .ok (.iload_n 3, 1) := by decide +kernel
theorem dX13_doStep_344 : decode cX13_doStep 344 = .ok (.ifCond .eq 11, 3) := by decide +kernel
theorem dX13_doStep_355 : decode cX13_doStep 355 = .ok (.aload_n 0, 1) := by decide +kernel
theorem dX13_doStep_356 : decode cX13_doStep 356 = .ok (.dup, 1) := by decide +kernel
theorem dX13_doStep_357 : decode cX13_doStep 357 = .ok (.getfield 633, 3) := by decide +kernel
theorem dX13_doStep_360 : decode cX13_doStep 360 = .ok (.iconst 4, 1) := by decide +kernel
theorem dX13_doStep_361 : decode cX13_doStep 361 = .ok (.iadd, 1) := by decide +kernel
theorem dX13_doStep_362 : decode cX13_doStep 362 = .ok (.putfield 633, 3) := by decide +kernel
theorem dX13_doStep_365 : decode cX13_doStep 365 = .ok (.goto 8, 3) := by decide +kernel
theorem dX13_doStep_347 : decode cX13_doStep 347 = .ok (.aload_n 0, 1) := by decide +kernel
theorem dX13_doStep_348 : decode cX13_doStep 348 = .ok (.iconst 2, 1) := by decide +kernel
theorem dX13_doStep_349 : decode cX13_doStep 349 = .ok (.putfield 636, 3) := by decide +kernel
theorem dX13_doStep_352 : decode cX13_doStep 352 = .ok (.goto 21, 3) := by decide +kernel
theorem dX13_doStep_317 : decode cX13_doStep 317 = .ok (.aload_n 0, 1) := by decide +kernel
theorem dX13_doStep_318 : decode cX13_doStep 318 = .ok (.iload_n 1, 1) := by decide +kernel
theorem dX13_doStep_319 : decode cX13_doStep 319 = .ok (.iload_n 2, 1) := by decide +kernel
theorem dX13_doStep_320 : decode cX13_doStep 320 = .ok (.iload_n 3, 1) := by decide +kernel
theorem dX13_doStep_321 : decode cX13_doStep 321 = .ok (.iload 4, 2) := by decide +kernel
theorem dX13_doStep_323 : decode cX13_doStep 323 = .ok (.invokevirtual 678, 3) := by decide +kernel
theorem tw_232 : (.code yX13_byNumber cX13_byNumber 8 none : Cond) ∈ tw_W := tw_in (t8_12 (List.mem_of_getElem? (i := 142) rfl)) rfl
theorem tw_233 : ∀ w ∈ ([.methodLink RX13 678 yX13_byNumber, .instanceMethod yX13_byNumber, .selects RX13 yX13_byNumber yX13_byNumber, .initialized RX13] : List Cond), w ∈ tw_W := al_c (tw_in (t8_12 (List.mem_of_getElem? (i := 139) rfl)) rfl) (al_c (tw_in (t8_12 (List.mem_of_getElem? (i := 141) rfl)) rfl) (al_c (tw_in (t7_12 (q := (yX13_byNumber, 124)) (List.mem_of_getElem? (i := 10) rfl)) rfl) (al_c (tw_in (t8_1 (List.mem_of_getElem? (i := 23) rfl)) rfl) al_n)))
theorem dX13_doStep_326 : decode cX13_doStep 326 = .ok (.goto 47, 3) := by decide +kernel
theorem dX13_doStep_201 : decode cX13_doStep 201 = .ok (.aload_n 0, 1) := by decide +kernel
theorem dX13_doStep_202 : decode cX13_doStep 202 = .ok (.iload_n 2, 1) := by decide +kernel
theorem dX13_doStep_203 : decode cX13_doStep 203 = .ok (.aload_n 0, 1) := by decide +kernel
theorem dX13_doStep_204 : decode cX13_doStep 204 = .ok (.getfield 633, 3) := by decide +kernel
theorem dX13_doStep_207 : decode cX13_doStep 207 = .ok (.iload_n 1, 1) := by decide +kernel
theorem dX13_doStep_208 : decode cX13_doStep 208 = .ok (.sipush (-4096), 3) := by decide +kernel
theorem dX13_doStep_211 : decode cX13_doStep 211 = .ok (.iand, 1) := by decide +kernel
theorem dX13_doStep_212 : decode cX13_doStep 212 = .ok (.iadd, 1) := by decide +kernel
theorem dX13_doStep_213 : decode cX13_doStep 213 = .ok (.invokevirtual 659, 3) := by decide +kernel
theorem dX13_doStep_216 : decode cX13_doStep 216 = .ok (.goto 157, 3) := by decide +kernel
theorem dX13_doStep_296 : decode cX13_doStep 296 = .ok (.aload_n 0, 1) := by decide +kernel
theorem dX13_doStep_297 : decode cX13_doStep 297 = .ok (.iload_n 3, 1) := by decide +kernel
theorem dX13_doStep_298 : decode cX13_doStep 298 = .ok (.iload 4, 2) := by decide +kernel
theorem dX13_doStep_300 : decode cX13_doStep 300 = .ok (.iload_n 1, 1) := by decide +kernel
theorem dX13_doStep_301 : decode cX13_doStep 301 = .ok (.bipush 25, 2) := by decide +kernel
theorem dX13_doStep_303 : decode cX13_doStep 303 = .ok (.ishr, 1) := by decide +kernel
theorem dX13_doStep_304 : decode cX13_doStep 304 = .ok (.iconst 5, 1) := by decide +kernel
theorem dX13_doStep_305 : decode cX13_doStep 305 = .ok (.ishl, 1) := by decide +kernel
theorem dX13_doStep_306 : decode cX13_doStep 306 = .ok (.iload_n 2, 1) := by decide +kernel
theorem dX13_doStep_307 : decode cX13_doStep 307 = .ok (.ior, 1) := by decide +kernel
theorem dX13_doStep_308 : decode cX13_doStep 308 = .ok (.iadd, 1) := by decide +kernel
theorem dX13_doStep_309 : decode cX13_doStep 309 = .ok (.iload 5, 2) := by decide +kernel
theorem dX13_doStep_311 : decode cX13_doStep 311 = .ok (.invokevirtual 675, 3) := by decide +kernel
theorem tw_234 : (.code yX13_writes cX13_writes 6 none : Cond) ∈ tw_W := tw_in (t8_12 (List.mem_of_getElem? (i := 134) rfl)) rfl
theorem tw_235 : ∀ w ∈ ([.methodLink RX13 675 yX13_writes, .instanceMethod yX13_writes, .selects RX13 yX13_writes yX13_writes, .initialized RX13] : List Cond), w ∈ tw_W := al_c (tw_in (t8_12 (List.mem_of_getElem? (i := 131) rfl)) rfl) (al_c (tw_in (t8_12 (List.mem_of_getElem? (i := 133) rfl)) rfl) (al_c (tw_in (t7_12 (q := (yX13_writes, 124)) (List.mem_of_getElem? (i := 8) rfl)) rfl) (al_c (tw_in (t8_1 (List.mem_of_getElem? (i := 23) rfl)) rfl) al_n)))
theorem dX13_doStep_314 : decode cX13_doStep 314 = .ok (.goto 59, 3) := by decide +kernel
theorem dX13_doStep_329 : decode cX13_doStep 329 = .ok (.aload_n 0, 1) := by decide +kernel
theorem dX13_doStep_330 : decode cX13_doStep 330 = .ok (.iload_n 1, 1) := by decide +kernel
theorem dX13_doStep_331 : decode cX13_doStep 331 = .ok (.iload_n 2, 1) := by decide +kernel
theorem dX13_doStep_332 : decode cX13_doStep 332 = .ok (.iload_n 3, 1) := by decide +kernel
theorem dX13_doStep_333 : decode cX13_doStep 333 = .ok (.iload 4, 2) := by decide +kernel
theorem dX13_doStep_335 : decode cX13_doStep 335 = .ok (.iload 5, 2) := by decide +kernel
theorem dX13_doStep_337 : decode cX13_doStep 337 = .ok (.invokevirtual 681, 3) := by decide +kernel
theorem tw_236 : (.code yX13_byRegister cX13_byRegister 8 none : Cond) ∈ tw_W := tw_in (t8_12 (List.mem_of_getElem? (i := 149) rfl)) rfl
theorem tw_237 : ∀ w ∈ ([.methodLink RX13 681 yX13_byRegister, .instanceMethod yX13_byRegister, .selects RX13 yX13_byRegister yX13_byRegister, .initialized RX13] : List Cond), w ∈ tw_W := al_c (tw_in (t8_12 (List.mem_of_getElem? (i := 146) rfl)) rfl) (al_c (tw_in (t8_12 (List.mem_of_getElem? (i := 148) rfl)) rfl) (al_c (tw_in (t7_12 (q := (yX13_byRegister, 124)) (List.mem_of_getElem? (i := 11) rfl)) rfl) (al_c (tw_in (t8_1 (List.mem_of_getElem? (i := 23) rfl)) rfl) al_n)))
theorem dX13_doStep_340 : decode cX13_doStep 340 = .ok (.goto 33, 3) := by decide +kernel
theorem dX13_doStep_188 : decode cX13_doStep 188 = .ok (.aload_n 0, 1) := by decide +kernel
theorem dX13_doStep_189 : decode cX13_doStep 189 = .ok (.iload_n 2, 1) := by decide +kernel
theorem dX13_doStep_190 : decode cX13_doStep 190 = .ok (.iload_n 1, 1) := by decide +kernel
theorem dX13_doStep_191 : decode cX13_doStep 191 = .ok (.sipush (-4096), 3) := by decide +kernel
theorem dX13_doStep_194 : decode cX13_doStep 194 = .ok (.iand, 1) := by decide +kernel
theorem dX13_doStep_195 : decode cX13_doStep 195 = .ok (.invokevirtual 659, 3) := by decide +kernel
theorem dX13_doStep_198 : decode cX13_doStep 198 = .ok (.goto 175, 3) := by decide +kernel
theorem dX13_doStep_266 : decode cX13_doStep 266 = .ok (.aload_n 0, 1) := by decide +kernel
theorem dX13_doStep_267 : decode cX13_doStep 267 = .ok (.iload_n 1, 1) := by decide +kernel
theorem dX13_doStep_268 : decode cX13_doStep 268 = .ok (.iload_n 3, 1) := by decide +kernel
theorem dX13_doStep_269 : decode cX13_doStep 269 = .ok (.iload 4, 2) := by decide +kernel
theorem dX13_doStep_271 : decode cX13_doStep 271 = .ok (.iload 5, 2) := by decide +kernel
theorem dX13_doStep_273 : decode cX13_doStep 273 = .ok (.invokevirtual 668, 3) := by decide +kernel
theorem tw_238 : (.code yX13_branches cX13_branches 9 none : Cond) ∈ tw_W := tw_in (t8_12 (List.mem_of_getElem? (i := 118) rfl)) rfl
theorem tw_239 : ∀ w ∈ ([.methodLink RX13 668 yX13_branches, .instanceMethod yX13_branches, .selects RX13 yX13_branches yX13_branches, .initialized RX13] : List Cond), w ∈ tw_W := al_c (tw_in (t8_12 (List.mem_of_getElem? (i := 115) rfl)) rfl) (al_c (tw_in (t8_12 (List.mem_of_getElem? (i := 117) rfl)) rfl) (al_c (tw_in (t7_12 (q := (yX13_branches, 124)) (List.mem_of_getElem? (i := 5) rfl)) rfl) (al_c (tw_in (t8_1 (List.mem_of_getElem? (i := 23) rfl)) rfl) al_n)))
theorem dX13_doStep_276 : decode cX13_doStep 276 = .ok (.goto 97, 3) := by decide +kernel
theorem dX13_doStep_236 : decode cX13_doStep 236 = .ok (.iload_n 3, 1) := by decide +kernel
theorem dX13_doStep_237 : decode cX13_doStep 237 = .ok (.ifCond .eq 11, 3) := by decide +kernel
theorem dX13_doStep_248 : decode cX13_doStep 248 = .ok (.aload_n 0, 1) := by decide +kernel
theorem dX13_doStep_249 : decode cX13_doStep 249 = .ok (.iload_n 2, 1) := by decide +kernel
theorem dX13_doStep_250 : decode cX13_doStep 250 = .ok (.iload 4, 2) := by decide +kernel
theorem dX13_doStep_252 : decode cX13_doStep 252 = .ok (.iload_n 1, 1) := by decide +kernel
theorem dX13_doStep_253 : decode cX13_doStep 253 = .ok (.bipush 20, 2) := by decide +kernel
theorem dX13_doStep_255 : decode cX13_doStep 255 = .ok (.ishr, 1) := by decide +kernel
theorem dX13_doStep_256 : decode cX13_doStep 256 = .ok (.iadd, 1) := by decide +kernel
theorem dX13_doStep_257 : decode cX13_doStep 257 = .ok (.bipush (-2), 2) := by decide +kernel
theorem dX13_doStep_259 : decode cX13_doStep 259 = .ok (.iand, 1) := by decide +kernel
theorem dX13_doStep_260 : decode cX13_doStep 260 = .ok (.invokevirtual 665, 3) := by decide +kernel
theorem tw_240 : (.code yX13_jumps cX13_jumps 3 none : Cond) ∈ tw_W := tw_in (t8_12 (List.mem_of_getElem? (i := 114) rfl)) rfl
theorem tw_241 : ∀ w ∈ ([.methodLink RX13 665 yX13_jumps, .instanceMethod yX13_jumps, .selects RX13 yX13_jumps yX13_jumps, .initialized RX13] : List Cond), w ∈ tw_W := al_c (tw_in (t8_12 (List.mem_of_getElem? (i := 111) rfl)) rfl) (al_c (tw_in (t8_12 (List.mem_of_getElem? (i := 113) rfl)) rfl) (al_c (tw_in (t7_12 (q := (yX13_jumps, 124)) (List.mem_of_getElem? (i := 4) rfl)) rfl) (al_c (tw_in (t8_1 (List.mem_of_getElem? (i := 23) rfl)) rfl) al_n)))
theorem dX13_doStep_263 : decode cX13_doStep 263 = .ok (.goto 110, 3) := by decide +kernel
theorem dX13_doStep_240 : decode cX13_doStep 240 = .ok (.aload_n 0, 1) := by decide +kernel
theorem dX13_doStep_241 : decode cX13_doStep 241 = .ok (.iconst 2, 1) := by decide +kernel
theorem dX13_doStep_242 : decode cX13_doStep 242 = .ok (.putfield 636, 3) := by decide +kernel
theorem dX13_doStep_245 : decode cX13_doStep 245 = .ok (.goto 128, 3) := by decide +kernel
theorem dX13_doStep_219 : decode cX13_doStep 219 = .ok (.aload_n 0, 1) := by decide +kernel
theorem dX13_doStep_220 : decode cX13_doStep 220 = .ok (.iload_n 2, 1) := by decide +kernel
theorem dX13_doStep_221 : decode cX13_doStep 221 = .ok (.aload_n 0, 1) := by decide +kernel
theorem dX13_doStep_222 : decode cX13_doStep 222 = .ok (.getfield 633, 3) := by decide +kernel
theorem dX13_doStep_225 : decode cX13_doStep 225 = .ok (.iload_n 1, 1) := by decide +kernel
theorem dX13_doStep_226 : decode cX13_doStep 226 = .ok (.invokestatic 662, 3) := by decide +kernel
theorem tw_242 : (.code yX13_imJ cX13_imJ 1 (some .int) : Cond) ∈ tw_W := tw_in (t8_12 (List.mem_of_getElem? (i := 110) rfl)) rfl
theorem tw_243 : ∀ w ∈ ([.methodLink RX13 662 yX13_imJ, .static yX13_imJ, .initialized yX13_imJ.cls] : List Cond), w ∈ tw_W := al_c (tw_in (t8_12 (List.mem_of_getElem? (i := 108) rfl)) rfl) (al_c (tw_in (t8_12 (List.mem_of_getElem? (i := 109) rfl)) rfl) (al_c (tw_in (t8_1 (List.mem_of_getElem? (i := 23) rfl)) rfl) al_n))
theorem dX13_doStep_229 : decode cX13_doStep 229 = .ok (.iadd, 1) := by decide +kernel
theorem dX13_doStep_230 : decode cX13_doStep 230 = .ok (.invokevirtual 665, 3) := by decide +kernel
theorem dX13_doStep_233 : decode cX13_doStep 233 = .ok (.goto 140, 3) := by decide +kernel
theorem dX13_doStep_368 : decode cX13_doStep 368 = .ok (.aload_n 0, 1) := by decide +kernel
theorem dX13_doStep_369 : decode cX13_doStep 369 = .ok (.iload_n 1, 1) := by decide +kernel
theorem dX13_doStep_370 : decode cX13_doStep 370 = .ok (.invokevirtual 685, 3) := by decide +kernel
theorem tw_244 : (.code yX13_calls cX13_calls 2 none : Cond) ∈ tw_W := tw_in (t8_12 (List.mem_of_getElem? (i := 153) rfl)) rfl
theorem tw_245 : ∀ w ∈ ([.methodLink RX13 685 yX13_calls, .instanceMethod yX13_calls, .selects RX13 yX13_calls yX13_calls, .initialized RX13] : List Cond), w ∈ tw_W := al_c (tw_in (t8_12 (List.mem_of_getElem? (i := 150) rfl)) rfl) (al_c (tw_in (t8_12 (List.mem_of_getElem? (i := 152) rfl)) rfl) (al_c (tw_in (t7_12 (q := (yX13_calls, 124)) (List.mem_of_getElem? (i := 12) rfl)) rfl) (al_c (tw_in (t8_1 (List.mem_of_getElem? (i := 23) rfl)) rfl) al_n)))
theorem om_c068ca3171 : 0 ≤ (17 : Int) := by omega
theorem om_d44582c2ea : (17 : Int) < 32 := by omega
theorem om_03b12bc10d : 0 ≤ (10 : Int) := by omega
theorem om_39e86adfdf : (10 : Int) < 32 := by omega
theorem om_3eeef40734 {x0 : Int} (h0 : 0 ≤ x0 ∧ x0 ≤ 2000000000) : -2147483648 ≤ (x0) + (1 : Int) := by omega
theorem om_62e6f89c45 {x0 : Int} (h0 : 0 ≤ x0 ∧ x0 ≤ 2000000000) : (x0) + (1 : Int) < 2147483648 := by omega
theorem om_18ed0e1cae {x0 x1 : Int} (h0 : x0 = (x1) + (1 : Int)) : x1 ≤ x0 ∧ x0 ≤ x1 + 1 := by omega
theorem om_360a6008fd {x0 : Int} (h0 : 0 ≤ x0 ∧ x0 ≤ 2000000000) : 0 ≤ x0 := by omega
theorem om_e9ac88ec72 {x0 x1 : Int} (h0 : 0 ≤ x0 ∧ x0 ≤ 64) (h1 : x1 < x0) : x1 < 64 := by omega
theorem om_b65f4561e5 {x0 : Int} (h0 : (200 : Int) ≤ x0) : -2147483648 ≤ (x0) + (1 : Int) := by omega
theorem om_016a4e1642 {x0 : Int} (h0 : x0 = (1 : Int)) (h1 : x0 = (2 : Int)) : False := by omega
theorem om_2a12793f64 {x0 : Int} (h0 : x0 < (200 : Int)) : x0 < 200 := by omega
set_option maxHeartbeats 4000000 in
set_option maxRecDepth 100000 in
theorem c_m_calls (l : Launch) (dC : Nat → ClassId) (dI : Nat → Nat → Nat) (cI cB cZ cJ cR : ClassId) (tb : Nat → Nat) (sz : Nat) (ad : Nat → Nat) (N : Nat) (v : MS) (pa : Int32) (zg : 0 ≤ (v.1 0 94).toInt ∧ (v.1 0 94).toInt ≤ 64) (zu : 0 ≤ (v.1 0 95).toInt ∧ (v.1 0 95).toInt ≤ 2000000000) (zp : 0 ≤ (v.1 0 102).toInt ∧ (v.1 0 102).toInt ≤ 2000000000) : Met l yX13_calls (Cond.code yX13_calls cX13_calls 2 none :: tw_W) ({ frames := 0, cells := 0, slots := 0, locals := 0 }) (pc_ (dC, dI) (tyS cI cB cZ cJ cR) tb (mW ad N cI cZ cJ v) sz [.ref (ad 0), .int pa]) (qv_ (dC, dI) (mW ad N cI cZ cJ v) sz (fun (u : MS) => FG [95, 98, 99, 102] [0, 97, 101] v u ∧ ((v.1 0 95).toInt ≤ (u.1 0 95).toInt ∧ (u.1 0 95).toInt ≤ (v.1 0 95).toInt + 1) ∧ ((v.1 0 102).toInt ≤ (u.1 0 102).toInt ∧ (u.1 0 102).toInt ≤ (v.1 0 102).toInt + 1)) (fun (u : MS) => (mW ad N cI cZ cJ u))) 0 0 (va_A (mW ad N cI cZ cJ v) sz) := by
  refine Met.ofW (cc := cX13_calls) (maxL := 2) (ret := none) (by decide) rfl ?_
  intro p e s m args below meth c s₁ B hml hv
  obtain ⟨rfl, hsz, hP, hKK, hD0, hFx⟩ := hv
  have hK := hKK.1
  have hx := B.exec
  have hb := B.bytes
  have hr := B.returns
  have ht : ∀ w ∈ tw_W, w.before _ s = true := fun w h => atoms_spec (ws := Cond.code yX13_calls cX13_calls 2 none :: tw_W) B.pre w (List.mem_cons_of_mem _ h)
  have hown : s.vm.findClass RX13 = some m.cls := findClass_of_methodNamed B.named
  have hlocks := B.notSynchronized
  subst hsz
  unfold qv_
  have hD := hD0.self (sz := s.heap.size)
  generalize hAe : va_A (mW ad N cI cZ cJ v) s.heap.size = A at hD hFx ⊢
  have hA : ∀ q : Nat, s.heap.size ≤ q → A q := fun q h => by rw [← hAe]; exact Or.inr h
  have hS : va_S A s.heap s.heap [] := va_S.rf
  have hl := lv_entry ([.ref (ad 0), .int pa]) (n := 2) (Nat.le_of_ble_eq_true rfl)
  rw [lg_entry_eq]
  generalize (lg_sl ([.ref (ad 0), .int pa]) ++ List.replicate (2 - (lg_sl ([.ref (ad 0), .int pa])).length) Slot.unset).toArray = ls at hl ⊢
  have hl : lv_has ls 2 [(0, .ref (ad 0)), (1, .int pa)] := hl
  refine lv_iload_n hx hb dX13_calls_0 rfl (lv_at hl 1 rfl) ?_
  refine lv_ldcw (v := 1048691) hx hb hown (ht _ tw_87) dX13_calls_1 ?_
  refine lv_icmp_ne (tgt := 15) hx hb dX13_calls_4 (by decide) (fun h1 => ?_) (fun h1 => ?_)
  · have z2 : pa.toInt ≠ (1048691 : Int) := ne_z rfl (show (1048691 : Int32).toInt = (1048691 : Int) by decide) h1
    refine lv_iload_n hx hb dX13_calls_15 rfl (lv_at hl 1 rfl) ?_
    refine lv_bipush (v := 115) hx hb dX13_calls_16 (by decide) ?_
    refine lv_icmp_ne (tgt := 133) hx hb dX13_calls_18 (by decide) (fun h3 => ?_) (fun h3 => ?_)
    · have z4 : pa.toInt ≠ (115 : Int) := ne_z rfl (show (115 : Int32).toInt = (115 : Int) by decide) h3
      refine lv_aload_n hx hb dX13_calls_133 rfl (lv_at hl 0 rfl) ?_
      refine lv_iconst (v := 2) hx hb dX13_calls_134 (by decide) ?_
      refine va_put (D := (dC, dI)) (ci := 16) (fs := mF ad v) (v := .int 2) (ty := .int) (C := RX13) (T := TX13) (N := 124) hx hb ht itX13 tyX13 tyX13_ok nmX13 hown hK hP hD hS 0 rfl rfl 99 (by decide) (ht _ tw_210) (fun _ h9 => h9) rfl (by decide +kernel) rfl rfl (Nat.le_of_ble_eq_true rfl) dX13_calls_135 (fun H locs hP hD hS => ?_)
      have hP := cP_ (mw_99 ad N cI cZ cJ v 2) hP
      have hD := cD_ (mw_99 ad N cI cZ cJ v 2) hD
      exact W.vret hx hb hr (fun t ht9 hW => ⟨⟨(wA v 0 99 2), rfl, ⟨(FG.f (FG.rf _) 2 (by decide)), (show (v.1 0 95).toInt ≤ (v.1 0 95).toInt ∧ (v.1 0 95).toInt ≤ (v.1 0 95).toInt + 1 from om_b79dd2a91d), (show (v.1 0 102).toInt ≤ (v.1 0 102).toInt ∧ (v.1 0 102).toInt ≤ (v.1 0 102).toInt + 1 from om_b79dd2a91d)⟩, by rw [ht9]; exact hP, hD⟩, hS.F ht9⟩) hS.2.2 dX13_calls_138
    · have z5 : pa.toInt = (115 : Int) := eq_z rfl (show (115 : Int32).toInt = (115 : Int) by decide) h3
      refine lv_aload_n hx hb dX13_calls_21 rfl (lv_at hl 0 rfl) ?_
      refine va_get (D := (dC, dI)) (ci := 16) (fs := mF ad v) (v := .ref (ad 97)) (C := RX13) (T := TX13) (N := 124) hx hb ht itX13 hown hK hP 0 rfl rfl 97 (by decide) (ht _ tw_209) (fun _ h9 => h9) rfl dX13_calls_22 ?_
      refine lv_bipush (v := 17) hx hb dX13_calls_25 (by decide) ?_
      refine va_iald (D := (dC, dI)) (f := (v.1 97)) hx hb hK hP 53 0 rfl rfl (in_y (a := (17 : Int)) (b := 32) (show (17 : Int32).toInt = (17 : Int) by decide) om_c068ca3171 om_d44582c2ea rfl) dX13_calls_27 ?_
      refine lv_iconst (v := 1) hx hb dX13_calls_28 (by decide) ?_
      refine lv_icmp_ne (tgt := 68) hx hb dX13_calls_29 (by decide) (fun h6 => ?_) (fun h6 => ?_)
      · have z7 : ((v.1 97) 17).toInt ≠ (1 : Int) := ne_z rfl (show (1 : Int32).toInt = (1 : Int) by decide) h6
        refine lv_aload_n hx hb dX13_calls_68 rfl (lv_at hl 0 rfl) ?_
        refine va_get (D := (dC, dI)) (ci := 16) (fs := mF ad v) (v := .ref (ad 97)) (C := RX13) (T := TX13) (N := 124) hx hb ht itX13 hown hK hP 0 rfl rfl 97 (by decide) (ht _ tw_209) (fun _ h9 => h9) rfl dX13_calls_69 ?_
        refine lv_bipush (v := 17) hx hb dX13_calls_72 (by decide) ?_
        refine va_iald (D := (dC, dI)) (f := (v.1 97)) hx hb hK hP 53 0 rfl rfl (in_y (a := (17 : Int)) (b := 32) (show (17 : Int32).toInt = (17 : Int) by decide) om_c068ca3171 om_d44582c2ea rfl) dX13_calls_74 ?_
        refine lv_iconst (v := 2) hx hb dX13_calls_75 (by decide) ?_
        refine lv_icmp_ne (tgt := 120) hx hb dX13_calls_76 (by decide) (fun h8 => ?_) (fun h8 => ?_)
        · have z9 : ((v.1 97) 17).toInt ≠ (2 : Int) := ne_z rfl (show (2 : Int32).toInt = (2 : Int) by decide) h8
          refine lv_aload_n hx hb dX13_calls_120 rfl (lv_at hl 0 rfl) ?_
          refine lv_dup hx hb dX13_calls_121 rfl ?_
          refine va_get (D := (dC, dI)) (ci := 16) (fs := mF ad v) (v := .int (v.1 0 98)) (C := RX13) (T := TX13) (N := 124) hx hb ht itX13 hown hK hP 0 rfl rfl 98 (by decide) (ht _ tw_208) (fun _ h9 => h9) rfl dX13_calls_122 ?_
          refine lv_iconst (v := 4) hx hb dX13_calls_125 (by decide) ?_
          refine lv_iadd hx hb dX13_calls_126 ?_
          refine va_put (D := (dC, dI)) (ci := 16) (fs := mF ad v) (v := .int ((v.1 0 98) + (4 : Int32))) (ty := .int) (C := RX13) (T := TX13) (N := 124) hx hb ht itX13 tyX13 tyX13_ok nmX13 hown hK hP hD hS 0 rfl rfl 98 (by decide) (ht _ tw_208) (fun _ h9 => h9) rfl (by decide +kernel) rfl rfl (Nat.le_of_ble_eq_true rfl) dX13_calls_127 (fun H locs hP hD hS => ?_)
          have hP := cP_ (mw_98 ad N cI cZ cJ v ((v.1 0 98) + (4 : Int32))) hP
          have hD := cD_ (mw_98 ad N cI cZ cJ v ((v.1 0 98) + (4 : Int32))) hD
          refine lv_goto (tgt := 138) hx hb dX13_calls_130 (by decide) ?_
          exact W.vret hx hb hr (fun t ht9 hW => ⟨⟨(wA v 0 98 ((v.1 0 98) + (4 : Int32))), rfl, ⟨(FG.f (FG.rf _) ((v.1 0 98) + (4 : Int32)) (by decide)), (show (v.1 0 95).toInt ≤ (v.1 0 95).toInt ∧ (v.1 0 95).toInt ≤ (v.1 0 95).toInt + 1 from om_b79dd2a91d), (show (v.1 0 102).toInt ≤ (v.1 0 102).toInt ∧ (v.1 0 102).toInt ≤ (v.1 0 102).toInt + 1 from om_b79dd2a91d)⟩, by rw [ht9]; exact hP, hD⟩, hS.F ht9⟩) hS.2.2 dX13_calls_138
        · have z10 : ((v.1 97) 17).toInt = (2 : Int) := eq_z rfl (show (2 : Int32).toInt = (2 : Int) by decide) h8
          refine lv_aload_n hx hb dX13_calls_79 rfl (lv_at hl 0 rfl) ?_
          refine va_get (D := (dC, dI)) (ci := 16) (fs := mF ad v) (v := .ref (ad 97)) (C := RX13) (T := TX13) (N := 124) hx hb ht itX13 hown hK hP 0 rfl rfl 97 (by decide) (ht _ tw_209) (fun _ h9 => h9) rfl dX13_calls_80 ?_
          refine lv_bipush (v := 10) hx hb dX13_calls_83 (by decide) ?_
          refine lv_aload_n hx hb dX13_calls_85 rfl (lv_at hl 0 rfl) ?_
          refine va_get (D := (dC, dI)) (ci := 16) (fs := mF ad v) (v := .int (v.1 0 95)) (C := RX13) (T := TX13) (N := 124) hx hb ht itX13 hown hK hP 0 rfl rfl 95 (by decide) (ht _ tw_224) (fun _ h9 => h9) rfl dX13_calls_86 ?_
          refine lv_aload_n hx hb dX13_calls_89 rfl (lv_at hl 0 rfl) ?_
          refine va_get (D := (dC, dI)) (ci := 16) (fs := mF ad v) (v := .int (v.1 0 94)) (C := RX13) (T := TX13) (N := 124) hx hb ht itX13 hown hK hP 0 rfl rfl 94 (by decide) (ht _ tw_225) (fun _ h9 => h9) rfl dX13_calls_90 ?_
          refine lv_icmp_ge (tgt := 108) hx hb dX13_calls_93 (by decide) (fun h11 => ?_) (fun h11 => ?_)
          · have z12 : (v.1 0 94).toInt ≤ (v.1 0 95).toInt := le_z rfl rfl h11
            refine lv_iconst (v := 0) hx hb dX13_calls_108 (by decide) ?_
            refine va_iast (D := (dC, dI)) (f := (v.1 97)) hx hb hK hP hD hS 53 0 rfl rfl (in_y (a := (10 : Int)) (b := 32) (show (10 : Int32).toInt = (10 : Int) by decide) om_03b12bc10d om_39e86adfdf rfl) dX13_calls_109 (fun H locs hP hD hS => ?_)
            have hP := cP_ (ma_97 ad N cI cZ cJ v 10 0) hP
            have hD := cD_ (ma_97 ad N cI cZ cJ v 10 0) hD
            refine lv_aload_n hx hb dX13_calls_110 rfl (lv_at hl 0 rfl) ?_
            refine lv_dup hx hb dX13_calls_111 rfl ?_
            refine va_get (D := (dC, dI)) (ci := 16) (fs := mF ad (wA v 97 10 0)) (v := .int (v.1 0 95)) (C := RX13) (T := TX13) (N := 124) hx hb ht itX13 hown hK hP 0 rfl rfl 95 (by decide) (ht _ tw_224) (fun _ h9 => h9) rfl dX13_calls_112 ?_
            refine lv_iconst (v := 1) hx hb dX13_calls_115 (by decide) ?_
            refine lv_iadd hx hb dX13_calls_116 ?_
            have z13 : ((v.1 0 95) + (1 : Int32)).toInt = ((v.1 0 95).toInt) + (1 : Int) := add_z rfl (show (1 : Int32).toInt = (1 : Int) by decide) (om_3eeef40734 zu) (om_62e6f89c45 zu)
            refine va_put (D := (dC, dI)) (ci := 16) (fs := mF ad (wA v 97 10 0)) (v := .int ((v.1 0 95) + (1 : Int32))) (ty := .int) (C := RX13) (T := TX13) (N := 124) hx hb ht itX13 tyX13 tyX13_ok nmX13 hown hK hP hD hS 0 rfl rfl 95 (by decide) (ht _ tw_224) (fun _ h9 => h9) rfl (by decide +kernel) rfl rfl (Nat.le_of_ble_eq_true rfl) dX13_calls_117 (fun H locs hP hD hS => ?_)
            have hP := cP_ (mw_95 ad N cI cZ cJ (wA v 97 10 0) ((v.1 0 95) + (1 : Int32))) hP
            have hD := cD_ (mw_95 ad N cI cZ cJ (wA v 97 10 0) ((v.1 0 95) + (1 : Int32))) hD
            refine lv_aload_n hx hb dX13_calls_120 rfl (lv_at hl 0 rfl) ?_
            refine lv_dup hx hb dX13_calls_121 rfl ?_
            refine va_get (D := (dC, dI)) (ci := 16) (fs := mF ad (wA (wA v 97 10 0) 0 95 ((v.1 0 95) + (1 : Int32)))) (v := .int (v.1 0 98)) (C := RX13) (T := TX13) (N := 124) hx hb ht itX13 hown hK hP 0 rfl rfl 98 (by decide) (ht _ tw_208) (fun _ h9 => h9) rfl dX13_calls_122 ?_
            refine lv_iconst (v := 4) hx hb dX13_calls_125 (by decide) ?_
            refine lv_iadd hx hb dX13_calls_126 ?_
            refine va_put (D := (dC, dI)) (ci := 16) (fs := mF ad (wA (wA v 97 10 0) 0 95 ((v.1 0 95) + (1 : Int32)))) (v := .int ((v.1 0 98) + (4 : Int32))) (ty := .int) (C := RX13) (T := TX13) (N := 124) hx hb ht itX13 tyX13 tyX13_ok nmX13 hown hK hP hD hS 0 rfl rfl 98 (by decide) (ht _ tw_208) (fun _ h9 => h9) rfl (by decide +kernel) rfl rfl (Nat.le_of_ble_eq_true rfl) dX13_calls_127 (fun H locs hP hD hS => ?_)
            have hP := cP_ (mw_98 ad N cI cZ cJ (wA (wA v 97 10 0) 0 95 ((v.1 0 95) + (1 : Int32))) ((v.1 0 98) + (4 : Int32))) hP
            have hD := cD_ (mw_98 ad N cI cZ cJ (wA (wA v 97 10 0) 0 95 ((v.1 0 95) + (1 : Int32))) ((v.1 0 98) + (4 : Int32))) hD
            refine lv_goto (tgt := 138) hx hb dX13_calls_130 (by decide) ?_
            exact W.vret hx hb hr (fun t ht9 hW => ⟨⟨(wA (wA (wA v 97 10 0) 0 95 ((v.1 0 95) + (1 : Int32))) 0 98 ((v.1 0 98) + (4 : Int32))), rfl, ⟨(FG.f (FG.f (FG.a (FG.rf _) 10 0 (by decide) (by decide)) ((v.1 0 95) + (1 : Int32)) (by decide)) ((v.1 0 98) + (4 : Int32)) (by decide)), (show (v.1 0 95).toInt ≤ ((v.1 0 95) + (1 : Int32)).toInt ∧ ((v.1 0 95) + (1 : Int32)).toInt ≤ (v.1 0 95).toInt + 1 from (om_18ed0e1cae z13)), (show (v.1 0 102).toInt ≤ (v.1 0 102).toInt ∧ (v.1 0 102).toInt ≤ (v.1 0 102).toInt + 1 from om_b79dd2a91d)⟩, by rw [ht9]; exact hP, hD⟩, hS.F ht9⟩) hS.2.2 dX13_calls_138
          · have z14 : (v.1 0 95).toInt < (v.1 0 94).toInt := nle_z rfl rfl h11
            refine lv_aload_n hx hb dX13_calls_96 rfl (lv_at hl 0 rfl) ?_
            refine va_get (D := (dC, dI)) (ci := 16) (fs := mF ad v) (v := .ref (ad 93)) (C := RX13) (T := TX13) (N := 124) hx hb ht itX13 hown hK hP 0 rfl rfl 93 (by decide) (ht _ tw_226) (fun _ h9 => h9) rfl dX13_calls_97 ?_
            refine lv_aload_n hx hb dX13_calls_100 rfl (lv_at hl 0 rfl) ?_
            refine va_get (D := (dC, dI)) (ci := 16) (fs := mF ad v) (v := .int (v.1 0 95)) (C := RX13) (T := TX13) (N := 124) hx hb ht itX13 hown hK hP 0 rfl rfl 95 (by decide) (ht _ tw_224) (fun _ h9 => h9) rfl dX13_calls_101 ?_
            refine va_iald (D := (dC, dI)) (f := (v.1 93)) hx hb hK hP 51 0 rfl rfl (in_y (a := (v.1 0 95).toInt) (b := 64) rfl (om_360a6008fd zu) (om_e9ac88ec72 zg z14) rfl) dX13_calls_104 ?_
            refine lv_goto (tgt := 109) hx hb dX13_calls_105 (by decide) ?_
            refine va_iast (D := (dC, dI)) (f := (v.1 97)) hx hb hK hP hD hS 53 0 rfl rfl (in_y (a := (10 : Int)) (b := 32) (show (10 : Int32).toInt = (10 : Int) by decide) om_03b12bc10d om_39e86adfdf rfl) dX13_calls_109 (fun H locs hP hD hS => ?_)
            have hP := cP_ (ma_97 ad N cI cZ cJ v 10 ((v.1 93) (v.1 0 95).toNatClampNeg)) hP
            have hD := cD_ (ma_97 ad N cI cZ cJ v 10 ((v.1 93) (v.1 0 95).toNatClampNeg)) hD
            refine lv_aload_n hx hb dX13_calls_110 rfl (lv_at hl 0 rfl) ?_
            refine lv_dup hx hb dX13_calls_111 rfl ?_
            refine va_get (D := (dC, dI)) (ci := 16) (fs := mF ad (wA v 97 10 ((v.1 93) (v.1 0 95).toNatClampNeg))) (v := .int (v.1 0 95)) (C := RX13) (T := TX13) (N := 124) hx hb ht itX13 hown hK hP 0 rfl rfl 95 (by decide) (ht _ tw_224) (fun _ h9 => h9) rfl dX13_calls_112 ?_
            refine lv_iconst (v := 1) hx hb dX13_calls_115 (by decide) ?_
            refine lv_iadd hx hb dX13_calls_116 ?_
            have z15 : ((v.1 0 95) + (1 : Int32)).toInt = ((v.1 0 95).toInt) + (1 : Int) := add_z rfl (show (1 : Int32).toInt = (1 : Int) by decide) (om_3eeef40734 zu) (om_62e6f89c45 zu)
            refine va_put (D := (dC, dI)) (ci := 16) (fs := mF ad (wA v 97 10 ((v.1 93) (v.1 0 95).toNatClampNeg))) (v := .int ((v.1 0 95) + (1 : Int32))) (ty := .int) (C := RX13) (T := TX13) (N := 124) hx hb ht itX13 tyX13 tyX13_ok nmX13 hown hK hP hD hS 0 rfl rfl 95 (by decide) (ht _ tw_224) (fun _ h9 => h9) rfl (by decide +kernel) rfl rfl (Nat.le_of_ble_eq_true rfl) dX13_calls_117 (fun H locs hP hD hS => ?_)
            have hP := cP_ (mw_95 ad N cI cZ cJ (wA v 97 10 ((v.1 93) (v.1 0 95).toNatClampNeg)) ((v.1 0 95) + (1 : Int32))) hP
            have hD := cD_ (mw_95 ad N cI cZ cJ (wA v 97 10 ((v.1 93) (v.1 0 95).toNatClampNeg)) ((v.1 0 95) + (1 : Int32))) hD
            refine lv_aload_n hx hb dX13_calls_120 rfl (lv_at hl 0 rfl) ?_
            refine lv_dup hx hb dX13_calls_121 rfl ?_
            refine va_get (D := (dC, dI)) (ci := 16) (fs := mF ad (wA (wA v 97 10 ((v.1 93) (v.1 0 95).toNatClampNeg)) 0 95 ((v.1 0 95) + (1 : Int32)))) (v := .int (v.1 0 98)) (C := RX13) (T := TX13) (N := 124) hx hb ht itX13 hown hK hP 0 rfl rfl 98 (by decide) (ht _ tw_208) (fun _ h9 => h9) rfl dX13_calls_122 ?_
            refine lv_iconst (v := 4) hx hb dX13_calls_125 (by decide) ?_
            refine lv_iadd hx hb dX13_calls_126 ?_
            refine va_put (D := (dC, dI)) (ci := 16) (fs := mF ad (wA (wA v 97 10 ((v.1 93) (v.1 0 95).toNatClampNeg)) 0 95 ((v.1 0 95) + (1 : Int32)))) (v := .int ((v.1 0 98) + (4 : Int32))) (ty := .int) (C := RX13) (T := TX13) (N := 124) hx hb ht itX13 tyX13 tyX13_ok nmX13 hown hK hP hD hS 0 rfl rfl 98 (by decide) (ht _ tw_208) (fun _ h9 => h9) rfl (by decide +kernel) rfl rfl (Nat.le_of_ble_eq_true rfl) dX13_calls_127 (fun H locs hP hD hS => ?_)
            have hP := cP_ (mw_98 ad N cI cZ cJ (wA (wA v 97 10 ((v.1 93) (v.1 0 95).toNatClampNeg)) 0 95 ((v.1 0 95) + (1 : Int32))) ((v.1 0 98) + (4 : Int32))) hP
            have hD := cD_ (mw_98 ad N cI cZ cJ (wA (wA v 97 10 ((v.1 93) (v.1 0 95).toNatClampNeg)) 0 95 ((v.1 0 95) + (1 : Int32))) ((v.1 0 98) + (4 : Int32))) hD
            refine lv_goto (tgt := 138) hx hb dX13_calls_130 (by decide) ?_
            exact W.vret hx hb hr (fun t ht9 hW => ⟨⟨(wA (wA (wA v 97 10 ((v.1 93) (v.1 0 95).toNatClampNeg)) 0 95 ((v.1 0 95) + (1 : Int32))) 0 98 ((v.1 0 98) + (4 : Int32))), rfl, ⟨(FG.f (FG.f (FG.a (FG.rf _) 10 ((v.1 93) (v.1 0 95).toNatClampNeg) (by decide) (by decide)) ((v.1 0 95) + (1 : Int32)) (by decide)) ((v.1 0 98) + (4 : Int32)) (by decide)), (show (v.1 0 95).toInt ≤ ((v.1 0 95) + (1 : Int32)).toInt ∧ ((v.1 0 95) + (1 : Int32)).toInt ≤ (v.1 0 95).toInt + 1 from (om_18ed0e1cae z15)), (show (v.1 0 102).toInt ≤ (v.1 0 102).toInt ∧ (v.1 0 102).toInt ≤ (v.1 0 102).toInt + 1 from om_b79dd2a91d)⟩, by rw [ht9]; exact hP, hD⟩, hS.F ht9⟩) hS.2.2 dX13_calls_138
      · have z16 : ((v.1 97) 17).toInt = (1 : Int) := eq_z rfl (show (1 : Int32).toInt = (1 : Int) by decide) h6
        refine lv_aload_n hx hb dX13_calls_32 rfl (lv_at hl 0 rfl) ?_
        refine va_get (D := (dC, dI)) (ci := 16) (fs := mF ad v) (v := .int (v.1 0 102)) (C := RX13) (T := TX13) (N := 124) hx hb ht itX13 hown hK hP 0 rfl rfl 102 (by decide) (ht _ tw_227) (fun _ h9 => h9) rfl dX13_calls_33 ?_
        refine lv_sipush (v := 200) hx hb dX13_calls_36 (by decide) ?_
        refine lv_icmp_ge (tgt := 58) hx hb dX13_calls_39 (by decide) (fun h17 => ?_) (fun h17 => ?_)
        · have z18 : (200 : Int) ≤ (v.1 0 102).toInt := le_z (show (200 : Int32).toInt = (200 : Int) by decide) rfl h17
          refine lv_aload_n hx hb dX13_calls_58 rfl (lv_at hl 0 rfl) ?_
          refine lv_dup hx hb dX13_calls_59 rfl ?_
          refine va_get (D := (dC, dI)) (ci := 16) (fs := mF ad v) (v := .int (v.1 0 102)) (C := RX13) (T := TX13) (N := 124) hx hb ht itX13 hown hK hP 0 rfl rfl 102 (by decide) (ht _ tw_227) (fun _ h9 => h9) rfl dX13_calls_60 ?_
          refine lv_iconst (v := 1) hx hb dX13_calls_63 (by decide) ?_
          refine lv_iadd hx hb dX13_calls_64 ?_
          have z19 : ((v.1 0 102) + (1 : Int32)).toInt = ((v.1 0 102).toInt) + (1 : Int) := add_z rfl (show (1 : Int32).toInt = (1 : Int) by decide) (om_b65f4561e5 z18) (om_62e6f89c45 zp)
          refine va_put (D := (dC, dI)) (ci := 16) (fs := mF ad v) (v := .int ((v.1 0 102) + (1 : Int32))) (ty := .int) (C := RX13) (T := TX13) (N := 124) hx hb ht itX13 tyX13 tyX13_ok nmX13 hown hK hP hD hS 0 rfl rfl 102 (by decide) (ht _ tw_227) (fun _ h9 => h9) rfl (by decide +kernel) rfl rfl (Nat.le_of_ble_eq_true rfl) dX13_calls_65 (fun H locs hP hD hS => ?_)
          have hP := cP_ (mw_102 ad N cI cZ cJ v ((v.1 0 102) + (1 : Int32))) hP
          have hD := cD_ (mw_102 ad N cI cZ cJ v ((v.1 0 102) + (1 : Int32))) hD
          refine lv_aload_n hx hb dX13_calls_68 rfl (lv_at hl 0 rfl) ?_
          refine va_get (D := (dC, dI)) (ci := 16) (fs := mF ad (wA v 0 102 ((v.1 0 102) + (1 : Int32)))) (v := .ref (ad 97)) (C := RX13) (T := TX13) (N := 124) hx hb ht itX13 hown hK hP 0 rfl rfl 97 (by decide) (ht _ tw_209) (fun _ h9 => h9) rfl dX13_calls_69 ?_
          refine lv_bipush (v := 17) hx hb dX13_calls_72 (by decide) ?_
          refine va_iald (D := (dC, dI)) (f := (v.1 97)) hx hb hK hP 53 0 rfl rfl (in_y (a := (17 : Int)) (b := 32) (show (17 : Int32).toInt = (17 : Int) by decide) om_c068ca3171 om_d44582c2ea rfl) dX13_calls_74 ?_
          refine lv_iconst (v := 2) hx hb dX13_calls_75 (by decide) ?_
          refine lv_icmp_ne (tgt := 120) hx hb dX13_calls_76 (by decide) (fun h20 => ?_) (fun h20 => ?_)
          · have z21 : ((v.1 97) 17).toInt ≠ (2 : Int) := ne_z rfl (show (2 : Int32).toInt = (2 : Int) by decide) h20
            refine lv_aload_n hx hb dX13_calls_120 rfl (lv_at hl 0 rfl) ?_
            refine lv_dup hx hb dX13_calls_121 rfl ?_
            refine va_get (D := (dC, dI)) (ci := 16) (fs := mF ad (wA v 0 102 ((v.1 0 102) + (1 : Int32)))) (v := .int (v.1 0 98)) (C := RX13) (T := TX13) (N := 124) hx hb ht itX13 hown hK hP 0 rfl rfl 98 (by decide) (ht _ tw_208) (fun _ h9 => h9) rfl dX13_calls_122 ?_
            refine lv_iconst (v := 4) hx hb dX13_calls_125 (by decide) ?_
            refine lv_iadd hx hb dX13_calls_126 ?_
            refine va_put (D := (dC, dI)) (ci := 16) (fs := mF ad (wA v 0 102 ((v.1 0 102) + (1 : Int32)))) (v := .int ((v.1 0 98) + (4 : Int32))) (ty := .int) (C := RX13) (T := TX13) (N := 124) hx hb ht itX13 tyX13 tyX13_ok nmX13 hown hK hP hD hS 0 rfl rfl 98 (by decide) (ht _ tw_208) (fun _ h9 => h9) rfl (by decide +kernel) rfl rfl (Nat.le_of_ble_eq_true rfl) dX13_calls_127 (fun H locs hP hD hS => ?_)
            have hP := cP_ (mw_98 ad N cI cZ cJ (wA v 0 102 ((v.1 0 102) + (1 : Int32))) ((v.1 0 98) + (4 : Int32))) hP
            have hD := cD_ (mw_98 ad N cI cZ cJ (wA v 0 102 ((v.1 0 102) + (1 : Int32))) ((v.1 0 98) + (4 : Int32))) hD
            refine lv_goto (tgt := 138) hx hb dX13_calls_130 (by decide) ?_
            exact W.vret hx hb hr (fun t ht9 hW => ⟨⟨(wA (wA v 0 102 ((v.1 0 102) + (1 : Int32))) 0 98 ((v.1 0 98) + (4 : Int32))), rfl, ⟨(FG.f (FG.f (FG.rf _) ((v.1 0 102) + (1 : Int32)) (by decide)) ((v.1 0 98) + (4 : Int32)) (by decide)), (show (v.1 0 95).toInt ≤ (v.1 0 95).toInt ∧ (v.1 0 95).toInt ≤ (v.1 0 95).toInt + 1 from om_b79dd2a91d), (show (v.1 0 102).toInt ≤ ((v.1 0 102) + (1 : Int32)).toInt ∧ ((v.1 0 102) + (1 : Int32)).toInt ≤ (v.1 0 102).toInt + 1 from (om_18ed0e1cae z19))⟩, by rw [ht9]; exact hP, hD⟩, hS.F ht9⟩) hS.2.2 dX13_calls_138
          · have z22 : ((v.1 97) 17).toInt = (2 : Int) := eq_z rfl (show (2 : Int32).toInt = (2 : Int) by decide) h20
            exact False.elim (om_016a4e1642 z16 z22)
        · have z23 : (v.1 0 102).toInt < (200 : Int) := nle_z (show (200 : Int32).toInt = (200 : Int) by decide) rfl h17
          refine lv_aload_n hx hb dX13_calls_42 rfl (lv_at hl 0 rfl) ?_
          refine va_get (D := (dC, dI)) (ci := 16) (fs := mF ad v) (v := .ref (ad 101)) (C := RX13) (T := TX13) (N := 124) hx hb ht itX13 hown hK hP 0 rfl rfl 101 (by decide) (ht _ tw_228) (fun _ h9 => h9) rfl dX13_calls_43 ?_
          refine lv_aload_n hx hb dX13_calls_46 rfl (lv_at hl 0 rfl) ?_
          refine va_get (D := (dC, dI)) (ci := 16) (fs := mF ad v) (v := .int (v.1 0 102)) (C := RX13) (T := TX13) (N := 124) hx hb ht itX13 hown hK hP 0 rfl rfl 102 (by decide) (ht _ tw_227) (fun _ h9 => h9) rfl dX13_calls_47 ?_
          refine lv_aload_n hx hb dX13_calls_50 rfl (lv_at hl 0 rfl) ?_
          refine va_get (D := (dC, dI)) (ci := 16) (fs := mF ad v) (v := .ref (ad 97)) (C := RX13) (T := TX13) (N := 124) hx hb ht itX13 hown hK hP 0 rfl rfl 97 (by decide) (ht _ tw_209) (fun _ h9 => h9) rfl dX13_calls_51 ?_
          refine lv_bipush (v := 10) hx hb dX13_calls_54 (by decide) ?_
          refine va_iald (D := (dC, dI)) (f := (v.1 97)) hx hb hK hP 53 0 rfl rfl (in_y (a := (10 : Int)) (b := 32) (show (10 : Int32).toInt = (10 : Int) by decide) om_03b12bc10d om_39e86adfdf rfl) dX13_calls_56 ?_
          refine va_iast (D := (dC, dI)) (f := (v.1 101)) hx hb hK hP hD hS 54 0 rfl rfl (in_y (a := (v.1 0 102).toInt) (b := 200) rfl (om_360a6008fd zp) (om_2a12793f64 z23) rfl) dX13_calls_57 (fun H locs hP hD hS => ?_)
          have hP := cP_ (ma_101 ad N cI cZ cJ v ((v.1 0 102).toNatClampNeg) ((v.1 97) 10)) hP
          have hD := cD_ (ma_101 ad N cI cZ cJ v ((v.1 0 102).toNatClampNeg) ((v.1 97) 10)) hD
          refine lv_aload_n hx hb dX13_calls_58 rfl (lv_at hl 0 rfl) ?_
          refine lv_dup hx hb dX13_calls_59 rfl ?_
          refine va_get (D := (dC, dI)) (ci := 16) (fs := mF ad (wA v 101 ((v.1 0 102).toNatClampNeg) ((v.1 97) 10))) (v := .int (v.1 0 102)) (C := RX13) (T := TX13) (N := 124) hx hb ht itX13 hown hK hP 0 rfl rfl 102 (by decide) (ht _ tw_227) (fun _ h9 => h9) rfl dX13_calls_60 ?_
          refine lv_iconst (v := 1) hx hb dX13_calls_63 (by decide) ?_
          refine lv_iadd hx hb dX13_calls_64 ?_
          have z24 : ((v.1 0 102) + (1 : Int32)).toInt = ((v.1 0 102).toInt) + (1 : Int) := add_z rfl (show (1 : Int32).toInt = (1 : Int) by decide) (om_3eeef40734 zp) (om_62e6f89c45 zp)
          refine va_put (D := (dC, dI)) (ci := 16) (fs := mF ad (wA v 101 ((v.1 0 102).toNatClampNeg) ((v.1 97) 10))) (v := .int ((v.1 0 102) + (1 : Int32))) (ty := .int) (C := RX13) (T := TX13) (N := 124) hx hb ht itX13 tyX13 tyX13_ok nmX13 hown hK hP hD hS 0 rfl rfl 102 (by decide) (ht _ tw_227) (fun _ h9 => h9) rfl (by decide +kernel) rfl rfl (Nat.le_of_ble_eq_true rfl) dX13_calls_65 (fun H locs hP hD hS => ?_)
          have hP := cP_ (mw_102 ad N cI cZ cJ (wA v 101 ((v.1 0 102).toNatClampNeg) ((v.1 97) 10)) ((v.1 0 102) + (1 : Int32))) hP
          have hD := cD_ (mw_102 ad N cI cZ cJ (wA v 101 ((v.1 0 102).toNatClampNeg) ((v.1 97) 10)) ((v.1 0 102) + (1 : Int32))) hD
          refine lv_aload_n hx hb dX13_calls_68 rfl (lv_at hl 0 rfl) ?_
          refine va_get (D := (dC, dI)) (ci := 16) (fs := mF ad (wA (wA v 101 ((v.1 0 102).toNatClampNeg) ((v.1 97) 10)) 0 102 ((v.1 0 102) + (1 : Int32)))) (v := .ref (ad 97)) (C := RX13) (T := TX13) (N := 124) hx hb ht itX13 hown hK hP 0 rfl rfl 97 (by decide) (ht _ tw_209) (fun _ h9 => h9) rfl dX13_calls_69 ?_
          refine lv_bipush (v := 17) hx hb dX13_calls_72 (by decide) ?_
          refine va_iald (D := (dC, dI)) (f := (v.1 97)) hx hb hK hP 53 0 rfl rfl (in_y (a := (17 : Int)) (b := 32) (show (17 : Int32).toInt = (17 : Int) by decide) om_c068ca3171 om_d44582c2ea rfl) dX13_calls_74 ?_
          refine lv_iconst (v := 2) hx hb dX13_calls_75 (by decide) ?_
          refine lv_icmp_ne (tgt := 120) hx hb dX13_calls_76 (by decide) (fun h25 => ?_) (fun h25 => ?_)
          · have z26 : ((v.1 97) 17).toInt ≠ (2 : Int) := ne_z rfl (show (2 : Int32).toInt = (2 : Int) by decide) h25
            refine lv_aload_n hx hb dX13_calls_120 rfl (lv_at hl 0 rfl) ?_
            refine lv_dup hx hb dX13_calls_121 rfl ?_
            refine va_get (D := (dC, dI)) (ci := 16) (fs := mF ad (wA (wA v 101 ((v.1 0 102).toNatClampNeg) ((v.1 97) 10)) 0 102 ((v.1 0 102) + (1 : Int32)))) (v := .int (v.1 0 98)) (C := RX13) (T := TX13) (N := 124) hx hb ht itX13 hown hK hP 0 rfl rfl 98 (by decide) (ht _ tw_208) (fun _ h9 => h9) rfl dX13_calls_122 ?_
            refine lv_iconst (v := 4) hx hb dX13_calls_125 (by decide) ?_
            refine lv_iadd hx hb dX13_calls_126 ?_
            refine va_put (D := (dC, dI)) (ci := 16) (fs := mF ad (wA (wA v 101 ((v.1 0 102).toNatClampNeg) ((v.1 97) 10)) 0 102 ((v.1 0 102) + (1 : Int32)))) (v := .int ((v.1 0 98) + (4 : Int32))) (ty := .int) (C := RX13) (T := TX13) (N := 124) hx hb ht itX13 tyX13 tyX13_ok nmX13 hown hK hP hD hS 0 rfl rfl 98 (by decide) (ht _ tw_208) (fun _ h9 => h9) rfl (by decide +kernel) rfl rfl (Nat.le_of_ble_eq_true rfl) dX13_calls_127 (fun H locs hP hD hS => ?_)
            have hP := cP_ (mw_98 ad N cI cZ cJ (wA (wA v 101 ((v.1 0 102).toNatClampNeg) ((v.1 97) 10)) 0 102 ((v.1 0 102) + (1 : Int32))) ((v.1 0 98) + (4 : Int32))) hP
            have hD := cD_ (mw_98 ad N cI cZ cJ (wA (wA v 101 ((v.1 0 102).toNatClampNeg) ((v.1 97) 10)) 0 102 ((v.1 0 102) + (1 : Int32))) ((v.1 0 98) + (4 : Int32))) hD
            refine lv_goto (tgt := 138) hx hb dX13_calls_130 (by decide) ?_
            exact W.vret hx hb hr (fun t ht9 hW => ⟨⟨(wA (wA (wA v 101 ((v.1 0 102).toNatClampNeg) ((v.1 97) 10)) 0 102 ((v.1 0 102) + (1 : Int32))) 0 98 ((v.1 0 98) + (4 : Int32))), rfl, ⟨(FG.f (FG.f (FG.a (FG.rf _) ((v.1 0 102).toNatClampNeg) ((v.1 97) 10) (by decide) (by decide)) ((v.1 0 102) + (1 : Int32)) (by decide)) ((v.1 0 98) + (4 : Int32)) (by decide)), (show (v.1 0 95).toInt ≤ (v.1 0 95).toInt ∧ (v.1 0 95).toInt ≤ (v.1 0 95).toInt + 1 from om_b79dd2a91d), (show (v.1 0 102).toInt ≤ ((v.1 0 102) + (1 : Int32)).toInt ∧ ((v.1 0 102) + (1 : Int32)).toInt ≤ (v.1 0 102).toInt + 1 from (om_18ed0e1cae z24))⟩, by rw [ht9]; exact hP, hD⟩, hS.F ht9⟩) hS.2.2 dX13_calls_138
          · have z27 : ((v.1 97) 17).toInt = (2 : Int) := eq_z rfl (show (2 : Int32).toInt = (2 : Int) by decide) h25
            exact False.elim (om_016a4e1642 z16 z27)
  · have z28 : pa.toInt = (1048691 : Int) := eq_z rfl (show (1048691 : Int32).toInt = (1048691 : Int) by decide) h1
    refine lv_aload_n hx hb dX13_calls_7 rfl (lv_at hl 0 rfl) ?_
    refine lv_iconst (v := 1) hx hb dX13_calls_8 (by decide) ?_
    refine va_put (D := (dC, dI)) (ci := 16) (fs := mF ad v) (v := .int 1) (ty := .int) (C := RX13) (T := TX13) (N := 124) hx hb ht itX13 tyX13 tyX13_ok nmX13 hown hK hP hD hS 0 rfl rfl 99 (by decide) (ht _ tw_210) (fun _ h9 => h9) rfl (by decide +kernel) rfl rfl (Nat.le_of_ble_eq_true rfl) dX13_calls_9 (fun H locs hP hD hS => ?_)
    have hP := cP_ (mw_99 ad N cI cZ cJ v 1) hP
    have hD := cD_ (mw_99 ad N cI cZ cJ v 1) hD
    refine lv_goto (tgt := 138) hx hb dX13_calls_12 (by decide) ?_
    exact W.vret hx hb hr (fun t ht9 hW => ⟨⟨(wA v 0 99 1), rfl, ⟨(FG.f (FG.rf _) 1 (by decide)), (show (v.1 0 95).toInt ≤ (v.1 0 95).toInt ∧ (v.1 0 95).toInt ≤ (v.1 0 95).toInt + 1 from om_b79dd2a91d), (show (v.1 0 102).toInt ≤ (v.1 0 102).toInt ∧ (v.1 0 102).toInt ≤ (v.1 0 102).toInt + 1 from om_b79dd2a91d)⟩, by rw [ht9]; exact hP, hD⟩, hS.F ht9⟩) hS.2.2 dX13_calls_138
theorem om_ab4478a251 : 0 ≤ (4 : Int) ∧ (4 : Int) ≤ 8 := by omega
theorem om_b832ad2882 {x0 x1 : Int} {n2 : Nat} (h0 : (0 ≤ x0 ∧ x0 ≤ 1)) (h1 : (x0 = 0 ∨ (0 ≤ x1 ∧ x1 + (4 : Int) ≤ 4 * (n2 : Int)))) (h2 : x0 ≠ (0 : Int)) : 0 ≤ x1 := by omega
theorem om_b9fe6392c5 {x0 x1 x3 : Int} {n2 : Nat} (h0 : (0 ≤ x0 ∧ x0 ≤ 1)) (h1 : (x0 = 0 ∨ (0 ≤ x1 ∧ x1 + (4 : Int) ≤ 4 * (n2 : Int)))) (h2 : x0 ≠ (0 : Int)) (h3 : 4 * x3 ≤ x1 ∧ x1 ≤ 4 * x3 + 3) : 0 ≤ x3 := by omega
theorem om_6541274712 {x0 x1 x3 : Int} {n2 : Nat} (h0 : (0 ≤ x0 ∧ x0 ≤ 1)) (h1 : (x0 = 0 ∨ (0 ≤ x1 ∧ x1 + (4 : Int) ≤ 4 * (n2 : Int)))) (h2 : x0 ≠ (0 : Int)) (h3 : 4 * x3 ≤ x1 ∧ x1 ≤ 4 * x3 + 3) : x3 < (n2 : Int) := by omega
theorem om_ae24b8c797 {x0 : Int} (h0 : 0 ≤ x0 ∧ x0 < 32) : 0 ≤ x0 := by omega
theorem om_e56dba40ab {x0 : Int} (h0 : 0 ≤ x0 ∧ x0 < 8) : 0 ≤ x0 ∧ x0 < 8 := by omega
theorem om_a5ca429bbe {x0 x1 : Int} (h0 : x0 = x1) : x1 ≤ x0 ∧ x0 ≤ x1 + 1 := by omega
theorem om_b6195aaeca {x0 x1 : Int} {n2 : Nat} (h0 : (0 ≤ x0 ∧ x0 ≤ 1)) (h1 : (x0 = 0 ∨ (0 ≤ x1 ∧ x1 + (4 : Int) ≤ 4 * (n2 : Int)))) (h2 : x0 ≠ (0 : Int)) : -2147483648 ≤ (x1) + (4 : Int) := by omega
theorem om_2c9e8c59db {x1 x2 : Int} {n0 : Nat} (h0 : (256 : Int) ≤ (n0 : Int) ∧ (n0 : Int) ≤ 4096) (h1 : (0 ≤ x1 ∧ x1 ≤ 1)) (h2 : (x1 = 0 ∨ (0 ≤ x2 ∧ x2 + (4 : Int) ≤ 4 * (n0 : Int)))) (h3 : x1 ≠ (0 : Int)) : (x2) + (4 : Int) < 2147483648 := by omega
theorem om_0522002ca7 {x0 : Int} (h0 : 0 ≤ x0 ∧ x0 ≤ 64) : 0 ≤ x0 ∧ x0 ≤ 64 := by omega
theorem om_2956d0ba8e {x0 : Int} (h0 : 0 ≤ x0 ∧ x0 ≤ 2000000000) : 0 ≤ x0 ∧ x0 ≤ 2000000000 := by omega
theorem om_e79f107f26 {x0 x1 : Int} (h0 : x0 ≤ x1 ∧ x1 ≤ x0 + 1) : x0 ≤ x1 ∧ x1 ≤ x0 + 1 := by omega
set_option maxHeartbeats 4000000 in
set_option maxRecDepth 100000 in
theorem c_m_doStep (l : Launch) (dC : Nat → ClassId) (dI : Nat → Nat → Nat) (cI cB cZ cJ cR : ClassId) (tb : Nat → Nat) (sz : Nat) (ad : Nat → Nat) (N : Nat) (v : MS)  (zN : (256 : Int) ≤ (N : Int) ∧ (N : Int) ≤ 4096) (zg : 0 ≤ (v.1 0 94).toInt ∧ (v.1 0 94).toInt ≤ 64) (zu : 0 ≤ (v.1 0 95).toInt ∧ (v.1 0 95).toInt ≤ 2000000000) (zp : 0 ≤ (v.1 0 102).toInt ∧ (v.1 0 102).toInt ≤ 2000000000) : Met l yX13_doStep (Cond.code yX13_doStep cX13_doStep 6 none :: tw_W) ({ frames := 2, cells := 0, slots := 0, locals := 51 }) (pc_ (dC, dI) (tyS cI cB cZ cJ cR) tb (mW ad N cI cZ cJ v) sz [.ref (ad 0)]) (qv_ (dC, dI) (mW ad N cI cZ cJ v) sz (fun (u : MS) => FG [95, 98, 99, 100, 102] [0, 96, 97, 101] v u ∧ ((v.1 0 95).toInt ≤ (u.1 0 95).toInt ∧ (u.1 0 95).toInt ≤ (v.1 0 95).toInt + 1) ∧ ((v.1 0 102).toInt ≤ (u.1 0 102).toInt ∧ (u.1 0 102).toInt ≤ (v.1 0 102).toInt + 1)) (fun (u : MS) => (mW ad N cI cZ cJ u))) 0 0 (va_A (mW ad N cI cZ cJ v) sz) := by
  refine Met.ofW (cc := cX13_doStep) (maxL := 6) (ret := none) (by decide) rfl ?_
  intro p e s m args below meth c s₁ B hml hv
  obtain ⟨rfl, hsz, hP, hKK, hD0, hFx⟩ := hv
  have hK := hKK.1
  have hx := B.exec
  have hb := B.bytes
  have hr := B.returns
  have ht : ∀ w ∈ tw_W, w.before _ s = true := fun w h => atoms_spec (ws := Cond.code yX13_doStep cX13_doStep 6 none :: tw_W) B.pre w (List.mem_cons_of_mem _ h)
  have hown : s.vm.findClass RX13 = some m.cls := findClass_of_methodNamed B.named
  have hlocks := B.notSynchronized
  subst hsz
  unfold qv_
  have hD := hD0.self (sz := s.heap.size)
  generalize hAe : va_A (mW ad N cI cZ cJ v) s.heap.size = A at hD hFx ⊢
  have hA : ∀ q : Nat, s.heap.size ≤ q → A q := fun q h => by rw [← hAe]; exact Or.inr h
  have hS : va_S A s.heap s.heap [] := va_S.rf
  have hl := lv_entry ([.ref (ad 0)]) (n := 6) (Nat.le_of_ble_eq_true rfl)
  rw [lg_entry_eq]
  generalize (lg_sl ([.ref (ad 0)]) ++ List.replicate (6 - (lg_sl ([.ref (ad 0)])).length) Slot.unset).toArray = ls at hl ⊢
  have hl : lv_has ls 6 [(0, .ref (ad 0))] := hl
  refine lv_aload_n hx hb dX13_doStep_0 rfl (lv_at hl 0 rfl) ?_
  refine lv_dup hx hb dX13_doStep_1 rfl ?_
  refine va_get (D := (dC, dI)) (ci := 16) (fs := mF ad v) (v := .int (v.1 0 100)) (C := RX13) (T := TX13) (N := 124) hx hb ht itX13 hown hK hP 0 rfl rfl 100 (by decide) (ht _ tw_229) (fun _ h9 => h9) rfl dX13_doStep_2 ?_
  refine lv_iconst (v := 1) hx hb dX13_doStep_5 (by decide) ?_
  refine lv_iadd hx hb dX13_doStep_6 ?_
  refine va_put (D := (dC, dI)) (ci := 16) (fs := mF ad v) (v := .int ((v.1 0 100) + (1 : Int32))) (ty := .int) (C := RX13) (T := TX13) (N := 124) hx hb ht itX13 tyX13 tyX13_ok nmX13 hown hK hP hD hS 0 rfl rfl 100 (by decide) (ht _ tw_229) (fun _ h9 => h9) rfl (by decide +kernel) rfl rfl (Nat.le_of_ble_eq_true rfl) dX13_doStep_7 (fun H locs hP hD hS => ?_)
  have hP := cP_ (mw_100 ad N cI cZ cJ v ((v.1 0 100) + (1 : Int32))) hP
  have hD := cD_ (mw_100 ad N cI cZ cJ v ((v.1 0 100) + (1 : Int32))) hD
  refine lv_aload_n hx hb dX13_doStep_10 rfl (lv_at hl 0 rfl) ?_
  refine va_get (D := (dC, dI)) (ci := 16) (fs := mF ad (wA v 0 100 ((v.1 0 100) + (1 : Int32)))) (v := .int (v.1 0 98)) (C := RX13) (T := TX13) (N := 124) hx hb ht itX13 hown hK hP 0 rfl rfl 98 (by decide) (ht _ tw_208) (fun _ h9 => h9) rfl dX13_doStep_11 ?_
  refine lv_iconst (v := 3) hx hb dX13_doStep_14 (by decide) ?_
  refine lv_iand hx hb dX13_doStep_15 ?_
  refine lv_if_ne (tgt := 31) hx hb dX13_doStep_16 (by decide) (fun h1 => ?_) (fun h1 => ?_)
  · have z2 : ((v.1 0 98) &&& (3 : Int32)).toInt ≠ (0 : Int) := ne_z rfl (show (0 : Int32).toInt = (0 : Int) by decide) h1
    refine lv_aload_n hx hb dX13_doStep_31 rfl (lv_at hl 0 rfl) ?_
    refine lv_iconst (v := 3) hx hb dX13_doStep_32 (by decide) ?_
    refine va_put (D := (dC, dI)) (ci := 16) (fs := mF ad (wA v 0 100 ((v.1 0 100) + (1 : Int32)))) (v := .int 3) (ty := .int) (C := RX13) (T := TX13) (N := 124) hx hb ht itX13 tyX13 tyX13_ok nmX13 hown hK hP hD hS 0 rfl rfl 99 (by decide) (ht _ tw_210) (fun _ h9 => h9) rfl (by decide +kernel) rfl rfl (Nat.le_of_ble_eq_true rfl) dX13_doStep_33 (fun H locs hP hD hS => ?_)
    have hP := cP_ (mw_99 ad N cI cZ cJ (wA v 0 100 ((v.1 0 100) + (1 : Int32))) 3) hP
    have hD := cD_ (mw_99 ad N cI cZ cJ (wA v 0 100 ((v.1 0 100) + (1 : Int32))) 3) hD
    exact W.vret hx hb hr (fun t ht9 hW => ⟨⟨(wA (wA v 0 100 ((v.1 0 100) + (1 : Int32))) 0 99 3), rfl, ⟨(FG.f (FG.f (FG.rf _) ((v.1 0 100) + (1 : Int32)) (by decide)) 3 (by decide)), (show (v.1 0 95).toInt ≤ (v.1 0 95).toInt ∧ (v.1 0 95).toInt ≤ (v.1 0 95).toInt + 1 from om_b79dd2a91d), (show (v.1 0 102).toInt ≤ (v.1 0 102).toInt ∧ (v.1 0 102).toInt ≤ (v.1 0 102).toInt + 1 from om_b79dd2a91d)⟩, by rw [ht9]; exact hP, hD⟩, hS.F ht9⟩) hS.2.2 dX13_doStep_36
  · have z3 : ((v.1 0 98) &&& (3 : Int32)).toInt = (0 : Int) := eq_z rfl (show (0 : Int32).toInt = (0 : Int) by decide) h1
    refine lv_aload_n hx hb dX13_doStep_19 rfl (lv_at hl 0 rfl) ?_
    refine lv_aload_n hx hb dX13_doStep_20 rfl (lv_at hl 0 rfl) ?_
    refine va_get (D := (dC, dI)) (ci := 16) (fs := mF ad (wA v 0 100 ((v.1 0 100) + (1 : Int32)))) (v := .int (v.1 0 98)) (C := RX13) (T := TX13) (N := 124) hx hb ht itX13 hown hK hP 0 rfl rfl 98 (by decide) (ht _ tw_208) (fun _ h9 => h9) rfl dX13_doStep_21 ?_
    refine lv_iconst (v := 4) hx hb dX13_doStep_24 (by decide) ?_
    refine cu_i (rn_V (n := 2) (As := [.int (v.1 0 98), .int 4]) (rest := []) hx hb hml hown ht hKK hFx hP hD hS hA (c_m_isIn l dC dI cI cB cZ cJ cR tb H.size ad N (wA v 0 100 ((v.1 0 100) + (1 : Int32))) (v.1 0 98) (4 : Int32) (show (256 : Int) ≤ (N : Int) ∧ (N : Int) ≤ 4096 from (om_c42fe0fb85 zN)) (show 0 ≤ (4 : Int) ∧ (4 : Int) ≤ 8 from om_ab4478a251)) tw_214 tw_215 (by decide +kernel) rfl rfl ⟨Nat.le_of_ble_eq_true rfl, Nat.le_of_ble_eq_true rfl⟩ (List.range (mW ad N cI cZ cJ (wA v 0 100 ((v.1 0 100) + (1 : Int32)))).length) (rg_map _) (mW_nd _ _ _ _ _ _) rfl rfl rfl rfl hl.1 rfl (Nat.le_of_ble_eq_true rfl) dX13_doStep_25 ⟨Nat.le_of_ble_eq_true rfl, Nat.le_of_ble_eq_true rfl⟩) hP hD hS hA (fun r6 u5 H locs hw4 hP hD hS => ?_)
    obtain ⟨rfl, b4, e4, g4, gn4⟩ := hw4
    have b4 : (r6 = 0 ∨ r6 = 1) := b4
    have e4 : (0 ≤ r6.toInt ∧ r6.toInt ≤ 1) := e4
    have g4 : (r6.toInt = 0 ∨ (0 ≤ (v.1 0 98).toInt ∧ (v.1 0 98).toInt + (4 : Int) ≤ 4 * (N : Int))) := g4
    have gn4 : (r6.toInt = 1 ∨ ((v.1 0 98).toInt < 0 ∨ 4 * (N : Int) < (v.1 0 98).toInt + (4 : Int))) := gn4
    refine W.widen (k := 0) (n := 0) (Nat.le_refl _) (Nat.le_refl _) ?_
    refine lv_if_ne (tgt := 37) hx hb dX13_doStep_28 (by decide) (fun h7 => ?_) (fun h7 => ?_)
    · have z8 : r6.toInt ≠ (0 : Int) := ne_z rfl (show (0 : Int32).toInt = (0 : Int) by decide) h7
      refine lv_aload_n hx hb dX13_doStep_37 rfl (lv_at hl 0 rfl) ?_
      refine va_get (D := (dC, dI)) (ci := 16) (fs := mF ad (wA v 0 100 ((v.1 0 100) + (1 : Int32)))) (v := .ref (ad 96)) (C := RX13) (T := TX13) (N := 124) hx hb ht itX13 hown hK hP 0 rfl rfl 96 (by decide) (ht _ tw_207) (fun _ h9 => h9) rfl dX13_doStep_38 ?_
      refine lv_aload_n hx hb dX13_doStep_41 rfl (lv_at hl 0 rfl) ?_
      refine va_get (D := (dC, dI)) (ci := 16) (fs := mF ad (wA v 0 100 ((v.1 0 100) + (1 : Int32)))) (v := .int (v.1 0 98)) (C := RX13) (T := TX13) (N := 124) hx hb ht itX13 hown hK hP 0 rfl rfl 98 (by decide) (ht _ tw_208) (fun _ h9 => h9) rfl dX13_doStep_42 ?_
      refine lv_iconst (v := 2) hx hb dX13_doStep_45 (by decide) ?_
      refine lv_ishr hx hb dX13_doStep_46 ?_
      have z9 : 4 * ((v.1 0 98) >>> ((2 : Int32) &&& 31)).toInt ≤ (v.1 0 98).toInt ∧ (v.1 0 98).toInt ≤ 4 * ((v.1 0 98) >>> ((2 : Int32) &&& 31)).toInt + 3 := shr2_f (om_b832ad2882 e4 g4 z8)
      refine va_iald (D := (dC, dI)) (f := (v.1 96)) hx hb hK hP 52 0 rfl rfl (in_y (a := ((v.1 0 98) >>> ((2 : Int32) &&& 31)).toInt) (b := (N : Int)) rfl (om_b9fe6392c5 e4 g4 z8 z9) (om_6541274712 e4 g4 z8 z9) rfl) dX13_doStep_47 ?_
      refine lv_istore_n (lv' := [(1, .int ((v.1 96) ((v.1 0 98) >>> ((2 : Int32) &&& 31)).toNatClampNeg)), (0, .ref (ad 0))]) hx hb dX13_doStep_48 rfl hl (by decide) rfl (fun ls hl => ?_)
      refine lv_iload_n hx hb dX13_doStep_49 rfl (lv_at hl 0 rfl) ?_
      refine lv_bipush (v := 7) hx hb dX13_doStep_50 (by decide) ?_
      refine lv_ishr hx hb dX13_doStep_52 ?_
      refine lv_bipush (v := 31) hx hb dX13_doStep_53 (by decide) ?_
      refine lv_iand hx hb dX13_doStep_55 ?_
      refine lv_istore_n (lv' := [(2, .int ((((v.1 96) ((v.1 0 98) >>> ((2 : Int32) &&& 31)).toNatClampNeg) >>> ((7 : Int32) &&& 31)) &&& (31 : Int32))), (1, .int ((v.1 96) ((v.1 0 98) >>> ((2 : Int32) &&& 31)).toNatClampNeg)), (0, .ref (ad 0))]) hx hb dX13_doStep_56 rfl hl (by decide) rfl (fun ls hl => ?_)
      refine lv_iload_n hx hb dX13_doStep_57 rfl (lv_at hl 1 rfl) ?_
      refine lv_bipush (v := 12) hx hb dX13_doStep_58 (by decide) ?_
      refine lv_ishr hx hb dX13_doStep_60 ?_
      refine lv_bipush (v := 7) hx hb dX13_doStep_61 (by decide) ?_
      refine lv_iand hx hb dX13_doStep_63 ?_
      refine lv_istore_n (lv' := [(3, .int ((((v.1 96) ((v.1 0 98) >>> ((2 : Int32) &&& 31)).toNatClampNeg) >>> ((12 : Int32) &&& 31)) &&& (7 : Int32))), (2, .int ((((v.1 96) ((v.1 0 98) >>> ((2 : Int32) &&& 31)).toNatClampNeg) >>> ((7 : Int32) &&& 31)) &&& (31 : Int32))), (1, .int ((v.1 96) ((v.1 0 98) >>> ((2 : Int32) &&& 31)).toNatClampNeg)), (0, .ref (ad 0))]) hx hb dX13_doStep_64 rfl hl (by decide) rfl (fun ls hl => ?_)
      refine lv_aload_n hx hb dX13_doStep_65 rfl (lv_at hl 3 rfl) ?_
      refine va_get (D := (dC, dI)) (ci := 16) (fs := mF ad (wA v 0 100 ((v.1 0 100) + (1 : Int32)))) (v := .ref (ad 97)) (C := RX13) (T := TX13) (N := 124) hx hb ht itX13 hown hK hP 0 rfl rfl 97 (by decide) (ht _ tw_209) (fun _ h9 => h9) rfl dX13_doStep_66 ?_
      refine lv_iload_n hx hb dX13_doStep_69 rfl (lv_at hl 2 rfl) ?_
      refine lv_bipush (v := 15) hx hb dX13_doStep_70 (by decide) ?_
      refine lv_ishr hx hb dX13_doStep_72 ?_
      refine lv_bipush (v := 31) hx hb dX13_doStep_73 (by decide) ?_
      refine lv_iand hx hb dX13_doStep_75 ?_
      have q10 : 0 ≤ ((((v.1 96) ((v.1 0 98) >>> ((2 : Int32) &&& 31)).toNatClampNeg) >>> ((15 : Int32) &&& 31)) &&& (31 : Int32)).toInt ∧ ((((v.1 96) ((v.1 0 98) >>> ((2 : Int32) &&& 31)).toNatClampNeg) >>> ((15 : Int32) &&& 31)) &&& (31 : Int32)).toInt < 32 := and_f (n := 32) (pk_andIn (((v.1 96) ((v.1 0 98) >>> ((2 : Int32) &&& 31)).toNatClampNeg) >>> ((15 : Int32) &&& 31)) 5 (by decide) (by decide))
      refine va_iald (D := (dC, dI)) (f := (v.1 97)) hx hb hK hP 53 0 rfl rfl (in_y (a := ((((v.1 96) ((v.1 0 98) >>> ((2 : Int32) &&& 31)).toNatClampNeg) >>> ((15 : Int32) &&& 31)) &&& (31 : Int32)).toInt) (b := 32) rfl (om_ae24b8c797 q10) (om_cbdb5e7289 q10) rfl) dX13_doStep_76 ?_
      refine lv_istore (lv' := [(4, .int ((v.1 97) ((((v.1 96) ((v.1 0 98) >>> ((2 : Int32) &&& 31)).toNatClampNeg) >>> ((15 : Int32) &&& 31)) &&& (31 : Int32)).toNatClampNeg)), (3, .int ((((v.1 96) ((v.1 0 98) >>> ((2 : Int32) &&& 31)).toNatClampNeg) >>> ((12 : Int32) &&& 31)) &&& (7 : Int32))), (2, .int ((((v.1 96) ((v.1 0 98) >>> ((2 : Int32) &&& 31)).toNatClampNeg) >>> ((7 : Int32) &&& 31)) &&& (31 : Int32))), (1, .int ((v.1 96) ((v.1 0 98) >>> ((2 : Int32) &&& 31)).toNatClampNeg)), (0, .ref (ad 0))]) hx hb dX13_doStep_77 hl (by decide) rfl (fun ls hl => ?_)
      refine lv_aload_n hx hb dX13_doStep_79 rfl (lv_at hl 4 rfl) ?_
      refine va_get (D := (dC, dI)) (ci := 16) (fs := mF ad (wA v 0 100 ((v.1 0 100) + (1 : Int32)))) (v := .ref (ad 97)) (C := RX13) (T := TX13) (N := 124) hx hb ht itX13 hown hK hP 0 rfl rfl 97 (by decide) (ht _ tw_209) (fun _ h9 => h9) rfl dX13_doStep_80 ?_
      refine lv_iload_n hx hb dX13_doStep_83 rfl (lv_at hl 3 rfl) ?_
      refine lv_bipush (v := 20) hx hb dX13_doStep_84 (by decide) ?_
      refine lv_ishr hx hb dX13_doStep_86 ?_
      refine lv_bipush (v := 31) hx hb dX13_doStep_87 (by decide) ?_
      refine lv_iand hx hb dX13_doStep_89 ?_
      have q11 : 0 ≤ ((((v.1 96) ((v.1 0 98) >>> ((2 : Int32) &&& 31)).toNatClampNeg) >>> ((20 : Int32) &&& 31)) &&& (31 : Int32)).toInt ∧ ((((v.1 96) ((v.1 0 98) >>> ((2 : Int32) &&& 31)).toNatClampNeg) >>> ((20 : Int32) &&& 31)) &&& (31 : Int32)).toInt < 32 := and_f (n := 32) (pk_andIn (((v.1 96) ((v.1 0 98) >>> ((2 : Int32) &&& 31)).toNatClampNeg) >>> ((20 : Int32) &&& 31)) 5 (by decide) (by decide))
      refine va_iald (D := (dC, dI)) (f := (v.1 97)) hx hb hK hP 53 0 rfl rfl (in_y (a := ((((v.1 96) ((v.1 0 98) >>> ((2 : Int32) &&& 31)).toNatClampNeg) >>> ((20 : Int32) &&& 31)) &&& (31 : Int32)).toInt) (b := 32) rfl (om_ae24b8c797 q11) (om_cbdb5e7289 q11) rfl) dX13_doStep_90 ?_
      refine lv_istore (lv' := [(5, .int ((v.1 97) ((((v.1 96) ((v.1 0 98) >>> ((2 : Int32) &&& 31)).toNatClampNeg) >>> ((20 : Int32) &&& 31)) &&& (31 : Int32)).toNatClampNeg)), (4, .int ((v.1 97) ((((v.1 96) ((v.1 0 98) >>> ((2 : Int32) &&& 31)).toNatClampNeg) >>> ((15 : Int32) &&& 31)) &&& (31 : Int32)).toNatClampNeg)), (3, .int ((((v.1 96) ((v.1 0 98) >>> ((2 : Int32) &&& 31)).toNatClampNeg) >>> ((12 : Int32) &&& 31)) &&& (7 : Int32))), (2, .int ((((v.1 96) ((v.1 0 98) >>> ((2 : Int32) &&& 31)).toNatClampNeg) >>> ((7 : Int32) &&& 31)) &&& (31 : Int32))), (1, .int ((v.1 96) ((v.1 0 98) >>> ((2 : Int32) &&& 31)).toNatClampNeg)), (0, .ref (ad 0))]) hx hb dX13_doStep_91 hl (by decide) rfl (fun ls hl => ?_)
      refine lv_iload_n hx hb dX13_doStep_93 rfl (lv_at hl 4 rfl) ?_
      refine lv_bipush (v := 127) hx hb dX13_doStep_94 (by decide) ?_
      refine lv_iand hx hb dX13_doStep_96 ?_
      by_cases h12 : (((v.1 96) ((v.1 0 98) >>> ((2 : Int32) &&& 31)).toNatClampNeg) &&& (127 : Int32)) = 3
      · refine lv_lookup (off := 182) (tgt := 279) hx hb dX13_doStep_97 (by decide) (by rw [h12]; decide) (by decide) ?_
        refine lv_aload_n hx hb dX13_doStep_279 rfl (lv_at hl 5 rfl) ?_
        refine lv_iload_n hx hb dX13_doStep_280 rfl (lv_at hl 4 rfl) ?_
        refine lv_iload_n hx hb dX13_doStep_281 rfl (lv_at hl 3 rfl) ?_
        refine lv_iload_n hx hb dX13_doStep_282 rfl (lv_at hl 2 rfl) ?_
        refine lv_iload hx hb dX13_doStep_283 (lv_at hl 1 rfl) ?_
        refine lv_iload_n hx hb dX13_doStep_285 rfl (lv_at hl 4 rfl) ?_
        refine lv_bipush (v := 20) hx hb dX13_doStep_286 (by decide) ?_
        refine lv_ishr hx hb dX13_doStep_288 ?_
        refine lv_iadd hx hb dX13_doStep_289 ?_
        have q13 : 0 ≤ ((((v.1 96) ((v.1 0 98) >>> ((2 : Int32) &&& 31)).toNatClampNeg) >>> ((7 : Int32) &&& 31)) &&& (31 : Int32)).toInt ∧ ((((v.1 96) ((v.1 0 98) >>> ((2 : Int32) &&& 31)).toNatClampNeg) >>> ((7 : Int32) &&& 31)) &&& (31 : Int32)).toInt < 32 := and_f (n := 32) (pk_andIn (((v.1 96) ((v.1 0 98) >>> ((2 : Int32) &&& 31)).toNatClampNeg) >>> ((7 : Int32) &&& 31)) 5 (by decide) (by decide))
        have q14 : 0 ≤ ((((v.1 96) ((v.1 0 98) >>> ((2 : Int32) &&& 31)).toNatClampNeg) >>> ((12 : Int32) &&& 31)) &&& (7 : Int32)).toInt ∧ ((((v.1 96) ((v.1 0 98) >>> ((2 : Int32) &&& 31)).toNatClampNeg) >>> ((12 : Int32) &&& 31)) &&& (7 : Int32)).toInt < 8 := and_f (n := 8) (pk_andIn (((v.1 96) ((v.1 0 98) >>> ((2 : Int32) &&& 31)).toNatClampNeg) >>> ((12 : Int32) &&& 31)) 3 (by decide) (by decide))
        refine cu_v (rn_V (n := 4) (As := [.int ((v.1 96) ((v.1 0 98) >>> ((2 : Int32) &&& 31)).toNatClampNeg), .int ((((v.1 96) ((v.1 0 98) >>> ((2 : Int32) &&& 31)).toNatClampNeg) >>> ((7 : Int32) &&& 31)) &&& (31 : Int32)), .int ((((v.1 96) ((v.1 0 98) >>> ((2 : Int32) &&& 31)).toNatClampNeg) >>> ((12 : Int32) &&& 31)) &&& (7 : Int32)), .int (((v.1 97) ((((v.1 96) ((v.1 0 98) >>> ((2 : Int32) &&& 31)).toNatClampNeg) >>> ((15 : Int32) &&& 31)) &&& (31 : Int32)).toNatClampNeg) + (((v.1 96) ((v.1 0 98) >>> ((2 : Int32) &&& 31)).toNatClampNeg) >>> ((20 : Int32) &&& 31)))]) (rest := []) hx hb hml hown ht hKK hFx hP hD hS hA (c_m_reads l dC dI cI cB cZ cJ cR tb H.size ad N (wA v 0 100 ((v.1 0 100) + (1 : Int32))) ((v.1 96) ((v.1 0 98) >>> ((2 : Int32) &&& 31)).toNatClampNeg) ((((v.1 96) ((v.1 0 98) >>> ((2 : Int32) &&& 31)).toNatClampNeg) >>> ((7 : Int32) &&& 31)) &&& (31 : Int32)) ((((v.1 96) ((v.1 0 98) >>> ((2 : Int32) &&& 31)).toNatClampNeg) >>> ((12 : Int32) &&& 31)) &&& (7 : Int32)) (((v.1 97) ((((v.1 96) ((v.1 0 98) >>> ((2 : Int32) &&& 31)).toNatClampNeg) >>> ((15 : Int32) &&& 31)) &&& (31 : Int32)).toNatClampNeg) + (((v.1 96) ((v.1 0 98) >>> ((2 : Int32) &&& 31)).toNatClampNeg) >>> ((20 : Int32) &&& 31))) (show (256 : Int) ≤ (N : Int) ∧ (N : Int) ≤ 4096 from (om_c42fe0fb85 zN)) (show 0 ≤ ((((v.1 96) ((v.1 0 98) >>> ((2 : Int32) &&& 31)).toNatClampNeg) >>> ((7 : Int32) &&& 31)) &&& (31 : Int32)).toInt ∧ ((((v.1 96) ((v.1 0 98) >>> ((2 : Int32) &&& 31)).toNatClampNeg) >>> ((7 : Int32) &&& 31)) &&& (31 : Int32)).toInt < 32 from (om_325f1a4150 q13)) (show 0 ≤ ((((v.1 96) ((v.1 0 98) >>> ((2 : Int32) &&& 31)).toNatClampNeg) >>> ((12 : Int32) &&& 31)) &&& (7 : Int32)).toInt ∧ ((((v.1 96) ((v.1 0 98) >>> ((2 : Int32) &&& 31)).toNatClampNeg) >>> ((12 : Int32) &&& 31)) &&& (7 : Int32)).toInt < 8 from (om_e56dba40ab q14))) tw_230 tw_231 (by decide +kernel) rfl rfl ⟨Nat.le_of_ble_eq_true rfl, Nat.le_of_ble_eq_true rfl⟩ (List.range (mW ad N cI cZ cJ (wA v 0 100 ((v.1 0 100) + (1 : Int32)))).length) (rg_map _) (mW_nd _ _ _ _ _ _) rfl rfl rfl rfl hl.1 rfl (Nat.le_of_ble_eq_true rfl) dX13_doStep_290 ⟨Nat.le_of_ble_eq_true rfl, Nat.le_of_ble_eq_true rfl⟩) hP hD hS hA (fun u16 H locs hw15 hP hD hS => ?_)
        have fr15 := hw15
        refine W.widen (k := 0) (n := 0) (Nat.le_refl _) (Nat.le_refl _) ?_
        refine lv_goto (tgt := 373) hx hb dX13_doStep_293 (by decide) ?_
        have q18 : (u16.1 0 95).toInt = (v.1 0 95).toInt := congrArg Int32.toInt ((fr15.2.1 95 (by decide)).trans (show (wA v 0 100 ((v.1 0 100) + (1 : Int32))).1 0 95 = (v.1 0 95) by rfl))
        have q19 : (u16.1 0 102).toInt = (v.1 0 102).toInt := congrArg Int32.toInt ((fr15.2.1 102 (by decide)).trans (show (wA v 0 100 ((v.1 0 100) + (1 : Int32))).1 0 102 = (v.1 0 102) by rfl))
        exact W.vret hx hb hr (fun t ht9 hW => ⟨⟨u16, rfl, ⟨(FG.tr (FG.f (FG.rf _) ((v.1 0 100) + (1 : Int32)) (by decide)) (FG.up fr15 (by decide) (by decide))), (show (v.1 0 95).toInt ≤ (u16.1 0 95).toInt ∧ (u16.1 0 95).toInt ≤ (v.1 0 95).toInt + 1 from (om_a5ca429bbe q18)), (show (v.1 0 102).toInt ≤ (u16.1 0 102).toInt ∧ (u16.1 0 102).toInt ≤ (v.1 0 102).toInt + 1 from (om_a5ca429bbe q19))⟩, by rw [ht9]; exact hP, hD⟩, hS.F ht9⟩) hS.2.2 dX13_doStep_373
      ·
        by_cases h20 : (((v.1 96) ((v.1 0 98) >>> ((2 : Int32) &&& 31)).toNatClampNeg) &&& (127 : Int32)) = 15
        · refine lv_lookup (off := 246) (tgt := 343) hx hb dX13_doStep_97 (by decide) (by rw [h20]; decide) (by decide) ?_
          refine lv_iload_n hx hb dX13_doStep_343 rfl (lv_at hl 2 rfl) ?_
          refine lv_if_eq (tgt := 355) hx hb dX13_doStep_344 (by decide) (fun h21 => ?_) (fun h21 => ?_)
          · have z22 : ((((v.1 96) ((v.1 0 98) >>> ((2 : Int32) &&& 31)).toNatClampNeg) >>> ((12 : Int32) &&& 31)) &&& (7 : Int32)).toInt = (0 : Int) := eq_z rfl (show (0 : Int32).toInt = (0 : Int) by decide) h21
            refine lv_aload_n hx hb dX13_doStep_355 rfl (lv_at hl 5 rfl) ?_
            refine lv_dup hx hb dX13_doStep_356 rfl ?_
            refine va_get (D := (dC, dI)) (ci := 16) (fs := mF ad (wA v 0 100 ((v.1 0 100) + (1 : Int32)))) (v := .int (v.1 0 98)) (C := RX13) (T := TX13) (N := 124) hx hb ht itX13 hown hK hP 0 rfl rfl 98 (by decide) (ht _ tw_208) (fun _ h9 => h9) rfl dX13_doStep_357 ?_
            refine lv_iconst (v := 4) hx hb dX13_doStep_360 (by decide) ?_
            refine lv_iadd hx hb dX13_doStep_361 ?_
            have z23 : ((v.1 0 98) + (4 : Int32)).toInt = ((v.1 0 98).toInt) + (4 : Int) := add_z rfl (show (4 : Int32).toInt = (4 : Int) by decide) (om_b6195aaeca e4 g4 z8) (om_2c9e8c59db zN e4 g4 z8)
            refine va_put (D := (dC, dI)) (ci := 16) (fs := mF ad (wA v 0 100 ((v.1 0 100) + (1 : Int32)))) (v := .int ((v.1 0 98) + (4 : Int32))) (ty := .int) (C := RX13) (T := TX13) (N := 124) hx hb ht itX13 tyX13 tyX13_ok nmX13 hown hK hP hD hS 0 rfl rfl 98 (by decide) (ht _ tw_208) (fun _ h9 => h9) rfl (by decide +kernel) rfl rfl (Nat.le_of_ble_eq_true rfl) dX13_doStep_362 (fun H locs hP hD hS => ?_)
            have hP := cP_ (mw_98 ad N cI cZ cJ (wA v 0 100 ((v.1 0 100) + (1 : Int32))) ((v.1 0 98) + (4 : Int32))) hP
            have hD := cD_ (mw_98 ad N cI cZ cJ (wA v 0 100 ((v.1 0 100) + (1 : Int32))) ((v.1 0 98) + (4 : Int32))) hD
            refine lv_goto (tgt := 373) hx hb dX13_doStep_365 (by decide) ?_
            exact W.vret hx hb hr (fun t ht9 hW => ⟨⟨(wA (wA v 0 100 ((v.1 0 100) + (1 : Int32))) 0 98 ((v.1 0 98) + (4 : Int32))), rfl, ⟨(FG.f (FG.f (FG.rf _) ((v.1 0 100) + (1 : Int32)) (by decide)) ((v.1 0 98) + (4 : Int32)) (by decide)), (show (v.1 0 95).toInt ≤ (v.1 0 95).toInt ∧ (v.1 0 95).toInt ≤ (v.1 0 95).toInt + 1 from om_b79dd2a91d), (show (v.1 0 102).toInt ≤ (v.1 0 102).toInt ∧ (v.1 0 102).toInt ≤ (v.1 0 102).toInt + 1 from om_b79dd2a91d)⟩, by rw [ht9]; exact hP, hD⟩, hS.F ht9⟩) hS.2.2 dX13_doStep_373
          · have z24 : ((((v.1 96) ((v.1 0 98) >>> ((2 : Int32) &&& 31)).toNatClampNeg) >>> ((12 : Int32) &&& 31)) &&& (7 : Int32)).toInt ≠ (0 : Int) := ne_z rfl (show (0 : Int32).toInt = (0 : Int) by decide) h21
            refine lv_aload_n hx hb dX13_doStep_347 rfl (lv_at hl 5 rfl) ?_
            refine lv_iconst (v := 2) hx hb dX13_doStep_348 (by decide) ?_
            refine va_put (D := (dC, dI)) (ci := 16) (fs := mF ad (wA v 0 100 ((v.1 0 100) + (1 : Int32)))) (v := .int 2) (ty := .int) (C := RX13) (T := TX13) (N := 124) hx hb ht itX13 tyX13 tyX13_ok nmX13 hown hK hP hD hS 0 rfl rfl 99 (by decide) (ht _ tw_210) (fun _ h9 => h9) rfl (by decide +kernel) rfl rfl (Nat.le_of_ble_eq_true rfl) dX13_doStep_349 (fun H locs hP hD hS => ?_)
            have hP := cP_ (mw_99 ad N cI cZ cJ (wA v 0 100 ((v.1 0 100) + (1 : Int32))) 2) hP
            have hD := cD_ (mw_99 ad N cI cZ cJ (wA v 0 100 ((v.1 0 100) + (1 : Int32))) 2) hD
            refine lv_goto (tgt := 373) hx hb dX13_doStep_352 (by decide) ?_
            exact W.vret hx hb hr (fun t ht9 hW => ⟨⟨(wA (wA v 0 100 ((v.1 0 100) + (1 : Int32))) 0 99 2), rfl, ⟨(FG.f (FG.f (FG.rf _) ((v.1 0 100) + (1 : Int32)) (by decide)) 2 (by decide)), (show (v.1 0 95).toInt ≤ (v.1 0 95).toInt ∧ (v.1 0 95).toInt ≤ (v.1 0 95).toInt + 1 from om_b79dd2a91d), (show (v.1 0 102).toInt ≤ (v.1 0 102).toInt ∧ (v.1 0 102).toInt ≤ (v.1 0 102).toInt + 1 from om_b79dd2a91d)⟩, by rw [ht9]; exact hP, hD⟩, hS.F ht9⟩) hS.2.2 dX13_doStep_373
        ·
          by_cases h25 : (((v.1 96) ((v.1 0 98) >>> ((2 : Int32) &&& 31)).toNatClampNeg) &&& (127 : Int32)) = 19
          · refine lv_lookup (off := 220) (tgt := 317) hx hb dX13_doStep_97 (by decide) (by rw [h25]; decide) (by decide) ?_
            refine lv_aload_n hx hb dX13_doStep_317 rfl (lv_at hl 5 rfl) ?_
            refine lv_iload_n hx hb dX13_doStep_318 rfl (lv_at hl 4 rfl) ?_
            refine lv_iload_n hx hb dX13_doStep_319 rfl (lv_at hl 3 rfl) ?_
            refine lv_iload_n hx hb dX13_doStep_320 rfl (lv_at hl 2 rfl) ?_
            refine lv_iload hx hb dX13_doStep_321 (lv_at hl 1 rfl) ?_
            have q26 : 0 ≤ ((((v.1 96) ((v.1 0 98) >>> ((2 : Int32) &&& 31)).toNatClampNeg) >>> ((7 : Int32) &&& 31)) &&& (31 : Int32)).toInt ∧ ((((v.1 96) ((v.1 0 98) >>> ((2 : Int32) &&& 31)).toNatClampNeg) >>> ((7 : Int32) &&& 31)) &&& (31 : Int32)).toInt < 32 := and_f (n := 32) (pk_andIn (((v.1 96) ((v.1 0 98) >>> ((2 : Int32) &&& 31)).toNatClampNeg) >>> ((7 : Int32) &&& 31)) 5 (by decide) (by decide))
            refine cu_v (rn_V (n := 4) (As := [.int ((v.1 96) ((v.1 0 98) >>> ((2 : Int32) &&& 31)).toNatClampNeg), .int ((((v.1 96) ((v.1 0 98) >>> ((2 : Int32) &&& 31)).toNatClampNeg) >>> ((7 : Int32) &&& 31)) &&& (31 : Int32)), .int ((((v.1 96) ((v.1 0 98) >>> ((2 : Int32) &&& 31)).toNatClampNeg) >>> ((12 : Int32) &&& 31)) &&& (7 : Int32)), .int ((v.1 97) ((((v.1 96) ((v.1 0 98) >>> ((2 : Int32) &&& 31)).toNatClampNeg) >>> ((15 : Int32) &&& 31)) &&& (31 : Int32)).toNatClampNeg)]) (rest := []) hx hb hml hown ht hKK hFx hP hD hS hA (c_m_byNumber l dC dI cI cB cZ cJ cR tb H.size ad N (wA v 0 100 ((v.1 0 100) + (1 : Int32))) ((v.1 96) ((v.1 0 98) >>> ((2 : Int32) &&& 31)).toNatClampNeg) ((((v.1 96) ((v.1 0 98) >>> ((2 : Int32) &&& 31)).toNatClampNeg) >>> ((7 : Int32) &&& 31)) &&& (31 : Int32)) ((((v.1 96) ((v.1 0 98) >>> ((2 : Int32) &&& 31)).toNatClampNeg) >>> ((12 : Int32) &&& 31)) &&& (7 : Int32)) ((v.1 97) ((((v.1 96) ((v.1 0 98) >>> ((2 : Int32) &&& 31)).toNatClampNeg) >>> ((15 : Int32) &&& 31)) &&& (31 : Int32)).toNatClampNeg) (show 0 ≤ ((((v.1 96) ((v.1 0 98) >>> ((2 : Int32) &&& 31)).toNatClampNeg) >>> ((7 : Int32) &&& 31)) &&& (31 : Int32)).toInt ∧ ((((v.1 96) ((v.1 0 98) >>> ((2 : Int32) &&& 31)).toNatClampNeg) >>> ((7 : Int32) &&& 31)) &&& (31 : Int32)).toInt < 32 from (om_325f1a4150 q26))) tw_232 tw_233 (by decide +kernel) rfl rfl ⟨Nat.le_of_ble_eq_true rfl, Nat.le_of_ble_eq_true rfl⟩ (List.range (mW ad N cI cZ cJ (wA v 0 100 ((v.1 0 100) + (1 : Int32)))).length) (rg_map _) (mW_nd _ _ _ _ _ _) rfl rfl rfl rfl hl.1 rfl (Nat.le_of_ble_eq_true rfl) dX13_doStep_323 ⟨Nat.le_of_ble_eq_true rfl, Nat.le_of_ble_eq_true rfl⟩) hP hD hS hA (fun u28 H locs hw27 hP hD hS => ?_)
            have fr27 := hw27
            refine W.widen (k := 0) (n := 0) (Nat.le_refl _) (Nat.le_refl _) ?_
            refine lv_goto (tgt := 373) hx hb dX13_doStep_326 (by decide) ?_
            have q30 : (u28.1 0 95).toInt = (v.1 0 95).toInt := congrArg Int32.toInt ((fr27.2.1 95 (by decide)).trans (show (wA v 0 100 ((v.1 0 100) + (1 : Int32))).1 0 95 = (v.1 0 95) by rfl))
            have q31 : (u28.1 0 102).toInt = (v.1 0 102).toInt := congrArg Int32.toInt ((fr27.2.1 102 (by decide)).trans (show (wA v 0 100 ((v.1 0 100) + (1 : Int32))).1 0 102 = (v.1 0 102) by rfl))
            exact W.vret hx hb hr (fun t ht9 hW => ⟨⟨u28, rfl, ⟨(FG.tr (FG.f (FG.rf _) ((v.1 0 100) + (1 : Int32)) (by decide)) (FG.up fr27 (by decide) (by decide))), (show (v.1 0 95).toInt ≤ (u28.1 0 95).toInt ∧ (u28.1 0 95).toInt ≤ (v.1 0 95).toInt + 1 from (om_a5ca429bbe q30)), (show (v.1 0 102).toInt ≤ (u28.1 0 102).toInt ∧ (u28.1 0 102).toInt ≤ (v.1 0 102).toInt + 1 from (om_a5ca429bbe q31))⟩, by rw [ht9]; exact hP, hD⟩, hS.F ht9⟩) hS.2.2 dX13_doStep_373
          ·
            by_cases h32 : (((v.1 96) ((v.1 0 98) >>> ((2 : Int32) &&& 31)).toNatClampNeg) &&& (127 : Int32)) = 23
            · refine lv_lookup (off := 104) (tgt := 201) hx hb dX13_doStep_97 (by decide) (by rw [h32]; decide) (by decide) ?_
              refine lv_aload_n hx hb dX13_doStep_201 rfl (lv_at hl 5 rfl) ?_
              refine lv_iload_n hx hb dX13_doStep_202 rfl (lv_at hl 3 rfl) ?_
              refine lv_aload_n hx hb dX13_doStep_203 rfl (lv_at hl 5 rfl) ?_
              refine va_get (D := (dC, dI)) (ci := 16) (fs := mF ad (wA v 0 100 ((v.1 0 100) + (1 : Int32)))) (v := .int (v.1 0 98)) (C := RX13) (T := TX13) (N := 124) hx hb ht itX13 hown hK hP 0 rfl rfl 98 (by decide) (ht _ tw_208) (fun _ h9 => h9) rfl dX13_doStep_204 ?_
              refine lv_iload_n hx hb dX13_doStep_207 rfl (lv_at hl 4 rfl) ?_
              refine lv_sipush (v := -4096) hx hb dX13_doStep_208 (by decide) ?_
              refine lv_iand hx hb dX13_doStep_211 ?_
              refine lv_iadd hx hb dX13_doStep_212 ?_
              have q33 : 0 ≤ ((((v.1 96) ((v.1 0 98) >>> ((2 : Int32) &&& 31)).toNatClampNeg) >>> ((7 : Int32) &&& 31)) &&& (31 : Int32)).toInt ∧ ((((v.1 96) ((v.1 0 98) >>> ((2 : Int32) &&& 31)).toNatClampNeg) >>> ((7 : Int32) &&& 31)) &&& (31 : Int32)).toInt < 32 := and_f (n := 32) (pk_andIn (((v.1 96) ((v.1 0 98) >>> ((2 : Int32) &&& 31)).toNatClampNeg) >>> ((7 : Int32) &&& 31)) 5 (by decide) (by decide))
              refine cu_v (rn_V (n := 2) (As := [.int ((((v.1 96) ((v.1 0 98) >>> ((2 : Int32) &&& 31)).toNatClampNeg) >>> ((7 : Int32) &&& 31)) &&& (31 : Int32)), .int ((v.1 0 98) + (((v.1 96) ((v.1 0 98) >>> ((2 : Int32) &&& 31)).toNatClampNeg) &&& ((-4096) : Int32)))]) (rest := []) hx hb hml hown ht hKK hFx hP hD hS hA (c_m_goes l dC dI cI cB cZ cJ cR tb H.size ad N (wA v 0 100 ((v.1 0 100) + (1 : Int32))) ((((v.1 96) ((v.1 0 98) >>> ((2 : Int32) &&& 31)).toNatClampNeg) >>> ((7 : Int32) &&& 31)) &&& (31 : Int32)) ((v.1 0 98) + (((v.1 96) ((v.1 0 98) >>> ((2 : Int32) &&& 31)).toNatClampNeg) &&& ((-4096) : Int32))) (show 0 ≤ ((((v.1 96) ((v.1 0 98) >>> ((2 : Int32) &&& 31)).toNatClampNeg) >>> ((7 : Int32) &&& 31)) &&& (31 : Int32)).toInt ∧ ((((v.1 96) ((v.1 0 98) >>> ((2 : Int32) &&& 31)).toNatClampNeg) >>> ((7 : Int32) &&& 31)) &&& (31 : Int32)).toInt < 32 from (om_325f1a4150 q33))) tw_216 tw_217 (by decide +kernel) rfl rfl ⟨Nat.le_of_ble_eq_true rfl, Nat.le_of_ble_eq_true rfl⟩ (List.range (mW ad N cI cZ cJ (wA v 0 100 ((v.1 0 100) + (1 : Int32)))).length) (rg_map _) (mW_nd _ _ _ _ _ _) rfl rfl rfl rfl hl.1 rfl (Nat.le_of_ble_eq_true rfl) dX13_doStep_213 ⟨Nat.le_of_ble_eq_true rfl, Nat.le_of_ble_eq_true rfl⟩) hP hD hS hA (fun u35 H locs hw34 hP hD hS => ?_)
              have fr34 := hw34
              refine W.widen (k := 0) (n := 0) (Nat.le_refl _) (Nat.le_refl _) ?_
              refine lv_goto (tgt := 373) hx hb dX13_doStep_216 (by decide) ?_
              have q37 : (u35.1 0 95).toInt = (v.1 0 95).toInt := congrArg Int32.toInt ((fr34.2.1 95 (by decide)).trans (show (wA v 0 100 ((v.1 0 100) + (1 : Int32))).1 0 95 = (v.1 0 95) by rfl))
              have q38 : (u35.1 0 102).toInt = (v.1 0 102).toInt := congrArg Int32.toInt ((fr34.2.1 102 (by decide)).trans (show (wA v 0 100 ((v.1 0 100) + (1 : Int32))).1 0 102 = (v.1 0 102) by rfl))
              exact W.vret hx hb hr (fun t ht9 hW => ⟨⟨u35, rfl, ⟨(FG.tr (FG.f (FG.rf _) ((v.1 0 100) + (1 : Int32)) (by decide)) (FG.up fr34 (by decide) (by decide))), (show (v.1 0 95).toInt ≤ (u35.1 0 95).toInt ∧ (u35.1 0 95).toInt ≤ (v.1 0 95).toInt + 1 from (om_a5ca429bbe q37)), (show (v.1 0 102).toInt ≤ (u35.1 0 102).toInt ∧ (u35.1 0 102).toInt ≤ (v.1 0 102).toInt + 1 from (om_a5ca429bbe q38))⟩, by rw [ht9]; exact hP, hD⟩, hS.F ht9⟩) hS.2.2 dX13_doStep_373
            ·
              by_cases h39 : (((v.1 96) ((v.1 0 98) >>> ((2 : Int32) &&& 31)).toNatClampNeg) &&& (127 : Int32)) = 35
              · refine lv_lookup (off := 199) (tgt := 296) hx hb dX13_doStep_97 (by decide) (by rw [h39]; decide) (by decide) ?_
                refine lv_aload_n hx hb dX13_doStep_296 rfl (lv_at hl 5 rfl) ?_
                refine lv_iload_n hx hb dX13_doStep_297 rfl (lv_at hl 2 rfl) ?_
                refine lv_iload hx hb dX13_doStep_298 (lv_at hl 1 rfl) ?_
                refine lv_iload_n hx hb dX13_doStep_300 rfl (lv_at hl 4 rfl) ?_
                refine lv_bipush (v := 25) hx hb dX13_doStep_301 (by decide) ?_
                refine lv_ishr hx hb dX13_doStep_303 ?_
                refine lv_iconst (v := 5) hx hb dX13_doStep_304 (by decide) ?_
                refine lv_ishl hx hb dX13_doStep_305 ?_
                refine lv_iload_n hx hb dX13_doStep_306 rfl (lv_at hl 3 rfl) ?_
                refine lv_ior hx hb dX13_doStep_307 ?_
                refine lv_iadd hx hb dX13_doStep_308 ?_
                refine lv_iload hx hb dX13_doStep_309 (lv_at hl 0 rfl) ?_
                have q40 : 0 ≤ ((((v.1 96) ((v.1 0 98) >>> ((2 : Int32) &&& 31)).toNatClampNeg) >>> ((12 : Int32) &&& 31)) &&& (7 : Int32)).toInt ∧ ((((v.1 96) ((v.1 0 98) >>> ((2 : Int32) &&& 31)).toNatClampNeg) >>> ((12 : Int32) &&& 31)) &&& (7 : Int32)).toInt < 8 := and_f (n := 8) (pk_andIn (((v.1 96) ((v.1 0 98) >>> ((2 : Int32) &&& 31)).toNatClampNeg) >>> ((12 : Int32) &&& 31)) 3 (by decide) (by decide))
                refine cu_v (rn_V (n := 3) (As := [.int ((((v.1 96) ((v.1 0 98) >>> ((2 : Int32) &&& 31)).toNatClampNeg) >>> ((12 : Int32) &&& 31)) &&& (7 : Int32)), .int (((v.1 97) ((((v.1 96) ((v.1 0 98) >>> ((2 : Int32) &&& 31)).toNatClampNeg) >>> ((15 : Int32) &&& 31)) &&& (31 : Int32)).toNatClampNeg) + (((((v.1 96) ((v.1 0 98) >>> ((2 : Int32) &&& 31)).toNatClampNeg) >>> ((25 : Int32) &&& 31)) <<< ((5 : Int32) &&& 31)) ||| ((((v.1 96) ((v.1 0 98) >>> ((2 : Int32) &&& 31)).toNatClampNeg) >>> ((7 : Int32) &&& 31)) &&& (31 : Int32)))), .int ((v.1 97) ((((v.1 96) ((v.1 0 98) >>> ((2 : Int32) &&& 31)).toNatClampNeg) >>> ((20 : Int32) &&& 31)) &&& (31 : Int32)).toNatClampNeg)]) (rest := []) hx hb hml hown ht hKK hFx hP hD hS hA (c_m_writes l dC dI cI cB cZ cJ cR tb H.size ad N (wA v 0 100 ((v.1 0 100) + (1 : Int32))) ((((v.1 96) ((v.1 0 98) >>> ((2 : Int32) &&& 31)).toNatClampNeg) >>> ((12 : Int32) &&& 31)) &&& (7 : Int32)) (((v.1 97) ((((v.1 96) ((v.1 0 98) >>> ((2 : Int32) &&& 31)).toNatClampNeg) >>> ((15 : Int32) &&& 31)) &&& (31 : Int32)).toNatClampNeg) + (((((v.1 96) ((v.1 0 98) >>> ((2 : Int32) &&& 31)).toNatClampNeg) >>> ((25 : Int32) &&& 31)) <<< ((5 : Int32) &&& 31)) ||| ((((v.1 96) ((v.1 0 98) >>> ((2 : Int32) &&& 31)).toNatClampNeg) >>> ((7 : Int32) &&& 31)) &&& (31 : Int32)))) ((v.1 97) ((((v.1 96) ((v.1 0 98) >>> ((2 : Int32) &&& 31)).toNatClampNeg) >>> ((20 : Int32) &&& 31)) &&& (31 : Int32)).toNatClampNeg) (show (256 : Int) ≤ (N : Int) ∧ (N : Int) ≤ 4096 from (om_c42fe0fb85 zN)) (show 0 ≤ ((((v.1 96) ((v.1 0 98) >>> ((2 : Int32) &&& 31)).toNatClampNeg) >>> ((12 : Int32) &&& 31)) &&& (7 : Int32)).toInt ∧ ((((v.1 96) ((v.1 0 98) >>> ((2 : Int32) &&& 31)).toNatClampNeg) >>> ((12 : Int32) &&& 31)) &&& (7 : Int32)).toInt < 8 from (om_e56dba40ab q40))) tw_234 tw_235 (by decide +kernel) rfl rfl ⟨Nat.le_of_ble_eq_true rfl, Nat.le_of_ble_eq_true rfl⟩ (List.range (mW ad N cI cZ cJ (wA v 0 100 ((v.1 0 100) + (1 : Int32)))).length) (rg_map _) (mW_nd _ _ _ _ _ _) rfl rfl rfl rfl hl.1 rfl (Nat.le_of_ble_eq_true rfl) dX13_doStep_311 ⟨Nat.le_of_ble_eq_true rfl, Nat.le_of_ble_eq_true rfl⟩) hP hD hS hA (fun u42 H locs hw41 hP hD hS => ?_)
                have fr41 := hw41
                refine W.widen (k := 0) (n := 0) (Nat.le_refl _) (Nat.le_refl _) ?_
                refine lv_goto (tgt := 373) hx hb dX13_doStep_314 (by decide) ?_
                have q44 : (u42.1 0 95).toInt = (v.1 0 95).toInt := congrArg Int32.toInt ((fr41.2.1 95 (by decide)).trans (show (wA v 0 100 ((v.1 0 100) + (1 : Int32))).1 0 95 = (v.1 0 95) by rfl))
                have q45 : (u42.1 0 102).toInt = (v.1 0 102).toInt := congrArg Int32.toInt ((fr41.2.1 102 (by decide)).trans (show (wA v 0 100 ((v.1 0 100) + (1 : Int32))).1 0 102 = (v.1 0 102) by rfl))
                exact W.vret hx hb hr (fun t ht9 hW => ⟨⟨u42, rfl, ⟨(FG.tr (FG.f (FG.rf _) ((v.1 0 100) + (1 : Int32)) (by decide)) (FG.up fr41 (by decide) (by decide))), (show (v.1 0 95).toInt ≤ (u42.1 0 95).toInt ∧ (u42.1 0 95).toInt ≤ (v.1 0 95).toInt + 1 from (om_a5ca429bbe q44)), (show (v.1 0 102).toInt ≤ (u42.1 0 102).toInt ∧ (u42.1 0 102).toInt ≤ (v.1 0 102).toInt + 1 from (om_a5ca429bbe q45))⟩, by rw [ht9]; exact hP, hD⟩, hS.F ht9⟩) hS.2.2 dX13_doStep_373
              ·
                by_cases h46 : (((v.1 96) ((v.1 0 98) >>> ((2 : Int32) &&& 31)).toNatClampNeg) &&& (127 : Int32)) = 51
                · refine lv_lookup (off := 232) (tgt := 329) hx hb dX13_doStep_97 (by decide) (by rw [h46]; decide) (by decide) ?_
                  refine lv_aload_n hx hb dX13_doStep_329 rfl (lv_at hl 5 rfl) ?_
                  refine lv_iload_n hx hb dX13_doStep_330 rfl (lv_at hl 4 rfl) ?_
                  refine lv_iload_n hx hb dX13_doStep_331 rfl (lv_at hl 3 rfl) ?_
                  refine lv_iload_n hx hb dX13_doStep_332 rfl (lv_at hl 2 rfl) ?_
                  refine lv_iload hx hb dX13_doStep_333 (lv_at hl 1 rfl) ?_
                  refine lv_iload hx hb dX13_doStep_335 (lv_at hl 0 rfl) ?_
                  have q47 : 0 ≤ ((((v.1 96) ((v.1 0 98) >>> ((2 : Int32) &&& 31)).toNatClampNeg) >>> ((7 : Int32) &&& 31)) &&& (31 : Int32)).toInt ∧ ((((v.1 96) ((v.1 0 98) >>> ((2 : Int32) &&& 31)).toNatClampNeg) >>> ((7 : Int32) &&& 31)) &&& (31 : Int32)).toInt < 32 := and_f (n := 32) (pk_andIn (((v.1 96) ((v.1 0 98) >>> ((2 : Int32) &&& 31)).toNatClampNeg) >>> ((7 : Int32) &&& 31)) 5 (by decide) (by decide))
                  refine cu_v (rn_V (n := 5) (As := [.int ((v.1 96) ((v.1 0 98) >>> ((2 : Int32) &&& 31)).toNatClampNeg), .int ((((v.1 96) ((v.1 0 98) >>> ((2 : Int32) &&& 31)).toNatClampNeg) >>> ((7 : Int32) &&& 31)) &&& (31 : Int32)), .int ((((v.1 96) ((v.1 0 98) >>> ((2 : Int32) &&& 31)).toNatClampNeg) >>> ((12 : Int32) &&& 31)) &&& (7 : Int32)), .int ((v.1 97) ((((v.1 96) ((v.1 0 98) >>> ((2 : Int32) &&& 31)).toNatClampNeg) >>> ((15 : Int32) &&& 31)) &&& (31 : Int32)).toNatClampNeg), .int ((v.1 97) ((((v.1 96) ((v.1 0 98) >>> ((2 : Int32) &&& 31)).toNatClampNeg) >>> ((20 : Int32) &&& 31)) &&& (31 : Int32)).toNatClampNeg)]) (rest := []) hx hb hml hown ht hKK hFx hP hD hS hA (c_m_byRegister l dC dI cI cB cZ cJ cR tb H.size ad N (wA v 0 100 ((v.1 0 100) + (1 : Int32))) ((v.1 96) ((v.1 0 98) >>> ((2 : Int32) &&& 31)).toNatClampNeg) ((((v.1 96) ((v.1 0 98) >>> ((2 : Int32) &&& 31)).toNatClampNeg) >>> ((7 : Int32) &&& 31)) &&& (31 : Int32)) ((((v.1 96) ((v.1 0 98) >>> ((2 : Int32) &&& 31)).toNatClampNeg) >>> ((12 : Int32) &&& 31)) &&& (7 : Int32)) ((v.1 97) ((((v.1 96) ((v.1 0 98) >>> ((2 : Int32) &&& 31)).toNatClampNeg) >>> ((15 : Int32) &&& 31)) &&& (31 : Int32)).toNatClampNeg) ((v.1 97) ((((v.1 96) ((v.1 0 98) >>> ((2 : Int32) &&& 31)).toNatClampNeg) >>> ((20 : Int32) &&& 31)) &&& (31 : Int32)).toNatClampNeg) (show 0 ≤ ((((v.1 96) ((v.1 0 98) >>> ((2 : Int32) &&& 31)).toNatClampNeg) >>> ((7 : Int32) &&& 31)) &&& (31 : Int32)).toInt ∧ ((((v.1 96) ((v.1 0 98) >>> ((2 : Int32) &&& 31)).toNatClampNeg) >>> ((7 : Int32) &&& 31)) &&& (31 : Int32)).toInt < 32 from (om_325f1a4150 q47))) tw_236 tw_237 (by decide +kernel) rfl rfl ⟨Nat.le_of_ble_eq_true rfl, Nat.le_of_ble_eq_true rfl⟩ (List.range (mW ad N cI cZ cJ (wA v 0 100 ((v.1 0 100) + (1 : Int32)))).length) (rg_map _) (mW_nd _ _ _ _ _ _) rfl rfl rfl rfl hl.1 rfl (Nat.le_of_ble_eq_true rfl) dX13_doStep_337 ⟨Nat.le_of_ble_eq_true rfl, Nat.le_of_ble_eq_true rfl⟩) hP hD hS hA (fun u49 H locs hw48 hP hD hS => ?_)
                  have fr48 := hw48
                  refine W.widen (k := 0) (n := 0) (Nat.le_refl _) (Nat.le_refl _) ?_
                  refine lv_goto (tgt := 373) hx hb dX13_doStep_340 (by decide) ?_
                  have q51 : (u49.1 0 95).toInt = (v.1 0 95).toInt := congrArg Int32.toInt ((fr48.2.1 95 (by decide)).trans (show (wA v 0 100 ((v.1 0 100) + (1 : Int32))).1 0 95 = (v.1 0 95) by rfl))
                  have q52 : (u49.1 0 102).toInt = (v.1 0 102).toInt := congrArg Int32.toInt ((fr48.2.1 102 (by decide)).trans (show (wA v 0 100 ((v.1 0 100) + (1 : Int32))).1 0 102 = (v.1 0 102) by rfl))
                  exact W.vret hx hb hr (fun t ht9 hW => ⟨⟨u49, rfl, ⟨(FG.tr (FG.f (FG.rf _) ((v.1 0 100) + (1 : Int32)) (by decide)) (FG.up fr48 (by decide) (by decide))), (show (v.1 0 95).toInt ≤ (u49.1 0 95).toInt ∧ (u49.1 0 95).toInt ≤ (v.1 0 95).toInt + 1 from (om_a5ca429bbe q51)), (show (v.1 0 102).toInt ≤ (u49.1 0 102).toInt ∧ (u49.1 0 102).toInt ≤ (v.1 0 102).toInt + 1 from (om_a5ca429bbe q52))⟩, by rw [ht9]; exact hP, hD⟩, hS.F ht9⟩) hS.2.2 dX13_doStep_373
                ·
                  by_cases h53 : (((v.1 96) ((v.1 0 98) >>> ((2 : Int32) &&& 31)).toNatClampNeg) &&& (127 : Int32)) = 55
                  · refine lv_lookup (off := 91) (tgt := 188) hx hb dX13_doStep_97 (by decide) (by rw [h53]; decide) (by decide) ?_
                    refine lv_aload_n hx hb dX13_doStep_188 rfl (lv_at hl 5 rfl) ?_
                    refine lv_iload_n hx hb dX13_doStep_189 rfl (lv_at hl 3 rfl) ?_
                    refine lv_iload_n hx hb dX13_doStep_190 rfl (lv_at hl 4 rfl) ?_
                    refine lv_sipush (v := -4096) hx hb dX13_doStep_191 (by decide) ?_
                    refine lv_iand hx hb dX13_doStep_194 ?_
                    have q54 : 0 ≤ ((((v.1 96) ((v.1 0 98) >>> ((2 : Int32) &&& 31)).toNatClampNeg) >>> ((7 : Int32) &&& 31)) &&& (31 : Int32)).toInt ∧ ((((v.1 96) ((v.1 0 98) >>> ((2 : Int32) &&& 31)).toNatClampNeg) >>> ((7 : Int32) &&& 31)) &&& (31 : Int32)).toInt < 32 := and_f (n := 32) (pk_andIn (((v.1 96) ((v.1 0 98) >>> ((2 : Int32) &&& 31)).toNatClampNeg) >>> ((7 : Int32) &&& 31)) 5 (by decide) (by decide))
                    refine cu_v (rn_V (n := 2) (As := [.int ((((v.1 96) ((v.1 0 98) >>> ((2 : Int32) &&& 31)).toNatClampNeg) >>> ((7 : Int32) &&& 31)) &&& (31 : Int32)), .int (((v.1 96) ((v.1 0 98) >>> ((2 : Int32) &&& 31)).toNatClampNeg) &&& ((-4096) : Int32))]) (rest := []) hx hb hml hown ht hKK hFx hP hD hS hA (c_m_goes l dC dI cI cB cZ cJ cR tb H.size ad N (wA v 0 100 ((v.1 0 100) + (1 : Int32))) ((((v.1 96) ((v.1 0 98) >>> ((2 : Int32) &&& 31)).toNatClampNeg) >>> ((7 : Int32) &&& 31)) &&& (31 : Int32)) (((v.1 96) ((v.1 0 98) >>> ((2 : Int32) &&& 31)).toNatClampNeg) &&& ((-4096) : Int32)) (show 0 ≤ ((((v.1 96) ((v.1 0 98) >>> ((2 : Int32) &&& 31)).toNatClampNeg) >>> ((7 : Int32) &&& 31)) &&& (31 : Int32)).toInt ∧ ((((v.1 96) ((v.1 0 98) >>> ((2 : Int32) &&& 31)).toNatClampNeg) >>> ((7 : Int32) &&& 31)) &&& (31 : Int32)).toInt < 32 from (om_325f1a4150 q54))) tw_216 tw_217 (by decide +kernel) rfl rfl ⟨Nat.le_of_ble_eq_true rfl, Nat.le_of_ble_eq_true rfl⟩ (List.range (mW ad N cI cZ cJ (wA v 0 100 ((v.1 0 100) + (1 : Int32)))).length) (rg_map _) (mW_nd _ _ _ _ _ _) rfl rfl rfl rfl hl.1 rfl (Nat.le_of_ble_eq_true rfl) dX13_doStep_195 ⟨Nat.le_of_ble_eq_true rfl, Nat.le_of_ble_eq_true rfl⟩) hP hD hS hA (fun u56 H locs hw55 hP hD hS => ?_)
                    have fr55 := hw55
                    refine W.widen (k := 0) (n := 0) (Nat.le_refl _) (Nat.le_refl _) ?_
                    refine lv_goto (tgt := 373) hx hb dX13_doStep_198 (by decide) ?_
                    have q58 : (u56.1 0 95).toInt = (v.1 0 95).toInt := congrArg Int32.toInt ((fr55.2.1 95 (by decide)).trans (show (wA v 0 100 ((v.1 0 100) + (1 : Int32))).1 0 95 = (v.1 0 95) by rfl))
                    have q59 : (u56.1 0 102).toInt = (v.1 0 102).toInt := congrArg Int32.toInt ((fr55.2.1 102 (by decide)).trans (show (wA v 0 100 ((v.1 0 100) + (1 : Int32))).1 0 102 = (v.1 0 102) by rfl))
                    exact W.vret hx hb hr (fun t ht9 hW => ⟨⟨u56, rfl, ⟨(FG.tr (FG.f (FG.rf _) ((v.1 0 100) + (1 : Int32)) (by decide)) (FG.up fr55 (by decide) (by decide))), (show (v.1 0 95).toInt ≤ (u56.1 0 95).toInt ∧ (u56.1 0 95).toInt ≤ (v.1 0 95).toInt + 1 from (om_a5ca429bbe q58)), (show (v.1 0 102).toInt ≤ (u56.1 0 102).toInt ∧ (u56.1 0 102).toInt ≤ (v.1 0 102).toInt + 1 from (om_a5ca429bbe q59))⟩, by rw [ht9]; exact hP, hD⟩, hS.F ht9⟩) hS.2.2 dX13_doStep_373
                  ·
                    by_cases h60 : (((v.1 96) ((v.1 0 98) >>> ((2 : Int32) &&& 31)).toNatClampNeg) &&& (127 : Int32)) = 99
                    · refine lv_lookup (off := 169) (tgt := 266) hx hb dX13_doStep_97 (by decide) (by rw [h60]; decide) (by decide) ?_
                      refine lv_aload_n hx hb dX13_doStep_266 rfl (lv_at hl 5 rfl) ?_
                      refine lv_iload_n hx hb dX13_doStep_267 rfl (lv_at hl 4 rfl) ?_
                      refine lv_iload_n hx hb dX13_doStep_268 rfl (lv_at hl 2 rfl) ?_
                      refine lv_iload hx hb dX13_doStep_269 (lv_at hl 1 rfl) ?_
                      refine lv_iload hx hb dX13_doStep_271 (lv_at hl 0 rfl) ?_
                      refine cu_v (rn_V (n := 4) (As := [.int ((v.1 96) ((v.1 0 98) >>> ((2 : Int32) &&& 31)).toNatClampNeg), .int ((((v.1 96) ((v.1 0 98) >>> ((2 : Int32) &&& 31)).toNatClampNeg) >>> ((12 : Int32) &&& 31)) &&& (7 : Int32)), .int ((v.1 97) ((((v.1 96) ((v.1 0 98) >>> ((2 : Int32) &&& 31)).toNatClampNeg) >>> ((15 : Int32) &&& 31)) &&& (31 : Int32)).toNatClampNeg), .int ((v.1 97) ((((v.1 96) ((v.1 0 98) >>> ((2 : Int32) &&& 31)).toNatClampNeg) >>> ((20 : Int32) &&& 31)) &&& (31 : Int32)).toNatClampNeg)]) (rest := []) hx hb hml hown ht hKK hFx hP hD hS hA (c_m_branches l dC dI cI cB cZ cJ cR tb H.size ad N (wA v 0 100 ((v.1 0 100) + (1 : Int32))) ((v.1 96) ((v.1 0 98) >>> ((2 : Int32) &&& 31)).toNatClampNeg) ((((v.1 96) ((v.1 0 98) >>> ((2 : Int32) &&& 31)).toNatClampNeg) >>> ((12 : Int32) &&& 31)) &&& (7 : Int32)) ((v.1 97) ((((v.1 96) ((v.1 0 98) >>> ((2 : Int32) &&& 31)).toNatClampNeg) >>> ((15 : Int32) &&& 31)) &&& (31 : Int32)).toNatClampNeg) ((v.1 97) ((((v.1 96) ((v.1 0 98) >>> ((2 : Int32) &&& 31)).toNatClampNeg) >>> ((20 : Int32) &&& 31)) &&& (31 : Int32)).toNatClampNeg) ) tw_238 tw_239 (by decide +kernel) rfl rfl ⟨Nat.le_of_ble_eq_true rfl, Nat.le_of_ble_eq_true rfl⟩ (List.range (mW ad N cI cZ cJ (wA v 0 100 ((v.1 0 100) + (1 : Int32)))).length) (rg_map _) (mW_nd _ _ _ _ _ _) rfl rfl rfl rfl hl.1 rfl (Nat.le_of_ble_eq_true rfl) dX13_doStep_273 ⟨Nat.le_of_ble_eq_true rfl, Nat.le_of_ble_eq_true rfl⟩) hP hD hS hA (fun u62 H locs hw61 hP hD hS => ?_)
                      have fr61 := hw61
                      refine W.widen (k := 0) (n := 0) (Nat.le_refl _) (Nat.le_refl _) ?_
                      refine lv_goto (tgt := 373) hx hb dX13_doStep_276 (by decide) ?_
                      have q64 : (u62.1 0 95).toInt = (v.1 0 95).toInt := congrArg Int32.toInt ((fr61.2.1 95 (by decide)).trans (show (wA v 0 100 ((v.1 0 100) + (1 : Int32))).1 0 95 = (v.1 0 95) by rfl))
                      have q65 : (u62.1 0 102).toInt = (v.1 0 102).toInt := congrArg Int32.toInt ((fr61.2.1 102 (by decide)).trans (show (wA v 0 100 ((v.1 0 100) + (1 : Int32))).1 0 102 = (v.1 0 102) by rfl))
                      exact W.vret hx hb hr (fun t ht9 hW => ⟨⟨u62, rfl, ⟨(FG.tr (FG.f (FG.rf _) ((v.1 0 100) + (1 : Int32)) (by decide)) (FG.up fr61 (by decide) (by decide))), (show (v.1 0 95).toInt ≤ (u62.1 0 95).toInt ∧ (u62.1 0 95).toInt ≤ (v.1 0 95).toInt + 1 from (om_a5ca429bbe q64)), (show (v.1 0 102).toInt ≤ (u62.1 0 102).toInt ∧ (u62.1 0 102).toInt ≤ (v.1 0 102).toInt + 1 from (om_a5ca429bbe q65))⟩, by rw [ht9]; exact hP, hD⟩, hS.F ht9⟩) hS.2.2 dX13_doStep_373
                    ·
                      by_cases h66 : (((v.1 96) ((v.1 0 98) >>> ((2 : Int32) &&& 31)).toNatClampNeg) &&& (127 : Int32)) = 103
                      · refine lv_lookup (off := 139) (tgt := 236) hx hb dX13_doStep_97 (by decide) (by rw [h66]; decide) (by decide) ?_
                        refine lv_iload_n hx hb dX13_doStep_236 rfl (lv_at hl 2 rfl) ?_
                        refine lv_if_eq (tgt := 248) hx hb dX13_doStep_237 (by decide) (fun h67 => ?_) (fun h67 => ?_)
                        · have z68 : ((((v.1 96) ((v.1 0 98) >>> ((2 : Int32) &&& 31)).toNatClampNeg) >>> ((12 : Int32) &&& 31)) &&& (7 : Int32)).toInt = (0 : Int) := eq_z rfl (show (0 : Int32).toInt = (0 : Int) by decide) h67
                          refine lv_aload_n hx hb dX13_doStep_248 rfl (lv_at hl 5 rfl) ?_
                          refine lv_iload_n hx hb dX13_doStep_249 rfl (lv_at hl 3 rfl) ?_
                          refine lv_iload hx hb dX13_doStep_250 (lv_at hl 1 rfl) ?_
                          refine lv_iload_n hx hb dX13_doStep_252 rfl (lv_at hl 4 rfl) ?_
                          refine lv_bipush (v := 20) hx hb dX13_doStep_253 (by decide) ?_
                          refine lv_ishr hx hb dX13_doStep_255 ?_
                          refine lv_iadd hx hb dX13_doStep_256 ?_
                          refine lv_bipush (v := -2) hx hb dX13_doStep_257 (by decide) ?_
                          refine lv_iand hx hb dX13_doStep_259 ?_
                          have q69 : 0 ≤ ((((v.1 96) ((v.1 0 98) >>> ((2 : Int32) &&& 31)).toNatClampNeg) >>> ((7 : Int32) &&& 31)) &&& (31 : Int32)).toInt ∧ ((((v.1 96) ((v.1 0 98) >>> ((2 : Int32) &&& 31)).toNatClampNeg) >>> ((7 : Int32) &&& 31)) &&& (31 : Int32)).toInt < 32 := and_f (n := 32) (pk_andIn (((v.1 96) ((v.1 0 98) >>> ((2 : Int32) &&& 31)).toNatClampNeg) >>> ((7 : Int32) &&& 31)) 5 (by decide) (by decide))
                          refine cu_v (rn_V (n := 2) (As := [.int ((((v.1 96) ((v.1 0 98) >>> ((2 : Int32) &&& 31)).toNatClampNeg) >>> ((7 : Int32) &&& 31)) &&& (31 : Int32)), .int ((((v.1 97) ((((v.1 96) ((v.1 0 98) >>> ((2 : Int32) &&& 31)).toNatClampNeg) >>> ((15 : Int32) &&& 31)) &&& (31 : Int32)).toNatClampNeg) + (((v.1 96) ((v.1 0 98) >>> ((2 : Int32) &&& 31)).toNatClampNeg) >>> ((20 : Int32) &&& 31))) &&& ((-2) : Int32))]) (rest := []) hx hb hml hown ht hKK hFx hP hD hS hA (c_m_jumps l dC dI cI cB cZ cJ cR tb H.size ad N (wA v 0 100 ((v.1 0 100) + (1 : Int32))) ((((v.1 96) ((v.1 0 98) >>> ((2 : Int32) &&& 31)).toNatClampNeg) >>> ((7 : Int32) &&& 31)) &&& (31 : Int32)) ((((v.1 97) ((((v.1 96) ((v.1 0 98) >>> ((2 : Int32) &&& 31)).toNatClampNeg) >>> ((15 : Int32) &&& 31)) &&& (31 : Int32)).toNatClampNeg) + (((v.1 96) ((v.1 0 98) >>> ((2 : Int32) &&& 31)).toNatClampNeg) >>> ((20 : Int32) &&& 31))) &&& ((-2) : Int32)) (show 0 ≤ ((((v.1 96) ((v.1 0 98) >>> ((2 : Int32) &&& 31)).toNatClampNeg) >>> ((7 : Int32) &&& 31)) &&& (31 : Int32)).toInt ∧ ((((v.1 96) ((v.1 0 98) >>> ((2 : Int32) &&& 31)).toNatClampNeg) >>> ((7 : Int32) &&& 31)) &&& (31 : Int32)).toInt < 32 from (om_325f1a4150 q69))) tw_240 tw_241 (by decide +kernel) rfl rfl ⟨Nat.le_of_ble_eq_true rfl, Nat.le_of_ble_eq_true rfl⟩ (List.range (mW ad N cI cZ cJ (wA v 0 100 ((v.1 0 100) + (1 : Int32)))).length) (rg_map _) (mW_nd _ _ _ _ _ _) rfl rfl rfl rfl hl.1 rfl (Nat.le_of_ble_eq_true rfl) dX13_doStep_260 ⟨Nat.le_of_ble_eq_true rfl, Nat.le_of_ble_eq_true rfl⟩) hP hD hS hA (fun u71 H locs hw70 hP hD hS => ?_)
                          have fr70 := hw70
                          refine W.widen (k := 0) (n := 0) (Nat.le_refl _) (Nat.le_refl _) ?_
                          refine lv_goto (tgt := 373) hx hb dX13_doStep_263 (by decide) ?_
                          have q73 : (u71.1 0 95).toInt = (v.1 0 95).toInt := congrArg Int32.toInt ((fr70.2.1 95 (by decide)).trans (show (wA v 0 100 ((v.1 0 100) + (1 : Int32))).1 0 95 = (v.1 0 95) by rfl))
                          have q74 : (u71.1 0 102).toInt = (v.1 0 102).toInt := congrArg Int32.toInt ((fr70.2.1 102 (by decide)).trans (show (wA v 0 100 ((v.1 0 100) + (1 : Int32))).1 0 102 = (v.1 0 102) by rfl))
                          exact W.vret hx hb hr (fun t ht9 hW => ⟨⟨u71, rfl, ⟨(FG.tr (FG.f (FG.rf _) ((v.1 0 100) + (1 : Int32)) (by decide)) (FG.up fr70 (by decide) (by decide))), (show (v.1 0 95).toInt ≤ (u71.1 0 95).toInt ∧ (u71.1 0 95).toInt ≤ (v.1 0 95).toInt + 1 from (om_a5ca429bbe q73)), (show (v.1 0 102).toInt ≤ (u71.1 0 102).toInt ∧ (u71.1 0 102).toInt ≤ (v.1 0 102).toInt + 1 from (om_a5ca429bbe q74))⟩, by rw [ht9]; exact hP, hD⟩, hS.F ht9⟩) hS.2.2 dX13_doStep_373
                        · have z75 : ((((v.1 96) ((v.1 0 98) >>> ((2 : Int32) &&& 31)).toNatClampNeg) >>> ((12 : Int32) &&& 31)) &&& (7 : Int32)).toInt ≠ (0 : Int) := ne_z rfl (show (0 : Int32).toInt = (0 : Int) by decide) h67
                          refine lv_aload_n hx hb dX13_doStep_240 rfl (lv_at hl 5 rfl) ?_
                          refine lv_iconst (v := 2) hx hb dX13_doStep_241 (by decide) ?_
                          refine va_put (D := (dC, dI)) (ci := 16) (fs := mF ad (wA v 0 100 ((v.1 0 100) + (1 : Int32)))) (v := .int 2) (ty := .int) (C := RX13) (T := TX13) (N := 124) hx hb ht itX13 tyX13 tyX13_ok nmX13 hown hK hP hD hS 0 rfl rfl 99 (by decide) (ht _ tw_210) (fun _ h9 => h9) rfl (by decide +kernel) rfl rfl (Nat.le_of_ble_eq_true rfl) dX13_doStep_242 (fun H locs hP hD hS => ?_)
                          have hP := cP_ (mw_99 ad N cI cZ cJ (wA v 0 100 ((v.1 0 100) + (1 : Int32))) 2) hP
                          have hD := cD_ (mw_99 ad N cI cZ cJ (wA v 0 100 ((v.1 0 100) + (1 : Int32))) 2) hD
                          refine lv_goto (tgt := 373) hx hb dX13_doStep_245 (by decide) ?_
                          exact W.vret hx hb hr (fun t ht9 hW => ⟨⟨(wA (wA v 0 100 ((v.1 0 100) + (1 : Int32))) 0 99 2), rfl, ⟨(FG.f (FG.f (FG.rf _) ((v.1 0 100) + (1 : Int32)) (by decide)) 2 (by decide)), (show (v.1 0 95).toInt ≤ (v.1 0 95).toInt ∧ (v.1 0 95).toInt ≤ (v.1 0 95).toInt + 1 from om_b79dd2a91d), (show (v.1 0 102).toInt ≤ (v.1 0 102).toInt ∧ (v.1 0 102).toInt ≤ (v.1 0 102).toInt + 1 from om_b79dd2a91d)⟩, by rw [ht9]; exact hP, hD⟩, hS.F ht9⟩) hS.2.2 dX13_doStep_373
                      ·
                        by_cases h76 : (((v.1 96) ((v.1 0 98) >>> ((2 : Int32) &&& 31)).toNatClampNeg) &&& (127 : Int32)) = 111
                        · refine lv_lookup (off := 122) (tgt := 219) hx hb dX13_doStep_97 (by decide) (by rw [h76]; decide) (by decide) ?_
                          refine lv_aload_n hx hb dX13_doStep_219 rfl (lv_at hl 5 rfl) ?_
                          refine lv_iload_n hx hb dX13_doStep_220 rfl (lv_at hl 3 rfl) ?_
                          refine lv_aload_n hx hb dX13_doStep_221 rfl (lv_at hl 5 rfl) ?_
                          refine va_get (D := (dC, dI)) (ci := 16) (fs := mF ad (wA v 0 100 ((v.1 0 100) + (1 : Int32)))) (v := .int (v.1 0 98)) (C := RX13) (T := TX13) (N := 124) hx hb ht itX13 hown hK hP 0 rfl rfl 98 (by decide) (ht _ tw_208) (fun _ h9 => h9) rfl dX13_doStep_222 ?_
                          refine lv_iload_n hx hb dX13_doStep_225 rfl (lv_at hl 4 rfl) ?_
                          refine cu_s (mW_nd _ _ _ _ _ _) (rn_S (n := 1) (As := [.int ((v.1 96) ((v.1 0 98) >>> ((2 : Int32) &&& 31)).toNatClampNeg)]) (rest := [.int (v.1 0 98), .int ((((v.1 96) ((v.1 0 98) >>> ((2 : Int32) &&& 31)).toNatClampNeg) >>> ((7 : Int32) &&& 31)) &&& (31 : Int32)), .ref (ad 0)]) hx hb hml hown ht hKK hFx hP hD hS hA (c_m_imJ l dC dI cI cB cZ cJ cR tb H.size ((v.1 96) ((v.1 0 98) >>> ((2 : Int32) &&& 31)).toNatClampNeg) ) tw_242 tw_243 (by decide +kernel) rfl rfl ⟨Nat.le_of_ble_eq_true rfl, Nat.le_of_ble_eq_true rfl⟩ [] rfl rfl rfl hl.1 rfl (Nat.le_of_ble_eq_true rfl) dX13_doStep_226 ⟨Nat.le_of_ble_eq_true rfl, Nat.le_of_ble_eq_true rfl⟩) hP hD hS hA (fun r79 H locs hw77 hP hD hS => ?_)
                          refine W.widen (k := 0) (n := 0) (Nat.le_refl _) (Nat.le_refl _) ?_
                          refine lv_iadd hx hb dX13_doStep_229 ?_
                          have q80 : 0 ≤ ((((v.1 96) ((v.1 0 98) >>> ((2 : Int32) &&& 31)).toNatClampNeg) >>> ((7 : Int32) &&& 31)) &&& (31 : Int32)).toInt ∧ ((((v.1 96) ((v.1 0 98) >>> ((2 : Int32) &&& 31)).toNatClampNeg) >>> ((7 : Int32) &&& 31)) &&& (31 : Int32)).toInt < 32 := and_f (n := 32) (pk_andIn (((v.1 96) ((v.1 0 98) >>> ((2 : Int32) &&& 31)).toNatClampNeg) >>> ((7 : Int32) &&& 31)) 5 (by decide) (by decide))
                          refine cu_v (rn_V (n := 2) (As := [.int ((((v.1 96) ((v.1 0 98) >>> ((2 : Int32) &&& 31)).toNatClampNeg) >>> ((7 : Int32) &&& 31)) &&& (31 : Int32)), .int ((v.1 0 98) + r79)]) (rest := []) hx hb hml hown ht hKK hFx hP hD hS hA (c_m_jumps l dC dI cI cB cZ cJ cR tb H.size ad N (wA v 0 100 ((v.1 0 100) + (1 : Int32))) ((((v.1 96) ((v.1 0 98) >>> ((2 : Int32) &&& 31)).toNatClampNeg) >>> ((7 : Int32) &&& 31)) &&& (31 : Int32)) ((v.1 0 98) + r79) (show 0 ≤ ((((v.1 96) ((v.1 0 98) >>> ((2 : Int32) &&& 31)).toNatClampNeg) >>> ((7 : Int32) &&& 31)) &&& (31 : Int32)).toInt ∧ ((((v.1 96) ((v.1 0 98) >>> ((2 : Int32) &&& 31)).toNatClampNeg) >>> ((7 : Int32) &&& 31)) &&& (31 : Int32)).toInt < 32 from (om_325f1a4150 q80))) tw_240 tw_241 (by decide +kernel) rfl rfl ⟨Nat.le_of_ble_eq_true rfl, Nat.le_of_ble_eq_true rfl⟩ (List.range (mW ad N cI cZ cJ (wA v 0 100 ((v.1 0 100) + (1 : Int32)))).length) (rg_map _) (mW_nd _ _ _ _ _ _) rfl rfl rfl rfl hl.1 rfl (Nat.le_of_ble_eq_true rfl) dX13_doStep_230 ⟨Nat.le_of_ble_eq_true rfl, Nat.le_of_ble_eq_true rfl⟩) hP hD hS hA (fun u82 H locs hw81 hP hD hS => ?_)
                          have fr81 := hw81
                          refine W.widen (k := 0) (n := 0) (Nat.le_refl _) (Nat.le_refl _) ?_
                          refine lv_goto (tgt := 373) hx hb dX13_doStep_233 (by decide) ?_
                          have q84 : (u82.1 0 95).toInt = (v.1 0 95).toInt := congrArg Int32.toInt ((fr81.2.1 95 (by decide)).trans (show (wA v 0 100 ((v.1 0 100) + (1 : Int32))).1 0 95 = (v.1 0 95) by rfl))
                          have q85 : (u82.1 0 102).toInt = (v.1 0 102).toInt := congrArg Int32.toInt ((fr81.2.1 102 (by decide)).trans (show (wA v 0 100 ((v.1 0 100) + (1 : Int32))).1 0 102 = (v.1 0 102) by rfl))
                          exact W.vret hx hb hr (fun t ht9 hW => ⟨⟨u82, rfl, ⟨(FG.tr (FG.f (FG.rf _) ((v.1 0 100) + (1 : Int32)) (by decide)) (FG.up fr81 (by decide) (by decide))), (show (v.1 0 95).toInt ≤ (u82.1 0 95).toInt ∧ (u82.1 0 95).toInt ≤ (v.1 0 95).toInt + 1 from (om_a5ca429bbe q84)), (show (v.1 0 102).toInt ≤ (u82.1 0 102).toInt ∧ (u82.1 0 102).toInt ≤ (v.1 0 102).toInt + 1 from (om_a5ca429bbe q85))⟩, by rw [ht9]; exact hP, hD⟩, hS.F ht9⟩) hS.2.2 dX13_doStep_373
                        ·
                          refine lv_lookup (off := 271) (tgt := 368) hx hb dX13_doStep_97 (by decide) (by show Op.lookupswitch.offset [(3, 182), (15, 246), (19, 220), (23, 104), (35, 199), (51, 232), (55, 91), (99, 169), (103, 139), (111, 122)] 271 _ = 271; rw [lv_osw h12 (by decide), lv_osw h20 (by decide), lv_osw h25 (by decide), lv_osw h32 (by decide), lv_osw h39 (by decide), lv_osw h46 (by decide), lv_osw h53 (by decide), lv_osw h60 (by decide), lv_osw h66 (by decide), lv_osw h76 (by decide)]; rfl) (by decide) ?_
                          refine lv_aload_n hx hb dX13_doStep_368 rfl (lv_at hl 5 rfl) ?_
                          refine lv_iload_n hx hb dX13_doStep_369 rfl (lv_at hl 4 rfl) ?_
                          refine cu_v (rn_V (n := 1) (As := [.int ((v.1 96) ((v.1 0 98) >>> ((2 : Int32) &&& 31)).toNatClampNeg)]) (rest := []) hx hb hml hown ht hKK hFx hP hD hS hA (c_m_calls l dC dI cI cB cZ cJ cR tb H.size ad N (wA v 0 100 ((v.1 0 100) + (1 : Int32))) ((v.1 96) ((v.1 0 98) >>> ((2 : Int32) &&& 31)).toNatClampNeg) (show 0 ≤ (v.1 0 94).toInt ∧ (v.1 0 94).toInt ≤ 64 from (om_0522002ca7 zg)) (show 0 ≤ (v.1 0 95).toInt ∧ (v.1 0 95).toInt ≤ 2000000000 from (om_2956d0ba8e zu)) (show 0 ≤ (v.1 0 102).toInt ∧ (v.1 0 102).toInt ≤ 2000000000 from (om_2956d0ba8e zp))) tw_244 tw_245 (by decide +kernel) rfl rfl ⟨Nat.le_of_ble_eq_true rfl, Nat.le_of_ble_eq_true rfl⟩ (List.range (mW ad N cI cZ cJ (wA v 0 100 ((v.1 0 100) + (1 : Int32)))).length) (rg_map _) (mW_nd _ _ _ _ _ _) rfl rfl rfl rfl hl.1 rfl (Nat.le_of_ble_eq_true rfl) dX13_doStep_370 ⟨Nat.le_of_ble_eq_true rfl, Nat.le_of_ble_eq_true rfl⟩) hP hD hS hA (fun u87 H locs hw86 hP hD hS => ?_)
                          obtain ⟨fr86, pu86, pp86⟩ := hw86
                          have pu86 : (v.1 0 95).toInt ≤ (u87.1 0 95).toInt ∧ (u87.1 0 95).toInt ≤ (v.1 0 95).toInt + 1 := pu86
                          have pp86 : (v.1 0 102).toInt ≤ (u87.1 0 102).toInt ∧ (u87.1 0 102).toInt ≤ (v.1 0 102).toInt + 1 := pp86
                          refine W.widen (k := 0) (n := 0) (Nat.le_refl _) (Nat.le_refl _) ?_
                          exact W.vret hx hb hr (fun t ht9 hW => ⟨⟨u87, rfl, ⟨(FG.tr (FG.f (FG.rf _) ((v.1 0 100) + (1 : Int32)) (by decide)) (FG.up fr86 (by decide) (by decide))), (show (v.1 0 95).toInt ≤ (u87.1 0 95).toInt ∧ (u87.1 0 95).toInt ≤ (v.1 0 95).toInt + 1 from (om_e79f107f26 pu86)), (show (v.1 0 102).toInt ≤ (u87.1 0 102).toInt ∧ (u87.1 0 102).toInt ≤ (v.1 0 102).toInt + 1 from (om_e79f107f26 pp86))⟩, by rw [ht9]; exact hP, hD⟩, hS.F ht9⟩) hS.2.2 dX13_doStep_373
    · have z89 : r6.toInt = (0 : Int) := eq_z rfl (show (0 : Int32).toInt = (0 : Int) by decide) h7
      refine lv_aload_n hx hb dX13_doStep_31 rfl (lv_at hl 0 rfl) ?_
      refine lv_iconst (v := 3) hx hb dX13_doStep_32 (by decide) ?_
      refine va_put (D := (dC, dI)) (ci := 16) (fs := mF ad (wA v 0 100 ((v.1 0 100) + (1 : Int32)))) (v := .int 3) (ty := .int) (C := RX13) (T := TX13) (N := 124) hx hb ht itX13 tyX13 tyX13_ok nmX13 hown hK hP hD hS 0 rfl rfl 99 (by decide) (ht _ tw_210) (fun _ h9 => h9) rfl (by decide +kernel) rfl rfl (Nat.le_of_ble_eq_true rfl) dX13_doStep_33 (fun H locs hP hD hS => ?_)
      have hP := cP_ (mw_99 ad N cI cZ cJ (wA v 0 100 ((v.1 0 100) + (1 : Int32))) 3) hP
      have hD := cD_ (mw_99 ad N cI cZ cJ (wA v 0 100 ((v.1 0 100) + (1 : Int32))) 3) hD
      exact W.vret hx hb hr (fun t ht9 hW => ⟨⟨(wA (wA v 0 100 ((v.1 0 100) + (1 : Int32))) 0 99 3), rfl, ⟨(FG.f (FG.f (FG.rf _) ((v.1 0 100) + (1 : Int32)) (by decide)) 3 (by decide)), (show (v.1 0 95).toInt ≤ (v.1 0 95).toInt ∧ (v.1 0 95).toInt ≤ (v.1 0 95).toInt + 1 from om_b79dd2a91d), (show (v.1 0 102).toInt ≤ (v.1 0 102).toInt ∧ (v.1 0 102).toInt ≤ (v.1 0 102).toInt + 1 from om_b79dd2a91d)⟩, by rw [ht9]; exact hP, hD⟩, hS.F ht9⟩) hS.2.2 dX13_doStep_36
