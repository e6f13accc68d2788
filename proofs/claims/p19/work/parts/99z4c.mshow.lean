theorem xdX13_imJ_0 : decode cX13_imJ 0 = .ok (.iload_n 0, 1) := by decide +kernel
theorem xdX13_imJ_1 : decode cX13_imJ 1 = .ok (.bipush 31, 2) := by decide +kernel
theorem xdX13_imJ_3 : decode cX13_imJ 3 = .ok (.ishr, 1) := by decide +kernel
theorem xdX13_imJ_4 : decode cX13_imJ 4 = .ok (.bipush 20, 2) := by decide +kernel
theorem xdX13_imJ_6 : decode cX13_imJ 6 = .ok (.ishl, 1) := by decide +kernel
theorem xdX13_imJ_7 : decode cX13_imJ 7 = .ok (.iload_n 0, 1) := by decide +kernel
theorem xdX13_imJ_8 : decode cX13_imJ 8 = .ok (.bipush 12, 2) := by decide +kernel
theorem xdX13_imJ_10 : decode cX13_imJ 10 = .ok (.ishr, 1) := by decide +kernel
theorem xdX13_imJ_11 : decode cX13_imJ 11 = .ok (.sipush 255, 3) := by decide +kernel
theorem xdX13_imJ_14 : decode cX13_imJ 14 = .ok (.iand, 1) := by decide +kernel
theorem xdX13_imJ_15 : decode cX13_imJ 15 = .ok (.bipush 12, 2) := by decide +kernel
theorem xdX13_imJ_17 : decode cX13_imJ 17 = .ok (.ishl, 1) := by decide +kernel
theorem xdX13_imJ_18 : decode cX13_imJ 18 = .ok (.ior, 1) := by decide +kernel
theorem xdX13_imJ_19 : decode cX13_imJ 19 = .ok (.iload_n 0, 1) := by decide +kernel
theorem xdX13_imJ_20 : decode cX13_imJ 20 = .ok (.bipush 20, 2) := by decide +kernel
theorem xdX13_imJ_22 : decode cX13_imJ 22 = .ok (.ishr, 1) := by decide +kernel
theorem xdX13_imJ_23 : decode cX13_imJ 23 = .ok (.iconst 1, 1) := by decide +kernel
theorem xdX13_imJ_24 : decode cX13_imJ 24 = .ok (.iand, 1) := by decide +kernel
theorem xdX13_imJ_25 : decode cX13_imJ 25 = .ok (.bipush 11, 2) := by decide +kernel
theorem xdX13_imJ_27 : decode cX13_imJ 27 = .ok (.ishl, 1) := by decide +kernel
theorem xdX13_imJ_28 : decode cX13_imJ 28 = .ok (.ior, 1) := by decide +kernel
theorem xdX13_imJ_29 : decode cX13_imJ 29 = .ok (.iload_n 0, 1) := by decide +kernel
theorem xdX13_imJ_30 : decode cX13_imJ 30 = .ok (.bipush 21, 2) := by decide +kernel
theorem xdX13_imJ_32 : decode cX13_imJ 32 = .ok (.ishr, 1) := by decide +kernel
theorem xdX13_imJ_33 : decode cX13_imJ 33 = .ok (.sipush 1023, 3) := by decide +kernel
theorem xdX13_imJ_36 : decode cX13_imJ 36 = .ok (.iand, 1) := by decide +kernel
theorem xdX13_imJ_37 : decode cX13_imJ 37 = .ok (.iconst 1, 1) := by decide +kernel
theorem xdX13_imJ_38 : decode cX13_imJ 38 = .ok (.ishl, 1) := by decide +kernel
theorem xdX13_imJ_39 : decode cX13_imJ 39 = .ok (.ior, 1) := by decide +kernel
theorem xdX13_imJ_40 : decode cX13_imJ 40 = .ok (.ireturn, 1) := by decide +kernel
theorem xdX13_imB_0 : decode cX13_imB 0 = .ok (.iload_n 0, 1) := by decide +kernel
theorem xdX13_imB_1 : decode cX13_imB 1 = .ok (.bipush 31, 2) := by decide +kernel
theorem xdX13_imB_3 : decode cX13_imB 3 = .ok (.ishr, 1) := by decide +kernel
theorem xdX13_imB_4 : decode cX13_imB 4 = .ok (.bipush 12, 2) := by decide +kernel
theorem xdX13_imB_6 : decode cX13_imB 6 = .ok (.ishl, 1) := by decide +kernel
theorem xdX13_imB_7 : decode cX13_imB 7 = .ok (.iload_n 0, 1) := by decide +kernel
theorem xdX13_imB_8 : decode cX13_imB 8 = .ok (.bipush 7, 2) := by decide +kernel
theorem xdX13_imB_10 : decode cX13_imB 10 = .ok (.ishr, 1) := by decide +kernel
theorem xdX13_imB_11 : decode cX13_imB 11 = .ok (.iconst 1, 1) := by decide +kernel
theorem xdX13_imB_12 : decode cX13_imB 12 = .ok (.iand, 1) := by decide +kernel
theorem xdX13_imB_13 : decode cX13_imB 13 = .ok (.bipush 11, 2) := by decide +kernel
theorem xdX13_imB_15 : decode cX13_imB 15 = .ok (.ishl, 1) := by decide +kernel
theorem xdX13_imB_16 : decode cX13_imB 16 = .ok (.ior, 1) := by decide +kernel
theorem xdX13_imB_17 : decode cX13_imB 17 = .ok (.iload_n 0, 1) := by decide +kernel
theorem xdX13_imB_18 : decode cX13_imB 18 = .ok (.bipush 25, 2) := by decide +kernel
theorem xdX13_imB_20 : decode cX13_imB 20 = .ok (.ishr, 1) := by decide +kernel
theorem xdX13_imB_21 : decode cX13_imB 21 = .ok (.bipush 63, 2) := by decide +kernel
theorem xdX13_imB_23 : decode cX13_imB 23 = .ok (.iand, 1) := by decide +kernel
theorem xdX13_imB_24 : decode cX13_imB 24 = .ok (.iconst 5, 1) := by decide +kernel
theorem xdX13_imB_25 : decode cX13_imB 25 = .ok (.ishl, 1) := by decide +kernel
theorem xdX13_imB_26 : decode cX13_imB 26 = .ok (.ior, 1) := by decide +kernel
theorem xdX13_imB_27 : decode cX13_imB 27 = .ok (.iload_n 0, 1) := by decide +kernel
theorem xdX13_imB_28 : decode cX13_imB 28 = .ok (.bipush 8, 2) := by decide +kernel
theorem xdX13_imB_30 : decode cX13_imB 30 = .ok (.ishr, 1) := by decide +kernel
theorem xdX13_imB_31 : decode cX13_imB 31 = .ok (.bipush 15, 2) := by decide +kernel
theorem xdX13_imB_33 : decode cX13_imB 33 = .ok (.iand, 1) := by decide +kernel
theorem xdX13_imB_34 : decode cX13_imB 34 = .ok (.iconst 1, 1) := by decide +kernel
theorem xdX13_imB_35 : decode cX13_imB 35 = .ok (.ishl, 1) := by decide +kernel
theorem xdX13_imB_36 : decode cX13_imB 36 = .ok (.ior, 1) := by decide +kernel
theorem xdX13_imB_37 : decode cX13_imB 37 = .ok (.ireturn, 1) := by decide +kernel
theorem xdX13_show_0 : decode cX13_show 0 = .ok (.aload_n 0, 1) := by decide +kernel
theorem xdX13_show_1 : decode cX13_show 1 = .ok (.iconst 0, 1) := by decide +kernel
theorem xdX13_show_2 : decode cX13_show 2 = .ok (.putfield 3, 3) := by decide +kernel
theorem xw_160 : (.fieldLink RX13 3 "PocketCompilerModel" "thrown" "I" : Cond) ∈ tw_W := tw_in (t8_10 (List.mem_of_getElem? (i := 157) rfl)) rfl
theorem xdX13_show_5 : decode cX13_show 5 = .ok (.aload_n 0, 1) := by decide +kernel
theorem xdX13_show_6 : decode cX13_show 6 = .ok (.iconst 0, 1) := by decide +kernel
theorem xdX13_show_7 : decode cX13_show 7 = .ok (.putfield 703, 3) := by decide +kernel
theorem xdX13_show_10 : decode cX13_show 10 = .ok (.iload_n 1, 1) := by decide +kernel
theorem xdX13_show_11 : decode cX13_show 11 = .ok (.invokestatic 793, 3) := by decide +kernel
theorem xw_161 : (.code yX13_nameOf cX13_nameOf 7 (some (.object "java/lang/String")) : Cond) ∈ tw_W := tw_in (t8_12 (List.mem_of_getElem? (i := 189) rfl)) rfl
theorem xw_162 : ∀ w ∈ ([.methodLink RX13 793 yX13_nameOf, .static yX13_nameOf, .initialized yX13_nameOf.cls] : List Cond), w ∈ tw_W := al_c (tw_in (t8_12 (List.mem_of_getElem? (i := 187) rfl)) rfl) (al_c (tw_in (t8_12 (List.mem_of_getElem? (i := 188) rfl)) rfl) (al_c (tw_in (t8_1 (List.mem_of_getElem? (i := 23) rfl)) rfl) al_n))
theorem xdX13_show_14 : decode cX13_show 14 = .ok (.astore_n 2, 1) := by decide +kernel
theorem xdX13_show_15 : decode cX13_show 15 = .ok (.aload_n 2, 1) := by decide +kernel
theorem xdX13_show_16 : decode cX13_show 16 = .ok (.ifnonnull 44, 3) := by decide +kernel
theorem xdX13_show_19 : decode cX13_show 19 = .ok (.aload_n 0, 1) := by decide +kernel
theorem xdX13_show_20 : decode cX13_show 20 = .ok (.ldc_w 797, 3) := by decide +kernel
theorem xdX13_show_23 : decode cX13_show 23 = .ok (.invokevirtual 799, 3) := by decide +kernel
theorem xw_163 : (.code yX13_words cX13_words 3 none : Cond) ∈ tw_W := tw_in (t8_12 (List.mem_of_getElem? (i := 236) rfl)) rfl
theorem xw_164 : ∀ w ∈ ([.methodLink RX13 799 yX13_words, .instanceMethod yX13_words, .selects RX13 yX13_words yX13_words, .initialized RX13] : List Cond), w ∈ tw_W := al_c (tw_in (t8_12 (List.mem_of_getElem? (i := 233) rfl)) rfl) (al_c (tw_in (t8_12 (List.mem_of_getElem? (i := 235) rfl)) rfl) (al_c (tw_in (t7_12 (q := (yX13_words, 124)) (List.mem_of_getElem? (i := 13) rfl)) rfl) (al_c (tw_in (t8_1 (List.mem_of_getElem? (i := 23) rfl)) rfl) al_n)))
theorem xdX13_show_26 : decode cX13_show 26 = .ok (.bipush 28, 2) := by decide +kernel
theorem xdX13_show_28 : decode cX13_show 28 = .ok (.istore_n 3, 1) := by decide +kernel
theorem xdX13_show_29 : decode cX13_show 29 = .ok (.iload_n 3, 1) := by decide +kernel
theorem xdX13_show_30 : decode cX13_show 30 = .ok (.ifCond .lt 25, 3) := by decide +kernel
theorem xdX13_show_33 : decode cX13_show 33 = .ok (.aload_n 0, 1) := by decide +kernel
theorem xdX13_show_34 : decode cX13_show 34 = .ok (.ldc_w 802, 3) := by decide +kernel
theorem xdX13_show_37 : decode cX13_show 37 = .ok (.iload_n 1, 1) := by decide +kernel
theorem xdX13_show_38 : decode cX13_show 38 = .ok (.iload_n 3, 1) := by decide +kernel
theorem xdX13_show_39 : decode cX13_show 39 = .ok (.ishr, 1) := by decide +kernel
theorem xdX13_show_40 : decode cX13_show 40 = .ok (.bipush 15, 2) := by decide +kernel
theorem xdX13_show_42 : decode cX13_show 42 = .ok (.iand, 1) := by decide +kernel
theorem xdX13_show_43 : decode cX13_show 43 = .ok (.invokevirtual 90, 3) := by decide +kernel
theorem xdX13_show_46 : decode cX13_show 46 = .ok (.invokevirtual 706, 3) := by decide +kernel
theorem xdX13_show_49 : decode cX13_show 49 = .ok (.iinc 3 (-4), 3) := by decide +kernel
theorem xdX13_show_52 : decode cX13_show 52 = .ok (.goto (-23), 3) := by decide +kernel
theorem xdX13_show_55 : decode cX13_show 55 = .ok (.aload_n 0, 1) := by decide +kernel
theorem xdX13_show_56 : decode cX13_show 56 = .ok (.getfield 703, 3) := by decide +kernel
theorem xdX13_show_59 : decode cX13_show 59 = .ok (.ireturn, 1) := by decide +kernel
theorem xdX13_show_60 : decode cX13_show 60 = .ok (.aload_n 0, 1) := by decide +kernel
theorem xdX13_show_61 : decode cX13_show 61 = .ok (.aload_n 2, 1) := by decide +kernel
theorem xdX13_show_62 : decode cX13_show 62 = .ok (.invokevirtual 799, 3) := by decide +kernel
theorem xdX13_show_65 : decode cX13_show 65 = .ok (.iload_n 1, 1) := by decide +kernel
theorem xdX13_show_66 : decode cX13_show 66 = .ok (.bipush 7, 2) := by decide +kernel
theorem xdX13_show_68 : decode cX13_show 68 = .ok (.ishr, 1) := by decide +kernel
theorem xdX13_show_69 : decode cX13_show 69 = .ok (.bipush 31, 2) := by decide +kernel
theorem xdX13_show_71 : decode cX13_show 71 = .ok (.iand, 1) := by decide +kernel
theorem xdX13_show_72 : decode cX13_show 72 = .ok (.istore_n 3, 1) := by decide +kernel
theorem xdX13_show_73 : decode cX13_show 73 = .ok (.iload_n 1, 1) := by decide +kernel
theorem xdX13_show_74 : decode cX13_show 74 = .ok (.bipush 15, 2) := by decide +kernel
theorem xdX13_show_76 : decode cX13_show 76 = .ok (.ishr, 1) := by decide +kernel
theorem xdX13_show_77 : decode cX13_show 77 = .ok (.bipush 31, 2) := by decide +kernel
theorem xdX13_show_79 : decode cX13_show 79 = .ok (.iand, 1) := by decide +kernel
theorem xdX13_show_80 : decode cX13_show 80 = .ok (.istore 4, 2) := by decide +kernel
theorem xdX13_show_82 : decode cX13_show 82 = .ok (.iload_n 1, 1) := by decide +kernel
theorem xdX13_show_83 : decode cX13_show 83 = .ok (.bipush 20, 2) := by decide +kernel
theorem xdX13_show_85 : decode cX13_show 85 = .ok (.ishr, 1) := by decide +kernel
theorem xdX13_show_86 : decode cX13_show 86 = .ok (.bipush 31, 2) := by decide +kernel
theorem xdX13_show_88 : decode cX13_show 88 = .ok (.iand, 1) := by decide +kernel
theorem xdX13_show_89 : decode cX13_show 89 = .ok (.istore 5, 2) := by decide +kernel
theorem xdX13_show_91 : decode cX13_show 91 = .ok (.iload_n 1, 1) := by decide +kernel
theorem xdX13_show_92 : decode cX13_show 92 = .ok (.bipush 12, 2) := by decide +kernel
theorem xdX13_show_94 : decode cX13_show 94 = .ok (.ishr, 1) := by decide +kernel
theorem xdX13_show_95 : decode cX13_show 95 = .ok (.bipush 7, 2) := by decide +kernel
theorem xdX13_show_97 : decode cX13_show 97 = .ok (.iand, 1) := by decide +kernel
theorem xdX13_show_98 : decode cX13_show 98 = .ok (.istore 6, 2) := by decide +kernel
theorem xdX13_show_100 : decode cX13_show 100 = .ok (.iload_n 1, 1) := by decide +kernel
theorem xdX13_show_101 : decode cX13_show 101 = .ok (.bipush 127, 2) := by decide +kernel
theorem xdX13_show_103 : decode cX13_show 103 = .ok (.iand, 1) := by decide +kernel
theorem xdX13_show_104 : decode cX13_show 104 = .ok (.istore 7, 2) := by decide +kernel
theorem xdX13_show_106 : decode cX13_show 106 = .ok (.iload 7, 2) := by decide +kernel
theorem xdX13_show_108 : decode cX13_show 108 = .ok (.bipush 15, 2) := by decide +kernel
theorem xdX13_show_110 : decode cX13_show 110 = .ok (.if_icmp .eq 10, 3) := by decide +kernel
theorem xdX13_show_120 : decode cX13_show 120 = .ok (.aload_n 0, 1) := by decide +kernel
theorem xdX13_show_121 : decode cX13_show 121 = .ok (.getfield 703, 3) := by decide +kernel
theorem xdX13_show_124 : decode cX13_show 124 = .ok (.ireturn, 1) := by decide +kernel
theorem xdX13_show_113 : decode cX13_show 113 = .ok (.iload 7, 2) := by decide +kernel
theorem xdX13_show_115 : decode cX13_show 115 = .ok (.bipush 115, 2) := by decide +kernel
theorem xdX13_show_117 : decode cX13_show 117 = .ok (.if_icmp .ne 8, 3) := by decide +kernel
theorem xdX13_show_125 : decode cX13_show 125 = .ok (.aload_n 0, 1) := by decide +kernel
theorem xdX13_show_126 : decode cX13_show 126 = .ok (.bipush 32, 2) := by decide +kernel
theorem xdX13_show_128 : decode cX13_show 128 = .ok (.invokevirtual 706, 3) := by decide +kernel
theorem xdX13_show_131 : decode cX13_show 131 = .ok (.iload 7, 2) := by decide +kernel
theorem xdX13_show_133 : decode cX13_show 133 = .ok (.lookupswitch 218 #[(3, 115), (19, 183), (23, 75), (35, 156), (55, 75), (99, 137), (103, 115), (111, 95)], 75) := by decide +kernel
theorem xdX13_show_248 : decode cX13_show 248 = .ok (.aload_n 0, 1) := by decide +kernel
theorem xdX13_show_249 : decode cX13_show 249 = .ok (.iload_n 3, 1) := by decide +kernel
theorem xdX13_show_250 : decode cX13_show 250 = .ok (.invokevirtual 712, 3) := by decide +kernel
theorem xdX13_show_253 : decode cX13_show 253 = .ok (.aload_n 0, 1) := by decide +kernel
theorem xdX13_show_254 : decode cX13_show 254 = .ok (.invokevirtual 714, 3) := by decide +kernel
theorem xdX13_show_257 : decode cX13_show 257 = .ok (.aload_n 0, 1) := by decide +kernel
theorem xdX13_show_258 : decode cX13_show 258 = .ok (.iload_n 1, 1) := by decide +kernel
theorem xdX13_show_259 : decode cX13_show 259 = .ok (.bipush 20, 2) := by decide +kernel
theorem xdX13_show_261 : decode cX13_show 261 = .ok (.ishr, 1) := by decide +kernel
theorem xdX13_show_262 : decode cX13_show 262 = .ok (.iload 4, 2) := by decide +kernel
theorem xdX13_show_264 : decode cX13_show 264 = .ok (.invokevirtual 804, 3) := by decide +kernel
theorem xw_165 : (.code yX13_at_ cX13_at_ 3 none : Cond) ∈ tw_W := tw_in (t8_13 (List.mem_of_getElem? (i := 17) rfl)) rfl
theorem xw_166 : ∀ w ∈ ([.methodLink RX13 804 yX13_at_, .instanceMethod yX13_at_, .selects RX13 yX13_at_ yX13_at_, .initialized RX13] : List Cond), w ∈ tw_W := al_c (tw_in (t8_13 (List.mem_of_getElem? (i := 14) rfl)) rfl) (al_c (tw_in (t8_13 (List.mem_of_getElem? (i := 16) rfl)) rfl) (al_c (tw_in (t7_13 (q := (yX13_at_, 124)) (List.mem_of_getElem? (i := 2) rfl)) rfl) (al_c (tw_in (t8_1 (List.mem_of_getElem? (i := 23) rfl)) rfl) al_n)))
theorem xdX13_show_267 : decode cX13_show 267 = .ok (.goto 97, 3) := by decide +kernel
theorem xdX13_show_364 : decode cX13_show 364 = .ok (.aload_n 0, 1) := by decide +kernel
theorem xdX13_show_365 : decode cX13_show 365 = .ok (.getfield 703, 3) := by decide +kernel
theorem xdX13_show_368 : decode cX13_show 368 = .ok (.ireturn, 1) := by decide +kernel
theorem xdX13_show_316 : decode cX13_show 316 = .ok (.aload_n 0, 1) := by decide +kernel
theorem xdX13_show_317 : decode cX13_show 317 = .ok (.iload_n 3, 1) := by decide +kernel
theorem xdX13_show_318 : decode cX13_show 318 = .ok (.iload 4, 2) := by decide +kernel
theorem xdX13_show_320 : decode cX13_show 320 = .ok (.invokevirtual 806, 3) := by decide +kernel
theorem xw_167 : (.code yX13_three cX13_three 3 none : Cond) ∈ tw_W := tw_in (t8_13 (List.mem_of_getElem? (i := 21) rfl)) rfl
theorem xw_168 : ∀ w ∈ ([.methodLink RX13 806 yX13_three, .instanceMethod yX13_three, .selects RX13 yX13_three yX13_three, .initialized RX13] : List Cond), w ∈ tw_W := al_c (tw_in (t8_13 (List.mem_of_getElem? (i := 18) rfl)) rfl) (al_c (tw_in (t8_13 (List.mem_of_getElem? (i := 20) rfl)) rfl) (al_c (tw_in (t7_13 (q := (yX13_three, 124)) (List.mem_of_getElem? (i := 3) rfl)) rfl) (al_c (tw_in (t8_1 (List.mem_of_getElem? (i := 23) rfl)) rfl) al_n)))
theorem xdX13_show_323 : decode cX13_show 323 = .ok (.aload_n 0, 1) := by decide +kernel
theorem xdX13_show_324 : decode cX13_show 324 = .ok (.iload 6, 2) := by decide +kernel
theorem xdX13_show_326 : decode cX13_show 326 = .ok (.iconst 1, 1) := by decide +kernel
theorem xdX13_show_327 : decode cX13_show 327 = .ok (.if_icmp .eq 9, 3) := by decide +kernel
theorem xdX13_show_336 : decode cX13_show 336 = .ok (.iload 5, 2) := by decide +kernel
theorem xdX13_show_338 : decode cX13_show 338 = .ok (.goto 7, 3) := by decide +kernel
theorem xdX13_show_345 : decode cX13_show 345 = .ok (.invokevirtual 709, 3) := by decide +kernel
theorem xdX13_show_348 : decode cX13_show 348 = .ok (.goto 16, 3) := by decide +kernel
theorem xdX13_show_330 : decode cX13_show 330 = .ok (.iload 6, 2) := by decide +kernel
theorem xdX13_show_332 : decode cX13_show 332 = .ok (.iconst 5, 1) := by decide +kernel
theorem xdX13_show_333 : decode cX13_show 333 = .ok (.if_icmp .ne 8, 3) := by decide +kernel
theorem xdX13_show_341 : decode cX13_show 341 = .ok (.iload_n 1, 1) := by decide +kernel
theorem xdX13_show_342 : decode cX13_show 342 = .ok (.bipush 20, 2) := by decide +kernel
theorem xdX13_show_344 : decode cX13_show 344 = .ok (.ishr, 1) := by decide +kernel
theorem xdX13_show_208 : decode cX13_show 208 = .ok (.aload_n 0, 1) := by decide +kernel
theorem xdX13_show_209 : decode cX13_show 209 = .ok (.iload_n 3, 1) := by decide +kernel
theorem xdX13_show_210 : decode cX13_show 210 = .ok (.invokevirtual 712, 3) := by decide +kernel
theorem xdX13_show_213 : decode cX13_show 213 = .ok (.aload_n 0, 1) := by decide +kernel
theorem xdX13_show_214 : decode cX13_show 214 = .ok (.invokevirtual 714, 3) := by decide +kernel
theorem xdX13_show_217 : decode cX13_show 217 = .ok (.aload_n 0, 1) := by decide +kernel
theorem xdX13_show_218 : decode cX13_show 218 = .ok (.iload_n 1, 1) := by decide +kernel
theorem xdX13_show_219 : decode cX13_show 219 = .ok (.bipush 12, 2) := by decide +kernel
theorem xdX13_show_221 : decode cX13_show 221 = .ok (.iushr, 1) := by decide +kernel
theorem xdX13_show_222 : decode cX13_show 222 = .ok (.invokevirtual 709, 3) := by decide +kernel
theorem xdX13_show_225 : decode cX13_show 225 = .ok (.goto 139, 3) := by decide +kernel
theorem xdX13_show_289 : decode cX13_show 289 = .ok (.aload_n 0, 1) := by decide +kernel
theorem xdX13_show_290 : decode cX13_show 290 = .ok (.iload 5, 2) := by decide +kernel
theorem xdX13_show_292 : decode cX13_show 292 = .ok (.invokevirtual 712, 3) := by decide +kernel
theorem xdX13_show_295 : decode cX13_show 295 = .ok (.aload_n 0, 1) := by decide +kernel
theorem xdX13_show_296 : decode cX13_show 296 = .ok (.invokevirtual 714, 3) := by decide +kernel
theorem xdX13_show_299 : decode cX13_show 299 = .ok (.aload_n 0, 1) := by decide +kernel
theorem xdX13_show_300 : decode cX13_show 300 = .ok (.iload_n 1, 1) := by decide +kernel
theorem xdX13_show_301 : decode cX13_show 301 = .ok (.bipush 25, 2) := by decide +kernel
theorem xdX13_show_303 : decode cX13_show 303 = .ok (.ishr, 1) := by decide +kernel
theorem xdX13_show_304 : decode cX13_show 304 = .ok (.iconst 5, 1) := by decide +kernel
theorem xdX13_show_305 : decode cX13_show 305 = .ok (.ishl, 1) := by decide +kernel
theorem xdX13_show_306 : decode cX13_show 306 = .ok (.iload_n 3, 1) := by decide +kernel
theorem xdX13_show_307 : decode cX13_show 307 = .ok (.ior, 1) := by decide +kernel
theorem xdX13_show_308 : decode cX13_show 308 = .ok (.iload 4, 2) := by decide +kernel
theorem xdX13_show_310 : decode cX13_show 310 = .ok (.invokevirtual 804, 3) := by decide +kernel
theorem xdX13_show_313 : decode cX13_show 313 = .ok (.goto 51, 3) := by decide +kernel
theorem xdX13_show_270 : decode cX13_show 270 = .ok (.aload_n 0, 1) := by decide +kernel
theorem xdX13_show_271 : decode cX13_show 271 = .ok (.iload 4, 2) := by decide +kernel
theorem xdX13_show_273 : decode cX13_show 273 = .ok (.iload 5, 2) := by decide +kernel
theorem xdX13_show_275 : decode cX13_show 275 = .ok (.invokevirtual 806, 3) := by decide +kernel
theorem xdX13_show_278 : decode cX13_show 278 = .ok (.aload_n 0, 1) := by decide +kernel
theorem xdX13_show_279 : decode cX13_show 279 = .ok (.iload_n 1, 1) := by decide +kernel
theorem xdX13_show_280 : decode cX13_show 280 = .ok (.invokestatic 690, 3) := by decide +kernel
theorem xw_169 : (.code yX13_imB cX13_imB 1 (some .int) : Cond) ∈ tw_W := tw_in (t8_12 (List.mem_of_getElem? (i := 122) rfl)) rfl
theorem xw_170 : ∀ w ∈ ([.methodLink RX13 690 yX13_imB, .static yX13_imB, .initialized yX13_imB.cls] : List Cond), w ∈ tw_W := al_c (tw_in (t8_12 (List.mem_of_getElem? (i := 120) rfl)) rfl) (al_c (tw_in (t8_12 (List.mem_of_getElem? (i := 121) rfl)) rfl) (al_c (tw_in (t8_1 (List.mem_of_getElem? (i := 23) rfl)) rfl) al_n))
theorem xdX13_show_283 : decode cX13_show 283 = .ok (.invokevirtual 709, 3) := by decide +kernel
theorem xdX13_show_286 : decode cX13_show 286 = .ok (.goto 78, 3) := by decide +kernel
theorem xdX13_show_228 : decode cX13_show 228 = .ok (.aload_n 0, 1) := by decide +kernel
theorem xdX13_show_229 : decode cX13_show 229 = .ok (.iload_n 3, 1) := by decide +kernel
theorem xdX13_show_230 : decode cX13_show 230 = .ok (.invokevirtual 712, 3) := by decide +kernel
theorem xdX13_show_233 : decode cX13_show 233 = .ok (.aload_n 0, 1) := by decide +kernel
theorem xdX13_show_234 : decode cX13_show 234 = .ok (.invokevirtual 714, 3) := by decide +kernel
theorem xdX13_show_237 : decode cX13_show 237 = .ok (.aload_n 0, 1) := by decide +kernel
theorem xdX13_show_238 : decode cX13_show 238 = .ok (.iload_n 1, 1) := by decide +kernel
theorem xdX13_show_239 : decode cX13_show 239 = .ok (.invokestatic 662, 3) := by decide +kernel
theorem xw_171 : (.code yX13_imJ cX13_imJ 1 (some .int) : Cond) ∈ tw_W := tw_in (t8_12 (List.mem_of_getElem? (i := 110) rfl)) rfl
theorem xw_172 : ∀ w ∈ ([.methodLink RX13 662 yX13_imJ, .static yX13_imJ, .initialized yX13_imJ.cls] : List Cond), w ∈ tw_W := al_c (tw_in (t8_12 (List.mem_of_getElem? (i := 108) rfl)) rfl) (al_c (tw_in (t8_12 (List.mem_of_getElem? (i := 109) rfl)) rfl) (al_c (tw_in (t8_1 (List.mem_of_getElem? (i := 23) rfl)) rfl) al_n))
theorem xdX13_show_242 : decode cX13_show 242 = .ok (.invokevirtual 709, 3) := by decide +kernel
theorem xdX13_show_245 : decode cX13_show 245 = .ok (.goto 119, 3) := by decide +kernel
theorem xdX13_show_351 : decode cX13_show 351 = .ok (.aload_n 0, 1) := by decide +kernel
theorem xdX13_show_352 : decode cX13_show 352 = .ok (.iload_n 3, 1) := by decide +kernel
theorem xdX13_show_353 : decode cX13_show 353 = .ok (.iload 4, 2) := by decide +kernel
theorem xdX13_show_355 : decode cX13_show 355 = .ok (.invokevirtual 806, 3) := by decide +kernel
theorem xdX13_show_358 : decode cX13_show 358 = .ok (.aload_n 0, 1) := by decide +kernel
theorem xdX13_show_359 : decode cX13_show 359 = .ok (.iload 5, 2) := by decide +kernel
theorem xdX13_show_361 : decode cX13_show 361 = .ok (.invokevirtual 712, 3) := by decide +kernel
def okO (o : Option Nat) : Prop := ∀ i, o = some i → i < 66 ∧ lenS.getD i 0 ≤ 6
theorem okO_if {c : Prop} [Decidable c] {x y : Option Nat} (h1 : okO x) (h2 : okO y) : okO (if c then x else y) := by
  by_cases h : c
  · rw [if_pos h]; exact h1
  · rw [if_neg h]; exact h2
theorem okO_n : okO none := fun i h => by cases h
theorem okO_s {k : Nat} (h : k < 66 ∧ lenS.getD k 0 ≤ 6) : okO (some k) := fun i e => by cases e; exact h
theorem okO_l {L : List (Option Nat)} (h : L.all (fun o => match o with | none => true | some k => decide (k < 66 ∧ lenS.getD k 0 ≤ 6)) = true) (j : Nat) : okO (L.getD j none) := by
  intro i e
  rw [List.getD_eq_getElem?_getD] at e
  cases e2 : L[j]? with
  | none => rw [e2] at e; cases e
  | some o =>
    rw [e2] at e
    have h1 := List.all_eq_true.mp h o (List.mem_of_getElem? e2)
    have e3 : o = some i := e
    subst e3
    exact of_decide_eq_true h1
theorem nmI_ok (w : Int32) : okO (nmI w) := by
  unfold nmI
  repeat' refine okO_if ?_ ?_
  all_goals first | exact okO_n | exact okO_s (by decide) | exact okO_l (by decide) _
set_option maxHeartbeats 4000000 in
set_option maxRecDepth 100000 in
/-- imJ -/
theorem c_sx_imJ (l : Launch) (dC : Nat → ClassId) (dI : Nat → Nat → Nat) (cI cB cZ cJ cR : ClassId) (tb : Nat → Nat) (sz : Nat) (w : Int32)  : Met l yX13_imJ (Cond.code yX13_imJ cX13_imJ 1 (some .int) :: tw_W) ({ frames := 0, cells := 0, slots := 0, locals := 0 }) (pc_ (dC, dI) (tyS cI cB cZ cJ cR) tb [] sz [.int w]) (qi_ (dC, dI) [] sz (fun (r : Int32) (u : Unit) => r = (((((w >>> (31 &&& 31)) <<< (20 &&& 31)) ||| (((w >>> (12 &&& 31)) &&& 255) <<< (12 &&& 31))) ||| (((w >>> (20 &&& 31)) &&& 1) <<< (11 &&& 31))) ||| (((w >>> (21 &&& 31)) &&& 1023) <<< (1 &&& 31)))) (fun (u : Unit) => [])) 0 0 (va_A [] sz) := by
  refine Met.ofW (cc := cX13_imJ) (maxL := 1) (ret := (some .int)) (by decide) rfl ?_
  intro p e s m args below meth c s₁ B hml hv
  obtain ⟨rfl, hsz, hP, hKK, hD0, hFx⟩ := hv
  have hK := hKK.1
  have hx := B.exec
  have hb := B.bytes
  have hr := B.returns
  have ht : ∀ w ∈ tw_W, w.before _ s = true := fun w h => atoms_spec (ws := Cond.code yX13_imJ cX13_imJ 1 (some .int) :: tw_W) B.pre w (List.mem_cons_of_mem _ h)
  have hown : s.vm.findClass RX13 = some m.cls := findClass_of_methodNamed B.named
  have hlocks := B.notSynchronized
  subst hsz
  unfold qi_
  have hD := hD0.self (sz := s.heap.size)
  generalize hAe : va_A [] s.heap.size = A at hD hFx ⊢
  have hA : ∀ q : Nat, s.heap.size ≤ q → A q := fun q h => by rw [← hAe]; exact Or.inr h
  have hS : va_S A s.heap s.heap [] := va_S.rf
  have hP : va_P (dC, dI) vwCl [] s.heap := hP
  have hl := lv_entry ([.int w]) (n := 1) (Nat.le_of_ble_eq_true rfl)
  rw [lg_entry_eq]
  generalize (lg_sl ([.int w]) ++ List.replicate (1 - (lg_sl ([.int w])).length) Slot.unset).toArray = ls at hl ⊢
  have hl : lv_has ls 1 [(0, .int w)] := hl
  refine lv_iload_n hx hb xdX13_imJ_0 rfl (lv_at hl 0 rfl) ?_
  refine lv_bipush (v := 31) hx hb xdX13_imJ_1 (by decide) ?_
  refine lv_ishr hx hb xdX13_imJ_3 ?_
  refine lv_bipush (v := 20) hx hb xdX13_imJ_4 (by decide) ?_
  refine lv_ishl hx hb xdX13_imJ_6 ?_
  refine lv_iload_n hx hb xdX13_imJ_7 rfl (lv_at hl 0 rfl) ?_
  refine lv_bipush (v := 12) hx hb xdX13_imJ_8 (by decide) ?_
  refine lv_ishr hx hb xdX13_imJ_10 ?_
  refine lv_sipush (v := 255) hx hb xdX13_imJ_11 (by decide) ?_
  refine lv_iand hx hb xdX13_imJ_14 ?_
  refine lv_bipush (v := 12) hx hb xdX13_imJ_15 (by decide) ?_
  refine lv_ishl hx hb xdX13_imJ_17 ?_
  refine lv_ior hx hb xdX13_imJ_18 ?_
  refine lv_iload_n hx hb xdX13_imJ_19 rfl (lv_at hl 0 rfl) ?_
  refine lv_bipush (v := 20) hx hb xdX13_imJ_20 (by decide) ?_
  refine lv_ishr hx hb xdX13_imJ_22 ?_
  refine lv_iconst (v := 1) hx hb xdX13_imJ_23 (by decide) ?_
  refine lv_iand hx hb xdX13_imJ_24 ?_
  refine lv_bipush (v := 11) hx hb xdX13_imJ_25 (by decide) ?_
  refine lv_ishl hx hb xdX13_imJ_27 ?_
  refine lv_ior hx hb xdX13_imJ_28 ?_
  refine lv_iload_n hx hb xdX13_imJ_29 rfl (lv_at hl 0 rfl) ?_
  refine lv_bipush (v := 21) hx hb xdX13_imJ_30 (by decide) ?_
  refine lv_ishr hx hb xdX13_imJ_32 ?_
  refine lv_sipush (v := 1023) hx hb xdX13_imJ_33 (by decide) ?_
  refine lv_iand hx hb xdX13_imJ_36 ?_
  refine lv_iconst (v := 1) hx hb xdX13_imJ_37 (by decide) ?_
  refine lv_ishl hx hb xdX13_imJ_38 ?_
  refine lv_ior hx hb xdX13_imJ_39 ?_
  have hP9 := hP.sub (ws' := []) [] rfl
  have hD9 := hD.sub (ws' := []) [] (by decide) rfl
  refine W.widen (k := 0) (n := 0) (by omega) (by omega) ?_
  exact W.iret (v := (((((w >>> (31 &&& 31)) <<< (20 &&& 31)) ||| (((w >>> (12 &&& 31)) &&& 255) <<< (12 &&& 31))) ||| (((w >>> (20 &&& 31)) &&& 1) <<< (11 &&& 31))) ||| (((w >>> (21 &&& 31)) &&& 1023) <<< (1 &&& 31)))) hx hb hr (fun t ht9 hW => ⟨⟨(((((w >>> (31 &&& 31)) <<< (20 &&& 31)) ||| (((w >>> (12 &&& 31)) &&& 255) <<< (12 &&& 31))) ||| (((w >>> (20 &&& 31)) &&& 1) <<< (11 &&& 31))) ||| (((w >>> (21 &&& 31)) &&& 1023) <<< (1 &&& 31))), (), rfl, rfl, by rw [ht9]; exact hP9, hD9⟩, hS.F ht9⟩) hS.2.2 xdX13_imJ_40
set_option maxHeartbeats 4000000 in
set_option maxRecDepth 100000 in
/-- imB -/
theorem c_sx_imB (l : Launch) (dC : Nat → ClassId) (dI : Nat → Nat → Nat) (cI cB cZ cJ cR : ClassId) (tb : Nat → Nat) (sz : Nat) (w : Int32)  : Met l yX13_imB (Cond.code yX13_imB cX13_imB 1 (some .int) :: tw_W) ({ frames := 0, cells := 0, slots := 0, locals := 0 }) (pc_ (dC, dI) (tyS cI cB cZ cJ cR) tb [] sz [.int w]) (qi_ (dC, dI) [] sz (fun (r : Int32) (u : Unit) => r = (((((w >>> (31 &&& 31)) <<< (12 &&& 31)) ||| (((w >>> (7 &&& 31)) &&& 1) <<< (11 &&& 31))) ||| (((w >>> (25 &&& 31)) &&& 63) <<< (5 &&& 31))) ||| (((w >>> (8 &&& 31)) &&& 15) <<< (1 &&& 31)))) (fun (u : Unit) => [])) 0 0 (va_A [] sz) := by
  refine Met.ofW (cc := cX13_imB) (maxL := 1) (ret := (some .int)) (by decide) rfl ?_
  intro p e s m args below meth c s₁ B hml hv
  obtain ⟨rfl, hsz, hP, hKK, hD0, hFx⟩ := hv
  have hK := hKK.1
  have hx := B.exec
  have hb := B.bytes
  have hr := B.returns
  have ht : ∀ w ∈ tw_W, w.before _ s = true := fun w h => atoms_spec (ws := Cond.code yX13_imB cX13_imB 1 (some .int) :: tw_W) B.pre w (List.mem_cons_of_mem _ h)
  have hown : s.vm.findClass RX13 = some m.cls := findClass_of_methodNamed B.named
  have hlocks := B.notSynchronized
  subst hsz
  unfold qi_
  have hD := hD0.self (sz := s.heap.size)
  generalize hAe : va_A [] s.heap.size = A at hD hFx ⊢
  have hA : ∀ q : Nat, s.heap.size ≤ q → A q := fun q h => by rw [← hAe]; exact Or.inr h
  have hS : va_S A s.heap s.heap [] := va_S.rf
  have hP : va_P (dC, dI) vwCl [] s.heap := hP
  have hl := lv_entry ([.int w]) (n := 1) (Nat.le_of_ble_eq_true rfl)
  rw [lg_entry_eq]
  generalize (lg_sl ([.int w]) ++ List.replicate (1 - (lg_sl ([.int w])).length) Slot.unset).toArray = ls at hl ⊢
  have hl : lv_has ls 1 [(0, .int w)] := hl
  refine lv_iload_n hx hb xdX13_imB_0 rfl (lv_at hl 0 rfl) ?_
  refine lv_bipush (v := 31) hx hb xdX13_imB_1 (by decide) ?_
  refine lv_ishr hx hb xdX13_imB_3 ?_
  refine lv_bipush (v := 12) hx hb xdX13_imB_4 (by decide) ?_
  refine lv_ishl hx hb xdX13_imB_6 ?_
  refine lv_iload_n hx hb xdX13_imB_7 rfl (lv_at hl 0 rfl) ?_
  refine lv_bipush (v := 7) hx hb xdX13_imB_8 (by decide) ?_
  refine lv_ishr hx hb xdX13_imB_10 ?_
  refine lv_iconst (v := 1) hx hb xdX13_imB_11 (by decide) ?_
  refine lv_iand hx hb xdX13_imB_12 ?_
  refine lv_bipush (v := 11) hx hb xdX13_imB_13 (by decide) ?_
  refine lv_ishl hx hb xdX13_imB_15 ?_
  refine lv_ior hx hb xdX13_imB_16 ?_
  refine lv_iload_n hx hb xdX13_imB_17 rfl (lv_at hl 0 rfl) ?_
  refine lv_bipush (v := 25) hx hb xdX13_imB_18 (by decide) ?_
  refine lv_ishr hx hb xdX13_imB_20 ?_
  refine lv_bipush (v := 63) hx hb xdX13_imB_21 (by decide) ?_
  refine lv_iand hx hb xdX13_imB_23 ?_
  refine lv_iconst (v := 5) hx hb xdX13_imB_24 (by decide) ?_
  refine lv_ishl hx hb xdX13_imB_25 ?_
  refine lv_ior hx hb xdX13_imB_26 ?_
  refine lv_iload_n hx hb xdX13_imB_27 rfl (lv_at hl 0 rfl) ?_
  refine lv_bipush (v := 8) hx hb xdX13_imB_28 (by decide) ?_
  refine lv_ishr hx hb xdX13_imB_30 ?_
  refine lv_bipush (v := 15) hx hb xdX13_imB_31 (by decide) ?_
  refine lv_iand hx hb xdX13_imB_33 ?_
  refine lv_iconst (v := 1) hx hb xdX13_imB_34 (by decide) ?_
  refine lv_ishl hx hb xdX13_imB_35 ?_
  refine lv_ior hx hb xdX13_imB_36 ?_
  have hP9 := hP.sub (ws' := []) [] rfl
  have hD9 := hD.sub (ws' := []) [] (by decide) rfl
  refine W.widen (k := 0) (n := 0) (by omega) (by omega) ?_
  exact W.iret (v := (((((w >>> (31 &&& 31)) <<< (12 &&& 31)) ||| (((w >>> (7 &&& 31)) &&& 1) <<< (11 &&& 31))) ||| (((w >>> (25 &&& 31)) &&& 63) <<< (5 &&& 31))) ||| (((w >>> (8 &&& 31)) &&& 15) <<< (1 &&& 31)))) hx hb hr (fun t ht9 hW => ⟨⟨(((((w >>> (31 &&& 31)) <<< (12 &&& 31)) ||| (((w >>> (7 &&& 31)) &&& 1) <<< (11 &&& 31))) ||| (((w >>> (25 &&& 31)) &&& 63) <<< (5 &&& 31))) ||| (((w >>> (8 &&& 31)) &&& 15) <<< (1 &&& 31))), (), rfl, rfl, by rw [ht9]; exact hP9, hD9⟩, hS.F ht9⟩) hS.2.2 xdX13_imB_37
def opM (w : Int32) : Nat := (if (w &&& 127) = 15 then 0 else (if (w &&& 127) = 115 then 0 else (if (w &&& 127) = 3 then (1 + (1 + dl ((w >>> (7 &&& 31)) &&& 31)) + 2 + (dl (w >>> (20 &&& 31)) + 1 + (1 + dl ((w >>> (15 &&& 31)) &&& 31)) + 1)) else (if (w &&& 127) = 19 then (if ((w >>> (12 &&& 31)) &&& 7) = 1 then (1 + (1 + dl ((w >>> (7 &&& 31)) &&& 31) + 2 + (1 + dl ((w >>> (15 &&& 31)) &&& 31)) + 2) + dl ((w >>> (20 &&& 31)) &&& 31)) else (if ((w >>> (12 &&& 31)) &&& 7) = 5 then (1 + (1 + dl ((w >>> (7 &&& 31)) &&& 31) + 2 + (1 + dl ((w >>> (15 &&& 31)) &&& 31)) + 2) + dl ((w >>> (20 &&& 31)) &&& 31)) else (1 + (1 + dl ((w >>> (7 &&& 31)) &&& 31) + 2 + (1 + dl ((w >>> (15 &&& 31)) &&& 31)) + 2) + dl (w >>> (20 &&& 31))))) else (if (w &&& 127) = 23 then (1 + (1 + dl ((w >>> (7 &&& 31)) &&& 31)) + 2 + dl ((w.toUInt32 >>> ((12 : Int32).toUInt32 &&& Int32.toUInt32 31)).toInt32)) else (if (w &&& 127) = 35 then (1 + (1 + dl ((w >>> (20 &&& 31)) &&& 31)) + 2 + (dl (((w >>> (25 &&& 31)) <<< (5 &&& 31)) ||| ((w >>> (7 &&& 31)) &&& 31)) + 1 + (1 + dl ((w >>> (15 &&& 31)) &&& 31)) + 1)) else (if (w &&& 127) = 55 then (1 + (1 + dl ((w >>> (7 &&& 31)) &&& 31)) + 2 + dl ((w.toUInt32 >>> ((12 : Int32).toUInt32 &&& Int32.toUInt32 31)).toInt32)) else (if (w &&& 127) = 99 then (1 + (1 + dl ((w >>> (15 &&& 31)) &&& 31) + 2 + (1 + dl ((w >>> (20 &&& 31)) &&& 31)) + 2) + dl (((((w >>> (31 &&& 31)) <<< (12 &&& 31)) ||| (((w >>> (7 &&& 31)) &&& 1) <<< (11 &&& 31))) ||| (((w >>> (25 &&& 31)) &&& 63) <<< (5 &&& 31))) ||| (((w >>> (8 &&& 31)) &&& 15) <<< (1 &&& 31)))) else (if (w &&& 127) = 103 then (1 + (1 + dl ((w >>> (7 &&& 31)) &&& 31)) + 2 + (dl (w >>> (20 &&& 31)) + 1 + (1 + dl ((w >>> (15 &&& 31)) &&& 31)) + 1)) else (if (w &&& 127) = 111 then (1 + (1 + dl ((w >>> (7 &&& 31)) &&& 31)) + 2 + dl (((((w >>> (31 &&& 31)) <<< (20 &&& 31)) ||| (((w >>> (12 &&& 31)) &&& 255) <<< (12 &&& 31))) ||| (((w >>> (20 &&& 31)) &&& 1) <<< (11 &&& 31))) ||| (((w >>> (21 &&& 31)) &&& 1023) <<< (1 &&& 31)))) else (1 + (1 + dl ((w >>> (7 &&& 31)) &&& 31) + 2 + (1 + dl ((w >>> (15 &&& 31)) &&& 31)) + 2) + (1 + dl ((w >>> (20 &&& 31)) &&& 31)))))))))))))
def lenM (w : Int32) : Nat := match nmI w with | none => 15 | some i => lenS.getD i 0 + opM w
set_option maxHeartbeats 16000000 in
set_option maxRecDepth 100000 in
/-- show -/
theorem c_sx_mshow (l : Launch) (dC : Nat → ClassId) (dI : Nat → Nat → Nat) (cI cB cZ cJ cR : ClassId) (tb : Nat → Nat) (sz : Nat) (h0 : Nat) (sa : Nat) (fs : List Value) (f : Nat → Int32) (w : Int32) (hsh : fs[103]? = some (.ref sa)) (hln : fs.length = 124) : Met l yX13_show (Cond.code yX13_show cX13_show 8 (some .int) :: tw_W) ({ frames := 5, cells := 4, slots := 32, locals := 107 }) (pc_ (dC, dI) (tyS cI cB cZ cJ cR) tb [(h0, .inr (16, fs)), (sa, .inl (cI, 60, .inl f))] sz [.ref h0, .int w]) (qi_ (dC, dI) [(h0, .inr (16, fs)), (sa, .inl (cI, 60, .inl f))] sz (fun (r : Int32) (u : Nat × (Nat → Int32)) => u.1 ≤ 60 ∧ r = nI (lenM w)) (fun (u : Nat × (Nat → Int32)) => [(h0, .inr (16, fsN (fs.set 0 (.int 0)) u.1)), (sa, .inl (cI, 60, .inl u.2))])) 4 32 (va_A [(h0, .inr (16, fs)), (sa, .inl (cI, 60, .inl f))] sz) := by
  refine Met.ofW (cc := cX13_show) (maxL := 8) (ret := (some .int)) (by decide) rfl ?_
  intro p e s m9 args below meth c s₁ B hml hv
  obtain ⟨rfl, hsz, hP, hKK, hD0, hFx⟩ := hv
  have hK := hKK.1
  have hx := B.exec
  have hb := B.bytes
  have hr := B.returns
  have ht : ∀ w ∈ tw_W, w.before _ s = true := fun w h => atoms_spec (ws := Cond.code yX13_show cX13_show 8 (some .int) :: tw_W) B.pre w (List.mem_cons_of_mem _ h)
  have hown : s.vm.findClass RX13 = some m9.cls := findClass_of_methodNamed B.named
  have hlocks := B.notSynchronized
  subst hsz
  unfold qi_
  have hD := hD0.self (sz := s.heap.size)
  generalize hAe : va_A [(h0, .inr (16, fs)), (sa, .inl (cI, 60, .inl f))] s.heap.size = A at hD hFx ⊢
  have hA : ∀ q : Nat, s.heap.size ≤ q → A q := fun q h => by rw [← hAe]; exact Or.inr h
  have hS : va_S A s.heap s.heap [] := va_S.rf
  have hP : va_P (dC, dI) vwCl [(h0, .inr (16, fs)), (sa, .inl (cI, 60, .inl f))] s.heap := hP
  have hl := lv_entry ([.ref h0, .int w]) (n := 8) (Nat.le_of_ble_eq_true rfl)
  rw [lg_entry_eq]
  generalize (lg_sl ([.ref h0, .int w]) ++ List.replicate (8 - (lg_sl ([.ref h0, .int w])).length) Slot.unset).toArray = ls at hl ⊢
  have hl : lv_has ls 8 [(0, .ref h0), (1, .int w)] := hl
  have hsh : (fs.set 0 (.int 0))[103]? = some (.ref sa) := by rw [List.getElem?_set_ne (by decide)]; exact hsh
  have hln9 := hln
  have hln : (fs.set 0 (.int 0)).length = 124 := by rw [List.length_set]; exact hln9
  refine lv_aload_n hx hb xdX13_show_0 rfl (lv_at hl 0 rfl) ?_
  refine lv_iconst (v := 0) hx hb xdX13_show_1 (by decide) ?_
  refine va_put (D := (dC, dI)) (ci := 16) (v := .int 0) (ty := .int) (C := RX13) (T := TX13) (N := 124) hx hb ht xiX13 tyX13 tyX13_ok nmX13 hown hK hP hD hS 0 rfl rfl 0 (by decide) (ht _ xw_160) (fun _ h9 => h9) rfl (by decide +kernel) rfl rfl (by first | (rw [fsN_len]; omega) | omega) xdX13_show_2 (fun H locs hP hD hS => ?_)
  have hP : va_P (dC, dI) vwCl [(h0, .inr (16, fs.set 0 (.int 0))), (sa, .inl (cI, 60, .inl f))] H := hP
  have hD : va_D A [(h0, .inr (16, fs.set 0 (.int 0))), (sa, .inl (cI, 60, .inl f))] := hD
  refine lv_aload_n hx hb xdX13_show_5 rfl (lv_at hl 0 rfl) ?_
  refine lv_iconst (v := 0) hx hb xdX13_show_6 (by decide) ?_
  refine va_put (D := (dC, dI)) (ci := 16) (v := .int 0) (ty := .int) (C := RX13) (T := TX13) (N := 124) hx hb ht xiX13 tyX13 tyX13_ok nmX13 hown hK hP hD hS 0 rfl rfl 104 (by decide) (ht _ xw_146) (fun _ h9 => h9) rfl (by decide +kernel) rfl rfl (by first | (rw [fsN_len]; omega) | omega) xdX13_show_7 (fun H locs hP hD hS => ?_)
  have hP : va_P (dC, dI) vwCl [(h0, .inr (16, fsN (fs.set 0 (.int 0)) 0)), (sa, .inl (cI, 60, .inl f))] H := hP
  have hD : va_D A [(h0, .inr (16, fsN (fs.set 0 (.int 0)) 0)), (sa, .inl (cI, 60, .inl f))] := hD
  refine lv_iload_n hx hb xdX13_show_10 rfl (lv_at hl 1 rfl) ?_
  refine ca_q (wr := [(h0, .inr (16, fsN (fs.set 0 (.int 0)) 0)), (sa, .inl (cI, 60, .inl f))]) (rn_S (n := 1) (As := [.int w]) (rest := []) hx hb hml hown ht hKK hFx hP hD hS hA (c_sx_nameOf l dC dI cI cB cZ cJ cR tb H.size w) xw_161 xw_162 (by decide +kernel) rfl rfl ⟨Nat.le_of_ble_eq_true rfl, Nat.le_of_ble_eq_true rfl⟩ [] rfl (by decide) rfl hl.1 rfl (Nat.le_of_ble_eq_true rfl) xdX13_show_11 ⟨Nat.le_of_ble_eq_true rfl, Nat.le_of_ble_eq_true rfl⟩) hP hD hS hA (isC := []) (isR := [0, 1]) rfl rfl (by decide) (by decide) (fun r2 u H locs hw1 hP hD hS => ?_)
  subst hw1
  have hP : va_P (dC, dI) vwCl [(h0, .inr (16, fsN (fs.set 0 (.int 0)) 0)), (sa, .inl (cI, 60, .inl f))] H := hP
  have hD : va_D A [(h0, .inr (16, fsN (fs.set 0 (.int 0)) 0)), (sa, .inl (cI, 60, .inl f))] := hD
  refine W.widen (k := 4) (n := 32) (by omega) (by omega) ?_
  rcases hnm : nmI w with _ | i
  · refine W.eq (g2 := F0 m9 14 ls [.null]) rfl ?_
    refine lv_astore_nN (lv' := [(2, .null), (0, .ref h0), (1, .int w)]) hx hb xdX13_show_14 rfl hl (by decide) rfl (fun ls hl => ?_)
    refine lv_aload_nN hx hb xdX13_show_15 rfl (lv_at hl 0 rfl) ?_
    refine lv_ifnonnullN hx hb xdX13_show_16 ?_
    refine lv_aload_n hx hb xdX13_show_19 rfl (lv_at hl 1 rfl) ?_
    refine va_ldcSW hx hb hown (st_ hKK 65 (own := RX13) (idx := 797) (tx := "word 0x") (n := 65) rfl) xdX13_show_20 ?_
    have hlen65 : lenS.getD 65 0 = 7 := by decide
    refine ca_v (wr := []) (rn_V (n := 1) (As := [.ref (tb (100 + 65))]) (rest := []) hx hb hml hown ht hKK hFx hP hD hS hA (c_sx_words l dC dI cI cB cZ cJ cR tb H.size h0 sa 0 (fs.set 0 (.int 0)) f 65 (by first | assumption | omega | rfl | exact sb_fit0) (by first | assumption | omega | rfl | exact sb_fit0) (by first | assumption | omega | rfl | exact sb_fit0) (by first | assumption | omega | rfl | exact sb_fit0)) xw_163 xw_164 (by decide +kernel) rfl rfl ⟨Nat.le_of_ble_eq_true rfl, Nat.le_of_ble_eq_true rfl⟩ [0, 1] rfl (by decide) rfl rfl rfl rfl hl.1 rfl (Nat.le_of_ble_eq_true rfl) xdX13_show_23 ⟨Nat.le_of_ble_eq_true rfl, Nat.le_of_ble_eq_true rfl⟩) hP hD hS hA (isC := [0, 1]) (isR := []) rfl rfl (by decide) (by decide) (fun u H locs hw3 hP hD hS => ?_)
    obtain ⟨z5, f6⟩ := u
    have g7 := hw3
    have g7 : z5 = 0 + lenS.getD 65 0 := g7
    have hP : va_P (dC, dI) vwCl [(h0, .inr (16, fsN (fs.set 0 (.int 0)) z5)), (sa, .inl (cI, 60, .inl f6))] H := hP
    have hD : va_D A [(h0, .inr (16, fsN (fs.set 0 (.int 0)) z5)), (sa, .inl (cI, 60, .inl f6))] := hD
    refine W.widen (k := 4) (n := 32) (by omega) (by omega) ?_
    refine lv_bipush (v := 28) hx hb xdX13_show_26 (by decide) ?_
    refine lv_istore_n (lv' := [(3, .int 28), (2, .null), (0, .ref h0), (1, .int w)]) hx hb xdX13_show_28 rfl hl (by decide) rfl (fun ls hl => ?_)
    refine lp_ (P := fun (i9 : Nat) (H : Heap) (locs : List Loc) (ls : Array Slot) => ∃ (kX : Nat) (fX : Nat → Int32), kX = 7 + i9 ∧ va_P (dC, dI) vwCl [(h0, .inr (16, fsN (fs.set 0 (.int 0)) kX)), (sa, .inl (cI, 60, .inl fX))] H ∧ va_D A [(h0, .inr (16, fsN (fs.set 0 (.int 0)) kX)), (sa, .inl (cI, 60, .inl fX))] ∧ va_S A s.heap H locs ∧ lv_has ls 8 [(3, .int (shH i9)), (0, .ref h0), (1, .int w)]) 29 8 (fun i9 H locs ls hi9 hq9 ih9 => ?_) (fun H locs ls hq9 => ?_) 0 _ _ _ (by omega) ⟨z5, f6, by omega, hP, hD, hS, lv_sub hl [0, 2, 3] rfl⟩
    · obtain ⟨kX, fX, hkX, hP, hD, hS, hl⟩ := hq9
      refine lv_iload_n hx hb xdX13_show_29 rfl (lv_at hl 0 rfl) ?_
      refine lv_if_lt (tgt := 55) hx hb xdX13_show_30 (by decide) (fun k8 => absurd k8 (shH_r i9 hi9).1) (fun _ => ?_)
      refine lv_aload_n hx hb xdX13_show_33 rfl (lv_at hl 1 rfl) ?_
      refine va_ldcSW hx hb hown (st_ hKK 66 (own := RX13) (idx := 802) (tx := "0123456789abcdef") (n := 11) rfl) xdX13_show_34 ?_
      refine lv_iload_n hx hb xdX13_show_37 rfl (lv_at hl 2 rfl) ?_
      refine lv_iload_n hx hb xdX13_show_38 rfl (lv_at hl 0 rfl) ?_
      refine lv_ishr hx hb xdX13_show_39 ?_
      refine lv_bipush (v := 15) hx hb xdX13_show_40 (by decide) ?_
      refine lv_iand hx hb xdX13_show_42 ?_
      obtain ⟨j9, hj9, ej10⟩ := pk_andE (w >>> ((shH i9) &&& 31)) (m := 15) 4 (by decide)
      refine tp_i (y := (nI j9)) (ej10) ?_
      have hlen11 : lenS.getD 11 0 = 16 := by decide
      refine ca_i (wr := [(h0, .inr (16, fsN (fs.set 0 (.int 0)) kX)), (sa, .inl (cI, 60, .inl fX))]) (rn_VS (n := 1) (As := [.int (nI j9)]) (rest := [.ref h0]) hx hb hml hown ht hKK hFx hP hD hS hA (i := 11) (by decide) (c_sx_charAt l dC dI cI cB cZ cJ cR tb H.size 11 j9 (by first | assumption | omega | rfl | exact sb_fit0) (by first | assumption | omega | rfl | exact sb_fit0) (by first | assumption | omega | rfl | exact sb_fit0)) xw_115 xw_148 (by decide +kernel) rfl rfl ⟨Nat.le_of_ble_eq_true rfl, Nat.le_of_ble_eq_true rfl⟩ [] rfl (by decide) rfl hl.1 rfl (Nat.le_of_ble_eq_true rfl) xdX13_show_43 ⟨Nat.le_of_ble_eq_true rfl, Nat.le_of_ble_eq_true rfl⟩) hP hD hS hA (isC := []) (isR := [0, 1]) rfl rfl (by decide) (by decide) (fun r12 u H locs hw11 hP hD hS => ?_)
      subst hw11
      have hP : va_P (dC, dI) vwCl [(h0, .inr (16, fsN (fs.set 0 (.int 0)) kX)), (sa, .inl (cI, 60, .inl fX))] H := hP
      have hD : va_D A [(h0, .inr (16, fsN (fs.set 0 (.int 0)) kX)), (sa, .inl (cI, 60, .inl fX))] := hD
      refine W.widen (k := 4) (n := 32) (by omega) (by omega) ?_
      refine ca_v (wr := []) (rn_V (n := 1) (As := [.int (nI (chN 11 j9))]) (rest := []) hx hb hml hown ht hKK hFx hP hD hS hA (c_sx_sign l dC dI cI cB cZ cJ cR tb H.size h0 sa kX (fs.set 0 (.int 0)) fX (nI (chN 11 j9)) (by first | assumption | omega | rfl | exact sb_fit0) (by first | assumption | omega | rfl | exact sb_fit0) (by first | assumption | omega | rfl | exact sb_fit0)) xw_149 xw_150 (by decide +kernel) rfl rfl ⟨Nat.le_of_ble_eq_true rfl, Nat.le_of_ble_eq_true rfl⟩ [0, 1] rfl (by decide) rfl rfl rfl rfl hl.1 rfl (Nat.le_of_ble_eq_true rfl) xdX13_show_46 ⟨Nat.le_of_ble_eq_true rfl, Nat.le_of_ble_eq_true rfl⟩) hP hD hS hA (isC := [0, 1]) (isR := []) rfl rfl (by decide) (by decide) (fun u H locs hw13 hP hD hS => ?_)
      obtain ⟨z15, f16⟩ := u
      have g17 := hw13
      have g17 : z15 = kX + 1 := g17
      have hP : va_P (dC, dI) vwCl [(h0, .inr (16, fsN (fs.set 0 (.int 0)) z15)), (sa, .inl (cI, 60, .inl f16))] H := hP
      have hD : va_D A [(h0, .inr (16, fsN (fs.set 0 (.int 0)) z15)), (sa, .inl (cI, 60, .inl f16))] := hD
      refine W.widen (k := 4) (n := 32) (by omega) (by omega) ?_
      refine lv_iinc (v := ((shH i9) + (-4))) (lv' := [(3, .int ((shH i9) + (-4))), (0, .ref h0), (1, .int w)]) hx hb xdX13_show_49 hl (k := 0) rfl (rfl) (by decide) rfl (fun ls hl => ?_)
      refine lv_goto (tgt := 29) hx hb xdX13_show_52 (by decide) ?_
      exact ih9 _ _ _ ⟨z15, f16, by omega, hP, hD, hS, by rw [← (shH_r i9 hi9).2]; exact lv_sub hl [0, 1, 2] rfl⟩
    · obtain ⟨kX, fX, hkX, hP, hD, hS, hl⟩ := hq9
      refine lv_iload_n hx hb xdX13_show_29 rfl (lv_at hl 0 rfl) ?_
      refine lv_if_lt (tgt := 55) hx hb xdX13_show_30 (by decide) (fun _ => ?_) (fun k18 => absurd shH_8 k18)
      refine lv_aload_n hx hb xdX13_show_55 rfl (lv_at hl 1 rfl) ?_
      refine va_get (D := (dC, dI)) (ci := 16) (v := .int (nI kX)) (C := RX13) (T := TX13) (N := 124) hx hb ht xiX13 hown hK hP 0 rfl rfl 104 (by decide) (ht _ xw_146) (fun _ h9 => h9) (fsN_n hln) xdX13_show_56 ?_
      have hP9 := hP.sub (ws' := [(h0, .inr (16, fsN (fs.set 0 (.int 0)) kX)), (sa, .inl (cI, 60, .inl fX))]) [0, 1] rfl
      have hD9 := hD.sub (ws' := [(h0, .inr (16, fsN (fs.set 0 (.int 0)) kX)), (sa, .inl (cI, 60, .inl fX))]) [0, 1] (by decide) rfl
      refine W.widen (k := 4) (n := 32) (by omega) (by omega) ?_
      exact W.iret (v := (nI kX)) hx hb hr (fun t ht9 hW => ⟨⟨(nI kX), (kX, fX), rfl, ⟨(by first | omega | (dsimp only; omega)), (congrArg nI (by unfold lenM; rw [hnm]; dsimp only; omega))⟩, by rw [ht9]; exact hP9, hD9⟩, hS.F ht9⟩) hS.2.2 xdX13_show_59
  · refine W.eq (g2 := F0 m9 14 ls [.ref (tb (100 + i))]) rfl ?_
    obtain ⟨hi, hilen⟩ := nmI_ok w i hnm
    refine lv_astore_n (lv' := [(2, .ref (tb (100 + i))), (0, .ref h0), (1, .int w)]) hx hb xdX13_show_14 rfl hl (by decide) rfl (fun ls hl => ?_)
    refine lv_aload_n hx hb xdX13_show_15 rfl (lv_at hl 0 rfl) ?_
    refine lv_ifnonnull (tgt := 60) hx hb xdX13_show_16 (by decide) ?_
    refine lv_aload_n hx hb xdX13_show_60 rfl (lv_at hl 1 rfl) ?_
    refine lv_aload_n hx hb xdX13_show_61 rfl (lv_at hl 0 rfl) ?_
    refine ca_v (wr := []) (rn_V (n := 1) (As := [.ref (tb (100 + i))]) (rest := []) hx hb hml hown ht hKK hFx hP hD hS hA (c_sx_words l dC dI cI cB cZ cJ cR tb H.size h0 sa 0 (fs.set 0 (.int 0)) f i (by first | assumption | omega | rfl | exact sb_fit0) (by first | assumption | omega | rfl | exact sb_fit0) (by first | assumption | omega | rfl | exact sb_fit0) (by first | assumption | omega | rfl | exact sb_fit0)) xw_163 xw_164 (by decide +kernel) rfl rfl ⟨Nat.le_of_ble_eq_true rfl, Nat.le_of_ble_eq_true rfl⟩ [0, 1] rfl (by decide) rfl rfl rfl rfl hl.1 rfl (Nat.le_of_ble_eq_true rfl) xdX13_show_62 ⟨Nat.le_of_ble_eq_true rfl, Nat.le_of_ble_eq_true rfl⟩) hP hD hS hA (isC := [0, 1]) (isR := []) rfl rfl (by decide) (by decide) (fun u H locs hw19 hP hD hS => ?_)
    obtain ⟨z21, f22⟩ := u
    have g23 := hw19
    have g23 : z21 = 0 + lenS.getD i 0 := g23
    have hP : va_P (dC, dI) vwCl [(h0, .inr (16, fsN (fs.set 0 (.int 0)) z21)), (sa, .inl (cI, 60, .inl f22))] H := hP
    have hD : va_D A [(h0, .inr (16, fsN (fs.set 0 (.int 0)) z21)), (sa, .inl (cI, 60, .inl f22))] := hD
    refine W.widen (k := 4) (n := 32) (by omega) (by omega) ?_
    refine lv_iload_n hx hb xdX13_show_65 rfl (lv_at hl 2 rfl) ?_
    refine lv_bipush (v := 7) hx hb xdX13_show_66 (by decide) ?_
    refine lv_ishr hx hb xdX13_show_68 ?_
    refine lv_bipush (v := 31) hx hb xdX13_show_69 (by decide) ?_
    refine lv_iand hx hb xdX13_show_71 ?_
    refine lv_istore_n (lv' := [(3, .int ((w >>> (7 &&& 31)) &&& 31)), (2, .ref (tb (100 + i))), (0, .ref h0), (1, .int w)]) hx hb xdX13_show_72 rfl hl (by decide) rfl (fun ls hl => ?_)
    refine lv_iload_n hx hb xdX13_show_73 rfl (lv_at hl 3 rfl) ?_
    refine lv_bipush (v := 15) hx hb xdX13_show_74 (by decide) ?_
    refine lv_ishr hx hb xdX13_show_76 ?_
    refine lv_bipush (v := 31) hx hb xdX13_show_77 (by decide) ?_
    refine lv_iand hx hb xdX13_show_79 ?_
    refine lv_istore (lv' := [(4, .int ((w >>> (15 &&& 31)) &&& 31)), (3, .int ((w >>> (7 &&& 31)) &&& 31)), (2, .ref (tb (100 + i))), (0, .ref h0), (1, .int w)]) hx hb xdX13_show_80 hl (by decide) rfl (fun ls hl => ?_)
    refine lv_iload_n hx hb xdX13_show_82 rfl (lv_at hl 4 rfl) ?_
    refine lv_bipush (v := 20) hx hb xdX13_show_83 (by decide) ?_
    refine lv_ishr hx hb xdX13_show_85 ?_
    refine lv_bipush (v := 31) hx hb xdX13_show_86 (by decide) ?_
    refine lv_iand hx hb xdX13_show_88 ?_
    refine lv_istore (lv' := [(5, .int ((w >>> (20 &&& 31)) &&& 31)), (4, .int ((w >>> (15 &&& 31)) &&& 31)), (3, .int ((w >>> (7 &&& 31)) &&& 31)), (2, .ref (tb (100 + i))), (0, .ref h0), (1, .int w)]) hx hb xdX13_show_89 hl (by decide) rfl (fun ls hl => ?_)
    refine lv_iload_n hx hb xdX13_show_91 rfl (lv_at hl 5 rfl) ?_
    refine lv_bipush (v := 12) hx hb xdX13_show_92 (by decide) ?_
    refine lv_ishr hx hb xdX13_show_94 ?_
    refine lv_bipush (v := 7) hx hb xdX13_show_95 (by decide) ?_
    refine lv_iand hx hb xdX13_show_97 ?_
    refine lv_istore (lv' := [(6, .int ((w >>> (12 &&& 31)) &&& 7)), (5, .int ((w >>> (20 &&& 31)) &&& 31)), (4, .int ((w >>> (15 &&& 31)) &&& 31)), (3, .int ((w >>> (7 &&& 31)) &&& 31)), (2, .ref (tb (100 + i))), (0, .ref h0), (1, .int w)]) hx hb xdX13_show_98 hl (by decide) rfl (fun ls hl => ?_)
    refine lv_iload_n hx hb xdX13_show_100 rfl (lv_at hl 6 rfl) ?_
    refine lv_bipush (v := 127) hx hb xdX13_show_101 (by decide) ?_
    refine lv_iand hx hb xdX13_show_103 ?_
    refine lv_istore (lv' := [(7, .int (w &&& 127)), (6, .int ((w >>> (12 &&& 31)) &&& 7)), (5, .int ((w >>> (20 &&& 31)) &&& 31)), (4, .int ((w >>> (15 &&& 31)) &&& 31)), (3, .int ((w >>> (7 &&& 31)) &&& 31)), (2, .ref (tb (100 + i))), (0, .ref h0), (1, .int w)]) hx hb xdX13_show_104 hl (by decide) rfl (fun ls hl => ?_)
    refine lv_iload hx hb xdX13_show_106 (lv_at hl 0 rfl) ?_
    refine lv_bipush (v := 15) hx hb xdX13_show_108 (by decide) ?_
    refine lv_icmp_eq (tgt := 120) hx hb xdX13_show_110 (by decide) (fun h24 => ?_) (fun h24 => ?_)
    · refine lv_aload_n hx hb xdX13_show_120 rfl (lv_at hl 6 rfl) ?_
      refine va_get (D := (dC, dI)) (ci := 16) (v := .int (nI z21)) (C := RX13) (T := TX13) (N := 124) hx hb ht xiX13 hown hK hP 0 rfl rfl 104 (by decide) (ht _ xw_146) (fun _ h9 => h9) (fsN_n hln) xdX13_show_121 ?_
      have hP9 := hP.sub (ws' := [(h0, .inr (16, fsN (fs.set 0 (.int 0)) z21)), (sa, .inl (cI, 60, .inl f22))]) [0, 1] rfl
      have hD9 := hD.sub (ws' := [(h0, .inr (16, fsN (fs.set 0 (.int 0)) z21)), (sa, .inl (cI, 60, .inl f22))]) [0, 1] (by decide) rfl
      refine W.widen (k := 4) (n := 32) (by omega) (by omega) ?_
      exact W.iret (v := (nI z21)) hx hb hr (fun t ht9 hW => ⟨⟨(nI z21), (z21, f22), rfl, ⟨(by first | omega | (dsimp only; omega)), (congrArg nI (by unfold lenM opM; rw [hnm]; dsimp only; rw [if_pos h24]; omega))⟩, by rw [ht9]; exact hP9, hD9⟩, hS.F ht9⟩) hS.2.2 xdX13_show_124
    · refine lv_iload hx hb xdX13_show_113 (lv_at hl 0 rfl) ?_
      refine lv_bipush (v := 115) hx hb xdX13_show_115 (by decide) ?_
      refine lv_icmp_ne (tgt := 125) hx hb xdX13_show_117 (by decide) (fun h25 => ?_) (fun h25 => ?_)
      · refine lv_aload_n hx hb xdX13_show_125 rfl (lv_at hl 6 rfl) ?_
        refine lv_bipush (v := 32) hx hb xdX13_show_126 (by decide) ?_
        refine ca_v (wr := []) (rn_V (n := 1) (As := [.int 32]) (rest := []) hx hb hml hown ht hKK hFx hP hD hS hA (c_sx_sign l dC dI cI cB cZ cJ cR tb H.size h0 sa z21 (fs.set 0 (.int 0)) f22 32 (by first | assumption | omega | rfl | exact sb_fit0) (by first | assumption | omega | rfl | exact sb_fit0) (by first | assumption | omega | rfl | exact sb_fit0)) xw_149 xw_150 (by decide +kernel) rfl rfl ⟨Nat.le_of_ble_eq_true rfl, Nat.le_of_ble_eq_true rfl⟩ [0, 1] rfl (by decide) rfl rfl rfl rfl hl.1 rfl (Nat.le_of_ble_eq_true rfl) xdX13_show_128 ⟨Nat.le_of_ble_eq_true rfl, Nat.le_of_ble_eq_true rfl⟩) hP hD hS hA (isC := [0, 1]) (isR := []) rfl rfl (by decide) (by decide) (fun u H locs hw26 hP hD hS => ?_)
        obtain ⟨z28, f29⟩ := u
        have g30 := hw26
        have g30 : z28 = z21 + 1 := g30
        have hP : va_P (dC, dI) vwCl [(h0, .inr (16, fsN (fs.set 0 (.int 0)) z28)), (sa, .inl (cI, 60, .inl f29))] H := hP
        have hD : va_D A [(h0, .inr (16, fsN (fs.set 0 (.int 0)) z28)), (sa, .inl (cI, 60, .inl f29))] := hD
        refine W.widen (k := 4) (n := 32) (by omega) (by omega) ?_
        refine lv_iload hx hb xdX13_show_131 (lv_at hl 0 rfl) ?_
        by_cases h31 : (w &&& 127) = 3
        · refine lv_lookup (off := 115) (tgt := 248) hx hb xdX13_show_133 (by decide) (by rw [h31]; decide) (by decide) ?_
          refine lv_aload_n hx hb xdX13_show_248 rfl (lv_at hl 6 rfl) ?_
          refine lv_iload_n hx hb xdX13_show_249 rfl (lv_at hl 4 rfl) ?_
          have hd32 := dl_31 (w >>> (7 &&& 31))
          have hd33 := dl_le ((w >>> (7 &&& 31)) &&& 31)
          refine ca_v (wr := []) (rn_V (n := 1) (As := [.int ((w >>> (7 &&& 31)) &&& 31)]) (rest := []) hx hb hml hown ht hKK hFx hP hD hS hA (c_sx_nam l dC dI cI cB cZ cJ cR tb H.size h0 sa z28 (fs.set 0 (.int 0)) f29 ((w >>> (7 &&& 31)) &&& 31) (by first | assumption | omega | rfl | exact sb_fit0) (by first | assumption | omega | rfl | exact sb_fit0) (by first | assumption | omega | rfl | exact sb_fit0)) xw_154 xw_155 (by decide +kernel) rfl rfl ⟨Nat.le_of_ble_eq_true rfl, Nat.le_of_ble_eq_true rfl⟩ [0, 1] rfl (by decide) rfl rfl rfl rfl hl.1 rfl (Nat.le_of_ble_eq_true rfl) xdX13_show_250 ⟨Nat.le_of_ble_eq_true rfl, Nat.le_of_ble_eq_true rfl⟩) hP hD hS hA (isC := [0, 1]) (isR := []) rfl rfl (by decide) (by decide) (fun u H locs hw34 hP hD hS => ?_)
          obtain ⟨z36, f37⟩ := u
          have g38 := hw34
          have g38 : z36 = z28 + 1 + dl ((w >>> (7 &&& 31)) &&& 31) := g38
          have hP : va_P (dC, dI) vwCl [(h0, .inr (16, fsN (fs.set 0 (.int 0)) z36)), (sa, .inl (cI, 60, .inl f37))] H := hP
          have hD : va_D A [(h0, .inr (16, fsN (fs.set 0 (.int 0)) z36)), (sa, .inl (cI, 60, .inl f37))] := hD
          refine W.widen (k := 4) (n := 32) (by omega) (by omega) ?_
          refine lv_aload_n hx hb xdX13_show_253 rfl (lv_at hl 6 rfl) ?_
          refine ca_v (wr := []) (rn_V (n := 0) (As := []) (rest := []) hx hb hml hown ht hKK hFx hP hD hS hA (c_sx_com l dC dI cI cB cZ cJ cR tb H.size h0 sa z36 (fs.set 0 (.int 0)) f37 (by first | assumption | omega | rfl | exact sb_fit0) (by first | assumption | omega | rfl | exact sb_fit0) (by first | assumption | omega | rfl | exact sb_fit0)) xw_156 xw_157 (by decide +kernel) rfl rfl ⟨Nat.le_of_ble_eq_true rfl, Nat.le_of_ble_eq_true rfl⟩ [0, 1] rfl (by decide) rfl rfl rfl rfl hl.1 rfl (Nat.le_of_ble_eq_true rfl) xdX13_show_254 ⟨Nat.le_of_ble_eq_true rfl, Nat.le_of_ble_eq_true rfl⟩) hP hD hS hA (isC := [0, 1]) (isR := []) rfl rfl (by decide) (by decide) (fun u H locs hw39 hP hD hS => ?_)
          obtain ⟨z41, f42⟩ := u
          have g43 := hw39
          have g43 : z41 = z36 + 2 := g43
          have hP : va_P (dC, dI) vwCl [(h0, .inr (16, fsN (fs.set 0 (.int 0)) z41)), (sa, .inl (cI, 60, .inl f42))] H := hP
          have hD : va_D A [(h0, .inr (16, fsN (fs.set 0 (.int 0)) z41)), (sa, .inl (cI, 60, .inl f42))] := hD
          refine W.widen (k := 4) (n := 32) (by omega) (by omega) ?_
          refine lv_aload_n hx hb xdX13_show_257 rfl (lv_at hl 6 rfl) ?_
          refine lv_iload_n hx hb xdX13_show_258 rfl (lv_at hl 7 rfl) ?_
          refine lv_bipush (v := 20) hx hb xdX13_show_259 (by decide) ?_
          refine lv_ishr hx hb xdX13_show_261 ?_
          refine lv_iload hx hb xdX13_show_262 (lv_at hl 3 rfl) ?_
          have hd44 := dl_le (w >>> (20 &&& 31))
          have hd45 := dl_31 (w >>> (15 &&& 31))
          have hd46 := dl_le ((w >>> (15 &&& 31)) &&& 31)
          refine ca_v (wr := []) (rn_V (n := 2) (As := [.int (w >>> (20 &&& 31)), .int ((w >>> (15 &&& 31)) &&& 31)]) (rest := []) hx hb hml hown ht hKK hFx hP hD hS hA (c_sx_at l dC dI cI cB cZ cJ cR tb H.size h0 sa z41 (fs.set 0 (.int 0)) f42 (w >>> (20 &&& 31)) ((w >>> (15 &&& 31)) &&& 31) (by first | assumption | omega | rfl | exact sb_fit0) (by first | assumption | omega | rfl | exact sb_fit0) (by first | assumption | omega | rfl | exact sb_fit0)) xw_165 xw_166 (by decide +kernel) rfl rfl ⟨Nat.le_of_ble_eq_true rfl, Nat.le_of_ble_eq_true rfl⟩ [0, 1] rfl (by decide) rfl rfl rfl rfl hl.1 rfl (Nat.le_of_ble_eq_true rfl) xdX13_show_264 ⟨Nat.le_of_ble_eq_true rfl, Nat.le_of_ble_eq_true rfl⟩) hP hD hS hA (isC := [0, 1]) (isR := []) rfl rfl (by decide) (by decide) (fun u H locs hw47 hP hD hS => ?_)
          obtain ⟨z49, f50⟩ := u
          have g51 := hw47
          have g51 : z49 = z41 + (dl (w >>> (20 &&& 31)) + 1 + (1 + dl ((w >>> (15 &&& 31)) &&& 31)) + 1) := g51
          have hP : va_P (dC, dI) vwCl [(h0, .inr (16, fsN (fs.set 0 (.int 0)) z49)), (sa, .inl (cI, 60, .inl f50))] H := hP
          have hD : va_D A [(h0, .inr (16, fsN (fs.set 0 (.int 0)) z49)), (sa, .inl (cI, 60, .inl f50))] := hD
          refine W.widen (k := 4) (n := 32) (by omega) (by omega) ?_
          refine lv_goto (tgt := 364) hx hb xdX13_show_267 (by decide) ?_
          refine lv_aload_n hx hb xdX13_show_364 rfl (lv_at hl 6 rfl) ?_
          refine va_get (D := (dC, dI)) (ci := 16) (v := .int (nI z49)) (C := RX13) (T := TX13) (N := 124) hx hb ht xiX13 hown hK hP 0 rfl rfl 104 (by decide) (ht _ xw_146) (fun _ h9 => h9) (fsN_n hln) xdX13_show_365 ?_
          have hP9 := hP.sub (ws' := [(h0, .inr (16, fsN (fs.set 0 (.int 0)) z49)), (sa, .inl (cI, 60, .inl f50))]) [0, 1] rfl
          have hD9 := hD.sub (ws' := [(h0, .inr (16, fsN (fs.set 0 (.int 0)) z49)), (sa, .inl (cI, 60, .inl f50))]) [0, 1] (by decide) rfl
          refine W.widen (k := 4) (n := 32) (by omega) (by omega) ?_
          exact W.iret (v := (nI z49)) hx hb hr (fun t ht9 hW => ⟨⟨(nI z49), (z49, f50), rfl, ⟨(by first | omega | (dsimp only; omega)), (congrArg nI (by unfold lenM opM; rw [hnm]; dsimp only; rw [if_neg h24, if_neg h25, if_pos h31]; omega))⟩, by rw [ht9]; exact hP9, hD9⟩, hS.F ht9⟩) hS.2.2 xdX13_show_368
        ·
          by_cases h52 : (w &&& 127) = 19
          · refine lv_lookup (off := 183) (tgt := 316) hx hb xdX13_show_133 (by decide) (by rw [h52]; decide) (by decide) ?_
            refine lv_aload_n hx hb xdX13_show_316 rfl (lv_at hl 6 rfl) ?_
            refine lv_iload_n hx hb xdX13_show_317 rfl (lv_at hl 4 rfl) ?_
            refine lv_iload hx hb xdX13_show_318 (lv_at hl 3 rfl) ?_
            have hd53 := dl_31 (w >>> (7 &&& 31))
            have hd54 := dl_le ((w >>> (7 &&& 31)) &&& 31)
            have hd55 := dl_31 (w >>> (15 &&& 31))
            have hd56 := dl_le ((w >>> (15 &&& 31)) &&& 31)
            refine ca_v (wr := []) (rn_V (n := 2) (As := [.int ((w >>> (7 &&& 31)) &&& 31), .int ((w >>> (15 &&& 31)) &&& 31)]) (rest := []) hx hb hml hown ht hKK hFx hP hD hS hA (c_sx_thr l dC dI cI cB cZ cJ cR tb H.size h0 sa z28 (fs.set 0 (.int 0)) f29 ((w >>> (7 &&& 31)) &&& 31) ((w >>> (15 &&& 31)) &&& 31) (by first | assumption | omega | rfl | exact sb_fit0) (by first | assumption | omega | rfl | exact sb_fit0) (by first | assumption | omega | rfl | exact sb_fit0)) xw_167 xw_168 (by decide +kernel) rfl rfl ⟨Nat.le_of_ble_eq_true rfl, Nat.le_of_ble_eq_true rfl⟩ [0, 1] rfl (by decide) rfl rfl rfl rfl hl.1 rfl (Nat.le_of_ble_eq_true rfl) xdX13_show_320 ⟨Nat.le_of_ble_eq_true rfl, Nat.le_of_ble_eq_true rfl⟩) hP hD hS hA (isC := [0, 1]) (isR := []) rfl rfl (by decide) (by decide) (fun u H locs hw57 hP hD hS => ?_)
            obtain ⟨z59, f60⟩ := u
            have g61 := hw57
            have g61 : z59 = z28 + (1 + dl ((w >>> (7 &&& 31)) &&& 31) + 2 + (1 + dl ((w >>> (15 &&& 31)) &&& 31)) + 2) := g61
            have hP : va_P (dC, dI) vwCl [(h0, .inr (16, fsN (fs.set 0 (.int 0)) z59)), (sa, .inl (cI, 60, .inl f60))] H := hP
            have hD : va_D A [(h0, .inr (16, fsN (fs.set 0 (.int 0)) z59)), (sa, .inl (cI, 60, .inl f60))] := hD
            refine W.widen (k := 4) (n := 32) (by omega) (by omega) ?_
            refine lv_aload_n hx hb xdX13_show_323 rfl (lv_at hl 6 rfl) ?_
            refine lv_iload hx hb xdX13_show_324 (lv_at hl 1 rfl) ?_
            refine lv_iconst (v := 1) hx hb xdX13_show_326 (by decide) ?_
            refine lv_icmp_eq (tgt := 336) hx hb xdX13_show_327 (by decide) (fun h62 => ?_) (fun h62 => ?_)
            · refine lv_iload hx hb xdX13_show_336 (lv_at hl 2 rfl) ?_
              refine lv_goto (tgt := 345) hx hb xdX13_show_338 (by decide) ?_
              have hd63 := dl_31 (w >>> (20 &&& 31))
              have hd64 := dl_le ((w >>> (20 &&& 31)) &&& 31)
              refine ca_v (wr := []) (rn_V (n := 1) (As := [.int ((w >>> (20 &&& 31)) &&& 31)]) (rest := []) hx hb hml hown ht hKK hFx hP hD hS hA (c_sx_dec l dC dI cI cB cZ cJ cR tb H.size h0 sa z59 (fs.set 0 (.int 0)) f60 ((w >>> (20 &&& 31)) &&& 31) (by first | assumption | omega | rfl | exact sb_fit0) (by first | assumption | omega | rfl | exact sb_fit0) (by first | assumption | omega | rfl | exact sb_fit0)) xw_152 xw_153 (by decide +kernel) rfl rfl ⟨Nat.le_of_ble_eq_true rfl, Nat.le_of_ble_eq_true rfl⟩ [0, 1] rfl (by decide) rfl rfl rfl rfl hl.1 rfl (Nat.le_of_ble_eq_true rfl) xdX13_show_345 ⟨Nat.le_of_ble_eq_true rfl, Nat.le_of_ble_eq_true rfl⟩) hP hD hS hA (isC := [0, 1]) (isR := []) rfl rfl (by decide) (by decide) (fun u H locs hw65 hP hD hS => ?_)
              obtain ⟨z67, f68⟩ := u
              have g69 := hw65
              have g69 : z67 = z59 + dl ((w >>> (20 &&& 31)) &&& 31) := g69
              have hP : va_P (dC, dI) vwCl [(h0, .inr (16, fsN (fs.set 0 (.int 0)) z67)), (sa, .inl (cI, 60, .inl f68))] H := hP
              have hD : va_D A [(h0, .inr (16, fsN (fs.set 0 (.int 0)) z67)), (sa, .inl (cI, 60, .inl f68))] := hD
              refine W.widen (k := 4) (n := 32) (by omega) (by omega) ?_
              refine lv_goto (tgt := 364) hx hb xdX13_show_348 (by decide) ?_
              refine lv_aload_n hx hb xdX13_show_364 rfl (lv_at hl 6 rfl) ?_
              refine va_get (D := (dC, dI)) (ci := 16) (v := .int (nI z67)) (C := RX13) (T := TX13) (N := 124) hx hb ht xiX13 hown hK hP 0 rfl rfl 104 (by decide) (ht _ xw_146) (fun _ h9 => h9) (fsN_n hln) xdX13_show_365 ?_
              have hP9 := hP.sub (ws' := [(h0, .inr (16, fsN (fs.set 0 (.int 0)) z67)), (sa, .inl (cI, 60, .inl f68))]) [0, 1] rfl
              have hD9 := hD.sub (ws' := [(h0, .inr (16, fsN (fs.set 0 (.int 0)) z67)), (sa, .inl (cI, 60, .inl f68))]) [0, 1] (by decide) rfl
              refine W.widen (k := 4) (n := 32) (by omega) (by omega) ?_
              exact W.iret (v := (nI z67)) hx hb hr (fun t ht9 hW => ⟨⟨(nI z67), (z67, f68), rfl, ⟨(by first | omega | (dsimp only; omega)), (congrArg nI (by unfold lenM opM; rw [hnm]; dsimp only; rw [if_neg h24, if_neg h25, if_neg h31, if_pos h52, if_pos h62]; omega))⟩, by rw [ht9]; exact hP9, hD9⟩, hS.F ht9⟩) hS.2.2 xdX13_show_368
            · refine lv_iload hx hb xdX13_show_330 (lv_at hl 1 rfl) ?_
              refine lv_iconst (v := 5) hx hb xdX13_show_332 (by decide) ?_
              refine lv_icmp_ne (tgt := 341) hx hb xdX13_show_333 (by decide) (fun h70 => ?_) (fun h70 => ?_)
              · refine lv_iload_n hx hb xdX13_show_341 rfl (lv_at hl 7 rfl) ?_
                refine lv_bipush (v := 20) hx hb xdX13_show_342 (by decide) ?_
                refine lv_ishr hx hb xdX13_show_344 ?_
                have hd71 := dl_le (w >>> (20 &&& 31))
                refine ca_v (wr := []) (rn_V (n := 1) (As := [.int (w >>> (20 &&& 31))]) (rest := []) hx hb hml hown ht hKK hFx hP hD hS hA (c_sx_dec l dC dI cI cB cZ cJ cR tb H.size h0 sa z59 (fs.set 0 (.int 0)) f60 (w >>> (20 &&& 31)) (by first | assumption | omega | rfl | exact sb_fit0) (by first | assumption | omega | rfl | exact sb_fit0) (by first | assumption | omega | rfl | exact sb_fit0)) xw_152 xw_153 (by decide +kernel) rfl rfl ⟨Nat.le_of_ble_eq_true rfl, Nat.le_of_ble_eq_true rfl⟩ [0, 1] rfl (by decide) rfl rfl rfl rfl hl.1 rfl (Nat.le_of_ble_eq_true rfl) xdX13_show_345 ⟨Nat.le_of_ble_eq_true rfl, Nat.le_of_ble_eq_true rfl⟩) hP hD hS hA (isC := [0, 1]) (isR := []) rfl rfl (by decide) (by decide) (fun u H locs hw72 hP hD hS => ?_)
                obtain ⟨z74, f75⟩ := u
                have g76 := hw72
                have g76 : z74 = z59 + dl (w >>> (20 &&& 31)) := g76
                have hP : va_P (dC, dI) vwCl [(h0, .inr (16, fsN (fs.set 0 (.int 0)) z74)), (sa, .inl (cI, 60, .inl f75))] H := hP
                have hD : va_D A [(h0, .inr (16, fsN (fs.set 0 (.int 0)) z74)), (sa, .inl (cI, 60, .inl f75))] := hD
                refine W.widen (k := 4) (n := 32) (by omega) (by omega) ?_
                refine lv_goto (tgt := 364) hx hb xdX13_show_348 (by decide) ?_
                refine lv_aload_n hx hb xdX13_show_364 rfl (lv_at hl 6 rfl) ?_
                refine va_get (D := (dC, dI)) (ci := 16) (v := .int (nI z74)) (C := RX13) (T := TX13) (N := 124) hx hb ht xiX13 hown hK hP 0 rfl rfl 104 (by decide) (ht _ xw_146) (fun _ h9 => h9) (fsN_n hln) xdX13_show_365 ?_
                have hP9 := hP.sub (ws' := [(h0, .inr (16, fsN (fs.set 0 (.int 0)) z74)), (sa, .inl (cI, 60, .inl f75))]) [0, 1] rfl
                have hD9 := hD.sub (ws' := [(h0, .inr (16, fsN (fs.set 0 (.int 0)) z74)), (sa, .inl (cI, 60, .inl f75))]) [0, 1] (by decide) rfl
                refine W.widen (k := 4) (n := 32) (by omega) (by omega) ?_
                exact W.iret (v := (nI z74)) hx hb hr (fun t ht9 hW => ⟨⟨(nI z74), (z74, f75), rfl, ⟨(by first | omega | (dsimp only; omega)), (congrArg nI (by unfold lenM opM; rw [hnm]; dsimp only; rw [if_neg h24, if_neg h25, if_neg h31, if_pos h52, if_neg h62, if_neg h70]; omega))⟩, by rw [ht9]; exact hP9, hD9⟩, hS.F ht9⟩) hS.2.2 xdX13_show_368
              · refine lv_iload hx hb xdX13_show_336 (lv_at hl 2 rfl) ?_
                refine lv_goto (tgt := 345) hx hb xdX13_show_338 (by decide) ?_
                have hd77 := dl_31 (w >>> (20 &&& 31))
                have hd78 := dl_le ((w >>> (20 &&& 31)) &&& 31)
                refine ca_v (wr := []) (rn_V (n := 1) (As := [.int ((w >>> (20 &&& 31)) &&& 31)]) (rest := []) hx hb hml hown ht hKK hFx hP hD hS hA (c_sx_dec l dC dI cI cB cZ cJ cR tb H.size h0 sa z59 (fs.set 0 (.int 0)) f60 ((w >>> (20 &&& 31)) &&& 31) (by first | assumption | omega | rfl | exact sb_fit0) (by first | assumption | omega | rfl | exact sb_fit0) (by first | assumption | omega | rfl | exact sb_fit0)) xw_152 xw_153 (by decide +kernel) rfl rfl ⟨Nat.le_of_ble_eq_true rfl, Nat.le_of_ble_eq_true rfl⟩ [0, 1] rfl (by decide) rfl rfl rfl rfl hl.1 rfl (Nat.le_of_ble_eq_true rfl) xdX13_show_345 ⟨Nat.le_of_ble_eq_true rfl, Nat.le_of_ble_eq_true rfl⟩) hP hD hS hA (isC := [0, 1]) (isR := []) rfl rfl (by decide) (by decide) (fun u H locs hw79 hP hD hS => ?_)
                obtain ⟨z81, f82⟩ := u
                have g83 := hw79
                have g83 : z81 = z59 + dl ((w >>> (20 &&& 31)) &&& 31) := g83
                have hP : va_P (dC, dI) vwCl [(h0, .inr (16, fsN (fs.set 0 (.int 0)) z81)), (sa, .inl (cI, 60, .inl f82))] H := hP
                have hD : va_D A [(h0, .inr (16, fsN (fs.set 0 (.int 0)) z81)), (sa, .inl (cI, 60, .inl f82))] := hD
                refine W.widen (k := 4) (n := 32) (by omega) (by omega) ?_
                refine lv_goto (tgt := 364) hx hb xdX13_show_348 (by decide) ?_
                refine lv_aload_n hx hb xdX13_show_364 rfl (lv_at hl 6 rfl) ?_
                refine va_get (D := (dC, dI)) (ci := 16) (v := .int (nI z81)) (C := RX13) (T := TX13) (N := 124) hx hb ht xiX13 hown hK hP 0 rfl rfl 104 (by decide) (ht _ xw_146) (fun _ h9 => h9) (fsN_n hln) xdX13_show_365 ?_
                have hP9 := hP.sub (ws' := [(h0, .inr (16, fsN (fs.set 0 (.int 0)) z81)), (sa, .inl (cI, 60, .inl f82))]) [0, 1] rfl
                have hD9 := hD.sub (ws' := [(h0, .inr (16, fsN (fs.set 0 (.int 0)) z81)), (sa, .inl (cI, 60, .inl f82))]) [0, 1] (by decide) rfl
                refine W.widen (k := 4) (n := 32) (by omega) (by omega) ?_
                exact W.iret (v := (nI z81)) hx hb hr (fun t ht9 hW => ⟨⟨(nI z81), (z81, f82), rfl, ⟨(by first | omega | (dsimp only; omega)), (congrArg nI (by unfold lenM opM; rw [hnm]; dsimp only; rw [if_neg h24, if_neg h25, if_neg h31, if_pos h52, if_neg h62, if_pos h70]; omega))⟩, by rw [ht9]; exact hP9, hD9⟩, hS.F ht9⟩) hS.2.2 xdX13_show_368
          ·
            by_cases h84 : (w &&& 127) = 23
            · refine lv_lookup (off := 75) (tgt := 208) hx hb xdX13_show_133 (by decide) (by rw [h84]; decide) (by decide) ?_
              refine lv_aload_n hx hb xdX13_show_208 rfl (lv_at hl 6 rfl) ?_
              refine lv_iload_n hx hb xdX13_show_209 rfl (lv_at hl 4 rfl) ?_
              have hd85 := dl_31 (w >>> (7 &&& 31))
              have hd86 := dl_le ((w >>> (7 &&& 31)) &&& 31)
              refine ca_v (wr := []) (rn_V (n := 1) (As := [.int ((w >>> (7 &&& 31)) &&& 31)]) (rest := []) hx hb hml hown ht hKK hFx hP hD hS hA (c_sx_nam l dC dI cI cB cZ cJ cR tb H.size h0 sa z28 (fs.set 0 (.int 0)) f29 ((w >>> (7 &&& 31)) &&& 31) (by first | assumption | omega | rfl | exact sb_fit0) (by first | assumption | omega | rfl | exact sb_fit0) (by first | assumption | omega | rfl | exact sb_fit0)) xw_154 xw_155 (by decide +kernel) rfl rfl ⟨Nat.le_of_ble_eq_true rfl, Nat.le_of_ble_eq_true rfl⟩ [0, 1] rfl (by decide) rfl rfl rfl rfl hl.1 rfl (Nat.le_of_ble_eq_true rfl) xdX13_show_210 ⟨Nat.le_of_ble_eq_true rfl, Nat.le_of_ble_eq_true rfl⟩) hP hD hS hA (isC := [0, 1]) (isR := []) rfl rfl (by decide) (by decide) (fun u H locs hw87 hP hD hS => ?_)
              obtain ⟨z89, f90⟩ := u
              have g91 := hw87
              have g91 : z89 = z28 + 1 + dl ((w >>> (7 &&& 31)) &&& 31) := g91
              have hP : va_P (dC, dI) vwCl [(h0, .inr (16, fsN (fs.set 0 (.int 0)) z89)), (sa, .inl (cI, 60, .inl f90))] H := hP
              have hD : va_D A [(h0, .inr (16, fsN (fs.set 0 (.int 0)) z89)), (sa, .inl (cI, 60, .inl f90))] := hD
              refine W.widen (k := 4) (n := 32) (by omega) (by omega) ?_
              refine lv_aload_n hx hb xdX13_show_213 rfl (lv_at hl 6 rfl) ?_
              refine ca_v (wr := []) (rn_V (n := 0) (As := []) (rest := []) hx hb hml hown ht hKK hFx hP hD hS hA (c_sx_com l dC dI cI cB cZ cJ cR tb H.size h0 sa z89 (fs.set 0 (.int 0)) f90 (by first | assumption | omega | rfl | exact sb_fit0) (by first | assumption | omega | rfl | exact sb_fit0) (by first | assumption | omega | rfl | exact sb_fit0)) xw_156 xw_157 (by decide +kernel) rfl rfl ⟨Nat.le_of_ble_eq_true rfl, Nat.le_of_ble_eq_true rfl⟩ [0, 1] rfl (by decide) rfl rfl rfl rfl hl.1 rfl (Nat.le_of_ble_eq_true rfl) xdX13_show_214 ⟨Nat.le_of_ble_eq_true rfl, Nat.le_of_ble_eq_true rfl⟩) hP hD hS hA (isC := [0, 1]) (isR := []) rfl rfl (by decide) (by decide) (fun u H locs hw92 hP hD hS => ?_)
              obtain ⟨z94, f95⟩ := u
              have g96 := hw92
              have g96 : z94 = z89 + 2 := g96
              have hP : va_P (dC, dI) vwCl [(h0, .inr (16, fsN (fs.set 0 (.int 0)) z94)), (sa, .inl (cI, 60, .inl f95))] H := hP
              have hD : va_D A [(h0, .inr (16, fsN (fs.set 0 (.int 0)) z94)), (sa, .inl (cI, 60, .inl f95))] := hD
              refine W.widen (k := 4) (n := 32) (by omega) (by omega) ?_
              refine lv_aload_n hx hb xdX13_show_217 rfl (lv_at hl 6 rfl) ?_
              refine lv_iload_n hx hb xdX13_show_218 rfl (lv_at hl 7 rfl) ?_
              refine lv_bipush (v := 12) hx hb xdX13_show_219 (by decide) ?_
              refine lv_iushr hx hb xdX13_show_221 rfl ?_
              have hd97 := dl_le ((w.toUInt32 >>> ((12 : Int32).toUInt32 &&& Int32.toUInt32 31)).toInt32)
              refine ca_v (wr := []) (rn_V (n := 1) (As := [.int ((w.toUInt32 >>> ((12 : Int32).toUInt32 &&& Int32.toUInt32 31)).toInt32)]) (rest := []) hx hb hml hown ht hKK hFx hP hD hS hA (c_sx_dec l dC dI cI cB cZ cJ cR tb H.size h0 sa z94 (fs.set 0 (.int 0)) f95 ((w.toUInt32 >>> ((12 : Int32).toUInt32 &&& Int32.toUInt32 31)).toInt32) (by first | assumption | omega | rfl | exact sb_fit0) (by first | assumption | omega | rfl | exact sb_fit0) (by first | assumption | omega | rfl | exact sb_fit0)) xw_152 xw_153 (by decide +kernel) rfl rfl ⟨Nat.le_of_ble_eq_true rfl, Nat.le_of_ble_eq_true rfl⟩ [0, 1] rfl (by decide) rfl rfl rfl rfl hl.1 rfl (Nat.le_of_ble_eq_true rfl) xdX13_show_222 ⟨Nat.le_of_ble_eq_true rfl, Nat.le_of_ble_eq_true rfl⟩) hP hD hS hA (isC := [0, 1]) (isR := []) rfl rfl (by decide) (by decide) (fun u H locs hw98 hP hD hS => ?_)
              obtain ⟨z100, f101⟩ := u
              have g102 := hw98
              have g102 : z100 = z94 + dl ((w.toUInt32 >>> ((12 : Int32).toUInt32 &&& Int32.toUInt32 31)).toInt32) := g102
              have hP : va_P (dC, dI) vwCl [(h0, .inr (16, fsN (fs.set 0 (.int 0)) z100)), (sa, .inl (cI, 60, .inl f101))] H := hP
              have hD : va_D A [(h0, .inr (16, fsN (fs.set 0 (.int 0)) z100)), (sa, .inl (cI, 60, .inl f101))] := hD
              refine W.widen (k := 4) (n := 32) (by omega) (by omega) ?_
              refine lv_goto (tgt := 364) hx hb xdX13_show_225 (by decide) ?_
              refine lv_aload_n hx hb xdX13_show_364 rfl (lv_at hl 6 rfl) ?_
              refine va_get (D := (dC, dI)) (ci := 16) (v := .int (nI z100)) (C := RX13) (T := TX13) (N := 124) hx hb ht xiX13 hown hK hP 0 rfl rfl 104 (by decide) (ht _ xw_146) (fun _ h9 => h9) (fsN_n hln) xdX13_show_365 ?_
              have hP9 := hP.sub (ws' := [(h0, .inr (16, fsN (fs.set 0 (.int 0)) z100)), (sa, .inl (cI, 60, .inl f101))]) [0, 1] rfl
              have hD9 := hD.sub (ws' := [(h0, .inr (16, fsN (fs.set 0 (.int 0)) z100)), (sa, .inl (cI, 60, .inl f101))]) [0, 1] (by decide) rfl
              refine W.widen (k := 4) (n := 32) (by omega) (by omega) ?_
              exact W.iret (v := (nI z100)) hx hb hr (fun t ht9 hW => ⟨⟨(nI z100), (z100, f101), rfl, ⟨(by first | omega | (dsimp only; omega)), (congrArg nI (by unfold lenM opM; rw [hnm]; dsimp only; rw [if_neg h24, if_neg h25, if_neg h31, if_neg h52, if_pos h84]; omega))⟩, by rw [ht9]; exact hP9, hD9⟩, hS.F ht9⟩) hS.2.2 xdX13_show_368
            ·
              by_cases h103 : (w &&& 127) = 35
              · refine lv_lookup (off := 156) (tgt := 289) hx hb xdX13_show_133 (by decide) (by rw [h103]; decide) (by decide) ?_
                refine lv_aload_n hx hb xdX13_show_289 rfl (lv_at hl 6 rfl) ?_
                refine lv_iload hx hb xdX13_show_290 (lv_at hl 2 rfl) ?_
                have hd104 := dl_31 (w >>> (20 &&& 31))
                have hd105 := dl_le ((w >>> (20 &&& 31)) &&& 31)
                refine ca_v (wr := []) (rn_V (n := 1) (As := [.int ((w >>> (20 &&& 31)) &&& 31)]) (rest := []) hx hb hml hown ht hKK hFx hP hD hS hA (c_sx_nam l dC dI cI cB cZ cJ cR tb H.size h0 sa z28 (fs.set 0 (.int 0)) f29 ((w >>> (20 &&& 31)) &&& 31) (by first | assumption | omega | rfl | exact sb_fit0) (by first | assumption | omega | rfl | exact sb_fit0) (by first | assumption | omega | rfl | exact sb_fit0)) xw_154 xw_155 (by decide +kernel) rfl rfl ⟨Nat.le_of_ble_eq_true rfl, Nat.le_of_ble_eq_true rfl⟩ [0, 1] rfl (by decide) rfl rfl rfl rfl hl.1 rfl (Nat.le_of_ble_eq_true rfl) xdX13_show_292 ⟨Nat.le_of_ble_eq_true rfl, Nat.le_of_ble_eq_true rfl⟩) hP hD hS hA (isC := [0, 1]) (isR := []) rfl rfl (by decide) (by decide) (fun u H locs hw106 hP hD hS => ?_)
                obtain ⟨z108, f109⟩ := u
                have g110 := hw106
                have g110 : z108 = z28 + 1 + dl ((w >>> (20 &&& 31)) &&& 31) := g110
                have hP : va_P (dC, dI) vwCl [(h0, .inr (16, fsN (fs.set 0 (.int 0)) z108)), (sa, .inl (cI, 60, .inl f109))] H := hP
                have hD : va_D A [(h0, .inr (16, fsN (fs.set 0 (.int 0)) z108)), (sa, .inl (cI, 60, .inl f109))] := hD
                refine W.widen (k := 4) (n := 32) (by omega) (by omega) ?_
                refine lv_aload_n hx hb xdX13_show_295 rfl (lv_at hl 6 rfl) ?_
                refine ca_v (wr := []) (rn_V (n := 0) (As := []) (rest := []) hx hb hml hown ht hKK hFx hP hD hS hA (c_sx_com l dC dI cI cB cZ cJ cR tb H.size h0 sa z108 (fs.set 0 (.int 0)) f109 (by first | assumption | omega | rfl | exact sb_fit0) (by first | assumption | omega | rfl | exact sb_fit0) (by first | assumption | omega | rfl | exact sb_fit0)) xw_156 xw_157 (by decide +kernel) rfl rfl ⟨Nat.le_of_ble_eq_true rfl, Nat.le_of_ble_eq_true rfl⟩ [0, 1] rfl (by decide) rfl rfl rfl rfl hl.1 rfl (Nat.le_of_ble_eq_true rfl) xdX13_show_296 ⟨Nat.le_of_ble_eq_true rfl, Nat.le_of_ble_eq_true rfl⟩) hP hD hS hA (isC := [0, 1]) (isR := []) rfl rfl (by decide) (by decide) (fun u H locs hw111 hP hD hS => ?_)
                obtain ⟨z113, f114⟩ := u
                have g115 := hw111
                have g115 : z113 = z108 + 2 := g115
                have hP : va_P (dC, dI) vwCl [(h0, .inr (16, fsN (fs.set 0 (.int 0)) z113)), (sa, .inl (cI, 60, .inl f114))] H := hP
                have hD : va_D A [(h0, .inr (16, fsN (fs.set 0 (.int 0)) z113)), (sa, .inl (cI, 60, .inl f114))] := hD
                refine W.widen (k := 4) (n := 32) (by omega) (by omega) ?_
                refine lv_aload_n hx hb xdX13_show_299 rfl (lv_at hl 6 rfl) ?_
                refine lv_iload_n hx hb xdX13_show_300 rfl (lv_at hl 7 rfl) ?_
                refine lv_bipush (v := 25) hx hb xdX13_show_301 (by decide) ?_
                refine lv_ishr hx hb xdX13_show_303 ?_
                refine lv_iconst (v := 5) hx hb xdX13_show_304 (by decide) ?_
                refine lv_ishl hx hb xdX13_show_305 ?_
                refine lv_iload_n hx hb xdX13_show_306 rfl (lv_at hl 4 rfl) ?_
                refine lv_ior hx hb xdX13_show_307 ?_
                refine lv_iload hx hb xdX13_show_308 (lv_at hl 3 rfl) ?_
                have hd116 := dl_le (((w >>> (25 &&& 31)) <<< (5 &&& 31)) ||| ((w >>> (7 &&& 31)) &&& 31))
                have hd117 := dl_31 (w >>> (15 &&& 31))
                have hd118 := dl_le ((w >>> (15 &&& 31)) &&& 31)
                refine ca_v (wr := []) (rn_V (n := 2) (As := [.int (((w >>> (25 &&& 31)) <<< (5 &&& 31)) ||| ((w >>> (7 &&& 31)) &&& 31)), .int ((w >>> (15 &&& 31)) &&& 31)]) (rest := []) hx hb hml hown ht hKK hFx hP hD hS hA (c_sx_at l dC dI cI cB cZ cJ cR tb H.size h0 sa z113 (fs.set 0 (.int 0)) f114 (((w >>> (25 &&& 31)) <<< (5 &&& 31)) ||| ((w >>> (7 &&& 31)) &&& 31)) ((w >>> (15 &&& 31)) &&& 31) (by first | assumption | omega | rfl | exact sb_fit0) (by first | assumption | omega | rfl | exact sb_fit0) (by first | assumption | omega | rfl | exact sb_fit0)) xw_165 xw_166 (by decide +kernel) rfl rfl ⟨Nat.le_of_ble_eq_true rfl, Nat.le_of_ble_eq_true rfl⟩ [0, 1] rfl (by decide) rfl rfl rfl rfl hl.1 rfl (Nat.le_of_ble_eq_true rfl) xdX13_show_310 ⟨Nat.le_of_ble_eq_true rfl, Nat.le_of_ble_eq_true rfl⟩) hP hD hS hA (isC := [0, 1]) (isR := []) rfl rfl (by decide) (by decide) (fun u H locs hw119 hP hD hS => ?_)
                obtain ⟨z121, f122⟩ := u
                have g123 := hw119
                have g123 : z121 = z113 + (dl (((w >>> (25 &&& 31)) <<< (5 &&& 31)) ||| ((w >>> (7 &&& 31)) &&& 31)) + 1 + (1 + dl ((w >>> (15 &&& 31)) &&& 31)) + 1) := g123
                have hP : va_P (dC, dI) vwCl [(h0, .inr (16, fsN (fs.set 0 (.int 0)) z121)), (sa, .inl (cI, 60, .inl f122))] H := hP
                have hD : va_D A [(h0, .inr (16, fsN (fs.set 0 (.int 0)) z121)), (sa, .inl (cI, 60, .inl f122))] := hD
                refine W.widen (k := 4) (n := 32) (by omega) (by omega) ?_
                refine lv_goto (tgt := 364) hx hb xdX13_show_313 (by decide) ?_
                refine lv_aload_n hx hb xdX13_show_364 rfl (lv_at hl 6 rfl) ?_
                refine va_get (D := (dC, dI)) (ci := 16) (v := .int (nI z121)) (C := RX13) (T := TX13) (N := 124) hx hb ht xiX13 hown hK hP 0 rfl rfl 104 (by decide) (ht _ xw_146) (fun _ h9 => h9) (fsN_n hln) xdX13_show_365 ?_
                have hP9 := hP.sub (ws' := [(h0, .inr (16, fsN (fs.set 0 (.int 0)) z121)), (sa, .inl (cI, 60, .inl f122))]) [0, 1] rfl
                have hD9 := hD.sub (ws' := [(h0, .inr (16, fsN (fs.set 0 (.int 0)) z121)), (sa, .inl (cI, 60, .inl f122))]) [0, 1] (by decide) rfl
                refine W.widen (k := 4) (n := 32) (by omega) (by omega) ?_
                exact W.iret (v := (nI z121)) hx hb hr (fun t ht9 hW => ⟨⟨(nI z121), (z121, f122), rfl, ⟨(by first | omega | (dsimp only; omega)), (congrArg nI (by unfold lenM opM; rw [hnm]; dsimp only; rw [if_neg h24, if_neg h25, if_neg h31, if_neg h52, if_neg h84, if_pos h103]; omega))⟩, by rw [ht9]; exact hP9, hD9⟩, hS.F ht9⟩) hS.2.2 xdX13_show_368
              ·
                by_cases h124 : (w &&& 127) = 55
                · refine lv_lookup (off := 75) (tgt := 208) hx hb xdX13_show_133 (by decide) (by rw [h124]; decide) (by decide) ?_
                  refine lv_aload_n hx hb xdX13_show_208 rfl (lv_at hl 6 rfl) ?_
                  refine lv_iload_n hx hb xdX13_show_209 rfl (lv_at hl 4 rfl) ?_
                  have hd125 := dl_31 (w >>> (7 &&& 31))
                  have hd126 := dl_le ((w >>> (7 &&& 31)) &&& 31)
                  refine ca_v (wr := []) (rn_V (n := 1) (As := [.int ((w >>> (7 &&& 31)) &&& 31)]) (rest := []) hx hb hml hown ht hKK hFx hP hD hS hA (c_sx_nam l dC dI cI cB cZ cJ cR tb H.size h0 sa z28 (fs.set 0 (.int 0)) f29 ((w >>> (7 &&& 31)) &&& 31) (by first | assumption | omega | rfl | exact sb_fit0) (by first | assumption | omega | rfl | exact sb_fit0) (by first | assumption | omega | rfl | exact sb_fit0)) xw_154 xw_155 (by decide +kernel) rfl rfl ⟨Nat.le_of_ble_eq_true rfl, Nat.le_of_ble_eq_true rfl⟩ [0, 1] rfl (by decide) rfl rfl rfl rfl hl.1 rfl (Nat.le_of_ble_eq_true rfl) xdX13_show_210 ⟨Nat.le_of_ble_eq_true rfl, Nat.le_of_ble_eq_true rfl⟩) hP hD hS hA (isC := [0, 1]) (isR := []) rfl rfl (by decide) (by decide) (fun u H locs hw127 hP hD hS => ?_)
                  obtain ⟨z129, f130⟩ := u
                  have g131 := hw127
                  have g131 : z129 = z28 + 1 + dl ((w >>> (7 &&& 31)) &&& 31) := g131
                  have hP : va_P (dC, dI) vwCl [(h0, .inr (16, fsN (fs.set 0 (.int 0)) z129)), (sa, .inl (cI, 60, .inl f130))] H := hP
                  have hD : va_D A [(h0, .inr (16, fsN (fs.set 0 (.int 0)) z129)), (sa, .inl (cI, 60, .inl f130))] := hD
                  refine W.widen (k := 4) (n := 32) (by omega) (by omega) ?_
                  refine lv_aload_n hx hb xdX13_show_213 rfl (lv_at hl 6 rfl) ?_
                  refine ca_v (wr := []) (rn_V (n := 0) (As := []) (rest := []) hx hb hml hown ht hKK hFx hP hD hS hA (c_sx_com l dC dI cI cB cZ cJ cR tb H.size h0 sa z129 (fs.set 0 (.int 0)) f130 (by first | assumption | omega | rfl | exact sb_fit0) (by first | assumption | omega | rfl | exact sb_fit0) (by first | assumption | omega | rfl | exact sb_fit0)) xw_156 xw_157 (by decide +kernel) rfl rfl ⟨Nat.le_of_ble_eq_true rfl, Nat.le_of_ble_eq_true rfl⟩ [0, 1] rfl (by decide) rfl rfl rfl rfl hl.1 rfl (Nat.le_of_ble_eq_true rfl) xdX13_show_214 ⟨Nat.le_of_ble_eq_true rfl, Nat.le_of_ble_eq_true rfl⟩) hP hD hS hA (isC := [0, 1]) (isR := []) rfl rfl (by decide) (by decide) (fun u H locs hw132 hP hD hS => ?_)
                  obtain ⟨z134, f135⟩ := u
                  have g136 := hw132
                  have g136 : z134 = z129 + 2 := g136
                  have hP : va_P (dC, dI) vwCl [(h0, .inr (16, fsN (fs.set 0 (.int 0)) z134)), (sa, .inl (cI, 60, .inl f135))] H := hP
                  have hD : va_D A [(h0, .inr (16, fsN (fs.set 0 (.int 0)) z134)), (sa, .inl (cI, 60, .inl f135))] := hD
                  refine W.widen (k := 4) (n := 32) (by omega) (by omega) ?_
                  refine lv_aload_n hx hb xdX13_show_217 rfl (lv_at hl 6 rfl) ?_
                  refine lv_iload_n hx hb xdX13_show_218 rfl (lv_at hl 7 rfl) ?_
                  refine lv_bipush (v := 12) hx hb xdX13_show_219 (by decide) ?_
                  refine lv_iushr hx hb xdX13_show_221 rfl ?_
                  have hd137 := dl_le ((w.toUInt32 >>> ((12 : Int32).toUInt32 &&& Int32.toUInt32 31)).toInt32)
                  refine ca_v (wr := []) (rn_V (n := 1) (As := [.int ((w.toUInt32 >>> ((12 : Int32).toUInt32 &&& Int32.toUInt32 31)).toInt32)]) (rest := []) hx hb hml hown ht hKK hFx hP hD hS hA (c_sx_dec l dC dI cI cB cZ cJ cR tb H.size h0 sa z134 (fs.set 0 (.int 0)) f135 ((w.toUInt32 >>> ((12 : Int32).toUInt32 &&& Int32.toUInt32 31)).toInt32) (by first | assumption | omega | rfl | exact sb_fit0) (by first | assumption | omega | rfl | exact sb_fit0) (by first | assumption | omega | rfl | exact sb_fit0)) xw_152 xw_153 (by decide +kernel) rfl rfl ⟨Nat.le_of_ble_eq_true rfl, Nat.le_of_ble_eq_true rfl⟩ [0, 1] rfl (by decide) rfl rfl rfl rfl hl.1 rfl (Nat.le_of_ble_eq_true rfl) xdX13_show_222 ⟨Nat.le_of_ble_eq_true rfl, Nat.le_of_ble_eq_true rfl⟩) hP hD hS hA (isC := [0, 1]) (isR := []) rfl rfl (by decide) (by decide) (fun u H locs hw138 hP hD hS => ?_)
                  obtain ⟨z140, f141⟩ := u
                  have g142 := hw138
                  have g142 : z140 = z134 + dl ((w.toUInt32 >>> ((12 : Int32).toUInt32 &&& Int32.toUInt32 31)).toInt32) := g142
                  have hP : va_P (dC, dI) vwCl [(h0, .inr (16, fsN (fs.set 0 (.int 0)) z140)), (sa, .inl (cI, 60, .inl f141))] H := hP
                  have hD : va_D A [(h0, .inr (16, fsN (fs.set 0 (.int 0)) z140)), (sa, .inl (cI, 60, .inl f141))] := hD
                  refine W.widen (k := 4) (n := 32) (by omega) (by omega) ?_
                  refine lv_goto (tgt := 364) hx hb xdX13_show_225 (by decide) ?_
                  refine lv_aload_n hx hb xdX13_show_364 rfl (lv_at hl 6 rfl) ?_
                  refine va_get (D := (dC, dI)) (ci := 16) (v := .int (nI z140)) (C := RX13) (T := TX13) (N := 124) hx hb ht xiX13 hown hK hP 0 rfl rfl 104 (by decide) (ht _ xw_146) (fun _ h9 => h9) (fsN_n hln) xdX13_show_365 ?_
                  have hP9 := hP.sub (ws' := [(h0, .inr (16, fsN (fs.set 0 (.int 0)) z140)), (sa, .inl (cI, 60, .inl f141))]) [0, 1] rfl
                  have hD9 := hD.sub (ws' := [(h0, .inr (16, fsN (fs.set 0 (.int 0)) z140)), (sa, .inl (cI, 60, .inl f141))]) [0, 1] (by decide) rfl
                  refine W.widen (k := 4) (n := 32) (by omega) (by omega) ?_
                  exact W.iret (v := (nI z140)) hx hb hr (fun t ht9 hW => ⟨⟨(nI z140), (z140, f141), rfl, ⟨(by first | omega | (dsimp only; omega)), (congrArg nI (by unfold lenM opM; rw [hnm]; dsimp only; rw [if_neg h24, if_neg h25, if_neg h31, if_neg h52, if_neg h84, if_neg h103, if_pos h124]; omega))⟩, by rw [ht9]; exact hP9, hD9⟩, hS.F ht9⟩) hS.2.2 xdX13_show_368
                ·
                  by_cases h143 : (w &&& 127) = 99
                  · refine lv_lookup (off := 137) (tgt := 270) hx hb xdX13_show_133 (by decide) (by rw [h143]; decide) (by decide) ?_
                    refine lv_aload_n hx hb xdX13_show_270 rfl (lv_at hl 6 rfl) ?_
                    refine lv_iload hx hb xdX13_show_271 (lv_at hl 3 rfl) ?_
                    refine lv_iload hx hb xdX13_show_273 (lv_at hl 2 rfl) ?_
                    have hd144 := dl_31 (w >>> (15 &&& 31))
                    have hd145 := dl_le ((w >>> (15 &&& 31)) &&& 31)
                    have hd146 := dl_31 (w >>> (20 &&& 31))
                    have hd147 := dl_le ((w >>> (20 &&& 31)) &&& 31)
                    refine ca_v (wr := []) (rn_V (n := 2) (As := [.int ((w >>> (15 &&& 31)) &&& 31), .int ((w >>> (20 &&& 31)) &&& 31)]) (rest := []) hx hb hml hown ht hKK hFx hP hD hS hA (c_sx_thr l dC dI cI cB cZ cJ cR tb H.size h0 sa z28 (fs.set 0 (.int 0)) f29 ((w >>> (15 &&& 31)) &&& 31) ((w >>> (20 &&& 31)) &&& 31) (by first | assumption | omega | rfl | exact sb_fit0) (by first | assumption | omega | rfl | exact sb_fit0) (by first | assumption | omega | rfl | exact sb_fit0)) xw_167 xw_168 (by decide +kernel) rfl rfl ⟨Nat.le_of_ble_eq_true rfl, Nat.le_of_ble_eq_true rfl⟩ [0, 1] rfl (by decide) rfl rfl rfl rfl hl.1 rfl (Nat.le_of_ble_eq_true rfl) xdX13_show_275 ⟨Nat.le_of_ble_eq_true rfl, Nat.le_of_ble_eq_true rfl⟩) hP hD hS hA (isC := [0, 1]) (isR := []) rfl rfl (by decide) (by decide) (fun u H locs hw148 hP hD hS => ?_)
                    obtain ⟨z150, f151⟩ := u
                    have g152 := hw148
                    have g152 : z150 = z28 + (1 + dl ((w >>> (15 &&& 31)) &&& 31) + 2 + (1 + dl ((w >>> (20 &&& 31)) &&& 31)) + 2) := g152
                    have hP : va_P (dC, dI) vwCl [(h0, .inr (16, fsN (fs.set 0 (.int 0)) z150)), (sa, .inl (cI, 60, .inl f151))] H := hP
                    have hD : va_D A [(h0, .inr (16, fsN (fs.set 0 (.int 0)) z150)), (sa, .inl (cI, 60, .inl f151))] := hD
                    refine W.widen (k := 4) (n := 32) (by omega) (by omega) ?_
                    refine lv_aload_n hx hb xdX13_show_278 rfl (lv_at hl 6 rfl) ?_
                    refine lv_iload_n hx hb xdX13_show_279 rfl (lv_at hl 7 rfl) ?_
                    refine ca_i (wr := [(h0, .inr (16, fsN (fs.set 0 (.int 0)) z150)), (sa, .inl (cI, 60, .inl f151))]) (rn_S (n := 1) (As := [.int w]) (rest := [.ref h0]) hx hb hml hown ht hKK hFx hP hD hS hA (c_sx_imB l dC dI cI cB cZ cJ cR tb H.size w) xw_169 xw_170 (by decide +kernel) rfl rfl ⟨Nat.le_of_ble_eq_true rfl, Nat.le_of_ble_eq_true rfl⟩ [] rfl (by decide) rfl hl.1 rfl (Nat.le_of_ble_eq_true rfl) xdX13_show_280 ⟨Nat.le_of_ble_eq_true rfl, Nat.le_of_ble_eq_true rfl⟩) hP hD hS hA (isC := []) (isR := [0, 1]) rfl rfl (by decide) (by decide) (fun r154 u H locs hw153 hP hD hS => ?_)
                    subst hw153
                    have hP : va_P (dC, dI) vwCl [(h0, .inr (16, fsN (fs.set 0 (.int 0)) z150)), (sa, .inl (cI, 60, .inl f151))] H := hP
                    have hD : va_D A [(h0, .inr (16, fsN (fs.set 0 (.int 0)) z150)), (sa, .inl (cI, 60, .inl f151))] := hD
                    refine W.widen (k := 4) (n := 32) (by omega) (by omega) ?_
                    have hd155 := dl_le (((((w >>> (31 &&& 31)) <<< (12 &&& 31)) ||| (((w >>> (7 &&& 31)) &&& 1) <<< (11 &&& 31))) ||| (((w >>> (25 &&& 31)) &&& 63) <<< (5 &&& 31))) ||| (((w >>> (8 &&& 31)) &&& 15) <<< (1 &&& 31)))
                    refine ca_v (wr := []) (rn_V (n := 1) (As := [.int (((((w >>> (31 &&& 31)) <<< (12 &&& 31)) ||| (((w >>> (7 &&& 31)) &&& 1) <<< (11 &&& 31))) ||| (((w >>> (25 &&& 31)) &&& 63) <<< (5 &&& 31))) ||| (((w >>> (8 &&& 31)) &&& 15) <<< (1 &&& 31)))]) (rest := []) hx hb hml hown ht hKK hFx hP hD hS hA (c_sx_dec l dC dI cI cB cZ cJ cR tb H.size h0 sa z150 (fs.set 0 (.int 0)) f151 (((((w >>> (31 &&& 31)) <<< (12 &&& 31)) ||| (((w >>> (7 &&& 31)) &&& 1) <<< (11 &&& 31))) ||| (((w >>> (25 &&& 31)) &&& 63) <<< (5 &&& 31))) ||| (((w >>> (8 &&& 31)) &&& 15) <<< (1 &&& 31))) (by first | assumption | omega | rfl | exact sb_fit0) (by first | assumption | omega | rfl | exact sb_fit0) (by first | assumption | omega | rfl | exact sb_fit0)) xw_152 xw_153 (by decide +kernel) rfl rfl ⟨Nat.le_of_ble_eq_true rfl, Nat.le_of_ble_eq_true rfl⟩ [0, 1] rfl (by decide) rfl rfl rfl rfl hl.1 rfl (Nat.le_of_ble_eq_true rfl) xdX13_show_283 ⟨Nat.le_of_ble_eq_true rfl, Nat.le_of_ble_eq_true rfl⟩) hP hD hS hA (isC := [0, 1]) (isR := []) rfl rfl (by decide) (by decide) (fun u H locs hw156 hP hD hS => ?_)
                    obtain ⟨z158, f159⟩ := u
                    have g160 := hw156
                    have g160 : z158 = z150 + dl (((((w >>> (31 &&& 31)) <<< (12 &&& 31)) ||| (((w >>> (7 &&& 31)) &&& 1) <<< (11 &&& 31))) ||| (((w >>> (25 &&& 31)) &&& 63) <<< (5 &&& 31))) ||| (((w >>> (8 &&& 31)) &&& 15) <<< (1 &&& 31))) := g160
                    have hP : va_P (dC, dI) vwCl [(h0, .inr (16, fsN (fs.set 0 (.int 0)) z158)), (sa, .inl (cI, 60, .inl f159))] H := hP
                    have hD : va_D A [(h0, .inr (16, fsN (fs.set 0 (.int 0)) z158)), (sa, .inl (cI, 60, .inl f159))] := hD
                    refine W.widen (k := 4) (n := 32) (by omega) (by omega) ?_
                    refine lv_goto (tgt := 364) hx hb xdX13_show_286 (by decide) ?_
                    refine lv_aload_n hx hb xdX13_show_364 rfl (lv_at hl 6 rfl) ?_
                    refine va_get (D := (dC, dI)) (ci := 16) (v := .int (nI z158)) (C := RX13) (T := TX13) (N := 124) hx hb ht xiX13 hown hK hP 0 rfl rfl 104 (by decide) (ht _ xw_146) (fun _ h9 => h9) (fsN_n hln) xdX13_show_365 ?_
                    have hP9 := hP.sub (ws' := [(h0, .inr (16, fsN (fs.set 0 (.int 0)) z158)), (sa, .inl (cI, 60, .inl f159))]) [0, 1] rfl
                    have hD9 := hD.sub (ws' := [(h0, .inr (16, fsN (fs.set 0 (.int 0)) z158)), (sa, .inl (cI, 60, .inl f159))]) [0, 1] (by decide) rfl
                    refine W.widen (k := 4) (n := 32) (by omega) (by omega) ?_
                    exact W.iret (v := (nI z158)) hx hb hr (fun t ht9 hW => ⟨⟨(nI z158), (z158, f159), rfl, ⟨(by first | omega | (dsimp only; omega)), (congrArg nI (by unfold lenM opM; rw [hnm]; dsimp only; rw [if_neg h24, if_neg h25, if_neg h31, if_neg h52, if_neg h84, if_neg h103, if_neg h124, if_pos h143]; omega))⟩, by rw [ht9]; exact hP9, hD9⟩, hS.F ht9⟩) hS.2.2 xdX13_show_368
                  ·
                    by_cases h161 : (w &&& 127) = 103
                    · refine lv_lookup (off := 115) (tgt := 248) hx hb xdX13_show_133 (by decide) (by rw [h161]; decide) (by decide) ?_
                      refine lv_aload_n hx hb xdX13_show_248 rfl (lv_at hl 6 rfl) ?_
                      refine lv_iload_n hx hb xdX13_show_249 rfl (lv_at hl 4 rfl) ?_
                      have hd162 := dl_31 (w >>> (7 &&& 31))
                      have hd163 := dl_le ((w >>> (7 &&& 31)) &&& 31)
                      refine ca_v (wr := []) (rn_V (n := 1) (As := [.int ((w >>> (7 &&& 31)) &&& 31)]) (rest := []) hx hb hml hown ht hKK hFx hP hD hS hA (c_sx_nam l dC dI cI cB cZ cJ cR tb H.size h0 sa z28 (fs.set 0 (.int 0)) f29 ((w >>> (7 &&& 31)) &&& 31) (by first | assumption | omega | rfl | exact sb_fit0) (by first | assumption | omega | rfl | exact sb_fit0) (by first | assumption | omega | rfl | exact sb_fit0)) xw_154 xw_155 (by decide +kernel) rfl rfl ⟨Nat.le_of_ble_eq_true rfl, Nat.le_of_ble_eq_true rfl⟩ [0, 1] rfl (by decide) rfl rfl rfl rfl hl.1 rfl (Nat.le_of_ble_eq_true rfl) xdX13_show_250 ⟨Nat.le_of_ble_eq_true rfl, Nat.le_of_ble_eq_true rfl⟩) hP hD hS hA (isC := [0, 1]) (isR := []) rfl rfl (by decide) (by decide) (fun u H locs hw164 hP hD hS => ?_)
                      obtain ⟨z166, f167⟩ := u
                      have g168 := hw164
                      have g168 : z166 = z28 + 1 + dl ((w >>> (7 &&& 31)) &&& 31) := g168
                      have hP : va_P (dC, dI) vwCl [(h0, .inr (16, fsN (fs.set 0 (.int 0)) z166)), (sa, .inl (cI, 60, .inl f167))] H := hP
                      have hD : va_D A [(h0, .inr (16, fsN (fs.set 0 (.int 0)) z166)), (sa, .inl (cI, 60, .inl f167))] := hD
                      refine W.widen (k := 4) (n := 32) (by omega) (by omega) ?_
                      refine lv_aload_n hx hb xdX13_show_253 rfl (lv_at hl 6 rfl) ?_
                      refine ca_v (wr := []) (rn_V (n := 0) (As := []) (rest := []) hx hb hml hown ht hKK hFx hP hD hS hA (c_sx_com l dC dI cI cB cZ cJ cR tb H.size h0 sa z166 (fs.set 0 (.int 0)) f167 (by first | assumption | omega | rfl | exact sb_fit0) (by first | assumption | omega | rfl | exact sb_fit0) (by first | assumption | omega | rfl | exact sb_fit0)) xw_156 xw_157 (by decide +kernel) rfl rfl ⟨Nat.le_of_ble_eq_true rfl, Nat.le_of_ble_eq_true rfl⟩ [0, 1] rfl (by decide) rfl rfl rfl rfl hl.1 rfl (Nat.le_of_ble_eq_true rfl) xdX13_show_254 ⟨Nat.le_of_ble_eq_true rfl, Nat.le_of_ble_eq_true rfl⟩) hP hD hS hA (isC := [0, 1]) (isR := []) rfl rfl (by decide) (by decide) (fun u H locs hw169 hP hD hS => ?_)
                      obtain ⟨z171, f172⟩ := u
                      have g173 := hw169
                      have g173 : z171 = z166 + 2 := g173
                      have hP : va_P (dC, dI) vwCl [(h0, .inr (16, fsN (fs.set 0 (.int 0)) z171)), (sa, .inl (cI, 60, .inl f172))] H := hP
                      have hD : va_D A [(h0, .inr (16, fsN (fs.set 0 (.int 0)) z171)), (sa, .inl (cI, 60, .inl f172))] := hD
                      refine W.widen (k := 4) (n := 32) (by omega) (by omega) ?_
                      refine lv_aload_n hx hb xdX13_show_257 rfl (lv_at hl 6 rfl) ?_
                      refine lv_iload_n hx hb xdX13_show_258 rfl (lv_at hl 7 rfl) ?_
                      refine lv_bipush (v := 20) hx hb xdX13_show_259 (by decide) ?_
                      refine lv_ishr hx hb xdX13_show_261 ?_
                      refine lv_iload hx hb xdX13_show_262 (lv_at hl 3 rfl) ?_
                      have hd174 := dl_le (w >>> (20 &&& 31))
                      have hd175 := dl_31 (w >>> (15 &&& 31))
                      have hd176 := dl_le ((w >>> (15 &&& 31)) &&& 31)
                      refine ca_v (wr := []) (rn_V (n := 2) (As := [.int (w >>> (20 &&& 31)), .int ((w >>> (15 &&& 31)) &&& 31)]) (rest := []) hx hb hml hown ht hKK hFx hP hD hS hA (c_sx_at l dC dI cI cB cZ cJ cR tb H.size h0 sa z171 (fs.set 0 (.int 0)) f172 (w >>> (20 &&& 31)) ((w >>> (15 &&& 31)) &&& 31) (by first | assumption | omega | rfl | exact sb_fit0) (by first | assumption | omega | rfl | exact sb_fit0) (by first | assumption | omega | rfl | exact sb_fit0)) xw_165 xw_166 (by decide +kernel) rfl rfl ⟨Nat.le_of_ble_eq_true rfl, Nat.le_of_ble_eq_true rfl⟩ [0, 1] rfl (by decide) rfl rfl rfl rfl hl.1 rfl (Nat.le_of_ble_eq_true rfl) xdX13_show_264 ⟨Nat.le_of_ble_eq_true rfl, Nat.le_of_ble_eq_true rfl⟩) hP hD hS hA (isC := [0, 1]) (isR := []) rfl rfl (by decide) (by decide) (fun u H locs hw177 hP hD hS => ?_)
                      obtain ⟨z179, f180⟩ := u
                      have g181 := hw177
                      have g181 : z179 = z171 + (dl (w >>> (20 &&& 31)) + 1 + (1 + dl ((w >>> (15 &&& 31)) &&& 31)) + 1) := g181
                      have hP : va_P (dC, dI) vwCl [(h0, .inr (16, fsN (fs.set 0 (.int 0)) z179)), (sa, .inl (cI, 60, .inl f180))] H := hP
                      have hD : va_D A [(h0, .inr (16, fsN (fs.set 0 (.int 0)) z179)), (sa, .inl (cI, 60, .inl f180))] := hD
                      refine W.widen (k := 4) (n := 32) (by omega) (by omega) ?_
                      refine lv_goto (tgt := 364) hx hb xdX13_show_267 (by decide) ?_
                      refine lv_aload_n hx hb xdX13_show_364 rfl (lv_at hl 6 rfl) ?_
                      refine va_get (D := (dC, dI)) (ci := 16) (v := .int (nI z179)) (C := RX13) (T := TX13) (N := 124) hx hb ht xiX13 hown hK hP 0 rfl rfl 104 (by decide) (ht _ xw_146) (fun _ h9 => h9) (fsN_n hln) xdX13_show_365 ?_
                      have hP9 := hP.sub (ws' := [(h0, .inr (16, fsN (fs.set 0 (.int 0)) z179)), (sa, .inl (cI, 60, .inl f180))]) [0, 1] rfl
                      have hD9 := hD.sub (ws' := [(h0, .inr (16, fsN (fs.set 0 (.int 0)) z179)), (sa, .inl (cI, 60, .inl f180))]) [0, 1] (by decide) rfl
                      refine W.widen (k := 4) (n := 32) (by omega) (by omega) ?_
                      exact W.iret (v := (nI z179)) hx hb hr (fun t ht9 hW => ⟨⟨(nI z179), (z179, f180), rfl, ⟨(by first | omega | (dsimp only; omega)), (congrArg nI (by unfold lenM opM; rw [hnm]; dsimp only; rw [if_neg h24, if_neg h25, if_neg h31, if_neg h52, if_neg h84, if_neg h103, if_neg h124, if_neg h143, if_pos h161]; omega))⟩, by rw [ht9]; exact hP9, hD9⟩, hS.F ht9⟩) hS.2.2 xdX13_show_368
                    ·
                      by_cases h182 : (w &&& 127) = 111
                      · refine lv_lookup (off := 95) (tgt := 228) hx hb xdX13_show_133 (by decide) (by rw [h182]; decide) (by decide) ?_
                        refine lv_aload_n hx hb xdX13_show_228 rfl (lv_at hl 6 rfl) ?_
                        refine lv_iload_n hx hb xdX13_show_229 rfl (lv_at hl 4 rfl) ?_
                        have hd183 := dl_31 (w >>> (7 &&& 31))
                        have hd184 := dl_le ((w >>> (7 &&& 31)) &&& 31)
                        refine ca_v (wr := []) (rn_V (n := 1) (As := [.int ((w >>> (7 &&& 31)) &&& 31)]) (rest := []) hx hb hml hown ht hKK hFx hP hD hS hA (c_sx_nam l dC dI cI cB cZ cJ cR tb H.size h0 sa z28 (fs.set 0 (.int 0)) f29 ((w >>> (7 &&& 31)) &&& 31) (by first | assumption | omega | rfl | exact sb_fit0) (by first | assumption | omega | rfl | exact sb_fit0) (by first | assumption | omega | rfl | exact sb_fit0)) xw_154 xw_155 (by decide +kernel) rfl rfl ⟨Nat.le_of_ble_eq_true rfl, Nat.le_of_ble_eq_true rfl⟩ [0, 1] rfl (by decide) rfl rfl rfl rfl hl.1 rfl (Nat.le_of_ble_eq_true rfl) xdX13_show_230 ⟨Nat.le_of_ble_eq_true rfl, Nat.le_of_ble_eq_true rfl⟩) hP hD hS hA (isC := [0, 1]) (isR := []) rfl rfl (by decide) (by decide) (fun u H locs hw185 hP hD hS => ?_)
                        obtain ⟨z187, f188⟩ := u
                        have g189 := hw185
                        have g189 : z187 = z28 + 1 + dl ((w >>> (7 &&& 31)) &&& 31) := g189
                        have hP : va_P (dC, dI) vwCl [(h0, .inr (16, fsN (fs.set 0 (.int 0)) z187)), (sa, .inl (cI, 60, .inl f188))] H := hP
                        have hD : va_D A [(h0, .inr (16, fsN (fs.set 0 (.int 0)) z187)), (sa, .inl (cI, 60, .inl f188))] := hD
                        refine W.widen (k := 4) (n := 32) (by omega) (by omega) ?_
                        refine lv_aload_n hx hb xdX13_show_233 rfl (lv_at hl 6 rfl) ?_
                        refine ca_v (wr := []) (rn_V (n := 0) (As := []) (rest := []) hx hb hml hown ht hKK hFx hP hD hS hA (c_sx_com l dC dI cI cB cZ cJ cR tb H.size h0 sa z187 (fs.set 0 (.int 0)) f188 (by first | assumption | omega | rfl | exact sb_fit0) (by first | assumption | omega | rfl | exact sb_fit0) (by first | assumption | omega | rfl | exact sb_fit0)) xw_156 xw_157 (by decide +kernel) rfl rfl ⟨Nat.le_of_ble_eq_true rfl, Nat.le_of_ble_eq_true rfl⟩ [0, 1] rfl (by decide) rfl rfl rfl rfl hl.1 rfl (Nat.le_of_ble_eq_true rfl) xdX13_show_234 ⟨Nat.le_of_ble_eq_true rfl, Nat.le_of_ble_eq_true rfl⟩) hP hD hS hA (isC := [0, 1]) (isR := []) rfl rfl (by decide) (by decide) (fun u H locs hw190 hP hD hS => ?_)
                        obtain ⟨z192, f193⟩ := u
                        have g194 := hw190
                        have g194 : z192 = z187 + 2 := g194
                        have hP : va_P (dC, dI) vwCl [(h0, .inr (16, fsN (fs.set 0 (.int 0)) z192)), (sa, .inl (cI, 60, .inl f193))] H := hP
                        have hD : va_D A [(h0, .inr (16, fsN (fs.set 0 (.int 0)) z192)), (sa, .inl (cI, 60, .inl f193))] := hD
                        refine W.widen (k := 4) (n := 32) (by omega) (by omega) ?_
                        refine lv_aload_n hx hb xdX13_show_237 rfl (lv_at hl 6 rfl) ?_
                        refine lv_iload_n hx hb xdX13_show_238 rfl (lv_at hl 7 rfl) ?_
                        refine ca_i (wr := [(h0, .inr (16, fsN (fs.set 0 (.int 0)) z192)), (sa, .inl (cI, 60, .inl f193))]) (rn_S (n := 1) (As := [.int w]) (rest := [.ref h0]) hx hb hml hown ht hKK hFx hP hD hS hA (c_sx_imJ l dC dI cI cB cZ cJ cR tb H.size w) xw_171 xw_172 (by decide +kernel) rfl rfl ⟨Nat.le_of_ble_eq_true rfl, Nat.le_of_ble_eq_true rfl⟩ [] rfl (by decide) rfl hl.1 rfl (Nat.le_of_ble_eq_true rfl) xdX13_show_239 ⟨Nat.le_of_ble_eq_true rfl, Nat.le_of_ble_eq_true rfl⟩) hP hD hS hA (isC := []) (isR := [0, 1]) rfl rfl (by decide) (by decide) (fun r196 u H locs hw195 hP hD hS => ?_)
                        subst hw195
                        have hP : va_P (dC, dI) vwCl [(h0, .inr (16, fsN (fs.set 0 (.int 0)) z192)), (sa, .inl (cI, 60, .inl f193))] H := hP
                        have hD : va_D A [(h0, .inr (16, fsN (fs.set 0 (.int 0)) z192)), (sa, .inl (cI, 60, .inl f193))] := hD
                        refine W.widen (k := 4) (n := 32) (by omega) (by omega) ?_
                        have hd197 := dl_le (((((w >>> (31 &&& 31)) <<< (20 &&& 31)) ||| (((w >>> (12 &&& 31)) &&& 255) <<< (12 &&& 31))) ||| (((w >>> (20 &&& 31)) &&& 1) <<< (11 &&& 31))) ||| (((w >>> (21 &&& 31)) &&& 1023) <<< (1 &&& 31)))
                        refine ca_v (wr := []) (rn_V (n := 1) (As := [.int (((((w >>> (31 &&& 31)) <<< (20 &&& 31)) ||| (((w >>> (12 &&& 31)) &&& 255) <<< (12 &&& 31))) ||| (((w >>> (20 &&& 31)) &&& 1) <<< (11 &&& 31))) ||| (((w >>> (21 &&& 31)) &&& 1023) <<< (1 &&& 31)))]) (rest := []) hx hb hml hown ht hKK hFx hP hD hS hA (c_sx_dec l dC dI cI cB cZ cJ cR tb H.size h0 sa z192 (fs.set 0 (.int 0)) f193 (((((w >>> (31 &&& 31)) <<< (20 &&& 31)) ||| (((w >>> (12 &&& 31)) &&& 255) <<< (12 &&& 31))) ||| (((w >>> (20 &&& 31)) &&& 1) <<< (11 &&& 31))) ||| (((w >>> (21 &&& 31)) &&& 1023) <<< (1 &&& 31))) (by first | assumption | omega | rfl | exact sb_fit0) (by first | assumption | omega | rfl | exact sb_fit0) (by first | assumption | omega | rfl | exact sb_fit0)) xw_152 xw_153 (by decide +kernel) rfl rfl ⟨Nat.le_of_ble_eq_true rfl, Nat.le_of_ble_eq_true rfl⟩ [0, 1] rfl (by decide) rfl rfl rfl rfl hl.1 rfl (Nat.le_of_ble_eq_true rfl) xdX13_show_242 ⟨Nat.le_of_ble_eq_true rfl, Nat.le_of_ble_eq_true rfl⟩) hP hD hS hA (isC := [0, 1]) (isR := []) rfl rfl (by decide) (by decide) (fun u H locs hw198 hP hD hS => ?_)
                        obtain ⟨z200, f201⟩ := u
                        have g202 := hw198
                        have g202 : z200 = z192 + dl (((((w >>> (31 &&& 31)) <<< (20 &&& 31)) ||| (((w >>> (12 &&& 31)) &&& 255) <<< (12 &&& 31))) ||| (((w >>> (20 &&& 31)) &&& 1) <<< (11 &&& 31))) ||| (((w >>> (21 &&& 31)) &&& 1023) <<< (1 &&& 31))) := g202
                        have hP : va_P (dC, dI) vwCl [(h0, .inr (16, fsN (fs.set 0 (.int 0)) z200)), (sa, .inl (cI, 60, .inl f201))] H := hP
                        have hD : va_D A [(h0, .inr (16, fsN (fs.set 0 (.int 0)) z200)), (sa, .inl (cI, 60, .inl f201))] := hD
                        refine W.widen (k := 4) (n := 32) (by omega) (by omega) ?_
                        refine lv_goto (tgt := 364) hx hb xdX13_show_245 (by decide) ?_
                        refine lv_aload_n hx hb xdX13_show_364 rfl (lv_at hl 6 rfl) ?_
                        refine va_get (D := (dC, dI)) (ci := 16) (v := .int (nI z200)) (C := RX13) (T := TX13) (N := 124) hx hb ht xiX13 hown hK hP 0 rfl rfl 104 (by decide) (ht _ xw_146) (fun _ h9 => h9) (fsN_n hln) xdX13_show_365 ?_
                        have hP9 := hP.sub (ws' := [(h0, .inr (16, fsN (fs.set 0 (.int 0)) z200)), (sa, .inl (cI, 60, .inl f201))]) [0, 1] rfl
                        have hD9 := hD.sub (ws' := [(h0, .inr (16, fsN (fs.set 0 (.int 0)) z200)), (sa, .inl (cI, 60, .inl f201))]) [0, 1] (by decide) rfl
                        refine W.widen (k := 4) (n := 32) (by omega) (by omega) ?_
                        exact W.iret (v := (nI z200)) hx hb hr (fun t ht9 hW => ⟨⟨(nI z200), (z200, f201), rfl, ⟨(by first | omega | (dsimp only; omega)), (congrArg nI (by unfold lenM opM; rw [hnm]; dsimp only; rw [if_neg h24, if_neg h25, if_neg h31, if_neg h52, if_neg h84, if_neg h103, if_neg h124, if_neg h143, if_neg h161, if_pos h182]; omega))⟩, by rw [ht9]; exact hP9, hD9⟩, hS.F ht9⟩) hS.2.2 xdX13_show_368
                      ·
                        refine lv_lookup (off := 218) (tgt := 351) hx hb xdX13_show_133 (by decide) (by show Op.lookupswitch.offset [(3, 115), (19, 183), (23, 75), (35, 156), (55, 75), (99, 137), (103, 115), (111, 95)] 218 _ = 218; rw [lv_osw h31 (by decide), lv_osw h52 (by decide), lv_osw h84 (by decide), lv_osw h103 (by decide), lv_osw h124 (by decide), lv_osw h143 (by decide), lv_osw h161 (by decide), lv_osw h182 (by decide)]; rfl) (by decide) ?_
                        refine lv_aload_n hx hb xdX13_show_351 rfl (lv_at hl 6 rfl) ?_
                        refine lv_iload_n hx hb xdX13_show_352 rfl (lv_at hl 4 rfl) ?_
                        refine lv_iload hx hb xdX13_show_353 (lv_at hl 3 rfl) ?_
                        have hd203 := dl_31 (w >>> (7 &&& 31))
                        have hd204 := dl_le ((w >>> (7 &&& 31)) &&& 31)
                        have hd205 := dl_31 (w >>> (15 &&& 31))
                        have hd206 := dl_le ((w >>> (15 &&& 31)) &&& 31)
                        refine ca_v (wr := []) (rn_V (n := 2) (As := [.int ((w >>> (7 &&& 31)) &&& 31), .int ((w >>> (15 &&& 31)) &&& 31)]) (rest := []) hx hb hml hown ht hKK hFx hP hD hS hA (c_sx_thr l dC dI cI cB cZ cJ cR tb H.size h0 sa z28 (fs.set 0 (.int 0)) f29 ((w >>> (7 &&& 31)) &&& 31) ((w >>> (15 &&& 31)) &&& 31) (by first | assumption | omega | rfl | exact sb_fit0) (by first | assumption | omega | rfl | exact sb_fit0) (by first | assumption | omega | rfl | exact sb_fit0)) xw_167 xw_168 (by decide +kernel) rfl rfl ⟨Nat.le_of_ble_eq_true rfl, Nat.le_of_ble_eq_true rfl⟩ [0, 1] rfl (by decide) rfl rfl rfl rfl hl.1 rfl (Nat.le_of_ble_eq_true rfl) xdX13_show_355 ⟨Nat.le_of_ble_eq_true rfl, Nat.le_of_ble_eq_true rfl⟩) hP hD hS hA (isC := [0, 1]) (isR := []) rfl rfl (by decide) (by decide) (fun u H locs hw207 hP hD hS => ?_)
                        obtain ⟨z209, f210⟩ := u
                        have g211 := hw207
                        have g211 : z209 = z28 + (1 + dl ((w >>> (7 &&& 31)) &&& 31) + 2 + (1 + dl ((w >>> (15 &&& 31)) &&& 31)) + 2) := g211
                        have hP : va_P (dC, dI) vwCl [(h0, .inr (16, fsN (fs.set 0 (.int 0)) z209)), (sa, .inl (cI, 60, .inl f210))] H := hP
                        have hD : va_D A [(h0, .inr (16, fsN (fs.set 0 (.int 0)) z209)), (sa, .inl (cI, 60, .inl f210))] := hD
                        refine W.widen (k := 4) (n := 32) (by omega) (by omega) ?_
                        refine lv_aload_n hx hb xdX13_show_358 rfl (lv_at hl 6 rfl) ?_
                        refine lv_iload hx hb xdX13_show_359 (lv_at hl 2 rfl) ?_
                        have hd212 := dl_31 (w >>> (20 &&& 31))
                        have hd213 := dl_le ((w >>> (20 &&& 31)) &&& 31)
                        refine ca_v (wr := []) (rn_V (n := 1) (As := [.int ((w >>> (20 &&& 31)) &&& 31)]) (rest := []) hx hb hml hown ht hKK hFx hP hD hS hA (c_sx_nam l dC dI cI cB cZ cJ cR tb H.size h0 sa z209 (fs.set 0 (.int 0)) f210 ((w >>> (20 &&& 31)) &&& 31) (by first | assumption | omega | rfl | exact sb_fit0) (by first | assumption | omega | rfl | exact sb_fit0) (by first | assumption | omega | rfl | exact sb_fit0)) xw_154 xw_155 (by decide +kernel) rfl rfl ⟨Nat.le_of_ble_eq_true rfl, Nat.le_of_ble_eq_true rfl⟩ [0, 1] rfl (by decide) rfl rfl rfl rfl hl.1 rfl (Nat.le_of_ble_eq_true rfl) xdX13_show_361 ⟨Nat.le_of_ble_eq_true rfl, Nat.le_of_ble_eq_true rfl⟩) hP hD hS hA (isC := [0, 1]) (isR := []) rfl rfl (by decide) (by decide) (fun u H locs hw214 hP hD hS => ?_)
                        obtain ⟨z216, f217⟩ := u
                        have g218 := hw214
                        have g218 : z216 = z209 + 1 + dl ((w >>> (20 &&& 31)) &&& 31) := g218
                        have hP : va_P (dC, dI) vwCl [(h0, .inr (16, fsN (fs.set 0 (.int 0)) z216)), (sa, .inl (cI, 60, .inl f217))] H := hP
                        have hD : va_D A [(h0, .inr (16, fsN (fs.set 0 (.int 0)) z216)), (sa, .inl (cI, 60, .inl f217))] := hD
                        refine W.widen (k := 4) (n := 32) (by omega) (by omega) ?_
                        refine lv_aload_n hx hb xdX13_show_364 rfl (lv_at hl 6 rfl) ?_
                        refine va_get (D := (dC, dI)) (ci := 16) (v := .int (nI z216)) (C := RX13) (T := TX13) (N := 124) hx hb ht xiX13 hown hK hP 0 rfl rfl 104 (by decide) (ht _ xw_146) (fun _ h9 => h9) (fsN_n hln) xdX13_show_365 ?_
                        have hP9 := hP.sub (ws' := [(h0, .inr (16, fsN (fs.set 0 (.int 0)) z216)), (sa, .inl (cI, 60, .inl f217))]) [0, 1] rfl
                        have hD9 := hD.sub (ws' := [(h0, .inr (16, fsN (fs.set 0 (.int 0)) z216)), (sa, .inl (cI, 60, .inl f217))]) [0, 1] (by decide) rfl
                        refine W.widen (k := 4) (n := 32) (by omega) (by omega) ?_
                        exact W.iret (v := (nI z216)) hx hb hr (fun t ht9 hW => ⟨⟨(nI z216), (z216, f217), rfl, ⟨(by first | omega | (dsimp only; omega)), (congrArg nI (by unfold lenM opM; rw [hnm]; dsimp only; rw [if_neg h24, if_neg h25, if_neg h31, if_neg h52, if_neg h84, if_neg h103, if_neg h124, if_neg h143, if_neg h161, if_neg h182]; omega))⟩, by rw [ht9]; exact hP9, hD9⟩, hS.F ht9⟩) hS.2.2 xdX13_show_368
      · refine lv_aload_n hx hb xdX13_show_120 rfl (lv_at hl 6 rfl) ?_
        refine va_get (D := (dC, dI)) (ci := 16) (v := .int (nI z21)) (C := RX13) (T := TX13) (N := 124) hx hb ht xiX13 hown hK hP 0 rfl rfl 104 (by decide) (ht _ xw_146) (fun _ h9 => h9) (fsN_n hln) xdX13_show_121 ?_
        have hP9 := hP.sub (ws' := [(h0, .inr (16, fsN (fs.set 0 (.int 0)) z21)), (sa, .inl (cI, 60, .inl f22))]) [0, 1] rfl
        have hD9 := hD.sub (ws' := [(h0, .inr (16, fsN (fs.set 0 (.int 0)) z21)), (sa, .inl (cI, 60, .inl f22))]) [0, 1] (by decide) rfl
        refine W.widen (k := 4) (n := 32) (by omega) (by omega) ?_
        exact W.iret (v := (nI z21)) hx hb hr (fun t ht9 hW => ⟨⟨(nI z21), (z21, f22), rfl, ⟨(by first | omega | (dsimp only; omega)), (congrArg nI (by unfold lenM opM; rw [hnm]; dsimp only; rw [if_neg h24, if_pos h25]; omega))⟩, by rw [ht9]; exact hP9, hD9⟩, hS.F ht9⟩) hS.2.2 xdX13_show_124
