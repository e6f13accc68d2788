theorem xdX13_imJ_0 : decode cX13_imJ 0 = .ok (.iload_n 0, 1) := by decide +kernel
theorem xdX13_imJ_1 : decode cX13_imJ 1 = .ok (.bipush 31, 2) := by decide +kernel
theorem xdX13_imJ_3 : decode cX13_imJ 3 = .ok (.ishr, 1) := by decide +kernel
theorem xdX13_imJ_4 : decode cX13_imJ 4 = .ok (.bipush 20, 2) := by decide +kernel
theorem xdX13_imJ_6 : decode cX13_imJ 6 = .ok (.ishl, 1) := by decide +kernel
theorem xdX13_imJ_7 : decode cX13_imJ 7 = .ok (.iload_n 0, 1) := by decide +kernel
theorem xdX13_imJ_8 : decode cX13_imJ 8 = .ok (.bipush 12, 2) := by decide +kernel
theorem xdX13_imJ_10 : decode cX13_imJ 10 = .ok (.ishr, 1) := by decide +kernel
theorem xdX13_imJ_11 : decode cX13_imJ 11 = .ok (.sipush 255, 3) := by decide +kernel
theorem xdX13_imJ_14 : decode cX13_imJ 14 = .ok (.iand, 1) := by decide +kernel
theorem xdX13_imJ_15 : decode cX13_imJ 15 = .ok (.bipush 12, 2) := by decide +kernel
theorem xdX13_imJ_17 : decode cX13_imJ 17 = .ok (.ishl, 1) := by decide +kernel
theorem xdX13_imJ_18 : decode cX13_imJ 18 = .ok (.ior, 1) := by decide +kernel
theorem xdX13_imJ_19 : decode cX13_imJ 19 = .ok (.iload_n 0, 1) := by decide +kernel
theorem xdX13_imJ_20 : decode cX13_imJ 20 = .ok (.bipush 20, 2) := by decide +kernel
theorem xdX13_imJ_22 : decode cX13_imJ 22 = .ok (.ishr, 1) := by decide +kernel
theorem xdX13_imJ_23 : decode cX13_imJ 23 = .ok (.iconst 1, 1) := by decide +kernel
theorem xdX13_imJ_24 : decode cX13_imJ 24 = .ok (.iand, 1) := by decide +kernel
theorem xdX13_imJ_25 : decode cX13_imJ 25 = .ok (.bipush 11, 2) := by decide +kernel
theorem xdX13_imJ_27 : decode cX13_imJ 27 = .ok (.ishl, 1) := by decide +kernel
theorem xdX13_imJ_28 : decode cX13_imJ 28 = .ok (.ior, 1) := by decide +kernel
theorem xdX13_imJ_29 : decode cX13_imJ 29 = .ok (.iload_n 0, 1) := by decide +kernel
theorem xdX13_imJ_30 : decode cX13_imJ 30 = .ok (.bipush 21, 2) := by decide +kernel
theorem xdX13_imJ_32 : decode cX13_imJ 32 = .ok (.ishr, 1) := by decide +kernel
theorem xdX13_imJ_33 : decode cX13_imJ 33 = .ok (.sipush 1023, 3) := by decide +kernel
theorem xdX13_imJ_36 : decode cX13_imJ 36 = .ok (.iand, 1) := by decide +kernel
theorem xdX13_imJ_37 : decode cX13_imJ 37 = .ok (.iconst 1, 1) := by decide +kernel
theorem xdX13_imJ_38 : decode cX13_imJ 38 = .ok (.ishl, 1) := by decide +kernel
theorem xdX13_imJ_39 : decode cX13_imJ 39 = .ok (.ior, 1) := by decide +kernel
theorem xdX13_imJ_40 : decode cX13_imJ 40 = .ok (.ireturn, 1) := by decide +kernel
theorem xdX13_imB_0 : decode cX13_imB 0 = .ok (.iload_n 0, 1) := by decide +kernel
theorem xdX13_imB_1 : decode cX13_imB 1 = .ok (.bipush 31, 2) := by decide +kernel
theorem xdX13_imB_3 : decode cX13_imB 3 = .ok (.ishr, 1) := by decide +kernel
theorem xdX13_imB_4 : decode cX13_imB 4 = .ok (.bipush 12, 2) := by decide +kernel
theorem xdX13_imB_6 : decode cX13_imB 6 = .ok (.ishl, 1) := by decide +kernel
theorem xdX13_imB_7 : decode cX13_imB 7 = .ok (.iload_n 0, 1) := by decide +kernel
theorem xdX13_imB_8 : decode cX13_imB 8 = .ok (.bipush 7, 2) := by decide +kernel
theorem xdX13_imB_10 : decode cX13_imB 10 = .ok (.ishr, 1) := by decide +kernel
theorem xdX13_imB_11 : decode cX13_imB 11 = .ok (.iconst 1, 1) := by decide +kernel
theorem xdX13_imB_12 : decode cX13_imB 12 = .ok (.iand, 1) := by decide +kernel
theorem xdX13_imB_13 : decode cX13_imB 13 = .ok (.bipush 11, 2) := by decide +kernel
theorem xdX13_imB_15 : decode cX13_imB 15 = .ok (.ishl, 1) := by decide +kernel
theorem xdX13_imB_16 : decode cX13_imB 16 = .ok (.ior, 1) := by decide +kernel
theorem xdX13_imB_17 : decode cX13_imB 17 = .ok (.iload_n 0, 1) := by decide +kernel
theorem xdX13_imB_18 : decode cX13_imB 18 = .ok (.bipush 25, 2) := by decide +kernel
theorem xdX13_imB_20 : decode cX13_imB 20 = .ok (.ishr, 1) := by decide +kernel
theorem xdX13_imB_21 : decode cX13_imB 21 = .ok (.bipush 63, 2) := by decide +kernel
theorem xdX13_imB_23 : decode cX13_imB 23 = .ok (.iand, 1) := by decide +kernel
theorem xdX13_imB_24 : decode cX13_imB 24 = .ok (.iconst 5, 1) := by decide +kernel
theorem xdX13_imB_25 : decode cX13_imB 25 = .ok (.ishl, 1) := by decide +kernel
theorem xdX13_imB_26 : decode cX13_imB 26 = .ok (.ior, 1) := by decide +kernel
theorem xdX13_imB_27 : decode cX13_imB 27 = .ok (.iload_n 0, 1) := by decide +kernel
theorem xdX13_imB_28 : decode cX13_imB 28 = .ok (.bipush 8, 2) := by decide +kernel
theorem xdX13_imB_30 : decode cX13_imB 30 = .ok (.ishr, 1) := by decide +kernel
theorem xdX13_imB_31 : decode cX13_imB 31 = .ok (.bipush 15, 2) := by decide +kernel
theorem xdX13_imB_33 : decode cX13_imB 33 = .ok (.iand, 1) := by decide +kernel
theorem xdX13_imB_34 : decode cX13_imB 34 = .ok (.iconst 1, 1) := by decide +kernel
theorem xdX13_imB_35 : decode cX13_imB 35 = .ok (.ishl, 1) := by decide +kernel
theorem xdX13_imB_36 : decode cX13_imB 36 = .ok (.ior, 1) := by decide +kernel
theorem xdX13_imB_37 : decode cX13_imB 37 = .ok (.ireturn, 1) := by decide +kernel
theorem xdX13_show_0 : decode cX13_show 0 = .ok (.aload_n 0, 1) := by decide +kernel
theorem xdX13_show_1 : decode cX13_show 1 = .ok (.iconst 0, 1) := by decide +kernel
theorem xdX13_show_2 : decode cX13_show 2 = .ok (.putfield 3, 3) := by decide +kernel
theorem xw_160 : (.fieldLink RX13 3 "PocketCompilerModel" "thrown" "I" : Cond) ∈ tw_W := tw_in (t8_10 (List.mem_of_getElem? (i := 157) rfl)) rfl
theorem xdX13_show_5 : decode cX13_show 5 = .ok (.aload_n 0, 1) := by decide +kernel
theorem xdX13_show_6 : decode cX13_show 6 = .ok (.iconst 0, 1) := by decide +kernel
theorem xdX13_show_7 : decode cX13_show 7 = .ok (.putfield 703, 3) := by decide +kernel
theorem xdX13_show_10 : decode cX13_show 10 = .ok (.iload_n 1, 1) := by decide +kernel
theorem xdX13_show_11 : decode cX13_show 11 = .ok (.invokestatic 793, 3) := by decide +kernel
theorem xw_161 : (.code yX13_nameOf cX13_nameOf 7 (some (.object "java/lang/String")) : Cond) ∈ tw_W := tw_in (t8_12 (List.mem_of_getElem? (i := 189) rfl)) rfl
theorem xw_162 : ∀ w ∈ ([.methodLink RX13 793 yX13_nameOf, .static yX13_nameOf, .initialized yX13_nameOf.cls] : List Cond), w ∈ tw_W := al_c (tw_in (t8_12 (List.mem_of_getElem? (i := 187) rfl)) rfl) (al_c (tw_in (t8_12 (List.mem_of_getElem? (i := 188) rfl)) rfl) (al_c (tw_in (t8_1 (List.mem_of_getElem? (i := 23) rfl)) rfl) al_n))
theorem xdX13_show_14 : decode cX13_show 14 = .ok (.astore_n 2, 1) := by decide +kernel
theorem xdX13_show_15 : decode cX13_show 15 = .ok (.aload_n 2, 1) := by decide +kernel
theorem xdX13_show_16 : decode cX13_show 16 = .ok (.ifnonnull 44, 3) := by decide +kernel
theorem xdX13_show_19 : decode cX13_show 19 = .ok (.aload_n 0, 1) := by decide +kernel
theorem xdX13_show_20 : decode cX13_show 20 = .ok (.ldc_w 797, 3) := by decide +kernel
theorem xdX13_show_23 : decode cX13_show 23 = .ok (.invokevirtual 799, 3) := by decide +kernel
theorem xw_163 : (.code yX13_words cX13_words 3 none : Cond) ∈ tw_W := tw_in (t8_12 (List.mem_of_getElem? (i := 236) rfl)) rfl
theorem xw_164 : ∀ w ∈ ([.methodLink RX13 799 yX13_words, .instanceMethod yX13_words, .selects RX13 yX13_words yX13_words, .initialized RX13] : List Cond), w ∈ tw_W := al_c (tw_in (t8_12 (List.mem_of_getElem? (i := 233) rfl)) rfl) (al_c (tw_in (t8_12 (List.mem_of_getElem? (i := 235) rfl)) rfl) (al_c (tw_in (t7_12 (q := (yX13_words, 124)) (List.mem_of_getElem? (i := 13) rfl)) rfl) (al_c (tw_in (t8_1 (List.mem_of_getElem? (i := 23) rfl)) rfl) al_n)))
theorem xdX13_show_26 : decode cX13_show 26 = .ok (.bipush 28, 2) := by decide +kernel
theorem xdX13_show_28 : decode cX13_show 28 = .ok (.istore_n 3, 1) := by decide +kernel
theorem xdX13_show_29 : decode cX13_show 29 = .ok (.iload_n 3, 1) := by decide +kernel
theorem xdX13_show_30 : decode cX13_show 30 = .ok (.ifCond .lt 25, 3) := by decide +kernel
theorem xdX13_show_33 : decode cX13_show 33 = .ok (.aload_n 0, 1) := by decide +kernel
theorem xdX13_show_34 : decode cX13_show 34 = .ok (.ldc_w 802, 3) := by decide +kernel
theorem xdX13_show_37 : decode cX13_show 37 = .ok (.iload_n 1, 1) := by decide +kernel
theorem xdX13_show_38 : decode cX13_show 38 = .ok (.iload_n 3, 1) := by decide +kernel
theorem xdX13_show_39 : decode cX13_show 39 = .ok (.ishr, 1) := by decide +kernel
theorem xdX13_show_40 : decode cX13_show 40 = .ok (.bipush 15, 2) := by decide +kernel
theorem xdX13_show_42 : decode cX13_show 42 = .ok (.iand, 1) := by decide +kernel
theorem xdX13_show_43 : decode cX13_show 43 = .ok (.invokevirtual 90, 3) := by decide +kernel
theorem xdX13_show_46 : decode cX13_show 46 = .ok (.invokevirtual 706, 3) := by decide +kernel
theorem xdX13_show_49 : decode cX13_show 49 = .ok (.iinc 3 (-4), 3) := by decide +kernel
theorem xdX13_show_52 : decode cX13_show 52 = .ok (.goto (-23), 3) := by decide +kernel
theorem xdX13_show_55 : decode cX13_show 55 = .ok (.aload_n 0, 1) := by decide +kernel
theorem xdX13_show_56 : decode cX13_show 56 = .ok (.getfield 703, 3) := by decide +kernel
theorem xdX13_show_59 : decode cX13_show 59 = .ok (.ireturn, 1) := by decide +kernel
theorem xdX13_show_60 : decode cX13_show 60 = .ok (.aload_n 0, 1) := by decide +kernel
theorem xdX13_show_61 : decode cX13_show 61 = .ok (.aload_n 2, 1) := by decide +kernel
theorem xdX13_show_62 : decode cX13_show 62 = .ok (.invokevirtual 799, 3) := by decide +kernel
theorem xdX13_show_65 : decode cX13_show 65 = .ok (.iload_n 1, 1) := by decide +kernel
theorem xdX13_show_66 : decode cX13_show 66 = .ok (.bipush 7, 2) := by decide +kernel
theorem xdX13_show_68 : decode cX13_show 68 = .ok (.ishr, 1) := by decide +kernel
theorem xdX13_show_69 : decode cX13_show 69 = .ok (.bipush 31, 2) := by decide +kernel
theorem xdX13_show_71 : decode cX13_show 71 = .ok (.iand, 1) := by decide +kernel
theorem xdX13_show_72 : decode cX13_show 72 = .ok (.istore_n 3, 1) := by decide +kernel
theorem xdX13_show_73 : decode cX13_show 73 = .ok (.iload_n 1, 1) := by decide +kernel
theorem xdX13_show_74 : decode cX13_show 74 = .ok (.bipush 15, 2) := by decide +kernel
theorem xdX13_show_76 : decode cX13_show 76 = .ok (.ishr, 1) := by decide +kernel
theorem xdX13_show_77 : decode cX13_show 77 = .ok (.bipush 31, 2) := by decide +kernel
theorem xdX13_show_79 : decode cX13_show 79 = .ok (.iand, 1) := by decide +kernel
theorem xdX13_show_80 : decode cX13_show 80 = .ok (.istore 4, 2) := by decide +kernel
theorem xdX13_show_82 : decode cX13_show 82 = .ok (.iload_n 1, 1) := by decide +kernel
theorem xdX13_show_83 : decode cX13_show 83 = .ok (.bipush 20, 2) := by decide +kernel
theorem xdX13_show_85 : decode cX13_show 85 = .ok (.ishr, 1) := by decide +kernel
theorem xdX13_show_86 : decode cX13_show 86 = .ok (.bipush 31, 2) := by decide +kernel
theorem xdX13_show_88 : decode cX13_show 88 = .ok (.iand, 1) := by decide +kernel
theorem xdX13_show_89 : decode cX13_show 89 = .ok (.istore 5, 2) := by decide +kernel
theorem xdX13_show_91 : decode cX13_show 91 = .ok (.iload_n 1, 1) := by decide +kernel
theorem xdX13_show_92 : decode cX13_show 92 = .ok (.bipush 12, 2) := by decide +kernel
theorem xdX13_show_94 : decode cX13_show 94 = .ok (.ishr, 1) := by decide +kernel
theorem xdX13_show_95 : decode cX13_show 95 = .ok (.bipush 7, 2) := by decide +kernel
theorem xdX13_show_97 : decode cX13_show 97 = .ok (.iand, 1) := by decide +kernel
theorem xdX13_show_98 : decode cX13_show 98 = .ok (.istore 6, 2) := by decide +kernel
theorem xdX13_show_100 : decode cX13_show 100 = .ok (.iload_n 1, 1) := by decide +kernel
theorem xdX13_show_101 : decode cX13_show 101 = .ok (.bipush 127, 2) := by decide +kernel
theorem xdX13_show_103 : decode cX13_show 103 = .ok (.iand, 1) := by decide +kernel
theorem xdX13_show_104 : decode cX13_show 104 = .ok (.istore 7, 2) := by decide +kernel
theorem xdX13_show_106 : decode cX13_show 106 = .ok (.iload 7, 2) := by decide +kernel
theorem xdX13_show_108 : decode cX13_show 108 = .ok (.bipush 15, 2) := by decide +kernel
theorem xdX13_show_110 : decode cX13_show 110 = .ok (.if_icmp .eq 10, 3) := by decide +kernel
theorem xdX13_show_120 : decode cX13_show 120 = .ok (.aload_n 0, 1) := by decide +kernel
theorem xdX13_show_121 : decode cX13_show 121 = .ok (.getfield 703, 3) := by decide +kernel
theorem xdX13_show_124 : decode cX13_show 124 = .ok (.ireturn, 1) := by decide +kernel
theorem xdX13_show_113 : decode cX13_show 113 = .ok (.iload 7, 2) := by decide +kernel
theorem xdX13_show_115 : decode cX13_show 115 = .ok (.bipush 115, 2) := by decide +kernel
theorem xdX13_show_117 : decode cX13_show 117 = .ok (.if_icmp .ne 8, 3) := by decide +kernel
theorem xdX13_show_125 : decode cX13_show 125 = .ok (.aload_n 0, 1) := by decide +kernel
theorem xdX13_show_126 : decode cX13_show 126 = .ok (.bipush 32, 2) := by decide +kernel
theorem xdX13_show_128 : decode cX13_show 128 = .ok (.invokevirtual 706, 3) := by decide +kernel
theorem xdX13_show_131 : decode cX13_show 131 = .ok (.iload 7, 2) := by decide +kernel
theorem xdX13_show_133 : decode cX13_show 133 = .ok (.lookupswitch 218 #[(3, 115), (19, 183), (23, 75), (35, 156), (55, 75), (99, 137), (103, 115), (111, 95)], 75) := by decide +kernel
theorem xdX13_show_248 : decode cX13_show 248 = .ok (.aload_n 0, 1) := by decide +kernel
theorem xdX13_show_249 : decode cX13_show 249 = .ok (.iload_n 3, 1) := by decide +kernel
theorem xdX13_show_250 : decode cX13_show 250 = .ok (.invokevirtual 712, 3) := by decide +kernel
theorem xdX13_show_253 : decode cX13_show 253 = .ok (.aload_n 0, 1) := by decide +kernel
theorem xdX13_show_254 : decode cX13_show 254 = .ok (.invokevirtual 714, 3) := by decide +kernel
theorem xdX13_show_257 : decode cX13_show 257 = .ok (.aload_n 0, 1) := by decide +kernel
theorem xdX13_show_258 : decode cX13_show 258 = .ok (.iload_n 1, 1) := by decide +kernel
theorem xdX13_show_259 : decode cX13_show 259 = .ok (.bipush 20, 2) := by decide +kernel
theorem xdX13_show_261 : decode cX13_show 261 = .ok (.ishr, 1) := by decide +kernel
theorem xdX13_show_262 : decode cX13_show 262 = .ok (.iload 4, 2) := by decide +kernel
theorem xdX13_show_264 : decode cX13_show 264 = .ok (.invokevirtual 804, 3) := by decide +kernel
theorem xw_165 : (.code yX13_at_ cX13_at_ 3 none : Cond) ∈ tw_W := tw_in (t8_13 (List.mem_of_getElem? (i := 17) rfl)) rfl
theorem xw_166 : ∀ w ∈ ([.methodLink RX13 804 yX13_at_, .instanceMethod yX13_at_, .selects RX13 yX13_at_ yX13_at_, .initialized RX13] : List Cond), w ∈ tw_W := al_c (tw_in (t8_13 (List.mem_of_getElem? (i := 14) rfl)) rfl) (al_c (tw_in (t8_13 (List.mem_of_getElem? (i := 16) rfl)) rfl) (al_c (tw_in (t7_13 (q := (yX13_at_, 124)) (List.mem_of_getElem? (i := 2) rfl)) rfl) (al_c (tw_in (t8_1 (List.mem_of_getElem? (i := 23) rfl)) rfl) al_n)))
theorem xdX13_show_267 : decode cX13_show 267 = .ok (.goto 97, 3) := by decide +kernel
theorem xdX13_show_364 : decode cX13_show 364 = .ok (.aload_n 0, 1) := by decide +kernel
theorem xdX13_show_365 : decode cX13_show 365 = .ok (.getfield 703, 3) := by decide +kernel
theorem xdX13_show_368 : decode cX13_show 368 = .ok (.ireturn, 1) := by decide +kernel
theorem xdX13_show_316 : decode cX13_show 316 = .ok (.aload_n 0, 1) := by decide +kernel
theorem xdX13_show_317 : decode cX13_show 317 = .ok (.iload_n 3, 1) := by decide +kernel
theorem xdX13_show_318 : decode cX13_show 318 = .ok (.iload 4, 2) := by decide +kernel
theorem xdX13_show_320 : decode cX13_show 320 = .ok (.invokevirtual 806, 3) := by decide +kernel
theorem xw_167 : (.code yX13_three cX13_three 3 none : Cond) ∈ tw_W := tw_in (t8_13 (List.mem_of_getElem? (i := 21) rfl)) rfl
theorem xw_168 : ∀ w ∈ ([.methodLink RX13 806 yX13_three, .instanceMethod yX13_three, .selects RX13 yX13_three yX13_three, .initialized RX13] : List Cond), w ∈ tw_W := al_c (tw_in (t8_13 (List.mem_of_getElem? (i := 18) rfl)) rfl) (al_c (tw_in (t8_13 (List.mem_of_getElem? (i := 20) rfl)) rfl) (al_c (tw_in (t7_13 (q := (yX13_three, 124)) (List.mem_of_getElem? (i := 3) rfl)) rfl) (al_c (tw_in (t8_1 (List.mem_of_getElem? (i := 23) rfl)) rfl) al_n)))
theorem xdX13_show_323 : decode cX13_show 323 = .ok (.aload_n 0, 1) := by decide +kernel
theorem xdX13_show_324 : decode cX13_show 324 = .ok (.iload 6, 2) := by decide +kernel
theorem xdX13_show_326 : decode cX13_show 326 = .ok (.iconst 1, 1) := by decide +kernel
theorem xdX13_show_327 : decode cX13_show 327 = .ok (.if_icmp .eq 9, 3) := by decide +kernel
theorem xdX13_show_336 : decode cX13_show 336 = .ok (.iload 5, 2) := by decide +kernel
theorem xdX13_show_338 : decode cX13_show 338 = .ok (.goto 7, 3) := by decide +kernel
theorem xdX13_show_345 : decode cX13_show 345 = .ok (.invokevirtual 709, 3) := by decide +kernel
theorem xdX13_show_348 : decode cX13_show 348 = .ok (.goto 16, 3) := by decide +kernel
theorem xdX13_show_330 : decode cX13_show 330 = .ok (.iload 6, 2) := by decide +kernel
theorem xdX13_show_332 : decode cX13_show 332 = .ok (.iconst 5, 1) := by decide +kernel
theorem xdX13_show_333 : decode cX13_show 333 = .ok (.if_icmp .ne 8, 3) := by decide +kernel
theorem xdX13_show_341 : decode cX13_show 341 = .ok (.iload_n 1, 1) := by decide +kernel
theorem xdX13_show_342 : decode cX13_show 342 = .ok (.bipush 20, 2) := by decide +kernel
theorem xdX13_show_344 : decode cX13_show 344 = .ok (.ishr, 1) := by decide +kernel
theorem xdX13_show_208 : decode cX13_show 208 = .ok (.aload_n 0, 1) := by decide +kernel
theorem xdX13_show_209 : decode cX13_show 209 = .ok (.iload_n 3, 1) := by decide +kernel
theorem xdX13_show_210 : decode cX13_show 210 = .ok (.invokevirtual 712, 3) := by decide +kernel
theorem xdX13_show_213 : decode cX13_show 213 = .ok (.aload_n 0, 1) := by decide +kernel
theorem xdX13_show_214 : decode cX13_show 214 = .ok (.invokevirtual 714, 3) := by decide +kernel
theorem xdX13_show_217 : decode cX13_show 217 = .ok (.aload_n 0, 1) := by decide +kernel
theorem xdX13_show_218 : decode cX13_show 218 = .ok (.iload_n 1, 1) := by decide +kernel
theorem xdX13_show_219 : decode cX13_show 219 = .ok (.bipush 12, 2) := by decide +kernel
theorem xdX13_show_221 : decode cX13_show 221 = .ok (.iushr, 1) := by decide +kernel
theorem xdX13_show_222 : decode cX13_show 222 = .ok (.invokevirtual 709, 3) := by decide +kernel
theorem xdX13_show_225 : decode cX13_show 225 = .ok (.goto 139, 3) := by decide +kernel
theorem xdX13_show_289 : decode cX13_show 289 = .ok (.aload_n 0, 1) := by decide +kernel
theorem xdX13_show_290 : decode cX13_show 290 = .ok (.iload 5, 2) := by decide +kernel
theorem xdX13_show_292 : decode cX13_show 292 = .ok (.invokevirtual 712, 3) := by decide +kernel
theorem xdX13_show_295 : decode cX13_show 295 = .ok (.aload_n 0, 1) := by decide +kernel
theorem xdX13_show_296 : decode cX13_show 296 = .ok (.invokevirtual 714, 3) := by decide +kernel
theorem xdX13_show_299 : decode cX13_show 299 = .ok (.aload_n 0, 1) := by decide +kernel
theorem xdX13_show_300 : decode cX13_show 300 = .ok (.iload_n 1, 1) := by decide +kernel
theorem xdX13_show_301 : decode cX13_show 301 = .ok (.bipush 25, 2) := by decide +kernel
theorem xdX13_show_303 : decode cX13_show 303 = .ok (.ishr, 1) := by decide +kernel
theorem xdX13_show_304 : decode cX13_show 304 = .ok (.iconst 5, 1) := by decide +kernel
theorem xdX13_show_305 : decode cX13_show 305 = .ok (.ishl, 1) := by decide +kernel
theorem xdX13_show_306 : decode cX13_show 306 = .ok (.iload_n 3, 1) := by decide +kernel
theorem xdX13_show_307 : decode cX13_show 307 = .ok (.ior, 1) := by decide +kernel
theorem xdX13_show_308 : decode cX13_show 308 = .ok (.iload 4, 2) := by decide +kernel
theorem xdX13_show_310 : decode cX13_show 310 = .ok (.invokevirtual 804, 3) := by decide +kernel
theorem xdX13_show_313 : decode cX13_show 313 = .ok (.goto 51, 3) := by decide +kernel
theorem xdX13_show_270 : decode cX13_show 270 = .ok (.aload_n 0, 1) := by decide +kernel
theorem xdX13_show_271 : decode cX13_show 271 = .ok (.iload 4, 2) := by decide +kernel
theorem xdX13_show_273 : decode cX13_show 273 = .ok (.iload 5, 2) := by decide +kernel
theorem xdX13_show_275 : decode cX13_show 275 = .ok (.invokevirtual 806, 3) := by decide +kernel
theorem xdX13_show_278 : decode cX13_show 278 = .ok (.aload_n 0, 1) := by decide +kernel
theorem xdX13_show_279 : decode cX13_show 279 = .ok (.iload_n 1, 1) := by decide +kernel
theorem xdX13_show_280 : decode cX13_show 280 = .ok (.invokestatic 690, 3) := by decide +kernel
theorem xw_169 : (.code yX13_imB cX13_imB 1 (some .int) : Cond) ∈ tw_W := tw_in (t8_12 (List.mem_of_getElem? (i := 122) rfl)) rfl
theorem xw_170 : ∀ w ∈ ([.methodLink RX13 690 yX13_imB, .static yX13_imB, .initialized yX13_imB.cls] : List Cond), w ∈ tw_W := al_c (tw_in (t8_12 (List.mem_of_getElem? (i := 120) rfl)) rfl) (al_c (tw_in (t8_12 (List.mem_of_getElem? (i := 121) rfl)) rfl) (al_c (tw_in (t8_1 (List.mem_of_getElem? (i := 23) rfl)) rfl) al_n))
theorem xdX13_show_283 : decode cX13_show 283 = .ok (.invokevirtual 709, 3) := by decide +kernel
theorem xdX13_show_286 : decode cX13_show 286 = .ok (.goto 78, 3) := by decide +kernel
theorem xdX13_show_228 : decode cX13_show 228 = .ok (.aload_n 0, 1) := by decide +kernel
theorem xdX13_show_229 : decode cX13_show 229 = .ok (.iload_n 3, 1) := by decide +kernel
theorem xdX13_show_230 : decode cX13_show 230 = .ok (.invokevirtual 712, 3) := by decide +kernel
theorem xdX13_show_233 : decode cX13_show 233 = .ok (.aload_n 0, 1) := by decide +kernel
theorem xdX13_show_234 : decode cX13_show 234 = .ok (.invokevirtual 714, 3) := by decide +kernel
theorem xdX13_show_237 : decode cX13_show 237 = .ok (.aload_n 0, 1) := by decide +kernel
theorem xdX13_show_238 : decode cX13_show 238 = .ok (.iload_n 1, 1) := by decide +kernel
theorem xdX13_show_239 : decode cX13_show 239 = .ok (.invokestatic 662, 3) := by decide +kernel
theorem xw_171 : (.code yX13_imJ cX13_imJ 1 (some .int) : Cond) ∈ tw_W := tw_in (t8_12 (List.mem_of_getElem? (i := 110) rfl)) rfl
theorem xw_172 : ∀ w ∈ ([.methodLink RX13 662 yX13_imJ, .static yX13_imJ, .initialized yX13_imJ.cls] : List Cond), w ∈ tw_W := al_c (tw_in (t8_12 (List.mem_of_getElem? (i := 108) rfl)) rfl) (al_c (tw_in (t8_12 (List.mem_of_getElem? (i := 109) rfl)) rfl) (al_c (tw_in (t8_1 (List.mem_of_getElem? (i := 23) rfl)) rfl) al_n))
theorem xdX13_show_242 : decode cX13_show 242 = .ok (.invokevirtual 709, 3) := by decide +kernel
theorem xdX13_show_245 : decode cX13_show 245 = .ok (.goto 119, 3) := by decide +kernel
theorem xdX13_show_351 : decode cX13_show 351 = .ok (.aload_n 0, 1) := by decide +kernel
theorem xdX13_show_352 : decode cX13_show 352 = .ok (.iload_n 3, 1) := by decide +kernel
theorem xdX13_show_353 : decode cX13_show 353 = .ok (.iload 4, 2) := by decide +kernel
theorem xdX13_show_355 : decode cX13_show 355 = .ok (.invokevirtual 806, 3) := by decide +kernel
theorem xdX13_show_358 : decode cX13_show 358 = .ok (.aload_n 0, 1) := by decide +kernel
theorem xdX13_show_359 : decode cX13_show 359 = .ok (.iload 5, 2) := by decide +kernel
theorem xdX13_show_361 : decode cX13_show 361 = .ok (.invokevirtual 712, 3) := by decide +kernel
def okO (o : Option Nat) : Prop := ∀ i, o = some i → i < 66 ∧ lenS.getD i 0 ≤ 6
theorem okO_if {c : Prop} [Decidable c] {x y : Option Nat} (h1 : okO x) (h2 : okO y) : okO (if c then x else y) := by
  by_cases h : c
  · rw [if_pos h]; exact h1
  · rw [if_neg h]; exact h2
theorem okO_n : okO none := fun i h => by cases h
theorem okO_s {k : Nat} (h : k < 66 ∧ lenS.getD k 0 ≤ 6) : okO (some k) := fun i e => by cases e; exact h
theorem okO_l {L : List (Option Nat)} (h : L.all (fun o => match o with | none => true | some k => decide (k < 66 ∧ lenS.getD k 0 ≤ 6)) = true) (j : Nat) : okO (L.getD j none) := by
  intro i e
  rw [List.getD_eq_getElem?_getD] at e
  cases e2 : L[j]? with
  | none => rw [e2] at e; cases e
  | some o =>
    rw [e2] at e
    have h1 := List.all_eq_true.mp h o (List.mem_of_getElem? e2)
    have e3 : o = some i := e
    subst e3
    exact of_decide_eq_true h1
theorem nmI_ok (w : Int32) : okO (nmI w) := by
  unfold nmI
  repeat' refine okO_if ?_ ?_
  all_goals first | exact okO_n | exact okO_s (by decide) | exact okO_l (by decide) _
set_option maxHeartbeats 4000000 in
set_option maxRecDepth 100000 in
/-- imJ -/
theorem c_sx_imJ (l : Launch) (dC : Nat → ClassId) (dI : Nat → Nat → Nat) (cI cB cZ cJ cR : ClassId) (tb : Nat → Nat) (sz : Nat) (w : Int32)  : Met l yX13_imJ (Cond.code yX13_imJ cX13_imJ 1 (some .int) :: tw_W) ({ frames := 0, cells := 0, slots := 0, locals := 0 }) (pc_ (dC, dI) (tyS cI cB cZ cJ cR) tb [] sz [.int w]) (qi_ (dC, dI) [] sz (fun (r : Int32) (u : Unit) => r = (((((w >>> (31 &&& 31)) <<< (20 &&& 31)) ||| (((w >>> (12 &&& 31)) &&& 255) <<< (12 &&& 31))) ||| (((w >>> (20 &&& 31)) &&& 1) <<< (11 &&& 31))) ||| (((w >>> (21 &&& 31)) &&& 1023) <<< (1 &&& 31)))) (fun (u : Unit) => [])) 0 0 (va_A [] sz) := by
  refine Met.ofW (cc := cX13_imJ) (maxL := 1) (ret := (some .int)) (by decide) rfl ?_
  intro p e s m args below meth c s₁ B hml hv
  obtain ⟨rfl, hsz, hP, hKK, hD0, hFx⟩ := hv
  have hK := hKK.1
  have hx := B.exec
  have hb := B.bytes
  have hr := B.returns
  have ht : ∀ w ∈ tw_W, w.before _ s = true := fun w h => atoms_spec (ws := Cond.code yX13_imJ cX13_imJ 1 (some .int) :: tw_W) B.pre w (List.mem_cons_of_mem _ h)
  have hown : s.vm.findClass RX13 = some m.cls := findClass_of_methodNamed B.named
  have hlocks := B.notSynchronized
  subst hsz
  unfold qi_
  have hD := hD0.self (sz := s.heap.size)
  generalize hAe : va_A [] s.heap.size = A at hD hFx ⊢
  have hA : ∀ q : Nat, s.heap.size ≤ q → A q := fun q h => by rw [← hAe]; exact Or.inr h
  have hS : va_S A s.heap s.heap [] := va_S.rf
  have hP : va_P (dC, dI) vwCl [] s.heap := hP
  have hl := lv_entry ([.int w]) (n := 1) (Nat.le_of_ble_eq_true rfl)
  rw [lg_entry_eq]
  generalize (lg_sl ([.int w]) ++ List.replicate (1 - (lg_sl ([.int w])).length) Slot.unset).toArray = ls at hl ⊢
  have hl : lv_has ls 1 [(0, .int w)] := hl
  refine lv_iload_n hx hb xdX13_imJ_0 rfl (lv_at hl 0 rfl) ?_
  refine lv_bipush (v := 31) hx hb xdX13_imJ_1 (by decide) ?_
  refine lv_ishr hx hb xdX13_imJ_3 ?_
  refine lv_bipush (v := 20) hx hb xdX13_imJ_4 (by decide) ?_
  refine lv_ishl hx hb xdX13_imJ_6 ?_
  refine lv_iload_n hx hb xdX13_imJ_7 rfl (lv_at hl 0 rfl) ?_
  refine lv_bipush (v := 12) hx hb xdX13_imJ_8 (by decide) ?_
  refine lv_ishr hx hb xdX13_imJ_10 ?_
  refine lv_sipush (v := 255) hx hb xdX13_imJ_11 (by decide) ?_
  refine lv_iand hx hb xdX13_imJ_14 ?_
  refine lv_bipush (v := 12) hx hb xdX13_imJ_15 (by decide) ?_
  refine lv_ishl hx hb xdX13_imJ_17 ?_
  refine lv_ior hx hb xdX13_imJ_18 ?_
  refine lv_iload_n hx hb xdX13_imJ_19 rfl (lv_at hl 0 rfl) ?_
  refine lv_bipush (v := 20) hx hb xdX13_imJ_20 (by decide) ?_
  refine lv_ishr hx hb xdX13_imJ_22 ?_
  refine lv_iconst (v := 1) hx hb xdX13_imJ_23 (by decide) ?_
  refine lv_iand hx hb xdX13_imJ_24 ?_
  refine lv_bipush (v := 11) hx hb xdX13_imJ_25 (by decide) ?_
  refine lv_ishl hx hb xdX13_imJ_27 ?_
  refine lv_ior hx hb xdX13_imJ_28 ?_
  refine lv_iload_n hx hb xdX13_imJ_29 rfl (lv_at hl 0 rfl) ?_
  refine lv_bipush (v := 21) hx hb xdX13_imJ_30 (by decide) ?_
  refine lv_ishr hx hb xdX13_imJ_32 ?_
  refine lv_sipush (v := 1023) hx hb xdX13_imJ_33 (by decide) ?_
  refine lv_iand hx hb xdX13_imJ_36 ?_
  refine lv_iconst (v := 1) hx hb xdX13_imJ_37 (by decide) ?_
  refine lv_ishl hx hb xdX13_imJ_38 ?_
  refine lv_ior hx hb xdX13_imJ_39 ?_
  have hP9 := hP.sub (ws' := []) [] rfl
  have hD9 := hD.sub (ws' := []) [] (by decide) rfl
  refine W.widen (k := 0) (n := 0) (by omega) (by omega) ?_
  exact W.iret (v := (((((w >>> (31 &&& 31)) <<< (20 &&& 31)) ||| (((w >>> (12 &&& 31)) &&& 255) <<< (12 &&& 31))) ||| (((w >>> (20 &&& 31)) &&& 1) <<< (11 &&& 31))) ||| (((w >>> (21 &&& 31)) &&& 1023) <<< (1 &&& 31)))) hx hb hr (fun t ht9 hW => ⟨⟨(((((w >>> (31 &&& 31)) <<< (20 &&& 31)) ||| (((w >>> (12 &&& 31)) &&& 255) <<< (12 &&& 31))) ||| (((w >>> (20 &&& 31)) &&& 1) <<< (11 &&& 31))) ||| (((w >>> (21 &&& 31)) &&& 1023) <<< (1 &&& 31))), (), rfl, rfl, by rw [ht9]; exact hP9, hD9⟩, hS.F ht9⟩) hS.2.2 xdX13_imJ_40
set_option maxHeartbeats 4000000 in
set_option maxRecDepth 100000 in
/-- imB -/
theorem c_sx_imB (l : Launch) (dC : Nat → ClassId) (dI : Nat → Nat → Nat) (cI cB cZ cJ cR : ClassId) (tb : Nat → Nat) (sz : Nat) (w : Int32)  : Met l yX13_imB (Cond.code yX13_imB cX13_imB 1 (some .int) :: tw_W) ({ frames := 0, cells := 0, slots := 0, locals := 0 }) (pc_ (dC, dI) (tyS cI cB cZ cJ cR) tb [] sz [.int w]) (qi_ (dC, dI) [] sz (fun (r : Int32) (u : Unit) => r = (((((w >>> (31 &&& 31)) <<< (12 &&& 31)) ||| (((w >>> (7 &&& 31)) &&& 1) <<< (11 &&& 31))) ||| (((w >>> (25 &&& 31)) &&& 63) <<< (5 &&& 31))) ||| (((w >>> (8 &&& 31)) &&& 15) <<< (1 &&& 31)))) (fun (u : Unit) => [])) 0 0 (va_A [] sz) := by
  refine Met.ofW (cc := cX13_imB) (maxL := 1) (ret := (some .int)) (by decide) rfl ?_
  intro p e s m args below meth c s₁ B hml hv
  obtain ⟨rfl, hsz, hP, hKK, hD0, hFx⟩ := hv
  have hK := hKK.1
  have hx := B.exec
  have hb := B.bytes
  have hr := B.returns
  have ht : ∀ w ∈ tw_W, w.before _ s = true := fun w h => atoms_spec (ws := Cond.code yX13_imB cX13_imB 1 (some .int) :: tw_W) B.pre w (List.mem_cons_of_mem _ h)
  have hown : s.vm.findClass RX13 = some m.cls := findClass_of_methodNamed B.named
  have hlocks := B.notSynchronized
  subst hsz
  unfold qi_
  have hD := hD0.self (sz := s.heap.size)
  generalize hAe : va_A [] s.heap.size = A at hD hFx ⊢
  have hA : ∀ q : Nat, s.heap.size ≤ q → A q := fun q h => by rw [← hAe]; exact Or.inr h
  have hS : va_S A s.heap s.heap [] := va_S.rf
  have hP : va_P (dC, dI) vwCl [] s.heap := hP
  have hl := lv_entry ([.int w]) (n := 1) (Nat.le_of_ble_eq_true rfl)
  rw [lg_entry_eq]
  generalize (lg_sl ([.int w]) ++ List.replicate (1 - (lg_sl ([.int w])).length) Slot.unset).toArray = ls at hl ⊢
  have hl : lv_has ls 1 [(0, .int w)] := hl
  refine lv_iload_n hx hb xdX13_imB_0 rfl (lv_at hl 0 rfl) ?_
  refine lv_bipush (v := 31) hx hb xdX13_imB_1 (by decide) ?_
  refine lv_ishr hx hb xdX13_imB_3 ?_
  refine lv_bipush (v := 12) hx hb xdX13_imB_4 (by decide) ?_
  refine lv_ishl hx hb xdX13_imB_6 ?_
  refine lv_iload_n hx hb xdX13_imB_7 rfl (lv_at hl 0 rfl) ?_
  refine lv_bipush (v := 7) hx hb xdX13_imB_8 (by decide) ?_
  refine lv_ishr hx hb xdX13_imB_10 ?_
  refine lv_iconst (v := 1) hx hb xdX13_imB_11 (by decide) ?_
  refine lv_iand hx hb xdX13_imB_12 ?_
  refine lv_bipush (v := 11) hx hb xdX13_imB_13 (by decide) ?_
  refine lv_ishl hx hb xdX13_imB_15 ?_
  refine lv_ior hx hb xdX13_imB_16 ?_
  refine lv_iload_n hx hb xdX13_imB_17 rfl (lv_at hl 0 rfl) ?_
  refine lv_bipush (v := 25) hx hb xdX13_imB_18 (by decide) ?_
  refine lv_ishr hx hb xdX13_imB_20 ?_
  refine lv_bipush (v := 63) hx hb xdX13_imB_21 (by decide) ?_
  refine lv_iand hx hb xdX13_imB_23 ?_
  refine lv_iconst (v := 5) hx hb xdX13_imB_24 (by decide) ?_
  refine lv_ishl hx hb xdX13_imB_25 ?_
  refine lv_ior hx hb xdX13_imB_26 ?_
  refine lv_iload_n hx hb xdX13_imB_27 rfl (lv_at hl 0 rfl) ?_
  refine lv_bipush (v := 8) hx hb xdX13_imB_28 (by decide) ?_
  refine lv_ishr hx hb xdX13_imB_30 ?_
  refine lv_bipush (v := 15) hx hb xdX13_imB_31 (by decide) ?_
  refine lv_iand hx hb xdX13_imB_33 ?_
  refine lv_iconst (v := 1) hx hb xdX13_imB_34 (by decide) ?_
  refine lv_ishl hx hb xdX13_imB_35 ?_
  refine lv_ior hx hb xdX13_imB_36 ?_
  have hP9 := hP.sub (ws' := []) [] rfl
  have hD9 := hD.sub (ws' := []) [] (by decide) rfl
  refine W.widen (k := 0) (n := 0) (by omega) (by omega) ?_
  exact W.iret (v := (((((w >>> (31 &&& 31)) <<< (12 &&& 31)) ||| (((w >>> (7 &&& 31)) &&& 1) <<< (11 &&& 31))) ||| (((w >>> (25 &&& 31)) &&& 63) <<< (5 &&& 31))) ||| (((w >>> (8 &&& 31)) &&& 15) <<< (1 &&& 31)))) hx hb hr (fun t ht9 hW => ⟨⟨(((((w >>> (31 &&& 31)) <<< (12 &&& 31)) ||| (((w >>> (7 &&& 31)) &&& 1) <<< (11 &&& 31))) ||| (((w >>> (25 &&& 31)) &&& 63) <<< (5 &&& 31))) ||| (((w >>> (8 &&& 31)) &&& 15) <<< (1 &&& 31))), (), rfl, rfl, by rw [ht9]; exact hP9, hD9⟩, hS.F ht9⟩) hS.2.2 xdX13_imB_37
def opM (w : Int32) : Nat := (if (w &&& 127) = 15 then 0 else (if (w &&& 127) = 115 then 0 else (if (w &&& 127) = 3 then (1 + (1 + dl ((w >>> (7 &&& 31)) &&& 31)) + 2 + (dl (w >>> (20 &&& 31)) + 1 + (1 + dl ((w >>> (15 &&& 31)) &&& 31)) + 1)) else (if (w &&& 127) = 19 then (if ((w >>> (12 &&& 31)) &&& 7) = 1 then (1 + (1 + dl ((w >>> (7 &&& 31)) &&& 31) + 2 + (1 + dl ((w >>> (15 &&& 31)) &&& 31)) + 2) + dl ((w >>> (20 &&& 31)) &&& 31)) else (if ((w >>> (12 &&& 31)) &&& 7) = 5 then (1 + (1 + dl ((w >>> (7 &&& 31)) &&& 31) + 2 + (1 + dl ((w >>> (15 &&& 31)) &&& 31)) + 2) + dl ((w >>> (20 &&& 31)) &&& 31)) else (1 + (1 + dl ((w >>> (7 &&& 31)) &&& 31) + 2 + (1 + dl ((w >>> (15 &&& 31)) &&& 31)) + 2) + dl (w >>> (20 &&& 31))))) else (if (w &&& 127) = 23 then (1 + (1 + dl ((w >>> (7 &&& 31)) &&& 31)) + 2 + dl ((w.toUInt32 >>> ((12 : Int32).toUInt32 &&& Int32.toUInt32 31)).toInt32)) else (if (w &&& 127) = 35 then (1 + (1 + dl ((w >>> (20 &&& 31)) &&& 31)) + 2 + (dl (((w >>> (25 &&& 31)) <<< (5 &&& 31)) ||| ((w >>> (7 &&& 31)) &&& 31)) + 1 + (1 + dl ((w >>> (15 &&& 31)) &&& 31)) + 1)) else (if (w &&& 127) = 55 then (1 + (1 + dl ((w >>> (7 &&& 31)) &&& 31)) + 2 + dl ((w.toUInt32 >>> ((12 : Int32).toUInt32 &&& Int32.toUInt32 31)).toInt32)) else (if (w &&& 127) = 99 then (1 + (1 + dl ((w >>> (15 &&& 31)) &&& 31) + 2 + (1 + dl ((w >>> (20 &&& 31)) &&& 31)) + 2) + dl (((((w >>> (31 &&& 31)) <<< (12 &&& 31)) ||| (((w >>> (7 &&& 31)) &&& 1) <<< (11 &&& 31))) ||| (((w >>> (25 &&& 31)) &&& 63) <<< (5 &&& 31))) ||| (((w >>> (8 &&& 31)) &&& 15) <<< (1 &&& 31)))) else (if (w &&& 127) = 103 then (1 + (1 + dl ((w >>> (7 &&& 31)) &&& 31)) + 2 + (dl (w >>> (20 &&& 31)) + 1 + (1 + dl ((w >>> (15 &&& 31)) &&& 31)) + 1)) else (if (w &&& 127) = 111 then (1 + (1 + dl ((w >>> (7 &&& 31)) &&& 31)) + 2 + dl (((((w >>> (31 &&& 31)) <<< (20 &&& 31)) ||| (((w >>> (12 &&& 31)) &&& 255) <<< (12 &&& 31))) ||| (((w >>> (20 &&& 31)) &&& 1) <<< (11 &&& 31))) ||| (((w >>> (21 &&& 31)) &&& 1023) <<< (1 &&& 31)))) else (1 + (1 + dl ((w >>> (7 &&& 31)) &&& 31) + 2 + (1 + dl ((w >>> (15 &&& 31)) &&& 31)) + 2) + (1 + dl ((w >>> (20 &&& 31)) &&& 31)))))))))))))
def lenM (w : Int32) : Nat := match nmI w with | none => 15 | some i => lenS.getD i 0 + opM w
def opMT (w : Int32) : List Int32 := (if (w &&& 127) = 15 then ([] : List Int32) else (if (w &&& 127) = 115 then ([] : List Int32) else (if (w &&& 127) = 3 then (((([(32 : Int32)]) ++ (rgM ((w >>> (7 &&& 31)) &&& 31))) ++ coM) ++ (atM (w >>> (20 &&& 31)) ((w >>> (15 &&& 31)) &&& 31)) : List Int32) else (if (w &&& 127) = 19 then (if ((w >>> (12 &&& 31)) &&& 7) = 1 then ((([(32 : Int32)]) ++ (thM ((w >>> (7 &&& 31)) &&& 31) ((w >>> (15 &&& 31)) &&& 31))) ++ (decT ((w >>> (20 &&& 31)) &&& 31)) : List Int32) else (if ((w >>> (12 &&& 31)) &&& 7) = 5 then ((([(32 : Int32)]) ++ (thM ((w >>> (7 &&& 31)) &&& 31) ((w >>> (15 &&& 31)) &&& 31))) ++ (decT ((w >>> (20 &&& 31)) &&& 31)) : List Int32) else ((([(32 : Int32)]) ++ (thM ((w >>> (7 &&& 31)) &&& 31) ((w >>> (15 &&& 31)) &&& 31))) ++ (decT (w >>> (20 &&& 31))) : List Int32))) else (if (w &&& 127) = 23 then (((([(32 : Int32)]) ++ (rgM ((w >>> (7 &&& 31)) &&& 31))) ++ coM) ++ (decT ((w.toUInt32 >>> ((12 : Int32).toUInt32 &&& Int32.toUInt32 31)).toInt32)) : List Int32) else (if (w &&& 127) = 35 then (((([(32 : Int32)]) ++ (rgM ((w >>> (20 &&& 31)) &&& 31))) ++ coM) ++ (atM (((w >>> (25 &&& 31)) <<< (5 &&& 31)) ||| ((w >>> (7 &&& 31)) &&& 31)) ((w >>> (15 &&& 31)) &&& 31)) : List Int32) else (if (w &&& 127) = 55 then (((([(32 : Int32)]) ++ (rgM ((w >>> (7 &&& 31)) &&& 31))) ++ coM) ++ (decT ((w.toUInt32 >>> ((12 : Int32).toUInt32 &&& Int32.toUInt32 31)).toInt32)) : List Int32) else (if (w &&& 127) = 99 then ((([(32 : Int32)]) ++ (thM ((w >>> (15 &&& 31)) &&& 31) ((w >>> (20 &&& 31)) &&& 31))) ++ (decT (((((w >>> (31 &&& 31)) <<< (12 &&& 31)) ||| (((w >>> (7 &&& 31)) &&& 1) <<< (11 &&& 31))) ||| (((w >>> (25 &&& 31)) &&& 63) <<< (5 &&& 31))) ||| (((w >>> (8 &&& 31)) &&& 15) <<< (1 &&& 31)))) : List Int32) else (if (w &&& 127) = 103 then (((([(32 : Int32)]) ++ (rgM ((w >>> (7 &&& 31)) &&& 31))) ++ coM) ++ (atM (w >>> (20 &&& 31)) ((w >>> (15 &&& 31)) &&& 31)) : List Int32) else (if (w &&& 127) = 111 then (((([(32 : Int32)]) ++ (rgM ((w >>> (7 &&& 31)) &&& 31))) ++ coM) ++ (decT (((((w >>> (31 &&& 31)) <<< (20 &&& 31)) ||| (((w >>> (12 &&& 31)) &&& 255) <<< (12 &&& 31))) ||| (((w >>> (20 &&& 31)) &&& 1) <<< (11 &&& 31))) ||| (((w >>> (21 &&& 31)) &&& 1023) <<< (1 &&& 31)))) : List Int32) else ((([(32 : Int32)]) ++ (thM ((w >>> (7 &&& 31)) &&& 31) ((w >>> (15 &&& 31)) &&& 31))) ++ (rgM ((w >>> (20 &&& 31)) &&& 31)) : List Int32)))))))))))
def hexM (w : Int32) : List Int32 := hyT 11 (fun i9 => (w >>> ((shH i9) &&& 31))) 8
def tM (w : Int32) : List Int32 := match nmI w with | none => smT 65 7 ++ hexM w | some i => smT i (lenS.getD i 0) ++ opMT w
set_option maxHeartbeats 16000000 in
set_option maxRecDepth 100000 in
/-- show -/
theorem c_sx_mshow (l : Launch) (dC : Nat → ClassId) (dI : Nat → Nat → Nat) (cI cB cZ cJ cR : ClassId) (tb : Nat → Nat) (sz : Nat) (h0 : Nat) (sa : Nat) (fs : List Value) (f : Nat → Int32) (w : Int32) (hsh : fs[103]? = some (.ref sa)) (hln : fs.length = 124) : Met l yX13_show (Cond.code yX13_show cX13_show 8 (some .int) :: tw_W) ({ frames := 5, cells := 4, slots := 32, locals := 107 }) (pc_ (dC, dI) (tyS cI cB cZ cJ cR) tb [(h0, .inr (16, fs)), (sa, .inl (cI, 60, .inl f))] sz [.ref h0, .int w]) (qi_ (dC, dI) [(h0, .inr (16, fs)), (sa, .inl (cI, 60, .inl f))] sz (fun (r : Int32) (u : Nat × (Nat → Int32)) => u.1 ≤ 60 ∧ r = nI (lenM w) ∧ TA f 0 u.2 u.1 (tM w)) (fun (u : Nat × (Nat → Int32)) => [(h0, .inr (16, fsN (fs.set 0 (.int 0)) u.1)), (sa, .inl (cI, 60, .inl u.2))])) 4 32 (va_A [(h0, .inr (16, fs)), (sa, .inl (cI, 60, .inl f))] sz) := by
  refine Met.ofW (cc := cX13_show) (maxL := 8) (ret := (some .int)) (by decide) rfl ?_
  intro p e s m9 args below meth c s₁ B hml hv
  obtain ⟨rfl, hsz, hP, hKK, hD0, hFx⟩ := hv
  have hK := hKK.1
  have hx := B.exec
  have hb := B.bytes
  have hr := B.returns
  have ht : ∀ w ∈ tw_W, w.before _ s = true := fun w h => atoms_spec (ws := Cond.code yX13_show cX13_show 8 (some .int) :: tw_W) B.pre w (List.mem_cons_of_mem _ h)
  have hown : s.vm.findClass RX13 = some m9.cls := findClass_of_methodNamed B.named
  have hlocks := B.notSynchronized
  subst hsz
  unfold qi_
  have hD := hD0.self (sz := s.heap.size)
  generalize hAe : va_A [(h0, .inr (16, fs)), (sa, .inl (cI, 60, .inl f))] s.heap.size = A at hD hFx ⊢
  have hA : ∀ q : Nat, s.heap.size ≤ q → A q := fun q h => by rw [← hAe]; exact Or.inr h
  have hS : va_S A s.heap s.heap [] := va_S.rf
  have hP : va_P (dC, dI) vwCl [(h0, .inr (16, fs)), (sa, .inl (cI, 60, .inl f))] s.heap := hP
  have hl := lv_entry ([.ref h0, .int w]) (n := 8) (Nat.le_of_ble_eq_true rfl)
  rw [lg_entry_eq]
  generalize (lg_sl ([.ref h0, .int w]) ++ List.replicate (8 - (lg_sl ([.ref h0, .int w])).length) Slot.unset).toArray = ls at hl ⊢
  have hl : lv_has ls 8 [(0, .ref h0), (1, .int w)] := hl
  have hsh : (fs.set 0 (.int 0))[103]? = some (.ref sa) := by rw [List.getElem?_set_ne (by decide)]; exact hsh
  have hln9 := hln
  have hln : (fs.set 0 (.int 0)).length = 124 := by rw [List.length_set]; exact hln9
  refine lv_aload_n hx hb xdX13_show_0 rfl (lv_at hl 0 rfl) ?_
  refine lv_iconst (v := 0) hx hb xdX13_show_1 (by decide) ?_
  refine va_put (D := (dC, dI)) (ci := 16) (v := .int 0) (ty := .int) (C := RX13) (T := TX13) (N := 124) hx hb ht xiX13 tyX13 tyX13_ok nmX13 hown hK hP hD hS 0 rfl rfl 0 (by decide) (ht _ xw_160) (fun _ h9 => h9) rfl (by decide +kernel) rfl rfl (by first | (rw [fsN_len]; omega) | omega) xdX13_show_2 (fun H locs hP hD hS => ?_)
  have hP : va_P (dC, dI) vwCl [(h0, .inr (16, fs.set 0 (.int 0))), (sa, .inl (cI, 60, .inl f))] H := hP
  have hD : va_D A [(h0, .inr (16, fs.set 0 (.int 0))), (sa, .inl (cI, 60, .inl f))] := hD
  refine lv_aload_n hx hb xdX13_show_5 rfl (lv_at hl 0 rfl) ?_
  refine lv_iconst (v := 0) hx hb xdX13_show_6 (by decide) ?_
  refine va_put (D := (dC, dI)) (ci := 16) (v := .int 0) (ty := .int) (C := RX13) (T := TX13) (N := 124) hx hb ht xiX13 tyX13 tyX13_ok nmX13 hown hK hP hD hS 0 rfl rfl 104 (by decide) (ht _ xw_146) (fun _ h9 => h9) rfl (by decide +kernel) rfl rfl (by first | (rw [fsN_len]; omega) | omega) xdX13_show_7 (fun H locs hP hD hS => ?_)
  have hP : va_P (dC, dI) vwCl [(h0, .inr (16, fsN (fs.set 0 (.int 0)) 0)), (sa, .inl (cI, 60, .inl f))] H := hP
  have hD : va_D A [(h0, .inr (16, fsN (fs.set 0 (.int 0)) 0)), (sa, .inl (cI, 60, .inl f))] := hD
  refine lv_iload_n hx hb xdX13_show_10 rfl (lv_at hl 1 rfl) ?_
  refine ca_q (wr := [(h0, .inr (16, fsN (fs.set 0 (.int 0)) 0)), (sa, .inl (cI, 60, .inl f))]) (rn_S (n := 1) (As := [.int w]) (rest := []) hx hb hml hown ht hKK hFx hP hD hS hA (c_sx_nameOf l dC dI cI cB cZ cJ cR tb H.size w) xw_161 xw_162 (by decide +kernel) rfl rfl ⟨Nat.le_of_ble_eq_true rfl, Nat.le_of_ble_eq_true rfl⟩ [] rfl (by decide) rfl hl.1 rfl (Nat.le_of_ble_eq_true rfl) xdX13_show_11 ⟨Nat.le_of_ble_eq_true rfl, Nat.le_of_ble_eq_true rfl⟩) hP hD hS hA (isC := []) (isR := [0, 1]) rfl rfl (by decide) (by decide) (fun r2 u H locs hw1 hP hD hS => ?_)
  subst hw1
  have hP : va_P (dC, dI) vwCl [(h0, .inr (16, fsN (fs.set 0 (.int 0)) 0)), (sa, .inl (cI, 60, .inl f))] H := hP
  have hD : va_D A [(h0, .inr (16, fsN (fs.set 0 (.int 0)) 0)), (sa, .inl (cI, 60, .inl f))] := hD
  refine W.widen (k := 4) (n := 32) (by omega) (by omega) ?_
  rcases hnm : nmI w with _ | i
  · refine W.eq (g2 := F0 m9 14 ls [.null]) rfl ?_
    refine lv_astore_nN (lv' := [(2, .null), (0, .ref h0), (1, .int w)]) hx hb xdX13_show_14 rfl hl (by decide) rfl (fun ls hl => ?_)
    refine lv_aload_nN hx hb xdX13_show_15 rfl (lv_at hl 0 rfl) ?_
    refine lv_ifnonnullN hx hb xdX13_show_16 ?_
    refine lv_aload_n hx hb xdX13_show_19 rfl (lv_at hl 1 rfl) ?_
    refine va_ldcSW hx hb hown (st_ hKK 65 (own := RX13) (idx := 797) (tx := "word 0x") (n := 65) rfl) xdX13_show_20 ?_
    have hlen65 : lenS.getD 65 0 = 7 := by decide
    refine ca_v (wr := []) (rn_V (n := 1) (As := [.ref (tb (100 + 65))]) (rest := []) hx hb hml hown ht hKK hFx hP hD hS hA (c_sx_words l dC dI cI cB cZ cJ cR tb H.size h0 sa 0 (fs.set 0 (.int 0)) f 65 (by first | assumption | omega | rfl | exact sb_fit0) (by first | assumption | omega | rfl | exact sb_fit0) (by first | assumption | omega | rfl | exact sb_fit0) (by first | assumption | omega | rfl | exact sb_fit0)) xw_163 xw_164 (by decide +kernel) rfl rfl ⟨Nat.le_of_ble_eq_true rfl, Nat.le_of_ble_eq_true rfl⟩ [0, 1] rfl (by decide) rfl rfl rfl rfl hl.1 rfl (Nat.le_of_ble_eq_true rfl) xdX13_show_23 ⟨Nat.le_of_ble_eq_true rfl, Nat.le_of_ble_eq_true rfl⟩) hP hD hS hA (isC := [0, 1]) (isR := []) rfl rfl (by decide) (by decide) (fun u H locs hw3 hP hD hS => ?_)
    obtain ⟨z5, f6⟩ := u
    obtain ⟨g7, g8⟩ := hw3
    have g7 : z5 = 0 + lenS.getD 65 0 := g7
    have g8 : TA f 0 f6 z5 (smT 65 (lenS.getD 65 0)) := g8
    have hP : va_P (dC, dI) vwCl [(h0, .inr (16, fsN (fs.set 0 (.int 0)) z5)), (sa, .inl (cI, 60, .inl f6))] H := hP
    have hD : va_D A [(h0, .inr (16, fsN (fs.set 0 (.int 0)) z5)), (sa, .inl (cI, 60, .inl f6))] := hD
    refine W.widen (k := 4) (n := 32) (by omega) (by omega) ?_
    refine lv_bipush (v := 28) hx hb xdX13_show_26 (by decide) ?_
    refine lv_istore_n (lv' := [(3, .int 28), (2, .null), (0, .ref h0), (1, .int w)]) hx hb xdX13_show_28 rfl hl (by decide) rfl (fun ls hl => ?_)
    refine lp_ (P := fun (i9 : Nat) (H : Heap) (locs : List Loc) (ls : Array Slot) => ∃ (kX : Nat) (fX : Nat → Int32), kX = 7 + i9 ∧ TA f 0 fX kX (smT 65 7 ++ hyT 11 (fun i9 => (w >>> ((shH i9) &&& 31))) i9) ∧ va_P (dC, dI) vwCl [(h0, .inr (16, fsN (fs.set 0 (.int 0)) kX)), (sa, .inl (cI, 60, .inl fX))] H ∧ va_D A [(h0, .inr (16, fsN (fs.set 0 (.int 0)) kX)), (sa, .inl (cI, 60, .inl fX))] ∧ va_S A s.heap H locs ∧ lv_has ls 8 [(3, .int (shH i9)), (0, .ref h0), (1, .int w)]) 29 8 (fun i9 H locs ls hi9 hq9 ih9 => ?_) (fun H locs ls hq9 => ?_) 0 _ _ _ (by omega) ⟨z5, f6, by omega, (TA.eq g8 (List.append_nil _).symm), hP, hD, hS, lv_sub hl [0, 2, 3] rfl⟩
    · obtain ⟨kX, fX, hkX, hTX, hP, hD, hS, hl⟩ := hq9
      refine lv_iload_n hx hb xdX13_show_29 rfl (lv_at hl 0 rfl) ?_
      refine lv_if_lt (tgt := 55) hx hb xdX13_show_30 (by decide) (fun k9 => absurd k9 (shH_r i9 hi9).1) (fun _ => ?_)
      refine lv_aload_n hx hb xdX13_show_33 rfl (lv_at hl 1 rfl) ?_
      refine va_ldcSW hx hb hown (st_ hKK 66 (own := RX13) (idx := 802) (tx := "0123456789abcdef") (n := 11) rfl) xdX13_show_34 ?_
      refine lv_iload_n hx hb xdX13_show_37 rfl (lv_at hl 2 rfl) ?_
      refine lv_iload_n hx hb xdX13_show_38 rfl (lv_at hl 0 rfl) ?_
      refine lv_ishr hx hb xdX13_show_39 ?_
      refine lv_bipush (v := 15) hx hb xdX13_show_40 (by decide) ?_
      refine lv_iand hx hb xdX13_show_42 ?_
      obtain ⟨j10, hj10, ej11⟩ := pk_andE (w >>> ((shH i9) &&& 31)) (m := 15) 4 (by decide)
      refine tp_i (y := (nI j10)) (ej11) ?_
      have hlen11 : lenS.getD 11 0 = 16 := by decide
      refine ca_i (wr := [(h0, .inr (16, fsN (fs.set 0 (.int 0)) kX)), (sa, .inl (cI, 60, .inl fX))]) (rn_VS (n := 1) (As := [.int (nI j10)]) (rest := [.ref h0]) hx hb hml hown ht hKK hFx hP hD hS hA (i := 11) (by decide) (c_sx_charAt l dC dI cI cB cZ cJ cR tb H.size 11 j10 (by first | assumption | omega | rfl | exact sb_fit0) (by first | assumption | omega | rfl | exact sb_fit0) (by first | assumption | omega | rfl | exact sb_fit0)) xw_115 xw_148 (by decide +kernel) rfl rfl ⟨Nat.le_of_ble_eq_true rfl, Nat.le_of_ble_eq_true rfl⟩ [] rfl (by decide) rfl hl.1 rfl (Nat.le_of_ble_eq_true rfl) xdX13_show_43 ⟨Nat.le_of_ble_eq_true rfl, Nat.le_of_ble_eq_true rfl⟩) hP hD hS hA (isC := []) (isR := [0, 1]) rfl rfl (by decide) (by decide) (fun r13 u H locs hw12 hP hD hS => ?_)
      subst hw12
      have hP : va_P (dC, dI) vwCl [(h0, .inr (16, fsN (fs.set 0 (.int 0)) kX)), (sa, .inl (cI, 60, .inl fX))] H := hP
      have hD : va_D A [(h0, .inr (16, fsN (fs.set 0 (.int 0)) kX)), (sa, .inl (cI, 60, .inl fX))] := hD
      refine W.widen (k := 4) (n := 32) (by omega) (by omega) ?_
      refine ca_v (wr := []) (rn_V (n := 1) (As := [.int (nI (chN 11 j10))]) (rest := []) hx hb hml hown ht hKK hFx hP hD hS hA (c_sx_sign l dC dI cI cB cZ cJ cR tb H.size h0 sa kX (fs.set 0 (.int 0)) fX (nI (chN 11 j10)) (by first | assumption | omega | rfl | exact sb_fit0) (by first | assumption | omega | rfl | exact sb_fit0) (by first | assumption | omega | rfl | exact sb_fit0)) xw_149 xw_150 (by decide +kernel) rfl rfl ⟨Nat.le_of_ble_eq_true rfl, Nat.le_of_ble_eq_true rfl⟩ [0, 1] rfl (by decide) rfl rfl rfl rfl hl.1 rfl (Nat.le_of_ble_eq_true rfl) xdX13_show_46 ⟨Nat.le_of_ble_eq_true rfl, Nat.le_of_ble_eq_true rfl⟩) hP hD hS hA (isC := [0, 1]) (isR := []) rfl rfl (by decide) (by decide) (fun u H locs hw14 hP hD hS => ?_)
      obtain ⟨z16, f17⟩ := u
      obtain ⟨g18, g19⟩ := hw14
      have g18 : z16 = kX + 1 := g18
      have g19 : TA fX kX f17 z16 ([(nI (chN 11 j10))]) := g19
      have hP : va_P (dC, dI) vwCl [(h0, .inr (16, fsN (fs.set 0 (.int 0)) z16)), (sa, .inl (cI, 60, .inl f17))] H := hP
      have hD : va_D A [(h0, .inr (16, fsN (fs.set 0 (.int 0)) z16)), (sa, .inl (cI, 60, .inl f17))] := hD
      refine W.widen (k := 4) (n := 32) (by omega) (by omega) ?_
      refine lv_iinc (v := ((shH i9) + (-4))) (lv' := [(3, .int ((shH i9) + (-4))), (0, .ref h0), (1, .int w)]) hx hb xdX13_show_49 hl (k := 0) rfl (rfl) (by decide) rfl (fun ls hl => ?_)
      refine lv_goto (tgt := 29) hx hb xdX13_show_52 (by decide) ?_
      exact ih9 _ _ _ ⟨z16, f17, by omega, (TA.eq (TA.tr hTX g19) (by show _ = smT 65 7 ++ (hyT 11 (fun i9 => (w >>> ((shH i9) &&& 31))) i9 ++ [nI (chN 11 ((((w >>> ((shH i9) &&& 31))) &&& 15).toNatClampNeg))]); rw [ej11, nI_clamp (by omega), List.append_assoc])), hP, hD, hS, by rw [← (shH_r i9 hi9).2]; exact lv_sub hl [0, 1, 2] rfl⟩
    · obtain ⟨kX, fX, hkX, hTX, hP, hD, hS, hl⟩ := hq9
      refine lv_iload_n hx hb xdX13_show_29 rfl (lv_at hl 0 rfl) ?_
      refine lv_if_lt (tgt := 55) hx hb xdX13_show_30 (by decide) (fun _ => ?_) (fun k20 => absurd shH_8 k20)
      refine lv_aload_n hx hb xdX13_show_55 rfl (lv_at hl 1 rfl) ?_
      refine va_get (D := (dC, dI)) (ci := 16) (v := .int (nI kX)) (C := RX13) (T := TX13) (N := 124) hx hb ht xiX13 hown hK hP 0 rfl rfl 104 (by decide) (ht _ xw_146) (fun _ h9 => h9) (fsN_n hln) xdX13_show_56 ?_
      have hP9 := hP.sub (ws' := [(h0, .inr (16, fsN (fs.set 0 (.int 0)) kX)), (sa, .inl (cI, 60, .inl fX))]) [0, 1] rfl
      have hD9 := hD.sub (ws' := [(h0, .inr (16, fsN (fs.set 0 (.int 0)) kX)), (sa, .inl (cI, 60, .inl fX))]) [0, 1] (by decide) rfl
      refine W.widen (k := 4) (n := 32) (by omega) (by omega) ?_
      exact W.iret (v := (nI kX)) hx hb hr (fun t ht9 hW => ⟨⟨(nI kX), (kX, fX), rfl, ⟨(by first | omega | (dsimp only; omega)), (congrArg nI (by unfold lenM; rw [hnm]; dsimp only; omega)), (TA.eq hTX (by unfold tM; rw [hnm]; rfl))⟩, by rw [ht9]; exact hP9, hD9⟩, hS.F ht9⟩) hS.2.2 xdX13_show_59
  · refine W.eq (g2 := F0 m9 14 ls [.ref (tb (100 + i))]) rfl ?_
    obtain ⟨hi, hilen⟩ := nmI_ok w i hnm
    refine lv_astore_n (lv' := [(2, .ref (tb (100 + i))), (0, .ref h0), (1, .int w)]) hx hb xdX13_show_14 rfl hl (by decide) rfl (fun ls hl => ?_)
    refine lv_aload_n hx hb xdX13_show_15 rfl (lv_at hl 0 rfl) ?_
    refine lv_ifnonnull (tgt := 60) hx hb xdX13_show_16 (by decide) ?_
    refine lv_aload_n hx hb xdX13_show_60 rfl (lv_at hl 1 rfl) ?_
    refine lv_aload_n hx hb xdX13_show_61 rfl (lv_at hl 0 rfl) ?_
    refine ca_v (wr := []) (rn_V (n := 1) (As := [.ref (tb (100 + i))]) (rest := []) hx hb hml hown ht hKK hFx hP hD hS hA (c_sx_words l dC dI cI cB cZ cJ cR tb H.size h0 sa 0 (fs.set 0 (.int 0)) f i (by first | assumption | omega | rfl | exact sb_fit0) (by first | assumption | omega | rfl | exact sb_fit0) (by first | assumption | omega | rfl | exact sb_fit0) (by first | assumption | omega | rfl | exact sb_fit0)) xw_163 xw_164 (by decide +kernel) rfl rfl ⟨Nat.le_of_ble_eq_true rfl, Nat.le_of_ble_eq_true rfl⟩ [0, 1] rfl (by decide) rfl rfl rfl rfl hl.1 rfl (Nat.le_of_ble_eq_true rfl) xdX13_show_62 ⟨Nat.le_of_ble_eq_true rfl, Nat.le_of_ble_eq_true rfl⟩) hP hD hS hA (isC := [0, 1]) (isR := []) rfl rfl (by decide) (by decide) (fun u H locs hw21 hP hD hS => ?_)
    obtain ⟨z23, f24⟩ := u
    obtain ⟨g25, g26⟩ := hw21
    have g25 : z23 = 0 + lenS.getD i 0 := g25
    have g26 : TA f 0 f24 z23 (smT i (lenS.getD i 0)) := g26
    have hP : va_P (dC, dI) vwCl [(h0, .inr (16, fsN (fs.set 0 (.int 0)) z23)), (sa, .inl (cI, 60, .inl f24))] H := hP
    have hD : va_D A [(h0, .inr (16, fsN (fs.set 0 (.int 0)) z23)), (sa, .inl (cI, 60, .inl f24))] := hD
    refine W.widen (k := 4) (n := 32) (by omega) (by omega) ?_
    refine lv_iload_n hx hb xdX13_show_65 rfl (lv_at hl 2 rfl) ?_
    refine lv_bipush (v := 7) hx hb xdX13_show_66 (by decide) ?_
    refine lv_ishr hx hb xdX13_show_68 ?_
    refine lv_bipush (v := 31) hx hb xdX13_show_69 (by decide) ?_
    refine lv_iand hx hb xdX13_show_71 ?_
    refine lv_istore_n (lv' := [(3, .int ((w >>> (7 &&& 31)) &&& 31)), (2, .ref (tb (100 + i))), (0, .ref h0), (1, .int w)]) hx hb xdX13_show_72 rfl hl (by decide) rfl (fun ls hl => ?_)
    refine lv_iload_n hx hb xdX13_show_73 rfl (lv_at hl 3 rfl) ?_
    refine lv_bipush (v := 15) hx hb xdX13_show_74 (by decide) ?_
    refine lv_ishr hx hb xdX13_show_76 ?_
    refine lv_bipush (v := 31) hx hb xdX13_show_77 (by decide) ?_
    refine lv_iand hx hb xdX13_show_79 ?_
    refine lv_istore (lv' := [(4, .int ((w >>> (15 &&& 31)) &&& 31)), (3, .int ((w >>> (7 &&& 31)) &&& 31)), (2, .ref (tb (100 + i))), (0, .ref h0), (1, .int w)]) hx hb xdX13_show_80 hl (by decide) rfl (fun ls hl => ?_)
    refine lv_iload_n hx hb xdX13_show_82 rfl (lv_at hl 4 rfl) ?_
    refine lv_bipush (v := 20) hx hb xdX13_show_83 (by decide) ?_
    refine lv_ishr hx hb xdX13_show_85 ?_
    refine lv_bipush (v := 31) hx hb xdX13_show_86 (by decide) ?_
    refine lv_iand hx hb xdX13_show_88 ?_
    refine lv_istore (lv' := [(5, .int ((w >>> (20 &&& 31)) &&& 31)), (4, .int ((w >>> (15 &&& 31)) &&& 31)), (3, .int ((w >>> (7 &&& 31)) &&& 31)), (2, .ref (tb (100 + i))), (0, .ref h0), (1, .int w)]) hx hb xdX13_show_89 hl (by decide) rfl (fun ls hl => ?_)
    refine lv_iload_n hx hb xdX13_show_91 rfl (lv_at hl 5 rfl) ?_
    refine lv_bipush (v := 12) hx hb xdX13_show_92 (by decide) ?_
    refine lv_ishr hx hb xdX13_show_94 ?_
    refine lv_bipush (v := 7) hx hb xdX13_show_95 (by decide) ?_
    refine lv_iand hx hb xdX13_show_97 ?_
    refine lv_istore (lv' := [(6, .int ((w >>> (12 &&& 31)) &&& 7)), (5, .int ((w >>> (20 &&& 31)) &&& 31)), (4, .int ((w >>> (15 &&& 31)) &&& 31)), (3, .int ((w >>> (7 &&& 31)) &&& 31)), (2, .ref (tb (100 + i))), (0, .ref h0), (1, .int w)]) hx hb xdX13_show_98 hl (by decide) rfl (fun ls hl => ?_)
    refine lv_iload_n hx hb xdX13_show_100 rfl (lv_at hl 6 rfl) ?_
    refine lv_bipush (v := 127) hx hb xdX13_show_101 (by decide) ?_
    refine lv_iand hx hb xdX13_show_103 ?_
    refine lv_istore (lv' := [(7, .int (w &&& 127)), (6, .int ((w >>> (12 &&& 31)) &&& 7)), (5, .int ((w >>> (20 &&& 31)) &&& 31)), (4, .int ((w >>> (15 &&& 31)) &&& 31)), (3, .int ((w >>> (7 &&& 31)) &&& 31)), (2, .ref (tb (100 + i))), (0, .ref h0), (1, .int w)]) hx hb xdX13_show_104 hl (by decide) rfl (fun ls hl => ?_)
    refine lv_iload hx hb xdX13_show_106 (lv_at hl 0 rfl) ?_
    refine lv_bipush (v := 15) hx hb xdX13_show_108 (by decide) ?_
    refine lv_icmp_eq (tgt := 120) hx hb xdX13_show_110 (by decide) (fun h27 => ?_) (fun h27 => ?_)
    · refine lv_aload_n hx hb xdX13_show_120 rfl (lv_at hl 6 rfl) ?_
      refine va_get (D := (dC, dI)) (ci := 16) (v := .int (nI z23)) (C := RX13) (T := TX13) (N := 124) hx hb ht xiX13 hown hK hP 0 rfl rfl 104 (by decide) (ht _ xw_146) (fun _ h9 => h9) (fsN_n hln) xdX13_show_121 ?_
      have hP9 := hP.sub (ws' := [(h0, .inr (16, fsN (fs.set 0 (.int 0)) z23)), (sa, .inl (cI, 60, .inl f24))]) [0, 1] rfl
      have hD9 := hD.sub (ws' := [(h0, .inr (16, fsN (fs.set 0 (.int 0)) z23)), (sa, .inl (cI, 60, .inl f24))]) [0, 1] (by decide) rfl
      refine W.widen (k := 4) (n := 32) (by omega) (by omega) ?_
      exact W.iret (v := (nI z23)) hx hb hr (fun t ht9 hW => ⟨⟨(nI z23), (z23, f24), rfl, ⟨(by first | omega | (dsimp only; omega)), (congrArg nI (by unfold lenM opM; rw [hnm]; dsimp only; rw [if_pos h27]; omega)), (TA.eq (TA.eq g26 (List.append_nil _).symm) (by unfold tM opMT; rw [hnm]; dsimp only; rw [if_pos h27]))⟩, by rw [ht9]; exact hP9, hD9⟩, hS.F ht9⟩) hS.2.2 xdX13_show_124
    · refine lv_iload hx hb xdX13_show_113 (lv_at hl 0 rfl) ?_
      refine lv_bipush (v := 115) hx hb xdX13_show_115 (by decide) ?_
      refine lv_icmp_ne (tgt := 125) hx hb xdX13_show_117 (by decide) (fun h28 => ?_) (fun h28 => ?_)
      · refine lv_aload_n hx hb xdX13_show_125 rfl (lv_at hl 6 rfl) ?_
        refine lv_bipush (v := 32) hx hb xdX13_show_126 (by decide) ?_
        refine ca_v (wr := []) (rn_V (n := 1) (As := [.int 32]) (rest := []) hx hb hml hown ht hKK hFx hP hD hS hA (c_sx_sign l dC dI cI cB cZ cJ cR tb H.size h0 sa z23 (fs.set 0 (.int 0)) f24 32 (by first | assumption | omega | rfl | exact sb_fit0) (by first | assumption | omega | rfl | exact sb_fit0) (by first | assumption | omega | rfl | exact sb_fit0)) xw_149 xw_150 (by decide +kernel) rfl rfl ⟨Nat.le_of_ble_eq_true rfl, Nat.le_of_ble_eq_true rfl⟩ [0, 1] rfl (by decide) rfl rfl rfl rfl hl.1 rfl (Nat.le_of_ble_eq_true rfl) xdX13_show_128 ⟨Nat.le_of_ble_eq_true rfl, Nat.le_of_ble_eq_true rfl⟩) hP hD hS hA (isC := [0, 1]) (isR := []) rfl rfl (by decide) (by decide) (fun u H locs hw29 hP hD hS => ?_)
        obtain ⟨z31, f32⟩ := u
        obtain ⟨g33, g34⟩ := hw29
        have g33 : z31 = z23 + 1 := g33
        have g34 : TA f24 z23 f32 z31 ([32]) := g34
        have hP : va_P (dC, dI) vwCl [(h0, .inr (16, fsN (fs.set 0 (.int 0)) z31)), (sa, .inl (cI, 60, .inl f32))] H := hP
        have hD : va_D A [(h0, .inr (16, fsN (fs.set 0 (.int 0)) z31)), (sa, .inl (cI, 60, .inl f32))] := hD
        refine W.widen (k := 4) (n := 32) (by omega) (by omega) ?_
        refine lv_iload hx hb xdX13_show_131 (lv_at hl 0 rfl) ?_
        by_cases h35 : (w &&& 127) = 3
        · refine lv_lookup (off := 115) (tgt := 248) hx hb xdX13_show_133 (by decide) (by rw [h35]; decide) (by decide) ?_
          refine lv_aload_n hx hb xdX13_show_248 rfl (lv_at hl 6 rfl) ?_
          refine lv_iload_n hx hb xdX13_show_249 rfl (lv_at hl 4 rfl) ?_
          have hd36 := dl_31 (w >>> (7 &&& 31))
          have hd37 := dl_le ((w >>> (7 &&& 31)) &&& 31)
          refine ca_v (wr := []) (rn_V (n := 1) (As := [.int ((w >>> (7 &&& 31)) &&& 31)]) (rest := []) hx hb hml hown ht hKK hFx hP hD hS hA (c_sx_nam l dC dI cI cB cZ cJ cR tb H.size h0 sa z31 (fs.set 0 (.int 0)) f32 ((w >>> (7 &&& 31)) &&& 31) (by first | assumption | omega | rfl | exact sb_fit0) (by first | assumption | omega | rfl | exact sb_fit0) (by first | assumption | omega | rfl | exact sb_fit0)) xw_154 xw_155 (by decide +kernel) rfl rfl ⟨Nat.le_of_ble_eq_true rfl, Nat.le_of_ble_eq_true rfl⟩ [0, 1] rfl (by decide) rfl rfl rfl rfl hl.1 rfl (Nat.le_of_ble_eq_true rfl) xdX13_show_250 ⟨Nat.le_of_ble_eq_true rfl, Nat.le_of_ble_eq_true rfl⟩) hP hD hS hA (isC := [0, 1]) (isR := []) rfl rfl (by decide) (by decide) (fun u H locs hw38 hP hD hS => ?_)
          obtain ⟨z40, f41⟩ := u
          obtain ⟨g42, g43⟩ := hw38
          have g42 : z40 = z31 + 1 + dl ((w >>> (7 &&& 31)) &&& 31) := g42
          have g43 : TA f32 z31 f41 z40 (rgM ((w >>> (7 &&& 31)) &&& 31)) := g43
          have hP : va_P (dC, dI) vwCl [(h0, .inr (16, fsN (fs.set 0 (.int 0)) z40)), (sa, .inl (cI, 60, .inl f41))] H := hP
          have hD : va_D A [(h0, .inr (16, fsN (fs.set 0 (.int 0)) z40)), (sa, .inl (cI, 60, .inl f41))] := hD
          refine W.widen (k := 4) (n := 32) (by omega) (by omega) ?_
          refine lv_aload_n hx hb xdX13_show_253 rfl (lv_at hl 6 rfl) ?_
          refine ca_v (wr := []) (rn_V (n := 0) (As := []) (rest := []) hx hb hml hown ht hKK hFx hP hD hS hA (c_sx_com l dC dI cI cB cZ cJ cR tb H.size h0 sa z40 (fs.set 0 (.int 0)) f41 (by first | assumption | omega | rfl | exact sb_fit0) (by first | assumption | omega | rfl | exact sb_fit0) (by first | assumption | omega | rfl | exact sb_fit0)) xw_156 xw_157 (by decide +kernel) rfl rfl ⟨Nat.le_of_ble_eq_true rfl, Nat.le_of_ble_eq_true rfl⟩ [0, 1] rfl (by decide) rfl rfl rfl rfl hl.1 rfl (Nat.le_of_ble_eq_true rfl) xdX13_show_254 ⟨Nat.le_of_ble_eq_true rfl, Nat.le_of_ble_eq_true rfl⟩) hP hD hS hA (isC := [0, 1]) (isR := []) rfl rfl (by decide) (by decide) (fun u H locs hw44 hP hD hS => ?_)
          obtain ⟨z46, f47⟩ := u
          obtain ⟨g48, g49⟩ := hw44
          have g48 : z46 = z40 + 2 := g48
          have g49 : TA f41 z40 f47 z46 (coM) := g49
          have hP : va_P (dC, dI) vwCl [(h0, .inr (16, fsN (fs.set 0 (.int 0)) z46)), (sa, .inl (cI, 60, .inl f47))] H := hP
          have hD : va_D A [(h0, .inr (16, fsN (fs.set 0 (.int 0)) z46)), (sa, .inl (cI, 60, .inl f47))] := hD
          refine W.widen (k := 4) (n := 32) (by omega) (by omega) ?_
          refine lv_aload_n hx hb xdX13_show_257 rfl (lv_at hl 6 rfl) ?_
          refine lv_iload_n hx hb xdX13_show_258 rfl (lv_at hl 7 rfl) ?_
          refine lv_bipush (v := 20) hx hb xdX13_show_259 (by decide) ?_
          refine lv_ishr hx hb xdX13_show_261 ?_
          refine lv_iload hx hb xdX13_show_262 (lv_at hl 3 rfl) ?_
          have hd50 := dl_le (w >>> (20 &&& 31))
          have hd51 := dl_31 (w >>> (15 &&& 31))
          have hd52 := dl_le ((w >>> (15 &&& 31)) &&& 31)
          refine ca_v (wr := []) (rn_V (n := 2) (As := [.int (w >>> (20 &&& 31)), .int ((w >>> (15 &&& 31)) &&& 31)]) (rest := []) hx hb hml hown ht hKK hFx hP hD hS hA (c_sx_at l dC dI cI cB cZ cJ cR tb H.size h0 sa z46 (fs.set 0 (.int 0)) f47 (w >>> (20 &&& 31)) ((w >>> (15 &&& 31)) &&& 31) (by first | assumption | omega | rfl | exact sb_fit0) (by first | assumption | omega | rfl | exact sb_fit0) (by first | assumption | omega | rfl | exact sb_fit0)) xw_165 xw_166 (by decide +kernel) rfl rfl ⟨Nat.le_of_ble_eq_true rfl, Nat.le_of_ble_eq_true rfl⟩ [0, 1] rfl (by decide) rfl rfl rfl rfl hl.1 rfl (Nat.le_of_ble_eq_true rfl) xdX13_show_264 ⟨Nat.le_of_ble_eq_true rfl, Nat.le_of_ble_eq_true rfl⟩) hP hD hS hA (isC := [0, 1]) (isR := []) rfl rfl (by decide) (by decide) (fun u H locs hw53 hP hD hS => ?_)
          obtain ⟨z55, f56⟩ := u
          obtain ⟨g57, g58⟩ := hw53
          have g57 : z55 = z46 + (dl (w >>> (20 &&& 31)) + 1 + (1 + dl ((w >>> (15 &&& 31)) &&& 31)) + 1) := g57
          have g58 : TA f47 z46 f56 z55 (atM (w >>> (20 &&& 31)) ((w >>> (15 &&& 31)) &&& 31)) := g58
          have hP : va_P (dC, dI) vwCl [(h0, .inr (16, fsN (fs.set 0 (.int 0)) z55)), (sa, .inl (cI, 60, .inl f56))] H := hP
          have hD : va_D A [(h0, .inr (16, fsN (fs.set 0 (.int 0)) z55)), (sa, .inl (cI, 60, .inl f56))] := hD
          refine W.widen (k := 4) (n := 32) (by omega) (by omega) ?_
          refine lv_goto (tgt := 364) hx hb xdX13_show_267 (by decide) ?_
          refine lv_aload_n hx hb xdX13_show_364 rfl (lv_at hl 6 rfl) ?_
          refine va_get (D := (dC, dI)) (ci := 16) (v := .int (nI z55)) (C := RX13) (T := TX13) (N := 124) hx hb ht xiX13 hown hK hP 0 rfl rfl 104 (by decide) (ht _ xw_146) (fun _ h9 => h9) (fsN_n hln) xdX13_show_365 ?_
          have hP9 := hP.sub (ws' := [(h0, .inr (16, fsN (fs.set 0 (.int 0)) z55)), (sa, .inl (cI, 60, .inl f56))]) [0, 1] rfl
          have hD9 := hD.sub (ws' := [(h0, .inr (16, fsN (fs.set 0 (.int 0)) z55)), (sa, .inl (cI, 60, .inl f56))]) [0, 1] (by decide) rfl
          refine W.widen (k := 4) (n := 32) (by omega) (by omega) ?_
          exact W.iret (v := (nI z55)) hx hb hr (fun t ht9 hW => ⟨⟨(nI z55), (z55, f56), rfl, ⟨(by first | omega | (dsimp only; omega)), (congrArg nI (by unfold lenM opM; rw [hnm]; dsimp only; rw [if_neg h27, if_neg h28, if_pos h35]; omega)), (TA.eq (TA.tr g26 (TA.tr (TA.tr (TA.tr g34 g43) g49) g58)) (by unfold tM opMT; rw [hnm]; dsimp only; rw [if_neg h27, if_neg h28, if_pos h35]))⟩, by rw [ht9]; exact hP9, hD9⟩, hS.F ht9⟩) hS.2.2 xdX13_show_368
        ·
          by_cases h59 : (w &&& 127) = 19
          · refine lv_lookup (off := 183) (tgt := 316) hx hb xdX13_show_133 (by decide) (by rw [h59]; decide) (by decide) ?_
            refine lv_aload_n hx hb xdX13_show_316 rfl (lv_at hl 6 rfl) ?_
            refine lv_iload_n hx hb xdX13_show_317 rfl (lv_at hl 4 rfl) ?_
            refine lv_iload hx hb xdX13_show_318 (lv_at hl 3 rfl) ?_
            have hd60 := dl_31 (w >>> (7 &&& 31))
            have hd61 := dl_le ((w >>> (7 &&& 31)) &&& 31)
            have hd62 := dl_31 (w >>> (15 &&& 31))
            have hd63 := dl_le ((w >>> (15 &&& 31)) &&& 31)
            refine ca_v (wr := []) (rn_V (n := 2) (As := [.int ((w >>> (7 &&& 31)) &&& 31), .int ((w >>> (15 &&& 31)) &&& 31)]) (rest := []) hx hb hml hown ht hKK hFx hP hD hS hA (c_sx_thr l dC dI cI cB cZ cJ cR tb H.size h0 sa z31 (fs.set 0 (.int 0)) f32 ((w >>> (7 &&& 31)) &&& 31) ((w >>> (15 &&& 31)) &&& 31) (by first | assumption | omega | rfl | exact sb_fit0) (by first | assumption | omega | rfl | exact sb_fit0) (by first | assumption | omega | rfl | exact sb_fit0)) xw_167 xw_168 (by decide +kernel) rfl rfl ⟨Nat.le_of_ble_eq_true rfl, Nat.le_of_ble_eq_true rfl⟩ [0, 1] rfl (by decide) rfl rfl rfl rfl hl.1 rfl (Nat.le_of_ble_eq_true rfl) xdX13_show_320 ⟨Nat.le_of_ble_eq_true rfl, Nat.le_of_ble_eq_true rfl⟩) hP hD hS hA (isC := [0, 1]) (isR := []) rfl rfl (by decide) (by decide) (fun u H locs hw64 hP hD hS => ?_)
            obtain ⟨z66, f67⟩ := u
            obtain ⟨g68, g69⟩ := hw64
            have g68 : z66 = z31 + (1 + dl ((w >>> (7 &&& 31)) &&& 31) + 2 + (1 + dl ((w >>> (15 &&& 31)) &&& 31)) + 2) := g68
            have g69 : TA f32 z31 f67 z66 (thM ((w >>> (7 &&& 31)) &&& 31) ((w >>> (15 &&& 31)) &&& 31)) := g69
            have hP : va_P (dC, dI) vwCl [(h0, .inr (16, fsN (fs.set 0 (.int 0)) z66)), (sa, .inl (cI, 60, .inl f67))] H := hP
            have hD : va_D A [(h0, .inr (16, fsN (fs.set 0 (.int 0)) z66)), (sa, .inl (cI, 60, .inl f67))] := hD
            refine W.widen (k := 4) (n := 32) (by omega) (by omega) ?_
            refine lv_aload_n hx hb xdX13_show_323 rfl (lv_at hl 6 rfl) ?_
            refine lv_iload hx hb xdX13_show_324 (lv_at hl 1 rfl) ?_
            refine lv_iconst (v := 1) hx hb xdX13_show_326 (by decide) ?_
            refine lv_icmp_eq (tgt := 336) hx hb xdX13_show_327 (by decide) (fun h70 => ?_) (fun h70 => ?_)
            · refine lv_iload hx hb xdX13_show_336 (lv_at hl 2 rfl) ?_
              refine lv_goto (tgt := 345) hx hb xdX13_show_338 (by decide) ?_
              have hd71 := dl_31 (w >>> (20 &&& 31))
              have hd72 := dl_le ((w >>> (20 &&& 31)) &&& 31)
              refine ca_v (wr := []) (rn_V (n := 1) (As := [.int ((w >>> (20 &&& 31)) &&& 31)]) (rest := []) hx hb hml hown ht hKK hFx hP hD hS hA (c_sx_dec l dC dI cI cB cZ cJ cR tb H.size h0 sa z66 (fs.set 0 (.int 0)) f67 ((w >>> (20 &&& 31)) &&& 31) (by first | assumption | omega | rfl | exact sb_fit0) (by first | assumption | omega | rfl | exact sb_fit0) (by first | assumption | omega | rfl | exact sb_fit0)) xw_152 xw_153 (by decide +kernel) rfl rfl ⟨Nat.le_of_ble_eq_true rfl, Nat.le_of_ble_eq_true rfl⟩ [0, 1] rfl (by decide) rfl rfl rfl rfl hl.1 rfl (Nat.le_of_ble_eq_true rfl) xdX13_show_345 ⟨Nat.le_of_ble_eq_true rfl, Nat.le_of_ble_eq_true rfl⟩) hP hD hS hA (isC := [0, 1]) (isR := []) rfl rfl (by decide) (by decide) (fun u H locs hw73 hP hD hS => ?_)
              obtain ⟨z75, f76⟩ := u
              obtain ⟨g77, g78⟩ := hw73
              have g77 : z75 = z66 + dl ((w >>> (20 &&& 31)) &&& 31) := g77
              have g78 : TA f67 z66 f76 z75 (decT ((w >>> (20 &&& 31)) &&& 31)) := g78
              have hP : va_P (dC, dI) vwCl [(h0, .inr (16, fsN (fs.set 0 (.int 0)) z75)), (sa, .inl (cI, 60, .inl f76))] H := hP
              have hD : va_D A [(h0, .inr (16, fsN (fs.set 0 (.int 0)) z75)), (sa, .inl (cI, 60, .inl f76))] := hD
              refine W.widen (k := 4) (n := 32) (by omega) (by omega) ?_
              refine lv_goto (tgt := 364) hx hb xdX13_show_348 (by decide) ?_
              refine lv_aload_n hx hb xdX13_show_364 rfl (lv_at hl 6 rfl) ?_
              refine va_get (D := (dC, dI)) (ci := 16) (v := .int (nI z75)) (C := RX13) (T := TX13) (N := 124) hx hb ht xiX13 hown hK hP 0 rfl rfl 104 (by decide) (ht _ xw_146) (fun _ h9 => h9) (fsN_n hln) xdX13_show_365 ?_
              have hP9 := hP.sub (ws' := [(h0, .inr (16, fsN (fs.set 0 (.int 0)) z75)), (sa, .inl (cI, 60, .inl f76))]) [0, 1] rfl
              have hD9 := hD.sub (ws' := [(h0, .inr (16, fsN (fs.set 0 (.int 0)) z75)), (sa, .inl (cI, 60, .inl f76))]) [0, 1] (by decide) rfl
              refine W.widen (k := 4) (n := 32) (by omega) (by omega) ?_
              exact W.iret (v := (nI z75)) hx hb hr (fun t ht9 hW => ⟨⟨(nI z75), (z75, f76), rfl, ⟨(by first | omega | (dsimp only; omega)), (congrArg nI (by unfold lenM opM; rw [hnm]; dsimp only; rw [if_neg h27, if_neg h28, if_neg h35, if_pos h59, if_pos h70]; omega)), (TA.eq (TA.tr g26 (TA.tr (TA.tr g34 g69) g78)) (by unfold tM opMT; rw [hnm]; dsimp only; rw [if_neg h27, if_neg h28, if_neg h35, if_pos h59, if_pos h70]))⟩, by rw [ht9]; exact hP9, hD9⟩, hS.F ht9⟩) hS.2.2 xdX13_show_368
            · refine lv_iload hx hb xdX13_show_330 (lv_at hl 1 rfl) ?_
              refine lv_iconst (v := 5) hx hb xdX13_show_332 (by decide) ?_
              refine lv_icmp_ne (tgt := 341) hx hb xdX13_show_333 (by decide) (fun h79 => ?_) (fun h79 => ?_)
              · refine lv_iload_n hx hb xdX13_show_341 rfl (lv_at hl 7 rfl) ?_
                refine lv_bipush (v := 20) hx hb xdX13_show_342 (by decide) ?_
                refine lv_ishr hx hb xdX13_show_344 ?_
                have hd80 := dl_le (w >>> (20 &&& 31))
                refine ca_v (wr := []) (rn_V (n := 1) (As := [.int (w >>> (20 &&& 31))]) (rest := []) hx hb hml hown ht hKK hFx hP hD hS hA (c_sx_dec l dC dI cI cB cZ cJ cR tb H.size h0 sa z66 (fs.set 0 (.int 0)) f67 (w >>> (20 &&& 31)) (by first | assumption | omega | rfl | exact sb_fit0) (by first | assumption | omega | rfl | exact sb_fit0) (by first | assumption | omega | rfl | exact sb_fit0)) xw_152 xw_153 (by decide +kernel) rfl rfl ⟨Nat.le_of_ble_eq_true rfl, Nat.le_of_ble_eq_true rfl⟩ [0, 1] rfl (by decide) rfl rfl rfl rfl hl.1 rfl (Nat.le_of_ble_eq_true rfl) xdX13_show_345 ⟨Nat.le_of_ble_eq_true rfl, Nat.le_of_ble_eq_true rfl⟩) hP hD hS hA (isC := [0, 1]) (isR := []) rfl rfl (by decide) (by decide) (fun u H locs hw81 hP hD hS => ?_)
                obtain ⟨z83, f84⟩ := u
                obtain ⟨g85, g86⟩ := hw81
                have g85 : z83 = z66 + dl (w >>> (20 &&& 31)) := g85
                have g86 : TA f67 z66 f84 z83 (decT (w >>> (20 &&& 31))) := g86
                have hP : va_P (dC, dI) vwCl [(h0, .inr (16, fsN (fs.set 0 (.int 0)) z83)), (sa, .inl (cI, 60, .inl f84))] H := hP
                have hD : va_D A [(h0, .inr (16, fsN (fs.set 0 (.int 0)) z83)), (sa, .inl (cI, 60, .inl f84))] := hD
                refine W.widen (k := 4) (n := 32) (by omega) (by omega) ?_
                refine lv_goto (tgt := 364) hx hb xdX13_show_348 (by decide) ?_
                refine lv_aload_n hx hb xdX13_show_364 rfl (lv_at hl 6 rfl) ?_
                refine va_get (D := (dC, dI)) (ci := 16) (v := .int (nI z83)) (C := RX13) (T := TX13) (N := 124) hx hb ht xiX13 hown hK hP 0 rfl rfl 104 (by decide) (ht _ xw_146) (fun _ h9 => h9) (fsN_n hln) xdX13_show_365 ?_
                have hP9 := hP.sub (ws' := [(h0, .inr (16, fsN (fs.set 0 (.int 0)) z83)), (sa, .inl (cI, 60, .inl f84))]) [0, 1] rfl
                have hD9 := hD.sub (ws' := [(h0, .inr (16, fsN (fs.set 0 (.int 0)) z83)), (sa, .inl (cI, 60, .inl f84))]) [0, 1] (by decide) rfl
                refine W.widen (k := 4) (n := 32) (by omega) (by omega) ?_
                exact W.iret (v := (nI z83)) hx hb hr (fun t ht9 hW => ⟨⟨(nI z83), (z83, f84), rfl, ⟨(by first | omega | (dsimp only; omega)), (congrArg nI (by unfold lenM opM; rw [hnm]; dsimp only; rw [if_neg h27, if_neg h28, if_neg h35, if_pos h59, if_neg h70, if_neg h79]; omega)), (TA.eq (TA.tr g26 (TA.tr (TA.tr g34 g69) g86)) (by unfold tM opMT; rw [hnm]; dsimp only; rw [if_neg h27, if_neg h28, if_neg h35, if_pos h59, if_neg h70, if_neg h79]))⟩, by rw [ht9]; exact hP9, hD9⟩, hS.F ht9⟩) hS.2.2 xdX13_show_368
              · refine lv_iload hx hb xdX13_show_336 (lv_at hl 2 rfl) ?_
                refine lv_goto (tgt := 345) hx hb xdX13_show_338 (by decide) ?_
                have hd87 := dl_31 (w >>> (20 &&& 31))
                have hd88 := dl_le ((w >>> (20 &&& 31)) &&& 31)
                refine ca_v (wr := []) (rn_V (n := 1) (As := [.int ((w >>> (20 &&& 31)) &&& 31)]) (rest := []) hx hb hml hown ht hKK hFx hP hD hS hA (c_sx_dec l dC dI cI cB cZ cJ cR tb H.size h0 sa z66 (fs.set 0 (.int 0)) f67 ((w >>> (20 &&& 31)) &&& 31) (by first | assumption | omega | rfl | exact sb_fit0) (by first | assumption | omega | rfl | exact sb_fit0) (by first | assumption | omega | rfl | exact sb_fit0)) xw_152 xw_153 (by decide +kernel) rfl rfl ⟨Nat.le_of_ble_eq_true rfl, Nat.le_of_ble_eq_true rfl⟩ [0, 1] rfl (by decide) rfl rfl rfl rfl hl.1 rfl (Nat.le_of_ble_eq_true rfl) xdX13_show_345 ⟨Nat.le_of_ble_eq_true rfl, Nat.le_of_ble_eq_true rfl⟩) hP hD hS hA (isC := [0, 1]) (isR := []) rfl rfl (by decide) (by decide) (fun u H locs hw89 hP hD hS => ?_)
                obtain ⟨z91, f92⟩ := u
                obtain ⟨g93, g94⟩ := hw89
                have g93 : z91 = z66 + dl ((w >>> (20 &&& 31)) &&& 31) := g93
                have g94 : TA f67 z66 f92 z91 (decT ((w >>> (20 &&& 31)) &&& 31)) := g94
                have hP : va_P (dC, dI) vwCl [(h0, .inr (16, fsN (fs.set 0 (.int 0)) z91)), (sa, .inl (cI, 60, .inl f92))] H := hP
                have hD : va_D A [(h0, .inr (16, fsN (fs.set 0 (.int 0)) z91)), (sa, .inl (cI, 60, .inl f92))] := hD
                refine W.widen (k := 4) (n := 32) (by omega) (by omega) ?_
                refine lv_goto (tgt := 364) hx hb xdX13_show_348 (by decide) ?_
                refine lv_aload_n hx hb xdX13_show_364 rfl (lv_at hl 6 rfl) ?_
                refine va_get (D := (dC, dI)) (ci := 16) (v := .int (nI z91)) (C := RX13) (T := TX13) (N := 124) hx hb ht xiX13 hown hK hP 0 rfl rfl 104 (by decide) (ht _ xw_146) (fun _ h9 => h9) (fsN_n hln) xdX13_show_365 ?_
                have hP9 := hP.sub (ws' := [(h0, .inr (16, fsN (fs.set 0 (.int 0)) z91)), (sa, .inl (cI, 60, .inl f92))]) [0, 1] rfl
                have hD9 := hD.sub (ws' := [(h0, .inr (16, fsN (fs.set 0 (.int 0)) z91)), (sa, .inl (cI, 60, .inl f92))]) [0, 1] (by decide) rfl
                refine W.widen (k := 4) (n := 32) (by omega) (by omega) ?_
                exact W.iret (v := (nI z91)) hx hb hr (fun t ht9 hW => ⟨⟨(nI z91), (z91, f92), rfl, ⟨(by first | omega | (dsimp only; omega)), (congrArg nI (by unfold lenM opM; rw [hnm]; dsimp only; rw [if_neg h27, if_neg h28, if_neg h35, if_pos h59, if_neg h70, if_pos h79]; omega)), (TA.eq (TA.tr g26 (TA.tr (TA.tr g34 g69) g94)) (by unfold tM opMT; rw [hnm]; dsimp only; rw [if_neg h27, if_neg h28, if_neg h35, if_pos h59, if_neg h70, if_pos h79]))⟩, by rw [ht9]; exact hP9, hD9⟩, hS.F ht9⟩) hS.2.2 xdX13_show_368
          ·
            by_cases h95 : (w &&& 127) = 23
            · refine lv_lookup (off := 75) (tgt := 208) hx hb xdX13_show_133 (by decide) (by rw [h95]; decide) (by decide) ?_
              refine lv_aload_n hx hb xdX13_show_208 rfl (lv_at hl 6 rfl) ?_
              refine lv_iload_n hx hb xdX13_show_209 rfl (lv_at hl 4 rfl) ?_
              have hd96 := dl_31 (w >>> (7 &&& 31))
              have hd97 := dl_le ((w >>> (7 &&& 31)) &&& 31)
              refine ca_v (wr := []) (rn_V (n := 1) (As := [.int ((w >>> (7 &&& 31)) &&& 31)]) (rest := []) hx hb hml hown ht hKK hFx hP hD hS hA (c_sx_nam l dC dI cI cB cZ cJ cR tb H.size h0 sa z31 (fs.set 0 (.int 0)) f32 ((w >>> (7 &&& 31)) &&& 31) (by first | assumption | omega | rfl | exact sb_fit0) (by first | assumption | omega | rfl | exact sb_fit0) (by first | assumption | omega | rfl | exact sb_fit0)) xw_154 xw_155 (by decide +kernel) rfl rfl ⟨Nat.le_of_ble_eq_true rfl, Nat.le_of_ble_eq_true rfl⟩ [0, 1] rfl (by decide) rfl rfl rfl rfl hl.1 rfl (Nat.le_of_ble_eq_true rfl) xdX13_show_210 ⟨Nat.le_of_ble_eq_true rfl, Nat.le_of_ble_eq_true rfl⟩) hP hD hS hA (isC := [0, 1]) (isR := []) rfl rfl (by decide) (by decide) (fun u H locs hw98 hP hD hS => ?_)
              obtain ⟨z100, f101⟩ := u
              obtain ⟨g102, g103⟩ := hw98
              have g102 : z100 = z31 + 1 + dl ((w >>> (7 &&& 31)) &&& 31) := g102
              have g103 : TA f32 z31 f101 z100 (rgM ((w >>> (7 &&& 31)) &&& 31)) := g103
              have hP : va_P (dC, dI) vwCl [(h0, .inr (16, fsN (fs.set 0 (.int 0)) z100)), (sa, .inl (cI, 60, .inl f101))] H := hP
              have hD : va_D A [(h0, .inr (16, fsN (fs.set 0 (.int 0)) z100)), (sa, .inl (cI, 60, .inl f101))] := hD
              refine W.widen (k := 4) (n := 32) (by omega) (by omega) ?_
              refine lv_aload_n hx hb xdX13_show_213 rfl (lv_at hl 6 rfl) ?_
              refine ca_v (wr := []) (rn_V (n := 0) (As := []) (rest := []) hx hb hml hown ht hKK hFx hP hD hS hA (c_sx_com l dC dI cI cB cZ cJ cR tb H.size h0 sa z100 (fs.set 0 (.int 0)) f101 (by first | assumption | omega | rfl | exact sb_fit0) (by first | assumption | omega | rfl | exact sb_fit0) (by first | assumption | omega | rfl | exact sb_fit0)) xw_156 xw_157 (by decide +kernel) rfl rfl ⟨Nat.le_of_ble_eq_true rfl, Nat.le_of_ble_eq_true rfl⟩ [0, 1] rfl (by decide) rfl rfl rfl rfl hl.1 rfl (Nat.le_of_ble_eq_true rfl) xdX13_show_214 ⟨Nat.le_of_ble_eq_true rfl, Nat.le_of_ble_eq_true rfl⟩) hP hD hS hA (isC := [0, 1]) (isR := []) rfl rfl (by decide) (by decide) (fun u H locs hw104 hP hD hS => ?_)
              obtain ⟨z106, f107⟩ := u
              obtain ⟨g108, g109⟩ := hw104
              have g108 : z106 = z100 + 2 := g108
              have g109 : TA f101 z100 f107 z106 (coM) := g109
              have hP : va_P (dC, dI) vwCl [(h0, .inr (16, fsN (fs.set 0 (.int 0)) z106)), (sa, .inl (cI, 60, .inl f107))] H := hP
              have hD : va_D A [(h0, .inr (16, fsN (fs.set 0 (.int 0)) z106)), (sa, .inl (cI, 60, .inl f107))] := hD
              refine W.widen (k := 4) (n := 32) (by omega) (by omega) ?_
              refine lv_aload_n hx hb xdX13_show_217 rfl (lv_at hl 6 rfl) ?_
              refine lv_iload_n hx hb xdX13_show_218 rfl (lv_at hl 7 rfl) ?_
              refine lv_bipush (v := 12) hx hb xdX13_show_219 (by decide) ?_
              refine lv_iushr hx hb xdX13_show_221 rfl ?_
              have hd110 := dl_le ((w.toUInt32 >>> ((12 : Int32).toUInt32 &&& Int32.toUInt32 31)).toInt32)
              refine ca_v (wr := []) (rn_V (n := 1) (As := [.int ((w.toUInt32 >>> ((12 : Int32).toUInt32 &&& Int32.toUInt32 31)).toInt32)]) (rest := []) hx hb hml hown ht hKK hFx hP hD hS hA (c_sx_dec l dC dI cI cB cZ cJ cR tb H.size h0 sa z106 (fs.set 0 (.int 0)) f107 ((w.toUInt32 >>> ((12 : Int32).toUInt32 &&& Int32.toUInt32 31)).toInt32) (by first | assumption | omega | rfl | exact sb_fit0) (by first | assumption | omega | rfl | exact sb_fit0) (by first | assumption | omega | rfl | exact sb_fit0)) xw_152 xw_153 (by decide +kernel) rfl rfl ⟨Nat.le_of_ble_eq_true rfl, Nat.le_of_ble_eq_true rfl⟩ [0, 1] rfl (by decide) rfl rfl rfl rfl hl.1 rfl (Nat.le_of_ble_eq_true rfl) xdX13_show_222 ⟨Nat.le_of_ble_eq_true rfl, Nat.le_of_ble_eq_true rfl⟩) hP hD hS hA (isC := [0, 1]) (isR := []) rfl rfl (by decide) (by decide) (fun u H locs hw111 hP hD hS => ?_)
              obtain ⟨z113, f114⟩ := u
              obtain ⟨g115, g116⟩ := hw111
              have g115 : z113 = z106 + dl ((w.toUInt32 >>> ((12 : Int32).toUInt32 &&& Int32.toUInt32 31)).toInt32) := g115
              have g116 : TA f107 z106 f114 z113 (decT ((w.toUInt32 >>> ((12 : Int32).toUInt32 &&& Int32.toUInt32 31)).toInt32)) := g116
              have hP : va_P (dC, dI) vwCl [(h0, .inr (16, fsN (fs.set 0 (.int 0)) z113)), (sa, .inl (cI, 60, .inl f114))] H := hP
              have hD : va_D A [(h0, .inr (16, fsN (fs.set 0 (.int 0)) z113)), (sa, .inl (cI, 60, .inl f114))] := hD
              refine W.widen (k := 4) (n := 32) (by omega) (by omega) ?_
              refine lv_goto (tgt := 364) hx hb xdX13_show_225 (by decide) ?_
              refine lv_aload_n hx hb xdX13_show_364 rfl (lv_at hl 6 rfl) ?_
              refine va_get (D := (dC, dI)) (ci := 16) (v := .int (nI z113)) (C := RX13) (T := TX13) (N := 124) hx hb ht xiX13 hown hK hP 0 rfl rfl 104 (by decide) (ht _ xw_146) (fun _ h9 => h9) (fsN_n hln) xdX13_show_365 ?_
              have hP9 := hP.sub (ws' := [(h0, .inr (16, fsN (fs.set 0 (.int 0)) z113)), (sa, .inl (cI, 60, .inl f114))]) [0, 1] rfl
              have hD9 := hD.sub (ws' := [(h0, .inr (16, fsN (fs.set 0 (.int 0)) z113)), (sa, .inl (cI, 60, .inl f114))]) [0, 1] (by decide) rfl
              refine W.widen (k := 4) (n := 32) (by omega) (by omega) ?_
              exact W.iret (v := (nI z113)) hx hb hr (fun t ht9 hW => ⟨⟨(nI z113), (z113, f114), rfl, ⟨(by first | omega | (dsimp only; omega)), (congrArg nI (by unfold lenM opM; rw [hnm]; dsimp only; rw [if_neg h27, if_neg h28, if_neg h35, if_neg h59, if_pos h95]; omega)), (TA.eq (TA.tr g26 (TA.tr (TA.tr (TA.tr g34 g103) g109) g116)) (by unfold tM opMT; rw [hnm]; dsimp only; rw [if_neg h27, if_neg h28, if_neg h35, if_neg h59, if_pos h95]))⟩, by rw [ht9]; exact hP9, hD9⟩, hS.F ht9⟩) hS.2.2 xdX13_show_368
            ·
              by_cases h117 : (w &&& 127) = 35
              · refine lv_lookup (off := 156) (tgt := 289) hx hb xdX13_show_133 (by decide) (by rw [h117]; decide) (by decide) ?_
                refine lv_aload_n hx hb xdX13_show_289 rfl (lv_at hl 6 rfl) ?_
                refine lv_iload hx hb xdX13_show_290 (lv_at hl 2 rfl) ?_
                have hd118 := dl_31 (w >>> (20 &&& 31))
                have hd119 := dl_le ((w >>> (20 &&& 31)) &&& 31)
                refine ca_v (wr := []) (rn_V (n := 1) (As := [.int ((w >>> (20 &&& 31)) &&& 31)]) (rest := []) hx hb hml hown ht hKK hFx hP hD hS hA (c_sx_nam l dC dI cI cB cZ cJ cR tb H.size h0 sa z31 (fs.set 0 (.int 0)) f32 ((w >>> (20 &&& 31)) &&& 31) (by first | assumption | omega | rfl | exact sb_fit0) (by first | assumption | omega | rfl | exact sb_fit0) (by first | assumption | omega | rfl | exact sb_fit0)) xw_154 xw_155 (by decide +kernel) rfl rfl ⟨Nat.le_of_ble_eq_true rfl, Nat.le_of_ble_eq_true rfl⟩ [0, 1] rfl (by decide) rfl rfl rfl rfl hl.1 rfl (Nat.le_of_ble_eq_true rfl) xdX13_show_292 ⟨Nat.le_of_ble_eq_true rfl, Nat.le_of_ble_eq_true rfl⟩) hP hD hS hA (isC := [0, 1]) (isR := []) rfl rfl (by decide) (by decide) (fun u H locs hw120 hP hD hS => ?_)
                obtain ⟨z122, f123⟩ := u
                obtain ⟨g124, g125⟩ := hw120
                have g124 : z122 = z31 + 1 + dl ((w >>> (20 &&& 31)) &&& 31) := g124
                have g125 : TA f32 z31 f123 z122 (rgM ((w >>> (20 &&& 31)) &&& 31)) := g125
                have hP : va_P (dC, dI) vwCl [(h0, .inr (16, fsN (fs.set 0 (.int 0)) z122)), (sa, .inl (cI, 60, .inl f123))] H := hP
                have hD : va_D A [(h0, .inr (16, fsN (fs.set 0 (.int 0)) z122)), (sa, .inl (cI, 60, .inl f123))] := hD
                refine W.widen (k := 4) (n := 32) (by omega) (by omega) ?_
                refine lv_aload_n hx hb xdX13_show_295 rfl (lv_at hl 6 rfl) ?_
                refine ca_v (wr := []) (rn_V (n := 0) (As := []) (rest := []) hx hb hml hown ht hKK hFx hP hD hS hA (c_sx_com l dC dI cI cB cZ cJ cR tb H.size h0 sa z122 (fs.set 0 (.int 0)) f123 (by first | assumption | omega | rfl | exact sb_fit0) (by first | assumption | omega | rfl | exact sb_fit0) (by first | assumption | omega | rfl | exact sb_fit0)) xw_156 xw_157 (by decide +kernel) rfl rfl ⟨Nat.le_of_ble_eq_true rfl, Nat.le_of_ble_eq_true rfl⟩ [0, 1] rfl (by decide) rfl rfl rfl rfl hl.1 rfl (Nat.le_of_ble_eq_true rfl) xdX13_show_296 ⟨Nat.le_of_ble_eq_true rfl, Nat.le_of_ble_eq_true rfl⟩) hP hD hS hA (isC := [0, 1]) (isR := []) rfl rfl (by decide) (by decide) (fun u H locs hw126 hP hD hS => ?_)
                obtain ⟨z128, f129⟩ := u
                obtain ⟨g130, g131⟩ := hw126
                have g130 : z128 = z122 + 2 := g130
                have g131 : TA f123 z122 f129 z128 (coM) := g131
                have hP : va_P (dC, dI) vwCl [(h0, .inr (16, fsN (fs.set 0 (.int 0)) z128)), (sa, .inl (cI, 60, .inl f129))] H := hP
                have hD : va_D A [(h0, .inr (16, fsN (fs.set 0 (.int 0)) z128)), (sa, .inl (cI, 60, .inl f129))] := hD
                refine W.widen (k := 4) (n := 32) (by omega) (by omega) ?_
                refine lv_aload_n hx hb xdX13_show_299 rfl (lv_at hl 6 rfl) ?_
                refine lv_iload_n hx hb xdX13_show_300 rfl (lv_at hl 7 rfl) ?_
                refine lv_bipush (v := 25) hx hb xdX13_show_301 (by decide) ?_
                refine lv_ishr hx hb xdX13_show_303 ?_
                refine lv_iconst (v := 5) hx hb xdX13_show_304 (by decide) ?_
                refine lv_ishl hx hb xdX13_show_305 ?_
                refine lv_iload_n hx hb xdX13_show_306 rfl (lv_at hl 4 rfl) ?_
                refine lv_ior hx hb xdX13_show_307 ?_
                refine lv_iload hx hb xdX13_show_308 (lv_at hl 3 rfl) ?_
                have hd132 := dl_le (((w >>> (25 &&& 31)) <<< (5 &&& 31)) ||| ((w >>> (7 &&& 31)) &&& 31))
                have hd133 := dl_31 (w >>> (15 &&& 31))
                have hd134 := dl_le ((w >>> (15 &&& 31)) &&& 31)
                refine ca_v (wr := []) (rn_V (n := 2) (As := [.int (((w >>> (25 &&& 31)) <<< (5 &&& 31)) ||| ((w >>> (7 &&& 31)) &&& 31)), .int ((w >>> (15 &&& 31)) &&& 31)]) (rest := []) hx hb hml hown ht hKK hFx hP hD hS hA (c_sx_at l dC dI cI cB cZ cJ cR tb H.size h0 sa z128 (fs.set 0 (.int 0)) f129 (((w >>> (25 &&& 31)) <<< (5 &&& 31)) ||| ((w >>> (7 &&& 31)) &&& 31)) ((w >>> (15 &&& 31)) &&& 31) (by first | assumption | omega | rfl | exact sb_fit0) (by first | assumption | omega | rfl | exact sb_fit0) (by first | assumption | omega | rfl | exact sb_fit0)) xw_165 xw_166 (by decide +kernel) rfl rfl ⟨Nat.le_of_ble_eq_true rfl, Nat.le_of_ble_eq_true rfl⟩ [0, 1] rfl (by decide) rfl rfl rfl rfl hl.1 rfl (Nat.le_of_ble_eq_true rfl) xdX13_show_310 ⟨Nat.le_of_ble_eq_true rfl, Nat.le_of_ble_eq_true rfl⟩) hP hD hS hA (isC := [0, 1]) (isR := []) rfl rfl (by decide) (by decide) (fun u H locs hw135 hP hD hS => ?_)
                obtain ⟨z137, f138⟩ := u
                obtain ⟨g139, g140⟩ := hw135
                have g139 : z137 = z128 + (dl (((w >>> (25 &&& 31)) <<< (5 &&& 31)) ||| ((w >>> (7 &&& 31)) &&& 31)) + 1 + (1 + dl ((w >>> (15 &&& 31)) &&& 31)) + 1) := g139
                have g140 : TA f129 z128 f138 z137 (atM (((w >>> (25 &&& 31)) <<< (5 &&& 31)) ||| ((w >>> (7 &&& 31)) &&& 31)) ((w >>> (15 &&& 31)) &&& 31)) := g140
                have hP : va_P (dC, dI) vwCl [(h0, .inr (16, fsN (fs.set 0 (.int 0)) z137)), (sa, .inl (cI, 60, .inl f138))] H := hP
                have hD : va_D A [(h0, .inr (16, fsN (fs.set 0 (.int 0)) z137)), (sa, .inl (cI, 60, .inl f138))] := hD
                refine W.widen (k := 4) (n := 32) (by omega) (by omega) ?_
                refine lv_goto (tgt := 364) hx hb xdX13_show_313 (by decide) ?_
                refine lv_aload_n hx hb xdX13_show_364 rfl (lv_at hl 6 rfl) ?_
                refine va_get (D := (dC, dI)) (ci := 16) (v := .int (nI z137)) (C := RX13) (T := TX13) (N := 124) hx hb ht xiX13 hown hK hP 0 rfl rfl 104 (by decide) (ht _ xw_146) (fun _ h9 => h9) (fsN_n hln) xdX13_show_365 ?_
                have hP9 := hP.sub (ws' := [(h0, .inr (16, fsN (fs.set 0 (.int 0)) z137)), (sa, .inl (cI, 60, .inl f138))]) [0, 1] rfl
                have hD9 := hD.sub (ws' := [(h0, .inr (16, fsN (fs.set 0 (.int 0)) z137)), (sa, .inl (cI, 60, .inl f138))]) [0, 1] (by decide) rfl
                refine W.widen (k := 4) (n := 32) (by omega) (by omega) ?_
                exact W.iret (v := (nI z137)) hx hb hr (fun t ht9 hW => ⟨⟨(nI z137), (z137, f138), rfl, ⟨(by first | omega | (dsimp only; omega)), (congrArg nI (by unfold lenM opM; rw [hnm]; dsimp only; rw [if_neg h27, if_neg h28, if_neg h35, if_neg h59, if_neg h95, if_pos h117]; omega)), (TA.eq (TA.tr g26 (TA.tr (TA.tr (TA.tr g34 g125) g131) g140)) (by unfold tM opMT; rw [hnm]; dsimp only; rw [if_neg h27, if_neg h28, if_neg h35, if_neg h59, if_neg h95, if_pos h117]))⟩, by rw [ht9]; exact hP9, hD9⟩, hS.F ht9⟩) hS.2.2 xdX13_show_368
              ·
                by_cases h141 : (w &&& 127) = 55
                · refine lv_lookup (off := 75) (tgt := 208) hx hb xdX13_show_133 (by decide) (by rw [h141]; decide) (by decide) ?_
                  refine lv_aload_n hx hb xdX13_show_208 rfl (lv_at hl 6 rfl) ?_
                  refine lv_iload_n hx hb xdX13_show_209 rfl (lv_at hl 4 rfl) ?_
                  have hd142 := dl_31 (w >>> (7 &&& 31))
                  have hd143 := dl_le ((w >>> (7 &&& 31)) &&& 31)
                  refine ca_v (wr := []) (rn_V (n := 1) (As := [.int ((w >>> (7 &&& 31)) &&& 31)]) (rest := []) hx hb hml hown ht hKK hFx hP hD hS hA (c_sx_nam l dC dI cI cB cZ cJ cR tb H.size h0 sa z31 (fs.set 0 (.int 0)) f32 ((w >>> (7 &&& 31)) &&& 31) (by first | assumption | omega | rfl | exact sb_fit0) (by first | assumption | omega | rfl | exact sb_fit0) (by first | assumption | omega | rfl | exact sb_fit0)) xw_154 xw_155 (by decide +kernel) rfl rfl ⟨Nat.le_of_ble_eq_true rfl, Nat.le_of_ble_eq_true rfl⟩ [0, 1] rfl (by decide) rfl rfl rfl rfl hl.1 rfl (Nat.le_of_ble_eq_true rfl) xdX13_show_210 ⟨Nat.le_of_ble_eq_true rfl, Nat.le_of_ble_eq_true rfl⟩) hP hD hS hA (isC := [0, 1]) (isR := []) rfl rfl (by decide) (by decide) (fun u H locs hw144 hP hD hS => ?_)
                  obtain ⟨z146, f147⟩ := u
                  obtain ⟨g148, g149⟩ := hw144
                  have g148 : z146 = z31 + 1 + dl ((w >>> (7 &&& 31)) &&& 31) := g148
                  have g149 : TA f32 z31 f147 z146 (rgM ((w >>> (7 &&& 31)) &&& 31)) := g149
                  have hP : va_P (dC, dI) vwCl [(h0, .inr (16, fsN (fs.set 0 (.int 0)) z146)), (sa, .inl (cI, 60, .inl f147))] H := hP
                  have hD : va_D A [(h0, .inr (16, fsN (fs.set 0 (.int 0)) z146)), (sa, .inl (cI, 60, .inl f147))] := hD
                  refine W.widen (k := 4) (n := 32) (by omega) (by omega) ?_
                  refine lv_aload_n hx hb xdX13_show_213 rfl (lv_at hl 6 rfl) ?_
                  refine ca_v (wr := []) (rn_V (n := 0) (As := []) (rest := []) hx hb hml hown ht hKK hFx hP hD hS hA (c_sx_com l dC dI cI cB cZ cJ cR tb H.size h0 sa z146 (fs.set 0 (.int 0)) f147 (by first | assumption | omega | rfl | exact sb_fit0) (by first | assumption | omega | rfl | exact sb_fit0) (by first | assumption | omega | rfl | exact sb_fit0)) xw_156 xw_157 (by decide +kernel) rfl rfl ⟨Nat.le_of_ble_eq_true rfl, Nat.le_of_ble_eq_true rfl⟩ [0, 1] rfl (by decide) rfl rfl rfl rfl hl.1 rfl (Nat.le_of_ble_eq_true rfl) xdX13_show_214 ⟨Nat.le_of_ble_eq_true rfl, Nat.le_of_ble_eq_true rfl⟩) hP hD hS hA (isC := [0, 1]) (isR := []) rfl rfl (by decide) (by decide) (fun u H locs hw150 hP hD hS => ?_)
                  obtain ⟨z152, f153⟩ := u
                  obtain ⟨g154, g155⟩ := hw150
                  have g154 : z152 = z146 + 2 := g154
                  have g155 : TA f147 z146 f153 z152 (coM) := g155
                  have hP : va_P (dC, dI) vwCl [(h0, .inr (16, fsN (fs.set 0 (.int 0)) z152)), (sa, .inl (cI, 60, .inl f153))] H := hP
                  have hD : va_D A [(h0, .inr (16, fsN (fs.set 0 (.int 0)) z152)), (sa, .inl (cI, 60, .inl f153))] := hD
                  refine W.widen (k := 4) (n := 32) (by omega) (by omega) ?_
                  refine lv_aload_n hx hb xdX13_show_217 rfl (lv_at hl 6 rfl) ?_
                  refine lv_iload_n hx hb xdX13_show_218 rfl (lv_at hl 7 rfl) ?_
                  refine lv_bipush (v := 12) hx hb xdX13_show_219 (by decide) ?_
                  refine lv_iushr hx hb xdX13_show_221 rfl ?_
                  have hd156 := dl_le ((w.toUInt32 >>> ((12 : Int32).toUInt32 &&& Int32.toUInt32 31)).toInt32)
                  refine ca_v (wr := []) (rn_V (n := 1) (As := [.int ((w.toUInt32 >>> ((12 : Int32).toUInt32 &&& Int32.toUInt32 31)).toInt32)]) (rest := []) hx hb hml hown ht hKK hFx hP hD hS hA (c_sx_dec l dC dI cI cB cZ cJ cR tb H.size h0 sa z152 (fs.set 0 (.int 0)) f153 ((w.toUInt32 >>> ((12 : Int32).toUInt32 &&& Int32.toUInt32 31)).toInt32) (by first | assumption | omega | rfl | exact sb_fit0) (by first | assumption | omega | rfl | exact sb_fit0) (by first | assumption | omega | rfl | exact sb_fit0)) xw_152 xw_153 (by decide +kernel) rfl rfl ⟨Nat.le_of_ble_eq_true rfl, Nat.le_of_ble_eq_true rfl⟩ [0, 1] rfl (by decide) rfl rfl rfl rfl hl.1 rfl (Nat.le_of_ble_eq_true rfl) xdX13_show_222 ⟨Nat.le_of_ble_eq_true rfl, Nat.le_of_ble_eq_true rfl⟩) hP hD hS hA (isC := [0, 1]) (isR := []) rfl rfl (by decide) (by decide) (fun u H locs hw157 hP hD hS => ?_)
                  obtain ⟨z159, f160⟩ := u
                  obtain ⟨g161, g162⟩ := hw157
                  have g161 : z159 = z152 + dl ((w.toUInt32 >>> ((12 : Int32).toUInt32 &&& Int32.toUInt32 31)).toInt32) := g161
                  have g162 : TA f153 z152 f160 z159 (decT ((w.toUInt32 >>> ((12 : Int32).toUInt32 &&& Int32.toUInt32 31)).toInt32)) := g162
                  have hP : va_P (dC, dI) vwCl [(h0, .inr (16, fsN (fs.set 0 (.int 0)) z159)), (sa, .inl (cI, 60, .inl f160))] H := hP
                  have hD : va_D A [(h0, .inr (16, fsN (fs.set 0 (.int 0)) z159)), (sa, .inl (cI, 60, .inl f160))] := hD
                  refine W.widen (k := 4) (n := 32) (by omega) (by omega) ?_
                  refine lv_goto (tgt := 364) hx hb xdX13_show_225 (by decide) ?_
                  refine lv_aload_n hx hb xdX13_show_364 rfl (lv_at hl 6 rfl) ?_
                  refine va_get (D := (dC, dI)) (ci := 16) (v := .int (nI z159)) (C := RX13) (T := TX13) (N := 124) hx hb ht xiX13 hown hK hP 0 rfl rfl 104 (by decide) (ht _ xw_146) (fun _ h9 => h9) (fsN_n hln) xdX13_show_365 ?_
                  have hP9 := hP.sub (ws' := [(h0, .inr (16, fsN (fs.set 0 (.int 0)) z159)), (sa, .inl (cI, 60, .inl f160))]) [0, 1] rfl
                  have hD9 := hD.sub (ws' := [(h0, .inr (16, fsN (fs.set 0 (.int 0)) z159)), (sa, .inl (cI, 60, .inl f160))]) [0, 1] (by decide) rfl
                  refine W.widen (k := 4) (n := 32) (by omega) (by omega) ?_
                  exact W.iret (v := (nI z159)) hx hb hr (fun t ht9 hW => ⟨⟨(nI z159), (z159, f160), rfl, ⟨(by first | omega | (dsimp only; omega)), (congrArg nI (by unfold lenM opM; rw [hnm]; dsimp only; rw [if_neg h27, if_neg h28, if_neg h35, if_neg h59, if_neg h95, if_neg h117, if_pos h141]; omega)), (TA.eq (TA.tr g26 (TA.tr (TA.tr (TA.tr g34 g149) g155) g162)) (by unfold tM opMT; rw [hnm]; dsimp only; rw [if_neg h27, if_neg h28, if_neg h35, if_neg h59, if_neg h95, if_neg h117, if_pos h141]))⟩, by rw [ht9]; exact hP9, hD9⟩, hS.F ht9⟩) hS.2.2 xdX13_show_368
                ·
                  by_cases h163 : (w &&& 127) = 99
                  · refine lv_lookup (off := 137) (tgt := 270) hx hb xdX13_show_133 (by decide) (by rw [h163]; decide) (by decide) ?_
                    refine lv_aload_n hx hb xdX13_show_270 rfl (lv_at hl 6 rfl) ?_
                    refine lv_iload hx hb xdX13_show_271 (lv_at hl 3 rfl) ?_
                    refine lv_iload hx hb xdX13_show_273 (lv_at hl 2 rfl) ?_
                    have hd164 := dl_31 (w >>> (15 &&& 31))
                    have hd165 := dl_le ((w >>> (15 &&& 31)) &&& 31)
                    have hd166 := dl_31 (w >>> (20 &&& 31))
                    have hd167 := dl_le ((w >>> (20 &&& 31)) &&& 31)
                    refine ca_v (wr := []) (rn_V (n := 2) (As := [.int ((w >>> (15 &&& 31)) &&& 31), .int ((w >>> (20 &&& 31)) &&& 31)]) (rest := []) hx hb hml hown ht hKK hFx hP hD hS hA (c_sx_thr l dC dI cI cB cZ cJ cR tb H.size h0 sa z31 (fs.set 0 (.int 0)) f32 ((w >>> (15 &&& 31)) &&& 31) ((w >>> (20 &&& 31)) &&& 31) (by first | assumption | omega | rfl | exact sb_fit0) (by first | assumption | omega | rfl | exact sb_fit0) (by first | assumption | omega | rfl | exact sb_fit0)) xw_167 xw_168 (by decide +kernel) rfl rfl ⟨Nat.le_of_ble_eq_true rfl, Nat.le_of_ble_eq_true rfl⟩ [0, 1] rfl (by decide) rfl rfl rfl rfl hl.1 rfl (Nat.le_of_ble_eq_true rfl) xdX13_show_275 ⟨Nat.le_of_ble_eq_true rfl, Nat.le_of_ble_eq_true rfl⟩) hP hD hS hA (isC := [0, 1]) (isR := []) rfl rfl (by decide) (by decide) (fun u H locs hw168 hP hD hS => ?_)
                    obtain ⟨z170, f171⟩ := u
                    obtain ⟨g172, g173⟩ := hw168
                    have g172 : z170 = z31 + (1 + dl ((w >>> (15 &&& 31)) &&& 31) + 2 + (1 + dl ((w >>> (20 &&& 31)) &&& 31)) + 2) := g172
                    have g173 : TA f32 z31 f171 z170 (thM ((w >>> (15 &&& 31)) &&& 31) ((w >>> (20 &&& 31)) &&& 31)) := g173
                    have hP : va_P (dC, dI) vwCl [(h0, .inr (16, fsN (fs.set 0 (.int 0)) z170)), (sa, .inl (cI, 60, .inl f171))] H := hP
                    have hD : va_D A [(h0, .inr (16, fsN (fs.set 0 (.int 0)) z170)), (sa, .inl (cI, 60, .inl f171))] := hD
                    refine W.widen (k := 4) (n := 32) (by omega) (by omega) ?_
                    refine lv_aload_n hx hb xdX13_show_278 rfl (lv_at hl 6 rfl) ?_
                    refine lv_iload_n hx hb xdX13_show_279 rfl (lv_at hl 7 rfl) ?_
                    refine ca_i (wr := [(h0, .inr (16, fsN (fs.set 0 (.int 0)) z170)), (sa, .inl (cI, 60, .inl f171))]) (rn_S (n := 1) (As := [.int w]) (rest := [.ref h0]) hx hb hml hown ht hKK hFx hP hD hS hA (c_sx_imB l dC dI cI cB cZ cJ cR tb H.size w) xw_169 xw_170 (by decide +kernel) rfl rfl ⟨Nat.le_of_ble_eq_true rfl, Nat.le_of_ble_eq_true rfl⟩ [] rfl (by decide) rfl hl.1 rfl (Nat.le_of_ble_eq_true rfl) xdX13_show_280 ⟨Nat.le_of_ble_eq_true rfl, Nat.le_of_ble_eq_true rfl⟩) hP hD hS hA (isC := []) (isR := [0, 1]) rfl rfl (by decide) (by decide) (fun r175 u H locs hw174 hP hD hS => ?_)
                    subst hw174
                    have hP : va_P (dC, dI) vwCl [(h0, .inr (16, fsN (fs.set 0 (.int 0)) z170)), (sa, .inl (cI, 60, .inl f171))] H := hP
                    have hD : va_D A [(h0, .inr (16, fsN (fs.set 0 (.int 0)) z170)), (sa, .inl (cI, 60, .inl f171))] := hD
                    refine W.widen (k := 4) (n := 32) (by omega) (by omega) ?_
                    have hd176 := dl_le (((((w >>> (31 &&& 31)) <<< (12 &&& 31)) ||| (((w >>> (7 &&& 31)) &&& 1) <<< (11 &&& 31))) ||| (((w >>> (25 &&& 31)) &&& 63) <<< (5 &&& 31))) ||| (((w >>> (8 &&& 31)) &&& 15) <<< (1 &&& 31)))
                    refine ca_v (wr := []) (rn_V (n := 1) (As := [.int (((((w >>> (31 &&& 31)) <<< (12 &&& 31)) ||| (((w >>> (7 &&& 31)) &&& 1) <<< (11 &&& 31))) ||| (((w >>> (25 &&& 31)) &&& 63) <<< (5 &&& 31))) ||| (((w >>> (8 &&& 31)) &&& 15) <<< (1 &&& 31)))]) (rest := []) hx hb hml hown ht hKK hFx hP hD hS hA (c_sx_dec l dC dI cI cB cZ cJ cR tb H.size h0 sa z170 (fs.set 0 (.int 0)) f171 (((((w >>> (31 &&& 31)) <<< (12 &&& 31)) ||| (((w >>> (7 &&& 31)) &&& 1) <<< (11 &&& 31))) ||| (((w >>> (25 &&& 31)) &&& 63) <<< (5 &&& 31))) ||| (((w >>> (8 &&& 31)) &&& 15) <<< (1 &&& 31))) (by first | assumption | omega | rfl | exact sb_fit0) (by first | assumption | omega | rfl | exact sb_fit0) (by first | assumption | omega | rfl | exact sb_fit0)) xw_152 xw_153 (by decide +kernel) rfl rfl ⟨Nat.le_of_ble_eq_true rfl, Nat.le_of_ble_eq_true rfl⟩ [0, 1] rfl (by decide) rfl rfl rfl rfl hl.1 rfl (Nat.le_of_ble_eq_true rfl) xdX13_show_283 ⟨Nat.le_of_ble_eq_true rfl, Nat.le_of_ble_eq_true rfl⟩) hP hD hS hA (isC := [0, 1]) (isR := []) rfl rfl (by decide) (by decide) (fun u H locs hw177 hP hD hS => ?_)
                    obtain ⟨z179, f180⟩ := u
                    obtain ⟨g181, g182⟩ := hw177
                    have g181 : z179 = z170 + dl (((((w >>> (31 &&& 31)) <<< (12 &&& 31)) ||| (((w >>> (7 &&& 31)) &&& 1) <<< (11 &&& 31))) ||| (((w >>> (25 &&& 31)) &&& 63) <<< (5 &&& 31))) ||| (((w >>> (8 &&& 31)) &&& 15) <<< (1 &&& 31))) := g181
                    have g182 : TA f171 z170 f180 z179 (decT (((((w >>> (31 &&& 31)) <<< (12 &&& 31)) ||| (((w >>> (7 &&& 31)) &&& 1) <<< (11 &&& 31))) ||| (((w >>> (25 &&& 31)) &&& 63) <<< (5 &&& 31))) ||| (((w >>> (8 &&& 31)) &&& 15) <<< (1 &&& 31)))) := g182
                    have hP : va_P (dC, dI) vwCl [(h0, .inr (16, fsN (fs.set 0 (.int 0)) z179)), (sa, .inl (cI, 60, .inl f180))] H := hP
                    have hD : va_D A [(h0, .inr (16, fsN (fs.set 0 (.int 0)) z179)), (sa, .inl (cI, 60, .inl f180))] := hD
                    refine W.widen (k := 4) (n := 32) (by omega) (by omega) ?_
                    refine lv_goto (tgt := 364) hx hb xdX13_show_286 (by decide) ?_
                    refine lv_aload_n hx hb xdX13_show_364 rfl (lv_at hl 6 rfl) ?_
                    refine va_get (D := (dC, dI)) (ci := 16) (v := .int (nI z179)) (C := RX13) (T := TX13) (N := 124) hx hb ht xiX13 hown hK hP 0 rfl rfl 104 (by decide) (ht _ xw_146) (fun _ h9 => h9) (fsN_n hln) xdX13_show_365 ?_
                    have hP9 := hP.sub (ws' := [(h0, .inr (16, fsN (fs.set 0 (.int 0)) z179)), (sa, .inl (cI, 60, .inl f180))]) [0, 1] rfl
                    have hD9 := hD.sub (ws' := [(h0, .inr (16, fsN (fs.set 0 (.int 0)) z179)), (sa, .inl (cI, 60, .inl f180))]) [0, 1] (by decide) rfl
                    refine W.widen (k := 4) (n := 32) (by omega) (by omega) ?_
                    exact W.iret (v := (nI z179)) hx hb hr (fun t ht9 hW => ⟨⟨(nI z179), (z179, f180), rfl, ⟨(by first | omega | (dsimp only; omega)), (congrArg nI (by unfold lenM opM; rw [hnm]; dsimp only; rw [if_neg h27, if_neg h28, if_neg h35, if_neg h59, if_neg h95, if_neg h117, if_neg h141, if_pos h163]; omega)), (TA.eq (TA.tr g26 (TA.tr (TA.tr g34 g173) g182)) (by unfold tM opMT; rw [hnm]; dsimp only; rw [if_neg h27, if_neg h28, if_neg h35, if_neg h59, if_neg h95, if_neg h117, if_neg h141, if_pos h163]))⟩, by rw [ht9]; exact hP9, hD9⟩, hS.F ht9⟩) hS.2.2 xdX13_show_368
                  ·
                    by_cases h183 : (w &&& 127) = 103
                    · refine lv_lookup (off := 115) (tgt := 248) hx hb xdX13_show_133 (by decide) (by rw [h183]; decide) (by decide) ?_
                      refine lv_aload_n hx hb xdX13_show_248 rfl (lv_at hl 6 rfl) ?_
                      refine lv_iload_n hx hb xdX13_show_249 rfl (lv_at hl 4 rfl) ?_
                      have hd184 := dl_31 (w >>> (7 &&& 31))
                      have hd185 := dl_le ((w >>> (7 &&& 31)) &&& 31)
                      refine ca_v (wr := []) (rn_V (n := 1) (As := [.int ((w >>> (7 &&& 31)) &&& 31)]) (rest := []) hx hb hml hown ht hKK hFx hP hD hS hA (c_sx_nam l dC dI cI cB cZ cJ cR tb H.size h0 sa z31 (fs.set 0 (.int 0)) f32 ((w >>> (7 &&& 31)) &&& 31) (by first | assumption | omega | rfl | exact sb_fit0) (by first | assumption | omega | rfl | exact sb_fit0) (by first | assumption | omega | rfl | exact sb_fit0)) xw_154 xw_155 (by decide +kernel) rfl rfl ⟨Nat.le_of_ble_eq_true rfl, Nat.le_of_ble_eq_true rfl⟩ [0, 1] rfl (by decide) rfl rfl rfl rfl hl.1 rfl (Nat.le_of_ble_eq_true rfl) xdX13_show_250 ⟨Nat.le_of_ble_eq_true rfl, Nat.le_of_ble_eq_true rfl⟩) hP hD hS hA (isC := [0, 1]) (isR := []) rfl rfl (by decide) (by decide) (fun u H locs hw186 hP hD hS => ?_)
                      obtain ⟨z188, f189⟩ := u
                      obtain ⟨g190, g191⟩ := hw186
                      have g190 : z188 = z31 + 1 + dl ((w >>> (7 &&& 31)) &&& 31) := g190
                      have g191 : TA f32 z31 f189 z188 (rgM ((w >>> (7 &&& 31)) &&& 31)) := g191
                      have hP : va_P (dC, dI) vwCl [(h0, .inr (16, fsN (fs.set 0 (.int 0)) z188)), (sa, .inl (cI, 60, .inl f189))] H := hP
                      have hD : va_D A [(h0, .inr (16, fsN (fs.set 0 (.int 0)) z188)), (sa, .inl (cI, 60, .inl f189))] := hD
                      refine W.widen (k := 4) (n := 32) (by omega) (by omega) ?_
                      refine lv_aload_n hx hb xdX13_show_253 rfl (lv_at hl 6 rfl) ?_
                      refine ca_v (wr := []) (rn_V (n := 0) (As := []) (rest := []) hx hb hml hown ht hKK hFx hP hD hS hA (c_sx_com l dC dI cI cB cZ cJ cR tb H.size h0 sa z188 (fs.set 0 (.int 0)) f189 (by first | assumption | omega | rfl | exact sb_fit0) (by first | assumption | omega | rfl | exact sb_fit0) (by first | assumption | omega | rfl | exact sb_fit0)) xw_156 xw_157 (by decide +kernel) rfl rfl ⟨Nat.le_of_ble_eq_true rfl, Nat.le_of_ble_eq_true rfl⟩ [0, 1] rfl (by decide) rfl rfl rfl rfl hl.1 rfl (Nat.le_of_ble_eq_true rfl) xdX13_show_254 ⟨Nat.le_of_ble_eq_true rfl, Nat.le_of_ble_eq_true rfl⟩) hP hD hS hA (isC := [0, 1]) (isR := []) rfl rfl (by decide) (by decide) (fun u H locs hw192 hP hD hS => ?_)
                      obtain ⟨z194, f195⟩ := u
                      obtain ⟨g196, g197⟩ := hw192
                      have g196 : z194 = z188 + 2 := g196
                      have g197 : TA f189 z188 f195 z194 (coM) := g197
                      have hP : va_P (dC, dI) vwCl [(h0, .inr (16, fsN (fs.set 0 (.int 0)) z194)), (sa, .inl (cI, 60, .inl f195))] H := hP
                      have hD : va_D A [(h0, .inr (16, fsN (fs.set 0 (.int 0)) z194)), (sa, .inl (cI, 60, .inl f195))] := hD
                      refine W.widen (k := 4) (n := 32) (by omega) (by omega) ?_
                      refine lv_aload_n hx hb xdX13_show_257 rfl (lv_at hl 6 rfl) ?_
                      refine lv_iload_n hx hb xdX13_show_258 rfl (lv_at hl 7 rfl) ?_
                      refine lv_bipush (v := 20) hx hb xdX13_show_259 (by decide) ?_
                      refine lv_ishr hx hb xdX13_show_261 ?_
                      refine lv_iload hx hb xdX13_show_262 (lv_at hl 3 rfl) ?_
                      have hd198 := dl_le (w >>> (20 &&& 31))
                      have hd199 := dl_31 (w >>> (15 &&& 31))
                      have hd200 := dl_le ((w >>> (15 &&& 31)) &&& 31)
                      refine ca_v (wr := []) (rn_V (n := 2) (As := [.int (w >>> (20 &&& 31)), .int ((w >>> (15 &&& 31)) &&& 31)]) (rest := []) hx hb hml hown ht hKK hFx hP hD hS hA (c_sx_at l dC dI cI cB cZ cJ cR tb H.size h0 sa z194 (fs.set 0 (.int 0)) f195 (w >>> (20 &&& 31)) ((w >>> (15 &&& 31)) &&& 31) (by first | assumption | omega | rfl | exact sb_fit0) (by first | assumption | omega | rfl | exact sb_fit0) (by first | assumption | omega | rfl | exact sb_fit0)) xw_165 xw_166 (by decide +kernel) rfl rfl ⟨Nat.le_of_ble_eq_true rfl, Nat.le_of_ble_eq_true rfl⟩ [0, 1] rfl (by decide) rfl rfl rfl rfl hl.1 rfl (Nat.le_of_ble_eq_true rfl) xdX13_show_264 ⟨Nat.le_of_ble_eq_true rfl, Nat.le_of_ble_eq_true rfl⟩) hP hD hS hA (isC := [0, 1]) (isR := []) rfl rfl (by decide) (by decide) (fun u H locs hw201 hP hD hS => ?_)
                      obtain ⟨z203, f204⟩ := u
                      obtain ⟨g205, g206⟩ := hw201
                      have g205 : z203 = z194 + (dl (w >>> (20 &&& 31)) + 1 + (1 + dl ((w >>> (15 &&& 31)) &&& 31)) + 1) := g205
                      have g206 : TA f195 z194 f204 z203 (atM (w >>> (20 &&& 31)) ((w >>> (15 &&& 31)) &&& 31)) := g206
                      have hP : va_P (dC, dI) vwCl [(h0, .inr (16, fsN (fs.set 0 (.int 0)) z203)), (sa, .inl (cI, 60, .inl f204))] H := hP
                      have hD : va_D A [(h0, .inr (16, fsN (fs.set 0 (.int 0)) z203)), (sa, .inl (cI, 60, .inl f204))] := hD
                      refine W.widen (k := 4) (n := 32) (by omega) (by omega) ?_
                      refine lv_goto (tgt := 364) hx hb xdX13_show_267 (by decide) ?_
                      refine lv_aload_n hx hb xdX13_show_364 rfl (lv_at hl 6 rfl) ?_
                      refine va_get (D := (dC, dI)) (ci := 16) (v := .int (nI z203)) (C := RX13) (T := TX13) (N := 124) hx hb ht xiX13 hown hK hP 0 rfl rfl 104 (by decide) (ht _ xw_146) (fun _ h9 => h9) (fsN_n hln) xdX13_show_365 ?_
                      have hP9 := hP.sub (ws' := [(h0, .inr (16, fsN (fs.set 0 (.int 0)) z203)), (sa, .inl (cI, 60, .inl f204))]) [0, 1] rfl
                      have hD9 := hD.sub (ws' := [(h0, .inr (16, fsN (fs.set 0 (.int 0)) z203)), (sa, .inl (cI, 60, .inl f204))]) [0, 1] (by decide) rfl
                      refine W.widen (k := 4) (n := 32) (by omega) (by omega) ?_
                      exact W.iret (v := (nI z203)) hx hb hr (fun t ht9 hW => ⟨⟨(nI z203), (z203, f204), rfl, ⟨(by first | omega | (dsimp only; omega)), (congrArg nI (by unfold lenM opM; rw [hnm]; dsimp only; rw [if_neg h27, if_neg h28, if_neg h35, if_neg h59, if_neg h95, if_neg h117, if_neg h141, if_neg h163, if_pos h183]; omega)), (TA.eq (TA.tr g26 (TA.tr (TA.tr (TA.tr g34 g191) g197) g206)) (by unfold tM opMT; rw [hnm]; dsimp only; rw [if_neg h27, if_neg h28, if_neg h35, if_neg h59, if_neg h95, if_neg h117, if_neg h141, if_neg h163, if_pos h183]))⟩, by rw [ht9]; exact hP9, hD9⟩, hS.F ht9⟩) hS.2.2 xdX13_show_368
                    ·
                      by_cases h207 : (w &&& 127) = 111
                      · refine lv_lookup (off := 95) (tgt := 228) hx hb xdX13_show_133 (by decide) (by rw [h207]; decide) (by decide) ?_
                        refine lv_aload_n hx hb xdX13_show_228 rfl (lv_at hl 6 rfl) ?_
                        refine lv_iload_n hx hb xdX13_show_229 rfl (lv_at hl 4 rfl) ?_
                        have hd208 := dl_31 (w >>> (7 &&& 31))
                        have hd209 := dl_le ((w >>> (7 &&& 31)) &&& 31)
                        refine ca_v (wr := []) (rn_V (n := 1) (As := [.int ((w >>> (7 &&& 31)) &&& 31)]) (rest := []) hx hb hml hown ht hKK hFx hP hD hS hA (c_sx_nam l dC dI cI cB cZ cJ cR tb H.size h0 sa z31 (fs.set 0 (.int 0)) f32 ((w >>> (7 &&& 31)) &&& 31) (by first | assumption | omega | rfl | exact sb_fit0) (by first | assumption | omega | rfl | exact sb_fit0) (by first | assumption | omega | rfl | exact sb_fit0)) xw_154 xw_155 (by decide +kernel) rfl rfl ⟨Nat.le_of_ble_eq_true rfl, Nat.le_of_ble_eq_true rfl⟩ [0, 1] rfl (by decide) rfl rfl rfl rfl hl.1 rfl (Nat.le_of_ble_eq_true rfl) xdX13_show_230 ⟨Nat.le_of_ble_eq_true rfl, Nat.le_of_ble_eq_true rfl⟩) hP hD hS hA (isC := [0, 1]) (isR := []) rfl rfl (by decide) (by decide) (fun u H locs hw210 hP hD hS => ?_)
                        obtain ⟨z212, f213⟩ := u
                        obtain ⟨g214, g215⟩ := hw210
                        have g214 : z212 = z31 + 1 + dl ((w >>> (7 &&& 31)) &&& 31) := g214
                        have g215 : TA f32 z31 f213 z212 (rgM ((w >>> (7 &&& 31)) &&& 31)) := g215
                        have hP : va_P (dC, dI) vwCl [(h0, .inr (16, fsN (fs.set 0 (.int 0)) z212)), (sa, .inl (cI, 60, .inl f213))] H := hP
                        have hD : va_D A [(h0, .inr (16, fsN (fs.set 0 (.int 0)) z212)), (sa, .inl (cI, 60, .inl f213))] := hD
                        refine W.widen (k := 4) (n := 32) (by omega) (by omega) ?_
                        refine lv_aload_n hx hb xdX13_show_233 rfl (lv_at hl 6 rfl) ?_
                        refine ca_v (wr := []) (rn_V (n := 0) (As := []) (rest := []) hx hb hml hown ht hKK hFx hP hD hS hA (c_sx_com l dC dI cI cB cZ cJ cR tb H.size h0 sa z212 (fs.set 0 (.int 0)) f213 (by first | assumption | omega | rfl | exact sb_fit0) (by first | assumption | omega | rfl | exact sb_fit0) (by first | assumption | omega | rfl | exact sb_fit0)) xw_156 xw_157 (by decide +kernel) rfl rfl ⟨Nat.le_of_ble_eq_true rfl, Nat.le_of_ble_eq_true rfl⟩ [0, 1] rfl (by decide) rfl rfl rfl rfl hl.1 rfl (Nat.le_of_ble_eq_true rfl) xdX13_show_234 ⟨Nat.le_of_ble_eq_true rfl, Nat.le_of_ble_eq_true rfl⟩) hP hD hS hA (isC := [0, 1]) (isR := []) rfl rfl (by decide) (by decide) (fun u H locs hw216 hP hD hS => ?_)
                        obtain ⟨z218, f219⟩ := u
                        obtain ⟨g220, g221⟩ := hw216
                        have g220 : z218 = z212 + 2 := g220
                        have g221 : TA f213 z212 f219 z218 (coM) := g221
                        have hP : va_P (dC, dI) vwCl [(h0, .inr (16, fsN (fs.set 0 (.int 0)) z218)), (sa, .inl (cI, 60, .inl f219))] H := hP
                        have hD : va_D A [(h0, .inr (16, fsN (fs.set 0 (.int 0)) z218)), (sa, .inl (cI, 60, .inl f219))] := hD
                        refine W.widen (k := 4) (n := 32) (by omega) (by omega) ?_
                        refine lv_aload_n hx hb xdX13_show_237 rfl (lv_at hl 6 rfl) ?_
                        refine lv_iload_n hx hb xdX13_show_238 rfl (lv_at hl 7 rfl) ?_
                        refine ca_i (wr := [(h0, .inr (16, fsN (fs.set 0 (.int 0)) z218)), (sa, .inl (cI, 60, .inl f219))]) (rn_S (n := 1) (As := [.int w]) (rest := [.ref h0]) hx hb hml hown ht hKK hFx hP hD hS hA (c_sx_imJ l dC dI cI cB cZ cJ cR tb H.size w) xw_171 xw_172 (by decide +kernel) rfl rfl ⟨Nat.le_of_ble_eq_true rfl, Nat.le_of_ble_eq_true rfl⟩ [] rfl (by decide) rfl hl.1 rfl (Nat.le_of_ble_eq_true rfl) xdX13_show_239 ⟨Nat.le_of_ble_eq_true rfl, Nat.le_of_ble_eq_true rfl⟩) hP hD hS hA (isC := []) (isR := [0, 1]) rfl rfl (by decide) (by decide) (fun r223 u H locs hw222 hP hD hS => ?_)
                        subst hw222
                        have hP : va_P (dC, dI) vwCl [(h0, .inr (16, fsN (fs.set 0 (.int 0)) z218)), (sa, .inl (cI, 60, .inl f219))] H := hP
                        have hD : va_D A [(h0, .inr (16, fsN (fs.set 0 (.int 0)) z218)), (sa, .inl (cI, 60, .inl f219))] := hD
                        refine W.widen (k := 4) (n := 32) (by omega) (by omega) ?_
                        have hd224 := dl_le (((((w >>> (31 &&& 31)) <<< (20 &&& 31)) ||| (((w >>> (12 &&& 31)) &&& 255) <<< (12 &&& 31))) ||| (((w >>> (20 &&& 31)) &&& 1) <<< (11 &&& 31))) ||| (((w >>> (21 &&& 31)) &&& 1023) <<< (1 &&& 31)))
                        refine ca_v (wr := []) (rn_V (n := 1) (As := [.int (((((w >>> (31 &&& 31)) <<< (20 &&& 31)) ||| (((w >>> (12 &&& 31)) &&& 255) <<< (12 &&& 31))) ||| (((w >>> (20 &&& 31)) &&& 1) <<< (11 &&& 31))) ||| (((w >>> (21 &&& 31)) &&& 1023) <<< (1 &&& 31)))]) (rest := []) hx hb hml hown ht hKK hFx hP hD hS hA (c_sx_dec l dC dI cI cB cZ cJ cR tb H.size h0 sa z218 (fs.set 0 (.int 0)) f219 (((((w >>> (31 &&& 31)) <<< (20 &&& 31)) ||| (((w >>> (12 &&& 31)) &&& 255) <<< (12 &&& 31))) ||| (((w >>> (20 &&& 31)) &&& 1) <<< (11 &&& 31))) ||| (((w >>> (21 &&& 31)) &&& 1023) <<< (1 &&& 31))) (by first | assumption | omega | rfl | exact sb_fit0) (by first | assumption | omega | rfl | exact sb_fit0) (by first | assumption | omega | rfl | exact sb_fit0)) xw_152 xw_153 (by decide +kernel) rfl rfl ⟨Nat.le_of_ble_eq_true rfl, Nat.le_of_ble_eq_true rfl⟩ [0, 1] rfl (by decide) rfl rfl rfl rfl hl.1 rfl (Nat.le_of_ble_eq_true rfl) xdX13_show_242 ⟨Nat.le_of_ble_eq_true rfl, Nat.le_of_ble_eq_true rfl⟩) hP hD hS hA (isC := [0, 1]) (isR := []) rfl rfl (by decide) (by decide) (fun u H locs hw225 hP hD hS => ?_)
                        obtain ⟨z227, f228⟩ := u
                        obtain ⟨g229, g230⟩ := hw225
                        have g229 : z227 = z218 + dl (((((w >>> (31 &&& 31)) <<< (20 &&& 31)) ||| (((w >>> (12 &&& 31)) &&& 255) <<< (12 &&& 31))) ||| (((w >>> (20 &&& 31)) &&& 1) <<< (11 &&& 31))) ||| (((w >>> (21 &&& 31)) &&& 1023) <<< (1 &&& 31))) := g229
                        have g230 : TA f219 z218 f228 z227 (decT (((((w >>> (31 &&& 31)) <<< (20 &&& 31)) ||| (((w >>> (12 &&& 31)) &&& 255) <<< (12 &&& 31))) ||| (((w >>> (20 &&& 31)) &&& 1) <<< (11 &&& 31))) ||| (((w >>> (21 &&& 31)) &&& 1023) <<< (1 &&& 31)))) := g230
                        have hP : va_P (dC, dI) vwCl [(h0, .inr (16, fsN (fs.set 0 (.int 0)) z227)), (sa, .inl (cI, 60, .inl f228))] H := hP
                        have hD : va_D A [(h0, .inr (16, fsN (fs.set 0 (.int 0)) z227)), (sa, .inl (cI, 60, .inl f228))] := hD
                        refine W.widen (k := 4) (n := 32) (by omega) (by omega) ?_
                        refine lv_goto (tgt := 364) hx hb xdX13_show_245 (by decide) ?_
                        refine lv_aload_n hx hb xdX13_show_364 rfl (lv_at hl 6 rfl) ?_
                        refine va_get (D := (dC, dI)) (ci := 16) (v := .int (nI z227)) (C := RX13) (T := TX13) (N := 124) hx hb ht xiX13 hown hK hP 0 rfl rfl 104 (by decide) (ht _ xw_146) (fun _ h9 => h9) (fsN_n hln) xdX13_show_365 ?_
                        have hP9 := hP.sub (ws' := [(h0, .inr (16, fsN (fs.set 0 (.int 0)) z227)), (sa, .inl (cI, 60, .inl f228))]) [0, 1] rfl
                        have hD9 := hD.sub (ws' := [(h0, .inr (16, fsN (fs.set 0 (.int 0)) z227)), (sa, .inl (cI, 60, .inl f228))]) [0, 1] (by decide) rfl
                        refine W.widen (k := 4) (n := 32) (by omega) (by omega) ?_
                        exact W.iret (v := (nI z227)) hx hb hr (fun t ht9 hW => ⟨⟨(nI z227), (z227, f228), rfl, ⟨(by first | omega | (dsimp only; omega)), (congrArg nI (by unfold lenM opM; rw [hnm]; dsimp only; rw [if_neg h27, if_neg h28, if_neg h35, if_neg h59, if_neg h95, if_neg h117, if_neg h141, if_neg h163, if_neg h183, if_pos h207]; omega)), (TA.eq (TA.tr g26 (TA.tr (TA.tr (TA.tr g34 g215) g221) g230)) (by unfold tM opMT; rw [hnm]; dsimp only; rw [if_neg h27, if_neg h28, if_neg h35, if_neg h59, if_neg h95, if_neg h117, if_neg h141, if_neg h163, if_neg h183, if_pos h207]))⟩, by rw [ht9]; exact hP9, hD9⟩, hS.F ht9⟩) hS.2.2 xdX13_show_368
                      ·
                        refine lv_lookup (off := 218) (tgt := 351) hx hb xdX13_show_133 (by decide) (by show Op.lookupswitch.offset [(3, 115), (19, 183), (23, 75), (35, 156), (55, 75), (99, 137), (103, 115), (111, 95)] 218 _ = 218; rw [lv_osw h35 (by decide), lv_osw h59 (by decide), lv_osw h95 (by decide), lv_osw h117 (by decide), lv_osw h141 (by decide), lv_osw h163 (by decide), lv_osw h183 (by decide), lv_osw h207 (by decide)]; rfl) (by decide) ?_
                        refine lv_aload_n hx hb xdX13_show_351 rfl (lv_at hl 6 rfl) ?_
                        refine lv_iload_n hx hb xdX13_show_352 rfl (lv_at hl 4 rfl) ?_
                        refine lv_iload hx hb xdX13_show_353 (lv_at hl 3 rfl) ?_
                        have hd231 := dl_31 (w >>> (7 &&& 31))
                        have hd232 := dl_le ((w >>> (7 &&& 31)) &&& 31)
                        have hd233 := dl_31 (w >>> (15 &&& 31))
                        have hd234 := dl_le ((w >>> (15 &&& 31)) &&& 31)
                        refine ca_v (wr := []) (rn_V (n := 2) (As := [.int ((w >>> (7 &&& 31)) &&& 31), .int ((w >>> (15 &&& 31)) &&& 31)]) (rest := []) hx hb hml hown ht hKK hFx hP hD hS hA (c_sx_thr l dC dI cI cB cZ cJ cR tb H.size h0 sa z31 (fs.set 0 (.int 0)) f32 ((w >>> (7 &&& 31)) &&& 31) ((w >>> (15 &&& 31)) &&& 31) (by first | assumption | omega | rfl | exact sb_fit0) (by first | assumption | omega | rfl | exact sb_fit0) (by first | assumption | omega | rfl | exact sb_fit0)) xw_167 xw_168 (by decide +kernel) rfl rfl ⟨Nat.le_of_ble_eq_true rfl, Nat.le_of_ble_eq_true rfl⟩ [0, 1] rfl (by decide) rfl rfl rfl rfl hl.1 rfl (Nat.le_of_ble_eq_true rfl) xdX13_show_355 ⟨Nat.le_of_ble_eq_true rfl, Nat.le_of_ble_eq_true rfl⟩) hP hD hS hA (isC := [0, 1]) (isR := []) rfl rfl (by decide) (by decide) (fun u H locs hw235 hP hD hS => ?_)
                        obtain ⟨z237, f238⟩ := u
                        obtain ⟨g239, g240⟩ := hw235
                        have g239 : z237 = z31 + (1 + dl ((w >>> (7 &&& 31)) &&& 31) + 2 + (1 + dl ((w >>> (15 &&& 31)) &&& 31)) + 2) := g239
                        have g240 : TA f32 z31 f238 z237 (thM ((w >>> (7 &&& 31)) &&& 31) ((w >>> (15 &&& 31)) &&& 31)) := g240
                        have hP : va_P (dC, dI) vwCl [(h0, .inr (16, fsN (fs.set 0 (.int 0)) z237)), (sa, .inl (cI, 60, .inl f238))] H := hP
                        have hD : va_D A [(h0, .inr (16, fsN (fs.set 0 (.int 0)) z237)), (sa, .inl (cI, 60, .inl f238))] := hD
                        refine W.widen (k := 4) (n := 32) (by omega) (by omega) ?_
                        refine lv_aload_n hx hb xdX13_show_358 rfl (lv_at hl 6 rfl) ?_
                        refine lv_iload hx hb xdX13_show_359 (lv_at hl 2 rfl) ?_
                        have hd241 := dl_31 (w >>> (20 &&& 31))
                        have hd242 := dl_le ((w >>> (20 &&& 31)) &&& 31)
                        refine ca_v (wr := []) (rn_V (n := 1) (As := [.int ((w >>> (20 &&& 31)) &&& 31)]) (rest := []) hx hb hml hown ht hKK hFx hP hD hS hA (c_sx_nam l dC dI cI cB cZ cJ cR tb H.size h0 sa z237 (fs.set 0 (.int 0)) f238 ((w >>> (20 &&& 31)) &&& 31) (by first | assumption | omega | rfl | exact sb_fit0) (by first | assumption | omega | rfl | exact sb_fit0) (by first | assumption | omega | rfl | exact sb_fit0)) xw_154 xw_155 (by decide +kernel) rfl rfl ⟨Nat.le_of_ble_eq_true rfl, Nat.le_of_ble_eq_true rfl⟩ [0, 1] rfl (by decide) rfl rfl rfl rfl hl.1 rfl (Nat.le_of_ble_eq_true rfl) xdX13_show_361 ⟨Nat.le_of_ble_eq_true rfl, Nat.le_of_ble_eq_true rfl⟩) hP hD hS hA (isC := [0, 1]) (isR := []) rfl rfl (by decide) (by decide) (fun u H locs hw243 hP hD hS => ?_)
                        obtain ⟨z245, f246⟩ := u
                        obtain ⟨g247, g248⟩ := hw243
                        have g247 : z245 = z237 + 1 + dl ((w >>> (20 &&& 31)) &&& 31) := g247
                        have g248 : TA f238 z237 f246 z245 (rgM ((w >>> (20 &&& 31)) &&& 31)) := g248
                        have hP : va_P (dC, dI) vwCl [(h0, .inr (16, fsN (fs.set 0 (.int 0)) z245)), (sa, .inl (cI, 60, .inl f246))] H := hP
                        have hD : va_D A [(h0, .inr (16, fsN (fs.set 0 (.int 0)) z245)), (sa, .inl (cI, 60, .inl f246))] := hD
                        refine W.widen (k := 4) (n := 32) (by omega) (by omega) ?_
                        refine lv_aload_n hx hb xdX13_show_364 rfl (lv_at hl 6 rfl) ?_
                        refine va_get (D := (dC, dI)) (ci := 16) (v := .int (nI z245)) (C := RX13) (T := TX13) (N := 124) hx hb ht xiX13 hown hK hP 0 rfl rfl 104 (by decide) (ht _ xw_146) (fun _ h9 => h9) (fsN_n hln) xdX13_show_365 ?_
                        have hP9 := hP.sub (ws' := [(h0, .inr (16, fsN (fs.set 0 (.int 0)) z245)), (sa, .inl (cI, 60, .inl f246))]) [0, 1] rfl
                        have hD9 := hD.sub (ws' := [(h0, .inr (16, fsN (fs.set 0 (.int 0)) z245)), (sa, .inl (cI, 60, .inl f246))]) [0, 1] (by decide) rfl
                        refine W.widen (k := 4) (n := 32) (by omega) (by omega) ?_
                        exact W.iret (v := (nI z245)) hx hb hr (fun t ht9 hW => ⟨⟨(nI z245), (z245, f246), rfl, ⟨(by first | omega | (dsimp only; omega)), (congrArg nI (by unfold lenM opM; rw [hnm]; dsimp only; rw [if_neg h27, if_neg h28, if_neg h35, if_neg h59, if_neg h95, if_neg h117, if_neg h141, if_neg h163, if_neg h183, if_neg h207]; omega)), (TA.eq (TA.tr g26 (TA.tr (TA.tr g34 g240) g248)) (by unfold tM opMT; rw [hnm]; dsimp only; rw [if_neg h27, if_neg h28, if_neg h35, if_neg h59, if_neg h95, if_neg h117, if_neg h141, if_neg h163, if_neg h183, if_neg h207]))⟩, by rw [ht9]; exact hP9, hD9⟩, hS.F ht9⟩) hS.2.2 xdX13_show_368
      · refine lv_aload_n hx hb xdX13_show_120 rfl (lv_at hl 6 rfl) ?_
        refine va_get (D := (dC, dI)) (ci := 16) (v := .int (nI z23)) (C := RX13) (T := TX13) (N := 124) hx hb ht xiX13 hown hK hP 0 rfl rfl 104 (by decide) (ht _ xw_146) (fun _ h9 => h9) (fsN_n hln) xdX13_show_121 ?_
        have hP9 := hP.sub (ws' := [(h0, .inr (16, fsN (fs.set 0 (.int 0)) z23)), (sa, .inl (cI, 60, .inl f24))]) [0, 1] rfl
        have hD9 := hD.sub (ws' := [(h0, .inr (16, fsN (fs.set 0 (.int 0)) z23)), (sa, .inl (cI, 60, .inl f24))]) [0, 1] (by decide) rfl
        refine W.widen (k := 4) (n := 32) (by omega) (by omega) ?_
        exact W.iret (v := (nI z23)) hx hb hr (fun t ht9 hW => ⟨⟨(nI z23), (z23, f24), rfl, ⟨(by first | omega | (dsimp only; omega)), (congrArg nI (by unfold lenM opM; rw [hnm]; dsimp only; rw [if_neg h27, if_pos h28]; omega)), (TA.eq (TA.eq g26 (List.append_nil _).symm) (by unfold tM opMT; rw [hnm]; dsimp only; rw [if_neg h27, if_pos h28]))⟩, by rw [ht9]; exact hP9, hD9⟩, hS.F ht9⟩) hS.2.2 xdX13_show_124
