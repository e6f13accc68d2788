theorem dX13_others_0 : decode cX13_others 0 = .ok (.iconst 0, 1) := by decide +kernel
theorem dX13_others_1 : decode cX13_others 1 = .ok (.istore_n 3, 1) := by decide +kernel
theorem dX13_others_2 : decode cX13_others 2 = .ok (.iload_n 1, 1) := by decide +kernel
theorem dX13_others_3 : decode cX13_others 3 = .ok (.bipush 17, 2) := by decide +kernel
theorem dX13_others_5 : decode cX13_others 5 = .ok (.if_icmp .eq 8, 3) := by decide +kernel
theorem dX13_others_13 : decode cX13_others 13 = .ok (.iload_n 1, 1) := by decide +kernel
theorem dX13_others_14 : decode cX13_others 14 = .ok (.tableswitch 214 16 23 #[46, 79, 120, 129, 148, 214, 158, 186], 46) := by decide +kernel
theorem dX13_others_60 : decode cX13_others 60 = .ok (.aload_n 0, 1) := by decide +kernel
theorem dX13_others_61 : decode cX13_others 61 = .ok (.getfield 856, 3) := by decide +kernel
theorem dX13_others_64 : decode cX13_others 64 = .ok (.sipush 200, 3) := by decide +kernel
theorem dX13_others_67 : decode cX13_others 67 = .ok (.if_icmp .ge 13, 3) := by decide +kernel
theorem dX13_others_93 : decode cX13_others 93 = .ok (.aload_n 0, 1) := by decide +kernel
theorem dX13_others_94 : decode cX13_others 94 = .ok (.aload_n 0, 1) := by decide +kernel
theorem dX13_others_95 : decode cX13_others 95 = .ok (.getfield 859, 3) := by decide +kernel
theorem dX13_others_98 : decode cX13_others 98 = .ok (.aload_n 0, 1) := by decide +kernel
theorem dX13_others_99 : decode cX13_others 99 = .ok (.getfield 630, 3) := by decide +kernel
theorem dX13_others_102 : decode cX13_others 102 = .ok (.if_icmp .ge 15, 3) := by decide +kernel
theorem dX13_others_117 : decode cX13_others 117 = .ok (.iconst 0, 1) := by decide +kernel
theorem dX13_others_118 : decode cX13_others 118 = .ok (.invokevirtual 836, 3) := by decide +kernel
theorem tw_332 : (.code yX13_push cX13_push 2 none : Cond) ∈ tw_W := tw_in (t8_13 (List.mem_of_getElem? (i := 33) rfl)) rfl
theorem tw_333 : ∀ w ∈ ([.methodLink RX13 836 yX13_push, .instanceMethod yX13_push, .selects RX13 yX13_push yX13_push, .initialized RX13] : List Cond), w ∈ tw_W := al_c (tw_in (t8_13 (List.mem_of_getElem? (i := 30) rfl)) rfl) (al_c (tw_in (t8_13 (List.mem_of_getElem? (i := 32) rfl)) rfl) (al_c (tw_in (t7_13 (q := (yX13_push, 124)) (List.mem_of_getElem? (i := 4) rfl)) rfl) (al_c (tw_in (t8_1 (List.mem_of_getElem? (i := 23) rfl)) rfl) al_n)))
theorem dX13_others_121 : decode cX13_others 121 = .ok (.aload_n 0, 1) := by decide +kernel
theorem dX13_others_122 : decode cX13_others 122 = .ok (.dup, 1) := by decide +kernel
theorem dX13_others_123 : decode cX13_others 123 = .ok (.getfield 859, 3) := by decide +kernel
theorem dX13_others_126 : decode cX13_others 126 = .ok (.iconst 1, 1) := by decide +kernel
theorem dX13_others_127 : decode cX13_others 127 = .ok (.iadd, 1) := by decide +kernel
theorem dX13_others_128 : decode cX13_others 128 = .ok (.putfield 859, 3) := by decide +kernel
theorem dX13_others_131 : decode cX13_others 131 = .ok (.goto 113, 3) := by decide +kernel
theorem dX13_others_244 : decode cX13_others 244 = .ok (.return_, 1) := by decide +kernel
theorem dX13_others_105 : decode cX13_others 105 = .ok (.aload_n 0, 1) := by decide +kernel
theorem dX13_others_106 : decode cX13_others 106 = .ok (.getfield 567, 3) := by decide +kernel
theorem dX13_others_109 : decode cX13_others 109 = .ok (.aload_n 0, 1) := by decide +kernel
theorem dX13_others_110 : decode cX13_others 110 = .ok (.getfield 859, 3) := by decide +kernel
theorem dX13_others_113 : decode cX13_others 113 = .ok (.iaload, 1) := by decide +kernel
theorem dX13_others_114 : decode cX13_others 114 = .ok (.goto 4, 3) := by decide +kernel
theorem dX13_others_134 : decode cX13_others 134 = .ok (.aload_n 0, 1) := by decide +kernel
theorem dX13_others_135 : decode cX13_others 135 = .ok (.iload_n 3, 1) := by decide +kernel
theorem dX13_others_136 : decode cX13_others 136 = .ok (.ineg, 1) := by decide +kernel
theorem dX13_others_137 : decode cX13_others 137 = .ok (.invokevirtual 836, 3) := by decide +kernel
theorem dX13_others_140 : decode cX13_others 140 = .ok (.goto 104, 3) := by decide +kernel
theorem dX13_others_143 : decode cX13_others 143 = .ok (.aload_n 0, 1) := by decide +kernel
theorem dX13_others_144 : decode cX13_others 144 = .ok (.iload_n 3, 1) := by decide +kernel
theorem dX13_others_145 : decode cX13_others 145 = .ok (.ifCond .ne 7, 3) := by decide +kernel
theorem dX13_others_148 : decode cX13_others 148 = .ok (.iconst 1, 1) := by decide +kernel
theorem dX13_others_149 : decode cX13_others 149 = .ok (.goto 4, 3) := by decide +kernel
theorem dX13_others_153 : decode cX13_others 153 = .ok (.invokestatic 699, 3) := by decide +kernel
theorem dX13_others_156 : decode cX13_others 156 = .ok (.invokevirtual 836, 3) := by decide +kernel
theorem dX13_others_159 : decode cX13_others 159 = .ok (.goto 85, 3) := by decide +kernel
theorem dX13_others_162 : decode cX13_others 162 = .ok (.aload_n 0, 1) := by decide +kernel
theorem dX13_others_163 : decode cX13_others 163 = .ok (.iload_n 3, 1) := by decide +kernel
theorem dX13_others_164 : decode cX13_others 164 = .ok (.iconst (-1), 1) := by decide +kernel
theorem dX13_others_165 : decode cX13_others 165 = .ok (.ixor, 1) := by decide +kernel
theorem dX13_others_166 : decode cX13_others 166 = .ok (.invokevirtual 836, 3) := by decide +kernel
theorem dX13_others_169 : decode cX13_others 169 = .ok (.goto 75, 3) := by decide +kernel
theorem dX13_others_228 : decode cX13_others 228 = .ok (.aload_n 0, 1) := by decide +kernel
theorem dX13_others_229 : decode cX13_others 229 = .ok (.iload_n 3, 1) := by decide +kernel
theorem dX13_others_230 : decode cX13_others 230 = .ok (.ifCond .eq 7, 3) := by decide +kernel
theorem dX13_others_237 : decode cX13_others 237 = .ok (.iconst 0, 1) := by decide +kernel
theorem dX13_others_238 : decode cX13_others 238 = .ok (.invokestatic 699, 3) := by decide +kernel
theorem dX13_others_241 : decode cX13_others 241 = .ok (.invokevirtual 836, 3) := by decide +kernel
theorem dX13_others_172 : decode cX13_others 172 = .ok (.iload_n 3, 1) := by decide +kernel
theorem dX13_others_173 : decode cX13_others 173 = .ok (.ifCond .ne 8, 3) := by decide +kernel
theorem dX13_others_176 : decode cX13_others 176 = .ok (.aload_n 0, 1) := by decide +kernel
theorem dX13_others_177 : decode cX13_others 177 = .ok (.iconst 0, 1) := by decide +kernel
theorem dX13_others_178 : decode cX13_others 178 = .ok (.invokevirtual 836, 3) := by decide +kernel
theorem dX13_others_181 : decode cX13_others 181 = .ok (.aload_n 0, 1) := by decide +kernel
theorem dX13_others_182 : decode cX13_others 182 = .ok (.iload_n 3, 1) := by decide +kernel
theorem dX13_others_183 : decode cX13_others 183 = .ok (.ifCond .ne 7, 3) := by decide +kernel
theorem dX13_others_186 : decode cX13_others 186 = .ok (.iload_n 2, 1) := by decide +kernel
theorem dX13_others_187 : decode cX13_others 187 = .ok (.goto 7, 3) := by decide +kernel
theorem dX13_others_194 : decode cX13_others 194 = .ok (.putfield 830, 3) := by decide +kernel
theorem tw_334 : (.fieldLink RX13 830 "PocketCompilerModel" "next" "I" : Cond) ∈ tw_W := tw_in (t8_11 (List.mem_of_getElem? (i := 29) rfl)) rfl
theorem dX13_others_197 : decode cX13_others 197 = .ok (.goto 47, 3) := by decide +kernel
theorem dX13_others_200 : decode cX13_others 200 = .ok (.iload_n 3, 1) := by decide +kernel
theorem dX13_others_201 : decode cX13_others 201 = .ok (.ifCond .eq 8, 3) := by decide +kernel
theorem dX13_others_209 : decode cX13_others 209 = .ok (.aload_n 0, 1) := by decide +kernel
theorem dX13_others_210 : decode cX13_others 210 = .ok (.iload_n 3, 1) := by decide +kernel
theorem dX13_others_211 : decode cX13_others 211 = .ok (.ifCond .eq 7, 3) := by decide +kernel
theorem dX13_others_218 : decode cX13_others 218 = .ok (.aload_n 0, 1) := by decide +kernel
theorem dX13_others_219 : decode cX13_others 219 = .ok (.getfield 830, 3) := by decide +kernel
theorem dX13_others_222 : decode cX13_others 222 = .ok (.putfield 830, 3) := by decide +kernel
theorem dX13_others_225 : decode cX13_others 225 = .ok (.goto 19, 3) := by decide +kernel
theorem dX13_others_8 : decode cX13_others 8 = .ok (.aload_n 0, 1) := by decide +kernel
theorem dX13_others_9 : decode cX13_others 9 = .ok (.invokevirtual 839, 3) := by decide +kernel
theorem tw_335 : (.code yX13_pop cX13_pop 1 (some .int) : Cond) ∈ tw_W := tw_in (t8_13 (List.mem_of_getElem? (i := 49) rfl)) rfl
theorem tw_336 : ∀ w ∈ ([.methodLink RX13 839 yX13_pop, .instanceMethod yX13_pop, .selects RX13 yX13_pop yX13_pop, .initialized RX13] : List Cond), w ∈ tw_W := al_c (tw_in (t8_13 (List.mem_of_getElem? (i := 46) rfl)) rfl) (al_c (tw_in (t8_13 (List.mem_of_getElem? (i := 48) rfl)) rfl) (al_c (tw_in (t7_13 (q := (yX13_pop, 124)) (List.mem_of_getElem? (i := 8) rfl)) rfl) (al_c (tw_in (t8_1 (List.mem_of_getElem? (i := 23) rfl)) rfl) al_n)))
theorem dX13_others_12 : decode cX13_others 12 = .ok (.istore_n 3, 1) := by decide +kernel
theorem dX13_others_80 : decode cX13_others 80 = .ok (.aload_n 0, 1) := by decide +kernel
theorem dX13_others_81 : decode cX13_others 81 = .ok (.dup, 1) := by decide +kernel
theorem dX13_others_82 : decode cX13_others 82 = .ok (.getfield 856, 3) := by decide +kernel
theorem dX13_others_85 : decode cX13_others 85 = .ok (.iconst 1, 1) := by decide +kernel
theorem dX13_others_86 : decode cX13_others 86 = .ok (.iadd, 1) := by decide +kernel
theorem dX13_others_87 : decode cX13_others 87 = .ok (.putfield 856, 3) := by decide +kernel
theorem dX13_others_90 : decode cX13_others 90 = .ok (.goto 154, 3) := by decide +kernel
theorem dX13_others_70 : decode cX13_others 70 = .ok (.aload_n 0, 1) := by decide +kernel
theorem dX13_others_71 : decode cX13_others 71 = .ok (.getfield 594, 3) := by decide +kernel
theorem dX13_others_74 : decode cX13_others 74 = .ok (.aload_n 0, 1) := by decide +kernel
theorem dX13_others_75 : decode cX13_others 75 = .ok (.getfield 856, 3) := by decide +kernel
theorem dX13_others_78 : decode cX13_others 78 = .ok (.iload_n 3, 1) := by decide +kernel
theorem dX13_others_79 : decode cX13_others 79 = .ok (.iastore, 1) := by decide +kernel
theorem dX13_others_152 : decode cX13_others 152 = .ok (.iconst 0, 1) := by decide +kernel
theorem dX13_others_233 : decode cX13_others 233 = .ok (.iconst 1, 1) := by decide +kernel
theorem dX13_others_234 : decode cX13_others 234 = .ok (.goto 4, 3) := by decide +kernel
theorem dX13_others_190 : decode cX13_others 190 = .ok (.aload_n 0, 1) := by decide +kernel
theorem dX13_others_191 : decode cX13_others 191 = .ok (.getfield 830, 3) := by decide +kernel
theorem dX13_others_204 : decode cX13_others 204 = .ok (.aload_n 0, 1) := by decide +kernel
theorem dX13_others_205 : decode cX13_others 205 = .ok (.iconst 1, 1) := by decide +kernel
theorem dX13_others_206 : decode cX13_others 206 = .ok (.invokevirtual 836, 3) := by decide +kernel
theorem dX13_others_214 : decode cX13_others 214 = .ok (.iload_n 2, 1) := by decide +kernel
theorem dX13_others_215 : decode cX13_others 215 = .ok (.goto 7, 3) := by decide +kernel
theorem dX13_operates_0 : decode cX13_operates 0 = .ok (.aload_n 0, 1) := by decide +kernel
theorem dX13_operates_1 : decode cX13_operates 1 = .ok (.invokevirtual 839, 3) := by decide +kernel
theorem dX13_operates_4 : decode cX13_operates 4 = .ok (.istore_n 2, 1) := by decide +kernel
theorem dX13_operates_5 : decode cX13_operates 5 = .ok (.aload_n 0, 1) := by decide +kernel
theorem dX13_operates_6 : decode cX13_operates 6 = .ok (.invokevirtual 839, 3) := by decide +kernel
theorem dX13_operates_9 : decode cX13_operates 9 = .ok (.istore_n 3, 1) := by decide +kernel
theorem dX13_operates_10 : decode cX13_operates 10 = .ok (.iload_n 1, 1) := by decide +kernel
theorem dX13_operates_11 : decode cX13_operates 11 = .ok (.bipush 47, 2) := by decide +kernel
theorem dX13_operates_13 : decode cX13_operates 13 = .ok (.if_icmp .eq 9, 3) := by decide +kernel
theorem dX13_operates_22 : decode cX13_operates 22 = .ok (.iload_n 2, 1) := by decide +kernel
theorem dX13_operates_23 : decode cX13_operates 23 = .ok (.ifCond .ne 5, 3) := by decide +kernel
theorem dX13_operates_28 : decode cX13_operates 28 = .ok (.aload_n 0, 1) := by decide +kernel
theorem dX13_operates_29 : decode cX13_operates 29 = .ok (.iload_n 1, 1) := by decide +kernel
theorem dX13_operates_30 : decode cX13_operates 30 = .ok (.iload_n 3, 1) := by decide +kernel
theorem dX13_operates_31 : decode cX13_operates 31 = .ok (.iload_n 2, 1) := by decide +kernel
theorem dX13_operates_32 : decode cX13_operates 32 = .ok (.invokestatic 842, 3) := by decide +kernel
theorem tw_337 : (.code yX13_worked cX13_worked 3 (some .int) : Cond) ∈ tw_W := tw_in (t8_13 (List.mem_of_getElem? (i := 60) rfl)) rfl
theorem tw_338 : ∀ w ∈ ([.methodLink RX13 842 yX13_worked, .static yX13_worked, .initialized yX13_worked.cls] : List Cond), w ∈ tw_W := al_c (tw_in (t8_13 (List.mem_of_getElem? (i := 58) rfl)) rfl) (al_c (tw_in (t8_13 (List.mem_of_getElem? (i := 59) rfl)) rfl) (al_c (tw_in (t8_1 (List.mem_of_getElem? (i := 23) rfl)) rfl) al_n))
theorem dX13_operates_35 : decode cX13_operates 35 = .ok (.invokevirtual 836, 3) := by decide +kernel
theorem dX13_operates_38 : decode cX13_operates 38 = .ok (.iconst (-1), 1) := by decide +kernel
theorem dX13_operates_39 : decode cX13_operates 39 = .ok (.ireturn, 1) := by decide +kernel
theorem dX13_operates_26 : decode cX13_operates 26 = .ok (.iconst 2, 1) := by decide +kernel
theorem dX13_operates_27 : decode cX13_operates 27 = .ok (.ireturn, 1) := by decide +kernel
theorem dX13_operates_16 : decode cX13_operates 16 = .ok (.iload_n 1, 1) := by decide +kernel
theorem dX13_operates_17 : decode cX13_operates 17 = .ok (.bipush 37, 2) := by decide +kernel
theorem dX13_operates_19 : decode cX13_operates 19 = .ok (.if_icmp .ne 9, 3) := by decide +kernel
theorem dX13_leave_0 : decode cX13_leave 0 = .ok (.aload_n 0, 1) := by decide +kernel
theorem dX13_leave_1 : decode cX13_leave 1 = .ok (.invokevirtual 839, 3) := by decide +kernel
theorem dX13_leave_4 : decode cX13_leave 4 = .ok (.istore_n 1, 1) := by decide +kernel
theorem dX13_leave_5 : decode cX13_leave 5 = .ok (.aload_n 0, 1) := by decide +kernel
theorem dX13_leave_6 : decode cX13_leave 6 = .ok (.aload_n 0, 1) := by decide +kernel
theorem dX13_leave_7 : decode cX13_leave 7 = .ok (.getfield 833, 3) := by decide +kernel
theorem tw_339 : (.fieldLink RX13 833 "PocketCompilerModel" "base" "I" : Cond) ∈ tw_W := tw_in (t8_11 (List.mem_of_getElem? (i := 28) rfl)) rfl
theorem dX13_leave_10 : decode cX13_leave 10 = .ok (.putfield 809, 3) := by decide +kernel
theorem dX13_leave_13 : decode cX13_leave 13 = .ok (.aload_n 0, 1) := by decide +kernel
theorem dX13_leave_14 : decode cX13_leave 14 = .ok (.dup, 1) := by decide +kernel
theorem dX13_leave_15 : decode cX13_leave 15 = .ok (.getfield 827, 3) := by decide +kernel
theorem tw_340 : (.fieldLink RX13 827 "PocketCompilerModel" "frames" "I" : Cond) ∈ tw_W := tw_in (t8_11 (List.mem_of_getElem? (i := 27) rfl)) rfl
theorem dX13_leave_18 : decode cX13_leave 18 = .ok (.iconst 1, 1) := by decide +kernel
theorem dX13_leave_19 : decode cX13_leave 19 = .ok (.isub, 1) := by decide +kernel
theorem dX13_leave_20 : decode cX13_leave 20 = .ok (.putfield 827, 3) := by decide +kernel
theorem dX13_leave_23 : decode cX13_leave 23 = .ok (.aload_n 0, 1) := by decide +kernel
theorem dX13_leave_24 : decode cX13_leave 24 = .ok (.dup, 1) := by decide +kernel
theorem dX13_leave_25 : decode cX13_leave 25 = .ok (.getfield 818, 3) := by decide +kernel
theorem tw_341 : (.fieldLink RX13 818 "PocketCompilerModel" "frameBytes" "I" : Cond) ∈ tw_W := tw_in (t8_11 (List.mem_of_getElem? (i := 32) rfl)) rfl
theorem dX13_leave_28 : decode cX13_leave 28 = .ok (.aload_n 0, 1) := by decide +kernel
theorem dX13_leave_29 : decode cX13_leave 29 = .ok (.getfield 528, 3) := by decide +kernel
theorem dX13_leave_32 : decode cX13_leave 32 = .ok (.aload_n 0, 1) := by decide +kernel
theorem dX13_leave_33 : decode cX13_leave 33 = .ok (.getfield 588, 3) := by decide +kernel
theorem tw_342 : (.fieldLink RX13 588 "PocketCompilerModel" "called" "[I" : Cond) ∈ tw_W := tw_in (t8_11 (List.mem_of_getElem? (i := 26) rfl)) rfl
theorem dX13_leave_36 : decode cX13_leave 36 = .ok (.aload_n 0, 1) := by decide +kernel
theorem dX13_leave_37 : decode cX13_leave 37 = .ok (.getfield 827, 3) := by decide +kernel
theorem dX13_leave_40 : decode cX13_leave 40 = .ok (.iaload, 1) := by decide +kernel
theorem dX13_leave_41 : decode cX13_leave 41 = .ok (.iaload, 1) := by decide +kernel
theorem dX13_leave_42 : decode cX13_leave 42 = .ok (.isub, 1) := by decide +kernel
theorem dX13_leave_43 : decode cX13_leave 43 = .ok (.putfield 818, 3) := by decide +kernel
theorem dX13_leave_46 : decode cX13_leave 46 = .ok (.aload_n 0, 1) := by decide +kernel
theorem dX13_leave_47 : decode cX13_leave 47 = .ok (.aload_n 0, 1) := by decide +kernel
theorem dX13_leave_48 : decode cX13_leave 48 = .ok (.getfield 582, 3) := by decide +kernel
theorem tw_343 : (.fieldLink RX13 582 "PocketCompilerModel" "backTo" "[I" : Cond) ∈ tw_W := tw_in (t8_11 (List.mem_of_getElem? (i := 24) rfl)) rfl
theorem dX13_leave_51 : decode cX13_leave 51 = .ok (.aload_n 0, 1) := by decide +kernel
theorem dX13_leave_52 : decode cX13_leave 52 = .ok (.getfield 827, 3) := by decide +kernel
theorem dX13_leave_55 : decode cX13_leave 55 = .ok (.iaload, 1) := by decide +kernel
theorem dX13_leave_56 : decode cX13_leave 56 = .ok (.putfield 830, 3) := by decide +kernel
theorem dX13_leave_59 : decode cX13_leave 59 = .ok (.aload_n 0, 1) := by decide +kernel
theorem dX13_leave_60 : decode cX13_leave 60 = .ok (.aload_n 0, 1) := by decide +kernel
theorem dX13_leave_61 : decode cX13_leave 61 = .ok (.getfield 585, 3) := by decide +kernel
theorem tw_344 : (.fieldLink RX13 585 "PocketCompilerModel" "baseOf" "[I" : Cond) ∈ tw_W := tw_in (t8_11 (List.mem_of_getElem? (i := 25) rfl)) rfl
theorem dX13_leave_64 : decode cX13_leave 64 = .ok (.aload_n 0, 1) := by decide +kernel
theorem dX13_leave_65 : decode cX13_leave 65 = .ok (.getfield 827, 3) := by decide +kernel
theorem dX13_leave_68 : decode cX13_leave 68 = .ok (.iaload, 1) := by decide +kernel
theorem dX13_leave_69 : decode cX13_leave 69 = .ok (.putfield 833, 3) := by decide +kernel
theorem dX13_leave_72 : decode cX13_leave 72 = .ok (.aload_n 0, 1) := by decide +kernel
theorem dX13_leave_73 : decode cX13_leave 73 = .ok (.iload_n 1, 1) := by decide +kernel
theorem dX13_leave_74 : decode cX13_leave 74 = .ok (.invokevirtual 836, 3) := by decide +kernel
theorem dX13_leave_77 : decode cX13_leave 77 = .ok (.aload_n 0, 1) := by decide +kernel
theorem dX13_leave_78 : decode cX13_leave 78 = .ok (.getfield 827, 3) := by decide +kernel
theorem dX13_leave_81 : decode cX13_leave 81 = .ok (.ifCond .ne 7, 3) := by decide +kernel
theorem dX13_leave_88 : decode cX13_leave 88 = .ok (.iconst (-1), 1) := by decide +kernel
theorem dX13_leave_89 : decode cX13_leave 89 = .ok (.ireturn, 1) := by decide +kernel
theorem dX13_leave_84 : decode cX13_leave 84 = .ok (.iconst 0, 1) := by decide +kernel
theorem dX13_leave_85 : decode cX13_leave 85 = .ok (.goto 4, 3) := by decide +kernel
theorem om_722d6e864a {x0 : Int} (h0 : x0 = (17 : Int)) (h1 : x0 = (16 : Int)) : False := by omega
theorem om_21af66d2d9 {x0 x1 x2 x3 x4 x5 x6 x7 x8 x9 : Int} (h0 : 0 ≤ x0 ∧ x0 ≤ x1 ∧ x1 ≤ 8192 ∧ 0 ≤ x2 ∧ x2 < 16000 ∧ 1 ≤ x3 ∧ x3 ≤ 2048 ∧ 0 ≤ x4 ∧ x4 ≤ x5 ∧ x5 ≤ 20000 ∧ 0 ≤ x6 ∧ x6 ≤ 1000000000 ∧ 0 ≤ x7 ∧ x7 ≤ 1000000000 ∧ x8 ≤ 4096 ∧ 0 ≤ x9 ∧ x9 ≤ 16384) : 0 ≤ x1 ∧ x1 < 24000 := by omega
theorem om_daba12859b {x0 x1 x2 x3 x4 x5 x6 x7 x8 x9 : Int} (h0 : 0 ≤ x0 ∧ x0 ≤ x1 ∧ x1 ≤ 8192 ∧ 0 ≤ x2 ∧ x2 < 16000 ∧ 1 ≤ x3 ∧ x3 ≤ 2048 ∧ 0 ≤ x4 ∧ x4 ≤ x5 ∧ x5 ≤ 20000 ∧ 0 ≤ x6 ∧ x6 ≤ 1000000000 ∧ 0 ≤ x7 ∧ x7 ≤ 1000000000 ∧ x8 ≤ 4096 ∧ 0 ≤ x9 ∧ x9 ≤ 16384) : -2147483648 ≤ (x1) + (1 : Int) := by omega
theorem om_feb99406a1 {x0 x1 x2 x3 x4 x5 x6 x7 x8 x9 : Int} (h0 : 0 ≤ x0 ∧ x0 ≤ x1 ∧ x1 ≤ 8192 ∧ 0 ≤ x2 ∧ x2 < 16000 ∧ 1 ≤ x3 ∧ x3 ≤ 2048 ∧ 0 ≤ x4 ∧ x4 ≤ x5 ∧ x5 ≤ 20000 ∧ 0 ≤ x6 ∧ x6 ≤ 1000000000 ∧ 0 ≤ x7 ∧ x7 ≤ 1000000000 ∧ x8 ≤ 4096 ∧ 0 ≤ x9 ∧ x9 ≤ 16384) : (x1) + (1 : Int) < 2147483648 := by omega
theorem om_a9b471c640 {x0 x1 x2 x3 x4 x5 x6 x7 x8 x9 : Int} (h0 : 0 ≤ x0 ∧ x0 ≤ x1 ∧ x1 ≤ 8192 ∧ 0 ≤ x2 ∧ x2 < 16000 ∧ 1 ≤ x3 ∧ x3 ≤ 2048 ∧ 0 ≤ x4 ∧ x4 ≤ x5 ∧ x5 ≤ 20000 ∧ 0 ≤ x6 ∧ x6 ≤ 1000000000 ∧ 0 ≤ x7 ∧ x7 ≤ 1000000000 ∧ x8 ≤ 4096 ∧ 0 ≤ x9 ∧ x9 ≤ 16384) : -2147483648 ≤ (x7) + (1 : Int) := by omega
theorem om_72f7accf21 {x0 x1 x2 x3 x4 x5 x6 x7 x8 x9 : Int} (h0 : 0 ≤ x0 ∧ x0 ≤ x1 ∧ x1 ≤ 8192 ∧ 0 ≤ x2 ∧ x2 < 16000 ∧ 1 ≤ x3 ∧ x3 ≤ 2048 ∧ 0 ≤ x4 ∧ x4 ≤ x5 ∧ x5 ≤ 20000 ∧ 0 ≤ x6 ∧ x6 ≤ 1000000000 ∧ 0 ≤ x7 ∧ x7 ≤ 1000000000 ∧ x8 ≤ 4096 ∧ 0 ≤ x9 ∧ x9 ≤ 16384) : (x7) + (1 : Int) < 2147483648 := by omega
theorem om_067ad3e2a2 {x0 : Int} (h0 : x0 = (17 : Int)) : x0 = 0 ∨ x0 = 17 ∨ x0 = 1 ∨ x0 = 3 := by omega
theorem om_0431d2536c {x0 x1 : Int} (h0 : x0 = x1 + 1) : x0 = x1 + 1 := by omega
theorem om_f93f4676ed {x0 x1 x2 x3 x4 x5 x6 x7 x8 x9 : Int} (h0 : 0 ≤ x0 ∧ x0 ≤ x1 ∧ x1 ≤ 8192 ∧ 0 ≤ x2 ∧ x2 < 16000 ∧ 1 ≤ x3 ∧ x3 ≤ 2048 ∧ 0 ≤ x4 ∧ x4 ≤ x5 ∧ x5 ≤ 20000 ∧ 0 ≤ x6 ∧ x6 ≤ 1000000000 ∧ 0 ≤ x7 ∧ x7 ≤ 1000000000 ∧ x8 ≤ 4096 ∧ 0 ≤ x9 ∧ x9 ≤ 16384) : 0 ≤ x1 := by omega
theorem om_c2c1baedc6 {x0 x1 x2 x3 x4 x5 x6 x7 x8 x9 : Int} (h0 : 0 ≤ x0 ∧ x0 ≤ x1 ∧ x1 ≤ 8192 ∧ 0 ≤ x2 ∧ x2 < 16000 ∧ 1 ≤ x3 ∧ x3 ≤ 2048 ∧ 0 ≤ x4 ∧ x4 ≤ x5 ∧ x5 ≤ 20000 ∧ 0 ≤ x6 ∧ x6 ≤ 1000000000 ∧ 0 ≤ x7 ∧ x7 ≤ 1000000000 ∧ x8 ≤ 4096 ∧ 0 ≤ x9 ∧ x9 ≤ 16384) : 0 ≤ x6 ∧ x6 ≤ x6 + 1 := by omega
theorem om_9cd803f030 {x0 x1 x2 x3 x4 x5 x6 x7 x8 x9 x10 : Int} (h0 : 0 ≤ x0 ∧ x0 ≤ x1 ∧ x1 ≤ 8192 ∧ 0 ≤ x2 ∧ x2 < 16000 ∧ 1 ≤ x3 ∧ x3 ≤ 2048 ∧ 0 ≤ x4 ∧ x4 ≤ x5 ∧ x5 ≤ 20000 ∧ 0 ≤ x6 ∧ x6 ≤ 1000000000 ∧ 0 ≤ x7 ∧ x7 ≤ 1000000000 ∧ x8 ≤ 4096 ∧ 0 ≤ x9 ∧ x9 ≤ 16384) (h1 : x10 = (x7) + (1 : Int)) : 0 ≤ x10 ∧ x10 ≤ x7 + 1 := by omega
theorem om_b005d9ffa7 {x0 x1 x2 x3 x4 x5 x6 x7 x8 x9 : Int} (h0 : 0 ≤ x0 ∧ x0 ≤ x1 ∧ x1 ≤ 8192 ∧ 0 ≤ x2 ∧ x2 < 16000 ∧ 1 ≤ x3 ∧ x3 ≤ 2048 ∧ 0 ≤ x4 ∧ x4 ≤ x5 ∧ x5 ≤ 20000 ∧ 0 ≤ x6 ∧ x6 ≤ 1000000000 ∧ 0 ≤ x7 ∧ x7 ≤ 1000000000 ∧ x8 ≤ 4096 ∧ 0 ≤ x9 ∧ x9 ≤ 16384) : 0 ≤ x7 := by omega
theorem om_ceec23807e {x0 x1 x2 x3 x4 x5 x6 x7 x8 x9 x10 : Int} (h0 : 0 ≤ x0 ∧ x0 ≤ x1 ∧ x1 ≤ 8192 ∧ 0 ≤ x2 ∧ x2 < 16000 ∧ 1 ≤ x3 ∧ x3 ≤ 2048 ∧ 0 ≤ x4 ∧ x4 ≤ x5 ∧ x5 ≤ 20000 ∧ 0 ≤ x6 ∧ x6 ≤ 1000000000 ∧ 0 ≤ x7 ∧ x7 ≤ 1000000000 ∧ x8 ≤ 4096 ∧ 0 ≤ x9 ∧ x9 ≤ 16384) (h1 : x10 = (17 : Int)) (h2 : x10 = (18 : Int)) : 0 ≤ x1 ∧ x1 < 24000 := by omega
theorem om_fec0eb7d71 {x0 x1 : Int} (h0 : x0 = (17 : Int)) (h1 : x0 = (18 : Int)) : -2147483648 ≤ (x1) + (1 : Int) := by omega
theorem om_9f77423019 {x0 x1 : Int} (h0 : x0 = (17 : Int)) (h1 : x0 = (18 : Int)) : (x1) + (1 : Int) < 2147483648 := by omega
theorem om_be71fa42b5 {x0 : Int} (h0 : x0 = (17 : Int)) (h1 : x0 = (18 : Int)) : x0 = 0 ∨ x0 = 17 ∨ x0 = 1 ∨ x0 = 3 := by omega
theorem om_385be29c2e {x0 x1 : Int} (h0 : x0 = (17 : Int)) (h1 : x0 = (18 : Int)) : 0 ≤ x1 := by omega
theorem om_9ca839a770 {x0 x1 x2 x3 x4 x5 x6 x7 x8 x9 : Int} (h0 : 0 ≤ x0 ∧ x0 ≤ x1 ∧ x1 ≤ 8192 ∧ 0 ≤ x2 ∧ x2 < 16000 ∧ 1 ≤ x3 ∧ x3 ≤ 2048 ∧ 0 ≤ x4 ∧ x4 ≤ x5 ∧ x5 ≤ 20000 ∧ 0 ≤ x6 ∧ x6 ≤ 1000000000 ∧ 0 ≤ x7 ∧ x7 ≤ 1000000000 ∧ x8 ≤ 4096 ∧ 0 ≤ x9 ∧ x9 ≤ 16384) : 0 ≤ x7 ∧ x7 ≤ x7 + 1 := by omega
theorem om_008e033817 {x0 x1 x2 x3 x4 x5 x6 x7 x8 x9 x10 : Int} (h0 : 0 ≤ x0 ∧ x0 ≤ x1 ∧ x1 ≤ 8192 ∧ 0 ≤ x2 ∧ x2 < 16000 ∧ 1 ≤ x3 ∧ x3 ≤ 2048 ∧ 0 ≤ x4 ∧ x4 ≤ x5 ∧ x5 ≤ 20000 ∧ 0 ≤ x6 ∧ x6 ≤ 1000000000 ∧ 0 ≤ x7 ∧ x7 ≤ 1000000000 ∧ x8 ≤ 4096 ∧ 0 ≤ x9 ∧ x9 ≤ 16384) (h1 : x10 = (17 : Int)) (h2 : x10 = (19 : Int)) : 0 ≤ x1 ∧ x1 < 24000 := by omega
theorem om_056a81b14d {x0 x1 : Int} (h0 : x0 = (17 : Int)) (h1 : x0 = (19 : Int)) : -2147483648 ≤ (x1) + (1 : Int) := by omega
theorem om_c151d62133 {x0 x1 : Int} (h0 : x0 = (17 : Int)) (h1 : x0 = (19 : Int)) : (x1) + (1 : Int) < 2147483648 := by omega
theorem om_2bec2fe4ff {x0 : Int} (h0 : x0 = (17 : Int)) (h1 : x0 = (19 : Int)) : x0 = 0 ∨ x0 = 17 ∨ x0 = 1 ∨ x0 = 3 := by omega
theorem om_34befb1757 {x0 x1 x2 : Int} (h0 : x0 = (17 : Int)) (h1 : x0 = (19 : Int)) : x1 = x2 + 1 := by omega
theorem om_cccc288ec3 {x0 x2 : Int} {n1 : Nat} (h0 : x0 = (17 : Int)) (h1 : x0 = (19 : Int)) : (n1 : Int) < x2 := by omega
theorem om_3ec35f1bf4 {x0 x1 : Int} (h0 : x0 = (17 : Int)) (h1 : x0 = (19 : Int)) : 0 ≤ x1 := by omega
theorem om_014e3f04a8 {x0 x1 : Int} (h0 : x0 = (17 : Int)) (h1 : x0 = (19 : Int)) : 0 ≤ x1 ∧ x1 ≤ x1 + 1 := by omega
theorem om_dd03478acf {x0 x1 x2 x3 x4 x5 x6 x7 x8 x9 x10 : Int} (h0 : 0 ≤ x0 ∧ x0 ≤ x1 ∧ x1 ≤ 8192 ∧ 0 ≤ x2 ∧ x2 < 16000 ∧ 1 ≤ x3 ∧ x3 ≤ 2048 ∧ 0 ≤ x4 ∧ x4 ≤ x5 ∧ x5 ≤ 20000 ∧ 0 ≤ x6 ∧ x6 ≤ 1000000000 ∧ 0 ≤ x7 ∧ x7 ≤ 1000000000 ∧ x8 ≤ 4096 ∧ 0 ≤ x9 ∧ x9 ≤ 16384) (h1 : x10 = (17 : Int)) (h2 : x10 = (20 : Int)) : 0 ≤ x1 ∧ x1 < 24000 := by omega
theorem om_dd398882c1 {x0 x1 : Int} (h0 : x0 = (17 : Int)) (h1 : x0 = (20 : Int)) : -2147483648 ≤ (x1) + (1 : Int) := by omega
theorem om_79ab075cb7 {x0 x1 : Int} (h0 : x0 = (17 : Int)) (h1 : x0 = (20 : Int)) : (x1) + (1 : Int) < 2147483648 := by omega
theorem om_aff5e618dc {x0 : Int} (h0 : x0 = (17 : Int)) (h1 : x0 = (20 : Int)) : x0 = 0 ∨ x0 = 17 ∨ x0 = 1 ∨ x0 = 3 := by omega
theorem om_ea385d4f7a {x0 x1 x2 : Int} (h0 : x0 = (17 : Int)) (h1 : x0 = (20 : Int)) : x1 = x2 + 1 := by omega
theorem om_cdd738068b {x0 x2 : Int} {n1 : Nat} (h0 : x0 = (17 : Int)) (h1 : x0 = (20 : Int)) : (n1 : Int) < x2 := by omega
theorem om_aa1b20c03a {x0 x1 : Int} (h0 : x0 = (17 : Int)) (h1 : x0 = (20 : Int)) : 0 ≤ x1 := by omega
theorem om_54a7878be9 {x0 x1 : Int} (h0 : x0 = (17 : Int)) (h1 : x0 = (20 : Int)) : 0 ≤ x1 ∧ x1 ≤ x1 + 1 := by omega
theorem om_a3c89b2bae {x0 x1 x2 x3 x4 x5 x6 x7 x8 x9 x10 : Int} (h0 : 0 ≤ x0 ∧ x0 ≤ x1 ∧ x1 ≤ 8192 ∧ 0 ≤ x2 ∧ x2 < 16000 ∧ 1 ≤ x3 ∧ x3 ≤ 2048 ∧ 0 ≤ x4 ∧ x4 ≤ x5 ∧ x5 ≤ 20000 ∧ 0 ≤ x6 ∧ x6 ≤ 1000000000 ∧ 0 ≤ x7 ∧ x7 ≤ 1000000000 ∧ x8 ≤ 4096 ∧ 0 ≤ x9 ∧ x9 ≤ 16384) (h1 : x10 = (17 : Int)) (h2 : x10 = (21 : Int)) : 0 ≤ x1 ∧ x1 < 24000 := by omega
theorem om_963984764b {x0 x1 : Int} (h0 : x0 = (17 : Int)) (h1 : x0 = (21 : Int)) : -2147483648 ≤ (x1) + (1 : Int) := by omega
theorem om_1c929c02db {x0 x1 : Int} (h0 : x0 = (17 : Int)) (h1 : x0 = (21 : Int)) : (x1) + (1 : Int) < 2147483648 := by omega
theorem om_90684cf632 {x0 : Int} (h0 : x0 = (17 : Int)) (h1 : x0 = (21 : Int)) : x0 = 0 ∨ x0 = 17 ∨ x0 = 1 ∨ x0 = 3 := by omega
theorem om_93eda5b5b7 {x0 x1 x2 : Int} (h0 : x0 = (17 : Int)) (h1 : x0 = (21 : Int)) : x1 = x2 + 1 := by omega
theorem om_7980fbc484 {x0 x2 : Int} {n1 : Nat} (h0 : x0 = (17 : Int)) (h1 : x0 = (21 : Int)) : (n1 : Int) < x2 := by omega
theorem om_b2a39494a8 {x0 x1 : Int} (h0 : x0 = (17 : Int)) (h1 : x0 = (21 : Int)) : 0 ≤ x1 := by omega
theorem om_d668faaf0c {x0 x1 : Int} (h0 : x0 = (17 : Int)) (h1 : x0 = (21 : Int)) : 0 ≤ x1 ∧ x1 ≤ x1 + 1 := by omega
theorem om_c3e7617156 {x0 x1 x2 x3 x4 x5 x6 x7 x8 x9 x10 : Int} (h0 : 0 ≤ x0 ∧ x0 ≤ x1 ∧ x1 ≤ 8192 ∧ 0 ≤ x2 ∧ x2 < 16000 ∧ 1 ≤ x3 ∧ x3 ≤ 2048 ∧ 0 ≤ x4 ∧ x4 ≤ x5 ∧ x5 ≤ 20000 ∧ 0 ≤ x6 ∧ x6 ≤ 1000000000 ∧ 0 ≤ x7 ∧ x7 ≤ 1000000000 ∧ x8 ≤ 4096 ∧ 0 ≤ x9 ∧ x9 ≤ 16384) (h1 : x10 = (17 : Int)) (h2 : x10 = (22 : Int)) : 0 ≤ x1 ∧ x1 < 24000 := by omega
theorem om_927da4e3b8 {x0 x1 : Int} (h0 : x0 = (17 : Int)) (h1 : x0 = (22 : Int)) : -2147483648 ≤ (x1) + (1 : Int) := by omega
theorem om_93b41d4430 {x0 x1 : Int} (h0 : x0 = (17 : Int)) (h1 : x0 = (22 : Int)) : (x1) + (1 : Int) < 2147483648 := by omega
theorem om_267f79955d {x0 : Int} (h0 : x0 = (17 : Int)) (h1 : x0 = (22 : Int)) : x0 = 0 ∨ x0 = 17 ∨ x0 = 1 ∨ x0 = 3 := by omega
theorem om_f5a13336c3 {x0 x1 x2 : Int} (h0 : x0 = (17 : Int)) (h1 : x0 = (22 : Int)) : x1 = x2 + 1 := by omega
theorem om_9773f0a561 {x0 x2 : Int} {n1 : Nat} (h0 : x0 = (17 : Int)) (h1 : x0 = (22 : Int)) : (n1 : Int) < x2 := by omega
theorem om_11db1133e1 {x0 x1 : Int} (h0 : x0 = (17 : Int)) (h1 : x0 = (22 : Int)) : 0 ≤ x1 := by omega
theorem om_7c4613a6cb {x0 x1 : Int} (h0 : x0 = (17 : Int)) (h1 : x0 = (22 : Int)) : 0 ≤ x1 ∧ x1 ≤ x1 + 1 := by omega
theorem om_032ef1df01 {x0 : Int} (h0 : x0 = (17 : Int)) (h1 : x0 = (23 : Int)) : x0 = 0 ∨ x0 = 17 ∨ x0 = 1 ∨ x0 = 3 := by omega
theorem om_45cf8952d4 {x0 x1 x2 : Int} (h0 : x0 = (17 : Int)) (h1 : x0 = (23 : Int)) : x1 = x2 + 1 := by omega
theorem om_c6afb1cf9b {x0 x1 : Int} (h0 : x0 = (17 : Int)) (h1 : x0 = (23 : Int)) : x1 = x1 + 1 := by omega
theorem om_26283aa838 {x0 x1 : Int} (h0 : x0 = (17 : Int)) (h1 : x0 = (23 : Int)) : 0 ≤ x1 ∧ x1 ≤ x1 + 1 := by omega
theorem om_b67f52742d {x0 : Int} (h0 : 16 ≤ x0 ∧ x0 ≤ 24 ∧ x0 ≠ 21) (h1 : x0 ≠ (17 : Int)) : 16 ≤ x0 ∧ x0 ≤ 24 ∧ x0 ≠ 21 ∧ x0 ≠ 17 := by omega
theorem om_89fa2c872a {x0 x1 x2 x3 x4 x5 x6 x7 x8 x9 : Int} (h0 : 0 ≤ x0 ∧ x0 ≤ x1 ∧ x1 ≤ 8192 ∧ 0 ≤ x2 ∧ x2 < 16000 ∧ 1 ≤ x3 ∧ x3 ≤ 2048 ∧ 0 ≤ x4 ∧ x4 ≤ x5 ∧ x5 ≤ 20000 ∧ 0 ≤ x6 ∧ x6 ≤ 1000000000 ∧ 0 ≤ x7 ∧ x7 ≤ 1000000000 ∧ x8 ≤ 4096 ∧ 0 ≤ x9 ∧ x9 ≤ 16384) (h1 : 1 ≤ x1) : 1 ≤ x1 ∧ x1 ≤ 24000 := by omega
theorem om_1ea8132e01 {x0 : Int} (h0 : 1 ≤ x0) : -2147483648 ≤ (x0) - (1 : Int) := by omega
theorem om_5ad56c0db6 {x0 x1 x2 x3 x4 x5 x6 x7 x8 x9 : Int} (h0 : 0 ≤ x0 ∧ x0 ≤ x1 ∧ x1 ≤ 8192 ∧ 0 ≤ x2 ∧ x2 < 16000 ∧ 1 ≤ x3 ∧ x3 ≤ 2048 ∧ 0 ≤ x4 ∧ x4 ≤ x5 ∧ x5 ≤ 20000 ∧ 0 ≤ x6 ∧ x6 ≤ 1000000000 ∧ 0 ≤ x7 ∧ x7 ≤ 1000000000 ∧ x8 ≤ 4096 ∧ 0 ≤ x9 ∧ x9 ≤ 16384) : (x1) - (1 : Int) < 2147483648 := by omega
theorem om_bcdb338b29 {x0 x1 x2 x3 x4 x5 x6 x7 x8 x9 : Int} (h0 : 0 ≤ x0 ∧ x0 ≤ x1 ∧ x1 ≤ 8192 ∧ 0 ≤ x2 ∧ x2 < 16000 ∧ 1 ≤ x3 ∧ x3 ≤ 2048 ∧ 0 ≤ x4 ∧ x4 ≤ x5 ∧ x5 ≤ 20000 ∧ 0 ≤ x6 ∧ x6 ≤ 1000000000 ∧ 0 ≤ x7 ∧ x7 ≤ 1000000000 ∧ x8 ≤ 4096 ∧ 0 ≤ x9 ∧ x9 ≤ 16384) : (x6) + (1 : Int) < 2147483648 := by omega
theorem om_f328d747b2 {x0 : Int} (h0 : 16 ≤ x0 ∧ x0 ≤ 24 ∧ x0 ≠ 21) (h1 : x0 = (16 : Int)) : x0 = 9 ∨ x0 = 10 ∨ x0 = 11 ∨ x0 = 16 ∨ x0 = 22 ∨ x0 = 23 := by omega
theorem om_096fce220b {x0 x1 : Int} (h0 : (200 : Int) ≤ x0) (h1 : x1 = (x0) + (1 : Int)) : 0 ≤ x1 ∧ x1 ≤ x0 + 1 := by omega
theorem om_c51e7b5b33 {x0 x1 x2 x3 x4 x5 x6 x7 x8 x9 : Int} (h0 : 0 ≤ x0 ∧ x0 ≤ x1 ∧ x1 ≤ 8192 ∧ 0 ≤ x2 ∧ x2 < 16000 ∧ 1 ≤ x3 ∧ x3 ≤ 2048 ∧ 0 ≤ x4 ∧ x4 ≤ x5 ∧ x5 ≤ 20000 ∧ 0 ≤ x6 ∧ x6 ≤ 1000000000 ∧ 0 ≤ x7 ∧ x7 ≤ 1000000000 ∧ x8 ≤ 4096 ∧ 0 ≤ x9 ∧ x9 ≤ 16384) : 0 ≤ x6 := by omega
theorem om_30b1fb5333 {x0 x1 x2 x3 x4 x5 x6 x7 x8 x9 : Int} (h0 : 0 ≤ x0 ∧ x0 ≤ x1 ∧ x1 ≤ 8192 ∧ 0 ≤ x2 ∧ x2 < 16000 ∧ 1 ≤ x3 ∧ x3 ≤ 2048 ∧ 0 ≤ x4 ∧ x4 ≤ x5 ∧ x5 ≤ 20000 ∧ 0 ≤ x6 ∧ x6 ≤ 1000000000 ∧ 0 ≤ x7 ∧ x7 ≤ 1000000000 ∧ x8 ≤ 4096 ∧ 0 ≤ x9 ∧ x9 ≤ 16384) : -2147483648 ≤ (x6) + (1 : Int) := by omega
theorem om_2d51ed27ee {x0 x1 x2 x3 x4 x5 x6 x7 x8 x9 x10 : Int} (h0 : 0 ≤ x0 ∧ x0 ≤ x1 ∧ x1 ≤ 8192 ∧ 0 ≤ x2 ∧ x2 < 16000 ∧ 1 ≤ x3 ∧ x3 ≤ 2048 ∧ 0 ≤ x4 ∧ x4 ≤ x5 ∧ x5 ≤ 20000 ∧ 0 ≤ x6 ∧ x6 ≤ 1000000000 ∧ 0 ≤ x7 ∧ x7 ≤ 1000000000 ∧ x8 ≤ 4096 ∧ 0 ≤ x9 ∧ x9 ≤ 16384) (h1 : x10 = (x6) + (1 : Int)) : 0 ≤ x10 ∧ x10 ≤ x6 + 1 := by omega
theorem om_b9769f74ce {x0 x1 x2 x3 x4 x5 x6 x7 x8 x9 x10 : Int} (h0 : 0 ≤ x0 ∧ x0 ≤ x1 ∧ x1 ≤ 8192 ∧ 0 ≤ x2 ∧ x2 < 16000 ∧ 1 ≤ x3 ∧ x3 ≤ 2048 ∧ 0 ≤ x4 ∧ x4 ≤ x5 ∧ x5 ≤ 20000 ∧ 0 ≤ x6 ∧ x6 ≤ 1000000000 ∧ 0 ≤ x7 ∧ x7 ≤ 1000000000 ∧ x8 ≤ 4096 ∧ 0 ≤ x9 ∧ x9 ≤ 16384) (h1 : 1 ≤ x1) (h2 : x10 = (x1) - (1 : Int)) : 0 ≤ x10 ∧ x10 < 24000 := by omega
theorem om_2d6ae04023 {x0 : Int} (h0 : 1 ≤ x0) : -2147483648 ≤ ((x0) - (1 : Int)) + (1 : Int) := by omega
theorem om_163065fe51 {x0 x1 x2 x3 x4 x5 x6 x7 x8 x9 : Int} (h0 : 0 ≤ x0 ∧ x0 ≤ x1 ∧ x1 ≤ 8192 ∧ 0 ≤ x2 ∧ x2 < 16000 ∧ 1 ≤ x3 ∧ x3 ≤ 2048 ∧ 0 ≤ x4 ∧ x4 ≤ x5 ∧ x5 ≤ 20000 ∧ 0 ≤ x6 ∧ x6 ≤ 1000000000 ∧ 0 ≤ x7 ∧ x7 ≤ 1000000000 ∧ x8 ≤ 4096 ∧ 0 ≤ x9 ∧ x9 ≤ 16384) : ((x1) - (1 : Int)) + (1 : Int) < 2147483648 := by omega
theorem om_68101d6440 {x0 x1 x2 : Int} (h0 : x0 ≠ (17 : Int)) (h1 : x0 = (17 : Int)) (h2 : x1 = ((x2) - (1 : Int)) + (1 : Int)) : x1 = x2 + 1 := by omega
theorem om_480324a27c {x0 x2 : Int} {n1 : Nat} (h0 : x0 ≠ (17 : Int)) (h1 : x0 = (17 : Int)) : (n1 : Int) < x2 := by omega
theorem om_ecfb7d2efe {x0 x1 : Int} (h0 : 1 ≤ x0) (h1 : x1 = (x0) - (1 : Int)) : 0 ≤ x1 := by omega
theorem om_9fb619fb6e {x0 : Int} (h0 : x0 = (18 : Int)) : x0 = 18 ∨ x0 = 19 ∨ x0 = 20 ∨ x0 = 24 := by omega
theorem om_e2d5010e12 {x0 x1 : Int} (h0 : x0 = ((x1) - (1 : Int)) + (1 : Int)) : x0 = x1 := by omega
theorem om_8c41dc5a15 {x0 x1 : Int} {n2 : Nat} (h0 : x0 = (x1) - (1 : Int)) (h1 : (n2 : Int) + 1 < x1) : (n2 : Int) < x0 := by omega
theorem om_fdc13a1887 {x0 : Int} (h0 : x0 = (19 : Int)) : x0 = 18 ∨ x0 = 19 ∨ x0 = 20 ∨ x0 = 24 := by omega
theorem om_2340ef3ae6 {x0 : Int} (h0 : x0 = (20 : Int)) : x0 = 18 ∨ x0 = 19 ∨ x0 = 20 ∨ x0 = 24 := by omega
theorem om_c712c2b2ed {x0 : Int} (h0 : 16 ≤ x0 ∧ x0 ≤ 24 ∧ x0 ≠ 21) (h1 : x0 = (21 : Int)) : x0 = 18 ∨ x0 = 19 ∨ x0 = 20 ∨ x0 = 24 := by omega
theorem om_c10df8c960 {x0 : Int} (h0 : x0 = (22 : Int)) : x0 = 9 ∨ x0 = 10 ∨ x0 = 11 ∨ x0 = 16 ∨ x0 = 22 ∨ x0 = 23 := by omega
theorem om_8c248b53ea {x0 : Int} (h0 : x0 = (22 : Int)) : x0 ≠ 12 := by omega
theorem om_46777bbebe {x0 : Int} (h0 : x0 = (22 : Int)) : x0 = 12 ∨ x0 = 22 ∨ x0 = 23 := by omega
theorem om_2125b3c8ad {x0 : Int} (h0 : x0 = (23 : Int)) : x0 = 9 ∨ x0 = 10 ∨ x0 = 11 ∨ x0 = 16 ∨ x0 = 22 ∨ x0 = 23 := by omega
theorem om_3275983358 {x0 : Int} (h0 : x0 = (23 : Int)) : x0 ≠ 12 := by omega
theorem om_70da8ac604 {x0 : Int} (h0 : x0 = (23 : Int)) : x0 = 12 ∨ x0 = 22 ∨ x0 = 23 := by omega
theorem om_e7986ae813 {x0 : Int} (h0 : 16 ≤ x0 ∧ x0 ≤ 24 ∧ x0 ≠ 21) (h1 : x0 ≠ (16 : Int)) (h2 : x0 ≠ (17 : Int)) (h3 : x0 ≠ (18 : Int)) (h4 : x0 ≠ (19 : Int)) (h5 : x0 ≠ (20 : Int)) (h6 : x0 ≠ (21 : Int)) (h7 : x0 ≠ (22 : Int)) (h8 : x0 ≠ (23 : Int)) : x0 = 18 ∨ x0 = 19 ∨ x0 = 20 ∨ x0 = 24 := by omega
set_option maxHeartbeats 4000000 in
set_option maxRecDepth 100000 in
theorem c_m_others (l : Launch) (dC : Nat → ClassId) (dI : Nat → Nat → Nat) (cI cB cZ cJ cR : ClassId) (tb : Nat → Nat) (sz : Nat) (ad : Nat → Nat) (N : Nat) (v : MS) (pa : Int32) (pb : Int32) (Tt : Nat → Nat → TT) (Ee : Nat → Nat) (hg : Nat → Int) (jg : Int32) (mi : MI Tt Ee hg v jg) (zj : (v.1 0 112).toInt = jg.toInt + 1) (eo : pa = (v.1 71) jg.toNatClampNeg) (ea : pb = (v.1 72) jg.toNatClampNeg) (zo : 16 ≤ pa.toInt ∧ pa.toInt ≤ 24 ∧ pa.toInt ≠ 21) (zg : 0 ≤ (v.1 0 94).toInt ∧ (v.1 0 94).toInt ≤ 64) : Met l yX13_others (Cond.code yX13_others cX13_others 4 none :: tw_W) ({ frames := 1, cells := 0, slots := 0, locals := 21 }) (pc_ (dC, dI) (tyS cI cB cZ cJ cR) tb (mW ad N cI cZ cJ v) sz [.ref (ad 0), .int pa, .int pb]) (qv_ (dC, dI) (mW ad N cI cZ cJ v) sz (fun (u : MS) => FG [106, 112, 119, 120] [0, 105, 118] v u ∧ (Q_m_others v pa pb u) ∧ (MI Tt Ee hg u (u.1 0 112) ∧ PHI Tt u (u.1 0 112) < PHI Tt v jg)) (fun (u : MS) => (mW ad N cI cZ cJ u))) 0 0 (va_A (mW ad N cI cZ cJ v) sz) := by
  refine Met.ofW (cc := cX13_others) (maxL := 4) (ret := none) (by decide) rfl ?_
  intro p e s m args below meth c s₁ B hml hv
  obtain ⟨rfl, hsz, hP, hKK, hD0, hFx⟩ := hv
  have hK := hKK.1
  have hx := B.exec
  have hb := B.bytes
  have hr := B.returns
  have ht : ∀ w ∈ tw_W, w.before _ s = true := fun w h => atoms_spec (ws := Cond.code yX13_others cX13_others 4 none :: tw_W) B.pre w (List.mem_cons_of_mem _ h)
  have hown : s.vm.findClass RX13 = some m.cls := findClass_of_methodNamed B.named
  have hlocks := B.notSynchronized
  subst hsz
  unfold qv_
  have hD := hD0.self (sz := s.heap.size)
  generalize hAe : va_A (mW ad N cI cZ cJ v) s.heap.size = A at hD hFx ⊢
  have hA : ∀ q : Nat, s.heap.size ≤ q → A q := fun q h => by rw [← hAe]; exact Or.inr h
  have hS : va_S A s.heap s.heap [] := va_S.rf
  have hl := lv_entry ([.ref (ad 0), .int pa, .int pb]) (n := 4) (Nat.le_of_ble_eq_true rfl)
  rw [lg_entry_eq]
  generalize (lg_sl ([.ref (ad 0), .int pa, .int pb]) ++ List.replicate (4 - (lg_sl ([.ref (ad 0), .int pa, .int pb])).length) Slot.unset).toArray = ls at hl ⊢
  have hl : lv_has ls 4 [(0, .ref (ad 0)), (1, .int pa), (2, .int pb)] := hl
  have nm9 : 0 ≤ (v.1 0 111).toInt ∧ (v.1 0 111).toInt ≤ (v.1 0 106).toInt ∧ (v.1 0 106).toInt ≤ 8192 ∧ 0 ≤ jg.toInt ∧ jg.toInt < 16000 ∧ 1 ≤ (v.1 0 110).toInt ∧ (v.1 0 110).toInt ≤ 2048 ∧ 0 ≤ (v.1 0 113).toInt ∧ (v.1 0 113).toInt ≤ (v.1 0 114).toInt ∧ (v.1 0 114).toInt ≤ 20000 ∧ 0 ≤ (v.1 0 119).toInt ∧ (v.1 0 119).toInt ≤ 1000000000 ∧ 0 ≤ (v.1 0 120).toInt ∧ (v.1 0 120).toInt ≤ 1000000000 ∧ (v.1 0 76).toInt ≤ 4096 ∧ 0 ≤ (v.1 0 115).toInt ∧ (v.1 0 115).toInt ≤ 16384 := mi.lin
  refine lv_iconst (v := 0) hx hb dX13_others_0 (by decide) ?_
  refine lv_istore_n (lv' := [(3, .int 0), (0, .ref (ad 0)), (1, .int pa), (2, .int pb)]) hx hb dX13_others_1 rfl hl (by decide) rfl (fun ls hl => ?_)
  refine lv_iload_n hx hb dX13_others_2 rfl (lv_at hl 2 rfl) ?_
  refine lv_bipush (v := 17) hx hb dX13_others_3 (by decide) ?_
  refine lv_icmp_eq (tgt := 13) hx hb dX13_others_5 (by decide) (fun h1 => ?_) (fun h1 => ?_)
  · have z2 : pa.toInt = (17 : Int) := eq_z rfl (show (17 : Int32).toInt = (17 : Int) by decide) h1
    refine lv_iload_n hx hb dX13_others_13 rfl (lv_at hl 2 rfl) ?_
    by_cases h3 : pa = 16
    · refine lv_tableIn (off := 46) (tgt := 60) hx hb dX13_others_14 (by rw [h3]; decide) (by rw [h3]; decide) (by rw [h3]; decide) (by decide) ?_
      have z4 : pa.toInt = (16 : Int) := eq_z rfl (show (16 : Int32).toInt = (16 : Int) by decide) h3
      refine lv_aload_n hx hb dX13_others_60 rfl (lv_at hl 1 rfl) ?_
      refine va_get (D := (dC, dI)) (ci := 16) (fs := mF ad v) (v := .int (v.1 0 119)) (C := RX13) (T := TX13) (N := 124) hx hb ht itX13 hown hK hP 0 rfl rfl 119 (by decide) (ht _ tw_309) (fun _ h9 => h9) rfl dX13_others_61 ?_
      refine lv_sipush (v := 200) hx hb dX13_others_64 (by decide) ?_
      refine lv_icmp_ge (tgt := 80) hx hb dX13_others_67 (by decide) (fun h5 => ?_) (fun h5 => ?_)
      · have z6 : (200 : Int) ≤ (v.1 0 119).toInt := le_z (show (200 : Int32).toInt = (200 : Int) by decide) rfl h5
        exact False.elim (om_722d6e864a z2 z4)
      · have z7 : (v.1 0 119).toInt < (200 : Int) := nle_z (show (200 : Int32).toInt = (200 : Int) by decide) rfl h5
        exact False.elim (om_722d6e864a z2 z4)
    ·
      have z8 : pa.toInt ≠ (16 : Int) := ne_z rfl (show (16 : Int32).toInt = (16 : Int) by decide) h3
      by_cases h9 : pa = 17
      · refine lv_tableIn (off := 79) (tgt := 93) hx hb dX13_others_14 (by rw [h9]; decide) (by rw [h9]; decide) (by rw [h9]; decide) (by decide) ?_
        have z10 : pa.toInt = (17 : Int) := eq_z rfl (show (17 : Int32).toInt = (17 : Int) by decide) h9
        refine lv_aload_n hx hb dX13_others_93 rfl (lv_at hl 1 rfl) ?_
        refine lv_aload_n hx hb dX13_others_94 rfl (lv_at hl 1 rfl) ?_
        refine va_get (D := (dC, dI)) (ci := 16) (fs := mF ad v) (v := .int (v.1 0 120)) (C := RX13) (T := TX13) (N := 124) hx hb ht itX13 hown hK hP 0 rfl rfl 120 (by decide) (ht _ tw_310) (fun _ h9 => h9) rfl dX13_others_95 ?_
        refine lv_aload_n hx hb dX13_others_98 rfl (lv_at hl 1 rfl) ?_
        refine va_get (D := (dC, dI)) (ci := 16) (fs := mF ad v) (v := .int (v.1 0 94)) (C := RX13) (T := TX13) (N := 124) hx hb ht itX13 hown hK hP 0 rfl rfl 94 (by decide) (ht _ tw_225) (fun _ h9 => h9) rfl dX13_others_99 ?_
        refine lv_icmp_ge (tgt := 117) hx hb dX13_others_102 (by decide) (fun h11 => ?_) (fun h11 => ?_)
        · have z12 : (v.1 0 94).toInt ≤ (v.1 0 120).toInt := le_z rfl rfl h11
          refine lv_iconst (v := 0) hx hb dX13_others_117 (by decide) ?_
          refine cu_v (rn_V (n := 1) (As := [.int 0]) (rest := []) hx hb hml hown ht hKK hFx hP hD hS hA (c_m_push l dC dI cI cB cZ cJ cR tb s.heap.size ad N v (0 : Int32) (show 0 ≤ (v.1 0 106).toInt ∧ (v.1 0 106).toInt < 24000 from (om_21af66d2d9 nm9))) tw_332 tw_333 (by decide +kernel) rfl rfl ⟨Nat.le_of_ble_eq_true rfl, Nat.le_of_ble_eq_true rfl⟩ (List.range (mW ad N cI cZ cJ v).length) (rg_map _) (mW_nd _ _ _ _ _ _) rfl rfl rfl rfl hl.1 rfl (Nat.le_of_ble_eq_true rfl) dX13_others_118 ⟨Nat.le_of_ble_eq_true rfl, Nat.le_of_ble_eq_true rfl⟩) hP hD hS hA (fun u14 H locs hw13 hP hD hS => ?_)
          obtain rfl := hw13
          have z16 : ((v.1 0 106) + (1 : Int32)).toInt = ((v.1 0 106).toInt) + (1 : Int) := add_z rfl (show (1 : Int32).toInt = (1 : Int) by decide) (om_daba12859b nm9) (om_feb99406a1 nm9)
          have hP : va_P (dC, dI) vwCl (mW ad N cI cZ cJ (wA (wA v 105 ((v.1 0 106).toNatClampNeg) (0 : Int32)) 0 106 ((v.1 0 106) + (1 : Int32)))) H := hP
          have hD : va_D A (mW ad N cI cZ cJ (wA (wA v 105 ((v.1 0 106).toNatClampNeg) (0 : Int32)) 0 106 ((v.1 0 106) + (1 : Int32)))) := hD
          refine W.widen (k := 0) (n := 0) (Nat.le_refl _) (Nat.le_refl _) ?_
          refine lv_aload_n hx hb dX13_others_121 rfl (lv_at hl 1 rfl) ?_
          refine lv_dup hx hb dX13_others_122 rfl ?_
          refine va_get (D := (dC, dI)) (ci := 16) (fs := mF ad (wA (wA v 105 ((v.1 0 106).toNatClampNeg) (0 : Int32)) 0 106 ((v.1 0 106) + (1 : Int32)))) (v := .int (v.1 0 120)) (C := RX13) (T := TX13) (N := 124) hx hb ht itX13 hown hK hP 0 rfl rfl 120 (by decide) (ht _ tw_310) (fun _ h9 => h9) rfl dX13_others_123 ?_
          refine lv_iconst (v := 1) hx hb dX13_others_126 (by decide) ?_
          refine lv_iadd hx hb dX13_others_127 ?_
          have z17 : ((v.1 0 120) + (1 : Int32)).toInt = ((v.1 0 120).toInt) + (1 : Int) := add_z rfl (show (1 : Int32).toInt = (1 : Int) by decide) (om_a9b471c640 nm9) (om_72f7accf21 nm9)
          refine va_put (D := (dC, dI)) (ci := 16) (fs := mF ad (wA (wA v 105 ((v.1 0 106).toNatClampNeg) (0 : Int32)) 0 106 ((v.1 0 106) + (1 : Int32)))) (v := .int ((v.1 0 120) + (1 : Int32))) (ty := .int) (C := RX13) (T := TX13) (N := 124) hx hb ht itX13 tyX13 tyX13_ok nmX13 hown hK hP hD hS 0 rfl rfl 120 (by decide) (ht _ tw_310) (fun _ h9 => h9) rfl (by decide +kernel) rfl rfl (Nat.le_of_ble_eq_true rfl) dX13_others_128 (fun H locs hP hD hS => ?_)
          have hP := cP_ (mw_120 ad N cI cZ cJ (wA (wA v 105 ((v.1 0 106).toNatClampNeg) (0 : Int32)) 0 106 ((v.1 0 106) + (1 : Int32))) ((v.1 0 120) + (1 : Int32))) hP
          have hD := cD_ (mw_120 ad N cI cZ cJ (wA (wA v 105 ((v.1 0 106).toNatClampNeg) (0 : Int32)) 0 106 ((v.1 0 106) + (1 : Int32))) ((v.1 0 120) + (1 : Int32))) hD
          refine lv_goto (tgt := 244) hx hb dX13_others_131 (by decide) ?_
          exact W.vret hx hb hr (fun t ht9 hW => ⟨⟨(wA (wA (wA v 105 ((v.1 0 106).toNatClampNeg) (0 : Int32)) 0 106 ((v.1 0 106) + (1 : Int32))) 0 120 ((v.1 0 120) + (1 : Int32))), rfl, ⟨(FG.f (FG.f (FG.a (FG.rf _) ((v.1 0 106).toNatClampNeg) (0 : Int32) (by decide) (by decide)) ((v.1 0 106) + (1 : Int32)) (by decide)) ((v.1 0 120) + (1 : Int32)) (by decide)), ⟨zo, zg, (Or.inl ⟨z2, h3, (Or.inl ⟨h9, (Or.inl ⟨z12, rfl⟩)⟩)⟩)⟩, (MI.psh (u := (wA (wA (wA v 105 ((v.1 0 106).toNatClampNeg) (0 : Int32)) 0 106 ((v.1 0 106) + (1 : Int32))) 0 120 ((v.1 0 120) + (1 : Int32)))) mi (by rw [← eo]; exact (om_067ad3e2a2 z2)) (show (v.1 0 112).toInt = jg.toInt + 1 from (om_0431d2536c zj)) (all8f (P := fun k9 => ((wA (wA (wA v 105 ((v.1 0 106).toNatClampNeg) (0 : Int32)) 0 106 ((v.1 0 106) + (1 : Int32))) 0 120 ((v.1 0 120) + (1 : Int32)))).1 0 k9 = v.1 0 k9) rfl rfl rfl rfl rfl rfl rfl rfl) (all11g (P := fun k9 => ((wA (wA (wA v 105 ((v.1 0 106).toNatClampNeg) (0 : Int32)) 0 106 ((v.1 0 106) + (1 : Int32))) 0 120 ((v.1 0 120) + (1 : Int32)))).1 k9 = v.1 k9) rfl rfl rfl rfl rfl rfl rfl rfl rfl rfl rfl) (show ((v.1 0 106) + (1 : Int32)).toInt = (v.1 0 106).toInt + 1 from (om_5bccfc38cf z16)) (fun (j9 : Nat) h9 => pk_un3 (x := (v.1 0 106)) rfl (om_f93f4676ed nm9) (om_4fe904e9bf h9)) (show 0 ≤ (v.1 0 119).toInt ∧ (v.1 0 119).toInt ≤ (v.1 0 119).toInt + 1 from (om_c2c1baedc6 nm9)) (show 0 ≤ ((v.1 0 120) + (1 : Int32)).toInt ∧ ((v.1 0 120) + (1 : Int32)).toInt ≤ (v.1 0 120).toInt + 1 from (om_9cd803f030 nm9 z17)))⟩, by rw [ht9]; exact hP, hD⟩, hS.F ht9⟩) hS.2.2 dX13_others_244
        · have z18 : (v.1 0 120).toInt < (v.1 0 94).toInt := nle_z rfl rfl h11
          refine lv_aload_n hx hb dX13_others_105 rfl (lv_at hl 1 rfl) ?_
          refine va_get (D := (dC, dI)) (ci := 16) (fs := mF ad v) (v := .ref (ad 93)) (C := RX13) (T := TX13) (N := 124) hx hb ht itX13 hown hK hP 0 rfl rfl 93 (by decide) (ht _ tw_226) (fun _ h9 => h9) rfl dX13_others_106 ?_
          refine lv_aload_n hx hb dX13_others_109 rfl (lv_at hl 1 rfl) ?_
          refine va_get (D := (dC, dI)) (ci := 16) (fs := mF ad v) (v := .int (v.1 0 120)) (C := RX13) (T := TX13) (N := 124) hx hb ht itX13 hown hK hP 0 rfl rfl 120 (by decide) (ht _ tw_310) (fun _ h9 => h9) rfl dX13_others_110 ?_
          refine va_iald (D := (dC, dI)) (f := (v.1 93)) hx hb hK hP 51 0 rfl rfl (in_y (a := (v.1 0 120).toInt) (b := 64) rfl (om_b005d9ffa7 nm9) (om_e9ac88ec72 zg z18) rfl) dX13_others_113 ?_
          refine lv_goto (tgt := 118) hx hb dX13_others_114 (by decide) ?_
          refine cu_v (rn_V (n := 1) (As := [.int ((v.1 93) (v.1 0 120).toNatClampNeg)]) (rest := []) hx hb hml hown ht hKK hFx hP hD hS hA (c_m_push l dC dI cI cB cZ cJ cR tb s.heap.size ad N v ((v.1 93) (v.1 0 120).toNatClampNeg) (show 0 ≤ (v.1 0 106).toInt ∧ (v.1 0 106).toInt < 24000 from (om_21af66d2d9 nm9))) tw_332 tw_333 (by decide +kernel) rfl rfl ⟨Nat.le_of_ble_eq_true rfl, Nat.le_of_ble_eq_true rfl⟩ (List.range (mW ad N cI cZ cJ v).length) (rg_map _) (mW_nd _ _ _ _ _ _) rfl rfl rfl rfl hl.1 rfl (Nat.le_of_ble_eq_true rfl) dX13_others_118 ⟨Nat.le_of_ble_eq_true rfl, Nat.le_of_ble_eq_true rfl⟩) hP hD hS hA (fun u20 H locs hw19 hP hD hS => ?_)
          obtain rfl := hw19
          have z22 : ((v.1 0 106) + (1 : Int32)).toInt = ((v.1 0 106).toInt) + (1 : Int) := add_z rfl (show (1 : Int32).toInt = (1 : Int) by decide) (om_daba12859b nm9) (om_feb99406a1 nm9)
          have hP : va_P (dC, dI) vwCl (mW ad N cI cZ cJ (wA (wA v 105 ((v.1 0 106).toNatClampNeg) ((v.1 93) (v.1 0 120).toNatClampNeg)) 0 106 ((v.1 0 106) + (1 : Int32)))) H := hP
          have hD : va_D A (mW ad N cI cZ cJ (wA (wA v 105 ((v.1 0 106).toNatClampNeg) ((v.1 93) (v.1 0 120).toNatClampNeg)) 0 106 ((v.1 0 106) + (1 : Int32)))) := hD
          refine W.widen (k := 0) (n := 0) (Nat.le_refl _) (Nat.le_refl _) ?_
          refine lv_aload_n hx hb dX13_others_121 rfl (lv_at hl 1 rfl) ?_
          refine lv_dup hx hb dX13_others_122 rfl ?_
          refine va_get (D := (dC, dI)) (ci := 16) (fs := mF ad (wA (wA v 105 ((v.1 0 106).toNatClampNeg) ((v.1 93) (v.1 0 120).toNatClampNeg)) 0 106 ((v.1 0 106) + (1 : Int32)))) (v := .int (v.1 0 120)) (C := RX13) (T := TX13) (N := 124) hx hb ht itX13 hown hK hP 0 rfl rfl 120 (by decide) (ht _ tw_310) (fun _ h9 => h9) rfl dX13_others_123 ?_
          refine lv_iconst (v := 1) hx hb dX13_others_126 (by decide) ?_
          refine lv_iadd hx hb dX13_others_127 ?_
          have z23 : ((v.1 0 120) + (1 : Int32)).toInt = ((v.1 0 120).toInt) + (1 : Int) := add_z rfl (show (1 : Int32).toInt = (1 : Int) by decide) (om_a9b471c640 nm9) (om_72f7accf21 nm9)
          refine va_put (D := (dC, dI)) (ci := 16) (fs := mF ad (wA (wA v 105 ((v.1 0 106).toNatClampNeg) ((v.1 93) (v.1 0 120).toNatClampNeg)) 0 106 ((v.1 0 106) + (1 : Int32)))) (v := .int ((v.1 0 120) + (1 : Int32))) (ty := .int) (C := RX13) (T := TX13) (N := 124) hx hb ht itX13 tyX13 tyX13_ok nmX13 hown hK hP hD hS 0 rfl rfl 120 (by decide) (ht _ tw_310) (fun _ h9 => h9) rfl (by decide +kernel) rfl rfl (Nat.le_of_ble_eq_true rfl) dX13_others_128 (fun H locs hP hD hS => ?_)
          have hP := cP_ (mw_120 ad N cI cZ cJ (wA (wA v 105 ((v.1 0 106).toNatClampNeg) ((v.1 93) (v.1 0 120).toNatClampNeg)) 0 106 ((v.1 0 106) + (1 : Int32))) ((v.1 0 120) + (1 : Int32))) hP
          have hD := cD_ (mw_120 ad N cI cZ cJ (wA (wA v 105 ((v.1 0 106).toNatClampNeg) ((v.1 93) (v.1 0 120).toNatClampNeg)) 0 106 ((v.1 0 106) + (1 : Int32))) ((v.1 0 120) + (1 : Int32))) hD
          refine lv_goto (tgt := 244) hx hb dX13_others_131 (by decide) ?_
          exact W.vret hx hb hr (fun t ht9 hW => ⟨⟨(wA (wA (wA v 105 ((v.1 0 106).toNatClampNeg) ((v.1 93) (v.1 0 120).toNatClampNeg)) 0 106 ((v.1 0 106) + (1 : Int32))) 0 120 ((v.1 0 120) + (1 : Int32))), rfl, ⟨(FG.f (FG.f (FG.a (FG.rf _) ((v.1 0 106).toNatClampNeg) ((v.1 93) (v.1 0 120).toNatClampNeg) (by decide) (by decide)) ((v.1 0 106) + (1 : Int32)) (by decide)) ((v.1 0 120) + (1 : Int32)) (by decide)), ⟨zo, zg, (Or.inl ⟨z2, h3, (Or.inl ⟨h9, (Or.inr (⟨z18, rfl⟩))⟩)⟩)⟩, (MI.psh (u := (wA (wA (wA v 105 ((v.1 0 106).toNatClampNeg) ((v.1 93) (v.1 0 120).toNatClampNeg)) 0 106 ((v.1 0 106) + (1 : Int32))) 0 120 ((v.1 0 120) + (1 : Int32)))) mi (by rw [← eo]; exact (om_067ad3e2a2 z2)) (show (v.1 0 112).toInt = jg.toInt + 1 from (om_0431d2536c zj)) (all8f (P := fun k9 => ((wA (wA (wA v 105 ((v.1 0 106).toNatClampNeg) ((v.1 93) (v.1 0 120).toNatClampNeg)) 0 106 ((v.1 0 106) + (1 : Int32))) 0 120 ((v.1 0 120) + (1 : Int32)))).1 0 k9 = v.1 0 k9) rfl rfl rfl rfl rfl rfl rfl rfl) (all11g (P := fun k9 => ((wA (wA (wA v 105 ((v.1 0 106).toNatClampNeg) ((v.1 93) (v.1 0 120).toNatClampNeg)) 0 106 ((v.1 0 106) + (1 : Int32))) 0 120 ((v.1 0 120) + (1 : Int32)))).1 k9 = v.1 k9) rfl rfl rfl rfl rfl rfl rfl rfl rfl rfl rfl) (show ((v.1 0 106) + (1 : Int32)).toInt = (v.1 0 106).toInt + 1 from (om_5bccfc38cf z22)) (fun (j9 : Nat) h9 => pk_un3 (x := (v.1 0 106)) rfl (om_f93f4676ed nm9) (om_4fe904e9bf h9)) (show 0 ≤ (v.1 0 119).toInt ∧ (v.1 0 119).toInt ≤ (v.1 0 119).toInt + 1 from (om_c2c1baedc6 nm9)) (show 0 ≤ ((v.1 0 120) + (1 : Int32)).toInt ∧ ((v.1 0 120) + (1 : Int32)).toInt ≤ (v.1 0 120).toInt + 1 from (om_9cd803f030 nm9 z23)))⟩, by rw [ht9]; exact hP, hD⟩, hS.F ht9⟩) hS.2.2 dX13_others_244
      ·
        have z24 : pa.toInt ≠ (17 : Int) := ne_z rfl (show (17 : Int32).toInt = (17 : Int) by decide) h9
        by_cases h25 : pa = 18
        · refine lv_tableIn (off := 120) (tgt := 134) hx hb dX13_others_14 (by rw [h25]; decide) (by rw [h25]; decide) (by rw [h25]; decide) (by decide) ?_
          have z26 : pa.toInt = (18 : Int) := eq_z rfl (show (18 : Int32).toInt = (18 : Int) by decide) h25
          refine lv_aload_n hx hb dX13_others_134 rfl (lv_at hl 1 rfl) ?_
          refine lv_iload_n hx hb dX13_others_135 rfl (lv_at hl 0 rfl) ?_
          refine lv_ineg hx hb dX13_others_136 ?_
          refine tp_i (y := 0) (by decide) ?_
          refine cu_v (rn_V (n := 1) (As := [.int 0]) (rest := []) hx hb hml hown ht hKK hFx hP hD hS hA (c_m_push l dC dI cI cB cZ cJ cR tb s.heap.size ad N v (0 : Int32) (show 0 ≤ (v.1 0 106).toInt ∧ (v.1 0 106).toInt < 24000 from (om_ceec23807e nm9 z2 z26))) tw_332 tw_333 (by decide +kernel) rfl rfl ⟨Nat.le_of_ble_eq_true rfl, Nat.le_of_ble_eq_true rfl⟩ (List.range (mW ad N cI cZ cJ v).length) (rg_map _) (mW_nd _ _ _ _ _ _) rfl rfl rfl rfl hl.1 rfl (Nat.le_of_ble_eq_true rfl) dX13_others_137 ⟨Nat.le_of_ble_eq_true rfl, Nat.le_of_ble_eq_true rfl⟩) hP hD hS hA (fun u28 H locs hw27 hP hD hS => ?_)
          obtain rfl := hw27
          have z30 : ((v.1 0 106) + (1 : Int32)).toInt = ((v.1 0 106).toInt) + (1 : Int) := add_z rfl (show (1 : Int32).toInt = (1 : Int) by decide) (om_fec0eb7d71 z2 z26) (om_9f77423019 z2 z26)
          have hP : va_P (dC, dI) vwCl (mW ad N cI cZ cJ (wA (wA v 105 ((v.1 0 106).toNatClampNeg) (0 : Int32)) 0 106 ((v.1 0 106) + (1 : Int32)))) H := hP
          have hD : va_D A (mW ad N cI cZ cJ (wA (wA v 105 ((v.1 0 106).toNatClampNeg) (0 : Int32)) 0 106 ((v.1 0 106) + (1 : Int32)))) := hD
          refine W.widen (k := 0) (n := 0) (Nat.le_refl _) (Nat.le_refl _) ?_
          refine lv_goto (tgt := 244) hx hb dX13_others_140 (by decide) ?_
          exact W.vret hx hb hr (fun t ht9 hW => ⟨⟨(wA (wA v 105 ((v.1 0 106).toNatClampNeg) (0 : Int32)) 0 106 ((v.1 0 106) + (1 : Int32))), rfl, ⟨(FG.f (FG.a (FG.rf _) ((v.1 0 106).toNatClampNeg) (0 : Int32) (by decide) (by decide)) ((v.1 0 106) + (1 : Int32)) (by decide)), ⟨zo, zg, (Or.inl ⟨z2, h3, (Or.inr (⟨h9, (Or.inl ⟨h25, rfl⟩)⟩))⟩)⟩, (MI.psh (u := (wA (wA v 105 ((v.1 0 106).toNatClampNeg) (0 : Int32)) 0 106 ((v.1 0 106) + (1 : Int32)))) mi (by rw [← eo]; exact (om_be71fa42b5 z2 z26)) (show (v.1 0 112).toInt = jg.toInt + 1 from (om_0431d2536c zj)) (all8f (P := fun k9 => ((wA (wA v 105 ((v.1 0 106).toNatClampNeg) (0 : Int32)) 0 106 ((v.1 0 106) + (1 : Int32)))).1 0 k9 = v.1 0 k9) rfl rfl rfl rfl rfl rfl rfl rfl) (all11g (P := fun k9 => ((wA (wA v 105 ((v.1 0 106).toNatClampNeg) (0 : Int32)) 0 106 ((v.1 0 106) + (1 : Int32)))).1 k9 = v.1 k9) rfl rfl rfl rfl rfl rfl rfl rfl rfl rfl rfl) (show ((v.1 0 106) + (1 : Int32)).toInt = (v.1 0 106).toInt + 1 from (om_5bccfc38cf z30)) (fun (j9 : Nat) h9 => pk_un3 (x := (v.1 0 106)) rfl (om_385be29c2e z2 z26) (om_4fe904e9bf h9)) (show 0 ≤ (v.1 0 119).toInt ∧ (v.1 0 119).toInt ≤ (v.1 0 119).toInt + 1 from (om_c2c1baedc6 nm9)) (show 0 ≤ (v.1 0 120).toInt ∧ (v.1 0 120).toInt ≤ (v.1 0 120).toInt + 1 from (om_9ca839a770 nm9)))⟩, by rw [ht9]; exact hP, hD⟩, hS.F ht9⟩) hS.2.2 dX13_others_244
        ·
          have z31 : pa.toInt ≠ (18 : Int) := ne_z rfl (show (18 : Int32).toInt = (18 : Int) by decide) h25
          by_cases h32 : pa = 19
          · refine lv_tableIn (off := 129) (tgt := 143) hx hb dX13_others_14 (by rw [h32]; decide) (by rw [h32]; decide) (by rw [h32]; decide) (by decide) ?_
            have z33 : pa.toInt = (19 : Int) := eq_z rfl (show (19 : Int32).toInt = (19 : Int) by decide) h32
            refine lv_aload_n hx hb dX13_others_143 rfl (lv_at hl 1 rfl) ?_
            refine lv_iload_n hx hb dX13_others_144 rfl (lv_at hl 0 rfl) ?_
            refine lv_if_ne (tgt := 152) hx hb dX13_others_145 (by decide) (fun k34 => absurd k34 (by decide)) (fun _ => ?_)
            refine lv_iconst (v := 1) hx hb dX13_others_148 (by decide) ?_
            refine lv_goto (tgt := 153) hx hb dX13_others_149 (by decide) ?_
            refine cu_s (mW_nd _ _ _ _ _ _) (rn_S (n := 1) (As := [.int 1]) (rest := [.ref (ad 0)]) hx hb hml hown ht hKK hFx hP hD hS hA (c_m_less l dC dI cI cB cZ cJ cR tb s.heap.size (1 : Int32) ) tw_222 tw_223 (by decide +kernel) rfl rfl ⟨Nat.le_of_ble_eq_true rfl, Nat.le_of_ble_eq_true rfl⟩ [] rfl rfl rfl hl.1 rfl (Nat.le_of_ble_eq_true rfl) dX13_others_153 ⟨Nat.le_of_ble_eq_true rfl, Nat.le_of_ble_eq_true rfl⟩) hP hD hS hA (fun r37 H locs hw35 hP hD hS => ?_)
            have ex35 := hw35
            refine W.widen (k := 0) (n := 0) (Nat.le_refl _) (Nat.le_refl _) ?_
            refine cu_v (rn_V (n := 1) (As := [.int r37]) (rest := []) hx hb hml hown ht hKK hFx hP hD hS hA (c_m_push l dC dI cI cB cZ cJ cR tb H.size ad N v r37 (show 0 ≤ (v.1 0 106).toInt ∧ (v.1 0 106).toInt < 24000 from (om_008e033817 nm9 z2 z33))) tw_332 tw_333 (by decide +kernel) rfl rfl ⟨Nat.le_of_ble_eq_true rfl, Nat.le_of_ble_eq_true rfl⟩ (List.range (mW ad N cI cZ cJ v).length) (rg_map _) (mW_nd _ _ _ _ _ _) rfl rfl rfl rfl hl.1 rfl (Nat.le_of_ble_eq_true rfl) dX13_others_156 ⟨Nat.le_of_ble_eq_true rfl, Nat.le_of_ble_eq_true rfl⟩) hP hD hS hA (fun u39 H locs hw38 hP hD hS => ?_)
            obtain rfl := hw38
            have z41 : ((v.1 0 106) + (1 : Int32)).toInt = ((v.1 0 106).toInt) + (1 : Int) := add_z rfl (show (1 : Int32).toInt = (1 : Int) by decide) (om_056a81b14d z2 z33) (om_c151d62133 z2 z33)
            have hP : va_P (dC, dI) vwCl (mW ad N cI cZ cJ (wA (wA v 105 ((v.1 0 106).toNatClampNeg) r37) 0 106 ((v.1 0 106) + (1 : Int32)))) H := hP
            have hD : va_D A (mW ad N cI cZ cJ (wA (wA v 105 ((v.1 0 106).toNatClampNeg) r37) 0 106 ((v.1 0 106) + (1 : Int32)))) := hD
            refine W.widen (k := 0) (n := 0) (Nat.le_refl _) (Nat.le_refl _) ?_
            refine lv_goto (tgt := 244) hx hb dX13_others_159 (by decide) ?_
            exact W.vret hx hb hr (fun t ht9 hW => ⟨⟨(wA (wA v 105 ((v.1 0 106).toNatClampNeg) r37) 0 106 ((v.1 0 106) + (1 : Int32))), rfl, ⟨(FG.f (FG.a (FG.rf _) ((v.1 0 106).toNatClampNeg) r37 (by decide) (by decide)) ((v.1 0 106) + (1 : Int32)) (by decide)), ⟨zo, zg, (Or.inl ⟨z2, h3, (Or.inr (⟨h9, (Or.inr (⟨h25, (Or.inl ⟨h32, r37, ex35, rfl⟩)⟩))⟩))⟩)⟩, (MI.psh (u := (wA (wA v 105 ((v.1 0 106).toNatClampNeg) r37) 0 106 ((v.1 0 106) + (1 : Int32)))) mi (by rw [← eo]; exact (om_2bec2fe4ff z2 z33)) (show (v.1 0 112).toInt = jg.toInt + 1 from (om_34befb1757 z2 z33)) (all8f (P := fun k9 => ((wA (wA v 105 ((v.1 0 106).toNatClampNeg) r37) 0 106 ((v.1 0 106) + (1 : Int32)))).1 0 k9 = v.1 0 k9) rfl rfl rfl rfl rfl rfl rfl rfl) (all11g (P := fun k9 => ((wA (wA v 105 ((v.1 0 106).toNatClampNeg) r37) 0 106 ((v.1 0 106) + (1 : Int32)))).1 k9 = v.1 k9) rfl rfl rfl rfl rfl rfl rfl rfl rfl rfl rfl) (show ((v.1 0 106) + (1 : Int32)).toInt = (v.1 0 106).toInt + 1 from (om_34befb1757 z2 z33)) (fun (j9 : Nat) h9 => pk_un3 (x := (v.1 0 106)) rfl (om_3ec35f1bf4 z2 z33) (om_cccc288ec3 z2 z33)) (show 0 ≤ (v.1 0 119).toInt ∧ (v.1 0 119).toInt ≤ (v.1 0 119).toInt + 1 from (om_014e3f04a8 z2 z33)) (show 0 ≤ (v.1 0 120).toInt ∧ (v.1 0 120).toInt ≤ (v.1 0 120).toInt + 1 from (om_014e3f04a8 z2 z33)))⟩, by rw [ht9]; exact hP, hD⟩, hS.F ht9⟩) hS.2.2 dX13_others_244
          ·
            have z42 : pa.toInt ≠ (19 : Int) := ne_z rfl (show (19 : Int32).toInt = (19 : Int) by decide) h32
            by_cases h43 : pa = 20
            · refine lv_tableIn (off := 148) (tgt := 162) hx hb dX13_others_14 (by rw [h43]; decide) (by rw [h43]; decide) (by rw [h43]; decide) (by decide) ?_
              have z44 : pa.toInt = (20 : Int) := eq_z rfl (show (20 : Int32).toInt = (20 : Int) by decide) h43
              refine lv_aload_n hx hb dX13_others_162 rfl (lv_at hl 1 rfl) ?_
              refine lv_iload_n hx hb dX13_others_163 rfl (lv_at hl 0 rfl) ?_
              refine lv_iconst (v := -1) hx hb dX13_others_164 (by decide) ?_
              refine lv_ixor hx hb dX13_others_165 ?_
              refine tp_i (y := (-1)) (by decide) ?_
              refine cu_v (rn_V (n := 1) (As := [.int (-1)]) (rest := []) hx hb hml hown ht hKK hFx hP hD hS hA (c_m_push l dC dI cI cB cZ cJ cR tb s.heap.size ad N v (-1 : Int32) (show 0 ≤ (v.1 0 106).toInt ∧ (v.1 0 106).toInt < 24000 from (om_dd03478acf nm9 z2 z44))) tw_332 tw_333 (by decide +kernel) rfl rfl ⟨Nat.le_of_ble_eq_true rfl, Nat.le_of_ble_eq_true rfl⟩ (List.range (mW ad N cI cZ cJ v).length) (rg_map _) (mW_nd _ _ _ _ _ _) rfl rfl rfl rfl hl.1 rfl (Nat.le_of_ble_eq_true rfl) dX13_others_166 ⟨Nat.le_of_ble_eq_true rfl, Nat.le_of_ble_eq_true rfl⟩) hP hD hS hA (fun u46 H locs hw45 hP hD hS => ?_)
              obtain rfl := hw45
              have z48 : ((v.1 0 106) + (1 : Int32)).toInt = ((v.1 0 106).toInt) + (1 : Int) := add_z rfl (show (1 : Int32).toInt = (1 : Int) by decide) (om_dd398882c1 z2 z44) (om_79ab075cb7 z2 z44)
              have hP : va_P (dC, dI) vwCl (mW ad N cI cZ cJ (wA (wA v 105 ((v.1 0 106).toNatClampNeg) (-1 : Int32)) 0 106 ((v.1 0 106) + (1 : Int32)))) H := hP
              have hD : va_D A (mW ad N cI cZ cJ (wA (wA v 105 ((v.1 0 106).toNatClampNeg) (-1 : Int32)) 0 106 ((v.1 0 106) + (1 : Int32)))) := hD
              refine W.widen (k := 0) (n := 0) (Nat.le_refl _) (Nat.le_refl _) ?_
              refine lv_goto (tgt := 244) hx hb dX13_others_169 (by decide) ?_
              exact W.vret hx hb hr (fun t ht9 hW => ⟨⟨(wA (wA v 105 ((v.1 0 106).toNatClampNeg) (-1 : Int32)) 0 106 ((v.1 0 106) + (1 : Int32))), rfl, ⟨(FG.f (FG.a (FG.rf _) ((v.1 0 106).toNatClampNeg) (-1 : Int32) (by decide) (by decide)) ((v.1 0 106) + (1 : Int32)) (by decide)), ⟨zo, zg, (Or.inl ⟨z2, h3, (Or.inr (⟨h9, (Or.inr (⟨h25, (Or.inr (⟨h32, (Or.inl ⟨h43, rfl⟩)⟩))⟩))⟩))⟩)⟩, (MI.psh (u := (wA (wA v 105 ((v.1 0 106).toNatClampNeg) (-1 : Int32)) 0 106 ((v.1 0 106) + (1 : Int32)))) mi (by rw [← eo]; exact (om_aff5e618dc z2 z44)) (show (v.1 0 112).toInt = jg.toInt + 1 from (om_ea385d4f7a z2 z44)) (all8f (P := fun k9 => ((wA (wA v 105 ((v.1 0 106).toNatClampNeg) (-1 : Int32)) 0 106 ((v.1 0 106) + (1 : Int32)))).1 0 k9 = v.1 0 k9) rfl rfl rfl rfl rfl rfl rfl rfl) (all11g (P := fun k9 => ((wA (wA v 105 ((v.1 0 106).toNatClampNeg) (-1 : Int32)) 0 106 ((v.1 0 106) + (1 : Int32)))).1 k9 = v.1 k9) rfl rfl rfl rfl rfl rfl rfl rfl rfl rfl rfl) (show ((v.1 0 106) + (1 : Int32)).toInt = (v.1 0 106).toInt + 1 from (om_ea385d4f7a z2 z44)) (fun (j9 : Nat) h9 => pk_un3 (x := (v.1 0 106)) rfl (om_aa1b20c03a z2 z44) (om_cdd738068b z2 z44)) (show 0 ≤ (v.1 0 119).toInt ∧ (v.1 0 119).toInt ≤ (v.1 0 119).toInt + 1 from (om_54a7878be9 z2 z44)) (show 0 ≤ (v.1 0 120).toInt ∧ (v.1 0 120).toInt ≤ (v.1 0 120).toInt + 1 from (om_54a7878be9 z2 z44)))⟩, by rw [ht9]; exact hP, hD⟩, hS.F ht9⟩) hS.2.2 dX13_others_244
            ·
              have z49 : pa.toInt ≠ (20 : Int) := ne_z rfl (show (20 : Int32).toInt = (20 : Int) by decide) h43
              by_cases h50 : pa = 21
              · refine lv_tableIn (off := 214) (tgt := 228) hx hb dX13_others_14 (by rw [h50]; decide) (by rw [h50]; decide) (by rw [h50]; decide) (by decide) ?_
                have z51 : pa.toInt = (21 : Int) := eq_z rfl (show (21 : Int32).toInt = (21 : Int) by decide) h50
                refine lv_aload_n hx hb dX13_others_228 rfl (lv_at hl 1 rfl) ?_
                refine lv_iload_n hx hb dX13_others_229 rfl (lv_at hl 0 rfl) ?_
                refine lv_if_eq (tgt := 237) hx hb dX13_others_230 (by decide) (fun _ => ?_) (fun k52 => absurd k52 (by decide))
                refine lv_iconst (v := 0) hx hb dX13_others_237 (by decide) ?_
                refine cu_s (mW_nd _ _ _ _ _ _) (rn_S (n := 1) (As := [.int 0]) (rest := [.ref (ad 0)]) hx hb hml hown ht hKK hFx hP hD hS hA (c_m_less l dC dI cI cB cZ cJ cR tb s.heap.size (0 : Int32) ) tw_222 tw_223 (by decide +kernel) rfl rfl ⟨Nat.le_of_ble_eq_true rfl, Nat.le_of_ble_eq_true rfl⟩ [] rfl rfl rfl hl.1 rfl (Nat.le_of_ble_eq_true rfl) dX13_others_238 ⟨Nat.le_of_ble_eq_true rfl, Nat.le_of_ble_eq_true rfl⟩) hP hD hS hA (fun r55 H locs hw53 hP hD hS => ?_)
                have ex53 := hw53
                refine W.widen (k := 0) (n := 0) (Nat.le_refl _) (Nat.le_refl _) ?_
                refine cu_v (rn_V (n := 1) (As := [.int r55]) (rest := []) hx hb hml hown ht hKK hFx hP hD hS hA (c_m_push l dC dI cI cB cZ cJ cR tb H.size ad N v r55 (show 0 ≤ (v.1 0 106).toInt ∧ (v.1 0 106).toInt < 24000 from (om_a3c89b2bae nm9 z2 z51))) tw_332 tw_333 (by decide +kernel) rfl rfl ⟨Nat.le_of_ble_eq_true rfl, Nat.le_of_ble_eq_true rfl⟩ (List.range (mW ad N cI cZ cJ v).length) (rg_map _) (mW_nd _ _ _ _ _ _) rfl rfl rfl rfl hl.1 rfl (Nat.le_of_ble_eq_true rfl) dX13_others_241 ⟨Nat.le_of_ble_eq_true rfl, Nat.le_of_ble_eq_true rfl⟩) hP hD hS hA (fun u57 H locs hw56 hP hD hS => ?_)
                obtain rfl := hw56
                have z59 : ((v.1 0 106) + (1 : Int32)).toInt = ((v.1 0 106).toInt) + (1 : Int) := add_z rfl (show (1 : Int32).toInt = (1 : Int) by decide) (om_963984764b z2 z51) (om_1c929c02db z2 z51)
                have hP : va_P (dC, dI) vwCl (mW ad N cI cZ cJ (wA (wA v 105 ((v.1 0 106).toNatClampNeg) r55) 0 106 ((v.1 0 106) + (1 : Int32)))) H := hP
                have hD : va_D A (mW ad N cI cZ cJ (wA (wA v 105 ((v.1 0 106).toNatClampNeg) r55) 0 106 ((v.1 0 106) + (1 : Int32)))) := hD
                refine W.widen (k := 0) (n := 0) (Nat.le_refl _) (Nat.le_refl _) ?_
                exact W.vret hx hb hr (fun t ht9 hW => ⟨⟨(wA (wA v 105 ((v.1 0 106).toNatClampNeg) r55) 0 106 ((v.1 0 106) + (1 : Int32))), rfl, ⟨(FG.f (FG.a (FG.rf _) ((v.1 0 106).toNatClampNeg) r55 (by decide) (by decide)) ((v.1 0 106) + (1 : Int32)) (by decide)), ⟨zo, zg, (Or.inl ⟨z2, h3, (Or.inr (⟨h9, (Or.inr (⟨h25, (Or.inr (⟨h32, (Or.inr (⟨h43, (Or.inl ⟨h50, r55, ex53, rfl⟩)⟩))⟩))⟩))⟩))⟩)⟩, (MI.psh (u := (wA (wA v 105 ((v.1 0 106).toNatClampNeg) r55) 0 106 ((v.1 0 106) + (1 : Int32)))) mi (by rw [← eo]; exact (om_90684cf632 z2 z51)) (show (v.1 0 112).toInt = jg.toInt + 1 from (om_93eda5b5b7 z2 z51)) (all8f (P := fun k9 => ((wA (wA v 105 ((v.1 0 106).toNatClampNeg) r55) 0 106 ((v.1 0 106) + (1 : Int32)))).1 0 k9 = v.1 0 k9) rfl rfl rfl rfl rfl rfl rfl rfl) (all11g (P := fun k9 => ((wA (wA v 105 ((v.1 0 106).toNatClampNeg) r55) 0 106 ((v.1 0 106) + (1 : Int32)))).1 k9 = v.1 k9) rfl rfl rfl rfl rfl rfl rfl rfl rfl rfl rfl) (show ((v.1 0 106) + (1 : Int32)).toInt = (v.1 0 106).toInt + 1 from (om_93eda5b5b7 z2 z51)) (fun (j9 : Nat) h9 => pk_un3 (x := (v.1 0 106)) rfl (om_b2a39494a8 z2 z51) (om_7980fbc484 z2 z51)) (show 0 ≤ (v.1 0 119).toInt ∧ (v.1 0 119).toInt ≤ (v.1 0 119).toInt + 1 from (om_d668faaf0c z2 z51)) (show 0 ≤ (v.1 0 120).toInt ∧ (v.1 0 120).toInt ≤ (v.1 0 120).toInt + 1 from (om_d668faaf0c z2 z51)))⟩, by rw [ht9]; exact hP, hD⟩, hS.F ht9⟩) hS.2.2 dX13_others_244
              ·
                have z60 : pa.toInt ≠ (21 : Int) := ne_z rfl (show (21 : Int32).toInt = (21 : Int) by decide) h50
                by_cases h61 : pa = 22
                · refine lv_tableIn (off := 158) (tgt := 172) hx hb dX13_others_14 (by rw [h61]; decide) (by rw [h61]; decide) (by rw [h61]; decide) (by decide) ?_
                  have z62 : pa.toInt = (22 : Int) := eq_z rfl (show (22 : Int32).toInt = (22 : Int) by decide) h61
                  refine lv_iload_n hx hb dX13_others_172 rfl (lv_at hl 0 rfl) ?_
                  refine lv_if_ne (tgt := 181) hx hb dX13_others_173 (by decide) (fun k63 => absurd k63 (by decide)) (fun _ => ?_)
                  refine lv_aload_n hx hb dX13_others_176 rfl (lv_at hl 1 rfl) ?_
                  refine lv_iconst (v := 0) hx hb dX13_others_177 (by decide) ?_
                  refine cu_v (rn_V (n := 1) (As := [.int 0]) (rest := []) hx hb hml hown ht hKK hFx hP hD hS hA (c_m_push l dC dI cI cB cZ cJ cR tb s.heap.size ad N v (0 : Int32) (show 0 ≤ (v.1 0 106).toInt ∧ (v.1 0 106).toInt < 24000 from (om_c3e7617156 nm9 z2 z62))) tw_332 tw_333 (by decide +kernel) rfl rfl ⟨Nat.le_of_ble_eq_true rfl, Nat.le_of_ble_eq_true rfl⟩ (List.range (mW ad N cI cZ cJ v).length) (rg_map _) (mW_nd _ _ _ _ _ _) rfl rfl rfl rfl hl.1 rfl (Nat.le_of_ble_eq_true rfl) dX13_others_178 ⟨Nat.le_of_ble_eq_true rfl, Nat.le_of_ble_eq_true rfl⟩) hP hD hS hA (fun u65 H locs hw64 hP hD hS => ?_)
                  obtain rfl := hw64
                  have z67 : ((v.1 0 106) + (1 : Int32)).toInt = ((v.1 0 106).toInt) + (1 : Int) := add_z rfl (show (1 : Int32).toInt = (1 : Int) by decide) (om_927da4e3b8 z2 z62) (om_93b41d4430 z2 z62)
                  have hP : va_P (dC, dI) vwCl (mW ad N cI cZ cJ (wA (wA v 105 ((v.1 0 106).toNatClampNeg) (0 : Int32)) 0 106 ((v.1 0 106) + (1 : Int32)))) H := hP
                  have hD : va_D A (mW ad N cI cZ cJ (wA (wA v 105 ((v.1 0 106).toNatClampNeg) (0 : Int32)) 0 106 ((v.1 0 106) + (1 : Int32)))) := hD
                  refine W.widen (k := 0) (n := 0) (Nat.le_refl _) (Nat.le_refl _) ?_
                  refine lv_aload_n hx hb dX13_others_181 rfl (lv_at hl 1 rfl) ?_
                  refine lv_iload_n hx hb dX13_others_182 rfl (lv_at hl 0 rfl) ?_
                  refine lv_if_ne (tgt := 190) hx hb dX13_others_183 (by decide) (fun k68 => absurd k68 (by decide)) (fun _ => ?_)
                  refine lv_iload_n hx hb dX13_others_186 rfl (lv_at hl 3 rfl) ?_
                  refine lv_goto (tgt := 194) hx hb dX13_others_187 (by decide) ?_
                  refine va_put (D := (dC, dI)) (ci := 16) (fs := mF ad (wA (wA v 105 ((v.1 0 106).toNatClampNeg) (0 : Int32)) 0 106 ((v.1 0 106) + (1 : Int32)))) (v := .int pb) (ty := .int) (C := RX13) (T := TX13) (N := 124) hx hb ht itX13 tyX13 tyX13_ok nmX13 hown hK hP hD hS 0 rfl rfl 112 (by decide) (ht _ tw_334) (fun _ h9 => h9) rfl (by decide +kernel) rfl rfl (Nat.le_of_ble_eq_true rfl) dX13_others_194 (fun H locs hP hD hS => ?_)
                  have hP := cP_ (mw_112 ad N cI cZ cJ (wA (wA v 105 ((v.1 0 106).toNatClampNeg) (0 : Int32)) 0 106 ((v.1 0 106) + (1 : Int32))) pb) hP
                  have hD := cD_ (mw_112 ad N cI cZ cJ (wA (wA v 105 ((v.1 0 106).toNatClampNeg) (0 : Int32)) 0 106 ((v.1 0 106) + (1 : Int32))) pb) hD
                  refine lv_goto (tgt := 244) hx hb dX13_others_197 (by decide) ?_
                  exact W.vret hx hb hr (fun t ht9 hW => ⟨⟨(wA (wA (wA v 105 ((v.1 0 106).toNatClampNeg) (0 : Int32)) 0 106 ((v.1 0 106) + (1 : Int32))) 0 112 pb), rfl, ⟨(FG.f (FG.f (FG.a (FG.rf _) ((v.1 0 106).toNatClampNeg) (0 : Int32) (by decide) (by decide)) ((v.1 0 106) + (1 : Int32)) (by decide)) pb (by decide)), ⟨zo, zg, (Or.inl ⟨z2, h3, (Or.inr (⟨h9, (Or.inr (⟨h25, (Or.inr (⟨h32, (Or.inr (⟨h43, (Or.inr (⟨h50, (Or.inl ⟨h61, rfl⟩)⟩))⟩))⟩))⟩))⟩))⟩)⟩, (MI.psh (u := (wA (wA (wA v 105 ((v.1 0 106).toNatClampNeg) (0 : Int32)) 0 106 ((v.1 0 106) + (1 : Int32))) 0 112 pb)) mi (by rw [← eo]; exact (om_267f79955d z2 z62)) (show pb.toInt = jg.toInt + 1 from (om_f5a13336c3 z2 z62)) (all8f (P := fun k9 => ((wA (wA (wA v 105 ((v.1 0 106).toNatClampNeg) (0 : Int32)) 0 106 ((v.1 0 106) + (1 : Int32))) 0 112 pb)).1 0 k9 = v.1 0 k9) rfl rfl rfl rfl rfl rfl rfl rfl) (all11g (P := fun k9 => ((wA (wA (wA v 105 ((v.1 0 106).toNatClampNeg) (0 : Int32)) 0 106 ((v.1 0 106) + (1 : Int32))) 0 112 pb)).1 k9 = v.1 k9) rfl rfl rfl rfl rfl rfl rfl rfl rfl rfl rfl) (show ((v.1 0 106) + (1 : Int32)).toInt = (v.1 0 106).toInt + 1 from (om_f5a13336c3 z2 z62)) (fun (j9 : Nat) h9 => pk_un3 (x := (v.1 0 106)) rfl (om_11db1133e1 z2 z62) (om_9773f0a561 z2 z62)) (show 0 ≤ (v.1 0 119).toInt ∧ (v.1 0 119).toInt ≤ (v.1 0 119).toInt + 1 from (om_7c4613a6cb z2 z62)) (show 0 ≤ (v.1 0 120).toInt ∧ (v.1 0 120).toInt ≤ (v.1 0 120).toInt + 1 from (om_7c4613a6cb z2 z62)))⟩, by rw [ht9]; exact hP, hD⟩, hS.F ht9⟩) hS.2.2 dX13_others_244
                ·
                  have z69 : pa.toInt ≠ (22 : Int) := ne_z rfl (show (22 : Int32).toInt = (22 : Int) by decide) h61
                  by_cases h70 : pa = 23
                  · refine lv_tableIn (off := 186) (tgt := 200) hx hb dX13_others_14 (by rw [h70]; decide) (by rw [h70]; decide) (by rw [h70]; decide) (by decide) ?_
                    have z71 : pa.toInt = (23 : Int) := eq_z rfl (show (23 : Int32).toInt = (23 : Int) by decide) h70
                    refine lv_iload_n hx hb dX13_others_200 rfl (lv_at hl 0 rfl) ?_
                    refine lv_if_eq (tgt := 209) hx hb dX13_others_201 (by decide) (fun _ => ?_) (fun k72 => absurd k72 (by decide))
                    refine lv_aload_n hx hb dX13_others_209 rfl (lv_at hl 1 rfl) ?_
                    refine lv_iload_n hx hb dX13_others_210 rfl (lv_at hl 0 rfl) ?_
                    refine lv_if_eq (tgt := 218) hx hb dX13_others_211 (by decide) (fun _ => ?_) (fun k73 => absurd k73 (by decide))
                    refine lv_aload_n hx hb dX13_others_218 rfl (lv_at hl 1 rfl) ?_
                    refine va_get (D := (dC, dI)) (ci := 16) (fs := mF ad v) (v := .int (v.1 0 112)) (C := RX13) (T := TX13) (N := 124) hx hb ht itX13 hown hK hP 0 rfl rfl 112 (by decide) (ht _ tw_334) (fun _ h9 => h9) rfl dX13_others_219 ?_
                    refine va_put (D := (dC, dI)) (ci := 16) (fs := mF ad v) (v := .int (v.1 0 112)) (ty := .int) (C := RX13) (T := TX13) (N := 124) hx hb ht itX13 tyX13 tyX13_ok nmX13 hown hK hP hD hS 0 rfl rfl 112 (by decide) (ht _ tw_334) (fun _ h9 => h9) rfl (by decide +kernel) rfl rfl (Nat.le_of_ble_eq_true rfl) dX13_others_222 (fun H locs hP hD hS => ?_)
                    have hP := cP_ (mw_112 ad N cI cZ cJ v (v.1 0 112)) hP
                    have hD := cD_ (mw_112 ad N cI cZ cJ v (v.1 0 112)) hD
                    refine lv_goto (tgt := 244) hx hb dX13_others_225 (by decide) ?_
                    exact W.vret hx hb hr (fun t ht9 hW => ⟨⟨(wA v 0 112 (v.1 0 112)), rfl, ⟨(FG.f (FG.rf _) (v.1 0 112) (by decide)), ⟨zo, zg, (Or.inl ⟨z2, h3, (Or.inr (⟨h9, (Or.inr (⟨h25, (Or.inr (⟨h32, (Or.inr (⟨h43, (Or.inr (⟨h50, (Or.inr (⟨h61, (Or.inl ⟨h70, rfl⟩)⟩))⟩))⟩))⟩))⟩))⟩))⟩)⟩, (MI.psh (u := (wA v 0 112 (v.1 0 112))) mi (by rw [← eo]; exact (om_032ef1df01 z2 z71)) (show (v.1 0 112).toInt = jg.toInt + 1 from (om_45cf8952d4 z2 z71)) (all8f (P := fun k9 => ((wA v 0 112 (v.1 0 112))).1 0 k9 = v.1 0 k9) rfl rfl rfl rfl rfl rfl rfl rfl) (all11g (P := fun k9 => ((wA v 0 112 (v.1 0 112))).1 k9 = v.1 k9) rfl rfl rfl rfl rfl rfl rfl rfl rfl rfl rfl) (show (v.1 0 106).toInt = (v.1 0 106).toInt + 1 from (om_c6afb1cf9b z2 z71)) (fun j9 h9 => rfl) (show 0 ≤ (v.1 0 119).toInt ∧ (v.1 0 119).toInt ≤ (v.1 0 119).toInt + 1 from (om_26283aa838 z2 z71)) (show 0 ≤ (v.1 0 120).toInt ∧ (v.1 0 120).toInt ≤ (v.1 0 120).toInt + 1 from (om_26283aa838 z2 z71)))⟩, by rw [ht9]; exact hP, hD⟩, hS.F ht9⟩) hS.2.2 dX13_others_244
                  ·
                    have z74 : pa.toInt ≠ (23 : Int) := ne_z rfl (show (23 : Int32).toInt = (23 : Int) by decide) h70
                    refine lv_tableOut (tgt := 228) hx hb dX13_others_14 (by have := lv_neT h3 (a := 16) (by decide); have := lv_neT h9 (a := 17) (by decide); have := lv_neT h25 (a := 18) (by decide); have := lv_neT h32 (a := 19) (by decide); have := lv_neT h43 (a := 20) (by decide); have := lv_neT h50 (a := 21) (by decide); have := lv_neT h61 (a := 22) (by decide); have := lv_neT h70 (a := 23) (by decide); omega) (by decide) ?_
                    refine lv_aload_n hx hb dX13_others_228 rfl (lv_at hl 1 rfl) ?_
                    refine lv_iload_n hx hb dX13_others_229 rfl (lv_at hl 0 rfl) ?_
                    refine lv_if_eq (tgt := 237) hx hb dX13_others_230 (by decide) (fun _ => ?_) (fun k75 => absurd k75 (by decide))
                    refine lv_iconst (v := 0) hx hb dX13_others_237 (by decide) ?_
                    refine cu_s (mW_nd _ _ _ _ _ _) (rn_S (n := 1) (As := [.int 0]) (rest := [.ref (ad 0)]) hx hb hml hown ht hKK hFx hP hD hS hA (c_m_less l dC dI cI cB cZ cJ cR tb s.heap.size (0 : Int32) ) tw_222 tw_223 (by decide +kernel) rfl rfl ⟨Nat.le_of_ble_eq_true rfl, Nat.le_of_ble_eq_true rfl⟩ [] rfl rfl rfl hl.1 rfl (Nat.le_of_ble_eq_true rfl) dX13_others_238 ⟨Nat.le_of_ble_eq_true rfl, Nat.le_of_ble_eq_true rfl⟩) hP hD hS hA (fun r78 H locs hw76 hP hD hS => ?_)
                    have ex76 := hw76
                    refine W.widen (k := 0) (n := 0) (Nat.le_refl _) (Nat.le_refl _) ?_
                    refine cu_v (rn_V (n := 1) (As := [.int r78]) (rest := []) hx hb hml hown ht hKK hFx hP hD hS hA (c_m_push l dC dI cI cB cZ cJ cR tb H.size ad N v r78 (show 0 ≤ (v.1 0 106).toInt ∧ (v.1 0 106).toInt < 24000 from (om_21af66d2d9 nm9))) tw_332 tw_333 (by decide +kernel) rfl rfl ⟨Nat.le_of_ble_eq_true rfl, Nat.le_of_ble_eq_true rfl⟩ (List.range (mW ad N cI cZ cJ v).length) (rg_map _) (mW_nd _ _ _ _ _ _) rfl rfl rfl rfl hl.1 rfl (Nat.le_of_ble_eq_true rfl) dX13_others_241 ⟨Nat.le_of_ble_eq_true rfl, Nat.le_of_ble_eq_true rfl⟩) hP hD hS hA (fun u80 H locs hw79 hP hD hS => ?_)
                    obtain rfl := hw79
                    have z82 : ((v.1 0 106) + (1 : Int32)).toInt = ((v.1 0 106).toInt) + (1 : Int) := add_z rfl (show (1 : Int32).toInt = (1 : Int) by decide) (om_daba12859b nm9) (om_feb99406a1 nm9)
                    have hP : va_P (dC, dI) vwCl (mW ad N cI cZ cJ (wA (wA v 105 ((v.1 0 106).toNatClampNeg) r78) 0 106 ((v.1 0 106) + (1 : Int32)))) H := hP
                    have hD : va_D A (mW ad N cI cZ cJ (wA (wA v 105 ((v.1 0 106).toNatClampNeg) r78) 0 106 ((v.1 0 106) + (1 : Int32)))) := hD
                    refine W.widen (k := 0) (n := 0) (Nat.le_refl _) (Nat.le_refl _) ?_
                    exact W.vret hx hb hr (fun t ht9 hW => ⟨⟨(wA (wA v 105 ((v.1 0 106).toNatClampNeg) r78) 0 106 ((v.1 0 106) + (1 : Int32))), rfl, ⟨(FG.f (FG.a (FG.rf _) ((v.1 0 106).toNatClampNeg) r78 (by decide) (by decide)) ((v.1 0 106) + (1 : Int32)) (by decide)), ⟨zo, zg, (Or.inl ⟨z2, h3, (Or.inr (⟨h9, (Or.inr (⟨h25, (Or.inr (⟨h32, (Or.inr (⟨h43, (Or.inr (⟨h50, (Or.inr (⟨h61, (Or.inr (⟨h70, r78, ex76, rfl⟩))⟩))⟩))⟩))⟩))⟩))⟩))⟩)⟩, (MI.psh (u := (wA (wA v 105 ((v.1 0 106).toNatClampNeg) r78) 0 106 ((v.1 0 106) + (1 : Int32)))) mi (by rw [← eo]; exact (om_067ad3e2a2 z2)) (show (v.1 0 112).toInt = jg.toInt + 1 from (om_0431d2536c zj)) (all8f (P := fun k9 => ((wA (wA v 105 ((v.1 0 106).toNatClampNeg) r78) 0 106 ((v.1 0 106) + (1 : Int32)))).1 0 k9 = v.1 0 k9) rfl rfl rfl rfl rfl rfl rfl rfl) (all11g (P := fun k9 => ((wA (wA v 105 ((v.1 0 106).toNatClampNeg) r78) 0 106 ((v.1 0 106) + (1 : Int32)))).1 k9 = v.1 k9) rfl rfl rfl rfl rfl rfl rfl rfl rfl rfl rfl) (show ((v.1 0 106) + (1 : Int32)).toInt = (v.1 0 106).toInt + 1 from (om_5bccfc38cf z82)) (fun (j9 : Nat) h9 => pk_un3 (x := (v.1 0 106)) rfl (om_f93f4676ed nm9) (om_4fe904e9bf h9)) (show 0 ≤ (v.1 0 119).toInt ∧ (v.1 0 119).toInt ≤ (v.1 0 119).toInt + 1 from (om_c2c1baedc6 nm9)) (show 0 ≤ (v.1 0 120).toInt ∧ (v.1 0 120).toInt ≤ (v.1 0 120).toInt + 1 from (om_9ca839a770 nm9)))⟩, by rw [ht9]; exact hP, hD⟩, hS.F ht9⟩) hS.2.2 dX13_others_244
  · have z83 : pa.toInt ≠ (17 : Int) := ne_z rfl (show (17 : Int32).toInt = (17 : Int) by decide) h1
    have p9 : 1 ≤ (v.1 0 106).toInt := mi.cO (by rw [← eo]; exact (om_b67f52742d zo z83))
    refine lv_aload_n hx hb dX13_others_8 rfl (lv_at hl 1 rfl) ?_
    refine cu_i (rn_V (n := 0) (As := []) (rest := []) hx hb hml hown ht hKK hFx hP hD hS hA (c_m_pop l dC dI cI cB cZ cJ cR tb s.heap.size ad N v  (show 1 ≤ (v.1 0 106).toInt ∧ (v.1 0 106).toInt ≤ 24000 from (om_89fa2c872a nm9 p9))) tw_335 tw_336 (by decide +kernel) rfl rfl ⟨Nat.le_of_ble_eq_true rfl, Nat.le_of_ble_eq_true rfl⟩ (List.range (mW ad N cI cZ cJ v).length) (rg_map _) (mW_nd _ _ _ _ _ _) rfl rfl rfl rfl hl.1 rfl (Nat.le_of_ble_eq_true rfl) dX13_others_9 ⟨Nat.le_of_ble_eq_true rfl, Nat.le_of_ble_eq_true rfl⟩) hP hD hS hA (fun r86 u85 H locs hw84 hP hD hS => ?_)
    obtain ⟨rfl, rfl⟩ := hw84
    have z87 : ((v.1 0 106) - (1 : Int32)).toInt = ((v.1 0 106).toInt) - (1 : Int) := sub_z rfl (show (1 : Int32).toInt = (1 : Int) by decide) (om_1ea8132e01 p9) (om_5ad56c0db6 nm9)
    have hP : va_P (dC, dI) vwCl (mW ad N cI cZ cJ (wA v 0 106 ((v.1 0 106) - (1 : Int32)))) H := hP
    have hD : va_D A (mW ad N cI cZ cJ (wA v 0 106 ((v.1 0 106) - (1 : Int32)))) := hD
    refine tp_i (y := ((v.1 105) ((v.1 0 106) - (1 : Int32)).toNatClampNeg)) (rfl) ?_
    refine W.widen (k := 0) (n := 0) (Nat.le_refl _) (Nat.le_refl _) ?_
    refine lv_istore_n (lv' := [(3, .int ((v.1 105) ((v.1 0 106) - (1 : Int32)).toNatClampNeg)), (0, .ref (ad 0)), (1, .int pa), (2, .int pb)]) hx hb dX13_others_12 rfl hl (by decide) rfl (fun ls hl => ?_)
    refine lv_iload_n hx hb dX13_others_13 rfl (lv_at hl 2 rfl) ?_
    by_cases h88 : pa = 16
    · refine lv_tableIn (off := 46) (tgt := 60) hx hb dX13_others_14 (by rw [h88]; decide) (by rw [h88]; decide) (by rw [h88]; decide) (by decide) ?_
      have z89 : pa.toInt = (16 : Int) := eq_z rfl (show (16 : Int32).toInt = (16 : Int) by decide) h88
      refine lv_aload_n hx hb dX13_others_60 rfl (lv_at hl 1 rfl) ?_
      refine va_get (D := (dC, dI)) (ci := 16) (fs := mF ad (wA v 0 106 ((v.1 0 106) - (1 : Int32)))) (v := .int (v.1 0 119)) (C := RX13) (T := TX13) (N := 124) hx hb ht itX13 hown hK hP 0 rfl rfl 119 (by decide) (ht _ tw_309) (fun _ h9 => h9) rfl dX13_others_61 ?_
      refine lv_sipush (v := 200) hx hb dX13_others_64 (by decide) ?_
      refine lv_icmp_ge (tgt := 80) hx hb dX13_others_67 (by decide) (fun h90 => ?_) (fun h90 => ?_)
      · have z91 : (200 : Int) ≤ (v.1 0 119).toInt := le_z (show (200 : Int32).toInt = (200 : Int) by decide) rfl h90
        refine lv_aload_n hx hb dX13_others_80 rfl (lv_at hl 1 rfl) ?_
        refine lv_dup hx hb dX13_others_81 rfl ?_
        refine va_get (D := (dC, dI)) (ci := 16) (fs := mF ad (wA v 0 106 ((v.1 0 106) - (1 : Int32)))) (v := .int (v.1 0 119)) (C := RX13) (T := TX13) (N := 124) hx hb ht itX13 hown hK hP 0 rfl rfl 119 (by decide) (ht _ tw_309) (fun _ h9 => h9) rfl dX13_others_82 ?_
        refine lv_iconst (v := 1) hx hb dX13_others_85 (by decide) ?_
        refine lv_iadd hx hb dX13_others_86 ?_
        have z92 : ((v.1 0 119) + (1 : Int32)).toInt = ((v.1 0 119).toInt) + (1 : Int) := add_z rfl (show (1 : Int32).toInt = (1 : Int) by decide) (om_b65f4561e5 z91) (om_bcdb338b29 nm9)
        refine va_put (D := (dC, dI)) (ci := 16) (fs := mF ad (wA v 0 106 ((v.1 0 106) - (1 : Int32)))) (v := .int ((v.1 0 119) + (1 : Int32))) (ty := .int) (C := RX13) (T := TX13) (N := 124) hx hb ht itX13 tyX13 tyX13_ok nmX13 hown hK hP hD hS 0 rfl rfl 119 (by decide) (ht _ tw_309) (fun _ h9 => h9) rfl (by decide +kernel) rfl rfl (Nat.le_of_ble_eq_true rfl) dX13_others_87 (fun H locs hP hD hS => ?_)
        have hP := cP_ (mw_119 ad N cI cZ cJ (wA v 0 106 ((v.1 0 106) - (1 : Int32))) ((v.1 0 119) + (1 : Int32))) hP
        have hD := cD_ (mw_119 ad N cI cZ cJ (wA v 0 106 ((v.1 0 106) - (1 : Int32))) ((v.1 0 119) + (1 : Int32))) hD
        refine lv_goto (tgt := 244) hx hb dX13_others_90 (by decide) ?_
        exact W.vret hx hb hr (fun t ht9 hW => ⟨⟨(wA (wA v 0 106 ((v.1 0 106) - (1 : Int32))) 0 119 ((v.1 0 119) + (1 : Int32))), rfl, ⟨(FG.f (FG.f (FG.rf _) ((v.1 0 106) - (1 : Int32)) (by decide)) ((v.1 0 119) + (1 : Int32)) (by decide)), ⟨zo, zg, (Or.inr (⟨z83, (Or.inl ⟨h88, (Or.inl ⟨z91, rfl⟩)⟩)⟩))⟩, (MI.popN (u := (wA (wA v 0 106 ((v.1 0 106) - (1 : Int32))) 0 119 ((v.1 0 119) + (1 : Int32)))) mi (by rw [← eo]; exact (om_f328d747b2 zo z89)) (show (v.1 0 112).toInt = jg.toInt + 1 from (om_0431d2536c zj)) (all8f (P := fun k9 => ((wA (wA v 0 106 ((v.1 0 106) - (1 : Int32))) 0 119 ((v.1 0 119) + (1 : Int32)))).1 0 k9 = v.1 0 k9) rfl rfl rfl rfl rfl rfl rfl rfl) (all11g (P := fun k9 => ((wA (wA v 0 106 ((v.1 0 106) - (1 : Int32))) 0 119 ((v.1 0 119) + (1 : Int32)))).1 k9 = v.1 k9) rfl rfl rfl rfl rfl rfl rfl rfl rfl rfl rfl) (show ((v.1 0 106) - (1 : Int32)).toInt = (v.1 0 106).toInt - 1 from (om_4b62747e8a z87)) (fun j9 h9 => rfl) (show 0 ≤ ((v.1 0 119) + (1 : Int32)).toInt ∧ ((v.1 0 119) + (1 : Int32)).toInt ≤ (v.1 0 119).toInt + 1 from (om_096fce220b z91 z92)) (show 0 ≤ (v.1 0 120).toInt ∧ (v.1 0 120).toInt ≤ (v.1 0 120).toInt + 1 from (om_9ca839a770 nm9)))⟩, by rw [ht9]; exact hP, hD⟩, hS.F ht9⟩) hS.2.2 dX13_others_244
      · have z93 : (v.1 0 119).toInt < (200 : Int) := nle_z (show (200 : Int32).toInt = (200 : Int) by decide) rfl h90
        refine lv_aload_n hx hb dX13_others_70 rfl (lv_at hl 1 rfl) ?_
        refine va_get (D := (dC, dI)) (ci := 16) (fs := mF ad (wA v 0 106 ((v.1 0 106) - (1 : Int32)))) (v := .ref (ad 118)) (C := RX13) (T := TX13) (N := 124) hx hb ht itX13 hown hK hP 0 rfl rfl 118 (by decide) (ht _ tw_313) (fun _ h9 => h9) rfl dX13_others_71 ?_
        refine lv_aload_n hx hb dX13_others_74 rfl (lv_at hl 1 rfl) ?_
        refine va_get (D := (dC, dI)) (ci := 16) (fs := mF ad (wA v 0 106 ((v.1 0 106) - (1 : Int32)))) (v := .int (v.1 0 119)) (C := RX13) (T := TX13) (N := 124) hx hb ht itX13 hown hK hP 0 rfl rfl 119 (by decide) (ht _ tw_309) (fun _ h9 => h9) rfl dX13_others_75 ?_
        refine lv_iload_n hx hb dX13_others_78 rfl (lv_at hl 0 rfl) ?_
        refine va_iast (D := (dC, dI)) (f := (v.1 118)) hx hb hK hP hD hS 61 0 rfl rfl (in_y (a := (v.1 0 119).toInt) (b := 200) rfl (om_c51e7b5b33 nm9) (om_2a12793f64 z93) rfl) dX13_others_79 (fun H locs hP hD hS => ?_)
        have hP := cP_ (ma_118 ad N cI cZ cJ (wA v 0 106 ((v.1 0 106) - (1 : Int32))) ((v.1 0 119).toNatClampNeg) ((v.1 105) ((v.1 0 106) - (1 : Int32)).toNatClampNeg)) hP
        have hD := cD_ (ma_118 ad N cI cZ cJ (wA v 0 106 ((v.1 0 106) - (1 : Int32))) ((v.1 0 119).toNatClampNeg) ((v.1 105) ((v.1 0 106) - (1 : Int32)).toNatClampNeg)) hD
        refine lv_aload_n hx hb dX13_others_80 rfl (lv_at hl 1 rfl) ?_
        refine lv_dup hx hb dX13_others_81 rfl ?_
        refine va_get (D := (dC, dI)) (ci := 16) (fs := mF ad (wA (wA v 0 106 ((v.1 0 106) - (1 : Int32))) 118 ((v.1 0 119).toNatClampNeg) ((v.1 105) ((v.1 0 106) - (1 : Int32)).toNatClampNeg))) (v := .int (v.1 0 119)) (C := RX13) (T := TX13) (N := 124) hx hb ht itX13 hown hK hP 0 rfl rfl 119 (by decide) (ht _ tw_309) (fun _ h9 => h9) rfl dX13_others_82 ?_
        refine lv_iconst (v := 1) hx hb dX13_others_85 (by decide) ?_
        refine lv_iadd hx hb dX13_others_86 ?_
        have z94 : ((v.1 0 119) + (1 : Int32)).toInt = ((v.1 0 119).toInt) + (1 : Int) := add_z rfl (show (1 : Int32).toInt = (1 : Int) by decide) (om_30b1fb5333 nm9) (om_bcdb338b29 nm9)
        refine va_put (D := (dC, dI)) (ci := 16) (fs := mF ad (wA (wA v 0 106 ((v.1 0 106) - (1 : Int32))) 118 ((v.1 0 119).toNatClampNeg) ((v.1 105) ((v.1 0 106) - (1 : Int32)).toNatClampNeg))) (v := .int ((v.1 0 119) + (1 : Int32))) (ty := .int) (C := RX13) (T := TX13) (N := 124) hx hb ht itX13 tyX13 tyX13_ok nmX13 hown hK hP hD hS 0 rfl rfl 119 (by decide) (ht _ tw_309) (fun _ h9 => h9) rfl (by decide +kernel) rfl rfl (Nat.le_of_ble_eq_true rfl) dX13_others_87 (fun H locs hP hD hS => ?_)
        have hP := cP_ (mw_119 ad N cI cZ cJ (wA (wA v 0 106 ((v.1 0 106) - (1 : Int32))) 118 ((v.1 0 119).toNatClampNeg) ((v.1 105) ((v.1 0 106) - (1 : Int32)).toNatClampNeg)) ((v.1 0 119) + (1 : Int32))) hP
        have hD := cD_ (mw_119 ad N cI cZ cJ (wA (wA v 0 106 ((v.1 0 106) - (1 : Int32))) 118 ((v.1 0 119).toNatClampNeg) ((v.1 105) ((v.1 0 106) - (1 : Int32)).toNatClampNeg)) ((v.1 0 119) + (1 : Int32))) hD
        refine lv_goto (tgt := 244) hx hb dX13_others_90 (by decide) ?_
        exact W.vret hx hb hr (fun t ht9 hW => ⟨⟨(wA (wA (wA v 0 106 ((v.1 0 106) - (1 : Int32))) 118 ((v.1 0 119).toNatClampNeg) ((v.1 105) ((v.1 0 106) - (1 : Int32)).toNatClampNeg)) 0 119 ((v.1 0 119) + (1 : Int32))), rfl, ⟨(FG.f (FG.a (FG.f (FG.rf _) ((v.1 0 106) - (1 : Int32)) (by decide)) ((v.1 0 119).toNatClampNeg) ((v.1 105) ((v.1 0 106) - (1 : Int32)).toNatClampNeg) (by decide) (by decide)) ((v.1 0 119) + (1 : Int32)) (by decide)), ⟨zo, zg, (Or.inr (⟨z83, (Or.inl ⟨h88, (Or.inr (⟨z93, rfl⟩))⟩)⟩))⟩, (MI.popN (u := (wA (wA (wA v 0 106 ((v.1 0 106) - (1 : Int32))) 118 ((v.1 0 119).toNatClampNeg) ((v.1 105) ((v.1 0 106) - (1 : Int32)).toNatClampNeg)) 0 119 ((v.1 0 119) + (1 : Int32)))) mi (by rw [← eo]; exact (om_f328d747b2 zo z89)) (show (v.1 0 112).toInt = jg.toInt + 1 from (om_0431d2536c zj)) (all8f (P := fun k9 => ((wA (wA (wA v 0 106 ((v.1 0 106) - (1 : Int32))) 118 ((v.1 0 119).toNatClampNeg) ((v.1 105) ((v.1 0 106) - (1 : Int32)).toNatClampNeg)) 0 119 ((v.1 0 119) + (1 : Int32)))).1 0 k9 = v.1 0 k9) rfl rfl rfl rfl rfl rfl rfl rfl) (all11g (P := fun k9 => ((wA (wA (wA v 0 106 ((v.1 0 106) - (1 : Int32))) 118 ((v.1 0 119).toNatClampNeg) ((v.1 105) ((v.1 0 106) - (1 : Int32)).toNatClampNeg)) 0 119 ((v.1 0 119) + (1 : Int32)))).1 k9 = v.1 k9) rfl rfl rfl rfl rfl rfl rfl rfl rfl rfl rfl) (show ((v.1 0 106) - (1 : Int32)).toInt = (v.1 0 106).toInt - 1 from (om_4b62747e8a z87)) (fun j9 h9 => rfl) (show 0 ≤ ((v.1 0 119) + (1 : Int32)).toInt ∧ ((v.1 0 119) + (1 : Int32)).toInt ≤ (v.1 0 119).toInt + 1 from (om_2d51ed27ee nm9 z94)) (show 0 ≤ (v.1 0 120).toInt ∧ (v.1 0 120).toInt ≤ (v.1 0 120).toInt + 1 from (om_9ca839a770 nm9)))⟩, by rw [ht9]; exact hP, hD⟩, hS.F ht9⟩) hS.2.2 dX13_others_244
    ·
      have z95 : pa.toInt ≠ (16 : Int) := ne_z rfl (show (16 : Int32).toInt = (16 : Int) by decide) h88
      by_cases h96 : pa = 17
      · refine lv_tableIn (off := 79) (tgt := 93) hx hb dX13_others_14 (by rw [h96]; decide) (by rw [h96]; decide) (by rw [h96]; decide) (by decide) ?_
        have z97 : pa.toInt = (17 : Int) := eq_z rfl (show (17 : Int32).toInt = (17 : Int) by decide) h96
        refine lv_aload_n hx hb dX13_others_93 rfl (lv_at hl 1 rfl) ?_
        refine lv_aload_n hx hb dX13_others_94 rfl (lv_at hl 1 rfl) ?_
        refine va_get (D := (dC, dI)) (ci := 16) (fs := mF ad (wA v 0 106 ((v.1 0 106) - (1 : Int32)))) (v := .int (v.1 0 120)) (C := RX13) (T := TX13) (N := 124) hx hb ht itX13 hown hK hP 0 rfl rfl 120 (by decide) (ht _ tw_310) (fun _ h9 => h9) rfl dX13_others_95 ?_
        refine lv_aload_n hx hb dX13_others_98 rfl (lv_at hl 1 rfl) ?_
        refine va_get (D := (dC, dI)) (ci := 16) (fs := mF ad (wA v 0 106 ((v.1 0 106) - (1 : Int32)))) (v := .int (v.1 0 94)) (C := RX13) (T := TX13) (N := 124) hx hb ht itX13 hown hK hP 0 rfl rfl 94 (by decide) (ht _ tw_225) (fun _ h9 => h9) rfl dX13_others_99 ?_
        refine lv_icmp_ge (tgt := 117) hx hb dX13_others_102 (by decide) (fun h98 => ?_) (fun h98 => ?_)
        · have z99 : (v.1 0 94).toInt ≤ (v.1 0 120).toInt := le_z rfl rfl h98
          refine lv_iconst (v := 0) hx hb dX13_others_117 (by decide) ?_
          refine cu_v (rn_V (n := 1) (As := [.int 0]) (rest := []) hx hb hml hown ht hKK hFx hP hD hS hA (c_m_push l dC dI cI cB cZ cJ cR tb H.size ad N (wA v 0 106 ((v.1 0 106) - (1 : Int32))) (0 : Int32) (show 0 ≤ ((v.1 0 106) - (1 : Int32)).toInt ∧ ((v.1 0 106) - (1 : Int32)).toInt < 24000 from (om_b9769f74ce nm9 p9 z87))) tw_332 tw_333 (by decide +kernel) rfl rfl ⟨Nat.le_of_ble_eq_true rfl, Nat.le_of_ble_eq_true rfl⟩ (List.range (mW ad N cI cZ cJ (wA v 0 106 ((v.1 0 106) - (1 : Int32)))).length) (rg_map _) (mW_nd _ _ _ _ _ _) rfl rfl rfl rfl hl.1 rfl (Nat.le_of_ble_eq_true rfl) dX13_others_118 ⟨Nat.le_of_ble_eq_true rfl, Nat.le_of_ble_eq_true rfl⟩) hP hD hS hA (fun u101 H locs hw100 hP hD hS => ?_)
          obtain rfl := hw100
          have z103 : (((v.1 0 106) - (1 : Int32)) + (1 : Int32)).toInt = (((v.1 0 106).toInt) - (1 : Int)) + (1 : Int) := add_z z87 (show (1 : Int32).toInt = (1 : Int) by decide) (om_2d6ae04023 p9) (om_163065fe51 nm9)
          have hP : va_P (dC, dI) vwCl (mW ad N cI cZ cJ (wA (wA (wA v 0 106 ((v.1 0 106) - (1 : Int32))) 105 (((v.1 0 106) - (1 : Int32)).toNatClampNeg) (0 : Int32)) 0 106 (((v.1 0 106) - (1 : Int32)) + (1 : Int32)))) H := hP
          have hD : va_D A (mW ad N cI cZ cJ (wA (wA (wA v 0 106 ((v.1 0 106) - (1 : Int32))) 105 (((v.1 0 106) - (1 : Int32)).toNatClampNeg) (0 : Int32)) 0 106 (((v.1 0 106) - (1 : Int32)) + (1 : Int32)))) := hD
          refine W.widen (k := 0) (n := 0) (Nat.le_refl _) (Nat.le_refl _) ?_
          refine lv_aload_n hx hb dX13_others_121 rfl (lv_at hl 1 rfl) ?_
          refine lv_dup hx hb dX13_others_122 rfl ?_
          refine va_get (D := (dC, dI)) (ci := 16) (fs := mF ad (wA (wA (wA v 0 106 ((v.1 0 106) - (1 : Int32))) 105 (((v.1 0 106) - (1 : Int32)).toNatClampNeg) (0 : Int32)) 0 106 (((v.1 0 106) - (1 : Int32)) + (1 : Int32)))) (v := .int (v.1 0 120)) (C := RX13) (T := TX13) (N := 124) hx hb ht itX13 hown hK hP 0 rfl rfl 120 (by decide) (ht _ tw_310) (fun _ h9 => h9) rfl dX13_others_123 ?_
          refine lv_iconst (v := 1) hx hb dX13_others_126 (by decide) ?_
          refine lv_iadd hx hb dX13_others_127 ?_
          have z104 : ((v.1 0 120) + (1 : Int32)).toInt = ((v.1 0 120).toInt) + (1 : Int) := add_z rfl (show (1 : Int32).toInt = (1 : Int) by decide) (om_a9b471c640 nm9) (om_72f7accf21 nm9)
          refine va_put (D := (dC, dI)) (ci := 16) (fs := mF ad (wA (wA (wA v 0 106 ((v.1 0 106) - (1 : Int32))) 105 (((v.1 0 106) - (1 : Int32)).toNatClampNeg) (0 : Int32)) 0 106 (((v.1 0 106) - (1 : Int32)) + (1 : Int32)))) (v := .int ((v.1 0 120) + (1 : Int32))) (ty := .int) (C := RX13) (T := TX13) (N := 124) hx hb ht itX13 tyX13 tyX13_ok nmX13 hown hK hP hD hS 0 rfl rfl 120 (by decide) (ht _ tw_310) (fun _ h9 => h9) rfl (by decide +kernel) rfl rfl (Nat.le_of_ble_eq_true rfl) dX13_others_128 (fun H locs hP hD hS => ?_)
          have hP := cP_ (mw_120 ad N cI cZ cJ (wA (wA (wA v 0 106 ((v.1 0 106) - (1 : Int32))) 105 (((v.1 0 106) - (1 : Int32)).toNatClampNeg) (0 : Int32)) 0 106 (((v.1 0 106) - (1 : Int32)) + (1 : Int32))) ((v.1 0 120) + (1 : Int32))) hP
          have hD := cD_ (mw_120 ad N cI cZ cJ (wA (wA (wA v 0 106 ((v.1 0 106) - (1 : Int32))) 105 (((v.1 0 106) - (1 : Int32)).toNatClampNeg) (0 : Int32)) 0 106 (((v.1 0 106) - (1 : Int32)) + (1 : Int32))) ((v.1 0 120) + (1 : Int32))) hD
          refine lv_goto (tgt := 244) hx hb dX13_others_131 (by decide) ?_
          exact W.vret hx hb hr (fun t ht9 hW => ⟨⟨(wA (wA (wA (wA v 0 106 ((v.1 0 106) - (1 : Int32))) 105 (((v.1 0 106) - (1 : Int32)).toNatClampNeg) (0 : Int32)) 0 106 (((v.1 0 106) - (1 : Int32)) + (1 : Int32))) 0 120 ((v.1 0 120) + (1 : Int32))), rfl, ⟨(FG.f (FG.f (FG.a (FG.f (FG.rf _) ((v.1 0 106) - (1 : Int32)) (by decide)) (((v.1 0 106) - (1 : Int32)).toNatClampNeg) (0 : Int32) (by decide) (by decide)) (((v.1 0 106) - (1 : Int32)) + (1 : Int32)) (by decide)) ((v.1 0 120) + (1 : Int32)) (by decide)), ⟨zo, zg, (Or.inr (⟨z83, (Or.inr (⟨h88, (Or.inl ⟨h96, (Or.inl ⟨z99, rfl⟩)⟩)⟩))⟩))⟩, (MI.psh (u := (wA (wA (wA (wA v 0 106 ((v.1 0 106) - (1 : Int32))) 105 (((v.1 0 106) - (1 : Int32)).toNatClampNeg) (0 : Int32)) 0 106 (((v.1 0 106) - (1 : Int32)) + (1 : Int32))) 0 120 ((v.1 0 120) + (1 : Int32)))) mi (by rw [← eo]; exact (om_067ad3e2a2 z97)) (show (v.1 0 112).toInt = jg.toInt + 1 from (om_0431d2536c zj)) (all8f (P := fun k9 => ((wA (wA (wA (wA v 0 106 ((v.1 0 106) - (1 : Int32))) 105 (((v.1 0 106) - (1 : Int32)).toNatClampNeg) (0 : Int32)) 0 106 (((v.1 0 106) - (1 : Int32)) + (1 : Int32))) 0 120 ((v.1 0 120) + (1 : Int32)))).1 0 k9 = v.1 0 k9) rfl rfl rfl rfl rfl rfl rfl rfl) (all11g (P := fun k9 => ((wA (wA (wA (wA v 0 106 ((v.1 0 106) - (1 : Int32))) 105 (((v.1 0 106) - (1 : Int32)).toNatClampNeg) (0 : Int32)) 0 106 (((v.1 0 106) - (1 : Int32)) + (1 : Int32))) 0 120 ((v.1 0 120) + (1 : Int32)))).1 k9 = v.1 k9) rfl rfl rfl rfl rfl rfl rfl rfl rfl rfl rfl) (show (((v.1 0 106) - (1 : Int32)) + (1 : Int32)).toInt = (v.1 0 106).toInt + 1 from (om_68101d6440 z83 z97 z103)) (fun (j9 : Nat) h9 => pk_un3 (x := ((v.1 0 106) - (1 : Int32))) rfl (om_ecfb7d2efe p9 z87) (om_480324a27c z83 z97)) (show 0 ≤ (v.1 0 119).toInt ∧ (v.1 0 119).toInt ≤ (v.1 0 119).toInt + 1 from (om_c2c1baedc6 nm9)) (show 0 ≤ ((v.1 0 120) + (1 : Int32)).toInt ∧ ((v.1 0 120) + (1 : Int32)).toInt ≤ (v.1 0 120).toInt + 1 from (om_9cd803f030 nm9 z104)))⟩, by rw [ht9]; exact hP, hD⟩, hS.F ht9⟩) hS.2.2 dX13_others_244
        · have z105 : (v.1 0 120).toInt < (v.1 0 94).toInt := nle_z rfl rfl h98
          refine lv_aload_n hx hb dX13_others_105 rfl (lv_at hl 1 rfl) ?_
          refine va_get (D := (dC, dI)) (ci := 16) (fs := mF ad (wA v 0 106 ((v.1 0 106) - (1 : Int32)))) (v := .ref (ad 93)) (C := RX13) (T := TX13) (N := 124) hx hb ht itX13 hown hK hP 0 rfl rfl 93 (by decide) (ht _ tw_226) (fun _ h9 => h9) rfl dX13_others_106 ?_
          refine lv_aload_n hx hb dX13_others_109 rfl (lv_at hl 1 rfl) ?_
          refine va_get (D := (dC, dI)) (ci := 16) (fs := mF ad (wA v 0 106 ((v.1 0 106) - (1 : Int32)))) (v := .int (v.1 0 120)) (C := RX13) (T := TX13) (N := 124) hx hb ht itX13 hown hK hP 0 rfl rfl 120 (by decide) (ht _ tw_310) (fun _ h9 => h9) rfl dX13_others_110 ?_
          refine va_iald (D := (dC, dI)) (f := (v.1 93)) hx hb hK hP 51 0 rfl rfl (in_y (a := (v.1 0 120).toInt) (b := 64) rfl (om_b005d9ffa7 nm9) (om_e9ac88ec72 zg z105) rfl) dX13_others_113 ?_
          refine lv_goto (tgt := 118) hx hb dX13_others_114 (by decide) ?_
          refine cu_v (rn_V (n := 1) (As := [.int ((v.1 93) (v.1 0 120).toNatClampNeg)]) (rest := []) hx hb hml hown ht hKK hFx hP hD hS hA (c_m_push l dC dI cI cB cZ cJ cR tb H.size ad N (wA v 0 106 ((v.1 0 106) - (1 : Int32))) ((v.1 93) (v.1 0 120).toNatClampNeg) (show 0 ≤ ((v.1 0 106) - (1 : Int32)).toInt ∧ ((v.1 0 106) - (1 : Int32)).toInt < 24000 from (om_b9769f74ce nm9 p9 z87))) tw_332 tw_333 (by decide +kernel) rfl rfl ⟨Nat.le_of_ble_eq_true rfl, Nat.le_of_ble_eq_true rfl⟩ (List.range (mW ad N cI cZ cJ (wA v 0 106 ((v.1 0 106) - (1 : Int32)))).length) (rg_map _) (mW_nd _ _ _ _ _ _) rfl rfl rfl rfl hl.1 rfl (Nat.le_of_ble_eq_true rfl) dX13_others_118 ⟨Nat.le_of_ble_eq_true rfl, Nat.le_of_ble_eq_true rfl⟩) hP hD hS hA (fun u107 H locs hw106 hP hD hS => ?_)
          obtain rfl := hw106
          have z109 : (((v.1 0 106) - (1 : Int32)) + (1 : Int32)).toInt = (((v.1 0 106).toInt) - (1 : Int)) + (1 : Int) := add_z z87 (show (1 : Int32).toInt = (1 : Int) by decide) (om_2d6ae04023 p9) (om_163065fe51 nm9)
          have hP : va_P (dC, dI) vwCl (mW ad N cI cZ cJ (wA (wA (wA v 0 106 ((v.1 0 106) - (1 : Int32))) 105 (((v.1 0 106) - (1 : Int32)).toNatClampNeg) ((v.1 93) (v.1 0 120).toNatClampNeg)) 0 106 (((v.1 0 106) - (1 : Int32)) + (1 : Int32)))) H := hP
          have hD : va_D A (mW ad N cI cZ cJ (wA (wA (wA v 0 106 ((v.1 0 106) - (1 : Int32))) 105 (((v.1 0 106) - (1 : Int32)).toNatClampNeg) ((v.1 93) (v.1 0 120).toNatClampNeg)) 0 106 (((v.1 0 106) - (1 : Int32)) + (1 : Int32)))) := hD
          refine W.widen (k := 0) (n := 0) (Nat.le_refl _) (Nat.le_refl _) ?_
          refine lv_aload_n hx hb dX13_others_121 rfl (lv_at hl 1 rfl) ?_
          refine lv_dup hx hb dX13_others_122 rfl ?_
          refine va_get (D := (dC, dI)) (ci := 16) (fs := mF ad (wA (wA (wA v 0 106 ((v.1 0 106) - (1 : Int32))) 105 (((v.1 0 106) - (1 : Int32)).toNatClampNeg) ((v.1 93) (v.1 0 120).toNatClampNeg)) 0 106 (((v.1 0 106) - (1 : Int32)) + (1 : Int32)))) (v := .int (v.1 0 120)) (C := RX13) (T := TX13) (N := 124) hx hb ht itX13 hown hK hP 0 rfl rfl 120 (by decide) (ht _ tw_310) (fun _ h9 => h9) rfl dX13_others_123 ?_
          refine lv_iconst (v := 1) hx hb dX13_others_126 (by decide) ?_
          refine lv_iadd hx hb dX13_others_127 ?_
          have z110 : ((v.1 0 120) + (1 : Int32)).toInt = ((v.1 0 120).toInt) + (1 : Int) := add_z rfl (show (1 : Int32).toInt = (1 : Int) by decide) (om_a9b471c640 nm9) (om_72f7accf21 nm9)
          refine va_put (D := (dC, dI)) (ci := 16) (fs := mF ad (wA (wA (wA v 0 106 ((v.1 0 106) - (1 : Int32))) 105 (((v.1 0 106) - (1 : Int32)).toNatClampNeg) ((v.1 93) (v.1 0 120).toNatClampNeg)) 0 106 (((v.1 0 106) - (1 : Int32)) + (1 : Int32)))) (v := .int ((v.1 0 120) + (1 : Int32))) (ty := .int) (C := RX13) (T := TX13) (N := 124) hx hb ht itX13 tyX13 tyX13_ok nmX13 hown hK hP hD hS 0 rfl rfl 120 (by decide) (ht _ tw_310) (fun _ h9 => h9) rfl (by decide +kernel) rfl rfl (Nat.le_of_ble_eq_true rfl) dX13_others_128 (fun H locs hP hD hS => ?_)
          have hP := cP_ (mw_120 ad N cI cZ cJ (wA (wA (wA v 0 106 ((v.1 0 106) - (1 : Int32))) 105 (((v.1 0 106) - (1 : Int32)).toNatClampNeg) ((v.1 93) (v.1 0 120).toNatClampNeg)) 0 106 (((v.1 0 106) - (1 : Int32)) + (1 : Int32))) ((v.1 0 120) + (1 : Int32))) hP
          have hD := cD_ (mw_120 ad N cI cZ cJ (wA (wA (wA v 0 106 ((v.1 0 106) - (1 : Int32))) 105 (((v.1 0 106) - (1 : Int32)).toNatClampNeg) ((v.1 93) (v.1 0 120).toNatClampNeg)) 0 106 (((v.1 0 106) - (1 : Int32)) + (1 : Int32))) ((v.1 0 120) + (1 : Int32))) hD
          refine lv_goto (tgt := 244) hx hb dX13_others_131 (by decide) ?_
          exact W.vret hx hb hr (fun t ht9 hW => ⟨⟨(wA (wA (wA (wA v 0 106 ((v.1 0 106) - (1 : Int32))) 105 (((v.1 0 106) - (1 : Int32)).toNatClampNeg) ((v.1 93) (v.1 0 120).toNatClampNeg)) 0 106 (((v.1 0 106) - (1 : Int32)) + (1 : Int32))) 0 120 ((v.1 0 120) + (1 : Int32))), rfl, ⟨(FG.f (FG.f (FG.a (FG.f (FG.rf _) ((v.1 0 106) - (1 : Int32)) (by decide)) (((v.1 0 106) - (1 : Int32)).toNatClampNeg) ((v.1 93) (v.1 0 120).toNatClampNeg) (by decide) (by decide)) (((v.1 0 106) - (1 : Int32)) + (1 : Int32)) (by decide)) ((v.1 0 120) + (1 : Int32)) (by decide)), ⟨zo, zg, (Or.inr (⟨z83, (Or.inr (⟨h88, (Or.inl ⟨h96, (Or.inr (⟨z105, rfl⟩))⟩)⟩))⟩))⟩, (MI.psh (u := (wA (wA (wA (wA v 0 106 ((v.1 0 106) - (1 : Int32))) 105 (((v.1 0 106) - (1 : Int32)).toNatClampNeg) ((v.1 93) (v.1 0 120).toNatClampNeg)) 0 106 (((v.1 0 106) - (1 : Int32)) + (1 : Int32))) 0 120 ((v.1 0 120) + (1 : Int32)))) mi (by rw [← eo]; exact (om_067ad3e2a2 z97)) (show (v.1 0 112).toInt = jg.toInt + 1 from (om_0431d2536c zj)) (all8f (P := fun k9 => ((wA (wA (wA (wA v 0 106 ((v.1 0 106) - (1 : Int32))) 105 (((v.1 0 106) - (1 : Int32)).toNatClampNeg) ((v.1 93) (v.1 0 120).toNatClampNeg)) 0 106 (((v.1 0 106) - (1 : Int32)) + (1 : Int32))) 0 120 ((v.1 0 120) + (1 : Int32)))).1 0 k9 = v.1 0 k9) rfl rfl rfl rfl rfl rfl rfl rfl) (all11g (P := fun k9 => ((wA (wA (wA (wA v 0 106 ((v.1 0 106) - (1 : Int32))) 105 (((v.1 0 106) - (1 : Int32)).toNatClampNeg) ((v.1 93) (v.1 0 120).toNatClampNeg)) 0 106 (((v.1 0 106) - (1 : Int32)) + (1 : Int32))) 0 120 ((v.1 0 120) + (1 : Int32)))).1 k9 = v.1 k9) rfl rfl rfl rfl rfl rfl rfl rfl rfl rfl rfl) (show (((v.1 0 106) - (1 : Int32)) + (1 : Int32)).toInt = (v.1 0 106).toInt + 1 from (om_68101d6440 z83 z97 z109)) (fun (j9 : Nat) h9 => pk_un3 (x := ((v.1 0 106) - (1 : Int32))) rfl (om_ecfb7d2efe p9 z87) (om_480324a27c z83 z97)) (show 0 ≤ (v.1 0 119).toInt ∧ (v.1 0 119).toInt ≤ (v.1 0 119).toInt + 1 from (om_c2c1baedc6 nm9)) (show 0 ≤ ((v.1 0 120) + (1 : Int32)).toInt ∧ ((v.1 0 120) + (1 : Int32)).toInt ≤ (v.1 0 120).toInt + 1 from (om_9cd803f030 nm9 z110)))⟩, by rw [ht9]; exact hP, hD⟩, hS.F ht9⟩) hS.2.2 dX13_others_244
      ·
        have z111 : pa.toInt ≠ (17 : Int) := ne_z rfl (show (17 : Int32).toInt = (17 : Int) by decide) h96
        by_cases h112 : pa = 18
        · refine lv_tableIn (off := 120) (tgt := 134) hx hb dX13_others_14 (by rw [h112]; decide) (by rw [h112]; decide) (by rw [h112]; decide) (by decide) ?_
          have z113 : pa.toInt = (18 : Int) := eq_z rfl (show (18 : Int32).toInt = (18 : Int) by decide) h112
          refine lv_aload_n hx hb dX13_others_134 rfl (lv_at hl 1 rfl) ?_
          refine lv_iload_n hx hb dX13_others_135 rfl (lv_at hl 0 rfl) ?_
          refine lv_ineg hx hb dX13_others_136 ?_
          refine cu_v (rn_V (n := 1) (As := [.int (-((v.1 105) ((v.1 0 106) - (1 : Int32)).toNatClampNeg))]) (rest := []) hx hb hml hown ht hKK hFx hP hD hS hA (c_m_push l dC dI cI cB cZ cJ cR tb H.size ad N (wA v 0 106 ((v.1 0 106) - (1 : Int32))) (-((v.1 105) ((v.1 0 106) - (1 : Int32)).toNatClampNeg)) (show 0 ≤ ((v.1 0 106) - (1 : Int32)).toInt ∧ ((v.1 0 106) - (1 : Int32)).toInt < 24000 from (om_b9769f74ce nm9 p9 z87))) tw_332 tw_333 (by decide +kernel) rfl rfl ⟨Nat.le_of_ble_eq_true rfl, Nat.le_of_ble_eq_true rfl⟩ (List.range (mW ad N cI cZ cJ (wA v 0 106 ((v.1 0 106) - (1 : Int32)))).length) (rg_map _) (mW_nd _ _ _ _ _ _) rfl rfl rfl rfl hl.1 rfl (Nat.le_of_ble_eq_true rfl) dX13_others_137 ⟨Nat.le_of_ble_eq_true rfl, Nat.le_of_ble_eq_true rfl⟩) hP hD hS hA (fun u115 H locs hw114 hP hD hS => ?_)
          obtain rfl := hw114
          have z117 : (((v.1 0 106) - (1 : Int32)) + (1 : Int32)).toInt = (((v.1 0 106).toInt) - (1 : Int)) + (1 : Int) := add_z z87 (show (1 : Int32).toInt = (1 : Int) by decide) (om_2d6ae04023 p9) (om_163065fe51 nm9)
          have hP : va_P (dC, dI) vwCl (mW ad N cI cZ cJ (wA (wA (wA v 0 106 ((v.1 0 106) - (1 : Int32))) 105 (((v.1 0 106) - (1 : Int32)).toNatClampNeg) (-((v.1 105) ((v.1 0 106) - (1 : Int32)).toNatClampNeg))) 0 106 (((v.1 0 106) - (1 : Int32)) + (1 : Int32)))) H := hP
          have hD : va_D A (mW ad N cI cZ cJ (wA (wA (wA v 0 106 ((v.1 0 106) - (1 : Int32))) 105 (((v.1 0 106) - (1 : Int32)).toNatClampNeg) (-((v.1 105) ((v.1 0 106) - (1 : Int32)).toNatClampNeg))) 0 106 (((v.1 0 106) - (1 : Int32)) + (1 : Int32)))) := hD
          refine W.widen (k := 0) (n := 0) (Nat.le_refl _) (Nat.le_refl _) ?_
          refine lv_goto (tgt := 244) hx hb dX13_others_140 (by decide) ?_
          exact W.vret hx hb hr (fun t ht9 hW => ⟨⟨(wA (wA (wA v 0 106 ((v.1 0 106) - (1 : Int32))) 105 (((v.1 0 106) - (1 : Int32)).toNatClampNeg) (-((v.1 105) ((v.1 0 106) - (1 : Int32)).toNatClampNeg))) 0 106 (((v.1 0 106) - (1 : Int32)) + (1 : Int32))), rfl, ⟨(FG.f (FG.a (FG.f (FG.rf _) ((v.1 0 106) - (1 : Int32)) (by decide)) (((v.1 0 106) - (1 : Int32)).toNatClampNeg) (-((v.1 105) ((v.1 0 106) - (1 : Int32)).toNatClampNeg)) (by decide) (by decide)) (((v.1 0 106) - (1 : Int32)) + (1 : Int32)) (by decide)), ⟨zo, zg, (Or.inr (⟨z83, (Or.inr (⟨h88, (Or.inr (⟨h96, (Or.inl ⟨h112, rfl⟩)⟩))⟩))⟩))⟩, (MI.r18 (u := (wA (wA (wA v 0 106 ((v.1 0 106) - (1 : Int32))) 105 (((v.1 0 106) - (1 : Int32)).toNatClampNeg) (-((v.1 105) ((v.1 0 106) - (1 : Int32)).toNatClampNeg))) 0 106 (((v.1 0 106) - (1 : Int32)) + (1 : Int32)))) mi (by rw [← eo]; exact (om_9fb619fb6e z113)) (show (v.1 0 112).toInt = jg.toInt + 1 from (om_0431d2536c zj)) (all8f (P := fun k9 => ((wA (wA (wA v 0 106 ((v.1 0 106) - (1 : Int32))) 105 (((v.1 0 106) - (1 : Int32)).toNatClampNeg) (-((v.1 105) ((v.1 0 106) - (1 : Int32)).toNatClampNeg))) 0 106 (((v.1 0 106) - (1 : Int32)) + (1 : Int32)))).1 0 k9 = v.1 0 k9) rfl rfl rfl rfl rfl rfl rfl rfl) (all11g (P := fun k9 => ((wA (wA (wA v 0 106 ((v.1 0 106) - (1 : Int32))) 105 (((v.1 0 106) - (1 : Int32)).toNatClampNeg) (-((v.1 105) ((v.1 0 106) - (1 : Int32)).toNatClampNeg))) 0 106 (((v.1 0 106) - (1 : Int32)) + (1 : Int32)))).1 k9 = v.1 k9) rfl rfl rfl rfl rfl rfl rfl rfl rfl rfl rfl) (show (((v.1 0 106) - (1 : Int32)) + (1 : Int32)).toInt = (v.1 0 106).toInt from (om_e2d5010e12 z117)) (fun (j9 : Nat) h9 => pk_un3 (x := ((v.1 0 106) - (1 : Int32))) rfl (om_ecfb7d2efe p9 z87) (om_8c41dc5a15 z87 h9)) (show 0 ≤ (v.1 0 119).toInt ∧ (v.1 0 119).toInt ≤ (v.1 0 119).toInt + 1 from (om_c2c1baedc6 nm9)) (show 0 ≤ (v.1 0 120).toInt ∧ (v.1 0 120).toInt ≤ (v.1 0 120).toInt + 1 from (om_9ca839a770 nm9)))⟩, by rw [ht9]; exact hP, hD⟩, hS.F ht9⟩) hS.2.2 dX13_others_244
        ·
          have z118 : pa.toInt ≠ (18 : Int) := ne_z rfl (show (18 : Int32).toInt = (18 : Int) by decide) h112
          by_cases h119 : pa = 19
          · refine lv_tableIn (off := 129) (tgt := 143) hx hb dX13_others_14 (by rw [h119]; decide) (by rw [h119]; decide) (by rw [h119]; decide) (by decide) ?_
            have z120 : pa.toInt = (19 : Int) := eq_z rfl (show (19 : Int32).toInt = (19 : Int) by decide) h119
            refine lv_aload_n hx hb dX13_others_143 rfl (lv_at hl 1 rfl) ?_
            refine lv_iload_n hx hb dX13_others_144 rfl (lv_at hl 0 rfl) ?_
            refine lv_if_ne (tgt := 152) hx hb dX13_others_145 (by decide) (fun h121 => ?_) (fun h121 => ?_)
            · have z122 : ((v.1 105) ((v.1 0 106) - (1 : Int32)).toNatClampNeg).toInt ≠ (0 : Int) := ne_z rfl (show (0 : Int32).toInt = (0 : Int) by decide) h121
              refine lv_iconst (v := 0) hx hb dX13_others_152 (by decide) ?_
              refine cu_s (mW_nd _ _ _ _ _ _) (rn_S (n := 1) (As := [.int 0]) (rest := [.ref (ad 0)]) hx hb hml hown ht hKK hFx hP hD hS hA (c_m_less l dC dI cI cB cZ cJ cR tb H.size (0 : Int32) ) tw_222 tw_223 (by decide +kernel) rfl rfl ⟨Nat.le_of_ble_eq_true rfl, Nat.le_of_ble_eq_true rfl⟩ [] rfl rfl rfl hl.1 rfl (Nat.le_of_ble_eq_true rfl) dX13_others_153 ⟨Nat.le_of_ble_eq_true rfl, Nat.le_of_ble_eq_true rfl⟩) hP hD hS hA (fun r125 H locs hw123 hP hD hS => ?_)
              have ex123 := hw123
              refine W.widen (k := 0) (n := 0) (Nat.le_refl _) (Nat.le_refl _) ?_
              refine cu_v (rn_V (n := 1) (As := [.int r125]) (rest := []) hx hb hml hown ht hKK hFx hP hD hS hA (c_m_push l dC dI cI cB cZ cJ cR tb H.size ad N (wA v 0 106 ((v.1 0 106) - (1 : Int32))) r125 (show 0 ≤ ((v.1 0 106) - (1 : Int32)).toInt ∧ ((v.1 0 106) - (1 : Int32)).toInt < 24000 from (om_b9769f74ce nm9 p9 z87))) tw_332 tw_333 (by decide +kernel) rfl rfl ⟨Nat.le_of_ble_eq_true rfl, Nat.le_of_ble_eq_true rfl⟩ (List.range (mW ad N cI cZ cJ (wA v 0 106 ((v.1 0 106) - (1 : Int32)))).length) (rg_map _) (mW_nd _ _ _ _ _ _) rfl rfl rfl rfl hl.1 rfl (Nat.le_of_ble_eq_true rfl) dX13_others_156 ⟨Nat.le_of_ble_eq_true rfl, Nat.le_of_ble_eq_true rfl⟩) hP hD hS hA (fun u127 H locs hw126 hP hD hS => ?_)
              obtain rfl := hw126
              have z129 : (((v.1 0 106) - (1 : Int32)) + (1 : Int32)).toInt = (((v.1 0 106).toInt) - (1 : Int)) + (1 : Int) := add_z z87 (show (1 : Int32).toInt = (1 : Int) by decide) (om_2d6ae04023 p9) (om_163065fe51 nm9)
              have hP : va_P (dC, dI) vwCl (mW ad N cI cZ cJ (wA (wA (wA v 0 106 ((v.1 0 106) - (1 : Int32))) 105 (((v.1 0 106) - (1 : Int32)).toNatClampNeg) r125) 0 106 (((v.1 0 106) - (1 : Int32)) + (1 : Int32)))) H := hP
              have hD : va_D A (mW ad N cI cZ cJ (wA (wA (wA v 0 106 ((v.1 0 106) - (1 : Int32))) 105 (((v.1 0 106) - (1 : Int32)).toNatClampNeg) r125) 0 106 (((v.1 0 106) - (1 : Int32)) + (1 : Int32)))) := hD
              refine W.widen (k := 0) (n := 0) (Nat.le_refl _) (Nat.le_refl _) ?_
              refine lv_goto (tgt := 244) hx hb dX13_others_159 (by decide) ?_
              exact W.vret hx hb hr (fun t ht9 hW => ⟨⟨(wA (wA (wA v 0 106 ((v.1 0 106) - (1 : Int32))) 105 (((v.1 0 106) - (1 : Int32)).toNatClampNeg) r125) 0 106 (((v.1 0 106) - (1 : Int32)) + (1 : Int32))), rfl, ⟨(FG.f (FG.a (FG.f (FG.rf _) ((v.1 0 106) - (1 : Int32)) (by decide)) (((v.1 0 106) - (1 : Int32)).toNatClampNeg) r125 (by decide) (by decide)) (((v.1 0 106) - (1 : Int32)) + (1 : Int32)) (by decide)), ⟨zo, zg, (Or.inr (⟨z83, (Or.inr (⟨h88, (Or.inr (⟨h96, (Or.inr (⟨h112, (Or.inl ⟨h119, (Or.inl ⟨z122, r125, ex123, rfl⟩)⟩)⟩))⟩))⟩))⟩))⟩, (MI.r18 (u := (wA (wA (wA v 0 106 ((v.1 0 106) - (1 : Int32))) 105 (((v.1 0 106) - (1 : Int32)).toNatClampNeg) r125) 0 106 (((v.1 0 106) - (1 : Int32)) + (1 : Int32)))) mi (by rw [← eo]; exact (om_fdc13a1887 z120)) (show (v.1 0 112).toInt = jg.toInt + 1 from (om_0431d2536c zj)) (all8f (P := fun k9 => ((wA (wA (wA v 0 106 ((v.1 0 106) - (1 : Int32))) 105 (((v.1 0 106) - (1 : Int32)).toNatClampNeg) r125) 0 106 (((v.1 0 106) - (1 : Int32)) + (1 : Int32)))).1 0 k9 = v.1 0 k9) rfl rfl rfl rfl rfl rfl rfl rfl) (all11g (P := fun k9 => ((wA (wA (wA v 0 106 ((v.1 0 106) - (1 : Int32))) 105 (((v.1 0 106) - (1 : Int32)).toNatClampNeg) r125) 0 106 (((v.1 0 106) - (1 : Int32)) + (1 : Int32)))).1 k9 = v.1 k9) rfl rfl rfl rfl rfl rfl rfl rfl rfl rfl rfl) (show (((v.1 0 106) - (1 : Int32)) + (1 : Int32)).toInt = (v.1 0 106).toInt from (om_e2d5010e12 z129)) (fun (j9 : Nat) h9 => pk_un3 (x := ((v.1 0 106) - (1 : Int32))) rfl (om_ecfb7d2efe p9 z87) (om_8c41dc5a15 z87 h9)) (show 0 ≤ (v.1 0 119).toInt ∧ (v.1 0 119).toInt ≤ (v.1 0 119).toInt + 1 from (om_c2c1baedc6 nm9)) (show 0 ≤ (v.1 0 120).toInt ∧ (v.1 0 120).toInt ≤ (v.1 0 120).toInt + 1 from (om_9ca839a770 nm9)))⟩, by rw [ht9]; exact hP, hD⟩, hS.F ht9⟩) hS.2.2 dX13_others_244
            · have z130 : ((v.1 105) ((v.1 0 106) - (1 : Int32)).toNatClampNeg).toInt = (0 : Int) := eq_z rfl (show (0 : Int32).toInt = (0 : Int) by decide) h121
              refine lv_iconst (v := 1) hx hb dX13_others_148 (by decide) ?_
              refine lv_goto (tgt := 153) hx hb dX13_others_149 (by decide) ?_
              refine cu_s (mW_nd _ _ _ _ _ _) (rn_S (n := 1) (As := [.int 1]) (rest := [.ref (ad 0)]) hx hb hml hown ht hKK hFx hP hD hS hA (c_m_less l dC dI cI cB cZ cJ cR tb H.size (1 : Int32) ) tw_222 tw_223 (by decide +kernel) rfl rfl ⟨Nat.le_of_ble_eq_true rfl, Nat.le_of_ble_eq_true rfl⟩ [] rfl rfl rfl hl.1 rfl (Nat.le_of_ble_eq_true rfl) dX13_others_153 ⟨Nat.le_of_ble_eq_true rfl, Nat.le_of_ble_eq_true rfl⟩) hP hD hS hA (fun r133 H locs hw131 hP hD hS => ?_)
              have ex131 := hw131
              refine W.widen (k := 0) (n := 0) (Nat.le_refl _) (Nat.le_refl _) ?_
              refine cu_v (rn_V (n := 1) (As := [.int r133]) (rest := []) hx hb hml hown ht hKK hFx hP hD hS hA (c_m_push l dC dI cI cB cZ cJ cR tb H.size ad N (wA v 0 106 ((v.1 0 106) - (1 : Int32))) r133 (show 0 ≤ ((v.1 0 106) - (1 : Int32)).toInt ∧ ((v.1 0 106) - (1 : Int32)).toInt < 24000 from (om_b9769f74ce nm9 p9 z87))) tw_332 tw_333 (by decide +kernel) rfl rfl ⟨Nat.le_of_ble_eq_true rfl, Nat.le_of_ble_eq_true rfl⟩ (List.range (mW ad N cI cZ cJ (wA v 0 106 ((v.1 0 106) - (1 : Int32)))).length) (rg_map _) (mW_nd _ _ _ _ _ _) rfl rfl rfl rfl hl.1 rfl (Nat.le_of_ble_eq_true rfl) dX13_others_156 ⟨Nat.le_of_ble_eq_true rfl, Nat.le_of_ble_eq_true rfl⟩) hP hD hS hA (fun u135 H locs hw134 hP hD hS => ?_)
              obtain rfl := hw134
              have z137 : (((v.1 0 106) - (1 : Int32)) + (1 : Int32)).toInt = (((v.1 0 106).toInt) - (1 : Int)) + (1 : Int) := add_z z87 (show (1 : Int32).toInt = (1 : Int) by decide) (om_2d6ae04023 p9) (om_163065fe51 nm9)
              have hP : va_P (dC, dI) vwCl (mW ad N cI cZ cJ (wA (wA (wA v 0 106 ((v.1 0 106) - (1 : Int32))) 105 (((v.1 0 106) - (1 : Int32)).toNatClampNeg) r133) 0 106 (((v.1 0 106) - (1 : Int32)) + (1 : Int32)))) H := hP
              have hD : va_D A (mW ad N cI cZ cJ (wA (wA (wA v 0 106 ((v.1 0 106) - (1 : Int32))) 105 (((v.1 0 106) - (1 : Int32)).toNatClampNeg) r133) 0 106 (((v.1 0 106) - (1 : Int32)) + (1 : Int32)))) := hD
              refine W.widen (k := 0) (n := 0) (Nat.le_refl _) (Nat.le_refl _) ?_
              refine lv_goto (tgt := 244) hx hb dX13_others_159 (by decide) ?_
              exact W.vret hx hb hr (fun t ht9 hW => ⟨⟨(wA (wA (wA v 0 106 ((v.1 0 106) - (1 : Int32))) 105 (((v.1 0 106) - (1 : Int32)).toNatClampNeg) r133) 0 106 (((v.1 0 106) - (1 : Int32)) + (1 : Int32))), rfl, ⟨(FG.f (FG.a (FG.f (FG.rf _) ((v.1 0 106) - (1 : Int32)) (by decide)) (((v.1 0 106) - (1 : Int32)).toNatClampNeg) r133 (by decide) (by decide)) (((v.1 0 106) - (1 : Int32)) + (1 : Int32)) (by decide)), ⟨zo, zg, (Or.inr (⟨z83, (Or.inr (⟨h88, (Or.inr (⟨h96, (Or.inr (⟨h112, (Or.inl ⟨h119, (Or.inr (⟨z130, r133, ex131, rfl⟩))⟩)⟩))⟩))⟩))⟩))⟩, (MI.r18 (u := (wA (wA (wA v 0 106 ((v.1 0 106) - (1 : Int32))) 105 (((v.1 0 106) - (1 : Int32)).toNatClampNeg) r133) 0 106 (((v.1 0 106) - (1 : Int32)) + (1 : Int32)))) mi (by rw [← eo]; exact (om_fdc13a1887 z120)) (show (v.1 0 112).toInt = jg.toInt + 1 from (om_0431d2536c zj)) (all8f (P := fun k9 => ((wA (wA (wA v 0 106 ((v.1 0 106) - (1 : Int32))) 105 (((v.1 0 106) - (1 : Int32)).toNatClampNeg) r133) 0 106 (((v.1 0 106) - (1 : Int32)) + (1 : Int32)))).1 0 k9 = v.1 0 k9) rfl rfl rfl rfl rfl rfl rfl rfl) (all11g (P := fun k9 => ((wA (wA (wA v 0 106 ((v.1 0 106) - (1 : Int32))) 105 (((v.1 0 106) - (1 : Int32)).toNatClampNeg) r133) 0 106 (((v.1 0 106) - (1 : Int32)) + (1 : Int32)))).1 k9 = v.1 k9) rfl rfl rfl rfl rfl rfl rfl rfl rfl rfl rfl) (show (((v.1 0 106) - (1 : Int32)) + (1 : Int32)).toInt = (v.1 0 106).toInt from (om_e2d5010e12 z137)) (fun (j9 : Nat) h9 => pk_un3 (x := ((v.1 0 106) - (1 : Int32))) rfl (om_ecfb7d2efe p9 z87) (om_8c41dc5a15 z87 h9)) (show 0 ≤ (v.1 0 119).toInt ∧ (v.1 0 119).toInt ≤ (v.1 0 119).toInt + 1 from (om_c2c1baedc6 nm9)) (show 0 ≤ (v.1 0 120).toInt ∧ (v.1 0 120).toInt ≤ (v.1 0 120).toInt + 1 from (om_9ca839a770 nm9)))⟩, by rw [ht9]; exact hP, hD⟩, hS.F ht9⟩) hS.2.2 dX13_others_244
          ·
            have z138 : pa.toInt ≠ (19 : Int) := ne_z rfl (show (19 : Int32).toInt = (19 : Int) by decide) h119
            by_cases h139 : pa = 20
            · refine lv_tableIn (off := 148) (tgt := 162) hx hb dX13_others_14 (by rw [h139]; decide) (by rw [h139]; decide) (by rw [h139]; decide) (by decide) ?_
              have z140 : pa.toInt = (20 : Int) := eq_z rfl (show (20 : Int32).toInt = (20 : Int) by decide) h139
              refine lv_aload_n hx hb dX13_others_162 rfl (lv_at hl 1 rfl) ?_
              refine lv_iload_n hx hb dX13_others_163 rfl (lv_at hl 0 rfl) ?_
              refine lv_iconst (v := -1) hx hb dX13_others_164 (by decide) ?_
              refine lv_ixor hx hb dX13_others_165 ?_
              refine cu_v (rn_V (n := 1) (As := [.int (((v.1 105) ((v.1 0 106) - (1 : Int32)).toNatClampNeg) ^^^ ((-1) : Int32))]) (rest := []) hx hb hml hown ht hKK hFx hP hD hS hA (c_m_push l dC dI cI cB cZ cJ cR tb H.size ad N (wA v 0 106 ((v.1 0 106) - (1 : Int32))) (((v.1 105) ((v.1 0 106) - (1 : Int32)).toNatClampNeg) ^^^ ((-1) : Int32)) (show 0 ≤ ((v.1 0 106) - (1 : Int32)).toInt ∧ ((v.1 0 106) - (1 : Int32)).toInt < 24000 from (om_b9769f74ce nm9 p9 z87))) tw_332 tw_333 (by decide +kernel) rfl rfl ⟨Nat.le_of_ble_eq_true rfl, Nat.le_of_ble_eq_true rfl⟩ (List.range (mW ad N cI cZ cJ (wA v 0 106 ((v.1 0 106) - (1 : Int32)))).length) (rg_map _) (mW_nd _ _ _ _ _ _) rfl rfl rfl rfl hl.1 rfl (Nat.le_of_ble_eq_true rfl) dX13_others_166 ⟨Nat.le_of_ble_eq_true rfl, Nat.le_of_ble_eq_true rfl⟩) hP hD hS hA (fun u142 H locs hw141 hP hD hS => ?_)
              obtain rfl := hw141
              have z144 : (((v.1 0 106) - (1 : Int32)) + (1 : Int32)).toInt = (((v.1 0 106).toInt) - (1 : Int)) + (1 : Int) := add_z z87 (show (1 : Int32).toInt = (1 : Int) by decide) (om_2d6ae04023 p9) (om_163065fe51 nm9)
              have hP : va_P (dC, dI) vwCl (mW ad N cI cZ cJ (wA (wA (wA v 0 106 ((v.1 0 106) - (1 : Int32))) 105 (((v.1 0 106) - (1 : Int32)).toNatClampNeg) (((v.1 105) ((v.1 0 106) - (1 : Int32)).toNatClampNeg) ^^^ ((-1) : Int32))) 0 106 (((v.1 0 106) - (1 : Int32)) + (1 : Int32)))) H := hP
              have hD : va_D A (mW ad N cI cZ cJ (wA (wA (wA v 0 106 ((v.1 0 106) - (1 : Int32))) 105 (((v.1 0 106) - (1 : Int32)).toNatClampNeg) (((v.1 105) ((v.1 0 106) - (1 : Int32)).toNatClampNeg) ^^^ ((-1) : Int32))) 0 106 (((v.1 0 106) - (1 : Int32)) + (1 : Int32)))) := hD
              refine W.widen (k := 0) (n := 0) (Nat.le_refl _) (Nat.le_refl _) ?_
              refine lv_goto (tgt := 244) hx hb dX13_others_169 (by decide) ?_
              exact W.vret hx hb hr (fun t ht9 hW => ⟨⟨(wA (wA (wA v 0 106 ((v.1 0 106) - (1 : Int32))) 105 (((v.1 0 106) - (1 : Int32)).toNatClampNeg) (((v.1 105) ((v.1 0 106) - (1 : Int32)).toNatClampNeg) ^^^ ((-1) : Int32))) 0 106 (((v.1 0 106) - (1 : Int32)) + (1 : Int32))), rfl, ⟨(FG.f (FG.a (FG.f (FG.rf _) ((v.1 0 106) - (1 : Int32)) (by decide)) (((v.1 0 106) - (1 : Int32)).toNatClampNeg) (((v.1 105) ((v.1 0 106) - (1 : Int32)).toNatClampNeg) ^^^ ((-1) : Int32)) (by decide) (by decide)) (((v.1 0 106) - (1 : Int32)) + (1 : Int32)) (by decide)), ⟨zo, zg, (Or.inr (⟨z83, (Or.inr (⟨h88, (Or.inr (⟨h96, (Or.inr (⟨h112, (Or.inr (⟨h119, (Or.inl ⟨h139, rfl⟩)⟩))⟩))⟩))⟩))⟩))⟩, (MI.r18 (u := (wA (wA (wA v 0 106 ((v.1 0 106) - (1 : Int32))) 105 (((v.1 0 106) - (1 : Int32)).toNatClampNeg) (((v.1 105) ((v.1 0 106) - (1 : Int32)).toNatClampNeg) ^^^ ((-1) : Int32))) 0 106 (((v.1 0 106) - (1 : Int32)) + (1 : Int32)))) mi (by rw [← eo]; exact (om_2340ef3ae6 z140)) (show (v.1 0 112).toInt = jg.toInt + 1 from (om_0431d2536c zj)) (all8f (P := fun k9 => ((wA (wA (wA v 0 106 ((v.1 0 106) - (1 : Int32))) 105 (((v.1 0 106) - (1 : Int32)).toNatClampNeg) (((v.1 105) ((v.1 0 106) - (1 : Int32)).toNatClampNeg) ^^^ ((-1) : Int32))) 0 106 (((v.1 0 106) - (1 : Int32)) + (1 : Int32)))).1 0 k9 = v.1 0 k9) rfl rfl rfl rfl rfl rfl rfl rfl) (all11g (P := fun k9 => ((wA (wA (wA v 0 106 ((v.1 0 106) - (1 : Int32))) 105 (((v.1 0 106) - (1 : Int32)).toNatClampNeg) (((v.1 105) ((v.1 0 106) - (1 : Int32)).toNatClampNeg) ^^^ ((-1) : Int32))) 0 106 (((v.1 0 106) - (1 : Int32)) + (1 : Int32)))).1 k9 = v.1 k9) rfl rfl rfl rfl rfl rfl rfl rfl rfl rfl rfl) (show (((v.1 0 106) - (1 : Int32)) + (1 : Int32)).toInt = (v.1 0 106).toInt from (om_e2d5010e12 z144)) (fun (j9 : Nat) h9 => pk_un3 (x := ((v.1 0 106) - (1 : Int32))) rfl (om_ecfb7d2efe p9 z87) (om_8c41dc5a15 z87 h9)) (show 0 ≤ (v.1 0 119).toInt ∧ (v.1 0 119).toInt ≤ (v.1 0 119).toInt + 1 from (om_c2c1baedc6 nm9)) (show 0 ≤ (v.1 0 120).toInt ∧ (v.1 0 120).toInt ≤ (v.1 0 120).toInt + 1 from (om_9ca839a770 nm9)))⟩, by rw [ht9]; exact hP, hD⟩, hS.F ht9⟩) hS.2.2 dX13_others_244
            ·
              have z145 : pa.toInt ≠ (20 : Int) := ne_z rfl (show (20 : Int32).toInt = (20 : Int) by decide) h139
              by_cases h146 : pa = 21
              · refine lv_tableIn (off := 214) (tgt := 228) hx hb dX13_others_14 (by rw [h146]; decide) (by rw [h146]; decide) (by rw [h146]; decide) (by decide) ?_
                have z147 : pa.toInt = (21 : Int) := eq_z rfl (show (21 : Int32).toInt = (21 : Int) by decide) h146
                refine lv_aload_n hx hb dX13_others_228 rfl (lv_at hl 1 rfl) ?_
                refine lv_iload_n hx hb dX13_others_229 rfl (lv_at hl 0 rfl) ?_
                refine lv_if_eq (tgt := 237) hx hb dX13_others_230 (by decide) (fun h148 => ?_) (fun h148 => ?_)
                · have z149 : ((v.1 105) ((v.1 0 106) - (1 : Int32)).toNatClampNeg).toInt = (0 : Int) := eq_z rfl (show (0 : Int32).toInt = (0 : Int) by decide) h148
                  refine lv_iconst (v := 0) hx hb dX13_others_237 (by decide) ?_
                  refine cu_s (mW_nd _ _ _ _ _ _) (rn_S (n := 1) (As := [.int 0]) (rest := [.ref (ad 0)]) hx hb hml hown ht hKK hFx hP hD hS hA (c_m_less l dC dI cI cB cZ cJ cR tb H.size (0 : Int32) ) tw_222 tw_223 (by decide +kernel) rfl rfl ⟨Nat.le_of_ble_eq_true rfl, Nat.le_of_ble_eq_true rfl⟩ [] rfl rfl rfl hl.1 rfl (Nat.le_of_ble_eq_true rfl) dX13_others_238 ⟨Nat.le_of_ble_eq_true rfl, Nat.le_of_ble_eq_true rfl⟩) hP hD hS hA (fun r152 H locs hw150 hP hD hS => ?_)
                  have ex150 := hw150
                  refine W.widen (k := 0) (n := 0) (Nat.le_refl _) (Nat.le_refl _) ?_
                  refine cu_v (rn_V (n := 1) (As := [.int r152]) (rest := []) hx hb hml hown ht hKK hFx hP hD hS hA (c_m_push l dC dI cI cB cZ cJ cR tb H.size ad N (wA v 0 106 ((v.1 0 106) - (1 : Int32))) r152 (show 0 ≤ ((v.1 0 106) - (1 : Int32)).toInt ∧ ((v.1 0 106) - (1 : Int32)).toInt < 24000 from (om_b9769f74ce nm9 p9 z87))) tw_332 tw_333 (by decide +kernel) rfl rfl ⟨Nat.le_of_ble_eq_true rfl, Nat.le_of_ble_eq_true rfl⟩ (List.range (mW ad N cI cZ cJ (wA v 0 106 ((v.1 0 106) - (1 : Int32)))).length) (rg_map _) (mW_nd _ _ _ _ _ _) rfl rfl rfl rfl hl.1 rfl (Nat.le_of_ble_eq_true rfl) dX13_others_241 ⟨Nat.le_of_ble_eq_true rfl, Nat.le_of_ble_eq_true rfl⟩) hP hD hS hA (fun u154 H locs hw153 hP hD hS => ?_)
                  obtain rfl := hw153
                  have z156 : (((v.1 0 106) - (1 : Int32)) + (1 : Int32)).toInt = (((v.1 0 106).toInt) - (1 : Int)) + (1 : Int) := add_z z87 (show (1 : Int32).toInt = (1 : Int) by decide) (om_2d6ae04023 p9) (om_163065fe51 nm9)
                  have hP : va_P (dC, dI) vwCl (mW ad N cI cZ cJ (wA (wA (wA v 0 106 ((v.1 0 106) - (1 : Int32))) 105 (((v.1 0 106) - (1 : Int32)).toNatClampNeg) r152) 0 106 (((v.1 0 106) - (1 : Int32)) + (1 : Int32)))) H := hP
                  have hD : va_D A (mW ad N cI cZ cJ (wA (wA (wA v 0 106 ((v.1 0 106) - (1 : Int32))) 105 (((v.1 0 106) - (1 : Int32)).toNatClampNeg) r152) 0 106 (((v.1 0 106) - (1 : Int32)) + (1 : Int32)))) := hD
                  refine W.widen (k := 0) (n := 0) (Nat.le_refl _) (Nat.le_refl _) ?_
                  exact W.vret hx hb hr (fun t ht9 hW => ⟨⟨(wA (wA (wA v 0 106 ((v.1 0 106) - (1 : Int32))) 105 (((v.1 0 106) - (1 : Int32)).toNatClampNeg) r152) 0 106 (((v.1 0 106) - (1 : Int32)) + (1 : Int32))), rfl, ⟨(FG.f (FG.a (FG.f (FG.rf _) ((v.1 0 106) - (1 : Int32)) (by decide)) (((v.1 0 106) - (1 : Int32)).toNatClampNeg) r152 (by decide) (by decide)) (((v.1 0 106) - (1 : Int32)) + (1 : Int32)) (by decide)), ⟨zo, zg, (Or.inr (⟨z83, (Or.inr (⟨h88, (Or.inr (⟨h96, (Or.inr (⟨h112, (Or.inr (⟨h119, (Or.inr (⟨h139, (Or.inl ⟨h146, (Or.inl ⟨z149, r152, ex150, rfl⟩)⟩)⟩))⟩))⟩))⟩))⟩))⟩))⟩, (MI.r18 (u := (wA (wA (wA v 0 106 ((v.1 0 106) - (1 : Int32))) 105 (((v.1 0 106) - (1 : Int32)).toNatClampNeg) r152) 0 106 (((v.1 0 106) - (1 : Int32)) + (1 : Int32)))) mi (by rw [← eo]; exact (om_c712c2b2ed zo z147)) (show (v.1 0 112).toInt = jg.toInt + 1 from (om_0431d2536c zj)) (all8f (P := fun k9 => ((wA (wA (wA v 0 106 ((v.1 0 106) - (1 : Int32))) 105 (((v.1 0 106) - (1 : Int32)).toNatClampNeg) r152) 0 106 (((v.1 0 106) - (1 : Int32)) + (1 : Int32)))).1 0 k9 = v.1 0 k9) rfl rfl rfl rfl rfl rfl rfl rfl) (all11g (P := fun k9 => ((wA (wA (wA v 0 106 ((v.1 0 106) - (1 : Int32))) 105 (((v.1 0 106) - (1 : Int32)).toNatClampNeg) r152) 0 106 (((v.1 0 106) - (1 : Int32)) + (1 : Int32)))).1 k9 = v.1 k9) rfl rfl rfl rfl rfl rfl rfl rfl rfl rfl rfl) (show (((v.1 0 106) - (1 : Int32)) + (1 : Int32)).toInt = (v.1 0 106).toInt from (om_e2d5010e12 z156)) (fun (j9 : Nat) h9 => pk_un3 (x := ((v.1 0 106) - (1 : Int32))) rfl (om_ecfb7d2efe p9 z87) (om_8c41dc5a15 z87 h9)) (show 0 ≤ (v.1 0 119).toInt ∧ (v.1 0 119).toInt ≤ (v.1 0 119).toInt + 1 from (om_c2c1baedc6 nm9)) (show 0 ≤ (v.1 0 120).toInt ∧ (v.1 0 120).toInt ≤ (v.1 0 120).toInt + 1 from (om_9ca839a770 nm9)))⟩, by rw [ht9]; exact hP, hD⟩, hS.F ht9⟩) hS.2.2 dX13_others_244
                · have z157 : ((v.1 105) ((v.1 0 106) - (1 : Int32)).toNatClampNeg).toInt ≠ (0 : Int) := ne_z rfl (show (0 : Int32).toInt = (0 : Int) by decide) h148
                  refine lv_iconst (v := 1) hx hb dX13_others_233 (by decide) ?_
                  refine lv_goto (tgt := 238) hx hb dX13_others_234 (by decide) ?_
                  refine cu_s (mW_nd _ _ _ _ _ _) (rn_S (n := 1) (As := [.int 1]) (rest := [.ref (ad 0)]) hx hb hml hown ht hKK hFx hP hD hS hA (c_m_less l dC dI cI cB cZ cJ cR tb H.size (1 : Int32) ) tw_222 tw_223 (by decide +kernel) rfl rfl ⟨Nat.le_of_ble_eq_true rfl, Nat.le_of_ble_eq_true rfl⟩ [] rfl rfl rfl hl.1 rfl (Nat.le_of_ble_eq_true rfl) dX13_others_238 ⟨Nat.le_of_ble_eq_true rfl, Nat.le_of_ble_eq_true rfl⟩) hP hD hS hA (fun r160 H locs hw158 hP hD hS => ?_)
                  have ex158 := hw158
                  refine W.widen (k := 0) (n := 0) (Nat.le_refl _) (Nat.le_refl _) ?_
                  refine cu_v (rn_V (n := 1) (As := [.int r160]) (rest := []) hx hb hml hown ht hKK hFx hP hD hS hA (c_m_push l dC dI cI cB cZ cJ cR tb H.size ad N (wA v 0 106 ((v.1 0 106) - (1 : Int32))) r160 (show 0 ≤ ((v.1 0 106) - (1 : Int32)).toInt ∧ ((v.1 0 106) - (1 : Int32)).toInt < 24000 from (om_b9769f74ce nm9 p9 z87))) tw_332 tw_333 (by decide +kernel) rfl rfl ⟨Nat.le_of_ble_eq_true rfl, Nat.le_of_ble_eq_true rfl⟩ (List.range (mW ad N cI cZ cJ (wA v 0 106 ((v.1 0 106) - (1 : Int32)))).length) (rg_map _) (mW_nd _ _ _ _ _ _) rfl rfl rfl rfl hl.1 rfl (Nat.le_of_ble_eq_true rfl) dX13_others_241 ⟨Nat.le_of_ble_eq_true rfl, Nat.le_of_ble_eq_true rfl⟩) hP hD hS hA (fun u162 H locs hw161 hP hD hS => ?_)
                  obtain rfl := hw161
                  have z164 : (((v.1 0 106) - (1 : Int32)) + (1 : Int32)).toInt = (((v.1 0 106).toInt) - (1 : Int)) + (1 : Int) := add_z z87 (show (1 : Int32).toInt = (1 : Int) by decide) (om_2d6ae04023 p9) (om_163065fe51 nm9)
                  have hP : va_P (dC, dI) vwCl (mW ad N cI cZ cJ (wA (wA (wA v 0 106 ((v.1 0 106) - (1 : Int32))) 105 (((v.1 0 106) - (1 : Int32)).toNatClampNeg) r160) 0 106 (((v.1 0 106) - (1 : Int32)) + (1 : Int32)))) H := hP
                  have hD : va_D A (mW ad N cI cZ cJ (wA (wA (wA v 0 106 ((v.1 0 106) - (1 : Int32))) 105 (((v.1 0 106) - (1 : Int32)).toNatClampNeg) r160) 0 106 (((v.1 0 106) - (1 : Int32)) + (1 : Int32)))) := hD
                  refine W.widen (k := 0) (n := 0) (Nat.le_refl _) (Nat.le_refl _) ?_
                  exact W.vret hx hb hr (fun t ht9 hW => ⟨⟨(wA (wA (wA v 0 106 ((v.1 0 106) - (1 : Int32))) 105 (((v.1 0 106) - (1 : Int32)).toNatClampNeg) r160) 0 106 (((v.1 0 106) - (1 : Int32)) + (1 : Int32))), rfl, ⟨(FG.f (FG.a (FG.f (FG.rf _) ((v.1 0 106) - (1 : Int32)) (by decide)) (((v.1 0 106) - (1 : Int32)).toNatClampNeg) r160 (by decide) (by decide)) (((v.1 0 106) - (1 : Int32)) + (1 : Int32)) (by decide)), ⟨zo, zg, (Or.inr (⟨z83, (Or.inr (⟨h88, (Or.inr (⟨h96, (Or.inr (⟨h112, (Or.inr (⟨h119, (Or.inr (⟨h139, (Or.inl ⟨h146, (Or.inr (⟨z157, r160, ex158, rfl⟩))⟩)⟩))⟩))⟩))⟩))⟩))⟩))⟩, (MI.r18 (u := (wA (wA (wA v 0 106 ((v.1 0 106) - (1 : Int32))) 105 (((v.1 0 106) - (1 : Int32)).toNatClampNeg) r160) 0 106 (((v.1 0 106) - (1 : Int32)) + (1 : Int32)))) mi (by rw [← eo]; exact (om_c712c2b2ed zo z147)) (show (v.1 0 112).toInt = jg.toInt + 1 from (om_0431d2536c zj)) (all8f (P := fun k9 => ((wA (wA (wA v 0 106 ((v.1 0 106) - (1 : Int32))) 105 (((v.1 0 106) - (1 : Int32)).toNatClampNeg) r160) 0 106 (((v.1 0 106) - (1 : Int32)) + (1 : Int32)))).1 0 k9 = v.1 0 k9) rfl rfl rfl rfl rfl rfl rfl rfl) (all11g (P := fun k9 => ((wA (wA (wA v 0 106 ((v.1 0 106) - (1 : Int32))) 105 (((v.1 0 106) - (1 : Int32)).toNatClampNeg) r160) 0 106 (((v.1 0 106) - (1 : Int32)) + (1 : Int32)))).1 k9 = v.1 k9) rfl rfl rfl rfl rfl rfl rfl rfl rfl rfl rfl) (show (((v.1 0 106) - (1 : Int32)) + (1 : Int32)).toInt = (v.1 0 106).toInt from (om_e2d5010e12 z164)) (fun (j9 : Nat) h9 => pk_un3 (x := ((v.1 0 106) - (1 : Int32))) rfl (om_ecfb7d2efe p9 z87) (om_8c41dc5a15 z87 h9)) (show 0 ≤ (v.1 0 119).toInt ∧ (v.1 0 119).toInt ≤ (v.1 0 119).toInt + 1 from (om_c2c1baedc6 nm9)) (show 0 ≤ (v.1 0 120).toInt ∧ (v.1 0 120).toInt ≤ (v.1 0 120).toInt + 1 from (om_9ca839a770 nm9)))⟩, by rw [ht9]; exact hP, hD⟩, hS.F ht9⟩) hS.2.2 dX13_others_244
              ·
                have z165 : pa.toInt ≠ (21 : Int) := ne_z rfl (show (21 : Int32).toInt = (21 : Int) by decide) h146
                by_cases h166 : pa = 22
                · refine lv_tableIn (off := 158) (tgt := 172) hx hb dX13_others_14 (by rw [h166]; decide) (by rw [h166]; decide) (by rw [h166]; decide) (by decide) ?_
                  have z167 : pa.toInt = (22 : Int) := eq_z rfl (show (22 : Int32).toInt = (22 : Int) by decide) h166
                  refine lv_iload_n hx hb dX13_others_172 rfl (lv_at hl 0 rfl) ?_
                  refine lv_if_ne (tgt := 181) hx hb dX13_others_173 (by decide) (fun h168 => ?_) (fun h168 => ?_)
                  · have z169 : ((v.1 105) ((v.1 0 106) - (1 : Int32)).toNatClampNeg).toInt ≠ (0 : Int) := ne_z rfl (show (0 : Int32).toInt = (0 : Int) by decide) h168
                    refine lv_aload_n hx hb dX13_others_181 rfl (lv_at hl 1 rfl) ?_
                    refine lv_iload_n hx hb dX13_others_182 rfl (lv_at hl 0 rfl) ?_
                    refine lv_if_ne (tgt := 190) hx hb dX13_others_183 (by decide) (fun h170 => ?_) (fun h170 => ?_)
                    · have z171 : ((v.1 105) ((v.1 0 106) - (1 : Int32)).toNatClampNeg).toInt ≠ (0 : Int) := ne_z rfl (show (0 : Int32).toInt = (0 : Int) by decide) h170
                      refine lv_aload_n hx hb dX13_others_190 rfl (lv_at hl 1 rfl) ?_
                      refine va_get (D := (dC, dI)) (ci := 16) (fs := mF ad (wA v 0 106 ((v.1 0 106) - (1 : Int32)))) (v := .int (v.1 0 112)) (C := RX13) (T := TX13) (N := 124) hx hb ht itX13 hown hK hP 0 rfl rfl 112 (by decide) (ht _ tw_334) (fun _ h9 => h9) rfl dX13_others_191 ?_
                      refine va_put (D := (dC, dI)) (ci := 16) (fs := mF ad (wA v 0 106 ((v.1 0 106) - (1 : Int32)))) (v := .int (v.1 0 112)) (ty := .int) (C := RX13) (T := TX13) (N := 124) hx hb ht itX13 tyX13 tyX13_ok nmX13 hown hK hP hD hS 0 rfl rfl 112 (by decide) (ht _ tw_334) (fun _ h9 => h9) rfl (by decide +kernel) rfl rfl (Nat.le_of_ble_eq_true rfl) dX13_others_194 (fun H locs hP hD hS => ?_)
                      have hP := cP_ (mw_112 ad N cI cZ cJ (wA v 0 106 ((v.1 0 106) - (1 : Int32))) (v.1 0 112)) hP
                      have hD := cD_ (mw_112 ad N cI cZ cJ (wA v 0 106 ((v.1 0 106) - (1 : Int32))) (v.1 0 112)) hD
                      refine lv_goto (tgt := 244) hx hb dX13_others_197 (by decide) ?_
                      exact W.vret hx hb hr (fun t ht9 hW => ⟨⟨(wA (wA v 0 106 ((v.1 0 106) - (1 : Int32))) 0 112 (v.1 0 112)), rfl, ⟨(FG.f (FG.f (FG.rf _) ((v.1 0 106) - (1 : Int32)) (by decide)) (v.1 0 112) (by decide)), ⟨zo, zg, (Or.inr (⟨z83, (Or.inr (⟨h88, (Or.inr (⟨h96, (Or.inr (⟨h112, (Or.inr (⟨h119, (Or.inr (⟨h139, (Or.inr (⟨h146, (Or.inl ⟨h166, (Or.inl ⟨z169, z171, rfl⟩)⟩)⟩))⟩))⟩))⟩))⟩))⟩))⟩))⟩, (MI.popN (u := (wA (wA v 0 106 ((v.1 0 106) - (1 : Int32))) 0 112 (v.1 0 112))) mi (by rw [← eo]; exact (om_c10df8c960 z167)) (show (v.1 0 112).toInt = jg.toInt + 1 from (om_0431d2536c zj)) (all8f (P := fun k9 => ((wA (wA v 0 106 ((v.1 0 106) - (1 : Int32))) 0 112 (v.1 0 112))).1 0 k9 = v.1 0 k9) rfl rfl rfl rfl rfl rfl rfl rfl) (all11g (P := fun k9 => ((wA (wA v 0 106 ((v.1 0 106) - (1 : Int32))) 0 112 (v.1 0 112))).1 k9 = v.1 k9) rfl rfl rfl rfl rfl rfl rfl rfl rfl rfl rfl) (show ((v.1 0 106) - (1 : Int32)).toInt = (v.1 0 106).toInt - 1 from (om_4b62747e8a z87)) (fun j9 h9 => rfl) (show 0 ≤ (v.1 0 119).toInt ∧ (v.1 0 119).toInt ≤ (v.1 0 119).toInt + 1 from (om_c2c1baedc6 nm9)) (show 0 ≤ (v.1 0 120).toInt ∧ (v.1 0 120).toInt ≤ (v.1 0 120).toInt + 1 from (om_9ca839a770 nm9)))⟩, by rw [ht9]; exact hP, hD⟩, hS.F ht9⟩) hS.2.2 dX13_others_244
                    · have z172 : ((v.1 105) ((v.1 0 106) - (1 : Int32)).toNatClampNeg).toInt = (0 : Int) := eq_z rfl (show (0 : Int32).toInt = (0 : Int) by decide) h170
                      exact False.elim (om_6db93cff1d z169 z172)
                  · have z173 : ((v.1 105) ((v.1 0 106) - (1 : Int32)).toNatClampNeg).toInt = (0 : Int) := eq_z rfl (show (0 : Int32).toInt = (0 : Int) by decide) h168
                    refine lv_aload_n hx hb dX13_others_176 rfl (lv_at hl 1 rfl) ?_
                    refine lv_iconst (v := 0) hx hb dX13_others_177 (by decide) ?_
                    refine cu_v (rn_V (n := 1) (As := [.int 0]) (rest := []) hx hb hml hown ht hKK hFx hP hD hS hA (c_m_push l dC dI cI cB cZ cJ cR tb H.size ad N (wA v 0 106 ((v.1 0 106) - (1 : Int32))) (0 : Int32) (show 0 ≤ ((v.1 0 106) - (1 : Int32)).toInt ∧ ((v.1 0 106) - (1 : Int32)).toInt < 24000 from (om_b9769f74ce nm9 p9 z87))) tw_332 tw_333 (by decide +kernel) rfl rfl ⟨Nat.le_of_ble_eq_true rfl, Nat.le_of_ble_eq_true rfl⟩ (List.range (mW ad N cI cZ cJ (wA v 0 106 ((v.1 0 106) - (1 : Int32)))).length) (rg_map _) (mW_nd _ _ _ _ _ _) rfl rfl rfl rfl hl.1 rfl (Nat.le_of_ble_eq_true rfl) dX13_others_178 ⟨Nat.le_of_ble_eq_true rfl, Nat.le_of_ble_eq_true rfl⟩) hP hD hS hA (fun u175 H locs hw174 hP hD hS => ?_)
                    obtain rfl := hw174
                    have z177 : (((v.1 0 106) - (1 : Int32)) + (1 : Int32)).toInt = (((v.1 0 106).toInt) - (1 : Int)) + (1 : Int) := add_z z87 (show (1 : Int32).toInt = (1 : Int) by decide) (om_2d6ae04023 p9) (om_163065fe51 nm9)
                    have hP : va_P (dC, dI) vwCl (mW ad N cI cZ cJ (wA (wA (wA v 0 106 ((v.1 0 106) - (1 : Int32))) 105 (((v.1 0 106) - (1 : Int32)).toNatClampNeg) (0 : Int32)) 0 106 (((v.1 0 106) - (1 : Int32)) + (1 : Int32)))) H := hP
                    have hD : va_D A (mW ad N cI cZ cJ (wA (wA (wA v 0 106 ((v.1 0 106) - (1 : Int32))) 105 (((v.1 0 106) - (1 : Int32)).toNatClampNeg) (0 : Int32)) 0 106 (((v.1 0 106) - (1 : Int32)) + (1 : Int32)))) := hD
                    refine W.widen (k := 0) (n := 0) (Nat.le_refl _) (Nat.le_refl _) ?_
                    refine lv_aload_n hx hb dX13_others_181 rfl (lv_at hl 1 rfl) ?_
                    refine lv_iload_n hx hb dX13_others_182 rfl (lv_at hl 0 rfl) ?_
                    refine lv_if_ne (tgt := 190) hx hb dX13_others_183 (by decide) (fun h178 => ?_) (fun h178 => ?_)
                    · have z179 : ((v.1 105) ((v.1 0 106) - (1 : Int32)).toNatClampNeg).toInt ≠ (0 : Int) := ne_z rfl (show (0 : Int32).toInt = (0 : Int) by decide) h178
                      exact False.elim (om_e92e9f8ce0 z173 z179)
                    · have z180 : ((v.1 105) ((v.1 0 106) - (1 : Int32)).toNatClampNeg).toInt = (0 : Int) := eq_z rfl (show (0 : Int32).toInt = (0 : Int) by decide) h178
                      refine lv_iload_n hx hb dX13_others_186 rfl (lv_at hl 3 rfl) ?_
                      refine lv_goto (tgt := 194) hx hb dX13_others_187 (by decide) ?_
                      refine va_put (D := (dC, dI)) (ci := 16) (fs := mF ad (wA (wA (wA v 0 106 ((v.1 0 106) - (1 : Int32))) 105 (((v.1 0 106) - (1 : Int32)).toNatClampNeg) (0 : Int32)) 0 106 (((v.1 0 106) - (1 : Int32)) + (1 : Int32)))) (v := .int pb) (ty := .int) (C := RX13) (T := TX13) (N := 124) hx hb ht itX13 tyX13 tyX13_ok nmX13 hown hK hP hD hS 0 rfl rfl 112 (by decide) (ht _ tw_334) (fun _ h9 => h9) rfl (by decide +kernel) rfl rfl (Nat.le_of_ble_eq_true rfl) dX13_others_194 (fun H locs hP hD hS => ?_)
                      have hP := cP_ (mw_112 ad N cI cZ cJ (wA (wA (wA v 0 106 ((v.1 0 106) - (1 : Int32))) 105 (((v.1 0 106) - (1 : Int32)).toNatClampNeg) (0 : Int32)) 0 106 (((v.1 0 106) - (1 : Int32)) + (1 : Int32))) pb) hP
                      have hD := cD_ (mw_112 ad N cI cZ cJ (wA (wA (wA v 0 106 ((v.1 0 106) - (1 : Int32))) 105 (((v.1 0 106) - (1 : Int32)).toNatClampNeg) (0 : Int32)) 0 106 (((v.1 0 106) - (1 : Int32)) + (1 : Int32))) pb) hD
                      refine lv_goto (tgt := 244) hx hb dX13_others_197 (by decide) ?_
                      exact W.vret hx hb hr (fun t ht9 hW => ⟨⟨(wA (wA (wA (wA v 0 106 ((v.1 0 106) - (1 : Int32))) 105 (((v.1 0 106) - (1 : Int32)).toNatClampNeg) (0 : Int32)) 0 106 (((v.1 0 106) - (1 : Int32)) + (1 : Int32))) 0 112 pb), rfl, ⟨(FG.f (FG.f (FG.a (FG.f (FG.rf _) ((v.1 0 106) - (1 : Int32)) (by decide)) (((v.1 0 106) - (1 : Int32)).toNatClampNeg) (0 : Int32) (by decide) (by decide)) (((v.1 0 106) - (1 : Int32)) + (1 : Int32)) (by decide)) pb (by decide)), ⟨zo, zg, (Or.inr (⟨z83, (Or.inr (⟨h88, (Or.inr (⟨h96, (Or.inr (⟨h112, (Or.inr (⟨h119, (Or.inr (⟨h139, (Or.inr (⟨h146, (Or.inl ⟨h166, (Or.inr (⟨z173, z180, rfl⟩))⟩)⟩))⟩))⟩))⟩))⟩))⟩))⟩))⟩, (MI.jmpE (u := (wA (wA (wA (wA v 0 106 ((v.1 0 106) - (1 : Int32))) 105 (((v.1 0 106) - (1 : Int32)).toNatClampNeg) (0 : Int32)) 0 106 (((v.1 0 106) - (1 : Int32)) + (1 : Int32))) 0 112 pb)) mi (by rw [← eo]; exact (om_46777bbebe z167)) ea (all8f (P := fun k9 => ((wA (wA (wA (wA v 0 106 ((v.1 0 106) - (1 : Int32))) 105 (((v.1 0 106) - (1 : Int32)).toNatClampNeg) (0 : Int32)) 0 106 (((v.1 0 106) - (1 : Int32)) + (1 : Int32))) 0 112 pb)).1 0 k9 = v.1 0 k9) rfl rfl rfl rfl rfl rfl rfl rfl) (all11g (P := fun k9 => ((wA (wA (wA (wA v 0 106 ((v.1 0 106) - (1 : Int32))) 105 (((v.1 0 106) - (1 : Int32)).toNatClampNeg) (0 : Int32)) 0 106 (((v.1 0 106) - (1 : Int32)) + (1 : Int32))) 0 112 pb)).1 k9 = v.1 k9) rfl rfl rfl rfl rfl rfl rfl rfl rfl rfl rfl) (show (((v.1 0 106) - (1 : Int32)) + (1 : Int32)).toInt = (v.1 0 106).toInt from (om_e2d5010e12 z177)) (fun (j9 : Nat) h9 => (fun h8 => pk_un3 (x := ((v.1 0 106) - (1 : Int32))) rfl (om_ecfb7d2efe p9 z87) (om_8c41dc5a15 z87 h8)) (h9.resolve_right (by rw [← eo]; exact (om_8c248b53ea z167)))) (show 0 ≤ (v.1 0 119).toInt ∧ (v.1 0 119).toInt ≤ (v.1 0 119).toInt + 1 from (om_c2c1baedc6 nm9)) (show 0 ≤ (v.1 0 120).toInt ∧ (v.1 0 120).toInt ≤ (v.1 0 120).toInt + 1 from (om_9ca839a770 nm9)))⟩, by rw [ht9]; exact hP, hD⟩, hS.F ht9⟩) hS.2.2 dX13_others_244
                ·
                  have z181 : pa.toInt ≠ (22 : Int) := ne_z rfl (show (22 : Int32).toInt = (22 : Int) by decide) h166
                  by_cases h182 : pa = 23
                  · refine lv_tableIn (off := 186) (tgt := 200) hx hb dX13_others_14 (by rw [h182]; decide) (by rw [h182]; decide) (by rw [h182]; decide) (by decide) ?_
                    have z183 : pa.toInt = (23 : Int) := eq_z rfl (show (23 : Int32).toInt = (23 : Int) by decide) h182
                    refine lv_iload_n hx hb dX13_others_200 rfl (lv_at hl 0 rfl) ?_
                    refine lv_if_eq (tgt := 209) hx hb dX13_others_201 (by decide) (fun h184 => ?_) (fun h184 => ?_)
                    · have z185 : ((v.1 105) ((v.1 0 106) - (1 : Int32)).toNatClampNeg).toInt = (0 : Int) := eq_z rfl (show (0 : Int32).toInt = (0 : Int) by decide) h184
                      refine lv_aload_n hx hb dX13_others_209 rfl (lv_at hl 1 rfl) ?_
                      refine lv_iload_n hx hb dX13_others_210 rfl (lv_at hl 0 rfl) ?_
                      refine lv_if_eq (tgt := 218) hx hb dX13_others_211 (by decide) (fun h186 => ?_) (fun h186 => ?_)
                      · have z187 : ((v.1 105) ((v.1 0 106) - (1 : Int32)).toNatClampNeg).toInt = (0 : Int) := eq_z rfl (show (0 : Int32).toInt = (0 : Int) by decide) h186
                        refine lv_aload_n hx hb dX13_others_218 rfl (lv_at hl 1 rfl) ?_
                        refine va_get (D := (dC, dI)) (ci := 16) (fs := mF ad (wA v 0 106 ((v.1 0 106) - (1 : Int32)))) (v := .int (v.1 0 112)) (C := RX13) (T := TX13) (N := 124) hx hb ht itX13 hown hK hP 0 rfl rfl 112 (by decide) (ht _ tw_334) (fun _ h9 => h9) rfl dX13_others_219 ?_
                        refine va_put (D := (dC, dI)) (ci := 16) (fs := mF ad (wA v 0 106 ((v.1 0 106) - (1 : Int32)))) (v := .int (v.1 0 112)) (ty := .int) (C := RX13) (T := TX13) (N := 124) hx hb ht itX13 tyX13 tyX13_ok nmX13 hown hK hP hD hS 0 rfl rfl 112 (by decide) (ht _ tw_334) (fun _ h9 => h9) rfl (by decide +kernel) rfl rfl (Nat.le_of_ble_eq_true rfl) dX13_others_222 (fun H locs hP hD hS => ?_)
                        have hP := cP_ (mw_112 ad N cI cZ cJ (wA v 0 106 ((v.1 0 106) - (1 : Int32))) (v.1 0 112)) hP
                        have hD := cD_ (mw_112 ad N cI cZ cJ (wA v 0 106 ((v.1 0 106) - (1 : Int32))) (v.1 0 112)) hD
                        refine lv_goto (tgt := 244) hx hb dX13_others_225 (by decide) ?_
                        exact W.vret hx hb hr (fun t ht9 hW => ⟨⟨(wA (wA v 0 106 ((v.1 0 106) - (1 : Int32))) 0 112 (v.1 0 112)), rfl, ⟨(FG.f (FG.f (FG.rf _) ((v.1 0 106) - (1 : Int32)) (by decide)) (v.1 0 112) (by decide)), ⟨zo, zg, (Or.inr (⟨z83, (Or.inr (⟨h88, (Or.inr (⟨h96, (Or.inr (⟨h112, (Or.inr (⟨h119, (Or.inr (⟨h139, (Or.inr (⟨h146, (Or.inr (⟨h166, (Or.inl ⟨h182, (Or.inl ⟨z185, z187, rfl⟩)⟩)⟩))⟩))⟩))⟩))⟩))⟩))⟩))⟩))⟩, (MI.popN (u := (wA (wA v 0 106 ((v.1 0 106) - (1 : Int32))) 0 112 (v.1 0 112))) mi (by rw [← eo]; exact (om_2125b3c8ad z183)) (show (v.1 0 112).toInt = jg.toInt + 1 from (om_0431d2536c zj)) (all8f (P := fun k9 => ((wA (wA v 0 106 ((v.1 0 106) - (1 : Int32))) 0 112 (v.1 0 112))).1 0 k9 = v.1 0 k9) rfl rfl rfl rfl rfl rfl rfl rfl) (all11g (P := fun k9 => ((wA (wA v 0 106 ((v.1 0 106) - (1 : Int32))) 0 112 (v.1 0 112))).1 k9 = v.1 k9) rfl rfl rfl rfl rfl rfl rfl rfl rfl rfl rfl) (show ((v.1 0 106) - (1 : Int32)).toInt = (v.1 0 106).toInt - 1 from (om_4b62747e8a z87)) (fun j9 h9 => rfl) (show 0 ≤ (v.1 0 119).toInt ∧ (v.1 0 119).toInt ≤ (v.1 0 119).toInt + 1 from (om_c2c1baedc6 nm9)) (show 0 ≤ (v.1 0 120).toInt ∧ (v.1 0 120).toInt ≤ (v.1 0 120).toInt + 1 from (om_9ca839a770 nm9)))⟩, by rw [ht9]; exact hP, hD⟩, hS.F ht9⟩) hS.2.2 dX13_others_244
                      · have z188 : ((v.1 105) ((v.1 0 106) - (1 : Int32)).toNatClampNeg).toInt ≠ (0 : Int) := ne_z rfl (show (0 : Int32).toInt = (0 : Int) by decide) h186
                        exact False.elim (om_e92e9f8ce0 z185 z188)
                    · have z189 : ((v.1 105) ((v.1 0 106) - (1 : Int32)).toNatClampNeg).toInt ≠ (0 : Int) := ne_z rfl (show (0 : Int32).toInt = (0 : Int) by decide) h184
                      refine lv_aload_n hx hb dX13_others_204 rfl (lv_at hl 1 rfl) ?_
                      refine lv_iconst (v := 1) hx hb dX13_others_205 (by decide) ?_
                      refine cu_v (rn_V (n := 1) (As := [.int 1]) (rest := []) hx hb hml hown ht hKK hFx hP hD hS hA (c_m_push l dC dI cI cB cZ cJ cR tb H.size ad N (wA v 0 106 ((v.1 0 106) - (1 : Int32))) (1 : Int32) (show 0 ≤ ((v.1 0 106) - (1 : Int32)).toInt ∧ ((v.1 0 106) - (1 : Int32)).toInt < 24000 from (om_b9769f74ce nm9 p9 z87))) tw_332 tw_333 (by decide +kernel) rfl rfl ⟨Nat.le_of_ble_eq_true rfl, Nat.le_of_ble_eq_true rfl⟩ (List.range (mW ad N cI cZ cJ (wA v 0 106 ((v.1 0 106) - (1 : Int32)))).length) (rg_map _) (mW_nd _ _ _ _ _ _) rfl rfl rfl rfl hl.1 rfl (Nat.le_of_ble_eq_true rfl) dX13_others_206 ⟨Nat.le_of_ble_eq_true rfl, Nat.le_of_ble_eq_true rfl⟩) hP hD hS hA (fun u191 H locs hw190 hP hD hS => ?_)
                      obtain rfl := hw190
                      have z193 : (((v.1 0 106) - (1 : Int32)) + (1 : Int32)).toInt = (((v.1 0 106).toInt) - (1 : Int)) + (1 : Int) := add_z z87 (show (1 : Int32).toInt = (1 : Int) by decide) (om_2d6ae04023 p9) (om_163065fe51 nm9)
                      have hP : va_P (dC, dI) vwCl (mW ad N cI cZ cJ (wA (wA (wA v 0 106 ((v.1 0 106) - (1 : Int32))) 105 (((v.1 0 106) - (1 : Int32)).toNatClampNeg) (1 : Int32)) 0 106 (((v.1 0 106) - (1 : Int32)) + (1 : Int32)))) H := hP
                      have hD : va_D A (mW ad N cI cZ cJ (wA (wA (wA v 0 106 ((v.1 0 106) - (1 : Int32))) 105 (((v.1 0 106) - (1 : Int32)).toNatClampNeg) (1 : Int32)) 0 106 (((v.1 0 106) - (1 : Int32)) + (1 : Int32)))) := hD
                      refine W.widen (k := 0) (n := 0) (Nat.le_refl _) (Nat.le_refl _) ?_
                      refine lv_aload_n hx hb dX13_others_209 rfl (lv_at hl 1 rfl) ?_
                      refine lv_iload_n hx hb dX13_others_210 rfl (lv_at hl 0 rfl) ?_
                      refine lv_if_eq (tgt := 218) hx hb dX13_others_211 (by decide) (fun h194 => ?_) (fun h194 => ?_)
                      · have z195 : ((v.1 105) ((v.1 0 106) - (1 : Int32)).toNatClampNeg).toInt = (0 : Int) := eq_z rfl (show (0 : Int32).toInt = (0 : Int) by decide) h194
                        exact False.elim (om_6db93cff1d z189 z195)
                      · have z196 : ((v.1 105) ((v.1 0 106) - (1 : Int32)).toNatClampNeg).toInt ≠ (0 : Int) := ne_z rfl (show (0 : Int32).toInt = (0 : Int) by decide) h194
                        refine lv_iload_n hx hb dX13_others_214 rfl (lv_at hl 3 rfl) ?_
                        refine lv_goto (tgt := 222) hx hb dX13_others_215 (by decide) ?_
                        refine va_put (D := (dC, dI)) (ci := 16) (fs := mF ad (wA (wA (wA v 0 106 ((v.1 0 106) - (1 : Int32))) 105 (((v.1 0 106) - (1 : Int32)).toNatClampNeg) (1 : Int32)) 0 106 (((v.1 0 106) - (1 : Int32)) + (1 : Int32)))) (v := .int pb) (ty := .int) (C := RX13) (T := TX13) (N := 124) hx hb ht itX13 tyX13 tyX13_ok nmX13 hown hK hP hD hS 0 rfl rfl 112 (by decide) (ht _ tw_334) (fun _ h9 => h9) rfl (by decide +kernel) rfl rfl (Nat.le_of_ble_eq_true rfl) dX13_others_222 (fun H locs hP hD hS => ?_)
                        have hP := cP_ (mw_112 ad N cI cZ cJ (wA (wA (wA v 0 106 ((v.1 0 106) - (1 : Int32))) 105 (((v.1 0 106) - (1 : Int32)).toNatClampNeg) (1 : Int32)) 0 106 (((v.1 0 106) - (1 : Int32)) + (1 : Int32))) pb) hP
                        have hD := cD_ (mw_112 ad N cI cZ cJ (wA (wA (wA v 0 106 ((v.1 0 106) - (1 : Int32))) 105 (((v.1 0 106) - (1 : Int32)).toNatClampNeg) (1 : Int32)) 0 106 (((v.1 0 106) - (1 : Int32)) + (1 : Int32))) pb) hD
                        refine lv_goto (tgt := 244) hx hb dX13_others_225 (by decide) ?_
                        exact W.vret hx hb hr (fun t ht9 hW => ⟨⟨(wA (wA (wA (wA v 0 106 ((v.1 0 106) - (1 : Int32))) 105 (((v.1 0 106) - (1 : Int32)).toNatClampNeg) (1 : Int32)) 0 106 (((v.1 0 106) - (1 : Int32)) + (1 : Int32))) 0 112 pb), rfl, ⟨(FG.f (FG.f (FG.a (FG.f (FG.rf _) ((v.1 0 106) - (1 : Int32)) (by decide)) (((v.1 0 106) - (1 : Int32)).toNatClampNeg) (1 : Int32) (by decide) (by decide)) (((v.1 0 106) - (1 : Int32)) + (1 : Int32)) (by decide)) pb (by decide)), ⟨zo, zg, (Or.inr (⟨z83, (Or.inr (⟨h88, (Or.inr (⟨h96, (Or.inr (⟨h112, (Or.inr (⟨h119, (Or.inr (⟨h139, (Or.inr (⟨h146, (Or.inr (⟨h166, (Or.inl ⟨h182, (Or.inr (⟨z189, z196, rfl⟩))⟩)⟩))⟩))⟩))⟩))⟩))⟩))⟩))⟩))⟩, (MI.jmpE (u := (wA (wA (wA (wA v 0 106 ((v.1 0 106) - (1 : Int32))) 105 (((v.1 0 106) - (1 : Int32)).toNatClampNeg) (1 : Int32)) 0 106 (((v.1 0 106) - (1 : Int32)) + (1 : Int32))) 0 112 pb)) mi (by rw [← eo]; exact (om_70da8ac604 z183)) ea (all8f (P := fun k9 => ((wA (wA (wA (wA v 0 106 ((v.1 0 106) - (1 : Int32))) 105 (((v.1 0 106) - (1 : Int32)).toNatClampNeg) (1 : Int32)) 0 106 (((v.1 0 106) - (1 : Int32)) + (1 : Int32))) 0 112 pb)).1 0 k9 = v.1 0 k9) rfl rfl rfl rfl rfl rfl rfl rfl) (all11g (P := fun k9 => ((wA (wA (wA (wA v 0 106 ((v.1 0 106) - (1 : Int32))) 105 (((v.1 0 106) - (1 : Int32)).toNatClampNeg) (1 : Int32)) 0 106 (((v.1 0 106) - (1 : Int32)) + (1 : Int32))) 0 112 pb)).1 k9 = v.1 k9) rfl rfl rfl rfl rfl rfl rfl rfl rfl rfl rfl) (show (((v.1 0 106) - (1 : Int32)) + (1 : Int32)).toInt = (v.1 0 106).toInt from (om_e2d5010e12 z193)) (fun (j9 : Nat) h9 => (fun h8 => pk_un3 (x := ((v.1 0 106) - (1 : Int32))) rfl (om_ecfb7d2efe p9 z87) (om_8c41dc5a15 z87 h8)) (h9.resolve_right (by rw [← eo]; exact (om_3275983358 z183)))) (show 0 ≤ (v.1 0 119).toInt ∧ (v.1 0 119).toInt ≤ (v.1 0 119).toInt + 1 from (om_c2c1baedc6 nm9)) (show 0 ≤ (v.1 0 120).toInt ∧ (v.1 0 120).toInt ≤ (v.1 0 120).toInt + 1 from (om_9ca839a770 nm9)))⟩, by rw [ht9]; exact hP, hD⟩, hS.F ht9⟩) hS.2.2 dX13_others_244
                  ·
                    have z197 : pa.toInt ≠ (23 : Int) := ne_z rfl (show (23 : Int32).toInt = (23 : Int) by decide) h182
                    refine lv_tableOut (tgt := 228) hx hb dX13_others_14 (by have := lv_neT h88 (a := 16) (by decide); have := lv_neT h96 (a := 17) (by decide); have := lv_neT h112 (a := 18) (by decide); have := lv_neT h119 (a := 19) (by decide); have := lv_neT h139 (a := 20) (by decide); have := lv_neT h146 (a := 21) (by decide); have := lv_neT h166 (a := 22) (by decide); have := lv_neT h182 (a := 23) (by decide); omega) (by decide) ?_
                    refine lv_aload_n hx hb dX13_others_228 rfl (lv_at hl 1 rfl) ?_
                    refine lv_iload_n hx hb dX13_others_229 rfl (lv_at hl 0 rfl) ?_
                    refine lv_if_eq (tgt := 237) hx hb dX13_others_230 (by decide) (fun h198 => ?_) (fun h198 => ?_)
                    · have z199 : ((v.1 105) ((v.1 0 106) - (1 : Int32)).toNatClampNeg).toInt = (0 : Int) := eq_z rfl (show (0 : Int32).toInt = (0 : Int) by decide) h198
                      refine lv_iconst (v := 0) hx hb dX13_others_237 (by decide) ?_
                      refine cu_s (mW_nd _ _ _ _ _ _) (rn_S (n := 1) (As := [.int 0]) (rest := [.ref (ad 0)]) hx hb hml hown ht hKK hFx hP hD hS hA (c_m_less l dC dI cI cB cZ cJ cR tb H.size (0 : Int32) ) tw_222 tw_223 (by decide +kernel) rfl rfl ⟨Nat.le_of_ble_eq_true rfl, Nat.le_of_ble_eq_true rfl⟩ [] rfl rfl rfl hl.1 rfl (Nat.le_of_ble_eq_true rfl) dX13_others_238 ⟨Nat.le_of_ble_eq_true rfl, Nat.le_of_ble_eq_true rfl⟩) hP hD hS hA (fun r202 H locs hw200 hP hD hS => ?_)
                      have ex200 := hw200
                      refine W.widen (k := 0) (n := 0) (Nat.le_refl _) (Nat.le_refl _) ?_
                      refine cu_v (rn_V (n := 1) (As := [.int r202]) (rest := []) hx hb hml hown ht hKK hFx hP hD hS hA (c_m_push l dC dI cI cB cZ cJ cR tb H.size ad N (wA v 0 106 ((v.1 0 106) - (1 : Int32))) r202 (show 0 ≤ ((v.1 0 106) - (1 : Int32)).toInt ∧ ((v.1 0 106) - (1 : Int32)).toInt < 24000 from (om_b9769f74ce nm9 p9 z87))) tw_332 tw_333 (by decide +kernel) rfl rfl ⟨Nat.le_of_ble_eq_true rfl, Nat.le_of_ble_eq_true rfl⟩ (List.range (mW ad N cI cZ cJ (wA v 0 106 ((v.1 0 106) - (1 : Int32)))).length) (rg_map _) (mW_nd _ _ _ _ _ _) rfl rfl rfl rfl hl.1 rfl (Nat.le_of_ble_eq_true rfl) dX13_others_241 ⟨Nat.le_of_ble_eq_true rfl, Nat.le_of_ble_eq_true rfl⟩) hP hD hS hA (fun u204 H locs hw203 hP hD hS => ?_)
                      obtain rfl := hw203
                      have z206 : (((v.1 0 106) - (1 : Int32)) + (1 : Int32)).toInt = (((v.1 0 106).toInt) - (1 : Int)) + (1 : Int) := add_z z87 (show (1 : Int32).toInt = (1 : Int) by decide) (om_2d6ae04023 p9) (om_163065fe51 nm9)
                      have hP : va_P (dC, dI) vwCl (mW ad N cI cZ cJ (wA (wA (wA v 0 106 ((v.1 0 106) - (1 : Int32))) 105 (((v.1 0 106) - (1 : Int32)).toNatClampNeg) r202) 0 106 (((v.1 0 106) - (1 : Int32)) + (1 : Int32)))) H := hP
                      have hD : va_D A (mW ad N cI cZ cJ (wA (wA (wA v 0 106 ((v.1 0 106) - (1 : Int32))) 105 (((v.1 0 106) - (1 : Int32)).toNatClampNeg) r202) 0 106 (((v.1 0 106) - (1 : Int32)) + (1 : Int32)))) := hD
                      refine W.widen (k := 0) (n := 0) (Nat.le_refl _) (Nat.le_refl _) ?_
                      exact W.vret hx hb hr (fun t ht9 hW => ⟨⟨(wA (wA (wA v 0 106 ((v.1 0 106) - (1 : Int32))) 105 (((v.1 0 106) - (1 : Int32)).toNatClampNeg) r202) 0 106 (((v.1 0 106) - (1 : Int32)) + (1 : Int32))), rfl, ⟨(FG.f (FG.a (FG.f (FG.rf _) ((v.1 0 106) - (1 : Int32)) (by decide)) (((v.1 0 106) - (1 : Int32)).toNatClampNeg) r202 (by decide) (by decide)) (((v.1 0 106) - (1 : Int32)) + (1 : Int32)) (by decide)), ⟨zo, zg, (Or.inr (⟨z83, (Or.inr (⟨h88, (Or.inr (⟨h96, (Or.inr (⟨h112, (Or.inr (⟨h119, (Or.inr (⟨h139, (Or.inr (⟨h146, (Or.inr (⟨h166, (Or.inr (⟨h182, (Or.inl ⟨z199, r202, ex200, rfl⟩)⟩))⟩))⟩))⟩))⟩))⟩))⟩))⟩))⟩))⟩, (MI.r18 (u := (wA (wA (wA v 0 106 ((v.1 0 106) - (1 : Int32))) 105 (((v.1 0 106) - (1 : Int32)).toNatClampNeg) r202) 0 106 (((v.1 0 106) - (1 : Int32)) + (1 : Int32)))) mi (by rw [← eo]; exact (om_e7986ae813 zo z95 z111 z118 z138 z145 z165 z181 z197)) (show (v.1 0 112).toInt = jg.toInt + 1 from (om_0431d2536c zj)) (all8f (P := fun k9 => ((wA (wA (wA v 0 106 ((v.1 0 106) - (1 : Int32))) 105 (((v.1 0 106) - (1 : Int32)).toNatClampNeg) r202) 0 106 (((v.1 0 106) - (1 : Int32)) + (1 : Int32)))).1 0 k9 = v.1 0 k9) rfl rfl rfl rfl rfl rfl rfl rfl) (all11g (P := fun k9 => ((wA (wA (wA v 0 106 ((v.1 0 106) - (1 : Int32))) 105 (((v.1 0 106) - (1 : Int32)).toNatClampNeg) r202) 0 106 (((v.1 0 106) - (1 : Int32)) + (1 : Int32)))).1 k9 = v.1 k9) rfl rfl rfl rfl rfl rfl rfl rfl rfl rfl rfl) (show (((v.1 0 106) - (1 : Int32)) + (1 : Int32)).toInt = (v.1 0 106).toInt from (om_e2d5010e12 z206)) (fun (j9 : Nat) h9 => pk_un3 (x := ((v.1 0 106) - (1 : Int32))) rfl (om_ecfb7d2efe p9 z87) (om_8c41dc5a15 z87 h9)) (show 0 ≤ (v.1 0 119).toInt ∧ (v.1 0 119).toInt ≤ (v.1 0 119).toInt + 1 from (om_c2c1baedc6 nm9)) (show 0 ≤ (v.1 0 120).toInt ∧ (v.1 0 120).toInt ≤ (v.1 0 120).toInt + 1 from (om_9ca839a770 nm9)))⟩, by rw [ht9]; exact hP, hD⟩, hS.F ht9⟩) hS.2.2 dX13_others_244
                    · have z207 : ((v.1 105) ((v.1 0 106) - (1 : Int32)).toNatClampNeg).toInt ≠ (0 : Int) := ne_z rfl (show (0 : Int32).toInt = (0 : Int) by decide) h198
                      refine lv_iconst (v := 1) hx hb dX13_others_233 (by decide) ?_
                      refine lv_goto (tgt := 238) hx hb dX13_others_234 (by decide) ?_
                      refine cu_s (mW_nd _ _ _ _ _ _) (rn_S (n := 1) (As := [.int 1]) (rest := [.ref (ad 0)]) hx hb hml hown ht hKK hFx hP hD hS hA (c_m_less l dC dI cI cB cZ cJ cR tb H.size (1 : Int32) ) tw_222 tw_223 (by decide +kernel) rfl rfl ⟨Nat.le_of_ble_eq_true rfl, Nat.le_of_ble_eq_true rfl⟩ [] rfl rfl rfl hl.1 rfl (Nat.le_of_ble_eq_true rfl) dX13_others_238 ⟨Nat.le_of_ble_eq_true rfl, Nat.le_of_ble_eq_true rfl⟩) hP hD hS hA (fun r210 H locs hw208 hP hD hS => ?_)
                      have ex208 := hw208
                      refine W.widen (k := 0) (n := 0) (Nat.le_refl _) (Nat.le_refl _) ?_
                      refine cu_v (rn_V (n := 1) (As := [.int r210]) (rest := []) hx hb hml hown ht hKK hFx hP hD hS hA (c_m_push l dC dI cI cB cZ cJ cR tb H.size ad N (wA v 0 106 ((v.1 0 106) - (1 : Int32))) r210 (show 0 ≤ ((v.1 0 106) - (1 : Int32)).toInt ∧ ((v.1 0 106) - (1 : Int32)).toInt < 24000 from (om_b9769f74ce nm9 p9 z87))) tw_332 tw_333 (by decide +kernel) rfl rfl ⟨Nat.le_of_ble_eq_true rfl, Nat.le_of_ble_eq_true rfl⟩ (List.range (mW ad N cI cZ cJ (wA v 0 106 ((v.1 0 106) - (1 : Int32)))).length) (rg_map _) (mW_nd _ _ _ _ _ _) rfl rfl rfl rfl hl.1 rfl (Nat.le_of_ble_eq_true rfl) dX13_others_241 ⟨Nat.le_of_ble_eq_true rfl, Nat.le_of_ble_eq_true rfl⟩) hP hD hS hA (fun u212 H locs hw211 hP hD hS => ?_)
                      obtain rfl := hw211
                      have z214 : (((v.1 0 106) - (1 : Int32)) + (1 : Int32)).toInt = (((v.1 0 106).toInt) - (1 : Int)) + (1 : Int) := add_z z87 (show (1 : Int32).toInt = (1 : Int) by decide) (om_2d6ae04023 p9) (om_163065fe51 nm9)
                      have hP : va_P (dC, dI) vwCl (mW ad N cI cZ cJ (wA (wA (wA v 0 106 ((v.1 0 106) - (1 : Int32))) 105 (((v.1 0 106) - (1 : Int32)).toNatClampNeg) r210) 0 106 (((v.1 0 106) - (1 : Int32)) + (1 : Int32)))) H := hP
                      have hD : va_D A (mW ad N cI cZ cJ (wA (wA (wA v 0 106 ((v.1 0 106) - (1 : Int32))) 105 (((v.1 0 106) - (1 : Int32)).toNatClampNeg) r210) 0 106 (((v.1 0 106) - (1 : Int32)) + (1 : Int32)))) := hD
                      refine W.widen (k := 0) (n := 0) (Nat.le_refl _) (Nat.le_refl _) ?_
                      exact W.vret hx hb hr (fun t ht9 hW => ⟨⟨(wA (wA (wA v 0 106 ((v.1 0 106) - (1 : Int32))) 105 (((v.1 0 106) - (1 : Int32)).toNatClampNeg) r210) 0 106 (((v.1 0 106) - (1 : Int32)) + (1 : Int32))), rfl, ⟨(FG.f (FG.a (FG.f (FG.rf _) ((v.1 0 106) - (1 : Int32)) (by decide)) (((v.1 0 106) - (1 : Int32)).toNatClampNeg) r210 (by decide) (by decide)) (((v.1 0 106) - (1 : Int32)) + (1 : Int32)) (by decide)), ⟨zo, zg, (Or.inr (⟨z83, (Or.inr (⟨h88, (Or.inr (⟨h96, (Or.inr (⟨h112, (Or.inr (⟨h119, (Or.inr (⟨h139, (Or.inr (⟨h146, (Or.inr (⟨h166, (Or.inr (⟨h182, (Or.inr (⟨z207, r210, ex208, rfl⟩))⟩))⟩))⟩))⟩))⟩))⟩))⟩))⟩))⟩))⟩, (MI.r18 (u := (wA (wA (wA v 0 106 ((v.1 0 106) - (1 : Int32))) 105 (((v.1 0 106) - (1 : Int32)).toNatClampNeg) r210) 0 106 (((v.1 0 106) - (1 : Int32)) + (1 : Int32)))) mi (by rw [← eo]; exact (om_e7986ae813 zo z95 z111 z118 z138 z145 z165 z181 z197)) (show (v.1 0 112).toInt = jg.toInt + 1 from (om_0431d2536c zj)) (all8f (P := fun k9 => ((wA (wA (wA v 0 106 ((v.1 0 106) - (1 : Int32))) 105 (((v.1 0 106) - (1 : Int32)).toNatClampNeg) r210) 0 106 (((v.1 0 106) - (1 : Int32)) + (1 : Int32)))).1 0 k9 = v.1 0 k9) rfl rfl rfl rfl rfl rfl rfl rfl) (all11g (P := fun k9 => ((wA (wA (wA v 0 106 ((v.1 0 106) - (1 : Int32))) 105 (((v.1 0 106) - (1 : Int32)).toNatClampNeg) r210) 0 106 (((v.1 0 106) - (1 : Int32)) + (1 : Int32)))).1 k9 = v.1 k9) rfl rfl rfl rfl rfl rfl rfl rfl rfl rfl rfl) (show (((v.1 0 106) - (1 : Int32)) + (1 : Int32)).toInt = (v.1 0 106).toInt from (om_e2d5010e12 z214)) (fun (j9 : Nat) h9 => pk_un3 (x := ((v.1 0 106) - (1 : Int32))) rfl (om_ecfb7d2efe p9 z87) (om_8c41dc5a15 z87 h9)) (show 0 ≤ (v.1 0 119).toInt ∧ (v.1 0 119).toInt ≤ (v.1 0 119).toInt + 1 from (om_c2c1baedc6 nm9)) (show 0 ≤ (v.1 0 120).toInt ∧ (v.1 0 120).toInt ≤ (v.1 0 120).toInt + 1 from (om_9ca839a770 nm9)))⟩, by rw [ht9]; exact hP, hD⟩, hS.F ht9⟩) hS.2.2 dX13_others_244
theorem om_be77a1ddf1 {x0 x1 x2 x3 x4 x5 x6 x7 x8 x9 : Int} (h0 : 0 ≤ x0 ∧ x0 ≤ x1 ∧ x1 ≤ 8192 ∧ 0 ≤ x2 ∧ x2 < 16000 ∧ 1 ≤ x3 ∧ x3 ≤ 2048 ∧ 0 ≤ x4 ∧ x4 ≤ x5 ∧ x5 ≤ 20000 ∧ 0 ≤ x6 ∧ x6 ≤ 1000000000 ∧ 0 ≤ x7 ∧ x7 ≤ 1000000000 ∧ x8 ≤ 4096 ∧ 0 ≤ x9 ∧ x9 ≤ 16384) (h1 : 2 ≤ x1) : 1 ≤ x1 ∧ x1 ≤ 24000 := by omega
theorem om_0abb301e06 {x0 : Int} (h0 : 2 ≤ x0) : -2147483648 ≤ (x0) - (1 : Int) := by omega
theorem om_397a6c3c09 {x0 x1 x2 x3 x4 x5 x6 x7 x8 x9 x10 : Int} (h0 : 0 ≤ x0 ∧ x0 ≤ x1 ∧ x1 ≤ 8192 ∧ 0 ≤ x2 ∧ x2 < 16000 ∧ 1 ≤ x3 ∧ x3 ≤ 2048 ∧ 0 ≤ x4 ∧ x4 ≤ x5 ∧ x5 ≤ 20000 ∧ 0 ≤ x6 ∧ x6 ≤ 1000000000 ∧ 0 ≤ x7 ∧ x7 ≤ 1000000000 ∧ x8 ≤ 4096 ∧ 0 ≤ x9 ∧ x9 ≤ 16384) (h1 : 2 ≤ x1) (h2 : x10 = (x1) - (1 : Int)) : 1 ≤ x10 ∧ x10 ≤ 24000 := by omega
theorem om_ad61523484 {x0 : Int} (h0 : 2 ≤ x0) : -2147483648 ≤ ((x0) - (1 : Int)) - (1 : Int) := by omega
theorem om_85bb228797 {x0 x1 x2 x3 x4 x5 x6 x7 x8 x9 : Int} (h0 : 0 ≤ x0 ∧ x0 ≤ x1 ∧ x1 ≤ 8192 ∧ 0 ≤ x2 ∧ x2 < 16000 ∧ 1 ≤ x3 ∧ x3 ≤ 2048 ∧ 0 ≤ x4 ∧ x4 ≤ x5 ∧ x5 ≤ 20000 ∧ 0 ≤ x6 ∧ x6 ≤ 1000000000 ∧ 0 ≤ x7 ∧ x7 ≤ 1000000000 ∧ x8 ≤ 4096 ∧ 0 ≤ x9 ∧ x9 ≤ 16384) : ((x1) - (1 : Int)) - (1 : Int) < 2147483648 := by omega
theorem om_a3f16f8605 {x0 x1 : Int} (h0 : x0 ≠ (0 : Int)) : (x1 ≠ 47 ∧ x1 ≠ 37) ∨ x0 ≠ 0 := by omega
theorem om_89bed4d57d {x0 x1 x2 x3 x4 x5 x6 x7 x8 x9 x10 : Int} (h0 : 0 ≤ x0 ∧ x0 ≤ x1 ∧ x1 ≤ 8192 ∧ 0 ≤ x2 ∧ x2 < 16000 ∧ 1 ≤ x3 ∧ x3 ≤ 2048 ∧ 0 ≤ x4 ∧ x4 ≤ x5 ∧ x5 ≤ 20000 ∧ 0 ≤ x6 ∧ x6 ≤ 1000000000 ∧ 0 ≤ x7 ∧ x7 ≤ 1000000000 ∧ x8 ≤ 4096 ∧ 0 ≤ x9 ∧ x9 ≤ 16384) (h1 : 2 ≤ x1) (h2 : x10 = ((x1) - (1 : Int)) - (1 : Int)) : 0 ≤ x10 ∧ x10 < 24000 := by omega
theorem om_6861a15665 {x0 : Int} (h0 : 2 ≤ x0) : -2147483648 ≤ (((x0) - (1 : Int)) - (1 : Int)) + (1 : Int) := by omega
theorem om_05d5f352bf {x0 x1 x2 x3 x4 x5 x6 x7 x8 x9 : Int} (h0 : 0 ≤ x0 ∧ x0 ≤ x1 ∧ x1 ≤ 8192 ∧ 0 ≤ x2 ∧ x2 < 16000 ∧ 1 ≤ x3 ∧ x3 ≤ 2048 ∧ 0 ≤ x4 ∧ x4 ≤ x5 ∧ x5 ≤ 20000 ∧ 0 ≤ x6 ∧ x6 ≤ 1000000000 ∧ 0 ≤ x7 ∧ x7 ≤ 1000000000 ∧ x8 ≤ 4096 ∧ 0 ≤ x9 ∧ x9 ≤ 16384) : (((x1) - (1 : Int)) - (1 : Int)) + (1 : Int) < 2147483648 := by omega
theorem om_ae601af874 {x0 x1 : Int} (h0 : x0 = (((x1) - (1 : Int)) - (1 : Int)) + (1 : Int)) : x0 = x1 - 1 := by omega
theorem om_233fe67d78 {x0 x1 : Int} {n2 : Nat} (h0 : x0 = ((x1) - (1 : Int)) - (1 : Int)) (h1 : (n2 : Int) + 2 < x1) : (n2 : Int) < x0 := by omega
theorem om_9c1905f6eb {x0 x1 : Int} (h0 : 2 ≤ x0) (h1 : x1 = ((x0) - (1 : Int)) - (1 : Int)) : 0 ≤ x1 := by omega
theorem om_cb4cd8e634 {x0 x1 : Int} (h0 : x0 ≠ (47 : Int)) (h1 : x0 ≠ (37 : Int)) : (x0 ≠ 47 ∧ x0 ≠ 37) ∨ x1 ≠ 0 := by omega
set_option maxHeartbeats 4000000 in
set_option maxRecDepth 100000 in
theorem c_m_operates (l : Launch) (dC : Nat → ClassId) (dI : Nat → Nat → Nat) (cI cB cZ cJ cR : ClassId) (tb : Nat → Nat) (sz : Nat) (ad : Nat → Nat) (N : Nat) (v : MS) (pa : Int32) (Tt : Nat → Nat → TT) (Ee : Nat → Nat) (hg : Nat → Int) (jg : Int32) (mi : MI Tt Ee hg v jg) (zj : (v.1 0 112).toInt = jg.toInt + 1) (zo : ((v.1 71) jg.toNatClampNeg).toInt = 21) : Met l yX13_operates (Cond.code yX13_operates cX13_operates 4 (some .int) :: tw_W) ({ frames := 2, cells := 0, slots := 0, locals := 42 }) (pc_ (dC, dI) (tyS cI cB cZ cJ cR) tb (mW ad N cI cZ cJ v) sz [.ref (ad 0), .int pa]) (qi_ (dC, dI) (mW ad N cI cZ cJ v) sz (fun (r : Int32) (u : MS) => FG [106] [0, 105] v u ∧ (Q_m_operates v pa r u) ∧ (OBP Tt Ee hg v u jg r)) (fun (u : MS) => (mW ad N cI cZ cJ u))) 0 0 (va_A (mW ad N cI cZ cJ v) sz) := by
  refine Met.ofW (cc := cX13_operates) (maxL := 4) (ret := (some .int)) (by decide) rfl ?_
  intro p e s m args below meth c s₁ B hml hv
  obtain ⟨rfl, hsz, hP, hKK, hD0, hFx⟩ := hv
  have hK := hKK.1
  have hx := B.exec
  have hb := B.bytes
  have hr := B.returns
  have ht : ∀ w ∈ tw_W, w.before _ s = true := fun w h => atoms_spec (ws := Cond.code yX13_operates cX13_operates 4 (some .int) :: tw_W) B.pre w (List.mem_cons_of_mem _ h)
  have hown : s.vm.findClass RX13 = some m.cls := findClass_of_methodNamed B.named
  have hlocks := B.notSynchronized
  subst hsz
  unfold qi_
  have hD := hD0.self (sz := s.heap.size)
  generalize hAe : va_A (mW ad N cI cZ cJ v) s.heap.size = A at hD hFx ⊢
  have hA : ∀ q : Nat, s.heap.size ≤ q → A q := fun q h => by rw [← hAe]; exact Or.inr h
  have hS : va_S A s.heap s.heap [] := va_S.rf
  have hl := lv_entry ([.ref (ad 0), .int pa]) (n := 4) (Nat.le_of_ble_eq_true rfl)
  rw [lg_entry_eq]
  generalize (lg_sl ([.ref (ad 0), .int pa]) ++ List.replicate (4 - (lg_sl ([.ref (ad 0), .int pa])).length) Slot.unset).toArray = ls at hl ⊢
  have hl : lv_has ls 4 [(0, .ref (ad 0)), (1, .int pa)] := hl
  have nm9 : 0 ≤ (v.1 0 111).toInt ∧ (v.1 0 111).toInt ≤ (v.1 0 106).toInt ∧ (v.1 0 106).toInt ≤ 8192 ∧ 0 ≤ jg.toInt ∧ jg.toInt < 16000 ∧ 1 ≤ (v.1 0 110).toInt ∧ (v.1 0 110).toInt ≤ 2048 ∧ 0 ≤ (v.1 0 113).toInt ∧ (v.1 0 113).toInt ≤ (v.1 0 114).toInt ∧ (v.1 0 114).toInt ≤ 20000 ∧ 0 ≤ (v.1 0 119).toInt ∧ (v.1 0 119).toInt ≤ 1000000000 ∧ 0 ≤ (v.1 0 120).toInt ∧ (v.1 0 120).toInt ≤ 1000000000 ∧ (v.1 0 76).toInt ≤ 4096 ∧ 0 ≤ (v.1 0 115).toInt ∧ (v.1 0 115).toInt ≤ 16384 := mi.lin
  have c9 : 2 ≤ (v.1 0 106).toInt := mi.c21 zo
  refine lv_aload_n hx hb dX13_operates_0 rfl (lv_at hl 0 rfl) ?_
  refine cu_i (rn_V (n := 0) (As := []) (rest := []) hx hb hml hown ht hKK hFx hP hD hS hA (c_m_pop l dC dI cI cB cZ cJ cR tb s.heap.size ad N v  (show 1 ≤ (v.1 0 106).toInt ∧ (v.1 0 106).toInt ≤ 24000 from (om_be77a1ddf1 nm9 c9))) tw_335 tw_336 (by decide +kernel) rfl rfl ⟨Nat.le_of_ble_eq_true rfl, Nat.le_of_ble_eq_true rfl⟩ (List.range (mW ad N cI cZ cJ v).length) (rg_map _) (mW_nd _ _ _ _ _ _) rfl rfl rfl rfl hl.1 rfl (Nat.le_of_ble_eq_true rfl) dX13_operates_1 ⟨Nat.le_of_ble_eq_true rfl, Nat.le_of_ble_eq_true rfl⟩) hP hD hS hA (fun r3 u2 H locs hw1 hP hD hS => ?_)
  obtain ⟨rfl, rfl⟩ := hw1
  have z4 : ((v.1 0 106) - (1 : Int32)).toInt = ((v.1 0 106).toInt) - (1 : Int) := sub_z rfl (show (1 : Int32).toInt = (1 : Int) by decide) (om_0abb301e06 c9) (om_5ad56c0db6 nm9)
  have hP : va_P (dC, dI) vwCl (mW ad N cI cZ cJ (wA v 0 106 ((v.1 0 106) - (1 : Int32)))) H := hP
  have hD : va_D A (mW ad N cI cZ cJ (wA v 0 106 ((v.1 0 106) - (1 : Int32)))) := hD
  refine tp_i (y := ((v.1 105) ((v.1 0 106) - (1 : Int32)).toNatClampNeg)) (rfl) ?_
  refine W.widen (k := 0) (n := 0) (Nat.le_refl _) (Nat.le_refl _) ?_
  refine lv_istore_n (lv' := [(2, .int ((v.1 105) ((v.1 0 106) - (1 : Int32)).toNatClampNeg)), (0, .ref (ad 0)), (1, .int pa)]) hx hb dX13_operates_4 rfl hl (by decide) rfl (fun ls hl => ?_)
  refine lv_aload_n hx hb dX13_operates_5 rfl (lv_at hl 1 rfl) ?_
  refine cu_i (rn_V (n := 0) (As := []) (rest := []) hx hb hml hown ht hKK hFx hP hD hS hA (c_m_pop l dC dI cI cB cZ cJ cR tb H.size ad N (wA v 0 106 ((v.1 0 106) - (1 : Int32)))  (show 1 ≤ ((v.1 0 106) - (1 : Int32)).toInt ∧ ((v.1 0 106) - (1 : Int32)).toInt ≤ 24000 from (om_397a6c3c09 nm9 c9 z4))) tw_335 tw_336 (by decide +kernel) rfl rfl ⟨Nat.le_of_ble_eq_true rfl, Nat.le_of_ble_eq_true rfl⟩ (List.range (mW ad N cI cZ cJ (wA v 0 106 ((v.1 0 106) - (1 : Int32)))).length) (rg_map _) (mW_nd _ _ _ _ _ _) rfl rfl rfl rfl hl.1 rfl (Nat.le_of_ble_eq_true rfl) dX13_operates_6 ⟨Nat.le_of_ble_eq_true rfl, Nat.le_of_ble_eq_true rfl⟩) hP hD hS hA (fun r7 u6 H locs hw5 hP hD hS => ?_)
  obtain ⟨rfl, rfl⟩ := hw5
  have z8 : (((v.1 0 106) - (1 : Int32)) - (1 : Int32)).toInt = (((v.1 0 106).toInt) - (1 : Int)) - (1 : Int) := sub_z z4 (show (1 : Int32).toInt = (1 : Int) by decide) (om_ad61523484 c9) (om_85bb228797 nm9)
  have hP : va_P (dC, dI) vwCl (mW ad N cI cZ cJ (wA (wA v 0 106 ((v.1 0 106) - (1 : Int32))) 0 106 (((v.1 0 106) - (1 : Int32)) - (1 : Int32)))) H := hP
  have hD : va_D A (mW ad N cI cZ cJ (wA (wA v 0 106 ((v.1 0 106) - (1 : Int32))) 0 106 (((v.1 0 106) - (1 : Int32)) - (1 : Int32)))) := hD
  refine tp_i (y := ((v.1 105) (((v.1 0 106) - (1 : Int32)) - (1 : Int32)).toNatClampNeg)) (rfl) ?_
  refine W.widen (k := 0) (n := 0) (Nat.le_refl _) (Nat.le_refl _) ?_
  refine lv_istore_n (lv' := [(3, .int ((v.1 105) (((v.1 0 106) - (1 : Int32)) - (1 : Int32)).toNatClampNeg)), (2, .int ((v.1 105) ((v.1 0 106) - (1 : Int32)).toNatClampNeg)), (0, .ref (ad 0)), (1, .int pa)]) hx hb dX13_operates_9 rfl hl (by decide) rfl (fun ls hl => ?_)
  refine lv_iload_n hx hb dX13_operates_10 rfl (lv_at hl 3 rfl) ?_
  refine lv_bipush (v := 47) hx hb dX13_operates_11 (by decide) ?_
  refine lv_icmp_eq (tgt := 22) hx hb dX13_operates_13 (by decide) (fun h9 => ?_) (fun h9 => ?_)
  · have z10 : pa.toInt = (47 : Int) := eq_z rfl (show (47 : Int32).toInt = (47 : Int) by decide) h9
    refine lv_iload_n hx hb dX13_operates_22 rfl (lv_at hl 1 rfl) ?_
    refine lv_if_ne (tgt := 28) hx hb dX13_operates_23 (by decide) (fun h11 => ?_) (fun h11 => ?_)
    · have z12 : ((v.1 105) ((v.1 0 106) - (1 : Int32)).toNatClampNeg).toInt ≠ (0 : Int) := ne_z rfl (show (0 : Int32).toInt = (0 : Int) by decide) h11
      refine lv_aload_n hx hb dX13_operates_28 rfl (lv_at hl 2 rfl) ?_
      refine lv_iload_n hx hb dX13_operates_29 rfl (lv_at hl 3 rfl) ?_
      refine lv_iload_n hx hb dX13_operates_30 rfl (lv_at hl 0 rfl) ?_
      refine lv_iload_n hx hb dX13_operates_31 rfl (lv_at hl 1 rfl) ?_
      refine cu_s (mW_nd _ _ _ _ _ _) (rn_S (n := 3) (As := [.int pa, .int ((v.1 105) (((v.1 0 106) - (1 : Int32)) - (1 : Int32)).toNatClampNeg), .int ((v.1 105) ((v.1 0 106) - (1 : Int32)).toNatClampNeg)]) (rest := [.ref (ad 0)]) hx hb hml hown ht hKK hFx hP hD hS hA (c_m_worked0 l dC dI cI cB cZ cJ cR tb H.size pa ((v.1 105) (((v.1 0 106) - (1 : Int32)) - (1 : Int32)).toNatClampNeg) ((v.1 105) ((v.1 0 106) - (1 : Int32)).toNatClampNeg) (show (pa.toInt ≠ 47 ∧ pa.toInt ≠ 37) ∨ ((v.1 105) ((v.1 0 106) - (1 : Int32)).toNatClampNeg).toInt ≠ 0 from (om_a3f16f8605 z12))) tw_337 tw_338 (by decide +kernel) rfl rfl ⟨Nat.le_of_ble_eq_true rfl, Nat.le_of_ble_eq_true rfl⟩ [] rfl rfl rfl hl.1 rfl (Nat.le_of_ble_eq_true rfl) dX13_operates_32 ⟨Nat.le_of_ble_eq_true rfl, Nat.le_of_ble_eq_true rfl⟩) hP hD hS hA (fun r15 H locs hw13 hP hD hS => ?_)
      have ex13 := hw13
      refine W.widen (k := 0) (n := 0) (Nat.le_refl _) (Nat.le_refl _) ?_
      refine cu_v (rn_V (n := 1) (As := [.int r15]) (rest := []) hx hb hml hown ht hKK hFx hP hD hS hA (c_m_push l dC dI cI cB cZ cJ cR tb H.size ad N (wA (wA v 0 106 ((v.1 0 106) - (1 : Int32))) 0 106 (((v.1 0 106) - (1 : Int32)) - (1 : Int32))) r15 (show 0 ≤ (((v.1 0 106) - (1 : Int32)) - (1 : Int32)).toInt ∧ (((v.1 0 106) - (1 : Int32)) - (1 : Int32)).toInt < 24000 from (om_89bed4d57d nm9 c9 z8))) tw_332 tw_333 (by decide +kernel) rfl rfl ⟨Nat.le_of_ble_eq_true rfl, Nat.le_of_ble_eq_true rfl⟩ (List.range (mW ad N cI cZ cJ (wA (wA v 0 106 ((v.1 0 106) - (1 : Int32))) 0 106 (((v.1 0 106) - (1 : Int32)) - (1 : Int32)))).length) (rg_map _) (mW_nd _ _ _ _ _ _) rfl rfl rfl rfl hl.1 rfl (Nat.le_of_ble_eq_true rfl) dX13_operates_35 ⟨Nat.le_of_ble_eq_true rfl, Nat.le_of_ble_eq_true rfl⟩) hP hD hS hA (fun u17 H locs hw16 hP hD hS => ?_)
      obtain rfl := hw16
      have z19 : ((((v.1 0 106) - (1 : Int32)) - (1 : Int32)) + (1 : Int32)).toInt = ((((v.1 0 106).toInt) - (1 : Int)) - (1 : Int)) + (1 : Int) := add_z z8 (show (1 : Int32).toInt = (1 : Int) by decide) (om_6861a15665 c9) (om_05d5f352bf nm9)
      have hP : va_P (dC, dI) vwCl (mW ad N cI cZ cJ (wA (wA (wA (wA v 0 106 ((v.1 0 106) - (1 : Int32))) 0 106 (((v.1 0 106) - (1 : Int32)) - (1 : Int32))) 105 ((((v.1 0 106) - (1 : Int32)) - (1 : Int32)).toNatClampNeg) r15) 0 106 ((((v.1 0 106) - (1 : Int32)) - (1 : Int32)) + (1 : Int32)))) H := hP
      have hD : va_D A (mW ad N cI cZ cJ (wA (wA (wA (wA v 0 106 ((v.1 0 106) - (1 : Int32))) 0 106 (((v.1 0 106) - (1 : Int32)) - (1 : Int32))) 105 ((((v.1 0 106) - (1 : Int32)) - (1 : Int32)).toNatClampNeg) r15) 0 106 ((((v.1 0 106) - (1 : Int32)) - (1 : Int32)) + (1 : Int32)))) := hD
      refine W.widen (k := 0) (n := 0) (Nat.le_refl _) (Nat.le_refl _) ?_
      refine lv_iconst (v := -1) hx hb dX13_operates_38 (by decide) ?_
      exact W.iret (v := (-1)) hx hb hr (fun t ht9 hW => ⟨⟨(-1), (wA (wA (wA (wA v 0 106 ((v.1 0 106) - (1 : Int32))) 0 106 (((v.1 0 106) - (1 : Int32)) - (1 : Int32))) 105 ((((v.1 0 106) - (1 : Int32)) - (1 : Int32)).toNatClampNeg) r15) 0 106 ((((v.1 0 106) - (1 : Int32)) - (1 : Int32)) + (1 : Int32))), rfl, ⟨(FG.f (FG.a (FG.f (FG.f (FG.rf _) ((v.1 0 106) - (1 : Int32)) (by decide)) (((v.1 0 106) - (1 : Int32)) - (1 : Int32)) (by decide)) ((((v.1 0 106) - (1 : Int32)) - (1 : Int32)).toNatClampNeg) r15 (by decide) (by decide)) ((((v.1 0 106) - (1 : Int32)) - (1 : Int32)) + (1 : Int32)) (by decide)), (Or.inl ⟨z10, (Or.inl ⟨z12, r15, ex13, rfl, rfl⟩)⟩), (Or.inl ⟨by decide, MI.t21 (u := (wA (wA (wA (wA v 0 106 ((v.1 0 106) - (1 : Int32))) 0 106 (((v.1 0 106) - (1 : Int32)) - (1 : Int32))) 105 ((((v.1 0 106) - (1 : Int32)) - (1 : Int32)).toNatClampNeg) r15) 0 106 ((((v.1 0 106) - (1 : Int32)) - (1 : Int32)) + (1 : Int32)))) mi zo (show (v.1 0 112).toInt = jg.toInt + 1 from (om_0431d2536c zj)) (all8f (P := fun k9 => ((wA (wA (wA (wA v 0 106 ((v.1 0 106) - (1 : Int32))) 0 106 (((v.1 0 106) - (1 : Int32)) - (1 : Int32))) 105 ((((v.1 0 106) - (1 : Int32)) - (1 : Int32)).toNatClampNeg) r15) 0 106 ((((v.1 0 106) - (1 : Int32)) - (1 : Int32)) + (1 : Int32)))).1 0 k9 = v.1 0 k9) rfl rfl rfl rfl rfl rfl rfl rfl) (all11g (P := fun k9 => ((wA (wA (wA (wA v 0 106 ((v.1 0 106) - (1 : Int32))) 0 106 (((v.1 0 106) - (1 : Int32)) - (1 : Int32))) 105 ((((v.1 0 106) - (1 : Int32)) - (1 : Int32)).toNatClampNeg) r15) 0 106 ((((v.1 0 106) - (1 : Int32)) - (1 : Int32)) + (1 : Int32)))).1 k9 = v.1 k9) rfl rfl rfl rfl rfl rfl rfl rfl rfl rfl rfl) (show ((((v.1 0 106) - (1 : Int32)) - (1 : Int32)) + (1 : Int32)).toInt = (v.1 0 106).toInt - 1 from (om_ae601af874 z19)) (fun (j9 : Nat) h9 => pk_un3 (x := (((v.1 0 106) - (1 : Int32)) - (1 : Int32))) rfl (om_9c1905f6eb c9 z8) (om_233fe67d78 z8 h9)) (show 0 ≤ (v.1 0 119).toInt ∧ (v.1 0 119).toInt ≤ (v.1 0 119).toInt + 1 from (om_c2c1baedc6 nm9)) (show 0 ≤ (v.1 0 120).toInt ∧ (v.1 0 120).toInt ≤ (v.1 0 120).toInt + 1 from (om_9ca839a770 nm9))⟩)⟩, by rw [ht9]; exact hP, hD⟩, hS.F ht9⟩) hS.2.2 dX13_operates_39
    · have z20 : ((v.1 105) ((v.1 0 106) - (1 : Int32)).toNatClampNeg).toInt = (0 : Int) := eq_z rfl (show (0 : Int32).toInt = (0 : Int) by decide) h11
      refine lv_iconst (v := 2) hx hb dX13_operates_26 (by decide) ?_
      exact W.iret (v := 2) hx hb hr (fun t ht9 hW => ⟨⟨2, (wA (wA v 0 106 ((v.1 0 106) - (1 : Int32))) 0 106 (((v.1 0 106) - (1 : Int32)) - (1 : Int32))), rfl, ⟨(FG.f (FG.f (FG.rf _) ((v.1 0 106) - (1 : Int32)) (by decide)) (((v.1 0 106) - (1 : Int32)) - (1 : Int32)) (by decide)), (Or.inl ⟨z10, (Or.inr (⟨z20, rfl, rfl⟩))⟩), (Or.inr ⟨by decide, fun w9 => absurd w9 (by decide)⟩)⟩, by rw [ht9]; exact hP, hD⟩, hS.F ht9⟩) hS.2.2 dX13_operates_27
  · have z21 : pa.toInt ≠ (47 : Int) := ne_z rfl (show (47 : Int32).toInt = (47 : Int) by decide) h9
    refine lv_iload_n hx hb dX13_operates_16 rfl (lv_at hl 3 rfl) ?_
    refine lv_bipush (v := 37) hx hb dX13_operates_17 (by decide) ?_
    refine lv_icmp_ne (tgt := 28) hx hb dX13_operates_19 (by decide) (fun h22 => ?_) (fun h22 => ?_)
    · have z23 : pa.toInt ≠ (37 : Int) := ne_z rfl (show (37 : Int32).toInt = (37 : Int) by decide) h22
      refine lv_aload_n hx hb dX13_operates_28 rfl (lv_at hl 2 rfl) ?_
      refine lv_iload_n hx hb dX13_operates_29 rfl (lv_at hl 3 rfl) ?_
      refine lv_iload_n hx hb dX13_operates_30 rfl (lv_at hl 0 rfl) ?_
      refine lv_iload_n hx hb dX13_operates_31 rfl (lv_at hl 1 rfl) ?_
      refine cu_s (mW_nd _ _ _ _ _ _) (rn_S (n := 3) (As := [.int pa, .int ((v.1 105) (((v.1 0 106) - (1 : Int32)) - (1 : Int32)).toNatClampNeg), .int ((v.1 105) ((v.1 0 106) - (1 : Int32)).toNatClampNeg)]) (rest := [.ref (ad 0)]) hx hb hml hown ht hKK hFx hP hD hS hA (c_m_worked0 l dC dI cI cB cZ cJ cR tb H.size pa ((v.1 105) (((v.1 0 106) - (1 : Int32)) - (1 : Int32)).toNatClampNeg) ((v.1 105) ((v.1 0 106) - (1 : Int32)).toNatClampNeg) (show (pa.toInt ≠ 47 ∧ pa.toInt ≠ 37) ∨ ((v.1 105) ((v.1 0 106) - (1 : Int32)).toNatClampNeg).toInt ≠ 0 from (om_cb4cd8e634 z21 z23))) tw_337 tw_338 (by decide +kernel) rfl rfl ⟨Nat.le_of_ble_eq_true rfl, Nat.le_of_ble_eq_true rfl⟩ [] rfl rfl rfl hl.1 rfl (Nat.le_of_ble_eq_true rfl) dX13_operates_32 ⟨Nat.le_of_ble_eq_true rfl, Nat.le_of_ble_eq_true rfl⟩) hP hD hS hA (fun r26 H locs hw24 hP hD hS => ?_)
      have ex24 := hw24
      refine W.widen (k := 0) (n := 0) (Nat.le_refl _) (Nat.le_refl _) ?_
      refine cu_v (rn_V (n := 1) (As := [.int r26]) (rest := []) hx hb hml hown ht hKK hFx hP hD hS hA (c_m_push l dC dI cI cB cZ cJ cR tb H.size ad N (wA (wA v 0 106 ((v.1 0 106) - (1 : Int32))) 0 106 (((v.1 0 106) - (1 : Int32)) - (1 : Int32))) r26 (show 0 ≤ (((v.1 0 106) - (1 : Int32)) - (1 : Int32)).toInt ∧ (((v.1 0 106) - (1 : Int32)) - (1 : Int32)).toInt < 24000 from (om_89bed4d57d nm9 c9 z8))) tw_332 tw_333 (by decide +kernel) rfl rfl ⟨Nat.le_of_ble_eq_true rfl, Nat.le_of_ble_eq_true rfl⟩ (List.range (mW ad N cI cZ cJ (wA (wA v 0 106 ((v.1 0 106) - (1 : Int32))) 0 106 (((v.1 0 106) - (1 : Int32)) - (1 : Int32)))).length) (rg_map _) (mW_nd _ _ _ _ _ _) rfl rfl rfl rfl hl.1 rfl (Nat.le_of_ble_eq_true rfl) dX13_operates_35 ⟨Nat.le_of_ble_eq_true rfl, Nat.le_of_ble_eq_true rfl⟩) hP hD hS hA (fun u28 H locs hw27 hP hD hS => ?_)
      obtain rfl := hw27
      have z30 : ((((v.1 0 106) - (1 : Int32)) - (1 : Int32)) + (1 : Int32)).toInt = ((((v.1 0 106).toInt) - (1 : Int)) - (1 : Int)) + (1 : Int) := add_z z8 (show (1 : Int32).toInt = (1 : Int) by decide) (om_6861a15665 c9) (om_05d5f352bf nm9)
      have hP : va_P (dC, dI) vwCl (mW ad N cI cZ cJ (wA (wA (wA (wA v 0 106 ((v.1 0 106) - (1 : Int32))) 0 106 (((v.1 0 106) - (1 : Int32)) - (1 : Int32))) 105 ((((v.1 0 106) - (1 : Int32)) - (1 : Int32)).toNatClampNeg) r26) 0 106 ((((v.1 0 106) - (1 : Int32)) - (1 : Int32)) + (1 : Int32)))) H := hP
      have hD : va_D A (mW ad N cI cZ cJ (wA (wA (wA (wA v 0 106 ((v.1 0 106) - (1 : Int32))) 0 106 (((v.1 0 106) - (1 : Int32)) - (1 : Int32))) 105 ((((v.1 0 106) - (1 : Int32)) - (1 : Int32)).toNatClampNeg) r26) 0 106 ((((v.1 0 106) - (1 : Int32)) - (1 : Int32)) + (1 : Int32)))) := hD
      refine W.widen (k := 0) (n := 0) (Nat.le_refl _) (Nat.le_refl _) ?_
      refine lv_iconst (v := -1) hx hb dX13_operates_38 (by decide) ?_
      exact W.iret (v := (-1)) hx hb hr (fun t ht9 hW => ⟨⟨(-1), (wA (wA (wA (wA v 0 106 ((v.1 0 106) - (1 : Int32))) 0 106 (((v.1 0 106) - (1 : Int32)) - (1 : Int32))) 105 ((((v.1 0 106) - (1 : Int32)) - (1 : Int32)).toNatClampNeg) r26) 0 106 ((((v.1 0 106) - (1 : Int32)) - (1 : Int32)) + (1 : Int32))), rfl, ⟨(FG.f (FG.a (FG.f (FG.f (FG.rf _) ((v.1 0 106) - (1 : Int32)) (by decide)) (((v.1 0 106) - (1 : Int32)) - (1 : Int32)) (by decide)) ((((v.1 0 106) - (1 : Int32)) - (1 : Int32)).toNatClampNeg) r26 (by decide) (by decide)) ((((v.1 0 106) - (1 : Int32)) - (1 : Int32)) + (1 : Int32)) (by decide)), (Or.inr (⟨z21, (Or.inl ⟨z23, r26, ex24, rfl, rfl⟩)⟩)), (Or.inl ⟨by decide, MI.t21 (u := (wA (wA (wA (wA v 0 106 ((v.1 0 106) - (1 : Int32))) 0 106 (((v.1 0 106) - (1 : Int32)) - (1 : Int32))) 105 ((((v.1 0 106) - (1 : Int32)) - (1 : Int32)).toNatClampNeg) r26) 0 106 ((((v.1 0 106) - (1 : Int32)) - (1 : Int32)) + (1 : Int32)))) mi zo (show (v.1 0 112).toInt = jg.toInt + 1 from (om_0431d2536c zj)) (all8f (P := fun k9 => ((wA (wA (wA (wA v 0 106 ((v.1 0 106) - (1 : Int32))) 0 106 (((v.1 0 106) - (1 : Int32)) - (1 : Int32))) 105 ((((v.1 0 106) - (1 : Int32)) - (1 : Int32)).toNatClampNeg) r26) 0 106 ((((v.1 0 106) - (1 : Int32)) - (1 : Int32)) + (1 : Int32)))).1 0 k9 = v.1 0 k9) rfl rfl rfl rfl rfl rfl rfl rfl) (all11g (P := fun k9 => ((wA (wA (wA (wA v 0 106 ((v.1 0 106) - (1 : Int32))) 0 106 (((v.1 0 106) - (1 : Int32)) - (1 : Int32))) 105 ((((v.1 0 106) - (1 : Int32)) - (1 : Int32)).toNatClampNeg) r26) 0 106 ((((v.1 0 106) - (1 : Int32)) - (1 : Int32)) + (1 : Int32)))).1 k9 = v.1 k9) rfl rfl rfl rfl rfl rfl rfl rfl rfl rfl rfl) (show ((((v.1 0 106) - (1 : Int32)) - (1 : Int32)) + (1 : Int32)).toInt = (v.1 0 106).toInt - 1 from (om_ae601af874 z30)) (fun (j9 : Nat) h9 => pk_un3 (x := (((v.1 0 106) - (1 : Int32)) - (1 : Int32))) rfl (om_9c1905f6eb c9 z8) (om_233fe67d78 z8 h9)) (show 0 ≤ (v.1 0 119).toInt ∧ (v.1 0 119).toInt ≤ (v.1 0 119).toInt + 1 from (om_c2c1baedc6 nm9)) (show 0 ≤ (v.1 0 120).toInt ∧ (v.1 0 120).toInt ≤ (v.1 0 120).toInt + 1 from (om_9ca839a770 nm9))⟩)⟩, by rw [ht9]; exact hP, hD⟩, hS.F ht9⟩) hS.2.2 dX13_operates_39
    · have z31 : pa.toInt = (37 : Int) := eq_z rfl (show (37 : Int32).toInt = (37 : Int) by decide) h22
      refine lv_iload_n hx hb dX13_operates_22 rfl (lv_at hl 1 rfl) ?_
      refine lv_if_ne (tgt := 28) hx hb dX13_operates_23 (by decide) (fun h32 => ?_) (fun h32 => ?_)
      · have z33 : ((v.1 105) ((v.1 0 106) - (1 : Int32)).toNatClampNeg).toInt ≠ (0 : Int) := ne_z rfl (show (0 : Int32).toInt = (0 : Int) by decide) h32
        refine lv_aload_n hx hb dX13_operates_28 rfl (lv_at hl 2 rfl) ?_
        refine lv_iload_n hx hb dX13_operates_29 rfl (lv_at hl 3 rfl) ?_
        refine lv_iload_n hx hb dX13_operates_30 rfl (lv_at hl 0 rfl) ?_
        refine lv_iload_n hx hb dX13_operates_31 rfl (lv_at hl 1 rfl) ?_
        refine cu_s (mW_nd _ _ _ _ _ _) (rn_S (n := 3) (As := [.int pa, .int ((v.1 105) (((v.1 0 106) - (1 : Int32)) - (1 : Int32)).toNatClampNeg), .int ((v.1 105) ((v.1 0 106) - (1 : Int32)).toNatClampNeg)]) (rest := [.ref (ad 0)]) hx hb hml hown ht hKK hFx hP hD hS hA (c_m_worked0 l dC dI cI cB cZ cJ cR tb H.size pa ((v.1 105) (((v.1 0 106) - (1 : Int32)) - (1 : Int32)).toNatClampNeg) ((v.1 105) ((v.1 0 106) - (1 : Int32)).toNatClampNeg) (show (pa.toInt ≠ 47 ∧ pa.toInt ≠ 37) ∨ ((v.1 105) ((v.1 0 106) - (1 : Int32)).toNatClampNeg).toInt ≠ 0 from (om_a3f16f8605 z33))) tw_337 tw_338 (by decide +kernel) rfl rfl ⟨Nat.le_of_ble_eq_true rfl, Nat.le_of_ble_eq_true rfl⟩ [] rfl rfl rfl hl.1 rfl (Nat.le_of_ble_eq_true rfl) dX13_operates_32 ⟨Nat.le_of_ble_eq_true rfl, Nat.le_of_ble_eq_true rfl⟩) hP hD hS hA (fun r36 H locs hw34 hP hD hS => ?_)
        have ex34 := hw34
        refine W.widen (k := 0) (n := 0) (Nat.le_refl _) (Nat.le_refl _) ?_
        refine cu_v (rn_V (n := 1) (As := [.int r36]) (rest := []) hx hb hml hown ht hKK hFx hP hD hS hA (c_m_push l dC dI cI cB cZ cJ cR tb H.size ad N (wA (wA v 0 106 ((v.1 0 106) - (1 : Int32))) 0 106 (((v.1 0 106) - (1 : Int32)) - (1 : Int32))) r36 (show 0 ≤ (((v.1 0 106) - (1 : Int32)) - (1 : Int32)).toInt ∧ (((v.1 0 106) - (1 : Int32)) - (1 : Int32)).toInt < 24000 from (om_89bed4d57d nm9 c9 z8))) tw_332 tw_333 (by decide +kernel) rfl rfl ⟨Nat.le_of_ble_eq_true rfl, Nat.le_of_ble_eq_true rfl⟩ (List.range (mW ad N cI cZ cJ (wA (wA v 0 106 ((v.1 0 106) - (1 : Int32))) 0 106 (((v.1 0 106) - (1 : Int32)) - (1 : Int32)))).length) (rg_map _) (mW_nd _ _ _ _ _ _) rfl rfl rfl rfl hl.1 rfl (Nat.le_of_ble_eq_true rfl) dX13_operates_35 ⟨Nat.le_of_ble_eq_true rfl, Nat.le_of_ble_eq_true rfl⟩) hP hD hS hA (fun u38 H locs hw37 hP hD hS => ?_)
        obtain rfl := hw37
        have z40 : ((((v.1 0 106) - (1 : Int32)) - (1 : Int32)) + (1 : Int32)).toInt = ((((v.1 0 106).toInt) - (1 : Int)) - (1 : Int)) + (1 : Int) := add_z z8 (show (1 : Int32).toInt = (1 : Int) by decide) (om_6861a15665 c9) (om_05d5f352bf nm9)
        have hP : va_P (dC, dI) vwCl (mW ad N cI cZ cJ (wA (wA (wA (wA v 0 106 ((v.1 0 106) - (1 : Int32))) 0 106 (((v.1 0 106) - (1 : Int32)) - (1 : Int32))) 105 ((((v.1 0 106) - (1 : Int32)) - (1 : Int32)).toNatClampNeg) r36) 0 106 ((((v.1 0 106) - (1 : Int32)) - (1 : Int32)) + (1 : Int32)))) H := hP
        have hD : va_D A (mW ad N cI cZ cJ (wA (wA (wA (wA v 0 106 ((v.1 0 106) - (1 : Int32))) 0 106 (((v.1 0 106) - (1 : Int32)) - (1 : Int32))) 105 ((((v.1 0 106) - (1 : Int32)) - (1 : Int32)).toNatClampNeg) r36) 0 106 ((((v.1 0 106) - (1 : Int32)) - (1 : Int32)) + (1 : Int32)))) := hD
        refine W.widen (k := 0) (n := 0) (Nat.le_refl _) (Nat.le_refl _) ?_
        refine lv_iconst (v := -1) hx hb dX13_operates_38 (by decide) ?_
        exact W.iret (v := (-1)) hx hb hr (fun t ht9 hW => ⟨⟨(-1), (wA (wA (wA (wA v 0 106 ((v.1 0 106) - (1 : Int32))) 0 106 (((v.1 0 106) - (1 : Int32)) - (1 : Int32))) 105 ((((v.1 0 106) - (1 : Int32)) - (1 : Int32)).toNatClampNeg) r36) 0 106 ((((v.1 0 106) - (1 : Int32)) - (1 : Int32)) + (1 : Int32))), rfl, ⟨(FG.f (FG.a (FG.f (FG.f (FG.rf _) ((v.1 0 106) - (1 : Int32)) (by decide)) (((v.1 0 106) - (1 : Int32)) - (1 : Int32)) (by decide)) ((((v.1 0 106) - (1 : Int32)) - (1 : Int32)).toNatClampNeg) r36 (by decide) (by decide)) ((((v.1 0 106) - (1 : Int32)) - (1 : Int32)) + (1 : Int32)) (by decide)), (Or.inr (⟨z21, (Or.inr (⟨z31, (Or.inl ⟨z33, r36, ex34, rfl, rfl⟩)⟩))⟩)), (Or.inl ⟨by decide, MI.t21 (u := (wA (wA (wA (wA v 0 106 ((v.1 0 106) - (1 : Int32))) 0 106 (((v.1 0 106) - (1 : Int32)) - (1 : Int32))) 105 ((((v.1 0 106) - (1 : Int32)) - (1 : Int32)).toNatClampNeg) r36) 0 106 ((((v.1 0 106) - (1 : Int32)) - (1 : Int32)) + (1 : Int32)))) mi zo (show (v.1 0 112).toInt = jg.toInt + 1 from (om_0431d2536c zj)) (all8f (P := fun k9 => ((wA (wA (wA (wA v 0 106 ((v.1 0 106) - (1 : Int32))) 0 106 (((v.1 0 106) - (1 : Int32)) - (1 : Int32))) 105 ((((v.1 0 106) - (1 : Int32)) - (1 : Int32)).toNatClampNeg) r36) 0 106 ((((v.1 0 106) - (1 : Int32)) - (1 : Int32)) + (1 : Int32)))).1 0 k9 = v.1 0 k9) rfl rfl rfl rfl rfl rfl rfl rfl) (all11g (P := fun k9 => ((wA (wA (wA (wA v 0 106 ((v.1 0 106) - (1 : Int32))) 0 106 (((v.1 0 106) - (1 : Int32)) - (1 : Int32))) 105 ((((v.1 0 106) - (1 : Int32)) - (1 : Int32)).toNatClampNeg) r36) 0 106 ((((v.1 0 106) - (1 : Int32)) - (1 : Int32)) + (1 : Int32)))).1 k9 = v.1 k9) rfl rfl rfl rfl rfl rfl rfl rfl rfl rfl rfl) (show ((((v.1 0 106) - (1 : Int32)) - (1 : Int32)) + (1 : Int32)).toInt = (v.1 0 106).toInt - 1 from (om_ae601af874 z40)) (fun (j9 : Nat) h9 => pk_un3 (x := (((v.1 0 106) - (1 : Int32)) - (1 : Int32))) rfl (om_9c1905f6eb c9 z8) (om_233fe67d78 z8 h9)) (show 0 ≤ (v.1 0 119).toInt ∧ (v.1 0 119).toInt ≤ (v.1 0 119).toInt + 1 from (om_c2c1baedc6 nm9)) (show 0 ≤ (v.1 0 120).toInt ∧ (v.1 0 120).toInt ≤ (v.1 0 120).toInt + 1 from (om_9ca839a770 nm9))⟩)⟩, by rw [ht9]; exact hP, hD⟩, hS.F ht9⟩) hS.2.2 dX13_operates_39
      · have z41 : ((v.1 105) ((v.1 0 106) - (1 : Int32)).toNatClampNeg).toInt = (0 : Int) := eq_z rfl (show (0 : Int32).toInt = (0 : Int) by decide) h32
        refine lv_iconst (v := 2) hx hb dX13_operates_26 (by decide) ?_
        exact W.iret (v := 2) hx hb hr (fun t ht9 hW => ⟨⟨2, (wA (wA v 0 106 ((v.1 0 106) - (1 : Int32))) 0 106 (((v.1 0 106) - (1 : Int32)) - (1 : Int32))), rfl, ⟨(FG.f (FG.f (FG.rf _) ((v.1 0 106) - (1 : Int32)) (by decide)) (((v.1 0 106) - (1 : Int32)) - (1 : Int32)) (by decide)), (Or.inr (⟨z21, (Or.inr (⟨z31, (Or.inr (⟨z41, rfl, rfl⟩))⟩))⟩)), (Or.inr ⟨by decide, fun w9 => absurd w9 (by decide)⟩)⟩, by rw [ht9]; exact hP, hD⟩, hS.F ht9⟩) hS.2.2 dX13_operates_27
theorem om_d243e38b3e {x0 x1 x2 x3 x4 x5 x6 x7 x8 x9 : Int} (h0 : 0 ≤ x0 ∧ x0 ≤ x1 ∧ x1 ≤ 8192 ∧ 0 ≤ x2 ∧ x2 < 16000 ∧ 1 ≤ x3 ∧ x3 ≤ 2048 ∧ 0 ≤ x4 ∧ x4 ≤ x5 ∧ x5 ≤ 20000 ∧ 0 ≤ x6 ∧ x6 ≤ 1000000000 ∧ 0 ≤ x7 ∧ x7 ≤ 1000000000 ∧ x8 ≤ 4096 ∧ 0 ≤ x9 ∧ x9 ≤ 16384) : -2147483648 ≤ (x3) - (1 : Int) := by omega
theorem om_fa4d2a4f2c {x0 x1 x2 x3 x4 x5 x6 x7 x8 x9 : Int} (h0 : 0 ≤ x0 ∧ x0 ≤ x1 ∧ x1 ≤ 8192 ∧ 0 ≤ x2 ∧ x2 < 16000 ∧ 1 ≤ x3 ∧ x3 ≤ 2048 ∧ 0 ≤ x4 ∧ x4 ≤ x5 ∧ x5 ≤ 20000 ∧ 0 ≤ x6 ∧ x6 ≤ 1000000000 ∧ 0 ≤ x7 ∧ x7 ≤ 1000000000 ∧ x8 ≤ 4096 ∧ 0 ≤ x9 ∧ x9 ≤ 16384) : (x3) - (1 : Int) < 2147483648 := by omega
theorem om_be0be69be8 {x0 x1 x2 x3 x4 x5 x6 x7 x8 x9 : Int} (h0 : 0 ≤ x0 ∧ x0 ≤ x1 ∧ x1 ≤ 8192 ∧ 0 ≤ x2 ∧ x2 < 16000 ∧ 1 ≤ x3 ∧ x3 ≤ 2048 ∧ 0 ≤ x4 ∧ x4 ≤ x5 ∧ x5 ≤ 20000 ∧ 0 ≤ x6 ∧ x6 ≤ 1000000000 ∧ 0 ≤ x7 ∧ x7 ≤ 1000000000 ∧ x8 ≤ 4096 ∧ 0 ≤ x9 ∧ x9 ≤ 16384) : 0 ≤ ((x3) - (1 : Int)) := by omega
theorem om_d849cc738f {x0 x1 x2 x3 x4 x5 x6 x7 x8 x9 : Int} (h0 : 0 ≤ x0 ∧ x0 ≤ x1 ∧ x1 ≤ 8192 ∧ 0 ≤ x2 ∧ x2 < 16000 ∧ 1 ≤ x3 ∧ x3 ≤ 2048 ∧ 0 ≤ x4 ∧ x4 ≤ x5 ∧ x5 ≤ 20000 ∧ 0 ≤ x6 ∧ x6 ≤ 1000000000 ∧ 0 ≤ x7 ∧ x7 ≤ 1000000000 ∧ x8 ≤ 4096 ∧ 0 ≤ x9 ∧ x9 ≤ 16384) : ((x3) - (1 : Int)) < 2100 := by omega
theorem om_6f0f2d97dd {x0 x1 : Int} (h0 : 0 ≤ x0 ∧ x0 ≤ 40) (h1 : 0 ≤ x1 ∧ x1 < x0) : x1 < 40 := by omega
theorem om_f80342c0ac {x0 x1 x2 x3 x4 x5 x6 x7 x8 x9 x10 : Int} (h0 : 0 ≤ x0 ∧ x0 ≤ x1 ∧ x1 ≤ 8192 ∧ 0 ≤ x2 ∧ x2 < 16000 ∧ 1 ≤ x3 ∧ x3 ≤ 2048 ∧ 0 ≤ x4 ∧ x4 ≤ x5 ∧ x5 ≤ 20000 ∧ 0 ≤ x6 ∧ x6 ≤ 1000000000 ∧ 0 ≤ x7 ∧ x7 ≤ 1000000000 ∧ x8 ≤ 4096 ∧ 0 ≤ x9 ∧ x9 ≤ 16384) (h1 : 0 ≤ x10 ∧ x10 ≤ 2008) : -2147483648 ≤ (x9) - (x10) := by omega
theorem om_0760ad5370 {x0 x1 x2 x3 x4 x5 x6 x7 x8 x9 x10 : Int} (h0 : 0 ≤ x0 ∧ x0 ≤ x1 ∧ x1 ≤ 8192 ∧ 0 ≤ x2 ∧ x2 < 16000 ∧ 1 ≤ x3 ∧ x3 ≤ 2048 ∧ 0 ≤ x4 ∧ x4 ≤ x5 ∧ x5 ≤ 20000 ∧ 0 ≤ x6 ∧ x6 ≤ 1000000000 ∧ 0 ≤ x7 ∧ x7 ≤ 1000000000 ∧ x8 ≤ 4096 ∧ 0 ≤ x9 ∧ x9 ≤ 16384) (h1 : 0 ≤ x10 ∧ x10 ≤ 2008) : (x9) - (x10) < 2147483648 := by omega
theorem om_4277e6f1dd {x0 x1 x2 x3 x4 x5 x6 x7 x8 x9 : Int} (h0 : 0 ≤ x0 ∧ x0 ≤ x1 ∧ x1 ≤ 8192 ∧ 0 ≤ x2 ∧ x2 < 16000 ∧ 1 ≤ x3 ∧ x3 ≤ 2048 ∧ 0 ≤ x4 ∧ x4 ≤ x5 ∧ x5 ≤ 20000 ∧ 0 ≤ x6 ∧ x6 ≤ 1000000000 ∧ 0 ≤ x7 ∧ x7 ≤ 1000000000 ∧ x8 ≤ 4096 ∧ 0 ≤ x9 ∧ x9 ≤ 16384) : 0 ≤ x0 ∧ x0 < 24000 := by omega
theorem om_818fab7cd2 {x0 x1 x2 x3 x4 x5 x6 x7 x8 x9 : Int} (h0 : 0 ≤ x0 ∧ x0 ≤ x1 ∧ x1 ≤ 8192 ∧ 0 ≤ x2 ∧ x2 < 16000 ∧ 1 ≤ x3 ∧ x3 ≤ 2048 ∧ 0 ≤ x4 ∧ x4 ≤ x5 ∧ x5 ≤ 20000 ∧ 0 ≤ x6 ∧ x6 ≤ 1000000000 ∧ 0 ≤ x7 ∧ x7 ≤ 1000000000 ∧ x8 ≤ 4096 ∧ 0 ≤ x9 ∧ x9 ≤ 16384) : -2147483648 ≤ (x0) + (1 : Int) := by omega
theorem om_9ca0520aaf {x0 x1 x2 x3 x4 x5 x6 x7 x8 x9 : Int} (h0 : 0 ≤ x0 ∧ x0 ≤ x1 ∧ x1 ≤ 8192 ∧ 0 ≤ x2 ∧ x2 < 16000 ∧ 1 ≤ x3 ∧ x3 ≤ 2048 ∧ 0 ≤ x4 ∧ x4 ≤ x5 ∧ x5 ≤ 20000 ∧ 0 ≤ x6 ∧ x6 ≤ 1000000000 ∧ 0 ≤ x7 ∧ x7 ≤ 1000000000 ∧ x8 ≤ 4096 ∧ 0 ≤ x9 ∧ x9 ≤ 16384) : (x0) + (1 : Int) < 2147483648 := by omega
theorem om_258618eee8 {x0 x1 x2 x3 x4 x5 x6 x7 x8 x9 x10 : Int} (h0 : 0 ≤ x0 ∧ x0 ≤ x1 ∧ x1 ≤ 8192 ∧ 0 ≤ x2 ∧ x2 < 16000 ∧ 1 ≤ x3 ∧ x3 ≤ 2048 ∧ 0 ≤ x4 ∧ x4 ≤ x5 ∧ x5 ≤ 20000 ∧ 0 ≤ x6 ∧ x6 ≤ 1000000000 ∧ 0 ≤ x7 ∧ x7 ≤ 1000000000 ∧ x8 ≤ 4096 ∧ 0 ≤ x9 ∧ x9 ≤ 16384) (h1 : x10 = (x3) - (1 : Int)) : 0 ≤ x10 := by omega
theorem om_1ca135d213 {x0 x1 x2 : Int} (h0 : x0 = (x1) - (x2)) : x0 = x1 - x2 := by omega
theorem om_6703a329b4 {x0 x1 x2 x3 x4 x5 x6 x7 x8 x9 : Int} (h0 : 0 ≤ x0 ∧ x0 ≤ x1 ∧ x1 ≤ 8192 ∧ 0 ≤ x2 ∧ x2 < 16000 ∧ 1 ≤ x3 ∧ x3 ≤ 2048 ∧ 0 ≤ x4 ∧ x4 ≤ x5 ∧ x5 ≤ 20000 ∧ 0 ≤ x6 ∧ x6 ≤ 1000000000 ∧ 0 ≤ x7 ∧ x7 ≤ 1000000000 ∧ x8 ≤ 4096 ∧ 0 ≤ x9 ∧ x9 ≤ 16384) : 0 ≤ x0 := by omega
theorem om_db6e4cdb52 {x0 x1 x2 x3 x4 x5 x6 x7 x8 x9 x10 : Int} (h0 : 0 ≤ x0 ∧ x0 ≤ x1 ∧ x1 ≤ 8192 ∧ 0 ≤ x2 ∧ x2 < 16000 ∧ 1 ≤ x3 ∧ x3 ≤ 2048 ∧ 0 ≤ x4 ∧ x4 ≤ x5 ∧ x5 ≤ 20000 ∧ 0 ≤ x6 ∧ x6 ≤ 1000000000 ∧ 0 ≤ x7 ∧ x7 ≤ 1000000000 ∧ x8 ≤ 4096 ∧ 0 ≤ x9 ∧ x9 ≤ 16384) (h1 : x10 = (x3) - (1 : Int)) (h2 : ((x3) - (1 : Int)) ≠ (0 : Int)) : 1 ≤ x10 := by omega
theorem om_54784b465c {x0 x1 x2 x3 x4 x5 x6 x7 x8 x9 x10 : Int} (h0 : 0 ≤ x0 ∧ x0 ≤ x1 ∧ x1 ≤ 8192 ∧ 0 ≤ x2 ∧ x2 < 16000 ∧ 1 ≤ x3 ∧ x3 ≤ 2048 ∧ 0 ≤ x4 ∧ x4 ≤ x5 ∧ x5 ≤ 20000 ∧ 0 ≤ x6 ∧ x6 ≤ 1000000000 ∧ 0 ≤ x7 ∧ x7 ≤ 1000000000 ∧ x8 ≤ 4096 ∧ 0 ≤ x9 ∧ x9 ≤ 16384) (h1 : x10 = (x3) - (1 : Int)) (h2 : ((x3) - (1 : Int)) = (0 : Int)) : x10 = 0 := by omega
set_option maxHeartbeats 4000000 in
set_option maxRecDepth 100000 in
theorem c_m_leave (l : Launch) (dC : Nat → ClassId) (dI : Nat → Nat → Nat) (cI cB cZ cJ cR : ClassId) (tb : Nat → Nat) (sz : Nat) (ad : Nat → Nat) (N : Nat) (v : MS) (Tt : Nat → Nat → TT) (Ee : Nat → Nat) (hg : Nat → Int) (jg : Int32) (mi : MI Tt Ee hg v jg) (zo : ((v.1 71) jg.toNatClampNeg).toInt = 15) (zbf : 0 ≤ (v.1 0 74).toInt ∧ (v.1 0 74).toInt ≤ 40) (a79 : AR 79 0 2008 v) : Met l yX13_leave (Cond.code yX13_leave cX13_leave 2 (some .int) :: tw_W) ({ frames := 1, cells := 0, slots := 0, locals := 21 }) (pc_ (dC, dI) (tyS cI cB cZ cJ cR) tb (mW ad N cI cZ cJ v) sz [.ref (ad 0)]) (qi_ (dC, dI) (mW ad N cI cZ cJ v) sz (fun (r : Int32) (u : MS) => FG [106, 110, 111, 112, 115] [0, 105] v u ∧ (Q_m_leave v r u) ∧ (OBP Tt Ee hg v u jg r)) (fun (u : MS) => (mW ad N cI cZ cJ u))) 0 0 (va_A (mW ad N cI cZ cJ v) sz) := by
  refine Met.ofW (cc := cX13_leave) (maxL := 2) (ret := (some .int)) (by decide) rfl ?_
  intro p e s m args below meth c s₁ B hml hv
  obtain ⟨rfl, hsz, hP, hKK, hD0, hFx⟩ := hv
  have hK := hKK.1
  have hx := B.exec
  have hb := B.bytes
  have hr := B.returns
  have ht : ∀ w ∈ tw_W, w.before _ s = true := fun w h => atoms_spec (ws := Cond.code yX13_leave cX13_leave 2 (some .int) :: tw_W) B.pre w (List.mem_cons_of_mem _ h)
  have hown : s.vm.findClass RX13 = some m.cls := findClass_of_methodNamed B.named
  have hlocks := B.notSynchronized
  subst hsz
  unfold qi_
  have hD := hD0.self (sz := s.heap.size)
  generalize hAe : va_A (mW ad N cI cZ cJ v) s.heap.size = A at hD hFx ⊢
  have hA : ∀ q : Nat, s.heap.size ≤ q → A q := fun q h => by rw [← hAe]; exact Or.inr h
  have hS : va_S A s.heap s.heap [] := va_S.rf
  have hl := lv_entry ([.ref (ad 0)]) (n := 2) (Nat.le_of_ble_eq_true rfl)
  rw [lg_entry_eq]
  generalize (lg_sl ([.ref (ad 0)]) ++ List.replicate (2 - (lg_sl ([.ref (ad 0)])).length) Slot.unset).toArray = ls at hl ⊢
  have hl : lv_has ls 2 [(0, .ref (ad 0))] := hl
  have nm9 : 0 ≤ (v.1 0 111).toInt ∧ (v.1 0 111).toInt ≤ (v.1 0 106).toInt ∧ (v.1 0 106).toInt ≤ 8192 ∧ 0 ≤ jg.toInt ∧ jg.toInt < 16000 ∧ 1 ≤ (v.1 0 110).toInt ∧ (v.1 0 110).toInt ≤ 2048 ∧ 0 ≤ (v.1 0 113).toInt ∧ (v.1 0 113).toInt ≤ (v.1 0 114).toInt ∧ (v.1 0 114).toInt ≤ 20000 ∧ 0 ≤ (v.1 0 119).toInt ∧ (v.1 0 119).toInt ≤ 1000000000 ∧ 0 ≤ (v.1 0 120).toInt ∧ (v.1 0 120).toInt ≤ 1000000000 ∧ (v.1 0 76).toInt ≤ 4096 ∧ 0 ≤ (v.1 0 115).toInt ∧ (v.1 0 115).toInt ≤ 16384 := mi.lin
  have c9 : 1 ≤ (v.1 0 106).toInt := mi.c15 zo
  refine lv_aload_n hx hb dX13_leave_0 rfl (lv_at hl 0 rfl) ?_
  refine cu_i (rn_V (n := 0) (As := []) (rest := []) hx hb hml hown ht hKK hFx hP hD hS hA (c_m_pop l dC dI cI cB cZ cJ cR tb s.heap.size ad N v  (show 1 ≤ (v.1 0 106).toInt ∧ (v.1 0 106).toInt ≤ 24000 from (om_89fa2c872a nm9 c9))) tw_335 tw_336 (by decide +kernel) rfl rfl ⟨Nat.le_of_ble_eq_true rfl, Nat.le_of_ble_eq_true rfl⟩ (List.range (mW ad N cI cZ cJ v).length) (rg_map _) (mW_nd _ _ _ _ _ _) rfl rfl rfl rfl hl.1 rfl (Nat.le_of_ble_eq_true rfl) dX13_leave_1 ⟨Nat.le_of_ble_eq_true rfl, Nat.le_of_ble_eq_true rfl⟩) hP hD hS hA (fun r3 u2 H locs hw1 hP hD hS => ?_)
  obtain ⟨rfl, rfl⟩ := hw1
  have z4 : ((v.1 0 106) - (1 : Int32)).toInt = ((v.1 0 106).toInt) - (1 : Int) := sub_z rfl (show (1 : Int32).toInt = (1 : Int) by decide) (om_1ea8132e01 c9) (om_5ad56c0db6 nm9)
  have hP : va_P (dC, dI) vwCl (mW ad N cI cZ cJ (wA v 0 106 ((v.1 0 106) - (1 : Int32)))) H := hP
  have hD : va_D A (mW ad N cI cZ cJ (wA v 0 106 ((v.1 0 106) - (1 : Int32)))) := hD
  refine tp_i (y := ((v.1 105) ((v.1 0 106) - (1 : Int32)).toNatClampNeg)) (rfl) ?_
  refine W.widen (k := 0) (n := 0) (Nat.le_refl _) (Nat.le_refl _) ?_
  refine lv_istore_n (lv' := [(1, .int ((v.1 105) ((v.1 0 106) - (1 : Int32)).toNatClampNeg)), (0, .ref (ad 0))]) hx hb dX13_leave_4 rfl hl (by decide) rfl (fun ls hl => ?_)
  refine lv_aload_n hx hb dX13_leave_5 rfl (lv_at hl 1 rfl) ?_
  refine lv_aload_n hx hb dX13_leave_6 rfl (lv_at hl 1 rfl) ?_
  refine va_get (D := (dC, dI)) (ci := 16) (fs := mF ad (wA v 0 106 ((v.1 0 106) - (1 : Int32)))) (v := .int (v.1 0 111)) (C := RX13) (T := TX13) (N := 124) hx hb ht itX13 hown hK hP 0 rfl rfl 111 (by decide) (ht _ tw_339) (fun _ h9 => h9) rfl dX13_leave_7 ?_
  refine va_put (D := (dC, dI)) (ci := 16) (fs := mF ad (wA v 0 106 ((v.1 0 106) - (1 : Int32)))) (v := .int (v.1 0 111)) (ty := .int) (C := RX13) (T := TX13) (N := 124) hx hb ht itX13 tyX13 tyX13_ok nmX13 hown hK hP hD hS 0 rfl rfl 106 (by decide) (ht _ tw_315) (fun _ h9 => h9) rfl (by decide +kernel) rfl rfl (Nat.le_of_ble_eq_true rfl) dX13_leave_10 (fun H locs hP hD hS => ?_)
  have hP := cP_ (mw_106 ad N cI cZ cJ (wA v 0 106 ((v.1 0 106) - (1 : Int32))) (v.1 0 111)) hP
  have hD := cD_ (mw_106 ad N cI cZ cJ (wA v 0 106 ((v.1 0 106) - (1 : Int32))) (v.1 0 111)) hD
  refine lv_aload_n hx hb dX13_leave_13 rfl (lv_at hl 1 rfl) ?_
  refine lv_dup hx hb dX13_leave_14 rfl ?_
  refine va_get (D := (dC, dI)) (ci := 16) (fs := mF ad (wA (wA v 0 106 ((v.1 0 106) - (1 : Int32))) 0 106 (v.1 0 111))) (v := .int (v.1 0 110)) (C := RX13) (T := TX13) (N := 124) hx hb ht itX13 hown hK hP 0 rfl rfl 110 (by decide) (ht _ tw_340) (fun _ h9 => h9) rfl dX13_leave_15 ?_
  refine lv_iconst (v := 1) hx hb dX13_leave_18 (by decide) ?_
  refine lv_isub hx hb dX13_leave_19 ?_
  have z5 : ((v.1 0 110) - (1 : Int32)).toInt = ((v.1 0 110).toInt) - (1 : Int) := sub_z rfl (show (1 : Int32).toInt = (1 : Int) by decide) (om_d243e38b3e nm9) (om_fa4d2a4f2c nm9)
  refine va_put (D := (dC, dI)) (ci := 16) (fs := mF ad (wA (wA v 0 106 ((v.1 0 106) - (1 : Int32))) 0 106 (v.1 0 111))) (v := .int ((v.1 0 110) - (1 : Int32))) (ty := .int) (C := RX13) (T := TX13) (N := 124) hx hb ht itX13 tyX13 tyX13_ok nmX13 hown hK hP hD hS 0 rfl rfl 110 (by decide) (ht _ tw_340) (fun _ h9 => h9) rfl (by decide +kernel) rfl rfl (Nat.le_of_ble_eq_true rfl) dX13_leave_20 (fun H locs hP hD hS => ?_)
  have hP := cP_ (mw_110 ad N cI cZ cJ (wA (wA v 0 106 ((v.1 0 106) - (1 : Int32))) 0 106 (v.1 0 111)) ((v.1 0 110) - (1 : Int32))) hP
  have hD := cD_ (mw_110 ad N cI cZ cJ (wA (wA v 0 106 ((v.1 0 106) - (1 : Int32))) 0 106 (v.1 0 111)) ((v.1 0 110) - (1 : Int32))) hD
  refine lv_aload_n hx hb dX13_leave_23 rfl (lv_at hl 1 rfl) ?_
  refine lv_dup hx hb dX13_leave_24 rfl ?_
  refine va_get (D := (dC, dI)) (ci := 16) (fs := mF ad (wA (wA (wA v 0 106 ((v.1 0 106) - (1 : Int32))) 0 106 (v.1 0 111)) 0 110 ((v.1 0 110) - (1 : Int32)))) (v := .int (v.1 0 115)) (C := RX13) (T := TX13) (N := 124) hx hb ht itX13 hown hK hP 0 rfl rfl 115 (by decide) (ht _ tw_341) (fun _ h9 => h9) rfl dX13_leave_25 ?_
  refine lv_aload_n hx hb dX13_leave_28 rfl (lv_at hl 1 rfl) ?_
  refine va_get (D := (dC, dI)) (ci := 16) (fs := mF ad (wA (wA (wA v 0 106 ((v.1 0 106) - (1 : Int32))) 0 106 (v.1 0 111)) 0 110 ((v.1 0 110) - (1 : Int32)))) (v := .ref (ad 79)) (C := RX13) (T := TX13) (N := 124) hx hb ht itX13 hown hK hP 0 rfl rfl 79 (by decide) (ht _ tw_260) (fun _ h9 => h9) rfl dX13_leave_29 ?_
  refine lv_aload_n hx hb dX13_leave_32 rfl (lv_at hl 1 rfl) ?_
  refine va_get (D := (dC, dI)) (ci := 16) (fs := mF ad (wA (wA (wA v 0 106 ((v.1 0 106) - (1 : Int32))) 0 106 (v.1 0 111)) 0 110 ((v.1 0 110) - (1 : Int32)))) (v := .ref (ad 109)) (C := RX13) (T := TX13) (N := 124) hx hb ht itX13 hown hK hP 0 rfl rfl 109 (by decide) (ht _ tw_342) (fun _ h9 => h9) rfl dX13_leave_33 ?_
  refine lv_aload_n hx hb dX13_leave_36 rfl (lv_at hl 1 rfl) ?_
  refine va_get (D := (dC, dI)) (ci := 16) (fs := mF ad (wA (wA (wA v 0 106 ((v.1 0 106) - (1 : Int32))) 0 106 (v.1 0 111)) 0 110 ((v.1 0 110) - (1 : Int32)))) (v := .int ((v.1 0 110) - (1 : Int32))) (C := RX13) (T := TX13) (N := 124) hx hb ht itX13 hown hK hP 0 rfl rfl 110 (by decide) (ht _ tw_340) (fun _ h9 => h9) rfl dX13_leave_37 ?_
  refine va_iald (D := (dC, dI)) (f := (v.1 109)) hx hb hK hP 59 0 rfl rfl (in_y (a := (((v.1 0 110).toInt) - (1 : Int))) (b := 2100) z5 (om_be0be69be8 nm9) (om_d849cc738f nm9) rfl) dX13_leave_40 ?_
  have z6 : 0 ≤ ((v.1 109) ((v.1 0 110) - (1 : Int32)).toNatClampNeg).toInt ∧ ((v.1 109) ((v.1 0 110) - (1 : Int32)).toNatClampNeg).toInt < (v.1 0 74).toInt := mi.cl (om_4b62747e8a z5)
  refine va_iald (D := (dC, dI)) (f := (v.1 79)) hx hb hK hP 39 0 rfl rfl (in_y (a := ((v.1 109) ((v.1 0 110) - (1 : Int32)).toNatClampNeg).toInt) (b := 40) rfl (om_67c5e46d7f z6) (om_6f0f2d97dd zbf z6) rfl) dX13_leave_41 ?_
  refine lv_isub hx hb dX13_leave_42 ?_
  have q7 : 0 ≤ ((v.1 79) ((v.1 109) ((v.1 0 110) - (1 : Int32)).toNatClampNeg).toNatClampNeg).toInt ∧ ((v.1 79) ((v.1 109) ((v.1 0 110) - (1 : Int32)).toNatClampNeg).toNatClampNeg).toInt ≤ 2008 := (show AR 79 0 2008 (wA (wA (wA v 0 106 ((v.1 0 106) - (1 : Int32))) 0 106 (v.1 0 111)) 0 110 ((v.1 0 110) - (1 : Int32))) from (AR.o (AR.o (AR.o a79 (by decide)) (by decide)) (by decide))) (((v.1 109) ((v.1 0 110) - (1 : Int32)).toNatClampNeg).toNatClampNeg)
  have z8 : ((v.1 0 115) - ((v.1 79) ((v.1 109) ((v.1 0 110) - (1 : Int32)).toNatClampNeg).toNatClampNeg)).toInt = ((v.1 0 115).toInt) - (((v.1 79) ((v.1 109) ((v.1 0 110) - (1 : Int32)).toNatClampNeg).toNatClampNeg).toInt) := sub_z rfl rfl (om_f80342c0ac nm9 q7) (om_0760ad5370 nm9 q7)
  refine va_put (D := (dC, dI)) (ci := 16) (fs := mF ad (wA (wA (wA v 0 106 ((v.1 0 106) - (1 : Int32))) 0 106 (v.1 0 111)) 0 110 ((v.1 0 110) - (1 : Int32)))) (v := .int ((v.1 0 115) - ((v.1 79) ((v.1 109) ((v.1 0 110) - (1 : Int32)).toNatClampNeg).toNatClampNeg))) (ty := .int) (C := RX13) (T := TX13) (N := 124) hx hb ht itX13 tyX13 tyX13_ok nmX13 hown hK hP hD hS 0 rfl rfl 115 (by decide) (ht _ tw_341) (fun _ h9 => h9) rfl (by decide +kernel) rfl rfl (Nat.le_of_ble_eq_true rfl) dX13_leave_43 (fun H locs hP hD hS => ?_)
  have hP := cP_ (mw_115 ad N cI cZ cJ (wA (wA (wA v 0 106 ((v.1 0 106) - (1 : Int32))) 0 106 (v.1 0 111)) 0 110 ((v.1 0 110) - (1 : Int32))) ((v.1 0 115) - ((v.1 79) ((v.1 109) ((v.1 0 110) - (1 : Int32)).toNatClampNeg).toNatClampNeg))) hP
  have hD := cD_ (mw_115 ad N cI cZ cJ (wA (wA (wA v 0 106 ((v.1 0 106) - (1 : Int32))) 0 106 (v.1 0 111)) 0 110 ((v.1 0 110) - (1 : Int32))) ((v.1 0 115) - ((v.1 79) ((v.1 109) ((v.1 0 110) - (1 : Int32)).toNatClampNeg).toNatClampNeg))) hD
  refine lv_aload_n hx hb dX13_leave_46 rfl (lv_at hl 1 rfl) ?_
  refine lv_aload_n hx hb dX13_leave_47 rfl (lv_at hl 1 rfl) ?_
  refine va_get (D := (dC, dI)) (ci := 16) (fs := mF ad (wA (wA (wA (wA v 0 106 ((v.1 0 106) - (1 : Int32))) 0 106 (v.1 0 111)) 0 110 ((v.1 0 110) - (1 : Int32))) 0 115 ((v.1 0 115) - ((v.1 79) ((v.1 109) ((v.1 0 110) - (1 : Int32)).toNatClampNeg).toNatClampNeg)))) (v := .ref (ad 107)) (C := RX13) (T := TX13) (N := 124) hx hb ht itX13 hown hK hP 0 rfl rfl 107 (by decide) (ht _ tw_343) (fun _ h9 => h9) rfl dX13_leave_48 ?_
  refine lv_aload_n hx hb dX13_leave_51 rfl (lv_at hl 1 rfl) ?_
  refine va_get (D := (dC, dI)) (ci := 16) (fs := mF ad (wA (wA (wA (wA v 0 106 ((v.1 0 106) - (1 : Int32))) 0 106 (v.1 0 111)) 0 110 ((v.1 0 110) - (1 : Int32))) 0 115 ((v.1 0 115) - ((v.1 79) ((v.1 109) ((v.1 0 110) - (1 : Int32)).toNatClampNeg).toNatClampNeg)))) (v := .int ((v.1 0 110) - (1 : Int32))) (C := RX13) (T := TX13) (N := 124) hx hb ht itX13 hown hK hP 0 rfl rfl 110 (by decide) (ht _ tw_340) (fun _ h9 => h9) rfl dX13_leave_52 ?_
  refine va_iald (D := (dC, dI)) (f := (v.1 107)) hx hb hK hP 57 0 rfl rfl (in_y (a := (((v.1 0 110).toInt) - (1 : Int))) (b := 2100) z5 (om_be0be69be8 nm9) (om_d849cc738f nm9) rfl) dX13_leave_55 ?_
  refine va_put (D := (dC, dI)) (ci := 16) (fs := mF ad (wA (wA (wA (wA v 0 106 ((v.1 0 106) - (1 : Int32))) 0 106 (v.1 0 111)) 0 110 ((v.1 0 110) - (1 : Int32))) 0 115 ((v.1 0 115) - ((v.1 79) ((v.1 109) ((v.1 0 110) - (1 : Int32)).toNatClampNeg).toNatClampNeg)))) (v := .int ((v.1 107) ((v.1 0 110) - (1 : Int32)).toNatClampNeg)) (ty := .int) (C := RX13) (T := TX13) (N := 124) hx hb ht itX13 tyX13 tyX13_ok nmX13 hown hK hP hD hS 0 rfl rfl 112 (by decide) (ht _ tw_334) (fun _ h9 => h9) rfl (by decide +kernel) rfl rfl (Nat.le_of_ble_eq_true rfl) dX13_leave_56 (fun H locs hP hD hS => ?_)
  have hP := cP_ (mw_112 ad N cI cZ cJ (wA (wA (wA (wA v 0 106 ((v.1 0 106) - (1 : Int32))) 0 106 (v.1 0 111)) 0 110 ((v.1 0 110) - (1 : Int32))) 0 115 ((v.1 0 115) - ((v.1 79) ((v.1 109) ((v.1 0 110) - (1 : Int32)).toNatClampNeg).toNatClampNeg))) ((v.1 107) ((v.1 0 110) - (1 : Int32)).toNatClampNeg)) hP
  have hD := cD_ (mw_112 ad N cI cZ cJ (wA (wA (wA (wA v 0 106 ((v.1 0 106) - (1 : Int32))) 0 106 (v.1 0 111)) 0 110 ((v.1 0 110) - (1 : Int32))) 0 115 ((v.1 0 115) - ((v.1 79) ((v.1 109) ((v.1 0 110) - (1 : Int32)).toNatClampNeg).toNatClampNeg))) ((v.1 107) ((v.1 0 110) - (1 : Int32)).toNatClampNeg)) hD
  refine lv_aload_n hx hb dX13_leave_59 rfl (lv_at hl 1 rfl) ?_
  refine lv_aload_n hx hb dX13_leave_60 rfl (lv_at hl 1 rfl) ?_
  refine va_get (D := (dC, dI)) (ci := 16) (fs := mF ad (wA (wA (wA (wA (wA v 0 106 ((v.1 0 106) - (1 : Int32))) 0 106 (v.1 0 111)) 0 110 ((v.1 0 110) - (1 : Int32))) 0 115 ((v.1 0 115) - ((v.1 79) ((v.1 109) ((v.1 0 110) - (1 : Int32)).toNatClampNeg).toNatClampNeg))) 0 112 ((v.1 107) ((v.1 0 110) - (1 : Int32)).toNatClampNeg))) (v := .ref (ad 108)) (C := RX13) (T := TX13) (N := 124) hx hb ht itX13 hown hK hP 0 rfl rfl 108 (by decide) (ht _ tw_344) (fun _ h9 => h9) rfl dX13_leave_61 ?_
  refine lv_aload_n hx hb dX13_leave_64 rfl (lv_at hl 1 rfl) ?_
  refine va_get (D := (dC, dI)) (ci := 16) (fs := mF ad (wA (wA (wA (wA (wA v 0 106 ((v.1 0 106) - (1 : Int32))) 0 106 (v.1 0 111)) 0 110 ((v.1 0 110) - (1 : Int32))) 0 115 ((v.1 0 115) - ((v.1 79) ((v.1 109) ((v.1 0 110) - (1 : Int32)).toNatClampNeg).toNatClampNeg))) 0 112 ((v.1 107) ((v.1 0 110) - (1 : Int32)).toNatClampNeg))) (v := .int ((v.1 0 110) - (1 : Int32))) (C := RX13) (T := TX13) (N := 124) hx hb ht itX13 hown hK hP 0 rfl rfl 110 (by decide) (ht _ tw_340) (fun _ h9 => h9) rfl dX13_leave_65 ?_
  refine va_iald (D := (dC, dI)) (f := (v.1 108)) hx hb hK hP 58 0 rfl rfl (in_y (a := (((v.1 0 110).toInt) - (1 : Int))) (b := 2100) z5 (om_be0be69be8 nm9) (om_d849cc738f nm9) rfl) dX13_leave_68 ?_
  refine va_put (D := (dC, dI)) (ci := 16) (fs := mF ad (wA (wA (wA (wA (wA v 0 106 ((v.1 0 106) - (1 : Int32))) 0 106 (v.1 0 111)) 0 110 ((v.1 0 110) - (1 : Int32))) 0 115 ((v.1 0 115) - ((v.1 79) ((v.1 109) ((v.1 0 110) - (1 : Int32)).toNatClampNeg).toNatClampNeg))) 0 112 ((v.1 107) ((v.1 0 110) - (1 : Int32)).toNatClampNeg))) (v := .int ((v.1 108) ((v.1 0 110) - (1 : Int32)).toNatClampNeg)) (ty := .int) (C := RX13) (T := TX13) (N := 124) hx hb ht itX13 tyX13 tyX13_ok nmX13 hown hK hP hD hS 0 rfl rfl 111 (by decide) (ht _ tw_339) (fun _ h9 => h9) rfl (by decide +kernel) rfl rfl (Nat.le_of_ble_eq_true rfl) dX13_leave_69 (fun H locs hP hD hS => ?_)
  have hP := cP_ (mw_111 ad N cI cZ cJ (wA (wA (wA (wA (wA v 0 106 ((v.1 0 106) - (1 : Int32))) 0 106 (v.1 0 111)) 0 110 ((v.1 0 110) - (1 : Int32))) 0 115 ((v.1 0 115) - ((v.1 79) ((v.1 109) ((v.1 0 110) - (1 : Int32)).toNatClampNeg).toNatClampNeg))) 0 112 ((v.1 107) ((v.1 0 110) - (1 : Int32)).toNatClampNeg)) ((v.1 108) ((v.1 0 110) - (1 : Int32)).toNatClampNeg)) hP
  have hD := cD_ (mw_111 ad N cI cZ cJ (wA (wA (wA (wA (wA v 0 106 ((v.1 0 106) - (1 : Int32))) 0 106 (v.1 0 111)) 0 110 ((v.1 0 110) - (1 : Int32))) 0 115 ((v.1 0 115) - ((v.1 79) ((v.1 109) ((v.1 0 110) - (1 : Int32)).toNatClampNeg).toNatClampNeg))) 0 112 ((v.1 107) ((v.1 0 110) - (1 : Int32)).toNatClampNeg)) ((v.1 108) ((v.1 0 110) - (1 : Int32)).toNatClampNeg)) hD
  refine lv_aload_n hx hb dX13_leave_72 rfl (lv_at hl 1 rfl) ?_
  refine lv_iload_n hx hb dX13_leave_73 rfl (lv_at hl 0 rfl) ?_
  refine cu_v (rn_V (n := 1) (As := [.int ((v.1 105) ((v.1 0 106) - (1 : Int32)).toNatClampNeg)]) (rest := []) hx hb hml hown ht hKK hFx hP hD hS hA (c_m_push l dC dI cI cB cZ cJ cR tb H.size ad N (wA (wA (wA (wA (wA (wA v 0 106 ((v.1 0 106) - (1 : Int32))) 0 106 (v.1 0 111)) 0 110 ((v.1 0 110) - (1 : Int32))) 0 115 ((v.1 0 115) - ((v.1 79) ((v.1 109) ((v.1 0 110) - (1 : Int32)).toNatClampNeg).toNatClampNeg))) 0 112 ((v.1 107) ((v.1 0 110) - (1 : Int32)).toNatClampNeg)) 0 111 ((v.1 108) ((v.1 0 110) - (1 : Int32)).toNatClampNeg)) ((v.1 105) ((v.1 0 106) - (1 : Int32)).toNatClampNeg) (show 0 ≤ (v.1 0 111).toInt ∧ (v.1 0 111).toInt < 24000 from (om_4277e6f1dd nm9))) tw_332 tw_333 (by decide +kernel) rfl rfl ⟨Nat.le_of_ble_eq_true rfl, Nat.le_of_ble_eq_true rfl⟩ (List.range (mW ad N cI cZ cJ (wA (wA (wA (wA (wA (wA v 0 106 ((v.1 0 106) - (1 : Int32))) 0 106 (v.1 0 111)) 0 110 ((v.1 0 110) - (1 : Int32))) 0 115 ((v.1 0 115) - ((v.1 79) ((v.1 109) ((v.1 0 110) - (1 : Int32)).toNatClampNeg).toNatClampNeg))) 0 112 ((v.1 107) ((v.1 0 110) - (1 : Int32)).toNatClampNeg)) 0 111 ((v.1 108) ((v.1 0 110) - (1 : Int32)).toNatClampNeg))).length) (rg_map _) (mW_nd _ _ _ _ _ _) rfl rfl rfl rfl hl.1 rfl (Nat.le_of_ble_eq_true rfl) dX13_leave_74 ⟨Nat.le_of_ble_eq_true rfl, Nat.le_of_ble_eq_true rfl⟩) hP hD hS hA (fun u10 H locs hw9 hP hD hS => ?_)
  obtain rfl := hw9
  have z12 : ((v.1 0 111) + (1 : Int32)).toInt = ((v.1 0 111).toInt) + (1 : Int) := add_z rfl (show (1 : Int32).toInt = (1 : Int) by decide) (om_818fab7cd2 nm9) (om_9ca0520aaf nm9)
  have hP : va_P (dC, dI) vwCl (mW ad N cI cZ cJ (wA (wA (wA (wA (wA (wA (wA (wA v 0 106 ((v.1 0 106) - (1 : Int32))) 0 106 (v.1 0 111)) 0 110 ((v.1 0 110) - (1 : Int32))) 0 115 ((v.1 0 115) - ((v.1 79) ((v.1 109) ((v.1 0 110) - (1 : Int32)).toNatClampNeg).toNatClampNeg))) 0 112 ((v.1 107) ((v.1 0 110) - (1 : Int32)).toNatClampNeg)) 0 111 ((v.1 108) ((v.1 0 110) - (1 : Int32)).toNatClampNeg)) 105 ((v.1 0 111).toNatClampNeg) ((v.1 105) ((v.1 0 106) - (1 : Int32)).toNatClampNeg)) 0 106 ((v.1 0 111) + (1 : Int32)))) H := hP
  have hD : va_D A (mW ad N cI cZ cJ (wA (wA (wA (wA (wA (wA (wA (wA v 0 106 ((v.1 0 106) - (1 : Int32))) 0 106 (v.1 0 111)) 0 110 ((v.1 0 110) - (1 : Int32))) 0 115 ((v.1 0 115) - ((v.1 79) ((v.1 109) ((v.1 0 110) - (1 : Int32)).toNatClampNeg).toNatClampNeg))) 0 112 ((v.1 107) ((v.1 0 110) - (1 : Int32)).toNatClampNeg)) 0 111 ((v.1 108) ((v.1 0 110) - (1 : Int32)).toNatClampNeg)) 105 ((v.1 0 111).toNatClampNeg) ((v.1 105) ((v.1 0 106) - (1 : Int32)).toNatClampNeg)) 0 106 ((v.1 0 111) + (1 : Int32)))) := hD
  refine W.widen (k := 0) (n := 0) (Nat.le_refl _) (Nat.le_refl _) ?_
  refine lv_aload_n hx hb dX13_leave_77 rfl (lv_at hl 1 rfl) ?_
  refine va_get (D := (dC, dI)) (ci := 16) (fs := mF ad (wA (wA (wA (wA (wA (wA (wA (wA v 0 106 ((v.1 0 106) - (1 : Int32))) 0 106 (v.1 0 111)) 0 110 ((v.1 0 110) - (1 : Int32))) 0 115 ((v.1 0 115) - ((v.1 79) ((v.1 109) ((v.1 0 110) - (1 : Int32)).toNatClampNeg).toNatClampNeg))) 0 112 ((v.1 107) ((v.1 0 110) - (1 : Int32)).toNatClampNeg)) 0 111 ((v.1 108) ((v.1 0 110) - (1 : Int32)).toNatClampNeg)) 105 ((v.1 0 111).toNatClampNeg) ((v.1 105) ((v.1 0 106) - (1 : Int32)).toNatClampNeg)) 0 106 ((v.1 0 111) + (1 : Int32)))) (v := .int ((v.1 0 110) - (1 : Int32))) (C := RX13) (T := TX13) (N := 124) hx hb ht itX13 hown hK hP 0 rfl rfl 110 (by decide) (ht _ tw_340) (fun _ h9 => h9) rfl dX13_leave_78 ?_
  refine lv_if_ne (tgt := 88) hx hb dX13_leave_81 (by decide) (fun h13 => ?_) (fun h13 => ?_)
  · have z14 : (((v.1 0 110).toInt) - (1 : Int)) ≠ (0 : Int) := ne_z z5 (show (0 : Int32).toInt = (0 : Int) by decide) h13
    refine lv_iconst (v := -1) hx hb dX13_leave_88 (by decide) ?_
    have lv15 := MI.lv (u := (wA (wA (wA (wA (wA (wA (wA (wA v 0 106 ((v.1 0 106) - (1 : Int32))) 0 106 (v.1 0 111)) 0 110 ((v.1 0 110) - (1 : Int32))) 0 115 ((v.1 0 115) - ((v.1 79) ((v.1 109) ((v.1 0 110) - (1 : Int32)).toNatClampNeg).toNatClampNeg))) 0 112 ((v.1 107) ((v.1 0 110) - (1 : Int32)).toNatClampNeg)) 0 111 ((v.1 108) ((v.1 0 110) - (1 : Int32)).toNatClampNeg)) 105 ((v.1 0 111).toNatClampNeg) ((v.1 105) ((v.1 0 106) - (1 : Int32)).toNatClampNeg)) 0 106 ((v.1 0 111) + (1 : Int32)))) (i := ((v.1 0 110) - (1 : Int32)).toNatClampNeg) mi zo ((nat_z (om_258618eee8 nm9 z5)).trans (show ((v.1 0 110) - (1 : Int32)).toInt = (v.1 0 110).toInt - 1 from (om_4b62747e8a z5))) (all7f (P := fun k9 => ((wA (wA (wA (wA (wA (wA (wA (wA v 0 106 ((v.1 0 106) - (1 : Int32))) 0 106 (v.1 0 111)) 0 110 ((v.1 0 110) - (1 : Int32))) 0 115 ((v.1 0 115) - ((v.1 79) ((v.1 109) ((v.1 0 110) - (1 : Int32)).toNatClampNeg).toNatClampNeg))) 0 112 ((v.1 107) ((v.1 0 110) - (1 : Int32)).toNatClampNeg)) 0 111 ((v.1 108) ((v.1 0 110) - (1 : Int32)).toNatClampNeg)) 105 ((v.1 0 111).toNatClampNeg) ((v.1 105) ((v.1 0 106) - (1 : Int32)).toNatClampNeg)) 0 106 ((v.1 0 111) + (1 : Int32)))).1 0 k9 = v.1 0 k9) rfl rfl rfl rfl rfl rfl rfl) (all11g (P := fun k9 => ((wA (wA (wA (wA (wA (wA (wA (wA v 0 106 ((v.1 0 106) - (1 : Int32))) 0 106 (v.1 0 111)) 0 110 ((v.1 0 110) - (1 : Int32))) 0 115 ((v.1 0 115) - ((v.1 79) ((v.1 109) ((v.1 0 110) - (1 : Int32)).toNatClampNeg).toNatClampNeg))) 0 112 ((v.1 107) ((v.1 0 110) - (1 : Int32)).toNatClampNeg)) 0 111 ((v.1 108) ((v.1 0 110) - (1 : Int32)).toNatClampNeg)) 105 ((v.1 0 111).toNatClampNeg) ((v.1 105) ((v.1 0 106) - (1 : Int32)).toNatClampNeg)) 0 106 ((v.1 0 111) + (1 : Int32)))).1 k9 = v.1 k9) rfl rfl rfl rfl rfl rfl rfl rfl rfl rfl rfl) (show ((v.1 0 110) - (1 : Int32)).toInt = (v.1 0 110).toInt - 1 from (om_4b62747e8a z5)) rfl (show ((v.1 0 115) - ((v.1 79) ((v.1 109) ((v.1 0 110) - (1 : Int32)).toNatClampNeg).toNatClampNeg)).toInt = (v.1 0 115).toInt - ((v.1 79) ((v.1 109) ((v.1 0 110) - (1 : Int32)).toNatClampNeg).toNatClampNeg).toInt from (om_1ca135d213 z8)) (show ((v.1 0 111) + (1 : Int32)).toInt = (v.1 0 111).toInt + 1 from (om_5bccfc38cf z12)) (fun (j9 : Nat) h9 => pk_un3 (x := (v.1 0 111)) rfl (om_6703a329b4 nm9) (om_4fe904e9bf h9))
    exact W.iret (v := (-1)) hx hb hr (fun t ht9 hW => ⟨⟨(-1), (wA (wA (wA (wA (wA (wA (wA (wA v 0 106 ((v.1 0 106) - (1 : Int32))) 0 106 (v.1 0 111)) 0 110 ((v.1 0 110) - (1 : Int32))) 0 115 ((v.1 0 115) - ((v.1 79) ((v.1 109) ((v.1 0 110) - (1 : Int32)).toNatClampNeg).toNatClampNeg))) 0 112 ((v.1 107) ((v.1 0 110) - (1 : Int32)).toNatClampNeg)) 0 111 ((v.1 108) ((v.1 0 110) - (1 : Int32)).toNatClampNeg)) 105 ((v.1 0 111).toNatClampNeg) ((v.1 105) ((v.1 0 106) - (1 : Int32)).toNatClampNeg)) 0 106 ((v.1 0 111) + (1 : Int32))), rfl, ⟨(FG.f (FG.a (FG.f (FG.f (FG.f (FG.f (FG.f (FG.f (FG.rf _) ((v.1 0 106) - (1 : Int32)) (by decide)) (v.1 0 111) (by decide)) ((v.1 0 110) - (1 : Int32)) (by decide)) ((v.1 0 115) - ((v.1 79) ((v.1 109) ((v.1 0 110) - (1 : Int32)).toNatClampNeg).toNatClampNeg)) (by decide)) ((v.1 107) ((v.1 0 110) - (1 : Int32)).toNatClampNeg) (by decide)) ((v.1 108) ((v.1 0 110) - (1 : Int32)).toNatClampNeg) (by decide)) ((v.1 0 111).toNatClampNeg) ((v.1 105) ((v.1 0 106) - (1 : Int32)).toNatClampNeg) (by decide) (by decide)) ((v.1 0 111) + (1 : Int32)) (by decide)), ⟨zbf, (Or.inl ⟨z14, rfl, rfl⟩)⟩, (Or.inl ⟨by decide, lv15.2 (by have := nat_z (om_258618eee8 nm9 z5); have := (om_db6e4cdb52 nm9 z5 z14); omega)⟩)⟩, by rw [ht9]; exact hP, hD⟩, hS.F ht9⟩) hS.2.2 dX13_leave_89
  · have z16 : (((v.1 0 110).toInt) - (1 : Int)) = (0 : Int) := eq_z z5 (show (0 : Int32).toInt = (0 : Int) by decide) h13
    refine lv_iconst (v := 0) hx hb dX13_leave_84 (by decide) ?_
    refine lv_goto (tgt := 89) hx hb dX13_leave_85 (by decide) ?_
    have lv17 := MI.lv (u := (wA (wA (wA (wA (wA (wA (wA (wA v 0 106 ((v.1 0 106) - (1 : Int32))) 0 106 (v.1 0 111)) 0 110 ((v.1 0 110) - (1 : Int32))) 0 115 ((v.1 0 115) - ((v.1 79) ((v.1 109) ((v.1 0 110) - (1 : Int32)).toNatClampNeg).toNatClampNeg))) 0 112 ((v.1 107) ((v.1 0 110) - (1 : Int32)).toNatClampNeg)) 0 111 ((v.1 108) ((v.1 0 110) - (1 : Int32)).toNatClampNeg)) 105 ((v.1 0 111).toNatClampNeg) ((v.1 105) ((v.1 0 106) - (1 : Int32)).toNatClampNeg)) 0 106 ((v.1 0 111) + (1 : Int32)))) (i := ((v.1 0 110) - (1 : Int32)).toNatClampNeg) mi zo ((nat_z (om_258618eee8 nm9 z5)).trans (show ((v.1 0 110) - (1 : Int32)).toInt = (v.1 0 110).toInt - 1 from (om_4b62747e8a z5))) (all7f (P := fun k9 => ((wA (wA (wA (wA (wA (wA (wA (wA v 0 106 ((v.1 0 106) - (1 : Int32))) 0 106 (v.1 0 111)) 0 110 ((v.1 0 110) - (1 : Int32))) 0 115 ((v.1 0 115) - ((v.1 79) ((v.1 109) ((v.1 0 110) - (1 : Int32)).toNatClampNeg).toNatClampNeg))) 0 112 ((v.1 107) ((v.1 0 110) - (1 : Int32)).toNatClampNeg)) 0 111 ((v.1 108) ((v.1 0 110) - (1 : Int32)).toNatClampNeg)) 105 ((v.1 0 111).toNatClampNeg) ((v.1 105) ((v.1 0 106) - (1 : Int32)).toNatClampNeg)) 0 106 ((v.1 0 111) + (1 : Int32)))).1 0 k9 = v.1 0 k9) rfl rfl rfl rfl rfl rfl rfl) (all11g (P := fun k9 => ((wA (wA (wA (wA (wA (wA (wA (wA v 0 106 ((v.1 0 106) - (1 : Int32))) 0 106 (v.1 0 111)) 0 110 ((v.1 0 110) - (1 : Int32))) 0 115 ((v.1 0 115) - ((v.1 79) ((v.1 109) ((v.1 0 110) - (1 : Int32)).toNatClampNeg).toNatClampNeg))) 0 112 ((v.1 107) ((v.1 0 110) - (1 : Int32)).toNatClampNeg)) 0 111 ((v.1 108) ((v.1 0 110) - (1 : Int32)).toNatClampNeg)) 105 ((v.1 0 111).toNatClampNeg) ((v.1 105) ((v.1 0 106) - (1 : Int32)).toNatClampNeg)) 0 106 ((v.1 0 111) + (1 : Int32)))).1 k9 = v.1 k9) rfl rfl rfl rfl rfl rfl rfl rfl rfl rfl rfl) (show ((v.1 0 110) - (1 : Int32)).toInt = (v.1 0 110).toInt - 1 from (om_4b62747e8a z5)) rfl (show ((v.1 0 115) - ((v.1 79) ((v.1 109) ((v.1 0 110) - (1 : Int32)).toNatClampNeg).toNatClampNeg)).toInt = (v.1 0 115).toInt - ((v.1 79) ((v.1 109) ((v.1 0 110) - (1 : Int32)).toNatClampNeg).toNatClampNeg).toInt from (om_1ca135d213 z8)) (show ((v.1 0 111) + (1 : Int32)).toInt = (v.1 0 111).toInt + 1 from (om_5bccfc38cf z12)) (fun (j9 : Nat) h9 => pk_un3 (x := (v.1 0 111)) rfl (om_6703a329b4 nm9) (om_4fe904e9bf h9))
    exact W.iret (v := 0) hx hb hr (fun t ht9 hW => ⟨⟨0, (wA (wA (wA (wA (wA (wA (wA (wA v 0 106 ((v.1 0 106) - (1 : Int32))) 0 106 (v.1 0 111)) 0 110 ((v.1 0 110) - (1 : Int32))) 0 115 ((v.1 0 115) - ((v.1 79) ((v.1 109) ((v.1 0 110) - (1 : Int32)).toNatClampNeg).toNatClampNeg))) 0 112 ((v.1 107) ((v.1 0 110) - (1 : Int32)).toNatClampNeg)) 0 111 ((v.1 108) ((v.1 0 110) - (1 : Int32)).toNatClampNeg)) 105 ((v.1 0 111).toNatClampNeg) ((v.1 105) ((v.1 0 106) - (1 : Int32)).toNatClampNeg)) 0 106 ((v.1 0 111) + (1 : Int32))), rfl, ⟨(FG.f (FG.a (FG.f (FG.f (FG.f (FG.f (FG.f (FG.f (FG.rf _) ((v.1 0 106) - (1 : Int32)) (by decide)) (v.1 0 111) (by decide)) ((v.1 0 110) - (1 : Int32)) (by decide)) ((v.1 0 115) - ((v.1 79) ((v.1 109) ((v.1 0 110) - (1 : Int32)).toNatClampNeg).toNatClampNeg)) (by decide)) ((v.1 107) ((v.1 0 110) - (1 : Int32)).toNatClampNeg) (by decide)) ((v.1 108) ((v.1 0 110) - (1 : Int32)).toNatClampNeg) (by decide)) ((v.1 0 111).toNatClampNeg) ((v.1 105) ((v.1 0 106) - (1 : Int32)).toNatClampNeg) (by decide) (by decide)) ((v.1 0 111) + (1 : Int32)) (by decide)), ⟨zbf, (Or.inr (⟨z16, rfl, rfl⟩))⟩, (Or.inr ⟨by decide, fun _ => lv17.1 (by have := nat_z (om_258618eee8 nm9 z5); have := (om_54784b465c nm9 z5 z16); omega)⟩)⟩, by rw [ht9]; exact hP, hD⟩, hS.F ht9⟩) hS.2.2 dX13_leave_89
